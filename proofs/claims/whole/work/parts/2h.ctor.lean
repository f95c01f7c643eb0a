noncomputable def r_X2_init (V : Vk) (k0 : Nat) (a1 : Int32) (a2 : Int32) (g : Hq) : Option (Unit × Hq) :=
  grd (V k0 = some (2, 0)) <| nm (sI g k0 3 (0 : Int32)) fun g2 => nm (sI g2 k0 4 (-1 : Int32)) fun g3 => nm (sI g3 k0 0 a1) fun g4 => nm (sI g4 k0 1 a2) fun g5 => some ((), g5)
set_option maxHeartbeats 4000000 in
set_option maxRecDepth 100000 in
theorem c_X2_init {l : Launch} {D : va_G} {cA : Nat → ClassId} {sk : (Nat → Nat) × (Nat → Nat)} {ad : Nat → Nat} {A : Nat → Prop} {V : Vk} {k0 : Nat} {a1 : Int32} {a2 : Int32} {g g0 : Hq} (hr : r_X2_init V k0 a1 a2 g = some ((), g0)) : Met l yX2_init (wM yX2_init cX2_init 3 none) { frames := 1, cells := 0, slots := 0, locals := 24 } (Pre D cA sk ad (V, g) A [.ref (ad k0), .int a1, .int a2]) (QV D cA ad A (V, g0)) 0 0 A := by
  refine Met.ofW (cc := cX2_init) (maxL := 3) (ret := none) (by decide) rfl ?_
  intro p e s m args below meth c s₁ B hml hv
  obtain ⟨rfl, fx, w0⟩ := hv
  have hts := atoms_spec (ws := wM yX2_init cX2_init 3 none) B.pre
  have cx : CallFix p m c cX2_init 3 s ([.ref (ad k0), .int a1, .int a2] : List Value).toArray gw_tbl RX2 := ⟨B.exec, B.bytes, hml, findClass_of_methodNamed B.named, fun w hw => hts w (List.mem_cons_of_mem _ hw)⟩
  have hlocks := B.notSynchronized
  have hret := B.returns
  have hini : meth.name = "<init>" := (name_of_methodNamed B.named B.method).1
  have hR : 1 ≤ (headSpec (wM yX2_init cX2_init 3 none) { frames := 1, cells := 0, slots := 0, locals := 24 }).room.frames ∧ 24 ≤ (headSpec (wM yX2_init cX2_init 3 none) { frames := 1, cells := 0, slots := 0, locals := 24 }).room.locals := ⟨Nat.le_refl _, Nat.le_refl _⟩
  have dy : Dy D cA ad (V, g) A s.heap s.heap [] := ⟨w0, va_S.rf⟩
  have hl := lv_entry [.ref (ad k0), .int a1, .int a2] (n := 3) (Nat.le_of_ble_eq_true rfl)
  rw [lg_entry_eq]
  generalize (lg_sl [.ref (ad k0), .int a1, .int a2] ++ List.replicate (3 - (lg_sl [.ref (ad k0), .int a1, .int a2]).length) Slot.unset).toArray = ls at hl ⊢
  have hl : lv_has ls 3 [(0, .ref (ad k0)), (1, .int a1), (2, .int a2)] := hl
  have dy0 : ∃ H0, H0 = s.heap ∧ Dy D cA ad (V, g) A s.heap H0 [] := ⟨_, rfl, dy⟩
  obtain ⟨z, ez⟩ : ∃ z, z = (((), g0) : Unit × Hq) := ⟨_, rfl⟩
  rw [← ez] at hr
  have hq0 : ∀ (rb : Unit) (gb : Hq), z = (rb, gb) → gb = g0 := fun rb gb eb => by rw [ez] at eb; exact (congrArg Prod.snd eb).symm
  clear ez w0 dy0
  unfold r_X2_init at hr
  obtain ⟨H, hH⟩ : ∃ H, H = s.heap := ⟨_, rfl⟩
  obtain ⟨locs, hlo⟩ : ∃ q : List Loc, q = [] := ⟨_, rfl⟩
  have dy : Dy D cA ad (V, g) A s.heap H locs := by rw [hH, hlo]; exact dy
  suffices K : W p l e (headSpec (wM yX2_init cX2_init 3 none) { frames := 1, cells := 0, slots := 0, locals := 24 }).room s m ([.ref (ad k0), .int a1, .int a2] : List Value).toArray below meth c H locs 0 0 (MQ below (QV D cA ad A (V, g0)) ([.ref (ad k0), .int a1, .int a2] : List Value).toArray s 0 0 A) (F0 m 0 ls []) by rw [hH, hlo] at K; exact K
  clear hH hlo
  refine lv_aload_n cx.1 cx.2.1 dX2_init_0 rfl (lv_at hl 0 rfl) ?_
  refine W.objInit cx.1 cx.2.1 cx.2.2.2.1 (cx.2.2.2.2 _ tb_736) (cx.2.2.2.2 _ tb_76) (cx.2.2.2.2 _ tb_77) rfl (hl.1.trans cx.2.2.1.symm) rfl dX2_init_1 (Nat.le_trans (by decide) hR.1) (Nat.le_trans (Nat.le_of_ble_eq_true rfl) hR.2) ?_
  refine W.eq (g2 := F0 m 4 ls []) rfl ?_
  refine lv_aload_n cx.1 cx.2.1 dX2_init_4 rfl (lv_at hl 0 rfl) ?_
  refine lv_iconst (v := 0) cx.1 cx.2.1 dX2_init_5 (by decide) ?_
  obtain ⟨hv1, hr⟩ := of_grd hr
  obtain ⟨g2, eg2, hr⟩ := of_nm hr
  refine h_putI cx fx dy fd_2_3 (pd_2_3 : PD _ _ _ _ _ .int) rfl rfl rfl hv1 tb_743 dX2_init_6 (fun H locs dy => ?_)
  replace dy : Dy D cA ad (V, g2) A s.heap H locs := by rw [eg2]; exact dy
  refine lv_aload_n cx.1 cx.2.1 dX2_init_9 rfl (lv_at hl 0 rfl) ?_
  refine lv_iconst (v := (-1)) cx.1 cx.2.1 dX2_init_10 (by decide) ?_
  obtain ⟨g3, eg3, hr⟩ := of_nm hr
  refine h_putI cx fx dy fd_2_4 (pd_2_4 : PD _ _ _ _ _ .int) rfl rfl rfl hv1 tb_745 dX2_init_11 (fun H locs dy => ?_)
  replace dy : Dy D cA ad (V, g3) A s.heap H locs := by rw [eg3]; exact dy
  refine lv_aload_n cx.1 cx.2.1 dX2_init_14 rfl (lv_at hl 0 rfl) ?_
  refine lv_iload_n cx.1 cx.2.1 dX2_init_15 rfl (lv_at hl 1 rfl) ?_
  obtain ⟨g4, eg4, hr⟩ := of_nm hr
  refine h_putIF cx fx dy hini rfl fd_2_0 (pd_2_0 : PD _ _ _ _ _ .int) rfl rfl rfl hv1 tb_737 dX2_init_16 (fun H locs dy => ?_)
  replace dy : Dy D cA ad (V, g4) A s.heap H locs := by rw [eg4]; exact dy
  refine lv_aload_n cx.1 cx.2.1 dX2_init_19 rfl (lv_at hl 0 rfl) ?_
  refine lv_iload_n cx.1 cx.2.1 dX2_init_20 rfl (lv_at hl 2 rfl) ?_
  obtain ⟨g5, eg5, hr⟩ := of_nm hr
  refine h_putIF cx fx dy hini rfl fd_2_1 (pd_2_1 : PD _ _ _ _ _ .int) rfl rfl rfl hv1 tb_739 dX2_init_21 (fun H locs dy => ?_)
  replace dy : Dy D cA ad (V, g5) A s.heap H locs := by rw [eg5]; exact dy
  have e1 := hq0 _ _ (Option.some.inj hr).symm
  exact h_vret cx dy hlocks hret (by rw [e1]) dX2_init_24
noncomputable def r_X0_init (V : Vk) (k0 : Nat) (a1 : Int32) (a2 : Int32) (a3 : Int32) (g : Hq) : Option (Unit × Hq) :=
  grd (V k0 = some (0, 0)) <| nm (sI g k0 3 (0 : Int32)) fun g2 => nm (sI g2 k0 4 (-1 : Int32)) fun g3 => nm (sI g3 k0 0 a1) fun g4 => nm (sI g4 k0 1 a2) fun g5 => nm (sI g5 k0 2 a3) fun g6 => some ((), g6)
set_option maxHeartbeats 4000000 in
set_option maxRecDepth 100000 in
theorem c_X0_init {l : Launch} {D : va_G} {cA : Nat → ClassId} {sk : (Nat → Nat) × (Nat → Nat)} {ad : Nat → Nat} {A : Nat → Prop} {V : Vk} {k0 : Nat} {a1 : Int32} {a2 : Int32} {a3 : Int32} {g g0 : Hq} (hr : r_X0_init V k0 a1 a2 a3 g = some ((), g0)) : Met l yX0_init (wM yX0_init cX0_init 4 none) { frames := 1, cells := 0, slots := 0, locals := 24 } (Pre D cA sk ad (V, g) A [.ref (ad k0), .int a1, .int a2, .int a3]) (QV D cA ad A (V, g0)) 0 0 A := by
  refine Met.ofW (cc := cX0_init) (maxL := 4) (ret := none) (by decide) rfl ?_
  intro p e s m args below meth c s₁ B hml hv
  obtain ⟨rfl, fx, w0⟩ := hv
  have hts := atoms_spec (ws := wM yX0_init cX0_init 4 none) B.pre
  have cx : CallFix p m c cX0_init 4 s ([.ref (ad k0), .int a1, .int a2, .int a3] : List Value).toArray gw_tbl RX0 := ⟨B.exec, B.bytes, hml, findClass_of_methodNamed B.named, fun w hw => hts w (List.mem_cons_of_mem _ hw)⟩
  have hlocks := B.notSynchronized
  have hret := B.returns
  have hini : meth.name = "<init>" := (name_of_methodNamed B.named B.method).1
  have hR : 1 ≤ (headSpec (wM yX0_init cX0_init 4 none) { frames := 1, cells := 0, slots := 0, locals := 24 }).room.frames ∧ 24 ≤ (headSpec (wM yX0_init cX0_init 4 none) { frames := 1, cells := 0, slots := 0, locals := 24 }).room.locals := ⟨Nat.le_refl _, Nat.le_refl _⟩
  have dy : Dy D cA ad (V, g) A s.heap s.heap [] := ⟨w0, va_S.rf⟩
  have hl := lv_entry [.ref (ad k0), .int a1, .int a2, .int a3] (n := 4) (Nat.le_of_ble_eq_true rfl)
  rw [lg_entry_eq]
  generalize (lg_sl [.ref (ad k0), .int a1, .int a2, .int a3] ++ List.replicate (4 - (lg_sl [.ref (ad k0), .int a1, .int a2, .int a3]).length) Slot.unset).toArray = ls at hl ⊢
  have hl : lv_has ls 4 [(0, .ref (ad k0)), (1, .int a1), (2, .int a2), (3, .int a3)] := hl
  have dy0 : ∃ H0, H0 = s.heap ∧ Dy D cA ad (V, g) A s.heap H0 [] := ⟨_, rfl, dy⟩
  obtain ⟨z, ez⟩ : ∃ z, z = (((), g0) : Unit × Hq) := ⟨_, rfl⟩
  rw [← ez] at hr
  have hq0 : ∀ (rb : Unit) (gb : Hq), z = (rb, gb) → gb = g0 := fun rb gb eb => by rw [ez] at eb; exact (congrArg Prod.snd eb).symm
  clear ez w0 dy0
  unfold r_X0_init at hr
  obtain ⟨H, hH⟩ : ∃ H, H = s.heap := ⟨_, rfl⟩
  obtain ⟨locs, hlo⟩ : ∃ q : List Loc, q = [] := ⟨_, rfl⟩
  have dy : Dy D cA ad (V, g) A s.heap H locs := by rw [hH, hlo]; exact dy
  suffices K : W p l e (headSpec (wM yX0_init cX0_init 4 none) { frames := 1, cells := 0, slots := 0, locals := 24 }).room s m ([.ref (ad k0), .int a1, .int a2, .int a3] : List Value).toArray below meth c H locs 0 0 (MQ below (QV D cA ad A (V, g0)) ([.ref (ad k0), .int a1, .int a2, .int a3] : List Value).toArray s 0 0 A) (F0 m 0 ls []) by rw [hH, hlo] at K; exact K
  clear hH hlo
  refine lv_aload_n cx.1 cx.2.1 dX0_init_0 rfl (lv_at hl 0 rfl) ?_
  refine W.objInit cx.1 cx.2.1 cx.2.2.2.1 (cx.2.2.2.2 _ tb_849) (cx.2.2.2.2 _ tb_76) (cx.2.2.2.2 _ tb_77) rfl (hl.1.trans cx.2.2.1.symm) rfl dX0_init_1 (Nat.le_trans (by decide) hR.1) (Nat.le_trans (Nat.le_of_ble_eq_true rfl) hR.2) ?_
  refine W.eq (g2 := F0 m 4 ls []) rfl ?_
  refine lv_aload_n cx.1 cx.2.1 dX0_init_4 rfl (lv_at hl 0 rfl) ?_
  refine lv_iconst (v := 0) cx.1 cx.2.1 dX0_init_5 (by decide) ?_
  obtain ⟨hv1, hr⟩ := of_grd hr
  obtain ⟨g2, eg2, hr⟩ := of_nm hr
  refine h_putI cx fx dy fd_0_3 (pd_0_3 : PD _ _ _ _ _ .int) rfl rfl rfl hv1 tb_856 dX0_init_6 (fun H locs dy => ?_)
  replace dy : Dy D cA ad (V, g2) A s.heap H locs := by rw [eg2]; exact dy
  refine lv_aload_n cx.1 cx.2.1 dX0_init_9 rfl (lv_at hl 0 rfl) ?_
  refine lv_iconst (v := (-1)) cx.1 cx.2.1 dX0_init_10 (by decide) ?_
  obtain ⟨g3, eg3, hr⟩ := of_nm hr
  refine h_putI cx fx dy fd_0_4 (pd_0_4 : PD _ _ _ _ _ .int) rfl rfl rfl hv1 tb_858 dX0_init_11 (fun H locs dy => ?_)
  replace dy : Dy D cA ad (V, g3) A s.heap H locs := by rw [eg3]; exact dy
  refine lv_aload_n cx.1 cx.2.1 dX0_init_14 rfl (lv_at hl 0 rfl) ?_
  refine lv_iload_n cx.1 cx.2.1 dX0_init_15 rfl (lv_at hl 1 rfl) ?_
  obtain ⟨g4, eg4, hr⟩ := of_nm hr
  refine h_putIF cx fx dy hini rfl fd_0_0 (pd_0_0 : PD _ _ _ _ _ .int) rfl rfl rfl hv1 tb_850 dX0_init_16 (fun H locs dy => ?_)
  replace dy : Dy D cA ad (V, g4) A s.heap H locs := by rw [eg4]; exact dy
  refine lv_aload_n cx.1 cx.2.1 dX0_init_19 rfl (lv_at hl 0 rfl) ?_
  refine lv_iload_n cx.1 cx.2.1 dX0_init_20 rfl (lv_at hl 2 rfl) ?_
  obtain ⟨g5, eg5, hr⟩ := of_nm hr
  refine h_putIF cx fx dy hini rfl fd_0_1 (pd_0_1 : PD _ _ _ _ _ .int) rfl rfl rfl hv1 tb_852 dX0_init_21 (fun H locs dy => ?_)
  replace dy : Dy D cA ad (V, g5) A s.heap H locs := by rw [eg5]; exact dy
  refine lv_aload_n cx.1 cx.2.1 dX0_init_24 rfl (lv_at hl 0 rfl) ?_
  refine lv_iload_n cx.1 cx.2.1 dX0_init_25 rfl (lv_at hl 3 rfl) ?_
  obtain ⟨g6, eg6, hr⟩ := of_nm hr
  refine h_putIF cx fx dy hini rfl fd_0_2 (pd_0_2 : PD _ _ _ _ _ .int) rfl rfl rfl hv1 tb_854 dX0_init_26 (fun H locs dy => ?_)
  replace dy : Dy D cA ad (V, g6) A s.heap H locs := by rw [eg6]; exact dy
  have e1 := hq0 _ _ (Option.some.inj hr).symm
  exact h_vret cx dy hlocks hret (by rw [e1]) dX0_init_29
noncomputable def r_X3_init (V : Vk) (k0 : Nat) (a1 : Nat) (g : Hq) : Option (Unit × Hq) :=
  grd (V k0 = some (3, 0)) <| nm (sI g k0 7 (-1 : Int32)) fun g2 => nm (sR g2 k0 0 (some a1)) fun g3 => some ((), g3)
set_option maxHeartbeats 4000000 in
set_option maxRecDepth 100000 in
theorem c_X3_init {l : Launch} {D : va_G} {cA : Nat → ClassId} {sk : (Nat → Nat) × (Nat → Nat)} {ad : Nat → Nat} {A : Nat → Prop} {V : Vk} {k0 : Nat} {a1 : Nat} {g g0 : Hq} (hr : r_X3_init V k0 a1 g = some ((), g0)) : Met l yX3_init (wM yX3_init cX3_init 2 none) { frames := 1, cells := 0, slots := 0, locals := 24 } (Pre D cA sk ad (V, g) A [.ref (ad k0), .ref (ad a1)]) (QV D cA ad A (V, g0)) 0 0 A := by
  refine Met.ofW (cc := cX3_init) (maxL := 2) (ret := none) (by decide) rfl ?_
  intro p e s m args below meth c s₁ B hml hv
  obtain ⟨rfl, fx, w0⟩ := hv
  have hts := atoms_spec (ws := wM yX3_init cX3_init 2 none) B.pre
  have cx : CallFix p m c cX3_init 2 s ([.ref (ad k0), .ref (ad a1)] : List Value).toArray gw_tbl RX3 := ⟨B.exec, B.bytes, hml, findClass_of_methodNamed B.named, fun w hw => hts w (List.mem_cons_of_mem _ hw)⟩
  have hlocks := B.notSynchronized
  have hret := B.returns
  have hini : meth.name = "<init>" := (name_of_methodNamed B.named B.method).1
  have hR : 1 ≤ (headSpec (wM yX3_init cX3_init 2 none) { frames := 1, cells := 0, slots := 0, locals := 24 }).room.frames ∧ 24 ≤ (headSpec (wM yX3_init cX3_init 2 none) { frames := 1, cells := 0, slots := 0, locals := 24 }).room.locals := ⟨Nat.le_refl _, Nat.le_refl _⟩
  have dy : Dy D cA ad (V, g) A s.heap s.heap [] := ⟨w0, va_S.rf⟩
  have hl := lv_entry [.ref (ad k0), .ref (ad a1)] (n := 2) (Nat.le_of_ble_eq_true rfl)
  rw [lg_entry_eq]
  generalize (lg_sl [.ref (ad k0), .ref (ad a1)] ++ List.replicate (2 - (lg_sl [.ref (ad k0), .ref (ad a1)]).length) Slot.unset).toArray = ls at hl ⊢
  have hl : lv_has ls 2 [(0, .ref (ad k0)), (1, .ref (ad a1))] := hl
  have dy0 : ∃ H0, H0 = s.heap ∧ Dy D cA ad (V, g) A s.heap H0 [] := ⟨_, rfl, dy⟩
  obtain ⟨z, ez⟩ : ∃ z, z = (((), g0) : Unit × Hq) := ⟨_, rfl⟩
  rw [← ez] at hr
  have hq0 : ∀ (rb : Unit) (gb : Hq), z = (rb, gb) → gb = g0 := fun rb gb eb => by rw [ez] at eb; exact (congrArg Prod.snd eb).symm
  clear ez w0 dy0
  unfold r_X3_init at hr
  obtain ⟨H, hH⟩ : ∃ H, H = s.heap := ⟨_, rfl⟩
  obtain ⟨locs, hlo⟩ : ∃ q : List Loc, q = [] := ⟨_, rfl⟩
  have dy : Dy D cA ad (V, g) A s.heap H locs := by rw [hH, hlo]; exact dy
  suffices K : W p l e (headSpec (wM yX3_init cX3_init 2 none) { frames := 1, cells := 0, slots := 0, locals := 24 }).room s m ([.ref (ad k0), .ref (ad a1)] : List Value).toArray below meth c H locs 0 0 (MQ below (QV D cA ad A (V, g0)) ([.ref (ad k0), .ref (ad a1)] : List Value).toArray s 0 0 A) (F0 m 0 ls []) by rw [hH, hlo] at K; exact K
  clear hH hlo
  refine lv_aload_n cx.1 cx.2.1 dX3_init_0 rfl (lv_at hl 0 rfl) ?_
  refine W.objInit cx.1 cx.2.1 cx.2.2.2.1 (cx.2.2.2.2 _ tb_174) (cx.2.2.2.2 _ tb_76) (cx.2.2.2.2 _ tb_77) rfl (hl.1.trans cx.2.2.1.symm) rfl dX3_init_1 (Nat.le_trans (by decide) hR.1) (Nat.le_trans (Nat.le_of_ble_eq_true rfl) hR.2) ?_
  refine W.eq (g2 := F0 m 4 ls []) rfl ?_
  refine lv_aload_n cx.1 cx.2.1 dX3_init_4 rfl (lv_at hl 0 rfl) ?_
  refine lv_iconst (v := (-1)) cx.1 cx.2.1 dX3_init_5 (by decide) ?_
  obtain ⟨hv1, hr⟩ := of_grd hr
  obtain ⟨g2, eg2, hr⟩ := of_nm hr
  refine h_putI cx fx dy fd_3_7 (pd_3_7 : PD _ _ _ _ _ .int) rfl rfl rfl hv1 tb_182 dX3_init_6 (fun H locs dy => ?_)
  replace dy : Dy D cA ad (V, g2) A s.heap H locs := by rw [eg2]; exact dy
  refine lv_aload_n cx.1 cx.2.1 dX3_init_9 rfl (lv_at hl 0 rfl) ?_
  refine lv_aload_n cx.1 cx.2.1 dX3_init_10 rfl (lv_at hl 1 rfl) ?_
  obtain ⟨g3, eg3, hr⟩ := of_nm hr
  refine h_putRF cx fx dy hini rfl fd_3_0 (pd_3_0 : PD _ _ _ _ _ (.object "WardWatch$Tape")) rfl rfl rfl hv1 tb_175 dX3_init_11 (fun H locs dy => ?_)
  replace dy : Dy D cA ad (V, g3) A s.heap H locs := by rw [eg3]; exact dy
  have e1 := hq0 _ _ (Option.some.inj hr).symm
  exact h_vret cx dy hlocks hret (by rw [e1]) dX3_init_14
noncomputable def r_X8_init (V : Vk) (k0 : Nat) (g : Hq) : Option (Unit × Vk × Hq) :=
  nm (k0 + 1) fun k1 => grd (frK V g k1) <| grd (k0 ≠ k1) <| nm (newV V k1 (101, 800)) fun V => nm (newG g k1) fun g4 => grd (V k0 = some (8, 0)) <| nm (sR g4 k0 0 (some k1)) fun g8 => some ((), V, g8)
set_option maxHeartbeats 4000000 in
set_option maxRecDepth 100000 in
theorem c_X8_init {l : Launch} {D : va_G} {cA : Nat → ClassId} {sk : (Nat → Nat) × (Nat → Nat)} {ad : Nat → Nat} {A : Nat → Prop} {V : Vk} {k0 : Nat} {g g0 : Hq} {V1 : Vk} (hr : r_X8_init V k0 g = some ((), V1, g0)) : Met l yX8_init (wM yX8_init cX8_init 1 none) { frames := 1, cells := 1, slots := 800, locals := 24 } (Pre D cA sk ad (V, g) A [.ref (ad k0)]) (QVa D cA A V ad V1 g0) 1 800 A := by
  refine Met.ofW (cc := cX8_init) (maxL := 1) (ret := none) (by decide) rfl ?_
  intro p e s m args below meth c s₁ B hml hv
  obtain ⟨hargs, fx, w0⟩ := hv
  have hts := atoms_spec (ws := wM yX8_init cX8_init 1 none) B.pre
  have cx : CallFix p m c cX8_init 1 s args gw_tbl RX8 := ⟨B.exec, B.bytes, hml, findClass_of_methodNamed B.named, fun w hw => hts w (List.mem_cons_of_mem _ hw)⟩
  have hlocks := B.notSynchronized
  have hret := B.returns
  have hini : meth.name = "<init>" := (name_of_methodNamed B.named B.method).1
  have hR : 1 ≤ (headSpec (wM yX8_init cX8_init 1 none) { frames := 1, cells := 1, slots := 800, locals := 24 }).room.frames ∧ 24 ≤ (headSpec (wM yX8_init cX8_init 1 none) { frames := 1, cells := 1, slots := 800, locals := 24 }).room.locals := ⟨Nat.le_refl _, Nat.le_refl _⟩
  have dy : Dy D cA ad (V, g) A s.heap s.heap [] := ⟨w0, va_S.rf⟩
  have hl := lv_entry [.ref (ad k0)] (n := 1) (Nat.le_of_ble_eq_true rfl)
  have hef : entryFrame m args 1 = F0 m 0 ((lg_sl [.ref (ad k0)] ++ List.replicate (1 - (lg_sl [.ref (ad k0)]).length) Slot.unset).toArray) [] := by
    rw [hargs]
    exact lg_entry_eq m [.ref (ad k0)] 1
  rw [hef]
  clear hef hargs
  generalize (lg_sl [.ref (ad k0)] ++ List.replicate (1 - (lg_sl [.ref (ad k0)]).length) Slot.unset).toArray = ls at hl ⊢
  have hl : lv_has ls 1 [(0, .ref (ad k0))] := hl
  have dy0 : ∃ H0, H0 = s.heap ∧ Dy D cA ad (V, g) A s.heap H0 [] := ⟨_, rfl, dy⟩
  obtain ⟨z, ez⟩ : ∃ z : (Unit × Vk × Hq), z = ((), V1, g0) := ⟨_, rfl⟩
  rw [← ez] at hr
  have hq0 : ∀ (rb : Unit) (Vb : Vk) (gb : Hq), z = (rb, Vb, gb) → Vb = V1 ∧ gb = g0 := fun rb Vb gb eb => by rw [ez] at eb; cases eb; exact ⟨rfl, rfl⟩
  have hag : Ag V ad V ad := Ag.rf
  have hC : 1 ≤ (headSpec (wM yX8_init cX8_init 1 none) { frames := 1, cells := 1, slots := 800, locals := 24 }).room.cells ∧ 800 ≤ (headSpec (wM yX8_init cX8_init 1 none) { frames := 1, cells := 1, slots := 800, locals := 24 }).room.slots := ⟨Nat.le_refl _, Nat.le_refl _⟩
  clear ez w0 dy0
  unfold r_X8_init at hr
  obtain ⟨H, hH⟩ : ∃ H, H = s.heap := ⟨_, rfl⟩
  obtain ⟨locs, hlo⟩ : ∃ q : List Loc, q = [] := ⟨_, rfl⟩
  have dy : Dy D cA ad (V, g) A s.heap H locs := by rw [hH, hlo]; exact dy
  suffices K : W p l e (headSpec (wM yX8_init cX8_init 1 none) { frames := 1, cells := 1, slots := 800, locals := 24 }).room s m args below meth c H locs 0 0 (MQ below (QVa D cA A V ad V1 g0) args s 1 800 A) (F0 m 0 ls []) by rw [hH, hlo] at K; exact K
  clear hH hlo
  refine lv_aload_n cx.1 cx.2.1 dX8_init_0 rfl (lv_at hl 0 rfl) ?_
  refine W.objInit cx.1 cx.2.1 cx.2.2.2.1 (cx.2.2.2.2 _ tb_83) (cx.2.2.2.2 _ tb_76) (cx.2.2.2.2 _ tb_77) rfl (hl.1.trans cx.2.2.1.symm) rfl dX8_init_1 (Nat.le_trans (by decide) hR.1) (Nat.le_trans (Nat.le_of_ble_eq_true rfl) hR.2) ?_
  refine W.eq (g2 := F0 m 4 ls []) rfl ?_
  refine lv_aload_n cx.1 cx.2.1 dX8_init_4 rfl (lv_at hl 0 rfl) ?_
  refine lv_sipush (v := 800) cx.1 cx.2.1 dX8_init_5 (by decide) ?_
  obtain ⟨k1, ek1, hr⟩ := of_nm hr
  obtain ⟨hf2, hr⟩ := of_grd hr
  obtain ⟨hn3, hr⟩ := of_grd hr
  obtain ⟨V, eV5, hr⟩ := of_nm hr
  obtain ⟨g4, eg4, hr⟩ := of_nm hr
  refine h_newa (t := 1) (ty := .byte) (at0 := .byte) cx fx dy hf2 (by decide) rfl rfl (fun _ _ h => h) rfl tb_91 (by decide) (by decide : (800 : Int32).toNatClampNeg = 800) (by decide) (Nat.le_trans (by decide) hC.1) (Nat.le_trans (by decide) hC.2) dX8_init_8 (fun ad H hz dy => ?_)
  replace hag := Ag.new (q := (101, 800)) hag hf2.1 hz
  rw [← eV5] at hag
  replace dy : Dy D cA ad (V, g4) A s.heap H locs := by rw [eV5, eg4]; exact dy
  have ea6 := hz k0 hn3
  rw [← ea6] at hl
  rw [← ea6]
  refine W.widen (k := 1) (n := 800) (by decide) (by decide) ?_
  obtain ⟨hv7, hr⟩ := of_grd hr
  obtain ⟨g8, eg8, hr⟩ := of_nm hr
  refine h_putRF cx fx dy hini rfl fd_8_0 (pd_8_0 : PD _ _ _ _ _ (.array .byte)) rfl rfl rfl hv7 tb_84 dX8_init_10 (fun H locs dy => ?_)
  replace dy : Dy D cA ad (V, g8) A s.heap H locs := by rw [eg8]; exact dy
  refine W.widen (k := 1) (n := 800) (by decide) (by decide) ?_
  obtain ⟨e1, e2⟩ := hq0 _ _ _ (Option.some.inj hr).symm
  exact h_vretA cx dy hag hlocks hret e1 e2 dX8_init_13
noncomputable def r_X9_init (V : Vk) (k0 : Nat) (g : Hq) : Option (Unit × Vk × Hq) :=
  nm (k0 + 1) fun k1 => grd (frK V g k1) <| grd (k0 ≠ k1) <| nm (newV V k1 (100, 12)) fun V => nm (newG g k1) fun g4 => grd (V k0 = some (9, 0)) <| nm (sR g4 k0 0 (some k1)) fun g8 => nm (k0 + 2) fun k9 => grd (frK V g8 k9) <| grd (k0 ≠ k9) <| nm (newV V k9 (100, 12)) fun V => nm (newG g8 k9) fun g12 => grd (V k0 = some (9, 0)) <| nm (sR g12 k0 1 (some k9)) fun g16 => nm (k0 + 3) fun k17 => grd (frK V g16 k17) <| grd (k0 ≠ k17) <| nm (newV V k17 (100, 144)) fun V => nm (newG g16 k17) fun g20 => grd (V k0 = some (9, 0)) <| nm (sR g20 k0 2 (some k17)) fun g24 => nm (k0 + 4) fun k25 => grd (frK V g24 k25) <| grd (k0 ≠ k25) <| nm (newV V k25 (100, 144)) fun V => nm (newG g24 k25) fun g28 => grd (V k0 = some (9, 0)) <| nm (sR g28 k0 3 (some k25)) fun g32 => nm (sI g32 k0 4 (1 : Int32)) fun g33 => Option.bind (g33.2.2 k0 1) fun k34 => bnd (r_J7_fill_53178 V k34 (60 : Int32) g33) fun u37 g36 => Option.bind (g36.2.2 k0 2) fun k39 => bnd (r_J7_fill_53178 V k39 (-1 : Int32) g36) fun u42 g41 => some ((), V, g41)
set_option maxHeartbeats 4000000 in
set_option maxRecDepth 100000 in
theorem c_X9_init {l : Launch} {D : va_G} {cA : Nat → ClassId} {sk : (Nat → Nat) × (Nat → Nat)} {ad : Nat → Nat} {A : Nat → Prop} {V : Vk} {k0 : Nat} {g g0 : Hq} {V1 : Vk} (hr : r_X9_init V k0 g = some ((), V1, g0)) : Met l yX9_init (wM yX9_init cX9_init 1 none) { frames := 1, cells := 4, slots := 312, locals := 24 } (Pre D cA sk ad (V, g) A [.ref (ad k0)]) (QVa D cA A V ad V1 g0) 4 312 A := by
  refine Met.ofW (cc := cX9_init) (maxL := 1) (ret := none) (by decide) rfl ?_
  intro p e s m args below meth c s₁ B hml hv
  obtain ⟨hargs, fx, w0⟩ := hv
  have hts := atoms_spec (ws := wM yX9_init cX9_init 1 none) B.pre
  have cx : CallFix p m c cX9_init 1 s args gw_tbl RX9 := ⟨B.exec, B.bytes, hml, findClass_of_methodNamed B.named, fun w hw => hts w (List.mem_cons_of_mem _ hw)⟩
  have hlocks := B.notSynchronized
  have hret := B.returns
  have hini : meth.name = "<init>" := (name_of_methodNamed B.named B.method).1
  have hR : 1 ≤ (headSpec (wM yX9_init cX9_init 1 none) { frames := 1, cells := 4, slots := 312, locals := 24 }).room.frames ∧ 24 ≤ (headSpec (wM yX9_init cX9_init 1 none) { frames := 1, cells := 4, slots := 312, locals := 24 }).room.locals := ⟨Nat.le_refl _, Nat.le_refl _⟩
  have dy : Dy D cA ad (V, g) A s.heap s.heap [] := ⟨w0, va_S.rf⟩
  have hl := lv_entry [.ref (ad k0)] (n := 1) (Nat.le_of_ble_eq_true rfl)
  have hef : entryFrame m args 1 = F0 m 0 ((lg_sl [.ref (ad k0)] ++ List.replicate (1 - (lg_sl [.ref (ad k0)]).length) Slot.unset).toArray) [] := by
    rw [hargs]
    exact lg_entry_eq m [.ref (ad k0)] 1
  rw [hef]
  clear hef hargs
  generalize (lg_sl [.ref (ad k0)] ++ List.replicate (1 - (lg_sl [.ref (ad k0)]).length) Slot.unset).toArray = ls at hl ⊢
  have hl : lv_has ls 1 [(0, .ref (ad k0))] := hl
  have dy0 : ∃ H0, H0 = s.heap ∧ Dy D cA ad (V, g) A s.heap H0 [] := ⟨_, rfl, dy⟩
  obtain ⟨z, ez⟩ : ∃ z : (Unit × Vk × Hq), z = ((), V1, g0) := ⟨_, rfl⟩
  rw [← ez] at hr
  have hq0 : ∀ (rb : Unit) (Vb : Vk) (gb : Hq), z = (rb, Vb, gb) → Vb = V1 ∧ gb = g0 := fun rb Vb gb eb => by rw [ez] at eb; cases eb; exact ⟨rfl, rfl⟩
  have hag : Ag V ad V ad := Ag.rf
  have hC : 4 ≤ (headSpec (wM yX9_init cX9_init 1 none) { frames := 1, cells := 4, slots := 312, locals := 24 }).room.cells ∧ 312 ≤ (headSpec (wM yX9_init cX9_init 1 none) { frames := 1, cells := 4, slots := 312, locals := 24 }).room.slots := ⟨Nat.le_refl _, Nat.le_refl _⟩
  clear ez w0 dy0
  unfold r_X9_init at hr
  obtain ⟨H, hH⟩ : ∃ H, H = s.heap := ⟨_, rfl⟩
  obtain ⟨locs, hlo⟩ : ∃ q : List Loc, q = [] := ⟨_, rfl⟩
  have dy : Dy D cA ad (V, g) A s.heap H locs := by rw [hH, hlo]; exact dy
  suffices K : W p l e (headSpec (wM yX9_init cX9_init 1 none) { frames := 1, cells := 4, slots := 312, locals := 24 }).room s m args below meth c H locs 0 0 (MQ below (QVa D cA A V ad V1 g0) args s 4 312 A) (F0 m 0 ls []) by rw [hH, hlo] at K; exact K
  clear hH hlo
  refine lv_aload_n cx.1 cx.2.1 dX9_init_0 rfl (lv_at hl 0 rfl) ?_
  refine W.objInit cx.1 cx.2.1 cx.2.2.2.1 (cx.2.2.2.2 _ tb_97) (cx.2.2.2.2 _ tb_76) (cx.2.2.2.2 _ tb_77) rfl (hl.1.trans cx.2.2.1.symm) rfl dX9_init_1 (Nat.le_trans (by decide) hR.1) (Nat.le_trans (Nat.le_of_ble_eq_true rfl) hR.2) ?_
  refine W.eq (g2 := F0 m 4 ls []) rfl ?_
  refine lv_aload_n cx.1 cx.2.1 dX9_init_4 rfl (lv_at hl 0 rfl) ?_
  refine lv_bipush (v := 12) cx.1 cx.2.1 dX9_init_5 (by decide) ?_
  obtain ⟨k1, ek1, hr⟩ := of_nm hr
  obtain ⟨hf2, hr⟩ := of_grd hr
  obtain ⟨hn3, hr⟩ := of_grd hr
  obtain ⟨V, eV5, hr⟩ := of_nm hr
  obtain ⟨g4, eg4, hr⟩ := of_nm hr
  refine h_newa (t := 0) (ty := .int) (at0 := .int) cx fx dy hf2 (by decide) rfl rfl (fun _ _ h => h) rfl tb_117 (by decide) (by decide : (12 : Int32).toNatClampNeg = 12) (by decide) (Nat.le_trans (by decide) hC.1) (Nat.le_trans (by decide) hC.2) dX9_init_7 (fun ad H hz dy => ?_)
  replace hag := Ag.new (q := (100, 12)) hag hf2.1 hz
  rw [← eV5] at hag
  replace dy : Dy D cA ad (V, g4) A s.heap H locs := by rw [eV5, eg4]; exact dy
  have ea6 := hz k0 hn3
  rw [← ea6] at hl
  rw [← ea6]
  refine W.widen (k := 1) (n := 12) (by decide) (by decide) ?_
  obtain ⟨hv7, hr⟩ := of_grd hr
  obtain ⟨g8, eg8, hr⟩ := of_nm hr
  refine h_putRF cx fx dy hini rfl fd_9_0 (pd_9_0 : PD _ _ _ _ _ (.array .int)) rfl rfl rfl hv7 tb_101 dX9_init_9 (fun H locs dy => ?_)
  replace dy : Dy D cA ad (V, g8) A s.heap H locs := by rw [eg8]; exact dy
  refine lv_aload_n cx.1 cx.2.1 dX9_init_12 rfl (lv_at hl 0 rfl) ?_
  refine lv_bipush (v := 12) cx.1 cx.2.1 dX9_init_13 (by decide) ?_
  obtain ⟨k9, ek9, hr⟩ := of_nm hr
  obtain ⟨hf10, hr⟩ := of_grd hr
  obtain ⟨hn11, hr⟩ := of_grd hr
  obtain ⟨V, eV13, hr⟩ := of_nm hr
  obtain ⟨g12, eg12, hr⟩ := of_nm hr
  refine h_newa (t := 0) (ty := .int) (at0 := .int) cx fx dy hf10 (by decide) rfl rfl (fun _ _ h => h) rfl tb_117 (by decide) (by decide : (12 : Int32).toNatClampNeg = 12) (by decide) (Nat.le_trans (by decide) hC.1) (Nat.le_trans (by decide) hC.2) dX9_init_15 (fun ad H hz dy => ?_)
  replace hag := Ag.new (q := (100, 12)) hag hf10.1 hz
  rw [← eV13] at hag
  replace dy : Dy D cA ad (V, g12) A s.heap H locs := by rw [eV13, eg12]; exact dy
  have ea14 := hz k0 hn11
  rw [← ea14] at hl
  rw [← ea14]
  refine W.widen (k := 2) (n := 24) (by decide) (by decide) ?_
  obtain ⟨hv15, hr⟩ := of_grd hr
  obtain ⟨g16, eg16, hr⟩ := of_nm hr
  refine h_putRF cx fx dy hini rfl fd_9_1 (pd_9_1 : PD _ _ _ _ _ (.array .int)) rfl rfl rfl hv15 tb_102 dX9_init_17 (fun H locs dy => ?_)
  replace dy : Dy D cA ad (V, g16) A s.heap H locs := by rw [eg16]; exact dy
  refine lv_aload_n cx.1 cx.2.1 dX9_init_20 rfl (lv_at hl 0 rfl) ?_
  refine lv_sipush (v := 144) cx.1 cx.2.1 dX9_init_21 (by decide) ?_
  obtain ⟨k17, ek17, hr⟩ := of_nm hr
  obtain ⟨hf18, hr⟩ := of_grd hr
  obtain ⟨hn19, hr⟩ := of_grd hr
  obtain ⟨V, eV21, hr⟩ := of_nm hr
  obtain ⟨g20, eg20, hr⟩ := of_nm hr
  refine h_newa (t := 0) (ty := .int) (at0 := .int) cx fx dy hf18 (by decide) rfl rfl (fun _ _ h => h) rfl tb_117 (by decide) (by decide : (144 : Int32).toNatClampNeg = 144) (by decide) (Nat.le_trans (by decide) hC.1) (Nat.le_trans (by decide) hC.2) dX9_init_24 (fun ad H hz dy => ?_)
  replace hag := Ag.new (q := (100, 144)) hag hf18.1 hz
  rw [← eV21] at hag
  replace dy : Dy D cA ad (V, g20) A s.heap H locs := by rw [eV21, eg20]; exact dy
  have ea22 := hz k0 hn19
  rw [← ea22] at hl
  rw [← ea22]
  refine W.widen (k := 3) (n := 168) (by decide) (by decide) ?_
  obtain ⟨hv23, hr⟩ := of_grd hr
  obtain ⟨g24, eg24, hr⟩ := of_nm hr
  refine h_putRF cx fx dy hini rfl fd_9_2 (pd_9_2 : PD _ _ _ _ _ (.array .int)) rfl rfl rfl hv23 tb_103 dX9_init_26 (fun H locs dy => ?_)
  replace dy : Dy D cA ad (V, g24) A s.heap H locs := by rw [eg24]; exact dy
  refine lv_aload_n cx.1 cx.2.1 dX9_init_29 rfl (lv_at hl 0 rfl) ?_
  refine lv_sipush (v := 144) cx.1 cx.2.1 dX9_init_30 (by decide) ?_
  obtain ⟨k25, ek25, hr⟩ := of_nm hr
  obtain ⟨hf26, hr⟩ := of_grd hr
  obtain ⟨hn27, hr⟩ := of_grd hr
  obtain ⟨V, eV29, hr⟩ := of_nm hr
  obtain ⟨g28, eg28, hr⟩ := of_nm hr
  refine h_newa (t := 0) (ty := .int) (at0 := .int) cx fx dy hf26 (by decide) rfl rfl (fun _ _ h => h) rfl tb_117 (by decide) (by decide : (144 : Int32).toNatClampNeg = 144) (by decide) (Nat.le_trans (by decide) hC.1) (Nat.le_trans (by decide) hC.2) dX9_init_33 (fun ad H hz dy => ?_)
  replace hag := Ag.new (q := (100, 144)) hag hf26.1 hz
  rw [← eV29] at hag
  replace dy : Dy D cA ad (V, g28) A s.heap H locs := by rw [eV29, eg28]; exact dy
  have ea30 := hz k0 hn27
  rw [← ea30] at hl
  rw [← ea30]
  refine W.widen (k := 4) (n := 312) (by decide) (by decide) ?_
  obtain ⟨hv31, hr⟩ := of_grd hr
  obtain ⟨g32, eg32, hr⟩ := of_nm hr
  refine h_putRF cx fx dy hini rfl fd_9_3 (pd_9_3 : PD _ _ _ _ _ (.array .int)) rfl rfl rfl hv31 tb_104 dX9_init_35 (fun H locs dy => ?_)
  replace dy : Dy D cA ad (V, g32) A s.heap H locs := by rw [eg32]; exact dy
  refine lv_aload_n cx.1 cx.2.1 dX9_init_38 rfl (lv_at hl 0 rfl) ?_
  refine lv_iconst (v := 1) cx.1 cx.2.1 dX9_init_39 (by decide) ?_
  obtain ⟨g33, eg33, hr⟩ := of_nm hr
  refine h_putI cx fx dy fd_9_4 (pd_9_4 : PD _ _ _ _ _ .boolean) rfl rfl rfl hv31 tb_105 dX9_init_40 (fun H locs dy => ?_)
  replace dy : Dy D cA ad (V, g33) A s.heap H locs := by rw [eg33]; exact dy
  refine lv_aload_n cx.1 cx.2.1 dX9_init_43 rfl (lv_at hl 0 rfl) ?_
  obtain ⟨k34, hf35, hr⟩ := of_bnd hr
  refine h_getR cx fx dy fd_9_1 hv31 tb_102 hf35 dX9_init_44 ?_
  refine lv_bipush (v := 60) cx.1 cx.2.1 dX9_init_47 (by decide) ?_
  obtain ⟨u37, g36, hc38, hr⟩ := of_bnd2 hr
  refine r_v dy (k_S (As := [.ref (ad k34), .int (60 : Int32)]) cx fx dy (c_J7_fill_53178 hc38) mv_J7_fill_53178 rfl rfl ⟨Nat.le_trans (by decide) hR.1, Nat.le_trans (by decide) hR.2⟩ tb_98 rfl hl.1 rfl (Nat.le_of_ble_eq_true rfl) ⟨Nat.le_trans (by decide) hC.1, Nat.le_trans (by decide) hC.2⟩ dX9_init_49) (fun H locs dy => ?_)
  refine lv_aload_n cx.1 cx.2.1 dX9_init_52 rfl (lv_at hl 0 rfl) ?_
  obtain ⟨k39, hf40, hr⟩ := of_bnd hr
  refine h_getR cx fx dy fd_9_2 hv31 tb_103 hf40 dX9_init_53 ?_
  refine lv_iconst (v := (-1)) cx.1 cx.2.1 dX9_init_56 (by decide) ?_
  obtain ⟨u42, g41, hc43, hr⟩ := of_bnd2 hr
  refine r_v dy (k_S (As := [.ref (ad k39), .int (-1 : Int32)]) cx fx dy (c_J7_fill_53178 hc43) mv_J7_fill_53178 rfl rfl ⟨Nat.le_trans (by decide) hR.1, Nat.le_trans (by decide) hR.2⟩ tb_98 rfl hl.1 rfl (Nat.le_of_ble_eq_true rfl) ⟨Nat.le_trans (by decide) hC.1, Nat.le_trans (by decide) hC.2⟩ dX9_init_57) (fun H locs dy => ?_)
  refine W.widen (k := 4) (n := 312) (by decide) (by decide) ?_
  obtain ⟨e1, e2⟩ := hq0 _ _ _ (Option.some.inj hr).symm
  exact h_vretA cx dy hag hlocks hret e1 e2 dX9_init_60
noncomputable def r_X4_init (V : Vk) (k0 : Nat) (g : Hq) : Option (Unit × Vk × Hq) :=
  nm (k0 + 1) fun k1 => grd (frK V g k1) <| grd (k0 ≠ k1) <| nm (newV V k1 (100, 12)) fun V => nm (newG g k1) fun g4 => grd (V k0 = some (4, 0)) <| nm (sR g4 k0 9 (some k1)) fun g8 => nm (k0 + 2) fun k9 => grd (frK V g8 k9) <| grd (k0 ≠ k9) <| nm (newV V k9 (100, 12)) fun V => nm (newG g8 k9) fun g12 => grd (V k0 = some (4, 0)) <| nm (sR g12 k0 10 (some k9)) fun g16 => nm (k0 + 3) fun k17 => grd (frK V g16 k17) <| grd (k0 ≠ k17) <| nm (newV V k17 (100, 12)) fun V => nm (newG g16 k17) fun g20 => grd (V k0 = some (4, 0)) <| nm (sR g20 k0 11 (some k17)) fun g24 => nm (k0 + 4) fun k25 => grd (frK V g24 k25) <| grd (k0 ≠ k25) <| nm (newV V k25 (102, 12)) fun V => nm (newG g24 k25) fun g28 => grd (V k0 = some (4, 0)) <| nm (sR g28 k0 12 (some k25)) fun g32 => bnd (r_X4_forget V k0 g32) fun u34 g33 => some ((), V, g33)
set_option maxHeartbeats 4000000 in
set_option maxRecDepth 100000 in
theorem c_X4_init {l : Launch} {D : va_G} {cA : Nat → ClassId} {sk : (Nat → Nat) × (Nat → Nat)} {ad : Nat → Nat} {A : Nat → Prop} {V : Vk} {k0 : Nat} {g g0 : Hq} {V1 : Vk} (hr : r_X4_init V k0 g = some ((), V1, g0)) : Met l yX4_init (wM yX4_init cX4_init 1 none) { frames := 1, cells := 4, slots := 48, locals := 24 } (Pre D cA sk ad (V, g) A [.ref (ad k0)]) (QVa D cA A V ad V1 g0) 4 48 A := by
  refine Met.ofW (cc := cX4_init) (maxL := 1) (ret := none) (by decide) rfl ?_
  intro p e s m args below meth c s₁ B hml hv
  obtain ⟨hargs, fx, w0⟩ := hv
  have hts := atoms_spec (ws := wM yX4_init cX4_init 1 none) B.pre
  have cx : CallFix p m c cX4_init 1 s args gw_tbl RX4 := ⟨B.exec, B.bytes, hml, findClass_of_methodNamed B.named, fun w hw => hts w (List.mem_cons_of_mem _ hw)⟩
  have hlocks := B.notSynchronized
  have hret := B.returns
  have hini : meth.name = "<init>" := (name_of_methodNamed B.named B.method).1
  have hR : 1 ≤ (headSpec (wM yX4_init cX4_init 1 none) { frames := 1, cells := 4, slots := 48, locals := 24 }).room.frames ∧ 24 ≤ (headSpec (wM yX4_init cX4_init 1 none) { frames := 1, cells := 4, slots := 48, locals := 24 }).room.locals := ⟨Nat.le_refl _, Nat.le_refl _⟩
  have dy : Dy D cA ad (V, g) A s.heap s.heap [] := ⟨w0, va_S.rf⟩
  have hl := lv_entry [.ref (ad k0)] (n := 1) (Nat.le_of_ble_eq_true rfl)
  have hef : entryFrame m args 1 = F0 m 0 ((lg_sl [.ref (ad k0)] ++ List.replicate (1 - (lg_sl [.ref (ad k0)]).length) Slot.unset).toArray) [] := by
    rw [hargs]
    exact lg_entry_eq m [.ref (ad k0)] 1
  rw [hef]
  clear hef hargs
  generalize (lg_sl [.ref (ad k0)] ++ List.replicate (1 - (lg_sl [.ref (ad k0)]).length) Slot.unset).toArray = ls at hl ⊢
  have hl : lv_has ls 1 [(0, .ref (ad k0))] := hl
  have dy0 : ∃ H0, H0 = s.heap ∧ Dy D cA ad (V, g) A s.heap H0 [] := ⟨_, rfl, dy⟩
  obtain ⟨z, ez⟩ : ∃ z : (Unit × Vk × Hq), z = ((), V1, g0) := ⟨_, rfl⟩
  rw [← ez] at hr
  have hq0 : ∀ (rb : Unit) (Vb : Vk) (gb : Hq), z = (rb, Vb, gb) → Vb = V1 ∧ gb = g0 := fun rb Vb gb eb => by rw [ez] at eb; cases eb; exact ⟨rfl, rfl⟩
  have hag : Ag V ad V ad := Ag.rf
  have hC : 4 ≤ (headSpec (wM yX4_init cX4_init 1 none) { frames := 1, cells := 4, slots := 48, locals := 24 }).room.cells ∧ 48 ≤ (headSpec (wM yX4_init cX4_init 1 none) { frames := 1, cells := 4, slots := 48, locals := 24 }).room.slots := ⟨Nat.le_refl _, Nat.le_refl _⟩
  clear ez w0 dy0
  unfold r_X4_init at hr
  obtain ⟨H, hH⟩ : ∃ H, H = s.heap := ⟨_, rfl⟩
  obtain ⟨locs, hlo⟩ : ∃ q : List Loc, q = [] := ⟨_, rfl⟩
  have dy : Dy D cA ad (V, g) A s.heap H locs := by rw [hH, hlo]; exact dy
  suffices K : W p l e (headSpec (wM yX4_init cX4_init 1 none) { frames := 1, cells := 4, slots := 48, locals := 24 }).room s m args below meth c H locs 0 0 (MQ below (QVa D cA A V ad V1 g0) args s 4 48 A) (F0 m 0 ls []) by rw [hH, hlo] at K; exact K
  clear hH hlo
  refine lv_aload_n cx.1 cx.2.1 dX4_init_0 rfl (lv_at hl 0 rfl) ?_
  refine W.objInit cx.1 cx.2.1 cx.2.2.2.1 (cx.2.2.2.2 _ tb_256) (cx.2.2.2.2 _ tb_76) (cx.2.2.2.2 _ tb_77) rfl (hl.1.trans cx.2.2.1.symm) rfl dX4_init_1 (Nat.le_trans (by decide) hR.1) (Nat.le_trans (Nat.le_of_ble_eq_true rfl) hR.2) ?_
  refine W.eq (g2 := F0 m 4 ls []) rfl ?_
  refine lv_aload_n cx.1 cx.2.1 dX4_init_4 rfl (lv_at hl 0 rfl) ?_
  refine lv_bipush (v := 12) cx.1 cx.2.1 dX4_init_5 (by decide) ?_
  obtain ⟨k1, ek1, hr⟩ := of_nm hr
  obtain ⟨hf2, hr⟩ := of_grd hr
  obtain ⟨hn3, hr⟩ := of_grd hr
  obtain ⟨V, eV5, hr⟩ := of_nm hr
  obtain ⟨g4, eg4, hr⟩ := of_nm hr
  refine h_newa (t := 0) (ty := .int) (at0 := .int) cx fx dy hf2 (by decide) rfl rfl (fun _ _ h => h) rfl tb_117 (by decide) (by decide : (12 : Int32).toNatClampNeg = 12) (by decide) (Nat.le_trans (by decide) hC.1) (Nat.le_trans (by decide) hC.2) dX4_init_7 (fun ad H hz dy => ?_)
  replace hag := Ag.new (q := (100, 12)) hag hf2.1 hz
  rw [← eV5] at hag
  replace dy : Dy D cA ad (V, g4) A s.heap H locs := by rw [eV5, eg4]; exact dy
  have ea6 := hz k0 hn3
  rw [← ea6] at hl
  rw [← ea6]
  refine W.widen (k := 1) (n := 12) (by decide) (by decide) ?_
  obtain ⟨hv7, hr⟩ := of_grd hr
  obtain ⟨g8, eg8, hr⟩ := of_nm hr
  refine h_putRF cx fx dy hini rfl fd_4_9 (pd_4_9 : PD _ _ _ _ _ (.array .int)) rfl rfl rfl hv7 tb_288 dX4_init_9 (fun H locs dy => ?_)
  replace dy : Dy D cA ad (V, g8) A s.heap H locs := by rw [eg8]; exact dy
  refine lv_aload_n cx.1 cx.2.1 dX4_init_12 rfl (lv_at hl 0 rfl) ?_
  refine lv_bipush (v := 12) cx.1 cx.2.1 dX4_init_13 (by decide) ?_
  obtain ⟨k9, ek9, hr⟩ := of_nm hr
  obtain ⟨hf10, hr⟩ := of_grd hr
  obtain ⟨hn11, hr⟩ := of_grd hr
  obtain ⟨V, eV13, hr⟩ := of_nm hr
  obtain ⟨g12, eg12, hr⟩ := of_nm hr
  refine h_newa (t := 0) (ty := .int) (at0 := .int) cx fx dy hf10 (by decide) rfl rfl (fun _ _ h => h) rfl tb_117 (by decide) (by decide : (12 : Int32).toNatClampNeg = 12) (by decide) (Nat.le_trans (by decide) hC.1) (Nat.le_trans (by decide) hC.2) dX4_init_15 (fun ad H hz dy => ?_)
  replace hag := Ag.new (q := (100, 12)) hag hf10.1 hz
  rw [← eV13] at hag
  replace dy : Dy D cA ad (V, g12) A s.heap H locs := by rw [eV13, eg12]; exact dy
  have ea14 := hz k0 hn11
  rw [← ea14] at hl
  rw [← ea14]
  refine W.widen (k := 2) (n := 24) (by decide) (by decide) ?_
  obtain ⟨hv15, hr⟩ := of_grd hr
  obtain ⟨g16, eg16, hr⟩ := of_nm hr
  refine h_putRF cx fx dy hini rfl fd_4_10 (pd_4_10 : PD _ _ _ _ _ (.array .int)) rfl rfl rfl hv15 tb_289 dX4_init_17 (fun H locs dy => ?_)
  replace dy : Dy D cA ad (V, g16) A s.heap H locs := by rw [eg16]; exact dy
  refine lv_aload_n cx.1 cx.2.1 dX4_init_20 rfl (lv_at hl 0 rfl) ?_
  refine lv_bipush (v := 12) cx.1 cx.2.1 dX4_init_21 (by decide) ?_
  obtain ⟨k17, ek17, hr⟩ := of_nm hr
  obtain ⟨hf18, hr⟩ := of_grd hr
  obtain ⟨hn19, hr⟩ := of_grd hr
  obtain ⟨V, eV21, hr⟩ := of_nm hr
  obtain ⟨g20, eg20, hr⟩ := of_nm hr
  refine h_newa (t := 0) (ty := .int) (at0 := .int) cx fx dy hf18 (by decide) rfl rfl (fun _ _ h => h) rfl tb_117 (by decide) (by decide : (12 : Int32).toNatClampNeg = 12) (by decide) (Nat.le_trans (by decide) hC.1) (Nat.le_trans (by decide) hC.2) dX4_init_23 (fun ad H hz dy => ?_)
  replace hag := Ag.new (q := (100, 12)) hag hf18.1 hz
  rw [← eV21] at hag
  replace dy : Dy D cA ad (V, g20) A s.heap H locs := by rw [eV21, eg20]; exact dy
  have ea22 := hz k0 hn19
  rw [← ea22] at hl
  rw [← ea22]
  refine W.widen (k := 3) (n := 36) (by decide) (by decide) ?_
  obtain ⟨hv23, hr⟩ := of_grd hr
  obtain ⟨g24, eg24, hr⟩ := of_nm hr
  refine h_putRF cx fx dy hini rfl fd_4_11 (pd_4_11 : PD _ _ _ _ _ (.array .int)) rfl rfl rfl hv23 tb_290 dX4_init_25 (fun H locs dy => ?_)
  replace dy : Dy D cA ad (V, g24) A s.heap H locs := by rw [eg24]; exact dy
  refine lv_aload_n cx.1 cx.2.1 dX4_init_28 rfl (lv_at hl 0 rfl) ?_
  refine lv_bipush (v := 12) cx.1 cx.2.1 dX4_init_29 (by decide) ?_
  obtain ⟨k25, ek25, hr⟩ := of_nm hr
  obtain ⟨hf26, hr⟩ := of_grd hr
  obtain ⟨hn27, hr⟩ := of_grd hr
  obtain ⟨V, eV29, hr⟩ := of_nm hr
  obtain ⟨g28, eg28, hr⟩ := of_nm hr
  refine h_newa (t := 2) (ty := .boolean) (at0 := .boolean) cx fx dy hf26 (by decide) rfl rfl (fun _ _ h => h) rfl tb_319 (by decide) (by decide : (12 : Int32).toNatClampNeg = 12) (by decide) (Nat.le_trans (by decide) hC.1) (Nat.le_trans (by decide) hC.2) dX4_init_31 (fun ad H hz dy => ?_)
  replace hag := Ag.new (q := (102, 12)) hag hf26.1 hz
  rw [← eV29] at hag
  replace dy : Dy D cA ad (V, g28) A s.heap H locs := by rw [eV29, eg28]; exact dy
  have ea30 := hz k0 hn27
  rw [← ea30] at hl
  rw [← ea30]
  refine W.widen (k := 4) (n := 48) (by decide) (by decide) ?_
  obtain ⟨hv31, hr⟩ := of_grd hr
  obtain ⟨g32, eg32, hr⟩ := of_nm hr
  refine h_putRF cx fx dy hini rfl fd_4_12 (pd_4_12 : PD _ _ _ _ _ (.array .boolean)) rfl rfl rfl hv31 tb_291 dX4_init_33 (fun H locs dy => ?_)
  replace dy : Dy D cA ad (V, g32) A s.heap H locs := by rw [eg32]; exact dy
  refine lv_aload_n cx.1 cx.2.1 dX4_init_36 rfl (lv_at hl 0 rfl) ?_
  obtain ⟨u34, g33, hc35, hr⟩ := of_bnd2 hr
  refine r_v dy (k_V (As := []) (b := k0) (ci := 4) cx fx dy (c_X4_forget hc35) mv_X4_forget rfl rfl ⟨Nat.le_trans (by decide) hR.1, Nat.le_trans (by decide) hR.2⟩ tb_257 hv31 rfl (by decide) rfl hl.1 rfl (Nat.le_of_ble_eq_true rfl) ⟨Nat.le_trans (by decide) hC.1, Nat.le_trans (by decide) hC.2⟩ dX4_init_37) (fun H locs dy => ?_)
  refine W.widen (k := 4) (n := 48) (by decide) (by decide) ?_
  obtain ⟨e1, e2⟩ := hq0 _ _ _ (Option.some.inj hr).symm
  exact h_vretA cx dy hag hlocks hret e1 e2 dX4_init_40
noncomputable def r_X10_init (V : Vk) (k0 : Nat) (g : Hq) : Option (Unit × Vk × Hq) :=
  nm (k0 + 1) fun k1 => grd (frK V g k1) <| grd (k0 ≠ k1) <| nm (newV V k1 (4, 0)) fun V => nm (newG g k1) fun g4 => grd (V k0 ≠ none) <| grd (V k1 ≠ none) <| bna (r_X4_init V k1 g4) fun u10 V g9 => grd (V k0 = some (10, 0)) <| nm (sR g9 k0 0 (some k1)) fun g15 => nm (sI g15 k0 3 (-1 : Int32)) fun g16 => nm (sI g16 k0 4 (-1 : Int32)) fun g17 => nm (sI g17 k0 5 (-1 : Int32)) fun g18 => nm (k0 + 6) fun k19 => grd (frK V g18 k19) <| grd (k0 ≠ k19) <| nm (newV V k19 (100, 200)) fun V => nm (newG g18 k19) fun g22 => grd (V k0 = some (10, 0)) <| nm (sR g22 k0 6 (some k19)) fun g26 => nm (k0 + 7) fun k27 => grd (frK V g26 k27) <| grd (k0 ≠ k27) <| nm (newV V k27 (102, 200)) fun V => nm (newG g26 k27) fun g30 => grd (V k0 = some (10, 0)) <| nm (sR g30 k0 7 (some k27)) fun g34 => nm (k0 + 8) fun k35 => grd (frK V g34 k35) <| grd (k0 ≠ k35) <| nm (newV V k35 (100, 200)) fun V => nm (newG g34 k35) fun g38 => grd (V k0 = some (10, 0)) <| nm (sR g38 k0 8 (some k35)) fun g42 => some ((), V, g42)
set_option maxHeartbeats 4000000 in
set_option maxRecDepth 100000 in
theorem c_X10_init {l : Launch} {D : va_G} {cA : Nat → ClassId} {sk : (Nat → Nat) × (Nat → Nat)} {ad : Nat → Nat} {A : Nat → Prop} {V : Vk} {k0 : Nat} {g g0 : Hq} {V1 : Vk} (hr : r_X10_init V k0 g = some ((), V1, g0)) : Met l yX10_init (wM yX10_init cX10_init 1 none) { frames := 2, cells := 8, slots := 661, locals := 44 } (Pre D cA sk ad (V, g) A [.ref (ad k0)]) (QVa D cA A V ad V1 g0) 8 661 A := by
  refine Met.ofW (cc := cX10_init) (maxL := 1) (ret := none) (by decide) rfl ?_
  intro p e s m args below meth c s₁ B hml hv
  obtain ⟨hargs, fx, w0⟩ := hv
  have hts := atoms_spec (ws := wM yX10_init cX10_init 1 none) B.pre
  have cx : CallFix p m c cX10_init 1 s args gw_tbl RX10 := ⟨B.exec, B.bytes, hml, findClass_of_methodNamed B.named, fun w hw => hts w (List.mem_cons_of_mem _ hw)⟩
  have hlocks := B.notSynchronized
  have hret := B.returns
  have hini : meth.name = "<init>" := (name_of_methodNamed B.named B.method).1
  have hR : 2 ≤ (headSpec (wM yX10_init cX10_init 1 none) { frames := 2, cells := 8, slots := 661, locals := 44 }).room.frames ∧ 44 ≤ (headSpec (wM yX10_init cX10_init 1 none) { frames := 2, cells := 8, slots := 661, locals := 44 }).room.locals := ⟨Nat.le_refl _, Nat.le_refl _⟩
  have dy : Dy D cA ad (V, g) A s.heap s.heap [] := ⟨w0, va_S.rf⟩
  have hl := lv_entry [.ref (ad k0)] (n := 1) (Nat.le_of_ble_eq_true rfl)
  have hef : entryFrame m args 1 = F0 m 0 ((lg_sl [.ref (ad k0)] ++ List.replicate (1 - (lg_sl [.ref (ad k0)]).length) Slot.unset).toArray) [] := by
    rw [hargs]
    exact lg_entry_eq m [.ref (ad k0)] 1
  rw [hef]
  clear hef hargs
  generalize (lg_sl [.ref (ad k0)] ++ List.replicate (1 - (lg_sl [.ref (ad k0)]).length) Slot.unset).toArray = ls at hl ⊢
  have hl : lv_has ls 1 [(0, .ref (ad k0))] := hl
  have dy0 : ∃ H0, H0 = s.heap ∧ Dy D cA ad (V, g) A s.heap H0 [] := ⟨_, rfl, dy⟩
  obtain ⟨z, ez⟩ : ∃ z : (Unit × Vk × Hq), z = ((), V1, g0) := ⟨_, rfl⟩
  rw [← ez] at hr
  have hq0 : ∀ (rb : Unit) (Vb : Vk) (gb : Hq), z = (rb, Vb, gb) → Vb = V1 ∧ gb = g0 := fun rb Vb gb eb => by rw [ez] at eb; cases eb; exact ⟨rfl, rfl⟩
  have hag : Ag V ad V ad := Ag.rf
  have hC : 8 ≤ (headSpec (wM yX10_init cX10_init 1 none) { frames := 2, cells := 8, slots := 661, locals := 44 }).room.cells ∧ 661 ≤ (headSpec (wM yX10_init cX10_init 1 none) { frames := 2, cells := 8, slots := 661, locals := 44 }).room.slots := ⟨Nat.le_refl _, Nat.le_refl _⟩
  clear ez w0 dy0
  unfold r_X10_init at hr
  obtain ⟨H, hH⟩ : ∃ H, H = s.heap := ⟨_, rfl⟩
  obtain ⟨locs, hlo⟩ : ∃ q : List Loc, q = [] := ⟨_, rfl⟩
  have dy : Dy D cA ad (V, g) A s.heap H locs := by rw [hH, hlo]; exact dy
  suffices K : W p l e (headSpec (wM yX10_init cX10_init 1 none) { frames := 2, cells := 8, slots := 661, locals := 44 }).room s m args below meth c H locs 0 0 (MQ below (QVa D cA A V ad V1 g0) args s 8 661 A) (F0 m 0 ls []) by rw [hH, hlo] at K; exact K
  clear hH hlo
  refine lv_aload_n cx.1 cx.2.1 dX10_init_0 rfl (lv_at hl 0 rfl) ?_
  refine W.objInit cx.1 cx.2.1 cx.2.2.2.1 (cx.2.2.2.2 _ tb_324) (cx.2.2.2.2 _ tb_76) (cx.2.2.2.2 _ tb_77) rfl (hl.1.trans cx.2.2.1.symm) rfl dX10_init_1 (Nat.le_trans (by decide) hR.1) (Nat.le_trans (Nat.le_of_ble_eq_true rfl) hR.2) ?_
  refine W.eq (g2 := F0 m 4 ls []) rfl ?_
  refine lv_aload_n cx.1 cx.2.1 dX10_init_4 rfl (lv_at hl 0 rfl) ?_
  obtain ⟨k1, ek1, hr⟩ := of_nm hr
  obtain ⟨hf2, hr⟩ := of_grd hr
  obtain ⟨hn3, hr⟩ := of_grd hr
  obtain ⟨V, eV5, hr⟩ := of_nm hr
  obtain ⟨g4, eg4, hr⟩ := of_nm hr
  refine h_new cx fx dy hf2 nd_4 tb_325 (Nat.le_trans (by decide) hC.1) (Nat.le_trans (by decide) hC.2) dX10_init_5 (fun ad H hz dy => ?_)
  replace hag := Ag.new (q := (4, 0)) hag hf2.1 hz
  rw [← eV5] at hag
  replace dy : Dy D cA ad (V, g4) A s.heap H locs := by rw [eV5, eg4]; exact dy
  have ea6 := hz k0 hn3
  rw [← ea6] at hl
  rw [← ea6]
  refine W.widen (k := 1) (n := 13) (by decide) (by decide) ?_
  refine lv_dup cx.1 cx.2.1 dX10_init_8 rfl ?_
  obtain ⟨hn7, hr⟩ := of_grd hr
  obtain ⟨hn8, hr⟩ := of_grd hr
  obtain ⟨u10, V, g9, hc11, hr⟩ := of_bna hr
  refine r_va dy (k_I (As := []) (b := k1) cx fx dy (c_X4_init hc11) mv_X4_init rfl rfl ⟨Nat.le_trans (by decide) hR.1, Nat.le_trans (by decide) hR.2⟩ tb_326 rfl hl.1 rfl (Nat.le_of_ble_eq_true rfl) ⟨Nat.le_trans (by decide) hC.1, Nat.le_trans (by decide) hC.2⟩ dX10_init_9) (fun ad H locs hz dy => ?_)
  replace hag := Ag.tr hag hz
  have ea12 := hz k0 hn7
  replace ea12 := ea12.2
  rw [← ea12] at hl
  rw [← ea12]
  have ea13 := hz k1 hn8
  replace ea13 := ea13.2
  rw [← ea13]
  refine W.widen (k := 5) (n := 61) (by decide) (by decide) ?_
  obtain ⟨hv14, hr⟩ := of_grd hr
  obtain ⟨g15, eg15, hr⟩ := of_nm hr
  refine h_putR cx fx dy fd_10_0 (pd_10_0 : PD _ _ _ _ _ (.object "WardWatch$Laws")) rfl rfl rfl hv14 tb_327 dX10_init_12 (fun H locs dy => ?_)
  replace dy : Dy D cA ad (V, g15) A s.heap H locs := by rw [eg15]; exact dy
  refine lv_aload_n cx.1 cx.2.1 dX10_init_15 rfl (lv_at hl 0 rfl) ?_
  refine lv_iconst (v := (-1)) cx.1 cx.2.1 dX10_init_16 (by decide) ?_
  obtain ⟨g16, eg16, hr⟩ := of_nm hr
  refine h_putI cx fx dy fd_10_3 (pd_10_3 : PD _ _ _ _ _ .int) rfl rfl rfl hv14 tb_338 dX10_init_17 (fun H locs dy => ?_)
  replace dy : Dy D cA ad (V, g16) A s.heap H locs := by rw [eg16]; exact dy
  refine lv_aload_n cx.1 cx.2.1 dX10_init_20 rfl (lv_at hl 0 rfl) ?_
  refine lv_iconst (v := (-1)) cx.1 cx.2.1 dX10_init_21 (by decide) ?_
  obtain ⟨g17, eg17, hr⟩ := of_nm hr
  refine h_putI cx fx dy fd_10_4 (pd_10_4 : PD _ _ _ _ _ .int) rfl rfl rfl hv14 tb_340 dX10_init_22 (fun H locs dy => ?_)
  replace dy : Dy D cA ad (V, g17) A s.heap H locs := by rw [eg17]; exact dy
  refine lv_aload_n cx.1 cx.2.1 dX10_init_25 rfl (lv_at hl 0 rfl) ?_
  refine lv_iconst (v := (-1)) cx.1 cx.2.1 dX10_init_26 (by decide) ?_
  obtain ⟨g18, eg18, hr⟩ := of_nm hr
  refine h_putI cx fx dy fd_10_5 (pd_10_5 : PD _ _ _ _ _ .int) rfl rfl rfl hv14 tb_341 dX10_init_27 (fun H locs dy => ?_)
  replace dy : Dy D cA ad (V, g18) A s.heap H locs := by rw [eg18]; exact dy
  refine lv_aload_n cx.1 cx.2.1 dX10_init_30 rfl (lv_at hl 0 rfl) ?_
  refine lv_sipush (v := 200) cx.1 cx.2.1 dX10_init_31 (by decide) ?_
  obtain ⟨k19, ek19, hr⟩ := of_nm hr
  obtain ⟨hf20, hr⟩ := of_grd hr
  obtain ⟨hn21, hr⟩ := of_grd hr
  obtain ⟨V, eV23, hr⟩ := of_nm hr
  obtain ⟨g22, eg22, hr⟩ := of_nm hr
  refine h_newa (t := 0) (ty := .int) (at0 := .int) cx fx dy hf20 (by decide) rfl rfl (fun _ _ h => h) rfl tb_117 (by decide) (by decide : (200 : Int32).toNatClampNeg = 200) (by decide) (Nat.le_trans (by decide) hC.1) (Nat.le_trans (by decide) hC.2) dX10_init_34 (fun ad H hz dy => ?_)
  replace hag := Ag.new (q := (100, 200)) hag hf20.1 hz
  rw [← eV23] at hag
  replace dy : Dy D cA ad (V, g22) A s.heap H locs := by rw [eV23, eg22]; exact dy
  have ea24 := hz k0 hn21
  rw [← ea24] at hl
  rw [← ea24]
  refine W.widen (k := 6) (n := 261) (by decide) (by decide) ?_
  obtain ⟨hv25, hr⟩ := of_grd hr
  obtain ⟨g26, eg26, hr⟩ := of_nm hr
  refine h_putRF cx fx dy hini rfl fd_10_6 (pd_10_6 : PD _ _ _ _ _ (.array .int)) rfl rfl rfl hv25 tb_343 dX10_init_36 (fun H locs dy => ?_)
  replace dy : Dy D cA ad (V, g26) A s.heap H locs := by rw [eg26]; exact dy
  refine lv_aload_n cx.1 cx.2.1 dX10_init_39 rfl (lv_at hl 0 rfl) ?_
  refine lv_sipush (v := 200) cx.1 cx.2.1 dX10_init_40 (by decide) ?_
  obtain ⟨k27, ek27, hr⟩ := of_nm hr
  obtain ⟨hf28, hr⟩ := of_grd hr
  obtain ⟨hn29, hr⟩ := of_grd hr
  obtain ⟨V, eV31, hr⟩ := of_nm hr
  obtain ⟨g30, eg30, hr⟩ := of_nm hr
  refine h_newa (t := 2) (ty := .boolean) (at0 := .boolean) cx fx dy hf28 (by decide) rfl rfl (fun _ _ h => h) rfl tb_319 (by decide) (by decide : (200 : Int32).toNatClampNeg = 200) (by decide) (Nat.le_trans (by decide) hC.1) (Nat.le_trans (by decide) hC.2) dX10_init_43 (fun ad H hz dy => ?_)
  replace hag := Ag.new (q := (102, 200)) hag hf28.1 hz
  rw [← eV31] at hag
  replace dy : Dy D cA ad (V, g30) A s.heap H locs := by rw [eV31, eg30]; exact dy
  have ea32 := hz k0 hn29
  rw [← ea32] at hl
  rw [← ea32]
  refine W.widen (k := 7) (n := 461) (by decide) (by decide) ?_
  obtain ⟨hv33, hr⟩ := of_grd hr
  obtain ⟨g34, eg34, hr⟩ := of_nm hr
  refine h_putRF cx fx dy hini rfl fd_10_7 (pd_10_7 : PD _ _ _ _ _ (.array .boolean)) rfl rfl rfl hv33 tb_344 dX10_init_45 (fun H locs dy => ?_)
  replace dy : Dy D cA ad (V, g34) A s.heap H locs := by rw [eg34]; exact dy
  refine lv_aload_n cx.1 cx.2.1 dX10_init_48 rfl (lv_at hl 0 rfl) ?_
  refine lv_sipush (v := 200) cx.1 cx.2.1 dX10_init_49 (by decide) ?_
  obtain ⟨k35, ek35, hr⟩ := of_nm hr
  obtain ⟨hf36, hr⟩ := of_grd hr
  obtain ⟨hn37, hr⟩ := of_grd hr
  obtain ⟨V, eV39, hr⟩ := of_nm hr
  obtain ⟨g38, eg38, hr⟩ := of_nm hr
  refine h_newa (t := 0) (ty := .int) (at0 := .int) cx fx dy hf36 (by decide) rfl rfl (fun _ _ h => h) rfl tb_117 (by decide) (by decide : (200 : Int32).toNatClampNeg = 200) (by decide) (Nat.le_trans (by decide) hC.1) (Nat.le_trans (by decide) hC.2) dX10_init_52 (fun ad H hz dy => ?_)
  replace hag := Ag.new (q := (100, 200)) hag hf36.1 hz
  rw [← eV39] at hag
  replace dy : Dy D cA ad (V, g38) A s.heap H locs := by rw [eV39, eg38]; exact dy
  have ea40 := hz k0 hn37
  rw [← ea40] at hl
  rw [← ea40]
  refine W.widen (k := 8) (n := 661) (by decide) (by decide) ?_
  obtain ⟨hv41, hr⟩ := of_grd hr
  obtain ⟨g42, eg42, hr⟩ := of_nm hr
  refine h_putRF cx fx dy hini rfl fd_10_8 (pd_10_8 : PD _ _ _ _ _ (.array .int)) rfl rfl rfl hv41 tb_345 dX10_init_54 (fun H locs dy => ?_)
  replace dy : Dy D cA ad (V, g42) A s.heap H locs := by rw [eg42]; exact dy
  refine W.widen (k := 8) (n := 661) (by decide) (by decide) ?_
  obtain ⟨e1, e2⟩ := hq0 _ _ _ (Option.some.inj hr).symm
  exact h_vretA cx dy hag hlocks hret e1 e2 dX10_init_57
noncomputable def r_X7_init (V : Vk) (k0 : Nat) (g : Hq) : Option (Unit × Vk × Hq) :=
  nm (k0 + 1) fun k1 => grd (frK V g k1) <| grd (k0 ≠ k1) <| nm (newV V k1 (105, 60)) fun V => nm (newG g k1) fun g4 => grd (V k0 = some (7, 0)) <| nm (sR g4 k0 0 (some k1)) fun g8 => some ((), V, g8)
set_option maxHeartbeats 4000000 in
set_option maxRecDepth 100000 in
theorem c_X7_init {l : Launch} {D : va_G} {cA : Nat → ClassId} {sk : (Nat → Nat) × (Nat → Nat)} {ad : Nat → Nat} {A : Nat → Prop} {V : Vk} {k0 : Nat} {g g0 : Hq} {V1 : Vk} (hr : r_X7_init V k0 g = some ((), V1, g0)) : Met l yX7_init (wM yX7_init cX7_init 1 none) { frames := 1, cells := 1, slots := 60, locals := 24 } (Pre D cA sk ad (V, g) A [.ref (ad k0)]) (QVa D cA A V ad V1 g0) 1 60 A := by
  refine Met.ofW (cc := cX7_init) (maxL := 1) (ret := none) (by decide) rfl ?_
  intro p e s m args below meth c s₁ B hml hv
  obtain ⟨hargs, fx, w0⟩ := hv
  have hts := atoms_spec (ws := wM yX7_init cX7_init 1 none) B.pre
  have cx : CallFix p m c cX7_init 1 s args gw_tbl RX7 := ⟨B.exec, B.bytes, hml, findClass_of_methodNamed B.named, fun w hw => hts w (List.mem_cons_of_mem _ hw)⟩
  have hlocks := B.notSynchronized
  have hret := B.returns
  have hini : meth.name = "<init>" := (name_of_methodNamed B.named B.method).1
  have hR : 1 ≤ (headSpec (wM yX7_init cX7_init 1 none) { frames := 1, cells := 1, slots := 60, locals := 24 }).room.frames ∧ 24 ≤ (headSpec (wM yX7_init cX7_init 1 none) { frames := 1, cells := 1, slots := 60, locals := 24 }).room.locals := ⟨Nat.le_refl _, Nat.le_refl _⟩
  have dy : Dy D cA ad (V, g) A s.heap s.heap [] := ⟨w0, va_S.rf⟩
  have hl := lv_entry [.ref (ad k0)] (n := 1) (Nat.le_of_ble_eq_true rfl)
  have hef : entryFrame m args 1 = F0 m 0 ((lg_sl [.ref (ad k0)] ++ List.replicate (1 - (lg_sl [.ref (ad k0)]).length) Slot.unset).toArray) [] := by
    rw [hargs]
    exact lg_entry_eq m [.ref (ad k0)] 1
  rw [hef]
  clear hef hargs
  generalize (lg_sl [.ref (ad k0)] ++ List.replicate (1 - (lg_sl [.ref (ad k0)]).length) Slot.unset).toArray = ls at hl ⊢
  have hl : lv_has ls 1 [(0, .ref (ad k0))] := hl
  have dy0 : ∃ H0, H0 = s.heap ∧ Dy D cA ad (V, g) A s.heap H0 [] := ⟨_, rfl, dy⟩
  obtain ⟨z, ez⟩ : ∃ z : (Unit × Vk × Hq), z = ((), V1, g0) := ⟨_, rfl⟩
  rw [← ez] at hr
  have hq0 : ∀ (rb : Unit) (Vb : Vk) (gb : Hq), z = (rb, Vb, gb) → Vb = V1 ∧ gb = g0 := fun rb Vb gb eb => by rw [ez] at eb; cases eb; exact ⟨rfl, rfl⟩
  have hag : Ag V ad V ad := Ag.rf
  have hC : 1 ≤ (headSpec (wM yX7_init cX7_init 1 none) { frames := 1, cells := 1, slots := 60, locals := 24 }).room.cells ∧ 60 ≤ (headSpec (wM yX7_init cX7_init 1 none) { frames := 1, cells := 1, slots := 60, locals := 24 }).room.slots := ⟨Nat.le_refl _, Nat.le_refl _⟩
  clear ez w0 dy0
  unfold r_X7_init at hr
  obtain ⟨H, hH⟩ : ∃ H, H = s.heap := ⟨_, rfl⟩
  obtain ⟨locs, hlo⟩ : ∃ q : List Loc, q = [] := ⟨_, rfl⟩
  have dy : Dy D cA ad (V, g) A s.heap H locs := by rw [hH, hlo]; exact dy
  suffices K : W p l e (headSpec (wM yX7_init cX7_init 1 none) { frames := 1, cells := 1, slots := 60, locals := 24 }).room s m args below meth c H locs 0 0 (MQ below (QVa D cA A V ad V1 g0) args s 1 60 A) (F0 m 0 ls []) by rw [hH, hlo] at K; exact K
  clear hH hlo
  refine lv_aload_n cx.1 cx.2.1 dX7_init_0 rfl (lv_at hl 0 rfl) ?_
  refine W.objInit cx.1 cx.2.1 cx.2.2.2.1 (cx.2.2.2.2 _ tb_207) (cx.2.2.2.2 _ tb_76) (cx.2.2.2.2 _ tb_77) rfl (hl.1.trans cx.2.2.1.symm) rfl dX7_init_1 (Nat.le_trans (by decide) hR.1) (Nat.le_trans (Nat.le_of_ble_eq_true rfl) hR.2) ?_
  refine W.eq (g2 := F0 m 4 ls []) rfl ?_
  refine lv_aload_n cx.1 cx.2.1 dX7_init_4 rfl (lv_at hl 0 rfl) ?_
  refine lv_bipush (v := 60) cx.1 cx.2.1 dX7_init_5 (by decide) ?_
  obtain ⟨k1, ek1, hr⟩ := of_nm hr
  obtain ⟨hf2, hr⟩ := of_grd hr
  obtain ⟨hn3, hr⟩ := of_grd hr
  obtain ⟨V, eV5, hr⟩ := of_nm hr
  obtain ⟨g4, eg4, hr⟩ := of_nm hr
  refine h_newq (t := 5) cx fx dy hf2 (by decide) rfl tb_208 tb_209 (by decide) (by decide : (60 : Int32).toNatClampNeg = 60) (by decide) (Nat.le_trans (by decide) hC.1) (Nat.le_trans (by decide) hC.2) dX7_init_7 (fun ad H hz dy => ?_)
  replace hag := Ag.new (q := (105, 60)) hag hf2.1 hz
  rw [← eV5] at hag
  replace dy : Dy D cA ad (V, g4) A s.heap H locs := by rw [eV5, eg4]; exact dy
  have ea6 := hz k0 hn3
  rw [← ea6] at hl
  rw [← ea6]
  refine W.widen (k := 1) (n := 60) (by decide) (by decide) ?_
  obtain ⟨hv7, hr⟩ := of_grd hr
  obtain ⟨g8, eg8, hr⟩ := of_nm hr
  refine h_putRF cx fx dy hini rfl fd_7_0 (pd_7_0 : PD _ _ _ _ _ (.array (.object "WardWatch$House"))) rfl rfl rfl hv7 tb_210 dX7_init_10 (fun H locs dy => ?_)
  replace dy : Dy D cA ad (V, g8) A s.heap H locs := by rw [eg8]; exact dy
  refine W.widen (k := 1) (n := 60) (by decide) (by decide) ?_
  obtain ⟨e1, e2⟩ := hq0 _ _ _ (Option.some.inj hr).symm
  exact h_vretA cx dy hag hlocks hret e1 e2 dX7_init_13
noncomputable def r_X5_init (V : Vk) (k0 : Nat) (g : Hq) : Option (Unit × Vk × Hq) :=
  nm (k0 + 1) fun k1 => grd (frK V g k1) <| grd (k0 ≠ k1) <| nm (newV V k1 (106, 100)) fun V => nm (newG g k1) fun g4 => grd (V k0 = some (5, 0)) <| nm (sR g4 k0 0 (some k1)) fun g8 => some ((), V, g8)
set_option maxHeartbeats 4000000 in
set_option maxRecDepth 100000 in
theorem c_X5_init {l : Launch} {D : va_G} {cA : Nat → ClassId} {sk : (Nat → Nat) × (Nat → Nat)} {ad : Nat → Nat} {A : Nat → Prop} {V : Vk} {k0 : Nat} {g g0 : Hq} {V1 : Vk} (hr : r_X5_init V k0 g = some ((), V1, g0)) : Met l yX5_init (wM yX5_init cX5_init 1 none) { frames := 1, cells := 1, slots := 100, locals := 24 } (Pre D cA sk ad (V, g) A [.ref (ad k0)]) (QVa D cA A V ad V1 g0) 1 100 A := by
  refine Met.ofW (cc := cX5_init) (maxL := 1) (ret := none) (by decide) rfl ?_
  intro p e s m args below meth c s₁ B hml hv
  obtain ⟨hargs, fx, w0⟩ := hv
  have hts := atoms_spec (ws := wM yX5_init cX5_init 1 none) B.pre
  have cx : CallFix p m c cX5_init 1 s args gw_tbl RX5 := ⟨B.exec, B.bytes, hml, findClass_of_methodNamed B.named, fun w hw => hts w (List.mem_cons_of_mem _ hw)⟩
  have hlocks := B.notSynchronized
  have hret := B.returns
  have hini : meth.name = "<init>" := (name_of_methodNamed B.named B.method).1
  have hR : 1 ≤ (headSpec (wM yX5_init cX5_init 1 none) { frames := 1, cells := 1, slots := 100, locals := 24 }).room.frames ∧ 24 ≤ (headSpec (wM yX5_init cX5_init 1 none) { frames := 1, cells := 1, slots := 100, locals := 24 }).room.locals := ⟨Nat.le_refl _, Nat.le_refl _⟩
  have dy : Dy D cA ad (V, g) A s.heap s.heap [] := ⟨w0, va_S.rf⟩
  have hl := lv_entry [.ref (ad k0)] (n := 1) (Nat.le_of_ble_eq_true rfl)
  have hef : entryFrame m args 1 = F0 m 0 ((lg_sl [.ref (ad k0)] ++ List.replicate (1 - (lg_sl [.ref (ad k0)]).length) Slot.unset).toArray) [] := by
    rw [hargs]
    exact lg_entry_eq m [.ref (ad k0)] 1
  rw [hef]
  clear hef hargs
  generalize (lg_sl [.ref (ad k0)] ++ List.replicate (1 - (lg_sl [.ref (ad k0)]).length) Slot.unset).toArray = ls at hl ⊢
  have hl : lv_has ls 1 [(0, .ref (ad k0))] := hl
  have dy0 : ∃ H0, H0 = s.heap ∧ Dy D cA ad (V, g) A s.heap H0 [] := ⟨_, rfl, dy⟩
  obtain ⟨z, ez⟩ : ∃ z : (Unit × Vk × Hq), z = ((), V1, g0) := ⟨_, rfl⟩
  rw [← ez] at hr
  have hq0 : ∀ (rb : Unit) (Vb : Vk) (gb : Hq), z = (rb, Vb, gb) → Vb = V1 ∧ gb = g0 := fun rb Vb gb eb => by rw [ez] at eb; cases eb; exact ⟨rfl, rfl⟩
  have hag : Ag V ad V ad := Ag.rf
  have hC : 1 ≤ (headSpec (wM yX5_init cX5_init 1 none) { frames := 1, cells := 1, slots := 100, locals := 24 }).room.cells ∧ 100 ≤ (headSpec (wM yX5_init cX5_init 1 none) { frames := 1, cells := 1, slots := 100, locals := 24 }).room.slots := ⟨Nat.le_refl _, Nat.le_refl _⟩
  clear ez w0 dy0
  unfold r_X5_init at hr
  obtain ⟨H, hH⟩ : ∃ H, H = s.heap := ⟨_, rfl⟩
  obtain ⟨locs, hlo⟩ : ∃ q : List Loc, q = [] := ⟨_, rfl⟩
  have dy : Dy D cA ad (V, g) A s.heap H locs := by rw [hH, hlo]; exact dy
  suffices K : W p l e (headSpec (wM yX5_init cX5_init 1 none) { frames := 1, cells := 1, slots := 100, locals := 24 }).room s m args below meth c H locs 0 0 (MQ below (QVa D cA A V ad V1 g0) args s 1 100 A) (F0 m 0 ls []) by rw [hH, hlo] at K; exact K
  clear hH hlo
  refine lv_aload_n cx.1 cx.2.1 dX5_init_0 rfl (lv_at hl 0 rfl) ?_
  refine W.objInit cx.1 cx.2.1 cx.2.2.2.1 (cx.2.2.2.2 _ tb_222) (cx.2.2.2.2 _ tb_76) (cx.2.2.2.2 _ tb_77) rfl (hl.1.trans cx.2.2.1.symm) rfl dX5_init_1 (Nat.le_trans (by decide) hR.1) (Nat.le_trans (Nat.le_of_ble_eq_true rfl) hR.2) ?_
  refine W.eq (g2 := F0 m 4 ls []) rfl ?_
  refine lv_aload_n cx.1 cx.2.1 dX5_init_4 rfl (lv_at hl 0 rfl) ?_
  refine lv_bipush (v := 100) cx.1 cx.2.1 dX5_init_5 (by decide) ?_
  obtain ⟨k1, ek1, hr⟩ := of_nm hr
  obtain ⟨hf2, hr⟩ := of_grd hr
  obtain ⟨hn3, hr⟩ := of_grd hr
  obtain ⟨V, eV5, hr⟩ := of_nm hr
  obtain ⟨g4, eg4, hr⟩ := of_nm hr
  refine h_newq (t := 6) cx fx dy hf2 (by decide) rfl tb_223 tb_224 (by decide) (by decide : (100 : Int32).toNatClampNeg = 100) (by decide) (Nat.le_trans (by decide) hC.1) (Nat.le_trans (by decide) hC.2) dX5_init_7 (fun ad H hz dy => ?_)
  replace hag := Ag.new (q := (106, 100)) hag hf2.1 hz
  rw [← eV5] at hag
  replace dy : Dy D cA ad (V, g4) A s.heap H locs := by rw [eV5, eg4]; exact dy
  have ea6 := hz k0 hn3
  rw [← ea6] at hl
  rw [← ea6]
  refine W.widen (k := 1) (n := 100) (by decide) (by decide) ?_
  obtain ⟨hv7, hr⟩ := of_grd hr
  obtain ⟨g8, eg8, hr⟩ := of_nm hr
  refine h_putRF cx fx dy hini rfl fd_5_0 (pd_5_0 : PD _ _ _ _ _ (.array (.object "WardWatch$Charge"))) rfl rfl rfl hv7 tb_225 dX5_init_10 (fun H locs dy => ?_)
  replace dy : Dy D cA ad (V, g8) A s.heap H locs := by rw [eg8]; exact dy
  refine W.widen (k := 1) (n := 100) (by decide) (by decide) ?_
  obtain ⟨e1, e2⟩ := hq0 _ _ _ (Option.some.inj hr).symm
  exact h_vretA cx dy hag hlocks hret e1 e2 dX5_init_13
noncomputable def r_X1_init (V : Vk) (k0 : Nat) (g : Hq) : Option (Unit × Vk × Hq) :=
  nm (k0 + 1) fun k1 => grd (frK V g k1) <| grd (k0 ≠ k1) <| nm (newV V k1 (100, 10)) fun V => nm (newG g k1) fun g4 => grd (V k0 = some (1, 0)) <| nm (sR g4 k0 0 (some k1)) fun g8 => nm (sI g8 k0 3 (-1 : Int32)) fun g9 => some ((), V, g9)
set_option maxHeartbeats 4000000 in
set_option maxRecDepth 100000 in
theorem c_X1_init {l : Launch} {D : va_G} {cA : Nat → ClassId} {sk : (Nat → Nat) × (Nat → Nat)} {ad : Nat → Nat} {A : Nat → Prop} {V : Vk} {k0 : Nat} {g g0 : Hq} {V1 : Vk} (hr : r_X1_init V k0 g = some ((), V1, g0)) : Met l yX1_init (wM yX1_init cX1_init 1 none) { frames := 1, cells := 1, slots := 10, locals := 24 } (Pre D cA sk ad (V, g) A [.ref (ad k0)]) (QVa D cA A V ad V1 g0) 1 10 A := by
  refine Met.ofW (cc := cX1_init) (maxL := 1) (ret := none) (by decide) rfl ?_
  intro p e s m args below meth c s₁ B hml hv
  obtain ⟨hargs, fx, w0⟩ := hv
  have hts := atoms_spec (ws := wM yX1_init cX1_init 1 none) B.pre
  have cx : CallFix p m c cX1_init 1 s args gw_tbl RX1 := ⟨B.exec, B.bytes, hml, findClass_of_methodNamed B.named, fun w hw => hts w (List.mem_cons_of_mem _ hw)⟩
  have hlocks := B.notSynchronized
  have hret := B.returns
  have hini : meth.name = "<init>" := (name_of_methodNamed B.named B.method).1
  have hR : 1 ≤ (headSpec (wM yX1_init cX1_init 1 none) { frames := 1, cells := 1, slots := 10, locals := 24 }).room.frames ∧ 24 ≤ (headSpec (wM yX1_init cX1_init 1 none) { frames := 1, cells := 1, slots := 10, locals := 24 }).room.locals := ⟨Nat.le_refl _, Nat.le_refl _⟩
  have dy : Dy D cA ad (V, g) A s.heap s.heap [] := ⟨w0, va_S.rf⟩
  have hl := lv_entry [.ref (ad k0)] (n := 1) (Nat.le_of_ble_eq_true rfl)
  have hef : entryFrame m args 1 = F0 m 0 ((lg_sl [.ref (ad k0)] ++ List.replicate (1 - (lg_sl [.ref (ad k0)]).length) Slot.unset).toArray) [] := by
    rw [hargs]
    exact lg_entry_eq m [.ref (ad k0)] 1
  rw [hef]
  clear hef hargs
  generalize (lg_sl [.ref (ad k0)] ++ List.replicate (1 - (lg_sl [.ref (ad k0)]).length) Slot.unset).toArray = ls at hl ⊢
  have hl : lv_has ls 1 [(0, .ref (ad k0))] := hl
  have dy0 : ∃ H0, H0 = s.heap ∧ Dy D cA ad (V, g) A s.heap H0 [] := ⟨_, rfl, dy⟩
  obtain ⟨z, ez⟩ : ∃ z : (Unit × Vk × Hq), z = ((), V1, g0) := ⟨_, rfl⟩
  rw [← ez] at hr
  have hq0 : ∀ (rb : Unit) (Vb : Vk) (gb : Hq), z = (rb, Vb, gb) → Vb = V1 ∧ gb = g0 := fun rb Vb gb eb => by rw [ez] at eb; cases eb; exact ⟨rfl, rfl⟩
  have hag : Ag V ad V ad := Ag.rf
  have hC : 1 ≤ (headSpec (wM yX1_init cX1_init 1 none) { frames := 1, cells := 1, slots := 10, locals := 24 }).room.cells ∧ 10 ≤ (headSpec (wM yX1_init cX1_init 1 none) { frames := 1, cells := 1, slots := 10, locals := 24 }).room.slots := ⟨Nat.le_refl _, Nat.le_refl _⟩
  clear ez w0 dy0
  unfold r_X1_init at hr
  obtain ⟨H, hH⟩ : ∃ H, H = s.heap := ⟨_, rfl⟩
  obtain ⟨locs, hlo⟩ : ∃ q : List Loc, q = [] := ⟨_, rfl⟩
  have dy : Dy D cA ad (V, g) A s.heap H locs := by rw [hH, hlo]; exact dy
  suffices K : W p l e (headSpec (wM yX1_init cX1_init 1 none) { frames := 1, cells := 1, slots := 10, locals := 24 }).room s m args below meth c H locs 0 0 (MQ below (QVa D cA A V ad V1 g0) args s 1 10 A) (F0 m 0 ls []) by rw [hH, hlo] at K; exact K
  clear hH hlo
  refine lv_aload_n cx.1 cx.2.1 dX1_init_0 rfl (lv_at hl 0 rfl) ?_
  refine W.objInit cx.1 cx.2.1 cx.2.2.2.1 (cx.2.2.2.2 _ tb_237) (cx.2.2.2.2 _ tb_76) (cx.2.2.2.2 _ tb_77) rfl (hl.1.trans cx.2.2.1.symm) rfl dX1_init_1 (Nat.le_trans (by decide) hR.1) (Nat.le_trans (Nat.le_of_ble_eq_true rfl) hR.2) ?_
  refine W.eq (g2 := F0 m 4 ls []) rfl ?_
  refine lv_aload_n cx.1 cx.2.1 dX1_init_4 rfl (lv_at hl 0 rfl) ?_
  refine lv_bipush (v := 10) cx.1 cx.2.1 dX1_init_5 (by decide) ?_
  obtain ⟨k1, ek1, hr⟩ := of_nm hr
  obtain ⟨hf2, hr⟩ := of_grd hr
  obtain ⟨hn3, hr⟩ := of_grd hr
  obtain ⟨V, eV5, hr⟩ := of_nm hr
  obtain ⟨g4, eg4, hr⟩ := of_nm hr
  refine h_newa (t := 0) (ty := .int) (at0 := .int) cx fx dy hf2 (by decide) rfl rfl (fun _ _ h => h) rfl tb_117 (by decide) (by decide : (10 : Int32).toNatClampNeg = 10) (by decide) (Nat.le_trans (by decide) hC.1) (Nat.le_trans (by decide) hC.2) dX1_init_7 (fun ad H hz dy => ?_)
  replace hag := Ag.new (q := (100, 10)) hag hf2.1 hz
  rw [← eV5] at hag
  replace dy : Dy D cA ad (V, g4) A s.heap H locs := by rw [eV5, eg4]; exact dy
  have ea6 := hz k0 hn3
  rw [← ea6] at hl
  rw [← ea6]
  refine W.widen (k := 1) (n := 10) (by decide) (by decide) ?_
  obtain ⟨hv7, hr⟩ := of_grd hr
  obtain ⟨g8, eg8, hr⟩ := of_nm hr
  refine h_putRF cx fx dy hini rfl fd_1_0 (pd_1_0 : PD _ _ _ _ _ (.array .int)) rfl rfl rfl hv7 tb_238 dX1_init_9 (fun H locs dy => ?_)
  replace dy : Dy D cA ad (V, g8) A s.heap H locs := by rw [eg8]; exact dy
  refine lv_aload_n cx.1 cx.2.1 dX1_init_12 rfl (lv_at hl 0 rfl) ?_
  refine lv_iconst (v := (-1)) cx.1 cx.2.1 dX1_init_13 (by decide) ?_
  obtain ⟨g9, eg9, hr⟩ := of_nm hr
  refine h_putI cx fx dy fd_1_3 (pd_1_3 : PD _ _ _ _ _ .int) rfl rfl rfl hv7 tb_241 dX1_init_14 (fun H locs dy => ?_)
  replace dy : Dy D cA ad (V, g9) A s.heap H locs := by rw [eg9]; exact dy
  refine W.widen (k := 1) (n := 10) (by decide) (by decide) ?_
  obtain ⟨e1, e2⟩ := hq0 _ _ _ (Option.some.inj hr).symm
  exact h_vretA cx dy hag hlocks hret e1 e2 dX1_init_17
noncomputable def r_X6_init_82' (V : Vk) (k73 : Nat) (x74 : Int32) (g75 : Hq) : Option ((Nat × Int32 × Hq) ⊕ (Unit × Vk × Hq)) :=
  brn ((1024 : Int32) ≤ x74) (some (.inr ((), V, g75))) (bnd (r_J6_numberOfTrailingZeros_0f7a4 V x74 g75) fun x77 g76 => grd (V k73 = some (6, 0)) <| Option.bind (g76.2.2 k73 5) fun k80 => Option.bind (g76.2.2 k73 5) fun k82 => grd (okV V k82 3 (x74 &&& (x74 - (1 : Int32)))) <| bnd (r_X6_rowShift V x77 g76) fun x86 g85 => grd (okV V k80 3 x74) <| nm (sL g85 k80 x74.toNatClampNeg ((g76.2.1 k82 (x74 &&& (x74 - (1 : Int32))).toNatClampNeg) ||| ((1 : Int64) <<< (x86.toInt64 &&& 63)))) fun g89 => nm (x74 + (1 : Int32)) fun x90 => some (.inl (k73, x90, g89)))
noncomputable def r_X6_init_82 (V : Vk) (st : (Nat × Int32 × Hq)) : Option ((Nat × Int32 × Hq) ⊕ (Unit × Vk × Hq)) := r_X6_init_82' V st.1 st.2.1 st.2.2
set_option maxHeartbeats 4000000 in
set_option maxRecDepth 100000 in
theorem w_X6_init_82 {p : Program} {l : Launch} {e : Env} {R : Room} {s : State} {m : MethodId} {args : Array Value} {below : List Frame} {meth : Method} {c : Code} {D : va_G} {cA : Nat → ClassId} {sk : (Nat → Nat) × (Nat → Nat)} {ad : Nat → Nat} {A : Nat → Prop} {V : Vk} (cx : CallFix p m c cX6_init 3 s args gw_tbl RX6) (fx : Fx D cA sk A s) (hlocks : meth.locks = false) (hret : meth.sig.returnType = none) (hR : 1 ≤ R.frames ∧ 24 ≤ R.locals) {V0 : Vk} {ad0 : Nat → Nat} (hag : Ag V0 ad0 V ad) (hC : 9 ≤ R.cells ∧ 7822 ≤ R.slots) (V1 : Vk) (g0 : Hq) (y : (Unit × Vk × Hq)) (hq : ∀ (rb : Unit) (Vb : Vk) (gb : Hq), y = (rb, Vb, gb) → Vb = V1 ∧ gb = g0) : ∀ (n : Nat) (k73 : Nat) (x74 : Int32) (g75 : Hq), itr (r_X6_init_82 V) n (k73, x74, g75) = some y → ∀ (H : Heap) (locs : List Loc) (ls : Array Slot), Dy D cA ad (V, g75) A s.heap H locs → lv_has ls 3 [(0, .ref (ad k73)), (1, .int x74)] → W p l e R s m args below meth c H locs 9 7822 (MQ below (QVa D cA A V0 ad0 V1 g0) args s 9 7822 A) (F0 m 82 ls []) := by
  intro n
  induction n with
  | zero => intro k73 x74 g75 hr; cases hr
  | succ n ih =>
    intro k73 x74 g75 hr H locs ls dy hl
    obtain ⟨z, hz, hn1, hn2⟩ := itr_succ hr
    clear hr
    have hr : r_X6_init_82' V k73 x74 g75 = some z := hz
    clear hz
    unfold r_X6_init_82' at hr
    have hh0 : ∀ (b0 : Nat) (b1 : Int32) (gb : Hq), z = .inl (b0, b1, gb) → ∀ (H : Heap) (locs : List Loc) (ls : Array Slot), Dy D cA ad (V, gb) A s.heap H locs → lv_has ls 3 [(0, .ref (ad b0)), (1, .int b1)] → W p l e R s m args below meth c H locs 9 7822 (MQ below (QVa D cA A V0 ad0 V1 g0) args s 9 7822 A) (F0 m 82 ls []) := fun b0 b1 gb eb => ih b0 b1 gb (hn1 _ eb)
    have hq0 : ∀ (rb : Unit) (Vb : Vk) (gb : Hq), z = (.inr (rb, Vb, gb)) → Vb = V1 ∧ gb = g0 := fun rb Vb gb eb => hq rb Vb gb (hn2 _ eb).symm
    refine lv_iload_n cx.1 cx.2.1 dX6_init_82 rfl (lv_at hl 1 rfl) ?_
    refine lv_sipush (v := 1024) cx.1 cx.2.1 dX6_init_83 (by decide) ?_
    rcases of_brn hr with ⟨hc, hr⟩ | ⟨hc, hr⟩
    · refine lv_icmp_ge (tgt := 123) cx.1 cx.2.1 dX6_init_86 (by decide) (fun _ => ?_) (fun hn => absurd hc hn)
      refine W.widen (k := 9) (n := 7822) (by decide) (by decide) ?_
      obtain ⟨e1, e2⟩ := hq0 _ _ _ (Option.some.inj hr).symm
      exact h_vretA cx dy hag hlocks hret e1 e2 dX6_init_123
    · refine lv_icmp_ge (tgt := 123) cx.1 cx.2.1 dX6_init_86 (by decide) (fun hn => absurd hn hc) (fun _ => ?_)
      refine lv_iload_n cx.1 cx.2.1 dX6_init_89 rfl (lv_at hl 1 rfl) ?_
      obtain ⟨x77, g76, hc78, hr⟩ := of_bnd2 hr
      refine r_i dy (k_S (As := [.int x74]) cx fx dy (c_J6_numberOfTrailingZeros_0f7a4 hc78) mv_J6_numberOfTrailingZeros_0f7a4 rfl rfl ⟨Nat.le_trans (by decide) hR.1, Nat.le_trans (by decide) hR.2⟩ tb_124 rfl hl.1 rfl (Nat.le_of_ble_eq_true rfl) ⟨Nat.le_trans (by decide) hC.1, Nat.le_trans (by decide) hC.2⟩ dX6_init_90) (fun H locs dy => ?_)
      refine lv_istore_n (lv' := [(2, .int x77), (0, .ref (ad k73)), (1, .int x74)]) cx.1 cx.2.1 dX6_init_93 rfl hl (by decide) rfl (fun ls hl => ?_)
      refine lv_aload_n cx.1 cx.2.1 dX6_init_94 rfl (lv_at hl 1 rfl) ?_
      obtain ⟨hv79, hr⟩ := of_grd hr
      obtain ⟨k80, hf81, hr⟩ := of_bnd hr
      refine h_getR cx fx dy fd_6_5 hv79 tb_136 hf81 dX6_init_95 ?_
      refine lv_iload_n cx.1 cx.2.1 dX6_init_98 rfl (lv_at hl 2 rfl) ?_
      refine lv_aload_n cx.1 cx.2.1 dX6_init_99 rfl (lv_at hl 1 rfl) ?_
      obtain ⟨k82, hf83, hr⟩ := of_bnd hr
      refine h_getR cx fx dy fd_6_5 hv79 tb_136 hf83 dX6_init_100 ?_
      refine lv_iload_n cx.1 cx.2.1 dX6_init_103 rfl (lv_at hl 2 rfl) ?_
      refine lv_iload_n cx.1 cx.2.1 dX6_init_104 rfl (lv_at hl 2 rfl) ?_
      refine lv_iconst (v := 1) cx.1 cx.2.1 dX6_init_105 (by decide) ?_
      refine lv_isub cx.1 cx.2.1 dX6_init_106 ?_
      refine lv_iand cx.1 cx.2.1 dX6_init_107 ?_
      obtain ⟨ha84, hr⟩ := of_grd hr
      refine h_lald cx fx dy ha84 dX6_init_108 ?_
      refine lv_lconst (v := 1) cx.1 cx.2.1 dX6_init_109 (by decide) ?_
      refine lv_iload_n cx.1 cx.2.1 dX6_init_110 rfl (lv_at hl 0 rfl) ?_
      obtain ⟨x86, g85, hc87, hr⟩ := of_bnd2 hr
      refine r_i dy (k_S (As := [.int x77]) cx fx dy (c_X6_rowShift hc87) mv_X6_rowShift rfl rfl ⟨Nat.le_trans (by decide) hR.1, Nat.le_trans (by decide) hR.2⟩ tb_128 rfl hl.1 rfl (Nat.le_of_ble_eq_true rfl) ⟨Nat.le_trans (by decide) hC.1, Nat.le_trans (by decide) hC.2⟩ dX6_init_111) (fun H locs dy => ?_)
      refine lv_lshl cx.1 cx.2.1 dX6_init_114 rfl ?_
      refine lv_lor cx.1 cx.2.1 dX6_init_115 ?_
      obtain ⟨ha88, hr⟩ := of_grd hr
      obtain ⟨g89, eg89, hr⟩ := of_nm hr
      refine h_last cx fx dy ha88 dX6_init_116 (fun H locs dy => ?_)
      replace dy : Dy D cA ad (V, g89) A s.heap H locs := by rw [eg89]; exact dy
      obtain ⟨x90, ex90, hr⟩ := of_nm hr
      refine lv_iinc (v := x90) (lv' := [(1, .int x90), (2, .int x77), (0, .ref (ad k73))]) cx.1 cx.2.1 dX6_init_117 hl (k := 2) rfl (by rw [ex90]; rfl) (by decide) rfl (fun ls hl => ?_)
      refine lv_goto (tgt := 82) cx.1 cx.2.1 dX6_init_120 (by decide) ?_
      exact hh0 k73 x90 g89 (Option.some.inj hr).symm H locs ls dy (lv_sub hl [2, 0] rfl)
noncomputable def r_X6_init (V : Vk) (k0 : Nat) (g : Hq) : Option (Unit × Vk × Hq) :=
  nm (k0 + 1) fun k1 => grd (frK V g k1) <| grd (k0 ≠ k1) <| nm (newV V k1 (100, 10)) fun V => nm (newG g k1) fun g4 => grd (V k0 = some (6, 0)) <| nm (sR g4 k0 0 (some k1)) fun g8 => nm (k0 + 2) fun k9 => grd (frK V g8 k9) <| grd (k0 ≠ k9) <| nm (newV V k9 (100, 100)) fun V => nm (newG g8 k9) fun g12 => grd (V k0 = some (6, 0)) <| nm (sR g12 k0 1 (some k9)) fun g16 => nm (k0 + 3) fun k17 => grd (frK V g16 k17) <| grd (k0 ≠ k17) <| nm (newV V k17 (100, 4608)) fun V => nm (newG g16 k17) fun g20 => grd (V k0 = some (6, 0)) <| nm (sR g20 k0 2 (some k17)) fun g24 => nm (k0 + 4) fun k25 => grd (frK V g24 k25) <| grd (k0 ≠ k25) <| nm (newV V k25 (100, 1024)) fun V => nm (newG g24 k25) fun g28 => grd (V k0 = some (6, 0)) <| nm (sR g28 k0 3 (some k25)) fun g32 => nm (k0 + 5) fun k33 => grd (frK V g32 k33) <| grd (k0 ≠ k33) <| nm (newV V k33 (103, 1024)) fun V => nm (newG g32 k33) fun g36 => grd (V k0 = some (6, 0)) <| nm (sR g36 k0 4 (some k33)) fun g40 => nm (k0 + 6) fun k41 => grd (frK V g40 k41) <| grd (k0 ≠ k41) <| nm (newV V k41 (103, 1024)) fun V => nm (newG g40 k41) fun g44 => grd (V k0 = some (6, 0)) <| nm (sR g44 k0 5 (some k41)) fun g48 => nm (k0 + 7) fun k49 => grd (frK V g48 k49) <| grd (k0 ≠ k49) <| nm (newV V k49 (100, 12)) fun V => nm (newG g48 k49) fun g52 => grd (V k0 = some (6, 0)) <| nm (sR g52 k0 9 (some k49)) fun g56 => nm (k0 + 8) fun k57 => grd (frK V g56 k57) <| grd (k0 ≠ k57) <| nm (newV V k57 (100, 10)) fun V => nm (newG g56 k57) fun g60 => grd (V k0 = some (6, 0)) <| nm (sR g60 k0 10 (some k57)) fun g64 => nm (k0 + 9) fun k65 => grd (frK V g64 k65) <| grd (k0 ≠ k65) <| nm (newV V k65 (100, 10)) fun V => nm (newG g64 k65) fun g68 => grd (V k0 = some (6, 0)) <| nm (sR g68 k0 11 (some k65)) fun g72 => (lop (r_X6_init_82 V) (k0, (1 : Int32), g72))
set_option maxHeartbeats 4000000 in
set_option maxRecDepth 100000 in
theorem c_X6_init {l : Launch} {D : va_G} {cA : Nat → ClassId} {sk : (Nat → Nat) × (Nat → Nat)} {ad : Nat → Nat} {A : Nat → Prop} {V : Vk} {k0 : Nat} {g g0 : Hq} {V1 : Vk} (hr : r_X6_init V k0 g = some ((), V1, g0)) : Met l yX6_init (wM yX6_init cX6_init 3 none) { frames := 1, cells := 9, slots := 7822, locals := 24 } (Pre D cA sk ad (V, g) A [.ref (ad k0)]) (QVa D cA A V ad V1 g0) 9 7822 A := by
  refine Met.ofW (cc := cX6_init) (maxL := 3) (ret := none) (by decide) rfl ?_
  intro p e s m args below meth c s₁ B hml hv
  obtain ⟨hargs, fx, w0⟩ := hv
  have hts := atoms_spec (ws := wM yX6_init cX6_init 3 none) B.pre
  have cx : CallFix p m c cX6_init 3 s args gw_tbl RX6 := ⟨B.exec, B.bytes, hml, findClass_of_methodNamed B.named, fun w hw => hts w (List.mem_cons_of_mem _ hw)⟩
  have hlocks := B.notSynchronized
  have hret := B.returns
  have hini : meth.name = "<init>" := (name_of_methodNamed B.named B.method).1
  have hR : 1 ≤ (headSpec (wM yX6_init cX6_init 3 none) { frames := 1, cells := 9, slots := 7822, locals := 24 }).room.frames ∧ 24 ≤ (headSpec (wM yX6_init cX6_init 3 none) { frames := 1, cells := 9, slots := 7822, locals := 24 }).room.locals := ⟨Nat.le_refl _, Nat.le_refl _⟩
  have dy : Dy D cA ad (V, g) A s.heap s.heap [] := ⟨w0, va_S.rf⟩
  have hl := lv_entry [.ref (ad k0)] (n := 3) (Nat.le_of_ble_eq_true rfl)
  have hef : entryFrame m args 3 = F0 m 0 ((lg_sl [.ref (ad k0)] ++ List.replicate (3 - (lg_sl [.ref (ad k0)]).length) Slot.unset).toArray) [] := by
    rw [hargs]
    exact lg_entry_eq m [.ref (ad k0)] 3
  rw [hef]
  clear hef hargs
  generalize (lg_sl [.ref (ad k0)] ++ List.replicate (3 - (lg_sl [.ref (ad k0)]).length) Slot.unset).toArray = ls at hl ⊢
  have hl : lv_has ls 3 [(0, .ref (ad k0))] := hl
  have dy0 : ∃ H0, H0 = s.heap ∧ Dy D cA ad (V, g) A s.heap H0 [] := ⟨_, rfl, dy⟩
  obtain ⟨z, ez⟩ : ∃ z : (Unit × Vk × Hq), z = ((), V1, g0) := ⟨_, rfl⟩
  rw [← ez] at hr
  have hq0 : ∀ (rb : Unit) (Vb : Vk) (gb : Hq), z = (rb, Vb, gb) → Vb = V1 ∧ gb = g0 := fun rb Vb gb eb => by rw [ez] at eb; cases eb; exact ⟨rfl, rfl⟩
  have hag : Ag V ad V ad := Ag.rf
  have hC : 9 ≤ (headSpec (wM yX6_init cX6_init 3 none) { frames := 1, cells := 9, slots := 7822, locals := 24 }).room.cells ∧ 7822 ≤ (headSpec (wM yX6_init cX6_init 3 none) { frames := 1, cells := 9, slots := 7822, locals := 24 }).room.slots := ⟨Nat.le_refl _, Nat.le_refl _⟩
  clear ez w0 dy0
  unfold r_X6_init at hr
  obtain ⟨H, hH⟩ : ∃ H, H = s.heap := ⟨_, rfl⟩
  obtain ⟨locs, hlo⟩ : ∃ q : List Loc, q = [] := ⟨_, rfl⟩
  have dy : Dy D cA ad (V, g) A s.heap H locs := by rw [hH, hlo]; exact dy
  suffices K : W p l e (headSpec (wM yX6_init cX6_init 3 none) { frames := 1, cells := 9, slots := 7822, locals := 24 }).room s m args below meth c H locs 0 0 (MQ below (QVa D cA A V ad V1 g0) args s 9 7822 A) (F0 m 0 ls []) by rw [hH, hlo] at K; exact K
  clear hH hlo
  refine lv_aload_n cx.1 cx.2.1 dX6_init_0 rfl (lv_at hl 0 rfl) ?_
  refine W.objInit cx.1 cx.2.1 cx.2.2.2.1 (cx.2.2.2.2 _ tb_123) (cx.2.2.2.2 _ tb_76) (cx.2.2.2.2 _ tb_77) rfl (hl.1.trans cx.2.2.1.symm) rfl dX6_init_1 (Nat.le_trans (by decide) hR.1) (Nat.le_trans (Nat.le_of_ble_eq_true rfl) hR.2) ?_
  refine W.eq (g2 := F0 m 4 ls []) rfl ?_
  refine lv_aload_n cx.1 cx.2.1 dX6_init_4 rfl (lv_at hl 0 rfl) ?_
  refine lv_bipush (v := 10) cx.1 cx.2.1 dX6_init_5 (by decide) ?_
  obtain ⟨k1, ek1, hr⟩ := of_nm hr
  obtain ⟨hf2, hr⟩ := of_grd hr
  obtain ⟨hn3, hr⟩ := of_grd hr
  obtain ⟨V, eV5, hr⟩ := of_nm hr
  obtain ⟨g4, eg4, hr⟩ := of_nm hr
  refine h_newa (t := 0) (ty := .int) (at0 := .int) cx fx dy hf2 (by decide) rfl rfl (fun _ _ h => h) rfl tb_117 (by decide) (by decide : (10 : Int32).toNatClampNeg = 10) (by decide) (Nat.le_trans (by decide) hC.1) (Nat.le_trans (by decide) hC.2) dX6_init_7 (fun ad H hz dy => ?_)
  replace hag := Ag.new (q := (100, 10)) hag hf2.1 hz
  rw [← eV5] at hag
  replace dy : Dy D cA ad (V, g4) A s.heap H locs := by rw [eV5, eg4]; exact dy
  have ea6 := hz k0 hn3
  rw [← ea6] at hl
  rw [← ea6]
  refine W.widen (k := 1) (n := 10) (by decide) (by decide) ?_
  obtain ⟨hv7, hr⟩ := of_grd hr
  obtain ⟨g8, eg8, hr⟩ := of_nm hr
  refine h_putRF cx fx dy hini rfl fd_6_0 (pd_6_0 : PD _ _ _ _ _ (.array .int)) rfl rfl rfl hv7 tb_131 dX6_init_9 (fun H locs dy => ?_)
  replace dy : Dy D cA ad (V, g8) A s.heap H locs := by rw [eg8]; exact dy
  refine lv_aload_n cx.1 cx.2.1 dX6_init_12 rfl (lv_at hl 0 rfl) ?_
  refine lv_bipush (v := 100) cx.1 cx.2.1 dX6_init_13 (by decide) ?_
  obtain ⟨k9, ek9, hr⟩ := of_nm hr
  obtain ⟨hf10, hr⟩ := of_grd hr
  obtain ⟨hn11, hr⟩ := of_grd hr
  obtain ⟨V, eV13, hr⟩ := of_nm hr
  obtain ⟨g12, eg12, hr⟩ := of_nm hr
  refine h_newa (t := 0) (ty := .int) (at0 := .int) cx fx dy hf10 (by decide) rfl rfl (fun _ _ h => h) rfl tb_117 (by decide) (by decide : (100 : Int32).toNatClampNeg = 100) (by decide) (Nat.le_trans (by decide) hC.1) (Nat.le_trans (by decide) hC.2) dX6_init_15 (fun ad H hz dy => ?_)
  replace hag := Ag.new (q := (100, 100)) hag hf10.1 hz
  rw [← eV13] at hag
  replace dy : Dy D cA ad (V, g12) A s.heap H locs := by rw [eV13, eg12]; exact dy
  have ea14 := hz k0 hn11
  rw [← ea14] at hl
  rw [← ea14]
  refine W.widen (k := 2) (n := 110) (by decide) (by decide) ?_
  obtain ⟨hv15, hr⟩ := of_grd hr
  obtain ⟨g16, eg16, hr⟩ := of_nm hr
  refine h_putRF cx fx dy hini rfl fd_6_1 (pd_6_1 : PD _ _ _ _ _ (.array .int)) rfl rfl rfl hv15 tb_132 dX6_init_17 (fun H locs dy => ?_)
  replace dy : Dy D cA ad (V, g16) A s.heap H locs := by rw [eg16]; exact dy
  refine lv_aload_n cx.1 cx.2.1 dX6_init_20 rfl (lv_at hl 0 rfl) ?_
  refine lv_sipush (v := 4608) cx.1 cx.2.1 dX6_init_21 (by decide) ?_
  obtain ⟨k17, ek17, hr⟩ := of_nm hr
  obtain ⟨hf18, hr⟩ := of_grd hr
  obtain ⟨hn19, hr⟩ := of_grd hr
  obtain ⟨V, eV21, hr⟩ := of_nm hr
  obtain ⟨g20, eg20, hr⟩ := of_nm hr
  refine h_newa (t := 0) (ty := .int) (at0 := .int) cx fx dy hf18 (by decide) rfl rfl (fun _ _ h => h) rfl tb_117 (by decide) (by decide : (4608 : Int32).toNatClampNeg = 4608) (by decide) (Nat.le_trans (by decide) hC.1) (Nat.le_trans (by decide) hC.2) dX6_init_24 (fun ad H hz dy => ?_)
  replace hag := Ag.new (q := (100, 4608)) hag hf18.1 hz
  rw [← eV21] at hag
  replace dy : Dy D cA ad (V, g20) A s.heap H locs := by rw [eV21, eg20]; exact dy
  have ea22 := hz k0 hn19
  rw [← ea22] at hl
  rw [← ea22]
  refine W.widen (k := 3) (n := 4718) (by decide) (by decide) ?_
  obtain ⟨hv23, hr⟩ := of_grd hr
  obtain ⟨g24, eg24, hr⟩ := of_nm hr
  refine h_putRF cx fx dy hini rfl fd_6_2 (pd_6_2 : PD _ _ _ _ _ (.array .int)) rfl rfl rfl hv23 tb_133 dX6_init_26 (fun H locs dy => ?_)
  replace dy : Dy D cA ad (V, g24) A s.heap H locs := by rw [eg24]; exact dy
  refine lv_aload_n cx.1 cx.2.1 dX6_init_29 rfl (lv_at hl 0 rfl) ?_
  refine lv_sipush (v := 1024) cx.1 cx.2.1 dX6_init_30 (by decide) ?_
  obtain ⟨k25, ek25, hr⟩ := of_nm hr
  obtain ⟨hf26, hr⟩ := of_grd hr
  obtain ⟨hn27, hr⟩ := of_grd hr
  obtain ⟨V, eV29, hr⟩ := of_nm hr
  obtain ⟨g28, eg28, hr⟩ := of_nm hr
  refine h_newa (t := 0) (ty := .int) (at0 := .int) cx fx dy hf26 (by decide) rfl rfl (fun _ _ h => h) rfl tb_117 (by decide) (by decide : (1024 : Int32).toNatClampNeg = 1024) (by decide) (Nat.le_trans (by decide) hC.1) (Nat.le_trans (by decide) hC.2) dX6_init_33 (fun ad H hz dy => ?_)
  replace hag := Ag.new (q := (100, 1024)) hag hf26.1 hz
  rw [← eV29] at hag
  replace dy : Dy D cA ad (V, g28) A s.heap H locs := by rw [eV29, eg28]; exact dy
  have ea30 := hz k0 hn27
  rw [← ea30] at hl
  rw [← ea30]
  refine W.widen (k := 4) (n := 5742) (by decide) (by decide) ?_
  obtain ⟨hv31, hr⟩ := of_grd hr
  obtain ⟨g32, eg32, hr⟩ := of_nm hr
  refine h_putRF cx fx dy hini rfl fd_6_3 (pd_6_3 : PD _ _ _ _ _ (.array .int)) rfl rfl rfl hv31 tb_134 dX6_init_35 (fun H locs dy => ?_)
  replace dy : Dy D cA ad (V, g32) A s.heap H locs := by rw [eg32]; exact dy
  refine lv_aload_n cx.1 cx.2.1 dX6_init_38 rfl (lv_at hl 0 rfl) ?_
  refine lv_sipush (v := 1024) cx.1 cx.2.1 dX6_init_39 (by decide) ?_
  obtain ⟨k33, ek33, hr⟩ := of_nm hr
  obtain ⟨hf34, hr⟩ := of_grd hr
  obtain ⟨hn35, hr⟩ := of_grd hr
  obtain ⟨V, eV37, hr⟩ := of_nm hr
  obtain ⟨g36, eg36, hr⟩ := of_nm hr
  refine h_newl (at0 := .long) cx fx dy hf34 rfl tb_168 (by decide) (by decide : (1024 : Int32).toNatClampNeg = 1024) (by decide) (Nat.le_trans (by decide) hC.1) (Nat.le_trans (by decide) hC.2) dX6_init_42 (fun ad H hz dy => ?_)
  replace hag := Ag.new (q := (103, 1024)) hag hf34.1 hz
  rw [← eV37] at hag
  replace dy : Dy D cA ad (V, g36) A s.heap H locs := by rw [eV37, eg36]; exact dy
  have ea38 := hz k0 hn35
  rw [← ea38] at hl
  rw [← ea38]
  refine W.widen (k := 5) (n := 6766) (by decide) (by decide) ?_
  obtain ⟨hv39, hr⟩ := of_grd hr
  obtain ⟨g40, eg40, hr⟩ := of_nm hr
  refine h_putRF cx fx dy hini rfl fd_6_4 (pd_6_4 : PD _ _ _ _ _ (.array .long)) rfl rfl rfl hv39 tb_135 dX6_init_44 (fun H locs dy => ?_)
  replace dy : Dy D cA ad (V, g40) A s.heap H locs := by rw [eg40]; exact dy
  refine lv_aload_n cx.1 cx.2.1 dX6_init_47 rfl (lv_at hl 0 rfl) ?_
  refine lv_sipush (v := 1024) cx.1 cx.2.1 dX6_init_48 (by decide) ?_
  obtain ⟨k41, ek41, hr⟩ := of_nm hr
  obtain ⟨hf42, hr⟩ := of_grd hr
  obtain ⟨hn43, hr⟩ := of_grd hr
  obtain ⟨V, eV45, hr⟩ := of_nm hr
  obtain ⟨g44, eg44, hr⟩ := of_nm hr
  refine h_newl (at0 := .long) cx fx dy hf42 rfl tb_168 (by decide) (by decide : (1024 : Int32).toNatClampNeg = 1024) (by decide) (Nat.le_trans (by decide) hC.1) (Nat.le_trans (by decide) hC.2) dX6_init_51 (fun ad H hz dy => ?_)
  replace hag := Ag.new (q := (103, 1024)) hag hf42.1 hz
  rw [← eV45] at hag
  replace dy : Dy D cA ad (V, g44) A s.heap H locs := by rw [eV45, eg44]; exact dy
  have ea46 := hz k0 hn43
  rw [← ea46] at hl
  rw [← ea46]
  refine W.widen (k := 6) (n := 7790) (by decide) (by decide) ?_
  obtain ⟨hv47, hr⟩ := of_grd hr
  obtain ⟨g48, eg48, hr⟩ := of_nm hr
  refine h_putRF cx fx dy hini rfl fd_6_5 (pd_6_5 : PD _ _ _ _ _ (.array .long)) rfl rfl rfl hv47 tb_136 dX6_init_53 (fun H locs dy => ?_)
  replace dy : Dy D cA ad (V, g48) A s.heap H locs := by rw [eg48]; exact dy
  refine lv_aload_n cx.1 cx.2.1 dX6_init_56 rfl (lv_at hl 0 rfl) ?_
  refine lv_bipush (v := 12) cx.1 cx.2.1 dX6_init_57 (by decide) ?_
  obtain ⟨k49, ek49, hr⟩ := of_nm hr
  obtain ⟨hf50, hr⟩ := of_grd hr
  obtain ⟨hn51, hr⟩ := of_grd hr
  obtain ⟨V, eV53, hr⟩ := of_nm hr
  obtain ⟨g52, eg52, hr⟩ := of_nm hr
  refine h_newa (t := 0) (ty := .int) (at0 := .int) cx fx dy hf50 (by decide) rfl rfl (fun _ _ h => h) rfl tb_117 (by decide) (by decide : (12 : Int32).toNatClampNeg = 12) (by decide) (Nat.le_trans (by decide) hC.1) (Nat.le_trans (by decide) hC.2) dX6_init_59 (fun ad H hz dy => ?_)
  replace hag := Ag.new (q := (100, 12)) hag hf50.1 hz
  rw [← eV53] at hag
  replace dy : Dy D cA ad (V, g52) A s.heap H locs := by rw [eV53, eg52]; exact dy
  have ea54 := hz k0 hn51
  rw [← ea54] at hl
  rw [← ea54]
  refine W.widen (k := 7) (n := 7802) (by decide) (by decide) ?_
  obtain ⟨hv55, hr⟩ := of_grd hr
  obtain ⟨g56, eg56, hr⟩ := of_nm hr
  refine h_putRF cx fx dy hini rfl fd_6_9 (pd_6_9 : PD _ _ _ _ _ (.array .int)) rfl rfl rfl hv55 tb_140 dX6_init_61 (fun H locs dy => ?_)
  replace dy : Dy D cA ad (V, g56) A s.heap H locs := by rw [eg56]; exact dy
  refine lv_aload_n cx.1 cx.2.1 dX6_init_64 rfl (lv_at hl 0 rfl) ?_
  refine lv_bipush (v := 10) cx.1 cx.2.1 dX6_init_65 (by decide) ?_
  obtain ⟨k57, ek57, hr⟩ := of_nm hr
  obtain ⟨hf58, hr⟩ := of_grd hr
  obtain ⟨hn59, hr⟩ := of_grd hr
  obtain ⟨V, eV61, hr⟩ := of_nm hr
  obtain ⟨g60, eg60, hr⟩ := of_nm hr
  refine h_newa (t := 0) (ty := .int) (at0 := .int) cx fx dy hf58 (by decide) rfl rfl (fun _ _ h => h) rfl tb_117 (by decide) (by decide : (10 : Int32).toNatClampNeg = 10) (by decide) (Nat.le_trans (by decide) hC.1) (Nat.le_trans (by decide) hC.2) dX6_init_67 (fun ad H hz dy => ?_)
  replace hag := Ag.new (q := (100, 10)) hag hf58.1 hz
  rw [← eV61] at hag
  replace dy : Dy D cA ad (V, g60) A s.heap H locs := by rw [eV61, eg60]; exact dy
  have ea62 := hz k0 hn59
  rw [← ea62] at hl
  rw [← ea62]
  refine W.widen (k := 8) (n := 7812) (by decide) (by decide) ?_
  obtain ⟨hv63, hr⟩ := of_grd hr
  obtain ⟨g64, eg64, hr⟩ := of_nm hr
  refine h_putRF cx fx dy hini rfl fd_6_10 (pd_6_10 : PD _ _ _ _ _ (.array .int)) rfl rfl rfl hv63 tb_141 dX6_init_69 (fun H locs dy => ?_)
  replace dy : Dy D cA ad (V, g64) A s.heap H locs := by rw [eg64]; exact dy
  refine lv_aload_n cx.1 cx.2.1 dX6_init_72 rfl (lv_at hl 0 rfl) ?_
  refine lv_bipush (v := 10) cx.1 cx.2.1 dX6_init_73 (by decide) ?_
  obtain ⟨k65, ek65, hr⟩ := of_nm hr
  obtain ⟨hf66, hr⟩ := of_grd hr
  obtain ⟨hn67, hr⟩ := of_grd hr
  obtain ⟨V, eV69, hr⟩ := of_nm hr
  obtain ⟨g68, eg68, hr⟩ := of_nm hr
  refine h_newa (t := 0) (ty := .int) (at0 := .int) cx fx dy hf66 (by decide) rfl rfl (fun _ _ h => h) rfl tb_117 (by decide) (by decide : (10 : Int32).toNatClampNeg = 10) (by decide) (Nat.le_trans (by decide) hC.1) (Nat.le_trans (by decide) hC.2) dX6_init_75 (fun ad H hz dy => ?_)
  replace hag := Ag.new (q := (100, 10)) hag hf66.1 hz
  rw [← eV69] at hag
  replace dy : Dy D cA ad (V, g68) A s.heap H locs := by rw [eV69, eg68]; exact dy
  have ea70 := hz k0 hn67
  rw [← ea70] at hl
  rw [← ea70]
  refine W.widen (k := 9) (n := 7822) (by decide) (by decide) ?_
  obtain ⟨hv71, hr⟩ := of_grd hr
  obtain ⟨g72, eg72, hr⟩ := of_nm hr
  refine h_putRF cx fx dy hini rfl fd_6_11 (pd_6_11 : PD _ _ _ _ _ (.array .int)) rfl rfl rfl hv71 tb_142 dX6_init_77 (fun H locs dy => ?_)
  replace dy : Dy D cA ad (V, g72) A s.heap H locs := by rw [eg72]; exact dy
  refine lv_iconst (v := 1) cx.1 cx.2.1 dX6_init_80 (by decide) ?_
  refine lv_istore_n (lv' := [(1, .int (1 : Int32)), (0, .ref (ad k0))]) cx.1 cx.2.1 dX6_init_81 rfl hl (by decide) rfl (fun ls hl => ?_)
  refine W.widen (k := 9) (n := 7822) (by decide) (by decide) ?_
  obtain ⟨n, hr⟩ := lop_some hr
  exact w_X6_init_82 cx fx hlocks hret hR hag hC V1 g0 z hq0 n k0 (1 : Int32) g72 hr H locs ls dy (lv_sub hl [1, 0] rfl)
set_option maxHeartbeats 4000000 in
set_option maxRecDepth 100000 in
noncomputable def r_X11_init (V : Vk) (k0 : Nat) (g : Hq) : Option (Unit × Vk × Hq) :=
  nm (k0 + 1) fun k1 => grd (frK V g k1) <| grd (k0 ≠ k1) <| nm (newV V k1 (8, 0)) fun V => nm (newG g k1) fun g4 => grd (V k0 ≠ none) <| grd (V k1 ≠ none) <| bna (r_X8_init V k1 g4) fun u10 V g9 => grd (V k0 = some (11, 0)) <| nm (sR g9 k0 0 (some k1)) fun g15 => nm (k0 + 3) fun k16 => grd (frK V g15 k16) <| grd (k0 ≠ k16) <| nm (newV V k16 (9, 0)) fun V => nm (newG g15 k16) fun g19 => grd (V k0 ≠ none) <| grd (V k16 ≠ none) <| bna (r_X9_init V k16 g19) fun u25 V g24 => grd (V k0 = some (11, 0)) <| nm (sR g24 k0 1 (some k16)) fun g30 => nm (k0 + 8) fun k31 => grd (frK V g30 k31) <| grd (k0 ≠ k31) <| nm (newV V k31 (6, 0)) fun V => nm (newG g30 k31) fun g34 => grd (V k0 ≠ none) <| grd (V k31 ≠ none) <| bna (r_X6_init V k31 g34) fun u40 V g39 => grd (V k0 = some (11, 0)) <| nm (sR g39 k0 2 (some k31)) fun g45 => nm (k0 + 18) fun k46 => grd (frK V g45 k46) <| grd (k0 ≠ k46) <| nm (newV V k46 (3, 0)) fun V => nm (newG g45 k46) fun g49 => grd (V k0 = some (11, 0)) <| Option.bind (g49.2.2 k0 0) fun k53 => bnd (r_X3_init V k46 k53 g49) fun u56 g55 => nm (sR g55 k0 3 (some k46)) fun g58 => nm (k0 + 19) fun k59 => grd (frK V g58 k59) <| grd (k0 ≠ k59) <| nm (newV V k59 (104, 4)) fun V => nm (newG g58 k59) fun g62 => grd (V k0 = some (11, 0)) <| nm (sR g62 k0 4 (some k59)) fun g66 => nm (k0 + 20) fun k67 => grd (frK V g66 k67) <| grd (k0 ≠ k67) <| nm (newV V k67 (7, 0)) fun V => nm (newG g66 k67) fun g70 => grd (V k0 ≠ none) <| grd (V k67 ≠ none) <| bna (r_X7_init V k67 g70) fun u76 V g75 => grd (V k0 = some (11, 0)) <| nm (sR g75 k0 5 (some k67)) fun g81 => nm (k0 + 22) fun k82 => grd (frK V g81 k82) <| grd (k0 ≠ k82) <| nm (newV V k82 (5, 0)) fun V => nm (newG g81 k82) fun g85 => grd (V k0 ≠ none) <| grd (V k82 ≠ none) <| bna (r_X5_init V k82 g85) fun u91 V g90 => grd (V k0 = some (11, 0)) <| nm (sR g90 k0 6 (some k82)) fun g96 => nm (k0 + 24) fun k97 => grd (frK V g96 k97) <| grd (k0 ≠ k97) <| nm (newV V k97 (1, 0)) fun V => nm (newG g96 k97) fun g100 => grd (V k0 ≠ none) <| grd (V k97 ≠ none) <| bna (r_X1_init V k97 g100) fun u106 V g105 => grd (V k0 = some (11, 0)) <| nm (sR g105 k0 7 (some k97)) fun g111 => nm (k0 + 26) fun k112 => grd (frK V g111 k112) <| grd (k0 ≠ k112) <| nm (newV V k112 (4, 0)) fun V => nm (newG g111 k112) fun g115 => grd (V k0 ≠ none) <| grd (V k112 ≠ none) <| bna (r_X4_init V k112 g115) fun u121 V g120 => grd (V k0 = some (11, 0)) <| nm (sR g120 k0 8 (some k112)) fun g126 => Option.bind (g126.2.2 k0 4) fun k127 => nm (k0 + 31) fun k129 => grd (frK V g126 k129) <| grd (k0 ≠ k129) <| grd (k127 ≠ k129) <| nm (newV V k129 (10, 0)) fun V => nm (newG g126 k129) fun g133 => grd (V k0 ≠ none) <| grd (V k129 ≠ none) <| grd (V k127 ≠ none) <| bna (r_X10_init V k129 g133) fun u141 V g140 => grd (okV V k127 4 (0 : Int32)) <| grd (V k129 = some (10, 0)) <| nm (sR g140 k127 (0 : Int32).toNatClampNeg (some k129)) fun g147 => grd (V k0 = some (11, 0)) <| Option.bind (g147.2.2 k0 4) fun k150 => nm (k0 + 40) fun k152 => grd (frK V g147 k152) <| grd (k0 ≠ k152) <| grd (k150 ≠ k152) <| nm (newV V k152 (10, 0)) fun V => nm (newG g147 k152) fun g156 => grd (V k0 ≠ none) <| grd (V k152 ≠ none) <| grd (V k150 ≠ none) <| bna (r_X10_init V k152 g156) fun u164 V g163 => grd (okV V k150 4 (1 : Int32)) <| grd (V k152 = some (10, 0)) <| nm (sR g163 k150 (1 : Int32).toNatClampNeg (some k152)) fun g170 => grd (V k0 = some (11, 0)) <| Option.bind (g170.2.2 k0 4) fun k173 => nm (k0 + 49) fun k175 => grd (frK V g170 k175) <| grd (k0 ≠ k175) <| grd (k173 ≠ k175) <| nm (newV V k175 (10, 0)) fun V => nm (newG g170 k175) fun g179 => grd (V k0 ≠ none) <| grd (V k175 ≠ none) <| grd (V k173 ≠ none) <| bna (r_X10_init V k175 g179) fun u187 V g186 => grd (okV V k173 4 (2 : Int32)) <| grd (V k175 = some (10, 0)) <| nm (sR g186 k173 (2 : Int32).toNatClampNeg (some k175)) fun g193 => grd (V k0 = some (11, 0)) <| Option.bind (g193.2.2 k0 4) fun k196 => nm (k0 + 58) fun k198 => grd (frK V g193 k198) <| grd (k0 ≠ k198) <| grd (k196 ≠ k198) <| nm (newV V k198 (10, 0)) fun V => nm (newG g193 k198) fun g202 => grd (V k0 ≠ none) <| grd (V k198 ≠ none) <| grd (V k196 ≠ none) <| bna (r_X10_init V k198 g202) fun u210 V g209 => grd (okV V k196 4 (3 : Int32)) <| grd (V k198 = some (10, 0)) <| nm (sR g209 k196 (3 : Int32).toNatClampNeg (some k198)) fun g216 => some ((), V, g216)
set_option maxHeartbeats 4000000 in
set_option maxRecDepth 100000 in
theorem c_X11_init {l : Launch} {D : va_G} {cA : Nat → ClassId} {sk : (Nat → Nat) × (Nat → Nat)} {ad : Nat → Nat} {A : Nat → Prop} {V : Vk} {k0 : Nat} {g g0 : Hq} {V1 : Vk} (hr : r_X11_init V k0 g = some ((), V1, g0)) : Met l yX11_init (wM yX11_init cX11_init 2 none) { frames := 3, cells := 66, slots := 11884, locals := 64 } (Pre D cA sk ad (V, g) A [.ref (ad k0)]) (QVa D cA A V ad V1 g0) 66 11884 A := by
  refine Met.ofW (cc := cX11_init) (maxL := 2) (ret := none) (by decide) rfl ?_
  intro p e s m args below meth c s₁ B hml hv
  obtain ⟨hargs, fx, w0⟩ := hv
  have hts := atoms_spec (ws := wM yX11_init cX11_init 2 none) B.pre
  have cx : CallFix p m c cX11_init 2 s args gw_tbl RX11 := ⟨B.exec, B.bytes, hml, findClass_of_methodNamed B.named, fun w hw => hts w (List.mem_cons_of_mem _ hw)⟩
  have hlocks := B.notSynchronized
  have hret := B.returns
  have hini : meth.name = "<init>" := (name_of_methodNamed B.named B.method).1
  have hR : 3 ≤ (headSpec (wM yX11_init cX11_init 2 none) { frames := 3, cells := 66, slots := 11884, locals := 64 }).room.frames ∧ 64 ≤ (headSpec (wM yX11_init cX11_init 2 none) { frames := 3, cells := 66, slots := 11884, locals := 64 }).room.locals := ⟨Nat.le_refl _, Nat.le_refl _⟩
  have dy : Dy D cA ad (V, g) A s.heap s.heap [] := ⟨w0, va_S.rf⟩
  have hl := lv_entry [.ref (ad k0)] (n := 2) (Nat.le_of_ble_eq_true rfl)
  have hef : entryFrame m args 2 = F0 m 0 ((lg_sl [.ref (ad k0)] ++ List.replicate (2 - (lg_sl [.ref (ad k0)]).length) Slot.unset).toArray) [] := by
    rw [hargs]
    exact lg_entry_eq m [.ref (ad k0)] 2
  rw [hef]
  clear hef hargs
  generalize (lg_sl [.ref (ad k0)] ++ List.replicate (2 - (lg_sl [.ref (ad k0)]).length) Slot.unset).toArray = ls at hl ⊢
  have hl : lv_has ls 2 [(0, .ref (ad k0))] := hl
  have dy0 : ∃ H0, H0 = s.heap ∧ Dy D cA ad (V, g) A s.heap H0 [] := ⟨_, rfl, dy⟩
  obtain ⟨z, ez⟩ : ∃ z : (Unit × Vk × Hq), z = ((), V1, g0) := ⟨_, rfl⟩
  rw [← ez] at hr
  have hq0 : ∀ (rb : Unit) (Vb : Vk) (gb : Hq), z = (rb, Vb, gb) → Vb = V1 ∧ gb = g0 := fun rb Vb gb eb => by rw [ez] at eb; cases eb; exact ⟨rfl, rfl⟩
  have hag : Ag V ad V ad := Ag.rf
  have hC : 66 ≤ (headSpec (wM yX11_init cX11_init 2 none) { frames := 3, cells := 66, slots := 11884, locals := 64 }).room.cells ∧ 11884 ≤ (headSpec (wM yX11_init cX11_init 2 none) { frames := 3, cells := 66, slots := 11884, locals := 64 }).room.slots := ⟨Nat.le_refl _, Nat.le_refl _⟩
  clear ez w0 dy0
  unfold r_X11_init at hr
  obtain ⟨H, hH⟩ : ∃ H, H = s.heap := ⟨_, rfl⟩
  obtain ⟨locs, hlo⟩ : ∃ q : List Loc, q = [] := ⟨_, rfl⟩
  have dy : Dy D cA ad (V, g) A s.heap H locs := by rw [hH, hlo]; exact dy
  suffices K : W p l e (headSpec (wM yX11_init cX11_init 2 none) { frames := 3, cells := 66, slots := 11884, locals := 64 }).room s m args below meth c H locs 0 0 (MQ below (QVa D cA A V ad V1 g0) args s 66 11884 A) (F0 m 0 ls []) by rw [hH, hlo] at K; exact K
  clear hH hlo
  refine lv_aload_n cx.1 cx.2.1 dX11_init_0 rfl (lv_at hl 0 rfl) ?_
  refine W.objInit cx.1 cx.2.1 cx.2.2.2.1 (cx.2.2.2.2 _ tb_75) (cx.2.2.2.2 _ tb_76) (cx.2.2.2.2 _ tb_77) rfl (hl.1.trans cx.2.2.1.symm) rfl dX11_init_1 (Nat.le_trans (by decide) hR.1) (Nat.le_trans (Nat.le_of_ble_eq_true rfl) hR.2) ?_
  refine W.eq (g2 := F0 m 4 ls []) rfl ?_
  refine lv_aload_n cx.1 cx.2.1 dX11_init_4 rfl (lv_at hl 0 rfl) ?_
  obtain ⟨k1, ek1, hr⟩ := of_nm hr
  obtain ⟨hf2, hr⟩ := of_grd hr
  obtain ⟨hn3, hr⟩ := of_grd hr
  obtain ⟨V, eV5, hr⟩ := of_nm hr
  obtain ⟨g4, eg4, hr⟩ := of_nm hr
  refine h_new cx fx dy hf2 nd_8 tb_78 (Nat.le_trans (by decide) hC.1) (Nat.le_trans (by decide) hC.2) dX11_init_5 (fun ad H hz dy => ?_)
  replace hag := Ag.new (q := (8, 0)) hag hf2.1 hz
  rw [← eV5] at hag
  replace dy : Dy D cA ad (V, g4) A s.heap H locs := by rw [eV5, eg4]; exact dy
  have ea6 := hz k0 hn3
  rw [← ea6] at hl
  rw [← ea6]
  refine W.widen (k := 1) (n := 2) (by decide) (by decide) ?_
  refine lv_dup cx.1 cx.2.1 dX11_init_8 rfl ?_
  obtain ⟨hn7, hr⟩ := of_grd hr
  obtain ⟨hn8, hr⟩ := of_grd hr
  obtain ⟨u10, V, g9, hc11, hr⟩ := of_bna hr
  refine r_va dy (k_IN (As := []) (b := k1) cx fx dy (c_X8_init hc11) mv_X8_init rfl rfl ⟨Nat.le_trans (by decide) hR.1, Nat.le_trans (by decide) hR.2⟩ tb_80 rfl hl.1 rfl (Nat.le_of_ble_eq_true rfl) ⟨Nat.le_trans (by decide) hC.1, Nat.le_trans (by decide) hC.2⟩ dX11_init_9) (fun ad H locs hz dy => ?_)
  replace hag := Ag.tr hag hz
  have ea12 := hz k0 hn7
  replace ea12 := ea12.2
  rw [← ea12] at hl
  rw [← ea12]
  have ea13 := hz k1 hn8
  replace ea13 := ea13.2
  rw [← ea13]
  refine W.widen (k := 2) (n := 802) (by decide) (by decide) ?_
  obtain ⟨hv14, hr⟩ := of_grd hr
  obtain ⟨g15, eg15, hr⟩ := of_nm hr
  refine h_putRF cx fx dy hini rfl fd_11_0 (pd_11_0 : PD _ _ _ _ _ (.object "WardWatch$Tape")) rfl rfl rfl hv14 tb_365 dX11_init_12 (fun H locs dy => ?_)
  replace dy : Dy D cA ad (V, g15) A s.heap H locs := by rw [eg15]; exact dy
  refine lv_aload_n cx.1 cx.2.1 dX11_init_15 rfl (lv_at hl 0 rfl) ?_
  obtain ⟨k16, ek16, hr⟩ := of_nm hr
  obtain ⟨hf17, hr⟩ := of_grd hr
  obtain ⟨hn18, hr⟩ := of_grd hr
  obtain ⟨V, eV20, hr⟩ := of_nm hr
  obtain ⟨g19, eg19, hr⟩ := of_nm hr
  refine h_new cx fx dy hf17 nd_9 tb_92 (Nat.le_trans (by decide) hC.1) (Nat.le_trans (by decide) hC.2) dX11_init_16 (fun ad H hz dy => ?_)
  replace hag := Ag.new (q := (9, 0)) hag hf17.1 hz
  rw [← eV20] at hag
  replace dy : Dy D cA ad (V, g19) A s.heap H locs := by rw [eV20, eg19]; exact dy
  have ea21 := hz k0 hn18
  rw [← ea21] at hl
  rw [← ea21]
  refine W.widen (k := 3) (n := 807) (by decide) (by decide) ?_
  refine lv_dup cx.1 cx.2.1 dX11_init_19 rfl ?_
  obtain ⟨hn22, hr⟩ := of_grd hr
  obtain ⟨hn23, hr⟩ := of_grd hr
  obtain ⟨u25, V, g24, hc26, hr⟩ := of_bna hr
  refine r_va dy (k_I (As := []) (b := k16) cx fx dy (c_X9_init hc26) mv_X9_init rfl rfl ⟨Nat.le_trans (by decide) hR.1, Nat.le_trans (by decide) hR.2⟩ tb_94 rfl hl.1 rfl (Nat.le_of_ble_eq_true rfl) ⟨Nat.le_trans (by decide) hC.1, Nat.le_trans (by decide) hC.2⟩ dX11_init_20) (fun ad H locs hz dy => ?_)
  replace hag := Ag.tr hag hz
  have ea27 := hz k0 hn22
  replace ea27 := ea27.2
  rw [← ea27] at hl
  rw [← ea27]
  have ea28 := hz k16 hn23
  replace ea28 := ea28.2
  rw [← ea28]
  refine W.widen (k := 7) (n := 1119) (by decide) (by decide) ?_
  obtain ⟨hv29, hr⟩ := of_grd hr
  obtain ⟨g30, eg30, hr⟩ := of_nm hr
  refine h_putRF cx fx dy hini rfl fd_11_1 (pd_11_1 : PD _ _ _ _ _ (.object "WardWatch$Town")) rfl rfl rfl hv29 tb_366 dX11_init_23 (fun H locs dy => ?_)
  replace dy : Dy D cA ad (V, g30) A s.heap H locs := by rw [eg30]; exact dy
  refine lv_aload_n cx.1 cx.2.1 dX11_init_26 rfl (lv_at hl 0 rfl) ?_
  obtain ⟨k31, ek31, hr⟩ := of_nm hr
  obtain ⟨hf32, hr⟩ := of_grd hr
  obtain ⟨hn33, hr⟩ := of_grd hr
  obtain ⟨V, eV35, hr⟩ := of_nm hr
  obtain ⟨g34, eg34, hr⟩ := of_nm hr
  refine h_new cx fx dy hf32 nd_6 tb_118 (Nat.le_trans (by decide) hC.1) (Nat.le_trans (by decide) hC.2) dX11_init_27 (fun ad H hz dy => ?_)
  replace hag := Ag.new (q := (6, 0)) hag hf32.1 hz
  rw [← eV35] at hag
  replace dy : Dy D cA ad (V, g34) A s.heap H locs := by rw [eV35, eg34]; exact dy
  have ea36 := hz k0 hn33
  rw [← ea36] at hl
  rw [← ea36]
  refine W.widen (k := 8) (n := 1131) (by decide) (by decide) ?_
  refine lv_dup cx.1 cx.2.1 dX11_init_30 rfl ?_
  obtain ⟨hn37, hr⟩ := of_grd hr
  obtain ⟨hn38, hr⟩ := of_grd hr
  obtain ⟨u40, V, g39, hc41, hr⟩ := of_bna hr
  refine r_va dy (k_I (As := []) (b := k31) cx fx dy (c_X6_init hc41) mv_X6_init rfl rfl ⟨Nat.le_trans (by decide) hR.1, Nat.le_trans (by decide) hR.2⟩ tb_120 rfl hl.1 rfl (Nat.le_of_ble_eq_true rfl) ⟨Nat.le_trans (by decide) hC.1, Nat.le_trans (by decide) hC.2⟩ dX11_init_31) (fun ad H locs hz dy => ?_)
  replace hag := Ag.tr hag hz
  have ea42 := hz k0 hn37
  replace ea42 := ea42.2
  rw [← ea42] at hl
  rw [← ea42]
  have ea43 := hz k31 hn38
  replace ea43 := ea43.2
  rw [← ea43]
  refine W.widen (k := 17) (n := 8953) (by decide) (by decide) ?_
  obtain ⟨hv44, hr⟩ := of_grd hr
  obtain ⟨g45, eg45, hr⟩ := of_nm hr
  refine h_putRF cx fx dy hini rfl fd_11_2 (pd_11_2 : PD _ _ _ _ _ (.object "WardWatch$Planner")) rfl rfl rfl hv44 tb_367 dX11_init_34 (fun H locs dy => ?_)
  replace dy : Dy D cA ad (V, g45) A s.heap H locs := by rw [eg45]; exact dy
  refine lv_aload_n cx.1 cx.2.1 dX11_init_37 rfl (lv_at hl 0 rfl) ?_
  obtain ⟨k46, ek46, hr⟩ := of_nm hr
  obtain ⟨hf47, hr⟩ := of_grd hr
  obtain ⟨hn48, hr⟩ := of_grd hr
  obtain ⟨V, eV50, hr⟩ := of_nm hr
  obtain ⟨g49, eg49, hr⟩ := of_nm hr
  refine h_new cx fx dy hf47 nd_3 tb_169 (Nat.le_trans (by decide) hC.1) (Nat.le_trans (by decide) hC.2) dX11_init_38 (fun ad H hz dy => ?_)
  replace hag := Ag.new (q := (3, 0)) hag hf47.1 hz
  rw [← eV50] at hag
  replace dy : Dy D cA ad (V, g49) A s.heap H locs := by rw [eV50, eg49]; exact dy
  have ea51 := hz k0 hn48
  rw [← ea51] at hl
  rw [← ea51]
  refine W.widen (k := 18) (n := 8961) (by decide) (by decide) ?_
  refine lv_dup cx.1 cx.2.1 dX11_init_41 rfl ?_
  refine lv_aload_n cx.1 cx.2.1 dX11_init_42 rfl (lv_at hl 0 rfl) ?_
  obtain ⟨hv52, hr⟩ := of_grd hr
  obtain ⟨k53, hf54, hr⟩ := of_bnd hr
  refine h_getR cx fx dy fd_11_0 hv52 tb_365 hf54 dX11_init_43 ?_
  obtain ⟨u56, g55, hc57, hr⟩ := of_bnd2 hr
  refine r_v dy (k_I (As := [.ref (ad k53)]) (b := k46) cx fx dy (c_X3_init hc57) mv_X3_init rfl rfl ⟨Nat.le_trans (by decide) hR.1, Nat.le_trans (by decide) hR.2⟩ tb_171 rfl hl.1 rfl (Nat.le_of_ble_eq_true rfl) ⟨Nat.le_trans (by decide) hC.1, Nat.le_trans (by decide) hC.2⟩ dX11_init_46) (fun H locs dy => ?_)
  obtain ⟨g58, eg58, hr⟩ := of_nm hr
  refine h_putRF cx fx dy hini rfl fd_11_3 (pd_11_3 : PD _ _ _ _ _ (.object "WardWatch$LawReader")) rfl rfl rfl hv52 tb_368 dX11_init_49 (fun H locs dy => ?_)
  replace dy : Dy D cA ad (V, g58) A s.heap H locs := by rw [eg58]; exact dy
  refine lv_aload_n cx.1 cx.2.1 dX11_init_52 rfl (lv_at hl 0 rfl) ?_
  refine lv_iconst (v := 4) cx.1 cx.2.1 dX11_init_53 (by decide) ?_
  obtain ⟨k59, ek59, hr⟩ := of_nm hr
  obtain ⟨hf60, hr⟩ := of_grd hr
  obtain ⟨hn61, hr⟩ := of_grd hr
  obtain ⟨V, eV63, hr⟩ := of_nm hr
  obtain ⟨g62, eg62, hr⟩ := of_nm hr
  refine h_newq (t := 4) cx fx dy hf60 (by decide) rfl tb_200 tb_201 (by decide) (by decide : (4 : Int32).toNatClampNeg = 4) (by decide) (Nat.le_trans (by decide) hC.1) (Nat.le_trans (by decide) hC.2) dX11_init_54 (fun ad H hz dy => ?_)
  replace hag := Ag.new (q := (104, 4)) hag hf60.1 hz
  rw [← eV63] at hag
  replace dy : Dy D cA ad (V, g62) A s.heap H locs := by rw [eV63, eg62]; exact dy
  have ea64 := hz k0 hn61
  rw [← ea64] at hl
  rw [← ea64]
  refine W.widen (k := 19) (n := 8965) (by decide) (by decide) ?_
  obtain ⟨hv65, hr⟩ := of_grd hr
  obtain ⟨g66, eg66, hr⟩ := of_nm hr
  refine h_putRF cx fx dy hini rfl fd_11_4 (pd_11_4 : PD _ _ _ _ _ (.array (.object "WardWatch$Ward"))) rfl rfl rfl hv65 tb_369 dX11_init_57 (fun H locs dy => ?_)
  replace dy : Dy D cA ad (V, g66) A s.heap H locs := by rw [eg66]; exact dy
  refine lv_aload_n cx.1 cx.2.1 dX11_init_60 rfl (lv_at hl 0 rfl) ?_
  obtain ⟨k67, ek67, hr⟩ := of_nm hr
  obtain ⟨hf68, hr⟩ := of_grd hr
  obtain ⟨hn69, hr⟩ := of_grd hr
  obtain ⟨V, eV71, hr⟩ := of_nm hr
  obtain ⟨g70, eg70, hr⟩ := of_nm hr
  refine h_new cx fx dy hf68 nd_7 tb_202 (Nat.le_trans (by decide) hC.1) (Nat.le_trans (by decide) hC.2) dX11_init_61 (fun ad H hz dy => ?_)
  replace hag := Ag.new (q := (7, 0)) hag hf68.1 hz
  rw [← eV71] at hag
  replace dy : Dy D cA ad (V, g70) A s.heap H locs := by rw [eV71, eg70]; exact dy
  have ea72 := hz k0 hn69
  rw [← ea72] at hl
  rw [← ea72]
  refine W.widen (k := 20) (n := 8967) (by decide) (by decide) ?_
  refine lv_dup cx.1 cx.2.1 dX11_init_64 rfl ?_
  obtain ⟨hn73, hr⟩ := of_grd hr
  obtain ⟨hn74, hr⟩ := of_grd hr
  obtain ⟨u76, V, g75, hc77, hr⟩ := of_bna hr
  refine r_va dy (k_IN (As := []) (b := k67) cx fx dy (c_X7_init hc77) mv_X7_init rfl rfl ⟨Nat.le_trans (by decide) hR.1, Nat.le_trans (by decide) hR.2⟩ tb_204 rfl hl.1 rfl (Nat.le_of_ble_eq_true rfl) ⟨Nat.le_trans (by decide) hC.1, Nat.le_trans (by decide) hC.2⟩ dX11_init_65) (fun ad H locs hz dy => ?_)
  replace hag := Ag.tr hag hz
  have ea78 := hz k0 hn73
  replace ea78 := ea78.2
  rw [← ea78] at hl
  rw [← ea78]
  have ea79 := hz k67 hn74
  replace ea79 := ea79.2
  rw [← ea79]
  refine W.widen (k := 21) (n := 9027) (by decide) (by decide) ?_
  obtain ⟨hv80, hr⟩ := of_grd hr
  obtain ⟨g81, eg81, hr⟩ := of_nm hr
  refine h_putRF cx fx dy hini rfl fd_11_5 (pd_11_5 : PD _ _ _ _ _ (.object "WardWatch$Roll")) rfl rfl rfl hv80 tb_370 dX11_init_68 (fun H locs dy => ?_)
  replace dy : Dy D cA ad (V, g81) A s.heap H locs := by rw [eg81]; exact dy
  refine lv_aload_n cx.1 cx.2.1 dX11_init_71 rfl (lv_at hl 0 rfl) ?_
  obtain ⟨k82, ek82, hr⟩ := of_nm hr
  obtain ⟨hf83, hr⟩ := of_grd hr
  obtain ⟨hn84, hr⟩ := of_grd hr
  obtain ⟨V, eV86, hr⟩ := of_nm hr
  obtain ⟨g85, eg85, hr⟩ := of_nm hr
  refine h_new cx fx dy hf83 nd_5 tb_217 (Nat.le_trans (by decide) hC.1) (Nat.le_trans (by decide) hC.2) dX11_init_72 (fun ad H hz dy => ?_)
  replace hag := Ag.new (q := (5, 0)) hag hf83.1 hz
  rw [← eV86] at hag
  replace dy : Dy D cA ad (V, g85) A s.heap H locs := by rw [eV86, eg85]; exact dy
  have ea87 := hz k0 hn84
  rw [← ea87] at hl
  rw [← ea87]
  refine W.widen (k := 22) (n := 9029) (by decide) (by decide) ?_
  refine lv_dup cx.1 cx.2.1 dX11_init_75 rfl ?_
  obtain ⟨hn88, hr⟩ := of_grd hr
  obtain ⟨hn89, hr⟩ := of_grd hr
  obtain ⟨u91, V, g90, hc92, hr⟩ := of_bna hr
  refine r_va dy (k_IN (As := []) (b := k82) cx fx dy (c_X5_init hc92) mv_X5_init rfl rfl ⟨Nat.le_trans (by decide) hR.1, Nat.le_trans (by decide) hR.2⟩ tb_219 rfl hl.1 rfl (Nat.le_of_ble_eq_true rfl) ⟨Nat.le_trans (by decide) hC.1, Nat.le_trans (by decide) hC.2⟩ dX11_init_76) (fun ad H locs hz dy => ?_)
  replace hag := Ag.tr hag hz
  have ea93 := hz k0 hn88
  replace ea93 := ea93.2
  rw [← ea93] at hl
  rw [← ea93]
  have ea94 := hz k82 hn89
  replace ea94 := ea94.2
  rw [← ea94]
  refine W.widen (k := 23) (n := 9129) (by decide) (by decide) ?_
  obtain ⟨hv95, hr⟩ := of_grd hr
  obtain ⟨g96, eg96, hr⟩ := of_nm hr
  refine h_putRF cx fx dy hini rfl fd_11_6 (pd_11_6 : PD _ _ _ _ _ (.object "WardWatch$Nights")) rfl rfl rfl hv95 tb_371 dX11_init_79 (fun H locs dy => ?_)
  replace dy : Dy D cA ad (V, g96) A s.heap H locs := by rw [eg96]; exact dy
  refine lv_aload_n cx.1 cx.2.1 dX11_init_82 rfl (lv_at hl 0 rfl) ?_
  obtain ⟨k97, ek97, hr⟩ := of_nm hr
  obtain ⟨hf98, hr⟩ := of_grd hr
  obtain ⟨hn99, hr⟩ := of_grd hr
  obtain ⟨V, eV101, hr⟩ := of_nm hr
  obtain ⟨g100, eg100, hr⟩ := of_nm hr
  refine h_new cx fx dy hf98 nd_1 tb_232 (Nat.le_trans (by decide) hC.1) (Nat.le_trans (by decide) hC.2) dX11_init_83 (fun ad H hz dy => ?_)
  replace hag := Ag.new (q := (1, 0)) hag hf98.1 hz
  rw [← eV101] at hag
  replace dy : Dy D cA ad (V, g100) A s.heap H locs := by rw [eV101, eg100]; exact dy
  have ea102 := hz k0 hn99
  rw [← ea102] at hl
  rw [← ea102]
  refine W.widen (k := 24) (n := 9133) (by decide) (by decide) ?_
  refine lv_dup cx.1 cx.2.1 dX11_init_86 rfl ?_
  obtain ⟨hn103, hr⟩ := of_grd hr
  obtain ⟨hn104, hr⟩ := of_grd hr
  obtain ⟨u106, V, g105, hc107, hr⟩ := of_bna hr
  refine r_va dy (k_IN (As := []) (b := k97) cx fx dy (c_X1_init hc107) mv_X1_init rfl rfl ⟨Nat.le_trans (by decide) hR.1, Nat.le_trans (by decide) hR.2⟩ tb_234 rfl hl.1 rfl (Nat.le_of_ble_eq_true rfl) ⟨Nat.le_trans (by decide) hC.1, Nat.le_trans (by decide) hC.2⟩ dX11_init_87) (fun ad H locs hz dy => ?_)
  replace hag := Ag.tr hag hz
  have ea108 := hz k0 hn103
  replace ea108 := ea108.2
  rw [← ea108] at hl
  rw [← ea108]
  have ea109 := hz k97 hn104
  replace ea109 := ea109.2
  rw [← ea109]
  refine W.widen (k := 25) (n := 9143) (by decide) (by decide) ?_
  obtain ⟨hv110, hr⟩ := of_grd hr
  obtain ⟨g111, eg111, hr⟩ := of_nm hr
  refine h_putRF cx fx dy hini rfl fd_11_7 (pd_11_7 : PD _ _ _ _ _ (.object "WardWatch$Flight")) rfl rfl rfl hv110 tb_372 dX11_init_90 (fun H locs dy => ?_)
  replace dy : Dy D cA ad (V, g111) A s.heap H locs := by rw [eg111]; exact dy
  refine lv_aload_n cx.1 cx.2.1 dX11_init_93 rfl (lv_at hl 0 rfl) ?_
  obtain ⟨k112, ek112, hr⟩ := of_nm hr
  obtain ⟨hf113, hr⟩ := of_grd hr
  obtain ⟨hn114, hr⟩ := of_grd hr
  obtain ⟨V, eV116, hr⟩ := of_nm hr
  obtain ⟨g115, eg115, hr⟩ := of_nm hr
  refine h_new cx fx dy hf113 nd_4 tb_251 (Nat.le_trans (by decide) hC.1) (Nat.le_trans (by decide) hC.2) dX11_init_94 (fun ad H hz dy => ?_)
  replace hag := Ag.new (q := (4, 0)) hag hf113.1 hz
  rw [← eV116] at hag
  replace dy : Dy D cA ad (V, g115) A s.heap H locs := by rw [eV116, eg115]; exact dy
  have ea117 := hz k0 hn114
  rw [← ea117] at hl
  rw [← ea117]
  refine W.widen (k := 26) (n := 9156) (by decide) (by decide) ?_
  refine lv_dup cx.1 cx.2.1 dX11_init_97 rfl ?_
  obtain ⟨hn118, hr⟩ := of_grd hr
  obtain ⟨hn119, hr⟩ := of_grd hr
  obtain ⟨u121, V, g120, hc122, hr⟩ := of_bna hr
  refine r_va dy (k_I (As := []) (b := k112) cx fx dy (c_X4_init hc122) mv_X4_init rfl rfl ⟨Nat.le_trans (by decide) hR.1, Nat.le_trans (by decide) hR.2⟩ tb_253 rfl hl.1 rfl (Nat.le_of_ble_eq_true rfl) ⟨Nat.le_trans (by decide) hC.1, Nat.le_trans (by decide) hC.2⟩ dX11_init_98) (fun ad H locs hz dy => ?_)
  replace hag := Ag.tr hag hz
  have ea123 := hz k0 hn118
  replace ea123 := ea123.2
  rw [← ea123] at hl
  rw [← ea123]
  have ea124 := hz k112 hn119
  replace ea124 := ea124.2
  rw [← ea124]
  refine W.widen (k := 30) (n := 9204) (by decide) (by decide) ?_
  obtain ⟨hv125, hr⟩ := of_grd hr
  obtain ⟨g126, eg126, hr⟩ := of_nm hr
  refine h_putR cx fx dy fd_11_8 (pd_11_8 : PD _ _ _ _ _ (.object "WardWatch$Laws")) rfl rfl rfl hv125 tb_373 dX11_init_101 (fun H locs dy => ?_)
  replace dy : Dy D cA ad (V, g126) A s.heap H locs := by rw [eg126]; exact dy
  refine lv_iconst (v := 0) cx.1 cx.2.1 dX11_init_104 (by decide) ?_
  refine lv_istore_n (lv' := [(1, .int (0 : Int32)), (0, .ref (ad k0))]) cx.1 cx.2.1 dX11_init_105 rfl hl (by decide) rfl (fun ls hl => ?_)
  refine lv_iload_n cx.1 cx.2.1 dX11_init_106 rfl (lv_at hl 0 rfl) ?_
  refine lv_iconst (v := 4) cx.1 cx.2.1 dX11_init_107 (by decide) ?_
  refine lv_icmp_ge (tgt := 130) cx.1 cx.2.1 dX11_init_108 (by decide) (fun hn => absurd hn (by decide)) (fun _ => ?_)
  refine lv_aload_n cx.1 cx.2.1 dX11_init_111 rfl (lv_at hl 1 rfl) ?_
  obtain ⟨k127, hf128, hr⟩ := of_bnd hr
  refine h_getR cx fx dy fd_11_4 hv125 tb_369 hf128 dX11_init_112 ?_
  refine lv_iload_n cx.1 cx.2.1 dX11_init_115 rfl (lv_at hl 0 rfl) ?_
  obtain ⟨k129, ek129, hr⟩ := of_nm hr
  obtain ⟨hf130, hr⟩ := of_grd hr
  obtain ⟨hn131, hr⟩ := of_grd hr
  obtain ⟨hn132, hr⟩ := of_grd hr
  obtain ⟨V, eV134, hr⟩ := of_nm hr
  obtain ⟨g133, eg133, hr⟩ := of_nm hr
  refine h_new cx fx dy hf130 nd_10 tb_200 (Nat.le_trans (by decide) hC.1) (Nat.le_trans (by decide) hC.2) dX11_init_116 (fun ad H hz dy => ?_)
  replace hag := Ag.new (q := (10, 0)) hag hf130.1 hz
  rw [← eV134] at hag
  replace dy : Dy D cA ad (V, g133) A s.heap H locs := by rw [eV134, eg133]; exact dy
  have ea135 := hz k0 hn131
  rw [← ea135] at hl
  have ea136 := hz k127 hn132
  rw [← ea136]
  refine W.widen (k := 31) (n := 9213) (by decide) (by decide) ?_
  refine lv_dup cx.1 cx.2.1 dX11_init_119 rfl ?_
  obtain ⟨hn137, hr⟩ := of_grd hr
  obtain ⟨hn138, hr⟩ := of_grd hr
  obtain ⟨hn139, hr⟩ := of_grd hr
  obtain ⟨u141, V, g140, hc142, hr⟩ := of_bna hr
  refine r_va dy (k_IN (As := []) (b := k129) cx fx dy (c_X10_init hc142) mv_X10_init rfl rfl ⟨Nat.le_trans (by decide) hR.1, Nat.le_trans (by decide) hR.2⟩ tb_321 rfl hl.1 rfl (Nat.le_of_ble_eq_true rfl) ⟨Nat.le_trans (by decide) hC.1, Nat.le_trans (by decide) hC.2⟩ dX11_init_120) (fun ad H locs hz dy => ?_)
  replace hag := Ag.tr hag hz
  have ea143 := hz k0 hn137
  replace ea143 := ea143.2
  rw [← ea143] at hl
  have ea144 := hz k129 hn138
  replace ea144 := ea144.2
  rw [← ea144]
  have ea145 := hz k127 hn139
  replace ea145 := ea145.2
  rw [← ea145]
  refine W.widen (k := 39) (n := 9874) (by decide) (by decide) ?_
  obtain ⟨ha146, hr⟩ := of_grd hr
  obtain ⟨hv148, hr⟩ := of_grd hr
  obtain ⟨g147, eg147, hr⟩ := of_nm hr
  refine h_aast (t := 4) (ci := 10) cx fx dy (by decide) rfl rfl (by decide) ha146 hv148 dX11_init_123 (fun H locs dy => ?_)
  replace dy : Dy D cA ad (V, g147) A s.heap H locs := by rw [eg147]; exact dy
  refine lv_iinc (v := (1 : Int32)) (lv' := [(1, .int (1 : Int32)), (0, .ref (ad k0))]) cx.1 cx.2.1 dX11_init_124 hl (k := 0) rfl (by decide) (by decide) rfl (fun ls hl => ?_)
  refine lv_goto (tgt := 106) cx.1 cx.2.1 dX11_init_127 (by decide) ?_
  refine lv_iload_n cx.1 cx.2.1 dX11_init_106 rfl (lv_at hl 0 rfl) ?_
  refine lv_iconst (v := 4) cx.1 cx.2.1 dX11_init_107 (by decide) ?_
  refine lv_icmp_ge (tgt := 130) cx.1 cx.2.1 dX11_init_108 (by decide) (fun hn => absurd hn (by decide)) (fun _ => ?_)
  refine lv_aload_n cx.1 cx.2.1 dX11_init_111 rfl (lv_at hl 1 rfl) ?_
  obtain ⟨hv149, hr⟩ := of_grd hr
  obtain ⟨k150, hf151, hr⟩ := of_bnd hr
  refine h_getR cx fx dy fd_11_4 hv149 tb_369 hf151 dX11_init_112 ?_
  refine lv_iload_n cx.1 cx.2.1 dX11_init_115 rfl (lv_at hl 0 rfl) ?_
  obtain ⟨k152, ek152, hr⟩ := of_nm hr
  obtain ⟨hf153, hr⟩ := of_grd hr
  obtain ⟨hn154, hr⟩ := of_grd hr
  obtain ⟨hn155, hr⟩ := of_grd hr
  obtain ⟨V, eV157, hr⟩ := of_nm hr
  obtain ⟨g156, eg156, hr⟩ := of_nm hr
  refine h_new cx fx dy hf153 nd_10 tb_200 (Nat.le_trans (by decide) hC.1) (Nat.le_trans (by decide) hC.2) dX11_init_116 (fun ad H hz dy => ?_)
  replace hag := Ag.new (q := (10, 0)) hag hf153.1 hz
  rw [← eV157] at hag
  replace dy : Dy D cA ad (V, g156) A s.heap H locs := by rw [eV157, eg156]; exact dy
  have ea158 := hz k0 hn154
  rw [← ea158] at hl
  have ea159 := hz k150 hn155
  rw [← ea159]
  refine W.widen (k := 40) (n := 9883) (by decide) (by decide) ?_
  refine lv_dup cx.1 cx.2.1 dX11_init_119 rfl ?_
  obtain ⟨hn160, hr⟩ := of_grd hr
  obtain ⟨hn161, hr⟩ := of_grd hr
  obtain ⟨hn162, hr⟩ := of_grd hr
  obtain ⟨u164, V, g163, hc165, hr⟩ := of_bna hr
  refine r_va dy (k_IN (As := []) (b := k152) cx fx dy (c_X10_init hc165) mv_X10_init rfl rfl ⟨Nat.le_trans (by decide) hR.1, Nat.le_trans (by decide) hR.2⟩ tb_321 rfl hl.1 rfl (Nat.le_of_ble_eq_true rfl) ⟨Nat.le_trans (by decide) hC.1, Nat.le_trans (by decide) hC.2⟩ dX11_init_120) (fun ad H locs hz dy => ?_)
  replace hag := Ag.tr hag hz
  have ea166 := hz k0 hn160
  replace ea166 := ea166.2
  rw [← ea166] at hl
  have ea167 := hz k152 hn161
  replace ea167 := ea167.2
  rw [← ea167]
  have ea168 := hz k150 hn162
  replace ea168 := ea168.2
  rw [← ea168]
  refine W.widen (k := 48) (n := 10544) (by decide) (by decide) ?_
  obtain ⟨ha169, hr⟩ := of_grd hr
  obtain ⟨hv171, hr⟩ := of_grd hr
  obtain ⟨g170, eg170, hr⟩ := of_nm hr
  refine h_aast (t := 4) (ci := 10) cx fx dy (by decide) rfl rfl (by decide) ha169 hv171 dX11_init_123 (fun H locs dy => ?_)
  replace dy : Dy D cA ad (V, g170) A s.heap H locs := by rw [eg170]; exact dy
  refine lv_iinc (v := (2 : Int32)) (lv' := [(1, .int (2 : Int32)), (0, .ref (ad k0))]) cx.1 cx.2.1 dX11_init_124 hl (k := 0) rfl (by decide) (by decide) rfl (fun ls hl => ?_)
  refine lv_goto (tgt := 106) cx.1 cx.2.1 dX11_init_127 (by decide) ?_
  refine lv_iload_n cx.1 cx.2.1 dX11_init_106 rfl (lv_at hl 0 rfl) ?_
  refine lv_iconst (v := 4) cx.1 cx.2.1 dX11_init_107 (by decide) ?_
  refine lv_icmp_ge (tgt := 130) cx.1 cx.2.1 dX11_init_108 (by decide) (fun hn => absurd hn (by decide)) (fun _ => ?_)
  refine lv_aload_n cx.1 cx.2.1 dX11_init_111 rfl (lv_at hl 1 rfl) ?_
  obtain ⟨hv172, hr⟩ := of_grd hr
  obtain ⟨k173, hf174, hr⟩ := of_bnd hr
  refine h_getR cx fx dy fd_11_4 hv172 tb_369 hf174 dX11_init_112 ?_
  refine lv_iload_n cx.1 cx.2.1 dX11_init_115 rfl (lv_at hl 0 rfl) ?_
  obtain ⟨k175, ek175, hr⟩ := of_nm hr
  obtain ⟨hf176, hr⟩ := of_grd hr
  obtain ⟨hn177, hr⟩ := of_grd hr
  obtain ⟨hn178, hr⟩ := of_grd hr
  obtain ⟨V, eV180, hr⟩ := of_nm hr
  obtain ⟨g179, eg179, hr⟩ := of_nm hr
  refine h_new cx fx dy hf176 nd_10 tb_200 (Nat.le_trans (by decide) hC.1) (Nat.le_trans (by decide) hC.2) dX11_init_116 (fun ad H hz dy => ?_)
  replace hag := Ag.new (q := (10, 0)) hag hf176.1 hz
  rw [← eV180] at hag
  replace dy : Dy D cA ad (V, g179) A s.heap H locs := by rw [eV180, eg179]; exact dy
  have ea181 := hz k0 hn177
  rw [← ea181] at hl
  have ea182 := hz k173 hn178
  rw [← ea182]
  refine W.widen (k := 49) (n := 10553) (by decide) (by decide) ?_
  refine lv_dup cx.1 cx.2.1 dX11_init_119 rfl ?_
  obtain ⟨hn183, hr⟩ := of_grd hr
  obtain ⟨hn184, hr⟩ := of_grd hr
  obtain ⟨hn185, hr⟩ := of_grd hr
  obtain ⟨u187, V, g186, hc188, hr⟩ := of_bna hr
  refine r_va dy (k_IN (As := []) (b := k175) cx fx dy (c_X10_init hc188) mv_X10_init rfl rfl ⟨Nat.le_trans (by decide) hR.1, Nat.le_trans (by decide) hR.2⟩ tb_321 rfl hl.1 rfl (Nat.le_of_ble_eq_true rfl) ⟨Nat.le_trans (by decide) hC.1, Nat.le_trans (by decide) hC.2⟩ dX11_init_120) (fun ad H locs hz dy => ?_)
  replace hag := Ag.tr hag hz
  have ea189 := hz k0 hn183
  replace ea189 := ea189.2
  rw [← ea189] at hl
  have ea190 := hz k175 hn184
  replace ea190 := ea190.2
  rw [← ea190]
  have ea191 := hz k173 hn185
  replace ea191 := ea191.2
  rw [← ea191]
  refine W.widen (k := 57) (n := 11214) (by decide) (by decide) ?_
  obtain ⟨ha192, hr⟩ := of_grd hr
  obtain ⟨hv194, hr⟩ := of_grd hr
  obtain ⟨g193, eg193, hr⟩ := of_nm hr
  refine h_aast (t := 4) (ci := 10) cx fx dy (by decide) rfl rfl (by decide) ha192 hv194 dX11_init_123 (fun H locs dy => ?_)
  replace dy : Dy D cA ad (V, g193) A s.heap H locs := by rw [eg193]; exact dy
  refine lv_iinc (v := (3 : Int32)) (lv' := [(1, .int (3 : Int32)), (0, .ref (ad k0))]) cx.1 cx.2.1 dX11_init_124 hl (k := 0) rfl (by decide) (by decide) rfl (fun ls hl => ?_)
  refine lv_goto (tgt := 106) cx.1 cx.2.1 dX11_init_127 (by decide) ?_
  refine lv_iload_n cx.1 cx.2.1 dX11_init_106 rfl (lv_at hl 0 rfl) ?_
  refine lv_iconst (v := 4) cx.1 cx.2.1 dX11_init_107 (by decide) ?_
  refine lv_icmp_ge (tgt := 130) cx.1 cx.2.1 dX11_init_108 (by decide) (fun hn => absurd hn (by decide)) (fun _ => ?_)
  refine lv_aload_n cx.1 cx.2.1 dX11_init_111 rfl (lv_at hl 1 rfl) ?_
  obtain ⟨hv195, hr⟩ := of_grd hr
  obtain ⟨k196, hf197, hr⟩ := of_bnd hr
  refine h_getR cx fx dy fd_11_4 hv195 tb_369 hf197 dX11_init_112 ?_
  refine lv_iload_n cx.1 cx.2.1 dX11_init_115 rfl (lv_at hl 0 rfl) ?_
  obtain ⟨k198, ek198, hr⟩ := of_nm hr
  obtain ⟨hf199, hr⟩ := of_grd hr
  obtain ⟨hn200, hr⟩ := of_grd hr
  obtain ⟨hn201, hr⟩ := of_grd hr
  obtain ⟨V, eV203, hr⟩ := of_nm hr
  obtain ⟨g202, eg202, hr⟩ := of_nm hr
  refine h_new cx fx dy hf199 nd_10 tb_200 (Nat.le_trans (by decide) hC.1) (Nat.le_trans (by decide) hC.2) dX11_init_116 (fun ad H hz dy => ?_)
  replace hag := Ag.new (q := (10, 0)) hag hf199.1 hz
  rw [← eV203] at hag
  replace dy : Dy D cA ad (V, g202) A s.heap H locs := by rw [eV203, eg202]; exact dy
  have ea204 := hz k0 hn200
  rw [← ea204] at hl
  have ea205 := hz k196 hn201
  rw [← ea205]
  refine W.widen (k := 58) (n := 11223) (by decide) (by decide) ?_
  refine lv_dup cx.1 cx.2.1 dX11_init_119 rfl ?_
  obtain ⟨hn206, hr⟩ := of_grd hr
  obtain ⟨hn207, hr⟩ := of_grd hr
  obtain ⟨hn208, hr⟩ := of_grd hr
  obtain ⟨u210, V, g209, hc211, hr⟩ := of_bna hr
  refine r_va dy (k_IN (As := []) (b := k198) cx fx dy (c_X10_init hc211) mv_X10_init rfl rfl ⟨Nat.le_trans (by decide) hR.1, Nat.le_trans (by decide) hR.2⟩ tb_321 rfl hl.1 rfl (Nat.le_of_ble_eq_true rfl) ⟨Nat.le_trans (by decide) hC.1, Nat.le_trans (by decide) hC.2⟩ dX11_init_120) (fun ad H locs hz dy => ?_)
  replace hag := Ag.tr hag hz
  have ea212 := hz k0 hn206
  replace ea212 := ea212.2
  rw [← ea212] at hl
  have ea213 := hz k198 hn207
  replace ea213 := ea213.2
  rw [← ea213]
  have ea214 := hz k196 hn208
  replace ea214 := ea214.2
  rw [← ea214]
  refine W.widen (k := 66) (n := 11884) (by decide) (by decide) ?_
  obtain ⟨ha215, hr⟩ := of_grd hr
  obtain ⟨hv217, hr⟩ := of_grd hr
  obtain ⟨g216, eg216, hr⟩ := of_nm hr
  refine h_aast (t := 4) (ci := 10) cx fx dy (by decide) rfl rfl (by decide) ha215 hv217 dX11_init_123 (fun H locs dy => ?_)
  replace dy : Dy D cA ad (V, g216) A s.heap H locs := by rw [eg216]; exact dy
  refine lv_iinc (v := (4 : Int32)) (lv' := [(1, .int (4 : Int32)), (0, .ref (ad k0))]) cx.1 cx.2.1 dX11_init_124 hl (k := 0) rfl (by decide) (by decide) rfl (fun ls hl => ?_)
  refine lv_goto (tgt := 106) cx.1 cx.2.1 dX11_init_127 (by decide) ?_
  refine lv_iload_n cx.1 cx.2.1 dX11_init_106 rfl (lv_at hl 0 rfl) ?_
  refine lv_iconst (v := 4) cx.1 cx.2.1 dX11_init_107 (by decide) ?_
  refine lv_icmp_ge (tgt := 130) cx.1 cx.2.1 dX11_init_108 (by decide) (fun _ => ?_) (fun hn => absurd hn (by decide))
  refine W.widen (k := 66) (n := 11884) (by decide) (by decide) ?_
  obtain ⟨e1, e2⟩ := hq0 _ _ _ (Option.some.inj hr).symm
  exact h_vretA cx dy hag hlocks hret e1 e2 dX11_init_130
noncomputable def r_X12_init_388' (V : Vk) (k314 : Nat) (x315 : Int32) (x316 : Int32) (g317 : Hq) : Option ((Nat × Int32 × Int32 × Hq) ⊕ ((Nat × Int32 × Hq) ⊕ (Unit × Vk × Hq))) :=
  brn ((8 : Int32) ≤ x316) (nm (x315 + (1 : Int32)) fun x318 => some (.inr (.inl (k314, x318, g317)))) (grd (V k314 = some (12, 0)) <| Option.bind (g317.2.2 k314 29) fun k320 => bnd (r_X12_plain V x316 g317) fun x323 g322 => grd (okV V k320 0 (((8 : Int32) * x315) + x316)) <| nm (sI g322 k320 (((8 : Int32) * x315) + x316).toNatClampNeg x323) fun g326 => nm (x316 + (1 : Int32)) fun x327 => some (.inl (k314, x315, x327, g326)))
noncomputable def r_X12_init_388 (V : Vk) (st : (Nat × Int32 × Int32 × Hq)) : Option ((Nat × Int32 × Int32 × Hq) ⊕ ((Nat × Int32 × Hq) ⊕ (Unit × Vk × Hq))) := r_X12_init_388' V st.1 st.2.1 st.2.2.1 st.2.2.2
set_option maxHeartbeats 4000000 in
set_option maxRecDepth 100000 in
theorem w_X12_init_388 {p : Program} {l : Launch} {e : Env} {R : Room} {s : State} {m : MethodId} {args : Array Value} {below : List Frame} {meth : Method} {c : Code} {D : va_G} {cA : Nat → ClassId} {sk : (Nat → Nat) × (Nat → Nat)} {ad : Nat → Nat} {A : Nat → Prop} {V : Vk} (cx : CallFix p m c cX12_init 3 s args gw_tbl RX12) (fx : Fx D cA sk A s) (hlocks : meth.locks = false) (hret : meth.sig.returnType = none) (hR : 1 ≤ R.frames ∧ 24 ≤ R.locals) {V0 : Vk} {ad0 : Nat → Nat} (hag : Ag V0 ad0 V ad) (hC : 36 ≤ R.cells ∧ 19730 ≤ R.slots) (V1 : Vk) (g0 : Hq) (y : ((Nat × Int32 × Hq) ⊕ (Unit × Vk × Hq))) (hk0 : ∀ (b0 : Nat) (b1 : Int32) (gb : Hq), y = (.inl (b0, b1, gb)) → ∀ (H : Heap) (locs : List Loc) (ls : Array Slot), Dy D cA ad (V, gb) A s.heap H locs → lv_has ls 3 [(0, .ref (ad b0)), (1, .int b1)] → W p l e R s m args below meth c H locs 36 19730 (MQ below (QVa D cA A V0 ad0 V1 g0) args s 36 19730 A) (F0 m 367 ls [])) (hq : ∀ (rb : Unit) (Vb : Vk) (gb : Hq), y = (.inr (rb, Vb, gb)) → Vb = V1 ∧ gb = g0) : ∀ (n : Nat) (k314 : Nat) (x315 : Int32) (x316 : Int32) (g317 : Hq), itr (r_X12_init_388 V) n (k314, x315, x316, g317) = some y → ∀ (H : Heap) (locs : List Loc) (ls : Array Slot), Dy D cA ad (V, g317) A s.heap H locs → lv_has ls 3 [(0, .ref (ad k314)), (1, .int x315), (2, .int x316)] → W p l e R s m args below meth c H locs 36 19730 (MQ below (QVa D cA A V0 ad0 V1 g0) args s 36 19730 A) (F0 m 388 ls []) := by
  intro n
  induction n with
  | zero => intro k314 x315 x316 g317 hr; cases hr
  | succ n ih =>
    intro k314 x315 x316 g317 hr H locs ls dy hl
    obtain ⟨z, hz, hn1, hn2⟩ := itr_succ hr
    clear hr
    have hr : r_X12_init_388' V k314 x315 x316 g317 = some z := hz
    clear hz
    unfold r_X12_init_388' at hr
    have hh0 : ∀ (b0 : Nat) (b1 : Int32) (b2 : Int32) (gb : Hq), z = .inl (b0, b1, b2, gb) → ∀ (H : Heap) (locs : List Loc) (ls : Array Slot), Dy D cA ad (V, gb) A s.heap H locs → lv_has ls 3 [(0, .ref (ad b0)), (1, .int b1), (2, .int b2)] → W p l e R s m args below meth c H locs 36 19730 (MQ below (QVa D cA A V0 ad0 V1 g0) args s 36 19730 A) (F0 m 388 ls []) := fun b0 b1 b2 gb eb => ih b0 b1 b2 gb (hn1 _ eb)
    have hh1 : ∀ (b0 : Nat) (b1 : Int32) (gb : Hq), z = (.inr (.inl (b0, b1, gb))) → ∀ (H : Heap) (locs : List Loc) (ls : Array Slot), Dy D cA ad (V, gb) A s.heap H locs → lv_has ls 3 [(0, .ref (ad b0)), (1, .int b1)] → W p l e R s m args below meth c H locs 36 19730 (MQ below (QVa D cA A V0 ad0 V1 g0) args s 36 19730 A) (F0 m 367 ls []) := fun b0 b1 gb eb => hk0 b0 b1 gb (hn2 _ eb).symm
    have hq0 : ∀ (rb : Unit) (Vb : Vk) (gb : Hq), z = (.inr (.inr (rb, Vb, gb))) → Vb = V1 ∧ gb = g0 := fun rb Vb gb eb => hq rb Vb gb (hn2 _ eb).symm
    refine lv_iload_n cx.1 cx.2.1 dX12_init_388 rfl (lv_at hl 2 rfl) ?_
    refine lv_bipush (v := 8) cx.1 cx.2.1 dX12_init_389 (by decide) ?_
    rcases of_brn hr with ⟨hc, hr⟩ | ⟨hc, hr⟩
    · refine lv_icmp_ge (tgt := 415) cx.1 cx.2.1 dX12_init_391 (by decide) (fun _ => ?_) (fun hn => absurd hc hn)
      obtain ⟨x318, ex318, hr⟩ := of_nm hr
      refine lv_iinc (v := x318) (lv' := [(1, .int x318), (0, .ref (ad k314)), (2, .int x316)]) cx.1 cx.2.1 dX12_init_415 hl (k := 1) rfl (by rw [ex318]; rfl) (by decide) rfl (fun ls hl => ?_)
      refine lv_goto (tgt := 367) cx.1 cx.2.1 dX12_init_418 (by decide) ?_
      exact hh1 k314 x318 g317 (Option.some.inj hr).symm H locs ls dy (lv_sub hl [1, 0] rfl)
    · refine lv_icmp_ge (tgt := 415) cx.1 cx.2.1 dX12_init_391 (by decide) (fun hn => absurd hn hc) (fun _ => ?_)
      refine lv_aload_n cx.1 cx.2.1 dX12_init_394 rfl (lv_at hl 0 rfl) ?_
      obtain ⟨hv319, hr⟩ := of_grd hr
      obtain ⟨k320, hf321, hr⟩ := of_bnd hr
      refine h_getR cx fx dy fd_12_29 hv319 tb_1015 hf321 dX12_init_395 ?_
      refine lv_bipush (v := 8) cx.1 cx.2.1 dX12_init_398 (by decide) ?_
      refine lv_iload_n cx.1 cx.2.1 dX12_init_400 rfl (lv_at hl 1 rfl) ?_
      refine lv_imul cx.1 cx.2.1 dX12_init_401 ?_
      refine lv_iload_n cx.1 cx.2.1 dX12_init_402 rfl (lv_at hl 2 rfl) ?_
      refine lv_iadd cx.1 cx.2.1 dX12_init_403 ?_
      refine lv_iload_n cx.1 cx.2.1 dX12_init_404 rfl (lv_at hl 2 rfl) ?_
      obtain ⟨x323, g322, hc324, hr⟩ := of_bnd2 hr
      refine r_i dy (k_S (As := [.int x316]) cx fx dy (c_X12_plain hc324) mv_X12_plain rfl rfl ⟨Nat.le_trans (by decide) hR.1, Nat.le_trans (by decide) hR.2⟩ tb_978 rfl hl.1 rfl (Nat.le_of_ble_eq_true rfl) ⟨Nat.le_trans (by decide) hC.1, Nat.le_trans (by decide) hC.2⟩ dX12_init_405) (fun H locs dy => ?_)
      obtain ⟨ha325, hr⟩ := of_grd hr
      obtain ⟨g326, eg326, hr⟩ := of_nm hr
      refine h_iast cx fx dy ha325 dX12_init_408 (fun H locs dy => ?_)
      replace dy : Dy D cA ad (V, g326) A s.heap H locs := by rw [eg326]; exact dy
      obtain ⟨x327, ex327, hr⟩ := of_nm hr
      refine lv_iinc (v := x327) (lv' := [(2, .int x327), (0, .ref (ad k314)), (1, .int x315)]) cx.1 cx.2.1 dX12_init_409 hl (k := 2) rfl (by rw [ex327]; rfl) (by decide) rfl (fun ls hl => ?_)
      refine lv_goto (tgt := 388) cx.1 cx.2.1 dX12_init_412 (by decide) ?_
      exact hh0 k314 x315 x327 g326 (Option.some.inj hr).symm H locs ls dy (lv_sub hl [1, 2, 0] rfl)
noncomputable def r_X12_init_367' (V : Vk) (k298 : Nat) (x299 : Int32) (g300 : Hq) : Option ((Nat × Int32 × Hq) ⊕ (Unit × Vk × Hq)) :=
  brn ((4 : Int32) ≤ x299) (grd (V k298 = some (12, 0)) <| bnd (r_X12_makeFar V k298 g300) fun u302 g301 => some (.inr ((), V, g301))) (grd (V k298 = some (12, 0)) <| Option.bind (g300.2.2 k298 39) fun k306 => grd (okV V k306 0 x299) <| nm (sI g300 k306 x299.toNatClampNeg (-1 : Int32)) fun g309 => Option.bind (g309.2.2 k298 40) fun k310 => grd (okV V k310 0 x299) <| nm (sI g309 k310 x299.toNatClampNeg (-1 : Int32)) fun g313 => (lop (r_X12_init_388 V) (k298, x299, (0 : Int32), g313)))
noncomputable def r_X12_init_367 (V : Vk) (st : (Nat × Int32 × Hq)) : Option ((Nat × Int32 × Hq) ⊕ (Unit × Vk × Hq)) := r_X12_init_367' V st.1 st.2.1 st.2.2
set_option maxHeartbeats 4000000 in
set_option maxRecDepth 100000 in
theorem w_X12_init_367 {p : Program} {l : Launch} {e : Env} {R : Room} {s : State} {m : MethodId} {args : Array Value} {below : List Frame} {meth : Method} {c : Code} {D : va_G} {cA : Nat → ClassId} {sk : (Nat → Nat) × (Nat → Nat)} {ad : Nat → Nat} {A : Nat → Prop} {V : Vk} (cx : CallFix p m c cX12_init 3 s args gw_tbl RX12) (fx : Fx D cA sk A s) (hlocks : meth.locks = false) (hret : meth.sig.returnType = none) (hR : 1 ≤ R.frames ∧ 24 ≤ R.locals) {V0 : Vk} {ad0 : Nat → Nat} (hag : Ag V0 ad0 V ad) (hC : 36 ≤ R.cells ∧ 19730 ≤ R.slots) (V1 : Vk) (g0 : Hq) (y : (Unit × Vk × Hq)) (hq : ∀ (rb : Unit) (Vb : Vk) (gb : Hq), y = (rb, Vb, gb) → Vb = V1 ∧ gb = g0) : ∀ (n : Nat) (k298 : Nat) (x299 : Int32) (g300 : Hq), itr (r_X12_init_367 V) n (k298, x299, g300) = some y → ∀ (H : Heap) (locs : List Loc) (ls : Array Slot), Dy D cA ad (V, g300) A s.heap H locs → lv_has ls 3 [(0, .ref (ad k298)), (1, .int x299)] → W p l e R s m args below meth c H locs 36 19730 (MQ below (QVa D cA A V0 ad0 V1 g0) args s 36 19730 A) (F0 m 367 ls []) := by
  intro n
  induction n with
  | zero => intro k298 x299 g300 hr; cases hr
  | succ n ih =>
    intro k298 x299 g300 hr H locs ls dy hl
    obtain ⟨z, hz, hn1, hn2⟩ := itr_succ hr
    clear hr
    have hr : r_X12_init_367' V k298 x299 g300 = some z := hz
    clear hz
    unfold r_X12_init_367' at hr
    have hh0 : ∀ (b0 : Nat) (b1 : Int32) (gb : Hq), z = .inl (b0, b1, gb) → ∀ (H : Heap) (locs : List Loc) (ls : Array Slot), Dy D cA ad (V, gb) A s.heap H locs → lv_has ls 3 [(0, .ref (ad b0)), (1, .int b1)] → W p l e R s m args below meth c H locs 36 19730 (MQ below (QVa D cA A V0 ad0 V1 g0) args s 36 19730 A) (F0 m 367 ls []) := fun b0 b1 gb eb => ih b0 b1 gb (hn1 _ eb)
    have hq0 : ∀ (rb : Unit) (Vb : Vk) (gb : Hq), z = (.inr (rb, Vb, gb)) → Vb = V1 ∧ gb = g0 := fun rb Vb gb eb => hq rb Vb gb (hn2 _ eb).symm
    refine lv_iload_n cx.1 cx.2.1 dX12_init_367 rfl (lv_at hl 1 rfl) ?_
    refine lv_iconst (v := 4) cx.1 cx.2.1 dX12_init_368 (by decide) ?_
    rcases of_brn hr with ⟨hc, hr⟩ | ⟨hc, hr⟩
    · refine lv_icmp_ge (tgt := 421) cx.1 cx.2.1 dX12_init_369 (by decide) (fun _ => ?_) (fun hn => absurd hc hn)
      refine lv_aload_n cx.1 cx.2.1 dX12_init_421 rfl (lv_at hl 0 rfl) ?_
      obtain ⟨hv303, hr⟩ := of_grd hr
      obtain ⟨u302, g301, hc304, hr⟩ := of_bnd2 hr
      refine r_v dy (k_V (As := []) (b := k298) (ci := 12) cx fx dy (c_X12_makeFar hc304) mv_X12_makeFar rfl rfl ⟨Nat.le_trans (by decide) hR.1, Nat.le_trans (by decide) hR.2⟩ tb_981 hv303 rfl (by decide) rfl hl.1 rfl (Nat.le_of_ble_eq_true rfl) ⟨Nat.le_trans (by decide) hC.1, Nat.le_trans (by decide) hC.2⟩ dX12_init_422) (fun H locs dy => ?_)
      refine W.widen (k := 36) (n := 19730) (by decide) (by decide) ?_
      obtain ⟨e1, e2⟩ := hq0 _ _ _ (Option.some.inj hr).symm
      exact h_vretA cx dy hag hlocks hret e1 e2 dX12_init_425
    · refine lv_icmp_ge (tgt := 421) cx.1 cx.2.1 dX12_init_369 (by decide) (fun hn => absurd hn hc) (fun _ => ?_)
      refine lv_aload_n cx.1 cx.2.1 dX12_init_372 rfl (lv_at hl 0 rfl) ?_
      obtain ⟨hv305, hr⟩ := of_grd hr
      obtain ⟨k306, hf307, hr⟩ := of_bnd hr
      refine h_getR cx fx dy fd_12_39 hv305 tb_1025 hf307 dX12_init_373 ?_
      refine lv_iload_n cx.1 cx.2.1 dX12_init_376 rfl (lv_at hl 1 rfl) ?_
      refine lv_iconst (v := (-1)) cx.1 cx.2.1 dX12_init_377 (by decide) ?_
      obtain ⟨ha308, hr⟩ := of_grd hr
      obtain ⟨g309, eg309, hr⟩ := of_nm hr
      refine h_iast cx fx dy ha308 dX12_init_378 (fun H locs dy => ?_)
      replace dy : Dy D cA ad (V, g309) A s.heap H locs := by rw [eg309]; exact dy
      refine lv_aload_n cx.1 cx.2.1 dX12_init_379 rfl (lv_at hl 0 rfl) ?_
      obtain ⟨k310, hf311, hr⟩ := of_bnd hr
      refine h_getR cx fx dy fd_12_40 hv305 tb_1026 hf311 dX12_init_380 ?_
      refine lv_iload_n cx.1 cx.2.1 dX12_init_383 rfl (lv_at hl 1 rfl) ?_
      refine lv_iconst (v := (-1)) cx.1 cx.2.1 dX12_init_384 (by decide) ?_
      obtain ⟨ha312, hr⟩ := of_grd hr
      obtain ⟨g313, eg313, hr⟩ := of_nm hr
      refine h_iast cx fx dy ha312 dX12_init_385 (fun H locs dy => ?_)
      replace dy : Dy D cA ad (V, g313) A s.heap H locs := by rw [eg313]; exact dy
      refine lv_iconst (v := 0) cx.1 cx.2.1 dX12_init_386 (by decide) ?_
      refine lv_istore_n (lv' := [(2, .int (0 : Int32)), (0, .ref (ad k298)), (1, .int x299)]) cx.1 cx.2.1 dX12_init_387 rfl hl (by decide) rfl (fun ls hl => ?_)
      refine W.widen (k := 36) (n := 19730) (by decide) (by decide) ?_
      obtain ⟨n, hr⟩ := lop_some hr
      exact w_X12_init_388 cx fx hlocks hret hR hag hC V1 g0 z hh0 hq0 n k298 x299 (0 : Int32) g313 hr H locs ls dy (lv_sub hl [1, 2, 0] rfl)
noncomputable def r_X12_init_345' (V : Vk) (k295 : Nat) (x296 : Int32) (g297 : Hq) : Option ((Nat × Int32 × Hq) ⊕ (Unit × Vk × Hq)) :=
  brn ((144 : Int32) ≤ x296) ((Option.map Sum.inr (lop (r_X12_init_367 V) (k295, (0 : Int32), g297)))) (grd (V k295 = some (12, 0)) <| Option.bind (g297.2.2 k295 12) fun k329 => grd (okV V k329 0 x296) <| nm (sI g297 k329 x296.toNatClampNeg (-1 : Int32)) fun g332 => nm (x296 + (1 : Int32)) fun x333 => some (.inl (k295, x333, g332)))
noncomputable def r_X12_init_345 (V : Vk) (st : (Nat × Int32 × Hq)) : Option ((Nat × Int32 × Hq) ⊕ (Unit × Vk × Hq)) := r_X12_init_345' V st.1 st.2.1 st.2.2
set_option maxHeartbeats 4000000 in
set_option maxRecDepth 100000 in
theorem w_X12_init_345 {p : Program} {l : Launch} {e : Env} {R : Room} {s : State} {m : MethodId} {args : Array Value} {below : List Frame} {meth : Method} {c : Code} {D : va_G} {cA : Nat → ClassId} {sk : (Nat → Nat) × (Nat → Nat)} {ad : Nat → Nat} {A : Nat → Prop} {V : Vk} (cx : CallFix p m c cX12_init 3 s args gw_tbl RX12) (fx : Fx D cA sk A s) (hlocks : meth.locks = false) (hret : meth.sig.returnType = none) (hR : 1 ≤ R.frames ∧ 24 ≤ R.locals) {V0 : Vk} {ad0 : Nat → Nat} (hag : Ag V0 ad0 V ad) (hC : 36 ≤ R.cells ∧ 19730 ≤ R.slots) (V1 : Vk) (g0 : Hq) (y : (Unit × Vk × Hq)) (hq : ∀ (rb : Unit) (Vb : Vk) (gb : Hq), y = (rb, Vb, gb) → Vb = V1 ∧ gb = g0) : ∀ (n : Nat) (k295 : Nat) (x296 : Int32) (g297 : Hq), itr (r_X12_init_345 V) n (k295, x296, g297) = some y → ∀ (H : Heap) (locs : List Loc) (ls : Array Slot), Dy D cA ad (V, g297) A s.heap H locs → lv_has ls 3 [(0, .ref (ad k295)), (1, .int x296)] → W p l e R s m args below meth c H locs 36 19730 (MQ below (QVa D cA A V0 ad0 V1 g0) args s 36 19730 A) (F0 m 345 ls []) := by
  intro n
  induction n with
  | zero => intro k295 x296 g297 hr; cases hr
  | succ n ih =>
    intro k295 x296 g297 hr H locs ls dy hl
    obtain ⟨z, hz, hn1, hn2⟩ := itr_succ hr
    clear hr
    have hr : r_X12_init_345' V k295 x296 g297 = some z := hz
    clear hz
    unfold r_X12_init_345' at hr
    have hh0 : ∀ (b0 : Nat) (b1 : Int32) (gb : Hq), z = .inl (b0, b1, gb) → ∀ (H : Heap) (locs : List Loc) (ls : Array Slot), Dy D cA ad (V, gb) A s.heap H locs → lv_has ls 3 [(0, .ref (ad b0)), (1, .int b1)] → W p l e R s m args below meth c H locs 36 19730 (MQ below (QVa D cA A V0 ad0 V1 g0) args s 36 19730 A) (F0 m 345 ls []) := fun b0 b1 gb eb => ih b0 b1 gb (hn1 _ eb)
    have hq0 : ∀ (rb : Unit) (Vb : Vk) (gb : Hq), z = (.inr (rb, Vb, gb)) → Vb = V1 ∧ gb = g0 := fun rb Vb gb eb => hq rb Vb gb (hn2 _ eb).symm
    refine lv_iload_n cx.1 cx.2.1 dX12_init_345 rfl (lv_at hl 1 rfl) ?_
    refine lv_sipush (v := 144) cx.1 cx.2.1 dX12_init_346 (by decide) ?_
    rcases of_brn hr with ⟨hc, hr⟩ | ⟨hc, hr⟩
    · refine lv_icmp_ge (tgt := 365) cx.1 cx.2.1 dX12_init_349 (by decide) (fun _ => ?_) (fun hn => absurd hc hn)
      refine lv_iconst (v := 0) cx.1 cx.2.1 dX12_init_365 (by decide) ?_
      refine lv_istore_n (lv' := [(1, .int (0 : Int32)), (0, .ref (ad k295))]) cx.1 cx.2.1 dX12_init_366 rfl hl (by decide) rfl (fun ls hl => ?_)
      refine W.widen (k := 36) (n := 19730) (by decide) (by decide) ?_
      obtain ⟨z1, hr, ez1⟩ := of_map hr
      obtain ⟨n, hr⟩ := lop_some hr
      exact w_X12_init_367 cx fx hlocks hret hR hag hC V1 g0 z1 (fun rb Vb gb eb => hq0 rb Vb gb (by rw [ez1, eb])) n k295 (0 : Int32) g297 hr H locs ls dy (lv_sub hl [1, 0] rfl)
    · refine lv_icmp_ge (tgt := 365) cx.1 cx.2.1 dX12_init_349 (by decide) (fun hn => absurd hn hc) (fun _ => ?_)
      refine lv_aload_n cx.1 cx.2.1 dX12_init_352 rfl (lv_at hl 0 rfl) ?_
      obtain ⟨hv328, hr⟩ := of_grd hr
      obtain ⟨k329, hf330, hr⟩ := of_bnd hr
      refine h_getR cx fx dy fd_12_12 hv328 tb_998 hf330 dX12_init_353 ?_
      refine lv_iload_n cx.1 cx.2.1 dX12_init_356 rfl (lv_at hl 1 rfl) ?_
      refine lv_iconst (v := (-1)) cx.1 cx.2.1 dX12_init_357 (by decide) ?_
      obtain ⟨ha331, hr⟩ := of_grd hr
      obtain ⟨g332, eg332, hr⟩ := of_nm hr
      refine h_iast cx fx dy ha331 dX12_init_358 (fun H locs dy => ?_)
      replace dy : Dy D cA ad (V, g332) A s.heap H locs := by rw [eg332]; exact dy
      obtain ⟨x333, ex333, hr⟩ := of_nm hr
      refine lv_iinc (v := x333) (lv' := [(1, .int x333), (0, .ref (ad k295))]) cx.1 cx.2.1 dX12_init_359 hl (k := 1) rfl (by rw [ex333]; rfl) (by decide) rfl (fun ls hl => ?_)
      refine lv_goto (tgt := 345) cx.1 cx.2.1 dX12_init_362 (by decide) ?_
      exact hh0 k295 x333 g332 (Option.some.inj hr).symm H locs ls dy (lv_sub hl [1, 0] rfl)
noncomputable def r_X12_init_316' (V : Vk) (k292 : Nat) (x293 : Int32) (g294 : Hq) : Option ((Nat × Int32 × Hq) ⊕ (Unit × Vk × Hq)) :=
  brn ((12 : Int32) ≤ x293) ((Option.map Sum.inr (lop (r_X12_init_345 V) (k292, (0 : Int32), g294)))) (grd (V k292 = some (12, 0)) <| Option.bind (g294.2.2 k292 11) fun k335 => grd (okV V k335 0 x293) <| nm (sI g294 k335 x293.toNatClampNeg (60 : Int32)) fun g338 => Option.bind (g338.2.2 k292 26) fun k339 => grd (okV V k339 0 x293) <| nm (sI g338 k339 x293.toNatClampNeg (-1 : Int32)) fun g342 => nm (x293 + (1 : Int32)) fun x343 => some (.inl (k292, x343, g342)))
noncomputable def r_X12_init_316 (V : Vk) (st : (Nat × Int32 × Hq)) : Option ((Nat × Int32 × Hq) ⊕ (Unit × Vk × Hq)) := r_X12_init_316' V st.1 st.2.1 st.2.2
set_option maxHeartbeats 4000000 in
set_option maxRecDepth 100000 in
theorem w_X12_init_316 {p : Program} {l : Launch} {e : Env} {R : Room} {s : State} {m : MethodId} {args : Array Value} {below : List Frame} {meth : Method} {c : Code} {D : va_G} {cA : Nat → ClassId} {sk : (Nat → Nat) × (Nat → Nat)} {ad : Nat → Nat} {A : Nat → Prop} {V : Vk} (cx : CallFix p m c cX12_init 3 s args gw_tbl RX12) (fx : Fx D cA sk A s) (hlocks : meth.locks = false) (hret : meth.sig.returnType = none) (hR : 1 ≤ R.frames ∧ 24 ≤ R.locals) {V0 : Vk} {ad0 : Nat → Nat} (hag : Ag V0 ad0 V ad) (hC : 36 ≤ R.cells ∧ 19730 ≤ R.slots) (V1 : Vk) (g0 : Hq) (y : (Unit × Vk × Hq)) (hq : ∀ (rb : Unit) (Vb : Vk) (gb : Hq), y = (rb, Vb, gb) → Vb = V1 ∧ gb = g0) : ∀ (n : Nat) (k292 : Nat) (x293 : Int32) (g294 : Hq), itr (r_X12_init_316 V) n (k292, x293, g294) = some y → ∀ (H : Heap) (locs : List Loc) (ls : Array Slot), Dy D cA ad (V, g294) A s.heap H locs → lv_has ls 3 [(0, .ref (ad k292)), (1, .int x293)] → W p l e R s m args below meth c H locs 36 19730 (MQ below (QVa D cA A V0 ad0 V1 g0) args s 36 19730 A) (F0 m 316 ls []) := by
  intro n
  induction n with
  | zero => intro k292 x293 g294 hr; cases hr
  | succ n ih =>
    intro k292 x293 g294 hr H locs ls dy hl
    obtain ⟨z, hz, hn1, hn2⟩ := itr_succ hr
    clear hr
    have hr : r_X12_init_316' V k292 x293 g294 = some z := hz
    clear hz
    unfold r_X12_init_316' at hr
    have hh0 : ∀ (b0 : Nat) (b1 : Int32) (gb : Hq), z = .inl (b0, b1, gb) → ∀ (H : Heap) (locs : List Loc) (ls : Array Slot), Dy D cA ad (V, gb) A s.heap H locs → lv_has ls 3 [(0, .ref (ad b0)), (1, .int b1)] → W p l e R s m args below meth c H locs 36 19730 (MQ below (QVa D cA A V0 ad0 V1 g0) args s 36 19730 A) (F0 m 316 ls []) := fun b0 b1 gb eb => ih b0 b1 gb (hn1 _ eb)
    have hq0 : ∀ (rb : Unit) (Vb : Vk) (gb : Hq), z = (.inr (rb, Vb, gb)) → Vb = V1 ∧ gb = g0 := fun rb Vb gb eb => hq rb Vb gb (hn2 _ eb).symm
    refine lv_iload_n cx.1 cx.2.1 dX12_init_316 rfl (lv_at hl 1 rfl) ?_
    refine lv_bipush (v := 12) cx.1 cx.2.1 dX12_init_317 (by decide) ?_
    rcases of_brn hr with ⟨hc, hr⟩ | ⟨hc, hr⟩
    · refine lv_icmp_ge (tgt := 343) cx.1 cx.2.1 dX12_init_319 (by decide) (fun _ => ?_) (fun hn => absurd hc hn)
      refine lv_iconst (v := 0) cx.1 cx.2.1 dX12_init_343 (by decide) ?_
      refine lv_istore_n (lv' := [(1, .int (0 : Int32)), (0, .ref (ad k292))]) cx.1 cx.2.1 dX12_init_344 rfl hl (by decide) rfl (fun ls hl => ?_)
      refine W.widen (k := 36) (n := 19730) (by decide) (by decide) ?_
      obtain ⟨z1, hr, ez1⟩ := of_map hr
      obtain ⟨n, hr⟩ := lop_some hr
      exact w_X12_init_345 cx fx hlocks hret hR hag hC V1 g0 z1 (fun rb Vb gb eb => hq0 rb Vb gb (by rw [ez1, eb])) n k292 (0 : Int32) g294 hr H locs ls dy (lv_sub hl [1, 0] rfl)
    · refine lv_icmp_ge (tgt := 343) cx.1 cx.2.1 dX12_init_319 (by decide) (fun hn => absurd hn hc) (fun _ => ?_)
      refine lv_aload_n cx.1 cx.2.1 dX12_init_322 rfl (lv_at hl 0 rfl) ?_
      obtain ⟨hv334, hr⟩ := of_grd hr
      obtain ⟨k335, hf336, hr⟩ := of_bnd hr
      refine h_getR cx fx dy fd_12_11 hv334 tb_997 hf336 dX12_init_323 ?_
      refine lv_iload_n cx.1 cx.2.1 dX12_init_326 rfl (lv_at hl 1 rfl) ?_
      refine lv_bipush (v := 60) cx.1 cx.2.1 dX12_init_327 (by decide) ?_
      obtain ⟨ha337, hr⟩ := of_grd hr
      obtain ⟨g338, eg338, hr⟩ := of_nm hr
      refine h_iast cx fx dy ha337 dX12_init_329 (fun H locs dy => ?_)
      replace dy : Dy D cA ad (V, g338) A s.heap H locs := by rw [eg338]; exact dy
      refine lv_aload_n cx.1 cx.2.1 dX12_init_330 rfl (lv_at hl 0 rfl) ?_
      obtain ⟨k339, hf340, hr⟩ := of_bnd hr
      refine h_getR cx fx dy fd_12_26 hv334 tb_1012 hf340 dX12_init_331 ?_
      refine lv_iload_n cx.1 cx.2.1 dX12_init_334 rfl (lv_at hl 1 rfl) ?_
      refine lv_iconst (v := (-1)) cx.1 cx.2.1 dX12_init_335 (by decide) ?_
      obtain ⟨ha341, hr⟩ := of_grd hr
      obtain ⟨g342, eg342, hr⟩ := of_nm hr
      refine h_iast cx fx dy ha341 dX12_init_336 (fun H locs dy => ?_)
      replace dy : Dy D cA ad (V, g342) A s.heap H locs := by rw [eg342]; exact dy
      obtain ⟨x343, ex343, hr⟩ := of_nm hr
      refine lv_iinc (v := x343) (lv' := [(1, .int x343), (0, .ref (ad k292))]) cx.1 cx.2.1 dX12_init_337 hl (k := 1) rfl (by rw [ex343]; rfl) (by decide) rfl (fun ls hl => ?_)
      refine lv_goto (tgt := 316) cx.1 cx.2.1 dX12_init_340 (by decide) ?_
      exact hh0 k292 x343 g342 (Option.some.inj hr).symm H locs ls dy (lv_sub hl [1, 0] rfl)
set_option maxHeartbeats 4000000 in
set_option maxRecDepth 100000 in
noncomputable def r_X12_init (V : Vk) (k0 : Nat) (g : Hq) : Option (Unit × Vk × Hq) :=
  nm (k0 + 1) fun k1 => grd (frK V g k1) <| grd (k0 ≠ k1) <| nm (newV V k1 (101, 800)) fun V => nm (newG g k1) fun g4 => grd (V k0 = some (12, 0)) <| nm (sR g4 k0 0 (some k1)) fun g8 => nm (sI g8 k0 9 (-1 : Int32)) fun g9 => nm (k0 + 2) fun k10 => grd (frK V g9 k10) <| grd (k0 ≠ k10) <| nm (newV V k10 (100, 12)) fun V => nm (newG g9 k10) fun g13 => grd (V k0 = some (12, 0)) <| nm (sR g13 k0 10 (some k10)) fun g17 => nm (k0 + 3) fun k18 => grd (frK V g17 k18) <| grd (k0 ≠ k18) <| nm (newV V k18 (100, 12)) fun V => nm (newG g17 k18) fun g21 => grd (V k0 = some (12, 0)) <| nm (sR g21 k0 11 (some k18)) fun g25 => nm (k0 + 4) fun k26 => grd (frK V g25 k26) <| grd (k0 ≠ k26) <| nm (newV V k26 (100, 144)) fun V => nm (newG g25 k26) fun g29 => grd (V k0 = some (12, 0)) <| nm (sR g29 k0 12 (some k26)) fun g33 => nm (k0 + 5) fun k34 => grd (frK V g33 k34) <| grd (k0 ≠ k34) <| nm (newV V k34 (100, 144)) fun V => nm (newG g33 k34) fun g37 => grd (V k0 = some (12, 0)) <| nm (sR g37 k0 13 (some k34)) fun g41 => nm (k0 + 6) fun k42 => grd (frK V g41 k42) <| grd (k0 ≠ k42) <| nm (newV V k42 (100, 10)) fun V => nm (newG g41 k42) fun g45 => grd (V k0 = some (12, 0)) <| nm (sR g45 k0 14 (some k42)) fun g49 => nm (k0 + 7) fun k50 => grd (frK V g49 k50) <| grd (k0 ≠ k50) <| nm (newV V k50 (100, 10240)) fun V => nm (newG g49 k50) fun g53 => grd (V k0 = some (12, 0)) <| nm (sR g53 k0 16 (some k50)) fun g57 => nm (k0 + 8) fun k58 => grd (frK V g57 k58) <| grd (k0 ≠ k58) <| nm (newV V k58 (100, 1024)) fun V => nm (newG g57 k58) fun g61 => grd (V k0 = some (12, 0)) <| nm (sR g61 k0 17 (some k58)) fun g65 => nm (k0 + 9) fun k66 => grd (frK V g65 k66) <| grd (k0 ≠ k66) <| nm (newV V k66 (100, 10)) fun V => nm (newG g65 k66) fun g69 => grd (V k0 = some (12, 0)) <| nm (sR g69 k0 18 (some k66)) fun g73 => nm (k0 + 10) fun k74 => grd (frK V g73 k74) <| grd (k0 ≠ k74) <| nm (newV V k74 (100, 10)) fun V => nm (newG g73 k74) fun g77 => grd (V k0 = some (12, 0)) <| nm (sR g77 k0 19 (some k74)) fun g81 => nm (k0 + 11) fun k82 => grd (frK V g81 k82) <| grd (k0 ≠ k82) <| nm (newV V k82 (100, 10)) fun V => nm (newG g81 k82) fun g85 => grd (V k0 = some (12, 0)) <| nm (sR g85 k0 20 (some k82)) fun g89 => nm (k0 + 12) fun k90 => grd (frK V g89 k90) <| grd (k0 ≠ k90) <| nm (newV V k90 (100, 12)) fun V => nm (newG g89 k90) fun g93 => grd (V k0 = some (12, 0)) <| nm (sR g93 k0 26 (some k90)) fun g97 => nm (k0 + 13) fun k98 => grd (frK V g97 k98) <| grd (k0 ≠ k98) <| nm (newV V k98 (100, 10)) fun V => nm (newG g97 k98) fun g101 => grd (V k0 = some (12, 0)) <| nm (sR g101 k0 27 (some k98)) fun g105 => nm (k0 + 14) fun k106 => grd (frK V g105 k106) <| grd (k0 ≠ k106) <| nm (newV V k106 (100, 10)) fun V => nm (newG g105 k106) fun g109 => grd (V k0 = some (12, 0)) <| nm (sR g109 k0 28 (some k106)) fun g113 => nm (k0 + 15) fun k114 => grd (frK V g113 k114) <| grd (k0 ≠ k114) <| nm (newV V k114 (100, 40)) fun V => nm (newG g113 k114) fun g117 => grd (V k0 = some (12, 0)) <| nm (sR g117 k0 29 (some k114)) fun g121 => nm (k0 + 16) fun k122 => grd (frK V g121 k122) <| grd (k0 ≠ k122) <| nm (newV V k122 (100, 240)) fun V => nm (newG g121 k122) fun g125 => grd (V k0 = some (12, 0)) <| nm (sR g125 k0 30 (some k122)) fun g129 => nm (k0 + 17) fun k130 => grd (frK V g129 k130) <| grd (k0 ≠ k130) <| nm (newV V k130 (100, 5)) fun V => nm (newG g129 k130) fun g133 => grd (V k0 = some (12, 0)) <| nm (sR g133 k0 31 (some k130)) fun g137 => nm (k0 + 18) fun k138 => grd (frK V g137 k138) <| grd (k0 ≠ k138) <| nm (newV V k138 (100, 60)) fun V => nm (newG g137 k138) fun g141 => grd (V k0 = some (12, 0)) <| nm (sR g141 k0 33 (some k138)) fun g145 => nm (k0 + 19) fun k146 => grd (frK V g145 k146) <| grd (k0 ≠ k146) <| nm (newV V k146 (100, 60)) fun V => nm (newG g145 k146) fun g149 => grd (V k0 = some (12, 0)) <| nm (sR g149 k0 34 (some k146)) fun g153 => nm (k0 + 20) fun k154 => grd (frK V g153 k154) <| grd (k0 ≠ k154) <| nm (newV V k154 (100, 60)) fun V => nm (newG g153 k154) fun g157 => grd (V k0 = some (12, 0)) <| nm (sR g157 k0 35 (some k154)) fun g161 => nm (k0 + 21) fun k162 => grd (frK V g161 k162) <| grd (k0 ≠ k162) <| nm (newV V k162 (100, 60)) fun V => nm (newG g161 k162) fun g165 => grd (V k0 = some (12, 0)) <| nm (sR g165 k0 36 (some k162)) fun g169 => nm (k0 + 22) fun k170 => grd (frK V g169 k170) <| grd (k0 ≠ k170) <| nm (newV V k170 (100, 60)) fun V => nm (newG g169 k170) fun g173 => grd (V k0 = some (12, 0)) <| nm (sR g173 k0 37 (some k170)) fun g177 => nm (k0 + 23) fun k178 => grd (frK V g177 k178) <| grd (k0 ≠ k178) <| nm (newV V k178 (100, 60)) fun V => nm (newG g177 k178) fun g181 => grd (V k0 = some (12, 0)) <| nm (sR g181 k0 38 (some k178)) fun g185 => nm (k0 + 24) fun k186 => grd (frK V g185 k186) <| grd (k0 ≠ k186) <| nm (newV V k186 (100, 4)) fun V => nm (newG g185 k186) fun g189 => grd (V k0 = some (12, 0)) <| nm (sR g189 k0 39 (some k186)) fun g193 => nm (k0 + 25) fun k194 => grd (frK V g193 k194) <| grd (k0 ≠ k194) <| nm (newV V k194 (100, 4)) fun V => nm (newG g193 k194) fun g197 => grd (V k0 = some (12, 0)) <| nm (sR g197 k0 40 (some k194)) fun g201 => nm (k0 + 26) fun k202 => grd (frK V g201 k202) <| grd (k0 ≠ k202) <| nm (newV V k202 (100, 4)) fun V => nm (newG g201 k202) fun g205 => grd (V k0 = some (12, 0)) <| nm (sR g205 k0 41 (some k202)) fun g209 => nm (k0 + 27) fun k210 => grd (frK V g209 k210) <| grd (k0 ≠ k210) <| nm (newV V k210 (100, 800)) fun V => nm (newG g209 k210) fun g213 => grd (V k0 = some (12, 0)) <| nm (sR g213 k0 42 (some k210)) fun g217 => nm (k0 + 28) fun k218 => grd (frK V g217 k218) <| grd (k0 ≠ k218) <| nm (newV V k218 (102, 800)) fun V => nm (newG g217 k218) fun g221 => grd (V k0 = some (12, 0)) <| nm (sR g221 k0 43 (some k218)) fun g225 => nm (k0 + 29) fun k226 => grd (frK V g225 k226) <| grd (k0 ≠ k226) <| nm (newV V k226 (100, 800)) fun V => nm (newG g225 k226) fun g229 => grd (V k0 = some (12, 0)) <| nm (sR g229 k0 44 (some k226)) fun g233 => nm (k0 + 30) fun k234 => grd (frK V g233 k234) <| grd (k0 ≠ k234) <| nm (newV V k234 (100, 4)) fun V => nm (newG g233 k234) fun g237 => grd (V k0 = some (12, 0)) <| nm (sR g237 k0 45 (some k234)) fun g241 => nm (k0 + 31) fun k242 => grd (frK V g241 k242) <| grd (k0 ≠ k242) <| nm (newV V k242 (100, 100)) fun V => nm (newG g241 k242) fun g245 => grd (V k0 = some (12, 0)) <| nm (sR g245 k0 47 (some k242)) fun g249 => nm (k0 + 32) fun k250 => grd (frK V g249 k250) <| grd (k0 ≠ k250) <| nm (newV V k250 (100, 100)) fun V => nm (newG g249 k250) fun g253 => grd (V k0 = some (12, 0)) <| nm (sR g253 k0 48 (some k250)) fun g257 => nm (k0 + 33) fun k258 => grd (frK V g257 k258) <| grd (k0 ≠ k258) <| nm (newV V k258 (100, 100)) fun V => nm (newG g257 k258) fun g261 => grd (V k0 = some (12, 0)) <| nm (sR g261 k0 49 (some k258)) fun g265 => nm (k0 + 34) fun k266 => grd (frK V g265 k266) <| grd (k0 ≠ k266) <| nm (newV V k266 (100, 100)) fun V => nm (newG g265 k266) fun g269 => grd (V k0 = some (12, 0)) <| nm (sR g269 k0 50 (some k266)) fun g273 => nm (k0 + 35) fun k274 => grd (frK V g273 k274) <| grd (k0 ≠ k274) <| nm (newV V k274 (100, 100)) fun V => nm (newG g273 k274) fun g277 => grd (V k0 = some (12, 0)) <| nm (sR g277 k0 51 (some k274)) fun g281 => nm (sI g281 k0 52 (-9 : Int32)) fun g282 => nm (sI g282 k0 53 (-9 : Int32)) fun g283 => nm (k0 + 36) fun k284 => grd (frK V g283 k284) <| grd (k0 ≠ k284) <| nm (newV V k284 (103, 3721)) fun V => nm (newG g283 k284) fun g287 => grd (V k0 = some (12, 0)) <| nm (sR g287 k0 54 (some k284)) fun g291 => (lop (r_X12_init_316 V) (k0, (0 : Int32), g291))
set_option maxHeartbeats 4000000 in
set_option maxRecDepth 100000 in
theorem c_X12_init {l : Launch} {D : va_G} {cA : Nat → ClassId} {sk : (Nat → Nat) × (Nat → Nat)} {ad : Nat → Nat} {A : Nat → Prop} {V : Vk} {k0 : Nat} {g g0 : Hq} {V1 : Vk} (hr : r_X12_init V k0 g = some ((), V1, g0)) : Met l yX12_init (wM yX12_init cX12_init 3 none) { frames := 1, cells := 36, slots := 19730, locals := 24 } (Pre D cA sk ad (V, g) A [.ref (ad k0)]) (QVa D cA A V ad V1 g0) 36 19730 A := by
  refine Met.ofW (cc := cX12_init) (maxL := 3) (ret := none) (by decide) rfl ?_
  intro p e s m args below meth c s₁ B hml hv
  obtain ⟨hargs, fx, w0⟩ := hv
  have hts := atoms_spec (ws := wM yX12_init cX12_init 3 none) B.pre
  have cx : CallFix p m c cX12_init 3 s args gw_tbl RX12 := ⟨B.exec, B.bytes, hml, findClass_of_methodNamed B.named, fun w hw => hts w (List.mem_cons_of_mem _ hw)⟩
  have hlocks := B.notSynchronized
  have hret := B.returns
  have hini : meth.name = "<init>" := (name_of_methodNamed B.named B.method).1
  have hR : 1 ≤ (headSpec (wM yX12_init cX12_init 3 none) { frames := 1, cells := 36, slots := 19730, locals := 24 }).room.frames ∧ 24 ≤ (headSpec (wM yX12_init cX12_init 3 none) { frames := 1, cells := 36, slots := 19730, locals := 24 }).room.locals := ⟨Nat.le_refl _, Nat.le_refl _⟩
  have dy : Dy D cA ad (V, g) A s.heap s.heap [] := ⟨w0, va_S.rf⟩
  have hl := lv_entry [.ref (ad k0)] (n := 3) (Nat.le_of_ble_eq_true rfl)
  have hef : entryFrame m args 3 = F0 m 0 ((lg_sl [.ref (ad k0)] ++ List.replicate (3 - (lg_sl [.ref (ad k0)]).length) Slot.unset).toArray) [] := by
    rw [hargs]
    exact lg_entry_eq m [.ref (ad k0)] 3
  rw [hef]
  clear hef hargs
  generalize (lg_sl [.ref (ad k0)] ++ List.replicate (3 - (lg_sl [.ref (ad k0)]).length) Slot.unset).toArray = ls at hl ⊢
  have hl : lv_has ls 3 [(0, .ref (ad k0))] := hl
  have dy0 : ∃ H0, H0 = s.heap ∧ Dy D cA ad (V, g) A s.heap H0 [] := ⟨_, rfl, dy⟩
  obtain ⟨z, ez⟩ : ∃ z : (Unit × Vk × Hq), z = ((), V1, g0) := ⟨_, rfl⟩
  rw [← ez] at hr
  have hq0 : ∀ (rb : Unit) (Vb : Vk) (gb : Hq), z = (rb, Vb, gb) → Vb = V1 ∧ gb = g0 := fun rb Vb gb eb => by rw [ez] at eb; cases eb; exact ⟨rfl, rfl⟩
  have hag : Ag V ad V ad := Ag.rf
  have hC : 36 ≤ (headSpec (wM yX12_init cX12_init 3 none) { frames := 1, cells := 36, slots := 19730, locals := 24 }).room.cells ∧ 19730 ≤ (headSpec (wM yX12_init cX12_init 3 none) { frames := 1, cells := 36, slots := 19730, locals := 24 }).room.slots := ⟨Nat.le_refl _, Nat.le_refl _⟩
  clear ez w0 dy0
  unfold r_X12_init at hr
  obtain ⟨H, hH⟩ : ∃ H, H = s.heap := ⟨_, rfl⟩
  obtain ⟨locs, hlo⟩ : ∃ q : List Loc, q = [] := ⟨_, rfl⟩
  have dy : Dy D cA ad (V, g) A s.heap H locs := by rw [hH, hlo]; exact dy
  suffices K : W p l e (headSpec (wM yX12_init cX12_init 3 none) { frames := 1, cells := 36, slots := 19730, locals := 24 }).room s m args below meth c H locs 0 0 (MQ below (QVa D cA A V ad V1 g0) args s 36 19730 A) (F0 m 0 ls []) by rw [hH, hlo] at K; exact K
  clear hH hlo
  refine lv_aload_n cx.1 cx.2.1 dX12_init_0 rfl (lv_at hl 0 rfl) ?_
  refine W.objInit cx.1 cx.2.1 cx.2.2.2.1 (cx.2.2.2.2 _ tb_977) (cx.2.2.2.2 _ tb_76) (cx.2.2.2.2 _ tb_77) rfl (hl.1.trans cx.2.2.1.symm) rfl dX12_init_1 (Nat.le_trans (by decide) hR.1) (Nat.le_trans (Nat.le_of_ble_eq_true rfl) hR.2) ?_
  refine W.eq (g2 := F0 m 4 ls []) rfl ?_
  refine lv_aload_n cx.1 cx.2.1 dX12_init_4 rfl (lv_at hl 0 rfl) ?_
  refine lv_sipush (v := 800) cx.1 cx.2.1 dX12_init_5 (by decide) ?_
  obtain ⟨k1, ek1, hr⟩ := of_nm hr
  obtain ⟨hf2, hr⟩ := of_grd hr
  obtain ⟨hn3, hr⟩ := of_grd hr
  obtain ⟨V, eV5, hr⟩ := of_nm hr
  obtain ⟨g4, eg4, hr⟩ := of_nm hr
  refine h_newa (t := 1) (ty := .byte) (at0 := .byte) cx fx dy hf2 (by decide) rfl rfl (fun _ _ h => h) rfl tb_91 (by decide) (by decide : (800 : Int32).toNatClampNeg = 800) (by decide) (Nat.le_trans (by decide) hC.1) (Nat.le_trans (by decide) hC.2) dX12_init_8 (fun ad H hz dy => ?_)
  replace hag := Ag.new (q := (101, 800)) hag hf2.1 hz
  rw [← eV5] at hag
  replace dy : Dy D cA ad (V, g4) A s.heap H locs := by rw [eV5, eg4]; exact dy
  have ea6 := hz k0 hn3
  rw [← ea6] at hl
  rw [← ea6]
  refine W.widen (k := 1) (n := 800) (by decide) (by decide) ?_
  obtain ⟨hv7, hr⟩ := of_grd hr
  obtain ⟨g8, eg8, hr⟩ := of_nm hr
  refine h_putRF cx fx dy hini rfl fd_12_0 (pd_12_0 : PD _ _ _ _ _ (.array .byte)) rfl rfl rfl hv7 tb_986 dX12_init_10 (fun H locs dy => ?_)
  replace dy : Dy D cA ad (V, g8) A s.heap H locs := by rw [eg8]; exact dy
  refine lv_aload_n cx.1 cx.2.1 dX12_init_13 rfl (lv_at hl 0 rfl) ?_
  refine lv_iconst (v := (-1)) cx.1 cx.2.1 dX12_init_14 (by decide) ?_
  obtain ⟨g9, eg9, hr⟩ := of_nm hr
  refine h_putI cx fx dy fd_12_9 (pd_12_9 : PD _ _ _ _ _ .int) rfl rfl rfl hv7 tb_995 dX12_init_15 (fun H locs dy => ?_)
  replace dy : Dy D cA ad (V, g9) A s.heap H locs := by rw [eg9]; exact dy
  refine lv_aload_n cx.1 cx.2.1 dX12_init_18 rfl (lv_at hl 0 rfl) ?_
  refine lv_bipush (v := 12) cx.1 cx.2.1 dX12_init_19 (by decide) ?_
  obtain ⟨k10, ek10, hr⟩ := of_nm hr
  obtain ⟨hf11, hr⟩ := of_grd hr
  obtain ⟨hn12, hr⟩ := of_grd hr
  obtain ⟨V, eV14, hr⟩ := of_nm hr
  obtain ⟨g13, eg13, hr⟩ := of_nm hr
  refine h_newa (t := 0) (ty := .int) (at0 := .int) cx fx dy hf11 (by decide) rfl rfl (fun _ _ h => h) rfl tb_117 (by decide) (by decide : (12 : Int32).toNatClampNeg = 12) (by decide) (Nat.le_trans (by decide) hC.1) (Nat.le_trans (by decide) hC.2) dX12_init_21 (fun ad H hz dy => ?_)
  replace hag := Ag.new (q := (100, 12)) hag hf11.1 hz
  rw [← eV14] at hag
  replace dy : Dy D cA ad (V, g13) A s.heap H locs := by rw [eV14, eg13]; exact dy
  have ea15 := hz k0 hn12
  rw [← ea15] at hl
  rw [← ea15]
  refine W.widen (k := 2) (n := 812) (by decide) (by decide) ?_
  obtain ⟨hv16, hr⟩ := of_grd hr
  obtain ⟨g17, eg17, hr⟩ := of_nm hr
  refine h_putRF cx fx dy hini rfl fd_12_10 (pd_12_10 : PD _ _ _ _ _ (.array .int)) rfl rfl rfl hv16 tb_996 dX12_init_23 (fun H locs dy => ?_)
  replace dy : Dy D cA ad (V, g17) A s.heap H locs := by rw [eg17]; exact dy
  refine lv_aload_n cx.1 cx.2.1 dX12_init_26 rfl (lv_at hl 0 rfl) ?_
  refine lv_bipush (v := 12) cx.1 cx.2.1 dX12_init_27 (by decide) ?_
  obtain ⟨k18, ek18, hr⟩ := of_nm hr
  obtain ⟨hf19, hr⟩ := of_grd hr
  obtain ⟨hn20, hr⟩ := of_grd hr
  obtain ⟨V, eV22, hr⟩ := of_nm hr
  obtain ⟨g21, eg21, hr⟩ := of_nm hr
  refine h_newa (t := 0) (ty := .int) (at0 := .int) cx fx dy hf19 (by decide) rfl rfl (fun _ _ h => h) rfl tb_117 (by decide) (by decide : (12 : Int32).toNatClampNeg = 12) (by decide) (Nat.le_trans (by decide) hC.1) (Nat.le_trans (by decide) hC.2) dX12_init_29 (fun ad H hz dy => ?_)
  replace hag := Ag.new (q := (100, 12)) hag hf19.1 hz
  rw [← eV22] at hag
  replace dy : Dy D cA ad (V, g21) A s.heap H locs := by rw [eV22, eg21]; exact dy
  have ea23 := hz k0 hn20
  rw [← ea23] at hl
  rw [← ea23]
  refine W.widen (k := 3) (n := 824) (by decide) (by decide) ?_
  obtain ⟨hv24, hr⟩ := of_grd hr
  obtain ⟨g25, eg25, hr⟩ := of_nm hr
  refine h_putRF cx fx dy hini rfl fd_12_11 (pd_12_11 : PD _ _ _ _ _ (.array .int)) rfl rfl rfl hv24 tb_997 dX12_init_31 (fun H locs dy => ?_)
  replace dy : Dy D cA ad (V, g25) A s.heap H locs := by rw [eg25]; exact dy
  refine lv_aload_n cx.1 cx.2.1 dX12_init_34 rfl (lv_at hl 0 rfl) ?_
  refine lv_sipush (v := 144) cx.1 cx.2.1 dX12_init_35 (by decide) ?_
  obtain ⟨k26, ek26, hr⟩ := of_nm hr
  obtain ⟨hf27, hr⟩ := of_grd hr
  obtain ⟨hn28, hr⟩ := of_grd hr
  obtain ⟨V, eV30, hr⟩ := of_nm hr
  obtain ⟨g29, eg29, hr⟩ := of_nm hr
  refine h_newa (t := 0) (ty := .int) (at0 := .int) cx fx dy hf27 (by decide) rfl rfl (fun _ _ h => h) rfl tb_117 (by decide) (by decide : (144 : Int32).toNatClampNeg = 144) (by decide) (Nat.le_trans (by decide) hC.1) (Nat.le_trans (by decide) hC.2) dX12_init_38 (fun ad H hz dy => ?_)
  replace hag := Ag.new (q := (100, 144)) hag hf27.1 hz
  rw [← eV30] at hag
  replace dy : Dy D cA ad (V, g29) A s.heap H locs := by rw [eV30, eg29]; exact dy
  have ea31 := hz k0 hn28
  rw [← ea31] at hl
  rw [← ea31]
  refine W.widen (k := 4) (n := 968) (by decide) (by decide) ?_
  obtain ⟨hv32, hr⟩ := of_grd hr
  obtain ⟨g33, eg33, hr⟩ := of_nm hr
  refine h_putRF cx fx dy hini rfl fd_12_12 (pd_12_12 : PD _ _ _ _ _ (.array .int)) rfl rfl rfl hv32 tb_998 dX12_init_40 (fun H locs dy => ?_)
  replace dy : Dy D cA ad (V, g33) A s.heap H locs := by rw [eg33]; exact dy
  refine lv_aload_n cx.1 cx.2.1 dX12_init_43 rfl (lv_at hl 0 rfl) ?_
  refine lv_sipush (v := 144) cx.1 cx.2.1 dX12_init_44 (by decide) ?_
  obtain ⟨k34, ek34, hr⟩ := of_nm hr
  obtain ⟨hf35, hr⟩ := of_grd hr
  obtain ⟨hn36, hr⟩ := of_grd hr
  obtain ⟨V, eV38, hr⟩ := of_nm hr
  obtain ⟨g37, eg37, hr⟩ := of_nm hr
  refine h_newa (t := 0) (ty := .int) (at0 := .int) cx fx dy hf35 (by decide) rfl rfl (fun _ _ h => h) rfl tb_117 (by decide) (by decide : (144 : Int32).toNatClampNeg = 144) (by decide) (Nat.le_trans (by decide) hC.1) (Nat.le_trans (by decide) hC.2) dX12_init_47 (fun ad H hz dy => ?_)
  replace hag := Ag.new (q := (100, 144)) hag hf35.1 hz
  rw [← eV38] at hag
  replace dy : Dy D cA ad (V, g37) A s.heap H locs := by rw [eV38, eg37]; exact dy
  have ea39 := hz k0 hn36
  rw [← ea39] at hl
  rw [← ea39]
  refine W.widen (k := 5) (n := 1112) (by decide) (by decide) ?_
  obtain ⟨hv40, hr⟩ := of_grd hr
  obtain ⟨g41, eg41, hr⟩ := of_nm hr
  refine h_putRF cx fx dy hini rfl fd_12_13 (pd_12_13 : PD _ _ _ _ _ (.array .int)) rfl rfl rfl hv40 tb_999 dX12_init_49 (fun H locs dy => ?_)
  replace dy : Dy D cA ad (V, g41) A s.heap H locs := by rw [eg41]; exact dy
  refine lv_aload_n cx.1 cx.2.1 dX12_init_52 rfl (lv_at hl 0 rfl) ?_
  refine lv_bipush (v := 10) cx.1 cx.2.1 dX12_init_53 (by decide) ?_
  obtain ⟨k42, ek42, hr⟩ := of_nm hr
  obtain ⟨hf43, hr⟩ := of_grd hr
  obtain ⟨hn44, hr⟩ := of_grd hr
  obtain ⟨V, eV46, hr⟩ := of_nm hr
  obtain ⟨g45, eg45, hr⟩ := of_nm hr
  refine h_newa (t := 0) (ty := .int) (at0 := .int) cx fx dy hf43 (by decide) rfl rfl (fun _ _ h => h) rfl tb_117 (by decide) (by decide : (10 : Int32).toNatClampNeg = 10) (by decide) (Nat.le_trans (by decide) hC.1) (Nat.le_trans (by decide) hC.2) dX12_init_55 (fun ad H hz dy => ?_)
  replace hag := Ag.new (q := (100, 10)) hag hf43.1 hz
  rw [← eV46] at hag
  replace dy : Dy D cA ad (V, g45) A s.heap H locs := by rw [eV46, eg45]; exact dy
  have ea47 := hz k0 hn44
  rw [← ea47] at hl
  rw [← ea47]
  refine W.widen (k := 6) (n := 1122) (by decide) (by decide) ?_
  obtain ⟨hv48, hr⟩ := of_grd hr
  obtain ⟨g49, eg49, hr⟩ := of_nm hr
  refine h_putRF cx fx dy hini rfl fd_12_14 (pd_12_14 : PD _ _ _ _ _ (.array .int)) rfl rfl rfl hv48 tb_1000 dX12_init_57 (fun H locs dy => ?_)
  replace dy : Dy D cA ad (V, g49) A s.heap H locs := by rw [eg49]; exact dy
  refine lv_aload_n cx.1 cx.2.1 dX12_init_60 rfl (lv_at hl 0 rfl) ?_
  refine lv_sipush (v := 10240) cx.1 cx.2.1 dX12_init_61 (by decide) ?_
  obtain ⟨k50, ek50, hr⟩ := of_nm hr
  obtain ⟨hf51, hr⟩ := of_grd hr
  obtain ⟨hn52, hr⟩ := of_grd hr
  obtain ⟨V, eV54, hr⟩ := of_nm hr
  obtain ⟨g53, eg53, hr⟩ := of_nm hr
  refine h_newa (t := 0) (ty := .int) (at0 := .int) cx fx dy hf51 (by decide) rfl rfl (fun _ _ h => h) rfl tb_117 (by decide) (by decide : (10240 : Int32).toNatClampNeg = 10240) (by decide) (Nat.le_trans (by decide) hC.1) (Nat.le_trans (by decide) hC.2) dX12_init_64 (fun ad H hz dy => ?_)
  replace hag := Ag.new (q := (100, 10240)) hag hf51.1 hz
  rw [← eV54] at hag
  replace dy : Dy D cA ad (V, g53) A s.heap H locs := by rw [eV54, eg53]; exact dy
  have ea55 := hz k0 hn52
  rw [← ea55] at hl
  rw [← ea55]
  refine W.widen (k := 7) (n := 11362) (by decide) (by decide) ?_
  obtain ⟨hv56, hr⟩ := of_grd hr
  obtain ⟨g57, eg57, hr⟩ := of_nm hr
  refine h_putRF cx fx dy hini rfl fd_12_16 (pd_12_16 : PD _ _ _ _ _ (.array .int)) rfl rfl rfl hv56 tb_1002 dX12_init_66 (fun H locs dy => ?_)
  replace dy : Dy D cA ad (V, g57) A s.heap H locs := by rw [eg57]; exact dy
  refine lv_aload_n cx.1 cx.2.1 dX12_init_69 rfl (lv_at hl 0 rfl) ?_
  refine lv_sipush (v := 1024) cx.1 cx.2.1 dX12_init_70 (by decide) ?_
  obtain ⟨k58, ek58, hr⟩ := of_nm hr
  obtain ⟨hf59, hr⟩ := of_grd hr
  obtain ⟨hn60, hr⟩ := of_grd hr
  obtain ⟨V, eV62, hr⟩ := of_nm hr
  obtain ⟨g61, eg61, hr⟩ := of_nm hr
  refine h_newa (t := 0) (ty := .int) (at0 := .int) cx fx dy hf59 (by decide) rfl rfl (fun _ _ h => h) rfl tb_117 (by decide) (by decide : (1024 : Int32).toNatClampNeg = 1024) (by decide) (Nat.le_trans (by decide) hC.1) (Nat.le_trans (by decide) hC.2) dX12_init_73 (fun ad H hz dy => ?_)
  replace hag := Ag.new (q := (100, 1024)) hag hf59.1 hz
  rw [← eV62] at hag
  replace dy : Dy D cA ad (V, g61) A s.heap H locs := by rw [eV62, eg61]; exact dy
  have ea63 := hz k0 hn60
  rw [← ea63] at hl
  rw [← ea63]
  refine W.widen (k := 8) (n := 12386) (by decide) (by decide) ?_
  obtain ⟨hv64, hr⟩ := of_grd hr
  obtain ⟨g65, eg65, hr⟩ := of_nm hr
  refine h_putRF cx fx dy hini rfl fd_12_17 (pd_12_17 : PD _ _ _ _ _ (.array .int)) rfl rfl rfl hv64 tb_1003 dX12_init_75 (fun H locs dy => ?_)
  replace dy : Dy D cA ad (V, g65) A s.heap H locs := by rw [eg65]; exact dy
  refine lv_aload_n cx.1 cx.2.1 dX12_init_78 rfl (lv_at hl 0 rfl) ?_
  refine lv_bipush (v := 10) cx.1 cx.2.1 dX12_init_79 (by decide) ?_
  obtain ⟨k66, ek66, hr⟩ := of_nm hr
  obtain ⟨hf67, hr⟩ := of_grd hr
  obtain ⟨hn68, hr⟩ := of_grd hr
  obtain ⟨V, eV70, hr⟩ := of_nm hr
  obtain ⟨g69, eg69, hr⟩ := of_nm hr
  refine h_newa (t := 0) (ty := .int) (at0 := .int) cx fx dy hf67 (by decide) rfl rfl (fun _ _ h => h) rfl tb_117 (by decide) (by decide : (10 : Int32).toNatClampNeg = 10) (by decide) (Nat.le_trans (by decide) hC.1) (Nat.le_trans (by decide) hC.2) dX12_init_81 (fun ad H hz dy => ?_)
  replace hag := Ag.new (q := (100, 10)) hag hf67.1 hz
  rw [← eV70] at hag
  replace dy : Dy D cA ad (V, g69) A s.heap H locs := by rw [eV70, eg69]; exact dy
  have ea71 := hz k0 hn68
  rw [← ea71] at hl
  rw [← ea71]
  refine W.widen (k := 9) (n := 12396) (by decide) (by decide) ?_
  obtain ⟨hv72, hr⟩ := of_grd hr
  obtain ⟨g73, eg73, hr⟩ := of_nm hr
  refine h_putRF cx fx dy hini rfl fd_12_18 (pd_12_18 : PD _ _ _ _ _ (.array .int)) rfl rfl rfl hv72 tb_1004 dX12_init_83 (fun H locs dy => ?_)
  replace dy : Dy D cA ad (V, g73) A s.heap H locs := by rw [eg73]; exact dy
  refine lv_aload_n cx.1 cx.2.1 dX12_init_86 rfl (lv_at hl 0 rfl) ?_
  refine lv_bipush (v := 10) cx.1 cx.2.1 dX12_init_87 (by decide) ?_
  obtain ⟨k74, ek74, hr⟩ := of_nm hr
  obtain ⟨hf75, hr⟩ := of_grd hr
  obtain ⟨hn76, hr⟩ := of_grd hr
  obtain ⟨V, eV78, hr⟩ := of_nm hr
  obtain ⟨g77, eg77, hr⟩ := of_nm hr
  refine h_newa (t := 0) (ty := .int) (at0 := .int) cx fx dy hf75 (by decide) rfl rfl (fun _ _ h => h) rfl tb_117 (by decide) (by decide : (10 : Int32).toNatClampNeg = 10) (by decide) (Nat.le_trans (by decide) hC.1) (Nat.le_trans (by decide) hC.2) dX12_init_89 (fun ad H hz dy => ?_)
  replace hag := Ag.new (q := (100, 10)) hag hf75.1 hz
  rw [← eV78] at hag
  replace dy : Dy D cA ad (V, g77) A s.heap H locs := by rw [eV78, eg77]; exact dy
  have ea79 := hz k0 hn76
  rw [← ea79] at hl
  rw [← ea79]
  refine W.widen (k := 10) (n := 12406) (by decide) (by decide) ?_
  obtain ⟨hv80, hr⟩ := of_grd hr
  obtain ⟨g81, eg81, hr⟩ := of_nm hr
  refine h_putRF cx fx dy hini rfl fd_12_19 (pd_12_19 : PD _ _ _ _ _ (.array .int)) rfl rfl rfl hv80 tb_1005 dX12_init_91 (fun H locs dy => ?_)
  replace dy : Dy D cA ad (V, g81) A s.heap H locs := by rw [eg81]; exact dy
  refine lv_aload_n cx.1 cx.2.1 dX12_init_94 rfl (lv_at hl 0 rfl) ?_
  refine lv_bipush (v := 10) cx.1 cx.2.1 dX12_init_95 (by decide) ?_
  obtain ⟨k82, ek82, hr⟩ := of_nm hr
  obtain ⟨hf83, hr⟩ := of_grd hr
  obtain ⟨hn84, hr⟩ := of_grd hr
  obtain ⟨V, eV86, hr⟩ := of_nm hr
  obtain ⟨g85, eg85, hr⟩ := of_nm hr
  refine h_newa (t := 0) (ty := .int) (at0 := .int) cx fx dy hf83 (by decide) rfl rfl (fun _ _ h => h) rfl tb_117 (by decide) (by decide : (10 : Int32).toNatClampNeg = 10) (by decide) (Nat.le_trans (by decide) hC.1) (Nat.le_trans (by decide) hC.2) dX12_init_97 (fun ad H hz dy => ?_)
  replace hag := Ag.new (q := (100, 10)) hag hf83.1 hz
  rw [← eV86] at hag
  replace dy : Dy D cA ad (V, g85) A s.heap H locs := by rw [eV86, eg85]; exact dy
  have ea87 := hz k0 hn84
  rw [← ea87] at hl
  rw [← ea87]
  refine W.widen (k := 11) (n := 12416) (by decide) (by decide) ?_
  obtain ⟨hv88, hr⟩ := of_grd hr
  obtain ⟨g89, eg89, hr⟩ := of_nm hr
  refine h_putRF cx fx dy hini rfl fd_12_20 (pd_12_20 : PD _ _ _ _ _ (.array .int)) rfl rfl rfl hv88 tb_1006 dX12_init_99 (fun H locs dy => ?_)
  replace dy : Dy D cA ad (V, g89) A s.heap H locs := by rw [eg89]; exact dy
  refine lv_aload_n cx.1 cx.2.1 dX12_init_102 rfl (lv_at hl 0 rfl) ?_
  refine lv_bipush (v := 12) cx.1 cx.2.1 dX12_init_103 (by decide) ?_
  obtain ⟨k90, ek90, hr⟩ := of_nm hr
  obtain ⟨hf91, hr⟩ := of_grd hr
  obtain ⟨hn92, hr⟩ := of_grd hr
  obtain ⟨V, eV94, hr⟩ := of_nm hr
  obtain ⟨g93, eg93, hr⟩ := of_nm hr
  refine h_newa (t := 0) (ty := .int) (at0 := .int) cx fx dy hf91 (by decide) rfl rfl (fun _ _ h => h) rfl tb_117 (by decide) (by decide : (12 : Int32).toNatClampNeg = 12) (by decide) (Nat.le_trans (by decide) hC.1) (Nat.le_trans (by decide) hC.2) dX12_init_105 (fun ad H hz dy => ?_)
  replace hag := Ag.new (q := (100, 12)) hag hf91.1 hz
  rw [← eV94] at hag
  replace dy : Dy D cA ad (V, g93) A s.heap H locs := by rw [eV94, eg93]; exact dy
  have ea95 := hz k0 hn92
  rw [← ea95] at hl
  rw [← ea95]
  refine W.widen (k := 12) (n := 12428) (by decide) (by decide) ?_
  obtain ⟨hv96, hr⟩ := of_grd hr
  obtain ⟨g97, eg97, hr⟩ := of_nm hr
  refine h_putRF cx fx dy hini rfl fd_12_26 (pd_12_26 : PD _ _ _ _ _ (.array .int)) rfl rfl rfl hv96 tb_1012 dX12_init_107 (fun H locs dy => ?_)
  replace dy : Dy D cA ad (V, g97) A s.heap H locs := by rw [eg97]; exact dy
  refine lv_aload_n cx.1 cx.2.1 dX12_init_110 rfl (lv_at hl 0 rfl) ?_
  refine lv_bipush (v := 10) cx.1 cx.2.1 dX12_init_111 (by decide) ?_
  obtain ⟨k98, ek98, hr⟩ := of_nm hr
  obtain ⟨hf99, hr⟩ := of_grd hr
  obtain ⟨hn100, hr⟩ := of_grd hr
  obtain ⟨V, eV102, hr⟩ := of_nm hr
  obtain ⟨g101, eg101, hr⟩ := of_nm hr
  refine h_newa (t := 0) (ty := .int) (at0 := .int) cx fx dy hf99 (by decide) rfl rfl (fun _ _ h => h) rfl tb_117 (by decide) (by decide : (10 : Int32).toNatClampNeg = 10) (by decide) (Nat.le_trans (by decide) hC.1) (Nat.le_trans (by decide) hC.2) dX12_init_113 (fun ad H hz dy => ?_)
  replace hag := Ag.new (q := (100, 10)) hag hf99.1 hz
  rw [← eV102] at hag
  replace dy : Dy D cA ad (V, g101) A s.heap H locs := by rw [eV102, eg101]; exact dy
  have ea103 := hz k0 hn100
  rw [← ea103] at hl
  rw [← ea103]
  refine W.widen (k := 13) (n := 12438) (by decide) (by decide) ?_
  obtain ⟨hv104, hr⟩ := of_grd hr
  obtain ⟨g105, eg105, hr⟩ := of_nm hr
  refine h_putRF cx fx dy hini rfl fd_12_27 (pd_12_27 : PD _ _ _ _ _ (.array .int)) rfl rfl rfl hv104 tb_1013 dX12_init_115 (fun H locs dy => ?_)
  replace dy : Dy D cA ad (V, g105) A s.heap H locs := by rw [eg105]; exact dy
  refine lv_aload_n cx.1 cx.2.1 dX12_init_118 rfl (lv_at hl 0 rfl) ?_
  refine lv_bipush (v := 10) cx.1 cx.2.1 dX12_init_119 (by decide) ?_
  obtain ⟨k106, ek106, hr⟩ := of_nm hr
  obtain ⟨hf107, hr⟩ := of_grd hr
  obtain ⟨hn108, hr⟩ := of_grd hr
  obtain ⟨V, eV110, hr⟩ := of_nm hr
  obtain ⟨g109, eg109, hr⟩ := of_nm hr
  refine h_newa (t := 0) (ty := .int) (at0 := .int) cx fx dy hf107 (by decide) rfl rfl (fun _ _ h => h) rfl tb_117 (by decide) (by decide : (10 : Int32).toNatClampNeg = 10) (by decide) (Nat.le_trans (by decide) hC.1) (Nat.le_trans (by decide) hC.2) dX12_init_121 (fun ad H hz dy => ?_)
  replace hag := Ag.new (q := (100, 10)) hag hf107.1 hz
  rw [← eV110] at hag
  replace dy : Dy D cA ad (V, g109) A s.heap H locs := by rw [eV110, eg109]; exact dy
  have ea111 := hz k0 hn108
  rw [← ea111] at hl
  rw [← ea111]
  refine W.widen (k := 14) (n := 12448) (by decide) (by decide) ?_
  obtain ⟨hv112, hr⟩ := of_grd hr
  obtain ⟨g113, eg113, hr⟩ := of_nm hr
  refine h_putRF cx fx dy hini rfl fd_12_28 (pd_12_28 : PD _ _ _ _ _ (.array .int)) rfl rfl rfl hv112 tb_1014 dX12_init_123 (fun H locs dy => ?_)
  replace dy : Dy D cA ad (V, g113) A s.heap H locs := by rw [eg113]; exact dy
  refine lv_aload_n cx.1 cx.2.1 dX12_init_126 rfl (lv_at hl 0 rfl) ?_
  refine lv_bipush (v := 40) cx.1 cx.2.1 dX12_init_127 (by decide) ?_
  obtain ⟨k114, ek114, hr⟩ := of_nm hr
  obtain ⟨hf115, hr⟩ := of_grd hr
  obtain ⟨hn116, hr⟩ := of_grd hr
  obtain ⟨V, eV118, hr⟩ := of_nm hr
  obtain ⟨g117, eg117, hr⟩ := of_nm hr
  refine h_newa (t := 0) (ty := .int) (at0 := .int) cx fx dy hf115 (by decide) rfl rfl (fun _ _ h => h) rfl tb_117 (by decide) (by decide : (40 : Int32).toNatClampNeg = 40) (by decide) (Nat.le_trans (by decide) hC.1) (Nat.le_trans (by decide) hC.2) dX12_init_129 (fun ad H hz dy => ?_)
  replace hag := Ag.new (q := (100, 40)) hag hf115.1 hz
  rw [← eV118] at hag
  replace dy : Dy D cA ad (V, g117) A s.heap H locs := by rw [eV118, eg117]; exact dy
  have ea119 := hz k0 hn116
  rw [← ea119] at hl
  rw [← ea119]
  refine W.widen (k := 15) (n := 12488) (by decide) (by decide) ?_
  obtain ⟨hv120, hr⟩ := of_grd hr
  obtain ⟨g121, eg121, hr⟩ := of_nm hr
  refine h_putRF cx fx dy hini rfl fd_12_29 (pd_12_29 : PD _ _ _ _ _ (.array .int)) rfl rfl rfl hv120 tb_1015 dX12_init_131 (fun H locs dy => ?_)
  replace dy : Dy D cA ad (V, g121) A s.heap H locs := by rw [eg121]; exact dy
  refine lv_aload_n cx.1 cx.2.1 dX12_init_134 rfl (lv_at hl 0 rfl) ?_
  refine lv_sipush (v := 240) cx.1 cx.2.1 dX12_init_135 (by decide) ?_
  obtain ⟨k122, ek122, hr⟩ := of_nm hr
  obtain ⟨hf123, hr⟩ := of_grd hr
  obtain ⟨hn124, hr⟩ := of_grd hr
  obtain ⟨V, eV126, hr⟩ := of_nm hr
  obtain ⟨g125, eg125, hr⟩ := of_nm hr
  refine h_newa (t := 0) (ty := .int) (at0 := .int) cx fx dy hf123 (by decide) rfl rfl (fun _ _ h => h) rfl tb_117 (by decide) (by decide : (240 : Int32).toNatClampNeg = 240) (by decide) (Nat.le_trans (by decide) hC.1) (Nat.le_trans (by decide) hC.2) dX12_init_138 (fun ad H hz dy => ?_)
  replace hag := Ag.new (q := (100, 240)) hag hf123.1 hz
  rw [← eV126] at hag
  replace dy : Dy D cA ad (V, g125) A s.heap H locs := by rw [eV126, eg125]; exact dy
  have ea127 := hz k0 hn124
  rw [← ea127] at hl
  rw [← ea127]
  refine W.widen (k := 16) (n := 12728) (by decide) (by decide) ?_
  obtain ⟨hv128, hr⟩ := of_grd hr
  obtain ⟨g129, eg129, hr⟩ := of_nm hr
  refine h_putRF cx fx dy hini rfl fd_12_30 (pd_12_30 : PD _ _ _ _ _ (.array .int)) rfl rfl rfl hv128 tb_1016 dX12_init_140 (fun H locs dy => ?_)
  replace dy : Dy D cA ad (V, g129) A s.heap H locs := by rw [eg129]; exact dy
  refine lv_aload_n cx.1 cx.2.1 dX12_init_143 rfl (lv_at hl 0 rfl) ?_
  refine lv_iconst (v := 5) cx.1 cx.2.1 dX12_init_144 (by decide) ?_
  obtain ⟨k130, ek130, hr⟩ := of_nm hr
  obtain ⟨hf131, hr⟩ := of_grd hr
  obtain ⟨hn132, hr⟩ := of_grd hr
  obtain ⟨V, eV134, hr⟩ := of_nm hr
  obtain ⟨g133, eg133, hr⟩ := of_nm hr
  refine h_newa (t := 0) (ty := .int) (at0 := .int) cx fx dy hf131 (by decide) rfl rfl (fun _ _ h => h) rfl tb_117 (by decide) (by decide : (5 : Int32).toNatClampNeg = 5) (by decide) (Nat.le_trans (by decide) hC.1) (Nat.le_trans (by decide) hC.2) dX12_init_145 (fun ad H hz dy => ?_)
  replace hag := Ag.new (q := (100, 5)) hag hf131.1 hz
  rw [← eV134] at hag
  replace dy : Dy D cA ad (V, g133) A s.heap H locs := by rw [eV134, eg133]; exact dy
  have ea135 := hz k0 hn132
  rw [← ea135] at hl
  rw [← ea135]
  refine W.widen (k := 17) (n := 12733) (by decide) (by decide) ?_
  obtain ⟨hv136, hr⟩ := of_grd hr
  obtain ⟨g137, eg137, hr⟩ := of_nm hr
  refine h_putRF cx fx dy hini rfl fd_12_31 (pd_12_31 : PD _ _ _ _ _ (.array .int)) rfl rfl rfl hv136 tb_1017 dX12_init_147 (fun H locs dy => ?_)
  replace dy : Dy D cA ad (V, g137) A s.heap H locs := by rw [eg137]; exact dy
  refine lv_aload_n cx.1 cx.2.1 dX12_init_150 rfl (lv_at hl 0 rfl) ?_
  refine lv_bipush (v := 60) cx.1 cx.2.1 dX12_init_151 (by decide) ?_
  obtain ⟨k138, ek138, hr⟩ := of_nm hr
  obtain ⟨hf139, hr⟩ := of_grd hr
  obtain ⟨hn140, hr⟩ := of_grd hr
  obtain ⟨V, eV142, hr⟩ := of_nm hr
  obtain ⟨g141, eg141, hr⟩ := of_nm hr
  refine h_newa (t := 0) (ty := .int) (at0 := .int) cx fx dy hf139 (by decide) rfl rfl (fun _ _ h => h) rfl tb_117 (by decide) (by decide : (60 : Int32).toNatClampNeg = 60) (by decide) (Nat.le_trans (by decide) hC.1) (Nat.le_trans (by decide) hC.2) dX12_init_153 (fun ad H hz dy => ?_)
  replace hag := Ag.new (q := (100, 60)) hag hf139.1 hz
  rw [← eV142] at hag
  replace dy : Dy D cA ad (V, g141) A s.heap H locs := by rw [eV142, eg141]; exact dy
  have ea143 := hz k0 hn140
  rw [← ea143] at hl
  rw [← ea143]
  refine W.widen (k := 18) (n := 12793) (by decide) (by decide) ?_
  obtain ⟨hv144, hr⟩ := of_grd hr
  obtain ⟨g145, eg145, hr⟩ := of_nm hr
  refine h_putRF cx fx dy hini rfl fd_12_33 (pd_12_33 : PD _ _ _ _ _ (.array .int)) rfl rfl rfl hv144 tb_1019 dX12_init_155 (fun H locs dy => ?_)
  replace dy : Dy D cA ad (V, g145) A s.heap H locs := by rw [eg145]; exact dy
  refine lv_aload_n cx.1 cx.2.1 dX12_init_158 rfl (lv_at hl 0 rfl) ?_
  refine lv_bipush (v := 60) cx.1 cx.2.1 dX12_init_159 (by decide) ?_
  obtain ⟨k146, ek146, hr⟩ := of_nm hr
  obtain ⟨hf147, hr⟩ := of_grd hr
  obtain ⟨hn148, hr⟩ := of_grd hr
  obtain ⟨V, eV150, hr⟩ := of_nm hr
  obtain ⟨g149, eg149, hr⟩ := of_nm hr
  refine h_newa (t := 0) (ty := .int) (at0 := .int) cx fx dy hf147 (by decide) rfl rfl (fun _ _ h => h) rfl tb_117 (by decide) (by decide : (60 : Int32).toNatClampNeg = 60) (by decide) (Nat.le_trans (by decide) hC.1) (Nat.le_trans (by decide) hC.2) dX12_init_161 (fun ad H hz dy => ?_)
  replace hag := Ag.new (q := (100, 60)) hag hf147.1 hz
  rw [← eV150] at hag
  replace dy : Dy D cA ad (V, g149) A s.heap H locs := by rw [eV150, eg149]; exact dy
  have ea151 := hz k0 hn148
  rw [← ea151] at hl
  rw [← ea151]
  refine W.widen (k := 19) (n := 12853) (by decide) (by decide) ?_
  obtain ⟨hv152, hr⟩ := of_grd hr
  obtain ⟨g153, eg153, hr⟩ := of_nm hr
  refine h_putRF cx fx dy hini rfl fd_12_34 (pd_12_34 : PD _ _ _ _ _ (.array .int)) rfl rfl rfl hv152 tb_1020 dX12_init_163 (fun H locs dy => ?_)
  replace dy : Dy D cA ad (V, g153) A s.heap H locs := by rw [eg153]; exact dy
  refine lv_aload_n cx.1 cx.2.1 dX12_init_166 rfl (lv_at hl 0 rfl) ?_
  refine lv_bipush (v := 60) cx.1 cx.2.1 dX12_init_167 (by decide) ?_
  obtain ⟨k154, ek154, hr⟩ := of_nm hr
  obtain ⟨hf155, hr⟩ := of_grd hr
  obtain ⟨hn156, hr⟩ := of_grd hr
  obtain ⟨V, eV158, hr⟩ := of_nm hr
  obtain ⟨g157, eg157, hr⟩ := of_nm hr
  refine h_newa (t := 0) (ty := .int) (at0 := .int) cx fx dy hf155 (by decide) rfl rfl (fun _ _ h => h) rfl tb_117 (by decide) (by decide : (60 : Int32).toNatClampNeg = 60) (by decide) (Nat.le_trans (by decide) hC.1) (Nat.le_trans (by decide) hC.2) dX12_init_169 (fun ad H hz dy => ?_)
  replace hag := Ag.new (q := (100, 60)) hag hf155.1 hz
  rw [← eV158] at hag
  replace dy : Dy D cA ad (V, g157) A s.heap H locs := by rw [eV158, eg157]; exact dy
  have ea159 := hz k0 hn156
  rw [← ea159] at hl
  rw [← ea159]
  refine W.widen (k := 20) (n := 12913) (by decide) (by decide) ?_
  obtain ⟨hv160, hr⟩ := of_grd hr
  obtain ⟨g161, eg161, hr⟩ := of_nm hr
  refine h_putRF cx fx dy hini rfl fd_12_35 (pd_12_35 : PD _ _ _ _ _ (.array .int)) rfl rfl rfl hv160 tb_1021 dX12_init_171 (fun H locs dy => ?_)
  replace dy : Dy D cA ad (V, g161) A s.heap H locs := by rw [eg161]; exact dy
  refine lv_aload_n cx.1 cx.2.1 dX12_init_174 rfl (lv_at hl 0 rfl) ?_
  refine lv_bipush (v := 60) cx.1 cx.2.1 dX12_init_175 (by decide) ?_
  obtain ⟨k162, ek162, hr⟩ := of_nm hr
  obtain ⟨hf163, hr⟩ := of_grd hr
  obtain ⟨hn164, hr⟩ := of_grd hr
  obtain ⟨V, eV166, hr⟩ := of_nm hr
  obtain ⟨g165, eg165, hr⟩ := of_nm hr
  refine h_newa (t := 0) (ty := .int) (at0 := .int) cx fx dy hf163 (by decide) rfl rfl (fun _ _ h => h) rfl tb_117 (by decide) (by decide : (60 : Int32).toNatClampNeg = 60) (by decide) (Nat.le_trans (by decide) hC.1) (Nat.le_trans (by decide) hC.2) dX12_init_177 (fun ad H hz dy => ?_)
  replace hag := Ag.new (q := (100, 60)) hag hf163.1 hz
  rw [← eV166] at hag
  replace dy : Dy D cA ad (V, g165) A s.heap H locs := by rw [eV166, eg165]; exact dy
  have ea167 := hz k0 hn164
  rw [← ea167] at hl
  rw [← ea167]
  refine W.widen (k := 21) (n := 12973) (by decide) (by decide) ?_
  obtain ⟨hv168, hr⟩ := of_grd hr
  obtain ⟨g169, eg169, hr⟩ := of_nm hr
  refine h_putRF cx fx dy hini rfl fd_12_36 (pd_12_36 : PD _ _ _ _ _ (.array .int)) rfl rfl rfl hv168 tb_1022 dX12_init_179 (fun H locs dy => ?_)
  replace dy : Dy D cA ad (V, g169) A s.heap H locs := by rw [eg169]; exact dy
  refine lv_aload_n cx.1 cx.2.1 dX12_init_182 rfl (lv_at hl 0 rfl) ?_
  refine lv_bipush (v := 60) cx.1 cx.2.1 dX12_init_183 (by decide) ?_
  obtain ⟨k170, ek170, hr⟩ := of_nm hr
  obtain ⟨hf171, hr⟩ := of_grd hr
  obtain ⟨hn172, hr⟩ := of_grd hr
  obtain ⟨V, eV174, hr⟩ := of_nm hr
  obtain ⟨g173, eg173, hr⟩ := of_nm hr
  refine h_newa (t := 0) (ty := .int) (at0 := .int) cx fx dy hf171 (by decide) rfl rfl (fun _ _ h => h) rfl tb_117 (by decide) (by decide : (60 : Int32).toNatClampNeg = 60) (by decide) (Nat.le_trans (by decide) hC.1) (Nat.le_trans (by decide) hC.2) dX12_init_185 (fun ad H hz dy => ?_)
  replace hag := Ag.new (q := (100, 60)) hag hf171.1 hz
  rw [← eV174] at hag
  replace dy : Dy D cA ad (V, g173) A s.heap H locs := by rw [eV174, eg173]; exact dy
  have ea175 := hz k0 hn172
  rw [← ea175] at hl
  rw [← ea175]
  refine W.widen (k := 22) (n := 13033) (by decide) (by decide) ?_
  obtain ⟨hv176, hr⟩ := of_grd hr
  obtain ⟨g177, eg177, hr⟩ := of_nm hr
  refine h_putRF cx fx dy hini rfl fd_12_37 (pd_12_37 : PD _ _ _ _ _ (.array .int)) rfl rfl rfl hv176 tb_1023 dX12_init_187 (fun H locs dy => ?_)
  replace dy : Dy D cA ad (V, g177) A s.heap H locs := by rw [eg177]; exact dy
  refine lv_aload_n cx.1 cx.2.1 dX12_init_190 rfl (lv_at hl 0 rfl) ?_
  refine lv_bipush (v := 60) cx.1 cx.2.1 dX12_init_191 (by decide) ?_
  obtain ⟨k178, ek178, hr⟩ := of_nm hr
  obtain ⟨hf179, hr⟩ := of_grd hr
  obtain ⟨hn180, hr⟩ := of_grd hr
  obtain ⟨V, eV182, hr⟩ := of_nm hr
  obtain ⟨g181, eg181, hr⟩ := of_nm hr
  refine h_newa (t := 0) (ty := .int) (at0 := .int) cx fx dy hf179 (by decide) rfl rfl (fun _ _ h => h) rfl tb_117 (by decide) (by decide : (60 : Int32).toNatClampNeg = 60) (by decide) (Nat.le_trans (by decide) hC.1) (Nat.le_trans (by decide) hC.2) dX12_init_193 (fun ad H hz dy => ?_)
  replace hag := Ag.new (q := (100, 60)) hag hf179.1 hz
  rw [← eV182] at hag
  replace dy : Dy D cA ad (V, g181) A s.heap H locs := by rw [eV182, eg181]; exact dy
  have ea183 := hz k0 hn180
  rw [← ea183] at hl
  rw [← ea183]
  refine W.widen (k := 23) (n := 13093) (by decide) (by decide) ?_
  obtain ⟨hv184, hr⟩ := of_grd hr
  obtain ⟨g185, eg185, hr⟩ := of_nm hr
  refine h_putRF cx fx dy hini rfl fd_12_38 (pd_12_38 : PD _ _ _ _ _ (.array .int)) rfl rfl rfl hv184 tb_1024 dX12_init_195 (fun H locs dy => ?_)
  replace dy : Dy D cA ad (V, g185) A s.heap H locs := by rw [eg185]; exact dy
  refine lv_aload_n cx.1 cx.2.1 dX12_init_198 rfl (lv_at hl 0 rfl) ?_
  refine lv_iconst (v := 4) cx.1 cx.2.1 dX12_init_199 (by decide) ?_
  obtain ⟨k186, ek186, hr⟩ := of_nm hr
  obtain ⟨hf187, hr⟩ := of_grd hr
  obtain ⟨hn188, hr⟩ := of_grd hr
  obtain ⟨V, eV190, hr⟩ := of_nm hr
  obtain ⟨g189, eg189, hr⟩ := of_nm hr
  refine h_newa (t := 0) (ty := .int) (at0 := .int) cx fx dy hf187 (by decide) rfl rfl (fun _ _ h => h) rfl tb_117 (by decide) (by decide : (4 : Int32).toNatClampNeg = 4) (by decide) (Nat.le_trans (by decide) hC.1) (Nat.le_trans (by decide) hC.2) dX12_init_200 (fun ad H hz dy => ?_)
  replace hag := Ag.new (q := (100, 4)) hag hf187.1 hz
  rw [← eV190] at hag
  replace dy : Dy D cA ad (V, g189) A s.heap H locs := by rw [eV190, eg189]; exact dy
  have ea191 := hz k0 hn188
  rw [← ea191] at hl
  rw [← ea191]
  refine W.widen (k := 24) (n := 13097) (by decide) (by decide) ?_
  obtain ⟨hv192, hr⟩ := of_grd hr
  obtain ⟨g193, eg193, hr⟩ := of_nm hr
  refine h_putRF cx fx dy hini rfl fd_12_39 (pd_12_39 : PD _ _ _ _ _ (.array .int)) rfl rfl rfl hv192 tb_1025 dX12_init_202 (fun H locs dy => ?_)
  replace dy : Dy D cA ad (V, g193) A s.heap H locs := by rw [eg193]; exact dy
  refine lv_aload_n cx.1 cx.2.1 dX12_init_205 rfl (lv_at hl 0 rfl) ?_
  refine lv_iconst (v := 4) cx.1 cx.2.1 dX12_init_206 (by decide) ?_
  obtain ⟨k194, ek194, hr⟩ := of_nm hr
  obtain ⟨hf195, hr⟩ := of_grd hr
  obtain ⟨hn196, hr⟩ := of_grd hr
  obtain ⟨V, eV198, hr⟩ := of_nm hr
  obtain ⟨g197, eg197, hr⟩ := of_nm hr
  refine h_newa (t := 0) (ty := .int) (at0 := .int) cx fx dy hf195 (by decide) rfl rfl (fun _ _ h => h) rfl tb_117 (by decide) (by decide : (4 : Int32).toNatClampNeg = 4) (by decide) (Nat.le_trans (by decide) hC.1) (Nat.le_trans (by decide) hC.2) dX12_init_207 (fun ad H hz dy => ?_)
  replace hag := Ag.new (q := (100, 4)) hag hf195.1 hz
  rw [← eV198] at hag
  replace dy : Dy D cA ad (V, g197) A s.heap H locs := by rw [eV198, eg197]; exact dy
  have ea199 := hz k0 hn196
  rw [← ea199] at hl
  rw [← ea199]
  refine W.widen (k := 25) (n := 13101) (by decide) (by decide) ?_
  obtain ⟨hv200, hr⟩ := of_grd hr
  obtain ⟨g201, eg201, hr⟩ := of_nm hr
  refine h_putRF cx fx dy hini rfl fd_12_40 (pd_12_40 : PD _ _ _ _ _ (.array .int)) rfl rfl rfl hv200 tb_1026 dX12_init_209 (fun H locs dy => ?_)
  replace dy : Dy D cA ad (V, g201) A s.heap H locs := by rw [eg201]; exact dy
  refine lv_aload_n cx.1 cx.2.1 dX12_init_212 rfl (lv_at hl 0 rfl) ?_
  refine lv_iconst (v := 4) cx.1 cx.2.1 dX12_init_213 (by decide) ?_
  obtain ⟨k202, ek202, hr⟩ := of_nm hr
  obtain ⟨hf203, hr⟩ := of_grd hr
  obtain ⟨hn204, hr⟩ := of_grd hr
  obtain ⟨V, eV206, hr⟩ := of_nm hr
  obtain ⟨g205, eg205, hr⟩ := of_nm hr
  refine h_newa (t := 0) (ty := .int) (at0 := .int) cx fx dy hf203 (by decide) rfl rfl (fun _ _ h => h) rfl tb_117 (by decide) (by decide : (4 : Int32).toNatClampNeg = 4) (by decide) (Nat.le_trans (by decide) hC.1) (Nat.le_trans (by decide) hC.2) dX12_init_214 (fun ad H hz dy => ?_)
  replace hag := Ag.new (q := (100, 4)) hag hf203.1 hz
  rw [← eV206] at hag
  replace dy : Dy D cA ad (V, g205) A s.heap H locs := by rw [eV206, eg205]; exact dy
  have ea207 := hz k0 hn204
  rw [← ea207] at hl
  rw [← ea207]
  refine W.widen (k := 26) (n := 13105) (by decide) (by decide) ?_
  obtain ⟨hv208, hr⟩ := of_grd hr
  obtain ⟨g209, eg209, hr⟩ := of_nm hr
  refine h_putRF cx fx dy hini rfl fd_12_41 (pd_12_41 : PD _ _ _ _ _ (.array .int)) rfl rfl rfl hv208 tb_1027 dX12_init_216 (fun H locs dy => ?_)
  replace dy : Dy D cA ad (V, g209) A s.heap H locs := by rw [eg209]; exact dy
  refine lv_aload_n cx.1 cx.2.1 dX12_init_219 rfl (lv_at hl 0 rfl) ?_
  refine lv_sipush (v := 800) cx.1 cx.2.1 dX12_init_220 (by decide) ?_
  obtain ⟨k210, ek210, hr⟩ := of_nm hr
  obtain ⟨hf211, hr⟩ := of_grd hr
  obtain ⟨hn212, hr⟩ := of_grd hr
  obtain ⟨V, eV214, hr⟩ := of_nm hr
  obtain ⟨g213, eg213, hr⟩ := of_nm hr
  refine h_newa (t := 0) (ty := .int) (at0 := .int) cx fx dy hf211 (by decide) rfl rfl (fun _ _ h => h) rfl tb_117 (by decide) (by decide : (800 : Int32).toNatClampNeg = 800) (by decide) (Nat.le_trans (by decide) hC.1) (Nat.le_trans (by decide) hC.2) dX12_init_223 (fun ad H hz dy => ?_)
  replace hag := Ag.new (q := (100, 800)) hag hf211.1 hz
  rw [← eV214] at hag
  replace dy : Dy D cA ad (V, g213) A s.heap H locs := by rw [eV214, eg213]; exact dy
  have ea215 := hz k0 hn212
  rw [← ea215] at hl
  rw [← ea215]
  refine W.widen (k := 27) (n := 13905) (by decide) (by decide) ?_
  obtain ⟨hv216, hr⟩ := of_grd hr
  obtain ⟨g217, eg217, hr⟩ := of_nm hr
  refine h_putRF cx fx dy hini rfl fd_12_42 (pd_12_42 : PD _ _ _ _ _ (.array .int)) rfl rfl rfl hv216 tb_1028 dX12_init_225 (fun H locs dy => ?_)
  replace dy : Dy D cA ad (V, g217) A s.heap H locs := by rw [eg217]; exact dy
  refine lv_aload_n cx.1 cx.2.1 dX12_init_228 rfl (lv_at hl 0 rfl) ?_
  refine lv_sipush (v := 800) cx.1 cx.2.1 dX12_init_229 (by decide) ?_
  obtain ⟨k218, ek218, hr⟩ := of_nm hr
  obtain ⟨hf219, hr⟩ := of_grd hr
  obtain ⟨hn220, hr⟩ := of_grd hr
  obtain ⟨V, eV222, hr⟩ := of_nm hr
  obtain ⟨g221, eg221, hr⟩ := of_nm hr
  refine h_newa (t := 2) (ty := .boolean) (at0 := .boolean) cx fx dy hf219 (by decide) rfl rfl (fun _ _ h => h) rfl tb_319 (by decide) (by decide : (800 : Int32).toNatClampNeg = 800) (by decide) (Nat.le_trans (by decide) hC.1) (Nat.le_trans (by decide) hC.2) dX12_init_232 (fun ad H hz dy => ?_)
  replace hag := Ag.new (q := (102, 800)) hag hf219.1 hz
  rw [← eV222] at hag
  replace dy : Dy D cA ad (V, g221) A s.heap H locs := by rw [eV222, eg221]; exact dy
  have ea223 := hz k0 hn220
  rw [← ea223] at hl
  rw [← ea223]
  refine W.widen (k := 28) (n := 14705) (by decide) (by decide) ?_
  obtain ⟨hv224, hr⟩ := of_grd hr
  obtain ⟨g225, eg225, hr⟩ := of_nm hr
  refine h_putRF cx fx dy hini rfl fd_12_43 (pd_12_43 : PD _ _ _ _ _ (.array .boolean)) rfl rfl rfl hv224 tb_1029 dX12_init_234 (fun H locs dy => ?_)
  replace dy : Dy D cA ad (V, g225) A s.heap H locs := by rw [eg225]; exact dy
  refine lv_aload_n cx.1 cx.2.1 dX12_init_237 rfl (lv_at hl 0 rfl) ?_
  refine lv_sipush (v := 800) cx.1 cx.2.1 dX12_init_238 (by decide) ?_
  obtain ⟨k226, ek226, hr⟩ := of_nm hr
  obtain ⟨hf227, hr⟩ := of_grd hr
  obtain ⟨hn228, hr⟩ := of_grd hr
  obtain ⟨V, eV230, hr⟩ := of_nm hr
  obtain ⟨g229, eg229, hr⟩ := of_nm hr
  refine h_newa (t := 0) (ty := .int) (at0 := .int) cx fx dy hf227 (by decide) rfl rfl (fun _ _ h => h) rfl tb_117 (by decide) (by decide : (800 : Int32).toNatClampNeg = 800) (by decide) (Nat.le_trans (by decide) hC.1) (Nat.le_trans (by decide) hC.2) dX12_init_241 (fun ad H hz dy => ?_)
  replace hag := Ag.new (q := (100, 800)) hag hf227.1 hz
  rw [← eV230] at hag
  replace dy : Dy D cA ad (V, g229) A s.heap H locs := by rw [eV230, eg229]; exact dy
  have ea231 := hz k0 hn228
  rw [← ea231] at hl
  rw [← ea231]
  refine W.widen (k := 29) (n := 15505) (by decide) (by decide) ?_
  obtain ⟨hv232, hr⟩ := of_grd hr
  obtain ⟨g233, eg233, hr⟩ := of_nm hr
  refine h_putRF cx fx dy hini rfl fd_12_44 (pd_12_44 : PD _ _ _ _ _ (.array .int)) rfl rfl rfl hv232 tb_1030 dX12_init_243 (fun H locs dy => ?_)
  replace dy : Dy D cA ad (V, g233) A s.heap H locs := by rw [eg233]; exact dy
  refine lv_aload_n cx.1 cx.2.1 dX12_init_246 rfl (lv_at hl 0 rfl) ?_
  refine lv_iconst (v := 4) cx.1 cx.2.1 dX12_init_247 (by decide) ?_
  obtain ⟨k234, ek234, hr⟩ := of_nm hr
  obtain ⟨hf235, hr⟩ := of_grd hr
  obtain ⟨hn236, hr⟩ := of_grd hr
  obtain ⟨V, eV238, hr⟩ := of_nm hr
  obtain ⟨g237, eg237, hr⟩ := of_nm hr
  refine h_newa (t := 0) (ty := .int) (at0 := .int) cx fx dy hf235 (by decide) rfl rfl (fun _ _ h => h) rfl tb_117 (by decide) (by decide : (4 : Int32).toNatClampNeg = 4) (by decide) (Nat.le_trans (by decide) hC.1) (Nat.le_trans (by decide) hC.2) dX12_init_248 (fun ad H hz dy => ?_)
  replace hag := Ag.new (q := (100, 4)) hag hf235.1 hz
  rw [← eV238] at hag
  replace dy : Dy D cA ad (V, g237) A s.heap H locs := by rw [eV238, eg237]; exact dy
  have ea239 := hz k0 hn236
  rw [← ea239] at hl
  rw [← ea239]
  refine W.widen (k := 30) (n := 15509) (by decide) (by decide) ?_
  obtain ⟨hv240, hr⟩ := of_grd hr
  obtain ⟨g241, eg241, hr⟩ := of_nm hr
  refine h_putRF cx fx dy hini rfl fd_12_45 (pd_12_45 : PD _ _ _ _ _ (.array .int)) rfl rfl rfl hv240 tb_1031 dX12_init_250 (fun H locs dy => ?_)
  replace dy : Dy D cA ad (V, g241) A s.heap H locs := by rw [eg241]; exact dy
  refine lv_aload_n cx.1 cx.2.1 dX12_init_253 rfl (lv_at hl 0 rfl) ?_
  refine lv_bipush (v := 100) cx.1 cx.2.1 dX12_init_254 (by decide) ?_
  obtain ⟨k242, ek242, hr⟩ := of_nm hr
  obtain ⟨hf243, hr⟩ := of_grd hr
  obtain ⟨hn244, hr⟩ := of_grd hr
  obtain ⟨V, eV246, hr⟩ := of_nm hr
  obtain ⟨g245, eg245, hr⟩ := of_nm hr
  refine h_newa (t := 0) (ty := .int) (at0 := .int) cx fx dy hf243 (by decide) rfl rfl (fun _ _ h => h) rfl tb_117 (by decide) (by decide : (100 : Int32).toNatClampNeg = 100) (by decide) (Nat.le_trans (by decide) hC.1) (Nat.le_trans (by decide) hC.2) dX12_init_256 (fun ad H hz dy => ?_)
  replace hag := Ag.new (q := (100, 100)) hag hf243.1 hz
  rw [← eV246] at hag
  replace dy : Dy D cA ad (V, g245) A s.heap H locs := by rw [eV246, eg245]; exact dy
  have ea247 := hz k0 hn244
  rw [← ea247] at hl
  rw [← ea247]
  refine W.widen (k := 31) (n := 15609) (by decide) (by decide) ?_
  obtain ⟨hv248, hr⟩ := of_grd hr
  obtain ⟨g249, eg249, hr⟩ := of_nm hr
  refine h_putRF cx fx dy hini rfl fd_12_47 (pd_12_47 : PD _ _ _ _ _ (.array .int)) rfl rfl rfl hv248 tb_1033 dX12_init_258 (fun H locs dy => ?_)
  replace dy : Dy D cA ad (V, g249) A s.heap H locs := by rw [eg249]; exact dy
  refine lv_aload_n cx.1 cx.2.1 dX12_init_261 rfl (lv_at hl 0 rfl) ?_
  refine lv_bipush (v := 100) cx.1 cx.2.1 dX12_init_262 (by decide) ?_
  obtain ⟨k250, ek250, hr⟩ := of_nm hr
  obtain ⟨hf251, hr⟩ := of_grd hr
  obtain ⟨hn252, hr⟩ := of_grd hr
  obtain ⟨V, eV254, hr⟩ := of_nm hr
  obtain ⟨g253, eg253, hr⟩ := of_nm hr
  refine h_newa (t := 0) (ty := .int) (at0 := .int) cx fx dy hf251 (by decide) rfl rfl (fun _ _ h => h) rfl tb_117 (by decide) (by decide : (100 : Int32).toNatClampNeg = 100) (by decide) (Nat.le_trans (by decide) hC.1) (Nat.le_trans (by decide) hC.2) dX12_init_264 (fun ad H hz dy => ?_)
  replace hag := Ag.new (q := (100, 100)) hag hf251.1 hz
  rw [← eV254] at hag
  replace dy : Dy D cA ad (V, g253) A s.heap H locs := by rw [eV254, eg253]; exact dy
  have ea255 := hz k0 hn252
  rw [← ea255] at hl
  rw [← ea255]
  refine W.widen (k := 32) (n := 15709) (by decide) (by decide) ?_
  obtain ⟨hv256, hr⟩ := of_grd hr
  obtain ⟨g257, eg257, hr⟩ := of_nm hr
  refine h_putRF cx fx dy hini rfl fd_12_48 (pd_12_48 : PD _ _ _ _ _ (.array .int)) rfl rfl rfl hv256 tb_1034 dX12_init_266 (fun H locs dy => ?_)
  replace dy : Dy D cA ad (V, g257) A s.heap H locs := by rw [eg257]; exact dy
  refine lv_aload_n cx.1 cx.2.1 dX12_init_269 rfl (lv_at hl 0 rfl) ?_
  refine lv_bipush (v := 100) cx.1 cx.2.1 dX12_init_270 (by decide) ?_
  obtain ⟨k258, ek258, hr⟩ := of_nm hr
  obtain ⟨hf259, hr⟩ := of_grd hr
  obtain ⟨hn260, hr⟩ := of_grd hr
  obtain ⟨V, eV262, hr⟩ := of_nm hr
  obtain ⟨g261, eg261, hr⟩ := of_nm hr
  refine h_newa (t := 0) (ty := .int) (at0 := .int) cx fx dy hf259 (by decide) rfl rfl (fun _ _ h => h) rfl tb_117 (by decide) (by decide : (100 : Int32).toNatClampNeg = 100) (by decide) (Nat.le_trans (by decide) hC.1) (Nat.le_trans (by decide) hC.2) dX12_init_272 (fun ad H hz dy => ?_)
  replace hag := Ag.new (q := (100, 100)) hag hf259.1 hz
  rw [← eV262] at hag
  replace dy : Dy D cA ad (V, g261) A s.heap H locs := by rw [eV262, eg261]; exact dy
  have ea263 := hz k0 hn260
  rw [← ea263] at hl
  rw [← ea263]
  refine W.widen (k := 33) (n := 15809) (by decide) (by decide) ?_
  obtain ⟨hv264, hr⟩ := of_grd hr
  obtain ⟨g265, eg265, hr⟩ := of_nm hr
  refine h_putRF cx fx dy hini rfl fd_12_49 (pd_12_49 : PD _ _ _ _ _ (.array .int)) rfl rfl rfl hv264 tb_1035 dX12_init_274 (fun H locs dy => ?_)
  replace dy : Dy D cA ad (V, g265) A s.heap H locs := by rw [eg265]; exact dy
  refine lv_aload_n cx.1 cx.2.1 dX12_init_277 rfl (lv_at hl 0 rfl) ?_
  refine lv_bipush (v := 100) cx.1 cx.2.1 dX12_init_278 (by decide) ?_
  obtain ⟨k266, ek266, hr⟩ := of_nm hr
  obtain ⟨hf267, hr⟩ := of_grd hr
  obtain ⟨hn268, hr⟩ := of_grd hr
  obtain ⟨V, eV270, hr⟩ := of_nm hr
  obtain ⟨g269, eg269, hr⟩ := of_nm hr
  refine h_newa (t := 0) (ty := .int) (at0 := .int) cx fx dy hf267 (by decide) rfl rfl (fun _ _ h => h) rfl tb_117 (by decide) (by decide : (100 : Int32).toNatClampNeg = 100) (by decide) (Nat.le_trans (by decide) hC.1) (Nat.le_trans (by decide) hC.2) dX12_init_280 (fun ad H hz dy => ?_)
  replace hag := Ag.new (q := (100, 100)) hag hf267.1 hz
  rw [← eV270] at hag
  replace dy : Dy D cA ad (V, g269) A s.heap H locs := by rw [eV270, eg269]; exact dy
  have ea271 := hz k0 hn268
  rw [← ea271] at hl
  rw [← ea271]
  refine W.widen (k := 34) (n := 15909) (by decide) (by decide) ?_
  obtain ⟨hv272, hr⟩ := of_grd hr
  obtain ⟨g273, eg273, hr⟩ := of_nm hr
  refine h_putRF cx fx dy hini rfl fd_12_50 (pd_12_50 : PD _ _ _ _ _ (.array .int)) rfl rfl rfl hv272 tb_1036 dX12_init_282 (fun H locs dy => ?_)
  replace dy : Dy D cA ad (V, g273) A s.heap H locs := by rw [eg273]; exact dy
  refine lv_aload_n cx.1 cx.2.1 dX12_init_285 rfl (lv_at hl 0 rfl) ?_
  refine lv_bipush (v := 100) cx.1 cx.2.1 dX12_init_286 (by decide) ?_
  obtain ⟨k274, ek274, hr⟩ := of_nm hr
  obtain ⟨hf275, hr⟩ := of_grd hr
  obtain ⟨hn276, hr⟩ := of_grd hr
  obtain ⟨V, eV278, hr⟩ := of_nm hr
  obtain ⟨g277, eg277, hr⟩ := of_nm hr
  refine h_newa (t := 0) (ty := .int) (at0 := .int) cx fx dy hf275 (by decide) rfl rfl (fun _ _ h => h) rfl tb_117 (by decide) (by decide : (100 : Int32).toNatClampNeg = 100) (by decide) (Nat.le_trans (by decide) hC.1) (Nat.le_trans (by decide) hC.2) dX12_init_288 (fun ad H hz dy => ?_)
  replace hag := Ag.new (q := (100, 100)) hag hf275.1 hz
  rw [← eV278] at hag
  replace dy : Dy D cA ad (V, g277) A s.heap H locs := by rw [eV278, eg277]; exact dy
  have ea279 := hz k0 hn276
  rw [← ea279] at hl
  rw [← ea279]
  refine W.widen (k := 35) (n := 16009) (by decide) (by decide) ?_
  obtain ⟨hv280, hr⟩ := of_grd hr
  obtain ⟨g281, eg281, hr⟩ := of_nm hr
  refine h_putRF cx fx dy hini rfl fd_12_51 (pd_12_51 : PD _ _ _ _ _ (.array .int)) rfl rfl rfl hv280 tb_1037 dX12_init_290 (fun H locs dy => ?_)
  replace dy : Dy D cA ad (V, g281) A s.heap H locs := by rw [eg281]; exact dy
  refine lv_aload_n cx.1 cx.2.1 dX12_init_293 rfl (lv_at hl 0 rfl) ?_
  refine lv_bipush (v := (-9)) cx.1 cx.2.1 dX12_init_294 (by decide) ?_
  obtain ⟨g282, eg282, hr⟩ := of_nm hr
  refine h_putI cx fx dy fd_12_52 (pd_12_52 : PD _ _ _ _ _ .int) rfl rfl rfl hv280 tb_1038 dX12_init_296 (fun H locs dy => ?_)
  replace dy : Dy D cA ad (V, g282) A s.heap H locs := by rw [eg282]; exact dy
  refine lv_aload_n cx.1 cx.2.1 dX12_init_299 rfl (lv_at hl 0 rfl) ?_
  refine lv_bipush (v := (-9)) cx.1 cx.2.1 dX12_init_300 (by decide) ?_
  obtain ⟨g283, eg283, hr⟩ := of_nm hr
  refine h_putI cx fx dy fd_12_53 (pd_12_53 : PD _ _ _ _ _ .int) rfl rfl rfl hv280 tb_1039 dX12_init_302 (fun H locs dy => ?_)
  replace dy : Dy D cA ad (V, g283) A s.heap H locs := by rw [eg283]; exact dy
  refine lv_aload_n cx.1 cx.2.1 dX12_init_305 rfl (lv_at hl 0 rfl) ?_
  refine lv_sipush (v := 3721) cx.1 cx.2.1 dX12_init_306 (by decide) ?_
  obtain ⟨k284, ek284, hr⟩ := of_nm hr
  obtain ⟨hf285, hr⟩ := of_grd hr
  obtain ⟨hn286, hr⟩ := of_grd hr
  obtain ⟨V, eV288, hr⟩ := of_nm hr
  obtain ⟨g287, eg287, hr⟩ := of_nm hr
  refine h_newl (at0 := .long) cx fx dy hf285 rfl tb_168 (by decide) (by decide : (3721 : Int32).toNatClampNeg = 3721) (by decide) (Nat.le_trans (by decide) hC.1) (Nat.le_trans (by decide) hC.2) dX12_init_309 (fun ad H hz dy => ?_)
  replace hag := Ag.new (q := (103, 3721)) hag hf285.1 hz
  rw [← eV288] at hag
  replace dy : Dy D cA ad (V, g287) A s.heap H locs := by rw [eV288, eg287]; exact dy
  have ea289 := hz k0 hn286
  rw [← ea289] at hl
  rw [← ea289]
  refine W.widen (k := 36) (n := 19730) (by decide) (by decide) ?_
  obtain ⟨hv290, hr⟩ := of_grd hr
  obtain ⟨g291, eg291, hr⟩ := of_nm hr
  refine h_putRF cx fx dy hini rfl fd_12_54 (pd_12_54 : PD _ _ _ _ _ (.array .long)) rfl rfl rfl hv290 tb_1040 dX12_init_311 (fun H locs dy => ?_)
  replace dy : Dy D cA ad (V, g291) A s.heap H locs := by rw [eg291]; exact dy
  refine lv_iconst (v := 0) cx.1 cx.2.1 dX12_init_314 (by decide) ?_
  refine lv_istore_n (lv' := [(1, .int (0 : Int32)), (0, .ref (ad k0))]) cx.1 cx.2.1 dX12_init_315 rfl hl (by decide) rfl (fun ls hl => ?_)
  refine W.widen (k := 36) (n := 19730) (by decide) (by decide) ?_
  obtain ⟨n, hr⟩ := lop_some hr
  exact w_X12_init_316 cx fx hlocks hret hR hag hC V1 g0 z hq0 n k0 (0 : Int32) g291 hr H locs ls dy (lv_sub hl [1, 0] rfl)
noncomputable def r_X7_add (V : Vk) (k0 : Nat) (a1 : Int32) (a2 : Int32) (g : Hq) : Option (Int32 × Vk × Hq) :=
  grd (V k0 = some (7, 0)) <| brn ((g.1 k0 1) < (60 : Int32)) (Option.bind (g.2.2 k0 0) fun k2 => nm (200 + (g.1 k0 1).toNatClampNeg) fun k4 => grd (frK V g k4) <| grd (k0 ≠ k4) <| grd (k2 ≠ k4) <| nm (newV V k4 (2, 0)) fun V => nm (newG g k4) fun g8 => bnd (r_X2_init V k4 a1 a2 g8) fun u13 g12 => grd (okV V k2 5 (g.1 k0 1)) <| grd (V k4 = some (2, 0)) <| nm (sR g12 k2 (g.1 k0 1).toNatClampNeg (some k4)) fun g16 => grd (V k0 = some (7, 0)) <| nm (sI g16 k0 1 ((g16.1 k0 1) + (1 : Int32))) fun g19 => some (((g19.1 k0 1) - (1 : Int32)), V, g19)) (some ((-3 : Int32), V, g))
set_option maxHeartbeats 4000000 in
set_option maxRecDepth 100000 in
theorem c_X7_add {l : Launch} {D : va_G} {cA : Nat → ClassId} {sk : (Nat → Nat) × (Nat → Nat)} {ad : Nat → Nat} {A : Nat → Prop} {V : Vk} {k0 : Nat} {a1 : Int32} {a2 : Int32} {g g0 : Hq} {r0 : Int32} {V1 : Vk} (hr : r_X7_add V k0 a1 a2 g = some (r0, V1, g0)) : Met l yX7_add (wM yX7_add cX7_add 3 (some .int)) { frames := 2, cells := 1, slots := 6, locals := 46 } (Pre D cA sk ad (V, g) A [.ref (ad k0), .int a1, .int a2]) (QIa D cA A V ad r0 V1 g0) 1 6 A := by
  refine Met.ofW (cc := cX7_add) (maxL := 3) (ret := (some .int)) (by decide) rfl ?_
  intro p e s m args below meth c s₁ B hml hv
  obtain ⟨hargs, fx, w0⟩ := hv
  have hts := atoms_spec (ws := wM yX7_add cX7_add 3 (some .int)) B.pre
  have cx : CallFix p m c cX7_add 3 s args gw_tbl RX7 := ⟨B.exec, B.bytes, hml, findClass_of_methodNamed B.named, fun w hw => hts w (List.mem_cons_of_mem _ hw)⟩
  have hlocks := B.notSynchronized
  have hret := B.returns
  have hR : 2 ≤ (headSpec (wM yX7_add cX7_add 3 (some .int)) { frames := 2, cells := 1, slots := 6, locals := 46 }).room.frames ∧ 46 ≤ (headSpec (wM yX7_add cX7_add 3 (some .int)) { frames := 2, cells := 1, slots := 6, locals := 46 }).room.locals := ⟨Nat.le_refl _, Nat.le_refl _⟩
  have dy : Dy D cA ad (V, g) A s.heap s.heap [] := ⟨w0, va_S.rf⟩
  have hl := lv_entry [.ref (ad k0), .int a1, .int a2] (n := 3) (Nat.le_of_ble_eq_true rfl)
  have hef : entryFrame m args 3 = F0 m 0 ((lg_sl [.ref (ad k0), .int a1, .int a2] ++ List.replicate (3 - (lg_sl [.ref (ad k0), .int a1, .int a2]).length) Slot.unset).toArray) [] := by
    rw [hargs]
    exact lg_entry_eq m [.ref (ad k0), .int a1, .int a2] 3
  rw [hef]
  clear hef hargs
  generalize (lg_sl [.ref (ad k0), .int a1, .int a2] ++ List.replicate (3 - (lg_sl [.ref (ad k0), .int a1, .int a2]).length) Slot.unset).toArray = ls at hl ⊢
  have hl : lv_has ls 3 [(0, .ref (ad k0)), (1, .int a1), (2, .int a2)] := hl
  have dy0 : ∃ H0, H0 = s.heap ∧ Dy D cA ad (V, g) A s.heap H0 [] := ⟨_, rfl, dy⟩
  obtain ⟨z, ez⟩ : ∃ z : (Int32 × Vk × Hq), z = (r0, V1, g0) := ⟨_, rfl⟩
  rw [← ez] at hr
  have hq0 : ∀ (rb : Int32) (Vb : Vk) (gb : Hq), z = (rb, Vb, gb) → rb = r0 ∧ Vb = V1 ∧ gb = g0 := fun rb Vb gb eb => by rw [ez] at eb; cases eb; exact ⟨rfl, rfl, rfl⟩
  have hag : Ag V ad V ad := Ag.rf
  have hC : 1 ≤ (headSpec (wM yX7_add cX7_add 3 (some .int)) { frames := 2, cells := 1, slots := 6, locals := 46 }).room.cells ∧ 6 ≤ (headSpec (wM yX7_add cX7_add 3 (some .int)) { frames := 2, cells := 1, slots := 6, locals := 46 }).room.slots := ⟨Nat.le_refl _, Nat.le_refl _⟩
  clear ez w0 dy0
  unfold r_X7_add at hr
  obtain ⟨H, hH⟩ : ∃ H, H = s.heap := ⟨_, rfl⟩
  obtain ⟨locs, hlo⟩ : ∃ q : List Loc, q = [] := ⟨_, rfl⟩
  have dy : Dy D cA ad (V, g) A s.heap H locs := by rw [hH, hlo]; exact dy
  suffices K : W p l e (headSpec (wM yX7_add cX7_add 3 (some .int)) { frames := 2, cells := 1, slots := 6, locals := 46 }).room s m args below meth c H locs 0 0 (MQ below (QIa D cA A V ad r0 V1 g0) args s 1 6 A) (F0 m 0 ls []) by rw [hH, hlo] at K; exact K
  clear hH hlo
  refine lv_aload_n cx.1 cx.2.1 dX7_add_0 rfl (lv_at hl 0 rfl) ?_
  obtain ⟨hv1, hr⟩ := of_grd hr
  refine h_getI cx fx dy fd_7_1 hv1 tb_211 dX7_add_1 ?_
  refine lv_bipush (v := 60) cx.1 cx.2.1 dX7_add_4 (by decide) ?_
  rcases of_brn hr with ⟨hc, hr⟩ | ⟨hc, hr⟩
  · refine lv_icmp_lt (tgt := 12) cx.1 cx.2.1 dX7_add_6 (by decide) (fun _ => ?_) (fun hn => absurd hc hn)
    refine lv_aload_n cx.1 cx.2.1 dX7_add_12 rfl (lv_at hl 0 rfl) ?_
    obtain ⟨k2, hf3, hr⟩ := of_bnd hr
    refine h_getR cx fx dy fd_7_0 hv1 tb_210 hf3 dX7_add_13 ?_
    refine lv_aload_n cx.1 cx.2.1 dX7_add_16 rfl (lv_at hl 0 rfl) ?_
    refine h_getI cx fx dy fd_7_1 hv1 tb_211 dX7_add_17 ?_
    obtain ⟨k4, ek4, hr⟩ := of_nm hr
    obtain ⟨hf5, hr⟩ := of_grd hr
    obtain ⟨hn6, hr⟩ := of_grd hr
    obtain ⟨hn7, hr⟩ := of_grd hr
    obtain ⟨V, eV9, hr⟩ := of_nm hr
    obtain ⟨g8, eg8, hr⟩ := of_nm hr
    refine h_new cx fx dy hf5 nd_2 tb_208 (Nat.le_trans (by decide) hC.1) (Nat.le_trans (by decide) hC.2) dX7_add_20 (fun ad H hz dy => ?_)
    replace hag := Ag.new (q := (2, 0)) hag hf5.1 hz
    rw [← eV9] at hag
    replace dy : Dy D cA ad (V, g8) A s.heap H locs := by rw [eV9, eg8]; exact dy
    have ea10 := hz k0 hn6
    rw [← ea10] at hl
    have ea11 := hz k2 hn7
    rw [← ea11]
    refine W.widen (k := 1) (n := 6) (by decide) (by decide) ?_
    refine lv_dup cx.1 cx.2.1 dX7_add_23 rfl ?_
    refine lv_iload_n cx.1 cx.2.1 dX7_add_24 rfl (lv_at hl 1 rfl) ?_
    refine lv_iload_n cx.1 cx.2.1 dX7_add_25 rfl (lv_at hl 2 rfl) ?_
    obtain ⟨u13, g12, hc14, hr⟩ := of_bnd2 hr
    refine r_v dy (k_I (As := [.int a1, .int a2]) (b := k4) cx fx dy (c_X2_init hc14) mv_X2_init rfl rfl ⟨Nat.le_trans (by decide) hR.1, Nat.le_trans (by decide) hR.2⟩ tb_733 rfl hl.1 rfl (Nat.le_of_ble_eq_true rfl) ⟨Nat.le_trans (by decide) hC.1, Nat.le_trans (by decide) hC.2⟩ dX7_add_26) (fun H locs dy => ?_)
    obtain ⟨ha15, hr⟩ := of_grd hr
    obtain ⟨hv17, hr⟩ := of_grd hr
    obtain ⟨g16, eg16, hr⟩ := of_nm hr
    refine h_aast (t := 5) (ci := 2) cx fx dy (by decide) rfl rfl (by decide) ha15 hv17 dX7_add_29 (fun H locs dy => ?_)
    replace dy : Dy D cA ad (V, g16) A s.heap H locs := by rw [eg16]; exact dy
    refine lv_aload_n cx.1 cx.2.1 dX7_add_30 rfl (lv_at hl 0 rfl) ?_
    refine lv_dup cx.1 cx.2.1 dX7_add_31 rfl ?_
    obtain ⟨hv18, hr⟩ := of_grd hr
    refine h_getI cx fx dy fd_7_1 hv18 tb_211 dX7_add_32 ?_
    refine lv_iconst (v := 1) cx.1 cx.2.1 dX7_add_35 (by decide) ?_
    refine lv_iadd cx.1 cx.2.1 dX7_add_36 ?_
    obtain ⟨g19, eg19, hr⟩ := of_nm hr
    refine h_putI cx fx dy fd_7_1 (pd_7_1 : PD _ _ _ _ _ .int) rfl rfl rfl hv18 tb_211 dX7_add_37 (fun H locs dy => ?_)
    replace dy : Dy D cA ad (V, g19) A s.heap H locs := by rw [eg19]; exact dy
    refine lv_aload_n cx.1 cx.2.1 dX7_add_40 rfl (lv_at hl 0 rfl) ?_
    refine h_getI cx fx dy fd_7_1 hv18 tb_211 dX7_add_41 ?_
    refine lv_iconst (v := 1) cx.1 cx.2.1 dX7_add_44 (by decide) ?_
    refine lv_isub cx.1 cx.2.1 dX7_add_45 ?_
    refine W.widen (k := 1) (n := 6) (by decide) (by decide) ?_
    obtain ⟨e0, e1, e2⟩ := hq0 _ _ _ (Option.some.inj hr).symm
    exact h_iretA cx dy hag hlocks hret rfl e0 e1 e2 dX7_add_46
  · refine lv_icmp_lt (tgt := 12) cx.1 cx.2.1 dX7_add_6 (by decide) (fun hn => absurd hn hc) (fun _ => ?_)
    refine lv_bipush (v := (-3)) cx.1 cx.2.1 dX7_add_9 (by decide) ?_
    refine W.widen (k := 1) (n := 6) (by decide) (by decide) ?_
    obtain ⟨e0, e1, e2⟩ := hq0 _ _ _ (Option.some.inj hr).symm
    exact h_iretA cx dy hag hlocks hret rfl e0 e1 e2 dX7_add_11
noncomputable def r_X11_house (V : Vk) (k0 : Nat) (a1 : Int32) (a2 : Int32) (g : Hq) : Option (Int32 × Vk × Hq) :=
  bnd (r_X11_isWard V a1 g) fun x2 g1 => brn (x2 = 0) (some ((-2 : Int32), V, g1)) (bnd (r_X11_isFrom V a2 (1500 : Int32) (1799 : Int32) g1) fun x5 g4 => brn (x5 = 0) (some ((-2 : Int32), V, g4)) (grd (V k0 = some (11, 0)) <| Option.bind (g4.2.2 k0 5) fun k8 => grd (V k0 ≠ none) <| grd (V k8 = some (7, 0)) <| bna (r_X7_add V k8 a1 a2 g4) fun x13 V g12 => some (x13, V, g12)))
set_option maxHeartbeats 4000000 in
set_option maxRecDepth 100000 in
theorem c_X11_house {l : Launch} {D : va_G} {cA : Nat → ClassId} {sk : (Nat → Nat) × (Nat → Nat)} {ad : Nat → Nat} {A : Nat → Prop} {V : Vk} {k0 : Nat} {a1 : Int32} {a2 : Int32} {g g0 : Hq} {r0 : Int32} {V1 : Vk} (hr : r_X11_house V k0 a1 a2 g = some (r0, V1, g0)) : Met l yX11_house (wM yX11_house cX11_house 3 (some .int)) { frames := 3, cells := 1, slots := 6, locals := 68 } (Pre D cA sk ad (V, g) A [.ref (ad k0), .int a1, .int a2]) (QIa D cA A V ad r0 V1 g0) 1 6 A := by
  refine Met.ofW (cc := cX11_house) (maxL := 3) (ret := (some .int)) (by decide) rfl ?_
  intro p e s m args below meth c s₁ B hml hv
  obtain ⟨hargs, fx, w0⟩ := hv
  have hts := atoms_spec (ws := wM yX11_house cX11_house 3 (some .int)) B.pre
  have cx : CallFix p m c cX11_house 3 s args gw_tbl RX11 := ⟨B.exec, B.bytes, hml, findClass_of_methodNamed B.named, fun w hw => hts w (List.mem_cons_of_mem _ hw)⟩
  have hlocks := B.notSynchronized
  have hret := B.returns
  have hR : 3 ≤ (headSpec (wM yX11_house cX11_house 3 (some .int)) { frames := 3, cells := 1, slots := 6, locals := 68 }).room.frames ∧ 68 ≤ (headSpec (wM yX11_house cX11_house 3 (some .int)) { frames := 3, cells := 1, slots := 6, locals := 68 }).room.locals := ⟨Nat.le_refl _, Nat.le_refl _⟩
  have dy : Dy D cA ad (V, g) A s.heap s.heap [] := ⟨w0, va_S.rf⟩
  have hl := lv_entry [.ref (ad k0), .int a1, .int a2] (n := 3) (Nat.le_of_ble_eq_true rfl)
  have hef : entryFrame m args 3 = F0 m 0 ((lg_sl [.ref (ad k0), .int a1, .int a2] ++ List.replicate (3 - (lg_sl [.ref (ad k0), .int a1, .int a2]).length) Slot.unset).toArray) [] := by
    rw [hargs]
    exact lg_entry_eq m [.ref (ad k0), .int a1, .int a2] 3
  rw [hef]
  clear hef hargs
  generalize (lg_sl [.ref (ad k0), .int a1, .int a2] ++ List.replicate (3 - (lg_sl [.ref (ad k0), .int a1, .int a2]).length) Slot.unset).toArray = ls at hl ⊢
  have hl : lv_has ls 3 [(0, .ref (ad k0)), (1, .int a1), (2, .int a2)] := hl
  have dy0 : ∃ H0, H0 = s.heap ∧ Dy D cA ad (V, g) A s.heap H0 [] := ⟨_, rfl, dy⟩
  obtain ⟨z, ez⟩ : ∃ z : (Int32 × Vk × Hq), z = (r0, V1, g0) := ⟨_, rfl⟩
  rw [← ez] at hr
  have hq0 : ∀ (rb : Int32) (Vb : Vk) (gb : Hq), z = (rb, Vb, gb) → rb = r0 ∧ Vb = V1 ∧ gb = g0 := fun rb Vb gb eb => by rw [ez] at eb; cases eb; exact ⟨rfl, rfl, rfl⟩
  have hag : Ag V ad V ad := Ag.rf
  have hC : 1 ≤ (headSpec (wM yX11_house cX11_house 3 (some .int)) { frames := 3, cells := 1, slots := 6, locals := 68 }).room.cells ∧ 6 ≤ (headSpec (wM yX11_house cX11_house 3 (some .int)) { frames := 3, cells := 1, slots := 6, locals := 68 }).room.slots := ⟨Nat.le_refl _, Nat.le_refl _⟩
  clear ez w0 dy0
  unfold r_X11_house at hr
  obtain ⟨H, hH⟩ : ∃ H, H = s.heap := ⟨_, rfl⟩
  obtain ⟨locs, hlo⟩ : ∃ q : List Loc, q = [] := ⟨_, rfl⟩
  have dy : Dy D cA ad (V, g) A s.heap H locs := by rw [hH, hlo]; exact dy
  suffices K : W p l e (headSpec (wM yX11_house cX11_house 3 (some .int)) { frames := 3, cells := 1, slots := 6, locals := 68 }).room s m args below meth c H locs 0 0 (MQ below (QIa D cA A V ad r0 V1 g0) args s 1 6 A) (F0 m 0 ls []) by rw [hH, hlo] at K; exact K
  clear hH hlo
  refine lv_iload_n cx.1 cx.2.1 dX11_house_0 rfl (lv_at hl 1 rfl) ?_
  obtain ⟨x2, g1, hc3, hr⟩ := of_bnd2 hr
  refine r_i dy (k_S (As := [.int a1]) cx fx dy (c_X11_isWard hc3) mv_X11_isWard rfl rfl ⟨Nat.le_trans (by decide) hR.1, Nat.le_trans (by decide) hR.2⟩ tb_427 rfl hl.1 rfl (Nat.le_of_ble_eq_true rfl) ⟨Nat.le_trans (by decide) hC.1, Nat.le_trans (by decide) hC.2⟩ dX11_house_1) (fun H locs dy => ?_)
  rcases of_brn hr with ⟨hc, hr⟩ | ⟨hc, hr⟩
  · refine lv_if_eq (tgt := 20) cx.1 cx.2.1 dX11_house_4 (by decide) (fun _ => ?_) (fun hn => absurd hc hn)
    refine lv_bipush (v := (-2)) cx.1 cx.2.1 dX11_house_20 (by decide) ?_
    refine W.widen (k := 1) (n := 6) (by decide) (by decide) ?_
    obtain ⟨e0, e1, e2⟩ := hq0 _ _ _ (Option.some.inj hr).symm
    exact h_iretA cx dy hag hlocks hret rfl e0 e1 e2 dX11_house_22
  · refine lv_if_eq (tgt := 20) cx.1 cx.2.1 dX11_house_4 (by decide) (fun hn => absurd hn hc) (fun _ => ?_)
    refine lv_iload_n cx.1 cx.2.1 dX11_house_7 rfl (lv_at hl 2 rfl) ?_
    refine lv_sipush (v := 1500) cx.1 cx.2.1 dX11_house_8 (by decide) ?_
    refine lv_sipush (v := 1799) cx.1 cx.2.1 dX11_house_11 (by decide) ?_
    obtain ⟨x5, g4, hc6, hr⟩ := of_bnd2 hr
    refine r_i dy (k_S (As := [.int a2, .int (1500 : Int32), .int (1799 : Int32)]) cx fx dy (c_X11_isFrom hc6) mv_X11_isFrom rfl rfl ⟨Nat.le_trans (by decide) hR.1, Nat.le_trans (by decide) hR.2⟩ tb_424 rfl hl.1 rfl (Nat.le_of_ble_eq_true rfl) ⟨Nat.le_trans (by decide) hC.1, Nat.le_trans (by decide) hC.2⟩ dX11_house_14) (fun H locs dy => ?_)
    rcases of_brn hr with ⟨hc, hr⟩ | ⟨hc, hr⟩
    · refine lv_if_ne (tgt := 23) cx.1 cx.2.1 dX11_house_17 (by decide) (fun hn => absurd hc hn) (fun _ => ?_)
      refine lv_bipush (v := (-2)) cx.1 cx.2.1 dX11_house_20 (by decide) ?_
      refine W.widen (k := 1) (n := 6) (by decide) (by decide) ?_
      obtain ⟨e0, e1, e2⟩ := hq0 _ _ _ (Option.some.inj hr).symm
      exact h_iretA cx dy hag hlocks hret rfl e0 e1 e2 dX11_house_22
    · refine lv_if_ne (tgt := 23) cx.1 cx.2.1 dX11_house_17 (by decide) (fun _ => ?_) (fun hn => absurd hn hc)
      refine lv_aload_n cx.1 cx.2.1 dX11_house_23 rfl (lv_at hl 0 rfl) ?_
      obtain ⟨hv7, hr⟩ := of_grd hr
      obtain ⟨k8, hf9, hr⟩ := of_bnd hr
      refine h_getR cx fx dy fd_11_5 hv7 tb_370 hf9 dX11_house_24 ?_
      refine lv_iload_n cx.1 cx.2.1 dX11_house_27 rfl (lv_at hl 1 rfl) ?_
      refine lv_iload_n cx.1 cx.2.1 dX11_house_28 rfl (lv_at hl 2 rfl) ?_
      obtain ⟨hn10, hr⟩ := of_grd hr
      obtain ⟨hv11, hr⟩ := of_grd hr
      obtain ⟨x13, V, g12, hc14, hr⟩ := of_bna hr
      refine r_ia dy (k_V (As := [.int a1, .int a2]) (b := k8) (ci := 7) cx fx dy (c_X7_add hc14) mv_X7_add rfl rfl ⟨Nat.le_trans (by decide) hR.1, Nat.le_trans (by decide) hR.2⟩ tb_728 hv11 rfl (by decide) rfl hl.1 rfl (Nat.le_of_ble_eq_true rfl) ⟨Nat.le_trans (by decide) hC.1, Nat.le_trans (by decide) hC.2⟩ dX11_house_29) (fun ad H locs hz dy => ?_)
      replace hag := Ag.tr hag hz
      have ea15 := hz k0 hn10
      replace ea15 := ea15.2
      rw [← ea15] at hl
      refine W.widen (k := 1) (n := 6) (by decide) (by decide) ?_
      refine W.widen (k := 1) (n := 6) (by decide) (by decide) ?_
      obtain ⟨e0, e1, e2⟩ := hq0 _ _ _ (Option.some.inj hr).symm
      exact h_iretA cx dy hag hlocks hret rfl e0 e1 e2 dX11_house_32
noncomputable def r_X11_charge (V : Vk) (k0 : Nat) (a1 : Int32) (a2 : Int32) (a3 : Int32) (a4 : Int32) (g : Hq) : Option (Int32 × Vk × Hq) :=
  bnd (r_X11_isTaking V a1 a2 a3 g) fun x2 g1 => brn (x2 = 0) (some ((-2 : Int32), V, g1)) (grd (V k0 = some (11, 0)) <| Option.bind (g1.2.2 k0 6) fun k5 => grd (V k5 = some (5, 0)) <| bnd (r_X5_isFull V k5 g1) fun x8 g7 => brn (x8 = 0) (Option.bind (g7.2.2 k0 6) fun k11 => nm (300 + (g7.1 ((g7.2.2 k0 6).getD 0) 1).toNatClampNeg) fun k13 => grd (frK V g7 k13) <| grd (k0 ≠ k13) <| grd (k11 ≠ k13) <| nm (newV V k13 (0, 0)) fun V => nm (newG g7 k13) fun g17 => bnd (r_X0_init V k13 a1 a2 a3 g17) fun u22 g21 => grd (V k0 = some (11, 0)) <| Option.bind (g21.2.2 k0 4) fun k25 => grd (V k11 = some (5, 0)) <| bnd (r_X5_take V k11 k13 k25 a4 g21) fun x28 g27 => some (x28, V, g27)) (some ((-3 : Int32), V, g7)))
set_option maxHeartbeats 4000000 in
set_option maxRecDepth 100000 in
theorem c_X11_charge {l : Launch} {D : va_G} {cA : Nat → ClassId} {sk : (Nat → Nat) × (Nat → Nat)} {ad : Nat → Nat} {A : Nat → Prop} {V : Vk} {k0 : Nat} {a1 : Int32} {a2 : Int32} {a3 : Int32} {a4 : Int32} {g g0 : Hq} {r0 : Int32} {V1 : Vk} (hr : r_X11_charge V k0 a1 a2 a3 a4 g = some (r0, V1, g0)) : Met l yX11_charge (wM yX11_charge cX11_charge 5 (some .int)) { frames := 4, cells := 1, slots := 5, locals := 91 } (Pre D cA sk ad (V, g) A [.ref (ad k0), .int a1, .int a2, .int a3, .int a4]) (QIa D cA A V ad r0 V1 g0) 1 5 A := by
  refine Met.ofW (cc := cX11_charge) (maxL := 5) (ret := (some .int)) (by decide) rfl ?_
  intro p e s m args below meth c s₁ B hml hv
  obtain ⟨hargs, fx, w0⟩ := hv
  have hts := atoms_spec (ws := wM yX11_charge cX11_charge 5 (some .int)) B.pre
  have cx : CallFix p m c cX11_charge 5 s args gw_tbl RX11 := ⟨B.exec, B.bytes, hml, findClass_of_methodNamed B.named, fun w hw => hts w (List.mem_cons_of_mem _ hw)⟩
  have hlocks := B.notSynchronized
  have hret := B.returns
  have hR : 4 ≤ (headSpec (wM yX11_charge cX11_charge 5 (some .int)) { frames := 4, cells := 1, slots := 5, locals := 91 }).room.frames ∧ 91 ≤ (headSpec (wM yX11_charge cX11_charge 5 (some .int)) { frames := 4, cells := 1, slots := 5, locals := 91 }).room.locals := ⟨Nat.le_refl _, Nat.le_refl _⟩
  have dy : Dy D cA ad (V, g) A s.heap s.heap [] := ⟨w0, va_S.rf⟩
  have hl := lv_entry [.ref (ad k0), .int a1, .int a2, .int a3, .int a4] (n := 5) (Nat.le_of_ble_eq_true rfl)
  have hef : entryFrame m args 5 = F0 m 0 ((lg_sl [.ref (ad k0), .int a1, .int a2, .int a3, .int a4] ++ List.replicate (5 - (lg_sl [.ref (ad k0), .int a1, .int a2, .int a3, .int a4]).length) Slot.unset).toArray) [] := by
    rw [hargs]
    exact lg_entry_eq m [.ref (ad k0), .int a1, .int a2, .int a3, .int a4] 5
  rw [hef]
  clear hef hargs
  generalize (lg_sl [.ref (ad k0), .int a1, .int a2, .int a3, .int a4] ++ List.replicate (5 - (lg_sl [.ref (ad k0), .int a1, .int a2, .int a3, .int a4]).length) Slot.unset).toArray = ls at hl ⊢
  have hl : lv_has ls 5 [(0, .ref (ad k0)), (1, .int a1), (2, .int a2), (3, .int a3), (4, .int a4)] := hl
  have dy0 : ∃ H0, H0 = s.heap ∧ Dy D cA ad (V, g) A s.heap H0 [] := ⟨_, rfl, dy⟩
  obtain ⟨z, ez⟩ : ∃ z : (Int32 × Vk × Hq), z = (r0, V1, g0) := ⟨_, rfl⟩
  rw [← ez] at hr
  have hq0 : ∀ (rb : Int32) (Vb : Vk) (gb : Hq), z = (rb, Vb, gb) → rb = r0 ∧ Vb = V1 ∧ gb = g0 := fun rb Vb gb eb => by rw [ez] at eb; cases eb; exact ⟨rfl, rfl, rfl⟩
  have hag : Ag V ad V ad := Ag.rf
  have hC : 1 ≤ (headSpec (wM yX11_charge cX11_charge 5 (some .int)) { frames := 4, cells := 1, slots := 5, locals := 91 }).room.cells ∧ 5 ≤ (headSpec (wM yX11_charge cX11_charge 5 (some .int)) { frames := 4, cells := 1, slots := 5, locals := 91 }).room.slots := ⟨Nat.le_refl _, Nat.le_refl _⟩
  clear ez w0 dy0
  unfold r_X11_charge at hr
  obtain ⟨H, hH⟩ : ∃ H, H = s.heap := ⟨_, rfl⟩
  obtain ⟨locs, hlo⟩ : ∃ q : List Loc, q = [] := ⟨_, rfl⟩
  have dy : Dy D cA ad (V, g) A s.heap H locs := by rw [hH, hlo]; exact dy
  suffices K : W p l e (headSpec (wM yX11_charge cX11_charge 5 (some .int)) { frames := 4, cells := 1, slots := 5, locals := 91 }).room s m args below meth c H locs 0 0 (MQ below (QIa D cA A V ad r0 V1 g0) args s 1 5 A) (F0 m 0 ls []) by rw [hH, hlo] at K; exact K
  clear hH hlo
  refine lv_iload_n cx.1 cx.2.1 dX11_charge_0 rfl (lv_at hl 1 rfl) ?_
  refine lv_iload_n cx.1 cx.2.1 dX11_charge_1 rfl (lv_at hl 2 rfl) ?_
  refine lv_iload_n cx.1 cx.2.1 dX11_charge_2 rfl (lv_at hl 3 rfl) ?_
  obtain ⟨x2, g1, hc3, hr⟩ := of_bnd2 hr
  refine r_i dy (k_S (As := [.int a1, .int a2, .int a3]) cx fx dy (c_X11_isTaking hc3) mv_X11_isTaking rfl rfl ⟨Nat.le_trans (by decide) hR.1, Nat.le_trans (by decide) hR.2⟩ tb_713 rfl hl.1 rfl (Nat.le_of_ble_eq_true rfl) ⟨Nat.le_trans (by decide) hC.1, Nat.le_trans (by decide) hC.2⟩ dX11_charge_3) (fun H locs dy => ?_)
  rcases of_brn hr with ⟨hc, hr⟩ | ⟨hc, hr⟩
  · refine lv_if_ne (tgt := 12) cx.1 cx.2.1 dX11_charge_6 (by decide) (fun hn => absurd hc hn) (fun _ => ?_)
    refine lv_bipush (v := (-2)) cx.1 cx.2.1 dX11_charge_9 (by decide) ?_
    refine W.widen (k := 1) (n := 5) (by decide) (by decide) ?_
    obtain ⟨e0, e1, e2⟩ := hq0 _ _ _ (Option.some.inj hr).symm
    exact h_iretA cx dy hag hlocks hret rfl e0 e1 e2 dX11_charge_11
  · refine lv_if_ne (tgt := 12) cx.1 cx.2.1 dX11_charge_6 (by decide) (fun _ => ?_) (fun hn => absurd hn hc)
    refine lv_aload_n cx.1 cx.2.1 dX11_charge_12 rfl (lv_at hl 0 rfl) ?_
    obtain ⟨hv4, hr⟩ := of_grd hr
    obtain ⟨k5, hf6, hr⟩ := of_bnd hr
    refine h_getR cx fx dy fd_11_6 hv4 tb_371 hf6 dX11_charge_13 ?_
    obtain ⟨hv9, hr⟩ := of_grd hr
    obtain ⟨x8, g7, hc10, hr⟩ := of_bnd2 hr
    refine r_i dy (k_V (As := []) (b := k5) (ci := 5) cx fx dy (c_X5_isFull hc10) mv_X5_isFull rfl rfl ⟨Nat.le_trans (by decide) hR.1, Nat.le_trans (by decide) hR.2⟩ tb_840 hv9 rfl (by decide) rfl hl.1 rfl (Nat.le_of_ble_eq_true rfl) ⟨Nat.le_trans (by decide) hC.1, Nat.le_trans (by decide) hC.2⟩ dX11_charge_16) (fun H locs dy => ?_)
    rcases of_brn hr with ⟨hc, hr⟩ | ⟨hc, hr⟩
    · refine lv_if_eq (tgt := 25) cx.1 cx.2.1 dX11_charge_19 (by decide) (fun _ => ?_) (fun hn => absurd hc hn)
      refine lv_aload_n cx.1 cx.2.1 dX11_charge_25 rfl (lv_at hl 0 rfl) ?_
      obtain ⟨k11, hf12, hr⟩ := of_bnd hr
      refine h_getR cx fx dy fd_11_6 hv4 tb_371 hf12 dX11_charge_26 ?_
      obtain ⟨k13, ek13, hr⟩ := of_nm hr
      obtain ⟨hf14, hr⟩ := of_grd hr
      obtain ⟨hn15, hr⟩ := of_grd hr
      obtain ⟨hn16, hr⟩ := of_grd hr
      obtain ⟨V, eV18, hr⟩ := of_nm hr
      obtain ⟨g17, eg17, hr⟩ := of_nm hr
      refine h_new cx fx dy hf14 nd_0 tb_844 (Nat.le_trans (by decide) hC.1) (Nat.le_trans (by decide) hC.2) dX11_charge_29 (fun ad H hz dy => ?_)
      replace hag := Ag.new (q := (0, 0)) hag hf14.1 hz
      rw [← eV18] at hag
      replace dy : Dy D cA ad (V, g17) A s.heap H locs := by rw [eV18, eg17]; exact dy
      have ea19 := hz k0 hn15
      rw [← ea19] at hl
      have ea20 := hz k11 hn16
      rw [← ea20]
      refine W.widen (k := 1) (n := 5) (by decide) (by decide) ?_
      refine lv_dup cx.1 cx.2.1 dX11_charge_32 rfl ?_
      refine lv_iload_n cx.1 cx.2.1 dX11_charge_33 rfl (lv_at hl 1 rfl) ?_
      refine lv_iload_n cx.1 cx.2.1 dX11_charge_34 rfl (lv_at hl 2 rfl) ?_
      refine lv_iload_n cx.1 cx.2.1 dX11_charge_35 rfl (lv_at hl 3 rfl) ?_
      obtain ⟨u22, g21, hc23, hr⟩ := of_bnd2 hr
      refine r_v dy (k_I (As := [.int a1, .int a2, .int a3]) (b := k13) cx fx dy (c_X0_init hc23) mv_X0_init rfl rfl ⟨Nat.le_trans (by decide) hR.1, Nat.le_trans (by decide) hR.2⟩ tb_846 rfl hl.1 rfl (Nat.le_of_ble_eq_true rfl) ⟨Nat.le_trans (by decide) hC.1, Nat.le_trans (by decide) hC.2⟩ dX11_charge_36) (fun H locs dy => ?_)
      refine lv_aload_n cx.1 cx.2.1 dX11_charge_39 rfl (lv_at hl 0 rfl) ?_
      obtain ⟨hv24, hr⟩ := of_grd hr
      obtain ⟨k25, hf26, hr⟩ := of_bnd hr
      refine h_getR cx fx dy fd_11_4 hv24 tb_369 hf26 dX11_charge_40 ?_
      refine lv_iload cx.1 cx.2.1 dX11_charge_43 (lv_at hl 4 rfl) ?_
      obtain ⟨hv29, hr⟩ := of_grd hr
      obtain ⟨x28, g27, hc30, hr⟩ := of_bnd2 hr
      refine r_i dy (k_V (As := [.ref (ad k13), .ref (ad k25), .int a4]) (b := k11) (ci := 5) cx fx dy (c_X5_take hc30) mv_X5_take rfl rfl ⟨Nat.le_trans (by decide) hR.1, Nat.le_trans (by decide) hR.2⟩ tb_871 hv29 rfl (by decide) rfl hl.1 rfl (Nat.le_of_ble_eq_true rfl) ⟨Nat.le_trans (by decide) hC.1, Nat.le_trans (by decide) hC.2⟩ dX11_charge_45) (fun H locs dy => ?_)
      refine W.widen (k := 1) (n := 5) (by decide) (by decide) ?_
      obtain ⟨e0, e1, e2⟩ := hq0 _ _ _ (Option.some.inj hr).symm
      exact h_iretA cx dy hag hlocks hret rfl e0 e1 e2 dX11_charge_48
    · refine lv_if_eq (tgt := 25) cx.1 cx.2.1 dX11_charge_19 (by decide) (fun hn => absurd hn hc) (fun _ => ?_)
      refine lv_bipush (v := (-3)) cx.1 cx.2.1 dX11_charge_22 (by decide) ?_
      refine W.widen (k := 1) (n := 5) (by decide) (by decide) ?_
      obtain ⟨e0, e1, e2⟩ := hq0 _ _ _ (Option.some.inj hr).symm
      exact h_iretA cx dy hag hlocks hret rfl e0 e1 e2 dX11_charge_24
