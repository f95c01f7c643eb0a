noncomputable def r_X4_forget (V : Vk) (k0 : Nat) (g : Hq) : Option (Unit × Hq) :=
  grd (V k0 = some (4, 0)) <| nm (sI g k0 0 (21 : Int32)) fun g2 => nm (sI g2 k0 1 (60 : Int32)) fun g3 => nm (sI g3 k0 2 (7 : Int32)) fun g4 => nm (sI g4 k0 3 (100 : Int32)) fun g5 => nm (sI g5 k0 4 (-1 : Int32)) fun g6 => nm (sI g6 k0 5 (-1 : Int32)) fun g7 => nm (sI g7 k0 6 (0 : Int32)) fun g8 => nm (sI g8 k0 7 (4 : Int32)) fun g9 => nm (sI g9 k0 8 (0 : Int32)) fun g10 => some ((), g10)
set_option maxHeartbeats 4000000 in
set_option maxRecDepth 100000 in
theorem c_X4_forget {l : Launch} {D : va_G} {cA : Nat → ClassId} {sk : (Nat → Nat) × (Nat → Nat)} {ad : Nat → Nat} {A : Nat → Prop} {V : Vk} {k0 : Nat} {g g0 : Hq} (hr : r_X4_forget V k0 g = some ((), g0)) : Met l yX4_forget (wM yX4_forget cX4_forget 1 none) { frames := 0, cells := 0, slots := 0, locals := 0 } (Pre D cA sk ad (V, g) A [.ref (ad k0)]) (QV D cA ad A (V, g0)) 0 0 A := by
  refine Met.ofW (cc := cX4_forget) (maxL := 1) (ret := none) (by decide) rfl ?_
  intro p e s m args below meth c s₁ B hml hv
  obtain ⟨rfl, fx, w0⟩ := hv
  have hts := atoms_spec (ws := wM yX4_forget cX4_forget 1 none) B.pre
  have cx : CallFix p m c cX4_forget 1 s ([.ref (ad k0)] : List Value).toArray gw_tbl RX4 := ⟨B.exec, B.bytes, hml, findClass_of_methodNamed B.named, fun w hw => hts w (List.mem_cons_of_mem _ hw)⟩
  have hlocks := B.notSynchronized
  have hret := B.returns
  have hR : 0 ≤ (headSpec (wM yX4_forget cX4_forget 1 none) { frames := 0, cells := 0, slots := 0, locals := 0 }).room.frames ∧ 0 ≤ (headSpec (wM yX4_forget cX4_forget 1 none) { frames := 0, cells := 0, slots := 0, locals := 0 }).room.locals := ⟨Nat.le_refl _, Nat.le_refl _⟩
  have dy : Dy D cA ad (V, g) A s.heap s.heap [] := ⟨w0, va_S.rf⟩
  have hl := lv_entry [.ref (ad k0)] (n := 1) (Nat.le_of_ble_eq_true rfl)
  rw [lg_entry_eq]
  generalize (lg_sl [.ref (ad k0)] ++ List.replicate (1 - (lg_sl [.ref (ad k0)]).length) Slot.unset).toArray = ls at hl ⊢
  have hl : lv_has ls 1 [(0, .ref (ad k0))] := hl
  have dy0 : ∃ H0, H0 = s.heap ∧ Dy D cA ad (V, g) A s.heap H0 [] := ⟨_, rfl, dy⟩
  obtain ⟨z, ez⟩ : ∃ z, z = (((), g0) : Unit × Hq) := ⟨_, rfl⟩
  rw [← ez] at hr
  have hq0 : ∀ (rb : Unit) (gb : Hq), z = (rb, gb) → gb = g0 := fun rb gb eb => by rw [ez] at eb; exact (congrArg Prod.snd eb).symm
  clear ez w0 dy0
  unfold r_X4_forget at hr
  obtain ⟨H, hH⟩ : ∃ H, H = s.heap := ⟨_, rfl⟩
  obtain ⟨locs, hlo⟩ : ∃ q : List Loc, q = [] := ⟨_, rfl⟩
  have dy : Dy D cA ad (V, g) A s.heap H locs := by rw [hH, hlo]; exact dy
  suffices K : W p l e (headSpec (wM yX4_forget cX4_forget 1 none) { frames := 0, cells := 0, slots := 0, locals := 0 }).room s m ([.ref (ad k0)] : List Value).toArray below meth c H locs 0 0 (MQ below (QV D cA ad A (V, g0)) ([.ref (ad k0)] : List Value).toArray s 0 0 A) (F0 m 0 ls []) by rw [hH, hlo] at K; exact K
  clear hH hlo
  refine lv_aload_n cx.1 cx.2.1 dX4_forget_0 rfl (lv_at hl 0 rfl) ?_
  refine lv_bipush (v := 21) cx.1 cx.2.1 dX4_forget_1 (by decide) ?_
  obtain ⟨hv1, hr⟩ := of_grd hr
  obtain ⟨g2, eg2, hr⟩ := of_nm hr
  refine h_putI cx fx dy fd_4_0 (pd_4_0 : PD _ _ _ _ _ .int) rfl rfl rfl hv1 tb_261 dX4_forget_3 (fun H locs dy => ?_)
  replace dy : Dy D cA ad (V, g2) A s.heap H locs := by rw [eg2]; exact dy
  refine lv_aload_n cx.1 cx.2.1 dX4_forget_6 rfl (lv_at hl 0 rfl) ?_
  refine lv_bipush (v := 60) cx.1 cx.2.1 dX4_forget_7 (by decide) ?_
  obtain ⟨g3, eg3, hr⟩ := of_nm hr
  refine h_putI cx fx dy fd_4_1 (pd_4_1 : PD _ _ _ _ _ .int) rfl rfl rfl hv1 tb_264 dX4_forget_9 (fun H locs dy => ?_)
  replace dy : Dy D cA ad (V, g3) A s.heap H locs := by rw [eg3]; exact dy
  refine lv_aload_n cx.1 cx.2.1 dX4_forget_12 rfl (lv_at hl 0 rfl) ?_
  refine lv_bipush (v := 7) cx.1 cx.2.1 dX4_forget_13 (by decide) ?_
  obtain ⟨g4, eg4, hr⟩ := of_nm hr
  refine h_putI cx fx dy fd_4_2 (pd_4_2 : PD _ _ _ _ _ .int) rfl rfl rfl hv1 tb_267 dX4_forget_15 (fun H locs dy => ?_)
  replace dy : Dy D cA ad (V, g4) A s.heap H locs := by rw [eg4]; exact dy
  refine lv_aload_n cx.1 cx.2.1 dX4_forget_18 rfl (lv_at hl 0 rfl) ?_
  refine lv_bipush (v := 100) cx.1 cx.2.1 dX4_forget_19 (by decide) ?_
  obtain ⟨g5, eg5, hr⟩ := of_nm hr
  refine h_putI cx fx dy fd_4_3 (pd_4_3 : PD _ _ _ _ _ .int) rfl rfl rfl hv1 tb_270 dX4_forget_21 (fun H locs dy => ?_)
  replace dy : Dy D cA ad (V, g5) A s.heap H locs := by rw [eg5]; exact dy
  refine lv_aload_n cx.1 cx.2.1 dX4_forget_24 rfl (lv_at hl 0 rfl) ?_
  refine lv_iconst (v := (-1)) cx.1 cx.2.1 dX4_forget_25 (by decide) ?_
  obtain ⟨g6, eg6, hr⟩ := of_nm hr
  refine h_putI cx fx dy fd_4_4 (pd_4_4 : PD _ _ _ _ _ .int) rfl rfl rfl hv1 tb_275 dX4_forget_26 (fun H locs dy => ?_)
  replace dy : Dy D cA ad (V, g6) A s.heap H locs := by rw [eg6]; exact dy
  refine lv_aload_n cx.1 cx.2.1 dX4_forget_29 rfl (lv_at hl 0 rfl) ?_
  refine lv_iconst (v := (-1)) cx.1 cx.2.1 dX4_forget_30 (by decide) ?_
  obtain ⟨g7, eg7, hr⟩ := of_nm hr
  refine h_putI cx fx dy fd_4_5 (pd_4_5 : PD _ _ _ _ _ .int) rfl rfl rfl hv1 tb_279 dX4_forget_31 (fun H locs dy => ?_)
  replace dy : Dy D cA ad (V, g7) A s.heap H locs := by rw [eg7]; exact dy
  refine lv_aload_n cx.1 cx.2.1 dX4_forget_34 rfl (lv_at hl 0 rfl) ?_
  refine lv_iconst (v := 0) cx.1 cx.2.1 dX4_forget_35 (by decide) ?_
  obtain ⟨g8, eg8, hr⟩ := of_nm hr
  refine h_putI cx fx dy fd_4_6 (pd_4_6 : PD _ _ _ _ _ .boolean) rfl rfl rfl hv1 tb_282 dX4_forget_36 (fun H locs dy => ?_)
  replace dy : Dy D cA ad (V, g8) A s.heap H locs := by rw [eg8]; exact dy
  refine lv_aload_n cx.1 cx.2.1 dX4_forget_39 rfl (lv_at hl 0 rfl) ?_
  refine lv_iconst (v := 4) cx.1 cx.2.1 dX4_forget_40 (by decide) ?_
  obtain ⟨g9, eg9, hr⟩ := of_nm hr
  refine h_putI cx fx dy fd_4_7 (pd_4_7 : PD _ _ _ _ _ .int) rfl rfl rfl hv1 tb_285 dX4_forget_41 (fun H locs dy => ?_)
  replace dy : Dy D cA ad (V, g9) A s.heap H locs := by rw [eg9]; exact dy
  refine lv_aload_n cx.1 cx.2.1 dX4_forget_44 rfl (lv_at hl 0 rfl) ?_
  refine lv_iconst (v := 0) cx.1 cx.2.1 dX4_forget_45 (by decide) ?_
  obtain ⟨g10, eg10, hr⟩ := of_nm hr
  refine h_putI cx fx dy fd_4_8 (pd_4_8 : PD _ _ _ _ _ .int) rfl rfl rfl hv1 tb_287 dX4_forget_46 (fun H locs dy => ?_)
  replace dy : Dy D cA ad (V, g10) A s.heap H locs := by rw [eg10]; exact dy
  have e1 := hq0 _ _ (Option.some.inj hr).symm
  exact h_vret cx dy hlocks hret (by rw [e1]) dX4_forget_49
noncomputable def r_X4_hasRoomForPower (V : Vk) (k0 : Nat) (g : Hq) : Option (Int32 × Hq) :=
  grd (V k0 = some (4, 0)) <| brn ((12 : Int32) ≤ (g.1 k0 8)) (some ((0 : Int32), g)) (some ((1 : Int32), g))
set_option maxHeartbeats 4000000 in
set_option maxRecDepth 100000 in
theorem c_X4_hasRoomForPower {l : Launch} {D : va_G} {cA : Nat → ClassId} {sk : (Nat → Nat) × (Nat → Nat)} {ad : Nat → Nat} {A : Nat → Prop} {V : Vk} {k0 : Nat} {g g0 : Hq} {r0 : Int32} (hr : r_X4_hasRoomForPower V k0 g = some (r0, g0)) : Met l yX4_hasRoomForPower (wM yX4_hasRoomForPower cX4_hasRoomForPower 1 (some .boolean)) { frames := 0, cells := 0, slots := 0, locals := 0 } (Pre D cA sk ad (V, g) A [.ref (ad k0)]) (QI D cA ad A r0 (V, g0)) 0 0 A := by
  refine Met.ofW (cc := cX4_hasRoomForPower) (maxL := 1) (ret := (some .boolean)) (by decide) rfl ?_
  intro p e s m args below meth c s₁ B hml hv
  obtain ⟨rfl, fx, w0⟩ := hv
  have hts := atoms_spec (ws := wM yX4_hasRoomForPower cX4_hasRoomForPower 1 (some .boolean)) B.pre
  have cx : CallFix p m c cX4_hasRoomForPower 1 s ([.ref (ad k0)] : List Value).toArray gw_tbl RX4 := ⟨B.exec, B.bytes, hml, findClass_of_methodNamed B.named, fun w hw => hts w (List.mem_cons_of_mem _ hw)⟩
  have hlocks := B.notSynchronized
  have hret := B.returns
  have hR : 0 ≤ (headSpec (wM yX4_hasRoomForPower cX4_hasRoomForPower 1 (some .boolean)) { frames := 0, cells := 0, slots := 0, locals := 0 }).room.frames ∧ 0 ≤ (headSpec (wM yX4_hasRoomForPower cX4_hasRoomForPower 1 (some .boolean)) { frames := 0, cells := 0, slots := 0, locals := 0 }).room.locals := ⟨Nat.le_refl _, Nat.le_refl _⟩
  have dy : Dy D cA ad (V, g) A s.heap s.heap [] := ⟨w0, va_S.rf⟩
  have hl := lv_entry [.ref (ad k0)] (n := 1) (Nat.le_of_ble_eq_true rfl)
  rw [lg_entry_eq]
  generalize (lg_sl [.ref (ad k0)] ++ List.replicate (1 - (lg_sl [.ref (ad k0)]).length) Slot.unset).toArray = ls at hl ⊢
  have hl : lv_has ls 1 [(0, .ref (ad k0))] := hl
  have dy0 : ∃ H0, H0 = s.heap ∧ Dy D cA ad (V, g) A s.heap H0 [] := ⟨_, rfl, dy⟩
  obtain ⟨z, ez⟩ : ∃ z, z = (r0, g0) := ⟨_, rfl⟩
  rw [← ez] at hr
  have hq0 : ∀ (rb : Int32) (gb : Hq), z = (rb, gb) → rb = r0 ∧ gb = g0 := fun rb gb eb => by rw [ez] at eb; exact ⟨(congrArg Prod.fst eb).symm, (congrArg Prod.snd eb).symm⟩
  clear ez w0 dy0
  unfold r_X4_hasRoomForPower at hr
  obtain ⟨H, hH⟩ : ∃ H, H = s.heap := ⟨_, rfl⟩
  obtain ⟨locs, hlo⟩ : ∃ q : List Loc, q = [] := ⟨_, rfl⟩
  have dy : Dy D cA ad (V, g) A s.heap H locs := by rw [hH, hlo]; exact dy
  suffices K : W p l e (headSpec (wM yX4_hasRoomForPower cX4_hasRoomForPower 1 (some .boolean)) { frames := 0, cells := 0, slots := 0, locals := 0 }).room s m ([.ref (ad k0)] : List Value).toArray below meth c H locs 0 0 (MQ below (QI D cA ad A r0 (V, g0)) ([.ref (ad k0)] : List Value).toArray s 0 0 A) (F0 m 0 ls []) by rw [hH, hlo] at K; exact K
  clear hH hlo
  refine lv_aload_n cx.1 cx.2.1 dX4_hasRoomForPower_0 rfl (lv_at hl 0 rfl) ?_
  obtain ⟨hv1, hr⟩ := of_grd hr
  refine h_getI cx fx dy fd_4_8 hv1 tb_287 dX4_hasRoomForPower_1 ?_
  refine lv_bipush (v := 12) cx.1 cx.2.1 dX4_hasRoomForPower_4 (by decide) ?_
  rcases of_brn hr with ⟨hc, hr⟩ | ⟨hc, hr⟩
  · refine lv_icmp_ge (tgt := 13) cx.1 cx.2.1 dX4_hasRoomForPower_6 (by decide) (fun _ => ?_) (fun hn => absurd hc hn)
    refine lv_iconst (v := 0) cx.1 cx.2.1 dX4_hasRoomForPower_13 (by decide) ?_
    obtain ⟨e0, e1⟩ := hq0 _ _ (Option.some.inj hr).symm
    exact h_iret cx dy hlocks hret rfl e0 (by rw [e1]) dX4_hasRoomForPower_14
  · refine lv_icmp_ge (tgt := 13) cx.1 cx.2.1 dX4_hasRoomForPower_6 (by decide) (fun hn => absurd hn hc) (fun _ => ?_)
    refine lv_iconst (v := 1) cx.1 cx.2.1 dX4_hasRoomForPower_9 (by decide) ?_
    refine lv_goto (tgt := 14) cx.1 cx.2.1 dX4_hasRoomForPower_10 (by decide) ?_
    obtain ⟨e0, e1⟩ := hq0 _ _ (Option.some.inj hr).symm
    exact h_iret cx dy hlocks hret rfl e0 (by rw [e1]) dX4_hasRoomForPower_14
noncomputable def r_X4_addPower (V : Vk) (k0 : Nat) (a1 : Int32) (a2 : Int32) (a3 : Int32) (a4 : Int32) (g : Hq) : Option (Unit × Hq) :=
  grd (V k0 = some (4, 0)) <| bnd (r_X4_hasRoomForPower V k0 g) fun x2 g1 => brn (x2 = 0) (some ((), g1)) (Option.bind (g1.2.2 k0 9) fun k5 => grd (okV V k5 0 (g1.1 k0 8)) <| nm (sI g1 k5 (g1.1 k0 8).toNatClampNeg a1) fun g8 => Option.bind (g8.2.2 k0 10) fun k9 => grd (okV V k9 0 (g8.1 k0 8)) <| nm (sI g8 k9 (g8.1 k0 8).toNatClampNeg a2) fun g12 => Option.bind (g12.2.2 k0 11) fun k13 => grd (okV V k13 0 (g12.1 k0 8)) <| nm (sI g12 k13 (g12.1 k0 8).toNatClampNeg a3) fun g16 => Option.bind (g16.2.2 k0 12) fun k17 => grd (okV V k17 2 (g16.1 k0 8)) <| nm (sI g16 k17 (g16.1 k0 8).toNatClampNeg (vp_nar .boolean a4)) fun g20 => nm (sI g20 k0 8 ((g20.1 k0 8) + (1 : Int32))) fun g21 => some ((), g21))
set_option maxHeartbeats 4000000 in
set_option maxRecDepth 100000 in
theorem c_X4_addPower {l : Launch} {D : va_G} {cA : Nat → ClassId} {sk : (Nat → Nat) × (Nat → Nat)} {ad : Nat → Nat} {A : Nat → Prop} {V : Vk} {k0 : Nat} {a1 : Int32} {a2 : Int32} {a3 : Int32} {a4 : Int32} {g g0 : Hq} (hr : r_X4_addPower V k0 a1 a2 a3 a4 g = some ((), g0)) : Met l yX4_addPower (wM yX4_addPower cX4_addPower 5 none) { frames := 1, cells := 0, slots := 0, locals := 20 } (Pre D cA sk ad (V, g) A [.ref (ad k0), .int a1, .int a2, .int a3, .int a4]) (QV D cA ad A (V, g0)) 0 0 A := by
  refine Met.ofW (cc := cX4_addPower) (maxL := 5) (ret := none) (by decide) rfl ?_
  intro p e s m args below meth c s₁ B hml hv
  obtain ⟨rfl, fx, w0⟩ := hv
  have hts := atoms_spec (ws := wM yX4_addPower cX4_addPower 5 none) B.pre
  have cx : CallFix p m c cX4_addPower 5 s ([.ref (ad k0), .int a1, .int a2, .int a3, .int a4] : List Value).toArray gw_tbl RX4 := ⟨B.exec, B.bytes, hml, findClass_of_methodNamed B.named, fun w hw => hts w (List.mem_cons_of_mem _ hw)⟩
  have hlocks := B.notSynchronized
  have hret := B.returns
  have hR : 1 ≤ (headSpec (wM yX4_addPower cX4_addPower 5 none) { frames := 1, cells := 0, slots := 0, locals := 20 }).room.frames ∧ 20 ≤ (headSpec (wM yX4_addPower cX4_addPower 5 none) { frames := 1, cells := 0, slots := 0, locals := 20 }).room.locals := ⟨Nat.le_refl _, Nat.le_refl _⟩
  have dy : Dy D cA ad (V, g) A s.heap s.heap [] := ⟨w0, va_S.rf⟩
  have hl := lv_entry [.ref (ad k0), .int a1, .int a2, .int a3, .int a4] (n := 5) (Nat.le_of_ble_eq_true rfl)
  rw [lg_entry_eq]
  generalize (lg_sl [.ref (ad k0), .int a1, .int a2, .int a3, .int a4] ++ List.replicate (5 - (lg_sl [.ref (ad k0), .int a1, .int a2, .int a3, .int a4]).length) Slot.unset).toArray = ls at hl ⊢
  have hl : lv_has ls 5 [(0, .ref (ad k0)), (1, .int a1), (2, .int a2), (3, .int a3), (4, .int a4)] := hl
  have dy0 : ∃ H0, H0 = s.heap ∧ Dy D cA ad (V, g) A s.heap H0 [] := ⟨_, rfl, dy⟩
  obtain ⟨z, ez⟩ : ∃ z, z = (((), g0) : Unit × Hq) := ⟨_, rfl⟩
  rw [← ez] at hr
  have hq0 : ∀ (rb : Unit) (gb : Hq), z = (rb, gb) → gb = g0 := fun rb gb eb => by rw [ez] at eb; exact (congrArg Prod.snd eb).symm
  clear ez w0 dy0
  unfold r_X4_addPower at hr
  obtain ⟨H, hH⟩ : ∃ H, H = s.heap := ⟨_, rfl⟩
  obtain ⟨locs, hlo⟩ : ∃ q : List Loc, q = [] := ⟨_, rfl⟩
  have dy : Dy D cA ad (V, g) A s.heap H locs := by rw [hH, hlo]; exact dy
  suffices K : W p l e (headSpec (wM yX4_addPower cX4_addPower 5 none) { frames := 1, cells := 0, slots := 0, locals := 20 }).room s m ([.ref (ad k0), .int a1, .int a2, .int a3, .int a4] : List Value).toArray below meth c H locs 0 0 (MQ below (QV D cA ad A (V, g0)) ([.ref (ad k0), .int a1, .int a2, .int a3, .int a4] : List Value).toArray s 0 0 A) (F0 m 0 ls []) by rw [hH, hlo] at K; exact K
  clear hH hlo
  refine lv_aload_n cx.1 cx.2.1 dX4_addPower_0 rfl (lv_at hl 0 rfl) ?_
  obtain ⟨hv3, hr⟩ := of_grd hr
  obtain ⟨x2, g1, hc4, hr⟩ := of_bnd2 hr
  refine r_i dy (k_V (As := []) (b := k0) (ci := 4) cx fx dy (c_X4_hasRoomForPower hc4) mv_X4_hasRoomForPower rfl rfl ⟨Nat.le_trans (by decide) hR.1, Nat.le_trans (by decide) hR.2⟩ tb_678 hv3 rfl (by decide) rfl hl.1 rfl (Nat.le_of_ble_eq_true rfl) ⟨Nat.zero_le _, Nat.zero_le _⟩ dX4_addPower_1) (fun H locs dy => ?_)
  rcases of_brn hr with ⟨hc, hr⟩ | ⟨hc, hr⟩
  · refine lv_if_eq (tgt := 58) cx.1 cx.2.1 dX4_addPower_4 (by decide) (fun _ => ?_) (fun hn => absurd hc hn)
    have e1 := hq0 _ _ (Option.some.inj hr).symm
    exact h_vret cx dy hlocks hret (by rw [e1]) dX4_addPower_58
  · refine lv_if_eq (tgt := 58) cx.1 cx.2.1 dX4_addPower_4 (by decide) (fun hn => absurd hn hc) (fun _ => ?_)
    refine lv_aload_n cx.1 cx.2.1 dX4_addPower_7 rfl (lv_at hl 0 rfl) ?_
    obtain ⟨k5, hf6, hr⟩ := of_bnd hr
    refine h_getR cx fx dy fd_4_9 hv3 tb_288 hf6 dX4_addPower_8 ?_
    refine lv_aload_n cx.1 cx.2.1 dX4_addPower_11 rfl (lv_at hl 0 rfl) ?_
    refine h_getI cx fx dy fd_4_8 hv3 tb_287 dX4_addPower_12 ?_
    refine lv_iload_n cx.1 cx.2.1 dX4_addPower_15 rfl (lv_at hl 1 rfl) ?_
    obtain ⟨ha7, hr⟩ := of_grd hr
    obtain ⟨g8, eg8, hr⟩ := of_nm hr
    refine h_iast cx fx dy ha7 dX4_addPower_16 (fun H locs dy => ?_)
    replace dy : Dy D cA ad (V, g8) A s.heap H locs := by rw [eg8]; exact dy
    refine lv_aload_n cx.1 cx.2.1 dX4_addPower_17 rfl (lv_at hl 0 rfl) ?_
    obtain ⟨k9, hf10, hr⟩ := of_bnd hr
    refine h_getR cx fx dy fd_4_10 hv3 tb_289 hf10 dX4_addPower_18 ?_
    refine lv_aload_n cx.1 cx.2.1 dX4_addPower_21 rfl (lv_at hl 0 rfl) ?_
    refine h_getI cx fx dy fd_4_8 hv3 tb_287 dX4_addPower_22 ?_
    refine lv_iload_n cx.1 cx.2.1 dX4_addPower_25 rfl (lv_at hl 2 rfl) ?_
    obtain ⟨ha11, hr⟩ := of_grd hr
    obtain ⟨g12, eg12, hr⟩ := of_nm hr
    refine h_iast cx fx dy ha11 dX4_addPower_26 (fun H locs dy => ?_)
    replace dy : Dy D cA ad (V, g12) A s.heap H locs := by rw [eg12]; exact dy
    refine lv_aload_n cx.1 cx.2.1 dX4_addPower_27 rfl (lv_at hl 0 rfl) ?_
    obtain ⟨k13, hf14, hr⟩ := of_bnd hr
    refine h_getR cx fx dy fd_4_11 hv3 tb_290 hf14 dX4_addPower_28 ?_
    refine lv_aload_n cx.1 cx.2.1 dX4_addPower_31 rfl (lv_at hl 0 rfl) ?_
    refine h_getI cx fx dy fd_4_8 hv3 tb_287 dX4_addPower_32 ?_
    refine lv_iload_n cx.1 cx.2.1 dX4_addPower_35 rfl (lv_at hl 3 rfl) ?_
    obtain ⟨ha15, hr⟩ := of_grd hr
    obtain ⟨g16, eg16, hr⟩ := of_nm hr
    refine h_iast cx fx dy ha15 dX4_addPower_36 (fun H locs dy => ?_)
    replace dy : Dy D cA ad (V, g16) A s.heap H locs := by rw [eg16]; exact dy
    refine lv_aload_n cx.1 cx.2.1 dX4_addPower_37 rfl (lv_at hl 0 rfl) ?_
    obtain ⟨k17, hf18, hr⟩ := of_bnd hr
    refine h_getR cx fx dy fd_4_12 hv3 tb_291 hf18 dX4_addPower_38 ?_
    refine lv_aload_n cx.1 cx.2.1 dX4_addPower_41 rfl (lv_at hl 0 rfl) ?_
    refine h_getI cx fx dy fd_4_8 hv3 tb_287 dX4_addPower_42 ?_
    refine lv_iload cx.1 cx.2.1 dX4_addPower_45 (lv_at hl 4 rfl) ?_
    obtain ⟨ha19, hr⟩ := of_grd hr
    obtain ⟨g20, eg20, hr⟩ := of_nm hr
    refine h_zast cx fx dy ha19 dX4_addPower_47 (fun H locs dy => ?_)
    replace dy : Dy D cA ad (V, g20) A s.heap H locs := by rw [eg20]; exact dy
    refine lv_aload_n cx.1 cx.2.1 dX4_addPower_48 rfl (lv_at hl 0 rfl) ?_
    refine lv_dup cx.1 cx.2.1 dX4_addPower_49 rfl ?_
    refine h_getI cx fx dy fd_4_8 hv3 tb_287 dX4_addPower_50 ?_
    refine lv_iconst (v := 1) cx.1 cx.2.1 dX4_addPower_53 (by decide) ?_
    refine lv_iadd cx.1 cx.2.1 dX4_addPower_54 ?_
    obtain ⟨g21, eg21, hr⟩ := of_nm hr
    refine h_putI cx fx dy fd_4_8 (pd_4_8 : PD _ _ _ _ _ .int) rfl rfl rfl hv3 tb_287 dX4_addPower_55 (fun H locs dy => ?_)
    replace dy : Dy D cA ad (V, g21) A s.heap H locs := by rw [eg21]; exact dy
    have e1 := hq0 _ _ (Option.some.inj hr).symm
    exact h_vret cx dy hlocks hret (by rw [e1]) dX4_addPower_58
noncomputable def r_X4_tell (V : Vk) (k0 : Nat) (a1 : Int32) (g : Hq) : Option (Int32 × Hq) :=
  brn (a1 = (0 : Int32)) (grd (V k0 = some (4, 0)) <| some ((g.1 k0 0), g)) (brn (a1 = (1 : Int32)) (grd (V k0 = some (4, 0)) <| some ((g.1 k0 1), g)) (brn (a1 = (2 : Int32)) (grd (V k0 = some (4, 0)) <| some ((g.1 k0 2), g)) (brn (a1 = (3 : Int32)) (grd (V k0 = some (4, 0)) <| some ((g.1 k0 3), g)) (brn (a1 = (4 : Int32)) (grd (V k0 = some (4, 0)) <| some ((g.1 k0 4), g)) (brn (a1 = (5 : Int32)) (grd (V k0 = some (4, 0)) <| some ((g.1 k0 5), g)) (brn (a1 = (6 : Int32)) (grd (V k0 = some (4, 0)) <| brn ((g.1 k0 6) = 0) (some ((0 : Int32), g)) (some ((1 : Int32), g))) (brn (a1 = (7 : Int32)) (grd (V k0 = some (4, 0)) <| some ((g.1 k0 7), g)) (brn (a1 = (8 : Int32)) (grd (V k0 = some (4, 0)) <| some ((g.1 k0 8), g)) (some ((-9 : Int32), g))))))))))
set_option maxHeartbeats 4000000 in
set_option maxRecDepth 100000 in
theorem c_X4_tell {l : Launch} {D : va_G} {cA : Nat → ClassId} {sk : (Nat → Nat) × (Nat → Nat)} {ad : Nat → Nat} {A : Nat → Prop} {V : Vk} {k0 : Nat} {a1 : Int32} {g g0 : Hq} {r0 : Int32} (hr : r_X4_tell V k0 a1 g = some (r0, g0)) : Met l yX4_tell (wM yX4_tell cX4_tell 2 (some .int)) { frames := 0, cells := 0, slots := 0, locals := 0 } (Pre D cA sk ad (V, g) A [.ref (ad k0), .int a1]) (QI D cA ad A r0 (V, g0)) 0 0 A := by
  refine Met.ofW (cc := cX4_tell) (maxL := 2) (ret := (some .int)) (by decide) rfl ?_
  intro p e s m args below meth c s₁ B hml hv
  obtain ⟨rfl, fx, w0⟩ := hv
  have hts := atoms_spec (ws := wM yX4_tell cX4_tell 2 (some .int)) B.pre
  have cx : CallFix p m c cX4_tell 2 s ([.ref (ad k0), .int a1] : List Value).toArray gw_tbl RX4 := ⟨B.exec, B.bytes, hml, findClass_of_methodNamed B.named, fun w hw => hts w (List.mem_cons_of_mem _ hw)⟩
  have hlocks := B.notSynchronized
  have hret := B.returns
  have hR : 0 ≤ (headSpec (wM yX4_tell cX4_tell 2 (some .int)) { frames := 0, cells := 0, slots := 0, locals := 0 }).room.frames ∧ 0 ≤ (headSpec (wM yX4_tell cX4_tell 2 (some .int)) { frames := 0, cells := 0, slots := 0, locals := 0 }).room.locals := ⟨Nat.le_refl _, Nat.le_refl _⟩
  have dy : Dy D cA ad (V, g) A s.heap s.heap [] := ⟨w0, va_S.rf⟩
  have hl := lv_entry [.ref (ad k0), .int a1] (n := 2) (Nat.le_of_ble_eq_true rfl)
  rw [lg_entry_eq]
  generalize (lg_sl [.ref (ad k0), .int a1] ++ List.replicate (2 - (lg_sl [.ref (ad k0), .int a1]).length) Slot.unset).toArray = ls at hl ⊢
  have hl : lv_has ls 2 [(0, .ref (ad k0)), (1, .int a1)] := hl
  have dy0 : ∃ H0, H0 = s.heap ∧ Dy D cA ad (V, g) A s.heap H0 [] := ⟨_, rfl, dy⟩
  obtain ⟨z, ez⟩ : ∃ z, z = (r0, g0) := ⟨_, rfl⟩
  rw [← ez] at hr
  have hq0 : ∀ (rb : Int32) (gb : Hq), z = (rb, gb) → rb = r0 ∧ gb = g0 := fun rb gb eb => by rw [ez] at eb; exact ⟨(congrArg Prod.fst eb).symm, (congrArg Prod.snd eb).symm⟩
  clear ez w0 dy0
  unfold r_X4_tell at hr
  obtain ⟨H, hH⟩ : ∃ H, H = s.heap := ⟨_, rfl⟩
  obtain ⟨locs, hlo⟩ : ∃ q : List Loc, q = [] := ⟨_, rfl⟩
  have dy : Dy D cA ad (V, g) A s.heap H locs := by rw [hH, hlo]; exact dy
  suffices K : W p l e (headSpec (wM yX4_tell cX4_tell 2 (some .int)) { frames := 0, cells := 0, slots := 0, locals := 0 }).room s m ([.ref (ad k0), .int a1] : List Value).toArray below meth c H locs 0 0 (MQ below (QI D cA ad A r0 (V, g0)) ([.ref (ad k0), .int a1] : List Value).toArray s 0 0 A) (F0 m 0 ls []) by rw [hH, hlo] at K; exact K
  clear hH hlo
  refine lv_iload_n cx.1 cx.2.1 dX4_tell_0 rfl (lv_at hl 1 rfl) ?_
  rcases of_brn hr with ⟨hc, hr⟩ | ⟨hs2, hr⟩
  · refine lv_tableIn (off := 51) (tgt := 52) cx.1 cx.2.1 dX4_tell_1 (by rw [hc]; decide) (by rw [hc]; decide) (by rw [hc]; rfl) (by decide) ?_
    refine lv_aload_n cx.1 cx.2.1 dX4_tell_52 rfl (lv_at hl 0 rfl) ?_
    obtain ⟨hv1, hr⟩ := of_grd hr
    refine h_getI cx fx dy fd_4_0 hv1 tb_261 dX4_tell_53 ?_
    obtain ⟨e0, e1⟩ := hq0 _ _ (Option.some.inj hr).symm
    exact h_iret cx dy hlocks hret rfl e0 (by rw [e1]) dX4_tell_56
  rcases of_brn hr with ⟨hc, hr⟩ | ⟨hs4, hr⟩
  · refine lv_tableIn (off := 56) (tgt := 57) cx.1 cx.2.1 dX4_tell_1 (by rw [hc]; decide) (by rw [hc]; decide) (by rw [hc]; rfl) (by decide) ?_
    refine lv_aload_n cx.1 cx.2.1 dX4_tell_57 rfl (lv_at hl 0 rfl) ?_
    obtain ⟨hv3, hr⟩ := of_grd hr
    refine h_getI cx fx dy fd_4_1 hv3 tb_264 dX4_tell_58 ?_
    obtain ⟨e0, e1⟩ := hq0 _ _ (Option.some.inj hr).symm
    exact h_iret cx dy hlocks hret rfl e0 (by rw [e1]) dX4_tell_61
  rcases of_brn hr with ⟨hc, hr⟩ | ⟨hs6, hr⟩
  · refine lv_tableIn (off := 61) (tgt := 62) cx.1 cx.2.1 dX4_tell_1 (by rw [hc]; decide) (by rw [hc]; decide) (by rw [hc]; rfl) (by decide) ?_
    refine lv_aload_n cx.1 cx.2.1 dX4_tell_62 rfl (lv_at hl 0 rfl) ?_
    obtain ⟨hv5, hr⟩ := of_grd hr
    refine h_getI cx fx dy fd_4_2 hv5 tb_267 dX4_tell_63 ?_
    obtain ⟨e0, e1⟩ := hq0 _ _ (Option.some.inj hr).symm
    exact h_iret cx dy hlocks hret rfl e0 (by rw [e1]) dX4_tell_66
  rcases of_brn hr with ⟨hc, hr⟩ | ⟨hs8, hr⟩
  · refine lv_tableIn (off := 66) (tgt := 67) cx.1 cx.2.1 dX4_tell_1 (by rw [hc]; decide) (by rw [hc]; decide) (by rw [hc]; rfl) (by decide) ?_
    refine lv_aload_n cx.1 cx.2.1 dX4_tell_67 rfl (lv_at hl 0 rfl) ?_
    obtain ⟨hv7, hr⟩ := of_grd hr
    refine h_getI cx fx dy fd_4_3 hv7 tb_270 dX4_tell_68 ?_
    obtain ⟨e0, e1⟩ := hq0 _ _ (Option.some.inj hr).symm
    exact h_iret cx dy hlocks hret rfl e0 (by rw [e1]) dX4_tell_71
  rcases of_brn hr with ⟨hc, hr⟩ | ⟨hs10, hr⟩
  · refine lv_tableIn (off := 71) (tgt := 72) cx.1 cx.2.1 dX4_tell_1 (by rw [hc]; decide) (by rw [hc]; decide) (by rw [hc]; rfl) (by decide) ?_
    refine lv_aload_n cx.1 cx.2.1 dX4_tell_72 rfl (lv_at hl 0 rfl) ?_
    obtain ⟨hv9, hr⟩ := of_grd hr
    refine h_getI cx fx dy fd_4_4 hv9 tb_275 dX4_tell_73 ?_
    obtain ⟨e0, e1⟩ := hq0 _ _ (Option.some.inj hr).symm
    exact h_iret cx dy hlocks hret rfl e0 (by rw [e1]) dX4_tell_76
  rcases of_brn hr with ⟨hc, hr⟩ | ⟨hs12, hr⟩
  · refine lv_tableIn (off := 76) (tgt := 77) cx.1 cx.2.1 dX4_tell_1 (by rw [hc]; decide) (by rw [hc]; decide) (by rw [hc]; rfl) (by decide) ?_
    refine lv_aload_n cx.1 cx.2.1 dX4_tell_77 rfl (lv_at hl 0 rfl) ?_
    obtain ⟨hv11, hr⟩ := of_grd hr
    refine h_getI cx fx dy fd_4_5 hv11 tb_279 dX4_tell_78 ?_
    obtain ⟨e0, e1⟩ := hq0 _ _ (Option.some.inj hr).symm
    exact h_iret cx dy hlocks hret rfl e0 (by rw [e1]) dX4_tell_81
  rcases of_brn hr with ⟨hc, hr⟩ | ⟨hs14, hr⟩
  · refine lv_tableIn (off := 81) (tgt := 82) cx.1 cx.2.1 dX4_tell_1 (by rw [hc]; decide) (by rw [hc]; decide) (by rw [hc]; rfl) (by decide) ?_
    refine lv_aload_n cx.1 cx.2.1 dX4_tell_82 rfl (lv_at hl 0 rfl) ?_
    obtain ⟨hv13, hr⟩ := of_grd hr
    refine h_getI cx fx dy fd_4_6 hv13 tb_282 dX4_tell_83 ?_
    rcases of_brn hr with ⟨hc, hr⟩ | ⟨hc, hr⟩
    · refine lv_if_eq (tgt := 93) cx.1 cx.2.1 dX4_tell_86 (by decide) (fun _ => ?_) (fun hn => absurd hc hn)
      refine lv_iconst (v := 0) cx.1 cx.2.1 dX4_tell_93 (by decide) ?_
      obtain ⟨e0, e1⟩ := hq0 _ _ (Option.some.inj hr).symm
      exact h_iret cx dy hlocks hret rfl e0 (by rw [e1]) dX4_tell_94
    · refine lv_if_eq (tgt := 93) cx.1 cx.2.1 dX4_tell_86 (by decide) (fun hn => absurd hn hc) (fun _ => ?_)
      refine lv_iconst (v := 1) cx.1 cx.2.1 dX4_tell_89 (by decide) ?_
      refine lv_goto (tgt := 94) cx.1 cx.2.1 dX4_tell_90 (by decide) ?_
      obtain ⟨e0, e1⟩ := hq0 _ _ (Option.some.inj hr).symm
      exact h_iret cx dy hlocks hret rfl e0 (by rw [e1]) dX4_tell_94
  rcases of_brn hr with ⟨hc, hr⟩ | ⟨hs16, hr⟩
  · refine lv_tableIn (off := 94) (tgt := 95) cx.1 cx.2.1 dX4_tell_1 (by rw [hc]; decide) (by rw [hc]; decide) (by rw [hc]; rfl) (by decide) ?_
    refine lv_aload_n cx.1 cx.2.1 dX4_tell_95 rfl (lv_at hl 0 rfl) ?_
    obtain ⟨hv15, hr⟩ := of_grd hr
    refine h_getI cx fx dy fd_4_7 hv15 tb_285 dX4_tell_96 ?_
    obtain ⟨e0, e1⟩ := hq0 _ _ (Option.some.inj hr).symm
    exact h_iret cx dy hlocks hret rfl e0 (by rw [e1]) dX4_tell_99
  rcases of_brn hr with ⟨hc, hr⟩ | ⟨hs18, hr⟩
  · refine lv_tableIn (off := 99) (tgt := 100) cx.1 cx.2.1 dX4_tell_1 (by rw [hc]; decide) (by rw [hc]; decide) (by rw [hc]; rfl) (by decide) ?_
    refine lv_aload_n cx.1 cx.2.1 dX4_tell_100 rfl (lv_at hl 0 rfl) ?_
    obtain ⟨hv17, hr⟩ := of_grd hr
    refine h_getI cx fx dy fd_4_8 hv17 tb_287 dX4_tell_101 ?_
    obtain ⟨e0, e1⟩ := hq0 _ _ (Option.some.inj hr).symm
    exact h_iret cx dy hlocks hret rfl e0 (by rw [e1]) dX4_tell_104
  refine lv_tableOut (tgt := 105) cx.1 cx.2.1 dX4_tell_1 (tsw_out (fun n h1 h2 => ?_)) (by decide) ?_
  · rcases (show n = 0 ∨ n = 1 ∨ n = 2 ∨ n = 3 ∨ n = 4 ∨ n = 5 ∨ n = 6 ∨ n = 7 ∨ n = 8 by omega) with rfl | rfl | rfl | rfl | rfl | rfl | rfl | rfl | rfl
    · exact hs2
    · exact hs4
    · exact hs6
    · exact hs8
    · exact hs10
    · exact hs12
    · exact hs14
    · exact hs16
    · exact hs18
  · skip
    refine lv_bipush (v := (-9)) cx.1 cx.2.1 dX4_tell_105 (by decide) ?_
    obtain ⟨e0, e1⟩ := hq0 _ _ (Option.some.inj hr).symm
    exact h_iret cx dy hlocks hret rfl e0 (by rw [e1]) dX4_tell_107
noncomputable def r_X4_hasHour (V : Vk) (k0 : Nat) (a1 : Int32) (a2 : Int32) (g : Hq) : Option (Int32 × Hq) :=
  grd (V k0 = some (4, 0)) <| Option.bind (g.2.2 k0 11) fun k2 => grd (okV V k2 0 a1) <| Option.bind (g.2.2 k0 10) fun k5 => grd (okV V k5 0 a1) <| brn ((g.1 k5 a1.toNatClampNeg) ≤ (g.1 k2 a1.toNatClampNeg)) (Option.bind (g.2.2 k0 10) fun k8 => grd (okV V k8 0 a1) <| brn (a2 < (g.1 k8 a1.toNatClampNeg)) (some ((0 : Int32), g)) (Option.bind (g.2.2 k0 11) fun k11 => grd (okV V k11 0 a1) <| brn ((g.1 k11 a1.toNatClampNeg) < a2) (some ((0 : Int32), g)) (some ((1 : Int32), g)))) (Option.bind (g.2.2 k0 10) fun k14 => grd (okV V k14 0 a1) <| brn ((g.1 k14 a1.toNatClampNeg) ≤ a2) (some ((1 : Int32), g)) (Option.bind (g.2.2 k0 11) fun k17 => grd (okV V k17 0 a1) <| brn ((g.1 k17 a1.toNatClampNeg) < a2) (some ((0 : Int32), g)) (some ((1 : Int32), g))))
set_option maxHeartbeats 4000000 in
set_option maxRecDepth 100000 in
theorem c_X4_hasHour {l : Launch} {D : va_G} {cA : Nat → ClassId} {sk : (Nat → Nat) × (Nat → Nat)} {ad : Nat → Nat} {A : Nat → Prop} {V : Vk} {k0 : Nat} {a1 : Int32} {a2 : Int32} {g g0 : Hq} {r0 : Int32} (hr : r_X4_hasHour V k0 a1 a2 g = some (r0, g0)) : Met l yX4_hasHour (wM yX4_hasHour cX4_hasHour 3 (some .boolean)) { frames := 0, cells := 0, slots := 0, locals := 0 } (Pre D cA sk ad (V, g) A [.ref (ad k0), .int a1, .int a2]) (QI D cA ad A r0 (V, g0)) 0 0 A := by
  refine Met.ofW (cc := cX4_hasHour) (maxL := 3) (ret := (some .boolean)) (by decide) rfl ?_
  intro p e s m args below meth c s₁ B hml hv
  obtain ⟨rfl, fx, w0⟩ := hv
  have hts := atoms_spec (ws := wM yX4_hasHour cX4_hasHour 3 (some .boolean)) B.pre
  have cx : CallFix p m c cX4_hasHour 3 s ([.ref (ad k0), .int a1, .int a2] : List Value).toArray gw_tbl RX4 := ⟨B.exec, B.bytes, hml, findClass_of_methodNamed B.named, fun w hw => hts w (List.mem_cons_of_mem _ hw)⟩
  have hlocks := B.notSynchronized
  have hret := B.returns
  have hR : 0 ≤ (headSpec (wM yX4_hasHour cX4_hasHour 3 (some .boolean)) { frames := 0, cells := 0, slots := 0, locals := 0 }).room.frames ∧ 0 ≤ (headSpec (wM yX4_hasHour cX4_hasHour 3 (some .boolean)) { frames := 0, cells := 0, slots := 0, locals := 0 }).room.locals := ⟨Nat.le_refl _, Nat.le_refl _⟩
  have dy : Dy D cA ad (V, g) A s.heap s.heap [] := ⟨w0, va_S.rf⟩
  have hl := lv_entry [.ref (ad k0), .int a1, .int a2] (n := 3) (Nat.le_of_ble_eq_true rfl)
  rw [lg_entry_eq]
  generalize (lg_sl [.ref (ad k0), .int a1, .int a2] ++ List.replicate (3 - (lg_sl [.ref (ad k0), .int a1, .int a2]).length) Slot.unset).toArray = ls at hl ⊢
  have hl : lv_has ls 3 [(0, .ref (ad k0)), (1, .int a1), (2, .int a2)] := hl
  have dy0 : ∃ H0, H0 = s.heap ∧ Dy D cA ad (V, g) A s.heap H0 [] := ⟨_, rfl, dy⟩
  obtain ⟨z, ez⟩ : ∃ z, z = (r0, g0) := ⟨_, rfl⟩
  rw [← ez] at hr
  have hq0 : ∀ (rb : Int32) (gb : Hq), z = (rb, gb) → rb = r0 ∧ gb = g0 := fun rb gb eb => by rw [ez] at eb; exact ⟨(congrArg Prod.fst eb).symm, (congrArg Prod.snd eb).symm⟩
  clear ez w0 dy0
  unfold r_X4_hasHour at hr
  obtain ⟨H, hH⟩ : ∃ H, H = s.heap := ⟨_, rfl⟩
  obtain ⟨locs, hlo⟩ : ∃ q : List Loc, q = [] := ⟨_, rfl⟩
  have dy : Dy D cA ad (V, g) A s.heap H locs := by rw [hH, hlo]; exact dy
  suffices K : W p l e (headSpec (wM yX4_hasHour cX4_hasHour 3 (some .boolean)) { frames := 0, cells := 0, slots := 0, locals := 0 }).room s m ([.ref (ad k0), .int a1, .int a2] : List Value).toArray below meth c H locs 0 0 (MQ below (QI D cA ad A r0 (V, g0)) ([.ref (ad k0), .int a1, .int a2] : List Value).toArray s 0 0 A) (F0 m 0 ls []) by rw [hH, hlo] at K; exact K
  clear hH hlo
  refine lv_aload_n cx.1 cx.2.1 dX4_hasHour_0 rfl (lv_at hl 0 rfl) ?_
  obtain ⟨hv1, hr⟩ := of_grd hr
  obtain ⟨k2, hf3, hr⟩ := of_bnd hr
  refine h_getR cx fx dy fd_4_11 hv1 tb_290 hf3 dX4_hasHour_1 ?_
  refine lv_iload_n cx.1 cx.2.1 dX4_hasHour_4 rfl (lv_at hl 1 rfl) ?_
  obtain ⟨ha4, hr⟩ := of_grd hr
  refine h_iald cx fx dy ha4 dX4_hasHour_5 ?_
  refine lv_aload_n cx.1 cx.2.1 dX4_hasHour_6 rfl (lv_at hl 0 rfl) ?_
  obtain ⟨k5, hf6, hr⟩ := of_bnd hr
  refine h_getR cx fx dy fd_4_10 hv1 tb_289 hf6 dX4_hasHour_7 ?_
  refine lv_iload_n cx.1 cx.2.1 dX4_hasHour_10 rfl (lv_at hl 1 rfl) ?_
  obtain ⟨ha7, hr⟩ := of_grd hr
  refine h_iald cx fx dy ha7 dX4_hasHour_11 ?_
  rcases of_brn hr with ⟨hc, hr⟩ | ⟨hc, hr⟩
  · refine lv_icmp_ge (tgt := 41) cx.1 cx.2.1 dX4_hasHour_12 (by decide) (fun _ => ?_) (fun hn => absurd hc hn)
    refine lv_iload_n cx.1 cx.2.1 dX4_hasHour_41 rfl (lv_at hl 2 rfl) ?_
    refine lv_aload_n cx.1 cx.2.1 dX4_hasHour_42 rfl (lv_at hl 0 rfl) ?_
    obtain ⟨k8, hf9, hr⟩ := of_bnd hr
    refine h_getR cx fx dy fd_4_10 hv1 tb_289 hf9 dX4_hasHour_43 ?_
    refine lv_iload_n cx.1 cx.2.1 dX4_hasHour_46 rfl (lv_at hl 1 rfl) ?_
    obtain ⟨ha10, hr⟩ := of_grd hr
    refine h_iald cx fx dy ha10 dX4_hasHour_47 ?_
    rcases of_brn hr with ⟨hc, hr⟩ | ⟨hc, hr⟩
    · refine lv_icmp_lt (tgt := 65) cx.1 cx.2.1 dX4_hasHour_48 (by decide) (fun _ => ?_) (fun hn => absurd hc hn)
      refine lv_iconst (v := 0) cx.1 cx.2.1 dX4_hasHour_65 (by decide) ?_
      obtain ⟨e0, e1⟩ := hq0 _ _ (Option.some.inj hr).symm
      exact h_iret cx dy hlocks hret rfl e0 (by rw [e1]) dX4_hasHour_66
    · refine lv_icmp_lt (tgt := 65) cx.1 cx.2.1 dX4_hasHour_48 (by decide) (fun hn => absurd hn hc) (fun _ => ?_)
      refine lv_iload_n cx.1 cx.2.1 dX4_hasHour_51 rfl (lv_at hl 2 rfl) ?_
      refine lv_aload_n cx.1 cx.2.1 dX4_hasHour_52 rfl (lv_at hl 0 rfl) ?_
      obtain ⟨k11, hf12, hr⟩ := of_bnd hr
      refine h_getR cx fx dy fd_4_11 hv1 tb_290 hf12 dX4_hasHour_53 ?_
      refine lv_iload_n cx.1 cx.2.1 dX4_hasHour_56 rfl (lv_at hl 1 rfl) ?_
      obtain ⟨ha13, hr⟩ := of_grd hr
      refine h_iald cx fx dy ha13 dX4_hasHour_57 ?_
      rcases of_brn hr with ⟨hc, hr⟩ | ⟨hc, hr⟩
      · refine lv_icmp_gt (tgt := 65) cx.1 cx.2.1 dX4_hasHour_58 (by decide) (fun _ => ?_) (fun hn => absurd hc hn)
        refine lv_iconst (v := 0) cx.1 cx.2.1 dX4_hasHour_65 (by decide) ?_
        obtain ⟨e0, e1⟩ := hq0 _ _ (Option.some.inj hr).symm
        exact h_iret cx dy hlocks hret rfl e0 (by rw [e1]) dX4_hasHour_66
      · refine lv_icmp_gt (tgt := 65) cx.1 cx.2.1 dX4_hasHour_58 (by decide) (fun hn => absurd hn hc) (fun _ => ?_)
        refine lv_iconst (v := 1) cx.1 cx.2.1 dX4_hasHour_61 (by decide) ?_
        refine lv_goto (tgt := 66) cx.1 cx.2.1 dX4_hasHour_62 (by decide) ?_
        obtain ⟨e0, e1⟩ := hq0 _ _ (Option.some.inj hr).symm
        exact h_iret cx dy hlocks hret rfl e0 (by rw [e1]) dX4_hasHour_66
  · refine lv_icmp_ge (tgt := 41) cx.1 cx.2.1 dX4_hasHour_12 (by decide) (fun hn => absurd hn hc) (fun _ => ?_)
    refine lv_iload_n cx.1 cx.2.1 dX4_hasHour_15 rfl (lv_at hl 2 rfl) ?_
    refine lv_aload_n cx.1 cx.2.1 dX4_hasHour_16 rfl (lv_at hl 0 rfl) ?_
    obtain ⟨k14, hf15, hr⟩ := of_bnd hr
    refine h_getR cx fx dy fd_4_10 hv1 tb_289 hf15 dX4_hasHour_17 ?_
    refine lv_iload_n cx.1 cx.2.1 dX4_hasHour_20 rfl (lv_at hl 1 rfl) ?_
    obtain ⟨ha16, hr⟩ := of_grd hr
    refine h_iald cx fx dy ha16 dX4_hasHour_21 ?_
    rcases of_brn hr with ⟨hc, hr⟩ | ⟨hc, hr⟩
    · refine lv_icmp_ge (tgt := 35) cx.1 cx.2.1 dX4_hasHour_22 (by decide) (fun _ => ?_) (fun hn => absurd hc hn)
      refine lv_iconst (v := 1) cx.1 cx.2.1 dX4_hasHour_35 (by decide) ?_
      refine lv_goto (tgt := 40) cx.1 cx.2.1 dX4_hasHour_36 (by decide) ?_
      obtain ⟨e0, e1⟩ := hq0 _ _ (Option.some.inj hr).symm
      exact h_iret cx dy hlocks hret rfl e0 (by rw [e1]) dX4_hasHour_40
    · refine lv_icmp_ge (tgt := 35) cx.1 cx.2.1 dX4_hasHour_22 (by decide) (fun hn => absurd hn hc) (fun _ => ?_)
      refine lv_iload_n cx.1 cx.2.1 dX4_hasHour_25 rfl (lv_at hl 2 rfl) ?_
      refine lv_aload_n cx.1 cx.2.1 dX4_hasHour_26 rfl (lv_at hl 0 rfl) ?_
      obtain ⟨k17, hf18, hr⟩ := of_bnd hr
      refine h_getR cx fx dy fd_4_11 hv1 tb_290 hf18 dX4_hasHour_27 ?_
      refine lv_iload_n cx.1 cx.2.1 dX4_hasHour_30 rfl (lv_at hl 1 rfl) ?_
      obtain ⟨ha19, hr⟩ := of_grd hr
      refine h_iald cx fx dy ha19 dX4_hasHour_31 ?_
      rcases of_brn hr with ⟨hc, hr⟩ | ⟨hc, hr⟩
      · refine lv_icmp_gt (tgt := 39) cx.1 cx.2.1 dX4_hasHour_32 (by decide) (fun _ => ?_) (fun hn => absurd hc hn)
        refine lv_iconst (v := 0) cx.1 cx.2.1 dX4_hasHour_39 (by decide) ?_
        obtain ⟨e0, e1⟩ := hq0 _ _ (Option.some.inj hr).symm
        exact h_iret cx dy hlocks hret rfl e0 (by rw [e1]) dX4_hasHour_40
      · refine lv_icmp_gt (tgt := 39) cx.1 cx.2.1 dX4_hasHour_32 (by decide) (fun hn => absurd hn hc) (fun _ => ?_)
        refine lv_iconst (v := 1) cx.1 cx.2.1 dX4_hasHour_35 (by decide) ?_
        refine lv_goto (tgt := 40) cx.1 cx.2.1 dX4_hasHour_36 (by decide) ?_
        obtain ⟨e0, e1⟩ := hq0 _ _ (Option.some.inj hr).symm
        exact h_iret cx dy hlocks hret rfl e0 (by rw [e1]) dX4_hasHour_40
noncomputable def r_X4_gives_3' (V : Vk) (k1 : Nat) (x2 : Int32) (x3 : Int32) (x4 : Int32) (x5 : Int32) (g6 : Hq) : Option ((Nat × Int32 × Int32 × Int32 × Int32 × Hq) ⊕ (Int32 × Hq)) :=
  grd (V k1 = some (4, 0)) <| brn ((g6.1 k1 8) ≤ x5) (some (.inr ((0 : Int32), g6))) (Option.bind (g6.2.2 k1 9) fun k8 => grd (okV V k8 0 x5) <| brn ((g6.1 k8 x5.toNatClampNeg) = x2) (bnd (r_X4_hasHour V k1 x5 x3 g6) fun x12 g11 => brn (x12 = 0) (nm (x5 + (1 : Int32)) fun x14 => some (.inl (k1, x2, x3, x4, x14, g11))) (brn (x4 = 0) (Option.bind (g11.2.2 k1 12) fun k15 => grd (okV V k15 2 x5) <| brn ((g11.1 k15 x5.toNatClampNeg) = 0) (some (.inr ((1 : Int32), g11))) (nm (x5 + (1 : Int32)) fun x18 => some (.inl (k1, x2, x3, x4, x18, g11)))) (some (.inr ((1 : Int32), g11))))) (nm (x5 + (1 : Int32)) fun x19 => some (.inl (k1, x2, x3, x4, x19, g6))))
noncomputable def r_X4_gives_3 (V : Vk) (st : (Nat × Int32 × Int32 × Int32 × Int32 × Hq)) : Option ((Nat × Int32 × Int32 × Int32 × Int32 × Hq) ⊕ (Int32 × Hq)) := r_X4_gives_3' V st.1 st.2.1 st.2.2.1 st.2.2.2.1 st.2.2.2.2.1 st.2.2.2.2.2
set_option maxHeartbeats 4000000 in
set_option maxRecDepth 100000 in
theorem w_X4_gives_3 {p : Program} {l : Launch} {e : Env} {R : Room} {s : State} {m : MethodId} {args : Array Value} {below : List Frame} {meth : Method} {c : Code} {D : va_G} {cA : Nat → ClassId} {sk : (Nat → Nat) × (Nat → Nat)} {ad : Nat → Nat} {A : Nat → Prop} {V : Vk} (cx : CallFix p m c cX4_gives 5 s args gw_tbl RX4) (fx : Fx D cA sk A s) (hlocks : meth.locks = false) (hret : meth.sig.returnType = (some .boolean)) (hR : 1 ≤ R.frames ∧ 22 ≤ R.locals) (r0 : Int32) (g0 : Hq) (y : (Int32 × Hq)) (hq : ∀ (rb : Int32) (gb : Hq), y = (rb, gb) → rb = r0 ∧ gb = g0) : ∀ (n : Nat) (k1 : Nat) (x2 : Int32) (x3 : Int32) (x4 : Int32) (x5 : Int32) (g6 : Hq), itr (r_X4_gives_3 V) n (k1, x2, x3, x4, x5, g6) = some y → ∀ (H : Heap) (locs : List Loc) (ls : Array Slot), Dy D cA ad (V, g6) A s.heap H locs → lv_has ls 5 [(0, .ref (ad k1)), (1, .int x2), (2, .int x3), (3, .int x4), (4, .int x5)] → W p l e R s m args below meth c H locs 0 0 (MQ below (QI D cA ad A r0 (V, g0)) args s 0 0 A) (F0 m 3 ls []) := by
  intro n
  induction n with
  | zero => intro k1 x2 x3 x4 x5 g6 hr; cases hr
  | succ n ih =>
    intro k1 x2 x3 x4 x5 g6 hr H locs ls dy hl
    obtain ⟨z, hz, hn1, hn2⟩ := itr_succ hr
    clear hr
    have hr : r_X4_gives_3' V k1 x2 x3 x4 x5 g6 = some z := hz
    clear hz
    unfold r_X4_gives_3' at hr
    have hh0 : ∀ (b0 : Nat) (b1 : Int32) (b2 : Int32) (b3 : Int32) (b4 : Int32) (gb : Hq), z = .inl (b0, b1, b2, b3, b4, gb) → ∀ (H : Heap) (locs : List Loc) (ls : Array Slot), Dy D cA ad (V, gb) A s.heap H locs → lv_has ls 5 [(0, .ref (ad b0)), (1, .int b1), (2, .int b2), (3, .int b3), (4, .int b4)] → W p l e R s m args below meth c H locs 0 0 (MQ below (QI D cA ad A r0 (V, g0)) args s 0 0 A) (F0 m 3 ls []) := fun b0 b1 b2 b3 b4 gb eb => ih b0 b1 b2 b3 b4 gb (hn1 _ eb)
    have hq0 : ∀ (rb : Int32) (gb : Hq), z = (.inr (rb, gb)) → rb = r0 ∧ gb = g0 := fun rb gb eb => hq rb gb (hn2 _ eb).symm
    refine lv_iload cx.1 cx.2.1 dX4_gives_3 (lv_at hl 4 rfl) ?_
    refine lv_aload_n cx.1 cx.2.1 dX4_gives_5 rfl (lv_at hl 0 rfl) ?_
    obtain ⟨hv7, hr⟩ := of_grd hr
    refine h_getI cx fx dy fd_4_8 hv7 tb_287 dX4_gives_6 ?_
    rcases of_brn hr with ⟨hc, hr⟩ | ⟨hc, hr⟩
    · refine lv_icmp_ge (tgt := 55) cx.1 cx.2.1 dX4_gives_9 (by decide) (fun _ => ?_) (fun hn => absurd hc hn)
      refine lv_iconst (v := 0) cx.1 cx.2.1 dX4_gives_55 (by decide) ?_
      obtain ⟨e0, e1⟩ := hq0 _ _ (Option.some.inj hr).symm
      exact h_iret cx dy hlocks hret rfl e0 (by rw [e1]) dX4_gives_56
    · refine lv_icmp_ge (tgt := 55) cx.1 cx.2.1 dX4_gives_9 (by decide) (fun hn => absurd hn hc) (fun _ => ?_)
      refine lv_aload_n cx.1 cx.2.1 dX4_gives_12 rfl (lv_at hl 0 rfl) ?_
      obtain ⟨k8, hf9, hr⟩ := of_bnd hr
      refine h_getR cx fx dy fd_4_9 hv7 tb_288 hf9 dX4_gives_13 ?_
      refine lv_iload cx.1 cx.2.1 dX4_gives_16 (lv_at hl 4 rfl) ?_
      obtain ⟨ha10, hr⟩ := of_grd hr
      refine h_iald cx fx dy ha10 dX4_gives_18 ?_
      refine lv_iload_n cx.1 cx.2.1 dX4_gives_19 rfl (lv_at hl 1 rfl) ?_
      rcases of_brn hr with ⟨hc, hr⟩ | ⟨hc, hr⟩
      · refine lv_icmp_ne (tgt := 49) cx.1 cx.2.1 dX4_gives_20 (by decide) (fun hn => absurd hc hn) (fun _ => ?_)
        refine lv_aload_n cx.1 cx.2.1 dX4_gives_23 rfl (lv_at hl 0 rfl) ?_
        refine lv_iload cx.1 cx.2.1 dX4_gives_24 (lv_at hl 4 rfl) ?_
        refine lv_iload_n cx.1 cx.2.1 dX4_gives_26 rfl (lv_at hl 2 rfl) ?_
        obtain ⟨x12, g11, hc13, hr⟩ := of_bnd2 hr
        refine r_i dy (k_V (As := [.int x5, .int x3]) (b := k1) (ci := 4) cx fx dy (c_X4_hasHour hc13) mv_X4_hasHour rfl rfl ⟨Nat.le_trans (by decide) hR.1, Nat.le_trans (by decide) hR.2⟩ tb_720 hv7 rfl (by decide) rfl hl.1 rfl (Nat.le_of_ble_eq_true rfl) ⟨Nat.zero_le _, Nat.zero_le _⟩ dX4_gives_27) (fun H locs dy => ?_)
        rcases of_brn hr with ⟨hc, hr⟩ | ⟨hc, hr⟩
        · refine lv_if_eq (tgt := 49) cx.1 cx.2.1 dX4_gives_30 (by decide) (fun _ => ?_) (fun hn => absurd hc hn)
          obtain ⟨x14, ex14, hr⟩ := of_nm hr
          refine lv_iinc (v := x14) (lv' := [(4, .int x14), (0, .ref (ad k1)), (1, .int x2), (2, .int x3), (3, .int x4)]) cx.1 cx.2.1 dX4_gives_49 hl (k := 4) rfl (by rw [ex14]; rfl) (by decide) rfl (fun ls hl => ?_)
          refine lv_goto (tgt := 3) cx.1 cx.2.1 dX4_gives_52 (by decide) ?_
          exact hh0 k1 x2 x3 x4 x14 g11 (Option.some.inj hr).symm H locs ls dy (lv_sub hl [1, 2, 3, 4, 0] rfl)
        · refine lv_if_eq (tgt := 49) cx.1 cx.2.1 dX4_gives_30 (by decide) (fun hn => absurd hn hc) (fun _ => ?_)
          refine lv_iload_n cx.1 cx.2.1 dX4_gives_33 rfl (lv_at hl 3 rfl) ?_
          rcases of_brn hr with ⟨hc, hr⟩ | ⟨hc, hr⟩
          · refine lv_if_ne (tgt := 47) cx.1 cx.2.1 dX4_gives_34 (by decide) (fun hn => absurd hc hn) (fun _ => ?_)
            refine lv_aload_n cx.1 cx.2.1 dX4_gives_37 rfl (lv_at hl 0 rfl) ?_
            obtain ⟨k15, hf16, hr⟩ := of_bnd hr
            refine h_getR cx fx dy fd_4_12 hv7 tb_291 hf16 dX4_gives_38 ?_
            refine lv_iload cx.1 cx.2.1 dX4_gives_41 (lv_at hl 4 rfl) ?_
            obtain ⟨ha17, hr⟩ := of_grd hr
            refine h_zald cx fx dy ha17 dX4_gives_43 ?_
            rcases of_brn hr with ⟨hc, hr⟩ | ⟨hc, hr⟩
            · refine lv_if_ne (tgt := 49) cx.1 cx.2.1 dX4_gives_44 (by decide) (fun hn => absurd hc hn) (fun _ => ?_)
              refine lv_iconst (v := 1) cx.1 cx.2.1 dX4_gives_47 (by decide) ?_
              obtain ⟨e0, e1⟩ := hq0 _ _ (Option.some.inj hr).symm
              exact h_iret cx dy hlocks hret rfl e0 (by rw [e1]) dX4_gives_48
            · refine lv_if_ne (tgt := 49) cx.1 cx.2.1 dX4_gives_44 (by decide) (fun _ => ?_) (fun hn => absurd hn hc)
              obtain ⟨x18, ex18, hr⟩ := of_nm hr
              refine lv_iinc (v := x18) (lv' := [(4, .int x18), (0, .ref (ad k1)), (1, .int x2), (2, .int x3), (3, .int x4)]) cx.1 cx.2.1 dX4_gives_49 hl (k := 4) rfl (by rw [ex18]; rfl) (by decide) rfl (fun ls hl => ?_)
              refine lv_goto (tgt := 3) cx.1 cx.2.1 dX4_gives_52 (by decide) ?_
              exact hh0 k1 x2 x3 x4 x18 g11 (Option.some.inj hr).symm H locs ls dy (lv_sub hl [1, 2, 3, 4, 0] rfl)
          · refine lv_if_ne (tgt := 47) cx.1 cx.2.1 dX4_gives_34 (by decide) (fun _ => ?_) (fun hn => absurd hn hc)
            refine lv_iconst (v := 1) cx.1 cx.2.1 dX4_gives_47 (by decide) ?_
            obtain ⟨e0, e1⟩ := hq0 _ _ (Option.some.inj hr).symm
            exact h_iret cx dy hlocks hret rfl e0 (by rw [e1]) dX4_gives_48
      · refine lv_icmp_ne (tgt := 49) cx.1 cx.2.1 dX4_gives_20 (by decide) (fun _ => ?_) (fun hn => absurd hn hc)
        obtain ⟨x19, ex19, hr⟩ := of_nm hr
        refine lv_iinc (v := x19) (lv' := [(4, .int x19), (0, .ref (ad k1)), (1, .int x2), (2, .int x3), (3, .int x4)]) cx.1 cx.2.1 dX4_gives_49 hl (k := 4) rfl (by rw [ex19]; rfl) (by decide) rfl (fun ls hl => ?_)
        refine lv_goto (tgt := 3) cx.1 cx.2.1 dX4_gives_52 (by decide) ?_
        exact hh0 k1 x2 x3 x4 x19 g6 (Option.some.inj hr).symm H locs ls dy (lv_sub hl [1, 2, 3, 4, 0] rfl)
noncomputable def r_X4_gives (V : Vk) (k0 : Nat) (a1 : Int32) (a2 : Int32) (a3 : Int32) (g : Hq) : Option (Int32 × Hq) :=
  (lop (r_X4_gives_3 V) (k0, a1, a2, a3, (0 : Int32), g))
set_option maxHeartbeats 4000000 in
set_option maxRecDepth 100000 in
theorem c_X4_gives {l : Launch} {D : va_G} {cA : Nat → ClassId} {sk : (Nat → Nat) × (Nat → Nat)} {ad : Nat → Nat} {A : Nat → Prop} {V : Vk} {k0 : Nat} {a1 : Int32} {a2 : Int32} {a3 : Int32} {g g0 : Hq} {r0 : Int32} (hr : r_X4_gives V k0 a1 a2 a3 g = some (r0, g0)) : Met l yX4_gives (wM yX4_gives cX4_gives 5 (some .boolean)) { frames := 1, cells := 0, slots := 0, locals := 22 } (Pre D cA sk ad (V, g) A [.ref (ad k0), .int a1, .int a2, .int a3]) (QI D cA ad A r0 (V, g0)) 0 0 A := by
  refine Met.ofW (cc := cX4_gives) (maxL := 5) (ret := (some .boolean)) (by decide) rfl ?_
  intro p e s m args below meth c s₁ B hml hv
  obtain ⟨rfl, fx, w0⟩ := hv
  have hts := atoms_spec (ws := wM yX4_gives cX4_gives 5 (some .boolean)) B.pre
  have cx : CallFix p m c cX4_gives 5 s ([.ref (ad k0), .int a1, .int a2, .int a3] : List Value).toArray gw_tbl RX4 := ⟨B.exec, B.bytes, hml, findClass_of_methodNamed B.named, fun w hw => hts w (List.mem_cons_of_mem _ hw)⟩
  have hlocks := B.notSynchronized
  have hret := B.returns
  have hR : 1 ≤ (headSpec (wM yX4_gives cX4_gives 5 (some .boolean)) { frames := 1, cells := 0, slots := 0, locals := 22 }).room.frames ∧ 22 ≤ (headSpec (wM yX4_gives cX4_gives 5 (some .boolean)) { frames := 1, cells := 0, slots := 0, locals := 22 }).room.locals := ⟨Nat.le_refl _, Nat.le_refl _⟩
  have dy : Dy D cA ad (V, g) A s.heap s.heap [] := ⟨w0, va_S.rf⟩
  have hl := lv_entry [.ref (ad k0), .int a1, .int a2, .int a3] (n := 5) (Nat.le_of_ble_eq_true rfl)
  rw [lg_entry_eq]
  generalize (lg_sl [.ref (ad k0), .int a1, .int a2, .int a3] ++ List.replicate (5 - (lg_sl [.ref (ad k0), .int a1, .int a2, .int a3]).length) Slot.unset).toArray = ls at hl ⊢
  have hl : lv_has ls 5 [(0, .ref (ad k0)), (1, .int a1), (2, .int a2), (3, .int a3)] := hl
  have dy0 : ∃ H0, H0 = s.heap ∧ Dy D cA ad (V, g) A s.heap H0 [] := ⟨_, rfl, dy⟩
  obtain ⟨z, ez⟩ : ∃ z, z = (r0, g0) := ⟨_, rfl⟩
  rw [← ez] at hr
  have hq0 : ∀ (rb : Int32) (gb : Hq), z = (rb, gb) → rb = r0 ∧ gb = g0 := fun rb gb eb => by rw [ez] at eb; exact ⟨(congrArg Prod.fst eb).symm, (congrArg Prod.snd eb).symm⟩
  clear ez w0 dy0
  unfold r_X4_gives at hr
  obtain ⟨H, hH⟩ : ∃ H, H = s.heap := ⟨_, rfl⟩
  obtain ⟨locs, hlo⟩ : ∃ q : List Loc, q = [] := ⟨_, rfl⟩
  have dy : Dy D cA ad (V, g) A s.heap H locs := by rw [hH, hlo]; exact dy
  suffices K : W p l e (headSpec (wM yX4_gives cX4_gives 5 (some .boolean)) { frames := 1, cells := 0, slots := 0, locals := 22 }).room s m ([.ref (ad k0), .int a1, .int a2, .int a3] : List Value).toArray below meth c H locs 0 0 (MQ below (QI D cA ad A r0 (V, g0)) ([.ref (ad k0), .int a1, .int a2, .int a3] : List Value).toArray s 0 0 A) (F0 m 0 ls []) by rw [hH, hlo] at K; exact K
  clear hH hlo
  refine lv_iconst (v := 0) cx.1 cx.2.1 dX4_gives_0 (by decide) ?_
  refine lv_istore (lv' := [(4, .int (0 : Int32)), (0, .ref (ad k0)), (1, .int a1), (2, .int a2), (3, .int a3)]) cx.1 cx.2.1 dX4_gives_1 hl (by decide) rfl (fun ls hl => ?_)
  obtain ⟨n, hr⟩ := lop_some hr
  exact w_X4_gives_3 cx fx hlocks hret hR r0 g0 z hq0 n k0 a1 a2 a3 (0 : Int32) g hr H locs ls dy (lv_sub hl [1, 2, 3, 4, 0] rfl)
noncomputable def r_X4_letFollow (V : Vk) (k0 : Nat) (a1 : Int32) (g : Hq) : Option (Int32 × Hq) :=
  grd (V k0 = some (4, 0)) <| brn ((g.1 k0 5) = (-1 : Int32)) (some ((0 : Int32), g)) (brn (a1 = 0) (brn ((g.1 k0 6) = 0) (some ((1 : Int32), g)) (some ((0 : Int32), g))) (some ((1 : Int32), g)))
set_option maxHeartbeats 4000000 in
set_option maxRecDepth 100000 in
theorem c_X4_letFollow {l : Launch} {D : va_G} {cA : Nat → ClassId} {sk : (Nat → Nat) × (Nat → Nat)} {ad : Nat → Nat} {A : Nat → Prop} {V : Vk} {k0 : Nat} {a1 : Int32} {g g0 : Hq} {r0 : Int32} (hr : r_X4_letFollow V k0 a1 g = some (r0, g0)) : Met l yX4_letFollow (wM yX4_letFollow cX4_letFollow 2 (some .boolean)) { frames := 0, cells := 0, slots := 0, locals := 0 } (Pre D cA sk ad (V, g) A [.ref (ad k0), .int a1]) (QI D cA ad A r0 (V, g0)) 0 0 A := by
  refine Met.ofW (cc := cX4_letFollow) (maxL := 2) (ret := (some .boolean)) (by decide) rfl ?_
  intro p e s m args below meth c s₁ B hml hv
  obtain ⟨rfl, fx, w0⟩ := hv
  have hts := atoms_spec (ws := wM yX4_letFollow cX4_letFollow 2 (some .boolean)) B.pre
  have cx : CallFix p m c cX4_letFollow 2 s ([.ref (ad k0), .int a1] : List Value).toArray gw_tbl RX4 := ⟨B.exec, B.bytes, hml, findClass_of_methodNamed B.named, fun w hw => hts w (List.mem_cons_of_mem _ hw)⟩
  have hlocks := B.notSynchronized
  have hret := B.returns
  have hR : 0 ≤ (headSpec (wM yX4_letFollow cX4_letFollow 2 (some .boolean)) { frames := 0, cells := 0, slots := 0, locals := 0 }).room.frames ∧ 0 ≤ (headSpec (wM yX4_letFollow cX4_letFollow 2 (some .boolean)) { frames := 0, cells := 0, slots := 0, locals := 0 }).room.locals := ⟨Nat.le_refl _, Nat.le_refl _⟩
  have dy : Dy D cA ad (V, g) A s.heap s.heap [] := ⟨w0, va_S.rf⟩
  have hl := lv_entry [.ref (ad k0), .int a1] (n := 2) (Nat.le_of_ble_eq_true rfl)
  rw [lg_entry_eq]
  generalize (lg_sl [.ref (ad k0), .int a1] ++ List.replicate (2 - (lg_sl [.ref (ad k0), .int a1]).length) Slot.unset).toArray = ls at hl ⊢
  have hl : lv_has ls 2 [(0, .ref (ad k0)), (1, .int a1)] := hl
  have dy0 : ∃ H0, H0 = s.heap ∧ Dy D cA ad (V, g) A s.heap H0 [] := ⟨_, rfl, dy⟩
  obtain ⟨z, ez⟩ : ∃ z, z = (r0, g0) := ⟨_, rfl⟩
  rw [← ez] at hr
  have hq0 : ∀ (rb : Int32) (gb : Hq), z = (rb, gb) → rb = r0 ∧ gb = g0 := fun rb gb eb => by rw [ez] at eb; exact ⟨(congrArg Prod.fst eb).symm, (congrArg Prod.snd eb).symm⟩
  clear ez w0 dy0
  unfold r_X4_letFollow at hr
  obtain ⟨H, hH⟩ : ∃ H, H = s.heap := ⟨_, rfl⟩
  obtain ⟨locs, hlo⟩ : ∃ q : List Loc, q = [] := ⟨_, rfl⟩
  have dy : Dy D cA ad (V, g) A s.heap H locs := by rw [hH, hlo]; exact dy
  suffices K : W p l e (headSpec (wM yX4_letFollow cX4_letFollow 2 (some .boolean)) { frames := 0, cells := 0, slots := 0, locals := 0 }).room s m ([.ref (ad k0), .int a1] : List Value).toArray below meth c H locs 0 0 (MQ below (QI D cA ad A r0 (V, g0)) ([.ref (ad k0), .int a1] : List Value).toArray s 0 0 A) (F0 m 0 ls []) by rw [hH, hlo] at K; exact K
  clear hH hlo
  refine lv_aload_n cx.1 cx.2.1 dX4_letFollow_0 rfl (lv_at hl 0 rfl) ?_
  obtain ⟨hv1, hr⟩ := of_grd hr
  refine h_getI cx fx dy fd_4_5 hv1 tb_279 dX4_letFollow_1 ?_
  refine lv_iconst (v := (-1)) cx.1 cx.2.1 dX4_letFollow_4 (by decide) ?_
  rcases of_brn hr with ⟨hc, hr⟩ | ⟨hc, hr⟩
  · refine lv_icmp_eq (tgt := 23) cx.1 cx.2.1 dX4_letFollow_5 (by decide) (fun _ => ?_) (fun hn => absurd hc hn)
    refine lv_iconst (v := 0) cx.1 cx.2.1 dX4_letFollow_23 (by decide) ?_
    obtain ⟨e0, e1⟩ := hq0 _ _ (Option.some.inj hr).symm
    exact h_iret cx dy hlocks hret rfl e0 (by rw [e1]) dX4_letFollow_24
  · refine lv_icmp_eq (tgt := 23) cx.1 cx.2.1 dX4_letFollow_5 (by decide) (fun hn => absurd hn hc) (fun _ => ?_)
    refine lv_iload_n cx.1 cx.2.1 dX4_letFollow_8 rfl (lv_at hl 1 rfl) ?_
    rcases of_brn hr with ⟨hc, hr⟩ | ⟨hc, hr⟩
    · refine lv_if_ne (tgt := 19) cx.1 cx.2.1 dX4_letFollow_9 (by decide) (fun hn => absurd hc hn) (fun _ => ?_)
      refine lv_aload_n cx.1 cx.2.1 dX4_letFollow_12 rfl (lv_at hl 0 rfl) ?_
      refine h_getI cx fx dy fd_4_6 hv1 tb_282 dX4_letFollow_13 ?_
      rcases of_brn hr with ⟨hc, hr⟩ | ⟨hc, hr⟩
      · refine lv_if_ne (tgt := 23) cx.1 cx.2.1 dX4_letFollow_16 (by decide) (fun hn => absurd hc hn) (fun _ => ?_)
        refine lv_iconst (v := 1) cx.1 cx.2.1 dX4_letFollow_19 (by decide) ?_
        refine lv_goto (tgt := 24) cx.1 cx.2.1 dX4_letFollow_20 (by decide) ?_
        obtain ⟨e0, e1⟩ := hq0 _ _ (Option.some.inj hr).symm
        exact h_iret cx dy hlocks hret rfl e0 (by rw [e1]) dX4_letFollow_24
      · refine lv_if_ne (tgt := 23) cx.1 cx.2.1 dX4_letFollow_16 (by decide) (fun _ => ?_) (fun hn => absurd hn hc)
        refine lv_iconst (v := 0) cx.1 cx.2.1 dX4_letFollow_23 (by decide) ?_
        obtain ⟨e0, e1⟩ := hq0 _ _ (Option.some.inj hr).symm
        exact h_iret cx dy hlocks hret rfl e0 (by rw [e1]) dX4_letFollow_24
    · refine lv_if_ne (tgt := 19) cx.1 cx.2.1 dX4_letFollow_9 (by decide) (fun _ => ?_) (fun hn => absurd hn hc)
      refine lv_iconst (v := 1) cx.1 cx.2.1 dX4_letFollow_19 (by decide) ?_
      refine lv_goto (tgt := 24) cx.1 cx.2.1 dX4_letFollow_20 (by decide) ?_
      obtain ⟨e0, e1⟩ := hq0 _ _ (Option.some.inj hr).symm
      exact h_iret cx dy hlocks hret rfl e0 (by rw [e1]) dX4_letFollow_24
