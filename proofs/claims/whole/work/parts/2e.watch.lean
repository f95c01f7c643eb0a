noncomputable def r_X11_feed (V : Vk) (k0 : Nat) (a1 : Int32) (a2 : Int32) (a3 : Int32) (a4 : Int32) (a5 : Int32) (g : Hq) : Option (Int32 × Hq) :=
  grd (V k0 = some (11, 0)) <| Option.bind (g.2.2 k0 0) fun k2 => grd (V k2 = some (8, 0)) <| bnd (r_X8_hasRoomFor V k2 (20 : Int32) g) fun x5 g4 => brn (x5 = 0) (some ((-3 : Int32), g4)) (Option.bind (g4.2.2 k0 0) fun k8 => grd (V k8 = some (8, 0)) <| bnd (r_X8_append V k8 a1 g4) fun u11 g10 => Option.bind (g10.2.2 k0 0) fun k14 => grd (V k14 = some (8, 0)) <| bnd (r_X8_append V k14 a2 g10) fun u17 g16 => Option.bind (g16.2.2 k0 0) fun k20 => grd (V k20 = some (8, 0)) <| bnd (r_X8_append V k20 a3 g16) fun u23 g22 => Option.bind (g22.2.2 k0 0) fun k26 => grd (V k26 = some (8, 0)) <| bnd (r_X8_append V k26 a4 g22) fun u29 g28 => Option.bind (g28.2.2 k0 0) fun k32 => grd (V k32 = some (8, 0)) <| bnd (r_X8_append V k32 a5 g28) fun u35 g34 => Option.bind (g34.2.2 k0 0) fun k38 => grd (V k38 = some (8, 0)) <| bnd (r_X8_length V k38 g34) fun x41 g40 => some (x41, g40))
set_option maxHeartbeats 4000000 in
set_option maxRecDepth 100000 in
theorem c_X11_feed {l : Launch} {D : va_G} {cA : Nat → ClassId} {sk : (Nat → Nat) × (Nat → Nat)} {ad : Nat → Nat} {A : Nat → Prop} {V : Vk} {k0 : Nat} {a1 : Int32} {a2 : Int32} {a3 : Int32} {a4 : Int32} {a5 : Int32} {g g0 : Hq} {r0 : Int32} (hr : r_X11_feed V k0 a1 a2 a3 a4 a5 g = some (r0, g0)) : Met l yX11_feed (wM yX11_feed cX11_feed 6 (some .int)) { frames := 1, cells := 0, slots := 0, locals := 22 } (Pre D cA sk ad (V, g) A [.ref (ad k0), .int a1, .int a2, .int a3, .int a4, .int a5]) (QI D cA ad A r0 (V, g0)) 0 0 A := by
  refine Met.ofW (cc := cX11_feed) (maxL := 6) (ret := (some .int)) (by decide) rfl ?_
  intro p e s m args below meth c s₁ B hml hv
  obtain ⟨rfl, fx, w0⟩ := hv
  have hts := atoms_spec (ws := wM yX11_feed cX11_feed 6 (some .int)) B.pre
  have cx : CallFix p m c cX11_feed 6 s ([.ref (ad k0), .int a1, .int a2, .int a3, .int a4, .int a5] : List Value).toArray gw_tbl RX11 := ⟨B.exec, B.bytes, hml, findClass_of_methodNamed B.named, fun w hw => hts w (List.mem_cons_of_mem _ hw)⟩
  have hlocks := B.notSynchronized
  have hret := B.returns
  have hR : 1 ≤ (headSpec (wM yX11_feed cX11_feed 6 (some .int)) { frames := 1, cells := 0, slots := 0, locals := 22 }).room.frames ∧ 22 ≤ (headSpec (wM yX11_feed cX11_feed 6 (some .int)) { frames := 1, cells := 0, slots := 0, locals := 22 }).room.locals := ⟨Nat.le_refl _, Nat.le_refl _⟩
  have dy : Dy D cA ad (V, g) A s.heap s.heap [] := ⟨w0, va_S.rf⟩
  have hl := lv_entry [.ref (ad k0), .int a1, .int a2, .int a3, .int a4, .int a5] (n := 6) (Nat.le_of_ble_eq_true rfl)
  rw [lg_entry_eq]
  generalize (lg_sl [.ref (ad k0), .int a1, .int a2, .int a3, .int a4, .int a5] ++ List.replicate (6 - (lg_sl [.ref (ad k0), .int a1, .int a2, .int a3, .int a4, .int a5]).length) Slot.unset).toArray = ls at hl ⊢
  have hl : lv_has ls 6 [(0, .ref (ad k0)), (1, .int a1), (2, .int a2), (3, .int a3), (4, .int a4), (5, .int a5)] := hl
  have dy0 : ∃ H0, H0 = s.heap ∧ Dy D cA ad (V, g) A s.heap H0 [] := ⟨_, rfl, dy⟩
  obtain ⟨z, ez⟩ : ∃ z, z = (r0, g0) := ⟨_, rfl⟩
  rw [← ez] at hr
  have hq0 : ∀ (rb : Int32) (gb : Hq), z = (rb, gb) → rb = r0 ∧ gb = g0 := fun rb gb eb => by rw [ez] at eb; exact ⟨(congrArg Prod.fst eb).symm, (congrArg Prod.snd eb).symm⟩
  clear ez w0 dy0
  unfold r_X11_feed at hr
  obtain ⟨H, hH⟩ : ∃ H, H = s.heap := ⟨_, rfl⟩
  obtain ⟨locs, hlo⟩ : ∃ q : List Loc, q = [] := ⟨_, rfl⟩
  have dy : Dy D cA ad (V, g) A s.heap H locs := by rw [hH, hlo]; exact dy
  suffices K : W p l e (headSpec (wM yX11_feed cX11_feed 6 (some .int)) { frames := 1, cells := 0, slots := 0, locals := 22 }).room s m ([.ref (ad k0), .int a1, .int a2, .int a3, .int a4, .int a5] : List Value).toArray below meth c H locs 0 0 (MQ below (QI D cA ad A r0 (V, g0)) ([.ref (ad k0), .int a1, .int a2, .int a3, .int a4, .int a5] : List Value).toArray s 0 0 A) (F0 m 0 ls []) by rw [hH, hlo] at K; exact K
  clear hH hlo
  refine lv_aload_n cx.1 cx.2.1 dX11_feed_0 rfl (lv_at hl 0 rfl) ?_
  obtain ⟨hv1, hr⟩ := of_grd hr
  obtain ⟨k2, hf3, hr⟩ := of_bnd hr
  refine h_getR cx fx dy fd_11_0 hv1 tb_365 hf3 dX11_feed_1 ?_
  refine lv_bipush (v := 20) cx.1 cx.2.1 dX11_feed_4 (by decide) ?_
  obtain ⟨hv6, hr⟩ := of_grd hr
  obtain ⟨x5, g4, hc7, hr⟩ := of_bnd2 hr
  refine r_i dy (k_V (As := [.int (20 : Int32)]) (b := k2) (ci := 8) cx fx dy (c_X8_hasRoomFor hc7) mv_X8_hasRoomFor rfl rfl ⟨Nat.le_trans (by decide) hR.1, Nat.le_trans (by decide) hR.2⟩ tb_397 hv6 rfl (by decide) rfl hl.1 rfl (Nat.le_of_ble_eq_true rfl) ⟨Nat.zero_le _, Nat.zero_le _⟩ dX11_feed_6) (fun H locs dy => ?_)
  rcases of_brn hr with ⟨hc, hr⟩ | ⟨hc, hr⟩
  · refine lv_if_ne (tgt := 15) cx.1 cx.2.1 dX11_feed_9 (by decide) (fun hn => absurd hc hn) (fun _ => ?_)
    refine lv_bipush (v := (-3)) cx.1 cx.2.1 dX11_feed_12 (by decide) ?_
    obtain ⟨e0, e1⟩ := hq0 _ _ (Option.some.inj hr).symm
    exact h_iret cx dy hlocks hret rfl e0 (by rw [e1]) dX11_feed_14
  · refine lv_if_ne (tgt := 15) cx.1 cx.2.1 dX11_feed_9 (by decide) (fun _ => ?_) (fun hn => absurd hn hc)
    refine lv_aload_n cx.1 cx.2.1 dX11_feed_15 rfl (lv_at hl 0 rfl) ?_
    obtain ⟨k8, hf9, hr⟩ := of_bnd hr
    refine h_getR cx fx dy fd_11_0 hv1 tb_365 hf9 dX11_feed_16 ?_
    refine lv_iload_n cx.1 cx.2.1 dX11_feed_19 rfl (lv_at hl 1 rfl) ?_
    obtain ⟨hv12, hr⟩ := of_grd hr
    obtain ⟨u11, g10, hc13, hr⟩ := of_bnd2 hr
    refine r_v dy (k_V (As := [.int a1]) (b := k8) (ci := 8) cx fx dy (c_X8_append hc13) mv_X8_append rfl rfl ⟨Nat.le_trans (by decide) hR.1, Nat.le_trans (by decide) hR.2⟩ tb_401 hv12 rfl (by decide) rfl hl.1 rfl (Nat.le_of_ble_eq_true rfl) ⟨Nat.zero_le _, Nat.zero_le _⟩ dX11_feed_20) (fun H locs dy => ?_)
    refine lv_aload_n cx.1 cx.2.1 dX11_feed_23 rfl (lv_at hl 0 rfl) ?_
    obtain ⟨k14, hf15, hr⟩ := of_bnd hr
    refine h_getR cx fx dy fd_11_0 hv1 tb_365 hf15 dX11_feed_24 ?_
    refine lv_iload_n cx.1 cx.2.1 dX11_feed_27 rfl (lv_at hl 2 rfl) ?_
    obtain ⟨hv18, hr⟩ := of_grd hr
    obtain ⟨u17, g16, hc19, hr⟩ := of_bnd2 hr
    refine r_v dy (k_V (As := [.int a2]) (b := k14) (ci := 8) cx fx dy (c_X8_append hc19) mv_X8_append rfl rfl ⟨Nat.le_trans (by decide) hR.1, Nat.le_trans (by decide) hR.2⟩ tb_401 hv18 rfl (by decide) rfl hl.1 rfl (Nat.le_of_ble_eq_true rfl) ⟨Nat.zero_le _, Nat.zero_le _⟩ dX11_feed_28) (fun H locs dy => ?_)
    refine lv_aload_n cx.1 cx.2.1 dX11_feed_31 rfl (lv_at hl 0 rfl) ?_
    obtain ⟨k20, hf21, hr⟩ := of_bnd hr
    refine h_getR cx fx dy fd_11_0 hv1 tb_365 hf21 dX11_feed_32 ?_
    refine lv_iload_n cx.1 cx.2.1 dX11_feed_35 rfl (lv_at hl 3 rfl) ?_
    obtain ⟨hv24, hr⟩ := of_grd hr
    obtain ⟨u23, g22, hc25, hr⟩ := of_bnd2 hr
    refine r_v dy (k_V (As := [.int a3]) (b := k20) (ci := 8) cx fx dy (c_X8_append hc25) mv_X8_append rfl rfl ⟨Nat.le_trans (by decide) hR.1, Nat.le_trans (by decide) hR.2⟩ tb_401 hv24 rfl (by decide) rfl hl.1 rfl (Nat.le_of_ble_eq_true rfl) ⟨Nat.zero_le _, Nat.zero_le _⟩ dX11_feed_36) (fun H locs dy => ?_)
    refine lv_aload_n cx.1 cx.2.1 dX11_feed_39 rfl (lv_at hl 0 rfl) ?_
    obtain ⟨k26, hf27, hr⟩ := of_bnd hr
    refine h_getR cx fx dy fd_11_0 hv1 tb_365 hf27 dX11_feed_40 ?_
    refine lv_iload cx.1 cx.2.1 dX11_feed_43 (lv_at hl 4 rfl) ?_
    obtain ⟨hv30, hr⟩ := of_grd hr
    obtain ⟨u29, g28, hc31, hr⟩ := of_bnd2 hr
    refine r_v dy (k_V (As := [.int a4]) (b := k26) (ci := 8) cx fx dy (c_X8_append hc31) mv_X8_append rfl rfl ⟨Nat.le_trans (by decide) hR.1, Nat.le_trans (by decide) hR.2⟩ tb_401 hv30 rfl (by decide) rfl hl.1 rfl (Nat.le_of_ble_eq_true rfl) ⟨Nat.zero_le _, Nat.zero_le _⟩ dX11_feed_45) (fun H locs dy => ?_)
    refine lv_aload_n cx.1 cx.2.1 dX11_feed_48 rfl (lv_at hl 0 rfl) ?_
    obtain ⟨k32, hf33, hr⟩ := of_bnd hr
    refine h_getR cx fx dy fd_11_0 hv1 tb_365 hf33 dX11_feed_49 ?_
    refine lv_iload cx.1 cx.2.1 dX11_feed_52 (lv_at hl 5 rfl) ?_
    obtain ⟨hv36, hr⟩ := of_grd hr
    obtain ⟨u35, g34, hc37, hr⟩ := of_bnd2 hr
    refine r_v dy (k_V (As := [.int a5]) (b := k32) (ci := 8) cx fx dy (c_X8_append hc37) mv_X8_append rfl rfl ⟨Nat.le_trans (by decide) hR.1, Nat.le_trans (by decide) hR.2⟩ tb_401 hv36 rfl (by decide) rfl hl.1 rfl (Nat.le_of_ble_eq_true rfl) ⟨Nat.zero_le _, Nat.zero_le _⟩ dX11_feed_54) (fun H locs dy => ?_)
    refine lv_aload_n cx.1 cx.2.1 dX11_feed_57 rfl (lv_at hl 0 rfl) ?_
    obtain ⟨k38, hf39, hr⟩ := of_bnd hr
    refine h_getR cx fx dy fd_11_0 hv1 tb_365 hf39 dX11_feed_58 ?_
    obtain ⟨hv42, hr⟩ := of_grd hr
    obtain ⟨x41, g40, hc43, hr⟩ := of_bnd2 hr
    refine r_i dy (k_V (As := []) (b := k38) (ci := 8) cx fx dy (c_X8_length hc43) mv_X8_length rfl rfl ⟨Nat.le_trans (by decide) hR.1, Nat.le_trans (by decide) hR.2⟩ tb_405 hv42 rfl (by decide) rfl hl.1 rfl (Nat.le_of_ble_eq_true rfl) ⟨Nat.zero_le _, Nat.zero_le _⟩ dX11_feed_61) (fun H locs dy => ?_)
    obtain ⟨e0, e1⟩ := hq0 _ _ (Option.some.inj hr).symm
    exact h_iret cx dy hlocks hret rfl e0 (by rw [e1]) dX11_feed_64
noncomputable def r_X11_end (V : Vk) (k0 : Nat) (a1 : Int32) (g : Hq) : Option (Int32 × Hq) :=
  brn (a1 < 0) (some ((-1 : Int32), g)) (grd (V k0 = some (11, 0)) <| Option.bind (g.2.2 k0 0) fun k2 => grd (V k2 = some (8, 0)) <| bnd (r_X8_length V k2 g) fun x5 g4 => brn (a1 ≤ x5) (Option.bind (g4.2.2 k0 0) fun k8 => grd (V k8 = some (8, 0)) <| bnd (r_X8_cut V k8 a1 g4) fun u11 g10 => some (a1, g10)) (some ((-1 : Int32), g4)))
set_option maxHeartbeats 4000000 in
set_option maxRecDepth 100000 in
theorem c_X11_end {l : Launch} {D : va_G} {cA : Nat → ClassId} {sk : (Nat → Nat) × (Nat → Nat)} {ad : Nat → Nat} {A : Nat → Prop} {V : Vk} {k0 : Nat} {a1 : Int32} {g g0 : Hq} {r0 : Int32} (hr : r_X11_end V k0 a1 g = some (r0, g0)) : Met l yX11_end (wM yX11_end cX11_end 2 (some .int)) { frames := 1, cells := 0, slots := 0, locals := 21 } (Pre D cA sk ad (V, g) A [.ref (ad k0), .int a1]) (QI D cA ad A r0 (V, g0)) 0 0 A := by
  refine Met.ofW (cc := cX11_end) (maxL := 2) (ret := (some .int)) (by decide) rfl ?_
  intro p e s m args below meth c s₁ B hml hv
  obtain ⟨rfl, fx, w0⟩ := hv
  have hts := atoms_spec (ws := wM yX11_end cX11_end 2 (some .int)) B.pre
  have cx : CallFix p m c cX11_end 2 s ([.ref (ad k0), .int a1] : List Value).toArray gw_tbl RX11 := ⟨B.exec, B.bytes, hml, findClass_of_methodNamed B.named, fun w hw => hts w (List.mem_cons_of_mem _ hw)⟩
  have hlocks := B.notSynchronized
  have hret := B.returns
  have hR : 1 ≤ (headSpec (wM yX11_end cX11_end 2 (some .int)) { frames := 1, cells := 0, slots := 0, locals := 21 }).room.frames ∧ 21 ≤ (headSpec (wM yX11_end cX11_end 2 (some .int)) { frames := 1, cells := 0, slots := 0, locals := 21 }).room.locals := ⟨Nat.le_refl _, Nat.le_refl _⟩
  have dy : Dy D cA ad (V, g) A s.heap s.heap [] := ⟨w0, va_S.rf⟩
  have hl := lv_entry [.ref (ad k0), .int a1] (n := 2) (Nat.le_of_ble_eq_true rfl)
  rw [lg_entry_eq]
  generalize (lg_sl [.ref (ad k0), .int a1] ++ List.replicate (2 - (lg_sl [.ref (ad k0), .int a1]).length) Slot.unset).toArray = ls at hl ⊢
  have hl : lv_has ls 2 [(0, .ref (ad k0)), (1, .int a1)] := hl
  have dy0 : ∃ H0, H0 = s.heap ∧ Dy D cA ad (V, g) A s.heap H0 [] := ⟨_, rfl, dy⟩
  obtain ⟨z, ez⟩ : ∃ z, z = (r0, g0) := ⟨_, rfl⟩
  rw [← ez] at hr
  have hq0 : ∀ (rb : Int32) (gb : Hq), z = (rb, gb) → rb = r0 ∧ gb = g0 := fun rb gb eb => by rw [ez] at eb; exact ⟨(congrArg Prod.fst eb).symm, (congrArg Prod.snd eb).symm⟩
  clear ez w0 dy0
  unfold r_X11_end at hr
  obtain ⟨H, hH⟩ : ∃ H, H = s.heap := ⟨_, rfl⟩
  obtain ⟨locs, hlo⟩ : ∃ q : List Loc, q = [] := ⟨_, rfl⟩
  have dy : Dy D cA ad (V, g) A s.heap H locs := by rw [hH, hlo]; exact dy
  suffices K : W p l e (headSpec (wM yX11_end cX11_end 2 (some .int)) { frames := 1, cells := 0, slots := 0, locals := 21 }).room s m ([.ref (ad k0), .int a1] : List Value).toArray below meth c H locs 0 0 (MQ below (QI D cA ad A r0 (V, g0)) ([.ref (ad k0), .int a1] : List Value).toArray s 0 0 A) (F0 m 0 ls []) by rw [hH, hlo] at K; exact K
  clear hH hlo
  refine lv_iload_n cx.1 cx.2.1 dX11_end_0 rfl (lv_at hl 1 rfl) ?_
  rcases of_brn hr with ⟨hc, hr⟩ | ⟨hc, hr⟩
  · refine lv_if_lt (tgt := 15) cx.1 cx.2.1 dX11_end_1 (by decide) (fun _ => ?_) (fun hn => absurd hc hn)
    refine lv_iconst (v := (-1)) cx.1 cx.2.1 dX11_end_15 (by decide) ?_
    obtain ⟨e0, e1⟩ := hq0 _ _ (Option.some.inj hr).symm
    exact h_iret cx dy hlocks hret rfl e0 (by rw [e1]) dX11_end_16
  · refine lv_if_lt (tgt := 15) cx.1 cx.2.1 dX11_end_1 (by decide) (fun hn => absurd hn hc) (fun _ => ?_)
    refine lv_iload_n cx.1 cx.2.1 dX11_end_4 rfl (lv_at hl 1 rfl) ?_
    refine lv_aload_n cx.1 cx.2.1 dX11_end_5 rfl (lv_at hl 0 rfl) ?_
    obtain ⟨hv1, hr⟩ := of_grd hr
    obtain ⟨k2, hf3, hr⟩ := of_bnd hr
    refine h_getR cx fx dy fd_11_0 hv1 tb_365 hf3 dX11_end_6 ?_
    obtain ⟨hv6, hr⟩ := of_grd hr
    obtain ⟨x5, g4, hc7, hr⟩ := of_bnd2 hr
    refine r_i dy (k_V (As := []) (b := k2) (ci := 8) cx fx dy (c_X8_length hc7) mv_X8_length rfl rfl ⟨Nat.le_trans (by decide) hR.1, Nat.le_trans (by decide) hR.2⟩ tb_405 hv6 rfl (by decide) rfl hl.1 rfl (Nat.le_of_ble_eq_true rfl) ⟨Nat.zero_le _, Nat.zero_le _⟩ dX11_end_9) (fun H locs dy => ?_)
    rcases of_brn hr with ⟨hc, hr⟩ | ⟨hc, hr⟩
    · refine lv_icmp_le (tgt := 17) cx.1 cx.2.1 dX11_end_12 (by decide) (fun _ => ?_) (fun hn => absurd hc hn)
      refine lv_aload_n cx.1 cx.2.1 dX11_end_17 rfl (lv_at hl 0 rfl) ?_
      obtain ⟨k8, hf9, hr⟩ := of_bnd hr
      refine h_getR cx fx dy fd_11_0 hv1 tb_365 hf9 dX11_end_18 ?_
      refine lv_iload_n cx.1 cx.2.1 dX11_end_21 rfl (lv_at hl 1 rfl) ?_
      obtain ⟨hv12, hr⟩ := of_grd hr
      obtain ⟨u11, g10, hc13, hr⟩ := of_bnd2 hr
      refine r_v dy (k_V (As := [.int a1]) (b := k8) (ci := 8) cx fx dy (c_X8_cut hc13) mv_X8_cut rfl rfl ⟨Nat.le_trans (by decide) hR.1, Nat.le_trans (by decide) hR.2⟩ tb_413 hv12 rfl (by decide) rfl hl.1 rfl (Nat.le_of_ble_eq_true rfl) ⟨Nat.zero_le _, Nat.zero_le _⟩ dX11_end_22) (fun H locs dy => ?_)
      refine lv_iload_n cx.1 cx.2.1 dX11_end_25 rfl (lv_at hl 1 rfl) ?_
      obtain ⟨e0, e1⟩ := hq0 _ _ (Option.some.inj hr).symm
      exact h_iret cx dy hlocks hret rfl e0 (by rw [e1]) dX11_end_26
    · refine lv_icmp_le (tgt := 17) cx.1 cx.2.1 dX11_end_12 (by decide) (fun hn => absurd hn hc) (fun _ => ?_)
      refine lv_iconst (v := (-1)) cx.1 cx.2.1 dX11_end_15 (by decide) ?_
      obtain ⟨e0, e1⟩ := hq0 _ _ (Option.some.inj hr).symm
      exact h_iret cx dy hlocks hret rfl e0 (by rw [e1]) dX11_end_16
noncomputable def r_X11_court (V : Vk) (k0 : Nat) (a1 : Int32) (a2 : Int32) (a3 : Int32) (g : Hq) : Option (Int32 × Hq) :=
  bnd (r_X11_isCourt V a1 g) fun x2 g1 => brn (x2 = 0) (some ((-2 : Int32), g1)) (bnd (r_X11_isWard V a2 g1) fun x5 g4 => brn (x5 = 0) (some ((-2 : Int32), g4)) (bnd (r_X11_isFrom V a3 (1 : Int32) (999 : Int32) g4) fun x8 g7 => brn (x8 = 0) (some ((-2 : Int32), g7)) (grd (V k0 = some (11, 0)) <| Option.bind (g7.2.2 k0 1) fun k11 => grd (V k11 = some (9, 0)) <| bnd (r_X9_place V k11 a1 a2 a3 g7) fun u14 g13 => some ((1 : Int32), g13))))
set_option maxHeartbeats 4000000 in
set_option maxRecDepth 100000 in
theorem c_X11_court {l : Launch} {D : va_G} {cA : Nat → ClassId} {sk : (Nat → Nat) × (Nat → Nat)} {ad : Nat → Nat} {A : Nat → Prop} {V : Vk} {k0 : Nat} {a1 : Int32} {a2 : Int32} {a3 : Int32} {g g0 : Hq} {r0 : Int32} (hr : r_X11_court V k0 a1 a2 a3 g = some (r0, g0)) : Met l yX11_court (wM yX11_court cX11_court 4 (some .int)) { frames := 2, cells := 0, slots := 0, locals := 42 } (Pre D cA sk ad (V, g) A [.ref (ad k0), .int a1, .int a2, .int a3]) (QI D cA ad A r0 (V, g0)) 0 0 A := by
  refine Met.ofW (cc := cX11_court) (maxL := 4) (ret := (some .int)) (by decide) rfl ?_
  intro p e s m args below meth c s₁ B hml hv
  obtain ⟨rfl, fx, w0⟩ := hv
  have hts := atoms_spec (ws := wM yX11_court cX11_court 4 (some .int)) B.pre
  have cx : CallFix p m c cX11_court 4 s ([.ref (ad k0), .int a1, .int a2, .int a3] : List Value).toArray gw_tbl RX11 := ⟨B.exec, B.bytes, hml, findClass_of_methodNamed B.named, fun w hw => hts w (List.mem_cons_of_mem _ hw)⟩
  have hlocks := B.notSynchronized
  have hret := B.returns
  have hR : 2 ≤ (headSpec (wM yX11_court cX11_court 4 (some .int)) { frames := 2, cells := 0, slots := 0, locals := 42 }).room.frames ∧ 42 ≤ (headSpec (wM yX11_court cX11_court 4 (some .int)) { frames := 2, cells := 0, slots := 0, locals := 42 }).room.locals := ⟨Nat.le_refl _, Nat.le_refl _⟩
  have dy : Dy D cA ad (V, g) A s.heap s.heap [] := ⟨w0, va_S.rf⟩
  have hl := lv_entry [.ref (ad k0), .int a1, .int a2, .int a3] (n := 4) (Nat.le_of_ble_eq_true rfl)
  rw [lg_entry_eq]
  generalize (lg_sl [.ref (ad k0), .int a1, .int a2, .int a3] ++ List.replicate (4 - (lg_sl [.ref (ad k0), .int a1, .int a2, .int a3]).length) Slot.unset).toArray = ls at hl ⊢
  have hl : lv_has ls 4 [(0, .ref (ad k0)), (1, .int a1), (2, .int a2), (3, .int a3)] := hl
  have dy0 : ∃ H0, H0 = s.heap ∧ Dy D cA ad (V, g) A s.heap H0 [] := ⟨_, rfl, dy⟩
  obtain ⟨z, ez⟩ : ∃ z, z = (r0, g0) := ⟨_, rfl⟩
  rw [← ez] at hr
  have hq0 : ∀ (rb : Int32) (gb : Hq), z = (rb, gb) → rb = r0 ∧ gb = g0 := fun rb gb eb => by rw [ez] at eb; exact ⟨(congrArg Prod.fst eb).symm, (congrArg Prod.snd eb).symm⟩
  clear ez w0 dy0
  unfold r_X11_court at hr
  obtain ⟨H, hH⟩ : ∃ H, H = s.heap := ⟨_, rfl⟩
  obtain ⟨locs, hlo⟩ : ∃ q : List Loc, q = [] := ⟨_, rfl⟩
  have dy : Dy D cA ad (V, g) A s.heap H locs := by rw [hH, hlo]; exact dy
  suffices K : W p l e (headSpec (wM yX11_court cX11_court 4 (some .int)) { frames := 2, cells := 0, slots := 0, locals := 42 }).room s m ([.ref (ad k0), .int a1, .int a2, .int a3] : List Value).toArray below meth c H locs 0 0 (MQ below (QI D cA ad A r0 (V, g0)) ([.ref (ad k0), .int a1, .int a2, .int a3] : List Value).toArray s 0 0 A) (F0 m 0 ls []) by rw [hH, hlo] at K; exact K
  clear hH hlo
  refine lv_iload_n cx.1 cx.2.1 dX11_court_0 rfl (lv_at hl 1 rfl) ?_
  obtain ⟨x2, g1, hc3, hr⟩ := of_bnd2 hr
  refine r_i dy (k_S (As := [.int a1]) cx fx dy (c_X11_isCourt hc3) mv_X11_isCourt rfl rfl ⟨Nat.le_trans (by decide) hR.1, Nat.le_trans (by decide) hR.2⟩ tb_421 rfl hl.1 rfl (Nat.le_of_ble_eq_true rfl) ⟨Nat.zero_le _, Nat.zero_le _⟩ dX11_court_1) (fun H locs dy => ?_)
  rcases of_brn hr with ⟨hc, hr⟩ | ⟨hc, hr⟩
  · refine lv_if_eq (tgt := 25) cx.1 cx.2.1 dX11_court_4 (by decide) (fun _ => ?_) (fun hn => absurd hc hn)
    refine lv_bipush (v := (-2)) cx.1 cx.2.1 dX11_court_25 (by decide) ?_
    obtain ⟨e0, e1⟩ := hq0 _ _ (Option.some.inj hr).symm
    exact h_iret cx dy hlocks hret rfl e0 (by rw [e1]) dX11_court_27
  · refine lv_if_eq (tgt := 25) cx.1 cx.2.1 dX11_court_4 (by decide) (fun hn => absurd hn hc) (fun _ => ?_)
    refine lv_iload_n cx.1 cx.2.1 dX11_court_7 rfl (lv_at hl 2 rfl) ?_
    obtain ⟨x5, g4, hc6, hr⟩ := of_bnd2 hr
    refine r_i dy (k_S (As := [.int a2]) cx fx dy (c_X11_isWard hc6) mv_X11_isWard rfl rfl ⟨Nat.le_trans (by decide) hR.1, Nat.le_trans (by decide) hR.2⟩ tb_427 rfl hl.1 rfl (Nat.le_of_ble_eq_true rfl) ⟨Nat.zero_le _, Nat.zero_le _⟩ dX11_court_8) (fun H locs dy => ?_)
    rcases of_brn hr with ⟨hc, hr⟩ | ⟨hc, hr⟩
    · refine lv_if_eq (tgt := 25) cx.1 cx.2.1 dX11_court_11 (by decide) (fun _ => ?_) (fun hn => absurd hc hn)
      refine lv_bipush (v := (-2)) cx.1 cx.2.1 dX11_court_25 (by decide) ?_
      obtain ⟨e0, e1⟩ := hq0 _ _ (Option.some.inj hr).symm
      exact h_iret cx dy hlocks hret rfl e0 (by rw [e1]) dX11_court_27
    · refine lv_if_eq (tgt := 25) cx.1 cx.2.1 dX11_court_11 (by decide) (fun hn => absurd hn hc) (fun _ => ?_)
      refine lv_iload_n cx.1 cx.2.1 dX11_court_14 rfl (lv_at hl 3 rfl) ?_
      refine lv_iconst (v := 1) cx.1 cx.2.1 dX11_court_15 (by decide) ?_
      refine lv_sipush (v := 999) cx.1 cx.2.1 dX11_court_16 (by decide) ?_
      obtain ⟨x8, g7, hc9, hr⟩ := of_bnd2 hr
      refine r_i dy (k_S (As := [.int a3, .int (1 : Int32), .int (999 : Int32)]) cx fx dy (c_X11_isFrom hc9) mv_X11_isFrom rfl rfl ⟨Nat.le_trans (by decide) hR.1, Nat.le_trans (by decide) hR.2⟩ tb_424 rfl hl.1 rfl (Nat.le_of_ble_eq_true rfl) ⟨Nat.zero_le _, Nat.zero_le _⟩ dX11_court_19) (fun H locs dy => ?_)
      rcases of_brn hr with ⟨hc, hr⟩ | ⟨hc, hr⟩
      · refine lv_if_ne (tgt := 28) cx.1 cx.2.1 dX11_court_22 (by decide) (fun hn => absurd hc hn) (fun _ => ?_)
        refine lv_bipush (v := (-2)) cx.1 cx.2.1 dX11_court_25 (by decide) ?_
        obtain ⟨e0, e1⟩ := hq0 _ _ (Option.some.inj hr).symm
        exact h_iret cx dy hlocks hret rfl e0 (by rw [e1]) dX11_court_27
      · refine lv_if_ne (tgt := 28) cx.1 cx.2.1 dX11_court_22 (by decide) (fun _ => ?_) (fun hn => absurd hn hc)
        refine lv_aload_n cx.1 cx.2.1 dX11_court_28 rfl (lv_at hl 0 rfl) ?_
        obtain ⟨hv10, hr⟩ := of_grd hr
        obtain ⟨k11, hf12, hr⟩ := of_bnd hr
        refine h_getR cx fx dy fd_11_1 hv10 tb_366 hf12 dX11_court_29 ?_
        refine lv_iload_n cx.1 cx.2.1 dX11_court_32 rfl (lv_at hl 1 rfl) ?_
        refine lv_iload_n cx.1 cx.2.1 dX11_court_33 rfl (lv_at hl 2 rfl) ?_
        refine lv_iload_n cx.1 cx.2.1 dX11_court_34 rfl (lv_at hl 3 rfl) ?_
        obtain ⟨hv15, hr⟩ := of_grd hr
        obtain ⟨u14, g13, hc16, hr⟩ := of_bnd2 hr
        refine r_v dy (k_V (As := [.int a1, .int a2, .int a3]) (b := k11) (ci := 9) cx fx dy (c_X9_place hc16) mv_X9_place rfl rfl ⟨Nat.le_trans (by decide) hR.1, Nat.le_trans (by decide) hR.2⟩ tb_430 hv15 rfl (by decide) rfl hl.1 rfl (Nat.le_of_ble_eq_true rfl) ⟨Nat.zero_le _, Nat.zero_le _⟩ dX11_court_35) (fun H locs dy => ?_)
        refine lv_iconst (v := 1) cx.1 cx.2.1 dX11_court_38 (by decide) ?_
        obtain ⟨e0, e1⟩ := hq0 _ _ (Option.some.inj hr).symm
        exact h_iret cx dy hlocks hret rfl e0 (by rw [e1]) dX11_court_39
noncomputable def r_X11_way_20 (V : Vk) (k1 : Nat) (x2 : Int32) (x3 : Int32) (x4 : Int32) (x5 : Int32) (g6 : Hq) : Option (Int32 × Hq) :=
  bnd (r_X11_isCourt V x2 g6) fun x8 g7 => brn (x8 = 0) (some ((-2 : Int32), g7)) (bnd (r_X11_isCourt V x3 g7) fun x11 g10 => brn (x11 = 0) (some ((-2 : Int32), g10)) (brn (x2 = x3) (some ((-2 : Int32), g10)) (brn (x5 = 0) (some ((-2 : Int32), g10)) (grd (V k1 = some (11, 0)) <| Option.bind (g10.2.2 k1 1) fun k14 => grd (V k14 = some (9, 0)) <| bnd (r_X9_minutesOfWay V k14 x2 x3 g10) fun x17 g16 => Option.bind (g16.2.2 k1 1) fun k20 => grd (V k20 = some (9, 0)) <| bnd (r_X9_setWay V k20 x2 x3 x4 g16) fun u23 g22 => some (x17, g22)))))
set_option maxHeartbeats 4000000 in
set_option maxRecDepth 100000 in
theorem w_X11_way_20 {p : Program} {l : Launch} {e : Env} {R : Room} {s : State} {m : MethodId} {args : Array Value} {below : List Frame} {meth : Method} {c : Code} {D : va_G} {cA : Nat → ClassId} {sk : (Nat → Nat) × (Nat → Nat)} {ad : Nat → Nat} {A : Nat → Prop} {V : Vk} (cx : CallFix p m c cX11_way 6 s args gw_tbl RX11) (fx : Fx D cA sk A s) (hlocks : meth.locks = false) (hret : meth.sig.returnType = (some .int)) (hR : 2 ≤ R.frames ∧ 42 ≤ R.locals) (r0 : Int32) (g0 : Hq) (z : (Int32 × Hq)) (hq : ∀ (rb : Int32) (gb : Hq), z = (rb, gb) → rb = r0 ∧ gb = g0) (k1 : Nat) (x2 : Int32) (x3 : Int32) (x4 : Int32) (x5 : Int32) (g6 : Hq) (hr : r_X11_way_20 V k1 x2 x3 x4 x5 g6 = some z) (H : Heap) (locs : List Loc) (ls : Array Slot) (dy : Dy D cA ad (V, g6) A s.heap H locs) (hl : lv_has ls 6 [(0, .ref (ad k1)), (1, .int x2), (2, .int x3), (3, .int x4)]) : W p l e R s m args below meth c H locs 0 0 (MQ below (QI D cA ad A r0 (V, g0)) args s 0 0 A) (F0 m 20 ls [.int x5]) := by
  unfold r_X11_way_20 at hr
  have hq0 := hq
  refine lv_istore (lv' := [(4, .int x5), (0, .ref (ad k1)), (1, .int x2), (2, .int x3), (3, .int x4)]) cx.1 cx.2.1 dX11_way_20 hl (by decide) rfl (fun ls hl => ?_)
  refine lv_iload_n cx.1 cx.2.1 dX11_way_22 rfl (lv_at hl 2 rfl) ?_
  obtain ⟨x8, g7, hc9, hr⟩ := of_bnd2 hr
  refine r_i dy (k_S (As := [.int x2]) cx fx dy (c_X11_isCourt hc9) mv_X11_isCourt rfl rfl ⟨Nat.le_trans (by decide) hR.1, Nat.le_trans (by decide) hR.2⟩ tb_421 rfl hl.1 rfl (Nat.le_of_ble_eq_true rfl) ⟨Nat.zero_le _, Nat.zero_le _⟩ dX11_way_23) (fun H locs dy => ?_)
  rcases of_brn hr with ⟨hc, hr⟩ | ⟨hc, hr⟩
  · refine lv_if_eq (tgt := 46) cx.1 cx.2.1 dX11_way_26 (by decide) (fun _ => ?_) (fun hn => absurd hc hn)
    refine lv_bipush (v := (-2)) cx.1 cx.2.1 dX11_way_46 (by decide) ?_
    obtain ⟨e0, e1⟩ := hq0 _ _ (Option.some.inj hr).symm
    exact h_iret cx dy hlocks hret rfl e0 (by rw [e1]) dX11_way_48
  · refine lv_if_eq (tgt := 46) cx.1 cx.2.1 dX11_way_26 (by decide) (fun hn => absurd hn hc) (fun _ => ?_)
    refine lv_iload_n cx.1 cx.2.1 dX11_way_29 rfl (lv_at hl 3 rfl) ?_
    obtain ⟨x11, g10, hc12, hr⟩ := of_bnd2 hr
    refine r_i dy (k_S (As := [.int x3]) cx fx dy (c_X11_isCourt hc12) mv_X11_isCourt rfl rfl ⟨Nat.le_trans (by decide) hR.1, Nat.le_trans (by decide) hR.2⟩ tb_421 rfl hl.1 rfl (Nat.le_of_ble_eq_true rfl) ⟨Nat.zero_le _, Nat.zero_le _⟩ dX11_way_30) (fun H locs dy => ?_)
    rcases of_brn hr with ⟨hc, hr⟩ | ⟨hc, hr⟩
    · refine lv_if_eq (tgt := 46) cx.1 cx.2.1 dX11_way_33 (by decide) (fun _ => ?_) (fun hn => absurd hc hn)
      refine lv_bipush (v := (-2)) cx.1 cx.2.1 dX11_way_46 (by decide) ?_
      obtain ⟨e0, e1⟩ := hq0 _ _ (Option.some.inj hr).symm
      exact h_iret cx dy hlocks hret rfl e0 (by rw [e1]) dX11_way_48
    · refine lv_if_eq (tgt := 46) cx.1 cx.2.1 dX11_way_33 (by decide) (fun hn => absurd hn hc) (fun _ => ?_)
      refine lv_iload_n cx.1 cx.2.1 dX11_way_36 rfl (lv_at hl 2 rfl) ?_
      refine lv_iload_n cx.1 cx.2.1 dX11_way_37 rfl (lv_at hl 3 rfl) ?_
      rcases of_brn hr with ⟨hc, hr⟩ | ⟨hc, hr⟩
      · refine lv_icmp_eq (tgt := 46) cx.1 cx.2.1 dX11_way_38 (by decide) (fun _ => ?_) (fun hn => absurd hc hn)
        refine lv_bipush (v := (-2)) cx.1 cx.2.1 dX11_way_46 (by decide) ?_
        obtain ⟨e0, e1⟩ := hq0 _ _ (Option.some.inj hr).symm
        exact h_iret cx dy hlocks hret rfl e0 (by rw [e1]) dX11_way_48
      · refine lv_icmp_eq (tgt := 46) cx.1 cx.2.1 dX11_way_38 (by decide) (fun hn => absurd hn hc) (fun _ => ?_)
        refine lv_iload cx.1 cx.2.1 dX11_way_41 (lv_at hl 0 rfl) ?_
        rcases of_brn hr with ⟨hc, hr⟩ | ⟨hc, hr⟩
        · refine lv_if_ne (tgt := 49) cx.1 cx.2.1 dX11_way_43 (by decide) (fun hn => absurd hc hn) (fun _ => ?_)
          refine lv_bipush (v := (-2)) cx.1 cx.2.1 dX11_way_46 (by decide) ?_
          obtain ⟨e0, e1⟩ := hq0 _ _ (Option.some.inj hr).symm
          exact h_iret cx dy hlocks hret rfl e0 (by rw [e1]) dX11_way_48
        · refine lv_if_ne (tgt := 49) cx.1 cx.2.1 dX11_way_43 (by decide) (fun _ => ?_) (fun hn => absurd hn hc)
          refine lv_aload_n cx.1 cx.2.1 dX11_way_49 rfl (lv_at hl 1 rfl) ?_
          obtain ⟨hv13, hr⟩ := of_grd hr
          obtain ⟨k14, hf15, hr⟩ := of_bnd hr
          refine h_getR cx fx dy fd_11_1 hv13 tb_366 hf15 dX11_way_50 ?_
          refine lv_iload_n cx.1 cx.2.1 dX11_way_53 rfl (lv_at hl 2 rfl) ?_
          refine lv_iload_n cx.1 cx.2.1 dX11_way_54 rfl (lv_at hl 3 rfl) ?_
          obtain ⟨hv18, hr⟩ := of_grd hr
          obtain ⟨x17, g16, hc19, hr⟩ := of_bnd2 hr
          refine r_i dy (k_V (As := [.int x2, .int x3]) (b := k14) (ci := 9) cx fx dy (c_X9_minutesOfWay hc19) mv_X9_minutesOfWay rfl rfl ⟨Nat.le_trans (by decide) hR.1, Nat.le_trans (by decide) hR.2⟩ tb_438 hv18 rfl (by decide) rfl hl.1 rfl (Nat.le_of_ble_eq_true rfl) ⟨Nat.zero_le _, Nat.zero_le _⟩ dX11_way_55) (fun H locs dy => ?_)
          refine lv_istore (lv' := [(5, .int x17), (4, .int x5), (0, .ref (ad k1)), (1, .int x2), (2, .int x3), (3, .int x4)]) cx.1 cx.2.1 dX11_way_58 hl (by decide) rfl (fun ls hl => ?_)
          refine lv_aload_n cx.1 cx.2.1 dX11_way_60 rfl (lv_at hl 2 rfl) ?_
          obtain ⟨k20, hf21, hr⟩ := of_bnd hr
          refine h_getR cx fx dy fd_11_1 hv13 tb_366 hf21 dX11_way_61 ?_
          refine lv_iload_n cx.1 cx.2.1 dX11_way_64 rfl (lv_at hl 3 rfl) ?_
          refine lv_iload_n cx.1 cx.2.1 dX11_way_65 rfl (lv_at hl 4 rfl) ?_
          refine lv_iload_n cx.1 cx.2.1 dX11_way_66 rfl (lv_at hl 5 rfl) ?_
          obtain ⟨hv24, hr⟩ := of_grd hr
          obtain ⟨u23, g22, hc25, hr⟩ := of_bnd2 hr
          refine r_v dy (k_V (As := [.int x2, .int x3, .int x4]) (b := k20) (ci := 9) cx fx dy (c_X9_setWay hc25) mv_X9_setWay rfl rfl ⟨Nat.le_trans (by decide) hR.1, Nat.le_trans (by decide) hR.2⟩ tb_442 hv24 rfl (by decide) rfl hl.1 rfl (Nat.le_of_ble_eq_true rfl) ⟨Nat.zero_le _, Nat.zero_le _⟩ dX11_way_67) (fun H locs dy => ?_)
          refine lv_iload cx.1 cx.2.1 dX11_way_70 (lv_at hl 0 rfl) ?_
          obtain ⟨e0, e1⟩ := hq0 _ _ (Option.some.inj hr).symm
          exact h_iret cx dy hlocks hret rfl e0 (by rw [e1]) dX11_way_72
noncomputable def r_X11_way (V : Vk) (k0 : Nat) (a1 : Int32) (a2 : Int32) (a3 : Int32) (g : Hq) : Option (Int32 × Hq) :=
  brn (a3 = (-1 : Int32)) ((r_X11_way_20 V k0 a1 a2 a3 (1 : Int32) g)) (bnd (r_X11_isFrom V a3 (1 : Int32) (99 : Int32) g) fun x27 g26 => brn (x27 = 0) ((r_X11_way_20 V k0 a1 a2 a3 (0 : Int32) g26)) ((r_X11_way_20 V k0 a1 a2 a3 (1 : Int32) g26)))
set_option maxHeartbeats 4000000 in
set_option maxRecDepth 100000 in
theorem c_X11_way {l : Launch} {D : va_G} {cA : Nat → ClassId} {sk : (Nat → Nat) × (Nat → Nat)} {ad : Nat → Nat} {A : Nat → Prop} {V : Vk} {k0 : Nat} {a1 : Int32} {a2 : Int32} {a3 : Int32} {g g0 : Hq} {r0 : Int32} (hr : r_X11_way V k0 a1 a2 a3 g = some (r0, g0)) : Met l yX11_way (wM yX11_way cX11_way 6 (some .int)) { frames := 2, cells := 0, slots := 0, locals := 42 } (Pre D cA sk ad (V, g) A [.ref (ad k0), .int a1, .int a2, .int a3]) (QI D cA ad A r0 (V, g0)) 0 0 A := by
  refine Met.ofW (cc := cX11_way) (maxL := 6) (ret := (some .int)) (by decide) rfl ?_
  intro p e s m args below meth c s₁ B hml hv
  obtain ⟨rfl, fx, w0⟩ := hv
  have hts := atoms_spec (ws := wM yX11_way cX11_way 6 (some .int)) B.pre
  have cx : CallFix p m c cX11_way 6 s ([.ref (ad k0), .int a1, .int a2, .int a3] : List Value).toArray gw_tbl RX11 := ⟨B.exec, B.bytes, hml, findClass_of_methodNamed B.named, fun w hw => hts w (List.mem_cons_of_mem _ hw)⟩
  have hlocks := B.notSynchronized
  have hret := B.returns
  have hR : 2 ≤ (headSpec (wM yX11_way cX11_way 6 (some .int)) { frames := 2, cells := 0, slots := 0, locals := 42 }).room.frames ∧ 42 ≤ (headSpec (wM yX11_way cX11_way 6 (some .int)) { frames := 2, cells := 0, slots := 0, locals := 42 }).room.locals := ⟨Nat.le_refl _, Nat.le_refl _⟩
  have dy : Dy D cA ad (V, g) A s.heap s.heap [] := ⟨w0, va_S.rf⟩
  have hl := lv_entry [.ref (ad k0), .int a1, .int a2, .int a3] (n := 6) (Nat.le_of_ble_eq_true rfl)
  rw [lg_entry_eq]
  generalize (lg_sl [.ref (ad k0), .int a1, .int a2, .int a3] ++ List.replicate (6 - (lg_sl [.ref (ad k0), .int a1, .int a2, .int a3]).length) Slot.unset).toArray = ls at hl ⊢
  have hl : lv_has ls 6 [(0, .ref (ad k0)), (1, .int a1), (2, .int a2), (3, .int a3)] := hl
  have dy0 : ∃ H0, H0 = s.heap ∧ Dy D cA ad (V, g) A s.heap H0 [] := ⟨_, rfl, dy⟩
  obtain ⟨z, ez⟩ : ∃ z, z = (r0, g0) := ⟨_, rfl⟩
  rw [← ez] at hr
  have hq0 : ∀ (rb : Int32) (gb : Hq), z = (rb, gb) → rb = r0 ∧ gb = g0 := fun rb gb eb => by rw [ez] at eb; exact ⟨(congrArg Prod.fst eb).symm, (congrArg Prod.snd eb).symm⟩
  clear ez w0 dy0
  unfold r_X11_way at hr
  obtain ⟨H, hH⟩ : ∃ H, H = s.heap := ⟨_, rfl⟩
  obtain ⟨locs, hlo⟩ : ∃ q : List Loc, q = [] := ⟨_, rfl⟩
  have dy : Dy D cA ad (V, g) A s.heap H locs := by rw [hH, hlo]; exact dy
  suffices K : W p l e (headSpec (wM yX11_way cX11_way 6 (some .int)) { frames := 2, cells := 0, slots := 0, locals := 42 }).room s m ([.ref (ad k0), .int a1, .int a2, .int a3] : List Value).toArray below meth c H locs 0 0 (MQ below (QI D cA ad A r0 (V, g0)) ([.ref (ad k0), .int a1, .int a2, .int a3] : List Value).toArray s 0 0 A) (F0 m 0 ls []) by rw [hH, hlo] at K; exact K
  clear hH hlo
  refine lv_iload_n cx.1 cx.2.1 dX11_way_0 rfl (lv_at hl 3 rfl) ?_
  refine lv_iconst (v := (-1)) cx.1 cx.2.1 dX11_way_1 (by decide) ?_
  rcases of_brn hr with ⟨hc, hr⟩ | ⟨hc, hr⟩
  · refine lv_icmp_eq (tgt := 15) cx.1 cx.2.1 dX11_way_2 (by decide) (fun _ => ?_) (fun hn => absurd hc hn)
    refine lv_iconst (v := 1) cx.1 cx.2.1 dX11_way_15 (by decide) ?_
    refine lv_goto (tgt := 20) cx.1 cx.2.1 dX11_way_16 (by decide) ?_
    exact w_X11_way_20 cx fx hlocks hret hR r0 g0 z hq0 k0 a1 a2 a3 (1 : Int32) g hr H locs ls dy (lv_sub hl [0, 1, 2, 3] rfl)
  · refine lv_icmp_eq (tgt := 15) cx.1 cx.2.1 dX11_way_2 (by decide) (fun hn => absurd hn hc) (fun _ => ?_)
    refine lv_iload_n cx.1 cx.2.1 dX11_way_5 rfl (lv_at hl 3 rfl) ?_
    refine lv_iconst (v := 1) cx.1 cx.2.1 dX11_way_6 (by decide) ?_
    refine lv_bipush (v := 99) cx.1 cx.2.1 dX11_way_7 (by decide) ?_
    obtain ⟨x27, g26, hc28, hr⟩ := of_bnd2 hr
    refine r_i dy (k_S (As := [.int a3, .int (1 : Int32), .int (99 : Int32)]) cx fx dy (c_X11_isFrom hc28) mv_X11_isFrom rfl rfl ⟨Nat.le_trans (by decide) hR.1, Nat.le_trans (by decide) hR.2⟩ tb_424 rfl hl.1 rfl (Nat.le_of_ble_eq_true rfl) ⟨Nat.zero_le _, Nat.zero_le _⟩ dX11_way_9) (fun H locs dy => ?_)
    rcases of_brn hr with ⟨hc, hr⟩ | ⟨hc, hr⟩
    · refine lv_if_eq (tgt := 19) cx.1 cx.2.1 dX11_way_12 (by decide) (fun _ => ?_) (fun hn => absurd hc hn)
      refine lv_iconst (v := 0) cx.1 cx.2.1 dX11_way_19 (by decide) ?_
      exact w_X11_way_20 cx fx hlocks hret hR r0 g0 z hq0 k0 a1 a2 a3 (0 : Int32) g26 hr H locs ls dy (lv_sub hl [0, 1, 2, 3] rfl)
    · refine lv_if_eq (tgt := 19) cx.1 cx.2.1 dX11_way_12 (by decide) (fun hn => absurd hn hc) (fun _ => ?_)
      refine lv_iconst (v := 1) cx.1 cx.2.1 dX11_way_15 (by decide) ?_
      refine lv_goto (tgt := 20) cx.1 cx.2.1 dX11_way_16 (by decide) ?_
      exact w_X11_way_20 cx fx hlocks hret hR r0 g0 z hq0 k0 a1 a2 a3 (1 : Int32) g26 hr H locs ls dy (lv_sub hl [0, 1, 2, 3] rfl)
noncomputable def r_X11_far (V : Vk) (k0 : Nat) (a1 : Int32) (a2 : Int32) (g : Hq) : Option (Int32 × Hq) :=
  bnd (r_X11_isCourt V a1 g) fun x2 g1 => brn (x2 = 0) (some ((-2 : Int32), g1)) (bnd (r_X11_isCourt V a2 g1) fun x5 g4 => brn (x5 = 0) (some ((-2 : Int32), g4)) (grd (V k0 = some (11, 0)) <| Option.bind (g4.2.2 k0 1) fun k8 => grd (V k8 = some (9, 0)) <| bnd (r_X9_leastMinutes V k8 a1 a2 g4) fun x11 g10 => some (x11, g10)))
set_option maxHeartbeats 4000000 in
set_option maxRecDepth 100000 in
theorem c_X11_far {l : Launch} {D : va_G} {cA : Nat → ClassId} {sk : (Nat → Nat) × (Nat → Nat)} {ad : Nat → Nat} {A : Nat → Prop} {V : Vk} {k0 : Nat} {a1 : Int32} {a2 : Int32} {g g0 : Hq} {r0 : Int32} (hr : r_X11_far V k0 a1 a2 g = some (r0, g0)) : Met l yX11_far (wM yX11_far cX11_far 3 (some .int)) { frames := 3, cells := 0, slots := 0, locals := 144 } (Pre D cA sk ad (V, g) A [.ref (ad k0), .int a1, .int a2]) (QI D cA ad A r0 (V, g0)) 0 0 A := by
  refine Met.ofW (cc := cX11_far) (maxL := 3) (ret := (some .int)) (by decide) rfl ?_
  intro p e s m args below meth c s₁ B hml hv
  obtain ⟨rfl, fx, w0⟩ := hv
  have hts := atoms_spec (ws := wM yX11_far cX11_far 3 (some .int)) B.pre
  have cx : CallFix p m c cX11_far 3 s ([.ref (ad k0), .int a1, .int a2] : List Value).toArray gw_tbl RX11 := ⟨B.exec, B.bytes, hml, findClass_of_methodNamed B.named, fun w hw => hts w (List.mem_cons_of_mem _ hw)⟩
  have hlocks := B.notSynchronized
  have hret := B.returns
  have hR : 3 ≤ (headSpec (wM yX11_far cX11_far 3 (some .int)) { frames := 3, cells := 0, slots := 0, locals := 144 }).room.frames ∧ 144 ≤ (headSpec (wM yX11_far cX11_far 3 (some .int)) { frames := 3, cells := 0, slots := 0, locals := 144 }).room.locals := ⟨Nat.le_refl _, Nat.le_refl _⟩
  have dy : Dy D cA ad (V, g) A s.heap s.heap [] := ⟨w0, va_S.rf⟩
  have hl := lv_entry [.ref (ad k0), .int a1, .int a2] (n := 3) (Nat.le_of_ble_eq_true rfl)
  rw [lg_entry_eq]
  generalize (lg_sl [.ref (ad k0), .int a1, .int a2] ++ List.replicate (3 - (lg_sl [.ref (ad k0), .int a1, .int a2]).length) Slot.unset).toArray = ls at hl ⊢
  have hl : lv_has ls 3 [(0, .ref (ad k0)), (1, .int a1), (2, .int a2)] := hl
  have dy0 : ∃ H0, H0 = s.heap ∧ Dy D cA ad (V, g) A s.heap H0 [] := ⟨_, rfl, dy⟩
  obtain ⟨z, ez⟩ : ∃ z, z = (r0, g0) := ⟨_, rfl⟩
  rw [← ez] at hr
  have hq0 : ∀ (rb : Int32) (gb : Hq), z = (rb, gb) → rb = r0 ∧ gb = g0 := fun rb gb eb => by rw [ez] at eb; exact ⟨(congrArg Prod.fst eb).symm, (congrArg Prod.snd eb).symm⟩
  clear ez w0 dy0
  unfold r_X11_far at hr
  obtain ⟨H, hH⟩ : ∃ H, H = s.heap := ⟨_, rfl⟩
  obtain ⟨locs, hlo⟩ : ∃ q : List Loc, q = [] := ⟨_, rfl⟩
  have dy : Dy D cA ad (V, g) A s.heap H locs := by rw [hH, hlo]; exact dy
  suffices K : W p l e (headSpec (wM yX11_far cX11_far 3 (some .int)) { frames := 3, cells := 0, slots := 0, locals := 144 }).room s m ([.ref (ad k0), .int a1, .int a2] : List Value).toArray below meth c H locs 0 0 (MQ below (QI D cA ad A r0 (V, g0)) ([.ref (ad k0), .int a1, .int a2] : List Value).toArray s 0 0 A) (F0 m 0 ls []) by rw [hH, hlo] at K; exact K
  clear hH hlo
  refine lv_iload_n cx.1 cx.2.1 dX11_far_0 rfl (lv_at hl 1 rfl) ?_
  obtain ⟨x2, g1, hc3, hr⟩ := of_bnd2 hr
  refine r_i dy (k_S (As := [.int a1]) cx fx dy (c_X11_isCourt hc3) mv_X11_isCourt rfl rfl ⟨Nat.le_trans (by decide) hR.1, Nat.le_trans (by decide) hR.2⟩ tb_421 rfl hl.1 rfl (Nat.le_of_ble_eq_true rfl) ⟨Nat.zero_le _, Nat.zero_le _⟩ dX11_far_1) (fun H locs dy => ?_)
  rcases of_brn hr with ⟨hc, hr⟩ | ⟨hc, hr⟩
  · refine lv_if_eq (tgt := 14) cx.1 cx.2.1 dX11_far_4 (by decide) (fun _ => ?_) (fun hn => absurd hc hn)
    refine lv_bipush (v := (-2)) cx.1 cx.2.1 dX11_far_14 (by decide) ?_
    obtain ⟨e0, e1⟩ := hq0 _ _ (Option.some.inj hr).symm
    exact h_iret cx dy hlocks hret rfl e0 (by rw [e1]) dX11_far_16
  · refine lv_if_eq (tgt := 14) cx.1 cx.2.1 dX11_far_4 (by decide) (fun hn => absurd hn hc) (fun _ => ?_)
    refine lv_iload_n cx.1 cx.2.1 dX11_far_7 rfl (lv_at hl 2 rfl) ?_
    obtain ⟨x5, g4, hc6, hr⟩ := of_bnd2 hr
    refine r_i dy (k_S (As := [.int a2]) cx fx dy (c_X11_isCourt hc6) mv_X11_isCourt rfl rfl ⟨Nat.le_trans (by decide) hR.1, Nat.le_trans (by decide) hR.2⟩ tb_421 rfl hl.1 rfl (Nat.le_of_ble_eq_true rfl) ⟨Nat.zero_le _, Nat.zero_le _⟩ dX11_far_8) (fun H locs dy => ?_)
    rcases of_brn hr with ⟨hc, hr⟩ | ⟨hc, hr⟩
    · refine lv_if_ne (tgt := 17) cx.1 cx.2.1 dX11_far_11 (by decide) (fun hn => absurd hc hn) (fun _ => ?_)
      refine lv_bipush (v := (-2)) cx.1 cx.2.1 dX11_far_14 (by decide) ?_
      obtain ⟨e0, e1⟩ := hq0 _ _ (Option.some.inj hr).symm
      exact h_iret cx dy hlocks hret rfl e0 (by rw [e1]) dX11_far_16
    · refine lv_if_ne (tgt := 17) cx.1 cx.2.1 dX11_far_11 (by decide) (fun _ => ?_) (fun hn => absurd hn hc)
      refine lv_aload_n cx.1 cx.2.1 dX11_far_17 rfl (lv_at hl 0 rfl) ?_
      obtain ⟨hv7, hr⟩ := of_grd hr
      obtain ⟨k8, hf9, hr⟩ := of_bnd hr
      refine h_getR cx fx dy fd_11_1 hv7 tb_366 hf9 dX11_far_18 ?_
      refine lv_iload_n cx.1 cx.2.1 dX11_far_21 rfl (lv_at hl 1 rfl) ?_
      refine lv_iload_n cx.1 cx.2.1 dX11_far_22 rfl (lv_at hl 2 rfl) ?_
      obtain ⟨hv12, hr⟩ := of_grd hr
      obtain ⟨x11, g10, hc13, hr⟩ := of_bnd2 hr
      refine r_i dy (k_V (As := [.int a1, .int a2]) (b := k8) (ci := 9) cx fx dy (c_X9_leastMinutes hc13) mv_X9_leastMinutes rfl rfl ⟨Nat.le_trans (by decide) hR.1, Nat.le_trans (by decide) hR.2⟩ tb_450 hv12 rfl (by decide) rfl hl.1 rfl (Nat.le_of_ble_eq_true rfl) ⟨Nat.zero_le _, Nat.zero_le _⟩ dX11_far_23) (fun H locs dy => ?_)
      obtain ⟨e0, e1⟩ := hq0 _ _ (Option.some.inj hr).symm
      exact h_iret cx dy hlocks hret rfl e0 (by rw [e1]) dX11_far_26
noncomputable def r_X11_rounds (V : Vk) (k0 : Nat) (a1 : Int32) (g : Hq) : Option (Int32 × Hq) :=
  brn (a1 < (1 : Int32)) (some ((-2 : Int32), g)) (brn (a1 < (4096 : Int32)) (bnd (r_J6_bitCount_0f7a4 V a1 g) fun x2 g1 => brn (x2 ≤ (10 : Int32)) (grd (V k0 = some (11, 0)) <| Option.bind (g1.2.2 k0 2) fun k5 => Option.bind (g1.2.2 k0 1) fun k7 => grd (V k5 = some (6, 0)) <| bnd (r_X6_plan V k5 a1 k7 g1) fun x10 g9 => some (x10, g9)) (some ((-3 : Int32), g1))) (some ((-2 : Int32), g)))
set_option maxHeartbeats 4000000 in
set_option maxRecDepth 100000 in
theorem c_X11_rounds {l : Launch} {D : va_G} {cA : Nat → ClassId} {sk : (Nat → Nat) × (Nat → Nat)} {ad : Nat → Nat} {A : Nat → Prop} {V : Vk} {k0 : Nat} {a1 : Int32} {g g0 : Hq} {r0 : Int32} (hr : r_X11_rounds V k0 a1 g = some (r0, g0)) : Met l yX11_rounds (wM yX11_rounds cX11_rounds 2 (some .int)) { frames := 5, cells := 0, slots := 0, locals := 191 } (Pre D cA sk ad (V, g) A [.ref (ad k0), .int a1]) (QI D cA ad A r0 (V, g0)) 0 0 A := by
  refine Met.ofW (cc := cX11_rounds) (maxL := 2) (ret := (some .int)) (by decide) rfl ?_
  intro p e s m args below meth c s₁ B hml hv
  obtain ⟨rfl, fx, w0⟩ := hv
  have hts := atoms_spec (ws := wM yX11_rounds cX11_rounds 2 (some .int)) B.pre
  have cx : CallFix p m c cX11_rounds 2 s ([.ref (ad k0), .int a1] : List Value).toArray gw_tbl RX11 := ⟨B.exec, B.bytes, hml, findClass_of_methodNamed B.named, fun w hw => hts w (List.mem_cons_of_mem _ hw)⟩
  have hlocks := B.notSynchronized
  have hret := B.returns
  have hR : 5 ≤ (headSpec (wM yX11_rounds cX11_rounds 2 (some .int)) { frames := 5, cells := 0, slots := 0, locals := 191 }).room.frames ∧ 191 ≤ (headSpec (wM yX11_rounds cX11_rounds 2 (some .int)) { frames := 5, cells := 0, slots := 0, locals := 191 }).room.locals := ⟨Nat.le_refl _, Nat.le_refl _⟩
  have dy : Dy D cA ad (V, g) A s.heap s.heap [] := ⟨w0, va_S.rf⟩
  have hl := lv_entry [.ref (ad k0), .int a1] (n := 2) (Nat.le_of_ble_eq_true rfl)
  rw [lg_entry_eq]
  generalize (lg_sl [.ref (ad k0), .int a1] ++ List.replicate (2 - (lg_sl [.ref (ad k0), .int a1]).length) Slot.unset).toArray = ls at hl ⊢
  have hl : lv_has ls 2 [(0, .ref (ad k0)), (1, .int a1)] := hl
  have dy0 : ∃ H0, H0 = s.heap ∧ Dy D cA ad (V, g) A s.heap H0 [] := ⟨_, rfl, dy⟩
  obtain ⟨z, ez⟩ : ∃ z, z = (r0, g0) := ⟨_, rfl⟩
  rw [← ez] at hr
  have hq0 : ∀ (rb : Int32) (gb : Hq), z = (rb, gb) → rb = r0 ∧ gb = g0 := fun rb gb eb => by rw [ez] at eb; exact ⟨(congrArg Prod.fst eb).symm, (congrArg Prod.snd eb).symm⟩
  clear ez w0 dy0
  unfold r_X11_rounds at hr
  obtain ⟨H, hH⟩ : ∃ H, H = s.heap := ⟨_, rfl⟩
  obtain ⟨locs, hlo⟩ : ∃ q : List Loc, q = [] := ⟨_, rfl⟩
  have dy : Dy D cA ad (V, g) A s.heap H locs := by rw [hH, hlo]; exact dy
  suffices K : W p l e (headSpec (wM yX11_rounds cX11_rounds 2 (some .int)) { frames := 5, cells := 0, slots := 0, locals := 191 }).room s m ([.ref (ad k0), .int a1] : List Value).toArray below meth c H locs 0 0 (MQ below (QI D cA ad A r0 (V, g0)) ([.ref (ad k0), .int a1] : List Value).toArray s 0 0 A) (F0 m 0 ls []) by rw [hH, hlo] at K; exact K
  clear hH hlo
  refine lv_iload_n cx.1 cx.2.1 dX11_rounds_0 rfl (lv_at hl 1 rfl) ?_
  refine lv_iconst (v := 1) cx.1 cx.2.1 dX11_rounds_1 (by decide) ?_
  rcases of_brn hr with ⟨hc, hr⟩ | ⟨hc, hr⟩
  · refine lv_icmp_lt (tgt := 12) cx.1 cx.2.1 dX11_rounds_2 (by decide) (fun _ => ?_) (fun hn => absurd hc hn)
    refine lv_bipush (v := (-2)) cx.1 cx.2.1 dX11_rounds_12 (by decide) ?_
    obtain ⟨e0, e1⟩ := hq0 _ _ (Option.some.inj hr).symm
    exact h_iret cx dy hlocks hret rfl e0 (by rw [e1]) dX11_rounds_14
  · refine lv_icmp_lt (tgt := 12) cx.1 cx.2.1 dX11_rounds_2 (by decide) (fun hn => absurd hn hc) (fun _ => ?_)
    refine lv_iload_n cx.1 cx.2.1 dX11_rounds_5 rfl (lv_at hl 1 rfl) ?_
    refine lv_sipush (v := 4096) cx.1 cx.2.1 dX11_rounds_6 (by decide) ?_
    rcases of_brn hr with ⟨hc, hr⟩ | ⟨hc, hr⟩
    · refine lv_icmp_lt (tgt := 15) cx.1 cx.2.1 dX11_rounds_9 (by decide) (fun _ => ?_) (fun hn => absurd hc hn)
      refine lv_iload_n cx.1 cx.2.1 dX11_rounds_15 rfl (lv_at hl 1 rfl) ?_
      obtain ⟨x2, g1, hc3, hr⟩ := of_bnd2 hr
      refine r_i dy (k_S (As := [.int a1]) cx fx dy (c_J6_bitCount_0f7a4 hc3) mv_J6_bitCount_0f7a4 rfl rfl ⟨Nat.le_trans (by decide) hR.1, Nat.le_trans (by decide) hR.2⟩ tb_469 rfl hl.1 rfl (Nat.le_of_ble_eq_true rfl) ⟨Nat.zero_le _, Nat.zero_le _⟩ dX11_rounds_16) (fun H locs dy => ?_)
      refine lv_bipush (v := 10) cx.1 cx.2.1 dX11_rounds_19 (by decide) ?_
      rcases of_brn hr with ⟨hc, hr⟩ | ⟨hc, hr⟩
      · refine lv_icmp_le (tgt := 27) cx.1 cx.2.1 dX11_rounds_21 (by decide) (fun _ => ?_) (fun hn => absurd hc hn)
        refine lv_aload_n cx.1 cx.2.1 dX11_rounds_27 rfl (lv_at hl 0 rfl) ?_
        obtain ⟨hv4, hr⟩ := of_grd hr
        obtain ⟨k5, hf6, hr⟩ := of_bnd hr
        refine h_getR cx fx dy fd_11_2 hv4 tb_367 hf6 dX11_rounds_28 ?_
        refine lv_iload_n cx.1 cx.2.1 dX11_rounds_31 rfl (lv_at hl 1 rfl) ?_
        refine lv_aload_n cx.1 cx.2.1 dX11_rounds_32 rfl (lv_at hl 0 rfl) ?_
        obtain ⟨k7, hf8, hr⟩ := of_bnd hr
        refine h_getR cx fx dy fd_11_1 hv4 tb_366 hf8 dX11_rounds_33 ?_
        obtain ⟨hv11, hr⟩ := of_grd hr
        obtain ⟨x10, g9, hc12, hr⟩ := of_bnd2 hr
        refine r_i dy (k_V (As := [.int a1, .ref (ad k7)]) (b := k5) (ci := 6) cx fx dy (c_X6_plan hc12) mv_X6_plan rfl rfl ⟨Nat.le_trans (by decide) hR.1, Nat.le_trans (by decide) hR.2⟩ tb_475 hv11 rfl (by decide) rfl hl.1 rfl (Nat.le_of_ble_eq_true rfl) ⟨Nat.zero_le _, Nat.zero_le _⟩ dX11_rounds_36) (fun H locs dy => ?_)
        obtain ⟨e0, e1⟩ := hq0 _ _ (Option.some.inj hr).symm
        exact h_iret cx dy hlocks hret rfl e0 (by rw [e1]) dX11_rounds_39
      · refine lv_icmp_le (tgt := 27) cx.1 cx.2.1 dX11_rounds_21 (by decide) (fun hn => absurd hn hc) (fun _ => ?_)
        refine lv_bipush (v := (-3)) cx.1 cx.2.1 dX11_rounds_24 (by decide) ?_
        obtain ⟨e0, e1⟩ := hq0 _ _ (Option.some.inj hr).symm
        exact h_iret cx dy hlocks hret rfl e0 (by rw [e1]) dX11_rounds_26
    · refine lv_icmp_lt (tgt := 15) cx.1 cx.2.1 dX11_rounds_9 (by decide) (fun hn => absurd hn hc) (fun _ => ?_)
      refine lv_bipush (v := (-2)) cx.1 cx.2.1 dX11_rounds_12 (by decide) ?_
      obtain ⟨e0, e1⟩ := hq0 _ _ (Option.some.inj hr).symm
      exact h_iret cx dy hlocks hret rfl e0 (by rw [e1]) dX11_rounds_14
noncomputable def r_X11_round (V : Vk) (k0 : Nat) (a1 : Int32) (g : Hq) : Option (Int32 × Hq) :=
  grd (V k0 = some (11, 0)) <| Option.bind (g.2.2 k0 2) fun k2 => grd (V k2 = some (6, 0)) <| bnd (r_X6_tell V k2 a1 g) fun x5 g4 => some (x5, g4)
set_option maxHeartbeats 4000000 in
set_option maxRecDepth 100000 in
theorem c_X11_round {l : Launch} {D : va_G} {cA : Nat → ClassId} {sk : (Nat → Nat) × (Nat → Nat)} {ad : Nat → Nat} {A : Nat → Prop} {V : Vk} {k0 : Nat} {a1 : Int32} {g g0 : Hq} {r0 : Int32} (hr : r_X11_round V k0 a1 g = some (r0, g0)) : Met l yX11_round (wM yX11_round cX11_round 2 (some .int)) { frames := 2, cells := 0, slots := 0, locals := 43 } (Pre D cA sk ad (V, g) A [.ref (ad k0), .int a1]) (QI D cA ad A r0 (V, g0)) 0 0 A := by
  refine Met.ofW (cc := cX11_round) (maxL := 2) (ret := (some .int)) (by decide) rfl ?_
  intro p e s m args below meth c s₁ B hml hv
  obtain ⟨rfl, fx, w0⟩ := hv
  have hts := atoms_spec (ws := wM yX11_round cX11_round 2 (some .int)) B.pre
  have cx : CallFix p m c cX11_round 2 s ([.ref (ad k0), .int a1] : List Value).toArray gw_tbl RX11 := ⟨B.exec, B.bytes, hml, findClass_of_methodNamed B.named, fun w hw => hts w (List.mem_cons_of_mem _ hw)⟩
  have hlocks := B.notSynchronized
  have hret := B.returns
  have hR : 2 ≤ (headSpec (wM yX11_round cX11_round 2 (some .int)) { frames := 2, cells := 0, slots := 0, locals := 43 }).room.frames ∧ 43 ≤ (headSpec (wM yX11_round cX11_round 2 (some .int)) { frames := 2, cells := 0, slots := 0, locals := 43 }).room.locals := ⟨Nat.le_refl _, Nat.le_refl _⟩
  have dy : Dy D cA ad (V, g) A s.heap s.heap [] := ⟨w0, va_S.rf⟩
  have hl := lv_entry [.ref (ad k0), .int a1] (n := 2) (Nat.le_of_ble_eq_true rfl)
  rw [lg_entry_eq]
  generalize (lg_sl [.ref (ad k0), .int a1] ++ List.replicate (2 - (lg_sl [.ref (ad k0), .int a1]).length) Slot.unset).toArray = ls at hl ⊢
  have hl : lv_has ls 2 [(0, .ref (ad k0)), (1, .int a1)] := hl
  have dy0 : ∃ H0, H0 = s.heap ∧ Dy D cA ad (V, g) A s.heap H0 [] := ⟨_, rfl, dy⟩
  obtain ⟨z, ez⟩ : ∃ z, z = (r0, g0) := ⟨_, rfl⟩
  rw [← ez] at hr
  have hq0 : ∀ (rb : Int32) (gb : Hq), z = (rb, gb) → rb = r0 ∧ gb = g0 := fun rb gb eb => by rw [ez] at eb; exact ⟨(congrArg Prod.fst eb).symm, (congrArg Prod.snd eb).symm⟩
  clear ez w0 dy0
  unfold r_X11_round at hr
  obtain ⟨H, hH⟩ : ∃ H, H = s.heap := ⟨_, rfl⟩
  obtain ⟨locs, hlo⟩ : ∃ q : List Loc, q = [] := ⟨_, rfl⟩
  have dy : Dy D cA ad (V, g) A s.heap H locs := by rw [hH, hlo]; exact dy
  suffices K : W p l e (headSpec (wM yX11_round cX11_round 2 (some .int)) { frames := 2, cells := 0, slots := 0, locals := 43 }).room s m ([.ref (ad k0), .int a1] : List Value).toArray below meth c H locs 0 0 (MQ below (QI D cA ad A r0 (V, g0)) ([.ref (ad k0), .int a1] : List Value).toArray s 0 0 A) (F0 m 0 ls []) by rw [hH, hlo] at K; exact K
  clear hH hlo
  refine lv_aload_n cx.1 cx.2.1 dX11_round_0 rfl (lv_at hl 0 rfl) ?_
  obtain ⟨hv1, hr⟩ := of_grd hr
  obtain ⟨k2, hf3, hr⟩ := of_bnd hr
  refine h_getR cx fx dy fd_11_2 hv1 tb_367 hf3 dX11_round_1 ?_
  refine lv_iload_n cx.1 cx.2.1 dX11_round_4 rfl (lv_at hl 1 rfl) ?_
  obtain ⟨hv6, hr⟩ := of_grd hr
  obtain ⟨x5, g4, hc7, hr⟩ := of_bnd2 hr
  refine r_i dy (k_V (As := [.int a1]) (b := k2) (ci := 6) cx fx dy (c_X6_tell hc7) mv_X6_tell rfl rfl ⟨Nat.le_trans (by decide) hR.1, Nat.le_trans (by decide) hR.2⟩ tb_538 hv6 rfl (by decide) rfl hl.1 rfl (Nat.le_of_ble_eq_true rfl) ⟨Nat.zero_le _, Nat.zero_le _⟩ dX11_round_5) (fun H locs dy => ?_)
  obtain ⟨e0, e1⟩ := hq0 _ _ (Option.some.inj hr).symm
  exact h_iret cx dy hlocks hret rfl e0 (by rw [e1]) dX11_round_8
noncomputable def r_X11_cry_26' (V : Vk) (k7 : Nat) (x8 : Int32) (x9 : Int32) (x10 : Int32) (x11 : Int32) (g12 : Hq) : Option ((Nat × Int32 × Int32 × Int32 × Int32 × Hq) ⊕ (Int32 × Hq)) :=
  brn ((12 : Int32) ≤ x11) (some (.inr (x10, g12))) (grd (V k7 = some (11, 0)) <| Option.bind (g12.2.2 k7 1) fun k14 => grd (V k14 = some (9, 0)) <| bnd (r_X9_leastMinutes V k14 x8 x11 g12) fun x17 g16 => brn (x17 = (-1 : Int32)) (nm (x11 + (1 : Int32)) fun x20 => some (.inl (k7, x8, x9, x10, x20, g16))) (brn (x9 < x17) (nm (x11 + (1 : Int32)) fun x21 => some (.inl (k7, x8, x9, x10, x21, g16))) (nm (x10 ||| ((1 : Int32) <<< (x11 &&& 31))) fun x22 => nm (x11 + (1 : Int32)) fun x23 => some (.inl (k7, x8, x9, x22, x23, g16)))))
noncomputable def r_X11_cry_26 (V : Vk) (st : (Nat × Int32 × Int32 × Int32 × Int32 × Hq)) : Option ((Nat × Int32 × Int32 × Int32 × Int32 × Hq) ⊕ (Int32 × Hq)) := r_X11_cry_26' V st.1 st.2.1 st.2.2.1 st.2.2.2.1 st.2.2.2.2.1 st.2.2.2.2.2
set_option maxHeartbeats 4000000 in
set_option maxRecDepth 100000 in
theorem w_X11_cry_26 {p : Program} {l : Launch} {e : Env} {R : Room} {s : State} {m : MethodId} {args : Array Value} {below : List Frame} {meth : Method} {c : Code} {D : va_G} {cA : Nat → ClassId} {sk : (Nat → Nat) × (Nat → Nat)} {ad : Nat → Nat} {A : Nat → Prop} {V : Vk} (cx : CallFix p m c cX11_cry 6 s args gw_tbl RX11) (fx : Fx D cA sk A s) (hlocks : meth.locks = false) (hret : meth.sig.returnType = (some .int)) (hR : 3 ≤ R.frames ∧ 144 ≤ R.locals) (r0 : Int32) (g0 : Hq) (y : (Int32 × Hq)) (hq : ∀ (rb : Int32) (gb : Hq), y = (rb, gb) → rb = r0 ∧ gb = g0) : ∀ (n : Nat) (k7 : Nat) (x8 : Int32) (x9 : Int32) (x10 : Int32) (x11 : Int32) (g12 : Hq), itr (r_X11_cry_26 V) n (k7, x8, x9, x10, x11, g12) = some y → ∀ (H : Heap) (locs : List Loc) (ls : Array Slot), Dy D cA ad (V, g12) A s.heap H locs → lv_has ls 6 [(0, .ref (ad k7)), (1, .int x8), (2, .int x9), (3, .int x10), (4, .int x11)] → W p l e R s m args below meth c H locs 0 0 (MQ below (QI D cA ad A r0 (V, g0)) args s 0 0 A) (F0 m 26 ls []) := by
  intro n
  induction n with
  | zero => intro k7 x8 x9 x10 x11 g12 hr; cases hr
  | succ n ih =>
    intro k7 x8 x9 x10 x11 g12 hr H locs ls dy hl
    obtain ⟨z, hz, hn1, hn2⟩ := itr_succ hr
    clear hr
    have hr : r_X11_cry_26' V k7 x8 x9 x10 x11 g12 = some z := hz
    clear hz
    unfold r_X11_cry_26' at hr
    have hh0 : ∀ (b0 : Nat) (b1 : Int32) (b2 : Int32) (b3 : Int32) (b4 : Int32) (gb : Hq), z = .inl (b0, b1, b2, b3, b4, gb) → ∀ (H : Heap) (locs : List Loc) (ls : Array Slot), Dy D cA ad (V, gb) A s.heap H locs → lv_has ls 6 [(0, .ref (ad b0)), (1, .int b1), (2, .int b2), (3, .int b3), (4, .int b4)] → W p l e R s m args below meth c H locs 0 0 (MQ below (QI D cA ad A r0 (V, g0)) args s 0 0 A) (F0 m 26 ls []) := fun b0 b1 b2 b3 b4 gb eb => ih b0 b1 b2 b3 b4 gb (hn1 _ eb)
    have hq0 : ∀ (rb : Int32) (gb : Hq), z = (.inr (rb, gb)) → rb = r0 ∧ gb = g0 := fun rb gb eb => hq rb gb (hn2 _ eb).symm
    refine lv_iload cx.1 cx.2.1 dX11_cry_26 (lv_at hl 4 rfl) ?_
    refine lv_bipush (v := 12) cx.1 cx.2.1 dX11_cry_28 (by decide) ?_
    rcases of_brn hr with ⟨hc, hr⟩ | ⟨hc, hr⟩
    · refine lv_icmp_ge (tgt := 70) cx.1 cx.2.1 dX11_cry_30 (by decide) (fun _ => ?_) (fun hn => absurd hc hn)
      refine lv_iload_n cx.1 cx.2.1 dX11_cry_70 rfl (lv_at hl 3 rfl) ?_
      obtain ⟨e0, e1⟩ := hq0 _ _ (Option.some.inj hr).symm
      exact h_iret cx dy hlocks hret rfl e0 (by rw [e1]) dX11_cry_71
    · refine lv_icmp_ge (tgt := 70) cx.1 cx.2.1 dX11_cry_30 (by decide) (fun hn => absurd hn hc) (fun _ => ?_)
      refine lv_aload_n cx.1 cx.2.1 dX11_cry_33 rfl (lv_at hl 0 rfl) ?_
      obtain ⟨hv13, hr⟩ := of_grd hr
      obtain ⟨k14, hf15, hr⟩ := of_bnd hr
      refine h_getR cx fx dy fd_11_1 hv13 tb_366 hf15 dX11_cry_34 ?_
      refine lv_iload_n cx.1 cx.2.1 dX11_cry_37 rfl (lv_at hl 1 rfl) ?_
      refine lv_iload cx.1 cx.2.1 dX11_cry_38 (lv_at hl 4 rfl) ?_
      obtain ⟨hv18, hr⟩ := of_grd hr
      obtain ⟨x17, g16, hc19, hr⟩ := of_bnd2 hr
      refine r_i dy (k_V (As := [.int x8, .int x11]) (b := k14) (ci := 9) cx fx dy (c_X9_leastMinutes hc19) mv_X9_leastMinutes rfl rfl ⟨Nat.le_trans (by decide) hR.1, Nat.le_trans (by decide) hR.2⟩ tb_450 hv18 rfl (by decide) rfl hl.1 rfl (Nat.le_of_ble_eq_true rfl) ⟨Nat.zero_le _, Nat.zero_le _⟩ dX11_cry_40) (fun H locs dy => ?_)
      refine lv_istore (lv' := [(5, .int x17), (0, .ref (ad k7)), (1, .int x8), (2, .int x9), (3, .int x10), (4, .int x11)]) cx.1 cx.2.1 dX11_cry_43 hl (by decide) rfl (fun ls hl => ?_)
      refine lv_iload cx.1 cx.2.1 dX11_cry_45 (lv_at hl 0 rfl) ?_
      refine lv_iconst (v := (-1)) cx.1 cx.2.1 dX11_cry_47 (by decide) ?_
      rcases of_brn hr with ⟨hc, hr⟩ | ⟨hc, hr⟩
      · refine lv_icmp_eq (tgt := 64) cx.1 cx.2.1 dX11_cry_48 (by decide) (fun _ => ?_) (fun hn => absurd hc hn)
        obtain ⟨x20, ex20, hr⟩ := of_nm hr
        refine lv_iinc (v := x20) (lv' := [(4, .int x20), (5, .int x17), (0, .ref (ad k7)), (1, .int x8), (2, .int x9), (3, .int x10)]) cx.1 cx.2.1 dX11_cry_64 hl (k := 5) rfl (by rw [ex20]; rfl) (by decide) rfl (fun ls hl => ?_)
        refine lv_goto (tgt := 26) cx.1 cx.2.1 dX11_cry_67 (by decide) ?_
        exact hh0 k7 x8 x9 x10 x20 g16 (Option.some.inj hr).symm H locs ls dy (lv_sub hl [2, 3, 4, 5, 0] rfl)
      · refine lv_icmp_eq (tgt := 64) cx.1 cx.2.1 dX11_cry_48 (by decide) (fun hn => absurd hn hc) (fun _ => ?_)
        refine lv_iload cx.1 cx.2.1 dX11_cry_51 (lv_at hl 0 rfl) ?_
        refine lv_iload_n cx.1 cx.2.1 dX11_cry_53 rfl (lv_at hl 3 rfl) ?_
        rcases of_brn hr with ⟨hc, hr⟩ | ⟨hc, hr⟩
        · refine lv_icmp_gt (tgt := 64) cx.1 cx.2.1 dX11_cry_54 (by decide) (fun _ => ?_) (fun hn => absurd hc hn)
          obtain ⟨x21, ex21, hr⟩ := of_nm hr
          refine lv_iinc (v := x21) (lv' := [(4, .int x21), (5, .int x17), (0, .ref (ad k7)), (1, .int x8), (2, .int x9), (3, .int x10)]) cx.1 cx.2.1 dX11_cry_64 hl (k := 5) rfl (by rw [ex21]; rfl) (by decide) rfl (fun ls hl => ?_)
          refine lv_goto (tgt := 26) cx.1 cx.2.1 dX11_cry_67 (by decide) ?_
          exact hh0 k7 x8 x9 x10 x21 g16 (Option.some.inj hr).symm H locs ls dy (lv_sub hl [2, 3, 4, 5, 0] rfl)
        · refine lv_icmp_gt (tgt := 64) cx.1 cx.2.1 dX11_cry_54 (by decide) (fun hn => absurd hn hc) (fun _ => ?_)
          refine lv_iload_n cx.1 cx.2.1 dX11_cry_57 rfl (lv_at hl 4 rfl) ?_
          refine lv_iconst (v := 1) cx.1 cx.2.1 dX11_cry_58 (by decide) ?_
          refine lv_iload cx.1 cx.2.1 dX11_cry_59 (lv_at hl 5 rfl) ?_
          refine lv_ishl cx.1 cx.2.1 dX11_cry_61 ?_
          refine lv_ior cx.1 cx.2.1 dX11_cry_62 ?_
          obtain ⟨x22, ex22, hr⟩ := of_nm hr
          refine lv_nmi ex22 ?_
          refine lv_istore_n (lv' := [(3, .int x22), (5, .int x17), (0, .ref (ad k7)), (1, .int x8), (2, .int x9), (4, .int x11)]) cx.1 cx.2.1 dX11_cry_63 rfl hl (by decide) rfl (fun ls hl => ?_)
          obtain ⟨x23, ex23, hr⟩ := of_nm hr
          refine lv_iinc (v := x23) (lv' := [(4, .int x23), (3, .int x22), (5, .int x17), (0, .ref (ad k7)), (1, .int x8), (2, .int x9)]) cx.1 cx.2.1 dX11_cry_64 hl (k := 5) rfl (by rw [ex23]; rfl) (by decide) rfl (fun ls hl => ?_)
          refine lv_goto (tgt := 26) cx.1 cx.2.1 dX11_cry_67 (by decide) ?_
          exact hh0 k7 x8 x9 x22 x23 g16 (Option.some.inj hr).symm H locs ls dy (lv_sub hl [3, 4, 5, 1, 0] rfl)
noncomputable def r_X11_cry (V : Vk) (k0 : Nat) (a1 : Int32) (a2 : Int32) (g : Hq) : Option (Int32 × Hq) :=
  bnd (r_X11_isCourt V a1 g) fun x2 g1 => brn (x2 = 0) (some ((-2 : Int32), g1)) (bnd (r_X11_isFrom V a2 (0 : Int32) (999 : Int32) g1) fun x5 g4 => brn (x5 = 0) (some ((-2 : Int32), g4)) ((lop (r_X11_cry_26 V) (k0, a1, a2, (0 : Int32), (0 : Int32), g4))))
set_option maxHeartbeats 4000000 in
set_option maxRecDepth 100000 in
theorem c_X11_cry {l : Launch} {D : va_G} {cA : Nat → ClassId} {sk : (Nat → Nat) × (Nat → Nat)} {ad : Nat → Nat} {A : Nat → Prop} {V : Vk} {k0 : Nat} {a1 : Int32} {a2 : Int32} {g g0 : Hq} {r0 : Int32} (hr : r_X11_cry V k0 a1 a2 g = some (r0, g0)) : Met l yX11_cry (wM yX11_cry cX11_cry 6 (some .int)) { frames := 3, cells := 0, slots := 0, locals := 144 } (Pre D cA sk ad (V, g) A [.ref (ad k0), .int a1, .int a2]) (QI D cA ad A r0 (V, g0)) 0 0 A := by
  refine Met.ofW (cc := cX11_cry) (maxL := 6) (ret := (some .int)) (by decide) rfl ?_
  intro p e s m args below meth c s₁ B hml hv
  obtain ⟨rfl, fx, w0⟩ := hv
  have hts := atoms_spec (ws := wM yX11_cry cX11_cry 6 (some .int)) B.pre
  have cx : CallFix p m c cX11_cry 6 s ([.ref (ad k0), .int a1, .int a2] : List Value).toArray gw_tbl RX11 := ⟨B.exec, B.bytes, hml, findClass_of_methodNamed B.named, fun w hw => hts w (List.mem_cons_of_mem _ hw)⟩
  have hlocks := B.notSynchronized
  have hret := B.returns
  have hR : 3 ≤ (headSpec (wM yX11_cry cX11_cry 6 (some .int)) { frames := 3, cells := 0, slots := 0, locals := 144 }).room.frames ∧ 144 ≤ (headSpec (wM yX11_cry cX11_cry 6 (some .int)) { frames := 3, cells := 0, slots := 0, locals := 144 }).room.locals := ⟨Nat.le_refl _, Nat.le_refl _⟩
  have dy : Dy D cA ad (V, g) A s.heap s.heap [] := ⟨w0, va_S.rf⟩
  have hl := lv_entry [.ref (ad k0), .int a1, .int a2] (n := 6) (Nat.le_of_ble_eq_true rfl)
  rw [lg_entry_eq]
  generalize (lg_sl [.ref (ad k0), .int a1, .int a2] ++ List.replicate (6 - (lg_sl [.ref (ad k0), .int a1, .int a2]).length) Slot.unset).toArray = ls at hl ⊢
  have hl : lv_has ls 6 [(0, .ref (ad k0)), (1, .int a1), (2, .int a2)] := hl
  have dy0 : ∃ H0, H0 = s.heap ∧ Dy D cA ad (V, g) A s.heap H0 [] := ⟨_, rfl, dy⟩
  obtain ⟨z, ez⟩ : ∃ z, z = (r0, g0) := ⟨_, rfl⟩
  rw [← ez] at hr
  have hq0 : ∀ (rb : Int32) (gb : Hq), z = (rb, gb) → rb = r0 ∧ gb = g0 := fun rb gb eb => by rw [ez] at eb; exact ⟨(congrArg Prod.fst eb).symm, (congrArg Prod.snd eb).symm⟩
  clear ez w0 dy0
  unfold r_X11_cry at hr
  obtain ⟨H, hH⟩ : ∃ H, H = s.heap := ⟨_, rfl⟩
  obtain ⟨locs, hlo⟩ : ∃ q : List Loc, q = [] := ⟨_, rfl⟩
  have dy : Dy D cA ad (V, g) A s.heap H locs := by rw [hH, hlo]; exact dy
  suffices K : W p l e (headSpec (wM yX11_cry cX11_cry 6 (some .int)) { frames := 3, cells := 0, slots := 0, locals := 144 }).room s m ([.ref (ad k0), .int a1, .int a2] : List Value).toArray below meth c H locs 0 0 (MQ below (QI D cA ad A r0 (V, g0)) ([.ref (ad k0), .int a1, .int a2] : List Value).toArray s 0 0 A) (F0 m 0 ls []) by rw [hH, hlo] at K; exact K
  clear hH hlo
  refine lv_iload_n cx.1 cx.2.1 dX11_cry_0 rfl (lv_at hl 1 rfl) ?_
  obtain ⟨x2, g1, hc3, hr⟩ := of_bnd2 hr
  refine r_i dy (k_S (As := [.int a1]) cx fx dy (c_X11_isCourt hc3) mv_X11_isCourt rfl rfl ⟨Nat.le_trans (by decide) hR.1, Nat.le_trans (by decide) hR.2⟩ tb_421 rfl hl.1 rfl (Nat.le_of_ble_eq_true rfl) ⟨Nat.zero_le _, Nat.zero_le _⟩ dX11_cry_1) (fun H locs dy => ?_)
  rcases of_brn hr with ⟨hc, hr⟩ | ⟨hc, hr⟩
  · refine lv_if_eq (tgt := 18) cx.1 cx.2.1 dX11_cry_4 (by decide) (fun _ => ?_) (fun hn => absurd hc hn)
    refine lv_bipush (v := (-2)) cx.1 cx.2.1 dX11_cry_18 (by decide) ?_
    obtain ⟨e0, e1⟩ := hq0 _ _ (Option.some.inj hr).symm
    exact h_iret cx dy hlocks hret rfl e0 (by rw [e1]) dX11_cry_20
  · refine lv_if_eq (tgt := 18) cx.1 cx.2.1 dX11_cry_4 (by decide) (fun hn => absurd hn hc) (fun _ => ?_)
    refine lv_iload_n cx.1 cx.2.1 dX11_cry_7 rfl (lv_at hl 2 rfl) ?_
    refine lv_iconst (v := 0) cx.1 cx.2.1 dX11_cry_8 (by decide) ?_
    refine lv_sipush (v := 999) cx.1 cx.2.1 dX11_cry_9 (by decide) ?_
    obtain ⟨x5, g4, hc6, hr⟩ := of_bnd2 hr
    refine r_i dy (k_S (As := [.int a2, .int (0 : Int32), .int (999 : Int32)]) cx fx dy (c_X11_isFrom hc6) mv_X11_isFrom rfl rfl ⟨Nat.le_trans (by decide) hR.1, Nat.le_trans (by decide) hR.2⟩ tb_424 rfl hl.1 rfl (Nat.le_of_ble_eq_true rfl) ⟨Nat.zero_le _, Nat.zero_le _⟩ dX11_cry_12) (fun H locs dy => ?_)
    rcases of_brn hr with ⟨hc, hr⟩ | ⟨hc, hr⟩
    · refine lv_if_ne (tgt := 21) cx.1 cx.2.1 dX11_cry_15 (by decide) (fun hn => absurd hc hn) (fun _ => ?_)
      refine lv_bipush (v := (-2)) cx.1 cx.2.1 dX11_cry_18 (by decide) ?_
      obtain ⟨e0, e1⟩ := hq0 _ _ (Option.some.inj hr).symm
      exact h_iret cx dy hlocks hret rfl e0 (by rw [e1]) dX11_cry_20
    · refine lv_if_ne (tgt := 21) cx.1 cx.2.1 dX11_cry_15 (by decide) (fun _ => ?_) (fun hn => absurd hn hc)
      refine lv_iconst (v := 0) cx.1 cx.2.1 dX11_cry_21 (by decide) ?_
      refine lv_istore_n (lv' := [(3, .int (0 : Int32)), (0, .ref (ad k0)), (1, .int a1), (2, .int a2)]) cx.1 cx.2.1 dX11_cry_22 rfl hl (by decide) rfl (fun ls hl => ?_)
      refine lv_iconst (v := 0) cx.1 cx.2.1 dX11_cry_23 (by decide) ?_
      refine lv_istore (lv' := [(4, .int (0 : Int32)), (3, .int (0 : Int32)), (0, .ref (ad k0)), (1, .int a1), (2, .int a2)]) cx.1 cx.2.1 dX11_cry_24 hl (by decide) rfl (fun ls hl => ?_)
      obtain ⟨n, hr⟩ := lop_some hr
      exact w_X11_cry_26 cx fx hlocks hret hR r0 g0 z hq0 n k0 a1 a2 (0 : Int32) (0 : Int32) g4 hr H locs ls dy (lv_sub hl [2, 3, 4, 1, 0] rfl)
noncomputable def r_X11_enactDraft (V : Vk) (k0 : Nat) (a1 : Nat) (g : Hq) : Option (Unit × Hq) :=
  grd (V k0 = some (11, 0)) <| Option.bind (g.2.2 k0 8) fun k2 => grd (V a1 = some (10, 0)) <| Option.bind (g.2.2 a1 0) fun k5 => nm (sR g k0 8 (some k5)) fun g7 => nm (sR g7 a1 0 (some k2)) fun g8 => some ((), g8)
set_option maxHeartbeats 4000000 in
set_option maxRecDepth 100000 in
theorem c_X11_enactDraft {l : Launch} {D : va_G} {cA : Nat → ClassId} {sk : (Nat → Nat) × (Nat → Nat)} {ad : Nat → Nat} {A : Nat → Prop} {V : Vk} {k0 : Nat} {a1 : Nat} {g g0 : Hq} (hr : r_X11_enactDraft V k0 a1 g = some ((), g0)) : Met l yX11_enactDraft (wM yX11_enactDraft cX11_enactDraft 3 none) { frames := 0, cells := 0, slots := 0, locals := 0 } (Pre D cA sk ad (V, g) A [.ref (ad k0), .ref (ad a1)]) (QV D cA ad A (V, g0)) 0 0 A := by
  refine Met.ofW (cc := cX11_enactDraft) (maxL := 3) (ret := none) (by decide) rfl ?_
  intro p e s m args below meth c s₁ B hml hv
  obtain ⟨rfl, fx, w0⟩ := hv
  have hts := atoms_spec (ws := wM yX11_enactDraft cX11_enactDraft 3 none) B.pre
  have cx : CallFix p m c cX11_enactDraft 3 s ([.ref (ad k0), .ref (ad a1)] : List Value).toArray gw_tbl RX11 := ⟨B.exec, B.bytes, hml, findClass_of_methodNamed B.named, fun w hw => hts w (List.mem_cons_of_mem _ hw)⟩
  have hlocks := B.notSynchronized
  have hret := B.returns
  have hR : 0 ≤ (headSpec (wM yX11_enactDraft cX11_enactDraft 3 none) { frames := 0, cells := 0, slots := 0, locals := 0 }).room.frames ∧ 0 ≤ (headSpec (wM yX11_enactDraft cX11_enactDraft 3 none) { frames := 0, cells := 0, slots := 0, locals := 0 }).room.locals := ⟨Nat.le_refl _, Nat.le_refl _⟩
  have dy : Dy D cA ad (V, g) A s.heap s.heap [] := ⟨w0, va_S.rf⟩
  have hl := lv_entry [.ref (ad k0), .ref (ad a1)] (n := 3) (Nat.le_of_ble_eq_true rfl)
  rw [lg_entry_eq]
  generalize (lg_sl [.ref (ad k0), .ref (ad a1)] ++ List.replicate (3 - (lg_sl [.ref (ad k0), .ref (ad a1)]).length) Slot.unset).toArray = ls at hl ⊢
  have hl : lv_has ls 3 [(0, .ref (ad k0)), (1, .ref (ad a1))] := hl
  have dy0 : ∃ H0, H0 = s.heap ∧ Dy D cA ad (V, g) A s.heap H0 [] := ⟨_, rfl, dy⟩
  obtain ⟨z, ez⟩ : ∃ z, z = (((), g0) : Unit × Hq) := ⟨_, rfl⟩
  rw [← ez] at hr
  have hq0 : ∀ (rb : Unit) (gb : Hq), z = (rb, gb) → gb = g0 := fun rb gb eb => by rw [ez] at eb; exact (congrArg Prod.snd eb).symm
  clear ez w0 dy0
  unfold r_X11_enactDraft at hr
  obtain ⟨H, hH⟩ : ∃ H, H = s.heap := ⟨_, rfl⟩
  obtain ⟨locs, hlo⟩ : ∃ q : List Loc, q = [] := ⟨_, rfl⟩
  have dy : Dy D cA ad (V, g) A s.heap H locs := by rw [hH, hlo]; exact dy
  suffices K : W p l e (headSpec (wM yX11_enactDraft cX11_enactDraft 3 none) { frames := 0, cells := 0, slots := 0, locals := 0 }).room s m ([.ref (ad k0), .ref (ad a1)] : List Value).toArray below meth c H locs 0 0 (MQ below (QV D cA ad A (V, g0)) ([.ref (ad k0), .ref (ad a1)] : List Value).toArray s 0 0 A) (F0 m 0 ls []) by rw [hH, hlo] at K; exact K
  clear hH hlo
  refine lv_aload_n cx.1 cx.2.1 dX11_enactDraft_0 rfl (lv_at hl 0 rfl) ?_
  obtain ⟨hv1, hr⟩ := of_grd hr
  obtain ⟨k2, hf3, hr⟩ := of_bnd hr
  refine h_getR cx fx dy fd_11_8 hv1 tb_373 hf3 dX11_enactDraft_1 ?_
  refine lv_astore_n (lv' := [(2, .ref (ad k2)), (0, .ref (ad k0)), (1, .ref (ad a1))]) cx.1 cx.2.1 dX11_enactDraft_4 rfl hl (by decide) rfl (fun ls hl => ?_)
  refine lv_aload_n cx.1 cx.2.1 dX11_enactDraft_5 rfl (lv_at hl 1 rfl) ?_
  refine lv_aload_n cx.1 cx.2.1 dX11_enactDraft_6 rfl (lv_at hl 2 rfl) ?_
  obtain ⟨hv4, hr⟩ := of_grd hr
  obtain ⟨k5, hf6, hr⟩ := of_bnd hr
  refine h_getRN cx fx dy fd_10_0 hv4 tb_331 hf6 dX11_enactDraft_7 ?_
  obtain ⟨g7, eg7, hr⟩ := of_nm hr
  refine h_putR cx fx dy fd_11_8 (pd_11_8 : PD _ _ _ _ _ (.object "WardWatch$Laws")) rfl rfl rfl hv1 tb_373 dX11_enactDraft_10 (fun H locs dy => ?_)
  replace dy : Dy D cA ad (V, g7) A s.heap H locs := by rw [eg7]; exact dy
  refine lv_aload_n cx.1 cx.2.1 dX11_enactDraft_13 rfl (lv_at hl 2 rfl) ?_
  refine lv_aload_n cx.1 cx.2.1 dX11_enactDraft_14 rfl (lv_at hl 0 rfl) ?_
  obtain ⟨g8, eg8, hr⟩ := of_nm hr
  refine h_putRN cx fx dy fd_10_0 (pd_10_0 : PD _ _ _ _ _ (.object "WardWatch$Laws")) rfl rfl rfl hv4 tb_331 dX11_enactDraft_15 (fun H locs dy => ?_)
  replace dy : Dy D cA ad (V, g8) A s.heap H locs := by rw [eg8]; exact dy
  have e1 := hq0 _ _ (Option.some.inj hr).symm
  exact h_vret cx dy hlocks hret (by rw [e1]) dX11_enactDraft_18
noncomputable def r_X11_laws (V : Vk) (k0 : Nat) (a1 : Int32) (g : Hq) : Option (Int32 × Hq) :=
  bnd (r_X11_isWard V a1 g) fun x2 g1 => brn (x2 = 0) (grd (V k0 = some (11, 0)) <| Option.bind (g1.2.2 k0 0) fun k5 => grd (V k5 = some (8, 0)) <| bnd (r_X8_cut V k5 (0 : Int32) g1) fun u8 g7 => some ((-2 : Int32), g7)) (grd (V k0 = some (11, 0)) <| Option.bind (g1.2.2 k0 3) fun k12 => Option.bind (g1.2.2 k0 8) fun k14 => grd (V k12 = some (3, 0)) <| bnd (r_X3_read V k12 k14 g1) fun x17 g16 => brn (x17 = (-1 : Int32)) (Option.bind (g16.2.2 k0 0) fun k20 => grd (V k20 = some (8, 0)) <| bnd (r_X8_cut V k20 (0 : Int32) g16) fun u23 g22 => some (x17, g22)) (Option.bind (g16.2.2 k0 4) fun k26 => grd (okV V k26 4 a1) <| Option.bind (g16.2.2 k26 a1.toNatClampNeg) fun k29 => bnd (r_X11_enactDraft V k0 k29 g16) fun u32 g31 => Option.bind (g31.2.2 k0 0) fun k34 => grd (V k34 = some (8, 0)) <| bnd (r_X8_cut V k34 (0 : Int32) g31) fun u37 g36 => some (x17, g36)))
set_option maxHeartbeats 4000000 in
set_option maxRecDepth 100000 in
theorem c_X11_laws {l : Launch} {D : va_G} {cA : Nat → ClassId} {sk : (Nat → Nat) × (Nat → Nat)} {ad : Nat → Nat} {A : Nat → Prop} {V : Vk} {k0 : Nat} {a1 : Int32} {g g0 : Hq} {r0 : Int32} (hr : r_X11_laws V k0 a1 g = some (r0, g0)) : Met l yX11_laws (wM yX11_laws cX11_laws 3 (some .int)) { frames := 9, cells := 0, slots := 0, locals := 195 } (Pre D cA sk ad (V, g) A [.ref (ad k0), .int a1]) (QI D cA ad A r0 (V, g0)) 0 0 A := by
  refine Met.ofW (cc := cX11_laws) (maxL := 3) (ret := (some .int)) (by decide) rfl ?_
  intro p e s m args below meth c s₁ B hml hv
  obtain ⟨rfl, fx, w0⟩ := hv
  have hts := atoms_spec (ws := wM yX11_laws cX11_laws 3 (some .int)) B.pre
  have cx : CallFix p m c cX11_laws 3 s ([.ref (ad k0), .int a1] : List Value).toArray gw_tbl RX11 := ⟨B.exec, B.bytes, hml, findClass_of_methodNamed B.named, fun w hw => hts w (List.mem_cons_of_mem _ hw)⟩
  have hlocks := B.notSynchronized
  have hret := B.returns
  have hR : 9 ≤ (headSpec (wM yX11_laws cX11_laws 3 (some .int)) { frames := 9, cells := 0, slots := 0, locals := 195 }).room.frames ∧ 195 ≤ (headSpec (wM yX11_laws cX11_laws 3 (some .int)) { frames := 9, cells := 0, slots := 0, locals := 195 }).room.locals := ⟨Nat.le_refl _, Nat.le_refl _⟩
  have dy : Dy D cA ad (V, g) A s.heap s.heap [] := ⟨w0, va_S.rf⟩
  have hl := lv_entry [.ref (ad k0), .int a1] (n := 3) (Nat.le_of_ble_eq_true rfl)
  rw [lg_entry_eq]
  generalize (lg_sl [.ref (ad k0), .int a1] ++ List.replicate (3 - (lg_sl [.ref (ad k0), .int a1]).length) Slot.unset).toArray = ls at hl ⊢
  have hl : lv_has ls 3 [(0, .ref (ad k0)), (1, .int a1)] := hl
  have dy0 : ∃ H0, H0 = s.heap ∧ Dy D cA ad (V, g) A s.heap H0 [] := ⟨_, rfl, dy⟩
  obtain ⟨z, ez⟩ : ∃ z, z = (r0, g0) := ⟨_, rfl⟩
  rw [← ez] at hr
  have hq0 : ∀ (rb : Int32) (gb : Hq), z = (rb, gb) → rb = r0 ∧ gb = g0 := fun rb gb eb => by rw [ez] at eb; exact ⟨(congrArg Prod.fst eb).symm, (congrArg Prod.snd eb).symm⟩
  clear ez w0 dy0
  unfold r_X11_laws at hr
  obtain ⟨H, hH⟩ : ∃ H, H = s.heap := ⟨_, rfl⟩
  obtain ⟨locs, hlo⟩ : ∃ q : List Loc, q = [] := ⟨_, rfl⟩
  have dy : Dy D cA ad (V, g) A s.heap H locs := by rw [hH, hlo]; exact dy
  suffices K : W p l e (headSpec (wM yX11_laws cX11_laws 3 (some .int)) { frames := 9, cells := 0, slots := 0, locals := 195 }).room s m ([.ref (ad k0), .int a1] : List Value).toArray below meth c H locs 0 0 (MQ below (QI D cA ad A r0 (V, g0)) ([.ref (ad k0), .int a1] : List Value).toArray s 0 0 A) (F0 m 0 ls []) by rw [hH, hlo] at K; exact K
  clear hH hlo
  refine lv_bipush (v := (-2)) cx.1 cx.2.1 dX11_laws_0 (by decide) ?_
  refine lv_istore_n (lv' := [(2, .int (-2 : Int32)), (0, .ref (ad k0)), (1, .int a1)]) cx.1 cx.2.1 dX11_laws_2 rfl hl (by decide) rfl (fun ls hl => ?_)
  refine lv_iload_n cx.1 cx.2.1 dX11_laws_3 rfl (lv_at hl 2 rfl) ?_
  obtain ⟨x2, g1, hc3, hr⟩ := of_bnd2 hr
  refine r_i dy (k_S (As := [.int a1]) cx fx dy (c_X11_isWard hc3) mv_X11_isWard rfl rfl ⟨Nat.le_trans (by decide) hR.1, Nat.le_trans (by decide) hR.2⟩ tb_427 rfl hl.1 rfl (Nat.le_of_ble_eq_true rfl) ⟨Nat.zero_le _, Nat.zero_le _⟩ dX11_laws_4) (fun H locs dy => ?_)
  rcases of_brn hr with ⟨hc, hr⟩ | ⟨hc, hr⟩
  · refine lv_if_eq (tgt := 37) cx.1 cx.2.1 dX11_laws_7 (by decide) (fun _ => ?_) (fun hn => absurd hc hn)
    refine lv_aload_n cx.1 cx.2.1 dX11_laws_37 rfl (lv_at hl 1 rfl) ?_
    obtain ⟨hv4, hr⟩ := of_grd hr
    obtain ⟨k5, hf6, hr⟩ := of_bnd hr
    refine h_getR cx fx dy fd_11_0 hv4 tb_365 hf6 dX11_laws_38 ?_
    refine lv_iconst (v := 0) cx.1 cx.2.1 dX11_laws_41 (by decide) ?_
    obtain ⟨hv9, hr⟩ := of_grd hr
    obtain ⟨u8, g7, hc10, hr⟩ := of_bnd2 hr
    refine r_v dy (k_V (As := [.int (0 : Int32)]) (b := k5) (ci := 8) cx fx dy (c_X8_cut hc10) mv_X8_cut rfl rfl ⟨Nat.le_trans (by decide) hR.1, Nat.le_trans (by decide) hR.2⟩ tb_413 hv9 rfl (by decide) rfl hl.1 rfl (Nat.le_of_ble_eq_true rfl) ⟨Nat.zero_le _, Nat.zero_le _⟩ dX11_laws_42) (fun H locs dy => ?_)
    refine lv_iload_n cx.1 cx.2.1 dX11_laws_45 rfl (lv_at hl 0 rfl) ?_
    obtain ⟨e0, e1⟩ := hq0 _ _ (Option.some.inj hr).symm
    exact h_iret cx dy hlocks hret rfl e0 (by rw [e1]) dX11_laws_46
  · refine lv_if_eq (tgt := 37) cx.1 cx.2.1 dX11_laws_7 (by decide) (fun hn => absurd hn hc) (fun _ => ?_)
    refine lv_aload_n cx.1 cx.2.1 dX11_laws_10 rfl (lv_at hl 1 rfl) ?_
    obtain ⟨hv11, hr⟩ := of_grd hr
    obtain ⟨k12, hf13, hr⟩ := of_bnd hr
    refine h_getR cx fx dy fd_11_3 hv11 tb_368 hf13 dX11_laws_11 ?_
    refine lv_aload_n cx.1 cx.2.1 dX11_laws_14 rfl (lv_at hl 1 rfl) ?_
    obtain ⟨k14, hf15, hr⟩ := of_bnd hr
    refine h_getR cx fx dy fd_11_8 hv11 tb_373 hf15 dX11_laws_15 ?_
    obtain ⟨hv18, hr⟩ := of_grd hr
    obtain ⟨x17, g16, hc19, hr⟩ := of_bnd2 hr
    refine r_i dy (k_V (As := [.ref (ad k14)]) (b := k12) (ci := 3) cx fx dy (c_X3_read hc19) mv_X3_read rfl rfl ⟨Nat.le_trans (by decide) hR.1, Nat.le_trans (by decide) hR.2⟩ tb_551 hv18 rfl (by decide) rfl hl.1 rfl (Nat.le_of_ble_eq_true rfl) ⟨Nat.zero_le _, Nat.zero_le _⟩ dX11_laws_18) (fun H locs dy => ?_)
    refine lv_istore_n (lv' := [(2, .int x17), (0, .ref (ad k0)), (1, .int a1)]) cx.1 cx.2.1 dX11_laws_21 rfl hl (by decide) rfl (fun ls hl => ?_)
    refine lv_iload_n cx.1 cx.2.1 dX11_laws_22 rfl (lv_at hl 0 rfl) ?_
    refine lv_iconst (v := (-1)) cx.1 cx.2.1 dX11_laws_23 (by decide) ?_
    rcases of_brn hr with ⟨hc, hr⟩ | ⟨hc, hr⟩
    · refine lv_icmp_eq (tgt := 37) cx.1 cx.2.1 dX11_laws_24 (by decide) (fun _ => ?_) (fun hn => absurd hc hn)
      refine lv_aload_n cx.1 cx.2.1 dX11_laws_37 rfl (lv_at hl 1 rfl) ?_
      obtain ⟨k20, hf21, hr⟩ := of_bnd hr
      refine h_getR cx fx dy fd_11_0 hv11 tb_365 hf21 dX11_laws_38 ?_
      refine lv_iconst (v := 0) cx.1 cx.2.1 dX11_laws_41 (by decide) ?_
      obtain ⟨hv24, hr⟩ := of_grd hr
      obtain ⟨u23, g22, hc25, hr⟩ := of_bnd2 hr
      refine r_v dy (k_V (As := [.int (0 : Int32)]) (b := k20) (ci := 8) cx fx dy (c_X8_cut hc25) mv_X8_cut rfl rfl ⟨Nat.le_trans (by decide) hR.1, Nat.le_trans (by decide) hR.2⟩ tb_413 hv24 rfl (by decide) rfl hl.1 rfl (Nat.le_of_ble_eq_true rfl) ⟨Nat.zero_le _, Nat.zero_le _⟩ dX11_laws_42) (fun H locs dy => ?_)
      refine lv_iload_n cx.1 cx.2.1 dX11_laws_45 rfl (lv_at hl 0 rfl) ?_
      obtain ⟨e0, e1⟩ := hq0 _ _ (Option.some.inj hr).symm
      exact h_iret cx dy hlocks hret rfl e0 (by rw [e1]) dX11_laws_46
    · refine lv_icmp_eq (tgt := 37) cx.1 cx.2.1 dX11_laws_24 (by decide) (fun hn => absurd hn hc) (fun _ => ?_)
      refine lv_aload_n cx.1 cx.2.1 dX11_laws_27 rfl (lv_at hl 1 rfl) ?_
      refine lv_aload_n cx.1 cx.2.1 dX11_laws_28 rfl (lv_at hl 1 rfl) ?_
      obtain ⟨k26, hf27, hr⟩ := of_bnd hr
      refine h_getR cx fx dy fd_11_4 hv11 tb_369 hf27 dX11_laws_29 ?_
      refine lv_iload_n cx.1 cx.2.1 dX11_laws_32 rfl (lv_at hl 2 rfl) ?_
      obtain ⟨ha28, hr⟩ := of_grd hr
      obtain ⟨k29, hf30, hr⟩ := of_bnd hr
      refine h_aald (t := 4) cx fx dy (by decide) rfl ha28 hf30 dX11_laws_33 ?_
      obtain ⟨u32, g31, hc33, hr⟩ := of_bnd2 hr
      refine r_v dy (k_V (As := [.ref (ad k29)]) (b := k0) (ci := 11) cx fx dy (c_X11_enactDraft hc33) mv_X11_enactDraft rfl rfl ⟨Nat.le_trans (by decide) hR.1, Nat.le_trans (by decide) hR.2⟩ tb_685 hv11 rfl (by decide) rfl hl.1 rfl (Nat.le_of_ble_eq_true rfl) ⟨Nat.zero_le _, Nat.zero_le _⟩ dX11_laws_34) (fun H locs dy => ?_)
      refine lv_aload_n cx.1 cx.2.1 dX11_laws_37 rfl (lv_at hl 1 rfl) ?_
      obtain ⟨k34, hf35, hr⟩ := of_bnd hr
      refine h_getR cx fx dy fd_11_0 hv11 tb_365 hf35 dX11_laws_38 ?_
      refine lv_iconst (v := 0) cx.1 cx.2.1 dX11_laws_41 (by decide) ?_
      obtain ⟨hv38, hr⟩ := of_grd hr
      obtain ⟨u37, g36, hc39, hr⟩ := of_bnd2 hr
      refine r_v dy (k_V (As := [.int (0 : Int32)]) (b := k34) (ci := 8) cx fx dy (c_X8_cut hc39) mv_X8_cut rfl rfl ⟨Nat.le_trans (by decide) hR.1, Nat.le_trans (by decide) hR.2⟩ tb_413 hv38 rfl (by decide) rfl hl.1 rfl (Nat.le_of_ble_eq_true rfl) ⟨Nat.zero_le _, Nat.zero_le _⟩ dX11_laws_42) (fun H locs dy => ?_)
      refine lv_iload_n cx.1 cx.2.1 dX11_laws_45 rfl (lv_at hl 0 rfl) ?_
      obtain ⟨e0, e1⟩ := hq0 _ _ (Option.some.inj hr).symm
      exact h_iret cx dy hlocks hret rfl e0 (by rw [e1]) dX11_laws_46
noncomputable def r_X11_fault (V : Vk) (k0 : Nat) (a1 : Int32) (g : Hq) : Option (Int32 × Hq) :=
  brn (a1 = (0 : Int32)) (grd (V k0 = some (11, 0)) <| Option.bind (g.2.2 k0 3) fun k2 => grd (V k2 = some (3, 0)) <| bnd (r_X3_faultKind V k2 g) fun x5 g4 => some (x5, g4)) (brn (a1 = (1 : Int32)) (grd (V k0 = some (11, 0)) <| Option.bind (g.2.2 k0 3) fun k10 => grd (V k10 = some (3, 0)) <| bnd (r_X3_faultPlace V k10 g) fun x13 g12 => some (x13, g12)) (some ((-1 : Int32), g)))
set_option maxHeartbeats 4000000 in
set_option maxRecDepth 100000 in
theorem c_X11_fault {l : Launch} {D : va_G} {cA : Nat → ClassId} {sk : (Nat → Nat) × (Nat → Nat)} {ad : Nat → Nat} {A : Nat → Prop} {V : Vk} {k0 : Nat} {a1 : Int32} {g g0 : Hq} {r0 : Int32} (hr : r_X11_fault V k0 a1 g = some (r0, g0)) : Met l yX11_fault (wM yX11_fault cX11_fault 2 (some .int)) { frames := 1, cells := 0, slots := 0, locals := 20 } (Pre D cA sk ad (V, g) A [.ref (ad k0), .int a1]) (QI D cA ad A r0 (V, g0)) 0 0 A := by
  refine Met.ofW (cc := cX11_fault) (maxL := 2) (ret := (some .int)) (by decide) rfl ?_
  intro p e s m args below meth c s₁ B hml hv
  obtain ⟨rfl, fx, w0⟩ := hv
  have hts := atoms_spec (ws := wM yX11_fault cX11_fault 2 (some .int)) B.pre
  have cx : CallFix p m c cX11_fault 2 s ([.ref (ad k0), .int a1] : List Value).toArray gw_tbl RX11 := ⟨B.exec, B.bytes, hml, findClass_of_methodNamed B.named, fun w hw => hts w (List.mem_cons_of_mem _ hw)⟩
  have hlocks := B.notSynchronized
  have hret := B.returns
  have hR : 1 ≤ (headSpec (wM yX11_fault cX11_fault 2 (some .int)) { frames := 1, cells := 0, slots := 0, locals := 20 }).room.frames ∧ 20 ≤ (headSpec (wM yX11_fault cX11_fault 2 (some .int)) { frames := 1, cells := 0, slots := 0, locals := 20 }).room.locals := ⟨Nat.le_refl _, Nat.le_refl _⟩
  have dy : Dy D cA ad (V, g) A s.heap s.heap [] := ⟨w0, va_S.rf⟩
  have hl := lv_entry [.ref (ad k0), .int a1] (n := 2) (Nat.le_of_ble_eq_true rfl)
  rw [lg_entry_eq]
  generalize (lg_sl [.ref (ad k0), .int a1] ++ List.replicate (2 - (lg_sl [.ref (ad k0), .int a1]).length) Slot.unset).toArray = ls at hl ⊢
  have hl : lv_has ls 2 [(0, .ref (ad k0)), (1, .int a1)] := hl
  have dy0 : ∃ H0, H0 = s.heap ∧ Dy D cA ad (V, g) A s.heap H0 [] := ⟨_, rfl, dy⟩
  obtain ⟨z, ez⟩ : ∃ z, z = (r0, g0) := ⟨_, rfl⟩
  rw [← ez] at hr
  have hq0 : ∀ (rb : Int32) (gb : Hq), z = (rb, gb) → rb = r0 ∧ gb = g0 := fun rb gb eb => by rw [ez] at eb; exact ⟨(congrArg Prod.fst eb).symm, (congrArg Prod.snd eb).symm⟩
  clear ez w0 dy0
  unfold r_X11_fault at hr
  obtain ⟨H, hH⟩ : ∃ H, H = s.heap := ⟨_, rfl⟩
  obtain ⟨locs, hlo⟩ : ∃ q : List Loc, q = [] := ⟨_, rfl⟩
  have dy : Dy D cA ad (V, g) A s.heap H locs := by rw [hH, hlo]; exact dy
  suffices K : W p l e (headSpec (wM yX11_fault cX11_fault 2 (some .int)) { frames := 1, cells := 0, slots := 0, locals := 20 }).room s m ([.ref (ad k0), .int a1] : List Value).toArray below meth c H locs 0 0 (MQ below (QI D cA ad A r0 (V, g0)) ([.ref (ad k0), .int a1] : List Value).toArray s 0 0 A) (F0 m 0 ls []) by rw [hH, hlo] at K; exact K
  clear hH hlo
  refine lv_iload_n cx.1 cx.2.1 dX11_fault_0 rfl (lv_at hl 1 rfl) ?_
  rcases of_brn hr with ⟨hc, hr⟩ | ⟨hs8, hr⟩
  · refine lv_lookup (off := 27) (tgt := 28) cx.1 cx.2.1 dX11_fault_1 (by decide) (by rw [hc]; decide) (by decide) ?_
    refine lv_aload_n cx.1 cx.2.1 dX11_fault_28 rfl (lv_at hl 0 rfl) ?_
    obtain ⟨hv1, hr⟩ := of_grd hr
    obtain ⟨k2, hf3, hr⟩ := of_bnd hr
    refine h_getR cx fx dy fd_11_3 hv1 tb_368 hf3 dX11_fault_29 ?_
    obtain ⟨hv6, hr⟩ := of_grd hr
    obtain ⟨x5, g4, hc7, hr⟩ := of_bnd2 hr
    refine r_i dy (k_V (As := []) (b := k2) (ci := 3) cx fx dy (c_X3_faultKind hc7) mv_X3_faultKind rfl rfl ⟨Nat.le_trans (by decide) hR.1, Nat.le_trans (by decide) hR.2⟩ tb_693 hv6 rfl (by decide) rfl hl.1 rfl (Nat.le_of_ble_eq_true rfl) ⟨Nat.zero_le _, Nat.zero_le _⟩ dX11_fault_32) (fun H locs dy => ?_)
    obtain ⟨e0, e1⟩ := hq0 _ _ (Option.some.inj hr).symm
    exact h_iret cx dy hlocks hret rfl e0 (by rw [e1]) dX11_fault_35
  rcases of_brn hr with ⟨hc, hr⟩ | ⟨hs16, hr⟩
  · refine lv_lookup (off := 35) (tgt := 36) cx.1 cx.2.1 dX11_fault_1 (by decide) (by rw [hc]; decide) (by decide) ?_
    refine lv_aload_n cx.1 cx.2.1 dX11_fault_36 rfl (lv_at hl 0 rfl) ?_
    obtain ⟨hv9, hr⟩ := of_grd hr
    obtain ⟨k10, hf11, hr⟩ := of_bnd hr
    refine h_getR cx fx dy fd_11_3 hv9 tb_368 hf11 dX11_fault_37 ?_
    obtain ⟨hv14, hr⟩ := of_grd hr
    obtain ⟨x13, g12, hc15, hr⟩ := of_bnd2 hr
    refine r_i dy (k_V (As := []) (b := k10) (ci := 3) cx fx dy (c_X3_faultPlace hc15) mv_X3_faultPlace rfl rfl ⟨Nat.le_trans (by decide) hR.1, Nat.le_trans (by decide) hR.2⟩ tb_697 hv14 rfl (by decide) rfl hl.1 rfl (Nat.le_of_ble_eq_true rfl) ⟨Nat.zero_le _, Nat.zero_le _⟩ dX11_fault_40) (fun H locs dy => ?_)
    obtain ⟨e0, e1⟩ := hq0 _ _ (Option.some.inj hr).symm
    exact h_iret cx dy hlocks hret rfl e0 (by rw [e1]) dX11_fault_43
  refine lv_lookup (off := 43) (tgt := 44) cx.1 cx.2.1 dX11_fault_1 (by decide) ?_ (by decide) ?_
  · simp only [Op.lookupswitch.offset]; rw [if_neg (neI (n := 0) hs8), if_neg (neI (n := 1) hs16)]
  · skip
    refine lv_iconst (v := (-1)) cx.1 cx.2.1 dX11_fault_44 (by decide) ?_
    obtain ⟨e0, e1⟩ := hq0 _ _ (Option.some.inj hr).symm
    exact h_iret cx dy hlocks hret rfl e0 (by rw [e1]) dX11_fault_45
noncomputable def r_X11_law (V : Vk) (k0 : Nat) (a1 : Int32) (a2 : Int32) (g : Hq) : Option (Int32 × Hq) :=
  bnd (r_X11_isWard V a1 g) fun x2 g1 => brn (x2 = 0) (some ((-9 : Int32), g1)) (grd (V k0 = some (11, 0)) <| Option.bind (g1.2.2 k0 4) fun k5 => grd (okV V k5 4 a1) <| Option.bind (g1.2.2 k5 a1.toNatClampNeg) fun k8 => grd (V k8 = some (10, 0)) <| Option.bind (g1.2.2 k8 0) fun k11 => grd (V k11 = some (4, 0)) <| bnd (r_X4_tell V k11 a2 g1) fun x14 g13 => some (x14, g13))
set_option maxHeartbeats 4000000 in
set_option maxRecDepth 100000 in
theorem c_X11_law {l : Launch} {D : va_G} {cA : Nat → ClassId} {sk : (Nat → Nat) × (Nat → Nat)} {ad : Nat → Nat} {A : Nat → Prop} {V : Vk} {k0 : Nat} {a1 : Int32} {a2 : Int32} {g g0 : Hq} {r0 : Int32} (hr : r_X11_law V k0 a1 a2 g = some (r0, g0)) : Met l yX11_law (wM yX11_law cX11_law 3 (some .int)) { frames := 2, cells := 0, slots := 0, locals := 42 } (Pre D cA sk ad (V, g) A [.ref (ad k0), .int a1, .int a2]) (QI D cA ad A r0 (V, g0)) 0 0 A := by
  refine Met.ofW (cc := cX11_law) (maxL := 3) (ret := (some .int)) (by decide) rfl ?_
  intro p e s m args below meth c s₁ B hml hv
  obtain ⟨rfl, fx, w0⟩ := hv
  have hts := atoms_spec (ws := wM yX11_law cX11_law 3 (some .int)) B.pre
  have cx : CallFix p m c cX11_law 3 s ([.ref (ad k0), .int a1, .int a2] : List Value).toArray gw_tbl RX11 := ⟨B.exec, B.bytes, hml, findClass_of_methodNamed B.named, fun w hw => hts w (List.mem_cons_of_mem _ hw)⟩
  have hlocks := B.notSynchronized
  have hret := B.returns
  have hR : 2 ≤ (headSpec (wM yX11_law cX11_law 3 (some .int)) { frames := 2, cells := 0, slots := 0, locals := 42 }).room.frames ∧ 42 ≤ (headSpec (wM yX11_law cX11_law 3 (some .int)) { frames := 2, cells := 0, slots := 0, locals := 42 }).room.locals := ⟨Nat.le_refl _, Nat.le_refl _⟩
  have dy : Dy D cA ad (V, g) A s.heap s.heap [] := ⟨w0, va_S.rf⟩
  have hl := lv_entry [.ref (ad k0), .int a1, .int a2] (n := 3) (Nat.le_of_ble_eq_true rfl)
  rw [lg_entry_eq]
  generalize (lg_sl [.ref (ad k0), .int a1, .int a2] ++ List.replicate (3 - (lg_sl [.ref (ad k0), .int a1, .int a2]).length) Slot.unset).toArray = ls at hl ⊢
  have hl : lv_has ls 3 [(0, .ref (ad k0)), (1, .int a1), (2, .int a2)] := hl
  have dy0 : ∃ H0, H0 = s.heap ∧ Dy D cA ad (V, g) A s.heap H0 [] := ⟨_, rfl, dy⟩
  obtain ⟨z, ez⟩ : ∃ z, z = (r0, g0) := ⟨_, rfl⟩
  rw [← ez] at hr
  have hq0 : ∀ (rb : Int32) (gb : Hq), z = (rb, gb) → rb = r0 ∧ gb = g0 := fun rb gb eb => by rw [ez] at eb; exact ⟨(congrArg Prod.fst eb).symm, (congrArg Prod.snd eb).symm⟩
  clear ez w0 dy0
  unfold r_X11_law at hr
  obtain ⟨H, hH⟩ : ∃ H, H = s.heap := ⟨_, rfl⟩
  obtain ⟨locs, hlo⟩ : ∃ q : List Loc, q = [] := ⟨_, rfl⟩
  have dy : Dy D cA ad (V, g) A s.heap H locs := by rw [hH, hlo]; exact dy
  suffices K : W p l e (headSpec (wM yX11_law cX11_law 3 (some .int)) { frames := 2, cells := 0, slots := 0, locals := 42 }).room s m ([.ref (ad k0), .int a1, .int a2] : List Value).toArray below meth c H locs 0 0 (MQ below (QI D cA ad A r0 (V, g0)) ([.ref (ad k0), .int a1, .int a2] : List Value).toArray s 0 0 A) (F0 m 0 ls []) by rw [hH, hlo] at K; exact K
  clear hH hlo
  refine lv_iload_n cx.1 cx.2.1 dX11_law_0 rfl (lv_at hl 1 rfl) ?_
  obtain ⟨x2, g1, hc3, hr⟩ := of_bnd2 hr
  refine r_i dy (k_S (As := [.int a1]) cx fx dy (c_X11_isWard hc3) mv_X11_isWard rfl rfl ⟨Nat.le_trans (by decide) hR.1, Nat.le_trans (by decide) hR.2⟩ tb_427 rfl hl.1 rfl (Nat.le_of_ble_eq_true rfl) ⟨Nat.zero_le _, Nat.zero_le _⟩ dX11_law_1) (fun H locs dy => ?_)
  rcases of_brn hr with ⟨hc, hr⟩ | ⟨hc, hr⟩
  · refine lv_if_eq (tgt := 23) cx.1 cx.2.1 dX11_law_4 (by decide) (fun _ => ?_) (fun hn => absurd hc hn)
    refine lv_bipush (v := (-9)) cx.1 cx.2.1 dX11_law_23 (by decide) ?_
    obtain ⟨e0, e1⟩ := hq0 _ _ (Option.some.inj hr).symm
    exact h_iret cx dy hlocks hret rfl e0 (by rw [e1]) dX11_law_25
  · refine lv_if_eq (tgt := 23) cx.1 cx.2.1 dX11_law_4 (by decide) (fun hn => absurd hn hc) (fun _ => ?_)
    refine lv_aload_n cx.1 cx.2.1 dX11_law_7 rfl (lv_at hl 0 rfl) ?_
    obtain ⟨hv4, hr⟩ := of_grd hr
    obtain ⟨k5, hf6, hr⟩ := of_bnd hr
    refine h_getR cx fx dy fd_11_4 hv4 tb_369 hf6 dX11_law_8 ?_
    refine lv_iload_n cx.1 cx.2.1 dX11_law_11 rfl (lv_at hl 1 rfl) ?_
    obtain ⟨ha7, hr⟩ := of_grd hr
    obtain ⟨k8, hf9, hr⟩ := of_bnd hr
    refine h_aald (t := 4) cx fx dy (by decide) rfl ha7 hf9 dX11_law_12 ?_
    obtain ⟨hv10, hr⟩ := of_grd hr
    obtain ⟨k11, hf12, hr⟩ := of_bnd hr
    refine h_getRN cx fx dy fd_10_0 hv10 tb_331 hf12 dX11_law_13 ?_
    refine lv_iload_n cx.1 cx.2.1 dX11_law_16 rfl (lv_at hl 2 rfl) ?_
    obtain ⟨hv15, hr⟩ := of_grd hr
    obtain ⟨x14, g13, hc16, hr⟩ := of_bnd2 hr
    refine r_i dy (k_V (As := [.int a2]) (b := k11) (ci := 4) cx fx dy (c_X4_tell hc16) mv_X4_tell rfl rfl ⟨Nat.le_trans (by decide) hR.1, Nat.le_trans (by decide) hR.2⟩ tb_705 hv15 rfl (by decide) rfl hl.1 rfl (Nat.le_of_ble_eq_true rfl) ⟨Nat.zero_le _, Nat.zero_le _⟩ dX11_law_17) (fun H locs dy => ?_)
    refine lv_goto (tgt := 25) cx.1 cx.2.1 dX11_law_20 (by decide) ?_
    obtain ⟨e0, e1⟩ := hq0 _ _ (Option.some.inj hr).symm
    exact h_iret cx dy hlocks hret rfl e0 (by rw [e1]) dX11_law_25
noncomputable def r_X11_may (V : Vk) (k0 : Nat) (a1 : Int32) (a2 : Int32) (a3 : Int32) (a4 : Int32) (g : Hq) : Option (Int32 × Hq) :=
  bnd (r_X11_isTaking V a1 a2 a3 g) fun x2 g1 => brn (x2 = 0) (some ((-2 : Int32), g1)) (grd (V k0 = some (11, 0)) <| Option.bind (g1.2.2 k0 4) fun k5 => grd (okV V k5 4 a1) <| Option.bind (g1.2.2 k5 a1.toNatClampNeg) fun k8 => grd (V k8 = some (10, 0)) <| Option.bind (g1.2.2 k8 0) fun k11 => grd (V k11 = some (4, 0)) <| bnd (r_X4_gives V k11 a2 a3 a4 g1) fun x14 g13 => brn (x14 = 0) (some ((0 : Int32), g13)) (some ((1 : Int32), g13)))
set_option maxHeartbeats 4000000 in
set_option maxRecDepth 100000 in
theorem c_X11_may {l : Launch} {D : va_G} {cA : Nat → ClassId} {sk : (Nat → Nat) × (Nat → Nat)} {ad : Nat → Nat} {A : Nat → Prop} {V : Vk} {k0 : Nat} {a1 : Int32} {a2 : Int32} {a3 : Int32} {a4 : Int32} {g g0 : Hq} {r0 : Int32} (hr : r_X11_may V k0 a1 a2 a3 a4 g = some (r0, g0)) : Met l yX11_may (wM yX11_may cX11_may 5 (some .int)) { frames := 3, cells := 0, slots := 0, locals := 64 } (Pre D cA sk ad (V, g) A [.ref (ad k0), .int a1, .int a2, .int a3, .int a4]) (QI D cA ad A r0 (V, g0)) 0 0 A := by
  refine Met.ofW (cc := cX11_may) (maxL := 5) (ret := (some .int)) (by decide) rfl ?_
  intro p e s m args below meth c s₁ B hml hv
  obtain ⟨rfl, fx, w0⟩ := hv
  have hts := atoms_spec (ws := wM yX11_may cX11_may 5 (some .int)) B.pre
  have cx : CallFix p m c cX11_may 5 s ([.ref (ad k0), .int a1, .int a2, .int a3, .int a4] : List Value).toArray gw_tbl RX11 := ⟨B.exec, B.bytes, hml, findClass_of_methodNamed B.named, fun w hw => hts w (List.mem_cons_of_mem _ hw)⟩
  have hlocks := B.notSynchronized
  have hret := B.returns
  have hR : 3 ≤ (headSpec (wM yX11_may cX11_may 5 (some .int)) { frames := 3, cells := 0, slots := 0, locals := 64 }).room.frames ∧ 64 ≤ (headSpec (wM yX11_may cX11_may 5 (some .int)) { frames := 3, cells := 0, slots := 0, locals := 64 }).room.locals := ⟨Nat.le_refl _, Nat.le_refl _⟩
  have dy : Dy D cA ad (V, g) A s.heap s.heap [] := ⟨w0, va_S.rf⟩
  have hl := lv_entry [.ref (ad k0), .int a1, .int a2, .int a3, .int a4] (n := 5) (Nat.le_of_ble_eq_true rfl)
  rw [lg_entry_eq]
  generalize (lg_sl [.ref (ad k0), .int a1, .int a2, .int a3, .int a4] ++ List.replicate (5 - (lg_sl [.ref (ad k0), .int a1, .int a2, .int a3, .int a4]).length) Slot.unset).toArray = ls at hl ⊢
  have hl : lv_has ls 5 [(0, .ref (ad k0)), (1, .int a1), (2, .int a2), (3, .int a3), (4, .int a4)] := hl
  have dy0 : ∃ H0, H0 = s.heap ∧ Dy D cA ad (V, g) A s.heap H0 [] := ⟨_, rfl, dy⟩
  obtain ⟨z, ez⟩ : ∃ z, z = (r0, g0) := ⟨_, rfl⟩
  rw [← ez] at hr
  have hq0 : ∀ (rb : Int32) (gb : Hq), z = (rb, gb) → rb = r0 ∧ gb = g0 := fun rb gb eb => by rw [ez] at eb; exact ⟨(congrArg Prod.fst eb).symm, (congrArg Prod.snd eb).symm⟩
  clear ez w0 dy0
  unfold r_X11_may at hr
  obtain ⟨H, hH⟩ : ∃ H, H = s.heap := ⟨_, rfl⟩
  obtain ⟨locs, hlo⟩ : ∃ q : List Loc, q = [] := ⟨_, rfl⟩
  have dy : Dy D cA ad (V, g) A s.heap H locs := by rw [hH, hlo]; exact dy
  suffices K : W p l e (headSpec (wM yX11_may cX11_may 5 (some .int)) { frames := 3, cells := 0, slots := 0, locals := 64 }).room s m ([.ref (ad k0), .int a1, .int a2, .int a3, .int a4] : List Value).toArray below meth c H locs 0 0 (MQ below (QI D cA ad A r0 (V, g0)) ([.ref (ad k0), .int a1, .int a2, .int a3, .int a4] : List Value).toArray s 0 0 A) (F0 m 0 ls []) by rw [hH, hlo] at K; exact K
  clear hH hlo
  refine lv_iload_n cx.1 cx.2.1 dX11_may_0 rfl (lv_at hl 1 rfl) ?_
  refine lv_iload_n cx.1 cx.2.1 dX11_may_1 rfl (lv_at hl 2 rfl) ?_
  refine lv_iload_n cx.1 cx.2.1 dX11_may_2 rfl (lv_at hl 3 rfl) ?_
  obtain ⟨x2, g1, hc3, hr⟩ := of_bnd2 hr
  refine r_i dy (k_S (As := [.int a1, .int a2, .int a3]) cx fx dy (c_X11_isTaking hc3) mv_X11_isTaking rfl rfl ⟨Nat.le_trans (by decide) hR.1, Nat.le_trans (by decide) hR.2⟩ tb_713 rfl hl.1 rfl (Nat.le_of_ble_eq_true rfl) ⟨Nat.zero_le _, Nat.zero_le _⟩ dX11_may_3) (fun H locs dy => ?_)
  rcases of_brn hr with ⟨hc, hr⟩ | ⟨hc, hr⟩
  · refine lv_if_ne (tgt := 12) cx.1 cx.2.1 dX11_may_6 (by decide) (fun hn => absurd hc hn) (fun _ => ?_)
    refine lv_bipush (v := (-2)) cx.1 cx.2.1 dX11_may_9 (by decide) ?_
    obtain ⟨e0, e1⟩ := hq0 _ _ (Option.some.inj hr).symm
    exact h_iret cx dy hlocks hret rfl e0 (by rw [e1]) dX11_may_11
  · refine lv_if_ne (tgt := 12) cx.1 cx.2.1 dX11_may_6 (by decide) (fun _ => ?_) (fun hn => absurd hn hc)
    refine lv_aload_n cx.1 cx.2.1 dX11_may_12 rfl (lv_at hl 0 rfl) ?_
    obtain ⟨hv4, hr⟩ := of_grd hr
    obtain ⟨k5, hf6, hr⟩ := of_bnd hr
    refine h_getR cx fx dy fd_11_4 hv4 tb_369 hf6 dX11_may_13 ?_
    refine lv_iload_n cx.1 cx.2.1 dX11_may_16 rfl (lv_at hl 1 rfl) ?_
    obtain ⟨ha7, hr⟩ := of_grd hr
    obtain ⟨k8, hf9, hr⟩ := of_bnd hr
    refine h_aald (t := 4) cx fx dy (by decide) rfl ha7 hf9 dX11_may_17 ?_
    obtain ⟨hv10, hr⟩ := of_grd hr
    obtain ⟨k11, hf12, hr⟩ := of_bnd hr
    refine h_getRN cx fx dy fd_10_0 hv10 tb_331 hf12 dX11_may_18 ?_
    refine lv_iload_n cx.1 cx.2.1 dX11_may_21 rfl (lv_at hl 2 rfl) ?_
    refine lv_iload_n cx.1 cx.2.1 dX11_may_22 rfl (lv_at hl 3 rfl) ?_
    refine lv_iload cx.1 cx.2.1 dX11_may_23 (lv_at hl 4 rfl) ?_
    obtain ⟨hv15, hr⟩ := of_grd hr
    obtain ⟨x14, g13, hc16, hr⟩ := of_bnd2 hr
    refine r_i dy (k_V (As := [.int a2, .int a3, .int a4]) (b := k11) (ci := 4) cx fx dy (c_X4_gives hc16) mv_X4_gives rfl rfl ⟨Nat.le_trans (by decide) hR.1, Nat.le_trans (by decide) hR.2⟩ tb_716 hv15 rfl (by decide) rfl hl.1 rfl (Nat.le_of_ble_eq_true rfl) ⟨Nat.zero_le _, Nat.zero_le _⟩ dX11_may_25) (fun H locs dy => ?_)
    rcases of_brn hr with ⟨hc, hr⟩ | ⟨hc, hr⟩
    · refine lv_if_eq (tgt := 35) cx.1 cx.2.1 dX11_may_28 (by decide) (fun _ => ?_) (fun hn => absurd hc hn)
      refine lv_iconst (v := 0) cx.1 cx.2.1 dX11_may_35 (by decide) ?_
      obtain ⟨e0, e1⟩ := hq0 _ _ (Option.some.inj hr).symm
      exact h_iret cx dy hlocks hret rfl e0 (by rw [e1]) dX11_may_36
    · refine lv_if_eq (tgt := 35) cx.1 cx.2.1 dX11_may_28 (by decide) (fun hn => absurd hn hc) (fun _ => ?_)
      refine lv_iconst (v := 1) cx.1 cx.2.1 dX11_may_31 (by decide) ?_
      refine lv_goto (tgt := 36) cx.1 cx.2.1 dX11_may_32 (by decide) ?_
      obtain ⟨e0, e1⟩ := hq0 _ _ (Option.some.inj hr).symm
      exact h_iret cx dy hlocks hret rfl e0 (by rw [e1]) dX11_may_36
noncomputable def r_X11_purse (V : Vk) (k0 : Nat) (a1 : Int32) (a2 : Int32) (g : Hq) : Option (Int32 × Hq) :=
  grd (V k0 = some (11, 0)) <| Option.bind (g.2.2 k0 5) fun k2 => grd (V k2 = some (7, 0)) <| bnd (r_X7_find V k2 a1 g) fun ok5 g4 => onn ok5 (some ((-2 : Int32), g4)) (fun k5 => bnd (r_X11_isFrom V a2 (1 : Int32) (100000 : Int32) g4) fun x9 g8 => brn (x9 = 0) (some ((-2 : Int32), g8)) (grd (V k5 = some (2, 0)) <| brn (((g8.1 k5 2) + a2) ≤ (1000000 : Int32)) (nm (sI g8 k5 2 ((g8.1 k5 2) + a2)) fun g12 => some ((g12.1 k5 2), g12)) (some ((-2 : Int32), g8))))
set_option maxHeartbeats 4000000 in
set_option maxRecDepth 100000 in
theorem c_X11_purse {l : Launch} {D : va_G} {cA : Nat → ClassId} {sk : (Nat → Nat) × (Nat → Nat)} {ad : Nat → Nat} {A : Nat → Prop} {V : Vk} {k0 : Nat} {a1 : Int32} {a2 : Int32} {g g0 : Hq} {r0 : Int32} (hr : r_X11_purse V k0 a1 a2 g = some (r0, g0)) : Met l yX11_purse (wM yX11_purse cX11_purse 4 (some .int)) { frames := 1, cells := 0, slots := 0, locals := 22 } (Pre D cA sk ad (V, g) A [.ref (ad k0), .int a1, .int a2]) (QI D cA ad A r0 (V, g0)) 0 0 A := by
  refine Met.ofW (cc := cX11_purse) (maxL := 4) (ret := (some .int)) (by decide) rfl ?_
  intro p e s m args below meth c s₁ B hml hv
  obtain ⟨rfl, fx, w0⟩ := hv
  have hts := atoms_spec (ws := wM yX11_purse cX11_purse 4 (some .int)) B.pre
  have cx : CallFix p m c cX11_purse 4 s ([.ref (ad k0), .int a1, .int a2] : List Value).toArray gw_tbl RX11 := ⟨B.exec, B.bytes, hml, findClass_of_methodNamed B.named, fun w hw => hts w (List.mem_cons_of_mem _ hw)⟩
  have hlocks := B.notSynchronized
  have hret := B.returns
  have hR : 1 ≤ (headSpec (wM yX11_purse cX11_purse 4 (some .int)) { frames := 1, cells := 0, slots := 0, locals := 22 }).room.frames ∧ 22 ≤ (headSpec (wM yX11_purse cX11_purse 4 (some .int)) { frames := 1, cells := 0, slots := 0, locals := 22 }).room.locals := ⟨Nat.le_refl _, Nat.le_refl _⟩
  have dy : Dy D cA ad (V, g) A s.heap s.heap [] := ⟨w0, va_S.rf⟩
  have hl := lv_entry [.ref (ad k0), .int a1, .int a2] (n := 4) (Nat.le_of_ble_eq_true rfl)
  rw [lg_entry_eq]
  generalize (lg_sl [.ref (ad k0), .int a1, .int a2] ++ List.replicate (4 - (lg_sl [.ref (ad k0), .int a1, .int a2]).length) Slot.unset).toArray = ls at hl ⊢
  have hl : lv_has ls 4 [(0, .ref (ad k0)), (1, .int a1), (2, .int a2)] := hl
  have dy0 : ∃ H0, H0 = s.heap ∧ Dy D cA ad (V, g) A s.heap H0 [] := ⟨_, rfl, dy⟩
  obtain ⟨z, ez⟩ : ∃ z, z = (r0, g0) := ⟨_, rfl⟩
  rw [← ez] at hr
  have hq0 : ∀ (rb : Int32) (gb : Hq), z = (rb, gb) → rb = r0 ∧ gb = g0 := fun rb gb eb => by rw [ez] at eb; exact ⟨(congrArg Prod.fst eb).symm, (congrArg Prod.snd eb).symm⟩
  clear ez w0 dy0
  unfold r_X11_purse at hr
  obtain ⟨H, hH⟩ : ∃ H, H = s.heap := ⟨_, rfl⟩
  obtain ⟨locs, hlo⟩ : ∃ q : List Loc, q = [] := ⟨_, rfl⟩
  have dy : Dy D cA ad (V, g) A s.heap H locs := by rw [hH, hlo]; exact dy
  suffices K : W p l e (headSpec (wM yX11_purse cX11_purse 4 (some .int)) { frames := 1, cells := 0, slots := 0, locals := 22 }).room s m ([.ref (ad k0), .int a1, .int a2] : List Value).toArray below meth c H locs 0 0 (MQ below (QI D cA ad A r0 (V, g0)) ([.ref (ad k0), .int a1, .int a2] : List Value).toArray s 0 0 A) (F0 m 0 ls []) by rw [hH, hlo] at K; exact K
  clear hH hlo
  refine lv_aload_n cx.1 cx.2.1 dX11_purse_0 rfl (lv_at hl 0 rfl) ?_
  obtain ⟨hv1, hr⟩ := of_grd hr
  obtain ⟨k2, hf3, hr⟩ := of_bnd hr
  refine h_getR cx fx dy fd_11_5 hv1 tb_370 hf3 dX11_purse_1 ?_
  refine lv_iload_n cx.1 cx.2.1 dX11_purse_4 rfl (lv_at hl 1 rfl) ?_
  obtain ⟨hv6, hr⟩ := of_grd hr
  obtain ⟨ok5, g4, hc7, hr⟩ := of_bnd2 hr
  refine r_q dy (k_V (As := [.int a1]) (b := k2) (ci := 7) cx fx dy (c_X7_find hc7) mv_X7_find rfl rfl ⟨Nat.le_trans (by decide) hR.1, Nat.le_trans (by decide) hR.2⟩ tb_764 hv6 rfl (by decide) rfl hl.1 rfl (Nat.le_of_ble_eq_true rfl) ⟨Nat.zero_le _, Nat.zero_le _⟩ dX11_purse_5) (fun H locs dy => ?_)
  rcases of_onn hr with ⟨ho, hr'⟩ | ⟨k5, ho, hr'⟩
  · clear hr; have hr := hr'; clear hr'; subst ho; refine lv_rf0 ?_
    refine lv_astore_nN (lv' := [(3, .null), (0, .ref (ad k0)), (1, .int a1), (2, .int a2)]) cx.1 cx.2.1 dX11_purse_8 rfl hl (by decide) rfl (fun ls hl => ?_)
    refine lv_aload_nN cx.1 cx.2.1 dX11_purse_9 rfl (lv_at hl 0 rfl) ?_
    refine lv_ifnullN (tgt := 34) cx.1 cx.2.1 dX11_purse_10 (by decide) ?_
    refine lv_bipush (v := (-2)) cx.1 cx.2.1 dX11_purse_34 (by decide) ?_
    obtain ⟨e0, e1⟩ := hq0 _ _ (Option.some.inj hr).symm
    exact h_iret cx dy hlocks hret rfl e0 (by rw [e1]) dX11_purse_36
  · clear hr; have hr := hr'; clear hr'; subst ho; refine lv_rf1 ?_
    refine lv_astore_n (lv' := [(3, .ref (ad k5)), (0, .ref (ad k0)), (1, .int a1), (2, .int a2)]) cx.1 cx.2.1 dX11_purse_8 rfl hl (by decide) rfl (fun ls hl => ?_)
    refine lv_aload_n cx.1 cx.2.1 dX11_purse_9 rfl (lv_at hl 0 rfl) ?_
    refine lv_ifnull cx.1 cx.2.1 dX11_purse_10 ?_
    refine lv_iload_n cx.1 cx.2.1 dX11_purse_13 rfl (lv_at hl 3 rfl) ?_
    refine lv_iconst (v := 1) cx.1 cx.2.1 dX11_purse_14 (by decide) ?_
    refine lv_ldc (v := (100000)) cx.1 cx.2.1 cx.2.2.2.1 (cx.2.2.2.2 _ tb_768) dX11_purse_15 ?_
    obtain ⟨x9, g8, hc10, hr⟩ := of_bnd2 hr
    refine r_i dy (k_S (As := [.int a2, .int (1 : Int32), .int (100000 : Int32)]) cx fx dy (c_X11_isFrom hc10) mv_X11_isFrom rfl rfl ⟨Nat.le_trans (by decide) hR.1, Nat.le_trans (by decide) hR.2⟩ tb_424 rfl hl.1 rfl (Nat.le_of_ble_eq_true rfl) ⟨Nat.zero_le _, Nat.zero_le _⟩ dX11_purse_17) (fun H locs dy => ?_)
    rcases of_brn hr with ⟨hc, hr⟩ | ⟨hc, hr⟩
    · refine lv_if_eq (tgt := 34) cx.1 cx.2.1 dX11_purse_20 (by decide) (fun _ => ?_) (fun hn => absurd hc hn)
      refine lv_bipush (v := (-2)) cx.1 cx.2.1 dX11_purse_34 (by decide) ?_
      obtain ⟨e0, e1⟩ := hq0 _ _ (Option.some.inj hr).symm
      exact h_iret cx dy hlocks hret rfl e0 (by rw [e1]) dX11_purse_36
    · refine lv_if_eq (tgt := 34) cx.1 cx.2.1 dX11_purse_20 (by decide) (fun hn => absurd hn hc) (fun _ => ?_)
      refine lv_aload_n cx.1 cx.2.1 dX11_purse_23 rfl (lv_at hl 0 rfl) ?_
      obtain ⟨hv11, hr⟩ := of_grd hr
      refine h_getIN cx fx dy fd_2_2 hv11 tb_742 dX11_purse_24 ?_
      refine lv_iload_n cx.1 cx.2.1 dX11_purse_27 rfl (lv_at hl 3 rfl) ?_
      refine lv_iadd cx.1 cx.2.1 dX11_purse_28 ?_
      refine lv_ldc (v := (1000000)) cx.1 cx.2.1 cx.2.2.2.1 (cx.2.2.2.2 _ tb_769) dX11_purse_29 ?_
      rcases of_brn hr with ⟨hc, hr⟩ | ⟨hc, hr⟩
      · refine lv_icmp_le (tgt := 37) cx.1 cx.2.1 dX11_purse_31 (by decide) (fun _ => ?_) (fun hn => absurd hc hn)
        refine lv_aload_n cx.1 cx.2.1 dX11_purse_37 rfl (lv_at hl 0 rfl) ?_
        refine lv_dup cx.1 cx.2.1 dX11_purse_38 rfl ?_
        refine h_getIN cx fx dy fd_2_2 hv11 tb_742 dX11_purse_39 ?_
        refine lv_iload_n cx.1 cx.2.1 dX11_purse_42 rfl (lv_at hl 3 rfl) ?_
        refine lv_iadd cx.1 cx.2.1 dX11_purse_43 ?_
        obtain ⟨g12, eg12, hr⟩ := of_nm hr
        refine h_putIN cx fx dy fd_2_2 (pd_2_2 : PD _ _ _ _ _ .int) rfl rfl rfl hv11 tb_742 dX11_purse_44 (fun H locs dy => ?_)
        replace dy : Dy D cA ad (V, g12) A s.heap H locs := by rw [eg12]; exact dy
        refine lv_aload_n cx.1 cx.2.1 dX11_purse_47 rfl (lv_at hl 0 rfl) ?_
        refine h_getIN cx fx dy fd_2_2 hv11 tb_742 dX11_purse_48 ?_
        obtain ⟨e0, e1⟩ := hq0 _ _ (Option.some.inj hr).symm
        exact h_iret cx dy hlocks hret rfl e0 (by rw [e1]) dX11_purse_51
      · refine lv_icmp_le (tgt := 37) cx.1 cx.2.1 dX11_purse_31 (by decide) (fun hn => absurd hn hc) (fun _ => ?_)
        refine lv_bipush (v := (-2)) cx.1 cx.2.1 dX11_purse_34 (by decide) ?_
        obtain ⟨e0, e1⟩ := hq0 _ _ (Option.some.inj hr).symm
        exact h_iret cx dy hlocks hret rfl e0 (by rw [e1]) dX11_purse_36
noncomputable def r_X11_would (V : Vk) (k0 : Nat) (a1 : Int32) (a2 : Int32) (g : Hq) : Option (Int32 × Hq) :=
  grd (V k0 = some (11, 0)) <| Option.bind (g.2.2 k0 5) fun k2 => grd (V k2 = some (7, 0)) <| bnd (r_X7_find V k2 a1 g) fun ok5 g4 => onn ok5 (some ((-2 : Int32), g4)) (fun k5 => bnd (r_X11_isFrom V a2 (0 : Int32) (2 : Int32) g4) fun x9 g8 => brn (x9 = 0) (some ((-2 : Int32), g8)) (grd (V k5 = some (2, 0)) <| nm (g8.1 k5 3) fun x12 => nm (sI g8 k5 3 a2) fun g13 => some (x12, g13)))
set_option maxHeartbeats 4000000 in
set_option maxRecDepth 100000 in
theorem c_X11_would {l : Launch} {D : va_G} {cA : Nat → ClassId} {sk : (Nat → Nat) × (Nat → Nat)} {ad : Nat → Nat} {A : Nat → Prop} {V : Vk} {k0 : Nat} {a1 : Int32} {a2 : Int32} {g g0 : Hq} {r0 : Int32} (hr : r_X11_would V k0 a1 a2 g = some (r0, g0)) : Met l yX11_would (wM yX11_would cX11_would 5 (some .int)) { frames := 1, cells := 0, slots := 0, locals := 22 } (Pre D cA sk ad (V, g) A [.ref (ad k0), .int a1, .int a2]) (QI D cA ad A r0 (V, g0)) 0 0 A := by
  refine Met.ofW (cc := cX11_would) (maxL := 5) (ret := (some .int)) (by decide) rfl ?_
  intro p e s m args below meth c s₁ B hml hv
  obtain ⟨rfl, fx, w0⟩ := hv
  have hts := atoms_spec (ws := wM yX11_would cX11_would 5 (some .int)) B.pre
  have cx : CallFix p m c cX11_would 5 s ([.ref (ad k0), .int a1, .int a2] : List Value).toArray gw_tbl RX11 := ⟨B.exec, B.bytes, hml, findClass_of_methodNamed B.named, fun w hw => hts w (List.mem_cons_of_mem _ hw)⟩
  have hlocks := B.notSynchronized
  have hret := B.returns
  have hR : 1 ≤ (headSpec (wM yX11_would cX11_would 5 (some .int)) { frames := 1, cells := 0, slots := 0, locals := 22 }).room.frames ∧ 22 ≤ (headSpec (wM yX11_would cX11_would 5 (some .int)) { frames := 1, cells := 0, slots := 0, locals := 22 }).room.locals := ⟨Nat.le_refl _, Nat.le_refl _⟩
  have dy : Dy D cA ad (V, g) A s.heap s.heap [] := ⟨w0, va_S.rf⟩
  have hl := lv_entry [.ref (ad k0), .int a1, .int a2] (n := 5) (Nat.le_of_ble_eq_true rfl)
  rw [lg_entry_eq]
  generalize (lg_sl [.ref (ad k0), .int a1, .int a2] ++ List.replicate (5 - (lg_sl [.ref (ad k0), .int a1, .int a2]).length) Slot.unset).toArray = ls at hl ⊢
  have hl : lv_has ls 5 [(0, .ref (ad k0)), (1, .int a1), (2, .int a2)] := hl
  have dy0 : ∃ H0, H0 = s.heap ∧ Dy D cA ad (V, g) A s.heap H0 [] := ⟨_, rfl, dy⟩
  obtain ⟨z, ez⟩ : ∃ z, z = (r0, g0) := ⟨_, rfl⟩
  rw [← ez] at hr
  have hq0 : ∀ (rb : Int32) (gb : Hq), z = (rb, gb) → rb = r0 ∧ gb = g0 := fun rb gb eb => by rw [ez] at eb; exact ⟨(congrArg Prod.fst eb).symm, (congrArg Prod.snd eb).symm⟩
  clear ez w0 dy0
  unfold r_X11_would at hr
  obtain ⟨H, hH⟩ : ∃ H, H = s.heap := ⟨_, rfl⟩
  obtain ⟨locs, hlo⟩ : ∃ q : List Loc, q = [] := ⟨_, rfl⟩
  have dy : Dy D cA ad (V, g) A s.heap H locs := by rw [hH, hlo]; exact dy
  suffices K : W p l e (headSpec (wM yX11_would cX11_would 5 (some .int)) { frames := 1, cells := 0, slots := 0, locals := 22 }).room s m ([.ref (ad k0), .int a1, .int a2] : List Value).toArray below meth c H locs 0 0 (MQ below (QI D cA ad A r0 (V, g0)) ([.ref (ad k0), .int a1, .int a2] : List Value).toArray s 0 0 A) (F0 m 0 ls []) by rw [hH, hlo] at K; exact K
  clear hH hlo
  refine lv_aload_n cx.1 cx.2.1 dX11_would_0 rfl (lv_at hl 0 rfl) ?_
  obtain ⟨hv1, hr⟩ := of_grd hr
  obtain ⟨k2, hf3, hr⟩ := of_bnd hr
  refine h_getR cx fx dy fd_11_5 hv1 tb_370 hf3 dX11_would_1 ?_
  refine lv_iload_n cx.1 cx.2.1 dX11_would_4 rfl (lv_at hl 1 rfl) ?_
  obtain ⟨hv6, hr⟩ := of_grd hr
  obtain ⟨ok5, g4, hc7, hr⟩ := of_bnd2 hr
  refine r_q dy (k_V (As := [.int a1]) (b := k2) (ci := 7) cx fx dy (c_X7_find hc7) mv_X7_find rfl rfl ⟨Nat.le_trans (by decide) hR.1, Nat.le_trans (by decide) hR.2⟩ tb_764 hv6 rfl (by decide) rfl hl.1 rfl (Nat.le_of_ble_eq_true rfl) ⟨Nat.zero_le _, Nat.zero_le _⟩ dX11_would_5) (fun H locs dy => ?_)
  rcases of_onn hr with ⟨ho, hr'⟩ | ⟨k5, ho, hr'⟩
  · clear hr; have hr := hr'; clear hr'; subst ho; refine lv_rf0 ?_
    refine lv_astore_nN (lv' := [(3, .null), (0, .ref (ad k0)), (1, .int a1), (2, .int a2)]) cx.1 cx.2.1 dX11_would_8 rfl hl (by decide) rfl (fun ls hl => ?_)
    refine lv_aload_nN cx.1 cx.2.1 dX11_would_9 rfl (lv_at hl 0 rfl) ?_
    refine lv_ifnullN (tgt := 22) cx.1 cx.2.1 dX11_would_10 (by decide) ?_
    refine lv_bipush (v := (-2)) cx.1 cx.2.1 dX11_would_22 (by decide) ?_
    obtain ⟨e0, e1⟩ := hq0 _ _ (Option.some.inj hr).symm
    exact h_iret cx dy hlocks hret rfl e0 (by rw [e1]) dX11_would_24
  · clear hr; have hr := hr'; clear hr'; subst ho; refine lv_rf1 ?_
    refine lv_astore_n (lv' := [(3, .ref (ad k5)), (0, .ref (ad k0)), (1, .int a1), (2, .int a2)]) cx.1 cx.2.1 dX11_would_8 rfl hl (by decide) rfl (fun ls hl => ?_)
    refine lv_aload_n cx.1 cx.2.1 dX11_would_9 rfl (lv_at hl 0 rfl) ?_
    refine lv_ifnull cx.1 cx.2.1 dX11_would_10 ?_
    refine lv_iload_n cx.1 cx.2.1 dX11_would_13 rfl (lv_at hl 3 rfl) ?_
    refine lv_iconst (v := 0) cx.1 cx.2.1 dX11_would_14 (by decide) ?_
    refine lv_iconst (v := 2) cx.1 cx.2.1 dX11_would_15 (by decide) ?_
    obtain ⟨x9, g8, hc10, hr⟩ := of_bnd2 hr
    refine r_i dy (k_S (As := [.int a2, .int (0 : Int32), .int (2 : Int32)]) cx fx dy (c_X11_isFrom hc10) mv_X11_isFrom rfl rfl ⟨Nat.le_trans (by decide) hR.1, Nat.le_trans (by decide) hR.2⟩ tb_424 rfl hl.1 rfl (Nat.le_of_ble_eq_true rfl) ⟨Nat.zero_le _, Nat.zero_le _⟩ dX11_would_16) (fun H locs dy => ?_)
    rcases of_brn hr with ⟨hc, hr⟩ | ⟨hc, hr⟩
    · refine lv_if_ne (tgt := 25) cx.1 cx.2.1 dX11_would_19 (by decide) (fun hn => absurd hc hn) (fun _ => ?_)
      refine lv_bipush (v := (-2)) cx.1 cx.2.1 dX11_would_22 (by decide) ?_
      obtain ⟨e0, e1⟩ := hq0 _ _ (Option.some.inj hr).symm
      exact h_iret cx dy hlocks hret rfl e0 (by rw [e1]) dX11_would_24
    · refine lv_if_ne (tgt := 25) cx.1 cx.2.1 dX11_would_19 (by decide) (fun _ => ?_) (fun hn => absurd hn hc)
      refine lv_aload_n cx.1 cx.2.1 dX11_would_25 rfl (lv_at hl 0 rfl) ?_
      obtain ⟨hv11, hr⟩ := of_grd hr
      refine h_getIN cx fx dy fd_2_3 hv11 tb_744 dX11_would_26 ?_
      obtain ⟨x12, ex12, hr⟩ := of_nm hr
      refine lv_nmi ex12 ?_
      refine lv_istore (lv' := [(4, .int x12), (3, .ref (ad k5)), (0, .ref (ad k0)), (1, .int a1), (2, .int a2)]) cx.1 cx.2.1 dX11_would_29 hl (by decide) rfl (fun ls hl => ?_)
      refine lv_aload_n cx.1 cx.2.1 dX11_would_31 rfl (lv_at hl 1 rfl) ?_
      refine lv_iload_n cx.1 cx.2.1 dX11_would_32 rfl (lv_at hl 4 rfl) ?_
      obtain ⟨g13, eg13, hr⟩ := of_nm hr
      refine h_putIN cx fx dy fd_2_3 (pd_2_3 : PD _ _ _ _ _ .int) rfl rfl rfl hv11 tb_744 dX11_would_33 (fun H locs dy => ?_)
      replace dy : Dy D cA ad (V, g13) A s.heap H locs := by rw [eg13]; exact dy
      refine lv_iload cx.1 cx.2.1 dX11_would_36 (lv_at hl 0 rfl) ?_
      obtain ⟨e0, e1⟩ := hq0 _ _ (Option.some.inj hr).symm
      exact h_iret cx dy hlocks hret rfl e0 (by rw [e1]) dX11_would_38
noncomputable def r_X11_fill (V : Vk) (k0 : Nat) (a1 : Int32) (a2 : Int32) (g : Hq) : Option (Int32 × Hq) :=
  bnd (r_X11_isWard V a1 g) fun x2 g1 => brn (x2 = 0) (some ((-2 : Int32), g1)) (grd (V k0 = some (11, 0)) <| Option.bind (g1.2.2 k0 4) fun k5 => grd (okV V k5 4 a1) <| Option.bind (g1.2.2 k5 a1.toNatClampNeg) fun k8 => grd (V k8 = some (10, 0)) <| bnd (r_X10_nextYear V k8 a2 g1) fun x11 g10 => brn (x11 = (-1 : Int32)) (some ((-2 : Int32), g10)) (Option.bind (g10.2.2 k0 5) fun k14 => Option.bind (g10.2.2 k0 4) fun k16 => grd (okV V k16 4 a1) <| Option.bind (g10.2.2 k16 a1.toNatClampNeg) fun k19 => grd (V k14 = some (7, 0)) <| bnd (r_X7_fillYear V k14 a1 k19 x11 g10) fun x22 g21 => some (x22, g21)))
set_option maxHeartbeats 4000000 in
set_option maxRecDepth 100000 in
theorem c_X11_fill {l : Launch} {D : va_G} {cA : Nat → ClassId} {sk : (Nat → Nat) × (Nat → Nat)} {ad : Nat → Nat} {A : Nat → Prop} {V : Vk} {k0 : Nat} {a1 : Int32} {a2 : Int32} {g g0 : Hq} {r0 : Int32} (hr : r_X11_fill V k0 a1 a2 g = some (r0, g0)) : Met l yX11_fill (wM yX11_fill cX11_fill 4 (some .int)) { frames := 3, cells := 0, slots := 0, locals := 74 } (Pre D cA sk ad (V, g) A [.ref (ad k0), .int a1, .int a2]) (QI D cA ad A r0 (V, g0)) 0 0 A := by
  refine Met.ofW (cc := cX11_fill) (maxL := 4) (ret := (some .int)) (by decide) rfl ?_
  intro p e s m args below meth c s₁ B hml hv
  obtain ⟨rfl, fx, w0⟩ := hv
  have hts := atoms_spec (ws := wM yX11_fill cX11_fill 4 (some .int)) B.pre
  have cx : CallFix p m c cX11_fill 4 s ([.ref (ad k0), .int a1, .int a2] : List Value).toArray gw_tbl RX11 := ⟨B.exec, B.bytes, hml, findClass_of_methodNamed B.named, fun w hw => hts w (List.mem_cons_of_mem _ hw)⟩
  have hlocks := B.notSynchronized
  have hret := B.returns
  have hR : 3 ≤ (headSpec (wM yX11_fill cX11_fill 4 (some .int)) { frames := 3, cells := 0, slots := 0, locals := 74 }).room.frames ∧ 74 ≤ (headSpec (wM yX11_fill cX11_fill 4 (some .int)) { frames := 3, cells := 0, slots := 0, locals := 74 }).room.locals := ⟨Nat.le_refl _, Nat.le_refl _⟩
  have dy : Dy D cA ad (V, g) A s.heap s.heap [] := ⟨w0, va_S.rf⟩
  have hl := lv_entry [.ref (ad k0), .int a1, .int a2] (n := 4) (Nat.le_of_ble_eq_true rfl)
  rw [lg_entry_eq]
  generalize (lg_sl [.ref (ad k0), .int a1, .int a2] ++ List.replicate (4 - (lg_sl [.ref (ad k0), .int a1, .int a2]).length) Slot.unset).toArray = ls at hl ⊢
  have hl : lv_has ls 4 [(0, .ref (ad k0)), (1, .int a1), (2, .int a2)] := hl
  have dy0 : ∃ H0, H0 = s.heap ∧ Dy D cA ad (V, g) A s.heap H0 [] := ⟨_, rfl, dy⟩
  obtain ⟨z, ez⟩ : ∃ z, z = (r0, g0) := ⟨_, rfl⟩
  rw [← ez] at hr
  have hq0 : ∀ (rb : Int32) (gb : Hq), z = (rb, gb) → rb = r0 ∧ gb = g0 := fun rb gb eb => by rw [ez] at eb; exact ⟨(congrArg Prod.fst eb).symm, (congrArg Prod.snd eb).symm⟩
  clear ez w0 dy0
  unfold r_X11_fill at hr
  obtain ⟨H, hH⟩ : ∃ H, H = s.heap := ⟨_, rfl⟩
  obtain ⟨locs, hlo⟩ : ∃ q : List Loc, q = [] := ⟨_, rfl⟩
  have dy : Dy D cA ad (V, g) A s.heap H locs := by rw [hH, hlo]; exact dy
  suffices K : W p l e (headSpec (wM yX11_fill cX11_fill 4 (some .int)) { frames := 3, cells := 0, slots := 0, locals := 74 }).room s m ([.ref (ad k0), .int a1, .int a2] : List Value).toArray below meth c H locs 0 0 (MQ below (QI D cA ad A r0 (V, g0)) ([.ref (ad k0), .int a1, .int a2] : List Value).toArray s 0 0 A) (F0 m 0 ls []) by rw [hH, hlo] at K; exact K
  clear hH hlo
  refine lv_iload_n cx.1 cx.2.1 dX11_fill_0 rfl (lv_at hl 1 rfl) ?_
  obtain ⟨x2, g1, hc3, hr⟩ := of_bnd2 hr
  refine r_i dy (k_S (As := [.int a1]) cx fx dy (c_X11_isWard hc3) mv_X11_isWard rfl rfl ⟨Nat.le_trans (by decide) hR.1, Nat.le_trans (by decide) hR.2⟩ tb_427 rfl hl.1 rfl (Nat.le_of_ble_eq_true rfl) ⟨Nat.zero_le _, Nat.zero_le _⟩ dX11_fill_1) (fun H locs dy => ?_)
  rcases of_brn hr with ⟨hc, hr⟩ | ⟨hc, hr⟩
  · refine lv_if_ne (tgt := 10) cx.1 cx.2.1 dX11_fill_4 (by decide) (fun hn => absurd hc hn) (fun _ => ?_)
    refine lv_bipush (v := (-2)) cx.1 cx.2.1 dX11_fill_7 (by decide) ?_
    obtain ⟨e0, e1⟩ := hq0 _ _ (Option.some.inj hr).symm
    exact h_iret cx dy hlocks hret rfl e0 (by rw [e1]) dX11_fill_9
  · refine lv_if_ne (tgt := 10) cx.1 cx.2.1 dX11_fill_4 (by decide) (fun _ => ?_) (fun hn => absurd hn hc)
    refine lv_aload_n cx.1 cx.2.1 dX11_fill_10 rfl (lv_at hl 0 rfl) ?_
    obtain ⟨hv4, hr⟩ := of_grd hr
    obtain ⟨k5, hf6, hr⟩ := of_bnd hr
    refine h_getR cx fx dy fd_11_4 hv4 tb_369 hf6 dX11_fill_11 ?_
    refine lv_iload_n cx.1 cx.2.1 dX11_fill_14 rfl (lv_at hl 1 rfl) ?_
    obtain ⟨ha7, hr⟩ := of_grd hr
    obtain ⟨k8, hf9, hr⟩ := of_bnd hr
    refine h_aald (t := 4) cx fx dy (by decide) rfl ha7 hf9 dX11_fill_15 ?_
    refine lv_iload_n cx.1 cx.2.1 dX11_fill_16 rfl (lv_at hl 2 rfl) ?_
    obtain ⟨hv12, hr⟩ := of_grd hr
    obtain ⟨x11, g10, hc13, hr⟩ := of_bnd2 hr
    refine r_i dy (k_V (As := [.int a2]) (b := k8) (ci := 10) cx fx dy (c_X10_nextYear hc13) mv_X10_nextYear rfl rfl ⟨Nat.le_trans (by decide) hR.1, Nat.le_trans (by decide) hR.2⟩ tb_778 hv12 rfl (by decide) rfl hl.1 rfl (Nat.le_of_ble_eq_true rfl) ⟨Nat.zero_le _, Nat.zero_le _⟩ dX11_fill_17) (fun H locs dy => ?_)
    refine lv_istore_n (lv' := [(3, .int x11), (0, .ref (ad k0)), (1, .int a1), (2, .int a2)]) cx.1 cx.2.1 dX11_fill_20 rfl hl (by decide) rfl (fun ls hl => ?_)
    refine lv_iload_n cx.1 cx.2.1 dX11_fill_21 rfl (lv_at hl 0 rfl) ?_
    refine lv_iconst (v := (-1)) cx.1 cx.2.1 dX11_fill_22 (by decide) ?_
    rcases of_brn hr with ⟨hc, hr⟩ | ⟨hc, hr⟩
    · refine lv_icmp_ne (tgt := 31) cx.1 cx.2.1 dX11_fill_23 (by decide) (fun hn => absurd hc hn) (fun _ => ?_)
      refine lv_bipush (v := (-2)) cx.1 cx.2.1 dX11_fill_26 (by decide) ?_
      refine lv_goto (tgt := 46) cx.1 cx.2.1 dX11_fill_28 (by decide) ?_
      obtain ⟨e0, e1⟩ := hq0 _ _ (Option.some.inj hr).symm
      exact h_iret cx dy hlocks hret rfl e0 (by rw [e1]) dX11_fill_46
    · refine lv_icmp_ne (tgt := 31) cx.1 cx.2.1 dX11_fill_23 (by decide) (fun _ => ?_) (fun hn => absurd hn hc)
      refine lv_aload_n cx.1 cx.2.1 dX11_fill_31 rfl (lv_at hl 1 rfl) ?_
      obtain ⟨k14, hf15, hr⟩ := of_bnd hr
      refine h_getR cx fx dy fd_11_5 hv4 tb_370 hf15 dX11_fill_32 ?_
      refine lv_iload_n cx.1 cx.2.1 dX11_fill_35 rfl (lv_at hl 2 rfl) ?_
      refine lv_aload_n cx.1 cx.2.1 dX11_fill_36 rfl (lv_at hl 1 rfl) ?_
      obtain ⟨k16, hf17, hr⟩ := of_bnd hr
      refine h_getR cx fx dy fd_11_4 hv4 tb_369 hf17 dX11_fill_37 ?_
      refine lv_iload_n cx.1 cx.2.1 dX11_fill_40 rfl (lv_at hl 2 rfl) ?_
      obtain ⟨ha18, hr⟩ := of_grd hr
      obtain ⟨k19, hf20, hr⟩ := of_bnd hr
      refine h_aald (t := 4) cx fx dy (by decide) rfl ha18 hf20 dX11_fill_41 ?_
      refine lv_iload_n cx.1 cx.2.1 dX11_fill_42 rfl (lv_at hl 0 rfl) ?_
      obtain ⟨hv23, hr⟩ := of_grd hr
      obtain ⟨x22, g21, hc24, hr⟩ := of_bnd2 hr
      refine r_i dy (k_V (As := [.int a1, .ref (ad k19), .int x11]) (b := k14) (ci := 7) cx fx dy (c_X7_fillYear hc24) mv_X7_fillYear rfl rfl ⟨Nat.le_trans (by decide) hR.1, Nat.le_trans (by decide) hR.2⟩ tb_783 hv23 rfl (by decide) rfl hl.1 rfl (Nat.le_of_ble_eq_true rfl) ⟨Nat.zero_le _, Nat.zero_le _⟩ dX11_fill_43) (fun H locs dy => ?_)
      obtain ⟨e0, e1⟩ := hq0 _ _ (Option.some.inj hr).symm
      exact h_iret cx dy hlocks hret rfl e0 (by rw [e1]) dX11_fill_46
noncomputable def r_X11_year (V : Vk) (k0 : Nat) (a1 : Int32) (a2 : Int32) (a3 : Int32) (g : Hq) : Option (Int32 × Hq) :=
  bnd (r_X11_isWard V a1 g) fun x2 g1 => brn (x2 = 0) (some ((-9 : Int32), g1)) (grd (V k0 = some (11, 0)) <| Option.bind (g1.2.2 k0 4) fun k5 => grd (okV V k5 4 a1) <| Option.bind (g1.2.2 k5 a1.toNatClampNeg) fun k8 => grd (V k8 = some (10, 0)) <| bnd (r_X10_tellYear V k8 a2 a3 g1) fun x11 g10 => some (x11, g10))
set_option maxHeartbeats 4000000 in
set_option maxRecDepth 100000 in
theorem c_X11_year {l : Launch} {D : va_G} {cA : Nat → ClassId} {sk : (Nat → Nat) × (Nat → Nat)} {ad : Nat → Nat} {A : Nat → Prop} {V : Vk} {k0 : Nat} {a1 : Int32} {a2 : Int32} {a3 : Int32} {g g0 : Hq} {r0 : Int32} (hr : r_X11_year V k0 a1 a2 a3 g = some (r0, g0)) : Met l yX11_year (wM yX11_year cX11_year 4 (some .int)) { frames := 2, cells := 0, slots := 0, locals := 44 } (Pre D cA sk ad (V, g) A [.ref (ad k0), .int a1, .int a2, .int a3]) (QI D cA ad A r0 (V, g0)) 0 0 A := by
  refine Met.ofW (cc := cX11_year) (maxL := 4) (ret := (some .int)) (by decide) rfl ?_
  intro p e s m args below meth c s₁ B hml hv
  obtain ⟨rfl, fx, w0⟩ := hv
  have hts := atoms_spec (ws := wM yX11_year cX11_year 4 (some .int)) B.pre
  have cx : CallFix p m c cX11_year 4 s ([.ref (ad k0), .int a1, .int a2, .int a3] : List Value).toArray gw_tbl RX11 := ⟨B.exec, B.bytes, hml, findClass_of_methodNamed B.named, fun w hw => hts w (List.mem_cons_of_mem _ hw)⟩
  have hlocks := B.notSynchronized
  have hret := B.returns
  have hR : 2 ≤ (headSpec (wM yX11_year cX11_year 4 (some .int)) { frames := 2, cells := 0, slots := 0, locals := 44 }).room.frames ∧ 44 ≤ (headSpec (wM yX11_year cX11_year 4 (some .int)) { frames := 2, cells := 0, slots := 0, locals := 44 }).room.locals := ⟨Nat.le_refl _, Nat.le_refl _⟩
  have dy : Dy D cA ad (V, g) A s.heap s.heap [] := ⟨w0, va_S.rf⟩
  have hl := lv_entry [.ref (ad k0), .int a1, .int a2, .int a3] (n := 4) (Nat.le_of_ble_eq_true rfl)
  rw [lg_entry_eq]
  generalize (lg_sl [.ref (ad k0), .int a1, .int a2, .int a3] ++ List.replicate (4 - (lg_sl [.ref (ad k0), .int a1, .int a2, .int a3]).length) Slot.unset).toArray = ls at hl ⊢
  have hl : lv_has ls 4 [(0, .ref (ad k0)), (1, .int a1), (2, .int a2), (3, .int a3)] := hl
  have dy0 : ∃ H0, H0 = s.heap ∧ Dy D cA ad (V, g) A s.heap H0 [] := ⟨_, rfl, dy⟩
  obtain ⟨z, ez⟩ : ∃ z, z = (r0, g0) := ⟨_, rfl⟩
  rw [← ez] at hr
  have hq0 : ∀ (rb : Int32) (gb : Hq), z = (rb, gb) → rb = r0 ∧ gb = g0 := fun rb gb eb => by rw [ez] at eb; exact ⟨(congrArg Prod.fst eb).symm, (congrArg Prod.snd eb).symm⟩
  clear ez w0 dy0
  unfold r_X11_year at hr
  obtain ⟨H, hH⟩ : ∃ H, H = s.heap := ⟨_, rfl⟩
  obtain ⟨locs, hlo⟩ : ∃ q : List Loc, q = [] := ⟨_, rfl⟩
  have dy : Dy D cA ad (V, g) A s.heap H locs := by rw [hH, hlo]; exact dy
  suffices K : W p l e (headSpec (wM yX11_year cX11_year 4 (some .int)) { frames := 2, cells := 0, slots := 0, locals := 44 }).room s m ([.ref (ad k0), .int a1, .int a2, .int a3] : List Value).toArray below meth c H locs 0 0 (MQ below (QI D cA ad A r0 (V, g0)) ([.ref (ad k0), .int a1, .int a2, .int a3] : List Value).toArray s 0 0 A) (F0 m 0 ls []) by rw [hH, hlo] at K; exact K
  clear hH hlo
  refine lv_iload_n cx.1 cx.2.1 dX11_year_0 rfl (lv_at hl 1 rfl) ?_
  obtain ⟨x2, g1, hc3, hr⟩ := of_bnd2 hr
  refine r_i dy (k_S (As := [.int a1]) cx fx dy (c_X11_isWard hc3) mv_X11_isWard rfl rfl ⟨Nat.le_trans (by decide) hR.1, Nat.le_trans (by decide) hR.2⟩ tb_427 rfl hl.1 rfl (Nat.le_of_ble_eq_true rfl) ⟨Nat.zero_le _, Nat.zero_le _⟩ dX11_year_1) (fun H locs dy => ?_)
  rcases of_brn hr with ⟨hc, hr⟩ | ⟨hc, hr⟩
  · refine lv_if_eq (tgt := 21) cx.1 cx.2.1 dX11_year_4 (by decide) (fun _ => ?_) (fun hn => absurd hc hn)
    refine lv_bipush (v := (-9)) cx.1 cx.2.1 dX11_year_21 (by decide) ?_
    obtain ⟨e0, e1⟩ := hq0 _ _ (Option.some.inj hr).symm
    exact h_iret cx dy hlocks hret rfl e0 (by rw [e1]) dX11_year_23
  · refine lv_if_eq (tgt := 21) cx.1 cx.2.1 dX11_year_4 (by decide) (fun hn => absurd hn hc) (fun _ => ?_)
    refine lv_aload_n cx.1 cx.2.1 dX11_year_7 rfl (lv_at hl 0 rfl) ?_
    obtain ⟨hv4, hr⟩ := of_grd hr
    obtain ⟨k5, hf6, hr⟩ := of_bnd hr
    refine h_getR cx fx dy fd_11_4 hv4 tb_369 hf6 dX11_year_8 ?_
    refine lv_iload_n cx.1 cx.2.1 dX11_year_11 rfl (lv_at hl 1 rfl) ?_
    obtain ⟨ha7, hr⟩ := of_grd hr
    obtain ⟨k8, hf9, hr⟩ := of_bnd hr
    refine h_aald (t := 4) cx fx dy (by decide) rfl ha7 hf9 dX11_year_12 ?_
    refine lv_iload_n cx.1 cx.2.1 dX11_year_13 rfl (lv_at hl 2 rfl) ?_
    refine lv_iload_n cx.1 cx.2.1 dX11_year_14 rfl (lv_at hl 3 rfl) ?_
    obtain ⟨hv12, hr⟩ := of_grd hr
    obtain ⟨x11, g10, hc13, hr⟩ := of_bnd2 hr
    refine r_i dy (k_V (As := [.int a2, .int a3]) (b := k8) (ci := 10) cx fx dy (c_X10_tellYear hc13) mv_X10_tellYear rfl rfl ⟨Nat.le_trans (by decide) hR.1, Nat.le_trans (by decide) hR.2⟩ tb_824 hv12 rfl (by decide) rfl hl.1 rfl (Nat.le_of_ble_eq_true rfl) ⟨Nat.zero_le _, Nat.zero_le _⟩ dX11_year_15) (fun H locs dy => ?_)
    refine lv_goto (tgt := 23) cx.1 cx.2.1 dX11_year_18 (by decide) ?_
    obtain ⟨e0, e1⟩ := hq0 _ _ (Option.some.inj hr).symm
    exact h_iret cx dy hlocks hret rfl e0 (by rw [e1]) dX11_year_23
noncomputable def r_X11_about (V : Vk) (k0 : Nat) (a1 : Int32) (a2 : Int32) (g : Hq) : Option (Int32 × Hq) :=
  grd (V k0 = some (11, 0)) <| Option.bind (g.2.2 k0 5) fun k2 => grd (V k2 = some (7, 0)) <| bnd (r_X7_find V k2 a1 g) fun ok5 g4 => onn ok5 (some ((-1 : Int32), g4)) (fun k5 => grd (V k5 = some (2, 0)) <| bnd (r_X2_tell V k5 a2 g4) fun x9 g8 => some (x9, g8))
set_option maxHeartbeats 4000000 in
set_option maxRecDepth 100000 in
theorem c_X11_about {l : Launch} {D : va_G} {cA : Nat → ClassId} {sk : (Nat → Nat) × (Nat → Nat)} {ad : Nat → Nat} {A : Nat → Prop} {V : Vk} {k0 : Nat} {a1 : Int32} {a2 : Int32} {g g0 : Hq} {r0 : Int32} (hr : r_X11_about V k0 a1 a2 g = some (r0, g0)) : Met l yX11_about (wM yX11_about cX11_about 4 (some .int)) { frames := 1, cells := 0, slots := 0, locals := 21 } (Pre D cA sk ad (V, g) A [.ref (ad k0), .int a1, .int a2]) (QI D cA ad A r0 (V, g0)) 0 0 A := by
  refine Met.ofW (cc := cX11_about) (maxL := 4) (ret := (some .int)) (by decide) rfl ?_
  intro p e s m args below meth c s₁ B hml hv
  obtain ⟨rfl, fx, w0⟩ := hv
  have hts := atoms_spec (ws := wM yX11_about cX11_about 4 (some .int)) B.pre
  have cx : CallFix p m c cX11_about 4 s ([.ref (ad k0), .int a1, .int a2] : List Value).toArray gw_tbl RX11 := ⟨B.exec, B.bytes, hml, findClass_of_methodNamed B.named, fun w hw => hts w (List.mem_cons_of_mem _ hw)⟩
  have hlocks := B.notSynchronized
  have hret := B.returns
  have hR : 1 ≤ (headSpec (wM yX11_about cX11_about 4 (some .int)) { frames := 1, cells := 0, slots := 0, locals := 21 }).room.frames ∧ 21 ≤ (headSpec (wM yX11_about cX11_about 4 (some .int)) { frames := 1, cells := 0, slots := 0, locals := 21 }).room.locals := ⟨Nat.le_refl _, Nat.le_refl _⟩
  have dy : Dy D cA ad (V, g) A s.heap s.heap [] := ⟨w0, va_S.rf⟩
  have hl := lv_entry [.ref (ad k0), .int a1, .int a2] (n := 4) (Nat.le_of_ble_eq_true rfl)
  rw [lg_entry_eq]
  generalize (lg_sl [.ref (ad k0), .int a1, .int a2] ++ List.replicate (4 - (lg_sl [.ref (ad k0), .int a1, .int a2]).length) Slot.unset).toArray = ls at hl ⊢
  have hl : lv_has ls 4 [(0, .ref (ad k0)), (1, .int a1), (2, .int a2)] := hl
  have dy0 : ∃ H0, H0 = s.heap ∧ Dy D cA ad (V, g) A s.heap H0 [] := ⟨_, rfl, dy⟩
  obtain ⟨z, ez⟩ : ∃ z, z = (r0, g0) := ⟨_, rfl⟩
  rw [← ez] at hr
  have hq0 : ∀ (rb : Int32) (gb : Hq), z = (rb, gb) → rb = r0 ∧ gb = g0 := fun rb gb eb => by rw [ez] at eb; exact ⟨(congrArg Prod.fst eb).symm, (congrArg Prod.snd eb).symm⟩
  clear ez w0 dy0
  unfold r_X11_about at hr
  obtain ⟨H, hH⟩ : ∃ H, H = s.heap := ⟨_, rfl⟩
  obtain ⟨locs, hlo⟩ : ∃ q : List Loc, q = [] := ⟨_, rfl⟩
  have dy : Dy D cA ad (V, g) A s.heap H locs := by rw [hH, hlo]; exact dy
  suffices K : W p l e (headSpec (wM yX11_about cX11_about 4 (some .int)) { frames := 1, cells := 0, slots := 0, locals := 21 }).room s m ([.ref (ad k0), .int a1, .int a2] : List Value).toArray below meth c H locs 0 0 (MQ below (QI D cA ad A r0 (V, g0)) ([.ref (ad k0), .int a1, .int a2] : List Value).toArray s 0 0 A) (F0 m 0 ls []) by rw [hH, hlo] at K; exact K
  clear hH hlo
  refine lv_aload_n cx.1 cx.2.1 dX11_about_0 rfl (lv_at hl 0 rfl) ?_
  obtain ⟨hv1, hr⟩ := of_grd hr
  obtain ⟨k2, hf3, hr⟩ := of_bnd hr
  refine h_getR cx fx dy fd_11_5 hv1 tb_370 hf3 dX11_about_1 ?_
  refine lv_iload_n cx.1 cx.2.1 dX11_about_4 rfl (lv_at hl 1 rfl) ?_
  obtain ⟨hv6, hr⟩ := of_grd hr
  obtain ⟨ok5, g4, hc7, hr⟩ := of_bnd2 hr
  refine r_q dy (k_V (As := [.int a1]) (b := k2) (ci := 7) cx fx dy (c_X7_find hc7) mv_X7_find rfl rfl ⟨Nat.le_trans (by decide) hR.1, Nat.le_trans (by decide) hR.2⟩ tb_764 hv6 rfl (by decide) rfl hl.1 rfl (Nat.le_of_ble_eq_true rfl) ⟨Nat.zero_le _, Nat.zero_le _⟩ dX11_about_5) (fun H locs dy => ?_)
  rcases of_onn hr with ⟨ho, hr'⟩ | ⟨k5, ho, hr'⟩
  · clear hr; have hr := hr'; clear hr'; subst ho; refine lv_rf0 ?_
    refine lv_astore_nN (lv' := [(3, .null), (0, .ref (ad k0)), (1, .int a1), (2, .int a2)]) cx.1 cx.2.1 dX11_about_8 rfl hl (by decide) rfl (fun ls hl => ?_)
    refine lv_aload_nN cx.1 cx.2.1 dX11_about_9 rfl (lv_at hl 0 rfl) ?_
    refine lv_ifnonnullN cx.1 cx.2.1 dX11_about_10 ?_
    refine lv_iconst (v := (-1)) cx.1 cx.2.1 dX11_about_13 (by decide) ?_
    refine lv_goto (tgt := 22) cx.1 cx.2.1 dX11_about_14 (by decide) ?_
    obtain ⟨e0, e1⟩ := hq0 _ _ (Option.some.inj hr).symm
    exact h_iret cx dy hlocks hret rfl e0 (by rw [e1]) dX11_about_22
  · clear hr; have hr := hr'; clear hr'; subst ho; refine lv_rf1 ?_
    refine lv_astore_n (lv' := [(3, .ref (ad k5)), (0, .ref (ad k0)), (1, .int a1), (2, .int a2)]) cx.1 cx.2.1 dX11_about_8 rfl hl (by decide) rfl (fun ls hl => ?_)
    refine lv_aload_n cx.1 cx.2.1 dX11_about_9 rfl (lv_at hl 0 rfl) ?_
    refine lv_ifnonnull (tgt := 17) cx.1 cx.2.1 dX11_about_10 (by decide) ?_
    refine lv_aload_n cx.1 cx.2.1 dX11_about_17 rfl (lv_at hl 0 rfl) ?_
    refine lv_iload_n cx.1 cx.2.1 dX11_about_18 rfl (lv_at hl 3 rfl) ?_
    obtain ⟨hv10, hr⟩ := of_grd hr
    obtain ⟨x9, g8, hc11, hr⟩ := of_bnd2 hr
    refine r_i dy (k_V (As := [.int a2]) (b := k5) (ci := 2) cx fx dy (c_X2_tell hc11) mv_X2_tell rfl rfl ⟨Nat.le_trans (by decide) hR.1, Nat.le_trans (by decide) hR.2⟩ tb_832 hv10 rfl (by decide) rfl hl.1 rfl (Nat.le_of_ble_eq_true rfl) ⟨Nat.zero_le _, Nat.zero_le _⟩ dX11_about_19) (fun H locs dy => ?_)
    obtain ⟨e0, e1⟩ := hq0 _ _ (Option.some.inj hr).symm
    exact h_iret cx dy hlocks hret rfl e0 (by rw [e1]) dX11_about_22
noncomputable def r_X11_charged (V : Vk) (k0 : Nat) (a1 : Int32) (a2 : Int32) (g : Hq) : Option (Int32 × Hq) :=
  grd (V k0 = some (11, 0)) <| Option.bind (g.2.2 k0 6) fun k2 => grd (V k2 = some (5, 0)) <| bnd (r_X5_find V k2 a1 g) fun ok5 g4 => onn ok5 (some ((-1 : Int32), g4)) (fun k5 => grd (V k5 = some (0, 0)) <| bnd (r_X0_tell V k5 a2 g4) fun x9 g8 => some (x9, g8))
set_option maxHeartbeats 4000000 in
set_option maxRecDepth 100000 in
theorem c_X11_charged {l : Launch} {D : va_G} {cA : Nat → ClassId} {sk : (Nat → Nat) × (Nat → Nat)} {ad : Nat → Nat} {A : Nat → Prop} {V : Vk} {k0 : Nat} {a1 : Int32} {a2 : Int32} {g g0 : Hq} {r0 : Int32} (hr : r_X11_charged V k0 a1 a2 g = some (r0, g0)) : Met l yX11_charged (wM yX11_charged cX11_charged 4 (some .int)) { frames := 1, cells := 0, slots := 0, locals := 21 } (Pre D cA sk ad (V, g) A [.ref (ad k0), .int a1, .int a2]) (QI D cA ad A r0 (V, g0)) 0 0 A := by
  refine Met.ofW (cc := cX11_charged) (maxL := 4) (ret := (some .int)) (by decide) rfl ?_
  intro p e s m args below meth c s₁ B hml hv
  obtain ⟨rfl, fx, w0⟩ := hv
  have hts := atoms_spec (ws := wM yX11_charged cX11_charged 4 (some .int)) B.pre
  have cx : CallFix p m c cX11_charged 4 s ([.ref (ad k0), .int a1, .int a2] : List Value).toArray gw_tbl RX11 := ⟨B.exec, B.bytes, hml, findClass_of_methodNamed B.named, fun w hw => hts w (List.mem_cons_of_mem _ hw)⟩
  have hlocks := B.notSynchronized
  have hret := B.returns
  have hR : 1 ≤ (headSpec (wM yX11_charged cX11_charged 4 (some .int)) { frames := 1, cells := 0, slots := 0, locals := 21 }).room.frames ∧ 21 ≤ (headSpec (wM yX11_charged cX11_charged 4 (some .int)) { frames := 1, cells := 0, slots := 0, locals := 21 }).room.locals := ⟨Nat.le_refl _, Nat.le_refl _⟩
  have dy : Dy D cA ad (V, g) A s.heap s.heap [] := ⟨w0, va_S.rf⟩
  have hl := lv_entry [.ref (ad k0), .int a1, .int a2] (n := 4) (Nat.le_of_ble_eq_true rfl)
  rw [lg_entry_eq]
  generalize (lg_sl [.ref (ad k0), .int a1, .int a2] ++ List.replicate (4 - (lg_sl [.ref (ad k0), .int a1, .int a2]).length) Slot.unset).toArray = ls at hl ⊢
  have hl : lv_has ls 4 [(0, .ref (ad k0)), (1, .int a1), (2, .int a2)] := hl
  have dy0 : ∃ H0, H0 = s.heap ∧ Dy D cA ad (V, g) A s.heap H0 [] := ⟨_, rfl, dy⟩
  obtain ⟨z, ez⟩ : ∃ z, z = (r0, g0) := ⟨_, rfl⟩
  rw [← ez] at hr
  have hq0 : ∀ (rb : Int32) (gb : Hq), z = (rb, gb) → rb = r0 ∧ gb = g0 := fun rb gb eb => by rw [ez] at eb; exact ⟨(congrArg Prod.fst eb).symm, (congrArg Prod.snd eb).symm⟩
  clear ez w0 dy0
  unfold r_X11_charged at hr
  obtain ⟨H, hH⟩ : ∃ H, H = s.heap := ⟨_, rfl⟩
  obtain ⟨locs, hlo⟩ : ∃ q : List Loc, q = [] := ⟨_, rfl⟩
  have dy : Dy D cA ad (V, g) A s.heap H locs := by rw [hH, hlo]; exact dy
  suffices K : W p l e (headSpec (wM yX11_charged cX11_charged 4 (some .int)) { frames := 1, cells := 0, slots := 0, locals := 21 }).room s m ([.ref (ad k0), .int a1, .int a2] : List Value).toArray below meth c H locs 0 0 (MQ below (QI D cA ad A r0 (V, g0)) ([.ref (ad k0), .int a1, .int a2] : List Value).toArray s 0 0 A) (F0 m 0 ls []) by rw [hH, hlo] at K; exact K
  clear hH hlo
  refine lv_aload_n cx.1 cx.2.1 dX11_charged_0 rfl (lv_at hl 0 rfl) ?_
  obtain ⟨hv1, hr⟩ := of_grd hr
  obtain ⟨k2, hf3, hr⟩ := of_bnd hr
  refine h_getR cx fx dy fd_11_6 hv1 tb_371 hf3 dX11_charged_1 ?_
  refine lv_iload_n cx.1 cx.2.1 dX11_charged_4 rfl (lv_at hl 1 rfl) ?_
  obtain ⟨hv6, hr⟩ := of_grd hr
  obtain ⟨ok5, g4, hc7, hr⟩ := of_bnd2 hr
  refine r_q dy (k_V (As := [.int a1]) (b := k2) (ci := 5) cx fx dy (c_X5_find hc7) mv_X5_find rfl rfl ⟨Nat.le_trans (by decide) hR.1, Nat.le_trans (by decide) hR.2⟩ tb_895 hv6 rfl (by decide) rfl hl.1 rfl (Nat.le_of_ble_eq_true rfl) ⟨Nat.zero_le _, Nat.zero_le _⟩ dX11_charged_5) (fun H locs dy => ?_)
  rcases of_onn hr with ⟨ho, hr'⟩ | ⟨k5, ho, hr'⟩
  · clear hr; have hr := hr'; clear hr'; subst ho; refine lv_rf0 ?_
    refine lv_astore_nN (lv' := [(3, .null), (0, .ref (ad k0)), (1, .int a1), (2, .int a2)]) cx.1 cx.2.1 dX11_charged_8 rfl hl (by decide) rfl (fun ls hl => ?_)
    refine lv_aload_nN cx.1 cx.2.1 dX11_charged_9 rfl (lv_at hl 0 rfl) ?_
    refine lv_ifnonnullN cx.1 cx.2.1 dX11_charged_10 ?_
    refine lv_iconst (v := (-1)) cx.1 cx.2.1 dX11_charged_13 (by decide) ?_
    refine lv_goto (tgt := 22) cx.1 cx.2.1 dX11_charged_14 (by decide) ?_
    obtain ⟨e0, e1⟩ := hq0 _ _ (Option.some.inj hr).symm
    exact h_iret cx dy hlocks hret rfl e0 (by rw [e1]) dX11_charged_22
  · clear hr; have hr := hr'; clear hr'; subst ho; refine lv_rf1 ?_
    refine lv_astore_n (lv' := [(3, .ref (ad k5)), (0, .ref (ad k0)), (1, .int a1), (2, .int a2)]) cx.1 cx.2.1 dX11_charged_8 rfl hl (by decide) rfl (fun ls hl => ?_)
    refine lv_aload_n cx.1 cx.2.1 dX11_charged_9 rfl (lv_at hl 0 rfl) ?_
    refine lv_ifnonnull (tgt := 17) cx.1 cx.2.1 dX11_charged_10 (by decide) ?_
    refine lv_aload_n cx.1 cx.2.1 dX11_charged_17 rfl (lv_at hl 0 rfl) ?_
    refine lv_iload_n cx.1 cx.2.1 dX11_charged_18 rfl (lv_at hl 3 rfl) ?_
    obtain ⟨hv10, hr⟩ := of_grd hr
    obtain ⟨x9, g8, hc11, hr⟩ := of_bnd2 hr
    refine r_i dy (k_V (As := [.int a2]) (b := k5) (ci := 0) cx fx dy (c_X0_tell hc11) mv_X0_tell rfl rfl ⟨Nat.le_trans (by decide) hR.1, Nat.le_trans (by decide) hR.2⟩ tb_899 hv10 rfl (by decide) rfl hl.1 rfl (Nat.le_of_ble_eq_true rfl) ⟨Nat.zero_le _, Nat.zero_le _⟩ dX11_charged_19) (fun H locs dy => ?_)
    obtain ⟨e0, e1⟩ := hq0 _ _ (Option.some.inj hr).symm
    exact h_iret cx dy hlocks hret rfl e0 (by rw [e1]) dX11_charged_22
noncomputable def r_X11_morning_2' (V : Vk) (k1 : Nat) (x2 : Int32) (g3 : Hq) : Option ((Nat × Int32 × Hq) ⊕ (Int32 × Hq)) :=
  brn ((4 : Int32) ≤ x2) (grd (V k1 = some (11, 0)) <| Option.bind (g3.2.2 k1 6) fun k5 => grd (V k5 = some (5, 0)) <| bnd (r_X5_bringAll V k5 g3) fun x8 g7 => some (.inr (x8, g7))) (grd (V k1 = some (11, 0)) <| Option.bind (g3.2.2 k1 4) fun k12 => grd (okV V k12 4 x2) <| Option.bind (g3.2.2 k12 x2.toNatClampNeg) fun k15 => grd (V k15 = some (10, 0)) <| nm (sI g3 k15 2 (0 : Int32)) fun g18 => nm (x2 + (1 : Int32)) fun x19 => some (.inl (k1, x19, g18)))
noncomputable def r_X11_morning_2 (V : Vk) (st : (Nat × Int32 × Hq)) : Option ((Nat × Int32 × Hq) ⊕ (Int32 × Hq)) := r_X11_morning_2' V st.1 st.2.1 st.2.2
set_option maxHeartbeats 4000000 in
set_option maxRecDepth 100000 in
theorem w_X11_morning_2 {p : Program} {l : Launch} {e : Env} {R : Room} {s : State} {m : MethodId} {args : Array Value} {below : List Frame} {meth : Method} {c : Code} {D : va_G} {cA : Nat → ClassId} {sk : (Nat → Nat) × (Nat → Nat)} {ad : Nat → Nat} {A : Nat → Prop} {V : Vk} (cx : CallFix p m c cX11_morning 2 s args gw_tbl RX11) (fx : Fx D cA sk A s) (hlocks : meth.locks = false) (hret : meth.sig.returnType = (some .int)) (hR : 1 ≤ R.frames ∧ 22 ≤ R.locals) (r0 : Int32) (g0 : Hq) (y : (Int32 × Hq)) (hq : ∀ (rb : Int32) (gb : Hq), y = (rb, gb) → rb = r0 ∧ gb = g0) : ∀ (n : Nat) (k1 : Nat) (x2 : Int32) (g3 : Hq), itr (r_X11_morning_2 V) n (k1, x2, g3) = some y → ∀ (H : Heap) (locs : List Loc) (ls : Array Slot), Dy D cA ad (V, g3) A s.heap H locs → lv_has ls 2 [(0, .ref (ad k1)), (1, .int x2)] → W p l e R s m args below meth c H locs 0 0 (MQ below (QI D cA ad A r0 (V, g0)) args s 0 0 A) (F0 m 2 ls []) := by
  intro n
  induction n with
  | zero => intro k1 x2 g3 hr; cases hr
  | succ n ih =>
    intro k1 x2 g3 hr H locs ls dy hl
    obtain ⟨z, hz, hn1, hn2⟩ := itr_succ hr
    clear hr
    have hr : r_X11_morning_2' V k1 x2 g3 = some z := hz
    clear hz
    unfold r_X11_morning_2' at hr
    have hh0 : ∀ (b0 : Nat) (b1 : Int32) (gb : Hq), z = .inl (b0, b1, gb) → ∀ (H : Heap) (locs : List Loc) (ls : Array Slot), Dy D cA ad (V, gb) A s.heap H locs → lv_has ls 2 [(0, .ref (ad b0)), (1, .int b1)] → W p l e R s m args below meth c H locs 0 0 (MQ below (QI D cA ad A r0 (V, g0)) args s 0 0 A) (F0 m 2 ls []) := fun b0 b1 gb eb => ih b0 b1 gb (hn1 _ eb)
    have hq0 : ∀ (rb : Int32) (gb : Hq), z = (.inr (rb, gb)) → rb = r0 ∧ gb = g0 := fun rb gb eb => hq rb gb (hn2 _ eb).symm
    refine lv_iload_n cx.1 cx.2.1 dX11_morning_2 rfl (lv_at hl 1 rfl) ?_
    refine lv_iconst (v := 4) cx.1 cx.2.1 dX11_morning_3 (by decide) ?_
    rcases of_brn hr with ⟨hc, hr⟩ | ⟨hc, hr⟩
    · refine lv_icmp_ge (tgt := 23) cx.1 cx.2.1 dX11_morning_4 (by decide) (fun _ => ?_) (fun hn => absurd hc hn)
      refine lv_aload_n cx.1 cx.2.1 dX11_morning_23 rfl (lv_at hl 0 rfl) ?_
      obtain ⟨hv4, hr⟩ := of_grd hr
      obtain ⟨k5, hf6, hr⟩ := of_bnd hr
      refine h_getR cx fx dy fd_11_6 hv4 tb_371 hf6 dX11_morning_24 ?_
      obtain ⟨hv9, hr⟩ := of_grd hr
      obtain ⟨x8, g7, hc10, hr⟩ := of_bnd2 hr
      refine r_i dy (k_V (As := []) (b := k5) (ci := 5) cx fx dy (c_X5_bringAll hc10) mv_X5_bringAll rfl rfl ⟨Nat.le_trans (by decide) hR.1, Nat.le_trans (by decide) hR.2⟩ tb_907 hv9 rfl (by decide) rfl hl.1 rfl (Nat.le_of_ble_eq_true rfl) ⟨Nat.zero_le _, Nat.zero_le _⟩ dX11_morning_27) (fun H locs dy => ?_)
      obtain ⟨e0, e1⟩ := hq0 _ _ (Option.some.inj hr).symm
      exact h_iret cx dy hlocks hret rfl e0 (by rw [e1]) dX11_morning_30
    · refine lv_icmp_ge (tgt := 23) cx.1 cx.2.1 dX11_morning_4 (by decide) (fun hn => absurd hn hc) (fun _ => ?_)
      refine lv_aload_n cx.1 cx.2.1 dX11_morning_7 rfl (lv_at hl 0 rfl) ?_
      obtain ⟨hv11, hr⟩ := of_grd hr
      obtain ⟨k12, hf13, hr⟩ := of_bnd hr
      refine h_getR cx fx dy fd_11_4 hv11 tb_369 hf13 dX11_morning_8 ?_
      refine lv_iload_n cx.1 cx.2.1 dX11_morning_11 rfl (lv_at hl 1 rfl) ?_
      obtain ⟨ha14, hr⟩ := of_grd hr
      obtain ⟨k15, hf16, hr⟩ := of_bnd hr
      refine h_aald (t := 4) cx fx dy (by decide) rfl ha14 hf16 dX11_morning_12 ?_
      refine lv_iconst (v := 0) cx.1 cx.2.1 dX11_morning_13 (by decide) ?_
      obtain ⟨hv17, hr⟩ := of_grd hr
      obtain ⟨g18, eg18, hr⟩ := of_nm hr
      refine h_putIN cx fx dy fd_10_2 (pd_10_2 : PD _ _ _ _ _ .int) rfl rfl rfl hv17 tb_337 dX11_morning_14 (fun H locs dy => ?_)
      replace dy : Dy D cA ad (V, g18) A s.heap H locs := by rw [eg18]; exact dy
      obtain ⟨x19, ex19, hr⟩ := of_nm hr
      refine lv_iinc (v := x19) (lv' := [(1, .int x19), (0, .ref (ad k1))]) cx.1 cx.2.1 dX11_morning_17 hl (k := 1) rfl (by rw [ex19]; rfl) (by decide) rfl (fun ls hl => ?_)
      refine lv_goto (tgt := 2) cx.1 cx.2.1 dX11_morning_20 (by decide) ?_
      exact hh0 k1 x19 g18 (Option.some.inj hr).symm H locs ls dy (lv_sub hl [1, 0] rfl)
noncomputable def r_X11_morning (V : Vk) (k0 : Nat) (g : Hq) : Option (Int32 × Hq) :=
  (lop (r_X11_morning_2 V) (k0, (0 : Int32), g))
set_option maxHeartbeats 4000000 in
set_option maxRecDepth 100000 in
theorem c_X11_morning {l : Launch} {D : va_G} {cA : Nat → ClassId} {sk : (Nat → Nat) × (Nat → Nat)} {ad : Nat → Nat} {A : Nat → Prop} {V : Vk} {k0 : Nat} {g g0 : Hq} {r0 : Int32} (hr : r_X11_morning V k0 g = some (r0, g0)) : Met l yX11_morning (wM yX11_morning cX11_morning 2 (some .int)) { frames := 1, cells := 0, slots := 0, locals := 22 } (Pre D cA sk ad (V, g) A [.ref (ad k0)]) (QI D cA ad A r0 (V, g0)) 0 0 A := by
  refine Met.ofW (cc := cX11_morning) (maxL := 2) (ret := (some .int)) (by decide) rfl ?_
  intro p e s m args below meth c s₁ B hml hv
  obtain ⟨rfl, fx, w0⟩ := hv
  have hts := atoms_spec (ws := wM yX11_morning cX11_morning 2 (some .int)) B.pre
  have cx : CallFix p m c cX11_morning 2 s ([.ref (ad k0)] : List Value).toArray gw_tbl RX11 := ⟨B.exec, B.bytes, hml, findClass_of_methodNamed B.named, fun w hw => hts w (List.mem_cons_of_mem _ hw)⟩
  have hlocks := B.notSynchronized
  have hret := B.returns
  have hR : 1 ≤ (headSpec (wM yX11_morning cX11_morning 2 (some .int)) { frames := 1, cells := 0, slots := 0, locals := 22 }).room.frames ∧ 22 ≤ (headSpec (wM yX11_morning cX11_morning 2 (some .int)) { frames := 1, cells := 0, slots := 0, locals := 22 }).room.locals := ⟨Nat.le_refl _, Nat.le_refl _⟩
  have dy : Dy D cA ad (V, g) A s.heap s.heap [] := ⟨w0, va_S.rf⟩
  have hl := lv_entry [.ref (ad k0)] (n := 2) (Nat.le_of_ble_eq_true rfl)
  rw [lg_entry_eq]
  generalize (lg_sl [.ref (ad k0)] ++ List.replicate (2 - (lg_sl [.ref (ad k0)]).length) Slot.unset).toArray = ls at hl ⊢
  have hl : lv_has ls 2 [(0, .ref (ad k0))] := hl
  have dy0 : ∃ H0, H0 = s.heap ∧ Dy D cA ad (V, g) A s.heap H0 [] := ⟨_, rfl, dy⟩
  obtain ⟨z, ez⟩ : ∃ z, z = (r0, g0) := ⟨_, rfl⟩
  rw [← ez] at hr
  have hq0 : ∀ (rb : Int32) (gb : Hq), z = (rb, gb) → rb = r0 ∧ gb = g0 := fun rb gb eb => by rw [ez] at eb; exact ⟨(congrArg Prod.fst eb).symm, (congrArg Prod.snd eb).symm⟩
  clear ez w0 dy0
  unfold r_X11_morning at hr
  obtain ⟨H, hH⟩ : ∃ H, H = s.heap := ⟨_, rfl⟩
  obtain ⟨locs, hlo⟩ : ∃ q : List Loc, q = [] := ⟨_, rfl⟩
  have dy : Dy D cA ad (V, g) A s.heap H locs := by rw [hH, hlo]; exact dy
  suffices K : W p l e (headSpec (wM yX11_morning cX11_morning 2 (some .int)) { frames := 1, cells := 0, slots := 0, locals := 22 }).room s m ([.ref (ad k0)] : List Value).toArray below meth c H locs 0 0 (MQ below (QI D cA ad A r0 (V, g0)) ([.ref (ad k0)] : List Value).toArray s 0 0 A) (F0 m 0 ls []) by rw [hH, hlo] at K; exact K
  clear hH hlo
  refine lv_iconst (v := 0) cx.1 cx.2.1 dX11_morning_0 (by decide) ?_
  refine lv_istore_n (lv' := [(1, .int (0 : Int32)), (0, .ref (ad k0))]) cx.1 cx.2.1 dX11_morning_1 rfl hl (by decide) rfl (fun ls hl => ?_)
  obtain ⟨n, hr⟩ := lop_some hr
  exact w_X11_morning_2 cx fx hlocks hret hR r0 g0 z hq0 n k0 (0 : Int32) g hr H locs ls dy (lv_sub hl [1, 0] rfl)
noncomputable def r_X11_flee (V : Vk) (k0 : Nat) (a1 : Int32) (g : Hq) : Option (Int32 × Hq) :=
  grd (V k0 = some (11, 0)) <| Option.bind (g.2.2 k0 7) fun k2 => Option.bind (g.2.2 k0 0) fun k4 => Option.bind (g.2.2 k0 1) fun k6 => grd (V k2 = some (1, 0)) <| bnd (r_X1_read V k2 k4 k6 g) fun x9 g8 => brn (x9 = 0) (Option.bind (g8.2.2 k0 0) fun k12 => grd (V k12 = some (8, 0)) <| bnd (r_X8_cut V k12 (0 : Int32) g8) fun u15 g14 => some ((-1 : Int32), g14)) (Option.bind (g8.2.2 k0 7) fun k18 => Option.bind (g8.2.2 k0 1) fun k20 => Option.bind (g8.2.2 k0 4) fun k22 => grd (V k18 = some (1, 0)) <| bnd (r_X1_run V k18 k20 k22 a1 g8) fun x25 g24 => Option.bind (g24.2.2 k0 0) fun k28 => grd (V k28 = some (8, 0)) <| bnd (r_X8_cut V k28 (0 : Int32) g24) fun u31 g30 => some (x25, g30))
set_option maxHeartbeats 4000000 in
set_option maxRecDepth 100000 in
theorem c_X11_flee {l : Launch} {D : va_G} {cA : Nat → ClassId} {sk : (Nat → Nat) × (Nat → Nat)} {ad : Nat → Nat} {A : Nat → Prop} {V : Vk} {k0 : Nat} {a1 : Int32} {g g0 : Hq} {r0 : Int32} (hr : r_X11_flee V k0 a1 g = some (r0, g0)) : Met l yX11_flee (wM yX11_flee cX11_flee 3 (some .int)) { frames := 3, cells := 0, slots := 0, locals := 65 } (Pre D cA sk ad (V, g) A [.ref (ad k0), .int a1]) (QI D cA ad A r0 (V, g0)) 0 0 A := by
  refine Met.ofW (cc := cX11_flee) (maxL := 3) (ret := (some .int)) (by decide) rfl ?_
  intro p e s m args below meth c s₁ B hml hv
  obtain ⟨rfl, fx, w0⟩ := hv
  have hts := atoms_spec (ws := wM yX11_flee cX11_flee 3 (some .int)) B.pre
  have cx : CallFix p m c cX11_flee 3 s ([.ref (ad k0), .int a1] : List Value).toArray gw_tbl RX11 := ⟨B.exec, B.bytes, hml, findClass_of_methodNamed B.named, fun w hw => hts w (List.mem_cons_of_mem _ hw)⟩
  have hlocks := B.notSynchronized
  have hret := B.returns
  have hR : 3 ≤ (headSpec (wM yX11_flee cX11_flee 3 (some .int)) { frames := 3, cells := 0, slots := 0, locals := 65 }).room.frames ∧ 65 ≤ (headSpec (wM yX11_flee cX11_flee 3 (some .int)) { frames := 3, cells := 0, slots := 0, locals := 65 }).room.locals := ⟨Nat.le_refl _, Nat.le_refl _⟩
  have dy : Dy D cA ad (V, g) A s.heap s.heap [] := ⟨w0, va_S.rf⟩
  have hl := lv_entry [.ref (ad k0), .int a1] (n := 3) (Nat.le_of_ble_eq_true rfl)
  rw [lg_entry_eq]
  generalize (lg_sl [.ref (ad k0), .int a1] ++ List.replicate (3 - (lg_sl [.ref (ad k0), .int a1]).length) Slot.unset).toArray = ls at hl ⊢
  have hl : lv_has ls 3 [(0, .ref (ad k0)), (1, .int a1)] := hl
  have dy0 : ∃ H0, H0 = s.heap ∧ Dy D cA ad (V, g) A s.heap H0 [] := ⟨_, rfl, dy⟩
  obtain ⟨z, ez⟩ : ∃ z, z = (r0, g0) := ⟨_, rfl⟩
  rw [← ez] at hr
  have hq0 : ∀ (rb : Int32) (gb : Hq), z = (rb, gb) → rb = r0 ∧ gb = g0 := fun rb gb eb => by rw [ez] at eb; exact ⟨(congrArg Prod.fst eb).symm, (congrArg Prod.snd eb).symm⟩
  clear ez w0 dy0
  unfold r_X11_flee at hr
  obtain ⟨H, hH⟩ : ∃ H, H = s.heap := ⟨_, rfl⟩
  obtain ⟨locs, hlo⟩ : ∃ q : List Loc, q = [] := ⟨_, rfl⟩
  have dy : Dy D cA ad (V, g) A s.heap H locs := by rw [hH, hlo]; exact dy
  suffices K : W p l e (headSpec (wM yX11_flee cX11_flee 3 (some .int)) { frames := 3, cells := 0, slots := 0, locals := 65 }).room s m ([.ref (ad k0), .int a1] : List Value).toArray below meth c H locs 0 0 (MQ below (QI D cA ad A r0 (V, g0)) ([.ref (ad k0), .int a1] : List Value).toArray s 0 0 A) (F0 m 0 ls []) by rw [hH, hlo] at K; exact K
  clear hH hlo
  refine lv_aload_n cx.1 cx.2.1 dX11_flee_0 rfl (lv_at hl 0 rfl) ?_
  obtain ⟨hv1, hr⟩ := of_grd hr
  obtain ⟨k2, hf3, hr⟩ := of_bnd hr
  refine h_getR cx fx dy fd_11_7 hv1 tb_372 hf3 dX11_flee_1 ?_
  refine lv_aload_n cx.1 cx.2.1 dX11_flee_4 rfl (lv_at hl 0 rfl) ?_
  obtain ⟨k4, hf5, hr⟩ := of_bnd hr
  refine h_getR cx fx dy fd_11_0 hv1 tb_365 hf5 dX11_flee_5 ?_
  refine lv_aload_n cx.1 cx.2.1 dX11_flee_8 rfl (lv_at hl 0 rfl) ?_
  obtain ⟨k6, hf7, hr⟩ := of_bnd hr
  refine h_getR cx fx dy fd_11_1 hv1 tb_366 hf7 dX11_flee_9 ?_
  obtain ⟨hv10, hr⟩ := of_grd hr
  obtain ⟨x9, g8, hc11, hr⟩ := of_bnd2 hr
  refine r_i dy (k_V (As := [.ref (ad k4), .ref (ad k6)]) (b := k2) (ci := 1) cx fx dy (c_X1_read hc11) mv_X1_read rfl rfl ⟨Nat.le_trans (by decide) hR.1, Nat.le_trans (by decide) hR.2⟩ tb_915 hv10 rfl (by decide) rfl hl.1 rfl (Nat.le_of_ble_eq_true rfl) ⟨Nat.zero_le _, Nat.zero_le _⟩ dX11_flee_12) (fun H locs dy => ?_)
  rcases of_brn hr with ⟨hc, hr⟩ | ⟨hc, hr⟩
  · refine lv_if_eq (tgt := 37) cx.1 cx.2.1 dX11_flee_15 (by decide) (fun _ => ?_) (fun hn => absurd hc hn)
    refine lv_iconst (v := (-1)) cx.1 cx.2.1 dX11_flee_37 (by decide) ?_
    refine lv_istore_n (lv' := [(2, .int (-1 : Int32)), (0, .ref (ad k0)), (1, .int a1)]) cx.1 cx.2.1 dX11_flee_38 rfl hl (by decide) rfl (fun ls hl => ?_)
    refine lv_aload_n cx.1 cx.2.1 dX11_flee_39 rfl (lv_at hl 1 rfl) ?_
    obtain ⟨k12, hf13, hr⟩ := of_bnd hr
    refine h_getR cx fx dy fd_11_0 hv1 tb_365 hf13 dX11_flee_40 ?_
    refine lv_iconst (v := 0) cx.1 cx.2.1 dX11_flee_43 (by decide) ?_
    obtain ⟨hv16, hr⟩ := of_grd hr
    obtain ⟨u15, g14, hc17, hr⟩ := of_bnd2 hr
    refine r_v dy (k_V (As := [.int (0 : Int32)]) (b := k12) (ci := 8) cx fx dy (c_X8_cut hc17) mv_X8_cut rfl rfl ⟨Nat.le_trans (by decide) hR.1, Nat.le_trans (by decide) hR.2⟩ tb_413 hv16 rfl (by decide) rfl hl.1 rfl (Nat.le_of_ble_eq_true rfl) ⟨Nat.zero_le _, Nat.zero_le _⟩ dX11_flee_44) (fun H locs dy => ?_)
    refine lv_iload_n cx.1 cx.2.1 dX11_flee_47 rfl (lv_at hl 0 rfl) ?_
    obtain ⟨e0, e1⟩ := hq0 _ _ (Option.some.inj hr).symm
    exact h_iret cx dy hlocks hret rfl e0 (by rw [e1]) dX11_flee_48
  · refine lv_if_eq (tgt := 37) cx.1 cx.2.1 dX11_flee_15 (by decide) (fun hn => absurd hn hc) (fun _ => ?_)
    refine lv_aload_n cx.1 cx.2.1 dX11_flee_18 rfl (lv_at hl 0 rfl) ?_
    obtain ⟨k18, hf19, hr⟩ := of_bnd hr
    refine h_getR cx fx dy fd_11_7 hv1 tb_372 hf19 dX11_flee_19 ?_
    refine lv_aload_n cx.1 cx.2.1 dX11_flee_22 rfl (lv_at hl 0 rfl) ?_
    obtain ⟨k20, hf21, hr⟩ := of_bnd hr
    refine h_getR cx fx dy fd_11_1 hv1 tb_366 hf21 dX11_flee_23 ?_
    refine lv_aload_n cx.1 cx.2.1 dX11_flee_26 rfl (lv_at hl 0 rfl) ?_
    obtain ⟨k22, hf23, hr⟩ := of_bnd hr
    refine h_getR cx fx dy fd_11_4 hv1 tb_369 hf23 dX11_flee_27 ?_
    refine lv_iload_n cx.1 cx.2.1 dX11_flee_30 rfl (lv_at hl 1 rfl) ?_
    obtain ⟨hv26, hr⟩ := of_grd hr
    obtain ⟨x25, g24, hc27, hr⟩ := of_bnd2 hr
    refine r_i dy (k_V (As := [.ref (ad k20), .ref (ad k22), .int a1]) (b := k18) (ci := 1) cx fx dy (c_X1_run hc27) mv_X1_run rfl rfl ⟨Nat.le_trans (by decide) hR.1, Nat.le_trans (by decide) hR.2⟩ tb_924 hv26 rfl (by decide) rfl hl.1 rfl (Nat.le_of_ble_eq_true rfl) ⟨Nat.zero_le _, Nat.zero_le _⟩ dX11_flee_31) (fun H locs dy => ?_)
    refine lv_goto (tgt := 38) cx.1 cx.2.1 dX11_flee_34 (by decide) ?_
    refine lv_istore_n (lv' := [(2, .int x25), (0, .ref (ad k0)), (1, .int a1)]) cx.1 cx.2.1 dX11_flee_38 rfl hl (by decide) rfl (fun ls hl => ?_)
    refine lv_aload_n cx.1 cx.2.1 dX11_flee_39 rfl (lv_at hl 1 rfl) ?_
    obtain ⟨k28, hf29, hr⟩ := of_bnd hr
    refine h_getR cx fx dy fd_11_0 hv1 tb_365 hf29 dX11_flee_40 ?_
    refine lv_iconst (v := 0) cx.1 cx.2.1 dX11_flee_43 (by decide) ?_
    obtain ⟨hv32, hr⟩ := of_grd hr
    obtain ⟨u31, g30, hc33, hr⟩ := of_bnd2 hr
    refine r_v dy (k_V (As := [.int (0 : Int32)]) (b := k28) (ci := 8) cx fx dy (c_X8_cut hc33) mv_X8_cut rfl rfl ⟨Nat.le_trans (by decide) hR.1, Nat.le_trans (by decide) hR.2⟩ tb_413 hv32 rfl (by decide) rfl hl.1 rfl (Nat.le_of_ble_eq_true rfl) ⟨Nat.zero_le _, Nat.zero_le _⟩ dX11_flee_44) (fun H locs dy => ?_)
    refine lv_iload_n cx.1 cx.2.1 dX11_flee_47 rfl (lv_at hl 0 rfl) ?_
    obtain ⟨e0, e1⟩ := hq0 _ _ (Option.some.inj hr).symm
    exact h_iret cx dy hlocks hret rfl e0 (by rw [e1]) dX11_flee_48
noncomputable def r_X11_fled (V : Vk) (k0 : Nat) (a1 : Int32) (g : Hq) : Option (Int32 × Hq) :=
  grd (V k0 = some (11, 0)) <| Option.bind (g.2.2 k0 7) fun k2 => grd (V k2 = some (1, 0)) <| bnd (r_X1_tell V k2 a1 g) fun x5 g4 => some (x5, g4)
set_option maxHeartbeats 4000000 in
set_option maxRecDepth 100000 in
theorem c_X11_fled {l : Launch} {D : va_G} {cA : Nat → ClassId} {sk : (Nat → Nat) × (Nat → Nat)} {ad : Nat → Nat} {A : Nat → Prop} {V : Vk} {k0 : Nat} {a1 : Int32} {g g0 : Hq} {r0 : Int32} (hr : r_X11_fled V k0 a1 g = some (r0, g0)) : Met l yX11_fled (wM yX11_fled cX11_fled 2 (some .int)) { frames := 1, cells := 0, slots := 0, locals := 21 } (Pre D cA sk ad (V, g) A [.ref (ad k0), .int a1]) (QI D cA ad A r0 (V, g0)) 0 0 A := by
  refine Met.ofW (cc := cX11_fled) (maxL := 2) (ret := (some .int)) (by decide) rfl ?_
  intro p e s m args below meth c s₁ B hml hv
  obtain ⟨rfl, fx, w0⟩ := hv
  have hts := atoms_spec (ws := wM yX11_fled cX11_fled 2 (some .int)) B.pre
  have cx : CallFix p m c cX11_fled 2 s ([.ref (ad k0), .int a1] : List Value).toArray gw_tbl RX11 := ⟨B.exec, B.bytes, hml, findClass_of_methodNamed B.named, fun w hw => hts w (List.mem_cons_of_mem _ hw)⟩
  have hlocks := B.notSynchronized
  have hret := B.returns
  have hR : 1 ≤ (headSpec (wM yX11_fled cX11_fled 2 (some .int)) { frames := 1, cells := 0, slots := 0, locals := 21 }).room.frames ∧ 21 ≤ (headSpec (wM yX11_fled cX11_fled 2 (some .int)) { frames := 1, cells := 0, slots := 0, locals := 21 }).room.locals := ⟨Nat.le_refl _, Nat.le_refl _⟩
  have dy : Dy D cA ad (V, g) A s.heap s.heap [] := ⟨w0, va_S.rf⟩
  have hl := lv_entry [.ref (ad k0), .int a1] (n := 2) (Nat.le_of_ble_eq_true rfl)
  rw [lg_entry_eq]
  generalize (lg_sl [.ref (ad k0), .int a1] ++ List.replicate (2 - (lg_sl [.ref (ad k0), .int a1]).length) Slot.unset).toArray = ls at hl ⊢
  have hl : lv_has ls 2 [(0, .ref (ad k0)), (1, .int a1)] := hl
  have dy0 : ∃ H0, H0 = s.heap ∧ Dy D cA ad (V, g) A s.heap H0 [] := ⟨_, rfl, dy⟩
  obtain ⟨z, ez⟩ : ∃ z, z = (r0, g0) := ⟨_, rfl⟩
  rw [← ez] at hr
  have hq0 : ∀ (rb : Int32) (gb : Hq), z = (rb, gb) → rb = r0 ∧ gb = g0 := fun rb gb eb => by rw [ez] at eb; exact ⟨(congrArg Prod.fst eb).symm, (congrArg Prod.snd eb).symm⟩
  clear ez w0 dy0
  unfold r_X11_fled at hr
  obtain ⟨H, hH⟩ : ∃ H, H = s.heap := ⟨_, rfl⟩
  obtain ⟨locs, hlo⟩ : ∃ q : List Loc, q = [] := ⟨_, rfl⟩
  have dy : Dy D cA ad (V, g) A s.heap H locs := by rw [hH, hlo]; exact dy
  suffices K : W p l e (headSpec (wM yX11_fled cX11_fled 2 (some .int)) { frames := 1, cells := 0, slots := 0, locals := 21 }).room s m ([.ref (ad k0), .int a1] : List Value).toArray below meth c H locs 0 0 (MQ below (QI D cA ad A r0 (V, g0)) ([.ref (ad k0), .int a1] : List Value).toArray s 0 0 A) (F0 m 0 ls []) by rw [hH, hlo] at K; exact K
  clear hH hlo
  refine lv_aload_n cx.1 cx.2.1 dX11_fled_0 rfl (lv_at hl 0 rfl) ?_
  obtain ⟨hv1, hr⟩ := of_grd hr
  obtain ⟨k2, hf3, hr⟩ := of_bnd hr
  refine h_getR cx fx dy fd_11_7 hv1 tb_372 hf3 dX11_fled_1 ?_
  refine lv_iload_n cx.1 cx.2.1 dX11_fled_4 rfl (lv_at hl 1 rfl) ?_
  obtain ⟨hv6, hr⟩ := of_grd hr
  obtain ⟨x5, g4, hc7, hr⟩ := of_bnd2 hr
  refine r_i dy (k_V (As := [.int a1]) (b := k2) (ci := 1) cx fx dy (c_X1_tell hc7) mv_X1_tell rfl rfl ⟨Nat.le_trans (by decide) hR.1, Nat.le_trans (by decide) hR.2⟩ tb_937 hv6 rfl (by decide) rfl hl.1 rfl (Nat.le_of_ble_eq_true rfl) ⟨Nat.zero_le _, Nat.zero_le _⟩ dX11_fled_5) (fun H locs dy => ?_)
  obtain ⟨e0, e1⟩ := hq0 _ _ (Option.some.inj hr).symm
  exact h_iret cx dy hlocks hret rfl e0 (by rw [e1]) dX11_fled_8
noncomputable def r_X11_doubt_89' (V : Vk) (x22 : Int32) (x23 : Int32) (x24 : Int32) (x25 : Int32) (x26 : Int32) (y27 : Int64) (y28 : Int64) (x29 : Int32) (g30 : Hq) : Option ((Int32 × Int32 × Int32 × Int32 × Int32 × Int64 × Int64 × Int32 × Hq) ⊕ (Int64 × Hq)) :=
  brn (x22 < x29) (brn (x23 = (2 : Int32)) (brn (0 < (lg_cmp ((20 : Int64) * y28) y27)) (some (.inr ((0 : Int64), g30))) (some (.inr ((1 : Int64), g30)))) (brn (x23 = 0) (bnd (r_X11_greatestCommonPart V y28 y27 g30) fun y32 g31 => grd (¬ y32 = 0) <| some (.inr ((y28 / y32), g31))) (bnd (r_X11_greatestCommonPart V y28 y27 g30) fun y36 g35 => grd (¬ y36 = 0) <| some (.inr ((y27 / y36), g35))))) (bnd (r_X11_waysToChoose V x24 x29 g30) fun y40 g39 => bnd (r_X11_waysToChoose V x25 (x26 - x29) g39) fun y43 g42 => nm (y28 + (y40 * y43)) fun y45 => nm (x29 + (1 : Int32)) fun x46 => some (.inl (x22, x23, x24, x25, x26, y27, y45, x46, g42)))
noncomputable def r_X11_doubt_89 (V : Vk) (st : (Int32 × Int32 × Int32 × Int32 × Int32 × Int64 × Int64 × Int32 × Hq)) : Option ((Int32 × Int32 × Int32 × Int32 × Int32 × Int64 × Int64 × Int32 × Hq) ⊕ (Int64 × Hq)) := r_X11_doubt_89' V st.1 st.2.1 st.2.2.1 st.2.2.2.1 st.2.2.2.2.1 st.2.2.2.2.2.1 st.2.2.2.2.2.2.1 st.2.2.2.2.2.2.2.1 st.2.2.2.2.2.2.2.2
set_option maxHeartbeats 4000000 in
set_option maxRecDepth 100000 in
theorem w_X11_doubt_89 {p : Program} {l : Launch} {e : Env} {R : Room} {s : State} {m : MethodId} {args : Array Value} {below : List Frame} {meth : Method} {c : Code} {D : va_G} {cA : Nat → ClassId} {sk : (Nat → Nat) × (Nat → Nat)} {ad : Nat → Nat} {A : Nat → Prop} {V : Vk} (cx : CallFix p m c cX11_doubt 14 s args gw_tbl RX11) (fx : Fx D cA sk A s) (hlocks : meth.locks = false) (hret : meth.sig.returnType = (some .long)) (hR : 2 ≤ R.frames ∧ 54 ≤ R.locals) (r0 : Int64) (g0 : Hq) (y : (Int64 × Hq)) (hq : ∀ (rb : Int64) (gb : Hq), y = (rb, gb) → rb = r0 ∧ gb = g0) : ∀ (n : Nat) (x22 : Int32) (x23 : Int32) (x24 : Int32) (x25 : Int32) (x26 : Int32) (y27 : Int64) (y28 : Int64) (x29 : Int32) (g30 : Hq), itr (r_X11_doubt_89 V) n (x22, x23, x24, x25, x26, y27, y28, x29, g30) = some y → ∀ (H : Heap) (locs : List Loc) (ls : Array Slot), Dy D cA ad (V, g30) A s.heap H locs → lv_has ls 14 [(1, .int x22), (5, .int x23), (6, .int x24), (7, .int x25), (8, .int x26), (9, .long y27), (11, .long y28), (13, .int x29)] → W p l e R s m args below meth c H locs 0 0 (MQ below (QL D cA ad A r0 (V, g0)) args s 0 0 A) (F0 m 89 ls []) := by
  intro n
  induction n with
  | zero => intro x22 x23 x24 x25 x26 y27 y28 x29 g30 hr; cases hr
  | succ n ih =>
    intro x22 x23 x24 x25 x26 y27 y28 x29 g30 hr H locs ls dy hl
    obtain ⟨z, hz, hn1, hn2⟩ := itr_succ hr
    clear hr
    have hr : r_X11_doubt_89' V x22 x23 x24 x25 x26 y27 y28 x29 g30 = some z := hz
    clear hz
    unfold r_X11_doubt_89' at hr
    have hh0 : ∀ (b0 : Int32) (b1 : Int32) (b2 : Int32) (b3 : Int32) (b4 : Int32) (b5 : Int64) (b6 : Int64) (b7 : Int32) (gb : Hq), z = .inl (b0, b1, b2, b3, b4, b5, b6, b7, gb) → ∀ (H : Heap) (locs : List Loc) (ls : Array Slot), Dy D cA ad (V, gb) A s.heap H locs → lv_has ls 14 [(1, .int b0), (5, .int b1), (6, .int b2), (7, .int b3), (8, .int b4), (9, .long b5), (11, .long b6), (13, .int b7)] → W p l e R s m args below meth c H locs 0 0 (MQ below (QL D cA ad A r0 (V, g0)) args s 0 0 A) (F0 m 89 ls []) := fun b0 b1 b2 b3 b4 b5 b6 b7 gb eb => ih b0 b1 b2 b3 b4 b5 b6 b7 gb (hn1 _ eb)
    have hq0 : ∀ (rb : Int64) (gb : Hq), z = (.inr (rb, gb)) → rb = r0 ∧ gb = g0 := fun rb gb eb => hq rb gb (hn2 _ eb).symm
    refine lv_iload cx.1 cx.2.1 dX11_doubt_89 (lv_at hl 7 rfl) ?_
    refine lv_iload_n cx.1 cx.2.1 dX11_doubt_91 rfl (lv_at hl 0 rfl) ?_
    rcases of_brn hr with ⟨hc, hr⟩ | ⟨hc, hr⟩
    · refine lv_icmp_gt (tgt := 124) cx.1 cx.2.1 dX11_doubt_92 (by decide) (fun _ => ?_) (fun hn => absurd hc hn)
      refine lv_iload cx.1 cx.2.1 dX11_doubt_124 (lv_at hl 1 rfl) ?_
      refine lv_iconst (v := 2) cx.1 cx.2.1 dX11_doubt_126 (by decide) ?_
      rcases of_brn hr with ⟨hc, hr⟩ | ⟨hc, hr⟩
      · refine lv_icmp_ne (tgt := 148) cx.1 cx.2.1 dX11_doubt_127 (by decide) (fun hn => absurd hc hn) (fun _ => ?_)
        refine lv_ldc2 (v := (20)) cx.1 cx.2.1 cx.2.2.2.1 (cx.2.2.2.2 _ tb_953) dX11_doubt_130 ?_
        refine lv_lload cx.1 cx.2.1 dX11_doubt_133 (lv_at hl 6 rfl) ?_
        refine lv_lmul cx.1 cx.2.1 dX11_doubt_135 ?_
        refine lv_lload cx.1 cx.2.1 dX11_doubt_136 (lv_at hl 5 rfl) ?_
        refine W.lcmp cx.1 cx.2.1 dX11_doubt_138 ?_
        rcases of_brn hr with ⟨hc, hr⟩ | ⟨hc, hr⟩
        · refine lv_if_gt (tgt := 146) cx.1 cx.2.1 dX11_doubt_139 (by decide) (fun _ => ?_) (fun hn => absurd hc hn)
          refine lv_lconst (v := 0) cx.1 cx.2.1 dX11_doubt_146 (by decide) ?_
          obtain ⟨e0, e1⟩ := hq0 _ _ (Option.some.inj hr).symm
          exact h_lret cx dy hlocks hret e0 (by rw [e1]) dX11_doubt_147
        · refine lv_if_gt (tgt := 146) cx.1 cx.2.1 dX11_doubt_139 (by decide) (fun hn => absurd hn hc) (fun _ => ?_)
          refine lv_lconst (v := 1) cx.1 cx.2.1 dX11_doubt_142 (by decide) ?_
          refine lv_goto (tgt := 147) cx.1 cx.2.1 dX11_doubt_143 (by decide) ?_
          obtain ⟨e0, e1⟩ := hq0 _ _ (Option.some.inj hr).symm
          exact h_lret cx dy hlocks hret e0 (by rw [e1]) dX11_doubt_147
      · refine lv_icmp_ne (tgt := 148) cx.1 cx.2.1 dX11_doubt_127 (by decide) (fun _ => ?_) (fun hn => absurd hn hc)
        refine lv_iload cx.1 cx.2.1 dX11_doubt_148 (lv_at hl 1 rfl) ?_
        rcases of_brn hr with ⟨hc, hr⟩ | ⟨hc, hr⟩
        · refine lv_if_ne (tgt := 158) cx.1 cx.2.1 dX11_doubt_150 (by decide) (fun hn => absurd hc hn) (fun _ => ?_)
          refine lv_lload cx.1 cx.2.1 dX11_doubt_153 (lv_at hl 6 rfl) ?_
          refine lv_goto (tgt := 160) cx.1 cx.2.1 dX11_doubt_155 (by decide) ?_
          refine lv_lload cx.1 cx.2.1 dX11_doubt_160 (lv_at hl 6 rfl) ?_
          refine lv_lload cx.1 cx.2.1 dX11_doubt_162 (lv_at hl 5 rfl) ?_
          obtain ⟨y32, g31, hc33, hr⟩ := of_bnd2 hr
          refine r_l dy (k_S (As := [.long y28, .long y27]) cx fx dy (c_X11_greatestCommonPart hc33) mv_X11_greatestCommonPart rfl rfl ⟨Nat.le_trans (by decide) hR.1, Nat.le_trans (by decide) hR.2⟩ tb_954 rfl hl.1 rfl (Nat.le_of_ble_eq_true rfl) ⟨Nat.zero_le _, Nat.zero_le _⟩ dX11_doubt_164) (fun H locs dy => ?_)
          obtain ⟨hz34, hr⟩ := of_grd hr
          refine lv_ldiv cx.1 cx.2.1 dX11_doubt_167 hz34 ?_
          obtain ⟨e0, e1⟩ := hq0 _ _ (Option.some.inj hr).symm
          exact h_lret cx dy hlocks hret e0 (by rw [e1]) dX11_doubt_168
        · refine lv_if_ne (tgt := 158) cx.1 cx.2.1 dX11_doubt_150 (by decide) (fun _ => ?_) (fun hn => absurd hn hc)
          refine lv_lload cx.1 cx.2.1 dX11_doubt_158 (lv_at hl 5 rfl) ?_
          refine lv_lload cx.1 cx.2.1 dX11_doubt_160 (lv_at hl 6 rfl) ?_
          refine lv_lload cx.1 cx.2.1 dX11_doubt_162 (lv_at hl 5 rfl) ?_
          obtain ⟨y36, g35, hc37, hr⟩ := of_bnd2 hr
          refine r_l dy (k_S (As := [.long y28, .long y27]) cx fx dy (c_X11_greatestCommonPart hc37) mv_X11_greatestCommonPart rfl rfl ⟨Nat.le_trans (by decide) hR.1, Nat.le_trans (by decide) hR.2⟩ tb_954 rfl hl.1 rfl (Nat.le_of_ble_eq_true rfl) ⟨Nat.zero_le _, Nat.zero_le _⟩ dX11_doubt_164) (fun H locs dy => ?_)
          obtain ⟨hz38, hr⟩ := of_grd hr
          refine lv_ldiv cx.1 cx.2.1 dX11_doubt_167 hz38 ?_
          obtain ⟨e0, e1⟩ := hq0 _ _ (Option.some.inj hr).symm
          exact h_lret cx dy hlocks hret e0 (by rw [e1]) dX11_doubt_168
    · refine lv_icmp_gt (tgt := 124) cx.1 cx.2.1 dX11_doubt_92 (by decide) (fun hn => absurd hn hc) (fun _ => ?_)
      refine lv_lload cx.1 cx.2.1 dX11_doubt_95 (lv_at hl 6 rfl) ?_
      refine lv_iload cx.1 cx.2.1 dX11_doubt_97 (lv_at hl 2 rfl) ?_
      refine lv_iload cx.1 cx.2.1 dX11_doubt_99 (lv_at hl 7 rfl) ?_
      obtain ⟨y40, g39, hc41, hr⟩ := of_bnd2 hr
      refine r_l dy (k_S (As := [.int x24, .int x29]) cx fx dy (c_X11_waysToChoose hc41) mv_X11_waysToChoose rfl rfl ⟨Nat.le_trans (by decide) hR.1, Nat.le_trans (by decide) hR.2⟩ tb_949 rfl hl.1 rfl (Nat.le_of_ble_eq_true rfl) ⟨Nat.zero_le _, Nat.zero_le _⟩ dX11_doubt_101) (fun H locs dy => ?_)
      refine lv_iload cx.1 cx.2.1 dX11_doubt_104 (lv_at hl 3 rfl) ?_
      refine lv_iload cx.1 cx.2.1 dX11_doubt_106 (lv_at hl 4 rfl) ?_
      refine lv_iload cx.1 cx.2.1 dX11_doubt_108 (lv_at hl 7 rfl) ?_
      refine lv_isub cx.1 cx.2.1 dX11_doubt_110 ?_
      obtain ⟨y43, g42, hc44, hr⟩ := of_bnd2 hr
      refine r_l dy (k_S (As := [.int x25, .int (x26 - x29)]) cx fx dy (c_X11_waysToChoose hc44) mv_X11_waysToChoose rfl rfl ⟨Nat.le_trans (by decide) hR.1, Nat.le_trans (by decide) hR.2⟩ tb_949 rfl hl.1 rfl (Nat.le_of_ble_eq_true rfl) ⟨Nat.zero_le _, Nat.zero_le _⟩ dX11_doubt_111) (fun H locs dy => ?_)
      refine lv_lmul cx.1 cx.2.1 dX11_doubt_114 ?_
      refine lv_ladd cx.1 cx.2.1 dX11_doubt_115 ?_
      obtain ⟨y45, ey45, hr⟩ := of_nm hr
      refine lv_nml ey45 ?_
      refine lv_lstore (lv' := [(11, .long y45), (1, .int x22), (5, .int x23), (6, .int x24), (7, .int x25), (8, .int x26), (9, .long y27), (13, .int x29)]) cx.1 cx.2.1 dX11_doubt_116 hl (by decide) rfl (fun ls hl => ?_)
      obtain ⟨x46, ex46, hr⟩ := of_nm hr
      refine lv_iinc (v := x46) (lv' := [(13, .int x46), (11, .long y45), (1, .int x22), (5, .int x23), (6, .int x24), (7, .int x25), (8, .int x26), (9, .long y27)]) cx.1 cx.2.1 dX11_doubt_118 hl (k := 7) rfl (by rw [ex46]; rfl) (by decide) rfl (fun ls hl => ?_)
      refine lv_goto (tgt := 89) cx.1 cx.2.1 dX11_doubt_121 (by decide) ?_
      exact hh0 x22 x23 x24 x25 x26 y27 y45 x46 g42 (Option.some.inj hr).symm H locs ls dy (lv_sub hl [2, 3, 4, 5, 6, 7, 1, 0] rfl)
noncomputable def r_X11_doubt (V : Vk) (k0 : Nat) (a1 : Int32) (a2 : Int32) (a3 : Int32) (a4 : Int32) (a5 : Int32) (g : Hq) : Option (Int64 × Hq) :=
  bnd (r_X11_isInTable V a1 g) fun x2 g1 => brn (x2 = 0) (some ((-2 : Int64), g1)) (bnd (r_X11_isInTable V a2 g1) fun x5 g4 => brn (x5 = 0) (some ((-2 : Int64), g4)) (bnd (r_X11_isInTable V a3 g4) fun x8 g7 => brn (x8 = 0) (some ((-2 : Int64), g7)) (bnd (r_X11_isInTable V a4 g7) fun x11 g10 => brn (x11 = 0) (some ((-2 : Int64), g10)) (bnd (r_X11_isFrom V a5 (0 : Int32) (2 : Int32) g10) fun x14 g13 => brn (x14 = 0) (some ((-2 : Int64), g13)) (nm (a1 + a2) fun x16 => nm (a3 + a4) fun x17 => nm (a1 + a3) fun x18 => brn ((x16 + x17) = 0) (some ((-2 : Int64), g13)) (bnd (r_X11_waysToChoose V (x16 + x17) x18 g13) fun y20 g19 => (lop (r_X11_doubt_89 V) (a1, a5, x16, x17, x18, y20, (0 : Int64), (0 : Int32), g19))))))))
set_option maxHeartbeats 4000000 in
set_option maxRecDepth 100000 in
theorem c_X11_doubt {l : Launch} {D : va_G} {cA : Nat → ClassId} {sk : (Nat → Nat) × (Nat → Nat)} {ad : Nat → Nat} {A : Nat → Prop} {V : Vk} {k0 : Nat} {a1 : Int32} {a2 : Int32} {a3 : Int32} {a4 : Int32} {a5 : Int32} {g g0 : Hq} {r0 : Int64} (hr : r_X11_doubt V k0 a1 a2 a3 a4 a5 g = some (r0, g0)) : Met l yX11_doubt (wM yX11_doubt cX11_doubt 14 (some .long)) { frames := 2, cells := 0, slots := 0, locals := 54 } (Pre D cA sk ad (V, g) A [.ref (ad k0), .int a1, .int a2, .int a3, .int a4, .int a5]) (QL D cA ad A r0 (V, g0)) 0 0 A := by
  refine Met.ofW (cc := cX11_doubt) (maxL := 14) (ret := (some .long)) (by decide) rfl ?_
  intro p e s m args below meth c s₁ B hml hv
  obtain ⟨rfl, fx, w0⟩ := hv
  have hts := atoms_spec (ws := wM yX11_doubt cX11_doubt 14 (some .long)) B.pre
  have cx : CallFix p m c cX11_doubt 14 s ([.ref (ad k0), .int a1, .int a2, .int a3, .int a4, .int a5] : List Value).toArray gw_tbl RX11 := ⟨B.exec, B.bytes, hml, findClass_of_methodNamed B.named, fun w hw => hts w (List.mem_cons_of_mem _ hw)⟩
  have hlocks := B.notSynchronized
  have hret := B.returns
  have hR : 2 ≤ (headSpec (wM yX11_doubt cX11_doubt 14 (some .long)) { frames := 2, cells := 0, slots := 0, locals := 54 }).room.frames ∧ 54 ≤ (headSpec (wM yX11_doubt cX11_doubt 14 (some .long)) { frames := 2, cells := 0, slots := 0, locals := 54 }).room.locals := ⟨Nat.le_refl _, Nat.le_refl _⟩
  have dy : Dy D cA ad (V, g) A s.heap s.heap [] := ⟨w0, va_S.rf⟩
  have hl := lv_entry [.ref (ad k0), .int a1, .int a2, .int a3, .int a4, .int a5] (n := 14) (Nat.le_of_ble_eq_true rfl)
  rw [lg_entry_eq]
  generalize (lg_sl [.ref (ad k0), .int a1, .int a2, .int a3, .int a4, .int a5] ++ List.replicate (14 - (lg_sl [.ref (ad k0), .int a1, .int a2, .int a3, .int a4, .int a5]).length) Slot.unset).toArray = ls at hl ⊢
  have hl : lv_has ls 14 [(0, .ref (ad k0)), (1, .int a1), (2, .int a2), (3, .int a3), (4, .int a4), (5, .int a5)] := hl
  have dy0 : ∃ H0, H0 = s.heap ∧ Dy D cA ad (V, g) A s.heap H0 [] := ⟨_, rfl, dy⟩
  obtain ⟨z, ez⟩ : ∃ z, z = (r0, g0) := ⟨_, rfl⟩
  rw [← ez] at hr
  have hq0 : ∀ (rb : Int64) (gb : Hq), z = (rb, gb) → rb = r0 ∧ gb = g0 := fun rb gb eb => by rw [ez] at eb; exact ⟨(congrArg Prod.fst eb).symm, (congrArg Prod.snd eb).symm⟩
  clear ez w0 dy0
  unfold r_X11_doubt at hr
  obtain ⟨H, hH⟩ : ∃ H, H = s.heap := ⟨_, rfl⟩
  obtain ⟨locs, hlo⟩ : ∃ q : List Loc, q = [] := ⟨_, rfl⟩
  have dy : Dy D cA ad (V, g) A s.heap H locs := by rw [hH, hlo]; exact dy
  suffices K : W p l e (headSpec (wM yX11_doubt cX11_doubt 14 (some .long)) { frames := 2, cells := 0, slots := 0, locals := 54 }).room s m ([.ref (ad k0), .int a1, .int a2, .int a3, .int a4, .int a5] : List Value).toArray below meth c H locs 0 0 (MQ below (QL D cA ad A r0 (V, g0)) ([.ref (ad k0), .int a1, .int a2, .int a3, .int a4, .int a5] : List Value).toArray s 0 0 A) (F0 m 0 ls []) by rw [hH, hlo] at K; exact K
  clear hH hlo
  refine lv_iload_n cx.1 cx.2.1 dX11_doubt_0 rfl (lv_at hl 1 rfl) ?_
  obtain ⟨x2, g1, hc3, hr⟩ := of_bnd2 hr
  refine r_i dy (k_S (As := [.int a1]) cx fx dy (c_X11_isInTable hc3) mv_X11_isInTable rfl rfl ⟨Nat.le_trans (by decide) hR.1, Nat.le_trans (by decide) hR.2⟩ tb_945 rfl hl.1 rfl (Nat.le_of_ble_eq_true rfl) ⟨Nat.zero_le _, Nat.zero_le _⟩ dX11_doubt_1) (fun H locs dy => ?_)
  rcases of_brn hr with ⟨hc, hr⟩ | ⟨hc, hr⟩
  · refine lv_if_eq (tgt := 39) cx.1 cx.2.1 dX11_doubt_4 (by decide) (fun _ => ?_) (fun hn => absurd hc hn)
    refine lv_ldc2 (v := (-2)) cx.1 cx.2.1 cx.2.2.2.1 (cx.2.2.2.2 _ tb_948) dX11_doubt_39 ?_
    obtain ⟨e0, e1⟩ := hq0 _ _ (Option.some.inj hr).symm
    exact h_lret cx dy hlocks hret e0 (by rw [e1]) dX11_doubt_42
  · refine lv_if_eq (tgt := 39) cx.1 cx.2.1 dX11_doubt_4 (by decide) (fun hn => absurd hn hc) (fun _ => ?_)
    refine lv_iload_n cx.1 cx.2.1 dX11_doubt_7 rfl (lv_at hl 2 rfl) ?_
    obtain ⟨x5, g4, hc6, hr⟩ := of_bnd2 hr
    refine r_i dy (k_S (As := [.int a2]) cx fx dy (c_X11_isInTable hc6) mv_X11_isInTable rfl rfl ⟨Nat.le_trans (by decide) hR.1, Nat.le_trans (by decide) hR.2⟩ tb_945 rfl hl.1 rfl (Nat.le_of_ble_eq_true rfl) ⟨Nat.zero_le _, Nat.zero_le _⟩ dX11_doubt_8) (fun H locs dy => ?_)
    rcases of_brn hr with ⟨hc, hr⟩ | ⟨hc, hr⟩
    · refine lv_if_eq (tgt := 39) cx.1 cx.2.1 dX11_doubt_11 (by decide) (fun _ => ?_) (fun hn => absurd hc hn)
      refine lv_ldc2 (v := (-2)) cx.1 cx.2.1 cx.2.2.2.1 (cx.2.2.2.2 _ tb_948) dX11_doubt_39 ?_
      obtain ⟨e0, e1⟩ := hq0 _ _ (Option.some.inj hr).symm
      exact h_lret cx dy hlocks hret e0 (by rw [e1]) dX11_doubt_42
    · refine lv_if_eq (tgt := 39) cx.1 cx.2.1 dX11_doubt_11 (by decide) (fun hn => absurd hn hc) (fun _ => ?_)
      refine lv_iload_n cx.1 cx.2.1 dX11_doubt_14 rfl (lv_at hl 3 rfl) ?_
      obtain ⟨x8, g7, hc9, hr⟩ := of_bnd2 hr
      refine r_i dy (k_S (As := [.int a3]) cx fx dy (c_X11_isInTable hc9) mv_X11_isInTable rfl rfl ⟨Nat.le_trans (by decide) hR.1, Nat.le_trans (by decide) hR.2⟩ tb_945 rfl hl.1 rfl (Nat.le_of_ble_eq_true rfl) ⟨Nat.zero_le _, Nat.zero_le _⟩ dX11_doubt_15) (fun H locs dy => ?_)
      rcases of_brn hr with ⟨hc, hr⟩ | ⟨hc, hr⟩
      · refine lv_if_eq (tgt := 39) cx.1 cx.2.1 dX11_doubt_18 (by decide) (fun _ => ?_) (fun hn => absurd hc hn)
        refine lv_ldc2 (v := (-2)) cx.1 cx.2.1 cx.2.2.2.1 (cx.2.2.2.2 _ tb_948) dX11_doubt_39 ?_
        obtain ⟨e0, e1⟩ := hq0 _ _ (Option.some.inj hr).symm
        exact h_lret cx dy hlocks hret e0 (by rw [e1]) dX11_doubt_42
      · refine lv_if_eq (tgt := 39) cx.1 cx.2.1 dX11_doubt_18 (by decide) (fun hn => absurd hn hc) (fun _ => ?_)
        refine lv_iload cx.1 cx.2.1 dX11_doubt_21 (lv_at hl 4 rfl) ?_
        obtain ⟨x11, g10, hc12, hr⟩ := of_bnd2 hr
        refine r_i dy (k_S (As := [.int a4]) cx fx dy (c_X11_isInTable hc12) mv_X11_isInTable rfl rfl ⟨Nat.le_trans (by decide) hR.1, Nat.le_trans (by decide) hR.2⟩ tb_945 rfl hl.1 rfl (Nat.le_of_ble_eq_true rfl) ⟨Nat.zero_le _, Nat.zero_le _⟩ dX11_doubt_23) (fun H locs dy => ?_)
        rcases of_brn hr with ⟨hc, hr⟩ | ⟨hc, hr⟩
        · refine lv_if_eq (tgt := 39) cx.1 cx.2.1 dX11_doubt_26 (by decide) (fun _ => ?_) (fun hn => absurd hc hn)
          refine lv_ldc2 (v := (-2)) cx.1 cx.2.1 cx.2.2.2.1 (cx.2.2.2.2 _ tb_948) dX11_doubt_39 ?_
          obtain ⟨e0, e1⟩ := hq0 _ _ (Option.some.inj hr).symm
          exact h_lret cx dy hlocks hret e0 (by rw [e1]) dX11_doubt_42
        · refine lv_if_eq (tgt := 39) cx.1 cx.2.1 dX11_doubt_26 (by decide) (fun hn => absurd hn hc) (fun _ => ?_)
          refine lv_iload cx.1 cx.2.1 dX11_doubt_29 (lv_at hl 5 rfl) ?_
          refine lv_iconst (v := 0) cx.1 cx.2.1 dX11_doubt_31 (by decide) ?_
          refine lv_iconst (v := 2) cx.1 cx.2.1 dX11_doubt_32 (by decide) ?_
          obtain ⟨x14, g13, hc15, hr⟩ := of_bnd2 hr
          refine r_i dy (k_S (As := [.int a5, .int (0 : Int32), .int (2 : Int32)]) cx fx dy (c_X11_isFrom hc15) mv_X11_isFrom rfl rfl ⟨Nat.le_trans (by decide) hR.1, Nat.le_trans (by decide) hR.2⟩ tb_424 rfl hl.1 rfl (Nat.le_of_ble_eq_true rfl) ⟨Nat.zero_le _, Nat.zero_le _⟩ dX11_doubt_33) (fun H locs dy => ?_)
          rcases of_brn hr with ⟨hc, hr⟩ | ⟨hc, hr⟩
          · refine lv_if_ne (tgt := 43) cx.1 cx.2.1 dX11_doubt_36 (by decide) (fun hn => absurd hc hn) (fun _ => ?_)
            refine lv_ldc2 (v := (-2)) cx.1 cx.2.1 cx.2.2.2.1 (cx.2.2.2.2 _ tb_948) dX11_doubt_39 ?_
            obtain ⟨e0, e1⟩ := hq0 _ _ (Option.some.inj hr).symm
            exact h_lret cx dy hlocks hret e0 (by rw [e1]) dX11_doubt_42
          · refine lv_if_ne (tgt := 43) cx.1 cx.2.1 dX11_doubt_36 (by decide) (fun _ => ?_) (fun hn => absurd hn hc)
            refine lv_iload_n cx.1 cx.2.1 dX11_doubt_43 rfl (lv_at hl 1 rfl) ?_
            refine lv_iload_n cx.1 cx.2.1 dX11_doubt_44 rfl (lv_at hl 2 rfl) ?_
            refine lv_iadd cx.1 cx.2.1 dX11_doubt_45 ?_
            obtain ⟨x16, ex16, hr⟩ := of_nm hr
            refine lv_nmi ex16 ?_
            refine lv_istore (lv' := [(6, .int x16), (0, .ref (ad k0)), (1, .int a1), (2, .int a2), (3, .int a3), (4, .int a4), (5, .int a5)]) cx.1 cx.2.1 dX11_doubt_46 hl (by decide) rfl (fun ls hl => ?_)
            refine lv_iload_n cx.1 cx.2.1 dX11_doubt_48 rfl (lv_at hl 4 rfl) ?_
            refine lv_iload cx.1 cx.2.1 dX11_doubt_49 (lv_at hl 5 rfl) ?_
            refine lv_iadd cx.1 cx.2.1 dX11_doubt_51 ?_
            obtain ⟨x17, ex17, hr⟩ := of_nm hr
            refine lv_nmi ex17 ?_
            refine lv_istore (lv' := [(7, .int x17), (6, .int x16), (0, .ref (ad k0)), (1, .int a1), (2, .int a2), (3, .int a3), (4, .int a4), (5, .int a5)]) cx.1 cx.2.1 dX11_doubt_52 hl (by decide) rfl (fun ls hl => ?_)
            refine lv_iload_n cx.1 cx.2.1 dX11_doubt_54 rfl (lv_at hl 3 rfl) ?_
            refine lv_iload_n cx.1 cx.2.1 dX11_doubt_55 rfl (lv_at hl 5 rfl) ?_
            refine lv_iadd cx.1 cx.2.1 dX11_doubt_56 ?_
            obtain ⟨x18, ex18, hr⟩ := of_nm hr
            refine lv_nmi ex18 ?_
            refine lv_istore (lv' := [(8, .int x18), (7, .int x17), (6, .int x16), (0, .ref (ad k0)), (1, .int a1), (2, .int a2), (3, .int a3), (4, .int a4), (5, .int a5)]) cx.1 cx.2.1 dX11_doubt_57 hl (by decide) rfl (fun ls hl => ?_)
            refine lv_iload cx.1 cx.2.1 dX11_doubt_59 (lv_at hl 2 rfl) ?_
            refine lv_iload cx.1 cx.2.1 dX11_doubt_61 (lv_at hl 1 rfl) ?_
            refine lv_iadd cx.1 cx.2.1 dX11_doubt_63 ?_
            rcases of_brn hr with ⟨hc, hr⟩ | ⟨hc, hr⟩
            · refine lv_if_ne (tgt := 71) cx.1 cx.2.1 dX11_doubt_64 (by decide) (fun hn => absurd hc hn) (fun _ => ?_)
              refine lv_ldc2 (v := (-2)) cx.1 cx.2.1 cx.2.2.2.1 (cx.2.2.2.2 _ tb_948) dX11_doubt_67 ?_
              obtain ⟨e0, e1⟩ := hq0 _ _ (Option.some.inj hr).symm
              exact h_lret cx dy hlocks hret e0 (by rw [e1]) dX11_doubt_70
            · refine lv_if_ne (tgt := 71) cx.1 cx.2.1 dX11_doubt_64 (by decide) (fun _ => ?_) (fun hn => absurd hn hc)
              refine lv_iload cx.1 cx.2.1 dX11_doubt_71 (lv_at hl 2 rfl) ?_
              refine lv_iload cx.1 cx.2.1 dX11_doubt_73 (lv_at hl 1 rfl) ?_
              refine lv_iadd cx.1 cx.2.1 dX11_doubt_75 ?_
              refine lv_iload cx.1 cx.2.1 dX11_doubt_76 (lv_at hl 0 rfl) ?_
              obtain ⟨y20, g19, hc21, hr⟩ := of_bnd2 hr
              refine r_l dy (k_S (As := [.int (x16 + x17), .int x18]) cx fx dy (c_X11_waysToChoose hc21) mv_X11_waysToChoose rfl rfl ⟨Nat.le_trans (by decide) hR.1, Nat.le_trans (by decide) hR.2⟩ tb_949 rfl hl.1 rfl (Nat.le_of_ble_eq_true rfl) ⟨Nat.zero_le _, Nat.zero_le _⟩ dX11_doubt_78) (fun H locs dy => ?_)
              refine lv_lstore (lv' := [(9, .long y20), (8, .int x18), (7, .int x17), (6, .int x16), (0, .ref (ad k0)), (1, .int a1), (2, .int a2), (3, .int a3), (4, .int a4), (5, .int a5)]) cx.1 cx.2.1 dX11_doubt_81 hl (by decide) rfl (fun ls hl => ?_)
              refine lv_lconst (v := 0) cx.1 cx.2.1 dX11_doubt_83 (by decide) ?_
              refine lv_lstore (lv' := [(11, .long (0 : Int64)), (9, .long y20), (8, .int x18), (7, .int x17), (6, .int x16), (0, .ref (ad k0)), (1, .int a1), (2, .int a2), (3, .int a3), (4, .int a4), (5, .int a5)]) cx.1 cx.2.1 dX11_doubt_84 hl (by decide) rfl (fun ls hl => ?_)
              refine lv_iconst (v := 0) cx.1 cx.2.1 dX11_doubt_86 (by decide) ?_
              refine lv_istore (lv' := [(13, .int (0 : Int32)), (11, .long (0 : Int64)), (9, .long y20), (8, .int x18), (7, .int x17), (6, .int x16), (0, .ref (ad k0)), (1, .int a1), (2, .int a2), (3, .int a3), (4, .int a4), (5, .int a5)]) cx.1 cx.2.1 dX11_doubt_87 hl (by decide) rfl (fun ls hl => ?_)
              obtain ⟨n, hr⟩ := lop_some hr
              exact w_X11_doubt_89 cx fx hlocks hret hR r0 g0 z hq0 n a1 a5 x16 x17 x18 y20 (0 : Int64) (0 : Int32) g19 hr H locs ls dy (lv_sub hl [7, 11, 5, 4, 3, 2, 1, 0] rfl)
noncomputable def r_X11_count (V : Vk) (k0 : Nat) (a1 : Int32) (g : Hq) : Option (Int32 × Hq) :=
  brn (a1 = (0 : Int32)) (grd (V k0 = some (11, 0)) <| Option.bind (g.2.2 k0 5) fun k2 => grd (V k2 = some (7, 0)) <| bnd (r_X7_size V k2 g) fun x5 g4 => some (x5, g4)) (brn (a1 = (1 : Int32)) (grd (V k0 = some (11, 0)) <| Option.bind (g.2.2 k0 6) fun k10 => grd (V k10 = some (5, 0)) <| bnd (r_X5_size V k10 g) fun x13 g12 => some (x13, g12)) (brn (a1 = (2 : Int32)) (grd (V k0 = some (11, 0)) <| Option.bind (g.2.2 k0 0) fun k18 => grd (V k18 = some (8, 0)) <| bnd (r_X8_length V k18 g) fun x21 g20 => some (x21, g20)) (bnd (r_X11_isFrom V a1 (10 : Int32) (13 : Int32) g) fun x26 g25 => brn (x26 = 0) (bnd (r_X11_isFrom V a1 (20 : Int32) (23 : Int32) g25) fun x29 g28 => brn (x29 = 0) (bnd (r_X11_isFrom V a1 (30 : Int32) (33 : Int32) g28) fun x32 g31 => brn (x32 = 0) (some ((-1 : Int32), g31)) (grd (V k0 = some (11, 0)) <| Option.bind (g31.2.2 k0 4) fun k35 => grd (okV V k35 4 (a1 - (30 : Int32))) <| Option.bind (g31.2.2 k35 (a1 - (30 : Int32)).toNatClampNeg) fun k38 => grd (V k38 = some (10, 0)) <| some ((g31.1 k38 5), g31))) (grd (V k0 = some (11, 0)) <| Option.bind (g28.2.2 k0 4) fun k42 => grd (okV V k42 4 (a1 - (20 : Int32))) <| Option.bind (g28.2.2 k42 (a1 - (20 : Int32)).toNatClampNeg) fun k45 => grd (V k45 = some (10, 0)) <| some ((g28.1 k45 2), g28))) (grd (V k0 = some (11, 0)) <| Option.bind (g25.2.2 k0 4) fun k49 => grd (okV V k49 4 (a1 - (10 : Int32))) <| Option.bind (g25.2.2 k49 (a1 - (10 : Int32)).toNatClampNeg) fun k52 => grd (V k52 = some (10, 0)) <| some ((g25.1 k52 1), g25)))))
set_option maxHeartbeats 4000000 in
set_option maxRecDepth 100000 in
theorem c_X11_count {l : Launch} {D : va_G} {cA : Nat → ClassId} {sk : (Nat → Nat) × (Nat → Nat)} {ad : Nat → Nat} {A : Nat → Prop} {V : Vk} {k0 : Nat} {a1 : Int32} {g g0 : Hq} {r0 : Int32} (hr : r_X11_count V k0 a1 g = some (r0, g0)) : Met l yX11_count (wM yX11_count cX11_count 2 (some .int)) { frames := 1, cells := 0, slots := 0, locals := 22 } (Pre D cA sk ad (V, g) A [.ref (ad k0), .int a1]) (QI D cA ad A r0 (V, g0)) 0 0 A := by
  refine Met.ofW (cc := cX11_count) (maxL := 2) (ret := (some .int)) (by decide) rfl ?_
  intro p e s m args below meth c s₁ B hml hv
  obtain ⟨rfl, fx, w0⟩ := hv
  have hts := atoms_spec (ws := wM yX11_count cX11_count 2 (some .int)) B.pre
  have cx : CallFix p m c cX11_count 2 s ([.ref (ad k0), .int a1] : List Value).toArray gw_tbl RX11 := ⟨B.exec, B.bytes, hml, findClass_of_methodNamed B.named, fun w hw => hts w (List.mem_cons_of_mem _ hw)⟩
  have hlocks := B.notSynchronized
  have hret := B.returns
  have hR : 1 ≤ (headSpec (wM yX11_count cX11_count 2 (some .int)) { frames := 1, cells := 0, slots := 0, locals := 22 }).room.frames ∧ 22 ≤ (headSpec (wM yX11_count cX11_count 2 (some .int)) { frames := 1, cells := 0, slots := 0, locals := 22 }).room.locals := ⟨Nat.le_refl _, Nat.le_refl _⟩
  have dy : Dy D cA ad (V, g) A s.heap s.heap [] := ⟨w0, va_S.rf⟩
  have hl := lv_entry [.ref (ad k0), .int a1] (n := 2) (Nat.le_of_ble_eq_true rfl)
  rw [lg_entry_eq]
  generalize (lg_sl [.ref (ad k0), .int a1] ++ List.replicate (2 - (lg_sl [.ref (ad k0), .int a1]).length) Slot.unset).toArray = ls at hl ⊢
  have hl : lv_has ls 2 [(0, .ref (ad k0)), (1, .int a1)] := hl
  have dy0 : ∃ H0, H0 = s.heap ∧ Dy D cA ad (V, g) A s.heap H0 [] := ⟨_, rfl, dy⟩
  obtain ⟨z, ez⟩ : ∃ z, z = (r0, g0) := ⟨_, rfl⟩
  rw [← ez] at hr
  have hq0 : ∀ (rb : Int32) (gb : Hq), z = (rb, gb) → rb = r0 ∧ gb = g0 := fun rb gb eb => by rw [ez] at eb; exact ⟨(congrArg Prod.fst eb).symm, (congrArg Prod.snd eb).symm⟩
  clear ez w0 dy0
  unfold r_X11_count at hr
  obtain ⟨H, hH⟩ : ∃ H, H = s.heap := ⟨_, rfl⟩
  obtain ⟨locs, hlo⟩ : ∃ q : List Loc, q = [] := ⟨_, rfl⟩
  have dy : Dy D cA ad (V, g) A s.heap H locs := by rw [hH, hlo]; exact dy
  suffices K : W p l e (headSpec (wM yX11_count cX11_count 2 (some .int)) { frames := 1, cells := 0, slots := 0, locals := 22 }).room s m ([.ref (ad k0), .int a1] : List Value).toArray below meth c H locs 0 0 (MQ below (QI D cA ad A r0 (V, g0)) ([.ref (ad k0), .int a1] : List Value).toArray s 0 0 A) (F0 m 0 ls []) by rw [hH, hlo] at K; exact K
  clear hH hlo
  refine lv_iload_n cx.1 cx.2.1 dX11_count_0 rfl (lv_at hl 1 rfl) ?_
  rcases of_brn hr with ⟨hc, hr⟩ | ⟨hs8, hr⟩
  · refine lv_tableIn (off := 27) (tgt := 28) cx.1 cx.2.1 dX11_count_1 (by rw [hc]; decide) (by rw [hc]; decide) (by rw [hc]; rfl) (by decide) ?_
    refine lv_aload_n cx.1 cx.2.1 dX11_count_28 rfl (lv_at hl 0 rfl) ?_
    obtain ⟨hv1, hr⟩ := of_grd hr
    obtain ⟨k2, hf3, hr⟩ := of_bnd hr
    refine h_getR cx fx dy fd_11_5 hv1 tb_370 hf3 dX11_count_29 ?_
    obtain ⟨hv6, hr⟩ := of_grd hr
    obtain ⟨x5, g4, hc7, hr⟩ := of_bnd2 hr
    refine r_i dy (k_V (As := []) (b := k2) (ci := 7) cx fx dy (c_X7_size hc7) mv_X7_size rfl rfl ⟨Nat.le_trans (by decide) hR.1, Nat.le_trans (by decide) hR.2⟩ tb_964 hv6 rfl (by decide) rfl hl.1 rfl (Nat.le_of_ble_eq_true rfl) ⟨Nat.zero_le _, Nat.zero_le _⟩ dX11_count_32) (fun H locs dy => ?_)
    obtain ⟨e0, e1⟩ := hq0 _ _ (Option.some.inj hr).symm
    exact h_iret cx dy hlocks hret rfl e0 (by rw [e1]) dX11_count_35
  rcases of_brn hr with ⟨hc, hr⟩ | ⟨hs16, hr⟩
  · refine lv_tableIn (off := 35) (tgt := 36) cx.1 cx.2.1 dX11_count_1 (by rw [hc]; decide) (by rw [hc]; decide) (by rw [hc]; rfl) (by decide) ?_
    refine lv_aload_n cx.1 cx.2.1 dX11_count_36 rfl (lv_at hl 0 rfl) ?_
    obtain ⟨hv9, hr⟩ := of_grd hr
    obtain ⟨k10, hf11, hr⟩ := of_bnd hr
    refine h_getR cx fx dy fd_11_6 hv9 tb_371 hf11 dX11_count_37 ?_
    obtain ⟨hv14, hr⟩ := of_grd hr
    obtain ⟨x13, g12, hc15, hr⟩ := of_bnd2 hr
    refine r_i dy (k_V (As := []) (b := k10) (ci := 5) cx fx dy (c_X5_size hc15) mv_X5_size rfl rfl ⟨Nat.le_trans (by decide) hR.1, Nat.le_trans (by decide) hR.2⟩ tb_968 hv14 rfl (by decide) rfl hl.1 rfl (Nat.le_of_ble_eq_true rfl) ⟨Nat.zero_le _, Nat.zero_le _⟩ dX11_count_40) (fun H locs dy => ?_)
    obtain ⟨e0, e1⟩ := hq0 _ _ (Option.some.inj hr).symm
    exact h_iret cx dy hlocks hret rfl e0 (by rw [e1]) dX11_count_43
  rcases of_brn hr with ⟨hc, hr⟩ | ⟨hs24, hr⟩
  · refine lv_tableIn (off := 43) (tgt := 44) cx.1 cx.2.1 dX11_count_1 (by rw [hc]; decide) (by rw [hc]; decide) (by rw [hc]; rfl) (by decide) ?_
    refine lv_aload_n cx.1 cx.2.1 dX11_count_44 rfl (lv_at hl 0 rfl) ?_
    obtain ⟨hv17, hr⟩ := of_grd hr
    obtain ⟨k18, hf19, hr⟩ := of_bnd hr
    refine h_getR cx fx dy fd_11_0 hv17 tb_365 hf19 dX11_count_45 ?_
    obtain ⟨hv22, hr⟩ := of_grd hr
    obtain ⟨x21, g20, hc23, hr⟩ := of_bnd2 hr
    refine r_i dy (k_V (As := []) (b := k18) (ci := 8) cx fx dy (c_X8_length hc23) mv_X8_length rfl rfl ⟨Nat.le_trans (by decide) hR.1, Nat.le_trans (by decide) hR.2⟩ tb_405 hv22 rfl (by decide) rfl hl.1 rfl (Nat.le_of_ble_eq_true rfl) ⟨Nat.zero_le _, Nat.zero_le _⟩ dX11_count_48) (fun H locs dy => ?_)
    obtain ⟨e0, e1⟩ := hq0 _ _ (Option.some.inj hr).symm
    exact h_iret cx dy hlocks hret rfl e0 (by rw [e1]) dX11_count_51
  refine lv_tableOut (tgt := 52) cx.1 cx.2.1 dX11_count_1 (tsw_out (fun n h1 h2 => ?_)) (by decide) ?_
  · rcases (show n = 0 ∨ n = 1 ∨ n = 2 by omega) with rfl | rfl | rfl
    · exact hs8
    · exact hs16
    · exact hs24
  · skip
    refine lv_iload_n cx.1 cx.2.1 dX11_count_52 rfl (lv_at hl 1 rfl) ?_
    refine lv_bipush (v := 10) cx.1 cx.2.1 dX11_count_53 (by decide) ?_
    refine lv_bipush (v := 13) cx.1 cx.2.1 dX11_count_55 (by decide) ?_
    obtain ⟨x26, g25, hc27, hr⟩ := of_bnd2 hr
    refine r_i dy (k_S (As := [.int a1, .int (10 : Int32), .int (13 : Int32)]) cx fx dy (c_X11_isFrom hc27) mv_X11_isFrom rfl rfl ⟨Nat.le_trans (by decide) hR.1, Nat.le_trans (by decide) hR.2⟩ tb_424 rfl hl.1 rfl (Nat.le_of_ble_eq_true rfl) ⟨Nat.zero_le _, Nat.zero_le _⟩ dX11_count_57) (fun H locs dy => ?_)
    rcases of_brn hr with ⟨hc, hr⟩ | ⟨hc, hr⟩
    · refine lv_if_eq (tgt := 76) cx.1 cx.2.1 dX11_count_60 (by decide) (fun _ => ?_) (fun hn => absurd hc hn)
      refine lv_iload_n cx.1 cx.2.1 dX11_count_76 rfl (lv_at hl 1 rfl) ?_
      refine lv_bipush (v := 20) cx.1 cx.2.1 dX11_count_77 (by decide) ?_
      refine lv_bipush (v := 23) cx.1 cx.2.1 dX11_count_79 (by decide) ?_
      obtain ⟨x29, g28, hc30, hr⟩ := of_bnd2 hr
      refine r_i dy (k_S (As := [.int a1, .int (20 : Int32), .int (23 : Int32)]) cx fx dy (c_X11_isFrom hc30) mv_X11_isFrom rfl rfl ⟨Nat.le_trans (by decide) hR.1, Nat.le_trans (by decide) hR.2⟩ tb_424 rfl hl.1 rfl (Nat.le_of_ble_eq_true rfl) ⟨Nat.zero_le _, Nat.zero_le _⟩ dX11_count_81) (fun H locs dy => ?_)
      rcases of_brn hr with ⟨hc, hr⟩ | ⟨hc, hr⟩
      · refine lv_if_eq (tgt := 100) cx.1 cx.2.1 dX11_count_84 (by decide) (fun _ => ?_) (fun hn => absurd hc hn)
        refine lv_iload_n cx.1 cx.2.1 dX11_count_100 rfl (lv_at hl 1 rfl) ?_
        refine lv_bipush (v := 30) cx.1 cx.2.1 dX11_count_101 (by decide) ?_
        refine lv_bipush (v := 33) cx.1 cx.2.1 dX11_count_103 (by decide) ?_
        obtain ⟨x32, g31, hc33, hr⟩ := of_bnd2 hr
        refine r_i dy (k_S (As := [.int a1, .int (30 : Int32), .int (33 : Int32)]) cx fx dy (c_X11_isFrom hc33) mv_X11_isFrom rfl rfl ⟨Nat.le_trans (by decide) hR.1, Nat.le_trans (by decide) hR.2⟩ tb_424 rfl hl.1 rfl (Nat.le_of_ble_eq_true rfl) ⟨Nat.zero_le _, Nat.zero_le _⟩ dX11_count_105) (fun H locs dy => ?_)
        rcases of_brn hr with ⟨hc, hr⟩ | ⟨hc, hr⟩
        · refine lv_if_eq (tgt := 124) cx.1 cx.2.1 dX11_count_108 (by decide) (fun _ => ?_) (fun hn => absurd hc hn)
          refine lv_iconst (v := (-1)) cx.1 cx.2.1 dX11_count_124 (by decide) ?_
          obtain ⟨e0, e1⟩ := hq0 _ _ (Option.some.inj hr).symm
          exact h_iret cx dy hlocks hret rfl e0 (by rw [e1]) dX11_count_125
        · refine lv_if_eq (tgt := 124) cx.1 cx.2.1 dX11_count_108 (by decide) (fun hn => absurd hn hc) (fun _ => ?_)
          refine lv_aload_n cx.1 cx.2.1 dX11_count_111 rfl (lv_at hl 0 rfl) ?_
          obtain ⟨hv34, hr⟩ := of_grd hr
          obtain ⟨k35, hf36, hr⟩ := of_bnd hr
          refine h_getR cx fx dy fd_11_4 hv34 tb_369 hf36 dX11_count_112 ?_
          refine lv_iload_n cx.1 cx.2.1 dX11_count_115 rfl (lv_at hl 1 rfl) ?_
          refine lv_bipush (v := 30) cx.1 cx.2.1 dX11_count_116 (by decide) ?_
          refine lv_isub cx.1 cx.2.1 dX11_count_118 ?_
          obtain ⟨ha37, hr⟩ := of_grd hr
          obtain ⟨k38, hf39, hr⟩ := of_bnd hr
          refine h_aald (t := 4) cx fx dy (by decide) rfl ha37 hf39 dX11_count_119 ?_
          obtain ⟨hv40, hr⟩ := of_grd hr
          refine h_getIN cx fx dy fd_10_5 hv40 tb_342 dX11_count_120 ?_
          obtain ⟨e0, e1⟩ := hq0 _ _ (Option.some.inj hr).symm
          exact h_iret cx dy hlocks hret rfl e0 (by rw [e1]) dX11_count_123
      · refine lv_if_eq (tgt := 100) cx.1 cx.2.1 dX11_count_84 (by decide) (fun hn => absurd hn hc) (fun _ => ?_)
        refine lv_aload_n cx.1 cx.2.1 dX11_count_87 rfl (lv_at hl 0 rfl) ?_
        obtain ⟨hv41, hr⟩ := of_grd hr
        obtain ⟨k42, hf43, hr⟩ := of_bnd hr
        refine h_getR cx fx dy fd_11_4 hv41 tb_369 hf43 dX11_count_88 ?_
        refine lv_iload_n cx.1 cx.2.1 dX11_count_91 rfl (lv_at hl 1 rfl) ?_
        refine lv_bipush (v := 20) cx.1 cx.2.1 dX11_count_92 (by decide) ?_
        refine lv_isub cx.1 cx.2.1 dX11_count_94 ?_
        obtain ⟨ha44, hr⟩ := of_grd hr
        obtain ⟨k45, hf46, hr⟩ := of_bnd hr
        refine h_aald (t := 4) cx fx dy (by decide) rfl ha44 hf46 dX11_count_95 ?_
        obtain ⟨hv47, hr⟩ := of_grd hr
        refine h_getIN cx fx dy fd_10_2 hv47 tb_337 dX11_count_96 ?_
        obtain ⟨e0, e1⟩ := hq0 _ _ (Option.some.inj hr).symm
        exact h_iret cx dy hlocks hret rfl e0 (by rw [e1]) dX11_count_99
    · refine lv_if_eq (tgt := 76) cx.1 cx.2.1 dX11_count_60 (by decide) (fun hn => absurd hn hc) (fun _ => ?_)
      refine lv_aload_n cx.1 cx.2.1 dX11_count_63 rfl (lv_at hl 0 rfl) ?_
      obtain ⟨hv48, hr⟩ := of_grd hr
      obtain ⟨k49, hf50, hr⟩ := of_bnd hr
      refine h_getR cx fx dy fd_11_4 hv48 tb_369 hf50 dX11_count_64 ?_
      refine lv_iload_n cx.1 cx.2.1 dX11_count_67 rfl (lv_at hl 1 rfl) ?_
      refine lv_bipush (v := 10) cx.1 cx.2.1 dX11_count_68 (by decide) ?_
      refine lv_isub cx.1 cx.2.1 dX11_count_70 ?_
      obtain ⟨ha51, hr⟩ := of_grd hr
      obtain ⟨k52, hf53, hr⟩ := of_bnd hr
      refine h_aald (t := 4) cx fx dy (by decide) rfl ha51 hf53 dX11_count_71 ?_
      obtain ⟨hv54, hr⟩ := of_grd hr
      refine h_getIN cx fx dy fd_10_1 hv54 tb_334 dX11_count_72 ?_
      obtain ⟨e0, e1⟩ := hq0 _ _ (Option.some.inj hr).symm
      exact h_iret cx dy hlocks hret rfl e0 (by rw [e1]) dX11_count_75
