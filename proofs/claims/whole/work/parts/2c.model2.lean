noncomputable def r_X12_number (V : Vk) (k0 : Nat) (a1 : Int32) (a2 : Int32) (a3 : Int32) (g : Hq) : Option (Int32 × Hq) :=
  grd (V k0 = some (12, 0)) <| brn ((g.1 k0 3) = (2 : Int32)) (bnd (r_X12_in V (g.1 k0 7) a2 a3 g) fun x3 g2 => brn (x3 = 0) (bnd (r_X12_wrong V k0 (2 : Int32) g2) fun x6 g5 => grd (narrow .boolean (.int x6) = .int x6) <| some (x6, g5)) (Option.bind (g2.2.2 k0 29) fun k9 => grd (okV V k9 0 ((32 : Int32) + a1)) <| nm (sI g2 k9 ((32 : Int32) + a1).toNatClampNeg (g2.1 k0 7)) fun g12 => bnd (r_X12_scan V k0 g12) fun u14 g13 => some ((1 : Int32), g13))) (bnd (r_X12_wrong V k0 (1 : Int32) g) fun x17 g16 => grd (narrow .boolean (.int x17) = .int x17) <| some (x17, g16))
set_option maxHeartbeats 4000000 in
set_option maxRecDepth 100000 in
theorem c_X12_number {l : Launch} {D : va_G} {cA : Nat → ClassId} {sk : (Nat → Nat) × (Nat → Nat)} {ad : Nat → Nat} {A : Nat → Prop} {V : Vk} {k0 : Nat} {a1 : Int32} {a2 : Int32} {a3 : Int32} {g g0 : Hq} {r0 : Int32} (hr : r_X12_number V k0 a1 a2 a3 g = some (r0, g0)) : Met l yX12_number (wM yX12_number cX12_number 4 (some .boolean)) { frames := 6, cells := 0, slots := 0, locals := 135 } (Pre D cA sk ad (V, g) A [.ref (ad k0), .int a1, .int a2, .int a3]) (QI D cA ad A r0 (V, g0)) 0 0 A := by
  refine Met.ofW (cc := cX12_number) (maxL := 4) (ret := (some .boolean)) (by decide) rfl ?_
  intro p e s m args below meth c s₁ B hml hv
  obtain ⟨rfl, fx, w0⟩ := hv
  have hts := atoms_spec (ws := wM yX12_number cX12_number 4 (some .boolean)) B.pre
  have cx : CallFix p m c cX12_number 4 s ([.ref (ad k0), .int a1, .int a2, .int a3] : List Value).toArray gw_tbl RX12 := ⟨B.exec, B.bytes, hml, findClass_of_methodNamed B.named, fun w hw => hts w (List.mem_cons_of_mem _ hw)⟩
  have hlocks := B.notSynchronized
  have hret := B.returns
  have hR : 6 ≤ (headSpec (wM yX12_number cX12_number 4 (some .boolean)) { frames := 6, cells := 0, slots := 0, locals := 135 }).room.frames ∧ 135 ≤ (headSpec (wM yX12_number cX12_number 4 (some .boolean)) { frames := 6, cells := 0, slots := 0, locals := 135 }).room.locals := ⟨Nat.le_refl _, Nat.le_refl _⟩
  have dy : Dy D cA ad (V, g) A s.heap s.heap [] := ⟨w0, va_S.rf⟩
  have hl := lv_entry [.ref (ad k0), .int a1, .int a2, .int a3] (n := 4) (Nat.le_of_ble_eq_true rfl)
  rw [lg_entry_eq]
  generalize (lg_sl [.ref (ad k0), .int a1, .int a2, .int a3] ++ List.replicate (4 - (lg_sl [.ref (ad k0), .int a1, .int a2, .int a3]).length) Slot.unset).toArray = ls at hl ⊢
  have hl : lv_has ls 4 [(0, .ref (ad k0)), (1, .int a1), (2, .int a2), (3, .int a3)] := hl
  have dy0 : ∃ H0, H0 = s.heap ∧ Dy D cA ad (V, g) A s.heap H0 [] := ⟨_, rfl, dy⟩
  obtain ⟨z, ez⟩ : ∃ z, z = (r0, g0) := ⟨_, rfl⟩
  rw [← ez] at hr
  have hq0 : ∀ (rb : Int32) (gb : Hq), z = (rb, gb) → rb = r0 ∧ gb = g0 := fun rb gb eb => by rw [ez] at eb; exact ⟨(congrArg Prod.fst eb).symm, (congrArg Prod.snd eb).symm⟩
  clear ez w0 dy0
  unfold r_X12_number at hr
  obtain ⟨H, hH⟩ : ∃ H, H = s.heap := ⟨_, rfl⟩
  obtain ⟨locs, hlo⟩ : ∃ q : List Loc, q = [] := ⟨_, rfl⟩
  have dy : Dy D cA ad (V, g) A s.heap H locs := by rw [hH, hlo]; exact dy
  suffices K : W p l e (headSpec (wM yX12_number cX12_number 4 (some .boolean)) { frames := 6, cells := 0, slots := 0, locals := 135 }).room s m ([.ref (ad k0), .int a1, .int a2, .int a3] : List Value).toArray below meth c H locs 0 0 (MQ below (QI D cA ad A r0 (V, g0)) ([.ref (ad k0), .int a1, .int a2, .int a3] : List Value).toArray s 0 0 A) (F0 m 0 ls []) by rw [hH, hlo] at K; exact K
  clear hH hlo
  refine lv_aload_n cx.1 cx.2.1 dX12_number_0 rfl (lv_at hl 0 rfl) ?_
  obtain ⟨hv1, hr⟩ := of_grd hr
  refine h_getI cx fx dy fd_12_3 hv1 tb_989 dX12_number_1 ?_
  refine lv_iconst (v := 2) cx.1 cx.2.1 dX12_number_4 (by decide) ?_
  rcases of_brn hr with ⟨hc, hr⟩ | ⟨hc, hr⟩
  · refine lv_icmp_eq (tgt := 14) cx.1 cx.2.1 dX12_number_5 (by decide) (fun _ => ?_) (fun hn => absurd hc hn)
    refine lv_aload_n cx.1 cx.2.1 dX12_number_14 rfl (lv_at hl 0 rfl) ?_
    refine h_getI cx fx dy fd_12_7 hv1 tb_993 dX12_number_15 ?_
    refine lv_iload_n cx.1 cx.2.1 dX12_number_18 rfl (lv_at hl 2 rfl) ?_
    refine lv_iload_n cx.1 cx.2.1 dX12_number_19 rfl (lv_at hl 3 rfl) ?_
    obtain ⟨x3, g2, hc4, hr⟩ := of_bnd2 hr
    refine r_i dy (k_S (As := [.int (g.1 k0 7), .int a2, .int a3]) cx fx dy (c_X12_in hc4) mv_X12_in rfl rfl ⟨Nat.le_trans (by decide) hR.1, Nat.le_trans (by decide) hR.2⟩ tb_1170 rfl hl.1 rfl (Nat.le_of_ble_eq_true rfl) ⟨Nat.zero_le _, Nat.zero_le _⟩ dX12_number_20) (fun H locs dy => ?_)
    rcases of_brn hr with ⟨hc, hr⟩ | ⟨hc, hr⟩
    · refine lv_if_ne (tgt := 32) cx.1 cx.2.1 dX12_number_23 (by decide) (fun hn => absurd hc hn) (fun _ => ?_)
      refine lv_aload_n cx.1 cx.2.1 dX12_number_26 rfl (lv_at hl 0 rfl) ?_
      refine lv_iconst (v := 2) cx.1 cx.2.1 dX12_number_27 (by decide) ?_
      obtain ⟨x6, g5, hc7, hr⟩ := of_bnd2 hr
      refine r_i dy (k_V (As := [.int (2 : Int32)]) (b := k0) (ci := 12) cx fx dy (c_X12_wrong hc7) mv_X12_wrong rfl rfl ⟨Nat.le_trans (by decide) hR.1, Nat.le_trans (by decide) hR.2⟩ tb_1240 hv1 rfl (by decide) rfl hl.1 rfl (Nat.le_of_ble_eq_true rfl) ⟨Nat.zero_le _, Nat.zero_le _⟩ dX12_number_28) (fun H locs dy => ?_)
      obtain ⟨hb8, hr⟩ := of_grd hr
      obtain ⟨e0, e1⟩ := hq0 _ _ (Option.some.inj hr).symm
      exact h_iret cx dy hlocks hret hb8 e0 (by rw [e1]) dX12_number_31
    · refine lv_if_ne (tgt := 32) cx.1 cx.2.1 dX12_number_23 (by decide) (fun _ => ?_) (fun hn => absurd hn hc)
      refine lv_aload_n cx.1 cx.2.1 dX12_number_32 rfl (lv_at hl 0 rfl) ?_
      obtain ⟨k9, hf10, hr⟩ := of_bnd hr
      refine h_getR cx fx dy fd_12_29 hv1 tb_1015 hf10 dX12_number_33 ?_
      refine lv_bipush (v := 32) cx.1 cx.2.1 dX12_number_36 (by decide) ?_
      refine lv_iload_n cx.1 cx.2.1 dX12_number_38 rfl (lv_at hl 1 rfl) ?_
      refine lv_iadd cx.1 cx.2.1 dX12_number_39 ?_
      refine lv_aload_n cx.1 cx.2.1 dX12_number_40 rfl (lv_at hl 0 rfl) ?_
      refine h_getI cx fx dy fd_12_7 hv1 tb_993 dX12_number_41 ?_
      obtain ⟨ha11, hr⟩ := of_grd hr
      obtain ⟨g12, eg12, hr⟩ := of_nm hr
      refine h_iast cx fx dy ha11 dX12_number_44 (fun H locs dy => ?_)
      replace dy : Dy D cA ad (V, g12) A s.heap H locs := by rw [eg12]; exact dy
      refine lv_aload_n cx.1 cx.2.1 dX12_number_45 rfl (lv_at hl 0 rfl) ?_
      obtain ⟨u14, g13, hc15, hr⟩ := of_bnd2 hr
      refine r_v dy (k_V (As := []) (b := k0) (ci := 12) cx fx dy (c_X12_scan hc15) mv_X12_scan rfl rfl ⟨Nat.le_trans (by decide) hR.1, Nat.le_trans (by decide) hR.2⟩ tb_1215 hv1 rfl (by decide) rfl hl.1 rfl (Nat.le_of_ble_eq_true rfl) ⟨Nat.zero_le _, Nat.zero_le _⟩ dX12_number_46) (fun H locs dy => ?_)
      refine lv_iconst (v := 1) cx.1 cx.2.1 dX12_number_49 (by decide) ?_
      obtain ⟨e0, e1⟩ := hq0 _ _ (Option.some.inj hr).symm
      exact h_iret cx dy hlocks hret rfl e0 (by rw [e1]) dX12_number_50
  · refine lv_icmp_eq (tgt := 14) cx.1 cx.2.1 dX12_number_5 (by decide) (fun hn => absurd hn hc) (fun _ => ?_)
    refine lv_aload_n cx.1 cx.2.1 dX12_number_8 rfl (lv_at hl 0 rfl) ?_
    refine lv_iconst (v := 1) cx.1 cx.2.1 dX12_number_9 (by decide) ?_
    obtain ⟨x17, g16, hc18, hr⟩ := of_bnd2 hr
    refine r_i dy (k_V (As := [.int (1 : Int32)]) (b := k0) (ci := 12) cx fx dy (c_X12_wrong hc18) mv_X12_wrong rfl rfl ⟨Nat.le_trans (by decide) hR.1, Nat.le_trans (by decide) hR.2⟩ tb_1240 hv1 rfl (by decide) rfl hl.1 rfl (Nat.le_of_ble_eq_true rfl) ⟨Nat.zero_le _, Nat.zero_le _⟩ dX12_number_10) (fun H locs dy => ?_)
    obtain ⟨hb19, hr⟩ := of_grd hr
    obtain ⟨e0, e1⟩ := hq0 _ _ (Option.some.inj hr).symm
    exact h_iret cx dy hlocks hret hb19 e0 (by rw [e1]) dX12_number_13
noncomputable def r_X12_hour (V : Vk) (k0 : Nat) (a1 : Int32) (g : Hq) : Option (Int32 × Hq) :=
  grd (V k0 = some (12, 0)) <| brn ((g.1 k0 3) = (2 : Int32)) (brn ((g.1 k0 7) ≤ (23 : Int32)) (Option.bind (g.2.2 k0 30) fun k2 => grd (okV V k2 0 a1) <| nm (sI g k2 a1.toNatClampNeg (g.1 k0 7)) fun g5 => bnd (r_X12_scan V k0 g5) fun u7 g6 => some ((1 : Int32), g6)) (bnd (r_X12_wrong V k0 (2 : Int32) g) fun x10 g9 => grd (narrow .boolean (.int x10) = .int x10) <| some (x10, g9))) (bnd (r_X12_wrong V k0 (1 : Int32) g) fun x14 g13 => grd (narrow .boolean (.int x14) = .int x14) <| some (x14, g13))
set_option maxHeartbeats 4000000 in
set_option maxRecDepth 100000 in
theorem c_X12_hour {l : Launch} {D : va_G} {cA : Nat → ClassId} {sk : (Nat → Nat) × (Nat → Nat)} {ad : Nat → Nat} {A : Nat → Prop} {V : Vk} {k0 : Nat} {a1 : Int32} {g g0 : Hq} {r0 : Int32} (hr : r_X12_hour V k0 a1 g = some (r0, g0)) : Met l yX12_hour (wM yX12_hour cX12_hour 2 (some .boolean)) { frames := 6, cells := 0, slots := 0, locals := 135 } (Pre D cA sk ad (V, g) A [.ref (ad k0), .int a1]) (QI D cA ad A r0 (V, g0)) 0 0 A := by
  refine Met.ofW (cc := cX12_hour) (maxL := 2) (ret := (some .boolean)) (by decide) rfl ?_
  intro p e s m args below meth c s₁ B hml hv
  obtain ⟨rfl, fx, w0⟩ := hv
  have hts := atoms_spec (ws := wM yX12_hour cX12_hour 2 (some .boolean)) B.pre
  have cx : CallFix p m c cX12_hour 2 s ([.ref (ad k0), .int a1] : List Value).toArray gw_tbl RX12 := ⟨B.exec, B.bytes, hml, findClass_of_methodNamed B.named, fun w hw => hts w (List.mem_cons_of_mem _ hw)⟩
  have hlocks := B.notSynchronized
  have hret := B.returns
  have hR : 6 ≤ (headSpec (wM yX12_hour cX12_hour 2 (some .boolean)) { frames := 6, cells := 0, slots := 0, locals := 135 }).room.frames ∧ 135 ≤ (headSpec (wM yX12_hour cX12_hour 2 (some .boolean)) { frames := 6, cells := 0, slots := 0, locals := 135 }).room.locals := ⟨Nat.le_refl _, Nat.le_refl _⟩
  have dy : Dy D cA ad (V, g) A s.heap s.heap [] := ⟨w0, va_S.rf⟩
  have hl := lv_entry [.ref (ad k0), .int a1] (n := 2) (Nat.le_of_ble_eq_true rfl)
  rw [lg_entry_eq]
  generalize (lg_sl [.ref (ad k0), .int a1] ++ List.replicate (2 - (lg_sl [.ref (ad k0), .int a1]).length) Slot.unset).toArray = ls at hl ⊢
  have hl : lv_has ls 2 [(0, .ref (ad k0)), (1, .int a1)] := hl
  have dy0 : ∃ H0, H0 = s.heap ∧ Dy D cA ad (V, g) A s.heap H0 [] := ⟨_, rfl, dy⟩
  obtain ⟨z, ez⟩ : ∃ z, z = (r0, g0) := ⟨_, rfl⟩
  rw [← ez] at hr
  have hq0 : ∀ (rb : Int32) (gb : Hq), z = (rb, gb) → rb = r0 ∧ gb = g0 := fun rb gb eb => by rw [ez] at eb; exact ⟨(congrArg Prod.fst eb).symm, (congrArg Prod.snd eb).symm⟩
  clear ez w0 dy0
  unfold r_X12_hour at hr
  obtain ⟨H, hH⟩ : ∃ H, H = s.heap := ⟨_, rfl⟩
  obtain ⟨locs, hlo⟩ : ∃ q : List Loc, q = [] := ⟨_, rfl⟩
  have dy : Dy D cA ad (V, g) A s.heap H locs := by rw [hH, hlo]; exact dy
  suffices K : W p l e (headSpec (wM yX12_hour cX12_hour 2 (some .boolean)) { frames := 6, cells := 0, slots := 0, locals := 135 }).room s m ([.ref (ad k0), .int a1] : List Value).toArray below meth c H locs 0 0 (MQ below (QI D cA ad A r0 (V, g0)) ([.ref (ad k0), .int a1] : List Value).toArray s 0 0 A) (F0 m 0 ls []) by rw [hH, hlo] at K; exact K
  clear hH hlo
  refine lv_aload_n cx.1 cx.2.1 dX12_hour_0 rfl (lv_at hl 0 rfl) ?_
  obtain ⟨hv1, hr⟩ := of_grd hr
  refine h_getI cx fx dy fd_12_3 hv1 tb_989 dX12_hour_1 ?_
  refine lv_iconst (v := 2) cx.1 cx.2.1 dX12_hour_4 (by decide) ?_
  rcases of_brn hr with ⟨hc, hr⟩ | ⟨hc, hr⟩
  · refine lv_icmp_eq (tgt := 14) cx.1 cx.2.1 dX12_hour_5 (by decide) (fun _ => ?_) (fun hn => absurd hc hn)
    refine lv_aload_n cx.1 cx.2.1 dX12_hour_14 rfl (lv_at hl 0 rfl) ?_
    refine h_getI cx fx dy fd_12_7 hv1 tb_993 dX12_hour_15 ?_
    refine lv_bipush (v := 23) cx.1 cx.2.1 dX12_hour_18 (by decide) ?_
    rcases of_brn hr with ⟨hc, hr⟩ | ⟨hc, hr⟩
    · refine lv_icmp_le (tgt := 29) cx.1 cx.2.1 dX12_hour_20 (by decide) (fun _ => ?_) (fun hn => absurd hc hn)
      refine lv_aload_n cx.1 cx.2.1 dX12_hour_29 rfl (lv_at hl 0 rfl) ?_
      obtain ⟨k2, hf3, hr⟩ := of_bnd hr
      refine h_getR cx fx dy fd_12_30 hv1 tb_1016 hf3 dX12_hour_30 ?_
      refine lv_iload_n cx.1 cx.2.1 dX12_hour_33 rfl (lv_at hl 1 rfl) ?_
      refine lv_aload_n cx.1 cx.2.1 dX12_hour_34 rfl (lv_at hl 0 rfl) ?_
      refine h_getI cx fx dy fd_12_7 hv1 tb_993 dX12_hour_35 ?_
      obtain ⟨ha4, hr⟩ := of_grd hr
      obtain ⟨g5, eg5, hr⟩ := of_nm hr
      refine h_iast cx fx dy ha4 dX12_hour_38 (fun H locs dy => ?_)
      replace dy : Dy D cA ad (V, g5) A s.heap H locs := by rw [eg5]; exact dy
      refine lv_aload_n cx.1 cx.2.1 dX12_hour_39 rfl (lv_at hl 0 rfl) ?_
      obtain ⟨u7, g6, hc8, hr⟩ := of_bnd2 hr
      refine r_v dy (k_V (As := []) (b := k0) (ci := 12) cx fx dy (c_X12_scan hc8) mv_X12_scan rfl rfl ⟨Nat.le_trans (by decide) hR.1, Nat.le_trans (by decide) hR.2⟩ tb_1215 hv1 rfl (by decide) rfl hl.1 rfl (Nat.le_of_ble_eq_true rfl) ⟨Nat.zero_le _, Nat.zero_le _⟩ dX12_hour_40) (fun H locs dy => ?_)
      refine lv_iconst (v := 1) cx.1 cx.2.1 dX12_hour_43 (by decide) ?_
      obtain ⟨e0, e1⟩ := hq0 _ _ (Option.some.inj hr).symm
      exact h_iret cx dy hlocks hret rfl e0 (by rw [e1]) dX12_hour_44
    · refine lv_icmp_le (tgt := 29) cx.1 cx.2.1 dX12_hour_20 (by decide) (fun hn => absurd hn hc) (fun _ => ?_)
      refine lv_aload_n cx.1 cx.2.1 dX12_hour_23 rfl (lv_at hl 0 rfl) ?_
      refine lv_iconst (v := 2) cx.1 cx.2.1 dX12_hour_24 (by decide) ?_
      obtain ⟨x10, g9, hc11, hr⟩ := of_bnd2 hr
      refine r_i dy (k_V (As := [.int (2 : Int32)]) (b := k0) (ci := 12) cx fx dy (c_X12_wrong hc11) mv_X12_wrong rfl rfl ⟨Nat.le_trans (by decide) hR.1, Nat.le_trans (by decide) hR.2⟩ tb_1240 hv1 rfl (by decide) rfl hl.1 rfl (Nat.le_of_ble_eq_true rfl) ⟨Nat.zero_le _, Nat.zero_le _⟩ dX12_hour_25) (fun H locs dy => ?_)
      obtain ⟨hb12, hr⟩ := of_grd hr
      obtain ⟨e0, e1⟩ := hq0 _ _ (Option.some.inj hr).symm
      exact h_iret cx dy hlocks hret hb12 e0 (by rw [e1]) dX12_hour_28
  · refine lv_icmp_eq (tgt := 14) cx.1 cx.2.1 dX12_hour_5 (by decide) (fun hn => absurd hn hc) (fun _ => ?_)
    refine lv_aload_n cx.1 cx.2.1 dX12_hour_8 rfl (lv_at hl 0 rfl) ?_
    refine lv_iconst (v := 1) cx.1 cx.2.1 dX12_hour_9 (by decide) ?_
    obtain ⟨x14, g13, hc15, hr⟩ := of_bnd2 hr
    refine r_i dy (k_V (As := [.int (1 : Int32)]) (b := k0) (ci := 12) cx fx dy (c_X12_wrong hc15) mv_X12_wrong rfl rfl ⟨Nat.le_trans (by decide) hR.1, Nat.le_trans (by decide) hR.2⟩ tb_1240 hv1 rfl (by decide) rfl hl.1 rfl (Nat.le_of_ble_eq_true rfl) ⟨Nat.zero_le _, Nat.zero_le _⟩ dX12_hour_10) (fun H locs dy => ?_)
    obtain ⟨hb16, hr⟩ := of_grd hr
    obtain ⟨e0, e1⟩ := hq0 _ _ (Option.some.inj hr).symm
    exact h_iret cx dy hlocks hret hb16 e0 (by rw [e1]) dX12_hour_13
noncomputable def r_X12_word (V : Vk) (k0 : Nat) (a1 : Int32) (g : Hq) : Option (Int32 × Hq) :=
  grd (V k0 = some (12, 0)) <| brn ((g.1 k0 3) = (1 : Int32)) (brn ((g.1 k0 4) = a1) (bnd (r_X12_scan V k0 g) fun u3 g2 => some ((1 : Int32), g2)) (bnd (r_X12_wrong V k0 (1 : Int32) g) fun x6 g5 => grd (narrow .boolean (.int x6) = .int x6) <| some (x6, g5))) (bnd (r_X12_wrong V k0 (1 : Int32) g) fun x10 g9 => grd (narrow .boolean (.int x10) = .int x10) <| some (x10, g9))
set_option maxHeartbeats 4000000 in
set_option maxRecDepth 100000 in
theorem c_X12_word {l : Launch} {D : va_G} {cA : Nat → ClassId} {sk : (Nat → Nat) × (Nat → Nat)} {ad : Nat → Nat} {A : Nat → Prop} {V : Vk} {k0 : Nat} {a1 : Int32} {g g0 : Hq} {r0 : Int32} (hr : r_X12_word V k0 a1 g = some (r0, g0)) : Met l yX12_word (wM yX12_word cX12_word 2 (some .boolean)) { frames := 6, cells := 0, slots := 0, locals := 135 } (Pre D cA sk ad (V, g) A [.ref (ad k0), .int a1]) (QI D cA ad A r0 (V, g0)) 0 0 A := by
  refine Met.ofW (cc := cX12_word) (maxL := 2) (ret := (some .boolean)) (by decide) rfl ?_
  intro p e s m args below meth c s₁ B hml hv
  obtain ⟨rfl, fx, w0⟩ := hv
  have hts := atoms_spec (ws := wM yX12_word cX12_word 2 (some .boolean)) B.pre
  have cx : CallFix p m c cX12_word 2 s ([.ref (ad k0), .int a1] : List Value).toArray gw_tbl RX12 := ⟨B.exec, B.bytes, hml, findClass_of_methodNamed B.named, fun w hw => hts w (List.mem_cons_of_mem _ hw)⟩
  have hlocks := B.notSynchronized
  have hret := B.returns
  have hR : 6 ≤ (headSpec (wM yX12_word cX12_word 2 (some .boolean)) { frames := 6, cells := 0, slots := 0, locals := 135 }).room.frames ∧ 135 ≤ (headSpec (wM yX12_word cX12_word 2 (some .boolean)) { frames := 6, cells := 0, slots := 0, locals := 135 }).room.locals := ⟨Nat.le_refl _, Nat.le_refl _⟩
  have dy : Dy D cA ad (V, g) A s.heap s.heap [] := ⟨w0, va_S.rf⟩
  have hl := lv_entry [.ref (ad k0), .int a1] (n := 2) (Nat.le_of_ble_eq_true rfl)
  rw [lg_entry_eq]
  generalize (lg_sl [.ref (ad k0), .int a1] ++ List.replicate (2 - (lg_sl [.ref (ad k0), .int a1]).length) Slot.unset).toArray = ls at hl ⊢
  have hl : lv_has ls 2 [(0, .ref (ad k0)), (1, .int a1)] := hl
  have dy0 : ∃ H0, H0 = s.heap ∧ Dy D cA ad (V, g) A s.heap H0 [] := ⟨_, rfl, dy⟩
  obtain ⟨z, ez⟩ : ∃ z, z = (r0, g0) := ⟨_, rfl⟩
  rw [← ez] at hr
  have hq0 : ∀ (rb : Int32) (gb : Hq), z = (rb, gb) → rb = r0 ∧ gb = g0 := fun rb gb eb => by rw [ez] at eb; exact ⟨(congrArg Prod.fst eb).symm, (congrArg Prod.snd eb).symm⟩
  clear ez w0 dy0
  unfold r_X12_word at hr
  obtain ⟨H, hH⟩ : ∃ H, H = s.heap := ⟨_, rfl⟩
  obtain ⟨locs, hlo⟩ : ∃ q : List Loc, q = [] := ⟨_, rfl⟩
  have dy : Dy D cA ad (V, g) A s.heap H locs := by rw [hH, hlo]; exact dy
  suffices K : W p l e (headSpec (wM yX12_word cX12_word 2 (some .boolean)) { frames := 6, cells := 0, slots := 0, locals := 135 }).room s m ([.ref (ad k0), .int a1] : List Value).toArray below meth c H locs 0 0 (MQ below (QI D cA ad A r0 (V, g0)) ([.ref (ad k0), .int a1] : List Value).toArray s 0 0 A) (F0 m 0 ls []) by rw [hH, hlo] at K; exact K
  clear hH hlo
  refine lv_aload_n cx.1 cx.2.1 dX12_word_0 rfl (lv_at hl 0 rfl) ?_
  obtain ⟨hv1, hr⟩ := of_grd hr
  refine h_getI cx fx dy fd_12_3 hv1 tb_989 dX12_word_1 ?_
  refine lv_iconst (v := 1) cx.1 cx.2.1 dX12_word_4 (by decide) ?_
  rcases of_brn hr with ⟨hc, hr⟩ | ⟨hc, hr⟩
  · refine lv_icmp_ne (tgt := 16) cx.1 cx.2.1 dX12_word_5 (by decide) (fun hn => absurd hc hn) (fun _ => ?_)
    refine lv_aload_n cx.1 cx.2.1 dX12_word_8 rfl (lv_at hl 0 rfl) ?_
    refine h_getI cx fx dy fd_12_4 hv1 tb_990 dX12_word_9 ?_
    refine lv_iload_n cx.1 cx.2.1 dX12_word_12 rfl (lv_at hl 1 rfl) ?_
    rcases of_brn hr with ⟨hc, hr⟩ | ⟨hc, hr⟩
    · refine lv_icmp_eq (tgt := 22) cx.1 cx.2.1 dX12_word_13 (by decide) (fun _ => ?_) (fun hn => absurd hc hn)
      refine lv_aload_n cx.1 cx.2.1 dX12_word_22 rfl (lv_at hl 0 rfl) ?_
      obtain ⟨u3, g2, hc4, hr⟩ := of_bnd2 hr
      refine r_v dy (k_V (As := []) (b := k0) (ci := 12) cx fx dy (c_X12_scan hc4) mv_X12_scan rfl rfl ⟨Nat.le_trans (by decide) hR.1, Nat.le_trans (by decide) hR.2⟩ tb_1215 hv1 rfl (by decide) rfl hl.1 rfl (Nat.le_of_ble_eq_true rfl) ⟨Nat.zero_le _, Nat.zero_le _⟩ dX12_word_23) (fun H locs dy => ?_)
      refine lv_iconst (v := 1) cx.1 cx.2.1 dX12_word_26 (by decide) ?_
      obtain ⟨e0, e1⟩ := hq0 _ _ (Option.some.inj hr).symm
      exact h_iret cx dy hlocks hret rfl e0 (by rw [e1]) dX12_word_27
    · refine lv_icmp_eq (tgt := 22) cx.1 cx.2.1 dX12_word_13 (by decide) (fun hn => absurd hn hc) (fun _ => ?_)
      refine lv_aload_n cx.1 cx.2.1 dX12_word_16 rfl (lv_at hl 0 rfl) ?_
      refine lv_iconst (v := 1) cx.1 cx.2.1 dX12_word_17 (by decide) ?_
      obtain ⟨x6, g5, hc7, hr⟩ := of_bnd2 hr
      refine r_i dy (k_V (As := [.int (1 : Int32)]) (b := k0) (ci := 12) cx fx dy (c_X12_wrong hc7) mv_X12_wrong rfl rfl ⟨Nat.le_trans (by decide) hR.1, Nat.le_trans (by decide) hR.2⟩ tb_1240 hv1 rfl (by decide) rfl hl.1 rfl (Nat.le_of_ble_eq_true rfl) ⟨Nat.zero_le _, Nat.zero_le _⟩ dX12_word_18) (fun H locs dy => ?_)
      obtain ⟨hb8, hr⟩ := of_grd hr
      obtain ⟨e0, e1⟩ := hq0 _ _ (Option.some.inj hr).symm
      exact h_iret cx dy hlocks hret hb8 e0 (by rw [e1]) dX12_word_21
  · refine lv_icmp_ne (tgt := 16) cx.1 cx.2.1 dX12_word_5 (by decide) (fun _ => ?_) (fun hn => absurd hn hc)
    refine lv_aload_n cx.1 cx.2.1 dX12_word_16 rfl (lv_at hl 0 rfl) ?_
    refine lv_iconst (v := 1) cx.1 cx.2.1 dX12_word_17 (by decide) ?_
    obtain ⟨x10, g9, hc11, hr⟩ := of_bnd2 hr
    refine r_i dy (k_V (As := [.int (1 : Int32)]) (b := k0) (ci := 12) cx fx dy (c_X12_wrong hc11) mv_X12_wrong rfl rfl ⟨Nat.le_trans (by decide) hR.1, Nat.le_trans (by decide) hR.2⟩ tb_1240 hv1 rfl (by decide) rfl hl.1 rfl (Nat.le_of_ble_eq_true rfl) ⟨Nat.zero_le _, Nat.zero_le _⟩ dX12_word_18) (fun H locs dy => ?_)
    obtain ⟨hb12, hr⟩ := of_grd hr
    obtain ⟨e0, e1⟩ := hq0 _ _ (Option.some.inj hr).symm
    exact h_iret cx dy hlocks hret hb12 e0 (by rw [e1]) dX12_word_21
noncomputable def r_X12_hasCry (V : Vk) (k0 : Nat) (g : Hq) : Option (Int32 × Hq) :=
  grd (V k0 = some (12, 0)) <| brn ((g.1 k0 3) = (1 : Int32)) (brn ((g.1 k0 4) = (9 : Int32)) (bnd (r_X12_scan V k0 g) fun u3 g2 => some ((1 : Int32), g2)) (some ((0 : Int32), g))) (some ((0 : Int32), g))
set_option maxHeartbeats 4000000 in
set_option maxRecDepth 100000 in
theorem c_X12_hasCry {l : Launch} {D : va_G} {cA : Nat → ClassId} {sk : (Nat → Nat) × (Nat → Nat)} {ad : Nat → Nat} {A : Nat → Prop} {V : Vk} {k0 : Nat} {g g0 : Hq} {r0 : Int32} (hr : r_X12_hasCry V k0 g = some (r0, g0)) : Met l yX12_hasCry (wM yX12_hasCry cX12_hasCry 2 (some .boolean)) { frames := 6, cells := 0, slots := 0, locals := 135 } (Pre D cA sk ad (V, g) A [.ref (ad k0)]) (QI D cA ad A r0 (V, g0)) 0 0 A := by
  refine Met.ofW (cc := cX12_hasCry) (maxL := 2) (ret := (some .boolean)) (by decide) rfl ?_
  intro p e s m args below meth c s₁ B hml hv
  obtain ⟨rfl, fx, w0⟩ := hv
  have hts := atoms_spec (ws := wM yX12_hasCry cX12_hasCry 2 (some .boolean)) B.pre
  have cx : CallFix p m c cX12_hasCry 2 s ([.ref (ad k0)] : List Value).toArray gw_tbl RX12 := ⟨B.exec, B.bytes, hml, findClass_of_methodNamed B.named, fun w hw => hts w (List.mem_cons_of_mem _ hw)⟩
  have hlocks := B.notSynchronized
  have hret := B.returns
  have hR : 6 ≤ (headSpec (wM yX12_hasCry cX12_hasCry 2 (some .boolean)) { frames := 6, cells := 0, slots := 0, locals := 135 }).room.frames ∧ 135 ≤ (headSpec (wM yX12_hasCry cX12_hasCry 2 (some .boolean)) { frames := 6, cells := 0, slots := 0, locals := 135 }).room.locals := ⟨Nat.le_refl _, Nat.le_refl _⟩
  have dy : Dy D cA ad (V, g) A s.heap s.heap [] := ⟨w0, va_S.rf⟩
  have hl := lv_entry [.ref (ad k0)] (n := 2) (Nat.le_of_ble_eq_true rfl)
  rw [lg_entry_eq]
  generalize (lg_sl [.ref (ad k0)] ++ List.replicate (2 - (lg_sl [.ref (ad k0)]).length) Slot.unset).toArray = ls at hl ⊢
  have hl : lv_has ls 2 [(0, .ref (ad k0))] := hl
  have dy0 : ∃ H0, H0 = s.heap ∧ Dy D cA ad (V, g) A s.heap H0 [] := ⟨_, rfl, dy⟩
  obtain ⟨z, ez⟩ : ∃ z, z = (r0, g0) := ⟨_, rfl⟩
  rw [← ez] at hr
  have hq0 : ∀ (rb : Int32) (gb : Hq), z = (rb, gb) → rb = r0 ∧ gb = g0 := fun rb gb eb => by rw [ez] at eb; exact ⟨(congrArg Prod.fst eb).symm, (congrArg Prod.snd eb).symm⟩
  clear ez w0 dy0
  unfold r_X12_hasCry at hr
  obtain ⟨H, hH⟩ : ∃ H, H = s.heap := ⟨_, rfl⟩
  obtain ⟨locs, hlo⟩ : ∃ q : List Loc, q = [] := ⟨_, rfl⟩
  have dy : Dy D cA ad (V, g) A s.heap H locs := by rw [hH, hlo]; exact dy
  suffices K : W p l e (headSpec (wM yX12_hasCry cX12_hasCry 2 (some .boolean)) { frames := 6, cells := 0, slots := 0, locals := 135 }).room s m ([.ref (ad k0)] : List Value).toArray below meth c H locs 0 0 (MQ below (QI D cA ad A r0 (V, g0)) ([.ref (ad k0)] : List Value).toArray s 0 0 A) (F0 m 0 ls []) by rw [hH, hlo] at K; exact K
  clear hH hlo
  refine lv_aload_n cx.1 cx.2.1 dX12_hasCry_0 rfl (lv_at hl 0 rfl) ?_
  obtain ⟨hv1, hr⟩ := of_grd hr
  refine h_getI cx fx dy fd_12_3 hv1 tb_989 dX12_hasCry_1 ?_
  refine lv_iconst (v := 1) cx.1 cx.2.1 dX12_hasCry_4 (by decide) ?_
  rcases of_brn hr with ⟨hc, hr⟩ | ⟨hc, hr⟩
  · refine lv_icmp_ne (tgt := 21) cx.1 cx.2.1 dX12_hasCry_5 (by decide) (fun hn => absurd hc hn) (fun _ => ?_)
    refine lv_aload_n cx.1 cx.2.1 dX12_hasCry_8 rfl (lv_at hl 0 rfl) ?_
    refine h_getI cx fx dy fd_12_4 hv1 tb_990 dX12_hasCry_9 ?_
    refine lv_bipush (v := 9) cx.1 cx.2.1 dX12_hasCry_12 (by decide) ?_
    rcases of_brn hr with ⟨hc, hr⟩ | ⟨hc, hr⟩
    · refine lv_icmp_ne (tgt := 21) cx.1 cx.2.1 dX12_hasCry_14 (by decide) (fun hn => absurd hc hn) (fun _ => ?_)
      refine lv_iconst (v := 1) cx.1 cx.2.1 dX12_hasCry_17 (by decide) ?_
      refine lv_goto (tgt := 22) cx.1 cx.2.1 dX12_hasCry_18 (by decide) ?_
      refine lv_istore_n (lv' := [(1, .int (1 : Int32)), (0, .ref (ad k0))]) cx.1 cx.2.1 dX12_hasCry_22 rfl hl (by decide) rfl (fun ls hl => ?_)
      refine lv_iload_n cx.1 cx.2.1 dX12_hasCry_23 rfl (lv_at hl 0 rfl) ?_
      refine lv_if_eq (tgt := 31) cx.1 cx.2.1 dX12_hasCry_24 (by decide) (fun hn => absurd hn (by decide)) (fun _ => ?_)
      refine lv_aload_n cx.1 cx.2.1 dX12_hasCry_27 rfl (lv_at hl 1 rfl) ?_
      obtain ⟨u3, g2, hc4, hr⟩ := of_bnd2 hr
      refine r_v dy (k_V (As := []) (b := k0) (ci := 12) cx fx dy (c_X12_scan hc4) mv_X12_scan rfl rfl ⟨Nat.le_trans (by decide) hR.1, Nat.le_trans (by decide) hR.2⟩ tb_1215 hv1 rfl (by decide) rfl hl.1 rfl (Nat.le_of_ble_eq_true rfl) ⟨Nat.zero_le _, Nat.zero_le _⟩ dX12_hasCry_28) (fun H locs dy => ?_)
      refine lv_iload_n cx.1 cx.2.1 dX12_hasCry_31 rfl (lv_at hl 0 rfl) ?_
      obtain ⟨e0, e1⟩ := hq0 _ _ (Option.some.inj hr).symm
      exact h_iret cx dy hlocks hret rfl e0 (by rw [e1]) dX12_hasCry_32
    · refine lv_icmp_ne (tgt := 21) cx.1 cx.2.1 dX12_hasCry_14 (by decide) (fun _ => ?_) (fun hn => absurd hn hc)
      refine lv_iconst (v := 0) cx.1 cx.2.1 dX12_hasCry_21 (by decide) ?_
      refine lv_istore_n (lv' := [(1, .int (0 : Int32)), (0, .ref (ad k0))]) cx.1 cx.2.1 dX12_hasCry_22 rfl hl (by decide) rfl (fun ls hl => ?_)
      refine lv_iload_n cx.1 cx.2.1 dX12_hasCry_23 rfl (lv_at hl 0 rfl) ?_
      refine lv_if_eq (tgt := 31) cx.1 cx.2.1 dX12_hasCry_24 (by decide) (fun _ => ?_) (fun hn => absurd hn (by decide))
      refine lv_iload_n cx.1 cx.2.1 dX12_hasCry_31 rfl (lv_at hl 0 rfl) ?_
      obtain ⟨e0, e1⟩ := hq0 _ _ (Option.some.inj hr).symm
      exact h_iret cx dy hlocks hret rfl e0 (by rw [e1]) dX12_hasCry_32
  · refine lv_icmp_ne (tgt := 21) cx.1 cx.2.1 dX12_hasCry_5 (by decide) (fun _ => ?_) (fun hn => absurd hn hc)
    refine lv_iconst (v := 0) cx.1 cx.2.1 dX12_hasCry_21 (by decide) ?_
    refine lv_istore_n (lv' := [(1, .int (0 : Int32)), (0, .ref (ad k0))]) cx.1 cx.2.1 dX12_hasCry_22 rfl hl (by decide) rfl (fun ls hl => ?_)
    refine lv_iload_n cx.1 cx.2.1 dX12_hasCry_23 rfl (lv_at hl 0 rfl) ?_
    refine lv_if_eq (tgt := 31) cx.1 cx.2.1 dX12_hasCry_24 (by decide) (fun _ => ?_) (fun hn => absurd hn (by decide))
    refine lv_iload_n cx.1 cx.2.1 dX12_hasCry_31 rfl (lv_at hl 0 rfl) ?_
    obtain ⟨e0, e1⟩ := hq0 _ _ (Option.some.inj hr).symm
    exact h_iret cx dy hlocks hret rfl e0 (by rw [e1]) dX12_hasCry_32
noncomputable def r_X12_readPower (V : Vk) (k0 : Nat) (g : Hq) : Option (Int32 × Hq) :=
  grd (V k0 = some (12, 0)) <| Option.bind (g.2.2 k0 31) fun k2 => grd (okV V k2 0 (4 : Int32)) <| brn ((g.1 k2 (4 : Int32).toNatClampNeg) = (12 : Int32)) (bnd (r_X12_wrong V k0 (4 : Int32) g) fun x6 g5 => grd (narrow .boolean (.int x6) = .int x6) <| some (x6, g5)) (Option.bind (g.2.2 k0 31) fun k9 => grd (okV V k9 0 (4 : Int32)) <| nm ((4 : Int32) * ((48 : Int32) + (g.1 k9 (4 : Int32).toNatClampNeg))) fun x12 => bnd (r_X12_scan V k0 g) fun u14 g13 => brn ((g13.1 k0 3) = (1 : Int32)) (brn ((10 : Int32) ≤ (g13.1 k0 4)) (Option.bind (g13.2.2 k0 30) fun k16 => grd (okV V k16 0 x12) <| nm (sI g13 k16 x12.toNatClampNeg ((g13.1 k0 4) - (10 : Int32))) fun g19 => bnd (r_X12_scan V k0 g19) fun u21 g20 => bnd (r_X12_word V k0 (7 : Int32) g20) fun x24 g23 => brn (x24 = 0) (some ((0 : Int32), g23)) (bnd (r_X12_hour V k0 (x12 + (1 : Int32)) g23) fun x27 g26 => brn (x27 = 0) (some ((0 : Int32), g26)) (bnd (r_X12_word V k0 (8 : Int32) g26) fun x30 g29 => brn (x30 = 0) (some ((0 : Int32), g29)) (bnd (r_X12_hour V k0 (x12 + (2 : Int32)) g29) fun x33 g32 => brn (x33 = 0) (some ((0 : Int32), g32)) (Option.bind (g32.2.2 k0 30) fun k35 => bnd (r_X12_hasCry V k0 g32) fun x38 g37 => brn (x38 = 0) (grd (okV V k35 0 (x12 + (3 : Int32))) <| nm (sI g37 k35 (x12 + (3 : Int32)).toNatClampNeg (0 : Int32)) fun g41 => Option.bind (g41.2.2 k0 31) fun k42 => grd (okV V k42 0 (4 : Int32)) <| grd (okV V k42 0 (4 : Int32)) <| nm (sI g41 k42 (4 : Int32).toNatClampNeg ((g41.1 k42 (4 : Int32).toNatClampNeg) + (1 : Int32))) fun g46 => some ((1 : Int32), g46)) (grd (okV V k35 0 (x12 + (3 : Int32))) <| nm (sI g37 k35 (x12 + (3 : Int32)).toNatClampNeg (1 : Int32)) fun g48 => Option.bind (g48.2.2 k0 31) fun k49 => grd (okV V k49 0 (4 : Int32)) <| grd (okV V k49 0 (4 : Int32)) <| nm (sI g48 k49 (4 : Int32).toNatClampNeg ((g48.1 k49 (4 : Int32).toNatClampNeg) + (1 : Int32))) fun g53 => some ((1 : Int32), g53))))))) (bnd (r_X12_wrong V k0 (1 : Int32) g13) fun x55 g54 => grd (narrow .boolean (.int x55) = .int x55) <| some (x55, g54))) (bnd (r_X12_wrong V k0 (1 : Int32) g13) fun x59 g58 => grd (narrow .boolean (.int x59) = .int x59) <| some (x59, g58)))
set_option maxHeartbeats 4000000 in
set_option maxRecDepth 100000 in
theorem c_X12_readPower {l : Launch} {D : va_G} {cA : Nat → ClassId} {sk : (Nat → Nat) × (Nat → Nat)} {ad : Nat → Nat} {A : Nat → Prop} {V : Vk} {k0 : Nat} {g g0 : Hq} {r0 : Int32} (hr : r_X12_readPower V k0 g = some (r0, g0)) : Met l yX12_readPower (wM yX12_readPower cX12_readPower 2 (some .boolean)) { frames := 7, cells := 0, slots := 0, locals := 156 } (Pre D cA sk ad (V, g) A [.ref (ad k0)]) (QI D cA ad A r0 (V, g0)) 0 0 A := by
  refine Met.ofW (cc := cX12_readPower) (maxL := 2) (ret := (some .boolean)) (by decide) rfl ?_
  intro p e s m args below meth c s₁ B hml hv
  obtain ⟨rfl, fx, w0⟩ := hv
  have hts := atoms_spec (ws := wM yX12_readPower cX12_readPower 2 (some .boolean)) B.pre
  have cx : CallFix p m c cX12_readPower 2 s ([.ref (ad k0)] : List Value).toArray gw_tbl RX12 := ⟨B.exec, B.bytes, hml, findClass_of_methodNamed B.named, fun w hw => hts w (List.mem_cons_of_mem _ hw)⟩
  have hlocks := B.notSynchronized
  have hret := B.returns
  have hR : 7 ≤ (headSpec (wM yX12_readPower cX12_readPower 2 (some .boolean)) { frames := 7, cells := 0, slots := 0, locals := 156 }).room.frames ∧ 156 ≤ (headSpec (wM yX12_readPower cX12_readPower 2 (some .boolean)) { frames := 7, cells := 0, slots := 0, locals := 156 }).room.locals := ⟨Nat.le_refl _, Nat.le_refl _⟩
  have dy : Dy D cA ad (V, g) A s.heap s.heap [] := ⟨w0, va_S.rf⟩
  have hl := lv_entry [.ref (ad k0)] (n := 2) (Nat.le_of_ble_eq_true rfl)
  rw [lg_entry_eq]
  generalize (lg_sl [.ref (ad k0)] ++ List.replicate (2 - (lg_sl [.ref (ad k0)]).length) Slot.unset).toArray = ls at hl ⊢
  have hl : lv_has ls 2 [(0, .ref (ad k0))] := hl
  have dy0 : ∃ H0, H0 = s.heap ∧ Dy D cA ad (V, g) A s.heap H0 [] := ⟨_, rfl, dy⟩
  obtain ⟨z, ez⟩ : ∃ z, z = (r0, g0) := ⟨_, rfl⟩
  rw [← ez] at hr
  have hq0 : ∀ (rb : Int32) (gb : Hq), z = (rb, gb) → rb = r0 ∧ gb = g0 := fun rb gb eb => by rw [ez] at eb; exact ⟨(congrArg Prod.fst eb).symm, (congrArg Prod.snd eb).symm⟩
  clear ez w0 dy0
  unfold r_X12_readPower at hr
  obtain ⟨H, hH⟩ : ∃ H, H = s.heap := ⟨_, rfl⟩
  obtain ⟨locs, hlo⟩ : ∃ q : List Loc, q = [] := ⟨_, rfl⟩
  have dy : Dy D cA ad (V, g) A s.heap H locs := by rw [hH, hlo]; exact dy
  suffices K : W p l e (headSpec (wM yX12_readPower cX12_readPower 2 (some .boolean)) { frames := 7, cells := 0, slots := 0, locals := 156 }).room s m ([.ref (ad k0)] : List Value).toArray below meth c H locs 0 0 (MQ below (QI D cA ad A r0 (V, g0)) ([.ref (ad k0)] : List Value).toArray s 0 0 A) (F0 m 0 ls []) by rw [hH, hlo] at K; exact K
  clear hH hlo
  refine lv_aload_n cx.1 cx.2.1 dX12_readPower_0 rfl (lv_at hl 0 rfl) ?_
  obtain ⟨hv1, hr⟩ := of_grd hr
  obtain ⟨k2, hf3, hr⟩ := of_bnd hr
  refine h_getR cx fx dy fd_12_31 hv1 tb_1017 hf3 dX12_readPower_1 ?_
  refine lv_iconst (v := 4) cx.1 cx.2.1 dX12_readPower_4 (by decide) ?_
  obtain ⟨ha4, hr⟩ := of_grd hr
  refine h_iald cx fx dy ha4 dX12_readPower_5 ?_
  refine lv_bipush (v := 12) cx.1 cx.2.1 dX12_readPower_6 (by decide) ?_
  rcases of_brn hr with ⟨hc, hr⟩ | ⟨hc, hr⟩
  · refine lv_icmp_ne (tgt := 17) cx.1 cx.2.1 dX12_readPower_8 (by decide) (fun hn => absurd hc hn) (fun _ => ?_)
    refine lv_aload_n cx.1 cx.2.1 dX12_readPower_11 rfl (lv_at hl 0 rfl) ?_
    refine lv_iconst (v := 4) cx.1 cx.2.1 dX12_readPower_12 (by decide) ?_
    obtain ⟨x6, g5, hc7, hr⟩ := of_bnd2 hr
    refine r_i dy (k_V (As := [.int (4 : Int32)]) (b := k0) (ci := 12) cx fx dy (c_X12_wrong hc7) mv_X12_wrong rfl rfl ⟨Nat.le_trans (by decide) hR.1, Nat.le_trans (by decide) hR.2⟩ tb_1240 hv1 rfl (by decide) rfl hl.1 rfl (Nat.le_of_ble_eq_true rfl) ⟨Nat.zero_le _, Nat.zero_le _⟩ dX12_readPower_13) (fun H locs dy => ?_)
    obtain ⟨hb8, hr⟩ := of_grd hr
    obtain ⟨e0, e1⟩ := hq0 _ _ (Option.some.inj hr).symm
    exact h_iret cx dy hlocks hret hb8 e0 (by rw [e1]) dX12_readPower_16
  · refine lv_icmp_ne (tgt := 17) cx.1 cx.2.1 dX12_readPower_8 (by decide) (fun _ => ?_) (fun hn => absurd hn hc)
    refine lv_iconst (v := 4) cx.1 cx.2.1 dX12_readPower_17 (by decide) ?_
    refine lv_bipush (v := 48) cx.1 cx.2.1 dX12_readPower_18 (by decide) ?_
    refine lv_aload_n cx.1 cx.2.1 dX12_readPower_20 rfl (lv_at hl 0 rfl) ?_
    obtain ⟨k9, hf10, hr⟩ := of_bnd hr
    refine h_getR cx fx dy fd_12_31 hv1 tb_1017 hf10 dX12_readPower_21 ?_
    refine lv_iconst (v := 4) cx.1 cx.2.1 dX12_readPower_24 (by decide) ?_
    obtain ⟨ha11, hr⟩ := of_grd hr
    refine h_iald cx fx dy ha11 dX12_readPower_25 ?_
    refine lv_iadd cx.1 cx.2.1 dX12_readPower_26 ?_
    refine lv_imul cx.1 cx.2.1 dX12_readPower_27 ?_
    obtain ⟨x12, ex12, hr⟩ := of_nm hr
    refine lv_nmi ex12 ?_
    refine lv_istore_n (lv' := [(1, .int x12), (0, .ref (ad k0))]) cx.1 cx.2.1 dX12_readPower_28 rfl hl (by decide) rfl (fun ls hl => ?_)
    refine lv_aload_n cx.1 cx.2.1 dX12_readPower_29 rfl (lv_at hl 1 rfl) ?_
    obtain ⟨u14, g13, hc15, hr⟩ := of_bnd2 hr
    refine r_v dy (k_V (As := []) (b := k0) (ci := 12) cx fx dy (c_X12_scan hc15) mv_X12_scan rfl rfl ⟨Nat.le_trans (by decide) hR.1, Nat.le_trans (by decide) hR.2⟩ tb_1215 hv1 rfl (by decide) rfl hl.1 rfl (Nat.le_of_ble_eq_true rfl) ⟨Nat.zero_le _, Nat.zero_le _⟩ dX12_readPower_30) (fun H locs dy => ?_)
    refine lv_aload_n cx.1 cx.2.1 dX12_readPower_33 rfl (lv_at hl 1 rfl) ?_
    refine h_getI cx fx dy fd_12_3 hv1 tb_989 dX12_readPower_34 ?_
    refine lv_iconst (v := 1) cx.1 cx.2.1 dX12_readPower_37 (by decide) ?_
    rcases of_brn hr with ⟨hc, hr⟩ | ⟨hc, hr⟩
    · refine lv_icmp_ne (tgt := 50) cx.1 cx.2.1 dX12_readPower_38 (by decide) (fun hn => absurd hc hn) (fun _ => ?_)
      refine lv_aload_n cx.1 cx.2.1 dX12_readPower_41 rfl (lv_at hl 1 rfl) ?_
      refine h_getI cx fx dy fd_12_4 hv1 tb_990 dX12_readPower_42 ?_
      refine lv_bipush (v := 10) cx.1 cx.2.1 dX12_readPower_45 (by decide) ?_
      rcases of_brn hr with ⟨hc, hr⟩ | ⟨hc, hr⟩
      · refine lv_icmp_ge (tgt := 56) cx.1 cx.2.1 dX12_readPower_47 (by decide) (fun _ => ?_) (fun hn => absurd hc hn)
        refine lv_aload_n cx.1 cx.2.1 dX12_readPower_56 rfl (lv_at hl 1 rfl) ?_
        obtain ⟨k16, hf17, hr⟩ := of_bnd hr
        refine h_getR cx fx dy fd_12_30 hv1 tb_1016 hf17 dX12_readPower_57 ?_
        refine lv_iload_n cx.1 cx.2.1 dX12_readPower_60 rfl (lv_at hl 0 rfl) ?_
        refine lv_aload_n cx.1 cx.2.1 dX12_readPower_61 rfl (lv_at hl 1 rfl) ?_
        refine h_getI cx fx dy fd_12_4 hv1 tb_990 dX12_readPower_62 ?_
        refine lv_bipush (v := 10) cx.1 cx.2.1 dX12_readPower_65 (by decide) ?_
        refine lv_isub cx.1 cx.2.1 dX12_readPower_67 ?_
        obtain ⟨ha18, hr⟩ := of_grd hr
        obtain ⟨g19, eg19, hr⟩ := of_nm hr
        refine h_iast cx fx dy ha18 dX12_readPower_68 (fun H locs dy => ?_)
        replace dy : Dy D cA ad (V, g19) A s.heap H locs := by rw [eg19]; exact dy
        refine lv_aload_n cx.1 cx.2.1 dX12_readPower_69 rfl (lv_at hl 1 rfl) ?_
        obtain ⟨u21, g20, hc22, hr⟩ := of_bnd2 hr
        refine r_v dy (k_V (As := []) (b := k0) (ci := 12) cx fx dy (c_X12_scan hc22) mv_X12_scan rfl rfl ⟨Nat.le_trans (by decide) hR.1, Nat.le_trans (by decide) hR.2⟩ tb_1215 hv1 rfl (by decide) rfl hl.1 rfl (Nat.le_of_ble_eq_true rfl) ⟨Nat.zero_le _, Nat.zero_le _⟩ dX12_readPower_70) (fun H locs dy => ?_)
        refine lv_aload_n cx.1 cx.2.1 dX12_readPower_73 rfl (lv_at hl 1 rfl) ?_
        refine lv_bipush (v := 7) cx.1 cx.2.1 dX12_readPower_74 (by decide) ?_
        obtain ⟨x24, g23, hc25, hr⟩ := of_bnd2 hr
        refine r_i dy (k_V (As := [.int (7 : Int32)]) (b := k0) (ci := 12) cx fx dy (c_X12_word hc25) mv_X12_word rfl rfl ⟨Nat.le_trans (by decide) hR.1, Nat.le_trans (by decide) hR.2⟩ tb_1248 hv1 rfl (by decide) rfl hl.1 rfl (Nat.le_of_ble_eq_true rfl) ⟨Nat.zero_le _, Nat.zero_le _⟩ dX12_readPower_76) (fun H locs dy => ?_)
        rcases of_brn hr with ⟨hc, hr⟩ | ⟨hc, hr⟩
        · refine lv_if_eq (tgt := 111) cx.1 cx.2.1 dX12_readPower_79 (by decide) (fun _ => ?_) (fun hn => absurd hc hn)
          refine lv_iconst (v := 0) cx.1 cx.2.1 dX12_readPower_111 (by decide) ?_
          obtain ⟨e0, e1⟩ := hq0 _ _ (Option.some.inj hr).symm
          exact h_iret cx dy hlocks hret rfl e0 (by rw [e1]) dX12_readPower_112
        · refine lv_if_eq (tgt := 111) cx.1 cx.2.1 dX12_readPower_79 (by decide) (fun hn => absurd hn hc) (fun _ => ?_)
          refine lv_aload_n cx.1 cx.2.1 dX12_readPower_82 rfl (lv_at hl 1 rfl) ?_
          refine lv_iload_n cx.1 cx.2.1 dX12_readPower_83 rfl (lv_at hl 0 rfl) ?_
          refine lv_iconst (v := 1) cx.1 cx.2.1 dX12_readPower_84 (by decide) ?_
          refine lv_iadd cx.1 cx.2.1 dX12_readPower_85 ?_
          obtain ⟨x27, g26, hc28, hr⟩ := of_bnd2 hr
          refine r_i dy (k_V (As := [.int (x12 + (1 : Int32))]) (b := k0) (ci := 12) cx fx dy (c_X12_hour hc28) mv_X12_hour rfl rfl ⟨Nat.le_trans (by decide) hR.1, Nat.le_trans (by decide) hR.2⟩ tb_1252 hv1 rfl (by decide) rfl hl.1 rfl (Nat.le_of_ble_eq_true rfl) ⟨Nat.zero_le _, Nat.zero_le _⟩ dX12_readPower_86) (fun H locs dy => ?_)
          rcases of_brn hr with ⟨hc, hr⟩ | ⟨hc, hr⟩
          · refine lv_if_eq (tgt := 111) cx.1 cx.2.1 dX12_readPower_89 (by decide) (fun _ => ?_) (fun hn => absurd hc hn)
            refine lv_iconst (v := 0) cx.1 cx.2.1 dX12_readPower_111 (by decide) ?_
            obtain ⟨e0, e1⟩ := hq0 _ _ (Option.some.inj hr).symm
            exact h_iret cx dy hlocks hret rfl e0 (by rw [e1]) dX12_readPower_112
          · refine lv_if_eq (tgt := 111) cx.1 cx.2.1 dX12_readPower_89 (by decide) (fun hn => absurd hn hc) (fun _ => ?_)
            refine lv_aload_n cx.1 cx.2.1 dX12_readPower_92 rfl (lv_at hl 1 rfl) ?_
            refine lv_bipush (v := 8) cx.1 cx.2.1 dX12_readPower_93 (by decide) ?_
            obtain ⟨x30, g29, hc31, hr⟩ := of_bnd2 hr
            refine r_i dy (k_V (As := [.int (8 : Int32)]) (b := k0) (ci := 12) cx fx dy (c_X12_word hc31) mv_X12_word rfl rfl ⟨Nat.le_trans (by decide) hR.1, Nat.le_trans (by decide) hR.2⟩ tb_1248 hv1 rfl (by decide) rfl hl.1 rfl (Nat.le_of_ble_eq_true rfl) ⟨Nat.zero_le _, Nat.zero_le _⟩ dX12_readPower_95) (fun H locs dy => ?_)
            rcases of_brn hr with ⟨hc, hr⟩ | ⟨hc, hr⟩
            · refine lv_if_eq (tgt := 111) cx.1 cx.2.1 dX12_readPower_98 (by decide) (fun _ => ?_) (fun hn => absurd hc hn)
              refine lv_iconst (v := 0) cx.1 cx.2.1 dX12_readPower_111 (by decide) ?_
              obtain ⟨e0, e1⟩ := hq0 _ _ (Option.some.inj hr).symm
              exact h_iret cx dy hlocks hret rfl e0 (by rw [e1]) dX12_readPower_112
            · refine lv_if_eq (tgt := 111) cx.1 cx.2.1 dX12_readPower_98 (by decide) (fun hn => absurd hn hc) (fun _ => ?_)
              refine lv_aload_n cx.1 cx.2.1 dX12_readPower_101 rfl (lv_at hl 1 rfl) ?_
              refine lv_iload_n cx.1 cx.2.1 dX12_readPower_102 rfl (lv_at hl 0 rfl) ?_
              refine lv_iconst (v := 2) cx.1 cx.2.1 dX12_readPower_103 (by decide) ?_
              refine lv_iadd cx.1 cx.2.1 dX12_readPower_104 ?_
              obtain ⟨x33, g32, hc34, hr⟩ := of_bnd2 hr
              refine r_i dy (k_V (As := [.int (x12 + (2 : Int32))]) (b := k0) (ci := 12) cx fx dy (c_X12_hour hc34) mv_X12_hour rfl rfl ⟨Nat.le_trans (by decide) hR.1, Nat.le_trans (by decide) hR.2⟩ tb_1252 hv1 rfl (by decide) rfl hl.1 rfl (Nat.le_of_ble_eq_true rfl) ⟨Nat.zero_le _, Nat.zero_le _⟩ dX12_readPower_105) (fun H locs dy => ?_)
              rcases of_brn hr with ⟨hc, hr⟩ | ⟨hc, hr⟩
              · refine lv_if_ne (tgt := 113) cx.1 cx.2.1 dX12_readPower_108 (by decide) (fun hn => absurd hc hn) (fun _ => ?_)
                refine lv_iconst (v := 0) cx.1 cx.2.1 dX12_readPower_111 (by decide) ?_
                obtain ⟨e0, e1⟩ := hq0 _ _ (Option.some.inj hr).symm
                exact h_iret cx dy hlocks hret rfl e0 (by rw [e1]) dX12_readPower_112
              · refine lv_if_ne (tgt := 113) cx.1 cx.2.1 dX12_readPower_108 (by decide) (fun _ => ?_) (fun hn => absurd hn hc)
                refine lv_aload_n cx.1 cx.2.1 dX12_readPower_113 rfl (lv_at hl 1 rfl) ?_
                obtain ⟨k35, hf36, hr⟩ := of_bnd hr
                refine h_getR cx fx dy fd_12_30 hv1 tb_1016 hf36 dX12_readPower_114 ?_
                refine lv_iload_n cx.1 cx.2.1 dX12_readPower_117 rfl (lv_at hl 0 rfl) ?_
                refine lv_iconst (v := 3) cx.1 cx.2.1 dX12_readPower_118 (by decide) ?_
                refine lv_iadd cx.1 cx.2.1 dX12_readPower_119 ?_
                refine lv_aload_n cx.1 cx.2.1 dX12_readPower_120 rfl (lv_at hl 1 rfl) ?_
                obtain ⟨x38, g37, hc39, hr⟩ := of_bnd2 hr
                refine r_i dy (k_V (As := []) (b := k0) (ci := 12) cx fx dy (c_X12_hasCry hc39) mv_X12_hasCry rfl rfl ⟨Nat.le_trans (by decide) hR.1, Nat.le_trans (by decide) hR.2⟩ tb_1256 hv1 rfl (by decide) rfl hl.1 rfl (Nat.le_of_ble_eq_true rfl) ⟨Nat.zero_le _, Nat.zero_le _⟩ dX12_readPower_121) (fun H locs dy => ?_)
                rcases of_brn hr with ⟨hc, hr⟩ | ⟨hc, hr⟩
                · refine lv_if_eq (tgt := 131) cx.1 cx.2.1 dX12_readPower_124 (by decide) (fun _ => ?_) (fun hn => absurd hc hn)
                  refine lv_iconst (v := 0) cx.1 cx.2.1 dX12_readPower_131 (by decide) ?_
                  obtain ⟨ha40, hr⟩ := of_grd hr
                  obtain ⟨g41, eg41, hr⟩ := of_nm hr
                  refine h_iast cx fx dy ha40 dX12_readPower_132 (fun H locs dy => ?_)
                  replace dy : Dy D cA ad (V, g41) A s.heap H locs := by rw [eg41]; exact dy
                  refine lv_aload_n cx.1 cx.2.1 dX12_readPower_133 rfl (lv_at hl 1 rfl) ?_
                  obtain ⟨k42, hf43, hr⟩ := of_bnd hr
                  refine h_getR cx fx dy fd_12_31 hv1 tb_1017 hf43 dX12_readPower_134 ?_
                  refine lv_iconst (v := 4) cx.1 cx.2.1 dX12_readPower_137 (by decide) ?_
                  refine lv_dup2_11 cx.1 cx.2.1 dX12_readPower_138 rfl rfl ?_
                  obtain ⟨ha44, hr⟩ := of_grd hr
                  refine h_iald cx fx dy ha44 dX12_readPower_139 ?_
                  refine lv_iconst (v := 1) cx.1 cx.2.1 dX12_readPower_140 (by decide) ?_
                  refine lv_iadd cx.1 cx.2.1 dX12_readPower_141 ?_
                  obtain ⟨ha45, hr⟩ := of_grd hr
                  obtain ⟨g46, eg46, hr⟩ := of_nm hr
                  refine h_iast cx fx dy ha45 dX12_readPower_142 (fun H locs dy => ?_)
                  replace dy : Dy D cA ad (V, g46) A s.heap H locs := by rw [eg46]; exact dy
                  refine lv_iconst (v := 1) cx.1 cx.2.1 dX12_readPower_143 (by decide) ?_
                  obtain ⟨e0, e1⟩ := hq0 _ _ (Option.some.inj hr).symm
                  exact h_iret cx dy hlocks hret rfl e0 (by rw [e1]) dX12_readPower_144
                · refine lv_if_eq (tgt := 131) cx.1 cx.2.1 dX12_readPower_124 (by decide) (fun hn => absurd hn hc) (fun _ => ?_)
                  refine lv_iconst (v := 1) cx.1 cx.2.1 dX12_readPower_127 (by decide) ?_
                  refine lv_goto (tgt := 132) cx.1 cx.2.1 dX12_readPower_128 (by decide) ?_
                  obtain ⟨ha47, hr⟩ := of_grd hr
                  obtain ⟨g48, eg48, hr⟩ := of_nm hr
                  refine h_iast cx fx dy ha47 dX12_readPower_132 (fun H locs dy => ?_)
                  replace dy : Dy D cA ad (V, g48) A s.heap H locs := by rw [eg48]; exact dy
                  refine lv_aload_n cx.1 cx.2.1 dX12_readPower_133 rfl (lv_at hl 1 rfl) ?_
                  obtain ⟨k49, hf50, hr⟩ := of_bnd hr
                  refine h_getR cx fx dy fd_12_31 hv1 tb_1017 hf50 dX12_readPower_134 ?_
                  refine lv_iconst (v := 4) cx.1 cx.2.1 dX12_readPower_137 (by decide) ?_
                  refine lv_dup2_11 cx.1 cx.2.1 dX12_readPower_138 rfl rfl ?_
                  obtain ⟨ha51, hr⟩ := of_grd hr
                  refine h_iald cx fx dy ha51 dX12_readPower_139 ?_
                  refine lv_iconst (v := 1) cx.1 cx.2.1 dX12_readPower_140 (by decide) ?_
                  refine lv_iadd cx.1 cx.2.1 dX12_readPower_141 ?_
                  obtain ⟨ha52, hr⟩ := of_grd hr
                  obtain ⟨g53, eg53, hr⟩ := of_nm hr
                  refine h_iast cx fx dy ha52 dX12_readPower_142 (fun H locs dy => ?_)
                  replace dy : Dy D cA ad (V, g53) A s.heap H locs := by rw [eg53]; exact dy
                  refine lv_iconst (v := 1) cx.1 cx.2.1 dX12_readPower_143 (by decide) ?_
                  obtain ⟨e0, e1⟩ := hq0 _ _ (Option.some.inj hr).symm
                  exact h_iret cx dy hlocks hret rfl e0 (by rw [e1]) dX12_readPower_144
      · refine lv_icmp_ge (tgt := 56) cx.1 cx.2.1 dX12_readPower_47 (by decide) (fun hn => absurd hn hc) (fun _ => ?_)
        refine lv_aload_n cx.1 cx.2.1 dX12_readPower_50 rfl (lv_at hl 1 rfl) ?_
        refine lv_iconst (v := 1) cx.1 cx.2.1 dX12_readPower_51 (by decide) ?_
        obtain ⟨x55, g54, hc56, hr⟩ := of_bnd2 hr
        refine r_i dy (k_V (As := [.int (1 : Int32)]) (b := k0) (ci := 12) cx fx dy (c_X12_wrong hc56) mv_X12_wrong rfl rfl ⟨Nat.le_trans (by decide) hR.1, Nat.le_trans (by decide) hR.2⟩ tb_1240 hv1 rfl (by decide) rfl hl.1 rfl (Nat.le_of_ble_eq_true rfl) ⟨Nat.zero_le _, Nat.zero_le _⟩ dX12_readPower_52) (fun H locs dy => ?_)
        obtain ⟨hb57, hr⟩ := of_grd hr
        obtain ⟨e0, e1⟩ := hq0 _ _ (Option.some.inj hr).symm
        exact h_iret cx dy hlocks hret hb57 e0 (by rw [e1]) dX12_readPower_55
    · refine lv_icmp_ne (tgt := 50) cx.1 cx.2.1 dX12_readPower_38 (by decide) (fun _ => ?_) (fun hn => absurd hn hc)
      refine lv_aload_n cx.1 cx.2.1 dX12_readPower_50 rfl (lv_at hl 1 rfl) ?_
      refine lv_iconst (v := 1) cx.1 cx.2.1 dX12_readPower_51 (by decide) ?_
      obtain ⟨x59, g58, hc60, hr⟩ := of_bnd2 hr
      refine r_i dy (k_V (As := [.int (1 : Int32)]) (b := k0) (ci := 12) cx fx dy (c_X12_wrong hc60) mv_X12_wrong rfl rfl ⟨Nat.le_trans (by decide) hR.1, Nat.le_trans (by decide) hR.2⟩ tb_1240 hv1 rfl (by decide) rfl hl.1 rfl (Nat.le_of_ble_eq_true rfl) ⟨Nat.zero_le _, Nat.zero_le _⟩ dX12_readPower_52) (fun H locs dy => ?_)
      obtain ⟨hb61, hr⟩ := of_grd hr
      obtain ⟨e0, e1⟩ := hq0 _ _ (Option.some.inj hr).symm
      exact h_iret cx dy hlocks hret hb61 e0 (by rw [e1]) dX12_readPower_55
noncomputable def r_X12_readLine (V : Vk) (k0 : Nat) (a1 : Int32) (g : Hq) : Option (Int32 × Hq) :=
  grd (V k0 = some (12, 0)) <| brn ((g.1 k0 3) = (1 : Int32)) (brn ((g.1 k0 4) ≤ (6 : Int32)) (nm (g.1 k0 4) fun x2 => brn (x2 = (4 : Int32)) (bnd (r_X12_readPower V k0 g) fun x4 g3 => grd (narrow .boolean (.int x4) = .int x4) <| some (x4, g3)) (brn (((a1 >>> (x2 &&& 31)) &&& (1 : Int32)) = (1 : Int32)) (bnd (r_X12_wrong V k0 (3 : Int32) g) fun x8 g7 => grd (narrow .boolean (.int x8) = .int x8) <| some (x8, g7)) (bnd (r_X12_scan V k0 g) fun u12 g11 => brn (x2 = 0) (bnd (r_X12_number V k0 (0 : Int32) (0 : Int32) (99 : Int32) g11) fun x15 g14 => brn (x15 = 0) (some ((0 : Int32), g14)) (Option.bind (g14.2.2 k0 29) fun k17 => grd (okV V k17 0 (32 : Int32)) <| bnd (r_X12_number V k0 (1 : Int32) (g14.1 k17 (32 : Int32).toNatClampNeg) (99 : Int32) g14) fun x21 g20 => brn (x21 = 0) (some ((0 : Int32), g20)) (some ((1 : Int32), g20)))) (brn (x2 = (1 : Int32)) (bnd (r_X12_number V k0 (2 : Int32) (0 : Int32) (30 : Int32) g11) fun x24 g23 => grd (narrow .boolean (.int x24) = .int x24) <| some (x24, g23)) (brn (x2 = (2 : Int32)) (bnd (r_X12_number V k0 (x2 + (1 : Int32)) (0 : Int32) (9999 : Int32) g11) fun x28 g27 => grd (narrow .boolean (.int x28) = .int x28) <| some (x28, g27)) (brn (x2 = (3 : Int32)) (bnd (r_X12_number V k0 (x2 + (1 : Int32)) (0 : Int32) (9999 : Int32) g11) fun x32 g31 => grd (narrow .boolean (.int x32) = .int x32) <| some (x32, g31)) (brn (x2 = (6 : Int32)) (bnd (r_X12_number V k0 (7 : Int32) (0 : Int32) (20 : Int32) g11) fun x36 g35 => grd (narrow .boolean (.int x36) = .int x36) <| some (x36, g35)) (bnd (r_X12_number V k0 (5 : Int32) (0 : Int32) (999 : Int32) g11) fun x40 g39 => brn (x40 = 0) (some ((0 : Int32), g39)) (Option.bind (g39.2.2 k0 29) fun k42 => bnd (r_X12_hasCry V k0 g39) fun x45 g44 => brn (x45 = 0) (grd (okV V k42 0 (38 : Int32)) <| nm (sI g44 k42 (38 : Int32).toNatClampNeg (0 : Int32)) fun g48 => some ((1 : Int32), g48)) (grd (okV V k42 0 (38 : Int32)) <| nm (sI g44 k42 (38 : Int32).toNatClampNeg (1 : Int32)) fun g50 => some ((1 : Int32), g50))))))))))) (bnd (r_X12_wrong V k0 (1 : Int32) g) fun x52 g51 => grd (narrow .boolean (.int x52) = .int x52) <| some (x52, g51))) (bnd (r_X12_wrong V k0 (1 : Int32) g) fun x56 g55 => grd (narrow .boolean (.int x56) = .int x56) <| some (x56, g55))
set_option maxHeartbeats 4000000 in
set_option maxRecDepth 100000 in
theorem c_X12_readLine {l : Launch} {D : va_G} {cA : Nat → ClassId} {sk : (Nat → Nat) × (Nat → Nat)} {ad : Nat → Nat} {A : Nat → Prop} {V : Vk} {k0 : Nat} {a1 : Int32} {g g0 : Hq} {r0 : Int32} (hr : r_X12_readLine V k0 a1 g = some (r0, g0)) : Met l yX12_readLine (wM yX12_readLine cX12_readLine 3 (some .boolean)) { frames := 8, cells := 0, slots := 0, locals := 177 } (Pre D cA sk ad (V, g) A [.ref (ad k0), .int a1]) (QI D cA ad A r0 (V, g0)) 0 0 A := by
  refine Met.ofW (cc := cX12_readLine) (maxL := 3) (ret := (some .boolean)) (by decide) rfl ?_
  intro p e s m args below meth c s₁ B hml hv
  obtain ⟨rfl, fx, w0⟩ := hv
  have hts := atoms_spec (ws := wM yX12_readLine cX12_readLine 3 (some .boolean)) B.pre
  have cx : CallFix p m c cX12_readLine 3 s ([.ref (ad k0), .int a1] : List Value).toArray gw_tbl RX12 := ⟨B.exec, B.bytes, hml, findClass_of_methodNamed B.named, fun w hw => hts w (List.mem_cons_of_mem _ hw)⟩
  have hlocks := B.notSynchronized
  have hret := B.returns
  have hR : 8 ≤ (headSpec (wM yX12_readLine cX12_readLine 3 (some .boolean)) { frames := 8, cells := 0, slots := 0, locals := 177 }).room.frames ∧ 177 ≤ (headSpec (wM yX12_readLine cX12_readLine 3 (some .boolean)) { frames := 8, cells := 0, slots := 0, locals := 177 }).room.locals := ⟨Nat.le_refl _, Nat.le_refl _⟩
  have dy : Dy D cA ad (V, g) A s.heap s.heap [] := ⟨w0, va_S.rf⟩
  have hl := lv_entry [.ref (ad k0), .int a1] (n := 3) (Nat.le_of_ble_eq_true rfl)
  rw [lg_entry_eq]
  generalize (lg_sl [.ref (ad k0), .int a1] ++ List.replicate (3 - (lg_sl [.ref (ad k0), .int a1]).length) Slot.unset).toArray = ls at hl ⊢
  have hl : lv_has ls 3 [(0, .ref (ad k0)), (1, .int a1)] := hl
  have dy0 : ∃ H0, H0 = s.heap ∧ Dy D cA ad (V, g) A s.heap H0 [] := ⟨_, rfl, dy⟩
  obtain ⟨z, ez⟩ : ∃ z, z = (r0, g0) := ⟨_, rfl⟩
  rw [← ez] at hr
  have hq0 : ∀ (rb : Int32) (gb : Hq), z = (rb, gb) → rb = r0 ∧ gb = g0 := fun rb gb eb => by rw [ez] at eb; exact ⟨(congrArg Prod.fst eb).symm, (congrArg Prod.snd eb).symm⟩
  clear ez w0 dy0
  unfold r_X12_readLine at hr
  obtain ⟨H, hH⟩ : ∃ H, H = s.heap := ⟨_, rfl⟩
  obtain ⟨locs, hlo⟩ : ∃ q : List Loc, q = [] := ⟨_, rfl⟩
  have dy : Dy D cA ad (V, g) A s.heap H locs := by rw [hH, hlo]; exact dy
  suffices K : W p l e (headSpec (wM yX12_readLine cX12_readLine 3 (some .boolean)) { frames := 8, cells := 0, slots := 0, locals := 177 }).room s m ([.ref (ad k0), .int a1] : List Value).toArray below meth c H locs 0 0 (MQ below (QI D cA ad A r0 (V, g0)) ([.ref (ad k0), .int a1] : List Value).toArray s 0 0 A) (F0 m 0 ls []) by rw [hH, hlo] at K; exact K
  clear hH hlo
  refine lv_aload_n cx.1 cx.2.1 dX12_readLine_0 rfl (lv_at hl 0 rfl) ?_
  obtain ⟨hv1, hr⟩ := of_grd hr
  refine h_getI cx fx dy fd_12_3 hv1 tb_989 dX12_readLine_1 ?_
  refine lv_iconst (v := 1) cx.1 cx.2.1 dX12_readLine_4 (by decide) ?_
  rcases of_brn hr with ⟨hc, hr⟩ | ⟨hc, hr⟩
  · refine lv_icmp_ne (tgt := 17) cx.1 cx.2.1 dX12_readLine_5 (by decide) (fun hn => absurd hc hn) (fun _ => ?_)
    refine lv_aload_n cx.1 cx.2.1 dX12_readLine_8 rfl (lv_at hl 0 rfl) ?_
    refine h_getI cx fx dy fd_12_4 hv1 tb_990 dX12_readLine_9 ?_
    refine lv_bipush (v := 6) cx.1 cx.2.1 dX12_readLine_12 (by decide) ?_
    rcases of_brn hr with ⟨hc, hr⟩ | ⟨hc, hr⟩
    · refine lv_icmp_le (tgt := 23) cx.1 cx.2.1 dX12_readLine_14 (by decide) (fun _ => ?_) (fun hn => absurd hc hn)
      refine lv_aload_n cx.1 cx.2.1 dX12_readLine_23 rfl (lv_at hl 0 rfl) ?_
      refine h_getI cx fx dy fd_12_4 hv1 tb_990 dX12_readLine_24 ?_
      obtain ⟨x2, ex2, hr⟩ := of_nm hr
      refine lv_nmi ex2 ?_
      refine lv_istore_n (lv' := [(2, .int x2), (0, .ref (ad k0)), (1, .int a1)]) cx.1 cx.2.1 dX12_readLine_27 rfl hl (by decide) rfl (fun ls hl => ?_)
      refine lv_iload_n cx.1 cx.2.1 dX12_readLine_28 rfl (lv_at hl 0 rfl) ?_
      refine lv_iconst (v := 4) cx.1 cx.2.1 dX12_readLine_29 (by decide) ?_
      rcases of_brn hr with ⟨hc, hr⟩ | ⟨hc, hr⟩
      · refine lv_icmp_ne (tgt := 38) cx.1 cx.2.1 dX12_readLine_30 (by decide) (fun hn => absurd hc hn) (fun _ => ?_)
        refine lv_aload_n cx.1 cx.2.1 dX12_readLine_33 rfl (lv_at hl 1 rfl) ?_
        obtain ⟨x4, g3, hc5, hr⟩ := of_bnd2 hr
        refine r_i dy (k_V (As := []) (b := k0) (ci := 12) cx fx dy (c_X12_readPower hc5) mv_X12_readPower rfl rfl ⟨Nat.le_trans (by decide) hR.1, Nat.le_trans (by decide) hR.2⟩ tb_1244 hv1 rfl (by decide) rfl hl.1 rfl (Nat.le_of_ble_eq_true rfl) ⟨Nat.zero_le _, Nat.zero_le _⟩ dX12_readLine_34) (fun H locs dy => ?_)
        obtain ⟨hb6, hr⟩ := of_grd hr
        obtain ⟨e0, e1⟩ := hq0 _ _ (Option.some.inj hr).symm
        exact h_iret cx dy hlocks hret hb6 e0 (by rw [e1]) dX12_readLine_37
      · refine lv_icmp_ne (tgt := 38) cx.1 cx.2.1 dX12_readLine_30 (by decide) (fun _ => ?_) (fun hn => absurd hn hc)
        refine lv_iload_n cx.1 cx.2.1 dX12_readLine_38 rfl (lv_at hl 2 rfl) ?_
        refine lv_iload_n cx.1 cx.2.1 dX12_readLine_39 rfl (lv_at hl 0 rfl) ?_
        refine lv_ishr cx.1 cx.2.1 dX12_readLine_40 ?_
        refine lv_iconst (v := 1) cx.1 cx.2.1 dX12_readLine_41 (by decide) ?_
        refine lv_iand cx.1 cx.2.1 dX12_readLine_42 ?_
        refine lv_iconst (v := 1) cx.1 cx.2.1 dX12_readLine_43 (by decide) ?_
        rcases of_brn hr with ⟨hc, hr⟩ | ⟨hc, hr⟩
        · refine lv_icmp_ne (tgt := 53) cx.1 cx.2.1 dX12_readLine_44 (by decide) (fun hn => absurd hc hn) (fun _ => ?_)
          refine lv_aload_n cx.1 cx.2.1 dX12_readLine_47 rfl (lv_at hl 1 rfl) ?_
          refine lv_iconst (v := 3) cx.1 cx.2.1 dX12_readLine_48 (by decide) ?_
          obtain ⟨x8, g7, hc9, hr⟩ := of_bnd2 hr
          refine r_i dy (k_V (As := [.int (3 : Int32)]) (b := k0) (ci := 12) cx fx dy (c_X12_wrong hc9) mv_X12_wrong rfl rfl ⟨Nat.le_trans (by decide) hR.1, Nat.le_trans (by decide) hR.2⟩ tb_1240 hv1 rfl (by decide) rfl hl.1 rfl (Nat.le_of_ble_eq_true rfl) ⟨Nat.zero_le _, Nat.zero_le _⟩ dX12_readLine_49) (fun H locs dy => ?_)
          obtain ⟨hb10, hr⟩ := of_grd hr
          obtain ⟨e0, e1⟩ := hq0 _ _ (Option.some.inj hr).symm
          exact h_iret cx dy hlocks hret hb10 e0 (by rw [e1]) dX12_readLine_52
        · refine lv_icmp_ne (tgt := 53) cx.1 cx.2.1 dX12_readLine_44 (by decide) (fun _ => ?_) (fun hn => absurd hn hc)
          refine lv_aload_n cx.1 cx.2.1 dX12_readLine_53 rfl (lv_at hl 1 rfl) ?_
          obtain ⟨u12, g11, hc13, hr⟩ := of_bnd2 hr
          refine r_v dy (k_V (As := []) (b := k0) (ci := 12) cx fx dy (c_X12_scan hc13) mv_X12_scan rfl rfl ⟨Nat.le_trans (by decide) hR.1, Nat.le_trans (by decide) hR.2⟩ tb_1215 hv1 rfl (by decide) rfl hl.1 rfl (Nat.le_of_ble_eq_true rfl) ⟨Nat.zero_le _, Nat.zero_le _⟩ dX12_readLine_54) (fun H locs dy => ?_)
          refine lv_iload_n cx.1 cx.2.1 dX12_readLine_57 rfl (lv_at hl 0 rfl) ?_
          rcases of_brn hr with ⟨hc, hr⟩ | ⟨hc, hr⟩
          · refine lv_if_ne (tgt := 95) cx.1 cx.2.1 dX12_readLine_58 (by decide) (fun hn => absurd hc hn) (fun _ => ?_)
            refine lv_aload_n cx.1 cx.2.1 dX12_readLine_61 rfl (lv_at hl 1 rfl) ?_
            refine lv_iconst (v := 0) cx.1 cx.2.1 dX12_readLine_62 (by decide) ?_
            refine lv_iconst (v := 0) cx.1 cx.2.1 dX12_readLine_63 (by decide) ?_
            refine lv_bipush (v := 99) cx.1 cx.2.1 dX12_readLine_64 (by decide) ?_
            obtain ⟨x15, g14, hc16, hr⟩ := of_bnd2 hr
            refine r_i dy (k_V (As := [.int (0 : Int32), .int (0 : Int32), .int (99 : Int32)]) (b := k0) (ci := 12) cx fx dy (c_X12_number hc16) mv_X12_number rfl rfl ⟨Nat.le_trans (by decide) hR.1, Nat.le_trans (by decide) hR.2⟩ tb_1260 hv1 rfl (by decide) rfl hl.1 rfl (Nat.le_of_ble_eq_true rfl) ⟨Nat.zero_le _, Nat.zero_le _⟩ dX12_readLine_66) (fun H locs dy => ?_)
            rcases of_brn hr with ⟨hc, hr⟩ | ⟨hc, hr⟩
            · refine lv_if_eq (tgt := 93) cx.1 cx.2.1 dX12_readLine_69 (by decide) (fun _ => ?_) (fun hn => absurd hc hn)
              refine lv_iconst (v := 0) cx.1 cx.2.1 dX12_readLine_93 (by decide) ?_
              obtain ⟨e0, e1⟩ := hq0 _ _ (Option.some.inj hr).symm
              exact h_iret cx dy hlocks hret rfl e0 (by rw [e1]) dX12_readLine_94
            · refine lv_if_eq (tgt := 93) cx.1 cx.2.1 dX12_readLine_69 (by decide) (fun hn => absurd hn hc) (fun _ => ?_)
              refine lv_aload_n cx.1 cx.2.1 dX12_readLine_72 rfl (lv_at hl 1 rfl) ?_
              refine lv_iconst (v := 1) cx.1 cx.2.1 dX12_readLine_73 (by decide) ?_
              refine lv_aload_n cx.1 cx.2.1 dX12_readLine_74 rfl (lv_at hl 1 rfl) ?_
              obtain ⟨k17, hf18, hr⟩ := of_bnd hr
              refine h_getR cx fx dy fd_12_29 hv1 tb_1015 hf18 dX12_readLine_75 ?_
              refine lv_bipush (v := 32) cx.1 cx.2.1 dX12_readLine_78 (by decide) ?_
              obtain ⟨ha19, hr⟩ := of_grd hr
              refine h_iald cx fx dy ha19 dX12_readLine_80 ?_
              refine lv_bipush (v := 99) cx.1 cx.2.1 dX12_readLine_81 (by decide) ?_
              obtain ⟨x21, g20, hc22, hr⟩ := of_bnd2 hr
              refine r_i dy (k_V (As := [.int (1 : Int32), .int (g14.1 k17 (32 : Int32).toNatClampNeg), .int (99 : Int32)]) (b := k0) (ci := 12) cx fx dy (c_X12_number hc22) mv_X12_number rfl rfl ⟨Nat.le_trans (by decide) hR.1, Nat.le_trans (by decide) hR.2⟩ tb_1260 hv1 rfl (by decide) rfl hl.1 rfl (Nat.le_of_ble_eq_true rfl) ⟨Nat.zero_le _, Nat.zero_le _⟩ dX12_readLine_83) (fun H locs dy => ?_)
              rcases of_brn hr with ⟨hc, hr⟩ | ⟨hc, hr⟩
              · refine lv_if_eq (tgt := 93) cx.1 cx.2.1 dX12_readLine_86 (by decide) (fun _ => ?_) (fun hn => absurd hc hn)
                refine lv_iconst (v := 0) cx.1 cx.2.1 dX12_readLine_93 (by decide) ?_
                obtain ⟨e0, e1⟩ := hq0 _ _ (Option.some.inj hr).symm
                exact h_iret cx dy hlocks hret rfl e0 (by rw [e1]) dX12_readLine_94
              · refine lv_if_eq (tgt := 93) cx.1 cx.2.1 dX12_readLine_86 (by decide) (fun hn => absurd hn hc) (fun _ => ?_)
                refine lv_iconst (v := 1) cx.1 cx.2.1 dX12_readLine_89 (by decide) ?_
                refine lv_goto (tgt := 94) cx.1 cx.2.1 dX12_readLine_90 (by decide) ?_
                obtain ⟨e0, e1⟩ := hq0 _ _ (Option.some.inj hr).symm
                exact h_iret cx dy hlocks hret rfl e0 (by rw [e1]) dX12_readLine_94
          · refine lv_if_ne (tgt := 95) cx.1 cx.2.1 dX12_readLine_58 (by decide) (fun _ => ?_) (fun hn => absurd hn hc)
            refine lv_iload_n cx.1 cx.2.1 dX12_readLine_95 rfl (lv_at hl 0 rfl) ?_
            refine lv_iconst (v := 1) cx.1 cx.2.1 dX12_readLine_96 (by decide) ?_
            rcases of_brn hr with ⟨hc, hr⟩ | ⟨hc, hr⟩
            · refine lv_icmp_ne (tgt := 109) cx.1 cx.2.1 dX12_readLine_97 (by decide) (fun hn => absurd hc hn) (fun _ => ?_)
              refine lv_aload_n cx.1 cx.2.1 dX12_readLine_100 rfl (lv_at hl 1 rfl) ?_
              refine lv_iconst (v := 2) cx.1 cx.2.1 dX12_readLine_101 (by decide) ?_
              refine lv_iconst (v := 0) cx.1 cx.2.1 dX12_readLine_102 (by decide) ?_
              refine lv_bipush (v := 30) cx.1 cx.2.1 dX12_readLine_103 (by decide) ?_
              obtain ⟨x24, g23, hc25, hr⟩ := of_bnd2 hr
              refine r_i dy (k_V (As := [.int (2 : Int32), .int (0 : Int32), .int (30 : Int32)]) (b := k0) (ci := 12) cx fx dy (c_X12_number hc25) mv_X12_number rfl rfl ⟨Nat.le_trans (by decide) hR.1, Nat.le_trans (by decide) hR.2⟩ tb_1260 hv1 rfl (by decide) rfl hl.1 rfl (Nat.le_of_ble_eq_true rfl) ⟨Nat.zero_le _, Nat.zero_le _⟩ dX12_readLine_105) (fun H locs dy => ?_)
              obtain ⟨hb26, hr⟩ := of_grd hr
              obtain ⟨e0, e1⟩ := hq0 _ _ (Option.some.inj hr).symm
              exact h_iret cx dy hlocks hret hb26 e0 (by rw [e1]) dX12_readLine_108
            · refine lv_icmp_ne (tgt := 109) cx.1 cx.2.1 dX12_readLine_97 (by decide) (fun _ => ?_) (fun hn => absurd hn hc)
              refine lv_iload_n cx.1 cx.2.1 dX12_readLine_109 rfl (lv_at hl 0 rfl) ?_
              refine lv_iconst (v := 2) cx.1 cx.2.1 dX12_readLine_110 (by decide) ?_
              rcases of_brn hr with ⟨hc, hr⟩ | ⟨hc, hr⟩
              · refine lv_icmp_eq (tgt := 119) cx.1 cx.2.1 dX12_readLine_111 (by decide) (fun _ => ?_) (fun hn => absurd hc hn)
                refine lv_aload_n cx.1 cx.2.1 dX12_readLine_119 rfl (lv_at hl 1 rfl) ?_
                refine lv_iload_n cx.1 cx.2.1 dX12_readLine_120 rfl (lv_at hl 0 rfl) ?_
                refine lv_iconst (v := 1) cx.1 cx.2.1 dX12_readLine_121 (by decide) ?_
                refine lv_iadd cx.1 cx.2.1 dX12_readLine_122 ?_
                refine lv_iconst (v := 0) cx.1 cx.2.1 dX12_readLine_123 (by decide) ?_
                refine lv_sipush (v := 9999) cx.1 cx.2.1 dX12_readLine_124 (by decide) ?_
                obtain ⟨x28, g27, hc29, hr⟩ := of_bnd2 hr
                refine r_i dy (k_V (As := [.int (x2 + (1 : Int32)), .int (0 : Int32), .int (9999 : Int32)]) (b := k0) (ci := 12) cx fx dy (c_X12_number hc29) mv_X12_number rfl rfl ⟨Nat.le_trans (by decide) hR.1, Nat.le_trans (by decide) hR.2⟩ tb_1260 hv1 rfl (by decide) rfl hl.1 rfl (Nat.le_of_ble_eq_true rfl) ⟨Nat.zero_le _, Nat.zero_le _⟩ dX12_readLine_127) (fun H locs dy => ?_)
                obtain ⟨hb30, hr⟩ := of_grd hr
                obtain ⟨e0, e1⟩ := hq0 _ _ (Option.some.inj hr).symm
                exact h_iret cx dy hlocks hret hb30 e0 (by rw [e1]) dX12_readLine_130
              · refine lv_icmp_eq (tgt := 119) cx.1 cx.2.1 dX12_readLine_111 (by decide) (fun hn => absurd hn hc) (fun _ => ?_)
                refine lv_iload_n cx.1 cx.2.1 dX12_readLine_114 rfl (lv_at hl 0 rfl) ?_
                refine lv_iconst (v := 3) cx.1 cx.2.1 dX12_readLine_115 (by decide) ?_
                rcases of_brn hr with ⟨hc, hr⟩ | ⟨hc, hr⟩
                · refine lv_icmp_ne (tgt := 131) cx.1 cx.2.1 dX12_readLine_116 (by decide) (fun hn => absurd hc hn) (fun _ => ?_)
                  refine lv_aload_n cx.1 cx.2.1 dX12_readLine_119 rfl (lv_at hl 1 rfl) ?_
                  refine lv_iload_n cx.1 cx.2.1 dX12_readLine_120 rfl (lv_at hl 0 rfl) ?_
                  refine lv_iconst (v := 1) cx.1 cx.2.1 dX12_readLine_121 (by decide) ?_
                  refine lv_iadd cx.1 cx.2.1 dX12_readLine_122 ?_
                  refine lv_iconst (v := 0) cx.1 cx.2.1 dX12_readLine_123 (by decide) ?_
                  refine lv_sipush (v := 9999) cx.1 cx.2.1 dX12_readLine_124 (by decide) ?_
                  obtain ⟨x32, g31, hc33, hr⟩ := of_bnd2 hr
                  refine r_i dy (k_V (As := [.int (x2 + (1 : Int32)), .int (0 : Int32), .int (9999 : Int32)]) (b := k0) (ci := 12) cx fx dy (c_X12_number hc33) mv_X12_number rfl rfl ⟨Nat.le_trans (by decide) hR.1, Nat.le_trans (by decide) hR.2⟩ tb_1260 hv1 rfl (by decide) rfl hl.1 rfl (Nat.le_of_ble_eq_true rfl) ⟨Nat.zero_le _, Nat.zero_le _⟩ dX12_readLine_127) (fun H locs dy => ?_)
                  obtain ⟨hb34, hr⟩ := of_grd hr
                  obtain ⟨e0, e1⟩ := hq0 _ _ (Option.some.inj hr).symm
                  exact h_iret cx dy hlocks hret hb34 e0 (by rw [e1]) dX12_readLine_130
                · refine lv_icmp_ne (tgt := 131) cx.1 cx.2.1 dX12_readLine_116 (by decide) (fun _ => ?_) (fun hn => absurd hn hc)
                  refine lv_iload_n cx.1 cx.2.1 dX12_readLine_131 rfl (lv_at hl 0 rfl) ?_
                  refine lv_bipush (v := 6) cx.1 cx.2.1 dX12_readLine_132 (by decide) ?_
                  rcases of_brn hr with ⟨hc, hr⟩ | ⟨hc, hr⟩
                  · refine lv_icmp_ne (tgt := 147) cx.1 cx.2.1 dX12_readLine_134 (by decide) (fun hn => absurd hc hn) (fun _ => ?_)
                    refine lv_aload_n cx.1 cx.2.1 dX12_readLine_137 rfl (lv_at hl 1 rfl) ?_
                    refine lv_bipush (v := 7) cx.1 cx.2.1 dX12_readLine_138 (by decide) ?_
                    refine lv_iconst (v := 0) cx.1 cx.2.1 dX12_readLine_140 (by decide) ?_
                    refine lv_bipush (v := 20) cx.1 cx.2.1 dX12_readLine_141 (by decide) ?_
                    obtain ⟨x36, g35, hc37, hr⟩ := of_bnd2 hr
                    refine r_i dy (k_V (As := [.int (7 : Int32), .int (0 : Int32), .int (20 : Int32)]) (b := k0) (ci := 12) cx fx dy (c_X12_number hc37) mv_X12_number rfl rfl ⟨Nat.le_trans (by decide) hR.1, Nat.le_trans (by decide) hR.2⟩ tb_1260 hv1 rfl (by decide) rfl hl.1 rfl (Nat.le_of_ble_eq_true rfl) ⟨Nat.zero_le _, Nat.zero_le _⟩ dX12_readLine_143) (fun H locs dy => ?_)
                    obtain ⟨hb38, hr⟩ := of_grd hr
                    obtain ⟨e0, e1⟩ := hq0 _ _ (Option.some.inj hr).symm
                    exact h_iret cx dy hlocks hret hb38 e0 (by rw [e1]) dX12_readLine_146
                  · refine lv_icmp_ne (tgt := 147) cx.1 cx.2.1 dX12_readLine_134 (by decide) (fun _ => ?_) (fun hn => absurd hn hc)
                    refine lv_aload_n cx.1 cx.2.1 dX12_readLine_147 rfl (lv_at hl 1 rfl) ?_
                    refine lv_iconst (v := 5) cx.1 cx.2.1 dX12_readLine_148 (by decide) ?_
                    refine lv_iconst (v := 0) cx.1 cx.2.1 dX12_readLine_149 (by decide) ?_
                    refine lv_sipush (v := 999) cx.1 cx.2.1 dX12_readLine_150 (by decide) ?_
                    obtain ⟨x40, g39, hc41, hr⟩ := of_bnd2 hr
                    refine r_i dy (k_V (As := [.int (5 : Int32), .int (0 : Int32), .int (999 : Int32)]) (b := k0) (ci := 12) cx fx dy (c_X12_number hc41) mv_X12_number rfl rfl ⟨Nat.le_trans (by decide) hR.1, Nat.le_trans (by decide) hR.2⟩ tb_1260 hv1 rfl (by decide) rfl hl.1 rfl (Nat.le_of_ble_eq_true rfl) ⟨Nat.zero_le _, Nat.zero_le _⟩ dX12_readLine_153) (fun H locs dy => ?_)
                    rcases of_brn hr with ⟨hc, hr⟩ | ⟨hc, hr⟩
                    · refine lv_if_ne (tgt := 161) cx.1 cx.2.1 dX12_readLine_156 (by decide) (fun hn => absurd hc hn) (fun _ => ?_)
                      refine lv_iconst (v := 0) cx.1 cx.2.1 dX12_readLine_159 (by decide) ?_
                      obtain ⟨e0, e1⟩ := hq0 _ _ (Option.some.inj hr).symm
                      exact h_iret cx dy hlocks hret rfl e0 (by rw [e1]) dX12_readLine_160
                    · refine lv_if_ne (tgt := 161) cx.1 cx.2.1 dX12_readLine_156 (by decide) (fun _ => ?_) (fun hn => absurd hn hc)
                      refine lv_aload_n cx.1 cx.2.1 dX12_readLine_161 rfl (lv_at hl 1 rfl) ?_
                      obtain ⟨k42, hf43, hr⟩ := of_bnd hr
                      refine h_getR cx fx dy fd_12_29 hv1 tb_1015 hf43 dX12_readLine_162 ?_
                      refine lv_bipush (v := 38) cx.1 cx.2.1 dX12_readLine_165 (by decide) ?_
                      refine lv_aload_n cx.1 cx.2.1 dX12_readLine_167 rfl (lv_at hl 1 rfl) ?_
                      obtain ⟨x45, g44, hc46, hr⟩ := of_bnd2 hr
                      refine r_i dy (k_V (As := []) (b := k0) (ci := 12) cx fx dy (c_X12_hasCry hc46) mv_X12_hasCry rfl rfl ⟨Nat.le_trans (by decide) hR.1, Nat.le_trans (by decide) hR.2⟩ tb_1256 hv1 rfl (by decide) rfl hl.1 rfl (Nat.le_of_ble_eq_true rfl) ⟨Nat.zero_le _, Nat.zero_le _⟩ dX12_readLine_168) (fun H locs dy => ?_)
                      rcases of_brn hr with ⟨hc, hr⟩ | ⟨hc, hr⟩
                      · refine lv_if_eq (tgt := 178) cx.1 cx.2.1 dX12_readLine_171 (by decide) (fun _ => ?_) (fun hn => absurd hc hn)
                        refine lv_iconst (v := 0) cx.1 cx.2.1 dX12_readLine_178 (by decide) ?_
                        obtain ⟨ha47, hr⟩ := of_grd hr
                        obtain ⟨g48, eg48, hr⟩ := of_nm hr
                        refine h_iast cx fx dy ha47 dX12_readLine_179 (fun H locs dy => ?_)
                        replace dy : Dy D cA ad (V, g48) A s.heap H locs := by rw [eg48]; exact dy
                        refine lv_iconst (v := 1) cx.1 cx.2.1 dX12_readLine_180 (by decide) ?_
                        obtain ⟨e0, e1⟩ := hq0 _ _ (Option.some.inj hr).symm
                        exact h_iret cx dy hlocks hret rfl e0 (by rw [e1]) dX12_readLine_181
                      · refine lv_if_eq (tgt := 178) cx.1 cx.2.1 dX12_readLine_171 (by decide) (fun hn => absurd hn hc) (fun _ => ?_)
                        refine lv_iconst (v := 1) cx.1 cx.2.1 dX12_readLine_174 (by decide) ?_
                        refine lv_goto (tgt := 179) cx.1 cx.2.1 dX12_readLine_175 (by decide) ?_
                        obtain ⟨ha49, hr⟩ := of_grd hr
                        obtain ⟨g50, eg50, hr⟩ := of_nm hr
                        refine h_iast cx fx dy ha49 dX12_readLine_179 (fun H locs dy => ?_)
                        replace dy : Dy D cA ad (V, g50) A s.heap H locs := by rw [eg50]; exact dy
                        refine lv_iconst (v := 1) cx.1 cx.2.1 dX12_readLine_180 (by decide) ?_
                        obtain ⟨e0, e1⟩ := hq0 _ _ (Option.some.inj hr).symm
                        exact h_iret cx dy hlocks hret rfl e0 (by rw [e1]) dX12_readLine_181
    · refine lv_icmp_le (tgt := 23) cx.1 cx.2.1 dX12_readLine_14 (by decide) (fun hn => absurd hn hc) (fun _ => ?_)
      refine lv_aload_n cx.1 cx.2.1 dX12_readLine_17 rfl (lv_at hl 0 rfl) ?_
      refine lv_iconst (v := 1) cx.1 cx.2.1 dX12_readLine_18 (by decide) ?_
      obtain ⟨x52, g51, hc53, hr⟩ := of_bnd2 hr
      refine r_i dy (k_V (As := [.int (1 : Int32)]) (b := k0) (ci := 12) cx fx dy (c_X12_wrong hc53) mv_X12_wrong rfl rfl ⟨Nat.le_trans (by decide) hR.1, Nat.le_trans (by decide) hR.2⟩ tb_1240 hv1 rfl (by decide) rfl hl.1 rfl (Nat.le_of_ble_eq_true rfl) ⟨Nat.zero_le _, Nat.zero_le _⟩ dX12_readLine_19) (fun H locs dy => ?_)
      obtain ⟨hb54, hr⟩ := of_grd hr
      obtain ⟨e0, e1⟩ := hq0 _ _ (Option.some.inj hr).symm
      exact h_iret cx dy hlocks hret hb54 e0 (by rw [e1]) dX12_readLine_22
  · refine lv_icmp_ne (tgt := 17) cx.1 cx.2.1 dX12_readLine_5 (by decide) (fun _ => ?_) (fun hn => absurd hn hc)
    refine lv_aload_n cx.1 cx.2.1 dX12_readLine_17 rfl (lv_at hl 0 rfl) ?_
    refine lv_iconst (v := 1) cx.1 cx.2.1 dX12_readLine_18 (by decide) ?_
    obtain ⟨x56, g55, hc57, hr⟩ := of_bnd2 hr
    refine r_i dy (k_V (As := [.int (1 : Int32)]) (b := k0) (ci := 12) cx fx dy (c_X12_wrong hc57) mv_X12_wrong rfl rfl ⟨Nat.le_trans (by decide) hR.1, Nat.le_trans (by decide) hR.2⟩ tb_1240 hv1 rfl (by decide) rfl hl.1 rfl (Nat.le_of_ble_eq_true rfl) ⟨Nat.zero_le _, Nat.zero_le _⟩ dX12_readLine_19) (fun H locs dy => ?_)
    obtain ⟨hb58, hr⟩ := of_grd hr
    obtain ⟨e0, e1⟩ := hq0 _ _ (Option.some.inj hr).symm
    exact h_iret cx dy hlocks hret hb58 e0 (by rw [e1]) dX12_readLine_22
noncomputable def r_X12_laws_225' (V : Vk) (k41 : Nat) (x42 : Int32) (x43 : Int32) (x44 : Int32) (g45 : Hq) : Option ((Nat × Int32 × Int32 × Int32 × Hq) ⊕ (Int32 × Hq)) :=
  brn ((48 : Int32) ≤ x44) (some (.inr (x43, g45))) (grd (V k41 = some (12, 0)) <| Option.bind (g45.2.2 k41 30) fun k47 => Option.bind (g45.2.2 k41 30) fun k49 => grd (okV V k49 0 ((192 : Int32) + x44)) <| grd (okV V k47 0 (((48 : Int32) * x42) + x44)) <| nm (sI g45 k47 (((48 : Int32) * x42) + x44).toNatClampNeg (g45.1 k49 ((192 : Int32) + x44).toNatClampNeg)) fun g53 => nm (x44 + (1 : Int32)) fun x54 => some (.inl (k41, x42, x43, x54, g53)))
noncomputable def r_X12_laws_225 (V : Vk) (st : (Nat × Int32 × Int32 × Int32 × Hq)) : Option ((Nat × Int32 × Int32 × Int32 × Hq) ⊕ (Int32 × Hq)) := r_X12_laws_225' V st.1 st.2.1 st.2.2.1 st.2.2.2.1 st.2.2.2.2
set_option maxHeartbeats 4000000 in
set_option maxRecDepth 100000 in
theorem w_X12_laws_225 {p : Program} {l : Launch} {e : Env} {R : Room} {s : State} {m : MethodId} {args : Array Value} {below : List Frame} {meth : Method} {c : Code} {D : va_G} {cA : Nat → ClassId} {sk : (Nat → Nat) × (Nat → Nat)} {ad : Nat → Nat} {A : Nat → Prop} {V : Vk} (cx : CallFix p m c cX12_laws 6 s args gw_tbl RX12) (fx : Fx D cA sk A s) (hlocks : meth.locks = false) (hret : meth.sig.returnType = (some .int)) (hR : 9 ≤ R.frames ∧ 199 ≤ R.locals) (r0 : Int32) (g0 : Hq) (y : (Int32 × Hq)) (hq : ∀ (rb : Int32) (gb : Hq), y = (rb, gb) → rb = r0 ∧ gb = g0) : ∀ (n : Nat) (k41 : Nat) (x42 : Int32) (x43 : Int32) (x44 : Int32) (g45 : Hq), itr (r_X12_laws_225 V) n (k41, x42, x43, x44, g45) = some y → ∀ (H : Heap) (locs : List Loc) (ls : Array Slot), Dy D cA ad (V, g45) A s.heap H locs → lv_has ls 6 [(0, .ref (ad k41)), (1, .int x42), (3, .int x43), (4, .int x44)] → W p l e R s m args below meth c H locs 0 0 (MQ below (QI D cA ad A r0 (V, g0)) args s 0 0 A) (F0 m 225 ls []) := by
  intro n
  induction n with
  | zero => intro k41 x42 x43 x44 g45 hr; cases hr
  | succ n ih =>
    intro k41 x42 x43 x44 g45 hr H locs ls dy hl
    obtain ⟨z, hz, hn1, hn2⟩ := itr_succ hr
    clear hr
    have hr : r_X12_laws_225' V k41 x42 x43 x44 g45 = some z := hz
    clear hz
    unfold r_X12_laws_225' at hr
    have hh0 : ∀ (b0 : Nat) (b1 : Int32) (b2 : Int32) (b3 : Int32) (gb : Hq), z = .inl (b0, b1, b2, b3, gb) → ∀ (H : Heap) (locs : List Loc) (ls : Array Slot), Dy D cA ad (V, gb) A s.heap H locs → lv_has ls 6 [(0, .ref (ad b0)), (1, .int b1), (3, .int b2), (4, .int b3)] → W p l e R s m args below meth c H locs 0 0 (MQ below (QI D cA ad A r0 (V, g0)) args s 0 0 A) (F0 m 225 ls []) := fun b0 b1 b2 b3 gb eb => ih b0 b1 b2 b3 gb (hn1 _ eb)
    have hq0 : ∀ (rb : Int32) (gb : Hq), z = (.inr (rb, gb)) → rb = r0 ∧ gb = g0 := fun rb gb eb => hq rb gb (hn2 _ eb).symm
    refine lv_iload cx.1 cx.2.1 dX12_laws_225 (lv_at hl 3 rfl) ?_
    refine lv_bipush (v := 48) cx.1 cx.2.1 dX12_laws_227 (by decide) ?_
    rcases of_brn hr with ⟨hc, hr⟩ | ⟨hc, hr⟩
    · refine lv_icmp_ge (tgt := 261) cx.1 cx.2.1 dX12_laws_229 (by decide) (fun _ => ?_) (fun hn => absurd hc hn)
      refine lv_iload_n cx.1 cx.2.1 dX12_laws_261 rfl (lv_at hl 2 rfl) ?_
      obtain ⟨e0, e1⟩ := hq0 _ _ (Option.some.inj hr).symm
      exact h_iret cx dy hlocks hret rfl e0 (by rw [e1]) dX12_laws_262
    · refine lv_icmp_ge (tgt := 261) cx.1 cx.2.1 dX12_laws_229 (by decide) (fun hn => absurd hn hc) (fun _ => ?_)
      refine lv_aload_n cx.1 cx.2.1 dX12_laws_232 rfl (lv_at hl 0 rfl) ?_
      obtain ⟨hv46, hr⟩ := of_grd hr
      obtain ⟨k47, hf48, hr⟩ := of_bnd hr
      refine h_getR cx fx dy fd_12_30 hv46 tb_1016 hf48 dX12_laws_233 ?_
      refine lv_bipush (v := 48) cx.1 cx.2.1 dX12_laws_236 (by decide) ?_
      refine lv_iload_n cx.1 cx.2.1 dX12_laws_238 rfl (lv_at hl 1 rfl) ?_
      refine lv_imul cx.1 cx.2.1 dX12_laws_239 ?_
      refine lv_iload cx.1 cx.2.1 dX12_laws_240 (lv_at hl 3 rfl) ?_
      refine lv_iadd cx.1 cx.2.1 dX12_laws_242 ?_
      refine lv_aload_n cx.1 cx.2.1 dX12_laws_243 rfl (lv_at hl 0 rfl) ?_
      obtain ⟨k49, hf50, hr⟩ := of_bnd hr
      refine h_getR cx fx dy fd_12_30 hv46 tb_1016 hf50 dX12_laws_244 ?_
      refine lv_sipush (v := 192) cx.1 cx.2.1 dX12_laws_247 (by decide) ?_
      refine lv_iload cx.1 cx.2.1 dX12_laws_250 (lv_at hl 3 rfl) ?_
      refine lv_iadd cx.1 cx.2.1 dX12_laws_252 ?_
      obtain ⟨ha51, hr⟩ := of_grd hr
      refine h_iald cx fx dy ha51 dX12_laws_253 ?_
      obtain ⟨ha52, hr⟩ := of_grd hr
      obtain ⟨g53, eg53, hr⟩ := of_nm hr
      refine h_iast cx fx dy ha52 dX12_laws_254 (fun H locs dy => ?_)
      replace dy : Dy D cA ad (V, g53) A s.heap H locs := by rw [eg53]; exact dy
      obtain ⟨x54, ex54, hr⟩ := of_nm hr
      refine lv_iinc (v := x54) (lv' := [(4, .int x54), (0, .ref (ad k41)), (1, .int x42), (3, .int x43)]) cx.1 cx.2.1 dX12_laws_255 hl (k := 3) rfl (by rw [ex54]; rfl) (by decide) rfl (fun ls hl => ?_)
      refine lv_goto (tgt := 225) cx.1 cx.2.1 dX12_laws_258 (by decide) ?_
      exact hh0 k41 x42 x43 x54 g53 (Option.some.inj hr).symm H locs ls dy (lv_sub hl [1, 2, 3, 0] rfl)
noncomputable def r_X12_laws_175' (V : Vk) (k28 : Nat) (x29 : Int32) (x30 : Int32) (x31 : Int32) (g32 : Hq) : Option ((Nat × Int32 × Int32 × Int32 × Hq) ⊕ (Int32 × Hq)) :=
  brn ((8 : Int32) ≤ x31) (grd (V k28 = some (12, 0)) <| Option.bind (g32.2.2 k28 31) fun k34 => Option.bind (g32.2.2 k28 31) fun k36 => grd (okV V k36 0 (4 : Int32)) <| grd (okV V k34 0 x29) <| nm (sI g32 k34 x29.toNatClampNeg (g32.1 k36 (4 : Int32).toNatClampNeg)) fun g40 => (Option.map Sum.inr (lop (r_X12_laws_225 V) (k28, x29, x30, (0 : Int32), g40)))) (grd (V k28 = some (12, 0)) <| Option.bind (g32.2.2 k28 29) fun k56 => Option.bind (g32.2.2 k28 29) fun k58 => grd (okV V k58 0 ((32 : Int32) + x31)) <| grd (okV V k56 0 (((8 : Int32) * x29) + x31)) <| nm (sI g32 k56 (((8 : Int32) * x29) + x31).toNatClampNeg (g32.1 k58 ((32 : Int32) + x31).toNatClampNeg)) fun g62 => nm (x31 + (1 : Int32)) fun x63 => some (.inl (k28, x29, x30, x63, g62)))
noncomputable def r_X12_laws_175 (V : Vk) (st : (Nat × Int32 × Int32 × Int32 × Hq)) : Option ((Nat × Int32 × Int32 × Int32 × Hq) ⊕ (Int32 × Hq)) := r_X12_laws_175' V st.1 st.2.1 st.2.2.1 st.2.2.2.1 st.2.2.2.2
set_option maxHeartbeats 4000000 in
set_option maxRecDepth 100000 in
theorem w_X12_laws_175 {p : Program} {l : Launch} {e : Env} {R : Room} {s : State} {m : MethodId} {args : Array Value} {below : List Frame} {meth : Method} {c : Code} {D : va_G} {cA : Nat → ClassId} {sk : (Nat → Nat) × (Nat → Nat)} {ad : Nat → Nat} {A : Nat → Prop} {V : Vk} (cx : CallFix p m c cX12_laws 6 s args gw_tbl RX12) (fx : Fx D cA sk A s) (hlocks : meth.locks = false) (hret : meth.sig.returnType = (some .int)) (hR : 9 ≤ R.frames ∧ 199 ≤ R.locals) (r0 : Int32) (g0 : Hq) (y : (Int32 × Hq)) (hq : ∀ (rb : Int32) (gb : Hq), y = (rb, gb) → rb = r0 ∧ gb = g0) : ∀ (n : Nat) (k28 : Nat) (x29 : Int32) (x30 : Int32) (x31 : Int32) (g32 : Hq), itr (r_X12_laws_175 V) n (k28, x29, x30, x31, g32) = some y → ∀ (H : Heap) (locs : List Loc) (ls : Array Slot), Dy D cA ad (V, g32) A s.heap H locs → lv_has ls 6 [(0, .ref (ad k28)), (1, .int x29), (3, .int x30), (4, .int x31)] → W p l e R s m args below meth c H locs 0 0 (MQ below (QI D cA ad A r0 (V, g0)) args s 0 0 A) (F0 m 175 ls []) := by
  intro n
  induction n with
  | zero => intro k28 x29 x30 x31 g32 hr; cases hr
  | succ n ih =>
    intro k28 x29 x30 x31 g32 hr H locs ls dy hl
    obtain ⟨z, hz, hn1, hn2⟩ := itr_succ hr
    clear hr
    have hr : r_X12_laws_175' V k28 x29 x30 x31 g32 = some z := hz
    clear hz
    unfold r_X12_laws_175' at hr
    have hh0 : ∀ (b0 : Nat) (b1 : Int32) (b2 : Int32) (b3 : Int32) (gb : Hq), z = .inl (b0, b1, b2, b3, gb) → ∀ (H : Heap) (locs : List Loc) (ls : Array Slot), Dy D cA ad (V, gb) A s.heap H locs → lv_has ls 6 [(0, .ref (ad b0)), (1, .int b1), (3, .int b2), (4, .int b3)] → W p l e R s m args below meth c H locs 0 0 (MQ below (QI D cA ad A r0 (V, g0)) args s 0 0 A) (F0 m 175 ls []) := fun b0 b1 b2 b3 gb eb => ih b0 b1 b2 b3 gb (hn1 _ eb)
    have hq0 : ∀ (rb : Int32) (gb : Hq), z = (.inr (rb, gb)) → rb = r0 ∧ gb = g0 := fun rb gb eb => hq rb gb (hn2 _ eb).symm
    refine lv_iload cx.1 cx.2.1 dX12_laws_175 (lv_at hl 3 rfl) ?_
    refine lv_bipush (v := 8) cx.1 cx.2.1 dX12_laws_177 (by decide) ?_
    rcases of_brn hr with ⟨hc, hr⟩ | ⟨hc, hr⟩
    · refine lv_icmp_ge (tgt := 210) cx.1 cx.2.1 dX12_laws_179 (by decide) (fun _ => ?_) (fun hn => absurd hc hn)
      refine lv_aload_n cx.1 cx.2.1 dX12_laws_210 rfl (lv_at hl 0 rfl) ?_
      obtain ⟨hv33, hr⟩ := of_grd hr
      obtain ⟨k34, hf35, hr⟩ := of_bnd hr
      refine h_getR cx fx dy fd_12_31 hv33 tb_1017 hf35 dX12_laws_211 ?_
      refine lv_iload_n cx.1 cx.2.1 dX12_laws_214 rfl (lv_at hl 1 rfl) ?_
      refine lv_aload_n cx.1 cx.2.1 dX12_laws_215 rfl (lv_at hl 0 rfl) ?_
      obtain ⟨k36, hf37, hr⟩ := of_bnd hr
      refine h_getR cx fx dy fd_12_31 hv33 tb_1017 hf37 dX12_laws_216 ?_
      refine lv_iconst (v := 4) cx.1 cx.2.1 dX12_laws_219 (by decide) ?_
      obtain ⟨ha38, hr⟩ := of_grd hr
      refine h_iald cx fx dy ha38 dX12_laws_220 ?_
      obtain ⟨ha39, hr⟩ := of_grd hr
      obtain ⟨g40, eg40, hr⟩ := of_nm hr
      refine h_iast cx fx dy ha39 dX12_laws_221 (fun H locs dy => ?_)
      replace dy : Dy D cA ad (V, g40) A s.heap H locs := by rw [eg40]; exact dy
      refine lv_iconst (v := 0) cx.1 cx.2.1 dX12_laws_222 (by decide) ?_
      refine lv_istore (lv' := [(4, .int (0 : Int32)), (0, .ref (ad k28)), (1, .int x29), (3, .int x30)]) cx.1 cx.2.1 dX12_laws_223 hl (by decide) rfl (fun ls hl => ?_)
      obtain ⟨z1, hr, ez1⟩ := of_map hr
      obtain ⟨n, hr⟩ := lop_some hr
      exact w_X12_laws_225 cx fx hlocks hret hR r0 g0 z1 (fun rb gb eb => hq0 rb gb (by rw [ez1, eb])) n k28 x29 x30 (0 : Int32) g40 hr H locs ls dy (lv_sub hl [1, 2, 3, 0] rfl)
    · refine lv_icmp_ge (tgt := 210) cx.1 cx.2.1 dX12_laws_179 (by decide) (fun hn => absurd hn hc) (fun _ => ?_)
      refine lv_aload_n cx.1 cx.2.1 dX12_laws_182 rfl (lv_at hl 0 rfl) ?_
      obtain ⟨hv55, hr⟩ := of_grd hr
      obtain ⟨k56, hf57, hr⟩ := of_bnd hr
      refine h_getR cx fx dy fd_12_29 hv55 tb_1015 hf57 dX12_laws_183 ?_
      refine lv_bipush (v := 8) cx.1 cx.2.1 dX12_laws_186 (by decide) ?_
      refine lv_iload_n cx.1 cx.2.1 dX12_laws_188 rfl (lv_at hl 1 rfl) ?_
      refine lv_imul cx.1 cx.2.1 dX12_laws_189 ?_
      refine lv_iload cx.1 cx.2.1 dX12_laws_190 (lv_at hl 3 rfl) ?_
      refine lv_iadd cx.1 cx.2.1 dX12_laws_192 ?_
      refine lv_aload_n cx.1 cx.2.1 dX12_laws_193 rfl (lv_at hl 0 rfl) ?_
      obtain ⟨k58, hf59, hr⟩ := of_bnd hr
      refine h_getR cx fx dy fd_12_29 hv55 tb_1015 hf59 dX12_laws_194 ?_
      refine lv_bipush (v := 32) cx.1 cx.2.1 dX12_laws_197 (by decide) ?_
      refine lv_iload cx.1 cx.2.1 dX12_laws_199 (lv_at hl 3 rfl) ?_
      refine lv_iadd cx.1 cx.2.1 dX12_laws_201 ?_
      obtain ⟨ha60, hr⟩ := of_grd hr
      refine h_iald cx fx dy ha60 dX12_laws_202 ?_
      obtain ⟨ha61, hr⟩ := of_grd hr
      obtain ⟨g62, eg62, hr⟩ := of_nm hr
      refine h_iast cx fx dy ha61 dX12_laws_203 (fun H locs dy => ?_)
      replace dy : Dy D cA ad (V, g62) A s.heap H locs := by rw [eg62]; exact dy
      obtain ⟨x63, ex63, hr⟩ := of_nm hr
      refine lv_iinc (v := x63) (lv' := [(4, .int x63), (0, .ref (ad k28)), (1, .int x29), (3, .int x30)]) cx.1 cx.2.1 dX12_laws_204 hl (k := 3) rfl (by rw [ex63]; rfl) (by decide) rfl (fun ls hl => ?_)
      refine lv_goto (tgt := 175) cx.1 cx.2.1 dX12_laws_207 (by decide) ?_
      exact hh0 k28 x29 x30 x63 g62 (Option.some.inj hr).symm H locs ls dy (lv_sub hl [1, 2, 3, 0] rfl)
noncomputable def r_X12_laws_115 (V : Vk) (k64 : Nat) (x65 : Int32) (x66 : Int32) (x67 : Int32) (x68 : Int32) (g69 : Hq) : Option ((Nat × Int32 × Int32 × Int32 × Hq) ⊕ (Int32 × Hq)) :=
  grd (V k64 = some (12, 0)) <| bnd (r_X12_readLine V k64 x66 g69) fun x71 g70 => brn (x71 = 0) (brn (0 < (g70.1 k64 8)) (some (.inr ((-1 : Int32), g70))) (bnd (r_X12_wrong V k64 (1 : Int32) g70) fun x75 g74 => brn (x75 = 0) (some (.inr ((-1 : Int32), g74))) (some (.inr ((-1 : Int32), g74))))) (brn ((g70.1 k64 3) = (3 : Int32)) (bnd (r_X12_scan V k64 g70) fun u78 g77 => nm (x66 ||| x68) fun x80 => nm (x67 + (1 : Int32)) fun x81 => some (.inl (k64, x65, x80, x81, g77))) (brn (0 < (g70.1 k64 8)) (some (.inr ((-1 : Int32), g70))) (bnd (r_X12_wrong V k64 (1 : Int32) g70) fun x83 g82 => brn (x83 = 0) (some (.inr ((-1 : Int32), g82))) (some (.inr ((-1 : Int32), g82))))))
set_option maxHeartbeats 4000000 in
set_option maxRecDepth 100000 in
theorem w_X12_laws_115 {p : Program} {l : Launch} {e : Env} {R : Room} {s : State} {m : MethodId} {args : Array Value} {below : List Frame} {meth : Method} {c : Code} {D : va_G} {cA : Nat → ClassId} {sk : (Nat → Nat) × (Nat → Nat)} {ad : Nat → Nat} {A : Nat → Prop} {V : Vk} (cx : CallFix p m c cX12_laws 6 s args gw_tbl RX12) (fx : Fx D cA sk A s) (hlocks : meth.locks = false) (hret : meth.sig.returnType = (some .int)) (hR : 9 ≤ R.frames ∧ 199 ≤ R.locals) (r0 : Int32) (g0 : Hq) (z : ((Nat × Int32 × Int32 × Int32 × Hq) ⊕ (Int32 × Hq))) (hk0 : ∀ (b0 : Nat) (b1 : Int32) (b2 : Int32) (b3 : Int32) (gb : Hq), z = (.inl (b0, b1, b2, b3, gb)) → ∀ (H : Heap) (locs : List Loc) (ls : Array Slot), Dy D cA ad (V, gb) A s.heap H locs → lv_has ls 6 [(0, .ref (ad b0)), (1, .int b1), (2, .int b2), (3, .int b3)] → W p l e R s m args below meth c H locs 0 0 (MQ below (QI D cA ad A r0 (V, g0)) args s 0 0 A) (F0 m 80 ls [])) (hq : ∀ (rb : Int32) (gb : Hq), z = (.inr (rb, gb)) → rb = r0 ∧ gb = g0) (k64 : Nat) (x65 : Int32) (x66 : Int32) (x67 : Int32) (x68 : Int32) (g69 : Hq) (hr : r_X12_laws_115 V k64 x65 x66 x67 x68 g69 = some z) (H : Heap) (locs : List Loc) (ls : Array Slot) (dy : Dy D cA ad (V, g69) A s.heap H locs) (hl : lv_has ls 6 [(0, .ref (ad k64)), (1, .int x65), (2, .int x66), (3, .int x67)]) : W p l e R s m args below meth c H locs 0 0 (MQ below (QI D cA ad A r0 (V, g0)) args s 0 0 A) (F0 m 115 ls [.int x68]) := by
  unfold r_X12_laws_115 at hr
  have hh0 := hk0
  have hq0 := hq
  refine lv_istore (lv' := [(4, .int x68), (0, .ref (ad k64)), (1, .int x65), (2, .int x66), (3, .int x67)]) cx.1 cx.2.1 dX12_laws_115 hl (by decide) rfl (fun ls hl => ?_)
  refine lv_aload_n cx.1 cx.2.1 dX12_laws_117 rfl (lv_at hl 1 rfl) ?_
  refine lv_iload_n cx.1 cx.2.1 dX12_laws_118 rfl (lv_at hl 3 rfl) ?_
  obtain ⟨hv72, hr⟩ := of_grd hr
  obtain ⟨x71, g70, hc73, hr⟩ := of_bnd2 hr
  refine r_i dy (k_V (As := [.int x66]) (b := k64) (ci := 12) cx fx dy (c_X12_readLine hc73) mv_X12_readLine rfl rfl ⟨Nat.le_trans (by decide) hR.1, Nat.le_trans (by decide) hR.2⟩ tb_1236 hv72 rfl (by decide) rfl hl.1 rfl (Nat.le_of_ble_eq_true rfl) ⟨Nat.zero_le _, Nat.zero_le _⟩ dX12_laws_119) (fun H locs dy => ?_)
  rcases of_brn hr with ⟨hc, hr⟩ | ⟨hc, hr⟩
  · refine lv_if_eq (tgt := 133) cx.1 cx.2.1 dX12_laws_122 (by decide) (fun _ => ?_) (fun hn => absurd hc hn)
    refine lv_aload_n cx.1 cx.2.1 dX12_laws_133 rfl (lv_at hl 1 rfl) ?_
    refine h_getI cx fx dy fd_12_8 hv72 tb_994 dX12_laws_134 ?_
    rcases of_brn hr with ⟨hc, hr⟩ | ⟨hc, hr⟩
    · refine lv_if_gt (tgt := 148) cx.1 cx.2.1 dX12_laws_137 (by decide) (fun _ => ?_) (fun hn => absurd hc hn)
      refine lv_iconst (v := 1) cx.1 cx.2.1 dX12_laws_148 (by decide) ?_
      refine lv_goto (tgt := 153) cx.1 cx.2.1 dX12_laws_149 (by decide) ?_
      refine lv_istore (lv' := [(5, .int (1 : Int32)), (4, .int x68), (0, .ref (ad k64)), (1, .int x65), (2, .int x66), (3, .int x67)]) cx.1 cx.2.1 dX12_laws_153 hl (by decide) rfl (fun ls hl => ?_)
      refine lv_iconst (v := (-1)) cx.1 cx.2.1 dX12_laws_155 (by decide) ?_
      obtain ⟨e0, e1⟩ := hq0 _ _ (Option.some.inj hr).symm
      exact h_iret cx dy hlocks hret rfl e0 (by rw [e1]) dX12_laws_156
    · refine lv_if_gt (tgt := 148) cx.1 cx.2.1 dX12_laws_137 (by decide) (fun hn => absurd hn hc) (fun _ => ?_)
      refine lv_aload_n cx.1 cx.2.1 dX12_laws_140 rfl (lv_at hl 1 rfl) ?_
      refine lv_iconst (v := 1) cx.1 cx.2.1 dX12_laws_141 (by decide) ?_
      obtain ⟨x75, g74, hc76, hr⟩ := of_bnd2 hr
      refine r_i dy (k_V (As := [.int (1 : Int32)]) (b := k64) (ci := 12) cx fx dy (c_X12_wrong hc76) mv_X12_wrong rfl rfl ⟨Nat.le_trans (by decide) hR.1, Nat.le_trans (by decide) hR.2⟩ tb_1240 hv72 rfl (by decide) rfl hl.1 rfl (Nat.le_of_ble_eq_true rfl) ⟨Nat.zero_le _, Nat.zero_le _⟩ dX12_laws_142) (fun H locs dy => ?_)
      rcases of_brn hr with ⟨hc, hr⟩ | ⟨hc, hr⟩
      · refine lv_if_eq (tgt := 152) cx.1 cx.2.1 dX12_laws_145 (by decide) (fun _ => ?_) (fun hn => absurd hc hn)
        refine lv_iconst (v := 0) cx.1 cx.2.1 dX12_laws_152 (by decide) ?_
        refine lv_istore (lv' := [(5, .int (0 : Int32)), (4, .int x68), (0, .ref (ad k64)), (1, .int x65), (2, .int x66), (3, .int x67)]) cx.1 cx.2.1 dX12_laws_153 hl (by decide) rfl (fun ls hl => ?_)
        refine lv_iconst (v := (-1)) cx.1 cx.2.1 dX12_laws_155 (by decide) ?_
        obtain ⟨e0, e1⟩ := hq0 _ _ (Option.some.inj hr).symm
        exact h_iret cx dy hlocks hret rfl e0 (by rw [e1]) dX12_laws_156
      · refine lv_if_eq (tgt := 152) cx.1 cx.2.1 dX12_laws_145 (by decide) (fun hn => absurd hn hc) (fun _ => ?_)
        refine lv_iconst (v := 1) cx.1 cx.2.1 dX12_laws_148 (by decide) ?_
        refine lv_goto (tgt := 153) cx.1 cx.2.1 dX12_laws_149 (by decide) ?_
        refine lv_istore (lv' := [(5, .int (1 : Int32)), (4, .int x68), (0, .ref (ad k64)), (1, .int x65), (2, .int x66), (3, .int x67)]) cx.1 cx.2.1 dX12_laws_153 hl (by decide) rfl (fun ls hl => ?_)
        refine lv_iconst (v := (-1)) cx.1 cx.2.1 dX12_laws_155 (by decide) ?_
        obtain ⟨e0, e1⟩ := hq0 _ _ (Option.some.inj hr).symm
        exact h_iret cx dy hlocks hret rfl e0 (by rw [e1]) dX12_laws_156
  · refine lv_if_eq (tgt := 133) cx.1 cx.2.1 dX12_laws_122 (by decide) (fun hn => absurd hn hc) (fun _ => ?_)
    refine lv_aload_n cx.1 cx.2.1 dX12_laws_125 rfl (lv_at hl 1 rfl) ?_
    refine h_getI cx fx dy fd_12_3 hv72 tb_989 dX12_laws_126 ?_
    refine lv_iconst (v := 3) cx.1 cx.2.1 dX12_laws_129 (by decide) ?_
    rcases of_brn hr with ⟨hc, hr⟩ | ⟨hc, hr⟩
    · refine lv_icmp_eq (tgt := 157) cx.1 cx.2.1 dX12_laws_130 (by decide) (fun _ => ?_) (fun hn => absurd hc hn)
      refine lv_aload_n cx.1 cx.2.1 dX12_laws_157 rfl (lv_at hl 1 rfl) ?_
      obtain ⟨u78, g77, hc79, hr⟩ := of_bnd2 hr
      refine r_v dy (k_V (As := []) (b := k64) (ci := 12) cx fx dy (c_X12_scan hc79) mv_X12_scan rfl rfl ⟨Nat.le_trans (by decide) hR.1, Nat.le_trans (by decide) hR.2⟩ tb_1215 hv72 rfl (by decide) rfl hl.1 rfl (Nat.le_of_ble_eq_true rfl) ⟨Nat.zero_le _, Nat.zero_le _⟩ dX12_laws_158) (fun H locs dy => ?_)
      refine lv_iload_n cx.1 cx.2.1 dX12_laws_161 rfl (lv_at hl 3 rfl) ?_
      refine lv_iload cx.1 cx.2.1 dX12_laws_162 (lv_at hl 0 rfl) ?_
      refine lv_ior cx.1 cx.2.1 dX12_laws_164 ?_
      obtain ⟨x80, ex80, hr⟩ := of_nm hr
      refine lv_nmi ex80 ?_
      refine lv_istore_n (lv' := [(2, .int x80), (4, .int x68), (0, .ref (ad k64)), (1, .int x65), (3, .int x67)]) cx.1 cx.2.1 dX12_laws_165 rfl hl (by decide) rfl (fun ls hl => ?_)
      obtain ⟨x81, ex81, hr⟩ := of_nm hr
      refine lv_iinc (v := x81) (lv' := [(3, .int x81), (2, .int x80), (4, .int x68), (0, .ref (ad k64)), (1, .int x65)]) cx.1 cx.2.1 dX12_laws_166 hl (k := 4) rfl (by rw [ex81]; rfl) (by decide) rfl (fun ls hl => ?_)
      refine lv_goto (tgt := 80) cx.1 cx.2.1 dX12_laws_169 (by decide) ?_
      exact hh0 k64 x65 x80 x81 g77 (Option.some.inj hr).symm H locs ls dy (lv_sub hl [3, 4, 1, 0] rfl)
    · refine lv_icmp_eq (tgt := 157) cx.1 cx.2.1 dX12_laws_130 (by decide) (fun hn => absurd hn hc) (fun _ => ?_)
      refine lv_aload_n cx.1 cx.2.1 dX12_laws_133 rfl (lv_at hl 1 rfl) ?_
      refine h_getI cx fx dy fd_12_8 hv72 tb_994 dX12_laws_134 ?_
      rcases of_brn hr with ⟨hc, hr⟩ | ⟨hc, hr⟩
      · refine lv_if_gt (tgt := 148) cx.1 cx.2.1 dX12_laws_137 (by decide) (fun _ => ?_) (fun hn => absurd hc hn)
        refine lv_iconst (v := 1) cx.1 cx.2.1 dX12_laws_148 (by decide) ?_
        refine lv_goto (tgt := 153) cx.1 cx.2.1 dX12_laws_149 (by decide) ?_
        refine lv_istore (lv' := [(5, .int (1 : Int32)), (4, .int x68), (0, .ref (ad k64)), (1, .int x65), (2, .int x66), (3, .int x67)]) cx.1 cx.2.1 dX12_laws_153 hl (by decide) rfl (fun ls hl => ?_)
        refine lv_iconst (v := (-1)) cx.1 cx.2.1 dX12_laws_155 (by decide) ?_
        obtain ⟨e0, e1⟩ := hq0 _ _ (Option.some.inj hr).symm
        exact h_iret cx dy hlocks hret rfl e0 (by rw [e1]) dX12_laws_156
      · refine lv_if_gt (tgt := 148) cx.1 cx.2.1 dX12_laws_137 (by decide) (fun hn => absurd hn hc) (fun _ => ?_)
        refine lv_aload_n cx.1 cx.2.1 dX12_laws_140 rfl (lv_at hl 1 rfl) ?_
        refine lv_iconst (v := 1) cx.1 cx.2.1 dX12_laws_141 (by decide) ?_
        obtain ⟨x83, g82, hc84, hr⟩ := of_bnd2 hr
        refine r_i dy (k_V (As := [.int (1 : Int32)]) (b := k64) (ci := 12) cx fx dy (c_X12_wrong hc84) mv_X12_wrong rfl rfl ⟨Nat.le_trans (by decide) hR.1, Nat.le_trans (by decide) hR.2⟩ tb_1240 hv72 rfl (by decide) rfl hl.1 rfl (Nat.le_of_ble_eq_true rfl) ⟨Nat.zero_le _, Nat.zero_le _⟩ dX12_laws_142) (fun H locs dy => ?_)
        rcases of_brn hr with ⟨hc, hr⟩ | ⟨hc, hr⟩
        · refine lv_if_eq (tgt := 152) cx.1 cx.2.1 dX12_laws_145 (by decide) (fun _ => ?_) (fun hn => absurd hc hn)
          refine lv_iconst (v := 0) cx.1 cx.2.1 dX12_laws_152 (by decide) ?_
          refine lv_istore (lv' := [(5, .int (0 : Int32)), (4, .int x68), (0, .ref (ad k64)), (1, .int x65), (2, .int x66), (3, .int x67)]) cx.1 cx.2.1 dX12_laws_153 hl (by decide) rfl (fun ls hl => ?_)
          refine lv_iconst (v := (-1)) cx.1 cx.2.1 dX12_laws_155 (by decide) ?_
          obtain ⟨e0, e1⟩ := hq0 _ _ (Option.some.inj hr).symm
          exact h_iret cx dy hlocks hret rfl e0 (by rw [e1]) dX12_laws_156
        · refine lv_if_eq (tgt := 152) cx.1 cx.2.1 dX12_laws_145 (by decide) (fun hn => absurd hn hc) (fun _ => ?_)
          refine lv_iconst (v := 1) cx.1 cx.2.1 dX12_laws_148 (by decide) ?_
          refine lv_goto (tgt := 153) cx.1 cx.2.1 dX12_laws_149 (by decide) ?_
          refine lv_istore (lv' := [(5, .int (1 : Int32)), (4, .int x68), (0, .ref (ad k64)), (1, .int x65), (2, .int x66), (3, .int x67)]) cx.1 cx.2.1 dX12_laws_153 hl (by decide) rfl (fun ls hl => ?_)
          refine lv_iconst (v := (-1)) cx.1 cx.2.1 dX12_laws_155 (by decide) ?_
          obtain ⟨e0, e1⟩ := hq0 _ _ (Option.some.inj hr).symm
          exact h_iret cx dy hlocks hret rfl e0 (by rw [e1]) dX12_laws_156
noncomputable def r_X12_laws_80' (V : Vk) (k22 : Nat) (x23 : Int32) (x24 : Int32) (x25 : Int32) (g26 : Hq) : Option ((Nat × Int32 × Int32 × Int32 × Hq) ⊕ (Int32 × Hq)) :=
  grd (V k22 = some (12, 0)) <| brn ((g26.1 k22 3) = (4 : Int32)) ((Option.map Sum.inr (lop (r_X12_laws_175 V) (k22, x23, x25, (0 : Int32), g26)))) (brn ((g26.1 k22 3) = (1 : Int32)) (brn ((6 : Int32) < (g26.1 k22 4)) ((r_X12_laws_115 V k22 x23 x24 x25 (0 : Int32) g26)) ((r_X12_laws_115 V k22 x23 x24 x25 ((1 : Int32) <<< ((g26.1 k22 4) &&& 31)) g26))) ((r_X12_laws_115 V k22 x23 x24 x25 (0 : Int32) g26)))
noncomputable def r_X12_laws_80 (V : Vk) (st : (Nat × Int32 × Int32 × Int32 × Hq)) : Option ((Nat × Int32 × Int32 × Int32 × Hq) ⊕ (Int32 × Hq)) := r_X12_laws_80' V st.1 st.2.1 st.2.2.1 st.2.2.2.1 st.2.2.2.2
set_option maxHeartbeats 4000000 in
set_option maxRecDepth 100000 in
theorem w_X12_laws_80 {p : Program} {l : Launch} {e : Env} {R : Room} {s : State} {m : MethodId} {args : Array Value} {below : List Frame} {meth : Method} {c : Code} {D : va_G} {cA : Nat → ClassId} {sk : (Nat → Nat) × (Nat → Nat)} {ad : Nat → Nat} {A : Nat → Prop} {V : Vk} (cx : CallFix p m c cX12_laws 6 s args gw_tbl RX12) (fx : Fx D cA sk A s) (hlocks : meth.locks = false) (hret : meth.sig.returnType = (some .int)) (hR : 9 ≤ R.frames ∧ 199 ≤ R.locals) (r0 : Int32) (g0 : Hq) (y : (Int32 × Hq)) (hq : ∀ (rb : Int32) (gb : Hq), y = (rb, gb) → rb = r0 ∧ gb = g0) : ∀ (n : Nat) (k22 : Nat) (x23 : Int32) (x24 : Int32) (x25 : Int32) (g26 : Hq), itr (r_X12_laws_80 V) n (k22, x23, x24, x25, g26) = some y → ∀ (H : Heap) (locs : List Loc) (ls : Array Slot), Dy D cA ad (V, g26) A s.heap H locs → lv_has ls 6 [(0, .ref (ad k22)), (1, .int x23), (2, .int x24), (3, .int x25)] → W p l e R s m args below meth c H locs 0 0 (MQ below (QI D cA ad A r0 (V, g0)) args s 0 0 A) (F0 m 80 ls []) := by
  intro n
  induction n with
  | zero => intro k22 x23 x24 x25 g26 hr; cases hr
  | succ n ih =>
    intro k22 x23 x24 x25 g26 hr H locs ls dy hl
    obtain ⟨z, hz, hn1, hn2⟩ := itr_succ hr
    clear hr
    have hr : r_X12_laws_80' V k22 x23 x24 x25 g26 = some z := hz
    clear hz
    unfold r_X12_laws_80' at hr
    have hh0 : ∀ (b0 : Nat) (b1 : Int32) (b2 : Int32) (b3 : Int32) (gb : Hq), z = .inl (b0, b1, b2, b3, gb) → ∀ (H : Heap) (locs : List Loc) (ls : Array Slot), Dy D cA ad (V, gb) A s.heap H locs → lv_has ls 6 [(0, .ref (ad b0)), (1, .int b1), (2, .int b2), (3, .int b3)] → W p l e R s m args below meth c H locs 0 0 (MQ below (QI D cA ad A r0 (V, g0)) args s 0 0 A) (F0 m 80 ls []) := fun b0 b1 b2 b3 gb eb => ih b0 b1 b2 b3 gb (hn1 _ eb)
    have hq0 : ∀ (rb : Int32) (gb : Hq), z = (.inr (rb, gb)) → rb = r0 ∧ gb = g0 := fun rb gb eb => hq rb gb (hn2 _ eb).symm
    refine lv_aload_n cx.1 cx.2.1 dX12_laws_80 rfl (lv_at hl 0 rfl) ?_
    obtain ⟨hv27, hr⟩ := of_grd hr
    refine h_getI cx fx dy fd_12_3 hv27 tb_989 dX12_laws_81 ?_
    refine lv_iconst (v := 4) cx.1 cx.2.1 dX12_laws_84 (by decide) ?_
    rcases of_brn hr with ⟨hc, hr⟩ | ⟨hc, hr⟩
    · refine lv_icmp_eq (tgt := 172) cx.1 cx.2.1 dX12_laws_85 (by decide) (fun _ => ?_) (fun hn => absurd hc hn)
      refine lv_iconst (v := 0) cx.1 cx.2.1 dX12_laws_172 (by decide) ?_
      refine lv_istore (lv' := [(4, .int (0 : Int32)), (0, .ref (ad k22)), (1, .int x23), (2, .int x24), (3, .int x25)]) cx.1 cx.2.1 dX12_laws_173 hl (by decide) rfl (fun ls hl => ?_)
      obtain ⟨z1, hr, ez1⟩ := of_map hr
      obtain ⟨n, hr⟩ := lop_some hr
      exact w_X12_laws_175 cx fx hlocks hret hR r0 g0 z1 (fun rb gb eb => hq0 rb gb (by rw [ez1, eb])) n k22 x23 x25 (0 : Int32) g26 hr H locs ls dy (lv_sub hl [1, 2, 4, 0] rfl)
    · refine lv_icmp_eq (tgt := 172) cx.1 cx.2.1 dX12_laws_85 (by decide) (fun hn => absurd hn hc) (fun _ => ?_)
      refine lv_aload_n cx.1 cx.2.1 dX12_laws_88 rfl (lv_at hl 0 rfl) ?_
      refine h_getI cx fx dy fd_12_3 hv27 tb_989 dX12_laws_89 ?_
      refine lv_iconst (v := 1) cx.1 cx.2.1 dX12_laws_92 (by decide) ?_
      rcases of_brn hr with ⟨hc, hr⟩ | ⟨hc, hr⟩
      · refine lv_icmp_ne (tgt := 114) cx.1 cx.2.1 dX12_laws_93 (by decide) (fun hn => absurd hc hn) (fun _ => ?_)
        refine lv_aload_n cx.1 cx.2.1 dX12_laws_96 rfl (lv_at hl 0 rfl) ?_
        refine h_getI cx fx dy fd_12_4 hv27 tb_990 dX12_laws_97 ?_
        refine lv_bipush (v := 6) cx.1 cx.2.1 dX12_laws_100 (by decide) ?_
        rcases of_brn hr with ⟨hc, hr⟩ | ⟨hc, hr⟩
        · refine lv_icmp_gt (tgt := 114) cx.1 cx.2.1 dX12_laws_102 (by decide) (fun _ => ?_) (fun hn => absurd hc hn)
          refine lv_iconst (v := 0) cx.1 cx.2.1 dX12_laws_114 (by decide) ?_
          exact w_X12_laws_115 cx fx hlocks hret hR r0 g0 z hh0 hq0 k22 x23 x24 x25 (0 : Int32) g26 hr H locs ls dy (lv_sub hl [0, 1, 2, 3] rfl)
        · refine lv_icmp_gt (tgt := 114) cx.1 cx.2.1 dX12_laws_102 (by decide) (fun hn => absurd hn hc) (fun _ => ?_)
          refine lv_iconst (v := 1) cx.1 cx.2.1 dX12_laws_105 (by decide) ?_
          refine lv_aload_n cx.1 cx.2.1 dX12_laws_106 rfl (lv_at hl 0 rfl) ?_
          refine h_getI cx fx dy fd_12_4 hv27 tb_990 dX12_laws_107 ?_
          refine lv_ishl cx.1 cx.2.1 dX12_laws_110 ?_
          refine lv_goto (tgt := 115) cx.1 cx.2.1 dX12_laws_111 (by decide) ?_
          exact w_X12_laws_115 cx fx hlocks hret hR r0 g0 z hh0 hq0 k22 x23 x24 x25 ((1 : Int32) <<< ((g26.1 k22 4) &&& 31)) g26 hr H locs ls dy (lv_sub hl [0, 1, 2, 3] rfl)
      · refine lv_icmp_ne (tgt := 114) cx.1 cx.2.1 dX12_laws_93 (by decide) (fun _ => ?_) (fun hn => absurd hn hc)
        refine lv_iconst (v := 0) cx.1 cx.2.1 dX12_laws_114 (by decide) ?_
        exact w_X12_laws_115 cx fx hlocks hret hR r0 g0 z hh0 hq0 k22 x23 x24 x25 (0 : Int32) g26 hr H locs ls dy (lv_sub hl [0, 1, 2, 3] rfl)
noncomputable def r_X12_laws_35' (V : Vk) (k9 : Nat) (x10 : Int32) (x11 : Int32) (g12 : Hq) : Option ((Nat × Int32 × Int32 × Hq) ⊕ (Int32 × Hq)) :=
  brn ((8 : Int32) ≤ x11) (grd (V k9 = some (12, 0)) <| Option.bind (g12.2.2 k9 31) fun k14 => grd (okV V k14 0 (4 : Int32)) <| nm (sI g12 k14 (4 : Int32).toNatClampNeg (0 : Int32)) fun g17 => nm (sI g17 k9 6 (0 : Int32)) fun g18 => bnd (r_X12_scan V k9 g18) fun u20 g19 => (Option.map Sum.inr (lop (r_X12_laws_80 V) (k9, x10, (0 : Int32), (0 : Int32), g19)))) (grd (V k9 = some (12, 0)) <| Option.bind (g12.2.2 k9 29) fun k86 => bnd (r_X12_plain V x11 g12) fun x89 g88 => grd (okV V k86 0 ((32 : Int32) + x11)) <| nm (sI g88 k86 ((32 : Int32) + x11).toNatClampNeg x89) fun g92 => nm (x11 + (1 : Int32)) fun x93 => some (.inl (k9, x10, x93, g92)))
noncomputable def r_X12_laws_35 (V : Vk) (st : (Nat × Int32 × Int32 × Hq)) : Option ((Nat × Int32 × Int32 × Hq) ⊕ (Int32 × Hq)) := r_X12_laws_35' V st.1 st.2.1 st.2.2.1 st.2.2.2
set_option maxHeartbeats 4000000 in
set_option maxRecDepth 100000 in
theorem w_X12_laws_35 {p : Program} {l : Launch} {e : Env} {R : Room} {s : State} {m : MethodId} {args : Array Value} {below : List Frame} {meth : Method} {c : Code} {D : va_G} {cA : Nat → ClassId} {sk : (Nat → Nat) × (Nat → Nat)} {ad : Nat → Nat} {A : Nat → Prop} {V : Vk} (cx : CallFix p m c cX12_laws 6 s args gw_tbl RX12) (fx : Fx D cA sk A s) (hlocks : meth.locks = false) (hret : meth.sig.returnType = (some .int)) (hR : 9 ≤ R.frames ∧ 199 ≤ R.locals) (r0 : Int32) (g0 : Hq) (y : (Int32 × Hq)) (hq : ∀ (rb : Int32) (gb : Hq), y = (rb, gb) → rb = r0 ∧ gb = g0) : ∀ (n : Nat) (k9 : Nat) (x10 : Int32) (x11 : Int32) (g12 : Hq), itr (r_X12_laws_35 V) n (k9, x10, x11, g12) = some y → ∀ (H : Heap) (locs : List Loc) (ls : Array Slot), Dy D cA ad (V, g12) A s.heap H locs → lv_has ls 6 [(0, .ref (ad k9)), (1, .int x10), (2, .int x11)] → W p l e R s m args below meth c H locs 0 0 (MQ below (QI D cA ad A r0 (V, g0)) args s 0 0 A) (F0 m 35 ls []) := by
  intro n
  induction n with
  | zero => intro k9 x10 x11 g12 hr; cases hr
  | succ n ih =>
    intro k9 x10 x11 g12 hr H locs ls dy hl
    obtain ⟨z, hz, hn1, hn2⟩ := itr_succ hr
    clear hr
    have hr : r_X12_laws_35' V k9 x10 x11 g12 = some z := hz
    clear hz
    unfold r_X12_laws_35' at hr
    have hh0 : ∀ (b0 : Nat) (b1 : Int32) (b2 : Int32) (gb : Hq), z = .inl (b0, b1, b2, gb) → ∀ (H : Heap) (locs : List Loc) (ls : Array Slot), Dy D cA ad (V, gb) A s.heap H locs → lv_has ls 6 [(0, .ref (ad b0)), (1, .int b1), (2, .int b2)] → W p l e R s m args below meth c H locs 0 0 (MQ below (QI D cA ad A r0 (V, g0)) args s 0 0 A) (F0 m 35 ls []) := fun b0 b1 b2 gb eb => ih b0 b1 b2 gb (hn1 _ eb)
    have hq0 : ∀ (rb : Int32) (gb : Hq), z = (.inr (rb, gb)) → rb = r0 ∧ gb = g0 := fun rb gb eb => hq rb gb (hn2 _ eb).symm
    refine lv_iload_n cx.1 cx.2.1 dX12_laws_35 rfl (lv_at hl 2 rfl) ?_
    refine lv_bipush (v := 8) cx.1 cx.2.1 dX12_laws_36 (by decide) ?_
    rcases of_brn hr with ⟨hc, hr⟩ | ⟨hc, hr⟩
    · refine lv_icmp_ge (tgt := 60) cx.1 cx.2.1 dX12_laws_38 (by decide) (fun _ => ?_) (fun hn => absurd hc hn)
      refine lv_aload_n cx.1 cx.2.1 dX12_laws_60 rfl (lv_at hl 0 rfl) ?_
      obtain ⟨hv13, hr⟩ := of_grd hr
      obtain ⟨k14, hf15, hr⟩ := of_bnd hr
      refine h_getR cx fx dy fd_12_31 hv13 tb_1017 hf15 dX12_laws_61 ?_
      refine lv_iconst (v := 4) cx.1 cx.2.1 dX12_laws_64 (by decide) ?_
      refine lv_iconst (v := 0) cx.1 cx.2.1 dX12_laws_65 (by decide) ?_
      obtain ⟨ha16, hr⟩ := of_grd hr
      obtain ⟨g17, eg17, hr⟩ := of_nm hr
      refine h_iast cx fx dy ha16 dX12_laws_66 (fun H locs dy => ?_)
      replace dy : Dy D cA ad (V, g17) A s.heap H locs := by rw [eg17]; exact dy
      refine lv_aload_n cx.1 cx.2.1 dX12_laws_67 rfl (lv_at hl 0 rfl) ?_
      refine lv_iconst (v := 0) cx.1 cx.2.1 dX12_laws_68 (by decide) ?_
      obtain ⟨g18, eg18, hr⟩ := of_nm hr
      refine h_putI cx fx dy fd_12_6 (pd_12_6 : PD _ _ _ _ _ .int) rfl rfl rfl hv13 tb_992 dX12_laws_69 (fun H locs dy => ?_)
      replace dy : Dy D cA ad (V, g18) A s.heap H locs := by rw [eg18]; exact dy
      refine lv_aload_n cx.1 cx.2.1 dX12_laws_72 rfl (lv_at hl 0 rfl) ?_
      obtain ⟨u20, g19, hc21, hr⟩ := of_bnd2 hr
      refine r_v dy (k_V (As := []) (b := k9) (ci := 12) cx fx dy (c_X12_scan hc21) mv_X12_scan rfl rfl ⟨Nat.le_trans (by decide) hR.1, Nat.le_trans (by decide) hR.2⟩ tb_1215 hv13 rfl (by decide) rfl hl.1 rfl (Nat.le_of_ble_eq_true rfl) ⟨Nat.zero_le _, Nat.zero_le _⟩ dX12_laws_73) (fun H locs dy => ?_)
      refine lv_iconst (v := 0) cx.1 cx.2.1 dX12_laws_76 (by decide) ?_
      refine lv_istore_n (lv' := [(2, .int (0 : Int32)), (0, .ref (ad k9)), (1, .int x10)]) cx.1 cx.2.1 dX12_laws_77 rfl hl (by decide) rfl (fun ls hl => ?_)
      refine lv_iconst (v := 0) cx.1 cx.2.1 dX12_laws_78 (by decide) ?_
      refine lv_istore_n (lv' := [(3, .int (0 : Int32)), (2, .int (0 : Int32)), (0, .ref (ad k9)), (1, .int x10)]) cx.1 cx.2.1 dX12_laws_79 rfl hl (by decide) rfl (fun ls hl => ?_)
      obtain ⟨z1, hr, ez1⟩ := of_map hr
      obtain ⟨n, hr⟩ := lop_some hr
      exact w_X12_laws_80 cx fx hlocks hret hR r0 g0 z1 (fun rb gb eb => hq0 rb gb (by rw [ez1, eb])) n k9 x10 (0 : Int32) (0 : Int32) g19 hr H locs ls dy (lv_sub hl [2, 3, 1, 0] rfl)
    · refine lv_icmp_ge (tgt := 60) cx.1 cx.2.1 dX12_laws_38 (by decide) (fun hn => absurd hn hc) (fun _ => ?_)
      refine lv_aload_n cx.1 cx.2.1 dX12_laws_41 rfl (lv_at hl 0 rfl) ?_
      obtain ⟨hv85, hr⟩ := of_grd hr
      obtain ⟨k86, hf87, hr⟩ := of_bnd hr
      refine h_getR cx fx dy fd_12_29 hv85 tb_1015 hf87 dX12_laws_42 ?_
      refine lv_bipush (v := 32) cx.1 cx.2.1 dX12_laws_45 (by decide) ?_
      refine lv_iload_n cx.1 cx.2.1 dX12_laws_47 rfl (lv_at hl 2 rfl) ?_
      refine lv_iadd cx.1 cx.2.1 dX12_laws_48 ?_
      refine lv_iload_n cx.1 cx.2.1 dX12_laws_49 rfl (lv_at hl 2 rfl) ?_
      obtain ⟨x89, g88, hc90, hr⟩ := of_bnd2 hr
      refine r_i dy (k_S (As := [.int x11]) cx fx dy (c_X12_plain hc90) mv_X12_plain rfl rfl ⟨Nat.le_trans (by decide) hR.1, Nat.le_trans (by decide) hR.2⟩ tb_978 rfl hl.1 rfl (Nat.le_of_ble_eq_true rfl) ⟨Nat.zero_le _, Nat.zero_le _⟩ dX12_laws_50) (fun H locs dy => ?_)
      obtain ⟨ha91, hr⟩ := of_grd hr
      obtain ⟨g92, eg92, hr⟩ := of_nm hr
      refine h_iast cx fx dy ha91 dX12_laws_53 (fun H locs dy => ?_)
      replace dy : Dy D cA ad (V, g92) A s.heap H locs := by rw [eg92]; exact dy
      obtain ⟨x93, ex93, hr⟩ := of_nm hr
      refine lv_iinc (v := x93) (lv' := [(2, .int x93), (0, .ref (ad k9)), (1, .int x10)]) cx.1 cx.2.1 dX12_laws_54 hl (k := 2) rfl (by rw [ex93]; rfl) (by decide) rfl (fun ls hl => ?_)
      refine lv_goto (tgt := 35) cx.1 cx.2.1 dX12_laws_57 (by decide) ?_
      exact hh0 k9 x10 x93 g92 (Option.some.inj hr).symm H locs ls dy (lv_sub hl [1, 2, 0] rfl)
noncomputable def r_X12_laws (V : Vk) (k0 : Nat) (a1 : Int32) (g : Hq) : Option (Int32 × Hq) :=
  grd (V k0 = some (12, 0)) <| nm (sI g k0 2 (g.1 k0 1)) fun g2 => nm (sI g2 k0 1 (0 : Int32)) fun g3 => bnd (r_X12_isWard V a1 g3) fun x5 g4 => brn (x5 = 0) (some ((-2 : Int32), g4)) (nm (sI g4 k0 8 (0 : Int32)) fun g7 => nm (sI g7 k0 9 (-1 : Int32)) fun g8 => (lop (r_X12_laws_35 V) (k0, a1, (0 : Int32), g8)))
set_option maxHeartbeats 4000000 in
set_option maxRecDepth 100000 in
theorem c_X12_laws {l : Launch} {D : va_G} {cA : Nat → ClassId} {sk : (Nat → Nat) × (Nat → Nat)} {ad : Nat → Nat} {A : Nat → Prop} {V : Vk} {k0 : Nat} {a1 : Int32} {g g0 : Hq} {r0 : Int32} (hr : r_X12_laws V k0 a1 g = some (r0, g0)) : Met l yX12_laws (wM yX12_laws cX12_laws 6 (some .int)) { frames := 9, cells := 0, slots := 0, locals := 199 } (Pre D cA sk ad (V, g) A [.ref (ad k0), .int a1]) (QI D cA ad A r0 (V, g0)) 0 0 A := by
  refine Met.ofW (cc := cX12_laws) (maxL := 6) (ret := (some .int)) (by decide) rfl ?_
  intro p e s m args below meth c s₁ B hml hv
  obtain ⟨rfl, fx, w0⟩ := hv
  have hts := atoms_spec (ws := wM yX12_laws cX12_laws 6 (some .int)) B.pre
  have cx : CallFix p m c cX12_laws 6 s ([.ref (ad k0), .int a1] : List Value).toArray gw_tbl RX12 := ⟨B.exec, B.bytes, hml, findClass_of_methodNamed B.named, fun w hw => hts w (List.mem_cons_of_mem _ hw)⟩
  have hlocks := B.notSynchronized
  have hret := B.returns
  have hR : 9 ≤ (headSpec (wM yX12_laws cX12_laws 6 (some .int)) { frames := 9, cells := 0, slots := 0, locals := 199 }).room.frames ∧ 199 ≤ (headSpec (wM yX12_laws cX12_laws 6 (some .int)) { frames := 9, cells := 0, slots := 0, locals := 199 }).room.locals := ⟨Nat.le_refl _, Nat.le_refl _⟩
  have dy : Dy D cA ad (V, g) A s.heap s.heap [] := ⟨w0, va_S.rf⟩
  have hl := lv_entry [.ref (ad k0), .int a1] (n := 6) (Nat.le_of_ble_eq_true rfl)
  rw [lg_entry_eq]
  generalize (lg_sl [.ref (ad k0), .int a1] ++ List.replicate (6 - (lg_sl [.ref (ad k0), .int a1]).length) Slot.unset).toArray = ls at hl ⊢
  have hl : lv_has ls 6 [(0, .ref (ad k0)), (1, .int a1)] := hl
  have dy0 : ∃ H0, H0 = s.heap ∧ Dy D cA ad (V, g) A s.heap H0 [] := ⟨_, rfl, dy⟩
  obtain ⟨z, ez⟩ : ∃ z, z = (r0, g0) := ⟨_, rfl⟩
  rw [← ez] at hr
  have hq0 : ∀ (rb : Int32) (gb : Hq), z = (rb, gb) → rb = r0 ∧ gb = g0 := fun rb gb eb => by rw [ez] at eb; exact ⟨(congrArg Prod.fst eb).symm, (congrArg Prod.snd eb).symm⟩
  clear ez w0 dy0
  unfold r_X12_laws at hr
  obtain ⟨H, hH⟩ : ∃ H, H = s.heap := ⟨_, rfl⟩
  obtain ⟨locs, hlo⟩ : ∃ q : List Loc, q = [] := ⟨_, rfl⟩
  have dy : Dy D cA ad (V, g) A s.heap H locs := by rw [hH, hlo]; exact dy
  suffices K : W p l e (headSpec (wM yX12_laws cX12_laws 6 (some .int)) { frames := 9, cells := 0, slots := 0, locals := 199 }).room s m ([.ref (ad k0), .int a1] : List Value).toArray below meth c H locs 0 0 (MQ below (QI D cA ad A r0 (V, g0)) ([.ref (ad k0), .int a1] : List Value).toArray s 0 0 A) (F0 m 0 ls []) by rw [hH, hlo] at K; exact K
  clear hH hlo
  refine lv_aload_n cx.1 cx.2.1 dX12_laws_0 rfl (lv_at hl 0 rfl) ?_
  refine lv_aload_n cx.1 cx.2.1 dX12_laws_1 rfl (lv_at hl 0 rfl) ?_
  obtain ⟨hv1, hr⟩ := of_grd hr
  refine h_getI cx fx dy fd_12_1 hv1 tb_987 dX12_laws_2 ?_
  obtain ⟨g2, eg2, hr⟩ := of_nm hr
  refine h_putI cx fx dy fd_12_2 (pd_12_2 : PD _ _ _ _ _ .int) rfl rfl rfl hv1 tb_988 dX12_laws_5 (fun H locs dy => ?_)
  replace dy : Dy D cA ad (V, g2) A s.heap H locs := by rw [eg2]; exact dy
  refine lv_aload_n cx.1 cx.2.1 dX12_laws_8 rfl (lv_at hl 0 rfl) ?_
  refine lv_iconst (v := 0) cx.1 cx.2.1 dX12_laws_9 (by decide) ?_
  obtain ⟨g3, eg3, hr⟩ := of_nm hr
  refine h_putI cx fx dy fd_12_1 (pd_12_1 : PD _ _ _ _ _ .int) rfl rfl rfl hv1 tb_987 dX12_laws_10 (fun H locs dy => ?_)
  replace dy : Dy D cA ad (V, g3) A s.heap H locs := by rw [eg3]; exact dy
  refine lv_iload_n cx.1 cx.2.1 dX12_laws_13 rfl (lv_at hl 1 rfl) ?_
  obtain ⟨x5, g4, hc6, hr⟩ := of_bnd2 hr
  refine r_i dy (k_S (As := [.int a1]) cx fx dy (c_X12_isWard hc6) mv_X12_isWard rfl rfl ⟨Nat.le_trans (by decide) hR.1, Nat.le_trans (by decide) hR.2⟩ tb_1173 rfl hl.1 rfl (Nat.le_of_ble_eq_true rfl) ⟨Nat.zero_le _, Nat.zero_le _⟩ dX12_laws_14) (fun H locs dy => ?_)
  rcases of_brn hr with ⟨hc, hr⟩ | ⟨hc, hr⟩
  · refine lv_if_ne (tgt := 23) cx.1 cx.2.1 dX12_laws_17 (by decide) (fun hn => absurd hc hn) (fun _ => ?_)
    refine lv_bipush (v := (-2)) cx.1 cx.2.1 dX12_laws_20 (by decide) ?_
    obtain ⟨e0, e1⟩ := hq0 _ _ (Option.some.inj hr).symm
    exact h_iret cx dy hlocks hret rfl e0 (by rw [e1]) dX12_laws_22
  · refine lv_if_ne (tgt := 23) cx.1 cx.2.1 dX12_laws_17 (by decide) (fun _ => ?_) (fun hn => absurd hn hc)
    refine lv_aload_n cx.1 cx.2.1 dX12_laws_23 rfl (lv_at hl 0 rfl) ?_
    refine lv_iconst (v := 0) cx.1 cx.2.1 dX12_laws_24 (by decide) ?_
    obtain ⟨g7, eg7, hr⟩ := of_nm hr
    refine h_putI cx fx dy fd_12_8 (pd_12_8 : PD _ _ _ _ _ .int) rfl rfl rfl hv1 tb_994 dX12_laws_25 (fun H locs dy => ?_)
    replace dy : Dy D cA ad (V, g7) A s.heap H locs := by rw [eg7]; exact dy
    refine lv_aload_n cx.1 cx.2.1 dX12_laws_28 rfl (lv_at hl 0 rfl) ?_
    refine lv_iconst (v := (-1)) cx.1 cx.2.1 dX12_laws_29 (by decide) ?_
    obtain ⟨g8, eg8, hr⟩ := of_nm hr
    refine h_putI cx fx dy fd_12_9 (pd_12_9 : PD _ _ _ _ _ .int) rfl rfl rfl hv1 tb_995 dX12_laws_30 (fun H locs dy => ?_)
    replace dy : Dy D cA ad (V, g8) A s.heap H locs := by rw [eg8]; exact dy
    refine lv_iconst (v := 0) cx.1 cx.2.1 dX12_laws_33 (by decide) ?_
    refine lv_istore_n (lv' := [(2, .int (0 : Int32)), (0, .ref (ad k0)), (1, .int a1)]) cx.1 cx.2.1 dX12_laws_34 rfl hl (by decide) rfl (fun ls hl => ?_)
    obtain ⟨n, hr⟩ := lop_some hr
    exact w_X12_laws_35 cx fx hlocks hret hR r0 g0 z hq0 n k0 a1 (0 : Int32) g8 hr H locs ls dy (lv_sub hl [1, 2, 0] rfl)
noncomputable def r_X12_fault (V : Vk) (k0 : Nat) (a1 : Int32) (g : Hq) : Option (Int32 × Hq) :=
  brn (a1 = 0) (grd (V k0 = some (12, 0)) <| some ((g.1 k0 8), g)) (brn (a1 = (1 : Int32)) (grd (V k0 = some (12, 0)) <| some ((g.1 k0 9), g)) (some ((-1 : Int32), g)))
set_option maxHeartbeats 4000000 in
set_option maxRecDepth 100000 in
theorem c_X12_fault {l : Launch} {D : va_G} {cA : Nat → ClassId} {sk : (Nat → Nat) × (Nat → Nat)} {ad : Nat → Nat} {A : Nat → Prop} {V : Vk} {k0 : Nat} {a1 : Int32} {g g0 : Hq} {r0 : Int32} (hr : r_X12_fault V k0 a1 g = some (r0, g0)) : Met l yX12_fault (wM yX12_fault cX12_fault 2 (some .int)) { frames := 0, cells := 0, slots := 0, locals := 0 } (Pre D cA sk ad (V, g) A [.ref (ad k0), .int a1]) (QI D cA ad A r0 (V, g0)) 0 0 A := by
  refine Met.ofW (cc := cX12_fault) (maxL := 2) (ret := (some .int)) (by decide) rfl ?_
  intro p e s m args below meth c s₁ B hml hv
  obtain ⟨rfl, fx, w0⟩ := hv
  have hts := atoms_spec (ws := wM yX12_fault cX12_fault 2 (some .int)) B.pre
  have cx : CallFix p m c cX12_fault 2 s ([.ref (ad k0), .int a1] : List Value).toArray gw_tbl RX12 := ⟨B.exec, B.bytes, hml, findClass_of_methodNamed B.named, fun w hw => hts w (List.mem_cons_of_mem _ hw)⟩
  have hlocks := B.notSynchronized
  have hret := B.returns
  have hR : 0 ≤ (headSpec (wM yX12_fault cX12_fault 2 (some .int)) { frames := 0, cells := 0, slots := 0, locals := 0 }).room.frames ∧ 0 ≤ (headSpec (wM yX12_fault cX12_fault 2 (some .int)) { frames := 0, cells := 0, slots := 0, locals := 0 }).room.locals := ⟨Nat.le_refl _, Nat.le_refl _⟩
  have dy : Dy D cA ad (V, g) A s.heap s.heap [] := ⟨w0, va_S.rf⟩
  have hl := lv_entry [.ref (ad k0), .int a1] (n := 2) (Nat.le_of_ble_eq_true rfl)
  rw [lg_entry_eq]
  generalize (lg_sl [.ref (ad k0), .int a1] ++ List.replicate (2 - (lg_sl [.ref (ad k0), .int a1]).length) Slot.unset).toArray = ls at hl ⊢
  have hl : lv_has ls 2 [(0, .ref (ad k0)), (1, .int a1)] := hl
  have dy0 : ∃ H0, H0 = s.heap ∧ Dy D cA ad (V, g) A s.heap H0 [] := ⟨_, rfl, dy⟩
  obtain ⟨z, ez⟩ : ∃ z, z = (r0, g0) := ⟨_, rfl⟩
  rw [← ez] at hr
  have hq0 : ∀ (rb : Int32) (gb : Hq), z = (rb, gb) → rb = r0 ∧ gb = g0 := fun rb gb eb => by rw [ez] at eb; exact ⟨(congrArg Prod.fst eb).symm, (congrArg Prod.snd eb).symm⟩
  clear ez w0 dy0
  unfold r_X12_fault at hr
  obtain ⟨H, hH⟩ : ∃ H, H = s.heap := ⟨_, rfl⟩
  obtain ⟨locs, hlo⟩ : ∃ q : List Loc, q = [] := ⟨_, rfl⟩
  have dy : Dy D cA ad (V, g) A s.heap H locs := by rw [hH, hlo]; exact dy
  suffices K : W p l e (headSpec (wM yX12_fault cX12_fault 2 (some .int)) { frames := 0, cells := 0, slots := 0, locals := 0 }).room s m ([.ref (ad k0), .int a1] : List Value).toArray below meth c H locs 0 0 (MQ below (QI D cA ad A r0 (V, g0)) ([.ref (ad k0), .int a1] : List Value).toArray s 0 0 A) (F0 m 0 ls []) by rw [hH, hlo] at K; exact K
  clear hH hlo
  refine lv_iload_n cx.1 cx.2.1 dX12_fault_0 rfl (lv_at hl 1 rfl) ?_
  rcases of_brn hr with ⟨hc, hr⟩ | ⟨hc, hr⟩
  · refine lv_if_ne (tgt := 11) cx.1 cx.2.1 dX12_fault_1 (by decide) (fun hn => absurd hc hn) (fun _ => ?_)
    refine lv_aload_n cx.1 cx.2.1 dX12_fault_4 rfl (lv_at hl 0 rfl) ?_
    obtain ⟨hv1, hr⟩ := of_grd hr
    refine h_getI cx fx dy fd_12_8 hv1 tb_994 dX12_fault_5 ?_
    refine lv_goto (tgt := 24) cx.1 cx.2.1 dX12_fault_8 (by decide) ?_
    obtain ⟨e0, e1⟩ := hq0 _ _ (Option.some.inj hr).symm
    exact h_iret cx dy hlocks hret rfl e0 (by rw [e1]) dX12_fault_24
  · refine lv_if_ne (tgt := 11) cx.1 cx.2.1 dX12_fault_1 (by decide) (fun _ => ?_) (fun hn => absurd hn hc)
    refine lv_iload_n cx.1 cx.2.1 dX12_fault_11 rfl (lv_at hl 1 rfl) ?_
    refine lv_iconst (v := 1) cx.1 cx.2.1 dX12_fault_12 (by decide) ?_
    rcases of_brn hr with ⟨hc, hr⟩ | ⟨hc, hr⟩
    · refine lv_icmp_ne (tgt := 23) cx.1 cx.2.1 dX12_fault_13 (by decide) (fun hn => absurd hc hn) (fun _ => ?_)
      refine lv_aload_n cx.1 cx.2.1 dX12_fault_16 rfl (lv_at hl 0 rfl) ?_
      obtain ⟨hv2, hr⟩ := of_grd hr
      refine h_getI cx fx dy fd_12_9 hv2 tb_995 dX12_fault_17 ?_
      refine lv_goto (tgt := 24) cx.1 cx.2.1 dX12_fault_20 (by decide) ?_
      obtain ⟨e0, e1⟩ := hq0 _ _ (Option.some.inj hr).symm
      exact h_iret cx dy hlocks hret rfl e0 (by rw [e1]) dX12_fault_24
    · refine lv_icmp_ne (tgt := 23) cx.1 cx.2.1 dX12_fault_13 (by decide) (fun _ => ?_) (fun hn => absurd hn hc)
      refine lv_iconst (v := (-1)) cx.1 cx.2.1 dX12_fault_23 (by decide) ?_
      obtain ⟨e0, e1⟩ := hq0 _ _ (Option.some.inj hr).symm
      exact h_iret cx dy hlocks hret rfl e0 (by rw [e1]) dX12_fault_24
noncomputable def r_X12_law (V : Vk) (k0 : Nat) (a1 : Int32) (a2 : Int32) (g : Hq) : Option (Int32 × Hq) :=
  bnd (r_X12_isWard V a1 g) fun x2 g1 => brn (x2 = 0) (some ((-9 : Int32), g1)) (bnd (r_X12_in V a2 (0 : Int32) (8 : Int32) g1) fun x5 g4 => brn (x5 = 0) (some ((-9 : Int32), g4)) (brn (a2 = (8 : Int32)) (grd (V k0 = some (12, 0)) <| Option.bind (g4.2.2 k0 31) fun k8 => grd (okV V k8 0 a1) <| some ((g4.1 k8 a1.toNatClampNeg), g4)) (grd (V k0 = some (12, 0)) <| Option.bind (g4.2.2 k0 29) fun k12 => grd (okV V k12 0 (((8 : Int32) * a1) + a2)) <| some ((g4.1 k12 (((8 : Int32) * a1) + a2).toNatClampNeg), g4))))
set_option maxHeartbeats 4000000 in
set_option maxRecDepth 100000 in
theorem c_X12_law {l : Launch} {D : va_G} {cA : Nat → ClassId} {sk : (Nat → Nat) × (Nat → Nat)} {ad : Nat → Nat} {A : Nat → Prop} {V : Vk} {k0 : Nat} {a1 : Int32} {a2 : Int32} {g g0 : Hq} {r0 : Int32} (hr : r_X12_law V k0 a1 a2 g = some (r0, g0)) : Met l yX12_law (wM yX12_law cX12_law 3 (some .int)) { frames := 2, cells := 0, slots := 0, locals := 42 } (Pre D cA sk ad (V, g) A [.ref (ad k0), .int a1, .int a2]) (QI D cA ad A r0 (V, g0)) 0 0 A := by
  refine Met.ofW (cc := cX12_law) (maxL := 3) (ret := (some .int)) (by decide) rfl ?_
  intro p e s m args below meth c s₁ B hml hv
  obtain ⟨rfl, fx, w0⟩ := hv
  have hts := atoms_spec (ws := wM yX12_law cX12_law 3 (some .int)) B.pre
  have cx : CallFix p m c cX12_law 3 s ([.ref (ad k0), .int a1, .int a2] : List Value).toArray gw_tbl RX12 := ⟨B.exec, B.bytes, hml, findClass_of_methodNamed B.named, fun w hw => hts w (List.mem_cons_of_mem _ hw)⟩
  have hlocks := B.notSynchronized
  have hret := B.returns
  have hR : 2 ≤ (headSpec (wM yX12_law cX12_law 3 (some .int)) { frames := 2, cells := 0, slots := 0, locals := 42 }).room.frames ∧ 42 ≤ (headSpec (wM yX12_law cX12_law 3 (some .int)) { frames := 2, cells := 0, slots := 0, locals := 42 }).room.locals := ⟨Nat.le_refl _, Nat.le_refl _⟩
  have dy : Dy D cA ad (V, g) A s.heap s.heap [] := ⟨w0, va_S.rf⟩
  have hl := lv_entry [.ref (ad k0), .int a1, .int a2] (n := 3) (Nat.le_of_ble_eq_true rfl)
  rw [lg_entry_eq]
  generalize (lg_sl [.ref (ad k0), .int a1, .int a2] ++ List.replicate (3 - (lg_sl [.ref (ad k0), .int a1, .int a2]).length) Slot.unset).toArray = ls at hl ⊢
  have hl : lv_has ls 3 [(0, .ref (ad k0)), (1, .int a1), (2, .int a2)] := hl
  have dy0 : ∃ H0, H0 = s.heap ∧ Dy D cA ad (V, g) A s.heap H0 [] := ⟨_, rfl, dy⟩
  obtain ⟨z, ez⟩ : ∃ z, z = (r0, g0) := ⟨_, rfl⟩
  rw [← ez] at hr
  have hq0 : ∀ (rb : Int32) (gb : Hq), z = (rb, gb) → rb = r0 ∧ gb = g0 := fun rb gb eb => by rw [ez] at eb; exact ⟨(congrArg Prod.fst eb).symm, (congrArg Prod.snd eb).symm⟩
  clear ez w0 dy0
  unfold r_X12_law at hr
  obtain ⟨H, hH⟩ : ∃ H, H = s.heap := ⟨_, rfl⟩
  obtain ⟨locs, hlo⟩ : ∃ q : List Loc, q = [] := ⟨_, rfl⟩
  have dy : Dy D cA ad (V, g) A s.heap H locs := by rw [hH, hlo]; exact dy
  suffices K : W p l e (headSpec (wM yX12_law cX12_law 3 (some .int)) { frames := 2, cells := 0, slots := 0, locals := 42 }).room s m ([.ref (ad k0), .int a1, .int a2] : List Value).toArray below meth c H locs 0 0 (MQ below (QI D cA ad A r0 (V, g0)) ([.ref (ad k0), .int a1, .int a2] : List Value).toArray s 0 0 A) (F0 m 0 ls []) by rw [hH, hlo] at K; exact K
  clear hH hlo
  refine lv_iload_n cx.1 cx.2.1 dX12_law_0 rfl (lv_at hl 1 rfl) ?_
  obtain ⟨x2, g1, hc3, hr⟩ := of_bnd2 hr
  refine r_i dy (k_S (As := [.int a1]) cx fx dy (c_X12_isWard hc3) mv_X12_isWard rfl rfl ⟨Nat.le_trans (by decide) hR.1, Nat.le_trans (by decide) hR.2⟩ tb_1173 rfl hl.1 rfl (Nat.le_of_ble_eq_true rfl) ⟨Nat.zero_le _, Nat.zero_le _⟩ dX12_law_1) (fun H locs dy => ?_)
  rcases of_brn hr with ⟨hc, hr⟩ | ⟨hc, hr⟩
  · refine lv_if_eq (tgt := 17) cx.1 cx.2.1 dX12_law_4 (by decide) (fun _ => ?_) (fun hn => absurd hc hn)
    refine lv_bipush (v := (-9)) cx.1 cx.2.1 dX12_law_17 (by decide) ?_
    obtain ⟨e0, e1⟩ := hq0 _ _ (Option.some.inj hr).symm
    exact h_iret cx dy hlocks hret rfl e0 (by rw [e1]) dX12_law_19
  · refine lv_if_eq (tgt := 17) cx.1 cx.2.1 dX12_law_4 (by decide) (fun hn => absurd hn hc) (fun _ => ?_)
    refine lv_iload_n cx.1 cx.2.1 dX12_law_7 rfl (lv_at hl 2 rfl) ?_
    refine lv_iconst (v := 0) cx.1 cx.2.1 dX12_law_8 (by decide) ?_
    refine lv_bipush (v := 8) cx.1 cx.2.1 dX12_law_9 (by decide) ?_
    obtain ⟨x5, g4, hc6, hr⟩ := of_bnd2 hr
    refine r_i dy (k_S (As := [.int a2, .int (0 : Int32), .int (8 : Int32)]) cx fx dy (c_X12_in hc6) mv_X12_in rfl rfl ⟨Nat.le_trans (by decide) hR.1, Nat.le_trans (by decide) hR.2⟩ tb_1170 rfl hl.1 rfl (Nat.le_of_ble_eq_true rfl) ⟨Nat.zero_le _, Nat.zero_le _⟩ dX12_law_11) (fun H locs dy => ?_)
    rcases of_brn hr with ⟨hc, hr⟩ | ⟨hc, hr⟩
    · refine lv_if_ne (tgt := 20) cx.1 cx.2.1 dX12_law_14 (by decide) (fun hn => absurd hc hn) (fun _ => ?_)
      refine lv_bipush (v := (-9)) cx.1 cx.2.1 dX12_law_17 (by decide) ?_
      obtain ⟨e0, e1⟩ := hq0 _ _ (Option.some.inj hr).symm
      exact h_iret cx dy hlocks hret rfl e0 (by rw [e1]) dX12_law_19
    · refine lv_if_ne (tgt := 20) cx.1 cx.2.1 dX12_law_14 (by decide) (fun _ => ?_) (fun hn => absurd hn hc)
      refine lv_iload_n cx.1 cx.2.1 dX12_law_20 rfl (lv_at hl 2 rfl) ?_
      refine lv_bipush (v := 8) cx.1 cx.2.1 dX12_law_21 (by decide) ?_
      rcases of_brn hr with ⟨hc, hr⟩ | ⟨hc, hr⟩
      · refine lv_icmp_ne (tgt := 35) cx.1 cx.2.1 dX12_law_23 (by decide) (fun hn => absurd hc hn) (fun _ => ?_)
        refine lv_aload_n cx.1 cx.2.1 dX12_law_26 rfl (lv_at hl 0 rfl) ?_
        obtain ⟨hv7, hr⟩ := of_grd hr
        obtain ⟨k8, hf9, hr⟩ := of_bnd hr
        refine h_getR cx fx dy fd_12_31 hv7 tb_1017 hf9 dX12_law_27 ?_
        refine lv_iload_n cx.1 cx.2.1 dX12_law_30 rfl (lv_at hl 1 rfl) ?_
        obtain ⟨ha10, hr⟩ := of_grd hr
        refine h_iald cx fx dy ha10 dX12_law_31 ?_
        refine lv_goto (tgt := 46) cx.1 cx.2.1 dX12_law_32 (by decide) ?_
        obtain ⟨e0, e1⟩ := hq0 _ _ (Option.some.inj hr).symm
        exact h_iret cx dy hlocks hret rfl e0 (by rw [e1]) dX12_law_46
      · refine lv_icmp_ne (tgt := 35) cx.1 cx.2.1 dX12_law_23 (by decide) (fun _ => ?_) (fun hn => absurd hn hc)
        refine lv_aload_n cx.1 cx.2.1 dX12_law_35 rfl (lv_at hl 0 rfl) ?_
        obtain ⟨hv11, hr⟩ := of_grd hr
        obtain ⟨k12, hf13, hr⟩ := of_bnd hr
        refine h_getR cx fx dy fd_12_29 hv11 tb_1015 hf13 dX12_law_36 ?_
        refine lv_bipush (v := 8) cx.1 cx.2.1 dX12_law_39 (by decide) ?_
        refine lv_iload_n cx.1 cx.2.1 dX12_law_41 rfl (lv_at hl 1 rfl) ?_
        refine lv_imul cx.1 cx.2.1 dX12_law_42 ?_
        refine lv_iload_n cx.1 cx.2.1 dX12_law_43 rfl (lv_at hl 2 rfl) ?_
        refine lv_iadd cx.1 cx.2.1 dX12_law_44 ?_
        obtain ⟨ha14, hr⟩ := of_grd hr
        refine h_iald cx fx dy ha14 dX12_law_45 ?_
        obtain ⟨e0, e1⟩ := hq0 _ _ (Option.some.inj hr).symm
        exact h_iret cx dy hlocks hret rfl e0 (by rw [e1]) dX12_law_46
noncomputable def r_X12_isGiven_56 (V : Vk) (k20 : Nat) (x21 : Int32) (x22 : Int32) (x23 : Int32) (x24 : Int32) (x25 : Int32) (g26 : Hq) : Option ((Nat × Int32 × Int32 × Int32 × Int32 × Int32 × Hq) ⊕ (Int32 × Hq)) :=
  grd (V k20 = some (12, 0)) <| Option.bind (g26.2.2 k20 30) fun k28 => grd (okV V k28 0 (x25 + (1 : Int32))) <| nm (g26.1 k28 (x25 + (1 : Int32)).toNatClampNeg) fun x31 => Option.bind (g26.2.2 k20 30) fun k32 => grd (okV V k32 0 (x25 + (2 : Int32))) <| nm (g26.1 k32 (x25 + (2 : Int32)).toNatClampNeg) fun x35 => brn (x35 < x31) (brn (x31 ≤ x23) (some (.inr ((1 : Int32), g26))) (brn (x35 < x23) (nm (x25 + (4 : Int32)) fun x36 => some (.inl (k20, x21, x22, x23, x24, x36, g26))) (some (.inr ((1 : Int32), g26))))) (bnd (r_X12_in V x23 x31 x35 g26) fun x38 g37 => brn (x38 = 0) (nm (x25 + (4 : Int32)) fun x40 => some (.inl (k20, x21, x22, x23, x24, x40, g37))) (some (.inr ((1 : Int32), g37))))
set_option maxHeartbeats 4000000 in
set_option maxRecDepth 100000 in
theorem w_X12_isGiven_56 {p : Program} {l : Launch} {e : Env} {R : Room} {s : State} {m : MethodId} {args : Array Value} {below : List Frame} {meth : Method} {c : Code} {D : va_G} {cA : Nat → ClassId} {sk : (Nat → Nat) × (Nat → Nat)} {ad : Nat → Nat} {A : Nat → Prop} {V : Vk} (cx : CallFix p m c cX12_isGiven 8 s args gw_tbl RX12) (fx : Fx D cA sk A s) (hlocks : meth.locks = false) (hret : meth.sig.returnType = (some .boolean)) (hR : 1 ≤ R.frames ∧ 22 ≤ R.locals) (r0 : Int32) (g0 : Hq) (z : ((Nat × Int32 × Int32 × Int32 × Int32 × Int32 × Hq) ⊕ (Int32 × Hq))) (hk0 : ∀ (b0 : Nat) (b1 : Int32) (b2 : Int32) (b3 : Int32) (b4 : Int32) (b5 : Int32) (gb : Hq), z = (.inl (b0, b1, b2, b3, b4, b5, gb)) → ∀ (H : Heap) (locs : List Loc) (ls : Array Slot), Dy D cA ad (V, gb) A s.heap H locs → lv_has ls 8 [(0, .ref (ad b0)), (1, .int b1), (2, .int b2), (3, .int b3), (4, .int b4), (5, .int b5)] → W p l e R s m args below meth c H locs 0 0 (MQ below (QI D cA ad A r0 (V, g0)) args s 0 0 A) (F0 m 6 ls [])) (hq : ∀ (rb : Int32) (gb : Hq), z = (.inr (rb, gb)) → rb = r0 ∧ gb = g0) (k20 : Nat) (x21 : Int32) (x22 : Int32) (x23 : Int32) (x24 : Int32) (x25 : Int32) (g26 : Hq) (hr : r_X12_isGiven_56 V k20 x21 x22 x23 x24 x25 g26 = some z) (H : Heap) (locs : List Loc) (ls : Array Slot) (dy : Dy D cA ad (V, g26) A s.heap H locs) (hl : lv_has ls 8 [(0, .ref (ad k20)), (1, .int x21), (2, .int x22), (3, .int x23), (4, .int x24), (5, .int x25)]) : W p l e R s m args below meth c H locs 0 0 (MQ below (QI D cA ad A r0 (V, g0)) args s 0 0 A) (F0 m 56 ls []) := by
  unfold r_X12_isGiven_56 at hr
  have hh0 := hk0
  have hq0 := hq
  refine lv_aload_n cx.1 cx.2.1 dX12_isGiven_56 rfl (lv_at hl 0 rfl) ?_
  obtain ⟨hv27, hr⟩ := of_grd hr
  obtain ⟨k28, hf29, hr⟩ := of_bnd hr
  refine h_getR cx fx dy fd_12_30 hv27 tb_1016 hf29 dX12_isGiven_57 ?_
  refine lv_iload cx.1 cx.2.1 dX12_isGiven_60 (lv_at hl 5 rfl) ?_
  refine lv_iconst (v := 1) cx.1 cx.2.1 dX12_isGiven_62 (by decide) ?_
  refine lv_iadd cx.1 cx.2.1 dX12_isGiven_63 ?_
  obtain ⟨ha30, hr⟩ := of_grd hr
  refine h_iald cx fx dy ha30 dX12_isGiven_64 ?_
  obtain ⟨x31, ex31, hr⟩ := of_nm hr
  refine lv_nmi ex31 ?_
  refine lv_istore (lv' := [(6, .int x31), (0, .ref (ad k20)), (1, .int x21), (2, .int x22), (3, .int x23), (4, .int x24), (5, .int x25)]) cx.1 cx.2.1 dX12_isGiven_65 hl (by decide) rfl (fun ls hl => ?_)
  refine lv_aload_n cx.1 cx.2.1 dX12_isGiven_67 rfl (lv_at hl 1 rfl) ?_
  obtain ⟨k32, hf33, hr⟩ := of_bnd hr
  refine h_getR cx fx dy fd_12_30 hv27 tb_1016 hf33 dX12_isGiven_68 ?_
  refine lv_iload cx.1 cx.2.1 dX12_isGiven_71 (lv_at hl 6 rfl) ?_
  refine lv_iconst (v := 2) cx.1 cx.2.1 dX12_isGiven_73 (by decide) ?_
  refine lv_iadd cx.1 cx.2.1 dX12_isGiven_74 ?_
  obtain ⟨ha34, hr⟩ := of_grd hr
  refine h_iald cx fx dy ha34 dX12_isGiven_75 ?_
  obtain ⟨x35, ex35, hr⟩ := of_nm hr
  refine lv_nmi ex35 ?_
  refine lv_istore (lv' := [(7, .int x35), (6, .int x31), (0, .ref (ad k20)), (1, .int x21), (2, .int x22), (3, .int x23), (4, .int x24), (5, .int x25)]) cx.1 cx.2.1 dX12_isGiven_76 hl (by decide) rfl (fun ls hl => ?_)
  refine lv_iload cx.1 cx.2.1 dX12_isGiven_78 (lv_at hl 1 rfl) ?_
  refine lv_iload cx.1 cx.2.1 dX12_isGiven_80 (lv_at hl 0 rfl) ?_
  rcases of_brn hr with ⟨hc, hr⟩ | ⟨hc, hr⟩
  · refine lv_icmp_gt (tgt := 99) cx.1 cx.2.1 dX12_isGiven_82 (by decide) (fun _ => ?_) (fun hn => absurd hc hn)
    refine lv_iload_n cx.1 cx.2.1 dX12_isGiven_99 rfl (lv_at hl 5 rfl) ?_
    refine lv_iload cx.1 cx.2.1 dX12_isGiven_100 (lv_at hl 1 rfl) ?_
    rcases of_brn hr with ⟨hc, hr⟩ | ⟨hc, hr⟩
    · refine lv_icmp_ge (tgt := 111) cx.1 cx.2.1 dX12_isGiven_102 (by decide) (fun _ => ?_) (fun hn => absurd hc hn)
      refine lv_iconst (v := 1) cx.1 cx.2.1 dX12_isGiven_111 (by decide) ?_
      obtain ⟨e0, e1⟩ := hq0 _ _ (Option.some.inj hr).symm
      exact h_iret cx dy hlocks hret rfl e0 (by rw [e1]) dX12_isGiven_112
    · refine lv_icmp_ge (tgt := 111) cx.1 cx.2.1 dX12_isGiven_102 (by decide) (fun hn => absurd hn hc) (fun _ => ?_)
      refine lv_iload_n cx.1 cx.2.1 dX12_isGiven_105 rfl (lv_at hl 5 rfl) ?_
      refine lv_iload cx.1 cx.2.1 dX12_isGiven_106 (lv_at hl 0 rfl) ?_
      rcases of_brn hr with ⟨hc, hr⟩ | ⟨hc, hr⟩
      · refine lv_icmp_gt (tgt := 113) cx.1 cx.2.1 dX12_isGiven_108 (by decide) (fun _ => ?_) (fun hn => absurd hc hn)
        obtain ⟨x36, ex36, hr⟩ := of_nm hr
        refine lv_iinc (v := x36) (lv' := [(5, .int x36), (7, .int x35), (6, .int x31), (0, .ref (ad k20)), (1, .int x21), (2, .int x22), (3, .int x23), (4, .int x24)]) cx.1 cx.2.1 dX12_isGiven_113 hl (k := 7) rfl (by rw [ex36]; rfl) (by decide) rfl (fun ls hl => ?_)
        refine lv_goto (tgt := 6) cx.1 cx.2.1 dX12_isGiven_116 (by decide) ?_
        exact hh0 k20 x21 x22 x23 x24 x36 g26 (Option.some.inj hr).symm H locs ls dy (lv_sub hl [3, 4, 5, 6, 7, 0] rfl)
      · refine lv_icmp_gt (tgt := 113) cx.1 cx.2.1 dX12_isGiven_108 (by decide) (fun hn => absurd hn hc) (fun _ => ?_)
        refine lv_iconst (v := 1) cx.1 cx.2.1 dX12_isGiven_111 (by decide) ?_
        obtain ⟨e0, e1⟩ := hq0 _ _ (Option.some.inj hr).symm
        exact h_iret cx dy hlocks hret rfl e0 (by rw [e1]) dX12_isGiven_112
  · refine lv_icmp_gt (tgt := 99) cx.1 cx.2.1 dX12_isGiven_82 (by decide) (fun hn => absurd hn hc) (fun _ => ?_)
    refine lv_iload_n cx.1 cx.2.1 dX12_isGiven_85 rfl (lv_at hl 5 rfl) ?_
    refine lv_iload cx.1 cx.2.1 dX12_isGiven_86 (lv_at hl 1 rfl) ?_
    refine lv_iload cx.1 cx.2.1 dX12_isGiven_88 (lv_at hl 0 rfl) ?_
    obtain ⟨x38, g37, hc39, hr⟩ := of_bnd2 hr
    refine r_i dy (k_S (As := [.int x23, .int x31, .int x35]) cx fx dy (c_X12_in hc39) mv_X12_in rfl rfl ⟨Nat.le_trans (by decide) hR.1, Nat.le_trans (by decide) hR.2⟩ tb_1170 rfl hl.1 rfl (Nat.le_of_ble_eq_true rfl) ⟨Nat.zero_le _, Nat.zero_le _⟩ dX12_isGiven_90) (fun H locs dy => ?_)
    rcases of_brn hr with ⟨hc, hr⟩ | ⟨hc, hr⟩
    · refine lv_if_eq (tgt := 113) cx.1 cx.2.1 dX12_isGiven_93 (by decide) (fun _ => ?_) (fun hn => absurd hc hn)
      obtain ⟨x40, ex40, hr⟩ := of_nm hr
      refine lv_iinc (v := x40) (lv' := [(5, .int x40), (7, .int x35), (6, .int x31), (0, .ref (ad k20)), (1, .int x21), (2, .int x22), (3, .int x23), (4, .int x24)]) cx.1 cx.2.1 dX12_isGiven_113 hl (k := 7) rfl (by rw [ex40]; rfl) (by decide) rfl (fun ls hl => ?_)
      refine lv_goto (tgt := 6) cx.1 cx.2.1 dX12_isGiven_116 (by decide) ?_
      exact hh0 k20 x21 x22 x23 x24 x40 g37 (Option.some.inj hr).symm H locs ls dy (lv_sub hl [3, 4, 5, 6, 7, 0] rfl)
    · refine lv_if_eq (tgt := 113) cx.1 cx.2.1 dX12_isGiven_93 (by decide) (fun hn => absurd hn hc) (fun _ => ?_)
      refine lv_goto (tgt := 111) cx.1 cx.2.1 dX12_isGiven_96 (by decide) ?_
      refine lv_iconst (v := 1) cx.1 cx.2.1 dX12_isGiven_111 (by decide) ?_
      obtain ⟨e0, e1⟩ := hq0 _ _ (Option.some.inj hr).symm
      exact h_iret cx dy hlocks hret rfl e0 (by rw [e1]) dX12_isGiven_112
noncomputable def r_X12_isGiven_6' (V : Vk) (k2 : Nat) (x3 : Int32) (x4 : Int32) (x5 : Int32) (x6 : Int32) (x7 : Int32) (g8 : Hq) : Option ((Nat × Int32 × Int32 × Int32 × Int32 × Int32 × Hq) ⊕ (Int32 × Hq)) :=
  grd (V k2 = some (12, 0)) <| Option.bind (g8.2.2 k2 31) fun k10 => grd (okV V k10 0 x3) <| brn (((4 : Int32) * (((12 : Int32) * x3) + (g8.1 k10 x3.toNatClampNeg))) ≤ x7) (some (.inr ((0 : Int32), g8))) (Option.bind (g8.2.2 k2 30) fun k13 => grd (okV V k13 0 x7) <| brn ((g8.1 k13 x7.toNatClampNeg) = x4) (Option.bind (g8.2.2 k2 30) fun k16 => grd (okV V k16 0 (x7 + (3 : Int32))) <| brn ((g8.1 k16 (x7 + (3 : Int32)).toNatClampNeg) = (1 : Int32)) (brn (x6 = 0) (nm (x7 + (4 : Int32)) fun x19 => some (.inl (k2, x3, x4, x5, x6, x19, g8))) ((r_X12_isGiven_56 V k2 x3 x4 x5 x6 x7 g8))) ((r_X12_isGiven_56 V k2 x3 x4 x5 x6 x7 g8))) (nm (x7 + (4 : Int32)) fun x41 => some (.inl (k2, x3, x4, x5, x6, x41, g8))))
noncomputable def r_X12_isGiven_6 (V : Vk) (st : (Nat × Int32 × Int32 × Int32 × Int32 × Int32 × Hq)) : Option ((Nat × Int32 × Int32 × Int32 × Int32 × Int32 × Hq) ⊕ (Int32 × Hq)) := r_X12_isGiven_6' V st.1 st.2.1 st.2.2.1 st.2.2.2.1 st.2.2.2.2.1 st.2.2.2.2.2.1 st.2.2.2.2.2.2
set_option maxHeartbeats 4000000 in
set_option maxRecDepth 100000 in
theorem w_X12_isGiven_6 {p : Program} {l : Launch} {e : Env} {R : Room} {s : State} {m : MethodId} {args : Array Value} {below : List Frame} {meth : Method} {c : Code} {D : va_G} {cA : Nat → ClassId} {sk : (Nat → Nat) × (Nat → Nat)} {ad : Nat → Nat} {A : Nat → Prop} {V : Vk} (cx : CallFix p m c cX12_isGiven 8 s args gw_tbl RX12) (fx : Fx D cA sk A s) (hlocks : meth.locks = false) (hret : meth.sig.returnType = (some .boolean)) (hR : 1 ≤ R.frames ∧ 22 ≤ R.locals) (r0 : Int32) (g0 : Hq) (y : (Int32 × Hq)) (hq : ∀ (rb : Int32) (gb : Hq), y = (rb, gb) → rb = r0 ∧ gb = g0) : ∀ (n : Nat) (k2 : Nat) (x3 : Int32) (x4 : Int32) (x5 : Int32) (x6 : Int32) (x7 : Int32) (g8 : Hq), itr (r_X12_isGiven_6 V) n (k2, x3, x4, x5, x6, x7, g8) = some y → ∀ (H : Heap) (locs : List Loc) (ls : Array Slot), Dy D cA ad (V, g8) A s.heap H locs → lv_has ls 8 [(0, .ref (ad k2)), (1, .int x3), (2, .int x4), (3, .int x5), (4, .int x6), (5, .int x7)] → W p l e R s m args below meth c H locs 0 0 (MQ below (QI D cA ad A r0 (V, g0)) args s 0 0 A) (F0 m 6 ls []) := by
  intro n
  induction n with
  | zero => intro k2 x3 x4 x5 x6 x7 g8 hr; cases hr
  | succ n ih =>
    intro k2 x3 x4 x5 x6 x7 g8 hr H locs ls dy hl
    obtain ⟨z, hz, hn1, hn2⟩ := itr_succ hr
    clear hr
    have hr : r_X12_isGiven_6' V k2 x3 x4 x5 x6 x7 g8 = some z := hz
    clear hz
    unfold r_X12_isGiven_6' at hr
    have hh0 : ∀ (b0 : Nat) (b1 : Int32) (b2 : Int32) (b3 : Int32) (b4 : Int32) (b5 : Int32) (gb : Hq), z = .inl (b0, b1, b2, b3, b4, b5, gb) → ∀ (H : Heap) (locs : List Loc) (ls : Array Slot), Dy D cA ad (V, gb) A s.heap H locs → lv_has ls 8 [(0, .ref (ad b0)), (1, .int b1), (2, .int b2), (3, .int b3), (4, .int b4), (5, .int b5)] → W p l e R s m args below meth c H locs 0 0 (MQ below (QI D cA ad A r0 (V, g0)) args s 0 0 A) (F0 m 6 ls []) := fun b0 b1 b2 b3 b4 b5 gb eb => ih b0 b1 b2 b3 b4 b5 gb (hn1 _ eb)
    have hq0 : ∀ (rb : Int32) (gb : Hq), z = (.inr (rb, gb)) → rb = r0 ∧ gb = g0 := fun rb gb eb => hq rb gb (hn2 _ eb).symm
    refine lv_iload cx.1 cx.2.1 dX12_isGiven_6 (lv_at hl 5 rfl) ?_
    refine lv_iconst (v := 4) cx.1 cx.2.1 dX12_isGiven_8 (by decide) ?_
    refine lv_bipush (v := 12) cx.1 cx.2.1 dX12_isGiven_9 (by decide) ?_
    refine lv_iload_n cx.1 cx.2.1 dX12_isGiven_11 rfl (lv_at hl 1 rfl) ?_
    refine lv_imul cx.1 cx.2.1 dX12_isGiven_12 ?_
    refine lv_aload_n cx.1 cx.2.1 dX12_isGiven_13 rfl (lv_at hl 0 rfl) ?_
    obtain ⟨hv9, hr⟩ := of_grd hr
    obtain ⟨k10, hf11, hr⟩ := of_bnd hr
    refine h_getR cx fx dy fd_12_31 hv9 tb_1017 hf11 dX12_isGiven_14 ?_
    refine lv_iload_n cx.1 cx.2.1 dX12_isGiven_17 rfl (lv_at hl 1 rfl) ?_
    obtain ⟨ha12, hr⟩ := of_grd hr
    refine h_iald cx fx dy ha12 dX12_isGiven_18 ?_
    refine lv_iadd cx.1 cx.2.1 dX12_isGiven_19 ?_
    refine lv_imul cx.1 cx.2.1 dX12_isGiven_20 ?_
    rcases of_brn hr with ⟨hc, hr⟩ | ⟨hc, hr⟩
    · refine lv_icmp_ge (tgt := 119) cx.1 cx.2.1 dX12_isGiven_21 (by decide) (fun _ => ?_) (fun hn => absurd hc hn)
      refine lv_iconst (v := 0) cx.1 cx.2.1 dX12_isGiven_119 (by decide) ?_
      obtain ⟨e0, e1⟩ := hq0 _ _ (Option.some.inj hr).symm
      exact h_iret cx dy hlocks hret rfl e0 (by rw [e1]) dX12_isGiven_120
    · refine lv_icmp_ge (tgt := 119) cx.1 cx.2.1 dX12_isGiven_21 (by decide) (fun hn => absurd hn hc) (fun _ => ?_)
      refine lv_aload_n cx.1 cx.2.1 dX12_isGiven_24 rfl (lv_at hl 0 rfl) ?_
      obtain ⟨k13, hf14, hr⟩ := of_bnd hr
      refine h_getR cx fx dy fd_12_30 hv9 tb_1016 hf14 dX12_isGiven_25 ?_
      refine lv_iload cx.1 cx.2.1 dX12_isGiven_28 (lv_at hl 5 rfl) ?_
      obtain ⟨ha15, hr⟩ := of_grd hr
      refine h_iald cx fx dy ha15 dX12_isGiven_30 ?_
      refine lv_iload_n cx.1 cx.2.1 dX12_isGiven_31 rfl (lv_at hl 2 rfl) ?_
      rcases of_brn hr with ⟨hc, hr⟩ | ⟨hc, hr⟩
      · refine lv_icmp_ne (tgt := 113) cx.1 cx.2.1 dX12_isGiven_32 (by decide) (fun hn => absurd hc hn) (fun _ => ?_)
        refine lv_aload_n cx.1 cx.2.1 dX12_isGiven_35 rfl (lv_at hl 0 rfl) ?_
        obtain ⟨k16, hf17, hr⟩ := of_bnd hr
        refine h_getR cx fx dy fd_12_30 hv9 tb_1016 hf17 dX12_isGiven_36 ?_
        refine lv_iload cx.1 cx.2.1 dX12_isGiven_39 (lv_at hl 5 rfl) ?_
        refine lv_iconst (v := 3) cx.1 cx.2.1 dX12_isGiven_41 (by decide) ?_
        refine lv_iadd cx.1 cx.2.1 dX12_isGiven_42 ?_
        obtain ⟨ha18, hr⟩ := of_grd hr
        refine h_iald cx fx dy ha18 dX12_isGiven_43 ?_
        refine lv_iconst (v := 1) cx.1 cx.2.1 dX12_isGiven_44 (by decide) ?_
        rcases of_brn hr with ⟨hc, hr⟩ | ⟨hc, hr⟩
        · refine lv_icmp_ne (tgt := 56) cx.1 cx.2.1 dX12_isGiven_45 (by decide) (fun hn => absurd hc hn) (fun _ => ?_)
          refine lv_iload cx.1 cx.2.1 dX12_isGiven_48 (lv_at hl 4 rfl) ?_
          rcases of_brn hr with ⟨hc, hr⟩ | ⟨hc, hr⟩
          · refine lv_if_ne (tgt := 56) cx.1 cx.2.1 dX12_isGiven_50 (by decide) (fun hn => absurd hc hn) (fun _ => ?_)
            refine lv_goto (tgt := 113) cx.1 cx.2.1 dX12_isGiven_53 (by decide) ?_
            obtain ⟨x19, ex19, hr⟩ := of_nm hr
            refine lv_iinc (v := x19) (lv' := [(5, .int x19), (0, .ref (ad k2)), (1, .int x3), (2, .int x4), (3, .int x5), (4, .int x6)]) cx.1 cx.2.1 dX12_isGiven_113 hl (k := 5) rfl (by rw [ex19]; rfl) (by decide) rfl (fun ls hl => ?_)
            refine lv_goto (tgt := 6) cx.1 cx.2.1 dX12_isGiven_116 (by decide) ?_
            exact hh0 k2 x3 x4 x5 x6 x19 g8 (Option.some.inj hr).symm H locs ls dy (lv_sub hl [1, 2, 3, 4, 5, 0] rfl)
          · refine lv_if_ne (tgt := 56) cx.1 cx.2.1 dX12_isGiven_50 (by decide) (fun _ => ?_) (fun hn => absurd hn hc)
            exact w_X12_isGiven_56 cx fx hlocks hret hR r0 g0 z hh0 hq0 k2 x3 x4 x5 x6 x7 g8 hr H locs ls dy (lv_sub hl [0, 1, 2, 3, 4, 5] rfl)
        · refine lv_icmp_ne (tgt := 56) cx.1 cx.2.1 dX12_isGiven_45 (by decide) (fun _ => ?_) (fun hn => absurd hn hc)
          exact w_X12_isGiven_56 cx fx hlocks hret hR r0 g0 z hh0 hq0 k2 x3 x4 x5 x6 x7 g8 hr H locs ls dy (lv_sub hl [0, 1, 2, 3, 4, 5] rfl)
      · refine lv_icmp_ne (tgt := 113) cx.1 cx.2.1 dX12_isGiven_32 (by decide) (fun _ => ?_) (fun hn => absurd hn hc)
        obtain ⟨x41, ex41, hr⟩ := of_nm hr
        refine lv_iinc (v := x41) (lv' := [(5, .int x41), (0, .ref (ad k2)), (1, .int x3), (2, .int x4), (3, .int x5), (4, .int x6)]) cx.1 cx.2.1 dX12_isGiven_113 hl (k := 5) rfl (by rw [ex41]; rfl) (by decide) rfl (fun ls hl => ?_)
        refine lv_goto (tgt := 6) cx.1 cx.2.1 dX12_isGiven_116 (by decide) ?_
        exact hh0 k2 x3 x4 x5 x6 x41 g8 (Option.some.inj hr).symm H locs ls dy (lv_sub hl [1, 2, 3, 4, 5, 0] rfl)
noncomputable def r_X12_isGiven (V : Vk) (k0 : Nat) (a1 : Int32) (a2 : Int32) (a3 : Int32) (a4 : Int32) (g : Hq) : Option (Int32 × Hq) :=
  nm ((48 : Int32) * a1) fun x1 => (lop (r_X12_isGiven_6 V) (k0, a1, a2, a3, a4, x1, g))
set_option maxHeartbeats 4000000 in
set_option maxRecDepth 100000 in
theorem c_X12_isGiven {l : Launch} {D : va_G} {cA : Nat → ClassId} {sk : (Nat → Nat) × (Nat → Nat)} {ad : Nat → Nat} {A : Nat → Prop} {V : Vk} {k0 : Nat} {a1 : Int32} {a2 : Int32} {a3 : Int32} {a4 : Int32} {g g0 : Hq} {r0 : Int32} (hr : r_X12_isGiven V k0 a1 a2 a3 a4 g = some (r0, g0)) : Met l yX12_isGiven (wM yX12_isGiven cX12_isGiven 8 (some .boolean)) { frames := 1, cells := 0, slots := 0, locals := 22 } (Pre D cA sk ad (V, g) A [.ref (ad k0), .int a1, .int a2, .int a3, .int a4]) (QI D cA ad A r0 (V, g0)) 0 0 A := by
  refine Met.ofW (cc := cX12_isGiven) (maxL := 8) (ret := (some .boolean)) (by decide) rfl ?_
  intro p e s m args below meth c s₁ B hml hv
  obtain ⟨rfl, fx, w0⟩ := hv
  have hts := atoms_spec (ws := wM yX12_isGiven cX12_isGiven 8 (some .boolean)) B.pre
  have cx : CallFix p m c cX12_isGiven 8 s ([.ref (ad k0), .int a1, .int a2, .int a3, .int a4] : List Value).toArray gw_tbl RX12 := ⟨B.exec, B.bytes, hml, findClass_of_methodNamed B.named, fun w hw => hts w (List.mem_cons_of_mem _ hw)⟩
  have hlocks := B.notSynchronized
  have hret := B.returns
  have hR : 1 ≤ (headSpec (wM yX12_isGiven cX12_isGiven 8 (some .boolean)) { frames := 1, cells := 0, slots := 0, locals := 22 }).room.frames ∧ 22 ≤ (headSpec (wM yX12_isGiven cX12_isGiven 8 (some .boolean)) { frames := 1, cells := 0, slots := 0, locals := 22 }).room.locals := ⟨Nat.le_refl _, Nat.le_refl _⟩
  have dy : Dy D cA ad (V, g) A s.heap s.heap [] := ⟨w0, va_S.rf⟩
  have hl := lv_entry [.ref (ad k0), .int a1, .int a2, .int a3, .int a4] (n := 8) (Nat.le_of_ble_eq_true rfl)
  rw [lg_entry_eq]
  generalize (lg_sl [.ref (ad k0), .int a1, .int a2, .int a3, .int a4] ++ List.replicate (8 - (lg_sl [.ref (ad k0), .int a1, .int a2, .int a3, .int a4]).length) Slot.unset).toArray = ls at hl ⊢
  have hl : lv_has ls 8 [(0, .ref (ad k0)), (1, .int a1), (2, .int a2), (3, .int a3), (4, .int a4)] := hl
  have dy0 : ∃ H0, H0 = s.heap ∧ Dy D cA ad (V, g) A s.heap H0 [] := ⟨_, rfl, dy⟩
  obtain ⟨z, ez⟩ : ∃ z, z = (r0, g0) := ⟨_, rfl⟩
  rw [← ez] at hr
  have hq0 : ∀ (rb : Int32) (gb : Hq), z = (rb, gb) → rb = r0 ∧ gb = g0 := fun rb gb eb => by rw [ez] at eb; exact ⟨(congrArg Prod.fst eb).symm, (congrArg Prod.snd eb).symm⟩
  clear ez w0 dy0
  unfold r_X12_isGiven at hr
  obtain ⟨H, hH⟩ : ∃ H, H = s.heap := ⟨_, rfl⟩
  obtain ⟨locs, hlo⟩ : ∃ q : List Loc, q = [] := ⟨_, rfl⟩
  have dy : Dy D cA ad (V, g) A s.heap H locs := by rw [hH, hlo]; exact dy
  suffices K : W p l e (headSpec (wM yX12_isGiven cX12_isGiven 8 (some .boolean)) { frames := 1, cells := 0, slots := 0, locals := 22 }).room s m ([.ref (ad k0), .int a1, .int a2, .int a3, .int a4] : List Value).toArray below meth c H locs 0 0 (MQ below (QI D cA ad A r0 (V, g0)) ([.ref (ad k0), .int a1, .int a2, .int a3, .int a4] : List Value).toArray s 0 0 A) (F0 m 0 ls []) by rw [hH, hlo] at K; exact K
  clear hH hlo
  refine lv_bipush (v := 48) cx.1 cx.2.1 dX12_isGiven_0 (by decide) ?_
  refine lv_iload_n cx.1 cx.2.1 dX12_isGiven_2 rfl (lv_at hl 1 rfl) ?_
  refine lv_imul cx.1 cx.2.1 dX12_isGiven_3 ?_
  obtain ⟨x1, ex1, hr⟩ := of_nm hr
  refine lv_nmi ex1 ?_
  refine lv_istore (lv' := [(5, .int x1), (0, .ref (ad k0)), (1, .int a1), (2, .int a2), (3, .int a3), (4, .int a4)]) cx.1 cx.2.1 dX12_isGiven_4 hl (by decide) rfl (fun ls hl => ?_)
  obtain ⟨n, hr⟩ := lop_some hr
  exact w_X12_isGiven_6 cx fx hlocks hret hR r0 g0 z hq0 n k0 a1 a2 a3 a4 x1 g hr H locs ls dy (lv_sub hl [1, 2, 3, 4, 5, 0] rfl)
noncomputable def r_X12_may (V : Vk) (k0 : Nat) (a1 : Int32) (a2 : Int32) (a3 : Int32) (a4 : Int32) (g : Hq) : Option (Int32 × Hq) :=
  bnd (r_X12_isWard V a1 g) fun x2 g1 => brn (x2 = 0) (some ((-2 : Int32), g1)) (bnd (r_X12_in V a2 (0 : Int32) (2 : Int32) g1) fun x5 g4 => brn (x5 = 0) (some ((-2 : Int32), g4)) (bnd (r_X12_in V a3 (0 : Int32) (23 : Int32) g4) fun x8 g7 => brn (x8 = 0) (some ((-2 : Int32), g7)) (grd (V k0 = some (12, 0)) <| bnd (r_X12_isGiven V k0 a1 a2 a3 a4 g7) fun x11 g10 => brn (x11 = 0) (some ((0 : Int32), g10)) (some ((1 : Int32), g10)))))
set_option maxHeartbeats 4000000 in
set_option maxRecDepth 100000 in
theorem c_X12_may {l : Launch} {D : va_G} {cA : Nat → ClassId} {sk : (Nat → Nat) × (Nat → Nat)} {ad : Nat → Nat} {A : Nat → Prop} {V : Vk} {k0 : Nat} {a1 : Int32} {a2 : Int32} {a3 : Int32} {a4 : Int32} {g g0 : Hq} {r0 : Int32} (hr : r_X12_may V k0 a1 a2 a3 a4 g = some (r0, g0)) : Met l yX12_may (wM yX12_may cX12_may 5 (some .int)) { frames := 2, cells := 0, slots := 0, locals := 49 } (Pre D cA sk ad (V, g) A [.ref (ad k0), .int a1, .int a2, .int a3, .int a4]) (QI D cA ad A r0 (V, g0)) 0 0 A := by
  refine Met.ofW (cc := cX12_may) (maxL := 5) (ret := (some .int)) (by decide) rfl ?_
  intro p e s m args below meth c s₁ B hml hv
  obtain ⟨rfl, fx, w0⟩ := hv
  have hts := atoms_spec (ws := wM yX12_may cX12_may 5 (some .int)) B.pre
  have cx : CallFix p m c cX12_may 5 s ([.ref (ad k0), .int a1, .int a2, .int a3, .int a4] : List Value).toArray gw_tbl RX12 := ⟨B.exec, B.bytes, hml, findClass_of_methodNamed B.named, fun w hw => hts w (List.mem_cons_of_mem _ hw)⟩
  have hlocks := B.notSynchronized
  have hret := B.returns
  have hR : 2 ≤ (headSpec (wM yX12_may cX12_may 5 (some .int)) { frames := 2, cells := 0, slots := 0, locals := 49 }).room.frames ∧ 49 ≤ (headSpec (wM yX12_may cX12_may 5 (some .int)) { frames := 2, cells := 0, slots := 0, locals := 49 }).room.locals := ⟨Nat.le_refl _, Nat.le_refl _⟩
  have dy : Dy D cA ad (V, g) A s.heap s.heap [] := ⟨w0, va_S.rf⟩
  have hl := lv_entry [.ref (ad k0), .int a1, .int a2, .int a3, .int a4] (n := 5) (Nat.le_of_ble_eq_true rfl)
  rw [lg_entry_eq]
  generalize (lg_sl [.ref (ad k0), .int a1, .int a2, .int a3, .int a4] ++ List.replicate (5 - (lg_sl [.ref (ad k0), .int a1, .int a2, .int a3, .int a4]).length) Slot.unset).toArray = ls at hl ⊢
  have hl : lv_has ls 5 [(0, .ref (ad k0)), (1, .int a1), (2, .int a2), (3, .int a3), (4, .int a4)] := hl
  have dy0 : ∃ H0, H0 = s.heap ∧ Dy D cA ad (V, g) A s.heap H0 [] := ⟨_, rfl, dy⟩
  obtain ⟨z, ez⟩ : ∃ z, z = (r0, g0) := ⟨_, rfl⟩
  rw [← ez] at hr
  have hq0 : ∀ (rb : Int32) (gb : Hq), z = (rb, gb) → rb = r0 ∧ gb = g0 := fun rb gb eb => by rw [ez] at eb; exact ⟨(congrArg Prod.fst eb).symm, (congrArg Prod.snd eb).symm⟩
  clear ez w0 dy0
  unfold r_X12_may at hr
  obtain ⟨H, hH⟩ : ∃ H, H = s.heap := ⟨_, rfl⟩
  obtain ⟨locs, hlo⟩ : ∃ q : List Loc, q = [] := ⟨_, rfl⟩
  have dy : Dy D cA ad (V, g) A s.heap H locs := by rw [hH, hlo]; exact dy
  suffices K : W p l e (headSpec (wM yX12_may cX12_may 5 (some .int)) { frames := 2, cells := 0, slots := 0, locals := 49 }).room s m ([.ref (ad k0), .int a1, .int a2, .int a3, .int a4] : List Value).toArray below meth c H locs 0 0 (MQ below (QI D cA ad A r0 (V, g0)) ([.ref (ad k0), .int a1, .int a2, .int a3, .int a4] : List Value).toArray s 0 0 A) (F0 m 0 ls []) by rw [hH, hlo] at K; exact K
  clear hH hlo
  refine lv_iload_n cx.1 cx.2.1 dX12_may_0 rfl (lv_at hl 1 rfl) ?_
  obtain ⟨x2, g1, hc3, hr⟩ := of_bnd2 hr
  refine r_i dy (k_S (As := [.int a1]) cx fx dy (c_X12_isWard hc3) mv_X12_isWard rfl rfl ⟨Nat.le_trans (by decide) hR.1, Nat.le_trans (by decide) hR.2⟩ tb_1173 rfl hl.1 rfl (Nat.le_of_ble_eq_true rfl) ⟨Nat.zero_le _, Nat.zero_le _⟩ dX12_may_1) (fun H locs dy => ?_)
  rcases of_brn hr with ⟨hc, hr⟩ | ⟨hc, hr⟩
  · refine lv_if_eq (tgt := 26) cx.1 cx.2.1 dX12_may_4 (by decide) (fun _ => ?_) (fun hn => absurd hc hn)
    refine lv_bipush (v := (-2)) cx.1 cx.2.1 dX12_may_26 (by decide) ?_
    obtain ⟨e0, e1⟩ := hq0 _ _ (Option.some.inj hr).symm
    exact h_iret cx dy hlocks hret rfl e0 (by rw [e1]) dX12_may_28
  · refine lv_if_eq (tgt := 26) cx.1 cx.2.1 dX12_may_4 (by decide) (fun hn => absurd hn hc) (fun _ => ?_)
    refine lv_iload_n cx.1 cx.2.1 dX12_may_7 rfl (lv_at hl 2 rfl) ?_
    refine lv_iconst (v := 0) cx.1 cx.2.1 dX12_may_8 (by decide) ?_
    refine lv_iconst (v := 2) cx.1 cx.2.1 dX12_may_9 (by decide) ?_
    obtain ⟨x5, g4, hc6, hr⟩ := of_bnd2 hr
    refine r_i dy (k_S (As := [.int a2, .int (0 : Int32), .int (2 : Int32)]) cx fx dy (c_X12_in hc6) mv_X12_in rfl rfl ⟨Nat.le_trans (by decide) hR.1, Nat.le_trans (by decide) hR.2⟩ tb_1170 rfl hl.1 rfl (Nat.le_of_ble_eq_true rfl) ⟨Nat.zero_le _, Nat.zero_le _⟩ dX12_may_10) (fun H locs dy => ?_)
    rcases of_brn hr with ⟨hc, hr⟩ | ⟨hc, hr⟩
    · refine lv_if_eq (tgt := 26) cx.1 cx.2.1 dX12_may_13 (by decide) (fun _ => ?_) (fun hn => absurd hc hn)
      refine lv_bipush (v := (-2)) cx.1 cx.2.1 dX12_may_26 (by decide) ?_
      obtain ⟨e0, e1⟩ := hq0 _ _ (Option.some.inj hr).symm
      exact h_iret cx dy hlocks hret rfl e0 (by rw [e1]) dX12_may_28
    · refine lv_if_eq (tgt := 26) cx.1 cx.2.1 dX12_may_13 (by decide) (fun hn => absurd hn hc) (fun _ => ?_)
      refine lv_iload_n cx.1 cx.2.1 dX12_may_16 rfl (lv_at hl 3 rfl) ?_
      refine lv_iconst (v := 0) cx.1 cx.2.1 dX12_may_17 (by decide) ?_
      refine lv_bipush (v := 23) cx.1 cx.2.1 dX12_may_18 (by decide) ?_
      obtain ⟨x8, g7, hc9, hr⟩ := of_bnd2 hr
      refine r_i dy (k_S (As := [.int a3, .int (0 : Int32), .int (23 : Int32)]) cx fx dy (c_X12_in hc9) mv_X12_in rfl rfl ⟨Nat.le_trans (by decide) hR.1, Nat.le_trans (by decide) hR.2⟩ tb_1170 rfl hl.1 rfl (Nat.le_of_ble_eq_true rfl) ⟨Nat.zero_le _, Nat.zero_le _⟩ dX12_may_20) (fun H locs dy => ?_)
      rcases of_brn hr with ⟨hc, hr⟩ | ⟨hc, hr⟩
      · refine lv_if_ne (tgt := 29) cx.1 cx.2.1 dX12_may_23 (by decide) (fun hn => absurd hc hn) (fun _ => ?_)
        refine lv_bipush (v := (-2)) cx.1 cx.2.1 dX12_may_26 (by decide) ?_
        obtain ⟨e0, e1⟩ := hq0 _ _ (Option.some.inj hr).symm
        exact h_iret cx dy hlocks hret rfl e0 (by rw [e1]) dX12_may_28
      · refine lv_if_ne (tgt := 29) cx.1 cx.2.1 dX12_may_23 (by decide) (fun _ => ?_) (fun hn => absurd hn hc)
        refine lv_aload_n cx.1 cx.2.1 dX12_may_29 rfl (lv_at hl 0 rfl) ?_
        refine lv_iload_n cx.1 cx.2.1 dX12_may_30 rfl (lv_at hl 1 rfl) ?_
        refine lv_iload_n cx.1 cx.2.1 dX12_may_31 rfl (lv_at hl 2 rfl) ?_
        refine lv_iload_n cx.1 cx.2.1 dX12_may_32 rfl (lv_at hl 3 rfl) ?_
        refine lv_iload cx.1 cx.2.1 dX12_may_33 (lv_at hl 4 rfl) ?_
        obtain ⟨hv12, hr⟩ := of_grd hr
        obtain ⟨x11, g10, hc13, hr⟩ := of_bnd2 hr
        refine r_i dy (k_V (As := [.int a1, .int a2, .int a3, .int a4]) (b := k0) (ci := 12) cx fx dy (c_X12_isGiven hc13) mv_X12_isGiven rfl rfl ⟨Nat.le_trans (by decide) hR.1, Nat.le_trans (by decide) hR.2⟩ tb_1276 hv12 rfl (by decide) rfl hl.1 rfl (Nat.le_of_ble_eq_true rfl) ⟨Nat.zero_le _, Nat.zero_le _⟩ dX12_may_35) (fun H locs dy => ?_)
        rcases of_brn hr with ⟨hc, hr⟩ | ⟨hc, hr⟩
        · refine lv_if_eq (tgt := 45) cx.1 cx.2.1 dX12_may_38 (by decide) (fun _ => ?_) (fun hn => absurd hc hn)
          refine lv_iconst (v := 0) cx.1 cx.2.1 dX12_may_45 (by decide) ?_
          obtain ⟨e0, e1⟩ := hq0 _ _ (Option.some.inj hr).symm
          exact h_iret cx dy hlocks hret rfl e0 (by rw [e1]) dX12_may_46
        · refine lv_if_eq (tgt := 45) cx.1 cx.2.1 dX12_may_38 (by decide) (fun hn => absurd hn hc) (fun _ => ?_)
          refine lv_iconst (v := 1) cx.1 cx.2.1 dX12_may_41 (by decide) ?_
          refine lv_goto (tgt := 46) cx.1 cx.2.1 dX12_may_42 (by decide) ?_
          obtain ⟨e0, e1⟩ := hq0 _ _ (Option.some.inj hr).symm
          exact h_iret cx dy hlocks hret rfl e0 (by rw [e1]) dX12_may_46
noncomputable def r_X12_isHouse (V : Vk) (k0 : Nat) (a1 : Int32) (g : Hq) : Option (Int32 × Hq) :=
  grd (V k0 = some (12, 0)) <| bnd (r_X12_in V a1 (0 : Int32) ((g.1 k0 32) - (1 : Int32)) g) fun x3 g2 => grd (narrow .boolean (.int x3) = .int x3) <| some (x3, g2)
set_option maxHeartbeats 4000000 in
set_option maxRecDepth 100000 in
theorem c_X12_isHouse {l : Launch} {D : va_G} {cA : Nat → ClassId} {sk : (Nat → Nat) × (Nat → Nat)} {ad : Nat → Nat} {A : Nat → Prop} {V : Vk} {k0 : Nat} {a1 : Int32} {g g0 : Hq} {r0 : Int32} (hr : r_X12_isHouse V k0 a1 g = some (r0, g0)) : Met l yX12_isHouse (wM yX12_isHouse cX12_isHouse 2 (some .boolean)) { frames := 1, cells := 0, slots := 0, locals := 22 } (Pre D cA sk ad (V, g) A [.ref (ad k0), .int a1]) (QI D cA ad A r0 (V, g0)) 0 0 A := by
  refine Met.ofW (cc := cX12_isHouse) (maxL := 2) (ret := (some .boolean)) (by decide) rfl ?_
  intro p e s m args below meth c s₁ B hml hv
  obtain ⟨rfl, fx, w0⟩ := hv
  have hts := atoms_spec (ws := wM yX12_isHouse cX12_isHouse 2 (some .boolean)) B.pre
  have cx : CallFix p m c cX12_isHouse 2 s ([.ref (ad k0), .int a1] : List Value).toArray gw_tbl RX12 := ⟨B.exec, B.bytes, hml, findClass_of_methodNamed B.named, fun w hw => hts w (List.mem_cons_of_mem _ hw)⟩
  have hlocks := B.notSynchronized
  have hret := B.returns
  have hR : 1 ≤ (headSpec (wM yX12_isHouse cX12_isHouse 2 (some .boolean)) { frames := 1, cells := 0, slots := 0, locals := 22 }).room.frames ∧ 22 ≤ (headSpec (wM yX12_isHouse cX12_isHouse 2 (some .boolean)) { frames := 1, cells := 0, slots := 0, locals := 22 }).room.locals := ⟨Nat.le_refl _, Nat.le_refl _⟩
  have dy : Dy D cA ad (V, g) A s.heap s.heap [] := ⟨w0, va_S.rf⟩
  have hl := lv_entry [.ref (ad k0), .int a1] (n := 2) (Nat.le_of_ble_eq_true rfl)
  rw [lg_entry_eq]
  generalize (lg_sl [.ref (ad k0), .int a1] ++ List.replicate (2 - (lg_sl [.ref (ad k0), .int a1]).length) Slot.unset).toArray = ls at hl ⊢
  have hl : lv_has ls 2 [(0, .ref (ad k0)), (1, .int a1)] := hl
  have dy0 : ∃ H0, H0 = s.heap ∧ Dy D cA ad (V, g) A s.heap H0 [] := ⟨_, rfl, dy⟩
  obtain ⟨z, ez⟩ : ∃ z, z = (r0, g0) := ⟨_, rfl⟩
  rw [← ez] at hr
  have hq0 : ∀ (rb : Int32) (gb : Hq), z = (rb, gb) → rb = r0 ∧ gb = g0 := fun rb gb eb => by rw [ez] at eb; exact ⟨(congrArg Prod.fst eb).symm, (congrArg Prod.snd eb).symm⟩
  clear ez w0 dy0
  unfold r_X12_isHouse at hr
  obtain ⟨H, hH⟩ : ∃ H, H = s.heap := ⟨_, rfl⟩
  obtain ⟨locs, hlo⟩ : ∃ q : List Loc, q = [] := ⟨_, rfl⟩
  have dy : Dy D cA ad (V, g) A s.heap H locs := by rw [hH, hlo]; exact dy
  suffices K : W p l e (headSpec (wM yX12_isHouse cX12_isHouse 2 (some .boolean)) { frames := 1, cells := 0, slots := 0, locals := 22 }).room s m ([.ref (ad k0), .int a1] : List Value).toArray below meth c H locs 0 0 (MQ below (QI D cA ad A r0 (V, g0)) ([.ref (ad k0), .int a1] : List Value).toArray s 0 0 A) (F0 m 0 ls []) by rw [hH, hlo] at K; exact K
  clear hH hlo
  refine lv_iload_n cx.1 cx.2.1 dX12_isHouse_0 rfl (lv_at hl 1 rfl) ?_
  refine lv_iconst (v := 0) cx.1 cx.2.1 dX12_isHouse_1 (by decide) ?_
  refine lv_aload_n cx.1 cx.2.1 dX12_isHouse_2 rfl (lv_at hl 0 rfl) ?_
  obtain ⟨hv1, hr⟩ := of_grd hr
  refine h_getI cx fx dy fd_12_32 hv1 tb_1018 dX12_isHouse_3 ?_
  refine lv_iconst (v := 1) cx.1 cx.2.1 dX12_isHouse_6 (by decide) ?_
  refine lv_isub cx.1 cx.2.1 dX12_isHouse_7 ?_
  obtain ⟨x3, g2, hc4, hr⟩ := of_bnd2 hr
  refine r_i dy (k_S (As := [.int a1, .int (0 : Int32), .int ((g.1 k0 32) - (1 : Int32))]) cx fx dy (c_X12_in hc4) mv_X12_in rfl rfl ⟨Nat.le_trans (by decide) hR.1, Nat.le_trans (by decide) hR.2⟩ tb_1170 rfl hl.1 rfl (Nat.le_of_ble_eq_true rfl) ⟨Nat.zero_le _, Nat.zero_le _⟩ dX12_isHouse_8) (fun H locs dy => ?_)
  obtain ⟨hb5, hr⟩ := of_grd hr
  obtain ⟨e0, e1⟩ := hq0 _ _ (Option.some.inj hr).symm
  exact h_iret cx dy hlocks hret hb5 e0 (by rw [e1]) dX12_isHouse_11
noncomputable def r_X12_house (V : Vk) (k0 : Nat) (a1 : Int32) (a2 : Int32) (g : Hq) : Option (Int32 × Hq) :=
  bnd (r_X12_isWard V a1 g) fun x2 g1 => brn (x2 = 0) (some ((-2 : Int32), g1)) (bnd (r_X12_in V a2 (1500 : Int32) (1799 : Int32) g1) fun x5 g4 => brn (x5 = 0) (some ((-2 : Int32), g4)) (grd (V k0 = some (12, 0)) <| brn ((g4.1 k0 32) = (60 : Int32)) (some ((-3 : Int32), g4)) (Option.bind (g4.2.2 k0 33) fun k8 => grd (okV V k8 0 (g4.1 k0 32)) <| nm (sI g4 k8 (g4.1 k0 32).toNatClampNeg a1) fun g11 => Option.bind (g11.2.2 k0 34) fun k12 => grd (okV V k12 0 (g11.1 k0 32)) <| nm (sI g11 k12 (g11.1 k0 32).toNatClampNeg a2) fun g15 => Option.bind (g15.2.2 k0 37) fun k16 => grd (okV V k16 0 (g15.1 k0 32)) <| nm (sI g15 k16 (g15.1 k0 32).toNatClampNeg (-1 : Int32)) fun g19 => nm (sI g19 k0 32 ((g19.1 k0 32) + (1 : Int32))) fun g20 => some (((g20.1 k0 32) - (1 : Int32)), g20))))
set_option maxHeartbeats 4000000 in
set_option maxRecDepth 100000 in
theorem c_X12_house {l : Launch} {D : va_G} {cA : Nat → ClassId} {sk : (Nat → Nat) × (Nat → Nat)} {ad : Nat → Nat} {A : Nat → Prop} {V : Vk} {k0 : Nat} {a1 : Int32} {a2 : Int32} {g g0 : Hq} {r0 : Int32} (hr : r_X12_house V k0 a1 a2 g = some (r0, g0)) : Met l yX12_house (wM yX12_house cX12_house 3 (some .int)) { frames := 2, cells := 0, slots := 0, locals := 42 } (Pre D cA sk ad (V, g) A [.ref (ad k0), .int a1, .int a2]) (QI D cA ad A r0 (V, g0)) 0 0 A := by
  refine Met.ofW (cc := cX12_house) (maxL := 3) (ret := (some .int)) (by decide) rfl ?_
  intro p e s m args below meth c s₁ B hml hv
  obtain ⟨rfl, fx, w0⟩ := hv
  have hts := atoms_spec (ws := wM yX12_house cX12_house 3 (some .int)) B.pre
  have cx : CallFix p m c cX12_house 3 s ([.ref (ad k0), .int a1, .int a2] : List Value).toArray gw_tbl RX12 := ⟨B.exec, B.bytes, hml, findClass_of_methodNamed B.named, fun w hw => hts w (List.mem_cons_of_mem _ hw)⟩
  have hlocks := B.notSynchronized
  have hret := B.returns
  have hR : 2 ≤ (headSpec (wM yX12_house cX12_house 3 (some .int)) { frames := 2, cells := 0, slots := 0, locals := 42 }).room.frames ∧ 42 ≤ (headSpec (wM yX12_house cX12_house 3 (some .int)) { frames := 2, cells := 0, slots := 0, locals := 42 }).room.locals := ⟨Nat.le_refl _, Nat.le_refl _⟩
  have dy : Dy D cA ad (V, g) A s.heap s.heap [] := ⟨w0, va_S.rf⟩
  have hl := lv_entry [.ref (ad k0), .int a1, .int a2] (n := 3) (Nat.le_of_ble_eq_true rfl)
  rw [lg_entry_eq]
  generalize (lg_sl [.ref (ad k0), .int a1, .int a2] ++ List.replicate (3 - (lg_sl [.ref (ad k0), .int a1, .int a2]).length) Slot.unset).toArray = ls at hl ⊢
  have hl : lv_has ls 3 [(0, .ref (ad k0)), (1, .int a1), (2, .int a2)] := hl
  have dy0 : ∃ H0, H0 = s.heap ∧ Dy D cA ad (V, g) A s.heap H0 [] := ⟨_, rfl, dy⟩
  obtain ⟨z, ez⟩ : ∃ z, z = (r0, g0) := ⟨_, rfl⟩
  rw [← ez] at hr
  have hq0 : ∀ (rb : Int32) (gb : Hq), z = (rb, gb) → rb = r0 ∧ gb = g0 := fun rb gb eb => by rw [ez] at eb; exact ⟨(congrArg Prod.fst eb).symm, (congrArg Prod.snd eb).symm⟩
  clear ez w0 dy0
  unfold r_X12_house at hr
  obtain ⟨H, hH⟩ : ∃ H, H = s.heap := ⟨_, rfl⟩
  obtain ⟨locs, hlo⟩ : ∃ q : List Loc, q = [] := ⟨_, rfl⟩
  have dy : Dy D cA ad (V, g) A s.heap H locs := by rw [hH, hlo]; exact dy
  suffices K : W p l e (headSpec (wM yX12_house cX12_house 3 (some .int)) { frames := 2, cells := 0, slots := 0, locals := 42 }).room s m ([.ref (ad k0), .int a1, .int a2] : List Value).toArray below meth c H locs 0 0 (MQ below (QI D cA ad A r0 (V, g0)) ([.ref (ad k0), .int a1, .int a2] : List Value).toArray s 0 0 A) (F0 m 0 ls []) by rw [hH, hlo] at K; exact K
  clear hH hlo
  refine lv_iload_n cx.1 cx.2.1 dX12_house_0 rfl (lv_at hl 1 rfl) ?_
  obtain ⟨x2, g1, hc3, hr⟩ := of_bnd2 hr
  refine r_i dy (k_S (As := [.int a1]) cx fx dy (c_X12_isWard hc3) mv_X12_isWard rfl rfl ⟨Nat.le_trans (by decide) hR.1, Nat.le_trans (by decide) hR.2⟩ tb_1173 rfl hl.1 rfl (Nat.le_of_ble_eq_true rfl) ⟨Nat.zero_le _, Nat.zero_le _⟩ dX12_house_1) (fun H locs dy => ?_)
  rcases of_brn hr with ⟨hc, hr⟩ | ⟨hc, hr⟩
  · refine lv_if_eq (tgt := 20) cx.1 cx.2.1 dX12_house_4 (by decide) (fun _ => ?_) (fun hn => absurd hc hn)
    refine lv_bipush (v := (-2)) cx.1 cx.2.1 dX12_house_20 (by decide) ?_
    obtain ⟨e0, e1⟩ := hq0 _ _ (Option.some.inj hr).symm
    exact h_iret cx dy hlocks hret rfl e0 (by rw [e1]) dX12_house_22
  · refine lv_if_eq (tgt := 20) cx.1 cx.2.1 dX12_house_4 (by decide) (fun hn => absurd hn hc) (fun _ => ?_)
    refine lv_iload_n cx.1 cx.2.1 dX12_house_7 rfl (lv_at hl 2 rfl) ?_
    refine lv_sipush (v := 1500) cx.1 cx.2.1 dX12_house_8 (by decide) ?_
    refine lv_sipush (v := 1799) cx.1 cx.2.1 dX12_house_11 (by decide) ?_
    obtain ⟨x5, g4, hc6, hr⟩ := of_bnd2 hr
    refine r_i dy (k_S (As := [.int a2, .int (1500 : Int32), .int (1799 : Int32)]) cx fx dy (c_X12_in hc6) mv_X12_in rfl rfl ⟨Nat.le_trans (by decide) hR.1, Nat.le_trans (by decide) hR.2⟩ tb_1170 rfl hl.1 rfl (Nat.le_of_ble_eq_true rfl) ⟨Nat.zero_le _, Nat.zero_le _⟩ dX12_house_14) (fun H locs dy => ?_)
    rcases of_brn hr with ⟨hc, hr⟩ | ⟨hc, hr⟩
    · refine lv_if_ne (tgt := 23) cx.1 cx.2.1 dX12_house_17 (by decide) (fun hn => absurd hc hn) (fun _ => ?_)
      refine lv_bipush (v := (-2)) cx.1 cx.2.1 dX12_house_20 (by decide) ?_
      obtain ⟨e0, e1⟩ := hq0 _ _ (Option.some.inj hr).symm
      exact h_iret cx dy hlocks hret rfl e0 (by rw [e1]) dX12_house_22
    · refine lv_if_ne (tgt := 23) cx.1 cx.2.1 dX12_house_17 (by decide) (fun _ => ?_) (fun hn => absurd hn hc)
      refine lv_aload_n cx.1 cx.2.1 dX12_house_23 rfl (lv_at hl 0 rfl) ?_
      obtain ⟨hv7, hr⟩ := of_grd hr
      refine h_getI cx fx dy fd_12_32 hv7 tb_1018 dX12_house_24 ?_
      refine lv_bipush (v := 60) cx.1 cx.2.1 dX12_house_27 (by decide) ?_
      rcases of_brn hr with ⟨hc, hr⟩ | ⟨hc, hr⟩
      · refine lv_icmp_ne (tgt := 35) cx.1 cx.2.1 dX12_house_29 (by decide) (fun hn => absurd hc hn) (fun _ => ?_)
        refine lv_bipush (v := (-3)) cx.1 cx.2.1 dX12_house_32 (by decide) ?_
        obtain ⟨e0, e1⟩ := hq0 _ _ (Option.some.inj hr).symm
        exact h_iret cx dy hlocks hret rfl e0 (by rw [e1]) dX12_house_34
      · refine lv_icmp_ne (tgt := 35) cx.1 cx.2.1 dX12_house_29 (by decide) (fun _ => ?_) (fun hn => absurd hn hc)
        refine lv_aload_n cx.1 cx.2.1 dX12_house_35 rfl (lv_at hl 0 rfl) ?_
        obtain ⟨k8, hf9, hr⟩ := of_bnd hr
        refine h_getR cx fx dy fd_12_33 hv7 tb_1019 hf9 dX12_house_36 ?_
        refine lv_aload_n cx.1 cx.2.1 dX12_house_39 rfl (lv_at hl 0 rfl) ?_
        refine h_getI cx fx dy fd_12_32 hv7 tb_1018 dX12_house_40 ?_
        refine lv_iload_n cx.1 cx.2.1 dX12_house_43 rfl (lv_at hl 1 rfl) ?_
        obtain ⟨ha10, hr⟩ := of_grd hr
        obtain ⟨g11, eg11, hr⟩ := of_nm hr
        refine h_iast cx fx dy ha10 dX12_house_44 (fun H locs dy => ?_)
        replace dy : Dy D cA ad (V, g11) A s.heap H locs := by rw [eg11]; exact dy
        refine lv_aload_n cx.1 cx.2.1 dX12_house_45 rfl (lv_at hl 0 rfl) ?_
        obtain ⟨k12, hf13, hr⟩ := of_bnd hr
        refine h_getR cx fx dy fd_12_34 hv7 tb_1020 hf13 dX12_house_46 ?_
        refine lv_aload_n cx.1 cx.2.1 dX12_house_49 rfl (lv_at hl 0 rfl) ?_
        refine h_getI cx fx dy fd_12_32 hv7 tb_1018 dX12_house_50 ?_
        refine lv_iload_n cx.1 cx.2.1 dX12_house_53 rfl (lv_at hl 2 rfl) ?_
        obtain ⟨ha14, hr⟩ := of_grd hr
        obtain ⟨g15, eg15, hr⟩ := of_nm hr
        refine h_iast cx fx dy ha14 dX12_house_54 (fun H locs dy => ?_)
        replace dy : Dy D cA ad (V, g15) A s.heap H locs := by rw [eg15]; exact dy
        refine lv_aload_n cx.1 cx.2.1 dX12_house_55 rfl (lv_at hl 0 rfl) ?_
        obtain ⟨k16, hf17, hr⟩ := of_bnd hr
        refine h_getR cx fx dy fd_12_37 hv7 tb_1023 hf17 dX12_house_56 ?_
        refine lv_aload_n cx.1 cx.2.1 dX12_house_59 rfl (lv_at hl 0 rfl) ?_
        refine h_getI cx fx dy fd_12_32 hv7 tb_1018 dX12_house_60 ?_
        refine lv_iconst (v := (-1)) cx.1 cx.2.1 dX12_house_63 (by decide) ?_
        obtain ⟨ha18, hr⟩ := of_grd hr
        obtain ⟨g19, eg19, hr⟩ := of_nm hr
        refine h_iast cx fx dy ha18 dX12_house_64 (fun H locs dy => ?_)
        replace dy : Dy D cA ad (V, g19) A s.heap H locs := by rw [eg19]; exact dy
        refine lv_aload_n cx.1 cx.2.1 dX12_house_65 rfl (lv_at hl 0 rfl) ?_
        refine lv_dup cx.1 cx.2.1 dX12_house_66 rfl ?_
        refine h_getI cx fx dy fd_12_32 hv7 tb_1018 dX12_house_67 ?_
        refine lv_iconst (v := 1) cx.1 cx.2.1 dX12_house_70 (by decide) ?_
        refine lv_iadd cx.1 cx.2.1 dX12_house_71 ?_
        obtain ⟨g20, eg20, hr⟩ := of_nm hr
        refine h_putI cx fx dy fd_12_32 (pd_12_32 : PD _ _ _ _ _ .int) rfl rfl rfl hv7 tb_1018 dX12_house_72 (fun H locs dy => ?_)
        replace dy : Dy D cA ad (V, g20) A s.heap H locs := by rw [eg20]; exact dy
        refine lv_aload_n cx.1 cx.2.1 dX12_house_75 rfl (lv_at hl 0 rfl) ?_
        refine h_getI cx fx dy fd_12_32 hv7 tb_1018 dX12_house_76 ?_
        refine lv_iconst (v := 1) cx.1 cx.2.1 dX12_house_79 (by decide) ?_
        refine lv_isub cx.1 cx.2.1 dX12_house_80 ?_
        obtain ⟨e0, e1⟩ := hq0 _ _ (Option.some.inj hr).symm
        exact h_iret cx dy hlocks hret rfl e0 (by rw [e1]) dX12_house_81
noncomputable def r_X12_purse (V : Vk) (k0 : Nat) (a1 : Int32) (a2 : Int32) (g : Hq) : Option (Int32 × Hq) :=
  grd (V k0 = some (12, 0)) <| bnd (r_X12_isHouse V k0 a1 g) fun x2 g1 => brn (x2 = 0) (some ((-2 : Int32), g1)) (bnd (r_X12_in V a2 (1 : Int32) (100000 : Int32) g1) fun x6 g5 => brn (x6 = 0) (some ((-2 : Int32), g5)) (Option.bind (g5.2.2 k0 35) fun k8 => grd (okV V k8 0 a1) <| brn (((g5.1 k8 a1.toNatClampNeg) + a2) ≤ (1000000 : Int32)) (Option.bind (g5.2.2 k0 35) fun k11 => grd (okV V k11 0 a1) <| grd (okV V k11 0 a1) <| nm (sI g5 k11 a1.toNatClampNeg ((g5.1 k11 a1.toNatClampNeg) + a2)) fun g15 => Option.bind (g15.2.2 k0 35) fun k16 => grd (okV V k16 0 a1) <| some ((g15.1 k16 a1.toNatClampNeg), g15)) (some ((-2 : Int32), g5))))
set_option maxHeartbeats 4000000 in
set_option maxRecDepth 100000 in
theorem c_X12_purse {l : Launch} {D : va_G} {cA : Nat → ClassId} {sk : (Nat → Nat) × (Nat → Nat)} {ad : Nat → Nat} {A : Nat → Prop} {V : Vk} {k0 : Nat} {a1 : Int32} {a2 : Int32} {g g0 : Hq} {r0 : Int32} (hr : r_X12_purse V k0 a1 a2 g = some (r0, g0)) : Met l yX12_purse (wM yX12_purse cX12_purse 3 (some .int)) { frames := 2, cells := 0, slots := 0, locals := 43 } (Pre D cA sk ad (V, g) A [.ref (ad k0), .int a1, .int a2]) (QI D cA ad A r0 (V, g0)) 0 0 A := by
  refine Met.ofW (cc := cX12_purse) (maxL := 3) (ret := (some .int)) (by decide) rfl ?_
  intro p e s m args below meth c s₁ B hml hv
  obtain ⟨rfl, fx, w0⟩ := hv
  have hts := atoms_spec (ws := wM yX12_purse cX12_purse 3 (some .int)) B.pre
  have cx : CallFix p m c cX12_purse 3 s ([.ref (ad k0), .int a1, .int a2] : List Value).toArray gw_tbl RX12 := ⟨B.exec, B.bytes, hml, findClass_of_methodNamed B.named, fun w hw => hts w (List.mem_cons_of_mem _ hw)⟩
  have hlocks := B.notSynchronized
  have hret := B.returns
  have hR : 2 ≤ (headSpec (wM yX12_purse cX12_purse 3 (some .int)) { frames := 2, cells := 0, slots := 0, locals := 43 }).room.frames ∧ 43 ≤ (headSpec (wM yX12_purse cX12_purse 3 (some .int)) { frames := 2, cells := 0, slots := 0, locals := 43 }).room.locals := ⟨Nat.le_refl _, Nat.le_refl _⟩
  have dy : Dy D cA ad (V, g) A s.heap s.heap [] := ⟨w0, va_S.rf⟩
  have hl := lv_entry [.ref (ad k0), .int a1, .int a2] (n := 3) (Nat.le_of_ble_eq_true rfl)
  rw [lg_entry_eq]
  generalize (lg_sl [.ref (ad k0), .int a1, .int a2] ++ List.replicate (3 - (lg_sl [.ref (ad k0), .int a1, .int a2]).length) Slot.unset).toArray = ls at hl ⊢
  have hl : lv_has ls 3 [(0, .ref (ad k0)), (1, .int a1), (2, .int a2)] := hl
  have dy0 : ∃ H0, H0 = s.heap ∧ Dy D cA ad (V, g) A s.heap H0 [] := ⟨_, rfl, dy⟩
  obtain ⟨z, ez⟩ : ∃ z, z = (r0, g0) := ⟨_, rfl⟩
  rw [← ez] at hr
  have hq0 : ∀ (rb : Int32) (gb : Hq), z = (rb, gb) → rb = r0 ∧ gb = g0 := fun rb gb eb => by rw [ez] at eb; exact ⟨(congrArg Prod.fst eb).symm, (congrArg Prod.snd eb).symm⟩
  clear ez w0 dy0
  unfold r_X12_purse at hr
  obtain ⟨H, hH⟩ : ∃ H, H = s.heap := ⟨_, rfl⟩
  obtain ⟨locs, hlo⟩ : ∃ q : List Loc, q = [] := ⟨_, rfl⟩
  have dy : Dy D cA ad (V, g) A s.heap H locs := by rw [hH, hlo]; exact dy
  suffices K : W p l e (headSpec (wM yX12_purse cX12_purse 3 (some .int)) { frames := 2, cells := 0, slots := 0, locals := 43 }).room s m ([.ref (ad k0), .int a1, .int a2] : List Value).toArray below meth c H locs 0 0 (MQ below (QI D cA ad A r0 (V, g0)) ([.ref (ad k0), .int a1, .int a2] : List Value).toArray s 0 0 A) (F0 m 0 ls []) by rw [hH, hlo] at K; exact K
  clear hH hlo
  refine lv_aload_n cx.1 cx.2.1 dX12_purse_0 rfl (lv_at hl 0 rfl) ?_
  refine lv_iload_n cx.1 cx.2.1 dX12_purse_1 rfl (lv_at hl 1 rfl) ?_
  obtain ⟨hv3, hr⟩ := of_grd hr
  obtain ⟨x2, g1, hc4, hr⟩ := of_bnd2 hr
  refine r_i dy (k_V (As := [.int a1]) (b := k0) (ci := 12) cx fx dy (c_X12_isHouse hc4) mv_X12_isHouse rfl rfl ⟨Nat.le_trans (by decide) hR.1, Nat.le_trans (by decide) hR.2⟩ tb_1288 hv3 rfl (by decide) rfl hl.1 rfl (Nat.le_of_ble_eq_true rfl) ⟨Nat.zero_le _, Nat.zero_le _⟩ dX12_purse_2) (fun H locs dy => ?_)
  rcases of_brn hr with ⟨hc, hr⟩ | ⟨hc, hr⟩
  · refine lv_if_eq (tgt := 32) cx.1 cx.2.1 dX12_purse_5 (by decide) (fun _ => ?_) (fun hn => absurd hc hn)
    refine lv_bipush (v := (-2)) cx.1 cx.2.1 dX12_purse_32 (by decide) ?_
    obtain ⟨e0, e1⟩ := hq0 _ _ (Option.some.inj hr).symm
    exact h_iret cx dy hlocks hret rfl e0 (by rw [e1]) dX12_purse_34
  · refine lv_if_eq (tgt := 32) cx.1 cx.2.1 dX12_purse_5 (by decide) (fun hn => absurd hn hc) (fun _ => ?_)
    refine lv_iload_n cx.1 cx.2.1 dX12_purse_8 rfl (lv_at hl 2 rfl) ?_
    refine lv_iconst (v := 1) cx.1 cx.2.1 dX12_purse_9 (by decide) ?_
    refine lv_ldcw (v := (100000)) cx.1 cx.2.1 cx.2.2.2.1 (cx.2.2.2.2 _ tb_1292) dX12_purse_10 ?_
    obtain ⟨x6, g5, hc7, hr⟩ := of_bnd2 hr
    refine r_i dy (k_S (As := [.int a2, .int (1 : Int32), .int (100000 : Int32)]) cx fx dy (c_X12_in hc7) mv_X12_in rfl rfl ⟨Nat.le_trans (by decide) hR.1, Nat.le_trans (by decide) hR.2⟩ tb_1170 rfl hl.1 rfl (Nat.le_of_ble_eq_true rfl) ⟨Nat.zero_le _, Nat.zero_le _⟩ dX12_purse_13) (fun H locs dy => ?_)
    rcases of_brn hr with ⟨hc, hr⟩ | ⟨hc, hr⟩
    · refine lv_if_eq (tgt := 32) cx.1 cx.2.1 dX12_purse_16 (by decide) (fun _ => ?_) (fun hn => absurd hc hn)
      refine lv_bipush (v := (-2)) cx.1 cx.2.1 dX12_purse_32 (by decide) ?_
      obtain ⟨e0, e1⟩ := hq0 _ _ (Option.some.inj hr).symm
      exact h_iret cx dy hlocks hret rfl e0 (by rw [e1]) dX12_purse_34
    · refine lv_if_eq (tgt := 32) cx.1 cx.2.1 dX12_purse_16 (by decide) (fun hn => absurd hn hc) (fun _ => ?_)
      refine lv_aload_n cx.1 cx.2.1 dX12_purse_19 rfl (lv_at hl 0 rfl) ?_
      obtain ⟨k8, hf9, hr⟩ := of_bnd hr
      refine h_getR cx fx dy fd_12_35 hv3 tb_1021 hf9 dX12_purse_20 ?_
      refine lv_iload_n cx.1 cx.2.1 dX12_purse_23 rfl (lv_at hl 1 rfl) ?_
      obtain ⟨ha10, hr⟩ := of_grd hr
      refine h_iald cx fx dy ha10 dX12_purse_24 ?_
      refine lv_iload_n cx.1 cx.2.1 dX12_purse_25 rfl (lv_at hl 2 rfl) ?_
      refine lv_iadd cx.1 cx.2.1 dX12_purse_26 ?_
      refine lv_ldc (v := (1000000)) cx.1 cx.2.1 cx.2.2.2.1 (cx.2.2.2.2 _ tb_985) dX12_purse_27 ?_
      rcases of_brn hr with ⟨hc, hr⟩ | ⟨hc, hr⟩
      · refine lv_icmp_le (tgt := 35) cx.1 cx.2.1 dX12_purse_29 (by decide) (fun _ => ?_) (fun hn => absurd hc hn)
        refine lv_aload_n cx.1 cx.2.1 dX12_purse_35 rfl (lv_at hl 0 rfl) ?_
        obtain ⟨k11, hf12, hr⟩ := of_bnd hr
        refine h_getR cx fx dy fd_12_35 hv3 tb_1021 hf12 dX12_purse_36 ?_
        refine lv_iload_n cx.1 cx.2.1 dX12_purse_39 rfl (lv_at hl 1 rfl) ?_
        refine lv_dup2_11 cx.1 cx.2.1 dX12_purse_40 rfl rfl ?_
        obtain ⟨ha13, hr⟩ := of_grd hr
        refine h_iald cx fx dy ha13 dX12_purse_41 ?_
        refine lv_iload_n cx.1 cx.2.1 dX12_purse_42 rfl (lv_at hl 2 rfl) ?_
        refine lv_iadd cx.1 cx.2.1 dX12_purse_43 ?_
        obtain ⟨ha14, hr⟩ := of_grd hr
        obtain ⟨g15, eg15, hr⟩ := of_nm hr
        refine h_iast cx fx dy ha14 dX12_purse_44 (fun H locs dy => ?_)
        replace dy : Dy D cA ad (V, g15) A s.heap H locs := by rw [eg15]; exact dy
        refine lv_aload_n cx.1 cx.2.1 dX12_purse_45 rfl (lv_at hl 0 rfl) ?_
        obtain ⟨k16, hf17, hr⟩ := of_bnd hr
        refine h_getR cx fx dy fd_12_35 hv3 tb_1021 hf17 dX12_purse_46 ?_
        refine lv_iload_n cx.1 cx.2.1 dX12_purse_49 rfl (lv_at hl 1 rfl) ?_
        obtain ⟨ha18, hr⟩ := of_grd hr
        refine h_iald cx fx dy ha18 dX12_purse_50 ?_
        obtain ⟨e0, e1⟩ := hq0 _ _ (Option.some.inj hr).symm
        exact h_iret cx dy hlocks hret rfl e0 (by rw [e1]) dX12_purse_51
      · refine lv_icmp_le (tgt := 35) cx.1 cx.2.1 dX12_purse_29 (by decide) (fun hn => absurd hn hc) (fun _ => ?_)
        refine lv_bipush (v := (-2)) cx.1 cx.2.1 dX12_purse_32 (by decide) ?_
        obtain ⟨e0, e1⟩ := hq0 _ _ (Option.some.inj hr).symm
        exact h_iret cx dy hlocks hret rfl e0 (by rw [e1]) dX12_purse_34
noncomputable def r_X12_would (V : Vk) (k0 : Nat) (a1 : Int32) (a2 : Int32) (g : Hq) : Option (Int32 × Hq) :=
  grd (V k0 = some (12, 0)) <| bnd (r_X12_isHouse V k0 a1 g) fun x2 g1 => brn (x2 = 0) (some ((-2 : Int32), g1)) (bnd (r_X12_in V a2 (0 : Int32) (2 : Int32) g1) fun x6 g5 => brn (x6 = 0) (some ((-2 : Int32), g5)) (Option.bind (g5.2.2 k0 36) fun k8 => grd (okV V k8 0 a1) <| nm (g5.1 k8 a1.toNatClampNeg) fun x11 => Option.bind (g5.2.2 k0 36) fun k12 => grd (okV V k12 0 a1) <| nm (sI g5 k12 a1.toNatClampNeg a2) fun g15 => some (x11, g15)))
set_option maxHeartbeats 4000000 in
set_option maxRecDepth 100000 in
theorem c_X12_would {l : Launch} {D : va_G} {cA : Nat → ClassId} {sk : (Nat → Nat) × (Nat → Nat)} {ad : Nat → Nat} {A : Nat → Prop} {V : Vk} {k0 : Nat} {a1 : Int32} {a2 : Int32} {g g0 : Hq} {r0 : Int32} (hr : r_X12_would V k0 a1 a2 g = some (r0, g0)) : Met l yX12_would (wM yX12_would cX12_would 4 (some .int)) { frames := 2, cells := 0, slots := 0, locals := 43 } (Pre D cA sk ad (V, g) A [.ref (ad k0), .int a1, .int a2]) (QI D cA ad A r0 (V, g0)) 0 0 A := by
  refine Met.ofW (cc := cX12_would) (maxL := 4) (ret := (some .int)) (by decide) rfl ?_
  intro p e s m args below meth c s₁ B hml hv
  obtain ⟨rfl, fx, w0⟩ := hv
  have hts := atoms_spec (ws := wM yX12_would cX12_would 4 (some .int)) B.pre
  have cx : CallFix p m c cX12_would 4 s ([.ref (ad k0), .int a1, .int a2] : List Value).toArray gw_tbl RX12 := ⟨B.exec, B.bytes, hml, findClass_of_methodNamed B.named, fun w hw => hts w (List.mem_cons_of_mem _ hw)⟩
  have hlocks := B.notSynchronized
  have hret := B.returns
  have hR : 2 ≤ (headSpec (wM yX12_would cX12_would 4 (some .int)) { frames := 2, cells := 0, slots := 0, locals := 43 }).room.frames ∧ 43 ≤ (headSpec (wM yX12_would cX12_would 4 (some .int)) { frames := 2, cells := 0, slots := 0, locals := 43 }).room.locals := ⟨Nat.le_refl _, Nat.le_refl _⟩
  have dy : Dy D cA ad (V, g) A s.heap s.heap [] := ⟨w0, va_S.rf⟩
  have hl := lv_entry [.ref (ad k0), .int a1, .int a2] (n := 4) (Nat.le_of_ble_eq_true rfl)
  rw [lg_entry_eq]
  generalize (lg_sl [.ref (ad k0), .int a1, .int a2] ++ List.replicate (4 - (lg_sl [.ref (ad k0), .int a1, .int a2]).length) Slot.unset).toArray = ls at hl ⊢
  have hl : lv_has ls 4 [(0, .ref (ad k0)), (1, .int a1), (2, .int a2)] := hl
  have dy0 : ∃ H0, H0 = s.heap ∧ Dy D cA ad (V, g) A s.heap H0 [] := ⟨_, rfl, dy⟩
  obtain ⟨z, ez⟩ : ∃ z, z = (r0, g0) := ⟨_, rfl⟩
  rw [← ez] at hr
  have hq0 : ∀ (rb : Int32) (gb : Hq), z = (rb, gb) → rb = r0 ∧ gb = g0 := fun rb gb eb => by rw [ez] at eb; exact ⟨(congrArg Prod.fst eb).symm, (congrArg Prod.snd eb).symm⟩
  clear ez w0 dy0
  unfold r_X12_would at hr
  obtain ⟨H, hH⟩ : ∃ H, H = s.heap := ⟨_, rfl⟩
  obtain ⟨locs, hlo⟩ : ∃ q : List Loc, q = [] := ⟨_, rfl⟩
  have dy : Dy D cA ad (V, g) A s.heap H locs := by rw [hH, hlo]; exact dy
  suffices K : W p l e (headSpec (wM yX12_would cX12_would 4 (some .int)) { frames := 2, cells := 0, slots := 0, locals := 43 }).room s m ([.ref (ad k0), .int a1, .int a2] : List Value).toArray below meth c H locs 0 0 (MQ below (QI D cA ad A r0 (V, g0)) ([.ref (ad k0), .int a1, .int a2] : List Value).toArray s 0 0 A) (F0 m 0 ls []) by rw [hH, hlo] at K; exact K
  clear hH hlo
  refine lv_aload_n cx.1 cx.2.1 dX12_would_0 rfl (lv_at hl 0 rfl) ?_
  refine lv_iload_n cx.1 cx.2.1 dX12_would_1 rfl (lv_at hl 1 rfl) ?_
  obtain ⟨hv3, hr⟩ := of_grd hr
  obtain ⟨x2, g1, hc4, hr⟩ := of_bnd2 hr
  refine r_i dy (k_V (As := [.int a1]) (b := k0) (ci := 12) cx fx dy (c_X12_isHouse hc4) mv_X12_isHouse rfl rfl ⟨Nat.le_trans (by decide) hR.1, Nat.le_trans (by decide) hR.2⟩ tb_1288 hv3 rfl (by decide) rfl hl.1 rfl (Nat.le_of_ble_eq_true rfl) ⟨Nat.zero_le _, Nat.zero_le _⟩ dX12_would_2) (fun H locs dy => ?_)
  rcases of_brn hr with ⟨hc, hr⟩ | ⟨hc, hr⟩
  · refine lv_if_eq (tgt := 17) cx.1 cx.2.1 dX12_would_5 (by decide) (fun _ => ?_) (fun hn => absurd hc hn)
    refine lv_bipush (v := (-2)) cx.1 cx.2.1 dX12_would_17 (by decide) ?_
    obtain ⟨e0, e1⟩ := hq0 _ _ (Option.some.inj hr).symm
    exact h_iret cx dy hlocks hret rfl e0 (by rw [e1]) dX12_would_19
  · refine lv_if_eq (tgt := 17) cx.1 cx.2.1 dX12_would_5 (by decide) (fun hn => absurd hn hc) (fun _ => ?_)
    refine lv_iload_n cx.1 cx.2.1 dX12_would_8 rfl (lv_at hl 2 rfl) ?_
    refine lv_iconst (v := 0) cx.1 cx.2.1 dX12_would_9 (by decide) ?_
    refine lv_iconst (v := 2) cx.1 cx.2.1 dX12_would_10 (by decide) ?_
    obtain ⟨x6, g5, hc7, hr⟩ := of_bnd2 hr
    refine r_i dy (k_S (As := [.int a2, .int (0 : Int32), .int (2 : Int32)]) cx fx dy (c_X12_in hc7) mv_X12_in rfl rfl ⟨Nat.le_trans (by decide) hR.1, Nat.le_trans (by decide) hR.2⟩ tb_1170 rfl hl.1 rfl (Nat.le_of_ble_eq_true rfl) ⟨Nat.zero_le _, Nat.zero_le _⟩ dX12_would_11) (fun H locs dy => ?_)
    rcases of_brn hr with ⟨hc, hr⟩ | ⟨hc, hr⟩
    · refine lv_if_ne (tgt := 20) cx.1 cx.2.1 dX12_would_14 (by decide) (fun hn => absurd hc hn) (fun _ => ?_)
      refine lv_bipush (v := (-2)) cx.1 cx.2.1 dX12_would_17 (by decide) ?_
      obtain ⟨e0, e1⟩ := hq0 _ _ (Option.some.inj hr).symm
      exact h_iret cx dy hlocks hret rfl e0 (by rw [e1]) dX12_would_19
    · refine lv_if_ne (tgt := 20) cx.1 cx.2.1 dX12_would_14 (by decide) (fun _ => ?_) (fun hn => absurd hn hc)
      refine lv_aload_n cx.1 cx.2.1 dX12_would_20 rfl (lv_at hl 0 rfl) ?_
      obtain ⟨k8, hf9, hr⟩ := of_bnd hr
      refine h_getR cx fx dy fd_12_36 hv3 tb_1022 hf9 dX12_would_21 ?_
      refine lv_iload_n cx.1 cx.2.1 dX12_would_24 rfl (lv_at hl 1 rfl) ?_
      obtain ⟨ha10, hr⟩ := of_grd hr
      refine h_iald cx fx dy ha10 dX12_would_25 ?_
      obtain ⟨x11, ex11, hr⟩ := of_nm hr
      refine lv_nmi ex11 ?_
      refine lv_istore_n (lv' := [(3, .int x11), (0, .ref (ad k0)), (1, .int a1), (2, .int a2)]) cx.1 cx.2.1 dX12_would_26 rfl hl (by decide) rfl (fun ls hl => ?_)
      refine lv_aload_n cx.1 cx.2.1 dX12_would_27 rfl (lv_at hl 1 rfl) ?_
      obtain ⟨k12, hf13, hr⟩ := of_bnd hr
      refine h_getR cx fx dy fd_12_36 hv3 tb_1022 hf13 dX12_would_28 ?_
      refine lv_iload_n cx.1 cx.2.1 dX12_would_31 rfl (lv_at hl 2 rfl) ?_
      refine lv_iload_n cx.1 cx.2.1 dX12_would_32 rfl (lv_at hl 3 rfl) ?_
      obtain ⟨ha14, hr⟩ := of_grd hr
      obtain ⟨g15, eg15, hr⟩ := of_nm hr
      refine h_iast cx fx dy ha14 dX12_would_33 (fun H locs dy => ?_)
      replace dy : Dy D cA ad (V, g15) A s.heap H locs := by rw [eg15]; exact dy
      refine lv_iload_n cx.1 cx.2.1 dX12_would_34 rfl (lv_at hl 0 rfl) ?_
      obtain ⟨e0, e1⟩ := hq0 _ _ (Option.some.inj hr).symm
      exact h_iret cx dy hlocks hret rfl e0 (by rw [e1]) dX12_would_35
noncomputable def r_X12_turns_105 (V : Vk) (k29 : Nat) (x30 : Int32) (x31 : Int32) (x32 : Int32) (g33 : Hq) : Option (Unit × Hq) :=
  grd (V k29 = some (12, 0)) <| Option.bind (g33.2.2 k29 42) fun k35 => grd (okV V k35 0 x31) <| nm (sI g33 k35 x31.toNatClampNeg x30) fun g38 => Option.bind (g38.2.2 k29 36) fun k39 => grd (okV V k39 0 x30) <| brn ((g38.1 k39 x30.toNatClampNeg) = (1 : Int32)) (brn (x32 = (-1 : Int32)) (some ((), g38)) (Option.bind (g38.2.2 k29 35) fun k42 => grd (okV V k42 0 x30) <| brn (x32 ≤ (g38.1 k42 x30.toNatClampNeg)) (Option.bind (g38.2.2 k29 35) fun k45 => grd (okV V k45 0 x30) <| grd (okV V k45 0 x30) <| nm (sI g38 k45 x30.toNatClampNeg ((g38.1 k45 x30.toNatClampNeg) - x32)) fun g49 => Option.bind (g49.2.2 k29 43) fun k50 => grd (okV V k50 2 x31) <| nm (sI g49 k50 x31.toNatClampNeg (vp_nar .boolean (1 : Int32))) fun g53 => some ((), g53)) (some ((), g38)))) (some ((), g38))
set_option maxHeartbeats 4000000 in
set_option maxRecDepth 100000 in
theorem w_X12_turns_105 {p : Program} {l : Launch} {e : Env} {R : Room} {s : State} {m : MethodId} {args : Array Value} {below : List Frame} {meth : Method} {c : Code} {D : va_G} {cA : Nat → ClassId} {sk : (Nat → Nat) × (Nat → Nat)} {ad : Nat → Nat} {A : Nat → Prop} {V : Vk} (cx : CallFix p m c cX12_turns 7 s args gw_tbl RX12) (fx : Fx D cA sk A s) (hlocks : meth.locks = false) (hret : meth.sig.returnType = none) (hR : 0 ≤ R.frames ∧ 0 ≤ R.locals) (g0 : Hq) (z : (Unit × Hq)) (hq : ∀ (rb : Unit) (gb : Hq), z = (rb, gb) → gb = g0) (k29 : Nat) (x30 : Int32) (x31 : Int32) (x32 : Int32) (g33 : Hq) (hr : r_X12_turns_105 V k29 x30 x31 x32 g33 = some z) (H : Heap) (locs : List Loc) (ls : Array Slot) (dy : Dy D cA ad (V, g33) A s.heap H locs) (hl : lv_has ls 7 [(0, .ref (ad k29)), (1, .int x30), (3, .int x31), (5, .int x32)]) : W p l e R s m args below meth c H locs 0 0 (MQ below (QV D cA ad A (V, g0)) args s 0 0 A) (F0 m 105 ls []) := by
  unfold r_X12_turns_105 at hr
  have hq0 := hq
  refine lv_aload_n cx.1 cx.2.1 dX12_turns_105 rfl (lv_at hl 0 rfl) ?_
  obtain ⟨hv34, hr⟩ := of_grd hr
  obtain ⟨k35, hf36, hr⟩ := of_bnd hr
  refine h_getR cx fx dy fd_12_42 hv34 tb_1028 hf36 dX12_turns_106 ?_
  refine lv_iload_n cx.1 cx.2.1 dX12_turns_109 rfl (lv_at hl 2 rfl) ?_
  refine lv_iload_n cx.1 cx.2.1 dX12_turns_110 rfl (lv_at hl 1 rfl) ?_
  obtain ⟨ha37, hr⟩ := of_grd hr
  obtain ⟨g38, eg38, hr⟩ := of_nm hr
  refine h_iast cx fx dy ha37 dX12_turns_111 (fun H locs dy => ?_)
  replace dy : Dy D cA ad (V, g38) A s.heap H locs := by rw [eg38]; exact dy
  refine lv_aload_n cx.1 cx.2.1 dX12_turns_112 rfl (lv_at hl 0 rfl) ?_
  obtain ⟨k39, hf40, hr⟩ := of_bnd hr
  refine h_getR cx fx dy fd_12_36 hv34 tb_1022 hf40 dX12_turns_113 ?_
  refine lv_iload_n cx.1 cx.2.1 dX12_turns_116 rfl (lv_at hl 1 rfl) ?_
  obtain ⟨ha41, hr⟩ := of_grd hr
  refine h_iald cx fx dy ha41 dX12_turns_117 ?_
  refine lv_iconst (v := 1) cx.1 cx.2.1 dX12_turns_118 (by decide) ?_
  rcases of_brn hr with ⟨hc, hr⟩ | ⟨hc, hr⟩
  · refine lv_icmp_ne (tgt := 139) cx.1 cx.2.1 dX12_turns_119 (by decide) (fun hn => absurd hc hn) (fun _ => ?_)
    refine lv_iload cx.1 cx.2.1 dX12_turns_122 (lv_at hl 3 rfl) ?_
    refine lv_iconst (v := (-1)) cx.1 cx.2.1 dX12_turns_124 (by decide) ?_
    rcases of_brn hr with ⟨hc, hr⟩ | ⟨hc, hr⟩
    · refine lv_icmp_eq (tgt := 139) cx.1 cx.2.1 dX12_turns_125 (by decide) (fun _ => ?_) (fun hn => absurd hc hn)
      have e1 := hq0 _ _ (Option.some.inj hr).symm
      exact h_vret cx dy hlocks hret (by rw [e1]) dX12_turns_139
    · refine lv_icmp_eq (tgt := 139) cx.1 cx.2.1 dX12_turns_125 (by decide) (fun hn => absurd hn hc) (fun _ => ?_)
      refine lv_aload_n cx.1 cx.2.1 dX12_turns_128 rfl (lv_at hl 0 rfl) ?_
      obtain ⟨k42, hf43, hr⟩ := of_bnd hr
      refine h_getR cx fx dy fd_12_35 hv34 tb_1021 hf43 dX12_turns_129 ?_
      refine lv_iload_n cx.1 cx.2.1 dX12_turns_132 rfl (lv_at hl 1 rfl) ?_
      obtain ⟨ha44, hr⟩ := of_grd hr
      refine h_iald cx fx dy ha44 dX12_turns_133 ?_
      refine lv_iload cx.1 cx.2.1 dX12_turns_134 (lv_at hl 3 rfl) ?_
      rcases of_brn hr with ⟨hc, hr⟩ | ⟨hc, hr⟩
      · refine lv_icmp_ge (tgt := 140) cx.1 cx.2.1 dX12_turns_136 (by decide) (fun _ => ?_) (fun hn => absurd hc hn)
        refine lv_aload_n cx.1 cx.2.1 dX12_turns_140 rfl (lv_at hl 0 rfl) ?_
        obtain ⟨k45, hf46, hr⟩ := of_bnd hr
        refine h_getR cx fx dy fd_12_35 hv34 tb_1021 hf46 dX12_turns_141 ?_
        refine lv_iload_n cx.1 cx.2.1 dX12_turns_144 rfl (lv_at hl 1 rfl) ?_
        refine lv_dup2_11 cx.1 cx.2.1 dX12_turns_145 rfl rfl ?_
        obtain ⟨ha47, hr⟩ := of_grd hr
        refine h_iald cx fx dy ha47 dX12_turns_146 ?_
        refine lv_iload cx.1 cx.2.1 dX12_turns_147 (lv_at hl 3 rfl) ?_
        refine lv_isub cx.1 cx.2.1 dX12_turns_149 ?_
        obtain ⟨ha48, hr⟩ := of_grd hr
        obtain ⟨g49, eg49, hr⟩ := of_nm hr
        refine h_iast cx fx dy ha48 dX12_turns_150 (fun H locs dy => ?_)
        replace dy : Dy D cA ad (V, g49) A s.heap H locs := by rw [eg49]; exact dy
        refine lv_aload_n cx.1 cx.2.1 dX12_turns_151 rfl (lv_at hl 0 rfl) ?_
        obtain ⟨k50, hf51, hr⟩ := of_bnd hr
        refine h_getR cx fx dy fd_12_43 hv34 tb_1029 hf51 dX12_turns_152 ?_
        refine lv_iload_n cx.1 cx.2.1 dX12_turns_155 rfl (lv_at hl 2 rfl) ?_
        refine lv_iconst (v := 1) cx.1 cx.2.1 dX12_turns_156 (by decide) ?_
        obtain ⟨ha52, hr⟩ := of_grd hr
        obtain ⟨g53, eg53, hr⟩ := of_nm hr
        refine h_zast cx fx dy ha52 dX12_turns_157 (fun H locs dy => ?_)
        replace dy : Dy D cA ad (V, g53) A s.heap H locs := by rw [eg53]; exact dy
        have e1 := hq0 _ _ (Option.some.inj hr).symm
        exact h_vret cx dy hlocks hret (by rw [e1]) dX12_turns_158
      · refine lv_icmp_ge (tgt := 140) cx.1 cx.2.1 dX12_turns_136 (by decide) (fun hn => absurd hn hc) (fun _ => ?_)
        have e1 := hq0 _ _ (Option.some.inj hr).symm
        exact h_vret cx dy hlocks hret (by rw [e1]) dX12_turns_139
  · refine lv_icmp_ne (tgt := 139) cx.1 cx.2.1 dX12_turns_119 (by decide) (fun _ => ?_) (fun hn => absurd hn hc)
    have e1 := hq0 _ _ (Option.some.inj hr).symm
    exact h_vret cx dy hlocks hret (by rw [e1]) dX12_turns_139
noncomputable def r_X12_turns (V : Vk) (k0 : Nat) (a1 : Int32) (a2 : Int32) (a3 : Int32) (a4 : Int32) (g : Hq) : Option (Unit × Hq) :=
  grd (V k0 = some (12, 0)) <| Option.bind (g.2.2 k0 29) fun k2 => grd (okV V k2 0 (((8 : Int32) * a2) + (4 : Int32))) <| nm (g.1 k2 (((8 : Int32) * a2) + (4 : Int32)).toNatClampNeg) fun x5 => Option.bind (g.2.2 k0 29) fun k6 => grd (okV V k6 0 (((8 : Int32) * a2) + (3 : Int32))) <| nm (g.1 k6 (((8 : Int32) * a2) + (3 : Int32)).toNatClampNeg) fun x9 => Option.bind (g.2.2 k0 37) fun k10 => grd (okV V k10 0 a1) <| nm (sI g k10 a1.toNatClampNeg a4) fun g13 => Option.bind (g13.2.2 k0 38) fun k14 => grd (okV V k14 0 a1) <| grd (okV V k14 0 a1) <| nm (sI g13 k14 a1.toNatClampNeg ((g13.1 k14 a1.toNatClampNeg) + (1 : Int32))) fun g18 => Option.bind (g18.2.2 k0 40) fun k19 => grd (okV V k19 0 a2) <| nm (sI g18 k19 a2.toNatClampNeg a1) fun g22 => Option.bind (g22.2.2 k0 36) fun k23 => grd (okV V k23 0 a1) <| brn ((g22.1 k23 a1.toNatClampNeg) = (2 : Int32)) (Option.bind (g22.2.2 k0 35) fun k26 => grd (okV V k26 0 a1) <| brn ((g22.1 k26 a1.toNatClampNeg) < x9) ((r_X12_turns_105 V k0 a1 a3 x5 g22)) (Option.bind (g22.2.2 k0 35) fun k54 => grd (okV V k54 0 a1) <| grd (okV V k54 0 a1) <| nm (sI g22 k54 a1.toNatClampNeg ((g22.1 k54 a1.toNatClampNeg) - x9)) fun g58 => Option.bind (g58.2.2 k0 45) fun k59 => grd (okV V k59 0 a2) <| grd (okV V k59 0 a2) <| nm (sI g58 k59 a2.toNatClampNeg ((g58.1 k59 a2.toNatClampNeg) + x9)) fun g63 => Option.bind (g63.2.2 k0 44) fun k64 => grd (okV V k64 0 a3) <| grd (okV V k64 0 a3) <| nm (sI g63 k64 a3.toNatClampNeg ((g63.1 k64 a3.toNatClampNeg) + (1 : Int32))) fun g68 => some ((), g68))) ((r_X12_turns_105 V k0 a1 a3 x5 g22))
set_option maxHeartbeats 4000000 in
set_option maxRecDepth 100000 in
theorem c_X12_turns {l : Launch} {D : va_G} {cA : Nat → ClassId} {sk : (Nat → Nat) × (Nat → Nat)} {ad : Nat → Nat} {A : Nat → Prop} {V : Vk} {k0 : Nat} {a1 : Int32} {a2 : Int32} {a3 : Int32} {a4 : Int32} {g g0 : Hq} (hr : r_X12_turns V k0 a1 a2 a3 a4 g = some ((), g0)) : Met l yX12_turns (wM yX12_turns cX12_turns 7 none) { frames := 0, cells := 0, slots := 0, locals := 0 } (Pre D cA sk ad (V, g) A [.ref (ad k0), .int a1, .int a2, .int a3, .int a4]) (QV D cA ad A (V, g0)) 0 0 A := by
  refine Met.ofW (cc := cX12_turns) (maxL := 7) (ret := none) (by decide) rfl ?_
  intro p e s m args below meth c s₁ B hml hv
  obtain ⟨rfl, fx, w0⟩ := hv
  have hts := atoms_spec (ws := wM yX12_turns cX12_turns 7 none) B.pre
  have cx : CallFix p m c cX12_turns 7 s ([.ref (ad k0), .int a1, .int a2, .int a3, .int a4] : List Value).toArray gw_tbl RX12 := ⟨B.exec, B.bytes, hml, findClass_of_methodNamed B.named, fun w hw => hts w (List.mem_cons_of_mem _ hw)⟩
  have hlocks := B.notSynchronized
  have hret := B.returns
  have hR : 0 ≤ (headSpec (wM yX12_turns cX12_turns 7 none) { frames := 0, cells := 0, slots := 0, locals := 0 }).room.frames ∧ 0 ≤ (headSpec (wM yX12_turns cX12_turns 7 none) { frames := 0, cells := 0, slots := 0, locals := 0 }).room.locals := ⟨Nat.le_refl _, Nat.le_refl _⟩
  have dy : Dy D cA ad (V, g) A s.heap s.heap [] := ⟨w0, va_S.rf⟩
  have hl := lv_entry [.ref (ad k0), .int a1, .int a2, .int a3, .int a4] (n := 7) (Nat.le_of_ble_eq_true rfl)
  rw [lg_entry_eq]
  generalize (lg_sl [.ref (ad k0), .int a1, .int a2, .int a3, .int a4] ++ List.replicate (7 - (lg_sl [.ref (ad k0), .int a1, .int a2, .int a3, .int a4]).length) Slot.unset).toArray = ls at hl ⊢
  have hl : lv_has ls 7 [(0, .ref (ad k0)), (1, .int a1), (2, .int a2), (3, .int a3), (4, .int a4)] := hl
  have dy0 : ∃ H0, H0 = s.heap ∧ Dy D cA ad (V, g) A s.heap H0 [] := ⟨_, rfl, dy⟩
  obtain ⟨z, ez⟩ : ∃ z, z = (((), g0) : Unit × Hq) := ⟨_, rfl⟩
  rw [← ez] at hr
  have hq0 : ∀ (rb : Unit) (gb : Hq), z = (rb, gb) → gb = g0 := fun rb gb eb => by rw [ez] at eb; exact (congrArg Prod.snd eb).symm
  clear ez w0 dy0
  unfold r_X12_turns at hr
  obtain ⟨H, hH⟩ : ∃ H, H = s.heap := ⟨_, rfl⟩
  obtain ⟨locs, hlo⟩ : ∃ q : List Loc, q = [] := ⟨_, rfl⟩
  have dy : Dy D cA ad (V, g) A s.heap H locs := by rw [hH, hlo]; exact dy
  suffices K : W p l e (headSpec (wM yX12_turns cX12_turns 7 none) { frames := 0, cells := 0, slots := 0, locals := 0 }).room s m ([.ref (ad k0), .int a1, .int a2, .int a3, .int a4] : List Value).toArray below meth c H locs 0 0 (MQ below (QV D cA ad A (V, g0)) ([.ref (ad k0), .int a1, .int a2, .int a3, .int a4] : List Value).toArray s 0 0 A) (F0 m 0 ls []) by rw [hH, hlo] at K; exact K
  clear hH hlo
  refine lv_aload_n cx.1 cx.2.1 dX12_turns_0 rfl (lv_at hl 0 rfl) ?_
  obtain ⟨hv1, hr⟩ := of_grd hr
  obtain ⟨k2, hf3, hr⟩ := of_bnd hr
  refine h_getR cx fx dy fd_12_29 hv1 tb_1015 hf3 dX12_turns_1 ?_
  refine lv_bipush (v := 8) cx.1 cx.2.1 dX12_turns_4 (by decide) ?_
  refine lv_iload_n cx.1 cx.2.1 dX12_turns_6 rfl (lv_at hl 2 rfl) ?_
  refine lv_imul cx.1 cx.2.1 dX12_turns_7 ?_
  refine lv_iconst (v := 4) cx.1 cx.2.1 dX12_turns_8 (by decide) ?_
  refine lv_iadd cx.1 cx.2.1 dX12_turns_9 ?_
  obtain ⟨ha4, hr⟩ := of_grd hr
  refine h_iald cx fx dy ha4 dX12_turns_10 ?_
  obtain ⟨x5, ex5, hr⟩ := of_nm hr
  refine lv_nmi ex5 ?_
  refine lv_istore (lv' := [(5, .int x5), (0, .ref (ad k0)), (1, .int a1), (2, .int a2), (3, .int a3), (4, .int a4)]) cx.1 cx.2.1 dX12_turns_11 hl (by decide) rfl (fun ls hl => ?_)
  refine lv_aload_n cx.1 cx.2.1 dX12_turns_13 rfl (lv_at hl 1 rfl) ?_
  obtain ⟨k6, hf7, hr⟩ := of_bnd hr
  refine h_getR cx fx dy fd_12_29 hv1 tb_1015 hf7 dX12_turns_14 ?_
  refine lv_bipush (v := 8) cx.1 cx.2.1 dX12_turns_17 (by decide) ?_
  refine lv_iload_n cx.1 cx.2.1 dX12_turns_19 rfl (lv_at hl 3 rfl) ?_
  refine lv_imul cx.1 cx.2.1 dX12_turns_20 ?_
  refine lv_iconst (v := 3) cx.1 cx.2.1 dX12_turns_21 (by decide) ?_
  refine lv_iadd cx.1 cx.2.1 dX12_turns_22 ?_
  obtain ⟨ha8, hr⟩ := of_grd hr
  refine h_iald cx fx dy ha8 dX12_turns_23 ?_
  obtain ⟨x9, ex9, hr⟩ := of_nm hr
  refine lv_nmi ex9 ?_
  refine lv_istore (lv' := [(6, .int x9), (5, .int x5), (0, .ref (ad k0)), (1, .int a1), (2, .int a2), (3, .int a3), (4, .int a4)]) cx.1 cx.2.1 dX12_turns_24 hl (by decide) rfl (fun ls hl => ?_)
  refine lv_aload_n cx.1 cx.2.1 dX12_turns_26 rfl (lv_at hl 2 rfl) ?_
  obtain ⟨k10, hf11, hr⟩ := of_bnd hr
  refine h_getR cx fx dy fd_12_37 hv1 tb_1023 hf11 dX12_turns_27 ?_
  refine lv_iload_n cx.1 cx.2.1 dX12_turns_30 rfl (lv_at hl 3 rfl) ?_
  refine lv_iload cx.1 cx.2.1 dX12_turns_31 (lv_at hl 6 rfl) ?_
  obtain ⟨ha12, hr⟩ := of_grd hr
  obtain ⟨g13, eg13, hr⟩ := of_nm hr
  refine h_iast cx fx dy ha12 dX12_turns_33 (fun H locs dy => ?_)
  replace dy : Dy D cA ad (V, g13) A s.heap H locs := by rw [eg13]; exact dy
  refine lv_aload_n cx.1 cx.2.1 dX12_turns_34 rfl (lv_at hl 2 rfl) ?_
  obtain ⟨k14, hf15, hr⟩ := of_bnd hr
  refine h_getR cx fx dy fd_12_38 hv1 tb_1024 hf15 dX12_turns_35 ?_
  refine lv_iload_n cx.1 cx.2.1 dX12_turns_38 rfl (lv_at hl 3 rfl) ?_
  refine lv_dup2_11 cx.1 cx.2.1 dX12_turns_39 rfl rfl ?_
  obtain ⟨ha16, hr⟩ := of_grd hr
  refine h_iald cx fx dy ha16 dX12_turns_40 ?_
  refine lv_iconst (v := 1) cx.1 cx.2.1 dX12_turns_41 (by decide) ?_
  refine lv_iadd cx.1 cx.2.1 dX12_turns_42 ?_
  obtain ⟨ha17, hr⟩ := of_grd hr
  obtain ⟨g18, eg18, hr⟩ := of_nm hr
  refine h_iast cx fx dy ha17 dX12_turns_43 (fun H locs dy => ?_)
  replace dy : Dy D cA ad (V, g18) A s.heap H locs := by rw [eg18]; exact dy
  refine lv_aload_n cx.1 cx.2.1 dX12_turns_44 rfl (lv_at hl 2 rfl) ?_
  obtain ⟨k19, hf20, hr⟩ := of_bnd hr
  refine h_getR cx fx dy fd_12_40 hv1 tb_1026 hf20 dX12_turns_45 ?_
  refine lv_iload_n cx.1 cx.2.1 dX12_turns_48 rfl (lv_at hl 4 rfl) ?_
  refine lv_iload_n cx.1 cx.2.1 dX12_turns_49 rfl (lv_at hl 3 rfl) ?_
  obtain ⟨ha21, hr⟩ := of_grd hr
  obtain ⟨g22, eg22, hr⟩ := of_nm hr
  refine h_iast cx fx dy ha21 dX12_turns_50 (fun H locs dy => ?_)
  replace dy : Dy D cA ad (V, g22) A s.heap H locs := by rw [eg22]; exact dy
  refine lv_aload_n cx.1 cx.2.1 dX12_turns_51 rfl (lv_at hl 2 rfl) ?_
  obtain ⟨k23, hf24, hr⟩ := of_bnd hr
  refine h_getR cx fx dy fd_12_36 hv1 tb_1022 hf24 dX12_turns_52 ?_
  refine lv_iload_n cx.1 cx.2.1 dX12_turns_55 rfl (lv_at hl 3 rfl) ?_
  obtain ⟨ha25, hr⟩ := of_grd hr
  refine h_iald cx fx dy ha25 dX12_turns_56 ?_
  refine lv_iconst (v := 2) cx.1 cx.2.1 dX12_turns_57 (by decide) ?_
  rcases of_brn hr with ⟨hc, hr⟩ | ⟨hc, hr⟩
  · refine lv_icmp_ne (tgt := 105) cx.1 cx.2.1 dX12_turns_58 (by decide) (fun hn => absurd hc hn) (fun _ => ?_)
    refine lv_aload_n cx.1 cx.2.1 dX12_turns_61 rfl (lv_at hl 2 rfl) ?_
    obtain ⟨k26, hf27, hr⟩ := of_bnd hr
    refine h_getR cx fx dy fd_12_35 hv1 tb_1021 hf27 dX12_turns_62 ?_
    refine lv_iload_n cx.1 cx.2.1 dX12_turns_65 rfl (lv_at hl 3 rfl) ?_
    obtain ⟨ha28, hr⟩ := of_grd hr
    refine h_iald cx fx dy ha28 dX12_turns_66 ?_
    refine lv_iload cx.1 cx.2.1 dX12_turns_67 (lv_at hl 0 rfl) ?_
    rcases of_brn hr with ⟨hc, hr⟩ | ⟨hc, hr⟩
    · refine lv_icmp_lt (tgt := 105) cx.1 cx.2.1 dX12_turns_69 (by decide) (fun _ => ?_) (fun hn => absurd hc hn)
      exact w_X12_turns_105 cx fx hlocks hret hR g0 z hq0 k0 a1 a3 x5 g22 hr H locs ls dy (lv_sub hl [2, 3, 5, 1] rfl)
    · refine lv_icmp_lt (tgt := 105) cx.1 cx.2.1 dX12_turns_69 (by decide) (fun hn => absurd hn hc) (fun _ => ?_)
      refine lv_aload_n cx.1 cx.2.1 dX12_turns_72 rfl (lv_at hl 2 rfl) ?_
      obtain ⟨k54, hf55, hr⟩ := of_bnd hr
      refine h_getR cx fx dy fd_12_35 hv1 tb_1021 hf55 dX12_turns_73 ?_
      refine lv_iload_n cx.1 cx.2.1 dX12_turns_76 rfl (lv_at hl 3 rfl) ?_
      refine lv_dup2_11 cx.1 cx.2.1 dX12_turns_77 rfl rfl ?_
      obtain ⟨ha56, hr⟩ := of_grd hr
      refine h_iald cx fx dy ha56 dX12_turns_78 ?_
      refine lv_iload cx.1 cx.2.1 dX12_turns_79 (lv_at hl 0 rfl) ?_
      refine lv_isub cx.1 cx.2.1 dX12_turns_81 ?_
      obtain ⟨ha57, hr⟩ := of_grd hr
      obtain ⟨g58, eg58, hr⟩ := of_nm hr
      refine h_iast cx fx dy ha57 dX12_turns_82 (fun H locs dy => ?_)
      replace dy : Dy D cA ad (V, g58) A s.heap H locs := by rw [eg58]; exact dy
      refine lv_aload_n cx.1 cx.2.1 dX12_turns_83 rfl (lv_at hl 2 rfl) ?_
      obtain ⟨k59, hf60, hr⟩ := of_bnd hr
      refine h_getR cx fx dy fd_12_45 hv1 tb_1031 hf60 dX12_turns_84 ?_
      refine lv_iload_n cx.1 cx.2.1 dX12_turns_87 rfl (lv_at hl 4 rfl) ?_
      refine lv_dup2_11 cx.1 cx.2.1 dX12_turns_88 rfl rfl ?_
      obtain ⟨ha61, hr⟩ := of_grd hr
      refine h_iald cx fx dy ha61 dX12_turns_89 ?_
      refine lv_iload cx.1 cx.2.1 dX12_turns_90 (lv_at hl 0 rfl) ?_
      refine lv_iadd cx.1 cx.2.1 dX12_turns_92 ?_
      obtain ⟨ha62, hr⟩ := of_grd hr
      obtain ⟨g63, eg63, hr⟩ := of_nm hr
      refine h_iast cx fx dy ha62 dX12_turns_93 (fun H locs dy => ?_)
      replace dy : Dy D cA ad (V, g63) A s.heap H locs := by rw [eg63]; exact dy
      refine lv_aload_n cx.1 cx.2.1 dX12_turns_94 rfl (lv_at hl 2 rfl) ?_
      obtain ⟨k64, hf65, hr⟩ := of_bnd hr
      refine h_getR cx fx dy fd_12_44 hv1 tb_1030 hf65 dX12_turns_95 ?_
      refine lv_iload_n cx.1 cx.2.1 dX12_turns_98 rfl (lv_at hl 5 rfl) ?_
      refine lv_dup2_11 cx.1 cx.2.1 dX12_turns_99 rfl rfl ?_
      obtain ⟨ha66, hr⟩ := of_grd hr
      refine h_iald cx fx dy ha66 dX12_turns_100 ?_
      refine lv_iconst (v := 1) cx.1 cx.2.1 dX12_turns_101 (by decide) ?_
      refine lv_iadd cx.1 cx.2.1 dX12_turns_102 ?_
      obtain ⟨ha67, hr⟩ := of_grd hr
      obtain ⟨g68, eg68, hr⟩ := of_nm hr
      refine h_iast cx fx dy ha67 dX12_turns_103 (fun H locs dy => ?_)
      replace dy : Dy D cA ad (V, g68) A s.heap H locs := by rw [eg68]; exact dy
      have e1 := hq0 _ _ (Option.some.inj hr).symm
      exact h_vret cx dy hlocks hret (by rw [e1]) dX12_turns_104
  · refine lv_icmp_ne (tgt := 105) cx.1 cx.2.1 dX12_turns_58 (by decide) (fun _ => ?_) (fun hn => absurd hn hc)
    exact w_X12_turns_105 cx fx hlocks hret hR g0 z hq0 k0 a1 a3 x5 g22 hr H locs ls dy (lv_sub hl [2, 3, 5, 1] rfl)
noncomputable def r_X12_fill_147' (V : Vk) (k43 : Nat) (x44 : Int32) (x45 : Int32) (x46 : Int32) (x47 : Int32) (x48 : Int32) (g49 : Hq) : Option ((Nat × Int32 × Int32 × Int32 × Int32 × Int32 × Hq) ⊕ (Int32 × Hq)) :=
  grd (V k43 = some (12, 0)) <| brn ((g49.1 k43 32) ≤ x48) (Option.bind (g49.2.2 k43 42) fun k51 => grd (okV V k51 0 x46) <| some (.inr ((g49.1 k51 x46.toNatClampNeg), g49))) (Option.bind (g49.2.2 k43 42) fun k54 => grd (okV V k54 0 x46) <| brn ((g49.1 k54 x46.toNatClampNeg) = (-1 : Int32)) (grd (¬ (g49.1 k43 32) = 0) <| nm ((x47 + x48) - (x47 + x48) / (g49.1 k43 32) * (g49.1 k43 32)) fun x58 => Option.bind (g49.2.2 k43 33) fun k59 => grd (okV V k59 0 x58) <| brn ((g49.1 k59 x58.toNatClampNeg) = x44) (Option.bind (g49.2.2 k43 34) fun k62 => grd (okV V k62 0 x58) <| Option.bind (g49.2.2 k43 29) fun k65 => grd (okV V k65 0 ((8 : Int32) * x44)) <| Option.bind (g49.2.2 k43 29) fun k68 => grd (okV V k68 0 (((8 : Int32) * x44) + (1 : Int32))) <| bnd (r_X12_in V (x45 - (g49.1 k62 x58.toNatClampNeg)) (g49.1 k65 ((8 : Int32) * x44).toNatClampNeg) (g49.1 k68 (((8 : Int32) * x44) + (1 : Int32)).toNatClampNeg) g49) fun x72 g71 => brn (x72 = 0) (nm (x48 + (1 : Int32)) fun x74 => some (.inl (k43, x44, x45, x46, x47, x74, g71))) (Option.bind (g71.2.2 k43 37) fun k75 => grd (okV V k75 0 x58) <| brn ((g71.1 k75 x58.toNatClampNeg) = (-1 : Int32)) (bnd (r_X12_turns V k43 x58 x44 x46 x45 g71) fun u79 g78 => nm (x48 + (1 : Int32)) fun x81 => some (.inl (k43, x44, x45, x46, x47, x81, g78))) (Option.bind (g71.2.2 k43 37) fun k82 => grd (okV V k82 0 x58) <| Option.bind (g71.2.2 k43 29) fun k85 => grd (okV V k85 0 (((8 : Int32) * x44) + (2 : Int32))) <| brn ((g71.1 k85 (((8 : Int32) * x44) + (2 : Int32)).toNatClampNeg) < (x45 - (g71.1 k82 x58.toNatClampNeg))) (bnd (r_X12_turns V k43 x58 x44 x46 x45 g71) fun u89 g88 => nm (x48 + (1 : Int32)) fun x91 => some (.inl (k43, x44, x45, x46, x47, x91, g88))) (nm (x48 + (1 : Int32)) fun x92 => some (.inl (k43, x44, x45, x46, x47, x92, g71)))))) (nm (x48 + (1 : Int32)) fun x93 => some (.inl (k43, x44, x45, x46, x47, x93, g49)))) (Option.bind (g49.2.2 k43 42) fun k94 => grd (okV V k94 0 x46) <| some (.inr ((g49.1 k94 x46.toNatClampNeg), g49))))
noncomputable def r_X12_fill_147 (V : Vk) (st : (Nat × Int32 × Int32 × Int32 × Int32 × Int32 × Hq)) : Option ((Nat × Int32 × Int32 × Int32 × Int32 × Int32 × Hq) ⊕ (Int32 × Hq)) := r_X12_fill_147' V st.1 st.2.1 st.2.2.1 st.2.2.2.1 st.2.2.2.2.1 st.2.2.2.2.2.1 st.2.2.2.2.2.2
set_option maxHeartbeats 4000000 in
set_option maxRecDepth 100000 in
theorem w_X12_fill_147 {p : Program} {l : Launch} {e : Env} {R : Room} {s : State} {m : MethodId} {args : Array Value} {below : List Frame} {meth : Method} {c : Code} {D : va_G} {cA : Nat → ClassId} {sk : (Nat → Nat) × (Nat → Nat)} {ad : Nat → Nat} {A : Nat → Prop} {V : Vk} (cx : CallFix p m c cX12_fill 9 s args gw_tbl RX12) (fx : Fx D cA sk A s) (hlocks : meth.locks = false) (hret : meth.sig.returnType = (some .int)) (hR : 2 ≤ R.frames ∧ 42 ≤ R.locals) (r0 : Int32) (g0 : Hq) (y : (Int32 × Hq)) (hq : ∀ (rb : Int32) (gb : Hq), y = (rb, gb) → rb = r0 ∧ gb = g0) : ∀ (n : Nat) (k43 : Nat) (x44 : Int32) (x45 : Int32) (x46 : Int32) (x47 : Int32) (x48 : Int32) (g49 : Hq), itr (r_X12_fill_147 V) n (k43, x44, x45, x46, x47, x48, g49) = some y → ∀ (H : Heap) (locs : List Loc) (ls : Array Slot), Dy D cA ad (V, g49) A s.heap H locs → lv_has ls 9 [(0, .ref (ad k43)), (1, .int x44), (4, .int x45), (5, .int x46), (6, .int x47), (7, .int x48)] → W p l e R s m args below meth c H locs 0 0 (MQ below (QI D cA ad A r0 (V, g0)) args s 0 0 A) (F0 m 147 ls []) := by
  intro n
  induction n with
  | zero => intro k43 x44 x45 x46 x47 x48 g49 hr; cases hr
  | succ n ih =>
    intro k43 x44 x45 x46 x47 x48 g49 hr H locs ls dy hl
    obtain ⟨z, hz, hn1, hn2⟩ := itr_succ hr
    clear hr
    have hr : r_X12_fill_147' V k43 x44 x45 x46 x47 x48 g49 = some z := hz
    clear hz
    unfold r_X12_fill_147' at hr
    have hh0 : ∀ (b0 : Nat) (b1 : Int32) (b2 : Int32) (b3 : Int32) (b4 : Int32) (b5 : Int32) (gb : Hq), z = .inl (b0, b1, b2, b3, b4, b5, gb) → ∀ (H : Heap) (locs : List Loc) (ls : Array Slot), Dy D cA ad (V, gb) A s.heap H locs → lv_has ls 9 [(0, .ref (ad b0)), (1, .int b1), (4, .int b2), (5, .int b3), (6, .int b4), (7, .int b5)] → W p l e R s m args below meth c H locs 0 0 (MQ below (QI D cA ad A r0 (V, g0)) args s 0 0 A) (F0 m 147 ls []) := fun b0 b1 b2 b3 b4 b5 gb eb => ih b0 b1 b2 b3 b4 b5 gb (hn1 _ eb)
    have hq0 : ∀ (rb : Int32) (gb : Hq), z = (.inr (rb, gb)) → rb = r0 ∧ gb = g0 := fun rb gb eb => hq rb gb (hn2 _ eb).symm
    refine lv_iload cx.1 cx.2.1 dX12_fill_147 (lv_at hl 5 rfl) ?_
    refine lv_aload_n cx.1 cx.2.1 dX12_fill_149 rfl (lv_at hl 0 rfl) ?_
    obtain ⟨hv50, hr⟩ := of_grd hr
    refine h_getI cx fx dy fd_12_32 hv50 tb_1018 dX12_fill_150 ?_
    rcases of_brn hr with ⟨hc, hr⟩ | ⟨hc, hr⟩
    · refine lv_icmp_ge (tgt := 281) cx.1 cx.2.1 dX12_fill_153 (by decide) (fun _ => ?_) (fun hn => absurd hc hn)
      refine lv_aload_n cx.1 cx.2.1 dX12_fill_281 rfl (lv_at hl 0 rfl) ?_
      obtain ⟨k51, hf52, hr⟩ := of_bnd hr
      refine h_getR cx fx dy fd_12_42 hv50 tb_1028 hf52 dX12_fill_282 ?_
      refine lv_iload cx.1 cx.2.1 dX12_fill_285 (lv_at hl 3 rfl) ?_
      obtain ⟨ha53, hr⟩ := of_grd hr
      refine h_iald cx fx dy ha53 dX12_fill_287 ?_
      obtain ⟨e0, e1⟩ := hq0 _ _ (Option.some.inj hr).symm
      exact h_iret cx dy hlocks hret rfl e0 (by rw [e1]) dX12_fill_288
    · refine lv_icmp_ge (tgt := 281) cx.1 cx.2.1 dX12_fill_153 (by decide) (fun hn => absurd hn hc) (fun _ => ?_)
      refine lv_aload_n cx.1 cx.2.1 dX12_fill_156 rfl (lv_at hl 0 rfl) ?_
      obtain ⟨k54, hf55, hr⟩ := of_bnd hr
      refine h_getR cx fx dy fd_12_42 hv50 tb_1028 hf55 dX12_fill_157 ?_
      refine lv_iload cx.1 cx.2.1 dX12_fill_160 (lv_at hl 3 rfl) ?_
      obtain ⟨ha56, hr⟩ := of_grd hr
      refine h_iald cx fx dy ha56 dX12_fill_162 ?_
      refine lv_iconst (v := (-1)) cx.1 cx.2.1 dX12_fill_163 (by decide) ?_
      rcases of_brn hr with ⟨hc, hr⟩ | ⟨hc, hr⟩
      · refine lv_icmp_ne (tgt := 281) cx.1 cx.2.1 dX12_fill_164 (by decide) (fun hn => absurd hc hn) (fun _ => ?_)
        refine lv_iload cx.1 cx.2.1 dX12_fill_167 (lv_at hl 4 rfl) ?_
        refine lv_iload cx.1 cx.2.1 dX12_fill_169 (lv_at hl 5 rfl) ?_
        refine lv_iadd cx.1 cx.2.1 dX12_fill_171 ?_
        refine lv_aload_n cx.1 cx.2.1 dX12_fill_172 rfl (lv_at hl 0 rfl) ?_
        refine h_getI cx fx dy fd_12_32 hv50 tb_1018 dX12_fill_173 ?_
        obtain ⟨hz57, hr⟩ := of_grd hr
        refine lv_irem cx.1 cx.2.1 dX12_fill_176 hz57 ?_
        obtain ⟨x58, ex58, hr⟩ := of_nm hr
        refine lv_nmi ex58 ?_
        refine lv_istore (lv' := [(8, .int x58), (0, .ref (ad k43)), (1, .int x44), (4, .int x45), (5, .int x46), (6, .int x47), (7, .int x48)]) cx.1 cx.2.1 dX12_fill_177 hl (by decide) rfl (fun ls hl => ?_)
        refine lv_aload_n cx.1 cx.2.1 dX12_fill_179 rfl (lv_at hl 1 rfl) ?_
        obtain ⟨k59, hf60, hr⟩ := of_bnd hr
        refine h_getR cx fx dy fd_12_33 hv50 tb_1019 hf60 dX12_fill_180 ?_
        refine lv_iload cx.1 cx.2.1 dX12_fill_183 (lv_at hl 0 rfl) ?_
        obtain ⟨ha61, hr⟩ := of_grd hr
        refine h_iald cx fx dy ha61 dX12_fill_185 ?_
        refine lv_iload_n cx.1 cx.2.1 dX12_fill_186 rfl (lv_at hl 2 rfl) ?_
        rcases of_brn hr with ⟨hc, hr⟩ | ⟨hc, hr⟩
        · refine lv_icmp_ne (tgt := 275) cx.1 cx.2.1 dX12_fill_187 (by decide) (fun hn => absurd hc hn) (fun _ => ?_)
          refine lv_iload cx.1 cx.2.1 dX12_fill_190 (lv_at hl 3 rfl) ?_
          refine lv_aload_n cx.1 cx.2.1 dX12_fill_192 rfl (lv_at hl 1 rfl) ?_
          obtain ⟨k62, hf63, hr⟩ := of_bnd hr
          refine h_getR cx fx dy fd_12_34 hv50 tb_1020 hf63 dX12_fill_193 ?_
          refine lv_iload cx.1 cx.2.1 dX12_fill_196 (lv_at hl 0 rfl) ?_
          obtain ⟨ha64, hr⟩ := of_grd hr
          refine h_iald cx fx dy ha64 dX12_fill_198 ?_
          refine lv_isub cx.1 cx.2.1 dX12_fill_199 ?_
          refine lv_aload_n cx.1 cx.2.1 dX12_fill_200 rfl (lv_at hl 1 rfl) ?_
          obtain ⟨k65, hf66, hr⟩ := of_bnd hr
          refine h_getR cx fx dy fd_12_29 hv50 tb_1015 hf66 dX12_fill_201 ?_
          refine lv_bipush (v := 8) cx.1 cx.2.1 dX12_fill_204 (by decide) ?_
          refine lv_iload_n cx.1 cx.2.1 dX12_fill_206 rfl (lv_at hl 2 rfl) ?_
          refine lv_imul cx.1 cx.2.1 dX12_fill_207 ?_
          obtain ⟨ha67, hr⟩ := of_grd hr
          refine h_iald cx fx dy ha67 dX12_fill_208 ?_
          refine lv_aload_n cx.1 cx.2.1 dX12_fill_209 rfl (lv_at hl 1 rfl) ?_
          obtain ⟨k68, hf69, hr⟩ := of_bnd hr
          refine h_getR cx fx dy fd_12_29 hv50 tb_1015 hf69 dX12_fill_210 ?_
          refine lv_bipush (v := 8) cx.1 cx.2.1 dX12_fill_213 (by decide) ?_
          refine lv_iload_n cx.1 cx.2.1 dX12_fill_215 rfl (lv_at hl 2 rfl) ?_
          refine lv_imul cx.1 cx.2.1 dX12_fill_216 ?_
          refine lv_iconst (v := 1) cx.1 cx.2.1 dX12_fill_217 (by decide) ?_
          refine lv_iadd cx.1 cx.2.1 dX12_fill_218 ?_
          obtain ⟨ha70, hr⟩ := of_grd hr
          refine h_iald cx fx dy ha70 dX12_fill_219 ?_
          obtain ⟨x72, g71, hc73, hr⟩ := of_bnd2 hr
          refine r_i dy (k_S (As := [.int (x45 - (g49.1 k62 x58.toNatClampNeg)), .int (g49.1 k65 ((8 : Int32) * x44).toNatClampNeg), .int (g49.1 k68 (((8 : Int32) * x44) + (1 : Int32)).toNatClampNeg)]) cx fx dy (c_X12_in hc73) mv_X12_in rfl rfl ⟨Nat.le_trans (by decide) hR.1, Nat.le_trans (by decide) hR.2⟩ tb_1170 rfl hl.1 rfl (Nat.le_of_ble_eq_true rfl) ⟨Nat.zero_le _, Nat.zero_le _⟩ dX12_fill_220) (fun H locs dy => ?_)
          rcases of_brn hr with ⟨hc, hr⟩ | ⟨hc, hr⟩
          · refine lv_if_eq (tgt := 275) cx.1 cx.2.1 dX12_fill_223 (by decide) (fun _ => ?_) (fun hn => absurd hc hn)
            obtain ⟨x74, ex74, hr⟩ := of_nm hr
            refine lv_iinc (v := x74) (lv' := [(7, .int x74), (8, .int x58), (0, .ref (ad k43)), (1, .int x44), (4, .int x45), (5, .int x46), (6, .int x47)]) cx.1 cx.2.1 dX12_fill_275 hl (k := 6) rfl (by rw [ex74]; rfl) (by decide) rfl (fun ls hl => ?_)
            refine lv_goto (tgt := 147) cx.1 cx.2.1 dX12_fill_278 (by decide) ?_
            exact hh0 k43 x44 x45 x46 x47 x74 g71 (Option.some.inj hr).symm H locs ls dy (lv_sub hl [2, 3, 4, 5, 6, 0] rfl)
          · refine lv_if_eq (tgt := 275) cx.1 cx.2.1 dX12_fill_223 (by decide) (fun hn => absurd hn hc) (fun _ => ?_)
            refine lv_aload_n cx.1 cx.2.1 dX12_fill_226 rfl (lv_at hl 1 rfl) ?_
            obtain ⟨k75, hf76, hr⟩ := of_bnd hr
            refine h_getR cx fx dy fd_12_37 hv50 tb_1023 hf76 dX12_fill_227 ?_
            refine lv_iload cx.1 cx.2.1 dX12_fill_230 (lv_at hl 0 rfl) ?_
            obtain ⟨ha77, hr⟩ := of_grd hr
            refine h_iald cx fx dy ha77 dX12_fill_232 ?_
            refine lv_iconst (v := (-1)) cx.1 cx.2.1 dX12_fill_233 (by decide) ?_
            rcases of_brn hr with ⟨hc, hr⟩ | ⟨hc, hr⟩
            · refine lv_icmp_eq (tgt := 264) cx.1 cx.2.1 dX12_fill_234 (by decide) (fun _ => ?_) (fun hn => absurd hc hn)
              refine lv_aload_n cx.1 cx.2.1 dX12_fill_264 rfl (lv_at hl 1 rfl) ?_
              refine lv_iload cx.1 cx.2.1 dX12_fill_265 (lv_at hl 0 rfl) ?_
              refine lv_iload_n cx.1 cx.2.1 dX12_fill_267 rfl (lv_at hl 2 rfl) ?_
              refine lv_iload cx.1 cx.2.1 dX12_fill_268 (lv_at hl 4 rfl) ?_
              refine lv_iload cx.1 cx.2.1 dX12_fill_270 (lv_at hl 3 rfl) ?_
              obtain ⟨u79, g78, hc80, hr⟩ := of_bnd2 hr
              refine r_v dy (k_V (As := [.int x58, .int x44, .int x46, .int x45]) (b := k43) (ci := 12) cx fx dy (c_X12_turns hc80) mv_X12_turns rfl rfl ⟨Nat.le_trans (by decide) hR.1, Nat.le_trans (by decide) hR.2⟩ tb_1301 hv50 rfl (by decide) rfl hl.1 rfl (Nat.le_of_ble_eq_true rfl) ⟨Nat.zero_le _, Nat.zero_le _⟩ dX12_fill_272) (fun H locs dy => ?_)
              obtain ⟨x81, ex81, hr⟩ := of_nm hr
              refine lv_iinc (v := x81) (lv' := [(7, .int x81), (8, .int x58), (0, .ref (ad k43)), (1, .int x44), (4, .int x45), (5, .int x46), (6, .int x47)]) cx.1 cx.2.1 dX12_fill_275 hl (k := 6) rfl (by rw [ex81]; rfl) (by decide) rfl (fun ls hl => ?_)
              refine lv_goto (tgt := 147) cx.1 cx.2.1 dX12_fill_278 (by decide) ?_
              exact hh0 k43 x44 x45 x46 x47 x81 g78 (Option.some.inj hr).symm H locs ls dy (lv_sub hl [2, 3, 4, 5, 6, 0] rfl)
            · refine lv_icmp_eq (tgt := 264) cx.1 cx.2.1 dX12_fill_234 (by decide) (fun hn => absurd hn hc) (fun _ => ?_)
              refine lv_iload cx.1 cx.2.1 dX12_fill_237 (lv_at hl 3 rfl) ?_
              refine lv_aload_n cx.1 cx.2.1 dX12_fill_239 rfl (lv_at hl 1 rfl) ?_
              obtain ⟨k82, hf83, hr⟩ := of_bnd hr
              refine h_getR cx fx dy fd_12_37 hv50 tb_1023 hf83 dX12_fill_240 ?_
              refine lv_iload cx.1 cx.2.1 dX12_fill_243 (lv_at hl 0 rfl) ?_
              obtain ⟨ha84, hr⟩ := of_grd hr
              refine h_iald cx fx dy ha84 dX12_fill_245 ?_
              refine lv_isub cx.1 cx.2.1 dX12_fill_246 ?_
              refine lv_aload_n cx.1 cx.2.1 dX12_fill_247 rfl (lv_at hl 1 rfl) ?_
              obtain ⟨k85, hf86, hr⟩ := of_bnd hr
              refine h_getR cx fx dy fd_12_29 hv50 tb_1015 hf86 dX12_fill_248 ?_
              refine lv_bipush (v := 8) cx.1 cx.2.1 dX12_fill_251 (by decide) ?_
              refine lv_iload_n cx.1 cx.2.1 dX12_fill_253 rfl (lv_at hl 2 rfl) ?_
              refine lv_imul cx.1 cx.2.1 dX12_fill_254 ?_
              refine lv_iconst (v := 2) cx.1 cx.2.1 dX12_fill_255 (by decide) ?_
              refine lv_iadd cx.1 cx.2.1 dX12_fill_256 ?_
              obtain ⟨ha87, hr⟩ := of_grd hr
              refine h_iald cx fx dy ha87 dX12_fill_257 ?_
              rcases of_brn hr with ⟨hc, hr⟩ | ⟨hc, hr⟩
              · refine lv_icmp_gt (tgt := 264) cx.1 cx.2.1 dX12_fill_258 (by decide) (fun _ => ?_) (fun hn => absurd hc hn)
                refine lv_aload_n cx.1 cx.2.1 dX12_fill_264 rfl (lv_at hl 1 rfl) ?_
                refine lv_iload cx.1 cx.2.1 dX12_fill_265 (lv_at hl 0 rfl) ?_
                refine lv_iload_n cx.1 cx.2.1 dX12_fill_267 rfl (lv_at hl 2 rfl) ?_
                refine lv_iload cx.1 cx.2.1 dX12_fill_268 (lv_at hl 4 rfl) ?_
                refine lv_iload cx.1 cx.2.1 dX12_fill_270 (lv_at hl 3 rfl) ?_
                obtain ⟨u89, g88, hc90, hr⟩ := of_bnd2 hr
                refine r_v dy (k_V (As := [.int x58, .int x44, .int x46, .int x45]) (b := k43) (ci := 12) cx fx dy (c_X12_turns hc90) mv_X12_turns rfl rfl ⟨Nat.le_trans (by decide) hR.1, Nat.le_trans (by decide) hR.2⟩ tb_1301 hv50 rfl (by decide) rfl hl.1 rfl (Nat.le_of_ble_eq_true rfl) ⟨Nat.zero_le _, Nat.zero_le _⟩ dX12_fill_272) (fun H locs dy => ?_)
                obtain ⟨x91, ex91, hr⟩ := of_nm hr
                refine lv_iinc (v := x91) (lv' := [(7, .int x91), (8, .int x58), (0, .ref (ad k43)), (1, .int x44), (4, .int x45), (5, .int x46), (6, .int x47)]) cx.1 cx.2.1 dX12_fill_275 hl (k := 6) rfl (by rw [ex91]; rfl) (by decide) rfl (fun ls hl => ?_)
                refine lv_goto (tgt := 147) cx.1 cx.2.1 dX12_fill_278 (by decide) ?_
                exact hh0 k43 x44 x45 x46 x47 x91 g88 (Option.some.inj hr).symm H locs ls dy (lv_sub hl [2, 3, 4, 5, 6, 0] rfl)
              · refine lv_icmp_gt (tgt := 264) cx.1 cx.2.1 dX12_fill_258 (by decide) (fun hn => absurd hn hc) (fun _ => ?_)
                refine lv_goto (tgt := 275) cx.1 cx.2.1 dX12_fill_261 (by decide) ?_
                obtain ⟨x92, ex92, hr⟩ := of_nm hr
                refine lv_iinc (v := x92) (lv' := [(7, .int x92), (8, .int x58), (0, .ref (ad k43)), (1, .int x44), (4, .int x45), (5, .int x46), (6, .int x47)]) cx.1 cx.2.1 dX12_fill_275 hl (k := 6) rfl (by rw [ex92]; rfl) (by decide) rfl (fun ls hl => ?_)
                refine lv_goto (tgt := 147) cx.1 cx.2.1 dX12_fill_278 (by decide) ?_
                exact hh0 k43 x44 x45 x46 x47 x92 g71 (Option.some.inj hr).symm H locs ls dy (lv_sub hl [2, 3, 4, 5, 6, 0] rfl)
        · refine lv_icmp_ne (tgt := 275) cx.1 cx.2.1 dX12_fill_187 (by decide) (fun _ => ?_) (fun hn => absurd hn hc)
          obtain ⟨x93, ex93, hr⟩ := of_nm hr
          refine lv_iinc (v := x93) (lv' := [(7, .int x93), (8, .int x58), (0, .ref (ad k43)), (1, .int x44), (4, .int x45), (5, .int x46), (6, .int x47)]) cx.1 cx.2.1 dX12_fill_275 hl (k := 6) rfl (by rw [ex93]; rfl) (by decide) rfl (fun ls hl => ?_)
          refine lv_goto (tgt := 147) cx.1 cx.2.1 dX12_fill_278 (by decide) ?_
          exact hh0 k43 x44 x45 x46 x47 x93 g49 (Option.some.inj hr).symm H locs ls dy (lv_sub hl [2, 3, 4, 5, 6, 0] rfl)
      · refine lv_icmp_ne (tgt := 281) cx.1 cx.2.1 dX12_fill_164 (by decide) (fun _ => ?_) (fun hn => absurd hn hc)
        refine lv_aload_n cx.1 cx.2.1 dX12_fill_281 rfl (lv_at hl 0 rfl) ?_
        obtain ⟨k94, hf95, hr⟩ := of_bnd hr
        refine h_getR cx fx dy fd_12_42 hv50 tb_1028 hf95 dX12_fill_282 ?_
        refine lv_iload cx.1 cx.2.1 dX12_fill_285 (lv_at hl 3 rfl) ?_
        obtain ⟨ha96, hr⟩ := of_grd hr
        refine h_iald cx fx dy ha96 dX12_fill_287 ?_
        obtain ⟨e0, e1⟩ := hq0 _ _ (Option.some.inj hr).symm
        exact h_iret cx dy hlocks hret rfl e0 (by rw [e1]) dX12_fill_288
noncomputable def r_X12_fill_88 (V : Vk) (k17 : Nat) (x18 : Int32) (x19 : Int32) (g20 : Hq) : Option (Int32 × Hq) :=
  grd (V k17 = some (12, 0)) <| Option.bind (g20.2.2 k17 39) fun k22 => grd (okV V k22 0 x18) <| nm (sI g20 k22 x18.toNatClampNeg x19) fun g25 => nm ((((200 : Int32) * x18) + x19) - (1600 : Int32)) fun x26 => Option.bind (g25.2.2 k17 42) fun k27 => grd (okV V k27 0 x26) <| nm (sI g25 k27 x26.toNatClampNeg (-1 : Int32)) fun g30 => Option.bind (g30.2.2 k17 43) fun k31 => grd (okV V k31 2 x26) <| nm (sI g30 k31 x26.toNatClampNeg (vp_nar .boolean (0 : Int32))) fun g34 => Option.bind (g34.2.2 k17 44) fun k35 => grd (okV V k35 0 x26) <| nm (sI g34 k35 x26.toNatClampNeg (0 : Int32)) fun g38 => Option.bind (g38.2.2 k17 40) fun k39 => grd (okV V k39 0 x18) <| nm ((g38.1 k39 x18.toNatClampNeg) + (1 : Int32)) fun x42 => (lop (r_X12_fill_147 V) (k17, x18, x19, x26, x42, (0 : Int32), g38))
set_option maxHeartbeats 4000000 in
set_option maxRecDepth 100000 in
theorem w_X12_fill_88 {p : Program} {l : Launch} {e : Env} {R : Room} {s : State} {m : MethodId} {args : Array Value} {below : List Frame} {meth : Method} {c : Code} {D : va_G} {cA : Nat → ClassId} {sk : (Nat → Nat) × (Nat → Nat)} {ad : Nat → Nat} {A : Nat → Prop} {V : Vk} (cx : CallFix p m c cX12_fill 9 s args gw_tbl RX12) (fx : Fx D cA sk A s) (hlocks : meth.locks = false) (hret : meth.sig.returnType = (some .int)) (hR : 2 ≤ R.frames ∧ 42 ≤ R.locals) (r0 : Int32) (g0 : Hq) (z : (Int32 × Hq)) (hq : ∀ (rb : Int32) (gb : Hq), z = (rb, gb) → rb = r0 ∧ gb = g0) (k17 : Nat) (x18 : Int32) (x19 : Int32) (g20 : Hq) (hr : r_X12_fill_88 V k17 x18 x19 g20 = some z) (H : Heap) (locs : List Loc) (ls : Array Slot) (dy : Dy D cA ad (V, g20) A s.heap H locs) (hl : lv_has ls 9 [(0, .ref (ad k17)), (1, .int x18), (4, .int x19)]) : W p l e R s m args below meth c H locs 0 0 (MQ below (QI D cA ad A r0 (V, g0)) args s 0 0 A) (F0 m 88 ls []) := by
  unfold r_X12_fill_88 at hr
  have hq0 := hq
  refine lv_aload_n cx.1 cx.2.1 dX12_fill_88 rfl (lv_at hl 0 rfl) ?_
  obtain ⟨hv21, hr⟩ := of_grd hr
  obtain ⟨k22, hf23, hr⟩ := of_bnd hr
  refine h_getR cx fx dy fd_12_39 hv21 tb_1025 hf23 dX12_fill_89 ?_
  refine lv_iload_n cx.1 cx.2.1 dX12_fill_92 rfl (lv_at hl 1 rfl) ?_
  refine lv_iload cx.1 cx.2.1 dX12_fill_93 (lv_at hl 2 rfl) ?_
  obtain ⟨ha24, hr⟩ := of_grd hr
  obtain ⟨g25, eg25, hr⟩ := of_nm hr
  refine h_iast cx fx dy ha24 dX12_fill_95 (fun H locs dy => ?_)
  replace dy : Dy D cA ad (V, g25) A s.heap H locs := by rw [eg25]; exact dy
  refine lv_sipush (v := 200) cx.1 cx.2.1 dX12_fill_96 (by decide) ?_
  refine lv_iload_n cx.1 cx.2.1 dX12_fill_99 rfl (lv_at hl 1 rfl) ?_
  refine lv_imul cx.1 cx.2.1 dX12_fill_100 ?_
  refine lv_iload cx.1 cx.2.1 dX12_fill_101 (lv_at hl 2 rfl) ?_
  refine lv_iadd cx.1 cx.2.1 dX12_fill_103 ?_
  refine lv_sipush (v := 1600) cx.1 cx.2.1 dX12_fill_104 (by decide) ?_
  refine lv_isub cx.1 cx.2.1 dX12_fill_107 ?_
  obtain ⟨x26, ex26, hr⟩ := of_nm hr
  refine lv_nmi ex26 ?_
  refine lv_istore (lv' := [(5, .int x26), (0, .ref (ad k17)), (1, .int x18), (4, .int x19)]) cx.1 cx.2.1 dX12_fill_108 hl (by decide) rfl (fun ls hl => ?_)
  refine lv_aload_n cx.1 cx.2.1 dX12_fill_110 rfl (lv_at hl 1 rfl) ?_
  obtain ⟨k27, hf28, hr⟩ := of_bnd hr
  refine h_getR cx fx dy fd_12_42 hv21 tb_1028 hf28 dX12_fill_111 ?_
  refine lv_iload cx.1 cx.2.1 dX12_fill_114 (lv_at hl 0 rfl) ?_
  refine lv_iconst (v := (-1)) cx.1 cx.2.1 dX12_fill_116 (by decide) ?_
  obtain ⟨ha29, hr⟩ := of_grd hr
  obtain ⟨g30, eg30, hr⟩ := of_nm hr
  refine h_iast cx fx dy ha29 dX12_fill_117 (fun H locs dy => ?_)
  replace dy : Dy D cA ad (V, g30) A s.heap H locs := by rw [eg30]; exact dy
  refine lv_aload_n cx.1 cx.2.1 dX12_fill_118 rfl (lv_at hl 1 rfl) ?_
  obtain ⟨k31, hf32, hr⟩ := of_bnd hr
  refine h_getR cx fx dy fd_12_43 hv21 tb_1029 hf32 dX12_fill_119 ?_
  refine lv_iload cx.1 cx.2.1 dX12_fill_122 (lv_at hl 0 rfl) ?_
  refine lv_iconst (v := 0) cx.1 cx.2.1 dX12_fill_124 (by decide) ?_
  obtain ⟨ha33, hr⟩ := of_grd hr
  obtain ⟨g34, eg34, hr⟩ := of_nm hr
  refine h_zast cx fx dy ha33 dX12_fill_125 (fun H locs dy => ?_)
  replace dy : Dy D cA ad (V, g34) A s.heap H locs := by rw [eg34]; exact dy
  refine lv_aload_n cx.1 cx.2.1 dX12_fill_126 rfl (lv_at hl 1 rfl) ?_
  obtain ⟨k35, hf36, hr⟩ := of_bnd hr
  refine h_getR cx fx dy fd_12_44 hv21 tb_1030 hf36 dX12_fill_127 ?_
  refine lv_iload cx.1 cx.2.1 dX12_fill_130 (lv_at hl 0 rfl) ?_
  refine lv_iconst (v := 0) cx.1 cx.2.1 dX12_fill_132 (by decide) ?_
  obtain ⟨ha37, hr⟩ := of_grd hr
  obtain ⟨g38, eg38, hr⟩ := of_nm hr
  refine h_iast cx fx dy ha37 dX12_fill_133 (fun H locs dy => ?_)
  replace dy : Dy D cA ad (V, g38) A s.heap H locs := by rw [eg38]; exact dy
  refine lv_aload_n cx.1 cx.2.1 dX12_fill_134 rfl (lv_at hl 1 rfl) ?_
  obtain ⟨k39, hf40, hr⟩ := of_bnd hr
  refine h_getR cx fx dy fd_12_40 hv21 tb_1026 hf40 dX12_fill_135 ?_
  refine lv_iload_n cx.1 cx.2.1 dX12_fill_138 rfl (lv_at hl 2 rfl) ?_
  obtain ⟨ha41, hr⟩ := of_grd hr
  refine h_iald cx fx dy ha41 dX12_fill_139 ?_
  refine lv_iconst (v := 1) cx.1 cx.2.1 dX12_fill_140 (by decide) ?_
  refine lv_iadd cx.1 cx.2.1 dX12_fill_141 ?_
  obtain ⟨x42, ex42, hr⟩ := of_nm hr
  refine lv_nmi ex42 ?_
  refine lv_istore (lv' := [(6, .int x42), (5, .int x26), (0, .ref (ad k17)), (1, .int x18), (4, .int x19)]) cx.1 cx.2.1 dX12_fill_142 hl (by decide) rfl (fun ls hl => ?_)
  refine lv_iconst (v := 0) cx.1 cx.2.1 dX12_fill_144 (by decide) ?_
  refine lv_istore (lv' := [(7, .int (0 : Int32)), (6, .int x42), (5, .int x26), (0, .ref (ad k17)), (1, .int x18), (4, .int x19)]) cx.1 cx.2.1 dX12_fill_145 hl (by decide) rfl (fun ls hl => ?_)
  obtain ⟨n, hr⟩ := lop_some hr
  exact w_X12_fill_147 cx fx hlocks hret hR r0 g0 z hq0 n k17 x18 x19 x26 x42 (0 : Int32) g38 hr H locs ls dy (lv_sub hl [3, 4, 5, 2, 1, 0] rfl)
noncomputable def r_X12_fill_42 (V : Vk) (k8 : Nat) (x9 : Int32) (x10 : Int32) (x11 : Int32) (x12 : Int32) (g13 : Hq) : Option (Int32 × Hq) :=
  bnd (r_X12_in V x12 (1600 : Int32) (1799 : Int32) g13) fun x15 g14 => brn (x15 = 0) (some ((-2 : Int32), g14)) (brn (x11 = 0) (brn (x10 = (-1 : Int32)) (brn (x11 = 0) ((r_X12_fill_88 V k8 x9 x12 g14)) (grd (V k8 = some (12, 0)) <| Option.bind (g14.2.2 k8 41) fun k98 => grd (okV V k98 0 x9) <| nm (sI g14 k98 x9.toNatClampNeg x12) fun g101 => (r_X12_fill_88 V k8 x9 x12 g101))) (brn (x10 = x12) (brn (x11 = 0) ((r_X12_fill_88 V k8 x9 x12 g14)) (grd (V k8 = some (12, 0)) <| Option.bind (g14.2.2 k8 41) fun k103 => grd (okV V k103 0 x9) <| nm (sI g14 k103 x9.toNatClampNeg x12) fun g106 => (r_X12_fill_88 V k8 x9 x12 g106))) (some ((-2 : Int32), g14)))) (brn (x11 = 0) ((r_X12_fill_88 V k8 x9 x12 g14)) (grd (V k8 = some (12, 0)) <| Option.bind (g14.2.2 k8 41) fun k108 => grd (okV V k108 0 x9) <| nm (sI g14 k108 x9.toNatClampNeg x12) fun g111 => (r_X12_fill_88 V k8 x9 x12 g111))))
set_option maxHeartbeats 4000000 in
set_option maxRecDepth 100000 in
theorem w_X12_fill_42 {p : Program} {l : Launch} {e : Env} {R : Room} {s : State} {m : MethodId} {args : Array Value} {below : List Frame} {meth : Method} {c : Code} {D : va_G} {cA : Nat → ClassId} {sk : (Nat → Nat) × (Nat → Nat)} {ad : Nat → Nat} {A : Nat → Prop} {V : Vk} (cx : CallFix p m c cX12_fill 9 s args gw_tbl RX12) (fx : Fx D cA sk A s) (hlocks : meth.locks = false) (hret : meth.sig.returnType = (some .int)) (hR : 2 ≤ R.frames ∧ 42 ≤ R.locals) (r0 : Int32) (g0 : Hq) (z : (Int32 × Hq)) (hq : ∀ (rb : Int32) (gb : Hq), z = (rb, gb) → rb = r0 ∧ gb = g0) (k8 : Nat) (x9 : Int32) (x10 : Int32) (x11 : Int32) (x12 : Int32) (g13 : Hq) (hr : r_X12_fill_42 V k8 x9 x10 x11 x12 g13 = some z) (H : Heap) (locs : List Loc) (ls : Array Slot) (dy : Dy D cA ad (V, g13) A s.heap H locs) (hl : lv_has ls 9 [(0, .ref (ad k8)), (1, .int x9), (2, .int x10), (3, .int x11)]) : W p l e R s m args below meth c H locs 0 0 (MQ below (QI D cA ad A r0 (V, g0)) args s 0 0 A) (F0 m 42 ls [.int x12]) := by
  unfold r_X12_fill_42 at hr
  have hq0 := hq
  refine lv_istore (lv' := [(4, .int x12), (0, .ref (ad k8)), (1, .int x9), (2, .int x10), (3, .int x11)]) cx.1 cx.2.1 dX12_fill_42 hl (by decide) rfl (fun ls hl => ?_)
  refine lv_iload cx.1 cx.2.1 dX12_fill_44 (lv_at hl 0 rfl) ?_
  refine lv_sipush (v := 1600) cx.1 cx.2.1 dX12_fill_46 (by decide) ?_
  refine lv_sipush (v := 1799) cx.1 cx.2.1 dX12_fill_49 (by decide) ?_
  obtain ⟨x15, g14, hc16, hr⟩ := of_bnd2 hr
  refine r_i dy (k_S (As := [.int x12, .int (1600 : Int32), .int (1799 : Int32)]) cx fx dy (c_X12_in hc16) mv_X12_in rfl rfl ⟨Nat.le_trans (by decide) hR.1, Nat.le_trans (by decide) hR.2⟩ tb_1170 rfl hl.1 rfl (Nat.le_of_ble_eq_true rfl) ⟨Nat.zero_le _, Nat.zero_le _⟩ dX12_fill_52) (fun H locs dy => ?_)
  rcases of_brn hr with ⟨hc, hr⟩ | ⟨hc, hr⟩
  · refine lv_if_eq (tgt := 73) cx.1 cx.2.1 dX12_fill_55 (by decide) (fun _ => ?_) (fun hn => absurd hc hn)
    refine lv_bipush (v := (-2)) cx.1 cx.2.1 dX12_fill_73 (by decide) ?_
    obtain ⟨e0, e1⟩ := hq0 _ _ (Option.some.inj hr).symm
    exact h_iret cx dy hlocks hret rfl e0 (by rw [e1]) dX12_fill_75
  · refine lv_if_eq (tgt := 73) cx.1 cx.2.1 dX12_fill_55 (by decide) (fun hn => absurd hn hc) (fun _ => ?_)
    refine lv_iload_n cx.1 cx.2.1 dX12_fill_58 rfl (lv_at hl 4 rfl) ?_
    rcases of_brn hr with ⟨hc, hr⟩ | ⟨hc, hr⟩
    · refine lv_if_ne (tgt := 76) cx.1 cx.2.1 dX12_fill_59 (by decide) (fun hn => absurd hc hn) (fun _ => ?_)
      refine lv_iload_n cx.1 cx.2.1 dX12_fill_62 rfl (lv_at hl 3 rfl) ?_
      refine lv_iconst (v := (-1)) cx.1 cx.2.1 dX12_fill_63 (by decide) ?_
      rcases of_brn hr with ⟨hc, hr⟩ | ⟨hc, hr⟩
      · refine lv_icmp_eq (tgt := 76) cx.1 cx.2.1 dX12_fill_64 (by decide) (fun _ => ?_) (fun hn => absurd hc hn)
        refine lv_iload_n cx.1 cx.2.1 dX12_fill_76 rfl (lv_at hl 4 rfl) ?_
        rcases of_brn hr with ⟨hc, hr⟩ | ⟨hc, hr⟩
        · refine lv_if_eq (tgt := 88) cx.1 cx.2.1 dX12_fill_77 (by decide) (fun _ => ?_) (fun hn => absurd hc hn)
          exact w_X12_fill_88 cx fx hlocks hret hR r0 g0 z hq0 k8 x9 x12 g14 hr H locs ls dy (lv_sub hl [1, 2, 0] rfl)
        · refine lv_if_eq (tgt := 88) cx.1 cx.2.1 dX12_fill_77 (by decide) (fun hn => absurd hn hc) (fun _ => ?_)
          refine lv_aload_n cx.1 cx.2.1 dX12_fill_80 rfl (lv_at hl 1 rfl) ?_
          obtain ⟨hv97, hr⟩ := of_grd hr
          obtain ⟨k98, hf99, hr⟩ := of_bnd hr
          refine h_getR cx fx dy fd_12_41 hv97 tb_1027 hf99 dX12_fill_81 ?_
          refine lv_iload_n cx.1 cx.2.1 dX12_fill_84 rfl (lv_at hl 2 rfl) ?_
          refine lv_iload cx.1 cx.2.1 dX12_fill_85 (lv_at hl 0 rfl) ?_
          obtain ⟨ha100, hr⟩ := of_grd hr
          obtain ⟨g101, eg101, hr⟩ := of_nm hr
          refine h_iast cx fx dy ha100 dX12_fill_87 (fun H locs dy => ?_)
          replace dy : Dy D cA ad (V, g101) A s.heap H locs := by rw [eg101]; exact dy
          exact w_X12_fill_88 cx fx hlocks hret hR r0 g0 z hq0 k8 x9 x12 g101 hr H locs ls dy (lv_sub hl [1, 2, 0] rfl)
      · refine lv_icmp_eq (tgt := 76) cx.1 cx.2.1 dX12_fill_64 (by decide) (fun hn => absurd hn hc) (fun _ => ?_)
        refine lv_iload_n cx.1 cx.2.1 dX12_fill_67 rfl (lv_at hl 3 rfl) ?_
        refine lv_iload cx.1 cx.2.1 dX12_fill_68 (lv_at hl 0 rfl) ?_
        rcases of_brn hr with ⟨hc, hr⟩ | ⟨hc, hr⟩
        · refine lv_icmp_eq (tgt := 76) cx.1 cx.2.1 dX12_fill_70 (by decide) (fun _ => ?_) (fun hn => absurd hc hn)
          refine lv_iload_n cx.1 cx.2.1 dX12_fill_76 rfl (lv_at hl 4 rfl) ?_
          rcases of_brn hr with ⟨hc, hr⟩ | ⟨hc, hr⟩
          · refine lv_if_eq (tgt := 88) cx.1 cx.2.1 dX12_fill_77 (by decide) (fun _ => ?_) (fun hn => absurd hc hn)
            exact w_X12_fill_88 cx fx hlocks hret hR r0 g0 z hq0 k8 x9 x12 g14 hr H locs ls dy (lv_sub hl [1, 2, 0] rfl)
          · refine lv_if_eq (tgt := 88) cx.1 cx.2.1 dX12_fill_77 (by decide) (fun hn => absurd hn hc) (fun _ => ?_)
            refine lv_aload_n cx.1 cx.2.1 dX12_fill_80 rfl (lv_at hl 1 rfl) ?_
            obtain ⟨hv102, hr⟩ := of_grd hr
            obtain ⟨k103, hf104, hr⟩ := of_bnd hr
            refine h_getR cx fx dy fd_12_41 hv102 tb_1027 hf104 dX12_fill_81 ?_
            refine lv_iload_n cx.1 cx.2.1 dX12_fill_84 rfl (lv_at hl 2 rfl) ?_
            refine lv_iload cx.1 cx.2.1 dX12_fill_85 (lv_at hl 0 rfl) ?_
            obtain ⟨ha105, hr⟩ := of_grd hr
            obtain ⟨g106, eg106, hr⟩ := of_nm hr
            refine h_iast cx fx dy ha105 dX12_fill_87 (fun H locs dy => ?_)
            replace dy : Dy D cA ad (V, g106) A s.heap H locs := by rw [eg106]; exact dy
            exact w_X12_fill_88 cx fx hlocks hret hR r0 g0 z hq0 k8 x9 x12 g106 hr H locs ls dy (lv_sub hl [1, 2, 0] rfl)
        · refine lv_icmp_eq (tgt := 76) cx.1 cx.2.1 dX12_fill_70 (by decide) (fun hn => absurd hn hc) (fun _ => ?_)
          refine lv_bipush (v := (-2)) cx.1 cx.2.1 dX12_fill_73 (by decide) ?_
          obtain ⟨e0, e1⟩ := hq0 _ _ (Option.some.inj hr).symm
          exact h_iret cx dy hlocks hret rfl e0 (by rw [e1]) dX12_fill_75
    · refine lv_if_ne (tgt := 76) cx.1 cx.2.1 dX12_fill_59 (by decide) (fun _ => ?_) (fun hn => absurd hn hc)
      refine lv_iload_n cx.1 cx.2.1 dX12_fill_76 rfl (lv_at hl 4 rfl) ?_
      rcases of_brn hr with ⟨hc, hr⟩ | ⟨hc, hr⟩
      · refine lv_if_eq (tgt := 88) cx.1 cx.2.1 dX12_fill_77 (by decide) (fun _ => ?_) (fun hn => absurd hc hn)
        exact w_X12_fill_88 cx fx hlocks hret hR r0 g0 z hq0 k8 x9 x12 g14 hr H locs ls dy (lv_sub hl [1, 2, 0] rfl)
      · refine lv_if_eq (tgt := 88) cx.1 cx.2.1 dX12_fill_77 (by decide) (fun hn => absurd hn hc) (fun _ => ?_)
        refine lv_aload_n cx.1 cx.2.1 dX12_fill_80 rfl (lv_at hl 1 rfl) ?_
        obtain ⟨hv107, hr⟩ := of_grd hr
        obtain ⟨k108, hf109, hr⟩ := of_bnd hr
        refine h_getR cx fx dy fd_12_41 hv107 tb_1027 hf109 dX12_fill_81 ?_
        refine lv_iload_n cx.1 cx.2.1 dX12_fill_84 rfl (lv_at hl 2 rfl) ?_
        refine lv_iload cx.1 cx.2.1 dX12_fill_85 (lv_at hl 0 rfl) ?_
        obtain ⟨ha110, hr⟩ := of_grd hr
        obtain ⟨g111, eg111, hr⟩ := of_nm hr
        refine h_iast cx fx dy ha110 dX12_fill_87 (fun H locs dy => ?_)
        replace dy : Dy D cA ad (V, g111) A s.heap H locs := by rw [eg111]; exact dy
        exact w_X12_fill_88 cx fx hlocks hret hR r0 g0 z hq0 k8 x9 x12 g111 hr H locs ls dy (lv_sub hl [1, 2, 0] rfl)
noncomputable def r_X12_fill (V : Vk) (k0 : Nat) (a1 : Int32) (a2 : Int32) (g : Hq) : Option (Int32 × Hq) :=
  bnd (r_X12_isWard V a1 g) fun x2 g1 => brn (x2 = 0) (some ((-2 : Int32), g1)) (grd (V k0 = some (12, 0)) <| Option.bind (g1.2.2 k0 39) fun k5 => grd (okV V k5 0 a1) <| brn ((g1.1 k5 a1.toNatClampNeg) = (-1 : Int32)) ((r_X12_fill_42 V k0 a1 a2 (1 : Int32) a2 g1)) (Option.bind (g1.2.2 k0 39) fun k112 => grd (okV V k112 0 a1) <| (r_X12_fill_42 V k0 a1 a2 (0 : Int32) ((g1.1 k112 a1.toNatClampNeg) + (1 : Int32)) g1)))
set_option maxHeartbeats 4000000 in
set_option maxRecDepth 100000 in
theorem c_X12_fill {l : Launch} {D : va_G} {cA : Nat → ClassId} {sk : (Nat → Nat) × (Nat → Nat)} {ad : Nat → Nat} {A : Nat → Prop} {V : Vk} {k0 : Nat} {a1 : Int32} {a2 : Int32} {g g0 : Hq} {r0 : Int32} (hr : r_X12_fill V k0 a1 a2 g = some (r0, g0)) : Met l yX12_fill (wM yX12_fill cX12_fill 9 (some .int)) { frames := 2, cells := 0, slots := 0, locals := 42 } (Pre D cA sk ad (V, g) A [.ref (ad k0), .int a1, .int a2]) (QI D cA ad A r0 (V, g0)) 0 0 A := by
  refine Met.ofW (cc := cX12_fill) (maxL := 9) (ret := (some .int)) (by decide) rfl ?_
  intro p e s m args below meth c s₁ B hml hv
  obtain ⟨rfl, fx, w0⟩ := hv
  have hts := atoms_spec (ws := wM yX12_fill cX12_fill 9 (some .int)) B.pre
  have cx : CallFix p m c cX12_fill 9 s ([.ref (ad k0), .int a1, .int a2] : List Value).toArray gw_tbl RX12 := ⟨B.exec, B.bytes, hml, findClass_of_methodNamed B.named, fun w hw => hts w (List.mem_cons_of_mem _ hw)⟩
  have hlocks := B.notSynchronized
  have hret := B.returns
  have hR : 2 ≤ (headSpec (wM yX12_fill cX12_fill 9 (some .int)) { frames := 2, cells := 0, slots := 0, locals := 42 }).room.frames ∧ 42 ≤ (headSpec (wM yX12_fill cX12_fill 9 (some .int)) { frames := 2, cells := 0, slots := 0, locals := 42 }).room.locals := ⟨Nat.le_refl _, Nat.le_refl _⟩
  have dy : Dy D cA ad (V, g) A s.heap s.heap [] := ⟨w0, va_S.rf⟩
  have hl := lv_entry [.ref (ad k0), .int a1, .int a2] (n := 9) (Nat.le_of_ble_eq_true rfl)
  rw [lg_entry_eq]
  generalize (lg_sl [.ref (ad k0), .int a1, .int a2] ++ List.replicate (9 - (lg_sl [.ref (ad k0), .int a1, .int a2]).length) Slot.unset).toArray = ls at hl ⊢
  have hl : lv_has ls 9 [(0, .ref (ad k0)), (1, .int a1), (2, .int a2)] := hl
  have dy0 : ∃ H0, H0 = s.heap ∧ Dy D cA ad (V, g) A s.heap H0 [] := ⟨_, rfl, dy⟩
  obtain ⟨z, ez⟩ : ∃ z, z = (r0, g0) := ⟨_, rfl⟩
  rw [← ez] at hr
  have hq0 : ∀ (rb : Int32) (gb : Hq), z = (rb, gb) → rb = r0 ∧ gb = g0 := fun rb gb eb => by rw [ez] at eb; exact ⟨(congrArg Prod.fst eb).symm, (congrArg Prod.snd eb).symm⟩
  clear ez w0 dy0
  unfold r_X12_fill at hr
  obtain ⟨H, hH⟩ : ∃ H, H = s.heap := ⟨_, rfl⟩
  obtain ⟨locs, hlo⟩ : ∃ q : List Loc, q = [] := ⟨_, rfl⟩
  have dy : Dy D cA ad (V, g) A s.heap H locs := by rw [hH, hlo]; exact dy
  suffices K : W p l e (headSpec (wM yX12_fill cX12_fill 9 (some .int)) { frames := 2, cells := 0, slots := 0, locals := 42 }).room s m ([.ref (ad k0), .int a1, .int a2] : List Value).toArray below meth c H locs 0 0 (MQ below (QI D cA ad A r0 (V, g0)) ([.ref (ad k0), .int a1, .int a2] : List Value).toArray s 0 0 A) (F0 m 0 ls []) by rw [hH, hlo] at K; exact K
  clear hH hlo
  refine lv_iload_n cx.1 cx.2.1 dX12_fill_0 rfl (lv_at hl 1 rfl) ?_
  obtain ⟨x2, g1, hc3, hr⟩ := of_bnd2 hr
  refine r_i dy (k_S (As := [.int a1]) cx fx dy (c_X12_isWard hc3) mv_X12_isWard rfl rfl ⟨Nat.le_trans (by decide) hR.1, Nat.le_trans (by decide) hR.2⟩ tb_1173 rfl hl.1 rfl (Nat.le_of_ble_eq_true rfl) ⟨Nat.zero_le _, Nat.zero_le _⟩ dX12_fill_1) (fun H locs dy => ?_)
  rcases of_brn hr with ⟨hc, hr⟩ | ⟨hc, hr⟩
  · refine lv_if_ne (tgt := 10) cx.1 cx.2.1 dX12_fill_4 (by decide) (fun hn => absurd hc hn) (fun _ => ?_)
    refine lv_bipush (v := (-2)) cx.1 cx.2.1 dX12_fill_7 (by decide) ?_
    obtain ⟨e0, e1⟩ := hq0 _ _ (Option.some.inj hr).symm
    exact h_iret cx dy hlocks hret rfl e0 (by rw [e1]) dX12_fill_9
  · refine lv_if_ne (tgt := 10) cx.1 cx.2.1 dX12_fill_4 (by decide) (fun _ => ?_) (fun hn => absurd hn hc)
    refine lv_aload_n cx.1 cx.2.1 dX12_fill_10 rfl (lv_at hl 0 rfl) ?_
    obtain ⟨hv4, hr⟩ := of_grd hr
    obtain ⟨k5, hf6, hr⟩ := of_bnd hr
    refine h_getR cx fx dy fd_12_39 hv4 tb_1025 hf6 dX12_fill_11 ?_
    refine lv_iload_n cx.1 cx.2.1 dX12_fill_14 rfl (lv_at hl 1 rfl) ?_
    obtain ⟨ha7, hr⟩ := of_grd hr
    refine h_iald cx fx dy ha7 dX12_fill_15 ?_
    refine lv_iconst (v := (-1)) cx.1 cx.2.1 dX12_fill_16 (by decide) ?_
    rcases of_brn hr with ⟨hc, hr⟩ | ⟨hc, hr⟩
    · refine lv_icmp_ne (tgt := 24) cx.1 cx.2.1 dX12_fill_17 (by decide) (fun hn => absurd hc hn) (fun _ => ?_)
      refine lv_iconst (v := 1) cx.1 cx.2.1 dX12_fill_20 (by decide) ?_
      refine lv_goto (tgt := 25) cx.1 cx.2.1 dX12_fill_21 (by decide) ?_
      refine lv_istore_n (lv' := [(3, .int (1 : Int32)), (0, .ref (ad k0)), (1, .int a1), (2, .int a2)]) cx.1 cx.2.1 dX12_fill_25 rfl hl (by decide) rfl (fun ls hl => ?_)
      refine lv_iload_n cx.1 cx.2.1 dX12_fill_26 rfl (lv_at hl 0 rfl) ?_
      refine lv_if_eq (tgt := 34) cx.1 cx.2.1 dX12_fill_27 (by decide) (fun hn => absurd hn (by decide)) (fun _ => ?_)
      refine lv_iload_n cx.1 cx.2.1 dX12_fill_30 rfl (lv_at hl 3 rfl) ?_
      refine lv_goto (tgt := 42) cx.1 cx.2.1 dX12_fill_31 (by decide) ?_
      exact w_X12_fill_42 cx fx hlocks hret hR r0 g0 z hq0 k0 a1 a2 (1 : Int32) a2 g1 hr H locs ls dy (lv_sub hl [1, 2, 3, 0] rfl)
    · refine lv_icmp_ne (tgt := 24) cx.1 cx.2.1 dX12_fill_17 (by decide) (fun _ => ?_) (fun hn => absurd hn hc)
      refine lv_iconst (v := 0) cx.1 cx.2.1 dX12_fill_24 (by decide) ?_
      refine lv_istore_n (lv' := [(3, .int (0 : Int32)), (0, .ref (ad k0)), (1, .int a1), (2, .int a2)]) cx.1 cx.2.1 dX12_fill_25 rfl hl (by decide) rfl (fun ls hl => ?_)
      refine lv_iload_n cx.1 cx.2.1 dX12_fill_26 rfl (lv_at hl 0 rfl) ?_
      refine lv_if_eq (tgt := 34) cx.1 cx.2.1 dX12_fill_27 (by decide) (fun _ => ?_) (fun hn => absurd hn (by decide))
      refine lv_aload_n cx.1 cx.2.1 dX12_fill_34 rfl (lv_at hl 1 rfl) ?_
      obtain ⟨k112, hf113, hr⟩ := of_bnd hr
      refine h_getR cx fx dy fd_12_39 hv4 tb_1025 hf113 dX12_fill_35 ?_
      refine lv_iload_n cx.1 cx.2.1 dX12_fill_38 rfl (lv_at hl 2 rfl) ?_
      obtain ⟨ha114, hr⟩ := of_grd hr
      refine h_iald cx fx dy ha114 dX12_fill_39 ?_
      refine lv_iconst (v := 1) cx.1 cx.2.1 dX12_fill_40 (by decide) ?_
      refine lv_iadd cx.1 cx.2.1 dX12_fill_41 ?_
      exact w_X12_fill_42 cx fx hlocks hret hR r0 g0 z hq0 k0 a1 a2 (0 : Int32) ((g1.1 k112 a1.toNatClampNeg) + (1 : Int32)) g1 hr H locs ls dy (lv_sub hl [1, 2, 3, 0] rfl)
noncomputable def r_X12_year (V : Vk) (k0 : Nat) (a1 : Int32) (a2 : Int32) (a3 : Int32) (g : Hq) : Option (Int32 × Hq) :=
  bnd (r_X12_isWard V a1 g) fun x2 g1 => brn (x2 = 0) (some ((-9 : Int32), g1)) (grd (V k0 = some (12, 0)) <| Option.bind (g1.2.2 k0 39) fun k5 => grd (okV V k5 0 a1) <| brn ((g1.1 k5 a1.toNatClampNeg) = (-1 : Int32)) (some ((-9 : Int32), g1)) (Option.bind (g1.2.2 k0 41) fun k8 => grd (okV V k8 0 a1) <| Option.bind (g1.2.2 k0 39) fun k11 => grd (okV V k11 0 a1) <| bnd (r_X12_in V a2 (g1.1 k8 a1.toNatClampNeg) (g1.1 k11 a1.toNatClampNeg) g1) fun x15 g14 => brn (x15 = 0) (some ((-9 : Int32), g14)) (bnd (r_X12_in V a3 (0 : Int32) (2 : Int32) g14) fun x18 g17 => brn (x18 = 0) (some ((-9 : Int32), g17)) (nm ((((200 : Int32) * a1) + a2) - (1600 : Int32)) fun x20 => brn (a3 = 0) (Option.bind (g17.2.2 k0 42) fun k21 => grd (okV V k21 0 x20) <| some ((g17.1 k21 x20.toNatClampNeg), g17)) (brn (a3 = (1 : Int32)) (Option.bind (g17.2.2 k0 43) fun k24 => grd (okV V k24 2 x20) <| brn ((g17.1 k24 x20.toNatClampNeg) = 0) (some ((0 : Int32), g17)) (some ((1 : Int32), g17))) (Option.bind (g17.2.2 k0 44) fun k27 => grd (okV V k27 0 x20) <| some ((g17.1 k27 x20.toNatClampNeg), g17)))))))
set_option maxHeartbeats 4000000 in
set_option maxRecDepth 100000 in
theorem c_X12_year {l : Launch} {D : va_G} {cA : Nat → ClassId} {sk : (Nat → Nat) × (Nat → Nat)} {ad : Nat → Nat} {A : Nat → Prop} {V : Vk} {k0 : Nat} {a1 : Int32} {a2 : Int32} {a3 : Int32} {g g0 : Hq} {r0 : Int32} (hr : r_X12_year V k0 a1 a2 a3 g = some (r0, g0)) : Met l yX12_year (wM yX12_year cX12_year 5 (some .int)) { frames := 2, cells := 0, slots := 0, locals := 42 } (Pre D cA sk ad (V, g) A [.ref (ad k0), .int a1, .int a2, .int a3]) (QI D cA ad A r0 (V, g0)) 0 0 A := by
  refine Met.ofW (cc := cX12_year) (maxL := 5) (ret := (some .int)) (by decide) rfl ?_
  intro p e s m args below meth c s₁ B hml hv
  obtain ⟨rfl, fx, w0⟩ := hv
  have hts := atoms_spec (ws := wM yX12_year cX12_year 5 (some .int)) B.pre
  have cx : CallFix p m c cX12_year 5 s ([.ref (ad k0), .int a1, .int a2, .int a3] : List Value).toArray gw_tbl RX12 := ⟨B.exec, B.bytes, hml, findClass_of_methodNamed B.named, fun w hw => hts w (List.mem_cons_of_mem _ hw)⟩
  have hlocks := B.notSynchronized
  have hret := B.returns
  have hR : 2 ≤ (headSpec (wM yX12_year cX12_year 5 (some .int)) { frames := 2, cells := 0, slots := 0, locals := 42 }).room.frames ∧ 42 ≤ (headSpec (wM yX12_year cX12_year 5 (some .int)) { frames := 2, cells := 0, slots := 0, locals := 42 }).room.locals := ⟨Nat.le_refl _, Nat.le_refl _⟩
  have dy : Dy D cA ad (V, g) A s.heap s.heap [] := ⟨w0, va_S.rf⟩
  have hl := lv_entry [.ref (ad k0), .int a1, .int a2, .int a3] (n := 5) (Nat.le_of_ble_eq_true rfl)
  rw [lg_entry_eq]
  generalize (lg_sl [.ref (ad k0), .int a1, .int a2, .int a3] ++ List.replicate (5 - (lg_sl [.ref (ad k0), .int a1, .int a2, .int a3]).length) Slot.unset).toArray = ls at hl ⊢
  have hl : lv_has ls 5 [(0, .ref (ad k0)), (1, .int a1), (2, .int a2), (3, .int a3)] := hl
  have dy0 : ∃ H0, H0 = s.heap ∧ Dy D cA ad (V, g) A s.heap H0 [] := ⟨_, rfl, dy⟩
  obtain ⟨z, ez⟩ : ∃ z, z = (r0, g0) := ⟨_, rfl⟩
  rw [← ez] at hr
  have hq0 : ∀ (rb : Int32) (gb : Hq), z = (rb, gb) → rb = r0 ∧ gb = g0 := fun rb gb eb => by rw [ez] at eb; exact ⟨(congrArg Prod.fst eb).symm, (congrArg Prod.snd eb).symm⟩
  clear ez w0 dy0
  unfold r_X12_year at hr
  obtain ⟨H, hH⟩ : ∃ H, H = s.heap := ⟨_, rfl⟩
  obtain ⟨locs, hlo⟩ : ∃ q : List Loc, q = [] := ⟨_, rfl⟩
  have dy : Dy D cA ad (V, g) A s.heap H locs := by rw [hH, hlo]; exact dy
  suffices K : W p l e (headSpec (wM yX12_year cX12_year 5 (some .int)) { frames := 2, cells := 0, slots := 0, locals := 42 }).room s m ([.ref (ad k0), .int a1, .int a2, .int a3] : List Value).toArray below meth c H locs 0 0 (MQ below (QI D cA ad A r0 (V, g0)) ([.ref (ad k0), .int a1, .int a2, .int a3] : List Value).toArray s 0 0 A) (F0 m 0 ls []) by rw [hH, hlo] at K; exact K
  clear hH hlo
  refine lv_iload_n cx.1 cx.2.1 dX12_year_0 rfl (lv_at hl 1 rfl) ?_
  obtain ⟨x2, g1, hc3, hr⟩ := of_bnd2 hr
  refine r_i dy (k_S (As := [.int a1]) cx fx dy (c_X12_isWard hc3) mv_X12_isWard rfl rfl ⟨Nat.le_trans (by decide) hR.1, Nat.le_trans (by decide) hR.2⟩ tb_1173 rfl hl.1 rfl (Nat.le_of_ble_eq_true rfl) ⟨Nat.zero_le _, Nat.zero_le _⟩ dX12_year_1) (fun H locs dy => ?_)
  rcases of_brn hr with ⟨hc, hr⟩ | ⟨hc, hr⟩
  · refine lv_if_eq (tgt := 45) cx.1 cx.2.1 dX12_year_4 (by decide) (fun _ => ?_) (fun hn => absurd hc hn)
    refine lv_bipush (v := (-9)) cx.1 cx.2.1 dX12_year_45 (by decide) ?_
    obtain ⟨e0, e1⟩ := hq0 _ _ (Option.some.inj hr).symm
    exact h_iret cx dy hlocks hret rfl e0 (by rw [e1]) dX12_year_47
  · refine lv_if_eq (tgt := 45) cx.1 cx.2.1 dX12_year_4 (by decide) (fun hn => absurd hn hc) (fun _ => ?_)
    refine lv_aload_n cx.1 cx.2.1 dX12_year_7 rfl (lv_at hl 0 rfl) ?_
    obtain ⟨hv4, hr⟩ := of_grd hr
    obtain ⟨k5, hf6, hr⟩ := of_bnd hr
    refine h_getR cx fx dy fd_12_39 hv4 tb_1025 hf6 dX12_year_8 ?_
    refine lv_iload_n cx.1 cx.2.1 dX12_year_11 rfl (lv_at hl 1 rfl) ?_
    obtain ⟨ha7, hr⟩ := of_grd hr
    refine h_iald cx fx dy ha7 dX12_year_12 ?_
    refine lv_iconst (v := (-1)) cx.1 cx.2.1 dX12_year_13 (by decide) ?_
    rcases of_brn hr with ⟨hc, hr⟩ | ⟨hc, hr⟩
    · refine lv_icmp_eq (tgt := 45) cx.1 cx.2.1 dX12_year_14 (by decide) (fun _ => ?_) (fun hn => absurd hc hn)
      refine lv_bipush (v := (-9)) cx.1 cx.2.1 dX12_year_45 (by decide) ?_
      obtain ⟨e0, e1⟩ := hq0 _ _ (Option.some.inj hr).symm
      exact h_iret cx dy hlocks hret rfl e0 (by rw [e1]) dX12_year_47
    · refine lv_icmp_eq (tgt := 45) cx.1 cx.2.1 dX12_year_14 (by decide) (fun hn => absurd hn hc) (fun _ => ?_)
      refine lv_iload_n cx.1 cx.2.1 dX12_year_17 rfl (lv_at hl 2 rfl) ?_
      refine lv_aload_n cx.1 cx.2.1 dX12_year_18 rfl (lv_at hl 0 rfl) ?_
      obtain ⟨k8, hf9, hr⟩ := of_bnd hr
      refine h_getR cx fx dy fd_12_41 hv4 tb_1027 hf9 dX12_year_19 ?_
      refine lv_iload_n cx.1 cx.2.1 dX12_year_22 rfl (lv_at hl 1 rfl) ?_
      obtain ⟨ha10, hr⟩ := of_grd hr
      refine h_iald cx fx dy ha10 dX12_year_23 ?_
      refine lv_aload_n cx.1 cx.2.1 dX12_year_24 rfl (lv_at hl 0 rfl) ?_
      obtain ⟨k11, hf12, hr⟩ := of_bnd hr
      refine h_getR cx fx dy fd_12_39 hv4 tb_1025 hf12 dX12_year_25 ?_
      refine lv_iload_n cx.1 cx.2.1 dX12_year_28 rfl (lv_at hl 1 rfl) ?_
      obtain ⟨ha13, hr⟩ := of_grd hr
      refine h_iald cx fx dy ha13 dX12_year_29 ?_
      obtain ⟨x15, g14, hc16, hr⟩ := of_bnd2 hr
      refine r_i dy (k_S (As := [.int a2, .int (g1.1 k8 a1.toNatClampNeg), .int (g1.1 k11 a1.toNatClampNeg)]) cx fx dy (c_X12_in hc16) mv_X12_in rfl rfl ⟨Nat.le_trans (by decide) hR.1, Nat.le_trans (by decide) hR.2⟩ tb_1170 rfl hl.1 rfl (Nat.le_of_ble_eq_true rfl) ⟨Nat.zero_le _, Nat.zero_le _⟩ dX12_year_30) (fun H locs dy => ?_)
      rcases of_brn hr with ⟨hc, hr⟩ | ⟨hc, hr⟩
      · refine lv_if_eq (tgt := 45) cx.1 cx.2.1 dX12_year_33 (by decide) (fun _ => ?_) (fun hn => absurd hc hn)
        refine lv_bipush (v := (-9)) cx.1 cx.2.1 dX12_year_45 (by decide) ?_
        obtain ⟨e0, e1⟩ := hq0 _ _ (Option.some.inj hr).symm
        exact h_iret cx dy hlocks hret rfl e0 (by rw [e1]) dX12_year_47
      · refine lv_if_eq (tgt := 45) cx.1 cx.2.1 dX12_year_33 (by decide) (fun hn => absurd hn hc) (fun _ => ?_)
        refine lv_iload_n cx.1 cx.2.1 dX12_year_36 rfl (lv_at hl 3 rfl) ?_
        refine lv_iconst (v := 0) cx.1 cx.2.1 dX12_year_37 (by decide) ?_
        refine lv_iconst (v := 2) cx.1 cx.2.1 dX12_year_38 (by decide) ?_
        obtain ⟨x18, g17, hc19, hr⟩ := of_bnd2 hr
        refine r_i dy (k_S (As := [.int a3, .int (0 : Int32), .int (2 : Int32)]) cx fx dy (c_X12_in hc19) mv_X12_in rfl rfl ⟨Nat.le_trans (by decide) hR.1, Nat.le_trans (by decide) hR.2⟩ tb_1170 rfl hl.1 rfl (Nat.le_of_ble_eq_true rfl) ⟨Nat.zero_le _, Nat.zero_le _⟩ dX12_year_39) (fun H locs dy => ?_)
        rcases of_brn hr with ⟨hc, hr⟩ | ⟨hc, hr⟩
        · refine lv_if_ne (tgt := 48) cx.1 cx.2.1 dX12_year_42 (by decide) (fun hn => absurd hc hn) (fun _ => ?_)
          refine lv_bipush (v := (-9)) cx.1 cx.2.1 dX12_year_45 (by decide) ?_
          obtain ⟨e0, e1⟩ := hq0 _ _ (Option.some.inj hr).symm
          exact h_iret cx dy hlocks hret rfl e0 (by rw [e1]) dX12_year_47
        · refine lv_if_ne (tgt := 48) cx.1 cx.2.1 dX12_year_42 (by decide) (fun _ => ?_) (fun hn => absurd hn hc)
          refine lv_sipush (v := 200) cx.1 cx.2.1 dX12_year_48 (by decide) ?_
          refine lv_iload_n cx.1 cx.2.1 dX12_year_51 rfl (lv_at hl 1 rfl) ?_
          refine lv_imul cx.1 cx.2.1 dX12_year_52 ?_
          refine lv_iload_n cx.1 cx.2.1 dX12_year_53 rfl (lv_at hl 2 rfl) ?_
          refine lv_iadd cx.1 cx.2.1 dX12_year_54 ?_
          refine lv_sipush (v := 1600) cx.1 cx.2.1 dX12_year_55 (by decide) ?_
          refine lv_isub cx.1 cx.2.1 dX12_year_58 ?_
          obtain ⟨x20, ex20, hr⟩ := of_nm hr
          refine lv_nmi ex20 ?_
          refine lv_istore (lv' := [(4, .int x20), (0, .ref (ad k0)), (1, .int a1), (2, .int a2), (3, .int a3)]) cx.1 cx.2.1 dX12_year_59 hl (by decide) rfl (fun ls hl => ?_)
          refine lv_iload_n cx.1 cx.2.1 dX12_year_61 rfl (lv_at hl 4 rfl) ?_
          rcases of_brn hr with ⟨hc, hr⟩ | ⟨hc, hr⟩
          · refine lv_if_ne (tgt := 75) cx.1 cx.2.1 dX12_year_62 (by decide) (fun hn => absurd hc hn) (fun _ => ?_)
            refine lv_aload_n cx.1 cx.2.1 dX12_year_65 rfl (lv_at hl 1 rfl) ?_
            obtain ⟨k21, hf22, hr⟩ := of_bnd hr
            refine h_getR cx fx dy fd_12_42 hv4 tb_1028 hf22 dX12_year_66 ?_
            refine lv_iload cx.1 cx.2.1 dX12_year_69 (lv_at hl 0 rfl) ?_
            obtain ⟨ha23, hr⟩ := of_grd hr
            refine h_iald cx fx dy ha23 dX12_year_71 ?_
            refine lv_goto (tgt := 105) cx.1 cx.2.1 dX12_year_72 (by decide) ?_
            obtain ⟨e0, e1⟩ := hq0 _ _ (Option.some.inj hr).symm
            exact h_iret cx dy hlocks hret rfl e0 (by rw [e1]) dX12_year_105
          · refine lv_if_ne (tgt := 75) cx.1 cx.2.1 dX12_year_62 (by decide) (fun _ => ?_) (fun hn => absurd hn hc)
            refine lv_iload_n cx.1 cx.2.1 dX12_year_75 rfl (lv_at hl 4 rfl) ?_
            refine lv_iconst (v := 1) cx.1 cx.2.1 dX12_year_76 (by decide) ?_
            rcases of_brn hr with ⟨hc, hr⟩ | ⟨hc, hr⟩
            · refine lv_icmp_ne (tgt := 98) cx.1 cx.2.1 dX12_year_77 (by decide) (fun hn => absurd hc hn) (fun _ => ?_)
              refine lv_aload_n cx.1 cx.2.1 dX12_year_80 rfl (lv_at hl 1 rfl) ?_
              obtain ⟨k24, hf25, hr⟩ := of_bnd hr
              refine h_getR cx fx dy fd_12_43 hv4 tb_1029 hf25 dX12_year_81 ?_
              refine lv_iload cx.1 cx.2.1 dX12_year_84 (lv_at hl 0 rfl) ?_
              obtain ⟨ha26, hr⟩ := of_grd hr
              refine h_zald cx fx dy ha26 dX12_year_86 ?_
              rcases of_brn hr with ⟨hc, hr⟩ | ⟨hc, hr⟩
              · refine lv_if_eq (tgt := 94) cx.1 cx.2.1 dX12_year_87 (by decide) (fun _ => ?_) (fun hn => absurd hc hn)
                refine lv_iconst (v := 0) cx.1 cx.2.1 dX12_year_94 (by decide) ?_
                refine lv_goto (tgt := 105) cx.1 cx.2.1 dX12_year_95 (by decide) ?_
                obtain ⟨e0, e1⟩ := hq0 _ _ (Option.some.inj hr).symm
                exact h_iret cx dy hlocks hret rfl e0 (by rw [e1]) dX12_year_105
              · refine lv_if_eq (tgt := 94) cx.1 cx.2.1 dX12_year_87 (by decide) (fun hn => absurd hn hc) (fun _ => ?_)
                refine lv_iconst (v := 1) cx.1 cx.2.1 dX12_year_90 (by decide) ?_
                refine lv_goto (tgt := 105) cx.1 cx.2.1 dX12_year_91 (by decide) ?_
                obtain ⟨e0, e1⟩ := hq0 _ _ (Option.some.inj hr).symm
                exact h_iret cx dy hlocks hret rfl e0 (by rw [e1]) dX12_year_105
            · refine lv_icmp_ne (tgt := 98) cx.1 cx.2.1 dX12_year_77 (by decide) (fun _ => ?_) (fun hn => absurd hn hc)
              refine lv_aload_n cx.1 cx.2.1 dX12_year_98 rfl (lv_at hl 1 rfl) ?_
              obtain ⟨k27, hf28, hr⟩ := of_bnd hr
              refine h_getR cx fx dy fd_12_44 hv4 tb_1030 hf28 dX12_year_99 ?_
              refine lv_iload cx.1 cx.2.1 dX12_year_102 (lv_at hl 0 rfl) ?_
              obtain ⟨ha29, hr⟩ := of_grd hr
              refine h_iald cx fx dy ha29 dX12_year_104 ?_
              obtain ⟨e0, e1⟩ := hq0 _ _ (Option.some.inj hr).symm
              exact h_iret cx dy hlocks hret rfl e0 (by rw [e1]) dX12_year_105
noncomputable def r_X12_about (V : Vk) (k0 : Nat) (a1 : Int32) (a2 : Int32) (g : Hq) : Option (Int32 × Hq) :=
  grd (V k0 = some (12, 0)) <| bnd (r_X12_isHouse V k0 a1 g) fun x2 g1 => brn (x2 = 0) (some ((-1 : Int32), g1)) (brn (a2 = (0 : Int32)) (Option.bind (g1.2.2 k0 33) fun k5 => grd (okV V k5 0 a1) <| some ((g1.1 k5 a1.toNatClampNeg), g1)) (brn (a2 = (1 : Int32)) (Option.bind (g1.2.2 k0 34) fun k9 => grd (okV V k9 0 a1) <| some ((g1.1 k9 a1.toNatClampNeg), g1)) (brn (a2 = (2 : Int32)) (Option.bind (g1.2.2 k0 35) fun k13 => grd (okV V k13 0 a1) <| some ((g1.1 k13 a1.toNatClampNeg), g1)) (brn (a2 = (3 : Int32)) (Option.bind (g1.2.2 k0 36) fun k17 => grd (okV V k17 0 a1) <| some ((g1.1 k17 a1.toNatClampNeg), g1)) (brn (a2 = (4 : Int32)) (Option.bind (g1.2.2 k0 37) fun k21 => grd (okV V k21 0 a1) <| some ((g1.1 k21 a1.toNatClampNeg), g1)) (brn (a2 = (5 : Int32)) (Option.bind (g1.2.2 k0 38) fun k25 => grd (okV V k25 0 a1) <| some ((g1.1 k25 a1.toNatClampNeg), g1)) (some ((-1 : Int32), g1))))))))
set_option maxHeartbeats 4000000 in
set_option maxRecDepth 100000 in
theorem c_X12_about {l : Launch} {D : va_G} {cA : Nat → ClassId} {sk : (Nat → Nat) × (Nat → Nat)} {ad : Nat → Nat} {A : Nat → Prop} {V : Vk} {k0 : Nat} {a1 : Int32} {a2 : Int32} {g g0 : Hq} {r0 : Int32} (hr : r_X12_about V k0 a1 a2 g = some (r0, g0)) : Met l yX12_about (wM yX12_about cX12_about 3 (some .int)) { frames := 2, cells := 0, slots := 0, locals := 43 } (Pre D cA sk ad (V, g) A [.ref (ad k0), .int a1, .int a2]) (QI D cA ad A r0 (V, g0)) 0 0 A := by
  refine Met.ofW (cc := cX12_about) (maxL := 3) (ret := (some .int)) (by decide) rfl ?_
  intro p e s m args below meth c s₁ B hml hv
  obtain ⟨rfl, fx, w0⟩ := hv
  have hts := atoms_spec (ws := wM yX12_about cX12_about 3 (some .int)) B.pre
  have cx : CallFix p m c cX12_about 3 s ([.ref (ad k0), .int a1, .int a2] : List Value).toArray gw_tbl RX12 := ⟨B.exec, B.bytes, hml, findClass_of_methodNamed B.named, fun w hw => hts w (List.mem_cons_of_mem _ hw)⟩
  have hlocks := B.notSynchronized
  have hret := B.returns
  have hR : 2 ≤ (headSpec (wM yX12_about cX12_about 3 (some .int)) { frames := 2, cells := 0, slots := 0, locals := 43 }).room.frames ∧ 43 ≤ (headSpec (wM yX12_about cX12_about 3 (some .int)) { frames := 2, cells := 0, slots := 0, locals := 43 }).room.locals := ⟨Nat.le_refl _, Nat.le_refl _⟩
  have dy : Dy D cA ad (V, g) A s.heap s.heap [] := ⟨w0, va_S.rf⟩
  have hl := lv_entry [.ref (ad k0), .int a1, .int a2] (n := 3) (Nat.le_of_ble_eq_true rfl)
  rw [lg_entry_eq]
  generalize (lg_sl [.ref (ad k0), .int a1, .int a2] ++ List.replicate (3 - (lg_sl [.ref (ad k0), .int a1, .int a2]).length) Slot.unset).toArray = ls at hl ⊢
  have hl : lv_has ls 3 [(0, .ref (ad k0)), (1, .int a1), (2, .int a2)] := hl
  have dy0 : ∃ H0, H0 = s.heap ∧ Dy D cA ad (V, g) A s.heap H0 [] := ⟨_, rfl, dy⟩
  obtain ⟨z, ez⟩ : ∃ z, z = (r0, g0) := ⟨_, rfl⟩
  rw [← ez] at hr
  have hq0 : ∀ (rb : Int32) (gb : Hq), z = (rb, gb) → rb = r0 ∧ gb = g0 := fun rb gb eb => by rw [ez] at eb; exact ⟨(congrArg Prod.fst eb).symm, (congrArg Prod.snd eb).symm⟩
  clear ez w0 dy0
  unfold r_X12_about at hr
  obtain ⟨H, hH⟩ : ∃ H, H = s.heap := ⟨_, rfl⟩
  obtain ⟨locs, hlo⟩ : ∃ q : List Loc, q = [] := ⟨_, rfl⟩
  have dy : Dy D cA ad (V, g) A s.heap H locs := by rw [hH, hlo]; exact dy
  suffices K : W p l e (headSpec (wM yX12_about cX12_about 3 (some .int)) { frames := 2, cells := 0, slots := 0, locals := 43 }).room s m ([.ref (ad k0), .int a1, .int a2] : List Value).toArray below meth c H locs 0 0 (MQ below (QI D cA ad A r0 (V, g0)) ([.ref (ad k0), .int a1, .int a2] : List Value).toArray s 0 0 A) (F0 m 0 ls []) by rw [hH, hlo] at K; exact K
  clear hH hlo
  refine lv_aload_n cx.1 cx.2.1 dX12_about_0 rfl (lv_at hl 0 rfl) ?_
  refine lv_iload_n cx.1 cx.2.1 dX12_about_1 rfl (lv_at hl 1 rfl) ?_
  obtain ⟨hv3, hr⟩ := of_grd hr
  obtain ⟨x2, g1, hc4, hr⟩ := of_bnd2 hr
  refine r_i dy (k_V (As := [.int a1]) (b := k0) (ci := 12) cx fx dy (c_X12_isHouse hc4) mv_X12_isHouse rfl rfl ⟨Nat.le_trans (by decide) hR.1, Nat.le_trans (by decide) hR.2⟩ tb_1288 hv3 rfl (by decide) rfl hl.1 rfl (Nat.le_of_ble_eq_true rfl) ⟨Nat.zero_le _, Nat.zero_le _⟩ dX12_about_2) (fun H locs dy => ?_)
  rcases of_brn hr with ⟨hc, hr⟩ | ⟨hc, hr⟩
  · refine lv_if_ne (tgt := 10) cx.1 cx.2.1 dX12_about_5 (by decide) (fun hn => absurd hc hn) (fun _ => ?_)
    refine lv_iconst (v := (-1)) cx.1 cx.2.1 dX12_about_8 (by decide) ?_
    obtain ⟨e0, e1⟩ := hq0 _ _ (Option.some.inj hr).symm
    exact h_iret cx dy hlocks hret rfl e0 (by rw [e1]) dX12_about_9
  · refine lv_if_ne (tgt := 10) cx.1 cx.2.1 dX12_about_5 (by decide) (fun _ => ?_) (fun hn => absurd hn hc)
    refine lv_iload_n cx.1 cx.2.1 dX12_about_10 rfl (lv_at hl 2 rfl) ?_
    rcases of_brn hr with ⟨hc, hr⟩ | ⟨hs8, hr⟩
    · refine lv_tableIn (off := 37) (tgt := 48) cx.1 cx.2.1 dX12_about_11 (by rw [hc]; decide) (by rw [hc]; decide) (by rw [hc]; rfl) (by decide) ?_
      refine lv_aload_n cx.1 cx.2.1 dX12_about_48 rfl (lv_at hl 0 rfl) ?_
      obtain ⟨k5, hf6, hr⟩ := of_bnd hr
      refine h_getR cx fx dy fd_12_33 hv3 tb_1019 hf6 dX12_about_49 ?_
      refine lv_iload_n cx.1 cx.2.1 dX12_about_52 rfl (lv_at hl 1 rfl) ?_
      obtain ⟨ha7, hr⟩ := of_grd hr
      refine h_iald cx fx dy ha7 dX12_about_53 ?_
      obtain ⟨e0, e1⟩ := hq0 _ _ (Option.some.inj hr).symm
      exact h_iret cx dy hlocks hret rfl e0 (by rw [e1]) dX12_about_54
    rcases of_brn hr with ⟨hc, hr⟩ | ⟨hs12, hr⟩
    · refine lv_tableIn (off := 44) (tgt := 55) cx.1 cx.2.1 dX12_about_11 (by rw [hc]; decide) (by rw [hc]; decide) (by rw [hc]; rfl) (by decide) ?_
      refine lv_aload_n cx.1 cx.2.1 dX12_about_55 rfl (lv_at hl 0 rfl) ?_
      obtain ⟨k9, hf10, hr⟩ := of_bnd hr
      refine h_getR cx fx dy fd_12_34 hv3 tb_1020 hf10 dX12_about_56 ?_
      refine lv_iload_n cx.1 cx.2.1 dX12_about_59 rfl (lv_at hl 1 rfl) ?_
      obtain ⟨ha11, hr⟩ := of_grd hr
      refine h_iald cx fx dy ha11 dX12_about_60 ?_
      obtain ⟨e0, e1⟩ := hq0 _ _ (Option.some.inj hr).symm
      exact h_iret cx dy hlocks hret rfl e0 (by rw [e1]) dX12_about_61
    rcases of_brn hr with ⟨hc, hr⟩ | ⟨hs16, hr⟩
    · refine lv_tableIn (off := 51) (tgt := 62) cx.1 cx.2.1 dX12_about_11 (by rw [hc]; decide) (by rw [hc]; decide) (by rw [hc]; rfl) (by decide) ?_
      refine lv_aload_n cx.1 cx.2.1 dX12_about_62 rfl (lv_at hl 0 rfl) ?_
      obtain ⟨k13, hf14, hr⟩ := of_bnd hr
      refine h_getR cx fx dy fd_12_35 hv3 tb_1021 hf14 dX12_about_63 ?_
      refine lv_iload_n cx.1 cx.2.1 dX12_about_66 rfl (lv_at hl 1 rfl) ?_
      obtain ⟨ha15, hr⟩ := of_grd hr
      refine h_iald cx fx dy ha15 dX12_about_67 ?_
      obtain ⟨e0, e1⟩ := hq0 _ _ (Option.some.inj hr).symm
      exact h_iret cx dy hlocks hret rfl e0 (by rw [e1]) dX12_about_68
    rcases of_brn hr with ⟨hc, hr⟩ | ⟨hs20, hr⟩
    · refine lv_tableIn (off := 58) (tgt := 69) cx.1 cx.2.1 dX12_about_11 (by rw [hc]; decide) (by rw [hc]; decide) (by rw [hc]; rfl) (by decide) ?_
      refine lv_aload_n cx.1 cx.2.1 dX12_about_69 rfl (lv_at hl 0 rfl) ?_
      obtain ⟨k17, hf18, hr⟩ := of_bnd hr
      refine h_getR cx fx dy fd_12_36 hv3 tb_1022 hf18 dX12_about_70 ?_
      refine lv_iload_n cx.1 cx.2.1 dX12_about_73 rfl (lv_at hl 1 rfl) ?_
      obtain ⟨ha19, hr⟩ := of_grd hr
      refine h_iald cx fx dy ha19 dX12_about_74 ?_
      obtain ⟨e0, e1⟩ := hq0 _ _ (Option.some.inj hr).symm
      exact h_iret cx dy hlocks hret rfl e0 (by rw [e1]) dX12_about_75
    rcases of_brn hr with ⟨hc, hr⟩ | ⟨hs24, hr⟩
    · refine lv_tableIn (off := 65) (tgt := 76) cx.1 cx.2.1 dX12_about_11 (by rw [hc]; decide) (by rw [hc]; decide) (by rw [hc]; rfl) (by decide) ?_
      refine lv_aload_n cx.1 cx.2.1 dX12_about_76 rfl (lv_at hl 0 rfl) ?_
      obtain ⟨k21, hf22, hr⟩ := of_bnd hr
      refine h_getR cx fx dy fd_12_37 hv3 tb_1023 hf22 dX12_about_77 ?_
      refine lv_iload_n cx.1 cx.2.1 dX12_about_80 rfl (lv_at hl 1 rfl) ?_
      obtain ⟨ha23, hr⟩ := of_grd hr
      refine h_iald cx fx dy ha23 dX12_about_81 ?_
      obtain ⟨e0, e1⟩ := hq0 _ _ (Option.some.inj hr).symm
      exact h_iret cx dy hlocks hret rfl e0 (by rw [e1]) dX12_about_82
    rcases of_brn hr with ⟨hc, hr⟩ | ⟨hs28, hr⟩
    · refine lv_tableIn (off := 72) (tgt := 83) cx.1 cx.2.1 dX12_about_11 (by rw [hc]; decide) (by rw [hc]; decide) (by rw [hc]; rfl) (by decide) ?_
      refine lv_aload_n cx.1 cx.2.1 dX12_about_83 rfl (lv_at hl 0 rfl) ?_
      obtain ⟨k25, hf26, hr⟩ := of_bnd hr
      refine h_getR cx fx dy fd_12_38 hv3 tb_1024 hf26 dX12_about_84 ?_
      refine lv_iload_n cx.1 cx.2.1 dX12_about_87 rfl (lv_at hl 1 rfl) ?_
      obtain ⟨ha27, hr⟩ := of_grd hr
      refine h_iald cx fx dy ha27 dX12_about_88 ?_
      obtain ⟨e0, e1⟩ := hq0 _ _ (Option.some.inj hr).symm
      exact h_iret cx dy hlocks hret rfl e0 (by rw [e1]) dX12_about_89
    refine lv_tableOut (tgt := 90) cx.1 cx.2.1 dX12_about_11 (tsw_out (fun n h1 h2 => ?_)) (by decide) ?_
    · rcases (show n = 0 ∨ n = 1 ∨ n = 2 ∨ n = 3 ∨ n = 4 ∨ n = 5 by omega) with rfl | rfl | rfl | rfl | rfl | rfl
      · exact hs8
      · exact hs12
      · exact hs16
      · exact hs20
      · exact hs24
      · exact hs28
    · skip
      refine lv_iconst (v := (-1)) cx.1 cx.2.1 dX12_about_90 (by decide) ?_
      obtain ⟨e0, e1⟩ := hq0 _ _ (Option.some.inj hr).symm
      exact h_iret cx dy hlocks hret rfl e0 (by rw [e1]) dX12_about_91
