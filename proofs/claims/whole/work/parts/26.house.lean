noncomputable def r_X2_isDue (V : Vk) (k0 : Nat) (a1 : Nat) (a2 : Int32) (g : Hq) : Option (Int32 × Hq) :=
  grd (V k0 = some (2, 0)) <| brn ((g.1 k0 4) = (-1 : Int32)) (grd (V a1 = some (4, 0)) <| bnd (r_X11_isFrom V (a2 - (g.1 k0 1)) (g.1 a1 0) (g.1 a1 1) g) fun x4 g3 => brn (x4 = 0) (some ((0 : Int32), g3)) (some ((1 : Int32), g3))) (grd (V a1 = some (4, 0)) <| brn ((g.1 a1 2) < (a2 - (g.1 k0 4))) (bnd (r_X11_isFrom V (a2 - (g.1 k0 1)) (g.1 a1 0) (g.1 a1 1) g) fun x8 g7 => brn (x8 = 0) (some ((0 : Int32), g7)) (some ((1 : Int32), g7))) (bnd (r_X11_isFrom V (a2 - (g.1 k0 1)) (g.1 a1 0) (g.1 a1 1) g) fun x11 g10 => brn (x11 = 0) (some ((0 : Int32), g10)) (some ((0 : Int32), g10))))
set_option maxHeartbeats 4000000 in
set_option maxRecDepth 100000 in
theorem c_X2_isDue {l : Launch} {D : va_G} {cA : Nat → ClassId} {sk : (Nat → Nat) × (Nat → Nat)} {ad : Nat → Nat} {A : Nat → Prop} {V : Vk} {k0 : Nat} {a1 : Nat} {a2 : Int32} {g g0 : Hq} {r0 : Int32} (hr : r_X2_isDue V k0 a1 a2 g = some (r0, g0)) : Met l yX2_isDue (wM yX2_isDue cX2_isDue 4 (some .boolean)) { frames := 1, cells := 0, slots := 0, locals := 22 } (Pre D cA sk ad (V, g) A [.ref (ad k0), .ref (ad a1), .int a2]) (QI D cA ad A r0 (V, g0)) 0 0 A := by
  refine Met.ofW (cc := cX2_isDue) (maxL := 4) (ret := (some .boolean)) (by decide) rfl ?_
  intro p e s m args below meth c s₁ B hml hv
  obtain ⟨rfl, fx, w0⟩ := hv
  have hts := atoms_spec (ws := wM yX2_isDue cX2_isDue 4 (some .boolean)) B.pre
  have cx : CallFix p m c cX2_isDue 4 s ([.ref (ad k0), .ref (ad a1), .int a2] : List Value).toArray gw_tbl RX2 := ⟨B.exec, B.bytes, hml, findClass_of_methodNamed B.named, fun w hw => hts w (List.mem_cons_of_mem _ hw)⟩
  have hlocks := B.notSynchronized
  have hret := B.returns
  have hR : 1 ≤ (headSpec (wM yX2_isDue cX2_isDue 4 (some .boolean)) { frames := 1, cells := 0, slots := 0, locals := 22 }).room.frames ∧ 22 ≤ (headSpec (wM yX2_isDue cX2_isDue 4 (some .boolean)) { frames := 1, cells := 0, slots := 0, locals := 22 }).room.locals := ⟨Nat.le_refl _, Nat.le_refl _⟩
  have dy : Dy D cA ad (V, g) A s.heap s.heap [] := ⟨w0, va_S.rf⟩
  have hl := lv_entry [.ref (ad k0), .ref (ad a1), .int a2] (n := 4) (Nat.le_of_ble_eq_true rfl)
  rw [lg_entry_eq]
  generalize (lg_sl [.ref (ad k0), .ref (ad a1), .int a2] ++ List.replicate (4 - (lg_sl [.ref (ad k0), .ref (ad a1), .int a2]).length) Slot.unset).toArray = ls at hl ⊢
  have hl : lv_has ls 4 [(0, .ref (ad k0)), (1, .ref (ad a1)), (2, .int a2)] := hl
  have dy0 : ∃ H0, H0 = s.heap ∧ Dy D cA ad (V, g) A s.heap H0 [] := ⟨_, rfl, dy⟩
  obtain ⟨z, ez⟩ : ∃ z, z = (r0, g0) := ⟨_, rfl⟩
  rw [← ez] at hr
  have hq0 : ∀ (rb : Int32) (gb : Hq), z = (rb, gb) → rb = r0 ∧ gb = g0 := fun rb gb eb => by rw [ez] at eb; exact ⟨(congrArg Prod.fst eb).symm, (congrArg Prod.snd eb).symm⟩
  clear ez w0 dy0
  unfold r_X2_isDue at hr
  obtain ⟨H, hH⟩ : ∃ H, H = s.heap := ⟨_, rfl⟩
  obtain ⟨locs, hlo⟩ : ∃ q : List Loc, q = [] := ⟨_, rfl⟩
  have dy : Dy D cA ad (V, g) A s.heap H locs := by rw [hH, hlo]; exact dy
  suffices K : W p l e (headSpec (wM yX2_isDue cX2_isDue 4 (some .boolean)) { frames := 1, cells := 0, slots := 0, locals := 22 }).room s m ([.ref (ad k0), .ref (ad a1), .int a2] : List Value).toArray below meth c H locs 0 0 (MQ below (QI D cA ad A r0 (V, g0)) ([.ref (ad k0), .ref (ad a1), .int a2] : List Value).toArray s 0 0 A) (F0 m 0 ls []) by rw [hH, hlo] at K; exact K
  clear hH hlo
  refine lv_aload_n cx.1 cx.2.1 dX2_isDue_0 rfl (lv_at hl 0 rfl) ?_
  obtain ⟨hv1, hr⟩ := of_grd hr
  refine h_getI cx fx dy fd_2_4 hv1 tb_745 dX2_isDue_1 ?_
  refine lv_iconst (v := (-1)) cx.1 cx.2.1 dX2_isDue_4 (by decide) ?_
  rcases of_brn hr with ⟨hc, hr⟩ | ⟨hc, hr⟩
  · refine lv_icmp_eq (tgt := 25) cx.1 cx.2.1 dX2_isDue_5 (by decide) (fun _ => ?_) (fun hn => absurd hc hn)
    refine lv_iconst (v := 0) cx.1 cx.2.1 dX2_isDue_25 (by decide) ?_
    refine lv_istore_n (lv' := [(3, .int (0 : Int32)), (0, .ref (ad k0)), (1, .ref (ad a1)), (2, .int a2)]) cx.1 cx.2.1 dX2_isDue_26 rfl hl (by decide) rfl (fun ls hl => ?_)
    refine lv_iload_n cx.1 cx.2.1 dX2_isDue_27 rfl (lv_at hl 3 rfl) ?_
    refine lv_aload_n cx.1 cx.2.1 dX2_isDue_28 rfl (lv_at hl 1 rfl) ?_
    refine h_getI cx fx dy fd_2_1 hv1 tb_739 dX2_isDue_29 ?_
    refine lv_isub cx.1 cx.2.1 dX2_isDue_32 ?_
    refine lv_aload_n cx.1 cx.2.1 dX2_isDue_33 rfl (lv_at hl 2 rfl) ?_
    obtain ⟨hv2, hr⟩ := of_grd hr
    refine h_getIN cx fx dy fd_4_0 hv2 tb_262 dX2_isDue_34 ?_
    refine lv_aload_n cx.1 cx.2.1 dX2_isDue_37 rfl (lv_at hl 2 rfl) ?_
    refine h_getIN cx fx dy fd_4_1 hv2 tb_265 dX2_isDue_38 ?_
    obtain ⟨x4, g3, hc5, hr⟩ := of_bnd2 hr
    refine r_i dy (k_SN (As := [.int (a2 - (g.1 k0 1)), .int (g.1 a1 0), .int (g.1 a1 1)]) cx fx dy (c_X11_isFrom hc5) mv_X11_isFrom rfl rfl ⟨Nat.le_trans (by decide) hR.1, Nat.le_trans (by decide) hR.2⟩ tb_795 rfl hl.1 rfl (Nat.le_of_ble_eq_true rfl) ⟨Nat.zero_le _, Nat.zero_le _⟩ dX2_isDue_41) (fun H locs dy => ?_)
    rcases of_brn hr with ⟨hc, hr⟩ | ⟨hc, hr⟩
    · refine lv_if_eq (tgt := 55) cx.1 cx.2.1 dX2_isDue_44 (by decide) (fun _ => ?_) (fun hn => absurd hc hn)
      refine lv_iconst (v := 0) cx.1 cx.2.1 dX2_isDue_55 (by decide) ?_
      obtain ⟨e0, e1⟩ := hq0 _ _ (Option.some.inj hr).symm
      exact h_iret cx dy hlocks hret rfl e0 (by rw [e1]) dX2_isDue_56
    · refine lv_if_eq (tgt := 55) cx.1 cx.2.1 dX2_isDue_44 (by decide) (fun hn => absurd hn hc) (fun _ => ?_)
      refine lv_iload_n cx.1 cx.2.1 dX2_isDue_47 rfl (lv_at hl 0 rfl) ?_
      refine lv_if_ne (tgt := 55) cx.1 cx.2.1 dX2_isDue_48 (by decide) (fun hn => absurd hn (by decide)) (fun _ => ?_)
      refine lv_iconst (v := 1) cx.1 cx.2.1 dX2_isDue_51 (by decide) ?_
      refine lv_goto (tgt := 56) cx.1 cx.2.1 dX2_isDue_52 (by decide) ?_
      obtain ⟨e0, e1⟩ := hq0 _ _ (Option.some.inj hr).symm
      exact h_iret cx dy hlocks hret rfl e0 (by rw [e1]) dX2_isDue_56
  · refine lv_icmp_eq (tgt := 25) cx.1 cx.2.1 dX2_isDue_5 (by decide) (fun hn => absurd hn hc) (fun _ => ?_)
    refine lv_iload_n cx.1 cx.2.1 dX2_isDue_8 rfl (lv_at hl 2 rfl) ?_
    refine lv_aload_n cx.1 cx.2.1 dX2_isDue_9 rfl (lv_at hl 0 rfl) ?_
    refine h_getI cx fx dy fd_2_4 hv1 tb_745 dX2_isDue_10 ?_
    refine lv_isub cx.1 cx.2.1 dX2_isDue_13 ?_
    refine lv_aload_n cx.1 cx.2.1 dX2_isDue_14 rfl (lv_at hl 1 rfl) ?_
    obtain ⟨hv6, hr⟩ := of_grd hr
    refine h_getIN cx fx dy fd_4_2 hv6 tb_268 dX2_isDue_15 ?_
    rcases of_brn hr with ⟨hc, hr⟩ | ⟨hc, hr⟩
    · refine lv_icmp_gt (tgt := 25) cx.1 cx.2.1 dX2_isDue_18 (by decide) (fun _ => ?_) (fun hn => absurd hc hn)
      refine lv_iconst (v := 0) cx.1 cx.2.1 dX2_isDue_25 (by decide) ?_
      refine lv_istore_n (lv' := [(3, .int (0 : Int32)), (0, .ref (ad k0)), (1, .ref (ad a1)), (2, .int a2)]) cx.1 cx.2.1 dX2_isDue_26 rfl hl (by decide) rfl (fun ls hl => ?_)
      refine lv_iload_n cx.1 cx.2.1 dX2_isDue_27 rfl (lv_at hl 3 rfl) ?_
      refine lv_aload_n cx.1 cx.2.1 dX2_isDue_28 rfl (lv_at hl 1 rfl) ?_
      refine h_getI cx fx dy fd_2_1 hv1 tb_739 dX2_isDue_29 ?_
      refine lv_isub cx.1 cx.2.1 dX2_isDue_32 ?_
      refine lv_aload_n cx.1 cx.2.1 dX2_isDue_33 rfl (lv_at hl 2 rfl) ?_
      refine h_getIN cx fx dy fd_4_0 hv6 tb_262 dX2_isDue_34 ?_
      refine lv_aload_n cx.1 cx.2.1 dX2_isDue_37 rfl (lv_at hl 2 rfl) ?_
      refine h_getIN cx fx dy fd_4_1 hv6 tb_265 dX2_isDue_38 ?_
      obtain ⟨x8, g7, hc9, hr⟩ := of_bnd2 hr
      refine r_i dy (k_SN (As := [.int (a2 - (g.1 k0 1)), .int (g.1 a1 0), .int (g.1 a1 1)]) cx fx dy (c_X11_isFrom hc9) mv_X11_isFrom rfl rfl ⟨Nat.le_trans (by decide) hR.1, Nat.le_trans (by decide) hR.2⟩ tb_795 rfl hl.1 rfl (Nat.le_of_ble_eq_true rfl) ⟨Nat.zero_le _, Nat.zero_le _⟩ dX2_isDue_41) (fun H locs dy => ?_)
      rcases of_brn hr with ⟨hc, hr⟩ | ⟨hc, hr⟩
      · refine lv_if_eq (tgt := 55) cx.1 cx.2.1 dX2_isDue_44 (by decide) (fun _ => ?_) (fun hn => absurd hc hn)
        refine lv_iconst (v := 0) cx.1 cx.2.1 dX2_isDue_55 (by decide) ?_
        obtain ⟨e0, e1⟩ := hq0 _ _ (Option.some.inj hr).symm
        exact h_iret cx dy hlocks hret rfl e0 (by rw [e1]) dX2_isDue_56
      · refine lv_if_eq (tgt := 55) cx.1 cx.2.1 dX2_isDue_44 (by decide) (fun hn => absurd hn hc) (fun _ => ?_)
        refine lv_iload_n cx.1 cx.2.1 dX2_isDue_47 rfl (lv_at hl 0 rfl) ?_
        refine lv_if_ne (tgt := 55) cx.1 cx.2.1 dX2_isDue_48 (by decide) (fun hn => absurd hn (by decide)) (fun _ => ?_)
        refine lv_iconst (v := 1) cx.1 cx.2.1 dX2_isDue_51 (by decide) ?_
        refine lv_goto (tgt := 56) cx.1 cx.2.1 dX2_isDue_52 (by decide) ?_
        obtain ⟨e0, e1⟩ := hq0 _ _ (Option.some.inj hr).symm
        exact h_iret cx dy hlocks hret rfl e0 (by rw [e1]) dX2_isDue_56
    · refine lv_icmp_gt (tgt := 25) cx.1 cx.2.1 dX2_isDue_18 (by decide) (fun hn => absurd hn hc) (fun _ => ?_)
      refine lv_iconst (v := 1) cx.1 cx.2.1 dX2_isDue_21 (by decide) ?_
      refine lv_goto (tgt := 26) cx.1 cx.2.1 dX2_isDue_22 (by decide) ?_
      refine lv_istore_n (lv' := [(3, .int (1 : Int32)), (0, .ref (ad k0)), (1, .ref (ad a1)), (2, .int a2)]) cx.1 cx.2.1 dX2_isDue_26 rfl hl (by decide) rfl (fun ls hl => ?_)
      refine lv_iload_n cx.1 cx.2.1 dX2_isDue_27 rfl (lv_at hl 3 rfl) ?_
      refine lv_aload_n cx.1 cx.2.1 dX2_isDue_28 rfl (lv_at hl 1 rfl) ?_
      refine h_getI cx fx dy fd_2_1 hv1 tb_739 dX2_isDue_29 ?_
      refine lv_isub cx.1 cx.2.1 dX2_isDue_32 ?_
      refine lv_aload_n cx.1 cx.2.1 dX2_isDue_33 rfl (lv_at hl 2 rfl) ?_
      refine h_getIN cx fx dy fd_4_0 hv6 tb_262 dX2_isDue_34 ?_
      refine lv_aload_n cx.1 cx.2.1 dX2_isDue_37 rfl (lv_at hl 2 rfl) ?_
      refine h_getIN cx fx dy fd_4_1 hv6 tb_265 dX2_isDue_38 ?_
      obtain ⟨x11, g10, hc12, hr⟩ := of_bnd2 hr
      refine r_i dy (k_SN (As := [.int (a2 - (g.1 k0 1)), .int (g.1 a1 0), .int (g.1 a1 1)]) cx fx dy (c_X11_isFrom hc12) mv_X11_isFrom rfl rfl ⟨Nat.le_trans (by decide) hR.1, Nat.le_trans (by decide) hR.2⟩ tb_795 rfl hl.1 rfl (Nat.le_of_ble_eq_true rfl) ⟨Nat.zero_le _, Nat.zero_le _⟩ dX2_isDue_41) (fun H locs dy => ?_)
      rcases of_brn hr with ⟨hc, hr⟩ | ⟨hc, hr⟩
      · refine lv_if_eq (tgt := 55) cx.1 cx.2.1 dX2_isDue_44 (by decide) (fun _ => ?_) (fun hn => absurd hc hn)
        refine lv_iconst (v := 0) cx.1 cx.2.1 dX2_isDue_55 (by decide) ?_
        obtain ⟨e0, e1⟩ := hq0 _ _ (Option.some.inj hr).symm
        exact h_iret cx dy hlocks hret rfl e0 (by rw [e1]) dX2_isDue_56
      · refine lv_if_eq (tgt := 55) cx.1 cx.2.1 dX2_isDue_44 (by decide) (fun hn => absurd hn hc) (fun _ => ?_)
        refine lv_iload_n cx.1 cx.2.1 dX2_isDue_47 rfl (lv_at hl 0 rfl) ?_
        refine lv_if_ne (tgt := 55) cx.1 cx.2.1 dX2_isDue_48 (by decide) (fun _ => ?_) (fun hn => absurd hn (by decide))
        refine lv_iconst (v := 0) cx.1 cx.2.1 dX2_isDue_55 (by decide) ?_
        obtain ⟨e0, e1⟩ := hq0 _ _ (Option.some.inj hr).symm
        exact h_iret cx dy hlocks hret rfl e0 (by rw [e1]) dX2_isDue_56
noncomputable def r_X2_canHire (V : Vk) (k0 : Nat) (a1 : Nat) (g : Hq) : Option (Int32 × Hq) :=
  grd (V k0 = some (2, 0)) <| brn ((g.1 k0 3) = (1 : Int32)) (grd (V a1 = some (4, 0)) <| brn ((g.1 a1 4) = (-1 : Int32)) (some ((0 : Int32), g)) (brn ((g.1 k0 2) < (g.1 a1 4)) (some ((0 : Int32), g)) (some ((1 : Int32), g)))) (some ((0 : Int32), g))
set_option maxHeartbeats 4000000 in
set_option maxRecDepth 100000 in
theorem c_X2_canHire {l : Launch} {D : va_G} {cA : Nat → ClassId} {sk : (Nat → Nat) × (Nat → Nat)} {ad : Nat → Nat} {A : Nat → Prop} {V : Vk} {k0 : Nat} {a1 : Nat} {g g0 : Hq} {r0 : Int32} (hr : r_X2_canHire V k0 a1 g = some (r0, g0)) : Met l yX2_canHire (wM yX2_canHire cX2_canHire 2 (some .boolean)) { frames := 0, cells := 0, slots := 0, locals := 0 } (Pre D cA sk ad (V, g) A [.ref (ad k0), .ref (ad a1)]) (QI D cA ad A r0 (V, g0)) 0 0 A := by
  refine Met.ofW (cc := cX2_canHire) (maxL := 2) (ret := (some .boolean)) (by decide) rfl ?_
  intro p e s m args below meth c s₁ B hml hv
  obtain ⟨rfl, fx, w0⟩ := hv
  have hts := atoms_spec (ws := wM yX2_canHire cX2_canHire 2 (some .boolean)) B.pre
  have cx : CallFix p m c cX2_canHire 2 s ([.ref (ad k0), .ref (ad a1)] : List Value).toArray gw_tbl RX2 := ⟨B.exec, B.bytes, hml, findClass_of_methodNamed B.named, fun w hw => hts w (List.mem_cons_of_mem _ hw)⟩
  have hlocks := B.notSynchronized
  have hret := B.returns
  have hR : 0 ≤ (headSpec (wM yX2_canHire cX2_canHire 2 (some .boolean)) { frames := 0, cells := 0, slots := 0, locals := 0 }).room.frames ∧ 0 ≤ (headSpec (wM yX2_canHire cX2_canHire 2 (some .boolean)) { frames := 0, cells := 0, slots := 0, locals := 0 }).room.locals := ⟨Nat.le_refl _, Nat.le_refl _⟩
  have dy : Dy D cA ad (V, g) A s.heap s.heap [] := ⟨w0, va_S.rf⟩
  have hl := lv_entry [.ref (ad k0), .ref (ad a1)] (n := 2) (Nat.le_of_ble_eq_true rfl)
  rw [lg_entry_eq]
  generalize (lg_sl [.ref (ad k0), .ref (ad a1)] ++ List.replicate (2 - (lg_sl [.ref (ad k0), .ref (ad a1)]).length) Slot.unset).toArray = ls at hl ⊢
  have hl : lv_has ls 2 [(0, .ref (ad k0)), (1, .ref (ad a1))] := hl
  have dy0 : ∃ H0, H0 = s.heap ∧ Dy D cA ad (V, g) A s.heap H0 [] := ⟨_, rfl, dy⟩
  obtain ⟨z, ez⟩ : ∃ z, z = (r0, g0) := ⟨_, rfl⟩
  rw [← ez] at hr
  have hq0 : ∀ (rb : Int32) (gb : Hq), z = (rb, gb) → rb = r0 ∧ gb = g0 := fun rb gb eb => by rw [ez] at eb; exact ⟨(congrArg Prod.fst eb).symm, (congrArg Prod.snd eb).symm⟩
  clear ez w0 dy0
  unfold r_X2_canHire at hr
  obtain ⟨H, hH⟩ : ∃ H, H = s.heap := ⟨_, rfl⟩
  obtain ⟨locs, hlo⟩ : ∃ q : List Loc, q = [] := ⟨_, rfl⟩
  have dy : Dy D cA ad (V, g) A s.heap H locs := by rw [hH, hlo]; exact dy
  suffices K : W p l e (headSpec (wM yX2_canHire cX2_canHire 2 (some .boolean)) { frames := 0, cells := 0, slots := 0, locals := 0 }).room s m ([.ref (ad k0), .ref (ad a1)] : List Value).toArray below meth c H locs 0 0 (MQ below (QI D cA ad A r0 (V, g0)) ([.ref (ad k0), .ref (ad a1)] : List Value).toArray s 0 0 A) (F0 m 0 ls []) by rw [hH, hlo] at K; exact K
  clear hH hlo
  refine lv_aload_n cx.1 cx.2.1 dX2_canHire_0 rfl (lv_at hl 0 rfl) ?_
  obtain ⟨hv1, hr⟩ := of_grd hr
  refine h_getI cx fx dy fd_2_3 hv1 tb_743 dX2_canHire_1 ?_
  refine lv_iconst (v := 1) cx.1 cx.2.1 dX2_canHire_4 (by decide) ?_
  rcases of_brn hr with ⟨hc, hr⟩ | ⟨hc, hr⟩
  · refine lv_icmp_ne (tgt := 31) cx.1 cx.2.1 dX2_canHire_5 (by decide) (fun hn => absurd hc hn) (fun _ => ?_)
    refine lv_aload_n cx.1 cx.2.1 dX2_canHire_8 rfl (lv_at hl 1 rfl) ?_
    obtain ⟨hv2, hr⟩ := of_grd hr
    refine h_getIN cx fx dy fd_4_4 hv2 tb_276 dX2_canHire_9 ?_
    refine lv_iconst (v := (-1)) cx.1 cx.2.1 dX2_canHire_12 (by decide) ?_
    rcases of_brn hr with ⟨hc, hr⟩ | ⟨hc, hr⟩
    · refine lv_icmp_eq (tgt := 31) cx.1 cx.2.1 dX2_canHire_13 (by decide) (fun _ => ?_) (fun hn => absurd hc hn)
      refine lv_iconst (v := 0) cx.1 cx.2.1 dX2_canHire_31 (by decide) ?_
      obtain ⟨e0, e1⟩ := hq0 _ _ (Option.some.inj hr).symm
      exact h_iret cx dy hlocks hret rfl e0 (by rw [e1]) dX2_canHire_32
    · refine lv_icmp_eq (tgt := 31) cx.1 cx.2.1 dX2_canHire_13 (by decide) (fun hn => absurd hn hc) (fun _ => ?_)
      refine lv_aload_n cx.1 cx.2.1 dX2_canHire_16 rfl (lv_at hl 0 rfl) ?_
      refine h_getI cx fx dy fd_2_2 hv1 tb_740 dX2_canHire_17 ?_
      refine lv_aload_n cx.1 cx.2.1 dX2_canHire_20 rfl (lv_at hl 1 rfl) ?_
      refine h_getIN cx fx dy fd_4_4 hv2 tb_276 dX2_canHire_21 ?_
      rcases of_brn hr with ⟨hc, hr⟩ | ⟨hc, hr⟩
      · refine lv_icmp_lt (tgt := 31) cx.1 cx.2.1 dX2_canHire_24 (by decide) (fun _ => ?_) (fun hn => absurd hc hn)
        refine lv_iconst (v := 0) cx.1 cx.2.1 dX2_canHire_31 (by decide) ?_
        obtain ⟨e0, e1⟩ := hq0 _ _ (Option.some.inj hr).symm
        exact h_iret cx dy hlocks hret rfl e0 (by rw [e1]) dX2_canHire_32
      · refine lv_icmp_lt (tgt := 31) cx.1 cx.2.1 dX2_canHire_24 (by decide) (fun hn => absurd hn hc) (fun _ => ?_)
        refine lv_iconst (v := 1) cx.1 cx.2.1 dX2_canHire_27 (by decide) ?_
        refine lv_goto (tgt := 32) cx.1 cx.2.1 dX2_canHire_28 (by decide) ?_
        obtain ⟨e0, e1⟩ := hq0 _ _ (Option.some.inj hr).symm
        exact h_iret cx dy hlocks hret rfl e0 (by rw [e1]) dX2_canHire_32
  · refine lv_icmp_ne (tgt := 31) cx.1 cx.2.1 dX2_canHire_5 (by decide) (fun _ => ?_) (fun hn => absurd hn hc)
    refine lv_iconst (v := 0) cx.1 cx.2.1 dX2_canHire_31 (by decide) ?_
    obtain ⟨e0, e1⟩ := hq0 _ _ (Option.some.inj hr).symm
    exact h_iret cx dy hlocks hret rfl e0 (by rw [e1]) dX2_canHire_32
noncomputable def r_X2_canPay (V : Vk) (k0 : Nat) (a1 : Nat) (g : Hq) : Option (Int32 × Hq) :=
  grd (V k0 = some (2, 0)) <| brn ((g.1 k0 3) = (2 : Int32)) (grd (V a1 = some (4, 0)) <| brn ((g.1 k0 2) < (g.1 a1 3)) (some ((0 : Int32), g)) (some ((1 : Int32), g))) (some ((0 : Int32), g))
set_option maxHeartbeats 4000000 in
set_option maxRecDepth 100000 in
theorem c_X2_canPay {l : Launch} {D : va_G} {cA : Nat → ClassId} {sk : (Nat → Nat) × (Nat → Nat)} {ad : Nat → Nat} {A : Nat → Prop} {V : Vk} {k0 : Nat} {a1 : Nat} {g g0 : Hq} {r0 : Int32} (hr : r_X2_canPay V k0 a1 g = some (r0, g0)) : Met l yX2_canPay (wM yX2_canPay cX2_canPay 2 (some .boolean)) { frames := 0, cells := 0, slots := 0, locals := 0 } (Pre D cA sk ad (V, g) A [.ref (ad k0), .ref (ad a1)]) (QI D cA ad A r0 (V, g0)) 0 0 A := by
  refine Met.ofW (cc := cX2_canPay) (maxL := 2) (ret := (some .boolean)) (by decide) rfl ?_
  intro p e s m args below meth c s₁ B hml hv
  obtain ⟨rfl, fx, w0⟩ := hv
  have hts := atoms_spec (ws := wM yX2_canPay cX2_canPay 2 (some .boolean)) B.pre
  have cx : CallFix p m c cX2_canPay 2 s ([.ref (ad k0), .ref (ad a1)] : List Value).toArray gw_tbl RX2 := ⟨B.exec, B.bytes, hml, findClass_of_methodNamed B.named, fun w hw => hts w (List.mem_cons_of_mem _ hw)⟩
  have hlocks := B.notSynchronized
  have hret := B.returns
  have hR : 0 ≤ (headSpec (wM yX2_canPay cX2_canPay 2 (some .boolean)) { frames := 0, cells := 0, slots := 0, locals := 0 }).room.frames ∧ 0 ≤ (headSpec (wM yX2_canPay cX2_canPay 2 (some .boolean)) { frames := 0, cells := 0, slots := 0, locals := 0 }).room.locals := ⟨Nat.le_refl _, Nat.le_refl _⟩
  have dy : Dy D cA ad (V, g) A s.heap s.heap [] := ⟨w0, va_S.rf⟩
  have hl := lv_entry [.ref (ad k0), .ref (ad a1)] (n := 2) (Nat.le_of_ble_eq_true rfl)
  rw [lg_entry_eq]
  generalize (lg_sl [.ref (ad k0), .ref (ad a1)] ++ List.replicate (2 - (lg_sl [.ref (ad k0), .ref (ad a1)]).length) Slot.unset).toArray = ls at hl ⊢
  have hl : lv_has ls 2 [(0, .ref (ad k0)), (1, .ref (ad a1))] := hl
  have dy0 : ∃ H0, H0 = s.heap ∧ Dy D cA ad (V, g) A s.heap H0 [] := ⟨_, rfl, dy⟩
  obtain ⟨z, ez⟩ : ∃ z, z = (r0, g0) := ⟨_, rfl⟩
  rw [← ez] at hr
  have hq0 : ∀ (rb : Int32) (gb : Hq), z = (rb, gb) → rb = r0 ∧ gb = g0 := fun rb gb eb => by rw [ez] at eb; exact ⟨(congrArg Prod.fst eb).symm, (congrArg Prod.snd eb).symm⟩
  clear ez w0 dy0
  unfold r_X2_canPay at hr
  obtain ⟨H, hH⟩ : ∃ H, H = s.heap := ⟨_, rfl⟩
  obtain ⟨locs, hlo⟩ : ∃ q : List Loc, q = [] := ⟨_, rfl⟩
  have dy : Dy D cA ad (V, g) A s.heap H locs := by rw [hH, hlo]; exact dy
  suffices K : W p l e (headSpec (wM yX2_canPay cX2_canPay 2 (some .boolean)) { frames := 0, cells := 0, slots := 0, locals := 0 }).room s m ([.ref (ad k0), .ref (ad a1)] : List Value).toArray below meth c H locs 0 0 (MQ below (QI D cA ad A r0 (V, g0)) ([.ref (ad k0), .ref (ad a1)] : List Value).toArray s 0 0 A) (F0 m 0 ls []) by rw [hH, hlo] at K; exact K
  clear hH hlo
  refine lv_aload_n cx.1 cx.2.1 dX2_canPay_0 rfl (lv_at hl 0 rfl) ?_
  obtain ⟨hv1, hr⟩ := of_grd hr
  refine h_getI cx fx dy fd_2_3 hv1 tb_743 dX2_canPay_1 ?_
  refine lv_iconst (v := 2) cx.1 cx.2.1 dX2_canPay_4 (by decide) ?_
  rcases of_brn hr with ⟨hc, hr⟩ | ⟨hc, hr⟩
  · refine lv_icmp_ne (tgt := 23) cx.1 cx.2.1 dX2_canPay_5 (by decide) (fun hn => absurd hc hn) (fun _ => ?_)
    refine lv_aload_n cx.1 cx.2.1 dX2_canPay_8 rfl (lv_at hl 0 rfl) ?_
    refine h_getI cx fx dy fd_2_2 hv1 tb_740 dX2_canPay_9 ?_
    refine lv_aload_n cx.1 cx.2.1 dX2_canPay_12 rfl (lv_at hl 1 rfl) ?_
    obtain ⟨hv2, hr⟩ := of_grd hr
    refine h_getIN cx fx dy fd_4_3 hv2 tb_271 dX2_canPay_13 ?_
    rcases of_brn hr with ⟨hc, hr⟩ | ⟨hc, hr⟩
    · refine lv_icmp_lt (tgt := 23) cx.1 cx.2.1 dX2_canPay_16 (by decide) (fun _ => ?_) (fun hn => absurd hc hn)
      refine lv_iconst (v := 0) cx.1 cx.2.1 dX2_canPay_23 (by decide) ?_
      obtain ⟨e0, e1⟩ := hq0 _ _ (Option.some.inj hr).symm
      exact h_iret cx dy hlocks hret rfl e0 (by rw [e1]) dX2_canPay_24
    · refine lv_icmp_lt (tgt := 23) cx.1 cx.2.1 dX2_canPay_16 (by decide) (fun hn => absurd hn hc) (fun _ => ?_)
      refine lv_iconst (v := 1) cx.1 cx.2.1 dX2_canPay_19 (by decide) ?_
      refine lv_goto (tgt := 24) cx.1 cx.2.1 dX2_canPay_20 (by decide) ?_
      obtain ⟨e0, e1⟩ := hq0 _ _ (Option.some.inj hr).symm
      exact h_iret cx dy hlocks hret rfl e0 (by rw [e1]) dX2_canPay_24
  · refine lv_icmp_ne (tgt := 23) cx.1 cx.2.1 dX2_canPay_5 (by decide) (fun _ => ?_) (fun hn => absurd hn hc)
    refine lv_iconst (v := 0) cx.1 cx.2.1 dX2_canPay_23 (by decide) ?_
    obtain ⟨e0, e1⟩ := hq0 _ _ (Option.some.inj hr).symm
    exact h_iret cx dy hlocks hret rfl e0 (by rw [e1]) dX2_canPay_24
noncomputable def r_X2_noteYear (V : Vk) (k0 : Nat) (a1 : Int32) (g : Hq) : Option (Unit × Hq) :=
  grd (V k0 = some (2, 0)) <| nm (sI g k0 4 a1) fun g2 => nm (sI g2 k0 5 ((g2.1 k0 5) + (1 : Int32))) fun g3 => some ((), g3)
set_option maxHeartbeats 4000000 in
set_option maxRecDepth 100000 in
theorem c_X2_noteYear {l : Launch} {D : va_G} {cA : Nat → ClassId} {sk : (Nat → Nat) × (Nat → Nat)} {ad : Nat → Nat} {A : Nat → Prop} {V : Vk} {k0 : Nat} {a1 : Int32} {g g0 : Hq} (hr : r_X2_noteYear V k0 a1 g = some ((), g0)) : Met l yX2_noteYear (wM yX2_noteYear cX2_noteYear 2 none) { frames := 0, cells := 0, slots := 0, locals := 0 } (Pre D cA sk ad (V, g) A [.ref (ad k0), .int a1]) (QV D cA ad A (V, g0)) 0 0 A := by
  refine Met.ofW (cc := cX2_noteYear) (maxL := 2) (ret := none) (by decide) rfl ?_
  intro p e s m args below meth c s₁ B hml hv
  obtain ⟨rfl, fx, w0⟩ := hv
  have hts := atoms_spec (ws := wM yX2_noteYear cX2_noteYear 2 none) B.pre
  have cx : CallFix p m c cX2_noteYear 2 s ([.ref (ad k0), .int a1] : List Value).toArray gw_tbl RX2 := ⟨B.exec, B.bytes, hml, findClass_of_methodNamed B.named, fun w hw => hts w (List.mem_cons_of_mem _ hw)⟩
  have hlocks := B.notSynchronized
  have hret := B.returns
  have hR : 0 ≤ (headSpec (wM yX2_noteYear cX2_noteYear 2 none) { frames := 0, cells := 0, slots := 0, locals := 0 }).room.frames ∧ 0 ≤ (headSpec (wM yX2_noteYear cX2_noteYear 2 none) { frames := 0, cells := 0, slots := 0, locals := 0 }).room.locals := ⟨Nat.le_refl _, Nat.le_refl _⟩
  have dy : Dy D cA ad (V, g) A s.heap s.heap [] := ⟨w0, va_S.rf⟩
  have hl := lv_entry [.ref (ad k0), .int a1] (n := 2) (Nat.le_of_ble_eq_true rfl)
  rw [lg_entry_eq]
  generalize (lg_sl [.ref (ad k0), .int a1] ++ List.replicate (2 - (lg_sl [.ref (ad k0), .int a1]).length) Slot.unset).toArray = ls at hl ⊢
  have hl : lv_has ls 2 [(0, .ref (ad k0)), (1, .int a1)] := hl
  have dy0 : ∃ H0, H0 = s.heap ∧ Dy D cA ad (V, g) A s.heap H0 [] := ⟨_, rfl, dy⟩
  obtain ⟨z, ez⟩ : ∃ z, z = (((), g0) : Unit × Hq) := ⟨_, rfl⟩
  rw [← ez] at hr
  have hq0 : ∀ (rb : Unit) (gb : Hq), z = (rb, gb) → gb = g0 := fun rb gb eb => by rw [ez] at eb; exact (congrArg Prod.snd eb).symm
  clear ez w0 dy0
  unfold r_X2_noteYear at hr
  obtain ⟨H, hH⟩ : ∃ H, H = s.heap := ⟨_, rfl⟩
  obtain ⟨locs, hlo⟩ : ∃ q : List Loc, q = [] := ⟨_, rfl⟩
  have dy : Dy D cA ad (V, g) A s.heap H locs := by rw [hH, hlo]; exact dy
  suffices K : W p l e (headSpec (wM yX2_noteYear cX2_noteYear 2 none) { frames := 0, cells := 0, slots := 0, locals := 0 }).room s m ([.ref (ad k0), .int a1] : List Value).toArray below meth c H locs 0 0 (MQ below (QV D cA ad A (V, g0)) ([.ref (ad k0), .int a1] : List Value).toArray s 0 0 A) (F0 m 0 ls []) by rw [hH, hlo] at K; exact K
  clear hH hlo
  refine lv_aload_n cx.1 cx.2.1 dX2_noteYear_0 rfl (lv_at hl 0 rfl) ?_
  refine lv_iload_n cx.1 cx.2.1 dX2_noteYear_1 rfl (lv_at hl 1 rfl) ?_
  obtain ⟨hv1, hr⟩ := of_grd hr
  obtain ⟨g2, eg2, hr⟩ := of_nm hr
  refine h_putI cx fx dy fd_2_4 (pd_2_4 : PD _ _ _ _ _ .int) rfl rfl rfl hv1 tb_745 dX2_noteYear_2 (fun H locs dy => ?_)
  replace dy : Dy D cA ad (V, g2) A s.heap H locs := by rw [eg2]; exact dy
  refine lv_aload_n cx.1 cx.2.1 dX2_noteYear_5 rfl (lv_at hl 0 rfl) ?_
  refine lv_dup cx.1 cx.2.1 dX2_noteYear_6 rfl ?_
  refine h_getI cx fx dy fd_2_5 hv1 tb_746 dX2_noteYear_7 ?_
  refine lv_iconst (v := 1) cx.1 cx.2.1 dX2_noteYear_10 (by decide) ?_
  refine lv_iadd cx.1 cx.2.1 dX2_noteYear_11 ?_
  obtain ⟨g3, eg3, hr⟩ := of_nm hr
  refine h_putI cx fx dy fd_2_5 (pd_2_5 : PD _ _ _ _ _ .int) rfl rfl rfl hv1 tb_746 dX2_noteYear_12 (fun H locs dy => ?_)
  replace dy : Dy D cA ad (V, g3) A s.heap H locs := by rw [eg3]; exact dy
  have e1 := hq0 _ _ (Option.some.inj hr).symm
  exact h_vret cx dy hlocks hret (by rw [e1]) dX2_noteYear_15
noncomputable def r_X2_tell (V : Vk) (k0 : Nat) (a1 : Int32) (g : Hq) : Option (Int32 × Hq) :=
  brn (a1 = (0 : Int32)) (grd (V k0 = some (2, 0)) <| some ((g.1 k0 0), g)) (brn (a1 = (1 : Int32)) (grd (V k0 = some (2, 0)) <| some ((g.1 k0 1), g)) (brn (a1 = (2 : Int32)) (grd (V k0 = some (2, 0)) <| some ((g.1 k0 2), g)) (brn (a1 = (3 : Int32)) (grd (V k0 = some (2, 0)) <| some ((g.1 k0 3), g)) (brn (a1 = (4 : Int32)) (grd (V k0 = some (2, 0)) <| some ((g.1 k0 4), g)) (brn (a1 = (5 : Int32)) (grd (V k0 = some (2, 0)) <| some ((g.1 k0 5), g)) (some ((-1 : Int32), g)))))))
set_option maxHeartbeats 4000000 in
set_option maxRecDepth 100000 in
theorem c_X2_tell {l : Launch} {D : va_G} {cA : Nat → ClassId} {sk : (Nat → Nat) × (Nat → Nat)} {ad : Nat → Nat} {A : Nat → Prop} {V : Vk} {k0 : Nat} {a1 : Int32} {g g0 : Hq} {r0 : Int32} (hr : r_X2_tell V k0 a1 g = some (r0, g0)) : Met l yX2_tell (wM yX2_tell cX2_tell 2 (some .int)) { frames := 0, cells := 0, slots := 0, locals := 0 } (Pre D cA sk ad (V, g) A [.ref (ad k0), .int a1]) (QI D cA ad A r0 (V, g0)) 0 0 A := by
  refine Met.ofW (cc := cX2_tell) (maxL := 2) (ret := (some .int)) (by decide) rfl ?_
  intro p e s m args below meth c s₁ B hml hv
  obtain ⟨rfl, fx, w0⟩ := hv
  have hts := atoms_spec (ws := wM yX2_tell cX2_tell 2 (some .int)) B.pre
  have cx : CallFix p m c cX2_tell 2 s ([.ref (ad k0), .int a1] : List Value).toArray gw_tbl RX2 := ⟨B.exec, B.bytes, hml, findClass_of_methodNamed B.named, fun w hw => hts w (List.mem_cons_of_mem _ hw)⟩
  have hlocks := B.notSynchronized
  have hret := B.returns
  have hR : 0 ≤ (headSpec (wM yX2_tell cX2_tell 2 (some .int)) { frames := 0, cells := 0, slots := 0, locals := 0 }).room.frames ∧ 0 ≤ (headSpec (wM yX2_tell cX2_tell 2 (some .int)) { frames := 0, cells := 0, slots := 0, locals := 0 }).room.locals := ⟨Nat.le_refl _, Nat.le_refl _⟩
  have dy : Dy D cA ad (V, g) A s.heap s.heap [] := ⟨w0, va_S.rf⟩
  have hl := lv_entry [.ref (ad k0), .int a1] (n := 2) (Nat.le_of_ble_eq_true rfl)
  rw [lg_entry_eq]
  generalize (lg_sl [.ref (ad k0), .int a1] ++ List.replicate (2 - (lg_sl [.ref (ad k0), .int a1]).length) Slot.unset).toArray = ls at hl ⊢
  have hl : lv_has ls 2 [(0, .ref (ad k0)), (1, .int a1)] := hl
  have dy0 : ∃ H0, H0 = s.heap ∧ Dy D cA ad (V, g) A s.heap H0 [] := ⟨_, rfl, dy⟩
  obtain ⟨z, ez⟩ : ∃ z, z = (r0, g0) := ⟨_, rfl⟩
  rw [← ez] at hr
  have hq0 : ∀ (rb : Int32) (gb : Hq), z = (rb, gb) → rb = r0 ∧ gb = g0 := fun rb gb eb => by rw [ez] at eb; exact ⟨(congrArg Prod.fst eb).symm, (congrArg Prod.snd eb).symm⟩
  clear ez w0 dy0
  unfold r_X2_tell at hr
  obtain ⟨H, hH⟩ : ∃ H, H = s.heap := ⟨_, rfl⟩
  obtain ⟨locs, hlo⟩ : ∃ q : List Loc, q = [] := ⟨_, rfl⟩
  have dy : Dy D cA ad (V, g) A s.heap H locs := by rw [hH, hlo]; exact dy
  suffices K : W p l e (headSpec (wM yX2_tell cX2_tell 2 (some .int)) { frames := 0, cells := 0, slots := 0, locals := 0 }).room s m ([.ref (ad k0), .int a1] : List Value).toArray below meth c H locs 0 0 (MQ below (QI D cA ad A r0 (V, g0)) ([.ref (ad k0), .int a1] : List Value).toArray s 0 0 A) (F0 m 0 ls []) by rw [hH, hlo] at K; exact K
  clear hH hlo
  refine lv_iload_n cx.1 cx.2.1 dX2_tell_0 rfl (lv_at hl 1 rfl) ?_
  rcases of_brn hr with ⟨hc, hr⟩ | ⟨hs2, hr⟩
  · refine lv_tableIn (off := 39) (tgt := 40) cx.1 cx.2.1 dX2_tell_1 (by rw [hc]; decide) (by rw [hc]; decide) (by rw [hc]; rfl) (by decide) ?_
    refine lv_aload_n cx.1 cx.2.1 dX2_tell_40 rfl (lv_at hl 0 rfl) ?_
    obtain ⟨hv1, hr⟩ := of_grd hr
    refine h_getI cx fx dy fd_2_0 hv1 tb_737 dX2_tell_41 ?_
    obtain ⟨e0, e1⟩ := hq0 _ _ (Option.some.inj hr).symm
    exact h_iret cx dy hlocks hret rfl e0 (by rw [e1]) dX2_tell_44
  rcases of_brn hr with ⟨hc, hr⟩ | ⟨hs4, hr⟩
  · refine lv_tableIn (off := 44) (tgt := 45) cx.1 cx.2.1 dX2_tell_1 (by rw [hc]; decide) (by rw [hc]; decide) (by rw [hc]; rfl) (by decide) ?_
    refine lv_aload_n cx.1 cx.2.1 dX2_tell_45 rfl (lv_at hl 0 rfl) ?_
    obtain ⟨hv3, hr⟩ := of_grd hr
    refine h_getI cx fx dy fd_2_1 hv3 tb_739 dX2_tell_46 ?_
    obtain ⟨e0, e1⟩ := hq0 _ _ (Option.some.inj hr).symm
    exact h_iret cx dy hlocks hret rfl e0 (by rw [e1]) dX2_tell_49
  rcases of_brn hr with ⟨hc, hr⟩ | ⟨hs6, hr⟩
  · refine lv_tableIn (off := 49) (tgt := 50) cx.1 cx.2.1 dX2_tell_1 (by rw [hc]; decide) (by rw [hc]; decide) (by rw [hc]; rfl) (by decide) ?_
    refine lv_aload_n cx.1 cx.2.1 dX2_tell_50 rfl (lv_at hl 0 rfl) ?_
    obtain ⟨hv5, hr⟩ := of_grd hr
    refine h_getI cx fx dy fd_2_2 hv5 tb_740 dX2_tell_51 ?_
    obtain ⟨e0, e1⟩ := hq0 _ _ (Option.some.inj hr).symm
    exact h_iret cx dy hlocks hret rfl e0 (by rw [e1]) dX2_tell_54
  rcases of_brn hr with ⟨hc, hr⟩ | ⟨hs8, hr⟩
  · refine lv_tableIn (off := 54) (tgt := 55) cx.1 cx.2.1 dX2_tell_1 (by rw [hc]; decide) (by rw [hc]; decide) (by rw [hc]; rfl) (by decide) ?_
    refine lv_aload_n cx.1 cx.2.1 dX2_tell_55 rfl (lv_at hl 0 rfl) ?_
    obtain ⟨hv7, hr⟩ := of_grd hr
    refine h_getI cx fx dy fd_2_3 hv7 tb_743 dX2_tell_56 ?_
    obtain ⟨e0, e1⟩ := hq0 _ _ (Option.some.inj hr).symm
    exact h_iret cx dy hlocks hret rfl e0 (by rw [e1]) dX2_tell_59
  rcases of_brn hr with ⟨hc, hr⟩ | ⟨hs10, hr⟩
  · refine lv_tableIn (off := 59) (tgt := 60) cx.1 cx.2.1 dX2_tell_1 (by rw [hc]; decide) (by rw [hc]; decide) (by rw [hc]; rfl) (by decide) ?_
    refine lv_aload_n cx.1 cx.2.1 dX2_tell_60 rfl (lv_at hl 0 rfl) ?_
    obtain ⟨hv9, hr⟩ := of_grd hr
    refine h_getI cx fx dy fd_2_4 hv9 tb_745 dX2_tell_61 ?_
    obtain ⟨e0, e1⟩ := hq0 _ _ (Option.some.inj hr).symm
    exact h_iret cx dy hlocks hret rfl e0 (by rw [e1]) dX2_tell_64
  rcases of_brn hr with ⟨hc, hr⟩ | ⟨hs12, hr⟩
  · refine lv_tableIn (off := 64) (tgt := 65) cx.1 cx.2.1 dX2_tell_1 (by rw [hc]; decide) (by rw [hc]; decide) (by rw [hc]; rfl) (by decide) ?_
    refine lv_aload_n cx.1 cx.2.1 dX2_tell_65 rfl (lv_at hl 0 rfl) ?_
    obtain ⟨hv11, hr⟩ := of_grd hr
    refine h_getI cx fx dy fd_2_5 hv11 tb_746 dX2_tell_66 ?_
    obtain ⟨e0, e1⟩ := hq0 _ _ (Option.some.inj hr).symm
    exact h_iret cx dy hlocks hret rfl e0 (by rw [e1]) dX2_tell_69
  refine lv_tableOut (tgt := 70) cx.1 cx.2.1 dX2_tell_1 (tsw_out (fun n h1 h2 => ?_)) (by decide) ?_
  · rcases (show n = 0 ∨ n = 1 ∨ n = 2 ∨ n = 3 ∨ n = 4 ∨ n = 5 by omega) with rfl | rfl | rfl | rfl | rfl | rfl
    · exact hs2
    · exact hs4
    · exact hs6
    · exact hs8
    · exact hs10
    · exact hs12
  · skip
    refine lv_iconst (v := (-1)) cx.1 cx.2.1 dX2_tell_70 (by decide) ?_
    obtain ⟨e0, e1⟩ := hq0 _ _ (Option.some.inj hr).symm
    exact h_iret cx dy hlocks hret rfl e0 (by rw [e1]) dX2_tell_71
noncomputable def r_X0_tell (V : Vk) (k0 : Nat) (a1 : Int32) (g : Hq) : Option (Int32 × Hq) :=
  brn (a1 = (0 : Int32)) (grd (V k0 = some (0, 0)) <| some ((g.1 k0 0), g)) (brn (a1 = (1 : Int32)) (grd (V k0 = some (0, 0)) <| some ((g.1 k0 1), g)) (brn (a1 = (2 : Int32)) (grd (V k0 = some (0, 0)) <| some ((g.1 k0 2), g)) (brn (a1 = (3 : Int32)) (grd (V k0 = some (0, 0)) <| some ((g.1 k0 3), g)) (brn (a1 = (4 : Int32)) (grd (V k0 = some (0, 0)) <| some ((g.1 k0 4), g)) (some ((-1 : Int32), g))))))
set_option maxHeartbeats 4000000 in
set_option maxRecDepth 100000 in
theorem c_X0_tell {l : Launch} {D : va_G} {cA : Nat → ClassId} {sk : (Nat → Nat) × (Nat → Nat)} {ad : Nat → Nat} {A : Nat → Prop} {V : Vk} {k0 : Nat} {a1 : Int32} {g g0 : Hq} {r0 : Int32} (hr : r_X0_tell V k0 a1 g = some (r0, g0)) : Met l yX0_tell (wM yX0_tell cX0_tell 2 (some .int)) { frames := 0, cells := 0, slots := 0, locals := 0 } (Pre D cA sk ad (V, g) A [.ref (ad k0), .int a1]) (QI D cA ad A r0 (V, g0)) 0 0 A := by
  refine Met.ofW (cc := cX0_tell) (maxL := 2) (ret := (some .int)) (by decide) rfl ?_
  intro p e s m args below meth c s₁ B hml hv
  obtain ⟨rfl, fx, w0⟩ := hv
  have hts := atoms_spec (ws := wM yX0_tell cX0_tell 2 (some .int)) B.pre
  have cx : CallFix p m c cX0_tell 2 s ([.ref (ad k0), .int a1] : List Value).toArray gw_tbl RX0 := ⟨B.exec, B.bytes, hml, findClass_of_methodNamed B.named, fun w hw => hts w (List.mem_cons_of_mem _ hw)⟩
  have hlocks := B.notSynchronized
  have hret := B.returns
  have hR : 0 ≤ (headSpec (wM yX0_tell cX0_tell 2 (some .int)) { frames := 0, cells := 0, slots := 0, locals := 0 }).room.frames ∧ 0 ≤ (headSpec (wM yX0_tell cX0_tell 2 (some .int)) { frames := 0, cells := 0, slots := 0, locals := 0 }).room.locals := ⟨Nat.le_refl _, Nat.le_refl _⟩
  have dy : Dy D cA ad (V, g) A s.heap s.heap [] := ⟨w0, va_S.rf⟩
  have hl := lv_entry [.ref (ad k0), .int a1] (n := 2) (Nat.le_of_ble_eq_true rfl)
  rw [lg_entry_eq]
  generalize (lg_sl [.ref (ad k0), .int a1] ++ List.replicate (2 - (lg_sl [.ref (ad k0), .int a1]).length) Slot.unset).toArray = ls at hl ⊢
  have hl : lv_has ls 2 [(0, .ref (ad k0)), (1, .int a1)] := hl
  have dy0 : ∃ H0, H0 = s.heap ∧ Dy D cA ad (V, g) A s.heap H0 [] := ⟨_, rfl, dy⟩
  obtain ⟨z, ez⟩ : ∃ z, z = (r0, g0) := ⟨_, rfl⟩
  rw [← ez] at hr
  have hq0 : ∀ (rb : Int32) (gb : Hq), z = (rb, gb) → rb = r0 ∧ gb = g0 := fun rb gb eb => by rw [ez] at eb; exact ⟨(congrArg Prod.fst eb).symm, (congrArg Prod.snd eb).symm⟩
  clear ez w0 dy0
  unfold r_X0_tell at hr
  obtain ⟨H, hH⟩ : ∃ H, H = s.heap := ⟨_, rfl⟩
  obtain ⟨locs, hlo⟩ : ∃ q : List Loc, q = [] := ⟨_, rfl⟩
  have dy : Dy D cA ad (V, g) A s.heap H locs := by rw [hH, hlo]; exact dy
  suffices K : W p l e (headSpec (wM yX0_tell cX0_tell 2 (some .int)) { frames := 0, cells := 0, slots := 0, locals := 0 }).room s m ([.ref (ad k0), .int a1] : List Value).toArray below meth c H locs 0 0 (MQ below (QI D cA ad A r0 (V, g0)) ([.ref (ad k0), .int a1] : List Value).toArray s 0 0 A) (F0 m 0 ls []) by rw [hH, hlo] at K; exact K
  clear hH hlo
  refine lv_iload_n cx.1 cx.2.1 dX0_tell_0 rfl (lv_at hl 1 rfl) ?_
  rcases of_brn hr with ⟨hc, hr⟩ | ⟨hs2, hr⟩
  · refine lv_tableIn (off := 35) (tgt := 36) cx.1 cx.2.1 dX0_tell_1 (by rw [hc]; decide) (by rw [hc]; decide) (by rw [hc]; rfl) (by decide) ?_
    refine lv_aload_n cx.1 cx.2.1 dX0_tell_36 rfl (lv_at hl 0 rfl) ?_
    obtain ⟨hv1, hr⟩ := of_grd hr
    refine h_getI cx fx dy fd_0_0 hv1 tb_850 dX0_tell_37 ?_
    obtain ⟨e0, e1⟩ := hq0 _ _ (Option.some.inj hr).symm
    exact h_iret cx dy hlocks hret rfl e0 (by rw [e1]) dX0_tell_40
  rcases of_brn hr with ⟨hc, hr⟩ | ⟨hs4, hr⟩
  · refine lv_tableIn (off := 40) (tgt := 41) cx.1 cx.2.1 dX0_tell_1 (by rw [hc]; decide) (by rw [hc]; decide) (by rw [hc]; rfl) (by decide) ?_
    refine lv_aload_n cx.1 cx.2.1 dX0_tell_41 rfl (lv_at hl 0 rfl) ?_
    obtain ⟨hv3, hr⟩ := of_grd hr
    refine h_getI cx fx dy fd_0_1 hv3 tb_852 dX0_tell_42 ?_
    obtain ⟨e0, e1⟩ := hq0 _ _ (Option.some.inj hr).symm
    exact h_iret cx dy hlocks hret rfl e0 (by rw [e1]) dX0_tell_45
  rcases of_brn hr with ⟨hc, hr⟩ | ⟨hs6, hr⟩
  · refine lv_tableIn (off := 45) (tgt := 46) cx.1 cx.2.1 dX0_tell_1 (by rw [hc]; decide) (by rw [hc]; decide) (by rw [hc]; rfl) (by decide) ?_
    refine lv_aload_n cx.1 cx.2.1 dX0_tell_46 rfl (lv_at hl 0 rfl) ?_
    obtain ⟨hv5, hr⟩ := of_grd hr
    refine h_getI cx fx dy fd_0_2 hv5 tb_854 dX0_tell_47 ?_
    obtain ⟨e0, e1⟩ := hq0 _ _ (Option.some.inj hr).symm
    exact h_iret cx dy hlocks hret rfl e0 (by rw [e1]) dX0_tell_50
  rcases of_brn hr with ⟨hc, hr⟩ | ⟨hs8, hr⟩
  · refine lv_tableIn (off := 50) (tgt := 51) cx.1 cx.2.1 dX0_tell_1 (by rw [hc]; decide) (by rw [hc]; decide) (by rw [hc]; rfl) (by decide) ?_
    refine lv_aload_n cx.1 cx.2.1 dX0_tell_51 rfl (lv_at hl 0 rfl) ?_
    obtain ⟨hv7, hr⟩ := of_grd hr
    refine h_getI cx fx dy fd_0_3 hv7 tb_856 dX0_tell_52 ?_
    obtain ⟨e0, e1⟩ := hq0 _ _ (Option.some.inj hr).symm
    exact h_iret cx dy hlocks hret rfl e0 (by rw [e1]) dX0_tell_55
  rcases of_brn hr with ⟨hc, hr⟩ | ⟨hs10, hr⟩
  · refine lv_tableIn (off := 55) (tgt := 56) cx.1 cx.2.1 dX0_tell_1 (by rw [hc]; decide) (by rw [hc]; decide) (by rw [hc]; rfl) (by decide) ?_
    refine lv_aload_n cx.1 cx.2.1 dX0_tell_56 rfl (lv_at hl 0 rfl) ?_
    obtain ⟨hv9, hr⟩ := of_grd hr
    refine h_getI cx fx dy fd_0_4 hv9 tb_858 dX0_tell_57 ?_
    obtain ⟨e0, e1⟩ := hq0 _ _ (Option.some.inj hr).symm
    exact h_iret cx dy hlocks hret rfl e0 (by rw [e1]) dX0_tell_60
  refine lv_tableOut (tgt := 61) cx.1 cx.2.1 dX0_tell_1 (tsw_out (fun n h1 h2 => ?_)) (by decide) ?_
  · rcases (show n = 0 ∨ n = 1 ∨ n = 2 ∨ n = 3 ∨ n = 4 by omega) with rfl | rfl | rfl | rfl | rfl
    · exact hs2
    · exact hs4
    · exact hs6
    · exact hs8
    · exact hs10
  · skip
    refine lv_iconst (v := (-1)) cx.1 cx.2.1 dX0_tell_61 (by decide) ?_
    obtain ⟨e0, e1⟩ := hq0 _ _ (Option.some.inj hr).symm
    exact h_iret cx dy hlocks hret rfl e0 (by rw [e1]) dX0_tell_62
noncomputable def r_X7_size (V : Vk) (k0 : Nat) (g : Hq) : Option (Int32 × Hq) :=
  grd (V k0 = some (7, 0)) <| some ((g.1 k0 1), g)
set_option maxHeartbeats 4000000 in
set_option maxRecDepth 100000 in
theorem c_X7_size {l : Launch} {D : va_G} {cA : Nat → ClassId} {sk : (Nat → Nat) × (Nat → Nat)} {ad : Nat → Nat} {A : Nat → Prop} {V : Vk} {k0 : Nat} {g g0 : Hq} {r0 : Int32} (hr : r_X7_size V k0 g = some (r0, g0)) : Met l yX7_size (wM yX7_size cX7_size 1 (some .int)) { frames := 0, cells := 0, slots := 0, locals := 0 } (Pre D cA sk ad (V, g) A [.ref (ad k0)]) (QI D cA ad A r0 (V, g0)) 0 0 A := by
  refine Met.ofW (cc := cX7_size) (maxL := 1) (ret := (some .int)) (by decide) rfl ?_
  intro p e s m args below meth c s₁ B hml hv
  obtain ⟨rfl, fx, w0⟩ := hv
  have hts := atoms_spec (ws := wM yX7_size cX7_size 1 (some .int)) B.pre
  have cx : CallFix p m c cX7_size 1 s ([.ref (ad k0)] : List Value).toArray gw_tbl RX7 := ⟨B.exec, B.bytes, hml, findClass_of_methodNamed B.named, fun w hw => hts w (List.mem_cons_of_mem _ hw)⟩
  have hlocks := B.notSynchronized
  have hret := B.returns
  have hR : 0 ≤ (headSpec (wM yX7_size cX7_size 1 (some .int)) { frames := 0, cells := 0, slots := 0, locals := 0 }).room.frames ∧ 0 ≤ (headSpec (wM yX7_size cX7_size 1 (some .int)) { frames := 0, cells := 0, slots := 0, locals := 0 }).room.locals := ⟨Nat.le_refl _, Nat.le_refl _⟩
  have dy : Dy D cA ad (V, g) A s.heap s.heap [] := ⟨w0, va_S.rf⟩
  have hl := lv_entry [.ref (ad k0)] (n := 1) (Nat.le_of_ble_eq_true rfl)
  rw [lg_entry_eq]
  generalize (lg_sl [.ref (ad k0)] ++ List.replicate (1 - (lg_sl [.ref (ad k0)]).length) Slot.unset).toArray = ls at hl ⊢
  have hl : lv_has ls 1 [(0, .ref (ad k0))] := hl
  have dy0 : ∃ H0, H0 = s.heap ∧ Dy D cA ad (V, g) A s.heap H0 [] := ⟨_, rfl, dy⟩
  obtain ⟨z, ez⟩ : ∃ z, z = (r0, g0) := ⟨_, rfl⟩
  rw [← ez] at hr
  have hq0 : ∀ (rb : Int32) (gb : Hq), z = (rb, gb) → rb = r0 ∧ gb = g0 := fun rb gb eb => by rw [ez] at eb; exact ⟨(congrArg Prod.fst eb).symm, (congrArg Prod.snd eb).symm⟩
  clear ez w0 dy0
  unfold r_X7_size at hr
  obtain ⟨H, hH⟩ : ∃ H, H = s.heap := ⟨_, rfl⟩
  obtain ⟨locs, hlo⟩ : ∃ q : List Loc, q = [] := ⟨_, rfl⟩
  have dy : Dy D cA ad (V, g) A s.heap H locs := by rw [hH, hlo]; exact dy
  suffices K : W p l e (headSpec (wM yX7_size cX7_size 1 (some .int)) { frames := 0, cells := 0, slots := 0, locals := 0 }).room s m ([.ref (ad k0)] : List Value).toArray below meth c H locs 0 0 (MQ below (QI D cA ad A r0 (V, g0)) ([.ref (ad k0)] : List Value).toArray s 0 0 A) (F0 m 0 ls []) by rw [hH, hlo] at K; exact K
  clear hH hlo
  refine lv_aload_n cx.1 cx.2.1 dX7_size_0 rfl (lv_at hl 0 rfl) ?_
  obtain ⟨hv1, hr⟩ := of_grd hr
  refine h_getI cx fx dy fd_7_1 hv1 tb_211 dX7_size_1 ?_
  obtain ⟨e0, e1⟩ := hq0 _ _ (Option.some.inj hr).symm
  exact h_iret cx dy hlocks hret rfl e0 (by rw [e1]) dX7_size_4
noncomputable def r_X7_find (V : Vk) (k0 : Nat) (a1 : Int32) (g : Hq) : Option (Option Nat × Hq) :=
  brn (a1 < 0) (some (none, g)) (grd (V k0 = some (7, 0)) <| brn ((g.1 k0 1) ≤ a1) (some (none, g)) (Option.bind (g.2.2 k0 0) fun k2 => grd (okV V k2 5 a1) <| Option.bind (g.2.2 k2 a1.toNatClampNeg) fun k5 => some ((some k5), g)))
set_option maxHeartbeats 4000000 in
set_option maxRecDepth 100000 in
theorem c_X7_find {l : Launch} {D : va_G} {cA : Nat → ClassId} {sk : (Nat → Nat) × (Nat → Nat)} {ad : Nat → Nat} {A : Nat → Prop} {V : Vk} {k0 : Nat} {a1 : Int32} {g g0 : Hq} {r0 : Option Nat} (hr : r_X7_find V k0 a1 g = some (r0, g0)) : Met l yX7_find (wM yX7_find cX7_find 2 (some (.object "WardWatch$House"))) { frames := 0, cells := 0, slots := 0, locals := 0 } (Pre D cA sk ad (V, g) A [.ref (ad k0), .int a1]) (QQ D cA ad A r0 (V, g0)) 0 0 A := by
  refine Met.ofW (cc := cX7_find) (maxL := 2) (ret := (some (.object "WardWatch$House"))) (by decide) rfl ?_
  intro p e s m args below meth c s₁ B hml hv
  obtain ⟨rfl, fx, w0⟩ := hv
  have hts := atoms_spec (ws := wM yX7_find cX7_find 2 (some (.object "WardWatch$House"))) B.pre
  have cx : CallFix p m c cX7_find 2 s ([.ref (ad k0), .int a1] : List Value).toArray gw_tbl RX7 := ⟨B.exec, B.bytes, hml, findClass_of_methodNamed B.named, fun w hw => hts w (List.mem_cons_of_mem _ hw)⟩
  have hlocks := B.notSynchronized
  have hret := B.returns
  have hR : 0 ≤ (headSpec (wM yX7_find cX7_find 2 (some (.object "WardWatch$House"))) { frames := 0, cells := 0, slots := 0, locals := 0 }).room.frames ∧ 0 ≤ (headSpec (wM yX7_find cX7_find 2 (some (.object "WardWatch$House"))) { frames := 0, cells := 0, slots := 0, locals := 0 }).room.locals := ⟨Nat.le_refl _, Nat.le_refl _⟩
  have dy : Dy D cA ad (V, g) A s.heap s.heap [] := ⟨w0, va_S.rf⟩
  have hl := lv_entry [.ref (ad k0), .int a1] (n := 2) (Nat.le_of_ble_eq_true rfl)
  rw [lg_entry_eq]
  generalize (lg_sl [.ref (ad k0), .int a1] ++ List.replicate (2 - (lg_sl [.ref (ad k0), .int a1]).length) Slot.unset).toArray = ls at hl ⊢
  have hl : lv_has ls 2 [(0, .ref (ad k0)), (1, .int a1)] := hl
  have dy0 : ∃ H0, H0 = s.heap ∧ Dy D cA ad (V, g) A s.heap H0 [] := ⟨_, rfl, dy⟩
  obtain ⟨z, ez⟩ : ∃ z, z = (r0, g0) := ⟨_, rfl⟩
  rw [← ez] at hr
  have hq0 : ∀ (rb : Option Nat) (gb : Hq), z = (rb, gb) → rb = r0 ∧ gb = g0 := fun rb gb eb => by rw [ez] at eb; exact ⟨(congrArg Prod.fst eb).symm, (congrArg Prod.snd eb).symm⟩
  clear ez w0 dy0
  unfold r_X7_find at hr
  obtain ⟨H, hH⟩ : ∃ H, H = s.heap := ⟨_, rfl⟩
  obtain ⟨locs, hlo⟩ : ∃ q : List Loc, q = [] := ⟨_, rfl⟩
  have dy : Dy D cA ad (V, g) A s.heap H locs := by rw [hH, hlo]; exact dy
  suffices K : W p l e (headSpec (wM yX7_find cX7_find 2 (some (.object "WardWatch$House"))) { frames := 0, cells := 0, slots := 0, locals := 0 }).room s m ([.ref (ad k0), .int a1] : List Value).toArray below meth c H locs 0 0 (MQ below (QQ D cA ad A r0 (V, g0)) ([.ref (ad k0), .int a1] : List Value).toArray s 0 0 A) (F0 m 0 ls []) by rw [hH, hlo] at K; exact K
  clear hH hlo
  refine lv_iload_n cx.1 cx.2.1 dX7_find_0 rfl (lv_at hl 1 rfl) ?_
  rcases of_brn hr with ⟨hc, hr⟩ | ⟨hc, hr⟩
  · refine lv_if_lt (tgt := 21) cx.1 cx.2.1 dX7_find_1 (by decide) (fun _ => ?_) (fun hn => absurd hc hn)
    refine lv_null cx.1 cx.2.1 dX7_find_21 ?_
    obtain ⟨e0, e1⟩ := hq0 _ _ (Option.some.inj hr).symm
    exact h_aret (r := none) cx dy hlocks hret ⟨_, rfl⟩ rfl e0 (by rw [e1]) dX7_find_22
  · refine lv_if_lt (tgt := 21) cx.1 cx.2.1 dX7_find_1 (by decide) (fun hn => absurd hn hc) (fun _ => ?_)
    refine lv_iload_n cx.1 cx.2.1 dX7_find_4 rfl (lv_at hl 1 rfl) ?_
    refine lv_aload_n cx.1 cx.2.1 dX7_find_5 rfl (lv_at hl 0 rfl) ?_
    obtain ⟨hv1, hr⟩ := of_grd hr
    refine h_getI cx fx dy fd_7_1 hv1 tb_211 dX7_find_6 ?_
    rcases of_brn hr with ⟨hc, hr⟩ | ⟨hc, hr⟩
    · refine lv_icmp_ge (tgt := 21) cx.1 cx.2.1 dX7_find_9 (by decide) (fun _ => ?_) (fun hn => absurd hc hn)
      refine lv_null cx.1 cx.2.1 dX7_find_21 ?_
      obtain ⟨e0, e1⟩ := hq0 _ _ (Option.some.inj hr).symm
      exact h_aret (r := none) cx dy hlocks hret ⟨_, rfl⟩ rfl e0 (by rw [e1]) dX7_find_22
    · refine lv_icmp_ge (tgt := 21) cx.1 cx.2.1 dX7_find_9 (by decide) (fun hn => absurd hn hc) (fun _ => ?_)
      refine lv_aload_n cx.1 cx.2.1 dX7_find_12 rfl (lv_at hl 0 rfl) ?_
      obtain ⟨k2, hf3, hr⟩ := of_bnd hr
      refine h_getR cx fx dy fd_7_0 hv1 tb_210 hf3 dX7_find_13 ?_
      refine lv_iload_n cx.1 cx.2.1 dX7_find_16 rfl (lv_at hl 1 rfl) ?_
      obtain ⟨ha4, hr⟩ := of_grd hr
      obtain ⟨k5, hf6, hr⟩ := of_bnd hr
      refine h_aald (t := 5) cx fx dy (by decide) rfl ha4 hf6 dX7_find_17 ?_
      refine lv_goto (tgt := 22) cx.1 cx.2.1 dX7_find_18 (by decide) ?_
      obtain ⟨e0, e1⟩ := hq0 _ _ (Option.some.inj hr).symm
      exact h_aret (r := (some k5)) cx dy hlocks hret ⟨_, rfl⟩ rfl e0 (by rw [e1]) dX7_find_22
noncomputable def r_X7_appoint (V : Vk) (k0 : Nat) (a1 : Int32) (a2 : Nat) (a3 : Int32) (g : Hq) : Option (Unit × Hq) :=
  grd (V k0 = some (7, 0)) <| Option.bind (g.2.2 k0 0) fun k2 => grd (okV V k2 5 a1) <| Option.bind (g.2.2 k2 a1.toNatClampNeg) fun k5 => grd (V a2 = some (10, 0)) <| Option.bind (g.2.2 a2 0) fun k8 => grd (V k5 = some (2, 0)) <| bnd (r_X2_canHire V k5 k8 g) fun x11 g10 => brn (x11 = 0) (bnd (r_X10_appoint V a2 a3 a1 x11 g10) fun u15 g14 => some ((), g14)) (Option.bind (g10.2.2 k0 0) fun k17 => grd (okV V k17 5 a1) <| Option.bind (g10.2.2 k17 a1.toNatClampNeg) fun k20 => grd (V k20 = some (2, 0)) <| Option.bind (g10.2.2 a2 0) fun k23 => grd (V k23 = some (4, 0)) <| nm (sI g10 k20 2 ((g10.1 k20 2) - (g10.1 k23 4))) fun g26 => bnd (r_X10_appoint V a2 a3 a1 x11 g26) fun u28 g27 => some ((), g27))
set_option maxHeartbeats 4000000 in
set_option maxRecDepth 100000 in
theorem c_X7_appoint {l : Launch} {D : va_G} {cA : Nat → ClassId} {sk : (Nat → Nat) × (Nat → Nat)} {ad : Nat → Nat} {A : Nat → Prop} {V : Vk} {k0 : Nat} {a1 : Int32} {a2 : Nat} {a3 : Int32} {g g0 : Hq} (hr : r_X7_appoint V k0 a1 a2 a3 g = some ((), g0)) : Met l yX7_appoint (wM yX7_appoint cX7_appoint 5 none) { frames := 1, cells := 0, slots := 0, locals := 23 } (Pre D cA sk ad (V, g) A [.ref (ad k0), .int a1, .ref (ad a2), .int a3]) (QV D cA ad A (V, g0)) 0 0 A := by
  refine Met.ofW (cc := cX7_appoint) (maxL := 5) (ret := none) (by decide) rfl ?_
  intro p e s m args below meth c s₁ B hml hv
  obtain ⟨rfl, fx, w0⟩ := hv
  have hts := atoms_spec (ws := wM yX7_appoint cX7_appoint 5 none) B.pre
  have cx : CallFix p m c cX7_appoint 5 s ([.ref (ad k0), .int a1, .ref (ad a2), .int a3] : List Value).toArray gw_tbl RX7 := ⟨B.exec, B.bytes, hml, findClass_of_methodNamed B.named, fun w hw => hts w (List.mem_cons_of_mem _ hw)⟩
  have hlocks := B.notSynchronized
  have hret := B.returns
  have hR : 1 ≤ (headSpec (wM yX7_appoint cX7_appoint 5 none) { frames := 1, cells := 0, slots := 0, locals := 23 }).room.frames ∧ 23 ≤ (headSpec (wM yX7_appoint cX7_appoint 5 none) { frames := 1, cells := 0, slots := 0, locals := 23 }).room.locals := ⟨Nat.le_refl _, Nat.le_refl _⟩
  have dy : Dy D cA ad (V, g) A s.heap s.heap [] := ⟨w0, va_S.rf⟩
  have hl := lv_entry [.ref (ad k0), .int a1, .ref (ad a2), .int a3] (n := 5) (Nat.le_of_ble_eq_true rfl)
  rw [lg_entry_eq]
  generalize (lg_sl [.ref (ad k0), .int a1, .ref (ad a2), .int a3] ++ List.replicate (5 - (lg_sl [.ref (ad k0), .int a1, .ref (ad a2), .int a3]).length) Slot.unset).toArray = ls at hl ⊢
  have hl : lv_has ls 5 [(0, .ref (ad k0)), (1, .int a1), (2, .ref (ad a2)), (3, .int a3)] := hl
  have dy0 : ∃ H0, H0 = s.heap ∧ Dy D cA ad (V, g) A s.heap H0 [] := ⟨_, rfl, dy⟩
  obtain ⟨z, ez⟩ : ∃ z, z = (((), g0) : Unit × Hq) := ⟨_, rfl⟩
  rw [← ez] at hr
  have hq0 : ∀ (rb : Unit) (gb : Hq), z = (rb, gb) → gb = g0 := fun rb gb eb => by rw [ez] at eb; exact (congrArg Prod.snd eb).symm
  clear ez w0 dy0
  unfold r_X7_appoint at hr
  obtain ⟨H, hH⟩ : ∃ H, H = s.heap := ⟨_, rfl⟩
  obtain ⟨locs, hlo⟩ : ∃ q : List Loc, q = [] := ⟨_, rfl⟩
  have dy : Dy D cA ad (V, g) A s.heap H locs := by rw [hH, hlo]; exact dy
  suffices K : W p l e (headSpec (wM yX7_appoint cX7_appoint 5 none) { frames := 1, cells := 0, slots := 0, locals := 23 }).room s m ([.ref (ad k0), .int a1, .ref (ad a2), .int a3] : List Value).toArray below meth c H locs 0 0 (MQ below (QV D cA ad A (V, g0)) ([.ref (ad k0), .int a1, .ref (ad a2), .int a3] : List Value).toArray s 0 0 A) (F0 m 0 ls []) by rw [hH, hlo] at K; exact K
  clear hH hlo
  refine lv_aload_n cx.1 cx.2.1 dX7_appoint_0 rfl (lv_at hl 0 rfl) ?_
  obtain ⟨hv1, hr⟩ := of_grd hr
  obtain ⟨k2, hf3, hr⟩ := of_bnd hr
  refine h_getR cx fx dy fd_7_0 hv1 tb_210 hf3 dX7_appoint_1 ?_
  refine lv_iload_n cx.1 cx.2.1 dX7_appoint_4 rfl (lv_at hl 1 rfl) ?_
  obtain ⟨ha4, hr⟩ := of_grd hr
  obtain ⟨k5, hf6, hr⟩ := of_bnd hr
  refine h_aald (t := 5) cx fx dy (by decide) rfl ha4 hf6 dX7_appoint_5 ?_
  refine lv_aload_n cx.1 cx.2.1 dX7_appoint_6 rfl (lv_at hl 2 rfl) ?_
  obtain ⟨hv7, hr⟩ := of_grd hr
  obtain ⟨k8, hf9, hr⟩ := of_bnd hr
  refine h_getRN cx fx dy fd_10_0 hv7 tb_330 hf9 dX7_appoint_7 ?_
  obtain ⟨hv12, hr⟩ := of_grd hr
  obtain ⟨x11, g10, hc13, hr⟩ := of_bnd2 hr
  refine r_i dy (k_V (As := [.ref (ad k8)]) (b := k5) (ci := 2) cx fx dy (c_X2_canHire hc13) mv_X2_canHire rfl rfl ⟨Nat.le_trans (by decide) hR.1, Nat.le_trans (by decide) hR.2⟩ tb_808 hv12 rfl (by decide) rfl hl.1 rfl (Nat.le_of_ble_eq_true rfl) ⟨Nat.zero_le _, Nat.zero_le _⟩ dX7_appoint_10) (fun H locs dy => ?_)
  refine lv_istore (lv' := [(4, .int x11), (0, .ref (ad k0)), (1, .int a1), (2, .ref (ad a2)), (3, .int a3)]) cx.1 cx.2.1 dX7_appoint_13 hl (by decide) rfl (fun ls hl => ?_)
  refine lv_iload cx.1 cx.2.1 dX7_appoint_15 (lv_at hl 0 rfl) ?_
  rcases of_brn hr with ⟨hc, hr⟩ | ⟨hc, hr⟩
  · refine lv_if_eq (tgt := 41) cx.1 cx.2.1 dX7_appoint_17 (by decide) (fun _ => ?_) (fun hn => absurd hc hn)
    refine lv_aload_n cx.1 cx.2.1 dX7_appoint_41 rfl (lv_at hl 3 rfl) ?_
    refine lv_iload_n cx.1 cx.2.1 dX7_appoint_42 rfl (lv_at hl 4 rfl) ?_
    refine lv_iload_n cx.1 cx.2.1 dX7_appoint_43 rfl (lv_at hl 2 rfl) ?_
    refine lv_iload cx.1 cx.2.1 dX7_appoint_44 (lv_at hl 0 rfl) ?_
    obtain ⟨u15, g14, hc16, hr⟩ := of_bnd2 hr
    refine r_v dy (k_V (As := [.int a3, .int a1, .int x11]) (b := a2) (ci := 10) cx fx dy (c_X10_appoint hc16) mv_X10_appoint rfl rfl ⟨Nat.le_trans (by decide) hR.1, Nat.le_trans (by decide) hR.2⟩ tb_812 hv7 rfl (by decide) rfl hl.1 rfl (Nat.le_of_ble_eq_true rfl) ⟨Nat.zero_le _, Nat.zero_le _⟩ dX7_appoint_46) (fun H locs dy => ?_)
    have e1 := hq0 _ _ (Option.some.inj hr).symm
    exact h_vret cx dy hlocks hret (by rw [e1]) dX7_appoint_49
  · refine lv_if_eq (tgt := 41) cx.1 cx.2.1 dX7_appoint_17 (by decide) (fun hn => absurd hn hc) (fun _ => ?_)
    refine lv_aload_n cx.1 cx.2.1 dX7_appoint_20 rfl (lv_at hl 1 rfl) ?_
    obtain ⟨k17, hf18, hr⟩ := of_bnd hr
    refine h_getR cx fx dy fd_7_0 hv1 tb_210 hf18 dX7_appoint_21 ?_
    refine lv_iload_n cx.1 cx.2.1 dX7_appoint_24 rfl (lv_at hl 2 rfl) ?_
    obtain ⟨ha19, hr⟩ := of_grd hr
    obtain ⟨k20, hf21, hr⟩ := of_bnd hr
    refine h_aald (t := 5) cx fx dy (by decide) rfl ha19 hf21 dX7_appoint_25 ?_
    refine lv_dup cx.1 cx.2.1 dX7_appoint_26 rfl ?_
    obtain ⟨hv22, hr⟩ := of_grd hr
    refine h_getIN cx fx dy fd_2_2 hv22 tb_741 dX7_appoint_27 ?_
    refine lv_aload_n cx.1 cx.2.1 dX7_appoint_30 rfl (lv_at hl 3 rfl) ?_
    obtain ⟨k23, hf24, hr⟩ := of_bnd hr
    refine h_getRN cx fx dy fd_10_0 hv7 tb_330 hf24 dX7_appoint_31 ?_
    obtain ⟨hv25, hr⟩ := of_grd hr
    refine h_getIN cx fx dy fd_4_4 hv25 tb_278 dX7_appoint_34 ?_
    refine lv_isub cx.1 cx.2.1 dX7_appoint_37 ?_
    obtain ⟨g26, eg26, hr⟩ := of_nm hr
    refine h_putIN cx fx dy fd_2_2 (pd_2_2 : PD _ _ _ _ _ .int) rfl rfl rfl hv22 tb_741 dX7_appoint_38 (fun H locs dy => ?_)
    replace dy : Dy D cA ad (V, g26) A s.heap H locs := by rw [eg26]; exact dy
    refine lv_aload_n cx.1 cx.2.1 dX7_appoint_41 rfl (lv_at hl 3 rfl) ?_
    refine lv_iload_n cx.1 cx.2.1 dX7_appoint_42 rfl (lv_at hl 4 rfl) ?_
    refine lv_iload_n cx.1 cx.2.1 dX7_appoint_43 rfl (lv_at hl 2 rfl) ?_
    refine lv_iload cx.1 cx.2.1 dX7_appoint_44 (lv_at hl 0 rfl) ?_
    obtain ⟨u28, g27, hc29, hr⟩ := of_bnd2 hr
    refine r_v dy (k_V (As := [.int a3, .int a1, .int x11]) (b := a2) (ci := 10) cx fx dy (c_X10_appoint hc29) mv_X10_appoint rfl rfl ⟨Nat.le_trans (by decide) hR.1, Nat.le_trans (by decide) hR.2⟩ tb_812 hv7 rfl (by decide) rfl hl.1 rfl (Nat.le_of_ble_eq_true rfl) ⟨Nat.zero_le _, Nat.zero_le _⟩ dX7_appoint_46) (fun H locs dy => ?_)
    have e1 := hq0 _ _ (Option.some.inj hr).symm
    exact h_vret cx dy hlocks hret (by rw [e1]) dX7_appoint_49
noncomputable def r_X7_fillYear_16' (V : Vk) (k6 : Nat) (x7 : Int32) (k8 : Nat) (x9 : Int32) (x10 : Int32) (x11 : Int32) (g12 : Hq) : Option ((Nat × Int32 × Nat × Int32 × Int32 × Int32 × Hq) ⊕ (Int32 × Hq)) :=
  grd (V k6 = some (7, 0)) <| brn ((g12.1 k6 1) ≤ x11) (some (.inr ((-1 : Int32), g12))) (grd (¬ (g12.1 k6 1) = 0) <| nm ((x10 + x11) - (x10 + x11) / (g12.1 k6 1) * (g12.1 k6 1)) fun x15 => Option.bind (g12.2.2 k6 0) fun k16 => grd (okV V k16 5 x15) <| Option.bind (g12.2.2 k16 x15.toNatClampNeg) fun k19 => grd (V k19 = some (2, 0)) <| brn ((g12.1 k19 0) = x7) (grd (V k8 = some (10, 0)) <| Option.bind (g12.2.2 k8 0) fun k23 => bnd (r_X2_isDue V k19 k23 x9 g12) fun x26 g25 => brn (x26 = 0) (nm (x11 + (1 : Int32)) fun x28 => some (.inl (k6, x7, k8, x9, x10, x28, g25))) (bnd (r_X2_noteYear V k19 x9 g25) fun u30 g29 => nm (sI g29 k8 3 x15) fun g32 => Option.bind (g32.2.2 k8 0) fun k33 => bnd (r_X2_canPay V k19 k33 g32) fun x36 g35 => brn (x36 = 0) (bnd (r_X7_appoint V k6 x15 k8 x9 g35) fun u39 g38 => some (.inr (x15, g38))) (Option.bind (g35.2.2 k8 0) fun k41 => grd (V k41 = some (4, 0)) <| nm (sI g35 k19 2 ((g35.1 k19 2) - (g35.1 k41 3))) fun g44 => bnd (r_X10_takeFine V k8 x9 g44) fun u46 g45 => nm (x11 + (1 : Int32)) fun x48 => some (.inl (k6, x7, k8, x9, x10, x48, g45))))) (nm (x11 + (1 : Int32)) fun x49 => some (.inl (k6, x7, k8, x9, x10, x49, g12))))
noncomputable def r_X7_fillYear_16 (V : Vk) (st : (Nat × Int32 × Nat × Int32 × Int32 × Int32 × Hq)) : Option ((Nat × Int32 × Nat × Int32 × Int32 × Int32 × Hq) ⊕ (Int32 × Hq)) := r_X7_fillYear_16' V st.1 st.2.1 st.2.2.1 st.2.2.2.1 st.2.2.2.2.1 st.2.2.2.2.2.1 st.2.2.2.2.2.2
set_option maxHeartbeats 4000000 in
set_option maxRecDepth 100000 in
theorem w_X7_fillYear_16 {p : Program} {l : Launch} {e : Env} {R : Room} {s : State} {m : MethodId} {args : Array Value} {below : List Frame} {meth : Method} {c : Code} {D : va_G} {cA : Nat → ClassId} {sk : (Nat → Nat) × (Nat → Nat)} {ad : Nat → Nat} {A : Nat → Prop} {V : Vk} (cx : CallFix p m c cX7_fillYear 8 s args gw_tbl RX7) (fx : Fx D cA sk A s) (hlocks : meth.locks = false) (hret : meth.sig.returnType = (some .int)) (hR : 2 ≤ R.frames ∧ 47 ≤ R.locals) (r0 : Int32) (g0 : Hq) (y : (Int32 × Hq)) (hq : ∀ (rb : Int32) (gb : Hq), y = (rb, gb) → rb = r0 ∧ gb = g0) : ∀ (n : Nat) (k6 : Nat) (x7 : Int32) (k8 : Nat) (x9 : Int32) (x10 : Int32) (x11 : Int32) (g12 : Hq), itr (r_X7_fillYear_16 V) n (k6, x7, k8, x9, x10, x11, g12) = some y → ∀ (H : Heap) (locs : List Loc) (ls : Array Slot), Dy D cA ad (V, g12) A s.heap H locs → lv_has ls 8 [(0, .ref (ad k6)), (1, .int x7), (2, .ref (ad k8)), (3, .int x9), (4, .int x10), (5, .int x11)] → W p l e R s m args below meth c H locs 0 0 (MQ below (QI D cA ad A r0 (V, g0)) args s 0 0 A) (F0 m 16 ls []) := by
  intro n
  induction n with
  | zero => intro k6 x7 k8 x9 x10 x11 g12 hr; cases hr
  | succ n ih =>
    intro k6 x7 k8 x9 x10 x11 g12 hr H locs ls dy hl
    obtain ⟨z, hz, hn1, hn2⟩ := itr_succ hr
    clear hr
    have hr : r_X7_fillYear_16' V k6 x7 k8 x9 x10 x11 g12 = some z := hz
    clear hz
    unfold r_X7_fillYear_16' at hr
    have hh0 : ∀ (b0 : Nat) (b1 : Int32) (b2 : Nat) (b3 : Int32) (b4 : Int32) (b5 : Int32) (gb : Hq), z = .inl (b0, b1, b2, b3, b4, b5, gb) → ∀ (H : Heap) (locs : List Loc) (ls : Array Slot), Dy D cA ad (V, gb) A s.heap H locs → lv_has ls 8 [(0, .ref (ad b0)), (1, .int b1), (2, .ref (ad b2)), (3, .int b3), (4, .int b4), (5, .int b5)] → W p l e R s m args below meth c H locs 0 0 (MQ below (QI D cA ad A r0 (V, g0)) args s 0 0 A) (F0 m 16 ls []) := fun b0 b1 b2 b3 b4 b5 gb eb => ih b0 b1 b2 b3 b4 b5 gb (hn1 _ eb)
    have hq0 : ∀ (rb : Int32) (gb : Hq), z = (.inr (rb, gb)) → rb = r0 ∧ gb = g0 := fun rb gb eb => hq rb gb (hn2 _ eb).symm
    refine lv_iload cx.1 cx.2.1 dX7_fillYear_16 (lv_at hl 5 rfl) ?_
    refine lv_aload_n cx.1 cx.2.1 dX7_fillYear_18 rfl (lv_at hl 0 rfl) ?_
    obtain ⟨hv13, hr⟩ := of_grd hr
    refine h_getI cx fx dy fd_7_1 hv13 tb_211 dX7_fillYear_19 ?_
    rcases of_brn hr with ⟨hc, hr⟩ | ⟨hc, hr⟩
    · refine lv_icmp_ge (tgt := 131) cx.1 cx.2.1 dX7_fillYear_22 (by decide) (fun _ => ?_) (fun hn => absurd hc hn)
      refine lv_iconst (v := (-1)) cx.1 cx.2.1 dX7_fillYear_131 (by decide) ?_
      obtain ⟨e0, e1⟩ := hq0 _ _ (Option.some.inj hr).symm
      exact h_iret cx dy hlocks hret rfl e0 (by rw [e1]) dX7_fillYear_132
    · refine lv_icmp_ge (tgt := 131) cx.1 cx.2.1 dX7_fillYear_22 (by decide) (fun hn => absurd hn hc) (fun _ => ?_)
      refine lv_iload cx.1 cx.2.1 dX7_fillYear_25 (lv_at hl 4 rfl) ?_
      refine lv_iload cx.1 cx.2.1 dX7_fillYear_27 (lv_at hl 5 rfl) ?_
      refine lv_iadd cx.1 cx.2.1 dX7_fillYear_29 ?_
      refine lv_aload_n cx.1 cx.2.1 dX7_fillYear_30 rfl (lv_at hl 0 rfl) ?_
      refine h_getI cx fx dy fd_7_1 hv13 tb_211 dX7_fillYear_31 ?_
      obtain ⟨hz14, hr⟩ := of_grd hr
      refine lv_irem cx.1 cx.2.1 dX7_fillYear_34 hz14 ?_
      obtain ⟨x15, ex15, hr⟩ := of_nm hr
      refine lv_nmi ex15 ?_
      refine lv_istore (lv' := [(6, .int x15), (0, .ref (ad k6)), (1, .int x7), (2, .ref (ad k8)), (3, .int x9), (4, .int x10), (5, .int x11)]) cx.1 cx.2.1 dX7_fillYear_35 hl (by decide) rfl (fun ls hl => ?_)
      refine lv_aload_n cx.1 cx.2.1 dX7_fillYear_37 rfl (lv_at hl 1 rfl) ?_
      obtain ⟨k16, hf17, hr⟩ := of_bnd hr
      refine h_getR cx fx dy fd_7_0 hv13 tb_210 hf17 dX7_fillYear_38 ?_
      refine lv_iload cx.1 cx.2.1 dX7_fillYear_41 (lv_at hl 0 rfl) ?_
      obtain ⟨ha18, hr⟩ := of_grd hr
      obtain ⟨k19, hf20, hr⟩ := of_bnd hr
      refine h_aald (t := 5) cx fx dy (by decide) rfl ha18 hf20 dX7_fillYear_43 ?_
      refine lv_astore (lv' := [(7, .ref (ad k19)), (6, .int x15), (0, .ref (ad k6)), (1, .int x7), (2, .ref (ad k8)), (3, .int x9), (4, .int x10), (5, .int x11)]) cx.1 cx.2.1 dX7_fillYear_44 hl (by decide) rfl (fun ls hl => ?_)
      refine lv_aload cx.1 cx.2.1 dX7_fillYear_46 (lv_at hl 0 rfl) ?_
      obtain ⟨hv21, hr⟩ := of_grd hr
      refine h_getIN cx fx dy fd_2_0 hv21 tb_738 dX7_fillYear_48 ?_
      refine lv_iload_n cx.1 cx.2.1 dX7_fillYear_51 rfl (lv_at hl 3 rfl) ?_
      rcases of_brn hr with ⟨hc, hr⟩ | ⟨hc, hr⟩
      · refine lv_icmp_ne (tgt := 125) cx.1 cx.2.1 dX7_fillYear_52 (by decide) (fun hn => absurd hc hn) (fun _ => ?_)
        refine lv_aload cx.1 cx.2.1 dX7_fillYear_55 (lv_at hl 0 rfl) ?_
        refine lv_aload_n cx.1 cx.2.1 dX7_fillYear_57 rfl (lv_at hl 4 rfl) ?_
        obtain ⟨hv22, hr⟩ := of_grd hr
        obtain ⟨k23, hf24, hr⟩ := of_bnd hr
        refine h_getRN cx fx dy fd_10_0 hv22 tb_330 hf24 dX7_fillYear_58 ?_
        refine lv_iload_n cx.1 cx.2.1 dX7_fillYear_61 rfl (lv_at hl 5 rfl) ?_
        obtain ⟨x26, g25, hc27, hr⟩ := of_bnd2 hr
        refine r_i dy (k_V (As := [.ref (ad k23), .int x9]) (b := k19) (ci := 2) cx fx dy (c_X2_isDue hc27) mv_X2_isDue rfl rfl ⟨Nat.le_trans (by decide) hR.1, Nat.le_trans (by decide) hR.2⟩ tb_791 hv21 rfl (by decide) rfl hl.1 rfl (Nat.le_of_ble_eq_true rfl) ⟨Nat.zero_le _, Nat.zero_le _⟩ dX7_fillYear_62) (fun H locs dy => ?_)
        rcases of_brn hr with ⟨hc, hr⟩ | ⟨hc, hr⟩
        · refine lv_if_eq (tgt := 125) cx.1 cx.2.1 dX7_fillYear_65 (by decide) (fun _ => ?_) (fun hn => absurd hc hn)
          obtain ⟨x28, ex28, hr⟩ := of_nm hr
          refine lv_iinc (v := x28) (lv' := [(5, .int x28), (7, .ref (ad k19)), (6, .int x15), (0, .ref (ad k6)), (1, .int x7), (2, .ref (ad k8)), (3, .int x9), (4, .int x10)]) cx.1 cx.2.1 dX7_fillYear_125 hl (k := 7) rfl (by rw [ex28]; rfl) (by decide) rfl (fun ls hl => ?_)
          refine lv_goto (tgt := 16) cx.1 cx.2.1 dX7_fillYear_128 (by decide) ?_
          exact hh0 k6 x7 k8 x9 x10 x28 g25 (Option.some.inj hr).symm H locs ls dy (lv_sub hl [3, 4, 5, 6, 7, 0] rfl)
        · refine lv_if_eq (tgt := 125) cx.1 cx.2.1 dX7_fillYear_65 (by decide) (fun hn => absurd hn hc) (fun _ => ?_)
          refine lv_aload cx.1 cx.2.1 dX7_fillYear_68 (lv_at hl 0 rfl) ?_
          refine lv_iload_n cx.1 cx.2.1 dX7_fillYear_70 rfl (lv_at hl 5 rfl) ?_
          obtain ⟨u30, g29, hc31, hr⟩ := of_bnd2 hr
          refine r_v dy (k_V (As := [.int x9]) (b := k19) (ci := 2) cx fx dy (c_X2_noteYear hc31) mv_X2_noteYear rfl rfl ⟨Nat.le_trans (by decide) hR.1, Nat.le_trans (by decide) hR.2⟩ tb_796 hv21 rfl (by decide) rfl hl.1 rfl (Nat.le_of_ble_eq_true rfl) ⟨Nat.zero_le _, Nat.zero_le _⟩ dX7_fillYear_71) (fun H locs dy => ?_)
          refine lv_aload_n cx.1 cx.2.1 dX7_fillYear_74 rfl (lv_at hl 4 rfl) ?_
          refine lv_iload cx.1 cx.2.1 dX7_fillYear_75 (lv_at hl 1 rfl) ?_
          obtain ⟨g32, eg32, hr⟩ := of_nm hr
          refine h_putIN cx fx dy fd_10_3 (pd_10_3 : PD _ _ _ _ _ .int) rfl rfl rfl hv22 tb_339 dX7_fillYear_77 (fun H locs dy => ?_)
          replace dy : Dy D cA ad (V, g32) A s.heap H locs := by rw [eg32]; exact dy
          refine lv_aload cx.1 cx.2.1 dX7_fillYear_80 (lv_at hl 0 rfl) ?_
          refine lv_aload_n cx.1 cx.2.1 dX7_fillYear_82 rfl (lv_at hl 4 rfl) ?_
          obtain ⟨k33, hf34, hr⟩ := of_bnd hr
          refine h_getRN cx fx dy fd_10_0 hv22 tb_330 hf34 dX7_fillYear_83 ?_
          obtain ⟨x36, g35, hc37, hr⟩ := of_bnd2 hr
          refine r_i dy (k_V (As := [.ref (ad k33)]) (b := k19) (ci := 2) cx fx dy (c_X2_canPay hc37) mv_X2_canPay rfl rfl ⟨Nat.le_trans (by decide) hR.1, Nat.le_trans (by decide) hR.2⟩ tb_800 hv21 rfl (by decide) rfl hl.1 rfl (Nat.le_of_ble_eq_true rfl) ⟨Nat.zero_le _, Nat.zero_le _⟩ dX7_fillYear_86) (fun H locs dy => ?_)
          rcases of_brn hr with ⟨hc, hr⟩ | ⟨hc, hr⟩
          · refine lv_if_ne (tgt := 103) cx.1 cx.2.1 dX7_fillYear_89 (by decide) (fun hn => absurd hc hn) (fun _ => ?_)
            refine lv_aload_n cx.1 cx.2.1 dX7_fillYear_92 rfl (lv_at hl 2 rfl) ?_
            refine lv_iload cx.1 cx.2.1 dX7_fillYear_93 (lv_at hl 1 rfl) ?_
            refine lv_aload_n cx.1 cx.2.1 dX7_fillYear_95 rfl (lv_at hl 4 rfl) ?_
            refine lv_iload_n cx.1 cx.2.1 dX7_fillYear_96 rfl (lv_at hl 5 rfl) ?_
            obtain ⟨u39, g38, hc40, hr⟩ := of_bnd2 hr
            refine r_v dy (k_V (As := [.int x15, .ref (ad k8), .int x9]) (b := k6) (ci := 7) cx fx dy (c_X7_appoint hc40) mv_X7_appoint rfl rfl ⟨Nat.le_trans (by decide) hR.1, Nat.le_trans (by decide) hR.2⟩ tb_804 hv13 rfl (by decide) rfl hl.1 rfl (Nat.le_of_ble_eq_true rfl) ⟨Nat.zero_le _, Nat.zero_le _⟩ dX7_fillYear_97) (fun H locs dy => ?_)
            refine lv_iload cx.1 cx.2.1 dX7_fillYear_100 (lv_at hl 1 rfl) ?_
            obtain ⟨e0, e1⟩ := hq0 _ _ (Option.some.inj hr).symm
            exact h_iret cx dy hlocks hret rfl e0 (by rw [e1]) dX7_fillYear_102
          · refine lv_if_ne (tgt := 103) cx.1 cx.2.1 dX7_fillYear_89 (by decide) (fun _ => ?_) (fun hn => absurd hn hc)
            refine lv_aload cx.1 cx.2.1 dX7_fillYear_103 (lv_at hl 0 rfl) ?_
            refine lv_dup cx.1 cx.2.1 dX7_fillYear_105 rfl ?_
            refine h_getIN cx fx dy fd_2_2 hv21 tb_741 dX7_fillYear_106 ?_
            refine lv_aload_n cx.1 cx.2.1 dX7_fillYear_109 rfl (lv_at hl 4 rfl) ?_
            obtain ⟨k41, hf42, hr⟩ := of_bnd hr
            refine h_getRN cx fx dy fd_10_0 hv22 tb_330 hf42 dX7_fillYear_110 ?_
            obtain ⟨hv43, hr⟩ := of_grd hr
            refine h_getIN cx fx dy fd_4_3 hv43 tb_274 dX7_fillYear_113 ?_
            refine lv_isub cx.1 cx.2.1 dX7_fillYear_116 ?_
            obtain ⟨g44, eg44, hr⟩ := of_nm hr
            refine h_putIN cx fx dy fd_2_2 (pd_2_2 : PD _ _ _ _ _ .int) rfl rfl rfl hv21 tb_741 dX7_fillYear_117 (fun H locs dy => ?_)
            replace dy : Dy D cA ad (V, g44) A s.heap H locs := by rw [eg44]; exact dy
            refine lv_aload_n cx.1 cx.2.1 dX7_fillYear_120 rfl (lv_at hl 4 rfl) ?_
            refine lv_iload_n cx.1 cx.2.1 dX7_fillYear_121 rfl (lv_at hl 5 rfl) ?_
            obtain ⟨u46, g45, hc47, hr⟩ := of_bnd2 hr
            refine r_v dy (k_V (As := [.int x9]) (b := k8) (ci := 10) cx fx dy (c_X10_takeFine hc47) mv_X10_takeFine rfl rfl ⟨Nat.le_trans (by decide) hR.1, Nat.le_trans (by decide) hR.2⟩ tb_816 hv22 rfl (by decide) rfl hl.1 rfl (Nat.le_of_ble_eq_true rfl) ⟨Nat.zero_le _, Nat.zero_le _⟩ dX7_fillYear_122) (fun H locs dy => ?_)
            obtain ⟨x48, ex48, hr⟩ := of_nm hr
            refine lv_iinc (v := x48) (lv' := [(5, .int x48), (7, .ref (ad k19)), (6, .int x15), (0, .ref (ad k6)), (1, .int x7), (2, .ref (ad k8)), (3, .int x9), (4, .int x10)]) cx.1 cx.2.1 dX7_fillYear_125 hl (k := 7) rfl (by rw [ex48]; rfl) (by decide) rfl (fun ls hl => ?_)
            refine lv_goto (tgt := 16) cx.1 cx.2.1 dX7_fillYear_128 (by decide) ?_
            exact hh0 k6 x7 k8 x9 x10 x48 g45 (Option.some.inj hr).symm H locs ls dy (lv_sub hl [3, 4, 5, 6, 7, 0] rfl)
      · refine lv_icmp_ne (tgt := 125) cx.1 cx.2.1 dX7_fillYear_52 (by decide) (fun _ => ?_) (fun hn => absurd hn hc)
        obtain ⟨x49, ex49, hr⟩ := of_nm hr
        refine lv_iinc (v := x49) (lv' := [(5, .int x49), (7, .ref (ad k19)), (6, .int x15), (0, .ref (ad k6)), (1, .int x7), (2, .ref (ad k8)), (3, .int x9), (4, .int x10)]) cx.1 cx.2.1 dX7_fillYear_125 hl (k := 7) rfl (by rw [ex49]; rfl) (by decide) rfl (fun ls hl => ?_)
        refine lv_goto (tgt := 16) cx.1 cx.2.1 dX7_fillYear_128 (by decide) ?_
        exact hh0 k6 x7 k8 x9 x10 x49 g12 (Option.some.inj hr).symm H locs ls dy (lv_sub hl [3, 4, 5, 6, 7, 0] rfl)
noncomputable def r_X7_fillYear (V : Vk) (k0 : Nat) (a1 : Int32) (a2 : Nat) (a3 : Int32) (g : Hq) : Option (Int32 × Hq) :=
  grd (V a2 = some (10, 0)) <| bnd (r_X10_openYear V a2 a3 g) fun u2 g1 => nm ((g1.1 a2 3) + (1 : Int32)) fun x5 => (lop (r_X7_fillYear_16 V) (k0, a1, a2, a3, x5, (0 : Int32), g1))
set_option maxHeartbeats 4000000 in
set_option maxRecDepth 100000 in
theorem c_X7_fillYear {l : Launch} {D : va_G} {cA : Nat → ClassId} {sk : (Nat → Nat) × (Nat → Nat)} {ad : Nat → Nat} {A : Nat → Prop} {V : Vk} {k0 : Nat} {a1 : Int32} {a2 : Nat} {a3 : Int32} {g g0 : Hq} {r0 : Int32} (hr : r_X7_fillYear V k0 a1 a2 a3 g = some (r0, g0)) : Met l yX7_fillYear (wM yX7_fillYear cX7_fillYear 8 (some .int)) { frames := 2, cells := 0, slots := 0, locals := 47 } (Pre D cA sk ad (V, g) A [.ref (ad k0), .int a1, .ref (ad a2), .int a3]) (QI D cA ad A r0 (V, g0)) 0 0 A := by
  refine Met.ofW (cc := cX7_fillYear) (maxL := 8) (ret := (some .int)) (by decide) rfl ?_
  intro p e s m args below meth c s₁ B hml hv
  obtain ⟨rfl, fx, w0⟩ := hv
  have hts := atoms_spec (ws := wM yX7_fillYear cX7_fillYear 8 (some .int)) B.pre
  have cx : CallFix p m c cX7_fillYear 8 s ([.ref (ad k0), .int a1, .ref (ad a2), .int a3] : List Value).toArray gw_tbl RX7 := ⟨B.exec, B.bytes, hml, findClass_of_methodNamed B.named, fun w hw => hts w (List.mem_cons_of_mem _ hw)⟩
  have hlocks := B.notSynchronized
  have hret := B.returns
  have hR : 2 ≤ (headSpec (wM yX7_fillYear cX7_fillYear 8 (some .int)) { frames := 2, cells := 0, slots := 0, locals := 47 }).room.frames ∧ 47 ≤ (headSpec (wM yX7_fillYear cX7_fillYear 8 (some .int)) { frames := 2, cells := 0, slots := 0, locals := 47 }).room.locals := ⟨Nat.le_refl _, Nat.le_refl _⟩
  have dy : Dy D cA ad (V, g) A s.heap s.heap [] := ⟨w0, va_S.rf⟩
  have hl := lv_entry [.ref (ad k0), .int a1, .ref (ad a2), .int a3] (n := 8) (Nat.le_of_ble_eq_true rfl)
  rw [lg_entry_eq]
  generalize (lg_sl [.ref (ad k0), .int a1, .ref (ad a2), .int a3] ++ List.replicate (8 - (lg_sl [.ref (ad k0), .int a1, .ref (ad a2), .int a3]).length) Slot.unset).toArray = ls at hl ⊢
  have hl : lv_has ls 8 [(0, .ref (ad k0)), (1, .int a1), (2, .ref (ad a2)), (3, .int a3)] := hl
  have dy0 : ∃ H0, H0 = s.heap ∧ Dy D cA ad (V, g) A s.heap H0 [] := ⟨_, rfl, dy⟩
  obtain ⟨z, ez⟩ : ∃ z, z = (r0, g0) := ⟨_, rfl⟩
  rw [← ez] at hr
  have hq0 : ∀ (rb : Int32) (gb : Hq), z = (rb, gb) → rb = r0 ∧ gb = g0 := fun rb gb eb => by rw [ez] at eb; exact ⟨(congrArg Prod.fst eb).symm, (congrArg Prod.snd eb).symm⟩
  clear ez w0 dy0
  unfold r_X7_fillYear at hr
  obtain ⟨H, hH⟩ : ∃ H, H = s.heap := ⟨_, rfl⟩
  obtain ⟨locs, hlo⟩ : ∃ q : List Loc, q = [] := ⟨_, rfl⟩
  have dy : Dy D cA ad (V, g) A s.heap H locs := by rw [hH, hlo]; exact dy
  suffices K : W p l e (headSpec (wM yX7_fillYear cX7_fillYear 8 (some .int)) { frames := 2, cells := 0, slots := 0, locals := 47 }).room s m ([.ref (ad k0), .int a1, .ref (ad a2), .int a3] : List Value).toArray below meth c H locs 0 0 (MQ below (QI D cA ad A r0 (V, g0)) ([.ref (ad k0), .int a1, .ref (ad a2), .int a3] : List Value).toArray s 0 0 A) (F0 m 0 ls []) by rw [hH, hlo] at K; exact K
  clear hH hlo
  refine lv_aload_n cx.1 cx.2.1 dX7_fillYear_0 rfl (lv_at hl 2 rfl) ?_
  refine lv_iload_n cx.1 cx.2.1 dX7_fillYear_1 rfl (lv_at hl 3 rfl) ?_
  obtain ⟨hv3, hr⟩ := of_grd hr
  obtain ⟨u2, g1, hc4, hr⟩ := of_bnd2 hr
  refine r_v dy (k_V (As := [.int a3]) (b := a2) (ci := 10) cx fx dy (c_X10_openYear hc4) mv_X10_openYear rfl rfl ⟨Nat.le_trans (by decide) hR.1, Nat.le_trans (by decide) hR.2⟩ tb_787 hv3 rfl (by decide) rfl hl.1 rfl (Nat.le_of_ble_eq_true rfl) ⟨Nat.zero_le _, Nat.zero_le _⟩ dX7_fillYear_2) (fun H locs dy => ?_)
  refine lv_aload_n cx.1 cx.2.1 dX7_fillYear_5 rfl (lv_at hl 2 rfl) ?_
  refine h_getIN cx fx dy fd_10_3 hv3 tb_339 dX7_fillYear_6 ?_
  refine lv_iconst (v := 1) cx.1 cx.2.1 dX7_fillYear_9 (by decide) ?_
  refine lv_iadd cx.1 cx.2.1 dX7_fillYear_10 ?_
  obtain ⟨x5, ex5, hr⟩ := of_nm hr
  refine lv_nmi ex5 ?_
  refine lv_istore (lv' := [(4, .int x5), (0, .ref (ad k0)), (1, .int a1), (2, .ref (ad a2)), (3, .int a3)]) cx.1 cx.2.1 dX7_fillYear_11 hl (by decide) rfl (fun ls hl => ?_)
  refine lv_iconst (v := 0) cx.1 cx.2.1 dX7_fillYear_13 (by decide) ?_
  refine lv_istore (lv' := [(5, .int (0 : Int32)), (4, .int x5), (0, .ref (ad k0)), (1, .int a1), (2, .ref (ad a2)), (3, .int a3)]) cx.1 cx.2.1 dX7_fillYear_14 hl (by decide) rfl (fun ls hl => ?_)
  obtain ⟨n, hr⟩ := lop_some hr
  exact w_X7_fillYear_16 cx fx hlocks hret hR r0 g0 z hq0 n k0 a1 a2 a3 x5 (0 : Int32) g1 hr H locs ls dy (lv_sub hl [2, 3, 4, 5, 1, 0] rfl)
