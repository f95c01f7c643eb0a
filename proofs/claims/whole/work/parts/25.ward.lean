noncomputable def r_X10_hasPlace (V : Vk) (k0 : Nat) (g : Hq) : Option (Int32 × Hq) :=
  grd (V k0 = some (10, 0)) <| Option.bind (g.2.2 k0 0) fun k2 => grd (V k2 = some (4, 0)) <| brn ((g.1 k2 7) ≤ (g.1 k0 2)) (some ((0 : Int32), g)) (some ((1 : Int32), g))
set_option maxHeartbeats 4000000 in
set_option maxRecDepth 100000 in
theorem c_X10_hasPlace {l : Launch} {D : va_G} {cA : Nat → ClassId} {sk : (Nat → Nat) × (Nat → Nat)} {ad : Nat → Nat} {A : Nat → Prop} {V : Vk} {k0 : Nat} {g g0 : Hq} {r0 : Int32} (hr : r_X10_hasPlace V k0 g = some (r0, g0)) : Met l yX10_hasPlace (wM yX10_hasPlace cX10_hasPlace 1 (some .boolean)) { frames := 0, cells := 0, slots := 0, locals := 0 } (Pre D cA sk ad (V, g) A [.ref (ad k0)]) (QI D cA ad A r0 (V, g0)) 0 0 A := by
  refine Met.ofW (cc := cX10_hasPlace) (maxL := 1) (ret := (some .boolean)) (by decide) rfl ?_
  intro p e s m args below meth c s₁ B hml hv
  obtain ⟨rfl, fx, w0⟩ := hv
  have hts := atoms_spec (ws := wM yX10_hasPlace cX10_hasPlace 1 (some .boolean)) B.pre
  have cx : CallFix p m c cX10_hasPlace 1 s ([.ref (ad k0)] : List Value).toArray gw_tbl RX10 := ⟨B.exec, B.bytes, hml, findClass_of_methodNamed B.named, fun w hw => hts w (List.mem_cons_of_mem _ hw)⟩
  have hlocks := B.notSynchronized
  have hret := B.returns
  have hR : 0 ≤ (headSpec (wM yX10_hasPlace cX10_hasPlace 1 (some .boolean)) { frames := 0, cells := 0, slots := 0, locals := 0 }).room.frames ∧ 0 ≤ (headSpec (wM yX10_hasPlace cX10_hasPlace 1 (some .boolean)) { frames := 0, cells := 0, slots := 0, locals := 0 }).room.locals := ⟨Nat.le_refl _, Nat.le_refl _⟩
  have dy : Dy D cA ad (V, g) A s.heap s.heap [] := ⟨w0, va_S.rf⟩
  have hl := lv_entry [.ref (ad k0)] (n := 1) (Nat.le_of_ble_eq_true rfl)
  rw [lg_entry_eq]
  generalize (lg_sl [.ref (ad k0)] ++ List.replicate (1 - (lg_sl [.ref (ad k0)]).length) Slot.unset).toArray = ls at hl ⊢
  have hl : lv_has ls 1 [(0, .ref (ad k0))] := hl
  have dy0 : ∃ H0, H0 = s.heap ∧ Dy D cA ad (V, g) A s.heap H0 [] := ⟨_, rfl, dy⟩
  obtain ⟨z, ez⟩ : ∃ z, z = (r0, g0) := ⟨_, rfl⟩
  rw [← ez] at hr
  have hq0 : ∀ (rb : Int32) (gb : Hq), z = (rb, gb) → rb = r0 ∧ gb = g0 := fun rb gb eb => by rw [ez] at eb; exact ⟨(congrArg Prod.fst eb).symm, (congrArg Prod.snd eb).symm⟩
  clear ez w0 dy0
  unfold r_X10_hasPlace at hr
  obtain ⟨H, hH⟩ : ∃ H, H = s.heap := ⟨_, rfl⟩
  obtain ⟨locs, hlo⟩ : ∃ q : List Loc, q = [] := ⟨_, rfl⟩
  have dy : Dy D cA ad (V, g) A s.heap H locs := by rw [hH, hlo]; exact dy
  suffices K : W p l e (headSpec (wM yX10_hasPlace cX10_hasPlace 1 (some .boolean)) { frames := 0, cells := 0, slots := 0, locals := 0 }).room s m ([.ref (ad k0)] : List Value).toArray below meth c H locs 0 0 (MQ below (QI D cA ad A r0 (V, g0)) ([.ref (ad k0)] : List Value).toArray s 0 0 A) (F0 m 0 ls []) by rw [hH, hlo] at K; exact K
  clear hH hlo
  refine lv_aload_n cx.1 cx.2.1 dX10_hasPlace_0 rfl (lv_at hl 0 rfl) ?_
  obtain ⟨hv1, hr⟩ := of_grd hr
  refine h_getI cx fx dy fd_10_2 hv1 tb_335 dX10_hasPlace_1 ?_
  refine lv_aload_n cx.1 cx.2.1 dX10_hasPlace_4 rfl (lv_at hl 0 rfl) ?_
  obtain ⟨k2, hf3, hr⟩ := of_bnd hr
  refine h_getR cx fx dy fd_10_0 hv1 tb_327 hf3 dX10_hasPlace_5 ?_
  obtain ⟨hv4, hr⟩ := of_grd hr
  refine h_getIN cx fx dy fd_4_7 hv4 tb_284 dX10_hasPlace_8 ?_
  rcases of_brn hr with ⟨hc, hr⟩ | ⟨hc, hr⟩
  · refine lv_icmp_ge (tgt := 18) cx.1 cx.2.1 dX10_hasPlace_11 (by decide) (fun _ => ?_) (fun hn => absurd hc hn)
    refine lv_iconst (v := 0) cx.1 cx.2.1 dX10_hasPlace_18 (by decide) ?_
    obtain ⟨e0, e1⟩ := hq0 _ _ (Option.some.inj hr).symm
    exact h_iret cx dy hlocks hret rfl e0 (by rw [e1]) dX10_hasPlace_19
  · refine lv_icmp_ge (tgt := 18) cx.1 cx.2.1 dX10_hasPlace_11 (by decide) (fun hn => absurd hn hc) (fun _ => ?_)
    refine lv_iconst (v := 1) cx.1 cx.2.1 dX10_hasPlace_14 (by decide) ?_
    refine lv_goto (tgt := 19) cx.1 cx.2.1 dX10_hasPlace_15 (by decide) ?_
    obtain ⟨e0, e1⟩ := hq0 _ _ (Option.some.inj hr).symm
    exact h_iret cx dy hlocks hret rfl e0 (by rw [e1]) dX10_hasPlace_19
noncomputable def r_X10_nextYear (V : Vk) (k0 : Nat) (a1 : Int32) (g : Hq) : Option (Int32 × Hq) :=
  grd (V k0 = some (10, 0)) <| brn ((g.1 k0 5) = (-1 : Int32)) (bnd (r_X11_isFrom V a1 (1600 : Int32) (1799 : Int32) g) fun x3 g2 => brn (x3 = 0) (some ((-1 : Int32), g2)) (some (a1, g2))) (nm ((g.1 k0 5) + (1 : Int32)) fun x5 => brn ((1799 : Int32) < x5) (some ((-1 : Int32), g)) (brn (a1 = (-1 : Int32)) (some (x5, g)) (brn (a1 = x5) (some (x5, g)) (some ((-1 : Int32), g)))))
set_option maxHeartbeats 4000000 in
set_option maxRecDepth 100000 in
theorem c_X10_nextYear {l : Launch} {D : va_G} {cA : Nat → ClassId} {sk : (Nat → Nat) × (Nat → Nat)} {ad : Nat → Nat} {A : Nat → Prop} {V : Vk} {k0 : Nat} {a1 : Int32} {g g0 : Hq} {r0 : Int32} (hr : r_X10_nextYear V k0 a1 g = some (r0, g0)) : Met l yX10_nextYear (wM yX10_nextYear cX10_nextYear 3 (some .int)) { frames := 1, cells := 0, slots := 0, locals := 22 } (Pre D cA sk ad (V, g) A [.ref (ad k0), .int a1]) (QI D cA ad A r0 (V, g0)) 0 0 A := by
  refine Met.ofW (cc := cX10_nextYear) (maxL := 3) (ret := (some .int)) (by decide) rfl ?_
  intro p e s m args below meth c s₁ B hml hv
  obtain ⟨rfl, fx, w0⟩ := hv
  have hts := atoms_spec (ws := wM yX10_nextYear cX10_nextYear 3 (some .int)) B.pre
  have cx : CallFix p m c cX10_nextYear 3 s ([.ref (ad k0), .int a1] : List Value).toArray gw_tbl RX10 := ⟨B.exec, B.bytes, hml, findClass_of_methodNamed B.named, fun w hw => hts w (List.mem_cons_of_mem _ hw)⟩
  have hlocks := B.notSynchronized
  have hret := B.returns
  have hR : 1 ≤ (headSpec (wM yX10_nextYear cX10_nextYear 3 (some .int)) { frames := 1, cells := 0, slots := 0, locals := 22 }).room.frames ∧ 22 ≤ (headSpec (wM yX10_nextYear cX10_nextYear 3 (some .int)) { frames := 1, cells := 0, slots := 0, locals := 22 }).room.locals := ⟨Nat.le_refl _, Nat.le_refl _⟩
  have dy : Dy D cA ad (V, g) A s.heap s.heap [] := ⟨w0, va_S.rf⟩
  have hl := lv_entry [.ref (ad k0), .int a1] (n := 3) (Nat.le_of_ble_eq_true rfl)
  rw [lg_entry_eq]
  generalize (lg_sl [.ref (ad k0), .int a1] ++ List.replicate (3 - (lg_sl [.ref (ad k0), .int a1]).length) Slot.unset).toArray = ls at hl ⊢
  have hl : lv_has ls 3 [(0, .ref (ad k0)), (1, .int a1)] := hl
  have dy0 : ∃ H0, H0 = s.heap ∧ Dy D cA ad (V, g) A s.heap H0 [] := ⟨_, rfl, dy⟩
  obtain ⟨z, ez⟩ : ∃ z, z = (r0, g0) := ⟨_, rfl⟩
  rw [← ez] at hr
  have hq0 : ∀ (rb : Int32) (gb : Hq), z = (rb, gb) → rb = r0 ∧ gb = g0 := fun rb gb eb => by rw [ez] at eb; exact ⟨(congrArg Prod.fst eb).symm, (congrArg Prod.snd eb).symm⟩
  clear ez w0 dy0
  unfold r_X10_nextYear at hr
  obtain ⟨H, hH⟩ : ∃ H, H = s.heap := ⟨_, rfl⟩
  obtain ⟨locs, hlo⟩ : ∃ q : List Loc, q = [] := ⟨_, rfl⟩
  have dy : Dy D cA ad (V, g) A s.heap H locs := by rw [hH, hlo]; exact dy
  suffices K : W p l e (headSpec (wM yX10_nextYear cX10_nextYear 3 (some .int)) { frames := 1, cells := 0, slots := 0, locals := 22 }).room s m ([.ref (ad k0), .int a1] : List Value).toArray below meth c H locs 0 0 (MQ below (QI D cA ad A r0 (V, g0)) ([.ref (ad k0), .int a1] : List Value).toArray s 0 0 A) (F0 m 0 ls []) by rw [hH, hlo] at K; exact K
  clear hH hlo
  refine lv_aload_n cx.1 cx.2.1 dX10_nextYear_0 rfl (lv_at hl 0 rfl) ?_
  obtain ⟨hv1, hr⟩ := of_grd hr
  refine h_getI cx fx dy fd_10_5 hv1 tb_341 dX10_nextYear_1 ?_
  refine lv_iconst (v := (-1)) cx.1 cx.2.1 dX10_nextYear_4 (by decide) ?_
  rcases of_brn hr with ⟨hc, hr⟩ | ⟨hc, hr⟩
  · refine lv_icmp_ne (tgt := 27) cx.1 cx.2.1 dX10_nextYear_5 (by decide) (fun hn => absurd hc hn) (fun _ => ?_)
    refine lv_iload_n cx.1 cx.2.1 dX10_nextYear_8 rfl (lv_at hl 1 rfl) ?_
    refine lv_sipush (v := 1600) cx.1 cx.2.1 dX10_nextYear_9 (by decide) ?_
    refine lv_sipush (v := 1799) cx.1 cx.2.1 dX10_nextYear_12 (by decide) ?_
    obtain ⟨x3, g2, hc4, hr⟩ := of_bnd2 hr
    refine r_i dy (k_SN (As := [.int a1, .int (1600 : Int32), .int (1799 : Int32)]) cx fx dy (c_X11_isFrom hc4) mv_X11_isFrom rfl rfl ⟨Nat.le_trans (by decide) hR.1, Nat.le_trans (by decide) hR.2⟩ tb_782 rfl hl.1 rfl (Nat.le_of_ble_eq_true rfl) ⟨Nat.zero_le _, Nat.zero_le _⟩ dX10_nextYear_15) (fun H locs dy => ?_)
    rcases of_brn hr with ⟨hc, hr⟩ | ⟨hc, hr⟩
    · refine lv_if_eq (tgt := 25) cx.1 cx.2.1 dX10_nextYear_18 (by decide) (fun _ => ?_) (fun hn => absurd hc hn)
      refine lv_iconst (v := (-1)) cx.1 cx.2.1 dX10_nextYear_25 (by decide) ?_
      obtain ⟨e0, e1⟩ := hq0 _ _ (Option.some.inj hr).symm
      exact h_iret cx dy hlocks hret rfl e0 (by rw [e1]) dX10_nextYear_26
    · refine lv_if_eq (tgt := 25) cx.1 cx.2.1 dX10_nextYear_18 (by decide) (fun hn => absurd hn hc) (fun _ => ?_)
      refine lv_iload_n cx.1 cx.2.1 dX10_nextYear_21 rfl (lv_at hl 1 rfl) ?_
      refine lv_goto (tgt := 26) cx.1 cx.2.1 dX10_nextYear_22 (by decide) ?_
      obtain ⟨e0, e1⟩ := hq0 _ _ (Option.some.inj hr).symm
      exact h_iret cx dy hlocks hret rfl e0 (by rw [e1]) dX10_nextYear_26
  · refine lv_icmp_ne (tgt := 27) cx.1 cx.2.1 dX10_nextYear_5 (by decide) (fun _ => ?_) (fun hn => absurd hn hc)
    refine lv_aload_n cx.1 cx.2.1 dX10_nextYear_27 rfl (lv_at hl 0 rfl) ?_
    refine h_getI cx fx dy fd_10_5 hv1 tb_341 dX10_nextYear_28 ?_
    refine lv_iconst (v := 1) cx.1 cx.2.1 dX10_nextYear_31 (by decide) ?_
    refine lv_iadd cx.1 cx.2.1 dX10_nextYear_32 ?_
    obtain ⟨x5, ex5, hr⟩ := of_nm hr
    refine lv_nmi ex5 ?_
    refine lv_istore_n (lv' := [(2, .int x5), (0, .ref (ad k0)), (1, .int a1)]) cx.1 cx.2.1 dX10_nextYear_33 rfl hl (by decide) rfl (fun ls hl => ?_)
    refine lv_iload_n cx.1 cx.2.1 dX10_nextYear_34 rfl (lv_at hl 0 rfl) ?_
    refine lv_sipush (v := 1799) cx.1 cx.2.1 dX10_nextYear_35 (by decide) ?_
    rcases of_brn hr with ⟨hc, hr⟩ | ⟨hc, hr⟩
    · refine lv_icmp_gt (tgt := 55) cx.1 cx.2.1 dX10_nextYear_38 (by decide) (fun _ => ?_) (fun hn => absurd hc hn)
      refine lv_iconst (v := (-1)) cx.1 cx.2.1 dX10_nextYear_55 (by decide) ?_
      obtain ⟨e0, e1⟩ := hq0 _ _ (Option.some.inj hr).symm
      exact h_iret cx dy hlocks hret rfl e0 (by rw [e1]) dX10_nextYear_56
    · refine lv_icmp_gt (tgt := 55) cx.1 cx.2.1 dX10_nextYear_38 (by decide) (fun hn => absurd hn hc) (fun _ => ?_)
      refine lv_iload_n cx.1 cx.2.1 dX10_nextYear_41 rfl (lv_at hl 2 rfl) ?_
      refine lv_iconst (v := (-1)) cx.1 cx.2.1 dX10_nextYear_42 (by decide) ?_
      rcases of_brn hr with ⟨hc, hr⟩ | ⟨hc, hr⟩
      · refine lv_icmp_eq (tgt := 51) cx.1 cx.2.1 dX10_nextYear_43 (by decide) (fun _ => ?_) (fun hn => absurd hc hn)
        refine lv_iload_n cx.1 cx.2.1 dX10_nextYear_51 rfl (lv_at hl 0 rfl) ?_
        refine lv_goto (tgt := 56) cx.1 cx.2.1 dX10_nextYear_52 (by decide) ?_
        obtain ⟨e0, e1⟩ := hq0 _ _ (Option.some.inj hr).symm
        exact h_iret cx dy hlocks hret rfl e0 (by rw [e1]) dX10_nextYear_56
      · refine lv_icmp_eq (tgt := 51) cx.1 cx.2.1 dX10_nextYear_43 (by decide) (fun hn => absurd hn hc) (fun _ => ?_)
        refine lv_iload_n cx.1 cx.2.1 dX10_nextYear_46 rfl (lv_at hl 2 rfl) ?_
        refine lv_iload_n cx.1 cx.2.1 dX10_nextYear_47 rfl (lv_at hl 0 rfl) ?_
        rcases of_brn hr with ⟨hc, hr⟩ | ⟨hc, hr⟩
        · refine lv_icmp_ne (tgt := 55) cx.1 cx.2.1 dX10_nextYear_48 (by decide) (fun hn => absurd hc hn) (fun _ => ?_)
          refine lv_iload_n cx.1 cx.2.1 dX10_nextYear_51 rfl (lv_at hl 0 rfl) ?_
          refine lv_goto (tgt := 56) cx.1 cx.2.1 dX10_nextYear_52 (by decide) ?_
          obtain ⟨e0, e1⟩ := hq0 _ _ (Option.some.inj hr).symm
          exact h_iret cx dy hlocks hret rfl e0 (by rw [e1]) dX10_nextYear_56
        · refine lv_icmp_ne (tgt := 55) cx.1 cx.2.1 dX10_nextYear_48 (by decide) (fun _ => ?_) (fun hn => absurd hn hc)
          refine lv_iconst (v := (-1)) cx.1 cx.2.1 dX10_nextYear_55 (by decide) ?_
          obtain ⟨e0, e1⟩ := hq0 _ _ (Option.some.inj hr).symm
          exact h_iret cx dy hlocks hret rfl e0 (by rw [e1]) dX10_nextYear_56
noncomputable def r_X10_openYear (V : Vk) (k0 : Nat) (a1 : Int32) (g : Hq) : Option (Unit × Hq) :=
  grd (V k0 = some (10, 0)) <| brn ((g.1 k0 5) = (-1 : Int32)) (nm (sI g k0 4 a1) fun g2 => nm (sI g2 k0 5 a1) fun g3 => Option.bind (g3.2.2 k0 6) fun k4 => grd (okV V k4 0 (a1 - (1600 : Int32))) <| nm (sI g3 k4 (a1 - (1600 : Int32)).toNatClampNeg (-1 : Int32)) fun g7 => some ((), g7)) (nm (sI g k0 5 a1) fun g8 => Option.bind (g8.2.2 k0 6) fun k9 => grd (okV V k9 0 (a1 - (1600 : Int32))) <| nm (sI g8 k9 (a1 - (1600 : Int32)).toNatClampNeg (-1 : Int32)) fun g12 => some ((), g12))
set_option maxHeartbeats 4000000 in
set_option maxRecDepth 100000 in
theorem c_X10_openYear {l : Launch} {D : va_G} {cA : Nat → ClassId} {sk : (Nat → Nat) × (Nat → Nat)} {ad : Nat → Nat} {A : Nat → Prop} {V : Vk} {k0 : Nat} {a1 : Int32} {g g0 : Hq} (hr : r_X10_openYear V k0 a1 g = some ((), g0)) : Met l yX10_openYear (wM yX10_openYear cX10_openYear 2 none) { frames := 0, cells := 0, slots := 0, locals := 0 } (Pre D cA sk ad (V, g) A [.ref (ad k0), .int a1]) (QV D cA ad A (V, g0)) 0 0 A := by
  refine Met.ofW (cc := cX10_openYear) (maxL := 2) (ret := none) (by decide) rfl ?_
  intro p e s m args below meth c s₁ B hml hv
  obtain ⟨rfl, fx, w0⟩ := hv
  have hts := atoms_spec (ws := wM yX10_openYear cX10_openYear 2 none) B.pre
  have cx : CallFix p m c cX10_openYear 2 s ([.ref (ad k0), .int a1] : List Value).toArray gw_tbl RX10 := ⟨B.exec, B.bytes, hml, findClass_of_methodNamed B.named, fun w hw => hts w (List.mem_cons_of_mem _ hw)⟩
  have hlocks := B.notSynchronized
  have hret := B.returns
  have hR : 0 ≤ (headSpec (wM yX10_openYear cX10_openYear 2 none) { frames := 0, cells := 0, slots := 0, locals := 0 }).room.frames ∧ 0 ≤ (headSpec (wM yX10_openYear cX10_openYear 2 none) { frames := 0, cells := 0, slots := 0, locals := 0 }).room.locals := ⟨Nat.le_refl _, Nat.le_refl _⟩
  have dy : Dy D cA ad (V, g) A s.heap s.heap [] := ⟨w0, va_S.rf⟩
  have hl := lv_entry [.ref (ad k0), .int a1] (n := 2) (Nat.le_of_ble_eq_true rfl)
  rw [lg_entry_eq]
  generalize (lg_sl [.ref (ad k0), .int a1] ++ List.replicate (2 - (lg_sl [.ref (ad k0), .int a1]).length) Slot.unset).toArray = ls at hl ⊢
  have hl : lv_has ls 2 [(0, .ref (ad k0)), (1, .int a1)] := hl
  have dy0 : ∃ H0, H0 = s.heap ∧ Dy D cA ad (V, g) A s.heap H0 [] := ⟨_, rfl, dy⟩
  obtain ⟨z, ez⟩ : ∃ z, z = (((), g0) : Unit × Hq) := ⟨_, rfl⟩
  rw [← ez] at hr
  have hq0 : ∀ (rb : Unit) (gb : Hq), z = (rb, gb) → gb = g0 := fun rb gb eb => by rw [ez] at eb; exact (congrArg Prod.snd eb).symm
  clear ez w0 dy0
  unfold r_X10_openYear at hr
  obtain ⟨H, hH⟩ : ∃ H, H = s.heap := ⟨_, rfl⟩
  obtain ⟨locs, hlo⟩ : ∃ q : List Loc, q = [] := ⟨_, rfl⟩
  have dy : Dy D cA ad (V, g) A s.heap H locs := by rw [hH, hlo]; exact dy
  suffices K : W p l e (headSpec (wM yX10_openYear cX10_openYear 2 none) { frames := 0, cells := 0, slots := 0, locals := 0 }).room s m ([.ref (ad k0), .int a1] : List Value).toArray below meth c H locs 0 0 (MQ below (QV D cA ad A (V, g0)) ([.ref (ad k0), .int a1] : List Value).toArray s 0 0 A) (F0 m 0 ls []) by rw [hH, hlo] at K; exact K
  clear hH hlo
  refine lv_aload_n cx.1 cx.2.1 dX10_openYear_0 rfl (lv_at hl 0 rfl) ?_
  obtain ⟨hv1, hr⟩ := of_grd hr
  refine h_getI cx fx dy fd_10_5 hv1 tb_341 dX10_openYear_1 ?_
  refine lv_iconst (v := (-1)) cx.1 cx.2.1 dX10_openYear_4 (by decide) ?_
  rcases of_brn hr with ⟨hc, hr⟩ | ⟨hc, hr⟩
  · refine lv_icmp_ne (tgt := 13) cx.1 cx.2.1 dX10_openYear_5 (by decide) (fun hn => absurd hc hn) (fun _ => ?_)
    refine lv_aload_n cx.1 cx.2.1 dX10_openYear_8 rfl (lv_at hl 0 rfl) ?_
    refine lv_iload_n cx.1 cx.2.1 dX10_openYear_9 rfl (lv_at hl 1 rfl) ?_
    obtain ⟨g2, eg2, hr⟩ := of_nm hr
    refine h_putI cx fx dy fd_10_4 (pd_10_4 : PD _ _ _ _ _ .int) rfl rfl rfl hv1 tb_340 dX10_openYear_10 (fun H locs dy => ?_)
    replace dy : Dy D cA ad (V, g2) A s.heap H locs := by rw [eg2]; exact dy
    refine lv_aload_n cx.1 cx.2.1 dX10_openYear_13 rfl (lv_at hl 0 rfl) ?_
    refine lv_iload_n cx.1 cx.2.1 dX10_openYear_14 rfl (lv_at hl 1 rfl) ?_
    obtain ⟨g3, eg3, hr⟩ := of_nm hr
    refine h_putI cx fx dy fd_10_5 (pd_10_5 : PD _ _ _ _ _ .int) rfl rfl rfl hv1 tb_341 dX10_openYear_15 (fun H locs dy => ?_)
    replace dy : Dy D cA ad (V, g3) A s.heap H locs := by rw [eg3]; exact dy
    refine lv_aload_n cx.1 cx.2.1 dX10_openYear_18 rfl (lv_at hl 0 rfl) ?_
    obtain ⟨k4, hf5, hr⟩ := of_bnd hr
    refine h_getR cx fx dy fd_10_6 hv1 tb_343 hf5 dX10_openYear_19 ?_
    refine lv_iload_n cx.1 cx.2.1 dX10_openYear_22 rfl (lv_at hl 1 rfl) ?_
    refine lv_sipush (v := 1600) cx.1 cx.2.1 dX10_openYear_23 (by decide) ?_
    refine lv_isub cx.1 cx.2.1 dX10_openYear_26 ?_
    refine lv_iconst (v := (-1)) cx.1 cx.2.1 dX10_openYear_27 (by decide) ?_
    obtain ⟨ha6, hr⟩ := of_grd hr
    obtain ⟨g7, eg7, hr⟩ := of_nm hr
    refine h_iast cx fx dy ha6 dX10_openYear_28 (fun H locs dy => ?_)
    replace dy : Dy D cA ad (V, g7) A s.heap H locs := by rw [eg7]; exact dy
    have e1 := hq0 _ _ (Option.some.inj hr).symm
    exact h_vret cx dy hlocks hret (by rw [e1]) dX10_openYear_29
  · refine lv_icmp_ne (tgt := 13) cx.1 cx.2.1 dX10_openYear_5 (by decide) (fun _ => ?_) (fun hn => absurd hn hc)
    refine lv_aload_n cx.1 cx.2.1 dX10_openYear_13 rfl (lv_at hl 0 rfl) ?_
    refine lv_iload_n cx.1 cx.2.1 dX10_openYear_14 rfl (lv_at hl 1 rfl) ?_
    obtain ⟨g8, eg8, hr⟩ := of_nm hr
    refine h_putI cx fx dy fd_10_5 (pd_10_5 : PD _ _ _ _ _ .int) rfl rfl rfl hv1 tb_341 dX10_openYear_15 (fun H locs dy => ?_)
    replace dy : Dy D cA ad (V, g8) A s.heap H locs := by rw [eg8]; exact dy
    refine lv_aload_n cx.1 cx.2.1 dX10_openYear_18 rfl (lv_at hl 0 rfl) ?_
    obtain ⟨k9, hf10, hr⟩ := of_bnd hr
    refine h_getR cx fx dy fd_10_6 hv1 tb_343 hf10 dX10_openYear_19 ?_
    refine lv_iload_n cx.1 cx.2.1 dX10_openYear_22 rfl (lv_at hl 1 rfl) ?_
    refine lv_sipush (v := 1600) cx.1 cx.2.1 dX10_openYear_23 (by decide) ?_
    refine lv_isub cx.1 cx.2.1 dX10_openYear_26 ?_
    refine lv_iconst (v := (-1)) cx.1 cx.2.1 dX10_openYear_27 (by decide) ?_
    obtain ⟨ha11, hr⟩ := of_grd hr
    obtain ⟨g12, eg12, hr⟩ := of_nm hr
    refine h_iast cx fx dy ha11 dX10_openYear_28 (fun H locs dy => ?_)
    replace dy : Dy D cA ad (V, g12) A s.heap H locs := by rw [eg12]; exact dy
    have e1 := hq0 _ _ (Option.some.inj hr).symm
    exact h_vret cx dy hlocks hret (by rw [e1]) dX10_openYear_29
noncomputable def r_X10_takeFine (V : Vk) (k0 : Nat) (a1 : Int32) (g : Hq) : Option (Unit × Hq) :=
  grd (V k0 = some (10, 0)) <| Option.bind (g.2.2 k0 0) fun k2 => grd (V k2 = some (4, 0)) <| nm (sI g k0 1 ((g.1 k0 1) + (g.1 k2 3))) fun g5 => Option.bind (g5.2.2 k0 8) fun k6 => nm (a1 - (1600 : Int32)) fun x8 => grd (okV V k6 0 x8) <| grd (okV V k6 0 x8) <| nm (sI g5 k6 x8.toNatClampNeg ((g5.1 k6 x8.toNatClampNeg) + (1 : Int32))) fun g11 => some ((), g11)
set_option maxHeartbeats 4000000 in
set_option maxRecDepth 100000 in
theorem c_X10_takeFine {l : Launch} {D : va_G} {cA : Nat → ClassId} {sk : (Nat → Nat) × (Nat → Nat)} {ad : Nat → Nat} {A : Nat → Prop} {V : Vk} {k0 : Nat} {a1 : Int32} {g g0 : Hq} (hr : r_X10_takeFine V k0 a1 g = some ((), g0)) : Met l yX10_takeFine (wM yX10_takeFine cX10_takeFine 2 none) { frames := 0, cells := 0, slots := 0, locals := 0 } (Pre D cA sk ad (V, g) A [.ref (ad k0), .int a1]) (QV D cA ad A (V, g0)) 0 0 A := by
  refine Met.ofW (cc := cX10_takeFine) (maxL := 2) (ret := none) (by decide) rfl ?_
  intro p e s m args below meth c s₁ B hml hv
  obtain ⟨rfl, fx, w0⟩ := hv
  have hts := atoms_spec (ws := wM yX10_takeFine cX10_takeFine 2 none) B.pre
  have cx : CallFix p m c cX10_takeFine 2 s ([.ref (ad k0), .int a1] : List Value).toArray gw_tbl RX10 := ⟨B.exec, B.bytes, hml, findClass_of_methodNamed B.named, fun w hw => hts w (List.mem_cons_of_mem _ hw)⟩
  have hlocks := B.notSynchronized
  have hret := B.returns
  have hR : 0 ≤ (headSpec (wM yX10_takeFine cX10_takeFine 2 none) { frames := 0, cells := 0, slots := 0, locals := 0 }).room.frames ∧ 0 ≤ (headSpec (wM yX10_takeFine cX10_takeFine 2 none) { frames := 0, cells := 0, slots := 0, locals := 0 }).room.locals := ⟨Nat.le_refl _, Nat.le_refl _⟩
  have dy : Dy D cA ad (V, g) A s.heap s.heap [] := ⟨w0, va_S.rf⟩
  have hl := lv_entry [.ref (ad k0), .int a1] (n := 2) (Nat.le_of_ble_eq_true rfl)
  rw [lg_entry_eq]
  generalize (lg_sl [.ref (ad k0), .int a1] ++ List.replicate (2 - (lg_sl [.ref (ad k0), .int a1]).length) Slot.unset).toArray = ls at hl ⊢
  have hl : lv_has ls 2 [(0, .ref (ad k0)), (1, .int a1)] := hl
  have dy0 : ∃ H0, H0 = s.heap ∧ Dy D cA ad (V, g) A s.heap H0 [] := ⟨_, rfl, dy⟩
  obtain ⟨z, ez⟩ : ∃ z, z = (((), g0) : Unit × Hq) := ⟨_, rfl⟩
  rw [← ez] at hr
  have hq0 : ∀ (rb : Unit) (gb : Hq), z = (rb, gb) → gb = g0 := fun rb gb eb => by rw [ez] at eb; exact (congrArg Prod.snd eb).symm
  clear ez w0 dy0
  unfold r_X10_takeFine at hr
  obtain ⟨H, hH⟩ : ∃ H, H = s.heap := ⟨_, rfl⟩
  obtain ⟨locs, hlo⟩ : ∃ q : List Loc, q = [] := ⟨_, rfl⟩
  have dy : Dy D cA ad (V, g) A s.heap H locs := by rw [hH, hlo]; exact dy
  suffices K : W p l e (headSpec (wM yX10_takeFine cX10_takeFine 2 none) { frames := 0, cells := 0, slots := 0, locals := 0 }).room s m ([.ref (ad k0), .int a1] : List Value).toArray below meth c H locs 0 0 (MQ below (QV D cA ad A (V, g0)) ([.ref (ad k0), .int a1] : List Value).toArray s 0 0 A) (F0 m 0 ls []) by rw [hH, hlo] at K; exact K
  clear hH hlo
  refine lv_aload_n cx.1 cx.2.1 dX10_takeFine_0 rfl (lv_at hl 0 rfl) ?_
  refine lv_dup cx.1 cx.2.1 dX10_takeFine_1 rfl ?_
  obtain ⟨hv1, hr⟩ := of_grd hr
  refine h_getI cx fx dy fd_10_1 hv1 tb_332 dX10_takeFine_2 ?_
  refine lv_aload_n cx.1 cx.2.1 dX10_takeFine_5 rfl (lv_at hl 0 rfl) ?_
  obtain ⟨k2, hf3, hr⟩ := of_bnd hr
  refine h_getR cx fx dy fd_10_0 hv1 tb_327 hf3 dX10_takeFine_6 ?_
  obtain ⟨hv4, hr⟩ := of_grd hr
  refine h_getIN cx fx dy fd_4_3 hv4 tb_272 dX10_takeFine_9 ?_
  refine lv_iadd cx.1 cx.2.1 dX10_takeFine_12 ?_
  obtain ⟨g5, eg5, hr⟩ := of_nm hr
  refine h_putI cx fx dy fd_10_1 (pd_10_1 : PD _ _ _ _ _ .int) rfl rfl rfl hv1 tb_332 dX10_takeFine_13 (fun H locs dy => ?_)
  replace dy : Dy D cA ad (V, g5) A s.heap H locs := by rw [eg5]; exact dy
  refine lv_aload_n cx.1 cx.2.1 dX10_takeFine_16 rfl (lv_at hl 0 rfl) ?_
  obtain ⟨k6, hf7, hr⟩ := of_bnd hr
  refine h_getR cx fx dy fd_10_8 hv1 tb_345 hf7 dX10_takeFine_17 ?_
  refine lv_iload_n cx.1 cx.2.1 dX10_takeFine_20 rfl (lv_at hl 1 rfl) ?_
  refine lv_sipush (v := 1600) cx.1 cx.2.1 dX10_takeFine_21 (by decide) ?_
  refine lv_isub cx.1 cx.2.1 dX10_takeFine_24 ?_
  obtain ⟨x8, ex8, hr⟩ := of_nm hr
  refine lv_nmi ex8 ?_
  refine lv_dup2_11 cx.1 cx.2.1 dX10_takeFine_25 rfl rfl ?_
  obtain ⟨ha9, hr⟩ := of_grd hr
  refine h_iald cx fx dy ha9 dX10_takeFine_26 ?_
  refine lv_iconst (v := 1) cx.1 cx.2.1 dX10_takeFine_27 (by decide) ?_
  refine lv_iadd cx.1 cx.2.1 dX10_takeFine_28 ?_
  obtain ⟨ha10, hr⟩ := of_grd hr
  obtain ⟨g11, eg11, hr⟩ := of_nm hr
  refine h_iast cx fx dy ha10 dX10_takeFine_29 (fun H locs dy => ?_)
  replace dy : Dy D cA ad (V, g11) A s.heap H locs := by rw [eg11]; exact dy
  have e1 := hq0 _ _ (Option.some.inj hr).symm
  exact h_vret cx dy hlocks hret (by rw [e1]) dX10_takeFine_30
noncomputable def r_X10_appoint (V : Vk) (k0 : Nat) (a1 : Int32) (a2 : Int32) (a3 : Int32) (g : Hq) : Option (Unit × Hq) :=
  grd (V k0 = some (10, 0)) <| Option.bind (g.2.2 k0 6) fun k2 => grd (okV V k2 0 (a1 - (1600 : Int32))) <| nm (sI g k2 (a1 - (1600 : Int32)).toNatClampNeg a2) fun g5 => Option.bind (g5.2.2 k0 7) fun k6 => grd (okV V k6 2 (a1 - (1600 : Int32))) <| nm (sI g5 k6 (a1 - (1600 : Int32)).toNatClampNeg (vp_nar .boolean a3)) fun g9 => some ((), g9)
set_option maxHeartbeats 4000000 in
set_option maxRecDepth 100000 in
theorem c_X10_appoint {l : Launch} {D : va_G} {cA : Nat → ClassId} {sk : (Nat → Nat) × (Nat → Nat)} {ad : Nat → Nat} {A : Nat → Prop} {V : Vk} {k0 : Nat} {a1 : Int32} {a2 : Int32} {a3 : Int32} {g g0 : Hq} (hr : r_X10_appoint V k0 a1 a2 a3 g = some ((), g0)) : Met l yX10_appoint (wM yX10_appoint cX10_appoint 4 none) { frames := 0, cells := 0, slots := 0, locals := 0 } (Pre D cA sk ad (V, g) A [.ref (ad k0), .int a1, .int a2, .int a3]) (QV D cA ad A (V, g0)) 0 0 A := by
  refine Met.ofW (cc := cX10_appoint) (maxL := 4) (ret := none) (by decide) rfl ?_
  intro p e s m args below meth c s₁ B hml hv
  obtain ⟨rfl, fx, w0⟩ := hv
  have hts := atoms_spec (ws := wM yX10_appoint cX10_appoint 4 none) B.pre
  have cx : CallFix p m c cX10_appoint 4 s ([.ref (ad k0), .int a1, .int a2, .int a3] : List Value).toArray gw_tbl RX10 := ⟨B.exec, B.bytes, hml, findClass_of_methodNamed B.named, fun w hw => hts w (List.mem_cons_of_mem _ hw)⟩
  have hlocks := B.notSynchronized
  have hret := B.returns
  have hR : 0 ≤ (headSpec (wM yX10_appoint cX10_appoint 4 none) { frames := 0, cells := 0, slots := 0, locals := 0 }).room.frames ∧ 0 ≤ (headSpec (wM yX10_appoint cX10_appoint 4 none) { frames := 0, cells := 0, slots := 0, locals := 0 }).room.locals := ⟨Nat.le_refl _, Nat.le_refl _⟩
  have dy : Dy D cA ad (V, g) A s.heap s.heap [] := ⟨w0, va_S.rf⟩
  have hl := lv_entry [.ref (ad k0), .int a1, .int a2, .int a3] (n := 4) (Nat.le_of_ble_eq_true rfl)
  rw [lg_entry_eq]
  generalize (lg_sl [.ref (ad k0), .int a1, .int a2, .int a3] ++ List.replicate (4 - (lg_sl [.ref (ad k0), .int a1, .int a2, .int a3]).length) Slot.unset).toArray = ls at hl ⊢
  have hl : lv_has ls 4 [(0, .ref (ad k0)), (1, .int a1), (2, .int a2), (3, .int a3)] := hl
  have dy0 : ∃ H0, H0 = s.heap ∧ Dy D cA ad (V, g) A s.heap H0 [] := ⟨_, rfl, dy⟩
  obtain ⟨z, ez⟩ : ∃ z, z = (((), g0) : Unit × Hq) := ⟨_, rfl⟩
  rw [← ez] at hr
  have hq0 : ∀ (rb : Unit) (gb : Hq), z = (rb, gb) → gb = g0 := fun rb gb eb => by rw [ez] at eb; exact (congrArg Prod.snd eb).symm
  clear ez w0 dy0
  unfold r_X10_appoint at hr
  obtain ⟨H, hH⟩ : ∃ H, H = s.heap := ⟨_, rfl⟩
  obtain ⟨locs, hlo⟩ : ∃ q : List Loc, q = [] := ⟨_, rfl⟩
  have dy : Dy D cA ad (V, g) A s.heap H locs := by rw [hH, hlo]; exact dy
  suffices K : W p l e (headSpec (wM yX10_appoint cX10_appoint 4 none) { frames := 0, cells := 0, slots := 0, locals := 0 }).room s m ([.ref (ad k0), .int a1, .int a2, .int a3] : List Value).toArray below meth c H locs 0 0 (MQ below (QV D cA ad A (V, g0)) ([.ref (ad k0), .int a1, .int a2, .int a3] : List Value).toArray s 0 0 A) (F0 m 0 ls []) by rw [hH, hlo] at K; exact K
  clear hH hlo
  refine lv_aload_n cx.1 cx.2.1 dX10_appoint_0 rfl (lv_at hl 0 rfl) ?_
  obtain ⟨hv1, hr⟩ := of_grd hr
  obtain ⟨k2, hf3, hr⟩ := of_bnd hr
  refine h_getR cx fx dy fd_10_6 hv1 tb_343 hf3 dX10_appoint_1 ?_
  refine lv_iload_n cx.1 cx.2.1 dX10_appoint_4 rfl (lv_at hl 1 rfl) ?_
  refine lv_sipush (v := 1600) cx.1 cx.2.1 dX10_appoint_5 (by decide) ?_
  refine lv_isub cx.1 cx.2.1 dX10_appoint_8 ?_
  refine lv_iload_n cx.1 cx.2.1 dX10_appoint_9 rfl (lv_at hl 2 rfl) ?_
  obtain ⟨ha4, hr⟩ := of_grd hr
  obtain ⟨g5, eg5, hr⟩ := of_nm hr
  refine h_iast cx fx dy ha4 dX10_appoint_10 (fun H locs dy => ?_)
  replace dy : Dy D cA ad (V, g5) A s.heap H locs := by rw [eg5]; exact dy
  refine lv_aload_n cx.1 cx.2.1 dX10_appoint_11 rfl (lv_at hl 0 rfl) ?_
  obtain ⟨k6, hf7, hr⟩ := of_bnd hr
  refine h_getR cx fx dy fd_10_7 hv1 tb_344 hf7 dX10_appoint_12 ?_
  refine lv_iload_n cx.1 cx.2.1 dX10_appoint_15 rfl (lv_at hl 1 rfl) ?_
  refine lv_sipush (v := 1600) cx.1 cx.2.1 dX10_appoint_16 (by decide) ?_
  refine lv_isub cx.1 cx.2.1 dX10_appoint_19 ?_
  refine lv_iload_n cx.1 cx.2.1 dX10_appoint_20 rfl (lv_at hl 3 rfl) ?_
  obtain ⟨ha8, hr⟩ := of_grd hr
  obtain ⟨g9, eg9, hr⟩ := of_nm hr
  refine h_zast cx fx dy ha8 dX10_appoint_21 (fun H locs dy => ?_)
  replace dy : Dy D cA ad (V, g9) A s.heap H locs := by rw [eg9]; exact dy
  have e1 := hq0 _ _ (Option.some.inj hr).symm
  exact h_vret cx dy hlocks hret (by rw [e1]) dX10_appoint_22
noncomputable def r_X10_tellYear (V : Vk) (k0 : Nat) (a1 : Int32) (a2 : Int32) (g : Hq) : Option (Int32 × Hq) :=
  grd (V k0 = some (10, 0)) <| brn ((g.1 k0 5) = (-1 : Int32)) (some ((-9 : Int32), g)) (bnd (r_X11_isFrom V a1 (g.1 k0 4) (g.1 k0 5) g) fun x3 g2 => brn (x3 = 0) (some ((-9 : Int32), g2)) (brn (a2 = (0 : Int32)) (Option.bind (g2.2.2 k0 6) fun k5 => grd (okV V k5 0 (a1 - (1600 : Int32))) <| some ((g2.1 k5 (a1 - (1600 : Int32)).toNatClampNeg), g2)) (brn (a2 = (1 : Int32)) (Option.bind (g2.2.2 k0 7) fun k9 => grd (okV V k9 2 (a1 - (1600 : Int32))) <| brn ((g2.1 k9 (a1 - (1600 : Int32)).toNatClampNeg) = 0) (some ((0 : Int32), g2)) (some ((1 : Int32), g2))) (brn (a2 = (2 : Int32)) (Option.bind (g2.2.2 k0 8) fun k13 => grd (okV V k13 0 (a1 - (1600 : Int32))) <| some ((g2.1 k13 (a1 - (1600 : Int32)).toNatClampNeg), g2)) (some ((-9 : Int32), g2))))))
set_option maxHeartbeats 4000000 in
set_option maxRecDepth 100000 in
theorem c_X10_tellYear {l : Launch} {D : va_G} {cA : Nat → ClassId} {sk : (Nat → Nat) × (Nat → Nat)} {ad : Nat → Nat} {A : Nat → Prop} {V : Vk} {k0 : Nat} {a1 : Int32} {a2 : Int32} {g g0 : Hq} {r0 : Int32} (hr : r_X10_tellYear V k0 a1 a2 g = some (r0, g0)) : Met l yX10_tellYear (wM yX10_tellYear cX10_tellYear 3 (some .int)) { frames := 1, cells := 0, slots := 0, locals := 22 } (Pre D cA sk ad (V, g) A [.ref (ad k0), .int a1, .int a2]) (QI D cA ad A r0 (V, g0)) 0 0 A := by
  refine Met.ofW (cc := cX10_tellYear) (maxL := 3) (ret := (some .int)) (by decide) rfl ?_
  intro p e s m args below meth c s₁ B hml hv
  obtain ⟨rfl, fx, w0⟩ := hv
  have hts := atoms_spec (ws := wM yX10_tellYear cX10_tellYear 3 (some .int)) B.pre
  have cx : CallFix p m c cX10_tellYear 3 s ([.ref (ad k0), .int a1, .int a2] : List Value).toArray gw_tbl RX10 := ⟨B.exec, B.bytes, hml, findClass_of_methodNamed B.named, fun w hw => hts w (List.mem_cons_of_mem _ hw)⟩
  have hlocks := B.notSynchronized
  have hret := B.returns
  have hR : 1 ≤ (headSpec (wM yX10_tellYear cX10_tellYear 3 (some .int)) { frames := 1, cells := 0, slots := 0, locals := 22 }).room.frames ∧ 22 ≤ (headSpec (wM yX10_tellYear cX10_tellYear 3 (some .int)) { frames := 1, cells := 0, slots := 0, locals := 22 }).room.locals := ⟨Nat.le_refl _, Nat.le_refl _⟩
  have dy : Dy D cA ad (V, g) A s.heap s.heap [] := ⟨w0, va_S.rf⟩
  have hl := lv_entry [.ref (ad k0), .int a1, .int a2] (n := 3) (Nat.le_of_ble_eq_true rfl)
  rw [lg_entry_eq]
  generalize (lg_sl [.ref (ad k0), .int a1, .int a2] ++ List.replicate (3 - (lg_sl [.ref (ad k0), .int a1, .int a2]).length) Slot.unset).toArray = ls at hl ⊢
  have hl : lv_has ls 3 [(0, .ref (ad k0)), (1, .int a1), (2, .int a2)] := hl
  have dy0 : ∃ H0, H0 = s.heap ∧ Dy D cA ad (V, g) A s.heap H0 [] := ⟨_, rfl, dy⟩
  obtain ⟨z, ez⟩ : ∃ z, z = (r0, g0) := ⟨_, rfl⟩
  rw [← ez] at hr
  have hq0 : ∀ (rb : Int32) (gb : Hq), z = (rb, gb) → rb = r0 ∧ gb = g0 := fun rb gb eb => by rw [ez] at eb; exact ⟨(congrArg Prod.fst eb).symm, (congrArg Prod.snd eb).symm⟩
  clear ez w0 dy0
  unfold r_X10_tellYear at hr
  obtain ⟨H, hH⟩ : ∃ H, H = s.heap := ⟨_, rfl⟩
  obtain ⟨locs, hlo⟩ : ∃ q : List Loc, q = [] := ⟨_, rfl⟩
  have dy : Dy D cA ad (V, g) A s.heap H locs := by rw [hH, hlo]; exact dy
  suffices K : W p l e (headSpec (wM yX10_tellYear cX10_tellYear 3 (some .int)) { frames := 1, cells := 0, slots := 0, locals := 22 }).room s m ([.ref (ad k0), .int a1, .int a2] : List Value).toArray below meth c H locs 0 0 (MQ below (QI D cA ad A r0 (V, g0)) ([.ref (ad k0), .int a1, .int a2] : List Value).toArray s 0 0 A) (F0 m 0 ls []) by rw [hH, hlo] at K; exact K
  clear hH hlo
  refine lv_aload_n cx.1 cx.2.1 dX10_tellYear_0 rfl (lv_at hl 0 rfl) ?_
  obtain ⟨hv1, hr⟩ := of_grd hr
  refine h_getI cx fx dy fd_10_5 hv1 tb_341 dX10_tellYear_1 ?_
  refine lv_iconst (v := (-1)) cx.1 cx.2.1 dX10_tellYear_4 (by decide) ?_
  rcases of_brn hr with ⟨hc, hr⟩ | ⟨hc, hr⟩
  · refine lv_icmp_eq (tgt := 23) cx.1 cx.2.1 dX10_tellYear_5 (by decide) (fun _ => ?_) (fun hn => absurd hc hn)
    refine lv_bipush (v := (-9)) cx.1 cx.2.1 dX10_tellYear_23 (by decide) ?_
    obtain ⟨e0, e1⟩ := hq0 _ _ (Option.some.inj hr).symm
    exact h_iret cx dy hlocks hret rfl e0 (by rw [e1]) dX10_tellYear_25
  · refine lv_icmp_eq (tgt := 23) cx.1 cx.2.1 dX10_tellYear_5 (by decide) (fun hn => absurd hn hc) (fun _ => ?_)
    refine lv_iload_n cx.1 cx.2.1 dX10_tellYear_8 rfl (lv_at hl 1 rfl) ?_
    refine lv_aload_n cx.1 cx.2.1 dX10_tellYear_9 rfl (lv_at hl 0 rfl) ?_
    refine h_getI cx fx dy fd_10_4 hv1 tb_340 dX10_tellYear_10 ?_
    refine lv_aload_n cx.1 cx.2.1 dX10_tellYear_13 rfl (lv_at hl 0 rfl) ?_
    refine h_getI cx fx dy fd_10_5 hv1 tb_341 dX10_tellYear_14 ?_
    obtain ⟨x3, g2, hc4, hr⟩ := of_bnd2 hr
    refine r_i dy (k_SN (As := [.int a1, .int (g.1 k0 4), .int (g.1 k0 5)]) cx fx dy (c_X11_isFrom hc4) mv_X11_isFrom rfl rfl ⟨Nat.le_trans (by decide) hR.1, Nat.le_trans (by decide) hR.2⟩ tb_782 rfl hl.1 rfl (Nat.le_of_ble_eq_true rfl) ⟨Nat.zero_le _, Nat.zero_le _⟩ dX10_tellYear_17) (fun H locs dy => ?_)
    rcases of_brn hr with ⟨hc, hr⟩ | ⟨hc, hr⟩
    · refine lv_if_ne (tgt := 26) cx.1 cx.2.1 dX10_tellYear_20 (by decide) (fun hn => absurd hc hn) (fun _ => ?_)
      refine lv_bipush (v := (-9)) cx.1 cx.2.1 dX10_tellYear_23 (by decide) ?_
      obtain ⟨e0, e1⟩ := hq0 _ _ (Option.some.inj hr).symm
      exact h_iret cx dy hlocks hret rfl e0 (by rw [e1]) dX10_tellYear_25
    · refine lv_if_ne (tgt := 26) cx.1 cx.2.1 dX10_tellYear_20 (by decide) (fun _ => ?_) (fun hn => absurd hn hc)
      refine lv_iload_n cx.1 cx.2.1 dX10_tellYear_26 rfl (lv_at hl 2 rfl) ?_
      rcases of_brn hr with ⟨hc, hr⟩ | ⟨hs8, hr⟩
      · refine lv_tableIn (off := 25) (tgt := 52) cx.1 cx.2.1 dX10_tellYear_27 (by rw [hc]; decide) (by rw [hc]; decide) (by rw [hc]; rfl) (by decide) ?_
        refine lv_aload_n cx.1 cx.2.1 dX10_tellYear_52 rfl (lv_at hl 0 rfl) ?_
        obtain ⟨k5, hf6, hr⟩ := of_bnd hr
        refine h_getR cx fx dy fd_10_6 hv1 tb_343 hf6 dX10_tellYear_53 ?_
        refine lv_iload_n cx.1 cx.2.1 dX10_tellYear_56 rfl (lv_at hl 1 rfl) ?_
        refine lv_sipush (v := 1600) cx.1 cx.2.1 dX10_tellYear_57 (by decide) ?_
        refine lv_isub cx.1 cx.2.1 dX10_tellYear_60 ?_
        obtain ⟨ha7, hr⟩ := of_grd hr
        refine h_iald cx fx dy ha7 dX10_tellYear_61 ?_
        obtain ⟨e0, e1⟩ := hq0 _ _ (Option.some.inj hr).symm
        exact h_iret cx dy hlocks hret rfl e0 (by rw [e1]) dX10_tellYear_62
      rcases of_brn hr with ⟨hc, hr⟩ | ⟨hs12, hr⟩
      · refine lv_tableIn (off := 36) (tgt := 63) cx.1 cx.2.1 dX10_tellYear_27 (by rw [hc]; decide) (by rw [hc]; decide) (by rw [hc]; rfl) (by decide) ?_
        refine lv_aload_n cx.1 cx.2.1 dX10_tellYear_63 rfl (lv_at hl 0 rfl) ?_
        obtain ⟨k9, hf10, hr⟩ := of_bnd hr
        refine h_getR cx fx dy fd_10_7 hv1 tb_344 hf10 dX10_tellYear_64 ?_
        refine lv_iload_n cx.1 cx.2.1 dX10_tellYear_67 rfl (lv_at hl 1 rfl) ?_
        refine lv_sipush (v := 1600) cx.1 cx.2.1 dX10_tellYear_68 (by decide) ?_
        refine lv_isub cx.1 cx.2.1 dX10_tellYear_71 ?_
        obtain ⟨ha11, hr⟩ := of_grd hr
        refine h_zald cx fx dy ha11 dX10_tellYear_72 ?_
        rcases of_brn hr with ⟨hc, hr⟩ | ⟨hc, hr⟩
        · refine lv_if_eq (tgt := 80) cx.1 cx.2.1 dX10_tellYear_73 (by decide) (fun _ => ?_) (fun hn => absurd hc hn)
          refine lv_iconst (v := 0) cx.1 cx.2.1 dX10_tellYear_80 (by decide) ?_
          obtain ⟨e0, e1⟩ := hq0 _ _ (Option.some.inj hr).symm
          exact h_iret cx dy hlocks hret rfl e0 (by rw [e1]) dX10_tellYear_81
        · refine lv_if_eq (tgt := 80) cx.1 cx.2.1 dX10_tellYear_73 (by decide) (fun hn => absurd hn hc) (fun _ => ?_)
          refine lv_iconst (v := 1) cx.1 cx.2.1 dX10_tellYear_76 (by decide) ?_
          refine lv_goto (tgt := 81) cx.1 cx.2.1 dX10_tellYear_77 (by decide) ?_
          obtain ⟨e0, e1⟩ := hq0 _ _ (Option.some.inj hr).symm
          exact h_iret cx dy hlocks hret rfl e0 (by rw [e1]) dX10_tellYear_81
      rcases of_brn hr with ⟨hc, hr⟩ | ⟨hs16, hr⟩
      · refine lv_tableIn (off := 55) (tgt := 82) cx.1 cx.2.1 dX10_tellYear_27 (by rw [hc]; decide) (by rw [hc]; decide) (by rw [hc]; rfl) (by decide) ?_
        refine lv_aload_n cx.1 cx.2.1 dX10_tellYear_82 rfl (lv_at hl 0 rfl) ?_
        obtain ⟨k13, hf14, hr⟩ := of_bnd hr
        refine h_getR cx fx dy fd_10_8 hv1 tb_345 hf14 dX10_tellYear_83 ?_
        refine lv_iload_n cx.1 cx.2.1 dX10_tellYear_86 rfl (lv_at hl 1 rfl) ?_
        refine lv_sipush (v := 1600) cx.1 cx.2.1 dX10_tellYear_87 (by decide) ?_
        refine lv_isub cx.1 cx.2.1 dX10_tellYear_90 ?_
        obtain ⟨ha15, hr⟩ := of_grd hr
        refine h_iald cx fx dy ha15 dX10_tellYear_91 ?_
        obtain ⟨e0, e1⟩ := hq0 _ _ (Option.some.inj hr).symm
        exact h_iret cx dy hlocks hret rfl e0 (by rw [e1]) dX10_tellYear_92
      refine lv_tableOut (tgt := 93) cx.1 cx.2.1 dX10_tellYear_27 (tsw_out (fun n h1 h2 => ?_)) (by decide) ?_
      · rcases (show n = 0 ∨ n = 1 ∨ n = 2 by omega) with rfl | rfl | rfl
        · exact hs8
        · exact hs12
        · exact hs16
      · skip
        refine lv_bipush (v := (-9)) cx.1 cx.2.1 dX10_tellYear_93 (by decide) ?_
        obtain ⟨e0, e1⟩ := hq0 _ _ (Option.some.inj hr).symm
        exact h_iret cx dy hlocks hret rfl e0 (by rw [e1]) dX10_tellYear_95
