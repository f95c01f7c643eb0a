noncomputable def r_J3_checkIndex_8e157 (V : Vk) (a1 : Int32) (a2 : Int32) (g : Hq) : Option (Int32 × Hq) :=
  brn (a1 < 0) (none) (brn (a1 < a2) (some (a1, g)) (none))
set_option maxHeartbeats 4000000 in
set_option maxRecDepth 100000 in
theorem c_J3_checkIndex_8e157n {l : Launch} {D : va_G} {cA : Nat → ClassId} {sk : (Nat → Nat) × (Nat → Nat)} {ad : Nat → Nat} {A : Nat → Prop} {V : Vk} {a1 : Int32} {a2 : Int32} {g g0 : Hq} {r0 : Int32} (hr : r_J3_checkIndex_8e157 V a1 a2 g = some (r0, g0)) : Met l yJ3_checkIndex_8e157 (wM yJ3_checkIndex_8e157 cJ3_checkIndex_8e157 3 (some .int)) { frames := 0, cells := 0, slots := 0, locals := 0 } (Pre D cA sk ad (V, g) A [.int a1, .int a2, .null]) (QI D cA ad A r0 (V, g0)) 0 0 A := by
  refine Met.ofW (cc := cJ3_checkIndex_8e157) (maxL := 3) (ret := (some .int)) (by decide) rfl ?_
  intro p e s m args below meth c s₁ B hml hv
  obtain ⟨rfl, fx, w0⟩ := hv
  have hts := atoms_spec (ws := wM yJ3_checkIndex_8e157 cJ3_checkIndex_8e157 3 (some .int)) B.pre
  have cx : CallFix p m c cJ3_checkIndex_8e157 3 s ([.int a1, .int a2, .null] : List Value).toArray gw_tbl RJ3 := ⟨B.exec, B.bytes, hml, findClass_of_methodNamed B.named, fun w hw => hts w (List.mem_cons_of_mem _ hw)⟩
  have hlocks := B.notSynchronized
  have hret := B.returns
  have hR : 0 ≤ (headSpec (wM yJ3_checkIndex_8e157 cJ3_checkIndex_8e157 3 (some .int)) { frames := 0, cells := 0, slots := 0, locals := 0 }).room.frames ∧ 0 ≤ (headSpec (wM yJ3_checkIndex_8e157 cJ3_checkIndex_8e157 3 (some .int)) { frames := 0, cells := 0, slots := 0, locals := 0 }).room.locals := ⟨Nat.le_refl _, Nat.le_refl _⟩
  have dy : Dy D cA ad (V, g) A s.heap s.heap [] := ⟨w0, va_S.rf⟩
  have hl := lv_entry [.int a1, .int a2, .null] (n := 3) (Nat.le_of_ble_eq_true rfl)
  rw [lg_entry_eq]
  generalize (lg_sl [.int a1, .int a2, .null] ++ List.replicate (3 - (lg_sl [.int a1, .int a2, .null]).length) Slot.unset).toArray = ls at hl ⊢
  have hl : lv_has ls 3 [(0, .int a1), (1, .int a2), (2, .null)] := hl
  have dy0 : ∃ H0, H0 = s.heap ∧ Dy D cA ad (V, g) A s.heap H0 [] := ⟨_, rfl, dy⟩
  obtain ⟨z, ez⟩ : ∃ z, z = (r0, g0) := ⟨_, rfl⟩
  rw [← ez] at hr
  have hq0 : ∀ (rb : Int32) (gb : Hq), z = (rb, gb) → rb = r0 ∧ gb = g0 := fun rb gb eb => by rw [ez] at eb; exact ⟨(congrArg Prod.fst eb).symm, (congrArg Prod.snd eb).symm⟩
  clear ez w0 dy0
  unfold r_J3_checkIndex_8e157 at hr
  obtain ⟨H, hH⟩ : ∃ H, H = s.heap := ⟨_, rfl⟩
  obtain ⟨locs, hlo⟩ : ∃ q : List Loc, q = [] := ⟨_, rfl⟩
  have dy : Dy D cA ad (V, g) A s.heap H locs := by rw [hH, hlo]; exact dy
  suffices K : W p l e (headSpec (wM yJ3_checkIndex_8e157 cJ3_checkIndex_8e157 3 (some .int)) { frames := 0, cells := 0, slots := 0, locals := 0 }).room s m ([.int a1, .int a2, .null] : List Value).toArray below meth c H locs 0 0 (MQ below (QI D cA ad A r0 (V, g0)) ([.int a1, .int a2, .null] : List Value).toArray s 0 0 A) (F0 m 0 ls []) by rw [hH, hlo] at K; exact K
  clear hH hlo
  refine lv_iload_n cx.1 cx.2.1 dJ3_checkIndex_8e157_0 rfl (lv_at hl 0 rfl) ?_
  rcases of_brn hr with ⟨hc, hr⟩ | ⟨hc, hr⟩
  · refine lv_if_lt (tgt := 9) cx.1 cx.2.1 dJ3_checkIndex_8e157_1 (by decide) (fun _ => ?_) (fun hn => absurd hc hn)
    cases hr
  · refine lv_if_lt (tgt := 9) cx.1 cx.2.1 dJ3_checkIndex_8e157_1 (by decide) (fun hn => absurd hn hc) (fun _ => ?_)
    refine lv_iload_n cx.1 cx.2.1 dJ3_checkIndex_8e157_4 rfl (lv_at hl 0 rfl) ?_
    refine lv_iload_n cx.1 cx.2.1 dJ3_checkIndex_8e157_5 rfl (lv_at hl 1 rfl) ?_
    rcases of_brn hr with ⟨hc, hr⟩ | ⟨hc, hr⟩
    · refine lv_icmp_lt (tgt := 16) cx.1 cx.2.1 dJ3_checkIndex_8e157_6 (by decide) (fun _ => ?_) (fun hn => absurd hc hn)
      refine lv_iload_n cx.1 cx.2.1 dJ3_checkIndex_8e157_16 rfl (lv_at hl 0 rfl) ?_
      obtain ⟨e0, e1⟩ := hq0 _ _ (Option.some.inj hr).symm
      exact h_iret cx dy hlocks hret rfl e0 (by rw [e1]) dJ3_checkIndex_8e157_17
    · refine lv_icmp_lt (tgt := 16) cx.1 cx.2.1 dJ3_checkIndex_8e157_6 (by decide) (fun hn => absurd hn hc) (fun _ => ?_)
      cases hr
set_option maxHeartbeats 4000000 in
set_option maxRecDepth 100000 in
theorem c_J3_checkIndex_8e157w {l : Launch} {D : va_G} {cA : Nat → ClassId} {sk : (Nat → Nat) × (Nat → Nat)} {ad : Nat → Nat} {A : Nat → Prop} {V : Vk} {a3 : Nat} {a1 : Int32} {a2 : Int32} {g g0 : Hq} {r0 : Int32} (hr : r_J3_checkIndex_8e157 V a1 a2 g = some (r0, g0)) : Met l yJ3_checkIndex_8e157 (wM yJ3_checkIndex_8e157 cJ3_checkIndex_8e157 3 (some .int)) { frames := 0, cells := 0, slots := 0, locals := 0 } (Pre D cA sk ad (V, g) A [.int a1, .int a2, .ref a3]) (QI D cA ad A r0 (V, g0)) 0 0 A := by
  refine Met.ofW (cc := cJ3_checkIndex_8e157) (maxL := 3) (ret := (some .int)) (by decide) rfl ?_
  intro p e s m args below meth c s₁ B hml hv
  obtain ⟨rfl, fx, w0⟩ := hv
  have hts := atoms_spec (ws := wM yJ3_checkIndex_8e157 cJ3_checkIndex_8e157 3 (some .int)) B.pre
  have cx : CallFix p m c cJ3_checkIndex_8e157 3 s ([.int a1, .int a2, .ref a3] : List Value).toArray gw_tbl RJ3 := ⟨B.exec, B.bytes, hml, findClass_of_methodNamed B.named, fun w hw => hts w (List.mem_cons_of_mem _ hw)⟩
  have hlocks := B.notSynchronized
  have hret := B.returns
  have hR : 0 ≤ (headSpec (wM yJ3_checkIndex_8e157 cJ3_checkIndex_8e157 3 (some .int)) { frames := 0, cells := 0, slots := 0, locals := 0 }).room.frames ∧ 0 ≤ (headSpec (wM yJ3_checkIndex_8e157 cJ3_checkIndex_8e157 3 (some .int)) { frames := 0, cells := 0, slots := 0, locals := 0 }).room.locals := ⟨Nat.le_refl _, Nat.le_refl _⟩
  have dy : Dy D cA ad (V, g) A s.heap s.heap [] := ⟨w0, va_S.rf⟩
  have hl := lv_entry [.int a1, .int a2, .ref a3] (n := 3) (Nat.le_of_ble_eq_true rfl)
  rw [lg_entry_eq]
  generalize (lg_sl [.int a1, .int a2, .ref a3] ++ List.replicate (3 - (lg_sl [.int a1, .int a2, .ref a3]).length) Slot.unset).toArray = ls at hl ⊢
  have hl : lv_has ls 3 [(0, .int a1), (1, .int a2), (2, .ref a3)] := hl
  have dy0 : ∃ H0, H0 = s.heap ∧ Dy D cA ad (V, g) A s.heap H0 [] := ⟨_, rfl, dy⟩
  obtain ⟨z, ez⟩ : ∃ z, z = (r0, g0) := ⟨_, rfl⟩
  rw [← ez] at hr
  have hq0 : ∀ (rb : Int32) (gb : Hq), z = (rb, gb) → rb = r0 ∧ gb = g0 := fun rb gb eb => by rw [ez] at eb; exact ⟨(congrArg Prod.fst eb).symm, (congrArg Prod.snd eb).symm⟩
  clear ez w0 dy0
  unfold r_J3_checkIndex_8e157 at hr
  obtain ⟨H, hH⟩ : ∃ H, H = s.heap := ⟨_, rfl⟩
  obtain ⟨locs, hlo⟩ : ∃ q : List Loc, q = [] := ⟨_, rfl⟩
  have dy : Dy D cA ad (V, g) A s.heap H locs := by rw [hH, hlo]; exact dy
  suffices K : W p l e (headSpec (wM yJ3_checkIndex_8e157 cJ3_checkIndex_8e157 3 (some .int)) { frames := 0, cells := 0, slots := 0, locals := 0 }).room s m ([.int a1, .int a2, .ref a3] : List Value).toArray below meth c H locs 0 0 (MQ below (QI D cA ad A r0 (V, g0)) ([.int a1, .int a2, .ref a3] : List Value).toArray s 0 0 A) (F0 m 0 ls []) by rw [hH, hlo] at K; exact K
  clear hH hlo
  refine lv_iload_n cx.1 cx.2.1 dJ3_checkIndex_8e157_0 rfl (lv_at hl 0 rfl) ?_
  rcases of_brn hr with ⟨hc, hr⟩ | ⟨hc, hr⟩
  · refine lv_if_lt (tgt := 9) cx.1 cx.2.1 dJ3_checkIndex_8e157_1 (by decide) (fun _ => ?_) (fun hn => absurd hc hn)
    cases hr
  · refine lv_if_lt (tgt := 9) cx.1 cx.2.1 dJ3_checkIndex_8e157_1 (by decide) (fun hn => absurd hn hc) (fun _ => ?_)
    refine lv_iload_n cx.1 cx.2.1 dJ3_checkIndex_8e157_4 rfl (lv_at hl 0 rfl) ?_
    refine lv_iload_n cx.1 cx.2.1 dJ3_checkIndex_8e157_5 rfl (lv_at hl 1 rfl) ?_
    rcases of_brn hr with ⟨hc, hr⟩ | ⟨hc, hr⟩
    · refine lv_icmp_lt (tgt := 16) cx.1 cx.2.1 dJ3_checkIndex_8e157_6 (by decide) (fun _ => ?_) (fun hn => absurd hc hn)
      refine lv_iload_n cx.1 cx.2.1 dJ3_checkIndex_8e157_16 rfl (lv_at hl 0 rfl) ?_
      obtain ⟨e0, e1⟩ := hq0 _ _ (Option.some.inj hr).symm
      exact h_iret cx dy hlocks hret rfl e0 (by rw [e1]) dJ3_checkIndex_8e157_17
    · refine lv_icmp_lt (tgt := 16) cx.1 cx.2.1 dJ3_checkIndex_8e157_6 (by decide) (fun hn => absurd hn hc) (fun _ => ?_)
      cases hr
noncomputable def r_J0_checkIndex_df160 (V : Vk) (a1 : Int32) (a2 : Int32) (g : Hq) : Option (Unit × Hq) :=
  bnd (r_J3_checkIndex_8e157 V a1 a2 g) fun x2 g1 => some ((), g1)
set_option maxHeartbeats 4000000 in
set_option maxRecDepth 100000 in
theorem c_J0_checkIndex_df160 {l : Launch} {D : va_G} {cA : Nat → ClassId} {sk : (Nat → Nat) × (Nat → Nat)} {ad : Nat → Nat} {A : Nat → Prop} {V : Vk} {a1 : Int32} {a2 : Int32} {g g0 : Hq} (hr : r_J0_checkIndex_df160 V a1 a2 g = some ((), g0)) : Met l yJ0_checkIndex_df160 (wM yJ0_checkIndex_df160 cJ0_checkIndex_df160 2 none) { frames := 1, cells := 0, slots := 0, locals := 22 } (Pre D cA sk ad (V, g) A [.int a1, .int a2]) (QV D cA ad A (V, g0)) 0 0 A := by
  refine Met.ofW (cc := cJ0_checkIndex_df160) (maxL := 2) (ret := none) (by decide) rfl ?_
  intro p e s m args below meth c s₁ B hml hv
  obtain ⟨rfl, fx, w0⟩ := hv
  have hts := atoms_spec (ws := wM yJ0_checkIndex_df160 cJ0_checkIndex_df160 2 none) B.pre
  have cx : CallFix p m c cJ0_checkIndex_df160 2 s ([.int a1, .int a2] : List Value).toArray gw_tbl RJ0 := ⟨B.exec, B.bytes, hml, findClass_of_methodNamed B.named, fun w hw => hts w (List.mem_cons_of_mem _ hw)⟩
  have hlocks := B.notSynchronized
  have hret := B.returns
  have hR : 1 ≤ (headSpec (wM yJ0_checkIndex_df160 cJ0_checkIndex_df160 2 none) { frames := 1, cells := 0, slots := 0, locals := 22 }).room.frames ∧ 22 ≤ (headSpec (wM yJ0_checkIndex_df160 cJ0_checkIndex_df160 2 none) { frames := 1, cells := 0, slots := 0, locals := 22 }).room.locals := ⟨Nat.le_refl _, Nat.le_refl _⟩
  have dy : Dy D cA ad (V, g) A s.heap s.heap [] := ⟨w0, va_S.rf⟩
  have hl := lv_entry [.int a1, .int a2] (n := 2) (Nat.le_of_ble_eq_true rfl)
  rw [lg_entry_eq]
  generalize (lg_sl [.int a1, .int a2] ++ List.replicate (2 - (lg_sl [.int a1, .int a2]).length) Slot.unset).toArray = ls at hl ⊢
  have hl : lv_has ls 2 [(0, .int a1), (1, .int a2)] := hl
  have dy0 : ∃ H0, H0 = s.heap ∧ Dy D cA ad (V, g) A s.heap H0 [] := ⟨_, rfl, dy⟩
  obtain ⟨z, ez⟩ : ∃ z, z = (((), g0) : Unit × Hq) := ⟨_, rfl⟩
  rw [← ez] at hr
  have hq0 : ∀ (rb : Unit) (gb : Hq), z = (rb, gb) → gb = g0 := fun rb gb eb => by rw [ez] at eb; exact (congrArg Prod.snd eb).symm
  clear ez w0 dy0
  unfold r_J0_checkIndex_df160 at hr
  obtain ⟨H, hH⟩ : ∃ H, H = s.heap := ⟨_, rfl⟩
  obtain ⟨locs, hlo⟩ : ∃ q : List Loc, q = [] := ⟨_, rfl⟩
  have dy : Dy D cA ad (V, g) A s.heap H locs := by rw [hH, hlo]; exact dy
  suffices K : W p l e (headSpec (wM yJ0_checkIndex_df160 cJ0_checkIndex_df160 2 none) { frames := 1, cells := 0, slots := 0, locals := 22 }).room s m ([.int a1, .int a2] : List Value).toArray below meth c H locs 0 0 (MQ below (QV D cA ad A (V, g0)) ([.int a1, .int a2] : List Value).toArray s 0 0 A) (F0 m 0 ls []) by rw [hH, hlo] at K; exact K
  clear hH hlo
  refine lv_iload_n cx.1 cx.2.1 dJ0_checkIndex_df160_0 rfl (lv_at hl 0 rfl) ?_
  refine lv_iload_n cx.1 cx.2.1 dJ0_checkIndex_df160_1 rfl (lv_at hl 1 rfl) ?_
  obtain ⟨fz, hfz⟩ := fx.2.2.1.2.2.2
  cases fz with
  | none =>
    refine va_gets (v := .null) cx.1 cx.2.1 hfz dy.2 cx.2.2.2.1 (cx.2.2.2.2 _ tb_607) (fun _ h9 => h9) dJ0_checkIndex_df160_2 ?_
    obtain ⟨x2, g1, hc3, hr⟩ := of_bnd2 hr
    refine r_i dy (k_S (As := [.int a1, .int a2, .null]) cx fx dy (c_J3_checkIndex_8e157n hc3) mv_J3_checkIndex_8e157 rfl rfl ⟨Nat.le_trans (by decide) hR.1, Nat.le_trans (by decide) hR.2⟩ tb_609 rfl hl.1 rfl (Nat.le_of_ble_eq_true rfl) ⟨Nat.zero_le _, Nat.zero_le _⟩ dJ0_checkIndex_df160_5) (fun H locs dy => ?_)
    refine lv_pop cx.1 cx.2.1 dJ0_checkIndex_df160_8 rfl ?_
    have e1 := hq0 _ _ (Option.some.inj hr).symm
    exact h_vret cx dy hlocks hret (by rw [e1]) dJ0_checkIndex_df160_9
  | some tz =>
    refine va_gets (v := .ref tz) cx.1 cx.2.1 hfz dy.2 cx.2.2.2.1 (cx.2.2.2.2 _ tb_607) (fun _ h9 => h9) dJ0_checkIndex_df160_2 ?_
    obtain ⟨x2, g1, hc3, hr⟩ := of_bnd2 hr
    refine r_i dy (k_S (As := [.int a1, .int a2, .ref tz]) cx fx dy (c_J3_checkIndex_8e157w hc3) mv_J3_checkIndex_8e157 rfl rfl ⟨Nat.le_trans (by decide) hR.1, Nat.le_trans (by decide) hR.2⟩ tb_609 rfl hl.1 rfl (Nat.le_of_ble_eq_true rfl) ⟨Nat.zero_le _, Nat.zero_le _⟩ dJ0_checkIndex_df160_5) (fun H locs dy => ?_)
    refine lv_pop cx.1 cx.2.1 dJ0_checkIndex_df160_8 rfl ?_
    have e1 := hq0 _ _ (Option.some.inj hr).symm
    exact h_vret cx dy hlocks hret (by rw [e1]) dJ0_checkIndex_df160_9
noncomputable def r_J1_charAt_3b067 (V : Vk) (a1 : Nat) (a2 : Int32) (g : Hq) : Option (Int32 × Hq) :=
  grd (a1 < 14) <| bnd (r_J0_checkIndex_df160 V a2 (nI (lenS.getD a1 0)) g) fun u3 g2 => grd (vp_in a2 (lenS.getD a1 0)) <| grd (narrow .char (.int ((((bytS.getD a1 []).getD a2.toNatClampNeg 0) &&& (255 : Int32)).toUInt32 % 65536).toInt32) = .int ((((bytS.getD a1 []).getD a2.toNatClampNeg 0) &&& (255 : Int32)).toUInt32 % 65536).toInt32) <| some (((((bytS.getD a1 []).getD a2.toNatClampNeg 0) &&& (255 : Int32)).toUInt32 % 65536).toInt32, g2)
set_option maxHeartbeats 4000000 in
set_option maxRecDepth 100000 in
theorem c_J1_charAt_3b067 {l : Launch} {D : va_G} {cA : Nat → ClassId} {sk : (Nat → Nat) × (Nat → Nat)} {ad : Nat → Nat} {A : Nat → Prop} {V : Vk} {a1 : Nat} {a2 : Int32} {g g0 : Hq} {r0 : Int32} (hr : r_J1_charAt_3b067 V a1 a2 g = some (r0, g0)) : Met l yJ1_charAt_3b067 (wM yJ1_charAt_3b067 cJ1_charAt_3b067 2 (some .char)) { frames := 2, cells := 0, slots := 0, locals := 43 } (Pre D cA sk ad (V, g) A [.ref (sk.2 a1), .int a2]) (QI D cA ad A r0 (V, g0)) 0 0 A := by
  refine Met.ofW (cc := cJ1_charAt_3b067) (maxL := 2) (ret := (some .char)) (by decide) rfl ?_
  intro p e s m args below meth c s₁ B hml hv
  obtain ⟨rfl, fx, w0⟩ := hv
  have hts := atoms_spec (ws := wM yJ1_charAt_3b067 cJ1_charAt_3b067 2 (some .char)) B.pre
  have cx : CallFix p m c cJ1_charAt_3b067 2 s ([.ref (sk.2 a1), .int a2] : List Value).toArray gw_tbl RJ1 := ⟨B.exec, B.bytes, hml, findClass_of_methodNamed B.named, fun w hw => hts w (List.mem_cons_of_mem _ hw)⟩
  have hlocks := B.notSynchronized
  have hret := B.returns
  have hR : 2 ≤ (headSpec (wM yJ1_charAt_3b067 cJ1_charAt_3b067 2 (some .char)) { frames := 2, cells := 0, slots := 0, locals := 43 }).room.frames ∧ 43 ≤ (headSpec (wM yJ1_charAt_3b067 cJ1_charAt_3b067 2 (some .char)) { frames := 2, cells := 0, slots := 0, locals := 43 }).room.locals := ⟨Nat.le_refl _, Nat.le_refl _⟩
  have dy : Dy D cA ad (V, g) A s.heap s.heap [] := ⟨w0, va_S.rf⟩
  have hl := lv_entry [.ref (sk.2 a1), .int a2] (n := 2) (Nat.le_of_ble_eq_true rfl)
  rw [lg_entry_eq]
  generalize (lg_sl [.ref (sk.2 a1), .int a2] ++ List.replicate (2 - (lg_sl [.ref (sk.2 a1), .int a2]).length) Slot.unset).toArray = ls at hl ⊢
  have hl : lv_has ls 2 [(0, .ref (sk.2 a1)), (1, .int a2)] := hl
  have dy0 : ∃ H0, H0 = s.heap ∧ Dy D cA ad (V, g) A s.heap H0 [] := ⟨_, rfl, dy⟩
  obtain ⟨z, ez⟩ : ∃ z, z = (r0, g0) := ⟨_, rfl⟩
  rw [← ez] at hr
  have hq0 : ∀ (rb : Int32) (gb : Hq), z = (rb, gb) → rb = r0 ∧ gb = g0 := fun rb gb eb => by rw [ez] at eb; exact ⟨(congrArg Prod.fst eb).symm, (congrArg Prod.snd eb).symm⟩
  clear ez w0 dy0
  unfold r_J1_charAt_3b067 at hr
  obtain ⟨H, hH⟩ : ∃ H, H = s.heap := ⟨_, rfl⟩
  obtain ⟨locs, hlo⟩ : ∃ q : List Loc, q = [] := ⟨_, rfl⟩
  have dy : Dy D cA ad (V, g) A s.heap H locs := by rw [hH, hlo]; exact dy
  suffices K : W p l e (headSpec (wM yJ1_charAt_3b067 cJ1_charAt_3b067 2 (some .char)) { frames := 2, cells := 0, slots := 0, locals := 43 }).room s m ([.ref (sk.2 a1), .int a2] : List Value).toArray below meth c H locs 0 0 (MQ below (QI D cA ad A r0 (V, g0)) ([.ref (sk.2 a1), .int a2] : List Value).toArray s 0 0 A) (F0 m 0 ls []) by rw [hH, hlo] at K; exact K
  clear hH hlo
  refine lv_iload_n cx.1 cx.2.1 dJ1_charAt_3b067_0 rfl (lv_at hl 1 rfl) ?_
  refine lv_aload_n cx.1 cx.2.1 dJ1_charAt_3b067_1 rfl (lv_at hl 0 rfl) ?_
  obtain ⟨hv1, hr⟩ := of_grd hr
  refine va_tlen (v := nI (lenS.getD a1 0)) cx.1 cx.2.1 (fx.2.2.1.1.1 a1 hv1).2.2.2 dy.2 rfl dJ1_charAt_3b067_2 ?_
  obtain ⟨u3, g2, hc4, hr⟩ := of_bnd2 hr
  refine r_v dy (k_S (As := [.int a2, .int (nI (lenS.getD a1 0))]) cx fx dy (c_J0_checkIndex_df160 hc4) mv_J0_checkIndex_df160 rfl rfl ⟨Nat.le_trans (by decide) hR.1, Nat.le_trans (by decide) hR.2⟩ tb_604 rfl hl.1 rfl (Nat.le_of_ble_eq_true rfl) ⟨Nat.zero_le _, Nat.zero_le _⟩ dJ1_charAt_3b067_3) (fun H locs dy => ?_)
  refine lv_aload_n cx.1 cx.2.1 dJ1_charAt_3b067_6 rfl (lv_at hl 0 rfl) ?_
  refine lv_iload_n cx.1 cx.2.1 dJ1_charAt_3b067_7 rfl (lv_at hl 1 rfl) ?_
  obtain ⟨ha5, hr⟩ := of_grd hr
  refine va_tb (v := .int ((bytS.getD a1 []).getD a2.toNatClampNeg 0)) cx.1 cx.2.1 (fx.2.2.1.1.1 a1 hv1).2.2.2 dy.2 ha5 rfl dJ1_charAt_3b067_8 ?_
  refine lv_sipush (v := 255) cx.1 cx.2.1 dJ1_charAt_3b067_9 (by decide) ?_
  refine lv_iand cx.1 cx.2.1 dJ1_charAt_3b067_12 ?_
  refine lv_i2c cx.1 cx.2.1 dJ1_charAt_3b067_13 rfl ?_
  obtain ⟨hb6, hr⟩ := of_grd hr
  obtain ⟨e0, e1⟩ := hq0 _ _ (Option.some.inj hr).symm
  exact h_iret cx dy hlocks hret hb6 e0 (by rw [e1]) dJ1_charAt_3b067_14
noncomputable def r_J0_isLatin1_aae02 (V : Vk) (k0 : Nat) (g : Hq) : Option (Int32 × Hq) :=
  grd (k0 < 14) <| some ((1 : Int32), g)
set_option maxHeartbeats 4000000 in
set_option maxRecDepth 100000 in
theorem c_J0_isLatin1_aae02 {l : Launch} {D : va_G} {cA : Nat → ClassId} {sk : (Nat → Nat) × (Nat → Nat)} {ad : Nat → Nat} {A : Nat → Prop} {V : Vk} {k0 : Nat} {g g0 : Hq} {r0 : Int32} (hr : r_J0_isLatin1_aae02 V k0 g = some (r0, g0)) : Met l yJ0_isLatin1_aae02 (wM yJ0_isLatin1_aae02 cJ0_isLatin1_aae02 1 (some .boolean)) { frames := 0, cells := 0, slots := 0, locals := 0 } (Pre D cA sk ad (V, g) A [.ref (sk.1 k0)]) (QI D cA ad A r0 (V, g0)) 0 0 A := by
  refine Met.ofW (cc := cJ0_isLatin1_aae02) (maxL := 1) (ret := (some .boolean)) (by decide) rfl ?_
  intro p e s m args below meth c s₁ B hml hv
  obtain ⟨rfl, fx, w0⟩ := hv
  have hts := atoms_spec (ws := wM yJ0_isLatin1_aae02 cJ0_isLatin1_aae02 1 (some .boolean)) B.pre
  have cx : CallFix p m c cJ0_isLatin1_aae02 1 s ([.ref (sk.1 k0)] : List Value).toArray gw_tbl RJ0 := ⟨B.exec, B.bytes, hml, findClass_of_methodNamed B.named, fun w hw => hts w (List.mem_cons_of_mem _ hw)⟩
  have hlocks := B.notSynchronized
  have hret := B.returns
  have hR : 0 ≤ (headSpec (wM yJ0_isLatin1_aae02 cJ0_isLatin1_aae02 1 (some .boolean)) { frames := 0, cells := 0, slots := 0, locals := 0 }).room.frames ∧ 0 ≤ (headSpec (wM yJ0_isLatin1_aae02 cJ0_isLatin1_aae02 1 (some .boolean)) { frames := 0, cells := 0, slots := 0, locals := 0 }).room.locals := ⟨Nat.le_refl _, Nat.le_refl _⟩
  have dy : Dy D cA ad (V, g) A s.heap s.heap [] := ⟨w0, va_S.rf⟩
  have hl := lv_entry [.ref (sk.1 k0)] (n := 1) (Nat.le_of_ble_eq_true rfl)
  rw [lg_entry_eq]
  generalize (lg_sl [.ref (sk.1 k0)] ++ List.replicate (1 - (lg_sl [.ref (sk.1 k0)]).length) Slot.unset).toArray = ls at hl ⊢
  have hl : lv_has ls 1 [(0, .ref (sk.1 k0))] := hl
  have dy0 : ∃ H0, H0 = s.heap ∧ Dy D cA ad (V, g) A s.heap H0 [] := ⟨_, rfl, dy⟩
  obtain ⟨z, ez⟩ : ∃ z, z = (r0, g0) := ⟨_, rfl⟩
  rw [← ez] at hr
  have hq0 : ∀ (rb : Int32) (gb : Hq), z = (rb, gb) → rb = r0 ∧ gb = g0 := fun rb gb eb => by rw [ez] at eb; exact ⟨(congrArg Prod.fst eb).symm, (congrArg Prod.snd eb).symm⟩
  clear ez w0 dy0
  unfold r_J0_isLatin1_aae02 at hr
  obtain ⟨H, hH⟩ : ∃ H, H = s.heap := ⟨_, rfl⟩
  obtain ⟨locs, hlo⟩ : ∃ q : List Loc, q = [] := ⟨_, rfl⟩
  have dy : Dy D cA ad (V, g) A s.heap H locs := by rw [hH, hlo]; exact dy
  suffices K : W p l e (headSpec (wM yJ0_isLatin1_aae02 cJ0_isLatin1_aae02 1 (some .boolean)) { frames := 0, cells := 0, slots := 0, locals := 0 }).room s m ([.ref (sk.1 k0)] : List Value).toArray below meth c H locs 0 0 (MQ below (QI D cA ad A r0 (V, g0)) ([.ref (sk.1 k0)] : List Value).toArray s 0 0 A) (F0 m 0 ls []) by rw [hH, hlo] at K; exact K
  clear hH hlo
  refine va_gets (v := .int 1) cx.1 cx.2.1 fx.2.2.1.2.2.1 dy.2 cx.2.2.2.1 (cx.2.2.2.2 _ tb_591) (fun _ h9 => h9) dJ0_isLatin1_aae02_0 ?_
  refine lv_if_eq (tgt := 17) cx.1 cx.2.1 dJ0_isLatin1_aae02_3 (by decide) (fun hn => absurd hn (by decide)) (fun _ => ?_)
  refine lv_aload_n cx.1 cx.2.1 dJ0_isLatin1_aae02_6 rfl (lv_at hl 0 rfl) ?_
  obtain ⟨hv1, hr⟩ := of_grd hr
  refine vk_getf cx.1 cx.2.1 (fx.2.2.1.1.1 k0 hv1).2.1 dy.2 cx.2.2.2.1 (cx.2.2.2.2 _ tb_1363) (fun _ h9 => h9) dJ0_isLatin1_aae02_7 ?_
  refine lv_if_ne (tgt := 17) cx.1 cx.2.1 dJ0_isLatin1_aae02_10 (by decide) (fun hn => absurd hn (by decide)) (fun _ => ?_)
  refine lv_iconst (v := 1) cx.1 cx.2.1 dJ0_isLatin1_aae02_13 (by decide) ?_
  refine lv_goto (tgt := 18) cx.1 cx.2.1 dJ0_isLatin1_aae02_14 (by decide) ?_
  obtain ⟨e0, e1⟩ := hq0 _ _ (Option.some.inj hr).symm
  exact h_iret cx dy hlocks hret rfl e0 (by rw [e1]) dJ0_isLatin1_aae02_18
noncomputable def r_J0_coder_7d493 (V : Vk) (k0 : Nat) (g : Hq) : Option (Int32 × Hq) :=
  grd (k0 < 14) <| some ((0 : Int32), g)
set_option maxHeartbeats 4000000 in
set_option maxRecDepth 100000 in
theorem c_J0_coder_7d493 {l : Launch} {D : va_G} {cA : Nat → ClassId} {sk : (Nat → Nat) × (Nat → Nat)} {ad : Nat → Nat} {A : Nat → Prop} {V : Vk} {k0 : Nat} {g g0 : Hq} {r0 : Int32} (hr : r_J0_coder_7d493 V k0 g = some (r0, g0)) : Met l yJ0_coder_7d493 (wM yJ0_coder_7d493 cJ0_coder_7d493 1 (some .byte)) { frames := 0, cells := 0, slots := 0, locals := 0 } (Pre D cA sk ad (V, g) A [.ref (sk.1 k0)]) (QI D cA ad A r0 (V, g0)) 0 0 A := by
  refine Met.ofW (cc := cJ0_coder_7d493) (maxL := 1) (ret := (some .byte)) (by decide) rfl ?_
  intro p e s m args below meth c s₁ B hml hv
  obtain ⟨rfl, fx, w0⟩ := hv
  have hts := atoms_spec (ws := wM yJ0_coder_7d493 cJ0_coder_7d493 1 (some .byte)) B.pre
  have cx : CallFix p m c cJ0_coder_7d493 1 s ([.ref (sk.1 k0)] : List Value).toArray gw_tbl RJ0 := ⟨B.exec, B.bytes, hml, findClass_of_methodNamed B.named, fun w hw => hts w (List.mem_cons_of_mem _ hw)⟩
  have hlocks := B.notSynchronized
  have hret := B.returns
  have hR : 0 ≤ (headSpec (wM yJ0_coder_7d493 cJ0_coder_7d493 1 (some .byte)) { frames := 0, cells := 0, slots := 0, locals := 0 }).room.frames ∧ 0 ≤ (headSpec (wM yJ0_coder_7d493 cJ0_coder_7d493 1 (some .byte)) { frames := 0, cells := 0, slots := 0, locals := 0 }).room.locals := ⟨Nat.le_refl _, Nat.le_refl _⟩
  have dy : Dy D cA ad (V, g) A s.heap s.heap [] := ⟨w0, va_S.rf⟩
  have hl := lv_entry [.ref (sk.1 k0)] (n := 1) (Nat.le_of_ble_eq_true rfl)
  rw [lg_entry_eq]
  generalize (lg_sl [.ref (sk.1 k0)] ++ List.replicate (1 - (lg_sl [.ref (sk.1 k0)]).length) Slot.unset).toArray = ls at hl ⊢
  have hl : lv_has ls 1 [(0, .ref (sk.1 k0))] := hl
  have dy0 : ∃ H0, H0 = s.heap ∧ Dy D cA ad (V, g) A s.heap H0 [] := ⟨_, rfl, dy⟩
  obtain ⟨z, ez⟩ : ∃ z, z = (r0, g0) := ⟨_, rfl⟩
  rw [← ez] at hr
  have hq0 : ∀ (rb : Int32) (gb : Hq), z = (rb, gb) → rb = r0 ∧ gb = g0 := fun rb gb eb => by rw [ez] at eb; exact ⟨(congrArg Prod.fst eb).symm, (congrArg Prod.snd eb).symm⟩
  clear ez w0 dy0
  unfold r_J0_coder_7d493 at hr
  obtain ⟨H, hH⟩ : ∃ H, H = s.heap := ⟨_, rfl⟩
  obtain ⟨locs, hlo⟩ : ∃ q : List Loc, q = [] := ⟨_, rfl⟩
  have dy : Dy D cA ad (V, g) A s.heap H locs := by rw [hH, hlo]; exact dy
  suffices K : W p l e (headSpec (wM yJ0_coder_7d493 cJ0_coder_7d493 1 (some .byte)) { frames := 0, cells := 0, slots := 0, locals := 0 }).room s m ([.ref (sk.1 k0)] : List Value).toArray below meth c H locs 0 0 (MQ below (QI D cA ad A r0 (V, g0)) ([.ref (sk.1 k0)] : List Value).toArray s 0 0 A) (F0 m 0 ls []) by rw [hH, hlo] at K; exact K
  clear hH hlo
  refine va_gets (v := .int 1) cx.1 cx.2.1 fx.2.2.1.2.2.1 dy.2 cx.2.2.2.1 (cx.2.2.2.2 _ tb_591) (fun _ h9 => h9) dJ0_coder_7d493_0 ?_
  refine lv_if_eq (tgt := 13) cx.1 cx.2.1 dJ0_coder_7d493_3 (by decide) (fun hn => absurd hn (by decide)) (fun _ => ?_)
  refine lv_aload_n cx.1 cx.2.1 dJ0_coder_7d493_6 rfl (lv_at hl 0 rfl) ?_
  obtain ⟨hv1, hr⟩ := of_grd hr
  refine vk_getf cx.1 cx.2.1 (fx.2.2.1.1.1 k0 hv1).2.1 dy.2 cx.2.2.2.1 (cx.2.2.2.2 _ tb_1363) (fun _ h9 => h9) dJ0_coder_7d493_7 ?_
  refine lv_goto (tgt := 14) cx.1 cx.2.1 dJ0_coder_7d493_10 (by decide) ?_
  obtain ⟨e0, e1⟩ := hq0 _ _ (Option.some.inj hr).symm
  exact h_iret cx dy hlocks hret rfl e0 (by rw [e1]) dJ0_coder_7d493_14
noncomputable def r_J0_length_8abf5 (V : Vk) (k0 : Nat) (g : Hq) : Option (Int32 × Hq) :=
  grd (k0 < 14) <| bnd (r_J0_coder_7d493 V k0 g) fun x3 g2 => some (((nI (lenS.getD k0 0)) >>> (x3 &&& 31)), g2)
set_option maxHeartbeats 4000000 in
set_option maxRecDepth 100000 in
theorem c_J0_length_8abf5 {l : Launch} {D : va_G} {cA : Nat → ClassId} {sk : (Nat → Nat) × (Nat → Nat)} {ad : Nat → Nat} {A : Nat → Prop} {V : Vk} {k0 : Nat} {g g0 : Hq} {r0 : Int32} (hr : r_J0_length_8abf5 V k0 g = some (r0, g0)) : Met l yJ0_length_8abf5 (wM yJ0_length_8abf5 cJ0_length_8abf5 1 (some .int)) { frames := 1, cells := 0, slots := 0, locals := 20 } (Pre D cA sk ad (V, g) A [.ref (sk.1 k0)]) (QI D cA ad A r0 (V, g0)) 0 0 A := by
  refine Met.ofW (cc := cJ0_length_8abf5) (maxL := 1) (ret := (some .int)) (by decide) rfl ?_
  intro p e s m args below meth c s₁ B hml hv
  obtain ⟨rfl, fx, w0⟩ := hv
  have hts := atoms_spec (ws := wM yJ0_length_8abf5 cJ0_length_8abf5 1 (some .int)) B.pre
  have cx : CallFix p m c cJ0_length_8abf5 1 s ([.ref (sk.1 k0)] : List Value).toArray gw_tbl RJ0 := ⟨B.exec, B.bytes, hml, findClass_of_methodNamed B.named, fun w hw => hts w (List.mem_cons_of_mem _ hw)⟩
  have hlocks := B.notSynchronized
  have hret := B.returns
  have hR : 1 ≤ (headSpec (wM yJ0_length_8abf5 cJ0_length_8abf5 1 (some .int)) { frames := 1, cells := 0, slots := 0, locals := 20 }).room.frames ∧ 20 ≤ (headSpec (wM yJ0_length_8abf5 cJ0_length_8abf5 1 (some .int)) { frames := 1, cells := 0, slots := 0, locals := 20 }).room.locals := ⟨Nat.le_refl _, Nat.le_refl _⟩
  have dy : Dy D cA ad (V, g) A s.heap s.heap [] := ⟨w0, va_S.rf⟩
  have hl := lv_entry [.ref (sk.1 k0)] (n := 1) (Nat.le_of_ble_eq_true rfl)
  rw [lg_entry_eq]
  generalize (lg_sl [.ref (sk.1 k0)] ++ List.replicate (1 - (lg_sl [.ref (sk.1 k0)]).length) Slot.unset).toArray = ls at hl ⊢
  have hl : lv_has ls 1 [(0, .ref (sk.1 k0))] := hl
  have dy0 : ∃ H0, H0 = s.heap ∧ Dy D cA ad (V, g) A s.heap H0 [] := ⟨_, rfl, dy⟩
  obtain ⟨z, ez⟩ : ∃ z, z = (r0, g0) := ⟨_, rfl⟩
  rw [← ez] at hr
  have hq0 : ∀ (rb : Int32) (gb : Hq), z = (rb, gb) → rb = r0 ∧ gb = g0 := fun rb gb eb => by rw [ez] at eb; exact ⟨(congrArg Prod.fst eb).symm, (congrArg Prod.snd eb).symm⟩
  clear ez w0 dy0
  unfold r_J0_length_8abf5 at hr
  obtain ⟨H, hH⟩ : ∃ H, H = s.heap := ⟨_, rfl⟩
  obtain ⟨locs, hlo⟩ : ∃ q : List Loc, q = [] := ⟨_, rfl⟩
  have dy : Dy D cA ad (V, g) A s.heap H locs := by rw [hH, hlo]; exact dy
  suffices K : W p l e (headSpec (wM yJ0_length_8abf5 cJ0_length_8abf5 1 (some .int)) { frames := 1, cells := 0, slots := 0, locals := 20 }).room s m ([.ref (sk.1 k0)] : List Value).toArray below meth c H locs 0 0 (MQ below (QI D cA ad A r0 (V, g0)) ([.ref (sk.1 k0)] : List Value).toArray s 0 0 A) (F0 m 0 ls []) by rw [hH, hlo] at K; exact K
  clear hH hlo
  refine lv_aload_n cx.1 cx.2.1 dJ0_length_8abf5_0 rfl (lv_at hl 0 rfl) ?_
  obtain ⟨hv1, hr⟩ := of_grd hr
  refine vk_getf cx.1 cx.2.1 (fx.2.2.1.1.1 k0 hv1).2.2.1 dy.2 cx.2.2.2.1 (cx.2.2.2.2 _ tb_1362) (fun _ h9 => h9) dJ0_length_8abf5_1 ?_
  refine va_tlen (v := nI (lenS.getD k0 0)) cx.1 cx.2.1 (fx.2.2.1.1.1 k0 hv1).2.2.2 dy.2 rfl dJ0_length_8abf5_4 ?_
  refine lv_aload_n cx.1 cx.2.1 dJ0_length_8abf5_5 rfl (lv_at hl 0 rfl) ?_
  obtain ⟨x3, g2, hc4, hr⟩ := of_bnd2 hr
  refine r_i dy (k_VS (As := []) (b := k0) cx fx dy (c_J0_coder_7d493 hc4) mv_J0_coder_7d493 rfl rfl ⟨Nat.le_trans (by decide) hR.1, Nat.le_trans (by decide) hR.2⟩ tb_587 hv1 rfl hl.1 rfl (Nat.le_of_ble_eq_true rfl) ⟨Nat.zero_le _, Nat.zero_le _⟩ dJ0_length_8abf5_6) (fun H locs dy => ?_)
  refine lv_ishr cx.1 cx.2.1 dJ0_length_8abf5_9 ?_
  obtain ⟨e0, e1⟩ := hq0 _ _ (Option.some.inj hr).symm
  exact h_iret cx dy hlocks hret rfl e0 (by rw [e1]) dJ0_length_8abf5_10
noncomputable def r_J0_charAt_5068e (V : Vk) (k0 : Nat) (a1 : Int32) (g : Hq) : Option (Int32 × Hq) :=
  grd (k0 < 14) <| bnd (r_J0_isLatin1_aae02 V k0 g) fun x2 g1 => brn (x2 = 0) (none) (bnd (r_J1_charAt_3b067 V k0 a1 g1) fun x6 g5 => grd (narrow .char (.int x6) = .int x6) <| some (x6, g5))
set_option maxHeartbeats 4000000 in
set_option maxRecDepth 100000 in
theorem c_J0_charAt_5068e {l : Launch} {D : va_G} {cA : Nat → ClassId} {sk : (Nat → Nat) × (Nat → Nat)} {ad : Nat → Nat} {A : Nat → Prop} {V : Vk} {k0 : Nat} {a1 : Int32} {g g0 : Hq} {r0 : Int32} (hr : r_J0_charAt_5068e V k0 a1 g = some (r0, g0)) : Met l yJ0_charAt_5068e (wM yJ0_charAt_5068e cJ0_charAt_5068e 2 (some .char)) { frames := 3, cells := 0, slots := 0, locals := 64 } (Pre D cA sk ad (V, g) A [.ref (sk.1 k0), .int a1]) (QI D cA ad A r0 (V, g0)) 0 0 A := by
  refine Met.ofW (cc := cJ0_charAt_5068e) (maxL := 2) (ret := (some .char)) (by decide) rfl ?_
  intro p e s m args below meth c s₁ B hml hv
  obtain ⟨rfl, fx, w0⟩ := hv
  have hts := atoms_spec (ws := wM yJ0_charAt_5068e cJ0_charAt_5068e 2 (some .char)) B.pre
  have cx : CallFix p m c cJ0_charAt_5068e 2 s ([.ref (sk.1 k0), .int a1] : List Value).toArray gw_tbl RJ0 := ⟨B.exec, B.bytes, hml, findClass_of_methodNamed B.named, fun w hw => hts w (List.mem_cons_of_mem _ hw)⟩
  have hlocks := B.notSynchronized
  have hret := B.returns
  have hR : 3 ≤ (headSpec (wM yJ0_charAt_5068e cJ0_charAt_5068e 2 (some .char)) { frames := 3, cells := 0, slots := 0, locals := 64 }).room.frames ∧ 64 ≤ (headSpec (wM yJ0_charAt_5068e cJ0_charAt_5068e 2 (some .char)) { frames := 3, cells := 0, slots := 0, locals := 64 }).room.locals := ⟨Nat.le_refl _, Nat.le_refl _⟩
  have dy : Dy D cA ad (V, g) A s.heap s.heap [] := ⟨w0, va_S.rf⟩
  have hl := lv_entry [.ref (sk.1 k0), .int a1] (n := 2) (Nat.le_of_ble_eq_true rfl)
  rw [lg_entry_eq]
  generalize (lg_sl [.ref (sk.1 k0), .int a1] ++ List.replicate (2 - (lg_sl [.ref (sk.1 k0), .int a1]).length) Slot.unset).toArray = ls at hl ⊢
  have hl : lv_has ls 2 [(0, .ref (sk.1 k0)), (1, .int a1)] := hl
  have dy0 : ∃ H0, H0 = s.heap ∧ Dy D cA ad (V, g) A s.heap H0 [] := ⟨_, rfl, dy⟩
  obtain ⟨z, ez⟩ : ∃ z, z = (r0, g0) := ⟨_, rfl⟩
  rw [← ez] at hr
  have hq0 : ∀ (rb : Int32) (gb : Hq), z = (rb, gb) → rb = r0 ∧ gb = g0 := fun rb gb eb => by rw [ez] at eb; exact ⟨(congrArg Prod.fst eb).symm, (congrArg Prod.snd eb).symm⟩
  clear ez w0 dy0
  unfold r_J0_charAt_5068e at hr
  obtain ⟨H, hH⟩ : ∃ H, H = s.heap := ⟨_, rfl⟩
  obtain ⟨locs, hlo⟩ : ∃ q : List Loc, q = [] := ⟨_, rfl⟩
  have dy : Dy D cA ad (V, g) A s.heap H locs := by rw [hH, hlo]; exact dy
  suffices K : W p l e (headSpec (wM yJ0_charAt_5068e cJ0_charAt_5068e 2 (some .char)) { frames := 3, cells := 0, slots := 0, locals := 64 }).room s m ([.ref (sk.1 k0), .int a1] : List Value).toArray below meth c H locs 0 0 (MQ below (QI D cA ad A r0 (V, g0)) ([.ref (sk.1 k0), .int a1] : List Value).toArray s 0 0 A) (F0 m 0 ls []) by rw [hH, hlo] at K; exact K
  clear hH hlo
  refine lv_aload_n cx.1 cx.2.1 dJ0_charAt_5068e_0 rfl (lv_at hl 0 rfl) ?_
  obtain ⟨hv3, hr⟩ := of_grd hr
  obtain ⟨x2, g1, hc4, hr⟩ := of_bnd2 hr
  refine r_i dy (k_VS (As := []) (b := k0) cx fx dy (c_J0_isLatin1_aae02 hc4) mv_J0_isLatin1_aae02 rfl rfl ⟨Nat.le_trans (by decide) hR.1, Nat.le_trans (by decide) hR.2⟩ tb_597 hv3 rfl hl.1 rfl (Nat.le_of_ble_eq_true rfl) ⟨Nat.zero_le _, Nat.zero_le _⟩ dJ0_charAt_5068e_1) (fun H locs dy => ?_)
  rcases of_brn hr with ⟨hc, hr⟩ | ⟨hc, hr⟩
  · refine lv_if_eq (tgt := 16) cx.1 cx.2.1 dJ0_charAt_5068e_4 (by decide) (fun _ => ?_) (fun hn => absurd hc hn)
    cases hr
  · refine lv_if_eq (tgt := 16) cx.1 cx.2.1 dJ0_charAt_5068e_4 (by decide) (fun hn => absurd hn hc) (fun _ => ?_)
    refine lv_aload_n cx.1 cx.2.1 dJ0_charAt_5068e_7 rfl (lv_at hl 0 rfl) ?_
    refine vk_getf cx.1 cx.2.1 (fx.2.2.1.1.1 k0 hv3).2.2.1 dy.2 cx.2.2.2.1 (cx.2.2.2.2 _ tb_1362) (fun _ h9 => h9) dJ0_charAt_5068e_8 ?_
    refine lv_iload_n cx.1 cx.2.1 dJ0_charAt_5068e_11 rfl (lv_at hl 1 rfl) ?_
    obtain ⟨x6, g5, hc7, hr⟩ := of_bnd2 hr
    refine r_i dy (k_S (As := [.ref (sk.2 k0), .int a1]) cx fx dy (c_J1_charAt_3b067 hc7) mv_J1_charAt_3b067 rfl rfl ⟨Nat.le_trans (by decide) hR.1, Nat.le_trans (by decide) hR.2⟩ tb_601 rfl hl.1 rfl (Nat.le_of_ble_eq_true rfl) ⟨Nat.zero_le _, Nat.zero_le _⟩ dJ0_charAt_5068e_12) (fun H locs dy => ?_)
    obtain ⟨hb8, hr⟩ := of_grd hr
    obtain ⟨e0, e1⟩ := hq0 _ _ (Option.some.inj hr).symm
    exact h_iret cx dy hlocks hret hb8 e0 (by rw [e1]) dJ0_charAt_5068e_15
