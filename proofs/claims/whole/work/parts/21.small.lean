noncomputable def r_X11_isFrom (V : Vk) (a1 : Int32) (a2 : Int32) (a3 : Int32) (g : Hq) : Option (Int32 × Hq) :=
  brn (a1 < a2) (some ((0 : Int32), g)) (brn (a3 < a1) (some ((0 : Int32), g)) (some ((1 : Int32), g)))
set_option maxHeartbeats 4000000 in
set_option maxRecDepth 100000 in
theorem c_X11_isFrom {l : Launch} {D : va_G} {cA : Nat → ClassId} {sk : (Nat → Nat) × (Nat → Nat)} {ad : Nat → Nat} {A : Nat → Prop} {V : Vk} {a1 : Int32} {a2 : Int32} {a3 : Int32} {g g0 : Hq} {r0 : Int32} (hr : r_X11_isFrom V a1 a2 a3 g = some (r0, g0)) : Met l yX11_isFrom (wM yX11_isFrom cX11_isFrom 3 (some .boolean)) { frames := 0, cells := 0, slots := 0, locals := 0 } (Pre D cA sk ad (V, g) A [.int a1, .int a2, .int a3]) (QI D cA ad A r0 (V, g0)) 0 0 A := by
  refine Met.ofW (cc := cX11_isFrom) (maxL := 3) (ret := (some .boolean)) (by decide) rfl ?_
  intro p e s m args below meth c s₁ B hml hv
  obtain ⟨rfl, fx, w0⟩ := hv
  have hts := atoms_spec (ws := wM yX11_isFrom cX11_isFrom 3 (some .boolean)) B.pre
  have cx : CallFix p m c cX11_isFrom 3 s ([.int a1, .int a2, .int a3] : List Value).toArray gw_tbl RX11 := ⟨B.exec, B.bytes, hml, findClass_of_methodNamed B.named, fun w hw => hts w (List.mem_cons_of_mem _ hw)⟩
  have hlocks := B.notSynchronized
  have hret := B.returns
  have hR : 0 ≤ (headSpec (wM yX11_isFrom cX11_isFrom 3 (some .boolean)) { frames := 0, cells := 0, slots := 0, locals := 0 }).room.frames ∧ 0 ≤ (headSpec (wM yX11_isFrom cX11_isFrom 3 (some .boolean)) { frames := 0, cells := 0, slots := 0, locals := 0 }).room.locals := ⟨Nat.le_refl _, Nat.le_refl _⟩
  have dy : Dy D cA ad (V, g) A s.heap s.heap [] := ⟨w0, va_S.rf⟩
  have hl := lv_entry [.int a1, .int a2, .int a3] (n := 3) (Nat.le_of_ble_eq_true rfl)
  rw [lg_entry_eq]
  generalize (lg_sl [.int a1, .int a2, .int a3] ++ List.replicate (3 - (lg_sl [.int a1, .int a2, .int a3]).length) Slot.unset).toArray = ls at hl ⊢
  have hl : lv_has ls 3 [(0, .int a1), (1, .int a2), (2, .int a3)] := hl
  have dy0 : ∃ H0, H0 = s.heap ∧ Dy D cA ad (V, g) A s.heap H0 [] := ⟨_, rfl, dy⟩
  obtain ⟨z, ez⟩ : ∃ z, z = (r0, g0) := ⟨_, rfl⟩
  rw [← ez] at hr
  have hq0 : ∀ (rb : Int32) (gb : Hq), z = (rb, gb) → rb = r0 ∧ gb = g0 := fun rb gb eb => by rw [ez] at eb; exact ⟨(congrArg Prod.fst eb).symm, (congrArg Prod.snd eb).symm⟩
  clear ez w0 dy0
  unfold r_X11_isFrom at hr
  obtain ⟨H, hH⟩ : ∃ H, H = s.heap := ⟨_, rfl⟩
  obtain ⟨locs, hlo⟩ : ∃ q : List Loc, q = [] := ⟨_, rfl⟩
  have dy : Dy D cA ad (V, g) A s.heap H locs := by rw [hH, hlo]; exact dy
  suffices K : W p l e (headSpec (wM yX11_isFrom cX11_isFrom 3 (some .boolean)) { frames := 0, cells := 0, slots := 0, locals := 0 }).room s m ([.int a1, .int a2, .int a3] : List Value).toArray below meth c H locs 0 0 (MQ below (QI D cA ad A r0 (V, g0)) ([.int a1, .int a2, .int a3] : List Value).toArray s 0 0 A) (F0 m 0 ls []) by rw [hH, hlo] at K; exact K
  clear hH hlo
  refine lv_iload_n cx.1 cx.2.1 dX11_isFrom_0 rfl (lv_at hl 0 rfl) ?_
  refine lv_iload_n cx.1 cx.2.1 dX11_isFrom_1 rfl (lv_at hl 1 rfl) ?_
  rcases of_brn hr with ⟨hc, hr⟩ | ⟨hc, hr⟩
  · refine lv_icmp_lt (tgt := 14) cx.1 cx.2.1 dX11_isFrom_2 (by decide) (fun _ => ?_) (fun hn => absurd hc hn)
    refine lv_iconst (v := 0) cx.1 cx.2.1 dX11_isFrom_14 (by decide) ?_
    obtain ⟨e0, e1⟩ := hq0 _ _ (Option.some.inj hr).symm
    exact h_iret cx dy hlocks hret rfl e0 (by rw [e1]) dX11_isFrom_15
  · refine lv_icmp_lt (tgt := 14) cx.1 cx.2.1 dX11_isFrom_2 (by decide) (fun hn => absurd hn hc) (fun _ => ?_)
    refine lv_iload_n cx.1 cx.2.1 dX11_isFrom_5 rfl (lv_at hl 0 rfl) ?_
    refine lv_iload_n cx.1 cx.2.1 dX11_isFrom_6 rfl (lv_at hl 2 rfl) ?_
    rcases of_brn hr with ⟨hc, hr⟩ | ⟨hc, hr⟩
    · refine lv_icmp_gt (tgt := 14) cx.1 cx.2.1 dX11_isFrom_7 (by decide) (fun _ => ?_) (fun hn => absurd hc hn)
      refine lv_iconst (v := 0) cx.1 cx.2.1 dX11_isFrom_14 (by decide) ?_
      obtain ⟨e0, e1⟩ := hq0 _ _ (Option.some.inj hr).symm
      exact h_iret cx dy hlocks hret rfl e0 (by rw [e1]) dX11_isFrom_15
    · refine lv_icmp_gt (tgt := 14) cx.1 cx.2.1 dX11_isFrom_7 (by decide) (fun hn => absurd hn hc) (fun _ => ?_)
      refine lv_iconst (v := 1) cx.1 cx.2.1 dX11_isFrom_10 (by decide) ?_
      refine lv_goto (tgt := 15) cx.1 cx.2.1 dX11_isFrom_11 (by decide) ?_
      obtain ⟨e0, e1⟩ := hq0 _ _ (Option.some.inj hr).symm
      exact h_iret cx dy hlocks hret rfl e0 (by rw [e1]) dX11_isFrom_15
noncomputable def r_X11_isCourt (V : Vk) (a1 : Int32) (g : Hq) : Option (Int32 × Hq) :=
  bnd (r_X11_isFrom V a1 (0 : Int32) (11 : Int32) g) fun x2 g1 => grd (narrow .boolean (.int x2) = .int x2) <| some (x2, g1)
set_option maxHeartbeats 4000000 in
set_option maxRecDepth 100000 in
theorem c_X11_isCourt {l : Launch} {D : va_G} {cA : Nat → ClassId} {sk : (Nat → Nat) × (Nat → Nat)} {ad : Nat → Nat} {A : Nat → Prop} {V : Vk} {a1 : Int32} {g g0 : Hq} {r0 : Int32} (hr : r_X11_isCourt V a1 g = some (r0, g0)) : Met l yX11_isCourt (wM yX11_isCourt cX11_isCourt 1 (some .boolean)) { frames := 1, cells := 0, slots := 0, locals := 22 } (Pre D cA sk ad (V, g) A [.int a1]) (QI D cA ad A r0 (V, g0)) 0 0 A := by
  refine Met.ofW (cc := cX11_isCourt) (maxL := 1) (ret := (some .boolean)) (by decide) rfl ?_
  intro p e s m args below meth c s₁ B hml hv
  obtain ⟨rfl, fx, w0⟩ := hv
  have hts := atoms_spec (ws := wM yX11_isCourt cX11_isCourt 1 (some .boolean)) B.pre
  have cx : CallFix p m c cX11_isCourt 1 s ([.int a1] : List Value).toArray gw_tbl RX11 := ⟨B.exec, B.bytes, hml, findClass_of_methodNamed B.named, fun w hw => hts w (List.mem_cons_of_mem _ hw)⟩
  have hlocks := B.notSynchronized
  have hret := B.returns
  have hR : 1 ≤ (headSpec (wM yX11_isCourt cX11_isCourt 1 (some .boolean)) { frames := 1, cells := 0, slots := 0, locals := 22 }).room.frames ∧ 22 ≤ (headSpec (wM yX11_isCourt cX11_isCourt 1 (some .boolean)) { frames := 1, cells := 0, slots := 0, locals := 22 }).room.locals := ⟨Nat.le_refl _, Nat.le_refl _⟩
  have dy : Dy D cA ad (V, g) A s.heap s.heap [] := ⟨w0, va_S.rf⟩
  have hl := lv_entry [.int a1] (n := 1) (Nat.le_of_ble_eq_true rfl)
  rw [lg_entry_eq]
  generalize (lg_sl [.int a1] ++ List.replicate (1 - (lg_sl [.int a1]).length) Slot.unset).toArray = ls at hl ⊢
  have hl : lv_has ls 1 [(0, .int a1)] := hl
  have dy0 : ∃ H0, H0 = s.heap ∧ Dy D cA ad (V, g) A s.heap H0 [] := ⟨_, rfl, dy⟩
  obtain ⟨z, ez⟩ : ∃ z, z = (r0, g0) := ⟨_, rfl⟩
  rw [← ez] at hr
  have hq0 : ∀ (rb : Int32) (gb : Hq), z = (rb, gb) → rb = r0 ∧ gb = g0 := fun rb gb eb => by rw [ez] at eb; exact ⟨(congrArg Prod.fst eb).symm, (congrArg Prod.snd eb).symm⟩
  clear ez w0 dy0
  unfold r_X11_isCourt at hr
  obtain ⟨H, hH⟩ : ∃ H, H = s.heap := ⟨_, rfl⟩
  obtain ⟨locs, hlo⟩ : ∃ q : List Loc, q = [] := ⟨_, rfl⟩
  have dy : Dy D cA ad (V, g) A s.heap H locs := by rw [hH, hlo]; exact dy
  suffices K : W p l e (headSpec (wM yX11_isCourt cX11_isCourt 1 (some .boolean)) { frames := 1, cells := 0, slots := 0, locals := 22 }).room s m ([.int a1] : List Value).toArray below meth c H locs 0 0 (MQ below (QI D cA ad A r0 (V, g0)) ([.int a1] : List Value).toArray s 0 0 A) (F0 m 0 ls []) by rw [hH, hlo] at K; exact K
  clear hH hlo
  refine lv_iload_n cx.1 cx.2.1 dX11_isCourt_0 rfl (lv_at hl 0 rfl) ?_
  refine lv_iconst (v := 0) cx.1 cx.2.1 dX11_isCourt_1 (by decide) ?_
  refine lv_bipush (v := 11) cx.1 cx.2.1 dX11_isCourt_2 (by decide) ?_
  obtain ⟨x2, g1, hc3, hr⟩ := of_bnd2 hr
  refine r_i dy (k_S (As := [.int a1, .int (0 : Int32), .int (11 : Int32)]) cx fx dy (c_X11_isFrom hc3) mv_X11_isFrom rfl rfl ⟨Nat.le_trans (by decide) hR.1, Nat.le_trans (by decide) hR.2⟩ tb_424 rfl hl.1 rfl (Nat.le_of_ble_eq_true rfl) ⟨Nat.zero_le _, Nat.zero_le _⟩ dX11_isCourt_4) (fun H locs dy => ?_)
  obtain ⟨hb4, hr⟩ := of_grd hr
  obtain ⟨e0, e1⟩ := hq0 _ _ (Option.some.inj hr).symm
  exact h_iret cx dy hlocks hret hb4 e0 (by rw [e1]) dX11_isCourt_7
noncomputable def r_X11_isWard (V : Vk) (a1 : Int32) (g : Hq) : Option (Int32 × Hq) :=
  bnd (r_X11_isFrom V a1 (0 : Int32) (3 : Int32) g) fun x2 g1 => grd (narrow .boolean (.int x2) = .int x2) <| some (x2, g1)
set_option maxHeartbeats 4000000 in
set_option maxRecDepth 100000 in
theorem c_X11_isWard {l : Launch} {D : va_G} {cA : Nat → ClassId} {sk : (Nat → Nat) × (Nat → Nat)} {ad : Nat → Nat} {A : Nat → Prop} {V : Vk} {a1 : Int32} {g g0 : Hq} {r0 : Int32} (hr : r_X11_isWard V a1 g = some (r0, g0)) : Met l yX11_isWard (wM yX11_isWard cX11_isWard 1 (some .boolean)) { frames := 1, cells := 0, slots := 0, locals := 22 } (Pre D cA sk ad (V, g) A [.int a1]) (QI D cA ad A r0 (V, g0)) 0 0 A := by
  refine Met.ofW (cc := cX11_isWard) (maxL := 1) (ret := (some .boolean)) (by decide) rfl ?_
  intro p e s m args below meth c s₁ B hml hv
  obtain ⟨rfl, fx, w0⟩ := hv
  have hts := atoms_spec (ws := wM yX11_isWard cX11_isWard 1 (some .boolean)) B.pre
  have cx : CallFix p m c cX11_isWard 1 s ([.int a1] : List Value).toArray gw_tbl RX11 := ⟨B.exec, B.bytes, hml, findClass_of_methodNamed B.named, fun w hw => hts w (List.mem_cons_of_mem _ hw)⟩
  have hlocks := B.notSynchronized
  have hret := B.returns
  have hR : 1 ≤ (headSpec (wM yX11_isWard cX11_isWard 1 (some .boolean)) { frames := 1, cells := 0, slots := 0, locals := 22 }).room.frames ∧ 22 ≤ (headSpec (wM yX11_isWard cX11_isWard 1 (some .boolean)) { frames := 1, cells := 0, slots := 0, locals := 22 }).room.locals := ⟨Nat.le_refl _, Nat.le_refl _⟩
  have dy : Dy D cA ad (V, g) A s.heap s.heap [] := ⟨w0, va_S.rf⟩
  have hl := lv_entry [.int a1] (n := 1) (Nat.le_of_ble_eq_true rfl)
  rw [lg_entry_eq]
  generalize (lg_sl [.int a1] ++ List.replicate (1 - (lg_sl [.int a1]).length) Slot.unset).toArray = ls at hl ⊢
  have hl : lv_has ls 1 [(0, .int a1)] := hl
  have dy0 : ∃ H0, H0 = s.heap ∧ Dy D cA ad (V, g) A s.heap H0 [] := ⟨_, rfl, dy⟩
  obtain ⟨z, ez⟩ : ∃ z, z = (r0, g0) := ⟨_, rfl⟩
  rw [← ez] at hr
  have hq0 : ∀ (rb : Int32) (gb : Hq), z = (rb, gb) → rb = r0 ∧ gb = g0 := fun rb gb eb => by rw [ez] at eb; exact ⟨(congrArg Prod.fst eb).symm, (congrArg Prod.snd eb).symm⟩
  clear ez w0 dy0
  unfold r_X11_isWard at hr
  obtain ⟨H, hH⟩ : ∃ H, H = s.heap := ⟨_, rfl⟩
  obtain ⟨locs, hlo⟩ : ∃ q : List Loc, q = [] := ⟨_, rfl⟩
  have dy : Dy D cA ad (V, g) A s.heap H locs := by rw [hH, hlo]; exact dy
  suffices K : W p l e (headSpec (wM yX11_isWard cX11_isWard 1 (some .boolean)) { frames := 1, cells := 0, slots := 0, locals := 22 }).room s m ([.int a1] : List Value).toArray below meth c H locs 0 0 (MQ below (QI D cA ad A r0 (V, g0)) ([.int a1] : List Value).toArray s 0 0 A) (F0 m 0 ls []) by rw [hH, hlo] at K; exact K
  clear hH hlo
  refine lv_iload_n cx.1 cx.2.1 dX11_isWard_0 rfl (lv_at hl 0 rfl) ?_
  refine lv_iconst (v := 0) cx.1 cx.2.1 dX11_isWard_1 (by decide) ?_
  refine lv_iconst (v := 3) cx.1 cx.2.1 dX11_isWard_2 (by decide) ?_
  obtain ⟨x2, g1, hc3, hr⟩ := of_bnd2 hr
  refine r_i dy (k_S (As := [.int a1, .int (0 : Int32), .int (3 : Int32)]) cx fx dy (c_X11_isFrom hc3) mv_X11_isFrom rfl rfl ⟨Nat.le_trans (by decide) hR.1, Nat.le_trans (by decide) hR.2⟩ tb_424 rfl hl.1 rfl (Nat.le_of_ble_eq_true rfl) ⟨Nat.zero_le _, Nat.zero_le _⟩ dX11_isWard_3) (fun H locs dy => ?_)
  obtain ⟨hb4, hr⟩ := of_grd hr
  obtain ⟨e0, e1⟩ := hq0 _ _ (Option.some.inj hr).symm
  exact h_iret cx dy hlocks hret hb4 e0 (by rw [e1]) dX11_isWard_6
noncomputable def r_X11_isTaking (V : Vk) (a1 : Int32) (a2 : Int32) (a3 : Int32) (g : Hq) : Option (Int32 × Hq) :=
  bnd (r_X11_isWard V a1 g) fun x2 g1 => brn (x2 = 0) (some ((0 : Int32), g1)) (bnd (r_X11_isFrom V a2 (0 : Int32) (2 : Int32) g1) fun x5 g4 => brn (x5 = 0) (some ((0 : Int32), g4)) (bnd (r_X11_isFrom V a3 (0 : Int32) (23 : Int32) g4) fun x8 g7 => brn (x8 = 0) (some ((0 : Int32), g7)) (some ((1 : Int32), g7))))
set_option maxHeartbeats 4000000 in
set_option maxRecDepth 100000 in
theorem c_X11_isTaking {l : Launch} {D : va_G} {cA : Nat → ClassId} {sk : (Nat → Nat) × (Nat → Nat)} {ad : Nat → Nat} {A : Nat → Prop} {V : Vk} {a1 : Int32} {a2 : Int32} {a3 : Int32} {g g0 : Hq} {r0 : Int32} (hr : r_X11_isTaking V a1 a2 a3 g = some (r0, g0)) : Met l yX11_isTaking (wM yX11_isTaking cX11_isTaking 3 (some .boolean)) { frames := 2, cells := 0, slots := 0, locals := 42 } (Pre D cA sk ad (V, g) A [.int a1, .int a2, .int a3]) (QI D cA ad A r0 (V, g0)) 0 0 A := by
  refine Met.ofW (cc := cX11_isTaking) (maxL := 3) (ret := (some .boolean)) (by decide) rfl ?_
  intro p e s m args below meth c s₁ B hml hv
  obtain ⟨rfl, fx, w0⟩ := hv
  have hts := atoms_spec (ws := wM yX11_isTaking cX11_isTaking 3 (some .boolean)) B.pre
  have cx : CallFix p m c cX11_isTaking 3 s ([.int a1, .int a2, .int a3] : List Value).toArray gw_tbl RX11 := ⟨B.exec, B.bytes, hml, findClass_of_methodNamed B.named, fun w hw => hts w (List.mem_cons_of_mem _ hw)⟩
  have hlocks := B.notSynchronized
  have hret := B.returns
  have hR : 2 ≤ (headSpec (wM yX11_isTaking cX11_isTaking 3 (some .boolean)) { frames := 2, cells := 0, slots := 0, locals := 42 }).room.frames ∧ 42 ≤ (headSpec (wM yX11_isTaking cX11_isTaking 3 (some .boolean)) { frames := 2, cells := 0, slots := 0, locals := 42 }).room.locals := ⟨Nat.le_refl _, Nat.le_refl _⟩
  have dy : Dy D cA ad (V, g) A s.heap s.heap [] := ⟨w0, va_S.rf⟩
  have hl := lv_entry [.int a1, .int a2, .int a3] (n := 3) (Nat.le_of_ble_eq_true rfl)
  rw [lg_entry_eq]
  generalize (lg_sl [.int a1, .int a2, .int a3] ++ List.replicate (3 - (lg_sl [.int a1, .int a2, .int a3]).length) Slot.unset).toArray = ls at hl ⊢
  have hl : lv_has ls 3 [(0, .int a1), (1, .int a2), (2, .int a3)] := hl
  have dy0 : ∃ H0, H0 = s.heap ∧ Dy D cA ad (V, g) A s.heap H0 [] := ⟨_, rfl, dy⟩
  obtain ⟨z, ez⟩ : ∃ z, z = (r0, g0) := ⟨_, rfl⟩
  rw [← ez] at hr
  have hq0 : ∀ (rb : Int32) (gb : Hq), z = (rb, gb) → rb = r0 ∧ gb = g0 := fun rb gb eb => by rw [ez] at eb; exact ⟨(congrArg Prod.fst eb).symm, (congrArg Prod.snd eb).symm⟩
  clear ez w0 dy0
  unfold r_X11_isTaking at hr
  obtain ⟨H, hH⟩ : ∃ H, H = s.heap := ⟨_, rfl⟩
  obtain ⟨locs, hlo⟩ : ∃ q : List Loc, q = [] := ⟨_, rfl⟩
  have dy : Dy D cA ad (V, g) A s.heap H locs := by rw [hH, hlo]; exact dy
  suffices K : W p l e (headSpec (wM yX11_isTaking cX11_isTaking 3 (some .boolean)) { frames := 2, cells := 0, slots := 0, locals := 42 }).room s m ([.int a1, .int a2, .int a3] : List Value).toArray below meth c H locs 0 0 (MQ below (QI D cA ad A r0 (V, g0)) ([.int a1, .int a2, .int a3] : List Value).toArray s 0 0 A) (F0 m 0 ls []) by rw [hH, hlo] at K; exact K
  clear hH hlo
  refine lv_iload_n cx.1 cx.2.1 dX11_isTaking_0 rfl (lv_at hl 0 rfl) ?_
  obtain ⟨x2, g1, hc3, hr⟩ := of_bnd2 hr
  refine r_i dy (k_S (As := [.int a1]) cx fx dy (c_X11_isWard hc3) mv_X11_isWard rfl rfl ⟨Nat.le_trans (by decide) hR.1, Nat.le_trans (by decide) hR.2⟩ tb_427 rfl hl.1 rfl (Nat.le_of_ble_eq_true rfl) ⟨Nat.zero_le _, Nat.zero_le _⟩ dX11_isTaking_1) (fun H locs dy => ?_)
  rcases of_brn hr with ⟨hc, hr⟩ | ⟨hc, hr⟩
  · refine lv_if_eq (tgt := 30) cx.1 cx.2.1 dX11_isTaking_4 (by decide) (fun _ => ?_) (fun hn => absurd hc hn)
    refine lv_iconst (v := 0) cx.1 cx.2.1 dX11_isTaking_30 (by decide) ?_
    obtain ⟨e0, e1⟩ := hq0 _ _ (Option.some.inj hr).symm
    exact h_iret cx dy hlocks hret rfl e0 (by rw [e1]) dX11_isTaking_31
  · refine lv_if_eq (tgt := 30) cx.1 cx.2.1 dX11_isTaking_4 (by decide) (fun hn => absurd hn hc) (fun _ => ?_)
    refine lv_iload_n cx.1 cx.2.1 dX11_isTaking_7 rfl (lv_at hl 1 rfl) ?_
    refine lv_iconst (v := 0) cx.1 cx.2.1 dX11_isTaking_8 (by decide) ?_
    refine lv_iconst (v := 2) cx.1 cx.2.1 dX11_isTaking_9 (by decide) ?_
    obtain ⟨x5, g4, hc6, hr⟩ := of_bnd2 hr
    refine r_i dy (k_S (As := [.int a2, .int (0 : Int32), .int (2 : Int32)]) cx fx dy (c_X11_isFrom hc6) mv_X11_isFrom rfl rfl ⟨Nat.le_trans (by decide) hR.1, Nat.le_trans (by decide) hR.2⟩ tb_424 rfl hl.1 rfl (Nat.le_of_ble_eq_true rfl) ⟨Nat.zero_le _, Nat.zero_le _⟩ dX11_isTaking_10) (fun H locs dy => ?_)
    rcases of_brn hr with ⟨hc, hr⟩ | ⟨hc, hr⟩
    · refine lv_if_eq (tgt := 30) cx.1 cx.2.1 dX11_isTaking_13 (by decide) (fun _ => ?_) (fun hn => absurd hc hn)
      refine lv_iconst (v := 0) cx.1 cx.2.1 dX11_isTaking_30 (by decide) ?_
      obtain ⟨e0, e1⟩ := hq0 _ _ (Option.some.inj hr).symm
      exact h_iret cx dy hlocks hret rfl e0 (by rw [e1]) dX11_isTaking_31
    · refine lv_if_eq (tgt := 30) cx.1 cx.2.1 dX11_isTaking_13 (by decide) (fun hn => absurd hn hc) (fun _ => ?_)
      refine lv_iload_n cx.1 cx.2.1 dX11_isTaking_16 rfl (lv_at hl 2 rfl) ?_
      refine lv_iconst (v := 0) cx.1 cx.2.1 dX11_isTaking_17 (by decide) ?_
      refine lv_bipush (v := 23) cx.1 cx.2.1 dX11_isTaking_18 (by decide) ?_
      obtain ⟨x8, g7, hc9, hr⟩ := of_bnd2 hr
      refine r_i dy (k_S (As := [.int a3, .int (0 : Int32), .int (23 : Int32)]) cx fx dy (c_X11_isFrom hc9) mv_X11_isFrom rfl rfl ⟨Nat.le_trans (by decide) hR.1, Nat.le_trans (by decide) hR.2⟩ tb_424 rfl hl.1 rfl (Nat.le_of_ble_eq_true rfl) ⟨Nat.zero_le _, Nat.zero_le _⟩ dX11_isTaking_20) (fun H locs dy => ?_)
      rcases of_brn hr with ⟨hc, hr⟩ | ⟨hc, hr⟩
      · refine lv_if_eq (tgt := 30) cx.1 cx.2.1 dX11_isTaking_23 (by decide) (fun _ => ?_) (fun hn => absurd hc hn)
        refine lv_iconst (v := 0) cx.1 cx.2.1 dX11_isTaking_30 (by decide) ?_
        obtain ⟨e0, e1⟩ := hq0 _ _ (Option.some.inj hr).symm
        exact h_iret cx dy hlocks hret rfl e0 (by rw [e1]) dX11_isTaking_31
      · refine lv_if_eq (tgt := 30) cx.1 cx.2.1 dX11_isTaking_23 (by decide) (fun hn => absurd hn hc) (fun _ => ?_)
        refine lv_iconst (v := 1) cx.1 cx.2.1 dX11_isTaking_26 (by decide) ?_
        refine lv_goto (tgt := 31) cx.1 cx.2.1 dX11_isTaking_27 (by decide) ?_
        obtain ⟨e0, e1⟩ := hq0 _ _ (Option.some.inj hr).symm
        exact h_iret cx dy hlocks hret rfl e0 (by rw [e1]) dX11_isTaking_31
noncomputable def r_X11_isInTable (V : Vk) (a1 : Int32) (g : Hq) : Option (Int32 × Hq) :=
  bnd (r_X11_isFrom V a1 (0 : Int32) (15 : Int32) g) fun x2 g1 => grd (narrow .boolean (.int x2) = .int x2) <| some (x2, g1)
set_option maxHeartbeats 4000000 in
set_option maxRecDepth 100000 in
theorem c_X11_isInTable {l : Launch} {D : va_G} {cA : Nat → ClassId} {sk : (Nat → Nat) × (Nat → Nat)} {ad : Nat → Nat} {A : Nat → Prop} {V : Vk} {a1 : Int32} {g g0 : Hq} {r0 : Int32} (hr : r_X11_isInTable V a1 g = some (r0, g0)) : Met l yX11_isInTable (wM yX11_isInTable cX11_isInTable 1 (some .boolean)) { frames := 1, cells := 0, slots := 0, locals := 22 } (Pre D cA sk ad (V, g) A [.int a1]) (QI D cA ad A r0 (V, g0)) 0 0 A := by
  refine Met.ofW (cc := cX11_isInTable) (maxL := 1) (ret := (some .boolean)) (by decide) rfl ?_
  intro p e s m args below meth c s₁ B hml hv
  obtain ⟨rfl, fx, w0⟩ := hv
  have hts := atoms_spec (ws := wM yX11_isInTable cX11_isInTable 1 (some .boolean)) B.pre
  have cx : CallFix p m c cX11_isInTable 1 s ([.int a1] : List Value).toArray gw_tbl RX11 := ⟨B.exec, B.bytes, hml, findClass_of_methodNamed B.named, fun w hw => hts w (List.mem_cons_of_mem _ hw)⟩
  have hlocks := B.notSynchronized
  have hret := B.returns
  have hR : 1 ≤ (headSpec (wM yX11_isInTable cX11_isInTable 1 (some .boolean)) { frames := 1, cells := 0, slots := 0, locals := 22 }).room.frames ∧ 22 ≤ (headSpec (wM yX11_isInTable cX11_isInTable 1 (some .boolean)) { frames := 1, cells := 0, slots := 0, locals := 22 }).room.locals := ⟨Nat.le_refl _, Nat.le_refl _⟩
  have dy : Dy D cA ad (V, g) A s.heap s.heap [] := ⟨w0, va_S.rf⟩
  have hl := lv_entry [.int a1] (n := 1) (Nat.le_of_ble_eq_true rfl)
  rw [lg_entry_eq]
  generalize (lg_sl [.int a1] ++ List.replicate (1 - (lg_sl [.int a1]).length) Slot.unset).toArray = ls at hl ⊢
  have hl : lv_has ls 1 [(0, .int a1)] := hl
  have dy0 : ∃ H0, H0 = s.heap ∧ Dy D cA ad (V, g) A s.heap H0 [] := ⟨_, rfl, dy⟩
  obtain ⟨z, ez⟩ : ∃ z, z = (r0, g0) := ⟨_, rfl⟩
  rw [← ez] at hr
  have hq0 : ∀ (rb : Int32) (gb : Hq), z = (rb, gb) → rb = r0 ∧ gb = g0 := fun rb gb eb => by rw [ez] at eb; exact ⟨(congrArg Prod.fst eb).symm, (congrArg Prod.snd eb).symm⟩
  clear ez w0 dy0
  unfold r_X11_isInTable at hr
  obtain ⟨H, hH⟩ : ∃ H, H = s.heap := ⟨_, rfl⟩
  obtain ⟨locs, hlo⟩ : ∃ q : List Loc, q = [] := ⟨_, rfl⟩
  have dy : Dy D cA ad (V, g) A s.heap H locs := by rw [hH, hlo]; exact dy
  suffices K : W p l e (headSpec (wM yX11_isInTable cX11_isInTable 1 (some .boolean)) { frames := 1, cells := 0, slots := 0, locals := 22 }).room s m ([.int a1] : List Value).toArray below meth c H locs 0 0 (MQ below (QI D cA ad A r0 (V, g0)) ([.int a1] : List Value).toArray s 0 0 A) (F0 m 0 ls []) by rw [hH, hlo] at K; exact K
  clear hH hlo
  refine lv_iload_n cx.1 cx.2.1 dX11_isInTable_0 rfl (lv_at hl 0 rfl) ?_
  refine lv_iconst (v := 0) cx.1 cx.2.1 dX11_isInTable_1 (by decide) ?_
  refine lv_bipush (v := 15) cx.1 cx.2.1 dX11_isInTable_2 (by decide) ?_
  obtain ⟨x2, g1, hc3, hr⟩ := of_bnd2 hr
  refine r_i dy (k_S (As := [.int a1, .int (0 : Int32), .int (15 : Int32)]) cx fx dy (c_X11_isFrom hc3) mv_X11_isFrom rfl rfl ⟨Nat.le_trans (by decide) hR.1, Nat.le_trans (by decide) hR.2⟩ tb_424 rfl hl.1 rfl (Nat.le_of_ble_eq_true rfl) ⟨Nat.zero_le _, Nat.zero_le _⟩ dX11_isInTable_4) (fun H locs dy => ?_)
  obtain ⟨hb4, hr⟩ := of_grd hr
  obtain ⟨e0, e1⟩ := hq0 _ _ (Option.some.inj hr).symm
  exact h_iret cx dy hlocks hret hb4 e0 (by rw [e1]) dX11_isInTable_7
noncomputable def r_X11_waysToChoose_24' (V : Vk) (x2 : Int32) (x3 : Int32) (y4 : Int64) (x5 : Int32) (g6 : Hq) : Option ((Int32 × Int32 × Int64 × Int32 × Hq) ⊕ (Int64 × Hq)) :=
  brn (x3 < x5) (some (.inr (y4, g6))) (grd (¬ x5.toInt64 = 0) <| nm ((y4 * ((x2 - x3) + x5).toInt64) / x5.toInt64) fun y8 => nm (x5 + (1 : Int32)) fun x9 => some (.inl (x2, x3, y8, x9, g6)))
noncomputable def r_X11_waysToChoose_24 (V : Vk) (st : (Int32 × Int32 × Int64 × Int32 × Hq)) : Option ((Int32 × Int32 × Int64 × Int32 × Hq) ⊕ (Int64 × Hq)) := r_X11_waysToChoose_24' V st.1 st.2.1 st.2.2.1 st.2.2.2.1 st.2.2.2.2
set_option maxHeartbeats 4000000 in
set_option maxRecDepth 100000 in
theorem w_X11_waysToChoose_24 {p : Program} {l : Launch} {e : Env} {R : Room} {s : State} {m : MethodId} {args : Array Value} {below : List Frame} {meth : Method} {c : Code} {D : va_G} {cA : Nat → ClassId} {sk : (Nat → Nat) × (Nat → Nat)} {ad : Nat → Nat} {A : Nat → Prop} {V : Vk} (cx : CallFix p m c cX11_waysToChoose 6 s args gw_tbl RX11) (fx : Fx D cA sk A s) (hlocks : meth.locks = false) (hret : meth.sig.returnType = (some .long)) (hR : 1 ≤ R.frames ∧ 24 ≤ R.locals) (r0 : Int64) (g0 : Hq) (y : (Int64 × Hq)) (hq : ∀ (rb : Int64) (gb : Hq), y = (rb, gb) → rb = r0 ∧ gb = g0) : ∀ (n : Nat) (x2 : Int32) (x3 : Int32) (y4 : Int64) (x5 : Int32) (g6 : Hq), itr (r_X11_waysToChoose_24 V) n (x2, x3, y4, x5, g6) = some y → ∀ (H : Heap) (locs : List Loc) (ls : Array Slot), Dy D cA ad (V, g6) A s.heap H locs → lv_has ls 6 [(0, .int x2), (2, .int x3), (3, .long y4), (5, .int x5)] → W p l e R s m args below meth c H locs 0 0 (MQ below (QL D cA ad A r0 (V, g0)) args s 0 0 A) (F0 m 24 ls []) := by
  intro n
  induction n with
  | zero => intro x2 x3 y4 x5 g6 hr; cases hr
  | succ n ih =>
    intro x2 x3 y4 x5 g6 hr H locs ls dy hl
    obtain ⟨z, hz, hn1, hn2⟩ := itr_succ hr
    clear hr
    have hr : r_X11_waysToChoose_24' V x2 x3 y4 x5 g6 = some z := hz
    clear hz
    unfold r_X11_waysToChoose_24' at hr
    have hh0 : ∀ (b0 : Int32) (b1 : Int32) (b2 : Int64) (b3 : Int32) (gb : Hq), z = .inl (b0, b1, b2, b3, gb) → ∀ (H : Heap) (locs : List Loc) (ls : Array Slot), Dy D cA ad (V, gb) A s.heap H locs → lv_has ls 6 [(0, .int b0), (2, .int b1), (3, .long b2), (5, .int b3)] → W p l e R s m args below meth c H locs 0 0 (MQ below (QL D cA ad A r0 (V, g0)) args s 0 0 A) (F0 m 24 ls []) := fun b0 b1 b2 b3 gb eb => ih b0 b1 b2 b3 gb (hn1 _ eb)
    have hq0 : ∀ (rb : Int64) (gb : Hq), z = (.inr (rb, gb)) → rb = r0 ∧ gb = g0 := fun rb gb eb => hq rb gb (hn2 _ eb).symm
    refine lv_iload cx.1 cx.2.1 dX11_waysToChoose_24 (lv_at hl 3 rfl) ?_
    refine lv_iload_n cx.1 cx.2.1 dX11_waysToChoose_26 rfl (lv_at hl 1 rfl) ?_
    rcases of_brn hr with ⟨hc, hr⟩ | ⟨hc, hr⟩
    · refine lv_icmp_gt (tgt := 50) cx.1 cx.2.1 dX11_waysToChoose_27 (by decide) (fun _ => ?_) (fun hn => absurd hc hn)
      refine lv_lload_n cx.1 cx.2.1 dX11_waysToChoose_50 rfl (lv_at hl 2 rfl) ?_
      obtain ⟨e0, e1⟩ := hq0 _ _ (Option.some.inj hr).symm
      exact h_lret cx dy hlocks hret e0 (by rw [e1]) dX11_waysToChoose_51
    · refine lv_icmp_gt (tgt := 50) cx.1 cx.2.1 dX11_waysToChoose_27 (by decide) (fun hn => absurd hn hc) (fun _ => ?_)
      refine lv_lload_n cx.1 cx.2.1 dX11_waysToChoose_30 rfl (lv_at hl 2 rfl) ?_
      refine lv_iload_n cx.1 cx.2.1 dX11_waysToChoose_31 rfl (lv_at hl 0 rfl) ?_
      refine lv_iload_n cx.1 cx.2.1 dX11_waysToChoose_32 rfl (lv_at hl 1 rfl) ?_
      refine lv_isub cx.1 cx.2.1 dX11_waysToChoose_33 ?_
      refine lv_iload cx.1 cx.2.1 dX11_waysToChoose_34 (lv_at hl 3 rfl) ?_
      refine lv_iadd cx.1 cx.2.1 dX11_waysToChoose_36 ?_
      refine lv_i2l cx.1 cx.2.1 dX11_waysToChoose_37 rfl ?_
      refine lv_lmul cx.1 cx.2.1 dX11_waysToChoose_38 ?_
      refine lv_iload cx.1 cx.2.1 dX11_waysToChoose_39 (lv_at hl 3 rfl) ?_
      refine lv_i2l cx.1 cx.2.1 dX11_waysToChoose_41 rfl ?_
      obtain ⟨hz7, hr⟩ := of_grd hr
      refine lv_ldiv cx.1 cx.2.1 dX11_waysToChoose_42 hz7 ?_
      obtain ⟨y8, ey8, hr⟩ := of_nm hr
      refine lv_nml ey8 ?_
      refine lv_lstore_n (lv' := [(3, .long y8), (0, .int x2), (2, .int x3), (5, .int x5)]) cx.1 cx.2.1 dX11_waysToChoose_43 rfl hl (by decide) rfl (fun ls hl => ?_)
      obtain ⟨x9, ex9, hr⟩ := of_nm hr
      refine lv_iinc (v := x9) (lv' := [(5, .int x9), (3, .long y8), (0, .int x2), (2, .int x3)]) cx.1 cx.2.1 dX11_waysToChoose_44 hl (k := 3) rfl (by rw [ex9]; rfl) (by decide) rfl (fun ls hl => ?_)
      refine lv_goto (tgt := 24) cx.1 cx.2.1 dX11_waysToChoose_47 (by decide) ?_
      exact hh0 x2 x3 y8 x9 g6 (Option.some.inj hr).symm H locs ls dy (lv_sub hl [2, 3, 1, 0] rfl)
noncomputable def r_X11_waysToChoose (V : Vk) (a1 : Int32) (a2 : Int32) (g : Hq) : Option (Int64 × Hq) :=
  brn (a2 < 0) (some ((0 : Int64), g)) (brn (a2 ≤ a1) (nm (if (a1 - a2) < a2 then (a1 - a2) else a2) fun x1 => (lop (r_X11_waysToChoose_24 V) (a1, x1, (1 : Int64), (1 : Int32), g))) (some ((0 : Int64), g)))
set_option maxHeartbeats 4000000 in
set_option maxRecDepth 100000 in
theorem c_X11_waysToChoose {l : Launch} {D : va_G} {cA : Nat → ClassId} {sk : (Nat → Nat) × (Nat → Nat)} {ad : Nat → Nat} {A : Nat → Prop} {V : Vk} {a1 : Int32} {a2 : Int32} {g g0 : Hq} {r0 : Int64} (hr : r_X11_waysToChoose V a1 a2 g = some (r0, g0)) : Met l yX11_waysToChoose (wM yX11_waysToChoose cX11_waysToChoose 6 (some .long)) { frames := 1, cells := 0, slots := 0, locals := 24 } (Pre D cA sk ad (V, g) A [.int a1, .int a2]) (QL D cA ad A r0 (V, g0)) 0 0 A := by
  refine Met.ofW (cc := cX11_waysToChoose) (maxL := 6) (ret := (some .long)) (by decide) rfl ?_
  intro p e s m args below meth c s₁ B hml hv
  obtain ⟨rfl, fx, w0⟩ := hv
  have hts := atoms_spec (ws := wM yX11_waysToChoose cX11_waysToChoose 6 (some .long)) B.pre
  have cx : CallFix p m c cX11_waysToChoose 6 s ([.int a1, .int a2] : List Value).toArray gw_tbl RX11 := ⟨B.exec, B.bytes, hml, findClass_of_methodNamed B.named, fun w hw => hts w (List.mem_cons_of_mem _ hw)⟩
  have hlocks := B.notSynchronized
  have hret := B.returns
  have hR : 1 ≤ (headSpec (wM yX11_waysToChoose cX11_waysToChoose 6 (some .long)) { frames := 1, cells := 0, slots := 0, locals := 24 }).room.frames ∧ 24 ≤ (headSpec (wM yX11_waysToChoose cX11_waysToChoose 6 (some .long)) { frames := 1, cells := 0, slots := 0, locals := 24 }).room.locals := ⟨Nat.le_refl _, Nat.le_refl _⟩
  have dy : Dy D cA ad (V, g) A s.heap s.heap [] := ⟨w0, va_S.rf⟩
  have hl := lv_entry [.int a1, .int a2] (n := 6) (Nat.le_of_ble_eq_true rfl)
  rw [lg_entry_eq]
  generalize (lg_sl [.int a1, .int a2] ++ List.replicate (6 - (lg_sl [.int a1, .int a2]).length) Slot.unset).toArray = ls at hl ⊢
  have hl : lv_has ls 6 [(0, .int a1), (1, .int a2)] := hl
  have dy0 : ∃ H0, H0 = s.heap ∧ Dy D cA ad (V, g) A s.heap H0 [] := ⟨_, rfl, dy⟩
  obtain ⟨z, ez⟩ : ∃ z, z = (r0, g0) := ⟨_, rfl⟩
  rw [← ez] at hr
  have hq0 : ∀ (rb : Int64) (gb : Hq), z = (rb, gb) → rb = r0 ∧ gb = g0 := fun rb gb eb => by rw [ez] at eb; exact ⟨(congrArg Prod.fst eb).symm, (congrArg Prod.snd eb).symm⟩
  clear ez w0 dy0
  unfold r_X11_waysToChoose at hr
  obtain ⟨H, hH⟩ : ∃ H, H = s.heap := ⟨_, rfl⟩
  obtain ⟨locs, hlo⟩ : ∃ q : List Loc, q = [] := ⟨_, rfl⟩
  have dy : Dy D cA ad (V, g) A s.heap H locs := by rw [hH, hlo]; exact dy
  suffices K : W p l e (headSpec (wM yX11_waysToChoose cX11_waysToChoose 6 (some .long)) { frames := 1, cells := 0, slots := 0, locals := 24 }).room s m ([.int a1, .int a2] : List Value).toArray below meth c H locs 0 0 (MQ below (QL D cA ad A r0 (V, g0)) ([.int a1, .int a2] : List Value).toArray s 0 0 A) (F0 m 0 ls []) by rw [hH, hlo] at K; exact K
  clear hH hlo
  refine lv_iload_n cx.1 cx.2.1 dX11_waysToChoose_0 rfl (lv_at hl 1 rfl) ?_
  rcases of_brn hr with ⟨hc, hr⟩ | ⟨hc, hr⟩
  · refine lv_if_lt (tgt := 9) cx.1 cx.2.1 dX11_waysToChoose_1 (by decide) (fun _ => ?_) (fun hn => absurd hc hn)
    refine lv_lconst (v := 0) cx.1 cx.2.1 dX11_waysToChoose_9 (by decide) ?_
    obtain ⟨e0, e1⟩ := hq0 _ _ (Option.some.inj hr).symm
    exact h_lret cx dy hlocks hret e0 (by rw [e1]) dX11_waysToChoose_10
  · refine lv_if_lt (tgt := 9) cx.1 cx.2.1 dX11_waysToChoose_1 (by decide) (fun hn => absurd hn hc) (fun _ => ?_)
    refine lv_iload_n cx.1 cx.2.1 dX11_waysToChoose_4 rfl (lv_at hl 1 rfl) ?_
    refine lv_iload_n cx.1 cx.2.1 dX11_waysToChoose_5 rfl (lv_at hl 0 rfl) ?_
    rcases of_brn hr with ⟨hc, hr⟩ | ⟨hc, hr⟩
    · refine lv_icmp_le (tgt := 11) cx.1 cx.2.1 dX11_waysToChoose_6 (by decide) (fun _ => ?_) (fun hn => absurd hc hn)
      refine lv_iload_n cx.1 cx.2.1 dX11_waysToChoose_11 rfl (lv_at hl 1 rfl) ?_
      refine lv_iload_n cx.1 cx.2.1 dX11_waysToChoose_12 rfl (lv_at hl 0 rfl) ?_
      refine lv_iload_n cx.1 cx.2.1 dX11_waysToChoose_13 rfl (lv_at hl 1 rfl) ?_
      refine lv_isub cx.1 cx.2.1 dX11_waysToChoose_14 ?_
      refine va_mmin cx.1 cx.2.1 (cx.2.2.1.trans hl.1.symm) cx.2.2.2.1 (cx.2.2.2.2 _ tb_952) (cx.2.2.2.2 _ tb_502) (cx.2.2.2.2 _ tb_63) (cx.2.2.2.2 _ tb_503) (Nat.le_trans (by decide) hR.1) (Nat.le_trans (Nat.le_of_ble_eq_true rfl) hR.2) (Nat.zero_le _) (Nat.zero_le _) dX11_waysToChoose_15 ?_
      obtain ⟨x1, ex1, hr⟩ := of_nm hr
      refine lv_nmi ex1 ?_
      refine lv_istore_n (lv' := [(2, .int x1), (0, .int a1), (1, .int a2)]) cx.1 cx.2.1 dX11_waysToChoose_18 rfl hl (by decide) rfl (fun ls hl => ?_)
      refine lv_lconst (v := 1) cx.1 cx.2.1 dX11_waysToChoose_19 (by decide) ?_
      refine lv_lstore_n (lv' := [(3, .long (1 : Int64)), (2, .int x1), (0, .int a1), (1, .int a2)]) cx.1 cx.2.1 dX11_waysToChoose_20 rfl hl (by decide) rfl (fun ls hl => ?_)
      refine lv_iconst (v := 1) cx.1 cx.2.1 dX11_waysToChoose_21 (by decide) ?_
      refine lv_istore (lv' := [(5, .int (1 : Int32)), (3, .long (1 : Int64)), (2, .int x1), (0, .int a1), (1, .int a2)]) cx.1 cx.2.1 dX11_waysToChoose_22 hl (by decide) rfl (fun ls hl => ?_)
      obtain ⟨n, hr⟩ := lop_some hr
      exact w_X11_waysToChoose_24 cx fx hlocks hret hR r0 g0 z hq0 n a1 x1 (1 : Int64) (1 : Int32) g hr H locs ls dy (lv_sub hl [3, 2, 1, 0] rfl)
    · refine lv_icmp_le (tgt := 11) cx.1 cx.2.1 dX11_waysToChoose_6 (by decide) (fun hn => absurd hn hc) (fun _ => ?_)
      refine lv_lconst (v := 0) cx.1 cx.2.1 dX11_waysToChoose_9 (by decide) ?_
      obtain ⟨e0, e1⟩ := hq0 _ _ (Option.some.inj hr).symm
      exact h_lret cx dy hlocks hret e0 (by rw [e1]) dX11_waysToChoose_10
noncomputable def r_X11_greatestCommonPart_9' (V : Vk) (y1 : Int64) (y2 : Int64) (x3 : Int32) (g4 : Hq) : Option ((Int64 × Int64 × Int32 × Hq) ⊕ (Int64 × Hq)) :=
  brn ((100 : Int32) ≤ x3) (some (.inr ((if (1 : Int64) < y1 then y1 else (1 : Int64)), g4))) (brn ((lg_cmp y2 (0 : Int64)) ≤ 0) (some (.inr ((if (1 : Int64) < y1 then y1 else (1 : Int64)), g4))) (grd (¬ y2 = 0) <| nm (y1 - y1 / y2 * y2) fun y6 => nm (x3 + (1 : Int32)) fun x7 => some (.inl (y2, y6, x7, g4))))
noncomputable def r_X11_greatestCommonPart_9 (V : Vk) (st : (Int64 × Int64 × Int32 × Hq)) : Option ((Int64 × Int64 × Int32 × Hq) ⊕ (Int64 × Hq)) := r_X11_greatestCommonPart_9' V st.1 st.2.1 st.2.2.1 st.2.2.2
set_option maxHeartbeats 4000000 in
set_option maxRecDepth 100000 in
theorem w_X11_greatestCommonPart_9 {p : Program} {l : Launch} {e : Env} {R : Room} {s : State} {m : MethodId} {args : Array Value} {below : List Frame} {meth : Method} {c : Code} {D : va_G} {cA : Nat → ClassId} {sk : (Nat → Nat) × (Nat → Nat)} {ad : Nat → Nat} {A : Nat → Prop} {V : Vk} (cx : CallFix p m c cX11_greatestCommonPart 11 s args gw_tbl RX11) (fx : Fx D cA sk A s) (hlocks : meth.locks = false) (hret : meth.sig.returnType = (some .long)) (hR : 1 ≤ R.frames ∧ 24 ≤ R.locals) (r0 : Int64) (g0 : Hq) (y : (Int64 × Hq)) (hq : ∀ (rb : Int64) (gb : Hq), y = (rb, gb) → rb = r0 ∧ gb = g0) : ∀ (n : Nat) (y1 : Int64) (y2 : Int64) (x3 : Int32) (g4 : Hq), itr (r_X11_greatestCommonPart_9 V) n (y1, y2, x3, g4) = some y → ∀ (H : Heap) (locs : List Loc) (ls : Array Slot), Dy D cA ad (V, g4) A s.heap H locs → lv_has ls 11 [(4, .long y1), (6, .long y2), (8, .int x3)] → W p l e R s m args below meth c H locs 0 0 (MQ below (QL D cA ad A r0 (V, g0)) args s 0 0 A) (F0 m 9 ls []) := by
  intro n
  induction n with
  | zero => intro y1 y2 x3 g4 hr; cases hr
  | succ n ih =>
    intro y1 y2 x3 g4 hr H locs ls dy hl
    obtain ⟨z, hz, hn1, hn2⟩ := itr_succ hr
    clear hr
    have hr : r_X11_greatestCommonPart_9' V y1 y2 x3 g4 = some z := hz
    clear hz
    unfold r_X11_greatestCommonPart_9' at hr
    have hh0 : ∀ (b0 : Int64) (b1 : Int64) (b2 : Int32) (gb : Hq), z = .inl (b0, b1, b2, gb) → ∀ (H : Heap) (locs : List Loc) (ls : Array Slot), Dy D cA ad (V, gb) A s.heap H locs → lv_has ls 11 [(4, .long b0), (6, .long b1), (8, .int b2)] → W p l e R s m args below meth c H locs 0 0 (MQ below (QL D cA ad A r0 (V, g0)) args s 0 0 A) (F0 m 9 ls []) := fun b0 b1 b2 gb eb => ih b0 b1 b2 gb (hn1 _ eb)
    have hq0 : ∀ (rb : Int64) (gb : Hq), z = (.inr (rb, gb)) → rb = r0 ∧ gb = g0 := fun rb gb eb => hq rb gb (hn2 _ eb).symm
    refine lv_iload cx.1 cx.2.1 dX11_greatestCommonPart_9 (lv_at hl 2 rfl) ?_
    refine lv_bipush (v := 100) cx.1 cx.2.1 dX11_greatestCommonPart_11 (by decide) ?_
    rcases of_brn hr with ⟨hc, hr⟩ | ⟨hc, hr⟩
    · refine lv_icmp_ge (tgt := 44) cx.1 cx.2.1 dX11_greatestCommonPart_13 (by decide) (fun _ => ?_) (fun hn => absurd hc hn)
      refine lv_lload cx.1 cx.2.1 dX11_greatestCommonPart_44 (lv_at hl 0 rfl) ?_
      refine lv_lconst (v := 1) cx.1 cx.2.1 dX11_greatestCommonPart_46 (by decide) ?_
      refine va_mmax_long cx.1 cx.2.1 (cx.2.2.1.trans hl.1.symm) cx.2.2.2.1 (cx.2.2.2.2 _ tb_957) (cx.2.2.2.2 _ tb_958) (cx.2.2.2.2 _ tb_63) (cx.2.2.2.2 _ tb_959) (Nat.le_trans (by decide) hR.1) (Nat.le_trans (Nat.le_of_ble_eq_true rfl) hR.2) (Nat.zero_le _) (Nat.zero_le _) dX11_greatestCommonPart_47 ?_
      obtain ⟨e0, e1⟩ := hq0 _ _ (Option.some.inj hr).symm
      exact h_lret cx dy hlocks hret e0 (by rw [e1]) dX11_greatestCommonPart_50
    · refine lv_icmp_ge (tgt := 44) cx.1 cx.2.1 dX11_greatestCommonPart_13 (by decide) (fun hn => absurd hn hc) (fun _ => ?_)
      refine lv_lload cx.1 cx.2.1 dX11_greatestCommonPart_16 (lv_at hl 1 rfl) ?_
      refine lv_lconst (v := 0) cx.1 cx.2.1 dX11_greatestCommonPart_18 (by decide) ?_
      refine W.lcmp cx.1 cx.2.1 dX11_greatestCommonPart_19 ?_
      rcases of_brn hr with ⟨hc, hr⟩ | ⟨hc, hr⟩
      · refine lv_if_le (tgt := 44) cx.1 cx.2.1 dX11_greatestCommonPart_20 (by decide) (fun _ => ?_) (fun hn => absurd hc hn)
        refine lv_lload cx.1 cx.2.1 dX11_greatestCommonPart_44 (lv_at hl 0 rfl) ?_
        refine lv_lconst (v := 1) cx.1 cx.2.1 dX11_greatestCommonPart_46 (by decide) ?_
        refine va_mmax_long cx.1 cx.2.1 (cx.2.2.1.trans hl.1.symm) cx.2.2.2.1 (cx.2.2.2.2 _ tb_957) (cx.2.2.2.2 _ tb_958) (cx.2.2.2.2 _ tb_63) (cx.2.2.2.2 _ tb_959) (Nat.le_trans (by decide) hR.1) (Nat.le_trans (Nat.le_of_ble_eq_true rfl) hR.2) (Nat.zero_le _) (Nat.zero_le _) dX11_greatestCommonPart_47 ?_
        obtain ⟨e0, e1⟩ := hq0 _ _ (Option.some.inj hr).symm
        exact h_lret cx dy hlocks hret e0 (by rw [e1]) dX11_greatestCommonPart_50
      · refine lv_if_le (tgt := 44) cx.1 cx.2.1 dX11_greatestCommonPart_20 (by decide) (fun hn => absurd hn hc) (fun _ => ?_)
        refine lv_lload cx.1 cx.2.1 dX11_greatestCommonPart_23 (lv_at hl 0 rfl) ?_
        refine lv_lload cx.1 cx.2.1 dX11_greatestCommonPart_25 (lv_at hl 1 rfl) ?_
        obtain ⟨hz5, hr⟩ := of_grd hr
        refine lv_lrem cx.1 cx.2.1 dX11_greatestCommonPart_27 hz5 ?_
        obtain ⟨y6, ey6, hr⟩ := of_nm hr
        refine lv_nml ey6 ?_
        refine lv_lstore (lv' := [(9, .long y6), (4, .long y1), (6, .long y2), (8, .int x3)]) cx.1 cx.2.1 dX11_greatestCommonPart_28 hl (by decide) rfl (fun ls hl => ?_)
        refine lv_lload cx.1 cx.2.1 dX11_greatestCommonPart_30 (lv_at hl 2 rfl) ?_
        refine lv_lstore (lv' := [(4, .long y2), (9, .long y6), (6, .long y2), (8, .int x3)]) cx.1 cx.2.1 dX11_greatestCommonPart_32 hl (by decide) rfl (fun ls hl => ?_)
        refine lv_lload cx.1 cx.2.1 dX11_greatestCommonPart_34 (lv_at hl 1 rfl) ?_
        refine lv_lstore (lv' := [(6, .long y6), (4, .long y2), (9, .long y6), (8, .int x3)]) cx.1 cx.2.1 dX11_greatestCommonPart_36 hl (by decide) rfl (fun ls hl => ?_)
        obtain ⟨x7, ex7, hr⟩ := of_nm hr
        refine lv_iinc (v := x7) (lv' := [(8, .int x7), (6, .long y6), (4, .long y2), (9, .long y6)]) cx.1 cx.2.1 dX11_greatestCommonPart_38 hl (k := 3) rfl (by rw [ex7]; rfl) (by decide) rfl (fun ls hl => ?_)
        refine lv_goto (tgt := 9) cx.1 cx.2.1 dX11_greatestCommonPart_41 (by decide) ?_
        exact hh0 y2 y6 x7 g4 (Option.some.inj hr).symm H locs ls dy (lv_sub hl [2, 1, 0] rfl)
noncomputable def r_X11_greatestCommonPart (V : Vk) (a1 : Int64) (a2 : Int64) (g : Hq) : Option (Int64 × Hq) :=
  (lop (r_X11_greatestCommonPart_9 V) (a1, a2, (0 : Int32), g))
set_option maxHeartbeats 4000000 in
set_option maxRecDepth 100000 in
theorem c_X11_greatestCommonPart {l : Launch} {D : va_G} {cA : Nat → ClassId} {sk : (Nat → Nat) × (Nat → Nat)} {ad : Nat → Nat} {A : Nat → Prop} {V : Vk} {a1 : Int64} {a2 : Int64} {g g0 : Hq} {r0 : Int64} (hr : r_X11_greatestCommonPart V a1 a2 g = some (r0, g0)) : Met l yX11_greatestCommonPart (wM yX11_greatestCommonPart cX11_greatestCommonPart 11 (some .long)) { frames := 1, cells := 0, slots := 0, locals := 24 } (Pre D cA sk ad (V, g) A [.long a1, .long a2]) (QL D cA ad A r0 (V, g0)) 0 0 A := by
  refine Met.ofW (cc := cX11_greatestCommonPart) (maxL := 11) (ret := (some .long)) (by decide) rfl ?_
  intro p e s m args below meth c s₁ B hml hv
  obtain ⟨rfl, fx, w0⟩ := hv
  have hts := atoms_spec (ws := wM yX11_greatestCommonPart cX11_greatestCommonPart 11 (some .long)) B.pre
  have cx : CallFix p m c cX11_greatestCommonPart 11 s ([.long a1, .long a2] : List Value).toArray gw_tbl RX11 := ⟨B.exec, B.bytes, hml, findClass_of_methodNamed B.named, fun w hw => hts w (List.mem_cons_of_mem _ hw)⟩
  have hlocks := B.notSynchronized
  have hret := B.returns
  have hR : 1 ≤ (headSpec (wM yX11_greatestCommonPart cX11_greatestCommonPart 11 (some .long)) { frames := 1, cells := 0, slots := 0, locals := 24 }).room.frames ∧ 24 ≤ (headSpec (wM yX11_greatestCommonPart cX11_greatestCommonPart 11 (some .long)) { frames := 1, cells := 0, slots := 0, locals := 24 }).room.locals := ⟨Nat.le_refl _, Nat.le_refl _⟩
  have dy : Dy D cA ad (V, g) A s.heap s.heap [] := ⟨w0, va_S.rf⟩
  have hl := lv_entry [.long a1, .long a2] (n := 11) (Nat.le_of_ble_eq_true rfl)
  rw [lg_entry_eq]
  generalize (lg_sl [.long a1, .long a2] ++ List.replicate (11 - (lg_sl [.long a1, .long a2]).length) Slot.unset).toArray = ls at hl ⊢
  have hl : lv_has ls 11 [(0, .long a1), (2, .long a2)] := hl
  have dy0 : ∃ H0, H0 = s.heap ∧ Dy D cA ad (V, g) A s.heap H0 [] := ⟨_, rfl, dy⟩
  obtain ⟨z, ez⟩ : ∃ z, z = (r0, g0) := ⟨_, rfl⟩
  rw [← ez] at hr
  have hq0 : ∀ (rb : Int64) (gb : Hq), z = (rb, gb) → rb = r0 ∧ gb = g0 := fun rb gb eb => by rw [ez] at eb; exact ⟨(congrArg Prod.fst eb).symm, (congrArg Prod.snd eb).symm⟩
  clear ez w0 dy0
  unfold r_X11_greatestCommonPart at hr
  obtain ⟨H, hH⟩ : ∃ H, H = s.heap := ⟨_, rfl⟩
  obtain ⟨locs, hlo⟩ : ∃ q : List Loc, q = [] := ⟨_, rfl⟩
  have dy : Dy D cA ad (V, g) A s.heap H locs := by rw [hH, hlo]; exact dy
  suffices K : W p l e (headSpec (wM yX11_greatestCommonPart cX11_greatestCommonPart 11 (some .long)) { frames := 1, cells := 0, slots := 0, locals := 24 }).room s m ([.long a1, .long a2] : List Value).toArray below meth c H locs 0 0 (MQ below (QL D cA ad A r0 (V, g0)) ([.long a1, .long a2] : List Value).toArray s 0 0 A) (F0 m 0 ls []) by rw [hH, hlo] at K; exact K
  clear hH hlo
  refine lv_lload_n cx.1 cx.2.1 dX11_greatestCommonPart_0 rfl (lv_at hl 0 rfl) ?_
  refine lv_lstore (lv' := [(4, .long a1), (0, .long a1), (2, .long a2)]) cx.1 cx.2.1 dX11_greatestCommonPart_1 hl (by decide) rfl (fun ls hl => ?_)
  refine lv_lload_n cx.1 cx.2.1 dX11_greatestCommonPart_3 rfl (lv_at hl 2 rfl) ?_
  refine lv_lstore (lv' := [(6, .long a2), (4, .long a1), (0, .long a1), (2, .long a2)]) cx.1 cx.2.1 dX11_greatestCommonPart_4 hl (by decide) rfl (fun ls hl => ?_)
  refine lv_iconst (v := 0) cx.1 cx.2.1 dX11_greatestCommonPart_6 (by decide) ?_
  refine lv_istore (lv' := [(8, .int (0 : Int32)), (6, .long a2), (4, .long a1), (0, .long a1), (2, .long a2)]) cx.1 cx.2.1 dX11_greatestCommonPart_7 hl (by decide) rfl (fun ls hl => ?_)
  obtain ⟨n, hr⟩ := lop_some hr
  exact w_X11_greatestCommonPart_9 cx fx hlocks hret hR r0 g0 z hq0 n a1 a2 (0 : Int32) g hr H locs ls dy (lv_sub hl [2, 1, 0] rfl)
noncomputable def r_X12_in (V : Vk) (a1 : Int32) (a2 : Int32) (a3 : Int32) (g : Hq) : Option (Int32 × Hq) :=
  brn (a1 < a2) (some ((0 : Int32), g)) (brn (a3 < a1) (some ((0 : Int32), g)) (some ((1 : Int32), g)))
set_option maxHeartbeats 4000000 in
set_option maxRecDepth 100000 in
theorem c_X12_in {l : Launch} {D : va_G} {cA : Nat → ClassId} {sk : (Nat → Nat) × (Nat → Nat)} {ad : Nat → Nat} {A : Nat → Prop} {V : Vk} {a1 : Int32} {a2 : Int32} {a3 : Int32} {g g0 : Hq} {r0 : Int32} (hr : r_X12_in V a1 a2 a3 g = some (r0, g0)) : Met l yX12_in (wM yX12_in cX12_in 3 (some .boolean)) { frames := 0, cells := 0, slots := 0, locals := 0 } (Pre D cA sk ad (V, g) A [.int a1, .int a2, .int a3]) (QI D cA ad A r0 (V, g0)) 0 0 A := by
  refine Met.ofW (cc := cX12_in) (maxL := 3) (ret := (some .boolean)) (by decide) rfl ?_
  intro p e s m args below meth c s₁ B hml hv
  obtain ⟨rfl, fx, w0⟩ := hv
  have hts := atoms_spec (ws := wM yX12_in cX12_in 3 (some .boolean)) B.pre
  have cx : CallFix p m c cX12_in 3 s ([.int a1, .int a2, .int a3] : List Value).toArray gw_tbl RX12 := ⟨B.exec, B.bytes, hml, findClass_of_methodNamed B.named, fun w hw => hts w (List.mem_cons_of_mem _ hw)⟩
  have hlocks := B.notSynchronized
  have hret := B.returns
  have hR : 0 ≤ (headSpec (wM yX12_in cX12_in 3 (some .boolean)) { frames := 0, cells := 0, slots := 0, locals := 0 }).room.frames ∧ 0 ≤ (headSpec (wM yX12_in cX12_in 3 (some .boolean)) { frames := 0, cells := 0, slots := 0, locals := 0 }).room.locals := ⟨Nat.le_refl _, Nat.le_refl _⟩
  have dy : Dy D cA ad (V, g) A s.heap s.heap [] := ⟨w0, va_S.rf⟩
  have hl := lv_entry [.int a1, .int a2, .int a3] (n := 3) (Nat.le_of_ble_eq_true rfl)
  rw [lg_entry_eq]
  generalize (lg_sl [.int a1, .int a2, .int a3] ++ List.replicate (3 - (lg_sl [.int a1, .int a2, .int a3]).length) Slot.unset).toArray = ls at hl ⊢
  have hl : lv_has ls 3 [(0, .int a1), (1, .int a2), (2, .int a3)] := hl
  have dy0 : ∃ H0, H0 = s.heap ∧ Dy D cA ad (V, g) A s.heap H0 [] := ⟨_, rfl, dy⟩
  obtain ⟨z, ez⟩ : ∃ z, z = (r0, g0) := ⟨_, rfl⟩
  rw [← ez] at hr
  have hq0 : ∀ (rb : Int32) (gb : Hq), z = (rb, gb) → rb = r0 ∧ gb = g0 := fun rb gb eb => by rw [ez] at eb; exact ⟨(congrArg Prod.fst eb).symm, (congrArg Prod.snd eb).symm⟩
  clear ez w0 dy0
  unfold r_X12_in at hr
  obtain ⟨H, hH⟩ : ∃ H, H = s.heap := ⟨_, rfl⟩
  obtain ⟨locs, hlo⟩ : ∃ q : List Loc, q = [] := ⟨_, rfl⟩
  have dy : Dy D cA ad (V, g) A s.heap H locs := by rw [hH, hlo]; exact dy
  suffices K : W p l e (headSpec (wM yX12_in cX12_in 3 (some .boolean)) { frames := 0, cells := 0, slots := 0, locals := 0 }).room s m ([.int a1, .int a2, .int a3] : List Value).toArray below meth c H locs 0 0 (MQ below (QI D cA ad A r0 (V, g0)) ([.int a1, .int a2, .int a3] : List Value).toArray s 0 0 A) (F0 m 0 ls []) by rw [hH, hlo] at K; exact K
  clear hH hlo
  refine lv_iload_n cx.1 cx.2.1 dX12_in_0 rfl (lv_at hl 0 rfl) ?_
  refine lv_iload_n cx.1 cx.2.1 dX12_in_1 rfl (lv_at hl 1 rfl) ?_
  rcases of_brn hr with ⟨hc, hr⟩ | ⟨hc, hr⟩
  · refine lv_icmp_lt (tgt := 14) cx.1 cx.2.1 dX12_in_2 (by decide) (fun _ => ?_) (fun hn => absurd hc hn)
    refine lv_iconst (v := 0) cx.1 cx.2.1 dX12_in_14 (by decide) ?_
    obtain ⟨e0, e1⟩ := hq0 _ _ (Option.some.inj hr).symm
    exact h_iret cx dy hlocks hret rfl e0 (by rw [e1]) dX12_in_15
  · refine lv_icmp_lt (tgt := 14) cx.1 cx.2.1 dX12_in_2 (by decide) (fun hn => absurd hn hc) (fun _ => ?_)
    refine lv_iload_n cx.1 cx.2.1 dX12_in_5 rfl (lv_at hl 0 rfl) ?_
    refine lv_iload_n cx.1 cx.2.1 dX12_in_6 rfl (lv_at hl 2 rfl) ?_
    rcases of_brn hr with ⟨hc, hr⟩ | ⟨hc, hr⟩
    · refine lv_icmp_gt (tgt := 14) cx.1 cx.2.1 dX12_in_7 (by decide) (fun _ => ?_) (fun hn => absurd hc hn)
      refine lv_iconst (v := 0) cx.1 cx.2.1 dX12_in_14 (by decide) ?_
      obtain ⟨e0, e1⟩ := hq0 _ _ (Option.some.inj hr).symm
      exact h_iret cx dy hlocks hret rfl e0 (by rw [e1]) dX12_in_15
    · refine lv_icmp_gt (tgt := 14) cx.1 cx.2.1 dX12_in_7 (by decide) (fun hn => absurd hn hc) (fun _ => ?_)
      refine lv_iconst (v := 1) cx.1 cx.2.1 dX12_in_10 (by decide) ?_
      refine lv_goto (tgt := 15) cx.1 cx.2.1 dX12_in_11 (by decide) ?_
      obtain ⟨e0, e1⟩ := hq0 _ _ (Option.some.inj hr).symm
      exact h_iret cx dy hlocks hret rfl e0 (by rw [e1]) dX12_in_15
noncomputable def r_X12_isSmall (V : Vk) (a1 : Int32) (g : Hq) : Option (Int32 × Hq) :=
  brn (a1 < (97 : Int32)) (some ((0 : Int32), g)) (brn ((122 : Int32) < a1) (some ((0 : Int32), g)) (some ((1 : Int32), g)))
set_option maxHeartbeats 4000000 in
set_option maxRecDepth 100000 in
theorem c_X12_isSmall {l : Launch} {D : va_G} {cA : Nat → ClassId} {sk : (Nat → Nat) × (Nat → Nat)} {ad : Nat → Nat} {A : Nat → Prop} {V : Vk} {a1 : Int32} {g g0 : Hq} {r0 : Int32} (hr : r_X12_isSmall V a1 g = some (r0, g0)) : Met l yX12_isSmall (wM yX12_isSmall cX12_isSmall 1 (some .boolean)) { frames := 0, cells := 0, slots := 0, locals := 0 } (Pre D cA sk ad (V, g) A [.int a1]) (QI D cA ad A r0 (V, g0)) 0 0 A := by
  refine Met.ofW (cc := cX12_isSmall) (maxL := 1) (ret := (some .boolean)) (by decide) rfl ?_
  intro p e s m args below meth c s₁ B hml hv
  obtain ⟨rfl, fx, w0⟩ := hv
  have hts := atoms_spec (ws := wM yX12_isSmall cX12_isSmall 1 (some .boolean)) B.pre
  have cx : CallFix p m c cX12_isSmall 1 s ([.int a1] : List Value).toArray gw_tbl RX12 := ⟨B.exec, B.bytes, hml, findClass_of_methodNamed B.named, fun w hw => hts w (List.mem_cons_of_mem _ hw)⟩
  have hlocks := B.notSynchronized
  have hret := B.returns
  have hR : 0 ≤ (headSpec (wM yX12_isSmall cX12_isSmall 1 (some .boolean)) { frames := 0, cells := 0, slots := 0, locals := 0 }).room.frames ∧ 0 ≤ (headSpec (wM yX12_isSmall cX12_isSmall 1 (some .boolean)) { frames := 0, cells := 0, slots := 0, locals := 0 }).room.locals := ⟨Nat.le_refl _, Nat.le_refl _⟩
  have dy : Dy D cA ad (V, g) A s.heap s.heap [] := ⟨w0, va_S.rf⟩
  have hl := lv_entry [.int a1] (n := 1) (Nat.le_of_ble_eq_true rfl)
  rw [lg_entry_eq]
  generalize (lg_sl [.int a1] ++ List.replicate (1 - (lg_sl [.int a1]).length) Slot.unset).toArray = ls at hl ⊢
  have hl : lv_has ls 1 [(0, .int a1)] := hl
  have dy0 : ∃ H0, H0 = s.heap ∧ Dy D cA ad (V, g) A s.heap H0 [] := ⟨_, rfl, dy⟩
  obtain ⟨z, ez⟩ : ∃ z, z = (r0, g0) := ⟨_, rfl⟩
  rw [← ez] at hr
  have hq0 : ∀ (rb : Int32) (gb : Hq), z = (rb, gb) → rb = r0 ∧ gb = g0 := fun rb gb eb => by rw [ez] at eb; exact ⟨(congrArg Prod.fst eb).symm, (congrArg Prod.snd eb).symm⟩
  clear ez w0 dy0
  unfold r_X12_isSmall at hr
  obtain ⟨H, hH⟩ : ∃ H, H = s.heap := ⟨_, rfl⟩
  obtain ⟨locs, hlo⟩ : ∃ q : List Loc, q = [] := ⟨_, rfl⟩
  have dy : Dy D cA ad (V, g) A s.heap H locs := by rw [hH, hlo]; exact dy
  suffices K : W p l e (headSpec (wM yX12_isSmall cX12_isSmall 1 (some .boolean)) { frames := 0, cells := 0, slots := 0, locals := 0 }).room s m ([.int a1] : List Value).toArray below meth c H locs 0 0 (MQ below (QI D cA ad A r0 (V, g0)) ([.int a1] : List Value).toArray s 0 0 A) (F0 m 0 ls []) by rw [hH, hlo] at K; exact K
  clear hH hlo
  refine lv_iload_n cx.1 cx.2.1 dX12_isSmall_0 rfl (lv_at hl 0 rfl) ?_
  refine lv_bipush (v := 97) cx.1 cx.2.1 dX12_isSmall_1 (by decide) ?_
  rcases of_brn hr with ⟨hc, hr⟩ | ⟨hc, hr⟩
  · refine lv_icmp_lt (tgt := 16) cx.1 cx.2.1 dX12_isSmall_3 (by decide) (fun _ => ?_) (fun hn => absurd hc hn)
    refine lv_iconst (v := 0) cx.1 cx.2.1 dX12_isSmall_16 (by decide) ?_
    obtain ⟨e0, e1⟩ := hq0 _ _ (Option.some.inj hr).symm
    exact h_iret cx dy hlocks hret rfl e0 (by rw [e1]) dX12_isSmall_17
  · refine lv_icmp_lt (tgt := 16) cx.1 cx.2.1 dX12_isSmall_3 (by decide) (fun hn => absurd hn hc) (fun _ => ?_)
    refine lv_iload_n cx.1 cx.2.1 dX12_isSmall_6 rfl (lv_at hl 0 rfl) ?_
    refine lv_bipush (v := 122) cx.1 cx.2.1 dX12_isSmall_7 (by decide) ?_
    rcases of_brn hr with ⟨hc, hr⟩ | ⟨hc, hr⟩
    · refine lv_icmp_gt (tgt := 16) cx.1 cx.2.1 dX12_isSmall_9 (by decide) (fun _ => ?_) (fun hn => absurd hc hn)
      refine lv_iconst (v := 0) cx.1 cx.2.1 dX12_isSmall_16 (by decide) ?_
      obtain ⟨e0, e1⟩ := hq0 _ _ (Option.some.inj hr).symm
      exact h_iret cx dy hlocks hret rfl e0 (by rw [e1]) dX12_isSmall_17
    · refine lv_icmp_gt (tgt := 16) cx.1 cx.2.1 dX12_isSmall_9 (by decide) (fun hn => absurd hn hc) (fun _ => ?_)
      refine lv_iconst (v := 1) cx.1 cx.2.1 dX12_isSmall_12 (by decide) ?_
      refine lv_goto (tgt := 17) cx.1 cx.2.1 dX12_isSmall_13 (by decide) ?_
      obtain ⟨e0, e1⟩ := hq0 _ _ (Option.some.inj hr).symm
      exact h_iret cx dy hlocks hret rfl e0 (by rw [e1]) dX12_isSmall_17
noncomputable def r_X12_isDigit (V : Vk) (a1 : Int32) (g : Hq) : Option (Int32 × Hq) :=
  brn (a1 < (48 : Int32)) (some ((0 : Int32), g)) (brn ((57 : Int32) < a1) (some ((0 : Int32), g)) (some ((1 : Int32), g)))
set_option maxHeartbeats 4000000 in
set_option maxRecDepth 100000 in
theorem c_X12_isDigit {l : Launch} {D : va_G} {cA : Nat → ClassId} {sk : (Nat → Nat) × (Nat → Nat)} {ad : Nat → Nat} {A : Nat → Prop} {V : Vk} {a1 : Int32} {g g0 : Hq} {r0 : Int32} (hr : r_X12_isDigit V a1 g = some (r0, g0)) : Met l yX12_isDigit (wM yX12_isDigit cX12_isDigit 1 (some .boolean)) { frames := 0, cells := 0, slots := 0, locals := 0 } (Pre D cA sk ad (V, g) A [.int a1]) (QI D cA ad A r0 (V, g0)) 0 0 A := by
  refine Met.ofW (cc := cX12_isDigit) (maxL := 1) (ret := (some .boolean)) (by decide) rfl ?_
  intro p e s m args below meth c s₁ B hml hv
  obtain ⟨rfl, fx, w0⟩ := hv
  have hts := atoms_spec (ws := wM yX12_isDigit cX12_isDigit 1 (some .boolean)) B.pre
  have cx : CallFix p m c cX12_isDigit 1 s ([.int a1] : List Value).toArray gw_tbl RX12 := ⟨B.exec, B.bytes, hml, findClass_of_methodNamed B.named, fun w hw => hts w (List.mem_cons_of_mem _ hw)⟩
  have hlocks := B.notSynchronized
  have hret := B.returns
  have hR : 0 ≤ (headSpec (wM yX12_isDigit cX12_isDigit 1 (some .boolean)) { frames := 0, cells := 0, slots := 0, locals := 0 }).room.frames ∧ 0 ≤ (headSpec (wM yX12_isDigit cX12_isDigit 1 (some .boolean)) { frames := 0, cells := 0, slots := 0, locals := 0 }).room.locals := ⟨Nat.le_refl _, Nat.le_refl _⟩
  have dy : Dy D cA ad (V, g) A s.heap s.heap [] := ⟨w0, va_S.rf⟩
  have hl := lv_entry [.int a1] (n := 1) (Nat.le_of_ble_eq_true rfl)
  rw [lg_entry_eq]
  generalize (lg_sl [.int a1] ++ List.replicate (1 - (lg_sl [.int a1]).length) Slot.unset).toArray = ls at hl ⊢
  have hl : lv_has ls 1 [(0, .int a1)] := hl
  have dy0 : ∃ H0, H0 = s.heap ∧ Dy D cA ad (V, g) A s.heap H0 [] := ⟨_, rfl, dy⟩
  obtain ⟨z, ez⟩ : ∃ z, z = (r0, g0) := ⟨_, rfl⟩
  rw [← ez] at hr
  have hq0 : ∀ (rb : Int32) (gb : Hq), z = (rb, gb) → rb = r0 ∧ gb = g0 := fun rb gb eb => by rw [ez] at eb; exact ⟨(congrArg Prod.fst eb).symm, (congrArg Prod.snd eb).symm⟩
  clear ez w0 dy0
  unfold r_X12_isDigit at hr
  obtain ⟨H, hH⟩ : ∃ H, H = s.heap := ⟨_, rfl⟩
  obtain ⟨locs, hlo⟩ : ∃ q : List Loc, q = [] := ⟨_, rfl⟩
  have dy : Dy D cA ad (V, g) A s.heap H locs := by rw [hH, hlo]; exact dy
  suffices K : W p l e (headSpec (wM yX12_isDigit cX12_isDigit 1 (some .boolean)) { frames := 0, cells := 0, slots := 0, locals := 0 }).room s m ([.int a1] : List Value).toArray below meth c H locs 0 0 (MQ below (QI D cA ad A r0 (V, g0)) ([.int a1] : List Value).toArray s 0 0 A) (F0 m 0 ls []) by rw [hH, hlo] at K; exact K
  clear hH hlo
  refine lv_iload_n cx.1 cx.2.1 dX12_isDigit_0 rfl (lv_at hl 0 rfl) ?_
  refine lv_bipush (v := 48) cx.1 cx.2.1 dX12_isDigit_1 (by decide) ?_
  rcases of_brn hr with ⟨hc, hr⟩ | ⟨hc, hr⟩
  · refine lv_icmp_lt (tgt := 16) cx.1 cx.2.1 dX12_isDigit_3 (by decide) (fun _ => ?_) (fun hn => absurd hc hn)
    refine lv_iconst (v := 0) cx.1 cx.2.1 dX12_isDigit_16 (by decide) ?_
    obtain ⟨e0, e1⟩ := hq0 _ _ (Option.some.inj hr).symm
    exact h_iret cx dy hlocks hret rfl e0 (by rw [e1]) dX12_isDigit_17
  · refine lv_icmp_lt (tgt := 16) cx.1 cx.2.1 dX12_isDigit_3 (by decide) (fun hn => absurd hn hc) (fun _ => ?_)
    refine lv_iload_n cx.1 cx.2.1 dX12_isDigit_6 rfl (lv_at hl 0 rfl) ?_
    refine lv_bipush (v := 57) cx.1 cx.2.1 dX12_isDigit_7 (by decide) ?_
    rcases of_brn hr with ⟨hc, hr⟩ | ⟨hc, hr⟩
    · refine lv_icmp_gt (tgt := 16) cx.1 cx.2.1 dX12_isDigit_9 (by decide) (fun _ => ?_) (fun hn => absurd hc hn)
      refine lv_iconst (v := 0) cx.1 cx.2.1 dX12_isDigit_16 (by decide) ?_
      obtain ⟨e0, e1⟩ := hq0 _ _ (Option.some.inj hr).symm
      exact h_iret cx dy hlocks hret rfl e0 (by rw [e1]) dX12_isDigit_17
    · refine lv_icmp_gt (tgt := 16) cx.1 cx.2.1 dX12_isDigit_9 (by decide) (fun hn => absurd hn hc) (fun _ => ?_)
      refine lv_iconst (v := 1) cx.1 cx.2.1 dX12_isDigit_12 (by decide) ?_
      refine lv_goto (tgt := 17) cx.1 cx.2.1 dX12_isDigit_13 (by decide) ?_
      obtain ⟨e0, e1⟩ := hq0 _ _ (Option.some.inj hr).symm
      exact h_iret cx dy hlocks hret rfl e0 (by rw [e1]) dX12_isDigit_17
noncomputable def r_X12_isCourt (V : Vk) (a1 : Int32) (g : Hq) : Option (Int32 × Hq) :=
  bnd (r_X12_in V a1 (0 : Int32) (11 : Int32) g) fun x2 g1 => grd (narrow .boolean (.int x2) = .int x2) <| some (x2, g1)
set_option maxHeartbeats 4000000 in
set_option maxRecDepth 100000 in
theorem c_X12_isCourt {l : Launch} {D : va_G} {cA : Nat → ClassId} {sk : (Nat → Nat) × (Nat → Nat)} {ad : Nat → Nat} {A : Nat → Prop} {V : Vk} {a1 : Int32} {g g0 : Hq} {r0 : Int32} (hr : r_X12_isCourt V a1 g = some (r0, g0)) : Met l yX12_isCourt (wM yX12_isCourt cX12_isCourt 1 (some .boolean)) { frames := 1, cells := 0, slots := 0, locals := 22 } (Pre D cA sk ad (V, g) A [.int a1]) (QI D cA ad A r0 (V, g0)) 0 0 A := by
  refine Met.ofW (cc := cX12_isCourt) (maxL := 1) (ret := (some .boolean)) (by decide) rfl ?_
  intro p e s m args below meth c s₁ B hml hv
  obtain ⟨rfl, fx, w0⟩ := hv
  have hts := atoms_spec (ws := wM yX12_isCourt cX12_isCourt 1 (some .boolean)) B.pre
  have cx : CallFix p m c cX12_isCourt 1 s ([.int a1] : List Value).toArray gw_tbl RX12 := ⟨B.exec, B.bytes, hml, findClass_of_methodNamed B.named, fun w hw => hts w (List.mem_cons_of_mem _ hw)⟩
  have hlocks := B.notSynchronized
  have hret := B.returns
  have hR : 1 ≤ (headSpec (wM yX12_isCourt cX12_isCourt 1 (some .boolean)) { frames := 1, cells := 0, slots := 0, locals := 22 }).room.frames ∧ 22 ≤ (headSpec (wM yX12_isCourt cX12_isCourt 1 (some .boolean)) { frames := 1, cells := 0, slots := 0, locals := 22 }).room.locals := ⟨Nat.le_refl _, Nat.le_refl _⟩
  have dy : Dy D cA ad (V, g) A s.heap s.heap [] := ⟨w0, va_S.rf⟩
  have hl := lv_entry [.int a1] (n := 1) (Nat.le_of_ble_eq_true rfl)
  rw [lg_entry_eq]
  generalize (lg_sl [.int a1] ++ List.replicate (1 - (lg_sl [.int a1]).length) Slot.unset).toArray = ls at hl ⊢
  have hl : lv_has ls 1 [(0, .int a1)] := hl
  have dy0 : ∃ H0, H0 = s.heap ∧ Dy D cA ad (V, g) A s.heap H0 [] := ⟨_, rfl, dy⟩
  obtain ⟨z, ez⟩ : ∃ z, z = (r0, g0) := ⟨_, rfl⟩
  rw [← ez] at hr
  have hq0 : ∀ (rb : Int32) (gb : Hq), z = (rb, gb) → rb = r0 ∧ gb = g0 := fun rb gb eb => by rw [ez] at eb; exact ⟨(congrArg Prod.fst eb).symm, (congrArg Prod.snd eb).symm⟩
  clear ez w0 dy0
  unfold r_X12_isCourt at hr
  obtain ⟨H, hH⟩ : ∃ H, H = s.heap := ⟨_, rfl⟩
  obtain ⟨locs, hlo⟩ : ∃ q : List Loc, q = [] := ⟨_, rfl⟩
  have dy : Dy D cA ad (V, g) A s.heap H locs := by rw [hH, hlo]; exact dy
  suffices K : W p l e (headSpec (wM yX12_isCourt cX12_isCourt 1 (some .boolean)) { frames := 1, cells := 0, slots := 0, locals := 22 }).room s m ([.int a1] : List Value).toArray below meth c H locs 0 0 (MQ below (QI D cA ad A r0 (V, g0)) ([.int a1] : List Value).toArray s 0 0 A) (F0 m 0 ls []) by rw [hH, hlo] at K; exact K
  clear hH hlo
  refine lv_iload_n cx.1 cx.2.1 dX12_isCourt_0 rfl (lv_at hl 0 rfl) ?_
  refine lv_iconst (v := 0) cx.1 cx.2.1 dX12_isCourt_1 (by decide) ?_
  refine lv_bipush (v := 11) cx.1 cx.2.1 dX12_isCourt_2 (by decide) ?_
  obtain ⟨x2, g1, hc3, hr⟩ := of_bnd2 hr
  refine r_i dy (k_S (As := [.int a1, .int (0 : Int32), .int (11 : Int32)]) cx fx dy (c_X12_in hc3) mv_X12_in rfl rfl ⟨Nat.le_trans (by decide) hR.1, Nat.le_trans (by decide) hR.2⟩ tb_1170 rfl hl.1 rfl (Nat.le_of_ble_eq_true rfl) ⟨Nat.zero_le _, Nat.zero_le _⟩ dX12_isCourt_4) (fun H locs dy => ?_)
  obtain ⟨hb4, hr⟩ := of_grd hr
  obtain ⟨e0, e1⟩ := hq0 _ _ (Option.some.inj hr).symm
  exact h_iret cx dy hlocks hret hb4 e0 (by rw [e1]) dX12_isCourt_7
noncomputable def r_X12_isWard (V : Vk) (a1 : Int32) (g : Hq) : Option (Int32 × Hq) :=
  bnd (r_X12_in V a1 (0 : Int32) (3 : Int32) g) fun x2 g1 => grd (narrow .boolean (.int x2) = .int x2) <| some (x2, g1)
set_option maxHeartbeats 4000000 in
set_option maxRecDepth 100000 in
theorem c_X12_isWard {l : Launch} {D : va_G} {cA : Nat → ClassId} {sk : (Nat → Nat) × (Nat → Nat)} {ad : Nat → Nat} {A : Nat → Prop} {V : Vk} {a1 : Int32} {g g0 : Hq} {r0 : Int32} (hr : r_X12_isWard V a1 g = some (r0, g0)) : Met l yX12_isWard (wM yX12_isWard cX12_isWard 1 (some .boolean)) { frames := 1, cells := 0, slots := 0, locals := 22 } (Pre D cA sk ad (V, g) A [.int a1]) (QI D cA ad A r0 (V, g0)) 0 0 A := by
  refine Met.ofW (cc := cX12_isWard) (maxL := 1) (ret := (some .boolean)) (by decide) rfl ?_
  intro p e s m args below meth c s₁ B hml hv
  obtain ⟨rfl, fx, w0⟩ := hv
  have hts := atoms_spec (ws := wM yX12_isWard cX12_isWard 1 (some .boolean)) B.pre
  have cx : CallFix p m c cX12_isWard 1 s ([.int a1] : List Value).toArray gw_tbl RX12 := ⟨B.exec, B.bytes, hml, findClass_of_methodNamed B.named, fun w hw => hts w (List.mem_cons_of_mem _ hw)⟩
  have hlocks := B.notSynchronized
  have hret := B.returns
  have hR : 1 ≤ (headSpec (wM yX12_isWard cX12_isWard 1 (some .boolean)) { frames := 1, cells := 0, slots := 0, locals := 22 }).room.frames ∧ 22 ≤ (headSpec (wM yX12_isWard cX12_isWard 1 (some .boolean)) { frames := 1, cells := 0, slots := 0, locals := 22 }).room.locals := ⟨Nat.le_refl _, Nat.le_refl _⟩
  have dy : Dy D cA ad (V, g) A s.heap s.heap [] := ⟨w0, va_S.rf⟩
  have hl := lv_entry [.int a1] (n := 1) (Nat.le_of_ble_eq_true rfl)
  rw [lg_entry_eq]
  generalize (lg_sl [.int a1] ++ List.replicate (1 - (lg_sl [.int a1]).length) Slot.unset).toArray = ls at hl ⊢
  have hl : lv_has ls 1 [(0, .int a1)] := hl
  have dy0 : ∃ H0, H0 = s.heap ∧ Dy D cA ad (V, g) A s.heap H0 [] := ⟨_, rfl, dy⟩
  obtain ⟨z, ez⟩ : ∃ z, z = (r0, g0) := ⟨_, rfl⟩
  rw [← ez] at hr
  have hq0 : ∀ (rb : Int32) (gb : Hq), z = (rb, gb) → rb = r0 ∧ gb = g0 := fun rb gb eb => by rw [ez] at eb; exact ⟨(congrArg Prod.fst eb).symm, (congrArg Prod.snd eb).symm⟩
  clear ez w0 dy0
  unfold r_X12_isWard at hr
  obtain ⟨H, hH⟩ : ∃ H, H = s.heap := ⟨_, rfl⟩
  obtain ⟨locs, hlo⟩ : ∃ q : List Loc, q = [] := ⟨_, rfl⟩
  have dy : Dy D cA ad (V, g) A s.heap H locs := by rw [hH, hlo]; exact dy
  suffices K : W p l e (headSpec (wM yX12_isWard cX12_isWard 1 (some .boolean)) { frames := 1, cells := 0, slots := 0, locals := 22 }).room s m ([.int a1] : List Value).toArray below meth c H locs 0 0 (MQ below (QI D cA ad A r0 (V, g0)) ([.int a1] : List Value).toArray s 0 0 A) (F0 m 0 ls []) by rw [hH, hlo] at K; exact K
  clear hH hlo
  refine lv_iload_n cx.1 cx.2.1 dX12_isWard_0 rfl (lv_at hl 0 rfl) ?_
  refine lv_iconst (v := 0) cx.1 cx.2.1 dX12_isWard_1 (by decide) ?_
  refine lv_iconst (v := 3) cx.1 cx.2.1 dX12_isWard_2 (by decide) ?_
  obtain ⟨x2, g1, hc3, hr⟩ := of_bnd2 hr
  refine r_i dy (k_S (As := [.int a1, .int (0 : Int32), .int (3 : Int32)]) cx fx dy (c_X12_in hc3) mv_X12_in rfl rfl ⟨Nat.le_trans (by decide) hR.1, Nat.le_trans (by decide) hR.2⟩ tb_1170 rfl hl.1 rfl (Nat.le_of_ble_eq_true rfl) ⟨Nat.zero_le _, Nat.zero_le _⟩ dX12_isWard_3) (fun H locs dy => ?_)
  obtain ⟨hb4, hr⟩ := of_grd hr
  obtain ⟨e0, e1⟩ := hq0 _ _ (Option.some.inj hr).symm
  exact h_iret cx dy hlocks hret hb4 e0 (by rw [e1]) dX12_isWard_6
noncomputable def r_X12_isSome (V : Vk) (a1 : Int32) (g : Hq) : Option (Int32 × Hq) :=
  bnd (r_X12_in V a1 (0 : Int32) (15 : Int32) g) fun x2 g1 => grd (narrow .boolean (.int x2) = .int x2) <| some (x2, g1)
set_option maxHeartbeats 4000000 in
set_option maxRecDepth 100000 in
theorem c_X12_isSome {l : Launch} {D : va_G} {cA : Nat → ClassId} {sk : (Nat → Nat) × (Nat → Nat)} {ad : Nat → Nat} {A : Nat → Prop} {V : Vk} {a1 : Int32} {g g0 : Hq} {r0 : Int32} (hr : r_X12_isSome V a1 g = some (r0, g0)) : Met l yX12_isSome (wM yX12_isSome cX12_isSome 1 (some .boolean)) { frames := 1, cells := 0, slots := 0, locals := 22 } (Pre D cA sk ad (V, g) A [.int a1]) (QI D cA ad A r0 (V, g0)) 0 0 A := by
  refine Met.ofW (cc := cX12_isSome) (maxL := 1) (ret := (some .boolean)) (by decide) rfl ?_
  intro p e s m args below meth c s₁ B hml hv
  obtain ⟨rfl, fx, w0⟩ := hv
  have hts := atoms_spec (ws := wM yX12_isSome cX12_isSome 1 (some .boolean)) B.pre
  have cx : CallFix p m c cX12_isSome 1 s ([.int a1] : List Value).toArray gw_tbl RX12 := ⟨B.exec, B.bytes, hml, findClass_of_methodNamed B.named, fun w hw => hts w (List.mem_cons_of_mem _ hw)⟩
  have hlocks := B.notSynchronized
  have hret := B.returns
  have hR : 1 ≤ (headSpec (wM yX12_isSome cX12_isSome 1 (some .boolean)) { frames := 1, cells := 0, slots := 0, locals := 22 }).room.frames ∧ 22 ≤ (headSpec (wM yX12_isSome cX12_isSome 1 (some .boolean)) { frames := 1, cells := 0, slots := 0, locals := 22 }).room.locals := ⟨Nat.le_refl _, Nat.le_refl _⟩
  have dy : Dy D cA ad (V, g) A s.heap s.heap [] := ⟨w0, va_S.rf⟩
  have hl := lv_entry [.int a1] (n := 1) (Nat.le_of_ble_eq_true rfl)
  rw [lg_entry_eq]
  generalize (lg_sl [.int a1] ++ List.replicate (1 - (lg_sl [.int a1]).length) Slot.unset).toArray = ls at hl ⊢
  have hl : lv_has ls 1 [(0, .int a1)] := hl
  have dy0 : ∃ H0, H0 = s.heap ∧ Dy D cA ad (V, g) A s.heap H0 [] := ⟨_, rfl, dy⟩
  obtain ⟨z, ez⟩ : ∃ z, z = (r0, g0) := ⟨_, rfl⟩
  rw [← ez] at hr
  have hq0 : ∀ (rb : Int32) (gb : Hq), z = (rb, gb) → rb = r0 ∧ gb = g0 := fun rb gb eb => by rw [ez] at eb; exact ⟨(congrArg Prod.fst eb).symm, (congrArg Prod.snd eb).symm⟩
  clear ez w0 dy0
  unfold r_X12_isSome at hr
  obtain ⟨H, hH⟩ : ∃ H, H = s.heap := ⟨_, rfl⟩
  obtain ⟨locs, hlo⟩ : ∃ q : List Loc, q = [] := ⟨_, rfl⟩
  have dy : Dy D cA ad (V, g) A s.heap H locs := by rw [hH, hlo]; exact dy
  suffices K : W p l e (headSpec (wM yX12_isSome cX12_isSome 1 (some .boolean)) { frames := 1, cells := 0, slots := 0, locals := 22 }).room s m ([.int a1] : List Value).toArray below meth c H locs 0 0 (MQ below (QI D cA ad A r0 (V, g0)) ([.int a1] : List Value).toArray s 0 0 A) (F0 m 0 ls []) by rw [hH, hlo] at K; exact K
  clear hH hlo
  refine lv_iload_n cx.1 cx.2.1 dX12_isSome_0 rfl (lv_at hl 0 rfl) ?_
  refine lv_iconst (v := 0) cx.1 cx.2.1 dX12_isSome_1 (by decide) ?_
  refine lv_bipush (v := 15) cx.1 cx.2.1 dX12_isSome_2 (by decide) ?_
  obtain ⟨x2, g1, hc3, hr⟩ := of_bnd2 hr
  refine r_i dy (k_S (As := [.int a1, .int (0 : Int32), .int (15 : Int32)]) cx fx dy (c_X12_in hc3) mv_X12_in rfl rfl ⟨Nat.le_trans (by decide) hR.1, Nat.le_trans (by decide) hR.2⟩ tb_1170 rfl hl.1 rfl (Nat.le_of_ble_eq_true rfl) ⟨Nat.zero_le _, Nat.zero_le _⟩ dX12_isSome_4) (fun H locs dy => ?_)
  obtain ⟨hb4, hr⟩ := of_grd hr
  obtain ⟨e0, e1⟩ := hq0 _ _ (Option.some.inj hr).symm
  exact h_iret cx dy hlocks hret hb4 e0 (by rw [e1]) dX12_isSome_7
noncomputable def r_X12_plain (V : Vk) (a1 : Int32) (g : Hq) : Option (Int32 × Hq) :=
  brn (a1 = 0) (some ((21 : Int32), g)) (brn (a1 = (1 : Int32)) (some ((60 : Int32), g)) (brn (a1 = (2 : Int32)) (some ((7 : Int32), g)) (brn (a1 = (3 : Int32)) (some ((100 : Int32), g)) (brn (a1 = (4 : Int32)) (some ((-1 : Int32), g)) (brn (a1 = (5 : Int32)) (some ((-1 : Int32), g)) (brn (a1 = (6 : Int32)) (some ((0 : Int32), g)) (some ((4 : Int32), g))))))))
set_option maxHeartbeats 4000000 in
set_option maxRecDepth 100000 in
theorem c_X12_plain {l : Launch} {D : va_G} {cA : Nat → ClassId} {sk : (Nat → Nat) × (Nat → Nat)} {ad : Nat → Nat} {A : Nat → Prop} {V : Vk} {a1 : Int32} {g g0 : Hq} {r0 : Int32} (hr : r_X12_plain V a1 g = some (r0, g0)) : Met l yX12_plain (wM yX12_plain cX12_plain 1 (some .int)) { frames := 0, cells := 0, slots := 0, locals := 0 } (Pre D cA sk ad (V, g) A [.int a1]) (QI D cA ad A r0 (V, g0)) 0 0 A := by
  refine Met.ofW (cc := cX12_plain) (maxL := 1) (ret := (some .int)) (by decide) rfl ?_
  intro p e s m args below meth c s₁ B hml hv
  obtain ⟨rfl, fx, w0⟩ := hv
  have hts := atoms_spec (ws := wM yX12_plain cX12_plain 1 (some .int)) B.pre
  have cx : CallFix p m c cX12_plain 1 s ([.int a1] : List Value).toArray gw_tbl RX12 := ⟨B.exec, B.bytes, hml, findClass_of_methodNamed B.named, fun w hw => hts w (List.mem_cons_of_mem _ hw)⟩
  have hlocks := B.notSynchronized
  have hret := B.returns
  have hR : 0 ≤ (headSpec (wM yX12_plain cX12_plain 1 (some .int)) { frames := 0, cells := 0, slots := 0, locals := 0 }).room.frames ∧ 0 ≤ (headSpec (wM yX12_plain cX12_plain 1 (some .int)) { frames := 0, cells := 0, slots := 0, locals := 0 }).room.locals := ⟨Nat.le_refl _, Nat.le_refl _⟩
  have dy : Dy D cA ad (V, g) A s.heap s.heap [] := ⟨w0, va_S.rf⟩
  have hl := lv_entry [.int a1] (n := 1) (Nat.le_of_ble_eq_true rfl)
  rw [lg_entry_eq]
  generalize (lg_sl [.int a1] ++ List.replicate (1 - (lg_sl [.int a1]).length) Slot.unset).toArray = ls at hl ⊢
  have hl : lv_has ls 1 [(0, .int a1)] := hl
  have dy0 : ∃ H0, H0 = s.heap ∧ Dy D cA ad (V, g) A s.heap H0 [] := ⟨_, rfl, dy⟩
  obtain ⟨z, ez⟩ : ∃ z, z = (r0, g0) := ⟨_, rfl⟩
  rw [← ez] at hr
  have hq0 : ∀ (rb : Int32) (gb : Hq), z = (rb, gb) → rb = r0 ∧ gb = g0 := fun rb gb eb => by rw [ez] at eb; exact ⟨(congrArg Prod.fst eb).symm, (congrArg Prod.snd eb).symm⟩
  clear ez w0 dy0
  unfold r_X12_plain at hr
  obtain ⟨H, hH⟩ : ∃ H, H = s.heap := ⟨_, rfl⟩
  obtain ⟨locs, hlo⟩ : ∃ q : List Loc, q = [] := ⟨_, rfl⟩
  have dy : Dy D cA ad (V, g) A s.heap H locs := by rw [hH, hlo]; exact dy
  suffices K : W p l e (headSpec (wM yX12_plain cX12_plain 1 (some .int)) { frames := 0, cells := 0, slots := 0, locals := 0 }).room s m ([.int a1] : List Value).toArray below meth c H locs 0 0 (MQ below (QI D cA ad A r0 (V, g0)) ([.int a1] : List Value).toArray s 0 0 A) (F0 m 0 ls []) by rw [hH, hlo] at K; exact K
  clear hH hlo
  refine lv_iload_n cx.1 cx.2.1 dX12_plain_0 rfl (lv_at hl 0 rfl) ?_
  rcases of_brn hr with ⟨hc, hr⟩ | ⟨hc, hr⟩
  · refine lv_if_ne (tgt := 9) cx.1 cx.2.1 dX12_plain_1 (by decide) (fun hn => absurd hc hn) (fun _ => ?_)
    refine lv_bipush (v := 21) cx.1 cx.2.1 dX12_plain_4 (by decide) ?_
    refine lv_goto (tgt := 64) cx.1 cx.2.1 dX12_plain_6 (by decide) ?_
    obtain ⟨e0, e1⟩ := hq0 _ _ (Option.some.inj hr).symm
    exact h_iret cx dy hlocks hret rfl e0 (by rw [e1]) dX12_plain_64
  · refine lv_if_ne (tgt := 9) cx.1 cx.2.1 dX12_plain_1 (by decide) (fun _ => ?_) (fun hn => absurd hn hc)
    refine lv_iload_n cx.1 cx.2.1 dX12_plain_9 rfl (lv_at hl 0 rfl) ?_
    refine lv_iconst (v := 1) cx.1 cx.2.1 dX12_plain_10 (by decide) ?_
    rcases of_brn hr with ⟨hc, hr⟩ | ⟨hc, hr⟩
    · refine lv_icmp_ne (tgt := 19) cx.1 cx.2.1 dX12_plain_11 (by decide) (fun hn => absurd hc hn) (fun _ => ?_)
      refine lv_bipush (v := 60) cx.1 cx.2.1 dX12_plain_14 (by decide) ?_
      refine lv_goto (tgt := 64) cx.1 cx.2.1 dX12_plain_16 (by decide) ?_
      obtain ⟨e0, e1⟩ := hq0 _ _ (Option.some.inj hr).symm
      exact h_iret cx dy hlocks hret rfl e0 (by rw [e1]) dX12_plain_64
    · refine lv_icmp_ne (tgt := 19) cx.1 cx.2.1 dX12_plain_11 (by decide) (fun _ => ?_) (fun hn => absurd hn hc)
      refine lv_iload_n cx.1 cx.2.1 dX12_plain_19 rfl (lv_at hl 0 rfl) ?_
      refine lv_iconst (v := 2) cx.1 cx.2.1 dX12_plain_20 (by decide) ?_
      rcases of_brn hr with ⟨hc, hr⟩ | ⟨hc, hr⟩
      · refine lv_icmp_ne (tgt := 29) cx.1 cx.2.1 dX12_plain_21 (by decide) (fun hn => absurd hc hn) (fun _ => ?_)
        refine lv_bipush (v := 7) cx.1 cx.2.1 dX12_plain_24 (by decide) ?_
        refine lv_goto (tgt := 64) cx.1 cx.2.1 dX12_plain_26 (by decide) ?_
        obtain ⟨e0, e1⟩ := hq0 _ _ (Option.some.inj hr).symm
        exact h_iret cx dy hlocks hret rfl e0 (by rw [e1]) dX12_plain_64
      · refine lv_icmp_ne (tgt := 29) cx.1 cx.2.1 dX12_plain_21 (by decide) (fun _ => ?_) (fun hn => absurd hn hc)
        refine lv_iload_n cx.1 cx.2.1 dX12_plain_29 rfl (lv_at hl 0 rfl) ?_
        refine lv_iconst (v := 3) cx.1 cx.2.1 dX12_plain_30 (by decide) ?_
        rcases of_brn hr with ⟨hc, hr⟩ | ⟨hc, hr⟩
        · refine lv_icmp_ne (tgt := 39) cx.1 cx.2.1 dX12_plain_31 (by decide) (fun hn => absurd hc hn) (fun _ => ?_)
          refine lv_bipush (v := 100) cx.1 cx.2.1 dX12_plain_34 (by decide) ?_
          refine lv_goto (tgt := 64) cx.1 cx.2.1 dX12_plain_36 (by decide) ?_
          obtain ⟨e0, e1⟩ := hq0 _ _ (Option.some.inj hr).symm
          exact h_iret cx dy hlocks hret rfl e0 (by rw [e1]) dX12_plain_64
        · refine lv_icmp_ne (tgt := 39) cx.1 cx.2.1 dX12_plain_31 (by decide) (fun _ => ?_) (fun hn => absurd hn hc)
          refine lv_iload_n cx.1 cx.2.1 dX12_plain_39 rfl (lv_at hl 0 rfl) ?_
          refine lv_iconst (v := 4) cx.1 cx.2.1 dX12_plain_40 (by decide) ?_
          rcases of_brn hr with ⟨hc, hr⟩ | ⟨hc, hr⟩
          · refine lv_icmp_eq (tgt := 49) cx.1 cx.2.1 dX12_plain_41 (by decide) (fun _ => ?_) (fun hn => absurd hc hn)
            refine lv_iconst (v := (-1)) cx.1 cx.2.1 dX12_plain_49 (by decide) ?_
            refine lv_goto (tgt := 64) cx.1 cx.2.1 dX12_plain_50 (by decide) ?_
            obtain ⟨e0, e1⟩ := hq0 _ _ (Option.some.inj hr).symm
            exact h_iret cx dy hlocks hret rfl e0 (by rw [e1]) dX12_plain_64
          · refine lv_icmp_eq (tgt := 49) cx.1 cx.2.1 dX12_plain_41 (by decide) (fun hn => absurd hn hc) (fun _ => ?_)
            refine lv_iload_n cx.1 cx.2.1 dX12_plain_44 rfl (lv_at hl 0 rfl) ?_
            refine lv_iconst (v := 5) cx.1 cx.2.1 dX12_plain_45 (by decide) ?_
            rcases of_brn hr with ⟨hc, hr⟩ | ⟨hc, hr⟩
            · refine lv_icmp_ne (tgt := 53) cx.1 cx.2.1 dX12_plain_46 (by decide) (fun hn => absurd hc hn) (fun _ => ?_)
              refine lv_iconst (v := (-1)) cx.1 cx.2.1 dX12_plain_49 (by decide) ?_
              refine lv_goto (tgt := 64) cx.1 cx.2.1 dX12_plain_50 (by decide) ?_
              obtain ⟨e0, e1⟩ := hq0 _ _ (Option.some.inj hr).symm
              exact h_iret cx dy hlocks hret rfl e0 (by rw [e1]) dX12_plain_64
            · refine lv_icmp_ne (tgt := 53) cx.1 cx.2.1 dX12_plain_46 (by decide) (fun _ => ?_) (fun hn => absurd hn hc)
              refine lv_iload_n cx.1 cx.2.1 dX12_plain_53 rfl (lv_at hl 0 rfl) ?_
              refine lv_bipush (v := 6) cx.1 cx.2.1 dX12_plain_54 (by decide) ?_
              rcases of_brn hr with ⟨hc, hr⟩ | ⟨hc, hr⟩
              · refine lv_icmp_ne (tgt := 63) cx.1 cx.2.1 dX12_plain_56 (by decide) (fun hn => absurd hc hn) (fun _ => ?_)
                refine lv_iconst (v := 0) cx.1 cx.2.1 dX12_plain_59 (by decide) ?_
                refine lv_goto (tgt := 64) cx.1 cx.2.1 dX12_plain_60 (by decide) ?_
                obtain ⟨e0, e1⟩ := hq0 _ _ (Option.some.inj hr).symm
                exact h_iret cx dy hlocks hret rfl e0 (by rw [e1]) dX12_plain_64
              · refine lv_icmp_ne (tgt := 63) cx.1 cx.2.1 dX12_plain_56 (by decide) (fun _ => ?_) (fun hn => absurd hn hc)
                refine lv_iconst (v := 4) cx.1 cx.2.1 dX12_plain_63 (by decide) ?_
                obtain ⟨e0, e1⟩ := hq0 _ _ (Option.some.inj hr).symm
                exact h_iret cx dy hlocks hret rfl e0 (by rw [e1]) dX12_plain_64
noncomputable def r_X12_least_2' (V : Vk) (x1 : Int32) (x2 : Int32) (g3 : Hq) : Option ((Int32 × Int32 × Hq) ⊕ (Int32 × Hq)) :=
  brn (((x1 >>> (x2 &&& 31)) &&& (1 : Int32)) = 0) (nm (x2 + (1 : Int32)) fun x4 => some (.inl (x1, x4, g3))) (some (.inr (x2, g3)))
noncomputable def r_X12_least_2 (V : Vk) (st : (Int32 × Int32 × Hq)) : Option ((Int32 × Int32 × Hq) ⊕ (Int32 × Hq)) := r_X12_least_2' V st.1 st.2.1 st.2.2
set_option maxHeartbeats 4000000 in
set_option maxRecDepth 100000 in
theorem w_X12_least_2 {p : Program} {l : Launch} {e : Env} {R : Room} {s : State} {m : MethodId} {args : Array Value} {below : List Frame} {meth : Method} {c : Code} {D : va_G} {cA : Nat → ClassId} {sk : (Nat → Nat) × (Nat → Nat)} {ad : Nat → Nat} {A : Nat → Prop} {V : Vk} (cx : CallFix p m c cX12_least 2 s args gw_tbl RX12) (fx : Fx D cA sk A s) (hlocks : meth.locks = false) (hret : meth.sig.returnType = (some .int)) (hR : 0 ≤ R.frames ∧ 0 ≤ R.locals) (r0 : Int32) (g0 : Hq) (y : (Int32 × Hq)) (hq : ∀ (rb : Int32) (gb : Hq), y = (rb, gb) → rb = r0 ∧ gb = g0) : ∀ (n : Nat) (x1 : Int32) (x2 : Int32) (g3 : Hq), itr (r_X12_least_2 V) n (x1, x2, g3) = some y → ∀ (H : Heap) (locs : List Loc) (ls : Array Slot), Dy D cA ad (V, g3) A s.heap H locs → lv_has ls 2 [(0, .int x1), (1, .int x2)] → W p l e R s m args below meth c H locs 0 0 (MQ below (QI D cA ad A r0 (V, g0)) args s 0 0 A) (F0 m 2 ls []) := by
  intro n
  induction n with
  | zero => intro x1 x2 g3 hr; cases hr
  | succ n ih =>
    intro x1 x2 g3 hr H locs ls dy hl
    obtain ⟨z, hz, hn1, hn2⟩ := itr_succ hr
    clear hr
    have hr : r_X12_least_2' V x1 x2 g3 = some z := hz
    clear hz
    unfold r_X12_least_2' at hr
    have hh0 : ∀ (b0 : Int32) (b1 : Int32) (gb : Hq), z = .inl (b0, b1, gb) → ∀ (H : Heap) (locs : List Loc) (ls : Array Slot), Dy D cA ad (V, gb) A s.heap H locs → lv_has ls 2 [(0, .int b0), (1, .int b1)] → W p l e R s m args below meth c H locs 0 0 (MQ below (QI D cA ad A r0 (V, g0)) args s 0 0 A) (F0 m 2 ls []) := fun b0 b1 gb eb => ih b0 b1 gb (hn1 _ eb)
    have hq0 : ∀ (rb : Int32) (gb : Hq), z = (.inr (rb, gb)) → rb = r0 ∧ gb = g0 := fun rb gb eb => hq rb gb (hn2 _ eb).symm
    refine lv_iload_n cx.1 cx.2.1 dX12_least_2 rfl (lv_at hl 0 rfl) ?_
    refine lv_iload_n cx.1 cx.2.1 dX12_least_3 rfl (lv_at hl 1 rfl) ?_
    refine lv_ishr cx.1 cx.2.1 dX12_least_4 ?_
    refine lv_iconst (v := 1) cx.1 cx.2.1 dX12_least_5 (by decide) ?_
    refine lv_iand cx.1 cx.2.1 dX12_least_6 ?_
    rcases of_brn hr with ⟨hc, hr⟩ | ⟨hc, hr⟩
    · refine lv_if_ne (tgt := 16) cx.1 cx.2.1 dX12_least_7 (by decide) (fun hn => absurd hc hn) (fun _ => ?_)
      obtain ⟨x4, ex4, hr⟩ := of_nm hr
      refine lv_iinc (v := x4) (lv' := [(1, .int x4), (0, .int x1)]) cx.1 cx.2.1 dX12_least_10 hl (k := 1) rfl (by rw [ex4]; rfl) (by decide) rfl (fun ls hl => ?_)
      refine lv_goto (tgt := 2) cx.1 cx.2.1 dX12_least_13 (by decide) ?_
      exact hh0 x1 x4 g3 (Option.some.inj hr).symm H locs ls dy (lv_sub hl [1, 0] rfl)
    · refine lv_if_ne (tgt := 16) cx.1 cx.2.1 dX12_least_7 (by decide) (fun _ => ?_) (fun hn => absurd hn hc)
      refine lv_iload_n cx.1 cx.2.1 dX12_least_16 rfl (lv_at hl 1 rfl) ?_
      obtain ⟨e0, e1⟩ := hq0 _ _ (Option.some.inj hr).symm
      exact h_iret cx dy hlocks hret rfl e0 (by rw [e1]) dX12_least_17
noncomputable def r_X12_least (V : Vk) (a1 : Int32) (g : Hq) : Option (Int32 × Hq) :=
  (lop (r_X12_least_2 V) (a1, (0 : Int32), g))
set_option maxHeartbeats 4000000 in
set_option maxRecDepth 100000 in
theorem c_X12_least {l : Launch} {D : va_G} {cA : Nat → ClassId} {sk : (Nat → Nat) × (Nat → Nat)} {ad : Nat → Nat} {A : Nat → Prop} {V : Vk} {a1 : Int32} {g g0 : Hq} {r0 : Int32} (hr : r_X12_least V a1 g = some (r0, g0)) : Met l yX12_least (wM yX12_least cX12_least 2 (some .int)) { frames := 0, cells := 0, slots := 0, locals := 0 } (Pre D cA sk ad (V, g) A [.int a1]) (QI D cA ad A r0 (V, g0)) 0 0 A := by
  refine Met.ofW (cc := cX12_least) (maxL := 2) (ret := (some .int)) (by decide) rfl ?_
  intro p e s m args below meth c s₁ B hml hv
  obtain ⟨rfl, fx, w0⟩ := hv
  have hts := atoms_spec (ws := wM yX12_least cX12_least 2 (some .int)) B.pre
  have cx : CallFix p m c cX12_least 2 s ([.int a1] : List Value).toArray gw_tbl RX12 := ⟨B.exec, B.bytes, hml, findClass_of_methodNamed B.named, fun w hw => hts w (List.mem_cons_of_mem _ hw)⟩
  have hlocks := B.notSynchronized
  have hret := B.returns
  have hR : 0 ≤ (headSpec (wM yX12_least cX12_least 2 (some .int)) { frames := 0, cells := 0, slots := 0, locals := 0 }).room.frames ∧ 0 ≤ (headSpec (wM yX12_least cX12_least 2 (some .int)) { frames := 0, cells := 0, slots := 0, locals := 0 }).room.locals := ⟨Nat.le_refl _, Nat.le_refl _⟩
  have dy : Dy D cA ad (V, g) A s.heap s.heap [] := ⟨w0, va_S.rf⟩
  have hl := lv_entry [.int a1] (n := 2) (Nat.le_of_ble_eq_true rfl)
  rw [lg_entry_eq]
  generalize (lg_sl [.int a1] ++ List.replicate (2 - (lg_sl [.int a1]).length) Slot.unset).toArray = ls at hl ⊢
  have hl : lv_has ls 2 [(0, .int a1)] := hl
  have dy0 : ∃ H0, H0 = s.heap ∧ Dy D cA ad (V, g) A s.heap H0 [] := ⟨_, rfl, dy⟩
  obtain ⟨z, ez⟩ : ∃ z, z = (r0, g0) := ⟨_, rfl⟩
  rw [← ez] at hr
  have hq0 : ∀ (rb : Int32) (gb : Hq), z = (rb, gb) → rb = r0 ∧ gb = g0 := fun rb gb eb => by rw [ez] at eb; exact ⟨(congrArg Prod.fst eb).symm, (congrArg Prod.snd eb).symm⟩
  clear ez w0 dy0
  unfold r_X12_least at hr
  obtain ⟨H, hH⟩ : ∃ H, H = s.heap := ⟨_, rfl⟩
  obtain ⟨locs, hlo⟩ : ∃ q : List Loc, q = [] := ⟨_, rfl⟩
  have dy : Dy D cA ad (V, g) A s.heap H locs := by rw [hH, hlo]; exact dy
  suffices K : W p l e (headSpec (wM yX12_least cX12_least 2 (some .int)) { frames := 0, cells := 0, slots := 0, locals := 0 }).room s m ([.int a1] : List Value).toArray below meth c H locs 0 0 (MQ below (QI D cA ad A r0 (V, g0)) ([.int a1] : List Value).toArray s 0 0 A) (F0 m 0 ls []) by rw [hH, hlo] at K; exact K
  clear hH hlo
  refine lv_iconst (v := 0) cx.1 cx.2.1 dX12_least_0 (by decide) ?_
  refine lv_istore_n (lv' := [(1, .int (0 : Int32)), (0, .int a1)]) cx.1 cx.2.1 dX12_least_1 rfl hl (by decide) rfl (fun ls hl => ?_)
  obtain ⟨n, hr⟩ := lop_some hr
  exact w_X12_least_2 cx fx hlocks hret hR r0 g0 z hq0 n a1 (0 : Int32) g hr H locs ls dy (lv_sub hl [1, 0] rfl)
noncomputable def r_X3_isBlank (V : Vk) (a1 : Int32) (g : Hq) : Option (Int32 × Hq) :=
  brn (a1 = (32 : Int32)) (some ((1 : Int32), g)) (brn (a1 = (10 : Int32)) (some ((1 : Int32), g)) (some ((0 : Int32), g)))
set_option maxHeartbeats 4000000 in
set_option maxRecDepth 100000 in
theorem c_X3_isBlank {l : Launch} {D : va_G} {cA : Nat → ClassId} {sk : (Nat → Nat) × (Nat → Nat)} {ad : Nat → Nat} {A : Nat → Prop} {V : Vk} {a1 : Int32} {g g0 : Hq} {r0 : Int32} (hr : r_X3_isBlank V a1 g = some (r0, g0)) : Met l yX3_isBlank (wM yX3_isBlank cX3_isBlank 1 (some .boolean)) { frames := 0, cells := 0, slots := 0, locals := 0 } (Pre D cA sk ad (V, g) A [.int a1]) (QI D cA ad A r0 (V, g0)) 0 0 A := by
  refine Met.ofW (cc := cX3_isBlank) (maxL := 1) (ret := (some .boolean)) (by decide) rfl ?_
  intro p e s m args below meth c s₁ B hml hv
  obtain ⟨rfl, fx, w0⟩ := hv
  have hts := atoms_spec (ws := wM yX3_isBlank cX3_isBlank 1 (some .boolean)) B.pre
  have cx : CallFix p m c cX3_isBlank 1 s ([.int a1] : List Value).toArray gw_tbl RX3 := ⟨B.exec, B.bytes, hml, findClass_of_methodNamed B.named, fun w hw => hts w (List.mem_cons_of_mem _ hw)⟩
  have hlocks := B.notSynchronized
  have hret := B.returns
  have hR : 0 ≤ (headSpec (wM yX3_isBlank cX3_isBlank 1 (some .boolean)) { frames := 0, cells := 0, slots := 0, locals := 0 }).room.frames ∧ 0 ≤ (headSpec (wM yX3_isBlank cX3_isBlank 1 (some .boolean)) { frames := 0, cells := 0, slots := 0, locals := 0 }).room.locals := ⟨Nat.le_refl _, Nat.le_refl _⟩
  have dy : Dy D cA ad (V, g) A s.heap s.heap [] := ⟨w0, va_S.rf⟩
  have hl := lv_entry [.int a1] (n := 1) (Nat.le_of_ble_eq_true rfl)
  rw [lg_entry_eq]
  generalize (lg_sl [.int a1] ++ List.replicate (1 - (lg_sl [.int a1]).length) Slot.unset).toArray = ls at hl ⊢
  have hl : lv_has ls 1 [(0, .int a1)] := hl
  have dy0 : ∃ H0, H0 = s.heap ∧ Dy D cA ad (V, g) A s.heap H0 [] := ⟨_, rfl, dy⟩
  obtain ⟨z, ez⟩ : ∃ z, z = (r0, g0) := ⟨_, rfl⟩
  rw [← ez] at hr
  have hq0 : ∀ (rb : Int32) (gb : Hq), z = (rb, gb) → rb = r0 ∧ gb = g0 := fun rb gb eb => by rw [ez] at eb; exact ⟨(congrArg Prod.fst eb).symm, (congrArg Prod.snd eb).symm⟩
  clear ez w0 dy0
  unfold r_X3_isBlank at hr
  obtain ⟨H, hH⟩ : ∃ H, H = s.heap := ⟨_, rfl⟩
  obtain ⟨locs, hlo⟩ : ∃ q : List Loc, q = [] := ⟨_, rfl⟩
  have dy : Dy D cA ad (V, g) A s.heap H locs := by rw [hH, hlo]; exact dy
  suffices K : W p l e (headSpec (wM yX3_isBlank cX3_isBlank 1 (some .boolean)) { frames := 0, cells := 0, slots := 0, locals := 0 }).room s m ([.int a1] : List Value).toArray below meth c H locs 0 0 (MQ below (QI D cA ad A r0 (V, g0)) ([.int a1] : List Value).toArray s 0 0 A) (F0 m 0 ls []) by rw [hH, hlo] at K; exact K
  clear hH hlo
  refine lv_iload_n cx.1 cx.2.1 dX3_isBlank_0 rfl (lv_at hl 0 rfl) ?_
  refine lv_bipush (v := 32) cx.1 cx.2.1 dX3_isBlank_1 (by decide) ?_
  rcases of_brn hr with ⟨hc, hr⟩ | ⟨hc, hr⟩
  · refine lv_icmp_eq (tgt := 12) cx.1 cx.2.1 dX3_isBlank_3 (by decide) (fun _ => ?_) (fun hn => absurd hc hn)
    refine lv_iconst (v := 1) cx.1 cx.2.1 dX3_isBlank_12 (by decide) ?_
    refine lv_goto (tgt := 17) cx.1 cx.2.1 dX3_isBlank_13 (by decide) ?_
    obtain ⟨e0, e1⟩ := hq0 _ _ (Option.some.inj hr).symm
    exact h_iret cx dy hlocks hret rfl e0 (by rw [e1]) dX3_isBlank_17
  · refine lv_icmp_eq (tgt := 12) cx.1 cx.2.1 dX3_isBlank_3 (by decide) (fun hn => absurd hn hc) (fun _ => ?_)
    refine lv_iload_n cx.1 cx.2.1 dX3_isBlank_6 rfl (lv_at hl 0 rfl) ?_
    refine lv_bipush (v := 10) cx.1 cx.2.1 dX3_isBlank_7 (by decide) ?_
    rcases of_brn hr with ⟨hc, hr⟩ | ⟨hc, hr⟩
    · refine lv_icmp_ne (tgt := 16) cx.1 cx.2.1 dX3_isBlank_9 (by decide) (fun hn => absurd hc hn) (fun _ => ?_)
      refine lv_iconst (v := 1) cx.1 cx.2.1 dX3_isBlank_12 (by decide) ?_
      refine lv_goto (tgt := 17) cx.1 cx.2.1 dX3_isBlank_13 (by decide) ?_
      obtain ⟨e0, e1⟩ := hq0 _ _ (Option.some.inj hr).symm
      exact h_iret cx dy hlocks hret rfl e0 (by rw [e1]) dX3_isBlank_17
    · refine lv_icmp_ne (tgt := 16) cx.1 cx.2.1 dX3_isBlank_9 (by decide) (fun _ => ?_) (fun hn => absurd hn hc)
      refine lv_iconst (v := 0) cx.1 cx.2.1 dX3_isBlank_16 (by decide) ?_
      obtain ⟨e0, e1⟩ := hq0 _ _ (Option.some.inj hr).symm
      exact h_iret cx dy hlocks hret rfl e0 (by rw [e1]) dX3_isBlank_17
noncomputable def r_X3_isLetter (V : Vk) (a1 : Int32) (g : Hq) : Option (Int32 × Hq) :=
  brn (a1 < (97 : Int32)) (some ((0 : Int32), g)) (brn ((122 : Int32) < a1) (some ((0 : Int32), g)) (some ((1 : Int32), g)))
set_option maxHeartbeats 4000000 in
set_option maxRecDepth 100000 in
theorem c_X3_isLetter {l : Launch} {D : va_G} {cA : Nat → ClassId} {sk : (Nat → Nat) × (Nat → Nat)} {ad : Nat → Nat} {A : Nat → Prop} {V : Vk} {a1 : Int32} {g g0 : Hq} {r0 : Int32} (hr : r_X3_isLetter V a1 g = some (r0, g0)) : Met l yX3_isLetter (wM yX3_isLetter cX3_isLetter 1 (some .boolean)) { frames := 0, cells := 0, slots := 0, locals := 0 } (Pre D cA sk ad (V, g) A [.int a1]) (QI D cA ad A r0 (V, g0)) 0 0 A := by
  refine Met.ofW (cc := cX3_isLetter) (maxL := 1) (ret := (some .boolean)) (by decide) rfl ?_
  intro p e s m args below meth c s₁ B hml hv
  obtain ⟨rfl, fx, w0⟩ := hv
  have hts := atoms_spec (ws := wM yX3_isLetter cX3_isLetter 1 (some .boolean)) B.pre
  have cx : CallFix p m c cX3_isLetter 1 s ([.int a1] : List Value).toArray gw_tbl RX3 := ⟨B.exec, B.bytes, hml, findClass_of_methodNamed B.named, fun w hw => hts w (List.mem_cons_of_mem _ hw)⟩
  have hlocks := B.notSynchronized
  have hret := B.returns
  have hR : 0 ≤ (headSpec (wM yX3_isLetter cX3_isLetter 1 (some .boolean)) { frames := 0, cells := 0, slots := 0, locals := 0 }).room.frames ∧ 0 ≤ (headSpec (wM yX3_isLetter cX3_isLetter 1 (some .boolean)) { frames := 0, cells := 0, slots := 0, locals := 0 }).room.locals := ⟨Nat.le_refl _, Nat.le_refl _⟩
  have dy : Dy D cA ad (V, g) A s.heap s.heap [] := ⟨w0, va_S.rf⟩
  have hl := lv_entry [.int a1] (n := 1) (Nat.le_of_ble_eq_true rfl)
  rw [lg_entry_eq]
  generalize (lg_sl [.int a1] ++ List.replicate (1 - (lg_sl [.int a1]).length) Slot.unset).toArray = ls at hl ⊢
  have hl : lv_has ls 1 [(0, .int a1)] := hl
  have dy0 : ∃ H0, H0 = s.heap ∧ Dy D cA ad (V, g) A s.heap H0 [] := ⟨_, rfl, dy⟩
  obtain ⟨z, ez⟩ : ∃ z, z = (r0, g0) := ⟨_, rfl⟩
  rw [← ez] at hr
  have hq0 : ∀ (rb : Int32) (gb : Hq), z = (rb, gb) → rb = r0 ∧ gb = g0 := fun rb gb eb => by rw [ez] at eb; exact ⟨(congrArg Prod.fst eb).symm, (congrArg Prod.snd eb).symm⟩
  clear ez w0 dy0
  unfold r_X3_isLetter at hr
  obtain ⟨H, hH⟩ : ∃ H, H = s.heap := ⟨_, rfl⟩
  obtain ⟨locs, hlo⟩ : ∃ q : List Loc, q = [] := ⟨_, rfl⟩
  have dy : Dy D cA ad (V, g) A s.heap H locs := by rw [hH, hlo]; exact dy
  suffices K : W p l e (headSpec (wM yX3_isLetter cX3_isLetter 1 (some .boolean)) { frames := 0, cells := 0, slots := 0, locals := 0 }).room s m ([.int a1] : List Value).toArray below meth c H locs 0 0 (MQ below (QI D cA ad A r0 (V, g0)) ([.int a1] : List Value).toArray s 0 0 A) (F0 m 0 ls []) by rw [hH, hlo] at K; exact K
  clear hH hlo
  refine lv_iload_n cx.1 cx.2.1 dX3_isLetter_0 rfl (lv_at hl 0 rfl) ?_
  refine lv_bipush (v := 97) cx.1 cx.2.1 dX3_isLetter_1 (by decide) ?_
  rcases of_brn hr with ⟨hc, hr⟩ | ⟨hc, hr⟩
  · refine lv_icmp_lt (tgt := 16) cx.1 cx.2.1 dX3_isLetter_3 (by decide) (fun _ => ?_) (fun hn => absurd hc hn)
    refine lv_iconst (v := 0) cx.1 cx.2.1 dX3_isLetter_16 (by decide) ?_
    obtain ⟨e0, e1⟩ := hq0 _ _ (Option.some.inj hr).symm
    exact h_iret cx dy hlocks hret rfl e0 (by rw [e1]) dX3_isLetter_17
  · refine lv_icmp_lt (tgt := 16) cx.1 cx.2.1 dX3_isLetter_3 (by decide) (fun hn => absurd hn hc) (fun _ => ?_)
    refine lv_iload_n cx.1 cx.2.1 dX3_isLetter_6 rfl (lv_at hl 0 rfl) ?_
    refine lv_bipush (v := 122) cx.1 cx.2.1 dX3_isLetter_7 (by decide) ?_
    rcases of_brn hr with ⟨hc, hr⟩ | ⟨hc, hr⟩
    · refine lv_icmp_gt (tgt := 16) cx.1 cx.2.1 dX3_isLetter_9 (by decide) (fun _ => ?_) (fun hn => absurd hc hn)
      refine lv_iconst (v := 0) cx.1 cx.2.1 dX3_isLetter_16 (by decide) ?_
      obtain ⟨e0, e1⟩ := hq0 _ _ (Option.some.inj hr).symm
      exact h_iret cx dy hlocks hret rfl e0 (by rw [e1]) dX3_isLetter_17
    · refine lv_icmp_gt (tgt := 16) cx.1 cx.2.1 dX3_isLetter_9 (by decide) (fun hn => absurd hn hc) (fun _ => ?_)
      refine lv_iconst (v := 1) cx.1 cx.2.1 dX3_isLetter_12 (by decide) ?_
      refine lv_goto (tgt := 17) cx.1 cx.2.1 dX3_isLetter_13 (by decide) ?_
      obtain ⟨e0, e1⟩ := hq0 _ _ (Option.some.inj hr).symm
      exact h_iret cx dy hlocks hret rfl e0 (by rw [e1]) dX3_isLetter_17
noncomputable def r_X3_isDigit (V : Vk) (a1 : Int32) (g : Hq) : Option (Int32 × Hq) :=
  brn (a1 < (48 : Int32)) (some ((0 : Int32), g)) (brn ((57 : Int32) < a1) (some ((0 : Int32), g)) (some ((1 : Int32), g)))
set_option maxHeartbeats 4000000 in
set_option maxRecDepth 100000 in
theorem c_X3_isDigit {l : Launch} {D : va_G} {cA : Nat → ClassId} {sk : (Nat → Nat) × (Nat → Nat)} {ad : Nat → Nat} {A : Nat → Prop} {V : Vk} {a1 : Int32} {g g0 : Hq} {r0 : Int32} (hr : r_X3_isDigit V a1 g = some (r0, g0)) : Met l yX3_isDigit (wM yX3_isDigit cX3_isDigit 1 (some .boolean)) { frames := 0, cells := 0, slots := 0, locals := 0 } (Pre D cA sk ad (V, g) A [.int a1]) (QI D cA ad A r0 (V, g0)) 0 0 A := by
  refine Met.ofW (cc := cX3_isDigit) (maxL := 1) (ret := (some .boolean)) (by decide) rfl ?_
  intro p e s m args below meth c s₁ B hml hv
  obtain ⟨rfl, fx, w0⟩ := hv
  have hts := atoms_spec (ws := wM yX3_isDigit cX3_isDigit 1 (some .boolean)) B.pre
  have cx : CallFix p m c cX3_isDigit 1 s ([.int a1] : List Value).toArray gw_tbl RX3 := ⟨B.exec, B.bytes, hml, findClass_of_methodNamed B.named, fun w hw => hts w (List.mem_cons_of_mem _ hw)⟩
  have hlocks := B.notSynchronized
  have hret := B.returns
  have hR : 0 ≤ (headSpec (wM yX3_isDigit cX3_isDigit 1 (some .boolean)) { frames := 0, cells := 0, slots := 0, locals := 0 }).room.frames ∧ 0 ≤ (headSpec (wM yX3_isDigit cX3_isDigit 1 (some .boolean)) { frames := 0, cells := 0, slots := 0, locals := 0 }).room.locals := ⟨Nat.le_refl _, Nat.le_refl _⟩
  have dy : Dy D cA ad (V, g) A s.heap s.heap [] := ⟨w0, va_S.rf⟩
  have hl := lv_entry [.int a1] (n := 1) (Nat.le_of_ble_eq_true rfl)
  rw [lg_entry_eq]
  generalize (lg_sl [.int a1] ++ List.replicate (1 - (lg_sl [.int a1]).length) Slot.unset).toArray = ls at hl ⊢
  have hl : lv_has ls 1 [(0, .int a1)] := hl
  have dy0 : ∃ H0, H0 = s.heap ∧ Dy D cA ad (V, g) A s.heap H0 [] := ⟨_, rfl, dy⟩
  obtain ⟨z, ez⟩ : ∃ z, z = (r0, g0) := ⟨_, rfl⟩
  rw [← ez] at hr
  have hq0 : ∀ (rb : Int32) (gb : Hq), z = (rb, gb) → rb = r0 ∧ gb = g0 := fun rb gb eb => by rw [ez] at eb; exact ⟨(congrArg Prod.fst eb).symm, (congrArg Prod.snd eb).symm⟩
  clear ez w0 dy0
  unfold r_X3_isDigit at hr
  obtain ⟨H, hH⟩ : ∃ H, H = s.heap := ⟨_, rfl⟩
  obtain ⟨locs, hlo⟩ : ∃ q : List Loc, q = [] := ⟨_, rfl⟩
  have dy : Dy D cA ad (V, g) A s.heap H locs := by rw [hH, hlo]; exact dy
  suffices K : W p l e (headSpec (wM yX3_isDigit cX3_isDigit 1 (some .boolean)) { frames := 0, cells := 0, slots := 0, locals := 0 }).room s m ([.int a1] : List Value).toArray below meth c H locs 0 0 (MQ below (QI D cA ad A r0 (V, g0)) ([.int a1] : List Value).toArray s 0 0 A) (F0 m 0 ls []) by rw [hH, hlo] at K; exact K
  clear hH hlo
  refine lv_iload_n cx.1 cx.2.1 dX3_isDigit_0 rfl (lv_at hl 0 rfl) ?_
  refine lv_bipush (v := 48) cx.1 cx.2.1 dX3_isDigit_1 (by decide) ?_
  rcases of_brn hr with ⟨hc, hr⟩ | ⟨hc, hr⟩
  · refine lv_icmp_lt (tgt := 16) cx.1 cx.2.1 dX3_isDigit_3 (by decide) (fun _ => ?_) (fun hn => absurd hc hn)
    refine lv_iconst (v := 0) cx.1 cx.2.1 dX3_isDigit_16 (by decide) ?_
    obtain ⟨e0, e1⟩ := hq0 _ _ (Option.some.inj hr).symm
    exact h_iret cx dy hlocks hret rfl e0 (by rw [e1]) dX3_isDigit_17
  · refine lv_icmp_lt (tgt := 16) cx.1 cx.2.1 dX3_isDigit_3 (by decide) (fun hn => absurd hn hc) (fun _ => ?_)
    refine lv_iload_n cx.1 cx.2.1 dX3_isDigit_6 rfl (lv_at hl 0 rfl) ?_
    refine lv_bipush (v := 57) cx.1 cx.2.1 dX3_isDigit_7 (by decide) ?_
    rcases of_brn hr with ⟨hc, hr⟩ | ⟨hc, hr⟩
    · refine lv_icmp_gt (tgt := 16) cx.1 cx.2.1 dX3_isDigit_9 (by decide) (fun _ => ?_) (fun hn => absurd hc hn)
      refine lv_iconst (v := 0) cx.1 cx.2.1 dX3_isDigit_16 (by decide) ?_
      obtain ⟨e0, e1⟩ := hq0 _ _ (Option.some.inj hr).symm
      exact h_iret cx dy hlocks hret rfl e0 (by rw [e1]) dX3_isDigit_17
    · refine lv_icmp_gt (tgt := 16) cx.1 cx.2.1 dX3_isDigit_9 (by decide) (fun hn => absurd hn hc) (fun _ => ?_)
      refine lv_iconst (v := 1) cx.1 cx.2.1 dX3_isDigit_12 (by decide) ?_
      refine lv_goto (tgt := 17) cx.1 cx.2.1 dX3_isDigit_13 (by decide) ?_
      obtain ⟨e0, e1⟩ := hq0 _ _ (Option.some.inj hr).symm
      exact h_iret cx dy hlocks hret rfl e0 (by rw [e1]) dX3_isDigit_17
noncomputable def r_X6_rowShift (V : Vk) (a1 : Int32) (g : Hq) : Option (Int32 × Hq) :=
  some (((4 : Int32) * ((9 : Int32) - a1)), g)
set_option maxHeartbeats 4000000 in
set_option maxRecDepth 100000 in
theorem c_X6_rowShift {l : Launch} {D : va_G} {cA : Nat → ClassId} {sk : (Nat → Nat) × (Nat → Nat)} {ad : Nat → Nat} {A : Nat → Prop} {V : Vk} {a1 : Int32} {g g0 : Hq} {r0 : Int32} (hr : r_X6_rowShift V a1 g = some (r0, g0)) : Met l yX6_rowShift (wM yX6_rowShift cX6_rowShift 1 (some .int)) { frames := 0, cells := 0, slots := 0, locals := 0 } (Pre D cA sk ad (V, g) A [.int a1]) (QI D cA ad A r0 (V, g0)) 0 0 A := by
  refine Met.ofW (cc := cX6_rowShift) (maxL := 1) (ret := (some .int)) (by decide) rfl ?_
  intro p e s m args below meth c s₁ B hml hv
  obtain ⟨rfl, fx, w0⟩ := hv
  have hts := atoms_spec (ws := wM yX6_rowShift cX6_rowShift 1 (some .int)) B.pre
  have cx : CallFix p m c cX6_rowShift 1 s ([.int a1] : List Value).toArray gw_tbl RX6 := ⟨B.exec, B.bytes, hml, findClass_of_methodNamed B.named, fun w hw => hts w (List.mem_cons_of_mem _ hw)⟩
  have hlocks := B.notSynchronized
  have hret := B.returns
  have hR : 0 ≤ (headSpec (wM yX6_rowShift cX6_rowShift 1 (some .int)) { frames := 0, cells := 0, slots := 0, locals := 0 }).room.frames ∧ 0 ≤ (headSpec (wM yX6_rowShift cX6_rowShift 1 (some .int)) { frames := 0, cells := 0, slots := 0, locals := 0 }).room.locals := ⟨Nat.le_refl _, Nat.le_refl _⟩
  have dy : Dy D cA ad (V, g) A s.heap s.heap [] := ⟨w0, va_S.rf⟩
  have hl := lv_entry [.int a1] (n := 1) (Nat.le_of_ble_eq_true rfl)
  rw [lg_entry_eq]
  generalize (lg_sl [.int a1] ++ List.replicate (1 - (lg_sl [.int a1]).length) Slot.unset).toArray = ls at hl ⊢
  have hl : lv_has ls 1 [(0, .int a1)] := hl
  have dy0 : ∃ H0, H0 = s.heap ∧ Dy D cA ad (V, g) A s.heap H0 [] := ⟨_, rfl, dy⟩
  obtain ⟨z, ez⟩ : ∃ z, z = (r0, g0) := ⟨_, rfl⟩
  rw [← ez] at hr
  have hq0 : ∀ (rb : Int32) (gb : Hq), z = (rb, gb) → rb = r0 ∧ gb = g0 := fun rb gb eb => by rw [ez] at eb; exact ⟨(congrArg Prod.fst eb).symm, (congrArg Prod.snd eb).symm⟩
  clear ez w0 dy0
  unfold r_X6_rowShift at hr
  obtain ⟨H, hH⟩ : ∃ H, H = s.heap := ⟨_, rfl⟩
  obtain ⟨locs, hlo⟩ : ∃ q : List Loc, q = [] := ⟨_, rfl⟩
  have dy : Dy D cA ad (V, g) A s.heap H locs := by rw [hH, hlo]; exact dy
  suffices K : W p l e (headSpec (wM yX6_rowShift cX6_rowShift 1 (some .int)) { frames := 0, cells := 0, slots := 0, locals := 0 }).room s m ([.int a1] : List Value).toArray below meth c H locs 0 0 (MQ below (QI D cA ad A r0 (V, g0)) ([.int a1] : List Value).toArray s 0 0 A) (F0 m 0 ls []) by rw [hH, hlo] at K; exact K
  clear hH hlo
  refine lv_iconst (v := 4) cx.1 cx.2.1 dX6_rowShift_0 (by decide) ?_
  refine lv_bipush (v := 9) cx.1 cx.2.1 dX6_rowShift_1 (by decide) ?_
  refine lv_iload_n cx.1 cx.2.1 dX6_rowShift_3 rfl (lv_at hl 0 rfl) ?_
  refine lv_isub cx.1 cx.2.1 dX6_rowShift_4 ?_
  refine lv_imul cx.1 cx.2.1 dX6_rowShift_5 ?_
  obtain ⟨e0, e1⟩ := hq0 _ _ (Option.some.inj hr).symm
  exact h_iret cx dy hlocks hret rfl e0 (by rw [e1]) dX6_rowShift_6
noncomputable def r_J6_numberOfTrailingZeros_0f7a4_49 (V : Vk) (x2 : Int32) (x3 : Int32) (g4 : Hq) : Option (Int32 × Hq) :=
  brn (x2 ≤ (16 : Int32)) (brn (x2 ≤ (4 : Int32)) (some ((x3 + (x2.toUInt32 >>> ((1 : Int32).toUInt32 &&& Int32.toUInt32 31)).toInt32), g4)) (nm (x3 + (2 : Int32)) fun x5 => nm (x2.toUInt32 >>> ((2 : Int32).toUInt32 &&& Int32.toUInt32 31)).toInt32 fun x6 => some ((x5 + (x6.toUInt32 >>> ((1 : Int32).toUInt32 &&& Int32.toUInt32 31)).toInt32), g4))) (nm (x3 + (4 : Int32)) fun x7 => nm (x2.toUInt32 >>> ((4 : Int32).toUInt32 &&& Int32.toUInt32 31)).toInt32 fun x8 => brn (x8 ≤ (4 : Int32)) (some ((x7 + (x8.toUInt32 >>> ((1 : Int32).toUInt32 &&& Int32.toUInt32 31)).toInt32), g4)) (nm (x7 + (2 : Int32)) fun x9 => nm (x8.toUInt32 >>> ((2 : Int32).toUInt32 &&& Int32.toUInt32 31)).toInt32 fun x10 => some ((x9 + (x10.toUInt32 >>> ((1 : Int32).toUInt32 &&& Int32.toUInt32 31)).toInt32), g4)))
set_option maxHeartbeats 4000000 in
set_option maxRecDepth 100000 in
theorem w_J6_numberOfTrailingZeros_0f7a4_49 {p : Program} {l : Launch} {e : Env} {R : Room} {s : State} {m : MethodId} {args : Array Value} {below : List Frame} {meth : Method} {c : Code} {D : va_G} {cA : Nat → ClassId} {sk : (Nat → Nat) × (Nat → Nat)} {ad : Nat → Nat} {A : Nat → Prop} {V : Vk} (cx : CallFix p m c cJ6_numberOfTrailingZeros_0f7a4 2 s args gw_tbl RJ6) (fx : Fx D cA sk A s) (hlocks : meth.locks = false) (hret : meth.sig.returnType = (some .int)) (hR : 0 ≤ R.frames ∧ 0 ≤ R.locals) (r0 : Int32) (g0 : Hq) (z : (Int32 × Hq)) (hq : ∀ (rb : Int32) (gb : Hq), z = (rb, gb) → rb = r0 ∧ gb = g0) (x2 : Int32) (x3 : Int32) (g4 : Hq) (hr : r_J6_numberOfTrailingZeros_0f7a4_49 V x2 x3 g4 = some z) (H : Heap) (locs : List Loc) (ls : Array Slot) (dy : Dy D cA ad (V, g4) A s.heap H locs) (hl : lv_has ls 2 [(0, .int x2), (1, .int x3)]) : W p l e R s m args below meth c H locs 0 0 (MQ below (QI D cA ad A r0 (V, g0)) args s 0 0 A) (F0 m 49 ls []) := by
  unfold r_J6_numberOfTrailingZeros_0f7a4_49 at hr
  have hq0 := hq
  refine lv_iload_n cx.1 cx.2.1 dJ6_numberOfTrailingZeros_0f7a4_49 rfl (lv_at hl 0 rfl) ?_
  refine lv_bipush (v := 16) cx.1 cx.2.1 dJ6_numberOfTrailingZeros_0f7a4_50 (by decide) ?_
  rcases of_brn hr with ⟨hc, hr⟩ | ⟨hc, hr⟩
  · refine lv_icmp_le (tgt := 62) cx.1 cx.2.1 dJ6_numberOfTrailingZeros_0f7a4_52 (by decide) (fun _ => ?_) (fun hn => absurd hc hn)
    refine lv_iload_n cx.1 cx.2.1 dJ6_numberOfTrailingZeros_0f7a4_62 rfl (lv_at hl 0 rfl) ?_
    refine lv_iconst (v := 4) cx.1 cx.2.1 dJ6_numberOfTrailingZeros_0f7a4_63 (by decide) ?_
    rcases of_brn hr with ⟨hc, hr⟩ | ⟨hc, hr⟩
    · refine lv_icmp_le (tgt := 74) cx.1 cx.2.1 dJ6_numberOfTrailingZeros_0f7a4_64 (by decide) (fun _ => ?_) (fun hn => absurd hc hn)
      refine lv_iload_n cx.1 cx.2.1 dJ6_numberOfTrailingZeros_0f7a4_74 rfl (lv_at hl 1 rfl) ?_
      refine lv_iload_n cx.1 cx.2.1 dJ6_numberOfTrailingZeros_0f7a4_75 rfl (lv_at hl 0 rfl) ?_
      refine lv_iconst (v := 1) cx.1 cx.2.1 dJ6_numberOfTrailingZeros_0f7a4_76 (by decide) ?_
      refine lv_iushr cx.1 cx.2.1 dJ6_numberOfTrailingZeros_0f7a4_77 rfl ?_
      refine lv_iadd cx.1 cx.2.1 dJ6_numberOfTrailingZeros_0f7a4_78 ?_
      obtain ⟨e0, e1⟩ := hq0 _ _ (Option.some.inj hr).symm
      exact h_iret cx dy hlocks hret rfl e0 (by rw [e1]) dJ6_numberOfTrailingZeros_0f7a4_79
    · refine lv_icmp_le (tgt := 74) cx.1 cx.2.1 dJ6_numberOfTrailingZeros_0f7a4_64 (by decide) (fun hn => absurd hn hc) (fun _ => ?_)
      obtain ⟨x5, ex5, hr⟩ := of_nm hr
      refine lv_iinc (v := x5) (lv' := [(1, .int x5), (0, .int x2)]) cx.1 cx.2.1 dJ6_numberOfTrailingZeros_0f7a4_67 hl (k := 1) rfl (by rw [ex5]; rfl) (by decide) rfl (fun ls hl => ?_)
      refine lv_iload_n cx.1 cx.2.1 dJ6_numberOfTrailingZeros_0f7a4_70 rfl (lv_at hl 1 rfl) ?_
      refine lv_iconst (v := 2) cx.1 cx.2.1 dJ6_numberOfTrailingZeros_0f7a4_71 (by decide) ?_
      refine lv_iushr cx.1 cx.2.1 dJ6_numberOfTrailingZeros_0f7a4_72 rfl ?_
      obtain ⟨x6, ex6, hr⟩ := of_nm hr
      refine lv_nmi ex6 ?_
      refine lv_istore_n (lv' := [(0, .int x6), (1, .int x5)]) cx.1 cx.2.1 dJ6_numberOfTrailingZeros_0f7a4_73 rfl hl (by decide) rfl (fun ls hl => ?_)
      refine lv_iload_n cx.1 cx.2.1 dJ6_numberOfTrailingZeros_0f7a4_74 rfl (lv_at hl 1 rfl) ?_
      refine lv_iload_n cx.1 cx.2.1 dJ6_numberOfTrailingZeros_0f7a4_75 rfl (lv_at hl 0 rfl) ?_
      refine lv_iconst (v := 1) cx.1 cx.2.1 dJ6_numberOfTrailingZeros_0f7a4_76 (by decide) ?_
      refine lv_iushr cx.1 cx.2.1 dJ6_numberOfTrailingZeros_0f7a4_77 rfl ?_
      refine lv_iadd cx.1 cx.2.1 dJ6_numberOfTrailingZeros_0f7a4_78 ?_
      obtain ⟨e0, e1⟩ := hq0 _ _ (Option.some.inj hr).symm
      exact h_iret cx dy hlocks hret rfl e0 (by rw [e1]) dJ6_numberOfTrailingZeros_0f7a4_79
  · refine lv_icmp_le (tgt := 62) cx.1 cx.2.1 dJ6_numberOfTrailingZeros_0f7a4_52 (by decide) (fun hn => absurd hn hc) (fun _ => ?_)
    obtain ⟨x7, ex7, hr⟩ := of_nm hr
    refine lv_iinc (v := x7) (lv' := [(1, .int x7), (0, .int x2)]) cx.1 cx.2.1 dJ6_numberOfTrailingZeros_0f7a4_55 hl (k := 1) rfl (by rw [ex7]; rfl) (by decide) rfl (fun ls hl => ?_)
    refine lv_iload_n cx.1 cx.2.1 dJ6_numberOfTrailingZeros_0f7a4_58 rfl (lv_at hl 1 rfl) ?_
    refine lv_iconst (v := 4) cx.1 cx.2.1 dJ6_numberOfTrailingZeros_0f7a4_59 (by decide) ?_
    refine lv_iushr cx.1 cx.2.1 dJ6_numberOfTrailingZeros_0f7a4_60 rfl ?_
    obtain ⟨x8, ex8, hr⟩ := of_nm hr
    refine lv_nmi ex8 ?_
    refine lv_istore_n (lv' := [(0, .int x8), (1, .int x7)]) cx.1 cx.2.1 dJ6_numberOfTrailingZeros_0f7a4_61 rfl hl (by decide) rfl (fun ls hl => ?_)
    refine lv_iload_n cx.1 cx.2.1 dJ6_numberOfTrailingZeros_0f7a4_62 rfl (lv_at hl 0 rfl) ?_
    refine lv_iconst (v := 4) cx.1 cx.2.1 dJ6_numberOfTrailingZeros_0f7a4_63 (by decide) ?_
    rcases of_brn hr with ⟨hc, hr⟩ | ⟨hc, hr⟩
    · refine lv_icmp_le (tgt := 74) cx.1 cx.2.1 dJ6_numberOfTrailingZeros_0f7a4_64 (by decide) (fun _ => ?_) (fun hn => absurd hc hn)
      refine lv_iload_n cx.1 cx.2.1 dJ6_numberOfTrailingZeros_0f7a4_74 rfl (lv_at hl 1 rfl) ?_
      refine lv_iload_n cx.1 cx.2.1 dJ6_numberOfTrailingZeros_0f7a4_75 rfl (lv_at hl 0 rfl) ?_
      refine lv_iconst (v := 1) cx.1 cx.2.1 dJ6_numberOfTrailingZeros_0f7a4_76 (by decide) ?_
      refine lv_iushr cx.1 cx.2.1 dJ6_numberOfTrailingZeros_0f7a4_77 rfl ?_
      refine lv_iadd cx.1 cx.2.1 dJ6_numberOfTrailingZeros_0f7a4_78 ?_
      obtain ⟨e0, e1⟩ := hq0 _ _ (Option.some.inj hr).symm
      exact h_iret cx dy hlocks hret rfl e0 (by rw [e1]) dJ6_numberOfTrailingZeros_0f7a4_79
    · refine lv_icmp_le (tgt := 74) cx.1 cx.2.1 dJ6_numberOfTrailingZeros_0f7a4_64 (by decide) (fun hn => absurd hn hc) (fun _ => ?_)
      obtain ⟨x9, ex9, hr⟩ := of_nm hr
      refine lv_iinc (v := x9) (lv' := [(1, .int x9), (0, .int x8)]) cx.1 cx.2.1 dJ6_numberOfTrailingZeros_0f7a4_67 hl (k := 1) rfl (by rw [ex9]; rfl) (by decide) rfl (fun ls hl => ?_)
      refine lv_iload_n cx.1 cx.2.1 dJ6_numberOfTrailingZeros_0f7a4_70 rfl (lv_at hl 1 rfl) ?_
      refine lv_iconst (v := 2) cx.1 cx.2.1 dJ6_numberOfTrailingZeros_0f7a4_71 (by decide) ?_
      refine lv_iushr cx.1 cx.2.1 dJ6_numberOfTrailingZeros_0f7a4_72 rfl ?_
      obtain ⟨x10, ex10, hr⟩ := of_nm hr
      refine lv_nmi ex10 ?_
      refine lv_istore_n (lv' := [(0, .int x10), (1, .int x9)]) cx.1 cx.2.1 dJ6_numberOfTrailingZeros_0f7a4_73 rfl hl (by decide) rfl (fun ls hl => ?_)
      refine lv_iload_n cx.1 cx.2.1 dJ6_numberOfTrailingZeros_0f7a4_74 rfl (lv_at hl 1 rfl) ?_
      refine lv_iload_n cx.1 cx.2.1 dJ6_numberOfTrailingZeros_0f7a4_75 rfl (lv_at hl 0 rfl) ?_
      refine lv_iconst (v := 1) cx.1 cx.2.1 dJ6_numberOfTrailingZeros_0f7a4_76 (by decide) ?_
      refine lv_iushr cx.1 cx.2.1 dJ6_numberOfTrailingZeros_0f7a4_77 rfl ?_
      refine lv_iadd cx.1 cx.2.1 dJ6_numberOfTrailingZeros_0f7a4_78 ?_
      obtain ⟨e0, e1⟩ := hq0 _ _ (Option.some.inj hr).symm
      exact h_iret cx dy hlocks hret rfl e0 (by rw [e1]) dJ6_numberOfTrailingZeros_0f7a4_79
noncomputable def r_J6_numberOfTrailingZeros_0f7a4 (V : Vk) (a1 : Int32) (g : Hq) : Option (Int32 × Hq) :=
  nm ((a1 ^^^ (-1 : Int32)) &&& (a1 - (1 : Int32))) fun x1 => brn (0 < x1) (brn (x1 ≤ (65536 : Int32)) (brn (x1 ≤ (256 : Int32)) ((r_J6_numberOfTrailingZeros_0f7a4_49 V x1 (1 : Int32) g)) (nm ((1 : Int32) + (8 : Int32)) fun x11 => nm (x1.toUInt32 >>> ((8 : Int32).toUInt32 &&& Int32.toUInt32 31)).toInt32 fun x12 => (r_J6_numberOfTrailingZeros_0f7a4_49 V x12 x11 g))) (nm ((1 : Int32) + (16 : Int32)) fun x13 => nm (x1.toUInt32 >>> ((16 : Int32).toUInt32 &&& Int32.toUInt32 31)).toInt32 fun x14 => brn (x14 ≤ (256 : Int32)) ((r_J6_numberOfTrailingZeros_0f7a4_49 V x14 x13 g)) (nm (x13 + (8 : Int32)) fun x15 => nm (x14.toUInt32 >>> ((8 : Int32).toUInt32 &&& Int32.toUInt32 31)).toInt32 fun x16 => (r_J6_numberOfTrailingZeros_0f7a4_49 V x16 x15 g)))) (some ((x1 &&& (32 : Int32)), g))
set_option maxHeartbeats 4000000 in
set_option maxRecDepth 100000 in
theorem c_J6_numberOfTrailingZeros_0f7a4 {l : Launch} {D : va_G} {cA : Nat → ClassId} {sk : (Nat → Nat) × (Nat → Nat)} {ad : Nat → Nat} {A : Nat → Prop} {V : Vk} {a1 : Int32} {g g0 : Hq} {r0 : Int32} (hr : r_J6_numberOfTrailingZeros_0f7a4 V a1 g = some (r0, g0)) : Met l yJ6_numberOfTrailingZeros_0f7a4 (wM yJ6_numberOfTrailingZeros_0f7a4 cJ6_numberOfTrailingZeros_0f7a4 2 (some .int)) { frames := 0, cells := 0, slots := 0, locals := 0 } (Pre D cA sk ad (V, g) A [.int a1]) (QI D cA ad A r0 (V, g0)) 0 0 A := by
  refine Met.ofW (cc := cJ6_numberOfTrailingZeros_0f7a4) (maxL := 2) (ret := (some .int)) (by decide) rfl ?_
  intro p e s m args below meth c s₁ B hml hv
  obtain ⟨rfl, fx, w0⟩ := hv
  have hts := atoms_spec (ws := wM yJ6_numberOfTrailingZeros_0f7a4 cJ6_numberOfTrailingZeros_0f7a4 2 (some .int)) B.pre
  have cx : CallFix p m c cJ6_numberOfTrailingZeros_0f7a4 2 s ([.int a1] : List Value).toArray gw_tbl RJ6 := ⟨B.exec, B.bytes, hml, findClass_of_methodNamed B.named, fun w hw => hts w (List.mem_cons_of_mem _ hw)⟩
  have hlocks := B.notSynchronized
  have hret := B.returns
  have hR : 0 ≤ (headSpec (wM yJ6_numberOfTrailingZeros_0f7a4 cJ6_numberOfTrailingZeros_0f7a4 2 (some .int)) { frames := 0, cells := 0, slots := 0, locals := 0 }).room.frames ∧ 0 ≤ (headSpec (wM yJ6_numberOfTrailingZeros_0f7a4 cJ6_numberOfTrailingZeros_0f7a4 2 (some .int)) { frames := 0, cells := 0, slots := 0, locals := 0 }).room.locals := ⟨Nat.le_refl _, Nat.le_refl _⟩
  have dy : Dy D cA ad (V, g) A s.heap s.heap [] := ⟨w0, va_S.rf⟩
  have hl := lv_entry [.int a1] (n := 2) (Nat.le_of_ble_eq_true rfl)
  rw [lg_entry_eq]
  generalize (lg_sl [.int a1] ++ List.replicate (2 - (lg_sl [.int a1]).length) Slot.unset).toArray = ls at hl ⊢
  have hl : lv_has ls 2 [(0, .int a1)] := hl
  have dy0 : ∃ H0, H0 = s.heap ∧ Dy D cA ad (V, g) A s.heap H0 [] := ⟨_, rfl, dy⟩
  obtain ⟨z, ez⟩ : ∃ z, z = (r0, g0) := ⟨_, rfl⟩
  rw [← ez] at hr
  have hq0 : ∀ (rb : Int32) (gb : Hq), z = (rb, gb) → rb = r0 ∧ gb = g0 := fun rb gb eb => by rw [ez] at eb; exact ⟨(congrArg Prod.fst eb).symm, (congrArg Prod.snd eb).symm⟩
  clear ez w0 dy0
  unfold r_J6_numberOfTrailingZeros_0f7a4 at hr
  obtain ⟨H, hH⟩ : ∃ H, H = s.heap := ⟨_, rfl⟩
  obtain ⟨locs, hlo⟩ : ∃ q : List Loc, q = [] := ⟨_, rfl⟩
  have dy : Dy D cA ad (V, g) A s.heap H locs := by rw [hH, hlo]; exact dy
  suffices K : W p l e (headSpec (wM yJ6_numberOfTrailingZeros_0f7a4 cJ6_numberOfTrailingZeros_0f7a4 2 (some .int)) { frames := 0, cells := 0, slots := 0, locals := 0 }).room s m ([.int a1] : List Value).toArray below meth c H locs 0 0 (MQ below (QI D cA ad A r0 (V, g0)) ([.int a1] : List Value).toArray s 0 0 A) (F0 m 0 ls []) by rw [hH, hlo] at K; exact K
  clear hH hlo
  refine lv_iload_n cx.1 cx.2.1 dJ6_numberOfTrailingZeros_0f7a4_0 rfl (lv_at hl 0 rfl) ?_
  refine lv_iconst (v := (-1)) cx.1 cx.2.1 dJ6_numberOfTrailingZeros_0f7a4_1 (by decide) ?_
  refine lv_ixor cx.1 cx.2.1 dJ6_numberOfTrailingZeros_0f7a4_2 ?_
  refine lv_iload_n cx.1 cx.2.1 dJ6_numberOfTrailingZeros_0f7a4_3 rfl (lv_at hl 0 rfl) ?_
  refine lv_iconst (v := 1) cx.1 cx.2.1 dJ6_numberOfTrailingZeros_0f7a4_4 (by decide) ?_
  refine lv_isub cx.1 cx.2.1 dJ6_numberOfTrailingZeros_0f7a4_5 ?_
  refine lv_iand cx.1 cx.2.1 dJ6_numberOfTrailingZeros_0f7a4_6 ?_
  obtain ⟨x1, ex1, hr⟩ := of_nm hr
  refine lv_nmi ex1 ?_
  refine lv_istore_n (lv' := [(0, .int x1)]) cx.1 cx.2.1 dJ6_numberOfTrailingZeros_0f7a4_7 rfl hl (by decide) rfl (fun ls hl => ?_)
  refine lv_iload_n cx.1 cx.2.1 dJ6_numberOfTrailingZeros_0f7a4_8 rfl (lv_at hl 0 rfl) ?_
  rcases of_brn hr with ⟨hc, hr⟩ | ⟨hc, hr⟩
  · refine lv_if_gt (tgt := 17) cx.1 cx.2.1 dJ6_numberOfTrailingZeros_0f7a4_9 (by decide) (fun _ => ?_) (fun hn => absurd hc hn)
    refine lv_iconst (v := 1) cx.1 cx.2.1 dJ6_numberOfTrailingZeros_0f7a4_17 (by decide) ?_
    refine lv_istore_n (lv' := [(1, .int (1 : Int32)), (0, .int x1)]) cx.1 cx.2.1 dJ6_numberOfTrailingZeros_0f7a4_18 rfl hl (by decide) rfl (fun ls hl => ?_)
    refine lv_iload_n cx.1 cx.2.1 dJ6_numberOfTrailingZeros_0f7a4_19 rfl (lv_at hl 1 rfl) ?_
    refine lv_ldcw (v := (65536)) cx.1 cx.2.1 cx.2.2.2.1 (cx.2.2.2.2 _ tb_127) dJ6_numberOfTrailingZeros_0f7a4_20 ?_
    rcases of_brn hr with ⟨hc, hr⟩ | ⟨hc, hr⟩
    · refine lv_icmp_le (tgt := 34) cx.1 cx.2.1 dJ6_numberOfTrailingZeros_0f7a4_23 (by decide) (fun _ => ?_) (fun hn => absurd hc hn)
      refine lv_iload_n cx.1 cx.2.1 dJ6_numberOfTrailingZeros_0f7a4_34 rfl (lv_at hl 1 rfl) ?_
      refine lv_sipush (v := 256) cx.1 cx.2.1 dJ6_numberOfTrailingZeros_0f7a4_35 (by decide) ?_
      rcases of_brn hr with ⟨hc, hr⟩ | ⟨hc, hr⟩
      · refine lv_icmp_le (tgt := 49) cx.1 cx.2.1 dJ6_numberOfTrailingZeros_0f7a4_38 (by decide) (fun _ => ?_) (fun hn => absurd hc hn)
        exact w_J6_numberOfTrailingZeros_0f7a4_49 cx fx hlocks hret hR r0 g0 z hq0 x1 (1 : Int32) g hr H locs ls dy (lv_sub hl [1, 0] rfl)
      · refine lv_icmp_le (tgt := 49) cx.1 cx.2.1 dJ6_numberOfTrailingZeros_0f7a4_38 (by decide) (fun hn => absurd hn hc) (fun _ => ?_)
        obtain ⟨x11, ex11, hr⟩ := of_nm hr
        refine lv_iinc (v := x11) (lv' := [(1, .int x11), (0, .int x1)]) cx.1 cx.2.1 dJ6_numberOfTrailingZeros_0f7a4_41 hl (k := 0) rfl (by rw [ex11]; rfl) (by decide) rfl (fun ls hl => ?_)
        refine lv_iload_n cx.1 cx.2.1 dJ6_numberOfTrailingZeros_0f7a4_44 rfl (lv_at hl 1 rfl) ?_
        refine lv_bipush (v := 8) cx.1 cx.2.1 dJ6_numberOfTrailingZeros_0f7a4_45 (by decide) ?_
        refine lv_iushr cx.1 cx.2.1 dJ6_numberOfTrailingZeros_0f7a4_47 rfl ?_
        obtain ⟨x12, ex12, hr⟩ := of_nm hr
        refine lv_nmi ex12 ?_
        refine lv_istore_n (lv' := [(0, .int x12), (1, .int x11)]) cx.1 cx.2.1 dJ6_numberOfTrailingZeros_0f7a4_48 rfl hl (by decide) rfl (fun ls hl => ?_)
        exact w_J6_numberOfTrailingZeros_0f7a4_49 cx fx hlocks hret hR r0 g0 z hq0 x12 x11 g hr H locs ls dy (lv_sub hl [0, 1] rfl)
    · refine lv_icmp_le (tgt := 34) cx.1 cx.2.1 dJ6_numberOfTrailingZeros_0f7a4_23 (by decide) (fun hn => absurd hn hc) (fun _ => ?_)
      obtain ⟨x13, ex13, hr⟩ := of_nm hr
      refine lv_iinc (v := x13) (lv' := [(1, .int x13), (0, .int x1)]) cx.1 cx.2.1 dJ6_numberOfTrailingZeros_0f7a4_26 hl (k := 0) rfl (by rw [ex13]; rfl) (by decide) rfl (fun ls hl => ?_)
      refine lv_iload_n cx.1 cx.2.1 dJ6_numberOfTrailingZeros_0f7a4_29 rfl (lv_at hl 1 rfl) ?_
      refine lv_bipush (v := 16) cx.1 cx.2.1 dJ6_numberOfTrailingZeros_0f7a4_30 (by decide) ?_
      refine lv_iushr cx.1 cx.2.1 dJ6_numberOfTrailingZeros_0f7a4_32 rfl ?_
      obtain ⟨x14, ex14, hr⟩ := of_nm hr
      refine lv_nmi ex14 ?_
      refine lv_istore_n (lv' := [(0, .int x14), (1, .int x13)]) cx.1 cx.2.1 dJ6_numberOfTrailingZeros_0f7a4_33 rfl hl (by decide) rfl (fun ls hl => ?_)
      refine lv_iload_n cx.1 cx.2.1 dJ6_numberOfTrailingZeros_0f7a4_34 rfl (lv_at hl 0 rfl) ?_
      refine lv_sipush (v := 256) cx.1 cx.2.1 dJ6_numberOfTrailingZeros_0f7a4_35 (by decide) ?_
      rcases of_brn hr with ⟨hc, hr⟩ | ⟨hc, hr⟩
      · refine lv_icmp_le (tgt := 49) cx.1 cx.2.1 dJ6_numberOfTrailingZeros_0f7a4_38 (by decide) (fun _ => ?_) (fun hn => absurd hc hn)
        exact w_J6_numberOfTrailingZeros_0f7a4_49 cx fx hlocks hret hR r0 g0 z hq0 x14 x13 g hr H locs ls dy (lv_sub hl [0, 1] rfl)
      · refine lv_icmp_le (tgt := 49) cx.1 cx.2.1 dJ6_numberOfTrailingZeros_0f7a4_38 (by decide) (fun hn => absurd hn hc) (fun _ => ?_)
        obtain ⟨x15, ex15, hr⟩ := of_nm hr
        refine lv_iinc (v := x15) (lv' := [(1, .int x15), (0, .int x14)]) cx.1 cx.2.1 dJ6_numberOfTrailingZeros_0f7a4_41 hl (k := 1) rfl (by rw [ex15]; rfl) (by decide) rfl (fun ls hl => ?_)
        refine lv_iload_n cx.1 cx.2.1 dJ6_numberOfTrailingZeros_0f7a4_44 rfl (lv_at hl 1 rfl) ?_
        refine lv_bipush (v := 8) cx.1 cx.2.1 dJ6_numberOfTrailingZeros_0f7a4_45 (by decide) ?_
        refine lv_iushr cx.1 cx.2.1 dJ6_numberOfTrailingZeros_0f7a4_47 rfl ?_
        obtain ⟨x16, ex16, hr⟩ := of_nm hr
        refine lv_nmi ex16 ?_
        refine lv_istore_n (lv' := [(0, .int x16), (1, .int x15)]) cx.1 cx.2.1 dJ6_numberOfTrailingZeros_0f7a4_48 rfl hl (by decide) rfl (fun ls hl => ?_)
        exact w_J6_numberOfTrailingZeros_0f7a4_49 cx fx hlocks hret hR r0 g0 z hq0 x16 x15 g hr H locs ls dy (lv_sub hl [0, 1] rfl)
  · refine lv_if_gt (tgt := 17) cx.1 cx.2.1 dJ6_numberOfTrailingZeros_0f7a4_9 (by decide) (fun hn => absurd hn hc) (fun _ => ?_)
    refine lv_iload_n cx.1 cx.2.1 dJ6_numberOfTrailingZeros_0f7a4_12 rfl (lv_at hl 0 rfl) ?_
    refine lv_bipush (v := 32) cx.1 cx.2.1 dJ6_numberOfTrailingZeros_0f7a4_13 (by decide) ?_
    refine lv_iand cx.1 cx.2.1 dJ6_numberOfTrailingZeros_0f7a4_15 ?_
    obtain ⟨e0, e1⟩ := hq0 _ _ (Option.some.inj hr).symm
    exact h_iret cx dy hlocks hret rfl e0 (by rw [e1]) dJ6_numberOfTrailingZeros_0f7a4_16
noncomputable def r_J6_bitCount_0f7a4 (V : Vk) (a1 : Int32) (g : Hq) : Option (Int32 × Hq) :=
  nm (a1 - ((a1.toUInt32 >>> ((1 : Int32).toUInt32 &&& Int32.toUInt32 31)).toInt32 &&& (1431655765 : Int32))) fun x1 => nm ((x1 &&& (858993459 : Int32)) + ((x1.toUInt32 >>> ((2 : Int32).toUInt32 &&& Int32.toUInt32 31)).toInt32 &&& (858993459 : Int32))) fun x2 => nm ((x2 + (x2.toUInt32 >>> ((4 : Int32).toUInt32 &&& Int32.toUInt32 31)).toInt32) &&& (252645135 : Int32)) fun x3 => nm (x3 + (x3.toUInt32 >>> ((8 : Int32).toUInt32 &&& Int32.toUInt32 31)).toInt32) fun x4 => nm (x4 + (x4.toUInt32 >>> ((16 : Int32).toUInt32 &&& Int32.toUInt32 31)).toInt32) fun x5 => some ((x5 &&& (63 : Int32)), g)
set_option maxHeartbeats 4000000 in
set_option maxRecDepth 100000 in
theorem c_J6_bitCount_0f7a4 {l : Launch} {D : va_G} {cA : Nat → ClassId} {sk : (Nat → Nat) × (Nat → Nat)} {ad : Nat → Nat} {A : Nat → Prop} {V : Vk} {a1 : Int32} {g g0 : Hq} {r0 : Int32} (hr : r_J6_bitCount_0f7a4 V a1 g = some (r0, g0)) : Met l yJ6_bitCount_0f7a4 (wM yJ6_bitCount_0f7a4 cJ6_bitCount_0f7a4 1 (some .int)) { frames := 0, cells := 0, slots := 0, locals := 0 } (Pre D cA sk ad (V, g) A [.int a1]) (QI D cA ad A r0 (V, g0)) 0 0 A := by
  refine Met.ofW (cc := cJ6_bitCount_0f7a4) (maxL := 1) (ret := (some .int)) (by decide) rfl ?_
  intro p e s m args below meth c s₁ B hml hv
  obtain ⟨rfl, fx, w0⟩ := hv
  have hts := atoms_spec (ws := wM yJ6_bitCount_0f7a4 cJ6_bitCount_0f7a4 1 (some .int)) B.pre
  have cx : CallFix p m c cJ6_bitCount_0f7a4 1 s ([.int a1] : List Value).toArray gw_tbl RJ6 := ⟨B.exec, B.bytes, hml, findClass_of_methodNamed B.named, fun w hw => hts w (List.mem_cons_of_mem _ hw)⟩
  have hlocks := B.notSynchronized
  have hret := B.returns
  have hR : 0 ≤ (headSpec (wM yJ6_bitCount_0f7a4 cJ6_bitCount_0f7a4 1 (some .int)) { frames := 0, cells := 0, slots := 0, locals := 0 }).room.frames ∧ 0 ≤ (headSpec (wM yJ6_bitCount_0f7a4 cJ6_bitCount_0f7a4 1 (some .int)) { frames := 0, cells := 0, slots := 0, locals := 0 }).room.locals := ⟨Nat.le_refl _, Nat.le_refl _⟩
  have dy : Dy D cA ad (V, g) A s.heap s.heap [] := ⟨w0, va_S.rf⟩
  have hl := lv_entry [.int a1] (n := 1) (Nat.le_of_ble_eq_true rfl)
  rw [lg_entry_eq]
  generalize (lg_sl [.int a1] ++ List.replicate (1 - (lg_sl [.int a1]).length) Slot.unset).toArray = ls at hl ⊢
  have hl : lv_has ls 1 [(0, .int a1)] := hl
  have dy0 : ∃ H0, H0 = s.heap ∧ Dy D cA ad (V, g) A s.heap H0 [] := ⟨_, rfl, dy⟩
  obtain ⟨z, ez⟩ : ∃ z, z = (r0, g0) := ⟨_, rfl⟩
  rw [← ez] at hr
  have hq0 : ∀ (rb : Int32) (gb : Hq), z = (rb, gb) → rb = r0 ∧ gb = g0 := fun rb gb eb => by rw [ez] at eb; exact ⟨(congrArg Prod.fst eb).symm, (congrArg Prod.snd eb).symm⟩
  clear ez w0 dy0
  unfold r_J6_bitCount_0f7a4 at hr
  obtain ⟨H, hH⟩ : ∃ H, H = s.heap := ⟨_, rfl⟩
  obtain ⟨locs, hlo⟩ : ∃ q : List Loc, q = [] := ⟨_, rfl⟩
  have dy : Dy D cA ad (V, g) A s.heap H locs := by rw [hH, hlo]; exact dy
  suffices K : W p l e (headSpec (wM yJ6_bitCount_0f7a4 cJ6_bitCount_0f7a4 1 (some .int)) { frames := 0, cells := 0, slots := 0, locals := 0 }).room s m ([.int a1] : List Value).toArray below meth c H locs 0 0 (MQ below (QI D cA ad A r0 (V, g0)) ([.int a1] : List Value).toArray s 0 0 A) (F0 m 0 ls []) by rw [hH, hlo] at K; exact K
  clear hH hlo
  refine lv_iload_n cx.1 cx.2.1 dJ6_bitCount_0f7a4_0 rfl (lv_at hl 0 rfl) ?_
  refine lv_iload_n cx.1 cx.2.1 dJ6_bitCount_0f7a4_1 rfl (lv_at hl 0 rfl) ?_
  refine lv_iconst (v := 1) cx.1 cx.2.1 dJ6_bitCount_0f7a4_2 (by decide) ?_
  refine lv_iushr cx.1 cx.2.1 dJ6_bitCount_0f7a4_3 rfl ?_
  refine lv_ldcw (v := (1431655765)) cx.1 cx.2.1 cx.2.2.2.1 (cx.2.2.2.2 _ tb_472) dJ6_bitCount_0f7a4_4 ?_
  refine lv_iand cx.1 cx.2.1 dJ6_bitCount_0f7a4_7 ?_
  refine lv_isub cx.1 cx.2.1 dJ6_bitCount_0f7a4_8 ?_
  obtain ⟨x1, ex1, hr⟩ := of_nm hr
  refine lv_nmi ex1 ?_
  refine lv_istore_n (lv' := [(0, .int x1)]) cx.1 cx.2.1 dJ6_bitCount_0f7a4_9 rfl hl (by decide) rfl (fun ls hl => ?_)
  refine lv_iload_n cx.1 cx.2.1 dJ6_bitCount_0f7a4_10 rfl (lv_at hl 0 rfl) ?_
  refine lv_ldcw (v := (858993459)) cx.1 cx.2.1 cx.2.2.2.1 (cx.2.2.2.2 _ tb_473) dJ6_bitCount_0f7a4_11 ?_
  refine lv_iand cx.1 cx.2.1 dJ6_bitCount_0f7a4_14 ?_
  refine lv_iload_n cx.1 cx.2.1 dJ6_bitCount_0f7a4_15 rfl (lv_at hl 0 rfl) ?_
  refine lv_iconst (v := 2) cx.1 cx.2.1 dJ6_bitCount_0f7a4_16 (by decide) ?_
  refine lv_iushr cx.1 cx.2.1 dJ6_bitCount_0f7a4_17 rfl ?_
  refine lv_ldcw (v := (858993459)) cx.1 cx.2.1 cx.2.2.2.1 (cx.2.2.2.2 _ tb_473) dJ6_bitCount_0f7a4_18 ?_
  refine lv_iand cx.1 cx.2.1 dJ6_bitCount_0f7a4_21 ?_
  refine lv_iadd cx.1 cx.2.1 dJ6_bitCount_0f7a4_22 ?_
  obtain ⟨x2, ex2, hr⟩ := of_nm hr
  refine lv_nmi ex2 ?_
  refine lv_istore_n (lv' := [(0, .int x2)]) cx.1 cx.2.1 dJ6_bitCount_0f7a4_23 rfl hl (by decide) rfl (fun ls hl => ?_)
  refine lv_iload_n cx.1 cx.2.1 dJ6_bitCount_0f7a4_24 rfl (lv_at hl 0 rfl) ?_
  refine lv_iload_n cx.1 cx.2.1 dJ6_bitCount_0f7a4_25 rfl (lv_at hl 0 rfl) ?_
  refine lv_iconst (v := 4) cx.1 cx.2.1 dJ6_bitCount_0f7a4_26 (by decide) ?_
  refine lv_iushr cx.1 cx.2.1 dJ6_bitCount_0f7a4_27 rfl ?_
  refine lv_iadd cx.1 cx.2.1 dJ6_bitCount_0f7a4_28 ?_
  refine lv_ldcw (v := (252645135)) cx.1 cx.2.1 cx.2.2.2.1 (cx.2.2.2.2 _ tb_474) dJ6_bitCount_0f7a4_29 ?_
  refine lv_iand cx.1 cx.2.1 dJ6_bitCount_0f7a4_32 ?_
  obtain ⟨x3, ex3, hr⟩ := of_nm hr
  refine lv_nmi ex3 ?_
  refine lv_istore_n (lv' := [(0, .int x3)]) cx.1 cx.2.1 dJ6_bitCount_0f7a4_33 rfl hl (by decide) rfl (fun ls hl => ?_)
  refine lv_iload_n cx.1 cx.2.1 dJ6_bitCount_0f7a4_34 rfl (lv_at hl 0 rfl) ?_
  refine lv_iload_n cx.1 cx.2.1 dJ6_bitCount_0f7a4_35 rfl (lv_at hl 0 rfl) ?_
  refine lv_bipush (v := 8) cx.1 cx.2.1 dJ6_bitCount_0f7a4_36 (by decide) ?_
  refine lv_iushr cx.1 cx.2.1 dJ6_bitCount_0f7a4_38 rfl ?_
  refine lv_iadd cx.1 cx.2.1 dJ6_bitCount_0f7a4_39 ?_
  obtain ⟨x4, ex4, hr⟩ := of_nm hr
  refine lv_nmi ex4 ?_
  refine lv_istore_n (lv' := [(0, .int x4)]) cx.1 cx.2.1 dJ6_bitCount_0f7a4_40 rfl hl (by decide) rfl (fun ls hl => ?_)
  refine lv_iload_n cx.1 cx.2.1 dJ6_bitCount_0f7a4_41 rfl (lv_at hl 0 rfl) ?_
  refine lv_iload_n cx.1 cx.2.1 dJ6_bitCount_0f7a4_42 rfl (lv_at hl 0 rfl) ?_
  refine lv_bipush (v := 16) cx.1 cx.2.1 dJ6_bitCount_0f7a4_43 (by decide) ?_
  refine lv_iushr cx.1 cx.2.1 dJ6_bitCount_0f7a4_45 rfl ?_
  refine lv_iadd cx.1 cx.2.1 dJ6_bitCount_0f7a4_46 ?_
  obtain ⟨x5, ex5, hr⟩ := of_nm hr
  refine lv_nmi ex5 ?_
  refine lv_istore_n (lv' := [(0, .int x5)]) cx.1 cx.2.1 dJ6_bitCount_0f7a4_47 rfl hl (by decide) rfl (fun ls hl => ?_)
  refine lv_iload_n cx.1 cx.2.1 dJ6_bitCount_0f7a4_48 rfl (lv_at hl 0 rfl) ?_
  refine lv_bipush (v := 63) cx.1 cx.2.1 dJ6_bitCount_0f7a4_49 (by decide) ?_
  refine lv_iand cx.1 cx.2.1 dJ6_bitCount_0f7a4_51 ?_
  obtain ⟨e0, e1⟩ := hq0 _ _ (Option.some.inj hr).symm
  exact h_iret cx dy hlocks hret rfl e0 (by rw [e1]) dJ6_bitCount_0f7a4_52
noncomputable def r_J7_fill_53178_5' (V : Vk) (k4 : Nat) (x5 : Int32) (x6 : Int32) (x7 : Int32) (g8 : Hq) : Option ((Nat × Int32 × Int32 × Int32 × Hq) ⊕ (Unit × Hq)) :=
  brn (x7 ≤ x6) (some (.inr ((), g8))) (grd (okV V k4 0 x6) <| nm (sI g8 k4 x6.toNatClampNeg x5) fun g10 => nm (x6 + (1 : Int32)) fun x11 => some (.inl (k4, x5, x11, x7, g10)))
noncomputable def r_J7_fill_53178_5 (V : Vk) (st : (Nat × Int32 × Int32 × Int32 × Hq)) : Option ((Nat × Int32 × Int32 × Int32 × Hq) ⊕ (Unit × Hq)) := r_J7_fill_53178_5' V st.1 st.2.1 st.2.2.1 st.2.2.2.1 st.2.2.2.2
set_option maxHeartbeats 4000000 in
set_option maxRecDepth 100000 in
theorem w_J7_fill_53178_5 {p : Program} {l : Launch} {e : Env} {R : Room} {s : State} {m : MethodId} {args : Array Value} {below : List Frame} {meth : Method} {c : Code} {D : va_G} {cA : Nat → ClassId} {sk : (Nat → Nat) × (Nat → Nat)} {ad : Nat → Nat} {A : Nat → Prop} {V : Vk} (cx : CallFix p m c cJ7_fill_53178 4 s args gw_tbl RJ7) (fx : Fx D cA sk A s) (hlocks : meth.locks = false) (hret : meth.sig.returnType = none) (hR : 0 ≤ R.frames ∧ 0 ≤ R.locals) (g0 : Hq) (y : (Unit × Hq)) (hq : ∀ (rb : Unit) (gb : Hq), y = (rb, gb) → gb = g0) : ∀ (n : Nat) (k4 : Nat) (x5 : Int32) (x6 : Int32) (x7 : Int32) (g8 : Hq), itr (r_J7_fill_53178_5 V) n (k4, x5, x6, x7, g8) = some y → ∀ (H : Heap) (locs : List Loc) (ls : Array Slot), Dy D cA ad (V, g8) A s.heap H locs → lv_has ls 4 [(0, .ref (ad k4)), (1, .int x5), (2, .int x6), (3, .int x7)] → W p l e R s m args below meth c H locs 0 0 (MQ below (QV D cA ad A (V, g0)) args s 0 0 A) (F0 m 5 ls []) := by
  intro n
  induction n with
  | zero => intro k4 x5 x6 x7 g8 hr; cases hr
  | succ n ih =>
    intro k4 x5 x6 x7 g8 hr H locs ls dy hl
    obtain ⟨z, hz, hn1, hn2⟩ := itr_succ hr
    clear hr
    have hr : r_J7_fill_53178_5' V k4 x5 x6 x7 g8 = some z := hz
    clear hz
    unfold r_J7_fill_53178_5' at hr
    have hh0 : ∀ (b0 : Nat) (b1 : Int32) (b2 : Int32) (b3 : Int32) (gb : Hq), z = .inl (b0, b1, b2, b3, gb) → ∀ (H : Heap) (locs : List Loc) (ls : Array Slot), Dy D cA ad (V, gb) A s.heap H locs → lv_has ls 4 [(0, .ref (ad b0)), (1, .int b1), (2, .int b2), (3, .int b3)] → W p l e R s m args below meth c H locs 0 0 (MQ below (QV D cA ad A (V, g0)) args s 0 0 A) (F0 m 5 ls []) := fun b0 b1 b2 b3 gb eb => ih b0 b1 b2 b3 gb (hn1 _ eb)
    have hq0 : ∀ (rb : Unit) (gb : Hq), z = (.inr (rb, gb)) → gb = g0 := fun rb gb eb => hq rb gb (hn2 _ eb).symm
    refine lv_iload_n cx.1 cx.2.1 dJ7_fill_53178_5 rfl (lv_at hl 2 rfl) ?_
    refine lv_iload_n cx.1 cx.2.1 dJ7_fill_53178_6 rfl (lv_at hl 3 rfl) ?_
    rcases of_brn hr with ⟨hc, hr⟩ | ⟨hc, hr⟩
    · refine lv_icmp_ge (tgt := 20) cx.1 cx.2.1 dJ7_fill_53178_7 (by decide) (fun _ => ?_) (fun hn => absurd hc hn)
      have e1 := hq0 _ _ (Option.some.inj hr).symm
      exact h_vret cx dy hlocks hret (by rw [e1]) dJ7_fill_53178_20
    · refine lv_icmp_ge (tgt := 20) cx.1 cx.2.1 dJ7_fill_53178_7 (by decide) (fun hn => absurd hn hc) (fun _ => ?_)
      refine lv_aload_n cx.1 cx.2.1 dJ7_fill_53178_10 rfl (lv_at hl 0 rfl) ?_
      refine lv_iload_n cx.1 cx.2.1 dJ7_fill_53178_11 rfl (lv_at hl 2 rfl) ?_
      refine lv_iload_n cx.1 cx.2.1 dJ7_fill_53178_12 rfl (lv_at hl 1 rfl) ?_
      obtain ⟨ha9, hr⟩ := of_grd hr
      obtain ⟨g10, eg10, hr⟩ := of_nm hr
      refine h_iast cx fx dy ha9 dJ7_fill_53178_13 (fun H locs dy => ?_)
      replace dy : Dy D cA ad (V, g10) A s.heap H locs := by rw [eg10]; exact dy
      obtain ⟨x11, ex11, hr⟩ := of_nm hr
      refine lv_iinc (v := x11) (lv' := [(2, .int x11), (0, .ref (ad k4)), (1, .int x5), (3, .int x7)]) cx.1 cx.2.1 dJ7_fill_53178_14 hl (k := 2) rfl (by rw [ex11]; rfl) (by decide) rfl (fun ls hl => ?_)
      refine lv_goto (tgt := 5) cx.1 cx.2.1 dJ7_fill_53178_17 (by decide) ?_
      exact hh0 k4 x5 x11 x7 g10 (Option.some.inj hr).symm H locs ls dy (lv_sub hl [1, 2, 0, 3] rfl)
noncomputable def r_J7_fill_53178 (V : Vk) (a1 : Nat) (a2 : Int32) (g : Hq) : Option (Unit × Hq) :=
  aln V a1 0 fun n1 => nm (nI n1) fun x3 => (lop (r_J7_fill_53178_5 V) (a1, a2, (0 : Int32), x3, g))
set_option maxHeartbeats 4000000 in
set_option maxRecDepth 100000 in
theorem c_J7_fill_53178 {l : Launch} {D : va_G} {cA : Nat → ClassId} {sk : (Nat → Nat) × (Nat → Nat)} {ad : Nat → Nat} {A : Nat → Prop} {V : Vk} {a1 : Nat} {a2 : Int32} {g g0 : Hq} (hr : r_J7_fill_53178 V a1 a2 g = some ((), g0)) : Met l yJ7_fill_53178 (wM yJ7_fill_53178 cJ7_fill_53178 4 none) { frames := 0, cells := 0, slots := 0, locals := 0 } (Pre D cA sk ad (V, g) A [.ref (ad a1), .int a2]) (QV D cA ad A (V, g0)) 0 0 A := by
  refine Met.ofW (cc := cJ7_fill_53178) (maxL := 4) (ret := none) (by decide) rfl ?_
  intro p e s m args below meth c s₁ B hml hv
  obtain ⟨rfl, fx, w0⟩ := hv
  have hts := atoms_spec (ws := wM yJ7_fill_53178 cJ7_fill_53178 4 none) B.pre
  have cx : CallFix p m c cJ7_fill_53178 4 s ([.ref (ad a1), .int a2] : List Value).toArray gw_tbl RJ7 := ⟨B.exec, B.bytes, hml, findClass_of_methodNamed B.named, fun w hw => hts w (List.mem_cons_of_mem _ hw)⟩
  have hlocks := B.notSynchronized
  have hret := B.returns
  have hR : 0 ≤ (headSpec (wM yJ7_fill_53178 cJ7_fill_53178 4 none) { frames := 0, cells := 0, slots := 0, locals := 0 }).room.frames ∧ 0 ≤ (headSpec (wM yJ7_fill_53178 cJ7_fill_53178 4 none) { frames := 0, cells := 0, slots := 0, locals := 0 }).room.locals := ⟨Nat.le_refl _, Nat.le_refl _⟩
  have dy : Dy D cA ad (V, g) A s.heap s.heap [] := ⟨w0, va_S.rf⟩
  have hl := lv_entry [.ref (ad a1), .int a2] (n := 4) (Nat.le_of_ble_eq_true rfl)
  rw [lg_entry_eq]
  generalize (lg_sl [.ref (ad a1), .int a2] ++ List.replicate (4 - (lg_sl [.ref (ad a1), .int a2]).length) Slot.unset).toArray = ls at hl ⊢
  have hl : lv_has ls 4 [(0, .ref (ad a1)), (1, .int a2)] := hl
  have dy0 : ∃ H0, H0 = s.heap ∧ Dy D cA ad (V, g) A s.heap H0 [] := ⟨_, rfl, dy⟩
  obtain ⟨z, ez⟩ : ∃ z, z = (((), g0) : Unit × Hq) := ⟨_, rfl⟩
  rw [← ez] at hr
  have hq0 : ∀ (rb : Unit) (gb : Hq), z = (rb, gb) → gb = g0 := fun rb gb eb => by rw [ez] at eb; exact (congrArg Prod.snd eb).symm
  clear ez w0 dy0
  unfold r_J7_fill_53178 at hr
  obtain ⟨H, hH⟩ : ∃ H, H = s.heap := ⟨_, rfl⟩
  obtain ⟨locs, hlo⟩ : ∃ q : List Loc, q = [] := ⟨_, rfl⟩
  have dy : Dy D cA ad (V, g) A s.heap H locs := by rw [hH, hlo]; exact dy
  suffices K : W p l e (headSpec (wM yJ7_fill_53178 cJ7_fill_53178 4 none) { frames := 0, cells := 0, slots := 0, locals := 0 }).room s m ([.ref (ad a1), .int a2] : List Value).toArray below meth c H locs 0 0 (MQ below (QV D cA ad A (V, g0)) ([.ref (ad a1), .int a2] : List Value).toArray s 0 0 A) (F0 m 0 ls []) by rw [hH, hlo] at K; exact K
  clear hH hlo
  refine lv_iconst (v := 0) cx.1 cx.2.1 dJ7_fill_53178_0 (by decide) ?_
  refine lv_istore_n (lv' := [(2, .int (0 : Int32)), (0, .ref (ad a1)), (1, .int a2)]) cx.1 cx.2.1 dJ7_fill_53178_1 rfl hl (by decide) rfl (fun ls hl => ?_)
  refine lv_aload_n cx.1 cx.2.1 dJ7_fill_53178_2 rfl (lv_at hl 1 rfl) ?_
  obtain ⟨n1, hn2, hr⟩ := of_aln hr
  refine h_alen (t := 0) cx fx dy (by decide) rfl hn2 dJ7_fill_53178_3 ?_
  obtain ⟨x3, ex3, hr⟩ := of_nm hr
  refine lv_nmi ex3 ?_
  refine lv_istore_n (lv' := [(3, .int x3), (2, .int (0 : Int32)), (0, .ref (ad a1)), (1, .int a2)]) cx.1 cx.2.1 dJ7_fill_53178_4 rfl hl (by decide) rfl (fun ls hl => ?_)
  obtain ⟨n, hr⟩ := lop_some hr
  exact w_J7_fill_53178_5 cx fx hlocks hret hR g0 z hq0 n a1 a2 (0 : Int32) x3 g hr H locs ls dy (lv_sub hl [2, 3, 1, 0] rfl)
