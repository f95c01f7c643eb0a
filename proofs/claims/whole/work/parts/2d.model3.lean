noncomputable def r_X12_lying_4' (V : Vk) (k1 : Nat) (x2 : Int32) (x3 : Int32) (x4 : Int32) (g5 : Hq) : Option ((Nat × Int32 × Int32 × Int32 × Hq) ⊕ (Int32 × Hq)) :=
  grd (V k1 = some (12, 0)) <| brn ((g5.1 k1 46) ≤ x4) (some (.inr (x3, g5))) (Option.bind (g5.2.2 k1 50) fun k7 => grd (okV V k7 0 x4) <| brn ((g5.1 k7 x4.toNatClampNeg) = 0) (Option.bind (g5.2.2 k1 51) fun k10 => grd (okV V k10 0 x4) <| brn ((g5.1 k10 x4.toNatClampNeg) = x2) (nm (x3 + (1 : Int32)) fun x13 => nm (x4 + (1 : Int32)) fun x14 => some (.inl (k1, x2, x13, x14, g5))) (nm (x3 + (0 : Int32)) fun x15 => nm (x4 + (1 : Int32)) fun x16 => some (.inl (k1, x2, x15, x16, g5)))) (nm (x3 + (0 : Int32)) fun x17 => nm (x4 + (1 : Int32)) fun x18 => some (.inl (k1, x2, x17, x18, g5))))
noncomputable def r_X12_lying_4 (V : Vk) (st : (Nat × Int32 × Int32 × Int32 × Hq)) : Option ((Nat × Int32 × Int32 × Int32 × Hq) ⊕ (Int32 × Hq)) := r_X12_lying_4' V st.1 st.2.1 st.2.2.1 st.2.2.2.1 st.2.2.2.2
set_option maxHeartbeats 4000000 in
set_option maxRecDepth 100000 in
theorem w_X12_lying_4 {p : Program} {l : Launch} {e : Env} {R : Room} {s : State} {m : MethodId} {args : Array Value} {below : List Frame} {meth : Method} {c : Code} {D : va_G} {cA : Nat → ClassId} {sk : (Nat → Nat) × (Nat → Nat)} {ad : Nat → Nat} {A : Nat → Prop} {V : Vk} (cx : CallFix p m c cX12_lying 4 s args gw_tbl RX12) (fx : Fx D cA sk A s) (hlocks : meth.locks = false) (hret : meth.sig.returnType = (some .int)) (hR : 0 ≤ R.frames ∧ 0 ≤ R.locals) (r0 : Int32) (g0 : Hq) (y : (Int32 × Hq)) (hq : ∀ (rb : Int32) (gb : Hq), y = (rb, gb) → rb = r0 ∧ gb = g0) : ∀ (n : Nat) (k1 : Nat) (x2 : Int32) (x3 : Int32) (x4 : Int32) (g5 : Hq), itr (r_X12_lying_4 V) n (k1, x2, x3, x4, g5) = some y → ∀ (H : Heap) (locs : List Loc) (ls : Array Slot), Dy D cA ad (V, g5) A s.heap H locs → lv_has ls 4 [(0, .ref (ad k1)), (1, .int x2), (2, .int x3), (3, .int x4)] → W p l e R s m args below meth c H locs 0 0 (MQ below (QI D cA ad A r0 (V, g0)) args s 0 0 A) (F0 m 4 ls []) := by
  intro n
  induction n with
  | zero => intro k1 x2 x3 x4 g5 hr; cases hr
  | succ n ih =>
    intro k1 x2 x3 x4 g5 hr H locs ls dy hl
    obtain ⟨z, hz, hn1, hn2⟩ := itr_succ hr
    clear hr
    have hr : r_X12_lying_4' V k1 x2 x3 x4 g5 = some z := hz
    clear hz
    unfold r_X12_lying_4' at hr
    have hh0 : ∀ (b0 : Nat) (b1 : Int32) (b2 : Int32) (b3 : Int32) (gb : Hq), z = .inl (b0, b1, b2, b3, gb) → ∀ (H : Heap) (locs : List Loc) (ls : Array Slot), Dy D cA ad (V, gb) A s.heap H locs → lv_has ls 4 [(0, .ref (ad b0)), (1, .int b1), (2, .int b2), (3, .int b3)] → W p l e R s m args below meth c H locs 0 0 (MQ below (QI D cA ad A r0 (V, g0)) args s 0 0 A) (F0 m 4 ls []) := fun b0 b1 b2 b3 gb eb => ih b0 b1 b2 b3 gb (hn1 _ eb)
    have hq0 : ∀ (rb : Int32) (gb : Hq), z = (.inr (rb, gb)) → rb = r0 ∧ gb = g0 := fun rb gb eb => hq rb gb (hn2 _ eb).symm
    refine lv_iload_n cx.1 cx.2.1 dX12_lying_4 rfl (lv_at hl 3 rfl) ?_
    refine lv_aload_n cx.1 cx.2.1 dX12_lying_5 rfl (lv_at hl 0 rfl) ?_
    obtain ⟨hv6, hr⟩ := of_grd hr
    refine h_getI cx fx dy fd_12_46 hv6 tb_1032 dX12_lying_6 ?_
    rcases of_brn hr with ⟨hc, hr⟩ | ⟨hc, hr⟩
    · refine lv_icmp_ge (tgt := 45) cx.1 cx.2.1 dX12_lying_9 (by decide) (fun _ => ?_) (fun hn => absurd hc hn)
      refine lv_iload_n cx.1 cx.2.1 dX12_lying_45 rfl (lv_at hl 2 rfl) ?_
      obtain ⟨e0, e1⟩ := hq0 _ _ (Option.some.inj hr).symm
      exact h_iret cx dy hlocks hret rfl e0 (by rw [e1]) dX12_lying_46
    · refine lv_icmp_ge (tgt := 45) cx.1 cx.2.1 dX12_lying_9 (by decide) (fun hn => absurd hn hc) (fun _ => ?_)
      refine lv_iload_n cx.1 cx.2.1 dX12_lying_12 rfl (lv_at hl 2 rfl) ?_
      refine lv_aload_n cx.1 cx.2.1 dX12_lying_13 rfl (lv_at hl 0 rfl) ?_
      obtain ⟨k7, hf8, hr⟩ := of_bnd hr
      refine h_getR cx fx dy fd_12_50 hv6 tb_1036 hf8 dX12_lying_14 ?_
      refine lv_iload_n cx.1 cx.2.1 dX12_lying_17 rfl (lv_at hl 3 rfl) ?_
      obtain ⟨ha9, hr⟩ := of_grd hr
      refine h_iald cx fx dy ha9 dX12_lying_18 ?_
      rcases of_brn hr with ⟨hc, hr⟩ | ⟨hc, hr⟩
      · refine lv_if_ne (tgt := 36) cx.1 cx.2.1 dX12_lying_19 (by decide) (fun hn => absurd hc hn) (fun _ => ?_)
        refine lv_aload_n cx.1 cx.2.1 dX12_lying_22 rfl (lv_at hl 0 rfl) ?_
        obtain ⟨k10, hf11, hr⟩ := of_bnd hr
        refine h_getR cx fx dy fd_12_51 hv6 tb_1037 hf11 dX12_lying_23 ?_
        refine lv_iload_n cx.1 cx.2.1 dX12_lying_26 rfl (lv_at hl 3 rfl) ?_
        obtain ⟨ha12, hr⟩ := of_grd hr
        refine h_iald cx fx dy ha12 dX12_lying_27 ?_
        refine lv_iload_n cx.1 cx.2.1 dX12_lying_28 rfl (lv_at hl 1 rfl) ?_
        rcases of_brn hr with ⟨hc, hr⟩ | ⟨hc, hr⟩
        · refine lv_icmp_ne (tgt := 36) cx.1 cx.2.1 dX12_lying_29 (by decide) (fun hn => absurd hc hn) (fun _ => ?_)
          refine lv_iconst (v := 1) cx.1 cx.2.1 dX12_lying_32 (by decide) ?_
          refine lv_goto (tgt := 37) cx.1 cx.2.1 dX12_lying_33 (by decide) ?_
          refine lv_iadd cx.1 cx.2.1 dX12_lying_37 ?_
          obtain ⟨x13, ex13, hr⟩ := of_nm hr
          refine lv_nmi ex13 ?_
          refine lv_istore_n (lv' := [(2, .int x13), (0, .ref (ad k1)), (1, .int x2), (3, .int x4)]) cx.1 cx.2.1 dX12_lying_38 rfl hl (by decide) rfl (fun ls hl => ?_)
          obtain ⟨x14, ex14, hr⟩ := of_nm hr
          refine lv_iinc (v := x14) (lv' := [(3, .int x14), (2, .int x13), (0, .ref (ad k1)), (1, .int x2)]) cx.1 cx.2.1 dX12_lying_39 hl (k := 3) rfl (by rw [ex14]; rfl) (by decide) rfl (fun ls hl => ?_)
          refine lv_goto (tgt := 4) cx.1 cx.2.1 dX12_lying_42 (by decide) ?_
          exact hh0 k1 x2 x13 x14 g5 (Option.some.inj hr).symm H locs ls dy (lv_sub hl [2, 3, 1, 0] rfl)
        · refine lv_icmp_ne (tgt := 36) cx.1 cx.2.1 dX12_lying_29 (by decide) (fun _ => ?_) (fun hn => absurd hn hc)
          refine lv_iconst (v := 0) cx.1 cx.2.1 dX12_lying_36 (by decide) ?_
          refine lv_iadd cx.1 cx.2.1 dX12_lying_37 ?_
          obtain ⟨x15, ex15, hr⟩ := of_nm hr
          refine lv_nmi ex15 ?_
          refine lv_istore_n (lv' := [(2, .int x15), (0, .ref (ad k1)), (1, .int x2), (3, .int x4)]) cx.1 cx.2.1 dX12_lying_38 rfl hl (by decide) rfl (fun ls hl => ?_)
          obtain ⟨x16, ex16, hr⟩ := of_nm hr
          refine lv_iinc (v := x16) (lv' := [(3, .int x16), (2, .int x15), (0, .ref (ad k1)), (1, .int x2)]) cx.1 cx.2.1 dX12_lying_39 hl (k := 3) rfl (by rw [ex16]; rfl) (by decide) rfl (fun ls hl => ?_)
          refine lv_goto (tgt := 4) cx.1 cx.2.1 dX12_lying_42 (by decide) ?_
          exact hh0 k1 x2 x15 x16 g5 (Option.some.inj hr).symm H locs ls dy (lv_sub hl [2, 3, 1, 0] rfl)
      · refine lv_if_ne (tgt := 36) cx.1 cx.2.1 dX12_lying_19 (by decide) (fun _ => ?_) (fun hn => absurd hn hc)
        refine lv_iconst (v := 0) cx.1 cx.2.1 dX12_lying_36 (by decide) ?_
        refine lv_iadd cx.1 cx.2.1 dX12_lying_37 ?_
        obtain ⟨x17, ex17, hr⟩ := of_nm hr
        refine lv_nmi ex17 ?_
        refine lv_istore_n (lv' := [(2, .int x17), (0, .ref (ad k1)), (1, .int x2), (3, .int x4)]) cx.1 cx.2.1 dX12_lying_38 rfl hl (by decide) rfl (fun ls hl => ?_)
        obtain ⟨x18, ex18, hr⟩ := of_nm hr
        refine lv_iinc (v := x18) (lv' := [(3, .int x18), (2, .int x17), (0, .ref (ad k1)), (1, .int x2)]) cx.1 cx.2.1 dX12_lying_39 hl (k := 3) rfl (by rw [ex18]; rfl) (by decide) rfl (fun ls hl => ?_)
        refine lv_goto (tgt := 4) cx.1 cx.2.1 dX12_lying_42 (by decide) ?_
        exact hh0 k1 x2 x17 x18 g5 (Option.some.inj hr).symm H locs ls dy (lv_sub hl [2, 3, 1, 0] rfl)
noncomputable def r_X12_lying (V : Vk) (k0 : Nat) (a1 : Int32) (g : Hq) : Option (Int32 × Hq) :=
  (lop (r_X12_lying_4 V) (k0, a1, (0 : Int32), (0 : Int32), g))
set_option maxHeartbeats 4000000 in
set_option maxRecDepth 100000 in
theorem c_X12_lying {l : Launch} {D : va_G} {cA : Nat → ClassId} {sk : (Nat → Nat) × (Nat → Nat)} {ad : Nat → Nat} {A : Nat → Prop} {V : Vk} {k0 : Nat} {a1 : Int32} {g g0 : Hq} {r0 : Int32} (hr : r_X12_lying V k0 a1 g = some (r0, g0)) : Met l yX12_lying (wM yX12_lying cX12_lying 4 (some .int)) { frames := 0, cells := 0, slots := 0, locals := 0 } (Pre D cA sk ad (V, g) A [.ref (ad k0), .int a1]) (QI D cA ad A r0 (V, g0)) 0 0 A := by
  refine Met.ofW (cc := cX12_lying) (maxL := 4) (ret := (some .int)) (by decide) rfl ?_
  intro p e s m args below meth c s₁ B hml hv
  obtain ⟨rfl, fx, w0⟩ := hv
  have hts := atoms_spec (ws := wM yX12_lying cX12_lying 4 (some .int)) B.pre
  have cx : CallFix p m c cX12_lying 4 s ([.ref (ad k0), .int a1] : List Value).toArray gw_tbl RX12 := ⟨B.exec, B.bytes, hml, findClass_of_methodNamed B.named, fun w hw => hts w (List.mem_cons_of_mem _ hw)⟩
  have hlocks := B.notSynchronized
  have hret := B.returns
  have hR : 0 ≤ (headSpec (wM yX12_lying cX12_lying 4 (some .int)) { frames := 0, cells := 0, slots := 0, locals := 0 }).room.frames ∧ 0 ≤ (headSpec (wM yX12_lying cX12_lying 4 (some .int)) { frames := 0, cells := 0, slots := 0, locals := 0 }).room.locals := ⟨Nat.le_refl _, Nat.le_refl _⟩
  have dy : Dy D cA ad (V, g) A s.heap s.heap [] := ⟨w0, va_S.rf⟩
  have hl := lv_entry [.ref (ad k0), .int a1] (n := 4) (Nat.le_of_ble_eq_true rfl)
  rw [lg_entry_eq]
  generalize (lg_sl [.ref (ad k0), .int a1] ++ List.replicate (4 - (lg_sl [.ref (ad k0), .int a1]).length) Slot.unset).toArray = ls at hl ⊢
  have hl : lv_has ls 4 [(0, .ref (ad k0)), (1, .int a1)] := hl
  have dy0 : ∃ H0, H0 = s.heap ∧ Dy D cA ad (V, g) A s.heap H0 [] := ⟨_, rfl, dy⟩
  obtain ⟨z, ez⟩ : ∃ z, z = (r0, g0) := ⟨_, rfl⟩
  rw [← ez] at hr
  have hq0 : ∀ (rb : Int32) (gb : Hq), z = (rb, gb) → rb = r0 ∧ gb = g0 := fun rb gb eb => by rw [ez] at eb; exact ⟨(congrArg Prod.fst eb).symm, (congrArg Prod.snd eb).symm⟩
  clear ez w0 dy0
  unfold r_X12_lying at hr
  obtain ⟨H, hH⟩ : ∃ H, H = s.heap := ⟨_, rfl⟩
  obtain ⟨locs, hlo⟩ : ∃ q : List Loc, q = [] := ⟨_, rfl⟩
  have dy : Dy D cA ad (V, g) A s.heap H locs := by rw [hH, hlo]; exact dy
  suffices K : W p l e (headSpec (wM yX12_lying cX12_lying 4 (some .int)) { frames := 0, cells := 0, slots := 0, locals := 0 }).room s m ([.ref (ad k0), .int a1] : List Value).toArray below meth c H locs 0 0 (MQ below (QI D cA ad A r0 (V, g0)) ([.ref (ad k0), .int a1] : List Value).toArray s 0 0 A) (F0 m 0 ls []) by rw [hH, hlo] at K; exact K
  clear hH hlo
  refine lv_iconst (v := 0) cx.1 cx.2.1 dX12_lying_0 (by decide) ?_
  refine lv_istore_n (lv' := [(2, .int (0 : Int32)), (0, .ref (ad k0)), (1, .int a1)]) cx.1 cx.2.1 dX12_lying_1 rfl hl (by decide) rfl (fun ls hl => ?_)
  refine lv_iconst (v := 0) cx.1 cx.2.1 dX12_lying_2 (by decide) ?_
  refine lv_istore_n (lv' := [(3, .int (0 : Int32)), (2, .int (0 : Int32)), (0, .ref (ad k0)), (1, .int a1)]) cx.1 cx.2.1 dX12_lying_3 rfl hl (by decide) rfl (fun ls hl => ?_)
  obtain ⟨n, hr⟩ := lop_some hr
  exact w_X12_lying_4 cx fx hlocks hret hR r0 g0 z hq0 n k0 a1 (0 : Int32) (0 : Int32) g hr H locs ls dy (lv_sub hl [2, 3, 1, 0] rfl)
noncomputable def r_X12_hasPlace (V : Vk) (k0 : Nat) (a1 : Int32) (g : Hq) : Option (Int32 × Hq) :=
  grd (V k0 = some (12, 0)) <| bnd (r_X12_lying V k0 a1 g) fun x2 g1 => Option.bind (g1.2.2 k0 29) fun k5 => grd (okV V k5 0 (((8 : Int32) * a1) + (7 : Int32))) <| brn ((g1.1 k5 (((8 : Int32) * a1) + (7 : Int32)).toNatClampNeg) ≤ x2) (some ((0 : Int32), g1)) (some ((1 : Int32), g1))
set_option maxHeartbeats 4000000 in
set_option maxRecDepth 100000 in
theorem c_X12_hasPlace {l : Launch} {D : va_G} {cA : Nat → ClassId} {sk : (Nat → Nat) × (Nat → Nat)} {ad : Nat → Nat} {A : Nat → Prop} {V : Vk} {k0 : Nat} {a1 : Int32} {g g0 : Hq} {r0 : Int32} (hr : r_X12_hasPlace V k0 a1 g = some (r0, g0)) : Met l yX12_hasPlace (wM yX12_hasPlace cX12_hasPlace 2 (some .boolean)) { frames := 1, cells := 0, slots := 0, locals := 23 } (Pre D cA sk ad (V, g) A [.ref (ad k0), .int a1]) (QI D cA ad A r0 (V, g0)) 0 0 A := by
  refine Met.ofW (cc := cX12_hasPlace) (maxL := 2) (ret := (some .boolean)) (by decide) rfl ?_
  intro p e s m args below meth c s₁ B hml hv
  obtain ⟨rfl, fx, w0⟩ := hv
  have hts := atoms_spec (ws := wM yX12_hasPlace cX12_hasPlace 2 (some .boolean)) B.pre
  have cx : CallFix p m c cX12_hasPlace 2 s ([.ref (ad k0), .int a1] : List Value).toArray gw_tbl RX12 := ⟨B.exec, B.bytes, hml, findClass_of_methodNamed B.named, fun w hw => hts w (List.mem_cons_of_mem _ hw)⟩
  have hlocks := B.notSynchronized
  have hret := B.returns
  have hR : 1 ≤ (headSpec (wM yX12_hasPlace cX12_hasPlace 2 (some .boolean)) { frames := 1, cells := 0, slots := 0, locals := 23 }).room.frames ∧ 23 ≤ (headSpec (wM yX12_hasPlace cX12_hasPlace 2 (some .boolean)) { frames := 1, cells := 0, slots := 0, locals := 23 }).room.locals := ⟨Nat.le_refl _, Nat.le_refl _⟩
  have dy : Dy D cA ad (V, g) A s.heap s.heap [] := ⟨w0, va_S.rf⟩
  have hl := lv_entry [.ref (ad k0), .int a1] (n := 2) (Nat.le_of_ble_eq_true rfl)
  rw [lg_entry_eq]
  generalize (lg_sl [.ref (ad k0), .int a1] ++ List.replicate (2 - (lg_sl [.ref (ad k0), .int a1]).length) Slot.unset).toArray = ls at hl ⊢
  have hl : lv_has ls 2 [(0, .ref (ad k0)), (1, .int a1)] := hl
  have dy0 : ∃ H0, H0 = s.heap ∧ Dy D cA ad (V, g) A s.heap H0 [] := ⟨_, rfl, dy⟩
  obtain ⟨z, ez⟩ : ∃ z, z = (r0, g0) := ⟨_, rfl⟩
  rw [← ez] at hr
  have hq0 : ∀ (rb : Int32) (gb : Hq), z = (rb, gb) → rb = r0 ∧ gb = g0 := fun rb gb eb => by rw [ez] at eb; exact ⟨(congrArg Prod.fst eb).symm, (congrArg Prod.snd eb).symm⟩
  clear ez w0 dy0
  unfold r_X12_hasPlace at hr
  obtain ⟨H, hH⟩ : ∃ H, H = s.heap := ⟨_, rfl⟩
  obtain ⟨locs, hlo⟩ : ∃ q : List Loc, q = [] := ⟨_, rfl⟩
  have dy : Dy D cA ad (V, g) A s.heap H locs := by rw [hH, hlo]; exact dy
  suffices K : W p l e (headSpec (wM yX12_hasPlace cX12_hasPlace 2 (some .boolean)) { frames := 1, cells := 0, slots := 0, locals := 23 }).room s m ([.ref (ad k0), .int a1] : List Value).toArray below meth c H locs 0 0 (MQ below (QI D cA ad A r0 (V, g0)) ([.ref (ad k0), .int a1] : List Value).toArray s 0 0 A) (F0 m 0 ls []) by rw [hH, hlo] at K; exact K
  clear hH hlo
  refine lv_aload_n cx.1 cx.2.1 dX12_hasPlace_0 rfl (lv_at hl 0 rfl) ?_
  refine lv_iload_n cx.1 cx.2.1 dX12_hasPlace_1 rfl (lv_at hl 1 rfl) ?_
  obtain ⟨hv3, hr⟩ := of_grd hr
  obtain ⟨x2, g1, hc4, hr⟩ := of_bnd2 hr
  refine r_i dy (k_V (As := [.int a1]) (b := k0) (ci := 12) cx fx dy (c_X12_lying hc4) mv_X12_lying rfl rfl ⟨Nat.le_trans (by decide) hR.1, Nat.le_trans (by decide) hR.2⟩ tb_1325 hv3 rfl (by decide) rfl hl.1 rfl (Nat.le_of_ble_eq_true rfl) ⟨Nat.zero_le _, Nat.zero_le _⟩ dX12_hasPlace_2) (fun H locs dy => ?_)
  refine lv_aload_n cx.1 cx.2.1 dX12_hasPlace_5 rfl (lv_at hl 0 rfl) ?_
  obtain ⟨k5, hf6, hr⟩ := of_bnd hr
  refine h_getR cx fx dy fd_12_29 hv3 tb_1015 hf6 dX12_hasPlace_6 ?_
  refine lv_bipush (v := 8) cx.1 cx.2.1 dX12_hasPlace_9 (by decide) ?_
  refine lv_iload_n cx.1 cx.2.1 dX12_hasPlace_11 rfl (lv_at hl 1 rfl) ?_
  refine lv_imul cx.1 cx.2.1 dX12_hasPlace_12 ?_
  refine lv_bipush (v := 7) cx.1 cx.2.1 dX12_hasPlace_13 (by decide) ?_
  refine lv_iadd cx.1 cx.2.1 dX12_hasPlace_15 ?_
  obtain ⟨ha7, hr⟩ := of_grd hr
  refine h_iald cx fx dy ha7 dX12_hasPlace_16 ?_
  rcases of_brn hr with ⟨hc, hr⟩ | ⟨hc, hr⟩
  · refine lv_icmp_ge (tgt := 24) cx.1 cx.2.1 dX12_hasPlace_17 (by decide) (fun _ => ?_) (fun hn => absurd hc hn)
    refine lv_iconst (v := 0) cx.1 cx.2.1 dX12_hasPlace_24 (by decide) ?_
    obtain ⟨e0, e1⟩ := hq0 _ _ (Option.some.inj hr).symm
    exact h_iret cx dy hlocks hret rfl e0 (by rw [e1]) dX12_hasPlace_25
  · refine lv_icmp_ge (tgt := 24) cx.1 cx.2.1 dX12_hasPlace_17 (by decide) (fun hn => absurd hn hc) (fun _ => ?_)
    refine lv_iconst (v := 1) cx.1 cx.2.1 dX12_hasPlace_20 (by decide) ?_
    refine lv_goto (tgt := 25) cx.1 cx.2.1 dX12_hasPlace_21 (by decide) ?_
    obtain ⟨e0, e1⟩ := hq0 _ _ (Option.some.inj hr).symm
    exact h_iret cx dy hlocks hret rfl e0 (by rw [e1]) dX12_hasPlace_25
noncomputable def r_X12_placeFor_12' (V : Vk) (k5 : Nat) (x6 : Int32) (x7 : Int32) (x8 : Int32) (g9 : Hq) : Option ((Nat × Int32 × Int32 × Int32 × Hq) ⊕ (Int32 × Hq)) :=
  brn ((4 : Int32) ≤ x8) (some (.inr ((-1 : Int32), g9))) (nm ((x6 + x8) - (x6 + x8) / (4 : Int32) * (4 : Int32)) fun x10 => grd (V k5 = some (12, 0)) <| bnd (r_X12_hasPlace V k5 x10 g9) fun x12 g11 => brn (x12 = 0) (nm (x8 + (1 : Int32)) fun x15 => some (.inl (k5, x6, x7, x15, g11))) (Option.bind (g11.2.2 k5 29) fun k16 => grd (okV V k16 0 (((8 : Int32) * x10) + (5 : Int32))) <| brn ((g11.1 k16 (((8 : Int32) * x10) + (5 : Int32)).toNatClampNeg) = (-1 : Int32)) (some (.inr ((-1 : Int32), g11))) (Option.bind (g11.2.2 k5 29) fun k19 => grd (okV V k19 0 (((8 : Int32) * x10) + (6 : Int32))) <| brn ((g11.1 k19 (((8 : Int32) * x10) + (6 : Int32)).toNatClampNeg) = 0) (some (.inr (x10, g11))) (brn (x7 = 0) (some (.inr ((-1 : Int32), g11))) (some (.inr (x10, g11)))))))
noncomputable def r_X12_placeFor_12 (V : Vk) (st : (Nat × Int32 × Int32 × Int32 × Hq)) : Option ((Nat × Int32 × Int32 × Int32 × Hq) ⊕ (Int32 × Hq)) := r_X12_placeFor_12' V st.1 st.2.1 st.2.2.1 st.2.2.2.1 st.2.2.2.2
set_option maxHeartbeats 4000000 in
set_option maxRecDepth 100000 in
theorem w_X12_placeFor_12 {p : Program} {l : Launch} {e : Env} {R : Room} {s : State} {m : MethodId} {args : Array Value} {below : List Frame} {meth : Method} {c : Code} {D : va_G} {cA : Nat → ClassId} {sk : (Nat → Nat) × (Nat → Nat)} {ad : Nat → Nat} {A : Nat → Prop} {V : Vk} (cx : CallFix p m c cX12_placeFor 6 s args gw_tbl RX12) (fx : Fx D cA sk A s) (hlocks : meth.locks = false) (hret : meth.sig.returnType = (some .int)) (hR : 2 ≤ R.frames ∧ 44 ≤ R.locals) (r0 : Int32) (g0 : Hq) (y : (Int32 × Hq)) (hq : ∀ (rb : Int32) (gb : Hq), y = (rb, gb) → rb = r0 ∧ gb = g0) : ∀ (n : Nat) (k5 : Nat) (x6 : Int32) (x7 : Int32) (x8 : Int32) (g9 : Hq), itr (r_X12_placeFor_12 V) n (k5, x6, x7, x8, g9) = some y → ∀ (H : Heap) (locs : List Loc) (ls : Array Slot), Dy D cA ad (V, g9) A s.heap H locs → lv_has ls 6 [(0, .ref (ad k5)), (1, .int x6), (2, .int x7), (3, .int x8)] → W p l e R s m args below meth c H locs 0 0 (MQ below (QI D cA ad A r0 (V, g0)) args s 0 0 A) (F0 m 12 ls []) := by
  intro n
  induction n with
  | zero => intro k5 x6 x7 x8 g9 hr; cases hr
  | succ n ih =>
    intro k5 x6 x7 x8 g9 hr H locs ls dy hl
    obtain ⟨z, hz, hn1, hn2⟩ := itr_succ hr
    clear hr
    have hr : r_X12_placeFor_12' V k5 x6 x7 x8 g9 = some z := hz
    clear hz
    unfold r_X12_placeFor_12' at hr
    have hh0 : ∀ (b0 : Nat) (b1 : Int32) (b2 : Int32) (b3 : Int32) (gb : Hq), z = .inl (b0, b1, b2, b3, gb) → ∀ (H : Heap) (locs : List Loc) (ls : Array Slot), Dy D cA ad (V, gb) A s.heap H locs → lv_has ls 6 [(0, .ref (ad b0)), (1, .int b1), (2, .int b2), (3, .int b3)] → W p l e R s m args below meth c H locs 0 0 (MQ below (QI D cA ad A r0 (V, g0)) args s 0 0 A) (F0 m 12 ls []) := fun b0 b1 b2 b3 gb eb => ih b0 b1 b2 b3 gb (hn1 _ eb)
    have hq0 : ∀ (rb : Int32) (gb : Hq), z = (.inr (rb, gb)) → rb = r0 ∧ gb = g0 := fun rb gb eb => hq rb gb (hn2 _ eb).symm
    refine lv_iload_n cx.1 cx.2.1 dX12_placeFor_12 rfl (lv_at hl 3 rfl) ?_
    refine lv_iconst (v := 4) cx.1 cx.2.1 dX12_placeFor_13 (by decide) ?_
    rcases of_brn hr with ⟨hc, hr⟩ | ⟨hc, hr⟩
    · refine lv_icmp_ge (tgt := 97) cx.1 cx.2.1 dX12_placeFor_14 (by decide) (fun _ => ?_) (fun hn => absurd hc hn)
      refine lv_iconst (v := (-1)) cx.1 cx.2.1 dX12_placeFor_97 (by decide) ?_
      obtain ⟨e0, e1⟩ := hq0 _ _ (Option.some.inj hr).symm
      exact h_iret cx dy hlocks hret rfl e0 (by rw [e1]) dX12_placeFor_98
    · refine lv_icmp_ge (tgt := 97) cx.1 cx.2.1 dX12_placeFor_14 (by decide) (fun hn => absurd hn hc) (fun _ => ?_)
      refine lv_iload_n cx.1 cx.2.1 dX12_placeFor_17 rfl (lv_at hl 1 rfl) ?_
      refine lv_iload_n cx.1 cx.2.1 dX12_placeFor_18 rfl (lv_at hl 3 rfl) ?_
      refine lv_iadd cx.1 cx.2.1 dX12_placeFor_19 ?_
      refine lv_iconst (v := 4) cx.1 cx.2.1 dX12_placeFor_20 (by decide) ?_
      refine lv_irem cx.1 cx.2.1 dX12_placeFor_21 (by decide) ?_
      obtain ⟨x10, ex10, hr⟩ := of_nm hr
      refine lv_nmi ex10 ?_
      refine lv_istore (lv' := [(4, .int x10), (0, .ref (ad k5)), (1, .int x6), (2, .int x7), (3, .int x8)]) cx.1 cx.2.1 dX12_placeFor_22 hl (by decide) rfl (fun ls hl => ?_)
      refine lv_aload_n cx.1 cx.2.1 dX12_placeFor_24 rfl (lv_at hl 1 rfl) ?_
      refine lv_iload cx.1 cx.2.1 dX12_placeFor_25 (lv_at hl 0 rfl) ?_
      obtain ⟨hv13, hr⟩ := of_grd hr
      obtain ⟨x12, g11, hc14, hr⟩ := of_bnd2 hr
      refine r_i dy (k_V (As := [.int x10]) (b := k5) (ci := 12) cx fx dy (c_X12_hasPlace hc14) mv_X12_hasPlace rfl rfl ⟨Nat.le_trans (by decide) hR.1, Nat.le_trans (by decide) hR.2⟩ tb_1321 hv13 rfl (by decide) rfl hl.1 rfl (Nat.le_of_ble_eq_true rfl) ⟨Nat.zero_le _, Nat.zero_le _⟩ dX12_placeFor_27) (fun H locs dy => ?_)
      rcases of_brn hr with ⟨hc, hr⟩ | ⟨hc, hr⟩
      · refine lv_if_ne (tgt := 36) cx.1 cx.2.1 dX12_placeFor_30 (by decide) (fun hn => absurd hc hn) (fun _ => ?_)
        refine lv_goto (tgt := 91) cx.1 cx.2.1 dX12_placeFor_33 (by decide) ?_
        obtain ⟨x15, ex15, hr⟩ := of_nm hr
        refine lv_iinc (v := x15) (lv' := [(3, .int x15), (4, .int x10), (0, .ref (ad k5)), (1, .int x6), (2, .int x7)]) cx.1 cx.2.1 dX12_placeFor_91 hl (k := 4) rfl (by rw [ex15]; rfl) (by decide) rfl (fun ls hl => ?_)
        refine lv_goto (tgt := 12) cx.1 cx.2.1 dX12_placeFor_94 (by decide) ?_
        exact hh0 k5 x6 x7 x15 g11 (Option.some.inj hr).symm H locs ls dy (lv_sub hl [2, 3, 4, 0] rfl)
      · refine lv_if_ne (tgt := 36) cx.1 cx.2.1 dX12_placeFor_30 (by decide) (fun _ => ?_) (fun hn => absurd hn hc)
        refine lv_aload_n cx.1 cx.2.1 dX12_placeFor_36 rfl (lv_at hl 1 rfl) ?_
        obtain ⟨k16, hf17, hr⟩ := of_bnd hr
        refine h_getR cx fx dy fd_12_29 hv13 tb_1015 hf17 dX12_placeFor_37 ?_
        refine lv_bipush (v := 8) cx.1 cx.2.1 dX12_placeFor_40 (by decide) ?_
        refine lv_iload cx.1 cx.2.1 dX12_placeFor_42 (lv_at hl 0 rfl) ?_
        refine lv_imul cx.1 cx.2.1 dX12_placeFor_44 ?_
        refine lv_iconst (v := 5) cx.1 cx.2.1 dX12_placeFor_45 (by decide) ?_
        refine lv_iadd cx.1 cx.2.1 dX12_placeFor_46 ?_
        obtain ⟨ha18, hr⟩ := of_grd hr
        refine h_iald cx fx dy ha18 dX12_placeFor_47 ?_
        refine lv_iconst (v := (-1)) cx.1 cx.2.1 dX12_placeFor_48 (by decide) ?_
        rcases of_brn hr with ⟨hc, hr⟩ | ⟨hc, hr⟩
        · refine lv_icmp_eq (tgt := 76) cx.1 cx.2.1 dX12_placeFor_49 (by decide) (fun _ => ?_) (fun hn => absurd hc hn)
          refine lv_iconst (v := 0) cx.1 cx.2.1 dX12_placeFor_76 (by decide) ?_
          refine lv_istore (lv' := [(5, .int (0 : Int32)), (4, .int x10), (0, .ref (ad k5)), (1, .int x6), (2, .int x7), (3, .int x8)]) cx.1 cx.2.1 dX12_placeFor_77 hl (by decide) rfl (fun ls hl => ?_)
          refine lv_iload cx.1 cx.2.1 dX12_placeFor_79 (lv_at hl 0 rfl) ?_
          refine lv_if_eq (tgt := 89) cx.1 cx.2.1 dX12_placeFor_81 (by decide) (fun _ => ?_) (fun hn => absurd hn (by decide))
          refine lv_iconst (v := (-1)) cx.1 cx.2.1 dX12_placeFor_89 (by decide) ?_
          obtain ⟨e0, e1⟩ := hq0 _ _ (Option.some.inj hr).symm
          exact h_iret cx dy hlocks hret rfl e0 (by rw [e1]) dX12_placeFor_90
        · refine lv_icmp_eq (tgt := 76) cx.1 cx.2.1 dX12_placeFor_49 (by decide) (fun hn => absurd hn hc) (fun _ => ?_)
          refine lv_aload_n cx.1 cx.2.1 dX12_placeFor_52 rfl (lv_at hl 1 rfl) ?_
          obtain ⟨k19, hf20, hr⟩ := of_bnd hr
          refine h_getR cx fx dy fd_12_29 hv13 tb_1015 hf20 dX12_placeFor_53 ?_
          refine lv_bipush (v := 8) cx.1 cx.2.1 dX12_placeFor_56 (by decide) ?_
          refine lv_iload cx.1 cx.2.1 dX12_placeFor_58 (lv_at hl 0 rfl) ?_
          refine lv_imul cx.1 cx.2.1 dX12_placeFor_60 ?_
          refine lv_bipush (v := 6) cx.1 cx.2.1 dX12_placeFor_61 (by decide) ?_
          refine lv_iadd cx.1 cx.2.1 dX12_placeFor_63 ?_
          obtain ⟨ha21, hr⟩ := of_grd hr
          refine h_iald cx fx dy ha21 dX12_placeFor_64 ?_
          rcases of_brn hr with ⟨hc, hr⟩ | ⟨hc, hr⟩
          · refine lv_if_eq (tgt := 72) cx.1 cx.2.1 dX12_placeFor_65 (by decide) (fun _ => ?_) (fun hn => absurd hc hn)
            refine lv_iconst (v := 1) cx.1 cx.2.1 dX12_placeFor_72 (by decide) ?_
            refine lv_goto (tgt := 77) cx.1 cx.2.1 dX12_placeFor_73 (by decide) ?_
            refine lv_istore (lv' := [(5, .int (1 : Int32)), (4, .int x10), (0, .ref (ad k5)), (1, .int x6), (2, .int x7), (3, .int x8)]) cx.1 cx.2.1 dX12_placeFor_77 hl (by decide) rfl (fun ls hl => ?_)
            refine lv_iload cx.1 cx.2.1 dX12_placeFor_79 (lv_at hl 0 rfl) ?_
            refine lv_if_eq (tgt := 89) cx.1 cx.2.1 dX12_placeFor_81 (by decide) (fun hn => absurd hn (by decide)) (fun _ => ?_)
            refine lv_iload cx.1 cx.2.1 dX12_placeFor_84 (lv_at hl 1 rfl) ?_
            refine lv_goto (tgt := 90) cx.1 cx.2.1 dX12_placeFor_86 (by decide) ?_
            obtain ⟨e0, e1⟩ := hq0 _ _ (Option.some.inj hr).symm
            exact h_iret cx dy hlocks hret rfl e0 (by rw [e1]) dX12_placeFor_90
          · refine lv_if_eq (tgt := 72) cx.1 cx.2.1 dX12_placeFor_65 (by decide) (fun hn => absurd hn hc) (fun _ => ?_)
            refine lv_iload_n cx.1 cx.2.1 dX12_placeFor_68 rfl (lv_at hl 3 rfl) ?_
            rcases of_brn hr with ⟨hc, hr⟩ | ⟨hc, hr⟩
            · refine lv_if_eq (tgt := 76) cx.1 cx.2.1 dX12_placeFor_69 (by decide) (fun _ => ?_) (fun hn => absurd hc hn)
              refine lv_iconst (v := 0) cx.1 cx.2.1 dX12_placeFor_76 (by decide) ?_
              refine lv_istore (lv' := [(5, .int (0 : Int32)), (4, .int x10), (0, .ref (ad k5)), (1, .int x6), (2, .int x7), (3, .int x8)]) cx.1 cx.2.1 dX12_placeFor_77 hl (by decide) rfl (fun ls hl => ?_)
              refine lv_iload cx.1 cx.2.1 dX12_placeFor_79 (lv_at hl 0 rfl) ?_
              refine lv_if_eq (tgt := 89) cx.1 cx.2.1 dX12_placeFor_81 (by decide) (fun _ => ?_) (fun hn => absurd hn (by decide))
              refine lv_iconst (v := (-1)) cx.1 cx.2.1 dX12_placeFor_89 (by decide) ?_
              obtain ⟨e0, e1⟩ := hq0 _ _ (Option.some.inj hr).symm
              exact h_iret cx dy hlocks hret rfl e0 (by rw [e1]) dX12_placeFor_90
            · refine lv_if_eq (tgt := 76) cx.1 cx.2.1 dX12_placeFor_69 (by decide) (fun hn => absurd hn hc) (fun _ => ?_)
              refine lv_iconst (v := 1) cx.1 cx.2.1 dX12_placeFor_72 (by decide) ?_
              refine lv_goto (tgt := 77) cx.1 cx.2.1 dX12_placeFor_73 (by decide) ?_
              refine lv_istore (lv' := [(5, .int (1 : Int32)), (4, .int x10), (0, .ref (ad k5)), (1, .int x6), (2, .int x7), (3, .int x8)]) cx.1 cx.2.1 dX12_placeFor_77 hl (by decide) rfl (fun ls hl => ?_)
              refine lv_iload cx.1 cx.2.1 dX12_placeFor_79 (lv_at hl 0 rfl) ?_
              refine lv_if_eq (tgt := 89) cx.1 cx.2.1 dX12_placeFor_81 (by decide) (fun hn => absurd hn (by decide)) (fun _ => ?_)
              refine lv_iload cx.1 cx.2.1 dX12_placeFor_84 (lv_at hl 1 rfl) ?_
              refine lv_goto (tgt := 90) cx.1 cx.2.1 dX12_placeFor_86 (by decide) ?_
              obtain ⟨e0, e1⟩ := hq0 _ _ (Option.some.inj hr).symm
              exact h_iret cx dy hlocks hret rfl e0 (by rw [e1]) dX12_placeFor_90
noncomputable def r_X12_placeFor (V : Vk) (k0 : Nat) (a1 : Int32) (a2 : Int32) (g : Hq) : Option (Int32 × Hq) :=
  grd (V k0 = some (12, 0)) <| bnd (r_X12_hasPlace V k0 a1 g) fun x2 g1 => brn (x2 = 0) ((lop (r_X12_placeFor_12 V) (k0, a1, a2, (1 : Int32), g1))) (some (a1, g1))
set_option maxHeartbeats 4000000 in
set_option maxRecDepth 100000 in
theorem c_X12_placeFor {l : Launch} {D : va_G} {cA : Nat → ClassId} {sk : (Nat → Nat) × (Nat → Nat)} {ad : Nat → Nat} {A : Nat → Prop} {V : Vk} {k0 : Nat} {a1 : Int32} {a2 : Int32} {g g0 : Hq} {r0 : Int32} (hr : r_X12_placeFor V k0 a1 a2 g = some (r0, g0)) : Met l yX12_placeFor (wM yX12_placeFor cX12_placeFor 6 (some .int)) { frames := 2, cells := 0, slots := 0, locals := 44 } (Pre D cA sk ad (V, g) A [.ref (ad k0), .int a1, .int a2]) (QI D cA ad A r0 (V, g0)) 0 0 A := by
  refine Met.ofW (cc := cX12_placeFor) (maxL := 6) (ret := (some .int)) (by decide) rfl ?_
  intro p e s m args below meth c s₁ B hml hv
  obtain ⟨rfl, fx, w0⟩ := hv
  have hts := atoms_spec (ws := wM yX12_placeFor cX12_placeFor 6 (some .int)) B.pre
  have cx : CallFix p m c cX12_placeFor 6 s ([.ref (ad k0), .int a1, .int a2] : List Value).toArray gw_tbl RX12 := ⟨B.exec, B.bytes, hml, findClass_of_methodNamed B.named, fun w hw => hts w (List.mem_cons_of_mem _ hw)⟩
  have hlocks := B.notSynchronized
  have hret := B.returns
  have hR : 2 ≤ (headSpec (wM yX12_placeFor cX12_placeFor 6 (some .int)) { frames := 2, cells := 0, slots := 0, locals := 44 }).room.frames ∧ 44 ≤ (headSpec (wM yX12_placeFor cX12_placeFor 6 (some .int)) { frames := 2, cells := 0, slots := 0, locals := 44 }).room.locals := ⟨Nat.le_refl _, Nat.le_refl _⟩
  have dy : Dy D cA ad (V, g) A s.heap s.heap [] := ⟨w0, va_S.rf⟩
  have hl := lv_entry [.ref (ad k0), .int a1, .int a2] (n := 6) (Nat.le_of_ble_eq_true rfl)
  rw [lg_entry_eq]
  generalize (lg_sl [.ref (ad k0), .int a1, .int a2] ++ List.replicate (6 - (lg_sl [.ref (ad k0), .int a1, .int a2]).length) Slot.unset).toArray = ls at hl ⊢
  have hl : lv_has ls 6 [(0, .ref (ad k0)), (1, .int a1), (2, .int a2)] := hl
  have dy0 : ∃ H0, H0 = s.heap ∧ Dy D cA ad (V, g) A s.heap H0 [] := ⟨_, rfl, dy⟩
  obtain ⟨z, ez⟩ : ∃ z, z = (r0, g0) := ⟨_, rfl⟩
  rw [← ez] at hr
  have hq0 : ∀ (rb : Int32) (gb : Hq), z = (rb, gb) → rb = r0 ∧ gb = g0 := fun rb gb eb => by rw [ez] at eb; exact ⟨(congrArg Prod.fst eb).symm, (congrArg Prod.snd eb).symm⟩
  clear ez w0 dy0
  unfold r_X12_placeFor at hr
  obtain ⟨H, hH⟩ : ∃ H, H = s.heap := ⟨_, rfl⟩
  obtain ⟨locs, hlo⟩ : ∃ q : List Loc, q = [] := ⟨_, rfl⟩
  have dy : Dy D cA ad (V, g) A s.heap H locs := by rw [hH, hlo]; exact dy
  suffices K : W p l e (headSpec (wM yX12_placeFor cX12_placeFor 6 (some .int)) { frames := 2, cells := 0, slots := 0, locals := 44 }).room s m ([.ref (ad k0), .int a1, .int a2] : List Value).toArray below meth c H locs 0 0 (MQ below (QI D cA ad A r0 (V, g0)) ([.ref (ad k0), .int a1, .int a2] : List Value).toArray s 0 0 A) (F0 m 0 ls []) by rw [hH, hlo] at K; exact K
  clear hH hlo
  refine lv_aload_n cx.1 cx.2.1 dX12_placeFor_0 rfl (lv_at hl 0 rfl) ?_
  refine lv_iload_n cx.1 cx.2.1 dX12_placeFor_1 rfl (lv_at hl 1 rfl) ?_
  obtain ⟨hv3, hr⟩ := of_grd hr
  obtain ⟨x2, g1, hc4, hr⟩ := of_bnd2 hr
  refine r_i dy (k_V (As := [.int a1]) (b := k0) (ci := 12) cx fx dy (c_X12_hasPlace hc4) mv_X12_hasPlace rfl rfl ⟨Nat.le_trans (by decide) hR.1, Nat.le_trans (by decide) hR.2⟩ tb_1321 hv3 rfl (by decide) rfl hl.1 rfl (Nat.le_of_ble_eq_true rfl) ⟨Nat.zero_le _, Nat.zero_le _⟩ dX12_placeFor_2) (fun H locs dy => ?_)
  rcases of_brn hr with ⟨hc, hr⟩ | ⟨hc, hr⟩
  · refine lv_if_eq (tgt := 10) cx.1 cx.2.1 dX12_placeFor_5 (by decide) (fun _ => ?_) (fun hn => absurd hc hn)
    refine lv_iconst (v := 1) cx.1 cx.2.1 dX12_placeFor_10 (by decide) ?_
    refine lv_istore_n (lv' := [(3, .int (1 : Int32)), (0, .ref (ad k0)), (1, .int a1), (2, .int a2)]) cx.1 cx.2.1 dX12_placeFor_11 rfl hl (by decide) rfl (fun ls hl => ?_)
    obtain ⟨n, hr⟩ := lop_some hr
    exact w_X12_placeFor_12 cx fx hlocks hret hR r0 g0 z hq0 n k0 a1 a2 (1 : Int32) g1 hr H locs ls dy (lv_sub hl [1, 2, 3, 0] rfl)
  · refine lv_if_eq (tgt := 10) cx.1 cx.2.1 dX12_placeFor_5 (by decide) (fun hn => absurd hn hc) (fun _ => ?_)
    refine lv_iload_n cx.1 cx.2.1 dX12_placeFor_8 rfl (lv_at hl 1 rfl) ?_
    obtain ⟨e0, e1⟩ := hq0 _ _ (Option.some.inj hr).symm
    exact h_iret cx dy hlocks hret rfl e0 (by rw [e1]) dX12_placeFor_9
noncomputable def r_X12_charge (V : Vk) (k0 : Nat) (a1 : Int32) (a2 : Int32) (a3 : Int32) (a4 : Int32) (g : Hq) : Option (Int32 × Hq) :=
  bnd (r_X12_isWard V a1 g) fun x2 g1 => brn (x2 = 0) (some ((-2 : Int32), g1)) (bnd (r_X12_in V a2 (0 : Int32) (2 : Int32) g1) fun x5 g4 => brn (x5 = 0) (some ((-2 : Int32), g4)) (bnd (r_X12_in V a3 (0 : Int32) (23 : Int32) g4) fun x8 g7 => brn (x8 = 0) (some ((-2 : Int32), g7)) (grd (V k0 = some (12, 0)) <| brn ((g7.1 k0 46) = (100 : Int32)) (some ((-3 : Int32), g7)) (nm (g7.1 k0 46) fun x11 => Option.bind (g7.2.2 k0 47) fun k12 => grd (okV V k12 0 x11) <| nm (sI g7 k12 x11.toNatClampNeg a1) fun g15 => Option.bind (g15.2.2 k0 48) fun k16 => grd (okV V k16 0 x11) <| nm (sI g15 k16 x11.toNatClampNeg a2) fun g19 => Option.bind (g19.2.2 k0 49) fun k20 => grd (okV V k20 0 x11) <| nm (sI g19 k20 x11.toNatClampNeg a3) fun g23 => Option.bind (g23.2.2 k0 51) fun k24 => grd (okV V k24 0 x11) <| nm (sI g23 k24 x11.toNatClampNeg (-1 : Int32)) fun g27 => bnd (r_X12_isGiven V k0 a1 a2 a3 a4 g27) fun x29 g28 => brn (x29 = 0) (Option.bind (g28.2.2 k0 50) fun k31 => grd (okV V k31 0 x11) <| nm (sI g28 k31 x11.toNatClampNeg (1 : Int32)) fun g34 => Option.bind (g34.2.2 k0 45) fun k35 => grd (okV V k35 0 a1) <| grd (okV V k35 0 a1) <| nm (sI g34 k35 a1.toNatClampNeg ((g34.1 k35 a1.toNatClampNeg) - (5 : Int32))) fun g39 => nm (sI g39 k0 46 ((g39.1 k0 46) + (1 : Int32))) fun g40 => some (x11, g40)) (Option.bind (g28.2.2 k0 51) fun k41 => bnd (r_X12_placeFor V k0 a1 a4 g28) fun x44 g43 => grd (okV V k41 0 x11) <| nm (sI g43 k41 x11.toNatClampNeg x44) fun g47 => Option.bind (g47.2.2 k0 50) fun k48 => Option.bind (g47.2.2 k0 51) fun k50 => grd (okV V k50 0 x11) <| brn ((g47.1 k50 x11.toNatClampNeg) = (-1 : Int32)) (grd (okV V k48 0 x11) <| nm (sI g47 k48 x11.toNatClampNeg (2 : Int32)) fun g54 => nm (sI g54 k0 46 ((g54.1 k0 46) + (1 : Int32))) fun g55 => some (x11, g55)) (grd (okV V k48 0 x11) <| nm (sI g47 k48 x11.toNatClampNeg (0 : Int32)) fun g57 => nm (sI g57 k0 46 ((g57.1 k0 46) + (1 : Int32))) fun g58 => some (x11, g58)))))))
set_option maxHeartbeats 4000000 in
set_option maxRecDepth 100000 in
theorem c_X12_charge {l : Launch} {D : va_G} {cA : Nat → ClassId} {sk : (Nat → Nat) × (Nat → Nat)} {ad : Nat → Nat} {A : Nat → Prop} {V : Vk} {k0 : Nat} {a1 : Int32} {a2 : Int32} {a3 : Int32} {a4 : Int32} {g g0 : Hq} {r0 : Int32} (hr : r_X12_charge V k0 a1 a2 a3 a4 g = some (r0, g0)) : Met l yX12_charge (wM yX12_charge cX12_charge 6 (some .int)) { frames := 3, cells := 0, slots := 0, locals := 69 } (Pre D cA sk ad (V, g) A [.ref (ad k0), .int a1, .int a2, .int a3, .int a4]) (QI D cA ad A r0 (V, g0)) 0 0 A := by
  refine Met.ofW (cc := cX12_charge) (maxL := 6) (ret := (some .int)) (by decide) rfl ?_
  intro p e s m args below meth c s₁ B hml hv
  obtain ⟨rfl, fx, w0⟩ := hv
  have hts := atoms_spec (ws := wM yX12_charge cX12_charge 6 (some .int)) B.pre
  have cx : CallFix p m c cX12_charge 6 s ([.ref (ad k0), .int a1, .int a2, .int a3, .int a4] : List Value).toArray gw_tbl RX12 := ⟨B.exec, B.bytes, hml, findClass_of_methodNamed B.named, fun w hw => hts w (List.mem_cons_of_mem _ hw)⟩
  have hlocks := B.notSynchronized
  have hret := B.returns
  have hR : 3 ≤ (headSpec (wM yX12_charge cX12_charge 6 (some .int)) { frames := 3, cells := 0, slots := 0, locals := 69 }).room.frames ∧ 69 ≤ (headSpec (wM yX12_charge cX12_charge 6 (some .int)) { frames := 3, cells := 0, slots := 0, locals := 69 }).room.locals := ⟨Nat.le_refl _, Nat.le_refl _⟩
  have dy : Dy D cA ad (V, g) A s.heap s.heap [] := ⟨w0, va_S.rf⟩
  have hl := lv_entry [.ref (ad k0), .int a1, .int a2, .int a3, .int a4] (n := 6) (Nat.le_of_ble_eq_true rfl)
  rw [lg_entry_eq]
  generalize (lg_sl [.ref (ad k0), .int a1, .int a2, .int a3, .int a4] ++ List.replicate (6 - (lg_sl [.ref (ad k0), .int a1, .int a2, .int a3, .int a4]).length) Slot.unset).toArray = ls at hl ⊢
  have hl : lv_has ls 6 [(0, .ref (ad k0)), (1, .int a1), (2, .int a2), (3, .int a3), (4, .int a4)] := hl
  have dy0 : ∃ H0, H0 = s.heap ∧ Dy D cA ad (V, g) A s.heap H0 [] := ⟨_, rfl, dy⟩
  obtain ⟨z, ez⟩ : ∃ z, z = (r0, g0) := ⟨_, rfl⟩
  rw [← ez] at hr
  have hq0 : ∀ (rb : Int32) (gb : Hq), z = (rb, gb) → rb = r0 ∧ gb = g0 := fun rb gb eb => by rw [ez] at eb; exact ⟨(congrArg Prod.fst eb).symm, (congrArg Prod.snd eb).symm⟩
  clear ez w0 dy0
  unfold r_X12_charge at hr
  obtain ⟨H, hH⟩ : ∃ H, H = s.heap := ⟨_, rfl⟩
  obtain ⟨locs, hlo⟩ : ∃ q : List Loc, q = [] := ⟨_, rfl⟩
  have dy : Dy D cA ad (V, g) A s.heap H locs := by rw [hH, hlo]; exact dy
  suffices K : W p l e (headSpec (wM yX12_charge cX12_charge 6 (some .int)) { frames := 3, cells := 0, slots := 0, locals := 69 }).room s m ([.ref (ad k0), .int a1, .int a2, .int a3, .int a4] : List Value).toArray below meth c H locs 0 0 (MQ below (QI D cA ad A r0 (V, g0)) ([.ref (ad k0), .int a1, .int a2, .int a3, .int a4] : List Value).toArray s 0 0 A) (F0 m 0 ls []) by rw [hH, hlo] at K; exact K
  clear hH hlo
  refine lv_iload_n cx.1 cx.2.1 dX12_charge_0 rfl (lv_at hl 1 rfl) ?_
  obtain ⟨x2, g1, hc3, hr⟩ := of_bnd2 hr
  refine r_i dy (k_S (As := [.int a1]) cx fx dy (c_X12_isWard hc3) mv_X12_isWard rfl rfl ⟨Nat.le_trans (by decide) hR.1, Nat.le_trans (by decide) hR.2⟩ tb_1173 rfl hl.1 rfl (Nat.le_of_ble_eq_true rfl) ⟨Nat.zero_le _, Nat.zero_le _⟩ dX12_charge_1) (fun H locs dy => ?_)
  rcases of_brn hr with ⟨hc, hr⟩ | ⟨hc, hr⟩
  · refine lv_if_eq (tgt := 26) cx.1 cx.2.1 dX12_charge_4 (by decide) (fun _ => ?_) (fun hn => absurd hc hn)
    refine lv_bipush (v := (-2)) cx.1 cx.2.1 dX12_charge_26 (by decide) ?_
    obtain ⟨e0, e1⟩ := hq0 _ _ (Option.some.inj hr).symm
    exact h_iret cx dy hlocks hret rfl e0 (by rw [e1]) dX12_charge_28
  · refine lv_if_eq (tgt := 26) cx.1 cx.2.1 dX12_charge_4 (by decide) (fun hn => absurd hn hc) (fun _ => ?_)
    refine lv_iload_n cx.1 cx.2.1 dX12_charge_7 rfl (lv_at hl 2 rfl) ?_
    refine lv_iconst (v := 0) cx.1 cx.2.1 dX12_charge_8 (by decide) ?_
    refine lv_iconst (v := 2) cx.1 cx.2.1 dX12_charge_9 (by decide) ?_
    obtain ⟨x5, g4, hc6, hr⟩ := of_bnd2 hr
    refine r_i dy (k_S (As := [.int a2, .int (0 : Int32), .int (2 : Int32)]) cx fx dy (c_X12_in hc6) mv_X12_in rfl rfl ⟨Nat.le_trans (by decide) hR.1, Nat.le_trans (by decide) hR.2⟩ tb_1170 rfl hl.1 rfl (Nat.le_of_ble_eq_true rfl) ⟨Nat.zero_le _, Nat.zero_le _⟩ dX12_charge_10) (fun H locs dy => ?_)
    rcases of_brn hr with ⟨hc, hr⟩ | ⟨hc, hr⟩
    · refine lv_if_eq (tgt := 26) cx.1 cx.2.1 dX12_charge_13 (by decide) (fun _ => ?_) (fun hn => absurd hc hn)
      refine lv_bipush (v := (-2)) cx.1 cx.2.1 dX12_charge_26 (by decide) ?_
      obtain ⟨e0, e1⟩ := hq0 _ _ (Option.some.inj hr).symm
      exact h_iret cx dy hlocks hret rfl e0 (by rw [e1]) dX12_charge_28
    · refine lv_if_eq (tgt := 26) cx.1 cx.2.1 dX12_charge_13 (by decide) (fun hn => absurd hn hc) (fun _ => ?_)
      refine lv_iload_n cx.1 cx.2.1 dX12_charge_16 rfl (lv_at hl 3 rfl) ?_
      refine lv_iconst (v := 0) cx.1 cx.2.1 dX12_charge_17 (by decide) ?_
      refine lv_bipush (v := 23) cx.1 cx.2.1 dX12_charge_18 (by decide) ?_
      obtain ⟨x8, g7, hc9, hr⟩ := of_bnd2 hr
      refine r_i dy (k_S (As := [.int a3, .int (0 : Int32), .int (23 : Int32)]) cx fx dy (c_X12_in hc9) mv_X12_in rfl rfl ⟨Nat.le_trans (by decide) hR.1, Nat.le_trans (by decide) hR.2⟩ tb_1170 rfl hl.1 rfl (Nat.le_of_ble_eq_true rfl) ⟨Nat.zero_le _, Nat.zero_le _⟩ dX12_charge_20) (fun H locs dy => ?_)
      rcases of_brn hr with ⟨hc, hr⟩ | ⟨hc, hr⟩
      · refine lv_if_ne (tgt := 29) cx.1 cx.2.1 dX12_charge_23 (by decide) (fun hn => absurd hc hn) (fun _ => ?_)
        refine lv_bipush (v := (-2)) cx.1 cx.2.1 dX12_charge_26 (by decide) ?_
        obtain ⟨e0, e1⟩ := hq0 _ _ (Option.some.inj hr).symm
        exact h_iret cx dy hlocks hret rfl e0 (by rw [e1]) dX12_charge_28
      · refine lv_if_ne (tgt := 29) cx.1 cx.2.1 dX12_charge_23 (by decide) (fun _ => ?_) (fun hn => absurd hn hc)
        refine lv_aload_n cx.1 cx.2.1 dX12_charge_29 rfl (lv_at hl 0 rfl) ?_
        obtain ⟨hv10, hr⟩ := of_grd hr
        refine h_getI cx fx dy fd_12_46 hv10 tb_1032 dX12_charge_30 ?_
        refine lv_bipush (v := 100) cx.1 cx.2.1 dX12_charge_33 (by decide) ?_
        rcases of_brn hr with ⟨hc, hr⟩ | ⟨hc, hr⟩
        · refine lv_icmp_ne (tgt := 41) cx.1 cx.2.1 dX12_charge_35 (by decide) (fun hn => absurd hc hn) (fun _ => ?_)
          refine lv_bipush (v := (-3)) cx.1 cx.2.1 dX12_charge_38 (by decide) ?_
          obtain ⟨e0, e1⟩ := hq0 _ _ (Option.some.inj hr).symm
          exact h_iret cx dy hlocks hret rfl e0 (by rw [e1]) dX12_charge_40
        · refine lv_icmp_ne (tgt := 41) cx.1 cx.2.1 dX12_charge_35 (by decide) (fun _ => ?_) (fun hn => absurd hn hc)
          refine lv_aload_n cx.1 cx.2.1 dX12_charge_41 rfl (lv_at hl 0 rfl) ?_
          refine h_getI cx fx dy fd_12_46 hv10 tb_1032 dX12_charge_42 ?_
          obtain ⟨x11, ex11, hr⟩ := of_nm hr
          refine lv_nmi ex11 ?_
          refine lv_istore (lv' := [(5, .int x11), (0, .ref (ad k0)), (1, .int a1), (2, .int a2), (3, .int a3), (4, .int a4)]) cx.1 cx.2.1 dX12_charge_45 hl (by decide) rfl (fun ls hl => ?_)
          refine lv_aload_n cx.1 cx.2.1 dX12_charge_47 rfl (lv_at hl 1 rfl) ?_
          obtain ⟨k12, hf13, hr⟩ := of_bnd hr
          refine h_getR cx fx dy fd_12_47 hv10 tb_1033 hf13 dX12_charge_48 ?_
          refine lv_iload cx.1 cx.2.1 dX12_charge_51 (lv_at hl 0 rfl) ?_
          refine lv_iload_n cx.1 cx.2.1 dX12_charge_53 rfl (lv_at hl 2 rfl) ?_
          obtain ⟨ha14, hr⟩ := of_grd hr
          obtain ⟨g15, eg15, hr⟩ := of_nm hr
          refine h_iast cx fx dy ha14 dX12_charge_54 (fun H locs dy => ?_)
          replace dy : Dy D cA ad (V, g15) A s.heap H locs := by rw [eg15]; exact dy
          refine lv_aload_n cx.1 cx.2.1 dX12_charge_55 rfl (lv_at hl 1 rfl) ?_
          obtain ⟨k16, hf17, hr⟩ := of_bnd hr
          refine h_getR cx fx dy fd_12_48 hv10 tb_1034 hf17 dX12_charge_56 ?_
          refine lv_iload cx.1 cx.2.1 dX12_charge_59 (lv_at hl 0 rfl) ?_
          refine lv_iload_n cx.1 cx.2.1 dX12_charge_61 rfl (lv_at hl 3 rfl) ?_
          obtain ⟨ha18, hr⟩ := of_grd hr
          obtain ⟨g19, eg19, hr⟩ := of_nm hr
          refine h_iast cx fx dy ha18 dX12_charge_62 (fun H locs dy => ?_)
          replace dy : Dy D cA ad (V, g19) A s.heap H locs := by rw [eg19]; exact dy
          refine lv_aload_n cx.1 cx.2.1 dX12_charge_63 rfl (lv_at hl 1 rfl) ?_
          obtain ⟨k20, hf21, hr⟩ := of_bnd hr
          refine h_getR cx fx dy fd_12_49 hv10 tb_1035 hf21 dX12_charge_64 ?_
          refine lv_iload cx.1 cx.2.1 dX12_charge_67 (lv_at hl 0 rfl) ?_
          refine lv_iload_n cx.1 cx.2.1 dX12_charge_69 rfl (lv_at hl 4 rfl) ?_
          obtain ⟨ha22, hr⟩ := of_grd hr
          obtain ⟨g23, eg23, hr⟩ := of_nm hr
          refine h_iast cx fx dy ha22 dX12_charge_70 (fun H locs dy => ?_)
          replace dy : Dy D cA ad (V, g23) A s.heap H locs := by rw [eg23]; exact dy
          refine lv_aload_n cx.1 cx.2.1 dX12_charge_71 rfl (lv_at hl 1 rfl) ?_
          obtain ⟨k24, hf25, hr⟩ := of_bnd hr
          refine h_getR cx fx dy fd_12_51 hv10 tb_1037 hf25 dX12_charge_72 ?_
          refine lv_iload cx.1 cx.2.1 dX12_charge_75 (lv_at hl 0 rfl) ?_
          refine lv_iconst (v := (-1)) cx.1 cx.2.1 dX12_charge_77 (by decide) ?_
          obtain ⟨ha26, hr⟩ := of_grd hr
          obtain ⟨g27, eg27, hr⟩ := of_nm hr
          refine h_iast cx fx dy ha26 dX12_charge_78 (fun H locs dy => ?_)
          replace dy : Dy D cA ad (V, g27) A s.heap H locs := by rw [eg27]; exact dy
          refine lv_aload_n cx.1 cx.2.1 dX12_charge_79 rfl (lv_at hl 1 rfl) ?_
          refine lv_iload_n cx.1 cx.2.1 dX12_charge_80 rfl (lv_at hl 2 rfl) ?_
          refine lv_iload_n cx.1 cx.2.1 dX12_charge_81 rfl (lv_at hl 3 rfl) ?_
          refine lv_iload_n cx.1 cx.2.1 dX12_charge_82 rfl (lv_at hl 4 rfl) ?_
          refine lv_iload cx.1 cx.2.1 dX12_charge_83 (lv_at hl 5 rfl) ?_
          obtain ⟨x29, g28, hc30, hr⟩ := of_bnd2 hr
          refine r_i dy (k_V (As := [.int a1, .int a2, .int a3, .int a4]) (b := k0) (ci := 12) cx fx dy (c_X12_isGiven hc30) mv_X12_isGiven rfl rfl ⟨Nat.le_trans (by decide) hR.1, Nat.le_trans (by decide) hR.2⟩ tb_1276 hv10 rfl (by decide) rfl hl.1 rfl (Nat.le_of_ble_eq_true rfl) ⟨Nat.zero_le _, Nat.zero_le _⟩ dX12_charge_85) (fun H locs dy => ?_)
          rcases of_brn hr with ⟨hc, hr⟩ | ⟨hc, hr⟩
          · refine lv_if_ne (tgt := 112) cx.1 cx.2.1 dX12_charge_88 (by decide) (fun hn => absurd hc hn) (fun _ => ?_)
            refine lv_aload_n cx.1 cx.2.1 dX12_charge_91 rfl (lv_at hl 1 rfl) ?_
            obtain ⟨k31, hf32, hr⟩ := of_bnd hr
            refine h_getR cx fx dy fd_12_50 hv10 tb_1036 hf32 dX12_charge_92 ?_
            refine lv_iload cx.1 cx.2.1 dX12_charge_95 (lv_at hl 0 rfl) ?_
            refine lv_iconst (v := 1) cx.1 cx.2.1 dX12_charge_97 (by decide) ?_
            obtain ⟨ha33, hr⟩ := of_grd hr
            obtain ⟨g34, eg34, hr⟩ := of_nm hr
            refine h_iast cx fx dy ha33 dX12_charge_98 (fun H locs dy => ?_)
            replace dy : Dy D cA ad (V, g34) A s.heap H locs := by rw [eg34]; exact dy
            refine lv_aload_n cx.1 cx.2.1 dX12_charge_99 rfl (lv_at hl 1 rfl) ?_
            obtain ⟨k35, hf36, hr⟩ := of_bnd hr
            refine h_getR cx fx dy fd_12_45 hv10 tb_1031 hf36 dX12_charge_100 ?_
            refine lv_iload_n cx.1 cx.2.1 dX12_charge_103 rfl (lv_at hl 2 rfl) ?_
            refine lv_dup2_11 cx.1 cx.2.1 dX12_charge_104 rfl rfl ?_
            obtain ⟨ha37, hr⟩ := of_grd hr
            refine h_iald cx fx dy ha37 dX12_charge_105 ?_
            refine lv_iconst (v := 5) cx.1 cx.2.1 dX12_charge_106 (by decide) ?_
            refine lv_isub cx.1 cx.2.1 dX12_charge_107 ?_
            obtain ⟨ha38, hr⟩ := of_grd hr
            obtain ⟨g39, eg39, hr⟩ := of_nm hr
            refine h_iast cx fx dy ha38 dX12_charge_108 (fun H locs dy => ?_)
            replace dy : Dy D cA ad (V, g39) A s.heap H locs := by rw [eg39]; exact dy
            refine lv_goto (tgt := 149) cx.1 cx.2.1 dX12_charge_109 (by decide) ?_
            refine lv_aload_n cx.1 cx.2.1 dX12_charge_149 rfl (lv_at hl 1 rfl) ?_
            refine lv_dup cx.1 cx.2.1 dX12_charge_150 rfl ?_
            refine h_getI cx fx dy fd_12_46 hv10 tb_1032 dX12_charge_151 ?_
            refine lv_iconst (v := 1) cx.1 cx.2.1 dX12_charge_154 (by decide) ?_
            refine lv_iadd cx.1 cx.2.1 dX12_charge_155 ?_
            obtain ⟨g40, eg40, hr⟩ := of_nm hr
            refine h_putI cx fx dy fd_12_46 (pd_12_46 : PD _ _ _ _ _ .int) rfl rfl rfl hv10 tb_1032 dX12_charge_156 (fun H locs dy => ?_)
            replace dy : Dy D cA ad (V, g40) A s.heap H locs := by rw [eg40]; exact dy
            refine lv_iload cx.1 cx.2.1 dX12_charge_159 (lv_at hl 0 rfl) ?_
            obtain ⟨e0, e1⟩ := hq0 _ _ (Option.some.inj hr).symm
            exact h_iret cx dy hlocks hret rfl e0 (by rw [e1]) dX12_charge_161
          · refine lv_if_ne (tgt := 112) cx.1 cx.2.1 dX12_charge_88 (by decide) (fun _ => ?_) (fun hn => absurd hn hc)
            refine lv_aload_n cx.1 cx.2.1 dX12_charge_112 rfl (lv_at hl 1 rfl) ?_
            obtain ⟨k41, hf42, hr⟩ := of_bnd hr
            refine h_getR cx fx dy fd_12_51 hv10 tb_1037 hf42 dX12_charge_113 ?_
            refine lv_iload cx.1 cx.2.1 dX12_charge_116 (lv_at hl 0 rfl) ?_
            refine lv_aload_n cx.1 cx.2.1 dX12_charge_118 rfl (lv_at hl 1 rfl) ?_
            refine lv_iload_n cx.1 cx.2.1 dX12_charge_119 rfl (lv_at hl 2 rfl) ?_
            refine lv_iload cx.1 cx.2.1 dX12_charge_120 (lv_at hl 5 rfl) ?_
            obtain ⟨x44, g43, hc45, hr⟩ := of_bnd2 hr
            refine r_i dy (k_V (As := [.int a1, .int a4]) (b := k0) (ci := 12) cx fx dy (c_X12_placeFor hc45) mv_X12_placeFor rfl rfl ⟨Nat.le_trans (by decide) hR.1, Nat.le_trans (by decide) hR.2⟩ tb_1317 hv10 rfl (by decide) rfl hl.1 rfl (Nat.le_of_ble_eq_true rfl) ⟨Nat.zero_le _, Nat.zero_le _⟩ dX12_charge_122) (fun H locs dy => ?_)
            obtain ⟨ha46, hr⟩ := of_grd hr
            obtain ⟨g47, eg47, hr⟩ := of_nm hr
            refine h_iast cx fx dy ha46 dX12_charge_125 (fun H locs dy => ?_)
            replace dy : Dy D cA ad (V, g47) A s.heap H locs := by rw [eg47]; exact dy
            refine lv_aload_n cx.1 cx.2.1 dX12_charge_126 rfl (lv_at hl 1 rfl) ?_
            obtain ⟨k48, hf49, hr⟩ := of_bnd hr
            refine h_getR cx fx dy fd_12_50 hv10 tb_1036 hf49 dX12_charge_127 ?_
            refine lv_iload cx.1 cx.2.1 dX12_charge_130 (lv_at hl 0 rfl) ?_
            refine lv_aload_n cx.1 cx.2.1 dX12_charge_132 rfl (lv_at hl 1 rfl) ?_
            obtain ⟨k50, hf51, hr⟩ := of_bnd hr
            refine h_getR cx fx dy fd_12_51 hv10 tb_1037 hf51 dX12_charge_133 ?_
            refine lv_iload cx.1 cx.2.1 dX12_charge_136 (lv_at hl 0 rfl) ?_
            obtain ⟨ha52, hr⟩ := of_grd hr
            refine h_iald cx fx dy ha52 dX12_charge_138 ?_
            refine lv_iconst (v := (-1)) cx.1 cx.2.1 dX12_charge_139 (by decide) ?_
            rcases of_brn hr with ⟨hc, hr⟩ | ⟨hc, hr⟩
            · refine lv_icmp_ne (tgt := 147) cx.1 cx.2.1 dX12_charge_140 (by decide) (fun hn => absurd hc hn) (fun _ => ?_)
              refine lv_iconst (v := 2) cx.1 cx.2.1 dX12_charge_143 (by decide) ?_
              refine lv_goto (tgt := 148) cx.1 cx.2.1 dX12_charge_144 (by decide) ?_
              obtain ⟨ha53, hr⟩ := of_grd hr
              obtain ⟨g54, eg54, hr⟩ := of_nm hr
              refine h_iast cx fx dy ha53 dX12_charge_148 (fun H locs dy => ?_)
              replace dy : Dy D cA ad (V, g54) A s.heap H locs := by rw [eg54]; exact dy
              refine lv_aload_n cx.1 cx.2.1 dX12_charge_149 rfl (lv_at hl 1 rfl) ?_
              refine lv_dup cx.1 cx.2.1 dX12_charge_150 rfl ?_
              refine h_getI cx fx dy fd_12_46 hv10 tb_1032 dX12_charge_151 ?_
              refine lv_iconst (v := 1) cx.1 cx.2.1 dX12_charge_154 (by decide) ?_
              refine lv_iadd cx.1 cx.2.1 dX12_charge_155 ?_
              obtain ⟨g55, eg55, hr⟩ := of_nm hr
              refine h_putI cx fx dy fd_12_46 (pd_12_46 : PD _ _ _ _ _ .int) rfl rfl rfl hv10 tb_1032 dX12_charge_156 (fun H locs dy => ?_)
              replace dy : Dy D cA ad (V, g55) A s.heap H locs := by rw [eg55]; exact dy
              refine lv_iload cx.1 cx.2.1 dX12_charge_159 (lv_at hl 0 rfl) ?_
              obtain ⟨e0, e1⟩ := hq0 _ _ (Option.some.inj hr).symm
              exact h_iret cx dy hlocks hret rfl e0 (by rw [e1]) dX12_charge_161
            · refine lv_icmp_ne (tgt := 147) cx.1 cx.2.1 dX12_charge_140 (by decide) (fun _ => ?_) (fun hn => absurd hn hc)
              refine lv_iconst (v := 0) cx.1 cx.2.1 dX12_charge_147 (by decide) ?_
              obtain ⟨ha56, hr⟩ := of_grd hr
              obtain ⟨g57, eg57, hr⟩ := of_nm hr
              refine h_iast cx fx dy ha56 dX12_charge_148 (fun H locs dy => ?_)
              replace dy : Dy D cA ad (V, g57) A s.heap H locs := by rw [eg57]; exact dy
              refine lv_aload_n cx.1 cx.2.1 dX12_charge_149 rfl (lv_at hl 1 rfl) ?_
              refine lv_dup cx.1 cx.2.1 dX12_charge_150 rfl ?_
              refine h_getI cx fx dy fd_12_46 hv10 tb_1032 dX12_charge_151 ?_
              refine lv_iconst (v := 1) cx.1 cx.2.1 dX12_charge_154 (by decide) ?_
              refine lv_iadd cx.1 cx.2.1 dX12_charge_155 ?_
              obtain ⟨g58, eg58, hr⟩ := of_nm hr
              refine h_putI cx fx dy fd_12_46 (pd_12_46 : PD _ _ _ _ _ .int) rfl rfl rfl hv10 tb_1032 dX12_charge_156 (fun H locs dy => ?_)
              replace dy : Dy D cA ad (V, g58) A s.heap H locs := by rw [eg58]; exact dy
              refine lv_iload cx.1 cx.2.1 dX12_charge_159 (lv_at hl 0 rfl) ?_
              obtain ⟨e0, e1⟩ := hq0 _ _ (Option.some.inj hr).symm
              exact h_iret cx dy hlocks hret rfl e0 (by rw [e1]) dX12_charge_161
noncomputable def r_X12_charged (V : Vk) (k0 : Nat) (a1 : Int32) (a2 : Int32) (g : Hq) : Option (Int32 × Hq) :=
  grd (V k0 = some (12, 0)) <| bnd (r_X12_in V a1 (0 : Int32) ((g.1 k0 46) - (1 : Int32)) g) fun x3 g2 => brn (x3 = 0) (some ((-1 : Int32), g2)) (brn (a2 = (0 : Int32)) (Option.bind (g2.2.2 k0 47) fun k5 => grd (okV V k5 0 a1) <| some ((g2.1 k5 a1.toNatClampNeg), g2)) (brn (a2 = (1 : Int32)) (Option.bind (g2.2.2 k0 48) fun k9 => grd (okV V k9 0 a1) <| some ((g2.1 k9 a1.toNatClampNeg), g2)) (brn (a2 = (2 : Int32)) (Option.bind (g2.2.2 k0 49) fun k13 => grd (okV V k13 0 a1) <| some ((g2.1 k13 a1.toNatClampNeg), g2)) (brn (a2 = (3 : Int32)) (Option.bind (g2.2.2 k0 50) fun k17 => grd (okV V k17 0 a1) <| some ((g2.1 k17 a1.toNatClampNeg), g2)) (brn (a2 = (4 : Int32)) (Option.bind (g2.2.2 k0 51) fun k21 => grd (okV V k21 0 a1) <| some ((g2.1 k21 a1.toNatClampNeg), g2)) (some ((-1 : Int32), g2)))))))
set_option maxHeartbeats 4000000 in
set_option maxRecDepth 100000 in
theorem c_X12_charged {l : Launch} {D : va_G} {cA : Nat → ClassId} {sk : (Nat → Nat) × (Nat → Nat)} {ad : Nat → Nat} {A : Nat → Prop} {V : Vk} {k0 : Nat} {a1 : Int32} {a2 : Int32} {g g0 : Hq} {r0 : Int32} (hr : r_X12_charged V k0 a1 a2 g = some (r0, g0)) : Met l yX12_charged (wM yX12_charged cX12_charged 3 (some .int)) { frames := 1, cells := 0, slots := 0, locals := 22 } (Pre D cA sk ad (V, g) A [.ref (ad k0), .int a1, .int a2]) (QI D cA ad A r0 (V, g0)) 0 0 A := by
  refine Met.ofW (cc := cX12_charged) (maxL := 3) (ret := (some .int)) (by decide) rfl ?_
  intro p e s m args below meth c s₁ B hml hv
  obtain ⟨rfl, fx, w0⟩ := hv
  have hts := atoms_spec (ws := wM yX12_charged cX12_charged 3 (some .int)) B.pre
  have cx : CallFix p m c cX12_charged 3 s ([.ref (ad k0), .int a1, .int a2] : List Value).toArray gw_tbl RX12 := ⟨B.exec, B.bytes, hml, findClass_of_methodNamed B.named, fun w hw => hts w (List.mem_cons_of_mem _ hw)⟩
  have hlocks := B.notSynchronized
  have hret := B.returns
  have hR : 1 ≤ (headSpec (wM yX12_charged cX12_charged 3 (some .int)) { frames := 1, cells := 0, slots := 0, locals := 22 }).room.frames ∧ 22 ≤ (headSpec (wM yX12_charged cX12_charged 3 (some .int)) { frames := 1, cells := 0, slots := 0, locals := 22 }).room.locals := ⟨Nat.le_refl _, Nat.le_refl _⟩
  have dy : Dy D cA ad (V, g) A s.heap s.heap [] := ⟨w0, va_S.rf⟩
  have hl := lv_entry [.ref (ad k0), .int a1, .int a2] (n := 3) (Nat.le_of_ble_eq_true rfl)
  rw [lg_entry_eq]
  generalize (lg_sl [.ref (ad k0), .int a1, .int a2] ++ List.replicate (3 - (lg_sl [.ref (ad k0), .int a1, .int a2]).length) Slot.unset).toArray = ls at hl ⊢
  have hl : lv_has ls 3 [(0, .ref (ad k0)), (1, .int a1), (2, .int a2)] := hl
  have dy0 : ∃ H0, H0 = s.heap ∧ Dy D cA ad (V, g) A s.heap H0 [] := ⟨_, rfl, dy⟩
  obtain ⟨z, ez⟩ : ∃ z, z = (r0, g0) := ⟨_, rfl⟩
  rw [← ez] at hr
  have hq0 : ∀ (rb : Int32) (gb : Hq), z = (rb, gb) → rb = r0 ∧ gb = g0 := fun rb gb eb => by rw [ez] at eb; exact ⟨(congrArg Prod.fst eb).symm, (congrArg Prod.snd eb).symm⟩
  clear ez w0 dy0
  unfold r_X12_charged at hr
  obtain ⟨H, hH⟩ : ∃ H, H = s.heap := ⟨_, rfl⟩
  obtain ⟨locs, hlo⟩ : ∃ q : List Loc, q = [] := ⟨_, rfl⟩
  have dy : Dy D cA ad (V, g) A s.heap H locs := by rw [hH, hlo]; exact dy
  suffices K : W p l e (headSpec (wM yX12_charged cX12_charged 3 (some .int)) { frames := 1, cells := 0, slots := 0, locals := 22 }).room s m ([.ref (ad k0), .int a1, .int a2] : List Value).toArray below meth c H locs 0 0 (MQ below (QI D cA ad A r0 (V, g0)) ([.ref (ad k0), .int a1, .int a2] : List Value).toArray s 0 0 A) (F0 m 0 ls []) by rw [hH, hlo] at K; exact K
  clear hH hlo
  refine lv_iload_n cx.1 cx.2.1 dX12_charged_0 rfl (lv_at hl 1 rfl) ?_
  refine lv_iconst (v := 0) cx.1 cx.2.1 dX12_charged_1 (by decide) ?_
  refine lv_aload_n cx.1 cx.2.1 dX12_charged_2 rfl (lv_at hl 0 rfl) ?_
  obtain ⟨hv1, hr⟩ := of_grd hr
  refine h_getI cx fx dy fd_12_46 hv1 tb_1032 dX12_charged_3 ?_
  refine lv_iconst (v := 1) cx.1 cx.2.1 dX12_charged_6 (by decide) ?_
  refine lv_isub cx.1 cx.2.1 dX12_charged_7 ?_
  obtain ⟨x3, g2, hc4, hr⟩ := of_bnd2 hr
  refine r_i dy (k_S (As := [.int a1, .int (0 : Int32), .int ((g.1 k0 46) - (1 : Int32))]) cx fx dy (c_X12_in hc4) mv_X12_in rfl rfl ⟨Nat.le_trans (by decide) hR.1, Nat.le_trans (by decide) hR.2⟩ tb_1170 rfl hl.1 rfl (Nat.le_of_ble_eq_true rfl) ⟨Nat.zero_le _, Nat.zero_le _⟩ dX12_charged_8) (fun H locs dy => ?_)
  rcases of_brn hr with ⟨hc, hr⟩ | ⟨hc, hr⟩
  · refine lv_if_ne (tgt := 16) cx.1 cx.2.1 dX12_charged_11 (by decide) (fun hn => absurd hc hn) (fun _ => ?_)
    refine lv_iconst (v := (-1)) cx.1 cx.2.1 dX12_charged_14 (by decide) ?_
    obtain ⟨e0, e1⟩ := hq0 _ _ (Option.some.inj hr).symm
    exact h_iret cx dy hlocks hret rfl e0 (by rw [e1]) dX12_charged_15
  · refine lv_if_ne (tgt := 16) cx.1 cx.2.1 dX12_charged_11 (by decide) (fun _ => ?_) (fun hn => absurd hn hc)
    refine lv_iload_n cx.1 cx.2.1 dX12_charged_16 rfl (lv_at hl 2 rfl) ?_
    rcases of_brn hr with ⟨hc, hr⟩ | ⟨hs8, hr⟩
    · refine lv_tableIn (off := 35) (tgt := 52) cx.1 cx.2.1 dX12_charged_17 (by rw [hc]; decide) (by rw [hc]; decide) (by rw [hc]; rfl) (by decide) ?_
      refine lv_aload_n cx.1 cx.2.1 dX12_charged_52 rfl (lv_at hl 0 rfl) ?_
      obtain ⟨k5, hf6, hr⟩ := of_bnd hr
      refine h_getR cx fx dy fd_12_47 hv1 tb_1033 hf6 dX12_charged_53 ?_
      refine lv_iload_n cx.1 cx.2.1 dX12_charged_56 rfl (lv_at hl 1 rfl) ?_
      obtain ⟨ha7, hr⟩ := of_grd hr
      refine h_iald cx fx dy ha7 dX12_charged_57 ?_
      obtain ⟨e0, e1⟩ := hq0 _ _ (Option.some.inj hr).symm
      exact h_iret cx dy hlocks hret rfl e0 (by rw [e1]) dX12_charged_58
    rcases of_brn hr with ⟨hc, hr⟩ | ⟨hs12, hr⟩
    · refine lv_tableIn (off := 42) (tgt := 59) cx.1 cx.2.1 dX12_charged_17 (by rw [hc]; decide) (by rw [hc]; decide) (by rw [hc]; rfl) (by decide) ?_
      refine lv_aload_n cx.1 cx.2.1 dX12_charged_59 rfl (lv_at hl 0 rfl) ?_
      obtain ⟨k9, hf10, hr⟩ := of_bnd hr
      refine h_getR cx fx dy fd_12_48 hv1 tb_1034 hf10 dX12_charged_60 ?_
      refine lv_iload_n cx.1 cx.2.1 dX12_charged_63 rfl (lv_at hl 1 rfl) ?_
      obtain ⟨ha11, hr⟩ := of_grd hr
      refine h_iald cx fx dy ha11 dX12_charged_64 ?_
      obtain ⟨e0, e1⟩ := hq0 _ _ (Option.some.inj hr).symm
      exact h_iret cx dy hlocks hret rfl e0 (by rw [e1]) dX12_charged_65
    rcases of_brn hr with ⟨hc, hr⟩ | ⟨hs16, hr⟩
    · refine lv_tableIn (off := 49) (tgt := 66) cx.1 cx.2.1 dX12_charged_17 (by rw [hc]; decide) (by rw [hc]; decide) (by rw [hc]; rfl) (by decide) ?_
      refine lv_aload_n cx.1 cx.2.1 dX12_charged_66 rfl (lv_at hl 0 rfl) ?_
      obtain ⟨k13, hf14, hr⟩ := of_bnd hr
      refine h_getR cx fx dy fd_12_49 hv1 tb_1035 hf14 dX12_charged_67 ?_
      refine lv_iload_n cx.1 cx.2.1 dX12_charged_70 rfl (lv_at hl 1 rfl) ?_
      obtain ⟨ha15, hr⟩ := of_grd hr
      refine h_iald cx fx dy ha15 dX12_charged_71 ?_
      obtain ⟨e0, e1⟩ := hq0 _ _ (Option.some.inj hr).symm
      exact h_iret cx dy hlocks hret rfl e0 (by rw [e1]) dX12_charged_72
    rcases of_brn hr with ⟨hc, hr⟩ | ⟨hs20, hr⟩
    · refine lv_tableIn (off := 56) (tgt := 73) cx.1 cx.2.1 dX12_charged_17 (by rw [hc]; decide) (by rw [hc]; decide) (by rw [hc]; rfl) (by decide) ?_
      refine lv_aload_n cx.1 cx.2.1 dX12_charged_73 rfl (lv_at hl 0 rfl) ?_
      obtain ⟨k17, hf18, hr⟩ := of_bnd hr
      refine h_getR cx fx dy fd_12_50 hv1 tb_1036 hf18 dX12_charged_74 ?_
      refine lv_iload_n cx.1 cx.2.1 dX12_charged_77 rfl (lv_at hl 1 rfl) ?_
      obtain ⟨ha19, hr⟩ := of_grd hr
      refine h_iald cx fx dy ha19 dX12_charged_78 ?_
      obtain ⟨e0, e1⟩ := hq0 _ _ (Option.some.inj hr).symm
      exact h_iret cx dy hlocks hret rfl e0 (by rw [e1]) dX12_charged_79
    rcases of_brn hr with ⟨hc, hr⟩ | ⟨hs24, hr⟩
    · refine lv_tableIn (off := 63) (tgt := 80) cx.1 cx.2.1 dX12_charged_17 (by rw [hc]; decide) (by rw [hc]; decide) (by rw [hc]; rfl) (by decide) ?_
      refine lv_aload_n cx.1 cx.2.1 dX12_charged_80 rfl (lv_at hl 0 rfl) ?_
      obtain ⟨k21, hf22, hr⟩ := of_bnd hr
      refine h_getR cx fx dy fd_12_51 hv1 tb_1037 hf22 dX12_charged_81 ?_
      refine lv_iload_n cx.1 cx.2.1 dX12_charged_84 rfl (lv_at hl 1 rfl) ?_
      obtain ⟨ha23, hr⟩ := of_grd hr
      refine h_iald cx fx dy ha23 dX12_charged_85 ?_
      obtain ⟨e0, e1⟩ := hq0 _ _ (Option.some.inj hr).symm
      exact h_iret cx dy hlocks hret rfl e0 (by rw [e1]) dX12_charged_86
    refine lv_tableOut (tgt := 87) cx.1 cx.2.1 dX12_charged_17 (tsw_out (fun n h1 h2 => ?_)) (by decide) ?_
    · rcases (show n = 0 ∨ n = 1 ∨ n = 2 ∨ n = 3 ∨ n = 4 by omega) with rfl | rfl | rfl | rfl | rfl
      · exact hs8
      · exact hs12
      · exact hs16
      · exact hs20
      · exact hs24
    · skip
      refine lv_iconst (v := (-1)) cx.1 cx.2.1 dX12_charged_87 (by decide) ?_
      obtain ⟨e0, e1⟩ := hq0 _ _ (Option.some.inj hr).symm
      exact h_iret cx dy hlocks hret rfl e0 (by rw [e1]) dX12_charged_88
noncomputable def r_X12_morning_4' (V : Vk) (k1 : Nat) (x2 : Int32) (x3 : Int32) (g4 : Hq) : Option ((Nat × Int32 × Int32 × Hq) ⊕ (Int32 × Hq)) :=
  grd (V k1 = some (12, 0)) <| brn ((g4.1 k1 46) ≤ x3) (some (.inr (x2, g4))) (Option.bind (g4.2.2 k1 50) fun k6 => grd (okV V k6 0 x3) <| brn ((g4.1 k6 x3.toNatClampNeg) = 0) (Option.bind (g4.2.2 k1 50) fun k9 => grd (okV V k9 0 x3) <| nm (sI g4 k9 x3.toNatClampNeg (3 : Int32)) fun g12 => nm (x2 + (1 : Int32)) fun x13 => nm (x3 + (1 : Int32)) fun x14 => some (.inl (k1, x13, x14, g12))) (nm (x3 + (1 : Int32)) fun x15 => some (.inl (k1, x2, x15, g4))))
noncomputable def r_X12_morning_4 (V : Vk) (st : (Nat × Int32 × Int32 × Hq)) : Option ((Nat × Int32 × Int32 × Hq) ⊕ (Int32 × Hq)) := r_X12_morning_4' V st.1 st.2.1 st.2.2.1 st.2.2.2
set_option maxHeartbeats 4000000 in
set_option maxRecDepth 100000 in
theorem w_X12_morning_4 {p : Program} {l : Launch} {e : Env} {R : Room} {s : State} {m : MethodId} {args : Array Value} {below : List Frame} {meth : Method} {c : Code} {D : va_G} {cA : Nat → ClassId} {sk : (Nat → Nat) × (Nat → Nat)} {ad : Nat → Nat} {A : Nat → Prop} {V : Vk} (cx : CallFix p m c cX12_morning 3 s args gw_tbl RX12) (fx : Fx D cA sk A s) (hlocks : meth.locks = false) (hret : meth.sig.returnType = (some .int)) (hR : 0 ≤ R.frames ∧ 0 ≤ R.locals) (r0 : Int32) (g0 : Hq) (y : (Int32 × Hq)) (hq : ∀ (rb : Int32) (gb : Hq), y = (rb, gb) → rb = r0 ∧ gb = g0) : ∀ (n : Nat) (k1 : Nat) (x2 : Int32) (x3 : Int32) (g4 : Hq), itr (r_X12_morning_4 V) n (k1, x2, x3, g4) = some y → ∀ (H : Heap) (locs : List Loc) (ls : Array Slot), Dy D cA ad (V, g4) A s.heap H locs → lv_has ls 3 [(0, .ref (ad k1)), (1, .int x2), (2, .int x3)] → W p l e R s m args below meth c H locs 0 0 (MQ below (QI D cA ad A r0 (V, g0)) args s 0 0 A) (F0 m 4 ls []) := by
  intro n
  induction n with
  | zero => intro k1 x2 x3 g4 hr; cases hr
  | succ n ih =>
    intro k1 x2 x3 g4 hr H locs ls dy hl
    obtain ⟨z, hz, hn1, hn2⟩ := itr_succ hr
    clear hr
    have hr : r_X12_morning_4' V k1 x2 x3 g4 = some z := hz
    clear hz
    unfold r_X12_morning_4' at hr
    have hh0 : ∀ (b0 : Nat) (b1 : Int32) (b2 : Int32) (gb : Hq), z = .inl (b0, b1, b2, gb) → ∀ (H : Heap) (locs : List Loc) (ls : Array Slot), Dy D cA ad (V, gb) A s.heap H locs → lv_has ls 3 [(0, .ref (ad b0)), (1, .int b1), (2, .int b2)] → W p l e R s m args below meth c H locs 0 0 (MQ below (QI D cA ad A r0 (V, g0)) args s 0 0 A) (F0 m 4 ls []) := fun b0 b1 b2 gb eb => ih b0 b1 b2 gb (hn1 _ eb)
    have hq0 : ∀ (rb : Int32) (gb : Hq), z = (.inr (rb, gb)) → rb = r0 ∧ gb = g0 := fun rb gb eb => hq rb gb (hn2 _ eb).symm
    refine lv_iload_n cx.1 cx.2.1 dX12_morning_4 rfl (lv_at hl 2 rfl) ?_
    refine lv_aload_n cx.1 cx.2.1 dX12_morning_5 rfl (lv_at hl 0 rfl) ?_
    obtain ⟨hv5, hr⟩ := of_grd hr
    refine h_getI cx fx dy fd_12_46 hv5 tb_1032 dX12_morning_6 ?_
    rcases of_brn hr with ⟨hc, hr⟩ | ⟨hc, hr⟩
    · refine lv_icmp_ge (tgt := 40) cx.1 cx.2.1 dX12_morning_9 (by decide) (fun _ => ?_) (fun hn => absurd hc hn)
      refine lv_iload_n cx.1 cx.2.1 dX12_morning_40 rfl (lv_at hl 1 rfl) ?_
      obtain ⟨e0, e1⟩ := hq0 _ _ (Option.some.inj hr).symm
      exact h_iret cx dy hlocks hret rfl e0 (by rw [e1]) dX12_morning_41
    · refine lv_icmp_ge (tgt := 40) cx.1 cx.2.1 dX12_morning_9 (by decide) (fun hn => absurd hn hc) (fun _ => ?_)
      refine lv_aload_n cx.1 cx.2.1 dX12_morning_12 rfl (lv_at hl 0 rfl) ?_
      obtain ⟨k6, hf7, hr⟩ := of_bnd hr
      refine h_getR cx fx dy fd_12_50 hv5 tb_1036 hf7 dX12_morning_13 ?_
      refine lv_iload_n cx.1 cx.2.1 dX12_morning_16 rfl (lv_at hl 2 rfl) ?_
      obtain ⟨ha8, hr⟩ := of_grd hr
      refine h_iald cx fx dy ha8 dX12_morning_17 ?_
      rcases of_brn hr with ⟨hc, hr⟩ | ⟨hc, hr⟩
      · refine lv_if_eq (tgt := 24) cx.1 cx.2.1 dX12_morning_18 (by decide) (fun _ => ?_) (fun hn => absurd hc hn)
        refine lv_aload_n cx.1 cx.2.1 dX12_morning_24 rfl (lv_at hl 0 rfl) ?_
        obtain ⟨k9, hf10, hr⟩ := of_bnd hr
        refine h_getR cx fx dy fd_12_50 hv5 tb_1036 hf10 dX12_morning_25 ?_
        refine lv_iload_n cx.1 cx.2.1 dX12_morning_28 rfl (lv_at hl 2 rfl) ?_
        refine lv_iconst (v := 3) cx.1 cx.2.1 dX12_morning_29 (by decide) ?_
        obtain ⟨ha11, hr⟩ := of_grd hr
        obtain ⟨g12, eg12, hr⟩ := of_nm hr
        refine h_iast cx fx dy ha11 dX12_morning_30 (fun H locs dy => ?_)
        replace dy : Dy D cA ad (V, g12) A s.heap H locs := by rw [eg12]; exact dy
        obtain ⟨x13, ex13, hr⟩ := of_nm hr
        refine lv_iinc (v := x13) (lv' := [(1, .int x13), (0, .ref (ad k1)), (2, .int x3)]) cx.1 cx.2.1 dX12_morning_31 hl (k := 1) rfl (by rw [ex13]; rfl) (by decide) rfl (fun ls hl => ?_)
        obtain ⟨x14, ex14, hr⟩ := of_nm hr
        refine lv_iinc (v := x14) (lv' := [(2, .int x14), (1, .int x13), (0, .ref (ad k1))]) cx.1 cx.2.1 dX12_morning_34 hl (k := 2) rfl (by rw [ex14]; rfl) (by decide) rfl (fun ls hl => ?_)
        refine lv_goto (tgt := 4) cx.1 cx.2.1 dX12_morning_37 (by decide) ?_
        exact hh0 k1 x13 x14 g12 (Option.some.inj hr).symm H locs ls dy (lv_sub hl [2, 1, 0] rfl)
      · refine lv_if_eq (tgt := 24) cx.1 cx.2.1 dX12_morning_18 (by decide) (fun hn => absurd hn hc) (fun _ => ?_)
        refine lv_goto (tgt := 34) cx.1 cx.2.1 dX12_morning_21 (by decide) ?_
        obtain ⟨x15, ex15, hr⟩ := of_nm hr
        refine lv_iinc (v := x15) (lv' := [(2, .int x15), (0, .ref (ad k1)), (1, .int x2)]) cx.1 cx.2.1 dX12_morning_34 hl (k := 2) rfl (by rw [ex15]; rfl) (by decide) rfl (fun ls hl => ?_)
        refine lv_goto (tgt := 4) cx.1 cx.2.1 dX12_morning_37 (by decide) ?_
        exact hh0 k1 x2 x15 g4 (Option.some.inj hr).symm H locs ls dy (lv_sub hl [1, 2, 0] rfl)
noncomputable def r_X12_morning (V : Vk) (k0 : Nat) (g : Hq) : Option (Int32 × Hq) :=
  (lop (r_X12_morning_4 V) (k0, (0 : Int32), (0 : Int32), g))
set_option maxHeartbeats 4000000 in
set_option maxRecDepth 100000 in
theorem c_X12_morning {l : Launch} {D : va_G} {cA : Nat → ClassId} {sk : (Nat → Nat) × (Nat → Nat)} {ad : Nat → Nat} {A : Nat → Prop} {V : Vk} {k0 : Nat} {g g0 : Hq} {r0 : Int32} (hr : r_X12_morning V k0 g = some (r0, g0)) : Met l yX12_morning (wM yX12_morning cX12_morning 3 (some .int)) { frames := 0, cells := 0, slots := 0, locals := 0 } (Pre D cA sk ad (V, g) A [.ref (ad k0)]) (QI D cA ad A r0 (V, g0)) 0 0 A := by
  refine Met.ofW (cc := cX12_morning) (maxL := 3) (ret := (some .int)) (by decide) rfl ?_
  intro p e s m args below meth c s₁ B hml hv
  obtain ⟨rfl, fx, w0⟩ := hv
  have hts := atoms_spec (ws := wM yX12_morning cX12_morning 3 (some .int)) B.pre
  have cx : CallFix p m c cX12_morning 3 s ([.ref (ad k0)] : List Value).toArray gw_tbl RX12 := ⟨B.exec, B.bytes, hml, findClass_of_methodNamed B.named, fun w hw => hts w (List.mem_cons_of_mem _ hw)⟩
  have hlocks := B.notSynchronized
  have hret := B.returns
  have hR : 0 ≤ (headSpec (wM yX12_morning cX12_morning 3 (some .int)) { frames := 0, cells := 0, slots := 0, locals := 0 }).room.frames ∧ 0 ≤ (headSpec (wM yX12_morning cX12_morning 3 (some .int)) { frames := 0, cells := 0, slots := 0, locals := 0 }).room.locals := ⟨Nat.le_refl _, Nat.le_refl _⟩
  have dy : Dy D cA ad (V, g) A s.heap s.heap [] := ⟨w0, va_S.rf⟩
  have hl := lv_entry [.ref (ad k0)] (n := 3) (Nat.le_of_ble_eq_true rfl)
  rw [lg_entry_eq]
  generalize (lg_sl [.ref (ad k0)] ++ List.replicate (3 - (lg_sl [.ref (ad k0)]).length) Slot.unset).toArray = ls at hl ⊢
  have hl : lv_has ls 3 [(0, .ref (ad k0))] := hl
  have dy0 : ∃ H0, H0 = s.heap ∧ Dy D cA ad (V, g) A s.heap H0 [] := ⟨_, rfl, dy⟩
  obtain ⟨z, ez⟩ : ∃ z, z = (r0, g0) := ⟨_, rfl⟩
  rw [← ez] at hr
  have hq0 : ∀ (rb : Int32) (gb : Hq), z = (rb, gb) → rb = r0 ∧ gb = g0 := fun rb gb eb => by rw [ez] at eb; exact ⟨(congrArg Prod.fst eb).symm, (congrArg Prod.snd eb).symm⟩
  clear ez w0 dy0
  unfold r_X12_morning at hr
  obtain ⟨H, hH⟩ : ∃ H, H = s.heap := ⟨_, rfl⟩
  obtain ⟨locs, hlo⟩ : ∃ q : List Loc, q = [] := ⟨_, rfl⟩
  have dy : Dy D cA ad (V, g) A s.heap H locs := by rw [hH, hlo]; exact dy
  suffices K : W p l e (headSpec (wM yX12_morning cX12_morning 3 (some .int)) { frames := 0, cells := 0, slots := 0, locals := 0 }).room s m ([.ref (ad k0)] : List Value).toArray below meth c H locs 0 0 (MQ below (QI D cA ad A r0 (V, g0)) ([.ref (ad k0)] : List Value).toArray s 0 0 A) (F0 m 0 ls []) by rw [hH, hlo] at K; exact K
  clear hH hlo
  refine lv_iconst (v := 0) cx.1 cx.2.1 dX12_morning_0 (by decide) ?_
  refine lv_istore_n (lv' := [(1, .int (0 : Int32)), (0, .ref (ad k0))]) cx.1 cx.2.1 dX12_morning_1 rfl hl (by decide) rfl (fun ls hl => ?_)
  refine lv_iconst (v := 0) cx.1 cx.2.1 dX12_morning_2 (by decide) ?_
  refine lv_istore_n (lv' := [(2, .int (0 : Int32)), (1, .int (0 : Int32)), (0, .ref (ad k0))]) cx.1 cx.2.1 dX12_morning_3 rfl hl (by decide) rfl (fun ls hl => ?_)
  obtain ⟨n, hr⟩ := lop_some hr
  exact w_X12_morning_4 cx fx hlocks hret hR r0 g0 z hq0 n k0 (0 : Int32) (0 : Int32) g hr H locs ls dy (lv_sub hl [2, 1, 0] rfl)
noncomputable def r_X12_flee_118' (V : Vk) (k20 : Nat) (x21 : Int32) (x22 : Int32) (x23 : Int32) (x24 : Int32) (x25 : Int32) (x26 : Int32) (x27 : Int32) (g28 : Hq) : Option ((Nat × Int32 × Int32 × Int32 × Int32 × Int32 × Int32 × Int32 × Hq) ⊕ (Int32 × Hq)) :=
  brn (x27 = 0) (grd (V k20 = some (12, 0)) <| nm (sI g28 k20 52 x25) fun g30 => Option.bind (g30.2.2 k20 0) fun k31 => grd (okV V k31 1 x26) <| nm (sI g30 k20 53 ((g30.1 k31 x26.toNatClampNeg) - (65 : Int32))) fun g34 => some (.inr ((x26 + (1 : Int32)), g34))) (brn (x22 ≤ (x26 + (1 : Int32))) (grd (V k20 = some (12, 0)) <| nm (sI g28 k20 52 x25) fun g36 => Option.bind (g36.2.2 k20 0) fun k37 => grd (okV V k37 1 x26) <| nm (sI g36 k20 53 ((g36.1 k37 x26.toNatClampNeg) - (65 : Int32))) fun g40 => some (.inr ((x26 + (1 : Int32)), g40))) (grd (V k20 = some (12, 0)) <| Option.bind (g28.2.2 k20 0) fun k42 => grd (okV V k42 1 (x26 + (1 : Int32))) <| nm ((g28.1 k42 (x26 + (1 : Int32)).toNatClampNeg) - (65 : Int32)) fun x45 => Option.bind (g28.2.2 k20 12) fun k46 => Option.bind (g28.2.2 k20 0) fun k48 => grd (okV V k48 1 x26) <| grd (okV V k46 0 (((12 : Int32) * ((g28.1 k48 x26.toNatClampNeg) - (65 : Int32))) + x45)) <| nm (g28.1 k46 (((12 : Int32) * ((g28.1 k48 x26.toNatClampNeg) - (65 : Int32))) + x45).toNatClampNeg) fun x52 => nm (x24 + x52) fun x53 => Option.bind (g28.2.2 k20 10) fun k54 => grd (okV V k54 0 x45) <| nm ((8 : Int32) * (g28.1 k54 x45.toNatClampNeg)) fun x57 => Option.bind (g28.2.2 k20 10) fun k58 => grd (okV V k58 0 x45) <| brn ((g28.1 k58 x45.toNatClampNeg) = x23) (nm (x26 + (1 : Int32)) fun x61 => nm (x25 + x52) fun x62 => Option.bind (g28.2.2 k20 10) fun k63 => grd (okV V k63 0 x45) <| brn ((g28.1 k63 x45.toNatClampNeg) = x23) (some (.inl (k20, x21, x22, x23, (0 : Int32), x62, x61, (1 : Int32), g28))) (some (.inl (k20, x21, x22, x23, x53, x62, x61, (1 : Int32), g28)))) (Option.bind (g28.2.2 k20 29) fun k66 => grd (okV V k66 0 (x57 + (5 : Int32))) <| brn ((g28.1 k66 (x57 + (5 : Int32)).toNatClampNeg) < x53) (some (.inl (k20, x21, x22, x23, x24, x25, x26, (0 : Int32), g28))) (Option.bind (g28.2.2 k20 29) fun k69 => grd (okV V k69 0 (x57 + (6 : Int32))) <| brn ((g28.1 k69 (x57 + (6 : Int32)).toNatClampNeg) = 0) (nm (x26 + (1 : Int32)) fun x72 => nm (x25 + x52) fun x73 => Option.bind (g28.2.2 k20 10) fun k74 => grd (okV V k74 0 x45) <| brn ((g28.1 k74 x45.toNatClampNeg) = x23) (some (.inl (k20, x21, x22, x23, (0 : Int32), x73, x72, (1 : Int32), g28))) (some (.inl (k20, x21, x22, x23, x53, x73, x72, (1 : Int32), g28)))) (brn (x21 = 0) (some (.inl (k20, x21, x22, x23, x24, x25, x26, (0 : Int32), g28))) (nm (x26 + (1 : Int32)) fun x77 => nm (x25 + x52) fun x78 => Option.bind (g28.2.2 k20 10) fun k79 => grd (okV V k79 0 x45) <| brn ((g28.1 k79 x45.toNatClampNeg) = x23) (some (.inl (k20, x21, x22, x23, (0 : Int32), x78, x77, (1 : Int32), g28))) (some (.inl (k20, x21, x22, x23, x53, x78, x77, (1 : Int32), g28)))))))))
noncomputable def r_X12_flee_118 (V : Vk) (st : (Nat × Int32 × Int32 × Int32 × Int32 × Int32 × Int32 × Int32 × Hq)) : Option ((Nat × Int32 × Int32 × Int32 × Int32 × Int32 × Int32 × Int32 × Hq) ⊕ (Int32 × Hq)) := r_X12_flee_118' V st.1 st.2.1 st.2.2.1 st.2.2.2.1 st.2.2.2.2.1 st.2.2.2.2.2.1 st.2.2.2.2.2.2.1 st.2.2.2.2.2.2.2.1 st.2.2.2.2.2.2.2.2
set_option maxHeartbeats 4000000 in
set_option maxRecDepth 100000 in
theorem w_X12_flee_118 {p : Program} {l : Launch} {e : Env} {R : Room} {s : State} {m : MethodId} {args : Array Value} {below : List Frame} {meth : Method} {c : Code} {D : va_G} {cA : Nat → ClassId} {sk : (Nat → Nat) × (Nat → Nat)} {ad : Nat → Nat} {A : Nat → Prop} {V : Vk} (cx : CallFix p m c cX12_flee 12 s args gw_tbl RX12) (fx : Fx D cA sk A s) (hlocks : meth.locks = false) (hret : meth.sig.returnType = (some .int)) (hR : 2 ≤ R.frames ∧ 42 ≤ R.locals) (r0 : Int32) (g0 : Hq) (y : (Int32 × Hq)) (hq : ∀ (rb : Int32) (gb : Hq), y = (rb, gb) → rb = r0 ∧ gb = g0) : ∀ (n : Nat) (k20 : Nat) (x21 : Int32) (x22 : Int32) (x23 : Int32) (x24 : Int32) (x25 : Int32) (x26 : Int32) (x27 : Int32) (g28 : Hq), itr (r_X12_flee_118 V) n (k20, x21, x22, x23, x24, x25, x26, x27, g28) = some y → ∀ (H : Heap) (locs : List Loc) (ls : Array Slot), Dy D cA ad (V, g28) A s.heap H locs → lv_has ls 12 [(0, .ref (ad k20)), (1, .int x21), (2, .int x22), (3, .int x23), (4, .int x24), (5, .int x25), (6, .int x26), (7, .int x27)] → W p l e R s m args below meth c H locs 0 0 (MQ below (QI D cA ad A r0 (V, g0)) args s 0 0 A) (F0 m 118 ls []) := by
  intro n
  induction n with
  | zero => intro k20 x21 x22 x23 x24 x25 x26 x27 g28 hr; cases hr
  | succ n ih =>
    intro k20 x21 x22 x23 x24 x25 x26 x27 g28 hr H locs ls dy hl
    obtain ⟨z, hz, hn1, hn2⟩ := itr_succ hr
    clear hr
    have hr : r_X12_flee_118' V k20 x21 x22 x23 x24 x25 x26 x27 g28 = some z := hz
    clear hz
    unfold r_X12_flee_118' at hr
    have hh0 : ∀ (b0 : Nat) (b1 : Int32) (b2 : Int32) (b3 : Int32) (b4 : Int32) (b5 : Int32) (b6 : Int32) (b7 : Int32) (gb : Hq), z = .inl (b0, b1, b2, b3, b4, b5, b6, b7, gb) → ∀ (H : Heap) (locs : List Loc) (ls : Array Slot), Dy D cA ad (V, gb) A s.heap H locs → lv_has ls 12 [(0, .ref (ad b0)), (1, .int b1), (2, .int b2), (3, .int b3), (4, .int b4), (5, .int b5), (6, .int b6), (7, .int b7)] → W p l e R s m args below meth c H locs 0 0 (MQ below (QI D cA ad A r0 (V, g0)) args s 0 0 A) (F0 m 118 ls []) := fun b0 b1 b2 b3 b4 b5 b6 b7 gb eb => ih b0 b1 b2 b3 b4 b5 b6 b7 gb (hn1 _ eb)
    have hq0 : ∀ (rb : Int32) (gb : Hq), z = (.inr (rb, gb)) → rb = r0 ∧ gb = g0 := fun rb gb eb => hq rb gb (hn2 _ eb).symm
    refine lv_iload cx.1 cx.2.1 dX12_flee_118 (lv_at hl 7 rfl) ?_
    rcases of_brn hr with ⟨hc, hr⟩ | ⟨hc, hr⟩
    · refine lv_if_eq (tgt := 276) cx.1 cx.2.1 dX12_flee_120 (by decide) (fun _ => ?_) (fun hn => absurd hc hn)
      refine lv_aload_n cx.1 cx.2.1 dX12_flee_276 rfl (lv_at hl 0 rfl) ?_
      refine lv_iload cx.1 cx.2.1 dX12_flee_277 (lv_at hl 5 rfl) ?_
      obtain ⟨hv29, hr⟩ := of_grd hr
      obtain ⟨g30, eg30, hr⟩ := of_nm hr
      refine h_putI cx fx dy fd_12_52 (pd_12_52 : PD _ _ _ _ _ .int) rfl rfl rfl hv29 tb_1038 dX12_flee_279 (fun H locs dy => ?_)
      replace dy : Dy D cA ad (V, g30) A s.heap H locs := by rw [eg30]; exact dy
      refine lv_aload_n cx.1 cx.2.1 dX12_flee_282 rfl (lv_at hl 0 rfl) ?_
      refine lv_aload_n cx.1 cx.2.1 dX12_flee_283 rfl (lv_at hl 0 rfl) ?_
      obtain ⟨k31, hf32, hr⟩ := of_bnd hr
      refine h_getR cx fx dy fd_12_0 hv29 tb_986 hf32 dX12_flee_284 ?_
      refine lv_iload cx.1 cx.2.1 dX12_flee_287 (lv_at hl 6 rfl) ?_
      obtain ⟨ha33, hr⟩ := of_grd hr
      refine h_bald cx fx dy ha33 dX12_flee_289 ?_
      refine lv_bipush (v := 65) cx.1 cx.2.1 dX12_flee_290 (by decide) ?_
      refine lv_isub cx.1 cx.2.1 dX12_flee_292 ?_
      obtain ⟨g34, eg34, hr⟩ := of_nm hr
      refine h_putI cx fx dy fd_12_53 (pd_12_53 : PD _ _ _ _ _ .int) rfl rfl rfl hv29 tb_1039 dX12_flee_293 (fun H locs dy => ?_)
      replace dy : Dy D cA ad (V, g34) A s.heap H locs := by rw [eg34]; exact dy
      refine lv_iload cx.1 cx.2.1 dX12_flee_296 (lv_at hl 6 rfl) ?_
      refine lv_iconst (v := 1) cx.1 cx.2.1 dX12_flee_298 (by decide) ?_
      refine lv_iadd cx.1 cx.2.1 dX12_flee_299 ?_
      obtain ⟨e0, e1⟩ := hq0 _ _ (Option.some.inj hr).symm
      exact h_iret cx dy hlocks hret rfl e0 (by rw [e1]) dX12_flee_300
    · refine lv_if_eq (tgt := 276) cx.1 cx.2.1 dX12_flee_120 (by decide) (fun hn => absurd hn hc) (fun _ => ?_)
      refine lv_iload cx.1 cx.2.1 dX12_flee_123 (lv_at hl 6 rfl) ?_
      refine lv_iconst (v := 1) cx.1 cx.2.1 dX12_flee_125 (by decide) ?_
      refine lv_iadd cx.1 cx.2.1 dX12_flee_126 ?_
      refine lv_iload_n cx.1 cx.2.1 dX12_flee_127 rfl (lv_at hl 2 rfl) ?_
      rcases of_brn hr with ⟨hc, hr⟩ | ⟨hc, hr⟩
      · refine lv_icmp_ge (tgt := 276) cx.1 cx.2.1 dX12_flee_128 (by decide) (fun _ => ?_) (fun hn => absurd hc hn)
        refine lv_aload_n cx.1 cx.2.1 dX12_flee_276 rfl (lv_at hl 0 rfl) ?_
        refine lv_iload cx.1 cx.2.1 dX12_flee_277 (lv_at hl 5 rfl) ?_
        obtain ⟨hv35, hr⟩ := of_grd hr
        obtain ⟨g36, eg36, hr⟩ := of_nm hr
        refine h_putI cx fx dy fd_12_52 (pd_12_52 : PD _ _ _ _ _ .int) rfl rfl rfl hv35 tb_1038 dX12_flee_279 (fun H locs dy => ?_)
        replace dy : Dy D cA ad (V, g36) A s.heap H locs := by rw [eg36]; exact dy
        refine lv_aload_n cx.1 cx.2.1 dX12_flee_282 rfl (lv_at hl 0 rfl) ?_
        refine lv_aload_n cx.1 cx.2.1 dX12_flee_283 rfl (lv_at hl 0 rfl) ?_
        obtain ⟨k37, hf38, hr⟩ := of_bnd hr
        refine h_getR cx fx dy fd_12_0 hv35 tb_986 hf38 dX12_flee_284 ?_
        refine lv_iload cx.1 cx.2.1 dX12_flee_287 (lv_at hl 6 rfl) ?_
        obtain ⟨ha39, hr⟩ := of_grd hr
        refine h_bald cx fx dy ha39 dX12_flee_289 ?_
        refine lv_bipush (v := 65) cx.1 cx.2.1 dX12_flee_290 (by decide) ?_
        refine lv_isub cx.1 cx.2.1 dX12_flee_292 ?_
        obtain ⟨g40, eg40, hr⟩ := of_nm hr
        refine h_putI cx fx dy fd_12_53 (pd_12_53 : PD _ _ _ _ _ .int) rfl rfl rfl hv35 tb_1039 dX12_flee_293 (fun H locs dy => ?_)
        replace dy : Dy D cA ad (V, g40) A s.heap H locs := by rw [eg40]; exact dy
        refine lv_iload cx.1 cx.2.1 dX12_flee_296 (lv_at hl 6 rfl) ?_
        refine lv_iconst (v := 1) cx.1 cx.2.1 dX12_flee_298 (by decide) ?_
        refine lv_iadd cx.1 cx.2.1 dX12_flee_299 ?_
        obtain ⟨e0, e1⟩ := hq0 _ _ (Option.some.inj hr).symm
        exact h_iret cx dy hlocks hret rfl e0 (by rw [e1]) dX12_flee_300
      · refine lv_icmp_ge (tgt := 276) cx.1 cx.2.1 dX12_flee_128 (by decide) (fun hn => absurd hn hc) (fun _ => ?_)
        refine lv_aload_n cx.1 cx.2.1 dX12_flee_131 rfl (lv_at hl 0 rfl) ?_
        obtain ⟨hv41, hr⟩ := of_grd hr
        obtain ⟨k42, hf43, hr⟩ := of_bnd hr
        refine h_getR cx fx dy fd_12_0 hv41 tb_986 hf43 dX12_flee_132 ?_
        refine lv_iload cx.1 cx.2.1 dX12_flee_135 (lv_at hl 6 rfl) ?_
        refine lv_iconst (v := 1) cx.1 cx.2.1 dX12_flee_137 (by decide) ?_
        refine lv_iadd cx.1 cx.2.1 dX12_flee_138 ?_
        obtain ⟨ha44, hr⟩ := of_grd hr
        refine h_bald cx fx dy ha44 dX12_flee_139 ?_
        refine lv_bipush (v := 65) cx.1 cx.2.1 dX12_flee_140 (by decide) ?_
        refine lv_isub cx.1 cx.2.1 dX12_flee_142 ?_
        obtain ⟨x45, ex45, hr⟩ := of_nm hr
        refine lv_nmi ex45 ?_
        refine lv_istore (lv' := [(8, .int x45), (0, .ref (ad k20)), (1, .int x21), (2, .int x22), (3, .int x23), (4, .int x24), (5, .int x25), (6, .int x26), (7, .int x27)]) cx.1 cx.2.1 dX12_flee_143 hl (by decide) rfl (fun ls hl => ?_)
        refine lv_aload_n cx.1 cx.2.1 dX12_flee_145 rfl (lv_at hl 1 rfl) ?_
        obtain ⟨k46, hf47, hr⟩ := of_bnd hr
        refine h_getR cx fx dy fd_12_12 hv41 tb_998 hf47 dX12_flee_146 ?_
        refine lv_bipush (v := 12) cx.1 cx.2.1 dX12_flee_149 (by decide) ?_
        refine lv_aload_n cx.1 cx.2.1 dX12_flee_151 rfl (lv_at hl 1 rfl) ?_
        obtain ⟨k48, hf49, hr⟩ := of_bnd hr
        refine h_getR cx fx dy fd_12_0 hv41 tb_986 hf49 dX12_flee_152 ?_
        refine lv_iload cx.1 cx.2.1 dX12_flee_155 (lv_at hl 7 rfl) ?_
        obtain ⟨ha50, hr⟩ := of_grd hr
        refine h_bald cx fx dy ha50 dX12_flee_157 ?_
        refine lv_bipush (v := 65) cx.1 cx.2.1 dX12_flee_158 (by decide) ?_
        refine lv_isub cx.1 cx.2.1 dX12_flee_160 ?_
        refine lv_imul cx.1 cx.2.1 dX12_flee_161 ?_
        refine lv_iload cx.1 cx.2.1 dX12_flee_162 (lv_at hl 0 rfl) ?_
        refine lv_iadd cx.1 cx.2.1 dX12_flee_164 ?_
        obtain ⟨ha51, hr⟩ := of_grd hr
        refine h_iald cx fx dy ha51 dX12_flee_165 ?_
        obtain ⟨x52, ex52, hr⟩ := of_nm hr
        refine lv_nmi ex52 ?_
        refine lv_istore (lv' := [(9, .int x52), (8, .int x45), (0, .ref (ad k20)), (1, .int x21), (2, .int x22), (3, .int x23), (4, .int x24), (5, .int x25), (6, .int x26), (7, .int x27)]) cx.1 cx.2.1 dX12_flee_166 hl (by decide) rfl (fun ls hl => ?_)
        refine lv_iload cx.1 cx.2.1 dX12_flee_168 (lv_at hl 6 rfl) ?_
        refine lv_iload cx.1 cx.2.1 dX12_flee_170 (lv_at hl 0 rfl) ?_
        refine lv_iadd cx.1 cx.2.1 dX12_flee_172 ?_
        obtain ⟨x53, ex53, hr⟩ := of_nm hr
        refine lv_nmi ex53 ?_
        refine lv_istore (lv' := [(10, .int x53), (9, .int x52), (8, .int x45), (0, .ref (ad k20)), (1, .int x21), (2, .int x22), (3, .int x23), (4, .int x24), (5, .int x25), (6, .int x26), (7, .int x27)]) cx.1 cx.2.1 dX12_flee_173 hl (by decide) rfl (fun ls hl => ?_)
        refine lv_bipush (v := 8) cx.1 cx.2.1 dX12_flee_175 (by decide) ?_
        refine lv_aload_n cx.1 cx.2.1 dX12_flee_177 rfl (lv_at hl 3 rfl) ?_
        obtain ⟨k54, hf55, hr⟩ := of_bnd hr
        refine h_getR cx fx dy fd_12_10 hv41 tb_996 hf55 dX12_flee_178 ?_
        refine lv_iload cx.1 cx.2.1 dX12_flee_181 (lv_at hl 2 rfl) ?_
        obtain ⟨ha56, hr⟩ := of_grd hr
        refine h_iald cx fx dy ha56 dX12_flee_183 ?_
        refine lv_imul cx.1 cx.2.1 dX12_flee_184 ?_
        obtain ⟨x57, ex57, hr⟩ := of_nm hr
        refine lv_nmi ex57 ?_
        refine lv_istore (lv' := [(11, .int x57), (10, .int x53), (9, .int x52), (8, .int x45), (0, .ref (ad k20)), (1, .int x21), (2, .int x22), (3, .int x23), (4, .int x24), (5, .int x25), (6, .int x26), (7, .int x27)]) cx.1 cx.2.1 dX12_flee_185 hl (by decide) rfl (fun ls hl => ?_)
        refine lv_aload_n cx.1 cx.2.1 dX12_flee_187 rfl (lv_at hl 4 rfl) ?_
        obtain ⟨k58, hf59, hr⟩ := of_bnd hr
        refine h_getR cx fx dy fd_12_10 hv41 tb_996 hf59 dX12_flee_188 ?_
        refine lv_iload cx.1 cx.2.1 dX12_flee_191 (lv_at hl 3 rfl) ?_
        obtain ⟨ha60, hr⟩ := of_grd hr
        refine h_iald cx fx dy ha60 dX12_flee_193 ?_
        refine lv_iload_n cx.1 cx.2.1 dX12_flee_194 rfl (lv_at hl 7 rfl) ?_
        rcases of_brn hr with ⟨hc, hr⟩ | ⟨hc, hr⟩
        · refine lv_icmp_eq (tgt := 229) cx.1 cx.2.1 dX12_flee_195 (by decide) (fun _ => ?_) (fun hn => absurd hc hn)
          refine lv_iconst (v := 1) cx.1 cx.2.1 dX12_flee_229 (by decide) ?_
          refine lv_goto (tgt := 234) cx.1 cx.2.1 dX12_flee_230 (by decide) ?_
          refine lv_istore (lv' := [(7, .int (1 : Int32)), (11, .int x57), (10, .int x53), (9, .int x52), (8, .int x45), (0, .ref (ad k20)), (1, .int x21), (2, .int x22), (3, .int x23), (4, .int x24), (5, .int x25), (6, .int x26)]) cx.1 cx.2.1 dX12_flee_234 hl (by decide) rfl (fun ls hl => ?_)
          refine lv_iload cx.1 cx.2.1 dX12_flee_236 (lv_at hl 0 rfl) ?_
          refine lv_if_ne (tgt := 244) cx.1 cx.2.1 dX12_flee_238 (by decide) (fun _ => ?_) (fun hn => absurd hn (by decide))
          obtain ⟨x61, ex61, hr⟩ := of_nm hr
          refine lv_iinc (v := x61) (lv' := [(6, .int x61), (7, .int (1 : Int32)), (11, .int x57), (10, .int x53), (9, .int x52), (8, .int x45), (0, .ref (ad k20)), (1, .int x21), (2, .int x22), (3, .int x23), (4, .int x24), (5, .int x25)]) cx.1 cx.2.1 dX12_flee_244 hl (k := 11) rfl (by rw [ex61]; rfl) (by decide) rfl (fun ls hl => ?_)
          refine lv_iload cx.1 cx.2.1 dX12_flee_247 (lv_at hl 11 rfl) ?_
          refine lv_iload cx.1 cx.2.1 dX12_flee_249 (lv_at hl 4 rfl) ?_
          refine lv_iadd cx.1 cx.2.1 dX12_flee_251 ?_
          obtain ⟨x62, ex62, hr⟩ := of_nm hr
          refine lv_nmi ex62 ?_
          refine lv_istore (lv' := [(5, .int x62), (6, .int x61), (7, .int (1 : Int32)), (11, .int x57), (10, .int x53), (9, .int x52), (8, .int x45), (0, .ref (ad k20)), (1, .int x21), (2, .int x22), (3, .int x23), (4, .int x24)]) cx.1 cx.2.1 dX12_flee_252 hl (by decide) rfl (fun ls hl => ?_)
          refine lv_aload_n cx.1 cx.2.1 dX12_flee_254 rfl (lv_at hl 7 rfl) ?_
          obtain ⟨k63, hf64, hr⟩ := of_bnd hr
          refine h_getR cx fx dy fd_12_10 hv41 tb_996 hf64 dX12_flee_255 ?_
          refine lv_iload cx.1 cx.2.1 dX12_flee_258 (lv_at hl 6 rfl) ?_
          obtain ⟨ha65, hr⟩ := of_grd hr
          refine h_iald cx fx dy ha65 dX12_flee_260 ?_
          refine lv_iload_n cx.1 cx.2.1 dX12_flee_261 rfl (lv_at hl 10 rfl) ?_
          rcases of_brn hr with ⟨hc, hr⟩ | ⟨hc, hr⟩
          · refine lv_icmp_ne (tgt := 269) cx.1 cx.2.1 dX12_flee_262 (by decide) (fun hn => absurd hc hn) (fun _ => ?_)
            refine lv_iconst (v := 0) cx.1 cx.2.1 dX12_flee_265 (by decide) ?_
            refine lv_goto (tgt := 271) cx.1 cx.2.1 dX12_flee_266 (by decide) ?_
            refine lv_istore (lv' := [(4, .int (0 : Int32)), (5, .int x62), (6, .int x61), (7, .int (1 : Int32)), (11, .int x57), (10, .int x53), (9, .int x52), (8, .int x45), (0, .ref (ad k20)), (1, .int x21), (2, .int x22), (3, .int x23)]) cx.1 cx.2.1 dX12_flee_271 hl (by decide) rfl (fun ls hl => ?_)
            refine lv_goto (tgt := 118) cx.1 cx.2.1 dX12_flee_273 (by decide) ?_
            exact hh0 k20 x21 x22 x23 (0 : Int32) x62 x61 (1 : Int32) g28 (Option.some.inj hr).symm H locs ls dy (lv_sub hl [8, 9, 10, 11, 0, 1, 2, 3] rfl)
          · refine lv_icmp_ne (tgt := 269) cx.1 cx.2.1 dX12_flee_262 (by decide) (fun _ => ?_) (fun hn => absurd hn hc)
            refine lv_iload cx.1 cx.2.1 dX12_flee_269 (lv_at hl 4 rfl) ?_
            refine lv_istore (lv' := [(4, .int x53), (5, .int x62), (6, .int x61), (7, .int (1 : Int32)), (11, .int x57), (10, .int x53), (9, .int x52), (8, .int x45), (0, .ref (ad k20)), (1, .int x21), (2, .int x22), (3, .int x23)]) cx.1 cx.2.1 dX12_flee_271 hl (by decide) rfl (fun ls hl => ?_)
            refine lv_goto (tgt := 118) cx.1 cx.2.1 dX12_flee_273 (by decide) ?_
            exact hh0 k20 x21 x22 x23 x53 x62 x61 (1 : Int32) g28 (Option.some.inj hr).symm H locs ls dy (lv_sub hl [8, 9, 10, 11, 0, 1, 2, 3] rfl)
        · refine lv_icmp_eq (tgt := 229) cx.1 cx.2.1 dX12_flee_195 (by decide) (fun hn => absurd hn hc) (fun _ => ?_)
          refine lv_aload_n cx.1 cx.2.1 dX12_flee_198 rfl (lv_at hl 4 rfl) ?_
          obtain ⟨k66, hf67, hr⟩ := of_bnd hr
          refine h_getR cx fx dy fd_12_29 hv41 tb_1015 hf67 dX12_flee_199 ?_
          refine lv_iload cx.1 cx.2.1 dX12_flee_202 (lv_at hl 0 rfl) ?_
          refine lv_iconst (v := 5) cx.1 cx.2.1 dX12_flee_204 (by decide) ?_
          refine lv_iadd cx.1 cx.2.1 dX12_flee_205 ?_
          obtain ⟨ha68, hr⟩ := of_grd hr
          refine h_iald cx fx dy ha68 dX12_flee_206 ?_
          refine lv_iload cx.1 cx.2.1 dX12_flee_207 (lv_at hl 1 rfl) ?_
          rcases of_brn hr with ⟨hc, hr⟩ | ⟨hc, hr⟩
          · refine lv_icmp_lt (tgt := 233) cx.1 cx.2.1 dX12_flee_209 (by decide) (fun _ => ?_) (fun hn => absurd hc hn)
            refine lv_iconst (v := 0) cx.1 cx.2.1 dX12_flee_233 (by decide) ?_
            refine lv_istore (lv' := [(7, .int (0 : Int32)), (11, .int x57), (10, .int x53), (9, .int x52), (8, .int x45), (0, .ref (ad k20)), (1, .int x21), (2, .int x22), (3, .int x23), (4, .int x24), (5, .int x25), (6, .int x26)]) cx.1 cx.2.1 dX12_flee_234 hl (by decide) rfl (fun ls hl => ?_)
            refine lv_iload cx.1 cx.2.1 dX12_flee_236 (lv_at hl 0 rfl) ?_
            refine lv_if_ne (tgt := 244) cx.1 cx.2.1 dX12_flee_238 (by decide) (fun hn => absurd hn (by decide)) (fun _ => ?_)
            refine lv_goto (tgt := 118) cx.1 cx.2.1 dX12_flee_241 (by decide) ?_
            exact hh0 k20 x21 x22 x23 x24 x25 x26 (0 : Int32) g28 (Option.some.inj hr).symm H locs ls dy (lv_sub hl [5, 6, 7, 8, 9, 10, 11, 0] rfl)
          · refine lv_icmp_lt (tgt := 233) cx.1 cx.2.1 dX12_flee_209 (by decide) (fun hn => absurd hn hc) (fun _ => ?_)
            refine lv_aload_n cx.1 cx.2.1 dX12_flee_212 rfl (lv_at hl 4 rfl) ?_
            obtain ⟨k69, hf70, hr⟩ := of_bnd hr
            refine h_getR cx fx dy fd_12_29 hv41 tb_1015 hf70 dX12_flee_213 ?_
            refine lv_iload cx.1 cx.2.1 dX12_flee_216 (lv_at hl 0 rfl) ?_
            refine lv_bipush (v := 6) cx.1 cx.2.1 dX12_flee_218 (by decide) ?_
            refine lv_iadd cx.1 cx.2.1 dX12_flee_220 ?_
            obtain ⟨ha71, hr⟩ := of_grd hr
            refine h_iald cx fx dy ha71 dX12_flee_221 ?_
            rcases of_brn hr with ⟨hc, hr⟩ | ⟨hc, hr⟩
            · refine lv_if_eq (tgt := 229) cx.1 cx.2.1 dX12_flee_222 (by decide) (fun _ => ?_) (fun hn => absurd hc hn)
              refine lv_iconst (v := 1) cx.1 cx.2.1 dX12_flee_229 (by decide) ?_
              refine lv_goto (tgt := 234) cx.1 cx.2.1 dX12_flee_230 (by decide) ?_
              refine lv_istore (lv' := [(7, .int (1 : Int32)), (11, .int x57), (10, .int x53), (9, .int x52), (8, .int x45), (0, .ref (ad k20)), (1, .int x21), (2, .int x22), (3, .int x23), (4, .int x24), (5, .int x25), (6, .int x26)]) cx.1 cx.2.1 dX12_flee_234 hl (by decide) rfl (fun ls hl => ?_)
              refine lv_iload cx.1 cx.2.1 dX12_flee_236 (lv_at hl 0 rfl) ?_
              refine lv_if_ne (tgt := 244) cx.1 cx.2.1 dX12_flee_238 (by decide) (fun _ => ?_) (fun hn => absurd hn (by decide))
              obtain ⟨x72, ex72, hr⟩ := of_nm hr
              refine lv_iinc (v := x72) (lv' := [(6, .int x72), (7, .int (1 : Int32)), (11, .int x57), (10, .int x53), (9, .int x52), (8, .int x45), (0, .ref (ad k20)), (1, .int x21), (2, .int x22), (3, .int x23), (4, .int x24), (5, .int x25)]) cx.1 cx.2.1 dX12_flee_244 hl (k := 11) rfl (by rw [ex72]; rfl) (by decide) rfl (fun ls hl => ?_)
              refine lv_iload cx.1 cx.2.1 dX12_flee_247 (lv_at hl 11 rfl) ?_
              refine lv_iload cx.1 cx.2.1 dX12_flee_249 (lv_at hl 4 rfl) ?_
              refine lv_iadd cx.1 cx.2.1 dX12_flee_251 ?_
              obtain ⟨x73, ex73, hr⟩ := of_nm hr
              refine lv_nmi ex73 ?_
              refine lv_istore (lv' := [(5, .int x73), (6, .int x72), (7, .int (1 : Int32)), (11, .int x57), (10, .int x53), (9, .int x52), (8, .int x45), (0, .ref (ad k20)), (1, .int x21), (2, .int x22), (3, .int x23), (4, .int x24)]) cx.1 cx.2.1 dX12_flee_252 hl (by decide) rfl (fun ls hl => ?_)
              refine lv_aload_n cx.1 cx.2.1 dX12_flee_254 rfl (lv_at hl 7 rfl) ?_
              obtain ⟨k74, hf75, hr⟩ := of_bnd hr
              refine h_getR cx fx dy fd_12_10 hv41 tb_996 hf75 dX12_flee_255 ?_
              refine lv_iload cx.1 cx.2.1 dX12_flee_258 (lv_at hl 6 rfl) ?_
              obtain ⟨ha76, hr⟩ := of_grd hr
              refine h_iald cx fx dy ha76 dX12_flee_260 ?_
              refine lv_iload_n cx.1 cx.2.1 dX12_flee_261 rfl (lv_at hl 10 rfl) ?_
              rcases of_brn hr with ⟨hc, hr⟩ | ⟨hc, hr⟩
              · refine lv_icmp_ne (tgt := 269) cx.1 cx.2.1 dX12_flee_262 (by decide) (fun hn => absurd hc hn) (fun _ => ?_)
                refine lv_iconst (v := 0) cx.1 cx.2.1 dX12_flee_265 (by decide) ?_
                refine lv_goto (tgt := 271) cx.1 cx.2.1 dX12_flee_266 (by decide) ?_
                refine lv_istore (lv' := [(4, .int (0 : Int32)), (5, .int x73), (6, .int x72), (7, .int (1 : Int32)), (11, .int x57), (10, .int x53), (9, .int x52), (8, .int x45), (0, .ref (ad k20)), (1, .int x21), (2, .int x22), (3, .int x23)]) cx.1 cx.2.1 dX12_flee_271 hl (by decide) rfl (fun ls hl => ?_)
                refine lv_goto (tgt := 118) cx.1 cx.2.1 dX12_flee_273 (by decide) ?_
                exact hh0 k20 x21 x22 x23 (0 : Int32) x73 x72 (1 : Int32) g28 (Option.some.inj hr).symm H locs ls dy (lv_sub hl [8, 9, 10, 11, 0, 1, 2, 3] rfl)
              · refine lv_icmp_ne (tgt := 269) cx.1 cx.2.1 dX12_flee_262 (by decide) (fun _ => ?_) (fun hn => absurd hn hc)
                refine lv_iload cx.1 cx.2.1 dX12_flee_269 (lv_at hl 4 rfl) ?_
                refine lv_istore (lv' := [(4, .int x53), (5, .int x73), (6, .int x72), (7, .int (1 : Int32)), (11, .int x57), (10, .int x53), (9, .int x52), (8, .int x45), (0, .ref (ad k20)), (1, .int x21), (2, .int x22), (3, .int x23)]) cx.1 cx.2.1 dX12_flee_271 hl (by decide) rfl (fun ls hl => ?_)
                refine lv_goto (tgt := 118) cx.1 cx.2.1 dX12_flee_273 (by decide) ?_
                exact hh0 k20 x21 x22 x23 x53 x73 x72 (1 : Int32) g28 (Option.some.inj hr).symm H locs ls dy (lv_sub hl [8, 9, 10, 11, 0, 1, 2, 3] rfl)
            · refine lv_if_eq (tgt := 229) cx.1 cx.2.1 dX12_flee_222 (by decide) (fun hn => absurd hn hc) (fun _ => ?_)
              refine lv_iload_n cx.1 cx.2.1 dX12_flee_225 rfl (lv_at hl 5 rfl) ?_
              rcases of_brn hr with ⟨hc, hr⟩ | ⟨hc, hr⟩
              · refine lv_if_eq (tgt := 233) cx.1 cx.2.1 dX12_flee_226 (by decide) (fun _ => ?_) (fun hn => absurd hc hn)
                refine lv_iconst (v := 0) cx.1 cx.2.1 dX12_flee_233 (by decide) ?_
                refine lv_istore (lv' := [(7, .int (0 : Int32)), (11, .int x57), (10, .int x53), (9, .int x52), (8, .int x45), (0, .ref (ad k20)), (1, .int x21), (2, .int x22), (3, .int x23), (4, .int x24), (5, .int x25), (6, .int x26)]) cx.1 cx.2.1 dX12_flee_234 hl (by decide) rfl (fun ls hl => ?_)
                refine lv_iload cx.1 cx.2.1 dX12_flee_236 (lv_at hl 0 rfl) ?_
                refine lv_if_ne (tgt := 244) cx.1 cx.2.1 dX12_flee_238 (by decide) (fun hn => absurd hn (by decide)) (fun _ => ?_)
                refine lv_goto (tgt := 118) cx.1 cx.2.1 dX12_flee_241 (by decide) ?_
                exact hh0 k20 x21 x22 x23 x24 x25 x26 (0 : Int32) g28 (Option.some.inj hr).symm H locs ls dy (lv_sub hl [5, 6, 7, 8, 9, 10, 11, 0] rfl)
              · refine lv_if_eq (tgt := 233) cx.1 cx.2.1 dX12_flee_226 (by decide) (fun hn => absurd hn hc) (fun _ => ?_)
                refine lv_iconst (v := 1) cx.1 cx.2.1 dX12_flee_229 (by decide) ?_
                refine lv_goto (tgt := 234) cx.1 cx.2.1 dX12_flee_230 (by decide) ?_
                refine lv_istore (lv' := [(7, .int (1 : Int32)), (11, .int x57), (10, .int x53), (9, .int x52), (8, .int x45), (0, .ref (ad k20)), (1, .int x21), (2, .int x22), (3, .int x23), (4, .int x24), (5, .int x25), (6, .int x26)]) cx.1 cx.2.1 dX12_flee_234 hl (by decide) rfl (fun ls hl => ?_)
                refine lv_iload cx.1 cx.2.1 dX12_flee_236 (lv_at hl 0 rfl) ?_
                refine lv_if_ne (tgt := 244) cx.1 cx.2.1 dX12_flee_238 (by decide) (fun _ => ?_) (fun hn => absurd hn (by decide))
                obtain ⟨x77, ex77, hr⟩ := of_nm hr
                refine lv_iinc (v := x77) (lv' := [(6, .int x77), (7, .int (1 : Int32)), (11, .int x57), (10, .int x53), (9, .int x52), (8, .int x45), (0, .ref (ad k20)), (1, .int x21), (2, .int x22), (3, .int x23), (4, .int x24), (5, .int x25)]) cx.1 cx.2.1 dX12_flee_244 hl (k := 11) rfl (by rw [ex77]; rfl) (by decide) rfl (fun ls hl => ?_)
                refine lv_iload cx.1 cx.2.1 dX12_flee_247 (lv_at hl 11 rfl) ?_
                refine lv_iload cx.1 cx.2.1 dX12_flee_249 (lv_at hl 4 rfl) ?_
                refine lv_iadd cx.1 cx.2.1 dX12_flee_251 ?_
                obtain ⟨x78, ex78, hr⟩ := of_nm hr
                refine lv_nmi ex78 ?_
                refine lv_istore (lv' := [(5, .int x78), (6, .int x77), (7, .int (1 : Int32)), (11, .int x57), (10, .int x53), (9, .int x52), (8, .int x45), (0, .ref (ad k20)), (1, .int x21), (2, .int x22), (3, .int x23), (4, .int x24)]) cx.1 cx.2.1 dX12_flee_252 hl (by decide) rfl (fun ls hl => ?_)
                refine lv_aload_n cx.1 cx.2.1 dX12_flee_254 rfl (lv_at hl 7 rfl) ?_
                obtain ⟨k79, hf80, hr⟩ := of_bnd hr
                refine h_getR cx fx dy fd_12_10 hv41 tb_996 hf80 dX12_flee_255 ?_
                refine lv_iload cx.1 cx.2.1 dX12_flee_258 (lv_at hl 6 rfl) ?_
                obtain ⟨ha81, hr⟩ := of_grd hr
                refine h_iald cx fx dy ha81 dX12_flee_260 ?_
                refine lv_iload_n cx.1 cx.2.1 dX12_flee_261 rfl (lv_at hl 10 rfl) ?_
                rcases of_brn hr with ⟨hc, hr⟩ | ⟨hc, hr⟩
                · refine lv_icmp_ne (tgt := 269) cx.1 cx.2.1 dX12_flee_262 (by decide) (fun hn => absurd hc hn) (fun _ => ?_)
                  refine lv_iconst (v := 0) cx.1 cx.2.1 dX12_flee_265 (by decide) ?_
                  refine lv_goto (tgt := 271) cx.1 cx.2.1 dX12_flee_266 (by decide) ?_
                  refine lv_istore (lv' := [(4, .int (0 : Int32)), (5, .int x78), (6, .int x77), (7, .int (1 : Int32)), (11, .int x57), (10, .int x53), (9, .int x52), (8, .int x45), (0, .ref (ad k20)), (1, .int x21), (2, .int x22), (3, .int x23)]) cx.1 cx.2.1 dX12_flee_271 hl (by decide) rfl (fun ls hl => ?_)
                  refine lv_goto (tgt := 118) cx.1 cx.2.1 dX12_flee_273 (by decide) ?_
                  exact hh0 k20 x21 x22 x23 (0 : Int32) x78 x77 (1 : Int32) g28 (Option.some.inj hr).symm H locs ls dy (lv_sub hl [8, 9, 10, 11, 0, 1, 2, 3] rfl)
                · refine lv_icmp_ne (tgt := 269) cx.1 cx.2.1 dX12_flee_262 (by decide) (fun _ => ?_) (fun hn => absurd hn hc)
                  refine lv_iload cx.1 cx.2.1 dX12_flee_269 (lv_at hl 4 rfl) ?_
                  refine lv_istore (lv' := [(4, .int x53), (5, .int x78), (6, .int x77), (7, .int (1 : Int32)), (11, .int x57), (10, .int x53), (9, .int x52), (8, .int x45), (0, .ref (ad k20)), (1, .int x21), (2, .int x22), (3, .int x23)]) cx.1 cx.2.1 dX12_flee_271 hl (by decide) rfl (fun ls hl => ?_)
                  refine lv_goto (tgt := 118) cx.1 cx.2.1 dX12_flee_273 (by decide) ?_
                  exact hh0 k20 x21 x22 x23 x53 x78 x77 (1 : Int32) g28 (Option.some.inj hr).symm H locs ls dy (lv_sub hl [8, 9, 10, 11, 0, 1, 2, 3] rfl)
noncomputable def r_X12_flee_24' (V : Vk) (k7 : Nat) (x8 : Int32) (x9 : Int32) (x10 : Int32) (g11 : Hq) : Option ((Nat × Int32 × Int32 × Int32 × Hq) ⊕ (Int32 × Hq)) :=
  brn (x9 ≤ x10) (grd (V k7 = some (12, 0)) <| Option.bind (g11.2.2 k7 10) fun k13 => Option.bind (g11.2.2 k7 0) fun k15 => grd (okV V k15 1 (0 : Int32)) <| grd (okV V k13 0 ((g11.1 k15 (0 : Int32).toNatClampNeg) - (65 : Int32))) <| nm (g11.1 k13 ((g11.1 k15 (0 : Int32).toNatClampNeg) - (65 : Int32)).toNatClampNeg) fun x19 => (Option.map Sum.inr (lop (r_X12_flee_118 V) (k7, x8, x9, x19, (0 : Int32), (0 : Int32), (0 : Int32), (1 : Int32), g11)))) (grd (V k7 = some (12, 0)) <| Option.bind (g11.2.2 k7 0) fun k83 => grd (okV V k83 1 x10) <| bnd (r_X12_isCourt V ((g11.1 k83 x10.toNatClampNeg) - (65 : Int32)) g11) fun x87 g86 => brn (x87 = 0) (some (.inr ((-1 : Int32), g86))) (brn (x10 ≤ 0) (nm (x10 + (1 : Int32)) fun x89 => some (.inl (k7, x8, x9, x89, g86))) (Option.bind (g86.2.2 k7 12) fun k90 => Option.bind (g86.2.2 k7 0) fun k92 => grd (okV V k92 1 (x10 - (1 : Int32))) <| Option.bind (g86.2.2 k7 0) fun k95 => grd (okV V k95 1 x10) <| grd (okV V k90 0 ((((12 : Int32) * ((g86.1 k92 (x10 - (1 : Int32)).toNatClampNeg) - (65 : Int32))) + (g86.1 k95 x10.toNatClampNeg)) - (65 : Int32))) <| brn ((g86.1 k90 ((((12 : Int32) * ((g86.1 k92 (x10 - (1 : Int32)).toNatClampNeg) - (65 : Int32))) + (g86.1 k95 x10.toNatClampNeg)) - (65 : Int32)).toNatClampNeg) = (-1 : Int32)) (some (.inr ((-1 : Int32), g86))) (nm (x10 + (1 : Int32)) fun x99 => some (.inl (k7, x8, x9, x99, g86))))))
noncomputable def r_X12_flee_24 (V : Vk) (st : (Nat × Int32 × Int32 × Int32 × Hq)) : Option ((Nat × Int32 × Int32 × Int32 × Hq) ⊕ (Int32 × Hq)) := r_X12_flee_24' V st.1 st.2.1 st.2.2.1 st.2.2.2.1 st.2.2.2.2
set_option maxHeartbeats 4000000 in
set_option maxRecDepth 100000 in
theorem w_X12_flee_24 {p : Program} {l : Launch} {e : Env} {R : Room} {s : State} {m : MethodId} {args : Array Value} {below : List Frame} {meth : Method} {c : Code} {D : va_G} {cA : Nat → ClassId} {sk : (Nat → Nat) × (Nat → Nat)} {ad : Nat → Nat} {A : Nat → Prop} {V : Vk} (cx : CallFix p m c cX12_flee 12 s args gw_tbl RX12) (fx : Fx D cA sk A s) (hlocks : meth.locks = false) (hret : meth.sig.returnType = (some .int)) (hR : 2 ≤ R.frames ∧ 42 ≤ R.locals) (r0 : Int32) (g0 : Hq) (y : (Int32 × Hq)) (hq : ∀ (rb : Int32) (gb : Hq), y = (rb, gb) → rb = r0 ∧ gb = g0) : ∀ (n : Nat) (k7 : Nat) (x8 : Int32) (x9 : Int32) (x10 : Int32) (g11 : Hq), itr (r_X12_flee_24 V) n (k7, x8, x9, x10, g11) = some y → ∀ (H : Heap) (locs : List Loc) (ls : Array Slot), Dy D cA ad (V, g11) A s.heap H locs → lv_has ls 12 [(0, .ref (ad k7)), (1, .int x8), (2, .int x9), (3, .int x10)] → W p l e R s m args below meth c H locs 0 0 (MQ below (QI D cA ad A r0 (V, g0)) args s 0 0 A) (F0 m 24 ls []) := by
  intro n
  induction n with
  | zero => intro k7 x8 x9 x10 g11 hr; cases hr
  | succ n ih =>
    intro k7 x8 x9 x10 g11 hr H locs ls dy hl
    obtain ⟨z, hz, hn1, hn2⟩ := itr_succ hr
    clear hr
    have hr : r_X12_flee_24' V k7 x8 x9 x10 g11 = some z := hz
    clear hz
    unfold r_X12_flee_24' at hr
    have hh0 : ∀ (b0 : Nat) (b1 : Int32) (b2 : Int32) (b3 : Int32) (gb : Hq), z = .inl (b0, b1, b2, b3, gb) → ∀ (H : Heap) (locs : List Loc) (ls : Array Slot), Dy D cA ad (V, gb) A s.heap H locs → lv_has ls 12 [(0, .ref (ad b0)), (1, .int b1), (2, .int b2), (3, .int b3)] → W p l e R s m args below meth c H locs 0 0 (MQ below (QI D cA ad A r0 (V, g0)) args s 0 0 A) (F0 m 24 ls []) := fun b0 b1 b2 b3 gb eb => ih b0 b1 b2 b3 gb (hn1 _ eb)
    have hq0 : ∀ (rb : Int32) (gb : Hq), z = (.inr (rb, gb)) → rb = r0 ∧ gb = g0 := fun rb gb eb => hq rb gb (hn2 _ eb).symm
    refine lv_iload_n cx.1 cx.2.1 dX12_flee_24 rfl (lv_at hl 3 rfl) ?_
    refine lv_iload_n cx.1 cx.2.1 dX12_flee_25 rfl (lv_at hl 2 rfl) ?_
    rcases of_brn hr with ⟨hc, hr⟩ | ⟨hc, hr⟩
    · refine lv_icmp_ge (tgt := 91) cx.1 cx.2.1 dX12_flee_26 (by decide) (fun _ => ?_) (fun hn => absurd hc hn)
      refine lv_aload_n cx.1 cx.2.1 dX12_flee_91 rfl (lv_at hl 0 rfl) ?_
      obtain ⟨hv12, hr⟩ := of_grd hr
      obtain ⟨k13, hf14, hr⟩ := of_bnd hr
      refine h_getR cx fx dy fd_12_10 hv12 tb_996 hf14 dX12_flee_92 ?_
      refine lv_aload_n cx.1 cx.2.1 dX12_flee_95 rfl (lv_at hl 0 rfl) ?_
      obtain ⟨k15, hf16, hr⟩ := of_bnd hr
      refine h_getR cx fx dy fd_12_0 hv12 tb_986 hf16 dX12_flee_96 ?_
      refine lv_iconst (v := 0) cx.1 cx.2.1 dX12_flee_99 (by decide) ?_
      obtain ⟨ha17, hr⟩ := of_grd hr
      refine h_bald cx fx dy ha17 dX12_flee_100 ?_
      refine lv_bipush (v := 65) cx.1 cx.2.1 dX12_flee_101 (by decide) ?_
      refine lv_isub cx.1 cx.2.1 dX12_flee_103 ?_
      obtain ⟨ha18, hr⟩ := of_grd hr
      refine h_iald cx fx dy ha18 dX12_flee_104 ?_
      obtain ⟨x19, ex19, hr⟩ := of_nm hr
      refine lv_nmi ex19 ?_
      refine lv_istore_n (lv' := [(3, .int x19), (0, .ref (ad k7)), (1, .int x8), (2, .int x9)]) cx.1 cx.2.1 dX12_flee_105 rfl hl (by decide) rfl (fun ls hl => ?_)
      refine lv_iconst (v := 0) cx.1 cx.2.1 dX12_flee_106 (by decide) ?_
      refine lv_istore (lv' := [(4, .int (0 : Int32)), (3, .int x19), (0, .ref (ad k7)), (1, .int x8), (2, .int x9)]) cx.1 cx.2.1 dX12_flee_107 hl (by decide) rfl (fun ls hl => ?_)
      refine lv_iconst (v := 0) cx.1 cx.2.1 dX12_flee_109 (by decide) ?_
      refine lv_istore (lv' := [(5, .int (0 : Int32)), (4, .int (0 : Int32)), (3, .int x19), (0, .ref (ad k7)), (1, .int x8), (2, .int x9)]) cx.1 cx.2.1 dX12_flee_110 hl (by decide) rfl (fun ls hl => ?_)
      refine lv_iconst (v := 0) cx.1 cx.2.1 dX12_flee_112 (by decide) ?_
      refine lv_istore (lv' := [(6, .int (0 : Int32)), (5, .int (0 : Int32)), (4, .int (0 : Int32)), (3, .int x19), (0, .ref (ad k7)), (1, .int x8), (2, .int x9)]) cx.1 cx.2.1 dX12_flee_113 hl (by decide) rfl (fun ls hl => ?_)
      refine lv_iconst (v := 1) cx.1 cx.2.1 dX12_flee_115 (by decide) ?_
      refine lv_istore (lv' := [(7, .int (1 : Int32)), (6, .int (0 : Int32)), (5, .int (0 : Int32)), (4, .int (0 : Int32)), (3, .int x19), (0, .ref (ad k7)), (1, .int x8), (2, .int x9)]) cx.1 cx.2.1 dX12_flee_116 hl (by decide) rfl (fun ls hl => ?_)
      obtain ⟨z1, hr, ez1⟩ := of_map hr
      obtain ⟨n, hr⟩ := lop_some hr
      exact w_X12_flee_118 cx fx hlocks hret hR r0 g0 z1 (fun rb gb eb => hq0 rb gb (by rw [ez1, eb])) n k7 x8 x9 x19 (0 : Int32) (0 : Int32) (0 : Int32) (1 : Int32) g11 hr H locs ls dy (lv_sub hl [5, 6, 7, 4, 3, 2, 1, 0] rfl)
    · refine lv_icmp_ge (tgt := 91) cx.1 cx.2.1 dX12_flee_26 (by decide) (fun hn => absurd hn hc) (fun _ => ?_)
      refine lv_aload_n cx.1 cx.2.1 dX12_flee_29 rfl (lv_at hl 0 rfl) ?_
      obtain ⟨hv82, hr⟩ := of_grd hr
      obtain ⟨k83, hf84, hr⟩ := of_bnd hr
      refine h_getR cx fx dy fd_12_0 hv82 tb_986 hf84 dX12_flee_30 ?_
      refine lv_iload_n cx.1 cx.2.1 dX12_flee_33 rfl (lv_at hl 3 rfl) ?_
      obtain ⟨ha85, hr⟩ := of_grd hr
      refine h_bald cx fx dy ha85 dX12_flee_34 ?_
      refine lv_bipush (v := 65) cx.1 cx.2.1 dX12_flee_35 (by decide) ?_
      refine lv_isub cx.1 cx.2.1 dX12_flee_37 ?_
      obtain ⟨x87, g86, hc88, hr⟩ := of_bnd2 hr
      refine r_i dy (k_S (As := [.int ((g11.1 k83 x10.toNatClampNeg) - (65 : Int32))]) cx fx dy (c_X12_isCourt hc88) mv_X12_isCourt rfl rfl ⟨Nat.le_trans (by decide) hR.1, Nat.le_trans (by decide) hR.2⟩ tb_1167 rfl hl.1 rfl (Nat.le_of_ble_eq_true rfl) ⟨Nat.zero_le _, Nat.zero_le _⟩ dX12_flee_38) (fun H locs dy => ?_)
      rcases of_brn hr with ⟨hc, hr⟩ | ⟨hc, hr⟩
      · refine lv_if_ne (tgt := 46) cx.1 cx.2.1 dX12_flee_41 (by decide) (fun hn => absurd hc hn) (fun _ => ?_)
        refine lv_iconst (v := (-1)) cx.1 cx.2.1 dX12_flee_44 (by decide) ?_
        obtain ⟨e0, e1⟩ := hq0 _ _ (Option.some.inj hr).symm
        exact h_iret cx dy hlocks hret rfl e0 (by rw [e1]) dX12_flee_45
      · refine lv_if_ne (tgt := 46) cx.1 cx.2.1 dX12_flee_41 (by decide) (fun _ => ?_) (fun hn => absurd hn hc)
        refine lv_iload_n cx.1 cx.2.1 dX12_flee_46 rfl (lv_at hl 3 rfl) ?_
        rcases of_brn hr with ⟨hc, hr⟩ | ⟨hc, hr⟩
        · refine lv_if_le (tgt := 85) cx.1 cx.2.1 dX12_flee_47 (by decide) (fun _ => ?_) (fun hn => absurd hc hn)
          obtain ⟨x89, ex89, hr⟩ := of_nm hr
          refine lv_iinc (v := x89) (lv' := [(3, .int x89), (0, .ref (ad k7)), (1, .int x8), (2, .int x9)]) cx.1 cx.2.1 dX12_flee_85 hl (k := 3) rfl (by rw [ex89]; rfl) (by decide) rfl (fun ls hl => ?_)
          refine lv_goto (tgt := 24) cx.1 cx.2.1 dX12_flee_88 (by decide) ?_
          exact hh0 k7 x8 x9 x89 g86 (Option.some.inj hr).symm H locs ls dy (lv_sub hl [1, 2, 3, 0] rfl)
        · refine lv_if_le (tgt := 85) cx.1 cx.2.1 dX12_flee_47 (by decide) (fun hn => absurd hn hc) (fun _ => ?_)
          refine lv_aload_n cx.1 cx.2.1 dX12_flee_50 rfl (lv_at hl 0 rfl) ?_
          obtain ⟨k90, hf91, hr⟩ := of_bnd hr
          refine h_getR cx fx dy fd_12_12 hv82 tb_998 hf91 dX12_flee_51 ?_
          refine lv_bipush (v := 12) cx.1 cx.2.1 dX12_flee_54 (by decide) ?_
          refine lv_aload_n cx.1 cx.2.1 dX12_flee_56 rfl (lv_at hl 0 rfl) ?_
          obtain ⟨k92, hf93, hr⟩ := of_bnd hr
          refine h_getR cx fx dy fd_12_0 hv82 tb_986 hf93 dX12_flee_57 ?_
          refine lv_iload_n cx.1 cx.2.1 dX12_flee_60 rfl (lv_at hl 3 rfl) ?_
          refine lv_iconst (v := 1) cx.1 cx.2.1 dX12_flee_61 (by decide) ?_
          refine lv_isub cx.1 cx.2.1 dX12_flee_62 ?_
          obtain ⟨ha94, hr⟩ := of_grd hr
          refine h_bald cx fx dy ha94 dX12_flee_63 ?_
          refine lv_bipush (v := 65) cx.1 cx.2.1 dX12_flee_64 (by decide) ?_
          refine lv_isub cx.1 cx.2.1 dX12_flee_66 ?_
          refine lv_imul cx.1 cx.2.1 dX12_flee_67 ?_
          refine lv_aload_n cx.1 cx.2.1 dX12_flee_68 rfl (lv_at hl 0 rfl) ?_
          obtain ⟨k95, hf96, hr⟩ := of_bnd hr
          refine h_getR cx fx dy fd_12_0 hv82 tb_986 hf96 dX12_flee_69 ?_
          refine lv_iload_n cx.1 cx.2.1 dX12_flee_72 rfl (lv_at hl 3 rfl) ?_
          obtain ⟨ha97, hr⟩ := of_grd hr
          refine h_bald cx fx dy ha97 dX12_flee_73 ?_
          refine lv_iadd cx.1 cx.2.1 dX12_flee_74 ?_
          refine lv_bipush (v := 65) cx.1 cx.2.1 dX12_flee_75 (by decide) ?_
          refine lv_isub cx.1 cx.2.1 dX12_flee_77 ?_
          obtain ⟨ha98, hr⟩ := of_grd hr
          refine h_iald cx fx dy ha98 dX12_flee_78 ?_
          refine lv_iconst (v := (-1)) cx.1 cx.2.1 dX12_flee_79 (by decide) ?_
          rcases of_brn hr with ⟨hc, hr⟩ | ⟨hc, hr⟩
          · refine lv_icmp_ne (tgt := 85) cx.1 cx.2.1 dX12_flee_80 (by decide) (fun hn => absurd hc hn) (fun _ => ?_)
            refine lv_iconst (v := (-1)) cx.1 cx.2.1 dX12_flee_83 (by decide) ?_
            obtain ⟨e0, e1⟩ := hq0 _ _ (Option.some.inj hr).symm
            exact h_iret cx dy hlocks hret rfl e0 (by rw [e1]) dX12_flee_84
          · refine lv_icmp_ne (tgt := 85) cx.1 cx.2.1 dX12_flee_80 (by decide) (fun _ => ?_) (fun hn => absurd hn hc)
            obtain ⟨x99, ex99, hr⟩ := of_nm hr
            refine lv_iinc (v := x99) (lv' := [(3, .int x99), (0, .ref (ad k7)), (1, .int x8), (2, .int x9)]) cx.1 cx.2.1 dX12_flee_85 hl (k := 3) rfl (by rw [ex99]; rfl) (by decide) rfl (fun ls hl => ?_)
            refine lv_goto (tgt := 24) cx.1 cx.2.1 dX12_flee_88 (by decide) ?_
            exact hh0 k7 x8 x9 x99 g86 (Option.some.inj hr).symm H locs ls dy (lv_sub hl [1, 2, 3, 0] rfl)
noncomputable def r_X12_flee (V : Vk) (k0 : Nat) (a1 : Int32) (g : Hq) : Option (Int32 × Hq) :=
  grd (V k0 = some (12, 0)) <| nm (g.1 k0 1) fun x2 => nm (sI g k0 1 (0 : Int32)) fun g3 => bnd (r_X12_in V x2 (2 : Int32) (10 : Int32) g3) fun x5 g4 => brn (x5 = 0) (some ((-1 : Int32), g4)) ((lop (r_X12_flee_24 V) (k0, a1, x2, (0 : Int32), g4)))
set_option maxHeartbeats 4000000 in
set_option maxRecDepth 100000 in
theorem c_X12_flee {l : Launch} {D : va_G} {cA : Nat → ClassId} {sk : (Nat → Nat) × (Nat → Nat)} {ad : Nat → Nat} {A : Nat → Prop} {V : Vk} {k0 : Nat} {a1 : Int32} {g g0 : Hq} {r0 : Int32} (hr : r_X12_flee V k0 a1 g = some (r0, g0)) : Met l yX12_flee (wM yX12_flee cX12_flee 12 (some .int)) { frames := 2, cells := 0, slots := 0, locals := 42 } (Pre D cA sk ad (V, g) A [.ref (ad k0), .int a1]) (QI D cA ad A r0 (V, g0)) 0 0 A := by
  refine Met.ofW (cc := cX12_flee) (maxL := 12) (ret := (some .int)) (by decide) rfl ?_
  intro p e s m args below meth c s₁ B hml hv
  obtain ⟨rfl, fx, w0⟩ := hv
  have hts := atoms_spec (ws := wM yX12_flee cX12_flee 12 (some .int)) B.pre
  have cx : CallFix p m c cX12_flee 12 s ([.ref (ad k0), .int a1] : List Value).toArray gw_tbl RX12 := ⟨B.exec, B.bytes, hml, findClass_of_methodNamed B.named, fun w hw => hts w (List.mem_cons_of_mem _ hw)⟩
  have hlocks := B.notSynchronized
  have hret := B.returns
  have hR : 2 ≤ (headSpec (wM yX12_flee cX12_flee 12 (some .int)) { frames := 2, cells := 0, slots := 0, locals := 42 }).room.frames ∧ 42 ≤ (headSpec (wM yX12_flee cX12_flee 12 (some .int)) { frames := 2, cells := 0, slots := 0, locals := 42 }).room.locals := ⟨Nat.le_refl _, Nat.le_refl _⟩
  have dy : Dy D cA ad (V, g) A s.heap s.heap [] := ⟨w0, va_S.rf⟩
  have hl := lv_entry [.ref (ad k0), .int a1] (n := 12) (Nat.le_of_ble_eq_true rfl)
  rw [lg_entry_eq]
  generalize (lg_sl [.ref (ad k0), .int a1] ++ List.replicate (12 - (lg_sl [.ref (ad k0), .int a1]).length) Slot.unset).toArray = ls at hl ⊢
  have hl : lv_has ls 12 [(0, .ref (ad k0)), (1, .int a1)] := hl
  have dy0 : ∃ H0, H0 = s.heap ∧ Dy D cA ad (V, g) A s.heap H0 [] := ⟨_, rfl, dy⟩
  obtain ⟨z, ez⟩ : ∃ z, z = (r0, g0) := ⟨_, rfl⟩
  rw [← ez] at hr
  have hq0 : ∀ (rb : Int32) (gb : Hq), z = (rb, gb) → rb = r0 ∧ gb = g0 := fun rb gb eb => by rw [ez] at eb; exact ⟨(congrArg Prod.fst eb).symm, (congrArg Prod.snd eb).symm⟩
  clear ez w0 dy0
  unfold r_X12_flee at hr
  obtain ⟨H, hH⟩ : ∃ H, H = s.heap := ⟨_, rfl⟩
  obtain ⟨locs, hlo⟩ : ∃ q : List Loc, q = [] := ⟨_, rfl⟩
  have dy : Dy D cA ad (V, g) A s.heap H locs := by rw [hH, hlo]; exact dy
  suffices K : W p l e (headSpec (wM yX12_flee cX12_flee 12 (some .int)) { frames := 2, cells := 0, slots := 0, locals := 42 }).room s m ([.ref (ad k0), .int a1] : List Value).toArray below meth c H locs 0 0 (MQ below (QI D cA ad A r0 (V, g0)) ([.ref (ad k0), .int a1] : List Value).toArray s 0 0 A) (F0 m 0 ls []) by rw [hH, hlo] at K; exact K
  clear hH hlo
  refine lv_aload_n cx.1 cx.2.1 dX12_flee_0 rfl (lv_at hl 0 rfl) ?_
  obtain ⟨hv1, hr⟩ := of_grd hr
  refine h_getI cx fx dy fd_12_1 hv1 tb_987 dX12_flee_1 ?_
  obtain ⟨x2, ex2, hr⟩ := of_nm hr
  refine lv_nmi ex2 ?_
  refine lv_istore_n (lv' := [(2, .int x2), (0, .ref (ad k0)), (1, .int a1)]) cx.1 cx.2.1 dX12_flee_4 rfl hl (by decide) rfl (fun ls hl => ?_)
  refine lv_aload_n cx.1 cx.2.1 dX12_flee_5 rfl (lv_at hl 1 rfl) ?_
  refine lv_iconst (v := 0) cx.1 cx.2.1 dX12_flee_6 (by decide) ?_
  obtain ⟨g3, eg3, hr⟩ := of_nm hr
  refine h_putI cx fx dy fd_12_1 (pd_12_1 : PD _ _ _ _ _ .int) rfl rfl rfl hv1 tb_987 dX12_flee_7 (fun H locs dy => ?_)
  replace dy : Dy D cA ad (V, g3) A s.heap H locs := by rw [eg3]; exact dy
  refine lv_iload_n cx.1 cx.2.1 dX12_flee_10 rfl (lv_at hl 0 rfl) ?_
  refine lv_iconst (v := 2) cx.1 cx.2.1 dX12_flee_11 (by decide) ?_
  refine lv_bipush (v := 10) cx.1 cx.2.1 dX12_flee_12 (by decide) ?_
  obtain ⟨x5, g4, hc6, hr⟩ := of_bnd2 hr
  refine r_i dy (k_S (As := [.int x2, .int (2 : Int32), .int (10 : Int32)]) cx fx dy (c_X12_in hc6) mv_X12_in rfl rfl ⟨Nat.le_trans (by decide) hR.1, Nat.le_trans (by decide) hR.2⟩ tb_1170 rfl hl.1 rfl (Nat.le_of_ble_eq_true rfl) ⟨Nat.zero_le _, Nat.zero_le _⟩ dX12_flee_14) (fun H locs dy => ?_)
  rcases of_brn hr with ⟨hc, hr⟩ | ⟨hc, hr⟩
  · refine lv_if_ne (tgt := 22) cx.1 cx.2.1 dX12_flee_17 (by decide) (fun hn => absurd hc hn) (fun _ => ?_)
    refine lv_iconst (v := (-1)) cx.1 cx.2.1 dX12_flee_20 (by decide) ?_
    obtain ⟨e0, e1⟩ := hq0 _ _ (Option.some.inj hr).symm
    exact h_iret cx dy hlocks hret rfl e0 (by rw [e1]) dX12_flee_21
  · refine lv_if_ne (tgt := 22) cx.1 cx.2.1 dX12_flee_17 (by decide) (fun _ => ?_) (fun hn => absurd hn hc)
    refine lv_iconst (v := 0) cx.1 cx.2.1 dX12_flee_22 (by decide) ?_
    refine lv_istore_n (lv' := [(3, .int (0 : Int32)), (2, .int x2), (0, .ref (ad k0)), (1, .int a1)]) cx.1 cx.2.1 dX12_flee_23 rfl hl (by decide) rfl (fun ls hl => ?_)
    obtain ⟨n, hr⟩ := lop_some hr
    exact w_X12_flee_24 cx fx hlocks hret hR r0 g0 z hq0 n k0 a1 x2 (0 : Int32) g4 hr H locs ls dy (lv_sub hl [2, 3, 1, 0] rfl)
noncomputable def r_X12_fled (V : Vk) (k0 : Nat) (a1 : Int32) (g : Hq) : Option (Int32 × Hq) :=
  brn (a1 = 0) (grd (V k0 = some (12, 0)) <| some ((g.1 k0 52), g)) (brn (a1 = (1 : Int32)) (grd (V k0 = some (12, 0)) <| some ((g.1 k0 53), g)) (some ((-9 : Int32), g)))
set_option maxHeartbeats 4000000 in
set_option maxRecDepth 100000 in
theorem c_X12_fled {l : Launch} {D : va_G} {cA : Nat → ClassId} {sk : (Nat → Nat) × (Nat → Nat)} {ad : Nat → Nat} {A : Nat → Prop} {V : Vk} {k0 : Nat} {a1 : Int32} {g g0 : Hq} {r0 : Int32} (hr : r_X12_fled V k0 a1 g = some (r0, g0)) : Met l yX12_fled (wM yX12_fled cX12_fled 2 (some .int)) { frames := 0, cells := 0, slots := 0, locals := 0 } (Pre D cA sk ad (V, g) A [.ref (ad k0), .int a1]) (QI D cA ad A r0 (V, g0)) 0 0 A := by
  refine Met.ofW (cc := cX12_fled) (maxL := 2) (ret := (some .int)) (by decide) rfl ?_
  intro p e s m args below meth c s₁ B hml hv
  obtain ⟨rfl, fx, w0⟩ := hv
  have hts := atoms_spec (ws := wM yX12_fled cX12_fled 2 (some .int)) B.pre
  have cx : CallFix p m c cX12_fled 2 s ([.ref (ad k0), .int a1] : List Value).toArray gw_tbl RX12 := ⟨B.exec, B.bytes, hml, findClass_of_methodNamed B.named, fun w hw => hts w (List.mem_cons_of_mem _ hw)⟩
  have hlocks := B.notSynchronized
  have hret := B.returns
  have hR : 0 ≤ (headSpec (wM yX12_fled cX12_fled 2 (some .int)) { frames := 0, cells := 0, slots := 0, locals := 0 }).room.frames ∧ 0 ≤ (headSpec (wM yX12_fled cX12_fled 2 (some .int)) { frames := 0, cells := 0, slots := 0, locals := 0 }).room.locals := ⟨Nat.le_refl _, Nat.le_refl _⟩
  have dy : Dy D cA ad (V, g) A s.heap s.heap [] := ⟨w0, va_S.rf⟩
  have hl := lv_entry [.ref (ad k0), .int a1] (n := 2) (Nat.le_of_ble_eq_true rfl)
  rw [lg_entry_eq]
  generalize (lg_sl [.ref (ad k0), .int a1] ++ List.replicate (2 - (lg_sl [.ref (ad k0), .int a1]).length) Slot.unset).toArray = ls at hl ⊢
  have hl : lv_has ls 2 [(0, .ref (ad k0)), (1, .int a1)] := hl
  have dy0 : ∃ H0, H0 = s.heap ∧ Dy D cA ad (V, g) A s.heap H0 [] := ⟨_, rfl, dy⟩
  obtain ⟨z, ez⟩ : ∃ z, z = (r0, g0) := ⟨_, rfl⟩
  rw [← ez] at hr
  have hq0 : ∀ (rb : Int32) (gb : Hq), z = (rb, gb) → rb = r0 ∧ gb = g0 := fun rb gb eb => by rw [ez] at eb; exact ⟨(congrArg Prod.fst eb).symm, (congrArg Prod.snd eb).symm⟩
  clear ez w0 dy0
  unfold r_X12_fled at hr
  obtain ⟨H, hH⟩ : ∃ H, H = s.heap := ⟨_, rfl⟩
  obtain ⟨locs, hlo⟩ : ∃ q : List Loc, q = [] := ⟨_, rfl⟩
  have dy : Dy D cA ad (V, g) A s.heap H locs := by rw [hH, hlo]; exact dy
  suffices K : W p l e (headSpec (wM yX12_fled cX12_fled 2 (some .int)) { frames := 0, cells := 0, slots := 0, locals := 0 }).room s m ([.ref (ad k0), .int a1] : List Value).toArray below meth c H locs 0 0 (MQ below (QI D cA ad A r0 (V, g0)) ([.ref (ad k0), .int a1] : List Value).toArray s 0 0 A) (F0 m 0 ls []) by rw [hH, hlo] at K; exact K
  clear hH hlo
  refine lv_iload_n cx.1 cx.2.1 dX12_fled_0 rfl (lv_at hl 1 rfl) ?_
  rcases of_brn hr with ⟨hc, hr⟩ | ⟨hc, hr⟩
  · refine lv_if_ne (tgt := 11) cx.1 cx.2.1 dX12_fled_1 (by decide) (fun hn => absurd hc hn) (fun _ => ?_)
    refine lv_aload_n cx.1 cx.2.1 dX12_fled_4 rfl (lv_at hl 0 rfl) ?_
    obtain ⟨hv1, hr⟩ := of_grd hr
    refine h_getI cx fx dy fd_12_52 hv1 tb_1038 dX12_fled_5 ?_
    refine lv_goto (tgt := 25) cx.1 cx.2.1 dX12_fled_8 (by decide) ?_
    obtain ⟨e0, e1⟩ := hq0 _ _ (Option.some.inj hr).symm
    exact h_iret cx dy hlocks hret rfl e0 (by rw [e1]) dX12_fled_25
  · refine lv_if_ne (tgt := 11) cx.1 cx.2.1 dX12_fled_1 (by decide) (fun _ => ?_) (fun hn => absurd hn hc)
    refine lv_iload_n cx.1 cx.2.1 dX12_fled_11 rfl (lv_at hl 1 rfl) ?_
    refine lv_iconst (v := 1) cx.1 cx.2.1 dX12_fled_12 (by decide) ?_
    rcases of_brn hr with ⟨hc, hr⟩ | ⟨hc, hr⟩
    · refine lv_icmp_ne (tgt := 23) cx.1 cx.2.1 dX12_fled_13 (by decide) (fun hn => absurd hc hn) (fun _ => ?_)
      refine lv_aload_n cx.1 cx.2.1 dX12_fled_16 rfl (lv_at hl 0 rfl) ?_
      obtain ⟨hv2, hr⟩ := of_grd hr
      refine h_getI cx fx dy fd_12_53 hv2 tb_1039 dX12_fled_17 ?_
      refine lv_goto (tgt := 25) cx.1 cx.2.1 dX12_fled_20 (by decide) ?_
      obtain ⟨e0, e1⟩ := hq0 _ _ (Option.some.inj hr).symm
      exact h_iret cx dy hlocks hret rfl e0 (by rw [e1]) dX12_fled_25
    · refine lv_icmp_ne (tgt := 23) cx.1 cx.2.1 dX12_fled_13 (by decide) (fun _ => ?_) (fun hn => absurd hn hc)
      refine lv_bipush (v := (-9)) cx.1 cx.2.1 dX12_fled_23 (by decide) ?_
      obtain ⟨e0, e1⟩ := hq0 _ _ (Option.some.inj hr).symm
      exact h_iret cx dy hlocks hret rfl e0 (by rw [e1]) dX12_fled_25
noncomputable def r_X12_chosen_33' (V : Vk) (k17 : Nat) (x18 : Int32) (x19 : Int32) (x20 : Int32) (x21 : Int32) (g22 : Hq) : Option ((Nat × Int32 × Int32 × Int32 × Int32 × Hq) ⊕ ((Nat × Int32 × Int32 × Int32 × Hq) ⊕ (Int64 × Hq))) :=
  brn (x20 < x21) (nm (x20 + (1 : Int32)) fun x23 => some (.inr (.inl (k17, x18, x19, x23, g22)))) (grd (V k17 = some (12, 0)) <| Option.bind (g22.2.2 k17 54) fun k25 => Option.bind (g22.2.2 k17 54) fun k27 => grd (okV V k27 3 ((((61 : Int32) * (x20 - (1 : Int32))) + x21) - (1 : Int32))) <| brn (x20 ≤ x21) (grd (okV V k25 3 (((61 : Int32) * x20) + x21)) <| nm (sL g22 k25 (((61 : Int32) * x20) + x21).toNatClampNeg ((g22.2.1 k27 ((((61 : Int32) * (x20 - (1 : Int32))) + x21) - (1 : Int32)).toNatClampNeg) + (0 : Int64))) fun g31 => nm (x21 + (1 : Int32)) fun x32 => some (.inl (k17, x18, x19, x20, x32, g31))) (Option.bind (g22.2.2 k17 54) fun k33 => grd (okV V k33 3 (((61 : Int32) * (x20 - (1 : Int32))) + x21)) <| grd (okV V k25 3 (((61 : Int32) * x20) + x21)) <| nm (sL g22 k25 (((61 : Int32) * x20) + x21).toNatClampNeg ((g22.2.1 k27 ((((61 : Int32) * (x20 - (1 : Int32))) + x21) - (1 : Int32)).toNatClampNeg) + (g22.2.1 k33 (((61 : Int32) * (x20 - (1 : Int32))) + x21).toNatClampNeg))) fun g37 => nm (x21 + (1 : Int32)) fun x38 => some (.inl (k17, x18, x19, x20, x38, g37))))
noncomputable def r_X12_chosen_33 (V : Vk) (st : (Nat × Int32 × Int32 × Int32 × Int32 × Hq)) : Option ((Nat × Int32 × Int32 × Int32 × Int32 × Hq) ⊕ ((Nat × Int32 × Int32 × Int32 × Hq) ⊕ (Int64 × Hq))) := r_X12_chosen_33' V st.1 st.2.1 st.2.2.1 st.2.2.2.1 st.2.2.2.2.1 st.2.2.2.2.2
set_option maxHeartbeats 4000000 in
set_option maxRecDepth 100000 in
theorem w_X12_chosen_33 {p : Program} {l : Launch} {e : Env} {R : Room} {s : State} {m : MethodId} {args : Array Value} {below : List Frame} {meth : Method} {c : Code} {D : va_G} {cA : Nat → ClassId} {sk : (Nat → Nat) × (Nat → Nat)} {ad : Nat → Nat} {A : Nat → Prop} {V : Vk} (cx : CallFix p m c cX12_chosen 5 s args gw_tbl RX12) (fx : Fx D cA sk A s) (hlocks : meth.locks = false) (hret : meth.sig.returnType = (some .long)) (hR : 0 ≤ R.frames ∧ 0 ≤ R.locals) (r0 : Int64) (g0 : Hq) (y : ((Nat × Int32 × Int32 × Int32 × Hq) ⊕ (Int64 × Hq))) (hk0 : ∀ (b0 : Nat) (b1 : Int32) (b2 : Int32) (b3 : Int32) (gb : Hq), y = (.inl (b0, b1, b2, b3, gb)) → ∀ (H : Heap) (locs : List Loc) (ls : Array Slot), Dy D cA ad (V, gb) A s.heap H locs → lv_has ls 5 [(0, .ref (ad b0)), (1, .int b1), (2, .int b2), (3, .int b3)] → W p l e R s m args below meth c H locs 0 0 (MQ below (QL D cA ad A r0 (V, g0)) args s 0 0 A) (F0 m 14 ls [])) (hq : ∀ (rb : Int64) (gb : Hq), y = (.inr (rb, gb)) → rb = r0 ∧ gb = g0) : ∀ (n : Nat) (k17 : Nat) (x18 : Int32) (x19 : Int32) (x20 : Int32) (x21 : Int32) (g22 : Hq), itr (r_X12_chosen_33 V) n (k17, x18, x19, x20, x21, g22) = some y → ∀ (H : Heap) (locs : List Loc) (ls : Array Slot), Dy D cA ad (V, g22) A s.heap H locs → lv_has ls 5 [(0, .ref (ad k17)), (1, .int x18), (2, .int x19), (3, .int x20), (4, .int x21)] → W p l e R s m args below meth c H locs 0 0 (MQ below (QL D cA ad A r0 (V, g0)) args s 0 0 A) (F0 m 33 ls []) := by
  intro n
  induction n with
  | zero => intro k17 x18 x19 x20 x21 g22 hr; cases hr
  | succ n ih =>
    intro k17 x18 x19 x20 x21 g22 hr H locs ls dy hl
    obtain ⟨z, hz, hn1, hn2⟩ := itr_succ hr
    clear hr
    have hr : r_X12_chosen_33' V k17 x18 x19 x20 x21 g22 = some z := hz
    clear hz
    unfold r_X12_chosen_33' at hr
    have hh0 : ∀ (b0 : Nat) (b1 : Int32) (b2 : Int32) (b3 : Int32) (b4 : Int32) (gb : Hq), z = .inl (b0, b1, b2, b3, b4, gb) → ∀ (H : Heap) (locs : List Loc) (ls : Array Slot), Dy D cA ad (V, gb) A s.heap H locs → lv_has ls 5 [(0, .ref (ad b0)), (1, .int b1), (2, .int b2), (3, .int b3), (4, .int b4)] → W p l e R s m args below meth c H locs 0 0 (MQ below (QL D cA ad A r0 (V, g0)) args s 0 0 A) (F0 m 33 ls []) := fun b0 b1 b2 b3 b4 gb eb => ih b0 b1 b2 b3 b4 gb (hn1 _ eb)
    have hh1 : ∀ (b0 : Nat) (b1 : Int32) (b2 : Int32) (b3 : Int32) (gb : Hq), z = (.inr (.inl (b0, b1, b2, b3, gb))) → ∀ (H : Heap) (locs : List Loc) (ls : Array Slot), Dy D cA ad (V, gb) A s.heap H locs → lv_has ls 5 [(0, .ref (ad b0)), (1, .int b1), (2, .int b2), (3, .int b3)] → W p l e R s m args below meth c H locs 0 0 (MQ below (QL D cA ad A r0 (V, g0)) args s 0 0 A) (F0 m 14 ls []) := fun b0 b1 b2 b3 gb eb => hk0 b0 b1 b2 b3 gb (hn2 _ eb).symm
    have hq0 : ∀ (rb : Int64) (gb : Hq), z = (.inr (.inr (rb, gb))) → rb = r0 ∧ gb = g0 := fun rb gb eb => hq rb gb (hn2 _ eb).symm
    refine lv_iload cx.1 cx.2.1 dX12_chosen_33 (lv_at hl 4 rfl) ?_
    refine lv_iload_n cx.1 cx.2.1 dX12_chosen_35 rfl (lv_at hl 3 rfl) ?_
    rcases of_brn hr with ⟨hc, hr⟩ | ⟨hc, hr⟩
    · refine lv_icmp_gt (tgt := 98) cx.1 cx.2.1 dX12_chosen_36 (by decide) (fun _ => ?_) (fun hn => absurd hc hn)
      obtain ⟨x23, ex23, hr⟩ := of_nm hr
      refine lv_iinc (v := x23) (lv' := [(3, .int x23), (0, .ref (ad k17)), (1, .int x18), (2, .int x19), (4, .int x21)]) cx.1 cx.2.1 dX12_chosen_98 hl (k := 3) rfl (by rw [ex23]; rfl) (by decide) rfl (fun ls hl => ?_)
      refine lv_goto (tgt := 14) cx.1 cx.2.1 dX12_chosen_101 (by decide) ?_
      exact hh1 k17 x18 x19 x23 g22 (Option.some.inj hr).symm H locs ls dy (lv_sub hl [1, 2, 3, 0] rfl)
    · refine lv_icmp_gt (tgt := 98) cx.1 cx.2.1 dX12_chosen_36 (by decide) (fun hn => absurd hn hc) (fun _ => ?_)
      refine lv_aload_n cx.1 cx.2.1 dX12_chosen_39 rfl (lv_at hl 0 rfl) ?_
      obtain ⟨hv24, hr⟩ := of_grd hr
      obtain ⟨k25, hf26, hr⟩ := of_bnd hr
      refine h_getR cx fx dy fd_12_54 hv24 tb_1040 hf26 dX12_chosen_40 ?_
      refine lv_bipush (v := 61) cx.1 cx.2.1 dX12_chosen_43 (by decide) ?_
      refine lv_iload_n cx.1 cx.2.1 dX12_chosen_45 rfl (lv_at hl 3 rfl) ?_
      refine lv_imul cx.1 cx.2.1 dX12_chosen_46 ?_
      refine lv_iload cx.1 cx.2.1 dX12_chosen_47 (lv_at hl 4 rfl) ?_
      refine lv_iadd cx.1 cx.2.1 dX12_chosen_49 ?_
      refine lv_aload_n cx.1 cx.2.1 dX12_chosen_50 rfl (lv_at hl 0 rfl) ?_
      obtain ⟨k27, hf28, hr⟩ := of_bnd hr
      refine h_getR cx fx dy fd_12_54 hv24 tb_1040 hf28 dX12_chosen_51 ?_
      refine lv_bipush (v := 61) cx.1 cx.2.1 dX12_chosen_54 (by decide) ?_
      refine lv_iload_n cx.1 cx.2.1 dX12_chosen_56 rfl (lv_at hl 3 rfl) ?_
      refine lv_iconst (v := 1) cx.1 cx.2.1 dX12_chosen_57 (by decide) ?_
      refine lv_isub cx.1 cx.2.1 dX12_chosen_58 ?_
      refine lv_imul cx.1 cx.2.1 dX12_chosen_59 ?_
      refine lv_iload cx.1 cx.2.1 dX12_chosen_60 (lv_at hl 4 rfl) ?_
      refine lv_iadd cx.1 cx.2.1 dX12_chosen_62 ?_
      refine lv_iconst (v := 1) cx.1 cx.2.1 dX12_chosen_63 (by decide) ?_
      refine lv_isub cx.1 cx.2.1 dX12_chosen_64 ?_
      obtain ⟨ha29, hr⟩ := of_grd hr
      refine h_lald cx fx dy ha29 dX12_chosen_65 ?_
      refine lv_iload cx.1 cx.2.1 dX12_chosen_66 (lv_at hl 4 rfl) ?_
      refine lv_iload_n cx.1 cx.2.1 dX12_chosen_68 rfl (lv_at hl 3 rfl) ?_
      rcases of_brn hr with ⟨hc, hr⟩ | ⟨hc, hr⟩
      · refine lv_icmp_ge (tgt := 89) cx.1 cx.2.1 dX12_chosen_69 (by decide) (fun _ => ?_) (fun hn => absurd hc hn)
        refine lv_lconst (v := 0) cx.1 cx.2.1 dX12_chosen_89 (by decide) ?_
        refine lv_ladd cx.1 cx.2.1 dX12_chosen_90 ?_
        obtain ⟨ha30, hr⟩ := of_grd hr
        obtain ⟨g31, eg31, hr⟩ := of_nm hr
        refine h_last cx fx dy ha30 dX12_chosen_91 (fun H locs dy => ?_)
        replace dy : Dy D cA ad (V, g31) A s.heap H locs := by rw [eg31]; exact dy
        obtain ⟨x32, ex32, hr⟩ := of_nm hr
        refine lv_iinc (v := x32) (lv' := [(4, .int x32), (0, .ref (ad k17)), (1, .int x18), (2, .int x19), (3, .int x20)]) cx.1 cx.2.1 dX12_chosen_92 hl (k := 4) rfl (by rw [ex32]; rfl) (by decide) rfl (fun ls hl => ?_)
        refine lv_goto (tgt := 33) cx.1 cx.2.1 dX12_chosen_95 (by decide) ?_
        exact hh0 k17 x18 x19 x20 x32 g31 (Option.some.inj hr).symm H locs ls dy (lv_sub hl [1, 2, 3, 4, 0] rfl)
      · refine lv_icmp_ge (tgt := 89) cx.1 cx.2.1 dX12_chosen_69 (by decide) (fun hn => absurd hn hc) (fun _ => ?_)
        refine lv_aload_n cx.1 cx.2.1 dX12_chosen_72 rfl (lv_at hl 0 rfl) ?_
        obtain ⟨k33, hf34, hr⟩ := of_bnd hr
        refine h_getR cx fx dy fd_12_54 hv24 tb_1040 hf34 dX12_chosen_73 ?_
        refine lv_bipush (v := 61) cx.1 cx.2.1 dX12_chosen_76 (by decide) ?_
        refine lv_iload_n cx.1 cx.2.1 dX12_chosen_78 rfl (lv_at hl 3 rfl) ?_
        refine lv_iconst (v := 1) cx.1 cx.2.1 dX12_chosen_79 (by decide) ?_
        refine lv_isub cx.1 cx.2.1 dX12_chosen_80 ?_
        refine lv_imul cx.1 cx.2.1 dX12_chosen_81 ?_
        refine lv_iload cx.1 cx.2.1 dX12_chosen_82 (lv_at hl 4 rfl) ?_
        refine lv_iadd cx.1 cx.2.1 dX12_chosen_84 ?_
        obtain ⟨ha35, hr⟩ := of_grd hr
        refine h_lald cx fx dy ha35 dX12_chosen_85 ?_
        refine lv_goto (tgt := 90) cx.1 cx.2.1 dX12_chosen_86 (by decide) ?_
        refine lv_ladd cx.1 cx.2.1 dX12_chosen_90 ?_
        obtain ⟨ha36, hr⟩ := of_grd hr
        obtain ⟨g37, eg37, hr⟩ := of_nm hr
        refine h_last cx fx dy ha36 dX12_chosen_91 (fun H locs dy => ?_)
        replace dy : Dy D cA ad (V, g37) A s.heap H locs := by rw [eg37]; exact dy
        obtain ⟨x38, ex38, hr⟩ := of_nm hr
        refine lv_iinc (v := x38) (lv' := [(4, .int x38), (0, .ref (ad k17)), (1, .int x18), (2, .int x19), (3, .int x20)]) cx.1 cx.2.1 dX12_chosen_92 hl (k := 4) rfl (by rw [ex38]; rfl) (by decide) rfl (fun ls hl => ?_)
        refine lv_goto (tgt := 33) cx.1 cx.2.1 dX12_chosen_95 (by decide) ?_
        exact hh0 k17 x18 x19 x20 x38 g37 (Option.some.inj hr).symm H locs ls dy (lv_sub hl [1, 2, 3, 4, 0] rfl)
noncomputable def r_X12_chosen_14' (V : Vk) (k3 : Nat) (x4 : Int32) (x5 : Int32) (x6 : Int32) (g7 : Hq) : Option ((Nat × Int32 × Int32 × Int32 × Hq) ⊕ (Int64 × Hq)) :=
  brn ((61 : Int32) ≤ x6) (brn (x5 < 0) (some (.inr ((0 : Int64), g7))) (brn (x5 ≤ x4) (grd (V k3 = some (12, 0)) <| Option.bind (g7.2.2 k3 54) fun k9 => grd (okV V k9 3 (((61 : Int32) * x4) + x5)) <| some (.inr ((g7.2.1 k9 (((61 : Int32) * x4) + x5).toNatClampNeg), g7))) (some (.inr ((0 : Int64), g7))))) (grd (V k3 = some (12, 0)) <| Option.bind (g7.2.2 k3 54) fun k13 => grd (okV V k13 3 ((61 : Int32) * x6)) <| nm (sL g7 k13 ((61 : Int32) * x6).toNatClampNeg (1 : Int64)) fun g16 => (lop (r_X12_chosen_33 V) (k3, x4, x5, x6, (1 : Int32), g16)))
noncomputable def r_X12_chosen_14 (V : Vk) (st : (Nat × Int32 × Int32 × Int32 × Hq)) : Option ((Nat × Int32 × Int32 × Int32 × Hq) ⊕ (Int64 × Hq)) := r_X12_chosen_14' V st.1 st.2.1 st.2.2.1 st.2.2.2.1 st.2.2.2.2
set_option maxHeartbeats 4000000 in
set_option maxRecDepth 100000 in
theorem w_X12_chosen_14 {p : Program} {l : Launch} {e : Env} {R : Room} {s : State} {m : MethodId} {args : Array Value} {below : List Frame} {meth : Method} {c : Code} {D : va_G} {cA : Nat → ClassId} {sk : (Nat → Nat) × (Nat → Nat)} {ad : Nat → Nat} {A : Nat → Prop} {V : Vk} (cx : CallFix p m c cX12_chosen 5 s args gw_tbl RX12) (fx : Fx D cA sk A s) (hlocks : meth.locks = false) (hret : meth.sig.returnType = (some .long)) (hR : 0 ≤ R.frames ∧ 0 ≤ R.locals) (r0 : Int64) (g0 : Hq) (y : (Int64 × Hq)) (hq : ∀ (rb : Int64) (gb : Hq), y = (rb, gb) → rb = r0 ∧ gb = g0) : ∀ (n : Nat) (k3 : Nat) (x4 : Int32) (x5 : Int32) (x6 : Int32) (g7 : Hq), itr (r_X12_chosen_14 V) n (k3, x4, x5, x6, g7) = some y → ∀ (H : Heap) (locs : List Loc) (ls : Array Slot), Dy D cA ad (V, g7) A s.heap H locs → lv_has ls 5 [(0, .ref (ad k3)), (1, .int x4), (2, .int x5), (3, .int x6)] → W p l e R s m args below meth c H locs 0 0 (MQ below (QL D cA ad A r0 (V, g0)) args s 0 0 A) (F0 m 14 ls []) := by
  intro n
  induction n with
  | zero => intro k3 x4 x5 x6 g7 hr; cases hr
  | succ n ih =>
    intro k3 x4 x5 x6 g7 hr H locs ls dy hl
    obtain ⟨z, hz, hn1, hn2⟩ := itr_succ hr
    clear hr
    have hr : r_X12_chosen_14' V k3 x4 x5 x6 g7 = some z := hz
    clear hz
    unfold r_X12_chosen_14' at hr
    have hh0 : ∀ (b0 : Nat) (b1 : Int32) (b2 : Int32) (b3 : Int32) (gb : Hq), z = .inl (b0, b1, b2, b3, gb) → ∀ (H : Heap) (locs : List Loc) (ls : Array Slot), Dy D cA ad (V, gb) A s.heap H locs → lv_has ls 5 [(0, .ref (ad b0)), (1, .int b1), (2, .int b2), (3, .int b3)] → W p l e R s m args below meth c H locs 0 0 (MQ below (QL D cA ad A r0 (V, g0)) args s 0 0 A) (F0 m 14 ls []) := fun b0 b1 b2 b3 gb eb => ih b0 b1 b2 b3 gb (hn1 _ eb)
    have hq0 : ∀ (rb : Int64) (gb : Hq), z = (.inr (rb, gb)) → rb = r0 ∧ gb = g0 := fun rb gb eb => hq rb gb (hn2 _ eb).symm
    refine lv_iload_n cx.1 cx.2.1 dX12_chosen_14 rfl (lv_at hl 3 rfl) ?_
    refine lv_bipush (v := 61) cx.1 cx.2.1 dX12_chosen_15 (by decide) ?_
    rcases of_brn hr with ⟨hc, hr⟩ | ⟨hc, hr⟩
    · refine lv_icmp_ge (tgt := 104) cx.1 cx.2.1 dX12_chosen_17 (by decide) (fun _ => ?_) (fun hn => absurd hc hn)
      refine lv_iload_n cx.1 cx.2.1 dX12_chosen_104 rfl (lv_at hl 2 rfl) ?_
      rcases of_brn hr with ⟨hc, hr⟩ | ⟨hc, hr⟩
      · refine lv_if_lt (tgt := 113) cx.1 cx.2.1 dX12_chosen_105 (by decide) (fun _ => ?_) (fun hn => absurd hc hn)
        refine lv_lconst (v := 0) cx.1 cx.2.1 dX12_chosen_113 (by decide) ?_
        refine lv_goto (tgt := 128) cx.1 cx.2.1 dX12_chosen_114 (by decide) ?_
        obtain ⟨e0, e1⟩ := hq0 _ _ (Option.some.inj hr).symm
        exact h_lret cx dy hlocks hret e0 (by rw [e1]) dX12_chosen_128
      · refine lv_if_lt (tgt := 113) cx.1 cx.2.1 dX12_chosen_105 (by decide) (fun hn => absurd hn hc) (fun _ => ?_)
        refine lv_iload_n cx.1 cx.2.1 dX12_chosen_108 rfl (lv_at hl 2 rfl) ?_
        refine lv_iload_n cx.1 cx.2.1 dX12_chosen_109 rfl (lv_at hl 1 rfl) ?_
        rcases of_brn hr with ⟨hc, hr⟩ | ⟨hc, hr⟩
        · refine lv_icmp_le (tgt := 117) cx.1 cx.2.1 dX12_chosen_110 (by decide) (fun _ => ?_) (fun hn => absurd hc hn)
          refine lv_aload_n cx.1 cx.2.1 dX12_chosen_117 rfl (lv_at hl 0 rfl) ?_
          obtain ⟨hv8, hr⟩ := of_grd hr
          obtain ⟨k9, hf10, hr⟩ := of_bnd hr
          refine h_getR cx fx dy fd_12_54 hv8 tb_1040 hf10 dX12_chosen_118 ?_
          refine lv_bipush (v := 61) cx.1 cx.2.1 dX12_chosen_121 (by decide) ?_
          refine lv_iload_n cx.1 cx.2.1 dX12_chosen_123 rfl (lv_at hl 1 rfl) ?_
          refine lv_imul cx.1 cx.2.1 dX12_chosen_124 ?_
          refine lv_iload_n cx.1 cx.2.1 dX12_chosen_125 rfl (lv_at hl 2 rfl) ?_
          refine lv_iadd cx.1 cx.2.1 dX12_chosen_126 ?_
          obtain ⟨ha11, hr⟩ := of_grd hr
          refine h_lald cx fx dy ha11 dX12_chosen_127 ?_
          obtain ⟨e0, e1⟩ := hq0 _ _ (Option.some.inj hr).symm
          exact h_lret cx dy hlocks hret e0 (by rw [e1]) dX12_chosen_128
        · refine lv_icmp_le (tgt := 117) cx.1 cx.2.1 dX12_chosen_110 (by decide) (fun hn => absurd hn hc) (fun _ => ?_)
          refine lv_lconst (v := 0) cx.1 cx.2.1 dX12_chosen_113 (by decide) ?_
          refine lv_goto (tgt := 128) cx.1 cx.2.1 dX12_chosen_114 (by decide) ?_
          obtain ⟨e0, e1⟩ := hq0 _ _ (Option.some.inj hr).symm
          exact h_lret cx dy hlocks hret e0 (by rw [e1]) dX12_chosen_128
    · refine lv_icmp_ge (tgt := 104) cx.1 cx.2.1 dX12_chosen_17 (by decide) (fun hn => absurd hn hc) (fun _ => ?_)
      refine lv_aload_n cx.1 cx.2.1 dX12_chosen_20 rfl (lv_at hl 0 rfl) ?_
      obtain ⟨hv12, hr⟩ := of_grd hr
      obtain ⟨k13, hf14, hr⟩ := of_bnd hr
      refine h_getR cx fx dy fd_12_54 hv12 tb_1040 hf14 dX12_chosen_21 ?_
      refine lv_bipush (v := 61) cx.1 cx.2.1 dX12_chosen_24 (by decide) ?_
      refine lv_iload_n cx.1 cx.2.1 dX12_chosen_26 rfl (lv_at hl 3 rfl) ?_
      refine lv_imul cx.1 cx.2.1 dX12_chosen_27 ?_
      refine lv_lconst (v := 1) cx.1 cx.2.1 dX12_chosen_28 (by decide) ?_
      obtain ⟨ha15, hr⟩ := of_grd hr
      obtain ⟨g16, eg16, hr⟩ := of_nm hr
      refine h_last cx fx dy ha15 dX12_chosen_29 (fun H locs dy => ?_)
      replace dy : Dy D cA ad (V, g16) A s.heap H locs := by rw [eg16]; exact dy
      refine lv_iconst (v := 1) cx.1 cx.2.1 dX12_chosen_30 (by decide) ?_
      refine lv_istore (lv' := [(4, .int (1 : Int32)), (0, .ref (ad k3)), (1, .int x4), (2, .int x5), (3, .int x6)]) cx.1 cx.2.1 dX12_chosen_31 hl (by decide) rfl (fun ls hl => ?_)
      obtain ⟨n, hr⟩ := lop_some hr
      exact w_X12_chosen_33 cx fx hlocks hret hR r0 g0 z hh0 hq0 n k3 x4 x5 x6 (1 : Int32) g16 hr H locs ls dy (lv_sub hl [1, 2, 3, 4, 0] rfl)
noncomputable def r_X12_chosen (V : Vk) (k0 : Nat) (a1 : Int32) (a2 : Int32) (g : Hq) : Option (Int64 × Hq) :=
  grd (V k0 = some (12, 0)) <| brn ((g.1 k0 55) = 0) (nm (sI g k0 55 (1 : Int32)) fun g2 => (lop (r_X12_chosen_14 V) (k0, a1, a2, (0 : Int32), g2))) (brn (a2 < 0) (some ((0 : Int64), g)) (brn (a2 ≤ a1) (Option.bind (g.2.2 k0 54) fun k39 => grd (okV V k39 3 (((61 : Int32) * a1) + a2)) <| some ((g.2.1 k39 (((61 : Int32) * a1) + a2).toNatClampNeg), g)) (some ((0 : Int64), g))))
set_option maxHeartbeats 4000000 in
set_option maxRecDepth 100000 in
theorem c_X12_chosen {l : Launch} {D : va_G} {cA : Nat → ClassId} {sk : (Nat → Nat) × (Nat → Nat)} {ad : Nat → Nat} {A : Nat → Prop} {V : Vk} {k0 : Nat} {a1 : Int32} {a2 : Int32} {g g0 : Hq} {r0 : Int64} (hr : r_X12_chosen V k0 a1 a2 g = some (r0, g0)) : Met l yX12_chosen (wM yX12_chosen cX12_chosen 5 (some .long)) { frames := 0, cells := 0, slots := 0, locals := 0 } (Pre D cA sk ad (V, g) A [.ref (ad k0), .int a1, .int a2]) (QL D cA ad A r0 (V, g0)) 0 0 A := by
  refine Met.ofW (cc := cX12_chosen) (maxL := 5) (ret := (some .long)) (by decide) rfl ?_
  intro p e s m args below meth c s₁ B hml hv
  obtain ⟨rfl, fx, w0⟩ := hv
  have hts := atoms_spec (ws := wM yX12_chosen cX12_chosen 5 (some .long)) B.pre
  have cx : CallFix p m c cX12_chosen 5 s ([.ref (ad k0), .int a1, .int a2] : List Value).toArray gw_tbl RX12 := ⟨B.exec, B.bytes, hml, findClass_of_methodNamed B.named, fun w hw => hts w (List.mem_cons_of_mem _ hw)⟩
  have hlocks := B.notSynchronized
  have hret := B.returns
  have hR : 0 ≤ (headSpec (wM yX12_chosen cX12_chosen 5 (some .long)) { frames := 0, cells := 0, slots := 0, locals := 0 }).room.frames ∧ 0 ≤ (headSpec (wM yX12_chosen cX12_chosen 5 (some .long)) { frames := 0, cells := 0, slots := 0, locals := 0 }).room.locals := ⟨Nat.le_refl _, Nat.le_refl _⟩
  have dy : Dy D cA ad (V, g) A s.heap s.heap [] := ⟨w0, va_S.rf⟩
  have hl := lv_entry [.ref (ad k0), .int a1, .int a2] (n := 5) (Nat.le_of_ble_eq_true rfl)
  rw [lg_entry_eq]
  generalize (lg_sl [.ref (ad k0), .int a1, .int a2] ++ List.replicate (5 - (lg_sl [.ref (ad k0), .int a1, .int a2]).length) Slot.unset).toArray = ls at hl ⊢
  have hl : lv_has ls 5 [(0, .ref (ad k0)), (1, .int a1), (2, .int a2)] := hl
  have dy0 : ∃ H0, H0 = s.heap ∧ Dy D cA ad (V, g) A s.heap H0 [] := ⟨_, rfl, dy⟩
  obtain ⟨z, ez⟩ : ∃ z, z = (r0, g0) := ⟨_, rfl⟩
  rw [← ez] at hr
  have hq0 : ∀ (rb : Int64) (gb : Hq), z = (rb, gb) → rb = r0 ∧ gb = g0 := fun rb gb eb => by rw [ez] at eb; exact ⟨(congrArg Prod.fst eb).symm, (congrArg Prod.snd eb).symm⟩
  clear ez w0 dy0
  unfold r_X12_chosen at hr
  obtain ⟨H, hH⟩ : ∃ H, H = s.heap := ⟨_, rfl⟩
  obtain ⟨locs, hlo⟩ : ∃ q : List Loc, q = [] := ⟨_, rfl⟩
  have dy : Dy D cA ad (V, g) A s.heap H locs := by rw [hH, hlo]; exact dy
  suffices K : W p l e (headSpec (wM yX12_chosen cX12_chosen 5 (some .long)) { frames := 0, cells := 0, slots := 0, locals := 0 }).room s m ([.ref (ad k0), .int a1, .int a2] : List Value).toArray below meth c H locs 0 0 (MQ below (QL D cA ad A r0 (V, g0)) ([.ref (ad k0), .int a1, .int a2] : List Value).toArray s 0 0 A) (F0 m 0 ls []) by rw [hH, hlo] at K; exact K
  clear hH hlo
  refine lv_aload_n cx.1 cx.2.1 dX12_chosen_0 rfl (lv_at hl 0 rfl) ?_
  obtain ⟨hv1, hr⟩ := of_grd hr
  refine h_getI cx fx dy fd_12_55 hv1 tb_1041 dX12_chosen_1 ?_
  rcases of_brn hr with ⟨hc, hr⟩ | ⟨hc, hr⟩
  · refine lv_if_ne (tgt := 104) cx.1 cx.2.1 dX12_chosen_4 (by decide) (fun hn => absurd hc hn) (fun _ => ?_)
    refine lv_aload_n cx.1 cx.2.1 dX12_chosen_7 rfl (lv_at hl 0 rfl) ?_
    refine lv_iconst (v := 1) cx.1 cx.2.1 dX12_chosen_8 (by decide) ?_
    obtain ⟨g2, eg2, hr⟩ := of_nm hr
    refine h_putI cx fx dy fd_12_55 (pd_12_55 : PD _ _ _ _ _ .boolean) rfl rfl rfl hv1 tb_1041 dX12_chosen_9 (fun H locs dy => ?_)
    replace dy : Dy D cA ad (V, g2) A s.heap H locs := by rw [eg2]; exact dy
    refine lv_iconst (v := 0) cx.1 cx.2.1 dX12_chosen_12 (by decide) ?_
    refine lv_istore_n (lv' := [(3, .int (0 : Int32)), (0, .ref (ad k0)), (1, .int a1), (2, .int a2)]) cx.1 cx.2.1 dX12_chosen_13 rfl hl (by decide) rfl (fun ls hl => ?_)
    obtain ⟨n, hr⟩ := lop_some hr
    exact w_X12_chosen_14 cx fx hlocks hret hR r0 g0 z hq0 n k0 a1 a2 (0 : Int32) g2 hr H locs ls dy (lv_sub hl [1, 2, 3, 0] rfl)
  · refine lv_if_ne (tgt := 104) cx.1 cx.2.1 dX12_chosen_4 (by decide) (fun _ => ?_) (fun hn => absurd hn hc)
    refine lv_iload_n cx.1 cx.2.1 dX12_chosen_104 rfl (lv_at hl 2 rfl) ?_
    rcases of_brn hr with ⟨hc, hr⟩ | ⟨hc, hr⟩
    · refine lv_if_lt (tgt := 113) cx.1 cx.2.1 dX12_chosen_105 (by decide) (fun _ => ?_) (fun hn => absurd hc hn)
      refine lv_lconst (v := 0) cx.1 cx.2.1 dX12_chosen_113 (by decide) ?_
      refine lv_goto (tgt := 128) cx.1 cx.2.1 dX12_chosen_114 (by decide) ?_
      obtain ⟨e0, e1⟩ := hq0 _ _ (Option.some.inj hr).symm
      exact h_lret cx dy hlocks hret e0 (by rw [e1]) dX12_chosen_128
    · refine lv_if_lt (tgt := 113) cx.1 cx.2.1 dX12_chosen_105 (by decide) (fun hn => absurd hn hc) (fun _ => ?_)
      refine lv_iload_n cx.1 cx.2.1 dX12_chosen_108 rfl (lv_at hl 2 rfl) ?_
      refine lv_iload_n cx.1 cx.2.1 dX12_chosen_109 rfl (lv_at hl 1 rfl) ?_
      rcases of_brn hr with ⟨hc, hr⟩ | ⟨hc, hr⟩
      · refine lv_icmp_le (tgt := 117) cx.1 cx.2.1 dX12_chosen_110 (by decide) (fun _ => ?_) (fun hn => absurd hc hn)
        refine lv_aload_n cx.1 cx.2.1 dX12_chosen_117 rfl (lv_at hl 0 rfl) ?_
        obtain ⟨k39, hf40, hr⟩ := of_bnd hr
        refine h_getR cx fx dy fd_12_54 hv1 tb_1040 hf40 dX12_chosen_118 ?_
        refine lv_bipush (v := 61) cx.1 cx.2.1 dX12_chosen_121 (by decide) ?_
        refine lv_iload_n cx.1 cx.2.1 dX12_chosen_123 rfl (lv_at hl 1 rfl) ?_
        refine lv_imul cx.1 cx.2.1 dX12_chosen_124 ?_
        refine lv_iload_n cx.1 cx.2.1 dX12_chosen_125 rfl (lv_at hl 2 rfl) ?_
        refine lv_iadd cx.1 cx.2.1 dX12_chosen_126 ?_
        obtain ⟨ha41, hr⟩ := of_grd hr
        refine h_lald cx fx dy ha41 dX12_chosen_127 ?_
        obtain ⟨e0, e1⟩ := hq0 _ _ (Option.some.inj hr).symm
        exact h_lret cx dy hlocks hret e0 (by rw [e1]) dX12_chosen_128
      · refine lv_icmp_le (tgt := 117) cx.1 cx.2.1 dX12_chosen_110 (by decide) (fun hn => absurd hn hc) (fun _ => ?_)
        refine lv_lconst (v := 0) cx.1 cx.2.1 dX12_chosen_113 (by decide) ?_
        refine lv_goto (tgt := 128) cx.1 cx.2.1 dX12_chosen_114 (by decide) ?_
        obtain ⟨e0, e1⟩ := hq0 _ _ (Option.some.inj hr).symm
        exact h_lret cx dy hlocks hret e0 (by rw [e1]) dX12_chosen_128
noncomputable def r_X12_doubt_167' (V : Vk) (x30 : Int32) (y31 : Int64) (y32 : Int64) (y33 : Int64) (y34 : Int64) (g35 : Hq) : Option ((Int32 × Int64 × Int64 × Int64 × Int64 × Hq) ⊕ (Int64 × Hq)) :=
  brn ((lg_cmp y34 (0 : Int64)) = 0) (brn (x30 = 0) (grd (¬ y33 = 0) <| some (.inr ((y32 / y33), g35))) (grd (¬ y33 = 0) <| some (.inr ((y31 / y33), g35)))) (grd (¬ y34 = 0) <| nm (y33 - y33 / y34 * y34) fun y39 => some (.inl (x30, y31, y32, y34, y39, g35)))
noncomputable def r_X12_doubt_167 (V : Vk) (st : (Int32 × Int64 × Int64 × Int64 × Int64 × Hq)) : Option ((Int32 × Int64 × Int64 × Int64 × Int64 × Hq) ⊕ (Int64 × Hq)) := r_X12_doubt_167' V st.1 st.2.1 st.2.2.1 st.2.2.2.1 st.2.2.2.2.1 st.2.2.2.2.2
set_option maxHeartbeats 4000000 in
set_option maxRecDepth 100000 in
theorem w_X12_doubt_167 {p : Program} {l : Launch} {e : Env} {R : Room} {s : State} {m : MethodId} {args : Array Value} {below : List Frame} {meth : Method} {c : Code} {D : va_G} {cA : Nat → ClassId} {sk : (Nat → Nat) × (Nat → Nat)} {ad : Nat → Nat} {A : Nat → Prop} {V : Vk} (cx : CallFix p m c cX12_doubt 16 s args gw_tbl RX12) (fx : Fx D cA sk A s) (hlocks : meth.locks = false) (hret : meth.sig.returnType = (some .long)) (hR : 2 ≤ R.frames ∧ 42 ≤ R.locals) (r0 : Int64) (g0 : Hq) (y : (Int64 × Hq)) (hq : ∀ (rb : Int64) (gb : Hq), y = (rb, gb) → rb = r0 ∧ gb = g0) : ∀ (n : Nat) (x30 : Int32) (y31 : Int64) (y32 : Int64) (y33 : Int64) (y34 : Int64) (g35 : Hq), itr (r_X12_doubt_167 V) n (x30, y31, y32, y33, y34, g35) = some y → ∀ (H : Heap) (locs : List Loc) (ls : Array Slot), Dy D cA ad (V, g35) A s.heap H locs → lv_has ls 16 [(5, .int x30), (6, .long y31), (8, .long y32), (10, .long y33), (12, .long y34)] → W p l e R s m args below meth c H locs 0 0 (MQ below (QL D cA ad A r0 (V, g0)) args s 0 0 A) (F0 m 167 ls []) := by
  intro n
  induction n with
  | zero => intro x30 y31 y32 y33 y34 g35 hr; cases hr
  | succ n ih =>
    intro x30 y31 y32 y33 y34 g35 hr H locs ls dy hl
    obtain ⟨z, hz, hn1, hn2⟩ := itr_succ hr
    clear hr
    have hr : r_X12_doubt_167' V x30 y31 y32 y33 y34 g35 = some z := hz
    clear hz
    unfold r_X12_doubt_167' at hr
    have hh0 : ∀ (b0 : Int32) (b1 : Int64) (b2 : Int64) (b3 : Int64) (b4 : Int64) (gb : Hq), z = .inl (b0, b1, b2, b3, b4, gb) → ∀ (H : Heap) (locs : List Loc) (ls : Array Slot), Dy D cA ad (V, gb) A s.heap H locs → lv_has ls 16 [(5, .int b0), (6, .long b1), (8, .long b2), (10, .long b3), (12, .long b4)] → W p l e R s m args below meth c H locs 0 0 (MQ below (QL D cA ad A r0 (V, g0)) args s 0 0 A) (F0 m 167 ls []) := fun b0 b1 b2 b3 b4 gb eb => ih b0 b1 b2 b3 b4 gb (hn1 _ eb)
    have hq0 : ∀ (rb : Int64) (gb : Hq), z = (.inr (rb, gb)) → rb = r0 ∧ gb = g0 := fun rb gb eb => hq rb gb (hn2 _ eb).symm
    refine lv_lload cx.1 cx.2.1 dX12_doubt_167 (lv_at hl 4 rfl) ?_
    refine lv_lconst (v := 0) cx.1 cx.2.1 dX12_doubt_169 (by decide) ?_
    refine W.lcmp cx.1 cx.2.1 dX12_doubt_170 ?_
    rcases of_brn hr with ⟨hc, hr⟩ | ⟨hc, hr⟩
    · refine lv_if_eq (tgt := 192) cx.1 cx.2.1 dX12_doubt_171 (by decide) (fun _ => ?_) (fun hn => absurd hc hn)
      refine lv_iload cx.1 cx.2.1 dX12_doubt_192 (lv_at hl 0 rfl) ?_
      rcases of_brn hr with ⟨hc, hr⟩ | ⟨hc, hr⟩
      · refine lv_if_ne (tgt := 205) cx.1 cx.2.1 dX12_doubt_194 (by decide) (fun hn => absurd hc hn) (fun _ => ?_)
        refine lv_lload cx.1 cx.2.1 dX12_doubt_197 (lv_at hl 2 rfl) ?_
        refine lv_lload cx.1 cx.2.1 dX12_doubt_199 (lv_at hl 3 rfl) ?_
        obtain ⟨hz36, hr⟩ := of_grd hr
        refine lv_ldiv cx.1 cx.2.1 dX12_doubt_201 hz36 ?_
        refine lv_goto (tgt := 210) cx.1 cx.2.1 dX12_doubt_202 (by decide) ?_
        obtain ⟨e0, e1⟩ := hq0 _ _ (Option.some.inj hr).symm
        exact h_lret cx dy hlocks hret e0 (by rw [e1]) dX12_doubt_210
      · refine lv_if_ne (tgt := 205) cx.1 cx.2.1 dX12_doubt_194 (by decide) (fun _ => ?_) (fun hn => absurd hn hc)
        refine lv_lload cx.1 cx.2.1 dX12_doubt_205 (lv_at hl 1 rfl) ?_
        refine lv_lload cx.1 cx.2.1 dX12_doubt_207 (lv_at hl 3 rfl) ?_
        obtain ⟨hz37, hr⟩ := of_grd hr
        refine lv_ldiv cx.1 cx.2.1 dX12_doubt_209 hz37 ?_
        obtain ⟨e0, e1⟩ := hq0 _ _ (Option.some.inj hr).symm
        exact h_lret cx dy hlocks hret e0 (by rw [e1]) dX12_doubt_210
    · refine lv_if_eq (tgt := 192) cx.1 cx.2.1 dX12_doubt_171 (by decide) (fun hn => absurd hn hc) (fun _ => ?_)
      refine lv_lload cx.1 cx.2.1 dX12_doubt_174 (lv_at hl 3 rfl) ?_
      refine lv_lload cx.1 cx.2.1 dX12_doubt_176 (lv_at hl 4 rfl) ?_
      obtain ⟨hz38, hr⟩ := of_grd hr
      refine lv_lrem cx.1 cx.2.1 dX12_doubt_178 hz38 ?_
      obtain ⟨y39, ey39, hr⟩ := of_nm hr
      refine lv_nml ey39 ?_
      refine lv_lstore (lv' := [(14, .long y39), (5, .int x30), (6, .long y31), (8, .long y32), (10, .long y33), (12, .long y34)]) cx.1 cx.2.1 dX12_doubt_179 hl (by decide) rfl (fun ls hl => ?_)
      refine lv_lload cx.1 cx.2.1 dX12_doubt_181 (lv_at hl 5 rfl) ?_
      refine lv_lstore (lv' := [(10, .long y34), (14, .long y39), (5, .int x30), (6, .long y31), (8, .long y32), (12, .long y34)]) cx.1 cx.2.1 dX12_doubt_183 hl (by decide) rfl (fun ls hl => ?_)
      refine lv_lload cx.1 cx.2.1 dX12_doubt_185 (lv_at hl 1 rfl) ?_
      refine lv_lstore (lv' := [(12, .long y39), (10, .long y34), (14, .long y39), (5, .int x30), (6, .long y31), (8, .long y32)]) cx.1 cx.2.1 dX12_doubt_187 hl (by decide) rfl (fun ls hl => ?_)
      refine lv_goto (tgt := 167) cx.1 cx.2.1 dX12_doubt_189 (by decide) ?_
      exact hh0 x30 y31 y32 y34 y39 g35 (Option.some.inj hr).symm H locs ls dy (lv_sub hl [3, 4, 5, 1, 0] rfl)
noncomputable def r_X12_doubt_77' (V : Vk) (k20 : Nat) (x21 : Int32) (x22 : Int32) (x23 : Int32) (x24 : Int32) (x25 : Int32) (y26 : Int64) (y27 : Int64) (x28 : Int32) (g29 : Hq) : Option ((Nat × Int32 × Int32 × Int32 × Int32 × Int32 × Int64 × Int64 × Int32 × Hq) ⊕ (Int64 × Hq)) :=
  brn (x21 < x28) (brn (x25 = (2 : Int32)) (brn (0 < (lg_cmp ((20 : Int64) * y27) y26)) (some (.inr ((0 : Int64), g29))) (some (.inr ((1 : Int64), g29)))) ((Option.map Sum.inr (lop (r_X12_doubt_167 V) (x25, y26, y27, y27, y26, g29))))) (brn (((x21 + x23) - x28) ≤ (x23 + x24)) (grd (V k20 = some (12, 0)) <| bnd (r_X12_chosen V k20 (x21 + x22) x28 g29) fun y41 g40 => bnd (r_X12_chosen V k20 (x23 + x24) ((x21 + x23) - x28) g40) fun y45 g44 => nm (y27 + (y41 * y45)) fun y47 => nm (x28 + (1 : Int32)) fun x48 => some (.inl (k20, x21, x22, x23, x24, x25, y26, y47, x48, g44))) (nm (y27 + (0 : Int64)) fun y49 => nm (x28 + (1 : Int32)) fun x50 => some (.inl (k20, x21, x22, x23, x24, x25, y26, y49, x50, g29))))
noncomputable def r_X12_doubt_77 (V : Vk) (st : (Nat × Int32 × Int32 × Int32 × Int32 × Int32 × Int64 × Int64 × Int32 × Hq)) : Option ((Nat × Int32 × Int32 × Int32 × Int32 × Int32 × Int64 × Int64 × Int32 × Hq) ⊕ (Int64 × Hq)) := r_X12_doubt_77' V st.1 st.2.1 st.2.2.1 st.2.2.2.1 st.2.2.2.2.1 st.2.2.2.2.2.1 st.2.2.2.2.2.2.1 st.2.2.2.2.2.2.2.1 st.2.2.2.2.2.2.2.2.1 st.2.2.2.2.2.2.2.2.2
set_option maxHeartbeats 4000000 in
set_option maxRecDepth 100000 in
theorem w_X12_doubt_77 {p : Program} {l : Launch} {e : Env} {R : Room} {s : State} {m : MethodId} {args : Array Value} {below : List Frame} {meth : Method} {c : Code} {D : va_G} {cA : Nat → ClassId} {sk : (Nat → Nat) × (Nat → Nat)} {ad : Nat → Nat} {A : Nat → Prop} {V : Vk} (cx : CallFix p m c cX12_doubt 16 s args gw_tbl RX12) (fx : Fx D cA sk A s) (hlocks : meth.locks = false) (hret : meth.sig.returnType = (some .long)) (hR : 2 ≤ R.frames ∧ 42 ≤ R.locals) (r0 : Int64) (g0 : Hq) (y : (Int64 × Hq)) (hq : ∀ (rb : Int64) (gb : Hq), y = (rb, gb) → rb = r0 ∧ gb = g0) : ∀ (n : Nat) (k20 : Nat) (x21 : Int32) (x22 : Int32) (x23 : Int32) (x24 : Int32) (x25 : Int32) (y26 : Int64) (y27 : Int64) (x28 : Int32) (g29 : Hq), itr (r_X12_doubt_77 V) n (k20, x21, x22, x23, x24, x25, y26, y27, x28, g29) = some y → ∀ (H : Heap) (locs : List Loc) (ls : Array Slot), Dy D cA ad (V, g29) A s.heap H locs → lv_has ls 16 [(0, .ref (ad k20)), (1, .int x21), (2, .int x22), (3, .int x23), (4, .int x24), (5, .int x25), (6, .long y26), (8, .long y27), (10, .int x28)] → W p l e R s m args below meth c H locs 0 0 (MQ below (QL D cA ad A r0 (V, g0)) args s 0 0 A) (F0 m 77 ls []) := by
  intro n
  induction n with
  | zero => intro k20 x21 x22 x23 x24 x25 y26 y27 x28 g29 hr; cases hr
  | succ n ih =>
    intro k20 x21 x22 x23 x24 x25 y26 y27 x28 g29 hr H locs ls dy hl
    obtain ⟨z, hz, hn1, hn2⟩ := itr_succ hr
    clear hr
    have hr : r_X12_doubt_77' V k20 x21 x22 x23 x24 x25 y26 y27 x28 g29 = some z := hz
    clear hz
    unfold r_X12_doubt_77' at hr
    have hh0 : ∀ (b0 : Nat) (b1 : Int32) (b2 : Int32) (b3 : Int32) (b4 : Int32) (b5 : Int32) (b6 : Int64) (b7 : Int64) (b8 : Int32) (gb : Hq), z = .inl (b0, b1, b2, b3, b4, b5, b6, b7, b8, gb) → ∀ (H : Heap) (locs : List Loc) (ls : Array Slot), Dy D cA ad (V, gb) A s.heap H locs → lv_has ls 16 [(0, .ref (ad b0)), (1, .int b1), (2, .int b2), (3, .int b3), (4, .int b4), (5, .int b5), (6, .long b6), (8, .long b7), (10, .int b8)] → W p l e R s m args below meth c H locs 0 0 (MQ below (QL D cA ad A r0 (V, g0)) args s 0 0 A) (F0 m 77 ls []) := fun b0 b1 b2 b3 b4 b5 b6 b7 b8 gb eb => ih b0 b1 b2 b3 b4 b5 b6 b7 b8 gb (hn1 _ eb)
    have hq0 : ∀ (rb : Int64) (gb : Hq), z = (.inr (rb, gb)) → rb = r0 ∧ gb = g0 := fun rb gb eb => hq rb gb (hn2 _ eb).symm
    refine lv_iload cx.1 cx.2.1 dX12_doubt_77 (lv_at hl 8 rfl) ?_
    refine lv_iload_n cx.1 cx.2.1 dX12_doubt_79 rfl (lv_at hl 1 rfl) ?_
    rcases of_brn hr with ⟨hc, hr⟩ | ⟨hc, hr⟩
    · refine lv_icmp_gt (tgt := 135) cx.1 cx.2.1 dX12_doubt_80 (by decide) (fun _ => ?_) (fun hn => absurd hc hn)
      refine lv_iload cx.1 cx.2.1 dX12_doubt_135 (lv_at hl 5 rfl) ?_
      refine lv_iconst (v := 2) cx.1 cx.2.1 dX12_doubt_137 (by decide) ?_
      rcases of_brn hr with ⟨hc, hr⟩ | ⟨hc, hr⟩
      · refine lv_icmp_ne (tgt := 159) cx.1 cx.2.1 dX12_doubt_138 (by decide) (fun hn => absurd hc hn) (fun _ => ?_)
        refine lv_ldc2 (v := (20)) cx.1 cx.2.1 cx.2.2.2.1 (cx.2.2.2.2 _ tb_1357) dX12_doubt_141 ?_
        refine lv_lload cx.1 cx.2.1 dX12_doubt_144 (lv_at hl 7 rfl) ?_
        refine lv_lmul cx.1 cx.2.1 dX12_doubt_146 ?_
        refine lv_lload cx.1 cx.2.1 dX12_doubt_147 (lv_at hl 6 rfl) ?_
        refine W.lcmp cx.1 cx.2.1 dX12_doubt_149 ?_
        rcases of_brn hr with ⟨hc, hr⟩ | ⟨hc, hr⟩
        · refine lv_if_gt (tgt := 157) cx.1 cx.2.1 dX12_doubt_150 (by decide) (fun _ => ?_) (fun hn => absurd hc hn)
          refine lv_lconst (v := 0) cx.1 cx.2.1 dX12_doubt_157 (by decide) ?_
          obtain ⟨e0, e1⟩ := hq0 _ _ (Option.some.inj hr).symm
          exact h_lret cx dy hlocks hret e0 (by rw [e1]) dX12_doubt_158
        · refine lv_if_gt (tgt := 157) cx.1 cx.2.1 dX12_doubt_150 (by decide) (fun hn => absurd hn hc) (fun _ => ?_)
          refine lv_lconst (v := 1) cx.1 cx.2.1 dX12_doubt_153 (by decide) ?_
          refine lv_goto (tgt := 158) cx.1 cx.2.1 dX12_doubt_154 (by decide) ?_
          obtain ⟨e0, e1⟩ := hq0 _ _ (Option.some.inj hr).symm
          exact h_lret cx dy hlocks hret e0 (by rw [e1]) dX12_doubt_158
      · refine lv_icmp_ne (tgt := 159) cx.1 cx.2.1 dX12_doubt_138 (by decide) (fun _ => ?_) (fun hn => absurd hn hc)
        refine lv_lload cx.1 cx.2.1 dX12_doubt_159 (lv_at hl 7 rfl) ?_
        refine lv_lstore (lv' := [(10, .long y27), (0, .ref (ad k20)), (1, .int x21), (2, .int x22), (3, .int x23), (4, .int x24), (5, .int x25), (6, .long y26), (8, .long y27)]) cx.1 cx.2.1 dX12_doubt_161 hl (by decide) rfl (fun ls hl => ?_)
        refine lv_lload cx.1 cx.2.1 dX12_doubt_163 (lv_at hl 7 rfl) ?_
        refine lv_lstore (lv' := [(12, .long y26), (10, .long y27), (0, .ref (ad k20)), (1, .int x21), (2, .int x22), (3, .int x23), (4, .int x24), (5, .int x25), (6, .long y26), (8, .long y27)]) cx.1 cx.2.1 dX12_doubt_165 hl (by decide) rfl (fun ls hl => ?_)
        obtain ⟨z1, hr, ez1⟩ := of_map hr
        obtain ⟨n, hr⟩ := lop_some hr
        exact w_X12_doubt_167 cx fx hlocks hret hR r0 g0 z1 (fun rb gb eb => hq0 rb gb (by rw [ez1, eb])) n x25 y26 y27 y27 y26 g29 hr H locs ls dy (lv_sub hl [7, 8, 9, 1, 0] rfl)
    · refine lv_icmp_gt (tgt := 135) cx.1 cx.2.1 dX12_doubt_80 (by decide) (fun hn => absurd hn hc) (fun _ => ?_)
      refine lv_lload cx.1 cx.2.1 dX12_doubt_83 (lv_at hl 7 rfl) ?_
      refine lv_iload_n cx.1 cx.2.1 dX12_doubt_85 rfl (lv_at hl 1 rfl) ?_
      refine lv_iload_n cx.1 cx.2.1 dX12_doubt_86 rfl (lv_at hl 3 rfl) ?_
      refine lv_iadd cx.1 cx.2.1 dX12_doubt_87 ?_
      refine lv_iload cx.1 cx.2.1 dX12_doubt_88 (lv_at hl 8 rfl) ?_
      refine lv_isub cx.1 cx.2.1 dX12_doubt_90 ?_
      refine lv_iload_n cx.1 cx.2.1 dX12_doubt_91 rfl (lv_at hl 3 rfl) ?_
      refine lv_iload cx.1 cx.2.1 dX12_doubt_92 (lv_at hl 4 rfl) ?_
      refine lv_iadd cx.1 cx.2.1 dX12_doubt_94 ?_
      rcases of_brn hr with ⟨hc, hr⟩ | ⟨hc, hr⟩
      · refine lv_icmp_le (tgt := 102) cx.1 cx.2.1 dX12_doubt_95 (by decide) (fun _ => ?_) (fun hn => absurd hc hn)
        refine lv_aload_n cx.1 cx.2.1 dX12_doubt_102 rfl (lv_at hl 0 rfl) ?_
        refine lv_iload_n cx.1 cx.2.1 dX12_doubt_103 rfl (lv_at hl 1 rfl) ?_
        refine lv_iload_n cx.1 cx.2.1 dX12_doubt_104 rfl (lv_at hl 2 rfl) ?_
        refine lv_iadd cx.1 cx.2.1 dX12_doubt_105 ?_
        refine lv_iload cx.1 cx.2.1 dX12_doubt_106 (lv_at hl 8 rfl) ?_
        obtain ⟨hv42, hr⟩ := of_grd hr
        obtain ⟨y41, g40, hc43, hr⟩ := of_bnd2 hr
        refine r_l dy (k_V (As := [.int (x21 + x22), .int x28]) (b := k20) (ci := 12) cx fx dy (c_X12_chosen hc43) mv_X12_chosen rfl rfl ⟨Nat.le_trans (by decide) hR.1, Nat.le_trans (by decide) hR.2⟩ tb_1353 hv42 rfl (by decide) rfl hl.1 rfl (Nat.le_of_ble_eq_true rfl) ⟨Nat.zero_le _, Nat.zero_le _⟩ dX12_doubt_108) (fun H locs dy => ?_)
        refine lv_aload_n cx.1 cx.2.1 dX12_doubt_111 rfl (lv_at hl 0 rfl) ?_
        refine lv_iload_n cx.1 cx.2.1 dX12_doubt_112 rfl (lv_at hl 3 rfl) ?_
        refine lv_iload cx.1 cx.2.1 dX12_doubt_113 (lv_at hl 4 rfl) ?_
        refine lv_iadd cx.1 cx.2.1 dX12_doubt_115 ?_
        refine lv_iload_n cx.1 cx.2.1 dX12_doubt_116 rfl (lv_at hl 1 rfl) ?_
        refine lv_iload_n cx.1 cx.2.1 dX12_doubt_117 rfl (lv_at hl 3 rfl) ?_
        refine lv_iadd cx.1 cx.2.1 dX12_doubt_118 ?_
        refine lv_iload cx.1 cx.2.1 dX12_doubt_119 (lv_at hl 8 rfl) ?_
        refine lv_isub cx.1 cx.2.1 dX12_doubt_121 ?_
        obtain ⟨y45, g44, hc46, hr⟩ := of_bnd2 hr
        refine r_l dy (k_V (As := [.int (x23 + x24), .int ((x21 + x23) - x28)]) (b := k20) (ci := 12) cx fx dy (c_X12_chosen hc46) mv_X12_chosen rfl rfl ⟨Nat.le_trans (by decide) hR.1, Nat.le_trans (by decide) hR.2⟩ tb_1353 hv42 rfl (by decide) rfl hl.1 rfl (Nat.le_of_ble_eq_true rfl) ⟨Nat.zero_le _, Nat.zero_le _⟩ dX12_doubt_122) (fun H locs dy => ?_)
        refine lv_lmul cx.1 cx.2.1 dX12_doubt_125 ?_
        refine lv_ladd cx.1 cx.2.1 dX12_doubt_126 ?_
        obtain ⟨y47, ey47, hr⟩ := of_nm hr
        refine lv_nml ey47 ?_
        refine lv_lstore (lv' := [(8, .long y47), (0, .ref (ad k20)), (1, .int x21), (2, .int x22), (3, .int x23), (4, .int x24), (5, .int x25), (6, .long y26), (10, .int x28)]) cx.1 cx.2.1 dX12_doubt_127 hl (by decide) rfl (fun ls hl => ?_)
        obtain ⟨x48, ex48, hr⟩ := of_nm hr
        refine lv_iinc (v := x48) (lv' := [(10, .int x48), (8, .long y47), (0, .ref (ad k20)), (1, .int x21), (2, .int x22), (3, .int x23), (4, .int x24), (5, .int x25), (6, .long y26)]) cx.1 cx.2.1 dX12_doubt_129 hl (k := 8) rfl (by rw [ex48]; rfl) (by decide) rfl (fun ls hl => ?_)
        refine lv_goto (tgt := 77) cx.1 cx.2.1 dX12_doubt_132 (by decide) ?_
        exact hh0 k20 x21 x22 x23 x24 x25 y26 y47 x48 g44 (Option.some.inj hr).symm H locs ls dy (lv_sub hl [2, 3, 4, 5, 6, 7, 8, 1, 0] rfl)
      · refine lv_icmp_le (tgt := 102) cx.1 cx.2.1 dX12_doubt_95 (by decide) (fun hn => absurd hn hc) (fun _ => ?_)
        refine lv_lconst (v := 0) cx.1 cx.2.1 dX12_doubt_98 (by decide) ?_
        refine lv_goto (tgt := 126) cx.1 cx.2.1 dX12_doubt_99 (by decide) ?_
        refine lv_ladd cx.1 cx.2.1 dX12_doubt_126 ?_
        obtain ⟨y49, ey49, hr⟩ := of_nm hr
        refine lv_nml ey49 ?_
        refine lv_lstore (lv' := [(8, .long y49), (0, .ref (ad k20)), (1, .int x21), (2, .int x22), (3, .int x23), (4, .int x24), (5, .int x25), (6, .long y26), (10, .int x28)]) cx.1 cx.2.1 dX12_doubt_127 hl (by decide) rfl (fun ls hl => ?_)
        obtain ⟨x50, ex50, hr⟩ := of_nm hr
        refine lv_iinc (v := x50) (lv' := [(10, .int x50), (8, .long y49), (0, .ref (ad k20)), (1, .int x21), (2, .int x22), (3, .int x23), (4, .int x24), (5, .int x25), (6, .long y26)]) cx.1 cx.2.1 dX12_doubt_129 hl (k := 8) rfl (by rw [ex50]; rfl) (by decide) rfl (fun ls hl => ?_)
        refine lv_goto (tgt := 77) cx.1 cx.2.1 dX12_doubt_132 (by decide) ?_
        exact hh0 k20 x21 x22 x23 x24 x25 y26 y49 x50 g29 (Option.some.inj hr).symm H locs ls dy (lv_sub hl [2, 3, 4, 5, 6, 7, 8, 1, 0] rfl)
noncomputable def r_X12_doubt (V : Vk) (k0 : Nat) (a1 : Int32) (a2 : Int32) (a3 : Int32) (a4 : Int32) (a5 : Int32) (g : Hq) : Option (Int64 × Hq) :=
  bnd (r_X12_isSome V a1 g) fun x2 g1 => brn (x2 = 0) (some ((-2 : Int64), g1)) (bnd (r_X12_isSome V a2 g1) fun x5 g4 => brn (x5 = 0) (some ((-2 : Int64), g4)) (bnd (r_X12_isSome V a3 g4) fun x8 g7 => brn (x8 = 0) (some ((-2 : Int64), g7)) (bnd (r_X12_isSome V a4 g7) fun x11 g10 => brn (x11 = 0) (some ((-2 : Int64), g10)) (brn ((((a1 + a2) + a3) + a4) = 0) (some ((-2 : Int64), g10)) (bnd (r_X12_in V a5 (0 : Int32) (2 : Int32) g10) fun x14 g13 => brn (x14 = 0) (some ((-2 : Int64), g13)) (grd (V k0 = some (12, 0)) <| bnd (r_X12_chosen V k0 (((a1 + a2) + a3) + a4) (a1 + a3) g13) fun y17 g16 => (lop (r_X12_doubt_77 V) (k0, a1, a2, a3, a4, a5, y17, (0 : Int64), (0 : Int32), g16))))))))
set_option maxHeartbeats 4000000 in
set_option maxRecDepth 100000 in
theorem c_X12_doubt {l : Launch} {D : va_G} {cA : Nat → ClassId} {sk : (Nat → Nat) × (Nat → Nat)} {ad : Nat → Nat} {A : Nat → Prop} {V : Vk} {k0 : Nat} {a1 : Int32} {a2 : Int32} {a3 : Int32} {a4 : Int32} {a5 : Int32} {g g0 : Hq} {r0 : Int64} (hr : r_X12_doubt V k0 a1 a2 a3 a4 a5 g = some (r0, g0)) : Met l yX12_doubt (wM yX12_doubt cX12_doubt 16 (some .long)) { frames := 2, cells := 0, slots := 0, locals := 42 } (Pre D cA sk ad (V, g) A [.ref (ad k0), .int a1, .int a2, .int a3, .int a4, .int a5]) (QL D cA ad A r0 (V, g0)) 0 0 A := by
  refine Met.ofW (cc := cX12_doubt) (maxL := 16) (ret := (some .long)) (by decide) rfl ?_
  intro p e s m args below meth c s₁ B hml hv
  obtain ⟨rfl, fx, w0⟩ := hv
  have hts := atoms_spec (ws := wM yX12_doubt cX12_doubt 16 (some .long)) B.pre
  have cx : CallFix p m c cX12_doubt 16 s ([.ref (ad k0), .int a1, .int a2, .int a3, .int a4, .int a5] : List Value).toArray gw_tbl RX12 := ⟨B.exec, B.bytes, hml, findClass_of_methodNamed B.named, fun w hw => hts w (List.mem_cons_of_mem _ hw)⟩
  have hlocks := B.notSynchronized
  have hret := B.returns
  have hR : 2 ≤ (headSpec (wM yX12_doubt cX12_doubt 16 (some .long)) { frames := 2, cells := 0, slots := 0, locals := 42 }).room.frames ∧ 42 ≤ (headSpec (wM yX12_doubt cX12_doubt 16 (some .long)) { frames := 2, cells := 0, slots := 0, locals := 42 }).room.locals := ⟨Nat.le_refl _, Nat.le_refl _⟩
  have dy : Dy D cA ad (V, g) A s.heap s.heap [] := ⟨w0, va_S.rf⟩
  have hl := lv_entry [.ref (ad k0), .int a1, .int a2, .int a3, .int a4, .int a5] (n := 16) (Nat.le_of_ble_eq_true rfl)
  rw [lg_entry_eq]
  generalize (lg_sl [.ref (ad k0), .int a1, .int a2, .int a3, .int a4, .int a5] ++ List.replicate (16 - (lg_sl [.ref (ad k0), .int a1, .int a2, .int a3, .int a4, .int a5]).length) Slot.unset).toArray = ls at hl ⊢
  have hl : lv_has ls 16 [(0, .ref (ad k0)), (1, .int a1), (2, .int a2), (3, .int a3), (4, .int a4), (5, .int a5)] := hl
  have dy0 : ∃ H0, H0 = s.heap ∧ Dy D cA ad (V, g) A s.heap H0 [] := ⟨_, rfl, dy⟩
  obtain ⟨z, ez⟩ : ∃ z, z = (r0, g0) := ⟨_, rfl⟩
  rw [← ez] at hr
  have hq0 : ∀ (rb : Int64) (gb : Hq), z = (rb, gb) → rb = r0 ∧ gb = g0 := fun rb gb eb => by rw [ez] at eb; exact ⟨(congrArg Prod.fst eb).symm, (congrArg Prod.snd eb).symm⟩
  clear ez w0 dy0
  unfold r_X12_doubt at hr
  obtain ⟨H, hH⟩ : ∃ H, H = s.heap := ⟨_, rfl⟩
  obtain ⟨locs, hlo⟩ : ∃ q : List Loc, q = [] := ⟨_, rfl⟩
  have dy : Dy D cA ad (V, g) A s.heap H locs := by rw [hH, hlo]; exact dy
  suffices K : W p l e (headSpec (wM yX12_doubt cX12_doubt 16 (some .long)) { frames := 2, cells := 0, slots := 0, locals := 42 }).room s m ([.ref (ad k0), .int a1, .int a2, .int a3, .int a4, .int a5] : List Value).toArray below meth c H locs 0 0 (MQ below (QL D cA ad A r0 (V, g0)) ([.ref (ad k0), .int a1, .int a2, .int a3, .int a4, .int a5] : List Value).toArray s 0 0 A) (F0 m 0 ls []) by rw [hH, hlo] at K; exact K
  clear hH hlo
  refine lv_iload_n cx.1 cx.2.1 dX12_doubt_0 rfl (lv_at hl 1 rfl) ?_
  obtain ⟨x2, g1, hc3, hr⟩ := of_bnd2 hr
  refine r_i dy (k_S (As := [.int a1]) cx fx dy (c_X12_isSome hc3) mv_X12_isSome rfl rfl ⟨Nat.le_trans (by decide) hR.1, Nat.le_trans (by decide) hR.2⟩ tb_1349 rfl hl.1 rfl (Nat.le_of_ble_eq_true rfl) ⟨Nat.zero_le _, Nat.zero_le _⟩ dX12_doubt_1) (fun H locs dy => ?_)
  rcases of_brn hr with ⟨hc, hr⟩ | ⟨hc, hr⟩
  · refine lv_if_eq (tgt := 50) cx.1 cx.2.1 dX12_doubt_4 (by decide) (fun _ => ?_) (fun hn => absurd hc hn)
    refine lv_ldc2 (v := (-2)) cx.1 cx.2.1 cx.2.2.2.1 (cx.2.2.2.2 _ tb_1352) dX12_doubt_50 ?_
    obtain ⟨e0, e1⟩ := hq0 _ _ (Option.some.inj hr).symm
    exact h_lret cx dy hlocks hret e0 (by rw [e1]) dX12_doubt_53
  · refine lv_if_eq (tgt := 50) cx.1 cx.2.1 dX12_doubt_4 (by decide) (fun hn => absurd hn hc) (fun _ => ?_)
    refine lv_iload_n cx.1 cx.2.1 dX12_doubt_7 rfl (lv_at hl 2 rfl) ?_
    obtain ⟨x5, g4, hc6, hr⟩ := of_bnd2 hr
    refine r_i dy (k_S (As := [.int a2]) cx fx dy (c_X12_isSome hc6) mv_X12_isSome rfl rfl ⟨Nat.le_trans (by decide) hR.1, Nat.le_trans (by decide) hR.2⟩ tb_1349 rfl hl.1 rfl (Nat.le_of_ble_eq_true rfl) ⟨Nat.zero_le _, Nat.zero_le _⟩ dX12_doubt_8) (fun H locs dy => ?_)
    rcases of_brn hr with ⟨hc, hr⟩ | ⟨hc, hr⟩
    · refine lv_if_eq (tgt := 50) cx.1 cx.2.1 dX12_doubt_11 (by decide) (fun _ => ?_) (fun hn => absurd hc hn)
      refine lv_ldc2 (v := (-2)) cx.1 cx.2.1 cx.2.2.2.1 (cx.2.2.2.2 _ tb_1352) dX12_doubt_50 ?_
      obtain ⟨e0, e1⟩ := hq0 _ _ (Option.some.inj hr).symm
      exact h_lret cx dy hlocks hret e0 (by rw [e1]) dX12_doubt_53
    · refine lv_if_eq (tgt := 50) cx.1 cx.2.1 dX12_doubt_11 (by decide) (fun hn => absurd hn hc) (fun _ => ?_)
      refine lv_iload_n cx.1 cx.2.1 dX12_doubt_14 rfl (lv_at hl 3 rfl) ?_
      obtain ⟨x8, g7, hc9, hr⟩ := of_bnd2 hr
      refine r_i dy (k_S (As := [.int a3]) cx fx dy (c_X12_isSome hc9) mv_X12_isSome rfl rfl ⟨Nat.le_trans (by decide) hR.1, Nat.le_trans (by decide) hR.2⟩ tb_1349 rfl hl.1 rfl (Nat.le_of_ble_eq_true rfl) ⟨Nat.zero_le _, Nat.zero_le _⟩ dX12_doubt_15) (fun H locs dy => ?_)
      rcases of_brn hr with ⟨hc, hr⟩ | ⟨hc, hr⟩
      · refine lv_if_eq (tgt := 50) cx.1 cx.2.1 dX12_doubt_18 (by decide) (fun _ => ?_) (fun hn => absurd hc hn)
        refine lv_ldc2 (v := (-2)) cx.1 cx.2.1 cx.2.2.2.1 (cx.2.2.2.2 _ tb_1352) dX12_doubt_50 ?_
        obtain ⟨e0, e1⟩ := hq0 _ _ (Option.some.inj hr).symm
        exact h_lret cx dy hlocks hret e0 (by rw [e1]) dX12_doubt_53
      · refine lv_if_eq (tgt := 50) cx.1 cx.2.1 dX12_doubt_18 (by decide) (fun hn => absurd hn hc) (fun _ => ?_)
        refine lv_iload cx.1 cx.2.1 dX12_doubt_21 (lv_at hl 4 rfl) ?_
        obtain ⟨x11, g10, hc12, hr⟩ := of_bnd2 hr
        refine r_i dy (k_S (As := [.int a4]) cx fx dy (c_X12_isSome hc12) mv_X12_isSome rfl rfl ⟨Nat.le_trans (by decide) hR.1, Nat.le_trans (by decide) hR.2⟩ tb_1349 rfl hl.1 rfl (Nat.le_of_ble_eq_true rfl) ⟨Nat.zero_le _, Nat.zero_le _⟩ dX12_doubt_23) (fun H locs dy => ?_)
        rcases of_brn hr with ⟨hc, hr⟩ | ⟨hc, hr⟩
        · refine lv_if_eq (tgt := 50) cx.1 cx.2.1 dX12_doubt_26 (by decide) (fun _ => ?_) (fun hn => absurd hc hn)
          refine lv_ldc2 (v := (-2)) cx.1 cx.2.1 cx.2.2.2.1 (cx.2.2.2.2 _ tb_1352) dX12_doubt_50 ?_
          obtain ⟨e0, e1⟩ := hq0 _ _ (Option.some.inj hr).symm
          exact h_lret cx dy hlocks hret e0 (by rw [e1]) dX12_doubt_53
        · refine lv_if_eq (tgt := 50) cx.1 cx.2.1 dX12_doubt_26 (by decide) (fun hn => absurd hn hc) (fun _ => ?_)
          refine lv_iload_n cx.1 cx.2.1 dX12_doubt_29 rfl (lv_at hl 1 rfl) ?_
          refine lv_iload_n cx.1 cx.2.1 dX12_doubt_30 rfl (lv_at hl 2 rfl) ?_
          refine lv_iadd cx.1 cx.2.1 dX12_doubt_31 ?_
          refine lv_iload_n cx.1 cx.2.1 dX12_doubt_32 rfl (lv_at hl 3 rfl) ?_
          refine lv_iadd cx.1 cx.2.1 dX12_doubt_33 ?_
          refine lv_iload cx.1 cx.2.1 dX12_doubt_34 (lv_at hl 4 rfl) ?_
          refine lv_iadd cx.1 cx.2.1 dX12_doubt_36 ?_
          rcases of_brn hr with ⟨hc, hr⟩ | ⟨hc, hr⟩
          · refine lv_if_eq (tgt := 50) cx.1 cx.2.1 dX12_doubt_37 (by decide) (fun _ => ?_) (fun hn => absurd hc hn)
            refine lv_ldc2 (v := (-2)) cx.1 cx.2.1 cx.2.2.2.1 (cx.2.2.2.2 _ tb_1352) dX12_doubt_50 ?_
            obtain ⟨e0, e1⟩ := hq0 _ _ (Option.some.inj hr).symm
            exact h_lret cx dy hlocks hret e0 (by rw [e1]) dX12_doubt_53
          · refine lv_if_eq (tgt := 50) cx.1 cx.2.1 dX12_doubt_37 (by decide) (fun hn => absurd hn hc) (fun _ => ?_)
            refine lv_iload cx.1 cx.2.1 dX12_doubt_40 (lv_at hl 5 rfl) ?_
            refine lv_iconst (v := 0) cx.1 cx.2.1 dX12_doubt_42 (by decide) ?_
            refine lv_iconst (v := 2) cx.1 cx.2.1 dX12_doubt_43 (by decide) ?_
            obtain ⟨x14, g13, hc15, hr⟩ := of_bnd2 hr
            refine r_i dy (k_S (As := [.int a5, .int (0 : Int32), .int (2 : Int32)]) cx fx dy (c_X12_in hc15) mv_X12_in rfl rfl ⟨Nat.le_trans (by decide) hR.1, Nat.le_trans (by decide) hR.2⟩ tb_1170 rfl hl.1 rfl (Nat.le_of_ble_eq_true rfl) ⟨Nat.zero_le _, Nat.zero_le _⟩ dX12_doubt_44) (fun H locs dy => ?_)
            rcases of_brn hr with ⟨hc, hr⟩ | ⟨hc, hr⟩
            · refine lv_if_ne (tgt := 54) cx.1 cx.2.1 dX12_doubt_47 (by decide) (fun hn => absurd hc hn) (fun _ => ?_)
              refine lv_ldc2 (v := (-2)) cx.1 cx.2.1 cx.2.2.2.1 (cx.2.2.2.2 _ tb_1352) dX12_doubt_50 ?_
              obtain ⟨e0, e1⟩ := hq0 _ _ (Option.some.inj hr).symm
              exact h_lret cx dy hlocks hret e0 (by rw [e1]) dX12_doubt_53
            · refine lv_if_ne (tgt := 54) cx.1 cx.2.1 dX12_doubt_47 (by decide) (fun _ => ?_) (fun hn => absurd hn hc)
              refine lv_aload_n cx.1 cx.2.1 dX12_doubt_54 rfl (lv_at hl 0 rfl) ?_
              refine lv_iload_n cx.1 cx.2.1 dX12_doubt_55 rfl (lv_at hl 1 rfl) ?_
              refine lv_iload_n cx.1 cx.2.1 dX12_doubt_56 rfl (lv_at hl 2 rfl) ?_
              refine lv_iadd cx.1 cx.2.1 dX12_doubt_57 ?_
              refine lv_iload_n cx.1 cx.2.1 dX12_doubt_58 rfl (lv_at hl 3 rfl) ?_
              refine lv_iadd cx.1 cx.2.1 dX12_doubt_59 ?_
              refine lv_iload cx.1 cx.2.1 dX12_doubt_60 (lv_at hl 4 rfl) ?_
              refine lv_iadd cx.1 cx.2.1 dX12_doubt_62 ?_
              refine lv_iload_n cx.1 cx.2.1 dX12_doubt_63 rfl (lv_at hl 1 rfl) ?_
              refine lv_iload_n cx.1 cx.2.1 dX12_doubt_64 rfl (lv_at hl 3 rfl) ?_
              refine lv_iadd cx.1 cx.2.1 dX12_doubt_65 ?_
              obtain ⟨hv18, hr⟩ := of_grd hr
              obtain ⟨y17, g16, hc19, hr⟩ := of_bnd2 hr
              refine r_l dy (k_V (As := [.int (((a1 + a2) + a3) + a4), .int (a1 + a3)]) (b := k0) (ci := 12) cx fx dy (c_X12_chosen hc19) mv_X12_chosen rfl rfl ⟨Nat.le_trans (by decide) hR.1, Nat.le_trans (by decide) hR.2⟩ tb_1353 hv18 rfl (by decide) rfl hl.1 rfl (Nat.le_of_ble_eq_true rfl) ⟨Nat.zero_le _, Nat.zero_le _⟩ dX12_doubt_66) (fun H locs dy => ?_)
              refine lv_lstore (lv' := [(6, .long y17), (0, .ref (ad k0)), (1, .int a1), (2, .int a2), (3, .int a3), (4, .int a4), (5, .int a5)]) cx.1 cx.2.1 dX12_doubt_69 hl (by decide) rfl (fun ls hl => ?_)
              refine lv_lconst (v := 0) cx.1 cx.2.1 dX12_doubt_71 (by decide) ?_
              refine lv_lstore (lv' := [(8, .long (0 : Int64)), (6, .long y17), (0, .ref (ad k0)), (1, .int a1), (2, .int a2), (3, .int a3), (4, .int a4), (5, .int a5)]) cx.1 cx.2.1 dX12_doubt_72 hl (by decide) rfl (fun ls hl => ?_)
              refine lv_iconst (v := 0) cx.1 cx.2.1 dX12_doubt_74 (by decide) ?_
              refine lv_istore (lv' := [(10, .int (0 : Int32)), (8, .long (0 : Int64)), (6, .long y17), (0, .ref (ad k0)), (1, .int a1), (2, .int a2), (3, .int a3), (4, .int a4), (5, .int a5)]) cx.1 cx.2.1 dX12_doubt_75 hl (by decide) rfl (fun ls hl => ?_)
              obtain ⟨n, hr⟩ := lop_some hr
              exact w_X12_doubt_77 cx fx hlocks hret hR r0 g0 z hq0 n k0 a1 a2 a3 a4 a5 y17 (0 : Int64) (0 : Int32) g16 hr H locs ls dy (lv_sub hl [3, 4, 5, 6, 7, 8, 2, 1, 0] rfl)
noncomputable def r_X12_count (V : Vk) (k0 : Nat) (a1 : Int32) (g : Hq) : Option (Int32 × Hq) :=
  brn (a1 = (0 : Int32)) (grd (V k0 = some (12, 0)) <| some ((g.1 k0 32), g)) (brn (a1 = (1 : Int32)) (grd (V k0 = some (12, 0)) <| some ((g.1 k0 46), g)) (brn (a1 = (2 : Int32)) (grd (V k0 = some (12, 0)) <| some ((g.1 k0 1), g)) (bnd (r_X12_in V a1 (10 : Int32) (13 : Int32) g) fun x8 g7 => brn (x8 = 0) (bnd (r_X12_in V a1 (20 : Int32) (23 : Int32) g7) fun x11 g10 => brn (x11 = 0) (bnd (r_X12_in V a1 (30 : Int32) (33 : Int32) g10) fun x14 g13 => brn (x14 = 0) (some ((-1 : Int32), g13)) (grd (V k0 = some (12, 0)) <| Option.bind (g13.2.2 k0 39) fun k17 => grd (okV V k17 0 (a1 - (30 : Int32))) <| some ((g13.1 k17 (a1 - (30 : Int32)).toNatClampNeg), g13))) (grd (V k0 = some (12, 0)) <| bnd (r_X12_lying V k0 (a1 - (20 : Int32)) g10) fun x21 g20 => some (x21, g20))) (grd (V k0 = some (12, 0)) <| Option.bind (g7.2.2 k0 45) fun k25 => grd (okV V k25 0 (a1 - (10 : Int32))) <| some ((g7.1 k25 (a1 - (10 : Int32)).toNatClampNeg), g7)))))
set_option maxHeartbeats 4000000 in
set_option maxRecDepth 100000 in
theorem c_X12_count {l : Launch} {D : va_G} {cA : Nat → ClassId} {sk : (Nat → Nat) × (Nat → Nat)} {ad : Nat → Nat} {A : Nat → Prop} {V : Vk} {k0 : Nat} {a1 : Int32} {g g0 : Hq} {r0 : Int32} (hr : r_X12_count V k0 a1 g = some (r0, g0)) : Met l yX12_count (wM yX12_count cX12_count 2 (some .int)) { frames := 1, cells := 0, slots := 0, locals := 23 } (Pre D cA sk ad (V, g) A [.ref (ad k0), .int a1]) (QI D cA ad A r0 (V, g0)) 0 0 A := by
  refine Met.ofW (cc := cX12_count) (maxL := 2) (ret := (some .int)) (by decide) rfl ?_
  intro p e s m args below meth c s₁ B hml hv
  obtain ⟨rfl, fx, w0⟩ := hv
  have hts := atoms_spec (ws := wM yX12_count cX12_count 2 (some .int)) B.pre
  have cx : CallFix p m c cX12_count 2 s ([.ref (ad k0), .int a1] : List Value).toArray gw_tbl RX12 := ⟨B.exec, B.bytes, hml, findClass_of_methodNamed B.named, fun w hw => hts w (List.mem_cons_of_mem _ hw)⟩
  have hlocks := B.notSynchronized
  have hret := B.returns
  have hR : 1 ≤ (headSpec (wM yX12_count cX12_count 2 (some .int)) { frames := 1, cells := 0, slots := 0, locals := 23 }).room.frames ∧ 23 ≤ (headSpec (wM yX12_count cX12_count 2 (some .int)) { frames := 1, cells := 0, slots := 0, locals := 23 }).room.locals := ⟨Nat.le_refl _, Nat.le_refl _⟩
  have dy : Dy D cA ad (V, g) A s.heap s.heap [] := ⟨w0, va_S.rf⟩
  have hl := lv_entry [.ref (ad k0), .int a1] (n := 2) (Nat.le_of_ble_eq_true rfl)
  rw [lg_entry_eq]
  generalize (lg_sl [.ref (ad k0), .int a1] ++ List.replicate (2 - (lg_sl [.ref (ad k0), .int a1]).length) Slot.unset).toArray = ls at hl ⊢
  have hl : lv_has ls 2 [(0, .ref (ad k0)), (1, .int a1)] := hl
  have dy0 : ∃ H0, H0 = s.heap ∧ Dy D cA ad (V, g) A s.heap H0 [] := ⟨_, rfl, dy⟩
  obtain ⟨z, ez⟩ : ∃ z, z = (r0, g0) := ⟨_, rfl⟩
  rw [← ez] at hr
  have hq0 : ∀ (rb : Int32) (gb : Hq), z = (rb, gb) → rb = r0 ∧ gb = g0 := fun rb gb eb => by rw [ez] at eb; exact ⟨(congrArg Prod.fst eb).symm, (congrArg Prod.snd eb).symm⟩
  clear ez w0 dy0
  unfold r_X12_count at hr
  obtain ⟨H, hH⟩ : ∃ H, H = s.heap := ⟨_, rfl⟩
  obtain ⟨locs, hlo⟩ : ∃ q : List Loc, q = [] := ⟨_, rfl⟩
  have dy : Dy D cA ad (V, g) A s.heap H locs := by rw [hH, hlo]; exact dy
  suffices K : W p l e (headSpec (wM yX12_count cX12_count 2 (some .int)) { frames := 1, cells := 0, slots := 0, locals := 23 }).room s m ([.ref (ad k0), .int a1] : List Value).toArray below meth c H locs 0 0 (MQ below (QI D cA ad A r0 (V, g0)) ([.ref (ad k0), .int a1] : List Value).toArray s 0 0 A) (F0 m 0 ls []) by rw [hH, hlo] at K; exact K
  clear hH hlo
  refine lv_iload_n cx.1 cx.2.1 dX12_count_0 rfl (lv_at hl 1 rfl) ?_
  rcases of_brn hr with ⟨hc, hr⟩ | ⟨hs2, hr⟩
  · refine lv_tableIn (off := 27) (tgt := 28) cx.1 cx.2.1 dX12_count_1 (by rw [hc]; decide) (by rw [hc]; decide) (by rw [hc]; rfl) (by decide) ?_
    refine lv_aload_n cx.1 cx.2.1 dX12_count_28 rfl (lv_at hl 0 rfl) ?_
    obtain ⟨hv1, hr⟩ := of_grd hr
    refine h_getI cx fx dy fd_12_32 hv1 tb_1018 dX12_count_29 ?_
    obtain ⟨e0, e1⟩ := hq0 _ _ (Option.some.inj hr).symm
    exact h_iret cx dy hlocks hret rfl e0 (by rw [e1]) dX12_count_32
  rcases of_brn hr with ⟨hc, hr⟩ | ⟨hs4, hr⟩
  · refine lv_tableIn (off := 32) (tgt := 33) cx.1 cx.2.1 dX12_count_1 (by rw [hc]; decide) (by rw [hc]; decide) (by rw [hc]; rfl) (by decide) ?_
    refine lv_aload_n cx.1 cx.2.1 dX12_count_33 rfl (lv_at hl 0 rfl) ?_
    obtain ⟨hv3, hr⟩ := of_grd hr
    refine h_getI cx fx dy fd_12_46 hv3 tb_1032 dX12_count_34 ?_
    obtain ⟨e0, e1⟩ := hq0 _ _ (Option.some.inj hr).symm
    exact h_iret cx dy hlocks hret rfl e0 (by rw [e1]) dX12_count_37
  rcases of_brn hr with ⟨hc, hr⟩ | ⟨hs6, hr⟩
  · refine lv_tableIn (off := 37) (tgt := 38) cx.1 cx.2.1 dX12_count_1 (by rw [hc]; decide) (by rw [hc]; decide) (by rw [hc]; rfl) (by decide) ?_
    refine lv_aload_n cx.1 cx.2.1 dX12_count_38 rfl (lv_at hl 0 rfl) ?_
    obtain ⟨hv5, hr⟩ := of_grd hr
    refine h_getI cx fx dy fd_12_1 hv5 tb_987 dX12_count_39 ?_
    obtain ⟨e0, e1⟩ := hq0 _ _ (Option.some.inj hr).symm
    exact h_iret cx dy hlocks hret rfl e0 (by rw [e1]) dX12_count_42
  refine lv_tableOut (tgt := 43) cx.1 cx.2.1 dX12_count_1 (tsw_out (fun n h1 h2 => ?_)) (by decide) ?_
  · rcases (show n = 0 ∨ n = 1 ∨ n = 2 by omega) with rfl | rfl | rfl
    · exact hs2
    · exact hs4
    · exact hs6
  · skip
    refine lv_iload_n cx.1 cx.2.1 dX12_count_43 rfl (lv_at hl 1 rfl) ?_
    refine lv_bipush (v := 10) cx.1 cx.2.1 dX12_count_44 (by decide) ?_
    refine lv_bipush (v := 13) cx.1 cx.2.1 dX12_count_46 (by decide) ?_
    obtain ⟨x8, g7, hc9, hr⟩ := of_bnd2 hr
    refine r_i dy (k_S (As := [.int a1, .int (10 : Int32), .int (13 : Int32)]) cx fx dy (c_X12_in hc9) mv_X12_in rfl rfl ⟨Nat.le_trans (by decide) hR.1, Nat.le_trans (by decide) hR.2⟩ tb_1170 rfl hl.1 rfl (Nat.le_of_ble_eq_true rfl) ⟨Nat.zero_le _, Nat.zero_le _⟩ dX12_count_48) (fun H locs dy => ?_)
    rcases of_brn hr with ⟨hc, hr⟩ | ⟨hc, hr⟩
    · refine lv_if_eq (tgt := 64) cx.1 cx.2.1 dX12_count_51 (by decide) (fun _ => ?_) (fun hn => absurd hc hn)
      refine lv_iload_n cx.1 cx.2.1 dX12_count_64 rfl (lv_at hl 1 rfl) ?_
      refine lv_bipush (v := 20) cx.1 cx.2.1 dX12_count_65 (by decide) ?_
      refine lv_bipush (v := 23) cx.1 cx.2.1 dX12_count_67 (by decide) ?_
      obtain ⟨x11, g10, hc12, hr⟩ := of_bnd2 hr
      refine r_i dy (k_S (As := [.int a1, .int (20 : Int32), .int (23 : Int32)]) cx fx dy (c_X12_in hc12) mv_X12_in rfl rfl ⟨Nat.le_trans (by decide) hR.1, Nat.le_trans (by decide) hR.2⟩ tb_1170 rfl hl.1 rfl (Nat.le_of_ble_eq_true rfl) ⟨Nat.zero_le _, Nat.zero_le _⟩ dX12_count_69) (fun H locs dy => ?_)
      rcases of_brn hr with ⟨hc, hr⟩ | ⟨hc, hr⟩
      · refine lv_if_eq (tgt := 84) cx.1 cx.2.1 dX12_count_72 (by decide) (fun _ => ?_) (fun hn => absurd hc hn)
        refine lv_iload_n cx.1 cx.2.1 dX12_count_84 rfl (lv_at hl 1 rfl) ?_
        refine lv_bipush (v := 30) cx.1 cx.2.1 dX12_count_85 (by decide) ?_
        refine lv_bipush (v := 33) cx.1 cx.2.1 dX12_count_87 (by decide) ?_
        obtain ⟨x14, g13, hc15, hr⟩ := of_bnd2 hr
        refine r_i dy (k_S (As := [.int a1, .int (30 : Int32), .int (33 : Int32)]) cx fx dy (c_X12_in hc15) mv_X12_in rfl rfl ⟨Nat.le_trans (by decide) hR.1, Nat.le_trans (by decide) hR.2⟩ tb_1170 rfl hl.1 rfl (Nat.le_of_ble_eq_true rfl) ⟨Nat.zero_le _, Nat.zero_le _⟩ dX12_count_89) (fun H locs dy => ?_)
        rcases of_brn hr with ⟨hc, hr⟩ | ⟨hc, hr⟩
        · refine lv_if_eq (tgt := 107) cx.1 cx.2.1 dX12_count_92 (by decide) (fun _ => ?_) (fun hn => absurd hc hn)
          refine lv_iconst (v := (-1)) cx.1 cx.2.1 dX12_count_107 (by decide) ?_
          obtain ⟨e0, e1⟩ := hq0 _ _ (Option.some.inj hr).symm
          exact h_iret cx dy hlocks hret rfl e0 (by rw [e1]) dX12_count_108
        · refine lv_if_eq (tgt := 107) cx.1 cx.2.1 dX12_count_92 (by decide) (fun hn => absurd hn hc) (fun _ => ?_)
          refine lv_aload_n cx.1 cx.2.1 dX12_count_95 rfl (lv_at hl 0 rfl) ?_
          obtain ⟨hv16, hr⟩ := of_grd hr
          obtain ⟨k17, hf18, hr⟩ := of_bnd hr
          refine h_getR cx fx dy fd_12_39 hv16 tb_1025 hf18 dX12_count_96 ?_
          refine lv_iload_n cx.1 cx.2.1 dX12_count_99 rfl (lv_at hl 1 rfl) ?_
          refine lv_bipush (v := 30) cx.1 cx.2.1 dX12_count_100 (by decide) ?_
          refine lv_isub cx.1 cx.2.1 dX12_count_102 ?_
          obtain ⟨ha19, hr⟩ := of_grd hr
          refine h_iald cx fx dy ha19 dX12_count_103 ?_
          refine lv_goto (tgt := 108) cx.1 cx.2.1 dX12_count_104 (by decide) ?_
          obtain ⟨e0, e1⟩ := hq0 _ _ (Option.some.inj hr).symm
          exact h_iret cx dy hlocks hret rfl e0 (by rw [e1]) dX12_count_108
      · refine lv_if_eq (tgt := 84) cx.1 cx.2.1 dX12_count_72 (by decide) (fun hn => absurd hn hc) (fun _ => ?_)
        refine lv_aload_n cx.1 cx.2.1 dX12_count_75 rfl (lv_at hl 0 rfl) ?_
        refine lv_iload_n cx.1 cx.2.1 dX12_count_76 rfl (lv_at hl 1 rfl) ?_
        refine lv_bipush (v := 20) cx.1 cx.2.1 dX12_count_77 (by decide) ?_
        refine lv_isub cx.1 cx.2.1 dX12_count_79 ?_
        obtain ⟨hv22, hr⟩ := of_grd hr
        obtain ⟨x21, g20, hc23, hr⟩ := of_bnd2 hr
        refine r_i dy (k_V (As := [.int (a1 - (20 : Int32))]) (b := k0) (ci := 12) cx fx dy (c_X12_lying hc23) mv_X12_lying rfl rfl ⟨Nat.le_trans (by decide) hR.1, Nat.le_trans (by decide) hR.2⟩ tb_1325 hv22 rfl (by decide) rfl hl.1 rfl (Nat.le_of_ble_eq_true rfl) ⟨Nat.zero_le _, Nat.zero_le _⟩ dX12_count_80) (fun H locs dy => ?_)
        obtain ⟨e0, e1⟩ := hq0 _ _ (Option.some.inj hr).symm
        exact h_iret cx dy hlocks hret rfl e0 (by rw [e1]) dX12_count_83
    · refine lv_if_eq (tgt := 64) cx.1 cx.2.1 dX12_count_51 (by decide) (fun hn => absurd hn hc) (fun _ => ?_)
      refine lv_aload_n cx.1 cx.2.1 dX12_count_54 rfl (lv_at hl 0 rfl) ?_
      obtain ⟨hv24, hr⟩ := of_grd hr
      obtain ⟨k25, hf26, hr⟩ := of_bnd hr
      refine h_getR cx fx dy fd_12_45 hv24 tb_1031 hf26 dX12_count_55 ?_
      refine lv_iload_n cx.1 cx.2.1 dX12_count_58 rfl (lv_at hl 1 rfl) ?_
      refine lv_bipush (v := 10) cx.1 cx.2.1 dX12_count_59 (by decide) ?_
      refine lv_isub cx.1 cx.2.1 dX12_count_61 ?_
      obtain ⟨ha27, hr⟩ := of_grd hr
      refine h_iald cx fx dy ha27 dX12_count_62 ?_
      obtain ⟨e0, e1⟩ := hq0 _ _ (Option.some.inj hr).symm
      exact h_iret cx dy hlocks hret rfl e0 (by rw [e1]) dX12_count_63
