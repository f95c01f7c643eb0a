noncomputable def r_X12_feed_73' (V : Vk) (k11 : Nat) (x12 : Int32) (x13 : Int32) (x14 : Int32) (x15 : Int32) (x16 : Int32) (x17 : Int32) (x18 : Int32) (x19 : Int32) (g20 : Hq) : Option ((Nat × Int32 × Int32 × Int32 × Int32 × Int32 × Int32 × Int32 × Int32 × Hq) ⊕ ((Nat × Int32 × Int32 × Int32 × Int32 × Int32 × Int32 × Hq) ⊕ (Int32 × Hq))) :=
  brn (x19 < 0) (nm (x17 + (1 : Int32)) fun x21 => some (.inr (.inl (k11, x12, x13, x14, x15, x16, x21, g20)))) (grd (V k11 = some (12, 0)) <| Option.bind (g20.2.2 k11 0) fun k23 => grd (okV V k23 1 (g20.1 k11 1)) <| nm (sI g20 k23 (g20.1 k11 1).toNatClampNeg (vp_nar .byte (x18 >>> (x19 &&& 31)).toInt8.toInt32)) fun g26 => nm (sI g26 k11 1 ((g26.1 k11 1) + (1 : Int32))) fun g27 => nm (x19 + (-8 : Int32)) fun x28 => some (.inl (k11, x12, x13, x14, x15, x16, x17, x18, x28, g27)))
noncomputable def r_X12_feed_73 (V : Vk) (st : (Nat × Int32 × Int32 × Int32 × Int32 × Int32 × Int32 × Int32 × Int32 × Hq)) : Option ((Nat × Int32 × Int32 × Int32 × Int32 × Int32 × Int32 × Int32 × Int32 × Hq) ⊕ ((Nat × Int32 × Int32 × Int32 × Int32 × Int32 × Int32 × Hq) ⊕ (Int32 × Hq))) := r_X12_feed_73' V st.1 st.2.1 st.2.2.1 st.2.2.2.1 st.2.2.2.2.1 st.2.2.2.2.2.1 st.2.2.2.2.2.2.1 st.2.2.2.2.2.2.2.1 st.2.2.2.2.2.2.2.2.1 st.2.2.2.2.2.2.2.2.2
set_option maxHeartbeats 4000000 in
set_option maxRecDepth 100000 in
theorem w_X12_feed_73 {p : Program} {l : Launch} {e : Env} {R : Room} {s : State} {m : MethodId} {args : Array Value} {below : List Frame} {meth : Method} {c : Code} {D : va_G} {cA : Nat → ClassId} {sk : (Nat → Nat) × (Nat → Nat)} {ad : Nat → Nat} {A : Nat → Prop} {V : Vk} (cx : CallFix p m c cX12_feed 9 s args gw_tbl RX12) (fx : Fx D cA sk A s) (hlocks : meth.locks = false) (hret : meth.sig.returnType = (some .int)) (hR : 0 ≤ R.frames ∧ 0 ≤ R.locals) (r0 : Int32) (g0 : Hq) (y : ((Nat × Int32 × Int32 × Int32 × Int32 × Int32 × Int32 × Hq) ⊕ (Int32 × Hq))) (hk0 : ∀ (b0 : Nat) (b1 : Int32) (b2 : Int32) (b3 : Int32) (b4 : Int32) (b5 : Int32) (b6 : Int32) (gb : Hq), y = (.inl (b0, b1, b2, b3, b4, b5, b6, gb)) → ∀ (H : Heap) (locs : List Loc) (ls : Array Slot), Dy D cA ad (V, gb) A s.heap H locs → lv_has ls 9 [(0, .ref (ad b0)), (1, .int b1), (2, .int b2), (3, .int b3), (4, .int b4), (5, .int b5), (6, .int b6)] → W p l e R s m args below meth c H locs 0 0 (MQ below (QI D cA ad A r0 (V, g0)) args s 0 0 A) (F0 m 19 ls [])) (hq : ∀ (rb : Int32) (gb : Hq), y = (.inr (rb, gb)) → rb = r0 ∧ gb = g0) : ∀ (n : Nat) (k11 : Nat) (x12 : Int32) (x13 : Int32) (x14 : Int32) (x15 : Int32) (x16 : Int32) (x17 : Int32) (x18 : Int32) (x19 : Int32) (g20 : Hq), itr (r_X12_feed_73 V) n (k11, x12, x13, x14, x15, x16, x17, x18, x19, g20) = some y → ∀ (H : Heap) (locs : List Loc) (ls : Array Slot), Dy D cA ad (V, g20) A s.heap H locs → lv_has ls 9 [(0, .ref (ad k11)), (1, .int x12), (2, .int x13), (3, .int x14), (4, .int x15), (5, .int x16), (6, .int x17), (7, .int x18), (8, .int x19)] → W p l e R s m args below meth c H locs 0 0 (MQ below (QI D cA ad A r0 (V, g0)) args s 0 0 A) (F0 m 73 ls []) := by
  intro n
  induction n with
  | zero => intro k11 x12 x13 x14 x15 x16 x17 x18 x19 g20 hr; cases hr
  | succ n ih =>
    intro k11 x12 x13 x14 x15 x16 x17 x18 x19 g20 hr H locs ls dy hl
    obtain ⟨z, hz, hn1, hn2⟩ := itr_succ hr
    clear hr
    have hr : r_X12_feed_73' V k11 x12 x13 x14 x15 x16 x17 x18 x19 g20 = some z := hz
    clear hz
    unfold r_X12_feed_73' at hr
    have hh0 : ∀ (b0 : Nat) (b1 : Int32) (b2 : Int32) (b3 : Int32) (b4 : Int32) (b5 : Int32) (b6 : Int32) (b7 : Int32) (b8 : Int32) (gb : Hq), z = .inl (b0, b1, b2, b3, b4, b5, b6, b7, b8, gb) → ∀ (H : Heap) (locs : List Loc) (ls : Array Slot), Dy D cA ad (V, gb) A s.heap H locs → lv_has ls 9 [(0, .ref (ad b0)), (1, .int b1), (2, .int b2), (3, .int b3), (4, .int b4), (5, .int b5), (6, .int b6), (7, .int b7), (8, .int b8)] → W p l e R s m args below meth c H locs 0 0 (MQ below (QI D cA ad A r0 (V, g0)) args s 0 0 A) (F0 m 73 ls []) := fun b0 b1 b2 b3 b4 b5 b6 b7 b8 gb eb => ih b0 b1 b2 b3 b4 b5 b6 b7 b8 gb (hn1 _ eb)
    have hh1 : ∀ (b0 : Nat) (b1 : Int32) (b2 : Int32) (b3 : Int32) (b4 : Int32) (b5 : Int32) (b6 : Int32) (gb : Hq), z = (.inr (.inl (b0, b1, b2, b3, b4, b5, b6, gb))) → ∀ (H : Heap) (locs : List Loc) (ls : Array Slot), Dy D cA ad (V, gb) A s.heap H locs → lv_has ls 9 [(0, .ref (ad b0)), (1, .int b1), (2, .int b2), (3, .int b3), (4, .int b4), (5, .int b5), (6, .int b6)] → W p l e R s m args below meth c H locs 0 0 (MQ below (QI D cA ad A r0 (V, g0)) args s 0 0 A) (F0 m 19 ls []) := fun b0 b1 b2 b3 b4 b5 b6 gb eb => hk0 b0 b1 b2 b3 b4 b5 b6 gb (hn2 _ eb).symm
    have hq0 : ∀ (rb : Int32) (gb : Hq), z = (.inr (.inr (rb, gb))) → rb = r0 ∧ gb = g0 := fun rb gb eb => hq rb gb (hn2 _ eb).symm
    refine lv_iload cx.1 cx.2.1 dX12_feed_73 (lv_at hl 8 rfl) ?_
    rcases of_brn hr with ⟨hc, hr⟩ | ⟨hc, hr⟩
    · refine lv_if_lt (tgt := 109) cx.1 cx.2.1 dX12_feed_75 (by decide) (fun _ => ?_) (fun hn => absurd hc hn)
      obtain ⟨x21, ex21, hr⟩ := of_nm hr
      refine lv_iinc (v := x21) (lv' := [(6, .int x21), (0, .ref (ad k11)), (1, .int x12), (2, .int x13), (3, .int x14), (4, .int x15), (5, .int x16), (7, .int x18), (8, .int x19)]) cx.1 cx.2.1 dX12_feed_109 hl (k := 6) rfl (by rw [ex21]; rfl) (by decide) rfl (fun ls hl => ?_)
      refine lv_goto (tgt := 19) cx.1 cx.2.1 dX12_feed_112 (by decide) ?_
      exact hh1 k11 x12 x13 x14 x15 x16 x21 g20 (Option.some.inj hr).symm H locs ls dy (lv_sub hl [1, 2, 3, 4, 5, 6, 0] rfl)
    · refine lv_if_lt (tgt := 109) cx.1 cx.2.1 dX12_feed_75 (by decide) (fun hn => absurd hn hc) (fun _ => ?_)
      refine lv_aload_n cx.1 cx.2.1 dX12_feed_78 rfl (lv_at hl 0 rfl) ?_
      obtain ⟨hv22, hr⟩ := of_grd hr
      obtain ⟨k23, hf24, hr⟩ := of_bnd hr
      refine h_getR cx fx dy fd_12_0 hv22 tb_986 hf24 dX12_feed_79 ?_
      refine lv_aload_n cx.1 cx.2.1 dX12_feed_82 rfl (lv_at hl 0 rfl) ?_
      refine h_getI cx fx dy fd_12_1 hv22 tb_987 dX12_feed_83 ?_
      refine lv_iload cx.1 cx.2.1 dX12_feed_86 (lv_at hl 7 rfl) ?_
      refine lv_iload cx.1 cx.2.1 dX12_feed_88 (lv_at hl 8 rfl) ?_
      refine lv_ishr cx.1 cx.2.1 dX12_feed_90 ?_
      refine lv_i2b cx.1 cx.2.1 dX12_feed_91 rfl ?_
      obtain ⟨ha25, hr⟩ := of_grd hr
      obtain ⟨g26, eg26, hr⟩ := of_nm hr
      refine h_bast cx fx dy ha25 dX12_feed_92 (fun H locs dy => ?_)
      replace dy : Dy D cA ad (V, g26) A s.heap H locs := by rw [eg26]; exact dy
      refine lv_aload_n cx.1 cx.2.1 dX12_feed_93 rfl (lv_at hl 0 rfl) ?_
      refine lv_dup cx.1 cx.2.1 dX12_feed_94 rfl ?_
      refine h_getI cx fx dy fd_12_1 hv22 tb_987 dX12_feed_95 ?_
      refine lv_iconst (v := 1) cx.1 cx.2.1 dX12_feed_98 (by decide) ?_
      refine lv_iadd cx.1 cx.2.1 dX12_feed_99 ?_
      obtain ⟨g27, eg27, hr⟩ := of_nm hr
      refine h_putI cx fx dy fd_12_1 (pd_12_1 : PD _ _ _ _ _ .int) rfl rfl rfl hv22 tb_987 dX12_feed_100 (fun H locs dy => ?_)
      replace dy : Dy D cA ad (V, g27) A s.heap H locs := by rw [eg27]; exact dy
      obtain ⟨x28, ex28, hr⟩ := of_nm hr
      refine lv_iinc (v := x28) (lv' := [(8, .int x28), (0, .ref (ad k11)), (1, .int x12), (2, .int x13), (3, .int x14), (4, .int x15), (5, .int x16), (6, .int x17), (7, .int x18)]) cx.1 cx.2.1 dX12_feed_103 hl (k := 8) rfl (by rw [ex28]; rfl) (by decide) rfl (fun ls hl => ?_)
      refine lv_goto (tgt := 73) cx.1 cx.2.1 dX12_feed_106 (by decide) ?_
      exact hh0 k11 x12 x13 x14 x15 x16 x17 x18 x28 g27 (Option.some.inj hr).symm H locs ls dy (lv_sub hl [1, 2, 3, 4, 5, 6, 7, 8, 0] rfl)
noncomputable def r_X12_feed_19' (V : Vk) (k2 : Nat) (x3 : Int32) (x4 : Int32) (x5 : Int32) (x6 : Int32) (x7 : Int32) (x8 : Int32) (g9 : Hq) : Option ((Nat × Int32 × Int32 × Int32 × Int32 × Int32 × Int32 × Hq) ⊕ (Int32 × Hq)) :=
  brn ((5 : Int32) ≤ x8) (grd (V k2 = some (12, 0)) <| some (.inr ((g9.1 k2 1), g9))) (brn (x8 = 0) ((lop (r_X12_feed_73 V) (k2, x3, x4, x5, x6, x7, x8, x3, (24 : Int32), g9))) (brn (x8 = (1 : Int32)) ((lop (r_X12_feed_73 V) (k2, x3, x4, x5, x6, x7, x8, x4, (24 : Int32), g9))) (brn (x8 = (2 : Int32)) ((lop (r_X12_feed_73 V) (k2, x3, x4, x5, x6, x7, x8, x5, (24 : Int32), g9))) (brn (x8 = (3 : Int32)) ((lop (r_X12_feed_73 V) (k2, x3, x4, x5, x6, x7, x8, x6, (24 : Int32), g9))) ((lop (r_X12_feed_73 V) (k2, x3, x4, x5, x6, x7, x8, x7, (24 : Int32), g9)))))))
noncomputable def r_X12_feed_19 (V : Vk) (st : (Nat × Int32 × Int32 × Int32 × Int32 × Int32 × Int32 × Hq)) : Option ((Nat × Int32 × Int32 × Int32 × Int32 × Int32 × Int32 × Hq) ⊕ (Int32 × Hq)) := r_X12_feed_19' V st.1 st.2.1 st.2.2.1 st.2.2.2.1 st.2.2.2.2.1 st.2.2.2.2.2.1 st.2.2.2.2.2.2.1 st.2.2.2.2.2.2.2
set_option maxHeartbeats 4000000 in
set_option maxRecDepth 100000 in
theorem w_X12_feed_19 {p : Program} {l : Launch} {e : Env} {R : Room} {s : State} {m : MethodId} {args : Array Value} {below : List Frame} {meth : Method} {c : Code} {D : va_G} {cA : Nat → ClassId} {sk : (Nat → Nat) × (Nat → Nat)} {ad : Nat → Nat} {A : Nat → Prop} {V : Vk} (cx : CallFix p m c cX12_feed 9 s args gw_tbl RX12) (fx : Fx D cA sk A s) (hlocks : meth.locks = false) (hret : meth.sig.returnType = (some .int)) (hR : 0 ≤ R.frames ∧ 0 ≤ R.locals) (r0 : Int32) (g0 : Hq) (y : (Int32 × Hq)) (hq : ∀ (rb : Int32) (gb : Hq), y = (rb, gb) → rb = r0 ∧ gb = g0) : ∀ (n : Nat) (k2 : Nat) (x3 : Int32) (x4 : Int32) (x5 : Int32) (x6 : Int32) (x7 : Int32) (x8 : Int32) (g9 : Hq), itr (r_X12_feed_19 V) n (k2, x3, x4, x5, x6, x7, x8, g9) = some y → ∀ (H : Heap) (locs : List Loc) (ls : Array Slot), Dy D cA ad (V, g9) A s.heap H locs → lv_has ls 9 [(0, .ref (ad k2)), (1, .int x3), (2, .int x4), (3, .int x5), (4, .int x6), (5, .int x7), (6, .int x8)] → W p l e R s m args below meth c H locs 0 0 (MQ below (QI D cA ad A r0 (V, g0)) args s 0 0 A) (F0 m 19 ls []) := by
  intro n
  induction n with
  | zero => intro k2 x3 x4 x5 x6 x7 x8 g9 hr; cases hr
  | succ n ih =>
    intro k2 x3 x4 x5 x6 x7 x8 g9 hr H locs ls dy hl
    obtain ⟨z, hz, hn1, hn2⟩ := itr_succ hr
    clear hr
    have hr : r_X12_feed_19' V k2 x3 x4 x5 x6 x7 x8 g9 = some z := hz
    clear hz
    unfold r_X12_feed_19' at hr
    have hh0 : ∀ (b0 : Nat) (b1 : Int32) (b2 : Int32) (b3 : Int32) (b4 : Int32) (b5 : Int32) (b6 : Int32) (gb : Hq), z = .inl (b0, b1, b2, b3, b4, b5, b6, gb) → ∀ (H : Heap) (locs : List Loc) (ls : Array Slot), Dy D cA ad (V, gb) A s.heap H locs → lv_has ls 9 [(0, .ref (ad b0)), (1, .int b1), (2, .int b2), (3, .int b3), (4, .int b4), (5, .int b5), (6, .int b6)] → W p l e R s m args below meth c H locs 0 0 (MQ below (QI D cA ad A r0 (V, g0)) args s 0 0 A) (F0 m 19 ls []) := fun b0 b1 b2 b3 b4 b5 b6 gb eb => ih b0 b1 b2 b3 b4 b5 b6 gb (hn1 _ eb)
    have hq0 : ∀ (rb : Int32) (gb : Hq), z = (.inr (rb, gb)) → rb = r0 ∧ gb = g0 := fun rb gb eb => hq rb gb (hn2 _ eb).symm
    refine lv_iload cx.1 cx.2.1 dX12_feed_19 (lv_at hl 6 rfl) ?_
    refine lv_iconst (v := 5) cx.1 cx.2.1 dX12_feed_21 (by decide) ?_
    rcases of_brn hr with ⟨hc, hr⟩ | ⟨hc, hr⟩
    · refine lv_icmp_ge (tgt := 115) cx.1 cx.2.1 dX12_feed_22 (by decide) (fun _ => ?_) (fun hn => absurd hc hn)
      refine lv_aload_n cx.1 cx.2.1 dX12_feed_115 rfl (lv_at hl 0 rfl) ?_
      obtain ⟨hv10, hr⟩ := of_grd hr
      refine h_getI cx fx dy fd_12_1 hv10 tb_987 dX12_feed_116 ?_
      obtain ⟨e0, e1⟩ := hq0 _ _ (Option.some.inj hr).symm
      exact h_iret cx dy hlocks hret rfl e0 (by rw [e1]) dX12_feed_119
    · refine lv_icmp_ge (tgt := 115) cx.1 cx.2.1 dX12_feed_22 (by decide) (fun hn => absurd hn hc) (fun _ => ?_)
      refine lv_iload cx.1 cx.2.1 dX12_feed_25 (lv_at hl 6 rfl) ?_
      rcases of_brn hr with ⟨hc, hr⟩ | ⟨hc, hr⟩
      · refine lv_if_ne (tgt := 34) cx.1 cx.2.1 dX12_feed_27 (by decide) (fun hn => absurd hc hn) (fun _ => ?_)
        refine lv_iload_n cx.1 cx.2.1 dX12_feed_30 rfl (lv_at hl 1 rfl) ?_
        refine lv_goto (tgt := 67) cx.1 cx.2.1 dX12_feed_31 (by decide) ?_
        refine lv_istore (lv' := [(7, .int x3), (0, .ref (ad k2)), (1, .int x3), (2, .int x4), (3, .int x5), (4, .int x6), (5, .int x7), (6, .int x8)]) cx.1 cx.2.1 dX12_feed_67 hl (by decide) rfl (fun ls hl => ?_)
        refine lv_bipush (v := 24) cx.1 cx.2.1 dX12_feed_69 (by decide) ?_
        refine lv_istore (lv' := [(8, .int (24 : Int32)), (7, .int x3), (0, .ref (ad k2)), (1, .int x3), (2, .int x4), (3, .int x5), (4, .int x6), (5, .int x7), (6, .int x8)]) cx.1 cx.2.1 dX12_feed_71 hl (by decide) rfl (fun ls hl => ?_)
        obtain ⟨n, hr⟩ := lop_some hr
        exact w_X12_feed_73 cx fx hlocks hret hR r0 g0 z hh0 hq0 n k2 x3 x4 x5 x6 x7 x8 x3 (24 : Int32) g9 hr H locs ls dy (lv_sub hl [2, 3, 4, 5, 6, 7, 8, 1, 0] rfl)
      · refine lv_if_ne (tgt := 34) cx.1 cx.2.1 dX12_feed_27 (by decide) (fun _ => ?_) (fun hn => absurd hn hc)
        refine lv_iload cx.1 cx.2.1 dX12_feed_34 (lv_at hl 6 rfl) ?_
        refine lv_iconst (v := 1) cx.1 cx.2.1 dX12_feed_36 (by decide) ?_
        rcases of_brn hr with ⟨hc, hr⟩ | ⟨hc, hr⟩
        · refine lv_icmp_ne (tgt := 44) cx.1 cx.2.1 dX12_feed_37 (by decide) (fun hn => absurd hc hn) (fun _ => ?_)
          refine lv_iload_n cx.1 cx.2.1 dX12_feed_40 rfl (lv_at hl 2 rfl) ?_
          refine lv_goto (tgt := 67) cx.1 cx.2.1 dX12_feed_41 (by decide) ?_
          refine lv_istore (lv' := [(7, .int x4), (0, .ref (ad k2)), (1, .int x3), (2, .int x4), (3, .int x5), (4, .int x6), (5, .int x7), (6, .int x8)]) cx.1 cx.2.1 dX12_feed_67 hl (by decide) rfl (fun ls hl => ?_)
          refine lv_bipush (v := 24) cx.1 cx.2.1 dX12_feed_69 (by decide) ?_
          refine lv_istore (lv' := [(8, .int (24 : Int32)), (7, .int x4), (0, .ref (ad k2)), (1, .int x3), (2, .int x4), (3, .int x5), (4, .int x6), (5, .int x7), (6, .int x8)]) cx.1 cx.2.1 dX12_feed_71 hl (by decide) rfl (fun ls hl => ?_)
          obtain ⟨n, hr⟩ := lop_some hr
          exact w_X12_feed_73 cx fx hlocks hret hR r0 g0 z hh0 hq0 n k2 x3 x4 x5 x6 x7 x8 x4 (24 : Int32) g9 hr H locs ls dy (lv_sub hl [2, 3, 4, 5, 6, 7, 8, 1, 0] rfl)
        · refine lv_icmp_ne (tgt := 44) cx.1 cx.2.1 dX12_feed_37 (by decide) (fun _ => ?_) (fun hn => absurd hn hc)
          refine lv_iload cx.1 cx.2.1 dX12_feed_44 (lv_at hl 6 rfl) ?_
          refine lv_iconst (v := 2) cx.1 cx.2.1 dX12_feed_46 (by decide) ?_
          rcases of_brn hr with ⟨hc, hr⟩ | ⟨hc, hr⟩
          · refine lv_icmp_ne (tgt := 54) cx.1 cx.2.1 dX12_feed_47 (by decide) (fun hn => absurd hc hn) (fun _ => ?_)
            refine lv_iload_n cx.1 cx.2.1 dX12_feed_50 rfl (lv_at hl 3 rfl) ?_
            refine lv_goto (tgt := 67) cx.1 cx.2.1 dX12_feed_51 (by decide) ?_
            refine lv_istore (lv' := [(7, .int x5), (0, .ref (ad k2)), (1, .int x3), (2, .int x4), (3, .int x5), (4, .int x6), (5, .int x7), (6, .int x8)]) cx.1 cx.2.1 dX12_feed_67 hl (by decide) rfl (fun ls hl => ?_)
            refine lv_bipush (v := 24) cx.1 cx.2.1 dX12_feed_69 (by decide) ?_
            refine lv_istore (lv' := [(8, .int (24 : Int32)), (7, .int x5), (0, .ref (ad k2)), (1, .int x3), (2, .int x4), (3, .int x5), (4, .int x6), (5, .int x7), (6, .int x8)]) cx.1 cx.2.1 dX12_feed_71 hl (by decide) rfl (fun ls hl => ?_)
            obtain ⟨n, hr⟩ := lop_some hr
            exact w_X12_feed_73 cx fx hlocks hret hR r0 g0 z hh0 hq0 n k2 x3 x4 x5 x6 x7 x8 x5 (24 : Int32) g9 hr H locs ls dy (lv_sub hl [2, 3, 4, 5, 6, 7, 8, 1, 0] rfl)
          · refine lv_icmp_ne (tgt := 54) cx.1 cx.2.1 dX12_feed_47 (by decide) (fun _ => ?_) (fun hn => absurd hn hc)
            refine lv_iload cx.1 cx.2.1 dX12_feed_54 (lv_at hl 6 rfl) ?_
            refine lv_iconst (v := 3) cx.1 cx.2.1 dX12_feed_56 (by decide) ?_
            rcases of_brn hr with ⟨hc, hr⟩ | ⟨hc, hr⟩
            · refine lv_icmp_ne (tgt := 65) cx.1 cx.2.1 dX12_feed_57 (by decide) (fun hn => absurd hc hn) (fun _ => ?_)
              refine lv_iload cx.1 cx.2.1 dX12_feed_60 (lv_at hl 4 rfl) ?_
              refine lv_goto (tgt := 67) cx.1 cx.2.1 dX12_feed_62 (by decide) ?_
              refine lv_istore (lv' := [(7, .int x6), (0, .ref (ad k2)), (1, .int x3), (2, .int x4), (3, .int x5), (4, .int x6), (5, .int x7), (6, .int x8)]) cx.1 cx.2.1 dX12_feed_67 hl (by decide) rfl (fun ls hl => ?_)
              refine lv_bipush (v := 24) cx.1 cx.2.1 dX12_feed_69 (by decide) ?_
              refine lv_istore (lv' := [(8, .int (24 : Int32)), (7, .int x6), (0, .ref (ad k2)), (1, .int x3), (2, .int x4), (3, .int x5), (4, .int x6), (5, .int x7), (6, .int x8)]) cx.1 cx.2.1 dX12_feed_71 hl (by decide) rfl (fun ls hl => ?_)
              obtain ⟨n, hr⟩ := lop_some hr
              exact w_X12_feed_73 cx fx hlocks hret hR r0 g0 z hh0 hq0 n k2 x3 x4 x5 x6 x7 x8 x6 (24 : Int32) g9 hr H locs ls dy (lv_sub hl [2, 3, 4, 5, 6, 7, 8, 1, 0] rfl)
            · refine lv_icmp_ne (tgt := 65) cx.1 cx.2.1 dX12_feed_57 (by decide) (fun _ => ?_) (fun hn => absurd hn hc)
              refine lv_iload cx.1 cx.2.1 dX12_feed_65 (lv_at hl 5 rfl) ?_
              refine lv_istore (lv' := [(7, .int x7), (0, .ref (ad k2)), (1, .int x3), (2, .int x4), (3, .int x5), (4, .int x6), (5, .int x7), (6, .int x8)]) cx.1 cx.2.1 dX12_feed_67 hl (by decide) rfl (fun ls hl => ?_)
              refine lv_bipush (v := 24) cx.1 cx.2.1 dX12_feed_69 (by decide) ?_
              refine lv_istore (lv' := [(8, .int (24 : Int32)), (7, .int x7), (0, .ref (ad k2)), (1, .int x3), (2, .int x4), (3, .int x5), (4, .int x6), (5, .int x7), (6, .int x8)]) cx.1 cx.2.1 dX12_feed_71 hl (by decide) rfl (fun ls hl => ?_)
              obtain ⟨n, hr⟩ := lop_some hr
              exact w_X12_feed_73 cx fx hlocks hret hR r0 g0 z hh0 hq0 n k2 x3 x4 x5 x6 x7 x8 x7 (24 : Int32) g9 hr H locs ls dy (lv_sub hl [2, 3, 4, 5, 6, 7, 8, 1, 0] rfl)
noncomputable def r_X12_feed (V : Vk) (k0 : Nat) (a1 : Int32) (a2 : Int32) (a3 : Int32) (a4 : Int32) (a5 : Int32) (g : Hq) : Option (Int32 × Hq) :=
  grd (V k0 = some (12, 0)) <| brn (((g.1 k0 1) + (20 : Int32)) ≤ (800 : Int32)) ((lop (r_X12_feed_19 V) (k0, a1, a2, a3, a4, a5, (0 : Int32), g))) (some ((-3 : Int32), g))
set_option maxHeartbeats 4000000 in
set_option maxRecDepth 100000 in
theorem c_X12_feed {l : Launch} {D : va_G} {cA : Nat → ClassId} {sk : (Nat → Nat) × (Nat → Nat)} {ad : Nat → Nat} {A : Nat → Prop} {V : Vk} {k0 : Nat} {a1 : Int32} {a2 : Int32} {a3 : Int32} {a4 : Int32} {a5 : Int32} {g g0 : Hq} {r0 : Int32} (hr : r_X12_feed V k0 a1 a2 a3 a4 a5 g = some (r0, g0)) : Met l yX12_feed (wM yX12_feed cX12_feed 9 (some .int)) { frames := 0, cells := 0, slots := 0, locals := 0 } (Pre D cA sk ad (V, g) A [.ref (ad k0), .int a1, .int a2, .int a3, .int a4, .int a5]) (QI D cA ad A r0 (V, g0)) 0 0 A := by
  refine Met.ofW (cc := cX12_feed) (maxL := 9) (ret := (some .int)) (by decide) rfl ?_
  intro p e s m args below meth c s₁ B hml hv
  obtain ⟨rfl, fx, w0⟩ := hv
  have hts := atoms_spec (ws := wM yX12_feed cX12_feed 9 (some .int)) B.pre
  have cx : CallFix p m c cX12_feed 9 s ([.ref (ad k0), .int a1, .int a2, .int a3, .int a4, .int a5] : List Value).toArray gw_tbl RX12 := ⟨B.exec, B.bytes, hml, findClass_of_methodNamed B.named, fun w hw => hts w (List.mem_cons_of_mem _ hw)⟩
  have hlocks := B.notSynchronized
  have hret := B.returns
  have hR : 0 ≤ (headSpec (wM yX12_feed cX12_feed 9 (some .int)) { frames := 0, cells := 0, slots := 0, locals := 0 }).room.frames ∧ 0 ≤ (headSpec (wM yX12_feed cX12_feed 9 (some .int)) { frames := 0, cells := 0, slots := 0, locals := 0 }).room.locals := ⟨Nat.le_refl _, Nat.le_refl _⟩
  have dy : Dy D cA ad (V, g) A s.heap s.heap [] := ⟨w0, va_S.rf⟩
  have hl := lv_entry [.ref (ad k0), .int a1, .int a2, .int a3, .int a4, .int a5] (n := 9) (Nat.le_of_ble_eq_true rfl)
  rw [lg_entry_eq]
  generalize (lg_sl [.ref (ad k0), .int a1, .int a2, .int a3, .int a4, .int a5] ++ List.replicate (9 - (lg_sl [.ref (ad k0), .int a1, .int a2, .int a3, .int a4, .int a5]).length) Slot.unset).toArray = ls at hl ⊢
  have hl : lv_has ls 9 [(0, .ref (ad k0)), (1, .int a1), (2, .int a2), (3, .int a3), (4, .int a4), (5, .int a5)] := hl
  have dy0 : ∃ H0, H0 = s.heap ∧ Dy D cA ad (V, g) A s.heap H0 [] := ⟨_, rfl, dy⟩
  obtain ⟨z, ez⟩ : ∃ z, z = (r0, g0) := ⟨_, rfl⟩
  rw [← ez] at hr
  have hq0 : ∀ (rb : Int32) (gb : Hq), z = (rb, gb) → rb = r0 ∧ gb = g0 := fun rb gb eb => by rw [ez] at eb; exact ⟨(congrArg Prod.fst eb).symm, (congrArg Prod.snd eb).symm⟩
  clear ez w0 dy0
  unfold r_X12_feed at hr
  obtain ⟨H, hH⟩ : ∃ H, H = s.heap := ⟨_, rfl⟩
  obtain ⟨locs, hlo⟩ : ∃ q : List Loc, q = [] := ⟨_, rfl⟩
  have dy : Dy D cA ad (V, g) A s.heap H locs := by rw [hH, hlo]; exact dy
  suffices K : W p l e (headSpec (wM yX12_feed cX12_feed 9 (some .int)) { frames := 0, cells := 0, slots := 0, locals := 0 }).room s m ([.ref (ad k0), .int a1, .int a2, .int a3, .int a4, .int a5] : List Value).toArray below meth c H locs 0 0 (MQ below (QI D cA ad A r0 (V, g0)) ([.ref (ad k0), .int a1, .int a2, .int a3, .int a4, .int a5] : List Value).toArray s 0 0 A) (F0 m 0 ls []) by rw [hH, hlo] at K; exact K
  clear hH hlo
  refine lv_aload_n cx.1 cx.2.1 dX12_feed_0 rfl (lv_at hl 0 rfl) ?_
  obtain ⟨hv1, hr⟩ := of_grd hr
  refine h_getI cx fx dy fd_12_1 hv1 tb_987 dX12_feed_1 ?_
  refine lv_bipush (v := 20) cx.1 cx.2.1 dX12_feed_4 (by decide) ?_
  refine lv_iadd cx.1 cx.2.1 dX12_feed_6 ?_
  refine lv_sipush (v := 800) cx.1 cx.2.1 dX12_feed_7 (by decide) ?_
  rcases of_brn hr with ⟨hc, hr⟩ | ⟨hc, hr⟩
  · refine lv_icmp_le (tgt := 16) cx.1 cx.2.1 dX12_feed_10 (by decide) (fun _ => ?_) (fun hn => absurd hc hn)
    refine lv_iconst (v := 0) cx.1 cx.2.1 dX12_feed_16 (by decide) ?_
    refine lv_istore (lv' := [(6, .int (0 : Int32)), (0, .ref (ad k0)), (1, .int a1), (2, .int a2), (3, .int a3), (4, .int a4), (5, .int a5)]) cx.1 cx.2.1 dX12_feed_17 hl (by decide) rfl (fun ls hl => ?_)
    obtain ⟨n, hr⟩ := lop_some hr
    exact w_X12_feed_19 cx fx hlocks hret hR r0 g0 z hq0 n k0 a1 a2 a3 a4 a5 (0 : Int32) g hr H locs ls dy (lv_sub hl [1, 2, 3, 4, 5, 6, 0] rfl)
  · refine lv_icmp_le (tgt := 16) cx.1 cx.2.1 dX12_feed_10 (by decide) (fun hn => absurd hn hc) (fun _ => ?_)
    refine lv_bipush (v := (-3)) cx.1 cx.2.1 dX12_feed_13 (by decide) ?_
    obtain ⟨e0, e1⟩ := hq0 _ _ (Option.some.inj hr).symm
    exact h_iret cx dy hlocks hret rfl e0 (by rw [e1]) dX12_feed_15
noncomputable def r_X12_end (V : Vk) (k0 : Nat) (a1 : Int32) (g : Hq) : Option (Int32 × Hq) :=
  brn (a1 < 0) (some ((-1 : Int32), g)) (grd (V k0 = some (12, 0)) <| brn (a1 ≤ (g.1 k0 1)) (nm (sI g k0 1 a1) fun g2 => some (a1, g2)) (some ((-1 : Int32), g)))
set_option maxHeartbeats 4000000 in
set_option maxRecDepth 100000 in
theorem c_X12_end {l : Launch} {D : va_G} {cA : Nat → ClassId} {sk : (Nat → Nat) × (Nat → Nat)} {ad : Nat → Nat} {A : Nat → Prop} {V : Vk} {k0 : Nat} {a1 : Int32} {g g0 : Hq} {r0 : Int32} (hr : r_X12_end V k0 a1 g = some (r0, g0)) : Met l yX12_end (wM yX12_end cX12_end 2 (some .int)) { frames := 0, cells := 0, slots := 0, locals := 0 } (Pre D cA sk ad (V, g) A [.ref (ad k0), .int a1]) (QI D cA ad A r0 (V, g0)) 0 0 A := by
  refine Met.ofW (cc := cX12_end) (maxL := 2) (ret := (some .int)) (by decide) rfl ?_
  intro p e s m args below meth c s₁ B hml hv
  obtain ⟨rfl, fx, w0⟩ := hv
  have hts := atoms_spec (ws := wM yX12_end cX12_end 2 (some .int)) B.pre
  have cx : CallFix p m c cX12_end 2 s ([.ref (ad k0), .int a1] : List Value).toArray gw_tbl RX12 := ⟨B.exec, B.bytes, hml, findClass_of_methodNamed B.named, fun w hw => hts w (List.mem_cons_of_mem _ hw)⟩
  have hlocks := B.notSynchronized
  have hret := B.returns
  have hR : 0 ≤ (headSpec (wM yX12_end cX12_end 2 (some .int)) { frames := 0, cells := 0, slots := 0, locals := 0 }).room.frames ∧ 0 ≤ (headSpec (wM yX12_end cX12_end 2 (some .int)) { frames := 0, cells := 0, slots := 0, locals := 0 }).room.locals := ⟨Nat.le_refl _, Nat.le_refl _⟩
  have dy : Dy D cA ad (V, g) A s.heap s.heap [] := ⟨w0, va_S.rf⟩
  have hl := lv_entry [.ref (ad k0), .int a1] (n := 2) (Nat.le_of_ble_eq_true rfl)
  rw [lg_entry_eq]
  generalize (lg_sl [.ref (ad k0), .int a1] ++ List.replicate (2 - (lg_sl [.ref (ad k0), .int a1]).length) Slot.unset).toArray = ls at hl ⊢
  have hl : lv_has ls 2 [(0, .ref (ad k0)), (1, .int a1)] := hl
  have dy0 : ∃ H0, H0 = s.heap ∧ Dy D cA ad (V, g) A s.heap H0 [] := ⟨_, rfl, dy⟩
  obtain ⟨z, ez⟩ : ∃ z, z = (r0, g0) := ⟨_, rfl⟩
  rw [← ez] at hr
  have hq0 : ∀ (rb : Int32) (gb : Hq), z = (rb, gb) → rb = r0 ∧ gb = g0 := fun rb gb eb => by rw [ez] at eb; exact ⟨(congrArg Prod.fst eb).symm, (congrArg Prod.snd eb).symm⟩
  clear ez w0 dy0
  unfold r_X12_end at hr
  obtain ⟨H, hH⟩ : ∃ H, H = s.heap := ⟨_, rfl⟩
  obtain ⟨locs, hlo⟩ : ∃ q : List Loc, q = [] := ⟨_, rfl⟩
  have dy : Dy D cA ad (V, g) A s.heap H locs := by rw [hH, hlo]; exact dy
  suffices K : W p l e (headSpec (wM yX12_end cX12_end 2 (some .int)) { frames := 0, cells := 0, slots := 0, locals := 0 }).room s m ([.ref (ad k0), .int a1] : List Value).toArray below meth c H locs 0 0 (MQ below (QI D cA ad A r0 (V, g0)) ([.ref (ad k0), .int a1] : List Value).toArray s 0 0 A) (F0 m 0 ls []) by rw [hH, hlo] at K; exact K
  clear hH hlo
  refine lv_iload_n cx.1 cx.2.1 dX12_end_0 rfl (lv_at hl 1 rfl) ?_
  rcases of_brn hr with ⟨hc, hr⟩ | ⟨hc, hr⟩
  · refine lv_if_lt (tgt := 12) cx.1 cx.2.1 dX12_end_1 (by decide) (fun _ => ?_) (fun hn => absurd hc hn)
    refine lv_iconst (v := (-1)) cx.1 cx.2.1 dX12_end_12 (by decide) ?_
    obtain ⟨e0, e1⟩ := hq0 _ _ (Option.some.inj hr).symm
    exact h_iret cx dy hlocks hret rfl e0 (by rw [e1]) dX12_end_13
  · refine lv_if_lt (tgt := 12) cx.1 cx.2.1 dX12_end_1 (by decide) (fun hn => absurd hn hc) (fun _ => ?_)
    refine lv_iload_n cx.1 cx.2.1 dX12_end_4 rfl (lv_at hl 1 rfl) ?_
    refine lv_aload_n cx.1 cx.2.1 dX12_end_5 rfl (lv_at hl 0 rfl) ?_
    obtain ⟨hv1, hr⟩ := of_grd hr
    refine h_getI cx fx dy fd_12_1 hv1 tb_987 dX12_end_6 ?_
    rcases of_brn hr with ⟨hc, hr⟩ | ⟨hc, hr⟩
    · refine lv_icmp_le (tgt := 14) cx.1 cx.2.1 dX12_end_9 (by decide) (fun _ => ?_) (fun hn => absurd hc hn)
      refine lv_aload_n cx.1 cx.2.1 dX12_end_14 rfl (lv_at hl 0 rfl) ?_
      refine lv_iload_n cx.1 cx.2.1 dX12_end_15 rfl (lv_at hl 1 rfl) ?_
      obtain ⟨g2, eg2, hr⟩ := of_nm hr
      refine h_putI cx fx dy fd_12_1 (pd_12_1 : PD _ _ _ _ _ .int) rfl rfl rfl hv1 tb_987 dX12_end_16 (fun H locs dy => ?_)
      replace dy : Dy D cA ad (V, g2) A s.heap H locs := by rw [eg2]; exact dy
      refine lv_iload_n cx.1 cx.2.1 dX12_end_19 rfl (lv_at hl 1 rfl) ?_
      obtain ⟨e0, e1⟩ := hq0 _ _ (Option.some.inj hr).symm
      exact h_iret cx dy hlocks hret rfl e0 (by rw [e1]) dX12_end_20
    · refine lv_icmp_le (tgt := 14) cx.1 cx.2.1 dX12_end_9 (by decide) (fun hn => absurd hn hc) (fun _ => ?_)
      refine lv_iconst (v := (-1)) cx.1 cx.2.1 dX12_end_12 (by decide) ?_
      obtain ⟨e0, e1⟩ := hq0 _ _ (Option.some.inj hr).symm
      exact h_iret cx dy hlocks hret rfl e0 (by rw [e1]) dX12_end_13
noncomputable def r_X12_see (V : Vk) (k0 : Nat) (a1 : Int32) (g : Hq) : Option (Int32 × Hq) :=
  grd (V k0 = some (12, 0)) <| brn ((g.1 k0 2) ≤ a1) (some ((-1 : Int32), g)) (Option.bind (g.2.2 k0 0) fun k2 => grd (okV V k2 1 a1) <| some (((g.1 k2 a1.toNatClampNeg) &&& (255 : Int32)), g))
set_option maxHeartbeats 4000000 in
set_option maxRecDepth 100000 in
theorem c_X12_see {l : Launch} {D : va_G} {cA : Nat → ClassId} {sk : (Nat → Nat) × (Nat → Nat)} {ad : Nat → Nat} {A : Nat → Prop} {V : Vk} {k0 : Nat} {a1 : Int32} {g g0 : Hq} {r0 : Int32} (hr : r_X12_see V k0 a1 g = some (r0, g0)) : Met l yX12_see (wM yX12_see cX12_see 2 (some .int)) { frames := 0, cells := 0, slots := 0, locals := 0 } (Pre D cA sk ad (V, g) A [.ref (ad k0), .int a1]) (QI D cA ad A r0 (V, g0)) 0 0 A := by
  refine Met.ofW (cc := cX12_see) (maxL := 2) (ret := (some .int)) (by decide) rfl ?_
  intro p e s m args below meth c s₁ B hml hv
  obtain ⟨rfl, fx, w0⟩ := hv
  have hts := atoms_spec (ws := wM yX12_see cX12_see 2 (some .int)) B.pre
  have cx : CallFix p m c cX12_see 2 s ([.ref (ad k0), .int a1] : List Value).toArray gw_tbl RX12 := ⟨B.exec, B.bytes, hml, findClass_of_methodNamed B.named, fun w hw => hts w (List.mem_cons_of_mem _ hw)⟩
  have hlocks := B.notSynchronized
  have hret := B.returns
  have hR : 0 ≤ (headSpec (wM yX12_see cX12_see 2 (some .int)) { frames := 0, cells := 0, slots := 0, locals := 0 }).room.frames ∧ 0 ≤ (headSpec (wM yX12_see cX12_see 2 (some .int)) { frames := 0, cells := 0, slots := 0, locals := 0 }).room.locals := ⟨Nat.le_refl _, Nat.le_refl _⟩
  have dy : Dy D cA ad (V, g) A s.heap s.heap [] := ⟨w0, va_S.rf⟩
  have hl := lv_entry [.ref (ad k0), .int a1] (n := 2) (Nat.le_of_ble_eq_true rfl)
  rw [lg_entry_eq]
  generalize (lg_sl [.ref (ad k0), .int a1] ++ List.replicate (2 - (lg_sl [.ref (ad k0), .int a1]).length) Slot.unset).toArray = ls at hl ⊢
  have hl : lv_has ls 2 [(0, .ref (ad k0)), (1, .int a1)] := hl
  have dy0 : ∃ H0, H0 = s.heap ∧ Dy D cA ad (V, g) A s.heap H0 [] := ⟨_, rfl, dy⟩
  obtain ⟨z, ez⟩ : ∃ z, z = (r0, g0) := ⟨_, rfl⟩
  rw [← ez] at hr
  have hq0 : ∀ (rb : Int32) (gb : Hq), z = (rb, gb) → rb = r0 ∧ gb = g0 := fun rb gb eb => by rw [ez] at eb; exact ⟨(congrArg Prod.fst eb).symm, (congrArg Prod.snd eb).symm⟩
  clear ez w0 dy0
  unfold r_X12_see at hr
  obtain ⟨H, hH⟩ : ∃ H, H = s.heap := ⟨_, rfl⟩
  obtain ⟨locs, hlo⟩ : ∃ q : List Loc, q = [] := ⟨_, rfl⟩
  have dy : Dy D cA ad (V, g) A s.heap H locs := by rw [hH, hlo]; exact dy
  suffices K : W p l e (headSpec (wM yX12_see cX12_see 2 (some .int)) { frames := 0, cells := 0, slots := 0, locals := 0 }).room s m ([.ref (ad k0), .int a1] : List Value).toArray below meth c H locs 0 0 (MQ below (QI D cA ad A r0 (V, g0)) ([.ref (ad k0), .int a1] : List Value).toArray s 0 0 A) (F0 m 0 ls []) by rw [hH, hlo] at K; exact K
  clear hH hlo
  refine lv_iload_n cx.1 cx.2.1 dX12_see_0 rfl (lv_at hl 1 rfl) ?_
  refine lv_aload_n cx.1 cx.2.1 dX12_see_1 rfl (lv_at hl 0 rfl) ?_
  obtain ⟨hv1, hr⟩ := of_grd hr
  refine h_getI cx fx dy fd_12_2 hv1 tb_988 dX12_see_2 ?_
  rcases of_brn hr with ⟨hc, hr⟩ | ⟨hc, hr⟩
  · refine lv_icmp_ge (tgt := 21) cx.1 cx.2.1 dX12_see_5 (by decide) (fun _ => ?_) (fun hn => absurd hc hn)
    refine lv_iconst (v := (-1)) cx.1 cx.2.1 dX12_see_21 (by decide) ?_
    obtain ⟨e0, e1⟩ := hq0 _ _ (Option.some.inj hr).symm
    exact h_iret cx dy hlocks hret rfl e0 (by rw [e1]) dX12_see_22
  · refine lv_icmp_ge (tgt := 21) cx.1 cx.2.1 dX12_see_5 (by decide) (fun hn => absurd hn hc) (fun _ => ?_)
    refine lv_aload_n cx.1 cx.2.1 dX12_see_8 rfl (lv_at hl 0 rfl) ?_
    obtain ⟨k2, hf3, hr⟩ := of_bnd hr
    refine h_getR cx fx dy fd_12_0 hv1 tb_986 hf3 dX12_see_9 ?_
    refine lv_iload_n cx.1 cx.2.1 dX12_see_12 rfl (lv_at hl 1 rfl) ?_
    obtain ⟨ha4, hr⟩ := of_grd hr
    refine h_bald cx fx dy ha4 dX12_see_13 ?_
    refine lv_sipush (v := 255) cx.1 cx.2.1 dX12_see_14 (by decide) ?_
    refine lv_iand cx.1 cx.2.1 dX12_see_17 ?_
    refine lv_goto (tgt := 22) cx.1 cx.2.1 dX12_see_18 (by decide) ?_
    obtain ⟨e0, e1⟩ := hq0 _ _ (Option.some.inj hr).symm
    exact h_iret cx dy hlocks hret rfl e0 (by rw [e1]) dX12_see_22
noncomputable def r_X12_keyAt_52' (V : Vk) (k14 : Nat) (x15 : Int32) (x16 : Int32) (x17 : Int32) (x18 : Int32) (x19 : Int32) (x20 : Int32) (x21 : Int32) (g22 : Hq) : Option ((Nat × Int32 × Int32 × Int32 × Int32 × Int32 × Int32 × Int32 × Hq) ⊕ ((Nat × Int32 × Int32 × Int32 × Int32 × Int32 × Hq) ⊕ (Int32 × Hq))) :=
  brn (x16 ≤ x21) (brn (x20 = 0) (nm (x17 + (1 : Int32)) fun x23 => nm (x19 + (1 : Int32)) fun x24 => nm (x19 + (1 : Int32)) fun x25 => some (.inr (.inl (k14, x15, x16, x23, x24, x25, g22)))) (some (.inr (.inr (x17, g22))))) (brn (x20 = 0) (brn (x20 = 0) (nm (x17 + (1 : Int32)) fun x26 => nm (x19 + (1 : Int32)) fun x27 => nm (x19 + (1 : Int32)) fun x28 => some (.inr (.inl (k14, x15, x16, x26, x27, x28, g22)))) (some (.inr (.inr (x17, g22))))) (bnd (r_J0_charAt_5068e V 13 (x18 + x21) g22) fun x30 g29 => grd (V k14 = some (12, 0)) <| bnd (r_X12_see V k14 (x15 + x21) g29) fun x33 g32 => brn (x30 = x33) (nm (x21 + (1 : Int32)) fun x36 => some (.inl (k14, x15, x16, x17, x18, x19, (1 : Int32), x36, g32))) (nm (x21 + (1 : Int32)) fun x37 => some (.inl (k14, x15, x16, x17, x18, x19, (0 : Int32), x37, g32)))))
noncomputable def r_X12_keyAt_52 (V : Vk) (st : (Nat × Int32 × Int32 × Int32 × Int32 × Int32 × Int32 × Int32 × Hq)) : Option ((Nat × Int32 × Int32 × Int32 × Int32 × Int32 × Int32 × Int32 × Hq) ⊕ ((Nat × Int32 × Int32 × Int32 × Int32 × Int32 × Hq) ⊕ (Int32 × Hq))) := r_X12_keyAt_52' V st.1 st.2.1 st.2.2.1 st.2.2.2.1 st.2.2.2.2.1 st.2.2.2.2.2.1 st.2.2.2.2.2.2.1 st.2.2.2.2.2.2.2.1 st.2.2.2.2.2.2.2.2
set_option maxHeartbeats 4000000 in
set_option maxRecDepth 100000 in
theorem w_X12_keyAt_52 {p : Program} {l : Launch} {e : Env} {R : Room} {s : State} {m : MethodId} {args : Array Value} {below : List Frame} {meth : Method} {c : Code} {D : va_G} {cA : Nat → ClassId} {sk : (Nat → Nat) × (Nat → Nat)} {ad : Nat → Nat} {A : Nat → Prop} {V : Vk} (cx : CallFix p m c cX12_keyAt 8 s args gw_tbl RX12) (fx : Fx D cA sk A s) (hlocks : meth.locks = false) (hret : meth.sig.returnType = (some .int)) (hR : 4 ≤ R.frames ∧ 85 ≤ R.locals) (r0 : Int32) (g0 : Hq) (y : ((Nat × Int32 × Int32 × Int32 × Int32 × Int32 × Hq) ⊕ (Int32 × Hq))) (hk0 : ∀ (b0 : Nat) (b1 : Int32) (b2 : Int32) (b3 : Int32) (b4 : Int32) (b5 : Int32) (gb : Hq), y = (.inl (b0, b1, b2, b3, b4, b5, gb)) → ∀ (H : Heap) (locs : List Loc) (ls : Array Slot), Dy D cA ad (V, gb) A s.heap H locs → lv_has ls 8 [(0, .ref (ad b0)), (1, .int b1), (2, .int b2), (3, .int b3), (4, .int b4), (5, .int b5)] → W p l e R s m args below meth c H locs 0 0 (MQ below (QI D cA ad A r0 (V, g0)) args s 0 0 A) (F0 m 8 ls [])) (hq : ∀ (rb : Int32) (gb : Hq), y = (.inr (rb, gb)) → rb = r0 ∧ gb = g0) : ∀ (n : Nat) (k14 : Nat) (x15 : Int32) (x16 : Int32) (x17 : Int32) (x18 : Int32) (x19 : Int32) (x20 : Int32) (x21 : Int32) (g22 : Hq), itr (r_X12_keyAt_52 V) n (k14, x15, x16, x17, x18, x19, x20, x21, g22) = some y → ∀ (H : Heap) (locs : List Loc) (ls : Array Slot), Dy D cA ad (V, g22) A s.heap H locs → lv_has ls 8 [(0, .ref (ad k14)), (1, .int x15), (2, .int x16), (3, .int x17), (4, .int x18), (5, .int x19), (6, .int x20), (7, .int x21)] → W p l e R s m args below meth c H locs 0 0 (MQ below (QI D cA ad A r0 (V, g0)) args s 0 0 A) (F0 m 52 ls []) := by
  intro n
  induction n with
  | zero => intro k14 x15 x16 x17 x18 x19 x20 x21 g22 hr; cases hr
  | succ n ih =>
    intro k14 x15 x16 x17 x18 x19 x20 x21 g22 hr H locs ls dy hl
    obtain ⟨z, hz, hn1, hn2⟩ := itr_succ hr
    clear hr
    have hr : r_X12_keyAt_52' V k14 x15 x16 x17 x18 x19 x20 x21 g22 = some z := hz
    clear hz
    unfold r_X12_keyAt_52' at hr
    have hh0 : ∀ (b0 : Nat) (b1 : Int32) (b2 : Int32) (b3 : Int32) (b4 : Int32) (b5 : Int32) (b6 : Int32) (b7 : Int32) (gb : Hq), z = .inl (b0, b1, b2, b3, b4, b5, b6, b7, gb) → ∀ (H : Heap) (locs : List Loc) (ls : Array Slot), Dy D cA ad (V, gb) A s.heap H locs → lv_has ls 8 [(0, .ref (ad b0)), (1, .int b1), (2, .int b2), (3, .int b3), (4, .int b4), (5, .int b5), (6, .int b6), (7, .int b7)] → W p l e R s m args below meth c H locs 0 0 (MQ below (QI D cA ad A r0 (V, g0)) args s 0 0 A) (F0 m 52 ls []) := fun b0 b1 b2 b3 b4 b5 b6 b7 gb eb => ih b0 b1 b2 b3 b4 b5 b6 b7 gb (hn1 _ eb)
    have hh1 : ∀ (b0 : Nat) (b1 : Int32) (b2 : Int32) (b3 : Int32) (b4 : Int32) (b5 : Int32) (gb : Hq), z = (.inr (.inl (b0, b1, b2, b3, b4, b5, gb))) → ∀ (H : Heap) (locs : List Loc) (ls : Array Slot), Dy D cA ad (V, gb) A s.heap H locs → lv_has ls 8 [(0, .ref (ad b0)), (1, .int b1), (2, .int b2), (3, .int b3), (4, .int b4), (5, .int b5)] → W p l e R s m args below meth c H locs 0 0 (MQ below (QI D cA ad A r0 (V, g0)) args s 0 0 A) (F0 m 8 ls []) := fun b0 b1 b2 b3 b4 b5 gb eb => hk0 b0 b1 b2 b3 b4 b5 gb (hn2 _ eb).symm
    have hq0 : ∀ (rb : Int32) (gb : Hq), z = (.inr (.inr (rb, gb))) → rb = r0 ∧ gb = g0 := fun rb gb eb => hq rb gb (hn2 _ eb).symm
    refine lv_iload cx.1 cx.2.1 dX12_keyAt_52 (lv_at hl 7 rfl) ?_
    refine lv_iload_n cx.1 cx.2.1 dX12_keyAt_54 rfl (lv_at hl 2 rfl) ?_
    rcases of_brn hr with ⟨hc, hr⟩ | ⟨hc, hr⟩
    · refine lv_icmp_ge (tgt := 97) cx.1 cx.2.1 dX12_keyAt_55 (by decide) (fun _ => ?_) (fun hn => absurd hc hn)
      refine lv_iload cx.1 cx.2.1 dX12_keyAt_97 (lv_at hl 6 rfl) ?_
      rcases of_brn hr with ⟨hc, hr⟩ | ⟨hc, hr⟩
      · refine lv_if_eq (tgt := 104) cx.1 cx.2.1 dX12_keyAt_99 (by decide) (fun _ => ?_) (fun hn => absurd hc hn)
        obtain ⟨x23, ex23, hr⟩ := of_nm hr
        refine lv_iinc (v := x23) (lv' := [(3, .int x23), (0, .ref (ad k14)), (1, .int x15), (2, .int x16), (4, .int x18), (5, .int x19), (6, .int x20), (7, .int x21)]) cx.1 cx.2.1 dX12_keyAt_104 hl (k := 3) rfl (by rw [ex23]; rfl) (by decide) rfl (fun ls hl => ?_)
        refine lv_iload cx.1 cx.2.1 dX12_keyAt_107 (lv_at hl 5 rfl) ?_
        refine lv_iconst (v := 1) cx.1 cx.2.1 dX12_keyAt_109 (by decide) ?_
        refine lv_iadd cx.1 cx.2.1 dX12_keyAt_110 ?_
        obtain ⟨x24, ex24, hr⟩ := of_nm hr
        refine lv_nmi ex24 ?_
        refine lv_istore (lv' := [(4, .int x24), (3, .int x23), (0, .ref (ad k14)), (1, .int x15), (2, .int x16), (5, .int x19), (6, .int x20), (7, .int x21)]) cx.1 cx.2.1 dX12_keyAt_111 hl (by decide) rfl (fun ls hl => ?_)
        obtain ⟨x25, ex25, hr⟩ := of_nm hr
        refine lv_iinc (v := x25) (lv' := [(5, .int x25), (4, .int x24), (3, .int x23), (0, .ref (ad k14)), (1, .int x15), (2, .int x16), (6, .int x20), (7, .int x21)]) cx.1 cx.2.1 dX12_keyAt_113 hl (k := 5) rfl (by rw [ex25]; rfl) (by decide) rfl (fun ls hl => ?_)
        refine lv_goto (tgt := 8) cx.1 cx.2.1 dX12_keyAt_116 (by decide) ?_
        exact hh1 k14 x15 x16 x23 x24 x25 g22 (Option.some.inj hr).symm H locs ls dy (lv_sub hl [3, 4, 5, 2, 1, 0] rfl)
      · refine lv_if_eq (tgt := 104) cx.1 cx.2.1 dX12_keyAt_99 (by decide) (fun hn => absurd hn hc) (fun _ => ?_)
        refine lv_iload_n cx.1 cx.2.1 dX12_keyAt_102 rfl (lv_at hl 3 rfl) ?_
        obtain ⟨e0, e1⟩ := hq0 _ _ (Option.some.inj hr).symm
        exact h_iret cx dy hlocks hret rfl e0 (by rw [e1]) dX12_keyAt_103
    · refine lv_icmp_ge (tgt := 97) cx.1 cx.2.1 dX12_keyAt_55 (by decide) (fun hn => absurd hn hc) (fun _ => ?_)
      refine lv_iload cx.1 cx.2.1 dX12_keyAt_58 (lv_at hl 6 rfl) ?_
      rcases of_brn hr with ⟨hc, hr⟩ | ⟨hc, hr⟩
      · refine lv_if_eq (tgt := 97) cx.1 cx.2.1 dX12_keyAt_60 (by decide) (fun _ => ?_) (fun hn => absurd hc hn)
        refine lv_iload cx.1 cx.2.1 dX12_keyAt_97 (lv_at hl 6 rfl) ?_
        rcases of_brn hr with ⟨hc, hr⟩ | ⟨hc, hr⟩
        · refine lv_if_eq (tgt := 104) cx.1 cx.2.1 dX12_keyAt_99 (by decide) (fun _ => ?_) (fun hn => absurd hc hn)
          obtain ⟨x26, ex26, hr⟩ := of_nm hr
          refine lv_iinc (v := x26) (lv' := [(3, .int x26), (0, .ref (ad k14)), (1, .int x15), (2, .int x16), (4, .int x18), (5, .int x19), (6, .int x20), (7, .int x21)]) cx.1 cx.2.1 dX12_keyAt_104 hl (k := 3) rfl (by rw [ex26]; rfl) (by decide) rfl (fun ls hl => ?_)
          refine lv_iload cx.1 cx.2.1 dX12_keyAt_107 (lv_at hl 5 rfl) ?_
          refine lv_iconst (v := 1) cx.1 cx.2.1 dX12_keyAt_109 (by decide) ?_
          refine lv_iadd cx.1 cx.2.1 dX12_keyAt_110 ?_
          obtain ⟨x27, ex27, hr⟩ := of_nm hr
          refine lv_nmi ex27 ?_
          refine lv_istore (lv' := [(4, .int x27), (3, .int x26), (0, .ref (ad k14)), (1, .int x15), (2, .int x16), (5, .int x19), (6, .int x20), (7, .int x21)]) cx.1 cx.2.1 dX12_keyAt_111 hl (by decide) rfl (fun ls hl => ?_)
          obtain ⟨x28, ex28, hr⟩ := of_nm hr
          refine lv_iinc (v := x28) (lv' := [(5, .int x28), (4, .int x27), (3, .int x26), (0, .ref (ad k14)), (1, .int x15), (2, .int x16), (6, .int x20), (7, .int x21)]) cx.1 cx.2.1 dX12_keyAt_113 hl (k := 5) rfl (by rw [ex28]; rfl) (by decide) rfl (fun ls hl => ?_)
          refine lv_goto (tgt := 8) cx.1 cx.2.1 dX12_keyAt_116 (by decide) ?_
          exact hh1 k14 x15 x16 x26 x27 x28 g22 (Option.some.inj hr).symm H locs ls dy (lv_sub hl [3, 4, 5, 2, 1, 0] rfl)
        · refine lv_if_eq (tgt := 104) cx.1 cx.2.1 dX12_keyAt_99 (by decide) (fun hn => absurd hn hc) (fun _ => ?_)
          refine lv_iload_n cx.1 cx.2.1 dX12_keyAt_102 rfl (lv_at hl 3 rfl) ?_
          obtain ⟨e0, e1⟩ := hq0 _ _ (Option.some.inj hr).symm
          exact h_iret cx dy hlocks hret rfl e0 (by rw [e1]) dX12_keyAt_103
      · refine lv_if_eq (tgt := 97) cx.1 cx.2.1 dX12_keyAt_60 (by decide) (fun hn => absurd hn hc) (fun _ => ?_)
        refine va_ldcS cx.1 cx.2.1 cx.2.2.2.1 (fx.2.2.1.2.1 13 _ rfl) dX12_keyAt_63 ?_
        refine lv_iload cx.1 cx.2.1 dX12_keyAt_65 (lv_at hl 4 rfl) ?_
        refine lv_iload cx.1 cx.2.1 dX12_keyAt_67 (lv_at hl 7 rfl) ?_
        refine lv_iadd cx.1 cx.2.1 dX12_keyAt_69 ?_
        obtain ⟨x30, g29, hc31, hr⟩ := of_bnd2 hr
        refine r_i dy (k_VS (As := [.int (x18 + x21)]) (b := 13) cx fx dy (c_J0_charAt_5068e hc31) mv_J0_charAt_5068e rfl rfl ⟨Nat.le_trans (by decide) hR.1, Nat.le_trans (by decide) hR.2⟩ tb_1232 (by decide) rfl hl.1 rfl (Nat.le_of_ble_eq_true rfl) ⟨Nat.zero_le _, Nat.zero_le _⟩ dX12_keyAt_70) (fun H locs dy => ?_)
        refine lv_aload_n cx.1 cx.2.1 dX12_keyAt_73 rfl (lv_at hl 0 rfl) ?_
        refine lv_iload_n cx.1 cx.2.1 dX12_keyAt_74 rfl (lv_at hl 1 rfl) ?_
        refine lv_iload cx.1 cx.2.1 dX12_keyAt_75 (lv_at hl 7 rfl) ?_
        refine lv_iadd cx.1 cx.2.1 dX12_keyAt_77 ?_
        obtain ⟨hv34, hr⟩ := of_grd hr
        obtain ⟨x33, g32, hc35, hr⟩ := of_bnd2 hr
        refine r_i dy (k_V (As := [.int (x15 + x21)]) (b := k14) (ci := 12) cx fx dy (c_X12_see hc35) mv_X12_see rfl rfl ⟨Nat.le_trans (by decide) hR.1, Nat.le_trans (by decide) hR.2⟩ tb_1219 hv34 rfl (by decide) rfl hl.1 rfl (Nat.le_of_ble_eq_true rfl) ⟨Nat.zero_le _, Nat.zero_le _⟩ dX12_keyAt_78) (fun H locs dy => ?_)
        rcases of_brn hr with ⟨hc, hr⟩ | ⟨hc, hr⟩
        · refine lv_icmp_ne (tgt := 88) cx.1 cx.2.1 dX12_keyAt_81 (by decide) (fun hn => absurd hc hn) (fun _ => ?_)
          refine lv_iconst (v := 1) cx.1 cx.2.1 dX12_keyAt_84 (by decide) ?_
          refine lv_goto (tgt := 89) cx.1 cx.2.1 dX12_keyAt_85 (by decide) ?_
          refine lv_istore (lv' := [(6, .int (1 : Int32)), (0, .ref (ad k14)), (1, .int x15), (2, .int x16), (3, .int x17), (4, .int x18), (5, .int x19), (7, .int x21)]) cx.1 cx.2.1 dX12_keyAt_89 hl (by decide) rfl (fun ls hl => ?_)
          obtain ⟨x36, ex36, hr⟩ := of_nm hr
          refine lv_iinc (v := x36) (lv' := [(7, .int x36), (6, .int (1 : Int32)), (0, .ref (ad k14)), (1, .int x15), (2, .int x16), (3, .int x17), (4, .int x18), (5, .int x19)]) cx.1 cx.2.1 dX12_keyAt_91 hl (k := 7) rfl (by rw [ex36]; rfl) (by decide) rfl (fun ls hl => ?_)
          refine lv_goto (tgt := 52) cx.1 cx.2.1 dX12_keyAt_94 (by decide) ?_
          exact hh0 k14 x15 x16 x17 x18 x19 (1 : Int32) x36 g32 (Option.some.inj hr).symm H locs ls dy (lv_sub hl [2, 3, 4, 5, 6, 7, 1, 0] rfl)
        · refine lv_icmp_ne (tgt := 88) cx.1 cx.2.1 dX12_keyAt_81 (by decide) (fun _ => ?_) (fun hn => absurd hn hc)
          refine lv_iconst (v := 0) cx.1 cx.2.1 dX12_keyAt_88 (by decide) ?_
          refine lv_istore (lv' := [(6, .int (0 : Int32)), (0, .ref (ad k14)), (1, .int x15), (2, .int x16), (3, .int x17), (4, .int x18), (5, .int x19), (7, .int x21)]) cx.1 cx.2.1 dX12_keyAt_89 hl (by decide) rfl (fun ls hl => ?_)
          obtain ⟨x37, ex37, hr⟩ := of_nm hr
          refine lv_iinc (v := x37) (lv' := [(7, .int x37), (6, .int (0 : Int32)), (0, .ref (ad k14)), (1, .int x15), (2, .int x16), (3, .int x17), (4, .int x18), (5, .int x19)]) cx.1 cx.2.1 dX12_keyAt_91 hl (k := 7) rfl (by rw [ex37]; rfl) (by decide) rfl (fun ls hl => ?_)
          refine lv_goto (tgt := 52) cx.1 cx.2.1 dX12_keyAt_94 (by decide) ?_
          exact hh0 k14 x15 x16 x17 x18 x19 (0 : Int32) x37 g32 (Option.some.inj hr).symm H locs ls dy (lv_sub hl [2, 3, 4, 5, 6, 7, 1, 0] rfl)
noncomputable def r_X12_keyAt_8' (V : Vk) (k1 : Nat) (x2 : Int32) (x3 : Int32) (x4 : Int32) (x5 : Int32) (x6 : Int32) (g7 : Hq) : Option ((Nat × Int32 × Int32 × Int32 × Int32 × Int32 × Hq) ⊕ (Int32 × Hq)) :=
  bnd (r_J0_length_8abf5 V 13 g7) fun x9 g8 => brn (x9 ≤ x6) (some (.inr ((-1 : Int32), g8))) (bnd (r_J0_charAt_5068e V 13 x6 g8) fun x12 g11 => brn (x12 = (32 : Int32)) (brn ((x6 - x5) = x3) ((lop (r_X12_keyAt_52 V) (k1, x2, x3, x4, x5, x6, (1 : Int32), (0 : Int32), g11))) ((lop (r_X12_keyAt_52 V) (k1, x2, x3, x4, x5, x6, (0 : Int32), (0 : Int32), g11)))) (nm (x6 + (1 : Int32)) fun x38 => some (.inl (k1, x2, x3, x4, x5, x38, g11))))
noncomputable def r_X12_keyAt_8 (V : Vk) (st : (Nat × Int32 × Int32 × Int32 × Int32 × Int32 × Hq)) : Option ((Nat × Int32 × Int32 × Int32 × Int32 × Int32 × Hq) ⊕ (Int32 × Hq)) := r_X12_keyAt_8' V st.1 st.2.1 st.2.2.1 st.2.2.2.1 st.2.2.2.2.1 st.2.2.2.2.2.1 st.2.2.2.2.2.2
set_option maxHeartbeats 4000000 in
set_option maxRecDepth 100000 in
theorem w_X12_keyAt_8 {p : Program} {l : Launch} {e : Env} {R : Room} {s : State} {m : MethodId} {args : Array Value} {below : List Frame} {meth : Method} {c : Code} {D : va_G} {cA : Nat → ClassId} {sk : (Nat → Nat) × (Nat → Nat)} {ad : Nat → Nat} {A : Nat → Prop} {V : Vk} (cx : CallFix p m c cX12_keyAt 8 s args gw_tbl RX12) (fx : Fx D cA sk A s) (hlocks : meth.locks = false) (hret : meth.sig.returnType = (some .int)) (hR : 4 ≤ R.frames ∧ 85 ≤ R.locals) (r0 : Int32) (g0 : Hq) (y : (Int32 × Hq)) (hq : ∀ (rb : Int32) (gb : Hq), y = (rb, gb) → rb = r0 ∧ gb = g0) : ∀ (n : Nat) (k1 : Nat) (x2 : Int32) (x3 : Int32) (x4 : Int32) (x5 : Int32) (x6 : Int32) (g7 : Hq), itr (r_X12_keyAt_8 V) n (k1, x2, x3, x4, x5, x6, g7) = some y → ∀ (H : Heap) (locs : List Loc) (ls : Array Slot), Dy D cA ad (V, g7) A s.heap H locs → lv_has ls 8 [(0, .ref (ad k1)), (1, .int x2), (2, .int x3), (3, .int x4), (4, .int x5), (5, .int x6)] → W p l e R s m args below meth c H locs 0 0 (MQ below (QI D cA ad A r0 (V, g0)) args s 0 0 A) (F0 m 8 ls []) := by
  intro n
  induction n with
  | zero => intro k1 x2 x3 x4 x5 x6 g7 hr; cases hr
  | succ n ih =>
    intro k1 x2 x3 x4 x5 x6 g7 hr H locs ls dy hl
    obtain ⟨z, hz, hn1, hn2⟩ := itr_succ hr
    clear hr
    have hr : r_X12_keyAt_8' V k1 x2 x3 x4 x5 x6 g7 = some z := hz
    clear hz
    unfold r_X12_keyAt_8' at hr
    have hh0 : ∀ (b0 : Nat) (b1 : Int32) (b2 : Int32) (b3 : Int32) (b4 : Int32) (b5 : Int32) (gb : Hq), z = .inl (b0, b1, b2, b3, b4, b5, gb) → ∀ (H : Heap) (locs : List Loc) (ls : Array Slot), Dy D cA ad (V, gb) A s.heap H locs → lv_has ls 8 [(0, .ref (ad b0)), (1, .int b1), (2, .int b2), (3, .int b3), (4, .int b4), (5, .int b5)] → W p l e R s m args below meth c H locs 0 0 (MQ below (QI D cA ad A r0 (V, g0)) args s 0 0 A) (F0 m 8 ls []) := fun b0 b1 b2 b3 b4 b5 gb eb => ih b0 b1 b2 b3 b4 b5 gb (hn1 _ eb)
    have hq0 : ∀ (rb : Int32) (gb : Hq), z = (.inr (rb, gb)) → rb = r0 ∧ gb = g0 := fun rb gb eb => hq rb gb (hn2 _ eb).symm
    refine lv_iload cx.1 cx.2.1 dX12_keyAt_8 (lv_at hl 5 rfl) ?_
    refine va_ldcS cx.1 cx.2.1 cx.2.2.2.1 (fx.2.2.1.2.1 13 _ rfl) dX12_keyAt_10 ?_
    obtain ⟨x9, g8, hc10, hr⟩ := of_bnd2 hr
    refine r_i dy (k_VS (As := []) (b := 13) cx fx dy (c_J0_length_8abf5 hc10) mv_J0_length_8abf5 rfl rfl ⟨Nat.le_trans (by decide) hR.1, Nat.le_trans (by decide) hR.2⟩ tb_1231 (by decide) rfl hl.1 rfl (Nat.le_of_ble_eq_true rfl) ⟨Nat.zero_le _, Nat.zero_le _⟩ dX12_keyAt_12) (fun H locs dy => ?_)
    rcases of_brn hr with ⟨hc, hr⟩ | ⟨hc, hr⟩
    · refine lv_icmp_ge (tgt := 119) cx.1 cx.2.1 dX12_keyAt_15 (by decide) (fun _ => ?_) (fun hn => absurd hc hn)
      refine lv_iconst (v := (-1)) cx.1 cx.2.1 dX12_keyAt_119 (by decide) ?_
      obtain ⟨e0, e1⟩ := hq0 _ _ (Option.some.inj hr).symm
      exact h_iret cx dy hlocks hret rfl e0 (by rw [e1]) dX12_keyAt_120
    · refine lv_icmp_ge (tgt := 119) cx.1 cx.2.1 dX12_keyAt_15 (by decide) (fun hn => absurd hn hc) (fun _ => ?_)
      refine va_ldcS cx.1 cx.2.1 cx.2.2.2.1 (fx.2.2.1.2.1 13 _ rfl) dX12_keyAt_18 ?_
      refine lv_iload cx.1 cx.2.1 dX12_keyAt_20 (lv_at hl 5 rfl) ?_
      obtain ⟨x12, g11, hc13, hr⟩ := of_bnd2 hr
      refine r_i dy (k_VS (As := [.int x6]) (b := 13) cx fx dy (c_J0_charAt_5068e hc13) mv_J0_charAt_5068e rfl rfl ⟨Nat.le_trans (by decide) hR.1, Nat.le_trans (by decide) hR.2⟩ tb_1232 (by decide) rfl hl.1 rfl (Nat.le_of_ble_eq_true rfl) ⟨Nat.zero_le _, Nat.zero_le _⟩ dX12_keyAt_22) (fun H locs dy => ?_)
      refine lv_bipush (v := 32) cx.1 cx.2.1 dX12_keyAt_25 (by decide) ?_
      rcases of_brn hr with ⟨hc, hr⟩ | ⟨hc, hr⟩
      · refine lv_icmp_eq (tgt := 33) cx.1 cx.2.1 dX12_keyAt_27 (by decide) (fun _ => ?_) (fun hn => absurd hc hn)
        refine lv_iload cx.1 cx.2.1 dX12_keyAt_33 (lv_at hl 5 rfl) ?_
        refine lv_iload cx.1 cx.2.1 dX12_keyAt_35 (lv_at hl 4 rfl) ?_
        refine lv_isub cx.1 cx.2.1 dX12_keyAt_37 ?_
        refine lv_iload_n cx.1 cx.2.1 dX12_keyAt_38 rfl (lv_at hl 2 rfl) ?_
        rcases of_brn hr with ⟨hc, hr⟩ | ⟨hc, hr⟩
        · refine lv_icmp_ne (tgt := 46) cx.1 cx.2.1 dX12_keyAt_39 (by decide) (fun hn => absurd hc hn) (fun _ => ?_)
          refine lv_iconst (v := 1) cx.1 cx.2.1 dX12_keyAt_42 (by decide) ?_
          refine lv_goto (tgt := 47) cx.1 cx.2.1 dX12_keyAt_43 (by decide) ?_
          refine lv_istore (lv' := [(6, .int (1 : Int32)), (0, .ref (ad k1)), (1, .int x2), (2, .int x3), (3, .int x4), (4, .int x5), (5, .int x6)]) cx.1 cx.2.1 dX12_keyAt_47 hl (by decide) rfl (fun ls hl => ?_)
          refine lv_iconst (v := 0) cx.1 cx.2.1 dX12_keyAt_49 (by decide) ?_
          refine lv_istore (lv' := [(7, .int (0 : Int32)), (6, .int (1 : Int32)), (0, .ref (ad k1)), (1, .int x2), (2, .int x3), (3, .int x4), (4, .int x5), (5, .int x6)]) cx.1 cx.2.1 dX12_keyAt_50 hl (by decide) rfl (fun ls hl => ?_)
          obtain ⟨n, hr⟩ := lop_some hr
          exact w_X12_keyAt_52 cx fx hlocks hret hR r0 g0 z hh0 hq0 n k1 x2 x3 x4 x5 x6 (1 : Int32) (0 : Int32) g11 hr H locs ls dy (lv_sub hl [2, 3, 4, 5, 6, 7, 1, 0] rfl)
        · refine lv_icmp_ne (tgt := 46) cx.1 cx.2.1 dX12_keyAt_39 (by decide) (fun _ => ?_) (fun hn => absurd hn hc)
          refine lv_iconst (v := 0) cx.1 cx.2.1 dX12_keyAt_46 (by decide) ?_
          refine lv_istore (lv' := [(6, .int (0 : Int32)), (0, .ref (ad k1)), (1, .int x2), (2, .int x3), (3, .int x4), (4, .int x5), (5, .int x6)]) cx.1 cx.2.1 dX12_keyAt_47 hl (by decide) rfl (fun ls hl => ?_)
          refine lv_iconst (v := 0) cx.1 cx.2.1 dX12_keyAt_49 (by decide) ?_
          refine lv_istore (lv' := [(7, .int (0 : Int32)), (6, .int (0 : Int32)), (0, .ref (ad k1)), (1, .int x2), (2, .int x3), (3, .int x4), (4, .int x5), (5, .int x6)]) cx.1 cx.2.1 dX12_keyAt_50 hl (by decide) rfl (fun ls hl => ?_)
          obtain ⟨n, hr⟩ := lop_some hr
          exact w_X12_keyAt_52 cx fx hlocks hret hR r0 g0 z hh0 hq0 n k1 x2 x3 x4 x5 x6 (0 : Int32) (0 : Int32) g11 hr H locs ls dy (lv_sub hl [2, 3, 4, 5, 6, 7, 1, 0] rfl)
      · refine lv_icmp_eq (tgt := 33) cx.1 cx.2.1 dX12_keyAt_27 (by decide) (fun hn => absurd hn hc) (fun _ => ?_)
        refine lv_goto (tgt := 113) cx.1 cx.2.1 dX12_keyAt_30 (by decide) ?_
        obtain ⟨x38, ex38, hr⟩ := of_nm hr
        refine lv_iinc (v := x38) (lv' := [(5, .int x38), (0, .ref (ad k1)), (1, .int x2), (2, .int x3), (3, .int x4), (4, .int x5)]) cx.1 cx.2.1 dX12_keyAt_113 hl (k := 5) rfl (by rw [ex38]; rfl) (by decide) rfl (fun ls hl => ?_)
        refine lv_goto (tgt := 8) cx.1 cx.2.1 dX12_keyAt_116 (by decide) ?_
        exact hh0 k1 x2 x3 x4 x5 x38 g11 (Option.some.inj hr).symm H locs ls dy (lv_sub hl [1, 2, 3, 4, 5, 0] rfl)
noncomputable def r_X12_keyAt (V : Vk) (k0 : Nat) (a1 : Int32) (a2 : Int32) (g : Hq) : Option (Int32 × Hq) :=
  (lop (r_X12_keyAt_8 V) (k0, a1, a2, (0 : Int32), (0 : Int32), (0 : Int32), g))
set_option maxHeartbeats 4000000 in
set_option maxRecDepth 100000 in
theorem c_X12_keyAt {l : Launch} {D : va_G} {cA : Nat → ClassId} {sk : (Nat → Nat) × (Nat → Nat)} {ad : Nat → Nat} {A : Nat → Prop} {V : Vk} {k0 : Nat} {a1 : Int32} {a2 : Int32} {g g0 : Hq} {r0 : Int32} (hr : r_X12_keyAt V k0 a1 a2 g = some (r0, g0)) : Met l yX12_keyAt (wM yX12_keyAt cX12_keyAt 8 (some .int)) { frames := 4, cells := 0, slots := 0, locals := 85 } (Pre D cA sk ad (V, g) A [.ref (ad k0), .int a1, .int a2]) (QI D cA ad A r0 (V, g0)) 0 0 A := by
  refine Met.ofW (cc := cX12_keyAt) (maxL := 8) (ret := (some .int)) (by decide) rfl ?_
  intro p e s m args below meth c s₁ B hml hv
  obtain ⟨rfl, fx, w0⟩ := hv
  have hts := atoms_spec (ws := wM yX12_keyAt cX12_keyAt 8 (some .int)) B.pre
  have cx : CallFix p m c cX12_keyAt 8 s ([.ref (ad k0), .int a1, .int a2] : List Value).toArray gw_tbl RX12 := ⟨B.exec, B.bytes, hml, findClass_of_methodNamed B.named, fun w hw => hts w (List.mem_cons_of_mem _ hw)⟩
  have hlocks := B.notSynchronized
  have hret := B.returns
  have hR : 4 ≤ (headSpec (wM yX12_keyAt cX12_keyAt 8 (some .int)) { frames := 4, cells := 0, slots := 0, locals := 85 }).room.frames ∧ 85 ≤ (headSpec (wM yX12_keyAt cX12_keyAt 8 (some .int)) { frames := 4, cells := 0, slots := 0, locals := 85 }).room.locals := ⟨Nat.le_refl _, Nat.le_refl _⟩
  have dy : Dy D cA ad (V, g) A s.heap s.heap [] := ⟨w0, va_S.rf⟩
  have hl := lv_entry [.ref (ad k0), .int a1, .int a2] (n := 8) (Nat.le_of_ble_eq_true rfl)
  rw [lg_entry_eq]
  generalize (lg_sl [.ref (ad k0), .int a1, .int a2] ++ List.replicate (8 - (lg_sl [.ref (ad k0), .int a1, .int a2]).length) Slot.unset).toArray = ls at hl ⊢
  have hl : lv_has ls 8 [(0, .ref (ad k0)), (1, .int a1), (2, .int a2)] := hl
  have dy0 : ∃ H0, H0 = s.heap ∧ Dy D cA ad (V, g) A s.heap H0 [] := ⟨_, rfl, dy⟩
  obtain ⟨z, ez⟩ : ∃ z, z = (r0, g0) := ⟨_, rfl⟩
  rw [← ez] at hr
  have hq0 : ∀ (rb : Int32) (gb : Hq), z = (rb, gb) → rb = r0 ∧ gb = g0 := fun rb gb eb => by rw [ez] at eb; exact ⟨(congrArg Prod.fst eb).symm, (congrArg Prod.snd eb).symm⟩
  clear ez w0 dy0
  unfold r_X12_keyAt at hr
  obtain ⟨H, hH⟩ : ∃ H, H = s.heap := ⟨_, rfl⟩
  obtain ⟨locs, hlo⟩ : ∃ q : List Loc, q = [] := ⟨_, rfl⟩
  have dy : Dy D cA ad (V, g) A s.heap H locs := by rw [hH, hlo]; exact dy
  suffices K : W p l e (headSpec (wM yX12_keyAt cX12_keyAt 8 (some .int)) { frames := 4, cells := 0, slots := 0, locals := 85 }).room s m ([.ref (ad k0), .int a1, .int a2] : List Value).toArray below meth c H locs 0 0 (MQ below (QI D cA ad A r0 (V, g0)) ([.ref (ad k0), .int a1, .int a2] : List Value).toArray s 0 0 A) (F0 m 0 ls []) by rw [hH, hlo] at K; exact K
  clear hH hlo
  refine lv_iconst (v := 0) cx.1 cx.2.1 dX12_keyAt_0 (by decide) ?_
  refine lv_istore_n (lv' := [(3, .int (0 : Int32)), (0, .ref (ad k0)), (1, .int a1), (2, .int a2)]) cx.1 cx.2.1 dX12_keyAt_1 rfl hl (by decide) rfl (fun ls hl => ?_)
  refine lv_iconst (v := 0) cx.1 cx.2.1 dX12_keyAt_2 (by decide) ?_
  refine lv_istore (lv' := [(4, .int (0 : Int32)), (3, .int (0 : Int32)), (0, .ref (ad k0)), (1, .int a1), (2, .int a2)]) cx.1 cx.2.1 dX12_keyAt_3 hl (by decide) rfl (fun ls hl => ?_)
  refine lv_iconst (v := 0) cx.1 cx.2.1 dX12_keyAt_5 (by decide) ?_
  refine lv_istore (lv' := [(5, .int (0 : Int32)), (4, .int (0 : Int32)), (3, .int (0 : Int32)), (0, .ref (ad k0)), (1, .int a1), (2, .int a2)]) cx.1 cx.2.1 dX12_keyAt_6 hl (by decide) rfl (fun ls hl => ?_)
  obtain ⟨n, hr⟩ := lop_some hr
  exact w_X12_keyAt_8 cx fx hlocks hret hR r0 g0 z hq0 n k0 a1 a2 (0 : Int32) (0 : Int32) (0 : Int32) g hr H locs ls dy (lv_sub hl [3, 4, 5, 2, 1, 0] rfl)
noncomputable def r_X12_scan_132' (V : Vk) (k33 : Nat) (x34 : Int32) (x35 : Int32) (g36 : Hq) : Option ((Nat × Int32 × Int32 × Hq) ⊕ (Unit × Hq)) :=
  grd (V k33 = some (12, 0)) <| bnd (r_X12_see V k33 x35 g36) fun x38 g37 => bnd (r_X12_isDigit V x38 g37) fun x42 g41 => brn (x42 = 0) (brn ((x35 - x34) ≤ (4 : Int32)) (nm (sI g41 k33 3 (2 : Int32)) fun g44 => nm (sI g44 k33 6 x35) fun g45 => some (.inr ((), g45))) (nm (sI g41 k33 3 (0 : Int32)) fun g46 => nm (sI g46 k33 6 x35) fun g47 => some (.inr ((), g47)))) (brn ((4 : Int32) ≤ (x35 - x34)) (nm (sI g41 k33 7 (g41.1 k33 7)) fun g48 => nm (x35 + (1 : Int32)) fun x49 => some (.inl (k33, x34, x49, g48))) (bnd (r_X12_see V k33 x35 g41) fun x51 g50 => nm (sI g50 k33 7 ((((10 : Int32) * (g41.1 k33 7)) + x51) - (48 : Int32))) fun g53 => nm (x35 + (1 : Int32)) fun x54 => some (.inl (k33, x34, x54, g53))))
noncomputable def r_X12_scan_132 (V : Vk) (st : (Nat × Int32 × Int32 × Hq)) : Option ((Nat × Int32 × Int32 × Hq) ⊕ (Unit × Hq)) := r_X12_scan_132' V st.1 st.2.1 st.2.2.1 st.2.2.2
set_option maxHeartbeats 4000000 in
set_option maxRecDepth 100000 in
theorem w_X12_scan_132 {p : Program} {l : Launch} {e : Env} {R : Room} {s : State} {m : MethodId} {args : Array Value} {below : List Frame} {meth : Method} {c : Code} {D : va_G} {cA : Nat → ClassId} {sk : (Nat → Nat) × (Nat → Nat)} {ad : Nat → Nat} {A : Nat → Prop} {V : Vk} (cx : CallFix p m c cX12_scan 4 s args gw_tbl RX12) (fx : Fx D cA sk A s) (hlocks : meth.locks = false) (hret : meth.sig.returnType = none) (hR : 5 ≤ R.frames ∧ 112 ≤ R.locals) (g0 : Hq) (y : (Unit × Hq)) (hq : ∀ (rb : Unit) (gb : Hq), y = (rb, gb) → gb = g0) : ∀ (n : Nat) (k33 : Nat) (x34 : Int32) (x35 : Int32) (g36 : Hq), itr (r_X12_scan_132 V) n (k33, x34, x35, g36) = some y → ∀ (H : Heap) (locs : List Loc) (ls : Array Slot), Dy D cA ad (V, g36) A s.heap H locs → lv_has ls 4 [(0, .ref (ad k33)), (1, .int x34), (3, .int x35)] → W p l e R s m args below meth c H locs 0 0 (MQ below (QV D cA ad A (V, g0)) args s 0 0 A) (F0 m 132 ls []) := by
  intro n
  induction n with
  | zero => intro k33 x34 x35 g36 hr; cases hr
  | succ n ih =>
    intro k33 x34 x35 g36 hr H locs ls dy hl
    obtain ⟨z, hz, hn1, hn2⟩ := itr_succ hr
    clear hr
    have hr : r_X12_scan_132' V k33 x34 x35 g36 = some z := hz
    clear hz
    unfold r_X12_scan_132' at hr
    have hh0 : ∀ (b0 : Nat) (b1 : Int32) (b2 : Int32) (gb : Hq), z = .inl (b0, b1, b2, gb) → ∀ (H : Heap) (locs : List Loc) (ls : Array Slot), Dy D cA ad (V, gb) A s.heap H locs → lv_has ls 4 [(0, .ref (ad b0)), (1, .int b1), (3, .int b2)] → W p l e R s m args below meth c H locs 0 0 (MQ below (QV D cA ad A (V, g0)) args s 0 0 A) (F0 m 132 ls []) := fun b0 b1 b2 gb eb => ih b0 b1 b2 gb (hn1 _ eb)
    have hq0 : ∀ (rb : Unit) (gb : Hq), z = (.inr (rb, gb)) → gb = g0 := fun rb gb eb => hq rb gb (hn2 _ eb).symm
    refine lv_aload_n cx.1 cx.2.1 dX12_scan_132 rfl (lv_at hl 0 rfl) ?_
    refine lv_iload_n cx.1 cx.2.1 dX12_scan_133 rfl (lv_at hl 2 rfl) ?_
    obtain ⟨hv39, hr⟩ := of_grd hr
    obtain ⟨x38, g37, hc40, hr⟩ := of_bnd2 hr
    refine r_i dy (k_V (As := [.int x35]) (b := k33) (ci := 12) cx fx dy (c_X12_see hc40) mv_X12_see rfl rfl ⟨Nat.le_trans (by decide) hR.1, Nat.le_trans (by decide) hR.2⟩ tb_1219 hv39 rfl (by decide) rfl hl.1 rfl (Nat.le_of_ble_eq_true rfl) ⟨Nat.zero_le _, Nat.zero_le _⟩ dX12_scan_134) (fun H locs dy => ?_)
    obtain ⟨x42, g41, hc43, hr⟩ := of_bnd2 hr
    refine r_i dy (k_S (As := [.int x38]) cx fx dy (c_X12_isDigit hc43) mv_X12_isDigit rfl rfl ⟨Nat.le_trans (by decide) hR.1, Nat.le_trans (by decide) hR.2⟩ tb_1233 rfl hl.1 rfl (Nat.le_of_ble_eq_true rfl) ⟨Nat.zero_le _, Nat.zero_le _⟩ dX12_scan_137) (fun H locs dy => ?_)
    rcases of_brn hr with ⟨hc, hr⟩ | ⟨hc, hr⟩
    · refine lv_if_eq (tgt := 183) cx.1 cx.2.1 dX12_scan_140 (by decide) (fun _ => ?_) (fun hn => absurd hc hn)
      refine lv_aload_n cx.1 cx.2.1 dX12_scan_183 rfl (lv_at hl 0 rfl) ?_
      refine lv_iload_n cx.1 cx.2.1 dX12_scan_184 rfl (lv_at hl 2 rfl) ?_
      refine lv_iload_n cx.1 cx.2.1 dX12_scan_185 rfl (lv_at hl 1 rfl) ?_
      refine lv_isub cx.1 cx.2.1 dX12_scan_186 ?_
      refine lv_iconst (v := 4) cx.1 cx.2.1 dX12_scan_187 (by decide) ?_
      rcases of_brn hr with ⟨hc, hr⟩ | ⟨hc, hr⟩
      · refine lv_icmp_le (tgt := 195) cx.1 cx.2.1 dX12_scan_188 (by decide) (fun _ => ?_) (fun hn => absurd hc hn)
        refine lv_iconst (v := 2) cx.1 cx.2.1 dX12_scan_195 (by decide) ?_
        obtain ⟨g44, eg44, hr⟩ := of_nm hr
        refine h_putI cx fx dy fd_12_3 (pd_12_3 : PD _ _ _ _ _ .int) rfl rfl rfl hv39 tb_989 dX12_scan_196 (fun H locs dy => ?_)
        replace dy : Dy D cA ad (V, g44) A s.heap H locs := by rw [eg44]; exact dy
        refine lv_goto (tgt := 217) cx.1 cx.2.1 dX12_scan_199 (by decide) ?_
        refine lv_aload_n cx.1 cx.2.1 dX12_scan_217 rfl (lv_at hl 0 rfl) ?_
        refine lv_iload_n cx.1 cx.2.1 dX12_scan_218 rfl (lv_at hl 2 rfl) ?_
        obtain ⟨g45, eg45, hr⟩ := of_nm hr
        refine h_putI cx fx dy fd_12_6 (pd_12_6 : PD _ _ _ _ _ .int) rfl rfl rfl hv39 tb_992 dX12_scan_219 (fun H locs dy => ?_)
        replace dy : Dy D cA ad (V, g45) A s.heap H locs := by rw [eg45]; exact dy
        have e1 := hq0 _ _ (Option.some.inj hr).symm
        exact h_vret cx dy hlocks hret (by rw [e1]) dX12_scan_222
      · refine lv_icmp_le (tgt := 195) cx.1 cx.2.1 dX12_scan_188 (by decide) (fun hn => absurd hn hc) (fun _ => ?_)
        refine lv_iconst (v := 0) cx.1 cx.2.1 dX12_scan_191 (by decide) ?_
        refine lv_goto (tgt := 196) cx.1 cx.2.1 dX12_scan_192 (by decide) ?_
        obtain ⟨g46, eg46, hr⟩ := of_nm hr
        refine h_putI cx fx dy fd_12_3 (pd_12_3 : PD _ _ _ _ _ .int) rfl rfl rfl hv39 tb_989 dX12_scan_196 (fun H locs dy => ?_)
        replace dy : Dy D cA ad (V, g46) A s.heap H locs := by rw [eg46]; exact dy
        refine lv_goto (tgt := 217) cx.1 cx.2.1 dX12_scan_199 (by decide) ?_
        refine lv_aload_n cx.1 cx.2.1 dX12_scan_217 rfl (lv_at hl 0 rfl) ?_
        refine lv_iload_n cx.1 cx.2.1 dX12_scan_218 rfl (lv_at hl 2 rfl) ?_
        obtain ⟨g47, eg47, hr⟩ := of_nm hr
        refine h_putI cx fx dy fd_12_6 (pd_12_6 : PD _ _ _ _ _ .int) rfl rfl rfl hv39 tb_992 dX12_scan_219 (fun H locs dy => ?_)
        replace dy : Dy D cA ad (V, g47) A s.heap H locs := by rw [eg47]; exact dy
        have e1 := hq0 _ _ (Option.some.inj hr).symm
        exact h_vret cx dy hlocks hret (by rw [e1]) dX12_scan_222
    · refine lv_if_eq (tgt := 183) cx.1 cx.2.1 dX12_scan_140 (by decide) (fun hn => absurd hn hc) (fun _ => ?_)
      refine lv_aload_n cx.1 cx.2.1 dX12_scan_143 rfl (lv_at hl 0 rfl) ?_
      refine lv_iload_n cx.1 cx.2.1 dX12_scan_144 rfl (lv_at hl 2 rfl) ?_
      refine lv_iload_n cx.1 cx.2.1 dX12_scan_145 rfl (lv_at hl 1 rfl) ?_
      refine lv_isub cx.1 cx.2.1 dX12_scan_146 ?_
      refine lv_iconst (v := 4) cx.1 cx.2.1 dX12_scan_147 (by decide) ?_
      rcases of_brn hr with ⟨hc, hr⟩ | ⟨hc, hr⟩
      · refine lv_icmp_ge (tgt := 170) cx.1 cx.2.1 dX12_scan_148 (by decide) (fun _ => ?_) (fun hn => absurd hc hn)
        refine lv_aload_n cx.1 cx.2.1 dX12_scan_170 rfl (lv_at hl 0 rfl) ?_
        refine h_getI cx fx dy fd_12_7 hv39 tb_993 dX12_scan_171 ?_
        obtain ⟨g48, eg48, hr⟩ := of_nm hr
        refine h_putI cx fx dy fd_12_7 (pd_12_7 : PD _ _ _ _ _ .int) rfl rfl rfl hv39 tb_993 dX12_scan_174 (fun H locs dy => ?_)
        replace dy : Dy D cA ad (V, g48) A s.heap H locs := by rw [eg48]; exact dy
        obtain ⟨x49, ex49, hr⟩ := of_nm hr
        refine lv_iinc (v := x49) (lv' := [(3, .int x49), (0, .ref (ad k33)), (1, .int x34)]) cx.1 cx.2.1 dX12_scan_177 hl (k := 2) rfl (by rw [ex49]; rfl) (by decide) rfl (fun ls hl => ?_)
        refine lv_goto (tgt := 132) cx.1 cx.2.1 dX12_scan_180 (by decide) ?_
        exact hh0 k33 x34 x49 g48 (Option.some.inj hr).symm H locs ls dy (lv_sub hl [1, 2, 0] rfl)
      · refine lv_icmp_ge (tgt := 170) cx.1 cx.2.1 dX12_scan_148 (by decide) (fun hn => absurd hn hc) (fun _ => ?_)
        refine lv_bipush (v := 10) cx.1 cx.2.1 dX12_scan_151 (by decide) ?_
        refine lv_aload_n cx.1 cx.2.1 dX12_scan_153 rfl (lv_at hl 0 rfl) ?_
        refine h_getI cx fx dy fd_12_7 hv39 tb_993 dX12_scan_154 ?_
        refine lv_imul cx.1 cx.2.1 dX12_scan_157 ?_
        refine lv_aload_n cx.1 cx.2.1 dX12_scan_158 rfl (lv_at hl 0 rfl) ?_
        refine lv_iload_n cx.1 cx.2.1 dX12_scan_159 rfl (lv_at hl 2 rfl) ?_
        obtain ⟨x51, g50, hc52, hr⟩ := of_bnd2 hr
        refine r_i dy (k_V (As := [.int x35]) (b := k33) (ci := 12) cx fx dy (c_X12_see hc52) mv_X12_see rfl rfl ⟨Nat.le_trans (by decide) hR.1, Nat.le_trans (by decide) hR.2⟩ tb_1219 hv39 rfl (by decide) rfl hl.1 rfl (Nat.le_of_ble_eq_true rfl) ⟨Nat.zero_le _, Nat.zero_le _⟩ dX12_scan_160) (fun H locs dy => ?_)
        refine lv_iadd cx.1 cx.2.1 dX12_scan_163 ?_
        refine lv_bipush (v := 48) cx.1 cx.2.1 dX12_scan_164 (by decide) ?_
        refine lv_isub cx.1 cx.2.1 dX12_scan_166 ?_
        refine lv_goto (tgt := 174) cx.1 cx.2.1 dX12_scan_167 (by decide) ?_
        obtain ⟨g53, eg53, hr⟩ := of_nm hr
        refine h_putI cx fx dy fd_12_7 (pd_12_7 : PD _ _ _ _ _ .int) rfl rfl rfl hv39 tb_993 dX12_scan_174 (fun H locs dy => ?_)
        replace dy : Dy D cA ad (V, g53) A s.heap H locs := by rw [eg53]; exact dy
        obtain ⟨x54, ex54, hr⟩ := of_nm hr
        refine lv_iinc (v := x54) (lv' := [(3, .int x54), (0, .ref (ad k33)), (1, .int x34)]) cx.1 cx.2.1 dX12_scan_177 hl (k := 2) rfl (by rw [ex54]; rfl) (by decide) rfl (fun ls hl => ?_)
        refine lv_goto (tgt := 132) cx.1 cx.2.1 dX12_scan_180 (by decide) ?_
        exact hh0 k33 x34 x54 g53 (Option.some.inj hr).symm H locs ls dy (lv_sub hl [1, 2, 0] rfl)
noncomputable def r_X12_scan_68' (V : Vk) (k55 : Nat) (x56 : Int32) (x57 : Int32) (g58 : Hq) : Option ((Nat × Int32 × Int32 × Hq) ⊕ (Unit × Hq)) :=
  grd (V k55 = some (12, 0)) <| bnd (r_X12_see V k55 x57 g58) fun x60 g59 => bnd (r_X12_isSmall V x60 g59) fun x64 g63 => brn (x64 = 0) (bnd (r_X12_keyAt V k55 x56 (x57 - x56) g63) fun x67 g66 => nm (sI g66 k55 4 x67) fun g69 => brn ((g69.1 k55 4) = (-1 : Int32)) (nm (sI g69 k55 3 (0 : Int32)) fun g70 => nm (sI g70 k55 6 x57) fun g71 => some (.inr ((), g71))) (nm (sI g69 k55 3 (1 : Int32)) fun g72 => nm (sI g72 k55 6 x57) fun g73 => some (.inr ((), g73)))) (nm (x57 + (1 : Int32)) fun x74 => some (.inl (k55, x56, x74, g63)))
noncomputable def r_X12_scan_68 (V : Vk) (st : (Nat × Int32 × Int32 × Hq)) : Option ((Nat × Int32 × Int32 × Hq) ⊕ (Unit × Hq)) := r_X12_scan_68' V st.1 st.2.1 st.2.2.1 st.2.2.2
set_option maxHeartbeats 4000000 in
set_option maxRecDepth 100000 in
theorem w_X12_scan_68 {p : Program} {l : Launch} {e : Env} {R : Room} {s : State} {m : MethodId} {args : Array Value} {below : List Frame} {meth : Method} {c : Code} {D : va_G} {cA : Nat → ClassId} {sk : (Nat → Nat) × (Nat → Nat)} {ad : Nat → Nat} {A : Nat → Prop} {V : Vk} (cx : CallFix p m c cX12_scan 4 s args gw_tbl RX12) (fx : Fx D cA sk A s) (hlocks : meth.locks = false) (hret : meth.sig.returnType = none) (hR : 5 ≤ R.frames ∧ 112 ≤ R.locals) (g0 : Hq) (y : (Unit × Hq)) (hq : ∀ (rb : Unit) (gb : Hq), y = (rb, gb) → gb = g0) : ∀ (n : Nat) (k55 : Nat) (x56 : Int32) (x57 : Int32) (g58 : Hq), itr (r_X12_scan_68 V) n (k55, x56, x57, g58) = some y → ∀ (H : Heap) (locs : List Loc) (ls : Array Slot), Dy D cA ad (V, g58) A s.heap H locs → lv_has ls 4 [(0, .ref (ad k55)), (1, .int x56), (3, .int x57)] → W p l e R s m args below meth c H locs 0 0 (MQ below (QV D cA ad A (V, g0)) args s 0 0 A) (F0 m 68 ls []) := by
  intro n
  induction n with
  | zero => intro k55 x56 x57 g58 hr; cases hr
  | succ n ih =>
    intro k55 x56 x57 g58 hr H locs ls dy hl
    obtain ⟨z, hz, hn1, hn2⟩ := itr_succ hr
    clear hr
    have hr : r_X12_scan_68' V k55 x56 x57 g58 = some z := hz
    clear hz
    unfold r_X12_scan_68' at hr
    have hh0 : ∀ (b0 : Nat) (b1 : Int32) (b2 : Int32) (gb : Hq), z = .inl (b0, b1, b2, gb) → ∀ (H : Heap) (locs : List Loc) (ls : Array Slot), Dy D cA ad (V, gb) A s.heap H locs → lv_has ls 4 [(0, .ref (ad b0)), (1, .int b1), (3, .int b2)] → W p l e R s m args below meth c H locs 0 0 (MQ below (QV D cA ad A (V, g0)) args s 0 0 A) (F0 m 68 ls []) := fun b0 b1 b2 gb eb => ih b0 b1 b2 gb (hn1 _ eb)
    have hq0 : ∀ (rb : Unit) (gb : Hq), z = (.inr (rb, gb)) → gb = g0 := fun rb gb eb => hq rb gb (hn2 _ eb).symm
    refine lv_aload_n cx.1 cx.2.1 dX12_scan_68 rfl (lv_at hl 0 rfl) ?_
    refine lv_iload_n cx.1 cx.2.1 dX12_scan_69 rfl (lv_at hl 2 rfl) ?_
    obtain ⟨hv61, hr⟩ := of_grd hr
    obtain ⟨x60, g59, hc62, hr⟩ := of_bnd2 hr
    refine r_i dy (k_V (As := [.int x57]) (b := k55) (ci := 12) cx fx dy (c_X12_see hc62) mv_X12_see rfl rfl ⟨Nat.le_trans (by decide) hR.1, Nat.le_trans (by decide) hR.2⟩ tb_1219 hv61 rfl (by decide) rfl hl.1 rfl (Nat.le_of_ble_eq_true rfl) ⟨Nat.zero_le _, Nat.zero_le _⟩ dX12_scan_70) (fun H locs dy => ?_)
    obtain ⟨x64, g63, hc65, hr⟩ := of_bnd2 hr
    refine r_i dy (k_S (As := [.int x60]) cx fx dy (c_X12_isSmall hc65) mv_X12_isSmall rfl rfl ⟨Nat.le_trans (by decide) hR.1, Nat.le_trans (by decide) hR.2⟩ tb_1223 rfl hl.1 rfl (Nat.le_of_ble_eq_true rfl) ⟨Nat.zero_le _, Nat.zero_le _⟩ dX12_scan_73) (fun H locs dy => ?_)
    rcases of_brn hr with ⟨hc, hr⟩ | ⟨hc, hr⟩
    · refine lv_if_eq (tgt := 85) cx.1 cx.2.1 dX12_scan_76 (by decide) (fun _ => ?_) (fun hn => absurd hc hn)
      refine lv_aload_n cx.1 cx.2.1 dX12_scan_85 rfl (lv_at hl 0 rfl) ?_
      refine lv_aload_n cx.1 cx.2.1 dX12_scan_86 rfl (lv_at hl 0 rfl) ?_
      refine lv_iload_n cx.1 cx.2.1 dX12_scan_87 rfl (lv_at hl 1 rfl) ?_
      refine lv_iload_n cx.1 cx.2.1 dX12_scan_88 rfl (lv_at hl 2 rfl) ?_
      refine lv_iload_n cx.1 cx.2.1 dX12_scan_89 rfl (lv_at hl 1 rfl) ?_
      refine lv_isub cx.1 cx.2.1 dX12_scan_90 ?_
      obtain ⟨x67, g66, hc68, hr⟩ := of_bnd2 hr
      refine r_i dy (k_V (As := [.int x56, .int (x57 - x56)]) (b := k55) (ci := 12) cx fx dy (c_X12_keyAt hc68) mv_X12_keyAt rfl rfl ⟨Nat.le_trans (by decide) hR.1, Nat.le_trans (by decide) hR.2⟩ tb_1226 hv61 rfl (by decide) rfl hl.1 rfl (Nat.le_of_ble_eq_true rfl) ⟨Nat.zero_le _, Nat.zero_le _⟩ dX12_scan_91) (fun H locs dy => ?_)
      obtain ⟨g69, eg69, hr⟩ := of_nm hr
      refine h_putI cx fx dy fd_12_4 (pd_12_4 : PD _ _ _ _ _ .int) rfl rfl rfl hv61 tb_990 dX12_scan_94 (fun H locs dy => ?_)
      replace dy : Dy D cA ad (V, g69) A s.heap H locs := by rw [eg69]; exact dy
      refine lv_aload_n cx.1 cx.2.1 dX12_scan_97 rfl (lv_at hl 0 rfl) ?_
      refine lv_aload_n cx.1 cx.2.1 dX12_scan_98 rfl (lv_at hl 0 rfl) ?_
      refine h_getI cx fx dy fd_12_4 hv61 tb_990 dX12_scan_99 ?_
      refine lv_iconst (v := (-1)) cx.1 cx.2.1 dX12_scan_102 (by decide) ?_
      rcases of_brn hr with ⟨hc, hr⟩ | ⟨hc, hr⟩
      · refine lv_icmp_ne (tgt := 110) cx.1 cx.2.1 dX12_scan_103 (by decide) (fun hn => absurd hc hn) (fun _ => ?_)
        refine lv_iconst (v := 0) cx.1 cx.2.1 dX12_scan_106 (by decide) ?_
        refine lv_goto (tgt := 111) cx.1 cx.2.1 dX12_scan_107 (by decide) ?_
        obtain ⟨g70, eg70, hr⟩ := of_nm hr
        refine h_putI cx fx dy fd_12_3 (pd_12_3 : PD _ _ _ _ _ .int) rfl rfl rfl hv61 tb_989 dX12_scan_111 (fun H locs dy => ?_)
        replace dy : Dy D cA ad (V, g70) A s.heap H locs := by rw [eg70]; exact dy
        refine lv_goto (tgt := 217) cx.1 cx.2.1 dX12_scan_114 (by decide) ?_
        refine lv_aload_n cx.1 cx.2.1 dX12_scan_217 rfl (lv_at hl 0 rfl) ?_
        refine lv_iload_n cx.1 cx.2.1 dX12_scan_218 rfl (lv_at hl 2 rfl) ?_
        obtain ⟨g71, eg71, hr⟩ := of_nm hr
        refine h_putI cx fx dy fd_12_6 (pd_12_6 : PD _ _ _ _ _ .int) rfl rfl rfl hv61 tb_992 dX12_scan_219 (fun H locs dy => ?_)
        replace dy : Dy D cA ad (V, g71) A s.heap H locs := by rw [eg71]; exact dy
        have e1 := hq0 _ _ (Option.some.inj hr).symm
        exact h_vret cx dy hlocks hret (by rw [e1]) dX12_scan_222
      · refine lv_icmp_ne (tgt := 110) cx.1 cx.2.1 dX12_scan_103 (by decide) (fun _ => ?_) (fun hn => absurd hn hc)
        refine lv_iconst (v := 1) cx.1 cx.2.1 dX12_scan_110 (by decide) ?_
        obtain ⟨g72, eg72, hr⟩ := of_nm hr
        refine h_putI cx fx dy fd_12_3 (pd_12_3 : PD _ _ _ _ _ .int) rfl rfl rfl hv61 tb_989 dX12_scan_111 (fun H locs dy => ?_)
        replace dy : Dy D cA ad (V, g72) A s.heap H locs := by rw [eg72]; exact dy
        refine lv_goto (tgt := 217) cx.1 cx.2.1 dX12_scan_114 (by decide) ?_
        refine lv_aload_n cx.1 cx.2.1 dX12_scan_217 rfl (lv_at hl 0 rfl) ?_
        refine lv_iload_n cx.1 cx.2.1 dX12_scan_218 rfl (lv_at hl 2 rfl) ?_
        obtain ⟨g73, eg73, hr⟩ := of_nm hr
        refine h_putI cx fx dy fd_12_6 (pd_12_6 : PD _ _ _ _ _ .int) rfl rfl rfl hv61 tb_992 dX12_scan_219 (fun H locs dy => ?_)
        replace dy : Dy D cA ad (V, g73) A s.heap H locs := by rw [eg73]; exact dy
        have e1 := hq0 _ _ (Option.some.inj hr).symm
        exact h_vret cx dy hlocks hret (by rw [e1]) dX12_scan_222
    · refine lv_if_eq (tgt := 85) cx.1 cx.2.1 dX12_scan_76 (by decide) (fun hn => absurd hn hc) (fun _ => ?_)
      obtain ⟨x74, ex74, hr⟩ := of_nm hr
      refine lv_iinc (v := x74) (lv' := [(3, .int x74), (0, .ref (ad k55)), (1, .int x56)]) cx.1 cx.2.1 dX12_scan_79 hl (k := 2) rfl (by rw [ex74]; rfl) (by decide) rfl (fun ls hl => ?_)
      refine lv_goto (tgt := 68) cx.1 cx.2.1 dX12_scan_82 (by decide) ?_
      exact hh0 k55 x56 x74 g63 (Option.some.inj hr).symm H locs ls dy (lv_sub hl [1, 2, 0] rfl)
noncomputable def r_X12_scan_5' (V : Vk) (k3 : Nat) (x4 : Int32) (g5 : Hq) : Option ((Nat × Int32 × Hq) ⊕ (Unit × Hq)) :=
  grd (V k3 = some (12, 0)) <| bnd (r_X12_see V k3 x4 g5) fun x7 g6 => brn (x7 = (32 : Int32)) (nm (x4 + (1 : Int32)) fun x10 => some (.inl (k3, x10, g6))) (bnd (r_X12_see V k3 x4 g6) fun x12 g11 => brn (x12 = (10 : Int32)) (nm (x4 + (1 : Int32)) fun x14 => some (.inl (k3, x14, g11))) (nm (sI g11 k3 5 x4) fun g15 => bnd (r_X12_see V k3 x4 g15) fun x17 g16 => nm (x4 + (1 : Int32)) fun x19 => brn (x17 = (-1 : Int32)) (nm (sI g16 k3 3 (4 : Int32)) fun g20 => nm (sI g20 k3 6 x4) fun g21 => some (.inr ((), g21))) (bnd (r_X12_isSmall V x17 g16) fun x23 g22 => brn (x23 = 0) (bnd (r_X12_isDigit V x17 g22) fun x26 g25 => brn (x26 = 0) (brn (x17 = (59 : Int32)) (nm (sI g25 k3 3 (3 : Int32)) fun g28 => nm (sI g28 k3 6 x19) fun g29 => some (.inr ((), g29))) (nm (sI g25 k3 3 (0 : Int32)) fun g30 => nm (sI g30 k3 6 x19) fun g31 => some (.inr ((), g31)))) (nm (sI g25 k3 7 (x17 - (48 : Int32))) fun g32 => (Option.map Sum.inr (lop (r_X12_scan_132 V) (k3, x4, x19, g32))))) ((Option.map Sum.inr (lop (r_X12_scan_68 V) (k3, x4, x19, g22)))))))
noncomputable def r_X12_scan_5 (V : Vk) (st : (Nat × Int32 × Hq)) : Option ((Nat × Int32 × Hq) ⊕ (Unit × Hq)) := r_X12_scan_5' V st.1 st.2.1 st.2.2
set_option maxHeartbeats 4000000 in
set_option maxRecDepth 100000 in
theorem w_X12_scan_5 {p : Program} {l : Launch} {e : Env} {R : Room} {s : State} {m : MethodId} {args : Array Value} {below : List Frame} {meth : Method} {c : Code} {D : va_G} {cA : Nat → ClassId} {sk : (Nat → Nat) × (Nat → Nat)} {ad : Nat → Nat} {A : Nat → Prop} {V : Vk} (cx : CallFix p m c cX12_scan 4 s args gw_tbl RX12) (fx : Fx D cA sk A s) (hlocks : meth.locks = false) (hret : meth.sig.returnType = none) (hR : 5 ≤ R.frames ∧ 112 ≤ R.locals) (g0 : Hq) (y : (Unit × Hq)) (hq : ∀ (rb : Unit) (gb : Hq), y = (rb, gb) → gb = g0) : ∀ (n : Nat) (k3 : Nat) (x4 : Int32) (g5 : Hq), itr (r_X12_scan_5 V) n (k3, x4, g5) = some y → ∀ (H : Heap) (locs : List Loc) (ls : Array Slot), Dy D cA ad (V, g5) A s.heap H locs → lv_has ls 4 [(0, .ref (ad k3)), (1, .int x4)] → W p l e R s m args below meth c H locs 0 0 (MQ below (QV D cA ad A (V, g0)) args s 0 0 A) (F0 m 5 ls []) := by
  intro n
  induction n with
  | zero => intro k3 x4 g5 hr; cases hr
  | succ n ih =>
    intro k3 x4 g5 hr H locs ls dy hl
    obtain ⟨z, hz, hn1, hn2⟩ := itr_succ hr
    clear hr
    have hr : r_X12_scan_5' V k3 x4 g5 = some z := hz
    clear hz
    unfold r_X12_scan_5' at hr
    have hh0 : ∀ (b0 : Nat) (b1 : Int32) (gb : Hq), z = .inl (b0, b1, gb) → ∀ (H : Heap) (locs : List Loc) (ls : Array Slot), Dy D cA ad (V, gb) A s.heap H locs → lv_has ls 4 [(0, .ref (ad b0)), (1, .int b1)] → W p l e R s m args below meth c H locs 0 0 (MQ below (QV D cA ad A (V, g0)) args s 0 0 A) (F0 m 5 ls []) := fun b0 b1 gb eb => ih b0 b1 gb (hn1 _ eb)
    have hq0 : ∀ (rb : Unit) (gb : Hq), z = (.inr (rb, gb)) → gb = g0 := fun rb gb eb => hq rb gb (hn2 _ eb).symm
    refine lv_aload_n cx.1 cx.2.1 dX12_scan_5 rfl (lv_at hl 0 rfl) ?_
    refine lv_iload_n cx.1 cx.2.1 dX12_scan_6 rfl (lv_at hl 1 rfl) ?_
    obtain ⟨hv8, hr⟩ := of_grd hr
    obtain ⟨x7, g6, hc9, hr⟩ := of_bnd2 hr
    refine r_i dy (k_V (As := [.int x4]) (b := k3) (ci := 12) cx fx dy (c_X12_see hc9) mv_X12_see rfl rfl ⟨Nat.le_trans (by decide) hR.1, Nat.le_trans (by decide) hR.2⟩ tb_1219 hv8 rfl (by decide) rfl hl.1 rfl (Nat.le_of_ble_eq_true rfl) ⟨Nat.zero_le _, Nat.zero_le _⟩ dX12_scan_7) (fun H locs dy => ?_)
    refine lv_bipush (v := 32) cx.1 cx.2.1 dX12_scan_10 (by decide) ?_
    rcases of_brn hr with ⟨hc, hr⟩ | ⟨hc, hr⟩
    · refine lv_icmp_eq (tgt := 25) cx.1 cx.2.1 dX12_scan_12 (by decide) (fun _ => ?_) (fun hn => absurd hc hn)
      obtain ⟨x10, ex10, hr⟩ := of_nm hr
      refine lv_iinc (v := x10) (lv' := [(1, .int x10), (0, .ref (ad k3))]) cx.1 cx.2.1 dX12_scan_25 hl (k := 1) rfl (by rw [ex10]; rfl) (by decide) rfl (fun ls hl => ?_)
      refine lv_goto (tgt := 5) cx.1 cx.2.1 dX12_scan_28 (by decide) ?_
      exact hh0 k3 x10 g6 (Option.some.inj hr).symm H locs ls dy (lv_sub hl [1, 0] rfl)
    · refine lv_icmp_eq (tgt := 25) cx.1 cx.2.1 dX12_scan_12 (by decide) (fun hn => absurd hn hc) (fun _ => ?_)
      refine lv_aload_n cx.1 cx.2.1 dX12_scan_15 rfl (lv_at hl 0 rfl) ?_
      refine lv_iload_n cx.1 cx.2.1 dX12_scan_16 rfl (lv_at hl 1 rfl) ?_
      obtain ⟨x12, g11, hc13, hr⟩ := of_bnd2 hr
      refine r_i dy (k_V (As := [.int x4]) (b := k3) (ci := 12) cx fx dy (c_X12_see hc13) mv_X12_see rfl rfl ⟨Nat.le_trans (by decide) hR.1, Nat.le_trans (by decide) hR.2⟩ tb_1219 hv8 rfl (by decide) rfl hl.1 rfl (Nat.le_of_ble_eq_true rfl) ⟨Nat.zero_le _, Nat.zero_le _⟩ dX12_scan_17) (fun H locs dy => ?_)
      refine lv_bipush (v := 10) cx.1 cx.2.1 dX12_scan_20 (by decide) ?_
      rcases of_brn hr with ⟨hc, hr⟩ | ⟨hc, hr⟩
      · refine lv_icmp_ne (tgt := 31) cx.1 cx.2.1 dX12_scan_22 (by decide) (fun hn => absurd hc hn) (fun _ => ?_)
        obtain ⟨x14, ex14, hr⟩ := of_nm hr
        refine lv_iinc (v := x14) (lv' := [(1, .int x14), (0, .ref (ad k3))]) cx.1 cx.2.1 dX12_scan_25 hl (k := 1) rfl (by rw [ex14]; rfl) (by decide) rfl (fun ls hl => ?_)
        refine lv_goto (tgt := 5) cx.1 cx.2.1 dX12_scan_28 (by decide) ?_
        exact hh0 k3 x14 g11 (Option.some.inj hr).symm H locs ls dy (lv_sub hl [1, 0] rfl)
      · refine lv_icmp_ne (tgt := 31) cx.1 cx.2.1 dX12_scan_22 (by decide) (fun _ => ?_) (fun hn => absurd hn hc)
        refine lv_aload_n cx.1 cx.2.1 dX12_scan_31 rfl (lv_at hl 0 rfl) ?_
        refine lv_iload_n cx.1 cx.2.1 dX12_scan_32 rfl (lv_at hl 1 rfl) ?_
        obtain ⟨g15, eg15, hr⟩ := of_nm hr
        refine h_putI cx fx dy fd_12_5 (pd_12_5 : PD _ _ _ _ _ .int) rfl rfl rfl hv8 tb_991 dX12_scan_33 (fun H locs dy => ?_)
        replace dy : Dy D cA ad (V, g15) A s.heap H locs := by rw [eg15]; exact dy
        refine lv_aload_n cx.1 cx.2.1 dX12_scan_36 rfl (lv_at hl 0 rfl) ?_
        refine lv_iload_n cx.1 cx.2.1 dX12_scan_37 rfl (lv_at hl 1 rfl) ?_
        obtain ⟨x17, g16, hc18, hr⟩ := of_bnd2 hr
        refine r_i dy (k_V (As := [.int x4]) (b := k3) (ci := 12) cx fx dy (c_X12_see hc18) mv_X12_see rfl rfl ⟨Nat.le_trans (by decide) hR.1, Nat.le_trans (by decide) hR.2⟩ tb_1219 hv8 rfl (by decide) rfl hl.1 rfl (Nat.le_of_ble_eq_true rfl) ⟨Nat.zero_le _, Nat.zero_le _⟩ dX12_scan_38) (fun H locs dy => ?_)
        refine lv_istore_n (lv' := [(2, .int x17), (0, .ref (ad k3)), (1, .int x4)]) cx.1 cx.2.1 dX12_scan_41 rfl hl (by decide) rfl (fun ls hl => ?_)
        refine lv_iload_n cx.1 cx.2.1 dX12_scan_42 rfl (lv_at hl 2 rfl) ?_
        refine lv_iconst (v := 1) cx.1 cx.2.1 dX12_scan_43 (by decide) ?_
        refine lv_iadd cx.1 cx.2.1 dX12_scan_44 ?_
        obtain ⟨x19, ex19, hr⟩ := of_nm hr
        refine lv_nmi ex19 ?_
        refine lv_istore_n (lv' := [(3, .int x19), (2, .int x17), (0, .ref (ad k3)), (1, .int x4)]) cx.1 cx.2.1 dX12_scan_45 rfl hl (by decide) rfl (fun ls hl => ?_)
        refine lv_iload_n cx.1 cx.2.1 dX12_scan_46 rfl (lv_at hl 1 rfl) ?_
        refine lv_iconst (v := (-1)) cx.1 cx.2.1 dX12_scan_47 (by decide) ?_
        rcases of_brn hr with ⟨hc, hr⟩ | ⟨hc, hr⟩
        · refine lv_icmp_ne (tgt := 61) cx.1 cx.2.1 dX12_scan_48 (by decide) (fun hn => absurd hc hn) (fun _ => ?_)
          refine lv_aload_n cx.1 cx.2.1 dX12_scan_51 rfl (lv_at hl 2 rfl) ?_
          refine lv_iconst (v := 4) cx.1 cx.2.1 dX12_scan_52 (by decide) ?_
          obtain ⟨g20, eg20, hr⟩ := of_nm hr
          refine h_putI cx fx dy fd_12_3 (pd_12_3 : PD _ _ _ _ _ .int) rfl rfl rfl hv8 tb_989 dX12_scan_53 (fun H locs dy => ?_)
          replace dy : Dy D cA ad (V, g20) A s.heap H locs := by rw [eg20]; exact dy
          refine lv_iload_n cx.1 cx.2.1 dX12_scan_56 rfl (lv_at hl 3 rfl) ?_
          refine lv_istore_n (lv' := [(3, .int x4), (2, .int x17), (0, .ref (ad k3)), (1, .int x4)]) cx.1 cx.2.1 dX12_scan_57 rfl hl (by decide) rfl (fun ls hl => ?_)
          refine lv_goto (tgt := 217) cx.1 cx.2.1 dX12_scan_58 (by decide) ?_
          refine lv_aload_n cx.1 cx.2.1 dX12_scan_217 rfl (lv_at hl 2 rfl) ?_
          refine lv_iload_n cx.1 cx.2.1 dX12_scan_218 rfl (lv_at hl 0 rfl) ?_
          obtain ⟨g21, eg21, hr⟩ := of_nm hr
          refine h_putI cx fx dy fd_12_6 (pd_12_6 : PD _ _ _ _ _ .int) rfl rfl rfl hv8 tb_992 dX12_scan_219 (fun H locs dy => ?_)
          replace dy : Dy D cA ad (V, g21) A s.heap H locs := by rw [eg21]; exact dy
          have e1 := hq0 _ _ (Option.some.inj hr).symm
          exact h_vret cx dy hlocks hret (by rw [e1]) dX12_scan_222
        · refine lv_icmp_ne (tgt := 61) cx.1 cx.2.1 dX12_scan_48 (by decide) (fun _ => ?_) (fun hn => absurd hn hc)
          refine lv_iload_n cx.1 cx.2.1 dX12_scan_61 rfl (lv_at hl 1 rfl) ?_
          obtain ⟨x23, g22, hc24, hr⟩ := of_bnd2 hr
          refine r_i dy (k_S (As := [.int x17]) cx fx dy (c_X12_isSmall hc24) mv_X12_isSmall rfl rfl ⟨Nat.le_trans (by decide) hR.1, Nat.le_trans (by decide) hR.2⟩ tb_1223 rfl hl.1 rfl (Nat.le_of_ble_eq_true rfl) ⟨Nat.zero_le _, Nat.zero_le _⟩ dX12_scan_62) (fun H locs dy => ?_)
          rcases of_brn hr with ⟨hc, hr⟩ | ⟨hc, hr⟩
          · refine lv_if_eq (tgt := 117) cx.1 cx.2.1 dX12_scan_65 (by decide) (fun _ => ?_) (fun hn => absurd hc hn)
            refine lv_iload_n cx.1 cx.2.1 dX12_scan_117 rfl (lv_at hl 1 rfl) ?_
            obtain ⟨x26, g25, hc27, hr⟩ := of_bnd2 hr
            refine r_i dy (k_S (As := [.int x17]) cx fx dy (c_X12_isDigit hc27) mv_X12_isDigit rfl rfl ⟨Nat.le_trans (by decide) hR.1, Nat.le_trans (by decide) hR.2⟩ tb_1233 rfl hl.1 rfl (Nat.le_of_ble_eq_true rfl) ⟨Nat.zero_le _, Nat.zero_le _⟩ dX12_scan_118) (fun H locs dy => ?_)
            rcases of_brn hr with ⟨hc, hr⟩ | ⟨hc, hr⟩
            · refine lv_if_eq (tgt := 202) cx.1 cx.2.1 dX12_scan_121 (by decide) (fun _ => ?_) (fun hn => absurd hc hn)
              refine lv_aload_n cx.1 cx.2.1 dX12_scan_202 rfl (lv_at hl 2 rfl) ?_
              refine lv_iload_n cx.1 cx.2.1 dX12_scan_203 rfl (lv_at hl 1 rfl) ?_
              refine lv_bipush (v := 59) cx.1 cx.2.1 dX12_scan_204 (by decide) ?_
              rcases of_brn hr with ⟨hc, hr⟩ | ⟨hc, hr⟩
              · refine lv_icmp_ne (tgt := 213) cx.1 cx.2.1 dX12_scan_206 (by decide) (fun hn => absurd hc hn) (fun _ => ?_)
                refine lv_iconst (v := 3) cx.1 cx.2.1 dX12_scan_209 (by decide) ?_
                refine lv_goto (tgt := 214) cx.1 cx.2.1 dX12_scan_210 (by decide) ?_
                obtain ⟨g28, eg28, hr⟩ := of_nm hr
                refine h_putI cx fx dy fd_12_3 (pd_12_3 : PD _ _ _ _ _ .int) rfl rfl rfl hv8 tb_989 dX12_scan_214 (fun H locs dy => ?_)
                replace dy : Dy D cA ad (V, g28) A s.heap H locs := by rw [eg28]; exact dy
                refine lv_aload_n cx.1 cx.2.1 dX12_scan_217 rfl (lv_at hl 2 rfl) ?_
                refine lv_iload_n cx.1 cx.2.1 dX12_scan_218 rfl (lv_at hl 0 rfl) ?_
                obtain ⟨g29, eg29, hr⟩ := of_nm hr
                refine h_putI cx fx dy fd_12_6 (pd_12_6 : PD _ _ _ _ _ .int) rfl rfl rfl hv8 tb_992 dX12_scan_219 (fun H locs dy => ?_)
                replace dy : Dy D cA ad (V, g29) A s.heap H locs := by rw [eg29]; exact dy
                have e1 := hq0 _ _ (Option.some.inj hr).symm
                exact h_vret cx dy hlocks hret (by rw [e1]) dX12_scan_222
              · refine lv_icmp_ne (tgt := 213) cx.1 cx.2.1 dX12_scan_206 (by decide) (fun _ => ?_) (fun hn => absurd hn hc)
                refine lv_iconst (v := 0) cx.1 cx.2.1 dX12_scan_213 (by decide) ?_
                obtain ⟨g30, eg30, hr⟩ := of_nm hr
                refine h_putI cx fx dy fd_12_3 (pd_12_3 : PD _ _ _ _ _ .int) rfl rfl rfl hv8 tb_989 dX12_scan_214 (fun H locs dy => ?_)
                replace dy : Dy D cA ad (V, g30) A s.heap H locs := by rw [eg30]; exact dy
                refine lv_aload_n cx.1 cx.2.1 dX12_scan_217 rfl (lv_at hl 2 rfl) ?_
                refine lv_iload_n cx.1 cx.2.1 dX12_scan_218 rfl (lv_at hl 0 rfl) ?_
                obtain ⟨g31, eg31, hr⟩ := of_nm hr
                refine h_putI cx fx dy fd_12_6 (pd_12_6 : PD _ _ _ _ _ .int) rfl rfl rfl hv8 tb_992 dX12_scan_219 (fun H locs dy => ?_)
                replace dy : Dy D cA ad (V, g31) A s.heap H locs := by rw [eg31]; exact dy
                have e1 := hq0 _ _ (Option.some.inj hr).symm
                exact h_vret cx dy hlocks hret (by rw [e1]) dX12_scan_222
            · refine lv_if_eq (tgt := 202) cx.1 cx.2.1 dX12_scan_121 (by decide) (fun hn => absurd hn hc) (fun _ => ?_)
              refine lv_aload_n cx.1 cx.2.1 dX12_scan_124 rfl (lv_at hl 2 rfl) ?_
              refine lv_iload_n cx.1 cx.2.1 dX12_scan_125 rfl (lv_at hl 1 rfl) ?_
              refine lv_bipush (v := 48) cx.1 cx.2.1 dX12_scan_126 (by decide) ?_
              refine lv_isub cx.1 cx.2.1 dX12_scan_128 ?_
              obtain ⟨g32, eg32, hr⟩ := of_nm hr
              refine h_putI cx fx dy fd_12_7 (pd_12_7 : PD _ _ _ _ _ .int) rfl rfl rfl hv8 tb_993 dX12_scan_129 (fun H locs dy => ?_)
              replace dy : Dy D cA ad (V, g32) A s.heap H locs := by rw [eg32]; exact dy
              obtain ⟨z1, hr, ez1⟩ := of_map hr
              obtain ⟨n, hr⟩ := lop_some hr
              exact w_X12_scan_132 cx fx hlocks hret hR g0 z1 (fun rb gb eb => hq0 rb gb (by rw [ez1, eb])) n k3 x4 x19 g32 hr H locs ls dy (lv_sub hl [2, 3, 0] rfl)
          · refine lv_if_eq (tgt := 117) cx.1 cx.2.1 dX12_scan_65 (by decide) (fun hn => absurd hn hc) (fun _ => ?_)
            obtain ⟨z1, hr, ez1⟩ := of_map hr
            obtain ⟨n, hr⟩ := lop_some hr
            exact w_X12_scan_68 cx fx hlocks hret hR g0 z1 (fun rb gb eb => hq0 rb gb (by rw [ez1, eb])) n k3 x4 x19 g22 hr H locs ls dy (lv_sub hl [2, 3, 0] rfl)
noncomputable def r_X12_scan (V : Vk) (k0 : Nat) (g : Hq) : Option (Unit × Hq) :=
  grd (V k0 = some (12, 0)) <| nm (g.1 k0 6) fun x2 => (lop (r_X12_scan_5 V) (k0, x2, g))
set_option maxHeartbeats 4000000 in
set_option maxRecDepth 100000 in
theorem c_X12_scan {l : Launch} {D : va_G} {cA : Nat → ClassId} {sk : (Nat → Nat) × (Nat → Nat)} {ad : Nat → Nat} {A : Nat → Prop} {V : Vk} {k0 : Nat} {g g0 : Hq} (hr : r_X12_scan V k0 g = some ((), g0)) : Met l yX12_scan (wM yX12_scan cX12_scan 4 none) { frames := 5, cells := 0, slots := 0, locals := 112 } (Pre D cA sk ad (V, g) A [.ref (ad k0)]) (QV D cA ad A (V, g0)) 0 0 A := by
  refine Met.ofW (cc := cX12_scan) (maxL := 4) (ret := none) (by decide) rfl ?_
  intro p e s m args below meth c s₁ B hml hv
  obtain ⟨rfl, fx, w0⟩ := hv
  have hts := atoms_spec (ws := wM yX12_scan cX12_scan 4 none) B.pre
  have cx : CallFix p m c cX12_scan 4 s ([.ref (ad k0)] : List Value).toArray gw_tbl RX12 := ⟨B.exec, B.bytes, hml, findClass_of_methodNamed B.named, fun w hw => hts w (List.mem_cons_of_mem _ hw)⟩
  have hlocks := B.notSynchronized
  have hret := B.returns
  have hR : 5 ≤ (headSpec (wM yX12_scan cX12_scan 4 none) { frames := 5, cells := 0, slots := 0, locals := 112 }).room.frames ∧ 112 ≤ (headSpec (wM yX12_scan cX12_scan 4 none) { frames := 5, cells := 0, slots := 0, locals := 112 }).room.locals := ⟨Nat.le_refl _, Nat.le_refl _⟩
  have dy : Dy D cA ad (V, g) A s.heap s.heap [] := ⟨w0, va_S.rf⟩
  have hl := lv_entry [.ref (ad k0)] (n := 4) (Nat.le_of_ble_eq_true rfl)
  rw [lg_entry_eq]
  generalize (lg_sl [.ref (ad k0)] ++ List.replicate (4 - (lg_sl [.ref (ad k0)]).length) Slot.unset).toArray = ls at hl ⊢
  have hl : lv_has ls 4 [(0, .ref (ad k0))] := hl
  have dy0 : ∃ H0, H0 = s.heap ∧ Dy D cA ad (V, g) A s.heap H0 [] := ⟨_, rfl, dy⟩
  obtain ⟨z, ez⟩ : ∃ z, z = (((), g0) : Unit × Hq) := ⟨_, rfl⟩
  rw [← ez] at hr
  have hq0 : ∀ (rb : Unit) (gb : Hq), z = (rb, gb) → gb = g0 := fun rb gb eb => by rw [ez] at eb; exact (congrArg Prod.snd eb).symm
  clear ez w0 dy0
  unfold r_X12_scan at hr
  obtain ⟨H, hH⟩ : ∃ H, H = s.heap := ⟨_, rfl⟩
  obtain ⟨locs, hlo⟩ : ∃ q : List Loc, q = [] := ⟨_, rfl⟩
  have dy : Dy D cA ad (V, g) A s.heap H locs := by rw [hH, hlo]; exact dy
  suffices K : W p l e (headSpec (wM yX12_scan cX12_scan 4 none) { frames := 5, cells := 0, slots := 0, locals := 112 }).room s m ([.ref (ad k0)] : List Value).toArray below meth c H locs 0 0 (MQ below (QV D cA ad A (V, g0)) ([.ref (ad k0)] : List Value).toArray s 0 0 A) (F0 m 0 ls []) by rw [hH, hlo] at K; exact K
  clear hH hlo
  refine lv_aload_n cx.1 cx.2.1 dX12_scan_0 rfl (lv_at hl 0 rfl) ?_
  obtain ⟨hv1, hr⟩ := of_grd hr
  refine h_getI cx fx dy fd_12_6 hv1 tb_992 dX12_scan_1 ?_
  obtain ⟨x2, ex2, hr⟩ := of_nm hr
  refine lv_nmi ex2 ?_
  refine lv_istore_n (lv' := [(1, .int x2), (0, .ref (ad k0))]) cx.1 cx.2.1 dX12_scan_4 rfl hl (by decide) rfl (fun ls hl => ?_)
  obtain ⟨n, hr⟩ := lop_some hr
  exact w_X12_scan_5 cx fx hlocks hret hR g0 z hq0 n k0 x2 g hr H locs ls dy (lv_sub hl [1, 0] rfl)
noncomputable def r_X12_wrong (V : Vk) (k0 : Nat) (a1 : Int32) (g : Hq) : Option (Int32 × Hq) :=
  grd (V k0 = some (12, 0)) <| nm (sI g k0 8 a1) fun g2 => nm (sI g2 k0 9 (g2.1 k0 5)) fun g3 => some ((0 : Int32), g3)
set_option maxHeartbeats 4000000 in
set_option maxRecDepth 100000 in
theorem c_X12_wrong {l : Launch} {D : va_G} {cA : Nat → ClassId} {sk : (Nat → Nat) × (Nat → Nat)} {ad : Nat → Nat} {A : Nat → Prop} {V : Vk} {k0 : Nat} {a1 : Int32} {g g0 : Hq} {r0 : Int32} (hr : r_X12_wrong V k0 a1 g = some (r0, g0)) : Met l yX12_wrong (wM yX12_wrong cX12_wrong 2 (some .boolean)) { frames := 0, cells := 0, slots := 0, locals := 0 } (Pre D cA sk ad (V, g) A [.ref (ad k0), .int a1]) (QI D cA ad A r0 (V, g0)) 0 0 A := by
  refine Met.ofW (cc := cX12_wrong) (maxL := 2) (ret := (some .boolean)) (by decide) rfl ?_
  intro p e s m args below meth c s₁ B hml hv
  obtain ⟨rfl, fx, w0⟩ := hv
  have hts := atoms_spec (ws := wM yX12_wrong cX12_wrong 2 (some .boolean)) B.pre
  have cx : CallFix p m c cX12_wrong 2 s ([.ref (ad k0), .int a1] : List Value).toArray gw_tbl RX12 := ⟨B.exec, B.bytes, hml, findClass_of_methodNamed B.named, fun w hw => hts w (List.mem_cons_of_mem _ hw)⟩
  have hlocks := B.notSynchronized
  have hret := B.returns
  have hR : 0 ≤ (headSpec (wM yX12_wrong cX12_wrong 2 (some .boolean)) { frames := 0, cells := 0, slots := 0, locals := 0 }).room.frames ∧ 0 ≤ (headSpec (wM yX12_wrong cX12_wrong 2 (some .boolean)) { frames := 0, cells := 0, slots := 0, locals := 0 }).room.locals := ⟨Nat.le_refl _, Nat.le_refl _⟩
  have dy : Dy D cA ad (V, g) A s.heap s.heap [] := ⟨w0, va_S.rf⟩
  have hl := lv_entry [.ref (ad k0), .int a1] (n := 2) (Nat.le_of_ble_eq_true rfl)
  rw [lg_entry_eq]
  generalize (lg_sl [.ref (ad k0), .int a1] ++ List.replicate (2 - (lg_sl [.ref (ad k0), .int a1]).length) Slot.unset).toArray = ls at hl ⊢
  have hl : lv_has ls 2 [(0, .ref (ad k0)), (1, .int a1)] := hl
  have dy0 : ∃ H0, H0 = s.heap ∧ Dy D cA ad (V, g) A s.heap H0 [] := ⟨_, rfl, dy⟩
  obtain ⟨z, ez⟩ : ∃ z, z = (r0, g0) := ⟨_, rfl⟩
  rw [← ez] at hr
  have hq0 : ∀ (rb : Int32) (gb : Hq), z = (rb, gb) → rb = r0 ∧ gb = g0 := fun rb gb eb => by rw [ez] at eb; exact ⟨(congrArg Prod.fst eb).symm, (congrArg Prod.snd eb).symm⟩
  clear ez w0 dy0
  unfold r_X12_wrong at hr
  obtain ⟨H, hH⟩ : ∃ H, H = s.heap := ⟨_, rfl⟩
  obtain ⟨locs, hlo⟩ : ∃ q : List Loc, q = [] := ⟨_, rfl⟩
  have dy : Dy D cA ad (V, g) A s.heap H locs := by rw [hH, hlo]; exact dy
  suffices K : W p l e (headSpec (wM yX12_wrong cX12_wrong 2 (some .boolean)) { frames := 0, cells := 0, slots := 0, locals := 0 }).room s m ([.ref (ad k0), .int a1] : List Value).toArray below meth c H locs 0 0 (MQ below (QI D cA ad A r0 (V, g0)) ([.ref (ad k0), .int a1] : List Value).toArray s 0 0 A) (F0 m 0 ls []) by rw [hH, hlo] at K; exact K
  clear hH hlo
  refine lv_aload_n cx.1 cx.2.1 dX12_wrong_0 rfl (lv_at hl 0 rfl) ?_
  refine lv_iload_n cx.1 cx.2.1 dX12_wrong_1 rfl (lv_at hl 1 rfl) ?_
  obtain ⟨hv1, hr⟩ := of_grd hr
  obtain ⟨g2, eg2, hr⟩ := of_nm hr
  refine h_putI cx fx dy fd_12_8 (pd_12_8 : PD _ _ _ _ _ .int) rfl rfl rfl hv1 tb_994 dX12_wrong_2 (fun H locs dy => ?_)
  replace dy : Dy D cA ad (V, g2) A s.heap H locs := by rw [eg2]; exact dy
  refine lv_aload_n cx.1 cx.2.1 dX12_wrong_5 rfl (lv_at hl 0 rfl) ?_
  refine lv_aload_n cx.1 cx.2.1 dX12_wrong_6 rfl (lv_at hl 0 rfl) ?_
  refine h_getI cx fx dy fd_12_5 hv1 tb_991 dX12_wrong_7 ?_
  obtain ⟨g3, eg3, hr⟩ := of_nm hr
  refine h_putI cx fx dy fd_12_9 (pd_12_9 : PD _ _ _ _ _ .int) rfl rfl rfl hv1 tb_995 dX12_wrong_10 (fun H locs dy => ?_)
  replace dy : Dy D cA ad (V, g3) A s.heap H locs := by rw [eg3]; exact dy
  refine lv_iconst (v := 0) cx.1 cx.2.1 dX12_wrong_13 (by decide) ?_
  obtain ⟨e0, e1⟩ := hq0 _ _ (Option.some.inj hr).symm
  exact h_iret cx dy hlocks hret rfl e0 (by rw [e1]) dX12_wrong_14
noncomputable def r_X12_court (V : Vk) (k0 : Nat) (a1 : Int32) (a2 : Int32) (a3 : Int32) (g : Hq) : Option (Int32 × Hq) :=
  bnd (r_X12_isCourt V a1 g) fun x2 g1 => brn (x2 = 0) (some ((-2 : Int32), g1)) (bnd (r_X12_isWard V a2 g1) fun x5 g4 => brn (x5 = 0) (some ((-2 : Int32), g4)) (bnd (r_X12_in V a3 (1 : Int32) (999 : Int32) g4) fun x8 g7 => brn (x8 = 0) (some ((-2 : Int32), g7)) (grd (V k0 = some (12, 0)) <| Option.bind (g7.2.2 k0 10) fun k11 => grd (okV V k11 0 a1) <| nm (sI g7 k11 a1.toNatClampNeg a2) fun g14 => Option.bind (g14.2.2 k0 11) fun k15 => grd (okV V k15 0 a1) <| nm (sI g14 k15 a1.toNatClampNeg a3) fun g18 => some ((1 : Int32), g18))))
set_option maxHeartbeats 4000000 in
set_option maxRecDepth 100000 in
theorem c_X12_court {l : Launch} {D : va_G} {cA : Nat → ClassId} {sk : (Nat → Nat) × (Nat → Nat)} {ad : Nat → Nat} {A : Nat → Prop} {V : Vk} {k0 : Nat} {a1 : Int32} {a2 : Int32} {a3 : Int32} {g g0 : Hq} {r0 : Int32} (hr : r_X12_court V k0 a1 a2 a3 g = some (r0, g0)) : Met l yX12_court (wM yX12_court cX12_court 4 (some .int)) { frames := 2, cells := 0, slots := 0, locals := 42 } (Pre D cA sk ad (V, g) A [.ref (ad k0), .int a1, .int a2, .int a3]) (QI D cA ad A r0 (V, g0)) 0 0 A := by
  refine Met.ofW (cc := cX12_court) (maxL := 4) (ret := (some .int)) (by decide) rfl ?_
  intro p e s m args below meth c s₁ B hml hv
  obtain ⟨rfl, fx, w0⟩ := hv
  have hts := atoms_spec (ws := wM yX12_court cX12_court 4 (some .int)) B.pre
  have cx : CallFix p m c cX12_court 4 s ([.ref (ad k0), .int a1, .int a2, .int a3] : List Value).toArray gw_tbl RX12 := ⟨B.exec, B.bytes, hml, findClass_of_methodNamed B.named, fun w hw => hts w (List.mem_cons_of_mem _ hw)⟩
  have hlocks := B.notSynchronized
  have hret := B.returns
  have hR : 2 ≤ (headSpec (wM yX12_court cX12_court 4 (some .int)) { frames := 2, cells := 0, slots := 0, locals := 42 }).room.frames ∧ 42 ≤ (headSpec (wM yX12_court cX12_court 4 (some .int)) { frames := 2, cells := 0, slots := 0, locals := 42 }).room.locals := ⟨Nat.le_refl _, Nat.le_refl _⟩
  have dy : Dy D cA ad (V, g) A s.heap s.heap [] := ⟨w0, va_S.rf⟩
  have hl := lv_entry [.ref (ad k0), .int a1, .int a2, .int a3] (n := 4) (Nat.le_of_ble_eq_true rfl)
  rw [lg_entry_eq]
  generalize (lg_sl [.ref (ad k0), .int a1, .int a2, .int a3] ++ List.replicate (4 - (lg_sl [.ref (ad k0), .int a1, .int a2, .int a3]).length) Slot.unset).toArray = ls at hl ⊢
  have hl : lv_has ls 4 [(0, .ref (ad k0)), (1, .int a1), (2, .int a2), (3, .int a3)] := hl
  have dy0 : ∃ H0, H0 = s.heap ∧ Dy D cA ad (V, g) A s.heap H0 [] := ⟨_, rfl, dy⟩
  obtain ⟨z, ez⟩ : ∃ z, z = (r0, g0) := ⟨_, rfl⟩
  rw [← ez] at hr
  have hq0 : ∀ (rb : Int32) (gb : Hq), z = (rb, gb) → rb = r0 ∧ gb = g0 := fun rb gb eb => by rw [ez] at eb; exact ⟨(congrArg Prod.fst eb).symm, (congrArg Prod.snd eb).symm⟩
  clear ez w0 dy0
  unfold r_X12_court at hr
  obtain ⟨H, hH⟩ : ∃ H, H = s.heap := ⟨_, rfl⟩
  obtain ⟨locs, hlo⟩ : ∃ q : List Loc, q = [] := ⟨_, rfl⟩
  have dy : Dy D cA ad (V, g) A s.heap H locs := by rw [hH, hlo]; exact dy
  suffices K : W p l e (headSpec (wM yX12_court cX12_court 4 (some .int)) { frames := 2, cells := 0, slots := 0, locals := 42 }).room s m ([.ref (ad k0), .int a1, .int a2, .int a3] : List Value).toArray below meth c H locs 0 0 (MQ below (QI D cA ad A r0 (V, g0)) ([.ref (ad k0), .int a1, .int a2, .int a3] : List Value).toArray s 0 0 A) (F0 m 0 ls []) by rw [hH, hlo] at K; exact K
  clear hH hlo
  refine lv_iload_n cx.1 cx.2.1 dX12_court_0 rfl (lv_at hl 1 rfl) ?_
  obtain ⟨x2, g1, hc3, hr⟩ := of_bnd2 hr
  refine r_i dy (k_S (As := [.int a1]) cx fx dy (c_X12_isCourt hc3) mv_X12_isCourt rfl rfl ⟨Nat.le_trans (by decide) hR.1, Nat.le_trans (by decide) hR.2⟩ tb_1167 rfl hl.1 rfl (Nat.le_of_ble_eq_true rfl) ⟨Nat.zero_le _, Nat.zero_le _⟩ dX12_court_1) (fun H locs dy => ?_)
  rcases of_brn hr with ⟨hc, hr⟩ | ⟨hc, hr⟩
  · refine lv_if_eq (tgt := 25) cx.1 cx.2.1 dX12_court_4 (by decide) (fun _ => ?_) (fun hn => absurd hc hn)
    refine lv_bipush (v := (-2)) cx.1 cx.2.1 dX12_court_25 (by decide) ?_
    obtain ⟨e0, e1⟩ := hq0 _ _ (Option.some.inj hr).symm
    exact h_iret cx dy hlocks hret rfl e0 (by rw [e1]) dX12_court_27
  · refine lv_if_eq (tgt := 25) cx.1 cx.2.1 dX12_court_4 (by decide) (fun hn => absurd hn hc) (fun _ => ?_)
    refine lv_iload_n cx.1 cx.2.1 dX12_court_7 rfl (lv_at hl 2 rfl) ?_
    obtain ⟨x5, g4, hc6, hr⟩ := of_bnd2 hr
    refine r_i dy (k_S (As := [.int a2]) cx fx dy (c_X12_isWard hc6) mv_X12_isWard rfl rfl ⟨Nat.le_trans (by decide) hR.1, Nat.le_trans (by decide) hR.2⟩ tb_1173 rfl hl.1 rfl (Nat.le_of_ble_eq_true rfl) ⟨Nat.zero_le _, Nat.zero_le _⟩ dX12_court_8) (fun H locs dy => ?_)
    rcases of_brn hr with ⟨hc, hr⟩ | ⟨hc, hr⟩
    · refine lv_if_eq (tgt := 25) cx.1 cx.2.1 dX12_court_11 (by decide) (fun _ => ?_) (fun hn => absurd hc hn)
      refine lv_bipush (v := (-2)) cx.1 cx.2.1 dX12_court_25 (by decide) ?_
      obtain ⟨e0, e1⟩ := hq0 _ _ (Option.some.inj hr).symm
      exact h_iret cx dy hlocks hret rfl e0 (by rw [e1]) dX12_court_27
    · refine lv_if_eq (tgt := 25) cx.1 cx.2.1 dX12_court_11 (by decide) (fun hn => absurd hn hc) (fun _ => ?_)
      refine lv_iload_n cx.1 cx.2.1 dX12_court_14 rfl (lv_at hl 3 rfl) ?_
      refine lv_iconst (v := 1) cx.1 cx.2.1 dX12_court_15 (by decide) ?_
      refine lv_sipush (v := 999) cx.1 cx.2.1 dX12_court_16 (by decide) ?_
      obtain ⟨x8, g7, hc9, hr⟩ := of_bnd2 hr
      refine r_i dy (k_S (As := [.int a3, .int (1 : Int32), .int (999 : Int32)]) cx fx dy (c_X12_in hc9) mv_X12_in rfl rfl ⟨Nat.le_trans (by decide) hR.1, Nat.le_trans (by decide) hR.2⟩ tb_1170 rfl hl.1 rfl (Nat.le_of_ble_eq_true rfl) ⟨Nat.zero_le _, Nat.zero_le _⟩ dX12_court_19) (fun H locs dy => ?_)
      rcases of_brn hr with ⟨hc, hr⟩ | ⟨hc, hr⟩
      · refine lv_if_ne (tgt := 28) cx.1 cx.2.1 dX12_court_22 (by decide) (fun hn => absurd hc hn) (fun _ => ?_)
        refine lv_bipush (v := (-2)) cx.1 cx.2.1 dX12_court_25 (by decide) ?_
        obtain ⟨e0, e1⟩ := hq0 _ _ (Option.some.inj hr).symm
        exact h_iret cx dy hlocks hret rfl e0 (by rw [e1]) dX12_court_27
      · refine lv_if_ne (tgt := 28) cx.1 cx.2.1 dX12_court_22 (by decide) (fun _ => ?_) (fun hn => absurd hn hc)
        refine lv_aload_n cx.1 cx.2.1 dX12_court_28 rfl (lv_at hl 0 rfl) ?_
        obtain ⟨hv10, hr⟩ := of_grd hr
        obtain ⟨k11, hf12, hr⟩ := of_bnd hr
        refine h_getR cx fx dy fd_12_10 hv10 tb_996 hf12 dX12_court_29 ?_
        refine lv_iload_n cx.1 cx.2.1 dX12_court_32 rfl (lv_at hl 1 rfl) ?_
        refine lv_iload_n cx.1 cx.2.1 dX12_court_33 rfl (lv_at hl 2 rfl) ?_
        obtain ⟨ha13, hr⟩ := of_grd hr
        obtain ⟨g14, eg14, hr⟩ := of_nm hr
        refine h_iast cx fx dy ha13 dX12_court_34 (fun H locs dy => ?_)
        replace dy : Dy D cA ad (V, g14) A s.heap H locs := by rw [eg14]; exact dy
        refine lv_aload_n cx.1 cx.2.1 dX12_court_35 rfl (lv_at hl 0 rfl) ?_
        obtain ⟨k15, hf16, hr⟩ := of_bnd hr
        refine h_getR cx fx dy fd_12_11 hv10 tb_997 hf16 dX12_court_36 ?_
        refine lv_iload_n cx.1 cx.2.1 dX12_court_39 rfl (lv_at hl 1 rfl) ?_
        refine lv_iload_n cx.1 cx.2.1 dX12_court_40 rfl (lv_at hl 3 rfl) ?_
        obtain ⟨ha17, hr⟩ := of_grd hr
        obtain ⟨g18, eg18, hr⟩ := of_nm hr
        refine h_iast cx fx dy ha17 dX12_court_41 (fun H locs dy => ?_)
        replace dy : Dy D cA ad (V, g18) A s.heap H locs := by rw [eg18]; exact dy
        refine lv_iconst (v := 1) cx.1 cx.2.1 dX12_court_42 (by decide) ?_
        obtain ⟨e0, e1⟩ := hq0 _ _ (Option.some.inj hr).symm
        exact h_iret cx dy hlocks hret rfl e0 (by rw [e1]) dX12_court_43
noncomputable def r_X12_makeFar_71' (V : Vk) (k12 : Nat) (x13 : Int32) (x14 : Int32) (x15 : Int32) (g16 : Hq) : Option ((Nat × Int32 × Int32 × Int32 × Hq) ⊕ ((Nat × Int32 × Int32 × Hq) ⊕ ((Nat × Int32 × Hq) ⊕ (Unit × Hq)))) :=
  brn ((12 : Int32) ≤ x15) (nm (x14 + (1 : Int32)) fun x17 => some (.inr (.inl (k12, x13, x17, g16)))) (grd (V k12 = some (12, 0)) <| Option.bind (g16.2.2 k12 13) fun k19 => grd (okV V k19 0 (((12 : Int32) * x14) + x13)) <| Option.bind (g16.2.2 k12 13) fun k22 => grd (okV V k22 0 (((12 : Int32) * x13) + x15)) <| nm ((g16.1 k19 (((12 : Int32) * x14) + x13).toNatClampNeg) + (g16.1 k22 (((12 : Int32) * x13) + x15).toNatClampNeg)) fun x25 => Option.bind (g16.2.2 k12 13) fun k26 => grd (okV V k26 0 (((12 : Int32) * x14) + x15)) <| brn ((g16.1 k26 (((12 : Int32) * x14) + x15).toNatClampNeg) ≤ x25) (nm (x15 + (1 : Int32)) fun x29 => some (.inl (k12, x13, x14, x29, g16))) (Option.bind (g16.2.2 k12 13) fun k30 => grd (okV V k30 0 (((12 : Int32) * x14) + x15)) <| nm (sI g16 k30 (((12 : Int32) * x14) + x15).toNatClampNeg x25) fun g33 => nm (x15 + (1 : Int32)) fun x34 => some (.inl (k12, x13, x14, x34, g33))))
noncomputable def r_X12_makeFar_71 (V : Vk) (st : (Nat × Int32 × Int32 × Int32 × Hq)) : Option ((Nat × Int32 × Int32 × Int32 × Hq) ⊕ ((Nat × Int32 × Int32 × Hq) ⊕ ((Nat × Int32 × Hq) ⊕ (Unit × Hq)))) := r_X12_makeFar_71' V st.1 st.2.1 st.2.2.1 st.2.2.2.1 st.2.2.2.2
set_option maxHeartbeats 4000000 in
set_option maxRecDepth 100000 in
theorem w_X12_makeFar_71 {p : Program} {l : Launch} {e : Env} {R : Room} {s : State} {m : MethodId} {args : Array Value} {below : List Frame} {meth : Method} {c : Code} {D : va_G} {cA : Nat → ClassId} {sk : (Nat → Nat) × (Nat → Nat)} {ad : Nat → Nat} {A : Nat → Prop} {V : Vk} (cx : CallFix p m c cX12_makeFar 5 s args gw_tbl RX12) (fx : Fx D cA sk A s) (hlocks : meth.locks = false) (hret : meth.sig.returnType = none) (hR : 0 ≤ R.frames ∧ 0 ≤ R.locals) (g0 : Hq) (y : ((Nat × Int32 × Int32 × Hq) ⊕ ((Nat × Int32 × Hq) ⊕ (Unit × Hq)))) (hk0 : ∀ (b0 : Nat) (b1 : Int32) (b2 : Int32) (gb : Hq), y = (.inl (b0, b1, b2, gb)) → ∀ (H : Heap) (locs : List Loc) (ls : Array Slot), Dy D cA ad (V, gb) A s.heap H locs → lv_has ls 5 [(0, .ref (ad b0)), (1, .int b1), (2, .int b2)] → W p l e R s m args below meth c H locs 0 0 (MQ below (QV D cA ad A (V, g0)) args s 0 0 A) (F0 m 63 ls [])) (hk1 : ∀ (b0 : Nat) (b1 : Int32) (gb : Hq), y = (.inr (.inl (b0, b1, gb))) → ∀ (H : Heap) (locs : List Loc) (ls : Array Slot), Dy D cA ad (V, gb) A s.heap H locs → lv_has ls 5 [(0, .ref (ad b0)), (1, .int b1)] → W p l e R s m args below meth c H locs 0 0 (MQ below (QV D cA ad A (V, g0)) args s 0 0 A) (F0 m 55 ls [])) (hq : ∀ (rb : Unit) (gb : Hq), y = (.inr (.inr (rb, gb))) → gb = g0) : ∀ (n : Nat) (k12 : Nat) (x13 : Int32) (x14 : Int32) (x15 : Int32) (g16 : Hq), itr (r_X12_makeFar_71 V) n (k12, x13, x14, x15, g16) = some y → ∀ (H : Heap) (locs : List Loc) (ls : Array Slot), Dy D cA ad (V, g16) A s.heap H locs → lv_has ls 5 [(0, .ref (ad k12)), (1, .int x13), (2, .int x14), (3, .int x15)] → W p l e R s m args below meth c H locs 0 0 (MQ below (QV D cA ad A (V, g0)) args s 0 0 A) (F0 m 71 ls []) := by
  intro n
  induction n with
  | zero => intro k12 x13 x14 x15 g16 hr; cases hr
  | succ n ih =>
    intro k12 x13 x14 x15 g16 hr H locs ls dy hl
    obtain ⟨z, hz, hn1, hn2⟩ := itr_succ hr
    clear hr
    have hr : r_X12_makeFar_71' V k12 x13 x14 x15 g16 = some z := hz
    clear hz
    unfold r_X12_makeFar_71' at hr
    have hh0 : ∀ (b0 : Nat) (b1 : Int32) (b2 : Int32) (b3 : Int32) (gb : Hq), z = .inl (b0, b1, b2, b3, gb) → ∀ (H : Heap) (locs : List Loc) (ls : Array Slot), Dy D cA ad (V, gb) A s.heap H locs → lv_has ls 5 [(0, .ref (ad b0)), (1, .int b1), (2, .int b2), (3, .int b3)] → W p l e R s m args below meth c H locs 0 0 (MQ below (QV D cA ad A (V, g0)) args s 0 0 A) (F0 m 71 ls []) := fun b0 b1 b2 b3 gb eb => ih b0 b1 b2 b3 gb (hn1 _ eb)
    have hh1 : ∀ (b0 : Nat) (b1 : Int32) (b2 : Int32) (gb : Hq), z = (.inr (.inl (b0, b1, b2, gb))) → ∀ (H : Heap) (locs : List Loc) (ls : Array Slot), Dy D cA ad (V, gb) A s.heap H locs → lv_has ls 5 [(0, .ref (ad b0)), (1, .int b1), (2, .int b2)] → W p l e R s m args below meth c H locs 0 0 (MQ below (QV D cA ad A (V, g0)) args s 0 0 A) (F0 m 63 ls []) := fun b0 b1 b2 gb eb => hk0 b0 b1 b2 gb (hn2 _ eb).symm
    have hh2 : ∀ (b0 : Nat) (b1 : Int32) (gb : Hq), z = (.inr (.inr (.inl (b0, b1, gb)))) → ∀ (H : Heap) (locs : List Loc) (ls : Array Slot), Dy D cA ad (V, gb) A s.heap H locs → lv_has ls 5 [(0, .ref (ad b0)), (1, .int b1)] → W p l e R s m args below meth c H locs 0 0 (MQ below (QV D cA ad A (V, g0)) args s 0 0 A) (F0 m 55 ls []) := fun b0 b1 gb eb => hk1 b0 b1 gb (hn2 _ eb).symm
    have hq0 : ∀ (rb : Unit) (gb : Hq), z = (.inr (.inr (.inr (rb, gb)))) → gb = g0 := fun rb gb eb => hq rb gb (hn2 _ eb).symm
    refine lv_iload_n cx.1 cx.2.1 dX12_makeFar_71 rfl (lv_at hl 3 rfl) ?_
    refine lv_bipush (v := 12) cx.1 cx.2.1 dX12_makeFar_72 (by decide) ?_
    rcases of_brn hr with ⟨hc, hr⟩ | ⟨hc, hr⟩
    · refine lv_icmp_ge (tgt := 137) cx.1 cx.2.1 dX12_makeFar_74 (by decide) (fun _ => ?_) (fun hn => absurd hc hn)
      obtain ⟨x17, ex17, hr⟩ := of_nm hr
      refine lv_iinc (v := x17) (lv' := [(2, .int x17), (0, .ref (ad k12)), (1, .int x13), (3, .int x15)]) cx.1 cx.2.1 dX12_makeFar_137 hl (k := 2) rfl (by rw [ex17]; rfl) (by decide) rfl (fun ls hl => ?_)
      refine lv_goto (tgt := 63) cx.1 cx.2.1 dX12_makeFar_140 (by decide) ?_
      exact hh1 k12 x13 x17 g16 (Option.some.inj hr).symm H locs ls dy (lv_sub hl [1, 2, 0] rfl)
    · refine lv_icmp_ge (tgt := 137) cx.1 cx.2.1 dX12_makeFar_74 (by decide) (fun hn => absurd hn hc) (fun _ => ?_)
      refine lv_aload_n cx.1 cx.2.1 dX12_makeFar_77 rfl (lv_at hl 0 rfl) ?_
      obtain ⟨hv18, hr⟩ := of_grd hr
      obtain ⟨k19, hf20, hr⟩ := of_bnd hr
      refine h_getR cx fx dy fd_12_13 hv18 tb_999 hf20 dX12_makeFar_78 ?_
      refine lv_bipush (v := 12) cx.1 cx.2.1 dX12_makeFar_81 (by decide) ?_
      refine lv_iload_n cx.1 cx.2.1 dX12_makeFar_83 rfl (lv_at hl 2 rfl) ?_
      refine lv_imul cx.1 cx.2.1 dX12_makeFar_84 ?_
      refine lv_iload_n cx.1 cx.2.1 dX12_makeFar_85 rfl (lv_at hl 1 rfl) ?_
      refine lv_iadd cx.1 cx.2.1 dX12_makeFar_86 ?_
      obtain ⟨ha21, hr⟩ := of_grd hr
      refine h_iald cx fx dy ha21 dX12_makeFar_87 ?_
      refine lv_aload_n cx.1 cx.2.1 dX12_makeFar_88 rfl (lv_at hl 0 rfl) ?_
      obtain ⟨k22, hf23, hr⟩ := of_bnd hr
      refine h_getR cx fx dy fd_12_13 hv18 tb_999 hf23 dX12_makeFar_89 ?_
      refine lv_bipush (v := 12) cx.1 cx.2.1 dX12_makeFar_92 (by decide) ?_
      refine lv_iload_n cx.1 cx.2.1 dX12_makeFar_94 rfl (lv_at hl 1 rfl) ?_
      refine lv_imul cx.1 cx.2.1 dX12_makeFar_95 ?_
      refine lv_iload_n cx.1 cx.2.1 dX12_makeFar_96 rfl (lv_at hl 3 rfl) ?_
      refine lv_iadd cx.1 cx.2.1 dX12_makeFar_97 ?_
      obtain ⟨ha24, hr⟩ := of_grd hr
      refine h_iald cx fx dy ha24 dX12_makeFar_98 ?_
      refine lv_iadd cx.1 cx.2.1 dX12_makeFar_99 ?_
      obtain ⟨x25, ex25, hr⟩ := of_nm hr
      refine lv_nmi ex25 ?_
      refine lv_istore (lv' := [(4, .int x25), (0, .ref (ad k12)), (1, .int x13), (2, .int x14), (3, .int x15)]) cx.1 cx.2.1 dX12_makeFar_100 hl (by decide) rfl (fun ls hl => ?_)
      refine lv_iload cx.1 cx.2.1 dX12_makeFar_102 (lv_at hl 0 rfl) ?_
      refine lv_aload_n cx.1 cx.2.1 dX12_makeFar_104 rfl (lv_at hl 1 rfl) ?_
      obtain ⟨k26, hf27, hr⟩ := of_bnd hr
      refine h_getR cx fx dy fd_12_13 hv18 tb_999 hf27 dX12_makeFar_105 ?_
      refine lv_bipush (v := 12) cx.1 cx.2.1 dX12_makeFar_108 (by decide) ?_
      refine lv_iload_n cx.1 cx.2.1 dX12_makeFar_110 rfl (lv_at hl 3 rfl) ?_
      refine lv_imul cx.1 cx.2.1 dX12_makeFar_111 ?_
      refine lv_iload_n cx.1 cx.2.1 dX12_makeFar_112 rfl (lv_at hl 4 rfl) ?_
      refine lv_iadd cx.1 cx.2.1 dX12_makeFar_113 ?_
      obtain ⟨ha28, hr⟩ := of_grd hr
      refine h_iald cx fx dy ha28 dX12_makeFar_114 ?_
      rcases of_brn hr with ⟨hc, hr⟩ | ⟨hc, hr⟩
      · refine lv_icmp_ge (tgt := 131) cx.1 cx.2.1 dX12_makeFar_115 (by decide) (fun _ => ?_) (fun hn => absurd hc hn)
        obtain ⟨x29, ex29, hr⟩ := of_nm hr
        refine lv_iinc (v := x29) (lv' := [(3, .int x29), (4, .int x25), (0, .ref (ad k12)), (1, .int x13), (2, .int x14)]) cx.1 cx.2.1 dX12_makeFar_131 hl (k := 4) rfl (by rw [ex29]; rfl) (by decide) rfl (fun ls hl => ?_)
        refine lv_goto (tgt := 71) cx.1 cx.2.1 dX12_makeFar_134 (by decide) ?_
        exact hh0 k12 x13 x14 x29 g16 (Option.some.inj hr).symm H locs ls dy (lv_sub hl [2, 3, 4, 0] rfl)
      · refine lv_icmp_ge (tgt := 131) cx.1 cx.2.1 dX12_makeFar_115 (by decide) (fun hn => absurd hn hc) (fun _ => ?_)
        refine lv_aload_n cx.1 cx.2.1 dX12_makeFar_118 rfl (lv_at hl 1 rfl) ?_
        obtain ⟨k30, hf31, hr⟩ := of_bnd hr
        refine h_getR cx fx dy fd_12_13 hv18 tb_999 hf31 dX12_makeFar_119 ?_
        refine lv_bipush (v := 12) cx.1 cx.2.1 dX12_makeFar_122 (by decide) ?_
        refine lv_iload_n cx.1 cx.2.1 dX12_makeFar_124 rfl (lv_at hl 3 rfl) ?_
        refine lv_imul cx.1 cx.2.1 dX12_makeFar_125 ?_
        refine lv_iload_n cx.1 cx.2.1 dX12_makeFar_126 rfl (lv_at hl 4 rfl) ?_
        refine lv_iadd cx.1 cx.2.1 dX12_makeFar_127 ?_
        refine lv_iload cx.1 cx.2.1 dX12_makeFar_128 (lv_at hl 0 rfl) ?_
        obtain ⟨ha32, hr⟩ := of_grd hr
        obtain ⟨g33, eg33, hr⟩ := of_nm hr
        refine h_iast cx fx dy ha32 dX12_makeFar_130 (fun H locs dy => ?_)
        replace dy : Dy D cA ad (V, g33) A s.heap H locs := by rw [eg33]; exact dy
        obtain ⟨x34, ex34, hr⟩ := of_nm hr
        refine lv_iinc (v := x34) (lv' := [(3, .int x34), (4, .int x25), (0, .ref (ad k12)), (1, .int x13), (2, .int x14)]) cx.1 cx.2.1 dX12_makeFar_131 hl (k := 4) rfl (by rw [ex34]; rfl) (by decide) rfl (fun ls hl => ?_)
        refine lv_goto (tgt := 71) cx.1 cx.2.1 dX12_makeFar_134 (by decide) ?_
        exact hh0 k12 x13 x14 x34 g33 (Option.some.inj hr).symm H locs ls dy (lv_sub hl [2, 3, 4, 0] rfl)
noncomputable def r_X12_makeFar_63' (V : Vk) (k7 : Nat) (x8 : Int32) (x9 : Int32) (g10 : Hq) : Option ((Nat × Int32 × Int32 × Hq) ⊕ ((Nat × Int32 × Hq) ⊕ (Unit × Hq))) :=
  brn ((12 : Int32) ≤ x9) (nm (x8 + (1 : Int32)) fun x11 => some (.inr (.inl (k7, x11, g10)))) ((lop (r_X12_makeFar_71 V) (k7, x8, x9, (0 : Int32), g10)))
noncomputable def r_X12_makeFar_63 (V : Vk) (st : (Nat × Int32 × Int32 × Hq)) : Option ((Nat × Int32 × Int32 × Hq) ⊕ ((Nat × Int32 × Hq) ⊕ (Unit × Hq))) := r_X12_makeFar_63' V st.1 st.2.1 st.2.2.1 st.2.2.2
set_option maxHeartbeats 4000000 in
set_option maxRecDepth 100000 in
theorem w_X12_makeFar_63 {p : Program} {l : Launch} {e : Env} {R : Room} {s : State} {m : MethodId} {args : Array Value} {below : List Frame} {meth : Method} {c : Code} {D : va_G} {cA : Nat → ClassId} {sk : (Nat → Nat) × (Nat → Nat)} {ad : Nat → Nat} {A : Nat → Prop} {V : Vk} (cx : CallFix p m c cX12_makeFar 5 s args gw_tbl RX12) (fx : Fx D cA sk A s) (hlocks : meth.locks = false) (hret : meth.sig.returnType = none) (hR : 0 ≤ R.frames ∧ 0 ≤ R.locals) (g0 : Hq) (y : ((Nat × Int32 × Hq) ⊕ (Unit × Hq))) (hk0 : ∀ (b0 : Nat) (b1 : Int32) (gb : Hq), y = (.inl (b0, b1, gb)) → ∀ (H : Heap) (locs : List Loc) (ls : Array Slot), Dy D cA ad (V, gb) A s.heap H locs → lv_has ls 5 [(0, .ref (ad b0)), (1, .int b1)] → W p l e R s m args below meth c H locs 0 0 (MQ below (QV D cA ad A (V, g0)) args s 0 0 A) (F0 m 55 ls [])) (hq : ∀ (rb : Unit) (gb : Hq), y = (.inr (rb, gb)) → gb = g0) : ∀ (n : Nat) (k7 : Nat) (x8 : Int32) (x9 : Int32) (g10 : Hq), itr (r_X12_makeFar_63 V) n (k7, x8, x9, g10) = some y → ∀ (H : Heap) (locs : List Loc) (ls : Array Slot), Dy D cA ad (V, g10) A s.heap H locs → lv_has ls 5 [(0, .ref (ad k7)), (1, .int x8), (2, .int x9)] → W p l e R s m args below meth c H locs 0 0 (MQ below (QV D cA ad A (V, g0)) args s 0 0 A) (F0 m 63 ls []) := by
  intro n
  induction n with
  | zero => intro k7 x8 x9 g10 hr; cases hr
  | succ n ih =>
    intro k7 x8 x9 g10 hr H locs ls dy hl
    obtain ⟨z, hz, hn1, hn2⟩ := itr_succ hr
    clear hr
    have hr : r_X12_makeFar_63' V k7 x8 x9 g10 = some z := hz
    clear hz
    unfold r_X12_makeFar_63' at hr
    have hh0 : ∀ (b0 : Nat) (b1 : Int32) (b2 : Int32) (gb : Hq), z = .inl (b0, b1, b2, gb) → ∀ (H : Heap) (locs : List Loc) (ls : Array Slot), Dy D cA ad (V, gb) A s.heap H locs → lv_has ls 5 [(0, .ref (ad b0)), (1, .int b1), (2, .int b2)] → W p l e R s m args below meth c H locs 0 0 (MQ below (QV D cA ad A (V, g0)) args s 0 0 A) (F0 m 63 ls []) := fun b0 b1 b2 gb eb => ih b0 b1 b2 gb (hn1 _ eb)
    have hh1 : ∀ (b0 : Nat) (b1 : Int32) (gb : Hq), z = (.inr (.inl (b0, b1, gb))) → ∀ (H : Heap) (locs : List Loc) (ls : Array Slot), Dy D cA ad (V, gb) A s.heap H locs → lv_has ls 5 [(0, .ref (ad b0)), (1, .int b1)] → W p l e R s m args below meth c H locs 0 0 (MQ below (QV D cA ad A (V, g0)) args s 0 0 A) (F0 m 55 ls []) := fun b0 b1 gb eb => hk0 b0 b1 gb (hn2 _ eb).symm
    have hq0 : ∀ (rb : Unit) (gb : Hq), z = (.inr (.inr (rb, gb))) → gb = g0 := fun rb gb eb => hq rb gb (hn2 _ eb).symm
    refine lv_iload_n cx.1 cx.2.1 dX12_makeFar_63 rfl (lv_at hl 2 rfl) ?_
    refine lv_bipush (v := 12) cx.1 cx.2.1 dX12_makeFar_64 (by decide) ?_
    rcases of_brn hr with ⟨hc, hr⟩ | ⟨hc, hr⟩
    · refine lv_icmp_ge (tgt := 143) cx.1 cx.2.1 dX12_makeFar_66 (by decide) (fun _ => ?_) (fun hn => absurd hc hn)
      obtain ⟨x11, ex11, hr⟩ := of_nm hr
      refine lv_iinc (v := x11) (lv' := [(1, .int x11), (0, .ref (ad k7)), (2, .int x9)]) cx.1 cx.2.1 dX12_makeFar_143 hl (k := 1) rfl (by rw [ex11]; rfl) (by decide) rfl (fun ls hl => ?_)
      refine lv_goto (tgt := 55) cx.1 cx.2.1 dX12_makeFar_146 (by decide) ?_
      exact hh1 k7 x11 g10 (Option.some.inj hr).symm H locs ls dy (lv_sub hl [1, 0] rfl)
    · refine lv_icmp_ge (tgt := 143) cx.1 cx.2.1 dX12_makeFar_66 (by decide) (fun hn => absurd hn hc) (fun _ => ?_)
      refine lv_iconst (v := 0) cx.1 cx.2.1 dX12_makeFar_69 (by decide) ?_
      refine lv_istore_n (lv' := [(3, .int (0 : Int32)), (0, .ref (ad k7)), (1, .int x8), (2, .int x9)]) cx.1 cx.2.1 dX12_makeFar_70 rfl hl (by decide) rfl (fun ls hl => ?_)
      obtain ⟨n, hr⟩ := lop_some hr
      exact w_X12_makeFar_71 cx fx hlocks hret hR g0 z hh0 hh1 hq0 n k7 x8 x9 (0 : Int32) g10 hr H locs ls dy (lv_sub hl [1, 2, 3, 0] rfl)
noncomputable def r_X12_makeFar_55' (V : Vk) (k4 : Nat) (x5 : Int32) (g6 : Hq) : Option ((Nat × Int32 × Hq) ⊕ (Unit × Hq)) :=
  brn ((12 : Int32) ≤ x5) (some (.inr ((), g6))) ((lop (r_X12_makeFar_63 V) (k4, x5, (0 : Int32), g6)))
noncomputable def r_X12_makeFar_55 (V : Vk) (st : (Nat × Int32 × Hq)) : Option ((Nat × Int32 × Hq) ⊕ (Unit × Hq)) := r_X12_makeFar_55' V st.1 st.2.1 st.2.2
set_option maxHeartbeats 4000000 in
set_option maxRecDepth 100000 in
theorem w_X12_makeFar_55 {p : Program} {l : Launch} {e : Env} {R : Room} {s : State} {m : MethodId} {args : Array Value} {below : List Frame} {meth : Method} {c : Code} {D : va_G} {cA : Nat → ClassId} {sk : (Nat → Nat) × (Nat → Nat)} {ad : Nat → Nat} {A : Nat → Prop} {V : Vk} (cx : CallFix p m c cX12_makeFar 5 s args gw_tbl RX12) (fx : Fx D cA sk A s) (hlocks : meth.locks = false) (hret : meth.sig.returnType = none) (hR : 0 ≤ R.frames ∧ 0 ≤ R.locals) (g0 : Hq) (y : (Unit × Hq)) (hq : ∀ (rb : Unit) (gb : Hq), y = (rb, gb) → gb = g0) : ∀ (n : Nat) (k4 : Nat) (x5 : Int32) (g6 : Hq), itr (r_X12_makeFar_55 V) n (k4, x5, g6) = some y → ∀ (H : Heap) (locs : List Loc) (ls : Array Slot), Dy D cA ad (V, g6) A s.heap H locs → lv_has ls 5 [(0, .ref (ad k4)), (1, .int x5)] → W p l e R s m args below meth c H locs 0 0 (MQ below (QV D cA ad A (V, g0)) args s 0 0 A) (F0 m 55 ls []) := by
  intro n
  induction n with
  | zero => intro k4 x5 g6 hr; cases hr
  | succ n ih =>
    intro k4 x5 g6 hr H locs ls dy hl
    obtain ⟨z, hz, hn1, hn2⟩ := itr_succ hr
    clear hr
    have hr : r_X12_makeFar_55' V k4 x5 g6 = some z := hz
    clear hz
    unfold r_X12_makeFar_55' at hr
    have hh0 : ∀ (b0 : Nat) (b1 : Int32) (gb : Hq), z = .inl (b0, b1, gb) → ∀ (H : Heap) (locs : List Loc) (ls : Array Slot), Dy D cA ad (V, gb) A s.heap H locs → lv_has ls 5 [(0, .ref (ad b0)), (1, .int b1)] → W p l e R s m args below meth c H locs 0 0 (MQ below (QV D cA ad A (V, g0)) args s 0 0 A) (F0 m 55 ls []) := fun b0 b1 gb eb => ih b0 b1 gb (hn1 _ eb)
    have hq0 : ∀ (rb : Unit) (gb : Hq), z = (.inr (rb, gb)) → gb = g0 := fun rb gb eb => hq rb gb (hn2 _ eb).symm
    refine lv_iload_n cx.1 cx.2.1 dX12_makeFar_55 rfl (lv_at hl 1 rfl) ?_
    refine lv_bipush (v := 12) cx.1 cx.2.1 dX12_makeFar_56 (by decide) ?_
    rcases of_brn hr with ⟨hc, hr⟩ | ⟨hc, hr⟩
    · refine lv_icmp_ge (tgt := 149) cx.1 cx.2.1 dX12_makeFar_58 (by decide) (fun _ => ?_) (fun hn => absurd hc hn)
      have e1 := hq0 _ _ (Option.some.inj hr).symm
      exact h_vret cx dy hlocks hret (by rw [e1]) dX12_makeFar_149
    · refine lv_icmp_ge (tgt := 149) cx.1 cx.2.1 dX12_makeFar_58 (by decide) (fun hn => absurd hn hc) (fun _ => ?_)
      refine lv_iconst (v := 0) cx.1 cx.2.1 dX12_makeFar_61 (by decide) ?_
      refine lv_istore_n (lv' := [(2, .int (0 : Int32)), (0, .ref (ad k4)), (1, .int x5)]) cx.1 cx.2.1 dX12_makeFar_62 rfl hl (by decide) rfl (fun ls hl => ?_)
      obtain ⟨n, hr⟩ := lop_some hr
      exact w_X12_makeFar_63 cx fx hlocks hret hR g0 z hh0 hq0 n k4 x5 (0 : Int32) g6 hr H locs ls dy (lv_sub hl [1, 2, 0] rfl)
noncomputable def r_X12_makeFar_2' (V : Vk) (k1 : Nat) (x2 : Int32) (g3 : Hq) : Option ((Nat × Int32 × Hq) ⊕ (Unit × Hq)) :=
  brn ((144 : Int32) ≤ x2) ((Option.map Sum.inr (lop (r_X12_makeFar_55 V) (k1, (0 : Int32), g3)))) (grd (V k1 = some (12, 0)) <| Option.bind (g3.2.2 k1 13) fun k36 => brn ((x2 - x2 / (13 : Int32) * (13 : Int32)) = 0) (grd (okV V k36 0 x2) <| nm (sI g3 k36 x2.toNatClampNeg (0 : Int32)) fun g39 => nm (x2 + (1 : Int32)) fun x40 => some (.inl (k1, x40, g39))) (Option.bind (g3.2.2 k1 12) fun k41 => grd (okV V k41 0 x2) <| brn ((g3.1 k41 x2.toNatClampNeg) = (-1 : Int32)) (grd (okV V k36 0 x2) <| nm (sI g3 k36 x2.toNatClampNeg (1000000 : Int32)) fun g45 => nm (x2 + (1 : Int32)) fun x46 => some (.inl (k1, x46, g45))) (Option.bind (g3.2.2 k1 12) fun k47 => grd (okV V k47 0 x2) <| grd (okV V k36 0 x2) <| nm (sI g3 k36 x2.toNatClampNeg (g3.1 k47 x2.toNatClampNeg)) fun g51 => nm (x2 + (1 : Int32)) fun x52 => some (.inl (k1, x52, g51)))))
noncomputable def r_X12_makeFar_2 (V : Vk) (st : (Nat × Int32 × Hq)) : Option ((Nat × Int32 × Hq) ⊕ (Unit × Hq)) := r_X12_makeFar_2' V st.1 st.2.1 st.2.2
set_option maxHeartbeats 4000000 in
set_option maxRecDepth 100000 in
theorem w_X12_makeFar_2 {p : Program} {l : Launch} {e : Env} {R : Room} {s : State} {m : MethodId} {args : Array Value} {below : List Frame} {meth : Method} {c : Code} {D : va_G} {cA : Nat → ClassId} {sk : (Nat → Nat) × (Nat → Nat)} {ad : Nat → Nat} {A : Nat → Prop} {V : Vk} (cx : CallFix p m c cX12_makeFar 5 s args gw_tbl RX12) (fx : Fx D cA sk A s) (hlocks : meth.locks = false) (hret : meth.sig.returnType = none) (hR : 0 ≤ R.frames ∧ 0 ≤ R.locals) (g0 : Hq) (y : (Unit × Hq)) (hq : ∀ (rb : Unit) (gb : Hq), y = (rb, gb) → gb = g0) : ∀ (n : Nat) (k1 : Nat) (x2 : Int32) (g3 : Hq), itr (r_X12_makeFar_2 V) n (k1, x2, g3) = some y → ∀ (H : Heap) (locs : List Loc) (ls : Array Slot), Dy D cA ad (V, g3) A s.heap H locs → lv_has ls 5 [(0, .ref (ad k1)), (1, .int x2)] → W p l e R s m args below meth c H locs 0 0 (MQ below (QV D cA ad A (V, g0)) args s 0 0 A) (F0 m 2 ls []) := by
  intro n
  induction n with
  | zero => intro k1 x2 g3 hr; cases hr
  | succ n ih =>
    intro k1 x2 g3 hr H locs ls dy hl
    obtain ⟨z, hz, hn1, hn2⟩ := itr_succ hr
    clear hr
    have hr : r_X12_makeFar_2' V k1 x2 g3 = some z := hz
    clear hz
    unfold r_X12_makeFar_2' at hr
    have hh0 : ∀ (b0 : Nat) (b1 : Int32) (gb : Hq), z = .inl (b0, b1, gb) → ∀ (H : Heap) (locs : List Loc) (ls : Array Slot), Dy D cA ad (V, gb) A s.heap H locs → lv_has ls 5 [(0, .ref (ad b0)), (1, .int b1)] → W p l e R s m args below meth c H locs 0 0 (MQ below (QV D cA ad A (V, g0)) args s 0 0 A) (F0 m 2 ls []) := fun b0 b1 gb eb => ih b0 b1 gb (hn1 _ eb)
    have hq0 : ∀ (rb : Unit) (gb : Hq), z = (.inr (rb, gb)) → gb = g0 := fun rb gb eb => hq rb gb (hn2 _ eb).symm
    refine lv_iload_n cx.1 cx.2.1 dX12_makeFar_2 rfl (lv_at hl 1 rfl) ?_
    refine lv_sipush (v := 144) cx.1 cx.2.1 dX12_makeFar_3 (by decide) ?_
    rcases of_brn hr with ⟨hc, hr⟩ | ⟨hc, hr⟩
    · refine lv_icmp_ge (tgt := 53) cx.1 cx.2.1 dX12_makeFar_6 (by decide) (fun _ => ?_) (fun hn => absurd hc hn)
      refine lv_iconst (v := 0) cx.1 cx.2.1 dX12_makeFar_53 (by decide) ?_
      refine lv_istore_n (lv' := [(1, .int (0 : Int32)), (0, .ref (ad k1))]) cx.1 cx.2.1 dX12_makeFar_54 rfl hl (by decide) rfl (fun ls hl => ?_)
      obtain ⟨z1, hr, ez1⟩ := of_map hr
      obtain ⟨n, hr⟩ := lop_some hr
      exact w_X12_makeFar_55 cx fx hlocks hret hR g0 z1 (fun rb gb eb => hq0 rb gb (by rw [ez1, eb])) n k1 (0 : Int32) g3 hr H locs ls dy (lv_sub hl [1, 0] rfl)
    · refine lv_icmp_ge (tgt := 53) cx.1 cx.2.1 dX12_makeFar_6 (by decide) (fun hn => absurd hn hc) (fun _ => ?_)
      refine lv_aload_n cx.1 cx.2.1 dX12_makeFar_9 rfl (lv_at hl 0 rfl) ?_
      obtain ⟨hv35, hr⟩ := of_grd hr
      obtain ⟨k36, hf37, hr⟩ := of_bnd hr
      refine h_getR cx fx dy fd_12_13 hv35 tb_999 hf37 dX12_makeFar_10 ?_
      refine lv_iload_n cx.1 cx.2.1 dX12_makeFar_13 rfl (lv_at hl 1 rfl) ?_
      refine lv_iload_n cx.1 cx.2.1 dX12_makeFar_14 rfl (lv_at hl 1 rfl) ?_
      refine lv_bipush (v := 13) cx.1 cx.2.1 dX12_makeFar_15 (by decide) ?_
      refine lv_irem cx.1 cx.2.1 dX12_makeFar_17 (by decide) ?_
      rcases of_brn hr with ⟨hc, hr⟩ | ⟨hc, hr⟩
      · refine lv_if_ne (tgt := 25) cx.1 cx.2.1 dX12_makeFar_18 (by decide) (fun hn => absurd hc hn) (fun _ => ?_)
        refine lv_iconst (v := 0) cx.1 cx.2.1 dX12_makeFar_21 (by decide) ?_
        refine lv_goto (tgt := 46) cx.1 cx.2.1 dX12_makeFar_22 (by decide) ?_
        obtain ⟨ha38, hr⟩ := of_grd hr
        obtain ⟨g39, eg39, hr⟩ := of_nm hr
        refine h_iast cx fx dy ha38 dX12_makeFar_46 (fun H locs dy => ?_)
        replace dy : Dy D cA ad (V, g39) A s.heap H locs := by rw [eg39]; exact dy
        obtain ⟨x40, ex40, hr⟩ := of_nm hr
        refine lv_iinc (v := x40) (lv' := [(1, .int x40), (0, .ref (ad k1))]) cx.1 cx.2.1 dX12_makeFar_47 hl (k := 1) rfl (by rw [ex40]; rfl) (by decide) rfl (fun ls hl => ?_)
        refine lv_goto (tgt := 2) cx.1 cx.2.1 dX12_makeFar_50 (by decide) ?_
        exact hh0 k1 x40 g39 (Option.some.inj hr).symm H locs ls dy (lv_sub hl [1, 0] rfl)
      · refine lv_if_ne (tgt := 25) cx.1 cx.2.1 dX12_makeFar_18 (by decide) (fun _ => ?_) (fun hn => absurd hn hc)
        refine lv_aload_n cx.1 cx.2.1 dX12_makeFar_25 rfl (lv_at hl 0 rfl) ?_
        obtain ⟨k41, hf42, hr⟩ := of_bnd hr
        refine h_getR cx fx dy fd_12_12 hv35 tb_998 hf42 dX12_makeFar_26 ?_
        refine lv_iload_n cx.1 cx.2.1 dX12_makeFar_29 rfl (lv_at hl 1 rfl) ?_
        obtain ⟨ha43, hr⟩ := of_grd hr
        refine h_iald cx fx dy ha43 dX12_makeFar_30 ?_
        refine lv_iconst (v := (-1)) cx.1 cx.2.1 dX12_makeFar_31 (by decide) ?_
        rcases of_brn hr with ⟨hc, hr⟩ | ⟨hc, hr⟩
        · refine lv_icmp_ne (tgt := 40) cx.1 cx.2.1 dX12_makeFar_32 (by decide) (fun hn => absurd hc hn) (fun _ => ?_)
          refine lv_ldc (v := (1000000)) cx.1 cx.2.1 cx.2.2.2.1 (cx.2.2.2.2 _ tb_985) dX12_makeFar_35 ?_
          refine lv_goto (tgt := 46) cx.1 cx.2.1 dX12_makeFar_37 (by decide) ?_
          obtain ⟨ha44, hr⟩ := of_grd hr
          obtain ⟨g45, eg45, hr⟩ := of_nm hr
          refine h_iast cx fx dy ha44 dX12_makeFar_46 (fun H locs dy => ?_)
          replace dy : Dy D cA ad (V, g45) A s.heap H locs := by rw [eg45]; exact dy
          obtain ⟨x46, ex46, hr⟩ := of_nm hr
          refine lv_iinc (v := x46) (lv' := [(1, .int x46), (0, .ref (ad k1))]) cx.1 cx.2.1 dX12_makeFar_47 hl (k := 1) rfl (by rw [ex46]; rfl) (by decide) rfl (fun ls hl => ?_)
          refine lv_goto (tgt := 2) cx.1 cx.2.1 dX12_makeFar_50 (by decide) ?_
          exact hh0 k1 x46 g45 (Option.some.inj hr).symm H locs ls dy (lv_sub hl [1, 0] rfl)
        · refine lv_icmp_ne (tgt := 40) cx.1 cx.2.1 dX12_makeFar_32 (by decide) (fun _ => ?_) (fun hn => absurd hn hc)
          refine lv_aload_n cx.1 cx.2.1 dX12_makeFar_40 rfl (lv_at hl 0 rfl) ?_
          obtain ⟨k47, hf48, hr⟩ := of_bnd hr
          refine h_getR cx fx dy fd_12_12 hv35 tb_998 hf48 dX12_makeFar_41 ?_
          refine lv_iload_n cx.1 cx.2.1 dX12_makeFar_44 rfl (lv_at hl 1 rfl) ?_
          obtain ⟨ha49, hr⟩ := of_grd hr
          refine h_iald cx fx dy ha49 dX12_makeFar_45 ?_
          obtain ⟨ha50, hr⟩ := of_grd hr
          obtain ⟨g51, eg51, hr⟩ := of_nm hr
          refine h_iast cx fx dy ha50 dX12_makeFar_46 (fun H locs dy => ?_)
          replace dy : Dy D cA ad (V, g51) A s.heap H locs := by rw [eg51]; exact dy
          obtain ⟨x52, ex52, hr⟩ := of_nm hr
          refine lv_iinc (v := x52) (lv' := [(1, .int x52), (0, .ref (ad k1))]) cx.1 cx.2.1 dX12_makeFar_47 hl (k := 1) rfl (by rw [ex52]; rfl) (by decide) rfl (fun ls hl => ?_)
          refine lv_goto (tgt := 2) cx.1 cx.2.1 dX12_makeFar_50 (by decide) ?_
          exact hh0 k1 x52 g51 (Option.some.inj hr).symm H locs ls dy (lv_sub hl [1, 0] rfl)
noncomputable def r_X12_makeFar (V : Vk) (k0 : Nat) (g : Hq) : Option (Unit × Hq) :=
  (lop (r_X12_makeFar_2 V) (k0, (0 : Int32), g))
set_option maxHeartbeats 4000000 in
set_option maxRecDepth 100000 in
theorem c_X12_makeFar {l : Launch} {D : va_G} {cA : Nat → ClassId} {sk : (Nat → Nat) × (Nat → Nat)} {ad : Nat → Nat} {A : Nat → Prop} {V : Vk} {k0 : Nat} {g g0 : Hq} (hr : r_X12_makeFar V k0 g = some ((), g0)) : Met l yX12_makeFar (wM yX12_makeFar cX12_makeFar 5 none) { frames := 0, cells := 0, slots := 0, locals := 0 } (Pre D cA sk ad (V, g) A [.ref (ad k0)]) (QV D cA ad A (V, g0)) 0 0 A := by
  refine Met.ofW (cc := cX12_makeFar) (maxL := 5) (ret := none) (by decide) rfl ?_
  intro p e s m args below meth c s₁ B hml hv
  obtain ⟨rfl, fx, w0⟩ := hv
  have hts := atoms_spec (ws := wM yX12_makeFar cX12_makeFar 5 none) B.pre
  have cx : CallFix p m c cX12_makeFar 5 s ([.ref (ad k0)] : List Value).toArray gw_tbl RX12 := ⟨B.exec, B.bytes, hml, findClass_of_methodNamed B.named, fun w hw => hts w (List.mem_cons_of_mem _ hw)⟩
  have hlocks := B.notSynchronized
  have hret := B.returns
  have hR : 0 ≤ (headSpec (wM yX12_makeFar cX12_makeFar 5 none) { frames := 0, cells := 0, slots := 0, locals := 0 }).room.frames ∧ 0 ≤ (headSpec (wM yX12_makeFar cX12_makeFar 5 none) { frames := 0, cells := 0, slots := 0, locals := 0 }).room.locals := ⟨Nat.le_refl _, Nat.le_refl _⟩
  have dy : Dy D cA ad (V, g) A s.heap s.heap [] := ⟨w0, va_S.rf⟩
  have hl := lv_entry [.ref (ad k0)] (n := 5) (Nat.le_of_ble_eq_true rfl)
  rw [lg_entry_eq]
  generalize (lg_sl [.ref (ad k0)] ++ List.replicate (5 - (lg_sl [.ref (ad k0)]).length) Slot.unset).toArray = ls at hl ⊢
  have hl : lv_has ls 5 [(0, .ref (ad k0))] := hl
  have dy0 : ∃ H0, H0 = s.heap ∧ Dy D cA ad (V, g) A s.heap H0 [] := ⟨_, rfl, dy⟩
  obtain ⟨z, ez⟩ : ∃ z, z = (((), g0) : Unit × Hq) := ⟨_, rfl⟩
  rw [← ez] at hr
  have hq0 : ∀ (rb : Unit) (gb : Hq), z = (rb, gb) → gb = g0 := fun rb gb eb => by rw [ez] at eb; exact (congrArg Prod.snd eb).symm
  clear ez w0 dy0
  unfold r_X12_makeFar at hr
  obtain ⟨H, hH⟩ : ∃ H, H = s.heap := ⟨_, rfl⟩
  obtain ⟨locs, hlo⟩ : ∃ q : List Loc, q = [] := ⟨_, rfl⟩
  have dy : Dy D cA ad (V, g) A s.heap H locs := by rw [hH, hlo]; exact dy
  suffices K : W p l e (headSpec (wM yX12_makeFar cX12_makeFar 5 none) { frames := 0, cells := 0, slots := 0, locals := 0 }).room s m ([.ref (ad k0)] : List Value).toArray below meth c H locs 0 0 (MQ below (QV D cA ad A (V, g0)) ([.ref (ad k0)] : List Value).toArray s 0 0 A) (F0 m 0 ls []) by rw [hH, hlo] at K; exact K
  clear hH hlo
  refine lv_iconst (v := 0) cx.1 cx.2.1 dX12_makeFar_0 (by decide) ?_
  refine lv_istore_n (lv' := [(1, .int (0 : Int32)), (0, .ref (ad k0))]) cx.1 cx.2.1 dX12_makeFar_1 rfl hl (by decide) rfl (fun ls hl => ?_)
  obtain ⟨n, hr⟩ := lop_some hr
  exact w_X12_makeFar_2 cx fx hlocks hret hR g0 z hq0 n k0 (0 : Int32) g hr H locs ls dy (lv_sub hl [1, 0] rfl)
noncomputable def r_X12_way_37 (V : Vk) (k7 : Nat) (x8 : Int32) (x9 : Int32) (x10 : Int32) (g11 : Hq) : Option (Int32 × Hq) :=
  grd (V k7 = some (12, 0)) <| Option.bind (g11.2.2 k7 12) fun k13 => grd (okV V k13 0 (((12 : Int32) * x8) + x9)) <| nm (g11.1 k13 (((12 : Int32) * x8) + x9).toNatClampNeg) fun x16 => Option.bind (g11.2.2 k7 12) fun k17 => grd (okV V k17 0 (((12 : Int32) * x8) + x9)) <| nm (sI g11 k17 (((12 : Int32) * x8) + x9).toNatClampNeg x10) fun g20 => Option.bind (g20.2.2 k7 12) fun k21 => grd (okV V k21 0 (((12 : Int32) * x9) + x8)) <| nm (sI g20 k21 (((12 : Int32) * x9) + x8).toNatClampNeg x10) fun g24 => bnd (r_X12_makeFar V k7 g24) fun u26 g25 => some (x16, g25)
set_option maxHeartbeats 4000000 in
set_option maxRecDepth 100000 in
theorem w_X12_way_37 {p : Program} {l : Launch} {e : Env} {R : Room} {s : State} {m : MethodId} {args : Array Value} {below : List Frame} {meth : Method} {c : Code} {D : va_G} {cA : Nat → ClassId} {sk : (Nat → Nat) × (Nat → Nat)} {ad : Nat → Nat} {A : Nat → Prop} {V : Vk} (cx : CallFix p m c cX12_way 5 s args gw_tbl RX12) (fx : Fx D cA sk A s) (hlocks : meth.locks = false) (hret : meth.sig.returnType = (some .int)) (hR : 2 ≤ R.frames ∧ 42 ≤ R.locals) (r0 : Int32) (g0 : Hq) (z : (Int32 × Hq)) (hq : ∀ (rb : Int32) (gb : Hq), z = (rb, gb) → rb = r0 ∧ gb = g0) (k7 : Nat) (x8 : Int32) (x9 : Int32) (x10 : Int32) (g11 : Hq) (hr : r_X12_way_37 V k7 x8 x9 x10 g11 = some z) (H : Heap) (locs : List Loc) (ls : Array Slot) (dy : Dy D cA ad (V, g11) A s.heap H locs) (hl : lv_has ls 5 [(0, .ref (ad k7)), (1, .int x8), (2, .int x9), (3, .int x10)]) : W p l e R s m args below meth c H locs 0 0 (MQ below (QI D cA ad A r0 (V, g0)) args s 0 0 A) (F0 m 37 ls []) := by
  unfold r_X12_way_37 at hr
  have hq0 := hq
  refine lv_aload_n cx.1 cx.2.1 dX12_way_37 rfl (lv_at hl 0 rfl) ?_
  obtain ⟨hv12, hr⟩ := of_grd hr
  obtain ⟨k13, hf14, hr⟩ := of_bnd hr
  refine h_getR cx fx dy fd_12_12 hv12 tb_998 hf14 dX12_way_38 ?_
  refine lv_bipush (v := 12) cx.1 cx.2.1 dX12_way_41 (by decide) ?_
  refine lv_iload_n cx.1 cx.2.1 dX12_way_43 rfl (lv_at hl 1 rfl) ?_
  refine lv_imul cx.1 cx.2.1 dX12_way_44 ?_
  refine lv_iload_n cx.1 cx.2.1 dX12_way_45 rfl (lv_at hl 2 rfl) ?_
  refine lv_iadd cx.1 cx.2.1 dX12_way_46 ?_
  obtain ⟨ha15, hr⟩ := of_grd hr
  refine h_iald cx fx dy ha15 dX12_way_47 ?_
  obtain ⟨x16, ex16, hr⟩ := of_nm hr
  refine lv_nmi ex16 ?_
  refine lv_istore (lv' := [(4, .int x16), (0, .ref (ad k7)), (1, .int x8), (2, .int x9), (3, .int x10)]) cx.1 cx.2.1 dX12_way_48 hl (by decide) rfl (fun ls hl => ?_)
  refine lv_aload_n cx.1 cx.2.1 dX12_way_50 rfl (lv_at hl 1 rfl) ?_
  obtain ⟨k17, hf18, hr⟩ := of_bnd hr
  refine h_getR cx fx dy fd_12_12 hv12 tb_998 hf18 dX12_way_51 ?_
  refine lv_bipush (v := 12) cx.1 cx.2.1 dX12_way_54 (by decide) ?_
  refine lv_iload_n cx.1 cx.2.1 dX12_way_56 rfl (lv_at hl 2 rfl) ?_
  refine lv_imul cx.1 cx.2.1 dX12_way_57 ?_
  refine lv_iload_n cx.1 cx.2.1 dX12_way_58 rfl (lv_at hl 3 rfl) ?_
  refine lv_iadd cx.1 cx.2.1 dX12_way_59 ?_
  refine lv_iload_n cx.1 cx.2.1 dX12_way_60 rfl (lv_at hl 4 rfl) ?_
  obtain ⟨ha19, hr⟩ := of_grd hr
  obtain ⟨g20, eg20, hr⟩ := of_nm hr
  refine h_iast cx fx dy ha19 dX12_way_61 (fun H locs dy => ?_)
  replace dy : Dy D cA ad (V, g20) A s.heap H locs := by rw [eg20]; exact dy
  refine lv_aload_n cx.1 cx.2.1 dX12_way_62 rfl (lv_at hl 1 rfl) ?_
  obtain ⟨k21, hf22, hr⟩ := of_bnd hr
  refine h_getR cx fx dy fd_12_12 hv12 tb_998 hf22 dX12_way_63 ?_
  refine lv_bipush (v := 12) cx.1 cx.2.1 dX12_way_66 (by decide) ?_
  refine lv_iload_n cx.1 cx.2.1 dX12_way_68 rfl (lv_at hl 3 rfl) ?_
  refine lv_imul cx.1 cx.2.1 dX12_way_69 ?_
  refine lv_iload_n cx.1 cx.2.1 dX12_way_70 rfl (lv_at hl 2 rfl) ?_
  refine lv_iadd cx.1 cx.2.1 dX12_way_71 ?_
  refine lv_iload_n cx.1 cx.2.1 dX12_way_72 rfl (lv_at hl 4 rfl) ?_
  obtain ⟨ha23, hr⟩ := of_grd hr
  obtain ⟨g24, eg24, hr⟩ := of_nm hr
  refine h_iast cx fx dy ha23 dX12_way_73 (fun H locs dy => ?_)
  replace dy : Dy D cA ad (V, g24) A s.heap H locs := by rw [eg24]; exact dy
  refine lv_aload_n cx.1 cx.2.1 dX12_way_74 rfl (lv_at hl 1 rfl) ?_
  obtain ⟨u26, g25, hc27, hr⟩ := of_bnd2 hr
  refine r_v dy (k_V (As := []) (b := k7) (ci := 12) cx fx dy (c_X12_makeFar hc27) mv_X12_makeFar rfl rfl ⟨Nat.le_trans (by decide) hR.1, Nat.le_trans (by decide) hR.2⟩ tb_981 hv12 rfl (by decide) rfl hl.1 rfl (Nat.le_of_ble_eq_true rfl) ⟨Nat.zero_le _, Nat.zero_le _⟩ dX12_way_75) (fun H locs dy => ?_)
  refine lv_iload cx.1 cx.2.1 dX12_way_78 (lv_at hl 0 rfl) ?_
  obtain ⟨e0, e1⟩ := hq0 _ _ (Option.some.inj hr).symm
  exact h_iret cx dy hlocks hret rfl e0 (by rw [e1]) dX12_way_80
noncomputable def r_X12_way (V : Vk) (k0 : Nat) (a1 : Int32) (a2 : Int32) (a3 : Int32) (g : Hq) : Option (Int32 × Hq) :=
  bnd (r_X12_isCourt V a1 g) fun x2 g1 => brn (x2 = 0) (some ((-2 : Int32), g1)) (bnd (r_X12_isCourt V a2 g1) fun x5 g4 => brn (x5 = 0) (some ((-2 : Int32), g4)) (brn (a1 = a2) (some ((-2 : Int32), g4)) (brn (a3 = (-1 : Int32)) ((r_X12_way_37 V k0 a1 a2 a3 g4)) (bnd (r_X12_in V a3 (1 : Int32) (99 : Int32) g4) fun x29 g28 => brn (x29 = 0) (some ((-2 : Int32), g28)) ((r_X12_way_37 V k0 a1 a2 a3 g28))))))
set_option maxHeartbeats 4000000 in
set_option maxRecDepth 100000 in
theorem c_X12_way {l : Launch} {D : va_G} {cA : Nat → ClassId} {sk : (Nat → Nat) × (Nat → Nat)} {ad : Nat → Nat} {A : Nat → Prop} {V : Vk} {k0 : Nat} {a1 : Int32} {a2 : Int32} {a3 : Int32} {g g0 : Hq} {r0 : Int32} (hr : r_X12_way V k0 a1 a2 a3 g = some (r0, g0)) : Met l yX12_way (wM yX12_way cX12_way 5 (some .int)) { frames := 2, cells := 0, slots := 0, locals := 42 } (Pre D cA sk ad (V, g) A [.ref (ad k0), .int a1, .int a2, .int a3]) (QI D cA ad A r0 (V, g0)) 0 0 A := by
  refine Met.ofW (cc := cX12_way) (maxL := 5) (ret := (some .int)) (by decide) rfl ?_
  intro p e s m args below meth c s₁ B hml hv
  obtain ⟨rfl, fx, w0⟩ := hv
  have hts := atoms_spec (ws := wM yX12_way cX12_way 5 (some .int)) B.pre
  have cx : CallFix p m c cX12_way 5 s ([.ref (ad k0), .int a1, .int a2, .int a3] : List Value).toArray gw_tbl RX12 := ⟨B.exec, B.bytes, hml, findClass_of_methodNamed B.named, fun w hw => hts w (List.mem_cons_of_mem _ hw)⟩
  have hlocks := B.notSynchronized
  have hret := B.returns
  have hR : 2 ≤ (headSpec (wM yX12_way cX12_way 5 (some .int)) { frames := 2, cells := 0, slots := 0, locals := 42 }).room.frames ∧ 42 ≤ (headSpec (wM yX12_way cX12_way 5 (some .int)) { frames := 2, cells := 0, slots := 0, locals := 42 }).room.locals := ⟨Nat.le_refl _, Nat.le_refl _⟩
  have dy : Dy D cA ad (V, g) A s.heap s.heap [] := ⟨w0, va_S.rf⟩
  have hl := lv_entry [.ref (ad k0), .int a1, .int a2, .int a3] (n := 5) (Nat.le_of_ble_eq_true rfl)
  rw [lg_entry_eq]
  generalize (lg_sl [.ref (ad k0), .int a1, .int a2, .int a3] ++ List.replicate (5 - (lg_sl [.ref (ad k0), .int a1, .int a2, .int a3]).length) Slot.unset).toArray = ls at hl ⊢
  have hl : lv_has ls 5 [(0, .ref (ad k0)), (1, .int a1), (2, .int a2), (3, .int a3)] := hl
  have dy0 : ∃ H0, H0 = s.heap ∧ Dy D cA ad (V, g) A s.heap H0 [] := ⟨_, rfl, dy⟩
  obtain ⟨z, ez⟩ : ∃ z, z = (r0, g0) := ⟨_, rfl⟩
  rw [← ez] at hr
  have hq0 : ∀ (rb : Int32) (gb : Hq), z = (rb, gb) → rb = r0 ∧ gb = g0 := fun rb gb eb => by rw [ez] at eb; exact ⟨(congrArg Prod.fst eb).symm, (congrArg Prod.snd eb).symm⟩
  clear ez w0 dy0
  unfold r_X12_way at hr
  obtain ⟨H, hH⟩ : ∃ H, H = s.heap := ⟨_, rfl⟩
  obtain ⟨locs, hlo⟩ : ∃ q : List Loc, q = [] := ⟨_, rfl⟩
  have dy : Dy D cA ad (V, g) A s.heap H locs := by rw [hH, hlo]; exact dy
  suffices K : W p l e (headSpec (wM yX12_way cX12_way 5 (some .int)) { frames := 2, cells := 0, slots := 0, locals := 42 }).room s m ([.ref (ad k0), .int a1, .int a2, .int a3] : List Value).toArray below meth c H locs 0 0 (MQ below (QI D cA ad A r0 (V, g0)) ([.ref (ad k0), .int a1, .int a2, .int a3] : List Value).toArray s 0 0 A) (F0 m 0 ls []) by rw [hH, hlo] at K; exact K
  clear hH hlo
  refine lv_iload_n cx.1 cx.2.1 dX12_way_0 rfl (lv_at hl 1 rfl) ?_
  obtain ⟨x2, g1, hc3, hr⟩ := of_bnd2 hr
  refine r_i dy (k_S (As := [.int a1]) cx fx dy (c_X12_isCourt hc3) mv_X12_isCourt rfl rfl ⟨Nat.le_trans (by decide) hR.1, Nat.le_trans (by decide) hR.2⟩ tb_1167 rfl hl.1 rfl (Nat.le_of_ble_eq_true rfl) ⟨Nat.zero_le _, Nat.zero_le _⟩ dX12_way_1) (fun H locs dy => ?_)
  rcases of_brn hr with ⟨hc, hr⟩ | ⟨hc, hr⟩
  · refine lv_if_eq (tgt := 34) cx.1 cx.2.1 dX12_way_4 (by decide) (fun _ => ?_) (fun hn => absurd hc hn)
    refine lv_bipush (v := (-2)) cx.1 cx.2.1 dX12_way_34 (by decide) ?_
    obtain ⟨e0, e1⟩ := hq0 _ _ (Option.some.inj hr).symm
    exact h_iret cx dy hlocks hret rfl e0 (by rw [e1]) dX12_way_36
  · refine lv_if_eq (tgt := 34) cx.1 cx.2.1 dX12_way_4 (by decide) (fun hn => absurd hn hc) (fun _ => ?_)
    refine lv_iload_n cx.1 cx.2.1 dX12_way_7 rfl (lv_at hl 2 rfl) ?_
    obtain ⟨x5, g4, hc6, hr⟩ := of_bnd2 hr
    refine r_i dy (k_S (As := [.int a2]) cx fx dy (c_X12_isCourt hc6) mv_X12_isCourt rfl rfl ⟨Nat.le_trans (by decide) hR.1, Nat.le_trans (by decide) hR.2⟩ tb_1167 rfl hl.1 rfl (Nat.le_of_ble_eq_true rfl) ⟨Nat.zero_le _, Nat.zero_le _⟩ dX12_way_8) (fun H locs dy => ?_)
    rcases of_brn hr with ⟨hc, hr⟩ | ⟨hc, hr⟩
    · refine lv_if_eq (tgt := 34) cx.1 cx.2.1 dX12_way_11 (by decide) (fun _ => ?_) (fun hn => absurd hc hn)
      refine lv_bipush (v := (-2)) cx.1 cx.2.1 dX12_way_34 (by decide) ?_
      obtain ⟨e0, e1⟩ := hq0 _ _ (Option.some.inj hr).symm
      exact h_iret cx dy hlocks hret rfl e0 (by rw [e1]) dX12_way_36
    · refine lv_if_eq (tgt := 34) cx.1 cx.2.1 dX12_way_11 (by decide) (fun hn => absurd hn hc) (fun _ => ?_)
      refine lv_iload_n cx.1 cx.2.1 dX12_way_14 rfl (lv_at hl 1 rfl) ?_
      refine lv_iload_n cx.1 cx.2.1 dX12_way_15 rfl (lv_at hl 2 rfl) ?_
      rcases of_brn hr with ⟨hc, hr⟩ | ⟨hc, hr⟩
      · refine lv_icmp_eq (tgt := 34) cx.1 cx.2.1 dX12_way_16 (by decide) (fun _ => ?_) (fun hn => absurd hc hn)
        refine lv_bipush (v := (-2)) cx.1 cx.2.1 dX12_way_34 (by decide) ?_
        obtain ⟨e0, e1⟩ := hq0 _ _ (Option.some.inj hr).symm
        exact h_iret cx dy hlocks hret rfl e0 (by rw [e1]) dX12_way_36
      · refine lv_icmp_eq (tgt := 34) cx.1 cx.2.1 dX12_way_16 (by decide) (fun hn => absurd hn hc) (fun _ => ?_)
        refine lv_iload_n cx.1 cx.2.1 dX12_way_19 rfl (lv_at hl 3 rfl) ?_
        refine lv_iconst (v := (-1)) cx.1 cx.2.1 dX12_way_20 (by decide) ?_
        rcases of_brn hr with ⟨hc, hr⟩ | ⟨hc, hr⟩
        · refine lv_icmp_eq (tgt := 37) cx.1 cx.2.1 dX12_way_21 (by decide) (fun _ => ?_) (fun hn => absurd hc hn)
          exact w_X12_way_37 cx fx hlocks hret hR r0 g0 z hq0 k0 a1 a2 a3 g4 hr H locs ls dy (lv_sub hl [0, 1, 2, 3] rfl)
        · refine lv_icmp_eq (tgt := 37) cx.1 cx.2.1 dX12_way_21 (by decide) (fun hn => absurd hn hc) (fun _ => ?_)
          refine lv_iload_n cx.1 cx.2.1 dX12_way_24 rfl (lv_at hl 3 rfl) ?_
          refine lv_iconst (v := 1) cx.1 cx.2.1 dX12_way_25 (by decide) ?_
          refine lv_bipush (v := 99) cx.1 cx.2.1 dX12_way_26 (by decide) ?_
          obtain ⟨x29, g28, hc30, hr⟩ := of_bnd2 hr
          refine r_i dy (k_S (As := [.int a3, .int (1 : Int32), .int (99 : Int32)]) cx fx dy (c_X12_in hc30) mv_X12_in rfl rfl ⟨Nat.le_trans (by decide) hR.1, Nat.le_trans (by decide) hR.2⟩ tb_1170 rfl hl.1 rfl (Nat.le_of_ble_eq_true rfl) ⟨Nat.zero_le _, Nat.zero_le _⟩ dX12_way_28) (fun H locs dy => ?_)
          rcases of_brn hr with ⟨hc, hr⟩ | ⟨hc, hr⟩
          · refine lv_if_ne (tgt := 37) cx.1 cx.2.1 dX12_way_31 (by decide) (fun hn => absurd hc hn) (fun _ => ?_)
            refine lv_bipush (v := (-2)) cx.1 cx.2.1 dX12_way_34 (by decide) ?_
            obtain ⟨e0, e1⟩ := hq0 _ _ (Option.some.inj hr).symm
            exact h_iret cx dy hlocks hret rfl e0 (by rw [e1]) dX12_way_36
          · refine lv_if_ne (tgt := 37) cx.1 cx.2.1 dX12_way_31 (by decide) (fun _ => ?_) (fun hn => absurd hn hc)
            exact w_X12_way_37 cx fx hlocks hret hR r0 g0 z hq0 k0 a1 a2 a3 g28 hr H locs ls dy (lv_sub hl [0, 1, 2, 3] rfl)
noncomputable def r_X12_far (V : Vk) (k0 : Nat) (a1 : Int32) (a2 : Int32) (g : Hq) : Option (Int32 × Hq) :=
  bnd (r_X12_isCourt V a1 g) fun x2 g1 => brn (x2 = 0) (some ((-2 : Int32), g1)) (bnd (r_X12_isCourt V a2 g1) fun x5 g4 => brn (x5 = 0) (some ((-2 : Int32), g4)) (grd (V k0 = some (12, 0)) <| Option.bind (g4.2.2 k0 13) fun k8 => grd (okV V k8 0 (((12 : Int32) * a1) + a2)) <| nm (g4.1 k8 (((12 : Int32) * a1) + a2).toNatClampNeg) fun x11 => brn (x11 < (1000000 : Int32)) (some (x11, g4)) (some ((-1 : Int32), g4))))
set_option maxHeartbeats 4000000 in
set_option maxRecDepth 100000 in
theorem c_X12_far {l : Launch} {D : va_G} {cA : Nat → ClassId} {sk : (Nat → Nat) × (Nat → Nat)} {ad : Nat → Nat} {A : Nat → Prop} {V : Vk} {k0 : Nat} {a1 : Int32} {a2 : Int32} {g g0 : Hq} {r0 : Int32} (hr : r_X12_far V k0 a1 a2 g = some (r0, g0)) : Met l yX12_far (wM yX12_far cX12_far 4 (some .int)) { frames := 2, cells := 0, slots := 0, locals := 42 } (Pre D cA sk ad (V, g) A [.ref (ad k0), .int a1, .int a2]) (QI D cA ad A r0 (V, g0)) 0 0 A := by
  refine Met.ofW (cc := cX12_far) (maxL := 4) (ret := (some .int)) (by decide) rfl ?_
  intro p e s m args below meth c s₁ B hml hv
  obtain ⟨rfl, fx, w0⟩ := hv
  have hts := atoms_spec (ws := wM yX12_far cX12_far 4 (some .int)) B.pre
  have cx : CallFix p m c cX12_far 4 s ([.ref (ad k0), .int a1, .int a2] : List Value).toArray gw_tbl RX12 := ⟨B.exec, B.bytes, hml, findClass_of_methodNamed B.named, fun w hw => hts w (List.mem_cons_of_mem _ hw)⟩
  have hlocks := B.notSynchronized
  have hret := B.returns
  have hR : 2 ≤ (headSpec (wM yX12_far cX12_far 4 (some .int)) { frames := 2, cells := 0, slots := 0, locals := 42 }).room.frames ∧ 42 ≤ (headSpec (wM yX12_far cX12_far 4 (some .int)) { frames := 2, cells := 0, slots := 0, locals := 42 }).room.locals := ⟨Nat.le_refl _, Nat.le_refl _⟩
  have dy : Dy D cA ad (V, g) A s.heap s.heap [] := ⟨w0, va_S.rf⟩
  have hl := lv_entry [.ref (ad k0), .int a1, .int a2] (n := 4) (Nat.le_of_ble_eq_true rfl)
  rw [lg_entry_eq]
  generalize (lg_sl [.ref (ad k0), .int a1, .int a2] ++ List.replicate (4 - (lg_sl [.ref (ad k0), .int a1, .int a2]).length) Slot.unset).toArray = ls at hl ⊢
  have hl : lv_has ls 4 [(0, .ref (ad k0)), (1, .int a1), (2, .int a2)] := hl
  have dy0 : ∃ H0, H0 = s.heap ∧ Dy D cA ad (V, g) A s.heap H0 [] := ⟨_, rfl, dy⟩
  obtain ⟨z, ez⟩ : ∃ z, z = (r0, g0) := ⟨_, rfl⟩
  rw [← ez] at hr
  have hq0 : ∀ (rb : Int32) (gb : Hq), z = (rb, gb) → rb = r0 ∧ gb = g0 := fun rb gb eb => by rw [ez] at eb; exact ⟨(congrArg Prod.fst eb).symm, (congrArg Prod.snd eb).symm⟩
  clear ez w0 dy0
  unfold r_X12_far at hr
  obtain ⟨H, hH⟩ : ∃ H, H = s.heap := ⟨_, rfl⟩
  obtain ⟨locs, hlo⟩ : ∃ q : List Loc, q = [] := ⟨_, rfl⟩
  have dy : Dy D cA ad (V, g) A s.heap H locs := by rw [hH, hlo]; exact dy
  suffices K : W p l e (headSpec (wM yX12_far cX12_far 4 (some .int)) { frames := 2, cells := 0, slots := 0, locals := 42 }).room s m ([.ref (ad k0), .int a1, .int a2] : List Value).toArray below meth c H locs 0 0 (MQ below (QI D cA ad A r0 (V, g0)) ([.ref (ad k0), .int a1, .int a2] : List Value).toArray s 0 0 A) (F0 m 0 ls []) by rw [hH, hlo] at K; exact K
  clear hH hlo
  refine lv_iload_n cx.1 cx.2.1 dX12_far_0 rfl (lv_at hl 1 rfl) ?_
  obtain ⟨x2, g1, hc3, hr⟩ := of_bnd2 hr
  refine r_i dy (k_S (As := [.int a1]) cx fx dy (c_X12_isCourt hc3) mv_X12_isCourt rfl rfl ⟨Nat.le_trans (by decide) hR.1, Nat.le_trans (by decide) hR.2⟩ tb_1167 rfl hl.1 rfl (Nat.le_of_ble_eq_true rfl) ⟨Nat.zero_le _, Nat.zero_le _⟩ dX12_far_1) (fun H locs dy => ?_)
  rcases of_brn hr with ⟨hc, hr⟩ | ⟨hc, hr⟩
  · refine lv_if_eq (tgt := 14) cx.1 cx.2.1 dX12_far_4 (by decide) (fun _ => ?_) (fun hn => absurd hc hn)
    refine lv_bipush (v := (-2)) cx.1 cx.2.1 dX12_far_14 (by decide) ?_
    obtain ⟨e0, e1⟩ := hq0 _ _ (Option.some.inj hr).symm
    exact h_iret cx dy hlocks hret rfl e0 (by rw [e1]) dX12_far_16
  · refine lv_if_eq (tgt := 14) cx.1 cx.2.1 dX12_far_4 (by decide) (fun hn => absurd hn hc) (fun _ => ?_)
    refine lv_iload_n cx.1 cx.2.1 dX12_far_7 rfl (lv_at hl 2 rfl) ?_
    obtain ⟨x5, g4, hc6, hr⟩ := of_bnd2 hr
    refine r_i dy (k_S (As := [.int a2]) cx fx dy (c_X12_isCourt hc6) mv_X12_isCourt rfl rfl ⟨Nat.le_trans (by decide) hR.1, Nat.le_trans (by decide) hR.2⟩ tb_1167 rfl hl.1 rfl (Nat.le_of_ble_eq_true rfl) ⟨Nat.zero_le _, Nat.zero_le _⟩ dX12_far_8) (fun H locs dy => ?_)
    rcases of_brn hr with ⟨hc, hr⟩ | ⟨hc, hr⟩
    · refine lv_if_ne (tgt := 17) cx.1 cx.2.1 dX12_far_11 (by decide) (fun hn => absurd hc hn) (fun _ => ?_)
      refine lv_bipush (v := (-2)) cx.1 cx.2.1 dX12_far_14 (by decide) ?_
      obtain ⟨e0, e1⟩ := hq0 _ _ (Option.some.inj hr).symm
      exact h_iret cx dy hlocks hret rfl e0 (by rw [e1]) dX12_far_16
    · refine lv_if_ne (tgt := 17) cx.1 cx.2.1 dX12_far_11 (by decide) (fun _ => ?_) (fun hn => absurd hn hc)
      refine lv_aload_n cx.1 cx.2.1 dX12_far_17 rfl (lv_at hl 0 rfl) ?_
      obtain ⟨hv7, hr⟩ := of_grd hr
      obtain ⟨k8, hf9, hr⟩ := of_bnd hr
      refine h_getR cx fx dy fd_12_13 hv7 tb_999 hf9 dX12_far_18 ?_
      refine lv_bipush (v := 12) cx.1 cx.2.1 dX12_far_21 (by decide) ?_
      refine lv_iload_n cx.1 cx.2.1 dX12_far_23 rfl (lv_at hl 1 rfl) ?_
      refine lv_imul cx.1 cx.2.1 dX12_far_24 ?_
      refine lv_iload_n cx.1 cx.2.1 dX12_far_25 rfl (lv_at hl 2 rfl) ?_
      refine lv_iadd cx.1 cx.2.1 dX12_far_26 ?_
      obtain ⟨ha10, hr⟩ := of_grd hr
      refine h_iald cx fx dy ha10 dX12_far_27 ?_
      obtain ⟨x11, ex11, hr⟩ := of_nm hr
      refine lv_nmi ex11 ?_
      refine lv_istore_n (lv' := [(3, .int x11), (0, .ref (ad k0)), (1, .int a1), (2, .int a2)]) cx.1 cx.2.1 dX12_far_28 rfl hl (by decide) rfl (fun ls hl => ?_)
      refine lv_iload_n cx.1 cx.2.1 dX12_far_29 rfl (lv_at hl 0 rfl) ?_
      refine lv_ldc (v := (1000000)) cx.1 cx.2.1 cx.2.2.2.1 (cx.2.2.2.2 _ tb_985) dX12_far_30 ?_
      rcases of_brn hr with ⟨hc, hr⟩ | ⟨hc, hr⟩
      · refine lv_icmp_lt (tgt := 39) cx.1 cx.2.1 dX12_far_32 (by decide) (fun _ => ?_) (fun hn => absurd hc hn)
        refine lv_iload_n cx.1 cx.2.1 dX12_far_39 rfl (lv_at hl 0 rfl) ?_
        obtain ⟨e0, e1⟩ := hq0 _ _ (Option.some.inj hr).symm
        exact h_iret cx dy hlocks hret rfl e0 (by rw [e1]) dX12_far_40
      · refine lv_icmp_lt (tgt := 39) cx.1 cx.2.1 dX12_far_32 (by decide) (fun hn => absurd hn hc) (fun _ => ?_)
        refine lv_iconst (v := (-1)) cx.1 cx.2.1 dX12_far_35 (by decide) ?_
        refine lv_goto (tgt := 40) cx.1 cx.2.1 dX12_far_36 (by decide) ?_
        obtain ⟨e0, e1⟩ := hq0 _ _ (Option.some.inj hr).symm
        exact h_iret cx dy hlocks hret rfl e0 (by rw [e1]) dX12_far_40
noncomputable def r_X12_farOf (V : Vk) (k0 : Nat) (a1 : Int32) (a2 : Int32) (g : Hq) : Option (Int32 × Hq) :=
  grd (V k0 = some (12, 0)) <| Option.bind (g.2.2 k0 13) fun k2 => Option.bind (g.2.2 k0 14) fun k4 => grd (okV V k4 0 a1) <| Option.bind (g.2.2 k0 14) fun k7 => grd (okV V k7 0 a2) <| grd (okV V k2 0 (((12 : Int32) * (g.1 k4 a1.toNatClampNeg)) + (g.1 k7 a2.toNatClampNeg))) <| some ((g.1 k2 (((12 : Int32) * (g.1 k4 a1.toNatClampNeg)) + (g.1 k7 a2.toNatClampNeg)).toNatClampNeg), g)
set_option maxHeartbeats 4000000 in
set_option maxRecDepth 100000 in
theorem c_X12_farOf {l : Launch} {D : va_G} {cA : Nat → ClassId} {sk : (Nat → Nat) × (Nat → Nat)} {ad : Nat → Nat} {A : Nat → Prop} {V : Vk} {k0 : Nat} {a1 : Int32} {a2 : Int32} {g g0 : Hq} {r0 : Int32} (hr : r_X12_farOf V k0 a1 a2 g = some (r0, g0)) : Met l yX12_farOf (wM yX12_farOf cX12_farOf 3 (some .int)) { frames := 0, cells := 0, slots := 0, locals := 0 } (Pre D cA sk ad (V, g) A [.ref (ad k0), .int a1, .int a2]) (QI D cA ad A r0 (V, g0)) 0 0 A := by
  refine Met.ofW (cc := cX12_farOf) (maxL := 3) (ret := (some .int)) (by decide) rfl ?_
  intro p e s m args below meth c s₁ B hml hv
  obtain ⟨rfl, fx, w0⟩ := hv
  have hts := atoms_spec (ws := wM yX12_farOf cX12_farOf 3 (some .int)) B.pre
  have cx : CallFix p m c cX12_farOf 3 s ([.ref (ad k0), .int a1, .int a2] : List Value).toArray gw_tbl RX12 := ⟨B.exec, B.bytes, hml, findClass_of_methodNamed B.named, fun w hw => hts w (List.mem_cons_of_mem _ hw)⟩
  have hlocks := B.notSynchronized
  have hret := B.returns
  have hR : 0 ≤ (headSpec (wM yX12_farOf cX12_farOf 3 (some .int)) { frames := 0, cells := 0, slots := 0, locals := 0 }).room.frames ∧ 0 ≤ (headSpec (wM yX12_farOf cX12_farOf 3 (some .int)) { frames := 0, cells := 0, slots := 0, locals := 0 }).room.locals := ⟨Nat.le_refl _, Nat.le_refl _⟩
  have dy : Dy D cA ad (V, g) A s.heap s.heap [] := ⟨w0, va_S.rf⟩
  have hl := lv_entry [.ref (ad k0), .int a1, .int a2] (n := 3) (Nat.le_of_ble_eq_true rfl)
  rw [lg_entry_eq]
  generalize (lg_sl [.ref (ad k0), .int a1, .int a2] ++ List.replicate (3 - (lg_sl [.ref (ad k0), .int a1, .int a2]).length) Slot.unset).toArray = ls at hl ⊢
  have hl : lv_has ls 3 [(0, .ref (ad k0)), (1, .int a1), (2, .int a2)] := hl
  have dy0 : ∃ H0, H0 = s.heap ∧ Dy D cA ad (V, g) A s.heap H0 [] := ⟨_, rfl, dy⟩
  obtain ⟨z, ez⟩ : ∃ z, z = (r0, g0) := ⟨_, rfl⟩
  rw [← ez] at hr
  have hq0 : ∀ (rb : Int32) (gb : Hq), z = (rb, gb) → rb = r0 ∧ gb = g0 := fun rb gb eb => by rw [ez] at eb; exact ⟨(congrArg Prod.fst eb).symm, (congrArg Prod.snd eb).symm⟩
  clear ez w0 dy0
  unfold r_X12_farOf at hr
  obtain ⟨H, hH⟩ : ∃ H, H = s.heap := ⟨_, rfl⟩
  obtain ⟨locs, hlo⟩ : ∃ q : List Loc, q = [] := ⟨_, rfl⟩
  have dy : Dy D cA ad (V, g) A s.heap H locs := by rw [hH, hlo]; exact dy
  suffices K : W p l e (headSpec (wM yX12_farOf cX12_farOf 3 (some .int)) { frames := 0, cells := 0, slots := 0, locals := 0 }).room s m ([.ref (ad k0), .int a1, .int a2] : List Value).toArray below meth c H locs 0 0 (MQ below (QI D cA ad A r0 (V, g0)) ([.ref (ad k0), .int a1, .int a2] : List Value).toArray s 0 0 A) (F0 m 0 ls []) by rw [hH, hlo] at K; exact K
  clear hH hlo
  refine lv_aload_n cx.1 cx.2.1 dX12_farOf_0 rfl (lv_at hl 0 rfl) ?_
  obtain ⟨hv1, hr⟩ := of_grd hr
  obtain ⟨k2, hf3, hr⟩ := of_bnd hr
  refine h_getR cx fx dy fd_12_13 hv1 tb_999 hf3 dX12_farOf_1 ?_
  refine lv_bipush (v := 12) cx.1 cx.2.1 dX12_farOf_4 (by decide) ?_
  refine lv_aload_n cx.1 cx.2.1 dX12_farOf_6 rfl (lv_at hl 0 rfl) ?_
  obtain ⟨k4, hf5, hr⟩ := of_bnd hr
  refine h_getR cx fx dy fd_12_14 hv1 tb_1000 hf5 dX12_farOf_7 ?_
  refine lv_iload_n cx.1 cx.2.1 dX12_farOf_10 rfl (lv_at hl 1 rfl) ?_
  obtain ⟨ha6, hr⟩ := of_grd hr
  refine h_iald cx fx dy ha6 dX12_farOf_11 ?_
  refine lv_imul cx.1 cx.2.1 dX12_farOf_12 ?_
  refine lv_aload_n cx.1 cx.2.1 dX12_farOf_13 rfl (lv_at hl 0 rfl) ?_
  obtain ⟨k7, hf8, hr⟩ := of_bnd hr
  refine h_getR cx fx dy fd_12_14 hv1 tb_1000 hf8 dX12_farOf_14 ?_
  refine lv_iload_n cx.1 cx.2.1 dX12_farOf_17 rfl (lv_at hl 2 rfl) ?_
  obtain ⟨ha9, hr⟩ := of_grd hr
  refine h_iald cx fx dy ha9 dX12_farOf_18 ?_
  refine lv_iadd cx.1 cx.2.1 dX12_farOf_19 ?_
  obtain ⟨ha10, hr⟩ := of_grd hr
  refine h_iald cx fx dy ha10 dX12_farOf_20 ?_
  obtain ⟨e0, e1⟩ := hq0 _ _ (Option.some.inj hr).symm
  exact h_iret cx dy hlocks hret rfl e0 (by rw [e1]) dX12_farOf_21
noncomputable def r_X12_makeLengths_210 (V : Vk) (k39 : Nat) (x40 : Int32) (x41 : Int32) (x42 : Int32) (x43 : Int32) (x44 : Int32) (x45 : Int32) (g46 : Hq) : Option ((Nat × Int32 × Int32 × Int32 × Int32 × Int32 × Hq) ⊕ ((Nat × Int32 × Hq) ⊕ (Unit × Hq))) :=
  grd (V k39 = some (12, 0)) <| Option.bind (g46.2.2 k39 16) fun k48 => grd (okV V k48 0 (((10 : Int32) * x40) + x44)) <| nm (sI g46 k48 (((10 : Int32) * x40) + x44).toNatClampNeg x45) fun g51 => bnd (r_X12_farOf V k39 x44 x41 g51) fun x53 g52 => brn (x42 ≤ (x45 + x53)) (nm (x44 + (1 : Int32)) fun x55 => some (.inl (k39, x40, x41, x42, x43, x55, g52))) (bnd (r_X12_farOf V k39 x44 x41 g52) fun x57 g56 => nm (x45 + x57) fun x59 => nm (x44 + (1 : Int32)) fun x60 => some (.inl (k39, x40, x41, x59, x43, x60, g56)))
set_option maxHeartbeats 4000000 in
set_option maxRecDepth 100000 in
theorem w_X12_makeLengths_210 {p : Program} {l : Launch} {e : Env} {R : Room} {s : State} {m : MethodId} {args : Array Value} {below : List Frame} {meth : Method} {c : Code} {D : va_G} {cA : Nat → ClassId} {sk : (Nat → Nat) × (Nat → Nat)} {ad : Nat → Nat} {A : Nat → Prop} {V : Vk} (cx : CallFix p m c cX12_makeLengths 9 s args gw_tbl RX12) (fx : Fx D cA sk A s) (hlocks : meth.locks = false) (hret : meth.sig.returnType = none) (hR : 1 ≤ R.frames ∧ 22 ≤ R.locals) (g0 : Hq) (z : ((Nat × Int32 × Int32 × Int32 × Int32 × Int32 × Hq) ⊕ ((Nat × Int32 × Hq) ⊕ (Unit × Hq)))) (hk0 : ∀ (b0 : Nat) (b1 : Int32) (b2 : Int32) (b3 : Int32) (b4 : Int32) (b5 : Int32) (gb : Hq), z = (.inl (b0, b1, b2, b3, b4, b5, gb)) → ∀ (H : Heap) (locs : List Loc) (ls : Array Slot), Dy D cA ad (V, gb) A s.heap H locs → lv_has ls 9 [(0, .ref (ad b0)), (1, .int b1), (2, .int b2), (3, .int b3), (4, .int b4), (5, .int b5)] → W p l e R s m args below meth c H locs 0 0 (MQ below (QV D cA ad A (V, g0)) args s 0 0 A) (F0 m 27 ls [])) (hk1 : ∀ (b0 : Nat) (b1 : Int32) (gb : Hq), z = (.inr (.inl (b0, b1, gb))) → ∀ (H : Heap) (locs : List Loc) (ls : Array Slot), Dy D cA ad (V, gb) A s.heap H locs → lv_has ls 9 [(0, .ref (ad b0)), (1, .int b1)] → W p l e R s m args below meth c H locs 0 0 (MQ below (QV D cA ad A (V, g0)) args s 0 0 A) (F0 m 2 ls [])) (hq : ∀ (rb : Unit) (gb : Hq), z = (.inr (.inr (rb, gb))) → gb = g0) (k39 : Nat) (x40 : Int32) (x41 : Int32) (x42 : Int32) (x43 : Int32) (x44 : Int32) (x45 : Int32) (g46 : Hq) (hr : r_X12_makeLengths_210 V k39 x40 x41 x42 x43 x44 x45 g46 = some z) (H : Heap) (locs : List Loc) (ls : Array Slot) (dy : Dy D cA ad (V, g46) A s.heap H locs) (hl : lv_has ls 9 [(0, .ref (ad k39)), (1, .int x40), (2, .int x41), (3, .int x42), (4, .int x43), (5, .int x44), (7, .int x45)]) : W p l e R s m args below meth c H locs 0 0 (MQ below (QV D cA ad A (V, g0)) args s 0 0 A) (F0 m 210 ls []) := by
  unfold r_X12_makeLengths_210 at hr
  have hh0 := hk0
  have hh1 := hk1
  have hq0 := hq
  refine lv_aload_n cx.1 cx.2.1 dX12_makeLengths_210 rfl (lv_at hl 0 rfl) ?_
  obtain ⟨hv47, hr⟩ := of_grd hr
  obtain ⟨k48, hf49, hr⟩ := of_bnd hr
  refine h_getR cx fx dy fd_12_16 hv47 tb_1002 hf49 dX12_makeLengths_211 ?_
  refine lv_bipush (v := 10) cx.1 cx.2.1 dX12_makeLengths_214 (by decide) ?_
  refine lv_iload_n cx.1 cx.2.1 dX12_makeLengths_216 rfl (lv_at hl 1 rfl) ?_
  refine lv_imul cx.1 cx.2.1 dX12_makeLengths_217 ?_
  refine lv_iload cx.1 cx.2.1 dX12_makeLengths_218 (lv_at hl 5 rfl) ?_
  refine lv_iadd cx.1 cx.2.1 dX12_makeLengths_220 ?_
  refine lv_iload cx.1 cx.2.1 dX12_makeLengths_221 (lv_at hl 6 rfl) ?_
  obtain ⟨ha50, hr⟩ := of_grd hr
  obtain ⟨g51, eg51, hr⟩ := of_nm hr
  refine h_iast cx fx dy ha50 dX12_makeLengths_223 (fun H locs dy => ?_)
  replace dy : Dy D cA ad (V, g51) A s.heap H locs := by rw [eg51]; exact dy
  refine lv_iload cx.1 cx.2.1 dX12_makeLengths_224 (lv_at hl 6 rfl) ?_
  refine lv_aload_n cx.1 cx.2.1 dX12_makeLengths_226 rfl (lv_at hl 0 rfl) ?_
  refine lv_iload cx.1 cx.2.1 dX12_makeLengths_227 (lv_at hl 5 rfl) ?_
  refine lv_iload_n cx.1 cx.2.1 dX12_makeLengths_229 rfl (lv_at hl 2 rfl) ?_
  obtain ⟨x53, g52, hc54, hr⟩ := of_bnd2 hr
  refine r_i dy (k_V (As := [.int x44, .int x41]) (b := k39) (ci := 12) cx fx dy (c_X12_farOf hc54) mv_X12_farOf rfl rfl ⟨Nat.le_trans (by decide) hR.1, Nat.le_trans (by decide) hR.2⟩ tb_1195 hv47 rfl (by decide) rfl hl.1 rfl (Nat.le_of_ble_eq_true rfl) ⟨Nat.zero_le _, Nat.zero_le _⟩ dX12_makeLengths_230) (fun H locs dy => ?_)
  refine lv_iadd cx.1 cx.2.1 dX12_makeLengths_233 ?_
  refine lv_iload_n cx.1 cx.2.1 dX12_makeLengths_234 rfl (lv_at hl 3 rfl) ?_
  rcases of_brn hr with ⟨hc, hr⟩ | ⟨hc, hr⟩
  · refine lv_icmp_ge (tgt := 251) cx.1 cx.2.1 dX12_makeLengths_235 (by decide) (fun _ => ?_) (fun hn => absurd hc hn)
    refine lv_iload_n cx.1 cx.2.1 dX12_makeLengths_251 rfl (lv_at hl 3 rfl) ?_
    refine lv_istore_n (lv' := [(3, .int x42), (0, .ref (ad k39)), (1, .int x40), (2, .int x41), (4, .int x43), (5, .int x44), (7, .int x45)]) cx.1 cx.2.1 dX12_makeLengths_252 rfl hl (by decide) rfl (fun ls hl => ?_)
    obtain ⟨x55, ex55, hr⟩ := of_nm hr
    refine lv_iinc (v := x55) (lv' := [(5, .int x55), (3, .int x42), (0, .ref (ad k39)), (1, .int x40), (2, .int x41), (4, .int x43), (7, .int x45)]) cx.1 cx.2.1 dX12_makeLengths_253 hl (k := 5) rfl (by rw [ex55]; rfl) (by decide) rfl (fun ls hl => ?_)
    refine lv_goto (tgt := 27) cx.1 cx.2.1 dX12_makeLengths_256 (by decide) ?_
    exact hh0 k39 x40 x41 x42 x43 x55 g52 (Option.some.inj hr).symm H locs ls dy (lv_sub hl [2, 3, 4, 1, 5, 0] rfl)
  · refine lv_icmp_ge (tgt := 251) cx.1 cx.2.1 dX12_makeLengths_235 (by decide) (fun hn => absurd hn hc) (fun _ => ?_)
    refine lv_iload cx.1 cx.2.1 dX12_makeLengths_238 (lv_at hl 6 rfl) ?_
    refine lv_aload_n cx.1 cx.2.1 dX12_makeLengths_240 rfl (lv_at hl 0 rfl) ?_
    refine lv_iload cx.1 cx.2.1 dX12_makeLengths_241 (lv_at hl 5 rfl) ?_
    refine lv_iload_n cx.1 cx.2.1 dX12_makeLengths_243 rfl (lv_at hl 2 rfl) ?_
    obtain ⟨x57, g56, hc58, hr⟩ := of_bnd2 hr
    refine r_i dy (k_V (As := [.int x44, .int x41]) (b := k39) (ci := 12) cx fx dy (c_X12_farOf hc58) mv_X12_farOf rfl rfl ⟨Nat.le_trans (by decide) hR.1, Nat.le_trans (by decide) hR.2⟩ tb_1195 hv47 rfl (by decide) rfl hl.1 rfl (Nat.le_of_ble_eq_true rfl) ⟨Nat.zero_le _, Nat.zero_le _⟩ dX12_makeLengths_244) (fun H locs dy => ?_)
    refine lv_iadd cx.1 cx.2.1 dX12_makeLengths_247 ?_
    refine lv_goto (tgt := 252) cx.1 cx.2.1 dX12_makeLengths_248 (by decide) ?_
    obtain ⟨x59, ex59, hr⟩ := of_nm hr
    refine lv_nmi ex59 ?_
    refine lv_istore_n (lv' := [(3, .int x59), (0, .ref (ad k39)), (1, .int x40), (2, .int x41), (4, .int x43), (5, .int x44), (7, .int x45)]) cx.1 cx.2.1 dX12_makeLengths_252 rfl hl (by decide) rfl (fun ls hl => ?_)
    obtain ⟨x60, ex60, hr⟩ := of_nm hr
    refine lv_iinc (v := x60) (lv' := [(5, .int x60), (3, .int x59), (0, .ref (ad k39)), (1, .int x40), (2, .int x41), (4, .int x43), (7, .int x45)]) cx.1 cx.2.1 dX12_makeLengths_253 hl (k := 5) rfl (by rw [ex60]; rfl) (by decide) rfl (fun ls hl => ?_)
    refine lv_goto (tgt := 27) cx.1 cx.2.1 dX12_makeLengths_256 (by decide) ?_
    exact hh0 k39 x40 x41 x59 x43 x60 g56 (Option.some.inj hr).symm H locs ls dy (lv_sub hl [2, 3, 4, 1, 5, 0] rfl)
noncomputable def r_X12_makeLengths_153 (V : Vk) (k72 : Nat) (x73 : Int32) (x74 : Int32) (x75 : Int32) (x76 : Int32) (x77 : Int32) (x78 : Int32) (x79 : Int32) (x80 : Int32) (g81 : Hq) : Option ((Nat × Int32 × Int32 × Int32 × Int32 × Int32 × Int32 × Int32 × Int32 × Hq) ⊕ ((Nat × Int32 × Int32 × Int32 × Int32 × Int32 × Hq) ⊕ ((Nat × Int32 × Hq) ⊕ (Unit × Hq)))) :=
  grd (V k72 = some (12, 0)) <| Option.bind (g81.2.2 k72 16) fun k83 => grd (okV V k83 0 (((10 : Int32) * x78) + x80)) <| bnd (r_X12_farOf V k72 x80 x77 g81) fun x87 g86 => brn (x79 ≤ ((g81.1 k83 (((10 : Int32) * x78) + x80).toNatClampNeg) + x87)) (nm (x80 + (1 : Int32)) fun x89 => some (.inl (k72, x73, x74, x75, x76, x77, x78, x79, x89, g86))) (Option.bind (g86.2.2 k72 16) fun k90 => grd (okV V k90 0 (((10 : Int32) * x78) + x80)) <| bnd (r_X12_farOf V k72 x80 x77 g86) fun x94 g93 => nm ((g86.1 k90 (((10 : Int32) * x78) + x80).toNatClampNeg) + x94) fun x96 => nm (x80 + (1 : Int32)) fun x97 => some (.inl (k72, x73, x74, x75, x76, x77, x78, x96, x97, g93)))
set_option maxHeartbeats 4000000 in
set_option maxRecDepth 100000 in
theorem w_X12_makeLengths_153 {p : Program} {l : Launch} {e : Env} {R : Room} {s : State} {m : MethodId} {args : Array Value} {below : List Frame} {meth : Method} {c : Code} {D : va_G} {cA : Nat → ClassId} {sk : (Nat → Nat) × (Nat → Nat)} {ad : Nat → Nat} {A : Nat → Prop} {V : Vk} (cx : CallFix p m c cX12_makeLengths 9 s args gw_tbl RX12) (fx : Fx D cA sk A s) (hlocks : meth.locks = false) (hret : meth.sig.returnType = none) (hR : 1 ≤ R.frames ∧ 22 ≤ R.locals) (g0 : Hq) (z : ((Nat × Int32 × Int32 × Int32 × Int32 × Int32 × Int32 × Int32 × Int32 × Hq) ⊕ ((Nat × Int32 × Int32 × Int32 × Int32 × Int32 × Hq) ⊕ ((Nat × Int32 × Hq) ⊕ (Unit × Hq))))) (hk0 : ∀ (b0 : Nat) (b1 : Int32) (b2 : Int32) (b3 : Int32) (b4 : Int32) (b5 : Int32) (b6 : Int32) (b7 : Int32) (b8 : Int32) (gb : Hq), z = (.inl (b0, b1, b2, b3, b4, b5, b6, b7, b8, gb)) → ∀ (H : Heap) (locs : List Loc) (ls : Array Slot), Dy D cA ad (V, gb) A s.heap H locs → lv_has ls 9 [(0, .ref (ad b0)), (1, .int b1), (2, .int b2), (3, .int b3), (4, .int b4), (5, .int b5), (6, .int b6), (7, .int b7), (8, .int b8)] → W p l e R s m args below meth c H locs 0 0 (MQ below (QV D cA ad A (V, g0)) args s 0 0 A) (F0 m 119 ls [])) (hk1 : ∀ (b0 : Nat) (b1 : Int32) (b2 : Int32) (b3 : Int32) (b4 : Int32) (b5 : Int32) (gb : Hq), z = (.inr (.inl (b0, b1, b2, b3, b4, b5, gb))) → ∀ (H : Heap) (locs : List Loc) (ls : Array Slot), Dy D cA ad (V, gb) A s.heap H locs → lv_has ls 9 [(0, .ref (ad b0)), (1, .int b1), (2, .int b2), (3, .int b3), (4, .int b4), (5, .int b5)] → W p l e R s m args below meth c H locs 0 0 (MQ below (QV D cA ad A (V, g0)) args s 0 0 A) (F0 m 27 ls [])) (hk2 : ∀ (b0 : Nat) (b1 : Int32) (gb : Hq), z = (.inr (.inr (.inl (b0, b1, gb)))) → ∀ (H : Heap) (locs : List Loc) (ls : Array Slot), Dy D cA ad (V, gb) A s.heap H locs → lv_has ls 9 [(0, .ref (ad b0)), (1, .int b1)] → W p l e R s m args below meth c H locs 0 0 (MQ below (QV D cA ad A (V, g0)) args s 0 0 A) (F0 m 2 ls [])) (hq : ∀ (rb : Unit) (gb : Hq), z = (.inr (.inr (.inr (rb, gb)))) → gb = g0) (k72 : Nat) (x73 : Int32) (x74 : Int32) (x75 : Int32) (x76 : Int32) (x77 : Int32) (x78 : Int32) (x79 : Int32) (x80 : Int32) (g81 : Hq) (hr : r_X12_makeLengths_153 V k72 x73 x74 x75 x76 x77 x78 x79 x80 g81 = some z) (H : Heap) (locs : List Loc) (ls : Array Slot) (dy : Dy D cA ad (V, g81) A s.heap H locs) (hl : lv_has ls 9 [(0, .ref (ad k72)), (1, .int x73), (2, .int x74), (3, .int x75), (4, .int x76), (5, .int x77), (6, .int x78), (7, .int x79), (8, .int x80)]) : W p l e R s m args below meth c H locs 0 0 (MQ below (QV D cA ad A (V, g0)) args s 0 0 A) (F0 m 153 ls []) := by
  unfold r_X12_makeLengths_153 at hr
  have hh0 := hk0
  have hh1 := hk1
  have hh2 := hk2
  have hq0 := hq
  refine lv_aload_n cx.1 cx.2.1 dX12_makeLengths_153 rfl (lv_at hl 0 rfl) ?_
  obtain ⟨hv82, hr⟩ := of_grd hr
  obtain ⟨k83, hf84, hr⟩ := of_bnd hr
  refine h_getR cx fx dy fd_12_16 hv82 tb_1002 hf84 dX12_makeLengths_154 ?_
  refine lv_bipush (v := 10) cx.1 cx.2.1 dX12_makeLengths_157 (by decide) ?_
  refine lv_iload cx.1 cx.2.1 dX12_makeLengths_159 (lv_at hl 6 rfl) ?_
  refine lv_imul cx.1 cx.2.1 dX12_makeLengths_161 ?_
  refine lv_iload cx.1 cx.2.1 dX12_makeLengths_162 (lv_at hl 8 rfl) ?_
  refine lv_iadd cx.1 cx.2.1 dX12_makeLengths_164 ?_
  obtain ⟨ha85, hr⟩ := of_grd hr
  refine h_iald cx fx dy ha85 dX12_makeLengths_165 ?_
  refine lv_aload_n cx.1 cx.2.1 dX12_makeLengths_166 rfl (lv_at hl 0 rfl) ?_
  refine lv_iload cx.1 cx.2.1 dX12_makeLengths_167 (lv_at hl 8 rfl) ?_
  refine lv_iload cx.1 cx.2.1 dX12_makeLengths_169 (lv_at hl 5 rfl) ?_
  obtain ⟨x87, g86, hc88, hr⟩ := of_bnd2 hr
  refine r_i dy (k_V (As := [.int x80, .int x77]) (b := k72) (ci := 12) cx fx dy (c_X12_farOf hc88) mv_X12_farOf rfl rfl ⟨Nat.le_trans (by decide) hR.1, Nat.le_trans (by decide) hR.2⟩ tb_1195 hv82 rfl (by decide) rfl hl.1 rfl (Nat.le_of_ble_eq_true rfl) ⟨Nat.zero_le _, Nat.zero_le _⟩ dX12_makeLengths_171) (fun H locs dy => ?_)
  refine lv_iadd cx.1 cx.2.1 dX12_makeLengths_174 ?_
  refine lv_iload cx.1 cx.2.1 dX12_makeLengths_175 (lv_at hl 7 rfl) ?_
  rcases of_brn hr with ⟨hc, hr⟩ | ⟨hc, hr⟩
  · refine lv_icmp_ge (tgt := 204) cx.1 cx.2.1 dX12_makeLengths_177 (by decide) (fun _ => ?_) (fun hn => absurd hc hn)
    obtain ⟨x89, ex89, hr⟩ := of_nm hr
    refine lv_iinc (v := x89) (lv' := [(8, .int x89), (0, .ref (ad k72)), (1, .int x73), (2, .int x74), (3, .int x75), (4, .int x76), (5, .int x77), (6, .int x78), (7, .int x79)]) cx.1 cx.2.1 dX12_makeLengths_204 hl (k := 8) rfl (by rw [ex89]; rfl) (by decide) rfl (fun ls hl => ?_)
    refine lv_goto (tgt := 119) cx.1 cx.2.1 dX12_makeLengths_207 (by decide) ?_
    exact hh0 k72 x73 x74 x75 x76 x77 x78 x79 x89 g86 (Option.some.inj hr).symm H locs ls dy (lv_sub hl [1, 2, 3, 4, 5, 6, 7, 8, 0] rfl)
  · refine lv_icmp_ge (tgt := 204) cx.1 cx.2.1 dX12_makeLengths_177 (by decide) (fun hn => absurd hn hc) (fun _ => ?_)
    refine lv_aload_n cx.1 cx.2.1 dX12_makeLengths_180 rfl (lv_at hl 0 rfl) ?_
    obtain ⟨k90, hf91, hr⟩ := of_bnd hr
    refine h_getR cx fx dy fd_12_16 hv82 tb_1002 hf91 dX12_makeLengths_181 ?_
    refine lv_bipush (v := 10) cx.1 cx.2.1 dX12_makeLengths_184 (by decide) ?_
    refine lv_iload cx.1 cx.2.1 dX12_makeLengths_186 (lv_at hl 6 rfl) ?_
    refine lv_imul cx.1 cx.2.1 dX12_makeLengths_188 ?_
    refine lv_iload cx.1 cx.2.1 dX12_makeLengths_189 (lv_at hl 8 rfl) ?_
    refine lv_iadd cx.1 cx.2.1 dX12_makeLengths_191 ?_
    obtain ⟨ha92, hr⟩ := of_grd hr
    refine h_iald cx fx dy ha92 dX12_makeLengths_192 ?_
    refine lv_aload_n cx.1 cx.2.1 dX12_makeLengths_193 rfl (lv_at hl 0 rfl) ?_
    refine lv_iload cx.1 cx.2.1 dX12_makeLengths_194 (lv_at hl 8 rfl) ?_
    refine lv_iload cx.1 cx.2.1 dX12_makeLengths_196 (lv_at hl 5 rfl) ?_
    obtain ⟨x94, g93, hc95, hr⟩ := of_bnd2 hr
    refine r_i dy (k_V (As := [.int x80, .int x77]) (b := k72) (ci := 12) cx fx dy (c_X12_farOf hc95) mv_X12_farOf rfl rfl ⟨Nat.le_trans (by decide) hR.1, Nat.le_trans (by decide) hR.2⟩ tb_1195 hv82 rfl (by decide) rfl hl.1 rfl (Nat.le_of_ble_eq_true rfl) ⟨Nat.zero_le _, Nat.zero_le _⟩ dX12_makeLengths_198) (fun H locs dy => ?_)
    refine lv_iadd cx.1 cx.2.1 dX12_makeLengths_201 ?_
    obtain ⟨x96, ex96, hr⟩ := of_nm hr
    refine lv_nmi ex96 ?_
    refine lv_istore (lv' := [(7, .int x96), (0, .ref (ad k72)), (1, .int x73), (2, .int x74), (3, .int x75), (4, .int x76), (5, .int x77), (6, .int x78), (8, .int x80)]) cx.1 cx.2.1 dX12_makeLengths_202 hl (by decide) rfl (fun ls hl => ?_)
    obtain ⟨x97, ex97, hr⟩ := of_nm hr
    refine lv_iinc (v := x97) (lv' := [(8, .int x97), (7, .int x96), (0, .ref (ad k72)), (1, .int x73), (2, .int x74), (3, .int x75), (4, .int x76), (5, .int x77), (6, .int x78)]) cx.1 cx.2.1 dX12_makeLengths_204 hl (k := 8) rfl (by rw [ex97]; rfl) (by decide) rfl (fun ls hl => ?_)
    refine lv_goto (tgt := 119) cx.1 cx.2.1 dX12_makeLengths_207 (by decide) ?_
    exact hh0 k72 x73 x74 x75 x76 x77 x78 x96 x97 g93 (Option.some.inj hr).symm H locs ls dy (lv_sub hl [2, 3, 4, 5, 6, 7, 8, 1, 0] rfl)
noncomputable def r_X12_makeLengths_119' (V : Vk) (k61 : Nat) (x62 : Int32) (x63 : Int32) (x64 : Int32) (x65 : Int32) (x66 : Int32) (x67 : Int32) (x68 : Int32) (x69 : Int32) (g70 : Hq) : Option ((Nat × Int32 × Int32 × Int32 × Int32 × Int32 × Int32 × Int32 × Int32 × Hq) ⊕ ((Nat × Int32 × Int32 × Int32 × Int32 × Int32 × Hq) ⊕ ((Nat × Int32 × Hq) ⊕ (Unit × Hq)))) :=
  grd (V k61 = some (12, 0)) <| brn ((g70.1 k61 15) ≤ x69) ((Option.map Sum.inr (r_X12_makeLengths_210 V k61 x62 x63 x64 x65 x66 x68 g70))) (brn (((x67 >>> (x69 &&& 31)) &&& (1 : Int32)) = (1 : Int32)) (brn (x69 = x63) (brn (x67 = ((1 : Int32) <<< (x63 &&& 31))) ((r_X12_makeLengths_153 V k61 x62 x63 x64 x65 x66 x67 x68 x69 g70)) (nm (x69 + (1 : Int32)) fun x98 => some (.inl (k61, x62, x63, x64, x65, x66, x67, x68, x98, g70)))) ((r_X12_makeLengths_153 V k61 x62 x63 x64 x65 x66 x67 x68 x69 g70))) (nm (x69 + (1 : Int32)) fun x99 => some (.inl (k61, x62, x63, x64, x65, x66, x67, x68, x99, g70))))
noncomputable def r_X12_makeLengths_119 (V : Vk) (st : (Nat × Int32 × Int32 × Int32 × Int32 × Int32 × Int32 × Int32 × Int32 × Hq)) : Option ((Nat × Int32 × Int32 × Int32 × Int32 × Int32 × Int32 × Int32 × Int32 × Hq) ⊕ ((Nat × Int32 × Int32 × Int32 × Int32 × Int32 × Hq) ⊕ ((Nat × Int32 × Hq) ⊕ (Unit × Hq)))) := r_X12_makeLengths_119' V st.1 st.2.1 st.2.2.1 st.2.2.2.1 st.2.2.2.2.1 st.2.2.2.2.2.1 st.2.2.2.2.2.2.1 st.2.2.2.2.2.2.2.1 st.2.2.2.2.2.2.2.2.1 st.2.2.2.2.2.2.2.2.2
set_option maxHeartbeats 4000000 in
set_option maxRecDepth 100000 in
theorem w_X12_makeLengths_119 {p : Program} {l : Launch} {e : Env} {R : Room} {s : State} {m : MethodId} {args : Array Value} {below : List Frame} {meth : Method} {c : Code} {D : va_G} {cA : Nat → ClassId} {sk : (Nat → Nat) × (Nat → Nat)} {ad : Nat → Nat} {A : Nat → Prop} {V : Vk} (cx : CallFix p m c cX12_makeLengths 9 s args gw_tbl RX12) (fx : Fx D cA sk A s) (hlocks : meth.locks = false) (hret : meth.sig.returnType = none) (hR : 1 ≤ R.frames ∧ 22 ≤ R.locals) (g0 : Hq) (y : ((Nat × Int32 × Int32 × Int32 × Int32 × Int32 × Hq) ⊕ ((Nat × Int32 × Hq) ⊕ (Unit × Hq)))) (hk0 : ∀ (b0 : Nat) (b1 : Int32) (b2 : Int32) (b3 : Int32) (b4 : Int32) (b5 : Int32) (gb : Hq), y = (.inl (b0, b1, b2, b3, b4, b5, gb)) → ∀ (H : Heap) (locs : List Loc) (ls : Array Slot), Dy D cA ad (V, gb) A s.heap H locs → lv_has ls 9 [(0, .ref (ad b0)), (1, .int b1), (2, .int b2), (3, .int b3), (4, .int b4), (5, .int b5)] → W p l e R s m args below meth c H locs 0 0 (MQ below (QV D cA ad A (V, g0)) args s 0 0 A) (F0 m 27 ls [])) (hk1 : ∀ (b0 : Nat) (b1 : Int32) (gb : Hq), y = (.inr (.inl (b0, b1, gb))) → ∀ (H : Heap) (locs : List Loc) (ls : Array Slot), Dy D cA ad (V, gb) A s.heap H locs → lv_has ls 9 [(0, .ref (ad b0)), (1, .int b1)] → W p l e R s m args below meth c H locs 0 0 (MQ below (QV D cA ad A (V, g0)) args s 0 0 A) (F0 m 2 ls [])) (hq : ∀ (rb : Unit) (gb : Hq), y = (.inr (.inr (rb, gb))) → gb = g0) : ∀ (n : Nat) (k61 : Nat) (x62 : Int32) (x63 : Int32) (x64 : Int32) (x65 : Int32) (x66 : Int32) (x67 : Int32) (x68 : Int32) (x69 : Int32) (g70 : Hq), itr (r_X12_makeLengths_119 V) n (k61, x62, x63, x64, x65, x66, x67, x68, x69, g70) = some y → ∀ (H : Heap) (locs : List Loc) (ls : Array Slot), Dy D cA ad (V, g70) A s.heap H locs → lv_has ls 9 [(0, .ref (ad k61)), (1, .int x62), (2, .int x63), (3, .int x64), (4, .int x65), (5, .int x66), (6, .int x67), (7, .int x68), (8, .int x69)] → W p l e R s m args below meth c H locs 0 0 (MQ below (QV D cA ad A (V, g0)) args s 0 0 A) (F0 m 119 ls []) := by
  intro n
  induction n with
  | zero => intro k61 x62 x63 x64 x65 x66 x67 x68 x69 g70 hr; cases hr
  | succ n ih =>
    intro k61 x62 x63 x64 x65 x66 x67 x68 x69 g70 hr H locs ls dy hl
    obtain ⟨z, hz, hn1, hn2⟩ := itr_succ hr
    clear hr
    have hr : r_X12_makeLengths_119' V k61 x62 x63 x64 x65 x66 x67 x68 x69 g70 = some z := hz
    clear hz
    unfold r_X12_makeLengths_119' at hr
    have hh0 : ∀ (b0 : Nat) (b1 : Int32) (b2 : Int32) (b3 : Int32) (b4 : Int32) (b5 : Int32) (b6 : Int32) (b7 : Int32) (b8 : Int32) (gb : Hq), z = .inl (b0, b1, b2, b3, b4, b5, b6, b7, b8, gb) → ∀ (H : Heap) (locs : List Loc) (ls : Array Slot), Dy D cA ad (V, gb) A s.heap H locs → lv_has ls 9 [(0, .ref (ad b0)), (1, .int b1), (2, .int b2), (3, .int b3), (4, .int b4), (5, .int b5), (6, .int b6), (7, .int b7), (8, .int b8)] → W p l e R s m args below meth c H locs 0 0 (MQ below (QV D cA ad A (V, g0)) args s 0 0 A) (F0 m 119 ls []) := fun b0 b1 b2 b3 b4 b5 b6 b7 b8 gb eb => ih b0 b1 b2 b3 b4 b5 b6 b7 b8 gb (hn1 _ eb)
    have hh1 : ∀ (b0 : Nat) (b1 : Int32) (b2 : Int32) (b3 : Int32) (b4 : Int32) (b5 : Int32) (gb : Hq), z = (.inr (.inl (b0, b1, b2, b3, b4, b5, gb))) → ∀ (H : Heap) (locs : List Loc) (ls : Array Slot), Dy D cA ad (V, gb) A s.heap H locs → lv_has ls 9 [(0, .ref (ad b0)), (1, .int b1), (2, .int b2), (3, .int b3), (4, .int b4), (5, .int b5)] → W p l e R s m args below meth c H locs 0 0 (MQ below (QV D cA ad A (V, g0)) args s 0 0 A) (F0 m 27 ls []) := fun b0 b1 b2 b3 b4 b5 gb eb => hk0 b0 b1 b2 b3 b4 b5 gb (hn2 _ eb).symm
    have hh2 : ∀ (b0 : Nat) (b1 : Int32) (gb : Hq), z = (.inr (.inr (.inl (b0, b1, gb)))) → ∀ (H : Heap) (locs : List Loc) (ls : Array Slot), Dy D cA ad (V, gb) A s.heap H locs → lv_has ls 9 [(0, .ref (ad b0)), (1, .int b1)] → W p l e R s m args below meth c H locs 0 0 (MQ below (QV D cA ad A (V, g0)) args s 0 0 A) (F0 m 2 ls []) := fun b0 b1 gb eb => hk1 b0 b1 gb (hn2 _ eb).symm
    have hq0 : ∀ (rb : Unit) (gb : Hq), z = (.inr (.inr (.inr (rb, gb)))) → gb = g0 := fun rb gb eb => hq rb gb (hn2 _ eb).symm
    refine lv_iload cx.1 cx.2.1 dX12_makeLengths_119 (lv_at hl 8 rfl) ?_
    refine lv_aload_n cx.1 cx.2.1 dX12_makeLengths_121 rfl (lv_at hl 0 rfl) ?_
    obtain ⟨hv71, hr⟩ := of_grd hr
    refine h_getI cx fx dy fd_12_15 hv71 tb_1001 dX12_makeLengths_122 ?_
    rcases of_brn hr with ⟨hc, hr⟩ | ⟨hc, hr⟩
    · refine lv_icmp_ge (tgt := 210) cx.1 cx.2.1 dX12_makeLengths_125 (by decide) (fun _ => ?_) (fun hn => absurd hc hn)
      obtain ⟨z1, hr, ez1⟩ := of_map hr
      exact w_X12_makeLengths_210 cx fx hlocks hret hR g0 z1 (fun b0 b1 b2 b3 b4 b5 gb eb => hh1 b0 b1 b2 b3 b4 b5 gb (by rw [ez1, eb])) (fun b0 b1 gb eb => hh2 b0 b1 gb (by rw [ez1, eb])) (fun rb gb eb => hq0 rb gb (by rw [ez1, eb])) k61 x62 x63 x64 x65 x66 x68 g70 hr H locs ls dy (lv_sub hl [0, 1, 2, 3, 4, 5, 7] rfl)
    · refine lv_icmp_ge (tgt := 210) cx.1 cx.2.1 dX12_makeLengths_125 (by decide) (fun hn => absurd hn hc) (fun _ => ?_)
      refine lv_iload cx.1 cx.2.1 dX12_makeLengths_128 (lv_at hl 6 rfl) ?_
      refine lv_iload cx.1 cx.2.1 dX12_makeLengths_130 (lv_at hl 8 rfl) ?_
      refine lv_ishr cx.1 cx.2.1 dX12_makeLengths_132 ?_
      refine lv_iconst (v := 1) cx.1 cx.2.1 dX12_makeLengths_133 (by decide) ?_
      refine lv_iand cx.1 cx.2.1 dX12_makeLengths_134 ?_
      refine lv_iconst (v := 1) cx.1 cx.2.1 dX12_makeLengths_135 (by decide) ?_
      rcases of_brn hr with ⟨hc, hr⟩ | ⟨hc, hr⟩
      · refine lv_icmp_ne (tgt := 204) cx.1 cx.2.1 dX12_makeLengths_136 (by decide) (fun hn => absurd hc hn) (fun _ => ?_)
        refine lv_iload cx.1 cx.2.1 dX12_makeLengths_139 (lv_at hl 8 rfl) ?_
        refine lv_iload_n cx.1 cx.2.1 dX12_makeLengths_141 rfl (lv_at hl 2 rfl) ?_
        rcases of_brn hr with ⟨hc, hr⟩ | ⟨hc, hr⟩
        · refine lv_icmp_ne (tgt := 153) cx.1 cx.2.1 dX12_makeLengths_142 (by decide) (fun hn => absurd hc hn) (fun _ => ?_)
          refine lv_iload cx.1 cx.2.1 dX12_makeLengths_145 (lv_at hl 6 rfl) ?_
          refine lv_iconst (v := 1) cx.1 cx.2.1 dX12_makeLengths_147 (by decide) ?_
          refine lv_iload_n cx.1 cx.2.1 dX12_makeLengths_148 rfl (lv_at hl 2 rfl) ?_
          refine lv_ishl cx.1 cx.2.1 dX12_makeLengths_149 ?_
          rcases of_brn hr with ⟨hc, hr⟩ | ⟨hc, hr⟩
          · refine lv_icmp_ne (tgt := 204) cx.1 cx.2.1 dX12_makeLengths_150 (by decide) (fun hn => absurd hc hn) (fun _ => ?_)
            exact w_X12_makeLengths_153 cx fx hlocks hret hR g0 z hh0 hh1 hh2 hq0 k61 x62 x63 x64 x65 x66 x67 x68 x69 g70 hr H locs ls dy (lv_sub hl [0, 1, 2, 3, 4, 5, 6, 7, 8] rfl)
          · refine lv_icmp_ne (tgt := 204) cx.1 cx.2.1 dX12_makeLengths_150 (by decide) (fun _ => ?_) (fun hn => absurd hn hc)
            obtain ⟨x98, ex98, hr⟩ := of_nm hr
            refine lv_iinc (v := x98) (lv' := [(8, .int x98), (0, .ref (ad k61)), (1, .int x62), (2, .int x63), (3, .int x64), (4, .int x65), (5, .int x66), (6, .int x67), (7, .int x68)]) cx.1 cx.2.1 dX12_makeLengths_204 hl (k := 8) rfl (by rw [ex98]; rfl) (by decide) rfl (fun ls hl => ?_)
            refine lv_goto (tgt := 119) cx.1 cx.2.1 dX12_makeLengths_207 (by decide) ?_
            exact hh0 k61 x62 x63 x64 x65 x66 x67 x68 x98 g70 (Option.some.inj hr).symm H locs ls dy (lv_sub hl [1, 2, 3, 4, 5, 6, 7, 8, 0] rfl)
        · refine lv_icmp_ne (tgt := 153) cx.1 cx.2.1 dX12_makeLengths_142 (by decide) (fun _ => ?_) (fun hn => absurd hn hc)
          exact w_X12_makeLengths_153 cx fx hlocks hret hR g0 z hh0 hh1 hh2 hq0 k61 x62 x63 x64 x65 x66 x67 x68 x69 g70 hr H locs ls dy (lv_sub hl [0, 1, 2, 3, 4, 5, 6, 7, 8] rfl)
      · refine lv_icmp_ne (tgt := 204) cx.1 cx.2.1 dX12_makeLengths_136 (by decide) (fun _ => ?_) (fun hn => absurd hn hc)
        obtain ⟨x99, ex99, hr⟩ := of_nm hr
        refine lv_iinc (v := x99) (lv' := [(8, .int x99), (0, .ref (ad k61)), (1, .int x62), (2, .int x63), (3, .int x64), (4, .int x65), (5, .int x66), (6, .int x67), (7, .int x68)]) cx.1 cx.2.1 dX12_makeLengths_204 hl (k := 8) rfl (by rw [ex99]; rfl) (by decide) rfl (fun ls hl => ?_)
        refine lv_goto (tgt := 119) cx.1 cx.2.1 dX12_makeLengths_207 (by decide) ?_
        exact hh0 k61 x62 x63 x64 x65 x66 x67 x68 x99 g70 (Option.some.inj hr).symm H locs ls dy (lv_sub hl [1, 2, 3, 4, 5, 6, 7, 8, 0] rfl)
noncomputable def r_X12_makeLengths_82 (V : Vk) (k31 : Nat) (x32 : Int32) (x33 : Int32) (x34 : Int32) (x35 : Int32) (x36 : Int32) (g37 : Hq) : Option ((Nat × Int32 × Int32 × Int32 × Int32 × Int32 × Hq) ⊕ ((Nat × Int32 × Hq) ⊕ (Unit × Hq))) :=
  nm (x32 &&& (((1 : Int32) <<< (x35 &&& 31)) ^^^ (-1 : Int32))) fun x38 => brn (x32 = ((1 : Int32) <<< (x35 &&& 31))) (brn (x35 = x33) ((r_X12_makeLengths_210 V k31 x32 x33 x34 x36 x35 (0 : Int32) g37)) ((lop (r_X12_makeLengths_119 V) (k31, x32, x33, x34, x36, x35, x38, (0 : Int32), (0 : Int32), g37)))) (brn (x35 = x33) ((r_X12_makeLengths_210 V k31 x32 x33 x34 x36 x35 (1000000 : Int32) g37)) ((lop (r_X12_makeLengths_119 V) (k31, x32, x33, x34, x36, x35, x38, (1000000 : Int32), (0 : Int32), g37))))
set_option maxHeartbeats 4000000 in
set_option maxRecDepth 100000 in
theorem w_X12_makeLengths_82 {p : Program} {l : Launch} {e : Env} {R : Room} {s : State} {m : MethodId} {args : Array Value} {below : List Frame} {meth : Method} {c : Code} {D : va_G} {cA : Nat → ClassId} {sk : (Nat → Nat) × (Nat → Nat)} {ad : Nat → Nat} {A : Nat → Prop} {V : Vk} (cx : CallFix p m c cX12_makeLengths 9 s args gw_tbl RX12) (fx : Fx D cA sk A s) (hlocks : meth.locks = false) (hret : meth.sig.returnType = none) (hR : 1 ≤ R.frames ∧ 22 ≤ R.locals) (g0 : Hq) (z : ((Nat × Int32 × Int32 × Int32 × Int32 × Int32 × Hq) ⊕ ((Nat × Int32 × Hq) ⊕ (Unit × Hq)))) (hk0 : ∀ (b0 : Nat) (b1 : Int32) (b2 : Int32) (b3 : Int32) (b4 : Int32) (b5 : Int32) (gb : Hq), z = (.inl (b0, b1, b2, b3, b4, b5, gb)) → ∀ (H : Heap) (locs : List Loc) (ls : Array Slot), Dy D cA ad (V, gb) A s.heap H locs → lv_has ls 9 [(0, .ref (ad b0)), (1, .int b1), (2, .int b2), (3, .int b3), (4, .int b4), (5, .int b5)] → W p l e R s m args below meth c H locs 0 0 (MQ below (QV D cA ad A (V, g0)) args s 0 0 A) (F0 m 27 ls [])) (hk1 : ∀ (b0 : Nat) (b1 : Int32) (gb : Hq), z = (.inr (.inl (b0, b1, gb))) → ∀ (H : Heap) (locs : List Loc) (ls : Array Slot), Dy D cA ad (V, gb) A s.heap H locs → lv_has ls 9 [(0, .ref (ad b0)), (1, .int b1)] → W p l e R s m args below meth c H locs 0 0 (MQ below (QV D cA ad A (V, g0)) args s 0 0 A) (F0 m 2 ls [])) (hq : ∀ (rb : Unit) (gb : Hq), z = (.inr (.inr (rb, gb))) → gb = g0) (k31 : Nat) (x32 : Int32) (x33 : Int32) (x34 : Int32) (x35 : Int32) (x36 : Int32) (g37 : Hq) (hr : r_X12_makeLengths_82 V k31 x32 x33 x34 x35 x36 g37 = some z) (H : Heap) (locs : List Loc) (ls : Array Slot) (dy : Dy D cA ad (V, g37) A s.heap H locs) (hl : lv_has ls 9 [(0, .ref (ad k31)), (1, .int x32), (2, .int x33), (3, .int x34), (5, .int x35)]) : W p l e R s m args below meth c H locs 0 0 (MQ below (QV D cA ad A (V, g0)) args s 0 0 A) (F0 m 82 ls [.int x36]) := by
  unfold r_X12_makeLengths_82 at hr
  have hh0 := hk0
  have hh1 := hk1
  have hq0 := hq
  refine lv_istore (lv' := [(4, .int x36), (0, .ref (ad k31)), (1, .int x32), (2, .int x33), (3, .int x34), (5, .int x35)]) cx.1 cx.2.1 dX12_makeLengths_82 hl (by decide) rfl (fun ls hl => ?_)
  refine lv_iload_n cx.1 cx.2.1 dX12_makeLengths_84 rfl (lv_at hl 2 rfl) ?_
  refine lv_iconst (v := 1) cx.1 cx.2.1 dX12_makeLengths_85 (by decide) ?_
  refine lv_iload cx.1 cx.2.1 dX12_makeLengths_86 (lv_at hl 5 rfl) ?_
  refine lv_ishl cx.1 cx.2.1 dX12_makeLengths_88 ?_
  refine lv_iconst (v := (-1)) cx.1 cx.2.1 dX12_makeLengths_89 (by decide) ?_
  refine lv_ixor cx.1 cx.2.1 dX12_makeLengths_90 ?_
  refine lv_iand cx.1 cx.2.1 dX12_makeLengths_91 ?_
  obtain ⟨x38, ex38, hr⟩ := of_nm hr
  refine lv_nmi ex38 ?_
  refine lv_istore (lv' := [(6, .int x38), (4, .int x36), (0, .ref (ad k31)), (1, .int x32), (2, .int x33), (3, .int x34), (5, .int x35)]) cx.1 cx.2.1 dX12_makeLengths_92 hl (by decide) rfl (fun ls hl => ?_)
  refine lv_iload_n cx.1 cx.2.1 dX12_makeLengths_94 rfl (lv_at hl 3 rfl) ?_
  refine lv_iconst (v := 1) cx.1 cx.2.1 dX12_makeLengths_95 (by decide) ?_
  refine lv_iload cx.1 cx.2.1 dX12_makeLengths_96 (lv_at hl 6 rfl) ?_
  refine lv_ishl cx.1 cx.2.1 dX12_makeLengths_98 ?_
  rcases of_brn hr with ⟨hc, hr⟩ | ⟨hc, hr⟩
  · refine lv_icmp_ne (tgt := 106) cx.1 cx.2.1 dX12_makeLengths_99 (by decide) (fun hn => absurd hc hn) (fun _ => ?_)
    refine lv_iconst (v := 0) cx.1 cx.2.1 dX12_makeLengths_102 (by decide) ?_
    refine lv_goto (tgt := 108) cx.1 cx.2.1 dX12_makeLengths_103 (by decide) ?_
    refine lv_istore (lv' := [(7, .int (0 : Int32)), (6, .int x38), (4, .int x36), (0, .ref (ad k31)), (1, .int x32), (2, .int x33), (3, .int x34), (5, .int x35)]) cx.1 cx.2.1 dX12_makeLengths_108 hl (by decide) rfl (fun ls hl => ?_)
    refine lv_iload cx.1 cx.2.1 dX12_makeLengths_110 (lv_at hl 7 rfl) ?_
    refine lv_iload_n cx.1 cx.2.1 dX12_makeLengths_112 rfl (lv_at hl 5 rfl) ?_
    rcases of_brn hr with ⟨hc, hr⟩ | ⟨hc, hr⟩
    · refine lv_icmp_eq (tgt := 210) cx.1 cx.2.1 dX12_makeLengths_113 (by decide) (fun _ => ?_) (fun hn => absurd hc hn)
      exact w_X12_makeLengths_210 cx fx hlocks hret hR g0 z hh0 hh1 hq0 k31 x32 x33 x34 x36 x35 (0 : Int32) g37 hr H locs ls dy (lv_sub hl [3, 4, 5, 6, 2, 7, 0] rfl)
    · refine lv_icmp_eq (tgt := 210) cx.1 cx.2.1 dX12_makeLengths_113 (by decide) (fun hn => absurd hn hc) (fun _ => ?_)
      refine lv_iconst (v := 0) cx.1 cx.2.1 dX12_makeLengths_116 (by decide) ?_
      refine lv_istore (lv' := [(8, .int (0 : Int32)), (7, .int (0 : Int32)), (6, .int x38), (4, .int x36), (0, .ref (ad k31)), (1, .int x32), (2, .int x33), (3, .int x34), (5, .int x35)]) cx.1 cx.2.1 dX12_makeLengths_117 hl (by decide) rfl (fun ls hl => ?_)
      obtain ⟨n, hr⟩ := lop_some hr
      exact w_X12_makeLengths_119 cx fx hlocks hret hR g0 z hh0 hh1 hq0 n k31 x32 x33 x34 x36 x35 x38 (0 : Int32) (0 : Int32) g37 hr H locs ls dy (lv_sub hl [4, 5, 6, 7, 3, 8, 2, 1, 0] rfl)
  · refine lv_icmp_ne (tgt := 106) cx.1 cx.2.1 dX12_makeLengths_99 (by decide) (fun _ => ?_) (fun hn => absurd hn hc)
    refine lv_ldc (v := (1000000)) cx.1 cx.2.1 cx.2.2.2.1 (cx.2.2.2.2 _ tb_985) dX12_makeLengths_106 ?_
    refine lv_istore (lv' := [(7, .int (1000000 : Int32)), (6, .int x38), (4, .int x36), (0, .ref (ad k31)), (1, .int x32), (2, .int x33), (3, .int x34), (5, .int x35)]) cx.1 cx.2.1 dX12_makeLengths_108 hl (by decide) rfl (fun ls hl => ?_)
    refine lv_iload cx.1 cx.2.1 dX12_makeLengths_110 (lv_at hl 7 rfl) ?_
    refine lv_iload_n cx.1 cx.2.1 dX12_makeLengths_112 rfl (lv_at hl 5 rfl) ?_
    rcases of_brn hr with ⟨hc, hr⟩ | ⟨hc, hr⟩
    · refine lv_icmp_eq (tgt := 210) cx.1 cx.2.1 dX12_makeLengths_113 (by decide) (fun _ => ?_) (fun hn => absurd hc hn)
      exact w_X12_makeLengths_210 cx fx hlocks hret hR g0 z hh0 hh1 hq0 k31 x32 x33 x34 x36 x35 (1000000 : Int32) g37 hr H locs ls dy (lv_sub hl [3, 4, 5, 6, 2, 7, 0] rfl)
    · refine lv_icmp_eq (tgt := 210) cx.1 cx.2.1 dX12_makeLengths_113 (by decide) (fun hn => absurd hn hc) (fun _ => ?_)
      refine lv_iconst (v := 0) cx.1 cx.2.1 dX12_makeLengths_116 (by decide) ?_
      refine lv_istore (lv' := [(8, .int (0 : Int32)), (7, .int (1000000 : Int32)), (6, .int x38), (4, .int x36), (0, .ref (ad k31)), (1, .int x32), (2, .int x33), (3, .int x34), (5, .int x35)]) cx.1 cx.2.1 dX12_makeLengths_117 hl (by decide) rfl (fun ls hl => ?_)
      obtain ⟨n, hr⟩ := lop_some hr
      exact w_X12_makeLengths_119 cx fx hlocks hret hR g0 z hh0 hh1 hq0 n k31 x32 x33 x34 x36 x35 x38 (1000000 : Int32) (0 : Int32) g37 hr H locs ls dy (lv_sub hl [4, 5, 6, 7, 3, 8, 2, 1, 0] rfl)
noncomputable def r_X12_makeLengths_27' (V : Vk) (k8 : Nat) (x9 : Int32) (x10 : Int32) (x11 : Int32) (x12 : Int32) (x13 : Int32) (g14 : Hq) : Option ((Nat × Int32 × Int32 × Int32 × Int32 × Int32 × Hq) ⊕ ((Nat × Int32 × Hq) ⊕ (Unit × Hq))) :=
  grd (V k8 = some (12, 0)) <| brn ((g14.1 k8 15) ≤ x13) (Option.bind (g14.2.2 k8 17) fun k16 => brn (x11 ≤ x12) (grd (okV V k16 0 x9) <| nm (sI g14 k16 x9.toNatClampNeg x11) fun g19 => nm (x9 + (1 : Int32)) fun x20 => some (.inr (.inl (k8, x20, g19)))) (grd (okV V k16 0 x9) <| nm (sI g14 k16 x9.toNatClampNeg (1000000 : Int32)) fun g22 => nm (x9 + (1 : Int32)) fun x23 => some (.inr (.inl (k8, x23, g22))))) (brn (((x9 >>> (x13 &&& 31)) &&& (1 : Int32)) = 0) (nm (x13 + (1 : Int32)) fun x24 => some (.inl (k8, x9, x10, x11, x12, x24, g14))) (Option.bind (g14.2.2 k8 11) fun k25 => Option.bind (g14.2.2 k8 14) fun k27 => grd (okV V k27 0 x13) <| grd (okV V k25 0 (g14.1 k27 x13.toNatClampNeg)) <| brn (x12 ≤ (g14.1 k25 (g14.1 k27 x13.toNatClampNeg).toNatClampNeg)) ((r_X12_makeLengths_82 V k8 x9 x10 x11 x13 x12 g14)) (Option.bind (g14.2.2 k8 11) fun k100 => Option.bind (g14.2.2 k8 14) fun k102 => grd (okV V k102 0 x13) <| grd (okV V k100 0 (g14.1 k102 x13.toNatClampNeg)) <| (r_X12_makeLengths_82 V k8 x9 x10 x11 x13 (g14.1 k100 (g14.1 k102 x13.toNatClampNeg).toNatClampNeg) g14))))
noncomputable def r_X12_makeLengths_27 (V : Vk) (st : (Nat × Int32 × Int32 × Int32 × Int32 × Int32 × Hq)) : Option ((Nat × Int32 × Int32 × Int32 × Int32 × Int32 × Hq) ⊕ ((Nat × Int32 × Hq) ⊕ (Unit × Hq))) := r_X12_makeLengths_27' V st.1 st.2.1 st.2.2.1 st.2.2.2.1 st.2.2.2.2.1 st.2.2.2.2.2.1 st.2.2.2.2.2.2
set_option maxHeartbeats 4000000 in
set_option maxRecDepth 100000 in
theorem w_X12_makeLengths_27 {p : Program} {l : Launch} {e : Env} {R : Room} {s : State} {m : MethodId} {args : Array Value} {below : List Frame} {meth : Method} {c : Code} {D : va_G} {cA : Nat → ClassId} {sk : (Nat → Nat) × (Nat → Nat)} {ad : Nat → Nat} {A : Nat → Prop} {V : Vk} (cx : CallFix p m c cX12_makeLengths 9 s args gw_tbl RX12) (fx : Fx D cA sk A s) (hlocks : meth.locks = false) (hret : meth.sig.returnType = none) (hR : 1 ≤ R.frames ∧ 22 ≤ R.locals) (g0 : Hq) (y : ((Nat × Int32 × Hq) ⊕ (Unit × Hq))) (hk0 : ∀ (b0 : Nat) (b1 : Int32) (gb : Hq), y = (.inl (b0, b1, gb)) → ∀ (H : Heap) (locs : List Loc) (ls : Array Slot), Dy D cA ad (V, gb) A s.heap H locs → lv_has ls 9 [(0, .ref (ad b0)), (1, .int b1)] → W p l e R s m args below meth c H locs 0 0 (MQ below (QV D cA ad A (V, g0)) args s 0 0 A) (F0 m 2 ls [])) (hq : ∀ (rb : Unit) (gb : Hq), y = (.inr (rb, gb)) → gb = g0) : ∀ (n : Nat) (k8 : Nat) (x9 : Int32) (x10 : Int32) (x11 : Int32) (x12 : Int32) (x13 : Int32) (g14 : Hq), itr (r_X12_makeLengths_27 V) n (k8, x9, x10, x11, x12, x13, g14) = some y → ∀ (H : Heap) (locs : List Loc) (ls : Array Slot), Dy D cA ad (V, g14) A s.heap H locs → lv_has ls 9 [(0, .ref (ad k8)), (1, .int x9), (2, .int x10), (3, .int x11), (4, .int x12), (5, .int x13)] → W p l e R s m args below meth c H locs 0 0 (MQ below (QV D cA ad A (V, g0)) args s 0 0 A) (F0 m 27 ls []) := by
  intro n
  induction n with
  | zero => intro k8 x9 x10 x11 x12 x13 g14 hr; cases hr
  | succ n ih =>
    intro k8 x9 x10 x11 x12 x13 g14 hr H locs ls dy hl
    obtain ⟨z, hz, hn1, hn2⟩ := itr_succ hr
    clear hr
    have hr : r_X12_makeLengths_27' V k8 x9 x10 x11 x12 x13 g14 = some z := hz
    clear hz
    unfold r_X12_makeLengths_27' at hr
    have hh0 : ∀ (b0 : Nat) (b1 : Int32) (b2 : Int32) (b3 : Int32) (b4 : Int32) (b5 : Int32) (gb : Hq), z = .inl (b0, b1, b2, b3, b4, b5, gb) → ∀ (H : Heap) (locs : List Loc) (ls : Array Slot), Dy D cA ad (V, gb) A s.heap H locs → lv_has ls 9 [(0, .ref (ad b0)), (1, .int b1), (2, .int b2), (3, .int b3), (4, .int b4), (5, .int b5)] → W p l e R s m args below meth c H locs 0 0 (MQ below (QV D cA ad A (V, g0)) args s 0 0 A) (F0 m 27 ls []) := fun b0 b1 b2 b3 b4 b5 gb eb => ih b0 b1 b2 b3 b4 b5 gb (hn1 _ eb)
    have hh1 : ∀ (b0 : Nat) (b1 : Int32) (gb : Hq), z = (.inr (.inl (b0, b1, gb))) → ∀ (H : Heap) (locs : List Loc) (ls : Array Slot), Dy D cA ad (V, gb) A s.heap H locs → lv_has ls 9 [(0, .ref (ad b0)), (1, .int b1)] → W p l e R s m args below meth c H locs 0 0 (MQ below (QV D cA ad A (V, g0)) args s 0 0 A) (F0 m 2 ls []) := fun b0 b1 gb eb => hk0 b0 b1 gb (hn2 _ eb).symm
    have hq0 : ∀ (rb : Unit) (gb : Hq), z = (.inr (.inr (rb, gb))) → gb = g0 := fun rb gb eb => hq rb gb (hn2 _ eb).symm
    refine lv_iload cx.1 cx.2.1 dX12_makeLengths_27 (lv_at hl 5 rfl) ?_
    refine lv_aload_n cx.1 cx.2.1 dX12_makeLengths_29 rfl (lv_at hl 0 rfl) ?_
    obtain ⟨hv15, hr⟩ := of_grd hr
    refine h_getI cx fx dy fd_12_15 hv15 tb_1001 dX12_makeLengths_30 ?_
    rcases of_brn hr with ⟨hc, hr⟩ | ⟨hc, hr⟩
    · refine lv_icmp_ge (tgt := 259) cx.1 cx.2.1 dX12_makeLengths_33 (by decide) (fun _ => ?_) (fun hn => absurd hc hn)
      refine lv_aload_n cx.1 cx.2.1 dX12_makeLengths_259 rfl (lv_at hl 0 rfl) ?_
      obtain ⟨k16, hf17, hr⟩ := of_bnd hr
      refine h_getR cx fx dy fd_12_17 hv15 tb_1003 hf17 dX12_makeLengths_260 ?_
      refine lv_iload_n cx.1 cx.2.1 dX12_makeLengths_263 rfl (lv_at hl 1 rfl) ?_
      refine lv_iload_n cx.1 cx.2.1 dX12_makeLengths_264 rfl (lv_at hl 3 rfl) ?_
      refine lv_iload cx.1 cx.2.1 dX12_makeLengths_265 (lv_at hl 4 rfl) ?_
      rcases of_brn hr with ⟨hc, hr⟩ | ⟨hc, hr⟩
      · refine lv_icmp_le (tgt := 275) cx.1 cx.2.1 dX12_makeLengths_267 (by decide) (fun _ => ?_) (fun hn => absurd hc hn)
        refine lv_iload_n cx.1 cx.2.1 dX12_makeLengths_275 rfl (lv_at hl 3 rfl) ?_
        obtain ⟨ha18, hr⟩ := of_grd hr
        obtain ⟨g19, eg19, hr⟩ := of_nm hr
        refine h_iast cx fx dy ha18 dX12_makeLengths_276 (fun H locs dy => ?_)
        replace dy : Dy D cA ad (V, g19) A s.heap H locs := by rw [eg19]; exact dy
        obtain ⟨x20, ex20, hr⟩ := of_nm hr
        refine lv_iinc (v := x20) (lv' := [(1, .int x20), (0, .ref (ad k8)), (2, .int x10), (3, .int x11), (4, .int x12), (5, .int x13)]) cx.1 cx.2.1 dX12_makeLengths_277 hl (k := 1) rfl (by rw [ex20]; rfl) (by decide) rfl (fun ls hl => ?_)
        refine lv_goto (tgt := 2) cx.1 cx.2.1 dX12_makeLengths_280 (by decide) ?_
        exact hh1 k8 x20 g19 (Option.some.inj hr).symm H locs ls dy (lv_sub hl [1, 0] rfl)
      · refine lv_icmp_le (tgt := 275) cx.1 cx.2.1 dX12_makeLengths_267 (by decide) (fun hn => absurd hn hc) (fun _ => ?_)
        refine lv_ldc (v := (1000000)) cx.1 cx.2.1 cx.2.2.2.1 (cx.2.2.2.2 _ tb_985) dX12_makeLengths_270 ?_
        refine lv_goto (tgt := 276) cx.1 cx.2.1 dX12_makeLengths_272 (by decide) ?_
        obtain ⟨ha21, hr⟩ := of_grd hr
        obtain ⟨g22, eg22, hr⟩ := of_nm hr
        refine h_iast cx fx dy ha21 dX12_makeLengths_276 (fun H locs dy => ?_)
        replace dy : Dy D cA ad (V, g22) A s.heap H locs := by rw [eg22]; exact dy
        obtain ⟨x23, ex23, hr⟩ := of_nm hr
        refine lv_iinc (v := x23) (lv' := [(1, .int x23), (0, .ref (ad k8)), (2, .int x10), (3, .int x11), (4, .int x12), (5, .int x13)]) cx.1 cx.2.1 dX12_makeLengths_277 hl (k := 1) rfl (by rw [ex23]; rfl) (by decide) rfl (fun ls hl => ?_)
        refine lv_goto (tgt := 2) cx.1 cx.2.1 dX12_makeLengths_280 (by decide) ?_
        exact hh1 k8 x23 g22 (Option.some.inj hr).symm H locs ls dy (lv_sub hl [1, 0] rfl)
    · refine lv_icmp_ge (tgt := 259) cx.1 cx.2.1 dX12_makeLengths_33 (by decide) (fun hn => absurd hn hc) (fun _ => ?_)
      refine lv_iload_n cx.1 cx.2.1 dX12_makeLengths_36 rfl (lv_at hl 1 rfl) ?_
      refine lv_iload cx.1 cx.2.1 dX12_makeLengths_37 (lv_at hl 5 rfl) ?_
      refine lv_ishr cx.1 cx.2.1 dX12_makeLengths_39 ?_
      refine lv_iconst (v := 1) cx.1 cx.2.1 dX12_makeLengths_40 (by decide) ?_
      refine lv_iand cx.1 cx.2.1 dX12_makeLengths_41 ?_
      rcases of_brn hr with ⟨hc, hr⟩ | ⟨hc, hr⟩
      · refine lv_if_ne (tgt := 48) cx.1 cx.2.1 dX12_makeLengths_42 (by decide) (fun hn => absurd hc hn) (fun _ => ?_)
        refine lv_goto (tgt := 253) cx.1 cx.2.1 dX12_makeLengths_45 (by decide) ?_
        obtain ⟨x24, ex24, hr⟩ := of_nm hr
        refine lv_iinc (v := x24) (lv' := [(5, .int x24), (0, .ref (ad k8)), (1, .int x9), (2, .int x10), (3, .int x11), (4, .int x12)]) cx.1 cx.2.1 dX12_makeLengths_253 hl (k := 5) rfl (by rw [ex24]; rfl) (by decide) rfl (fun ls hl => ?_)
        refine lv_goto (tgt := 27) cx.1 cx.2.1 dX12_makeLengths_256 (by decide) ?_
        exact hh0 k8 x9 x10 x11 x12 x24 g14 (Option.some.inj hr).symm H locs ls dy (lv_sub hl [1, 2, 3, 4, 5, 0] rfl)
      · refine lv_if_ne (tgt := 48) cx.1 cx.2.1 dX12_makeLengths_42 (by decide) (fun _ => ?_) (fun hn => absurd hn hc)
        refine lv_aload_n cx.1 cx.2.1 dX12_makeLengths_48 rfl (lv_at hl 0 rfl) ?_
        obtain ⟨k25, hf26, hr⟩ := of_bnd hr
        refine h_getR cx fx dy fd_12_11 hv15 tb_997 hf26 dX12_makeLengths_49 ?_
        refine lv_aload_n cx.1 cx.2.1 dX12_makeLengths_52 rfl (lv_at hl 0 rfl) ?_
        obtain ⟨k27, hf28, hr⟩ := of_bnd hr
        refine h_getR cx fx dy fd_12_14 hv15 tb_1000 hf28 dX12_makeLengths_53 ?_
        refine lv_iload cx.1 cx.2.1 dX12_makeLengths_56 (lv_at hl 5 rfl) ?_
        obtain ⟨ha29, hr⟩ := of_grd hr
        refine h_iald cx fx dy ha29 dX12_makeLengths_58 ?_
        obtain ⟨ha30, hr⟩ := of_grd hr
        refine h_iald cx fx dy ha30 dX12_makeLengths_59 ?_
        refine lv_iload cx.1 cx.2.1 dX12_makeLengths_60 (lv_at hl 4 rfl) ?_
        rcases of_brn hr with ⟨hc, hr⟩ | ⟨hc, hr⟩
        · refine lv_icmp_ge (tgt := 80) cx.1 cx.2.1 dX12_makeLengths_62 (by decide) (fun _ => ?_) (fun hn => absurd hc hn)
          refine lv_iload cx.1 cx.2.1 dX12_makeLengths_80 (lv_at hl 4 rfl) ?_
          exact w_X12_makeLengths_82 cx fx hlocks hret hR g0 z hh0 hh1 hq0 k8 x9 x10 x11 x13 x12 g14 hr H locs ls dy (lv_sub hl [0, 1, 2, 3, 5] rfl)
        · refine lv_icmp_ge (tgt := 80) cx.1 cx.2.1 dX12_makeLengths_62 (by decide) (fun hn => absurd hn hc) (fun _ => ?_)
          refine lv_aload_n cx.1 cx.2.1 dX12_makeLengths_65 rfl (lv_at hl 0 rfl) ?_
          obtain ⟨k100, hf101, hr⟩ := of_bnd hr
          refine h_getR cx fx dy fd_12_11 hv15 tb_997 hf101 dX12_makeLengths_66 ?_
          refine lv_aload_n cx.1 cx.2.1 dX12_makeLengths_69 rfl (lv_at hl 0 rfl) ?_
          obtain ⟨k102, hf103, hr⟩ := of_bnd hr
          refine h_getR cx fx dy fd_12_14 hv15 tb_1000 hf103 dX12_makeLengths_70 ?_
          refine lv_iload cx.1 cx.2.1 dX12_makeLengths_73 (lv_at hl 5 rfl) ?_
          obtain ⟨ha104, hr⟩ := of_grd hr
          refine h_iald cx fx dy ha104 dX12_makeLengths_75 ?_
          obtain ⟨ha105, hr⟩ := of_grd hr
          refine h_iald cx fx dy ha105 dX12_makeLengths_76 ?_
          refine lv_goto (tgt := 82) cx.1 cx.2.1 dX12_makeLengths_77 (by decide) ?_
          exact w_X12_makeLengths_82 cx fx hlocks hret hR g0 z hh0 hh1 hq0 k8 x9 x10 x11 x13 (g14.1 k100 (g14.1 k102 x13.toNatClampNeg).toNatClampNeg) g14 hr H locs ls dy (lv_sub hl [0, 1, 2, 3, 5] rfl)
noncomputable def r_X12_makeLengths_2' (V : Vk) (k1 : Nat) (x2 : Int32) (g3 : Hq) : Option ((Nat × Int32 × Hq) ⊕ (Unit × Hq)) :=
  grd (V k1 = some (12, 0)) <| brn (((1 : Int32) <<< ((g3.1 k1 15) &&& 31)) ≤ x2) (some (.inr ((), g3))) (bnd (r_X12_least V x2 g3) fun x6 g5 => (lop (r_X12_makeLengths_27 V) (k1, x2, x6, (1000000 : Int32), (1000000 : Int32), (0 : Int32), g5)))
noncomputable def r_X12_makeLengths_2 (V : Vk) (st : (Nat × Int32 × Hq)) : Option ((Nat × Int32 × Hq) ⊕ (Unit × Hq)) := r_X12_makeLengths_2' V st.1 st.2.1 st.2.2
set_option maxHeartbeats 4000000 in
set_option maxRecDepth 100000 in
theorem w_X12_makeLengths_2 {p : Program} {l : Launch} {e : Env} {R : Room} {s : State} {m : MethodId} {args : Array Value} {below : List Frame} {meth : Method} {c : Code} {D : va_G} {cA : Nat → ClassId} {sk : (Nat → Nat) × (Nat → Nat)} {ad : Nat → Nat} {A : Nat → Prop} {V : Vk} (cx : CallFix p m c cX12_makeLengths 9 s args gw_tbl RX12) (fx : Fx D cA sk A s) (hlocks : meth.locks = false) (hret : meth.sig.returnType = none) (hR : 1 ≤ R.frames ∧ 22 ≤ R.locals) (g0 : Hq) (y : (Unit × Hq)) (hq : ∀ (rb : Unit) (gb : Hq), y = (rb, gb) → gb = g0) : ∀ (n : Nat) (k1 : Nat) (x2 : Int32) (g3 : Hq), itr (r_X12_makeLengths_2 V) n (k1, x2, g3) = some y → ∀ (H : Heap) (locs : List Loc) (ls : Array Slot), Dy D cA ad (V, g3) A s.heap H locs → lv_has ls 9 [(0, .ref (ad k1)), (1, .int x2)] → W p l e R s m args below meth c H locs 0 0 (MQ below (QV D cA ad A (V, g0)) args s 0 0 A) (F0 m 2 ls []) := by
  intro n
  induction n with
  | zero => intro k1 x2 g3 hr; cases hr
  | succ n ih =>
    intro k1 x2 g3 hr H locs ls dy hl
    obtain ⟨z, hz, hn1, hn2⟩ := itr_succ hr
    clear hr
    have hr : r_X12_makeLengths_2' V k1 x2 g3 = some z := hz
    clear hz
    unfold r_X12_makeLengths_2' at hr
    have hh0 : ∀ (b0 : Nat) (b1 : Int32) (gb : Hq), z = .inl (b0, b1, gb) → ∀ (H : Heap) (locs : List Loc) (ls : Array Slot), Dy D cA ad (V, gb) A s.heap H locs → lv_has ls 9 [(0, .ref (ad b0)), (1, .int b1)] → W p l e R s m args below meth c H locs 0 0 (MQ below (QV D cA ad A (V, g0)) args s 0 0 A) (F0 m 2 ls []) := fun b0 b1 gb eb => ih b0 b1 gb (hn1 _ eb)
    have hq0 : ∀ (rb : Unit) (gb : Hq), z = (.inr (rb, gb)) → gb = g0 := fun rb gb eb => hq rb gb (hn2 _ eb).symm
    refine lv_iload_n cx.1 cx.2.1 dX12_makeLengths_2 rfl (lv_at hl 1 rfl) ?_
    refine lv_iconst (v := 1) cx.1 cx.2.1 dX12_makeLengths_3 (by decide) ?_
    refine lv_aload_n cx.1 cx.2.1 dX12_makeLengths_4 rfl (lv_at hl 0 rfl) ?_
    obtain ⟨hv4, hr⟩ := of_grd hr
    refine h_getI cx fx dy fd_12_15 hv4 tb_1001 dX12_makeLengths_5 ?_
    refine lv_ishl cx.1 cx.2.1 dX12_makeLengths_8 ?_
    rcases of_brn hr with ⟨hc, hr⟩ | ⟨hc, hr⟩
    · refine lv_icmp_ge (tgt := 283) cx.1 cx.2.1 dX12_makeLengths_9 (by decide) (fun _ => ?_) (fun hn => absurd hc hn)
      have e1 := hq0 _ _ (Option.some.inj hr).symm
      exact h_vret cx dy hlocks hret (by rw [e1]) dX12_makeLengths_283
    · refine lv_icmp_ge (tgt := 283) cx.1 cx.2.1 dX12_makeLengths_9 (by decide) (fun hn => absurd hn hc) (fun _ => ?_)
      refine lv_iload_n cx.1 cx.2.1 dX12_makeLengths_12 rfl (lv_at hl 1 rfl) ?_
      obtain ⟨x6, g5, hc7, hr⟩ := of_bnd2 hr
      refine r_i dy (k_S (As := [.int x2]) cx fx dy (c_X12_least hc7) mv_X12_least rfl rfl ⟨Nat.le_trans (by decide) hR.1, Nat.le_trans (by decide) hR.2⟩ tb_1192 rfl hl.1 rfl (Nat.le_of_ble_eq_true rfl) ⟨Nat.zero_le _, Nat.zero_le _⟩ dX12_makeLengths_13) (fun H locs dy => ?_)
      refine lv_istore_n (lv' := [(2, .int x6), (0, .ref (ad k1)), (1, .int x2)]) cx.1 cx.2.1 dX12_makeLengths_16 rfl hl (by decide) rfl (fun ls hl => ?_)
      refine lv_ldc (v := (1000000)) cx.1 cx.2.1 cx.2.2.2.1 (cx.2.2.2.2 _ tb_985) dX12_makeLengths_17 ?_
      refine lv_istore_n (lv' := [(3, .int (1000000 : Int32)), (2, .int x6), (0, .ref (ad k1)), (1, .int x2)]) cx.1 cx.2.1 dX12_makeLengths_19 rfl hl (by decide) rfl (fun ls hl => ?_)
      refine lv_ldc (v := (1000000)) cx.1 cx.2.1 cx.2.2.2.1 (cx.2.2.2.2 _ tb_985) dX12_makeLengths_20 ?_
      refine lv_istore (lv' := [(4, .int (1000000 : Int32)), (3, .int (1000000 : Int32)), (2, .int x6), (0, .ref (ad k1)), (1, .int x2)]) cx.1 cx.2.1 dX12_makeLengths_22 hl (by decide) rfl (fun ls hl => ?_)
      refine lv_iconst (v := 0) cx.1 cx.2.1 dX12_makeLengths_24 (by decide) ?_
      refine lv_istore (lv' := [(5, .int (0 : Int32)), (4, .int (1000000 : Int32)), (3, .int (1000000 : Int32)), (2, .int x6), (0, .ref (ad k1)), (1, .int x2)]) cx.1 cx.2.1 dX12_makeLengths_25 hl (by decide) rfl (fun ls hl => ?_)
      obtain ⟨n, hr⟩ := lop_some hr
      exact w_X12_makeLengths_27 cx fx hlocks hret hR g0 z hh0 hq0 n k1 x2 x6 (1000000 : Int32) (1000000 : Int32) (0 : Int32) g5 hr H locs ls dy (lv_sub hl [4, 5, 3, 2, 1, 0] rfl)
noncomputable def r_X12_makeLengths (V : Vk) (k0 : Nat) (g : Hq) : Option (Unit × Hq) :=
  (lop (r_X12_makeLengths_2 V) (k0, (1 : Int32), g))
set_option maxHeartbeats 4000000 in
set_option maxRecDepth 100000 in
theorem c_X12_makeLengths {l : Launch} {D : va_G} {cA : Nat → ClassId} {sk : (Nat → Nat) × (Nat → Nat)} {ad : Nat → Nat} {A : Nat → Prop} {V : Vk} {k0 : Nat} {g g0 : Hq} (hr : r_X12_makeLengths V k0 g = some ((), g0)) : Met l yX12_makeLengths (wM yX12_makeLengths cX12_makeLengths 9 none) { frames := 1, cells := 0, slots := 0, locals := 22 } (Pre D cA sk ad (V, g) A [.ref (ad k0)]) (QV D cA ad A (V, g0)) 0 0 A := by
  refine Met.ofW (cc := cX12_makeLengths) (maxL := 9) (ret := none) (by decide) rfl ?_
  intro p e s m args below meth c s₁ B hml hv
  obtain ⟨rfl, fx, w0⟩ := hv
  have hts := atoms_spec (ws := wM yX12_makeLengths cX12_makeLengths 9 none) B.pre
  have cx : CallFix p m c cX12_makeLengths 9 s ([.ref (ad k0)] : List Value).toArray gw_tbl RX12 := ⟨B.exec, B.bytes, hml, findClass_of_methodNamed B.named, fun w hw => hts w (List.mem_cons_of_mem _ hw)⟩
  have hlocks := B.notSynchronized
  have hret := B.returns
  have hR : 1 ≤ (headSpec (wM yX12_makeLengths cX12_makeLengths 9 none) { frames := 1, cells := 0, slots := 0, locals := 22 }).room.frames ∧ 22 ≤ (headSpec (wM yX12_makeLengths cX12_makeLengths 9 none) { frames := 1, cells := 0, slots := 0, locals := 22 }).room.locals := ⟨Nat.le_refl _, Nat.le_refl _⟩
  have dy : Dy D cA ad (V, g) A s.heap s.heap [] := ⟨w0, va_S.rf⟩
  have hl := lv_entry [.ref (ad k0)] (n := 9) (Nat.le_of_ble_eq_true rfl)
  rw [lg_entry_eq]
  generalize (lg_sl [.ref (ad k0)] ++ List.replicate (9 - (lg_sl [.ref (ad k0)]).length) Slot.unset).toArray = ls at hl ⊢
  have hl : lv_has ls 9 [(0, .ref (ad k0))] := hl
  have dy0 : ∃ H0, H0 = s.heap ∧ Dy D cA ad (V, g) A s.heap H0 [] := ⟨_, rfl, dy⟩
  obtain ⟨z, ez⟩ : ∃ z, z = (((), g0) : Unit × Hq) := ⟨_, rfl⟩
  rw [← ez] at hr
  have hq0 : ∀ (rb : Unit) (gb : Hq), z = (rb, gb) → gb = g0 := fun rb gb eb => by rw [ez] at eb; exact (congrArg Prod.snd eb).symm
  clear ez w0 dy0
  unfold r_X12_makeLengths at hr
  obtain ⟨H, hH⟩ : ∃ H, H = s.heap := ⟨_, rfl⟩
  obtain ⟨locs, hlo⟩ : ∃ q : List Loc, q = [] := ⟨_, rfl⟩
  have dy : Dy D cA ad (V, g) A s.heap H locs := by rw [hH, hlo]; exact dy
  suffices K : W p l e (headSpec (wM yX12_makeLengths cX12_makeLengths 9 none) { frames := 1, cells := 0, slots := 0, locals := 22 }).room s m ([.ref (ad k0)] : List Value).toArray below meth c H locs 0 0 (MQ below (QV D cA ad A (V, g0)) ([.ref (ad k0)] : List Value).toArray s 0 0 A) (F0 m 0 ls []) by rw [hH, hlo] at K; exact K
  clear hH hlo
  refine lv_iconst (v := 1) cx.1 cx.2.1 dX12_makeLengths_0 (by decide) ?_
  refine lv_istore_n (lv' := [(1, .int (1 : Int32)), (0, .ref (ad k0))]) cx.1 cx.2.1 dX12_makeLengths_1 rfl hl (by decide) rfl (fun ls hl => ?_)
  obtain ⟨n, hr⟩ := lop_some hr
  exact w_X12_makeLengths_2 cx fx hlocks hret hR g0 z hq0 n k0 (1 : Int32) g hr H locs ls dy (lv_sub hl [1, 0] rfl)
noncomputable def r_X12_round (V : Vk) (k0 : Nat) (a1 : Int32) (g : Hq) : Option (Int32 × Hq) :=
  grd (V k0 = some (12, 0)) <| brn ((g.1 k0 23) = 0) (some ((-9 : Int32), g)) (brn (a1 = 0) (some ((g.1 k0 25), g)) (bnd (r_X12_in V a1 (10 : Int32) (21 : Int32) g) fun x3 g2 => brn (x3 = 0) (bnd (r_X12_in V a1 (30 : Int32) ((29 : Int32) + (g2.1 k0 24)) g2) fun x6 g5 => brn (x6 = 0) (bnd (r_X12_in V a1 (50 : Int32) ((49 : Int32) + (g5.1 k0 24)) g5) fun x9 g8 => brn (x9 = 0) (some ((-9 : Int32), g8)) (Option.bind (g8.2.2 k0 28) fun k11 => grd (okV V k11 0 (a1 - (50 : Int32))) <| some ((g8.1 k11 (a1 - (50 : Int32)).toNatClampNeg), g8))) (Option.bind (g5.2.2 k0 27) fun k14 => grd (okV V k14 0 (a1 - (30 : Int32))) <| some ((g5.1 k14 (a1 - (30 : Int32)).toNatClampNeg), g5))) (Option.bind (g2.2.2 k0 26) fun k17 => grd (okV V k17 0 (a1 - (10 : Int32))) <| some ((g2.1 k17 (a1 - (10 : Int32)).toNatClampNeg), g2))))
set_option maxHeartbeats 4000000 in
set_option maxRecDepth 100000 in
theorem c_X12_round {l : Launch} {D : va_G} {cA : Nat → ClassId} {sk : (Nat → Nat) × (Nat → Nat)} {ad : Nat → Nat} {A : Nat → Prop} {V : Vk} {k0 : Nat} {a1 : Int32} {g g0 : Hq} {r0 : Int32} (hr : r_X12_round V k0 a1 g = some (r0, g0)) : Met l yX12_round (wM yX12_round cX12_round 2 (some .int)) { frames := 1, cells := 0, slots := 0, locals := 22 } (Pre D cA sk ad (V, g) A [.ref (ad k0), .int a1]) (QI D cA ad A r0 (V, g0)) 0 0 A := by
  refine Met.ofW (cc := cX12_round) (maxL := 2) (ret := (some .int)) (by decide) rfl ?_
  intro p e s m args below meth c s₁ B hml hv
  obtain ⟨rfl, fx, w0⟩ := hv
  have hts := atoms_spec (ws := wM yX12_round cX12_round 2 (some .int)) B.pre
  have cx : CallFix p m c cX12_round 2 s ([.ref (ad k0), .int a1] : List Value).toArray gw_tbl RX12 := ⟨B.exec, B.bytes, hml, findClass_of_methodNamed B.named, fun w hw => hts w (List.mem_cons_of_mem _ hw)⟩
  have hlocks := B.notSynchronized
  have hret := B.returns
  have hR : 1 ≤ (headSpec (wM yX12_round cX12_round 2 (some .int)) { frames := 1, cells := 0, slots := 0, locals := 22 }).room.frames ∧ 22 ≤ (headSpec (wM yX12_round cX12_round 2 (some .int)) { frames := 1, cells := 0, slots := 0, locals := 22 }).room.locals := ⟨Nat.le_refl _, Nat.le_refl _⟩
  have dy : Dy D cA ad (V, g) A s.heap s.heap [] := ⟨w0, va_S.rf⟩
  have hl := lv_entry [.ref (ad k0), .int a1] (n := 2) (Nat.le_of_ble_eq_true rfl)
  rw [lg_entry_eq]
  generalize (lg_sl [.ref (ad k0), .int a1] ++ List.replicate (2 - (lg_sl [.ref (ad k0), .int a1]).length) Slot.unset).toArray = ls at hl ⊢
  have hl : lv_has ls 2 [(0, .ref (ad k0)), (1, .int a1)] := hl
  have dy0 : ∃ H0, H0 = s.heap ∧ Dy D cA ad (V, g) A s.heap H0 [] := ⟨_, rfl, dy⟩
  obtain ⟨z, ez⟩ : ∃ z, z = (r0, g0) := ⟨_, rfl⟩
  rw [← ez] at hr
  have hq0 : ∀ (rb : Int32) (gb : Hq), z = (rb, gb) → rb = r0 ∧ gb = g0 := fun rb gb eb => by rw [ez] at eb; exact ⟨(congrArg Prod.fst eb).symm, (congrArg Prod.snd eb).symm⟩
  clear ez w0 dy0
  unfold r_X12_round at hr
  obtain ⟨H, hH⟩ : ∃ H, H = s.heap := ⟨_, rfl⟩
  obtain ⟨locs, hlo⟩ : ∃ q : List Loc, q = [] := ⟨_, rfl⟩
  have dy : Dy D cA ad (V, g) A s.heap H locs := by rw [hH, hlo]; exact dy
  suffices K : W p l e (headSpec (wM yX12_round cX12_round 2 (some .int)) { frames := 1, cells := 0, slots := 0, locals := 22 }).room s m ([.ref (ad k0), .int a1] : List Value).toArray below meth c H locs 0 0 (MQ below (QI D cA ad A r0 (V, g0)) ([.ref (ad k0), .int a1] : List Value).toArray s 0 0 A) (F0 m 0 ls []) by rw [hH, hlo] at K; exact K
  clear hH hlo
  refine lv_aload_n cx.1 cx.2.1 dX12_round_0 rfl (lv_at hl 0 rfl) ?_
  obtain ⟨hv1, hr⟩ := of_grd hr
  refine h_getI cx fx dy fd_12_23 hv1 tb_1009 dX12_round_1 ?_
  rcases of_brn hr with ⟨hc, hr⟩ | ⟨hc, hr⟩
  · refine lv_if_ne (tgt := 10) cx.1 cx.2.1 dX12_round_4 (by decide) (fun hn => absurd hc hn) (fun _ => ?_)
    refine lv_bipush (v := (-9)) cx.1 cx.2.1 dX12_round_7 (by decide) ?_
    obtain ⟨e0, e1⟩ := hq0 _ _ (Option.some.inj hr).symm
    exact h_iret cx dy hlocks hret rfl e0 (by rw [e1]) dX12_round_9
  · refine lv_if_ne (tgt := 10) cx.1 cx.2.1 dX12_round_4 (by decide) (fun _ => ?_) (fun hn => absurd hn hc)
    refine lv_iload_n cx.1 cx.2.1 dX12_round_10 rfl (lv_at hl 1 rfl) ?_
    rcases of_brn hr with ⟨hc, hr⟩ | ⟨hc, hr⟩
    · refine lv_if_ne (tgt := 19) cx.1 cx.2.1 dX12_round_11 (by decide) (fun hn => absurd hc hn) (fun _ => ?_)
      refine lv_aload_n cx.1 cx.2.1 dX12_round_14 rfl (lv_at hl 0 rfl) ?_
      refine h_getI cx fx dy fd_12_25 hv1 tb_1011 dX12_round_15 ?_
      obtain ⟨e0, e1⟩ := hq0 _ _ (Option.some.inj hr).symm
      exact h_iret cx dy hlocks hret rfl e0 (by rw [e1]) dX12_round_18
    · refine lv_if_ne (tgt := 19) cx.1 cx.2.1 dX12_round_11 (by decide) (fun _ => ?_) (fun hn => absurd hn hc)
      refine lv_iload_n cx.1 cx.2.1 dX12_round_19 rfl (lv_at hl 1 rfl) ?_
      refine lv_bipush (v := 10) cx.1 cx.2.1 dX12_round_20 (by decide) ?_
      refine lv_bipush (v := 21) cx.1 cx.2.1 dX12_round_22 (by decide) ?_
      obtain ⟨x3, g2, hc4, hr⟩ := of_bnd2 hr
      refine r_i dy (k_S (As := [.int a1, .int (10 : Int32), .int (21 : Int32)]) cx fx dy (c_X12_in hc4) mv_X12_in rfl rfl ⟨Nat.le_trans (by decide) hR.1, Nat.le_trans (by decide) hR.2⟩ tb_1170 rfl hl.1 rfl (Nat.le_of_ble_eq_true rfl) ⟨Nat.zero_le _, Nat.zero_le _⟩ dX12_round_24) (fun H locs dy => ?_)
      rcases of_brn hr with ⟨hc, hr⟩ | ⟨hc, hr⟩
      · refine lv_if_eq (tgt := 40) cx.1 cx.2.1 dX12_round_27 (by decide) (fun _ => ?_) (fun hn => absurd hc hn)
        refine lv_iload_n cx.1 cx.2.1 dX12_round_40 rfl (lv_at hl 1 rfl) ?_
        refine lv_bipush (v := 30) cx.1 cx.2.1 dX12_round_41 (by decide) ?_
        refine lv_bipush (v := 29) cx.1 cx.2.1 dX12_round_43 (by decide) ?_
        refine lv_aload_n cx.1 cx.2.1 dX12_round_45 rfl (lv_at hl 0 rfl) ?_
        refine h_getI cx fx dy fd_12_24 hv1 tb_1010 dX12_round_46 ?_
        refine lv_iadd cx.1 cx.2.1 dX12_round_49 ?_
        obtain ⟨x6, g5, hc7, hr⟩ := of_bnd2 hr
        refine r_i dy (k_S (As := [.int a1, .int (30 : Int32), .int ((29 : Int32) + (g2.1 k0 24))]) cx fx dy (c_X12_in hc7) mv_X12_in rfl rfl ⟨Nat.le_trans (by decide) hR.1, Nat.le_trans (by decide) hR.2⟩ tb_1170 rfl hl.1 rfl (Nat.le_of_ble_eq_true rfl) ⟨Nat.zero_le _, Nat.zero_le _⟩ dX12_round_50) (fun H locs dy => ?_)
        rcases of_brn hr with ⟨hc, hr⟩ | ⟨hc, hr⟩
        · refine lv_if_eq (tgt := 66) cx.1 cx.2.1 dX12_round_53 (by decide) (fun _ => ?_) (fun hn => absurd hc hn)
          refine lv_iload_n cx.1 cx.2.1 dX12_round_66 rfl (lv_at hl 1 rfl) ?_
          refine lv_bipush (v := 50) cx.1 cx.2.1 dX12_round_67 (by decide) ?_
          refine lv_bipush (v := 49) cx.1 cx.2.1 dX12_round_69 (by decide) ?_
          refine lv_aload_n cx.1 cx.2.1 dX12_round_71 rfl (lv_at hl 0 rfl) ?_
          refine h_getI cx fx dy fd_12_24 hv1 tb_1010 dX12_round_72 ?_
          refine lv_iadd cx.1 cx.2.1 dX12_round_75 ?_
          obtain ⟨x9, g8, hc10, hr⟩ := of_bnd2 hr
          refine r_i dy (k_S (As := [.int a1, .int (50 : Int32), .int ((49 : Int32) + (g5.1 k0 24))]) cx fx dy (c_X12_in hc10) mv_X12_in rfl rfl ⟨Nat.le_trans (by decide) hR.1, Nat.le_trans (by decide) hR.2⟩ tb_1170 rfl hl.1 rfl (Nat.le_of_ble_eq_true rfl) ⟨Nat.zero_le _, Nat.zero_le _⟩ dX12_round_76) (fun H locs dy => ?_)
          rcases of_brn hr with ⟨hc, hr⟩ | ⟨hc, hr⟩
          · refine lv_if_eq (tgt := 94) cx.1 cx.2.1 dX12_round_79 (by decide) (fun _ => ?_) (fun hn => absurd hc hn)
            refine lv_bipush (v := (-9)) cx.1 cx.2.1 dX12_round_94 (by decide) ?_
            obtain ⟨e0, e1⟩ := hq0 _ _ (Option.some.inj hr).symm
            exact h_iret cx dy hlocks hret rfl e0 (by rw [e1]) dX12_round_96
          · refine lv_if_eq (tgt := 94) cx.1 cx.2.1 dX12_round_79 (by decide) (fun hn => absurd hn hc) (fun _ => ?_)
            refine lv_aload_n cx.1 cx.2.1 dX12_round_82 rfl (lv_at hl 0 rfl) ?_
            obtain ⟨k11, hf12, hr⟩ := of_bnd hr
            refine h_getR cx fx dy fd_12_28 hv1 tb_1014 hf12 dX12_round_83 ?_
            refine lv_iload_n cx.1 cx.2.1 dX12_round_86 rfl (lv_at hl 1 rfl) ?_
            refine lv_bipush (v := 50) cx.1 cx.2.1 dX12_round_87 (by decide) ?_
            refine lv_isub cx.1 cx.2.1 dX12_round_89 ?_
            obtain ⟨ha13, hr⟩ := of_grd hr
            refine h_iald cx fx dy ha13 dX12_round_90 ?_
            refine lv_goto (tgt := 96) cx.1 cx.2.1 dX12_round_91 (by decide) ?_
            obtain ⟨e0, e1⟩ := hq0 _ _ (Option.some.inj hr).symm
            exact h_iret cx dy hlocks hret rfl e0 (by rw [e1]) dX12_round_96
        · refine lv_if_eq (tgt := 66) cx.1 cx.2.1 dX12_round_53 (by decide) (fun hn => absurd hn hc) (fun _ => ?_)
          refine lv_aload_n cx.1 cx.2.1 dX12_round_56 rfl (lv_at hl 0 rfl) ?_
          obtain ⟨k14, hf15, hr⟩ := of_bnd hr
          refine h_getR cx fx dy fd_12_27 hv1 tb_1013 hf15 dX12_round_57 ?_
          refine lv_iload_n cx.1 cx.2.1 dX12_round_60 rfl (lv_at hl 1 rfl) ?_
          refine lv_bipush (v := 30) cx.1 cx.2.1 dX12_round_61 (by decide) ?_
          refine lv_isub cx.1 cx.2.1 dX12_round_63 ?_
          obtain ⟨ha16, hr⟩ := of_grd hr
          refine h_iald cx fx dy ha16 dX12_round_64 ?_
          obtain ⟨e0, e1⟩ := hq0 _ _ (Option.some.inj hr).symm
          exact h_iret cx dy hlocks hret rfl e0 (by rw [e1]) dX12_round_65
      · refine lv_if_eq (tgt := 40) cx.1 cx.2.1 dX12_round_27 (by decide) (fun hn => absurd hn hc) (fun _ => ?_)
        refine lv_aload_n cx.1 cx.2.1 dX12_round_30 rfl (lv_at hl 0 rfl) ?_
        obtain ⟨k17, hf18, hr⟩ := of_bnd hr
        refine h_getR cx fx dy fd_12_26 hv1 tb_1012 hf18 dX12_round_31 ?_
        refine lv_iload_n cx.1 cx.2.1 dX12_round_34 rfl (lv_at hl 1 rfl) ?_
        refine lv_bipush (v := 10) cx.1 cx.2.1 dX12_round_35 (by decide) ?_
        refine lv_isub cx.1 cx.2.1 dX12_round_37 ?_
        obtain ⟨ha19, hr⟩ := of_grd hr
        refine h_iald cx fx dy ha19 dX12_round_38 ?_
        obtain ⟨e0, e1⟩ := hq0 _ _ (Option.some.inj hr).symm
        exact h_iret cx dy hlocks hret rfl e0 (by rw [e1]) dX12_round_39
noncomputable def r_X12_cry_26' (V : Vk) (k7 : Nat) (x8 : Int32) (x9 : Int32) (x10 : Int32) (x11 : Int32) (g12 : Hq) : Option ((Nat × Int32 × Int32 × Int32 × Int32 × Hq) ⊕ (Int32 × Hq)) :=
  brn ((12 : Int32) ≤ x11) (some (.inr (x10, g12))) (grd (V k7 = some (12, 0)) <| Option.bind (g12.2.2 k7 13) fun k14 => grd (okV V k14 0 (((12 : Int32) * x8) + x11)) <| brn (x9 < (g12.1 k14 (((12 : Int32) * x8) + x11).toNatClampNeg)) (nm (x11 + (1 : Int32)) fun x17 => some (.inl (k7, x8, x9, x10, x17, g12))) (nm (x10 ||| ((1 : Int32) <<< (x11 &&& 31))) fun x18 => nm (x11 + (1 : Int32)) fun x19 => some (.inl (k7, x8, x9, x18, x19, g12))))
noncomputable def r_X12_cry_26 (V : Vk) (st : (Nat × Int32 × Int32 × Int32 × Int32 × Hq)) : Option ((Nat × Int32 × Int32 × Int32 × Int32 × Hq) ⊕ (Int32 × Hq)) := r_X12_cry_26' V st.1 st.2.1 st.2.2.1 st.2.2.2.1 st.2.2.2.2.1 st.2.2.2.2.2
set_option maxHeartbeats 4000000 in
set_option maxRecDepth 100000 in
theorem w_X12_cry_26 {p : Program} {l : Launch} {e : Env} {R : Room} {s : State} {m : MethodId} {args : Array Value} {below : List Frame} {meth : Method} {c : Code} {D : va_G} {cA : Nat → ClassId} {sk : (Nat → Nat) × (Nat → Nat)} {ad : Nat → Nat} {A : Nat → Prop} {V : Vk} (cx : CallFix p m c cX12_cry 5 s args gw_tbl RX12) (fx : Fx D cA sk A s) (hlocks : meth.locks = false) (hret : meth.sig.returnType = (some .int)) (hR : 2 ≤ R.frames ∧ 42 ≤ R.locals) (r0 : Int32) (g0 : Hq) (y : (Int32 × Hq)) (hq : ∀ (rb : Int32) (gb : Hq), y = (rb, gb) → rb = r0 ∧ gb = g0) : ∀ (n : Nat) (k7 : Nat) (x8 : Int32) (x9 : Int32) (x10 : Int32) (x11 : Int32) (g12 : Hq), itr (r_X12_cry_26 V) n (k7, x8, x9, x10, x11, g12) = some y → ∀ (H : Heap) (locs : List Loc) (ls : Array Slot), Dy D cA ad (V, g12) A s.heap H locs → lv_has ls 5 [(0, .ref (ad k7)), (1, .int x8), (2, .int x9), (3, .int x10), (4, .int x11)] → W p l e R s m args below meth c H locs 0 0 (MQ below (QI D cA ad A r0 (V, g0)) args s 0 0 A) (F0 m 26 ls []) := by
  intro n
  induction n with
  | zero => intro k7 x8 x9 x10 x11 g12 hr; cases hr
  | succ n ih =>
    intro k7 x8 x9 x10 x11 g12 hr H locs ls dy hl
    obtain ⟨z, hz, hn1, hn2⟩ := itr_succ hr
    clear hr
    have hr : r_X12_cry_26' V k7 x8 x9 x10 x11 g12 = some z := hz
    clear hz
    unfold r_X12_cry_26' at hr
    have hh0 : ∀ (b0 : Nat) (b1 : Int32) (b2 : Int32) (b3 : Int32) (b4 : Int32) (gb : Hq), z = .inl (b0, b1, b2, b3, b4, gb) → ∀ (H : Heap) (locs : List Loc) (ls : Array Slot), Dy D cA ad (V, gb) A s.heap H locs → lv_has ls 5 [(0, .ref (ad b0)), (1, .int b1), (2, .int b2), (3, .int b3), (4, .int b4)] → W p l e R s m args below meth c H locs 0 0 (MQ below (QI D cA ad A r0 (V, g0)) args s 0 0 A) (F0 m 26 ls []) := fun b0 b1 b2 b3 b4 gb eb => ih b0 b1 b2 b3 b4 gb (hn1 _ eb)
    have hq0 : ∀ (rb : Int32) (gb : Hq), z = (.inr (rb, gb)) → rb = r0 ∧ gb = g0 := fun rb gb eb => hq rb gb (hn2 _ eb).symm
    refine lv_iload cx.1 cx.2.1 dX12_cry_26 (lv_at hl 4 rfl) ?_
    refine lv_bipush (v := 12) cx.1 cx.2.1 dX12_cry_28 (by decide) ?_
    rcases of_brn hr with ⟨hc, hr⟩ | ⟨hc, hr⟩
    · refine lv_icmp_ge (tgt := 62) cx.1 cx.2.1 dX12_cry_30 (by decide) (fun _ => ?_) (fun hn => absurd hc hn)
      refine lv_iload_n cx.1 cx.2.1 dX12_cry_62 rfl (lv_at hl 3 rfl) ?_
      obtain ⟨e0, e1⟩ := hq0 _ _ (Option.some.inj hr).symm
      exact h_iret cx dy hlocks hret rfl e0 (by rw [e1]) dX12_cry_63
    · refine lv_icmp_ge (tgt := 62) cx.1 cx.2.1 dX12_cry_30 (by decide) (fun hn => absurd hn hc) (fun _ => ?_)
      refine lv_aload_n cx.1 cx.2.1 dX12_cry_33 rfl (lv_at hl 0 rfl) ?_
      obtain ⟨hv13, hr⟩ := of_grd hr
      obtain ⟨k14, hf15, hr⟩ := of_bnd hr
      refine h_getR cx fx dy fd_12_13 hv13 tb_999 hf15 dX12_cry_34 ?_
      refine lv_bipush (v := 12) cx.1 cx.2.1 dX12_cry_37 (by decide) ?_
      refine lv_iload_n cx.1 cx.2.1 dX12_cry_39 rfl (lv_at hl 1 rfl) ?_
      refine lv_imul cx.1 cx.2.1 dX12_cry_40 ?_
      refine lv_iload cx.1 cx.2.1 dX12_cry_41 (lv_at hl 4 rfl) ?_
      refine lv_iadd cx.1 cx.2.1 dX12_cry_43 ?_
      obtain ⟨ha16, hr⟩ := of_grd hr
      refine h_iald cx fx dy ha16 dX12_cry_44 ?_
      refine lv_iload_n cx.1 cx.2.1 dX12_cry_45 rfl (lv_at hl 2 rfl) ?_
      rcases of_brn hr with ⟨hc, hr⟩ | ⟨hc, hr⟩
      · refine lv_icmp_gt (tgt := 56) cx.1 cx.2.1 dX12_cry_46 (by decide) (fun _ => ?_) (fun hn => absurd hc hn)
        obtain ⟨x17, ex17, hr⟩ := of_nm hr
        refine lv_iinc (v := x17) (lv' := [(4, .int x17), (0, .ref (ad k7)), (1, .int x8), (2, .int x9), (3, .int x10)]) cx.1 cx.2.1 dX12_cry_56 hl (k := 4) rfl (by rw [ex17]; rfl) (by decide) rfl (fun ls hl => ?_)
        refine lv_goto (tgt := 26) cx.1 cx.2.1 dX12_cry_59 (by decide) ?_
        exact hh0 k7 x8 x9 x10 x17 g12 (Option.some.inj hr).symm H locs ls dy (lv_sub hl [1, 2, 3, 4, 0] rfl)
      · refine lv_icmp_gt (tgt := 56) cx.1 cx.2.1 dX12_cry_46 (by decide) (fun hn => absurd hn hc) (fun _ => ?_)
        refine lv_iload_n cx.1 cx.2.1 dX12_cry_49 rfl (lv_at hl 3 rfl) ?_
        refine lv_iconst (v := 1) cx.1 cx.2.1 dX12_cry_50 (by decide) ?_
        refine lv_iload cx.1 cx.2.1 dX12_cry_51 (lv_at hl 4 rfl) ?_
        refine lv_ishl cx.1 cx.2.1 dX12_cry_53 ?_
        refine lv_ior cx.1 cx.2.1 dX12_cry_54 ?_
        obtain ⟨x18, ex18, hr⟩ := of_nm hr
        refine lv_nmi ex18 ?_
        refine lv_istore_n (lv' := [(3, .int x18), (0, .ref (ad k7)), (1, .int x8), (2, .int x9), (4, .int x11)]) cx.1 cx.2.1 dX12_cry_55 rfl hl (by decide) rfl (fun ls hl => ?_)
        obtain ⟨x19, ex19, hr⟩ := of_nm hr
        refine lv_iinc (v := x19) (lv' := [(4, .int x19), (3, .int x18), (0, .ref (ad k7)), (1, .int x8), (2, .int x9)]) cx.1 cx.2.1 dX12_cry_56 hl (k := 4) rfl (by rw [ex19]; rfl) (by decide) rfl (fun ls hl => ?_)
        refine lv_goto (tgt := 26) cx.1 cx.2.1 dX12_cry_59 (by decide) ?_
        exact hh0 k7 x8 x9 x18 x19 g12 (Option.some.inj hr).symm H locs ls dy (lv_sub hl [2, 3, 4, 1, 0] rfl)
noncomputable def r_X12_cry (V : Vk) (k0 : Nat) (a1 : Int32) (a2 : Int32) (g : Hq) : Option (Int32 × Hq) :=
  bnd (r_X12_isCourt V a1 g) fun x2 g1 => brn (x2 = 0) (some ((-2 : Int32), g1)) (bnd (r_X12_in V a2 (0 : Int32) (999 : Int32) g1) fun x5 g4 => brn (x5 = 0) (some ((-2 : Int32), g4)) ((lop (r_X12_cry_26 V) (k0, a1, a2, (0 : Int32), (0 : Int32), g4))))
set_option maxHeartbeats 4000000 in
set_option maxRecDepth 100000 in
theorem c_X12_cry {l : Launch} {D : va_G} {cA : Nat → ClassId} {sk : (Nat → Nat) × (Nat → Nat)} {ad : Nat → Nat} {A : Nat → Prop} {V : Vk} {k0 : Nat} {a1 : Int32} {a2 : Int32} {g g0 : Hq} {r0 : Int32} (hr : r_X12_cry V k0 a1 a2 g = some (r0, g0)) : Met l yX12_cry (wM yX12_cry cX12_cry 5 (some .int)) { frames := 2, cells := 0, slots := 0, locals := 42 } (Pre D cA sk ad (V, g) A [.ref (ad k0), .int a1, .int a2]) (QI D cA ad A r0 (V, g0)) 0 0 A := by
  refine Met.ofW (cc := cX12_cry) (maxL := 5) (ret := (some .int)) (by decide) rfl ?_
  intro p e s m args below meth c s₁ B hml hv
  obtain ⟨rfl, fx, w0⟩ := hv
  have hts := atoms_spec (ws := wM yX12_cry cX12_cry 5 (some .int)) B.pre
  have cx : CallFix p m c cX12_cry 5 s ([.ref (ad k0), .int a1, .int a2] : List Value).toArray gw_tbl RX12 := ⟨B.exec, B.bytes, hml, findClass_of_methodNamed B.named, fun w hw => hts w (List.mem_cons_of_mem _ hw)⟩
  have hlocks := B.notSynchronized
  have hret := B.returns
  have hR : 2 ≤ (headSpec (wM yX12_cry cX12_cry 5 (some .int)) { frames := 2, cells := 0, slots := 0, locals := 42 }).room.frames ∧ 42 ≤ (headSpec (wM yX12_cry cX12_cry 5 (some .int)) { frames := 2, cells := 0, slots := 0, locals := 42 }).room.locals := ⟨Nat.le_refl _, Nat.le_refl _⟩
  have dy : Dy D cA ad (V, g) A s.heap s.heap [] := ⟨w0, va_S.rf⟩
  have hl := lv_entry [.ref (ad k0), .int a1, .int a2] (n := 5) (Nat.le_of_ble_eq_true rfl)
  rw [lg_entry_eq]
  generalize (lg_sl [.ref (ad k0), .int a1, .int a2] ++ List.replicate (5 - (lg_sl [.ref (ad k0), .int a1, .int a2]).length) Slot.unset).toArray = ls at hl ⊢
  have hl : lv_has ls 5 [(0, .ref (ad k0)), (1, .int a1), (2, .int a2)] := hl
  have dy0 : ∃ H0, H0 = s.heap ∧ Dy D cA ad (V, g) A s.heap H0 [] := ⟨_, rfl, dy⟩
  obtain ⟨z, ez⟩ : ∃ z, z = (r0, g0) := ⟨_, rfl⟩
  rw [← ez] at hr
  have hq0 : ∀ (rb : Int32) (gb : Hq), z = (rb, gb) → rb = r0 ∧ gb = g0 := fun rb gb eb => by rw [ez] at eb; exact ⟨(congrArg Prod.fst eb).symm, (congrArg Prod.snd eb).symm⟩
  clear ez w0 dy0
  unfold r_X12_cry at hr
  obtain ⟨H, hH⟩ : ∃ H, H = s.heap := ⟨_, rfl⟩
  obtain ⟨locs, hlo⟩ : ∃ q : List Loc, q = [] := ⟨_, rfl⟩
  have dy : Dy D cA ad (V, g) A s.heap H locs := by rw [hH, hlo]; exact dy
  suffices K : W p l e (headSpec (wM yX12_cry cX12_cry 5 (some .int)) { frames := 2, cells := 0, slots := 0, locals := 42 }).room s m ([.ref (ad k0), .int a1, .int a2] : List Value).toArray below meth c H locs 0 0 (MQ below (QI D cA ad A r0 (V, g0)) ([.ref (ad k0), .int a1, .int a2] : List Value).toArray s 0 0 A) (F0 m 0 ls []) by rw [hH, hlo] at K; exact K
  clear hH hlo
  refine lv_iload_n cx.1 cx.2.1 dX12_cry_0 rfl (lv_at hl 1 rfl) ?_
  obtain ⟨x2, g1, hc3, hr⟩ := of_bnd2 hr
  refine r_i dy (k_S (As := [.int a1]) cx fx dy (c_X12_isCourt hc3) mv_X12_isCourt rfl rfl ⟨Nat.le_trans (by decide) hR.1, Nat.le_trans (by decide) hR.2⟩ tb_1167 rfl hl.1 rfl (Nat.le_of_ble_eq_true rfl) ⟨Nat.zero_le _, Nat.zero_le _⟩ dX12_cry_1) (fun H locs dy => ?_)
  rcases of_brn hr with ⟨hc, hr⟩ | ⟨hc, hr⟩
  · refine lv_if_eq (tgt := 18) cx.1 cx.2.1 dX12_cry_4 (by decide) (fun _ => ?_) (fun hn => absurd hc hn)
    refine lv_bipush (v := (-2)) cx.1 cx.2.1 dX12_cry_18 (by decide) ?_
    obtain ⟨e0, e1⟩ := hq0 _ _ (Option.some.inj hr).symm
    exact h_iret cx dy hlocks hret rfl e0 (by rw [e1]) dX12_cry_20
  · refine lv_if_eq (tgt := 18) cx.1 cx.2.1 dX12_cry_4 (by decide) (fun hn => absurd hn hc) (fun _ => ?_)
    refine lv_iload_n cx.1 cx.2.1 dX12_cry_7 rfl (lv_at hl 2 rfl) ?_
    refine lv_iconst (v := 0) cx.1 cx.2.1 dX12_cry_8 (by decide) ?_
    refine lv_sipush (v := 999) cx.1 cx.2.1 dX12_cry_9 (by decide) ?_
    obtain ⟨x5, g4, hc6, hr⟩ := of_bnd2 hr
    refine r_i dy (k_S (As := [.int a2, .int (0 : Int32), .int (999 : Int32)]) cx fx dy (c_X12_in hc6) mv_X12_in rfl rfl ⟨Nat.le_trans (by decide) hR.1, Nat.le_trans (by decide) hR.2⟩ tb_1170 rfl hl.1 rfl (Nat.le_of_ble_eq_true rfl) ⟨Nat.zero_le _, Nat.zero_le _⟩ dX12_cry_12) (fun H locs dy => ?_)
    rcases of_brn hr with ⟨hc, hr⟩ | ⟨hc, hr⟩
    · refine lv_if_ne (tgt := 21) cx.1 cx.2.1 dX12_cry_15 (by decide) (fun hn => absurd hc hn) (fun _ => ?_)
      refine lv_bipush (v := (-2)) cx.1 cx.2.1 dX12_cry_18 (by decide) ?_
      obtain ⟨e0, e1⟩ := hq0 _ _ (Option.some.inj hr).symm
      exact h_iret cx dy hlocks hret rfl e0 (by rw [e1]) dX12_cry_20
    · refine lv_if_ne (tgt := 21) cx.1 cx.2.1 dX12_cry_15 (by decide) (fun _ => ?_) (fun hn => absurd hn hc)
      refine lv_iconst (v := 0) cx.1 cx.2.1 dX12_cry_21 (by decide) ?_
      refine lv_istore_n (lv' := [(3, .int (0 : Int32)), (0, .ref (ad k0)), (1, .int a1), (2, .int a2)]) cx.1 cx.2.1 dX12_cry_22 rfl hl (by decide) rfl (fun ls hl => ?_)
      refine lv_iconst (v := 0) cx.1 cx.2.1 dX12_cry_23 (by decide) ?_
      refine lv_istore (lv' := [(4, .int (0 : Int32)), (3, .int (0 : Int32)), (0, .ref (ad k0)), (1, .int a1), (2, .int a2)]) cx.1 cx.2.1 dX12_cry_24 hl (by decide) rfl (fun ls hl => ?_)
      obtain ⟨n, hr⟩ := lop_some hr
      exact w_X12_cry_26 cx fx hlocks hret hR r0 g0 z hq0 n k0 a1 a2 (0 : Int32) (0 : Int32) g4 hr H locs ls dy (lv_sub hl [2, 3, 4, 1, 0] rfl)
