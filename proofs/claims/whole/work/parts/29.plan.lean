noncomputable def r_X6_tell (V : Vk) (k0 : Nat) (a1 : Int32) (g : Hq) : Option (Int32 × Hq) :=
  grd (V k0 = some (6, 0)) <| brn ((g.1 k0 7) = 0) (some ((-9 : Int32), g)) (brn (a1 = 0) (some ((g.1 k0 8), g)) (bnd (r_X11_isFrom V a1 (10 : Int32) (21 : Int32) g) fun x3 g2 => brn (x3 = 0) (bnd (r_X11_isFrom V a1 (30 : Int32) (((30 : Int32) + (g2.1 k0 7)) - (1 : Int32)) g2) fun x6 g5 => brn (x6 = 0) (bnd (r_X11_isFrom V a1 (50 : Int32) (((50 : Int32) + (g5.1 k0 7)) - (1 : Int32)) g5) fun x9 g8 => brn (x9 = 0) (some ((-9 : Int32), g8)) (Option.bind (g8.2.2 k0 11) fun k11 => grd (okV V k11 0 (a1 - (50 : Int32))) <| some ((g8.1 k11 (a1 - (50 : Int32)).toNatClampNeg), g8))) (Option.bind (g5.2.2 k0 10) fun k14 => grd (okV V k14 0 (a1 - (30 : Int32))) <| some ((g5.1 k14 (a1 - (30 : Int32)).toNatClampNeg), g5))) (Option.bind (g2.2.2 k0 9) fun k17 => grd (okV V k17 0 (a1 - (10 : Int32))) <| some ((g2.1 k17 (a1 - (10 : Int32)).toNatClampNeg), g2))))
set_option maxHeartbeats 4000000 in
set_option maxRecDepth 100000 in
theorem c_X6_tell {l : Launch} {D : va_G} {cA : Nat → ClassId} {sk : (Nat → Nat) × (Nat → Nat)} {ad : Nat → Nat} {A : Nat → Prop} {V : Vk} {k0 : Nat} {a1 : Int32} {g g0 : Hq} {r0 : Int32} (hr : r_X6_tell V k0 a1 g = some (r0, g0)) : Met l yX6_tell (wM yX6_tell cX6_tell 2 (some .int)) { frames := 1, cells := 0, slots := 0, locals := 22 } (Pre D cA sk ad (V, g) A [.ref (ad k0), .int a1]) (QI D cA ad A r0 (V, g0)) 0 0 A := by
  refine Met.ofW (cc := cX6_tell) (maxL := 2) (ret := (some .int)) (by decide) rfl ?_
  intro p e s m args below meth c s₁ B hml hv
  obtain ⟨rfl, fx, w0⟩ := hv
  have hts := atoms_spec (ws := wM yX6_tell cX6_tell 2 (some .int)) B.pre
  have cx : CallFix p m c cX6_tell 2 s ([.ref (ad k0), .int a1] : List Value).toArray gw_tbl RX6 := ⟨B.exec, B.bytes, hml, findClass_of_methodNamed B.named, fun w hw => hts w (List.mem_cons_of_mem _ hw)⟩
  have hlocks := B.notSynchronized
  have hret := B.returns
  have hR : 1 ≤ (headSpec (wM yX6_tell cX6_tell 2 (some .int)) { frames := 1, cells := 0, slots := 0, locals := 22 }).room.frames ∧ 22 ≤ (headSpec (wM yX6_tell cX6_tell 2 (some .int)) { frames := 1, cells := 0, slots := 0, locals := 22 }).room.locals := ⟨Nat.le_refl _, Nat.le_refl _⟩
  have dy : Dy D cA ad (V, g) A s.heap s.heap [] := ⟨w0, va_S.rf⟩
  have hl := lv_entry [.ref (ad k0), .int a1] (n := 2) (Nat.le_of_ble_eq_true rfl)
  rw [lg_entry_eq]
  generalize (lg_sl [.ref (ad k0), .int a1] ++ List.replicate (2 - (lg_sl [.ref (ad k0), .int a1]).length) Slot.unset).toArray = ls at hl ⊢
  have hl : lv_has ls 2 [(0, .ref (ad k0)), (1, .int a1)] := hl
  have dy0 : ∃ H0, H0 = s.heap ∧ Dy D cA ad (V, g) A s.heap H0 [] := ⟨_, rfl, dy⟩
  obtain ⟨z, ez⟩ : ∃ z, z = (r0, g0) := ⟨_, rfl⟩
  rw [← ez] at hr
  have hq0 : ∀ (rb : Int32) (gb : Hq), z = (rb, gb) → rb = r0 ∧ gb = g0 := fun rb gb eb => by rw [ez] at eb; exact ⟨(congrArg Prod.fst eb).symm, (congrArg Prod.snd eb).symm⟩
  clear ez w0 dy0
  unfold r_X6_tell at hr
  obtain ⟨H, hH⟩ : ∃ H, H = s.heap := ⟨_, rfl⟩
  obtain ⟨locs, hlo⟩ : ∃ q : List Loc, q = [] := ⟨_, rfl⟩
  have dy : Dy D cA ad (V, g) A s.heap H locs := by rw [hH, hlo]; exact dy
  suffices K : W p l e (headSpec (wM yX6_tell cX6_tell 2 (some .int)) { frames := 1, cells := 0, slots := 0, locals := 22 }).room s m ([.ref (ad k0), .int a1] : List Value).toArray below meth c H locs 0 0 (MQ below (QI D cA ad A r0 (V, g0)) ([.ref (ad k0), .int a1] : List Value).toArray s 0 0 A) (F0 m 0 ls []) by rw [hH, hlo] at K; exact K
  clear hH hlo
  refine lv_aload_n cx.1 cx.2.1 dX6_tell_0 rfl (lv_at hl 0 rfl) ?_
  obtain ⟨hv1, hr⟩ := of_grd hr
  refine h_getI cx fx dy fd_6_7 hv1 tb_138 dX6_tell_1 ?_
  rcases of_brn hr with ⟨hc, hr⟩ | ⟨hc, hr⟩
  · refine lv_if_ne (tgt := 10) cx.1 cx.2.1 dX6_tell_4 (by decide) (fun hn => absurd hc hn) (fun _ => ?_)
    refine lv_bipush (v := (-9)) cx.1 cx.2.1 dX6_tell_7 (by decide) ?_
    obtain ⟨e0, e1⟩ := hq0 _ _ (Option.some.inj hr).symm
    exact h_iret cx dy hlocks hret rfl e0 (by rw [e1]) dX6_tell_9
  · refine lv_if_ne (tgt := 10) cx.1 cx.2.1 dX6_tell_4 (by decide) (fun _ => ?_) (fun hn => absurd hn hc)
    refine lv_iload_n cx.1 cx.2.1 dX6_tell_10 rfl (lv_at hl 1 rfl) ?_
    rcases of_brn hr with ⟨hc, hr⟩ | ⟨hc, hr⟩
    · refine lv_if_ne (tgt := 19) cx.1 cx.2.1 dX6_tell_11 (by decide) (fun hn => absurd hc hn) (fun _ => ?_)
      refine lv_aload_n cx.1 cx.2.1 dX6_tell_14 rfl (lv_at hl 0 rfl) ?_
      refine h_getI cx fx dy fd_6_8 hv1 tb_139 dX6_tell_15 ?_
      obtain ⟨e0, e1⟩ := hq0 _ _ (Option.some.inj hr).symm
      exact h_iret cx dy hlocks hret rfl e0 (by rw [e1]) dX6_tell_18
    · refine lv_if_ne (tgt := 19) cx.1 cx.2.1 dX6_tell_11 (by decide) (fun _ => ?_) (fun hn => absurd hn hc)
      refine lv_iload_n cx.1 cx.2.1 dX6_tell_19 rfl (lv_at hl 1 rfl) ?_
      refine lv_bipush (v := 10) cx.1 cx.2.1 dX6_tell_20 (by decide) ?_
      refine lv_bipush (v := 21) cx.1 cx.2.1 dX6_tell_22 (by decide) ?_
      obtain ⟨x3, g2, hc4, hr⟩ := of_bnd2 hr
      refine r_i dy (k_SN (As := [.int a1, .int (10 : Int32), .int (21 : Int32)]) cx fx dy (c_X11_isFrom hc4) mv_X11_isFrom rfl rfl ⟨Nat.le_trans (by decide) hR.1, Nat.le_trans (by decide) hR.2⟩ tb_542 rfl hl.1 rfl (Nat.le_of_ble_eq_true rfl) ⟨Nat.zero_le _, Nat.zero_le _⟩ dX6_tell_24) (fun H locs dy => ?_)
      rcases of_brn hr with ⟨hc, hr⟩ | ⟨hc, hr⟩
      · refine lv_if_eq (tgt := 40) cx.1 cx.2.1 dX6_tell_27 (by decide) (fun _ => ?_) (fun hn => absurd hc hn)
        refine lv_iload_n cx.1 cx.2.1 dX6_tell_40 rfl (lv_at hl 1 rfl) ?_
        refine lv_bipush (v := 30) cx.1 cx.2.1 dX6_tell_41 (by decide) ?_
        refine lv_bipush (v := 30) cx.1 cx.2.1 dX6_tell_43 (by decide) ?_
        refine lv_aload_n cx.1 cx.2.1 dX6_tell_45 rfl (lv_at hl 0 rfl) ?_
        refine h_getI cx fx dy fd_6_7 hv1 tb_138 dX6_tell_46 ?_
        refine lv_iadd cx.1 cx.2.1 dX6_tell_49 ?_
        refine lv_iconst (v := 1) cx.1 cx.2.1 dX6_tell_50 (by decide) ?_
        refine lv_isub cx.1 cx.2.1 dX6_tell_51 ?_
        obtain ⟨x6, g5, hc7, hr⟩ := of_bnd2 hr
        refine r_i dy (k_SN (As := [.int a1, .int (30 : Int32), .int (((30 : Int32) + (g2.1 k0 7)) - (1 : Int32))]) cx fx dy (c_X11_isFrom hc7) mv_X11_isFrom rfl rfl ⟨Nat.le_trans (by decide) hR.1, Nat.le_trans (by decide) hR.2⟩ tb_542 rfl hl.1 rfl (Nat.le_of_ble_eq_true rfl) ⟨Nat.zero_le _, Nat.zero_le _⟩ dX6_tell_52) (fun H locs dy => ?_)
        rcases of_brn hr with ⟨hc, hr⟩ | ⟨hc, hr⟩
        · refine lv_if_eq (tgt := 68) cx.1 cx.2.1 dX6_tell_55 (by decide) (fun _ => ?_) (fun hn => absurd hc hn)
          refine lv_iload_n cx.1 cx.2.1 dX6_tell_68 rfl (lv_at hl 1 rfl) ?_
          refine lv_bipush (v := 50) cx.1 cx.2.1 dX6_tell_69 (by decide) ?_
          refine lv_bipush (v := 50) cx.1 cx.2.1 dX6_tell_71 (by decide) ?_
          refine lv_aload_n cx.1 cx.2.1 dX6_tell_73 rfl (lv_at hl 0 rfl) ?_
          refine h_getI cx fx dy fd_6_7 hv1 tb_138 dX6_tell_74 ?_
          refine lv_iadd cx.1 cx.2.1 dX6_tell_77 ?_
          refine lv_iconst (v := 1) cx.1 cx.2.1 dX6_tell_78 (by decide) ?_
          refine lv_isub cx.1 cx.2.1 dX6_tell_79 ?_
          obtain ⟨x9, g8, hc10, hr⟩ := of_bnd2 hr
          refine r_i dy (k_SN (As := [.int a1, .int (50 : Int32), .int (((50 : Int32) + (g5.1 k0 7)) - (1 : Int32))]) cx fx dy (c_X11_isFrom hc10) mv_X11_isFrom rfl rfl ⟨Nat.le_trans (by decide) hR.1, Nat.le_trans (by decide) hR.2⟩ tb_542 rfl hl.1 rfl (Nat.le_of_ble_eq_true rfl) ⟨Nat.zero_le _, Nat.zero_le _⟩ dX6_tell_80) (fun H locs dy => ?_)
          rcases of_brn hr with ⟨hc, hr⟩ | ⟨hc, hr⟩
          · refine lv_if_eq (tgt := 98) cx.1 cx.2.1 dX6_tell_83 (by decide) (fun _ => ?_) (fun hn => absurd hc hn)
            refine lv_bipush (v := (-9)) cx.1 cx.2.1 dX6_tell_98 (by decide) ?_
            obtain ⟨e0, e1⟩ := hq0 _ _ (Option.some.inj hr).symm
            exact h_iret cx dy hlocks hret rfl e0 (by rw [e1]) dX6_tell_100
          · refine lv_if_eq (tgt := 98) cx.1 cx.2.1 dX6_tell_83 (by decide) (fun hn => absurd hn hc) (fun _ => ?_)
            refine lv_aload_n cx.1 cx.2.1 dX6_tell_86 rfl (lv_at hl 0 rfl) ?_
            obtain ⟨k11, hf12, hr⟩ := of_bnd hr
            refine h_getR cx fx dy fd_6_11 hv1 tb_142 hf12 dX6_tell_87 ?_
            refine lv_iload_n cx.1 cx.2.1 dX6_tell_90 rfl (lv_at hl 1 rfl) ?_
            refine lv_bipush (v := 50) cx.1 cx.2.1 dX6_tell_91 (by decide) ?_
            refine lv_isub cx.1 cx.2.1 dX6_tell_93 ?_
            obtain ⟨ha13, hr⟩ := of_grd hr
            refine h_iald cx fx dy ha13 dX6_tell_94 ?_
            refine lv_goto (tgt := 100) cx.1 cx.2.1 dX6_tell_95 (by decide) ?_
            obtain ⟨e0, e1⟩ := hq0 _ _ (Option.some.inj hr).symm
            exact h_iret cx dy hlocks hret rfl e0 (by rw [e1]) dX6_tell_100
        · refine lv_if_eq (tgt := 68) cx.1 cx.2.1 dX6_tell_55 (by decide) (fun hn => absurd hn hc) (fun _ => ?_)
          refine lv_aload_n cx.1 cx.2.1 dX6_tell_58 rfl (lv_at hl 0 rfl) ?_
          obtain ⟨k14, hf15, hr⟩ := of_bnd hr
          refine h_getR cx fx dy fd_6_10 hv1 tb_141 hf15 dX6_tell_59 ?_
          refine lv_iload_n cx.1 cx.2.1 dX6_tell_62 rfl (lv_at hl 1 rfl) ?_
          refine lv_bipush (v := 30) cx.1 cx.2.1 dX6_tell_63 (by decide) ?_
          refine lv_isub cx.1 cx.2.1 dX6_tell_65 ?_
          obtain ⟨ha16, hr⟩ := of_grd hr
          refine h_iald cx fx dy ha16 dX6_tell_66 ?_
          obtain ⟨e0, e1⟩ := hq0 _ _ (Option.some.inj hr).symm
          exact h_iret cx dy hlocks hret rfl e0 (by rw [e1]) dX6_tell_67
      · refine lv_if_eq (tgt := 40) cx.1 cx.2.1 dX6_tell_27 (by decide) (fun hn => absurd hn hc) (fun _ => ?_)
        refine lv_aload_n cx.1 cx.2.1 dX6_tell_30 rfl (lv_at hl 0 rfl) ?_
        obtain ⟨k17, hf18, hr⟩ := of_bnd hr
        refine h_getR cx fx dy fd_6_9 hv1 tb_140 hf18 dX6_tell_31 ?_
        refine lv_iload_n cx.1 cx.2.1 dX6_tell_34 rfl (lv_at hl 1 rfl) ?_
        refine lv_bipush (v := 10) cx.1 cx.2.1 dX6_tell_35 (by decide) ?_
        refine lv_isub cx.1 cx.2.1 dX6_tell_37 ?_
        obtain ⟨ha19, hr⟩ := of_grd hr
        refine h_iald cx fx dy ha19 dX6_tell_38 ?_
        obtain ⟨e0, e1⟩ := hq0 _ _ (Option.some.inj hr).symm
        exact h_iret cx dy hlocks hret rfl e0 (by rw [e1]) dX6_tell_39
noncomputable def r_X6_listCourts_7' (V : Vk) (k3 : Nat) (x4 : Int32) (x5 : Int32) (g6 : Hq) : Option ((Nat × Int32 × Int32 × Hq) ⊕ (Unit × Hq)) :=
  brn ((12 : Int32) ≤ x5) (some (.inr ((), g6))) (grd (V k3 = some (6, 0)) <| brn ((10 : Int32) ≤ (g6.1 k3 6)) (some (.inr ((), g6))) (brn (((x4 >>> (x5 &&& 31)) &&& (1 : Int32)) = (1 : Int32)) (Option.bind (g6.2.2 k3 0) fun k8 => grd (okV V k8 0 (g6.1 k3 6)) <| nm (sI g6 k8 (g6.1 k3 6).toNatClampNeg x5) fun g11 => nm (sI g11 k3 6 ((g11.1 k3 6) + (1 : Int32))) fun g12 => nm (x5 + (1 : Int32)) fun x13 => some (.inl (k3, x4, x13, g12))) (nm (x5 + (1 : Int32)) fun x14 => some (.inl (k3, x4, x14, g6)))))
noncomputable def r_X6_listCourts_7 (V : Vk) (st : (Nat × Int32 × Int32 × Hq)) : Option ((Nat × Int32 × Int32 × Hq) ⊕ (Unit × Hq)) := r_X6_listCourts_7' V st.1 st.2.1 st.2.2.1 st.2.2.2
set_option maxHeartbeats 4000000 in
set_option maxRecDepth 100000 in
theorem w_X6_listCourts_7 {p : Program} {l : Launch} {e : Env} {R : Room} {s : State} {m : MethodId} {args : Array Value} {below : List Frame} {meth : Method} {c : Code} {D : va_G} {cA : Nat → ClassId} {sk : (Nat → Nat) × (Nat → Nat)} {ad : Nat → Nat} {A : Nat → Prop} {V : Vk} (cx : CallFix p m c cX6_listCourts 3 s args gw_tbl RX6) (fx : Fx D cA sk A s) (hlocks : meth.locks = false) (hret : meth.sig.returnType = none) (hR : 0 ≤ R.frames ∧ 0 ≤ R.locals) (g0 : Hq) (y : (Unit × Hq)) (hq : ∀ (rb : Unit) (gb : Hq), y = (rb, gb) → gb = g0) : ∀ (n : Nat) (k3 : Nat) (x4 : Int32) (x5 : Int32) (g6 : Hq), itr (r_X6_listCourts_7 V) n (k3, x4, x5, g6) = some y → ∀ (H : Heap) (locs : List Loc) (ls : Array Slot), Dy D cA ad (V, g6) A s.heap H locs → lv_has ls 3 [(0, .ref (ad k3)), (1, .int x4), (2, .int x5)] → W p l e R s m args below meth c H locs 0 0 (MQ below (QV D cA ad A (V, g0)) args s 0 0 A) (F0 m 7 ls []) := by
  intro n
  induction n with
  | zero => intro k3 x4 x5 g6 hr; cases hr
  | succ n ih =>
    intro k3 x4 x5 g6 hr H locs ls dy hl
    obtain ⟨z, hz, hn1, hn2⟩ := itr_succ hr
    clear hr
    have hr : r_X6_listCourts_7' V k3 x4 x5 g6 = some z := hz
    clear hz
    unfold r_X6_listCourts_7' at hr
    have hh0 : ∀ (b0 : Nat) (b1 : Int32) (b2 : Int32) (gb : Hq), z = .inl (b0, b1, b2, gb) → ∀ (H : Heap) (locs : List Loc) (ls : Array Slot), Dy D cA ad (V, gb) A s.heap H locs → lv_has ls 3 [(0, .ref (ad b0)), (1, .int b1), (2, .int b2)] → W p l e R s m args below meth c H locs 0 0 (MQ below (QV D cA ad A (V, g0)) args s 0 0 A) (F0 m 7 ls []) := fun b0 b1 b2 gb eb => ih b0 b1 b2 gb (hn1 _ eb)
    have hq0 : ∀ (rb : Unit) (gb : Hq), z = (.inr (rb, gb)) → gb = g0 := fun rb gb eb => hq rb gb (hn2 _ eb).symm
    refine lv_iload_n cx.1 cx.2.1 dX6_listCourts_7 rfl (lv_at hl 2 rfl) ?_
    refine lv_bipush (v := 12) cx.1 cx.2.1 dX6_listCourts_8 (by decide) ?_
    rcases of_brn hr with ⟨hc, hr⟩ | ⟨hc, hr⟩
    · refine lv_icmp_ge (tgt := 57) cx.1 cx.2.1 dX6_listCourts_10 (by decide) (fun _ => ?_) (fun hn => absurd hc hn)
      have e1 := hq0 _ _ (Option.some.inj hr).symm
      exact h_vret cx dy hlocks hret (by rw [e1]) dX6_listCourts_57
    · refine lv_icmp_ge (tgt := 57) cx.1 cx.2.1 dX6_listCourts_10 (by decide) (fun hn => absurd hn hc) (fun _ => ?_)
      refine lv_aload_n cx.1 cx.2.1 dX6_listCourts_13 rfl (lv_at hl 0 rfl) ?_
      obtain ⟨hv7, hr⟩ := of_grd hr
      refine h_getI cx fx dy fd_6_6 hv7 tb_137 dX6_listCourts_14 ?_
      refine lv_bipush (v := 10) cx.1 cx.2.1 dX6_listCourts_17 (by decide) ?_
      rcases of_brn hr with ⟨hc, hr⟩ | ⟨hc, hr⟩
      · refine lv_icmp_ge (tgt := 57) cx.1 cx.2.1 dX6_listCourts_19 (by decide) (fun _ => ?_) (fun hn => absurd hc hn)
        have e1 := hq0 _ _ (Option.some.inj hr).symm
        exact h_vret cx dy hlocks hret (by rw [e1]) dX6_listCourts_57
      · refine lv_icmp_ge (tgt := 57) cx.1 cx.2.1 dX6_listCourts_19 (by decide) (fun hn => absurd hn hc) (fun _ => ?_)
        refine lv_iload_n cx.1 cx.2.1 dX6_listCourts_22 rfl (lv_at hl 1 rfl) ?_
        refine lv_iload_n cx.1 cx.2.1 dX6_listCourts_23 rfl (lv_at hl 2 rfl) ?_
        refine lv_ishr cx.1 cx.2.1 dX6_listCourts_24 ?_
        refine lv_iconst (v := 1) cx.1 cx.2.1 dX6_listCourts_25 (by decide) ?_
        refine lv_iand cx.1 cx.2.1 dX6_listCourts_26 ?_
        refine lv_iconst (v := 1) cx.1 cx.2.1 dX6_listCourts_27 (by decide) ?_
        rcases of_brn hr with ⟨hc, hr⟩ | ⟨hc, hr⟩
        · refine lv_icmp_ne (tgt := 51) cx.1 cx.2.1 dX6_listCourts_28 (by decide) (fun hn => absurd hc hn) (fun _ => ?_)
          refine lv_aload_n cx.1 cx.2.1 dX6_listCourts_31 rfl (lv_at hl 0 rfl) ?_
          obtain ⟨k8, hf9, hr⟩ := of_bnd hr
          refine h_getR cx fx dy fd_6_0 hv7 tb_131 hf9 dX6_listCourts_32 ?_
          refine lv_aload_n cx.1 cx.2.1 dX6_listCourts_35 rfl (lv_at hl 0 rfl) ?_
          refine h_getI cx fx dy fd_6_6 hv7 tb_137 dX6_listCourts_36 ?_
          refine lv_iload_n cx.1 cx.2.1 dX6_listCourts_39 rfl (lv_at hl 2 rfl) ?_
          obtain ⟨ha10, hr⟩ := of_grd hr
          obtain ⟨g11, eg11, hr⟩ := of_nm hr
          refine h_iast cx fx dy ha10 dX6_listCourts_40 (fun H locs dy => ?_)
          replace dy : Dy D cA ad (V, g11) A s.heap H locs := by rw [eg11]; exact dy
          refine lv_aload_n cx.1 cx.2.1 dX6_listCourts_41 rfl (lv_at hl 0 rfl) ?_
          refine lv_dup cx.1 cx.2.1 dX6_listCourts_42 rfl ?_
          refine h_getI cx fx dy fd_6_6 hv7 tb_137 dX6_listCourts_43 ?_
          refine lv_iconst (v := 1) cx.1 cx.2.1 dX6_listCourts_46 (by decide) ?_
          refine lv_iadd cx.1 cx.2.1 dX6_listCourts_47 ?_
          obtain ⟨g12, eg12, hr⟩ := of_nm hr
          refine h_putI cx fx dy fd_6_6 (pd_6_6 : PD _ _ _ _ _ .int) rfl rfl rfl hv7 tb_137 dX6_listCourts_48 (fun H locs dy => ?_)
          replace dy : Dy D cA ad (V, g12) A s.heap H locs := by rw [eg12]; exact dy
          obtain ⟨x13, ex13, hr⟩ := of_nm hr
          refine lv_iinc (v := x13) (lv' := [(2, .int x13), (0, .ref (ad k3)), (1, .int x4)]) cx.1 cx.2.1 dX6_listCourts_51 hl (k := 2) rfl (by rw [ex13]; rfl) (by decide) rfl (fun ls hl => ?_)
          refine lv_goto (tgt := 7) cx.1 cx.2.1 dX6_listCourts_54 (by decide) ?_
          exact hh0 k3 x4 x13 g12 (Option.some.inj hr).symm H locs ls dy (lv_sub hl [1, 2, 0] rfl)
        · refine lv_icmp_ne (tgt := 51) cx.1 cx.2.1 dX6_listCourts_28 (by decide) (fun _ => ?_) (fun hn => absurd hn hc)
          obtain ⟨x14, ex14, hr⟩ := of_nm hr
          refine lv_iinc (v := x14) (lv' := [(2, .int x14), (0, .ref (ad k3)), (1, .int x4)]) cx.1 cx.2.1 dX6_listCourts_51 hl (k := 2) rfl (by rw [ex14]; rfl) (by decide) rfl (fun ls hl => ?_)
          refine lv_goto (tgt := 7) cx.1 cx.2.1 dX6_listCourts_54 (by decide) ?_
          exact hh0 k3 x4 x14 g6 (Option.some.inj hr).symm H locs ls dy (lv_sub hl [1, 2, 0] rfl)
noncomputable def r_X6_listCourts (V : Vk) (k0 : Nat) (a1 : Int32) (g : Hq) : Option (Unit × Hq) :=
  grd (V k0 = some (6, 0)) <| nm (sI g k0 6 (0 : Int32)) fun g2 => (lop (r_X6_listCourts_7 V) (k0, a1, (0 : Int32), g2))
set_option maxHeartbeats 4000000 in
set_option maxRecDepth 100000 in
theorem c_X6_listCourts {l : Launch} {D : va_G} {cA : Nat → ClassId} {sk : (Nat → Nat) × (Nat → Nat)} {ad : Nat → Nat} {A : Nat → Prop} {V : Vk} {k0 : Nat} {a1 : Int32} {g g0 : Hq} (hr : r_X6_listCourts V k0 a1 g = some ((), g0)) : Met l yX6_listCourts (wM yX6_listCourts cX6_listCourts 3 none) { frames := 0, cells := 0, slots := 0, locals := 0 } (Pre D cA sk ad (V, g) A [.ref (ad k0), .int a1]) (QV D cA ad A (V, g0)) 0 0 A := by
  refine Met.ofW (cc := cX6_listCourts) (maxL := 3) (ret := none) (by decide) rfl ?_
  intro p e s m args below meth c s₁ B hml hv
  obtain ⟨rfl, fx, w0⟩ := hv
  have hts := atoms_spec (ws := wM yX6_listCourts cX6_listCourts 3 none) B.pre
  have cx : CallFix p m c cX6_listCourts 3 s ([.ref (ad k0), .int a1] : List Value).toArray gw_tbl RX6 := ⟨B.exec, B.bytes, hml, findClass_of_methodNamed B.named, fun w hw => hts w (List.mem_cons_of_mem _ hw)⟩
  have hlocks := B.notSynchronized
  have hret := B.returns
  have hR : 0 ≤ (headSpec (wM yX6_listCourts cX6_listCourts 3 none) { frames := 0, cells := 0, slots := 0, locals := 0 }).room.frames ∧ 0 ≤ (headSpec (wM yX6_listCourts cX6_listCourts 3 none) { frames := 0, cells := 0, slots := 0, locals := 0 }).room.locals := ⟨Nat.le_refl _, Nat.le_refl _⟩
  have dy : Dy D cA ad (V, g) A s.heap s.heap [] := ⟨w0, va_S.rf⟩
  have hl := lv_entry [.ref (ad k0), .int a1] (n := 3) (Nat.le_of_ble_eq_true rfl)
  rw [lg_entry_eq]
  generalize (lg_sl [.ref (ad k0), .int a1] ++ List.replicate (3 - (lg_sl [.ref (ad k0), .int a1]).length) Slot.unset).toArray = ls at hl ⊢
  have hl : lv_has ls 3 [(0, .ref (ad k0)), (1, .int a1)] := hl
  have dy0 : ∃ H0, H0 = s.heap ∧ Dy D cA ad (V, g) A s.heap H0 [] := ⟨_, rfl, dy⟩
  obtain ⟨z, ez⟩ : ∃ z, z = (((), g0) : Unit × Hq) := ⟨_, rfl⟩
  rw [← ez] at hr
  have hq0 : ∀ (rb : Unit) (gb : Hq), z = (rb, gb) → gb = g0 := fun rb gb eb => by rw [ez] at eb; exact (congrArg Prod.snd eb).symm
  clear ez w0 dy0
  unfold r_X6_listCourts at hr
  obtain ⟨H, hH⟩ : ∃ H, H = s.heap := ⟨_, rfl⟩
  obtain ⟨locs, hlo⟩ : ∃ q : List Loc, q = [] := ⟨_, rfl⟩
  have dy : Dy D cA ad (V, g) A s.heap H locs := by rw [hH, hlo]; exact dy
  suffices K : W p l e (headSpec (wM yX6_listCourts cX6_listCourts 3 none) { frames := 0, cells := 0, slots := 0, locals := 0 }).room s m ([.ref (ad k0), .int a1] : List Value).toArray below meth c H locs 0 0 (MQ below (QV D cA ad A (V, g0)) ([.ref (ad k0), .int a1] : List Value).toArray s 0 0 A) (F0 m 0 ls []) by rw [hH, hlo] at K; exact K
  clear hH hlo
  refine lv_aload_n cx.1 cx.2.1 dX6_listCourts_0 rfl (lv_at hl 0 rfl) ?_
  refine lv_iconst (v := 0) cx.1 cx.2.1 dX6_listCourts_1 (by decide) ?_
  obtain ⟨hv1, hr⟩ := of_grd hr
  obtain ⟨g2, eg2, hr⟩ := of_nm hr
  refine h_putI cx fx dy fd_6_6 (pd_6_6 : PD _ _ _ _ _ .int) rfl rfl rfl hv1 tb_137 dX6_listCourts_2 (fun H locs dy => ?_)
  replace dy : Dy D cA ad (V, g2) A s.heap H locs := by rw [eg2]; exact dy
  refine lv_iconst (v := 0) cx.1 cx.2.1 dX6_listCourts_5 (by decide) ?_
  refine lv_istore_n (lv' := [(2, .int (0 : Int32)), (0, .ref (ad k0)), (1, .int a1)]) cx.1 cx.2.1 dX6_listCourts_6 rfl hl (by decide) rfl (fun ls hl => ?_)
  obtain ⟨n, hr⟩ := lop_some hr
  exact w_X6_listCourts_7 cx fx hlocks hret hR g0 z hq0 n k0 a1 (0 : Int32) g2 hr H locs ls dy (lv_sub hl [1, 2, 0] rfl)
noncomputable def r_X6_measureSteps_12' (V : Vk) (k6 : Nat) (k7 : Nat) (x8 : Int32) (x9 : Int32) (g10 : Hq) : Option ((Nat × Nat × Int32 × Int32 × Hq) ⊕ ((Nat × Nat × Int32 × Hq) ⊕ (Unit × Hq))) :=
  grd (V k6 = some (6, 0)) <| brn ((g10.1 k6 6) ≤ x9) (nm (x8 + (1 : Int32)) fun x12 => some (.inr (.inl (k6, k7, x12, g10)))) (Option.bind (g10.2.2 k6 0) fun k13 => grd (okV V k13 0 x8) <| Option.bind (g10.2.2 k6 0) fun k16 => grd (okV V k16 0 x9) <| grd (V k7 = some (9, 0)) <| bnd (r_X9_leastMinutes V k7 (g10.1 k13 x8.toNatClampNeg) (g10.1 k16 x9.toNatClampNeg) g10) fun x20 g19 => Option.bind (g19.2.2 k6 1) fun k23 => brn (x20 = (-1 : Int32)) (grd (okV V k23 0 ((x8 * (10 : Int32)) + x9)) <| nm (sI g19 k23 ((x8 * (10 : Int32)) + x9).toNatClampNeg (100000 : Int32)) fun g26 => nm (x9 + (1 : Int32)) fun x27 => some (.inl (k6, k7, x8, x27, g26))) (grd (okV V k23 0 ((x8 * (10 : Int32)) + x9)) <| nm (sI g19 k23 ((x8 * (10 : Int32)) + x9).toNatClampNeg x20) fun g29 => nm (x9 + (1 : Int32)) fun x30 => some (.inl (k6, k7, x8, x30, g29))))
noncomputable def r_X6_measureSteps_12 (V : Vk) (st : (Nat × Nat × Int32 × Int32 × Hq)) : Option ((Nat × Nat × Int32 × Int32 × Hq) ⊕ ((Nat × Nat × Int32 × Hq) ⊕ (Unit × Hq))) := r_X6_measureSteps_12' V st.1 st.2.1 st.2.2.1 st.2.2.2.1 st.2.2.2.2
set_option maxHeartbeats 4000000 in
set_option maxRecDepth 100000 in
theorem w_X6_measureSteps_12 {p : Program} {l : Launch} {e : Env} {R : Room} {s : State} {m : MethodId} {args : Array Value} {below : List Frame} {meth : Method} {c : Code} {D : va_G} {cA : Nat → ClassId} {sk : (Nat → Nat) × (Nat → Nat)} {ad : Nat → Nat} {A : Nat → Prop} {V : Vk} (cx : CallFix p m c cX6_measureSteps 5 s args gw_tbl RX6) (fx : Fx D cA sk A s) (hlocks : meth.locks = false) (hret : meth.sig.returnType = none) (hR : 3 ≤ R.frames ∧ 144 ≤ R.locals) (g0 : Hq) (y : ((Nat × Nat × Int32 × Hq) ⊕ (Unit × Hq))) (hk0 : ∀ (b0 : Nat) (b1 : Nat) (b2 : Int32) (gb : Hq), y = (.inl (b0, b1, b2, gb)) → ∀ (H : Heap) (locs : List Loc) (ls : Array Slot), Dy D cA ad (V, gb) A s.heap H locs → lv_has ls 5 [(0, .ref (ad b0)), (1, .ref (ad b1)), (2, .int b2)] → W p l e R s m args below meth c H locs 0 0 (MQ below (QV D cA ad A (V, g0)) args s 0 0 A) (F0 m 2 ls [])) (hq : ∀ (rb : Unit) (gb : Hq), y = (.inr (rb, gb)) → gb = g0) : ∀ (n : Nat) (k6 : Nat) (k7 : Nat) (x8 : Int32) (x9 : Int32) (g10 : Hq), itr (r_X6_measureSteps_12 V) n (k6, k7, x8, x9, g10) = some y → ∀ (H : Heap) (locs : List Loc) (ls : Array Slot), Dy D cA ad (V, g10) A s.heap H locs → lv_has ls 5 [(0, .ref (ad k6)), (1, .ref (ad k7)), (2, .int x8), (3, .int x9)] → W p l e R s m args below meth c H locs 0 0 (MQ below (QV D cA ad A (V, g0)) args s 0 0 A) (F0 m 12 ls []) := by
  intro n
  induction n with
  | zero => intro k6 k7 x8 x9 g10 hr; cases hr
  | succ n ih =>
    intro k6 k7 x8 x9 g10 hr H locs ls dy hl
    obtain ⟨z, hz, hn1, hn2⟩ := itr_succ hr
    clear hr
    have hr : r_X6_measureSteps_12' V k6 k7 x8 x9 g10 = some z := hz
    clear hz
    unfold r_X6_measureSteps_12' at hr
    have hh0 : ∀ (b0 : Nat) (b1 : Nat) (b2 : Int32) (b3 : Int32) (gb : Hq), z = .inl (b0, b1, b2, b3, gb) → ∀ (H : Heap) (locs : List Loc) (ls : Array Slot), Dy D cA ad (V, gb) A s.heap H locs → lv_has ls 5 [(0, .ref (ad b0)), (1, .ref (ad b1)), (2, .int b2), (3, .int b3)] → W p l e R s m args below meth c H locs 0 0 (MQ below (QV D cA ad A (V, g0)) args s 0 0 A) (F0 m 12 ls []) := fun b0 b1 b2 b3 gb eb => ih b0 b1 b2 b3 gb (hn1 _ eb)
    have hh1 : ∀ (b0 : Nat) (b1 : Nat) (b2 : Int32) (gb : Hq), z = (.inr (.inl (b0, b1, b2, gb))) → ∀ (H : Heap) (locs : List Loc) (ls : Array Slot), Dy D cA ad (V, gb) A s.heap H locs → lv_has ls 5 [(0, .ref (ad b0)), (1, .ref (ad b1)), (2, .int b2)] → W p l e R s m args below meth c H locs 0 0 (MQ below (QV D cA ad A (V, g0)) args s 0 0 A) (F0 m 2 ls []) := fun b0 b1 b2 gb eb => hk0 b0 b1 b2 gb (hn2 _ eb).symm
    have hq0 : ∀ (rb : Unit) (gb : Hq), z = (.inr (.inr (rb, gb))) → gb = g0 := fun rb gb eb => hq rb gb (hn2 _ eb).symm
    refine lv_iload_n cx.1 cx.2.1 dX6_measureSteps_12 rfl (lv_at hl 3 rfl) ?_
    refine lv_aload_n cx.1 cx.2.1 dX6_measureSteps_13 rfl (lv_at hl 0 rfl) ?_
    obtain ⟨hv11, hr⟩ := of_grd hr
    refine h_getI cx fx dy fd_6_6 hv11 tb_137 dX6_measureSteps_14 ?_
    rcases of_brn hr with ⟨hc, hr⟩ | ⟨hc, hr⟩
    · refine lv_icmp_ge (tgt := 68) cx.1 cx.2.1 dX6_measureSteps_17 (by decide) (fun _ => ?_) (fun hn => absurd hc hn)
      obtain ⟨x12, ex12, hr⟩ := of_nm hr
      refine lv_iinc (v := x12) (lv' := [(2, .int x12), (0, .ref (ad k6)), (1, .ref (ad k7)), (3, .int x9)]) cx.1 cx.2.1 dX6_measureSteps_68 hl (k := 2) rfl (by rw [ex12]; rfl) (by decide) rfl (fun ls hl => ?_)
      refine lv_goto (tgt := 2) cx.1 cx.2.1 dX6_measureSteps_71 (by decide) ?_
      exact hh1 k6 k7 x12 g10 (Option.some.inj hr).symm H locs ls dy (lv_sub hl [1, 2, 0] rfl)
    · refine lv_icmp_ge (tgt := 68) cx.1 cx.2.1 dX6_measureSteps_17 (by decide) (fun hn => absurd hn hc) (fun _ => ?_)
      refine lv_aload_n cx.1 cx.2.1 dX6_measureSteps_20 rfl (lv_at hl 1 rfl) ?_
      refine lv_aload_n cx.1 cx.2.1 dX6_measureSteps_21 rfl (lv_at hl 0 rfl) ?_
      obtain ⟨k13, hf14, hr⟩ := of_bnd hr
      refine h_getR cx fx dy fd_6_0 hv11 tb_131 hf14 dX6_measureSteps_22 ?_
      refine lv_iload_n cx.1 cx.2.1 dX6_measureSteps_25 rfl (lv_at hl 2 rfl) ?_
      obtain ⟨ha15, hr⟩ := of_grd hr
      refine h_iald cx fx dy ha15 dX6_measureSteps_26 ?_
      refine lv_aload_n cx.1 cx.2.1 dX6_measureSteps_27 rfl (lv_at hl 0 rfl) ?_
      obtain ⟨k16, hf17, hr⟩ := of_bnd hr
      refine h_getR cx fx dy fd_6_0 hv11 tb_131 hf17 dX6_measureSteps_28 ?_
      refine lv_iload_n cx.1 cx.2.1 dX6_measureSteps_31 rfl (lv_at hl 3 rfl) ?_
      obtain ⟨ha18, hr⟩ := of_grd hr
      refine h_iald cx fx dy ha18 dX6_measureSteps_32 ?_
      obtain ⟨hv21, hr⟩ := of_grd hr
      obtain ⟨x20, g19, hc22, hr⟩ := of_bnd2 hr
      refine r_i dy (k_V (As := [.int (g10.1 k13 x8.toNatClampNeg), .int (g10.1 k16 x9.toNatClampNeg)]) (b := k7) (ci := 9) cx fx dy (c_X9_leastMinutes hc22) mv_X9_leastMinutes rfl rfl ⟨Nat.le_trans (by decide) hR.1, Nat.le_trans (by decide) hR.2⟩ tb_487 hv21 rfl (by decide) rfl hl.1 rfl (Nat.le_of_ble_eq_true rfl) ⟨Nat.zero_le _, Nat.zero_le _⟩ dX6_measureSteps_33) (fun H locs dy => ?_)
      refine lv_istore (lv' := [(4, .int x20), (0, .ref (ad k6)), (1, .ref (ad k7)), (2, .int x8), (3, .int x9)]) cx.1 cx.2.1 dX6_measureSteps_36 hl (by decide) rfl (fun ls hl => ?_)
      refine lv_aload_n cx.1 cx.2.1 dX6_measureSteps_38 rfl (lv_at hl 1 rfl) ?_
      obtain ⟨k23, hf24, hr⟩ := of_bnd hr
      refine h_getR cx fx dy fd_6_1 hv11 tb_132 hf24 dX6_measureSteps_39 ?_
      refine lv_iload_n cx.1 cx.2.1 dX6_measureSteps_42 rfl (lv_at hl 3 rfl) ?_
      refine lv_bipush (v := 10) cx.1 cx.2.1 dX6_measureSteps_43 (by decide) ?_
      refine lv_imul cx.1 cx.2.1 dX6_measureSteps_45 ?_
      refine lv_iload_n cx.1 cx.2.1 dX6_measureSteps_46 rfl (lv_at hl 4 rfl) ?_
      refine lv_iadd cx.1 cx.2.1 dX6_measureSteps_47 ?_
      refine lv_iload cx.1 cx.2.1 dX6_measureSteps_48 (lv_at hl 0 rfl) ?_
      refine lv_iconst (v := (-1)) cx.1 cx.2.1 dX6_measureSteps_50 (by decide) ?_
      rcases of_brn hr with ⟨hc, hr⟩ | ⟨hc, hr⟩
      · refine lv_icmp_ne (tgt := 59) cx.1 cx.2.1 dX6_measureSteps_51 (by decide) (fun hn => absurd hc hn) (fun _ => ?_)
        refine lv_ldc (v := (100000)) cx.1 cx.2.1 cx.2.2.2.1 (cx.2.2.2.2 _ tb_488) dX6_measureSteps_54 ?_
        refine lv_goto (tgt := 61) cx.1 cx.2.1 dX6_measureSteps_56 (by decide) ?_
        obtain ⟨ha25, hr⟩ := of_grd hr
        obtain ⟨g26, eg26, hr⟩ := of_nm hr
        refine h_iast cx fx dy ha25 dX6_measureSteps_61 (fun H locs dy => ?_)
        replace dy : Dy D cA ad (V, g26) A s.heap H locs := by rw [eg26]; exact dy
        obtain ⟨x27, ex27, hr⟩ := of_nm hr
        refine lv_iinc (v := x27) (lv' := [(3, .int x27), (4, .int x20), (0, .ref (ad k6)), (1, .ref (ad k7)), (2, .int x8)]) cx.1 cx.2.1 dX6_measureSteps_62 hl (k := 4) rfl (by rw [ex27]; rfl) (by decide) rfl (fun ls hl => ?_)
        refine lv_goto (tgt := 12) cx.1 cx.2.1 dX6_measureSteps_65 (by decide) ?_
        exact hh0 k6 k7 x8 x27 g26 (Option.some.inj hr).symm H locs ls dy (lv_sub hl [2, 3, 4, 0] rfl)
      · refine lv_icmp_ne (tgt := 59) cx.1 cx.2.1 dX6_measureSteps_51 (by decide) (fun _ => ?_) (fun hn => absurd hn hc)
        refine lv_iload cx.1 cx.2.1 dX6_measureSteps_59 (lv_at hl 0 rfl) ?_
        obtain ⟨ha28, hr⟩ := of_grd hr
        obtain ⟨g29, eg29, hr⟩ := of_nm hr
        refine h_iast cx fx dy ha28 dX6_measureSteps_61 (fun H locs dy => ?_)
        replace dy : Dy D cA ad (V, g29) A s.heap H locs := by rw [eg29]; exact dy
        obtain ⟨x30, ex30, hr⟩ := of_nm hr
        refine lv_iinc (v := x30) (lv' := [(3, .int x30), (4, .int x20), (0, .ref (ad k6)), (1, .ref (ad k7)), (2, .int x8)]) cx.1 cx.2.1 dX6_measureSteps_62 hl (k := 4) rfl (by rw [ex30]; rfl) (by decide) rfl (fun ls hl => ?_)
        refine lv_goto (tgt := 12) cx.1 cx.2.1 dX6_measureSteps_65 (by decide) ?_
        exact hh0 k6 k7 x8 x30 g29 (Option.some.inj hr).symm H locs ls dy (lv_sub hl [2, 3, 4, 0] rfl)
noncomputable def r_X6_measureSteps_2' (V : Vk) (k1 : Nat) (k2 : Nat) (x3 : Int32) (g4 : Hq) : Option ((Nat × Nat × Int32 × Hq) ⊕ (Unit × Hq)) :=
  grd (V k1 = some (6, 0)) <| brn ((g4.1 k1 6) ≤ x3) (some (.inr ((), g4))) ((lop (r_X6_measureSteps_12 V) (k1, k2, x3, (0 : Int32), g4)))
noncomputable def r_X6_measureSteps_2 (V : Vk) (st : (Nat × Nat × Int32 × Hq)) : Option ((Nat × Nat × Int32 × Hq) ⊕ (Unit × Hq)) := r_X6_measureSteps_2' V st.1 st.2.1 st.2.2.1 st.2.2.2
set_option maxHeartbeats 4000000 in
set_option maxRecDepth 100000 in
theorem w_X6_measureSteps_2 {p : Program} {l : Launch} {e : Env} {R : Room} {s : State} {m : MethodId} {args : Array Value} {below : List Frame} {meth : Method} {c : Code} {D : va_G} {cA : Nat → ClassId} {sk : (Nat → Nat) × (Nat → Nat)} {ad : Nat → Nat} {A : Nat → Prop} {V : Vk} (cx : CallFix p m c cX6_measureSteps 5 s args gw_tbl RX6) (fx : Fx D cA sk A s) (hlocks : meth.locks = false) (hret : meth.sig.returnType = none) (hR : 3 ≤ R.frames ∧ 144 ≤ R.locals) (g0 : Hq) (y : (Unit × Hq)) (hq : ∀ (rb : Unit) (gb : Hq), y = (rb, gb) → gb = g0) : ∀ (n : Nat) (k1 : Nat) (k2 : Nat) (x3 : Int32) (g4 : Hq), itr (r_X6_measureSteps_2 V) n (k1, k2, x3, g4) = some y → ∀ (H : Heap) (locs : List Loc) (ls : Array Slot), Dy D cA ad (V, g4) A s.heap H locs → lv_has ls 5 [(0, .ref (ad k1)), (1, .ref (ad k2)), (2, .int x3)] → W p l e R s m args below meth c H locs 0 0 (MQ below (QV D cA ad A (V, g0)) args s 0 0 A) (F0 m 2 ls []) := by
  intro n
  induction n with
  | zero => intro k1 k2 x3 g4 hr; cases hr
  | succ n ih =>
    intro k1 k2 x3 g4 hr H locs ls dy hl
    obtain ⟨z, hz, hn1, hn2⟩ := itr_succ hr
    clear hr
    have hr : r_X6_measureSteps_2' V k1 k2 x3 g4 = some z := hz
    clear hz
    unfold r_X6_measureSteps_2' at hr
    have hh0 : ∀ (b0 : Nat) (b1 : Nat) (b2 : Int32) (gb : Hq), z = .inl (b0, b1, b2, gb) → ∀ (H : Heap) (locs : List Loc) (ls : Array Slot), Dy D cA ad (V, gb) A s.heap H locs → lv_has ls 5 [(0, .ref (ad b0)), (1, .ref (ad b1)), (2, .int b2)] → W p l e R s m args below meth c H locs 0 0 (MQ below (QV D cA ad A (V, g0)) args s 0 0 A) (F0 m 2 ls []) := fun b0 b1 b2 gb eb => ih b0 b1 b2 gb (hn1 _ eb)
    have hq0 : ∀ (rb : Unit) (gb : Hq), z = (.inr (rb, gb)) → gb = g0 := fun rb gb eb => hq rb gb (hn2 _ eb).symm
    refine lv_iload_n cx.1 cx.2.1 dX6_measureSteps_2 rfl (lv_at hl 2 rfl) ?_
    refine lv_aload_n cx.1 cx.2.1 dX6_measureSteps_3 rfl (lv_at hl 0 rfl) ?_
    obtain ⟨hv5, hr⟩ := of_grd hr
    refine h_getI cx fx dy fd_6_6 hv5 tb_137 dX6_measureSteps_4 ?_
    rcases of_brn hr with ⟨hc, hr⟩ | ⟨hc, hr⟩
    · refine lv_icmp_ge (tgt := 74) cx.1 cx.2.1 dX6_measureSteps_7 (by decide) (fun _ => ?_) (fun hn => absurd hc hn)
      have e1 := hq0 _ _ (Option.some.inj hr).symm
      exact h_vret cx dy hlocks hret (by rw [e1]) dX6_measureSteps_74
    · refine lv_icmp_ge (tgt := 74) cx.1 cx.2.1 dX6_measureSteps_7 (by decide) (fun hn => absurd hn hc) (fun _ => ?_)
      refine lv_iconst (v := 0) cx.1 cx.2.1 dX6_measureSteps_10 (by decide) ?_
      refine lv_istore_n (lv' := [(3, .int (0 : Int32)), (0, .ref (ad k1)), (1, .ref (ad k2)), (2, .int x3)]) cx.1 cx.2.1 dX6_measureSteps_11 rfl hl (by decide) rfl (fun ls hl => ?_)
      obtain ⟨n, hr⟩ := lop_some hr
      exact w_X6_measureSteps_12 cx fx hlocks hret hR g0 z hh0 hq0 n k1 k2 x3 (0 : Int32) g4 hr H locs ls dy (lv_sub hl [1, 2, 3, 0] rfl)
noncomputable def r_X6_measureSteps (V : Vk) (k0 : Nat) (a1 : Nat) (g : Hq) : Option (Unit × Hq) :=
  (lop (r_X6_measureSteps_2 V) (k0, a1, (0 : Int32), g))
set_option maxHeartbeats 4000000 in
set_option maxRecDepth 100000 in
theorem c_X6_measureSteps {l : Launch} {D : va_G} {cA : Nat → ClassId} {sk : (Nat → Nat) × (Nat → Nat)} {ad : Nat → Nat} {A : Nat → Prop} {V : Vk} {k0 : Nat} {a1 : Nat} {g g0 : Hq} (hr : r_X6_measureSteps V k0 a1 g = some ((), g0)) : Met l yX6_measureSteps (wM yX6_measureSteps cX6_measureSteps 5 none) { frames := 3, cells := 0, slots := 0, locals := 144 } (Pre D cA sk ad (V, g) A [.ref (ad k0), .ref (ad a1)]) (QV D cA ad A (V, g0)) 0 0 A := by
  refine Met.ofW (cc := cX6_measureSteps) (maxL := 5) (ret := none) (by decide) rfl ?_
  intro p e s m args below meth c s₁ B hml hv
  obtain ⟨rfl, fx, w0⟩ := hv
  have hts := atoms_spec (ws := wM yX6_measureSteps cX6_measureSteps 5 none) B.pre
  have cx : CallFix p m c cX6_measureSteps 5 s ([.ref (ad k0), .ref (ad a1)] : List Value).toArray gw_tbl RX6 := ⟨B.exec, B.bytes, hml, findClass_of_methodNamed B.named, fun w hw => hts w (List.mem_cons_of_mem _ hw)⟩
  have hlocks := B.notSynchronized
  have hret := B.returns
  have hR : 3 ≤ (headSpec (wM yX6_measureSteps cX6_measureSteps 5 none) { frames := 3, cells := 0, slots := 0, locals := 144 }).room.frames ∧ 144 ≤ (headSpec (wM yX6_measureSteps cX6_measureSteps 5 none) { frames := 3, cells := 0, slots := 0, locals := 144 }).room.locals := ⟨Nat.le_refl _, Nat.le_refl _⟩
  have dy : Dy D cA ad (V, g) A s.heap s.heap [] := ⟨w0, va_S.rf⟩
  have hl := lv_entry [.ref (ad k0), .ref (ad a1)] (n := 5) (Nat.le_of_ble_eq_true rfl)
  rw [lg_entry_eq]
  generalize (lg_sl [.ref (ad k0), .ref (ad a1)] ++ List.replicate (5 - (lg_sl [.ref (ad k0), .ref (ad a1)]).length) Slot.unset).toArray = ls at hl ⊢
  have hl : lv_has ls 5 [(0, .ref (ad k0)), (1, .ref (ad a1))] := hl
  have dy0 : ∃ H0, H0 = s.heap ∧ Dy D cA ad (V, g) A s.heap H0 [] := ⟨_, rfl, dy⟩
  obtain ⟨z, ez⟩ : ∃ z, z = (((), g0) : Unit × Hq) := ⟨_, rfl⟩
  rw [← ez] at hr
  have hq0 : ∀ (rb : Unit) (gb : Hq), z = (rb, gb) → gb = g0 := fun rb gb eb => by rw [ez] at eb; exact (congrArg Prod.snd eb).symm
  clear ez w0 dy0
  unfold r_X6_measureSteps at hr
  obtain ⟨H, hH⟩ : ∃ H, H = s.heap := ⟨_, rfl⟩
  obtain ⟨locs, hlo⟩ : ∃ q : List Loc, q = [] := ⟨_, rfl⟩
  have dy : Dy D cA ad (V, g) A s.heap H locs := by rw [hH, hlo]; exact dy
  suffices K : W p l e (headSpec (wM yX6_measureSteps cX6_measureSteps 5 none) { frames := 3, cells := 0, slots := 0, locals := 144 }).room s m ([.ref (ad k0), .ref (ad a1)] : List Value).toArray below meth c H locs 0 0 (MQ below (QV D cA ad A (V, g0)) ([.ref (ad k0), .ref (ad a1)] : List Value).toArray s 0 0 A) (F0 m 0 ls []) by rw [hH, hlo] at K; exact K
  clear hH hlo
  refine lv_iconst (v := 0) cx.1 cx.2.1 dX6_measureSteps_0 (by decide) ?_
  refine lv_istore_n (lv' := [(2, .int (0 : Int32)), (0, .ref (ad k0)), (1, .ref (ad a1))]) cx.1 cx.2.1 dX6_measureSteps_1 rfl hl (by decide) rfl (fun ls hl => ?_)
  obtain ⟨n, hr⟩ := lop_some hr
  exact w_X6_measureSteps_2 cx fx hlocks hret hR g0 z hq0 n k0 a1 (0 : Int32) g hr H locs ls dy (lv_sub hl [1, 2, 0] rfl)
noncomputable def r_X6_shortestPath_32' (V : Vk) (k6 : Nat) (x7 : Int32) (x8 : Int32) (x9 : Int32) (x10 : Int32) (x11 : Int32) (x12 : Int32) (g13 : Hq) : Option ((Nat × Int32 × Int32 × Int32 × Int32 × Int32 × Int32 × Hq) ⊕ (Int32 × Hq)) :=
  brn (x8 ≤ x12) (some (.inr (x11, g13))) (brn (((x9 >>> (x12 &&& 31)) &&& (1 : Int32)) = (1 : Int32)) (grd (V k6 = some (6, 0)) <| Option.bind (g13.2.2 k6 2) fun k15 => grd (okV V k15 0 ((x9 * (9 : Int32)) + x12)) <| Option.bind (g13.2.2 k6 1) fun k18 => grd (okV V k18 0 ((((x7 + (1 : Int32)) + x12) * (10 : Int32)) + x10)) <| nm ((g13.1 k15 ((x9 * (9 : Int32)) + x12).toNatClampNeg) + (g13.1 k18 ((((x7 + (1 : Int32)) + x12) * (10 : Int32)) + x10).toNatClampNeg)) fun x21 => nm (if x21 < x11 then x21 else x11) fun x22 => nm (x12 + (1 : Int32)) fun x23 => some (.inl (k6, x7, x8, x9, x10, x22, x23, g13))) (nm (x12 + (1 : Int32)) fun x24 => some (.inl (k6, x7, x8, x9, x10, x11, x24, g13))))
noncomputable def r_X6_shortestPath_32 (V : Vk) (st : (Nat × Int32 × Int32 × Int32 × Int32 × Int32 × Int32 × Hq)) : Option ((Nat × Int32 × Int32 × Int32 × Int32 × Int32 × Int32 × Hq) ⊕ (Int32 × Hq)) := r_X6_shortestPath_32' V st.1 st.2.1 st.2.2.1 st.2.2.2.1 st.2.2.2.2.1 st.2.2.2.2.2.1 st.2.2.2.2.2.2.1 st.2.2.2.2.2.2.2
set_option maxHeartbeats 4000000 in
set_option maxRecDepth 100000 in
theorem w_X6_shortestPath_32 {p : Program} {l : Launch} {e : Env} {R : Room} {s : State} {m : MethodId} {args : Array Value} {below : List Frame} {meth : Method} {c : Code} {D : va_G} {cA : Nat → ClassId} {sk : (Nat → Nat) × (Nat → Nat)} {ad : Nat → Nat} {A : Nat → Prop} {V : Vk} (cx : CallFix p m c cX6_shortestPath 9 s args gw_tbl RX6) (fx : Fx D cA sk A s) (hlocks : meth.locks = false) (hret : meth.sig.returnType = (some .int)) (hR : 1 ≤ R.frames ∧ 24 ≤ R.locals) (r0 : Int32) (g0 : Hq) (y : (Int32 × Hq)) (hq : ∀ (rb : Int32) (gb : Hq), y = (rb, gb) → rb = r0 ∧ gb = g0) : ∀ (n : Nat) (k6 : Nat) (x7 : Int32) (x8 : Int32) (x9 : Int32) (x10 : Int32) (x11 : Int32) (x12 : Int32) (g13 : Hq), itr (r_X6_shortestPath_32 V) n (k6, x7, x8, x9, x10, x11, x12, g13) = some y → ∀ (H : Heap) (locs : List Loc) (ls : Array Slot), Dy D cA ad (V, g13) A s.heap H locs → lv_has ls 9 [(0, .ref (ad k6)), (1, .int x7), (2, .int x8), (3, .int x9), (5, .int x10), (6, .int x11), (7, .int x12)] → W p l e R s m args below meth c H locs 0 0 (MQ below (QI D cA ad A r0 (V, g0)) args s 0 0 A) (F0 m 32 ls []) := by
  intro n
  induction n with
  | zero => intro k6 x7 x8 x9 x10 x11 x12 g13 hr; cases hr
  | succ n ih =>
    intro k6 x7 x8 x9 x10 x11 x12 g13 hr H locs ls dy hl
    obtain ⟨z, hz, hn1, hn2⟩ := itr_succ hr
    clear hr
    have hr : r_X6_shortestPath_32' V k6 x7 x8 x9 x10 x11 x12 g13 = some z := hz
    clear hz
    unfold r_X6_shortestPath_32' at hr
    have hh0 : ∀ (b0 : Nat) (b1 : Int32) (b2 : Int32) (b3 : Int32) (b4 : Int32) (b5 : Int32) (b6 : Int32) (gb : Hq), z = .inl (b0, b1, b2, b3, b4, b5, b6, gb) → ∀ (H : Heap) (locs : List Loc) (ls : Array Slot), Dy D cA ad (V, gb) A s.heap H locs → lv_has ls 9 [(0, .ref (ad b0)), (1, .int b1), (2, .int b2), (3, .int b3), (5, .int b4), (6, .int b5), (7, .int b6)] → W p l e R s m args below meth c H locs 0 0 (MQ below (QI D cA ad A r0 (V, g0)) args s 0 0 A) (F0 m 32 ls []) := fun b0 b1 b2 b3 b4 b5 b6 gb eb => ih b0 b1 b2 b3 b4 b5 b6 gb (hn1 _ eb)
    have hq0 : ∀ (rb : Int32) (gb : Hq), z = (.inr (rb, gb)) → rb = r0 ∧ gb = g0 := fun rb gb eb => hq rb gb (hn2 _ eb).symm
    refine lv_iload cx.1 cx.2.1 dX6_shortestPath_32 (lv_at hl 6 rfl) ?_
    refine lv_iload_n cx.1 cx.2.1 dX6_shortestPath_34 rfl (lv_at hl 2 rfl) ?_
    rcases of_brn hr with ⟨hc, hr⟩ | ⟨hc, hr⟩
    · refine lv_icmp_ge (tgt := 95) cx.1 cx.2.1 dX6_shortestPath_35 (by decide) (fun _ => ?_) (fun hn => absurd hc hn)
      refine lv_iload cx.1 cx.2.1 dX6_shortestPath_95 (lv_at hl 5 rfl) ?_
      obtain ⟨e0, e1⟩ := hq0 _ _ (Option.some.inj hr).symm
      exact h_iret cx dy hlocks hret rfl e0 (by rw [e1]) dX6_shortestPath_97
    · refine lv_icmp_ge (tgt := 95) cx.1 cx.2.1 dX6_shortestPath_35 (by decide) (fun hn => absurd hn hc) (fun _ => ?_)
      refine lv_iload_n cx.1 cx.2.1 dX6_shortestPath_38 rfl (lv_at hl 3 rfl) ?_
      refine lv_iload cx.1 cx.2.1 dX6_shortestPath_39 (lv_at hl 6 rfl) ?_
      refine lv_ishr cx.1 cx.2.1 dX6_shortestPath_41 ?_
      refine lv_iconst (v := 1) cx.1 cx.2.1 dX6_shortestPath_42 (by decide) ?_
      refine lv_iand cx.1 cx.2.1 dX6_shortestPath_43 ?_
      refine lv_iconst (v := 1) cx.1 cx.2.1 dX6_shortestPath_44 (by decide) ?_
      rcases of_brn hr with ⟨hc, hr⟩ | ⟨hc, hr⟩
      · refine lv_icmp_ne (tgt := 89) cx.1 cx.2.1 dX6_shortestPath_45 (by decide) (fun hn => absurd hc hn) (fun _ => ?_)
        refine lv_aload_n cx.1 cx.2.1 dX6_shortestPath_48 rfl (lv_at hl 0 rfl) ?_
        obtain ⟨hv14, hr⟩ := of_grd hr
        obtain ⟨k15, hf16, hr⟩ := of_bnd hr
        refine h_getR cx fx dy fd_6_2 hv14 tb_133 hf16 dX6_shortestPath_49 ?_
        refine lv_iload_n cx.1 cx.2.1 dX6_shortestPath_52 rfl (lv_at hl 3 rfl) ?_
        refine lv_bipush (v := 9) cx.1 cx.2.1 dX6_shortestPath_53 (by decide) ?_
        refine lv_imul cx.1 cx.2.1 dX6_shortestPath_55 ?_
        refine lv_iload cx.1 cx.2.1 dX6_shortestPath_56 (lv_at hl 6 rfl) ?_
        refine lv_iadd cx.1 cx.2.1 dX6_shortestPath_58 ?_
        obtain ⟨ha17, hr⟩ := of_grd hr
        refine h_iald cx fx dy ha17 dX6_shortestPath_59 ?_
        refine lv_aload_n cx.1 cx.2.1 dX6_shortestPath_60 rfl (lv_at hl 0 rfl) ?_
        obtain ⟨k18, hf19, hr⟩ := of_bnd hr
        refine h_getR cx fx dy fd_6_1 hv14 tb_132 hf19 dX6_shortestPath_61 ?_
        refine lv_iload_n cx.1 cx.2.1 dX6_shortestPath_64 rfl (lv_at hl 1 rfl) ?_
        refine lv_iconst (v := 1) cx.1 cx.2.1 dX6_shortestPath_65 (by decide) ?_
        refine lv_iadd cx.1 cx.2.1 dX6_shortestPath_66 ?_
        refine lv_iload cx.1 cx.2.1 dX6_shortestPath_67 (lv_at hl 6 rfl) ?_
        refine lv_iadd cx.1 cx.2.1 dX6_shortestPath_69 ?_
        refine lv_bipush (v := 10) cx.1 cx.2.1 dX6_shortestPath_70 (by decide) ?_
        refine lv_imul cx.1 cx.2.1 dX6_shortestPath_72 ?_
        refine lv_iload cx.1 cx.2.1 dX6_shortestPath_73 (lv_at hl 4 rfl) ?_
        refine lv_iadd cx.1 cx.2.1 dX6_shortestPath_75 ?_
        obtain ⟨ha20, hr⟩ := of_grd hr
        refine h_iald cx fx dy ha20 dX6_shortestPath_76 ?_
        refine lv_iadd cx.1 cx.2.1 dX6_shortestPath_77 ?_
        obtain ⟨x21, ex21, hr⟩ := of_nm hr
        refine lv_nmi ex21 ?_
        refine lv_istore (lv' := [(8, .int x21), (0, .ref (ad k6)), (1, .int x7), (2, .int x8), (3, .int x9), (5, .int x10), (6, .int x11), (7, .int x12)]) cx.1 cx.2.1 dX6_shortestPath_78 hl (by decide) rfl (fun ls hl => ?_)
        refine lv_iload cx.1 cx.2.1 dX6_shortestPath_80 (lv_at hl 6 rfl) ?_
        refine lv_iload cx.1 cx.2.1 dX6_shortestPath_82 (lv_at hl 0 rfl) ?_
        refine va_mmin cx.1 cx.2.1 (cx.2.2.1.trans hl.1.symm) cx.2.2.2.1 (cx.2.2.2.2 _ tb_501) (cx.2.2.2.2 _ tb_502) (cx.2.2.2.2 _ tb_63) (cx.2.2.2.2 _ tb_503) (Nat.le_trans (by decide) hR.1) (Nat.le_trans (Nat.le_of_ble_eq_true rfl) hR.2) (Nat.zero_le _) (Nat.zero_le _) dX6_shortestPath_84 ?_
        obtain ⟨x22, ex22, hr⟩ := of_nm hr
        refine lv_nmi ex22 ?_
        refine lv_istore (lv' := [(6, .int x22), (8, .int x21), (0, .ref (ad k6)), (1, .int x7), (2, .int x8), (3, .int x9), (5, .int x10), (7, .int x12)]) cx.1 cx.2.1 dX6_shortestPath_87 hl (by decide) rfl (fun ls hl => ?_)
        obtain ⟨x23, ex23, hr⟩ := of_nm hr
        refine lv_iinc (v := x23) (lv' := [(7, .int x23), (6, .int x22), (8, .int x21), (0, .ref (ad k6)), (1, .int x7), (2, .int x8), (3, .int x9), (5, .int x10)]) cx.1 cx.2.1 dX6_shortestPath_89 hl (k := 7) rfl (by rw [ex23]; rfl) (by decide) rfl (fun ls hl => ?_)
        refine lv_goto (tgt := 32) cx.1 cx.2.1 dX6_shortestPath_92 (by decide) ?_
        exact hh0 k6 x7 x8 x9 x10 x22 x23 g13 (Option.some.inj hr).symm H locs ls dy (lv_sub hl [3, 4, 5, 6, 7, 1, 0] rfl)
      · refine lv_icmp_ne (tgt := 89) cx.1 cx.2.1 dX6_shortestPath_45 (by decide) (fun _ => ?_) (fun hn => absurd hn hc)
        obtain ⟨x24, ex24, hr⟩ := of_nm hr
        refine lv_iinc (v := x24) (lv' := [(7, .int x24), (0, .ref (ad k6)), (1, .int x7), (2, .int x8), (3, .int x9), (5, .int x10), (6, .int x11)]) cx.1 cx.2.1 dX6_shortestPath_89 hl (k := 6) rfl (by rw [ex24]; rfl) (by decide) rfl (fun ls hl => ?_)
        refine lv_goto (tgt := 32) cx.1 cx.2.1 dX6_shortestPath_92 (by decide) ?_
        exact hh0 k6 x7 x8 x9 x10 x11 x24 g13 (Option.some.inj hr).symm H locs ls dy (lv_sub hl [1, 2, 3, 4, 5, 6, 0] rfl)
noncomputable def r_X6_shortestPath (V : Vk) (k0 : Nat) (a1 : Int32) (a2 : Int32) (a3 : Int32) (a4 : Int32) (g : Hq) : Option (Int32 × Hq) :=
  nm ((a1 + (1 : Int32)) + a4) fun x1 => brn (a3 = 0) (grd (V k0 = some (6, 0)) <| Option.bind (g.2.2 k0 1) fun k3 => grd (okV V k3 0 ((a1 * (10 : Int32)) + x1)) <| some ((g.1 k3 ((a1 * (10 : Int32)) + x1).toNatClampNeg), g)) ((lop (r_X6_shortestPath_32 V) (k0, a1, a2, a3, x1, (100000 : Int32), (0 : Int32), g)))
set_option maxHeartbeats 4000000 in
set_option maxRecDepth 100000 in
theorem c_X6_shortestPath {l : Launch} {D : va_G} {cA : Nat → ClassId} {sk : (Nat → Nat) × (Nat → Nat)} {ad : Nat → Nat} {A : Nat → Prop} {V : Vk} {k0 : Nat} {a1 : Int32} {a2 : Int32} {a3 : Int32} {a4 : Int32} {g g0 : Hq} {r0 : Int32} (hr : r_X6_shortestPath V k0 a1 a2 a3 a4 g = some (r0, g0)) : Met l yX6_shortestPath (wM yX6_shortestPath cX6_shortestPath 9 (some .int)) { frames := 1, cells := 0, slots := 0, locals := 24 } (Pre D cA sk ad (V, g) A [.ref (ad k0), .int a1, .int a2, .int a3, .int a4]) (QI D cA ad A r0 (V, g0)) 0 0 A := by
  refine Met.ofW (cc := cX6_shortestPath) (maxL := 9) (ret := (some .int)) (by decide) rfl ?_
  intro p e s m args below meth c s₁ B hml hv
  obtain ⟨rfl, fx, w0⟩ := hv
  have hts := atoms_spec (ws := wM yX6_shortestPath cX6_shortestPath 9 (some .int)) B.pre
  have cx : CallFix p m c cX6_shortestPath 9 s ([.ref (ad k0), .int a1, .int a2, .int a3, .int a4] : List Value).toArray gw_tbl RX6 := ⟨B.exec, B.bytes, hml, findClass_of_methodNamed B.named, fun w hw => hts w (List.mem_cons_of_mem _ hw)⟩
  have hlocks := B.notSynchronized
  have hret := B.returns
  have hR : 1 ≤ (headSpec (wM yX6_shortestPath cX6_shortestPath 9 (some .int)) { frames := 1, cells := 0, slots := 0, locals := 24 }).room.frames ∧ 24 ≤ (headSpec (wM yX6_shortestPath cX6_shortestPath 9 (some .int)) { frames := 1, cells := 0, slots := 0, locals := 24 }).room.locals := ⟨Nat.le_refl _, Nat.le_refl _⟩
  have dy : Dy D cA ad (V, g) A s.heap s.heap [] := ⟨w0, va_S.rf⟩
  have hl := lv_entry [.ref (ad k0), .int a1, .int a2, .int a3, .int a4] (n := 9) (Nat.le_of_ble_eq_true rfl)
  rw [lg_entry_eq]
  generalize (lg_sl [.ref (ad k0), .int a1, .int a2, .int a3, .int a4] ++ List.replicate (9 - (lg_sl [.ref (ad k0), .int a1, .int a2, .int a3, .int a4]).length) Slot.unset).toArray = ls at hl ⊢
  have hl : lv_has ls 9 [(0, .ref (ad k0)), (1, .int a1), (2, .int a2), (3, .int a3), (4, .int a4)] := hl
  have dy0 : ∃ H0, H0 = s.heap ∧ Dy D cA ad (V, g) A s.heap H0 [] := ⟨_, rfl, dy⟩
  obtain ⟨z, ez⟩ : ∃ z, z = (r0, g0) := ⟨_, rfl⟩
  rw [← ez] at hr
  have hq0 : ∀ (rb : Int32) (gb : Hq), z = (rb, gb) → rb = r0 ∧ gb = g0 := fun rb gb eb => by rw [ez] at eb; exact ⟨(congrArg Prod.fst eb).symm, (congrArg Prod.snd eb).symm⟩
  clear ez w0 dy0
  unfold r_X6_shortestPath at hr
  obtain ⟨H, hH⟩ : ∃ H, H = s.heap := ⟨_, rfl⟩
  obtain ⟨locs, hlo⟩ : ∃ q : List Loc, q = [] := ⟨_, rfl⟩
  have dy : Dy D cA ad (V, g) A s.heap H locs := by rw [hH, hlo]; exact dy
  suffices K : W p l e (headSpec (wM yX6_shortestPath cX6_shortestPath 9 (some .int)) { frames := 1, cells := 0, slots := 0, locals := 24 }).room s m ([.ref (ad k0), .int a1, .int a2, .int a3, .int a4] : List Value).toArray below meth c H locs 0 0 (MQ below (QI D cA ad A r0 (V, g0)) ([.ref (ad k0), .int a1, .int a2, .int a3, .int a4] : List Value).toArray s 0 0 A) (F0 m 0 ls []) by rw [hH, hlo] at K; exact K
  clear hH hlo
  refine lv_iload_n cx.1 cx.2.1 dX6_shortestPath_0 rfl (lv_at hl 1 rfl) ?_
  refine lv_iconst (v := 1) cx.1 cx.2.1 dX6_shortestPath_1 (by decide) ?_
  refine lv_iadd cx.1 cx.2.1 dX6_shortestPath_2 ?_
  refine lv_iload cx.1 cx.2.1 dX6_shortestPath_3 (lv_at hl 4 rfl) ?_
  refine lv_iadd cx.1 cx.2.1 dX6_shortestPath_5 ?_
  obtain ⟨x1, ex1, hr⟩ := of_nm hr
  refine lv_nmi ex1 ?_
  refine lv_istore (lv' := [(5, .int x1), (0, .ref (ad k0)), (1, .int a1), (2, .int a2), (3, .int a3), (4, .int a4)]) cx.1 cx.2.1 dX6_shortestPath_6 hl (by decide) rfl (fun ls hl => ?_)
  refine lv_iload_n cx.1 cx.2.1 dX6_shortestPath_8 rfl (lv_at hl 4 rfl) ?_
  rcases of_brn hr with ⟨hc, hr⟩ | ⟨hc, hr⟩
  · refine lv_if_ne (tgt := 25) cx.1 cx.2.1 dX6_shortestPath_9 (by decide) (fun hn => absurd hc hn) (fun _ => ?_)
    refine lv_aload_n cx.1 cx.2.1 dX6_shortestPath_12 rfl (lv_at hl 1 rfl) ?_
    obtain ⟨hv2, hr⟩ := of_grd hr
    obtain ⟨k3, hf4, hr⟩ := of_bnd hr
    refine h_getR cx fx dy fd_6_1 hv2 tb_132 hf4 dX6_shortestPath_13 ?_
    refine lv_iload_n cx.1 cx.2.1 dX6_shortestPath_16 rfl (lv_at hl 2 rfl) ?_
    refine lv_bipush (v := 10) cx.1 cx.2.1 dX6_shortestPath_17 (by decide) ?_
    refine lv_imul cx.1 cx.2.1 dX6_shortestPath_19 ?_
    refine lv_iload cx.1 cx.2.1 dX6_shortestPath_20 (lv_at hl 0 rfl) ?_
    refine lv_iadd cx.1 cx.2.1 dX6_shortestPath_22 ?_
    obtain ⟨ha5, hr⟩ := of_grd hr
    refine h_iald cx fx dy ha5 dX6_shortestPath_23 ?_
    obtain ⟨e0, e1⟩ := hq0 _ _ (Option.some.inj hr).symm
    exact h_iret cx dy hlocks hret rfl e0 (by rw [e1]) dX6_shortestPath_24
  · refine lv_if_ne (tgt := 25) cx.1 cx.2.1 dX6_shortestPath_9 (by decide) (fun _ => ?_) (fun hn => absurd hn hc)
    refine lv_ldc (v := (100000)) cx.1 cx.2.1 cx.2.2.2.1 (cx.2.2.2.2 _ tb_488) dX6_shortestPath_25 ?_
    refine lv_istore (lv' := [(6, .int (100000 : Int32)), (5, .int x1), (0, .ref (ad k0)), (1, .int a1), (2, .int a2), (3, .int a3), (4, .int a4)]) cx.1 cx.2.1 dX6_shortestPath_27 hl (by decide) rfl (fun ls hl => ?_)
    refine lv_iconst (v := 0) cx.1 cx.2.1 dX6_shortestPath_29 (by decide) ?_
    refine lv_istore (lv' := [(7, .int (0 : Int32)), (6, .int (100000 : Int32)), (5, .int x1), (0, .ref (ad k0)), (1, .int a1), (2, .int a2), (3, .int a3), (4, .int a4)]) cx.1 cx.2.1 dX6_shortestPath_30 hl (by decide) rfl (fun ls hl => ?_)
    obtain ⟨n, hr⟩ := lop_some hr
    exact w_X6_shortestPath_32 cx fx hlocks hret hR r0 g0 z hq0 n k0 a1 a2 a3 x1 (100000 : Int32) (0 : Int32) g hr H locs ls dy (lv_sub hl [3, 4, 5, 6, 2, 1, 0] rfl)
noncomputable def r_X6_shortestTour_7' (V : Vk) (k1 : Nat) (x2 : Int32) (x3 : Int32) (x4 : Int32) (x5 : Int32) (x6 : Int32) (g7 : Hq) : Option ((Nat × Int32 × Int32 × Int32 × Int32 × Int32 × Hq) ⊕ (Int32 × Hq)) :=
  brn (x3 ≤ x6) (some (.inr (x5, g7))) (brn (((x4 >>> (x6 &&& 31)) &&& (1 : Int32)) = (1 : Int32)) (grd (V k1 = some (6, 0)) <| bnd (r_X6_shortestPath V k1 x2 x3 (x4 &&& (((1 : Int32) <<< (x6 &&& 31)) ^^^ (-1 : Int32))) x6 g7) fun x9 g8 => Option.bind (g8.2.2 k1 2) fun k12 => grd (okV V k12 0 ((x4 * (9 : Int32)) + x6)) <| nm (sI g8 k12 ((x4 * (9 : Int32)) + x6).toNatClampNeg x9) fun g15 => Option.bind (g15.2.2 k1 1) fun k16 => grd (okV V k16 0 ((((x2 + (1 : Int32)) + x6) * (10 : Int32)) + x2)) <| nm (if (x9 + (g15.1 k16 ((((x2 + (1 : Int32)) + x6) * (10 : Int32)) + x2).toNatClampNeg)) < x5 then (x9 + (g15.1 k16 ((((x2 + (1 : Int32)) + x6) * (10 : Int32)) + x2).toNatClampNeg)) else x5) fun x19 => nm (x6 + (1 : Int32)) fun x20 => some (.inl (k1, x2, x3, x4, x19, x20, g15))) (nm (x6 + (1 : Int32)) fun x21 => some (.inl (k1, x2, x3, x4, x5, x21, g7))))
noncomputable def r_X6_shortestTour_7 (V : Vk) (st : (Nat × Int32 × Int32 × Int32 × Int32 × Int32 × Hq)) : Option ((Nat × Int32 × Int32 × Int32 × Int32 × Int32 × Hq) ⊕ (Int32 × Hq)) := r_X6_shortestTour_7' V st.1 st.2.1 st.2.2.1 st.2.2.2.1 st.2.2.2.2.1 st.2.2.2.2.2.1 st.2.2.2.2.2.2
set_option maxHeartbeats 4000000 in
set_option maxRecDepth 100000 in
theorem w_X6_shortestTour_7 {p : Program} {l : Launch} {e : Env} {R : Room} {s : State} {m : MethodId} {args : Array Value} {below : List Frame} {meth : Method} {c : Code} {D : va_G} {cA : Nat → ClassId} {sk : (Nat → Nat) × (Nat → Nat)} {ad : Nat → Nat} {A : Nat → Prop} {V : Vk} (cx : CallFix p m c cX6_shortestTour 7 s args gw_tbl RX6) (fx : Fx D cA sk A s) (hlocks : meth.locks = false) (hret : meth.sig.returnType = (some .int)) (hR : 2 ≤ R.frames ∧ 52 ≤ R.locals) (r0 : Int32) (g0 : Hq) (y : (Int32 × Hq)) (hq : ∀ (rb : Int32) (gb : Hq), y = (rb, gb) → rb = r0 ∧ gb = g0) : ∀ (n : Nat) (k1 : Nat) (x2 : Int32) (x3 : Int32) (x4 : Int32) (x5 : Int32) (x6 : Int32) (g7 : Hq), itr (r_X6_shortestTour_7 V) n (k1, x2, x3, x4, x5, x6, g7) = some y → ∀ (H : Heap) (locs : List Loc) (ls : Array Slot), Dy D cA ad (V, g7) A s.heap H locs → lv_has ls 7 [(0, .ref (ad k1)), (1, .int x2), (2, .int x3), (3, .int x4), (4, .int x5), (5, .int x6)] → W p l e R s m args below meth c H locs 0 0 (MQ below (QI D cA ad A r0 (V, g0)) args s 0 0 A) (F0 m 7 ls []) := by
  intro n
  induction n with
  | zero => intro k1 x2 x3 x4 x5 x6 g7 hr; cases hr
  | succ n ih =>
    intro k1 x2 x3 x4 x5 x6 g7 hr H locs ls dy hl
    obtain ⟨z, hz, hn1, hn2⟩ := itr_succ hr
    clear hr
    have hr : r_X6_shortestTour_7' V k1 x2 x3 x4 x5 x6 g7 = some z := hz
    clear hz
    unfold r_X6_shortestTour_7' at hr
    have hh0 : ∀ (b0 : Nat) (b1 : Int32) (b2 : Int32) (b3 : Int32) (b4 : Int32) (b5 : Int32) (gb : Hq), z = .inl (b0, b1, b2, b3, b4, b5, gb) → ∀ (H : Heap) (locs : List Loc) (ls : Array Slot), Dy D cA ad (V, gb) A s.heap H locs → lv_has ls 7 [(0, .ref (ad b0)), (1, .int b1), (2, .int b2), (3, .int b3), (4, .int b4), (5, .int b5)] → W p l e R s m args below meth c H locs 0 0 (MQ below (QI D cA ad A r0 (V, g0)) args s 0 0 A) (F0 m 7 ls []) := fun b0 b1 b2 b3 b4 b5 gb eb => ih b0 b1 b2 b3 b4 b5 gb (hn1 _ eb)
    have hq0 : ∀ (rb : Int32) (gb : Hq), z = (.inr (rb, gb)) → rb = r0 ∧ gb = g0 := fun rb gb eb => hq rb gb (hn2 _ eb).symm
    refine lv_iload cx.1 cx.2.1 dX6_shortestTour_7 (lv_at hl 5 rfl) ?_
    refine lv_iload_n cx.1 cx.2.1 dX6_shortestTour_9 rfl (lv_at hl 2 rfl) ?_
    rcases of_brn hr with ⟨hc, hr⟩ | ⟨hc, hr⟩
    · refine lv_icmp_ge (tgt := 87) cx.1 cx.2.1 dX6_shortestTour_10 (by decide) (fun _ => ?_) (fun hn => absurd hc hn)
      refine lv_iload cx.1 cx.2.1 dX6_shortestTour_87 (lv_at hl 4 rfl) ?_
      obtain ⟨e0, e1⟩ := hq0 _ _ (Option.some.inj hr).symm
      exact h_iret cx dy hlocks hret rfl e0 (by rw [e1]) dX6_shortestTour_89
    · refine lv_icmp_ge (tgt := 87) cx.1 cx.2.1 dX6_shortestTour_10 (by decide) (fun hn => absurd hn hc) (fun _ => ?_)
      refine lv_iload_n cx.1 cx.2.1 dX6_shortestTour_13 rfl (lv_at hl 3 rfl) ?_
      refine lv_iload cx.1 cx.2.1 dX6_shortestTour_14 (lv_at hl 5 rfl) ?_
      refine lv_ishr cx.1 cx.2.1 dX6_shortestTour_16 ?_
      refine lv_iconst (v := 1) cx.1 cx.2.1 dX6_shortestTour_17 (by decide) ?_
      refine lv_iand cx.1 cx.2.1 dX6_shortestTour_18 ?_
      refine lv_iconst (v := 1) cx.1 cx.2.1 dX6_shortestTour_19 (by decide) ?_
      rcases of_brn hr with ⟨hc, hr⟩ | ⟨hc, hr⟩
      · refine lv_icmp_ne (tgt := 81) cx.1 cx.2.1 dX6_shortestTour_20 (by decide) (fun hn => absurd hc hn) (fun _ => ?_)
        refine lv_aload_n cx.1 cx.2.1 dX6_shortestTour_23 rfl (lv_at hl 0 rfl) ?_
        refine lv_iload_n cx.1 cx.2.1 dX6_shortestTour_24 rfl (lv_at hl 1 rfl) ?_
        refine lv_iload_n cx.1 cx.2.1 dX6_shortestTour_25 rfl (lv_at hl 2 rfl) ?_
        refine lv_iload_n cx.1 cx.2.1 dX6_shortestTour_26 rfl (lv_at hl 3 rfl) ?_
        refine lv_iconst (v := 1) cx.1 cx.2.1 dX6_shortestTour_27 (by decide) ?_
        refine lv_iload cx.1 cx.2.1 dX6_shortestTour_28 (lv_at hl 5 rfl) ?_
        refine lv_ishl cx.1 cx.2.1 dX6_shortestTour_30 ?_
        refine lv_iconst (v := (-1)) cx.1 cx.2.1 dX6_shortestTour_31 (by decide) ?_
        refine lv_ixor cx.1 cx.2.1 dX6_shortestTour_32 ?_
        refine lv_iand cx.1 cx.2.1 dX6_shortestTour_33 ?_
        refine lv_iload cx.1 cx.2.1 dX6_shortestTour_34 (lv_at hl 5 rfl) ?_
        obtain ⟨hv10, hr⟩ := of_grd hr
        obtain ⟨x9, g8, hc11, hr⟩ := of_bnd2 hr
        refine r_i dy (k_V (As := [.int x2, .int x3, .int (x4 &&& (((1 : Int32) <<< (x6 &&& 31)) ^^^ (-1 : Int32))), .int x6]) (b := k1) (ci := 6) cx fx dy (c_X6_shortestPath hc11) mv_X6_shortestPath rfl rfl ⟨Nat.le_trans (by decide) hR.1, Nat.le_trans (by decide) hR.2⟩ tb_497 hv10 rfl (by decide) rfl hl.1 rfl (Nat.le_of_ble_eq_true rfl) ⟨Nat.zero_le _, Nat.zero_le _⟩ dX6_shortestTour_36) (fun H locs dy => ?_)
        refine lv_istore (lv' := [(6, .int x9), (0, .ref (ad k1)), (1, .int x2), (2, .int x3), (3, .int x4), (4, .int x5), (5, .int x6)]) cx.1 cx.2.1 dX6_shortestTour_39 hl (by decide) rfl (fun ls hl => ?_)
        refine lv_aload_n cx.1 cx.2.1 dX6_shortestTour_41 rfl (lv_at hl 1 rfl) ?_
        obtain ⟨k12, hf13, hr⟩ := of_bnd hr
        refine h_getR cx fx dy fd_6_2 hv10 tb_133 hf13 dX6_shortestTour_42 ?_
        refine lv_iload_n cx.1 cx.2.1 dX6_shortestTour_45 rfl (lv_at hl 4 rfl) ?_
        refine lv_bipush (v := 9) cx.1 cx.2.1 dX6_shortestTour_46 (by decide) ?_
        refine lv_imul cx.1 cx.2.1 dX6_shortestTour_48 ?_
        refine lv_iload cx.1 cx.2.1 dX6_shortestTour_49 (lv_at hl 6 rfl) ?_
        refine lv_iadd cx.1 cx.2.1 dX6_shortestTour_51 ?_
        refine lv_iload cx.1 cx.2.1 dX6_shortestTour_52 (lv_at hl 0 rfl) ?_
        obtain ⟨ha14, hr⟩ := of_grd hr
        obtain ⟨g15, eg15, hr⟩ := of_nm hr
        refine h_iast cx fx dy ha14 dX6_shortestTour_54 (fun H locs dy => ?_)
        replace dy : Dy D cA ad (V, g15) A s.heap H locs := by rw [eg15]; exact dy
        refine lv_iload cx.1 cx.2.1 dX6_shortestTour_55 (lv_at hl 5 rfl) ?_
        refine lv_iload cx.1 cx.2.1 dX6_shortestTour_57 (lv_at hl 0 rfl) ?_
        refine lv_aload_n cx.1 cx.2.1 dX6_shortestTour_59 rfl (lv_at hl 1 rfl) ?_
        obtain ⟨k16, hf17, hr⟩ := of_bnd hr
        refine h_getR cx fx dy fd_6_1 hv10 tb_132 hf17 dX6_shortestTour_60 ?_
        refine lv_iload_n cx.1 cx.2.1 dX6_shortestTour_63 rfl (lv_at hl 2 rfl) ?_
        refine lv_iconst (v := 1) cx.1 cx.2.1 dX6_shortestTour_64 (by decide) ?_
        refine lv_iadd cx.1 cx.2.1 dX6_shortestTour_65 ?_
        refine lv_iload cx.1 cx.2.1 dX6_shortestTour_66 (lv_at hl 6 rfl) ?_
        refine lv_iadd cx.1 cx.2.1 dX6_shortestTour_68 ?_
        refine lv_bipush (v := 10) cx.1 cx.2.1 dX6_shortestTour_69 (by decide) ?_
        refine lv_imul cx.1 cx.2.1 dX6_shortestTour_71 ?_
        refine lv_iload_n cx.1 cx.2.1 dX6_shortestTour_72 rfl (lv_at hl 2 rfl) ?_
        refine lv_iadd cx.1 cx.2.1 dX6_shortestTour_73 ?_
        obtain ⟨ha18, hr⟩ := of_grd hr
        refine h_iald cx fx dy ha18 dX6_shortestTour_74 ?_
        refine lv_iadd cx.1 cx.2.1 dX6_shortestTour_75 ?_
        refine va_mmin cx.1 cx.2.1 (cx.2.2.1.trans hl.1.symm) cx.2.2.2.1 (cx.2.2.2.2 _ tb_501) (cx.2.2.2.2 _ tb_502) (cx.2.2.2.2 _ tb_63) (cx.2.2.2.2 _ tb_503) (Nat.le_trans (by decide) hR.1) (Nat.le_trans (Nat.le_of_ble_eq_true rfl) hR.2) (Nat.zero_le _) (Nat.zero_le _) dX6_shortestTour_76 ?_
        obtain ⟨x19, ex19, hr⟩ := of_nm hr
        refine lv_nmi ex19 ?_
        refine lv_istore (lv' := [(4, .int x19), (6, .int x9), (0, .ref (ad k1)), (1, .int x2), (2, .int x3), (3, .int x4), (5, .int x6)]) cx.1 cx.2.1 dX6_shortestTour_79 hl (by decide) rfl (fun ls hl => ?_)
        obtain ⟨x20, ex20, hr⟩ := of_nm hr
        refine lv_iinc (v := x20) (lv' := [(5, .int x20), (4, .int x19), (6, .int x9), (0, .ref (ad k1)), (1, .int x2), (2, .int x3), (3, .int x4)]) cx.1 cx.2.1 dX6_shortestTour_81 hl (k := 6) rfl (by rw [ex20]; rfl) (by decide) rfl (fun ls hl => ?_)
        refine lv_goto (tgt := 7) cx.1 cx.2.1 dX6_shortestTour_84 (by decide) ?_
        exact hh0 k1 x2 x3 x4 x19 x20 g15 (Option.some.inj hr).symm H locs ls dy (lv_sub hl [3, 4, 5, 6, 1, 0] rfl)
      · refine lv_icmp_ne (tgt := 81) cx.1 cx.2.1 dX6_shortestTour_20 (by decide) (fun _ => ?_) (fun hn => absurd hn hc)
        obtain ⟨x21, ex21, hr⟩ := of_nm hr
        refine lv_iinc (v := x21) (lv' := [(5, .int x21), (0, .ref (ad k1)), (1, .int x2), (2, .int x3), (3, .int x4), (4, .int x5)]) cx.1 cx.2.1 dX6_shortestTour_81 hl (k := 5) rfl (by rw [ex21]; rfl) (by decide) rfl (fun ls hl => ?_)
        refine lv_goto (tgt := 7) cx.1 cx.2.1 dX6_shortestTour_84 (by decide) ?_
        exact hh0 k1 x2 x3 x4 x5 x21 g7 (Option.some.inj hr).symm H locs ls dy (lv_sub hl [1, 2, 3, 4, 5, 0] rfl)
noncomputable def r_X6_shortestTour (V : Vk) (k0 : Nat) (a1 : Int32) (a2 : Int32) (a3 : Int32) (g : Hq) : Option (Int32 × Hq) :=
  (lop (r_X6_shortestTour_7 V) (k0, a1, a2, a3, (100000 : Int32), (0 : Int32), g))
set_option maxHeartbeats 4000000 in
set_option maxRecDepth 100000 in
theorem c_X6_shortestTour {l : Launch} {D : va_G} {cA : Nat → ClassId} {sk : (Nat → Nat) × (Nat → Nat)} {ad : Nat → Nat} {A : Nat → Prop} {V : Vk} {k0 : Nat} {a1 : Int32} {a2 : Int32} {a3 : Int32} {g g0 : Hq} {r0 : Int32} (hr : r_X6_shortestTour V k0 a1 a2 a3 g = some (r0, g0)) : Met l yX6_shortestTour (wM yX6_shortestTour cX6_shortestTour 7 (some .int)) { frames := 2, cells := 0, slots := 0, locals := 52 } (Pre D cA sk ad (V, g) A [.ref (ad k0), .int a1, .int a2, .int a3]) (QI D cA ad A r0 (V, g0)) 0 0 A := by
  refine Met.ofW (cc := cX6_shortestTour) (maxL := 7) (ret := (some .int)) (by decide) rfl ?_
  intro p e s m args below meth c s₁ B hml hv
  obtain ⟨rfl, fx, w0⟩ := hv
  have hts := atoms_spec (ws := wM yX6_shortestTour cX6_shortestTour 7 (some .int)) B.pre
  have cx : CallFix p m c cX6_shortestTour 7 s ([.ref (ad k0), .int a1, .int a2, .int a3] : List Value).toArray gw_tbl RX6 := ⟨B.exec, B.bytes, hml, findClass_of_methodNamed B.named, fun w hw => hts w (List.mem_cons_of_mem _ hw)⟩
  have hlocks := B.notSynchronized
  have hret := B.returns
  have hR : 2 ≤ (headSpec (wM yX6_shortestTour cX6_shortestTour 7 (some .int)) { frames := 2, cells := 0, slots := 0, locals := 52 }).room.frames ∧ 52 ≤ (headSpec (wM yX6_shortestTour cX6_shortestTour 7 (some .int)) { frames := 2, cells := 0, slots := 0, locals := 52 }).room.locals := ⟨Nat.le_refl _, Nat.le_refl _⟩
  have dy : Dy D cA ad (V, g) A s.heap s.heap [] := ⟨w0, va_S.rf⟩
  have hl := lv_entry [.ref (ad k0), .int a1, .int a2, .int a3] (n := 7) (Nat.le_of_ble_eq_true rfl)
  rw [lg_entry_eq]
  generalize (lg_sl [.ref (ad k0), .int a1, .int a2, .int a3] ++ List.replicate (7 - (lg_sl [.ref (ad k0), .int a1, .int a2, .int a3]).length) Slot.unset).toArray = ls at hl ⊢
  have hl : lv_has ls 7 [(0, .ref (ad k0)), (1, .int a1), (2, .int a2), (3, .int a3)] := hl
  have dy0 : ∃ H0, H0 = s.heap ∧ Dy D cA ad (V, g) A s.heap H0 [] := ⟨_, rfl, dy⟩
  obtain ⟨z, ez⟩ : ∃ z, z = (r0, g0) := ⟨_, rfl⟩
  rw [← ez] at hr
  have hq0 : ∀ (rb : Int32) (gb : Hq), z = (rb, gb) → rb = r0 ∧ gb = g0 := fun rb gb eb => by rw [ez] at eb; exact ⟨(congrArg Prod.fst eb).symm, (congrArg Prod.snd eb).symm⟩
  clear ez w0 dy0
  unfold r_X6_shortestTour at hr
  obtain ⟨H, hH⟩ : ∃ H, H = s.heap := ⟨_, rfl⟩
  obtain ⟨locs, hlo⟩ : ∃ q : List Loc, q = [] := ⟨_, rfl⟩
  have dy : Dy D cA ad (V, g) A s.heap H locs := by rw [hH, hlo]; exact dy
  suffices K : W p l e (headSpec (wM yX6_shortestTour cX6_shortestTour 7 (some .int)) { frames := 2, cells := 0, slots := 0, locals := 52 }).room s m ([.ref (ad k0), .int a1, .int a2, .int a3] : List Value).toArray below meth c H locs 0 0 (MQ below (QI D cA ad A r0 (V, g0)) ([.ref (ad k0), .int a1, .int a2, .int a3] : List Value).toArray s 0 0 A) (F0 m 0 ls []) by rw [hH, hlo] at K; exact K
  clear hH hlo
  refine lv_ldc (v := (100000)) cx.1 cx.2.1 cx.2.2.2.1 (cx.2.2.2.2 _ tb_488) dX6_shortestTour_0 ?_
  refine lv_istore (lv' := [(4, .int (100000 : Int32)), (0, .ref (ad k0)), (1, .int a1), (2, .int a2), (3, .int a3)]) cx.1 cx.2.1 dX6_shortestTour_2 hl (by decide) rfl (fun ls hl => ?_)
  refine lv_iconst (v := 0) cx.1 cx.2.1 dX6_shortestTour_4 (by decide) ?_
  refine lv_istore (lv' := [(5, .int (0 : Int32)), (4, .int (100000 : Int32)), (0, .ref (ad k0)), (1, .int a1), (2, .int a2), (3, .int a3)]) cx.1 cx.2.1 dX6_shortestTour_5 hl (by decide) rfl (fun ls hl => ?_)
  obtain ⟨n, hr⟩ := lop_some hr
  exact w_X6_shortestTour_7 cx fx hlocks hret hR r0 g0 z hq0 n k0 a1 a2 a3 (100000 : Int32) (0 : Int32) g hr H locs ls dy (lv_sub hl [2, 3, 4, 5, 1, 0] rfl)
noncomputable def r_X6_leastWithin_7' (V : Vk) (k1 : Nat) (x2 : Int32) (k3 : Nat) (x4 : Int32) (x5 : Int32) (g6 : Hq) : Option ((Nat × Int32 × Nat × Int32 × Int32 × Hq) ⊕ (Int32 × Hq)) :=
  grd (V k1 = some (6, 0)) <| brn ((g6.1 k1 6) ≤ x5) (some (.inr (x4, g6))) (brn (((x2 >>> (x5 &&& 31)) &&& (1 : Int32)) = (1 : Int32)) (Option.bind (g6.2.2 k1 0) fun k8 => grd (okV V k8 0 x5) <| grd (V k3 = some (9, 0)) <| bnd (r_X9_withinAt V k3 (g6.1 k8 x5.toNatClampNeg) g6) fun x12 g11 => nm (if x12 < x4 then x12 else x4) fun x15 => nm (x5 + (1 : Int32)) fun x16 => some (.inl (k1, x2, k3, x15, x16, g11))) (nm (x5 + (1 : Int32)) fun x17 => some (.inl (k1, x2, k3, x4, x17, g6))))
noncomputable def r_X6_leastWithin_7 (V : Vk) (st : (Nat × Int32 × Nat × Int32 × Int32 × Hq)) : Option ((Nat × Int32 × Nat × Int32 × Int32 × Hq) ⊕ (Int32 × Hq)) := r_X6_leastWithin_7' V st.1 st.2.1 st.2.2.1 st.2.2.2.1 st.2.2.2.2.1 st.2.2.2.2.2
set_option maxHeartbeats 4000000 in
set_option maxRecDepth 100000 in
theorem w_X6_leastWithin_7 {p : Program} {l : Launch} {e : Env} {R : Room} {s : State} {m : MethodId} {args : Array Value} {below : List Frame} {meth : Method} {c : Code} {D : va_G} {cA : Nat → ClassId} {sk : (Nat → Nat) × (Nat → Nat)} {ad : Nat → Nat} {A : Nat → Prop} {V : Vk} (cx : CallFix p m c cX6_leastWithin 5 s args gw_tbl RX6) (fx : Fx D cA sk A s) (hlocks : meth.locks = false) (hret : meth.sig.returnType = (some .int)) (hR : 1 ≤ R.frames ∧ 24 ≤ R.locals) (r0 : Int32) (g0 : Hq) (y : (Int32 × Hq)) (hq : ∀ (rb : Int32) (gb : Hq), y = (rb, gb) → rb = r0 ∧ gb = g0) : ∀ (n : Nat) (k1 : Nat) (x2 : Int32) (k3 : Nat) (x4 : Int32) (x5 : Int32) (g6 : Hq), itr (r_X6_leastWithin_7 V) n (k1, x2, k3, x4, x5, g6) = some y → ∀ (H : Heap) (locs : List Loc) (ls : Array Slot), Dy D cA ad (V, g6) A s.heap H locs → lv_has ls 5 [(0, .ref (ad k1)), (1, .int x2), (2, .ref (ad k3)), (3, .int x4), (4, .int x5)] → W p l e R s m args below meth c H locs 0 0 (MQ below (QI D cA ad A r0 (V, g0)) args s 0 0 A) (F0 m 7 ls []) := by
  intro n
  induction n with
  | zero => intro k1 x2 k3 x4 x5 g6 hr; cases hr
  | succ n ih =>
    intro k1 x2 k3 x4 x5 g6 hr H locs ls dy hl
    obtain ⟨z, hz, hn1, hn2⟩ := itr_succ hr
    clear hr
    have hr : r_X6_leastWithin_7' V k1 x2 k3 x4 x5 g6 = some z := hz
    clear hz
    unfold r_X6_leastWithin_7' at hr
    have hh0 : ∀ (b0 : Nat) (b1 : Int32) (b2 : Nat) (b3 : Int32) (b4 : Int32) (gb : Hq), z = .inl (b0, b1, b2, b3, b4, gb) → ∀ (H : Heap) (locs : List Loc) (ls : Array Slot), Dy D cA ad (V, gb) A s.heap H locs → lv_has ls 5 [(0, .ref (ad b0)), (1, .int b1), (2, .ref (ad b2)), (3, .int b3), (4, .int b4)] → W p l e R s m args below meth c H locs 0 0 (MQ below (QI D cA ad A r0 (V, g0)) args s 0 0 A) (F0 m 7 ls []) := fun b0 b1 b2 b3 b4 gb eb => ih b0 b1 b2 b3 b4 gb (hn1 _ eb)
    have hq0 : ∀ (rb : Int32) (gb : Hq), z = (.inr (rb, gb)) → rb = r0 ∧ gb = g0 := fun rb gb eb => hq rb gb (hn2 _ eb).symm
    refine lv_iload cx.1 cx.2.1 dX6_leastWithin_7 (lv_at hl 4 rfl) ?_
    refine lv_aload_n cx.1 cx.2.1 dX6_leastWithin_9 rfl (lv_at hl 0 rfl) ?_
    obtain ⟨hv7, hr⟩ := of_grd hr
    refine h_getI cx fx dy fd_6_6 hv7 tb_137 dX6_leastWithin_10 ?_
    rcases of_brn hr with ⟨hc, hr⟩ | ⟨hc, hr⟩
    · refine lv_icmp_ge (tgt := 48) cx.1 cx.2.1 dX6_leastWithin_13 (by decide) (fun _ => ?_) (fun hn => absurd hc hn)
      refine lv_iload_n cx.1 cx.2.1 dX6_leastWithin_48 rfl (lv_at hl 3 rfl) ?_
      obtain ⟨e0, e1⟩ := hq0 _ _ (Option.some.inj hr).symm
      exact h_iret cx dy hlocks hret rfl e0 (by rw [e1]) dX6_leastWithin_49
    · refine lv_icmp_ge (tgt := 48) cx.1 cx.2.1 dX6_leastWithin_13 (by decide) (fun hn => absurd hn hc) (fun _ => ?_)
      refine lv_iload_n cx.1 cx.2.1 dX6_leastWithin_16 rfl (lv_at hl 1 rfl) ?_
      refine lv_iload cx.1 cx.2.1 dX6_leastWithin_17 (lv_at hl 4 rfl) ?_
      refine lv_ishr cx.1 cx.2.1 dX6_leastWithin_19 ?_
      refine lv_iconst (v := 1) cx.1 cx.2.1 dX6_leastWithin_20 (by decide) ?_
      refine lv_iand cx.1 cx.2.1 dX6_leastWithin_21 ?_
      refine lv_iconst (v := 1) cx.1 cx.2.1 dX6_leastWithin_22 (by decide) ?_
      rcases of_brn hr with ⟨hc, hr⟩ | ⟨hc, hr⟩
      · refine lv_icmp_ne (tgt := 42) cx.1 cx.2.1 dX6_leastWithin_23 (by decide) (fun hn => absurd hc hn) (fun _ => ?_)
        refine lv_iload_n cx.1 cx.2.1 dX6_leastWithin_26 rfl (lv_at hl 3 rfl) ?_
        refine lv_aload_n cx.1 cx.2.1 dX6_leastWithin_27 rfl (lv_at hl 2 rfl) ?_
        refine lv_aload_n cx.1 cx.2.1 dX6_leastWithin_28 rfl (lv_at hl 0 rfl) ?_
        obtain ⟨k8, hf9, hr⟩ := of_bnd hr
        refine h_getR cx fx dy fd_6_0 hv7 tb_131 hf9 dX6_leastWithin_29 ?_
        refine lv_iload cx.1 cx.2.1 dX6_leastWithin_32 (lv_at hl 4 rfl) ?_
        obtain ⟨ha10, hr⟩ := of_grd hr
        refine h_iald cx fx dy ha10 dX6_leastWithin_34 ?_
        obtain ⟨hv13, hr⟩ := of_grd hr
        obtain ⟨x12, g11, hc14, hr⟩ := of_bnd2 hr
        refine r_i dy (k_V (As := [.int (g6.1 k8 x5.toNatClampNeg)]) (b := k3) (ci := 9) cx fx dy (c_X9_withinAt hc14) mv_X9_withinAt rfl rfl ⟨Nat.le_trans (by decide) hR.1, Nat.le_trans (by decide) hR.2⟩ tb_508 hv13 rfl (by decide) rfl hl.1 rfl (Nat.le_of_ble_eq_true rfl) ⟨Nat.zero_le _, Nat.zero_le _⟩ dX6_leastWithin_35) (fun H locs dy => ?_)
        refine va_mmin cx.1 cx.2.1 (cx.2.2.1.trans hl.1.symm) cx.2.2.2.1 (cx.2.2.2.2 _ tb_501) (cx.2.2.2.2 _ tb_502) (cx.2.2.2.2 _ tb_63) (cx.2.2.2.2 _ tb_503) (Nat.le_trans (by decide) hR.1) (Nat.le_trans (Nat.le_of_ble_eq_true rfl) hR.2) (Nat.zero_le _) (Nat.zero_le _) dX6_leastWithin_38 ?_
        obtain ⟨x15, ex15, hr⟩ := of_nm hr
        refine lv_nmi ex15 ?_
        refine lv_istore_n (lv' := [(3, .int x15), (0, .ref (ad k1)), (1, .int x2), (2, .ref (ad k3)), (4, .int x5)]) cx.1 cx.2.1 dX6_leastWithin_41 rfl hl (by decide) rfl (fun ls hl => ?_)
        obtain ⟨x16, ex16, hr⟩ := of_nm hr
        refine lv_iinc (v := x16) (lv' := [(4, .int x16), (3, .int x15), (0, .ref (ad k1)), (1, .int x2), (2, .ref (ad k3))]) cx.1 cx.2.1 dX6_leastWithin_42 hl (k := 4) rfl (by rw [ex16]; rfl) (by decide) rfl (fun ls hl => ?_)
        refine lv_goto (tgt := 7) cx.1 cx.2.1 dX6_leastWithin_45 (by decide) ?_
        exact hh0 k1 x2 k3 x15 x16 g11 (Option.some.inj hr).symm H locs ls dy (lv_sub hl [2, 3, 4, 1, 0] rfl)
      · refine lv_icmp_ne (tgt := 42) cx.1 cx.2.1 dX6_leastWithin_23 (by decide) (fun _ => ?_) (fun hn => absurd hn hc)
        obtain ⟨x17, ex17, hr⟩ := of_nm hr
        refine lv_iinc (v := x17) (lv' := [(4, .int x17), (0, .ref (ad k1)), (1, .int x2), (2, .ref (ad k3)), (3, .int x4)]) cx.1 cx.2.1 dX6_leastWithin_42 hl (k := 4) rfl (by rw [ex17]; rfl) (by decide) rfl (fun ls hl => ?_)
        refine lv_goto (tgt := 7) cx.1 cx.2.1 dX6_leastWithin_45 (by decide) ?_
        exact hh0 k1 x2 k3 x4 x17 g6 (Option.some.inj hr).symm H locs ls dy (lv_sub hl [1, 2, 3, 4, 0] rfl)
noncomputable def r_X6_leastWithin (V : Vk) (k0 : Nat) (a1 : Int32) (a2 : Nat) (g : Hq) : Option (Int32 × Hq) :=
  (lop (r_X6_leastWithin_7 V) (k0, a1, a2, (999 : Int32), (0 : Int32), g))
set_option maxHeartbeats 4000000 in
set_option maxRecDepth 100000 in
theorem c_X6_leastWithin {l : Launch} {D : va_G} {cA : Nat → ClassId} {sk : (Nat → Nat) × (Nat → Nat)} {ad : Nat → Nat} {A : Nat → Prop} {V : Vk} {k0 : Nat} {a1 : Int32} {a2 : Nat} {g g0 : Hq} {r0 : Int32} (hr : r_X6_leastWithin V k0 a1 a2 g = some (r0, g0)) : Met l yX6_leastWithin (wM yX6_leastWithin cX6_leastWithin 5 (some .int)) { frames := 1, cells := 0, slots := 0, locals := 24 } (Pre D cA sk ad (V, g) A [.ref (ad k0), .int a1, .ref (ad a2)]) (QI D cA ad A r0 (V, g0)) 0 0 A := by
  refine Met.ofW (cc := cX6_leastWithin) (maxL := 5) (ret := (some .int)) (by decide) rfl ?_
  intro p e s m args below meth c s₁ B hml hv
  obtain ⟨rfl, fx, w0⟩ := hv
  have hts := atoms_spec (ws := wM yX6_leastWithin cX6_leastWithin 5 (some .int)) B.pre
  have cx : CallFix p m c cX6_leastWithin 5 s ([.ref (ad k0), .int a1, .ref (ad a2)] : List Value).toArray gw_tbl RX6 := ⟨B.exec, B.bytes, hml, findClass_of_methodNamed B.named, fun w hw => hts w (List.mem_cons_of_mem _ hw)⟩
  have hlocks := B.notSynchronized
  have hret := B.returns
  have hR : 1 ≤ (headSpec (wM yX6_leastWithin cX6_leastWithin 5 (some .int)) { frames := 1, cells := 0, slots := 0, locals := 24 }).room.frames ∧ 24 ≤ (headSpec (wM yX6_leastWithin cX6_leastWithin 5 (some .int)) { frames := 1, cells := 0, slots := 0, locals := 24 }).room.locals := ⟨Nat.le_refl _, Nat.le_refl _⟩
  have dy : Dy D cA ad (V, g) A s.heap s.heap [] := ⟨w0, va_S.rf⟩
  have hl := lv_entry [.ref (ad k0), .int a1, .ref (ad a2)] (n := 5) (Nat.le_of_ble_eq_true rfl)
  rw [lg_entry_eq]
  generalize (lg_sl [.ref (ad k0), .int a1, .ref (ad a2)] ++ List.replicate (5 - (lg_sl [.ref (ad k0), .int a1, .ref (ad a2)]).length) Slot.unset).toArray = ls at hl ⊢
  have hl : lv_has ls 5 [(0, .ref (ad k0)), (1, .int a1), (2, .ref (ad a2))] := hl
  have dy0 : ∃ H0, H0 = s.heap ∧ Dy D cA ad (V, g) A s.heap H0 [] := ⟨_, rfl, dy⟩
  obtain ⟨z, ez⟩ : ∃ z, z = (r0, g0) := ⟨_, rfl⟩
  rw [← ez] at hr
  have hq0 : ∀ (rb : Int32) (gb : Hq), z = (rb, gb) → rb = r0 ∧ gb = g0 := fun rb gb eb => by rw [ez] at eb; exact ⟨(congrArg Prod.fst eb).symm, (congrArg Prod.snd eb).symm⟩
  clear ez w0 dy0
  unfold r_X6_leastWithin at hr
  obtain ⟨H, hH⟩ : ∃ H, H = s.heap := ⟨_, rfl⟩
  obtain ⟨locs, hlo⟩ : ∃ q : List Loc, q = [] := ⟨_, rfl⟩
  have dy : Dy D cA ad (V, g) A s.heap H locs := by rw [hH, hlo]; exact dy
  suffices K : W p l e (headSpec (wM yX6_leastWithin cX6_leastWithin 5 (some .int)) { frames := 1, cells := 0, slots := 0, locals := 24 }).room s m ([.ref (ad k0), .int a1, .ref (ad a2)] : List Value).toArray below meth c H locs 0 0 (MQ below (QI D cA ad A r0 (V, g0)) ([.ref (ad k0), .int a1, .ref (ad a2)] : List Value).toArray s 0 0 A) (F0 m 0 ls []) by rw [hH, hlo] at K; exact K
  clear hH hlo
  refine lv_sipush (v := 999) cx.1 cx.2.1 dX6_leastWithin_0 (by decide) ?_
  refine lv_istore_n (lv' := [(3, .int (999 : Int32)), (0, .ref (ad k0)), (1, .int a1), (2, .ref (ad a2))]) cx.1 cx.2.1 dX6_leastWithin_3 rfl hl (by decide) rfl (fun ls hl => ?_)
  refine lv_iconst (v := 0) cx.1 cx.2.1 dX6_leastWithin_4 (by decide) ?_
  refine lv_istore (lv' := [(4, .int (0 : Int32)), (3, .int (999 : Int32)), (0, .ref (ad k0)), (1, .int a1), (2, .ref (ad a2))]) cx.1 cx.2.1 dX6_leastWithin_5 hl (by decide) rfl (fun ls hl => ?_)
  obtain ⟨n, hr⟩ := lop_some hr
  exact w_X6_leastWithin_7 cx fx hlocks hret hR r0 g0 z hq0 n k0 a1 a2 (999 : Int32) (0 : Int32) g hr H locs ls dy (lv_sub hl [2, 3, 4, 1, 0] rfl)
noncomputable def r_X6_measureTours_21' (V : Vk) (k7 : Nat) (x8 : Int32) (k9 : Nat) (x10 : Int32) (x11 : Int32) (g12 : Hq) : Option ((Nat × Int32 × Nat × Int32 × Int32 × Hq) ⊕ (Unit × Hq)) :=
  brn (((1 : Int32) <<< (x10 &&& 31)) ≤ x11) (some (.inr ((), g12))) (nm (((x11 <<< ((1 : Int32) &&& 31)) ||| (1 : Int32)) <<< (x8 &&& 31)) fun x13 => grd (V k7 = some (6, 0)) <| bnd (r_X6_shortestTour V k7 x8 x10 x11 g12) fun x15 g14 => Option.bind (g14.2.2 k7 3) fun k18 => bnd (r_X6_leastWithin V k7 x13 k9 g14) fun x21 g20 => brn (x21 < x15) (grd (okV V k18 0 x13) <| nm (sI g20 k18 x13.toNatClampNeg (100000 : Int32)) fun g24 => nm (x11 + (1 : Int32)) fun x25 => some (.inl (k7, x8, k9, x10, x25, g24))) (grd (okV V k18 0 x13) <| nm (sI g20 k18 x13.toNatClampNeg x15) fun g27 => nm (x11 + (1 : Int32)) fun x28 => some (.inl (k7, x8, k9, x10, x28, g27))))
noncomputable def r_X6_measureTours_21 (V : Vk) (st : (Nat × Int32 × Nat × Int32 × Int32 × Hq)) : Option ((Nat × Int32 × Nat × Int32 × Int32 × Hq) ⊕ (Unit × Hq)) := r_X6_measureTours_21' V st.1 st.2.1 st.2.2.1 st.2.2.2.1 st.2.2.2.2.1 st.2.2.2.2.2
set_option maxHeartbeats 4000000 in
set_option maxRecDepth 100000 in
theorem w_X6_measureTours_21 {p : Program} {l : Launch} {e : Env} {R : Room} {s : State} {m : MethodId} {args : Array Value} {below : List Frame} {meth : Method} {c : Code} {D : va_G} {cA : Nat → ClassId} {sk : (Nat → Nat) × (Nat → Nat)} {ad : Nat → Nat} {A : Nat → Prop} {V : Vk} (cx : CallFix p m c cX6_measureTours 7 s args gw_tbl RX6) (fx : Fx D cA sk A s) (hlocks : meth.locks = false) (hret : meth.sig.returnType = none) (hR : 3 ≤ R.frames ∧ 78 ≤ R.locals) (g0 : Hq) (y : (Unit × Hq)) (hq : ∀ (rb : Unit) (gb : Hq), y = (rb, gb) → gb = g0) : ∀ (n : Nat) (k7 : Nat) (x8 : Int32) (k9 : Nat) (x10 : Int32) (x11 : Int32) (g12 : Hq), itr (r_X6_measureTours_21 V) n (k7, x8, k9, x10, x11, g12) = some y → ∀ (H : Heap) (locs : List Loc) (ls : Array Slot), Dy D cA ad (V, g12) A s.heap H locs → lv_has ls 7 [(0, .ref (ad k7)), (1, .int x8), (2, .ref (ad k9)), (3, .int x10), (4, .int x11)] → W p l e R s m args below meth c H locs 0 0 (MQ below (QV D cA ad A (V, g0)) args s 0 0 A) (F0 m 21 ls []) := by
  intro n
  induction n with
  | zero => intro k7 x8 k9 x10 x11 g12 hr; cases hr
  | succ n ih =>
    intro k7 x8 k9 x10 x11 g12 hr H locs ls dy hl
    obtain ⟨z, hz, hn1, hn2⟩ := itr_succ hr
    clear hr
    have hr : r_X6_measureTours_21' V k7 x8 k9 x10 x11 g12 = some z := hz
    clear hz
    unfold r_X6_measureTours_21' at hr
    have hh0 : ∀ (b0 : Nat) (b1 : Int32) (b2 : Nat) (b3 : Int32) (b4 : Int32) (gb : Hq), z = .inl (b0, b1, b2, b3, b4, gb) → ∀ (H : Heap) (locs : List Loc) (ls : Array Slot), Dy D cA ad (V, gb) A s.heap H locs → lv_has ls 7 [(0, .ref (ad b0)), (1, .int b1), (2, .ref (ad b2)), (3, .int b3), (4, .int b4)] → W p l e R s m args below meth c H locs 0 0 (MQ below (QV D cA ad A (V, g0)) args s 0 0 A) (F0 m 21 ls []) := fun b0 b1 b2 b3 b4 gb eb => ih b0 b1 b2 b3 b4 gb (hn1 _ eb)
    have hq0 : ∀ (rb : Unit) (gb : Hq), z = (.inr (rb, gb)) → gb = g0 := fun rb gb eb => hq rb gb (hn2 _ eb).symm
    refine lv_iload cx.1 cx.2.1 dX6_measureTours_21 (lv_at hl 4 rfl) ?_
    refine lv_iconst (v := 1) cx.1 cx.2.1 dX6_measureTours_23 (by decide) ?_
    refine lv_iload_n cx.1 cx.2.1 dX6_measureTours_24 rfl (lv_at hl 3 rfl) ?_
    refine lv_ishl cx.1 cx.2.1 dX6_measureTours_25 ?_
    rcases of_brn hr with ⟨hc, hr⟩ | ⟨hc, hr⟩
    · refine lv_icmp_ge (tgt := 81) cx.1 cx.2.1 dX6_measureTours_26 (by decide) (fun _ => ?_) (fun hn => absurd hc hn)
      have e1 := hq0 _ _ (Option.some.inj hr).symm
      exact h_vret cx dy hlocks hret (by rw [e1]) dX6_measureTours_81
    · refine lv_icmp_ge (tgt := 81) cx.1 cx.2.1 dX6_measureTours_26 (by decide) (fun hn => absurd hn hc) (fun _ => ?_)
      refine lv_iload cx.1 cx.2.1 dX6_measureTours_29 (lv_at hl 4 rfl) ?_
      refine lv_iconst (v := 1) cx.1 cx.2.1 dX6_measureTours_31 (by decide) ?_
      refine lv_ishl cx.1 cx.2.1 dX6_measureTours_32 ?_
      refine lv_iconst (v := 1) cx.1 cx.2.1 dX6_measureTours_33 (by decide) ?_
      refine lv_ior cx.1 cx.2.1 dX6_measureTours_34 ?_
      refine lv_iload_n cx.1 cx.2.1 dX6_measureTours_35 rfl (lv_at hl 1 rfl) ?_
      refine lv_ishl cx.1 cx.2.1 dX6_measureTours_36 ?_
      obtain ⟨x13, ex13, hr⟩ := of_nm hr
      refine lv_nmi ex13 ?_
      refine lv_istore (lv' := [(5, .int x13), (0, .ref (ad k7)), (1, .int x8), (2, .ref (ad k9)), (3, .int x10), (4, .int x11)]) cx.1 cx.2.1 dX6_measureTours_37 hl (by decide) rfl (fun ls hl => ?_)
      refine lv_aload_n cx.1 cx.2.1 dX6_measureTours_39 rfl (lv_at hl 1 rfl) ?_
      refine lv_iload_n cx.1 cx.2.1 dX6_measureTours_40 rfl (lv_at hl 2 rfl) ?_
      refine lv_iload_n cx.1 cx.2.1 dX6_measureTours_41 rfl (lv_at hl 4 rfl) ?_
      refine lv_iload cx.1 cx.2.1 dX6_measureTours_42 (lv_at hl 5 rfl) ?_
      obtain ⟨hv16, hr⟩ := of_grd hr
      obtain ⟨x15, g14, hc17, hr⟩ := of_bnd2 hr
      refine r_i dy (k_V (As := [.int x8, .int x10, .int x11]) (b := k7) (ci := 6) cx fx dy (c_X6_shortestTour hc17) mv_X6_shortestTour rfl rfl ⟨Nat.le_trans (by decide) hR.1, Nat.le_trans (by decide) hR.2⟩ tb_493 hv16 rfl (by decide) rfl hl.1 rfl (Nat.le_of_ble_eq_true rfl) ⟨Nat.zero_le _, Nat.zero_le _⟩ dX6_measureTours_44) (fun H locs dy => ?_)
      refine lv_istore (lv' := [(6, .int x15), (5, .int x13), (0, .ref (ad k7)), (1, .int x8), (2, .ref (ad k9)), (3, .int x10), (4, .int x11)]) cx.1 cx.2.1 dX6_measureTours_47 hl (by decide) rfl (fun ls hl => ?_)
      refine lv_aload_n cx.1 cx.2.1 dX6_measureTours_49 rfl (lv_at hl 2 rfl) ?_
      obtain ⟨k18, hf19, hr⟩ := of_bnd hr
      refine h_getR cx fx dy fd_6_3 hv16 tb_134 hf19 dX6_measureTours_50 ?_
      refine lv_iload cx.1 cx.2.1 dX6_measureTours_53 (lv_at hl 1 rfl) ?_
      refine lv_iload cx.1 cx.2.1 dX6_measureTours_55 (lv_at hl 0 rfl) ?_
      refine lv_aload_n cx.1 cx.2.1 dX6_measureTours_57 rfl (lv_at hl 2 rfl) ?_
      refine lv_iload cx.1 cx.2.1 dX6_measureTours_58 (lv_at hl 1 rfl) ?_
      refine lv_aload_n cx.1 cx.2.1 dX6_measureTours_60 rfl (lv_at hl 4 rfl) ?_
      obtain ⟨x21, g20, hc22, hr⟩ := of_bnd2 hr
      refine r_i dy (k_V (As := [.int x13, .ref (ad k9)]) (b := k7) (ci := 6) cx fx dy (c_X6_leastWithin hc22) mv_X6_leastWithin rfl rfl ⟨Nat.le_trans (by decide) hR.1, Nat.le_trans (by decide) hR.2⟩ tb_504 hv16 rfl (by decide) rfl hl.1 rfl (Nat.le_of_ble_eq_true rfl) ⟨Nat.zero_le _, Nat.zero_le _⟩ dX6_measureTours_61) (fun H locs dy => ?_)
      rcases of_brn hr with ⟨hc, hr⟩ | ⟨hc, hr⟩
      · refine lv_icmp_gt (tgt := 72) cx.1 cx.2.1 dX6_measureTours_64 (by decide) (fun _ => ?_) (fun hn => absurd hc hn)
        refine lv_ldc (v := (100000)) cx.1 cx.2.1 cx.2.2.2.1 (cx.2.2.2.2 _ tb_488) dX6_measureTours_72 ?_
        obtain ⟨ha23, hr⟩ := of_grd hr
        obtain ⟨g24, eg24, hr⟩ := of_nm hr
        refine h_iast cx fx dy ha23 dX6_measureTours_74 (fun H locs dy => ?_)
        replace dy : Dy D cA ad (V, g24) A s.heap H locs := by rw [eg24]; exact dy
        obtain ⟨x25, ex25, hr⟩ := of_nm hr
        refine lv_iinc (v := x25) (lv' := [(4, .int x25), (6, .int x15), (5, .int x13), (0, .ref (ad k7)), (1, .int x8), (2, .ref (ad k9)), (3, .int x10)]) cx.1 cx.2.1 dX6_measureTours_75 hl (k := 6) rfl (by rw [ex25]; rfl) (by decide) rfl (fun ls hl => ?_)
        refine lv_goto (tgt := 21) cx.1 cx.2.1 dX6_measureTours_78 (by decide) ?_
        exact hh0 k7 x8 k9 x10 x25 g24 (Option.some.inj hr).symm H locs ls dy (lv_sub hl [3, 4, 5, 6, 0] rfl)
      · refine lv_icmp_gt (tgt := 72) cx.1 cx.2.1 dX6_measureTours_64 (by decide) (fun hn => absurd hn hc) (fun _ => ?_)
        refine lv_iload cx.1 cx.2.1 dX6_measureTours_67 (lv_at hl 0 rfl) ?_
        refine lv_goto (tgt := 74) cx.1 cx.2.1 dX6_measureTours_69 (by decide) ?_
        obtain ⟨ha26, hr⟩ := of_grd hr
        obtain ⟨g27, eg27, hr⟩ := of_nm hr
        refine h_iast cx fx dy ha26 dX6_measureTours_74 (fun H locs dy => ?_)
        replace dy : Dy D cA ad (V, g27) A s.heap H locs := by rw [eg27]; exact dy
        obtain ⟨x28, ex28, hr⟩ := of_nm hr
        refine lv_iinc (v := x28) (lv' := [(4, .int x28), (6, .int x15), (5, .int x13), (0, .ref (ad k7)), (1, .int x8), (2, .ref (ad k9)), (3, .int x10)]) cx.1 cx.2.1 dX6_measureTours_75 hl (k := 6) rfl (by rw [ex28]; rfl) (by decide) rfl (fun ls hl => ?_)
        refine lv_goto (tgt := 21) cx.1 cx.2.1 dX6_measureTours_78 (by decide) ?_
        exact hh0 k7 x8 k9 x10 x28 g27 (Option.some.inj hr).symm H locs ls dy (lv_sub hl [3, 4, 5, 6, 0] rfl)
noncomputable def r_X6_measureTours (V : Vk) (k0 : Nat) (a1 : Int32) (a2 : Nat) (g : Hq) : Option (Unit × Hq) :=
  grd (V k0 = some (6, 0)) <| Option.bind (g.2.2 k0 3) fun k2 => grd (okV V k2 0 ((1 : Int32) <<< (a1 &&& 31))) <| nm (sI g k2 ((1 : Int32) <<< (a1 &&& 31)).toNatClampNeg (0 : Int32)) fun g5 => nm (((g5.1 k0 6) - (1 : Int32)) - a1) fun x6 => (lop (r_X6_measureTours_21 V) (k0, a1, a2, x6, (1 : Int32), g5))
set_option maxHeartbeats 4000000 in
set_option maxRecDepth 100000 in
theorem c_X6_measureTours {l : Launch} {D : va_G} {cA : Nat → ClassId} {sk : (Nat → Nat) × (Nat → Nat)} {ad : Nat → Nat} {A : Nat → Prop} {V : Vk} {k0 : Nat} {a1 : Int32} {a2 : Nat} {g g0 : Hq} (hr : r_X6_measureTours V k0 a1 a2 g = some ((), g0)) : Met l yX6_measureTours (wM yX6_measureTours cX6_measureTours 7 none) { frames := 3, cells := 0, slots := 0, locals := 78 } (Pre D cA sk ad (V, g) A [.ref (ad k0), .int a1, .ref (ad a2)]) (QV D cA ad A (V, g0)) 0 0 A := by
  refine Met.ofW (cc := cX6_measureTours) (maxL := 7) (ret := none) (by decide) rfl ?_
  intro p e s m args below meth c s₁ B hml hv
  obtain ⟨rfl, fx, w0⟩ := hv
  have hts := atoms_spec (ws := wM yX6_measureTours cX6_measureTours 7 none) B.pre
  have cx : CallFix p m c cX6_measureTours 7 s ([.ref (ad k0), .int a1, .ref (ad a2)] : List Value).toArray gw_tbl RX6 := ⟨B.exec, B.bytes, hml, findClass_of_methodNamed B.named, fun w hw => hts w (List.mem_cons_of_mem _ hw)⟩
  have hlocks := B.notSynchronized
  have hret := B.returns
  have hR : 3 ≤ (headSpec (wM yX6_measureTours cX6_measureTours 7 none) { frames := 3, cells := 0, slots := 0, locals := 78 }).room.frames ∧ 78 ≤ (headSpec (wM yX6_measureTours cX6_measureTours 7 none) { frames := 3, cells := 0, slots := 0, locals := 78 }).room.locals := ⟨Nat.le_refl _, Nat.le_refl _⟩
  have dy : Dy D cA ad (V, g) A s.heap s.heap [] := ⟨w0, va_S.rf⟩
  have hl := lv_entry [.ref (ad k0), .int a1, .ref (ad a2)] (n := 7) (Nat.le_of_ble_eq_true rfl)
  rw [lg_entry_eq]
  generalize (lg_sl [.ref (ad k0), .int a1, .ref (ad a2)] ++ List.replicate (7 - (lg_sl [.ref (ad k0), .int a1, .ref (ad a2)]).length) Slot.unset).toArray = ls at hl ⊢
  have hl : lv_has ls 7 [(0, .ref (ad k0)), (1, .int a1), (2, .ref (ad a2))] := hl
  have dy0 : ∃ H0, H0 = s.heap ∧ Dy D cA ad (V, g) A s.heap H0 [] := ⟨_, rfl, dy⟩
  obtain ⟨z, ez⟩ : ∃ z, z = (((), g0) : Unit × Hq) := ⟨_, rfl⟩
  rw [← ez] at hr
  have hq0 : ∀ (rb : Unit) (gb : Hq), z = (rb, gb) → gb = g0 := fun rb gb eb => by rw [ez] at eb; exact (congrArg Prod.snd eb).symm
  clear ez w0 dy0
  unfold r_X6_measureTours at hr
  obtain ⟨H, hH⟩ : ∃ H, H = s.heap := ⟨_, rfl⟩
  obtain ⟨locs, hlo⟩ : ∃ q : List Loc, q = [] := ⟨_, rfl⟩
  have dy : Dy D cA ad (V, g) A s.heap H locs := by rw [hH, hlo]; exact dy
  suffices K : W p l e (headSpec (wM yX6_measureTours cX6_measureTours 7 none) { frames := 3, cells := 0, slots := 0, locals := 78 }).room s m ([.ref (ad k0), .int a1, .ref (ad a2)] : List Value).toArray below meth c H locs 0 0 (MQ below (QV D cA ad A (V, g0)) ([.ref (ad k0), .int a1, .ref (ad a2)] : List Value).toArray s 0 0 A) (F0 m 0 ls []) by rw [hH, hlo] at K; exact K
  clear hH hlo
  refine lv_aload_n cx.1 cx.2.1 dX6_measureTours_0 rfl (lv_at hl 0 rfl) ?_
  obtain ⟨hv1, hr⟩ := of_grd hr
  obtain ⟨k2, hf3, hr⟩ := of_bnd hr
  refine h_getR cx fx dy fd_6_3 hv1 tb_134 hf3 dX6_measureTours_1 ?_
  refine lv_iconst (v := 1) cx.1 cx.2.1 dX6_measureTours_4 (by decide) ?_
  refine lv_iload_n cx.1 cx.2.1 dX6_measureTours_5 rfl (lv_at hl 1 rfl) ?_
  refine lv_ishl cx.1 cx.2.1 dX6_measureTours_6 ?_
  refine lv_iconst (v := 0) cx.1 cx.2.1 dX6_measureTours_7 (by decide) ?_
  obtain ⟨ha4, hr⟩ := of_grd hr
  obtain ⟨g5, eg5, hr⟩ := of_nm hr
  refine h_iast cx fx dy ha4 dX6_measureTours_8 (fun H locs dy => ?_)
  replace dy : Dy D cA ad (V, g5) A s.heap H locs := by rw [eg5]; exact dy
  refine lv_aload_n cx.1 cx.2.1 dX6_measureTours_9 rfl (lv_at hl 0 rfl) ?_
  refine h_getI cx fx dy fd_6_6 hv1 tb_137 dX6_measureTours_10 ?_
  refine lv_iconst (v := 1) cx.1 cx.2.1 dX6_measureTours_13 (by decide) ?_
  refine lv_isub cx.1 cx.2.1 dX6_measureTours_14 ?_
  refine lv_iload_n cx.1 cx.2.1 dX6_measureTours_15 rfl (lv_at hl 1 rfl) ?_
  refine lv_isub cx.1 cx.2.1 dX6_measureTours_16 ?_
  obtain ⟨x6, ex6, hr⟩ := of_nm hr
  refine lv_nmi ex6 ?_
  refine lv_istore_n (lv' := [(3, .int x6), (0, .ref (ad k0)), (1, .int a1), (2, .ref (ad a2))]) cx.1 cx.2.1 dX6_measureTours_17 rfl hl (by decide) rfl (fun ls hl => ?_)
  refine lv_iconst (v := 1) cx.1 cx.2.1 dX6_measureTours_18 (by decide) ?_
  refine lv_istore (lv' := [(4, .int (1 : Int32)), (3, .int x6), (0, .ref (ad k0)), (1, .int a1), (2, .ref (ad a2))]) cx.1 cx.2.1 dX6_measureTours_19 hl (by decide) rfl (fun ls hl => ?_)
  obtain ⟨n, hr⟩ := lop_some hr
  exact w_X6_measureTours_21 cx fx hlocks hret hR g0 z hq0 n k0 a1 a2 x6 (1 : Int32) g5 hr H locs ls dy (lv_sub hl [2, 3, 4, 1, 0] rfl)
noncomputable def r_X6_bestPlan_16' (V : Vk) (k2 : Nat) (x3 : Int32) (x4 : Int32) (y5 : Int64) (x6 : Int32) (x7 : Int32) (g8 : Hq) : Option ((Nat × Int32 × Int32 × Int64 × Int32 × Int32 × Hq) ⊕ (Int64 × Hq)) :=
  brn ((1024 : Int32) ≤ x7) (some (.inr (y5, g8))) (brn (x6 < 0) (some (.inr (y5, g8))) (grd (V k2 = some (6, 0)) <| Option.bind (g8.2.2 k2 3) fun k10 => grd (okV V k10 0 (x3 ^^^ x6)) <| nm (g8.1 k10 (x3 ^^^ x6).toNatClampNeg) fun x13 => brn (x13 = (100000 : Int32)) (brn (x6 = 0) (nm (x7 + (1 : Int32)) fun x14 => some (.inl (k2, x3, x4, y5, (-1 : Int32), x14, g8))) (nm ((x6 - (1 : Int32)) &&& x4) fun x15 => nm (x7 + (1 : Int32)) fun x16 => some (.inl (k2, x3, x4, y5, x15, x16, g8)))) (Option.bind (g8.2.2 k2 4) fun k17 => grd (okV V k17 3 x6) <| Option.bind (g8.2.2 k2 5) fun k20 => grd (okV V k20 3 x6) <| nm ((((g8.2.1 k17 x6.toNatClampNeg) + (g8.2.1 k20 x6.toNatClampNeg)) + (18014398509481984 : Int64)) + (x13.toInt64 <<< ((40 : Int32).toInt64 &&& 63))) fun y23 => nm (if y23 < y5 then y23 else y5) fun y24 => brn (x6 = 0) (nm (x7 + (1 : Int32)) fun x25 => some (.inl (k2, x3, x4, y24, (-1 : Int32), x25, g8))) (nm ((x6 - (1 : Int32)) &&& x4) fun x26 => nm (x7 + (1 : Int32)) fun x27 => some (.inl (k2, x3, x4, y24, x26, x27, g8))))))
noncomputable def r_X6_bestPlan_16 (V : Vk) (st : (Nat × Int32 × Int32 × Int64 × Int32 × Int32 × Hq)) : Option ((Nat × Int32 × Int32 × Int64 × Int32 × Int32 × Hq) ⊕ (Int64 × Hq)) := r_X6_bestPlan_16' V st.1 st.2.1 st.2.2.1 st.2.2.2.1 st.2.2.2.2.1 st.2.2.2.2.2.1 st.2.2.2.2.2.2
set_option maxHeartbeats 4000000 in
set_option maxRecDepth 100000 in
theorem w_X6_bestPlan_16 {p : Program} {l : Launch} {e : Env} {R : Room} {s : State} {m : MethodId} {args : Array Value} {below : List Frame} {meth : Method} {c : Code} {D : va_G} {cA : Nat → ClassId} {sk : (Nat → Nat) × (Nat → Nat)} {ad : Nat → Nat} {A : Nat → Prop} {V : Vk} (cx : CallFix p m c cX6_bestPlan 10 s args gw_tbl RX6) (fx : Fx D cA sk A s) (hlocks : meth.locks = false) (hret : meth.sig.returnType = (some .long)) (hR : 1 ≤ R.frames ∧ 24 ≤ R.locals) (r0 : Int64) (g0 : Hq) (y : (Int64 × Hq)) (hq : ∀ (rb : Int64) (gb : Hq), y = (rb, gb) → rb = r0 ∧ gb = g0) : ∀ (n : Nat) (k2 : Nat) (x3 : Int32) (x4 : Int32) (y5 : Int64) (x6 : Int32) (x7 : Int32) (g8 : Hq), itr (r_X6_bestPlan_16 V) n (k2, x3, x4, y5, x6, x7, g8) = some y → ∀ (H : Heap) (locs : List Loc) (ls : Array Slot), Dy D cA ad (V, g8) A s.heap H locs → lv_has ls 10 [(0, .ref (ad k2)), (1, .int x3), (2, .int x4), (3, .long y5), (5, .int x6), (6, .int x7)] → W p l e R s m args below meth c H locs 0 0 (MQ below (QL D cA ad A r0 (V, g0)) args s 0 0 A) (F0 m 16 ls []) := by
  intro n
  induction n with
  | zero => intro k2 x3 x4 y5 x6 x7 g8 hr; cases hr
  | succ n ih =>
    intro k2 x3 x4 y5 x6 x7 g8 hr H locs ls dy hl
    obtain ⟨z, hz, hn1, hn2⟩ := itr_succ hr
    clear hr
    have hr : r_X6_bestPlan_16' V k2 x3 x4 y5 x6 x7 g8 = some z := hz
    clear hz
    unfold r_X6_bestPlan_16' at hr
    have hh0 : ∀ (b0 : Nat) (b1 : Int32) (b2 : Int32) (b3 : Int64) (b4 : Int32) (b5 : Int32) (gb : Hq), z = .inl (b0, b1, b2, b3, b4, b5, gb) → ∀ (H : Heap) (locs : List Loc) (ls : Array Slot), Dy D cA ad (V, gb) A s.heap H locs → lv_has ls 10 [(0, .ref (ad b0)), (1, .int b1), (2, .int b2), (3, .long b3), (5, .int b4), (6, .int b5)] → W p l e R s m args below meth c H locs 0 0 (MQ below (QL D cA ad A r0 (V, g0)) args s 0 0 A) (F0 m 16 ls []) := fun b0 b1 b2 b3 b4 b5 gb eb => ih b0 b1 b2 b3 b4 b5 gb (hn1 _ eb)
    have hq0 : ∀ (rb : Int64) (gb : Hq), z = (.inr (rb, gb)) → rb = r0 ∧ gb = g0 := fun rb gb eb => hq rb gb (hn2 _ eb).symm
    refine lv_iload cx.1 cx.2.1 dX6_bestPlan_16 (lv_at hl 5 rfl) ?_
    refine lv_sipush (v := 1024) cx.1 cx.2.1 dX6_bestPlan_18 (by decide) ?_
    rcases of_brn hr with ⟨hc, hr⟩ | ⟨hc, hr⟩
    · refine lv_icmp_ge (tgt := 105) cx.1 cx.2.1 dX6_bestPlan_21 (by decide) (fun _ => ?_) (fun hn => absurd hc hn)
      refine lv_lload_n cx.1 cx.2.1 dX6_bestPlan_105 rfl (lv_at hl 3 rfl) ?_
      obtain ⟨e0, e1⟩ := hq0 _ _ (Option.some.inj hr).symm
      exact h_lret cx dy hlocks hret e0 (by rw [e1]) dX6_bestPlan_106
    · refine lv_icmp_ge (tgt := 105) cx.1 cx.2.1 dX6_bestPlan_21 (by decide) (fun hn => absurd hn hc) (fun _ => ?_)
      refine lv_iload cx.1 cx.2.1 dX6_bestPlan_24 (lv_at hl 4 rfl) ?_
      rcases of_brn hr with ⟨hc, hr⟩ | ⟨hc, hr⟩
      · refine lv_if_lt (tgt := 105) cx.1 cx.2.1 dX6_bestPlan_26 (by decide) (fun _ => ?_) (fun hn => absurd hc hn)
        refine lv_lload_n cx.1 cx.2.1 dX6_bestPlan_105 rfl (lv_at hl 3 rfl) ?_
        obtain ⟨e0, e1⟩ := hq0 _ _ (Option.some.inj hr).symm
        exact h_lret cx dy hlocks hret e0 (by rw [e1]) dX6_bestPlan_106
      · refine lv_if_lt (tgt := 105) cx.1 cx.2.1 dX6_bestPlan_26 (by decide) (fun hn => absurd hn hc) (fun _ => ?_)
        refine lv_aload_n cx.1 cx.2.1 dX6_bestPlan_29 rfl (lv_at hl 0 rfl) ?_
        obtain ⟨hv9, hr⟩ := of_grd hr
        obtain ⟨k10, hf11, hr⟩ := of_bnd hr
        refine h_getR cx fx dy fd_6_3 hv9 tb_134 hf11 dX6_bestPlan_30 ?_
        refine lv_iload_n cx.1 cx.2.1 dX6_bestPlan_33 rfl (lv_at hl 1 rfl) ?_
        refine lv_iload cx.1 cx.2.1 dX6_bestPlan_34 (lv_at hl 4 rfl) ?_
        refine lv_ixor cx.1 cx.2.1 dX6_bestPlan_36 ?_
        obtain ⟨ha12, hr⟩ := of_grd hr
        refine h_iald cx fx dy ha12 dX6_bestPlan_37 ?_
        obtain ⟨x13, ex13, hr⟩ := of_nm hr
        refine lv_nmi ex13 ?_
        refine lv_istore (lv' := [(7, .int x13), (0, .ref (ad k2)), (1, .int x3), (2, .int x4), (3, .long y5), (5, .int x6), (6, .int x7)]) cx.1 cx.2.1 dX6_bestPlan_38 hl (by decide) rfl (fun ls hl => ?_)
        refine lv_iload cx.1 cx.2.1 dX6_bestPlan_40 (lv_at hl 0 rfl) ?_
        refine lv_ldc (v := (100000)) cx.1 cx.2.1 cx.2.2.2.1 (cx.2.2.2.2 _ tb_488) dX6_bestPlan_42 ?_
        rcases of_brn hr with ⟨hc, hr⟩ | ⟨hc, hr⟩
        · refine lv_icmp_eq (tgt := 82) cx.1 cx.2.1 dX6_bestPlan_44 (by decide) (fun _ => ?_) (fun hn => absurd hc hn)
          refine lv_iload cx.1 cx.2.1 dX6_bestPlan_82 (lv_at hl 5 rfl) ?_
          rcases of_brn hr with ⟨hc, hr⟩ | ⟨hc, hr⟩
          · refine lv_if_ne (tgt := 91) cx.1 cx.2.1 dX6_bestPlan_84 (by decide) (fun hn => absurd hc hn) (fun _ => ?_)
            refine lv_iconst (v := (-1)) cx.1 cx.2.1 dX6_bestPlan_87 (by decide) ?_
            refine lv_goto (tgt := 97) cx.1 cx.2.1 dX6_bestPlan_88 (by decide) ?_
            refine lv_istore (lv' := [(5, .int (-1 : Int32)), (7, .int x13), (0, .ref (ad k2)), (1, .int x3), (2, .int x4), (3, .long y5), (6, .int x7)]) cx.1 cx.2.1 dX6_bestPlan_97 hl (by decide) rfl (fun ls hl => ?_)
            obtain ⟨x14, ex14, hr⟩ := of_nm hr
            refine lv_iinc (v := x14) (lv' := [(6, .int x14), (5, .int (-1 : Int32)), (7, .int x13), (0, .ref (ad k2)), (1, .int x3), (2, .int x4), (3, .long y5)]) cx.1 cx.2.1 dX6_bestPlan_99 hl (k := 6) rfl (by rw [ex14]; rfl) (by decide) rfl (fun ls hl => ?_)
            refine lv_goto (tgt := 16) cx.1 cx.2.1 dX6_bestPlan_102 (by decide) ?_
            exact hh0 k2 x3 x4 y5 (-1 : Int32) x14 g8 (Option.some.inj hr).symm H locs ls dy (lv_sub hl [3, 4, 5, 6, 1, 0] rfl)
          · refine lv_if_ne (tgt := 91) cx.1 cx.2.1 dX6_bestPlan_84 (by decide) (fun _ => ?_) (fun hn => absurd hn hc)
            refine lv_iload cx.1 cx.2.1 dX6_bestPlan_91 (lv_at hl 5 rfl) ?_
            refine lv_iconst (v := 1) cx.1 cx.2.1 dX6_bestPlan_93 (by decide) ?_
            refine lv_isub cx.1 cx.2.1 dX6_bestPlan_94 ?_
            refine lv_iload_n cx.1 cx.2.1 dX6_bestPlan_95 rfl (lv_at hl 3 rfl) ?_
            refine lv_iand cx.1 cx.2.1 dX6_bestPlan_96 ?_
            obtain ⟨x15, ex15, hr⟩ := of_nm hr
            refine lv_nmi ex15 ?_
            refine lv_istore (lv' := [(5, .int x15), (7, .int x13), (0, .ref (ad k2)), (1, .int x3), (2, .int x4), (3, .long y5), (6, .int x7)]) cx.1 cx.2.1 dX6_bestPlan_97 hl (by decide) rfl (fun ls hl => ?_)
            obtain ⟨x16, ex16, hr⟩ := of_nm hr
            refine lv_iinc (v := x16) (lv' := [(6, .int x16), (5, .int x15), (7, .int x13), (0, .ref (ad k2)), (1, .int x3), (2, .int x4), (3, .long y5)]) cx.1 cx.2.1 dX6_bestPlan_99 hl (k := 6) rfl (by rw [ex16]; rfl) (by decide) rfl (fun ls hl => ?_)
            refine lv_goto (tgt := 16) cx.1 cx.2.1 dX6_bestPlan_102 (by decide) ?_
            exact hh0 k2 x3 x4 y5 x15 x16 g8 (Option.some.inj hr).symm H locs ls dy (lv_sub hl [3, 4, 5, 6, 1, 0] rfl)
        · refine lv_icmp_eq (tgt := 82) cx.1 cx.2.1 dX6_bestPlan_44 (by decide) (fun hn => absurd hn hc) (fun _ => ?_)
          refine lv_aload_n cx.1 cx.2.1 dX6_bestPlan_47 rfl (lv_at hl 1 rfl) ?_
          obtain ⟨k17, hf18, hr⟩ := of_bnd hr
          refine h_getR cx fx dy fd_6_4 hv9 tb_135 hf18 dX6_bestPlan_48 ?_
          refine lv_iload cx.1 cx.2.1 dX6_bestPlan_51 (lv_at hl 5 rfl) ?_
          obtain ⟨ha19, hr⟩ := of_grd hr
          refine h_lald cx fx dy ha19 dX6_bestPlan_53 ?_
          refine lv_aload_n cx.1 cx.2.1 dX6_bestPlan_54 rfl (lv_at hl 1 rfl) ?_
          obtain ⟨k20, hf21, hr⟩ := of_bnd hr
          refine h_getR cx fx dy fd_6_5 hv9 tb_136 hf21 dX6_bestPlan_55 ?_
          refine lv_iload cx.1 cx.2.1 dX6_bestPlan_58 (lv_at hl 5 rfl) ?_
          obtain ⟨ha22, hr⟩ := of_grd hr
          refine h_lald cx fx dy ha22 dX6_bestPlan_60 ?_
          refine lv_ladd cx.1 cx.2.1 dX6_bestPlan_61 ?_
          refine lv_ldc2 (v := (18014398509481984)) cx.1 cx.2.1 cx.2.2.2.1 (cx.2.2.2.2 _ tb_521) dX6_bestPlan_62 ?_
          refine lv_ladd cx.1 cx.2.1 dX6_bestPlan_65 ?_
          refine lv_iload cx.1 cx.2.1 dX6_bestPlan_66 (lv_at hl 0 rfl) ?_
          refine lv_i2l cx.1 cx.2.1 dX6_bestPlan_68 rfl ?_
          refine lv_bipush (v := 40) cx.1 cx.2.1 dX6_bestPlan_69 (by decide) ?_
          refine lv_lshl cx.1 cx.2.1 dX6_bestPlan_71 rfl ?_
          refine lv_ladd cx.1 cx.2.1 dX6_bestPlan_72 ?_
          obtain ⟨y23, ey23, hr⟩ := of_nm hr
          refine lv_nml ey23 ?_
          refine lv_lstore (lv' := [(8, .long y23), (7, .int x13), (0, .ref (ad k2)), (1, .int x3), (2, .int x4), (3, .long y5), (5, .int x6), (6, .int x7)]) cx.1 cx.2.1 dX6_bestPlan_73 hl (by decide) rfl (fun ls hl => ?_)
          refine lv_lload_n cx.1 cx.2.1 dX6_bestPlan_75 rfl (lv_at hl 5 rfl) ?_
          refine lv_lload cx.1 cx.2.1 dX6_bestPlan_76 (lv_at hl 0 rfl) ?_
          refine va_mmin_long cx.1 cx.2.1 (cx.2.2.1.trans hl.1.symm) cx.2.2.2.1 (cx.2.2.2.2 _ tb_522) (cx.2.2.2.2 _ tb_523) (cx.2.2.2.2 _ tb_63) (cx.2.2.2.2 _ tb_524) (Nat.le_trans (by decide) hR.1) (Nat.le_trans (Nat.le_of_ble_eq_true rfl) hR.2) (Nat.zero_le _) (Nat.zero_le _) dX6_bestPlan_78 ?_
          obtain ⟨y24, ey24, hr⟩ := of_nm hr
          refine lv_nml ey24 ?_
          refine lv_lstore_n (lv' := [(3, .long y24), (8, .long y23), (7, .int x13), (0, .ref (ad k2)), (1, .int x3), (2, .int x4), (5, .int x6), (6, .int x7)]) cx.1 cx.2.1 dX6_bestPlan_81 rfl hl (by decide) rfl (fun ls hl => ?_)
          refine lv_iload cx.1 cx.2.1 dX6_bestPlan_82 (lv_at hl 6 rfl) ?_
          rcases of_brn hr with ⟨hc, hr⟩ | ⟨hc, hr⟩
          · refine lv_if_ne (tgt := 91) cx.1 cx.2.1 dX6_bestPlan_84 (by decide) (fun hn => absurd hc hn) (fun _ => ?_)
            refine lv_iconst (v := (-1)) cx.1 cx.2.1 dX6_bestPlan_87 (by decide) ?_
            refine lv_goto (tgt := 97) cx.1 cx.2.1 dX6_bestPlan_88 (by decide) ?_
            refine lv_istore (lv' := [(5, .int (-1 : Int32)), (3, .long y24), (8, .long y23), (7, .int x13), (0, .ref (ad k2)), (1, .int x3), (2, .int x4), (6, .int x7)]) cx.1 cx.2.1 dX6_bestPlan_97 hl (by decide) rfl (fun ls hl => ?_)
            obtain ⟨x25, ex25, hr⟩ := of_nm hr
            refine lv_iinc (v := x25) (lv' := [(6, .int x25), (5, .int (-1 : Int32)), (3, .long y24), (8, .long y23), (7, .int x13), (0, .ref (ad k2)), (1, .int x3), (2, .int x4)]) cx.1 cx.2.1 dX6_bestPlan_99 hl (k := 7) rfl (by rw [ex25]; rfl) (by decide) rfl (fun ls hl => ?_)
            refine lv_goto (tgt := 16) cx.1 cx.2.1 dX6_bestPlan_102 (by decide) ?_
            exact hh0 k2 x3 x4 y24 (-1 : Int32) x25 g8 (Option.some.inj hr).symm H locs ls dy (lv_sub hl [5, 6, 7, 2, 1, 0] rfl)
          · refine lv_if_ne (tgt := 91) cx.1 cx.2.1 dX6_bestPlan_84 (by decide) (fun _ => ?_) (fun hn => absurd hn hc)
            refine lv_iload cx.1 cx.2.1 dX6_bestPlan_91 (lv_at hl 6 rfl) ?_
            refine lv_iconst (v := 1) cx.1 cx.2.1 dX6_bestPlan_93 (by decide) ?_
            refine lv_isub cx.1 cx.2.1 dX6_bestPlan_94 ?_
            refine lv_iload_n cx.1 cx.2.1 dX6_bestPlan_95 rfl (lv_at hl 5 rfl) ?_
            refine lv_iand cx.1 cx.2.1 dX6_bestPlan_96 ?_
            obtain ⟨x26, ex26, hr⟩ := of_nm hr
            refine lv_nmi ex26 ?_
            refine lv_istore (lv' := [(5, .int x26), (3, .long y24), (8, .long y23), (7, .int x13), (0, .ref (ad k2)), (1, .int x3), (2, .int x4), (6, .int x7)]) cx.1 cx.2.1 dX6_bestPlan_97 hl (by decide) rfl (fun ls hl => ?_)
            obtain ⟨x27, ex27, hr⟩ := of_nm hr
            refine lv_iinc (v := x27) (lv' := [(6, .int x27), (5, .int x26), (3, .long y24), (8, .long y23), (7, .int x13), (0, .ref (ad k2)), (1, .int x3), (2, .int x4)]) cx.1 cx.2.1 dX6_bestPlan_99 hl (k := 7) rfl (by rw [ex27]; rfl) (by decide) rfl (fun ls hl => ?_)
            refine lv_goto (tgt := 16) cx.1 cx.2.1 dX6_bestPlan_102 (by decide) ?_
            exact hh0 k2 x3 x4 y24 x26 x27 g8 (Option.some.inj hr).symm H locs ls dy (lv_sub hl [5, 6, 7, 2, 1, 0] rfl)
noncomputable def r_X6_bestPlan (V : Vk) (k0 : Nat) (a1 : Int32) (g : Hq) : Option (Int64 × Hq) :=
  nm (a1 &&& (a1 - (1 : Int32))) fun x1 => (lop (r_X6_bestPlan_16 V) (k0, a1, x1, (9223372036854775807 : Int64), x1, (0 : Int32), g))
set_option maxHeartbeats 4000000 in
set_option maxRecDepth 100000 in
theorem c_X6_bestPlan {l : Launch} {D : va_G} {cA : Nat → ClassId} {sk : (Nat → Nat) × (Nat → Nat)} {ad : Nat → Nat} {A : Nat → Prop} {V : Vk} {k0 : Nat} {a1 : Int32} {g g0 : Hq} {r0 : Int64} (hr : r_X6_bestPlan V k0 a1 g = some (r0, g0)) : Met l yX6_bestPlan (wM yX6_bestPlan cX6_bestPlan 10 (some .long)) { frames := 1, cells := 0, slots := 0, locals := 24 } (Pre D cA sk ad (V, g) A [.ref (ad k0), .int a1]) (QL D cA ad A r0 (V, g0)) 0 0 A := by
  refine Met.ofW (cc := cX6_bestPlan) (maxL := 10) (ret := (some .long)) (by decide) rfl ?_
  intro p e s m args below meth c s₁ B hml hv
  obtain ⟨rfl, fx, w0⟩ := hv
  have hts := atoms_spec (ws := wM yX6_bestPlan cX6_bestPlan 10 (some .long)) B.pre
  have cx : CallFix p m c cX6_bestPlan 10 s ([.ref (ad k0), .int a1] : List Value).toArray gw_tbl RX6 := ⟨B.exec, B.bytes, hml, findClass_of_methodNamed B.named, fun w hw => hts w (List.mem_cons_of_mem _ hw)⟩
  have hlocks := B.notSynchronized
  have hret := B.returns
  have hR : 1 ≤ (headSpec (wM yX6_bestPlan cX6_bestPlan 10 (some .long)) { frames := 1, cells := 0, slots := 0, locals := 24 }).room.frames ∧ 24 ≤ (headSpec (wM yX6_bestPlan cX6_bestPlan 10 (some .long)) { frames := 1, cells := 0, slots := 0, locals := 24 }).room.locals := ⟨Nat.le_refl _, Nat.le_refl _⟩
  have dy : Dy D cA ad (V, g) A s.heap s.heap [] := ⟨w0, va_S.rf⟩
  have hl := lv_entry [.ref (ad k0), .int a1] (n := 10) (Nat.le_of_ble_eq_true rfl)
  rw [lg_entry_eq]
  generalize (lg_sl [.ref (ad k0), .int a1] ++ List.replicate (10 - (lg_sl [.ref (ad k0), .int a1]).length) Slot.unset).toArray = ls at hl ⊢
  have hl : lv_has ls 10 [(0, .ref (ad k0)), (1, .int a1)] := hl
  have dy0 : ∃ H0, H0 = s.heap ∧ Dy D cA ad (V, g) A s.heap H0 [] := ⟨_, rfl, dy⟩
  obtain ⟨z, ez⟩ : ∃ z, z = (r0, g0) := ⟨_, rfl⟩
  rw [← ez] at hr
  have hq0 : ∀ (rb : Int64) (gb : Hq), z = (rb, gb) → rb = r0 ∧ gb = g0 := fun rb gb eb => by rw [ez] at eb; exact ⟨(congrArg Prod.fst eb).symm, (congrArg Prod.snd eb).symm⟩
  clear ez w0 dy0
  unfold r_X6_bestPlan at hr
  obtain ⟨H, hH⟩ : ∃ H, H = s.heap := ⟨_, rfl⟩
  obtain ⟨locs, hlo⟩ : ∃ q : List Loc, q = [] := ⟨_, rfl⟩
  have dy : Dy D cA ad (V, g) A s.heap H locs := by rw [hH, hlo]; exact dy
  suffices K : W p l e (headSpec (wM yX6_bestPlan cX6_bestPlan 10 (some .long)) { frames := 1, cells := 0, slots := 0, locals := 24 }).room s m ([.ref (ad k0), .int a1] : List Value).toArray below meth c H locs 0 0 (MQ below (QL D cA ad A r0 (V, g0)) ([.ref (ad k0), .int a1] : List Value).toArray s 0 0 A) (F0 m 0 ls []) by rw [hH, hlo] at K; exact K
  clear hH hlo
  refine lv_iload_n cx.1 cx.2.1 dX6_bestPlan_0 rfl (lv_at hl 1 rfl) ?_
  refine lv_iload_n cx.1 cx.2.1 dX6_bestPlan_1 rfl (lv_at hl 1 rfl) ?_
  refine lv_iconst (v := 1) cx.1 cx.2.1 dX6_bestPlan_2 (by decide) ?_
  refine lv_isub cx.1 cx.2.1 dX6_bestPlan_3 ?_
  refine lv_iand cx.1 cx.2.1 dX6_bestPlan_4 ?_
  obtain ⟨x1, ex1, hr⟩ := of_nm hr
  refine lv_nmi ex1 ?_
  refine lv_istore_n (lv' := [(2, .int x1), (0, .ref (ad k0)), (1, .int a1)]) cx.1 cx.2.1 dX6_bestPlan_5 rfl hl (by decide) rfl (fun ls hl => ?_)
  refine lv_ldc2 (v := (9223372036854775807)) cx.1 cx.2.1 cx.2.2.2.1 (cx.2.2.2.2 _ tb_520) dX6_bestPlan_6 ?_
  refine lv_lstore_n (lv' := [(3, .long (9223372036854775807 : Int64)), (2, .int x1), (0, .ref (ad k0)), (1, .int a1)]) cx.1 cx.2.1 dX6_bestPlan_9 rfl hl (by decide) rfl (fun ls hl => ?_)
  refine lv_iload_n cx.1 cx.2.1 dX6_bestPlan_10 rfl (lv_at hl 1 rfl) ?_
  refine lv_istore (lv' := [(5, .int x1), (3, .long (9223372036854775807 : Int64)), (2, .int x1), (0, .ref (ad k0)), (1, .int a1)]) cx.1 cx.2.1 dX6_bestPlan_11 hl (by decide) rfl (fun ls hl => ?_)
  refine lv_iconst (v := 0) cx.1 cx.2.1 dX6_bestPlan_13 (by decide) ?_
  refine lv_istore (lv' := [(6, .int (0 : Int32)), (5, .int x1), (3, .long (9223372036854775807 : Int64)), (2, .int x1), (0, .ref (ad k0)), (1, .int a1)]) cx.1 cx.2.1 dX6_bestPlan_14 hl (by decide) rfl (fun ls hl => ?_)
  obtain ⟨n, hr⟩ := lop_some hr
  exact w_X6_bestPlan_16 cx fx hlocks hret hR r0 g0 z hq0 n k0 a1 x1 (9223372036854775807 : Int64) x1 (0 : Int32) g hr H locs ls dy (lv_sub hl [4, 5, 3, 2, 1, 0] rfl)
noncomputable def r_X6_joinParts_2' (V : Vk) (k1 : Nat) (x2 : Int32) (g3 : Hq) : Option ((Nat × Int32 × Hq) ⊕ (Unit × Hq)) :=
  grd (V k1 = some (6, 0)) <| brn (((1 : Int32) <<< ((g3.1 k1 6) &&& 31)) ≤ x2) (some (.inr ((), g3))) (Option.bind (g3.2.2 k1 4) fun k5 => bnd (r_X6_bestPlan V k1 x2 g3) fun y8 g7 => grd (okV V k5 3 x2) <| nm (sL g7 k5 x2.toNatClampNeg y8) fun g11 => nm (x2 + (1 : Int32)) fun x12 => some (.inl (k1, x12, g11)))
noncomputable def r_X6_joinParts_2 (V : Vk) (st : (Nat × Int32 × Hq)) : Option ((Nat × Int32 × Hq) ⊕ (Unit × Hq)) := r_X6_joinParts_2' V st.1 st.2.1 st.2.2
set_option maxHeartbeats 4000000 in
set_option maxRecDepth 100000 in
theorem w_X6_joinParts_2 {p : Program} {l : Launch} {e : Env} {R : Room} {s : State} {m : MethodId} {args : Array Value} {below : List Frame} {meth : Method} {c : Code} {D : va_G} {cA : Nat → ClassId} {sk : (Nat → Nat) × (Nat → Nat)} {ad : Nat → Nat} {A : Nat → Prop} {V : Vk} (cx : CallFix p m c cX6_joinParts 2 s args gw_tbl RX6) (fx : Fx D cA sk A s) (hlocks : meth.locks = false) (hret : meth.sig.returnType = none) (hR : 2 ≤ R.frames ∧ 53 ≤ R.locals) (g0 : Hq) (y : (Unit × Hq)) (hq : ∀ (rb : Unit) (gb : Hq), y = (rb, gb) → gb = g0) : ∀ (n : Nat) (k1 : Nat) (x2 : Int32) (g3 : Hq), itr (r_X6_joinParts_2 V) n (k1, x2, g3) = some y → ∀ (H : Heap) (locs : List Loc) (ls : Array Slot), Dy D cA ad (V, g3) A s.heap H locs → lv_has ls 2 [(0, .ref (ad k1)), (1, .int x2)] → W p l e R s m args below meth c H locs 0 0 (MQ below (QV D cA ad A (V, g0)) args s 0 0 A) (F0 m 2 ls []) := by
  intro n
  induction n with
  | zero => intro k1 x2 g3 hr; cases hr
  | succ n ih =>
    intro k1 x2 g3 hr H locs ls dy hl
    obtain ⟨z, hz, hn1, hn2⟩ := itr_succ hr
    clear hr
    have hr : r_X6_joinParts_2' V k1 x2 g3 = some z := hz
    clear hz
    unfold r_X6_joinParts_2' at hr
    have hh0 : ∀ (b0 : Nat) (b1 : Int32) (gb : Hq), z = .inl (b0, b1, gb) → ∀ (H : Heap) (locs : List Loc) (ls : Array Slot), Dy D cA ad (V, gb) A s.heap H locs → lv_has ls 2 [(0, .ref (ad b0)), (1, .int b1)] → W p l e R s m args below meth c H locs 0 0 (MQ below (QV D cA ad A (V, g0)) args s 0 0 A) (F0 m 2 ls []) := fun b0 b1 gb eb => ih b0 b1 gb (hn1 _ eb)
    have hq0 : ∀ (rb : Unit) (gb : Hq), z = (.inr (rb, gb)) → gb = g0 := fun rb gb eb => hq rb gb (hn2 _ eb).symm
    refine lv_iload_n cx.1 cx.2.1 dX6_joinParts_2 rfl (lv_at hl 1 rfl) ?_
    refine lv_iconst (v := 1) cx.1 cx.2.1 dX6_joinParts_3 (by decide) ?_
    refine lv_aload_n cx.1 cx.2.1 dX6_joinParts_4 rfl (lv_at hl 0 rfl) ?_
    obtain ⟨hv4, hr⟩ := of_grd hr
    refine h_getI cx fx dy fd_6_6 hv4 tb_137 dX6_joinParts_5 ?_
    refine lv_ishl cx.1 cx.2.1 dX6_joinParts_8 ?_
    rcases of_brn hr with ⟨hc, hr⟩ | ⟨hc, hr⟩
    · refine lv_icmp_ge (tgt := 29) cx.1 cx.2.1 dX6_joinParts_9 (by decide) (fun _ => ?_) (fun hn => absurd hc hn)
      have e1 := hq0 _ _ (Option.some.inj hr).symm
      exact h_vret cx dy hlocks hret (by rw [e1]) dX6_joinParts_29
    · refine lv_icmp_ge (tgt := 29) cx.1 cx.2.1 dX6_joinParts_9 (by decide) (fun hn => absurd hn hc) (fun _ => ?_)
      refine lv_aload_n cx.1 cx.2.1 dX6_joinParts_12 rfl (lv_at hl 0 rfl) ?_
      obtain ⟨k5, hf6, hr⟩ := of_bnd hr
      refine h_getR cx fx dy fd_6_4 hv4 tb_135 hf6 dX6_joinParts_13 ?_
      refine lv_iload_n cx.1 cx.2.1 dX6_joinParts_16 rfl (lv_at hl 1 rfl) ?_
      refine lv_aload_n cx.1 cx.2.1 dX6_joinParts_17 rfl (lv_at hl 0 rfl) ?_
      refine lv_iload_n cx.1 cx.2.1 dX6_joinParts_18 rfl (lv_at hl 1 rfl) ?_
      obtain ⟨y8, g7, hc9, hr⟩ := of_bnd2 hr
      refine r_l dy (k_V (As := [.int x2]) (b := k1) (ci := 6) cx fx dy (c_X6_bestPlan hc9) mv_X6_bestPlan rfl rfl ⟨Nat.le_trans (by decide) hR.1, Nat.le_trans (by decide) hR.2⟩ tb_516 hv4 rfl (by decide) rfl hl.1 rfl (Nat.le_of_ble_eq_true rfl) ⟨Nat.zero_le _, Nat.zero_le _⟩ dX6_joinParts_19) (fun H locs dy => ?_)
      obtain ⟨ha10, hr⟩ := of_grd hr
      obtain ⟨g11, eg11, hr⟩ := of_nm hr
      refine h_last cx fx dy ha10 dX6_joinParts_22 (fun H locs dy => ?_)
      replace dy : Dy D cA ad (V, g11) A s.heap H locs := by rw [eg11]; exact dy
      obtain ⟨x12, ex12, hr⟩ := of_nm hr
      refine lv_iinc (v := x12) (lv' := [(1, .int x12), (0, .ref (ad k1))]) cx.1 cx.2.1 dX6_joinParts_23 hl (k := 1) rfl (by rw [ex12]; rfl) (by decide) rfl (fun ls hl => ?_)
      refine lv_goto (tgt := 2) cx.1 cx.2.1 dX6_joinParts_26 (by decide) ?_
      exact hh0 k1 x12 g11 (Option.some.inj hr).symm H locs ls dy (lv_sub hl [1, 0] rfl)
noncomputable def r_X6_joinParts (V : Vk) (k0 : Nat) (g : Hq) : Option (Unit × Hq) :=
  (lop (r_X6_joinParts_2 V) (k0, (1 : Int32), g))
set_option maxHeartbeats 4000000 in
set_option maxRecDepth 100000 in
theorem c_X6_joinParts {l : Launch} {D : va_G} {cA : Nat → ClassId} {sk : (Nat → Nat) × (Nat → Nat)} {ad : Nat → Nat} {A : Nat → Prop} {V : Vk} {k0 : Nat} {g g0 : Hq} (hr : r_X6_joinParts V k0 g = some ((), g0)) : Met l yX6_joinParts (wM yX6_joinParts cX6_joinParts 2 none) { frames := 2, cells := 0, slots := 0, locals := 53 } (Pre D cA sk ad (V, g) A [.ref (ad k0)]) (QV D cA ad A (V, g0)) 0 0 A := by
  refine Met.ofW (cc := cX6_joinParts) (maxL := 2) (ret := none) (by decide) rfl ?_
  intro p e s m args below meth c s₁ B hml hv
  obtain ⟨rfl, fx, w0⟩ := hv
  have hts := atoms_spec (ws := wM yX6_joinParts cX6_joinParts 2 none) B.pre
  have cx : CallFix p m c cX6_joinParts 2 s ([.ref (ad k0)] : List Value).toArray gw_tbl RX6 := ⟨B.exec, B.bytes, hml, findClass_of_methodNamed B.named, fun w hw => hts w (List.mem_cons_of_mem _ hw)⟩
  have hlocks := B.notSynchronized
  have hret := B.returns
  have hR : 2 ≤ (headSpec (wM yX6_joinParts cX6_joinParts 2 none) { frames := 2, cells := 0, slots := 0, locals := 53 }).room.frames ∧ 53 ≤ (headSpec (wM yX6_joinParts cX6_joinParts 2 none) { frames := 2, cells := 0, slots := 0, locals := 53 }).room.locals := ⟨Nat.le_refl _, Nat.le_refl _⟩
  have dy : Dy D cA ad (V, g) A s.heap s.heap [] := ⟨w0, va_S.rf⟩
  have hl := lv_entry [.ref (ad k0)] (n := 2) (Nat.le_of_ble_eq_true rfl)
  rw [lg_entry_eq]
  generalize (lg_sl [.ref (ad k0)] ++ List.replicate (2 - (lg_sl [.ref (ad k0)]).length) Slot.unset).toArray = ls at hl ⊢
  have hl : lv_has ls 2 [(0, .ref (ad k0))] := hl
  have dy0 : ∃ H0, H0 = s.heap ∧ Dy D cA ad (V, g) A s.heap H0 [] := ⟨_, rfl, dy⟩
  obtain ⟨z, ez⟩ : ∃ z, z = (((), g0) : Unit × Hq) := ⟨_, rfl⟩
  rw [← ez] at hr
  have hq0 : ∀ (rb : Unit) (gb : Hq), z = (rb, gb) → gb = g0 := fun rb gb eb => by rw [ez] at eb; exact (congrArg Prod.snd eb).symm
  clear ez w0 dy0
  unfold r_X6_joinParts at hr
  obtain ⟨H, hH⟩ : ∃ H, H = s.heap := ⟨_, rfl⟩
  obtain ⟨locs, hlo⟩ : ∃ q : List Loc, q = [] := ⟨_, rfl⟩
  have dy : Dy D cA ad (V, g) A s.heap H locs := by rw [hH, hlo]; exact dy
  suffices K : W p l e (headSpec (wM yX6_joinParts cX6_joinParts 2 none) { frames := 2, cells := 0, slots := 0, locals := 53 }).room s m ([.ref (ad k0)] : List Value).toArray below meth c H locs 0 0 (MQ below (QV D cA ad A (V, g0)) ([.ref (ad k0)] : List Value).toArray s 0 0 A) (F0 m 0 ls []) by rw [hH, hlo] at K; exact K
  clear hH hlo
  refine lv_iconst (v := 1) cx.1 cx.2.1 dX6_joinParts_0 (by decide) ?_
  refine lv_istore_n (lv' := [(1, .int (1 : Int32)), (0, .ref (ad k0))]) cx.1 cx.2.1 dX6_joinParts_1 rfl hl (by decide) rfl (fun ls hl => ?_)
  obtain ⟨n, hr⟩ := lop_some hr
  exact w_X6_joinParts_2 cx fx hlocks hret hR g0 z hq0 n k0 (1 : Int32) g hr H locs ls dy (lv_sub hl [1, 0] rfl)
noncomputable def r_X6_keepPartOf_6' (V : Vk) (k1 : Nat) (x2 : Int32) (y3 : Int64) (x4 : Int32) (x5 : Int32) (g6 : Hq) : Option ((Nat × Int32 × Int64 × Int32 × Int32 × Hq) ⊕ (Int32 × Hq)) :=
  grd (V k1 = some (6, 0)) <| brn ((g6.1 k1 6) ≤ x5) (some (.inr (x4, g6))) (bnd (r_X6_rowShift V x5 g6) fun x9 g8 => nm ((y3 >>> (x9.toInt64 &&& 63)).toInt32 &&& (15 : Int32)) fun x11 => brn (x11 = x2) (nm (x4 ||| ((1 : Int32) <<< (x5 &&& 31))) fun x12 => Option.bind (g8.2.2 k1 9) fun k13 => Option.bind (g8.2.2 k1 0) fun k15 => grd (okV V k15 0 x5) <| grd (okV V k13 0 (g8.1 k15 x5.toNatClampNeg)) <| nm (sI g8 k13 (g8.1 k15 x5.toNatClampNeg).toNatClampNeg x2) fun g19 => Option.bind (g19.2.2 k1 11) fun k20 => grd (okV V k20 0 x2) <| Option.bind (g19.2.2 k1 0) fun k23 => grd (okV V k23 0 x5) <| grd (okV V k20 0 x2) <| nm (sI g19 k20 x2.toNatClampNeg ((g19.1 k20 x2.toNatClampNeg) ||| ((1 : Int32) <<< ((g19.1 k23 x5.toNatClampNeg) &&& 31)))) fun g27 => nm (x5 + (1 : Int32)) fun x28 => some (.inl (k1, x2, y3, x12, x28, g27))) (nm (x5 + (1 : Int32)) fun x29 => some (.inl (k1, x2, y3, x4, x29, g8))))
noncomputable def r_X6_keepPartOf_6 (V : Vk) (st : (Nat × Int32 × Int64 × Int32 × Int32 × Hq)) : Option ((Nat × Int32 × Int64 × Int32 × Int32 × Hq) ⊕ (Int32 × Hq)) := r_X6_keepPartOf_6' V st.1 st.2.1 st.2.2.1 st.2.2.2.1 st.2.2.2.2.1 st.2.2.2.2.2
set_option maxHeartbeats 4000000 in
set_option maxRecDepth 100000 in
theorem w_X6_keepPartOf_6 {p : Program} {l : Launch} {e : Env} {R : Room} {s : State} {m : MethodId} {args : Array Value} {below : List Frame} {meth : Method} {c : Code} {D : va_G} {cA : Nat → ClassId} {sk : (Nat → Nat) × (Nat → Nat)} {ad : Nat → Nat} {A : Nat → Prop} {V : Vk} (cx : CallFix p m c cX6_keepPartOf 7 s args gw_tbl RX6) (fx : Fx D cA sk A s) (hlocks : meth.locks = false) (hret : meth.sig.returnType = (some .int)) (hR : 1 ≤ R.frames ∧ 20 ≤ R.locals) (r0 : Int32) (g0 : Hq) (y : (Int32 × Hq)) (hq : ∀ (rb : Int32) (gb : Hq), y = (rb, gb) → rb = r0 ∧ gb = g0) : ∀ (n : Nat) (k1 : Nat) (x2 : Int32) (y3 : Int64) (x4 : Int32) (x5 : Int32) (g6 : Hq), itr (r_X6_keepPartOf_6 V) n (k1, x2, y3, x4, x5, g6) = some y → ∀ (H : Heap) (locs : List Loc) (ls : Array Slot), Dy D cA ad (V, g6) A s.heap H locs → lv_has ls 7 [(0, .ref (ad k1)), (1, .int x2), (2, .long y3), (4, .int x4), (5, .int x5)] → W p l e R s m args below meth c H locs 0 0 (MQ below (QI D cA ad A r0 (V, g0)) args s 0 0 A) (F0 m 6 ls []) := by
  intro n
  induction n with
  | zero => intro k1 x2 y3 x4 x5 g6 hr; cases hr
  | succ n ih =>
    intro k1 x2 y3 x4 x5 g6 hr H locs ls dy hl
    obtain ⟨z, hz, hn1, hn2⟩ := itr_succ hr
    clear hr
    have hr : r_X6_keepPartOf_6' V k1 x2 y3 x4 x5 g6 = some z := hz
    clear hz
    unfold r_X6_keepPartOf_6' at hr
    have hh0 : ∀ (b0 : Nat) (b1 : Int32) (b2 : Int64) (b3 : Int32) (b4 : Int32) (gb : Hq), z = .inl (b0, b1, b2, b3, b4, gb) → ∀ (H : Heap) (locs : List Loc) (ls : Array Slot), Dy D cA ad (V, gb) A s.heap H locs → lv_has ls 7 [(0, .ref (ad b0)), (1, .int b1), (2, .long b2), (4, .int b3), (5, .int b4)] → W p l e R s m args below meth c H locs 0 0 (MQ below (QI D cA ad A r0 (V, g0)) args s 0 0 A) (F0 m 6 ls []) := fun b0 b1 b2 b3 b4 gb eb => ih b0 b1 b2 b3 b4 gb (hn1 _ eb)
    have hq0 : ∀ (rb : Int32) (gb : Hq), z = (.inr (rb, gb)) → rb = r0 ∧ gb = g0 := fun rb gb eb => hq rb gb (hn2 _ eb).symm
    refine lv_iload cx.1 cx.2.1 dX6_keepPartOf_6 (lv_at hl 4 rfl) ?_
    refine lv_aload_n cx.1 cx.2.1 dX6_keepPartOf_8 rfl (lv_at hl 0 rfl) ?_
    obtain ⟨hv7, hr⟩ := of_grd hr
    refine h_getI cx fx dy fd_6_6 hv7 tb_137 dX6_keepPartOf_9 ?_
    rcases of_brn hr with ⟨hc, hr⟩ | ⟨hc, hr⟩
    · refine lv_icmp_ge (tgt := 80) cx.1 cx.2.1 dX6_keepPartOf_12 (by decide) (fun _ => ?_) (fun hn => absurd hc hn)
      refine lv_iload cx.1 cx.2.1 dX6_keepPartOf_80 (lv_at hl 3 rfl) ?_
      obtain ⟨e0, e1⟩ := hq0 _ _ (Option.some.inj hr).symm
      exact h_iret cx dy hlocks hret rfl e0 (by rw [e1]) dX6_keepPartOf_82
    · refine lv_icmp_ge (tgt := 80) cx.1 cx.2.1 dX6_keepPartOf_12 (by decide) (fun hn => absurd hn hc) (fun _ => ?_)
      refine lv_lload_n cx.1 cx.2.1 dX6_keepPartOf_15 rfl (lv_at hl 2 rfl) ?_
      refine lv_iload cx.1 cx.2.1 dX6_keepPartOf_16 (lv_at hl 4 rfl) ?_
      obtain ⟨x9, g8, hc10, hr⟩ := of_bnd2 hr
      refine r_i dy (k_S (As := [.int x5]) cx fx dy (c_X6_rowShift hc10) mv_X6_rowShift rfl rfl ⟨Nat.le_trans (by decide) hR.1, Nat.le_trans (by decide) hR.2⟩ tb_128 rfl hl.1 rfl (Nat.le_of_ble_eq_true rfl) ⟨Nat.zero_le _, Nat.zero_le _⟩ dX6_keepPartOf_18) (fun H locs dy => ?_)
      refine lv_lshr cx.1 cx.2.1 dX6_keepPartOf_21 rfl ?_
      refine lv_l2i cx.1 cx.2.1 dX6_keepPartOf_22 rfl ?_
      refine lv_bipush (v := 15) cx.1 cx.2.1 dX6_keepPartOf_23 (by decide) ?_
      refine lv_iand cx.1 cx.2.1 dX6_keepPartOf_25 ?_
      obtain ⟨x11, ex11, hr⟩ := of_nm hr
      refine lv_nmi ex11 ?_
      refine lv_istore (lv' := [(6, .int x11), (0, .ref (ad k1)), (1, .int x2), (2, .long y3), (4, .int x4), (5, .int x5)]) cx.1 cx.2.1 dX6_keepPartOf_26 hl (by decide) rfl (fun ls hl => ?_)
      refine lv_iload cx.1 cx.2.1 dX6_keepPartOf_28 (lv_at hl 0 rfl) ?_
      refine lv_iload_n cx.1 cx.2.1 dX6_keepPartOf_30 rfl (lv_at hl 2 rfl) ?_
      rcases of_brn hr with ⟨hc, hr⟩ | ⟨hc, hr⟩
      · refine lv_icmp_ne (tgt := 74) cx.1 cx.2.1 dX6_keepPartOf_31 (by decide) (fun hn => absurd hc hn) (fun _ => ?_)
        refine lv_iload cx.1 cx.2.1 dX6_keepPartOf_34 (lv_at hl 4 rfl) ?_
        refine lv_iconst (v := 1) cx.1 cx.2.1 dX6_keepPartOf_36 (by decide) ?_
        refine lv_iload cx.1 cx.2.1 dX6_keepPartOf_37 (lv_at hl 5 rfl) ?_
        refine lv_ishl cx.1 cx.2.1 dX6_keepPartOf_39 ?_
        refine lv_ior cx.1 cx.2.1 dX6_keepPartOf_40 ?_
        obtain ⟨x12, ex12, hr⟩ := of_nm hr
        refine lv_nmi ex12 ?_
        refine lv_istore (lv' := [(4, .int x12), (6, .int x11), (0, .ref (ad k1)), (1, .int x2), (2, .long y3), (5, .int x5)]) cx.1 cx.2.1 dX6_keepPartOf_41 hl (by decide) rfl (fun ls hl => ?_)
        refine lv_aload_n cx.1 cx.2.1 dX6_keepPartOf_43 rfl (lv_at hl 2 rfl) ?_
        obtain ⟨k13, hf14, hr⟩ := of_bnd hr
        refine h_getR cx fx dy fd_6_9 hv7 tb_140 hf14 dX6_keepPartOf_44 ?_
        refine lv_aload_n cx.1 cx.2.1 dX6_keepPartOf_47 rfl (lv_at hl 2 rfl) ?_
        obtain ⟨k15, hf16, hr⟩ := of_bnd hr
        refine h_getR cx fx dy fd_6_0 hv7 tb_131 hf16 dX6_keepPartOf_48 ?_
        refine lv_iload cx.1 cx.2.1 dX6_keepPartOf_51 (lv_at hl 5 rfl) ?_
        obtain ⟨ha17, hr⟩ := of_grd hr
        refine h_iald cx fx dy ha17 dX6_keepPartOf_53 ?_
        refine lv_iload_n cx.1 cx.2.1 dX6_keepPartOf_54 rfl (lv_at hl 3 rfl) ?_
        obtain ⟨ha18, hr⟩ := of_grd hr
        obtain ⟨g19, eg19, hr⟩ := of_nm hr
        refine h_iast cx fx dy ha18 dX6_keepPartOf_55 (fun H locs dy => ?_)
        replace dy : Dy D cA ad (V, g19) A s.heap H locs := by rw [eg19]; exact dy
        refine lv_aload_n cx.1 cx.2.1 dX6_keepPartOf_56 rfl (lv_at hl 2 rfl) ?_
        obtain ⟨k20, hf21, hr⟩ := of_bnd hr
        refine h_getR cx fx dy fd_6_11 hv7 tb_142 hf21 dX6_keepPartOf_57 ?_
        refine lv_iload_n cx.1 cx.2.1 dX6_keepPartOf_60 rfl (lv_at hl 3 rfl) ?_
        refine lv_dup2_11 cx.1 cx.2.1 dX6_keepPartOf_61 rfl rfl ?_
        obtain ⟨ha22, hr⟩ := of_grd hr
        refine h_iald cx fx dy ha22 dX6_keepPartOf_62 ?_
        refine lv_iconst (v := 1) cx.1 cx.2.1 dX6_keepPartOf_63 (by decide) ?_
        refine lv_aload_n cx.1 cx.2.1 dX6_keepPartOf_64 rfl (lv_at hl 2 rfl) ?_
        obtain ⟨k23, hf24, hr⟩ := of_bnd hr
        refine h_getR cx fx dy fd_6_0 hv7 tb_131 hf24 dX6_keepPartOf_65 ?_
        refine lv_iload cx.1 cx.2.1 dX6_keepPartOf_68 (lv_at hl 5 rfl) ?_
        obtain ⟨ha25, hr⟩ := of_grd hr
        refine h_iald cx fx dy ha25 dX6_keepPartOf_70 ?_
        refine lv_ishl cx.1 cx.2.1 dX6_keepPartOf_71 ?_
        refine lv_ior cx.1 cx.2.1 dX6_keepPartOf_72 ?_
        obtain ⟨ha26, hr⟩ := of_grd hr
        obtain ⟨g27, eg27, hr⟩ := of_nm hr
        refine h_iast cx fx dy ha26 dX6_keepPartOf_73 (fun H locs dy => ?_)
        replace dy : Dy D cA ad (V, g27) A s.heap H locs := by rw [eg27]; exact dy
        obtain ⟨x28, ex28, hr⟩ := of_nm hr
        refine lv_iinc (v := x28) (lv' := [(5, .int x28), (4, .int x12), (6, .int x11), (0, .ref (ad k1)), (1, .int x2), (2, .long y3)]) cx.1 cx.2.1 dX6_keepPartOf_74 hl (k := 5) rfl (by rw [ex28]; rfl) (by decide) rfl (fun ls hl => ?_)
        refine lv_goto (tgt := 6) cx.1 cx.2.1 dX6_keepPartOf_77 (by decide) ?_
        exact hh0 k1 x2 y3 x12 x28 g27 (Option.some.inj hr).symm H locs ls dy (lv_sub hl [3, 4, 5, 1, 0] rfl)
      · refine lv_icmp_ne (tgt := 74) cx.1 cx.2.1 dX6_keepPartOf_31 (by decide) (fun _ => ?_) (fun hn => absurd hn hc)
        obtain ⟨x29, ex29, hr⟩ := of_nm hr
        refine lv_iinc (v := x29) (lv' := [(5, .int x29), (6, .int x11), (0, .ref (ad k1)), (1, .int x2), (2, .long y3), (4, .int x4)]) cx.1 cx.2.1 dX6_keepPartOf_74 hl (k := 5) rfl (by rw [ex29]; rfl) (by decide) rfl (fun ls hl => ?_)
        refine lv_goto (tgt := 6) cx.1 cx.2.1 dX6_keepPartOf_77 (by decide) ?_
        exact hh0 k1 x2 y3 x4 x29 g8 (Option.some.inj hr).symm H locs ls dy (lv_sub hl [2, 3, 4, 5, 0] rfl)
noncomputable def r_X6_keepPartOf (V : Vk) (k0 : Nat) (a1 : Int32) (a2 : Int64) (g : Hq) : Option (Int32 × Hq) :=
  (lop (r_X6_keepPartOf_6 V) (k0, a1, a2, (0 : Int32), (0 : Int32), g))
set_option maxHeartbeats 4000000 in
set_option maxRecDepth 100000 in
theorem c_X6_keepPartOf {l : Launch} {D : va_G} {cA : Nat → ClassId} {sk : (Nat → Nat) × (Nat → Nat)} {ad : Nat → Nat} {A : Nat → Prop} {V : Vk} {k0 : Nat} {a1 : Int32} {a2 : Int64} {g g0 : Hq} {r0 : Int32} (hr : r_X6_keepPartOf V k0 a1 a2 g = some (r0, g0)) : Met l yX6_keepPartOf (wM yX6_keepPartOf cX6_keepPartOf 7 (some .int)) { frames := 1, cells := 0, slots := 0, locals := 20 } (Pre D cA sk ad (V, g) A [.ref (ad k0), .int a1, .long a2]) (QI D cA ad A r0 (V, g0)) 0 0 A := by
  refine Met.ofW (cc := cX6_keepPartOf) (maxL := 7) (ret := (some .int)) (by decide) rfl ?_
  intro p e s m args below meth c s₁ B hml hv
  obtain ⟨rfl, fx, w0⟩ := hv
  have hts := atoms_spec (ws := wM yX6_keepPartOf cX6_keepPartOf 7 (some .int)) B.pre
  have cx : CallFix p m c cX6_keepPartOf 7 s ([.ref (ad k0), .int a1, .long a2] : List Value).toArray gw_tbl RX6 := ⟨B.exec, B.bytes, hml, findClass_of_methodNamed B.named, fun w hw => hts w (List.mem_cons_of_mem _ hw)⟩
  have hlocks := B.notSynchronized
  have hret := B.returns
  have hR : 1 ≤ (headSpec (wM yX6_keepPartOf cX6_keepPartOf 7 (some .int)) { frames := 1, cells := 0, slots := 0, locals := 20 }).room.frames ∧ 20 ≤ (headSpec (wM yX6_keepPartOf cX6_keepPartOf 7 (some .int)) { frames := 1, cells := 0, slots := 0, locals := 20 }).room.locals := ⟨Nat.le_refl _, Nat.le_refl _⟩
  have dy : Dy D cA ad (V, g) A s.heap s.heap [] := ⟨w0, va_S.rf⟩
  have hl := lv_entry [.ref (ad k0), .int a1, .long a2] (n := 7) (Nat.le_of_ble_eq_true rfl)
  rw [lg_entry_eq]
  generalize (lg_sl [.ref (ad k0), .int a1, .long a2] ++ List.replicate (7 - (lg_sl [.ref (ad k0), .int a1, .long a2]).length) Slot.unset).toArray = ls at hl ⊢
  have hl : lv_has ls 7 [(0, .ref (ad k0)), (1, .int a1), (2, .long a2)] := hl
  have dy0 : ∃ H0, H0 = s.heap ∧ Dy D cA ad (V, g) A s.heap H0 [] := ⟨_, rfl, dy⟩
  obtain ⟨z, ez⟩ : ∃ z, z = (r0, g0) := ⟨_, rfl⟩
  rw [← ez] at hr
  have hq0 : ∀ (rb : Int32) (gb : Hq), z = (rb, gb) → rb = r0 ∧ gb = g0 := fun rb gb eb => by rw [ez] at eb; exact ⟨(congrArg Prod.fst eb).symm, (congrArg Prod.snd eb).symm⟩
  clear ez w0 dy0
  unfold r_X6_keepPartOf at hr
  obtain ⟨H, hH⟩ : ∃ H, H = s.heap := ⟨_, rfl⟩
  obtain ⟨locs, hlo⟩ : ∃ q : List Loc, q = [] := ⟨_, rfl⟩
  have dy : Dy D cA ad (V, g) A s.heap H locs := by rw [hH, hlo]; exact dy
  suffices K : W p l e (headSpec (wM yX6_keepPartOf cX6_keepPartOf 7 (some .int)) { frames := 1, cells := 0, slots := 0, locals := 20 }).room s m ([.ref (ad k0), .int a1, .long a2] : List Value).toArray below meth c H locs 0 0 (MQ below (QI D cA ad A r0 (V, g0)) ([.ref (ad k0), .int a1, .long a2] : List Value).toArray s 0 0 A) (F0 m 0 ls []) by rw [hH, hlo] at K; exact K
  clear hH hlo
  refine lv_iconst (v := 0) cx.1 cx.2.1 dX6_keepPartOf_0 (by decide) ?_
  refine lv_istore (lv' := [(4, .int (0 : Int32)), (0, .ref (ad k0)), (1, .int a1), (2, .long a2)]) cx.1 cx.2.1 dX6_keepPartOf_1 hl (by decide) rfl (fun ls hl => ?_)
  refine lv_iconst (v := 0) cx.1 cx.2.1 dX6_keepPartOf_3 (by decide) ?_
  refine lv_istore (lv' := [(5, .int (0 : Int32)), (4, .int (0 : Int32)), (0, .ref (ad k0)), (1, .int a1), (2, .long a2)]) cx.1 cx.2.1 dX6_keepPartOf_4 hl (by decide) rfl (fun ls hl => ?_)
  obtain ⟨n, hr⟩ := lop_some hr
  exact w_X6_keepPartOf_6 cx fx hlocks hret hR r0 g0 z hq0 n k0 a1 a2 (0 : Int32) (0 : Int32) g hr H locs ls dy (lv_sub hl [2, 3, 4, 1, 0] rfl)
noncomputable def r_X6_keepPlan_40' (V : Vk) (k14 : Nat) (y15 : Int64) (x16 : Int32) (g17 : Hq) : Option ((Nat × Int64 × Int32 × Hq) ⊕ (Unit × Hq)) :=
  grd (V k14 = some (6, 0)) <| brn ((g17.1 k14 7) ≤ x16) (some (.inr ((), g17))) (brn ((10 : Int32) ≤ x16) (some (.inr ((), g17))) (Option.bind (g17.2.2 k14 10) fun k19 => Option.bind (g17.2.2 k14 3) fun k21 => bnd (r_X6_keepPartOf V k14 x16 y15 g17) fun x24 g23 => grd (okV V k21 0 x24) <| grd (okV V k19 0 x16) <| nm (sI g23 k19 x16.toNatClampNeg (g23.1 k21 x24.toNatClampNeg)) fun g28 => nm (x16 + (1 : Int32)) fun x29 => some (.inl (k14, y15, x29, g28))))
noncomputable def r_X6_keepPlan_40 (V : Vk) (st : (Nat × Int64 × Int32 × Hq)) : Option ((Nat × Int64 × Int32 × Hq) ⊕ (Unit × Hq)) := r_X6_keepPlan_40' V st.1 st.2.1 st.2.2.1 st.2.2.2
set_option maxHeartbeats 4000000 in
set_option maxRecDepth 100000 in
theorem w_X6_keepPlan_40 {p : Program} {l : Launch} {e : Env} {R : Room} {s : State} {m : MethodId} {args : Array Value} {below : List Frame} {meth : Method} {c : Code} {D : va_G} {cA : Nat → ClassId} {sk : (Nat → Nat) × (Nat → Nat)} {ad : Nat → Nat} {A : Nat → Prop} {V : Vk} (cx : CallFix p m c cX6_keepPlan 4 s args gw_tbl RX6) (fx : Fx D cA sk A s) (hlocks : meth.locks = false) (hret : meth.sig.returnType = none) (hR : 2 ≤ R.frames ∧ 46 ≤ R.locals) (g0 : Hq) (y : (Unit × Hq)) (hq : ∀ (rb : Unit) (gb : Hq), y = (rb, gb) → gb = g0) : ∀ (n : Nat) (k14 : Nat) (y15 : Int64) (x16 : Int32) (g17 : Hq), itr (r_X6_keepPlan_40 V) n (k14, y15, x16, g17) = some y → ∀ (H : Heap) (locs : List Loc) (ls : Array Slot), Dy D cA ad (V, g17) A s.heap H locs → lv_has ls 4 [(0, .ref (ad k14)), (1, .long y15), (3, .int x16)] → W p l e R s m args below meth c H locs 0 0 (MQ below (QV D cA ad A (V, g0)) args s 0 0 A) (F0 m 40 ls []) := by
  intro n
  induction n with
  | zero => intro k14 y15 x16 g17 hr; cases hr
  | succ n ih =>
    intro k14 y15 x16 g17 hr H locs ls dy hl
    obtain ⟨z, hz, hn1, hn2⟩ := itr_succ hr
    clear hr
    have hr : r_X6_keepPlan_40' V k14 y15 x16 g17 = some z := hz
    clear hz
    unfold r_X6_keepPlan_40' at hr
    have hh0 : ∀ (b0 : Nat) (b1 : Int64) (b2 : Int32) (gb : Hq), z = .inl (b0, b1, b2, gb) → ∀ (H : Heap) (locs : List Loc) (ls : Array Slot), Dy D cA ad (V, gb) A s.heap H locs → lv_has ls 4 [(0, .ref (ad b0)), (1, .long b1), (3, .int b2)] → W p l e R s m args below meth c H locs 0 0 (MQ below (QV D cA ad A (V, g0)) args s 0 0 A) (F0 m 40 ls []) := fun b0 b1 b2 gb eb => ih b0 b1 b2 gb (hn1 _ eb)
    have hq0 : ∀ (rb : Unit) (gb : Hq), z = (.inr (rb, gb)) → gb = g0 := fun rb gb eb => hq rb gb (hn2 _ eb).symm
    refine lv_iload_n cx.1 cx.2.1 dX6_keepPlan_40 rfl (lv_at hl 2 rfl) ?_
    refine lv_aload_n cx.1 cx.2.1 dX6_keepPlan_41 rfl (lv_at hl 0 rfl) ?_
    obtain ⟨hv18, hr⟩ := of_grd hr
    refine h_getI cx fx dy fd_6_7 hv18 tb_138 dX6_keepPlan_42 ?_
    rcases of_brn hr with ⟨hc, hr⟩ | ⟨hc, hr⟩
    · refine lv_icmp_ge (tgt := 77) cx.1 cx.2.1 dX6_keepPlan_45 (by decide) (fun _ => ?_) (fun hn => absurd hc hn)
      have e1 := hq0 _ _ (Option.some.inj hr).symm
      exact h_vret cx dy hlocks hret (by rw [e1]) dX6_keepPlan_77
    · refine lv_icmp_ge (tgt := 77) cx.1 cx.2.1 dX6_keepPlan_45 (by decide) (fun hn => absurd hn hc) (fun _ => ?_)
      refine lv_iload_n cx.1 cx.2.1 dX6_keepPlan_48 rfl (lv_at hl 2 rfl) ?_
      refine lv_bipush (v := 10) cx.1 cx.2.1 dX6_keepPlan_49 (by decide) ?_
      rcases of_brn hr with ⟨hc, hr⟩ | ⟨hc, hr⟩
      · refine lv_icmp_ge (tgt := 77) cx.1 cx.2.1 dX6_keepPlan_51 (by decide) (fun _ => ?_) (fun hn => absurd hc hn)
        have e1 := hq0 _ _ (Option.some.inj hr).symm
        exact h_vret cx dy hlocks hret (by rw [e1]) dX6_keepPlan_77
      · refine lv_icmp_ge (tgt := 77) cx.1 cx.2.1 dX6_keepPlan_51 (by decide) (fun hn => absurd hn hc) (fun _ => ?_)
        refine lv_aload_n cx.1 cx.2.1 dX6_keepPlan_54 rfl (lv_at hl 0 rfl) ?_
        obtain ⟨k19, hf20, hr⟩ := of_bnd hr
        refine h_getR cx fx dy fd_6_10 hv18 tb_141 hf20 dX6_keepPlan_55 ?_
        refine lv_iload_n cx.1 cx.2.1 dX6_keepPlan_58 rfl (lv_at hl 2 rfl) ?_
        refine lv_aload_n cx.1 cx.2.1 dX6_keepPlan_59 rfl (lv_at hl 0 rfl) ?_
        obtain ⟨k21, hf22, hr⟩ := of_bnd hr
        refine h_getR cx fx dy fd_6_3 hv18 tb_134 hf22 dX6_keepPlan_60 ?_
        refine lv_aload_n cx.1 cx.2.1 dX6_keepPlan_63 rfl (lv_at hl 0 rfl) ?_
        refine lv_iload_n cx.1 cx.2.1 dX6_keepPlan_64 rfl (lv_at hl 2 rfl) ?_
        refine lv_lload_n cx.1 cx.2.1 dX6_keepPlan_65 rfl (lv_at hl 1 rfl) ?_
        obtain ⟨x24, g23, hc25, hr⟩ := of_bnd2 hr
        refine r_i dy (k_V (As := [.int x16, .long y15]) (b := k14) (ci := 6) cx fx dy (c_X6_keepPartOf hc25) mv_X6_keepPartOf rfl rfl ⟨Nat.le_trans (by decide) hR.1, Nat.le_trans (by decide) hR.2⟩ tb_530 hv18 rfl (by decide) rfl hl.1 rfl (Nat.le_of_ble_eq_true rfl) ⟨Nat.zero_le _, Nat.zero_le _⟩ dX6_keepPlan_66) (fun H locs dy => ?_)
        obtain ⟨ha26, hr⟩ := of_grd hr
        refine h_iald cx fx dy ha26 dX6_keepPlan_69 ?_
        obtain ⟨ha27, hr⟩ := of_grd hr
        obtain ⟨g28, eg28, hr⟩ := of_nm hr
        refine h_iast cx fx dy ha27 dX6_keepPlan_70 (fun H locs dy => ?_)
        replace dy : Dy D cA ad (V, g28) A s.heap H locs := by rw [eg28]; exact dy
        obtain ⟨x29, ex29, hr⟩ := of_nm hr
        refine lv_iinc (v := x29) (lv' := [(3, .int x29), (0, .ref (ad k14)), (1, .long y15)]) cx.1 cx.2.1 dX6_keepPlan_71 hl (k := 2) rfl (by rw [ex29]; rfl) (by decide) rfl (fun ls hl => ?_)
        refine lv_goto (tgt := 40) cx.1 cx.2.1 dX6_keepPlan_74 (by decide) ?_
        exact hh0 k14 y15 x29 g28 (Option.some.inj hr).symm H locs ls dy (lv_sub hl [1, 2, 0] rfl)
noncomputable def r_X6_keepPlan (V : Vk) (k0 : Nat) (a1 : Int64) (g : Hq) : Option (Unit × Hq) :=
  grd (V k0 = some (6, 0)) <| nm (sI g k0 7 (a1 >>> ((54 : Int32).toInt64 &&& 63)).toInt32) fun g2 => nm (sI g2 k0 8 ((a1 >>> ((40 : Int32).toInt64 &&& 63)).toInt32 &&& (16383 : Int32))) fun g3 => Option.bind (g3.2.2 k0 9) fun k4 => bnd (r_J7_fill_53178 V k4 (-1 : Int32) g3) fun u7 g6 => Option.bind (g6.2.2 k0 11) fun k9 => bnd (r_J7_fill_53178 V k9 (0 : Int32) g6) fun u12 g11 => (lop (r_X6_keepPlan_40 V) (k0, a1, (0 : Int32), g11))
set_option maxHeartbeats 4000000 in
set_option maxRecDepth 100000 in
theorem c_X6_keepPlan {l : Launch} {D : va_G} {cA : Nat → ClassId} {sk : (Nat → Nat) × (Nat → Nat)} {ad : Nat → Nat} {A : Nat → Prop} {V : Vk} {k0 : Nat} {a1 : Int64} {g g0 : Hq} (hr : r_X6_keepPlan V k0 a1 g = some ((), g0)) : Met l yX6_keepPlan (wM yX6_keepPlan cX6_keepPlan 4 none) { frames := 2, cells := 0, slots := 0, locals := 46 } (Pre D cA sk ad (V, g) A [.ref (ad k0), .long a1]) (QV D cA ad A (V, g0)) 0 0 A := by
  refine Met.ofW (cc := cX6_keepPlan) (maxL := 4) (ret := none) (by decide) rfl ?_
  intro p e s m args below meth c s₁ B hml hv
  obtain ⟨rfl, fx, w0⟩ := hv
  have hts := atoms_spec (ws := wM yX6_keepPlan cX6_keepPlan 4 none) B.pre
  have cx : CallFix p m c cX6_keepPlan 4 s ([.ref (ad k0), .long a1] : List Value).toArray gw_tbl RX6 := ⟨B.exec, B.bytes, hml, findClass_of_methodNamed B.named, fun w hw => hts w (List.mem_cons_of_mem _ hw)⟩
  have hlocks := B.notSynchronized
  have hret := B.returns
  have hR : 2 ≤ (headSpec (wM yX6_keepPlan cX6_keepPlan 4 none) { frames := 2, cells := 0, slots := 0, locals := 46 }).room.frames ∧ 46 ≤ (headSpec (wM yX6_keepPlan cX6_keepPlan 4 none) { frames := 2, cells := 0, slots := 0, locals := 46 }).room.locals := ⟨Nat.le_refl _, Nat.le_refl _⟩
  have dy : Dy D cA ad (V, g) A s.heap s.heap [] := ⟨w0, va_S.rf⟩
  have hl := lv_entry [.ref (ad k0), .long a1] (n := 4) (Nat.le_of_ble_eq_true rfl)
  rw [lg_entry_eq]
  generalize (lg_sl [.ref (ad k0), .long a1] ++ List.replicate (4 - (lg_sl [.ref (ad k0), .long a1]).length) Slot.unset).toArray = ls at hl ⊢
  have hl : lv_has ls 4 [(0, .ref (ad k0)), (1, .long a1)] := hl
  have dy0 : ∃ H0, H0 = s.heap ∧ Dy D cA ad (V, g) A s.heap H0 [] := ⟨_, rfl, dy⟩
  obtain ⟨z, ez⟩ : ∃ z, z = (((), g0) : Unit × Hq) := ⟨_, rfl⟩
  rw [← ez] at hr
  have hq0 : ∀ (rb : Unit) (gb : Hq), z = (rb, gb) → gb = g0 := fun rb gb eb => by rw [ez] at eb; exact (congrArg Prod.snd eb).symm
  clear ez w0 dy0
  unfold r_X6_keepPlan at hr
  obtain ⟨H, hH⟩ : ∃ H, H = s.heap := ⟨_, rfl⟩
  obtain ⟨locs, hlo⟩ : ∃ q : List Loc, q = [] := ⟨_, rfl⟩
  have dy : Dy D cA ad (V, g) A s.heap H locs := by rw [hH, hlo]; exact dy
  suffices K : W p l e (headSpec (wM yX6_keepPlan cX6_keepPlan 4 none) { frames := 2, cells := 0, slots := 0, locals := 46 }).room s m ([.ref (ad k0), .long a1] : List Value).toArray below meth c H locs 0 0 (MQ below (QV D cA ad A (V, g0)) ([.ref (ad k0), .long a1] : List Value).toArray s 0 0 A) (F0 m 0 ls []) by rw [hH, hlo] at K; exact K
  clear hH hlo
  refine lv_aload_n cx.1 cx.2.1 dX6_keepPlan_0 rfl (lv_at hl 0 rfl) ?_
  refine lv_lload_n cx.1 cx.2.1 dX6_keepPlan_1 rfl (lv_at hl 1 rfl) ?_
  refine lv_bipush (v := 54) cx.1 cx.2.1 dX6_keepPlan_2 (by decide) ?_
  refine lv_lshr cx.1 cx.2.1 dX6_keepPlan_4 rfl ?_
  refine lv_l2i cx.1 cx.2.1 dX6_keepPlan_5 rfl ?_
  obtain ⟨hv1, hr⟩ := of_grd hr
  obtain ⟨g2, eg2, hr⟩ := of_nm hr
  refine h_putI cx fx dy fd_6_7 (pd_6_7 : PD _ _ _ _ _ .int) rfl rfl rfl hv1 tb_138 dX6_keepPlan_6 (fun H locs dy => ?_)
  replace dy : Dy D cA ad (V, g2) A s.heap H locs := by rw [eg2]; exact dy
  refine lv_aload_n cx.1 cx.2.1 dX6_keepPlan_9 rfl (lv_at hl 0 rfl) ?_
  refine lv_lload_n cx.1 cx.2.1 dX6_keepPlan_10 rfl (lv_at hl 1 rfl) ?_
  refine lv_bipush (v := 40) cx.1 cx.2.1 dX6_keepPlan_11 (by decide) ?_
  refine lv_lshr cx.1 cx.2.1 dX6_keepPlan_13 rfl ?_
  refine lv_l2i cx.1 cx.2.1 dX6_keepPlan_14 rfl ?_
  refine lv_sipush (v := 16383) cx.1 cx.2.1 dX6_keepPlan_15 (by decide) ?_
  refine lv_iand cx.1 cx.2.1 dX6_keepPlan_18 ?_
  obtain ⟨g3, eg3, hr⟩ := of_nm hr
  refine h_putI cx fx dy fd_6_8 (pd_6_8 : PD _ _ _ _ _ .int) rfl rfl rfl hv1 tb_139 dX6_keepPlan_19 (fun H locs dy => ?_)
  replace dy : Dy D cA ad (V, g3) A s.heap H locs := by rw [eg3]; exact dy
  refine lv_aload_n cx.1 cx.2.1 dX6_keepPlan_22 rfl (lv_at hl 0 rfl) ?_
  obtain ⟨k4, hf5, hr⟩ := of_bnd hr
  refine h_getR cx fx dy fd_6_9 hv1 tb_140 hf5 dX6_keepPlan_23 ?_
  refine lv_iconst (v := (-1)) cx.1 cx.2.1 dX6_keepPlan_26 (by decide) ?_
  obtain ⟨u7, g6, hc8, hr⟩ := of_bnd2 hr
  refine r_v dy (k_S (As := [.ref (ad k4), .int (-1 : Int32)]) cx fx dy (c_J7_fill_53178 hc8) mv_J7_fill_53178 rfl rfl ⟨Nat.le_trans (by decide) hR.1, Nat.le_trans (by decide) hR.2⟩ tb_529 rfl hl.1 rfl (Nat.le_of_ble_eq_true rfl) ⟨Nat.zero_le _, Nat.zero_le _⟩ dX6_keepPlan_27) (fun H locs dy => ?_)
  refine lv_aload_n cx.1 cx.2.1 dX6_keepPlan_30 rfl (lv_at hl 0 rfl) ?_
  obtain ⟨k9, hf10, hr⟩ := of_bnd hr
  refine h_getR cx fx dy fd_6_11 hv1 tb_142 hf10 dX6_keepPlan_31 ?_
  refine lv_iconst (v := 0) cx.1 cx.2.1 dX6_keepPlan_34 (by decide) ?_
  obtain ⟨u12, g11, hc13, hr⟩ := of_bnd2 hr
  refine r_v dy (k_S (As := [.ref (ad k9), .int (0 : Int32)]) cx fx dy (c_J7_fill_53178 hc13) mv_J7_fill_53178 rfl rfl ⟨Nat.le_trans (by decide) hR.1, Nat.le_trans (by decide) hR.2⟩ tb_529 rfl hl.1 rfl (Nat.le_of_ble_eq_true rfl) ⟨Nat.zero_le _, Nat.zero_le _⟩ dX6_keepPlan_35) (fun H locs dy => ?_)
  refine lv_iconst (v := 0) cx.1 cx.2.1 dX6_keepPlan_38 (by decide) ?_
  refine lv_istore_n (lv' := [(3, .int (0 : Int32)), (0, .ref (ad k0)), (1, .long a1)]) cx.1 cx.2.1 dX6_keepPlan_39 rfl hl (by decide) rfl (fun ls hl => ?_)
  obtain ⟨n, hr⟩ := lop_some hr
  exact w_X6_keepPlan_40 cx fx hlocks hret hR g0 z hq0 n k0 a1 (0 : Int32) g11 hr H locs ls dy (lv_sub hl [1, 2, 0] rfl)
noncomputable def r_X6_plan_12' (V : Vk) (k8 : Nat) (k9 : Nat) (x10 : Int32) (g11 : Hq) : Option ((Nat × Nat × Int32 × Hq) ⊕ (Int32 × Hq)) :=
  grd (V k8 = some (6, 0)) <| brn ((g11.1 k8 6) ≤ x10) (bnd (r_X6_joinParts V k8 g11) fun u14 g13 => Option.bind (g13.2.2 k8 4) fun k16 => grd (okV V k16 3 (((1 : Int32) <<< ((g13.1 k8 6) &&& 31)) - (1 : Int32))) <| bnd (r_X6_keepPlan V k8 (g13.2.1 k16 (((1 : Int32) <<< ((g13.1 k8 6) &&& 31)) - (1 : Int32)).toNatClampNeg) g13) fun u20 g19 => some (.inr ((g19.1 k8 7), g19))) (bnd (r_X6_measureTours V k8 x10 k9 g11) fun u23 g22 => nm (x10 + (1 : Int32)) fun x25 => some (.inl (k8, k9, x25, g22)))
noncomputable def r_X6_plan_12 (V : Vk) (st : (Nat × Nat × Int32 × Hq)) : Option ((Nat × Nat × Int32 × Hq) ⊕ (Int32 × Hq)) := r_X6_plan_12' V st.1 st.2.1 st.2.2.1 st.2.2.2
set_option maxHeartbeats 4000000 in
set_option maxRecDepth 100000 in
theorem w_X6_plan_12 {p : Program} {l : Launch} {e : Env} {R : Room} {s : State} {m : MethodId} {args : Array Value} {below : List Frame} {meth : Method} {c : Code} {D : va_G} {cA : Nat → ClassId} {sk : (Nat → Nat) × (Nat → Nat)} {ad : Nat → Nat} {A : Nat → Prop} {V : Vk} (cx : CallFix p m c cX6_plan 4 s args gw_tbl RX6) (fx : Fx D cA sk A s) (hlocks : meth.locks = false) (hret : meth.sig.returnType = (some .int)) (hR : 4 ≤ R.frames ∧ 168 ≤ R.locals) (r0 : Int32) (g0 : Hq) (y : (Int32 × Hq)) (hq : ∀ (rb : Int32) (gb : Hq), y = (rb, gb) → rb = r0 ∧ gb = g0) : ∀ (n : Nat) (k8 : Nat) (k9 : Nat) (x10 : Int32) (g11 : Hq), itr (r_X6_plan_12 V) n (k8, k9, x10, g11) = some y → ∀ (H : Heap) (locs : List Loc) (ls : Array Slot), Dy D cA ad (V, g11) A s.heap H locs → lv_has ls 4 [(0, .ref (ad k8)), (2, .ref (ad k9)), (3, .int x10)] → W p l e R s m args below meth c H locs 0 0 (MQ below (QI D cA ad A r0 (V, g0)) args s 0 0 A) (F0 m 12 ls []) := by
  intro n
  induction n with
  | zero => intro k8 k9 x10 g11 hr; cases hr
  | succ n ih =>
    intro k8 k9 x10 g11 hr H locs ls dy hl
    obtain ⟨z, hz, hn1, hn2⟩ := itr_succ hr
    clear hr
    have hr : r_X6_plan_12' V k8 k9 x10 g11 = some z := hz
    clear hz
    unfold r_X6_plan_12' at hr
    have hh0 : ∀ (b0 : Nat) (b1 : Nat) (b2 : Int32) (gb : Hq), z = .inl (b0, b1, b2, gb) → ∀ (H : Heap) (locs : List Loc) (ls : Array Slot), Dy D cA ad (V, gb) A s.heap H locs → lv_has ls 4 [(0, .ref (ad b0)), (2, .ref (ad b1)), (3, .int b2)] → W p l e R s m args below meth c H locs 0 0 (MQ below (QI D cA ad A r0 (V, g0)) args s 0 0 A) (F0 m 12 ls []) := fun b0 b1 b2 gb eb => ih b0 b1 b2 gb (hn1 _ eb)
    have hq0 : ∀ (rb : Int32) (gb : Hq), z = (.inr (rb, gb)) → rb = r0 ∧ gb = g0 := fun rb gb eb => hq rb gb (hn2 _ eb).symm
    refine lv_iload_n cx.1 cx.2.1 dX6_plan_12 rfl (lv_at hl 2 rfl) ?_
    refine lv_aload_n cx.1 cx.2.1 dX6_plan_13 rfl (lv_at hl 0 rfl) ?_
    obtain ⟨hv12, hr⟩ := of_grd hr
    refine h_getI cx fx dy fd_6_6 hv12 tb_137 dX6_plan_14 ?_
    rcases of_brn hr with ⟨hc, hr⟩ | ⟨hc, hr⟩
    · refine lv_icmp_ge (tgt := 32) cx.1 cx.2.1 dX6_plan_17 (by decide) (fun _ => ?_) (fun hn => absurd hc hn)
      refine lv_aload_n cx.1 cx.2.1 dX6_plan_32 rfl (lv_at hl 0 rfl) ?_
      obtain ⟨u14, g13, hc15, hr⟩ := of_bnd2 hr
      refine r_v dy (k_V (As := []) (b := k8) (ci := 6) cx fx dy (c_X6_joinParts hc15) mv_X6_joinParts rfl rfl ⟨Nat.le_trans (by decide) hR.1, Nat.le_trans (by decide) hR.2⟩ tb_512 hv12 rfl (by decide) rfl hl.1 rfl (Nat.le_of_ble_eq_true rfl) ⟨Nat.zero_le _, Nat.zero_le _⟩ dX6_plan_33) (fun H locs dy => ?_)
      refine lv_aload_n cx.1 cx.2.1 dX6_plan_36 rfl (lv_at hl 0 rfl) ?_
      refine lv_aload_n cx.1 cx.2.1 dX6_plan_37 rfl (lv_at hl 0 rfl) ?_
      obtain ⟨k16, hf17, hr⟩ := of_bnd hr
      refine h_getR cx fx dy fd_6_4 hv12 tb_135 hf17 dX6_plan_38 ?_
      refine lv_iconst (v := 1) cx.1 cx.2.1 dX6_plan_41 (by decide) ?_
      refine lv_aload_n cx.1 cx.2.1 dX6_plan_42 rfl (lv_at hl 0 rfl) ?_
      refine h_getI cx fx dy fd_6_6 hv12 tb_137 dX6_plan_43 ?_
      refine lv_ishl cx.1 cx.2.1 dX6_plan_46 ?_
      refine lv_iconst (v := 1) cx.1 cx.2.1 dX6_plan_47 (by decide) ?_
      refine lv_isub cx.1 cx.2.1 dX6_plan_48 ?_
      obtain ⟨ha18, hr⟩ := of_grd hr
      refine h_lald cx fx dy ha18 dX6_plan_49 ?_
      obtain ⟨u20, g19, hc21, hr⟩ := of_bnd2 hr
      refine r_v dy (k_V (As := [.long (g13.2.1 k16 (((1 : Int32) <<< ((g13.1 k8 6) &&& 31)) - (1 : Int32)).toNatClampNeg)]) (b := k8) (ci := 6) cx fx dy (c_X6_keepPlan hc21) mv_X6_keepPlan rfl rfl ⟨Nat.le_trans (by decide) hR.1, Nat.le_trans (by decide) hR.2⟩ tb_525 hv12 rfl (by decide) rfl hl.1 rfl (Nat.le_of_ble_eq_true rfl) ⟨Nat.zero_le _, Nat.zero_le _⟩ dX6_plan_50) (fun H locs dy => ?_)
      refine lv_aload_n cx.1 cx.2.1 dX6_plan_53 rfl (lv_at hl 0 rfl) ?_
      refine h_getI cx fx dy fd_6_7 hv12 tb_138 dX6_plan_54 ?_
      obtain ⟨e0, e1⟩ := hq0 _ _ (Option.some.inj hr).symm
      exact h_iret cx dy hlocks hret rfl e0 (by rw [e1]) dX6_plan_57
    · refine lv_icmp_ge (tgt := 32) cx.1 cx.2.1 dX6_plan_17 (by decide) (fun hn => absurd hn hc) (fun _ => ?_)
      refine lv_aload_n cx.1 cx.2.1 dX6_plan_20 rfl (lv_at hl 0 rfl) ?_
      refine lv_iload_n cx.1 cx.2.1 dX6_plan_21 rfl (lv_at hl 2 rfl) ?_
      refine lv_aload_n cx.1 cx.2.1 dX6_plan_22 rfl (lv_at hl 1 rfl) ?_
      obtain ⟨u23, g22, hc24, hr⟩ := of_bnd2 hr
      refine r_v dy (k_V (As := [.int x10, .ref (ad k9)]) (b := k8) (ci := 6) cx fx dy (c_X6_measureTours hc24) mv_X6_measureTours rfl rfl ⟨Nat.le_trans (by decide) hR.1, Nat.le_trans (by decide) hR.2⟩ tb_489 hv12 rfl (by decide) rfl hl.1 rfl (Nat.le_of_ble_eq_true rfl) ⟨Nat.zero_le _, Nat.zero_le _⟩ dX6_plan_23) (fun H locs dy => ?_)
      obtain ⟨x25, ex25, hr⟩ := of_nm hr
      refine lv_iinc (v := x25) (lv' := [(3, .int x25), (0, .ref (ad k8)), (2, .ref (ad k9))]) cx.1 cx.2.1 dX6_plan_26 hl (k := 2) rfl (by rw [ex25]; rfl) (by decide) rfl (fun ls hl => ?_)
      refine lv_goto (tgt := 12) cx.1 cx.2.1 dX6_plan_29 (by decide) ?_
      exact hh0 k8 k9 x25 g22 (Option.some.inj hr).symm H locs ls dy (lv_sub hl [1, 2, 0] rfl)
noncomputable def r_X6_plan (V : Vk) (k0 : Nat) (a1 : Int32) (a2 : Nat) (g : Hq) : Option (Int32 × Hq) :=
  grd (V k0 = some (6, 0)) <| bnd (r_X6_listCourts V k0 a1 g) fun u2 g1 => bnd (r_X6_measureSteps V k0 a2 g1) fun u6 g5 => (lop (r_X6_plan_12 V) (k0, a2, (0 : Int32), g5))
set_option maxHeartbeats 4000000 in
set_option maxRecDepth 100000 in
theorem c_X6_plan {l : Launch} {D : va_G} {cA : Nat → ClassId} {sk : (Nat → Nat) × (Nat → Nat)} {ad : Nat → Nat} {A : Nat → Prop} {V : Vk} {k0 : Nat} {a1 : Int32} {a2 : Nat} {g g0 : Hq} {r0 : Int32} (hr : r_X6_plan V k0 a1 a2 g = some (r0, g0)) : Met l yX6_plan (wM yX6_plan cX6_plan 4 (some .int)) { frames := 4, cells := 0, slots := 0, locals := 168 } (Pre D cA sk ad (V, g) A [.ref (ad k0), .int a1, .ref (ad a2)]) (QI D cA ad A r0 (V, g0)) 0 0 A := by
  refine Met.ofW (cc := cX6_plan) (maxL := 4) (ret := (some .int)) (by decide) rfl ?_
  intro p e s m args below meth c s₁ B hml hv
  obtain ⟨rfl, fx, w0⟩ := hv
  have hts := atoms_spec (ws := wM yX6_plan cX6_plan 4 (some .int)) B.pre
  have cx : CallFix p m c cX6_plan 4 s ([.ref (ad k0), .int a1, .ref (ad a2)] : List Value).toArray gw_tbl RX6 := ⟨B.exec, B.bytes, hml, findClass_of_methodNamed B.named, fun w hw => hts w (List.mem_cons_of_mem _ hw)⟩
  have hlocks := B.notSynchronized
  have hret := B.returns
  have hR : 4 ≤ (headSpec (wM yX6_plan cX6_plan 4 (some .int)) { frames := 4, cells := 0, slots := 0, locals := 168 }).room.frames ∧ 168 ≤ (headSpec (wM yX6_plan cX6_plan 4 (some .int)) { frames := 4, cells := 0, slots := 0, locals := 168 }).room.locals := ⟨Nat.le_refl _, Nat.le_refl _⟩
  have dy : Dy D cA ad (V, g) A s.heap s.heap [] := ⟨w0, va_S.rf⟩
  have hl := lv_entry [.ref (ad k0), .int a1, .ref (ad a2)] (n := 4) (Nat.le_of_ble_eq_true rfl)
  rw [lg_entry_eq]
  generalize (lg_sl [.ref (ad k0), .int a1, .ref (ad a2)] ++ List.replicate (4 - (lg_sl [.ref (ad k0), .int a1, .ref (ad a2)]).length) Slot.unset).toArray = ls at hl ⊢
  have hl : lv_has ls 4 [(0, .ref (ad k0)), (1, .int a1), (2, .ref (ad a2))] := hl
  have dy0 : ∃ H0, H0 = s.heap ∧ Dy D cA ad (V, g) A s.heap H0 [] := ⟨_, rfl, dy⟩
  obtain ⟨z, ez⟩ : ∃ z, z = (r0, g0) := ⟨_, rfl⟩
  rw [← ez] at hr
  have hq0 : ∀ (rb : Int32) (gb : Hq), z = (rb, gb) → rb = r0 ∧ gb = g0 := fun rb gb eb => by rw [ez] at eb; exact ⟨(congrArg Prod.fst eb).symm, (congrArg Prod.snd eb).symm⟩
  clear ez w0 dy0
  unfold r_X6_plan at hr
  obtain ⟨H, hH⟩ : ∃ H, H = s.heap := ⟨_, rfl⟩
  obtain ⟨locs, hlo⟩ : ∃ q : List Loc, q = [] := ⟨_, rfl⟩
  have dy : Dy D cA ad (V, g) A s.heap H locs := by rw [hH, hlo]; exact dy
  suffices K : W p l e (headSpec (wM yX6_plan cX6_plan 4 (some .int)) { frames := 4, cells := 0, slots := 0, locals := 168 }).room s m ([.ref (ad k0), .int a1, .ref (ad a2)] : List Value).toArray below meth c H locs 0 0 (MQ below (QI D cA ad A r0 (V, g0)) ([.ref (ad k0), .int a1, .ref (ad a2)] : List Value).toArray s 0 0 A) (F0 m 0 ls []) by rw [hH, hlo] at K; exact K
  clear hH hlo
  refine lv_aload_n cx.1 cx.2.1 dX6_plan_0 rfl (lv_at hl 0 rfl) ?_
  refine lv_iload_n cx.1 cx.2.1 dX6_plan_1 rfl (lv_at hl 1 rfl) ?_
  obtain ⟨hv3, hr⟩ := of_grd hr
  obtain ⟨u2, g1, hc4, hr⟩ := of_bnd2 hr
  refine r_v dy (k_V (As := [.int a1]) (b := k0) (ci := 6) cx fx dy (c_X6_listCourts hc4) mv_X6_listCourts rfl rfl ⟨Nat.le_trans (by decide) hR.1, Nat.le_trans (by decide) hR.2⟩ tb_479 hv3 rfl (by decide) rfl hl.1 rfl (Nat.le_of_ble_eq_true rfl) ⟨Nat.zero_le _, Nat.zero_le _⟩ dX6_plan_2) (fun H locs dy => ?_)
  refine lv_aload_n cx.1 cx.2.1 dX6_plan_5 rfl (lv_at hl 0 rfl) ?_
  refine lv_aload_n cx.1 cx.2.1 dX6_plan_6 rfl (lv_at hl 2 rfl) ?_
  obtain ⟨u6, g5, hc7, hr⟩ := of_bnd2 hr
  refine r_v dy (k_V (As := [.ref (ad a2)]) (b := k0) (ci := 6) cx fx dy (c_X6_measureSteps hc7) mv_X6_measureSteps rfl rfl ⟨Nat.le_trans (by decide) hR.1, Nat.le_trans (by decide) hR.2⟩ tb_483 hv3 rfl (by decide) rfl hl.1 rfl (Nat.le_of_ble_eq_true rfl) ⟨Nat.zero_le _, Nat.zero_le _⟩ dX6_plan_7) (fun H locs dy => ?_)
  refine lv_iconst (v := 0) cx.1 cx.2.1 dX6_plan_10 (by decide) ?_
  refine lv_istore_n (lv' := [(3, .int (0 : Int32)), (0, .ref (ad k0)), (1, .int a1), (2, .ref (ad a2))]) cx.1 cx.2.1 dX6_plan_11 rfl hl (by decide) rfl (fun ls hl => ?_)
  obtain ⟨n, hr⟩ := lop_some hr
  exact w_X6_plan_12 cx fx hlocks hret hR r0 g0 z hq0 n k0 a2 (0 : Int32) g5 hr H locs ls dy (lv_sub hl [1, 3, 0] rfl)
