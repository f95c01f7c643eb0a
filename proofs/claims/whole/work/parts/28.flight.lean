noncomputable def r_X1_read_25' (V : Vk) (k10 : Nat) (k11 : Nat) (k12 : Nat) (x13 : Int32) (g14 : Hq) : Option ((Nat × Nat × Nat × Int32 × Hq) ⊕ (Int32 × Hq)) :=
  grd (V k10 = some (1, 0)) <| brn ((g14.1 k10 1) ≤ x13) (some (.inr ((1 : Int32), g14))) (Option.bind (g14.2.2 k10 0) fun k16 => grd (V k11 = some (8, 0)) <| bnd (r_X8_at V k11 x13 g14) fun x19 g18 => grd (okV V k16 0 x13) <| nm (sI g18 k16 x13.toNatClampNeg (x19 - (65 : Int32))) fun g23 => Option.bind (g23.2.2 k10 0) fun k24 => grd (okV V k24 0 x13) <| bnd (r_X11_isCourt V (g23.1 k24 x13.toNatClampNeg) g23) fun x28 g27 => brn (x28 = 0) (some (.inr ((0 : Int32), g27))) (brn (x13 ≤ 0) (nm (x13 + (1 : Int32)) fun x30 => some (.inl (k10, k11, k12, x30, g27))) (Option.bind (g27.2.2 k10 0) fun k31 => grd (okV V k31 0 (x13 - (1 : Int32))) <| Option.bind (g27.2.2 k10 0) fun k34 => grd (okV V k34 0 x13) <| grd (V k12 = some (9, 0)) <| bnd (r_X9_minutesOfWay V k12 (g27.1 k31 (x13 - (1 : Int32)).toNatClampNeg) (g27.1 k34 x13.toNatClampNeg) g27) fun x38 g37 => brn (x38 = (-1 : Int32)) (some (.inr ((0 : Int32), g37))) (nm (x13 + (1 : Int32)) fun x41 => some (.inl (k10, k11, k12, x41, g37))))))
noncomputable def r_X1_read_25 (V : Vk) (st : (Nat × Nat × Nat × Int32 × Hq)) : Option ((Nat × Nat × Nat × Int32 × Hq) ⊕ (Int32 × Hq)) := r_X1_read_25' V st.1 st.2.1 st.2.2.1 st.2.2.2.1 st.2.2.2.2
set_option maxHeartbeats 4000000 in
set_option maxRecDepth 100000 in
theorem w_X1_read_25 {p : Program} {l : Launch} {e : Env} {R : Room} {s : State} {m : MethodId} {args : Array Value} {below : List Frame} {meth : Method} {c : Code} {D : va_G} {cA : Nat → ClassId} {sk : (Nat → Nat) × (Nat → Nat)} {ad : Nat → Nat} {A : Nat → Prop} {V : Vk} (cx : CallFix p m c cX1_read 4 s args gw_tbl RX1) (fx : Fx D cA sk A s) (hlocks : meth.locks = false) (hret : meth.sig.returnType = (some .boolean)) (hR : 2 ≤ R.frames ∧ 42 ≤ R.locals) (r0 : Int32) (g0 : Hq) (y : (Int32 × Hq)) (hq : ∀ (rb : Int32) (gb : Hq), y = (rb, gb) → rb = r0 ∧ gb = g0) : ∀ (n : Nat) (k10 : Nat) (k11 : Nat) (k12 : Nat) (x13 : Int32) (g14 : Hq), itr (r_X1_read_25 V) n (k10, k11, k12, x13, g14) = some y → ∀ (H : Heap) (locs : List Loc) (ls : Array Slot), Dy D cA ad (V, g14) A s.heap H locs → lv_has ls 4 [(0, .ref (ad k10)), (1, .ref (ad k11)), (2, .ref (ad k12)), (3, .int x13)] → W p l e R s m args below meth c H locs 0 0 (MQ below (QI D cA ad A r0 (V, g0)) args s 0 0 A) (F0 m 25 ls []) := by
  intro n
  induction n with
  | zero => intro k10 k11 k12 x13 g14 hr; cases hr
  | succ n ih =>
    intro k10 k11 k12 x13 g14 hr H locs ls dy hl
    obtain ⟨z, hz, hn1, hn2⟩ := itr_succ hr
    clear hr
    have hr : r_X1_read_25' V k10 k11 k12 x13 g14 = some z := hz
    clear hz
    unfold r_X1_read_25' at hr
    have hh0 : ∀ (b0 : Nat) (b1 : Nat) (b2 : Nat) (b3 : Int32) (gb : Hq), z = .inl (b0, b1, b2, b3, gb) → ∀ (H : Heap) (locs : List Loc) (ls : Array Slot), Dy D cA ad (V, gb) A s.heap H locs → lv_has ls 4 [(0, .ref (ad b0)), (1, .ref (ad b1)), (2, .ref (ad b2)), (3, .int b3)] → W p l e R s m args below meth c H locs 0 0 (MQ below (QI D cA ad A r0 (V, g0)) args s 0 0 A) (F0 m 25 ls []) := fun b0 b1 b2 b3 gb eb => ih b0 b1 b2 b3 gb (hn1 _ eb)
    have hq0 : ∀ (rb : Int32) (gb : Hq), z = (.inr (rb, gb)) → rb = r0 ∧ gb = g0 := fun rb gb eb => hq rb gb (hn2 _ eb).symm
    refine lv_iload_n cx.1 cx.2.1 dX1_read_25 rfl (lv_at hl 3 rfl) ?_
    refine lv_aload_n cx.1 cx.2.1 dX1_read_26 rfl (lv_at hl 0 rfl) ?_
    obtain ⟨hv15, hr⟩ := of_grd hr
    refine h_getI cx fx dy fd_1_1 hv15 tb_239 dX1_read_27 ?_
    rcases of_brn hr with ⟨hc, hr⟩ | ⟨hc, hr⟩
    · refine lv_icmp_ge (tgt := 95) cx.1 cx.2.1 dX1_read_30 (by decide) (fun _ => ?_) (fun hn => absurd hc hn)
      refine lv_iconst (v := 1) cx.1 cx.2.1 dX1_read_95 (by decide) ?_
      obtain ⟨e0, e1⟩ := hq0 _ _ (Option.some.inj hr).symm
      exact h_iret cx dy hlocks hret rfl e0 (by rw [e1]) dX1_read_96
    · refine lv_icmp_ge (tgt := 95) cx.1 cx.2.1 dX1_read_30 (by decide) (fun hn => absurd hn hc) (fun _ => ?_)
      refine lv_aload_n cx.1 cx.2.1 dX1_read_33 rfl (lv_at hl 0 rfl) ?_
      obtain ⟨k16, hf17, hr⟩ := of_bnd hr
      refine h_getR cx fx dy fd_1_0 hv15 tb_238 hf17 dX1_read_34 ?_
      refine lv_iload_n cx.1 cx.2.1 dX1_read_37 rfl (lv_at hl 3 rfl) ?_
      refine lv_aload_n cx.1 cx.2.1 dX1_read_38 rfl (lv_at hl 1 rfl) ?_
      refine lv_iload_n cx.1 cx.2.1 dX1_read_39 rfl (lv_at hl 3 rfl) ?_
      obtain ⟨hv20, hr⟩ := of_grd hr
      obtain ⟨x19, g18, hc21, hr⟩ := of_bnd2 hr
      refine r_i dy (k_V (As := [.int x13]) (b := k11) (ci := 8) cx fx dy (c_X8_at hc21) mv_X8_at rfl rfl ⟨Nat.le_trans (by decide) hR.1, Nat.le_trans (by decide) hR.2⟩ tb_921 hv20 rfl (by decide) rfl hl.1 rfl (Nat.le_of_ble_eq_true rfl) ⟨Nat.zero_le _, Nat.zero_le _⟩ dX1_read_40) (fun H locs dy => ?_)
      refine lv_bipush (v := 65) cx.1 cx.2.1 dX1_read_43 (by decide) ?_
      refine lv_isub cx.1 cx.2.1 dX1_read_45 ?_
      obtain ⟨ha22, hr⟩ := of_grd hr
      obtain ⟨g23, eg23, hr⟩ := of_nm hr
      refine h_iast cx fx dy ha22 dX1_read_46 (fun H locs dy => ?_)
      replace dy : Dy D cA ad (V, g23) A s.heap H locs := by rw [eg23]; exact dy
      refine lv_aload_n cx.1 cx.2.1 dX1_read_47 rfl (lv_at hl 0 rfl) ?_
      obtain ⟨k24, hf25, hr⟩ := of_bnd hr
      refine h_getR cx fx dy fd_1_0 hv15 tb_238 hf25 dX1_read_48 ?_
      refine lv_iload_n cx.1 cx.2.1 dX1_read_51 rfl (lv_at hl 3 rfl) ?_
      obtain ⟨ha26, hr⟩ := of_grd hr
      refine h_iald cx fx dy ha26 dX1_read_52 ?_
      obtain ⟨x28, g27, hc29, hr⟩ := of_bnd2 hr
      refine r_i dy (k_SN (As := [.int (g23.1 k24 x13.toNatClampNeg)]) cx fx dy (c_X11_isCourt hc29) mv_X11_isCourt rfl rfl ⟨Nat.le_trans (by decide) hR.1, Nat.le_trans (by decide) hR.2⟩ tb_922 rfl hl.1 rfl (Nat.le_of_ble_eq_true rfl) ⟨Nat.zero_le _, Nat.zero_le _⟩ dX1_read_53) (fun H locs dy => ?_)
      rcases of_brn hr with ⟨hc, hr⟩ | ⟨hc, hr⟩
      · refine lv_if_ne (tgt := 61) cx.1 cx.2.1 dX1_read_56 (by decide) (fun hn => absurd hc hn) (fun _ => ?_)
        refine lv_iconst (v := 0) cx.1 cx.2.1 dX1_read_59 (by decide) ?_
        obtain ⟨e0, e1⟩ := hq0 _ _ (Option.some.inj hr).symm
        exact h_iret cx dy hlocks hret rfl e0 (by rw [e1]) dX1_read_60
      · refine lv_if_ne (tgt := 61) cx.1 cx.2.1 dX1_read_56 (by decide) (fun _ => ?_) (fun hn => absurd hn hc)
        refine lv_iload_n cx.1 cx.2.1 dX1_read_61 rfl (lv_at hl 3 rfl) ?_
        rcases of_brn hr with ⟨hc, hr⟩ | ⟨hc, hr⟩
        · refine lv_if_le (tgt := 89) cx.1 cx.2.1 dX1_read_62 (by decide) (fun _ => ?_) (fun hn => absurd hc hn)
          obtain ⟨x30, ex30, hr⟩ := of_nm hr
          refine lv_iinc (v := x30) (lv' := [(3, .int x30), (0, .ref (ad k10)), (1, .ref (ad k11)), (2, .ref (ad k12))]) cx.1 cx.2.1 dX1_read_89 hl (k := 3) rfl (by rw [ex30]; rfl) (by decide) rfl (fun ls hl => ?_)
          refine lv_goto (tgt := 25) cx.1 cx.2.1 dX1_read_92 (by decide) ?_
          exact hh0 k10 k11 k12 x30 g27 (Option.some.inj hr).symm H locs ls dy (lv_sub hl [1, 2, 3, 0] rfl)
        · refine lv_if_le (tgt := 89) cx.1 cx.2.1 dX1_read_62 (by decide) (fun hn => absurd hn hc) (fun _ => ?_)
          refine lv_aload_n cx.1 cx.2.1 dX1_read_65 rfl (lv_at hl 2 rfl) ?_
          refine lv_aload_n cx.1 cx.2.1 dX1_read_66 rfl (lv_at hl 0 rfl) ?_
          obtain ⟨k31, hf32, hr⟩ := of_bnd hr
          refine h_getR cx fx dy fd_1_0 hv15 tb_238 hf32 dX1_read_67 ?_
          refine lv_iload_n cx.1 cx.2.1 dX1_read_70 rfl (lv_at hl 3 rfl) ?_
          refine lv_iconst (v := 1) cx.1 cx.2.1 dX1_read_71 (by decide) ?_
          refine lv_isub cx.1 cx.2.1 dX1_read_72 ?_
          obtain ⟨ha33, hr⟩ := of_grd hr
          refine h_iald cx fx dy ha33 dX1_read_73 ?_
          refine lv_aload_n cx.1 cx.2.1 dX1_read_74 rfl (lv_at hl 0 rfl) ?_
          obtain ⟨k34, hf35, hr⟩ := of_bnd hr
          refine h_getR cx fx dy fd_1_0 hv15 tb_238 hf35 dX1_read_75 ?_
          refine lv_iload_n cx.1 cx.2.1 dX1_read_78 rfl (lv_at hl 3 rfl) ?_
          obtain ⟨ha36, hr⟩ := of_grd hr
          refine h_iald cx fx dy ha36 dX1_read_79 ?_
          obtain ⟨hv39, hr⟩ := of_grd hr
          obtain ⟨x38, g37, hc40, hr⟩ := of_bnd2 hr
          refine r_i dy (k_V (As := [.int (g27.1 k31 (x13 - (1 : Int32)).toNatClampNeg), .int (g27.1 k34 x13.toNatClampNeg)]) (b := k12) (ci := 9) cx fx dy (c_X9_minutesOfWay hc40) mv_X9_minutesOfWay rfl rfl ⟨Nat.le_trans (by decide) hR.1, Nat.le_trans (by decide) hR.2⟩ tb_923 hv39 rfl (by decide) rfl hl.1 rfl (Nat.le_of_ble_eq_true rfl) ⟨Nat.zero_le _, Nat.zero_le _⟩ dX1_read_80) (fun H locs dy => ?_)
          refine lv_iconst (v := (-1)) cx.1 cx.2.1 dX1_read_83 (by decide) ?_
          rcases of_brn hr with ⟨hc, hr⟩ | ⟨hc, hr⟩
          · refine lv_icmp_ne (tgt := 89) cx.1 cx.2.1 dX1_read_84 (by decide) (fun hn => absurd hc hn) (fun _ => ?_)
            refine lv_iconst (v := 0) cx.1 cx.2.1 dX1_read_87 (by decide) ?_
            obtain ⟨e0, e1⟩ := hq0 _ _ (Option.some.inj hr).symm
            exact h_iret cx dy hlocks hret rfl e0 (by rw [e1]) dX1_read_88
          · refine lv_icmp_ne (tgt := 89) cx.1 cx.2.1 dX1_read_84 (by decide) (fun _ => ?_) (fun hn => absurd hn hc)
            obtain ⟨x41, ex41, hr⟩ := of_nm hr
            refine lv_iinc (v := x41) (lv' := [(3, .int x41), (0, .ref (ad k10)), (1, .ref (ad k11)), (2, .ref (ad k12))]) cx.1 cx.2.1 dX1_read_89 hl (k := 3) rfl (by rw [ex41]; rfl) (by decide) rfl (fun ls hl => ?_)
            refine lv_goto (tgt := 25) cx.1 cx.2.1 dX1_read_92 (by decide) ?_
            exact hh0 k10 k11 k12 x41 g37 (Option.some.inj hr).symm H locs ls dy (lv_sub hl [1, 2, 3, 0] rfl)
noncomputable def r_X1_read (V : Vk) (k0 : Nat) (a1 : Nat) (a2 : Nat) (g : Hq) : Option (Int32 × Hq) :=
  grd (V a1 = some (8, 0)) <| bnd (r_X8_length V a1 g) fun x2 g1 => grd (V k0 = some (1, 0)) <| nm (sI g1 k0 1 x2) fun g6 => bnd (r_X11_isFrom V (g6.1 k0 1) (2 : Int32) (10 : Int32) g6) fun x8 g7 => brn (x8 = 0) (some ((0 : Int32), g7)) ((lop (r_X1_read_25 V) (k0, a1, a2, (0 : Int32), g7)))
set_option maxHeartbeats 4000000 in
set_option maxRecDepth 100000 in
theorem c_X1_read {l : Launch} {D : va_G} {cA : Nat → ClassId} {sk : (Nat → Nat) × (Nat → Nat)} {ad : Nat → Nat} {A : Nat → Prop} {V : Vk} {k0 : Nat} {a1 : Nat} {a2 : Nat} {g g0 : Hq} {r0 : Int32} (hr : r_X1_read V k0 a1 a2 g = some (r0, g0)) : Met l yX1_read (wM yX1_read cX1_read 4 (some .boolean)) { frames := 2, cells := 0, slots := 0, locals := 42 } (Pre D cA sk ad (V, g) A [.ref (ad k0), .ref (ad a1), .ref (ad a2)]) (QI D cA ad A r0 (V, g0)) 0 0 A := by
  refine Met.ofW (cc := cX1_read) (maxL := 4) (ret := (some .boolean)) (by decide) rfl ?_
  intro p e s m args below meth c s₁ B hml hv
  obtain ⟨rfl, fx, w0⟩ := hv
  have hts := atoms_spec (ws := wM yX1_read cX1_read 4 (some .boolean)) B.pre
  have cx : CallFix p m c cX1_read 4 s ([.ref (ad k0), .ref (ad a1), .ref (ad a2)] : List Value).toArray gw_tbl RX1 := ⟨B.exec, B.bytes, hml, findClass_of_methodNamed B.named, fun w hw => hts w (List.mem_cons_of_mem _ hw)⟩
  have hlocks := B.notSynchronized
  have hret := B.returns
  have hR : 2 ≤ (headSpec (wM yX1_read cX1_read 4 (some .boolean)) { frames := 2, cells := 0, slots := 0, locals := 42 }).room.frames ∧ 42 ≤ (headSpec (wM yX1_read cX1_read 4 (some .boolean)) { frames := 2, cells := 0, slots := 0, locals := 42 }).room.locals := ⟨Nat.le_refl _, Nat.le_refl _⟩
  have dy : Dy D cA ad (V, g) A s.heap s.heap [] := ⟨w0, va_S.rf⟩
  have hl := lv_entry [.ref (ad k0), .ref (ad a1), .ref (ad a2)] (n := 4) (Nat.le_of_ble_eq_true rfl)
  rw [lg_entry_eq]
  generalize (lg_sl [.ref (ad k0), .ref (ad a1), .ref (ad a2)] ++ List.replicate (4 - (lg_sl [.ref (ad k0), .ref (ad a1), .ref (ad a2)]).length) Slot.unset).toArray = ls at hl ⊢
  have hl : lv_has ls 4 [(0, .ref (ad k0)), (1, .ref (ad a1)), (2, .ref (ad a2))] := hl
  have dy0 : ∃ H0, H0 = s.heap ∧ Dy D cA ad (V, g) A s.heap H0 [] := ⟨_, rfl, dy⟩
  obtain ⟨z, ez⟩ : ∃ z, z = (r0, g0) := ⟨_, rfl⟩
  rw [← ez] at hr
  have hq0 : ∀ (rb : Int32) (gb : Hq), z = (rb, gb) → rb = r0 ∧ gb = g0 := fun rb gb eb => by rw [ez] at eb; exact ⟨(congrArg Prod.fst eb).symm, (congrArg Prod.snd eb).symm⟩
  clear ez w0 dy0
  unfold r_X1_read at hr
  obtain ⟨H, hH⟩ : ∃ H, H = s.heap := ⟨_, rfl⟩
  obtain ⟨locs, hlo⟩ : ∃ q : List Loc, q = [] := ⟨_, rfl⟩
  have dy : Dy D cA ad (V, g) A s.heap H locs := by rw [hH, hlo]; exact dy
  suffices K : W p l e (headSpec (wM yX1_read cX1_read 4 (some .boolean)) { frames := 2, cells := 0, slots := 0, locals := 42 }).room s m ([.ref (ad k0), .ref (ad a1), .ref (ad a2)] : List Value).toArray below meth c H locs 0 0 (MQ below (QI D cA ad A r0 (V, g0)) ([.ref (ad k0), .ref (ad a1), .ref (ad a2)] : List Value).toArray s 0 0 A) (F0 m 0 ls []) by rw [hH, hlo] at K; exact K
  clear hH hlo
  refine lv_aload_n cx.1 cx.2.1 dX1_read_0 rfl (lv_at hl 0 rfl) ?_
  refine lv_aload_n cx.1 cx.2.1 dX1_read_1 rfl (lv_at hl 1 rfl) ?_
  obtain ⟨hv3, hr⟩ := of_grd hr
  obtain ⟨x2, g1, hc4, hr⟩ := of_bnd2 hr
  refine r_i dy (k_V (As := []) (b := a1) (ci := 8) cx fx dy (c_X8_length hc4) mv_X8_length rfl rfl ⟨Nat.le_trans (by decide) hR.1, Nat.le_trans (by decide) hR.2⟩ tb_919 hv3 rfl (by decide) rfl hl.1 rfl (Nat.le_of_ble_eq_true rfl) ⟨Nat.zero_le _, Nat.zero_le _⟩ dX1_read_2) (fun H locs dy => ?_)
  obtain ⟨hv5, hr⟩ := of_grd hr
  obtain ⟨g6, eg6, hr⟩ := of_nm hr
  refine h_putI cx fx dy fd_1_1 (pd_1_1 : PD _ _ _ _ _ .int) rfl rfl rfl hv5 tb_239 dX1_read_5 (fun H locs dy => ?_)
  replace dy : Dy D cA ad (V, g6) A s.heap H locs := by rw [eg6]; exact dy
  refine lv_aload_n cx.1 cx.2.1 dX1_read_8 rfl (lv_at hl 0 rfl) ?_
  refine h_getI cx fx dy fd_1_1 hv5 tb_239 dX1_read_9 ?_
  refine lv_iconst (v := 2) cx.1 cx.2.1 dX1_read_12 (by decide) ?_
  refine lv_bipush (v := 10) cx.1 cx.2.1 dX1_read_13 (by decide) ?_
  obtain ⟨x8, g7, hc9, hr⟩ := of_bnd2 hr
  refine r_i dy (k_SN (As := [.int (g6.1 k0 1), .int (2 : Int32), .int (10 : Int32)]) cx fx dy (c_X11_isFrom hc9) mv_X11_isFrom rfl rfl ⟨Nat.le_trans (by decide) hR.1, Nat.le_trans (by decide) hR.2⟩ tb_920 rfl hl.1 rfl (Nat.le_of_ble_eq_true rfl) ⟨Nat.zero_le _, Nat.zero_le _⟩ dX1_read_15) (fun H locs dy => ?_)
  rcases of_brn hr with ⟨hc, hr⟩ | ⟨hc, hr⟩
  · refine lv_if_ne (tgt := 23) cx.1 cx.2.1 dX1_read_18 (by decide) (fun hn => absurd hc hn) (fun _ => ?_)
    refine lv_iconst (v := 0) cx.1 cx.2.1 dX1_read_21 (by decide) ?_
    obtain ⟨e0, e1⟩ := hq0 _ _ (Option.some.inj hr).symm
    exact h_iret cx dy hlocks hret rfl e0 (by rw [e1]) dX1_read_22
  · refine lv_if_ne (tgt := 23) cx.1 cx.2.1 dX1_read_18 (by decide) (fun _ => ?_) (fun hn => absurd hn hc)
    refine lv_iconst (v := 0) cx.1 cx.2.1 dX1_read_23 (by decide) ?_
    refine lv_istore_n (lv' := [(3, .int (0 : Int32)), (0, .ref (ad k0)), (1, .ref (ad a1)), (2, .ref (ad a2))]) cx.1 cx.2.1 dX1_read_24 rfl hl (by decide) rfl (fun ls hl => ?_)
    obtain ⟨n, hr⟩ := lop_some hr
    exact w_X1_read_25 cx fx hlocks hret hR r0 g0 z hq0 n k0 a1 a2 (0 : Int32) g7 hr H locs ls dy (lv_sub hl [1, 2, 3, 0] rfl)
noncomputable def r_X1_run_23' (V : Vk) (k10 : Nat) (k11 : Nat) (k12 : Nat) (x13 : Int32) (x14 : Int32) (x15 : Int32) (x16 : Int32) (g17 : Hq) : Option ((Nat × Nat × Nat × Int32 × Int32 × Int32 × Int32 × Hq) ⊕ (Int32 × Hq)) :=
  grd (V k10 = some (1, 0)) <| brn ((g17.1 k10 1) ≤ x15) (Option.bind (g17.2.2 k10 0) fun k19 => grd (okV V k19 0 (x15 - (1 : Int32))) <| nm (sI g17 k10 3 (g17.1 k19 (x15 - (1 : Int32)).toNatClampNeg)) fun g22 => some (.inr (x15, g22))) (Option.bind (g17.2.2 k10 0) fun k23 => grd (okV V k23 0 (x15 - (1 : Int32))) <| Option.bind (g17.2.2 k10 0) fun k26 => grd (okV V k26 0 x15) <| grd (V k11 = some (9, 0)) <| bnd (r_X9_minutesOfWay V k11 (g17.1 k23 (x15 - (1 : Int32)).toNatClampNeg) (g17.1 k26 x15.toNatClampNeg) g17) fun x30 g29 => Option.bind (g29.2.2 k10 0) fun k33 => grd (okV V k33 0 x15) <| bnd (r_X9_wardAt V k11 (g29.1 k33 x15.toNatClampNeg) g29) fun x37 g36 => grd (okV V k12 4 x37) <| Option.bind (g36.2.2 k12 x37.toNatClampNeg) fun k40 => grd (V k40 = some (10, 0)) <| Option.bind (g36.2.2 k40 0) fun k43 => nm (x16 + x30) fun x45 => brn (x37 = x14) (nm (sI g36 k10 2 ((g36.1 k10 2) + x30)) fun g46 => nm (x15 + (1 : Int32)) fun x47 => some (.inl (k10, k11, k12, x13, x14, x47, (0 : Int32), g46))) (grd (V k43 = some (4, 0)) <| bnd (r_X4_letFollow V k43 x13 g36) fun x49 g48 => brn (x49 = 0) (Option.bind (g48.2.2 k10 0) fun k52 => grd (okV V k52 0 (x15 - (1 : Int32))) <| nm (sI g48 k10 3 (g48.1 k52 (x15 - (1 : Int32)).toNatClampNeg)) fun g55 => some (.inr (x15, g55))) (brn (x45 ≤ (g48.1 k43 5)) (nm (sI g48 k10 2 ((g48.1 k10 2) + x30)) fun g56 => nm (x15 + (1 : Int32)) fun x57 => some (.inl (k10, k11, k12, x13, x14, x57, x45, g56))) (Option.bind (g48.2.2 k10 0) fun k58 => grd (okV V k58 0 (x15 - (1 : Int32))) <| nm (sI g48 k10 3 (g48.1 k58 (x15 - (1 : Int32)).toNatClampNeg)) fun g61 => some (.inr (x15, g61))))))
noncomputable def r_X1_run_23 (V : Vk) (st : (Nat × Nat × Nat × Int32 × Int32 × Int32 × Int32 × Hq)) : Option ((Nat × Nat × Nat × Int32 × Int32 × Int32 × Int32 × Hq) ⊕ (Int32 × Hq)) := r_X1_run_23' V st.1 st.2.1 st.2.2.1 st.2.2.2.1 st.2.2.2.2.1 st.2.2.2.2.2.1 st.2.2.2.2.2.2.1 st.2.2.2.2.2.2.2
set_option maxHeartbeats 4000000 in
set_option maxRecDepth 100000 in
theorem w_X1_run_23 {p : Program} {l : Launch} {e : Env} {R : Room} {s : State} {m : MethodId} {args : Array Value} {below : List Frame} {meth : Method} {c : Code} {D : va_G} {cA : Nat → ClassId} {sk : (Nat → Nat) × (Nat → Nat)} {ad : Nat → Nat} {A : Nat → Prop} {V : Vk} (cx : CallFix p m c cX1_run 10 s args gw_tbl RX1) (fx : Fx D cA sk A s) (hlocks : meth.locks = false) (hret : meth.sig.returnType = (some .int)) (hR : 1 ≤ R.frames ∧ 22 ≤ R.locals) (r0 : Int32) (g0 : Hq) (y : (Int32 × Hq)) (hq : ∀ (rb : Int32) (gb : Hq), y = (rb, gb) → rb = r0 ∧ gb = g0) : ∀ (n : Nat) (k10 : Nat) (k11 : Nat) (k12 : Nat) (x13 : Int32) (x14 : Int32) (x15 : Int32) (x16 : Int32) (g17 : Hq), itr (r_X1_run_23 V) n (k10, k11, k12, x13, x14, x15, x16, g17) = some y → ∀ (H : Heap) (locs : List Loc) (ls : Array Slot), Dy D cA ad (V, g17) A s.heap H locs → lv_has ls 10 [(0, .ref (ad k10)), (1, .ref (ad k11)), (2, .ref (ad k12)), (3, .int x13), (4, .int x14), (5, .int x15), (6, .int x16)] → W p l e R s m args below meth c H locs 0 0 (MQ below (QI D cA ad A r0 (V, g0)) args s 0 0 A) (F0 m 23 ls []) := by
  intro n
  induction n with
  | zero => intro k10 k11 k12 x13 x14 x15 x16 g17 hr; cases hr
  | succ n ih =>
    intro k10 k11 k12 x13 x14 x15 x16 g17 hr H locs ls dy hl
    obtain ⟨z, hz, hn1, hn2⟩ := itr_succ hr
    clear hr
    have hr : r_X1_run_23' V k10 k11 k12 x13 x14 x15 x16 g17 = some z := hz
    clear hz
    unfold r_X1_run_23' at hr
    have hh0 : ∀ (b0 : Nat) (b1 : Nat) (b2 : Nat) (b3 : Int32) (b4 : Int32) (b5 : Int32) (b6 : Int32) (gb : Hq), z = .inl (b0, b1, b2, b3, b4, b5, b6, gb) → ∀ (H : Heap) (locs : List Loc) (ls : Array Slot), Dy D cA ad (V, gb) A s.heap H locs → lv_has ls 10 [(0, .ref (ad b0)), (1, .ref (ad b1)), (2, .ref (ad b2)), (3, .int b3), (4, .int b4), (5, .int b5), (6, .int b6)] → W p l e R s m args below meth c H locs 0 0 (MQ below (QI D cA ad A r0 (V, g0)) args s 0 0 A) (F0 m 23 ls []) := fun b0 b1 b2 b3 b4 b5 b6 gb eb => ih b0 b1 b2 b3 b4 b5 b6 gb (hn1 _ eb)
    have hq0 : ∀ (rb : Int32) (gb : Hq), z = (.inr (rb, gb)) → rb = r0 ∧ gb = g0 := fun rb gb eb => hq rb gb (hn2 _ eb).symm
    refine lv_iload cx.1 cx.2.1 dX1_run_23 (lv_at hl 5 rfl) ?_
    refine lv_aload_n cx.1 cx.2.1 dX1_run_25 rfl (lv_at hl 0 rfl) ?_
    obtain ⟨hv18, hr⟩ := of_grd hr
    refine h_getI cx fx dy fd_1_1 hv18 tb_239 dX1_run_26 ?_
    rcases of_brn hr with ⟨hc, hr⟩ | ⟨hc, hr⟩
    · refine lv_icmp_ge (tgt := 135) cx.1 cx.2.1 dX1_run_29 (by decide) (fun _ => ?_) (fun hn => absurd hc hn)
      refine lv_aload_n cx.1 cx.2.1 dX1_run_135 rfl (lv_at hl 0 rfl) ?_
      refine lv_aload_n cx.1 cx.2.1 dX1_run_136 rfl (lv_at hl 0 rfl) ?_
      obtain ⟨k19, hf20, hr⟩ := of_bnd hr
      refine h_getR cx fx dy fd_1_0 hv18 tb_238 hf20 dX1_run_137 ?_
      refine lv_iload cx.1 cx.2.1 dX1_run_140 (lv_at hl 5 rfl) ?_
      refine lv_iconst (v := 1) cx.1 cx.2.1 dX1_run_142 (by decide) ?_
      refine lv_isub cx.1 cx.2.1 dX1_run_143 ?_
      obtain ⟨ha21, hr⟩ := of_grd hr
      refine h_iald cx fx dy ha21 dX1_run_144 ?_
      obtain ⟨g22, eg22, hr⟩ := of_nm hr
      refine h_putI cx fx dy fd_1_3 (pd_1_3 : PD _ _ _ _ _ .int) rfl rfl rfl hv18 tb_241 dX1_run_145 (fun H locs dy => ?_)
      replace dy : Dy D cA ad (V, g22) A s.heap H locs := by rw [eg22]; exact dy
      refine lv_iload cx.1 cx.2.1 dX1_run_148 (lv_at hl 5 rfl) ?_
      obtain ⟨e0, e1⟩ := hq0 _ _ (Option.some.inj hr).symm
      exact h_iret cx dy hlocks hret rfl e0 (by rw [e1]) dX1_run_150
    · refine lv_icmp_ge (tgt := 135) cx.1 cx.2.1 dX1_run_29 (by decide) (fun hn => absurd hn hc) (fun _ => ?_)
      refine lv_aload_n cx.1 cx.2.1 dX1_run_32 rfl (lv_at hl 1 rfl) ?_
      refine lv_aload_n cx.1 cx.2.1 dX1_run_33 rfl (lv_at hl 0 rfl) ?_
      obtain ⟨k23, hf24, hr⟩ := of_bnd hr
      refine h_getR cx fx dy fd_1_0 hv18 tb_238 hf24 dX1_run_34 ?_
      refine lv_iload cx.1 cx.2.1 dX1_run_37 (lv_at hl 5 rfl) ?_
      refine lv_iconst (v := 1) cx.1 cx.2.1 dX1_run_39 (by decide) ?_
      refine lv_isub cx.1 cx.2.1 dX1_run_40 ?_
      obtain ⟨ha25, hr⟩ := of_grd hr
      refine h_iald cx fx dy ha25 dX1_run_41 ?_
      refine lv_aload_n cx.1 cx.2.1 dX1_run_42 rfl (lv_at hl 0 rfl) ?_
      obtain ⟨k26, hf27, hr⟩ := of_bnd hr
      refine h_getR cx fx dy fd_1_0 hv18 tb_238 hf27 dX1_run_43 ?_
      refine lv_iload cx.1 cx.2.1 dX1_run_46 (lv_at hl 5 rfl) ?_
      obtain ⟨ha28, hr⟩ := of_grd hr
      refine h_iald cx fx dy ha28 dX1_run_48 ?_
      obtain ⟨hv31, hr⟩ := of_grd hr
      obtain ⟨x30, g29, hc32, hr⟩ := of_bnd2 hr
      refine r_i dy (k_V (As := [.int (g17.1 k23 (x15 - (1 : Int32)).toNatClampNeg), .int (g17.1 k26 x15.toNatClampNeg)]) (b := k11) (ci := 9) cx fx dy (c_X9_minutesOfWay hc32) mv_X9_minutesOfWay rfl rfl ⟨Nat.le_trans (by decide) hR.1, Nat.le_trans (by decide) hR.2⟩ tb_923 hv31 rfl (by decide) rfl hl.1 rfl (Nat.le_of_ble_eq_true rfl) ⟨Nat.zero_le _, Nat.zero_le _⟩ dX1_run_49) (fun H locs dy => ?_)
      refine lv_istore (lv' := [(7, .int x30), (0, .ref (ad k10)), (1, .ref (ad k11)), (2, .ref (ad k12)), (3, .int x13), (4, .int x14), (5, .int x15), (6, .int x16)]) cx.1 cx.2.1 dX1_run_52 hl (by decide) rfl (fun ls hl => ?_)
      refine lv_aload_n cx.1 cx.2.1 dX1_run_54 rfl (lv_at hl 2 rfl) ?_
      refine lv_aload_n cx.1 cx.2.1 dX1_run_55 rfl (lv_at hl 1 rfl) ?_
      obtain ⟨k33, hf34, hr⟩ := of_bnd hr
      refine h_getR cx fx dy fd_1_0 hv18 tb_238 hf34 dX1_run_56 ?_
      refine lv_iload cx.1 cx.2.1 dX1_run_59 (lv_at hl 6 rfl) ?_
      obtain ⟨ha35, hr⟩ := of_grd hr
      refine h_iald cx fx dy ha35 dX1_run_61 ?_
      obtain ⟨x37, g36, hc38, hr⟩ := of_bnd2 hr
      refine r_i dy (k_V (As := [.int (g29.1 k33 x15.toNatClampNeg)]) (b := k11) (ci := 9) cx fx dy (c_X9_wardAt hc38) mv_X9_wardAt rfl rfl ⟨Nat.le_trans (by decide) hR.1, Nat.le_trans (by decide) hR.2⟩ tb_928 hv31 rfl (by decide) rfl hl.1 rfl (Nat.le_of_ble_eq_true rfl) ⟨Nat.zero_le _, Nat.zero_le _⟩ dX1_run_62) (fun H locs dy => ?_)
      refine lv_istore (lv' := [(8, .int x37), (7, .int x30), (0, .ref (ad k10)), (1, .ref (ad k11)), (2, .ref (ad k12)), (3, .int x13), (4, .int x14), (5, .int x15), (6, .int x16)]) cx.1 cx.2.1 dX1_run_65 hl (by decide) rfl (fun ls hl => ?_)
      refine lv_aload_n cx.1 cx.2.1 dX1_run_67 rfl (lv_at hl 4 rfl) ?_
      refine lv_iload cx.1 cx.2.1 dX1_run_68 (lv_at hl 0 rfl) ?_
      obtain ⟨ha39, hr⟩ := of_grd hr
      obtain ⟨k40, hf41, hr⟩ := of_bnd hr
      refine h_aald (t := 4) cx fx dy (by decide) rfl ha39 hf41 dX1_run_70 ?_
      obtain ⟨hv42, hr⟩ := of_grd hr
      obtain ⟨k43, hf44, hr⟩ := of_bnd hr
      refine h_getRN cx fx dy fd_10_0 hv42 tb_328 hf44 dX1_run_71 ?_
      refine lv_astore (lv' := [(9, .ref (ad k43)), (8, .int x37), (7, .int x30), (0, .ref (ad k10)), (1, .ref (ad k11)), (2, .ref (ad k12)), (3, .int x13), (4, .int x14), (5, .int x15), (6, .int x16)]) cx.1 cx.2.1 dX1_run_74 hl (by decide) rfl (fun ls hl => ?_)
      refine lv_iload cx.1 cx.2.1 dX1_run_76 (lv_at hl 9 rfl) ?_
      refine lv_iload cx.1 cx.2.1 dX1_run_78 (lv_at hl 2 rfl) ?_
      refine lv_iadd cx.1 cx.2.1 dX1_run_80 ?_
      obtain ⟨x45, ex45, hr⟩ := of_nm hr
      refine lv_nmi ex45 ?_
      refine lv_istore (lv' := [(6, .int x45), (9, .ref (ad k43)), (8, .int x37), (7, .int x30), (0, .ref (ad k10)), (1, .ref (ad k11)), (2, .ref (ad k12)), (3, .int x13), (4, .int x14), (5, .int x15)]) cx.1 cx.2.1 dX1_run_81 hl (by decide) rfl (fun ls hl => ?_)
      refine lv_iload cx.1 cx.2.1 dX1_run_83 (lv_at hl 2 rfl) ?_
      refine lv_iload cx.1 cx.2.1 dX1_run_85 (lv_at hl 8 rfl) ?_
      rcases of_brn hr with ⟨hc, hr⟩ | ⟨hc, hr⟩
      · refine lv_icmp_ne (tgt := 96) cx.1 cx.2.1 dX1_run_87 (by decide) (fun hn => absurd hc hn) (fun _ => ?_)
        refine lv_iconst (v := 0) cx.1 cx.2.1 dX1_run_90 (by decide) ?_
        refine lv_istore (lv' := [(6, .int (0 : Int32)), (9, .ref (ad k43)), (8, .int x37), (7, .int x30), (0, .ref (ad k10)), (1, .ref (ad k11)), (2, .ref (ad k12)), (3, .int x13), (4, .int x14), (5, .int x15)]) cx.1 cx.2.1 dX1_run_91 hl (by decide) rfl (fun ls hl => ?_)
        refine lv_goto (tgt := 118) cx.1 cx.2.1 dX1_run_93 (by decide) ?_
        refine lv_aload_n cx.1 cx.2.1 dX1_run_118 rfl (lv_at hl 4 rfl) ?_
        refine lv_dup cx.1 cx.2.1 dX1_run_119 rfl ?_
        refine h_getI cx fx dy fd_1_2 hv18 tb_240 dX1_run_120 ?_
        refine lv_iload cx.1 cx.2.1 dX1_run_123 (lv_at hl 3 rfl) ?_
        refine lv_iadd cx.1 cx.2.1 dX1_run_125 ?_
        obtain ⟨g46, eg46, hr⟩ := of_nm hr
        refine h_putI cx fx dy fd_1_2 (pd_1_2 : PD _ _ _ _ _ .int) rfl rfl rfl hv18 tb_240 dX1_run_126 (fun H locs dy => ?_)
        replace dy : Dy D cA ad (V, g46) A s.heap H locs := by rw [eg46]; exact dy
        obtain ⟨x47, ex47, hr⟩ := of_nm hr
        refine lv_iinc (v := x47) (lv' := [(5, .int x47), (6, .int (0 : Int32)), (9, .ref (ad k43)), (8, .int x37), (7, .int x30), (0, .ref (ad k10)), (1, .ref (ad k11)), (2, .ref (ad k12)), (3, .int x13), (4, .int x14)]) cx.1 cx.2.1 dX1_run_129 hl (k := 9) rfl (by rw [ex47]; rfl) (by decide) rfl (fun ls hl => ?_)
        refine lv_goto (tgt := 23) cx.1 cx.2.1 dX1_run_132 (by decide) ?_
        exact hh0 k10 k11 k12 x13 x14 x47 (0 : Int32) g46 (Option.some.inj hr).symm H locs ls dy (lv_sub hl [5, 6, 7, 8, 9, 0, 1] rfl)
      · refine lv_icmp_ne (tgt := 96) cx.1 cx.2.1 dX1_run_87 (by decide) (fun _ => ?_) (fun hn => absurd hn hc)
        refine lv_aload cx.1 cx.2.1 dX1_run_96 (lv_at hl 1 rfl) ?_
        refine lv_iload_n cx.1 cx.2.1 dX1_run_98 rfl (lv_at hl 7 rfl) ?_
        obtain ⟨hv50, hr⟩ := of_grd hr
        obtain ⟨x49, g48, hc51, hr⟩ := of_bnd2 hr
        refine r_i dy (k_V (As := [.int x13]) (b := k43) (ci := 4) cx fx dy (c_X4_letFollow hc51) mv_X4_letFollow rfl rfl ⟨Nat.le_trans (by decide) hR.1, Nat.le_trans (by decide) hR.2⟩ tb_932 hv50 rfl (by decide) rfl hl.1 rfl (Nat.le_of_ble_eq_true rfl) ⟨Nat.zero_le _, Nat.zero_le _⟩ dX1_run_99) (fun H locs dy => ?_)
        rcases of_brn hr with ⟨hc, hr⟩ | ⟨hc, hr⟩
        · refine lv_if_eq (tgt := 135) cx.1 cx.2.1 dX1_run_102 (by decide) (fun _ => ?_) (fun hn => absurd hc hn)
          refine lv_aload_n cx.1 cx.2.1 dX1_run_135 rfl (lv_at hl 4 rfl) ?_
          refine lv_aload_n cx.1 cx.2.1 dX1_run_136 rfl (lv_at hl 4 rfl) ?_
          obtain ⟨k52, hf53, hr⟩ := of_bnd hr
          refine h_getR cx fx dy fd_1_0 hv18 tb_238 hf53 dX1_run_137 ?_
          refine lv_iload cx.1 cx.2.1 dX1_run_140 (lv_at hl 9 rfl) ?_
          refine lv_iconst (v := 1) cx.1 cx.2.1 dX1_run_142 (by decide) ?_
          refine lv_isub cx.1 cx.2.1 dX1_run_143 ?_
          obtain ⟨ha54, hr⟩ := of_grd hr
          refine h_iald cx fx dy ha54 dX1_run_144 ?_
          obtain ⟨g55, eg55, hr⟩ := of_nm hr
          refine h_putI cx fx dy fd_1_3 (pd_1_3 : PD _ _ _ _ _ .int) rfl rfl rfl hv18 tb_241 dX1_run_145 (fun H locs dy => ?_)
          replace dy : Dy D cA ad (V, g55) A s.heap H locs := by rw [eg55]; exact dy
          refine lv_iload cx.1 cx.2.1 dX1_run_148 (lv_at hl 9 rfl) ?_
          obtain ⟨e0, e1⟩ := hq0 _ _ (Option.some.inj hr).symm
          exact h_iret cx dy hlocks hret rfl e0 (by rw [e1]) dX1_run_150
        · refine lv_if_eq (tgt := 135) cx.1 cx.2.1 dX1_run_102 (by decide) (fun hn => absurd hn hc) (fun _ => ?_)
          refine lv_iload cx.1 cx.2.1 dX1_run_105 (lv_at hl 0 rfl) ?_
          refine lv_aload cx.1 cx.2.1 dX1_run_107 (lv_at hl 1 rfl) ?_
          refine h_getIN cx fx dy fd_4_5 hv50 tb_280 dX1_run_109 ?_
          rcases of_brn hr with ⟨hc, hr⟩ | ⟨hc, hr⟩
          · refine lv_icmp_le (tgt := 118) cx.1 cx.2.1 dX1_run_112 (by decide) (fun _ => ?_) (fun hn => absurd hc hn)
            refine lv_aload_n cx.1 cx.2.1 dX1_run_118 rfl (lv_at hl 4 rfl) ?_
            refine lv_dup cx.1 cx.2.1 dX1_run_119 rfl ?_
            refine h_getI cx fx dy fd_1_2 hv18 tb_240 dX1_run_120 ?_
            refine lv_iload cx.1 cx.2.1 dX1_run_123 (lv_at hl 3 rfl) ?_
            refine lv_iadd cx.1 cx.2.1 dX1_run_125 ?_
            obtain ⟨g56, eg56, hr⟩ := of_nm hr
            refine h_putI cx fx dy fd_1_2 (pd_1_2 : PD _ _ _ _ _ .int) rfl rfl rfl hv18 tb_240 dX1_run_126 (fun H locs dy => ?_)
            replace dy : Dy D cA ad (V, g56) A s.heap H locs := by rw [eg56]; exact dy
            obtain ⟨x57, ex57, hr⟩ := of_nm hr
            refine lv_iinc (v := x57) (lv' := [(5, .int x57), (6, .int x45), (9, .ref (ad k43)), (8, .int x37), (7, .int x30), (0, .ref (ad k10)), (1, .ref (ad k11)), (2, .ref (ad k12)), (3, .int x13), (4, .int x14)]) cx.1 cx.2.1 dX1_run_129 hl (k := 9) rfl (by rw [ex57]; rfl) (by decide) rfl (fun ls hl => ?_)
            refine lv_goto (tgt := 23) cx.1 cx.2.1 dX1_run_132 (by decide) ?_
            exact hh0 k10 k11 k12 x13 x14 x57 x45 g56 (Option.some.inj hr).symm H locs ls dy (lv_sub hl [5, 6, 7, 8, 9, 0, 1] rfl)
          · refine lv_icmp_le (tgt := 118) cx.1 cx.2.1 dX1_run_112 (by decide) (fun hn => absurd hn hc) (fun _ => ?_)
            refine lv_goto (tgt := 135) cx.1 cx.2.1 dX1_run_115 (by decide) ?_
            refine lv_aload_n cx.1 cx.2.1 dX1_run_135 rfl (lv_at hl 4 rfl) ?_
            refine lv_aload_n cx.1 cx.2.1 dX1_run_136 rfl (lv_at hl 4 rfl) ?_
            obtain ⟨k58, hf59, hr⟩ := of_bnd hr
            refine h_getR cx fx dy fd_1_0 hv18 tb_238 hf59 dX1_run_137 ?_
            refine lv_iload cx.1 cx.2.1 dX1_run_140 (lv_at hl 9 rfl) ?_
            refine lv_iconst (v := 1) cx.1 cx.2.1 dX1_run_142 (by decide) ?_
            refine lv_isub cx.1 cx.2.1 dX1_run_143 ?_
            obtain ⟨ha60, hr⟩ := of_grd hr
            refine h_iald cx fx dy ha60 dX1_run_144 ?_
            obtain ⟨g61, eg61, hr⟩ := of_nm hr
            refine h_putI cx fx dy fd_1_3 (pd_1_3 : PD _ _ _ _ _ .int) rfl rfl rfl hv18 tb_241 dX1_run_145 (fun H locs dy => ?_)
            replace dy : Dy D cA ad (V, g61) A s.heap H locs := by rw [eg61]; exact dy
            refine lv_iload cx.1 cx.2.1 dX1_run_148 (lv_at hl 9 rfl) ?_
            obtain ⟨e0, e1⟩ := hq0 _ _ (Option.some.inj hr).symm
            exact h_iret cx dy hlocks hret rfl e0 (by rw [e1]) dX1_run_150
noncomputable def r_X1_run (V : Vk) (k0 : Nat) (a1 : Nat) (a2 : Nat) (a3 : Int32) (g : Hq) : Option (Int32 × Hq) :=
  grd (V k0 = some (1, 0)) <| Option.bind (g.2.2 k0 0) fun k2 => grd (okV V k2 0 (0 : Int32)) <| grd (V a1 = some (9, 0)) <| bnd (r_X9_wardAt V a1 (g.1 k2 (0 : Int32).toNatClampNeg) g) fun x6 g5 => nm (sI g5 k0 2 (0 : Int32)) fun g9 => (lop (r_X1_run_23 V) (k0, a1, a2, a3, x6, (1 : Int32), (0 : Int32), g9))
set_option maxHeartbeats 4000000 in
set_option maxRecDepth 100000 in
theorem c_X1_run {l : Launch} {D : va_G} {cA : Nat → ClassId} {sk : (Nat → Nat) × (Nat → Nat)} {ad : Nat → Nat} {A : Nat → Prop} {V : Vk} {k0 : Nat} {a1 : Nat} {a2 : Nat} {a3 : Int32} {g g0 : Hq} {r0 : Int32} (hr : r_X1_run V k0 a1 a2 a3 g = some (r0, g0)) : Met l yX1_run (wM yX1_run cX1_run 10 (some .int)) { frames := 1, cells := 0, slots := 0, locals := 22 } (Pre D cA sk ad (V, g) A [.ref (ad k0), .ref (ad a1), .ref (ad a2), .int a3]) (QI D cA ad A r0 (V, g0)) 0 0 A := by
  refine Met.ofW (cc := cX1_run) (maxL := 10) (ret := (some .int)) (by decide) rfl ?_
  intro p e s m args below meth c s₁ B hml hv
  obtain ⟨rfl, fx, w0⟩ := hv
  have hts := atoms_spec (ws := wM yX1_run cX1_run 10 (some .int)) B.pre
  have cx : CallFix p m c cX1_run 10 s ([.ref (ad k0), .ref (ad a1), .ref (ad a2), .int a3] : List Value).toArray gw_tbl RX1 := ⟨B.exec, B.bytes, hml, findClass_of_methodNamed B.named, fun w hw => hts w (List.mem_cons_of_mem _ hw)⟩
  have hlocks := B.notSynchronized
  have hret := B.returns
  have hR : 1 ≤ (headSpec (wM yX1_run cX1_run 10 (some .int)) { frames := 1, cells := 0, slots := 0, locals := 22 }).room.frames ∧ 22 ≤ (headSpec (wM yX1_run cX1_run 10 (some .int)) { frames := 1, cells := 0, slots := 0, locals := 22 }).room.locals := ⟨Nat.le_refl _, Nat.le_refl _⟩
  have dy : Dy D cA ad (V, g) A s.heap s.heap [] := ⟨w0, va_S.rf⟩
  have hl := lv_entry [.ref (ad k0), .ref (ad a1), .ref (ad a2), .int a3] (n := 10) (Nat.le_of_ble_eq_true rfl)
  rw [lg_entry_eq]
  generalize (lg_sl [.ref (ad k0), .ref (ad a1), .ref (ad a2), .int a3] ++ List.replicate (10 - (lg_sl [.ref (ad k0), .ref (ad a1), .ref (ad a2), .int a3]).length) Slot.unset).toArray = ls at hl ⊢
  have hl : lv_has ls 10 [(0, .ref (ad k0)), (1, .ref (ad a1)), (2, .ref (ad a2)), (3, .int a3)] := hl
  have dy0 : ∃ H0, H0 = s.heap ∧ Dy D cA ad (V, g) A s.heap H0 [] := ⟨_, rfl, dy⟩
  obtain ⟨z, ez⟩ : ∃ z, z = (r0, g0) := ⟨_, rfl⟩
  rw [← ez] at hr
  have hq0 : ∀ (rb : Int32) (gb : Hq), z = (rb, gb) → rb = r0 ∧ gb = g0 := fun rb gb eb => by rw [ez] at eb; exact ⟨(congrArg Prod.fst eb).symm, (congrArg Prod.snd eb).symm⟩
  clear ez w0 dy0
  unfold r_X1_run at hr
  obtain ⟨H, hH⟩ : ∃ H, H = s.heap := ⟨_, rfl⟩
  obtain ⟨locs, hlo⟩ : ∃ q : List Loc, q = [] := ⟨_, rfl⟩
  have dy : Dy D cA ad (V, g) A s.heap H locs := by rw [hH, hlo]; exact dy
  suffices K : W p l e (headSpec (wM yX1_run cX1_run 10 (some .int)) { frames := 1, cells := 0, slots := 0, locals := 22 }).room s m ([.ref (ad k0), .ref (ad a1), .ref (ad a2), .int a3] : List Value).toArray below meth c H locs 0 0 (MQ below (QI D cA ad A r0 (V, g0)) ([.ref (ad k0), .ref (ad a1), .ref (ad a2), .int a3] : List Value).toArray s 0 0 A) (F0 m 0 ls []) by rw [hH, hlo] at K; exact K
  clear hH hlo
  refine lv_aload_n cx.1 cx.2.1 dX1_run_0 rfl (lv_at hl 1 rfl) ?_
  refine lv_aload_n cx.1 cx.2.1 dX1_run_1 rfl (lv_at hl 0 rfl) ?_
  obtain ⟨hv1, hr⟩ := of_grd hr
  obtain ⟨k2, hf3, hr⟩ := of_bnd hr
  refine h_getR cx fx dy fd_1_0 hv1 tb_238 hf3 dX1_run_2 ?_
  refine lv_iconst (v := 0) cx.1 cx.2.1 dX1_run_5 (by decide) ?_
  obtain ⟨ha4, hr⟩ := of_grd hr
  refine h_iald cx fx dy ha4 dX1_run_6 ?_
  obtain ⟨hv7, hr⟩ := of_grd hr
  obtain ⟨x6, g5, hc8, hr⟩ := of_bnd2 hr
  refine r_i dy (k_V (As := [.int (g.1 k2 (0 : Int32).toNatClampNeg)]) (b := a1) (ci := 9) cx fx dy (c_X9_wardAt hc8) mv_X9_wardAt rfl rfl ⟨Nat.le_trans (by decide) hR.1, Nat.le_trans (by decide) hR.2⟩ tb_928 hv7 rfl (by decide) rfl hl.1 rfl (Nat.le_of_ble_eq_true rfl) ⟨Nat.zero_le _, Nat.zero_le _⟩ dX1_run_7) (fun H locs dy => ?_)
  refine lv_istore (lv' := [(4, .int x6), (0, .ref (ad k0)), (1, .ref (ad a1)), (2, .ref (ad a2)), (3, .int a3)]) cx.1 cx.2.1 dX1_run_10 hl (by decide) rfl (fun ls hl => ?_)
  refine lv_iconst (v := 1) cx.1 cx.2.1 dX1_run_12 (by decide) ?_
  refine lv_istore (lv' := [(5, .int (1 : Int32)), (4, .int x6), (0, .ref (ad k0)), (1, .ref (ad a1)), (2, .ref (ad a2)), (3, .int a3)]) cx.1 cx.2.1 dX1_run_13 hl (by decide) rfl (fun ls hl => ?_)
  refine lv_iconst (v := 0) cx.1 cx.2.1 dX1_run_15 (by decide) ?_
  refine lv_istore (lv' := [(6, .int (0 : Int32)), (5, .int (1 : Int32)), (4, .int x6), (0, .ref (ad k0)), (1, .ref (ad a1)), (2, .ref (ad a2)), (3, .int a3)]) cx.1 cx.2.1 dX1_run_16 hl (by decide) rfl (fun ls hl => ?_)
  refine lv_aload_n cx.1 cx.2.1 dX1_run_18 rfl (lv_at hl 3 rfl) ?_
  refine lv_iconst (v := 0) cx.1 cx.2.1 dX1_run_19 (by decide) ?_
  obtain ⟨g9, eg9, hr⟩ := of_nm hr
  refine h_putI cx fx dy fd_1_2 (pd_1_2 : PD _ _ _ _ _ .int) rfl rfl rfl hv1 tb_240 dX1_run_20 (fun H locs dy => ?_)
  replace dy : Dy D cA ad (V, g9) A s.heap H locs := by rw [eg9]; exact dy
  obtain ⟨n, hr⟩ := lop_some hr
  exact w_X1_run_23 cx fx hlocks hret hR r0 g0 z hq0 n k0 a1 a2 a3 x6 (1 : Int32) (0 : Int32) g9 hr H locs ls dy (lv_sub hl [3, 4, 5, 6, 2, 1, 0] rfl)
noncomputable def r_X1_tell (V : Vk) (k0 : Nat) (a1 : Int32) (g : Hq) : Option (Int32 × Hq) :=
  grd (V k0 = some (1, 0)) <| brn ((g.1 k0 3) = (-1 : Int32)) (some ((-9 : Int32), g)) (brn (a1 = (0 : Int32)) (some ((g.1 k0 2), g)) (brn (a1 = (1 : Int32)) (some ((g.1 k0 3), g)) (some ((-9 : Int32), g))))
set_option maxHeartbeats 4000000 in
set_option maxRecDepth 100000 in
theorem c_X1_tell {l : Launch} {D : va_G} {cA : Nat → ClassId} {sk : (Nat → Nat) × (Nat → Nat)} {ad : Nat → Nat} {A : Nat → Prop} {V : Vk} {k0 : Nat} {a1 : Int32} {g g0 : Hq} {r0 : Int32} (hr : r_X1_tell V k0 a1 g = some (r0, g0)) : Met l yX1_tell (wM yX1_tell cX1_tell 2 (some .int)) { frames := 0, cells := 0, slots := 0, locals := 0 } (Pre D cA sk ad (V, g) A [.ref (ad k0), .int a1]) (QI D cA ad A r0 (V, g0)) 0 0 A := by
  refine Met.ofW (cc := cX1_tell) (maxL := 2) (ret := (some .int)) (by decide) rfl ?_
  intro p e s m args below meth c s₁ B hml hv
  obtain ⟨rfl, fx, w0⟩ := hv
  have hts := atoms_spec (ws := wM yX1_tell cX1_tell 2 (some .int)) B.pre
  have cx : CallFix p m c cX1_tell 2 s ([.ref (ad k0), .int a1] : List Value).toArray gw_tbl RX1 := ⟨B.exec, B.bytes, hml, findClass_of_methodNamed B.named, fun w hw => hts w (List.mem_cons_of_mem _ hw)⟩
  have hlocks := B.notSynchronized
  have hret := B.returns
  have hR : 0 ≤ (headSpec (wM yX1_tell cX1_tell 2 (some .int)) { frames := 0, cells := 0, slots := 0, locals := 0 }).room.frames ∧ 0 ≤ (headSpec (wM yX1_tell cX1_tell 2 (some .int)) { frames := 0, cells := 0, slots := 0, locals := 0 }).room.locals := ⟨Nat.le_refl _, Nat.le_refl _⟩
  have dy : Dy D cA ad (V, g) A s.heap s.heap [] := ⟨w0, va_S.rf⟩
  have hl := lv_entry [.ref (ad k0), .int a1] (n := 2) (Nat.le_of_ble_eq_true rfl)
  rw [lg_entry_eq]
  generalize (lg_sl [.ref (ad k0), .int a1] ++ List.replicate (2 - (lg_sl [.ref (ad k0), .int a1]).length) Slot.unset).toArray = ls at hl ⊢
  have hl : lv_has ls 2 [(0, .ref (ad k0)), (1, .int a1)] := hl
  have dy0 : ∃ H0, H0 = s.heap ∧ Dy D cA ad (V, g) A s.heap H0 [] := ⟨_, rfl, dy⟩
  obtain ⟨z, ez⟩ : ∃ z, z = (r0, g0) := ⟨_, rfl⟩
  rw [← ez] at hr
  have hq0 : ∀ (rb : Int32) (gb : Hq), z = (rb, gb) → rb = r0 ∧ gb = g0 := fun rb gb eb => by rw [ez] at eb; exact ⟨(congrArg Prod.fst eb).symm, (congrArg Prod.snd eb).symm⟩
  clear ez w0 dy0
  unfold r_X1_tell at hr
  obtain ⟨H, hH⟩ : ∃ H, H = s.heap := ⟨_, rfl⟩
  obtain ⟨locs, hlo⟩ : ∃ q : List Loc, q = [] := ⟨_, rfl⟩
  have dy : Dy D cA ad (V, g) A s.heap H locs := by rw [hH, hlo]; exact dy
  suffices K : W p l e (headSpec (wM yX1_tell cX1_tell 2 (some .int)) { frames := 0, cells := 0, slots := 0, locals := 0 }).room s m ([.ref (ad k0), .int a1] : List Value).toArray below meth c H locs 0 0 (MQ below (QI D cA ad A r0 (V, g0)) ([.ref (ad k0), .int a1] : List Value).toArray s 0 0 A) (F0 m 0 ls []) by rw [hH, hlo] at K; exact K
  clear hH hlo
  refine lv_aload_n cx.1 cx.2.1 dX1_tell_0 rfl (lv_at hl 0 rfl) ?_
  obtain ⟨hv1, hr⟩ := of_grd hr
  refine h_getI cx fx dy fd_1_3 hv1 tb_241 dX1_tell_1 ?_
  refine lv_iconst (v := (-1)) cx.1 cx.2.1 dX1_tell_4 (by decide) ?_
  rcases of_brn hr with ⟨hc, hr⟩ | ⟨hc, hr⟩
  · refine lv_icmp_ne (tgt := 11) cx.1 cx.2.1 dX1_tell_5 (by decide) (fun hn => absurd hc hn) (fun _ => ?_)
    refine lv_bipush (v := (-9)) cx.1 cx.2.1 dX1_tell_8 (by decide) ?_
    obtain ⟨e0, e1⟩ := hq0 _ _ (Option.some.inj hr).symm
    exact h_iret cx dy hlocks hret rfl e0 (by rw [e1]) dX1_tell_10
  · refine lv_icmp_ne (tgt := 11) cx.1 cx.2.1 dX1_tell_5 (by decide) (fun _ => ?_) (fun hn => absurd hn hc)
    refine lv_iload_n cx.1 cx.2.1 dX1_tell_11 rfl (lv_at hl 1 rfl) ?_
    rcases of_brn hr with ⟨hc, hr⟩ | ⟨hs2, hr⟩
    · refine lv_lookup (off := 28) (tgt := 40) cx.1 cx.2.1 dX1_tell_12 (by decide) (by rw [hc]; decide) (by decide) ?_
      refine lv_aload_n cx.1 cx.2.1 dX1_tell_40 rfl (lv_at hl 0 rfl) ?_
      refine h_getI cx fx dy fd_1_2 hv1 tb_240 dX1_tell_41 ?_
      obtain ⟨e0, e1⟩ := hq0 _ _ (Option.some.inj hr).symm
      exact h_iret cx dy hlocks hret rfl e0 (by rw [e1]) dX1_tell_44
    rcases of_brn hr with ⟨hc, hr⟩ | ⟨hs3, hr⟩
    · refine lv_lookup (off := 33) (tgt := 45) cx.1 cx.2.1 dX1_tell_12 (by decide) (by rw [hc]; decide) (by decide) ?_
      refine lv_aload_n cx.1 cx.2.1 dX1_tell_45 rfl (lv_at hl 0 rfl) ?_
      refine h_getI cx fx dy fd_1_3 hv1 tb_241 dX1_tell_46 ?_
      obtain ⟨e0, e1⟩ := hq0 _ _ (Option.some.inj hr).symm
      exact h_iret cx dy hlocks hret rfl e0 (by rw [e1]) dX1_tell_49
    refine lv_lookup (off := 38) (tgt := 50) cx.1 cx.2.1 dX1_tell_12 (by decide) ?_ (by decide) ?_
    · simp only [Op.lookupswitch.offset]; rw [if_neg (neI (n := 0) hs2), if_neg (neI (n := 1) hs3)]
    · skip
      refine lv_bipush (v := (-9)) cx.1 cx.2.1 dX1_tell_50 (by decide) ?_
      obtain ⟨e0, e1⟩ := hq0 _ _ (Option.some.inj hr).symm
      exact h_iret cx dy hlocks hret rfl e0 (by rw [e1]) dX1_tell_52
