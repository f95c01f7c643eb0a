noncomputable def r_X3_faultKind (V : Vk) (k0 : Nat) (g : Hq) : Option (Int32 × Hq) :=
  grd (V k0 = some (3, 0)) <| some ((g.1 k0 6), g)
set_option maxHeartbeats 4000000 in
set_option maxRecDepth 100000 in
theorem c_X3_faultKind {l : Launch} {D : va_G} {cA : Nat → ClassId} {sk : (Nat → Nat) × (Nat → Nat)} {ad : Nat → Nat} {A : Nat → Prop} {V : Vk} {k0 : Nat} {g g0 : Hq} {r0 : Int32} (hr : r_X3_faultKind V k0 g = some (r0, g0)) : Met l yX3_faultKind (wM yX3_faultKind cX3_faultKind 1 (some .int)) { frames := 0, cells := 0, slots := 0, locals := 0 } (Pre D cA sk ad (V, g) A [.ref (ad k0)]) (QI D cA ad A r0 (V, g0)) 0 0 A := by
  refine Met.ofW (cc := cX3_faultKind) (maxL := 1) (ret := (some .int)) (by decide) rfl ?_
  intro p e s m args below meth c s₁ B hml hv
  obtain ⟨rfl, fx, w0⟩ := hv
  have hts := atoms_spec (ws := wM yX3_faultKind cX3_faultKind 1 (some .int)) B.pre
  have cx : CallFix p m c cX3_faultKind 1 s ([.ref (ad k0)] : List Value).toArray gw_tbl RX3 := ⟨B.exec, B.bytes, hml, findClass_of_methodNamed B.named, fun w hw => hts w (List.mem_cons_of_mem _ hw)⟩
  have hlocks := B.notSynchronized
  have hret := B.returns
  have hR : 0 ≤ (headSpec (wM yX3_faultKind cX3_faultKind 1 (some .int)) { frames := 0, cells := 0, slots := 0, locals := 0 }).room.frames ∧ 0 ≤ (headSpec (wM yX3_faultKind cX3_faultKind 1 (some .int)) { frames := 0, cells := 0, slots := 0, locals := 0 }).room.locals := ⟨Nat.le_refl _, Nat.le_refl _⟩
  have dy : Dy D cA ad (V, g) A s.heap s.heap [] := ⟨w0, va_S.rf⟩
  have hl := lv_entry [.ref (ad k0)] (n := 1) (Nat.le_of_ble_eq_true rfl)
  rw [lg_entry_eq]
  generalize (lg_sl [.ref (ad k0)] ++ List.replicate (1 - (lg_sl [.ref (ad k0)]).length) Slot.unset).toArray = ls at hl ⊢
  have hl : lv_has ls 1 [(0, .ref (ad k0))] := hl
  have dy0 : ∃ H0, H0 = s.heap ∧ Dy D cA ad (V, g) A s.heap H0 [] := ⟨_, rfl, dy⟩
  obtain ⟨z, ez⟩ : ∃ z, z = (r0, g0) := ⟨_, rfl⟩
  rw [← ez] at hr
  have hq0 : ∀ (rb : Int32) (gb : Hq), z = (rb, gb) → rb = r0 ∧ gb = g0 := fun rb gb eb => by rw [ez] at eb; exact ⟨(congrArg Prod.fst eb).symm, (congrArg Prod.snd eb).symm⟩
  clear ez w0 dy0
  unfold r_X3_faultKind at hr
  obtain ⟨H, hH⟩ : ∃ H, H = s.heap := ⟨_, rfl⟩
  obtain ⟨locs, hlo⟩ : ∃ q : List Loc, q = [] := ⟨_, rfl⟩
  have dy : Dy D cA ad (V, g) A s.heap H locs := by rw [hH, hlo]; exact dy
  suffices K : W p l e (headSpec (wM yX3_faultKind cX3_faultKind 1 (some .int)) { frames := 0, cells := 0, slots := 0, locals := 0 }).room s m ([.ref (ad k0)] : List Value).toArray below meth c H locs 0 0 (MQ below (QI D cA ad A r0 (V, g0)) ([.ref (ad k0)] : List Value).toArray s 0 0 A) (F0 m 0 ls []) by rw [hH, hlo] at K; exact K
  clear hH hlo
  refine lv_aload_n cx.1 cx.2.1 dX3_faultKind_0 rfl (lv_at hl 0 rfl) ?_
  obtain ⟨hv1, hr⟩ := of_grd hr
  refine h_getI cx fx dy fd_3_6 hv1 tb_181 dX3_faultKind_1 ?_
  obtain ⟨e0, e1⟩ := hq0 _ _ (Option.some.inj hr).symm
  exact h_iret cx dy hlocks hret rfl e0 (by rw [e1]) dX3_faultKind_4
noncomputable def r_X3_faultPlace (V : Vk) (k0 : Nat) (g : Hq) : Option (Int32 × Hq) :=
  grd (V k0 = some (3, 0)) <| some ((g.1 k0 7), g)
set_option maxHeartbeats 4000000 in
set_option maxRecDepth 100000 in
theorem c_X3_faultPlace {l : Launch} {D : va_G} {cA : Nat → ClassId} {sk : (Nat → Nat) × (Nat → Nat)} {ad : Nat → Nat} {A : Nat → Prop} {V : Vk} {k0 : Nat} {g g0 : Hq} {r0 : Int32} (hr : r_X3_faultPlace V k0 g = some (r0, g0)) : Met l yX3_faultPlace (wM yX3_faultPlace cX3_faultPlace 1 (some .int)) { frames := 0, cells := 0, slots := 0, locals := 0 } (Pre D cA sk ad (V, g) A [.ref (ad k0)]) (QI D cA ad A r0 (V, g0)) 0 0 A := by
  refine Met.ofW (cc := cX3_faultPlace) (maxL := 1) (ret := (some .int)) (by decide) rfl ?_
  intro p e s m args below meth c s₁ B hml hv
  obtain ⟨rfl, fx, w0⟩ := hv
  have hts := atoms_spec (ws := wM yX3_faultPlace cX3_faultPlace 1 (some .int)) B.pre
  have cx : CallFix p m c cX3_faultPlace 1 s ([.ref (ad k0)] : List Value).toArray gw_tbl RX3 := ⟨B.exec, B.bytes, hml, findClass_of_methodNamed B.named, fun w hw => hts w (List.mem_cons_of_mem _ hw)⟩
  have hlocks := B.notSynchronized
  have hret := B.returns
  have hR : 0 ≤ (headSpec (wM yX3_faultPlace cX3_faultPlace 1 (some .int)) { frames := 0, cells := 0, slots := 0, locals := 0 }).room.frames ∧ 0 ≤ (headSpec (wM yX3_faultPlace cX3_faultPlace 1 (some .int)) { frames := 0, cells := 0, slots := 0, locals := 0 }).room.locals := ⟨Nat.le_refl _, Nat.le_refl _⟩
  have dy : Dy D cA ad (V, g) A s.heap s.heap [] := ⟨w0, va_S.rf⟩
  have hl := lv_entry [.ref (ad k0)] (n := 1) (Nat.le_of_ble_eq_true rfl)
  rw [lg_entry_eq]
  generalize (lg_sl [.ref (ad k0)] ++ List.replicate (1 - (lg_sl [.ref (ad k0)]).length) Slot.unset).toArray = ls at hl ⊢
  have hl : lv_has ls 1 [(0, .ref (ad k0))] := hl
  have dy0 : ∃ H0, H0 = s.heap ∧ Dy D cA ad (V, g) A s.heap H0 [] := ⟨_, rfl, dy⟩
  obtain ⟨z, ez⟩ : ∃ z, z = (r0, g0) := ⟨_, rfl⟩
  rw [← ez] at hr
  have hq0 : ∀ (rb : Int32) (gb : Hq), z = (rb, gb) → rb = r0 ∧ gb = g0 := fun rb gb eb => by rw [ez] at eb; exact ⟨(congrArg Prod.fst eb).symm, (congrArg Prod.snd eb).symm⟩
  clear ez w0 dy0
  unfold r_X3_faultPlace at hr
  obtain ⟨H, hH⟩ : ∃ H, H = s.heap := ⟨_, rfl⟩
  obtain ⟨locs, hlo⟩ : ∃ q : List Loc, q = [] := ⟨_, rfl⟩
  have dy : Dy D cA ad (V, g) A s.heap H locs := by rw [hH, hlo]; exact dy
  suffices K : W p l e (headSpec (wM yX3_faultPlace cX3_faultPlace 1 (some .int)) { frames := 0, cells := 0, slots := 0, locals := 0 }).room s m ([.ref (ad k0)] : List Value).toArray below meth c H locs 0 0 (MQ below (QI D cA ad A r0 (V, g0)) ([.ref (ad k0)] : List Value).toArray s 0 0 A) (F0 m 0 ls []) by rw [hH, hlo] at K; exact K
  clear hH hlo
  refine lv_aload_n cx.1 cx.2.1 dX3_faultPlace_0 rfl (lv_at hl 0 rfl) ?_
  obtain ⟨hv1, hr⟩ := of_grd hr
  refine h_getI cx fx dy fd_3_7 hv1 tb_182 dX3_faultPlace_1 ?_
  obtain ⟨e0, e1⟩ := hq0 _ _ (Option.some.inj hr).symm
  exact h_iret cx dy hlocks hret rfl e0 (by rw [e1]) dX3_faultPlace_4
noncomputable def r_X3_advance_153' (V : Vk) (k34 : Nat) (g35 : Hq) : Option ((Nat × Hq) ⊕ (Unit × Hq)) :=
  grd (V k34 = some (3, 0)) <| Option.bind (g35.2.2 k34 0) fun k37 => grd (V k37 = some (8, 0)) <| bnd (r_X8_length V k37 g35) fun x40 g39 => brn (x40 ≤ (g35.1 k34 3)) (brn ((4 : Int32) < ((g39.1 k34 3) - (g39.1 k34 2))) (nm (sI g39 k34 1 (4 : Int32)) fun g43 => some (.inr ((), g43))) (nm (sI g39 k34 1 (2 : Int32)) fun g44 => some (.inr ((), g44)))) (Option.bind (g39.2.2 k34 0) fun k45 => grd (V k45 = some (8, 0)) <| bnd (r_X8_at V k45 (g39.1 k34 3) g39) fun x48 g47 => bnd (r_X3_isDigit V x48 g47) fun x52 g51 => brn (x52 = 0) (brn ((4 : Int32) < ((g51.1 k34 3) - (g51.1 k34 2))) (nm (sI g51 k34 1 (4 : Int32)) fun g54 => some (.inr ((), g54))) (nm (sI g51 k34 1 (2 : Int32)) fun g55 => some (.inr ((), g55)))) (Option.bind (g51.2.2 k34 0) fun k56 => grd (V k56 = some (8, 0)) <| bnd (r_X8_at V k56 (g51.1 k34 3) g51) fun x59 g58 => nm (sI g58 k34 4 ((((g51.1 k34 4) * (10 : Int32)) + x59) - (48 : Int32))) fun g62 => nm (sI g62 k34 3 ((g62.1 k34 3) + (1 : Int32))) fun g63 => some (.inl (k34, g63))))
noncomputable def r_X3_advance_153 (V : Vk) (st : (Nat × Hq)) : Option ((Nat × Hq) ⊕ (Unit × Hq)) := r_X3_advance_153' V st.1 st.2
set_option maxHeartbeats 4000000 in
set_option maxRecDepth 100000 in
theorem w_X3_advance_153 {p : Program} {l : Launch} {e : Env} {R : Room} {s : State} {m : MethodId} {args : Array Value} {below : List Frame} {meth : Method} {c : Code} {D : va_G} {cA : Nat → ClassId} {sk : (Nat → Nat) × (Nat → Nat)} {ad : Nat → Nat} {A : Nat → Prop} {V : Vk} (cx : CallFix p m c cX3_advance 2 s args gw_tbl RX3) (fx : Fx D cA sk A s) (hlocks : meth.locks = false) (hret : meth.sig.returnType = none) (hR : 1 ≤ R.frames ∧ 21 ≤ R.locals) (g0 : Hq) (y : (Unit × Hq)) (hq : ∀ (rb : Unit) (gb : Hq), y = (rb, gb) → gb = g0) : ∀ (n : Nat) (k34 : Nat) (g35 : Hq), itr (r_X3_advance_153 V) n (k34, g35) = some y → ∀ (H : Heap) (locs : List Loc) (ls : Array Slot), Dy D cA ad (V, g35) A s.heap H locs → lv_has ls 2 [(0, .ref (ad k34))] → W p l e R s m args below meth c H locs 0 0 (MQ below (QV D cA ad A (V, g0)) args s 0 0 A) (F0 m 153 ls []) := by
  intro n
  induction n with
  | zero => intro k34 g35 hr; cases hr
  | succ n ih =>
    intro k34 g35 hr H locs ls dy hl
    obtain ⟨z, hz, hn1, hn2⟩ := itr_succ hr
    clear hr
    have hr : r_X3_advance_153' V k34 g35 = some z := hz
    clear hz
    unfold r_X3_advance_153' at hr
    have hh0 : ∀ (b0 : Nat) (gb : Hq), z = .inl (b0, gb) → ∀ (H : Heap) (locs : List Loc) (ls : Array Slot), Dy D cA ad (V, gb) A s.heap H locs → lv_has ls 2 [(0, .ref (ad b0))] → W p l e R s m args below meth c H locs 0 0 (MQ below (QV D cA ad A (V, g0)) args s 0 0 A) (F0 m 153 ls []) := fun b0 gb eb => ih b0 gb (hn1 _ eb)
    have hq0 : ∀ (rb : Unit) (gb : Hq), z = (.inr (rb, gb)) → gb = g0 := fun rb gb eb => hq rb gb (hn2 _ eb).symm
    refine lv_aload_n cx.1 cx.2.1 dX3_advance_153 rfl (lv_at hl 0 rfl) ?_
    obtain ⟨hv36, hr⟩ := of_grd hr
    refine h_getI cx fx dy fd_3_3 hv36 tb_178 dX3_advance_154 ?_
    refine lv_aload_n cx.1 cx.2.1 dX3_advance_157 rfl (lv_at hl 0 rfl) ?_
    obtain ⟨k37, hf38, hr⟩ := of_bnd hr
    refine h_getR cx fx dy fd_3_0 hv36 tb_175 hf38 dX3_advance_158 ?_
    obtain ⟨hv41, hr⟩ := of_grd hr
    obtain ⟨x40, g39, hc42, hr⟩ := of_bnd2 hr
    refine r_i dy (k_V (As := []) (b := k37) (ci := 8) cx fx dy (c_X8_length hc42) mv_X8_length rfl rfl ⟨Nat.le_trans (by decide) hR.1, Nat.le_trans (by decide) hR.2⟩ tb_560 hv41 rfl (by decide) rfl hl.1 rfl (Nat.le_of_ble_eq_true rfl) ⟨Nat.zero_le _, Nat.zero_le _⟩ dX3_advance_161) (fun H locs dy => ?_)
    rcases of_brn hr with ⟨hc, hr⟩ | ⟨hc, hr⟩
    · refine lv_icmp_ge (tgt := 223) cx.1 cx.2.1 dX3_advance_164 (by decide) (fun _ => ?_) (fun hn => absurd hc hn)
      refine lv_aload_n cx.1 cx.2.1 dX3_advance_223 rfl (lv_at hl 0 rfl) ?_
      refine lv_aload_n cx.1 cx.2.1 dX3_advance_224 rfl (lv_at hl 0 rfl) ?_
      refine h_getI cx fx dy fd_3_3 hv36 tb_178 dX3_advance_225 ?_
      refine lv_aload_n cx.1 cx.2.1 dX3_advance_228 rfl (lv_at hl 0 rfl) ?_
      refine h_getI cx fx dy fd_3_2 hv36 tb_177 dX3_advance_229 ?_
      refine lv_isub cx.1 cx.2.1 dX3_advance_232 ?_
      refine lv_iconst (v := 4) cx.1 cx.2.1 dX3_advance_233 (by decide) ?_
      rcases of_brn hr with ⟨hc, hr⟩ | ⟨hc, hr⟩
      · refine lv_icmp_gt (tgt := 241) cx.1 cx.2.1 dX3_advance_234 (by decide) (fun _ => ?_) (fun hn => absurd hc hn)
        refine lv_iconst (v := 4) cx.1 cx.2.1 dX3_advance_241 (by decide) ?_
        obtain ⟨g43, eg43, hr⟩ := of_nm hr
        refine h_putI cx fx dy fd_3_1 (pd_3_1 : PD _ _ _ _ _ .int) rfl rfl rfl hv36 tb_176 dX3_advance_242 (fun H locs dy => ?_)
        replace dy : Dy D cA ad (V, g43) A s.heap H locs := by rw [eg43]; exact dy
        refine lv_goto (tgt := 273) cx.1 cx.2.1 dX3_advance_245 (by decide) ?_
        have e1 := hq0 _ _ (Option.some.inj hr).symm
        exact h_vret cx dy hlocks hret (by rw [e1]) dX3_advance_273
      · refine lv_icmp_gt (tgt := 241) cx.1 cx.2.1 dX3_advance_234 (by decide) (fun hn => absurd hn hc) (fun _ => ?_)
        refine lv_iconst (v := 2) cx.1 cx.2.1 dX3_advance_237 (by decide) ?_
        refine lv_goto (tgt := 242) cx.1 cx.2.1 dX3_advance_238 (by decide) ?_
        obtain ⟨g44, eg44, hr⟩ := of_nm hr
        refine h_putI cx fx dy fd_3_1 (pd_3_1 : PD _ _ _ _ _ .int) rfl rfl rfl hv36 tb_176 dX3_advance_242 (fun H locs dy => ?_)
        replace dy : Dy D cA ad (V, g44) A s.heap H locs := by rw [eg44]; exact dy
        refine lv_goto (tgt := 273) cx.1 cx.2.1 dX3_advance_245 (by decide) ?_
        have e1 := hq0 _ _ (Option.some.inj hr).symm
        exact h_vret cx dy hlocks hret (by rw [e1]) dX3_advance_273
    · refine lv_icmp_ge (tgt := 223) cx.1 cx.2.1 dX3_advance_164 (by decide) (fun hn => absurd hn hc) (fun _ => ?_)
      refine lv_aload_n cx.1 cx.2.1 dX3_advance_167 rfl (lv_at hl 0 rfl) ?_
      obtain ⟨k45, hf46, hr⟩ := of_bnd hr
      refine h_getR cx fx dy fd_3_0 hv36 tb_175 hf46 dX3_advance_168 ?_
      refine lv_aload_n cx.1 cx.2.1 dX3_advance_171 rfl (lv_at hl 0 rfl) ?_
      refine h_getI cx fx dy fd_3_3 hv36 tb_178 dX3_advance_172 ?_
      obtain ⟨hv49, hr⟩ := of_grd hr
      obtain ⟨x48, g47, hc50, hr⟩ := of_bnd2 hr
      refine r_i dy (k_V (As := [.int (g39.1 k34 3)]) (b := k45) (ci := 8) cx fx dy (c_X8_at hc50) mv_X8_at rfl rfl ⟨Nat.le_trans (by decide) hR.1, Nat.le_trans (by decide) hR.2⟩ tb_561 hv49 rfl (by decide) rfl hl.1 rfl (Nat.le_of_ble_eq_true rfl) ⟨Nat.zero_le _, Nat.zero_le _⟩ dX3_advance_175) (fun H locs dy => ?_)
      obtain ⟨x52, g51, hc53, hr⟩ := of_bnd2 hr
      refine r_i dy (k_S (As := [.int x48]) cx fx dy (c_X3_isDigit hc53) mv_X3_isDigit rfl rfl ⟨Nat.le_trans (by decide) hR.1, Nat.le_trans (by decide) hR.2⟩ tb_571 rfl hl.1 rfl (Nat.le_of_ble_eq_true rfl) ⟨Nat.zero_le _, Nat.zero_le _⟩ dX3_advance_178) (fun H locs dy => ?_)
      rcases of_brn hr with ⟨hc, hr⟩ | ⟨hc, hr⟩
      · refine lv_if_eq (tgt := 223) cx.1 cx.2.1 dX3_advance_181 (by decide) (fun _ => ?_) (fun hn => absurd hc hn)
        refine lv_aload_n cx.1 cx.2.1 dX3_advance_223 rfl (lv_at hl 0 rfl) ?_
        refine lv_aload_n cx.1 cx.2.1 dX3_advance_224 rfl (lv_at hl 0 rfl) ?_
        refine h_getI cx fx dy fd_3_3 hv36 tb_178 dX3_advance_225 ?_
        refine lv_aload_n cx.1 cx.2.1 dX3_advance_228 rfl (lv_at hl 0 rfl) ?_
        refine h_getI cx fx dy fd_3_2 hv36 tb_177 dX3_advance_229 ?_
        refine lv_isub cx.1 cx.2.1 dX3_advance_232 ?_
        refine lv_iconst (v := 4) cx.1 cx.2.1 dX3_advance_233 (by decide) ?_
        rcases of_brn hr with ⟨hc, hr⟩ | ⟨hc, hr⟩
        · refine lv_icmp_gt (tgt := 241) cx.1 cx.2.1 dX3_advance_234 (by decide) (fun _ => ?_) (fun hn => absurd hc hn)
          refine lv_iconst (v := 4) cx.1 cx.2.1 dX3_advance_241 (by decide) ?_
          obtain ⟨g54, eg54, hr⟩ := of_nm hr
          refine h_putI cx fx dy fd_3_1 (pd_3_1 : PD _ _ _ _ _ .int) rfl rfl rfl hv36 tb_176 dX3_advance_242 (fun H locs dy => ?_)
          replace dy : Dy D cA ad (V, g54) A s.heap H locs := by rw [eg54]; exact dy
          refine lv_goto (tgt := 273) cx.1 cx.2.1 dX3_advance_245 (by decide) ?_
          have e1 := hq0 _ _ (Option.some.inj hr).symm
          exact h_vret cx dy hlocks hret (by rw [e1]) dX3_advance_273
        · refine lv_icmp_gt (tgt := 241) cx.1 cx.2.1 dX3_advance_234 (by decide) (fun hn => absurd hn hc) (fun _ => ?_)
          refine lv_iconst (v := 2) cx.1 cx.2.1 dX3_advance_237 (by decide) ?_
          refine lv_goto (tgt := 242) cx.1 cx.2.1 dX3_advance_238 (by decide) ?_
          obtain ⟨g55, eg55, hr⟩ := of_nm hr
          refine h_putI cx fx dy fd_3_1 (pd_3_1 : PD _ _ _ _ _ .int) rfl rfl rfl hv36 tb_176 dX3_advance_242 (fun H locs dy => ?_)
          replace dy : Dy D cA ad (V, g55) A s.heap H locs := by rw [eg55]; exact dy
          refine lv_goto (tgt := 273) cx.1 cx.2.1 dX3_advance_245 (by decide) ?_
          have e1 := hq0 _ _ (Option.some.inj hr).symm
          exact h_vret cx dy hlocks hret (by rw [e1]) dX3_advance_273
      · refine lv_if_eq (tgt := 223) cx.1 cx.2.1 dX3_advance_181 (by decide) (fun hn => absurd hn hc) (fun _ => ?_)
        refine lv_aload_n cx.1 cx.2.1 dX3_advance_184 rfl (lv_at hl 0 rfl) ?_
        refine lv_aload_n cx.1 cx.2.1 dX3_advance_185 rfl (lv_at hl 0 rfl) ?_
        refine h_getI cx fx dy fd_3_4 hv36 tb_179 dX3_advance_186 ?_
        refine lv_bipush (v := 10) cx.1 cx.2.1 dX3_advance_189 (by decide) ?_
        refine lv_imul cx.1 cx.2.1 dX3_advance_191 ?_
        refine lv_aload_n cx.1 cx.2.1 dX3_advance_192 rfl (lv_at hl 0 rfl) ?_
        obtain ⟨k56, hf57, hr⟩ := of_bnd hr
        refine h_getR cx fx dy fd_3_0 hv36 tb_175 hf57 dX3_advance_193 ?_
        refine lv_aload_n cx.1 cx.2.1 dX3_advance_196 rfl (lv_at hl 0 rfl) ?_
        refine h_getI cx fx dy fd_3_3 hv36 tb_178 dX3_advance_197 ?_
        obtain ⟨hv60, hr⟩ := of_grd hr
        obtain ⟨x59, g58, hc61, hr⟩ := of_bnd2 hr
        refine r_i dy (k_V (As := [.int (g51.1 k34 3)]) (b := k56) (ci := 8) cx fx dy (c_X8_at hc61) mv_X8_at rfl rfl ⟨Nat.le_trans (by decide) hR.1, Nat.le_trans (by decide) hR.2⟩ tb_561 hv60 rfl (by decide) rfl hl.1 rfl (Nat.le_of_ble_eq_true rfl) ⟨Nat.zero_le _, Nat.zero_le _⟩ dX3_advance_200) (fun H locs dy => ?_)
        refine lv_iadd cx.1 cx.2.1 dX3_advance_203 ?_
        refine lv_bipush (v := 48) cx.1 cx.2.1 dX3_advance_204 (by decide) ?_
        refine lv_isub cx.1 cx.2.1 dX3_advance_206 ?_
        obtain ⟨g62, eg62, hr⟩ := of_nm hr
        refine h_putI cx fx dy fd_3_4 (pd_3_4 : PD _ _ _ _ _ .int) rfl rfl rfl hv36 tb_179 dX3_advance_207 (fun H locs dy => ?_)
        replace dy : Dy D cA ad (V, g62) A s.heap H locs := by rw [eg62]; exact dy
        refine lv_aload_n cx.1 cx.2.1 dX3_advance_210 rfl (lv_at hl 0 rfl) ?_
        refine lv_dup cx.1 cx.2.1 dX3_advance_211 rfl ?_
        refine h_getI cx fx dy fd_3_3 hv36 tb_178 dX3_advance_212 ?_
        refine lv_iconst (v := 1) cx.1 cx.2.1 dX3_advance_215 (by decide) ?_
        refine lv_iadd cx.1 cx.2.1 dX3_advance_216 ?_
        obtain ⟨g63, eg63, hr⟩ := of_nm hr
        refine h_putI cx fx dy fd_3_3 (pd_3_3 : PD _ _ _ _ _ .int) rfl rfl rfl hv36 tb_178 dX3_advance_217 (fun H locs dy => ?_)
        replace dy : Dy D cA ad (V, g63) A s.heap H locs := by rw [eg63]; exact dy
        refine lv_goto (tgt := 153) cx.1 cx.2.1 dX3_advance_220 (by decide) ?_
        exact hh0 k34 g63 (Option.some.inj hr).symm H locs ls dy (lv_sub hl [0] rfl)
noncomputable def r_X3_advance_102' (V : Vk) (k65 : Nat) (g66 : Hq) : Option ((Nat × Hq) ⊕ (Unit × Hq)) :=
  grd (V k65 = some (3, 0)) <| Option.bind (g66.2.2 k65 0) fun k68 => grd (V k68 = some (8, 0)) <| bnd (r_X8_length V k68 g66) fun x71 g70 => brn (x71 ≤ (g66.1 k65 3)) (some (.inr ((), g70))) (Option.bind (g70.2.2 k65 0) fun k74 => grd (V k74 = some (8, 0)) <| bnd (r_X8_at V k74 (g70.1 k65 3) g70) fun x77 g76 => bnd (r_X3_isLetter V x77 g76) fun x81 g80 => brn (x81 = 0) (some (.inr ((), g80))) (nm (sI g80 k65 3 ((g80.1 k65 3) + (1 : Int32))) fun g83 => some (.inl (k65, g83))))
noncomputable def r_X3_advance_102 (V : Vk) (st : (Nat × Hq)) : Option ((Nat × Hq) ⊕ (Unit × Hq)) := r_X3_advance_102' V st.1 st.2
set_option maxHeartbeats 4000000 in
set_option maxRecDepth 100000 in
theorem w_X3_advance_102 {p : Program} {l : Launch} {e : Env} {R : Room} {s : State} {m : MethodId} {args : Array Value} {below : List Frame} {meth : Method} {c : Code} {D : va_G} {cA : Nat → ClassId} {sk : (Nat → Nat) × (Nat → Nat)} {ad : Nat → Nat} {A : Nat → Prop} {V : Vk} (cx : CallFix p m c cX3_advance 2 s args gw_tbl RX3) (fx : Fx D cA sk A s) (hlocks : meth.locks = false) (hret : meth.sig.returnType = none) (hR : 1 ≤ R.frames ∧ 21 ≤ R.locals) (g0 : Hq) (y : (Unit × Hq)) (hq : ∀ (rb : Unit) (gb : Hq), y = (rb, gb) → gb = g0) : ∀ (n : Nat) (k65 : Nat) (g66 : Hq), itr (r_X3_advance_102 V) n (k65, g66) = some y → ∀ (H : Heap) (locs : List Loc) (ls : Array Slot), Dy D cA ad (V, g66) A s.heap H locs → lv_has ls 2 [(0, .ref (ad k65))] → W p l e R s m args below meth c H locs 0 0 (MQ below (QV D cA ad A (V, g0)) args s 0 0 A) (F0 m 102 ls []) := by
  intro n
  induction n with
  | zero => intro k65 g66 hr; cases hr
  | succ n ih =>
    intro k65 g66 hr H locs ls dy hl
    obtain ⟨z, hz, hn1, hn2⟩ := itr_succ hr
    clear hr
    have hr : r_X3_advance_102' V k65 g66 = some z := hz
    clear hz
    unfold r_X3_advance_102' at hr
    have hh0 : ∀ (b0 : Nat) (gb : Hq), z = .inl (b0, gb) → ∀ (H : Heap) (locs : List Loc) (ls : Array Slot), Dy D cA ad (V, gb) A s.heap H locs → lv_has ls 2 [(0, .ref (ad b0))] → W p l e R s m args below meth c H locs 0 0 (MQ below (QV D cA ad A (V, g0)) args s 0 0 A) (F0 m 102 ls []) := fun b0 gb eb => ih b0 gb (hn1 _ eb)
    have hq0 : ∀ (rb : Unit) (gb : Hq), z = (.inr (rb, gb)) → gb = g0 := fun rb gb eb => hq rb gb (hn2 _ eb).symm
    refine lv_aload_n cx.1 cx.2.1 dX3_advance_102 rfl (lv_at hl 0 rfl) ?_
    obtain ⟨hv67, hr⟩ := of_grd hr
    refine h_getI cx fx dy fd_3_3 hv67 tb_178 dX3_advance_103 ?_
    refine lv_aload_n cx.1 cx.2.1 dX3_advance_106 rfl (lv_at hl 0 rfl) ?_
    obtain ⟨k68, hf69, hr⟩ := of_bnd hr
    refine h_getR cx fx dy fd_3_0 hv67 tb_175 hf69 dX3_advance_107 ?_
    obtain ⟨hv72, hr⟩ := of_grd hr
    obtain ⟨x71, g70, hc73, hr⟩ := of_bnd2 hr
    refine r_i dy (k_V (As := []) (b := k68) (ci := 8) cx fx dy (c_X8_length hc73) mv_X8_length rfl rfl ⟨Nat.le_trans (by decide) hR.1, Nat.le_trans (by decide) hR.2⟩ tb_560 hv72 rfl (by decide) rfl hl.1 rfl (Nat.le_of_ble_eq_true rfl) ⟨Nat.zero_le _, Nat.zero_le _⟩ dX3_advance_110) (fun H locs dy => ?_)
    rcases of_brn hr with ⟨hc, hr⟩ | ⟨hc, hr⟩
    · refine lv_icmp_ge (tgt := 273) cx.1 cx.2.1 dX3_advance_113 (by decide) (fun _ => ?_) (fun hn => absurd hc hn)
      have e1 := hq0 _ _ (Option.some.inj hr).symm
      exact h_vret cx dy hlocks hret (by rw [e1]) dX3_advance_273
    · refine lv_icmp_ge (tgt := 273) cx.1 cx.2.1 dX3_advance_113 (by decide) (fun hn => absurd hn hc) (fun _ => ?_)
      refine lv_aload_n cx.1 cx.2.1 dX3_advance_116 rfl (lv_at hl 0 rfl) ?_
      obtain ⟨k74, hf75, hr⟩ := of_bnd hr
      refine h_getR cx fx dy fd_3_0 hv67 tb_175 hf75 dX3_advance_117 ?_
      refine lv_aload_n cx.1 cx.2.1 dX3_advance_120 rfl (lv_at hl 0 rfl) ?_
      refine h_getI cx fx dy fd_3_3 hv67 tb_178 dX3_advance_121 ?_
      obtain ⟨hv78, hr⟩ := of_grd hr
      obtain ⟨x77, g76, hc79, hr⟩ := of_bnd2 hr
      refine r_i dy (k_V (As := [.int (g70.1 k65 3)]) (b := k74) (ci := 8) cx fx dy (c_X8_at hc79) mv_X8_at rfl rfl ⟨Nat.le_trans (by decide) hR.1, Nat.le_trans (by decide) hR.2⟩ tb_561 hv78 rfl (by decide) rfl hl.1 rfl (Nat.le_of_ble_eq_true rfl) ⟨Nat.zero_le _, Nat.zero_le _⟩ dX3_advance_124) (fun H locs dy => ?_)
      obtain ⟨x81, g80, hc82, hr⟩ := of_bnd2 hr
      refine r_i dy (k_S (As := [.int x77]) cx fx dy (c_X3_isLetter hc82) mv_X3_isLetter rfl rfl ⟨Nat.le_trans (by decide) hR.1, Nat.le_trans (by decide) hR.2⟩ tb_568 rfl hl.1 rfl (Nat.le_of_ble_eq_true rfl) ⟨Nat.zero_le _, Nat.zero_le _⟩ dX3_advance_127) (fun H locs dy => ?_)
      rcases of_brn hr with ⟨hc, hr⟩ | ⟨hc, hr⟩
      · refine lv_if_eq (tgt := 273) cx.1 cx.2.1 dX3_advance_130 (by decide) (fun _ => ?_) (fun hn => absurd hc hn)
        have e1 := hq0 _ _ (Option.some.inj hr).symm
        exact h_vret cx dy hlocks hret (by rw [e1]) dX3_advance_273
      · refine lv_if_eq (tgt := 273) cx.1 cx.2.1 dX3_advance_130 (by decide) (fun hn => absurd hn hc) (fun _ => ?_)
        refine lv_aload_n cx.1 cx.2.1 dX3_advance_133 rfl (lv_at hl 0 rfl) ?_
        refine lv_dup cx.1 cx.2.1 dX3_advance_134 rfl ?_
        refine h_getI cx fx dy fd_3_3 hv67 tb_178 dX3_advance_135 ?_
        refine lv_iconst (v := 1) cx.1 cx.2.1 dX3_advance_138 (by decide) ?_
        refine lv_iadd cx.1 cx.2.1 dX3_advance_139 ?_
        obtain ⟨g83, eg83, hr⟩ := of_nm hr
        refine h_putI cx fx dy fd_3_3 (pd_3_3 : PD _ _ _ _ _ .int) rfl rfl rfl hv67 tb_178 dX3_advance_140 (fun H locs dy => ?_)
        replace dy : Dy D cA ad (V, g83) A s.heap H locs := by rw [eg83]; exact dy
        refine lv_goto (tgt := 102) cx.1 cx.2.1 dX3_advance_143 (by decide) ?_
        exact hh0 k65 g83 (Option.some.inj hr).symm H locs ls dy (lv_sub hl [0] rfl)
noncomputable def r_X3_advance_52 (V : Vk) (k12 : Nat) (g13 : Hq) : Option (Unit × Hq) :=
  grd (V k12 = some (3, 0)) <| nm (sI g13 k12 3 (g13.1 k12 2)) fun g15 => nm (sI g15 k12 4 (0 : Int32)) fun g16 => Option.bind (g16.2.2 k12 0) fun k17 => grd (V k17 = some (8, 0)) <| bnd (r_X8_at V k17 (g16.1 k12 2) g16) fun x20 g19 => brn (x20 = (-1 : Int32)) (nm (sI g19 k12 1 (0 : Int32)) fun g23 => some ((), g23)) (bnd (r_X3_isLetter V x20 g19) fun x25 g24 => brn (x25 = 0) (bnd (r_X3_isDigit V x20 g24) fun x28 g27 => brn (x28 = 0) (brn (x20 = (59 : Int32)) (nm (sI g27 k12 1 (3 : Int32)) fun g30 => nm (sI g30 k12 3 ((g30.1 k12 3) + (1 : Int32))) fun g31 => some ((), g31)) (nm (sI g27 k12 1 (4 : Int32)) fun g32 => nm (sI g32 k12 3 ((g32.1 k12 3) + (1 : Int32))) fun g33 => some ((), g33))) ((lop (r_X3_advance_153 V) (k12, g27)))) (nm (sI g24 k12 1 (1 : Int32)) fun g64 => (lop (r_X3_advance_102 V) (k12, g64))))
set_option maxHeartbeats 4000000 in
set_option maxRecDepth 100000 in
theorem w_X3_advance_52 {p : Program} {l : Launch} {e : Env} {R : Room} {s : State} {m : MethodId} {args : Array Value} {below : List Frame} {meth : Method} {c : Code} {D : va_G} {cA : Nat → ClassId} {sk : (Nat → Nat) × (Nat → Nat)} {ad : Nat → Nat} {A : Nat → Prop} {V : Vk} (cx : CallFix p m c cX3_advance 2 s args gw_tbl RX3) (fx : Fx D cA sk A s) (hlocks : meth.locks = false) (hret : meth.sig.returnType = none) (hR : 1 ≤ R.frames ∧ 21 ≤ R.locals) (g0 : Hq) (z : (Unit × Hq)) (hq : ∀ (rb : Unit) (gb : Hq), z = (rb, gb) → gb = g0) (k12 : Nat) (g13 : Hq) (hr : r_X3_advance_52 V k12 g13 = some z) (H : Heap) (locs : List Loc) (ls : Array Slot) (dy : Dy D cA ad (V, g13) A s.heap H locs) (hl : lv_has ls 2 [(0, .ref (ad k12))]) : W p l e R s m args below meth c H locs 0 0 (MQ below (QV D cA ad A (V, g0)) args s 0 0 A) (F0 m 52 ls []) := by
  unfold r_X3_advance_52 at hr
  have hq0 := hq
  refine lv_aload_n cx.1 cx.2.1 dX3_advance_52 rfl (lv_at hl 0 rfl) ?_
  refine lv_aload_n cx.1 cx.2.1 dX3_advance_53 rfl (lv_at hl 0 rfl) ?_
  obtain ⟨hv14, hr⟩ := of_grd hr
  refine h_getI cx fx dy fd_3_2 hv14 tb_177 dX3_advance_54 ?_
  obtain ⟨g15, eg15, hr⟩ := of_nm hr
  refine h_putI cx fx dy fd_3_3 (pd_3_3 : PD _ _ _ _ _ .int) rfl rfl rfl hv14 tb_178 dX3_advance_57 (fun H locs dy => ?_)
  replace dy : Dy D cA ad (V, g15) A s.heap H locs := by rw [eg15]; exact dy
  refine lv_aload_n cx.1 cx.2.1 dX3_advance_60 rfl (lv_at hl 0 rfl) ?_
  refine lv_iconst (v := 0) cx.1 cx.2.1 dX3_advance_61 (by decide) ?_
  obtain ⟨g16, eg16, hr⟩ := of_nm hr
  refine h_putI cx fx dy fd_3_4 (pd_3_4 : PD _ _ _ _ _ .int) rfl rfl rfl hv14 tb_179 dX3_advance_62 (fun H locs dy => ?_)
  replace dy : Dy D cA ad (V, g16) A s.heap H locs := by rw [eg16]; exact dy
  refine lv_aload_n cx.1 cx.2.1 dX3_advance_65 rfl (lv_at hl 0 rfl) ?_
  obtain ⟨k17, hf18, hr⟩ := of_bnd hr
  refine h_getR cx fx dy fd_3_0 hv14 tb_175 hf18 dX3_advance_66 ?_
  refine lv_aload_n cx.1 cx.2.1 dX3_advance_69 rfl (lv_at hl 0 rfl) ?_
  refine h_getI cx fx dy fd_3_2 hv14 tb_177 dX3_advance_70 ?_
  obtain ⟨hv21, hr⟩ := of_grd hr
  obtain ⟨x20, g19, hc22, hr⟩ := of_bnd2 hr
  refine r_i dy (k_V (As := [.int (g16.1 k12 2)]) (b := k17) (ci := 8) cx fx dy (c_X8_at hc22) mv_X8_at rfl rfl ⟨Nat.le_trans (by decide) hR.1, Nat.le_trans (by decide) hR.2⟩ tb_561 hv21 rfl (by decide) rfl hl.1 rfl (Nat.le_of_ble_eq_true rfl) ⟨Nat.zero_le _, Nat.zero_le _⟩ dX3_advance_73) (fun H locs dy => ?_)
  refine lv_istore_n (lv' := [(1, .int x20), (0, .ref (ad k12))]) cx.1 cx.2.1 dX3_advance_76 rfl hl (by decide) rfl (fun ls hl => ?_)
  refine lv_iload_n cx.1 cx.2.1 dX3_advance_77 rfl (lv_at hl 0 rfl) ?_
  refine lv_iconst (v := (-1)) cx.1 cx.2.1 dX3_advance_78 (by decide) ?_
  rcases of_brn hr with ⟨hc, hr⟩ | ⟨hc, hr⟩
  · refine lv_icmp_ne (tgt := 90) cx.1 cx.2.1 dX3_advance_79 (by decide) (fun hn => absurd hc hn) (fun _ => ?_)
    refine lv_aload_n cx.1 cx.2.1 dX3_advance_82 rfl (lv_at hl 1 rfl) ?_
    refine lv_iconst (v := 0) cx.1 cx.2.1 dX3_advance_83 (by decide) ?_
    obtain ⟨g23, eg23, hr⟩ := of_nm hr
    refine h_putI cx fx dy fd_3_1 (pd_3_1 : PD _ _ _ _ _ .int) rfl rfl rfl hv14 tb_176 dX3_advance_84 (fun H locs dy => ?_)
    replace dy : Dy D cA ad (V, g23) A s.heap H locs := by rw [eg23]; exact dy
    refine lv_goto (tgt := 273) cx.1 cx.2.1 dX3_advance_87 (by decide) ?_
    have e1 := hq0 _ _ (Option.some.inj hr).symm
    exact h_vret cx dy hlocks hret (by rw [e1]) dX3_advance_273
  · refine lv_icmp_ne (tgt := 90) cx.1 cx.2.1 dX3_advance_79 (by decide) (fun _ => ?_) (fun hn => absurd hn hc)
    refine lv_iload_n cx.1 cx.2.1 dX3_advance_90 rfl (lv_at hl 0 rfl) ?_
    obtain ⟨x25, g24, hc26, hr⟩ := of_bnd2 hr
    refine r_i dy (k_S (As := [.int x20]) cx fx dy (c_X3_isLetter hc26) mv_X3_isLetter rfl rfl ⟨Nat.le_trans (by decide) hR.1, Nat.le_trans (by decide) hR.2⟩ tb_568 rfl hl.1 rfl (Nat.le_of_ble_eq_true rfl) ⟨Nat.zero_le _, Nat.zero_le _⟩ dX3_advance_91) (fun H locs dy => ?_)
    rcases of_brn hr with ⟨hc, hr⟩ | ⟨hc, hr⟩
    · refine lv_if_eq (tgt := 146) cx.1 cx.2.1 dX3_advance_94 (by decide) (fun _ => ?_) (fun hn => absurd hc hn)
      refine lv_iload_n cx.1 cx.2.1 dX3_advance_146 rfl (lv_at hl 0 rfl) ?_
      obtain ⟨x28, g27, hc29, hr⟩ := of_bnd2 hr
      refine r_i dy (k_S (As := [.int x20]) cx fx dy (c_X3_isDigit hc29) mv_X3_isDigit rfl rfl ⟨Nat.le_trans (by decide) hR.1, Nat.le_trans (by decide) hR.2⟩ tb_571 rfl hl.1 rfl (Nat.le_of_ble_eq_true rfl) ⟨Nat.zero_le _, Nat.zero_le _⟩ dX3_advance_147) (fun H locs dy => ?_)
      rcases of_brn hr with ⟨hc, hr⟩ | ⟨hc, hr⟩
      · refine lv_if_eq (tgt := 248) cx.1 cx.2.1 dX3_advance_150 (by decide) (fun _ => ?_) (fun hn => absurd hc hn)
        refine lv_aload_n cx.1 cx.2.1 dX3_advance_248 rfl (lv_at hl 1 rfl) ?_
        refine lv_iload_n cx.1 cx.2.1 dX3_advance_249 rfl (lv_at hl 0 rfl) ?_
        refine lv_bipush (v := 59) cx.1 cx.2.1 dX3_advance_250 (by decide) ?_
        rcases of_brn hr with ⟨hc, hr⟩ | ⟨hc, hr⟩
        · refine lv_icmp_ne (tgt := 259) cx.1 cx.2.1 dX3_advance_252 (by decide) (fun hn => absurd hc hn) (fun _ => ?_)
          refine lv_iconst (v := 3) cx.1 cx.2.1 dX3_advance_255 (by decide) ?_
          refine lv_goto (tgt := 260) cx.1 cx.2.1 dX3_advance_256 (by decide) ?_
          obtain ⟨g30, eg30, hr⟩ := of_nm hr
          refine h_putI cx fx dy fd_3_1 (pd_3_1 : PD _ _ _ _ _ .int) rfl rfl rfl hv14 tb_176 dX3_advance_260 (fun H locs dy => ?_)
          replace dy : Dy D cA ad (V, g30) A s.heap H locs := by rw [eg30]; exact dy
          refine lv_aload_n cx.1 cx.2.1 dX3_advance_263 rfl (lv_at hl 1 rfl) ?_
          refine lv_dup cx.1 cx.2.1 dX3_advance_264 rfl ?_
          refine h_getI cx fx dy fd_3_3 hv14 tb_178 dX3_advance_265 ?_
          refine lv_iconst (v := 1) cx.1 cx.2.1 dX3_advance_268 (by decide) ?_
          refine lv_iadd cx.1 cx.2.1 dX3_advance_269 ?_
          obtain ⟨g31, eg31, hr⟩ := of_nm hr
          refine h_putI cx fx dy fd_3_3 (pd_3_3 : PD _ _ _ _ _ .int) rfl rfl rfl hv14 tb_178 dX3_advance_270 (fun H locs dy => ?_)
          replace dy : Dy D cA ad (V, g31) A s.heap H locs := by rw [eg31]; exact dy
          have e1 := hq0 _ _ (Option.some.inj hr).symm
          exact h_vret cx dy hlocks hret (by rw [e1]) dX3_advance_273
        · refine lv_icmp_ne (tgt := 259) cx.1 cx.2.1 dX3_advance_252 (by decide) (fun _ => ?_) (fun hn => absurd hn hc)
          refine lv_iconst (v := 4) cx.1 cx.2.1 dX3_advance_259 (by decide) ?_
          obtain ⟨g32, eg32, hr⟩ := of_nm hr
          refine h_putI cx fx dy fd_3_1 (pd_3_1 : PD _ _ _ _ _ .int) rfl rfl rfl hv14 tb_176 dX3_advance_260 (fun H locs dy => ?_)
          replace dy : Dy D cA ad (V, g32) A s.heap H locs := by rw [eg32]; exact dy
          refine lv_aload_n cx.1 cx.2.1 dX3_advance_263 rfl (lv_at hl 1 rfl) ?_
          refine lv_dup cx.1 cx.2.1 dX3_advance_264 rfl ?_
          refine h_getI cx fx dy fd_3_3 hv14 tb_178 dX3_advance_265 ?_
          refine lv_iconst (v := 1) cx.1 cx.2.1 dX3_advance_268 (by decide) ?_
          refine lv_iadd cx.1 cx.2.1 dX3_advance_269 ?_
          obtain ⟨g33, eg33, hr⟩ := of_nm hr
          refine h_putI cx fx dy fd_3_3 (pd_3_3 : PD _ _ _ _ _ .int) rfl rfl rfl hv14 tb_178 dX3_advance_270 (fun H locs dy => ?_)
          replace dy : Dy D cA ad (V, g33) A s.heap H locs := by rw [eg33]; exact dy
          have e1 := hq0 _ _ (Option.some.inj hr).symm
          exact h_vret cx dy hlocks hret (by rw [e1]) dX3_advance_273
      · refine lv_if_eq (tgt := 248) cx.1 cx.2.1 dX3_advance_150 (by decide) (fun hn => absurd hn hc) (fun _ => ?_)
        obtain ⟨n, hr⟩ := lop_some hr
        exact w_X3_advance_153 cx fx hlocks hret hR g0 z hq0 n k12 g27 hr H locs ls dy (lv_sub hl [1] rfl)
    · refine lv_if_eq (tgt := 146) cx.1 cx.2.1 dX3_advance_94 (by decide) (fun hn => absurd hn hc) (fun _ => ?_)
      refine lv_aload_n cx.1 cx.2.1 dX3_advance_97 rfl (lv_at hl 1 rfl) ?_
      refine lv_iconst (v := 1) cx.1 cx.2.1 dX3_advance_98 (by decide) ?_
      obtain ⟨g64, eg64, hr⟩ := of_nm hr
      refine h_putI cx fx dy fd_3_1 (pd_3_1 : PD _ _ _ _ _ .int) rfl rfl rfl hv14 tb_176 dX3_advance_99 (fun H locs dy => ?_)
      replace dy : Dy D cA ad (V, g64) A s.heap H locs := by rw [eg64]; exact dy
      obtain ⟨n, hr⟩ := lop_some hr
      exact w_X3_advance_102 cx fx hlocks hret hR g0 z hq0 n k12 g64 hr H locs ls dy (lv_sub hl [1] rfl)
noncomputable def r_X3_advance_8' (V : Vk) (k3 : Nat) (g4 : Hq) : Option ((Nat × Hq) ⊕ (Unit × Hq)) :=
  grd (V k3 = some (3, 0)) <| Option.bind (g4.2.2 k3 0) fun k6 => grd (V k6 = some (8, 0)) <| bnd (r_X8_length V k6 g4) fun x9 g8 => brn (x9 ≤ (g4.1 k3 2)) ((Option.map Sum.inr (r_X3_advance_52 V k3 g8))) (Option.bind (g8.2.2 k3 0) fun k84 => grd (V k84 = some (8, 0)) <| bnd (r_X8_at V k84 (g8.1 k3 2) g8) fun x87 g86 => bnd (r_X3_isBlank V x87 g86) fun x91 g90 => brn (x91 = 0) ((Option.map Sum.inr (r_X3_advance_52 V k3 g90))) (nm (sI g90 k3 2 ((g90.1 k3 2) + (1 : Int32))) fun g93 => some (.inl (k3, g93))))
noncomputable def r_X3_advance_8 (V : Vk) (st : (Nat × Hq)) : Option ((Nat × Hq) ⊕ (Unit × Hq)) := r_X3_advance_8' V st.1 st.2
set_option maxHeartbeats 4000000 in
set_option maxRecDepth 100000 in
theorem w_X3_advance_8 {p : Program} {l : Launch} {e : Env} {R : Room} {s : State} {m : MethodId} {args : Array Value} {below : List Frame} {meth : Method} {c : Code} {D : va_G} {cA : Nat → ClassId} {sk : (Nat → Nat) × (Nat → Nat)} {ad : Nat → Nat} {A : Nat → Prop} {V : Vk} (cx : CallFix p m c cX3_advance 2 s args gw_tbl RX3) (fx : Fx D cA sk A s) (hlocks : meth.locks = false) (hret : meth.sig.returnType = none) (hR : 1 ≤ R.frames ∧ 21 ≤ R.locals) (g0 : Hq) (y : (Unit × Hq)) (hq : ∀ (rb : Unit) (gb : Hq), y = (rb, gb) → gb = g0) : ∀ (n : Nat) (k3 : Nat) (g4 : Hq), itr (r_X3_advance_8 V) n (k3, g4) = some y → ∀ (H : Heap) (locs : List Loc) (ls : Array Slot), Dy D cA ad (V, g4) A s.heap H locs → lv_has ls 2 [(0, .ref (ad k3))] → W p l e R s m args below meth c H locs 0 0 (MQ below (QV D cA ad A (V, g0)) args s 0 0 A) (F0 m 8 ls []) := by
  intro n
  induction n with
  | zero => intro k3 g4 hr; cases hr
  | succ n ih =>
    intro k3 g4 hr H locs ls dy hl
    obtain ⟨z, hz, hn1, hn2⟩ := itr_succ hr
    clear hr
    have hr : r_X3_advance_8' V k3 g4 = some z := hz
    clear hz
    unfold r_X3_advance_8' at hr
    have hh0 : ∀ (b0 : Nat) (gb : Hq), z = .inl (b0, gb) → ∀ (H : Heap) (locs : List Loc) (ls : Array Slot), Dy D cA ad (V, gb) A s.heap H locs → lv_has ls 2 [(0, .ref (ad b0))] → W p l e R s m args below meth c H locs 0 0 (MQ below (QV D cA ad A (V, g0)) args s 0 0 A) (F0 m 8 ls []) := fun b0 gb eb => ih b0 gb (hn1 _ eb)
    have hq0 : ∀ (rb : Unit) (gb : Hq), z = (.inr (rb, gb)) → gb = g0 := fun rb gb eb => hq rb gb (hn2 _ eb).symm
    refine lv_aload_n cx.1 cx.2.1 dX3_advance_8 rfl (lv_at hl 0 rfl) ?_
    obtain ⟨hv5, hr⟩ := of_grd hr
    refine h_getI cx fx dy fd_3_2 hv5 tb_177 dX3_advance_9 ?_
    refine lv_aload_n cx.1 cx.2.1 dX3_advance_12 rfl (lv_at hl 0 rfl) ?_
    obtain ⟨k6, hf7, hr⟩ := of_bnd hr
    refine h_getR cx fx dy fd_3_0 hv5 tb_175 hf7 dX3_advance_13 ?_
    obtain ⟨hv10, hr⟩ := of_grd hr
    obtain ⟨x9, g8, hc11, hr⟩ := of_bnd2 hr
    refine r_i dy (k_V (As := []) (b := k6) (ci := 8) cx fx dy (c_X8_length hc11) mv_X8_length rfl rfl ⟨Nat.le_trans (by decide) hR.1, Nat.le_trans (by decide) hR.2⟩ tb_560 hv10 rfl (by decide) rfl hl.1 rfl (Nat.le_of_ble_eq_true rfl) ⟨Nat.zero_le _, Nat.zero_le _⟩ dX3_advance_16) (fun H locs dy => ?_)
    rcases of_brn hr with ⟨hc, hr⟩ | ⟨hc, hr⟩
    · refine lv_icmp_ge (tgt := 52) cx.1 cx.2.1 dX3_advance_19 (by decide) (fun _ => ?_) (fun hn => absurd hc hn)
      obtain ⟨z1, hr, ez1⟩ := of_map hr
      exact w_X3_advance_52 cx fx hlocks hret hR g0 z1 (fun rb gb eb => hq0 rb gb (by rw [ez1, eb])) k3 g8 hr H locs ls dy (lv_sub hl [0] rfl)
    · refine lv_icmp_ge (tgt := 52) cx.1 cx.2.1 dX3_advance_19 (by decide) (fun hn => absurd hn hc) (fun _ => ?_)
      refine lv_aload_n cx.1 cx.2.1 dX3_advance_22 rfl (lv_at hl 0 rfl) ?_
      obtain ⟨k84, hf85, hr⟩ := of_bnd hr
      refine h_getR cx fx dy fd_3_0 hv5 tb_175 hf85 dX3_advance_23 ?_
      refine lv_aload_n cx.1 cx.2.1 dX3_advance_26 rfl (lv_at hl 0 rfl) ?_
      refine h_getI cx fx dy fd_3_2 hv5 tb_177 dX3_advance_27 ?_
      obtain ⟨hv88, hr⟩ := of_grd hr
      obtain ⟨x87, g86, hc89, hr⟩ := of_bnd2 hr
      refine r_i dy (k_V (As := [.int (g8.1 k3 2)]) (b := k84) (ci := 8) cx fx dy (c_X8_at hc89) mv_X8_at rfl rfl ⟨Nat.le_trans (by decide) hR.1, Nat.le_trans (by decide) hR.2⟩ tb_561 hv88 rfl (by decide) rfl hl.1 rfl (Nat.le_of_ble_eq_true rfl) ⟨Nat.zero_le _, Nat.zero_le _⟩ dX3_advance_30) (fun H locs dy => ?_)
      obtain ⟨x91, g90, hc92, hr⟩ := of_bnd2 hr
      refine r_i dy (k_S (As := [.int x87]) cx fx dy (c_X3_isBlank hc92) mv_X3_isBlank rfl rfl ⟨Nat.le_trans (by decide) hR.1, Nat.le_trans (by decide) hR.2⟩ tb_565 rfl hl.1 rfl (Nat.le_of_ble_eq_true rfl) ⟨Nat.zero_le _, Nat.zero_le _⟩ dX3_advance_33) (fun H locs dy => ?_)
      rcases of_brn hr with ⟨hc, hr⟩ | ⟨hc, hr⟩
      · refine lv_if_eq (tgt := 52) cx.1 cx.2.1 dX3_advance_36 (by decide) (fun _ => ?_) (fun hn => absurd hc hn)
        obtain ⟨z1, hr, ez1⟩ := of_map hr
        exact w_X3_advance_52 cx fx hlocks hret hR g0 z1 (fun rb gb eb => hq0 rb gb (by rw [ez1, eb])) k3 g90 hr H locs ls dy (lv_sub hl [0] rfl)
      · refine lv_if_eq (tgt := 52) cx.1 cx.2.1 dX3_advance_36 (by decide) (fun hn => absurd hn hc) (fun _ => ?_)
        refine lv_aload_n cx.1 cx.2.1 dX3_advance_39 rfl (lv_at hl 0 rfl) ?_
        refine lv_dup cx.1 cx.2.1 dX3_advance_40 rfl ?_
        refine h_getI cx fx dy fd_3_2 hv5 tb_177 dX3_advance_41 ?_
        refine lv_iconst (v := 1) cx.1 cx.2.1 dX3_advance_44 (by decide) ?_
        refine lv_iadd cx.1 cx.2.1 dX3_advance_45 ?_
        obtain ⟨g93, eg93, hr⟩ := of_nm hr
        refine h_putI cx fx dy fd_3_2 (pd_3_2 : PD _ _ _ _ _ .int) rfl rfl rfl hv5 tb_177 dX3_advance_46 (fun H locs dy => ?_)
        replace dy : Dy D cA ad (V, g93) A s.heap H locs := by rw [eg93]; exact dy
        refine lv_goto (tgt := 8) cx.1 cx.2.1 dX3_advance_49 (by decide) ?_
        exact hh0 k3 g93 (Option.some.inj hr).symm H locs ls dy (lv_sub hl [0] rfl)
noncomputable def r_X3_advance (V : Vk) (k0 : Nat) (g : Hq) : Option (Unit × Hq) :=
  grd (V k0 = some (3, 0)) <| nm (sI g k0 2 (g.1 k0 3)) fun g2 => (lop (r_X3_advance_8 V) (k0, g2))
set_option maxHeartbeats 4000000 in
set_option maxRecDepth 100000 in
theorem c_X3_advance {l : Launch} {D : va_G} {cA : Nat → ClassId} {sk : (Nat → Nat) × (Nat → Nat)} {ad : Nat → Nat} {A : Nat → Prop} {V : Vk} {k0 : Nat} {g g0 : Hq} (hr : r_X3_advance V k0 g = some ((), g0)) : Met l yX3_advance (wM yX3_advance cX3_advance 2 none) { frames := 1, cells := 0, slots := 0, locals := 21 } (Pre D cA sk ad (V, g) A [.ref (ad k0)]) (QV D cA ad A (V, g0)) 0 0 A := by
  refine Met.ofW (cc := cX3_advance) (maxL := 2) (ret := none) (by decide) rfl ?_
  intro p e s m args below meth c s₁ B hml hv
  obtain ⟨rfl, fx, w0⟩ := hv
  have hts := atoms_spec (ws := wM yX3_advance cX3_advance 2 none) B.pre
  have cx : CallFix p m c cX3_advance 2 s ([.ref (ad k0)] : List Value).toArray gw_tbl RX3 := ⟨B.exec, B.bytes, hml, findClass_of_methodNamed B.named, fun w hw => hts w (List.mem_cons_of_mem _ hw)⟩
  have hlocks := B.notSynchronized
  have hret := B.returns
  have hR : 1 ≤ (headSpec (wM yX3_advance cX3_advance 2 none) { frames := 1, cells := 0, slots := 0, locals := 21 }).room.frames ∧ 21 ≤ (headSpec (wM yX3_advance cX3_advance 2 none) { frames := 1, cells := 0, slots := 0, locals := 21 }).room.locals := ⟨Nat.le_refl _, Nat.le_refl _⟩
  have dy : Dy D cA ad (V, g) A s.heap s.heap [] := ⟨w0, va_S.rf⟩
  have hl := lv_entry [.ref (ad k0)] (n := 2) (Nat.le_of_ble_eq_true rfl)
  rw [lg_entry_eq]
  generalize (lg_sl [.ref (ad k0)] ++ List.replicate (2 - (lg_sl [.ref (ad k0)]).length) Slot.unset).toArray = ls at hl ⊢
  have hl : lv_has ls 2 [(0, .ref (ad k0))] := hl
  have dy0 : ∃ H0, H0 = s.heap ∧ Dy D cA ad (V, g) A s.heap H0 [] := ⟨_, rfl, dy⟩
  obtain ⟨z, ez⟩ : ∃ z, z = (((), g0) : Unit × Hq) := ⟨_, rfl⟩
  rw [← ez] at hr
  have hq0 : ∀ (rb : Unit) (gb : Hq), z = (rb, gb) → gb = g0 := fun rb gb eb => by rw [ez] at eb; exact (congrArg Prod.snd eb).symm
  clear ez w0 dy0
  unfold r_X3_advance at hr
  obtain ⟨H, hH⟩ : ∃ H, H = s.heap := ⟨_, rfl⟩
  obtain ⟨locs, hlo⟩ : ∃ q : List Loc, q = [] := ⟨_, rfl⟩
  have dy : Dy D cA ad (V, g) A s.heap H locs := by rw [hH, hlo]; exact dy
  suffices K : W p l e (headSpec (wM yX3_advance cX3_advance 2 none) { frames := 1, cells := 0, slots := 0, locals := 21 }).room s m ([.ref (ad k0)] : List Value).toArray below meth c H locs 0 0 (MQ below (QV D cA ad A (V, g0)) ([.ref (ad k0)] : List Value).toArray s 0 0 A) (F0 m 0 ls []) by rw [hH, hlo] at K; exact K
  clear hH hlo
  refine lv_aload_n cx.1 cx.2.1 dX3_advance_0 rfl (lv_at hl 0 rfl) ?_
  refine lv_aload_n cx.1 cx.2.1 dX3_advance_1 rfl (lv_at hl 0 rfl) ?_
  obtain ⟨hv1, hr⟩ := of_grd hr
  refine h_getI cx fx dy fd_3_3 hv1 tb_178 dX3_advance_2 ?_
  obtain ⟨g2, eg2, hr⟩ := of_nm hr
  refine h_putI cx fx dy fd_3_2 (pd_3_2 : PD _ _ _ _ _ .int) rfl rfl rfl hv1 tb_177 dX3_advance_5 (fun H locs dy => ?_)
  replace dy : Dy D cA ad (V, g2) A s.heap H locs := by rw [eg2]; exact dy
  obtain ⟨n, hr⟩ := lop_some hr
  exact w_X3_advance_8 cx fx hlocks hret hR g0 z hq0 n k0 g2 hr H locs ls dy (lv_sub hl [0] rfl)
noncomputable def r_X3_isWord_28' (V : Vk) (k6 : Nat) (t7 : Nat) (x8 : Int32) (g9 : Hq) : Option ((Nat × Nat × Int32 × Hq) ⊕ (Int32 × Hq)) :=
  grd (t7 < 14) <| bnd (r_J0_length_8abf5 V t7 g9) fun x11 g10 => brn (x11 ≤ x8) (some (.inr ((1 : Int32), g10))) (grd (V k6 = some (3, 0)) <| Option.bind (g10.2.2 k6 0) fun k15 => grd (V k15 = some (8, 0)) <| bnd (r_X8_at V k15 ((g10.1 k6 2) + x8) g10) fun x18 g17 => bnd (r_J0_charAt_5068e V t7 x8 g17) fun x22 g21 => brn (x18 = x22) (nm (x8 + (1 : Int32)) fun x24 => some (.inl (k6, t7, x24, g21))) (some (.inr ((0 : Int32), g21))))
noncomputable def r_X3_isWord_28 (V : Vk) (st : (Nat × Nat × Int32 × Hq)) : Option ((Nat × Nat × Int32 × Hq) ⊕ (Int32 × Hq)) := r_X3_isWord_28' V st.1 st.2.1 st.2.2.1 st.2.2.2
set_option maxHeartbeats 4000000 in
set_option maxRecDepth 100000 in
theorem w_X3_isWord_28 {p : Program} {l : Launch} {e : Env} {R : Room} {s : State} {m : MethodId} {args : Array Value} {below : List Frame} {meth : Method} {c : Code} {D : va_G} {cA : Nat → ClassId} {sk : (Nat → Nat) × (Nat → Nat)} {ad : Nat → Nat} {A : Nat → Prop} {V : Vk} (cx : CallFix p m c cX3_isWord 3 s args gw_tbl RX3) (fx : Fx D cA sk A s) (hlocks : meth.locks = false) (hret : meth.sig.returnType = (some .boolean)) (hR : 4 ≤ R.frames ∧ 85 ≤ R.locals) (r0 : Int32) (g0 : Hq) (y : (Int32 × Hq)) (hq : ∀ (rb : Int32) (gb : Hq), y = (rb, gb) → rb = r0 ∧ gb = g0) : ∀ (n : Nat) (k6 : Nat) (t7 : Nat) (x8 : Int32) (g9 : Hq), itr (r_X3_isWord_28 V) n (k6, t7, x8, g9) = some y → ∀ (H : Heap) (locs : List Loc) (ls : Array Slot), Dy D cA ad (V, g9) A s.heap H locs → lv_has ls 3 [(0, .ref (ad k6)), (1, .ref (sk.1 t7)), (2, .int x8)] → W p l e R s m args below meth c H locs 0 0 (MQ below (QI D cA ad A r0 (V, g0)) args s 0 0 A) (F0 m 28 ls []) := by
  intro n
  induction n with
  | zero => intro k6 t7 x8 g9 hr; cases hr
  | succ n ih =>
    intro k6 t7 x8 g9 hr H locs ls dy hl
    obtain ⟨z, hz, hn1, hn2⟩ := itr_succ hr
    clear hr
    have hr : r_X3_isWord_28' V k6 t7 x8 g9 = some z := hz
    clear hz
    unfold r_X3_isWord_28' at hr
    have hh0 : ∀ (b0 : Nat) (b1 : Nat) (b2 : Int32) (gb : Hq), z = .inl (b0, b1, b2, gb) → ∀ (H : Heap) (locs : List Loc) (ls : Array Slot), Dy D cA ad (V, gb) A s.heap H locs → lv_has ls 3 [(0, .ref (ad b0)), (1, .ref (sk.1 b1)), (2, .int b2)] → W p l e R s m args below meth c H locs 0 0 (MQ below (QI D cA ad A r0 (V, g0)) args s 0 0 A) (F0 m 28 ls []) := fun b0 b1 b2 gb eb => ih b0 b1 b2 gb (hn1 _ eb)
    have hq0 : ∀ (rb : Int32) (gb : Hq), z = (.inr (rb, gb)) → rb = r0 ∧ gb = g0 := fun rb gb eb => hq rb gb (hn2 _ eb).symm
    refine lv_iload_n cx.1 cx.2.1 dX3_isWord_28 rfl (lv_at hl 2 rfl) ?_
    refine lv_aload_n cx.1 cx.2.1 dX3_isWord_29 rfl (lv_at hl 1 rfl) ?_
    obtain ⟨hv12, hr⟩ := of_grd hr
    obtain ⟨x11, g10, hc13, hr⟩ := of_bnd2 hr
    refine r_i dy (k_VS (As := []) (b := t7) cx fx dy (c_J0_length_8abf5 hc13) mv_J0_length_8abf5 rfl rfl ⟨Nat.le_trans (by decide) hR.1, Nat.le_trans (by decide) hR.2⟩ tb_583 hv12 rfl hl.1 rfl (Nat.le_of_ble_eq_true rfl) ⟨Nat.zero_le _, Nat.zero_le _⟩ dX3_isWord_30) (fun H locs dy => ?_)
    rcases of_brn hr with ⟨hc, hr⟩ | ⟨hc, hr⟩
    · refine lv_icmp_ge (tgt := 65) cx.1 cx.2.1 dX3_isWord_33 (by decide) (fun _ => ?_) (fun hn => absurd hc hn)
      refine lv_iconst (v := 1) cx.1 cx.2.1 dX3_isWord_65 (by decide) ?_
      obtain ⟨e0, e1⟩ := hq0 _ _ (Option.some.inj hr).symm
      exact h_iret cx dy hlocks hret rfl e0 (by rw [e1]) dX3_isWord_66
    · refine lv_icmp_ge (tgt := 65) cx.1 cx.2.1 dX3_isWord_33 (by decide) (fun hn => absurd hn hc) (fun _ => ?_)
      refine lv_aload_n cx.1 cx.2.1 dX3_isWord_36 rfl (lv_at hl 0 rfl) ?_
      obtain ⟨hv14, hr⟩ := of_grd hr
      obtain ⟨k15, hf16, hr⟩ := of_bnd hr
      refine h_getR cx fx dy fd_3_0 hv14 tb_175 hf16 dX3_isWord_37 ?_
      refine lv_aload_n cx.1 cx.2.1 dX3_isWord_40 rfl (lv_at hl 0 rfl) ?_
      refine h_getI cx fx dy fd_3_2 hv14 tb_177 dX3_isWord_41 ?_
      refine lv_iload_n cx.1 cx.2.1 dX3_isWord_44 rfl (lv_at hl 2 rfl) ?_
      refine lv_iadd cx.1 cx.2.1 dX3_isWord_45 ?_
      obtain ⟨hv19, hr⟩ := of_grd hr
      obtain ⟨x18, g17, hc20, hr⟩ := of_bnd2 hr
      refine r_i dy (k_V (As := [.int ((g10.1 k6 2) + x8)]) (b := k15) (ci := 8) cx fx dy (c_X8_at hc20) mv_X8_at rfl rfl ⟨Nat.le_trans (by decide) hR.1, Nat.le_trans (by decide) hR.2⟩ tb_561 hv19 rfl (by decide) rfl hl.1 rfl (Nat.le_of_ble_eq_true rfl) ⟨Nat.zero_le _, Nat.zero_le _⟩ dX3_isWord_46) (fun H locs dy => ?_)
      refine lv_aload_n cx.1 cx.2.1 dX3_isWord_49 rfl (lv_at hl 1 rfl) ?_
      refine lv_iload_n cx.1 cx.2.1 dX3_isWord_50 rfl (lv_at hl 2 rfl) ?_
      obtain ⟨x22, g21, hc23, hr⟩ := of_bnd2 hr
      refine r_i dy (k_VS (As := [.int x8]) (b := t7) cx fx dy (c_J0_charAt_5068e hc23) mv_J0_charAt_5068e rfl rfl ⟨Nat.le_trans (by decide) hR.1, Nat.le_trans (by decide) hR.2⟩ tb_593 hv12 rfl hl.1 rfl (Nat.le_of_ble_eq_true rfl) ⟨Nat.zero_le _, Nat.zero_le _⟩ dX3_isWord_51) (fun H locs dy => ?_)
      rcases of_brn hr with ⟨hc, hr⟩ | ⟨hc, hr⟩
      · refine lv_icmp_eq (tgt := 59) cx.1 cx.2.1 dX3_isWord_54 (by decide) (fun _ => ?_) (fun hn => absurd hc hn)
        obtain ⟨x24, ex24, hr⟩ := of_nm hr
        refine lv_iinc (v := x24) (lv' := [(2, .int x24), (0, .ref (ad k6)), (1, .ref (sk.1 t7))]) cx.1 cx.2.1 dX3_isWord_59 hl (k := 2) rfl (by rw [ex24]; rfl) (by decide) rfl (fun ls hl => ?_)
        refine lv_goto (tgt := 28) cx.1 cx.2.1 dX3_isWord_62 (by decide) ?_
        exact hh0 k6 t7 x24 g21 (Option.some.inj hr).symm H locs ls dy (lv_sub hl [1, 2, 0] rfl)
      · refine lv_icmp_eq (tgt := 59) cx.1 cx.2.1 dX3_isWord_54 (by decide) (fun hn => absurd hn hc) (fun _ => ?_)
        refine lv_iconst (v := 0) cx.1 cx.2.1 dX3_isWord_57 (by decide) ?_
        obtain ⟨e0, e1⟩ := hq0 _ _ (Option.some.inj hr).symm
        exact h_iret cx dy hlocks hret rfl e0 (by rw [e1]) dX3_isWord_58
noncomputable def r_X3_isWord (V : Vk) (k0 : Nat) (a1 : Nat) (g : Hq) : Option (Int32 × Hq) :=
  grd (V k0 = some (3, 0)) <| brn ((g.1 k0 1) = (1 : Int32)) (grd (a1 < 14) <| bnd (r_J0_length_8abf5 V a1 g) fun x3 g2 => brn (((g.1 k0 3) - (g.1 k0 2)) = x3) ((lop (r_X3_isWord_28 V) (k0, a1, (0 : Int32), g2))) (some ((0 : Int32), g2))) (some ((0 : Int32), g))
set_option maxHeartbeats 4000000 in
set_option maxRecDepth 100000 in
theorem c_X3_isWord {l : Launch} {D : va_G} {cA : Nat → ClassId} {sk : (Nat → Nat) × (Nat → Nat)} {ad : Nat → Nat} {A : Nat → Prop} {V : Vk} {k0 : Nat} {a1 : Nat} {g g0 : Hq} {r0 : Int32} (hr : r_X3_isWord V k0 a1 g = some (r0, g0)) : Met l yX3_isWord (wM yX3_isWord cX3_isWord 3 (some .boolean)) { frames := 4, cells := 0, slots := 0, locals := 85 } (Pre D cA sk ad (V, g) A [.ref (ad k0), .ref (sk.1 a1)]) (QI D cA ad A r0 (V, g0)) 0 0 A := by
  refine Met.ofW (cc := cX3_isWord) (maxL := 3) (ret := (some .boolean)) (by decide) rfl ?_
  intro p e s m args below meth c s₁ B hml hv
  obtain ⟨rfl, fx, w0⟩ := hv
  have hts := atoms_spec (ws := wM yX3_isWord cX3_isWord 3 (some .boolean)) B.pre
  have cx : CallFix p m c cX3_isWord 3 s ([.ref (ad k0), .ref (sk.1 a1)] : List Value).toArray gw_tbl RX3 := ⟨B.exec, B.bytes, hml, findClass_of_methodNamed B.named, fun w hw => hts w (List.mem_cons_of_mem _ hw)⟩
  have hlocks := B.notSynchronized
  have hret := B.returns
  have hR : 4 ≤ (headSpec (wM yX3_isWord cX3_isWord 3 (some .boolean)) { frames := 4, cells := 0, slots := 0, locals := 85 }).room.frames ∧ 85 ≤ (headSpec (wM yX3_isWord cX3_isWord 3 (some .boolean)) { frames := 4, cells := 0, slots := 0, locals := 85 }).room.locals := ⟨Nat.le_refl _, Nat.le_refl _⟩
  have dy : Dy D cA ad (V, g) A s.heap s.heap [] := ⟨w0, va_S.rf⟩
  have hl := lv_entry [.ref (ad k0), .ref (sk.1 a1)] (n := 3) (Nat.le_of_ble_eq_true rfl)
  rw [lg_entry_eq]
  generalize (lg_sl [.ref (ad k0), .ref (sk.1 a1)] ++ List.replicate (3 - (lg_sl [.ref (ad k0), .ref (sk.1 a1)]).length) Slot.unset).toArray = ls at hl ⊢
  have hl : lv_has ls 3 [(0, .ref (ad k0)), (1, .ref (sk.1 a1))] := hl
  have dy0 : ∃ H0, H0 = s.heap ∧ Dy D cA ad (V, g) A s.heap H0 [] := ⟨_, rfl, dy⟩
  obtain ⟨z, ez⟩ : ∃ z, z = (r0, g0) := ⟨_, rfl⟩
  rw [← ez] at hr
  have hq0 : ∀ (rb : Int32) (gb : Hq), z = (rb, gb) → rb = r0 ∧ gb = g0 := fun rb gb eb => by rw [ez] at eb; exact ⟨(congrArg Prod.fst eb).symm, (congrArg Prod.snd eb).symm⟩
  clear ez w0 dy0
  unfold r_X3_isWord at hr
  obtain ⟨H, hH⟩ : ∃ H, H = s.heap := ⟨_, rfl⟩
  obtain ⟨locs, hlo⟩ : ∃ q : List Loc, q = [] := ⟨_, rfl⟩
  have dy : Dy D cA ad (V, g) A s.heap H locs := by rw [hH, hlo]; exact dy
  suffices K : W p l e (headSpec (wM yX3_isWord cX3_isWord 3 (some .boolean)) { frames := 4, cells := 0, slots := 0, locals := 85 }).room s m ([.ref (ad k0), .ref (sk.1 a1)] : List Value).toArray below meth c H locs 0 0 (MQ below (QI D cA ad A r0 (V, g0)) ([.ref (ad k0), .ref (sk.1 a1)] : List Value).toArray s 0 0 A) (F0 m 0 ls []) by rw [hH, hlo] at K; exact K
  clear hH hlo
  refine lv_aload_n cx.1 cx.2.1 dX3_isWord_0 rfl (lv_at hl 0 rfl) ?_
  obtain ⟨hv1, hr⟩ := of_grd hr
  refine h_getI cx fx dy fd_3_1 hv1 tb_176 dX3_isWord_1 ?_
  refine lv_iconst (v := 1) cx.1 cx.2.1 dX3_isWord_4 (by decide) ?_
  rcases of_brn hr with ⟨hc, hr⟩ | ⟨hc, hr⟩
  · refine lv_icmp_ne (tgt := 24) cx.1 cx.2.1 dX3_isWord_5 (by decide) (fun hn => absurd hc hn) (fun _ => ?_)
    refine lv_aload_n cx.1 cx.2.1 dX3_isWord_8 rfl (lv_at hl 0 rfl) ?_
    refine h_getI cx fx dy fd_3_3 hv1 tb_178 dX3_isWord_9 ?_
    refine lv_aload_n cx.1 cx.2.1 dX3_isWord_12 rfl (lv_at hl 0 rfl) ?_
    refine h_getI cx fx dy fd_3_2 hv1 tb_177 dX3_isWord_13 ?_
    refine lv_isub cx.1 cx.2.1 dX3_isWord_16 ?_
    refine lv_aload_n cx.1 cx.2.1 dX3_isWord_17 rfl (lv_at hl 1 rfl) ?_
    obtain ⟨hv4, hr⟩ := of_grd hr
    obtain ⟨x3, g2, hc5, hr⟩ := of_bnd2 hr
    refine r_i dy (k_VS (As := []) (b := a1) cx fx dy (c_J0_length_8abf5 hc5) mv_J0_length_8abf5 rfl rfl ⟨Nat.le_trans (by decide) hR.1, Nat.le_trans (by decide) hR.2⟩ tb_583 hv4 rfl hl.1 rfl (Nat.le_of_ble_eq_true rfl) ⟨Nat.zero_le _, Nat.zero_le _⟩ dX3_isWord_18) (fun H locs dy => ?_)
    rcases of_brn hr with ⟨hc, hr⟩ | ⟨hc, hr⟩
    · refine lv_icmp_eq (tgt := 26) cx.1 cx.2.1 dX3_isWord_21 (by decide) (fun _ => ?_) (fun hn => absurd hc hn)
      refine lv_iconst (v := 0) cx.1 cx.2.1 dX3_isWord_26 (by decide) ?_
      refine lv_istore_n (lv' := [(2, .int (0 : Int32)), (0, .ref (ad k0)), (1, .ref (sk.1 a1))]) cx.1 cx.2.1 dX3_isWord_27 rfl hl (by decide) rfl (fun ls hl => ?_)
      obtain ⟨n, hr⟩ := lop_some hr
      exact w_X3_isWord_28 cx fx hlocks hret hR r0 g0 z hq0 n k0 a1 (0 : Int32) g2 hr H locs ls dy (lv_sub hl [1, 2, 0] rfl)
    · refine lv_icmp_eq (tgt := 26) cx.1 cx.2.1 dX3_isWord_21 (by decide) (fun hn => absurd hn hc) (fun _ => ?_)
      refine lv_iconst (v := 0) cx.1 cx.2.1 dX3_isWord_24 (by decide) ?_
      obtain ⟨e0, e1⟩ := hq0 _ _ (Option.some.inj hr).symm
      exact h_iret cx dy hlocks hret rfl e0 (by rw [e1]) dX3_isWord_25
  · refine lv_icmp_ne (tgt := 24) cx.1 cx.2.1 dX3_isWord_5 (by decide) (fun _ => ?_) (fun hn => absurd hn hc)
    refine lv_iconst (v := 0) cx.1 cx.2.1 dX3_isWord_24 (by decide) ?_
    obtain ⟨e0, e1⟩ := hq0 _ _ (Option.some.inj hr).symm
    exact h_iret cx dy hlocks hret rfl e0 (by rw [e1]) dX3_isWord_25
noncomputable def r_X3_blame (V : Vk) (k0 : Nat) (a1 : Int32) (g : Hq) : Option (Unit × Hq) :=
  grd (V k0 = some (3, 0)) <| brn ((g.1 k0 6) = 0) (nm (sI g k0 6 a1) fun g2 => nm (sI g2 k0 7 (g2.1 k0 2)) fun g3 => some ((), g3)) (some ((), g))
set_option maxHeartbeats 4000000 in
set_option maxRecDepth 100000 in
theorem c_X3_blame {l : Launch} {D : va_G} {cA : Nat → ClassId} {sk : (Nat → Nat) × (Nat → Nat)} {ad : Nat → Nat} {A : Nat → Prop} {V : Vk} {k0 : Nat} {a1 : Int32} {g g0 : Hq} (hr : r_X3_blame V k0 a1 g = some ((), g0)) : Met l yX3_blame (wM yX3_blame cX3_blame 2 none) { frames := 0, cells := 0, slots := 0, locals := 0 } (Pre D cA sk ad (V, g) A [.ref (ad k0), .int a1]) (QV D cA ad A (V, g0)) 0 0 A := by
  refine Met.ofW (cc := cX3_blame) (maxL := 2) (ret := none) (by decide) rfl ?_
  intro p e s m args below meth c s₁ B hml hv
  obtain ⟨rfl, fx, w0⟩ := hv
  have hts := atoms_spec (ws := wM yX3_blame cX3_blame 2 none) B.pre
  have cx : CallFix p m c cX3_blame 2 s ([.ref (ad k0), .int a1] : List Value).toArray gw_tbl RX3 := ⟨B.exec, B.bytes, hml, findClass_of_methodNamed B.named, fun w hw => hts w (List.mem_cons_of_mem _ hw)⟩
  have hlocks := B.notSynchronized
  have hret := B.returns
  have hR : 0 ≤ (headSpec (wM yX3_blame cX3_blame 2 none) { frames := 0, cells := 0, slots := 0, locals := 0 }).room.frames ∧ 0 ≤ (headSpec (wM yX3_blame cX3_blame 2 none) { frames := 0, cells := 0, slots := 0, locals := 0 }).room.locals := ⟨Nat.le_refl _, Nat.le_refl _⟩
  have dy : Dy D cA ad (V, g) A s.heap s.heap [] := ⟨w0, va_S.rf⟩
  have hl := lv_entry [.ref (ad k0), .int a1] (n := 2) (Nat.le_of_ble_eq_true rfl)
  rw [lg_entry_eq]
  generalize (lg_sl [.ref (ad k0), .int a1] ++ List.replicate (2 - (lg_sl [.ref (ad k0), .int a1]).length) Slot.unset).toArray = ls at hl ⊢
  have hl : lv_has ls 2 [(0, .ref (ad k0)), (1, .int a1)] := hl
  have dy0 : ∃ H0, H0 = s.heap ∧ Dy D cA ad (V, g) A s.heap H0 [] := ⟨_, rfl, dy⟩
  obtain ⟨z, ez⟩ : ∃ z, z = (((), g0) : Unit × Hq) := ⟨_, rfl⟩
  rw [← ez] at hr
  have hq0 : ∀ (rb : Unit) (gb : Hq), z = (rb, gb) → gb = g0 := fun rb gb eb => by rw [ez] at eb; exact (congrArg Prod.snd eb).symm
  clear ez w0 dy0
  unfold r_X3_blame at hr
  obtain ⟨H, hH⟩ : ∃ H, H = s.heap := ⟨_, rfl⟩
  obtain ⟨locs, hlo⟩ : ∃ q : List Loc, q = [] := ⟨_, rfl⟩
  have dy : Dy D cA ad (V, g) A s.heap H locs := by rw [hH, hlo]; exact dy
  suffices K : W p l e (headSpec (wM yX3_blame cX3_blame 2 none) { frames := 0, cells := 0, slots := 0, locals := 0 }).room s m ([.ref (ad k0), .int a1] : List Value).toArray below meth c H locs 0 0 (MQ below (QV D cA ad A (V, g0)) ([.ref (ad k0), .int a1] : List Value).toArray s 0 0 A) (F0 m 0 ls []) by rw [hH, hlo] at K; exact K
  clear hH hlo
  refine lv_aload_n cx.1 cx.2.1 dX3_blame_0 rfl (lv_at hl 0 rfl) ?_
  obtain ⟨hv1, hr⟩ := of_grd hr
  refine h_getI cx fx dy fd_3_6 hv1 tb_181 dX3_blame_1 ?_
  rcases of_brn hr with ⟨hc, hr⟩ | ⟨hc, hr⟩
  · refine lv_if_ne (tgt := 20) cx.1 cx.2.1 dX3_blame_4 (by decide) (fun hn => absurd hc hn) (fun _ => ?_)
    refine lv_aload_n cx.1 cx.2.1 dX3_blame_7 rfl (lv_at hl 0 rfl) ?_
    refine lv_iload_n cx.1 cx.2.1 dX3_blame_8 rfl (lv_at hl 1 rfl) ?_
    obtain ⟨g2, eg2, hr⟩ := of_nm hr
    refine h_putI cx fx dy fd_3_6 (pd_3_6 : PD _ _ _ _ _ .int) rfl rfl rfl hv1 tb_181 dX3_blame_9 (fun H locs dy => ?_)
    replace dy : Dy D cA ad (V, g2) A s.heap H locs := by rw [eg2]; exact dy
    refine lv_aload_n cx.1 cx.2.1 dX3_blame_12 rfl (lv_at hl 0 rfl) ?_
    refine lv_aload_n cx.1 cx.2.1 dX3_blame_13 rfl (lv_at hl 0 rfl) ?_
    refine h_getI cx fx dy fd_3_2 hv1 tb_177 dX3_blame_14 ?_
    obtain ⟨g3, eg3, hr⟩ := of_nm hr
    refine h_putI cx fx dy fd_3_7 (pd_3_7 : PD _ _ _ _ _ .int) rfl rfl rfl hv1 tb_182 dX3_blame_17 (fun H locs dy => ?_)
    replace dy : Dy D cA ad (V, g3) A s.heap H locs := by rw [eg3]; exact dy
    have e1 := hq0 _ _ (Option.some.inj hr).symm
    exact h_vret cx dy hlocks hret (by rw [e1]) dX3_blame_20
  · refine lv_if_ne (tgt := 20) cx.1 cx.2.1 dX3_blame_4 (by decide) (fun _ => ?_) (fun hn => absurd hn hc)
    have e1 := hq0 _ _ (Option.some.inj hr).symm
    exact h_vret cx dy hlocks hret (by rw [e1]) dX3_blame_20
noncomputable def r_X3_takeNumber (V : Vk) (k0 : Nat) (a1 : Int32) (a2 : Int32) (g : Hq) : Option (Int32 × Hq) :=
  grd (V k0 = some (3, 0)) <| brn ((g.1 k0 1) = (2 : Int32)) (bnd (r_X11_isFrom V (g.1 k0 4) a1 a2 g) fun x3 g2 => brn (x3 = 0) (bnd (r_X3_blame V k0 (2 : Int32) g2) fun u6 g5 => nm (g5.1 k0 4) fun x8 => bnd (r_X3_advance V k0 g5) fun u10 g9 => some (x8, g9)) (nm (g2.1 k0 4) fun x12 => bnd (r_X3_advance V k0 g2) fun u14 g13 => some (x12, g13))) (bnd (r_X3_blame V k0 (1 : Int32) g) fun u17 g16 => nm (g16.1 k0 4) fun x19 => bnd (r_X3_advance V k0 g16) fun u21 g20 => some (x19, g20))
set_option maxHeartbeats 4000000 in
set_option maxRecDepth 100000 in
theorem c_X3_takeNumber {l : Launch} {D : va_G} {cA : Nat → ClassId} {sk : (Nat → Nat) × (Nat → Nat)} {ad : Nat → Nat} {A : Nat → Prop} {V : Vk} {k0 : Nat} {a1 : Int32} {a2 : Int32} {g g0 : Hq} {r0 : Int32} (hr : r_X3_takeNumber V k0 a1 a2 g = some (r0, g0)) : Met l yX3_takeNumber (wM yX3_takeNumber cX3_takeNumber 4 (some .int)) { frames := 2, cells := 0, slots := 0, locals := 42 } (Pre D cA sk ad (V, g) A [.ref (ad k0), .int a1, .int a2]) (QI D cA ad A r0 (V, g0)) 0 0 A := by
  refine Met.ofW (cc := cX3_takeNumber) (maxL := 4) (ret := (some .int)) (by decide) rfl ?_
  intro p e s m args below meth c s₁ B hml hv
  obtain ⟨rfl, fx, w0⟩ := hv
  have hts := atoms_spec (ws := wM yX3_takeNumber cX3_takeNumber 4 (some .int)) B.pre
  have cx : CallFix p m c cX3_takeNumber 4 s ([.ref (ad k0), .int a1, .int a2] : List Value).toArray gw_tbl RX3 := ⟨B.exec, B.bytes, hml, findClass_of_methodNamed B.named, fun w hw => hts w (List.mem_cons_of_mem _ hw)⟩
  have hlocks := B.notSynchronized
  have hret := B.returns
  have hR : 2 ≤ (headSpec (wM yX3_takeNumber cX3_takeNumber 4 (some .int)) { frames := 2, cells := 0, slots := 0, locals := 42 }).room.frames ∧ 42 ≤ (headSpec (wM yX3_takeNumber cX3_takeNumber 4 (some .int)) { frames := 2, cells := 0, slots := 0, locals := 42 }).room.locals := ⟨Nat.le_refl _, Nat.le_refl _⟩
  have dy : Dy D cA ad (V, g) A s.heap s.heap [] := ⟨w0, va_S.rf⟩
  have hl := lv_entry [.ref (ad k0), .int a1, .int a2] (n := 4) (Nat.le_of_ble_eq_true rfl)
  rw [lg_entry_eq]
  generalize (lg_sl [.ref (ad k0), .int a1, .int a2] ++ List.replicate (4 - (lg_sl [.ref (ad k0), .int a1, .int a2]).length) Slot.unset).toArray = ls at hl ⊢
  have hl : lv_has ls 4 [(0, .ref (ad k0)), (1, .int a1), (2, .int a2)] := hl
  have dy0 : ∃ H0, H0 = s.heap ∧ Dy D cA ad (V, g) A s.heap H0 [] := ⟨_, rfl, dy⟩
  obtain ⟨z, ez⟩ : ∃ z, z = (r0, g0) := ⟨_, rfl⟩
  rw [← ez] at hr
  have hq0 : ∀ (rb : Int32) (gb : Hq), z = (rb, gb) → rb = r0 ∧ gb = g0 := fun rb gb eb => by rw [ez] at eb; exact ⟨(congrArg Prod.fst eb).symm, (congrArg Prod.snd eb).symm⟩
  clear ez w0 dy0
  unfold r_X3_takeNumber at hr
  obtain ⟨H, hH⟩ : ∃ H, H = s.heap := ⟨_, rfl⟩
  obtain ⟨locs, hlo⟩ : ∃ q : List Loc, q = [] := ⟨_, rfl⟩
  have dy : Dy D cA ad (V, g) A s.heap H locs := by rw [hH, hlo]; exact dy
  suffices K : W p l e (headSpec (wM yX3_takeNumber cX3_takeNumber 4 (some .int)) { frames := 2, cells := 0, slots := 0, locals := 42 }).room s m ([.ref (ad k0), .int a1, .int a2] : List Value).toArray below meth c H locs 0 0 (MQ below (QI D cA ad A r0 (V, g0)) ([.ref (ad k0), .int a1, .int a2] : List Value).toArray s 0 0 A) (F0 m 0 ls []) by rw [hH, hlo] at K; exact K
  clear hH hlo
  refine lv_aload_n cx.1 cx.2.1 dX3_takeNumber_0 rfl (lv_at hl 0 rfl) ?_
  obtain ⟨hv1, hr⟩ := of_grd hr
  refine h_getI cx fx dy fd_3_1 hv1 tb_176 dX3_takeNumber_1 ?_
  refine lv_iconst (v := 2) cx.1 cx.2.1 dX3_takeNumber_4 (by decide) ?_
  rcases of_brn hr with ⟨hc, hr⟩ | ⟨hc, hr⟩
  · refine lv_icmp_eq (tgt := 16) cx.1 cx.2.1 dX3_takeNumber_5 (by decide) (fun _ => ?_) (fun hn => absurd hc hn)
    refine lv_aload_n cx.1 cx.2.1 dX3_takeNumber_16 rfl (lv_at hl 0 rfl) ?_
    refine h_getI cx fx dy fd_3_4 hv1 tb_179 dX3_takeNumber_17 ?_
    refine lv_iload_n cx.1 cx.2.1 dX3_takeNumber_20 rfl (lv_at hl 1 rfl) ?_
    refine lv_iload_n cx.1 cx.2.1 dX3_takeNumber_21 rfl (lv_at hl 2 rfl) ?_
    obtain ⟨x3, g2, hc4, hr⟩ := of_bnd2 hr
    refine r_i dy (k_SN (As := [.int (g.1 k0 4), .int a1, .int a2]) cx fx dy (c_X11_isFrom hc4) mv_X11_isFrom rfl rfl ⟨Nat.le_trans (by decide) hR.1, Nat.le_trans (by decide) hR.2⟩ tb_643 rfl hl.1 rfl (Nat.le_of_ble_eq_true rfl) ⟨Nat.zero_le _, Nat.zero_le _⟩ dX3_takeNumber_22) (fun H locs dy => ?_)
    rcases of_brn hr with ⟨hc, hr⟩ | ⟨hc, hr⟩
    · refine lv_if_ne (tgt := 33) cx.1 cx.2.1 dX3_takeNumber_25 (by decide) (fun hn => absurd hc hn) (fun _ => ?_)
      refine lv_aload_n cx.1 cx.2.1 dX3_takeNumber_28 rfl (lv_at hl 0 rfl) ?_
      refine lv_iconst (v := 2) cx.1 cx.2.1 dX3_takeNumber_29 (by decide) ?_
      obtain ⟨u6, g5, hc7, hr⟩ := of_bnd2 hr
      refine r_v dy (k_V (As := [.int (2 : Int32)]) (b := k0) (ci := 3) cx fx dy (c_X3_blame hc7) mv_X3_blame rfl rfl ⟨Nat.le_trans (by decide) hR.1, Nat.le_trans (by decide) hR.2⟩ tb_635 hv1 rfl (by decide) rfl hl.1 rfl (Nat.le_of_ble_eq_true rfl) ⟨Nat.zero_le _, Nat.zero_le _⟩ dX3_takeNumber_30) (fun H locs dy => ?_)
      refine lv_aload_n cx.1 cx.2.1 dX3_takeNumber_33 rfl (lv_at hl 0 rfl) ?_
      refine h_getI cx fx dy fd_3_4 hv1 tb_179 dX3_takeNumber_34 ?_
      obtain ⟨x8, ex8, hr⟩ := of_nm hr
      refine lv_nmi ex8 ?_
      refine lv_istore_n (lv' := [(3, .int x8), (0, .ref (ad k0)), (1, .int a1), (2, .int a2)]) cx.1 cx.2.1 dX3_takeNumber_37 rfl hl (by decide) rfl (fun ls hl => ?_)
      refine lv_aload_n cx.1 cx.2.1 dX3_takeNumber_38 rfl (lv_at hl 1 rfl) ?_
      obtain ⟨u10, g9, hc11, hr⟩ := of_bnd2 hr
      refine r_v dy (k_V (As := []) (b := k0) (ci := 3) cx fx dy (c_X3_advance hc11) mv_X3_advance rfl rfl ⟨Nat.le_trans (by decide) hR.1, Nat.le_trans (by decide) hR.2⟩ tb_556 hv1 rfl (by decide) rfl hl.1 rfl (Nat.le_of_ble_eq_true rfl) ⟨Nat.zero_le _, Nat.zero_le _⟩ dX3_takeNumber_39) (fun H locs dy => ?_)
      refine lv_iload_n cx.1 cx.2.1 dX3_takeNumber_42 rfl (lv_at hl 0 rfl) ?_
      obtain ⟨e0, e1⟩ := hq0 _ _ (Option.some.inj hr).symm
      exact h_iret cx dy hlocks hret rfl e0 (by rw [e1]) dX3_takeNumber_43
    · refine lv_if_ne (tgt := 33) cx.1 cx.2.1 dX3_takeNumber_25 (by decide) (fun _ => ?_) (fun hn => absurd hn hc)
      refine lv_aload_n cx.1 cx.2.1 dX3_takeNumber_33 rfl (lv_at hl 0 rfl) ?_
      refine h_getI cx fx dy fd_3_4 hv1 tb_179 dX3_takeNumber_34 ?_
      obtain ⟨x12, ex12, hr⟩ := of_nm hr
      refine lv_nmi ex12 ?_
      refine lv_istore_n (lv' := [(3, .int x12), (0, .ref (ad k0)), (1, .int a1), (2, .int a2)]) cx.1 cx.2.1 dX3_takeNumber_37 rfl hl (by decide) rfl (fun ls hl => ?_)
      refine lv_aload_n cx.1 cx.2.1 dX3_takeNumber_38 rfl (lv_at hl 1 rfl) ?_
      obtain ⟨u14, g13, hc15, hr⟩ := of_bnd2 hr
      refine r_v dy (k_V (As := []) (b := k0) (ci := 3) cx fx dy (c_X3_advance hc15) mv_X3_advance rfl rfl ⟨Nat.le_trans (by decide) hR.1, Nat.le_trans (by decide) hR.2⟩ tb_556 hv1 rfl (by decide) rfl hl.1 rfl (Nat.le_of_ble_eq_true rfl) ⟨Nat.zero_le _, Nat.zero_le _⟩ dX3_takeNumber_39) (fun H locs dy => ?_)
      refine lv_iload_n cx.1 cx.2.1 dX3_takeNumber_42 rfl (lv_at hl 0 rfl) ?_
      obtain ⟨e0, e1⟩ := hq0 _ _ (Option.some.inj hr).symm
      exact h_iret cx dy hlocks hret rfl e0 (by rw [e1]) dX3_takeNumber_43
  · refine lv_icmp_eq (tgt := 16) cx.1 cx.2.1 dX3_takeNumber_5 (by decide) (fun hn => absurd hn hc) (fun _ => ?_)
    refine lv_aload_n cx.1 cx.2.1 dX3_takeNumber_8 rfl (lv_at hl 0 rfl) ?_
    refine lv_iconst (v := 1) cx.1 cx.2.1 dX3_takeNumber_9 (by decide) ?_
    obtain ⟨u17, g16, hc18, hr⟩ := of_bnd2 hr
    refine r_v dy (k_V (As := [.int (1 : Int32)]) (b := k0) (ci := 3) cx fx dy (c_X3_blame hc18) mv_X3_blame rfl rfl ⟨Nat.le_trans (by decide) hR.1, Nat.le_trans (by decide) hR.2⟩ tb_635 hv1 rfl (by decide) rfl hl.1 rfl (Nat.le_of_ble_eq_true rfl) ⟨Nat.zero_le _, Nat.zero_le _⟩ dX3_takeNumber_10) (fun H locs dy => ?_)
    refine lv_goto (tgt := 33) cx.1 cx.2.1 dX3_takeNumber_13 (by decide) ?_
    refine lv_aload_n cx.1 cx.2.1 dX3_takeNumber_33 rfl (lv_at hl 0 rfl) ?_
    refine h_getI cx fx dy fd_3_4 hv1 tb_179 dX3_takeNumber_34 ?_
    obtain ⟨x19, ex19, hr⟩ := of_nm hr
    refine lv_nmi ex19 ?_
    refine lv_istore_n (lv' := [(3, .int x19), (0, .ref (ad k0)), (1, .int a1), (2, .int a2)]) cx.1 cx.2.1 dX3_takeNumber_37 rfl hl (by decide) rfl (fun ls hl => ?_)
    refine lv_aload_n cx.1 cx.2.1 dX3_takeNumber_38 rfl (lv_at hl 1 rfl) ?_
    obtain ⟨u21, g20, hc22, hr⟩ := of_bnd2 hr
    refine r_v dy (k_V (As := []) (b := k0) (ci := 3) cx fx dy (c_X3_advance hc22) mv_X3_advance rfl rfl ⟨Nat.le_trans (by decide) hR.1, Nat.le_trans (by decide) hR.2⟩ tb_556 hv1 rfl (by decide) rfl hl.1 rfl (Nat.le_of_ble_eq_true rfl) ⟨Nat.zero_le _, Nat.zero_le _⟩ dX3_takeNumber_39) (fun H locs dy => ?_)
    refine lv_iload_n cx.1 cx.2.1 dX3_takeNumber_42 rfl (lv_at hl 0 rfl) ?_
    obtain ⟨e0, e1⟩ := hq0 _ _ (Option.some.inj hr).symm
    exact h_iret cx dy hlocks hret rfl e0 (by rw [e1]) dX3_takeNumber_43
noncomputable def r_X3_takeSemicolon (V : Vk) (k0 : Nat) (g : Hq) : Option (Unit × Hq) :=
  grd (V k0 = some (3, 0)) <| brn ((g.1 k0 1) = (3 : Int32)) (bnd (r_X3_advance V k0 g) fun u3 g2 => some ((), g2)) (bnd (r_X3_blame V k0 (1 : Int32) g) fun u6 g5 => bnd (r_X3_advance V k0 g5) fun u9 g8 => some ((), g8))
set_option maxHeartbeats 4000000 in
set_option maxRecDepth 100000 in
theorem c_X3_takeSemicolon {l : Launch} {D : va_G} {cA : Nat → ClassId} {sk : (Nat → Nat) × (Nat → Nat)} {ad : Nat → Nat} {A : Nat → Prop} {V : Vk} {k0 : Nat} {g g0 : Hq} (hr : r_X3_takeSemicolon V k0 g = some ((), g0)) : Met l yX3_takeSemicolon (wM yX3_takeSemicolon cX3_takeSemicolon 1 none) { frames := 2, cells := 0, slots := 0, locals := 42 } (Pre D cA sk ad (V, g) A [.ref (ad k0)]) (QV D cA ad A (V, g0)) 0 0 A := by
  refine Met.ofW (cc := cX3_takeSemicolon) (maxL := 1) (ret := none) (by decide) rfl ?_
  intro p e s m args below meth c s₁ B hml hv
  obtain ⟨rfl, fx, w0⟩ := hv
  have hts := atoms_spec (ws := wM yX3_takeSemicolon cX3_takeSemicolon 1 none) B.pre
  have cx : CallFix p m c cX3_takeSemicolon 1 s ([.ref (ad k0)] : List Value).toArray gw_tbl RX3 := ⟨B.exec, B.bytes, hml, findClass_of_methodNamed B.named, fun w hw => hts w (List.mem_cons_of_mem _ hw)⟩
  have hlocks := B.notSynchronized
  have hret := B.returns
  have hR : 2 ≤ (headSpec (wM yX3_takeSemicolon cX3_takeSemicolon 1 none) { frames := 2, cells := 0, slots := 0, locals := 42 }).room.frames ∧ 42 ≤ (headSpec (wM yX3_takeSemicolon cX3_takeSemicolon 1 none) { frames := 2, cells := 0, slots := 0, locals := 42 }).room.locals := ⟨Nat.le_refl _, Nat.le_refl _⟩
  have dy : Dy D cA ad (V, g) A s.heap s.heap [] := ⟨w0, va_S.rf⟩
  have hl := lv_entry [.ref (ad k0)] (n := 1) (Nat.le_of_ble_eq_true rfl)
  rw [lg_entry_eq]
  generalize (lg_sl [.ref (ad k0)] ++ List.replicate (1 - (lg_sl [.ref (ad k0)]).length) Slot.unset).toArray = ls at hl ⊢
  have hl : lv_has ls 1 [(0, .ref (ad k0))] := hl
  have dy0 : ∃ H0, H0 = s.heap ∧ Dy D cA ad (V, g) A s.heap H0 [] := ⟨_, rfl, dy⟩
  obtain ⟨z, ez⟩ : ∃ z, z = (((), g0) : Unit × Hq) := ⟨_, rfl⟩
  rw [← ez] at hr
  have hq0 : ∀ (rb : Unit) (gb : Hq), z = (rb, gb) → gb = g0 := fun rb gb eb => by rw [ez] at eb; exact (congrArg Prod.snd eb).symm
  clear ez w0 dy0
  unfold r_X3_takeSemicolon at hr
  obtain ⟨H, hH⟩ : ∃ H, H = s.heap := ⟨_, rfl⟩
  obtain ⟨locs, hlo⟩ : ∃ q : List Loc, q = [] := ⟨_, rfl⟩
  have dy : Dy D cA ad (V, g) A s.heap H locs := by rw [hH, hlo]; exact dy
  suffices K : W p l e (headSpec (wM yX3_takeSemicolon cX3_takeSemicolon 1 none) { frames := 2, cells := 0, slots := 0, locals := 42 }).room s m ([.ref (ad k0)] : List Value).toArray below meth c H locs 0 0 (MQ below (QV D cA ad A (V, g0)) ([.ref (ad k0)] : List Value).toArray s 0 0 A) (F0 m 0 ls []) by rw [hH, hlo] at K; exact K
  clear hH hlo
  refine lv_aload_n cx.1 cx.2.1 dX3_takeSemicolon_0 rfl (lv_at hl 0 rfl) ?_
  obtain ⟨hv1, hr⟩ := of_grd hr
  refine h_getI cx fx dy fd_3_1 hv1 tb_176 dX3_takeSemicolon_1 ?_
  refine lv_iconst (v := 3) cx.1 cx.2.1 dX3_takeSemicolon_4 (by decide) ?_
  rcases of_brn hr with ⟨hc, hr⟩ | ⟨hc, hr⟩
  · refine lv_icmp_eq (tgt := 13) cx.1 cx.2.1 dX3_takeSemicolon_5 (by decide) (fun _ => ?_) (fun hn => absurd hc hn)
    refine lv_aload_n cx.1 cx.2.1 dX3_takeSemicolon_13 rfl (lv_at hl 0 rfl) ?_
    obtain ⟨u3, g2, hc4, hr⟩ := of_bnd2 hr
    refine r_v dy (k_V (As := []) (b := k0) (ci := 3) cx fx dy (c_X3_advance hc4) mv_X3_advance rfl rfl ⟨Nat.le_trans (by decide) hR.1, Nat.le_trans (by decide) hR.2⟩ tb_556 hv1 rfl (by decide) rfl hl.1 rfl (Nat.le_of_ble_eq_true rfl) ⟨Nat.zero_le _, Nat.zero_le _⟩ dX3_takeSemicolon_14) (fun H locs dy => ?_)
    have e1 := hq0 _ _ (Option.some.inj hr).symm
    exact h_vret cx dy hlocks hret (by rw [e1]) dX3_takeSemicolon_17
  · refine lv_icmp_eq (tgt := 13) cx.1 cx.2.1 dX3_takeSemicolon_5 (by decide) (fun hn => absurd hn hc) (fun _ => ?_)
    refine lv_aload_n cx.1 cx.2.1 dX3_takeSemicolon_8 rfl (lv_at hl 0 rfl) ?_
    refine lv_iconst (v := 1) cx.1 cx.2.1 dX3_takeSemicolon_9 (by decide) ?_
    obtain ⟨u6, g5, hc7, hr⟩ := of_bnd2 hr
    refine r_v dy (k_V (As := [.int (1 : Int32)]) (b := k0) (ci := 3) cx fx dy (c_X3_blame hc7) mv_X3_blame rfl rfl ⟨Nat.le_trans (by decide) hR.1, Nat.le_trans (by decide) hR.2⟩ tb_635 hv1 rfl (by decide) rfl hl.1 rfl (Nat.le_of_ble_eq_true rfl) ⟨Nat.zero_le _, Nat.zero_le _⟩ dX3_takeSemicolon_10) (fun H locs dy => ?_)
    refine lv_aload_n cx.1 cx.2.1 dX3_takeSemicolon_13 rfl (lv_at hl 0 rfl) ?_
    obtain ⟨u9, g8, hc10, hr⟩ := of_bnd2 hr
    refine r_v dy (k_V (As := []) (b := k0) (ci := 3) cx fx dy (c_X3_advance hc10) mv_X3_advance rfl rfl ⟨Nat.le_trans (by decide) hR.1, Nat.le_trans (by decide) hR.2⟩ tb_556 hv1 rfl (by decide) rfl hl.1 rfl (Nat.le_of_ble_eq_true rfl) ⟨Nat.zero_le _, Nat.zero_le _⟩ dX3_takeSemicolon_14) (fun H locs dy => ?_)
    have e1 := hq0 _ _ (Option.some.inj hr).symm
    exact h_vret cx dy hlocks hret (by rw [e1]) dX3_takeSemicolon_17
noncomputable def r_X3_takeCry (V : Vk) (k0 : Nat) (g : Hq) : Option (Int32 × Hq) :=
  grd (V k0 = some (3, 0)) <| bnd (r_X3_isWord V k0 10 g) fun x2 g1 => brn (x2 = 0) (some ((0 : Int32), g1)) (bnd (r_X3_advance V k0 g1) fun u6 g5 => some ((1 : Int32), g5))
set_option maxHeartbeats 4000000 in
set_option maxRecDepth 100000 in
theorem c_X3_takeCry {l : Launch} {D : va_G} {cA : Nat → ClassId} {sk : (Nat → Nat) × (Nat → Nat)} {ad : Nat → Nat} {A : Nat → Prop} {V : Vk} {k0 : Nat} {g g0 : Hq} {r0 : Int32} (hr : r_X3_takeCry V k0 g = some (r0, g0)) : Met l yX3_takeCry (wM yX3_takeCry cX3_takeCry 1 (some .boolean)) { frames := 5, cells := 0, slots := 0, locals := 107 } (Pre D cA sk ad (V, g) A [.ref (ad k0)]) (QI D cA ad A r0 (V, g0)) 0 0 A := by
  refine Met.ofW (cc := cX3_takeCry) (maxL := 1) (ret := (some .boolean)) (by decide) rfl ?_
  intro p e s m args below meth c s₁ B hml hv
  obtain ⟨rfl, fx, w0⟩ := hv
  have hts := atoms_spec (ws := wM yX3_takeCry cX3_takeCry 1 (some .boolean)) B.pre
  have cx : CallFix p m c cX3_takeCry 1 s ([.ref (ad k0)] : List Value).toArray gw_tbl RX3 := ⟨B.exec, B.bytes, hml, findClass_of_methodNamed B.named, fun w hw => hts w (List.mem_cons_of_mem _ hw)⟩
  have hlocks := B.notSynchronized
  have hret := B.returns
  have hR : 5 ≤ (headSpec (wM yX3_takeCry cX3_takeCry 1 (some .boolean)) { frames := 5, cells := 0, slots := 0, locals := 107 }).room.frames ∧ 107 ≤ (headSpec (wM yX3_takeCry cX3_takeCry 1 (some .boolean)) { frames := 5, cells := 0, slots := 0, locals := 107 }).room.locals := ⟨Nat.le_refl _, Nat.le_refl _⟩
  have dy : Dy D cA ad (V, g) A s.heap s.heap [] := ⟨w0, va_S.rf⟩
  have hl := lv_entry [.ref (ad k0)] (n := 1) (Nat.le_of_ble_eq_true rfl)
  rw [lg_entry_eq]
  generalize (lg_sl [.ref (ad k0)] ++ List.replicate (1 - (lg_sl [.ref (ad k0)]).length) Slot.unset).toArray = ls at hl ⊢
  have hl : lv_has ls 1 [(0, .ref (ad k0))] := hl
  have dy0 : ∃ H0, H0 = s.heap ∧ Dy D cA ad (V, g) A s.heap H0 [] := ⟨_, rfl, dy⟩
  obtain ⟨z, ez⟩ : ∃ z, z = (r0, g0) := ⟨_, rfl⟩
  rw [← ez] at hr
  have hq0 : ∀ (rb : Int32) (gb : Hq), z = (rb, gb) → rb = r0 ∧ gb = g0 := fun rb gb eb => by rw [ez] at eb; exact ⟨(congrArg Prod.fst eb).symm, (congrArg Prod.snd eb).symm⟩
  clear ez w0 dy0
  unfold r_X3_takeCry at hr
  obtain ⟨H, hH⟩ : ∃ H, H = s.heap := ⟨_, rfl⟩
  obtain ⟨locs, hlo⟩ : ∃ q : List Loc, q = [] := ⟨_, rfl⟩
  have dy : Dy D cA ad (V, g) A s.heap H locs := by rw [hH, hlo]; exact dy
  suffices K : W p l e (headSpec (wM yX3_takeCry cX3_takeCry 1 (some .boolean)) { frames := 5, cells := 0, slots := 0, locals := 107 }).room s m ([.ref (ad k0)] : List Value).toArray below meth c H locs 0 0 (MQ below (QI D cA ad A r0 (V, g0)) ([.ref (ad k0)] : List Value).toArray s 0 0 A) (F0 m 0 ls []) by rw [hH, hlo] at K; exact K
  clear hH hlo
  refine lv_aload_n cx.1 cx.2.1 dX3_takeCry_0 rfl (lv_at hl 0 rfl) ?_
  refine va_ldcS cx.1 cx.2.1 cx.2.2.2.1 (fx.2.2.1.2.1 10 _ rfl) dX3_takeCry_1 ?_
  obtain ⟨hv3, hr⟩ := of_grd hr
  obtain ⟨x2, g1, hc4, hr⟩ := of_bnd2 hr
  refine r_i dy (k_V (As := [.ref (sk.1 10)]) (b := k0) (ci := 3) cx fx dy (c_X3_isWord hc4) mv_X3_isWord rfl rfl ⟨Nat.le_trans (by decide) hR.1, Nat.le_trans (by decide) hR.2⟩ tb_579 hv3 rfl (by decide) rfl hl.1 rfl (Nat.le_of_ble_eq_true rfl) ⟨Nat.zero_le _, Nat.zero_le _⟩ dX3_takeCry_3) (fun H locs dy => ?_)
  rcases of_brn hr with ⟨hc, hr⟩ | ⟨hc, hr⟩
  · refine lv_if_ne (tgt := 11) cx.1 cx.2.1 dX3_takeCry_6 (by decide) (fun hn => absurd hc hn) (fun _ => ?_)
    refine lv_iconst (v := 0) cx.1 cx.2.1 dX3_takeCry_9 (by decide) ?_
    obtain ⟨e0, e1⟩ := hq0 _ _ (Option.some.inj hr).symm
    exact h_iret cx dy hlocks hret rfl e0 (by rw [e1]) dX3_takeCry_10
  · refine lv_if_ne (tgt := 11) cx.1 cx.2.1 dX3_takeCry_6 (by decide) (fun _ => ?_) (fun hn => absurd hn hc)
    refine lv_aload_n cx.1 cx.2.1 dX3_takeCry_11 rfl (lv_at hl 0 rfl) ?_
    obtain ⟨u6, g5, hc7, hr⟩ := of_bnd2 hr
    refine r_v dy (k_V (As := []) (b := k0) (ci := 3) cx fx dy (c_X3_advance hc7) mv_X3_advance rfl rfl ⟨Nat.le_trans (by decide) hR.1, Nat.le_trans (by decide) hR.2⟩ tb_556 hv3 rfl (by decide) rfl hl.1 rfl (Nat.le_of_ble_eq_true rfl) ⟨Nat.zero_le _, Nat.zero_le _⟩ dX3_takeCry_12) (fun H locs dy => ?_)
    refine lv_iconst (v := 1) cx.1 cx.2.1 dX3_takeCry_15 (by decide) ?_
    obtain ⟨e0, e1⟩ := hq0 _ _ (Option.some.inj hr).symm
    exact h_iret cx dy hlocks hret rfl e0 (by rw [e1]) dX3_takeCry_16
noncomputable def r_X3_takeWord (V : Vk) (k0 : Nat) (a1 : Nat) (g : Hq) : Option (Unit × Hq) :=
  grd (V k0 = some (3, 0)) <| bnd (r_X3_isWord V k0 a1 g) fun x2 g1 => brn (x2 = 0) (bnd (r_X3_blame V k0 (1 : Int32) g1) fun u6 g5 => bnd (r_X3_advance V k0 g5) fun u9 g8 => some ((), g8)) (bnd (r_X3_advance V k0 g1) fun u12 g11 => some ((), g11))
set_option maxHeartbeats 4000000 in
set_option maxRecDepth 100000 in
theorem c_X3_takeWord {l : Launch} {D : va_G} {cA : Nat → ClassId} {sk : (Nat → Nat) × (Nat → Nat)} {ad : Nat → Nat} {A : Nat → Prop} {V : Vk} {k0 : Nat} {a1 : Nat} {g g0 : Hq} (hr : r_X3_takeWord V k0 a1 g = some ((), g0)) : Met l yX3_takeWord (wM yX3_takeWord cX3_takeWord 2 none) { frames := 5, cells := 0, slots := 0, locals := 107 } (Pre D cA sk ad (V, g) A [.ref (ad k0), .ref (sk.1 a1)]) (QV D cA ad A (V, g0)) 0 0 A := by
  refine Met.ofW (cc := cX3_takeWord) (maxL := 2) (ret := none) (by decide) rfl ?_
  intro p e s m args below meth c s₁ B hml hv
  obtain ⟨rfl, fx, w0⟩ := hv
  have hts := atoms_spec (ws := wM yX3_takeWord cX3_takeWord 2 none) B.pre
  have cx : CallFix p m c cX3_takeWord 2 s ([.ref (ad k0), .ref (sk.1 a1)] : List Value).toArray gw_tbl RX3 := ⟨B.exec, B.bytes, hml, findClass_of_methodNamed B.named, fun w hw => hts w (List.mem_cons_of_mem _ hw)⟩
  have hlocks := B.notSynchronized
  have hret := B.returns
  have hR : 5 ≤ (headSpec (wM yX3_takeWord cX3_takeWord 2 none) { frames := 5, cells := 0, slots := 0, locals := 107 }).room.frames ∧ 107 ≤ (headSpec (wM yX3_takeWord cX3_takeWord 2 none) { frames := 5, cells := 0, slots := 0, locals := 107 }).room.locals := ⟨Nat.le_refl _, Nat.le_refl _⟩
  have dy : Dy D cA ad (V, g) A s.heap s.heap [] := ⟨w0, va_S.rf⟩
  have hl := lv_entry [.ref (ad k0), .ref (sk.1 a1)] (n := 2) (Nat.le_of_ble_eq_true rfl)
  rw [lg_entry_eq]
  generalize (lg_sl [.ref (ad k0), .ref (sk.1 a1)] ++ List.replicate (2 - (lg_sl [.ref (ad k0), .ref (sk.1 a1)]).length) Slot.unset).toArray = ls at hl ⊢
  have hl : lv_has ls 2 [(0, .ref (ad k0)), (1, .ref (sk.1 a1))] := hl
  have dy0 : ∃ H0, H0 = s.heap ∧ Dy D cA ad (V, g) A s.heap H0 [] := ⟨_, rfl, dy⟩
  obtain ⟨z, ez⟩ : ∃ z, z = (((), g0) : Unit × Hq) := ⟨_, rfl⟩
  rw [← ez] at hr
  have hq0 : ∀ (rb : Unit) (gb : Hq), z = (rb, gb) → gb = g0 := fun rb gb eb => by rw [ez] at eb; exact (congrArg Prod.snd eb).symm
  clear ez w0 dy0
  unfold r_X3_takeWord at hr
  obtain ⟨H, hH⟩ : ∃ H, H = s.heap := ⟨_, rfl⟩
  obtain ⟨locs, hlo⟩ : ∃ q : List Loc, q = [] := ⟨_, rfl⟩
  have dy : Dy D cA ad (V, g) A s.heap H locs := by rw [hH, hlo]; exact dy
  suffices K : W p l e (headSpec (wM yX3_takeWord cX3_takeWord 2 none) { frames := 5, cells := 0, slots := 0, locals := 107 }).room s m ([.ref (ad k0), .ref (sk.1 a1)] : List Value).toArray below meth c H locs 0 0 (MQ below (QV D cA ad A (V, g0)) ([.ref (ad k0), .ref (sk.1 a1)] : List Value).toArray s 0 0 A) (F0 m 0 ls []) by rw [hH, hlo] at K; exact K
  clear hH hlo
  refine lv_aload_n cx.1 cx.2.1 dX3_takeWord_0 rfl (lv_at hl 0 rfl) ?_
  refine lv_aload_n cx.1 cx.2.1 dX3_takeWord_1 rfl (lv_at hl 1 rfl) ?_
  obtain ⟨hv3, hr⟩ := of_grd hr
  obtain ⟨x2, g1, hc4, hr⟩ := of_bnd2 hr
  refine r_i dy (k_V (As := [.ref (sk.1 a1)]) (b := k0) (ci := 3) cx fx dy (c_X3_isWord hc4) mv_X3_isWord rfl rfl ⟨Nat.le_trans (by decide) hR.1, Nat.le_trans (by decide) hR.2⟩ tb_579 hv3 rfl (by decide) rfl hl.1 rfl (Nat.le_of_ble_eq_true rfl) ⟨Nat.zero_le _, Nat.zero_le _⟩ dX3_takeWord_2) (fun H locs dy => ?_)
  rcases of_brn hr with ⟨hc, hr⟩ | ⟨hc, hr⟩
  · refine lv_if_ne (tgt := 13) cx.1 cx.2.1 dX3_takeWord_5 (by decide) (fun hn => absurd hc hn) (fun _ => ?_)
    refine lv_aload_n cx.1 cx.2.1 dX3_takeWord_8 rfl (lv_at hl 0 rfl) ?_
    refine lv_iconst (v := 1) cx.1 cx.2.1 dX3_takeWord_9 (by decide) ?_
    obtain ⟨u6, g5, hc7, hr⟩ := of_bnd2 hr
    refine r_v dy (k_V (As := [.int (1 : Int32)]) (b := k0) (ci := 3) cx fx dy (c_X3_blame hc7) mv_X3_blame rfl rfl ⟨Nat.le_trans (by decide) hR.1, Nat.le_trans (by decide) hR.2⟩ tb_635 hv3 rfl (by decide) rfl hl.1 rfl (Nat.le_of_ble_eq_true rfl) ⟨Nat.zero_le _, Nat.zero_le _⟩ dX3_takeWord_10) (fun H locs dy => ?_)
    refine lv_aload_n cx.1 cx.2.1 dX3_takeWord_13 rfl (lv_at hl 0 rfl) ?_
    obtain ⟨u9, g8, hc10, hr⟩ := of_bnd2 hr
    refine r_v dy (k_V (As := []) (b := k0) (ci := 3) cx fx dy (c_X3_advance hc10) mv_X3_advance rfl rfl ⟨Nat.le_trans (by decide) hR.1, Nat.le_trans (by decide) hR.2⟩ tb_556 hv3 rfl (by decide) rfl hl.1 rfl (Nat.le_of_ble_eq_true rfl) ⟨Nat.zero_le _, Nat.zero_le _⟩ dX3_takeWord_14) (fun H locs dy => ?_)
    have e1 := hq0 _ _ (Option.some.inj hr).symm
    exact h_vret cx dy hlocks hret (by rw [e1]) dX3_takeWord_17
  · refine lv_if_ne (tgt := 13) cx.1 cx.2.1 dX3_takeWord_5 (by decide) (fun _ => ?_) (fun hn => absurd hn hc)
    refine lv_aload_n cx.1 cx.2.1 dX3_takeWord_13 rfl (lv_at hl 0 rfl) ?_
    obtain ⟨u12, g11, hc13, hr⟩ := of_bnd2 hr
    refine r_v dy (k_V (As := []) (b := k0) (ci := 3) cx fx dy (c_X3_advance hc13) mv_X3_advance rfl rfl ⟨Nat.le_trans (by decide) hR.1, Nat.le_trans (by decide) hR.2⟩ tb_556 hv3 rfl (by decide) rfl hl.1 rfl (Nat.le_of_ble_eq_true rfl) ⟨Nat.zero_le _, Nat.zero_le _⟩ dX3_takeWord_14) (fun H locs dy => ?_)
    have e1 := hq0 _ _ (Option.some.inj hr).symm
    exact h_vret cx dy hlocks hret (by rw [e1]) dX3_takeWord_17
noncomputable def r_X3_takePower (V : Vk) (k0 : Nat) (g : Hq) : Option (Int32 × Hq) :=
  grd (V k0 = some (3, 0)) <| bnd (r_X3_isWord V k0 5 g) fun x2 g1 => brn (x2 = 0) (bnd (r_X3_isWord V k0 6 g1) fun x6 g5 => brn (x6 = 0) (bnd (r_X3_isWord V k0 7 g5) fun x9 g8 => brn (x9 = 0) (bnd (r_X3_blame V k0 (1 : Int32) g8) fun u12 g11 => bnd (r_X3_advance V k0 g11) fun u15 g14 => some ((-1 : Int32), g14)) (bnd (r_X3_advance V k0 g8) fun u18 g17 => some ((2 : Int32), g17))) (bnd (r_X3_advance V k0 g5) fun u21 g20 => some ((1 : Int32), g20))) (bnd (r_X3_advance V k0 g1) fun u24 g23 => some ((0 : Int32), g23))
set_option maxHeartbeats 4000000 in
set_option maxRecDepth 100000 in
theorem c_X3_takePower {l : Launch} {D : va_G} {cA : Nat → ClassId} {sk : (Nat → Nat) × (Nat → Nat)} {ad : Nat → Nat} {A : Nat → Prop} {V : Vk} {k0 : Nat} {g g0 : Hq} {r0 : Int32} (hr : r_X3_takePower V k0 g = some (r0, g0)) : Met l yX3_takePower (wM yX3_takePower cX3_takePower 2 (some .int)) { frames := 5, cells := 0, slots := 0, locals := 107 } (Pre D cA sk ad (V, g) A [.ref (ad k0)]) (QI D cA ad A r0 (V, g0)) 0 0 A := by
  refine Met.ofW (cc := cX3_takePower) (maxL := 2) (ret := (some .int)) (by decide) rfl ?_
  intro p e s m args below meth c s₁ B hml hv
  obtain ⟨rfl, fx, w0⟩ := hv
  have hts := atoms_spec (ws := wM yX3_takePower cX3_takePower 2 (some .int)) B.pre
  have cx : CallFix p m c cX3_takePower 2 s ([.ref (ad k0)] : List Value).toArray gw_tbl RX3 := ⟨B.exec, B.bytes, hml, findClass_of_methodNamed B.named, fun w hw => hts w (List.mem_cons_of_mem _ hw)⟩
  have hlocks := B.notSynchronized
  have hret := B.returns
  have hR : 5 ≤ (headSpec (wM yX3_takePower cX3_takePower 2 (some .int)) { frames := 5, cells := 0, slots := 0, locals := 107 }).room.frames ∧ 107 ≤ (headSpec (wM yX3_takePower cX3_takePower 2 (some .int)) { frames := 5, cells := 0, slots := 0, locals := 107 }).room.locals := ⟨Nat.le_refl _, Nat.le_refl _⟩
  have dy : Dy D cA ad (V, g) A s.heap s.heap [] := ⟨w0, va_S.rf⟩
  have hl := lv_entry [.ref (ad k0)] (n := 2) (Nat.le_of_ble_eq_true rfl)
  rw [lg_entry_eq]
  generalize (lg_sl [.ref (ad k0)] ++ List.replicate (2 - (lg_sl [.ref (ad k0)]).length) Slot.unset).toArray = ls at hl ⊢
  have hl : lv_has ls 2 [(0, .ref (ad k0))] := hl
  have dy0 : ∃ H0, H0 = s.heap ∧ Dy D cA ad (V, g) A s.heap H0 [] := ⟨_, rfl, dy⟩
  obtain ⟨z, ez⟩ : ∃ z, z = (r0, g0) := ⟨_, rfl⟩
  rw [← ez] at hr
  have hq0 : ∀ (rb : Int32) (gb : Hq), z = (rb, gb) → rb = r0 ∧ gb = g0 := fun rb gb eb => by rw [ez] at eb; exact ⟨(congrArg Prod.fst eb).symm, (congrArg Prod.snd eb).symm⟩
  clear ez w0 dy0
  unfold r_X3_takePower at hr
  obtain ⟨H, hH⟩ : ∃ H, H = s.heap := ⟨_, rfl⟩
  obtain ⟨locs, hlo⟩ : ∃ q : List Loc, q = [] := ⟨_, rfl⟩
  have dy : Dy D cA ad (V, g) A s.heap H locs := by rw [hH, hlo]; exact dy
  suffices K : W p l e (headSpec (wM yX3_takePower cX3_takePower 2 (some .int)) { frames := 5, cells := 0, slots := 0, locals := 107 }).room s m ([.ref (ad k0)] : List Value).toArray below meth c H locs 0 0 (MQ below (QI D cA ad A r0 (V, g0)) ([.ref (ad k0)] : List Value).toArray s 0 0 A) (F0 m 0 ls []) by rw [hH, hlo] at K; exact K
  clear hH hlo
  refine lv_aload_n cx.1 cx.2.1 dX3_takePower_0 rfl (lv_at hl 0 rfl) ?_
  refine va_ldcS cx.1 cx.2.1 cx.2.2.2.1 (fx.2.2.1.2.1 5 _ rfl) dX3_takePower_1 ?_
  obtain ⟨hv3, hr⟩ := of_grd hr
  obtain ⟨x2, g1, hc4, hr⟩ := of_bnd2 hr
  refine r_i dy (k_V (As := [.ref (sk.1 5)]) (b := k0) (ci := 3) cx fx dy (c_X3_isWord hc4) mv_X3_isWord rfl rfl ⟨Nat.le_trans (by decide) hR.1, Nat.le_trans (by decide) hR.2⟩ tb_579 hv3 rfl (by decide) rfl hl.1 rfl (Nat.le_of_ble_eq_true rfl) ⟨Nat.zero_le _, Nat.zero_le _⟩ dX3_takePower_3) (fun H locs dy => ?_)
  rcases of_brn hr with ⟨hc, hr⟩ | ⟨hc, hr⟩
  · refine lv_if_eq (tgt := 13) cx.1 cx.2.1 dX3_takePower_6 (by decide) (fun _ => ?_) (fun hn => absurd hc hn)
    refine lv_aload_n cx.1 cx.2.1 dX3_takePower_13 rfl (lv_at hl 0 rfl) ?_
    refine va_ldcS cx.1 cx.2.1 cx.2.2.2.1 (fx.2.2.1.2.1 6 _ rfl) dX3_takePower_14 ?_
    obtain ⟨x6, g5, hc7, hr⟩ := of_bnd2 hr
    refine r_i dy (k_V (As := [.ref (sk.1 6)]) (b := k0) (ci := 3) cx fx dy (c_X3_isWord hc7) mv_X3_isWord rfl rfl ⟨Nat.le_trans (by decide) hR.1, Nat.le_trans (by decide) hR.2⟩ tb_579 hv3 rfl (by decide) rfl hl.1 rfl (Nat.le_of_ble_eq_true rfl) ⟨Nat.zero_le _, Nat.zero_le _⟩ dX3_takePower_16) (fun H locs dy => ?_)
    rcases of_brn hr with ⟨hc, hr⟩ | ⟨hc, hr⟩
    · refine lv_if_eq (tgt := 26) cx.1 cx.2.1 dX3_takePower_19 (by decide) (fun _ => ?_) (fun hn => absurd hc hn)
      refine lv_aload_n cx.1 cx.2.1 dX3_takePower_26 rfl (lv_at hl 0 rfl) ?_
      refine va_ldcS cx.1 cx.2.1 cx.2.2.2.1 (fx.2.2.1.2.1 7 _ rfl) dX3_takePower_27 ?_
      obtain ⟨x9, g8, hc10, hr⟩ := of_bnd2 hr
      refine r_i dy (k_V (As := [.ref (sk.1 7)]) (b := k0) (ci := 3) cx fx dy (c_X3_isWord hc10) mv_X3_isWord rfl rfl ⟨Nat.le_trans (by decide) hR.1, Nat.le_trans (by decide) hR.2⟩ tb_579 hv3 rfl (by decide) rfl hl.1 rfl (Nat.le_of_ble_eq_true rfl) ⟨Nat.zero_le _, Nat.zero_le _⟩ dX3_takePower_29) (fun H locs dy => ?_)
      rcases of_brn hr with ⟨hc, hr⟩ | ⟨hc, hr⟩
      · refine lv_if_eq (tgt := 39) cx.1 cx.2.1 dX3_takePower_32 (by decide) (fun _ => ?_) (fun hn => absurd hc hn)
        refine lv_iconst (v := (-1)) cx.1 cx.2.1 dX3_takePower_39 (by decide) ?_
        refine lv_istore_n (lv' := [(1, .int (-1 : Int32)), (0, .ref (ad k0))]) cx.1 cx.2.1 dX3_takePower_40 rfl hl (by decide) rfl (fun ls hl => ?_)
        refine lv_iload_n cx.1 cx.2.1 dX3_takePower_41 rfl (lv_at hl 0 rfl) ?_
        refine lv_iconst (v := (-1)) cx.1 cx.2.1 dX3_takePower_42 (by decide) ?_
        refine lv_icmp_ne (tgt := 51) cx.1 cx.2.1 dX3_takePower_43 (by decide) (fun hn => absurd hn (by decide)) (fun _ => ?_)
        refine lv_aload_n cx.1 cx.2.1 dX3_takePower_46 rfl (lv_at hl 1 rfl) ?_
        refine lv_iconst (v := 1) cx.1 cx.2.1 dX3_takePower_47 (by decide) ?_
        obtain ⟨u12, g11, hc13, hr⟩ := of_bnd2 hr
        refine r_v dy (k_V (As := [.int (1 : Int32)]) (b := k0) (ci := 3) cx fx dy (c_X3_blame hc13) mv_X3_blame rfl rfl ⟨Nat.le_trans (by decide) hR.1, Nat.le_trans (by decide) hR.2⟩ tb_635 hv3 rfl (by decide) rfl hl.1 rfl (Nat.le_of_ble_eq_true rfl) ⟨Nat.zero_le _, Nat.zero_le _⟩ dX3_takePower_48) (fun H locs dy => ?_)
        refine lv_aload_n cx.1 cx.2.1 dX3_takePower_51 rfl (lv_at hl 1 rfl) ?_
        obtain ⟨u15, g14, hc16, hr⟩ := of_bnd2 hr
        refine r_v dy (k_V (As := []) (b := k0) (ci := 3) cx fx dy (c_X3_advance hc16) mv_X3_advance rfl rfl ⟨Nat.le_trans (by decide) hR.1, Nat.le_trans (by decide) hR.2⟩ tb_556 hv3 rfl (by decide) rfl hl.1 rfl (Nat.le_of_ble_eq_true rfl) ⟨Nat.zero_le _, Nat.zero_le _⟩ dX3_takePower_52) (fun H locs dy => ?_)
        refine lv_iload_n cx.1 cx.2.1 dX3_takePower_55 rfl (lv_at hl 0 rfl) ?_
        obtain ⟨e0, e1⟩ := hq0 _ _ (Option.some.inj hr).symm
        exact h_iret cx dy hlocks hret rfl e0 (by rw [e1]) dX3_takePower_56
      · refine lv_if_eq (tgt := 39) cx.1 cx.2.1 dX3_takePower_32 (by decide) (fun hn => absurd hn hc) (fun _ => ?_)
        refine lv_iconst (v := 2) cx.1 cx.2.1 dX3_takePower_35 (by decide) ?_
        refine lv_goto (tgt := 40) cx.1 cx.2.1 dX3_takePower_36 (by decide) ?_
        refine lv_istore_n (lv' := [(1, .int (2 : Int32)), (0, .ref (ad k0))]) cx.1 cx.2.1 dX3_takePower_40 rfl hl (by decide) rfl (fun ls hl => ?_)
        refine lv_iload_n cx.1 cx.2.1 dX3_takePower_41 rfl (lv_at hl 0 rfl) ?_
        refine lv_iconst (v := (-1)) cx.1 cx.2.1 dX3_takePower_42 (by decide) ?_
        refine lv_icmp_ne (tgt := 51) cx.1 cx.2.1 dX3_takePower_43 (by decide) (fun _ => ?_) (fun hn => absurd hn (by decide))
        refine lv_aload_n cx.1 cx.2.1 dX3_takePower_51 rfl (lv_at hl 1 rfl) ?_
        obtain ⟨u18, g17, hc19, hr⟩ := of_bnd2 hr
        refine r_v dy (k_V (As := []) (b := k0) (ci := 3) cx fx dy (c_X3_advance hc19) mv_X3_advance rfl rfl ⟨Nat.le_trans (by decide) hR.1, Nat.le_trans (by decide) hR.2⟩ tb_556 hv3 rfl (by decide) rfl hl.1 rfl (Nat.le_of_ble_eq_true rfl) ⟨Nat.zero_le _, Nat.zero_le _⟩ dX3_takePower_52) (fun H locs dy => ?_)
        refine lv_iload_n cx.1 cx.2.1 dX3_takePower_55 rfl (lv_at hl 0 rfl) ?_
        obtain ⟨e0, e1⟩ := hq0 _ _ (Option.some.inj hr).symm
        exact h_iret cx dy hlocks hret rfl e0 (by rw [e1]) dX3_takePower_56
    · refine lv_if_eq (tgt := 26) cx.1 cx.2.1 dX3_takePower_19 (by decide) (fun hn => absurd hn hc) (fun _ => ?_)
      refine lv_iconst (v := 1) cx.1 cx.2.1 dX3_takePower_22 (by decide) ?_
      refine lv_goto (tgt := 40) cx.1 cx.2.1 dX3_takePower_23 (by decide) ?_
      refine lv_istore_n (lv' := [(1, .int (1 : Int32)), (0, .ref (ad k0))]) cx.1 cx.2.1 dX3_takePower_40 rfl hl (by decide) rfl (fun ls hl => ?_)
      refine lv_iload_n cx.1 cx.2.1 dX3_takePower_41 rfl (lv_at hl 0 rfl) ?_
      refine lv_iconst (v := (-1)) cx.1 cx.2.1 dX3_takePower_42 (by decide) ?_
      refine lv_icmp_ne (tgt := 51) cx.1 cx.2.1 dX3_takePower_43 (by decide) (fun _ => ?_) (fun hn => absurd hn (by decide))
      refine lv_aload_n cx.1 cx.2.1 dX3_takePower_51 rfl (lv_at hl 1 rfl) ?_
      obtain ⟨u21, g20, hc22, hr⟩ := of_bnd2 hr
      refine r_v dy (k_V (As := []) (b := k0) (ci := 3) cx fx dy (c_X3_advance hc22) mv_X3_advance rfl rfl ⟨Nat.le_trans (by decide) hR.1, Nat.le_trans (by decide) hR.2⟩ tb_556 hv3 rfl (by decide) rfl hl.1 rfl (Nat.le_of_ble_eq_true rfl) ⟨Nat.zero_le _, Nat.zero_le _⟩ dX3_takePower_52) (fun H locs dy => ?_)
      refine lv_iload_n cx.1 cx.2.1 dX3_takePower_55 rfl (lv_at hl 0 rfl) ?_
      obtain ⟨e0, e1⟩ := hq0 _ _ (Option.some.inj hr).symm
      exact h_iret cx dy hlocks hret rfl e0 (by rw [e1]) dX3_takePower_56
  · refine lv_if_eq (tgt := 13) cx.1 cx.2.1 dX3_takePower_6 (by decide) (fun hn => absurd hn hc) (fun _ => ?_)
    refine lv_iconst (v := 0) cx.1 cx.2.1 dX3_takePower_9 (by decide) ?_
    refine lv_goto (tgt := 40) cx.1 cx.2.1 dX3_takePower_10 (by decide) ?_
    refine lv_istore_n (lv' := [(1, .int (0 : Int32)), (0, .ref (ad k0))]) cx.1 cx.2.1 dX3_takePower_40 rfl hl (by decide) rfl (fun ls hl => ?_)
    refine lv_iload_n cx.1 cx.2.1 dX3_takePower_41 rfl (lv_at hl 0 rfl) ?_
    refine lv_iconst (v := (-1)) cx.1 cx.2.1 dX3_takePower_42 (by decide) ?_
    refine lv_icmp_ne (tgt := 51) cx.1 cx.2.1 dX3_takePower_43 (by decide) (fun _ => ?_) (fun hn => absurd hn (by decide))
    refine lv_aload_n cx.1 cx.2.1 dX3_takePower_51 rfl (lv_at hl 1 rfl) ?_
    obtain ⟨u24, g23, hc25, hr⟩ := of_bnd2 hr
    refine r_v dy (k_V (As := []) (b := k0) (ci := 3) cx fx dy (c_X3_advance hc25) mv_X3_advance rfl rfl ⟨Nat.le_trans (by decide) hR.1, Nat.le_trans (by decide) hR.2⟩ tb_556 hv3 rfl (by decide) rfl hl.1 rfl (Nat.le_of_ble_eq_true rfl) ⟨Nat.zero_le _, Nat.zero_le _⟩ dX3_takePower_52) (fun H locs dy => ?_)
    refine lv_iload_n cx.1 cx.2.1 dX3_takePower_55 rfl (lv_at hl 0 rfl) ?_
    obtain ⟨e0, e1⟩ := hq0 _ _ (Option.some.inj hr).symm
    exact h_iret cx dy hlocks hret rfl e0 (by rw [e1]) dX3_takePower_56
noncomputable def r_X3_beginOnly (V : Vk) (k0 : Nat) (a1 : Int32) (g : Hq) : Option (Unit × Hq) :=
  grd (V k0 = some (3, 0)) <| brn (((g.1 k0 5) &&& a1) = 0) (nm (sI g k0 5 ((g.1 k0 5) ||| a1)) fun g2 => bnd (r_X3_advance V k0 g2) fun u4 g3 => some ((), g3)) (bnd (r_X3_blame V k0 (3 : Int32) g) fun u7 g6 => nm (sI g6 k0 5 ((g6.1 k0 5) ||| a1)) fun g9 => bnd (r_X3_advance V k0 g9) fun u11 g10 => some ((), g10))
set_option maxHeartbeats 4000000 in
set_option maxRecDepth 100000 in
theorem c_X3_beginOnly {l : Launch} {D : va_G} {cA : Nat → ClassId} {sk : (Nat → Nat) × (Nat → Nat)} {ad : Nat → Nat} {A : Nat → Prop} {V : Vk} {k0 : Nat} {a1 : Int32} {g g0 : Hq} (hr : r_X3_beginOnly V k0 a1 g = some ((), g0)) : Met l yX3_beginOnly (wM yX3_beginOnly cX3_beginOnly 2 none) { frames := 2, cells := 0, slots := 0, locals := 42 } (Pre D cA sk ad (V, g) A [.ref (ad k0), .int a1]) (QV D cA ad A (V, g0)) 0 0 A := by
  refine Met.ofW (cc := cX3_beginOnly) (maxL := 2) (ret := none) (by decide) rfl ?_
  intro p e s m args below meth c s₁ B hml hv
  obtain ⟨rfl, fx, w0⟩ := hv
  have hts := atoms_spec (ws := wM yX3_beginOnly cX3_beginOnly 2 none) B.pre
  have cx : CallFix p m c cX3_beginOnly 2 s ([.ref (ad k0), .int a1] : List Value).toArray gw_tbl RX3 := ⟨B.exec, B.bytes, hml, findClass_of_methodNamed B.named, fun w hw => hts w (List.mem_cons_of_mem _ hw)⟩
  have hlocks := B.notSynchronized
  have hret := B.returns
  have hR : 2 ≤ (headSpec (wM yX3_beginOnly cX3_beginOnly 2 none) { frames := 2, cells := 0, slots := 0, locals := 42 }).room.frames ∧ 42 ≤ (headSpec (wM yX3_beginOnly cX3_beginOnly 2 none) { frames := 2, cells := 0, slots := 0, locals := 42 }).room.locals := ⟨Nat.le_refl _, Nat.le_refl _⟩
  have dy : Dy D cA ad (V, g) A s.heap s.heap [] := ⟨w0, va_S.rf⟩
  have hl := lv_entry [.ref (ad k0), .int a1] (n := 2) (Nat.le_of_ble_eq_true rfl)
  rw [lg_entry_eq]
  generalize (lg_sl [.ref (ad k0), .int a1] ++ List.replicate (2 - (lg_sl [.ref (ad k0), .int a1]).length) Slot.unset).toArray = ls at hl ⊢
  have hl : lv_has ls 2 [(0, .ref (ad k0)), (1, .int a1)] := hl
  have dy0 : ∃ H0, H0 = s.heap ∧ Dy D cA ad (V, g) A s.heap H0 [] := ⟨_, rfl, dy⟩
  obtain ⟨z, ez⟩ : ∃ z, z = (((), g0) : Unit × Hq) := ⟨_, rfl⟩
  rw [← ez] at hr
  have hq0 : ∀ (rb : Unit) (gb : Hq), z = (rb, gb) → gb = g0 := fun rb gb eb => by rw [ez] at eb; exact (congrArg Prod.snd eb).symm
  clear ez w0 dy0
  unfold r_X3_beginOnly at hr
  obtain ⟨H, hH⟩ : ∃ H, H = s.heap := ⟨_, rfl⟩
  obtain ⟨locs, hlo⟩ : ∃ q : List Loc, q = [] := ⟨_, rfl⟩
  have dy : Dy D cA ad (V, g) A s.heap H locs := by rw [hH, hlo]; exact dy
  suffices K : W p l e (headSpec (wM yX3_beginOnly cX3_beginOnly 2 none) { frames := 2, cells := 0, slots := 0, locals := 42 }).room s m ([.ref (ad k0), .int a1] : List Value).toArray below meth c H locs 0 0 (MQ below (QV D cA ad A (V, g0)) ([.ref (ad k0), .int a1] : List Value).toArray s 0 0 A) (F0 m 0 ls []) by rw [hH, hlo] at K; exact K
  clear hH hlo
  refine lv_aload_n cx.1 cx.2.1 dX3_beginOnly_0 rfl (lv_at hl 0 rfl) ?_
  obtain ⟨hv1, hr⟩ := of_grd hr
  refine h_getI cx fx dy fd_3_5 hv1 tb_180 dX3_beginOnly_1 ?_
  refine lv_iload_n cx.1 cx.2.1 dX3_beginOnly_4 rfl (lv_at hl 1 rfl) ?_
  refine lv_iand cx.1 cx.2.1 dX3_beginOnly_5 ?_
  rcases of_brn hr with ⟨hc, hr⟩ | ⟨hc, hr⟩
  · refine lv_if_eq (tgt := 14) cx.1 cx.2.1 dX3_beginOnly_6 (by decide) (fun _ => ?_) (fun hn => absurd hc hn)
    refine lv_aload_n cx.1 cx.2.1 dX3_beginOnly_14 rfl (lv_at hl 0 rfl) ?_
    refine lv_dup cx.1 cx.2.1 dX3_beginOnly_15 rfl ?_
    refine h_getI cx fx dy fd_3_5 hv1 tb_180 dX3_beginOnly_16 ?_
    refine lv_iload_n cx.1 cx.2.1 dX3_beginOnly_19 rfl (lv_at hl 1 rfl) ?_
    refine lv_ior cx.1 cx.2.1 dX3_beginOnly_20 ?_
    obtain ⟨g2, eg2, hr⟩ := of_nm hr
    refine h_putI cx fx dy fd_3_5 (pd_3_5 : PD _ _ _ _ _ .int) rfl rfl rfl hv1 tb_180 dX3_beginOnly_21 (fun H locs dy => ?_)
    replace dy : Dy D cA ad (V, g2) A s.heap H locs := by rw [eg2]; exact dy
    refine lv_aload_n cx.1 cx.2.1 dX3_beginOnly_24 rfl (lv_at hl 0 rfl) ?_
    obtain ⟨u4, g3, hc5, hr⟩ := of_bnd2 hr
    refine r_v dy (k_V (As := []) (b := k0) (ci := 3) cx fx dy (c_X3_advance hc5) mv_X3_advance rfl rfl ⟨Nat.le_trans (by decide) hR.1, Nat.le_trans (by decide) hR.2⟩ tb_556 hv1 rfl (by decide) rfl hl.1 rfl (Nat.le_of_ble_eq_true rfl) ⟨Nat.zero_le _, Nat.zero_le _⟩ dX3_beginOnly_25) (fun H locs dy => ?_)
    have e1 := hq0 _ _ (Option.some.inj hr).symm
    exact h_vret cx dy hlocks hret (by rw [e1]) dX3_beginOnly_28
  · refine lv_if_eq (tgt := 14) cx.1 cx.2.1 dX3_beginOnly_6 (by decide) (fun hn => absurd hn hc) (fun _ => ?_)
    refine lv_aload_n cx.1 cx.2.1 dX3_beginOnly_9 rfl (lv_at hl 0 rfl) ?_
    refine lv_iconst (v := 3) cx.1 cx.2.1 dX3_beginOnly_10 (by decide) ?_
    obtain ⟨u7, g6, hc8, hr⟩ := of_bnd2 hr
    refine r_v dy (k_V (As := [.int (3 : Int32)]) (b := k0) (ci := 3) cx fx dy (c_X3_blame hc8) mv_X3_blame rfl rfl ⟨Nat.le_trans (by decide) hR.1, Nat.le_trans (by decide) hR.2⟩ tb_635 hv1 rfl (by decide) rfl hl.1 rfl (Nat.le_of_ble_eq_true rfl) ⟨Nat.zero_le _, Nat.zero_le _⟩ dX3_beginOnly_11) (fun H locs dy => ?_)
    refine lv_aload_n cx.1 cx.2.1 dX3_beginOnly_14 rfl (lv_at hl 0 rfl) ?_
    refine lv_dup cx.1 cx.2.1 dX3_beginOnly_15 rfl ?_
    refine h_getI cx fx dy fd_3_5 hv1 tb_180 dX3_beginOnly_16 ?_
    refine lv_iload_n cx.1 cx.2.1 dX3_beginOnly_19 rfl (lv_at hl 1 rfl) ?_
    refine lv_ior cx.1 cx.2.1 dX3_beginOnly_20 ?_
    obtain ⟨g9, eg9, hr⟩ := of_nm hr
    refine h_putI cx fx dy fd_3_5 (pd_3_5 : PD _ _ _ _ _ .int) rfl rfl rfl hv1 tb_180 dX3_beginOnly_21 (fun H locs dy => ?_)
    replace dy : Dy D cA ad (V, g9) A s.heap H locs := by rw [eg9]; exact dy
    refine lv_aload_n cx.1 cx.2.1 dX3_beginOnly_24 rfl (lv_at hl 0 rfl) ?_
    obtain ⟨u11, g10, hc12, hr⟩ := of_bnd2 hr
    refine r_v dy (k_V (As := []) (b := k0) (ci := 3) cx fx dy (c_X3_advance hc12) mv_X3_advance rfl rfl ⟨Nat.le_trans (by decide) hR.1, Nat.le_trans (by decide) hR.2⟩ tb_556 hv1 rfl (by decide) rfl hl.1 rfl (Nat.le_of_ble_eq_true rfl) ⟨Nat.zero_le _, Nat.zero_le _⟩ dX3_beginOnly_25) (fun H locs dy => ?_)
    have e1 := hq0 _ _ (Option.some.inj hr).symm
    exact h_vret cx dy hlocks hret (by rw [e1]) dX3_beginOnly_28
noncomputable def r_X3_readPower_12 (V : Vk) (k9 : Nat) (k10 : Nat) (g11 : Hq) : Option (Unit × Hq) :=
  grd (V k9 = some (3, 0)) <| bnd (r_X3_advance V k9 g11) fun u13 g12 => bnd (r_X3_takePower V k9 g12) fun x17 g16 => bnd (r_X3_takeWord V k9 8 g16) fun u20 g19 => bnd (r_X3_takeNumber V k9 (0 : Int32) (23 : Int32) g19) fun x23 g22 => bnd (r_X3_takeWord V k9 9 g22) fun u26 g25 => bnd (r_X3_takeNumber V k9 (0 : Int32) (23 : Int32) g25) fun x29 g28 => bnd (r_X3_takeCry V k9 g28) fun x32 g31 => grd (V k10 = some (4, 0)) <| bnd (r_X4_addPower V k10 x17 x23 x29 x32 g31) fun u35 g34 => some ((), g34)
set_option maxHeartbeats 4000000 in
set_option maxRecDepth 100000 in
theorem w_X3_readPower_12 {p : Program} {l : Launch} {e : Env} {R : Room} {s : State} {m : MethodId} {args : Array Value} {below : List Frame} {meth : Method} {c : Code} {D : va_G} {cA : Nat → ClassId} {sk : (Nat → Nat) × (Nat → Nat)} {ad : Nat → Nat} {A : Nat → Prop} {V : Vk} (cx : CallFix p m c cX3_readPower 5 s args gw_tbl RX3) (fx : Fx D cA sk A s) (hlocks : meth.locks = false) (hret : meth.sig.returnType = none) (hR : 6 ≤ R.frames ∧ 128 ≤ R.locals) (g0 : Hq) (z : (Unit × Hq)) (hq : ∀ (rb : Unit) (gb : Hq), z = (rb, gb) → gb = g0) (k9 : Nat) (k10 : Nat) (g11 : Hq) (hr : r_X3_readPower_12 V k9 k10 g11 = some z) (H : Heap) (locs : List Loc) (ls : Array Slot) (dy : Dy D cA ad (V, g11) A s.heap H locs) (hl : lv_has ls 5 [(0, .ref (ad k9)), (1, .ref (ad k10))]) : W p l e R s m args below meth c H locs 0 0 (MQ below (QV D cA ad A (V, g0)) args s 0 0 A) (F0 m 12 ls []) := by
  unfold r_X3_readPower_12 at hr
  have hq0 := hq
  refine lv_aload_n cx.1 cx.2.1 dX3_readPower_12 rfl (lv_at hl 0 rfl) ?_
  obtain ⟨hv14, hr⟩ := of_grd hr
  obtain ⟨u13, g12, hc15, hr⟩ := of_bnd2 hr
  refine r_v dy (k_V (As := []) (b := k9) (ci := 3) cx fx dy (c_X3_advance hc15) mv_X3_advance rfl rfl ⟨Nat.le_trans (by decide) hR.1, Nat.le_trans (by decide) hR.2⟩ tb_556 hv14 rfl (by decide) rfl hl.1 rfl (Nat.le_of_ble_eq_true rfl) ⟨Nat.zero_le _, Nat.zero_le _⟩ dX3_readPower_13) (fun H locs dy => ?_)
  refine lv_aload_n cx.1 cx.2.1 dX3_readPower_16 rfl (lv_at hl 0 rfl) ?_
  obtain ⟨x17, g16, hc18, hr⟩ := of_bnd2 hr
  refine r_i dy (k_V (As := []) (b := k9) (ci := 3) cx fx dy (c_X3_takePower hc18) mv_X3_takePower rfl rfl ⟨Nat.le_trans (by decide) hR.1, Nat.le_trans (by decide) hR.2⟩ tb_656 hv14 rfl (by decide) rfl hl.1 rfl (Nat.le_of_ble_eq_true rfl) ⟨Nat.zero_le _, Nat.zero_le _⟩ dX3_readPower_17) (fun H locs dy => ?_)
  refine lv_istore_n (lv' := [(2, .int x17), (0, .ref (ad k9)), (1, .ref (ad k10))]) cx.1 cx.2.1 dX3_readPower_20 rfl hl (by decide) rfl (fun ls hl => ?_)
  refine lv_aload_n cx.1 cx.2.1 dX3_readPower_21 rfl (lv_at hl 1 rfl) ?_
  refine va_ldcS cx.1 cx.2.1 cx.2.2.2.1 (fx.2.2.1.2.1 8 _ rfl) dX3_readPower_22 ?_
  obtain ⟨u20, g19, hc21, hr⟩ := of_bnd2 hr
  refine r_v dy (k_V (As := [.ref (sk.1 8)]) (b := k9) (ci := 3) cx fx dy (c_X3_takeWord hc21) mv_X3_takeWord rfl rfl ⟨Nat.le_trans (by decide) hR.1, Nat.le_trans (by decide) hR.2⟩ tb_664 hv14 rfl (by decide) rfl hl.1 rfl (Nat.le_of_ble_eq_true rfl) ⟨Nat.zero_le _, Nat.zero_le _⟩ dX3_readPower_24) (fun H locs dy => ?_)
  refine lv_aload_n cx.1 cx.2.1 dX3_readPower_27 rfl (lv_at hl 1 rfl) ?_
  refine lv_iconst (v := 0) cx.1 cx.2.1 dX3_readPower_28 (by decide) ?_
  refine lv_bipush (v := 23) cx.1 cx.2.1 dX3_readPower_29 (by decide) ?_
  obtain ⟨x23, g22, hc24, hr⟩ := of_bnd2 hr
  refine r_i dy (k_V (As := [.int (0 : Int32), .int (23 : Int32)]) (b := k9) (ci := 3) cx fx dy (c_X3_takeNumber hc24) mv_X3_takeNumber rfl rfl ⟨Nat.le_trans (by decide) hR.1, Nat.le_trans (by decide) hR.2⟩ tb_639 hv14 rfl (by decide) rfl hl.1 rfl (Nat.le_of_ble_eq_true rfl) ⟨Nat.zero_le _, Nat.zero_le _⟩ dX3_readPower_31) (fun H locs dy => ?_)
  refine lv_istore_n (lv' := [(3, .int x23), (2, .int x17), (0, .ref (ad k9)), (1, .ref (ad k10))]) cx.1 cx.2.1 dX3_readPower_34 rfl hl (by decide) rfl (fun ls hl => ?_)
  refine lv_aload_n cx.1 cx.2.1 dX3_readPower_35 rfl (lv_at hl 2 rfl) ?_
  refine va_ldcS cx.1 cx.2.1 cx.2.2.2.1 (fx.2.2.1.2.1 9 _ rfl) dX3_readPower_36 ?_
  obtain ⟨u26, g25, hc27, hr⟩ := of_bnd2 hr
  refine r_v dy (k_V (As := [.ref (sk.1 9)]) (b := k9) (ci := 3) cx fx dy (c_X3_takeWord hc27) mv_X3_takeWord rfl rfl ⟨Nat.le_trans (by decide) hR.1, Nat.le_trans (by decide) hR.2⟩ tb_664 hv14 rfl (by decide) rfl hl.1 rfl (Nat.le_of_ble_eq_true rfl) ⟨Nat.zero_le _, Nat.zero_le _⟩ dX3_readPower_38) (fun H locs dy => ?_)
  refine lv_aload_n cx.1 cx.2.1 dX3_readPower_41 rfl (lv_at hl 2 rfl) ?_
  refine lv_iconst (v := 0) cx.1 cx.2.1 dX3_readPower_42 (by decide) ?_
  refine lv_bipush (v := 23) cx.1 cx.2.1 dX3_readPower_43 (by decide) ?_
  obtain ⟨x29, g28, hc30, hr⟩ := of_bnd2 hr
  refine r_i dy (k_V (As := [.int (0 : Int32), .int (23 : Int32)]) (b := k9) (ci := 3) cx fx dy (c_X3_takeNumber hc30) mv_X3_takeNumber rfl rfl ⟨Nat.le_trans (by decide) hR.1, Nat.le_trans (by decide) hR.2⟩ tb_639 hv14 rfl (by decide) rfl hl.1 rfl (Nat.le_of_ble_eq_true rfl) ⟨Nat.zero_le _, Nat.zero_le _⟩ dX3_readPower_45) (fun H locs dy => ?_)
  refine lv_istore (lv' := [(4, .int x29), (3, .int x23), (2, .int x17), (0, .ref (ad k9)), (1, .ref (ad k10))]) cx.1 cx.2.1 dX3_readPower_48 hl (by decide) rfl (fun ls hl => ?_)
  refine lv_aload_n cx.1 cx.2.1 dX3_readPower_50 rfl (lv_at hl 4 rfl) ?_
  refine lv_iload_n cx.1 cx.2.1 dX3_readPower_51 rfl (lv_at hl 2 rfl) ?_
  refine lv_iload_n cx.1 cx.2.1 dX3_readPower_52 rfl (lv_at hl 1 rfl) ?_
  refine lv_iload cx.1 cx.2.1 dX3_readPower_53 (lv_at hl 0 rfl) ?_
  refine lv_aload_n cx.1 cx.2.1 dX3_readPower_55 rfl (lv_at hl 3 rfl) ?_
  obtain ⟨x32, g31, hc33, hr⟩ := of_bnd2 hr
  refine r_i dy (k_V (As := []) (b := k9) (ci := 3) cx fx dy (c_X3_takeCry hc33) mv_X3_takeCry rfl rfl ⟨Nat.le_trans (by decide) hR.1, Nat.le_trans (by decide) hR.2⟩ tb_669 hv14 rfl (by decide) rfl hl.1 rfl (Nat.le_of_ble_eq_true rfl) ⟨Nat.zero_le _, Nat.zero_le _⟩ dX3_readPower_56) (fun H locs dy => ?_)
  obtain ⟨hv36, hr⟩ := of_grd hr
  obtain ⟨u35, g34, hc37, hr⟩ := of_bnd2 hr
  refine r_v dy (k_V (As := [.int x17, .int x23, .int x29, .int x32]) (b := k10) (ci := 4) cx fx dy (c_X4_addPower hc37) mv_X4_addPower rfl rfl ⟨Nat.le_trans (by decide) hR.1, Nat.le_trans (by decide) hR.2⟩ tb_674 hv36 rfl (by decide) rfl hl.1 rfl (Nat.le_of_ble_eq_true rfl) ⟨Nat.zero_le _, Nat.zero_le _⟩ dX3_readPower_59) (fun H locs dy => ?_)
  have e1 := hq0 _ _ (Option.some.inj hr).symm
  exact h_vret cx dy hlocks hret (by rw [e1]) dX3_readPower_62
noncomputable def r_X3_readPower (V : Vk) (k0 : Nat) (a1 : Nat) (g : Hq) : Option (Unit × Hq) :=
  grd (V a1 = some (4, 0)) <| bnd (r_X4_hasRoomForPower V a1 g) fun x2 g1 => brn (x2 = 0) (grd (V k0 = some (3, 0)) <| bnd (r_X3_blame V k0 (4 : Int32) g1) fun u6 g5 => (r_X3_readPower_12 V k0 a1 g5)) ((r_X3_readPower_12 V k0 a1 g1))
set_option maxHeartbeats 4000000 in
set_option maxRecDepth 100000 in
theorem c_X3_readPower {l : Launch} {D : va_G} {cA : Nat → ClassId} {sk : (Nat → Nat) × (Nat → Nat)} {ad : Nat → Nat} {A : Nat → Prop} {V : Vk} {k0 : Nat} {a1 : Nat} {g g0 : Hq} (hr : r_X3_readPower V k0 a1 g = some ((), g0)) : Met l yX3_readPower (wM yX3_readPower cX3_readPower 5 none) { frames := 6, cells := 0, slots := 0, locals := 128 } (Pre D cA sk ad (V, g) A [.ref (ad k0), .ref (ad a1)]) (QV D cA ad A (V, g0)) 0 0 A := by
  refine Met.ofW (cc := cX3_readPower) (maxL := 5) (ret := none) (by decide) rfl ?_
  intro p e s m args below meth c s₁ B hml hv
  obtain ⟨rfl, fx, w0⟩ := hv
  have hts := atoms_spec (ws := wM yX3_readPower cX3_readPower 5 none) B.pre
  have cx : CallFix p m c cX3_readPower 5 s ([.ref (ad k0), .ref (ad a1)] : List Value).toArray gw_tbl RX3 := ⟨B.exec, B.bytes, hml, findClass_of_methodNamed B.named, fun w hw => hts w (List.mem_cons_of_mem _ hw)⟩
  have hlocks := B.notSynchronized
  have hret := B.returns
  have hR : 6 ≤ (headSpec (wM yX3_readPower cX3_readPower 5 none) { frames := 6, cells := 0, slots := 0, locals := 128 }).room.frames ∧ 128 ≤ (headSpec (wM yX3_readPower cX3_readPower 5 none) { frames := 6, cells := 0, slots := 0, locals := 128 }).room.locals := ⟨Nat.le_refl _, Nat.le_refl _⟩
  have dy : Dy D cA ad (V, g) A s.heap s.heap [] := ⟨w0, va_S.rf⟩
  have hl := lv_entry [.ref (ad k0), .ref (ad a1)] (n := 5) (Nat.le_of_ble_eq_true rfl)
  rw [lg_entry_eq]
  generalize (lg_sl [.ref (ad k0), .ref (ad a1)] ++ List.replicate (5 - (lg_sl [.ref (ad k0), .ref (ad a1)]).length) Slot.unset).toArray = ls at hl ⊢
  have hl : lv_has ls 5 [(0, .ref (ad k0)), (1, .ref (ad a1))] := hl
  have dy0 : ∃ H0, H0 = s.heap ∧ Dy D cA ad (V, g) A s.heap H0 [] := ⟨_, rfl, dy⟩
  obtain ⟨z, ez⟩ : ∃ z, z = (((), g0) : Unit × Hq) := ⟨_, rfl⟩
  rw [← ez] at hr
  have hq0 : ∀ (rb : Unit) (gb : Hq), z = (rb, gb) → gb = g0 := fun rb gb eb => by rw [ez] at eb; exact (congrArg Prod.snd eb).symm
  clear ez w0 dy0
  unfold r_X3_readPower at hr
  obtain ⟨H, hH⟩ : ∃ H, H = s.heap := ⟨_, rfl⟩
  obtain ⟨locs, hlo⟩ : ∃ q : List Loc, q = [] := ⟨_, rfl⟩
  have dy : Dy D cA ad (V, g) A s.heap H locs := by rw [hH, hlo]; exact dy
  suffices K : W p l e (headSpec (wM yX3_readPower cX3_readPower 5 none) { frames := 6, cells := 0, slots := 0, locals := 128 }).room s m ([.ref (ad k0), .ref (ad a1)] : List Value).toArray below meth c H locs 0 0 (MQ below (QV D cA ad A (V, g0)) ([.ref (ad k0), .ref (ad a1)] : List Value).toArray s 0 0 A) (F0 m 0 ls []) by rw [hH, hlo] at K; exact K
  clear hH hlo
  refine lv_aload_n cx.1 cx.2.1 dX3_readPower_0 rfl (lv_at hl 1 rfl) ?_
  obtain ⟨hv3, hr⟩ := of_grd hr
  obtain ⟨x2, g1, hc4, hr⟩ := of_bnd2 hr
  refine r_i dy (k_V (As := []) (b := a1) (ci := 4) cx fx dy (c_X4_hasRoomForPower hc4) mv_X4_hasRoomForPower rfl rfl ⟨Nat.le_trans (by decide) hR.1, Nat.le_trans (by decide) hR.2⟩ tb_652 hv3 rfl (by decide) rfl hl.1 rfl (Nat.le_of_ble_eq_true rfl) ⟨Nat.zero_le _, Nat.zero_le _⟩ dX3_readPower_1) (fun H locs dy => ?_)
  rcases of_brn hr with ⟨hc, hr⟩ | ⟨hc, hr⟩
  · refine lv_if_ne (tgt := 12) cx.1 cx.2.1 dX3_readPower_4 (by decide) (fun hn => absurd hc hn) (fun _ => ?_)
    refine lv_aload_n cx.1 cx.2.1 dX3_readPower_7 rfl (lv_at hl 0 rfl) ?_
    refine lv_iconst (v := 4) cx.1 cx.2.1 dX3_readPower_8 (by decide) ?_
    obtain ⟨hv7, hr⟩ := of_grd hr
    obtain ⟨u6, g5, hc8, hr⟩ := of_bnd2 hr
    refine r_v dy (k_V (As := [.int (4 : Int32)]) (b := k0) (ci := 3) cx fx dy (c_X3_blame hc8) mv_X3_blame rfl rfl ⟨Nat.le_trans (by decide) hR.1, Nat.le_trans (by decide) hR.2⟩ tb_635 hv7 rfl (by decide) rfl hl.1 rfl (Nat.le_of_ble_eq_true rfl) ⟨Nat.zero_le _, Nat.zero_le _⟩ dX3_readPower_9) (fun H locs dy => ?_)
    exact w_X3_readPower_12 cx fx hlocks hret hR g0 z hq0 k0 a1 g5 hr H locs ls dy (lv_sub hl [0, 1] rfl)
  · refine lv_if_ne (tgt := 12) cx.1 cx.2.1 dX3_readPower_4 (by decide) (fun _ => ?_) (fun hn => absurd hn hc)
    exact w_X3_readPower_12 cx fx hlocks hret hR g0 z hq0 k0 a1 g1 hr H locs ls dy (lv_sub hl [0, 1] rfl)
noncomputable def r_X3_readLine (V : Vk) (k0 : Nat) (a1 : Nat) (g : Hq) : Option (Unit × Hq) :=
  grd (V k0 = some (3, 0)) <| bnd (r_X3_isWord V k0 0 g) fun x2 g1 => brn (x2 = 0) (bnd (r_X3_isWord V k0 1 g1) fun x6 g5 => brn (x6 = 0) (bnd (r_X3_isWord V k0 2 g5) fun x9 g8 => brn (x9 = 0) (bnd (r_X3_isWord V k0 3 g8) fun x12 g11 => brn (x12 = 0) (bnd (r_X3_isWord V k0 4 g11) fun x15 g14 => brn (x15 = 0) (bnd (r_X3_isWord V k0 11 g14) fun x18 g17 => brn (x18 = 0) (bnd (r_X3_isWord V k0 12 g17) fun x21 g20 => brn (x21 = 0) (bnd (r_X3_blame V k0 (1 : Int32) g20) fun u24 g23 => some ((), g23)) (bnd (r_X3_beginOnly V k0 (32 : Int32) g20) fun u27 g26 => bnd (r_X3_takeNumber V k0 (0 : Int32) (20 : Int32) g26) fun x30 g29 => grd (V a1 = some (4, 0)) <| nm (sI g29 a1 7 x30) fun g33 => some ((), g33))) (bnd (r_X3_beginOnly V k0 (16 : Int32) g17) fun u35 g34 => bnd (r_X3_takeNumber V k0 (0 : Int32) (999 : Int32) g34) fun x38 g37 => grd (V a1 = some (4, 0)) <| nm (sI g37 a1 5 x38) fun g41 => bnd (r_X3_takeCry V k0 g41) fun x43 g42 => grd (narrow .boolean (.int x43) = .int x43 ∧ fits .boolean (.int x43) = true) <| nm (sI g42 a1 6 x43) fun g45 => some ((), g45))) (bnd (r_X3_readPower V k0 a1 g14) fun u48 g47 => some ((), g47))) (bnd (r_X3_beginOnly V k0 (8 : Int32) g11) fun u51 g50 => bnd (r_X3_takeNumber V k0 (0 : Int32) (9999 : Int32) g50) fun x54 g53 => grd (V a1 = some (4, 0)) <| nm (sI g53 a1 4 x54) fun g57 => some ((), g57))) (bnd (r_X3_beginOnly V k0 (4 : Int32) g8) fun u59 g58 => bnd (r_X3_takeNumber V k0 (0 : Int32) (9999 : Int32) g58) fun x62 g61 => grd (V a1 = some (4, 0)) <| nm (sI g61 a1 3 x62) fun g65 => some ((), g65))) (bnd (r_X3_beginOnly V k0 (2 : Int32) g5) fun u67 g66 => bnd (r_X3_takeNumber V k0 (0 : Int32) (30 : Int32) g66) fun x70 g69 => grd (V a1 = some (4, 0)) <| nm (sI g69 a1 2 x70) fun g73 => some ((), g73))) (bnd (r_X3_beginOnly V k0 (1 : Int32) g1) fun u75 g74 => bnd (r_X3_takeNumber V k0 (0 : Int32) (99 : Int32) g74) fun x78 g77 => grd (V a1 = some (4, 0)) <| nm (sI g77 a1 0 x78) fun g81 => bnd (r_X3_takeNumber V k0 (g81.1 a1 0) (99 : Int32) g81) fun x83 g82 => nm (sI g82 a1 1 x83) fun g85 => some ((), g85))
set_option maxHeartbeats 4000000 in
set_option maxRecDepth 100000 in
theorem c_X3_readLine {l : Launch} {D : va_G} {cA : Nat → ClassId} {sk : (Nat → Nat) × (Nat → Nat)} {ad : Nat → Nat} {A : Nat → Prop} {V : Vk} {k0 : Nat} {a1 : Nat} {g g0 : Hq} (hr : r_X3_readLine V k0 a1 g = some ((), g0)) : Met l yX3_readLine (wM yX3_readLine cX3_readLine 2 none) { frames := 7, cells := 0, slots := 0, locals := 152 } (Pre D cA sk ad (V, g) A [.ref (ad k0), .ref (ad a1)]) (QV D cA ad A (V, g0)) 0 0 A := by
  refine Met.ofW (cc := cX3_readLine) (maxL := 2) (ret := none) (by decide) rfl ?_
  intro p e s m args below meth c s₁ B hml hv
  obtain ⟨rfl, fx, w0⟩ := hv
  have hts := atoms_spec (ws := wM yX3_readLine cX3_readLine 2 none) B.pre
  have cx : CallFix p m c cX3_readLine 2 s ([.ref (ad k0), .ref (ad a1)] : List Value).toArray gw_tbl RX3 := ⟨B.exec, B.bytes, hml, findClass_of_methodNamed B.named, fun w hw => hts w (List.mem_cons_of_mem _ hw)⟩
  have hlocks := B.notSynchronized
  have hret := B.returns
  have hR : 7 ≤ (headSpec (wM yX3_readLine cX3_readLine 2 none) { frames := 7, cells := 0, slots := 0, locals := 152 }).room.frames ∧ 152 ≤ (headSpec (wM yX3_readLine cX3_readLine 2 none) { frames := 7, cells := 0, slots := 0, locals := 152 }).room.locals := ⟨Nat.le_refl _, Nat.le_refl _⟩
  have dy : Dy D cA ad (V, g) A s.heap s.heap [] := ⟨w0, va_S.rf⟩
  have hl := lv_entry [.ref (ad k0), .ref (ad a1)] (n := 2) (Nat.le_of_ble_eq_true rfl)
  rw [lg_entry_eq]
  generalize (lg_sl [.ref (ad k0), .ref (ad a1)] ++ List.replicate (2 - (lg_sl [.ref (ad k0), .ref (ad a1)]).length) Slot.unset).toArray = ls at hl ⊢
  have hl : lv_has ls 2 [(0, .ref (ad k0)), (1, .ref (ad a1))] := hl
  have dy0 : ∃ H0, H0 = s.heap ∧ Dy D cA ad (V, g) A s.heap H0 [] := ⟨_, rfl, dy⟩
  obtain ⟨z, ez⟩ : ∃ z, z = (((), g0) : Unit × Hq) := ⟨_, rfl⟩
  rw [← ez] at hr
  have hq0 : ∀ (rb : Unit) (gb : Hq), z = (rb, gb) → gb = g0 := fun rb gb eb => by rw [ez] at eb; exact (congrArg Prod.snd eb).symm
  clear ez w0 dy0
  unfold r_X3_readLine at hr
  obtain ⟨H, hH⟩ : ∃ H, H = s.heap := ⟨_, rfl⟩
  obtain ⟨locs, hlo⟩ : ∃ q : List Loc, q = [] := ⟨_, rfl⟩
  have dy : Dy D cA ad (V, g) A s.heap H locs := by rw [hH, hlo]; exact dy
  suffices K : W p l e (headSpec (wM yX3_readLine cX3_readLine 2 none) { frames := 7, cells := 0, slots := 0, locals := 152 }).room s m ([.ref (ad k0), .ref (ad a1)] : List Value).toArray below meth c H locs 0 0 (MQ below (QV D cA ad A (V, g0)) ([.ref (ad k0), .ref (ad a1)] : List Value).toArray s 0 0 A) (F0 m 0 ls []) by rw [hH, hlo] at K; exact K
  clear hH hlo
  refine lv_aload_n cx.1 cx.2.1 dX3_readLine_0 rfl (lv_at hl 0 rfl) ?_
  refine va_ldcS cx.1 cx.2.1 cx.2.2.2.1 (fx.2.2.1.2.1 0 _ rfl) dX3_readLine_1 ?_
  obtain ⟨hv3, hr⟩ := of_grd hr
  obtain ⟨x2, g1, hc4, hr⟩ := of_bnd2 hr
  refine r_i dy (k_V (As := [.ref (sk.1 0)]) (b := k0) (ci := 3) cx fx dy (c_X3_isWord hc4) mv_X3_isWord rfl rfl ⟨Nat.le_trans (by decide) hR.1, Nat.le_trans (by decide) hR.2⟩ tb_579 hv3 rfl (by decide) rfl hl.1 rfl (Nat.le_of_ble_eq_true rfl) ⟨Nat.zero_le _, Nat.zero_le _⟩ dX3_readLine_3) (fun H locs dy => ?_)
  rcases of_brn hr with ⟨hc, hr⟩ | ⟨hc, hr⟩
  · refine lv_if_eq (tgt := 42) cx.1 cx.2.1 dX3_readLine_6 (by decide) (fun _ => ?_) (fun hn => absurd hc hn)
    refine lv_aload_n cx.1 cx.2.1 dX3_readLine_42 rfl (lv_at hl 0 rfl) ?_
    refine va_ldcS cx.1 cx.2.1 cx.2.2.2.1 (fx.2.2.1.2.1 1 _ rfl) dX3_readLine_43 ?_
    obtain ⟨x6, g5, hc7, hr⟩ := of_bnd2 hr
    refine r_i dy (k_V (As := [.ref (sk.1 1)]) (b := k0) (ci := 3) cx fx dy (c_X3_isWord hc7) mv_X3_isWord rfl rfl ⟨Nat.le_trans (by decide) hR.1, Nat.le_trans (by decide) hR.2⟩ tb_579 hv3 rfl (by decide) rfl hl.1 rfl (Nat.le_of_ble_eq_true rfl) ⟨Nat.zero_le _, Nat.zero_le _⟩ dX3_readLine_45) (fun H locs dy => ?_)
    rcases of_brn hr with ⟨hc, hr⟩ | ⟨hc, hr⟩
    · refine lv_if_eq (tgt := 70) cx.1 cx.2.1 dX3_readLine_48 (by decide) (fun _ => ?_) (fun hn => absurd hc hn)
      refine lv_aload_n cx.1 cx.2.1 dX3_readLine_70 rfl (lv_at hl 0 rfl) ?_
      refine va_ldcS cx.1 cx.2.1 cx.2.2.2.1 (fx.2.2.1.2.1 2 _ rfl) dX3_readLine_71 ?_
      obtain ⟨x9, g8, hc10, hr⟩ := of_bnd2 hr
      refine r_i dy (k_V (As := [.ref (sk.1 2)]) (b := k0) (ci := 3) cx fx dy (c_X3_isWord hc10) mv_X3_isWord rfl rfl ⟨Nat.le_trans (by decide) hR.1, Nat.le_trans (by decide) hR.2⟩ tb_579 hv3 rfl (by decide) rfl hl.1 rfl (Nat.le_of_ble_eq_true rfl) ⟨Nat.zero_le _, Nat.zero_le _⟩ dX3_readLine_73) (fun H locs dy => ?_)
      rcases of_brn hr with ⟨hc, hr⟩ | ⟨hc, hr⟩
      · refine lv_if_eq (tgt := 99) cx.1 cx.2.1 dX3_readLine_76 (by decide) (fun _ => ?_) (fun hn => absurd hc hn)
        refine lv_aload_n cx.1 cx.2.1 dX3_readLine_99 rfl (lv_at hl 0 rfl) ?_
        refine va_ldcS cx.1 cx.2.1 cx.2.2.2.1 (fx.2.2.1.2.1 3 _ rfl) dX3_readLine_100 ?_
        obtain ⟨x12, g11, hc13, hr⟩ := of_bnd2 hr
        refine r_i dy (k_V (As := [.ref (sk.1 3)]) (b := k0) (ci := 3) cx fx dy (c_X3_isWord hc13) mv_X3_isWord rfl rfl ⟨Nat.le_trans (by decide) hR.1, Nat.le_trans (by decide) hR.2⟩ tb_579 hv3 rfl (by decide) rfl hl.1 rfl (Nat.le_of_ble_eq_true rfl) ⟨Nat.zero_le _, Nat.zero_le _⟩ dX3_readLine_102) (fun H locs dy => ?_)
        rcases of_brn hr with ⟨hc, hr⟩ | ⟨hc, hr⟩
        · refine lv_if_eq (tgt := 129) cx.1 cx.2.1 dX3_readLine_105 (by decide) (fun _ => ?_) (fun hn => absurd hc hn)
          refine lv_aload_n cx.1 cx.2.1 dX3_readLine_129 rfl (lv_at hl 0 rfl) ?_
          refine va_ldcS cx.1 cx.2.1 cx.2.2.2.1 (fx.2.2.1.2.1 4 _ rfl) dX3_readLine_130 ?_
          obtain ⟨x15, g14, hc16, hr⟩ := of_bnd2 hr
          refine r_i dy (k_V (As := [.ref (sk.1 4)]) (b := k0) (ci := 3) cx fx dy (c_X3_isWord hc16) mv_X3_isWord rfl rfl ⟨Nat.le_trans (by decide) hR.1, Nat.le_trans (by decide) hR.2⟩ tb_579 hv3 rfl (by decide) rfl hl.1 rfl (Nat.le_of_ble_eq_true rfl) ⟨Nat.zero_le _, Nat.zero_le _⟩ dX3_readLine_132) (fun H locs dy => ?_)
          rcases of_brn hr with ⟨hc, hr⟩ | ⟨hc, hr⟩
          · refine lv_if_eq (tgt := 146) cx.1 cx.2.1 dX3_readLine_135 (by decide) (fun _ => ?_) (fun hn => absurd hc hn)
            refine lv_aload_n cx.1 cx.2.1 dX3_readLine_146 rfl (lv_at hl 0 rfl) ?_
            refine va_ldcS cx.1 cx.2.1 cx.2.2.2.1 (fx.2.2.1.2.1 11 _ rfl) dX3_readLine_147 ?_
            obtain ⟨x18, g17, hc19, hr⟩ := of_bnd2 hr
            refine r_i dy (k_V (As := [.ref (sk.1 11)]) (b := k0) (ci := 3) cx fx dy (c_X3_isWord hc19) mv_X3_isWord rfl rfl ⟨Nat.le_trans (by decide) hR.1, Nat.le_trans (by decide) hR.2⟩ tb_579 hv3 rfl (by decide) rfl hl.1 rfl (Nat.le_of_ble_eq_true rfl) ⟨Nat.zero_le _, Nat.zero_le _⟩ dX3_readLine_149) (fun H locs dy => ?_)
            rcases of_brn hr with ⟨hc, hr⟩ | ⟨hc, hr⟩
            · refine lv_if_eq (tgt := 184) cx.1 cx.2.1 dX3_readLine_152 (by decide) (fun _ => ?_) (fun hn => absurd hc hn)
              refine lv_aload_n cx.1 cx.2.1 dX3_readLine_184 rfl (lv_at hl 0 rfl) ?_
              refine va_ldcS cx.1 cx.2.1 cx.2.2.2.1 (fx.2.2.1.2.1 12 _ rfl) dX3_readLine_185 ?_
              obtain ⟨x21, g20, hc22, hr⟩ := of_bnd2 hr
              refine r_i dy (k_V (As := [.ref (sk.1 12)]) (b := k0) (ci := 3) cx fx dy (c_X3_isWord hc22) mv_X3_isWord rfl rfl ⟨Nat.le_trans (by decide) hR.1, Nat.le_trans (by decide) hR.2⟩ tb_579 hv3 rfl (by decide) rfl hl.1 rfl (Nat.le_of_ble_eq_true rfl) ⟨Nat.zero_le _, Nat.zero_le _⟩ dX3_readLine_187) (fun H locs dy => ?_)
              rcases of_brn hr with ⟨hc, hr⟩ | ⟨hc, hr⟩
              · refine lv_if_eq (tgt := 213) cx.1 cx.2.1 dX3_readLine_190 (by decide) (fun _ => ?_) (fun hn => absurd hc hn)
                refine lv_aload_n cx.1 cx.2.1 dX3_readLine_213 rfl (lv_at hl 0 rfl) ?_
                refine lv_iconst (v := 1) cx.1 cx.2.1 dX3_readLine_214 (by decide) ?_
                obtain ⟨u24, g23, hc25, hr⟩ := of_bnd2 hr
                refine r_v dy (k_V (As := [.int (1 : Int32)]) (b := k0) (ci := 3) cx fx dy (c_X3_blame hc25) mv_X3_blame rfl rfl ⟨Nat.le_trans (by decide) hR.1, Nat.le_trans (by decide) hR.2⟩ tb_635 hv3 rfl (by decide) rfl hl.1 rfl (Nat.le_of_ble_eq_true rfl) ⟨Nat.zero_le _, Nat.zero_le _⟩ dX3_readLine_215) (fun H locs dy => ?_)
                have e1 := hq0 _ _ (Option.some.inj hr).symm
                exact h_vret cx dy hlocks hret (by rw [e1]) dX3_readLine_218
              · refine lv_if_eq (tgt := 213) cx.1 cx.2.1 dX3_readLine_190 (by decide) (fun hn => absurd hn hc) (fun _ => ?_)
                refine lv_aload_n cx.1 cx.2.1 dX3_readLine_193 rfl (lv_at hl 0 rfl) ?_
                refine lv_bipush (v := 32) cx.1 cx.2.1 dX3_readLine_194 (by decide) ?_
                obtain ⟨u27, g26, hc28, hr⟩ := of_bnd2 hr
                refine r_v dy (k_V (As := [.int (32 : Int32)]) (b := k0) (ci := 3) cx fx dy (c_X3_beginOnly hc28) mv_X3_beginOnly rfl rfl ⟨Nat.le_trans (by decide) hR.1, Nat.le_trans (by decide) hR.2⟩ tb_631 hv3 rfl (by decide) rfl hl.1 rfl (Nat.le_of_ble_eq_true rfl) ⟨Nat.zero_le _, Nat.zero_le _⟩ dX3_readLine_196) (fun H locs dy => ?_)
                refine lv_aload_n cx.1 cx.2.1 dX3_readLine_199 rfl (lv_at hl 1 rfl) ?_
                refine lv_aload_n cx.1 cx.2.1 dX3_readLine_200 rfl (lv_at hl 0 rfl) ?_
                refine lv_iconst (v := 0) cx.1 cx.2.1 dX3_readLine_201 (by decide) ?_
                refine lv_bipush (v := 20) cx.1 cx.2.1 dX3_readLine_202 (by decide) ?_
                obtain ⟨x30, g29, hc31, hr⟩ := of_bnd2 hr
                refine r_i dy (k_V (As := [.int (0 : Int32), .int (20 : Int32)]) (b := k0) (ci := 3) cx fx dy (c_X3_takeNumber hc31) mv_X3_takeNumber rfl rfl ⟨Nat.le_trans (by decide) hR.1, Nat.le_trans (by decide) hR.2⟩ tb_639 hv3 rfl (by decide) rfl hl.1 rfl (Nat.le_of_ble_eq_true rfl) ⟨Nat.zero_le _, Nat.zero_le _⟩ dX3_readLine_204) (fun H locs dy => ?_)
                obtain ⟨hv32, hr⟩ := of_grd hr
                obtain ⟨g33, eg33, hr⟩ := of_nm hr
                refine h_putIN cx fx dy fd_4_7 (pd_4_7 : PD _ _ _ _ _ .int) rfl rfl rfl hv32 tb_286 dX3_readLine_207 (fun H locs dy => ?_)
                replace dy : Dy D cA ad (V, g33) A s.heap H locs := by rw [eg33]; exact dy
                refine lv_goto (tgt := 218) cx.1 cx.2.1 dX3_readLine_210 (by decide) ?_
                have e1 := hq0 _ _ (Option.some.inj hr).symm
                exact h_vret cx dy hlocks hret (by rw [e1]) dX3_readLine_218
            · refine lv_if_eq (tgt := 184) cx.1 cx.2.1 dX3_readLine_152 (by decide) (fun hn => absurd hn hc) (fun _ => ?_)
              refine lv_aload_n cx.1 cx.2.1 dX3_readLine_155 rfl (lv_at hl 0 rfl) ?_
              refine lv_bipush (v := 16) cx.1 cx.2.1 dX3_readLine_156 (by decide) ?_
              obtain ⟨u35, g34, hc36, hr⟩ := of_bnd2 hr
              refine r_v dy (k_V (As := [.int (16 : Int32)]) (b := k0) (ci := 3) cx fx dy (c_X3_beginOnly hc36) mv_X3_beginOnly rfl rfl ⟨Nat.le_trans (by decide) hR.1, Nat.le_trans (by decide) hR.2⟩ tb_631 hv3 rfl (by decide) rfl hl.1 rfl (Nat.le_of_ble_eq_true rfl) ⟨Nat.zero_le _, Nat.zero_le _⟩ dX3_readLine_158) (fun H locs dy => ?_)
              refine lv_aload_n cx.1 cx.2.1 dX3_readLine_161 rfl (lv_at hl 1 rfl) ?_
              refine lv_aload_n cx.1 cx.2.1 dX3_readLine_162 rfl (lv_at hl 0 rfl) ?_
              refine lv_iconst (v := 0) cx.1 cx.2.1 dX3_readLine_163 (by decide) ?_
              refine lv_sipush (v := 999) cx.1 cx.2.1 dX3_readLine_164 (by decide) ?_
              obtain ⟨x38, g37, hc39, hr⟩ := of_bnd2 hr
              refine r_i dy (k_V (As := [.int (0 : Int32), .int (999 : Int32)]) (b := k0) (ci := 3) cx fx dy (c_X3_takeNumber hc39) mv_X3_takeNumber rfl rfl ⟨Nat.le_trans (by decide) hR.1, Nat.le_trans (by decide) hR.2⟩ tb_639 hv3 rfl (by decide) rfl hl.1 rfl (Nat.le_of_ble_eq_true rfl) ⟨Nat.zero_le _, Nat.zero_le _⟩ dX3_readLine_167) (fun H locs dy => ?_)
              obtain ⟨hv40, hr⟩ := of_grd hr
              obtain ⟨g41, eg41, hr⟩ := of_nm hr
              refine h_putIN cx fx dy fd_4_5 (pd_4_5 : PD _ _ _ _ _ .int) rfl rfl rfl hv40 tb_281 dX3_readLine_170 (fun H locs dy => ?_)
              replace dy : Dy D cA ad (V, g41) A s.heap H locs := by rw [eg41]; exact dy
              refine lv_aload_n cx.1 cx.2.1 dX3_readLine_173 rfl (lv_at hl 1 rfl) ?_
              refine lv_aload_n cx.1 cx.2.1 dX3_readLine_174 rfl (lv_at hl 0 rfl) ?_
              obtain ⟨x43, g42, hc44, hr⟩ := of_bnd2 hr
              refine r_i dy (k_V (As := []) (b := k0) (ci := 3) cx fx dy (c_X3_takeCry hc44) mv_X3_takeCry rfl rfl ⟨Nat.le_trans (by decide) hR.1, Nat.le_trans (by decide) hR.2⟩ tb_669 hv3 rfl (by decide) rfl hl.1 rfl (Nat.le_of_ble_eq_true rfl) ⟨Nat.zero_le _, Nat.zero_le _⟩ dX3_readLine_175) (fun H locs dy => ?_)
              obtain ⟨hb46, hr⟩ := of_grd hr
              obtain ⟨g45, eg45, hr⟩ := of_nm hr
              refine h_putIN cx fx dy fd_4_6 (pd_4_6 : PD _ _ _ _ _ .boolean) rfl hb46.1 hb46.2 hv40 tb_283 dX3_readLine_178 (fun H locs dy => ?_)
              replace dy : Dy D cA ad (V, g45) A s.heap H locs := by rw [eg45]; exact dy
              refine lv_goto (tgt := 218) cx.1 cx.2.1 dX3_readLine_181 (by decide) ?_
              have e1 := hq0 _ _ (Option.some.inj hr).symm
              exact h_vret cx dy hlocks hret (by rw [e1]) dX3_readLine_218
          · refine lv_if_eq (tgt := 146) cx.1 cx.2.1 dX3_readLine_135 (by decide) (fun hn => absurd hn hc) (fun _ => ?_)
            refine lv_aload_n cx.1 cx.2.1 dX3_readLine_138 rfl (lv_at hl 0 rfl) ?_
            refine lv_aload_n cx.1 cx.2.1 dX3_readLine_139 rfl (lv_at hl 1 rfl) ?_
            obtain ⟨u48, g47, hc49, hr⟩ := of_bnd2 hr
            refine r_v dy (k_V (As := [.ref (ad a1)]) (b := k0) (ci := 3) cx fx dy (c_X3_readPower hc49) mv_X3_readPower rfl rfl ⟨Nat.le_trans (by decide) hR.1, Nat.le_trans (by decide) hR.2⟩ tb_648 hv3 rfl (by decide) rfl hl.1 rfl (Nat.le_of_ble_eq_true rfl) ⟨Nat.zero_le _, Nat.zero_le _⟩ dX3_readLine_140) (fun H locs dy => ?_)
            refine lv_goto (tgt := 218) cx.1 cx.2.1 dX3_readLine_143 (by decide) ?_
            have e1 := hq0 _ _ (Option.some.inj hr).symm
            exact h_vret cx dy hlocks hret (by rw [e1]) dX3_readLine_218
        · refine lv_if_eq (tgt := 129) cx.1 cx.2.1 dX3_readLine_105 (by decide) (fun hn => absurd hn hc) (fun _ => ?_)
          refine lv_aload_n cx.1 cx.2.1 dX3_readLine_108 rfl (lv_at hl 0 rfl) ?_
          refine lv_bipush (v := 8) cx.1 cx.2.1 dX3_readLine_109 (by decide) ?_
          obtain ⟨u51, g50, hc52, hr⟩ := of_bnd2 hr
          refine r_v dy (k_V (As := [.int (8 : Int32)]) (b := k0) (ci := 3) cx fx dy (c_X3_beginOnly hc52) mv_X3_beginOnly rfl rfl ⟨Nat.le_trans (by decide) hR.1, Nat.le_trans (by decide) hR.2⟩ tb_631 hv3 rfl (by decide) rfl hl.1 rfl (Nat.le_of_ble_eq_true rfl) ⟨Nat.zero_le _, Nat.zero_le _⟩ dX3_readLine_111) (fun H locs dy => ?_)
          refine lv_aload_n cx.1 cx.2.1 dX3_readLine_114 rfl (lv_at hl 1 rfl) ?_
          refine lv_aload_n cx.1 cx.2.1 dX3_readLine_115 rfl (lv_at hl 0 rfl) ?_
          refine lv_iconst (v := 0) cx.1 cx.2.1 dX3_readLine_116 (by decide) ?_
          refine lv_sipush (v := 9999) cx.1 cx.2.1 dX3_readLine_117 (by decide) ?_
          obtain ⟨x54, g53, hc55, hr⟩ := of_bnd2 hr
          refine r_i dy (k_V (As := [.int (0 : Int32), .int (9999 : Int32)]) (b := k0) (ci := 3) cx fx dy (c_X3_takeNumber hc55) mv_X3_takeNumber rfl rfl ⟨Nat.le_trans (by decide) hR.1, Nat.le_trans (by decide) hR.2⟩ tb_639 hv3 rfl (by decide) rfl hl.1 rfl (Nat.le_of_ble_eq_true rfl) ⟨Nat.zero_le _, Nat.zero_le _⟩ dX3_readLine_120) (fun H locs dy => ?_)
          obtain ⟨hv56, hr⟩ := of_grd hr
          obtain ⟨g57, eg57, hr⟩ := of_nm hr
          refine h_putIN cx fx dy fd_4_4 (pd_4_4 : PD _ _ _ _ _ .int) rfl rfl rfl hv56 tb_277 dX3_readLine_123 (fun H locs dy => ?_)
          replace dy : Dy D cA ad (V, g57) A s.heap H locs := by rw [eg57]; exact dy
          refine lv_goto (tgt := 218) cx.1 cx.2.1 dX3_readLine_126 (by decide) ?_
          have e1 := hq0 _ _ (Option.some.inj hr).symm
          exact h_vret cx dy hlocks hret (by rw [e1]) dX3_readLine_218
      · refine lv_if_eq (tgt := 99) cx.1 cx.2.1 dX3_readLine_76 (by decide) (fun hn => absurd hn hc) (fun _ => ?_)
        refine lv_aload_n cx.1 cx.2.1 dX3_readLine_79 rfl (lv_at hl 0 rfl) ?_
        refine lv_iconst (v := 4) cx.1 cx.2.1 dX3_readLine_80 (by decide) ?_
        obtain ⟨u59, g58, hc60, hr⟩ := of_bnd2 hr
        refine r_v dy (k_V (As := [.int (4 : Int32)]) (b := k0) (ci := 3) cx fx dy (c_X3_beginOnly hc60) mv_X3_beginOnly rfl rfl ⟨Nat.le_trans (by decide) hR.1, Nat.le_trans (by decide) hR.2⟩ tb_631 hv3 rfl (by decide) rfl hl.1 rfl (Nat.le_of_ble_eq_true rfl) ⟨Nat.zero_le _, Nat.zero_le _⟩ dX3_readLine_81) (fun H locs dy => ?_)
        refine lv_aload_n cx.1 cx.2.1 dX3_readLine_84 rfl (lv_at hl 1 rfl) ?_
        refine lv_aload_n cx.1 cx.2.1 dX3_readLine_85 rfl (lv_at hl 0 rfl) ?_
        refine lv_iconst (v := 0) cx.1 cx.2.1 dX3_readLine_86 (by decide) ?_
        refine lv_sipush (v := 9999) cx.1 cx.2.1 dX3_readLine_87 (by decide) ?_
        obtain ⟨x62, g61, hc63, hr⟩ := of_bnd2 hr
        refine r_i dy (k_V (As := [.int (0 : Int32), .int (9999 : Int32)]) (b := k0) (ci := 3) cx fx dy (c_X3_takeNumber hc63) mv_X3_takeNumber rfl rfl ⟨Nat.le_trans (by decide) hR.1, Nat.le_trans (by decide) hR.2⟩ tb_639 hv3 rfl (by decide) rfl hl.1 rfl (Nat.le_of_ble_eq_true rfl) ⟨Nat.zero_le _, Nat.zero_le _⟩ dX3_readLine_90) (fun H locs dy => ?_)
        obtain ⟨hv64, hr⟩ := of_grd hr
        obtain ⟨g65, eg65, hr⟩ := of_nm hr
        refine h_putIN cx fx dy fd_4_3 (pd_4_3 : PD _ _ _ _ _ .int) rfl rfl rfl hv64 tb_273 dX3_readLine_93 (fun H locs dy => ?_)
        replace dy : Dy D cA ad (V, g65) A s.heap H locs := by rw [eg65]; exact dy
        refine lv_goto (tgt := 218) cx.1 cx.2.1 dX3_readLine_96 (by decide) ?_
        have e1 := hq0 _ _ (Option.some.inj hr).symm
        exact h_vret cx dy hlocks hret (by rw [e1]) dX3_readLine_218
    · refine lv_if_eq (tgt := 70) cx.1 cx.2.1 dX3_readLine_48 (by decide) (fun hn => absurd hn hc) (fun _ => ?_)
      refine lv_aload_n cx.1 cx.2.1 dX3_readLine_51 rfl (lv_at hl 0 rfl) ?_
      refine lv_iconst (v := 2) cx.1 cx.2.1 dX3_readLine_52 (by decide) ?_
      obtain ⟨u67, g66, hc68, hr⟩ := of_bnd2 hr
      refine r_v dy (k_V (As := [.int (2 : Int32)]) (b := k0) (ci := 3) cx fx dy (c_X3_beginOnly hc68) mv_X3_beginOnly rfl rfl ⟨Nat.le_trans (by decide) hR.1, Nat.le_trans (by decide) hR.2⟩ tb_631 hv3 rfl (by decide) rfl hl.1 rfl (Nat.le_of_ble_eq_true rfl) ⟨Nat.zero_le _, Nat.zero_le _⟩ dX3_readLine_53) (fun H locs dy => ?_)
      refine lv_aload_n cx.1 cx.2.1 dX3_readLine_56 rfl (lv_at hl 1 rfl) ?_
      refine lv_aload_n cx.1 cx.2.1 dX3_readLine_57 rfl (lv_at hl 0 rfl) ?_
      refine lv_iconst (v := 0) cx.1 cx.2.1 dX3_readLine_58 (by decide) ?_
      refine lv_bipush (v := 30) cx.1 cx.2.1 dX3_readLine_59 (by decide) ?_
      obtain ⟨x70, g69, hc71, hr⟩ := of_bnd2 hr
      refine r_i dy (k_V (As := [.int (0 : Int32), .int (30 : Int32)]) (b := k0) (ci := 3) cx fx dy (c_X3_takeNumber hc71) mv_X3_takeNumber rfl rfl ⟨Nat.le_trans (by decide) hR.1, Nat.le_trans (by decide) hR.2⟩ tb_639 hv3 rfl (by decide) rfl hl.1 rfl (Nat.le_of_ble_eq_true rfl) ⟨Nat.zero_le _, Nat.zero_le _⟩ dX3_readLine_61) (fun H locs dy => ?_)
      obtain ⟨hv72, hr⟩ := of_grd hr
      obtain ⟨g73, eg73, hr⟩ := of_nm hr
      refine h_putIN cx fx dy fd_4_2 (pd_4_2 : PD _ _ _ _ _ .int) rfl rfl rfl hv72 tb_269 dX3_readLine_64 (fun H locs dy => ?_)
      replace dy : Dy D cA ad (V, g73) A s.heap H locs := by rw [eg73]; exact dy
      refine lv_goto (tgt := 218) cx.1 cx.2.1 dX3_readLine_67 (by decide) ?_
      have e1 := hq0 _ _ (Option.some.inj hr).symm
      exact h_vret cx dy hlocks hret (by rw [e1]) dX3_readLine_218
  · refine lv_if_eq (tgt := 42) cx.1 cx.2.1 dX3_readLine_6 (by decide) (fun hn => absurd hn hc) (fun _ => ?_)
    refine lv_aload_n cx.1 cx.2.1 dX3_readLine_9 rfl (lv_at hl 0 rfl) ?_
    refine lv_iconst (v := 1) cx.1 cx.2.1 dX3_readLine_10 (by decide) ?_
    obtain ⟨u75, g74, hc76, hr⟩ := of_bnd2 hr
    refine r_v dy (k_V (As := [.int (1 : Int32)]) (b := k0) (ci := 3) cx fx dy (c_X3_beginOnly hc76) mv_X3_beginOnly rfl rfl ⟨Nat.le_trans (by decide) hR.1, Nat.le_trans (by decide) hR.2⟩ tb_631 hv3 rfl (by decide) rfl hl.1 rfl (Nat.le_of_ble_eq_true rfl) ⟨Nat.zero_le _, Nat.zero_le _⟩ dX3_readLine_11) (fun H locs dy => ?_)
    refine lv_aload_n cx.1 cx.2.1 dX3_readLine_14 rfl (lv_at hl 1 rfl) ?_
    refine lv_aload_n cx.1 cx.2.1 dX3_readLine_15 rfl (lv_at hl 0 rfl) ?_
    refine lv_iconst (v := 0) cx.1 cx.2.1 dX3_readLine_16 (by decide) ?_
    refine lv_bipush (v := 99) cx.1 cx.2.1 dX3_readLine_17 (by decide) ?_
    obtain ⟨x78, g77, hc79, hr⟩ := of_bnd2 hr
    refine r_i dy (k_V (As := [.int (0 : Int32), .int (99 : Int32)]) (b := k0) (ci := 3) cx fx dy (c_X3_takeNumber hc79) mv_X3_takeNumber rfl rfl ⟨Nat.le_trans (by decide) hR.1, Nat.le_trans (by decide) hR.2⟩ tb_639 hv3 rfl (by decide) rfl hl.1 rfl (Nat.le_of_ble_eq_true rfl) ⟨Nat.zero_le _, Nat.zero_le _⟩ dX3_readLine_19) (fun H locs dy => ?_)
    obtain ⟨hv80, hr⟩ := of_grd hr
    obtain ⟨g81, eg81, hr⟩ := of_nm hr
    refine h_putIN cx fx dy fd_4_0 (pd_4_0 : PD _ _ _ _ _ .int) rfl rfl rfl hv80 tb_263 dX3_readLine_22 (fun H locs dy => ?_)
    replace dy : Dy D cA ad (V, g81) A s.heap H locs := by rw [eg81]; exact dy
    refine lv_aload_n cx.1 cx.2.1 dX3_readLine_25 rfl (lv_at hl 1 rfl) ?_
    refine lv_aload_n cx.1 cx.2.1 dX3_readLine_26 rfl (lv_at hl 0 rfl) ?_
    refine lv_aload_n cx.1 cx.2.1 dX3_readLine_27 rfl (lv_at hl 1 rfl) ?_
    refine h_getIN cx fx dy fd_4_0 hv80 tb_263 dX3_readLine_28 ?_
    refine lv_bipush (v := 99) cx.1 cx.2.1 dX3_readLine_31 (by decide) ?_
    obtain ⟨x83, g82, hc84, hr⟩ := of_bnd2 hr
    refine r_i dy (k_V (As := [.int (g81.1 a1 0), .int (99 : Int32)]) (b := k0) (ci := 3) cx fx dy (c_X3_takeNumber hc84) mv_X3_takeNumber rfl rfl ⟨Nat.le_trans (by decide) hR.1, Nat.le_trans (by decide) hR.2⟩ tb_639 hv3 rfl (by decide) rfl hl.1 rfl (Nat.le_of_ble_eq_true rfl) ⟨Nat.zero_le _, Nat.zero_le _⟩ dX3_readLine_33) (fun H locs dy => ?_)
    obtain ⟨g85, eg85, hr⟩ := of_nm hr
    refine h_putIN cx fx dy fd_4_1 (pd_4_1 : PD _ _ _ _ _ .int) rfl rfl rfl hv80 tb_266 dX3_readLine_36 (fun H locs dy => ?_)
    replace dy : Dy D cA ad (V, g85) A s.heap H locs := by rw [eg85]; exact dy
    refine lv_goto (tgt := 218) cx.1 cx.2.1 dX3_readLine_39 (by decide) ?_
    have e1 := hq0 _ _ (Option.some.inj hr).symm
    exact h_vret cx dy hlocks hret (by rw [e1]) dX3_readLine_218
noncomputable def r_X3_read_30' (V : Vk) (k13 : Nat) (k14 : Nat) (x15 : Int32) (g16 : Hq) : Option ((Nat × Nat × Int32 × Hq) ⊕ (Int32 × Hq)) :=
  grd (V k13 = some (3, 0)) <| brn ((g16.1 k13 1) = 0) (brn ((g16.1 k13 6) = 0) (some (.inr (x15, g16))) (some (.inr ((-1 : Int32), g16)))) (brn ((g16.1 k13 6) = 0) (Option.bind (g16.2.2 k13 0) fun k18 => grd (V k18 = some (8, 0)) <| bnd (r_X8_length V k18 g16) fun x21 g20 => brn (x21 ≤ x15) (brn ((g20.1 k13 6) = 0) (some (.inr (x15, g20))) (some (.inr ((-1 : Int32), g20)))) (bnd (r_X3_readLine V k13 k14 g20) fun u25 g24 => bnd (r_X3_takeSemicolon V k13 g24) fun u28 g27 => nm (x15 + (1 : Int32)) fun x30 => some (.inl (k13, k14, x30, g27)))) (brn ((g16.1 k13 6) = 0) (some (.inr (x15, g16))) (some (.inr ((-1 : Int32), g16)))))
noncomputable def r_X3_read_30 (V : Vk) (st : (Nat × Nat × Int32 × Hq)) : Option ((Nat × Nat × Int32 × Hq) ⊕ (Int32 × Hq)) := r_X3_read_30' V st.1 st.2.1 st.2.2.1 st.2.2.2
set_option maxHeartbeats 4000000 in
set_option maxRecDepth 100000 in
theorem w_X3_read_30 {p : Program} {l : Launch} {e : Env} {R : Room} {s : State} {m : MethodId} {args : Array Value} {below : List Frame} {meth : Method} {c : Code} {D : va_G} {cA : Nat → ClassId} {sk : (Nat → Nat) × (Nat → Nat)} {ad : Nat → Nat} {A : Nat → Prop} {V : Vk} (cx : CallFix p m c cX3_read 3 s args gw_tbl RX3) (fx : Fx D cA sk A s) (hlocks : meth.locks = false) (hret : meth.sig.returnType = (some .int)) (hR : 8 ≤ R.frames ∧ 173 ≤ R.locals) (r0 : Int32) (g0 : Hq) (y : (Int32 × Hq)) (hq : ∀ (rb : Int32) (gb : Hq), y = (rb, gb) → rb = r0 ∧ gb = g0) : ∀ (n : Nat) (k13 : Nat) (k14 : Nat) (x15 : Int32) (g16 : Hq), itr (r_X3_read_30 V) n (k13, k14, x15, g16) = some y → ∀ (H : Heap) (locs : List Loc) (ls : Array Slot), Dy D cA ad (V, g16) A s.heap H locs → lv_has ls 3 [(0, .ref (ad k13)), (1, .ref (ad k14)), (2, .int x15)] → W p l e R s m args below meth c H locs 0 0 (MQ below (QI D cA ad A r0 (V, g0)) args s 0 0 A) (F0 m 30 ls []) := by
  intro n
  induction n with
  | zero => intro k13 k14 x15 g16 hr; cases hr
  | succ n ih =>
    intro k13 k14 x15 g16 hr H locs ls dy hl
    obtain ⟨z, hz, hn1, hn2⟩ := itr_succ hr
    clear hr
    have hr : r_X3_read_30' V k13 k14 x15 g16 = some z := hz
    clear hz
    unfold r_X3_read_30' at hr
    have hh0 : ∀ (b0 : Nat) (b1 : Nat) (b2 : Int32) (gb : Hq), z = .inl (b0, b1, b2, gb) → ∀ (H : Heap) (locs : List Loc) (ls : Array Slot), Dy D cA ad (V, gb) A s.heap H locs → lv_has ls 3 [(0, .ref (ad b0)), (1, .ref (ad b1)), (2, .int b2)] → W p l e R s m args below meth c H locs 0 0 (MQ below (QI D cA ad A r0 (V, g0)) args s 0 0 A) (F0 m 30 ls []) := fun b0 b1 b2 gb eb => ih b0 b1 b2 gb (hn1 _ eb)
    have hq0 : ∀ (rb : Int32) (gb : Hq), z = (.inr (rb, gb)) → rb = r0 ∧ gb = g0 := fun rb gb eb => hq rb gb (hn2 _ eb).symm
    refine lv_aload_n cx.1 cx.2.1 dX3_read_30 rfl (lv_at hl 0 rfl) ?_
    obtain ⟨hv17, hr⟩ := of_grd hr
    refine h_getI cx fx dy fd_3_1 hv17 tb_176 dX3_read_31 ?_
    rcases of_brn hr with ⟨hc, hr⟩ | ⟨hc, hr⟩
    · refine lv_if_eq (tgt := 70) cx.1 cx.2.1 dX3_read_34 (by decide) (fun _ => ?_) (fun hn => absurd hc hn)
      refine lv_aload_n cx.1 cx.2.1 dX3_read_70 rfl (lv_at hl 0 rfl) ?_
      refine h_getI cx fx dy fd_3_6 hv17 tb_181 dX3_read_71 ?_
      rcases of_brn hr with ⟨hc, hr⟩ | ⟨hc, hr⟩
      · refine lv_if_ne (tgt := 81) cx.1 cx.2.1 dX3_read_74 (by decide) (fun hn => absurd hc hn) (fun _ => ?_)
        refine lv_iload_n cx.1 cx.2.1 dX3_read_77 rfl (lv_at hl 2 rfl) ?_
        refine lv_goto (tgt := 82) cx.1 cx.2.1 dX3_read_78 (by decide) ?_
        obtain ⟨e0, e1⟩ := hq0 _ _ (Option.some.inj hr).symm
        exact h_iret cx dy hlocks hret rfl e0 (by rw [e1]) dX3_read_82
      · refine lv_if_ne (tgt := 81) cx.1 cx.2.1 dX3_read_74 (by decide) (fun _ => ?_) (fun hn => absurd hn hc)
        refine lv_iconst (v := (-1)) cx.1 cx.2.1 dX3_read_81 (by decide) ?_
        obtain ⟨e0, e1⟩ := hq0 _ _ (Option.some.inj hr).symm
        exact h_iret cx dy hlocks hret rfl e0 (by rw [e1]) dX3_read_82
    · refine lv_if_eq (tgt := 70) cx.1 cx.2.1 dX3_read_34 (by decide) (fun hn => absurd hn hc) (fun _ => ?_)
      refine lv_aload_n cx.1 cx.2.1 dX3_read_37 rfl (lv_at hl 0 rfl) ?_
      refine h_getI cx fx dy fd_3_6 hv17 tb_181 dX3_read_38 ?_
      rcases of_brn hr with ⟨hc, hr⟩ | ⟨hc, hr⟩
      · refine lv_if_ne (tgt := 70) cx.1 cx.2.1 dX3_read_41 (by decide) (fun hn => absurd hc hn) (fun _ => ?_)
        refine lv_iload_n cx.1 cx.2.1 dX3_read_44 rfl (lv_at hl 2 rfl) ?_
        refine lv_aload_n cx.1 cx.2.1 dX3_read_45 rfl (lv_at hl 0 rfl) ?_
        obtain ⟨k18, hf19, hr⟩ := of_bnd hr
        refine h_getR cx fx dy fd_3_0 hv17 tb_175 hf19 dX3_read_46 ?_
        obtain ⟨hv22, hr⟩ := of_grd hr
        obtain ⟨x21, g20, hc23, hr⟩ := of_bnd2 hr
        refine r_i dy (k_V (As := []) (b := k18) (ci := 8) cx fx dy (c_X8_length hc23) mv_X8_length rfl rfl ⟨Nat.le_trans (by decide) hR.1, Nat.le_trans (by decide) hR.2⟩ tb_560 hv22 rfl (by decide) rfl hl.1 rfl (Nat.le_of_ble_eq_true rfl) ⟨Nat.zero_le _, Nat.zero_le _⟩ dX3_read_49) (fun H locs dy => ?_)
        rcases of_brn hr with ⟨hc, hr⟩ | ⟨hc, hr⟩
        · refine lv_icmp_ge (tgt := 70) cx.1 cx.2.1 dX3_read_52 (by decide) (fun _ => ?_) (fun hn => absurd hc hn)
          refine lv_aload_n cx.1 cx.2.1 dX3_read_70 rfl (lv_at hl 0 rfl) ?_
          refine h_getI cx fx dy fd_3_6 hv17 tb_181 dX3_read_71 ?_
          rcases of_brn hr with ⟨hc, hr⟩ | ⟨hc, hr⟩
          · refine lv_if_ne (tgt := 81) cx.1 cx.2.1 dX3_read_74 (by decide) (fun hn => absurd hc hn) (fun _ => ?_)
            refine lv_iload_n cx.1 cx.2.1 dX3_read_77 rfl (lv_at hl 2 rfl) ?_
            refine lv_goto (tgt := 82) cx.1 cx.2.1 dX3_read_78 (by decide) ?_
            obtain ⟨e0, e1⟩ := hq0 _ _ (Option.some.inj hr).symm
            exact h_iret cx dy hlocks hret rfl e0 (by rw [e1]) dX3_read_82
          · refine lv_if_ne (tgt := 81) cx.1 cx.2.1 dX3_read_74 (by decide) (fun _ => ?_) (fun hn => absurd hn hc)
            refine lv_iconst (v := (-1)) cx.1 cx.2.1 dX3_read_81 (by decide) ?_
            obtain ⟨e0, e1⟩ := hq0 _ _ (Option.some.inj hr).symm
            exact h_iret cx dy hlocks hret rfl e0 (by rw [e1]) dX3_read_82
        · refine lv_icmp_ge (tgt := 70) cx.1 cx.2.1 dX3_read_52 (by decide) (fun hn => absurd hn hc) (fun _ => ?_)
          refine lv_aload_n cx.1 cx.2.1 dX3_read_55 rfl (lv_at hl 0 rfl) ?_
          refine lv_aload_n cx.1 cx.2.1 dX3_read_56 rfl (lv_at hl 1 rfl) ?_
          obtain ⟨u25, g24, hc26, hr⟩ := of_bnd2 hr
          refine r_v dy (k_V (As := [.ref (ad k14)]) (b := k13) (ci := 3) cx fx dy (c_X3_readLine hc26) mv_X3_readLine rfl rfl ⟨Nat.le_trans (by decide) hR.1, Nat.le_trans (by decide) hR.2⟩ tb_574 hv17 rfl (by decide) rfl hl.1 rfl (Nat.le_of_ble_eq_true rfl) ⟨Nat.zero_le _, Nat.zero_le _⟩ dX3_read_57) (fun H locs dy => ?_)
          refine lv_aload_n cx.1 cx.2.1 dX3_read_60 rfl (lv_at hl 0 rfl) ?_
          obtain ⟨u28, g27, hc29, hr⟩ := of_bnd2 hr
          refine r_v dy (k_V (As := []) (b := k13) (ci := 3) cx fx dy (c_X3_takeSemicolon hc29) mv_X3_takeSemicolon rfl rfl ⟨Nat.le_trans (by decide) hR.1, Nat.le_trans (by decide) hR.2⟩ tb_681 hv17 rfl (by decide) rfl hl.1 rfl (Nat.le_of_ble_eq_true rfl) ⟨Nat.zero_le _, Nat.zero_le _⟩ dX3_read_61) (fun H locs dy => ?_)
          obtain ⟨x30, ex30, hr⟩ := of_nm hr
          refine lv_iinc (v := x30) (lv' := [(2, .int x30), (0, .ref (ad k13)), (1, .ref (ad k14))]) cx.1 cx.2.1 dX3_read_64 hl (k := 2) rfl (by rw [ex30]; rfl) (by decide) rfl (fun ls hl => ?_)
          refine lv_goto (tgt := 30) cx.1 cx.2.1 dX3_read_67 (by decide) ?_
          exact hh0 k13 k14 x30 g27 (Option.some.inj hr).symm H locs ls dy (lv_sub hl [1, 2, 0] rfl)
      · refine lv_if_ne (tgt := 70) cx.1 cx.2.1 dX3_read_41 (by decide) (fun _ => ?_) (fun hn => absurd hn hc)
        refine lv_aload_n cx.1 cx.2.1 dX3_read_70 rfl (lv_at hl 0 rfl) ?_
        refine h_getI cx fx dy fd_3_6 hv17 tb_181 dX3_read_71 ?_
        rcases of_brn hr with ⟨hc, hr⟩ | ⟨hc, hr⟩
        · refine lv_if_ne (tgt := 81) cx.1 cx.2.1 dX3_read_74 (by decide) (fun hn => absurd hc hn) (fun _ => ?_)
          refine lv_iload_n cx.1 cx.2.1 dX3_read_77 rfl (lv_at hl 2 rfl) ?_
          refine lv_goto (tgt := 82) cx.1 cx.2.1 dX3_read_78 (by decide) ?_
          obtain ⟨e0, e1⟩ := hq0 _ _ (Option.some.inj hr).symm
          exact h_iret cx dy hlocks hret rfl e0 (by rw [e1]) dX3_read_82
        · refine lv_if_ne (tgt := 81) cx.1 cx.2.1 dX3_read_74 (by decide) (fun _ => ?_) (fun hn => absurd hn hc)
          refine lv_iconst (v := (-1)) cx.1 cx.2.1 dX3_read_81 (by decide) ?_
          obtain ⟨e0, e1⟩ := hq0 _ _ (Option.some.inj hr).symm
          exact h_iret cx dy hlocks hret rfl e0 (by rw [e1]) dX3_read_82
noncomputable def r_X3_read (V : Vk) (k0 : Nat) (a1 : Nat) (g : Hq) : Option (Int32 × Hq) :=
  grd (V k0 = some (3, 0)) <| nm (sI g k0 3 (0 : Int32)) fun g2 => nm (sI g2 k0 5 (0 : Int32)) fun g3 => nm (sI g3 k0 6 (0 : Int32)) fun g4 => nm (sI g4 k0 7 (-1 : Int32)) fun g5 => grd (V a1 = some (4, 0)) <| bnd (r_X4_forget V a1 g5) fun u7 g6 => bnd (r_X3_advance V k0 g6) fun u11 g10 => (lop (r_X3_read_30 V) (k0, a1, (0 : Int32), g10))
set_option maxHeartbeats 4000000 in
set_option maxRecDepth 100000 in
theorem c_X3_read {l : Launch} {D : va_G} {cA : Nat → ClassId} {sk : (Nat → Nat) × (Nat → Nat)} {ad : Nat → Nat} {A : Nat → Prop} {V : Vk} {k0 : Nat} {a1 : Nat} {g g0 : Hq} {r0 : Int32} (hr : r_X3_read V k0 a1 g = some (r0, g0)) : Met l yX3_read (wM yX3_read cX3_read 3 (some .int)) { frames := 8, cells := 0, slots := 0, locals := 173 } (Pre D cA sk ad (V, g) A [.ref (ad k0), .ref (ad a1)]) (QI D cA ad A r0 (V, g0)) 0 0 A := by
  refine Met.ofW (cc := cX3_read) (maxL := 3) (ret := (some .int)) (by decide) rfl ?_
  intro p e s m args below meth c s₁ B hml hv
  obtain ⟨rfl, fx, w0⟩ := hv
  have hts := atoms_spec (ws := wM yX3_read cX3_read 3 (some .int)) B.pre
  have cx : CallFix p m c cX3_read 3 s ([.ref (ad k0), .ref (ad a1)] : List Value).toArray gw_tbl RX3 := ⟨B.exec, B.bytes, hml, findClass_of_methodNamed B.named, fun w hw => hts w (List.mem_cons_of_mem _ hw)⟩
  have hlocks := B.notSynchronized
  have hret := B.returns
  have hR : 8 ≤ (headSpec (wM yX3_read cX3_read 3 (some .int)) { frames := 8, cells := 0, slots := 0, locals := 173 }).room.frames ∧ 173 ≤ (headSpec (wM yX3_read cX3_read 3 (some .int)) { frames := 8, cells := 0, slots := 0, locals := 173 }).room.locals := ⟨Nat.le_refl _, Nat.le_refl _⟩
  have dy : Dy D cA ad (V, g) A s.heap s.heap [] := ⟨w0, va_S.rf⟩
  have hl := lv_entry [.ref (ad k0), .ref (ad a1)] (n := 3) (Nat.le_of_ble_eq_true rfl)
  rw [lg_entry_eq]
  generalize (lg_sl [.ref (ad k0), .ref (ad a1)] ++ List.replicate (3 - (lg_sl [.ref (ad k0), .ref (ad a1)]).length) Slot.unset).toArray = ls at hl ⊢
  have hl : lv_has ls 3 [(0, .ref (ad k0)), (1, .ref (ad a1))] := hl
  have dy0 : ∃ H0, H0 = s.heap ∧ Dy D cA ad (V, g) A s.heap H0 [] := ⟨_, rfl, dy⟩
  obtain ⟨z, ez⟩ : ∃ z, z = (r0, g0) := ⟨_, rfl⟩
  rw [← ez] at hr
  have hq0 : ∀ (rb : Int32) (gb : Hq), z = (rb, gb) → rb = r0 ∧ gb = g0 := fun rb gb eb => by rw [ez] at eb; exact ⟨(congrArg Prod.fst eb).symm, (congrArg Prod.snd eb).symm⟩
  clear ez w0 dy0
  unfold r_X3_read at hr
  obtain ⟨H, hH⟩ : ∃ H, H = s.heap := ⟨_, rfl⟩
  obtain ⟨locs, hlo⟩ : ∃ q : List Loc, q = [] := ⟨_, rfl⟩
  have dy : Dy D cA ad (V, g) A s.heap H locs := by rw [hH, hlo]; exact dy
  suffices K : W p l e (headSpec (wM yX3_read cX3_read 3 (some .int)) { frames := 8, cells := 0, slots := 0, locals := 173 }).room s m ([.ref (ad k0), .ref (ad a1)] : List Value).toArray below meth c H locs 0 0 (MQ below (QI D cA ad A r0 (V, g0)) ([.ref (ad k0), .ref (ad a1)] : List Value).toArray s 0 0 A) (F0 m 0 ls []) by rw [hH, hlo] at K; exact K
  clear hH hlo
  refine lv_aload_n cx.1 cx.2.1 dX3_read_0 rfl (lv_at hl 0 rfl) ?_
  refine lv_iconst (v := 0) cx.1 cx.2.1 dX3_read_1 (by decide) ?_
  obtain ⟨hv1, hr⟩ := of_grd hr
  obtain ⟨g2, eg2, hr⟩ := of_nm hr
  refine h_putI cx fx dy fd_3_3 (pd_3_3 : PD _ _ _ _ _ .int) rfl rfl rfl hv1 tb_178 dX3_read_2 (fun H locs dy => ?_)
  replace dy : Dy D cA ad (V, g2) A s.heap H locs := by rw [eg2]; exact dy
  refine lv_aload_n cx.1 cx.2.1 dX3_read_5 rfl (lv_at hl 0 rfl) ?_
  refine lv_iconst (v := 0) cx.1 cx.2.1 dX3_read_6 (by decide) ?_
  obtain ⟨g3, eg3, hr⟩ := of_nm hr
  refine h_putI cx fx dy fd_3_5 (pd_3_5 : PD _ _ _ _ _ .int) rfl rfl rfl hv1 tb_180 dX3_read_7 (fun H locs dy => ?_)
  replace dy : Dy D cA ad (V, g3) A s.heap H locs := by rw [eg3]; exact dy
  refine lv_aload_n cx.1 cx.2.1 dX3_read_10 rfl (lv_at hl 0 rfl) ?_
  refine lv_iconst (v := 0) cx.1 cx.2.1 dX3_read_11 (by decide) ?_
  obtain ⟨g4, eg4, hr⟩ := of_nm hr
  refine h_putI cx fx dy fd_3_6 (pd_3_6 : PD _ _ _ _ _ .int) rfl rfl rfl hv1 tb_181 dX3_read_12 (fun H locs dy => ?_)
  replace dy : Dy D cA ad (V, g4) A s.heap H locs := by rw [eg4]; exact dy
  refine lv_aload_n cx.1 cx.2.1 dX3_read_15 rfl (lv_at hl 0 rfl) ?_
  refine lv_iconst (v := (-1)) cx.1 cx.2.1 dX3_read_16 (by decide) ?_
  obtain ⟨g5, eg5, hr⟩ := of_nm hr
  refine h_putI cx fx dy fd_3_7 (pd_3_7 : PD _ _ _ _ _ .int) rfl rfl rfl hv1 tb_182 dX3_read_17 (fun H locs dy => ?_)
  replace dy : Dy D cA ad (V, g5) A s.heap H locs := by rw [eg5]; exact dy
  refine lv_aload_n cx.1 cx.2.1 dX3_read_20 rfl (lv_at hl 1 rfl) ?_
  obtain ⟨hv8, hr⟩ := of_grd hr
  obtain ⟨u7, g6, hc9, hr⟩ := of_bnd2 hr
  refine r_v dy (k_V (As := []) (b := a1) (ci := 4) cx fx dy (c_X4_forget hc9) mv_X4_forget rfl rfl ⟨Nat.le_trans (by decide) hR.1, Nat.le_trans (by decide) hR.2⟩ tb_555 hv8 rfl (by decide) rfl hl.1 rfl (Nat.le_of_ble_eq_true rfl) ⟨Nat.zero_le _, Nat.zero_le _⟩ dX3_read_21) (fun H locs dy => ?_)
  refine lv_aload_n cx.1 cx.2.1 dX3_read_24 rfl (lv_at hl 0 rfl) ?_
  obtain ⟨u11, g10, hc12, hr⟩ := of_bnd2 hr
  refine r_v dy (k_V (As := []) (b := k0) (ci := 3) cx fx dy (c_X3_advance hc12) mv_X3_advance rfl rfl ⟨Nat.le_trans (by decide) hR.1, Nat.le_trans (by decide) hR.2⟩ tb_556 hv1 rfl (by decide) rfl hl.1 rfl (Nat.le_of_ble_eq_true rfl) ⟨Nat.zero_le _, Nat.zero_le _⟩ dX3_read_25) (fun H locs dy => ?_)
  refine lv_iconst (v := 0) cx.1 cx.2.1 dX3_read_28 (by decide) ?_
  refine lv_istore_n (lv' := [(2, .int (0 : Int32)), (0, .ref (ad k0)), (1, .ref (ad a1))]) cx.1 cx.2.1 dX3_read_29 rfl hl (by decide) rfl (fun ls hl => ?_)
  obtain ⟨n, hr⟩ := lop_some hr
  exact w_X3_read_30 cx fx hlocks hret hR r0 g0 z hq0 n k0 a1 (0 : Int32) g10 hr H locs ls dy (lv_sub hl [1, 2, 0] rfl)
