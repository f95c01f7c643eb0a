theorem ar_prim {s : State} {A : Array Value} {ty : FieldType} (hp : ∀ U cA, U.vm.findClass ("[" ++ ty.toString) = some cA → va_RA U cA ty) (h : (Cond.arrayClass ty).before A s = true) : ∃ cA : ClassId, ArrOfT s cA ty ∧ va_RA s cA ty := by
  obtain ⟨c, k, comp, h1, h2, h3⟩ := Cond.arrayClass_spec h
  exact ⟨c, fun n z => ⟨fun k h => (by cases h), k, h2, comp, h3⟩, hp _ _ h1⟩
theorem ar_obj {s : State} {A : Array Value} {C : String} (h : (Cond.arrayOver (.object C)).before A s = true) : ∃ cA : ClassId, ArrOfT s cA (.object C) ∧ va_RA s cA (.object C) := by
  obtain ⟨comp, c, k, h1, h2, h3, h4, h5⟩ := Cond.arrayOver_spec h
  exact ⟨c, fun n z => ⟨fun k h => (by cases h), k, h3, comp, h4⟩, k, comp, h3, h4, h1, h5⟩
set_option maxHeartbeats 4000000 in
set_option maxRecDepth 100000 in
theorem lw_fx {p : Program} {s : State} {m : MethodId} {meth : Method} {c : Code} {b L : Nat} {xs : Nat → Int32} (C0 : lw_At p s m meth c b L xs) : ∃ (D : va_G) (cA : Nat → ClassId) (sk : (Nat → Nat) × (Nat → Nat)), Fx D cA sk (fun q => s.heap.size ≤ q) s := by
  obtain ⟨hx, hb, hr, hml, hown, hts, hX, hbl, hlocks, hgv⟩ := C0
  have hg : ∀ w ∈ gw_tbl, w.before #[Value.ref b] s = true := fun w hw => hts w (List.mem_filter.mp hw).1
  have hf : ∀ w ∈ flS, w.before #[Value.ref b] s = true := fun w hw => fl_in hgv hw
  have hA : ∀ a : Nat, a < s.heap.size → ¬ s.heap.size ≤ a := fun a h => Nat.not_le.mpr h
  obtain ⟨c0, i0, k0⟩ := u_known (C := RX0) (T := TX0) (N := 5) (n := 5) hg inX0 (hg _ nd_0.2.2.1)
  obtain ⟨c1, i1, k1⟩ := u_known (C := RX1) (T := TX1) (N := 4) (n := 4) hg inX1 (hg _ nd_1.2.2.1)
  obtain ⟨c2, i2, k2⟩ := u_known (C := RX2) (T := TX2) (N := 6) (n := 6) hg inX2 (hg _ nd_2.2.2.1)
  obtain ⟨c3, i3, k3⟩ := u_known (C := RX3) (T := TX3) (N := 8) (n := 8) hg inX3 (hg _ nd_3.2.2.1)
  obtain ⟨c4, i4, k4⟩ := u_known (C := RX4) (T := TX4) (N := 13) (n := 13) hg inX4 (hg _ nd_4.2.2.1)
  obtain ⟨c5, i5, k5⟩ := u_known (C := RX5) (T := TX5) (N := 2) (n := 2) hg inX5 (hg _ nd_5.2.2.1)
  obtain ⟨c6, i6, k6⟩ := u_known (C := RX6) (T := TX6) (N := 12) (n := 12) hg inX6 (hg _ nd_6.2.2.1)
  obtain ⟨c7, i7, k7⟩ := u_known (C := RX7) (T := TX7) (N := 2) (n := 2) hg inX7 (hg _ nd_7.2.2.1)
  obtain ⟨c8, i8, k8⟩ := u_known (C := RX8) (T := TX8) (N := 2) (n := 2) hg inX8 (hg _ nd_8.2.2.1)
  obtain ⟨c9, i9, k9⟩ := u_known (C := RX9) (T := TX9) (N := 5) (n := 5) hg inX9 (hg _ nd_9.2.2.1)
  obtain ⟨c10, i10, k10⟩ := u_known (C := RX10) (T := TX10) (N := 9) (n := 9) hg inX10 (hg _ nd_10.2.2.1)
  obtain ⟨c11, i11, k11⟩ := u_known (C := RX11) (T := TX11) (N := 9) (n := 9) hg inX11 (hg _ nd_11.2.2.1)
  obtain ⟨c12, i12, k12⟩ := u_known (C := RX12) (T := TX12) (N := 56) (n := 56) hg inX12 (hg _ nd_12.2.2.1)
  obtain ⟨a0, p0⟩ := ar_prim (ty := .int) (fun _ _ h => h) (hg _ tb_117)
  obtain ⟨a1, p1⟩ := ar_prim (ty := .byte) (fun _ _ h => h) (hg _ tb_91)
  obtain ⟨a2, p2⟩ := ar_prim (ty := .boolean) (fun _ _ h => h) (hg _ tb_319)
  obtain ⟨a3, p3⟩ := ar_prim (ty := .long) (fun _ _ h => h) (hg _ tb_168)
  obtain ⟨a4, p4⟩ := ar_obj (C := RX10) (hts _ tb_201)
  obtain ⟨a5, p5⟩ := ar_obj (C := RX2) (hts _ tb_209)
  obtain ⟨a6, p6⟩ := ar_obj (C := RX0) (hts _ tb_224)
  obtain ⟨adK, adV, hS, hE⟩ := vk_Sof (args := #[Value.ref b]) (s := s) (N := 14) (tm := tmS) (len := lenS) (byt := bytS) (A := fun q => s.heap.size ≤ q) st_ln (fun i hi => hf _ (st_ex i hi)) (fun i hi => hf _ (st_co i hi)) (fun i hi => hf _ (st_ar i hi)) (fun i hi => hf _ (st_le i hi)) (fun i hi j hj => hf _ (st_el i hi j hj)) (fun i j hi hj hij => (st_ne i hi j hj hij).elim (fun h => Or.inl (hf _ h)) (fun h => Or.inr (hf _ h))) hA
  refine ⟨(fun k => [c0, c1, c2, c3, c4, c5, c6, c7, c8, c9, c10, c11, c12].getD k c0, fun k => [i0, i1, i2, i3, i4, i5, i6, i7, i8, i9, i10, i11, i12].getD k i0), fun t => [a0, a1, a2, a3, a4, a5, a6].getD t a0, (adK, adV), ⟨?_, ?_⟩, ?_, ⟨hS, ?_, ?_, ?_⟩, fun q h => h⟩
  · intro k q hq
    match k, hq with
    | 0, hq => cases hq; exact k0
    | 1, hq => cases hq; exact k1
    | 2, hq => cases hq; exact k2
    | 3, hq => cases hq; exact k3
    | 4, hq => cases hq; exact k4
    | 5, hq => cases hq; exact k5
    | 6, hq => cases hq; exact k6
    | 7, hq => cases hq; exact k7
    | 8, hq => cases hq; exact k8
    | 9, hq => cases hq; exact k9
    | 10, hq => cases hq; exact k10
    | 11, hq => cases hq; exact k11
    | 12, hq => cases hq; exact k12
    | k + 13, hq => simp [vwCl] at hq
  · intro k q hq
    match k, hq with
    | 0, hq => cases hq; exact p0
    | 1, hq => cases hq; exact p1
    | 2, hq => cases hq; exact p2
    | 3, hq => cases hq; exact p3
    | 4, hq => cases hq; exact p4
    | 5, hq => cases hq; exact p5
    | 6, hq => cases hq; exact p6
    | k + 7, hq => simp [tysA] at hq
  · intro w h1 h2
    have h3 := hts w h1
    cases w with
    | fieldLinkNest a b c d e f => exact va_Nw.of rfl h3
    | methodLinkNest a b c d => exact va_Nw.of rfl h3
    | arrayOver ty =>
      cases ty with
      | object C => exact h3
      | _ => cases h2
    | _ => cases h2
  · intro i q hq
    have hi : i < 14 := (List.getElem?_eq_some_iff.mp hq).1
    have e1 : sT.getD i ("", 0, "") = q := by rw [List.getD_eq_getElem?_getD, hq]; rfl
    have h1 := hts _ (st_rf i hi)
    have h2 := hE i hi
    unfold tmS at h2
    rw [e1] at h1 h2
    exact vk_R.of h1 h2
  · exact va_Zof (args := #[Value.ref b]) (hts _ tb_592) (hg _ tb_64) (va_eqt (hf _ st_cs)) hA
  · rcases va_Zqof (args := #[Value.ref b]) (A := fun q => s.heap.size ≤ q) (hts _ tb_608) (hg _ tb_66) (hf _ st_sf) hA with h | ⟨t, h⟩
    · exact ⟨none, h⟩
    · exact ⟨some t, h⟩
def V00 : Vk := fun _ => none
def g00 : Hq := (fun _ _ => 0, fun _ _ => 0, fun _ _ => none)
/-- what is left to the pure side -/
def PureMain (xs : Nat → Int32) (L : Nat) : Prop := ∃ V1 g1 V2 g2, r_X11_init (newV V00 0 (11, 0)) 0 (newG g00 0) = some ((), V1, g1) ∧ V1 0 ≠ none ∧ frK V1 g1 70 ∧ r_X12_init (newV V1 70 (12, 0)) 70 (newG g1 70) = some ((), V2, g2) ∧ itr (r_L_18 xs L) 600 (0, V2, g2) = some 1
set_option maxHeartbeats 4000000 in
set_option maxRecDepth 100000 in
theorem start_of {p : Program} {e : Env} {s : State} {m : MethodId} {below : List Frame} {meth : Method} {c : Code} (l : Launch) {b L : Nat} {xs : Nat → Int32} (hp : PureMain xs L) (C0 : lw_At p s m meth c b L xs) : W p l e room_1 s m #[Value.ref b] below meth c s.heap [] 0 0 (lw_Z below #[Value.ref b] s) (entryFrame m ([Value.ref b] : List Value).toArray 4) := by
  obtain ⟨D, cA, sk, fx⟩ := lw_fx C0
  obtain ⟨V1, g1, V2, g2, q1, q2, q3, q4, q5⟩ := hp
  obtain ⟨hx, hb, hr, hml, hown, hts, hX, hbl, hlocks, hgv⟩ := C0
  have cx : CallFix p m c cL_law 4 s #[Value.ref b] gw_tbl RL := ⟨hx, hb, hml, hown, fun w hw => hts w (List.mem_filter.mp hw).1⟩
  obtain ⟨A, eA⟩ : ∃ A : Nat → Prop, A = fun q => s.heap.size ≤ q := ⟨_, rfl⟩
  rw [← eA] at fx
  have hbA : ¬ A b := by rw [eA]; exact Nat.not_le.mpr hbl
  have hAf : ∀ q, A q → s.heap.size ≤ q := fun q h => by rw [eA] at h; exact h
  clear eA
  have dy : Dy D cA (fun _ => 0) (V00, g00) A s.heap s.heap [] := ⟨⟨[], fun k => by simp [V00], fun k q h => by simp [wl] at h, ⟨fun i j p q h => by simp [wl] at h, fun k q h => by simp [wl] at h⟩⟩, va_S.rf⟩
  have hl := lv_entry ([.ref b]) (n := 4) (Nat.le_of_ble_eq_true rfl)
  rw [lg_entry_eq]
  generalize (lg_sl ([.ref b]) ++ List.replicate (4 - (lg_sl ([.ref b])).length) Slot.unset).toArray = ls at hl ⊢
  have hl : lv_has ls 4 [(0, .ref b)] := hl
  refine h_new cx fx dy (k := 0) ⟨rfl, fun a j h => by cases h⟩ nd_11 tb_70 (by decide) (by decide) dL_law_0 (fun ad H hz dy => ?_)
  refine lv_dup cx.1 cx.2.1 dL_law_3 rfl ?_
  refine r_va dy (k_I (As := []) (b := 0) cx fx dy (c_X11_init q1) mv_X11_init rfl rfl ⟨by decide, by decide⟩ tb_72 rfl hl.1 rfl (Nat.le_of_ble_eq_true rfl) ⟨by decide, by decide⟩ dL_law_4) (fun ad H locs hz dy => ?_)
  rw [← (hz 0 (by simp [newV])).2]
  refine lv_astore_n (lv' := [(1, .ref (ad 0)), (0, .ref b)]) cx.1 cx.2.1 dL_law_7 rfl hl (by decide) rfl (fun ls hl => ?_)
  refine h_new cx fx dy (k := 70) q3 nd_12 tb_972 (by decide) (by decide) dL_law_8 (fun ad H hz dy => ?_)
  rw [← hz 0 (by decide)] at hl
  refine lv_dup cx.1 cx.2.1 dL_law_11 rfl ?_
  refine r_va dy (k_I (As := []) (b := 70) cx fx dy (c_X12_init q4) mv_X12_init rfl rfl ⟨by decide, by decide⟩ tb_974 rfl hl.1 rfl (Nat.le_of_ble_eq_true rfl) ⟨by decide, by decide⟩ dL_law_12) (fun ad H locs hz dy => ?_)
  rw [← (hz 70 (by simp [newV])).2]
  rw [← (hz 0 (by simp [newV, q2])).2] at hl
  refine lv_astore_n (lv' := [(2, .ref (ad 70)), (1, .ref (ad 0)), (0, .ref b)]) cx.1 cx.2.1 dL_law_15 rfl hl (by decide) rfl (fun ls hl => ?_)
  refine lv_iconst (v := 0) cx.1 cx.2.1 dL_law_16 (by decide) ?_
  refine lv_istore_n (lv' := [(3, .int 0), (2, .ref (ad 70)), (1, .ref (ad 0)), (0, .ref b)]) cx.1 cx.2.1 dL_law_17 rfl hl (by decide) rfl (fun ls hl => ?_)
  refine W.widen (k := 200 + (600 - 600)) (n := 100000 + 6 * (600 - 600)) (by decide) (by decide) ?_
  exact w_L_18 cx fx hX hbl hbA hr hlocks hAf 600 0 V2 g2 (Nat.le_refl _) q5 ad H locs ls dy (lv_sub hl [3, 2, 1, 0] rfl)
