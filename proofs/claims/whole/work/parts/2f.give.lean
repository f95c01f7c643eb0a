noncomputable def r_X12_give_180' (rec : Nat → Int32 → Int32 → Hq → Option (Unit × Hq)) (V : Vk) (k10 : Nat) (x11 : Int32) (g12 : Hq) : Option ((Nat × Int32 × Hq) ⊕ (Unit × Hq)) :=
  grd (V k10 = some (12, 0)) <| brn ((g12.1 k10 15) ≤ x11) (some (.inr ((), g12))) (Option.bind (g12.2.2 k10 19) fun k14 => Option.bind (g12.2.2 k10 18) fun k16 => grd (okV V k16 0 x11) <| grd (okV V k14 0 x11) <| nm (sI g12 k14 x11.toNatClampNeg (g12.1 k16 x11.toNatClampNeg)) fun g20 => nm (x11 + (1 : Int32)) fun x21 => some (.inl (k10, x21, g20)))
noncomputable def r_X12_give_180 (rec : Nat → Int32 → Int32 → Hq → Option (Unit × Hq)) (V : Vk) (st : (Nat × Int32 × Hq)) : Option ((Nat × Int32 × Hq) ⊕ (Unit × Hq)) := r_X12_give_180' rec V st.1 st.2.1 st.2.2
set_option maxHeartbeats 4000000 in
set_option maxRecDepth 100000 in
theorem w_X12_give_180 {p : Program} {l : Launch} {e : Env} {R : Room} {s : State} {m : MethodId} {args : Array Value} {below : List Frame} {meth : Method} {c : Code} {D : va_G} {cA : Nat → ClassId} {sk : (Nat → Nat) × (Nat → Nat)} {ad : Nat → Nat} {A : Nat → Prop} {V : Vk} {rec : Nat → Int32 → Int32 → Hq → Option (Unit × Hq)} {d : Nat} (hrec : ∀ {k0 : Nat} {a1 a2 : Int32} {g g0 : Hq}, rec k0 a1 a2 g = some ((), g0) → Met l yX12_give (wM yX12_give cX12_give 5 none) { frames := d, cells := 0, slots := 0, locals := d * 24 } (Pre D cA sk ad (V, g) A [.ref (ad k0), .int a1, .int a2]) (QV D cA ad A (V, g0)) 0 0 A) (cx : CallFix p m c cX12_give 5 s args gw_tbl RX12) (fx : Fx D cA sk A s) (hlocks : meth.locks = false) (hret : meth.sig.returnType = none) (hR : d + 1 ≤ R.frames ∧ 24 + d * 24 ≤ R.locals) (g0 : Hq) (y : (Unit × Hq)) (hq : ∀ (rb : Unit) (gb : Hq), y = (rb, gb) → gb = g0) : ∀ (n : Nat) (k10 : Nat) (x11 : Int32) (g12 : Hq), itr (r_X12_give_180 rec V) n (k10, x11, g12) = some y → ∀ (H : Heap) (locs : List Loc) (ls : Array Slot), Dy D cA ad (V, g12) A s.heap H locs → lv_has ls 5 [(0, .ref (ad k10)), (4, .int x11)] → W p l e R s m args below meth c H locs 0 0 (MQ below (QV D cA ad A (V, g0)) args s 0 0 A) (F0 m 180 ls []) := by
  intro n
  induction n with
  | zero => intro k10 x11 g12 hr; cases hr
  | succ n ih =>
    intro k10 x11 g12 hr H locs ls dy hl
    obtain ⟨z, hz, hn1, hn2⟩ := itr_succ hr
    clear hr
    have hr : r_X12_give_180' rec V k10 x11 g12 = some z := hz
    clear hz
    unfold r_X12_give_180' at hr
    have hh0 : ∀ (b0 : Nat) (b1 : Int32) (gb : Hq), z = .inl (b0, b1, gb) → ∀ (H : Heap) (locs : List Loc) (ls : Array Slot), Dy D cA ad (V, gb) A s.heap H locs → lv_has ls 5 [(0, .ref (ad b0)), (4, .int b1)] → W p l e R s m args below meth c H locs 0 0 (MQ below (QV D cA ad A (V, g0)) args s 0 0 A) (F0 m 180 ls []) := fun b0 b1 gb eb => ih b0 b1 gb (hn1 _ eb)
    have hq0 : ∀ (rb : Unit) (gb : Hq), z = (.inr (rb, gb)) → gb = g0 := fun rb gb eb => hq rb gb (hn2 _ eb).symm
    refine lv_iload cx.1 cx.2.1 dX12_give_180 (lv_at hl 1 rfl) ?_
    refine lv_aload_n cx.1 cx.2.1 dX12_give_182 rfl (lv_at hl 0 rfl) ?_
    obtain ⟨hv13, hr⟩ := of_grd hr
    refine h_getI cx fx dy fd_12_15 hv13 tb_1001 dX12_give_183 ?_
    rcases of_brn hr with ⟨hc, hr⟩ | ⟨hc, hr⟩
    · refine lv_icmp_ge (tgt := 209) cx.1 cx.2.1 dX12_give_186 (by decide) (fun _ => ?_) (fun hn => absurd hc hn)
      have e1 := hq0 _ _ (Option.some.inj hr).symm
      exact h_vret cx dy hlocks hret (by rw [e1]) dX12_give_209
    · refine lv_icmp_ge (tgt := 209) cx.1 cx.2.1 dX12_give_186 (by decide) (fun hn => absurd hn hc) (fun _ => ?_)
      refine lv_aload_n cx.1 cx.2.1 dX12_give_189 rfl (lv_at hl 0 rfl) ?_
      obtain ⟨k14, hf15, hr⟩ := of_bnd hr
      refine h_getR cx fx dy fd_12_19 hv13 tb_1005 hf15 dX12_give_190 ?_
      refine lv_iload cx.1 cx.2.1 dX12_give_193 (lv_at hl 1 rfl) ?_
      refine lv_aload_n cx.1 cx.2.1 dX12_give_195 rfl (lv_at hl 0 rfl) ?_
      obtain ⟨k16, hf17, hr⟩ := of_bnd hr
      refine h_getR cx fx dy fd_12_18 hv13 tb_1004 hf17 dX12_give_196 ?_
      refine lv_iload cx.1 cx.2.1 dX12_give_199 (lv_at hl 1 rfl) ?_
      obtain ⟨ha18, hr⟩ := of_grd hr
      refine h_iald cx fx dy ha18 dX12_give_201 ?_
      obtain ⟨ha19, hr⟩ := of_grd hr
      obtain ⟨g20, eg20, hr⟩ := of_nm hr
      refine h_iast cx fx dy ha19 dX12_give_202 (fun H locs dy => ?_)
      replace dy : Dy D cA ad (V, g20) A s.heap H locs := by rw [eg20]; exact dy
      obtain ⟨x21, ex21, hr⟩ := of_nm hr
      refine lv_iinc (v := x21) (lv' := [(4, .int x21), (0, .ref (ad k10))]) cx.1 cx.2.1 dX12_give_203 hl (k := 1) rfl (by rw [ex21]; rfl) (by decide) rfl (fun ls hl => ?_)
      refine lv_goto (tgt := 180) cx.1 cx.2.1 dX12_give_206 (by decide) ?_
      exact hh0 k10 x21 g20 (Option.some.inj hr).symm H locs ls dy (lv_sub hl [1, 0] rfl)
noncomputable def r_X12_give_105' (rec : Nat → Int32 → Int32 → Hq → Option (Unit × Hq)) (V : Vk) (k2 : Nat) (x3 : Int32) (x4 : Int32) (x5 : Int32) (g6 : Hq) : Option ((Nat × Int32 × Int32 × Int32 × Hq) ⊕ (Unit × Hq)) :=
  brn (x3 ≤ x5) (grd (V k2 = some (12, 0)) <| brn (x3 = (g6.1 k2 21)) (brn (x4 < (g6.1 k2 22)) (nm (sI g6 k2 21 x3) fun g8 => nm (sI g8 k2 22 x4) fun g9 => (Option.map Sum.inr (lop (r_X12_give_180 rec V) (k2, (0 : Int32), g9)))) (some (.inr ((), g6)))) (nm (sI g6 k2 21 x3) fun g22 => nm (sI g22 k2 22 x4) fun g23 => (Option.map Sum.inr (lop (r_X12_give_180 rec V) (k2, (0 : Int32), g23))))) (grd (V k2 = some (12, 0)) <| Option.bind (g6.2.2 k2 17) fun k25 => Option.bind (g6.2.2 k2 20) fun k27 => grd (okV V k27 0 x5) <| grd (okV V k25 0 (g6.1 k27 x5.toNatClampNeg)) <| brn ((g6.1 k25 (g6.1 k27 x5.toNatClampNeg).toNatClampNeg) < (1000000 : Int32)) (Option.bind (g6.2.2 k2 17) fun k31 => Option.bind (g6.2.2 k2 20) fun k33 => grd (okV V k33 0 x5) <| grd (okV V k31 0 (g6.1 k33 x5.toNatClampNeg)) <| nm (x4 + (g6.1 k31 (g6.1 k33 x5.toNatClampNeg).toNatClampNeg)) fun x37 => nm (x5 + (1 : Int32)) fun x38 => some (.inl (k2, x3, x37, x38, g6))) (some (.inr ((), g6))))
noncomputable def r_X12_give_105 (rec : Nat → Int32 → Int32 → Hq → Option (Unit × Hq)) (V : Vk) (st : (Nat × Int32 × Int32 × Int32 × Hq)) : Option ((Nat × Int32 × Int32 × Int32 × Hq) ⊕ (Unit × Hq)) := r_X12_give_105' rec V st.1 st.2.1 st.2.2.1 st.2.2.2.1 st.2.2.2.2
set_option maxHeartbeats 4000000 in
set_option maxRecDepth 100000 in
theorem w_X12_give_105 {p : Program} {l : Launch} {e : Env} {R : Room} {s : State} {m : MethodId} {args : Array Value} {below : List Frame} {meth : Method} {c : Code} {D : va_G} {cA : Nat → ClassId} {sk : (Nat → Nat) × (Nat → Nat)} {ad : Nat → Nat} {A : Nat → Prop} {V : Vk} {rec : Nat → Int32 → Int32 → Hq → Option (Unit × Hq)} {d : Nat} (hrec : ∀ {k0 : Nat} {a1 a2 : Int32} {g g0 : Hq}, rec k0 a1 a2 g = some ((), g0) → Met l yX12_give (wM yX12_give cX12_give 5 none) { frames := d, cells := 0, slots := 0, locals := d * 24 } (Pre D cA sk ad (V, g) A [.ref (ad k0), .int a1, .int a2]) (QV D cA ad A (V, g0)) 0 0 A) (cx : CallFix p m c cX12_give 5 s args gw_tbl RX12) (fx : Fx D cA sk A s) (hlocks : meth.locks = false) (hret : meth.sig.returnType = none) (hR : d + 1 ≤ R.frames ∧ 24 + d * 24 ≤ R.locals) (g0 : Hq) (y : (Unit × Hq)) (hq : ∀ (rb : Unit) (gb : Hq), y = (rb, gb) → gb = g0) : ∀ (n : Nat) (k2 : Nat) (x3 : Int32) (x4 : Int32) (x5 : Int32) (g6 : Hq), itr (r_X12_give_105 rec V) n (k2, x3, x4, x5, g6) = some y → ∀ (H : Heap) (locs : List Loc) (ls : Array Slot), Dy D cA ad (V, g6) A s.heap H locs → lv_has ls 5 [(0, .ref (ad k2)), (2, .int x3), (3, .int x4), (4, .int x5)] → W p l e R s m args below meth c H locs 0 0 (MQ below (QV D cA ad A (V, g0)) args s 0 0 A) (F0 m 105 ls []) := by
  intro n
  induction n with
  | zero => intro k2 x3 x4 x5 g6 hr; cases hr
  | succ n ih =>
    intro k2 x3 x4 x5 g6 hr H locs ls dy hl
    obtain ⟨z, hz, hn1, hn2⟩ := itr_succ hr
    clear hr
    have hr : r_X12_give_105' rec V k2 x3 x4 x5 g6 = some z := hz
    clear hz
    unfold r_X12_give_105' at hr
    have hh0 : ∀ (b0 : Nat) (b1 : Int32) (b2 : Int32) (b3 : Int32) (gb : Hq), z = .inl (b0, b1, b2, b3, gb) → ∀ (H : Heap) (locs : List Loc) (ls : Array Slot), Dy D cA ad (V, gb) A s.heap H locs → lv_has ls 5 [(0, .ref (ad b0)), (2, .int b1), (3, .int b2), (4, .int b3)] → W p l e R s m args below meth c H locs 0 0 (MQ below (QV D cA ad A (V, g0)) args s 0 0 A) (F0 m 105 ls []) := fun b0 b1 b2 b3 gb eb => ih b0 b1 b2 b3 gb (hn1 _ eb)
    have hq0 : ∀ (rb : Unit) (gb : Hq), z = (.inr (rb, gb)) → gb = g0 := fun rb gb eb => hq rb gb (hn2 _ eb).symm
    refine lv_iload cx.1 cx.2.1 dX12_give_105 (lv_at hl 3 rfl) ?_
    refine lv_iload_n cx.1 cx.2.1 dX12_give_107 rfl (lv_at hl 1 rfl) ?_
    rcases of_brn hr with ⟨hc, hr⟩ | ⟨hc, hr⟩
    · refine lv_icmp_ge (tgt := 150) cx.1 cx.2.1 dX12_give_108 (by decide) (fun _ => ?_) (fun hn => absurd hc hn)
      refine lv_iload_n cx.1 cx.2.1 dX12_give_150 rfl (lv_at hl 1 rfl) ?_
      refine lv_aload_n cx.1 cx.2.1 dX12_give_151 rfl (lv_at hl 0 rfl) ?_
      obtain ⟨hv7, hr⟩ := of_grd hr
      refine h_getI cx fx dy fd_12_21 hv7 tb_1007 dX12_give_152 ?_
      rcases of_brn hr with ⟨hc, hr⟩ | ⟨hc, hr⟩
      · refine lv_icmp_ne (tgt := 167) cx.1 cx.2.1 dX12_give_155 (by decide) (fun hn => absurd hc hn) (fun _ => ?_)
        refine lv_iload_n cx.1 cx.2.1 dX12_give_158 rfl (lv_at hl 2 rfl) ?_
        refine lv_aload_n cx.1 cx.2.1 dX12_give_159 rfl (lv_at hl 0 rfl) ?_
        refine h_getI cx fx dy fd_12_22 hv7 tb_1008 dX12_give_160 ?_
        rcases of_brn hr with ⟨hc, hr⟩ | ⟨hc, hr⟩
        · refine lv_icmp_lt (tgt := 167) cx.1 cx.2.1 dX12_give_163 (by decide) (fun _ => ?_) (fun hn => absurd hc hn)
          refine lv_aload_n cx.1 cx.2.1 dX12_give_167 rfl (lv_at hl 0 rfl) ?_
          refine lv_iload_n cx.1 cx.2.1 dX12_give_168 rfl (lv_at hl 1 rfl) ?_
          obtain ⟨g8, eg8, hr⟩ := of_nm hr
          refine h_putI cx fx dy fd_12_21 (pd_12_21 : PD _ _ _ _ _ .int) rfl rfl rfl hv7 tb_1007 dX12_give_169 (fun H locs dy => ?_)
          replace dy : Dy D cA ad (V, g8) A s.heap H locs := by rw [eg8]; exact dy
          refine lv_aload_n cx.1 cx.2.1 dX12_give_172 rfl (lv_at hl 0 rfl) ?_
          refine lv_iload_n cx.1 cx.2.1 dX12_give_173 rfl (lv_at hl 2 rfl) ?_
          obtain ⟨g9, eg9, hr⟩ := of_nm hr
          refine h_putI cx fx dy fd_12_22 (pd_12_22 : PD _ _ _ _ _ .int) rfl rfl rfl hv7 tb_1008 dX12_give_174 (fun H locs dy => ?_)
          replace dy : Dy D cA ad (V, g9) A s.heap H locs := by rw [eg9]; exact dy
          refine lv_iconst (v := 0) cx.1 cx.2.1 dX12_give_177 (by decide) ?_
          refine lv_istore (lv' := [(4, .int (0 : Int32)), (0, .ref (ad k2)), (2, .int x3), (3, .int x4)]) cx.1 cx.2.1 dX12_give_178 hl (by decide) rfl (fun ls hl => ?_)
          obtain ⟨z1, hr, ez1⟩ := of_map hr
          obtain ⟨n, hr⟩ := lop_some hr
          exact w_X12_give_180 hrec cx fx hlocks hret hR g0 z1 (fun rb gb eb => hq0 rb gb (by rw [ez1, eb])) n k2 (0 : Int32) g9 hr H locs ls dy (lv_sub hl [1, 0] rfl)
        · refine lv_icmp_lt (tgt := 167) cx.1 cx.2.1 dX12_give_163 (by decide) (fun hn => absurd hn hc) (fun _ => ?_)
          have e1 := hq0 _ _ (Option.some.inj hr).symm
          exact h_vret cx dy hlocks hret (by rw [e1]) dX12_give_166
      · refine lv_icmp_ne (tgt := 167) cx.1 cx.2.1 dX12_give_155 (by decide) (fun _ => ?_) (fun hn => absurd hn hc)
        refine lv_aload_n cx.1 cx.2.1 dX12_give_167 rfl (lv_at hl 0 rfl) ?_
        refine lv_iload_n cx.1 cx.2.1 dX12_give_168 rfl (lv_at hl 1 rfl) ?_
        obtain ⟨g22, eg22, hr⟩ := of_nm hr
        refine h_putI cx fx dy fd_12_21 (pd_12_21 : PD _ _ _ _ _ .int) rfl rfl rfl hv7 tb_1007 dX12_give_169 (fun H locs dy => ?_)
        replace dy : Dy D cA ad (V, g22) A s.heap H locs := by rw [eg22]; exact dy
        refine lv_aload_n cx.1 cx.2.1 dX12_give_172 rfl (lv_at hl 0 rfl) ?_
        refine lv_iload_n cx.1 cx.2.1 dX12_give_173 rfl (lv_at hl 2 rfl) ?_
        obtain ⟨g23, eg23, hr⟩ := of_nm hr
        refine h_putI cx fx dy fd_12_22 (pd_12_22 : PD _ _ _ _ _ .int) rfl rfl rfl hv7 tb_1008 dX12_give_174 (fun H locs dy => ?_)
        replace dy : Dy D cA ad (V, g23) A s.heap H locs := by rw [eg23]; exact dy
        refine lv_iconst (v := 0) cx.1 cx.2.1 dX12_give_177 (by decide) ?_
        refine lv_istore (lv' := [(4, .int (0 : Int32)), (0, .ref (ad k2)), (2, .int x3), (3, .int x4)]) cx.1 cx.2.1 dX12_give_178 hl (by decide) rfl (fun ls hl => ?_)
        obtain ⟨z1, hr, ez1⟩ := of_map hr
        obtain ⟨n, hr⟩ := lop_some hr
        exact w_X12_give_180 hrec cx fx hlocks hret hR g0 z1 (fun rb gb eb => hq0 rb gb (by rw [ez1, eb])) n k2 (0 : Int32) g23 hr H locs ls dy (lv_sub hl [1, 0] rfl)
    · refine lv_icmp_ge (tgt := 150) cx.1 cx.2.1 dX12_give_108 (by decide) (fun hn => absurd hn hc) (fun _ => ?_)
      refine lv_aload_n cx.1 cx.2.1 dX12_give_111 rfl (lv_at hl 0 rfl) ?_
      obtain ⟨hv24, hr⟩ := of_grd hr
      obtain ⟨k25, hf26, hr⟩ := of_bnd hr
      refine h_getR cx fx dy fd_12_17 hv24 tb_1003 hf26 dX12_give_112 ?_
      refine lv_aload_n cx.1 cx.2.1 dX12_give_115 rfl (lv_at hl 0 rfl) ?_
      obtain ⟨k27, hf28, hr⟩ := of_bnd hr
      refine h_getR cx fx dy fd_12_20 hv24 tb_1006 hf28 dX12_give_116 ?_
      refine lv_iload cx.1 cx.2.1 dX12_give_119 (lv_at hl 3 rfl) ?_
      obtain ⟨ha29, hr⟩ := of_grd hr
      refine h_iald cx fx dy ha29 dX12_give_121 ?_
      obtain ⟨ha30, hr⟩ := of_grd hr
      refine h_iald cx fx dy ha30 dX12_give_122 ?_
      refine lv_ldc (v := (1000000)) cx.1 cx.2.1 cx.2.2.2.1 (cx.2.2.2.2 _ tb_985) dX12_give_123 ?_
      rcases of_brn hr with ⟨hc, hr⟩ | ⟨hc, hr⟩
      · refine lv_icmp_lt (tgt := 129) cx.1 cx.2.1 dX12_give_125 (by decide) (fun _ => ?_) (fun hn => absurd hc hn)
        refine lv_iload_n cx.1 cx.2.1 dX12_give_129 rfl (lv_at hl 2 rfl) ?_
        refine lv_aload_n cx.1 cx.2.1 dX12_give_130 rfl (lv_at hl 0 rfl) ?_
        obtain ⟨k31, hf32, hr⟩ := of_bnd hr
        refine h_getR cx fx dy fd_12_17 hv24 tb_1003 hf32 dX12_give_131 ?_
        refine lv_aload_n cx.1 cx.2.1 dX12_give_134 rfl (lv_at hl 0 rfl) ?_
        obtain ⟨k33, hf34, hr⟩ := of_bnd hr
        refine h_getR cx fx dy fd_12_20 hv24 tb_1006 hf34 dX12_give_135 ?_
        refine lv_iload cx.1 cx.2.1 dX12_give_138 (lv_at hl 3 rfl) ?_
        obtain ⟨ha35, hr⟩ := of_grd hr
        refine h_iald cx fx dy ha35 dX12_give_140 ?_
        obtain ⟨ha36, hr⟩ := of_grd hr
        refine h_iald cx fx dy ha36 dX12_give_141 ?_
        refine lv_iadd cx.1 cx.2.1 dX12_give_142 ?_
        obtain ⟨x37, ex37, hr⟩ := of_nm hr
        refine lv_nmi ex37 ?_
        refine lv_istore_n (lv' := [(3, .int x37), (0, .ref (ad k2)), (2, .int x3), (4, .int x5)]) cx.1 cx.2.1 dX12_give_143 rfl hl (by decide) rfl (fun ls hl => ?_)
        obtain ⟨x38, ex38, hr⟩ := of_nm hr
        refine lv_iinc (v := x38) (lv' := [(4, .int x38), (3, .int x37), (0, .ref (ad k2)), (2, .int x3)]) cx.1 cx.2.1 dX12_give_144 hl (k := 3) rfl (by rw [ex38]; rfl) (by decide) rfl (fun ls hl => ?_)
        refine lv_goto (tgt := 105) cx.1 cx.2.1 dX12_give_147 (by decide) ?_
        exact hh0 k2 x3 x37 x38 g6 (Option.some.inj hr).symm H locs ls dy (lv_sub hl [2, 3, 1, 0] rfl)
      · refine lv_icmp_lt (tgt := 129) cx.1 cx.2.1 dX12_give_125 (by decide) (fun hn => absurd hn hc) (fun _ => ?_)
        have e1 := hq0 _ _ (Option.some.inj hr).symm
        exact h_vret cx dy hlocks hret (by rw [e1]) dX12_give_128
noncomputable def r_X12_give_52 (rec : Nat → Int32 → Int32 → Hq → Option (Unit × Hq)) (V : Vk) (k49 : Nat) (x50 : Int32) (x51 : Int32) (x52 : Int32) (x53 : Int32) (g54 : Hq) : Option ((Nat × Int32 × Int32 × Int32 × Hq) ⊕ (Unit × Hq)) :=
  grd (V k49 = some (12, 0)) <| Option.bind (g54.2.2 k49 20) fun k56 => grd (okV V k56 0 x52) <| nm (sI g54 k56 x52.toNatClampNeg (x53 ||| ((1 : Int32) <<< (x50 &&& 31)))) fun g59 => brn (x52 = x51) (bnd (rec k49 (x50 + (1 : Int32)) (x51 + (1 : Int32)) g59) fun u61 g60 => Option.bind (g60.2.2 k49 20) fun k63 => grd (okV V k63 0 x52) <| nm (sI g60 k63 x52.toNatClampNeg x53) fun g66 => nm (x52 + (1 : Int32)) fun x67 => some (.inl (k49, x50, x51, x67, g66))) (bnd (rec k49 (x50 + (1 : Int32)) x51 g59) fun u69 g68 => Option.bind (g68.2.2 k49 20) fun k71 => grd (okV V k71 0 x52) <| nm (sI g68 k71 x52.toNatClampNeg x53) fun g74 => nm (x52 + (1 : Int32)) fun x75 => some (.inl (k49, x50, x51, x75, g74)))
set_option maxHeartbeats 4000000 in
set_option maxRecDepth 100000 in
theorem w_X12_give_52 {p : Program} {l : Launch} {e : Env} {R : Room} {s : State} {m : MethodId} {args : Array Value} {below : List Frame} {meth : Method} {c : Code} {D : va_G} {cA : Nat → ClassId} {sk : (Nat → Nat) × (Nat → Nat)} {ad : Nat → Nat} {A : Nat → Prop} {V : Vk} {rec : Nat → Int32 → Int32 → Hq → Option (Unit × Hq)} {d : Nat} (hrec : ∀ {k0 : Nat} {a1 a2 : Int32} {g g0 : Hq}, rec k0 a1 a2 g = some ((), g0) → Met l yX12_give (wM yX12_give cX12_give 5 none) { frames := d, cells := 0, slots := 0, locals := d * 24 } (Pre D cA sk ad (V, g) A [.ref (ad k0), .int a1, .int a2]) (QV D cA ad A (V, g0)) 0 0 A) (cx : CallFix p m c cX12_give 5 s args gw_tbl RX12) (fx : Fx D cA sk A s) (hlocks : meth.locks = false) (hret : meth.sig.returnType = none) (hR : d + 1 ≤ R.frames ∧ 24 + d * 24 ≤ R.locals) (g0 : Hq) (z : ((Nat × Int32 × Int32 × Int32 × Hq) ⊕ (Unit × Hq))) (hk0 : ∀ (b0 : Nat) (b1 : Int32) (b2 : Int32) (b3 : Int32) (gb : Hq), z = (.inl (b0, b1, b2, b3, gb)) → ∀ (H : Heap) (locs : List Loc) (ls : Array Slot), Dy D cA ad (V, gb) A s.heap H locs → lv_has ls 5 [(0, .ref (ad b0)), (1, .int b1), (2, .int b2), (3, .int b3)] → W p l e R s m args below meth c H locs 0 0 (MQ below (QV D cA ad A (V, g0)) args s 0 0 A) (F0 m 19 ls [])) (hq : ∀ (rb : Unit) (gb : Hq), z = (.inr (rb, gb)) → gb = g0) (k49 : Nat) (x50 : Int32) (x51 : Int32) (x52 : Int32) (x53 : Int32) (g54 : Hq) (hr : r_X12_give_52 rec V k49 x50 x51 x52 x53 g54 = some z) (H : Heap) (locs : List Loc) (ls : Array Slot) (dy : Dy D cA ad (V, g54) A s.heap H locs) (hl : lv_has ls 5 [(0, .ref (ad k49)), (1, .int x50), (2, .int x51), (3, .int x52)]) : W p l e R s m args below meth c H locs 0 0 (MQ below (QV D cA ad A (V, g0)) args s 0 0 A) (F0 m 52 ls [.int x53]) := by
  unfold r_X12_give_52 at hr
  have hh0 := hk0
  have hq0 := hq
  refine lv_istore (lv' := [(4, .int x53), (0, .ref (ad k49)), (1, .int x50), (2, .int x51), (3, .int x52)]) cx.1 cx.2.1 dX12_give_52 hl (by decide) rfl (fun ls hl => ?_)
  refine lv_aload_n cx.1 cx.2.1 dX12_give_54 rfl (lv_at hl 1 rfl) ?_
  obtain ⟨hv55, hr⟩ := of_grd hr
  obtain ⟨k56, hf57, hr⟩ := of_bnd hr
  refine h_getR cx fx dy fd_12_20 hv55 tb_1006 hf57 dX12_give_55 ?_
  refine lv_iload_n cx.1 cx.2.1 dX12_give_58 rfl (lv_at hl 4 rfl) ?_
  refine lv_iload cx.1 cx.2.1 dX12_give_59 (lv_at hl 0 rfl) ?_
  refine lv_iconst (v := 1) cx.1 cx.2.1 dX12_give_61 (by decide) ?_
  refine lv_iload_n cx.1 cx.2.1 dX12_give_62 rfl (lv_at hl 2 rfl) ?_
  refine lv_ishl cx.1 cx.2.1 dX12_give_63 ?_
  refine lv_ior cx.1 cx.2.1 dX12_give_64 ?_
  obtain ⟨ha58, hr⟩ := of_grd hr
  obtain ⟨g59, eg59, hr⟩ := of_nm hr
  refine h_iast cx fx dy ha58 dX12_give_65 (fun H locs dy => ?_)
  replace dy : Dy D cA ad (V, g59) A s.heap H locs := by rw [eg59]; exact dy
  refine lv_aload_n cx.1 cx.2.1 dX12_give_66 rfl (lv_at hl 1 rfl) ?_
  refine lv_iload_n cx.1 cx.2.1 dX12_give_67 rfl (lv_at hl 2 rfl) ?_
  refine lv_iconst (v := 1) cx.1 cx.2.1 dX12_give_68 (by decide) ?_
  refine lv_iadd cx.1 cx.2.1 dX12_give_69 ?_
  refine lv_iload_n cx.1 cx.2.1 dX12_give_70 rfl (lv_at hl 4 rfl) ?_
  refine lv_iload_n cx.1 cx.2.1 dX12_give_71 rfl (lv_at hl 3 rfl) ?_
  rcases of_brn hr with ⟨hc, hr⟩ | ⟨hc, hr⟩
  · refine lv_icmp_ne (tgt := 81) cx.1 cx.2.1 dX12_give_72 (by decide) (fun hn => absurd hc hn) (fun _ => ?_)
    refine lv_iload_n cx.1 cx.2.1 dX12_give_75 rfl (lv_at hl 3 rfl) ?_
    refine lv_iconst (v := 1) cx.1 cx.2.1 dX12_give_76 (by decide) ?_
    refine lv_iadd cx.1 cx.2.1 dX12_give_77 ?_
    refine lv_goto (tgt := 82) cx.1 cx.2.1 dX12_give_78 (by decide) ?_
    obtain ⟨u61, g60, hc62, hr⟩ := of_bnd2 hr
    refine r_v dy (k_V (As := [.int (x50 + (1 : Int32)), .int (x51 + (1 : Int32))]) (b := k49) (ci := 12) cx fx dy (hrec hc62) mv_X12_give rfl rfl ⟨hR.1, hR.2⟩ tb_1199 hv55 rfl (by decide) rfl hl.1 rfl (Nat.le_of_ble_eq_true rfl) ⟨Nat.zero_le _, Nat.zero_le _⟩ dX12_give_82) (fun H locs dy => ?_)
    refine lv_aload_n cx.1 cx.2.1 dX12_give_85 rfl (lv_at hl 1 rfl) ?_
    obtain ⟨k63, hf64, hr⟩ := of_bnd hr
    refine h_getR cx fx dy fd_12_20 hv55 tb_1006 hf64 dX12_give_86 ?_
    refine lv_iload_n cx.1 cx.2.1 dX12_give_89 rfl (lv_at hl 4 rfl) ?_
    refine lv_iload cx.1 cx.2.1 dX12_give_90 (lv_at hl 0 rfl) ?_
    obtain ⟨ha65, hr⟩ := of_grd hr
    obtain ⟨g66, eg66, hr⟩ := of_nm hr
    refine h_iast cx fx dy ha65 dX12_give_92 (fun H locs dy => ?_)
    replace dy : Dy D cA ad (V, g66) A s.heap H locs := by rw [eg66]; exact dy
    obtain ⟨x67, ex67, hr⟩ := of_nm hr
    refine lv_iinc (v := x67) (lv' := [(3, .int x67), (4, .int x53), (0, .ref (ad k49)), (1, .int x50), (2, .int x51)]) cx.1 cx.2.1 dX12_give_93 hl (k := 4) rfl (by rw [ex67]; rfl) (by decide) rfl (fun ls hl => ?_)
    refine lv_goto (tgt := 19) cx.1 cx.2.1 dX12_give_96 (by decide) ?_
    exact hh0 k49 x50 x51 x67 g66 (Option.some.inj hr).symm H locs ls dy (lv_sub hl [2, 3, 4, 0] rfl)
  · refine lv_icmp_ne (tgt := 81) cx.1 cx.2.1 dX12_give_72 (by decide) (fun _ => ?_) (fun hn => absurd hn hc)
    refine lv_iload_n cx.1 cx.2.1 dX12_give_81 rfl (lv_at hl 3 rfl) ?_
    obtain ⟨u69, g68, hc70, hr⟩ := of_bnd2 hr
    refine r_v dy (k_V (As := [.int (x50 + (1 : Int32)), .int x51]) (b := k49) (ci := 12) cx fx dy (hrec hc70) mv_X12_give rfl rfl ⟨hR.1, hR.2⟩ tb_1199 hv55 rfl (by decide) rfl hl.1 rfl (Nat.le_of_ble_eq_true rfl) ⟨Nat.zero_le _, Nat.zero_le _⟩ dX12_give_82) (fun H locs dy => ?_)
    refine lv_aload_n cx.1 cx.2.1 dX12_give_85 rfl (lv_at hl 1 rfl) ?_
    obtain ⟨k71, hf72, hr⟩ := of_bnd hr
    refine h_getR cx fx dy fd_12_20 hv55 tb_1006 hf72 dX12_give_86 ?_
    refine lv_iload_n cx.1 cx.2.1 dX12_give_89 rfl (lv_at hl 4 rfl) ?_
    refine lv_iload cx.1 cx.2.1 dX12_give_90 (lv_at hl 0 rfl) ?_
    obtain ⟨ha73, hr⟩ := of_grd hr
    obtain ⟨g74, eg74, hr⟩ := of_nm hr
    refine h_iast cx fx dy ha73 dX12_give_92 (fun H locs dy => ?_)
    replace dy : Dy D cA ad (V, g74) A s.heap H locs := by rw [eg74]; exact dy
    obtain ⟨x75, ex75, hr⟩ := of_nm hr
    refine lv_iinc (v := x75) (lv' := [(3, .int x75), (4, .int x53), (0, .ref (ad k49)), (1, .int x50), (2, .int x51)]) cx.1 cx.2.1 dX12_give_93 hl (k := 4) rfl (by rw [ex75]; rfl) (by decide) rfl (fun ls hl => ?_)
    refine lv_goto (tgt := 19) cx.1 cx.2.1 dX12_give_96 (by decide) ?_
    exact hh0 k49 x50 x51 x75 g74 (Option.some.inj hr).symm H locs ls dy (lv_sub hl [2, 3, 4, 0] rfl)
noncomputable def r_X12_give_19' (rec : Nat → Int32 → Int32 → Hq → Option (Unit × Hq)) (V : Vk) (k39 : Nat) (x40 : Int32) (x41 : Int32) (x42 : Int32) (g43 : Hq) : Option ((Nat × Int32 × Int32 × Int32 × Hq) ⊕ (Unit × Hq)) :=
  brn (x41 < x42) (some (.inr ((), g43))) (brn ((10 : Int32) ≤ x42) (some (.inr ((), g43))) (grd (V k39 = some (12, 0)) <| Option.bind (g43.2.2 k39 18) fun k45 => grd (okV V k45 0 x40) <| nm (sI g43 k45 x40.toNatClampNeg x42) fun g48 => brn (x41 ≤ x42) ((r_X12_give_52 rec V k39 x40 x41 x42 (0 : Int32) g48)) (Option.bind (g48.2.2 k39 20) fun k76 => grd (okV V k76 0 x42) <| (r_X12_give_52 rec V k39 x40 x41 x42 (g48.1 k76 x42.toNatClampNeg) g48))))
noncomputable def r_X12_give_19 (rec : Nat → Int32 → Int32 → Hq → Option (Unit × Hq)) (V : Vk) (st : (Nat × Int32 × Int32 × Int32 × Hq)) : Option ((Nat × Int32 × Int32 × Int32 × Hq) ⊕ (Unit × Hq)) := r_X12_give_19' rec V st.1 st.2.1 st.2.2.1 st.2.2.2.1 st.2.2.2.2
set_option maxHeartbeats 4000000 in
set_option maxRecDepth 100000 in
theorem w_X12_give_19 {p : Program} {l : Launch} {e : Env} {R : Room} {s : State} {m : MethodId} {args : Array Value} {below : List Frame} {meth : Method} {c : Code} {D : va_G} {cA : Nat → ClassId} {sk : (Nat → Nat) × (Nat → Nat)} {ad : Nat → Nat} {A : Nat → Prop} {V : Vk} {rec : Nat → Int32 → Int32 → Hq → Option (Unit × Hq)} {d : Nat} (hrec : ∀ {k0 : Nat} {a1 a2 : Int32} {g g0 : Hq}, rec k0 a1 a2 g = some ((), g0) → Met l yX12_give (wM yX12_give cX12_give 5 none) { frames := d, cells := 0, slots := 0, locals := d * 24 } (Pre D cA sk ad (V, g) A [.ref (ad k0), .int a1, .int a2]) (QV D cA ad A (V, g0)) 0 0 A) (cx : CallFix p m c cX12_give 5 s args gw_tbl RX12) (fx : Fx D cA sk A s) (hlocks : meth.locks = false) (hret : meth.sig.returnType = none) (hR : d + 1 ≤ R.frames ∧ 24 + d * 24 ≤ R.locals) (g0 : Hq) (y : (Unit × Hq)) (hq : ∀ (rb : Unit) (gb : Hq), y = (rb, gb) → gb = g0) : ∀ (n : Nat) (k39 : Nat) (x40 : Int32) (x41 : Int32) (x42 : Int32) (g43 : Hq), itr (r_X12_give_19 rec V) n (k39, x40, x41, x42, g43) = some y → ∀ (H : Heap) (locs : List Loc) (ls : Array Slot), Dy D cA ad (V, g43) A s.heap H locs → lv_has ls 5 [(0, .ref (ad k39)), (1, .int x40), (2, .int x41), (3, .int x42)] → W p l e R s m args below meth c H locs 0 0 (MQ below (QV D cA ad A (V, g0)) args s 0 0 A) (F0 m 19 ls []) := by
  intro n
  induction n with
  | zero => intro k39 x40 x41 x42 g43 hr; cases hr
  | succ n ih =>
    intro k39 x40 x41 x42 g43 hr H locs ls dy hl
    obtain ⟨z, hz, hn1, hn2⟩ := itr_succ hr
    clear hr
    have hr : r_X12_give_19' rec V k39 x40 x41 x42 g43 = some z := hz
    clear hz
    unfold r_X12_give_19' at hr
    have hh0 : ∀ (b0 : Nat) (b1 : Int32) (b2 : Int32) (b3 : Int32) (gb : Hq), z = .inl (b0, b1, b2, b3, gb) → ∀ (H : Heap) (locs : List Loc) (ls : Array Slot), Dy D cA ad (V, gb) A s.heap H locs → lv_has ls 5 [(0, .ref (ad b0)), (1, .int b1), (2, .int b2), (3, .int b3)] → W p l e R s m args below meth c H locs 0 0 (MQ below (QV D cA ad A (V, g0)) args s 0 0 A) (F0 m 19 ls []) := fun b0 b1 b2 b3 gb eb => ih b0 b1 b2 b3 gb (hn1 _ eb)
    have hq0 : ∀ (rb : Unit) (gb : Hq), z = (.inr (rb, gb)) → gb = g0 := fun rb gb eb => hq rb gb (hn2 _ eb).symm
    refine lv_iload_n cx.1 cx.2.1 dX12_give_19 rfl (lv_at hl 3 rfl) ?_
    refine lv_iload_n cx.1 cx.2.1 dX12_give_20 rfl (lv_at hl 2 rfl) ?_
    rcases of_brn hr with ⟨hc, hr⟩ | ⟨hc, hr⟩
    · refine lv_icmp_gt (tgt := 99) cx.1 cx.2.1 dX12_give_21 (by decide) (fun _ => ?_) (fun hn => absurd hc hn)
      have e1 := hq0 _ _ (Option.some.inj hr).symm
      exact h_vret cx dy hlocks hret (by rw [e1]) dX12_give_99
    · refine lv_icmp_gt (tgt := 99) cx.1 cx.2.1 dX12_give_21 (by decide) (fun hn => absurd hn hc) (fun _ => ?_)
      refine lv_iload_n cx.1 cx.2.1 dX12_give_24 rfl (lv_at hl 3 rfl) ?_
      refine lv_bipush (v := 10) cx.1 cx.2.1 dX12_give_25 (by decide) ?_
      rcases of_brn hr with ⟨hc, hr⟩ | ⟨hc, hr⟩
      · refine lv_icmp_ge (tgt := 99) cx.1 cx.2.1 dX12_give_27 (by decide) (fun _ => ?_) (fun hn => absurd hc hn)
        have e1 := hq0 _ _ (Option.some.inj hr).symm
        exact h_vret cx dy hlocks hret (by rw [e1]) dX12_give_99
      · refine lv_icmp_ge (tgt := 99) cx.1 cx.2.1 dX12_give_27 (by decide) (fun hn => absurd hn hc) (fun _ => ?_)
        refine lv_aload_n cx.1 cx.2.1 dX12_give_30 rfl (lv_at hl 0 rfl) ?_
        obtain ⟨hv44, hr⟩ := of_grd hr
        obtain ⟨k45, hf46, hr⟩ := of_bnd hr
        refine h_getR cx fx dy fd_12_18 hv44 tb_1004 hf46 dX12_give_31 ?_
        refine lv_iload_n cx.1 cx.2.1 dX12_give_34 rfl (lv_at hl 1 rfl) ?_
        refine lv_iload_n cx.1 cx.2.1 dX12_give_35 rfl (lv_at hl 3 rfl) ?_
        obtain ⟨ha47, hr⟩ := of_grd hr
        obtain ⟨g48, eg48, hr⟩ := of_nm hr
        refine h_iast cx fx dy ha47 dX12_give_36 (fun H locs dy => ?_)
        replace dy : Dy D cA ad (V, g48) A s.heap H locs := by rw [eg48]; exact dy
        refine lv_iload_n cx.1 cx.2.1 dX12_give_37 rfl (lv_at hl 3 rfl) ?_
        refine lv_iload_n cx.1 cx.2.1 dX12_give_38 rfl (lv_at hl 2 rfl) ?_
        rcases of_brn hr with ⟨hc, hr⟩ | ⟨hc, hr⟩
        · refine lv_icmp_ge (tgt := 51) cx.1 cx.2.1 dX12_give_39 (by decide) (fun _ => ?_) (fun hn => absurd hc hn)
          refine lv_iconst (v := 0) cx.1 cx.2.1 dX12_give_51 (by decide) ?_
          exact w_X12_give_52 hrec cx fx hlocks hret hR g0 z hh0 hq0 k39 x40 x41 x42 (0 : Int32) g48 hr H locs ls dy (lv_sub hl [0, 1, 2, 3] rfl)
        · refine lv_icmp_ge (tgt := 51) cx.1 cx.2.1 dX12_give_39 (by decide) (fun hn => absurd hn hc) (fun _ => ?_)
          refine lv_aload_n cx.1 cx.2.1 dX12_give_42 rfl (lv_at hl 0 rfl) ?_
          obtain ⟨k76, hf77, hr⟩ := of_bnd hr
          refine h_getR cx fx dy fd_12_20 hv44 tb_1006 hf77 dX12_give_43 ?_
          refine lv_iload_n cx.1 cx.2.1 dX12_give_46 rfl (lv_at hl 3 rfl) ?_
          obtain ⟨ha78, hr⟩ := of_grd hr
          refine h_iald cx fx dy ha78 dX12_give_47 ?_
          refine lv_goto (tgt := 52) cx.1 cx.2.1 dX12_give_48 (by decide) ?_
          exact w_X12_give_52 hrec cx fx hlocks hret hR g0 z hh0 hq0 k39 x40 x41 x42 (g48.1 k76 x42.toNatClampNeg) g48 hr H locs ls dy (lv_sub hl [0, 1, 2, 3] rfl)
noncomputable def r_X12_give_B (rec : Nat → Int32 → Int32 → Hq → Option (Unit × Hq)) (V : Vk) (k0 : Nat) (a1 : Int32) (a2 : Int32) (g : Hq) : Option (Unit × Hq) :=
  grd (V k0 = some (12, 0)) <| brn (a2 ≤ (g.1 k0 21)) (brn ((g.1 k0 15) ≤ a1) ((lop (r_X12_give_105 rec V) (k0, a2, (0 : Int32), (0 : Int32), g))) ((lop (r_X12_give_19 rec V) (k0, a1, a2, (0 : Int32), g)))) (some ((), g))
noncomputable def r_X12_give : Nat → Vk → Nat → Int32 → Int32 → Hq → Option (Unit × Hq)
  | 0 => fun _ _ _ _ _ => none
  | d + 1 => fun V k0 a1 a2 g => r_X12_give_B (r_X12_give d V) V k0 a1 a2 g
set_option maxHeartbeats 4000000 in
set_option maxRecDepth 100000 in
theorem c_X12_give {l : Launch} {D : va_G} {cA : Nat → ClassId} {sk : (Nat → Nat) × (Nat → Nat)} {ad : Nat → Nat} {A : Nat → Prop} {V : Vk}  : ∀ (d : Nat) {k0 : Nat} {a1 a2 : Int32} {g g0 : Hq}, (r_X12_give d V k0 a1 a2 g = some ((), g0)) → Met l yX12_give (wM yX12_give cX12_give 5 none) { frames := d, cells := 0, slots := 0, locals := d * 24 } (Pre D cA sk ad (V, g) A [.ref (ad k0), .int a1, .int a2]) (QV D cA ad A (V, g0)) 0 0 A := by
  intro d
  induction d with
  | zero => intro k0 a1 a2 g g0 hr; cases hr
  | succ d hrec =>
  intro k0 a1 a2 g g0 hr
  replace hr : r_X12_give_B (r_X12_give d V) V k0 a1 a2 g = some ((), g0) := hr
  refine Met.ofW (cc := cX12_give) (maxL := 5) (ret := none) (by decide) rfl ?_
  intro p e s m args below meth c s₁ B hml hv
  obtain ⟨rfl, fx, w0⟩ := hv
  have hts := atoms_spec (ws := wM yX12_give cX12_give 5 none) B.pre
  have cx : CallFix p m c cX12_give 5 s ([.ref (ad k0), .int a1, .int a2] : List Value).toArray gw_tbl RX12 := ⟨B.exec, B.bytes, hml, findClass_of_methodNamed B.named, fun w hw => hts w (List.mem_cons_of_mem _ hw)⟩
  have hlocks := B.notSynchronized
  have hret := B.returns
  have hR : d + 1 ≤ (headSpec (wM yX12_give cX12_give 5 none) { frames := d + 1, cells := 0, slots := 0, locals := (d + 1) * 24 }).room.frames ∧ 24 + d * 24 ≤ (headSpec (wM yX12_give cX12_give 5 none) { frames := d + 1, cells := 0, slots := 0, locals := (d + 1) * 24 }).room.locals := ⟨Nat.le_refl _, by show 24 + d * 24 ≤ (d + 1) * 24; omega⟩
  have dy : Dy D cA ad (V, g) A s.heap s.heap [] := ⟨w0, va_S.rf⟩
  have hl := lv_entry [.ref (ad k0), .int a1, .int a2] (n := 5) (Nat.le_of_ble_eq_true rfl)
  rw [lg_entry_eq]
  generalize (lg_sl [.ref (ad k0), .int a1, .int a2] ++ List.replicate (5 - (lg_sl [.ref (ad k0), .int a1, .int a2]).length) Slot.unset).toArray = ls at hl ⊢
  have hl : lv_has ls 5 [(0, .ref (ad k0)), (1, .int a1), (2, .int a2)] := hl
  have dy0 : ∃ H0, H0 = s.heap ∧ Dy D cA ad (V, g) A s.heap H0 [] := ⟨_, rfl, dy⟩
  obtain ⟨z, ez⟩ : ∃ z, z = (((), g0) : Unit × Hq) := ⟨_, rfl⟩
  rw [← ez] at hr
  have hq0 : ∀ (rb : Unit) (gb : Hq), z = (rb, gb) → gb = g0 := fun rb gb eb => by rw [ez] at eb; exact (congrArg Prod.snd eb).symm
  clear ez w0 dy0
  unfold r_X12_give_B at hr
  obtain ⟨H, hH⟩ : ∃ H, H = s.heap := ⟨_, rfl⟩
  obtain ⟨locs, hlo⟩ : ∃ q : List Loc, q = [] := ⟨_, rfl⟩
  have dy : Dy D cA ad (V, g) A s.heap H locs := by rw [hH, hlo]; exact dy
  suffices K : W p l e (headSpec (wM yX12_give cX12_give 5 none) { frames := d + 1, cells := 0, slots := 0, locals := (d + 1) * 24 }).room s m ([.ref (ad k0), .int a1, .int a2] : List Value).toArray below meth c H locs 0 0 (MQ below (QV D cA ad A (V, g0)) ([.ref (ad k0), .int a1, .int a2] : List Value).toArray s 0 0 A) (F0 m 0 ls []) by rw [hH, hlo] at K; exact K
  clear hH hlo
  refine lv_iload_n cx.1 cx.2.1 dX12_give_0 rfl (lv_at hl 2 rfl) ?_
  refine lv_aload_n cx.1 cx.2.1 dX12_give_1 rfl (lv_at hl 0 rfl) ?_
  obtain ⟨hv1, hr⟩ := of_grd hr
  refine h_getI cx fx dy fd_12_21 hv1 tb_1007 dX12_give_2 ?_
  rcases of_brn hr with ⟨hc, hr⟩ | ⟨hc, hr⟩
  · refine lv_icmp_le (tgt := 9) cx.1 cx.2.1 dX12_give_5 (by decide) (fun _ => ?_) (fun hn => absurd hc hn)
    refine lv_iload_n cx.1 cx.2.1 dX12_give_9 rfl (lv_at hl 1 rfl) ?_
    refine lv_aload_n cx.1 cx.2.1 dX12_give_10 rfl (lv_at hl 0 rfl) ?_
    refine h_getI cx fx dy fd_12_15 hv1 tb_1001 dX12_give_11 ?_
    rcases of_brn hr with ⟨hc, hr⟩ | ⟨hc, hr⟩
    · refine lv_icmp_ge (tgt := 100) cx.1 cx.2.1 dX12_give_14 (by decide) (fun _ => ?_) (fun hn => absurd hc hn)
      refine lv_iconst (v := 0) cx.1 cx.2.1 dX12_give_100 (by decide) ?_
      refine lv_istore_n (lv' := [(3, .int (0 : Int32)), (0, .ref (ad k0)), (1, .int a1), (2, .int a2)]) cx.1 cx.2.1 dX12_give_101 rfl hl (by decide) rfl (fun ls hl => ?_)
      refine lv_iconst (v := 0) cx.1 cx.2.1 dX12_give_102 (by decide) ?_
      refine lv_istore (lv' := [(4, .int (0 : Int32)), (3, .int (0 : Int32)), (0, .ref (ad k0)), (1, .int a1), (2, .int a2)]) cx.1 cx.2.1 dX12_give_103 hl (by decide) rfl (fun ls hl => ?_)
      obtain ⟨n, hr⟩ := lop_some hr
      exact w_X12_give_105 hrec cx fx hlocks hret hR g0 z hq0 n k0 a2 (0 : Int32) (0 : Int32) g hr H locs ls dy (lv_sub hl [2, 4, 1, 0] rfl)
    · refine lv_icmp_ge (tgt := 100) cx.1 cx.2.1 dX12_give_14 (by decide) (fun hn => absurd hn hc) (fun _ => ?_)
      refine lv_iconst (v := 0) cx.1 cx.2.1 dX12_give_17 (by decide) ?_
      refine lv_istore_n (lv' := [(3, .int (0 : Int32)), (0, .ref (ad k0)), (1, .int a1), (2, .int a2)]) cx.1 cx.2.1 dX12_give_18 rfl hl (by decide) rfl (fun ls hl => ?_)
      obtain ⟨n, hr⟩ := lop_some hr
      exact w_X12_give_19 hrec cx fx hlocks hret hR g0 z hq0 n k0 a1 a2 (0 : Int32) g hr H locs ls dy (lv_sub hl [1, 2, 3, 0] rfl)
  · refine lv_icmp_le (tgt := 9) cx.1 cx.2.1 dX12_give_5 (by decide) (fun hn => absurd hn hc) (fun _ => ?_)
    have e1 := hq0 _ _ (Option.some.inj hr).symm
    exact h_vret cx dy hlocks hret (by rw [e1]) dX12_give_8
noncomputable def r_X12_rounds_164' (V : Vk) (k35 : Nat) (x36 : Int32) (x37 : Int32) (x38 : Int32) (g39 : Hq) : Option ((Nat × Int32 × Int32 × Int32 × Hq) ⊕ ((Nat × Int32 × Hq) ⊕ (Int32 × Hq))) :=
  grd (V k35 = some (12, 0)) <| brn ((g39.1 k35 15) ≤ x38) (Option.bind (g39.2.2 k35 27) fun k41 => Option.bind (g39.2.2 k35 17) fun k43 => grd (okV V k43 0 x37) <| grd (okV V k41 0 x36) <| nm (sI g39 k41 x36.toNatClampNeg (g39.1 k43 x37.toNatClampNeg)) fun g47 => nm (x36 + (1 : Int32)) fun x48 => some (.inr (.inl (k35, x48, g47)))) (Option.bind (g39.2.2 k35 19) fun k49 => grd (okV V k49 0 x38) <| brn ((g39.1 k49 x38.toNatClampNeg) = x36) (Option.bind (g39.2.2 k35 26) fun k52 => Option.bind (g39.2.2 k35 14) fun k54 => grd (okV V k54 0 x38) <| grd (okV V k52 0 (g39.1 k54 x38.toNatClampNeg)) <| nm (sI g39 k52 (g39.1 k54 x38.toNatClampNeg).toNatClampNeg x36) fun g58 => nm (x37 ||| ((1 : Int32) <<< (x38 &&& 31))) fun x59 => Option.bind (g58.2.2 k35 28) fun k60 => grd (okV V k60 0 x36) <| Option.bind (g58.2.2 k35 14) fun k63 => grd (okV V k63 0 x38) <| grd (okV V k60 0 x36) <| nm (sI g58 k60 x36.toNatClampNeg ((g58.1 k60 x36.toNatClampNeg) ||| ((1 : Int32) <<< ((g58.1 k63 x38.toNatClampNeg) &&& 31)))) fun g67 => nm (x38 + (1 : Int32)) fun x68 => some (.inl (k35, x36, x59, x68, g67))) (nm (x38 + (1 : Int32)) fun x69 => some (.inl (k35, x36, x37, x69, g39))))
noncomputable def r_X12_rounds_164 (V : Vk) (st : (Nat × Int32 × Int32 × Int32 × Hq)) : Option ((Nat × Int32 × Int32 × Int32 × Hq) ⊕ ((Nat × Int32 × Hq) ⊕ (Int32 × Hq))) := r_X12_rounds_164' V st.1 st.2.1 st.2.2.1 st.2.2.2.1 st.2.2.2.2
set_option maxHeartbeats 4000000 in
set_option maxRecDepth 100000 in
theorem w_X12_rounds_164 {p : Program} {l : Launch} {e : Env} {R : Room} {s : State} {m : MethodId} {args : Array Value} {below : List Frame} {meth : Method} {c : Code} {D : va_G} {cA : Nat → ClassId} {sk : (Nat → Nat) × (Nat → Nat)} {ad : Nat → Nat} {A : Nat → Prop} {V : Vk} (cx : CallFix p m c cX12_rounds 6 s args gw_tbl RX12) (fx : Fx D cA sk A s) (hlocks : meth.locks = false) (hret : meth.sig.returnType = (some .int)) (hR : 13 ≤ R.frames ∧ 312 ≤ R.locals) (r0 : Int32) (g0 : Hq) (y : ((Nat × Int32 × Hq) ⊕ (Int32 × Hq))) (hk0 : ∀ (b0 : Nat) (b1 : Int32) (gb : Hq), y = (.inl (b0, b1, gb)) → ∀ (H : Heap) (locs : List Loc) (ls : Array Slot), Dy D cA ad (V, gb) A s.heap H locs → lv_has ls 6 [(0, .ref (ad b0)), (3, .int b1)] → W p l e R s m args below meth c H locs 0 0 (MQ below (QI D cA ad A r0 (V, g0)) args s 0 0 A) (F0 m 143 ls [])) (hq : ∀ (rb : Int32) (gb : Hq), y = (.inr (rb, gb)) → rb = r0 ∧ gb = g0) : ∀ (n : Nat) (k35 : Nat) (x36 : Int32) (x37 : Int32) (x38 : Int32) (g39 : Hq), itr (r_X12_rounds_164 V) n (k35, x36, x37, x38, g39) = some y → ∀ (H : Heap) (locs : List Loc) (ls : Array Slot), Dy D cA ad (V, g39) A s.heap H locs → lv_has ls 6 [(0, .ref (ad k35)), (3, .int x36), (4, .int x37), (5, .int x38)] → W p l e R s m args below meth c H locs 0 0 (MQ below (QI D cA ad A r0 (V, g0)) args s 0 0 A) (F0 m 164 ls []) := by
  intro n
  induction n with
  | zero => intro k35 x36 x37 x38 g39 hr; cases hr
  | succ n ih =>
    intro k35 x36 x37 x38 g39 hr H locs ls dy hl
    obtain ⟨z, hz, hn1, hn2⟩ := itr_succ hr
    clear hr
    have hr : r_X12_rounds_164' V k35 x36 x37 x38 g39 = some z := hz
    clear hz
    unfold r_X12_rounds_164' at hr
    have hh0 : ∀ (b0 : Nat) (b1 : Int32) (b2 : Int32) (b3 : Int32) (gb : Hq), z = .inl (b0, b1, b2, b3, gb) → ∀ (H : Heap) (locs : List Loc) (ls : Array Slot), Dy D cA ad (V, gb) A s.heap H locs → lv_has ls 6 [(0, .ref (ad b0)), (3, .int b1), (4, .int b2), (5, .int b3)] → W p l e R s m args below meth c H locs 0 0 (MQ below (QI D cA ad A r0 (V, g0)) args s 0 0 A) (F0 m 164 ls []) := fun b0 b1 b2 b3 gb eb => ih b0 b1 b2 b3 gb (hn1 _ eb)
    have hh1 : ∀ (b0 : Nat) (b1 : Int32) (gb : Hq), z = (.inr (.inl (b0, b1, gb))) → ∀ (H : Heap) (locs : List Loc) (ls : Array Slot), Dy D cA ad (V, gb) A s.heap H locs → lv_has ls 6 [(0, .ref (ad b0)), (3, .int b1)] → W p l e R s m args below meth c H locs 0 0 (MQ below (QI D cA ad A r0 (V, g0)) args s 0 0 A) (F0 m 143 ls []) := fun b0 b1 gb eb => hk0 b0 b1 gb (hn2 _ eb).symm
    have hq0 : ∀ (rb : Int32) (gb : Hq), z = (.inr (.inr (rb, gb))) → rb = r0 ∧ gb = g0 := fun rb gb eb => hq rb gb (hn2 _ eb).symm
    refine lv_iload cx.1 cx.2.1 dX12_rounds_164 (lv_at hl 3 rfl) ?_
    refine lv_aload_n cx.1 cx.2.1 dX12_rounds_166 rfl (lv_at hl 0 rfl) ?_
    obtain ⟨hv40, hr⟩ := of_grd hr
    refine h_getI cx fx dy fd_12_15 hv40 tb_1001 dX12_rounds_167 ?_
    rcases of_brn hr with ⟨hc, hr⟩ | ⟨hc, hr⟩
    · refine lv_icmp_ge (tgt := 233) cx.1 cx.2.1 dX12_rounds_170 (by decide) (fun _ => ?_) (fun hn => absurd hc hn)
      refine lv_aload_n cx.1 cx.2.1 dX12_rounds_233 rfl (lv_at hl 0 rfl) ?_
      obtain ⟨k41, hf42, hr⟩ := of_bnd hr
      refine h_getR cx fx dy fd_12_27 hv40 tb_1013 hf42 dX12_rounds_234 ?_
      refine lv_iload_n cx.1 cx.2.1 dX12_rounds_237 rfl (lv_at hl 1 rfl) ?_
      refine lv_aload_n cx.1 cx.2.1 dX12_rounds_238 rfl (lv_at hl 0 rfl) ?_
      obtain ⟨k43, hf44, hr⟩ := of_bnd hr
      refine h_getR cx fx dy fd_12_17 hv40 tb_1003 hf44 dX12_rounds_239 ?_
      refine lv_iload cx.1 cx.2.1 dX12_rounds_242 (lv_at hl 2 rfl) ?_
      obtain ⟨ha45, hr⟩ := of_grd hr
      refine h_iald cx fx dy ha45 dX12_rounds_244 ?_
      obtain ⟨ha46, hr⟩ := of_grd hr
      obtain ⟨g47, eg47, hr⟩ := of_nm hr
      refine h_iast cx fx dy ha46 dX12_rounds_245 (fun H locs dy => ?_)
      replace dy : Dy D cA ad (V, g47) A s.heap H locs := by rw [eg47]; exact dy
      obtain ⟨x48, ex48, hr⟩ := of_nm hr
      refine lv_iinc (v := x48) (lv' := [(3, .int x48), (0, .ref (ad k35)), (4, .int x37), (5, .int x38)]) cx.1 cx.2.1 dX12_rounds_246 hl (k := 1) rfl (by rw [ex48]; rfl) (by decide) rfl (fun ls hl => ?_)
      refine lv_goto (tgt := 143) cx.1 cx.2.1 dX12_rounds_249 (by decide) ?_
      exact hh1 k35 x48 g47 (Option.some.inj hr).symm H locs ls dy (lv_sub hl [1, 0] rfl)
    · refine lv_icmp_ge (tgt := 233) cx.1 cx.2.1 dX12_rounds_170 (by decide) (fun hn => absurd hn hc) (fun _ => ?_)
      refine lv_aload_n cx.1 cx.2.1 dX12_rounds_173 rfl (lv_at hl 0 rfl) ?_
      obtain ⟨k49, hf50, hr⟩ := of_bnd hr
      refine h_getR cx fx dy fd_12_19 hv40 tb_1005 hf50 dX12_rounds_174 ?_
      refine lv_iload cx.1 cx.2.1 dX12_rounds_177 (lv_at hl 3 rfl) ?_
      obtain ⟨ha51, hr⟩ := of_grd hr
      refine h_iald cx fx dy ha51 dX12_rounds_179 ?_
      refine lv_iload_n cx.1 cx.2.1 dX12_rounds_180 rfl (lv_at hl 1 rfl) ?_
      rcases of_brn hr with ⟨hc, hr⟩ | ⟨hc, hr⟩
      · refine lv_icmp_eq (tgt := 187) cx.1 cx.2.1 dX12_rounds_181 (by decide) (fun _ => ?_) (fun hn => absurd hc hn)
        refine lv_aload_n cx.1 cx.2.1 dX12_rounds_187 rfl (lv_at hl 0 rfl) ?_
        obtain ⟨k52, hf53, hr⟩ := of_bnd hr
        refine h_getR cx fx dy fd_12_26 hv40 tb_1012 hf53 dX12_rounds_188 ?_
        refine lv_aload_n cx.1 cx.2.1 dX12_rounds_191 rfl (lv_at hl 0 rfl) ?_
        obtain ⟨k54, hf55, hr⟩ := of_bnd hr
        refine h_getR cx fx dy fd_12_14 hv40 tb_1000 hf55 dX12_rounds_192 ?_
        refine lv_iload cx.1 cx.2.1 dX12_rounds_195 (lv_at hl 3 rfl) ?_
        obtain ⟨ha56, hr⟩ := of_grd hr
        refine h_iald cx fx dy ha56 dX12_rounds_197 ?_
        refine lv_iload_n cx.1 cx.2.1 dX12_rounds_198 rfl (lv_at hl 1 rfl) ?_
        obtain ⟨ha57, hr⟩ := of_grd hr
        obtain ⟨g58, eg58, hr⟩ := of_nm hr
        refine h_iast cx fx dy ha57 dX12_rounds_199 (fun H locs dy => ?_)
        replace dy : Dy D cA ad (V, g58) A s.heap H locs := by rw [eg58]; exact dy
        refine lv_iload cx.1 cx.2.1 dX12_rounds_200 (lv_at hl 2 rfl) ?_
        refine lv_iconst (v := 1) cx.1 cx.2.1 dX12_rounds_202 (by decide) ?_
        refine lv_iload cx.1 cx.2.1 dX12_rounds_203 (lv_at hl 3 rfl) ?_
        refine lv_ishl cx.1 cx.2.1 dX12_rounds_205 ?_
        refine lv_ior cx.1 cx.2.1 dX12_rounds_206 ?_
        obtain ⟨x59, ex59, hr⟩ := of_nm hr
        refine lv_nmi ex59 ?_
        refine lv_istore (lv' := [(4, .int x59), (0, .ref (ad k35)), (3, .int x36), (5, .int x38)]) cx.1 cx.2.1 dX12_rounds_207 hl (by decide) rfl (fun ls hl => ?_)
        refine lv_aload_n cx.1 cx.2.1 dX12_rounds_209 rfl (lv_at hl 1 rfl) ?_
        obtain ⟨k60, hf61, hr⟩ := of_bnd hr
        refine h_getR cx fx dy fd_12_28 hv40 tb_1014 hf61 dX12_rounds_210 ?_
        refine lv_iload_n cx.1 cx.2.1 dX12_rounds_213 rfl (lv_at hl 2 rfl) ?_
        refine lv_dup2_11 cx.1 cx.2.1 dX12_rounds_214 rfl rfl ?_
        obtain ⟨ha62, hr⟩ := of_grd hr
        refine h_iald cx fx dy ha62 dX12_rounds_215 ?_
        refine lv_iconst (v := 1) cx.1 cx.2.1 dX12_rounds_216 (by decide) ?_
        refine lv_aload_n cx.1 cx.2.1 dX12_rounds_217 rfl (lv_at hl 1 rfl) ?_
        obtain ⟨k63, hf64, hr⟩ := of_bnd hr
        refine h_getR cx fx dy fd_12_14 hv40 tb_1000 hf64 dX12_rounds_218 ?_
        refine lv_iload cx.1 cx.2.1 dX12_rounds_221 (lv_at hl 3 rfl) ?_
        obtain ⟨ha65, hr⟩ := of_grd hr
        refine h_iald cx fx dy ha65 dX12_rounds_223 ?_
        refine lv_ishl cx.1 cx.2.1 dX12_rounds_224 ?_
        refine lv_ior cx.1 cx.2.1 dX12_rounds_225 ?_
        obtain ⟨ha66, hr⟩ := of_grd hr
        obtain ⟨g67, eg67, hr⟩ := of_nm hr
        refine h_iast cx fx dy ha66 dX12_rounds_226 (fun H locs dy => ?_)
        replace dy : Dy D cA ad (V, g67) A s.heap H locs := by rw [eg67]; exact dy
        obtain ⟨x68, ex68, hr⟩ := of_nm hr
        refine lv_iinc (v := x68) (lv' := [(5, .int x68), (4, .int x59), (0, .ref (ad k35)), (3, .int x36)]) cx.1 cx.2.1 dX12_rounds_227 hl (k := 3) rfl (by rw [ex68]; rfl) (by decide) rfl (fun ls hl => ?_)
        refine lv_goto (tgt := 164) cx.1 cx.2.1 dX12_rounds_230 (by decide) ?_
        exact hh0 k35 x36 x59 x68 g67 (Option.some.inj hr).symm H locs ls dy (lv_sub hl [2, 3, 1, 0] rfl)
      · refine lv_icmp_eq (tgt := 187) cx.1 cx.2.1 dX12_rounds_181 (by decide) (fun hn => absurd hn hc) (fun _ => ?_)
        refine lv_goto (tgt := 227) cx.1 cx.2.1 dX12_rounds_184 (by decide) ?_
        obtain ⟨x69, ex69, hr⟩ := of_nm hr
        refine lv_iinc (v := x69) (lv' := [(5, .int x69), (0, .ref (ad k35)), (3, .int x36), (4, .int x37)]) cx.1 cx.2.1 dX12_rounds_227 hl (k := 3) rfl (by rw [ex69]; rfl) (by decide) rfl (fun ls hl => ?_)
        refine lv_goto (tgt := 164) cx.1 cx.2.1 dX12_rounds_230 (by decide) ?_
        exact hh0 k35 x36 x37 x69 g39 (Option.some.inj hr).symm H locs ls dy (lv_sub hl [1, 2, 3, 0] rfl)
noncomputable def r_X12_rounds_143' (V : Vk) (k26 : Nat) (x27 : Int32) (g28 : Hq) : Option ((Nat × Int32 × Hq) ⊕ (Int32 × Hq)) :=
  grd (V k26 = some (12, 0)) <| brn ((g28.1 k26 24) ≤ x27) (nm (sI g28 k26 23 (1 : Int32)) fun g30 => some (.inr ((g30.1 k26 24), g30))) (Option.bind (g28.2.2 k26 28) fun k31 => grd (okV V k31 0 x27) <| nm (sI g28 k31 x27.toNatClampNeg (0 : Int32)) fun g34 => (lop (r_X12_rounds_164 V) (k26, x27, (0 : Int32), (0 : Int32), g34)))
noncomputable def r_X12_rounds_143 (V : Vk) (st : (Nat × Int32 × Hq)) : Option ((Nat × Int32 × Hq) ⊕ (Int32 × Hq)) := r_X12_rounds_143' V st.1 st.2.1 st.2.2
set_option maxHeartbeats 4000000 in
set_option maxRecDepth 100000 in
theorem w_X12_rounds_143 {p : Program} {l : Launch} {e : Env} {R : Room} {s : State} {m : MethodId} {args : Array Value} {below : List Frame} {meth : Method} {c : Code} {D : va_G} {cA : Nat → ClassId} {sk : (Nat → Nat) × (Nat → Nat)} {ad : Nat → Nat} {A : Nat → Prop} {V : Vk} (cx : CallFix p m c cX12_rounds 6 s args gw_tbl RX12) (fx : Fx D cA sk A s) (hlocks : meth.locks = false) (hret : meth.sig.returnType = (some .int)) (hR : 13 ≤ R.frames ∧ 312 ≤ R.locals) (r0 : Int32) (g0 : Hq) (y : (Int32 × Hq)) (hq : ∀ (rb : Int32) (gb : Hq), y = (rb, gb) → rb = r0 ∧ gb = g0) : ∀ (n : Nat) (k26 : Nat) (x27 : Int32) (g28 : Hq), itr (r_X12_rounds_143 V) n (k26, x27, g28) = some y → ∀ (H : Heap) (locs : List Loc) (ls : Array Slot), Dy D cA ad (V, g28) A s.heap H locs → lv_has ls 6 [(0, .ref (ad k26)), (3, .int x27)] → W p l e R s m args below meth c H locs 0 0 (MQ below (QI D cA ad A r0 (V, g0)) args s 0 0 A) (F0 m 143 ls []) := by
  intro n
  induction n with
  | zero => intro k26 x27 g28 hr; cases hr
  | succ n ih =>
    intro k26 x27 g28 hr H locs ls dy hl
    obtain ⟨z, hz, hn1, hn2⟩ := itr_succ hr
    clear hr
    have hr : r_X12_rounds_143' V k26 x27 g28 = some z := hz
    clear hz
    unfold r_X12_rounds_143' at hr
    have hh0 : ∀ (b0 : Nat) (b1 : Int32) (gb : Hq), z = .inl (b0, b1, gb) → ∀ (H : Heap) (locs : List Loc) (ls : Array Slot), Dy D cA ad (V, gb) A s.heap H locs → lv_has ls 6 [(0, .ref (ad b0)), (3, .int b1)] → W p l e R s m args below meth c H locs 0 0 (MQ below (QI D cA ad A r0 (V, g0)) args s 0 0 A) (F0 m 143 ls []) := fun b0 b1 gb eb => ih b0 b1 gb (hn1 _ eb)
    have hq0 : ∀ (rb : Int32) (gb : Hq), z = (.inr (rb, gb)) → rb = r0 ∧ gb = g0 := fun rb gb eb => hq rb gb (hn2 _ eb).symm
    refine lv_iload_n cx.1 cx.2.1 dX12_rounds_143 rfl (lv_at hl 1 rfl) ?_
    refine lv_aload_n cx.1 cx.2.1 dX12_rounds_144 rfl (lv_at hl 0 rfl) ?_
    obtain ⟨hv29, hr⟩ := of_grd hr
    refine h_getI cx fx dy fd_12_24 hv29 tb_1010 dX12_rounds_145 ?_
    rcases of_brn hr with ⟨hc, hr⟩ | ⟨hc, hr⟩
    · refine lv_icmp_ge (tgt := 252) cx.1 cx.2.1 dX12_rounds_148 (by decide) (fun _ => ?_) (fun hn => absurd hc hn)
      refine lv_aload_n cx.1 cx.2.1 dX12_rounds_252 rfl (lv_at hl 0 rfl) ?_
      refine lv_iconst (v := 1) cx.1 cx.2.1 dX12_rounds_253 (by decide) ?_
      obtain ⟨g30, eg30, hr⟩ := of_nm hr
      refine h_putI cx fx dy fd_12_23 (pd_12_23 : PD _ _ _ _ _ .boolean) rfl rfl rfl hv29 tb_1009 dX12_rounds_254 (fun H locs dy => ?_)
      replace dy : Dy D cA ad (V, g30) A s.heap H locs := by rw [eg30]; exact dy
      refine lv_aload_n cx.1 cx.2.1 dX12_rounds_257 rfl (lv_at hl 0 rfl) ?_
      refine h_getI cx fx dy fd_12_24 hv29 tb_1010 dX12_rounds_258 ?_
      obtain ⟨e0, e1⟩ := hq0 _ _ (Option.some.inj hr).symm
      exact h_iret cx dy hlocks hret rfl e0 (by rw [e1]) dX12_rounds_261
    · refine lv_icmp_ge (tgt := 252) cx.1 cx.2.1 dX12_rounds_148 (by decide) (fun hn => absurd hn hc) (fun _ => ?_)
      refine lv_iconst (v := 0) cx.1 cx.2.1 dX12_rounds_151 (by decide) ?_
      refine lv_istore (lv' := [(4, .int (0 : Int32)), (0, .ref (ad k26)), (3, .int x27)]) cx.1 cx.2.1 dX12_rounds_152 hl (by decide) rfl (fun ls hl => ?_)
      refine lv_aload_n cx.1 cx.2.1 dX12_rounds_154 rfl (lv_at hl 1 rfl) ?_
      obtain ⟨k31, hf32, hr⟩ := of_bnd hr
      refine h_getR cx fx dy fd_12_28 hv29 tb_1014 hf32 dX12_rounds_155 ?_
      refine lv_iload_n cx.1 cx.2.1 dX12_rounds_158 rfl (lv_at hl 2 rfl) ?_
      refine lv_iconst (v := 0) cx.1 cx.2.1 dX12_rounds_159 (by decide) ?_
      obtain ⟨ha33, hr⟩ := of_grd hr
      obtain ⟨g34, eg34, hr⟩ := of_nm hr
      refine h_iast cx fx dy ha33 dX12_rounds_160 (fun H locs dy => ?_)
      replace dy : Dy D cA ad (V, g34) A s.heap H locs := by rw [eg34]; exact dy
      refine lv_iconst (v := 0) cx.1 cx.2.1 dX12_rounds_161 (by decide) ?_
      refine lv_istore (lv' := [(5, .int (0 : Int32)), (4, .int (0 : Int32)), (0, .ref (ad k26)), (3, .int x27)]) cx.1 cx.2.1 dX12_rounds_162 hl (by decide) rfl (fun ls hl => ?_)
      obtain ⟨n, hr⟩ := lop_some hr
      exact w_X12_rounds_164 cx fx hlocks hret hR r0 g0 z hh0 hq0 n k26 x27 (0 : Int32) (0 : Int32) g34 hr H locs ls dy (lv_sub hl [2, 3, 1, 0] rfl)
noncomputable def r_X12_rounds_54' (V : Vk) (k11 : Nat) (x12 : Int32) (x13 : Int32) (g14 : Hq) : Option ((Nat × Int32 × Int32 × Hq) ⊕ (Int32 × Hq)) :=
  brn ((12 : Int32) ≤ x13) (grd (V k11 = some (12, 0)) <| bnd (r_X12_makeLengths V k11 g14) fun u16 g15 => nm (sI g15 k11 21 (11 : Int32)) fun g19 => nm (sI g19 k11 22 (0 : Int32)) fun g20 => bnd (r_X12_give 12 V k11 (0 : Int32) (0 : Int32) g20) fun u22 g21 => nm (sI g21 k11 24 (g21.1 k11 21)) fun g24 => nm (sI g24 k11 25 (g24.1 k11 22)) fun g25 => (Option.map Sum.inr (lop (r_X12_rounds_143 V) (k11, (0 : Int32), g25)))) (grd (V k11 = some (12, 0)) <| Option.bind (g14.2.2 k11 26) fun k71 => grd (okV V k71 0 x13) <| nm (sI g14 k71 x13.toNatClampNeg (-1 : Int32)) fun g74 => brn (((x12 >>> (x13 &&& 31)) &&& (1 : Int32)) = 0) (nm (x13 + (1 : Int32)) fun x75 => some (.inl (k11, x12, x75, g74))) (Option.bind (g74.2.2 k11 14) fun k76 => grd (okV V k76 0 (g74.1 k11 15)) <| nm (sI g74 k76 (g74.1 k11 15).toNatClampNeg x13) fun g79 => nm (sI g79 k11 15 ((g79.1 k11 15) + (1 : Int32))) fun g80 => nm (x13 + (1 : Int32)) fun x81 => some (.inl (k11, x12, x81, g80))))
noncomputable def r_X12_rounds_54 (V : Vk) (st : (Nat × Int32 × Int32 × Hq)) : Option ((Nat × Int32 × Int32 × Hq) ⊕ (Int32 × Hq)) := r_X12_rounds_54' V st.1 st.2.1 st.2.2.1 st.2.2.2
set_option maxHeartbeats 4000000 in
set_option maxRecDepth 100000 in
theorem w_X12_rounds_54 {p : Program} {l : Launch} {e : Env} {R : Room} {s : State} {m : MethodId} {args : Array Value} {below : List Frame} {meth : Method} {c : Code} {D : va_G} {cA : Nat → ClassId} {sk : (Nat → Nat) × (Nat → Nat)} {ad : Nat → Nat} {A : Nat → Prop} {V : Vk} (cx : CallFix p m c cX12_rounds 6 s args gw_tbl RX12) (fx : Fx D cA sk A s) (hlocks : meth.locks = false) (hret : meth.sig.returnType = (some .int)) (hR : 13 ≤ R.frames ∧ 312 ≤ R.locals) (r0 : Int32) (g0 : Hq) (y : (Int32 × Hq)) (hq : ∀ (rb : Int32) (gb : Hq), y = (rb, gb) → rb = r0 ∧ gb = g0) : ∀ (n : Nat) (k11 : Nat) (x12 : Int32) (x13 : Int32) (g14 : Hq), itr (r_X12_rounds_54 V) n (k11, x12, x13, g14) = some y → ∀ (H : Heap) (locs : List Loc) (ls : Array Slot), Dy D cA ad (V, g14) A s.heap H locs → lv_has ls 6 [(0, .ref (ad k11)), (1, .int x12), (3, .int x13)] → W p l e R s m args below meth c H locs 0 0 (MQ below (QI D cA ad A r0 (V, g0)) args s 0 0 A) (F0 m 54 ls []) := by
  intro n
  induction n with
  | zero => intro k11 x12 x13 g14 hr; cases hr
  | succ n ih =>
    intro k11 x12 x13 g14 hr H locs ls dy hl
    obtain ⟨z, hz, hn1, hn2⟩ := itr_succ hr
    clear hr
    have hr : r_X12_rounds_54' V k11 x12 x13 g14 = some z := hz
    clear hz
    unfold r_X12_rounds_54' at hr
    have hh0 : ∀ (b0 : Nat) (b1 : Int32) (b2 : Int32) (gb : Hq), z = .inl (b0, b1, b2, gb) → ∀ (H : Heap) (locs : List Loc) (ls : Array Slot), Dy D cA ad (V, gb) A s.heap H locs → lv_has ls 6 [(0, .ref (ad b0)), (1, .int b1), (3, .int b2)] → W p l e R s m args below meth c H locs 0 0 (MQ below (QI D cA ad A r0 (V, g0)) args s 0 0 A) (F0 m 54 ls []) := fun b0 b1 b2 gb eb => ih b0 b1 b2 gb (hn1 _ eb)
    have hq0 : ∀ (rb : Int32) (gb : Hq), z = (.inr (rb, gb)) → rb = r0 ∧ gb = g0 := fun rb gb eb => hq rb gb (hn2 _ eb).symm
    refine lv_iload_n cx.1 cx.2.1 dX12_rounds_54 rfl (lv_at hl 2 rfl) ?_
    refine lv_bipush (v := 12) cx.1 cx.2.1 dX12_rounds_55 (by decide) ?_
    rcases of_brn hr with ⟨hc, hr⟩ | ⟨hc, hr⟩
    · refine lv_icmp_ge (tgt := 104) cx.1 cx.2.1 dX12_rounds_57 (by decide) (fun _ => ?_) (fun hn => absurd hc hn)
      refine lv_aload_n cx.1 cx.2.1 dX12_rounds_104 rfl (lv_at hl 0 rfl) ?_
      obtain ⟨hv17, hr⟩ := of_grd hr
      obtain ⟨u16, g15, hc18, hr⟩ := of_bnd2 hr
      refine r_v dy (k_V (As := []) (b := k11) (ci := 12) cx fx dy (c_X12_makeLengths hc18) mv_X12_makeLengths rfl rfl ⟨Nat.le_trans (by decide) hR.1, Nat.le_trans (by decide) hR.2⟩ tb_1188 hv17 rfl (by decide) rfl hl.1 rfl (Nat.le_of_ble_eq_true rfl) ⟨Nat.zero_le _, Nat.zero_le _⟩ dX12_rounds_105) (fun H locs dy => ?_)
      refine lv_aload_n cx.1 cx.2.1 dX12_rounds_108 rfl (lv_at hl 0 rfl) ?_
      refine lv_bipush (v := 11) cx.1 cx.2.1 dX12_rounds_109 (by decide) ?_
      obtain ⟨g19, eg19, hr⟩ := of_nm hr
      refine h_putI cx fx dy fd_12_21 (pd_12_21 : PD _ _ _ _ _ .int) rfl rfl rfl hv17 tb_1007 dX12_rounds_111 (fun H locs dy => ?_)
      replace dy : Dy D cA ad (V, g19) A s.heap H locs := by rw [eg19]; exact dy
      refine lv_aload_n cx.1 cx.2.1 dX12_rounds_114 rfl (lv_at hl 0 rfl) ?_
      refine lv_iconst (v := 0) cx.1 cx.2.1 dX12_rounds_115 (by decide) ?_
      obtain ⟨g20, eg20, hr⟩ := of_nm hr
      refine h_putI cx fx dy fd_12_22 (pd_12_22 : PD _ _ _ _ _ .int) rfl rfl rfl hv17 tb_1008 dX12_rounds_116 (fun H locs dy => ?_)
      replace dy : Dy D cA ad (V, g20) A s.heap H locs := by rw [eg20]; exact dy
      refine lv_aload_n cx.1 cx.2.1 dX12_rounds_119 rfl (lv_at hl 0 rfl) ?_
      refine lv_iconst (v := 0) cx.1 cx.2.1 dX12_rounds_120 (by decide) ?_
      refine lv_iconst (v := 0) cx.1 cx.2.1 dX12_rounds_121 (by decide) ?_
      obtain ⟨u22, g21, hc23, hr⟩ := of_bnd2 hr
      refine r_v dy (k_V (As := [.int (0 : Int32), .int (0 : Int32)]) (b := k11) (ci := 12) cx fx dy (c_X12_give 12 hc23) mv_X12_give rfl rfl ⟨Nat.le_trans (by decide) hR.1, Nat.le_trans (by decide) hR.2⟩ tb_1199 hv17 rfl (by decide) rfl hl.1 rfl (Nat.le_of_ble_eq_true rfl) ⟨Nat.zero_le _, Nat.zero_le _⟩ dX12_rounds_122) (fun H locs dy => ?_)
      refine lv_aload_n cx.1 cx.2.1 dX12_rounds_125 rfl (lv_at hl 0 rfl) ?_
      refine lv_aload_n cx.1 cx.2.1 dX12_rounds_126 rfl (lv_at hl 0 rfl) ?_
      refine h_getI cx fx dy fd_12_21 hv17 tb_1007 dX12_rounds_127 ?_
      obtain ⟨g24, eg24, hr⟩ := of_nm hr
      refine h_putI cx fx dy fd_12_24 (pd_12_24 : PD _ _ _ _ _ .int) rfl rfl rfl hv17 tb_1010 dX12_rounds_130 (fun H locs dy => ?_)
      replace dy : Dy D cA ad (V, g24) A s.heap H locs := by rw [eg24]; exact dy
      refine lv_aload_n cx.1 cx.2.1 dX12_rounds_133 rfl (lv_at hl 0 rfl) ?_
      refine lv_aload_n cx.1 cx.2.1 dX12_rounds_134 rfl (lv_at hl 0 rfl) ?_
      refine h_getI cx fx dy fd_12_22 hv17 tb_1008 dX12_rounds_135 ?_
      obtain ⟨g25, eg25, hr⟩ := of_nm hr
      refine h_putI cx fx dy fd_12_25 (pd_12_25 : PD _ _ _ _ _ .int) rfl rfl rfl hv17 tb_1011 dX12_rounds_138 (fun H locs dy => ?_)
      replace dy : Dy D cA ad (V, g25) A s.heap H locs := by rw [eg25]; exact dy
      refine lv_iconst (v := 0) cx.1 cx.2.1 dX12_rounds_141 (by decide) ?_
      refine lv_istore_n (lv' := [(3, .int (0 : Int32)), (0, .ref (ad k11)), (1, .int x12)]) cx.1 cx.2.1 dX12_rounds_142 rfl hl (by decide) rfl (fun ls hl => ?_)
      obtain ⟨z1, hr, ez1⟩ := of_map hr
      obtain ⟨n, hr⟩ := lop_some hr
      exact w_X12_rounds_143 cx fx hlocks hret hR r0 g0 z1 (fun rb gb eb => hq0 rb gb (by rw [ez1, eb])) n k11 (0 : Int32) g25 hr H locs ls dy (lv_sub hl [1, 0] rfl)
    · refine lv_icmp_ge (tgt := 104) cx.1 cx.2.1 dX12_rounds_57 (by decide) (fun hn => absurd hn hc) (fun _ => ?_)
      refine lv_aload_n cx.1 cx.2.1 dX12_rounds_60 rfl (lv_at hl 0 rfl) ?_
      obtain ⟨hv70, hr⟩ := of_grd hr
      obtain ⟨k71, hf72, hr⟩ := of_bnd hr
      refine h_getR cx fx dy fd_12_26 hv70 tb_1012 hf72 dX12_rounds_61 ?_
      refine lv_iload_n cx.1 cx.2.1 dX12_rounds_64 rfl (lv_at hl 2 rfl) ?_
      refine lv_iconst (v := (-1)) cx.1 cx.2.1 dX12_rounds_65 (by decide) ?_
      obtain ⟨ha73, hr⟩ := of_grd hr
      obtain ⟨g74, eg74, hr⟩ := of_nm hr
      refine h_iast cx fx dy ha73 dX12_rounds_66 (fun H locs dy => ?_)
      replace dy : Dy D cA ad (V, g74) A s.heap H locs := by rw [eg74]; exact dy
      refine lv_iload_n cx.1 cx.2.1 dX12_rounds_67 rfl (lv_at hl 1 rfl) ?_
      refine lv_iload_n cx.1 cx.2.1 dX12_rounds_68 rfl (lv_at hl 2 rfl) ?_
      refine lv_ishr cx.1 cx.2.1 dX12_rounds_69 ?_
      refine lv_iconst (v := 1) cx.1 cx.2.1 dX12_rounds_70 (by decide) ?_
      refine lv_iand cx.1 cx.2.1 dX12_rounds_71 ?_
      rcases of_brn hr with ⟨hc, hr⟩ | ⟨hc, hr⟩
      · refine lv_if_ne (tgt := 78) cx.1 cx.2.1 dX12_rounds_72 (by decide) (fun hn => absurd hc hn) (fun _ => ?_)
        refine lv_goto (tgt := 98) cx.1 cx.2.1 dX12_rounds_75 (by decide) ?_
        obtain ⟨x75, ex75, hr⟩ := of_nm hr
        refine lv_iinc (v := x75) (lv' := [(3, .int x75), (0, .ref (ad k11)), (1, .int x12)]) cx.1 cx.2.1 dX12_rounds_98 hl (k := 2) rfl (by rw [ex75]; rfl) (by decide) rfl (fun ls hl => ?_)
        refine lv_goto (tgt := 54) cx.1 cx.2.1 dX12_rounds_101 (by decide) ?_
        exact hh0 k11 x12 x75 g74 (Option.some.inj hr).symm H locs ls dy (lv_sub hl [1, 2, 0] rfl)
      · refine lv_if_ne (tgt := 78) cx.1 cx.2.1 dX12_rounds_72 (by decide) (fun _ => ?_) (fun hn => absurd hn hc)
        refine lv_aload_n cx.1 cx.2.1 dX12_rounds_78 rfl (lv_at hl 0 rfl) ?_
        obtain ⟨k76, hf77, hr⟩ := of_bnd hr
        refine h_getR cx fx dy fd_12_14 hv70 tb_1000 hf77 dX12_rounds_79 ?_
        refine lv_aload_n cx.1 cx.2.1 dX12_rounds_82 rfl (lv_at hl 0 rfl) ?_
        refine h_getI cx fx dy fd_12_15 hv70 tb_1001 dX12_rounds_83 ?_
        refine lv_iload_n cx.1 cx.2.1 dX12_rounds_86 rfl (lv_at hl 2 rfl) ?_
        obtain ⟨ha78, hr⟩ := of_grd hr
        obtain ⟨g79, eg79, hr⟩ := of_nm hr
        refine h_iast cx fx dy ha78 dX12_rounds_87 (fun H locs dy => ?_)
        replace dy : Dy D cA ad (V, g79) A s.heap H locs := by rw [eg79]; exact dy
        refine lv_aload_n cx.1 cx.2.1 dX12_rounds_88 rfl (lv_at hl 0 rfl) ?_
        refine lv_dup cx.1 cx.2.1 dX12_rounds_89 rfl ?_
        refine h_getI cx fx dy fd_12_15 hv70 tb_1001 dX12_rounds_90 ?_
        refine lv_iconst (v := 1) cx.1 cx.2.1 dX12_rounds_93 (by decide) ?_
        refine lv_iadd cx.1 cx.2.1 dX12_rounds_94 ?_
        obtain ⟨g80, eg80, hr⟩ := of_nm hr
        refine h_putI cx fx dy fd_12_15 (pd_12_15 : PD _ _ _ _ _ .int) rfl rfl rfl hv70 tb_1001 dX12_rounds_95 (fun H locs dy => ?_)
        replace dy : Dy D cA ad (V, g80) A s.heap H locs := by rw [eg80]; exact dy
        obtain ⟨x81, ex81, hr⟩ := of_nm hr
        refine lv_iinc (v := x81) (lv' := [(3, .int x81), (0, .ref (ad k11)), (1, .int x12)]) cx.1 cx.2.1 dX12_rounds_98 hl (k := 2) rfl (by rw [ex81]; rfl) (by decide) rfl (fun ls hl => ?_)
        refine lv_goto (tgt := 54) cx.1 cx.2.1 dX12_rounds_101 (by decide) ?_
        exact hh0 k11 x12 x81 g80 (Option.some.inj hr).symm H locs ls dy (lv_sub hl [1, 2, 0] rfl)
noncomputable def r_X12_rounds_18' (V : Vk) (k4 : Nat) (x5 : Int32) (x6 : Int32) (x7 : Int32) (g8 : Hq) : Option ((Nat × Int32 × Int32 × Int32 × Hq) ⊕ (Int32 × Hq)) :=
  brn ((12 : Int32) ≤ x7) (brn (x6 ≤ (10 : Int32)) (grd (V k4 = some (12, 0)) <| nm (sI g8 k4 15 (0 : Int32)) fun g10 => (Option.map Sum.inr (lop (r_X12_rounds_54 V) (k4, x5, (0 : Int32), g10)))) (some (.inr ((-3 : Int32), g8)))) (nm (x6 + ((x5 >>> (x7 &&& 31)) &&& (1 : Int32))) fun x82 => nm (x7 + (1 : Int32)) fun x83 => some (.inl (k4, x5, x82, x83, g8)))
noncomputable def r_X12_rounds_18 (V : Vk) (st : (Nat × Int32 × Int32 × Int32 × Hq)) : Option ((Nat × Int32 × Int32 × Int32 × Hq) ⊕ (Int32 × Hq)) := r_X12_rounds_18' V st.1 st.2.1 st.2.2.1 st.2.2.2.1 st.2.2.2.2
set_option maxHeartbeats 4000000 in
set_option maxRecDepth 100000 in
theorem w_X12_rounds_18 {p : Program} {l : Launch} {e : Env} {R : Room} {s : State} {m : MethodId} {args : Array Value} {below : List Frame} {meth : Method} {c : Code} {D : va_G} {cA : Nat → ClassId} {sk : (Nat → Nat) × (Nat → Nat)} {ad : Nat → Nat} {A : Nat → Prop} {V : Vk} (cx : CallFix p m c cX12_rounds 6 s args gw_tbl RX12) (fx : Fx D cA sk A s) (hlocks : meth.locks = false) (hret : meth.sig.returnType = (some .int)) (hR : 13 ≤ R.frames ∧ 312 ≤ R.locals) (r0 : Int32) (g0 : Hq) (y : (Int32 × Hq)) (hq : ∀ (rb : Int32) (gb : Hq), y = (rb, gb) → rb = r0 ∧ gb = g0) : ∀ (n : Nat) (k4 : Nat) (x5 : Int32) (x6 : Int32) (x7 : Int32) (g8 : Hq), itr (r_X12_rounds_18 V) n (k4, x5, x6, x7, g8) = some y → ∀ (H : Heap) (locs : List Loc) (ls : Array Slot), Dy D cA ad (V, g8) A s.heap H locs → lv_has ls 6 [(0, .ref (ad k4)), (1, .int x5), (2, .int x6), (3, .int x7)] → W p l e R s m args below meth c H locs 0 0 (MQ below (QI D cA ad A r0 (V, g0)) args s 0 0 A) (F0 m 18 ls []) := by
  intro n
  induction n with
  | zero => intro k4 x5 x6 x7 g8 hr; cases hr
  | succ n ih =>
    intro k4 x5 x6 x7 g8 hr H locs ls dy hl
    obtain ⟨z, hz, hn1, hn2⟩ := itr_succ hr
    clear hr
    have hr : r_X12_rounds_18' V k4 x5 x6 x7 g8 = some z := hz
    clear hz
    unfold r_X12_rounds_18' at hr
    have hh0 : ∀ (b0 : Nat) (b1 : Int32) (b2 : Int32) (b3 : Int32) (gb : Hq), z = .inl (b0, b1, b2, b3, gb) → ∀ (H : Heap) (locs : List Loc) (ls : Array Slot), Dy D cA ad (V, gb) A s.heap H locs → lv_has ls 6 [(0, .ref (ad b0)), (1, .int b1), (2, .int b2), (3, .int b3)] → W p l e R s m args below meth c H locs 0 0 (MQ below (QI D cA ad A r0 (V, g0)) args s 0 0 A) (F0 m 18 ls []) := fun b0 b1 b2 b3 gb eb => ih b0 b1 b2 b3 gb (hn1 _ eb)
    have hq0 : ∀ (rb : Int32) (gb : Hq), z = (.inr (rb, gb)) → rb = r0 ∧ gb = g0 := fun rb gb eb => hq rb gb (hn2 _ eb).symm
    refine lv_iload_n cx.1 cx.2.1 dX12_rounds_18 rfl (lv_at hl 3 rfl) ?_
    refine lv_bipush (v := 12) cx.1 cx.2.1 dX12_rounds_19 (by decide) ?_
    rcases of_brn hr with ⟨hc, hr⟩ | ⟨hc, hr⟩
    · refine lv_icmp_ge (tgt := 38) cx.1 cx.2.1 dX12_rounds_21 (by decide) (fun _ => ?_) (fun hn => absurd hc hn)
      refine lv_iload_n cx.1 cx.2.1 dX12_rounds_38 rfl (lv_at hl 2 rfl) ?_
      refine lv_bipush (v := 10) cx.1 cx.2.1 dX12_rounds_39 (by decide) ?_
      rcases of_brn hr with ⟨hc, hr⟩ | ⟨hc, hr⟩
      · refine lv_icmp_le (tgt := 47) cx.1 cx.2.1 dX12_rounds_41 (by decide) (fun _ => ?_) (fun hn => absurd hc hn)
        refine lv_aload_n cx.1 cx.2.1 dX12_rounds_47 rfl (lv_at hl 0 rfl) ?_
        refine lv_iconst (v := 0) cx.1 cx.2.1 dX12_rounds_48 (by decide) ?_
        obtain ⟨hv9, hr⟩ := of_grd hr
        obtain ⟨g10, eg10, hr⟩ := of_nm hr
        refine h_putI cx fx dy fd_12_15 (pd_12_15 : PD _ _ _ _ _ .int) rfl rfl rfl hv9 tb_1001 dX12_rounds_49 (fun H locs dy => ?_)
        replace dy : Dy D cA ad (V, g10) A s.heap H locs := by rw [eg10]; exact dy
        refine lv_iconst (v := 0) cx.1 cx.2.1 dX12_rounds_52 (by decide) ?_
        refine lv_istore_n (lv' := [(3, .int (0 : Int32)), (0, .ref (ad k4)), (1, .int x5), (2, .int x6)]) cx.1 cx.2.1 dX12_rounds_53 rfl hl (by decide) rfl (fun ls hl => ?_)
        obtain ⟨z1, hr, ez1⟩ := of_map hr
        obtain ⟨n, hr⟩ := lop_some hr
        exact w_X12_rounds_54 cx fx hlocks hret hR r0 g0 z1 (fun rb gb eb => hq0 rb gb (by rw [ez1, eb])) n k4 x5 (0 : Int32) g10 hr H locs ls dy (lv_sub hl [1, 2, 0] rfl)
      · refine lv_icmp_le (tgt := 47) cx.1 cx.2.1 dX12_rounds_41 (by decide) (fun hn => absurd hn hc) (fun _ => ?_)
        refine lv_bipush (v := (-3)) cx.1 cx.2.1 dX12_rounds_44 (by decide) ?_
        obtain ⟨e0, e1⟩ := hq0 _ _ (Option.some.inj hr).symm
        exact h_iret cx dy hlocks hret rfl e0 (by rw [e1]) dX12_rounds_46
    · refine lv_icmp_ge (tgt := 38) cx.1 cx.2.1 dX12_rounds_21 (by decide) (fun hn => absurd hn hc) (fun _ => ?_)
      refine lv_iload_n cx.1 cx.2.1 dX12_rounds_24 rfl (lv_at hl 2 rfl) ?_
      refine lv_iload_n cx.1 cx.2.1 dX12_rounds_25 rfl (lv_at hl 1 rfl) ?_
      refine lv_iload_n cx.1 cx.2.1 dX12_rounds_26 rfl (lv_at hl 3 rfl) ?_
      refine lv_ishr cx.1 cx.2.1 dX12_rounds_27 ?_
      refine lv_iconst (v := 1) cx.1 cx.2.1 dX12_rounds_28 (by decide) ?_
      refine lv_iand cx.1 cx.2.1 dX12_rounds_29 ?_
      refine lv_iadd cx.1 cx.2.1 dX12_rounds_30 ?_
      obtain ⟨x82, ex82, hr⟩ := of_nm hr
      refine lv_nmi ex82 ?_
      refine lv_istore_n (lv' := [(2, .int x82), (0, .ref (ad k4)), (1, .int x5), (3, .int x7)]) cx.1 cx.2.1 dX12_rounds_31 rfl hl (by decide) rfl (fun ls hl => ?_)
      obtain ⟨x83, ex83, hr⟩ := of_nm hr
      refine lv_iinc (v := x83) (lv' := [(3, .int x83), (2, .int x82), (0, .ref (ad k4)), (1, .int x5)]) cx.1 cx.2.1 dX12_rounds_32 hl (k := 3) rfl (by rw [ex83]; rfl) (by decide) rfl (fun ls hl => ?_)
      refine lv_goto (tgt := 18) cx.1 cx.2.1 dX12_rounds_35 (by decide) ?_
      exact hh0 k4 x5 x82 x83 g8 (Option.some.inj hr).symm H locs ls dy (lv_sub hl [2, 3, 1, 0] rfl)
noncomputable def r_X12_rounds (V : Vk) (k0 : Nat) (a1 : Int32) (g : Hq) : Option (Int32 × Hq) :=
  bnd (r_X12_in V a1 (1 : Int32) (4095 : Int32) g) fun x2 g1 => brn (x2 = 0) (some ((-2 : Int32), g1)) ((lop (r_X12_rounds_18 V) (k0, a1, (0 : Int32), (0 : Int32), g1)))
set_option maxHeartbeats 4000000 in
set_option maxRecDepth 100000 in
theorem c_X12_rounds {l : Launch} {D : va_G} {cA : Nat → ClassId} {sk : (Nat → Nat) × (Nat → Nat)} {ad : Nat → Nat} {A : Nat → Prop} {V : Vk} {k0 : Nat} {a1 : Int32} {g g0 : Hq} {r0 : Int32} (hr : r_X12_rounds V k0 a1 g = some (r0, g0)) : Met l yX12_rounds (wM yX12_rounds cX12_rounds 6 (some .int)) { frames := 13, cells := 0, slots := 0, locals := 312 } (Pre D cA sk ad (V, g) A [.ref (ad k0), .int a1]) (QI D cA ad A r0 (V, g0)) 0 0 A := by
  refine Met.ofW (cc := cX12_rounds) (maxL := 6) (ret := (some .int)) (by decide) rfl ?_
  intro p e s m args below meth c s₁ B hml hv
  obtain ⟨rfl, fx, w0⟩ := hv
  have hts := atoms_spec (ws := wM yX12_rounds cX12_rounds 6 (some .int)) B.pre
  have cx : CallFix p m c cX12_rounds 6 s ([.ref (ad k0), .int a1] : List Value).toArray gw_tbl RX12 := ⟨B.exec, B.bytes, hml, findClass_of_methodNamed B.named, fun w hw => hts w (List.mem_cons_of_mem _ hw)⟩
  have hlocks := B.notSynchronized
  have hret := B.returns
  have hR : 13 ≤ (headSpec (wM yX12_rounds cX12_rounds 6 (some .int)) { frames := 13, cells := 0, slots := 0, locals := 312 }).room.frames ∧ 312 ≤ (headSpec (wM yX12_rounds cX12_rounds 6 (some .int)) { frames := 13, cells := 0, slots := 0, locals := 312 }).room.locals := ⟨Nat.le_refl _, Nat.le_refl _⟩
  have dy : Dy D cA ad (V, g) A s.heap s.heap [] := ⟨w0, va_S.rf⟩
  have hl := lv_entry [.ref (ad k0), .int a1] (n := 6) (Nat.le_of_ble_eq_true rfl)
  rw [lg_entry_eq]
  generalize (lg_sl [.ref (ad k0), .int a1] ++ List.replicate (6 - (lg_sl [.ref (ad k0), .int a1]).length) Slot.unset).toArray = ls at hl ⊢
  have hl : lv_has ls 6 [(0, .ref (ad k0)), (1, .int a1)] := hl
  have dy0 : ∃ H0, H0 = s.heap ∧ Dy D cA ad (V, g) A s.heap H0 [] := ⟨_, rfl, dy⟩
  obtain ⟨z, ez⟩ : ∃ z, z = (r0, g0) := ⟨_, rfl⟩
  rw [← ez] at hr
  have hq0 : ∀ (rb : Int32) (gb : Hq), z = (rb, gb) → rb = r0 ∧ gb = g0 := fun rb gb eb => by rw [ez] at eb; exact ⟨(congrArg Prod.fst eb).symm, (congrArg Prod.snd eb).symm⟩
  clear ez w0 dy0
  unfold r_X12_rounds at hr
  obtain ⟨H, hH⟩ : ∃ H, H = s.heap := ⟨_, rfl⟩
  obtain ⟨locs, hlo⟩ : ∃ q : List Loc, q = [] := ⟨_, rfl⟩
  have dy : Dy D cA ad (V, g) A s.heap H locs := by rw [hH, hlo]; exact dy
  suffices K : W p l e (headSpec (wM yX12_rounds cX12_rounds 6 (some .int)) { frames := 13, cells := 0, slots := 0, locals := 312 }).room s m ([.ref (ad k0), .int a1] : List Value).toArray below meth c H locs 0 0 (MQ below (QI D cA ad A r0 (V, g0)) ([.ref (ad k0), .int a1] : List Value).toArray s 0 0 A) (F0 m 0 ls []) by rw [hH, hlo] at K; exact K
  clear hH hlo
  refine lv_iload_n cx.1 cx.2.1 dX12_rounds_0 rfl (lv_at hl 1 rfl) ?_
  refine lv_iconst (v := 1) cx.1 cx.2.1 dX12_rounds_1 (by decide) ?_
  refine lv_sipush (v := 4095) cx.1 cx.2.1 dX12_rounds_2 (by decide) ?_
  obtain ⟨x2, g1, hc3, hr⟩ := of_bnd2 hr
  refine r_i dy (k_S (As := [.int a1, .int (1 : Int32), .int (4095 : Int32)]) cx fx dy (c_X12_in hc3) mv_X12_in rfl rfl ⟨Nat.le_trans (by decide) hR.1, Nat.le_trans (by decide) hR.2⟩ tb_1170 rfl hl.1 rfl (Nat.le_of_ble_eq_true rfl) ⟨Nat.zero_le _, Nat.zero_le _⟩ dX12_rounds_5) (fun H locs dy => ?_)
  rcases of_brn hr with ⟨hc, hr⟩ | ⟨hc, hr⟩
  · refine lv_if_ne (tgt := 14) cx.1 cx.2.1 dX12_rounds_8 (by decide) (fun hn => absurd hc hn) (fun _ => ?_)
    refine lv_bipush (v := (-2)) cx.1 cx.2.1 dX12_rounds_11 (by decide) ?_
    obtain ⟨e0, e1⟩ := hq0 _ _ (Option.some.inj hr).symm
    exact h_iret cx dy hlocks hret rfl e0 (by rw [e1]) dX12_rounds_13
  · refine lv_if_ne (tgt := 14) cx.1 cx.2.1 dX12_rounds_8 (by decide) (fun _ => ?_) (fun hn => absurd hn hc)
    refine lv_iconst (v := 0) cx.1 cx.2.1 dX12_rounds_14 (by decide) ?_
    refine lv_istore_n (lv' := [(2, .int (0 : Int32)), (0, .ref (ad k0)), (1, .int a1)]) cx.1 cx.2.1 dX12_rounds_15 rfl hl (by decide) rfl (fun ls hl => ?_)
    refine lv_iconst (v := 0) cx.1 cx.2.1 dX12_rounds_16 (by decide) ?_
    refine lv_istore_n (lv' := [(3, .int (0 : Int32)), (2, .int (0 : Int32)), (0, .ref (ad k0)), (1, .int a1)]) cx.1 cx.2.1 dX12_rounds_17 rfl hl (by decide) rfl (fun ls hl => ?_)
    obtain ⟨n, hr⟩ := lop_some hr
    exact w_X12_rounds_18 cx fx hlocks hret hR r0 g0 z hq0 n k0 a1 (0 : Int32) (0 : Int32) g1 hr H locs ls dy (lv_sub hl [2, 3, 1, 0] rfl)
