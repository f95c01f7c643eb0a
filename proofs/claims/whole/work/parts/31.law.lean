noncomputable def r_L_148 (xs : Nat → Int32) (L : Nat) (x3 : Int32) (V : Vk) (g : Hq) : Option ((Int32 × Vk × Hq) ⊕ Int32) :=
  grd (vp_in (x3 + (1 : Int32)) L) <| grd (vp_in (x3 + (2 : Int32)) L) <| grd (vp_in (x3 + (3 : Int32)) L) <| grd (vp_in (x3 + (4 : Int32)) L) <| grd (vp_in (x3 + (5 : Int32)) L) <| grd (V 0 = some (11, 0)) <| bnd (r_X11_feed V 0 (xs (x3 + (1 : Int32)).toNatClampNeg) (xs (x3 + (2 : Int32)).toNatClampNeg) (xs (x3 + (3 : Int32)).toNatClampNeg) (xs (x3 + (4 : Int32)).toNatClampNeg) (xs (x3 + (5 : Int32)).toNatClampNeg) g) fun x9 g8 => grd (vp_in (x3 + (1 : Int32)) L) <| grd (vp_in (x3 + (2 : Int32)) L) <| grd (vp_in (x3 + (3 : Int32)) L) <| grd (vp_in (x3 + (4 : Int32)) L) <| grd (vp_in (x3 + (5 : Int32)) L) <| grd (V 70 = some (12, 0)) <| bnd (r_X12_feed V 70 (xs (x3 + (1 : Int32)).toNatClampNeg) (xs (x3 + (2 : Int32)).toNatClampNeg) (xs (x3 + (3 : Int32)).toNatClampNeg) (xs (x3 + (4 : Int32)).toNatClampNeg) (xs (x3 + (5 : Int32)).toNatClampNeg) g8) fun x18 g17 => brn (x9 = x18) (nm (x3 + (6 : Int32)) fun x21 => some (.inl (x21, V, g17))) (some (.inr (0 : Int32)))
set_option maxHeartbeats 4000000 in
set_option maxRecDepth 100000 in
theorem w_L_148 {p : Program} {l : Launch} {e : Env} {s : State} {m : MethodId} {below : List Frame} {meth : Method} {c : Code} {D : va_G} {cA : Nat → ClassId} {sk : (Nat → Nat) × (Nat → Nat)} {A : Nat → Prop} {b L : Nat} {xs : Nat → Int32} (cx : CallFix p m c cL_law 4 s #[Value.ref b] gw_tbl RL) (fx : Fx D cA sk A s) (hX : va_X b L xs s s.heap) (hbl : b < s.heap.size) (hbA : ¬ A b) (hret : meth.sig.returnType = ret) (hlocks : meth.locks = false) (hAf : ∀ q, A q → s.heap.size ≤ q) (z : (Int32 × Vk × Hq) ⊕ Int32) {c0 s0 : Nat} (hh0 : ∀ (xb : Int32) (Vb : Vk) (gb : Hq), z = .inl (xb, Vb, gb) → ∀ (ad : Nat → Nat) (H : Heap) (locs : List Loc) (ls : Array Slot), Dy D cA ad (Vb, gb) A s.heap H locs → lv_has ls 4 [(0, .ref b), (1, .ref (ad 0)), (2, .ref (ad 70)), (3, .int xb)] → W p l e room_1 s m #[Value.ref b] below meth c H locs (c0 + 1) (s0 + 6) (lw_Z below #[Value.ref b] s) (F0 m 18 ls [])) (hq0 : ∀ b : Int32, z = .inr b → b = 1) (x3 : Int32) (V : Vk) (g : Hq) (hr : r_L_148 xs L x3 V g = some z) (hcap : c0 + 1 ≤ room_1.cells ∧ s0 + 6 ≤ room_1.slots) (ad : Nat → Nat) (H : Heap) (locs : List Loc) (ls : Array Slot) (dy : Dy D cA ad (V, g) A s.heap H locs) (hl : lv_has ls 4 [(0, .ref b), (1, .ref (ad 0)), (2, .ref (ad 70)), (3, .int x3)]) : W p l e room_1 s m #[Value.ref b] below meth c H locs c0 s0 (lw_Z below #[Value.ref b] s) (F0 m 148 ls []) := by
  unfold r_L_148 at hr
  refine lv_aload_n cx.1 cx.2.1 dL_law_148 rfl (lv_at hl 1 rfl) ?_
  refine lv_aload_n cx.1 cx.2.1 dL_law_149 rfl (lv_at hl 0 rfl) ?_
  refine lv_iload_n cx.1 cx.2.1 dL_law_150 rfl (lv_at hl 3 rfl) ?_
  refine lv_iconst (v := 1) cx.1 cx.2.1 dL_law_151 (by decide) ?_
  refine lv_iadd cx.1 cx.2.1 dL_law_152 ?_
  obtain ⟨ha3, hr⟩ := of_grd hr
  refine va_sld cx.1 cx.2.1 hX hbl hbA dy.2 ha3 dL_law_153 ?_
  refine lv_aload_n cx.1 cx.2.1 dL_law_154 rfl (lv_at hl 0 rfl) ?_
  refine lv_iload_n cx.1 cx.2.1 dL_law_155 rfl (lv_at hl 3 rfl) ?_
  refine lv_iconst (v := 2) cx.1 cx.2.1 dL_law_156 (by decide) ?_
  refine lv_iadd cx.1 cx.2.1 dL_law_157 ?_
  obtain ⟨ha4, hr⟩ := of_grd hr
  refine va_sld cx.1 cx.2.1 hX hbl hbA dy.2 ha4 dL_law_158 ?_
  refine lv_aload_n cx.1 cx.2.1 dL_law_159 rfl (lv_at hl 0 rfl) ?_
  refine lv_iload_n cx.1 cx.2.1 dL_law_160 rfl (lv_at hl 3 rfl) ?_
  refine lv_iconst (v := 3) cx.1 cx.2.1 dL_law_161 (by decide) ?_
  refine lv_iadd cx.1 cx.2.1 dL_law_162 ?_
  obtain ⟨ha5, hr⟩ := of_grd hr
  refine va_sld cx.1 cx.2.1 hX hbl hbA dy.2 ha5 dL_law_163 ?_
  refine lv_aload_n cx.1 cx.2.1 dL_law_164 rfl (lv_at hl 0 rfl) ?_
  refine lv_iload_n cx.1 cx.2.1 dL_law_165 rfl (lv_at hl 3 rfl) ?_
  refine lv_iconst (v := 4) cx.1 cx.2.1 dL_law_166 (by decide) ?_
  refine lv_iadd cx.1 cx.2.1 dL_law_167 ?_
  obtain ⟨ha6, hr⟩ := of_grd hr
  refine va_sld cx.1 cx.2.1 hX hbl hbA dy.2 ha6 dL_law_168 ?_
  refine lv_aload_n cx.1 cx.2.1 dL_law_169 rfl (lv_at hl 0 rfl) ?_
  refine lv_iload_n cx.1 cx.2.1 dL_law_170 rfl (lv_at hl 3 rfl) ?_
  refine lv_iconst (v := 5) cx.1 cx.2.1 dL_law_171 (by decide) ?_
  refine lv_iadd cx.1 cx.2.1 dL_law_172 ?_
  obtain ⟨ha7, hr⟩ := of_grd hr
  refine va_sld cx.1 cx.2.1 hX hbl hbA dy.2 ha7 dL_law_173 ?_
  obtain ⟨hv10, hr⟩ := of_grd hr
  obtain ⟨x9, g8, hc11, hr⟩ := of_bnd2 hr
  refine r_i dy (k_V (As := [.int (xs (x3 + (1 : Int32)).toNatClampNeg), .int (xs (x3 + (2 : Int32)).toNatClampNeg), .int (xs (x3 + (3 : Int32)).toNatClampNeg), .int (xs (x3 + (4 : Int32)).toNatClampNeg), .int (xs (x3 + (5 : Int32)).toNatClampNeg)]) (b := 0) (ci := 11) cx fx dy (c_X11_feed hc11) mv_X11_feed rfl rfl ⟨by decide, by decide⟩ tb_393 hv10 rfl (by decide) rfl hl.1 rfl (Nat.le_of_ble_eq_true rfl) ⟨Nat.le_trans (Nat.le_add_right c0 1) hcap.1, Nat.le_trans (Nat.le_add_right s0 6) hcap.2⟩ dL_law_174) (fun H locs dy => ?_)
  refine lv_aload_n cx.1 cx.2.1 dL_law_177 rfl (lv_at hl 2 rfl) ?_
  refine lv_aload_n cx.1 cx.2.1 dL_law_178 rfl (lv_at hl 0 rfl) ?_
  refine lv_iload_n cx.1 cx.2.1 dL_law_179 rfl (lv_at hl 3 rfl) ?_
  refine lv_iconst (v := 1) cx.1 cx.2.1 dL_law_180 (by decide) ?_
  refine lv_iadd cx.1 cx.2.1 dL_law_181 ?_
  obtain ⟨ha12, hr⟩ := of_grd hr
  refine va_sld cx.1 cx.2.1 hX hbl hbA dy.2 ha12 dL_law_182 ?_
  refine lv_aload_n cx.1 cx.2.1 dL_law_183 rfl (lv_at hl 0 rfl) ?_
  refine lv_iload_n cx.1 cx.2.1 dL_law_184 rfl (lv_at hl 3 rfl) ?_
  refine lv_iconst (v := 2) cx.1 cx.2.1 dL_law_185 (by decide) ?_
  refine lv_iadd cx.1 cx.2.1 dL_law_186 ?_
  obtain ⟨ha13, hr⟩ := of_grd hr
  refine va_sld cx.1 cx.2.1 hX hbl hbA dy.2 ha13 dL_law_187 ?_
  refine lv_aload_n cx.1 cx.2.1 dL_law_188 rfl (lv_at hl 0 rfl) ?_
  refine lv_iload_n cx.1 cx.2.1 dL_law_189 rfl (lv_at hl 3 rfl) ?_
  refine lv_iconst (v := 3) cx.1 cx.2.1 dL_law_190 (by decide) ?_
  refine lv_iadd cx.1 cx.2.1 dL_law_191 ?_
  obtain ⟨ha14, hr⟩ := of_grd hr
  refine va_sld cx.1 cx.2.1 hX hbl hbA dy.2 ha14 dL_law_192 ?_
  refine lv_aload_n cx.1 cx.2.1 dL_law_193 rfl (lv_at hl 0 rfl) ?_
  refine lv_iload_n cx.1 cx.2.1 dL_law_194 rfl (lv_at hl 3 rfl) ?_
  refine lv_iconst (v := 4) cx.1 cx.2.1 dL_law_195 (by decide) ?_
  refine lv_iadd cx.1 cx.2.1 dL_law_196 ?_
  obtain ⟨ha15, hr⟩ := of_grd hr
  refine va_sld cx.1 cx.2.1 hX hbl hbA dy.2 ha15 dL_law_197 ?_
  refine lv_aload_n cx.1 cx.2.1 dL_law_198 rfl (lv_at hl 0 rfl) ?_
  refine lv_iload_n cx.1 cx.2.1 dL_law_199 rfl (lv_at hl 3 rfl) ?_
  refine lv_iconst (v := 5) cx.1 cx.2.1 dL_law_200 (by decide) ?_
  refine lv_iadd cx.1 cx.2.1 dL_law_201 ?_
  obtain ⟨ha16, hr⟩ := of_grd hr
  refine va_sld cx.1 cx.2.1 hX hbl hbA dy.2 ha16 dL_law_202 ?_
  obtain ⟨hv19, hr⟩ := of_grd hr
  obtain ⟨x18, g17, hc20, hr⟩ := of_bnd2 hr
  refine r_i dy (k_V (As := [.int (xs (x3 + (1 : Int32)).toNatClampNeg), .int (xs (x3 + (2 : Int32)).toNatClampNeg), .int (xs (x3 + (3 : Int32)).toNatClampNeg), .int (xs (x3 + (4 : Int32)).toNatClampNeg), .int (xs (x3 + (5 : Int32)).toNatClampNeg)]) (b := 70) (ci := 12) cx fx dy (c_X12_feed hc20) mv_X12_feed rfl rfl ⟨by decide, by decide⟩ tb_1155 hv19 rfl (by decide) rfl hl.1 rfl (Nat.le_of_ble_eq_true rfl) ⟨Nat.le_trans (Nat.le_add_right c0 1) hcap.1, Nat.le_trans (Nat.le_add_right s0 6) hcap.2⟩ dL_law_203) (fun H locs dy => ?_)
  rcases of_brn hr with ⟨hc, hr⟩ | ⟨hc, hr⟩
  · refine lv_icmp_eq (tgt := 1052) cx.1 cx.2.1 dL_law_206 (by decide) (fun _ => ?_) (fun hn => absurd hc hn)
    obtain ⟨x21, ex21, hr⟩ := of_nm hr
    refine lv_iinc (v := x21) (lv' := [(3, .int x21), (0, .ref b), (1, .ref (ad 0)), (2, .ref (ad 70))]) cx.1 cx.2.1 dL_law_1052 hl (k := 3) rfl (by rw [ex21]; rfl) (by decide) rfl (fun ls hl => ?_)
    refine lv_goto (tgt := 18) cx.1 cx.2.1 dL_law_1055 (by decide) ?_
    refine W.widen (k := c0 + 1) (n := s0 + 6) (by omega) (by omega) ?_
    exact hh0 x21 V g17 (Option.some.inj hr).symm ad H locs ls dy (lv_sub hl [1, 2, 3, 0] rfl)
  · refine lv_icmp_eq (tgt := 1052) cx.1 cx.2.1 dL_law_206 (by decide) (fun hn => absurd hn hc) (fun _ => ?_)
    refine lv_iconst (v := 0) cx.1 cx.2.1 dL_law_209 (by decide) ?_
    exact absurd (hq0 _ (Option.some.inj hr).symm) (by decide)
noncomputable def r_L_211 (xs : Nat → Int32) (L : Nat) (x3 : Int32) (V : Vk) (g : Hq) : Option ((Int32 × Vk × Hq) ⊕ Int32) :=
  grd (vp_in (x3 + (1 : Int32)) L) <| grd (V 0 = some (11, 0)) <| bnd (r_X11_end V 0 (xs (x3 + (1 : Int32)).toNatClampNeg) g) fun x25 g24 => grd (vp_in (x3 + (1 : Int32)) L) <| grd (V 70 = some (12, 0)) <| bnd (r_X12_end V 70 (xs (x3 + (1 : Int32)).toNatClampNeg) g24) fun x30 g29 => brn (x25 = x30) (nm (x3 + (6 : Int32)) fun x33 => some (.inl (x33, V, g29))) (some (.inr (0 : Int32)))
set_option maxHeartbeats 4000000 in
set_option maxRecDepth 100000 in
theorem w_L_211 {p : Program} {l : Launch} {e : Env} {s : State} {m : MethodId} {below : List Frame} {meth : Method} {c : Code} {D : va_G} {cA : Nat → ClassId} {sk : (Nat → Nat) × (Nat → Nat)} {A : Nat → Prop} {b L : Nat} {xs : Nat → Int32} (cx : CallFix p m c cL_law 4 s #[Value.ref b] gw_tbl RL) (fx : Fx D cA sk A s) (hX : va_X b L xs s s.heap) (hbl : b < s.heap.size) (hbA : ¬ A b) (hret : meth.sig.returnType = ret) (hlocks : meth.locks = false) (hAf : ∀ q, A q → s.heap.size ≤ q) (z : (Int32 × Vk × Hq) ⊕ Int32) {c0 s0 : Nat} (hh0 : ∀ (xb : Int32) (Vb : Vk) (gb : Hq), z = .inl (xb, Vb, gb) → ∀ (ad : Nat → Nat) (H : Heap) (locs : List Loc) (ls : Array Slot), Dy D cA ad (Vb, gb) A s.heap H locs → lv_has ls 4 [(0, .ref b), (1, .ref (ad 0)), (2, .ref (ad 70)), (3, .int xb)] → W p l e room_1 s m #[Value.ref b] below meth c H locs (c0 + 1) (s0 + 6) (lw_Z below #[Value.ref b] s) (F0 m 18 ls [])) (hq0 : ∀ b : Int32, z = .inr b → b = 1) (x3 : Int32) (V : Vk) (g : Hq) (hr : r_L_211 xs L x3 V g = some z) (hcap : c0 + 1 ≤ room_1.cells ∧ s0 + 6 ≤ room_1.slots) (ad : Nat → Nat) (H : Heap) (locs : List Loc) (ls : Array Slot) (dy : Dy D cA ad (V, g) A s.heap H locs) (hl : lv_has ls 4 [(0, .ref b), (1, .ref (ad 0)), (2, .ref (ad 70)), (3, .int x3)]) : W p l e room_1 s m #[Value.ref b] below meth c H locs c0 s0 (lw_Z below #[Value.ref b] s) (F0 m 211 ls []) := by
  unfold r_L_211 at hr
  refine lv_aload_n cx.1 cx.2.1 dL_law_211 rfl (lv_at hl 1 rfl) ?_
  refine lv_aload_n cx.1 cx.2.1 dL_law_212 rfl (lv_at hl 0 rfl) ?_
  refine lv_iload_n cx.1 cx.2.1 dL_law_213 rfl (lv_at hl 3 rfl) ?_
  refine lv_iconst (v := 1) cx.1 cx.2.1 dL_law_214 (by decide) ?_
  refine lv_iadd cx.1 cx.2.1 dL_law_215 ?_
  obtain ⟨ha23, hr⟩ := of_grd hr
  refine va_sld cx.1 cx.2.1 hX hbl hbA dy.2 ha23 dL_law_216 ?_
  obtain ⟨hv26, hr⟩ := of_grd hr
  obtain ⟨x25, g24, hc27, hr⟩ := of_bnd2 hr
  refine r_i dy (k_V (As := [.int (xs (x3 + (1 : Int32)).toNatClampNeg)]) (b := 0) (ci := 11) cx fx dy (c_X11_end hc27) mv_X11_end rfl rfl ⟨by decide, by decide⟩ tb_409 hv26 rfl (by decide) rfl hl.1 rfl (Nat.le_of_ble_eq_true rfl) ⟨Nat.le_trans (Nat.le_add_right c0 1) hcap.1, Nat.le_trans (Nat.le_add_right s0 6) hcap.2⟩ dL_law_217) (fun H locs dy => ?_)
  refine lv_aload_n cx.1 cx.2.1 dL_law_220 rfl (lv_at hl 2 rfl) ?_
  refine lv_aload_n cx.1 cx.2.1 dL_law_221 rfl (lv_at hl 0 rfl) ?_
  refine lv_iload_n cx.1 cx.2.1 dL_law_222 rfl (lv_at hl 3 rfl) ?_
  refine lv_iconst (v := 1) cx.1 cx.2.1 dL_law_223 (by decide) ?_
  refine lv_iadd cx.1 cx.2.1 dL_law_224 ?_
  obtain ⟨ha28, hr⟩ := of_grd hr
  refine va_sld cx.1 cx.2.1 hX hbl hbA dy.2 ha28 dL_law_225 ?_
  obtain ⟨hv31, hr⟩ := of_grd hr
  obtain ⟨x30, g29, hc32, hr⟩ := of_bnd2 hr
  refine r_i dy (k_V (As := [.int (xs (x3 + (1 : Int32)).toNatClampNeg)]) (b := 70) (ci := 12) cx fx dy (c_X12_end hc32) mv_X12_end rfl rfl ⟨by decide, by decide⟩ tb_1159 hv31 rfl (by decide) rfl hl.1 rfl (Nat.le_of_ble_eq_true rfl) ⟨Nat.le_trans (Nat.le_add_right c0 1) hcap.1, Nat.le_trans (Nat.le_add_right s0 6) hcap.2⟩ dL_law_226) (fun H locs dy => ?_)
  rcases of_brn hr with ⟨hc, hr⟩ | ⟨hc, hr⟩
  · refine lv_icmp_eq (tgt := 1052) cx.1 cx.2.1 dL_law_229 (by decide) (fun _ => ?_) (fun hn => absurd hc hn)
    obtain ⟨x33, ex33, hr⟩ := of_nm hr
    refine lv_iinc (v := x33) (lv' := [(3, .int x33), (0, .ref b), (1, .ref (ad 0)), (2, .ref (ad 70))]) cx.1 cx.2.1 dL_law_1052 hl (k := 3) rfl (by rw [ex33]; rfl) (by decide) rfl (fun ls hl => ?_)
    refine lv_goto (tgt := 18) cx.1 cx.2.1 dL_law_1055 (by decide) ?_
    refine W.widen (k := c0 + 1) (n := s0 + 6) (by omega) (by omega) ?_
    exact hh0 x33 V g29 (Option.some.inj hr).symm ad H locs ls dy (lv_sub hl [1, 2, 3, 0] rfl)
  · refine lv_icmp_eq (tgt := 1052) cx.1 cx.2.1 dL_law_229 (by decide) (fun hn => absurd hn hc) (fun _ => ?_)
    refine lv_iconst (v := 0) cx.1 cx.2.1 dL_law_232 (by decide) ?_
    exact absurd (hq0 _ (Option.some.inj hr).symm) (by decide)
noncomputable def r_L_234 (xs : Nat → Int32) (L : Nat) (x3 : Int32) (V : Vk) (g : Hq) : Option ((Int32 × Vk × Hq) ⊕ Int32) :=
  grd (vp_in (x3 + (1 : Int32)) L) <| grd (vp_in (x3 + (2 : Int32)) L) <| grd (vp_in (x3 + (3 : Int32)) L) <| grd (V 0 = some (11, 0)) <| bnd (r_X11_court V 0 (xs (x3 + (1 : Int32)).toNatClampNeg) (xs (x3 + (2 : Int32)).toNatClampNeg) (xs (x3 + (3 : Int32)).toNatClampNeg) g) fun x39 g38 => grd (vp_in (x3 + (1 : Int32)) L) <| grd (vp_in (x3 + (2 : Int32)) L) <| grd (vp_in (x3 + (3 : Int32)) L) <| grd (V 70 = some (12, 0)) <| bnd (r_X12_court V 70 (xs (x3 + (1 : Int32)).toNatClampNeg) (xs (x3 + (2 : Int32)).toNatClampNeg) (xs (x3 + (3 : Int32)).toNatClampNeg) g38) fun x46 g45 => brn (x39 = x46) (nm (x3 + (6 : Int32)) fun x49 => some (.inl (x49, V, g45))) (some (.inr (0 : Int32)))
set_option maxHeartbeats 4000000 in
set_option maxRecDepth 100000 in
theorem w_L_234 {p : Program} {l : Launch} {e : Env} {s : State} {m : MethodId} {below : List Frame} {meth : Method} {c : Code} {D : va_G} {cA : Nat → ClassId} {sk : (Nat → Nat) × (Nat → Nat)} {A : Nat → Prop} {b L : Nat} {xs : Nat → Int32} (cx : CallFix p m c cL_law 4 s #[Value.ref b] gw_tbl RL) (fx : Fx D cA sk A s) (hX : va_X b L xs s s.heap) (hbl : b < s.heap.size) (hbA : ¬ A b) (hret : meth.sig.returnType = ret) (hlocks : meth.locks = false) (hAf : ∀ q, A q → s.heap.size ≤ q) (z : (Int32 × Vk × Hq) ⊕ Int32) {c0 s0 : Nat} (hh0 : ∀ (xb : Int32) (Vb : Vk) (gb : Hq), z = .inl (xb, Vb, gb) → ∀ (ad : Nat → Nat) (H : Heap) (locs : List Loc) (ls : Array Slot), Dy D cA ad (Vb, gb) A s.heap H locs → lv_has ls 4 [(0, .ref b), (1, .ref (ad 0)), (2, .ref (ad 70)), (3, .int xb)] → W p l e room_1 s m #[Value.ref b] below meth c H locs (c0 + 1) (s0 + 6) (lw_Z below #[Value.ref b] s) (F0 m 18 ls [])) (hq0 : ∀ b : Int32, z = .inr b → b = 1) (x3 : Int32) (V : Vk) (g : Hq) (hr : r_L_234 xs L x3 V g = some z) (hcap : c0 + 1 ≤ room_1.cells ∧ s0 + 6 ≤ room_1.slots) (ad : Nat → Nat) (H : Heap) (locs : List Loc) (ls : Array Slot) (dy : Dy D cA ad (V, g) A s.heap H locs) (hl : lv_has ls 4 [(0, .ref b), (1, .ref (ad 0)), (2, .ref (ad 70)), (3, .int x3)]) : W p l e room_1 s m #[Value.ref b] below meth c H locs c0 s0 (lw_Z below #[Value.ref b] s) (F0 m 234 ls []) := by
  unfold r_L_234 at hr
  refine lv_aload_n cx.1 cx.2.1 dL_law_234 rfl (lv_at hl 1 rfl) ?_
  refine lv_aload_n cx.1 cx.2.1 dL_law_235 rfl (lv_at hl 0 rfl) ?_
  refine lv_iload_n cx.1 cx.2.1 dL_law_236 rfl (lv_at hl 3 rfl) ?_
  refine lv_iconst (v := 1) cx.1 cx.2.1 dL_law_237 (by decide) ?_
  refine lv_iadd cx.1 cx.2.1 dL_law_238 ?_
  obtain ⟨ha35, hr⟩ := of_grd hr
  refine va_sld cx.1 cx.2.1 hX hbl hbA dy.2 ha35 dL_law_239 ?_
  refine lv_aload_n cx.1 cx.2.1 dL_law_240 rfl (lv_at hl 0 rfl) ?_
  refine lv_iload_n cx.1 cx.2.1 dL_law_241 rfl (lv_at hl 3 rfl) ?_
  refine lv_iconst (v := 2) cx.1 cx.2.1 dL_law_242 (by decide) ?_
  refine lv_iadd cx.1 cx.2.1 dL_law_243 ?_
  obtain ⟨ha36, hr⟩ := of_grd hr
  refine va_sld cx.1 cx.2.1 hX hbl hbA dy.2 ha36 dL_law_244 ?_
  refine lv_aload_n cx.1 cx.2.1 dL_law_245 rfl (lv_at hl 0 rfl) ?_
  refine lv_iload_n cx.1 cx.2.1 dL_law_246 rfl (lv_at hl 3 rfl) ?_
  refine lv_iconst (v := 3) cx.1 cx.2.1 dL_law_247 (by decide) ?_
  refine lv_iadd cx.1 cx.2.1 dL_law_248 ?_
  obtain ⟨ha37, hr⟩ := of_grd hr
  refine va_sld cx.1 cx.2.1 hX hbl hbA dy.2 ha37 dL_law_249 ?_
  obtain ⟨hv40, hr⟩ := of_grd hr
  obtain ⟨x39, g38, hc41, hr⟩ := of_bnd2 hr
  refine r_i dy (k_V (As := [.int (xs (x3 + (1 : Int32)).toNatClampNeg), .int (xs (x3 + (2 : Int32)).toNatClampNeg), .int (xs (x3 + (3 : Int32)).toNatClampNeg)]) (b := 0) (ci := 11) cx fx dy (c_X11_court hc41) mv_X11_court rfl rfl ⟨by decide, by decide⟩ tb_417 hv40 rfl (by decide) rfl hl.1 rfl (Nat.le_of_ble_eq_true rfl) ⟨Nat.le_trans (Nat.le_add_right c0 1) hcap.1, Nat.le_trans (Nat.le_add_right s0 6) hcap.2⟩ dL_law_250) (fun H locs dy => ?_)
  refine lv_aload_n cx.1 cx.2.1 dL_law_253 rfl (lv_at hl 2 rfl) ?_
  refine lv_aload_n cx.1 cx.2.1 dL_law_254 rfl (lv_at hl 0 rfl) ?_
  refine lv_iload_n cx.1 cx.2.1 dL_law_255 rfl (lv_at hl 3 rfl) ?_
  refine lv_iconst (v := 1) cx.1 cx.2.1 dL_law_256 (by decide) ?_
  refine lv_iadd cx.1 cx.2.1 dL_law_257 ?_
  obtain ⟨ha42, hr⟩ := of_grd hr
  refine va_sld cx.1 cx.2.1 hX hbl hbA dy.2 ha42 dL_law_258 ?_
  refine lv_aload_n cx.1 cx.2.1 dL_law_259 rfl (lv_at hl 0 rfl) ?_
  refine lv_iload_n cx.1 cx.2.1 dL_law_260 rfl (lv_at hl 3 rfl) ?_
  refine lv_iconst (v := 2) cx.1 cx.2.1 dL_law_261 (by decide) ?_
  refine lv_iadd cx.1 cx.2.1 dL_law_262 ?_
  obtain ⟨ha43, hr⟩ := of_grd hr
  refine va_sld cx.1 cx.2.1 hX hbl hbA dy.2 ha43 dL_law_263 ?_
  refine lv_aload_n cx.1 cx.2.1 dL_law_264 rfl (lv_at hl 0 rfl) ?_
  refine lv_iload_n cx.1 cx.2.1 dL_law_265 rfl (lv_at hl 3 rfl) ?_
  refine lv_iconst (v := 3) cx.1 cx.2.1 dL_law_266 (by decide) ?_
  refine lv_iadd cx.1 cx.2.1 dL_law_267 ?_
  obtain ⟨ha44, hr⟩ := of_grd hr
  refine va_sld cx.1 cx.2.1 hX hbl hbA dy.2 ha44 dL_law_268 ?_
  obtain ⟨hv47, hr⟩ := of_grd hr
  obtain ⟨x46, g45, hc48, hr⟩ := of_bnd2 hr
  refine r_i dy (k_V (As := [.int (xs (x3 + (1 : Int32)).toNatClampNeg), .int (xs (x3 + (2 : Int32)).toNatClampNeg), .int (xs (x3 + (3 : Int32)).toNatClampNeg)]) (b := 70) (ci := 12) cx fx dy (c_X12_court hc48) mv_X12_court rfl rfl ⟨by decide, by decide⟩ tb_1163 hv47 rfl (by decide) rfl hl.1 rfl (Nat.le_of_ble_eq_true rfl) ⟨Nat.le_trans (Nat.le_add_right c0 1) hcap.1, Nat.le_trans (Nat.le_add_right s0 6) hcap.2⟩ dL_law_269) (fun H locs dy => ?_)
  rcases of_brn hr with ⟨hc, hr⟩ | ⟨hc, hr⟩
  · refine lv_icmp_eq (tgt := 1052) cx.1 cx.2.1 dL_law_272 (by decide) (fun _ => ?_) (fun hn => absurd hc hn)
    obtain ⟨x49, ex49, hr⟩ := of_nm hr
    refine lv_iinc (v := x49) (lv' := [(3, .int x49), (0, .ref b), (1, .ref (ad 0)), (2, .ref (ad 70))]) cx.1 cx.2.1 dL_law_1052 hl (k := 3) rfl (by rw [ex49]; rfl) (by decide) rfl (fun ls hl => ?_)
    refine lv_goto (tgt := 18) cx.1 cx.2.1 dL_law_1055 (by decide) ?_
    refine W.widen (k := c0 + 1) (n := s0 + 6) (by omega) (by omega) ?_
    exact hh0 x49 V g45 (Option.some.inj hr).symm ad H locs ls dy (lv_sub hl [1, 2, 3, 0] rfl)
  · refine lv_icmp_eq (tgt := 1052) cx.1 cx.2.1 dL_law_272 (by decide) (fun hn => absurd hn hc) (fun _ => ?_)
    refine lv_iconst (v := 0) cx.1 cx.2.1 dL_law_275 (by decide) ?_
    exact absurd (hq0 _ (Option.some.inj hr).symm) (by decide)
noncomputable def r_L_277 (xs : Nat → Int32) (L : Nat) (x3 : Int32) (V : Vk) (g : Hq) : Option ((Int32 × Vk × Hq) ⊕ Int32) :=
  grd (vp_in (x3 + (1 : Int32)) L) <| grd (vp_in (x3 + (2 : Int32)) L) <| grd (vp_in (x3 + (3 : Int32)) L) <| grd (V 0 = some (11, 0)) <| bnd (r_X11_way V 0 (xs (x3 + (1 : Int32)).toNatClampNeg) (xs (x3 + (2 : Int32)).toNatClampNeg) (xs (x3 + (3 : Int32)).toNatClampNeg) g) fun x55 g54 => grd (vp_in (x3 + (1 : Int32)) L) <| grd (vp_in (x3 + (2 : Int32)) L) <| grd (vp_in (x3 + (3 : Int32)) L) <| grd (V 70 = some (12, 0)) <| bnd (r_X12_way V 70 (xs (x3 + (1 : Int32)).toNatClampNeg) (xs (x3 + (2 : Int32)).toNatClampNeg) (xs (x3 + (3 : Int32)).toNatClampNeg) g54) fun x62 g61 => brn (x55 = x62) (nm (x3 + (6 : Int32)) fun x65 => some (.inl (x65, V, g61))) (some (.inr (0 : Int32)))
set_option maxHeartbeats 4000000 in
set_option maxRecDepth 100000 in
theorem w_L_277 {p : Program} {l : Launch} {e : Env} {s : State} {m : MethodId} {below : List Frame} {meth : Method} {c : Code} {D : va_G} {cA : Nat → ClassId} {sk : (Nat → Nat) × (Nat → Nat)} {A : Nat → Prop} {b L : Nat} {xs : Nat → Int32} (cx : CallFix p m c cL_law 4 s #[Value.ref b] gw_tbl RL) (fx : Fx D cA sk A s) (hX : va_X b L xs s s.heap) (hbl : b < s.heap.size) (hbA : ¬ A b) (hret : meth.sig.returnType = ret) (hlocks : meth.locks = false) (hAf : ∀ q, A q → s.heap.size ≤ q) (z : (Int32 × Vk × Hq) ⊕ Int32) {c0 s0 : Nat} (hh0 : ∀ (xb : Int32) (Vb : Vk) (gb : Hq), z = .inl (xb, Vb, gb) → ∀ (ad : Nat → Nat) (H : Heap) (locs : List Loc) (ls : Array Slot), Dy D cA ad (Vb, gb) A s.heap H locs → lv_has ls 4 [(0, .ref b), (1, .ref (ad 0)), (2, .ref (ad 70)), (3, .int xb)] → W p l e room_1 s m #[Value.ref b] below meth c H locs (c0 + 1) (s0 + 6) (lw_Z below #[Value.ref b] s) (F0 m 18 ls [])) (hq0 : ∀ b : Int32, z = .inr b → b = 1) (x3 : Int32) (V : Vk) (g : Hq) (hr : r_L_277 xs L x3 V g = some z) (hcap : c0 + 1 ≤ room_1.cells ∧ s0 + 6 ≤ room_1.slots) (ad : Nat → Nat) (H : Heap) (locs : List Loc) (ls : Array Slot) (dy : Dy D cA ad (V, g) A s.heap H locs) (hl : lv_has ls 4 [(0, .ref b), (1, .ref (ad 0)), (2, .ref (ad 70)), (3, .int x3)]) : W p l e room_1 s m #[Value.ref b] below meth c H locs c0 s0 (lw_Z below #[Value.ref b] s) (F0 m 277 ls []) := by
  unfold r_L_277 at hr
  refine lv_aload_n cx.1 cx.2.1 dL_law_277 rfl (lv_at hl 1 rfl) ?_
  refine lv_aload_n cx.1 cx.2.1 dL_law_278 rfl (lv_at hl 0 rfl) ?_
  refine lv_iload_n cx.1 cx.2.1 dL_law_279 rfl (lv_at hl 3 rfl) ?_
  refine lv_iconst (v := 1) cx.1 cx.2.1 dL_law_280 (by decide) ?_
  refine lv_iadd cx.1 cx.2.1 dL_law_281 ?_
  obtain ⟨ha51, hr⟩ := of_grd hr
  refine va_sld cx.1 cx.2.1 hX hbl hbA dy.2 ha51 dL_law_282 ?_
  refine lv_aload_n cx.1 cx.2.1 dL_law_283 rfl (lv_at hl 0 rfl) ?_
  refine lv_iload_n cx.1 cx.2.1 dL_law_284 rfl (lv_at hl 3 rfl) ?_
  refine lv_iconst (v := 2) cx.1 cx.2.1 dL_law_285 (by decide) ?_
  refine lv_iadd cx.1 cx.2.1 dL_law_286 ?_
  obtain ⟨ha52, hr⟩ := of_grd hr
  refine va_sld cx.1 cx.2.1 hX hbl hbA dy.2 ha52 dL_law_287 ?_
  refine lv_aload_n cx.1 cx.2.1 dL_law_288 rfl (lv_at hl 0 rfl) ?_
  refine lv_iload_n cx.1 cx.2.1 dL_law_289 rfl (lv_at hl 3 rfl) ?_
  refine lv_iconst (v := 3) cx.1 cx.2.1 dL_law_290 (by decide) ?_
  refine lv_iadd cx.1 cx.2.1 dL_law_291 ?_
  obtain ⟨ha53, hr⟩ := of_grd hr
  refine va_sld cx.1 cx.2.1 hX hbl hbA dy.2 ha53 dL_law_292 ?_
  obtain ⟨hv56, hr⟩ := of_grd hr
  obtain ⟨x55, g54, hc57, hr⟩ := of_bnd2 hr
  refine r_i dy (k_V (As := [.int (xs (x3 + (1 : Int32)).toNatClampNeg), .int (xs (x3 + (2 : Int32)).toNatClampNeg), .int (xs (x3 + (3 : Int32)).toNatClampNeg)]) (b := 0) (ci := 11) cx fx dy (c_X11_way hc57) mv_X11_way rfl rfl ⟨by decide, by decide⟩ tb_434 hv56 rfl (by decide) rfl hl.1 rfl (Nat.le_of_ble_eq_true rfl) ⟨Nat.le_trans (Nat.le_add_right c0 1) hcap.1, Nat.le_trans (Nat.le_add_right s0 6) hcap.2⟩ dL_law_293) (fun H locs dy => ?_)
  refine lv_aload_n cx.1 cx.2.1 dL_law_296 rfl (lv_at hl 2 rfl) ?_
  refine lv_aload_n cx.1 cx.2.1 dL_law_297 rfl (lv_at hl 0 rfl) ?_
  refine lv_iload_n cx.1 cx.2.1 dL_law_298 rfl (lv_at hl 3 rfl) ?_
  refine lv_iconst (v := 1) cx.1 cx.2.1 dL_law_299 (by decide) ?_
  refine lv_iadd cx.1 cx.2.1 dL_law_300 ?_
  obtain ⟨ha58, hr⟩ := of_grd hr
  refine va_sld cx.1 cx.2.1 hX hbl hbA dy.2 ha58 dL_law_301 ?_
  refine lv_aload_n cx.1 cx.2.1 dL_law_302 rfl (lv_at hl 0 rfl) ?_
  refine lv_iload_n cx.1 cx.2.1 dL_law_303 rfl (lv_at hl 3 rfl) ?_
  refine lv_iconst (v := 2) cx.1 cx.2.1 dL_law_304 (by decide) ?_
  refine lv_iadd cx.1 cx.2.1 dL_law_305 ?_
  obtain ⟨ha59, hr⟩ := of_grd hr
  refine va_sld cx.1 cx.2.1 hX hbl hbA dy.2 ha59 dL_law_306 ?_
  refine lv_aload_n cx.1 cx.2.1 dL_law_307 rfl (lv_at hl 0 rfl) ?_
  refine lv_iload_n cx.1 cx.2.1 dL_law_308 rfl (lv_at hl 3 rfl) ?_
  refine lv_iconst (v := 3) cx.1 cx.2.1 dL_law_309 (by decide) ?_
  refine lv_iadd cx.1 cx.2.1 dL_law_310 ?_
  obtain ⟨ha60, hr⟩ := of_grd hr
  refine va_sld cx.1 cx.2.1 hX hbl hbA dy.2 ha60 dL_law_311 ?_
  obtain ⟨hv63, hr⟩ := of_grd hr
  obtain ⟨x62, g61, hc64, hr⟩ := of_bnd2 hr
  refine r_i dy (k_V (As := [.int (xs (x3 + (1 : Int32)).toNatClampNeg), .int (xs (x3 + (2 : Int32)).toNatClampNeg), .int (xs (x3 + (3 : Int32)).toNatClampNeg)]) (b := 70) (ci := 12) cx fx dy (c_X12_way hc64) mv_X12_way rfl rfl ⟨by decide, by decide⟩ tb_1176 hv63 rfl (by decide) rfl hl.1 rfl (Nat.le_of_ble_eq_true rfl) ⟨Nat.le_trans (Nat.le_add_right c0 1) hcap.1, Nat.le_trans (Nat.le_add_right s0 6) hcap.2⟩ dL_law_312) (fun H locs dy => ?_)
  rcases of_brn hr with ⟨hc, hr⟩ | ⟨hc, hr⟩
  · refine lv_icmp_eq (tgt := 1052) cx.1 cx.2.1 dL_law_315 (by decide) (fun _ => ?_) (fun hn => absurd hc hn)
    obtain ⟨x65, ex65, hr⟩ := of_nm hr
    refine lv_iinc (v := x65) (lv' := [(3, .int x65), (0, .ref b), (1, .ref (ad 0)), (2, .ref (ad 70))]) cx.1 cx.2.1 dL_law_1052 hl (k := 3) rfl (by rw [ex65]; rfl) (by decide) rfl (fun ls hl => ?_)
    refine lv_goto (tgt := 18) cx.1 cx.2.1 dL_law_1055 (by decide) ?_
    refine W.widen (k := c0 + 1) (n := s0 + 6) (by omega) (by omega) ?_
    exact hh0 x65 V g61 (Option.some.inj hr).symm ad H locs ls dy (lv_sub hl [1, 2, 3, 0] rfl)
  · refine lv_icmp_eq (tgt := 1052) cx.1 cx.2.1 dL_law_315 (by decide) (fun hn => absurd hn hc) (fun _ => ?_)
    refine lv_iconst (v := 0) cx.1 cx.2.1 dL_law_318 (by decide) ?_
    exact absurd (hq0 _ (Option.some.inj hr).symm) (by decide)
noncomputable def r_L_320 (xs : Nat → Int32) (L : Nat) (x3 : Int32) (V : Vk) (g : Hq) : Option ((Int32 × Vk × Hq) ⊕ Int32) :=
  grd (vp_in (x3 + (1 : Int32)) L) <| grd (vp_in (x3 + (2 : Int32)) L) <| grd (V 0 = some (11, 0)) <| bnd (r_X11_far V 0 (xs (x3 + (1 : Int32)).toNatClampNeg) (xs (x3 + (2 : Int32)).toNatClampNeg) g) fun x70 g69 => grd (vp_in (x3 + (1 : Int32)) L) <| grd (vp_in (x3 + (2 : Int32)) L) <| grd (V 70 = some (12, 0)) <| bnd (r_X12_far V 70 (xs (x3 + (1 : Int32)).toNatClampNeg) (xs (x3 + (2 : Int32)).toNatClampNeg) g69) fun x76 g75 => brn (x70 = x76) (nm (x3 + (6 : Int32)) fun x79 => some (.inl (x79, V, g75))) (some (.inr (0 : Int32)))
set_option maxHeartbeats 4000000 in
set_option maxRecDepth 100000 in
theorem w_L_320 {p : Program} {l : Launch} {e : Env} {s : State} {m : MethodId} {below : List Frame} {meth : Method} {c : Code} {D : va_G} {cA : Nat → ClassId} {sk : (Nat → Nat) × (Nat → Nat)} {A : Nat → Prop} {b L : Nat} {xs : Nat → Int32} (cx : CallFix p m c cL_law 4 s #[Value.ref b] gw_tbl RL) (fx : Fx D cA sk A s) (hX : va_X b L xs s s.heap) (hbl : b < s.heap.size) (hbA : ¬ A b) (hret : meth.sig.returnType = ret) (hlocks : meth.locks = false) (hAf : ∀ q, A q → s.heap.size ≤ q) (z : (Int32 × Vk × Hq) ⊕ Int32) {c0 s0 : Nat} (hh0 : ∀ (xb : Int32) (Vb : Vk) (gb : Hq), z = .inl (xb, Vb, gb) → ∀ (ad : Nat → Nat) (H : Heap) (locs : List Loc) (ls : Array Slot), Dy D cA ad (Vb, gb) A s.heap H locs → lv_has ls 4 [(0, .ref b), (1, .ref (ad 0)), (2, .ref (ad 70)), (3, .int xb)] → W p l e room_1 s m #[Value.ref b] below meth c H locs (c0 + 1) (s0 + 6) (lw_Z below #[Value.ref b] s) (F0 m 18 ls [])) (hq0 : ∀ b : Int32, z = .inr b → b = 1) (x3 : Int32) (V : Vk) (g : Hq) (hr : r_L_320 xs L x3 V g = some z) (hcap : c0 + 1 ≤ room_1.cells ∧ s0 + 6 ≤ room_1.slots) (ad : Nat → Nat) (H : Heap) (locs : List Loc) (ls : Array Slot) (dy : Dy D cA ad (V, g) A s.heap H locs) (hl : lv_has ls 4 [(0, .ref b), (1, .ref (ad 0)), (2, .ref (ad 70)), (3, .int x3)]) : W p l e room_1 s m #[Value.ref b] below meth c H locs c0 s0 (lw_Z below #[Value.ref b] s) (F0 m 320 ls []) := by
  unfold r_L_320 at hr
  refine lv_aload_n cx.1 cx.2.1 dL_law_320 rfl (lv_at hl 1 rfl) ?_
  refine lv_aload_n cx.1 cx.2.1 dL_law_321 rfl (lv_at hl 0 rfl) ?_
  refine lv_iload_n cx.1 cx.2.1 dL_law_322 rfl (lv_at hl 3 rfl) ?_
  refine lv_iconst (v := 1) cx.1 cx.2.1 dL_law_323 (by decide) ?_
  refine lv_iadd cx.1 cx.2.1 dL_law_324 ?_
  obtain ⟨ha67, hr⟩ := of_grd hr
  refine va_sld cx.1 cx.2.1 hX hbl hbA dy.2 ha67 dL_law_325 ?_
  refine lv_aload_n cx.1 cx.2.1 dL_law_326 rfl (lv_at hl 0 rfl) ?_
  refine lv_iload_n cx.1 cx.2.1 dL_law_327 rfl (lv_at hl 3 rfl) ?_
  refine lv_iconst (v := 2) cx.1 cx.2.1 dL_law_328 (by decide) ?_
  refine lv_iadd cx.1 cx.2.1 dL_law_329 ?_
  obtain ⟨ha68, hr⟩ := of_grd hr
  refine va_sld cx.1 cx.2.1 hX hbl hbA dy.2 ha68 dL_law_330 ?_
  obtain ⟨hv71, hr⟩ := of_grd hr
  obtain ⟨x70, g69, hc72, hr⟩ := of_bnd2 hr
  refine r_i dy (k_V (As := [.int (xs (x3 + (1 : Int32)).toNatClampNeg), .int (xs (x3 + (2 : Int32)).toNatClampNeg)]) (b := 0) (ci := 11) cx fx dy (c_X11_far hc72) mv_X11_far rfl rfl ⟨by decide, by decide⟩ tb_446 hv71 rfl (by decide) rfl hl.1 rfl (Nat.le_of_ble_eq_true rfl) ⟨Nat.le_trans (Nat.le_add_right c0 1) hcap.1, Nat.le_trans (Nat.le_add_right s0 6) hcap.2⟩ dL_law_331) (fun H locs dy => ?_)
  refine lv_aload_n cx.1 cx.2.1 dL_law_334 rfl (lv_at hl 2 rfl) ?_
  refine lv_aload_n cx.1 cx.2.1 dL_law_335 rfl (lv_at hl 0 rfl) ?_
  refine lv_iload_n cx.1 cx.2.1 dL_law_336 rfl (lv_at hl 3 rfl) ?_
  refine lv_iconst (v := 1) cx.1 cx.2.1 dL_law_337 (by decide) ?_
  refine lv_iadd cx.1 cx.2.1 dL_law_338 ?_
  obtain ⟨ha73, hr⟩ := of_grd hr
  refine va_sld cx.1 cx.2.1 hX hbl hbA dy.2 ha73 dL_law_339 ?_
  refine lv_aload_n cx.1 cx.2.1 dL_law_340 rfl (lv_at hl 0 rfl) ?_
  refine lv_iload_n cx.1 cx.2.1 dL_law_341 rfl (lv_at hl 3 rfl) ?_
  refine lv_iconst (v := 2) cx.1 cx.2.1 dL_law_342 (by decide) ?_
  refine lv_iadd cx.1 cx.2.1 dL_law_343 ?_
  obtain ⟨ha74, hr⟩ := of_grd hr
  refine va_sld cx.1 cx.2.1 hX hbl hbA dy.2 ha74 dL_law_344 ?_
  obtain ⟨hv77, hr⟩ := of_grd hr
  obtain ⟨x76, g75, hc78, hr⟩ := of_bnd2 hr
  refine r_i dy (k_V (As := [.int (xs (x3 + (1 : Int32)).toNatClampNeg), .int (xs (x3 + (2 : Int32)).toNatClampNeg)]) (b := 70) (ci := 12) cx fx dy (c_X12_far hc78) mv_X12_far rfl rfl ⟨by decide, by decide⟩ tb_1180 hv77 rfl (by decide) rfl hl.1 rfl (Nat.le_of_ble_eq_true rfl) ⟨Nat.le_trans (Nat.le_add_right c0 1) hcap.1, Nat.le_trans (Nat.le_add_right s0 6) hcap.2⟩ dL_law_345) (fun H locs dy => ?_)
  rcases of_brn hr with ⟨hc, hr⟩ | ⟨hc, hr⟩
  · refine lv_icmp_eq (tgt := 1052) cx.1 cx.2.1 dL_law_348 (by decide) (fun _ => ?_) (fun hn => absurd hc hn)
    obtain ⟨x79, ex79, hr⟩ := of_nm hr
    refine lv_iinc (v := x79) (lv' := [(3, .int x79), (0, .ref b), (1, .ref (ad 0)), (2, .ref (ad 70))]) cx.1 cx.2.1 dL_law_1052 hl (k := 3) rfl (by rw [ex79]; rfl) (by decide) rfl (fun ls hl => ?_)
    refine lv_goto (tgt := 18) cx.1 cx.2.1 dL_law_1055 (by decide) ?_
    refine W.widen (k := c0 + 1) (n := s0 + 6) (by omega) (by omega) ?_
    exact hh0 x79 V g75 (Option.some.inj hr).symm ad H locs ls dy (lv_sub hl [1, 2, 3, 0] rfl)
  · refine lv_icmp_eq (tgt := 1052) cx.1 cx.2.1 dL_law_348 (by decide) (fun hn => absurd hn hc) (fun _ => ?_)
    refine lv_iconst (v := 0) cx.1 cx.2.1 dL_law_351 (by decide) ?_
    exact absurd (hq0 _ (Option.some.inj hr).symm) (by decide)
noncomputable def r_L_353 (xs : Nat → Int32) (L : Nat) (x3 : Int32) (V : Vk) (g : Hq) : Option ((Int32 × Vk × Hq) ⊕ Int32) :=
  grd (vp_in (x3 + (1 : Int32)) L) <| grd (V 0 = some (11, 0)) <| bnd (r_X11_rounds V 0 (xs (x3 + (1 : Int32)).toNatClampNeg) g) fun x83 g82 => grd (vp_in (x3 + (1 : Int32)) L) <| grd (V 70 = some (12, 0)) <| bnd (r_X12_rounds V 70 (xs (x3 + (1 : Int32)).toNatClampNeg) g82) fun x88 g87 => brn (x83 = x88) (nm (x3 + (6 : Int32)) fun x91 => some (.inl (x91, V, g87))) (some (.inr (0 : Int32)))
set_option maxHeartbeats 4000000 in
set_option maxRecDepth 100000 in
theorem w_L_353 {p : Program} {l : Launch} {e : Env} {s : State} {m : MethodId} {below : List Frame} {meth : Method} {c : Code} {D : va_G} {cA : Nat → ClassId} {sk : (Nat → Nat) × (Nat → Nat)} {A : Nat → Prop} {b L : Nat} {xs : Nat → Int32} (cx : CallFix p m c cL_law 4 s #[Value.ref b] gw_tbl RL) (fx : Fx D cA sk A s) (hX : va_X b L xs s s.heap) (hbl : b < s.heap.size) (hbA : ¬ A b) (hret : meth.sig.returnType = ret) (hlocks : meth.locks = false) (hAf : ∀ q, A q → s.heap.size ≤ q) (z : (Int32 × Vk × Hq) ⊕ Int32) {c0 s0 : Nat} (hh0 : ∀ (xb : Int32) (Vb : Vk) (gb : Hq), z = .inl (xb, Vb, gb) → ∀ (ad : Nat → Nat) (H : Heap) (locs : List Loc) (ls : Array Slot), Dy D cA ad (Vb, gb) A s.heap H locs → lv_has ls 4 [(0, .ref b), (1, .ref (ad 0)), (2, .ref (ad 70)), (3, .int xb)] → W p l e room_1 s m #[Value.ref b] below meth c H locs (c0 + 1) (s0 + 6) (lw_Z below #[Value.ref b] s) (F0 m 18 ls [])) (hq0 : ∀ b : Int32, z = .inr b → b = 1) (x3 : Int32) (V : Vk) (g : Hq) (hr : r_L_353 xs L x3 V g = some z) (hcap : c0 + 1 ≤ room_1.cells ∧ s0 + 6 ≤ room_1.slots) (ad : Nat → Nat) (H : Heap) (locs : List Loc) (ls : Array Slot) (dy : Dy D cA ad (V, g) A s.heap H locs) (hl : lv_has ls 4 [(0, .ref b), (1, .ref (ad 0)), (2, .ref (ad 70)), (3, .int x3)]) : W p l e room_1 s m #[Value.ref b] below meth c H locs c0 s0 (lw_Z below #[Value.ref b] s) (F0 m 353 ls []) := by
  unfold r_L_353 at hr
  refine lv_aload_n cx.1 cx.2.1 dL_law_353 rfl (lv_at hl 1 rfl) ?_
  refine lv_aload_n cx.1 cx.2.1 dL_law_354 rfl (lv_at hl 0 rfl) ?_
  refine lv_iload_n cx.1 cx.2.1 dL_law_355 rfl (lv_at hl 3 rfl) ?_
  refine lv_iconst (v := 1) cx.1 cx.2.1 dL_law_356 (by decide) ?_
  refine lv_iadd cx.1 cx.2.1 dL_law_357 ?_
  obtain ⟨ha81, hr⟩ := of_grd hr
  refine va_sld cx.1 cx.2.1 hX hbl hbA dy.2 ha81 dL_law_358 ?_
  obtain ⟨hv84, hr⟩ := of_grd hr
  obtain ⟨x83, g82, hc85, hr⟩ := of_bnd2 hr
  refine r_i dy (k_V (As := [.int (xs (x3 + (1 : Int32)).toNatClampNeg)]) (b := 0) (ci := 11) cx fx dy (c_X11_rounds hc85) mv_X11_rounds rfl rfl ⟨by decide, by decide⟩ tb_465 hv84 rfl (by decide) rfl hl.1 rfl (Nat.le_of_ble_eq_true rfl) ⟨Nat.le_trans (Nat.le_add_right c0 1) hcap.1, Nat.le_trans (Nat.le_add_right s0 6) hcap.2⟩ dL_law_359) (fun H locs dy => ?_)
  refine lv_aload_n cx.1 cx.2.1 dL_law_362 rfl (lv_at hl 2 rfl) ?_
  refine lv_aload_n cx.1 cx.2.1 dL_law_363 rfl (lv_at hl 0 rfl) ?_
  refine lv_iload_n cx.1 cx.2.1 dL_law_364 rfl (lv_at hl 3 rfl) ?_
  refine lv_iconst (v := 1) cx.1 cx.2.1 dL_law_365 (by decide) ?_
  refine lv_iadd cx.1 cx.2.1 dL_law_366 ?_
  obtain ⟨ha86, hr⟩ := of_grd hr
  refine va_sld cx.1 cx.2.1 hX hbl hbA dy.2 ha86 dL_law_367 ?_
  obtain ⟨hv89, hr⟩ := of_grd hr
  obtain ⟨x88, g87, hc90, hr⟩ := of_bnd2 hr
  refine r_i dy (k_V (As := [.int (xs (x3 + (1 : Int32)).toNatClampNeg)]) (b := 70) (ci := 12) cx fx dy (c_X12_rounds hc90) mv_X12_rounds rfl rfl ⟨by decide, by decide⟩ tb_1184 hv89 rfl (by decide) rfl hl.1 rfl (Nat.le_of_ble_eq_true rfl) ⟨Nat.le_trans (Nat.le_add_right c0 1) hcap.1, Nat.le_trans (Nat.le_add_right s0 6) hcap.2⟩ dL_law_368) (fun H locs dy => ?_)
  rcases of_brn hr with ⟨hc, hr⟩ | ⟨hc, hr⟩
  · refine lv_icmp_eq (tgt := 1052) cx.1 cx.2.1 dL_law_371 (by decide) (fun _ => ?_) (fun hn => absurd hc hn)
    obtain ⟨x91, ex91, hr⟩ := of_nm hr
    refine lv_iinc (v := x91) (lv' := [(3, .int x91), (0, .ref b), (1, .ref (ad 0)), (2, .ref (ad 70))]) cx.1 cx.2.1 dL_law_1052 hl (k := 3) rfl (by rw [ex91]; rfl) (by decide) rfl (fun ls hl => ?_)
    refine lv_goto (tgt := 18) cx.1 cx.2.1 dL_law_1055 (by decide) ?_
    refine W.widen (k := c0 + 1) (n := s0 + 6) (by omega) (by omega) ?_
    exact hh0 x91 V g87 (Option.some.inj hr).symm ad H locs ls dy (lv_sub hl [1, 2, 3, 0] rfl)
  · refine lv_icmp_eq (tgt := 1052) cx.1 cx.2.1 dL_law_371 (by decide) (fun hn => absurd hn hc) (fun _ => ?_)
    refine lv_iconst (v := 0) cx.1 cx.2.1 dL_law_374 (by decide) ?_
    exact absurd (hq0 _ (Option.some.inj hr).symm) (by decide)
noncomputable def r_L_376 (xs : Nat → Int32) (L : Nat) (x3 : Int32) (V : Vk) (g : Hq) : Option ((Int32 × Vk × Hq) ⊕ Int32) :=
  grd (vp_in (x3 + (1 : Int32)) L) <| grd (V 0 = some (11, 0)) <| bnd (r_X11_round V 0 (xs (x3 + (1 : Int32)).toNatClampNeg) g) fun x95 g94 => grd (vp_in (x3 + (1 : Int32)) L) <| grd (V 70 = some (12, 0)) <| bnd (r_X12_round V 70 (xs (x3 + (1 : Int32)).toNatClampNeg) g94) fun x100 g99 => brn (x95 = x100) (nm (x3 + (6 : Int32)) fun x103 => some (.inl (x103, V, g99))) (some (.inr (0 : Int32)))
set_option maxHeartbeats 4000000 in
set_option maxRecDepth 100000 in
theorem w_L_376 {p : Program} {l : Launch} {e : Env} {s : State} {m : MethodId} {below : List Frame} {meth : Method} {c : Code} {D : va_G} {cA : Nat → ClassId} {sk : (Nat → Nat) × (Nat → Nat)} {A : Nat → Prop} {b L : Nat} {xs : Nat → Int32} (cx : CallFix p m c cL_law 4 s #[Value.ref b] gw_tbl RL) (fx : Fx D cA sk A s) (hX : va_X b L xs s s.heap) (hbl : b < s.heap.size) (hbA : ¬ A b) (hret : meth.sig.returnType = ret) (hlocks : meth.locks = false) (hAf : ∀ q, A q → s.heap.size ≤ q) (z : (Int32 × Vk × Hq) ⊕ Int32) {c0 s0 : Nat} (hh0 : ∀ (xb : Int32) (Vb : Vk) (gb : Hq), z = .inl (xb, Vb, gb) → ∀ (ad : Nat → Nat) (H : Heap) (locs : List Loc) (ls : Array Slot), Dy D cA ad (Vb, gb) A s.heap H locs → lv_has ls 4 [(0, .ref b), (1, .ref (ad 0)), (2, .ref (ad 70)), (3, .int xb)] → W p l e room_1 s m #[Value.ref b] below meth c H locs (c0 + 1) (s0 + 6) (lw_Z below #[Value.ref b] s) (F0 m 18 ls [])) (hq0 : ∀ b : Int32, z = .inr b → b = 1) (x3 : Int32) (V : Vk) (g : Hq) (hr : r_L_376 xs L x3 V g = some z) (hcap : c0 + 1 ≤ room_1.cells ∧ s0 + 6 ≤ room_1.slots) (ad : Nat → Nat) (H : Heap) (locs : List Loc) (ls : Array Slot) (dy : Dy D cA ad (V, g) A s.heap H locs) (hl : lv_has ls 4 [(0, .ref b), (1, .ref (ad 0)), (2, .ref (ad 70)), (3, .int x3)]) : W p l e room_1 s m #[Value.ref b] below meth c H locs c0 s0 (lw_Z below #[Value.ref b] s) (F0 m 376 ls []) := by
  unfold r_L_376 at hr
  refine lv_aload_n cx.1 cx.2.1 dL_law_376 rfl (lv_at hl 1 rfl) ?_
  refine lv_aload_n cx.1 cx.2.1 dL_law_377 rfl (lv_at hl 0 rfl) ?_
  refine lv_iload_n cx.1 cx.2.1 dL_law_378 rfl (lv_at hl 3 rfl) ?_
  refine lv_iconst (v := 1) cx.1 cx.2.1 dL_law_379 (by decide) ?_
  refine lv_iadd cx.1 cx.2.1 dL_law_380 ?_
  obtain ⟨ha93, hr⟩ := of_grd hr
  refine va_sld cx.1 cx.2.1 hX hbl hbA dy.2 ha93 dL_law_381 ?_
  obtain ⟨hv96, hr⟩ := of_grd hr
  obtain ⟨x95, g94, hc97, hr⟩ := of_bnd2 hr
  refine r_i dy (k_V (As := [.int (xs (x3 + (1 : Int32)).toNatClampNeg)]) (b := 0) (ci := 11) cx fx dy (c_X11_round hc97) mv_X11_round rfl rfl ⟨by decide, by decide⟩ tb_534 hv96 rfl (by decide) rfl hl.1 rfl (Nat.le_of_ble_eq_true rfl) ⟨Nat.le_trans (Nat.le_add_right c0 1) hcap.1, Nat.le_trans (Nat.le_add_right s0 6) hcap.2⟩ dL_law_382) (fun H locs dy => ?_)
  refine lv_aload_n cx.1 cx.2.1 dL_law_385 rfl (lv_at hl 2 rfl) ?_
  refine lv_aload_n cx.1 cx.2.1 dL_law_386 rfl (lv_at hl 0 rfl) ?_
  refine lv_iload_n cx.1 cx.2.1 dL_law_387 rfl (lv_at hl 3 rfl) ?_
  refine lv_iconst (v := 1) cx.1 cx.2.1 dL_law_388 (by decide) ?_
  refine lv_iadd cx.1 cx.2.1 dL_law_389 ?_
  obtain ⟨ha98, hr⟩ := of_grd hr
  refine va_sld cx.1 cx.2.1 hX hbl hbA dy.2 ha98 dL_law_390 ?_
  obtain ⟨hv101, hr⟩ := of_grd hr
  obtain ⟨x100, g99, hc102, hr⟩ := of_bnd2 hr
  refine r_i dy (k_V (As := [.int (xs (x3 + (1 : Int32)).toNatClampNeg)]) (b := 70) (ci := 12) cx fx dy (c_X12_round hc102) mv_X12_round rfl rfl ⟨by decide, by decide⟩ tb_1203 hv101 rfl (by decide) rfl hl.1 rfl (Nat.le_of_ble_eq_true rfl) ⟨Nat.le_trans (Nat.le_add_right c0 1) hcap.1, Nat.le_trans (Nat.le_add_right s0 6) hcap.2⟩ dL_law_391) (fun H locs dy => ?_)
  rcases of_brn hr with ⟨hc, hr⟩ | ⟨hc, hr⟩
  · refine lv_icmp_eq (tgt := 1052) cx.1 cx.2.1 dL_law_394 (by decide) (fun _ => ?_) (fun hn => absurd hc hn)
    obtain ⟨x103, ex103, hr⟩ := of_nm hr
    refine lv_iinc (v := x103) (lv' := [(3, .int x103), (0, .ref b), (1, .ref (ad 0)), (2, .ref (ad 70))]) cx.1 cx.2.1 dL_law_1052 hl (k := 3) rfl (by rw [ex103]; rfl) (by decide) rfl (fun ls hl => ?_)
    refine lv_goto (tgt := 18) cx.1 cx.2.1 dL_law_1055 (by decide) ?_
    refine W.widen (k := c0 + 1) (n := s0 + 6) (by omega) (by omega) ?_
    exact hh0 x103 V g99 (Option.some.inj hr).symm ad H locs ls dy (lv_sub hl [1, 2, 3, 0] rfl)
  · refine lv_icmp_eq (tgt := 1052) cx.1 cx.2.1 dL_law_394 (by decide) (fun hn => absurd hn hc) (fun _ => ?_)
    refine lv_iconst (v := 0) cx.1 cx.2.1 dL_law_397 (by decide) ?_
    exact absurd (hq0 _ (Option.some.inj hr).symm) (by decide)
noncomputable def r_L_399 (xs : Nat → Int32) (L : Nat) (x3 : Int32) (V : Vk) (g : Hq) : Option ((Int32 × Vk × Hq) ⊕ Int32) :=
  grd (vp_in (x3 + (1 : Int32)) L) <| grd (vp_in (x3 + (2 : Int32)) L) <| grd (V 0 = some (11, 0)) <| bnd (r_X11_cry V 0 (xs (x3 + (1 : Int32)).toNatClampNeg) (xs (x3 + (2 : Int32)).toNatClampNeg) g) fun x108 g107 => grd (vp_in (x3 + (1 : Int32)) L) <| grd (vp_in (x3 + (2 : Int32)) L) <| grd (V 70 = some (12, 0)) <| bnd (r_X12_cry V 70 (xs (x3 + (1 : Int32)).toNatClampNeg) (xs (x3 + (2 : Int32)).toNatClampNeg) g107) fun x114 g113 => brn (x108 = x114) (nm (x3 + (6 : Int32)) fun x117 => some (.inl (x117, V, g113))) (some (.inr (0 : Int32)))
set_option maxHeartbeats 4000000 in
set_option maxRecDepth 100000 in
theorem w_L_399 {p : Program} {l : Launch} {e : Env} {s : State} {m : MethodId} {below : List Frame} {meth : Method} {c : Code} {D : va_G} {cA : Nat → ClassId} {sk : (Nat → Nat) × (Nat → Nat)} {A : Nat → Prop} {b L : Nat} {xs : Nat → Int32} (cx : CallFix p m c cL_law 4 s #[Value.ref b] gw_tbl RL) (fx : Fx D cA sk A s) (hX : va_X b L xs s s.heap) (hbl : b < s.heap.size) (hbA : ¬ A b) (hret : meth.sig.returnType = ret) (hlocks : meth.locks = false) (hAf : ∀ q, A q → s.heap.size ≤ q) (z : (Int32 × Vk × Hq) ⊕ Int32) {c0 s0 : Nat} (hh0 : ∀ (xb : Int32) (Vb : Vk) (gb : Hq), z = .inl (xb, Vb, gb) → ∀ (ad : Nat → Nat) (H : Heap) (locs : List Loc) (ls : Array Slot), Dy D cA ad (Vb, gb) A s.heap H locs → lv_has ls 4 [(0, .ref b), (1, .ref (ad 0)), (2, .ref (ad 70)), (3, .int xb)] → W p l e room_1 s m #[Value.ref b] below meth c H locs (c0 + 1) (s0 + 6) (lw_Z below #[Value.ref b] s) (F0 m 18 ls [])) (hq0 : ∀ b : Int32, z = .inr b → b = 1) (x3 : Int32) (V : Vk) (g : Hq) (hr : r_L_399 xs L x3 V g = some z) (hcap : c0 + 1 ≤ room_1.cells ∧ s0 + 6 ≤ room_1.slots) (ad : Nat → Nat) (H : Heap) (locs : List Loc) (ls : Array Slot) (dy : Dy D cA ad (V, g) A s.heap H locs) (hl : lv_has ls 4 [(0, .ref b), (1, .ref (ad 0)), (2, .ref (ad 70)), (3, .int x3)]) : W p l e room_1 s m #[Value.ref b] below meth c H locs c0 s0 (lw_Z below #[Value.ref b] s) (F0 m 399 ls []) := by
  unfold r_L_399 at hr
  refine lv_aload_n cx.1 cx.2.1 dL_law_399 rfl (lv_at hl 1 rfl) ?_
  refine lv_aload_n cx.1 cx.2.1 dL_law_400 rfl (lv_at hl 0 rfl) ?_
  refine lv_iload_n cx.1 cx.2.1 dL_law_401 rfl (lv_at hl 3 rfl) ?_
  refine lv_iconst (v := 1) cx.1 cx.2.1 dL_law_402 (by decide) ?_
  refine lv_iadd cx.1 cx.2.1 dL_law_403 ?_
  obtain ⟨ha105, hr⟩ := of_grd hr
  refine va_sld cx.1 cx.2.1 hX hbl hbA dy.2 ha105 dL_law_404 ?_
  refine lv_aload_n cx.1 cx.2.1 dL_law_405 rfl (lv_at hl 0 rfl) ?_
  refine lv_iload_n cx.1 cx.2.1 dL_law_406 rfl (lv_at hl 3 rfl) ?_
  refine lv_iconst (v := 2) cx.1 cx.2.1 dL_law_407 (by decide) ?_
  refine lv_iadd cx.1 cx.2.1 dL_law_408 ?_
  obtain ⟨ha106, hr⟩ := of_grd hr
  refine va_sld cx.1 cx.2.1 hX hbl hbA dy.2 ha106 dL_law_409 ?_
  obtain ⟨hv109, hr⟩ := of_grd hr
  obtain ⟨x108, g107, hc110, hr⟩ := of_bnd2 hr
  refine r_i dy (k_V (As := [.int (xs (x3 + (1 : Int32)).toNatClampNeg), .int (xs (x3 + (2 : Int32)).toNatClampNeg)]) (b := 0) (ci := 11) cx fx dy (c_X11_cry hc110) mv_X11_cry rfl rfl ⟨by decide, by decide⟩ tb_543 hv109 rfl (by decide) rfl hl.1 rfl (Nat.le_of_ble_eq_true rfl) ⟨Nat.le_trans (Nat.le_add_right c0 1) hcap.1, Nat.le_trans (Nat.le_add_right s0 6) hcap.2⟩ dL_law_410) (fun H locs dy => ?_)
  refine lv_aload_n cx.1 cx.2.1 dL_law_413 rfl (lv_at hl 2 rfl) ?_
  refine lv_aload_n cx.1 cx.2.1 dL_law_414 rfl (lv_at hl 0 rfl) ?_
  refine lv_iload_n cx.1 cx.2.1 dL_law_415 rfl (lv_at hl 3 rfl) ?_
  refine lv_iconst (v := 1) cx.1 cx.2.1 dL_law_416 (by decide) ?_
  refine lv_iadd cx.1 cx.2.1 dL_law_417 ?_
  obtain ⟨ha111, hr⟩ := of_grd hr
  refine va_sld cx.1 cx.2.1 hX hbl hbA dy.2 ha111 dL_law_418 ?_
  refine lv_aload_n cx.1 cx.2.1 dL_law_419 rfl (lv_at hl 0 rfl) ?_
  refine lv_iload_n cx.1 cx.2.1 dL_law_420 rfl (lv_at hl 3 rfl) ?_
  refine lv_iconst (v := 2) cx.1 cx.2.1 dL_law_421 (by decide) ?_
  refine lv_iadd cx.1 cx.2.1 dL_law_422 ?_
  obtain ⟨ha112, hr⟩ := of_grd hr
  refine va_sld cx.1 cx.2.1 hX hbl hbA dy.2 ha112 dL_law_423 ?_
  obtain ⟨hv115, hr⟩ := of_grd hr
  obtain ⟨x114, g113, hc116, hr⟩ := of_bnd2 hr
  refine r_i dy (k_V (As := [.int (xs (x3 + (1 : Int32)).toNatClampNeg), .int (xs (x3 + (2 : Int32)).toNatClampNeg)]) (b := 70) (ci := 12) cx fx dy (c_X12_cry hc116) mv_X12_cry rfl rfl ⟨by decide, by decide⟩ tb_1207 hv115 rfl (by decide) rfl hl.1 rfl (Nat.le_of_ble_eq_true rfl) ⟨Nat.le_trans (Nat.le_add_right c0 1) hcap.1, Nat.le_trans (Nat.le_add_right s0 6) hcap.2⟩ dL_law_424) (fun H locs dy => ?_)
  rcases of_brn hr with ⟨hc, hr⟩ | ⟨hc, hr⟩
  · refine lv_icmp_eq (tgt := 1052) cx.1 cx.2.1 dL_law_427 (by decide) (fun _ => ?_) (fun hn => absurd hc hn)
    obtain ⟨x117, ex117, hr⟩ := of_nm hr
    refine lv_iinc (v := x117) (lv' := [(3, .int x117), (0, .ref b), (1, .ref (ad 0)), (2, .ref (ad 70))]) cx.1 cx.2.1 dL_law_1052 hl (k := 3) rfl (by rw [ex117]; rfl) (by decide) rfl (fun ls hl => ?_)
    refine lv_goto (tgt := 18) cx.1 cx.2.1 dL_law_1055 (by decide) ?_
    refine W.widen (k := c0 + 1) (n := s0 + 6) (by omega) (by omega) ?_
    exact hh0 x117 V g113 (Option.some.inj hr).symm ad H locs ls dy (lv_sub hl [1, 2, 3, 0] rfl)
  · refine lv_icmp_eq (tgt := 1052) cx.1 cx.2.1 dL_law_427 (by decide) (fun hn => absurd hn hc) (fun _ => ?_)
    refine lv_iconst (v := 0) cx.1 cx.2.1 dL_law_430 (by decide) ?_
    exact absurd (hq0 _ (Option.some.inj hr).symm) (by decide)
noncomputable def r_L_432 (xs : Nat → Int32) (L : Nat) (x3 : Int32) (V : Vk) (g : Hq) : Option ((Int32 × Vk × Hq) ⊕ Int32) :=
  grd (vp_in (x3 + (1 : Int32)) L) <| grd (V 0 = some (11, 0)) <| bnd (r_X11_laws V 0 (xs (x3 + (1 : Int32)).toNatClampNeg) g) fun x121 g120 => grd (vp_in (x3 + (1 : Int32)) L) <| grd (V 70 = some (12, 0)) <| bnd (r_X12_laws V 70 (xs (x3 + (1 : Int32)).toNatClampNeg) g120) fun x126 g125 => brn (x121 = x126) (nm (x3 + (6 : Int32)) fun x129 => some (.inl (x129, V, g125))) (some (.inr (0 : Int32)))
set_option maxHeartbeats 4000000 in
set_option maxRecDepth 100000 in
theorem w_L_432 {p : Program} {l : Launch} {e : Env} {s : State} {m : MethodId} {below : List Frame} {meth : Method} {c : Code} {D : va_G} {cA : Nat → ClassId} {sk : (Nat → Nat) × (Nat → Nat)} {A : Nat → Prop} {b L : Nat} {xs : Nat → Int32} (cx : CallFix p m c cL_law 4 s #[Value.ref b] gw_tbl RL) (fx : Fx D cA sk A s) (hX : va_X b L xs s s.heap) (hbl : b < s.heap.size) (hbA : ¬ A b) (hret : meth.sig.returnType = ret) (hlocks : meth.locks = false) (hAf : ∀ q, A q → s.heap.size ≤ q) (z : (Int32 × Vk × Hq) ⊕ Int32) {c0 s0 : Nat} (hh0 : ∀ (xb : Int32) (Vb : Vk) (gb : Hq), z = .inl (xb, Vb, gb) → ∀ (ad : Nat → Nat) (H : Heap) (locs : List Loc) (ls : Array Slot), Dy D cA ad (Vb, gb) A s.heap H locs → lv_has ls 4 [(0, .ref b), (1, .ref (ad 0)), (2, .ref (ad 70)), (3, .int xb)] → W p l e room_1 s m #[Value.ref b] below meth c H locs (c0 + 1) (s0 + 6) (lw_Z below #[Value.ref b] s) (F0 m 18 ls [])) (hq0 : ∀ b : Int32, z = .inr b → b = 1) (x3 : Int32) (V : Vk) (g : Hq) (hr : r_L_432 xs L x3 V g = some z) (hcap : c0 + 1 ≤ room_1.cells ∧ s0 + 6 ≤ room_1.slots) (ad : Nat → Nat) (H : Heap) (locs : List Loc) (ls : Array Slot) (dy : Dy D cA ad (V, g) A s.heap H locs) (hl : lv_has ls 4 [(0, .ref b), (1, .ref (ad 0)), (2, .ref (ad 70)), (3, .int x3)]) : W p l e room_1 s m #[Value.ref b] below meth c H locs c0 s0 (lw_Z below #[Value.ref b] s) (F0 m 432 ls []) := by
  unfold r_L_432 at hr
  refine lv_aload_n cx.1 cx.2.1 dL_law_432 rfl (lv_at hl 1 rfl) ?_
  refine lv_aload_n cx.1 cx.2.1 dL_law_433 rfl (lv_at hl 0 rfl) ?_
  refine lv_iload_n cx.1 cx.2.1 dL_law_434 rfl (lv_at hl 3 rfl) ?_
  refine lv_iconst (v := 1) cx.1 cx.2.1 dL_law_435 (by decide) ?_
  refine lv_iadd cx.1 cx.2.1 dL_law_436 ?_
  obtain ⟨ha119, hr⟩ := of_grd hr
  refine va_sld cx.1 cx.2.1 hX hbl hbA dy.2 ha119 dL_law_437 ?_
  obtain ⟨hv122, hr⟩ := of_grd hr
  obtain ⟨x121, g120, hc123, hr⟩ := of_bnd2 hr
  refine r_i dy (k_V (As := [.int (xs (x3 + (1 : Int32)).toNatClampNeg)]) (b := 0) (ci := 11) cx fx dy (c_X11_laws hc123) mv_X11_laws rfl rfl ⟨by decide, by decide⟩ tb_547 hv122 rfl (by decide) rfl hl.1 rfl (Nat.le_of_ble_eq_true rfl) ⟨Nat.le_trans (Nat.le_add_right c0 1) hcap.1, Nat.le_trans (Nat.le_add_right s0 6) hcap.2⟩ dL_law_438) (fun H locs dy => ?_)
  refine lv_aload_n cx.1 cx.2.1 dL_law_441 rfl (lv_at hl 2 rfl) ?_
  refine lv_aload_n cx.1 cx.2.1 dL_law_442 rfl (lv_at hl 0 rfl) ?_
  refine lv_iload_n cx.1 cx.2.1 dL_law_443 rfl (lv_at hl 3 rfl) ?_
  refine lv_iconst (v := 1) cx.1 cx.2.1 dL_law_444 (by decide) ?_
  refine lv_iadd cx.1 cx.2.1 dL_law_445 ?_
  obtain ⟨ha124, hr⟩ := of_grd hr
  refine va_sld cx.1 cx.2.1 hX hbl hbA dy.2 ha124 dL_law_446 ?_
  obtain ⟨hv127, hr⟩ := of_grd hr
  obtain ⟨x126, g125, hc128, hr⟩ := of_bnd2 hr
  refine r_i dy (k_V (As := [.int (xs (x3 + (1 : Int32)).toNatClampNeg)]) (b := 70) (ci := 12) cx fx dy (c_X12_laws hc128) mv_X12_laws rfl rfl ⟨by decide, by decide⟩ tb_1211 hv127 rfl (by decide) rfl hl.1 rfl (Nat.le_of_ble_eq_true rfl) ⟨Nat.le_trans (Nat.le_add_right c0 1) hcap.1, Nat.le_trans (Nat.le_add_right s0 6) hcap.2⟩ dL_law_447) (fun H locs dy => ?_)
  rcases of_brn hr with ⟨hc, hr⟩ | ⟨hc, hr⟩
  · refine lv_icmp_eq (tgt := 1052) cx.1 cx.2.1 dL_law_450 (by decide) (fun _ => ?_) (fun hn => absurd hc hn)
    obtain ⟨x129, ex129, hr⟩ := of_nm hr
    refine lv_iinc (v := x129) (lv' := [(3, .int x129), (0, .ref b), (1, .ref (ad 0)), (2, .ref (ad 70))]) cx.1 cx.2.1 dL_law_1052 hl (k := 3) rfl (by rw [ex129]; rfl) (by decide) rfl (fun ls hl => ?_)
    refine lv_goto (tgt := 18) cx.1 cx.2.1 dL_law_1055 (by decide) ?_
    refine W.widen (k := c0 + 1) (n := s0 + 6) (by omega) (by omega) ?_
    exact hh0 x129 V g125 (Option.some.inj hr).symm ad H locs ls dy (lv_sub hl [1, 2, 3, 0] rfl)
  · refine lv_icmp_eq (tgt := 1052) cx.1 cx.2.1 dL_law_450 (by decide) (fun hn => absurd hn hc) (fun _ => ?_)
    refine lv_iconst (v := 0) cx.1 cx.2.1 dL_law_453 (by decide) ?_
    exact absurd (hq0 _ (Option.some.inj hr).symm) (by decide)
noncomputable def r_L_455 (xs : Nat → Int32) (L : Nat) (x3 : Int32) (V : Vk) (g : Hq) : Option ((Int32 × Vk × Hq) ⊕ Int32) :=
  grd (vp_in (x3 + (1 : Int32)) L) <| grd (V 0 = some (11, 0)) <| bnd (r_X11_fault V 0 (xs (x3 + (1 : Int32)).toNatClampNeg) g) fun x133 g132 => grd (vp_in (x3 + (1 : Int32)) L) <| grd (V 70 = some (12, 0)) <| bnd (r_X12_fault V 70 (xs (x3 + (1 : Int32)).toNatClampNeg) g132) fun x138 g137 => brn (x133 = x138) (nm (x3 + (6 : Int32)) fun x141 => some (.inl (x141, V, g137))) (some (.inr (0 : Int32)))
set_option maxHeartbeats 4000000 in
set_option maxRecDepth 100000 in
theorem w_L_455 {p : Program} {l : Launch} {e : Env} {s : State} {m : MethodId} {below : List Frame} {meth : Method} {c : Code} {D : va_G} {cA : Nat → ClassId} {sk : (Nat → Nat) × (Nat → Nat)} {A : Nat → Prop} {b L : Nat} {xs : Nat → Int32} (cx : CallFix p m c cL_law 4 s #[Value.ref b] gw_tbl RL) (fx : Fx D cA sk A s) (hX : va_X b L xs s s.heap) (hbl : b < s.heap.size) (hbA : ¬ A b) (hret : meth.sig.returnType = ret) (hlocks : meth.locks = false) (hAf : ∀ q, A q → s.heap.size ≤ q) (z : (Int32 × Vk × Hq) ⊕ Int32) {c0 s0 : Nat} (hh0 : ∀ (xb : Int32) (Vb : Vk) (gb : Hq), z = .inl (xb, Vb, gb) → ∀ (ad : Nat → Nat) (H : Heap) (locs : List Loc) (ls : Array Slot), Dy D cA ad (Vb, gb) A s.heap H locs → lv_has ls 4 [(0, .ref b), (1, .ref (ad 0)), (2, .ref (ad 70)), (3, .int xb)] → W p l e room_1 s m #[Value.ref b] below meth c H locs (c0 + 1) (s0 + 6) (lw_Z below #[Value.ref b] s) (F0 m 18 ls [])) (hq0 : ∀ b : Int32, z = .inr b → b = 1) (x3 : Int32) (V : Vk) (g : Hq) (hr : r_L_455 xs L x3 V g = some z) (hcap : c0 + 1 ≤ room_1.cells ∧ s0 + 6 ≤ room_1.slots) (ad : Nat → Nat) (H : Heap) (locs : List Loc) (ls : Array Slot) (dy : Dy D cA ad (V, g) A s.heap H locs) (hl : lv_has ls 4 [(0, .ref b), (1, .ref (ad 0)), (2, .ref (ad 70)), (3, .int x3)]) : W p l e room_1 s m #[Value.ref b] below meth c H locs c0 s0 (lw_Z below #[Value.ref b] s) (F0 m 455 ls []) := by
  unfold r_L_455 at hr
  refine lv_aload_n cx.1 cx.2.1 dL_law_455 rfl (lv_at hl 1 rfl) ?_
  refine lv_aload_n cx.1 cx.2.1 dL_law_456 rfl (lv_at hl 0 rfl) ?_
  refine lv_iload_n cx.1 cx.2.1 dL_law_457 rfl (lv_at hl 3 rfl) ?_
  refine lv_iconst (v := 1) cx.1 cx.2.1 dL_law_458 (by decide) ?_
  refine lv_iadd cx.1 cx.2.1 dL_law_459 ?_
  obtain ⟨ha131, hr⟩ := of_grd hr
  refine va_sld cx.1 cx.2.1 hX hbl hbA dy.2 ha131 dL_law_460 ?_
  obtain ⟨hv134, hr⟩ := of_grd hr
  obtain ⟨x133, g132, hc135, hr⟩ := of_bnd2 hr
  refine r_i dy (k_V (As := [.int (xs (x3 + (1 : Int32)).toNatClampNeg)]) (b := 0) (ci := 11) cx fx dy (c_X11_fault hc135) mv_X11_fault rfl rfl ⟨by decide, by decide⟩ tb_689 hv134 rfl (by decide) rfl hl.1 rfl (Nat.le_of_ble_eq_true rfl) ⟨Nat.le_trans (Nat.le_add_right c0 1) hcap.1, Nat.le_trans (Nat.le_add_right s0 6) hcap.2⟩ dL_law_461) (fun H locs dy => ?_)
  refine lv_aload_n cx.1 cx.2.1 dL_law_464 rfl (lv_at hl 2 rfl) ?_
  refine lv_aload_n cx.1 cx.2.1 dL_law_465 rfl (lv_at hl 0 rfl) ?_
  refine lv_iload_n cx.1 cx.2.1 dL_law_466 rfl (lv_at hl 3 rfl) ?_
  refine lv_iconst (v := 1) cx.1 cx.2.1 dL_law_467 (by decide) ?_
  refine lv_iadd cx.1 cx.2.1 dL_law_468 ?_
  obtain ⟨ha136, hr⟩ := of_grd hr
  refine va_sld cx.1 cx.2.1 hX hbl hbA dy.2 ha136 dL_law_469 ?_
  obtain ⟨hv139, hr⟩ := of_grd hr
  obtain ⟨x138, g137, hc140, hr⟩ := of_bnd2 hr
  refine r_i dy (k_V (As := [.int (xs (x3 + (1 : Int32)).toNatClampNeg)]) (b := 70) (ci := 12) cx fx dy (c_X12_fault hc140) mv_X12_fault rfl rfl ⟨by decide, by decide⟩ tb_1264 hv139 rfl (by decide) rfl hl.1 rfl (Nat.le_of_ble_eq_true rfl) ⟨Nat.le_trans (Nat.le_add_right c0 1) hcap.1, Nat.le_trans (Nat.le_add_right s0 6) hcap.2⟩ dL_law_470) (fun H locs dy => ?_)
  rcases of_brn hr with ⟨hc, hr⟩ | ⟨hc, hr⟩
  · refine lv_icmp_eq (tgt := 1052) cx.1 cx.2.1 dL_law_473 (by decide) (fun _ => ?_) (fun hn => absurd hc hn)
    obtain ⟨x141, ex141, hr⟩ := of_nm hr
    refine lv_iinc (v := x141) (lv' := [(3, .int x141), (0, .ref b), (1, .ref (ad 0)), (2, .ref (ad 70))]) cx.1 cx.2.1 dL_law_1052 hl (k := 3) rfl (by rw [ex141]; rfl) (by decide) rfl (fun ls hl => ?_)
    refine lv_goto (tgt := 18) cx.1 cx.2.1 dL_law_1055 (by decide) ?_
    refine W.widen (k := c0 + 1) (n := s0 + 6) (by omega) (by omega) ?_
    exact hh0 x141 V g137 (Option.some.inj hr).symm ad H locs ls dy (lv_sub hl [1, 2, 3, 0] rfl)
  · refine lv_icmp_eq (tgt := 1052) cx.1 cx.2.1 dL_law_473 (by decide) (fun hn => absurd hn hc) (fun _ => ?_)
    refine lv_iconst (v := 0) cx.1 cx.2.1 dL_law_476 (by decide) ?_
    exact absurd (hq0 _ (Option.some.inj hr).symm) (by decide)
noncomputable def r_L_478 (xs : Nat → Int32) (L : Nat) (x3 : Int32) (V : Vk) (g : Hq) : Option ((Int32 × Vk × Hq) ⊕ Int32) :=
  grd (vp_in (x3 + (1 : Int32)) L) <| grd (vp_in (x3 + (2 : Int32)) L) <| grd (V 0 = some (11, 0)) <| bnd (r_X11_law V 0 (xs (x3 + (1 : Int32)).toNatClampNeg) (xs (x3 + (2 : Int32)).toNatClampNeg) g) fun x146 g145 => grd (vp_in (x3 + (1 : Int32)) L) <| grd (vp_in (x3 + (2 : Int32)) L) <| grd (V 70 = some (12, 0)) <| bnd (r_X12_law V 70 (xs (x3 + (1 : Int32)).toNatClampNeg) (xs (x3 + (2 : Int32)).toNatClampNeg) g145) fun x152 g151 => brn (x146 = x152) (nm (x3 + (6 : Int32)) fun x155 => some (.inl (x155, V, g151))) (some (.inr (0 : Int32)))
set_option maxHeartbeats 4000000 in
set_option maxRecDepth 100000 in
theorem w_L_478 {p : Program} {l : Launch} {e : Env} {s : State} {m : MethodId} {below : List Frame} {meth : Method} {c : Code} {D : va_G} {cA : Nat → ClassId} {sk : (Nat → Nat) × (Nat → Nat)} {A : Nat → Prop} {b L : Nat} {xs : Nat → Int32} (cx : CallFix p m c cL_law 4 s #[Value.ref b] gw_tbl RL) (fx : Fx D cA sk A s) (hX : va_X b L xs s s.heap) (hbl : b < s.heap.size) (hbA : ¬ A b) (hret : meth.sig.returnType = ret) (hlocks : meth.locks = false) (hAf : ∀ q, A q → s.heap.size ≤ q) (z : (Int32 × Vk × Hq) ⊕ Int32) {c0 s0 : Nat} (hh0 : ∀ (xb : Int32) (Vb : Vk) (gb : Hq), z = .inl (xb, Vb, gb) → ∀ (ad : Nat → Nat) (H : Heap) (locs : List Loc) (ls : Array Slot), Dy D cA ad (Vb, gb) A s.heap H locs → lv_has ls 4 [(0, .ref b), (1, .ref (ad 0)), (2, .ref (ad 70)), (3, .int xb)] → W p l e room_1 s m #[Value.ref b] below meth c H locs (c0 + 1) (s0 + 6) (lw_Z below #[Value.ref b] s) (F0 m 18 ls [])) (hq0 : ∀ b : Int32, z = .inr b → b = 1) (x3 : Int32) (V : Vk) (g : Hq) (hr : r_L_478 xs L x3 V g = some z) (hcap : c0 + 1 ≤ room_1.cells ∧ s0 + 6 ≤ room_1.slots) (ad : Nat → Nat) (H : Heap) (locs : List Loc) (ls : Array Slot) (dy : Dy D cA ad (V, g) A s.heap H locs) (hl : lv_has ls 4 [(0, .ref b), (1, .ref (ad 0)), (2, .ref (ad 70)), (3, .int x3)]) : W p l e room_1 s m #[Value.ref b] below meth c H locs c0 s0 (lw_Z below #[Value.ref b] s) (F0 m 478 ls []) := by
  unfold r_L_478 at hr
  refine lv_aload_n cx.1 cx.2.1 dL_law_478 rfl (lv_at hl 1 rfl) ?_
  refine lv_aload_n cx.1 cx.2.1 dL_law_479 rfl (lv_at hl 0 rfl) ?_
  refine lv_iload_n cx.1 cx.2.1 dL_law_480 rfl (lv_at hl 3 rfl) ?_
  refine lv_iconst (v := 1) cx.1 cx.2.1 dL_law_481 (by decide) ?_
  refine lv_iadd cx.1 cx.2.1 dL_law_482 ?_
  obtain ⟨ha143, hr⟩ := of_grd hr
  refine va_sld cx.1 cx.2.1 hX hbl hbA dy.2 ha143 dL_law_483 ?_
  refine lv_aload_n cx.1 cx.2.1 dL_law_484 rfl (lv_at hl 0 rfl) ?_
  refine lv_iload_n cx.1 cx.2.1 dL_law_485 rfl (lv_at hl 3 rfl) ?_
  refine lv_iconst (v := 2) cx.1 cx.2.1 dL_law_486 (by decide) ?_
  refine lv_iadd cx.1 cx.2.1 dL_law_487 ?_
  obtain ⟨ha144, hr⟩ := of_grd hr
  refine va_sld cx.1 cx.2.1 hX hbl hbA dy.2 ha144 dL_law_488 ?_
  obtain ⟨hv147, hr⟩ := of_grd hr
  obtain ⟨x146, g145, hc148, hr⟩ := of_bnd2 hr
  refine r_i dy (k_V (As := [.int (xs (x3 + (1 : Int32)).toNatClampNeg), .int (xs (x3 + (2 : Int32)).toNatClampNeg)]) (b := 0) (ci := 11) cx fx dy (c_X11_law hc148) mv_X11_law rfl rfl ⟨by decide, by decide⟩ tb_701 hv147 rfl (by decide) rfl hl.1 rfl (Nat.le_of_ble_eq_true rfl) ⟨Nat.le_trans (Nat.le_add_right c0 1) hcap.1, Nat.le_trans (Nat.le_add_right s0 6) hcap.2⟩ dL_law_489) (fun H locs dy => ?_)
  refine lv_aload_n cx.1 cx.2.1 dL_law_492 rfl (lv_at hl 2 rfl) ?_
  refine lv_aload_n cx.1 cx.2.1 dL_law_493 rfl (lv_at hl 0 rfl) ?_
  refine lv_iload_n cx.1 cx.2.1 dL_law_494 rfl (lv_at hl 3 rfl) ?_
  refine lv_iconst (v := 1) cx.1 cx.2.1 dL_law_495 (by decide) ?_
  refine lv_iadd cx.1 cx.2.1 dL_law_496 ?_
  obtain ⟨ha149, hr⟩ := of_grd hr
  refine va_sld cx.1 cx.2.1 hX hbl hbA dy.2 ha149 dL_law_497 ?_
  refine lv_aload_n cx.1 cx.2.1 dL_law_498 rfl (lv_at hl 0 rfl) ?_
  refine lv_iload_n cx.1 cx.2.1 dL_law_499 rfl (lv_at hl 3 rfl) ?_
  refine lv_iconst (v := 2) cx.1 cx.2.1 dL_law_500 (by decide) ?_
  refine lv_iadd cx.1 cx.2.1 dL_law_501 ?_
  obtain ⟨ha150, hr⟩ := of_grd hr
  refine va_sld cx.1 cx.2.1 hX hbl hbA dy.2 ha150 dL_law_502 ?_
  obtain ⟨hv153, hr⟩ := of_grd hr
  obtain ⟨x152, g151, hc154, hr⟩ := of_bnd2 hr
  refine r_i dy (k_V (As := [.int (xs (x3 + (1 : Int32)).toNatClampNeg), .int (xs (x3 + (2 : Int32)).toNatClampNeg)]) (b := 70) (ci := 12) cx fx dy (c_X12_law hc154) mv_X12_law rfl rfl ⟨by decide, by decide⟩ tb_1268 hv153 rfl (by decide) rfl hl.1 rfl (Nat.le_of_ble_eq_true rfl) ⟨Nat.le_trans (Nat.le_add_right c0 1) hcap.1, Nat.le_trans (Nat.le_add_right s0 6) hcap.2⟩ dL_law_503) (fun H locs dy => ?_)
  rcases of_brn hr with ⟨hc, hr⟩ | ⟨hc, hr⟩
  · refine lv_icmp_eq (tgt := 1052) cx.1 cx.2.1 dL_law_506 (by decide) (fun _ => ?_) (fun hn => absurd hc hn)
    obtain ⟨x155, ex155, hr⟩ := of_nm hr
    refine lv_iinc (v := x155) (lv' := [(3, .int x155), (0, .ref b), (1, .ref (ad 0)), (2, .ref (ad 70))]) cx.1 cx.2.1 dL_law_1052 hl (k := 3) rfl (by rw [ex155]; rfl) (by decide) rfl (fun ls hl => ?_)
    refine lv_goto (tgt := 18) cx.1 cx.2.1 dL_law_1055 (by decide) ?_
    refine W.widen (k := c0 + 1) (n := s0 + 6) (by omega) (by omega) ?_
    exact hh0 x155 V g151 (Option.some.inj hr).symm ad H locs ls dy (lv_sub hl [1, 2, 3, 0] rfl)
  · refine lv_icmp_eq (tgt := 1052) cx.1 cx.2.1 dL_law_506 (by decide) (fun hn => absurd hn hc) (fun _ => ?_)
    refine lv_iconst (v := 0) cx.1 cx.2.1 dL_law_509 (by decide) ?_
    exact absurd (hq0 _ (Option.some.inj hr).symm) (by decide)
noncomputable def r_L_511 (xs : Nat → Int32) (L : Nat) (x3 : Int32) (V : Vk) (g : Hq) : Option ((Int32 × Vk × Hq) ⊕ Int32) :=
  grd (vp_in (x3 + (1 : Int32)) L) <| grd (vp_in (x3 + (2 : Int32)) L) <| grd (vp_in (x3 + (3 : Int32)) L) <| grd (vp_in (x3 + (4 : Int32)) L) <| brn ((xs (x3 + (4 : Int32)).toNatClampNeg) = 0) (grd (V 0 = some (11, 0)) <| bnd (r_X11_may V 0 (xs (x3 + (1 : Int32)).toNatClampNeg) (xs (x3 + (2 : Int32)).toNatClampNeg) (xs (x3 + (3 : Int32)).toNatClampNeg) (0 : Int32) g) fun x162 g161 => grd (vp_in (x3 + (1 : Int32)) L) <| grd (vp_in (x3 + (2 : Int32)) L) <| grd (vp_in (x3 + (3 : Int32)) L) <| grd (vp_in (x3 + (4 : Int32)) L) <| brn ((xs (x3 + (4 : Int32)).toNatClampNeg) = 0) (grd (V 70 = some (12, 0)) <| bnd (r_X12_may V 70 (xs (x3 + (1 : Int32)).toNatClampNeg) (xs (x3 + (2 : Int32)).toNatClampNeg) (xs (x3 + (3 : Int32)).toNatClampNeg) (0 : Int32) g161) fun x170 g169 => brn (x162 = x170) (nm (x3 + (6 : Int32)) fun x173 => some (.inl (x173, V, g169))) (some (.inr (0 : Int32)))) (grd (V 70 = some (12, 0)) <| bnd (r_X12_may V 70 (xs (x3 + (1 : Int32)).toNatClampNeg) (xs (x3 + (2 : Int32)).toNatClampNeg) (xs (x3 + (3 : Int32)).toNatClampNeg) (1 : Int32) g161) fun x175 g174 => brn (x162 = x175) (nm (x3 + (6 : Int32)) fun x178 => some (.inl (x178, V, g174))) (some (.inr (0 : Int32))))) (grd (V 0 = some (11, 0)) <| bnd (r_X11_may V 0 (xs (x3 + (1 : Int32)).toNatClampNeg) (xs (x3 + (2 : Int32)).toNatClampNeg) (xs (x3 + (3 : Int32)).toNatClampNeg) (1 : Int32) g) fun x180 g179 => grd (vp_in (x3 + (1 : Int32)) L) <| grd (vp_in (x3 + (2 : Int32)) L) <| grd (vp_in (x3 + (3 : Int32)) L) <| grd (vp_in (x3 + (4 : Int32)) L) <| brn ((xs (x3 + (4 : Int32)).toNatClampNeg) = 0) (grd (V 70 = some (12, 0)) <| bnd (r_X12_may V 70 (xs (x3 + (1 : Int32)).toNatClampNeg) (xs (x3 + (2 : Int32)).toNatClampNeg) (xs (x3 + (3 : Int32)).toNatClampNeg) (0 : Int32) g179) fun x188 g187 => brn (x180 = x188) (nm (x3 + (6 : Int32)) fun x191 => some (.inl (x191, V, g187))) (some (.inr (0 : Int32)))) (grd (V 70 = some (12, 0)) <| bnd (r_X12_may V 70 (xs (x3 + (1 : Int32)).toNatClampNeg) (xs (x3 + (2 : Int32)).toNatClampNeg) (xs (x3 + (3 : Int32)).toNatClampNeg) (1 : Int32) g179) fun x193 g192 => brn (x180 = x193) (nm (x3 + (6 : Int32)) fun x196 => some (.inl (x196, V, g192))) (some (.inr (0 : Int32)))))
set_option maxHeartbeats 4000000 in
set_option maxRecDepth 100000 in
theorem w_L_511 {p : Program} {l : Launch} {e : Env} {s : State} {m : MethodId} {below : List Frame} {meth : Method} {c : Code} {D : va_G} {cA : Nat → ClassId} {sk : (Nat → Nat) × (Nat → Nat)} {A : Nat → Prop} {b L : Nat} {xs : Nat → Int32} (cx : CallFix p m c cL_law 4 s #[Value.ref b] gw_tbl RL) (fx : Fx D cA sk A s) (hX : va_X b L xs s s.heap) (hbl : b < s.heap.size) (hbA : ¬ A b) (hret : meth.sig.returnType = ret) (hlocks : meth.locks = false) (hAf : ∀ q, A q → s.heap.size ≤ q) (z : (Int32 × Vk × Hq) ⊕ Int32) {c0 s0 : Nat} (hh0 : ∀ (xb : Int32) (Vb : Vk) (gb : Hq), z = .inl (xb, Vb, gb) → ∀ (ad : Nat → Nat) (H : Heap) (locs : List Loc) (ls : Array Slot), Dy D cA ad (Vb, gb) A s.heap H locs → lv_has ls 4 [(0, .ref b), (1, .ref (ad 0)), (2, .ref (ad 70)), (3, .int xb)] → W p l e room_1 s m #[Value.ref b] below meth c H locs (c0 + 1) (s0 + 6) (lw_Z below #[Value.ref b] s) (F0 m 18 ls [])) (hq0 : ∀ b : Int32, z = .inr b → b = 1) (x3 : Int32) (V : Vk) (g : Hq) (hr : r_L_511 xs L x3 V g = some z) (hcap : c0 + 1 ≤ room_1.cells ∧ s0 + 6 ≤ room_1.slots) (ad : Nat → Nat) (H : Heap) (locs : List Loc) (ls : Array Slot) (dy : Dy D cA ad (V, g) A s.heap H locs) (hl : lv_has ls 4 [(0, .ref b), (1, .ref (ad 0)), (2, .ref (ad 70)), (3, .int x3)]) : W p l e room_1 s m #[Value.ref b] below meth c H locs c0 s0 (lw_Z below #[Value.ref b] s) (F0 m 511 ls []) := by
  unfold r_L_511 at hr
  refine lv_aload_n cx.1 cx.2.1 dL_law_511 rfl (lv_at hl 1 rfl) ?_
  refine lv_aload_n cx.1 cx.2.1 dL_law_512 rfl (lv_at hl 0 rfl) ?_
  refine lv_iload_n cx.1 cx.2.1 dL_law_513 rfl (lv_at hl 3 rfl) ?_
  refine lv_iconst (v := 1) cx.1 cx.2.1 dL_law_514 (by decide) ?_
  refine lv_iadd cx.1 cx.2.1 dL_law_515 ?_
  obtain ⟨ha157, hr⟩ := of_grd hr
  refine va_sld cx.1 cx.2.1 hX hbl hbA dy.2 ha157 dL_law_516 ?_
  refine lv_aload_n cx.1 cx.2.1 dL_law_517 rfl (lv_at hl 0 rfl) ?_
  refine lv_iload_n cx.1 cx.2.1 dL_law_518 rfl (lv_at hl 3 rfl) ?_
  refine lv_iconst (v := 2) cx.1 cx.2.1 dL_law_519 (by decide) ?_
  refine lv_iadd cx.1 cx.2.1 dL_law_520 ?_
  obtain ⟨ha158, hr⟩ := of_grd hr
  refine va_sld cx.1 cx.2.1 hX hbl hbA dy.2 ha158 dL_law_521 ?_
  refine lv_aload_n cx.1 cx.2.1 dL_law_522 rfl (lv_at hl 0 rfl) ?_
  refine lv_iload_n cx.1 cx.2.1 dL_law_523 rfl (lv_at hl 3 rfl) ?_
  refine lv_iconst (v := 3) cx.1 cx.2.1 dL_law_524 (by decide) ?_
  refine lv_iadd cx.1 cx.2.1 dL_law_525 ?_
  obtain ⟨ha159, hr⟩ := of_grd hr
  refine va_sld cx.1 cx.2.1 hX hbl hbA dy.2 ha159 dL_law_526 ?_
  refine lv_aload_n cx.1 cx.2.1 dL_law_527 rfl (lv_at hl 0 rfl) ?_
  refine lv_iload_n cx.1 cx.2.1 dL_law_528 rfl (lv_at hl 3 rfl) ?_
  refine lv_iconst (v := 4) cx.1 cx.2.1 dL_law_529 (by decide) ?_
  refine lv_iadd cx.1 cx.2.1 dL_law_530 ?_
  obtain ⟨ha160, hr⟩ := of_grd hr
  refine va_sld cx.1 cx.2.1 hX hbl hbA dy.2 ha160 dL_law_531 ?_
  rcases of_brn hr with ⟨hc, hr⟩ | ⟨hc, hr⟩
  · refine lv_if_eq (tgt := 539) cx.1 cx.2.1 dL_law_532 (by decide) (fun _ => ?_) (fun hn => absurd hc hn)
    refine lv_iconst (v := 0) cx.1 cx.2.1 dL_law_539 (by decide) ?_
    obtain ⟨hv163, hr⟩ := of_grd hr
    obtain ⟨x162, g161, hc164, hr⟩ := of_bnd2 hr
    refine r_i dy (k_V (As := [.int (xs (x3 + (1 : Int32)).toNatClampNeg), .int (xs (x3 + (2 : Int32)).toNatClampNeg), .int (xs (x3 + (3 : Int32)).toNatClampNeg), .int (0 : Int32)]) (b := 0) (ci := 11) cx fx dy (c_X11_may hc164) mv_X11_may rfl rfl ⟨by decide, by decide⟩ tb_709 hv163 rfl (by decide) rfl hl.1 rfl (Nat.le_of_ble_eq_true rfl) ⟨Nat.le_trans (Nat.le_add_right c0 1) hcap.1, Nat.le_trans (Nat.le_add_right s0 6) hcap.2⟩ dL_law_540) (fun H locs dy => ?_)
    refine lv_aload_n cx.1 cx.2.1 dL_law_543 rfl (lv_at hl 2 rfl) ?_
    refine lv_aload_n cx.1 cx.2.1 dL_law_544 rfl (lv_at hl 0 rfl) ?_
    refine lv_iload_n cx.1 cx.2.1 dL_law_545 rfl (lv_at hl 3 rfl) ?_
    refine lv_iconst (v := 1) cx.1 cx.2.1 dL_law_546 (by decide) ?_
    refine lv_iadd cx.1 cx.2.1 dL_law_547 ?_
    obtain ⟨ha165, hr⟩ := of_grd hr
    refine va_sld cx.1 cx.2.1 hX hbl hbA dy.2 ha165 dL_law_548 ?_
    refine lv_aload_n cx.1 cx.2.1 dL_law_549 rfl (lv_at hl 0 rfl) ?_
    refine lv_iload_n cx.1 cx.2.1 dL_law_550 rfl (lv_at hl 3 rfl) ?_
    refine lv_iconst (v := 2) cx.1 cx.2.1 dL_law_551 (by decide) ?_
    refine lv_iadd cx.1 cx.2.1 dL_law_552 ?_
    obtain ⟨ha166, hr⟩ := of_grd hr
    refine va_sld cx.1 cx.2.1 hX hbl hbA dy.2 ha166 dL_law_553 ?_
    refine lv_aload_n cx.1 cx.2.1 dL_law_554 rfl (lv_at hl 0 rfl) ?_
    refine lv_iload_n cx.1 cx.2.1 dL_law_555 rfl (lv_at hl 3 rfl) ?_
    refine lv_iconst (v := 3) cx.1 cx.2.1 dL_law_556 (by decide) ?_
    refine lv_iadd cx.1 cx.2.1 dL_law_557 ?_
    obtain ⟨ha167, hr⟩ := of_grd hr
    refine va_sld cx.1 cx.2.1 hX hbl hbA dy.2 ha167 dL_law_558 ?_
    refine lv_aload_n cx.1 cx.2.1 dL_law_559 rfl (lv_at hl 0 rfl) ?_
    refine lv_iload_n cx.1 cx.2.1 dL_law_560 rfl (lv_at hl 3 rfl) ?_
    refine lv_iconst (v := 4) cx.1 cx.2.1 dL_law_561 (by decide) ?_
    refine lv_iadd cx.1 cx.2.1 dL_law_562 ?_
    obtain ⟨ha168, hr⟩ := of_grd hr
    refine va_sld cx.1 cx.2.1 hX hbl hbA dy.2 ha168 dL_law_563 ?_
    rcases of_brn hr with ⟨hc, hr⟩ | ⟨hc, hr⟩
    · refine lv_if_eq (tgt := 571) cx.1 cx.2.1 dL_law_564 (by decide) (fun _ => ?_) (fun hn => absurd hc hn)
      refine lv_iconst (v := 0) cx.1 cx.2.1 dL_law_571 (by decide) ?_
      obtain ⟨hv171, hr⟩ := of_grd hr
      obtain ⟨x170, g169, hc172, hr⟩ := of_bnd2 hr
      refine r_i dy (k_V (As := [.int (xs (x3 + (1 : Int32)).toNatClampNeg), .int (xs (x3 + (2 : Int32)).toNatClampNeg), .int (xs (x3 + (3 : Int32)).toNatClampNeg), .int (0 : Int32)]) (b := 70) (ci := 12) cx fx dy (c_X12_may hc172) mv_X12_may rfl rfl ⟨by decide, by decide⟩ tb_1272 hv171 rfl (by decide) rfl hl.1 rfl (Nat.le_of_ble_eq_true rfl) ⟨Nat.le_trans (Nat.le_add_right c0 1) hcap.1, Nat.le_trans (Nat.le_add_right s0 6) hcap.2⟩ dL_law_572) (fun H locs dy => ?_)
      rcases of_brn hr with ⟨hc, hr⟩ | ⟨hc, hr⟩
      · refine lv_icmp_eq (tgt := 1052) cx.1 cx.2.1 dL_law_575 (by decide) (fun _ => ?_) (fun hn => absurd hc hn)
        obtain ⟨x173, ex173, hr⟩ := of_nm hr
        refine lv_iinc (v := x173) (lv' := [(3, .int x173), (0, .ref b), (1, .ref (ad 0)), (2, .ref (ad 70))]) cx.1 cx.2.1 dL_law_1052 hl (k := 3) rfl (by rw [ex173]; rfl) (by decide) rfl (fun ls hl => ?_)
        refine lv_goto (tgt := 18) cx.1 cx.2.1 dL_law_1055 (by decide) ?_
        refine W.widen (k := c0 + 1) (n := s0 + 6) (by omega) (by omega) ?_
        exact hh0 x173 V g169 (Option.some.inj hr).symm ad H locs ls dy (lv_sub hl [1, 2, 3, 0] rfl)
      · refine lv_icmp_eq (tgt := 1052) cx.1 cx.2.1 dL_law_575 (by decide) (fun hn => absurd hn hc) (fun _ => ?_)
        refine lv_iconst (v := 0) cx.1 cx.2.1 dL_law_578 (by decide) ?_
        exact absurd (hq0 _ (Option.some.inj hr).symm) (by decide)
    · refine lv_if_eq (tgt := 571) cx.1 cx.2.1 dL_law_564 (by decide) (fun hn => absurd hn hc) (fun _ => ?_)
      refine lv_iconst (v := 1) cx.1 cx.2.1 dL_law_567 (by decide) ?_
      refine lv_goto (tgt := 572) cx.1 cx.2.1 dL_law_568 (by decide) ?_
      obtain ⟨hv176, hr⟩ := of_grd hr
      obtain ⟨x175, g174, hc177, hr⟩ := of_bnd2 hr
      refine r_i dy (k_V (As := [.int (xs (x3 + (1 : Int32)).toNatClampNeg), .int (xs (x3 + (2 : Int32)).toNatClampNeg), .int (xs (x3 + (3 : Int32)).toNatClampNeg), .int (1 : Int32)]) (b := 70) (ci := 12) cx fx dy (c_X12_may hc177) mv_X12_may rfl rfl ⟨by decide, by decide⟩ tb_1272 hv176 rfl (by decide) rfl hl.1 rfl (Nat.le_of_ble_eq_true rfl) ⟨Nat.le_trans (Nat.le_add_right c0 1) hcap.1, Nat.le_trans (Nat.le_add_right s0 6) hcap.2⟩ dL_law_572) (fun H locs dy => ?_)
      rcases of_brn hr with ⟨hc, hr⟩ | ⟨hc, hr⟩
      · refine lv_icmp_eq (tgt := 1052) cx.1 cx.2.1 dL_law_575 (by decide) (fun _ => ?_) (fun hn => absurd hc hn)
        obtain ⟨x178, ex178, hr⟩ := of_nm hr
        refine lv_iinc (v := x178) (lv' := [(3, .int x178), (0, .ref b), (1, .ref (ad 0)), (2, .ref (ad 70))]) cx.1 cx.2.1 dL_law_1052 hl (k := 3) rfl (by rw [ex178]; rfl) (by decide) rfl (fun ls hl => ?_)
        refine lv_goto (tgt := 18) cx.1 cx.2.1 dL_law_1055 (by decide) ?_
        refine W.widen (k := c0 + 1) (n := s0 + 6) (by omega) (by omega) ?_
        exact hh0 x178 V g174 (Option.some.inj hr).symm ad H locs ls dy (lv_sub hl [1, 2, 3, 0] rfl)
      · refine lv_icmp_eq (tgt := 1052) cx.1 cx.2.1 dL_law_575 (by decide) (fun hn => absurd hn hc) (fun _ => ?_)
        refine lv_iconst (v := 0) cx.1 cx.2.1 dL_law_578 (by decide) ?_
        exact absurd (hq0 _ (Option.some.inj hr).symm) (by decide)
  · refine lv_if_eq (tgt := 539) cx.1 cx.2.1 dL_law_532 (by decide) (fun hn => absurd hn hc) (fun _ => ?_)
    refine lv_iconst (v := 1) cx.1 cx.2.1 dL_law_535 (by decide) ?_
    refine lv_goto (tgt := 540) cx.1 cx.2.1 dL_law_536 (by decide) ?_
    obtain ⟨hv181, hr⟩ := of_grd hr
    obtain ⟨x180, g179, hc182, hr⟩ := of_bnd2 hr
    refine r_i dy (k_V (As := [.int (xs (x3 + (1 : Int32)).toNatClampNeg), .int (xs (x3 + (2 : Int32)).toNatClampNeg), .int (xs (x3 + (3 : Int32)).toNatClampNeg), .int (1 : Int32)]) (b := 0) (ci := 11) cx fx dy (c_X11_may hc182) mv_X11_may rfl rfl ⟨by decide, by decide⟩ tb_709 hv181 rfl (by decide) rfl hl.1 rfl (Nat.le_of_ble_eq_true rfl) ⟨Nat.le_trans (Nat.le_add_right c0 1) hcap.1, Nat.le_trans (Nat.le_add_right s0 6) hcap.2⟩ dL_law_540) (fun H locs dy => ?_)
    refine lv_aload_n cx.1 cx.2.1 dL_law_543 rfl (lv_at hl 2 rfl) ?_
    refine lv_aload_n cx.1 cx.2.1 dL_law_544 rfl (lv_at hl 0 rfl) ?_
    refine lv_iload_n cx.1 cx.2.1 dL_law_545 rfl (lv_at hl 3 rfl) ?_
    refine lv_iconst (v := 1) cx.1 cx.2.1 dL_law_546 (by decide) ?_
    refine lv_iadd cx.1 cx.2.1 dL_law_547 ?_
    obtain ⟨ha183, hr⟩ := of_grd hr
    refine va_sld cx.1 cx.2.1 hX hbl hbA dy.2 ha183 dL_law_548 ?_
    refine lv_aload_n cx.1 cx.2.1 dL_law_549 rfl (lv_at hl 0 rfl) ?_
    refine lv_iload_n cx.1 cx.2.1 dL_law_550 rfl (lv_at hl 3 rfl) ?_
    refine lv_iconst (v := 2) cx.1 cx.2.1 dL_law_551 (by decide) ?_
    refine lv_iadd cx.1 cx.2.1 dL_law_552 ?_
    obtain ⟨ha184, hr⟩ := of_grd hr
    refine va_sld cx.1 cx.2.1 hX hbl hbA dy.2 ha184 dL_law_553 ?_
    refine lv_aload_n cx.1 cx.2.1 dL_law_554 rfl (lv_at hl 0 rfl) ?_
    refine lv_iload_n cx.1 cx.2.1 dL_law_555 rfl (lv_at hl 3 rfl) ?_
    refine lv_iconst (v := 3) cx.1 cx.2.1 dL_law_556 (by decide) ?_
    refine lv_iadd cx.1 cx.2.1 dL_law_557 ?_
    obtain ⟨ha185, hr⟩ := of_grd hr
    refine va_sld cx.1 cx.2.1 hX hbl hbA dy.2 ha185 dL_law_558 ?_
    refine lv_aload_n cx.1 cx.2.1 dL_law_559 rfl (lv_at hl 0 rfl) ?_
    refine lv_iload_n cx.1 cx.2.1 dL_law_560 rfl (lv_at hl 3 rfl) ?_
    refine lv_iconst (v := 4) cx.1 cx.2.1 dL_law_561 (by decide) ?_
    refine lv_iadd cx.1 cx.2.1 dL_law_562 ?_
    obtain ⟨ha186, hr⟩ := of_grd hr
    refine va_sld cx.1 cx.2.1 hX hbl hbA dy.2 ha186 dL_law_563 ?_
    rcases of_brn hr with ⟨hc, hr⟩ | ⟨hc, hr⟩
    · refine lv_if_eq (tgt := 571) cx.1 cx.2.1 dL_law_564 (by decide) (fun _ => ?_) (fun hn => absurd hc hn)
      refine lv_iconst (v := 0) cx.1 cx.2.1 dL_law_571 (by decide) ?_
      obtain ⟨hv189, hr⟩ := of_grd hr
      obtain ⟨x188, g187, hc190, hr⟩ := of_bnd2 hr
      refine r_i dy (k_V (As := [.int (xs (x3 + (1 : Int32)).toNatClampNeg), .int (xs (x3 + (2 : Int32)).toNatClampNeg), .int (xs (x3 + (3 : Int32)).toNatClampNeg), .int (0 : Int32)]) (b := 70) (ci := 12) cx fx dy (c_X12_may hc190) mv_X12_may rfl rfl ⟨by decide, by decide⟩ tb_1272 hv189 rfl (by decide) rfl hl.1 rfl (Nat.le_of_ble_eq_true rfl) ⟨Nat.le_trans (Nat.le_add_right c0 1) hcap.1, Nat.le_trans (Nat.le_add_right s0 6) hcap.2⟩ dL_law_572) (fun H locs dy => ?_)
      rcases of_brn hr with ⟨hc, hr⟩ | ⟨hc, hr⟩
      · refine lv_icmp_eq (tgt := 1052) cx.1 cx.2.1 dL_law_575 (by decide) (fun _ => ?_) (fun hn => absurd hc hn)
        obtain ⟨x191, ex191, hr⟩ := of_nm hr
        refine lv_iinc (v := x191) (lv' := [(3, .int x191), (0, .ref b), (1, .ref (ad 0)), (2, .ref (ad 70))]) cx.1 cx.2.1 dL_law_1052 hl (k := 3) rfl (by rw [ex191]; rfl) (by decide) rfl (fun ls hl => ?_)
        refine lv_goto (tgt := 18) cx.1 cx.2.1 dL_law_1055 (by decide) ?_
        refine W.widen (k := c0 + 1) (n := s0 + 6) (by omega) (by omega) ?_
        exact hh0 x191 V g187 (Option.some.inj hr).symm ad H locs ls dy (lv_sub hl [1, 2, 3, 0] rfl)
      · refine lv_icmp_eq (tgt := 1052) cx.1 cx.2.1 dL_law_575 (by decide) (fun hn => absurd hn hc) (fun _ => ?_)
        refine lv_iconst (v := 0) cx.1 cx.2.1 dL_law_578 (by decide) ?_
        exact absurd (hq0 _ (Option.some.inj hr).symm) (by decide)
    · refine lv_if_eq (tgt := 571) cx.1 cx.2.1 dL_law_564 (by decide) (fun hn => absurd hn hc) (fun _ => ?_)
      refine lv_iconst (v := 1) cx.1 cx.2.1 dL_law_567 (by decide) ?_
      refine lv_goto (tgt := 572) cx.1 cx.2.1 dL_law_568 (by decide) ?_
      obtain ⟨hv194, hr⟩ := of_grd hr
      obtain ⟨x193, g192, hc195, hr⟩ := of_bnd2 hr
      refine r_i dy (k_V (As := [.int (xs (x3 + (1 : Int32)).toNatClampNeg), .int (xs (x3 + (2 : Int32)).toNatClampNeg), .int (xs (x3 + (3 : Int32)).toNatClampNeg), .int (1 : Int32)]) (b := 70) (ci := 12) cx fx dy (c_X12_may hc195) mv_X12_may rfl rfl ⟨by decide, by decide⟩ tb_1272 hv194 rfl (by decide) rfl hl.1 rfl (Nat.le_of_ble_eq_true rfl) ⟨Nat.le_trans (Nat.le_add_right c0 1) hcap.1, Nat.le_trans (Nat.le_add_right s0 6) hcap.2⟩ dL_law_572) (fun H locs dy => ?_)
      rcases of_brn hr with ⟨hc, hr⟩ | ⟨hc, hr⟩
      · refine lv_icmp_eq (tgt := 1052) cx.1 cx.2.1 dL_law_575 (by decide) (fun _ => ?_) (fun hn => absurd hc hn)
        obtain ⟨x196, ex196, hr⟩ := of_nm hr
        refine lv_iinc (v := x196) (lv' := [(3, .int x196), (0, .ref b), (1, .ref (ad 0)), (2, .ref (ad 70))]) cx.1 cx.2.1 dL_law_1052 hl (k := 3) rfl (by rw [ex196]; rfl) (by decide) rfl (fun ls hl => ?_)
        refine lv_goto (tgt := 18) cx.1 cx.2.1 dL_law_1055 (by decide) ?_
        refine W.widen (k := c0 + 1) (n := s0 + 6) (by omega) (by omega) ?_
        exact hh0 x196 V g192 (Option.some.inj hr).symm ad H locs ls dy (lv_sub hl [1, 2, 3, 0] rfl)
      · refine lv_icmp_eq (tgt := 1052) cx.1 cx.2.1 dL_law_575 (by decide) (fun hn => absurd hn hc) (fun _ => ?_)
        refine lv_iconst (v := 0) cx.1 cx.2.1 dL_law_578 (by decide) ?_
        exact absurd (hq0 _ (Option.some.inj hr).symm) (by decide)
noncomputable def r_L_580 (xs : Nat → Int32) (L : Nat) (x3 : Int32) (V : Vk) (g : Hq) : Option ((Int32 × Vk × Hq) ⊕ Int32) :=
  grd (vp_in (x3 + (1 : Int32)) L) <| grd (vp_in (x3 + (2 : Int32)) L) <| grd (V 0 ≠ none) <| grd (V 70 ≠ none) <| grd (V 0 = some (11, 0)) <| bna (r_X11_house V 0 (xs (x3 + (1 : Int32)).toNatClampNeg) (xs (x3 + (2 : Int32)).toNatClampNeg) g) fun x204 V g203 => grd (vp_in (x3 + (1 : Int32)) L) <| grd (vp_in (x3 + (2 : Int32)) L) <| grd (V 70 = some (12, 0)) <| bnd (r_X12_house V 70 (xs (x3 + (1 : Int32)).toNatClampNeg) (xs (x3 + (2 : Int32)).toNatClampNeg) g203) fun x211 g210 => brn (x204 = x211) (nm (x3 + (6 : Int32)) fun x214 => some (.inl (x214, V, g210))) (some (.inr (0 : Int32)))
set_option maxHeartbeats 4000000 in
set_option maxRecDepth 100000 in
theorem w_L_580 {p : Program} {l : Launch} {e : Env} {s : State} {m : MethodId} {below : List Frame} {meth : Method} {c : Code} {D : va_G} {cA : Nat → ClassId} {sk : (Nat → Nat) × (Nat → Nat)} {A : Nat → Prop} {b L : Nat} {xs : Nat → Int32} (cx : CallFix p m c cL_law 4 s #[Value.ref b] gw_tbl RL) (fx : Fx D cA sk A s) (hX : va_X b L xs s s.heap) (hbl : b < s.heap.size) (hbA : ¬ A b) (hret : meth.sig.returnType = ret) (hlocks : meth.locks = false) (hAf : ∀ q, A q → s.heap.size ≤ q) (z : (Int32 × Vk × Hq) ⊕ Int32) {c0 s0 : Nat} (hh0 : ∀ (xb : Int32) (Vb : Vk) (gb : Hq), z = .inl (xb, Vb, gb) → ∀ (ad : Nat → Nat) (H : Heap) (locs : List Loc) (ls : Array Slot), Dy D cA ad (Vb, gb) A s.heap H locs → lv_has ls 4 [(0, .ref b), (1, .ref (ad 0)), (2, .ref (ad 70)), (3, .int xb)] → W p l e room_1 s m #[Value.ref b] below meth c H locs (c0 + 1) (s0 + 6) (lw_Z below #[Value.ref b] s) (F0 m 18 ls [])) (hq0 : ∀ b : Int32, z = .inr b → b = 1) (x3 : Int32) (V : Vk) (g : Hq) (hr : r_L_580 xs L x3 V g = some z) (hcap : c0 + 1 ≤ room_1.cells ∧ s0 + 6 ≤ room_1.slots) (ad : Nat → Nat) (H : Heap) (locs : List Loc) (ls : Array Slot) (dy : Dy D cA ad (V, g) A s.heap H locs) (hl : lv_has ls 4 [(0, .ref b), (1, .ref (ad 0)), (2, .ref (ad 70)), (3, .int x3)]) : W p l e room_1 s m #[Value.ref b] below meth c H locs c0 s0 (lw_Z below #[Value.ref b] s) (F0 m 580 ls []) := by
  unfold r_L_580 at hr
  refine lv_aload_n cx.1 cx.2.1 dL_law_580 rfl (lv_at hl 1 rfl) ?_
  refine lv_aload_n cx.1 cx.2.1 dL_law_581 rfl (lv_at hl 0 rfl) ?_
  refine lv_iload_n cx.1 cx.2.1 dL_law_582 rfl (lv_at hl 3 rfl) ?_
  refine lv_iconst (v := 1) cx.1 cx.2.1 dL_law_583 (by decide) ?_
  refine lv_iadd cx.1 cx.2.1 dL_law_584 ?_
  obtain ⟨ha198, hr⟩ := of_grd hr
  refine va_sld cx.1 cx.2.1 hX hbl hbA dy.2 ha198 dL_law_585 ?_
  refine lv_aload_n cx.1 cx.2.1 dL_law_586 rfl (lv_at hl 0 rfl) ?_
  refine lv_iload_n cx.1 cx.2.1 dL_law_587 rfl (lv_at hl 3 rfl) ?_
  refine lv_iconst (v := 2) cx.1 cx.2.1 dL_law_588 (by decide) ?_
  refine lv_iadd cx.1 cx.2.1 dL_law_589 ?_
  obtain ⟨ha199, hr⟩ := of_grd hr
  refine va_sld cx.1 cx.2.1 hX hbl hbA dy.2 ha199 dL_law_590 ?_
  obtain ⟨hn200, hr⟩ := of_grd hr
  obtain ⟨hn201, hr⟩ := of_grd hr
  obtain ⟨hv202, hr⟩ := of_grd hr
  obtain ⟨x204, V, g203, hc205, hr⟩ := of_bna hr
  refine r_ia dy (k_V (As := [.int (xs (x3 + (1 : Int32)).toNatClampNeg), .int (xs (x3 + (2 : Int32)).toNatClampNeg)]) (b := 0) (ci := 11) cx fx dy (c_X11_house hc205) mv_X11_house rfl rfl ⟨by decide, by decide⟩ tb_724 hv202 rfl (by decide) rfl hl.1 rfl (Nat.le_of_ble_eq_true rfl) ⟨hcap.1, Nat.le_trans (by omega) hcap.2⟩ dL_law_591) (fun ad H locs hz dy => ?_)
  have ea206 := hz 0 hn200
  replace ea206 := ea206.2
  rw [← ea206] at hl
  have ea207 := hz 70 hn201
  replace ea207 := ea207.2
  rw [← ea207] at hl
  refine lv_aload_n cx.1 cx.2.1 dL_law_594 rfl (lv_at hl 2 rfl) ?_
  refine lv_aload_n cx.1 cx.2.1 dL_law_595 rfl (lv_at hl 0 rfl) ?_
  refine lv_iload_n cx.1 cx.2.1 dL_law_596 rfl (lv_at hl 3 rfl) ?_
  refine lv_iconst (v := 1) cx.1 cx.2.1 dL_law_597 (by decide) ?_
  refine lv_iadd cx.1 cx.2.1 dL_law_598 ?_
  obtain ⟨ha208, hr⟩ := of_grd hr
  refine va_sld cx.1 cx.2.1 hX hbl hbA dy.2 ha208 dL_law_599 ?_
  refine lv_aload_n cx.1 cx.2.1 dL_law_600 rfl (lv_at hl 0 rfl) ?_
  refine lv_iload_n cx.1 cx.2.1 dL_law_601 rfl (lv_at hl 3 rfl) ?_
  refine lv_iconst (v := 2) cx.1 cx.2.1 dL_law_602 (by decide) ?_
  refine lv_iadd cx.1 cx.2.1 dL_law_603 ?_
  obtain ⟨ha209, hr⟩ := of_grd hr
  refine va_sld cx.1 cx.2.1 hX hbl hbA dy.2 ha209 dL_law_604 ?_
  obtain ⟨hv212, hr⟩ := of_grd hr
  obtain ⟨x211, g210, hc213, hr⟩ := of_bnd2 hr
  refine r_i dy (k_V (As := [.int (xs (x3 + (1 : Int32)).toNatClampNeg), .int (xs (x3 + (2 : Int32)).toNatClampNeg)]) (b := 70) (ci := 12) cx fx dy (c_X12_house hc213) mv_X12_house rfl rfl ⟨by decide, by decide⟩ tb_1280 hv212 rfl (by decide) rfl hl.1 rfl (Nat.le_of_ble_eq_true rfl) ⟨hcap.1, Nat.le_trans (by omega) hcap.2⟩ dL_law_605) (fun H locs dy => ?_)
  rcases of_brn hr with ⟨hc, hr⟩ | ⟨hc, hr⟩
  · refine lv_icmp_eq (tgt := 1052) cx.1 cx.2.1 dL_law_608 (by decide) (fun _ => ?_) (fun hn => absurd hc hn)
    obtain ⟨x214, ex214, hr⟩ := of_nm hr
    refine lv_iinc (v := x214) (lv' := [(3, .int x214), (0, .ref b), (1, .ref (ad 0)), (2, .ref (ad 70))]) cx.1 cx.2.1 dL_law_1052 hl (k := 3) rfl (by rw [ex214]; rfl) (by decide) rfl (fun ls hl => ?_)
    refine lv_goto (tgt := 18) cx.1 cx.2.1 dL_law_1055 (by decide) ?_
    refine W.widen (k := c0 + 1) (n := s0 + 6) (by omega) (by omega) ?_
    exact hh0 x214 V g210 (Option.some.inj hr).symm ad H locs ls dy (lv_sub hl [1, 2, 3, 0] rfl)
  · refine lv_icmp_eq (tgt := 1052) cx.1 cx.2.1 dL_law_608 (by decide) (fun hn => absurd hn hc) (fun _ => ?_)
    refine lv_iconst (v := 0) cx.1 cx.2.1 dL_law_611 (by decide) ?_
    exact absurd (hq0 _ (Option.some.inj hr).symm) (by decide)
noncomputable def r_L_613 (xs : Nat → Int32) (L : Nat) (x3 : Int32) (V : Vk) (g : Hq) : Option ((Int32 × Vk × Hq) ⊕ Int32) :=
  grd (vp_in (x3 + (1 : Int32)) L) <| grd (vp_in (x3 + (2 : Int32)) L) <| grd (V 0 = some (11, 0)) <| bnd (r_X11_purse V 0 (xs (x3 + (1 : Int32)).toNatClampNeg) (xs (x3 + (2 : Int32)).toNatClampNeg) g) fun x219 g218 => grd (vp_in (x3 + (1 : Int32)) L) <| grd (vp_in (x3 + (2 : Int32)) L) <| grd (V 70 = some (12, 0)) <| bnd (r_X12_purse V 70 (xs (x3 + (1 : Int32)).toNatClampNeg) (xs (x3 + (2 : Int32)).toNatClampNeg) g218) fun x225 g224 => brn (x219 = x225) (nm (x3 + (6 : Int32)) fun x228 => some (.inl (x228, V, g224))) (some (.inr (0 : Int32)))
set_option maxHeartbeats 4000000 in
set_option maxRecDepth 100000 in
theorem w_L_613 {p : Program} {l : Launch} {e : Env} {s : State} {m : MethodId} {below : List Frame} {meth : Method} {c : Code} {D : va_G} {cA : Nat → ClassId} {sk : (Nat → Nat) × (Nat → Nat)} {A : Nat → Prop} {b L : Nat} {xs : Nat → Int32} (cx : CallFix p m c cL_law 4 s #[Value.ref b] gw_tbl RL) (fx : Fx D cA sk A s) (hX : va_X b L xs s s.heap) (hbl : b < s.heap.size) (hbA : ¬ A b) (hret : meth.sig.returnType = ret) (hlocks : meth.locks = false) (hAf : ∀ q, A q → s.heap.size ≤ q) (z : (Int32 × Vk × Hq) ⊕ Int32) {c0 s0 : Nat} (hh0 : ∀ (xb : Int32) (Vb : Vk) (gb : Hq), z = .inl (xb, Vb, gb) → ∀ (ad : Nat → Nat) (H : Heap) (locs : List Loc) (ls : Array Slot), Dy D cA ad (Vb, gb) A s.heap H locs → lv_has ls 4 [(0, .ref b), (1, .ref (ad 0)), (2, .ref (ad 70)), (3, .int xb)] → W p l e room_1 s m #[Value.ref b] below meth c H locs (c0 + 1) (s0 + 6) (lw_Z below #[Value.ref b] s) (F0 m 18 ls [])) (hq0 : ∀ b : Int32, z = .inr b → b = 1) (x3 : Int32) (V : Vk) (g : Hq) (hr : r_L_613 xs L x3 V g = some z) (hcap : c0 + 1 ≤ room_1.cells ∧ s0 + 6 ≤ room_1.slots) (ad : Nat → Nat) (H : Heap) (locs : List Loc) (ls : Array Slot) (dy : Dy D cA ad (V, g) A s.heap H locs) (hl : lv_has ls 4 [(0, .ref b), (1, .ref (ad 0)), (2, .ref (ad 70)), (3, .int x3)]) : W p l e room_1 s m #[Value.ref b] below meth c H locs c0 s0 (lw_Z below #[Value.ref b] s) (F0 m 613 ls []) := by
  unfold r_L_613 at hr
  refine lv_aload_n cx.1 cx.2.1 dL_law_613 rfl (lv_at hl 1 rfl) ?_
  refine lv_aload_n cx.1 cx.2.1 dL_law_614 rfl (lv_at hl 0 rfl) ?_
  refine lv_iload_n cx.1 cx.2.1 dL_law_615 rfl (lv_at hl 3 rfl) ?_
  refine lv_iconst (v := 1) cx.1 cx.2.1 dL_law_616 (by decide) ?_
  refine lv_iadd cx.1 cx.2.1 dL_law_617 ?_
  obtain ⟨ha216, hr⟩ := of_grd hr
  refine va_sld cx.1 cx.2.1 hX hbl hbA dy.2 ha216 dL_law_618 ?_
  refine lv_aload_n cx.1 cx.2.1 dL_law_619 rfl (lv_at hl 0 rfl) ?_
  refine lv_iload_n cx.1 cx.2.1 dL_law_620 rfl (lv_at hl 3 rfl) ?_
  refine lv_iconst (v := 2) cx.1 cx.2.1 dL_law_621 (by decide) ?_
  refine lv_iadd cx.1 cx.2.1 dL_law_622 ?_
  obtain ⟨ha217, hr⟩ := of_grd hr
  refine va_sld cx.1 cx.2.1 hX hbl hbA dy.2 ha217 dL_law_623 ?_
  obtain ⟨hv220, hr⟩ := of_grd hr
  obtain ⟨x219, g218, hc221, hr⟩ := of_bnd2 hr
  refine r_i dy (k_V (As := [.int (xs (x3 + (1 : Int32)).toNatClampNeg), .int (xs (x3 + (2 : Int32)).toNatClampNeg)]) (b := 0) (ci := 11) cx fx dy (c_X11_purse hc221) mv_X11_purse rfl rfl ⟨by decide, by decide⟩ tb_760 hv220 rfl (by decide) rfl hl.1 rfl (Nat.le_of_ble_eq_true rfl) ⟨Nat.le_trans (Nat.le_add_right c0 1) hcap.1, Nat.le_trans (Nat.le_add_right s0 6) hcap.2⟩ dL_law_624) (fun H locs dy => ?_)
  refine lv_aload_n cx.1 cx.2.1 dL_law_627 rfl (lv_at hl 2 rfl) ?_
  refine lv_aload_n cx.1 cx.2.1 dL_law_628 rfl (lv_at hl 0 rfl) ?_
  refine lv_iload_n cx.1 cx.2.1 dL_law_629 rfl (lv_at hl 3 rfl) ?_
  refine lv_iconst (v := 1) cx.1 cx.2.1 dL_law_630 (by decide) ?_
  refine lv_iadd cx.1 cx.2.1 dL_law_631 ?_
  obtain ⟨ha222, hr⟩ := of_grd hr
  refine va_sld cx.1 cx.2.1 hX hbl hbA dy.2 ha222 dL_law_632 ?_
  refine lv_aload_n cx.1 cx.2.1 dL_law_633 rfl (lv_at hl 0 rfl) ?_
  refine lv_iload_n cx.1 cx.2.1 dL_law_634 rfl (lv_at hl 3 rfl) ?_
  refine lv_iconst (v := 2) cx.1 cx.2.1 dL_law_635 (by decide) ?_
  refine lv_iadd cx.1 cx.2.1 dL_law_636 ?_
  obtain ⟨ha223, hr⟩ := of_grd hr
  refine va_sld cx.1 cx.2.1 hX hbl hbA dy.2 ha223 dL_law_637 ?_
  obtain ⟨hv226, hr⟩ := of_grd hr
  obtain ⟨x225, g224, hc227, hr⟩ := of_bnd2 hr
  refine r_i dy (k_V (As := [.int (xs (x3 + (1 : Int32)).toNatClampNeg), .int (xs (x3 + (2 : Int32)).toNatClampNeg)]) (b := 70) (ci := 12) cx fx dy (c_X12_purse hc227) mv_X12_purse rfl rfl ⟨by decide, by decide⟩ tb_1284 hv226 rfl (by decide) rfl hl.1 rfl (Nat.le_of_ble_eq_true rfl) ⟨Nat.le_trans (Nat.le_add_right c0 1) hcap.1, Nat.le_trans (Nat.le_add_right s0 6) hcap.2⟩ dL_law_638) (fun H locs dy => ?_)
  rcases of_brn hr with ⟨hc, hr⟩ | ⟨hc, hr⟩
  · refine lv_icmp_eq (tgt := 1052) cx.1 cx.2.1 dL_law_641 (by decide) (fun _ => ?_) (fun hn => absurd hc hn)
    obtain ⟨x228, ex228, hr⟩ := of_nm hr
    refine lv_iinc (v := x228) (lv' := [(3, .int x228), (0, .ref b), (1, .ref (ad 0)), (2, .ref (ad 70))]) cx.1 cx.2.1 dL_law_1052 hl (k := 3) rfl (by rw [ex228]; rfl) (by decide) rfl (fun ls hl => ?_)
    refine lv_goto (tgt := 18) cx.1 cx.2.1 dL_law_1055 (by decide) ?_
    refine W.widen (k := c0 + 1) (n := s0 + 6) (by omega) (by omega) ?_
    exact hh0 x228 V g224 (Option.some.inj hr).symm ad H locs ls dy (lv_sub hl [1, 2, 3, 0] rfl)
  · refine lv_icmp_eq (tgt := 1052) cx.1 cx.2.1 dL_law_641 (by decide) (fun hn => absurd hn hc) (fun _ => ?_)
    refine lv_iconst (v := 0) cx.1 cx.2.1 dL_law_644 (by decide) ?_
    exact absurd (hq0 _ (Option.some.inj hr).symm) (by decide)
noncomputable def r_L_646 (xs : Nat → Int32) (L : Nat) (x3 : Int32) (V : Vk) (g : Hq) : Option ((Int32 × Vk × Hq) ⊕ Int32) :=
  grd (vp_in (x3 + (1 : Int32)) L) <| grd (vp_in (x3 + (2 : Int32)) L) <| grd (V 0 = some (11, 0)) <| bnd (r_X11_would V 0 (xs (x3 + (1 : Int32)).toNatClampNeg) (xs (x3 + (2 : Int32)).toNatClampNeg) g) fun x233 g232 => grd (vp_in (x3 + (1 : Int32)) L) <| grd (vp_in (x3 + (2 : Int32)) L) <| grd (V 70 = some (12, 0)) <| bnd (r_X12_would V 70 (xs (x3 + (1 : Int32)).toNatClampNeg) (xs (x3 + (2 : Int32)).toNatClampNeg) g232) fun x239 g238 => brn (x233 = x239) (nm (x3 + (6 : Int32)) fun x242 => some (.inl (x242, V, g238))) (some (.inr (0 : Int32)))
set_option maxHeartbeats 4000000 in
set_option maxRecDepth 100000 in
theorem w_L_646 {p : Program} {l : Launch} {e : Env} {s : State} {m : MethodId} {below : List Frame} {meth : Method} {c : Code} {D : va_G} {cA : Nat → ClassId} {sk : (Nat → Nat) × (Nat → Nat)} {A : Nat → Prop} {b L : Nat} {xs : Nat → Int32} (cx : CallFix p m c cL_law 4 s #[Value.ref b] gw_tbl RL) (fx : Fx D cA sk A s) (hX : va_X b L xs s s.heap) (hbl : b < s.heap.size) (hbA : ¬ A b) (hret : meth.sig.returnType = ret) (hlocks : meth.locks = false) (hAf : ∀ q, A q → s.heap.size ≤ q) (z : (Int32 × Vk × Hq) ⊕ Int32) {c0 s0 : Nat} (hh0 : ∀ (xb : Int32) (Vb : Vk) (gb : Hq), z = .inl (xb, Vb, gb) → ∀ (ad : Nat → Nat) (H : Heap) (locs : List Loc) (ls : Array Slot), Dy D cA ad (Vb, gb) A s.heap H locs → lv_has ls 4 [(0, .ref b), (1, .ref (ad 0)), (2, .ref (ad 70)), (3, .int xb)] → W p l e room_1 s m #[Value.ref b] below meth c H locs (c0 + 1) (s0 + 6) (lw_Z below #[Value.ref b] s) (F0 m 18 ls [])) (hq0 : ∀ b : Int32, z = .inr b → b = 1) (x3 : Int32) (V : Vk) (g : Hq) (hr : r_L_646 xs L x3 V g = some z) (hcap : c0 + 1 ≤ room_1.cells ∧ s0 + 6 ≤ room_1.slots) (ad : Nat → Nat) (H : Heap) (locs : List Loc) (ls : Array Slot) (dy : Dy D cA ad (V, g) A s.heap H locs) (hl : lv_has ls 4 [(0, .ref b), (1, .ref (ad 0)), (2, .ref (ad 70)), (3, .int x3)]) : W p l e room_1 s m #[Value.ref b] below meth c H locs c0 s0 (lw_Z below #[Value.ref b] s) (F0 m 646 ls []) := by
  unfold r_L_646 at hr
  refine lv_aload_n cx.1 cx.2.1 dL_law_646 rfl (lv_at hl 1 rfl) ?_
  refine lv_aload_n cx.1 cx.2.1 dL_law_647 rfl (lv_at hl 0 rfl) ?_
  refine lv_iload_n cx.1 cx.2.1 dL_law_648 rfl (lv_at hl 3 rfl) ?_
  refine lv_iconst (v := 1) cx.1 cx.2.1 dL_law_649 (by decide) ?_
  refine lv_iadd cx.1 cx.2.1 dL_law_650 ?_
  obtain ⟨ha230, hr⟩ := of_grd hr
  refine va_sld cx.1 cx.2.1 hX hbl hbA dy.2 ha230 dL_law_651 ?_
  refine lv_aload_n cx.1 cx.2.1 dL_law_652 rfl (lv_at hl 0 rfl) ?_
  refine lv_iload_n cx.1 cx.2.1 dL_law_653 rfl (lv_at hl 3 rfl) ?_
  refine lv_iconst (v := 2) cx.1 cx.2.1 dL_law_654 (by decide) ?_
  refine lv_iadd cx.1 cx.2.1 dL_law_655 ?_
  obtain ⟨ha231, hr⟩ := of_grd hr
  refine va_sld cx.1 cx.2.1 hX hbl hbA dy.2 ha231 dL_law_656 ?_
  obtain ⟨hv234, hr⟩ := of_grd hr
  obtain ⟨x233, g232, hc235, hr⟩ := of_bnd2 hr
  refine r_i dy (k_V (As := [.int (xs (x3 + (1 : Int32)).toNatClampNeg), .int (xs (x3 + (2 : Int32)).toNatClampNeg)]) (b := 0) (ci := 11) cx fx dy (c_X11_would hc235) mv_X11_would rfl rfl ⟨by decide, by decide⟩ tb_770 hv234 rfl (by decide) rfl hl.1 rfl (Nat.le_of_ble_eq_true rfl) ⟨Nat.le_trans (Nat.le_add_right c0 1) hcap.1, Nat.le_trans (Nat.le_add_right s0 6) hcap.2⟩ dL_law_657) (fun H locs dy => ?_)
  refine lv_aload_n cx.1 cx.2.1 dL_law_660 rfl (lv_at hl 2 rfl) ?_
  refine lv_aload_n cx.1 cx.2.1 dL_law_661 rfl (lv_at hl 0 rfl) ?_
  refine lv_iload_n cx.1 cx.2.1 dL_law_662 rfl (lv_at hl 3 rfl) ?_
  refine lv_iconst (v := 1) cx.1 cx.2.1 dL_law_663 (by decide) ?_
  refine lv_iadd cx.1 cx.2.1 dL_law_664 ?_
  obtain ⟨ha236, hr⟩ := of_grd hr
  refine va_sld cx.1 cx.2.1 hX hbl hbA dy.2 ha236 dL_law_665 ?_
  refine lv_aload_n cx.1 cx.2.1 dL_law_666 rfl (lv_at hl 0 rfl) ?_
  refine lv_iload_n cx.1 cx.2.1 dL_law_667 rfl (lv_at hl 3 rfl) ?_
  refine lv_iconst (v := 2) cx.1 cx.2.1 dL_law_668 (by decide) ?_
  refine lv_iadd cx.1 cx.2.1 dL_law_669 ?_
  obtain ⟨ha237, hr⟩ := of_grd hr
  refine va_sld cx.1 cx.2.1 hX hbl hbA dy.2 ha237 dL_law_670 ?_
  obtain ⟨hv240, hr⟩ := of_grd hr
  obtain ⟨x239, g238, hc241, hr⟩ := of_bnd2 hr
  refine r_i dy (k_V (As := [.int (xs (x3 + (1 : Int32)).toNatClampNeg), .int (xs (x3 + (2 : Int32)).toNatClampNeg)]) (b := 70) (ci := 12) cx fx dy (c_X12_would hc241) mv_X12_would rfl rfl ⟨by decide, by decide⟩ tb_1293 hv240 rfl (by decide) rfl hl.1 rfl (Nat.le_of_ble_eq_true rfl) ⟨Nat.le_trans (Nat.le_add_right c0 1) hcap.1, Nat.le_trans (Nat.le_add_right s0 6) hcap.2⟩ dL_law_671) (fun H locs dy => ?_)
  rcases of_brn hr with ⟨hc, hr⟩ | ⟨hc, hr⟩
  · refine lv_icmp_eq (tgt := 1052) cx.1 cx.2.1 dL_law_674 (by decide) (fun _ => ?_) (fun hn => absurd hc hn)
    obtain ⟨x242, ex242, hr⟩ := of_nm hr
    refine lv_iinc (v := x242) (lv' := [(3, .int x242), (0, .ref b), (1, .ref (ad 0)), (2, .ref (ad 70))]) cx.1 cx.2.1 dL_law_1052 hl (k := 3) rfl (by rw [ex242]; rfl) (by decide) rfl (fun ls hl => ?_)
    refine lv_goto (tgt := 18) cx.1 cx.2.1 dL_law_1055 (by decide) ?_
    refine W.widen (k := c0 + 1) (n := s0 + 6) (by omega) (by omega) ?_
    exact hh0 x242 V g238 (Option.some.inj hr).symm ad H locs ls dy (lv_sub hl [1, 2, 3, 0] rfl)
  · refine lv_icmp_eq (tgt := 1052) cx.1 cx.2.1 dL_law_674 (by decide) (fun hn => absurd hn hc) (fun _ => ?_)
    refine lv_iconst (v := 0) cx.1 cx.2.1 dL_law_677 (by decide) ?_
    exact absurd (hq0 _ (Option.some.inj hr).symm) (by decide)
noncomputable def r_L_679 (xs : Nat → Int32) (L : Nat) (x3 : Int32) (V : Vk) (g : Hq) : Option ((Int32 × Vk × Hq) ⊕ Int32) :=
  grd (vp_in (x3 + (1 : Int32)) L) <| grd (vp_in (x3 + (2 : Int32)) L) <| grd (V 0 = some (11, 0)) <| bnd (r_X11_fill V 0 (xs (x3 + (1 : Int32)).toNatClampNeg) (xs (x3 + (2 : Int32)).toNatClampNeg) g) fun x247 g246 => grd (vp_in (x3 + (1 : Int32)) L) <| grd (vp_in (x3 + (2 : Int32)) L) <| grd (V 70 = some (12, 0)) <| bnd (r_X12_fill V 70 (xs (x3 + (1 : Int32)).toNatClampNeg) (xs (x3 + (2 : Int32)).toNatClampNeg) g246) fun x253 g252 => brn (x247 = x253) (nm (x3 + (6 : Int32)) fun x256 => some (.inl (x256, V, g252))) (some (.inr (0 : Int32)))
set_option maxHeartbeats 4000000 in
set_option maxRecDepth 100000 in
theorem w_L_679 {p : Program} {l : Launch} {e : Env} {s : State} {m : MethodId} {below : List Frame} {meth : Method} {c : Code} {D : va_G} {cA : Nat → ClassId} {sk : (Nat → Nat) × (Nat → Nat)} {A : Nat → Prop} {b L : Nat} {xs : Nat → Int32} (cx : CallFix p m c cL_law 4 s #[Value.ref b] gw_tbl RL) (fx : Fx D cA sk A s) (hX : va_X b L xs s s.heap) (hbl : b < s.heap.size) (hbA : ¬ A b) (hret : meth.sig.returnType = ret) (hlocks : meth.locks = false) (hAf : ∀ q, A q → s.heap.size ≤ q) (z : (Int32 × Vk × Hq) ⊕ Int32) {c0 s0 : Nat} (hh0 : ∀ (xb : Int32) (Vb : Vk) (gb : Hq), z = .inl (xb, Vb, gb) → ∀ (ad : Nat → Nat) (H : Heap) (locs : List Loc) (ls : Array Slot), Dy D cA ad (Vb, gb) A s.heap H locs → lv_has ls 4 [(0, .ref b), (1, .ref (ad 0)), (2, .ref (ad 70)), (3, .int xb)] → W p l e room_1 s m #[Value.ref b] below meth c H locs (c0 + 1) (s0 + 6) (lw_Z below #[Value.ref b] s) (F0 m 18 ls [])) (hq0 : ∀ b : Int32, z = .inr b → b = 1) (x3 : Int32) (V : Vk) (g : Hq) (hr : r_L_679 xs L x3 V g = some z) (hcap : c0 + 1 ≤ room_1.cells ∧ s0 + 6 ≤ room_1.slots) (ad : Nat → Nat) (H : Heap) (locs : List Loc) (ls : Array Slot) (dy : Dy D cA ad (V, g) A s.heap H locs) (hl : lv_has ls 4 [(0, .ref b), (1, .ref (ad 0)), (2, .ref (ad 70)), (3, .int x3)]) : W p l e room_1 s m #[Value.ref b] below meth c H locs c0 s0 (lw_Z below #[Value.ref b] s) (F0 m 679 ls []) := by
  unfold r_L_679 at hr
  refine lv_aload_n cx.1 cx.2.1 dL_law_679 rfl (lv_at hl 1 rfl) ?_
  refine lv_aload_n cx.1 cx.2.1 dL_law_680 rfl (lv_at hl 0 rfl) ?_
  refine lv_iload_n cx.1 cx.2.1 dL_law_681 rfl (lv_at hl 3 rfl) ?_
  refine lv_iconst (v := 1) cx.1 cx.2.1 dL_law_682 (by decide) ?_
  refine lv_iadd cx.1 cx.2.1 dL_law_683 ?_
  obtain ⟨ha244, hr⟩ := of_grd hr
  refine va_sld cx.1 cx.2.1 hX hbl hbA dy.2 ha244 dL_law_684 ?_
  refine lv_aload_n cx.1 cx.2.1 dL_law_685 rfl (lv_at hl 0 rfl) ?_
  refine lv_iload_n cx.1 cx.2.1 dL_law_686 rfl (lv_at hl 3 rfl) ?_
  refine lv_iconst (v := 2) cx.1 cx.2.1 dL_law_687 (by decide) ?_
  refine lv_iadd cx.1 cx.2.1 dL_law_688 ?_
  obtain ⟨ha245, hr⟩ := of_grd hr
  refine va_sld cx.1 cx.2.1 hX hbl hbA dy.2 ha245 dL_law_689 ?_
  obtain ⟨hv248, hr⟩ := of_grd hr
  obtain ⟨x247, g246, hc249, hr⟩ := of_bnd2 hr
  refine r_i dy (k_V (As := [.int (xs (x3 + (1 : Int32)).toNatClampNeg), .int (xs (x3 + (2 : Int32)).toNatClampNeg)]) (b := 0) (ci := 11) cx fx dy (c_X11_fill hc249) mv_X11_fill rfl rfl ⟨by decide, by decide⟩ tb_774 hv248 rfl (by decide) rfl hl.1 rfl (Nat.le_of_ble_eq_true rfl) ⟨Nat.le_trans (Nat.le_add_right c0 1) hcap.1, Nat.le_trans (Nat.le_add_right s0 6) hcap.2⟩ dL_law_690) (fun H locs dy => ?_)
  refine lv_aload_n cx.1 cx.2.1 dL_law_693 rfl (lv_at hl 2 rfl) ?_
  refine lv_aload_n cx.1 cx.2.1 dL_law_694 rfl (lv_at hl 0 rfl) ?_
  refine lv_iload_n cx.1 cx.2.1 dL_law_695 rfl (lv_at hl 3 rfl) ?_
  refine lv_iconst (v := 1) cx.1 cx.2.1 dL_law_696 (by decide) ?_
  refine lv_iadd cx.1 cx.2.1 dL_law_697 ?_
  obtain ⟨ha250, hr⟩ := of_grd hr
  refine va_sld cx.1 cx.2.1 hX hbl hbA dy.2 ha250 dL_law_698 ?_
  refine lv_aload_n cx.1 cx.2.1 dL_law_699 rfl (lv_at hl 0 rfl) ?_
  refine lv_iload_n cx.1 cx.2.1 dL_law_700 rfl (lv_at hl 3 rfl) ?_
  refine lv_iconst (v := 2) cx.1 cx.2.1 dL_law_701 (by decide) ?_
  refine lv_iadd cx.1 cx.2.1 dL_law_702 ?_
  obtain ⟨ha251, hr⟩ := of_grd hr
  refine va_sld cx.1 cx.2.1 hX hbl hbA dy.2 ha251 dL_law_703 ?_
  obtain ⟨hv254, hr⟩ := of_grd hr
  obtain ⟨x253, g252, hc255, hr⟩ := of_bnd2 hr
  refine r_i dy (k_V (As := [.int (xs (x3 + (1 : Int32)).toNatClampNeg), .int (xs (x3 + (2 : Int32)).toNatClampNeg)]) (b := 70) (ci := 12) cx fx dy (c_X12_fill hc255) mv_X12_fill rfl rfl ⟨by decide, by decide⟩ tb_1297 hv254 rfl (by decide) rfl hl.1 rfl (Nat.le_of_ble_eq_true rfl) ⟨Nat.le_trans (Nat.le_add_right c0 1) hcap.1, Nat.le_trans (Nat.le_add_right s0 6) hcap.2⟩ dL_law_704) (fun H locs dy => ?_)
  rcases of_brn hr with ⟨hc, hr⟩ | ⟨hc, hr⟩
  · refine lv_icmp_eq (tgt := 1052) cx.1 cx.2.1 dL_law_707 (by decide) (fun _ => ?_) (fun hn => absurd hc hn)
    obtain ⟨x256, ex256, hr⟩ := of_nm hr
    refine lv_iinc (v := x256) (lv' := [(3, .int x256), (0, .ref b), (1, .ref (ad 0)), (2, .ref (ad 70))]) cx.1 cx.2.1 dL_law_1052 hl (k := 3) rfl (by rw [ex256]; rfl) (by decide) rfl (fun ls hl => ?_)
    refine lv_goto (tgt := 18) cx.1 cx.2.1 dL_law_1055 (by decide) ?_
    refine W.widen (k := c0 + 1) (n := s0 + 6) (by omega) (by omega) ?_
    exact hh0 x256 V g252 (Option.some.inj hr).symm ad H locs ls dy (lv_sub hl [1, 2, 3, 0] rfl)
  · refine lv_icmp_eq (tgt := 1052) cx.1 cx.2.1 dL_law_707 (by decide) (fun hn => absurd hn hc) (fun _ => ?_)
    refine lv_iconst (v := 0) cx.1 cx.2.1 dL_law_710 (by decide) ?_
    exact absurd (hq0 _ (Option.some.inj hr).symm) (by decide)
noncomputable def r_L_712 (xs : Nat → Int32) (L : Nat) (x3 : Int32) (V : Vk) (g : Hq) : Option ((Int32 × Vk × Hq) ⊕ Int32) :=
  grd (vp_in (x3 + (1 : Int32)) L) <| grd (vp_in (x3 + (2 : Int32)) L) <| grd (vp_in (x3 + (3 : Int32)) L) <| grd (V 0 = some (11, 0)) <| bnd (r_X11_year V 0 (xs (x3 + (1 : Int32)).toNatClampNeg) (xs (x3 + (2 : Int32)).toNatClampNeg) (xs (x3 + (3 : Int32)).toNatClampNeg) g) fun x262 g261 => grd (vp_in (x3 + (1 : Int32)) L) <| grd (vp_in (x3 + (2 : Int32)) L) <| grd (vp_in (x3 + (3 : Int32)) L) <| grd (V 70 = some (12, 0)) <| bnd (r_X12_year V 70 (xs (x3 + (1 : Int32)).toNatClampNeg) (xs (x3 + (2 : Int32)).toNatClampNeg) (xs (x3 + (3 : Int32)).toNatClampNeg) g261) fun x269 g268 => brn (x262 = x269) (nm (x3 + (6 : Int32)) fun x272 => some (.inl (x272, V, g268))) (some (.inr (0 : Int32)))
set_option maxHeartbeats 4000000 in
set_option maxRecDepth 100000 in
theorem w_L_712 {p : Program} {l : Launch} {e : Env} {s : State} {m : MethodId} {below : List Frame} {meth : Method} {c : Code} {D : va_G} {cA : Nat → ClassId} {sk : (Nat → Nat) × (Nat → Nat)} {A : Nat → Prop} {b L : Nat} {xs : Nat → Int32} (cx : CallFix p m c cL_law 4 s #[Value.ref b] gw_tbl RL) (fx : Fx D cA sk A s) (hX : va_X b L xs s s.heap) (hbl : b < s.heap.size) (hbA : ¬ A b) (hret : meth.sig.returnType = ret) (hlocks : meth.locks = false) (hAf : ∀ q, A q → s.heap.size ≤ q) (z : (Int32 × Vk × Hq) ⊕ Int32) {c0 s0 : Nat} (hh0 : ∀ (xb : Int32) (Vb : Vk) (gb : Hq), z = .inl (xb, Vb, gb) → ∀ (ad : Nat → Nat) (H : Heap) (locs : List Loc) (ls : Array Slot), Dy D cA ad (Vb, gb) A s.heap H locs → lv_has ls 4 [(0, .ref b), (1, .ref (ad 0)), (2, .ref (ad 70)), (3, .int xb)] → W p l e room_1 s m #[Value.ref b] below meth c H locs (c0 + 1) (s0 + 6) (lw_Z below #[Value.ref b] s) (F0 m 18 ls [])) (hq0 : ∀ b : Int32, z = .inr b → b = 1) (x3 : Int32) (V : Vk) (g : Hq) (hr : r_L_712 xs L x3 V g = some z) (hcap : c0 + 1 ≤ room_1.cells ∧ s0 + 6 ≤ room_1.slots) (ad : Nat → Nat) (H : Heap) (locs : List Loc) (ls : Array Slot) (dy : Dy D cA ad (V, g) A s.heap H locs) (hl : lv_has ls 4 [(0, .ref b), (1, .ref (ad 0)), (2, .ref (ad 70)), (3, .int x3)]) : W p l e room_1 s m #[Value.ref b] below meth c H locs c0 s0 (lw_Z below #[Value.ref b] s) (F0 m 712 ls []) := by
  unfold r_L_712 at hr
  refine lv_aload_n cx.1 cx.2.1 dL_law_712 rfl (lv_at hl 1 rfl) ?_
  refine lv_aload_n cx.1 cx.2.1 dL_law_713 rfl (lv_at hl 0 rfl) ?_
  refine lv_iload_n cx.1 cx.2.1 dL_law_714 rfl (lv_at hl 3 rfl) ?_
  refine lv_iconst (v := 1) cx.1 cx.2.1 dL_law_715 (by decide) ?_
  refine lv_iadd cx.1 cx.2.1 dL_law_716 ?_
  obtain ⟨ha258, hr⟩ := of_grd hr
  refine va_sld cx.1 cx.2.1 hX hbl hbA dy.2 ha258 dL_law_717 ?_
  refine lv_aload_n cx.1 cx.2.1 dL_law_718 rfl (lv_at hl 0 rfl) ?_
  refine lv_iload_n cx.1 cx.2.1 dL_law_719 rfl (lv_at hl 3 rfl) ?_
  refine lv_iconst (v := 2) cx.1 cx.2.1 dL_law_720 (by decide) ?_
  refine lv_iadd cx.1 cx.2.1 dL_law_721 ?_
  obtain ⟨ha259, hr⟩ := of_grd hr
  refine va_sld cx.1 cx.2.1 hX hbl hbA dy.2 ha259 dL_law_722 ?_
  refine lv_aload_n cx.1 cx.2.1 dL_law_723 rfl (lv_at hl 0 rfl) ?_
  refine lv_iload_n cx.1 cx.2.1 dL_law_724 rfl (lv_at hl 3 rfl) ?_
  refine lv_iconst (v := 3) cx.1 cx.2.1 dL_law_725 (by decide) ?_
  refine lv_iadd cx.1 cx.2.1 dL_law_726 ?_
  obtain ⟨ha260, hr⟩ := of_grd hr
  refine va_sld cx.1 cx.2.1 hX hbl hbA dy.2 ha260 dL_law_727 ?_
  obtain ⟨hv263, hr⟩ := of_grd hr
  obtain ⟨x262, g261, hc264, hr⟩ := of_bnd2 hr
  refine r_i dy (k_V (As := [.int (xs (x3 + (1 : Int32)).toNatClampNeg), .int (xs (x3 + (2 : Int32)).toNatClampNeg), .int (xs (x3 + (3 : Int32)).toNatClampNeg)]) (b := 0) (ci := 11) cx fx dy (c_X11_year hc264) mv_X11_year rfl rfl ⟨by decide, by decide⟩ tb_820 hv263 rfl (by decide) rfl hl.1 rfl (Nat.le_of_ble_eq_true rfl) ⟨Nat.le_trans (Nat.le_add_right c0 1) hcap.1, Nat.le_trans (Nat.le_add_right s0 6) hcap.2⟩ dL_law_728) (fun H locs dy => ?_)
  refine lv_aload_n cx.1 cx.2.1 dL_law_731 rfl (lv_at hl 2 rfl) ?_
  refine lv_aload_n cx.1 cx.2.1 dL_law_732 rfl (lv_at hl 0 rfl) ?_
  refine lv_iload_n cx.1 cx.2.1 dL_law_733 rfl (lv_at hl 3 rfl) ?_
  refine lv_iconst (v := 1) cx.1 cx.2.1 dL_law_734 (by decide) ?_
  refine lv_iadd cx.1 cx.2.1 dL_law_735 ?_
  obtain ⟨ha265, hr⟩ := of_grd hr
  refine va_sld cx.1 cx.2.1 hX hbl hbA dy.2 ha265 dL_law_736 ?_
  refine lv_aload_n cx.1 cx.2.1 dL_law_737 rfl (lv_at hl 0 rfl) ?_
  refine lv_iload_n cx.1 cx.2.1 dL_law_738 rfl (lv_at hl 3 rfl) ?_
  refine lv_iconst (v := 2) cx.1 cx.2.1 dL_law_739 (by decide) ?_
  refine lv_iadd cx.1 cx.2.1 dL_law_740 ?_
  obtain ⟨ha266, hr⟩ := of_grd hr
  refine va_sld cx.1 cx.2.1 hX hbl hbA dy.2 ha266 dL_law_741 ?_
  refine lv_aload_n cx.1 cx.2.1 dL_law_742 rfl (lv_at hl 0 rfl) ?_
  refine lv_iload_n cx.1 cx.2.1 dL_law_743 rfl (lv_at hl 3 rfl) ?_
  refine lv_iconst (v := 3) cx.1 cx.2.1 dL_law_744 (by decide) ?_
  refine lv_iadd cx.1 cx.2.1 dL_law_745 ?_
  obtain ⟨ha267, hr⟩ := of_grd hr
  refine va_sld cx.1 cx.2.1 hX hbl hbA dy.2 ha267 dL_law_746 ?_
  obtain ⟨hv270, hr⟩ := of_grd hr
  obtain ⟨x269, g268, hc271, hr⟩ := of_bnd2 hr
  refine r_i dy (k_V (As := [.int (xs (x3 + (1 : Int32)).toNatClampNeg), .int (xs (x3 + (2 : Int32)).toNatClampNeg), .int (xs (x3 + (3 : Int32)).toNatClampNeg)]) (b := 70) (ci := 12) cx fx dy (c_X12_year hc271) mv_X12_year rfl rfl ⟨by decide, by decide⟩ tb_1305 hv270 rfl (by decide) rfl hl.1 rfl (Nat.le_of_ble_eq_true rfl) ⟨Nat.le_trans (Nat.le_add_right c0 1) hcap.1, Nat.le_trans (Nat.le_add_right s0 6) hcap.2⟩ dL_law_747) (fun H locs dy => ?_)
  rcases of_brn hr with ⟨hc, hr⟩ | ⟨hc, hr⟩
  · refine lv_icmp_eq (tgt := 1052) cx.1 cx.2.1 dL_law_750 (by decide) (fun _ => ?_) (fun hn => absurd hc hn)
    obtain ⟨x272, ex272, hr⟩ := of_nm hr
    refine lv_iinc (v := x272) (lv' := [(3, .int x272), (0, .ref b), (1, .ref (ad 0)), (2, .ref (ad 70))]) cx.1 cx.2.1 dL_law_1052 hl (k := 3) rfl (by rw [ex272]; rfl) (by decide) rfl (fun ls hl => ?_)
    refine lv_goto (tgt := 18) cx.1 cx.2.1 dL_law_1055 (by decide) ?_
    refine W.widen (k := c0 + 1) (n := s0 + 6) (by omega) (by omega) ?_
    exact hh0 x272 V g268 (Option.some.inj hr).symm ad H locs ls dy (lv_sub hl [1, 2, 3, 0] rfl)
  · refine lv_icmp_eq (tgt := 1052) cx.1 cx.2.1 dL_law_750 (by decide) (fun hn => absurd hn hc) (fun _ => ?_)
    refine lv_iconst (v := 0) cx.1 cx.2.1 dL_law_753 (by decide) ?_
    exact absurd (hq0 _ (Option.some.inj hr).symm) (by decide)
noncomputable def r_L_755 (xs : Nat → Int32) (L : Nat) (x3 : Int32) (V : Vk) (g : Hq) : Option ((Int32 × Vk × Hq) ⊕ Int32) :=
  grd (vp_in (x3 + (1 : Int32)) L) <| grd (vp_in (x3 + (2 : Int32)) L) <| grd (V 0 = some (11, 0)) <| bnd (r_X11_about V 0 (xs (x3 + (1 : Int32)).toNatClampNeg) (xs (x3 + (2 : Int32)).toNatClampNeg) g) fun x277 g276 => grd (vp_in (x3 + (1 : Int32)) L) <| grd (vp_in (x3 + (2 : Int32)) L) <| grd (V 70 = some (12, 0)) <| bnd (r_X12_about V 70 (xs (x3 + (1 : Int32)).toNatClampNeg) (xs (x3 + (2 : Int32)).toNatClampNeg) g276) fun x283 g282 => brn (x277 = x283) (nm (x3 + (6 : Int32)) fun x286 => some (.inl (x286, V, g282))) (some (.inr (0 : Int32)))
set_option maxHeartbeats 4000000 in
set_option maxRecDepth 100000 in
theorem w_L_755 {p : Program} {l : Launch} {e : Env} {s : State} {m : MethodId} {below : List Frame} {meth : Method} {c : Code} {D : va_G} {cA : Nat → ClassId} {sk : (Nat → Nat) × (Nat → Nat)} {A : Nat → Prop} {b L : Nat} {xs : Nat → Int32} (cx : CallFix p m c cL_law 4 s #[Value.ref b] gw_tbl RL) (fx : Fx D cA sk A s) (hX : va_X b L xs s s.heap) (hbl : b < s.heap.size) (hbA : ¬ A b) (hret : meth.sig.returnType = ret) (hlocks : meth.locks = false) (hAf : ∀ q, A q → s.heap.size ≤ q) (z : (Int32 × Vk × Hq) ⊕ Int32) {c0 s0 : Nat} (hh0 : ∀ (xb : Int32) (Vb : Vk) (gb : Hq), z = .inl (xb, Vb, gb) → ∀ (ad : Nat → Nat) (H : Heap) (locs : List Loc) (ls : Array Slot), Dy D cA ad (Vb, gb) A s.heap H locs → lv_has ls 4 [(0, .ref b), (1, .ref (ad 0)), (2, .ref (ad 70)), (3, .int xb)] → W p l e room_1 s m #[Value.ref b] below meth c H locs (c0 + 1) (s0 + 6) (lw_Z below #[Value.ref b] s) (F0 m 18 ls [])) (hq0 : ∀ b : Int32, z = .inr b → b = 1) (x3 : Int32) (V : Vk) (g : Hq) (hr : r_L_755 xs L x3 V g = some z) (hcap : c0 + 1 ≤ room_1.cells ∧ s0 + 6 ≤ room_1.slots) (ad : Nat → Nat) (H : Heap) (locs : List Loc) (ls : Array Slot) (dy : Dy D cA ad (V, g) A s.heap H locs) (hl : lv_has ls 4 [(0, .ref b), (1, .ref (ad 0)), (2, .ref (ad 70)), (3, .int x3)]) : W p l e room_1 s m #[Value.ref b] below meth c H locs c0 s0 (lw_Z below #[Value.ref b] s) (F0 m 755 ls []) := by
  unfold r_L_755 at hr
  refine lv_aload_n cx.1 cx.2.1 dL_law_755 rfl (lv_at hl 1 rfl) ?_
  refine lv_aload_n cx.1 cx.2.1 dL_law_756 rfl (lv_at hl 0 rfl) ?_
  refine lv_iload_n cx.1 cx.2.1 dL_law_757 rfl (lv_at hl 3 rfl) ?_
  refine lv_iconst (v := 1) cx.1 cx.2.1 dL_law_758 (by decide) ?_
  refine lv_iadd cx.1 cx.2.1 dL_law_759 ?_
  obtain ⟨ha274, hr⟩ := of_grd hr
  refine va_sld cx.1 cx.2.1 hX hbl hbA dy.2 ha274 dL_law_760 ?_
  refine lv_aload_n cx.1 cx.2.1 dL_law_761 rfl (lv_at hl 0 rfl) ?_
  refine lv_iload_n cx.1 cx.2.1 dL_law_762 rfl (lv_at hl 3 rfl) ?_
  refine lv_iconst (v := 2) cx.1 cx.2.1 dL_law_763 (by decide) ?_
  refine lv_iadd cx.1 cx.2.1 dL_law_764 ?_
  obtain ⟨ha275, hr⟩ := of_grd hr
  refine va_sld cx.1 cx.2.1 hX hbl hbA dy.2 ha275 dL_law_765 ?_
  obtain ⟨hv278, hr⟩ := of_grd hr
  obtain ⟨x277, g276, hc279, hr⟩ := of_bnd2 hr
  refine r_i dy (k_V (As := [.int (xs (x3 + (1 : Int32)).toNatClampNeg), .int (xs (x3 + (2 : Int32)).toNatClampNeg)]) (b := 0) (ci := 11) cx fx dy (c_X11_about hc279) mv_X11_about rfl rfl ⟨by decide, by decide⟩ tb_828 hv278 rfl (by decide) rfl hl.1 rfl (Nat.le_of_ble_eq_true rfl) ⟨Nat.le_trans (Nat.le_add_right c0 1) hcap.1, Nat.le_trans (Nat.le_add_right s0 6) hcap.2⟩ dL_law_766) (fun H locs dy => ?_)
  refine lv_aload_n cx.1 cx.2.1 dL_law_769 rfl (lv_at hl 2 rfl) ?_
  refine lv_aload_n cx.1 cx.2.1 dL_law_770 rfl (lv_at hl 0 rfl) ?_
  refine lv_iload_n cx.1 cx.2.1 dL_law_771 rfl (lv_at hl 3 rfl) ?_
  refine lv_iconst (v := 1) cx.1 cx.2.1 dL_law_772 (by decide) ?_
  refine lv_iadd cx.1 cx.2.1 dL_law_773 ?_
  obtain ⟨ha280, hr⟩ := of_grd hr
  refine va_sld cx.1 cx.2.1 hX hbl hbA dy.2 ha280 dL_law_774 ?_
  refine lv_aload_n cx.1 cx.2.1 dL_law_775 rfl (lv_at hl 0 rfl) ?_
  refine lv_iload_n cx.1 cx.2.1 dL_law_776 rfl (lv_at hl 3 rfl) ?_
  refine lv_iconst (v := 2) cx.1 cx.2.1 dL_law_777 (by decide) ?_
  refine lv_iadd cx.1 cx.2.1 dL_law_778 ?_
  obtain ⟨ha281, hr⟩ := of_grd hr
  refine va_sld cx.1 cx.2.1 hX hbl hbA dy.2 ha281 dL_law_779 ?_
  obtain ⟨hv284, hr⟩ := of_grd hr
  obtain ⟨x283, g282, hc285, hr⟩ := of_bnd2 hr
  refine r_i dy (k_V (As := [.int (xs (x3 + (1 : Int32)).toNatClampNeg), .int (xs (x3 + (2 : Int32)).toNatClampNeg)]) (b := 70) (ci := 12) cx fx dy (c_X12_about hc285) mv_X12_about rfl rfl ⟨by decide, by decide⟩ tb_1309 hv284 rfl (by decide) rfl hl.1 rfl (Nat.le_of_ble_eq_true rfl) ⟨Nat.le_trans (Nat.le_add_right c0 1) hcap.1, Nat.le_trans (Nat.le_add_right s0 6) hcap.2⟩ dL_law_780) (fun H locs dy => ?_)
  rcases of_brn hr with ⟨hc, hr⟩ | ⟨hc, hr⟩
  · refine lv_icmp_eq (tgt := 1052) cx.1 cx.2.1 dL_law_783 (by decide) (fun _ => ?_) (fun hn => absurd hc hn)
    obtain ⟨x286, ex286, hr⟩ := of_nm hr
    refine lv_iinc (v := x286) (lv' := [(3, .int x286), (0, .ref b), (1, .ref (ad 0)), (2, .ref (ad 70))]) cx.1 cx.2.1 dL_law_1052 hl (k := 3) rfl (by rw [ex286]; rfl) (by decide) rfl (fun ls hl => ?_)
    refine lv_goto (tgt := 18) cx.1 cx.2.1 dL_law_1055 (by decide) ?_
    refine W.widen (k := c0 + 1) (n := s0 + 6) (by omega) (by omega) ?_
    exact hh0 x286 V g282 (Option.some.inj hr).symm ad H locs ls dy (lv_sub hl [1, 2, 3, 0] rfl)
  · refine lv_icmp_eq (tgt := 1052) cx.1 cx.2.1 dL_law_783 (by decide) (fun hn => absurd hn hc) (fun _ => ?_)
    refine lv_iconst (v := 0) cx.1 cx.2.1 dL_law_786 (by decide) ?_
    exact absurd (hq0 _ (Option.some.inj hr).symm) (by decide)
noncomputable def r_L_788 (xs : Nat → Int32) (L : Nat) (x3 : Int32) (V : Vk) (g : Hq) : Option ((Int32 × Vk × Hq) ⊕ Int32) :=
  grd (vp_in (x3 + (1 : Int32)) L) <| grd (vp_in (x3 + (2 : Int32)) L) <| grd (vp_in (x3 + (3 : Int32)) L) <| grd (vp_in (x3 + (4 : Int32)) L) <| brn ((xs (x3 + (4 : Int32)).toNatClampNeg) = 0) (grd (V 0 ≠ none) <| grd (V 70 ≠ none) <| grd (V 0 = some (11, 0)) <| bna (r_X11_charge V 0 (xs (x3 + (1 : Int32)).toNatClampNeg) (xs (x3 + (2 : Int32)).toNatClampNeg) (xs (x3 + (3 : Int32)).toNatClampNeg) (0 : Int32) g) fun x296 V g295 => grd (vp_in (x3 + (1 : Int32)) L) <| grd (vp_in (x3 + (2 : Int32)) L) <| grd (vp_in (x3 + (3 : Int32)) L) <| grd (vp_in (x3 + (4 : Int32)) L) <| brn ((xs (x3 + (4 : Int32)).toNatClampNeg) = 0) (grd (V 70 = some (12, 0)) <| bnd (r_X12_charge V 70 (xs (x3 + (1 : Int32)).toNatClampNeg) (xs (x3 + (2 : Int32)).toNatClampNeg) (xs (x3 + (3 : Int32)).toNatClampNeg) (0 : Int32) g295) fun x305 g304 => brn (x296 = x305) (nm (x3 + (6 : Int32)) fun x308 => some (.inl (x308, V, g304))) (some (.inr (0 : Int32)))) (grd (V 70 = some (12, 0)) <| bnd (r_X12_charge V 70 (xs (x3 + (1 : Int32)).toNatClampNeg) (xs (x3 + (2 : Int32)).toNatClampNeg) (xs (x3 + (3 : Int32)).toNatClampNeg) (1 : Int32) g295) fun x310 g309 => brn (x296 = x310) (nm (x3 + (6 : Int32)) fun x313 => some (.inl (x313, V, g309))) (some (.inr (0 : Int32))))) (grd (V 0 ≠ none) <| grd (V 70 ≠ none) <| grd (V 0 = some (11, 0)) <| bna (r_X11_charge V 0 (xs (x3 + (1 : Int32)).toNatClampNeg) (xs (x3 + (2 : Int32)).toNatClampNeg) (xs (x3 + (3 : Int32)).toNatClampNeg) (1 : Int32) g) fun x318 V g317 => grd (vp_in (x3 + (1 : Int32)) L) <| grd (vp_in (x3 + (2 : Int32)) L) <| grd (vp_in (x3 + (3 : Int32)) L) <| grd (vp_in (x3 + (4 : Int32)) L) <| brn ((xs (x3 + (4 : Int32)).toNatClampNeg) = 0) (grd (V 70 = some (12, 0)) <| bnd (r_X12_charge V 70 (xs (x3 + (1 : Int32)).toNatClampNeg) (xs (x3 + (2 : Int32)).toNatClampNeg) (xs (x3 + (3 : Int32)).toNatClampNeg) (0 : Int32) g317) fun x327 g326 => brn (x318 = x327) (nm (x3 + (6 : Int32)) fun x330 => some (.inl (x330, V, g326))) (some (.inr (0 : Int32)))) (grd (V 70 = some (12, 0)) <| bnd (r_X12_charge V 70 (xs (x3 + (1 : Int32)).toNatClampNeg) (xs (x3 + (2 : Int32)).toNatClampNeg) (xs (x3 + (3 : Int32)).toNatClampNeg) (1 : Int32) g317) fun x332 g331 => brn (x318 = x332) (nm (x3 + (6 : Int32)) fun x335 => some (.inl (x335, V, g331))) (some (.inr (0 : Int32)))))
set_option maxHeartbeats 4000000 in
set_option maxRecDepth 100000 in
theorem w_L_788 {p : Program} {l : Launch} {e : Env} {s : State} {m : MethodId} {below : List Frame} {meth : Method} {c : Code} {D : va_G} {cA : Nat → ClassId} {sk : (Nat → Nat) × (Nat → Nat)} {A : Nat → Prop} {b L : Nat} {xs : Nat → Int32} (cx : CallFix p m c cL_law 4 s #[Value.ref b] gw_tbl RL) (fx : Fx D cA sk A s) (hX : va_X b L xs s s.heap) (hbl : b < s.heap.size) (hbA : ¬ A b) (hret : meth.sig.returnType = ret) (hlocks : meth.locks = false) (hAf : ∀ q, A q → s.heap.size ≤ q) (z : (Int32 × Vk × Hq) ⊕ Int32) {c0 s0 : Nat} (hh0 : ∀ (xb : Int32) (Vb : Vk) (gb : Hq), z = .inl (xb, Vb, gb) → ∀ (ad : Nat → Nat) (H : Heap) (locs : List Loc) (ls : Array Slot), Dy D cA ad (Vb, gb) A s.heap H locs → lv_has ls 4 [(0, .ref b), (1, .ref (ad 0)), (2, .ref (ad 70)), (3, .int xb)] → W p l e room_1 s m #[Value.ref b] below meth c H locs (c0 + 1) (s0 + 6) (lw_Z below #[Value.ref b] s) (F0 m 18 ls [])) (hq0 : ∀ b : Int32, z = .inr b → b = 1) (x3 : Int32) (V : Vk) (g : Hq) (hr : r_L_788 xs L x3 V g = some z) (hcap : c0 + 1 ≤ room_1.cells ∧ s0 + 6 ≤ room_1.slots) (ad : Nat → Nat) (H : Heap) (locs : List Loc) (ls : Array Slot) (dy : Dy D cA ad (V, g) A s.heap H locs) (hl : lv_has ls 4 [(0, .ref b), (1, .ref (ad 0)), (2, .ref (ad 70)), (3, .int x3)]) : W p l e room_1 s m #[Value.ref b] below meth c H locs c0 s0 (lw_Z below #[Value.ref b] s) (F0 m 788 ls []) := by
  unfold r_L_788 at hr
  refine lv_aload_n cx.1 cx.2.1 dL_law_788 rfl (lv_at hl 1 rfl) ?_
  refine lv_aload_n cx.1 cx.2.1 dL_law_789 rfl (lv_at hl 0 rfl) ?_
  refine lv_iload_n cx.1 cx.2.1 dL_law_790 rfl (lv_at hl 3 rfl) ?_
  refine lv_iconst (v := 1) cx.1 cx.2.1 dL_law_791 (by decide) ?_
  refine lv_iadd cx.1 cx.2.1 dL_law_792 ?_
  obtain ⟨ha288, hr⟩ := of_grd hr
  refine va_sld cx.1 cx.2.1 hX hbl hbA dy.2 ha288 dL_law_793 ?_
  refine lv_aload_n cx.1 cx.2.1 dL_law_794 rfl (lv_at hl 0 rfl) ?_
  refine lv_iload_n cx.1 cx.2.1 dL_law_795 rfl (lv_at hl 3 rfl) ?_
  refine lv_iconst (v := 2) cx.1 cx.2.1 dL_law_796 (by decide) ?_
  refine lv_iadd cx.1 cx.2.1 dL_law_797 ?_
  obtain ⟨ha289, hr⟩ := of_grd hr
  refine va_sld cx.1 cx.2.1 hX hbl hbA dy.2 ha289 dL_law_798 ?_
  refine lv_aload_n cx.1 cx.2.1 dL_law_799 rfl (lv_at hl 0 rfl) ?_
  refine lv_iload_n cx.1 cx.2.1 dL_law_800 rfl (lv_at hl 3 rfl) ?_
  refine lv_iconst (v := 3) cx.1 cx.2.1 dL_law_801 (by decide) ?_
  refine lv_iadd cx.1 cx.2.1 dL_law_802 ?_
  obtain ⟨ha290, hr⟩ := of_grd hr
  refine va_sld cx.1 cx.2.1 hX hbl hbA dy.2 ha290 dL_law_803 ?_
  refine lv_aload_n cx.1 cx.2.1 dL_law_804 rfl (lv_at hl 0 rfl) ?_
  refine lv_iload_n cx.1 cx.2.1 dL_law_805 rfl (lv_at hl 3 rfl) ?_
  refine lv_iconst (v := 4) cx.1 cx.2.1 dL_law_806 (by decide) ?_
  refine lv_iadd cx.1 cx.2.1 dL_law_807 ?_
  obtain ⟨ha291, hr⟩ := of_grd hr
  refine va_sld cx.1 cx.2.1 hX hbl hbA dy.2 ha291 dL_law_808 ?_
  rcases of_brn hr with ⟨hc, hr⟩ | ⟨hc, hr⟩
  · refine lv_if_eq (tgt := 816) cx.1 cx.2.1 dL_law_809 (by decide) (fun _ => ?_) (fun hn => absurd hc hn)
    refine lv_iconst (v := 0) cx.1 cx.2.1 dL_law_816 (by decide) ?_
    obtain ⟨hn292, hr⟩ := of_grd hr
    obtain ⟨hn293, hr⟩ := of_grd hr
    obtain ⟨hv294, hr⟩ := of_grd hr
    obtain ⟨x296, V, g295, hc297, hr⟩ := of_bna hr
    refine r_ia dy (k_V (As := [.int (xs (x3 + (1 : Int32)).toNatClampNeg), .int (xs (x3 + (2 : Int32)).toNatClampNeg), .int (xs (x3 + (3 : Int32)).toNatClampNeg), .int (0 : Int32)]) (b := 0) (ci := 11) cx fx dy (c_X11_charge hc297) mv_X11_charge rfl rfl ⟨by decide, by decide⟩ tb_836 hv294 rfl (by decide) rfl hl.1 rfl (Nat.le_of_ble_eq_true rfl) ⟨hcap.1, Nat.le_trans (by omega) hcap.2⟩ dL_law_817) (fun ad H locs hz dy => ?_)
    have ea298 := hz 0 hn292
    replace ea298 := ea298.2
    rw [← ea298] at hl
    have ea299 := hz 70 hn293
    replace ea299 := ea299.2
    rw [← ea299] at hl
    refine lv_aload_n cx.1 cx.2.1 dL_law_820 rfl (lv_at hl 2 rfl) ?_
    refine lv_aload_n cx.1 cx.2.1 dL_law_821 rfl (lv_at hl 0 rfl) ?_
    refine lv_iload_n cx.1 cx.2.1 dL_law_822 rfl (lv_at hl 3 rfl) ?_
    refine lv_iconst (v := 1) cx.1 cx.2.1 dL_law_823 (by decide) ?_
    refine lv_iadd cx.1 cx.2.1 dL_law_824 ?_
    obtain ⟨ha300, hr⟩ := of_grd hr
    refine va_sld cx.1 cx.2.1 hX hbl hbA dy.2 ha300 dL_law_825 ?_
    refine lv_aload_n cx.1 cx.2.1 dL_law_826 rfl (lv_at hl 0 rfl) ?_
    refine lv_iload_n cx.1 cx.2.1 dL_law_827 rfl (lv_at hl 3 rfl) ?_
    refine lv_iconst (v := 2) cx.1 cx.2.1 dL_law_828 (by decide) ?_
    refine lv_iadd cx.1 cx.2.1 dL_law_829 ?_
    obtain ⟨ha301, hr⟩ := of_grd hr
    refine va_sld cx.1 cx.2.1 hX hbl hbA dy.2 ha301 dL_law_830 ?_
    refine lv_aload_n cx.1 cx.2.1 dL_law_831 rfl (lv_at hl 0 rfl) ?_
    refine lv_iload_n cx.1 cx.2.1 dL_law_832 rfl (lv_at hl 3 rfl) ?_
    refine lv_iconst (v := 3) cx.1 cx.2.1 dL_law_833 (by decide) ?_
    refine lv_iadd cx.1 cx.2.1 dL_law_834 ?_
    obtain ⟨ha302, hr⟩ := of_grd hr
    refine va_sld cx.1 cx.2.1 hX hbl hbA dy.2 ha302 dL_law_835 ?_
    refine lv_aload_n cx.1 cx.2.1 dL_law_836 rfl (lv_at hl 0 rfl) ?_
    refine lv_iload_n cx.1 cx.2.1 dL_law_837 rfl (lv_at hl 3 rfl) ?_
    refine lv_iconst (v := 4) cx.1 cx.2.1 dL_law_838 (by decide) ?_
    refine lv_iadd cx.1 cx.2.1 dL_law_839 ?_
    obtain ⟨ha303, hr⟩ := of_grd hr
    refine va_sld cx.1 cx.2.1 hX hbl hbA dy.2 ha303 dL_law_840 ?_
    rcases of_brn hr with ⟨hc, hr⟩ | ⟨hc, hr⟩
    · refine lv_if_eq (tgt := 848) cx.1 cx.2.1 dL_law_841 (by decide) (fun _ => ?_) (fun hn => absurd hc hn)
      refine lv_iconst (v := 0) cx.1 cx.2.1 dL_law_848 (by decide) ?_
      obtain ⟨hv306, hr⟩ := of_grd hr
      obtain ⟨x305, g304, hc307, hr⟩ := of_bnd2 hr
      refine r_i dy (k_V (As := [.int (xs (x3 + (1 : Int32)).toNatClampNeg), .int (xs (x3 + (2 : Int32)).toNatClampNeg), .int (xs (x3 + (3 : Int32)).toNatClampNeg), .int (0 : Int32)]) (b := 70) (ci := 12) cx fx dy (c_X12_charge hc307) mv_X12_charge rfl rfl ⟨by decide, by decide⟩ tb_1313 hv306 rfl (by decide) rfl hl.1 rfl (Nat.le_of_ble_eq_true rfl) ⟨hcap.1, Nat.le_trans (by omega) hcap.2⟩ dL_law_849) (fun H locs dy => ?_)
      rcases of_brn hr with ⟨hc, hr⟩ | ⟨hc, hr⟩
      · refine lv_icmp_eq (tgt := 1052) cx.1 cx.2.1 dL_law_852 (by decide) (fun _ => ?_) (fun hn => absurd hc hn)
        obtain ⟨x308, ex308, hr⟩ := of_nm hr
        refine lv_iinc (v := x308) (lv' := [(3, .int x308), (0, .ref b), (1, .ref (ad 0)), (2, .ref (ad 70))]) cx.1 cx.2.1 dL_law_1052 hl (k := 3) rfl (by rw [ex308]; rfl) (by decide) rfl (fun ls hl => ?_)
        refine lv_goto (tgt := 18) cx.1 cx.2.1 dL_law_1055 (by decide) ?_
        refine W.widen (k := c0 + 1) (n := s0 + 6) (by omega) (by omega) ?_
        exact hh0 x308 V g304 (Option.some.inj hr).symm ad H locs ls dy (lv_sub hl [1, 2, 3, 0] rfl)
      · refine lv_icmp_eq (tgt := 1052) cx.1 cx.2.1 dL_law_852 (by decide) (fun hn => absurd hn hc) (fun _ => ?_)
        refine lv_iconst (v := 0) cx.1 cx.2.1 dL_law_855 (by decide) ?_
        exact absurd (hq0 _ (Option.some.inj hr).symm) (by decide)
    · refine lv_if_eq (tgt := 848) cx.1 cx.2.1 dL_law_841 (by decide) (fun hn => absurd hn hc) (fun _ => ?_)
      refine lv_iconst (v := 1) cx.1 cx.2.1 dL_law_844 (by decide) ?_
      refine lv_goto (tgt := 849) cx.1 cx.2.1 dL_law_845 (by decide) ?_
      obtain ⟨hv311, hr⟩ := of_grd hr
      obtain ⟨x310, g309, hc312, hr⟩ := of_bnd2 hr
      refine r_i dy (k_V (As := [.int (xs (x3 + (1 : Int32)).toNatClampNeg), .int (xs (x3 + (2 : Int32)).toNatClampNeg), .int (xs (x3 + (3 : Int32)).toNatClampNeg), .int (1 : Int32)]) (b := 70) (ci := 12) cx fx dy (c_X12_charge hc312) mv_X12_charge rfl rfl ⟨by decide, by decide⟩ tb_1313 hv311 rfl (by decide) rfl hl.1 rfl (Nat.le_of_ble_eq_true rfl) ⟨hcap.1, Nat.le_trans (by omega) hcap.2⟩ dL_law_849) (fun H locs dy => ?_)
      rcases of_brn hr with ⟨hc, hr⟩ | ⟨hc, hr⟩
      · refine lv_icmp_eq (tgt := 1052) cx.1 cx.2.1 dL_law_852 (by decide) (fun _ => ?_) (fun hn => absurd hc hn)
        obtain ⟨x313, ex313, hr⟩ := of_nm hr
        refine lv_iinc (v := x313) (lv' := [(3, .int x313), (0, .ref b), (1, .ref (ad 0)), (2, .ref (ad 70))]) cx.1 cx.2.1 dL_law_1052 hl (k := 3) rfl (by rw [ex313]; rfl) (by decide) rfl (fun ls hl => ?_)
        refine lv_goto (tgt := 18) cx.1 cx.2.1 dL_law_1055 (by decide) ?_
        refine W.widen (k := c0 + 1) (n := s0 + 6) (by omega) (by omega) ?_
        exact hh0 x313 V g309 (Option.some.inj hr).symm ad H locs ls dy (lv_sub hl [1, 2, 3, 0] rfl)
      · refine lv_icmp_eq (tgt := 1052) cx.1 cx.2.1 dL_law_852 (by decide) (fun hn => absurd hn hc) (fun _ => ?_)
        refine lv_iconst (v := 0) cx.1 cx.2.1 dL_law_855 (by decide) ?_
        exact absurd (hq0 _ (Option.some.inj hr).symm) (by decide)
  · refine lv_if_eq (tgt := 816) cx.1 cx.2.1 dL_law_809 (by decide) (fun hn => absurd hn hc) (fun _ => ?_)
    refine lv_iconst (v := 1) cx.1 cx.2.1 dL_law_812 (by decide) ?_
    refine lv_goto (tgt := 817) cx.1 cx.2.1 dL_law_813 (by decide) ?_
    obtain ⟨hn314, hr⟩ := of_grd hr
    obtain ⟨hn315, hr⟩ := of_grd hr
    obtain ⟨hv316, hr⟩ := of_grd hr
    obtain ⟨x318, V, g317, hc319, hr⟩ := of_bna hr
    refine r_ia dy (k_V (As := [.int (xs (x3 + (1 : Int32)).toNatClampNeg), .int (xs (x3 + (2 : Int32)).toNatClampNeg), .int (xs (x3 + (3 : Int32)).toNatClampNeg), .int (1 : Int32)]) (b := 0) (ci := 11) cx fx dy (c_X11_charge hc319) mv_X11_charge rfl rfl ⟨by decide, by decide⟩ tb_836 hv316 rfl (by decide) rfl hl.1 rfl (Nat.le_of_ble_eq_true rfl) ⟨hcap.1, Nat.le_trans (by omega) hcap.2⟩ dL_law_817) (fun ad H locs hz dy => ?_)
    have ea320 := hz 0 hn314
    replace ea320 := ea320.2
    rw [← ea320] at hl
    have ea321 := hz 70 hn315
    replace ea321 := ea321.2
    rw [← ea321] at hl
    refine lv_aload_n cx.1 cx.2.1 dL_law_820 rfl (lv_at hl 2 rfl) ?_
    refine lv_aload_n cx.1 cx.2.1 dL_law_821 rfl (lv_at hl 0 rfl) ?_
    refine lv_iload_n cx.1 cx.2.1 dL_law_822 rfl (lv_at hl 3 rfl) ?_
    refine lv_iconst (v := 1) cx.1 cx.2.1 dL_law_823 (by decide) ?_
    refine lv_iadd cx.1 cx.2.1 dL_law_824 ?_
    obtain ⟨ha322, hr⟩ := of_grd hr
    refine va_sld cx.1 cx.2.1 hX hbl hbA dy.2 ha322 dL_law_825 ?_
    refine lv_aload_n cx.1 cx.2.1 dL_law_826 rfl (lv_at hl 0 rfl) ?_
    refine lv_iload_n cx.1 cx.2.1 dL_law_827 rfl (lv_at hl 3 rfl) ?_
    refine lv_iconst (v := 2) cx.1 cx.2.1 dL_law_828 (by decide) ?_
    refine lv_iadd cx.1 cx.2.1 dL_law_829 ?_
    obtain ⟨ha323, hr⟩ := of_grd hr
    refine va_sld cx.1 cx.2.1 hX hbl hbA dy.2 ha323 dL_law_830 ?_
    refine lv_aload_n cx.1 cx.2.1 dL_law_831 rfl (lv_at hl 0 rfl) ?_
    refine lv_iload_n cx.1 cx.2.1 dL_law_832 rfl (lv_at hl 3 rfl) ?_
    refine lv_iconst (v := 3) cx.1 cx.2.1 dL_law_833 (by decide) ?_
    refine lv_iadd cx.1 cx.2.1 dL_law_834 ?_
    obtain ⟨ha324, hr⟩ := of_grd hr
    refine va_sld cx.1 cx.2.1 hX hbl hbA dy.2 ha324 dL_law_835 ?_
    refine lv_aload_n cx.1 cx.2.1 dL_law_836 rfl (lv_at hl 0 rfl) ?_
    refine lv_iload_n cx.1 cx.2.1 dL_law_837 rfl (lv_at hl 3 rfl) ?_
    refine lv_iconst (v := 4) cx.1 cx.2.1 dL_law_838 (by decide) ?_
    refine lv_iadd cx.1 cx.2.1 dL_law_839 ?_
    obtain ⟨ha325, hr⟩ := of_grd hr
    refine va_sld cx.1 cx.2.1 hX hbl hbA dy.2 ha325 dL_law_840 ?_
    rcases of_brn hr with ⟨hc, hr⟩ | ⟨hc, hr⟩
    · refine lv_if_eq (tgt := 848) cx.1 cx.2.1 dL_law_841 (by decide) (fun _ => ?_) (fun hn => absurd hc hn)
      refine lv_iconst (v := 0) cx.1 cx.2.1 dL_law_848 (by decide) ?_
      obtain ⟨hv328, hr⟩ := of_grd hr
      obtain ⟨x327, g326, hc329, hr⟩ := of_bnd2 hr
      refine r_i dy (k_V (As := [.int (xs (x3 + (1 : Int32)).toNatClampNeg), .int (xs (x3 + (2 : Int32)).toNatClampNeg), .int (xs (x3 + (3 : Int32)).toNatClampNeg), .int (0 : Int32)]) (b := 70) (ci := 12) cx fx dy (c_X12_charge hc329) mv_X12_charge rfl rfl ⟨by decide, by decide⟩ tb_1313 hv328 rfl (by decide) rfl hl.1 rfl (Nat.le_of_ble_eq_true rfl) ⟨hcap.1, Nat.le_trans (by omega) hcap.2⟩ dL_law_849) (fun H locs dy => ?_)
      rcases of_brn hr with ⟨hc, hr⟩ | ⟨hc, hr⟩
      · refine lv_icmp_eq (tgt := 1052) cx.1 cx.2.1 dL_law_852 (by decide) (fun _ => ?_) (fun hn => absurd hc hn)
        obtain ⟨x330, ex330, hr⟩ := of_nm hr
        refine lv_iinc (v := x330) (lv' := [(3, .int x330), (0, .ref b), (1, .ref (ad 0)), (2, .ref (ad 70))]) cx.1 cx.2.1 dL_law_1052 hl (k := 3) rfl (by rw [ex330]; rfl) (by decide) rfl (fun ls hl => ?_)
        refine lv_goto (tgt := 18) cx.1 cx.2.1 dL_law_1055 (by decide) ?_
        refine W.widen (k := c0 + 1) (n := s0 + 6) (by omega) (by omega) ?_
        exact hh0 x330 V g326 (Option.some.inj hr).symm ad H locs ls dy (lv_sub hl [1, 2, 3, 0] rfl)
      · refine lv_icmp_eq (tgt := 1052) cx.1 cx.2.1 dL_law_852 (by decide) (fun hn => absurd hn hc) (fun _ => ?_)
        refine lv_iconst (v := 0) cx.1 cx.2.1 dL_law_855 (by decide) ?_
        exact absurd (hq0 _ (Option.some.inj hr).symm) (by decide)
    · refine lv_if_eq (tgt := 848) cx.1 cx.2.1 dL_law_841 (by decide) (fun hn => absurd hn hc) (fun _ => ?_)
      refine lv_iconst (v := 1) cx.1 cx.2.1 dL_law_844 (by decide) ?_
      refine lv_goto (tgt := 849) cx.1 cx.2.1 dL_law_845 (by decide) ?_
      obtain ⟨hv333, hr⟩ := of_grd hr
      obtain ⟨x332, g331, hc334, hr⟩ := of_bnd2 hr
      refine r_i dy (k_V (As := [.int (xs (x3 + (1 : Int32)).toNatClampNeg), .int (xs (x3 + (2 : Int32)).toNatClampNeg), .int (xs (x3 + (3 : Int32)).toNatClampNeg), .int (1 : Int32)]) (b := 70) (ci := 12) cx fx dy (c_X12_charge hc334) mv_X12_charge rfl rfl ⟨by decide, by decide⟩ tb_1313 hv333 rfl (by decide) rfl hl.1 rfl (Nat.le_of_ble_eq_true rfl) ⟨hcap.1, Nat.le_trans (by omega) hcap.2⟩ dL_law_849) (fun H locs dy => ?_)
      rcases of_brn hr with ⟨hc, hr⟩ | ⟨hc, hr⟩
      · refine lv_icmp_eq (tgt := 1052) cx.1 cx.2.1 dL_law_852 (by decide) (fun _ => ?_) (fun hn => absurd hc hn)
        obtain ⟨x335, ex335, hr⟩ := of_nm hr
        refine lv_iinc (v := x335) (lv' := [(3, .int x335), (0, .ref b), (1, .ref (ad 0)), (2, .ref (ad 70))]) cx.1 cx.2.1 dL_law_1052 hl (k := 3) rfl (by rw [ex335]; rfl) (by decide) rfl (fun ls hl => ?_)
        refine lv_goto (tgt := 18) cx.1 cx.2.1 dL_law_1055 (by decide) ?_
        refine W.widen (k := c0 + 1) (n := s0 + 6) (by omega) (by omega) ?_
        exact hh0 x335 V g331 (Option.some.inj hr).symm ad H locs ls dy (lv_sub hl [1, 2, 3, 0] rfl)
      · refine lv_icmp_eq (tgt := 1052) cx.1 cx.2.1 dL_law_852 (by decide) (fun hn => absurd hn hc) (fun _ => ?_)
        refine lv_iconst (v := 0) cx.1 cx.2.1 dL_law_855 (by decide) ?_
        exact absurd (hq0 _ (Option.some.inj hr).symm) (by decide)
noncomputable def r_L_857 (xs : Nat → Int32) (L : Nat) (x3 : Int32) (V : Vk) (g : Hq) : Option ((Int32 × Vk × Hq) ⊕ Int32) :=
  grd (vp_in (x3 + (1 : Int32)) L) <| grd (vp_in (x3 + (2 : Int32)) L) <| grd (V 0 = some (11, 0)) <| bnd (r_X11_charged V 0 (xs (x3 + (1 : Int32)).toNatClampNeg) (xs (x3 + (2 : Int32)).toNatClampNeg) g) fun x340 g339 => grd (vp_in (x3 + (1 : Int32)) L) <| grd (vp_in (x3 + (2 : Int32)) L) <| grd (V 70 = some (12, 0)) <| bnd (r_X12_charged V 70 (xs (x3 + (1 : Int32)).toNatClampNeg) (xs (x3 + (2 : Int32)).toNatClampNeg) g339) fun x346 g345 => brn (x340 = x346) (nm (x3 + (6 : Int32)) fun x349 => some (.inl (x349, V, g345))) (some (.inr (0 : Int32)))
set_option maxHeartbeats 4000000 in
set_option maxRecDepth 100000 in
theorem w_L_857 {p : Program} {l : Launch} {e : Env} {s : State} {m : MethodId} {below : List Frame} {meth : Method} {c : Code} {D : va_G} {cA : Nat → ClassId} {sk : (Nat → Nat) × (Nat → Nat)} {A : Nat → Prop} {b L : Nat} {xs : Nat → Int32} (cx : CallFix p m c cL_law 4 s #[Value.ref b] gw_tbl RL) (fx : Fx D cA sk A s) (hX : va_X b L xs s s.heap) (hbl : b < s.heap.size) (hbA : ¬ A b) (hret : meth.sig.returnType = ret) (hlocks : meth.locks = false) (hAf : ∀ q, A q → s.heap.size ≤ q) (z : (Int32 × Vk × Hq) ⊕ Int32) {c0 s0 : Nat} (hh0 : ∀ (xb : Int32) (Vb : Vk) (gb : Hq), z = .inl (xb, Vb, gb) → ∀ (ad : Nat → Nat) (H : Heap) (locs : List Loc) (ls : Array Slot), Dy D cA ad (Vb, gb) A s.heap H locs → lv_has ls 4 [(0, .ref b), (1, .ref (ad 0)), (2, .ref (ad 70)), (3, .int xb)] → W p l e room_1 s m #[Value.ref b] below meth c H locs (c0 + 1) (s0 + 6) (lw_Z below #[Value.ref b] s) (F0 m 18 ls [])) (hq0 : ∀ b : Int32, z = .inr b → b = 1) (x3 : Int32) (V : Vk) (g : Hq) (hr : r_L_857 xs L x3 V g = some z) (hcap : c0 + 1 ≤ room_1.cells ∧ s0 + 6 ≤ room_1.slots) (ad : Nat → Nat) (H : Heap) (locs : List Loc) (ls : Array Slot) (dy : Dy D cA ad (V, g) A s.heap H locs) (hl : lv_has ls 4 [(0, .ref b), (1, .ref (ad 0)), (2, .ref (ad 70)), (3, .int x3)]) : W p l e room_1 s m #[Value.ref b] below meth c H locs c0 s0 (lw_Z below #[Value.ref b] s) (F0 m 857 ls []) := by
  unfold r_L_857 at hr
  refine lv_aload_n cx.1 cx.2.1 dL_law_857 rfl (lv_at hl 1 rfl) ?_
  refine lv_aload_n cx.1 cx.2.1 dL_law_858 rfl (lv_at hl 0 rfl) ?_
  refine lv_iload_n cx.1 cx.2.1 dL_law_859 rfl (lv_at hl 3 rfl) ?_
  refine lv_iconst (v := 1) cx.1 cx.2.1 dL_law_860 (by decide) ?_
  refine lv_iadd cx.1 cx.2.1 dL_law_861 ?_
  obtain ⟨ha337, hr⟩ := of_grd hr
  refine va_sld cx.1 cx.2.1 hX hbl hbA dy.2 ha337 dL_law_862 ?_
  refine lv_aload_n cx.1 cx.2.1 dL_law_863 rfl (lv_at hl 0 rfl) ?_
  refine lv_iload_n cx.1 cx.2.1 dL_law_864 rfl (lv_at hl 3 rfl) ?_
  refine lv_iconst (v := 2) cx.1 cx.2.1 dL_law_865 (by decide) ?_
  refine lv_iadd cx.1 cx.2.1 dL_law_866 ?_
  obtain ⟨ha338, hr⟩ := of_grd hr
  refine va_sld cx.1 cx.2.1 hX hbl hbA dy.2 ha338 dL_law_867 ?_
  obtain ⟨hv341, hr⟩ := of_grd hr
  obtain ⟨x340, g339, hc342, hr⟩ := of_bnd2 hr
  refine r_i dy (k_V (As := [.int (xs (x3 + (1 : Int32)).toNatClampNeg), .int (xs (x3 + (2 : Int32)).toNatClampNeg)]) (b := 0) (ci := 11) cx fx dy (c_X11_charged hc342) mv_X11_charged rfl rfl ⟨by decide, by decide⟩ tb_891 hv341 rfl (by decide) rfl hl.1 rfl (Nat.le_of_ble_eq_true rfl) ⟨Nat.le_trans (Nat.le_add_right c0 1) hcap.1, Nat.le_trans (Nat.le_add_right s0 6) hcap.2⟩ dL_law_868) (fun H locs dy => ?_)
  refine lv_aload_n cx.1 cx.2.1 dL_law_871 rfl (lv_at hl 2 rfl) ?_
  refine lv_aload_n cx.1 cx.2.1 dL_law_872 rfl (lv_at hl 0 rfl) ?_
  refine lv_iload_n cx.1 cx.2.1 dL_law_873 rfl (lv_at hl 3 rfl) ?_
  refine lv_iconst (v := 1) cx.1 cx.2.1 dL_law_874 (by decide) ?_
  refine lv_iadd cx.1 cx.2.1 dL_law_875 ?_
  obtain ⟨ha343, hr⟩ := of_grd hr
  refine va_sld cx.1 cx.2.1 hX hbl hbA dy.2 ha343 dL_law_876 ?_
  refine lv_aload_n cx.1 cx.2.1 dL_law_877 rfl (lv_at hl 0 rfl) ?_
  refine lv_iload_n cx.1 cx.2.1 dL_law_878 rfl (lv_at hl 3 rfl) ?_
  refine lv_iconst (v := 2) cx.1 cx.2.1 dL_law_879 (by decide) ?_
  refine lv_iadd cx.1 cx.2.1 dL_law_880 ?_
  obtain ⟨ha344, hr⟩ := of_grd hr
  refine va_sld cx.1 cx.2.1 hX hbl hbA dy.2 ha344 dL_law_881 ?_
  obtain ⟨hv347, hr⟩ := of_grd hr
  obtain ⟨x346, g345, hc348, hr⟩ := of_bnd2 hr
  refine r_i dy (k_V (As := [.int (xs (x3 + (1 : Int32)).toNatClampNeg), .int (xs (x3 + (2 : Int32)).toNatClampNeg)]) (b := 70) (ci := 12) cx fx dy (c_X12_charged hc348) mv_X12_charged rfl rfl ⟨by decide, by decide⟩ tb_1329 hv347 rfl (by decide) rfl hl.1 rfl (Nat.le_of_ble_eq_true rfl) ⟨Nat.le_trans (Nat.le_add_right c0 1) hcap.1, Nat.le_trans (Nat.le_add_right s0 6) hcap.2⟩ dL_law_882) (fun H locs dy => ?_)
  rcases of_brn hr with ⟨hc, hr⟩ | ⟨hc, hr⟩
  · refine lv_icmp_eq (tgt := 1052) cx.1 cx.2.1 dL_law_885 (by decide) (fun _ => ?_) (fun hn => absurd hc hn)
    obtain ⟨x349, ex349, hr⟩ := of_nm hr
    refine lv_iinc (v := x349) (lv' := [(3, .int x349), (0, .ref b), (1, .ref (ad 0)), (2, .ref (ad 70))]) cx.1 cx.2.1 dL_law_1052 hl (k := 3) rfl (by rw [ex349]; rfl) (by decide) rfl (fun ls hl => ?_)
    refine lv_goto (tgt := 18) cx.1 cx.2.1 dL_law_1055 (by decide) ?_
    refine W.widen (k := c0 + 1) (n := s0 + 6) (by omega) (by omega) ?_
    exact hh0 x349 V g345 (Option.some.inj hr).symm ad H locs ls dy (lv_sub hl [1, 2, 3, 0] rfl)
  · refine lv_icmp_eq (tgt := 1052) cx.1 cx.2.1 dL_law_885 (by decide) (fun hn => absurd hn hc) (fun _ => ?_)
    refine lv_iconst (v := 0) cx.1 cx.2.1 dL_law_888 (by decide) ?_
    exact absurd (hq0 _ (Option.some.inj hr).symm) (by decide)
noncomputable def r_L_890 (xs : Nat → Int32) (L : Nat) (x3 : Int32) (V : Vk) (g : Hq) : Option ((Int32 × Vk × Hq) ⊕ Int32) :=
  grd (V 0 = some (11, 0)) <| bnd (r_X11_morning V 0 g) fun x352 g351 => grd (V 70 = some (12, 0)) <| bnd (r_X12_morning V 70 g351) fun x356 g355 => brn (x352 = x356) (nm (x3 + (6 : Int32)) fun x359 => some (.inl (x359, V, g355))) (some (.inr (0 : Int32)))
set_option maxHeartbeats 4000000 in
set_option maxRecDepth 100000 in
theorem w_L_890 {p : Program} {l : Launch} {e : Env} {s : State} {m : MethodId} {below : List Frame} {meth : Method} {c : Code} {D : va_G} {cA : Nat → ClassId} {sk : (Nat → Nat) × (Nat → Nat)} {A : Nat → Prop} {b L : Nat} {xs : Nat → Int32} (cx : CallFix p m c cL_law 4 s #[Value.ref b] gw_tbl RL) (fx : Fx D cA sk A s) (hX : va_X b L xs s s.heap) (hbl : b < s.heap.size) (hbA : ¬ A b) (hret : meth.sig.returnType = ret) (hlocks : meth.locks = false) (hAf : ∀ q, A q → s.heap.size ≤ q) (z : (Int32 × Vk × Hq) ⊕ Int32) {c0 s0 : Nat} (hh0 : ∀ (xb : Int32) (Vb : Vk) (gb : Hq), z = .inl (xb, Vb, gb) → ∀ (ad : Nat → Nat) (H : Heap) (locs : List Loc) (ls : Array Slot), Dy D cA ad (Vb, gb) A s.heap H locs → lv_has ls 4 [(0, .ref b), (1, .ref (ad 0)), (2, .ref (ad 70)), (3, .int xb)] → W p l e room_1 s m #[Value.ref b] below meth c H locs (c0 + 1) (s0 + 6) (lw_Z below #[Value.ref b] s) (F0 m 18 ls [])) (hq0 : ∀ b : Int32, z = .inr b → b = 1) (x3 : Int32) (V : Vk) (g : Hq) (hr : r_L_890 xs L x3 V g = some z) (hcap : c0 + 1 ≤ room_1.cells ∧ s0 + 6 ≤ room_1.slots) (ad : Nat → Nat) (H : Heap) (locs : List Loc) (ls : Array Slot) (dy : Dy D cA ad (V, g) A s.heap H locs) (hl : lv_has ls 4 [(0, .ref b), (1, .ref (ad 0)), (2, .ref (ad 70)), (3, .int x3)]) : W p l e room_1 s m #[Value.ref b] below meth c H locs c0 s0 (lw_Z below #[Value.ref b] s) (F0 m 890 ls []) := by
  unfold r_L_890 at hr
  refine lv_aload_n cx.1 cx.2.1 dL_law_890 rfl (lv_at hl 1 rfl) ?_
  obtain ⟨hv353, hr⟩ := of_grd hr
  obtain ⟨x352, g351, hc354, hr⟩ := of_bnd2 hr
  refine r_i dy (k_V (As := []) (b := 0) (ci := 11) cx fx dy (c_X11_morning hc354) mv_X11_morning rfl rfl ⟨by decide, by decide⟩ tb_903 hv353 rfl (by decide) rfl hl.1 rfl (Nat.le_of_ble_eq_true rfl) ⟨Nat.le_trans (Nat.le_add_right c0 1) hcap.1, Nat.le_trans (Nat.le_add_right s0 6) hcap.2⟩ dL_law_891) (fun H locs dy => ?_)
  refine lv_aload_n cx.1 cx.2.1 dL_law_894 rfl (lv_at hl 2 rfl) ?_
  obtain ⟨hv357, hr⟩ := of_grd hr
  obtain ⟨x356, g355, hc358, hr⟩ := of_bnd2 hr
  refine r_i dy (k_V (As := []) (b := 70) (ci := 12) cx fx dy (c_X12_morning hc358) mv_X12_morning rfl rfl ⟨by decide, by decide⟩ tb_1333 hv357 rfl (by decide) rfl hl.1 rfl (Nat.le_of_ble_eq_true rfl) ⟨Nat.le_trans (Nat.le_add_right c0 1) hcap.1, Nat.le_trans (Nat.le_add_right s0 6) hcap.2⟩ dL_law_895) (fun H locs dy => ?_)
  rcases of_brn hr with ⟨hc, hr⟩ | ⟨hc, hr⟩
  · refine lv_icmp_eq (tgt := 1052) cx.1 cx.2.1 dL_law_898 (by decide) (fun _ => ?_) (fun hn => absurd hc hn)
    obtain ⟨x359, ex359, hr⟩ := of_nm hr
    refine lv_iinc (v := x359) (lv' := [(3, .int x359), (0, .ref b), (1, .ref (ad 0)), (2, .ref (ad 70))]) cx.1 cx.2.1 dL_law_1052 hl (k := 3) rfl (by rw [ex359]; rfl) (by decide) rfl (fun ls hl => ?_)
    refine lv_goto (tgt := 18) cx.1 cx.2.1 dL_law_1055 (by decide) ?_
    refine W.widen (k := c0 + 1) (n := s0 + 6) (by omega) (by omega) ?_
    exact hh0 x359 V g355 (Option.some.inj hr).symm ad H locs ls dy (lv_sub hl [1, 2, 3, 0] rfl)
  · refine lv_icmp_eq (tgt := 1052) cx.1 cx.2.1 dL_law_898 (by decide) (fun hn => absurd hn hc) (fun _ => ?_)
    refine lv_iconst (v := 0) cx.1 cx.2.1 dL_law_901 (by decide) ?_
    exact absurd (hq0 _ (Option.some.inj hr).symm) (by decide)
noncomputable def r_L_903 (xs : Nat → Int32) (L : Nat) (x3 : Int32) (V : Vk) (g : Hq) : Option ((Int32 × Vk × Hq) ⊕ Int32) :=
  grd (vp_in (x3 + (1 : Int32)) L) <| brn ((xs (x3 + (1 : Int32)).toNatClampNeg) = 0) (grd (V 0 = some (11, 0)) <| bnd (r_X11_flee V 0 (0 : Int32) g) fun x363 g362 => grd (vp_in (x3 + (1 : Int32)) L) <| brn ((xs (x3 + (1 : Int32)).toNatClampNeg) = 0) (grd (V 70 = some (12, 0)) <| bnd (r_X12_flee V 70 (0 : Int32) g362) fun x368 g367 => brn (x363 = x368) (nm (x3 + (6 : Int32)) fun x371 => some (.inl (x371, V, g367))) (some (.inr (0 : Int32)))) (grd (V 70 = some (12, 0)) <| bnd (r_X12_flee V 70 (1 : Int32) g362) fun x373 g372 => brn (x363 = x373) (nm (x3 + (6 : Int32)) fun x376 => some (.inl (x376, V, g372))) (some (.inr (0 : Int32))))) (grd (V 0 = some (11, 0)) <| bnd (r_X11_flee V 0 (1 : Int32) g) fun x378 g377 => grd (vp_in (x3 + (1 : Int32)) L) <| brn ((xs (x3 + (1 : Int32)).toNatClampNeg) = 0) (grd (V 70 = some (12, 0)) <| bnd (r_X12_flee V 70 (0 : Int32) g377) fun x383 g382 => brn (x378 = x383) (nm (x3 + (6 : Int32)) fun x386 => some (.inl (x386, V, g382))) (some (.inr (0 : Int32)))) (grd (V 70 = some (12, 0)) <| bnd (r_X12_flee V 70 (1 : Int32) g377) fun x388 g387 => brn (x378 = x388) (nm (x3 + (6 : Int32)) fun x391 => some (.inl (x391, V, g387))) (some (.inr (0 : Int32)))))
set_option maxHeartbeats 4000000 in
set_option maxRecDepth 100000 in
theorem w_L_903 {p : Program} {l : Launch} {e : Env} {s : State} {m : MethodId} {below : List Frame} {meth : Method} {c : Code} {D : va_G} {cA : Nat → ClassId} {sk : (Nat → Nat) × (Nat → Nat)} {A : Nat → Prop} {b L : Nat} {xs : Nat → Int32} (cx : CallFix p m c cL_law 4 s #[Value.ref b] gw_tbl RL) (fx : Fx D cA sk A s) (hX : va_X b L xs s s.heap) (hbl : b < s.heap.size) (hbA : ¬ A b) (hret : meth.sig.returnType = ret) (hlocks : meth.locks = false) (hAf : ∀ q, A q → s.heap.size ≤ q) (z : (Int32 × Vk × Hq) ⊕ Int32) {c0 s0 : Nat} (hh0 : ∀ (xb : Int32) (Vb : Vk) (gb : Hq), z = .inl (xb, Vb, gb) → ∀ (ad : Nat → Nat) (H : Heap) (locs : List Loc) (ls : Array Slot), Dy D cA ad (Vb, gb) A s.heap H locs → lv_has ls 4 [(0, .ref b), (1, .ref (ad 0)), (2, .ref (ad 70)), (3, .int xb)] → W p l e room_1 s m #[Value.ref b] below meth c H locs (c0 + 1) (s0 + 6) (lw_Z below #[Value.ref b] s) (F0 m 18 ls [])) (hq0 : ∀ b : Int32, z = .inr b → b = 1) (x3 : Int32) (V : Vk) (g : Hq) (hr : r_L_903 xs L x3 V g = some z) (hcap : c0 + 1 ≤ room_1.cells ∧ s0 + 6 ≤ room_1.slots) (ad : Nat → Nat) (H : Heap) (locs : List Loc) (ls : Array Slot) (dy : Dy D cA ad (V, g) A s.heap H locs) (hl : lv_has ls 4 [(0, .ref b), (1, .ref (ad 0)), (2, .ref (ad 70)), (3, .int x3)]) : W p l e room_1 s m #[Value.ref b] below meth c H locs c0 s0 (lw_Z below #[Value.ref b] s) (F0 m 903 ls []) := by
  unfold r_L_903 at hr
  refine lv_aload_n cx.1 cx.2.1 dL_law_903 rfl (lv_at hl 1 rfl) ?_
  refine lv_aload_n cx.1 cx.2.1 dL_law_904 rfl (lv_at hl 0 rfl) ?_
  refine lv_iload_n cx.1 cx.2.1 dL_law_905 rfl (lv_at hl 3 rfl) ?_
  refine lv_iconst (v := 1) cx.1 cx.2.1 dL_law_906 (by decide) ?_
  refine lv_iadd cx.1 cx.2.1 dL_law_907 ?_
  obtain ⟨ha361, hr⟩ := of_grd hr
  refine va_sld cx.1 cx.2.1 hX hbl hbA dy.2 ha361 dL_law_908 ?_
  rcases of_brn hr with ⟨hc, hr⟩ | ⟨hc, hr⟩
  · refine lv_if_eq (tgt := 916) cx.1 cx.2.1 dL_law_909 (by decide) (fun _ => ?_) (fun hn => absurd hc hn)
    refine lv_iconst (v := 0) cx.1 cx.2.1 dL_law_916 (by decide) ?_
    obtain ⟨hv364, hr⟩ := of_grd hr
    obtain ⟨x363, g362, hc365, hr⟩ := of_bnd2 hr
    refine r_i dy (k_V (As := [.int (0 : Int32)]) (b := 0) (ci := 11) cx fx dy (c_X11_flee hc365) mv_X11_flee rfl rfl ⟨by decide, by decide⟩ tb_911 hv364 rfl (by decide) rfl hl.1 rfl (Nat.le_of_ble_eq_true rfl) ⟨Nat.le_trans (Nat.le_add_right c0 1) hcap.1, Nat.le_trans (Nat.le_add_right s0 6) hcap.2⟩ dL_law_917) (fun H locs dy => ?_)
    refine lv_aload_n cx.1 cx.2.1 dL_law_920 rfl (lv_at hl 2 rfl) ?_
    refine lv_aload_n cx.1 cx.2.1 dL_law_921 rfl (lv_at hl 0 rfl) ?_
    refine lv_iload_n cx.1 cx.2.1 dL_law_922 rfl (lv_at hl 3 rfl) ?_
    refine lv_iconst (v := 1) cx.1 cx.2.1 dL_law_923 (by decide) ?_
    refine lv_iadd cx.1 cx.2.1 dL_law_924 ?_
    obtain ⟨ha366, hr⟩ := of_grd hr
    refine va_sld cx.1 cx.2.1 hX hbl hbA dy.2 ha366 dL_law_925 ?_
    rcases of_brn hr with ⟨hc, hr⟩ | ⟨hc, hr⟩
    · refine lv_if_eq (tgt := 933) cx.1 cx.2.1 dL_law_926 (by decide) (fun _ => ?_) (fun hn => absurd hc hn)
      refine lv_iconst (v := 0) cx.1 cx.2.1 dL_law_933 (by decide) ?_
      obtain ⟨hv369, hr⟩ := of_grd hr
      obtain ⟨x368, g367, hc370, hr⟩ := of_bnd2 hr
      refine r_i dy (k_V (As := [.int (0 : Int32)]) (b := 70) (ci := 12) cx fx dy (c_X12_flee hc370) mv_X12_flee rfl rfl ⟨by decide, by decide⟩ tb_1337 hv369 rfl (by decide) rfl hl.1 rfl (Nat.le_of_ble_eq_true rfl) ⟨Nat.le_trans (Nat.le_add_right c0 1) hcap.1, Nat.le_trans (Nat.le_add_right s0 6) hcap.2⟩ dL_law_934) (fun H locs dy => ?_)
      rcases of_brn hr with ⟨hc, hr⟩ | ⟨hc, hr⟩
      · refine lv_icmp_eq (tgt := 1052) cx.1 cx.2.1 dL_law_937 (by decide) (fun _ => ?_) (fun hn => absurd hc hn)
        obtain ⟨x371, ex371, hr⟩ := of_nm hr
        refine lv_iinc (v := x371) (lv' := [(3, .int x371), (0, .ref b), (1, .ref (ad 0)), (2, .ref (ad 70))]) cx.1 cx.2.1 dL_law_1052 hl (k := 3) rfl (by rw [ex371]; rfl) (by decide) rfl (fun ls hl => ?_)
        refine lv_goto (tgt := 18) cx.1 cx.2.1 dL_law_1055 (by decide) ?_
        refine W.widen (k := c0 + 1) (n := s0 + 6) (by omega) (by omega) ?_
        exact hh0 x371 V g367 (Option.some.inj hr).symm ad H locs ls dy (lv_sub hl [1, 2, 3, 0] rfl)
      · refine lv_icmp_eq (tgt := 1052) cx.1 cx.2.1 dL_law_937 (by decide) (fun hn => absurd hn hc) (fun _ => ?_)
        refine lv_iconst (v := 0) cx.1 cx.2.1 dL_law_940 (by decide) ?_
        exact absurd (hq0 _ (Option.some.inj hr).symm) (by decide)
    · refine lv_if_eq (tgt := 933) cx.1 cx.2.1 dL_law_926 (by decide) (fun hn => absurd hn hc) (fun _ => ?_)
      refine lv_iconst (v := 1) cx.1 cx.2.1 dL_law_929 (by decide) ?_
      refine lv_goto (tgt := 934) cx.1 cx.2.1 dL_law_930 (by decide) ?_
      obtain ⟨hv374, hr⟩ := of_grd hr
      obtain ⟨x373, g372, hc375, hr⟩ := of_bnd2 hr
      refine r_i dy (k_V (As := [.int (1 : Int32)]) (b := 70) (ci := 12) cx fx dy (c_X12_flee hc375) mv_X12_flee rfl rfl ⟨by decide, by decide⟩ tb_1337 hv374 rfl (by decide) rfl hl.1 rfl (Nat.le_of_ble_eq_true rfl) ⟨Nat.le_trans (Nat.le_add_right c0 1) hcap.1, Nat.le_trans (Nat.le_add_right s0 6) hcap.2⟩ dL_law_934) (fun H locs dy => ?_)
      rcases of_brn hr with ⟨hc, hr⟩ | ⟨hc, hr⟩
      · refine lv_icmp_eq (tgt := 1052) cx.1 cx.2.1 dL_law_937 (by decide) (fun _ => ?_) (fun hn => absurd hc hn)
        obtain ⟨x376, ex376, hr⟩ := of_nm hr
        refine lv_iinc (v := x376) (lv' := [(3, .int x376), (0, .ref b), (1, .ref (ad 0)), (2, .ref (ad 70))]) cx.1 cx.2.1 dL_law_1052 hl (k := 3) rfl (by rw [ex376]; rfl) (by decide) rfl (fun ls hl => ?_)
        refine lv_goto (tgt := 18) cx.1 cx.2.1 dL_law_1055 (by decide) ?_
        refine W.widen (k := c0 + 1) (n := s0 + 6) (by omega) (by omega) ?_
        exact hh0 x376 V g372 (Option.some.inj hr).symm ad H locs ls dy (lv_sub hl [1, 2, 3, 0] rfl)
      · refine lv_icmp_eq (tgt := 1052) cx.1 cx.2.1 dL_law_937 (by decide) (fun hn => absurd hn hc) (fun _ => ?_)
        refine lv_iconst (v := 0) cx.1 cx.2.1 dL_law_940 (by decide) ?_
        exact absurd (hq0 _ (Option.some.inj hr).symm) (by decide)
  · refine lv_if_eq (tgt := 916) cx.1 cx.2.1 dL_law_909 (by decide) (fun hn => absurd hn hc) (fun _ => ?_)
    refine lv_iconst (v := 1) cx.1 cx.2.1 dL_law_912 (by decide) ?_
    refine lv_goto (tgt := 917) cx.1 cx.2.1 dL_law_913 (by decide) ?_
    obtain ⟨hv379, hr⟩ := of_grd hr
    obtain ⟨x378, g377, hc380, hr⟩ := of_bnd2 hr
    refine r_i dy (k_V (As := [.int (1 : Int32)]) (b := 0) (ci := 11) cx fx dy (c_X11_flee hc380) mv_X11_flee rfl rfl ⟨by decide, by decide⟩ tb_911 hv379 rfl (by decide) rfl hl.1 rfl (Nat.le_of_ble_eq_true rfl) ⟨Nat.le_trans (Nat.le_add_right c0 1) hcap.1, Nat.le_trans (Nat.le_add_right s0 6) hcap.2⟩ dL_law_917) (fun H locs dy => ?_)
    refine lv_aload_n cx.1 cx.2.1 dL_law_920 rfl (lv_at hl 2 rfl) ?_
    refine lv_aload_n cx.1 cx.2.1 dL_law_921 rfl (lv_at hl 0 rfl) ?_
    refine lv_iload_n cx.1 cx.2.1 dL_law_922 rfl (lv_at hl 3 rfl) ?_
    refine lv_iconst (v := 1) cx.1 cx.2.1 dL_law_923 (by decide) ?_
    refine lv_iadd cx.1 cx.2.1 dL_law_924 ?_
    obtain ⟨ha381, hr⟩ := of_grd hr
    refine va_sld cx.1 cx.2.1 hX hbl hbA dy.2 ha381 dL_law_925 ?_
    rcases of_brn hr with ⟨hc, hr⟩ | ⟨hc, hr⟩
    · refine lv_if_eq (tgt := 933) cx.1 cx.2.1 dL_law_926 (by decide) (fun _ => ?_) (fun hn => absurd hc hn)
      refine lv_iconst (v := 0) cx.1 cx.2.1 dL_law_933 (by decide) ?_
      obtain ⟨hv384, hr⟩ := of_grd hr
      obtain ⟨x383, g382, hc385, hr⟩ := of_bnd2 hr
      refine r_i dy (k_V (As := [.int (0 : Int32)]) (b := 70) (ci := 12) cx fx dy (c_X12_flee hc385) mv_X12_flee rfl rfl ⟨by decide, by decide⟩ tb_1337 hv384 rfl (by decide) rfl hl.1 rfl (Nat.le_of_ble_eq_true rfl) ⟨Nat.le_trans (Nat.le_add_right c0 1) hcap.1, Nat.le_trans (Nat.le_add_right s0 6) hcap.2⟩ dL_law_934) (fun H locs dy => ?_)
      rcases of_brn hr with ⟨hc, hr⟩ | ⟨hc, hr⟩
      · refine lv_icmp_eq (tgt := 1052) cx.1 cx.2.1 dL_law_937 (by decide) (fun _ => ?_) (fun hn => absurd hc hn)
        obtain ⟨x386, ex386, hr⟩ := of_nm hr
        refine lv_iinc (v := x386) (lv' := [(3, .int x386), (0, .ref b), (1, .ref (ad 0)), (2, .ref (ad 70))]) cx.1 cx.2.1 dL_law_1052 hl (k := 3) rfl (by rw [ex386]; rfl) (by decide) rfl (fun ls hl => ?_)
        refine lv_goto (tgt := 18) cx.1 cx.2.1 dL_law_1055 (by decide) ?_
        refine W.widen (k := c0 + 1) (n := s0 + 6) (by omega) (by omega) ?_
        exact hh0 x386 V g382 (Option.some.inj hr).symm ad H locs ls dy (lv_sub hl [1, 2, 3, 0] rfl)
      · refine lv_icmp_eq (tgt := 1052) cx.1 cx.2.1 dL_law_937 (by decide) (fun hn => absurd hn hc) (fun _ => ?_)
        refine lv_iconst (v := 0) cx.1 cx.2.1 dL_law_940 (by decide) ?_
        exact absurd (hq0 _ (Option.some.inj hr).symm) (by decide)
    · refine lv_if_eq (tgt := 933) cx.1 cx.2.1 dL_law_926 (by decide) (fun hn => absurd hn hc) (fun _ => ?_)
      refine lv_iconst (v := 1) cx.1 cx.2.1 dL_law_929 (by decide) ?_
      refine lv_goto (tgt := 934) cx.1 cx.2.1 dL_law_930 (by decide) ?_
      obtain ⟨hv389, hr⟩ := of_grd hr
      obtain ⟨x388, g387, hc390, hr⟩ := of_bnd2 hr
      refine r_i dy (k_V (As := [.int (1 : Int32)]) (b := 70) (ci := 12) cx fx dy (c_X12_flee hc390) mv_X12_flee rfl rfl ⟨by decide, by decide⟩ tb_1337 hv389 rfl (by decide) rfl hl.1 rfl (Nat.le_of_ble_eq_true rfl) ⟨Nat.le_trans (Nat.le_add_right c0 1) hcap.1, Nat.le_trans (Nat.le_add_right s0 6) hcap.2⟩ dL_law_934) (fun H locs dy => ?_)
      rcases of_brn hr with ⟨hc, hr⟩ | ⟨hc, hr⟩
      · refine lv_icmp_eq (tgt := 1052) cx.1 cx.2.1 dL_law_937 (by decide) (fun _ => ?_) (fun hn => absurd hc hn)
        obtain ⟨x391, ex391, hr⟩ := of_nm hr
        refine lv_iinc (v := x391) (lv' := [(3, .int x391), (0, .ref b), (1, .ref (ad 0)), (2, .ref (ad 70))]) cx.1 cx.2.1 dL_law_1052 hl (k := 3) rfl (by rw [ex391]; rfl) (by decide) rfl (fun ls hl => ?_)
        refine lv_goto (tgt := 18) cx.1 cx.2.1 dL_law_1055 (by decide) ?_
        refine W.widen (k := c0 + 1) (n := s0 + 6) (by omega) (by omega) ?_
        exact hh0 x391 V g387 (Option.some.inj hr).symm ad H locs ls dy (lv_sub hl [1, 2, 3, 0] rfl)
      · refine lv_icmp_eq (tgt := 1052) cx.1 cx.2.1 dL_law_937 (by decide) (fun hn => absurd hn hc) (fun _ => ?_)
        refine lv_iconst (v := 0) cx.1 cx.2.1 dL_law_940 (by decide) ?_
        exact absurd (hq0 _ (Option.some.inj hr).symm) (by decide)
noncomputable def r_L_942 (xs : Nat → Int32) (L : Nat) (x3 : Int32) (V : Vk) (g : Hq) : Option ((Int32 × Vk × Hq) ⊕ Int32) :=
  grd (vp_in (x3 + (1 : Int32)) L) <| grd (V 0 = some (11, 0)) <| bnd (r_X11_fled V 0 (xs (x3 + (1 : Int32)).toNatClampNeg) g) fun x395 g394 => grd (vp_in (x3 + (1 : Int32)) L) <| grd (V 70 = some (12, 0)) <| bnd (r_X12_fled V 70 (xs (x3 + (1 : Int32)).toNatClampNeg) g394) fun x400 g399 => brn (x395 = x400) (nm (x3 + (6 : Int32)) fun x403 => some (.inl (x403, V, g399))) (some (.inr (0 : Int32)))
set_option maxHeartbeats 4000000 in
set_option maxRecDepth 100000 in
theorem w_L_942 {p : Program} {l : Launch} {e : Env} {s : State} {m : MethodId} {below : List Frame} {meth : Method} {c : Code} {D : va_G} {cA : Nat → ClassId} {sk : (Nat → Nat) × (Nat → Nat)} {A : Nat → Prop} {b L : Nat} {xs : Nat → Int32} (cx : CallFix p m c cL_law 4 s #[Value.ref b] gw_tbl RL) (fx : Fx D cA sk A s) (hX : va_X b L xs s s.heap) (hbl : b < s.heap.size) (hbA : ¬ A b) (hret : meth.sig.returnType = ret) (hlocks : meth.locks = false) (hAf : ∀ q, A q → s.heap.size ≤ q) (z : (Int32 × Vk × Hq) ⊕ Int32) {c0 s0 : Nat} (hh0 : ∀ (xb : Int32) (Vb : Vk) (gb : Hq), z = .inl (xb, Vb, gb) → ∀ (ad : Nat → Nat) (H : Heap) (locs : List Loc) (ls : Array Slot), Dy D cA ad (Vb, gb) A s.heap H locs → lv_has ls 4 [(0, .ref b), (1, .ref (ad 0)), (2, .ref (ad 70)), (3, .int xb)] → W p l e room_1 s m #[Value.ref b] below meth c H locs (c0 + 1) (s0 + 6) (lw_Z below #[Value.ref b] s) (F0 m 18 ls [])) (hq0 : ∀ b : Int32, z = .inr b → b = 1) (x3 : Int32) (V : Vk) (g : Hq) (hr : r_L_942 xs L x3 V g = some z) (hcap : c0 + 1 ≤ room_1.cells ∧ s0 + 6 ≤ room_1.slots) (ad : Nat → Nat) (H : Heap) (locs : List Loc) (ls : Array Slot) (dy : Dy D cA ad (V, g) A s.heap H locs) (hl : lv_has ls 4 [(0, .ref b), (1, .ref (ad 0)), (2, .ref (ad 70)), (3, .int x3)]) : W p l e room_1 s m #[Value.ref b] below meth c H locs c0 s0 (lw_Z below #[Value.ref b] s) (F0 m 942 ls []) := by
  unfold r_L_942 at hr
  refine lv_aload_n cx.1 cx.2.1 dL_law_942 rfl (lv_at hl 1 rfl) ?_
  refine lv_aload_n cx.1 cx.2.1 dL_law_943 rfl (lv_at hl 0 rfl) ?_
  refine lv_iload_n cx.1 cx.2.1 dL_law_944 rfl (lv_at hl 3 rfl) ?_
  refine lv_iconst (v := 1) cx.1 cx.2.1 dL_law_945 (by decide) ?_
  refine lv_iadd cx.1 cx.2.1 dL_law_946 ?_
  obtain ⟨ha393, hr⟩ := of_grd hr
  refine va_sld cx.1 cx.2.1 hX hbl hbA dy.2 ha393 dL_law_947 ?_
  obtain ⟨hv396, hr⟩ := of_grd hr
  obtain ⟨x395, g394, hc397, hr⟩ := of_bnd2 hr
  refine r_i dy (k_V (As := [.int (xs (x3 + (1 : Int32)).toNatClampNeg)]) (b := 0) (ci := 11) cx fx dy (c_X11_fled hc397) mv_X11_fled rfl rfl ⟨by decide, by decide⟩ tb_933 hv396 rfl (by decide) rfl hl.1 rfl (Nat.le_of_ble_eq_true rfl) ⟨Nat.le_trans (Nat.le_add_right c0 1) hcap.1, Nat.le_trans (Nat.le_add_right s0 6) hcap.2⟩ dL_law_948) (fun H locs dy => ?_)
  refine lv_aload_n cx.1 cx.2.1 dL_law_951 rfl (lv_at hl 2 rfl) ?_
  refine lv_aload_n cx.1 cx.2.1 dL_law_952 rfl (lv_at hl 0 rfl) ?_
  refine lv_iload_n cx.1 cx.2.1 dL_law_953 rfl (lv_at hl 3 rfl) ?_
  refine lv_iconst (v := 1) cx.1 cx.2.1 dL_law_954 (by decide) ?_
  refine lv_iadd cx.1 cx.2.1 dL_law_955 ?_
  obtain ⟨ha398, hr⟩ := of_grd hr
  refine va_sld cx.1 cx.2.1 hX hbl hbA dy.2 ha398 dL_law_956 ?_
  obtain ⟨hv401, hr⟩ := of_grd hr
  obtain ⟨x400, g399, hc402, hr⟩ := of_bnd2 hr
  refine r_i dy (k_V (As := [.int (xs (x3 + (1 : Int32)).toNatClampNeg)]) (b := 70) (ci := 12) cx fx dy (c_X12_fled hc402) mv_X12_fled rfl rfl ⟨by decide, by decide⟩ tb_1341 hv401 rfl (by decide) rfl hl.1 rfl (Nat.le_of_ble_eq_true rfl) ⟨Nat.le_trans (Nat.le_add_right c0 1) hcap.1, Nat.le_trans (Nat.le_add_right s0 6) hcap.2⟩ dL_law_957) (fun H locs dy => ?_)
  rcases of_brn hr with ⟨hc, hr⟩ | ⟨hc, hr⟩
  · refine lv_icmp_eq (tgt := 1052) cx.1 cx.2.1 dL_law_960 (by decide) (fun _ => ?_) (fun hn => absurd hc hn)
    obtain ⟨x403, ex403, hr⟩ := of_nm hr
    refine lv_iinc (v := x403) (lv' := [(3, .int x403), (0, .ref b), (1, .ref (ad 0)), (2, .ref (ad 70))]) cx.1 cx.2.1 dL_law_1052 hl (k := 3) rfl (by rw [ex403]; rfl) (by decide) rfl (fun ls hl => ?_)
    refine lv_goto (tgt := 18) cx.1 cx.2.1 dL_law_1055 (by decide) ?_
    refine W.widen (k := c0 + 1) (n := s0 + 6) (by omega) (by omega) ?_
    exact hh0 x403 V g399 (Option.some.inj hr).symm ad H locs ls dy (lv_sub hl [1, 2, 3, 0] rfl)
  · refine lv_icmp_eq (tgt := 1052) cx.1 cx.2.1 dL_law_960 (by decide) (fun hn => absurd hn hc) (fun _ => ?_)
    refine lv_iconst (v := 0) cx.1 cx.2.1 dL_law_963 (by decide) ?_
    exact absurd (hq0 _ (Option.some.inj hr).symm) (by decide)
noncomputable def r_L_965 (xs : Nat → Int32) (L : Nat) (x3 : Int32) (V : Vk) (g : Hq) : Option ((Int32 × Vk × Hq) ⊕ Int32) :=
  grd (vp_in (x3 + (1 : Int32)) L) <| grd (vp_in (x3 + (2 : Int32)) L) <| grd (vp_in (x3 + (3 : Int32)) L) <| grd (vp_in (x3 + (4 : Int32)) L) <| grd (vp_in (x3 + (5 : Int32)) L) <| grd (V 0 = some (11, 0)) <| bnd (r_X11_doubt V 0 (xs (x3 + (1 : Int32)).toNatClampNeg) (xs (x3 + (2 : Int32)).toNatClampNeg) (xs (x3 + (3 : Int32)).toNatClampNeg) (xs (x3 + (4 : Int32)).toNatClampNeg) (xs (x3 + (5 : Int32)).toNatClampNeg) g) fun y411 g410 => grd (vp_in (x3 + (1 : Int32)) L) <| grd (vp_in (x3 + (2 : Int32)) L) <| grd (vp_in (x3 + (3 : Int32)) L) <| grd (vp_in (x3 + (4 : Int32)) L) <| grd (vp_in (x3 + (5 : Int32)) L) <| grd (V 70 = some (12, 0)) <| bnd (r_X12_doubt V 70 (xs (x3 + (1 : Int32)).toNatClampNeg) (xs (x3 + (2 : Int32)).toNatClampNeg) (xs (x3 + (3 : Int32)).toNatClampNeg) (xs (x3 + (4 : Int32)).toNatClampNeg) (xs (x3 + (5 : Int32)).toNatClampNeg) g410) fun y420 g419 => brn ((lg_cmp y411 y420) = 0) (nm (x3 + (6 : Int32)) fun x423 => some (.inl (x423, V, g419))) (some (.inr (0 : Int32)))
set_option maxHeartbeats 4000000 in
set_option maxRecDepth 100000 in
theorem w_L_965 {p : Program} {l : Launch} {e : Env} {s : State} {m : MethodId} {below : List Frame} {meth : Method} {c : Code} {D : va_G} {cA : Nat → ClassId} {sk : (Nat → Nat) × (Nat → Nat)} {A : Nat → Prop} {b L : Nat} {xs : Nat → Int32} (cx : CallFix p m c cL_law 4 s #[Value.ref b] gw_tbl RL) (fx : Fx D cA sk A s) (hX : va_X b L xs s s.heap) (hbl : b < s.heap.size) (hbA : ¬ A b) (hret : meth.sig.returnType = ret) (hlocks : meth.locks = false) (hAf : ∀ q, A q → s.heap.size ≤ q) (z : (Int32 × Vk × Hq) ⊕ Int32) {c0 s0 : Nat} (hh0 : ∀ (xb : Int32) (Vb : Vk) (gb : Hq), z = .inl (xb, Vb, gb) → ∀ (ad : Nat → Nat) (H : Heap) (locs : List Loc) (ls : Array Slot), Dy D cA ad (Vb, gb) A s.heap H locs → lv_has ls 4 [(0, .ref b), (1, .ref (ad 0)), (2, .ref (ad 70)), (3, .int xb)] → W p l e room_1 s m #[Value.ref b] below meth c H locs (c0 + 1) (s0 + 6) (lw_Z below #[Value.ref b] s) (F0 m 18 ls [])) (hq0 : ∀ b : Int32, z = .inr b → b = 1) (x3 : Int32) (V : Vk) (g : Hq) (hr : r_L_965 xs L x3 V g = some z) (hcap : c0 + 1 ≤ room_1.cells ∧ s0 + 6 ≤ room_1.slots) (ad : Nat → Nat) (H : Heap) (locs : List Loc) (ls : Array Slot) (dy : Dy D cA ad (V, g) A s.heap H locs) (hl : lv_has ls 4 [(0, .ref b), (1, .ref (ad 0)), (2, .ref (ad 70)), (3, .int x3)]) : W p l e room_1 s m #[Value.ref b] below meth c H locs c0 s0 (lw_Z below #[Value.ref b] s) (F0 m 965 ls []) := by
  unfold r_L_965 at hr
  refine lv_aload_n cx.1 cx.2.1 dL_law_965 rfl (lv_at hl 1 rfl) ?_
  refine lv_aload_n cx.1 cx.2.1 dL_law_966 rfl (lv_at hl 0 rfl) ?_
  refine lv_iload_n cx.1 cx.2.1 dL_law_967 rfl (lv_at hl 3 rfl) ?_
  refine lv_iconst (v := 1) cx.1 cx.2.1 dL_law_968 (by decide) ?_
  refine lv_iadd cx.1 cx.2.1 dL_law_969 ?_
  obtain ⟨ha405, hr⟩ := of_grd hr
  refine va_sld cx.1 cx.2.1 hX hbl hbA dy.2 ha405 dL_law_970 ?_
  refine lv_aload_n cx.1 cx.2.1 dL_law_971 rfl (lv_at hl 0 rfl) ?_
  refine lv_iload_n cx.1 cx.2.1 dL_law_972 rfl (lv_at hl 3 rfl) ?_
  refine lv_iconst (v := 2) cx.1 cx.2.1 dL_law_973 (by decide) ?_
  refine lv_iadd cx.1 cx.2.1 dL_law_974 ?_
  obtain ⟨ha406, hr⟩ := of_grd hr
  refine va_sld cx.1 cx.2.1 hX hbl hbA dy.2 ha406 dL_law_975 ?_
  refine lv_aload_n cx.1 cx.2.1 dL_law_976 rfl (lv_at hl 0 rfl) ?_
  refine lv_iload_n cx.1 cx.2.1 dL_law_977 rfl (lv_at hl 3 rfl) ?_
  refine lv_iconst (v := 3) cx.1 cx.2.1 dL_law_978 (by decide) ?_
  refine lv_iadd cx.1 cx.2.1 dL_law_979 ?_
  obtain ⟨ha407, hr⟩ := of_grd hr
  refine va_sld cx.1 cx.2.1 hX hbl hbA dy.2 ha407 dL_law_980 ?_
  refine lv_aload_n cx.1 cx.2.1 dL_law_981 rfl (lv_at hl 0 rfl) ?_
  refine lv_iload_n cx.1 cx.2.1 dL_law_982 rfl (lv_at hl 3 rfl) ?_
  refine lv_iconst (v := 4) cx.1 cx.2.1 dL_law_983 (by decide) ?_
  refine lv_iadd cx.1 cx.2.1 dL_law_984 ?_
  obtain ⟨ha408, hr⟩ := of_grd hr
  refine va_sld cx.1 cx.2.1 hX hbl hbA dy.2 ha408 dL_law_985 ?_
  refine lv_aload_n cx.1 cx.2.1 dL_law_986 rfl (lv_at hl 0 rfl) ?_
  refine lv_iload_n cx.1 cx.2.1 dL_law_987 rfl (lv_at hl 3 rfl) ?_
  refine lv_iconst (v := 5) cx.1 cx.2.1 dL_law_988 (by decide) ?_
  refine lv_iadd cx.1 cx.2.1 dL_law_989 ?_
  obtain ⟨ha409, hr⟩ := of_grd hr
  refine va_sld cx.1 cx.2.1 hX hbl hbA dy.2 ha409 dL_law_990 ?_
  obtain ⟨hv412, hr⟩ := of_grd hr
  obtain ⟨y411, g410, hc413, hr⟩ := of_bnd2 hr
  refine r_l dy (k_V (As := [.int (xs (x3 + (1 : Int32)).toNatClampNeg), .int (xs (x3 + (2 : Int32)).toNatClampNeg), .int (xs (x3 + (3 : Int32)).toNatClampNeg), .int (xs (x3 + (4 : Int32)).toNatClampNeg), .int (xs (x3 + (5 : Int32)).toNatClampNeg)]) (b := 0) (ci := 11) cx fx dy (c_X11_doubt hc413) mv_X11_doubt rfl rfl ⟨by decide, by decide⟩ tb_941 hv412 rfl (by decide) rfl hl.1 rfl (Nat.le_of_ble_eq_true rfl) ⟨Nat.le_trans (Nat.le_add_right c0 1) hcap.1, Nat.le_trans (Nat.le_add_right s0 6) hcap.2⟩ dL_law_991) (fun H locs dy => ?_)
  refine lv_aload_n cx.1 cx.2.1 dL_law_994 rfl (lv_at hl 2 rfl) ?_
  refine lv_aload_n cx.1 cx.2.1 dL_law_995 rfl (lv_at hl 0 rfl) ?_
  refine lv_iload_n cx.1 cx.2.1 dL_law_996 rfl (lv_at hl 3 rfl) ?_
  refine lv_iconst (v := 1) cx.1 cx.2.1 dL_law_997 (by decide) ?_
  refine lv_iadd cx.1 cx.2.1 dL_law_998 ?_
  obtain ⟨ha414, hr⟩ := of_grd hr
  refine va_sld cx.1 cx.2.1 hX hbl hbA dy.2 ha414 dL_law_999 ?_
  refine lv_aload_n cx.1 cx.2.1 dL_law_1000 rfl (lv_at hl 0 rfl) ?_
  refine lv_iload_n cx.1 cx.2.1 dL_law_1001 rfl (lv_at hl 3 rfl) ?_
  refine lv_iconst (v := 2) cx.1 cx.2.1 dL_law_1002 (by decide) ?_
  refine lv_iadd cx.1 cx.2.1 dL_law_1003 ?_
  obtain ⟨ha415, hr⟩ := of_grd hr
  refine va_sld cx.1 cx.2.1 hX hbl hbA dy.2 ha415 dL_law_1004 ?_
  refine lv_aload_n cx.1 cx.2.1 dL_law_1005 rfl (lv_at hl 0 rfl) ?_
  refine lv_iload_n cx.1 cx.2.1 dL_law_1006 rfl (lv_at hl 3 rfl) ?_
  refine lv_iconst (v := 3) cx.1 cx.2.1 dL_law_1007 (by decide) ?_
  refine lv_iadd cx.1 cx.2.1 dL_law_1008 ?_
  obtain ⟨ha416, hr⟩ := of_grd hr
  refine va_sld cx.1 cx.2.1 hX hbl hbA dy.2 ha416 dL_law_1009 ?_
  refine lv_aload_n cx.1 cx.2.1 dL_law_1010 rfl (lv_at hl 0 rfl) ?_
  refine lv_iload_n cx.1 cx.2.1 dL_law_1011 rfl (lv_at hl 3 rfl) ?_
  refine lv_iconst (v := 4) cx.1 cx.2.1 dL_law_1012 (by decide) ?_
  refine lv_iadd cx.1 cx.2.1 dL_law_1013 ?_
  obtain ⟨ha417, hr⟩ := of_grd hr
  refine va_sld cx.1 cx.2.1 hX hbl hbA dy.2 ha417 dL_law_1014 ?_
  refine lv_aload_n cx.1 cx.2.1 dL_law_1015 rfl (lv_at hl 0 rfl) ?_
  refine lv_iload_n cx.1 cx.2.1 dL_law_1016 rfl (lv_at hl 3 rfl) ?_
  refine lv_iconst (v := 5) cx.1 cx.2.1 dL_law_1017 (by decide) ?_
  refine lv_iadd cx.1 cx.2.1 dL_law_1018 ?_
  obtain ⟨ha418, hr⟩ := of_grd hr
  refine va_sld cx.1 cx.2.1 hX hbl hbA dy.2 ha418 dL_law_1019 ?_
  obtain ⟨hv421, hr⟩ := of_grd hr
  obtain ⟨y420, g419, hc422, hr⟩ := of_bnd2 hr
  refine r_l dy (k_V (As := [.int (xs (x3 + (1 : Int32)).toNatClampNeg), .int (xs (x3 + (2 : Int32)).toNatClampNeg), .int (xs (x3 + (3 : Int32)).toNatClampNeg), .int (xs (x3 + (4 : Int32)).toNatClampNeg), .int (xs (x3 + (5 : Int32)).toNatClampNeg)]) (b := 70) (ci := 12) cx fx dy (c_X12_doubt hc422) mv_X12_doubt rfl rfl ⟨by decide, by decide⟩ tb_1345 hv421 rfl (by decide) rfl hl.1 rfl (Nat.le_of_ble_eq_true rfl) ⟨Nat.le_trans (Nat.le_add_right c0 1) hcap.1, Nat.le_trans (Nat.le_add_right s0 6) hcap.2⟩ dL_law_1020) (fun H locs dy => ?_)
  refine W.lcmp cx.1 cx.2.1 dL_law_1023 ?_
  rcases of_brn hr with ⟨hc, hr⟩ | ⟨hc, hr⟩
  · refine lv_if_eq (tgt := 1052) cx.1 cx.2.1 dL_law_1024 (by decide) (fun _ => ?_) (fun hn => absurd hc hn)
    obtain ⟨x423, ex423, hr⟩ := of_nm hr
    refine lv_iinc (v := x423) (lv' := [(3, .int x423), (0, .ref b), (1, .ref (ad 0)), (2, .ref (ad 70))]) cx.1 cx.2.1 dL_law_1052 hl (k := 3) rfl (by rw [ex423]; rfl) (by decide) rfl (fun ls hl => ?_)
    refine lv_goto (tgt := 18) cx.1 cx.2.1 dL_law_1055 (by decide) ?_
    refine W.widen (k := c0 + 1) (n := s0 + 6) (by omega) (by omega) ?_
    exact hh0 x423 V g419 (Option.some.inj hr).symm ad H locs ls dy (lv_sub hl [1, 2, 3, 0] rfl)
  · refine lv_if_eq (tgt := 1052) cx.1 cx.2.1 dL_law_1024 (by decide) (fun hn => absurd hn hc) (fun _ => ?_)
    refine lv_iconst (v := 0) cx.1 cx.2.1 dL_law_1027 (by decide) ?_
    exact absurd (hq0 _ (Option.some.inj hr).symm) (by decide)
noncomputable def r_L_1029 (xs : Nat → Int32) (L : Nat) (x3 : Int32) (V : Vk) (g : Hq) : Option ((Int32 × Vk × Hq) ⊕ Int32) :=
  grd (vp_in (x3 + (1 : Int32)) L) <| grd (V 0 = some (11, 0)) <| bnd (r_X11_count V 0 (xs (x3 + (1 : Int32)).toNatClampNeg) g) fun x427 g426 => grd (vp_in (x3 + (1 : Int32)) L) <| grd (V 70 = some (12, 0)) <| bnd (r_X12_count V 70 (xs (x3 + (1 : Int32)).toNatClampNeg) g426) fun x432 g431 => brn (x427 = x432) (nm (x3 + (6 : Int32)) fun x435 => some (.inl (x435, V, g431))) (some (.inr (0 : Int32)))
set_option maxHeartbeats 4000000 in
set_option maxRecDepth 100000 in
theorem w_L_1029 {p : Program} {l : Launch} {e : Env} {s : State} {m : MethodId} {below : List Frame} {meth : Method} {c : Code} {D : va_G} {cA : Nat → ClassId} {sk : (Nat → Nat) × (Nat → Nat)} {A : Nat → Prop} {b L : Nat} {xs : Nat → Int32} (cx : CallFix p m c cL_law 4 s #[Value.ref b] gw_tbl RL) (fx : Fx D cA sk A s) (hX : va_X b L xs s s.heap) (hbl : b < s.heap.size) (hbA : ¬ A b) (hret : meth.sig.returnType = ret) (hlocks : meth.locks = false) (hAf : ∀ q, A q → s.heap.size ≤ q) (z : (Int32 × Vk × Hq) ⊕ Int32) {c0 s0 : Nat} (hh0 : ∀ (xb : Int32) (Vb : Vk) (gb : Hq), z = .inl (xb, Vb, gb) → ∀ (ad : Nat → Nat) (H : Heap) (locs : List Loc) (ls : Array Slot), Dy D cA ad (Vb, gb) A s.heap H locs → lv_has ls 4 [(0, .ref b), (1, .ref (ad 0)), (2, .ref (ad 70)), (3, .int xb)] → W p l e room_1 s m #[Value.ref b] below meth c H locs (c0 + 1) (s0 + 6) (lw_Z below #[Value.ref b] s) (F0 m 18 ls [])) (hq0 : ∀ b : Int32, z = .inr b → b = 1) (x3 : Int32) (V : Vk) (g : Hq) (hr : r_L_1029 xs L x3 V g = some z) (hcap : c0 + 1 ≤ room_1.cells ∧ s0 + 6 ≤ room_1.slots) (ad : Nat → Nat) (H : Heap) (locs : List Loc) (ls : Array Slot) (dy : Dy D cA ad (V, g) A s.heap H locs) (hl : lv_has ls 4 [(0, .ref b), (1, .ref (ad 0)), (2, .ref (ad 70)), (3, .int x3)]) : W p l e room_1 s m #[Value.ref b] below meth c H locs c0 s0 (lw_Z below #[Value.ref b] s) (F0 m 1029 ls []) := by
  unfold r_L_1029 at hr
  refine lv_aload_n cx.1 cx.2.1 dL_law_1029 rfl (lv_at hl 1 rfl) ?_
  refine lv_aload_n cx.1 cx.2.1 dL_law_1030 rfl (lv_at hl 0 rfl) ?_
  refine lv_iload_n cx.1 cx.2.1 dL_law_1031 rfl (lv_at hl 3 rfl) ?_
  refine lv_iconst (v := 1) cx.1 cx.2.1 dL_law_1032 (by decide) ?_
  refine lv_iadd cx.1 cx.2.1 dL_law_1033 ?_
  obtain ⟨ha425, hr⟩ := of_grd hr
  refine va_sld cx.1 cx.2.1 hX hbl hbA dy.2 ha425 dL_law_1034 ?_
  obtain ⟨hv428, hr⟩ := of_grd hr
  obtain ⟨x427, g426, hc429, hr⟩ := of_bnd2 hr
  refine r_i dy (k_V (As := [.int (xs (x3 + (1 : Int32)).toNatClampNeg)]) (b := 0) (ci := 11) cx fx dy (c_X11_count hc429) mv_X11_count rfl rfl ⟨by decide, by decide⟩ tb_960 hv428 rfl (by decide) rfl hl.1 rfl (Nat.le_of_ble_eq_true rfl) ⟨Nat.le_trans (Nat.le_add_right c0 1) hcap.1, Nat.le_trans (Nat.le_add_right s0 6) hcap.2⟩ dL_law_1035) (fun H locs dy => ?_)
  refine lv_aload_n cx.1 cx.2.1 dL_law_1038 rfl (lv_at hl 2 rfl) ?_
  refine lv_aload_n cx.1 cx.2.1 dL_law_1039 rfl (lv_at hl 0 rfl) ?_
  refine lv_iload_n cx.1 cx.2.1 dL_law_1040 rfl (lv_at hl 3 rfl) ?_
  refine lv_iconst (v := 1) cx.1 cx.2.1 dL_law_1041 (by decide) ?_
  refine lv_iadd cx.1 cx.2.1 dL_law_1042 ?_
  obtain ⟨ha430, hr⟩ := of_grd hr
  refine va_sld cx.1 cx.2.1 hX hbl hbA dy.2 ha430 dL_law_1043 ?_
  obtain ⟨hv433, hr⟩ := of_grd hr
  obtain ⟨x432, g431, hc434, hr⟩ := of_bnd2 hr
  refine r_i dy (k_V (As := [.int (xs (x3 + (1 : Int32)).toNatClampNeg)]) (b := 70) (ci := 12) cx fx dy (c_X12_count hc434) mv_X12_count rfl rfl ⟨by decide, by decide⟩ tb_1358 hv433 rfl (by decide) rfl hl.1 rfl (Nat.le_of_ble_eq_true rfl) ⟨Nat.le_trans (Nat.le_add_right c0 1) hcap.1, Nat.le_trans (Nat.le_add_right s0 6) hcap.2⟩ dL_law_1044) (fun H locs dy => ?_)
  rcases of_brn hr with ⟨hc, hr⟩ | ⟨hc, hr⟩
  · refine lv_icmp_eq (tgt := 1052) cx.1 cx.2.1 dL_law_1047 (by decide) (fun _ => ?_) (fun hn => absurd hc hn)
    obtain ⟨x435, ex435, hr⟩ := of_nm hr
    refine lv_iinc (v := x435) (lv' := [(3, .int x435), (0, .ref b), (1, .ref (ad 0)), (2, .ref (ad 70))]) cx.1 cx.2.1 dL_law_1052 hl (k := 3) rfl (by rw [ex435]; rfl) (by decide) rfl (fun ls hl => ?_)
    refine lv_goto (tgt := 18) cx.1 cx.2.1 dL_law_1055 (by decide) ?_
    refine W.widen (k := c0 + 1) (n := s0 + 6) (by omega) (by omega) ?_
    exact hh0 x435 V g431 (Option.some.inj hr).symm ad H locs ls dy (lv_sub hl [1, 2, 3, 0] rfl)
  · refine lv_icmp_eq (tgt := 1052) cx.1 cx.2.1 dL_law_1047 (by decide) (fun hn => absurd hn hc) (fun _ => ?_)
    refine lv_iconst (v := 0) cx.1 cx.2.1 dL_law_1050 (by decide) ?_
    exact absurd (hq0 _ (Option.some.inj hr).symm) (by decide)
noncomputable def r_L_18 (xs : Nat → Int32) (L : Nat) (st : Int32 × Vk × Hq) : Option ((Int32 × Vk × Hq) ⊕ Int32) :=
  nm st.1 fun x3 => nm st.2.1 fun V => nm st.2.2 fun g => brn (((Int32.ofNat L) - (6 : Int32)) < x3) (some (.inr (1 : Int32))) (grd (vp_in x3 L) <| nm ((xs x3.toNatClampNeg) &&& (31 : Int32)) fun x2 => brn (x2 = (0 : Int32)) (r_L_148 xs L x3 V g) (brn (x2 = (1 : Int32)) (r_L_211 xs L x3 V g) (brn (x2 = (2 : Int32)) (r_L_234 xs L x3 V g) (brn (x2 = (3 : Int32)) (r_L_277 xs L x3 V g) (brn (x2 = (4 : Int32)) (r_L_320 xs L x3 V g) (brn (x2 = (5 : Int32)) (r_L_353 xs L x3 V g) (brn (x2 = (6 : Int32)) (r_L_376 xs L x3 V g) (brn (x2 = (7 : Int32)) (r_L_399 xs L x3 V g) (brn (x2 = (8 : Int32)) (r_L_432 xs L x3 V g) (brn (x2 = (9 : Int32)) (r_L_455 xs L x3 V g) (brn (x2 = (10 : Int32)) (r_L_478 xs L x3 V g) (brn (x2 = (11 : Int32)) (r_L_511 xs L x3 V g) (brn (x2 = (12 : Int32)) (r_L_580 xs L x3 V g) (brn (x2 = (13 : Int32)) (r_L_613 xs L x3 V g) (brn (x2 = (14 : Int32)) (r_L_646 xs L x3 V g) (brn (x2 = (15 : Int32)) (r_L_679 xs L x3 V g) (brn (x2 = (16 : Int32)) (r_L_712 xs L x3 V g) (brn (x2 = (17 : Int32)) (r_L_755 xs L x3 V g) (brn (x2 = (18 : Int32)) (r_L_788 xs L x3 V g) (brn (x2 = (19 : Int32)) (r_L_857 xs L x3 V g) (brn (x2 = (20 : Int32)) (r_L_890 xs L x3 V g) (brn (x2 = (21 : Int32)) (r_L_903 xs L x3 V g) (brn (x2 = (22 : Int32)) (r_L_942 xs L x3 V g) (brn (x2 = (23 : Int32)) (r_L_965 xs L x3 V g) (brn (x2 = (24 : Int32)) (r_L_1029 xs L x3 V g) (nm (x3 + (6 : Int32)) fun x437 => some (.inl (x437, V, g))))))))))))))))))))))))))))
set_option maxHeartbeats 4000000 in
set_option maxRecDepth 100000 in
theorem w_L_18 {p : Program} {l : Launch} {e : Env} {s : State} {m : MethodId} {below : List Frame} {meth : Method} {c : Code} {D : va_G} {cA : Nat → ClassId} {sk : (Nat → Nat) × (Nat → Nat)} {A : Nat → Prop} {b L : Nat} {xs : Nat → Int32} (cx : CallFix p m c cL_law 4 s #[Value.ref b] gw_tbl RL) (fx : Fx D cA sk A s) (hX : va_X b L xs s s.heap) (hbl : b < s.heap.size) (hbA : ¬ A b) (hret : meth.sig.returnType = ret) (hlocks : meth.locks = false) (hAf : ∀ q, A q → s.heap.size ≤ q) : ∀ (n : Nat) (x3 : Int32) (V : Vk) (g : Hq), n ≤ 600 → itr (r_L_18 xs L) n (x3, V, g) = some 1 → ∀ (ad : Nat → Nat) (H : Heap) (locs : List Loc) (ls : Array Slot), Dy D cA ad (V, g) A s.heap H locs → lv_has ls 4 [(0, .ref b), (1, .ref (ad 0)), (2, .ref (ad 70)), (3, .int x3)] → W p l e room_1 s m #[Value.ref b] below meth c H locs (200 + (600 - n)) (100000 + 6 * (600 - n)) (lw_Z below #[Value.ref b] s) (F0 m 18 ls []) := by
  intro n
  induction n with
  | zero => intro x3 V g _ hr; cases hr
  | succ n ih =>
    intro x3 V g hn hr ad H locs ls dy hl
    obtain ⟨z, hz, hn1, hn2⟩ := itr_succ hr
    clear hr
    obtain ⟨c0, ec0⟩ : ∃ c0, c0 = 200 + (600 - (n + 1)) := ⟨_, rfl⟩
    obtain ⟨s0, es0⟩ : ∃ s0, s0 = 100000 + 6 * (600 - (n + 1)) := ⟨_, rfl⟩
    rw [← ec0, ← es0]
    have hcap : c0 + 1 ≤ room_1.cells ∧ s0 + 6 ≤ room_1.slots := ⟨by show c0 + 1 ≤ 600000; omega, by show s0 + 6 ≤ 7302250; omega⟩
    have hh0 : ∀ (xb : Int32) (Vb : Vk) (gb : Hq), z = .inl (xb, Vb, gb) → ∀ (ad : Nat → Nat) (H : Heap) (locs : List Loc) (ls : Array Slot), Dy D cA ad (Vb, gb) A s.heap H locs → lv_has ls 4 [(0, .ref b), (1, .ref (ad 0)), (2, .ref (ad 70)), (3, .int xb)] → W p l e room_1 s m #[Value.ref b] below meth c H locs (c0 + 1) (s0 + 6) (lw_Z below #[Value.ref b] s) (F0 m 18 ls []) := fun xb Vb gb eb => by
      have h9 := ih xb Vb gb (by omega) (hn1 _ eb)
      rw [show 200 + (600 - n) = c0 + 1 by omega, show 100000 + 6 * (600 - n) = s0 + 6 by omega] at h9
      exact h9
    have hq0 : ∀ b : Int32, z = .inr b → b = 1 := fun b eb => hn2 _ eb
    have hc6 : c0 + 1 ≤ 600000 ∧ s0 + 6 ≤ 7302250 := hcap
    replace hr : r_L_18 xs L (x3, V, g) = some z := hz
    clear hz ec0 es0 hn ih hn1 hn2
    unfold r_L_18 at hr
    obtain ⟨x3z, e1, hr⟩ := of_nm hr
    obtain ⟨Vz, e2, hr⟩ := of_nm hr
    obtain ⟨gz, e3, hr⟩ := of_nm hr
    replace e1 : x3z = x3 := e1
    replace e2 : Vz = V := e2
    replace e3 : gz = g := e3
    subst e1; subst e2; subst e3
    refine lv_iload_n cx.1 cx.2.1 dL_law_18 rfl (lv_at hl 3 rfl) ?_
    refine lv_aload_n cx.1 cx.2.1 dL_law_19 rfl (lv_at hl 0 rfl) ?_
    refine va_slen cx.1 cx.2.1 hX hbl hbA dy.2 dL_law_20 ?_
    refine lv_bipush (v := 6) cx.1 cx.2.1 dL_law_21 (by decide) ?_
    refine lv_isub cx.1 cx.2.1 dL_law_23 ?_
    rcases of_brn hr with ⟨hc, hr⟩ | ⟨hc, hr⟩
    · refine lv_icmp_gt (tgt := 1058) cx.1 cx.2.1 dL_law_24 (by decide) (fun _ => ?_) (fun hn => absurd hc hn)
      refine lv_iconst (v := 1) cx.1 cx.2.1 dL_law_1058 (by decide) ?_
      refine va_forget (fun q hq => hAf _ (dy.2.2.2 q hq)) ?_
      refine W.widen (k := 600000) (n := 7302250) (by omega) (by omega) ?_
      exact lw_ret cx.1 cx.2.1 hret hlocks dL_law_1059
    · refine lv_icmp_gt (tgt := 1058) cx.1 cx.2.1 dL_law_24 (by decide) (fun hn => absurd hn hc) (fun _ => ?_)
      refine lv_aload_n cx.1 cx.2.1 dL_law_27 rfl (lv_at hl 0 rfl) ?_
      refine lv_iload_n cx.1 cx.2.1 dL_law_28 rfl (lv_at hl 3 rfl) ?_
      obtain ⟨ha1, hr⟩ := of_grd hr
      refine va_sld cx.1 cx.2.1 hX hbl hbA dy.2 ha1 dL_law_29 ?_
      refine lv_bipush (v := 31) cx.1 cx.2.1 dL_law_30 (by decide) ?_
      refine lv_iand cx.1 cx.2.1 dL_law_32 ?_
      obtain ⟨x2, ex2, hr⟩ := of_nm hr
      refine lv_nmi ex2 ?_
      rcases of_brn hr with ⟨hc, hr⟩ | ⟨hs22, hr⟩
      · refine lv_tableIn (off := 115) (tgt := 148) cx.1 cx.2.1 dL_law_33 (by rw [hc]; decide) (by rw [hc]; decide) (by rw [hc]; rfl) (by decide) ?_
        exact w_L_148 cx fx hX hbl hbA hret hlocks hAf z hh0 hq0 x3z Vz gz hr hcap ad H locs ls dy (lv_sub hl [0, 1, 2, 3] rfl)
      rcases of_brn hr with ⟨hc, hr⟩ | ⟨hs34, hr⟩
      · refine lv_tableIn (off := 178) (tgt := 211) cx.1 cx.2.1 dL_law_33 (by rw [hc]; decide) (by rw [hc]; decide) (by rw [hc]; rfl) (by decide) ?_
        exact w_L_211 cx fx hX hbl hbA hret hlocks hAf z hh0 hq0 x3z Vz gz hr hcap ad H locs ls dy (lv_sub hl [0, 1, 2, 3] rfl)
      rcases of_brn hr with ⟨hc, hr⟩ | ⟨hs50, hr⟩
      · refine lv_tableIn (off := 201) (tgt := 234) cx.1 cx.2.1 dL_law_33 (by rw [hc]; decide) (by rw [hc]; decide) (by rw [hc]; rfl) (by decide) ?_
        exact w_L_234 cx fx hX hbl hbA hret hlocks hAf z hh0 hq0 x3z Vz gz hr hcap ad H locs ls dy (lv_sub hl [0, 1, 2, 3] rfl)
      rcases of_brn hr with ⟨hc, hr⟩ | ⟨hs66, hr⟩
      · refine lv_tableIn (off := 244) (tgt := 277) cx.1 cx.2.1 dL_law_33 (by rw [hc]; decide) (by rw [hc]; decide) (by rw [hc]; rfl) (by decide) ?_
        exact w_L_277 cx fx hX hbl hbA hret hlocks hAf z hh0 hq0 x3z Vz gz hr hcap ad H locs ls dy (lv_sub hl [0, 1, 2, 3] rfl)
      rcases of_brn hr with ⟨hc, hr⟩ | ⟨hs80, hr⟩
      · refine lv_tableIn (off := 287) (tgt := 320) cx.1 cx.2.1 dL_law_33 (by rw [hc]; decide) (by rw [hc]; decide) (by rw [hc]; rfl) (by decide) ?_
        exact w_L_320 cx fx hX hbl hbA hret hlocks hAf z hh0 hq0 x3z Vz gz hr hcap ad H locs ls dy (lv_sub hl [0, 1, 2, 3] rfl)
      rcases of_brn hr with ⟨hc, hr⟩ | ⟨hs92, hr⟩
      · refine lv_tableIn (off := 320) (tgt := 353) cx.1 cx.2.1 dL_law_33 (by rw [hc]; decide) (by rw [hc]; decide) (by rw [hc]; rfl) (by decide) ?_
        exact w_L_353 cx fx hX hbl hbA hret hlocks hAf z hh0 hq0 x3z Vz gz hr hcap ad H locs ls dy (lv_sub hl [0, 1, 2, 3] rfl)
      rcases of_brn hr with ⟨hc, hr⟩ | ⟨hs104, hr⟩
      · refine lv_tableIn (off := 343) (tgt := 376) cx.1 cx.2.1 dL_law_33 (by rw [hc]; decide) (by rw [hc]; decide) (by rw [hc]; rfl) (by decide) ?_
        exact w_L_376 cx fx hX hbl hbA hret hlocks hAf z hh0 hq0 x3z Vz gz hr hcap ad H locs ls dy (lv_sub hl [0, 1, 2, 3] rfl)
      rcases of_brn hr with ⟨hc, hr⟩ | ⟨hs118, hr⟩
      · refine lv_tableIn (off := 366) (tgt := 399) cx.1 cx.2.1 dL_law_33 (by rw [hc]; decide) (by rw [hc]; decide) (by rw [hc]; rfl) (by decide) ?_
        exact w_L_399 cx fx hX hbl hbA hret hlocks hAf z hh0 hq0 x3z Vz gz hr hcap ad H locs ls dy (lv_sub hl [0, 1, 2, 3] rfl)
      rcases of_brn hr with ⟨hc, hr⟩ | ⟨hs130, hr⟩
      · refine lv_tableIn (off := 399) (tgt := 432) cx.1 cx.2.1 dL_law_33 (by rw [hc]; decide) (by rw [hc]; decide) (by rw [hc]; rfl) (by decide) ?_
        exact w_L_432 cx fx hX hbl hbA hret hlocks hAf z hh0 hq0 x3z Vz gz hr hcap ad H locs ls dy (lv_sub hl [0, 1, 2, 3] rfl)
      rcases of_brn hr with ⟨hc, hr⟩ | ⟨hs142, hr⟩
      · refine lv_tableIn (off := 422) (tgt := 455) cx.1 cx.2.1 dL_law_33 (by rw [hc]; decide) (by rw [hc]; decide) (by rw [hc]; rfl) (by decide) ?_
        exact w_L_455 cx fx hX hbl hbA hret hlocks hAf z hh0 hq0 x3z Vz gz hr hcap ad H locs ls dy (lv_sub hl [0, 1, 2, 3] rfl)
      rcases of_brn hr with ⟨hc, hr⟩ | ⟨hs156, hr⟩
      · refine lv_tableIn (off := 445) (tgt := 478) cx.1 cx.2.1 dL_law_33 (by rw [hc]; decide) (by rw [hc]; decide) (by rw [hc]; rfl) (by decide) ?_
        exact w_L_478 cx fx hX hbl hbA hret hlocks hAf z hh0 hq0 x3z Vz gz hr hcap ad H locs ls dy (lv_sub hl [0, 1, 2, 3] rfl)
      rcases of_brn hr with ⟨hc, hr⟩ | ⟨hs197, hr⟩
      · refine lv_tableIn (off := 478) (tgt := 511) cx.1 cx.2.1 dL_law_33 (by rw [hc]; decide) (by rw [hc]; decide) (by rw [hc]; rfl) (by decide) ?_
        exact w_L_511 cx fx hX hbl hbA hret hlocks hAf z hh0 hq0 x3z Vz gz hr hcap ad H locs ls dy (lv_sub hl [0, 1, 2, 3] rfl)
      rcases of_brn hr with ⟨hc, hr⟩ | ⟨hs215, hr⟩
      · refine lv_tableIn (off := 547) (tgt := 580) cx.1 cx.2.1 dL_law_33 (by rw [hc]; decide) (by rw [hc]; decide) (by rw [hc]; rfl) (by decide) ?_
        exact w_L_580 cx fx hX hbl hbA hret hlocks hAf z hh0 hq0 x3z Vz gz hr hcap ad H locs ls dy (lv_sub hl [0, 1, 2, 3] rfl)
      rcases of_brn hr with ⟨hc, hr⟩ | ⟨hs229, hr⟩
      · refine lv_tableIn (off := 580) (tgt := 613) cx.1 cx.2.1 dL_law_33 (by rw [hc]; decide) (by rw [hc]; decide) (by rw [hc]; rfl) (by decide) ?_
        exact w_L_613 cx fx hX hbl hbA hret hlocks hAf z hh0 hq0 x3z Vz gz hr hcap ad H locs ls dy (lv_sub hl [0, 1, 2, 3] rfl)
      rcases of_brn hr with ⟨hc, hr⟩ | ⟨hs243, hr⟩
      · refine lv_tableIn (off := 613) (tgt := 646) cx.1 cx.2.1 dL_law_33 (by rw [hc]; decide) (by rw [hc]; decide) (by rw [hc]; rfl) (by decide) ?_
        exact w_L_646 cx fx hX hbl hbA hret hlocks hAf z hh0 hq0 x3z Vz gz hr hcap ad H locs ls dy (lv_sub hl [0, 1, 2, 3] rfl)
      rcases of_brn hr with ⟨hc, hr⟩ | ⟨hs257, hr⟩
      · refine lv_tableIn (off := 646) (tgt := 679) cx.1 cx.2.1 dL_law_33 (by rw [hc]; decide) (by rw [hc]; decide) (by rw [hc]; rfl) (by decide) ?_
        exact w_L_679 cx fx hX hbl hbA hret hlocks hAf z hh0 hq0 x3z Vz gz hr hcap ad H locs ls dy (lv_sub hl [0, 1, 2, 3] rfl)
      rcases of_brn hr with ⟨hc, hr⟩ | ⟨hs273, hr⟩
      · refine lv_tableIn (off := 679) (tgt := 712) cx.1 cx.2.1 dL_law_33 (by rw [hc]; decide) (by rw [hc]; decide) (by rw [hc]; rfl) (by decide) ?_
        exact w_L_712 cx fx hX hbl hbA hret hlocks hAf z hh0 hq0 x3z Vz gz hr hcap ad H locs ls dy (lv_sub hl [0, 1, 2, 3] rfl)
      rcases of_brn hr with ⟨hc, hr⟩ | ⟨hs287, hr⟩
      · refine lv_tableIn (off := 722) (tgt := 755) cx.1 cx.2.1 dL_law_33 (by rw [hc]; decide) (by rw [hc]; decide) (by rw [hc]; rfl) (by decide) ?_
        exact w_L_755 cx fx hX hbl hbA hret hlocks hAf z hh0 hq0 x3z Vz gz hr hcap ad H locs ls dy (lv_sub hl [0, 1, 2, 3] rfl)
      rcases of_brn hr with ⟨hc, hr⟩ | ⟨hs336, hr⟩
      · refine lv_tableIn (off := 755) (tgt := 788) cx.1 cx.2.1 dL_law_33 (by rw [hc]; decide) (by rw [hc]; decide) (by rw [hc]; rfl) (by decide) ?_
        exact w_L_788 cx fx hX hbl hbA hret hlocks hAf z hh0 hq0 x3z Vz gz hr hcap ad H locs ls dy (lv_sub hl [0, 1, 2, 3] rfl)
      rcases of_brn hr with ⟨hc, hr⟩ | ⟨hs350, hr⟩
      · refine lv_tableIn (off := 824) (tgt := 857) cx.1 cx.2.1 dL_law_33 (by rw [hc]; decide) (by rw [hc]; decide) (by rw [hc]; rfl) (by decide) ?_
        exact w_L_857 cx fx hX hbl hbA hret hlocks hAf z hh0 hq0 x3z Vz gz hr hcap ad H locs ls dy (lv_sub hl [0, 1, 2, 3] rfl)
      rcases of_brn hr with ⟨hc, hr⟩ | ⟨hs360, hr⟩
      · refine lv_tableIn (off := 857) (tgt := 890) cx.1 cx.2.1 dL_law_33 (by rw [hc]; decide) (by rw [hc]; decide) (by rw [hc]; rfl) (by decide) ?_
        exact w_L_890 cx fx hX hbl hbA hret hlocks hAf z hh0 hq0 x3z Vz gz hr hcap ad H locs ls dy (lv_sub hl [0, 1, 2, 3] rfl)
      rcases of_brn hr with ⟨hc, hr⟩ | ⟨hs392, hr⟩
      · refine lv_tableIn (off := 870) (tgt := 903) cx.1 cx.2.1 dL_law_33 (by rw [hc]; decide) (by rw [hc]; decide) (by rw [hc]; rfl) (by decide) ?_
        exact w_L_903 cx fx hX hbl hbA hret hlocks hAf z hh0 hq0 x3z Vz gz hr hcap ad H locs ls dy (lv_sub hl [0, 1, 2, 3] rfl)
      rcases of_brn hr with ⟨hc, hr⟩ | ⟨hs404, hr⟩
      · refine lv_tableIn (off := 909) (tgt := 942) cx.1 cx.2.1 dL_law_33 (by rw [hc]; decide) (by rw [hc]; decide) (by rw [hc]; rfl) (by decide) ?_
        exact w_L_942 cx fx hX hbl hbA hret hlocks hAf z hh0 hq0 x3z Vz gz hr hcap ad H locs ls dy (lv_sub hl [0, 1, 2, 3] rfl)
      rcases of_brn hr with ⟨hc, hr⟩ | ⟨hs424, hr⟩
      · refine lv_tableIn (off := 932) (tgt := 965) cx.1 cx.2.1 dL_law_33 (by rw [hc]; decide) (by rw [hc]; decide) (by rw [hc]; rfl) (by decide) ?_
        exact w_L_965 cx fx hX hbl hbA hret hlocks hAf z hh0 hq0 x3z Vz gz hr hcap ad H locs ls dy (lv_sub hl [0, 1, 2, 3] rfl)
      rcases of_brn hr with ⟨hc, hr⟩ | ⟨hs436, hr⟩
      · refine lv_tableIn (off := 996) (tgt := 1029) cx.1 cx.2.1 dL_law_33 (by rw [hc]; decide) (by rw [hc]; decide) (by rw [hc]; rfl) (by decide) ?_
        exact w_L_1029 cx fx hX hbl hbA hret hlocks hAf z hh0 hq0 x3z Vz gz hr hcap ad H locs ls dy (lv_sub hl [0, 1, 2, 3] rfl)
      refine lv_tableOut (tgt := 1052) cx.1 cx.2.1 dL_law_33 (tsw_out (fun n h1 h2 => ?_)) (by decide) ?_
      · rcases (show n = 0 ∨ n = 1 ∨ n = 2 ∨ n = 3 ∨ n = 4 ∨ n = 5 ∨ n = 6 ∨ n = 7 ∨ n = 8 ∨ n = 9 ∨ n = 10 ∨ n = 11 ∨ n = 12 ∨ n = 13 ∨ n = 14 ∨ n = 15 ∨ n = 16 ∨ n = 17 ∨ n = 18 ∨ n = 19 ∨ n = 20 ∨ n = 21 ∨ n = 22 ∨ n = 23 ∨ n = 24 by omega) with rfl | rfl | rfl | rfl | rfl | rfl | rfl | rfl | rfl | rfl | rfl | rfl | rfl | rfl | rfl | rfl | rfl | rfl | rfl | rfl | rfl | rfl | rfl | rfl | rfl
        · exact hs22
        · exact hs34
        · exact hs50
        · exact hs66
        · exact hs80
        · exact hs92
        · exact hs104
        · exact hs118
        · exact hs130
        · exact hs142
        · exact hs156
        · exact hs197
        · exact hs215
        · exact hs229
        · exact hs243
        · exact hs257
        · exact hs273
        · exact hs287
        · exact hs336
        · exact hs350
        · exact hs360
        · exact hs392
        · exact hs404
        · exact hs424
        · exact hs436
      · skip
        obtain ⟨x437, ex437, hr⟩ := of_nm hr
        refine lv_iinc (v := x437) (lv' := [(3, .int x437), (0, .ref b), (1, .ref (ad 0)), (2, .ref (ad 70))]) cx.1 cx.2.1 dL_law_1052 hl (k := 3) rfl (by rw [ex437]; rfl) (by decide) rfl (fun ls hl => ?_)
        refine lv_goto (tgt := 18) cx.1 cx.2.1 dL_law_1055 (by decide) ?_
        refine W.widen (k := c0 + 1) (n := s0 + 6) (by omega) (by omega) ?_
        exact hh0 x437 Vz gz (Option.some.inj hr).symm ad H locs ls dy (lv_sub hl [1, 2, 3, 0] rfl)
