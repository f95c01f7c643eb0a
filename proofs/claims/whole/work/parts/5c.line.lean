/-! ===== the draft, and a line of power ===== -/
theorem RL1_f {p : Nat} {gx gm gx' gm' : Hq} (hp : lawPl p) (h : RL1 (cmb gx gm).1 p 4) (F : ∀ a, a ≠ 18 → gx'.1 a = gx.1 a) (G : F70 gm gm') : RL1 (cmb gx' gm').1 p 4 := by
  refine cgL1 hp h (fun a ha => ?_)
  unfold sLw at ha
  by_cases m : md a
  · rw [cmb_2 m, cmb_2 m]; exact G.1 a (by omega)
  · rw [cmb_1 m, cmb_1 m]; exact F a (by omega)
def bdL (l : Nat) (v : Int32) : Prop := (l = 0 → 0 ≤ v.toInt) ∧ (l = 1 → v.toInt ≤ 99) ∧ (l = 2 → 0 ≤ v.toInt ∧ v.toInt ≤ 30) ∧ (l = 3 → 0 ≤ v.toInt ∧ v.toInt ≤ 9999) ∧ (l = 4 → -1 ≤ v.toInt ∧ v.toInt ≤ 9999) ∧ (l = 5 → -1 ≤ v.toInt ∧ v.toInt ≤ 999) ∧ (l = 6 → v = 0 ∨ v = 1) ∧ (l = 7 → 0 ≤ v.toInt ∧ v.toInt ≤ 20)
theorem RL1_set {p l : Nat} {gx gm : Hq} {v : Int32} (hp : lawPl p) (h : RL1 (cmb gx gm).1 p 4) (hl : l < 8) (b : bdL l v) : RL1 (cmb (sI gx p l v) (sI gm 85 (32 + l) v)).1 p 4 := by
  have hp' := law_b hp
  have e85 : ∀ j, (cmb (sI gx p l v) (sI gm 85 (32 + l) v)).1 85 j = if j = 32 + l then v else (cmb gx gm).1 85 j := fun j => by
    rw [cmb_2 (by omega), cmb_2 (by omega), sI_1, up2_at]
    by_cases q : j = 32 + l
    · rw [if_pos ⟨rfl, q⟩, if_pos q]
    · rw [if_neg (fun z => q z.2), if_neg q]
  have e86 : (cmb (sI gx p l v) (sI gm 85 (32 + l) v)).1 86 = (cmb gx gm).1 86 := by rw [cmb_2 (by omega), cmb_2 (by omega), sI_1, up2_nk _ _ _ (by decide)]
  have e87 : (cmb (sI gx p l v) (sI gm 85 (32 + l) v)).1 87 = (cmb gx gm).1 87 := by rw [cmb_2 (by omega), cmb_2 (by omega), sI_1, up2_nk _ _ _ (by decide)]
  have ep : ∀ j, (cmb (sI gx p l v) (sI gm 85 (32 + l) v)).1 p j = if j = l then v else (cmb gx gm).1 p j := fun j => by
    rw [cmb_1 (by omega), cmb_1 (by omega), sI_1, up2_at]
    by_cases q : j = l
    · rw [if_pos ⟨rfl, q⟩, if_pos q]
    · rw [if_neg (fun z => q z.2), if_neg q]
  have eq : ∀ i, 1 ≤ i → i ≤ 4 → (cmb (sI gx p l v) (sI gm 85 (32 + l) v)).1 (p + i) = (cmb gx gm).1 (p + i) := fun i i1 i2 => by
    rw [cmb_1 (by omega), cmb_1 (by omega), sI_1, up2_nk _ _ _ (by omega)]
  have bnd' : ∀ (j : Nat) (P : Int32 → Prop), (l = j → P v) → P ((cmb gx gm).1 85 (8 * 4 + j)) → P ((cmb (sI gx p l v) (sI gm 85 (32 + l) v)).1 85 (8 * 4 + j)) := fun j P h1 h2 => by
    rw [e85]
    by_cases q : 8 * 4 + j = 32 + l
    · rw [if_pos q]; exact h1 (by omega)
    · rw [if_neg q]; exact h2
  obtain ⟨h1, ⟨n, n1, n2, n3, n4⟩, k0, k1, k2, k3, k4, k5, k6, k7, k8, k9, k10, k11, k12⟩ := h
  obtain ⟨b0, b1, b2, b3, b4, b5, b6, b7⟩ := b
  refine ⟨fun j hj => ?_, ⟨n, n1, ?_, by rw [e87]; exact n3, fun i hi => ?_⟩, bnd' 0 (fun x => 0 ≤ x.toInt) b0 k0, bnd' 1 (fun x => x.toInt ≤ 99) b1 k1, bnd' 2 (fun x => 0 ≤ x.toInt) (fun q => (b2 q).1) k2, bnd' 2 (fun x => x.toInt ≤ 30) (fun q => (b2 q).2) k3, bnd' 3 (fun x => 0 ≤ x.toInt) (fun q => (b3 q).1) k4, bnd' 3 (fun x => x.toInt ≤ 9999) (fun q => (b3 q).2) k5, bnd' 4 (fun x => -1 ≤ x.toInt) (fun q => (b4 q).1) k6, bnd' 4 (fun x => x.toInt ≤ 9999) (fun q => (b4 q).2) k7, bnd' 5 (fun x => -1 ≤ x.toInt) (fun q => (b5 q).1) k8, bnd' 5 (fun x => x.toInt ≤ 999) (fun q => (b5 q).2) k9, bnd' 6 (fun x => x = 0 ∨ x = 1) b6 k10, bnd' 7 (fun x => 0 ≤ x.toInt) (fun q => (b7 q).1) k11, bnd' 7 (fun x => x.toInt ≤ 20) (fun q => (b7 q).2) k12⟩
  · rw [ep, e85]
    by_cases q : j = l
    · rw [if_pos q, if_pos (by omega)]
    · rw [if_neg q, if_neg (by omega)]; exact h1 j hj
  · rw [ep, if_neg (by omega)]; exact n2
  · rw [e86, eq 1 (by omega) (by omega), eq 2 (by omega) (by omega), eq 3 (by omega) (by omega), eq 4 (by omega) (by omega)]
    exact n4 i hi
/-- a power's row behind the last one may be written -/
theorem RL1_86 {p n j : Nat} {gx gm : Hq} {v : Int32} (hp : lawPl p) (h : RL1 (cmb gx gm).1 p 4) (h8 : gm.1 87 4 = nI n) (hn : n < 12) (hj : 4 * (48 + n) ≤ j) : RL1 (cmb gx (sI gm 86 j v)).1 p 4 := by
  have ex : ∀ a, a ≠ 86 → (cmb gx (sI gm 86 j v)).1 a = (cmb gx gm).1 a := fun a ha => by
    by_cases m : md a
    · rw [cmb_2 m, cmb_2 m, sI_1, up2_nk _ _ _ ha]
    · rw [cmb_1 m, cmb_1 m]
  have e6 : ∀ i, i < 4 * (48 + n) → (cmb gx (sI gm 86 j v)).1 86 i = (cmb gx gm).1 86 i := fun i hi => by
    rw [cmb_2 (by omega), cmb_2 (by omega), sI_1, up2_ne _ _ (Or.inr (by omega))]
  obtain ⟨h1, ⟨n', n1, n2, n3, n4⟩, hb⟩ := h
  have en : n' = n := by
    have : (cmb gx gm).1 87 4 = nI n := by rw [cmb_2 (by omega)]; exact h8
    rw [n3] at this
    exact (nI_eq (by omega) (by omega)).mp this
  subst en
  have hp' := law_b hp
  refine ⟨fun i hi => by rw [ex p (by omega), ex 85 (by decide)]; exact h1 i hi, ⟨n', n1, by rw [ex p (by omega)]; exact n2, by rw [ex 87 (by decide)]; exact n3, fun i hi => ?_⟩, by rw [ex 85 (by decide)]; exact hb⟩
  rw [ex (p + 1) (by omega), ex (p + 2) (by omega), ex (p + 3) (by omega), ex (p + 4) (by omega), e6 _ (by omega), e6 _ (by omega), e6 _ (by omega), e6 _ (by omega)]
  exact n4 i hi
theorem RL1_add {p n : Nat} {I I2 : Nat → Nat → Int32} {a b c d : Int32} (h : RL1 I p 4) (h8 : I p 8 = nI n) (hn : n < 12) (e0 : ∀ j, j < 8 → I2 p j = I p j) (e8 : I2 p 8 = nI (n + 1)) (e87 : I2 87 4 = nI (n + 1)) (e85 : I2 85 = I 85) (r : ∀ i k, i < n → 1 ≤ k → k ≤ 4 → I2 (p + k) i = I (p + k) i) (m : ∀ i, i < 4 * (48 + n) → I2 86 i = I 86 i) (x1 : I2 (p + 1) n = a) (x2 : I2 (p + 2) n = b) (x3 : I2 (p + 3) n = c) (x4 : I2 (p + 4) n = d) (m1 : I2 86 (4 * (48 + n)) = a) (m2 : I2 86 (4 * (48 + n) + 1) = b) (m3 : I2 86 (4 * (48 + n) + 2) = c) (m4 : I2 86 (4 * (48 + n) + 3) = d) (a0 : 0 ≤ a.toInt) (d0 : d = 0 ∨ d = 1) : RL1 I2 p 4 := by
  obtain ⟨h1, ⟨n', n1, n2, n3, n4⟩, hb⟩ := h
  have en : n' = n := by
    rw [n2] at h8
    exact (nI_eq (by omega) (by omega)).mp h8
  subst en
  refine ⟨fun j hj => by rw [e0 j hj, e85]; exact h1 j hj, ⟨n' + 1, by omega, e8, e87, fun i hi => ?_⟩, by rw [e85]; exact hb⟩
  by_cases q : i = n'
  · subst q
    show I2 (p + 1) i = I2 86 (4 * (48 + i)) ∧ I2 (p + 2) i = I2 86 (4 * (48 + i) + 1) ∧ I2 (p + 3) i = I2 86 (4 * (48 + i) + 2) ∧ I2 (p + 4) i = I2 86 (4 * (48 + i) + 3) ∧ 0 ≤ (I2 86 (4 * (48 + i))).toInt ∧ (I2 86 (4 * (48 + i) + 3) = 0 ∨ I2 86 (4 * (48 + i) + 3) = 1)
    rw [x1, x2, x3, x4, m1, m2, m3, m4]
    exact ⟨rfl, rfl, rfl, rfl, a0, d0⟩
  · rw [r i 1 (by omega) (by omega) (by omega), r i 2 (by omega) (by omega) (by omega), r i 3 (by omega) (by omega) (by omega), r i 4 (by omega) (by omega) (by omega), m _ (by omega), m _ (by omega), m _ (by omega), m _ (by omega)]
    exact n4 i (by omega)
theorem x_add {V : Vk} {p n : Nat} {g : Hq} {a b c d : Int32} (hV : ShV V) (hR : ShR g.2.2) (hp : lawPl p) (n2 : g.1 p 8 = nI n) (hn : n < 12) : r_X4_addPower V p a b c d g = some ((), sI (sI (sI (sI (sI g (p + 1) n a) (p + 2) n b) (p + 3) n c) (p + 4) n (vp_nar .boolean d)) p 8 (nI (n + 1))) := by
  have hp' := law_b hp
  obtain ⟨v1, v2, v3, v4⟩ := law_v hV hp
  obtain ⟨q1, q2, q3, q4⟩ := law_q hR hp
  unfold r_X4_addPower r_X4_hasRoomForPower
  rw [grd_t (sh_vl hV hp), grd_t (sh_vl hV hp), n2]
  have cl := cl_nI (j := n) (by omega)
  have e1 : ∀ k v, k ≠ p → ∀ G : Hq, G.1 p 8 = nI n → (sI G k n v).1 p 8 = nI n := fun k v hk G hG => by rw [sI_1, up2_ne _ _ (Or.inl (fun e => hk e.symm))]; exact hG
  have o0 : ∀ k, V k = some (100, 12) → okV V k 0 (nI n) := fun k e => ok_nI (n := 12) (t := 0) e (by omega) (by decide)
  have o2 : okV V (p + 4) 2 (nI n) := ok_nI (n := 12) (t := 2) v4 (by omega) (by decide)
  have w1 := e1 (p + 1) a (by omega) g n2
  have w2 := e1 (p + 2) b (by omega) _ w1
  have w3 := e1 (p + 3) c (by omega) _ w2
  have w4 := e1 (p + 4) (vp_nar .boolean d) (by omega) _ w3
  rw [brn_f (show ¬ (12 : Int32) ≤ nI n from nI_ge (b := 12) (by omega) (by omega)), bnd_some, brn_f (by decide), q1, bind_some', n2, grd_t (o0 _ v1), cl, nm_eq, sI_3, q2, bind_some', w1, grd_t (o0 _ v2), cl, nm_eq, sI_3, sI_3, q3, bind_some', w2, grd_t (o0 _ v3), cl, nm_eq, sI_3, sI_3, sI_3, q4, bind_some', w3, grd_t o2, cl, nm_eq, w4, nI_1, nm_eq]
/-- the line of power from behind, class and reference -/
noncomputable def rp_f (V : Vk) (p : Nat) (a b c : Int32) (g : Hq) : Option (Unit × Hq) := bnd (r_X3_takeCry V 18 g) fun x32 g31 => grd (V p = some (4, 0)) <| bnd (r_X4_addPower V p a b c x32 g31) fun u35 g34 => some ((), g34)
noncomputable def rp_e (V : Vk) (p : Nat) (a b : Int32) (g : Hq) : Option (Unit × Hq) := bnd (r_X3_takeNumber V 18 (0 : Int32) (23 : Int32) g) fun x29 g28 => rp_f V p a b x29 g28
noncomputable def rp_d (V : Vk) (p : Nat) (a b : Int32) (g : Hq) : Option (Unit × Hq) := bnd (r_X3_takeWord V 18 9 g) fun u26 g25 => rp_e V p a b g25
noncomputable def rp_c (V : Vk) (p : Nat) (a : Int32) (g : Hq) : Option (Unit × Hq) := bnd (r_X3_takeNumber V 18 (0 : Int32) (23 : Int32) g) fun x23 g22 => rp_d V p a x23 g22
noncomputable def rp_b (V : Vk) (p : Nat) (a : Int32) (g : Hq) : Option (Unit × Hq) := bnd (r_X3_takeWord V 18 8 g) fun u20 g19 => rp_c V p a g19
noncomputable def mp_f (V : Vk) (x12 : Int32) (g32 : Hq) : Option (Int32 × Hq) := Option.bind (g32.2.2 70 30) fun k35 => bnd (r_X12_hasCry V 70 g32) fun x38 g37 => brn (x38 = 0) (grd (okV V k35 0 (x12 + (3 : Int32))) <| nm (sI g37 k35 (x12 + (3 : Int32)).toNatClampNeg (0 : Int32)) fun g41 => Option.bind (g41.2.2 70 31) fun k42 => grd (okV V k42 0 (4 : Int32)) <| grd (okV V k42 0 (4 : Int32)) <| nm (sI g41 k42 (4 : Int32).toNatClampNeg ((g41.1 k42 (4 : Int32).toNatClampNeg) + (1 : Int32))) fun g46 => some ((1 : Int32), g46)) (grd (okV V k35 0 (x12 + (3 : Int32))) <| nm (sI g37 k35 (x12 + (3 : Int32)).toNatClampNeg (1 : Int32)) fun g48 => Option.bind (g48.2.2 70 31) fun k49 => grd (okV V k49 0 (4 : Int32)) <| grd (okV V k49 0 (4 : Int32)) <| nm (sI g48 k49 (4 : Int32).toNatClampNeg ((g48.1 k49 (4 : Int32).toNatClampNeg) + (1 : Int32))) fun g53 => some ((1 : Int32), g53))
noncomputable def mp_e (V : Vk) (x12 : Int32) (g29 : Hq) : Option (Int32 × Hq) := bnd (r_X12_hour V 70 (x12 + (2 : Int32)) g29) fun x33 g32 => brn (x33 = 0) (some ((0 : Int32), g32)) (mp_f V x12 g32)
noncomputable def mp_d (V : Vk) (x12 : Int32) (g26 : Hq) : Option (Int32 × Hq) := bnd (r_X12_word V 70 (8 : Int32) g26) fun x30 g29 => brn (x30 = 0) (some ((0 : Int32), g29)) (mp_e V x12 g29)
noncomputable def mp_c (V : Vk) (x12 : Int32) (g23 : Hq) : Option (Int32 × Hq) := bnd (r_X12_hour V 70 (x12 + (1 : Int32)) g23) fun x27 g26 => brn (x27 = 0) (some ((0 : Int32), g26)) (mp_d V x12 g26)
noncomputable def mp_b (V : Vk) (x12 : Int32) (g20 : Hq) : Option (Int32 × Hq) := bnd (r_X12_word V 70 (7 : Int32) g20) fun x24 g23 => brn (x24 = 0) (some ((0 : Int32), g23)) (mp_c V x12 g23)
theorem d_f {V : Vk} {T : Nat → Int32} {N p : Nat} {g0 g : Hq} {f q a b c : Int32} (h : De V T N p g0 f q g) : ∃ g2, rp_f V p a b c g = some ((), g2) ∧ De V T N p g0 f q g2 := by
  obtain ⟨v7, g7, a7, -, h7⟩ := d_cry h
  obtain ⟨g8, a8, h8⟩ := d_add (a := a) (b := b) (c := c) (d := v7) h7
  exact ⟨g8, by unfold rp_f; rw [a7, bnd_some, grd_t (sh_vl h.1.2.1.1 h.1.1), a8, bnd_some], h8⟩
theorem d_e {V : Vk} {T : Nat → Int32} {N p : Nat} {g0 g : Hq} {f q a b : Int32} (hf : ¬ f = 0) (h : De V T N p g0 f q g) : ∃ g2, rp_e V p a b g = some ((), g2) ∧ De V T N p g0 f q g2 := by
  obtain ⟨v, g7, a7, h7⟩ := d_num (lo := 0) (hi := 23) hf h
  obtain ⟨g8, a8, h8⟩ := d_f (a := a) (b := b) (c := v) h7
  exact ⟨g8, by unfold rp_e; rw [a7, bnd_some, a8], h8⟩
theorem d_d {V : Vk} {T : Nat → Int32} {N p : Nat} {g0 g : Hq} {f q a b : Int32} (hf : ¬ f = 0) (h : De V T N p g0 f q g) : ∃ g2, rp_d V p a b g = some ((), g2) ∧ De V T N p g0 f q g2 := by
  obtain ⟨g7, a7, h7⟩ := d_word (t := 9) hf h (by decide)
  obtain ⟨g8, a8, h8⟩ := d_e (a := a) (b := b) hf h7
  exact ⟨g8, by unfold rp_d; rw [a7, bnd_some, a8], h8⟩
theorem d_c {V : Vk} {T : Nat → Int32} {N p : Nat} {g0 g : Hq} {f q a : Int32} (hf : ¬ f = 0) (h : De V T N p g0 f q g) : ∃ g2, rp_c V p a g = some ((), g2) ∧ De V T N p g0 f q g2 := by
  obtain ⟨v, g7, a7, h7⟩ := d_num (lo := 0) (hi := 23) hf h
  obtain ⟨g8, a8, h8⟩ := d_d (a := a) (b := v) hf h7
  exact ⟨g8, by unfold rp_c; rw [a7, bnd_some, a8], h8⟩
theorem d_b {V : Vk} {T : Nat → Int32} {N p : Nat} {g0 g : Hq} {f q a : Int32} (hf : ¬ f = 0) (h : De V T N p g0 f q g) : ∃ g2, rp_b V p a g = some ((), g2) ∧ De V T N p g0 f q g2 := by
  obtain ⟨g7, a7, h7⟩ := d_word (t := 8) hf h (by decide)
  obtain ⟨g8, a8, h8⟩ := d_c (a := a) hf h7
  exact ⟨g8, by unfold rp_b; rw [a7, bnd_some, a8], h8⟩
/-- a line's outcome -/
def OutP (V : Vk) (T : Nat → Int32) (N p : Nat) (gx0 gm0 : Hq) (s : Nat) (t5 : Int32) (x : Option (Unit × Hq)) (m : Option (Int32 × Hq)) : Prop := (∃ gx' gm' s', x = some ((), gx') ∧ m = some (1, gm') ∧ Li V T N p gx0 gm0 s' gx' gm' ∧ s ≤ s' ∧ RL1 (cmb gx' gm').1 p 4 ∧ gx'.1 18 5 = t5) ∨ (∃ gx' gm', x = some ((), gx') ∧ m = some (0, gm') ∧ Ba V T N p gx0 gm0 gx' gm')
theorem OutP.mo {V : Vk} {T : Nat → Int32} {N p : Nat} {gx0 gm0 : Hq} {s s2 : Nat} {t5 : Int32} {x : Option (Unit × Hq)} {m : Option (Int32 × Hq)} (h : OutP V T N p gx0 gm0 s2 t5 x m) (hs : s ≤ s2) : OutP V T N p gx0 gm0 s t5 x m := by
  rcases h with ⟨gx', gm', s', h1, h2, h3, h4, h5, h6⟩ | h
  · exact Or.inl ⟨gx', gm', s', h1, h2, h3, by omega, h5, h6⟩
  · exact Or.inr h
/-- between class and reference within a line of power -/
def PS (V : Vk) (T : Nat → Int32) (N p : Nat) (gx0 gm0 : Hq) (n s : Nat) (t5 : Int32) (gx gm : Hq) : Prop := Li V T N p gx0 gm0 s gx gm ∧ RL1 (cmb gx gm).1 p 4 ∧ gx.1 p 8 = nI n ∧ gm.1 87 4 = nI n ∧ n < 12 ∧ gx.1 18 5 = t5
theorem PS.f {V : Vk} {T : Nat → Int32} {N p : Nat} {gx0 gm0 : Hq} {n s s2 : Nat} {t5 : Int32} {gx gm gx' gm' : Hq} (h : PS V T N p gx0 gm0 n s t5 gx gm) (l : Li V T N p gx0 gm0 s2 gx' gm') (F : F18 gx gx') (G : F70 gm gm') : PS V T N p gx0 gm0 n s2 t5 gx' gm' := by
  have hp' := law_b h.1.p
  exact ⟨l, RL1_f h.1.p h.2.1 F.1 G, by rw [F.1 p (by omega)]; exact h.2.2.1, by rw [G.1 87 (by decide)]; exact h.2.2.2.1, h.2.2.2.2.1, by rw [F.2.1 5 (by omega)]; exact h.2.2.2.2.2⟩
theorem PS.w {V : Vk} {T : Nat → Int32} {N p j : Nat} {gx0 gm0 : Hq} {n s : Nat} {t5 v : Int32} {gx gm : Hq} (h : PS V T N p gx0 gm0 n s t5 gx gm) (hj : 4 * (48 + n) ≤ j) : PS V T N p gx0 gm0 n s t5 gx (sI gm 86 j v) := ⟨h.1.wm (Or.inr (Or.inl ⟨rfl, by omega⟩)), RL1_86 h.1.p h.2.1 h.2.2.2.1 h.2.2.2.2.1 hj, h.2.2.1, by rw [sI_1, up2_nk _ _ _ (by decide)]; exact h.2.2.2.1, h.2.2.2.2.1, h.2.2.2.2.2⟩
theorem P_f {V : Vk} {T : Nat → Int32} {N p : Nat} {gx0 gm0 : Hq} {n s : Nat} {t5 a b c : Int32} {gx gm : Hq} (h : PS V T N p gx0 gm0 n s t5 gx gm) (m1 : gm.1 86 (4 * (48 + n)) = a) (m2 : gm.1 86 (4 * (48 + n) + 1) = b) (m3 : gm.1 86 (4 * (48 + n) + 2) = c) (a0 : 0 ≤ a.toInt) : OutP V T N p gx0 gm0 s t5 (rp_f V p a b c gx) (mp_f V (nI (4 * (48 + n))) gm) := by
  obtain ⟨d, gx', gm', s', b1, b2, b3, b4, b5, b6, b7⟩ := l_cry h.1
  have h' := h.f b4 b6 b7
  have hV := h.1.V
  have hp := h.1.p
  have hp' := law_b hp
  obtain ⟨k1, k2, k3, k4, k5, k6⟩ := h'
  have nd : vp_nar .boolean d = d := by rcases b3 with q | q <;> rw [q] <;> decide
  have hR := k1.R
  refine Or.inl ⟨sI (sI (sI (sI (sI gx' (p + 1) n a) (p + 2) n b) (p + 3) n c) (p + 4) n d) p 8 (nI (n + 1)), sI (sI gm' 86 (4 * (48 + n) + 3) d) 87 4 (nI (n + 1)), s', ?_, ?_, ?_, b5, ?_, ?_⟩
  · unfold rp_f
    rw [b1, bnd_some, grd_t (sh_vl hV hp), x_add hV k1.1.2.1.2.1 hp k3 k5, bnd_some, nd]
  · have o86 : okV V 86 0 (nI (4 * (48 + n) + 3)) := ok_nI (n := 240) (t := 0) (v_86 hV) (by omega) (by decide)
    have o87 : okV V 87 0 (4 : Int32) := ok_nI (n := 5) (j := 4) (t := 0) (v_87 hV) (by omega) (by decide)
    have e87 : ∀ z : Int32, (sI gm' 86 (4 * (48 + n) + 3) z).1 87 4 + 1 = nI (n + 1) := fun z => by rw [sI_1, up2_nk _ _ _ (by decide), k4, nI_1]
    unfold mp_f
    rw [q_70_30 h.1.R, bind_some', b2, bnd_some, show nI (4 * (48 + n)) + 3 = nI (4 * (48 + n) + 3) from nI_add _ 3, cl_nI (by omega), show (4 : Int32).toNatClampNeg = 4 from rfl]
    rcases b3 with q | q
    · rw [q, brn_t rfl, grd_t o86, nm_eq, sI_3, q_70_31 hR, bind_some', grd_t o87, grd_t o87, e87, nm_eq]
    · rw [q, brn_f (by decide), grd_t o86, nm_eq, sI_3, q_70_31 hR, bind_some', grd_t o87, grd_t o87, e87, nm_eq]
  · exact (((((k1.wx (by omega) (by omega)).wx (by omega) (by omega)).wx (by omega) (by omega)).wx (by omega) (by omega)).w8 (by omega)).wm (Or.inr (Or.inl ⟨rfl, by omega⟩)) |>.wm (Or.inr (Or.inr ⟨rfl, rfl⟩))
  · have m1' : gm'.1 86 = gm.1 86 := b7.1 86 (by decide)
    have E : ∀ k j, ¬ md k → (cmb (sI (sI (sI (sI (sI gx' (p + 1) n a) (p + 2) n b) (p + 3) n c) (p + 4) n d) p 8 (nI (n + 1))) (sI (sI gm' 86 (4 * (48 + n) + 3) d) 87 4 (nI (n + 1)))).1 k j = up2 (up2 (up2 (up2 (up2 gx'.1 (p + 1) n a) (p + 2) n b) (p + 3) n c) (p + 4) n d) p 8 (nI (n + 1)) k j := fun k j m => by rw [cmb_1 m]; rfl
    have E2 : ∀ k j, md k → (cmb (sI (sI (sI (sI (sI gx' (p + 1) n a) (p + 2) n b) (p + 3) n c) (p + 4) n d) p 8 (nI (n + 1))) (sI (sI gm' 86 (4 * (48 + n) + 3) d) 87 4 (nI (n + 1)))).1 k j = up2 (up2 gm'.1 86 (4 * (48 + n) + 3) d) 87 4 (nI (n + 1)) k j := fun k j m => by rw [cmb_2 m]; rfl
    refine RL1_add (a := a) (b := b) (c := c) (d := d) k2 (by rw [cmb_1 (by omega)]; exact k3) k5 (fun j hj => ?_) ?_ ?_ ?_ (fun i k hi hk1 hk2 => ?_) (fun i hi => ?_) ?_ ?_ ?_ ?_ ?_ ?_ ?_ ?_ a0 b3
    · rw [E _ _ (by omega), cmb_1 (by omega), up2_ne _ _ (by omega), up2_ne _ _ (by omega), up2_ne _ _ (by omega), up2_ne _ _ (by omega), up2_ne _ _ (by omega)]
    · rw [E _ _ (by omega), up2_s]
    · rw [E2 _ _ (by omega), up2_s]
    · funext j; rw [E2 _ _ (by omega), cmb_2 (by omega), up2_ne _ _ (by omega), up2_ne _ _ (by omega)]
    · rw [E _ _ (by omega), cmb_1 (by omega), up2_ne _ _ (by omega), up2_ne _ _ (by omega), up2_ne _ _ (by omega), up2_ne _ _ (by omega), up2_ne _ _ (by omega)]
    · rw [E2 _ _ (by omega), cmb_2 (by omega), up2_ne _ _ (by omega), up2_ne _ _ (by omega)]
    · rw [E _ _ (by omega), up2_ne _ _ (by omega), up2_ne _ _ (by omega), up2_ne _ _ (by omega), up2_ne _ _ (by omega), up2_s]
    · rw [E _ _ (by omega), up2_ne _ _ (by omega), up2_ne _ _ (by omega), up2_ne _ _ (by omega), up2_s]
    · rw [E _ _ (by omega), up2_ne _ _ (by omega), up2_ne _ _ (by omega), up2_s]
    · rw [E _ _ (by omega), up2_ne _ _ (by omega), up2_s]
    · rw [E2 _ _ (by omega), up2_ne _ _ (by omega), up2_ne _ _ (by omega), m1']; exact m1
    · rw [E2 _ _ (by omega), up2_ne _ _ (by omega), up2_ne _ _ (by omega), m1']; exact m2
    · rw [E2 _ _ (by omega), up2_ne _ _ (by omega), up2_ne _ _ (by omega), m1']; exact m3
    · rw [E2 _ _ (by omega), up2_ne _ _ (by omega), up2_s]
  · rw [sI_1, up2_ne _ _ (Or.inl (by omega)), sI_1, up2_ne _ _ (Or.inl (by omega)), sI_1, up2_ne _ _ (Or.inl (by omega)), sI_1, up2_ne _ _ (Or.inl (by omega)), sI_1, up2_ne _ _ (Or.inl (by omega))]
    exact k6
theorem P_e {V : Vk} {T : Nat → Int32} {N p : Nat} {gx0 gm0 : Hq} {n s : Nat} {t5 a b : Int32} {gx gm : Hq} (h : PS V T N p gx0 gm0 n s t5 gx gm) (m1 : gm.1 86 (4 * (48 + n)) = a) (m2 : gm.1 86 (4 * (48 + n) + 1) = b) (a0 : 0 ≤ a.toInt) : OutP V T N p gx0 gm0 s t5 (rp_e V p a b gx) (mp_e V (nI (4 * (48 + n))) gm) := by
  have hn := h.2.2.2.2.1
  unfold rp_e mp_e
  rw [show nI (4 * (48 + n)) + 2 = nI (4 * (48 + n) + 2) from nI_add _ 2]
  rcases l_hour (k := 4 * (48 + n) + 2) h.1 (by omega) (by omega) with ⟨v, gx', gm', s', b1, b2, b3, b4, b5, b6⟩ | ⟨v, gx', gm', b1, b2, f, q, c1, c2, c3⟩
  · rw [b1, bnd_some, b2, bnd_some, brn_f (by decide)]
    have e : ∀ j, gm'.1 86 j = (sI gm 86 (4 * (48 + n) + 2) v).1 86 j := fun j => by rw [b6.1 86 (by decide)]
    refine (P_f ((h.w (by omega)).f b3 b5 b6) ?_ ?_ ?_ a0).mo (by omega)
    · rw [e, sI_1, up2_ne _ _ (by omega)]; exact m1
    · rw [e, sI_1, up2_ne _ _ (by omega)]; exact m2
    · rw [e, sI_1, up2_s]
  · rw [b1, bnd_some, b2, bnd_some, brn_t rfl]
    obtain ⟨g8, a8, h8⟩ := d_f (a := a) (b := b) (c := v) c2
    exact Or.inr ⟨g8, gm', a8, rfl, f, q, c1, h8, c3⟩
theorem P_d {V : Vk} {T : Nat → Int32} {N p : Nat} {gx0 gm0 : Hq} {n s : Nat} {t5 a b : Int32} {gx gm : Hq} (h : PS V T N p gx0 gm0 n s t5 gx gm) (m1 : gm.1 86 (4 * (48 + n)) = a) (m2 : gm.1 86 (4 * (48 + n) + 1) = b) (a0 : 0 ≤ a.toInt) : OutP V T N p gx0 gm0 s t5 (rp_d V p a b gx) (mp_d V (nI (4 * (48 + n))) gm) := by
  unfold rp_d mp_d
  rcases l_word (t := 9) (w := 8) h.1 (by decide) rfl with ⟨gx', gm', s', b1, b2, b3, b4, b5, b6⟩ | ⟨gx', gm', b1, b2, f, q, c1, c2, c3⟩
  · rw [b1, bnd_some, b2, bnd_some, brn_f (by decide)]
    exact (P_e (h.f b3 b5 b6) (by rw [b6.1 86 (by decide)]; exact m1) (by rw [b6.1 86 (by decide)]; exact m2) a0).mo (by omega)
  · rw [b1, bnd_some, b2, bnd_some, brn_t rfl]
    obtain ⟨g8, a8, h8⟩ := d_e (a := a) (b := b) c1.1 c2
    exact Or.inr ⟨g8, gm', a8, rfl, f, q, c1, h8, c3⟩
theorem P_c {V : Vk} {T : Nat → Int32} {N p : Nat} {gx0 gm0 : Hq} {n s : Nat} {t5 a : Int32} {gx gm : Hq} (h : PS V T N p gx0 gm0 n s t5 gx gm) (m1 : gm.1 86 (4 * (48 + n)) = a) (a0 : 0 ≤ a.toInt) : OutP V T N p gx0 gm0 s t5 (rp_c V p a gx) (mp_c V (nI (4 * (48 + n))) gm) := by
  have hn := h.2.2.2.2.1
  unfold rp_c mp_c
  rw [show nI (4 * (48 + n)) + 1 = nI (4 * (48 + n) + 1) from nI_1 _]
  rcases l_hour (k := 4 * (48 + n) + 1) h.1 (by omega) (by omega) with ⟨v, gx', gm', s', b1, b2, b3, b4, b5, b6⟩ | ⟨v, gx', gm', b1, b2, f, q, c1, c2, c3⟩
  · rw [b1, bnd_some, b2, bnd_some, brn_f (by decide)]
    have e : ∀ j, gm'.1 86 j = (sI gm 86 (4 * (48 + n) + 1) v).1 86 j := fun j => by rw [b6.1 86 (by decide)]
    refine (P_d ((h.w (by omega)).f b3 b5 b6) ?_ ?_ a0).mo (by omega)
    · rw [e, sI_1, up2_ne _ _ (by omega)]; exact m1
    · rw [e, sI_1, up2_s]
  · rw [b1, bnd_some, b2, bnd_some, brn_t rfl]
    obtain ⟨g8, a8, h8⟩ := d_d (a := a) (b := v) c1.1 c2
    exact Or.inr ⟨g8, gm', a8, rfl, f, q, c1, h8, c3⟩
theorem P_b {V : Vk} {T : Nat → Int32} {N p : Nat} {gx0 gm0 : Hq} {n s : Nat} {t5 a : Int32} {gx gm : Hq} (h : PS V T N p gx0 gm0 n s t5 gx gm) (m1 : gm.1 86 (4 * (48 + n)) = a) (a0 : 0 ≤ a.toInt) : OutP V T N p gx0 gm0 s t5 (rp_b V p a gx) (mp_b V (nI (4 * (48 + n))) gm) := by
  unfold rp_b mp_b
  rcases l_word (t := 8) (w := 7) h.1 (by decide) rfl with ⟨gx', gm', s', b1, b2, b3, b4, b5, b6⟩ | ⟨gx', gm', b1, b2, f, q, c1, c2, c3⟩
  · rw [b1, bnd_some, b2, bnd_some, brn_f (by decide)]
    exact (P_c (h.f b3 b5 b6) (by rw [b6.1 86 (by decide)]; exact m1) a0).mo (by omega)
  · rw [b1, bnd_some, b2, bnd_some, brn_t rfl]
    obtain ⟨g8, a8, h8⟩ := d_c (a := a) c1.1 c2
    exact Or.inr ⟨g8, gm', a8, rfl, f, q, c1, h8, c3⟩
theorem l_readPower {V : Vk} {T : Nat → Int32} {N p : Nat} {gx0 gm0 : Hq} {s : Nat} {t5 : Int32} {gx gm : Hq} (h : Li V T N p gx0 gm0 s gx gm) (hd : RL1 (cmb gx gm).1 p 4) (h5 : gx.1 18 5 = t5) (k1 : ¬ gx.1 18 1 = 0) : OutP V T N p gx0 gm0 (s + 1) t5 (r_X3_readPower V 18 p gx) (r_X12_readPower V 70 gm) := by
  have hV := h.V
  have hR := h.R
  have hp := h.p
  have hp' := law_b hp
  obtain ⟨n, n1, n2, n3, -⟩ := hd.2.1
  rw [cmb_1 (by omega)] at n2
  rw [cmb_2 (by omega)] at n3
  have o87 : okV V 87 0 (4 : Int32) := ok_nI (n := 5) (j := 4) (t := 0) (v_87 hV) (by omega) (by decide)
  unfold r_X3_readPower r_X4_hasRoomForPower r_X12_readPower
  rw [grd_t (sh_vl hV hp), grd_t (sh_vl hV hp), n2, grd_t (v_70 hV), q_70_31 hR, bind_some', grd_t o87, show (4 : Int32).toNatClampNeg = 4 from rfl, n3]
  by_cases c : n = 12
  · rw [c, brn_t (by decide), bnd_some, brn_t rfl, grd_t (v_18 hV), brn_t (by decide)]
    obtain ⟨gx', gm', q, b1, b2, b3, b4, b5, b6, b7, b8⟩ := l_blame (c := 4) h (by decide)
    obtain ⟨g2, d1, d2⟩ := d_rp12 (by decide) b3
    rw [b1, bnd_some, b2, bnd_some, grd_t nbz, d1]
    exact Or.inr ⟨g2, gm', rfl, rfl, 4, q, by decide, d2, b5, b6, b7, b8⟩
  · have hn : n < 12 := by omega
    rw [brn_f (show ¬ (12 : Int32) ≤ nI n from nI_ge (b := 12) (by omega) (by omega)), bnd_some, brn_f (by decide), brn_f (show ¬ nI n = 12 from fun q => c ((nI_eq (b := 12) (by omega) (by omega)).mp q)), bind_some', grd_t o87, n3, show (4 : Int32) * ((48 : Int32) + nI n) = nI (4 * (48 + n)) by rw [show (48 : Int32) + nI n = nI (48 + n) from nI_add 48 n]; exact pk_mul 4 _, nm_eq]
    obtain ⟨s1, gx1, gm1, b1, b2, b3, b4, b5, b6, b7⟩ := l_adv h
    have b7 := b7 k1
    have h1 : PS V T N p gx0 gm0 n s1 t5 gx1 gm1 := PS.f (s := s) ⟨h, hd, n2, n3, hn, h5⟩ b5 b3 b4
    have X : r_X3_readPower_12 V 18 p gx = bnd (r_X3_takePower V 18 gx1) fun x17 g16 => rp_b V p x17 g16 := by
      unfold r_X3_readPower_12
      rw [grd_t (v_18 hV), b1, bnd_some]
      rfl
    rw [X, b2, bnd_some]
    have hR1 := b5.R
    rcases l_power (k := 4 * (48 + n)) b5 (by omega) with ⟨c1, c2, v, gx', gm', s', d1, d2, d3, d4, d5, d6, d7, d8⟩ | ⟨c1, v, gx', gm', d1, d2, f, q, e1, e2, e3⟩
    · rw [brn_t c1, brn_t c2, q_70_30 hR1, bind_some', grd_t (ok_nI (n := 240) (t := 0) (v_86 hV) (by omega) (by decide)), cl_nI (by omega), d1, nm_eq, d3, bnd_some, d4, bnd_some]
      refine (P_b (a := v) ((h1.w (by omega)).f d5 d7 d8) ?_ d2).mo (by omega)
      rw [d8.1 86 (by decide), sI_1, up2_s]
    · rw [d1, bnd_some, d2, bnd_some, grd_t nbz]
      obtain ⟨g8, a8, h8⟩ := d_b (a := v) e1.1 e2
      refine Or.inr ⟨g8, gm', a8, ?_, f, q, e1, h8, e3⟩
      by_cases z : gm1.1 70 3 = 1
      · rw [brn_t z, brn_f (fun y => c1 ⟨z, y⟩)]
      · rw [brn_f z]
