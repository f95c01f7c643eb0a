theorem t20 : (20 : Int32).toInt = 20 := rfl
theorem t800 : (800 : Int32).toInt = 800 := rfl
def putL (g : Hq) (o r : Nat) : List Int32 → Hq
  | [] => g
  | v :: vs => putL (putB g o r v) o r vs
def wrL (q : (Nat → Int32) × Int32) : List Int32 → (Nat → Int32) × Int32
  | [] => q
  | v :: vs => wrL (upd q.1 q.2.toNatClampNeg v, q.2 + 1) vs
theorem putL_app (o r : Nat) (us : List Int32) : ∀ (g : Hq) (vs : List Int32), putL (putL g o r us) o r vs = putL g o r (us ++ vs) := by
  induction us with
  | nil => intro g vs; rfl
  | cons u us ih => intro g vs; exact ih (putB g o r u) vs
theorem putL_q {o r : Nat} (h : r ≠ o) (vs : List Int32) : ∀ g : Hq, ((putL g o r vs).1 r, (putL g o r vs).1 o 1) = wrL (g.1 r, g.1 o 1) vs := by
  induction vs with
  | nil => intro g; rfl
  | cons v vs ih =>
    intro g
    show ((putL (putB g o r v) o r vs).1 r, (putL (putB g o r v) o r vs).1 o 1) = wrL (upd (g.1 r) (g.1 o 1).toNatClampNeg v, g.1 o 1 + 1) vs
    rw [ih (putB g o r v), putB_r h, putB_o h]
theorem putL_R (o r : Nat) (vs : List Int32) : ∀ g : Hq, (putL g o r vs).2 = g.2 := by
  induction vs with
  | nil => intro g; rfl
  | cons v vs ih => intro g; exact ih (putB g o r v)
theorem putL_x {o r a : Nat} (h1 : a ≠ o) (h2 : a ≠ r) (vs : List Int32) : ∀ g : Hq, (putL g o r vs).1 a = g.1 a := by
  induction vs with
  | nil => intro g; rfl
  | cons v vs ih => intro g; exact (ih (putB g o r v)).trans (putB_x h1 h2)
theorem putL_s {o r j : Nat} (h : r ≠ o) (h1 : j ≠ 1) (vs : List Int32) : ∀ g : Hq, (putL g o r vs).1 o j = g.1 o j := by
  induction vs with
  | nil => intro g; rfl
  | cons v vs ih => intro g; exact (ih (putB g o r v)).trans (putB_s h h1)
theorem wrL_n (vs : List Int32) : ∀ q : (Nat → Int32) × Int32, 0 ≤ q.2.toInt → q.2.toInt + vs.length ≤ 800 → (wrL q vs).2.toInt = q.2.toInt + vs.length := by
  induction vs with
  | nil => intro q _ _; simp [wrL]
  | cons v vs ih =>
    intro q h0 h1
    have e : (q.2 + 1).toInt = q.2.toInt + 1 := i_add (by have : (1 : Int32).toInt = 1 := rfl; omega) (by have : (1 : Int32).toInt = 1 := rfl; simp at h1; omega)
    simp only [List.length_cons] at h1 ⊢
    show (wrL (upd q.1 q.2.toNatClampNeg v, q.2 + 1) vs).2.toInt = _
    rw [ih _ (by show 0 ≤ (q.2 + 1).toInt; omega) (by show (q.2 + 1).toInt + _ ≤ _; omega)]
    show (q.2 + 1).toInt + _ = _
    omega
theorem wrL_b (vs : List Int32) : ∀ q : (Nat → Int32) × Int32, (∀ v ∈ vs, v.toInt8.toInt32 = v) → (∀ j, (q.1 j).toInt8.toInt32 = q.1 j) → ∀ j, ((wrL q vs).1 j).toInt8.toInt32 = (wrL q vs).1 j := by
  induction vs with
  | nil => intro q _ h; exact h
  | cons v vs ih =>
    intro q h1 h2
    refine ih _ (fun w hw => h1 w (List.mem_cons_of_mem _ hw)) (fun j => ?_)
    show (upd q.1 _ v j).toInt8.toInt32 = upd q.1 _ v j
    unfold upd
    by_cases hj : j = q.2.toNatClampNeg
    · simp [hj, h1 v List.mem_cons_self]
    · simp [hj, h2 j]
theorem RT_putL {g : Hq} {vs : List Int32} (h : RT g) (hv : ∀ v ∈ vs, v.toInt8.toInt32 = v) (hn : (g.1 70 1).toInt + vs.length ≤ 800) : RT (putL (putL g 1 2 vs) 70 71 vs) := by
  obtain ⟨h1, h2, h3, h4, h5⟩ := h
  have q1 := putL_q (o := 1) (r := 2) (by decide) vs g
  have q2 := putL_q (o := 70) (r := 71) (by decide) vs (putL g 1 2 vs)
  have e71 : (putL g 1 2 vs).1 71 = g.1 71 := putL_x (by decide) (by decide) vs g
  have e70 : (putL g 1 2 vs).1 70 = g.1 70 := putL_x (by decide) (by decide) vs g
  rw [e71, e70] at q2
  rw [h1, h4] at q1
  unfold RT
  have f1 : (putL (putL g 1 2 vs) 70 71 vs).1 1 = (putL g 1 2 vs).1 1 := putL_x (by decide) (by decide) vs _
  have f2 : (putL (putL g 1 2 vs) 70 71 vs).1 2 = (putL g 1 2 vs).1 2 := putL_x (by decide) (by decide) vs _
  rw [f1, f2]
  have a1 := congrArg Prod.fst q1
  have a2 := congrArg Prod.snd q1
  have b1 := congrArg Prod.fst q2
  have b2 := congrArg Prod.snd q2
  dsimp only at a1 a2 b1 b2
  rw [a1, a2, b1, b2]
  have hl := wrL_n vs (g.1 71, g.1 70 1) h2 hn
  refine ⟨rfl, ?_, ?_, rfl, wrL_b vs _ hv h5⟩
  · rw [hl]; show 0 ≤ (g.1 70 1).toInt + _; omega
  · rw [hl]; exact hn
def by5 (a : Int32) : List Int32 := [by4 a 24, by4 a 16, by4 a 8, by4 a 0]
theorem by5_ok (a : Int32) : ∀ v ∈ by5 a, v.toInt8.toInt32 = v := by
  intro v hv
  simp only [by5, List.mem_cons, List.not_mem_nil, or_false] at hv
  rcases hv with rfl | rfl | rfl | rfl <;> exact by4_ok _ _
theorem s_append {V : Vk} {k r : Nat} {a : Int32} (g : Hq) (x y : Int32) (hy : x + (-8) = y) (hV : V k = some (8, 0)) (hr : g.2.2 k 0 = some r) (hv : V r = some (101, 800)) (hne : r ≠ k) (hx : ¬ x < 0) (h0 : 0 ≤ (g.1 k 1).toInt) (h1 : (g.1 k 1).toInt < 800) : r_X8_append_3 V (k, a, x, g) = some (.inl (k, a, y, putB g k r (by4 a x))) := by
  subst hy
  show r_X8_append_3' V k a x g = _
  unfold r_X8_append_3'
  have h2 : ¬ (800 : Int32) ≤ g.1 k 1 := by rw [i_le]; have := t800; omega
  rw [brn_f hx, grd_t hV, brn_f h2, hr, bind_some', grd_t (okV_of (n := 800) hv (i_in.mpr ⟨h0, by omega⟩))]
  rfl
theorem p_append {V : Vk} {k r : Nat} {a : Int32} {g : Hq} (hV : V k = some (8, 0)) (hr : g.2.2 k 0 = some r) (hv : V r = some (101, 800)) (hne : r ≠ k) (h0 : 0 ≤ (g.1 k 1).toInt) (h1 : (g.1 k 1).toInt + 4 ≤ 800) : r_X8_append V k a g = some ((), putL g k r (by5 a)) := by
  have one : (1 : Int32).toInt = 1 := rfl
  have st : ∀ (g' : Hq) (v : Int32) (m : Int), (g'.1 k 1).toInt = m → 0 ≤ m → m < 800 → ((putB g' k r v).1 k 1).toInt = m + 1 := by
    intro g' v m e a1 a2
    rw [putB_o hne, i_add (by omega) (by omega), e, one]
  have n1 := st g (by4 a 24) _ rfl h0 (by omega)
  have n2 := st _ (by4 a 16) _ n1 (by omega) (by omega)
  have n3 := st _ (by4 a 8) _ n2 (by omega) (by omega)
  unfold r_X8_append
  rw [lop_l (s_append g 24 16 (by decide) hV hr hv hne (by decide) h0 (by omega)), lop_l (s_append (putB g k r (by4 a 24)) 16 8 (by decide) hV hr hv hne (by decide) (by omega) (by omega)), lop_l (s_append (putB (putB g k r (by4 a 24)) k r (by4 a 16)) 8 0 (by decide) hV hr hv hne (by decide) (by omega) (by omega)), lop_l (s_append (putB (putB (putB g k r (by4 a 24)) k r (by4 a 16)) k r (by4 a 8)) 0 (-8) (by decide) hV hr hv hne (by decide) (by omega) (by omega))]
  refine lop_r ?_
  show r_X8_append_3' V k a (-8) (putL g k r (by5 a)) = _
  unfold r_X8_append_3'
  rw [brn_t (by decide)]
theorem s_feed73 {V : Vk} {a1 a2 a3 a4 a5 i v : Int32} (g : Hq) (x y : Int32) (hy : x + (-8) = y) (hV : V 70 = some (12, 0)) (hr : g.2.2 70 0 = some 71) (hv : V 71 = some (101, 800)) (hx : ¬ x < 0) (h0 : 0 ≤ (g.1 70 1).toInt) (h1 : (g.1 70 1).toInt < 800) : r_X12_feed_73 V (70, a1, a2, a3, a4, a5, i, v, x, g) = some (.inl (70, a1, a2, a3, a4, a5, i, v, y, putB g 70 71 (by4 v x))) := by
  subst hy
  show r_X12_feed_73' V 70 a1 a2 a3 a4 a5 i v x g = _
  unfold r_X12_feed_73'
  rw [brn_f hx, grd_t hV, hr, bind_some', grd_t (okV_of (n := 800) hv (i_in.mpr ⟨h0, by omega⟩))]
  rfl
theorem p_feed73 {V : Vk} {a1 a2 a3 a4 a5 i v : Int32} {g : Hq} (hV : V 70 = some (12, 0)) (hr : g.2.2 70 0 = some 71) (hv : V 71 = some (101, 800)) (h0 : 0 ≤ (g.1 70 1).toInt) (h1 : (g.1 70 1).toInt + 4 ≤ 800) : lop (r_X12_feed_73 V) (70, a1, a2, a3, a4, a5, i, v, 24, g) = some (.inl (70, a1, a2, a3, a4, a5, i + 1, putL g 70 71 (by5 v))) := by
  have one : (1 : Int32).toInt = 1 := rfl
  have st : ∀ (g' : Hq) (v : Int32) (m : Int), (g'.1 70 1).toInt = m → 0 ≤ m → m < 800 → ((putB g' 70 71 v).1 70 1).toInt = m + 1 := by
    intro g' v m e a1 a2
    rw [putB_o (by decide), i_add (by omega) (by omega), e, one]
  have n1 := st g (by4 v 24) _ rfl h0 (by omega)
  have n2 := st _ (by4 v 16) _ n1 (by omega) (by omega)
  have n3 := st _ (by4 v 8) _ n2 (by omega) (by omega)
  rw [lop_l (s_feed73 g 24 16 (by decide) hV hr hv (by decide) h0 (by omega)), lop_l (s_feed73 (putB g 70 71 (by4 v 24)) 16 8 (by decide) hV hr hv (by decide) (by omega) (by omega)), lop_l (s_feed73 (putB (putB g 70 71 (by4 v 24)) 70 71 (by4 v 16)) 8 0 (by decide) hV hr hv (by decide) (by omega) (by omega)), lop_l (s_feed73 (putB (putB (putB g 70 71 (by4 v 24)) 70 71 (by4 v 16)) 70 71 (by4 v 8)) 0 (-8) (by decide) hV hr hv (by decide) (by omega) (by omega))]
  refine lop_r ?_
  show r_X12_feed_73' V 70 a1 a2 a3 a4 a5 i v (-8) (putL g 70 71 (by5 v)) = _
  unfold r_X12_feed_73'
  rw [brn_t (by decide)]
  rfl
def by20 (a1 a2 a3 a4 a5 : Int32) : List Int32 := by5 a1 ++ (by5 a2 ++ (by5 a3 ++ (by5 a4 ++ by5 a5)))
theorem putL_n {g : Hq} {o r : Nat} {vs : List Int32} (h : r ≠ o) (h0 : 0 ≤ (g.1 o 1).toInt) (h1 : (g.1 o 1).toInt + vs.length ≤ 800) : ((putL g o r vs).1 o 1).toInt = (g.1 o 1).toInt + vs.length := by
  have q := congrArg Prod.snd (putL_q h vs g)
  dsimp only at q
  rw [q]
  exact wrL_n vs (g.1 r, g.1 o 1) h0 h1
theorem len20 (a1 a2 a3 a4 a5 : Int32) : (by20 a1 a2 a3 a4 a5).length = 20 := rfl
theorem putL_20 {g : Hq} {o r : Nat} {a1 a2 a3 a4 a5 : Int32} (h : r ≠ o) (h0 : 0 ≤ (g.1 o 1).toInt) (h1 : (g.1 o 1).toInt + 20 ≤ 800) : (putL g o r (by20 a1 a2 a3 a4 a5)).1 o 1 = g.1 o 1 + 20 := by
  rw [i_eq, putL_n h h0 (by rw [len20]; omega), len20, i_add (by rw [t20]; omega) (by rw [t20]; omega), t20]
  omega
theorem p_appL {V : Vk} {g : Hq} (hV : ShV V) (hR : ShR g.2.2) (us : List Int32) (a : Int32) (h0 : 0 ≤ (g.1 1 1).toInt) (h1 : (g.1 1 1).toInt + us.length + 4 ≤ 800) : r_X8_append V 1 a (putL g 1 2 us) = some ((), putL g 1 2 (us ++ by5 a)) := by
  have m := putL_n (g := g) (o := 1) (r := 2) (vs := us) (by decide) h0 (by omega)
  rw [p_append (v_1 hV) (by rw [putL_R]; exact q_1_0 hR) (v_2 hV) (by decide) (by omega) (by omega), putL_app]
theorem p_feedX {V : Vk} {a1 a2 a3 a4 a5 : Int32} {g : Hq} (hV : ShV V) (hR : ShR g.2.2) (h0 : 0 ≤ (g.1 1 1).toInt) (h1 : (g.1 1 1).toInt + 20 ≤ 800) : r_X11_feed V 0 a1 a2 a3 a4 a5 g = some (g.1 1 1 + 20, putL g 1 2 (by20 a1 a2 a3 a4 a5)) := by
  have hv0 := v_0 hV
  have hv1 := v_1 hV
  have hq := q_0_0 hR
  have e20 := t20
  have hroom : ¬ (800 : Int32) < g.1 1 1 + 20 := by rw [i_lt, i_add (by omega) (by omega)]; have := t800; omega
  have m5 := putL_20 (g := g) (o := 1) (r := 2) (a1 := a1) (a2 := a2) (a3 := a3) (a4 := a4) (a5 := a5) (by decide) h0 h1
  have hx : ∀ vs, (putL g 1 2 vs).2.2 = g.2.2 := fun vs => by rw [putL_R]
  unfold r_X11_feed r_X8_hasRoomFor r_X8_length
  rw [grd_t hv0, hq, bind_some', grd_t hv1, grd_t hv1, brn_f hroom, bnd_some, brn_f (by decide), hq, bind_some', grd_t hv1]
  rw [show r_X8_append V 1 a1 g = _ from p_appL hV hR [] a1 h0 (by simp; omega), bnd_some, hx, hq, bind_some', grd_t hv1]
  rw [p_appL hV hR _ a2 h0 (by have : ∀ a, (by5 a).length = 4 := fun _ => rfl; simp [this]; omega), bnd_some, hx, hq, bind_some', grd_t hv1]
  rw [p_appL hV hR _ a3 h0 (by have : ∀ a, (by5 a).length = 4 := fun _ => rfl; simp [this]; omega), bnd_some, hx, hq, bind_some', grd_t hv1]
  rw [p_appL hV hR _ a4 h0 (by have : ∀ a, (by5 a).length = 4 := fun _ => rfl; simp [this]; omega), bnd_some, hx, hq, bind_some', grd_t hv1]
  rw [p_appL hV hR _ a5 h0 (by have : ∀ a, (by5 a).length = 4 := fun _ => rfl; simp [this]; omega), bnd_some, hx, hq, bind_some', grd_t hv1, grd_t hv1, bnd_some]
  have e9 : [] ++ by5 a1 ++ by5 a2 ++ by5 a3 ++ by5 a4 ++ by5 a5 = by20 a1 a2 a3 a4 a5 := by simp only [by20, List.nil_append, List.append_assoc]
  rw [e9, m5]
theorem p_feedM {V : Vk} {a1 a2 a3 a4 a5 : Int32} {g : Hq} (hV : ShV V) (hR : ShR g.2.2) (h0 : 0 ≤ (g.1 70 1).toInt) (h1 : (g.1 70 1).toInt + 20 ≤ 800) : r_X12_feed V 70 a1 a2 a3 a4 a5 g = some (g.1 70 1 + 20, putL g 70 71 (by20 a1 a2 a3 a4 a5)) := by
  have hv := v_70 hV
  have e20 := t20
  have hroom : g.1 70 1 + 20 ≤ 800 := by rw [i_le, i_add (by omega) (by omega)]; have := t800; omega
  have m5 := putL_20 (g := g) (o := 70) (r := 71) (a1 := a1) (a2 := a2) (a3 := a3) (a4 := a4) (a5 := a5) (by decide) h0 h1
  have st : ∀ (us : List Int32) (i v : Int32), (g.1 70 1).toInt + us.length + 4 ≤ 800 → lop (r_X12_feed_73 V) (70, a1, a2, a3, a4, a5, i, v, 24, putL g 70 71 us) = some (.inl (70, a1, a2, a3, a4, a5, i + 1, putL g 70 71 (us ++ by5 v))) := by
    intro us i v hu
    have m := putL_n (g := g) (o := 70) (r := 71) (vs := us) (by decide) h0 (by omega)
    rw [p_feed73 hv (by rw [putL_R]; exact q_70_0 hR) (v_71 hV) (by omega) (by omega), putL_app]
  unfold r_X12_feed
  rw [grd_t hv, brn_t hroom]
  have u0 : r_X12_feed_19 V (70, a1, a2, a3, a4, a5, 0, g) = some (.inl (70, a1, a2, a3, a4, a5, 1, putL g 70 71 ([] ++ by5 a1))) := by
    show r_X12_feed_19' V 70 a1 a2 a3 a4 a5 0 g = _
    unfold r_X12_feed_19'
    rw [brn_f (by decide), brn_t rfl]
    exact st [] 0 a1 (by simp; omega)
  have u1 : ∀ us : List Int32, (g.1 70 1).toInt + us.length + 4 ≤ 800 → r_X12_feed_19 V (70, a1, a2, a3, a4, a5, 1, putL g 70 71 us) = some (.inl (70, a1, a2, a3, a4, a5, 2, putL g 70 71 (us ++ by5 a2))) := by
    intro us hu
    show r_X12_feed_19' V 70 a1 a2 a3 a4 a5 1 _ = _
    unfold r_X12_feed_19'
    rw [brn_f (by decide), brn_f (by decide), brn_t rfl]
    exact st us 1 a2 hu
  have u2 : ∀ us : List Int32, (g.1 70 1).toInt + us.length + 4 ≤ 800 → r_X12_feed_19 V (70, a1, a2, a3, a4, a5, 2, putL g 70 71 us) = some (.inl (70, a1, a2, a3, a4, a5, 3, putL g 70 71 (us ++ by5 a3))) := by
    intro us hu
    show r_X12_feed_19' V 70 a1 a2 a3 a4 a5 2 _ = _
    unfold r_X12_feed_19'
    rw [brn_f (by decide), brn_f (by decide), brn_f (by decide), brn_t rfl]
    exact st us 2 a3 hu
  have u3 : ∀ us : List Int32, (g.1 70 1).toInt + us.length + 4 ≤ 800 → r_X12_feed_19 V (70, a1, a2, a3, a4, a5, 3, putL g 70 71 us) = some (.inl (70, a1, a2, a3, a4, a5, 4, putL g 70 71 (us ++ by5 a4))) := by
    intro us hu
    show r_X12_feed_19' V 70 a1 a2 a3 a4 a5 3 _ = _
    unfold r_X12_feed_19'
    rw [brn_f (by decide), brn_f (by decide), brn_f (by decide), brn_f (by decide), brn_t rfl]
    exact st us 3 a4 hu
  have u4 : ∀ us : List Int32, (g.1 70 1).toInt + us.length + 4 ≤ 800 → r_X12_feed_19 V (70, a1, a2, a3, a4, a5, 4, putL g 70 71 us) = some (.inl (70, a1, a2, a3, a4, a5, 5, putL g 70 71 (us ++ by5 a5))) := by
    intro us hu
    show r_X12_feed_19' V 70 a1 a2 a3 a4 a5 4 _ = _
    unfold r_X12_feed_19'
    rw [brn_f (by decide), brn_f (by decide), brn_f (by decide), brn_f (by decide), brn_f (by decide)]
    exact st us 4 a5 hu
  rw [lop_l u0, lop_l (u1 _ (by have : ∀ a, (by5 a).length = 4 := fun _ => rfl; simp [this]; omega)), lop_l (u2 _ (by have : ∀ a, (by5 a).length = 4 := fun _ => rfl; simp [this]; omega)), lop_l (u3 _ (by have : ∀ a, (by5 a).length = 4 := fun _ => rfl; simp [this]; omega)), lop_l (u4 _ (by have : ∀ a, (by5 a).length = 4 := fun _ => rfl; simp [this]; omega))]
  have e9 : [] ++ by5 a1 ++ by5 a2 ++ by5 a3 ++ by5 a4 ++ by5 a5 = by20 a1 a2 a3 a4 a5 := by simp only [by20, List.nil_append, List.append_assoc]
  rw [e9]
  refine lop_r ?_
  show r_X12_feed_19' V 70 a1 a2 a3 a4 a5 5 (putL g 70 71 (by20 a1 a2 a3 a4 a5)) = _
  unfold r_X12_feed_19'
  rw [brn_t (by decide), grd_t hv, m5]
