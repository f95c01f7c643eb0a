set_option maxHeartbeats 4000000 in
theorem m_give {V : Vk} {n : Nat} {T : Nat → Nat} : ∀ (d i men : Nat) (f : Nat → Nat) (g : Hq) (M S : Nat) (F : Nat → Nat), n < i + d → i ≤ n → GB V n T g → RGp (2 ^ i - 1) f men → (∀ j, j < i → g.1 79 j = nI (f j)) → (∀ k, k < men → g.1 81 k = nI (ptM (2 ^ i - 1) f k)) → GS n M S F g → (M = 11 ∨ rwN F n < rwN f i) → GOut n T f i men g M S F (r_X12_give d V 70 (nI i) (nI men) g) := by
  intro d
  induction d with
  | zero => intro i men f g M S F h1 h2; omega
  | succ d ih =>
    intro i men f g M S F hd hi B r h79 h81 s hr
    obtain ⟨hV, hR, hn, h15, h78⟩ := id B
    obtain ⟨s1, s2, s3, s4, s5⟩ := id s
    have mi := rg_m r fl_lt
    show GOut n T f i men g M S F (r_X12_give_B (r_X12_give d V) V 70 (nI i) (nI men) g)
    unfold r_X12_give_B
    rw [grd_t (v_70 hV), s1, h15]
    by_cases hm : men ≤ M
    · rw [brn_t (nI_le hm (by omega))]
      by_cases e : i = n
      · subst e
        rw [brn_t (nI_le (Nat.le_refl _) (by omega))]
        exact m_leaf B r h79 h81 s hr hm
      · have hin : i < n := by omega
        rw [brn_f (nI_ge hin (by omega))]
        have loop : ∀ e k, k + e = men + 1 → ∀ g' M' S' F', Fg g g' → (∀ j, j < i → g'.1 79 j = g.1 79 j) → (∀ q, q < men → g'.1 81 q = g.1 81 q) → GS n M' S' F' g' → Ch n T f i (fun F' => F' i < k) M S F M' S' F' → (∀ c m, RGp (2 ^ n - 1) c m → vdP T (2 ^ n - 1) c m → (∀ j, j < i → c j = f j) → c i < k → Cv n T M' S' F' c m) → ∃ g'' M'' S'' F'', lop (r_X12_give_19 (r_X12_give d V) V) (70, nI i, nI men, nI k, g') = some ((), g'') ∧ Fg g g'' ∧ (∀ j, j < i → g''.1 79 j = g.1 79 j) ∧ (∀ q, q < men → g''.1 81 q = g.1 81 q) ∧ GS n M'' S'' F'' g'' ∧ Ch n T f i (fun F' => F' i < men + 1) M S F M'' S'' F'' ∧ (∀ c m, RGp (2 ^ n - 1) c m → vdP T (2 ^ n - 1) c m → (∀ j, j < i → c j = f j) → c i < men + 1 → Cv n T M'' S'' F'' c m) := by
          intro e
          induction e with
          | zero =>
            intro k hk g' M' S' F' k1 k2 k3 k4 k5 k6
            have ek : k = men + 1 := by omega
            subst ek
            refine ⟨g', M', S', F', lop_r ?_, k1, k2, k3, k4, k5, k6⟩
            show r_X12_give_19' (r_X12_give d V) V 70 (nI i) (nI men) (nI (men + 1)) g' = _
            unfold r_X12_give_19'
            rw [brn_t (nI_lt (by omega) (by omega))]
          | succ e ihe =>
            intro k hk g' M' S' F' k1 k2 k3 k4 k5 k6
            have B' := B.f k1
            have hk' : k ≤ men := by omega
            have o79 : okV V 79 0 (nI i) := ok_nI (n := 10) (v_79 hV) (by omega) (by decide)
            have o81 : okV V 81 0 (nI k) := ok_nI (n := 10) (v_81 hV) (by omega) (by decide)
            obtain ⟨hd', ehd⟩ : ∃ hd', hd' = ptM (2 ^ i - 1) f k := ⟨_, rfl⟩
            obtain ⟨ga, ega⟩ : ∃ ga, ga = sI g' 79 i (nI k) := ⟨_, rfl⟩
            obtain ⟨gb, egb⟩ : ∃ gb, gb = sI ga 81 k (nI (hd' ||| 2 ^ i)) := ⟨_, rfl⟩
            have fa : Fg g' ga := by rw [ega]; exact Fg.w (Or.inl rfl)
            have fbt' : Fg ga gb := by rw [egb]; exact Fg.w (Or.inr (Or.inr (Or.inl rfl)))
            have fab := fa.tr fbt'
            obtain ⟨m', em'⟩ : ∃ m', m' = if k = men then men + 1 else men := ⟨_, rfl⟩
            have b79 : ∀ j, j < i + 1 → gb.1 79 j = nI (if j = i then k else f j) := fun j hj => by
              rw [egb, sI_1, up2_nk _ _ _ (by decide), ega, sI_1, up2_at]
              by_cases z : j = i
              · rw [if_pos ⟨rfl, z⟩, if_pos z]
              · rw [if_neg (fun q => z q.2), if_neg z, k2 j (by omega)]; exact h79 j (by omega)
            have b81 : ∀ q, q < m' → gb.1 81 q = nI (ptM (2 ^ (i + 1) - 1) (fun j => if j = i then k else f j) q) := fun q hq => by
              rw [pt_ext (by omega), egb, sI_1, up2_at]
              by_cases z : q = k
              · rw [if_pos ⟨rfl, z⟩, if_pos z, ehd, z]
              · rw [if_neg (fun w => z w.2), if_neg z, ega, sI_1, up2_nk _ _ _ (by decide)]
                have : q < men := by
                  rw [em'] at hq
                  by_cases w : k = men
                  · rw [if_pos w] at hq; omega
                  · rw [if_neg w] at hq; exact hq
                rw [k3 q this]; exact h81 q this
            have sb : GS n M' S' F' gb := by rw [egb, ega]; exact (k4.w (Or.inl rfl)).w (Or.inr rfl)
            have rk : rwN (fun j => if j = i then k else f j) (i + 1) = rwN f i + k * wt i := by
              show rwN (fun j => if j = i then k else f j) i + (if i = i then k else f i) * wt i = _
              rw [if_pos rfl]
              congr 1
              exact rwN_cg (fun j hj => by rw [if_neg (by omega)])
            have rb : M' = 11 ∨ rwN F' n < rwN (fun j => if j = i then k else f j) (i + 1) := by
              rw [rk]
              rcases k5 with ⟨c1, c2, c3⟩ | ⟨c1, c2, c3, -⟩
              · rw [c1, c3]
                rcases hr with hr | hr
                · exact Or.inl hr
                · right; omega
              · right
                have f15 : ∀ j, j < n → F' j ≤ 15 := fun j hj => by have := rg_le c1.1 j (fbt.mpr hj); omega
                have t := rw_tail (f := F') (i := i) n hin hn f15
                have p := wt_pos (i := n - 1)
                have e1 : rwN F' (i + 1) = rwN f i + F' i * wt i := by
                  show rwN F' i + F' i * wt i = _
                  rw [rwN_cg c2]
                have m1 : (F' i + 1) * wt i ≤ k * wt i := Nat.mul_le_mul_right _ c3
                rw [Nat.add_mul, Nat.one_mul] at m1
                rw [e1] at t
                omega
            obtain ⟨gc, M2, S2, F2, c1, c2, c3, c4, c5, c6, c7⟩ := ih (i + 1) m' (fun j => if j = i then k else f j) gb M' S' F' (by omega) (by omega) (B'.f fab) (by rw [em']; exact rg_ext r hk') b79 b81 sb rb
            have Bc := (B'.f fab).f c2
            obtain ⟨gd, egd⟩ : ∃ gd, gd = sI gc 81 k (nI hd') := ⟨_, rfl⟩
            have fd : Fg gc gd := by rw [egd]; exact Fg.w (Or.inr (Or.inr (Or.inl rfl)))
            have one : (1 : Int32) <<< (nI i &&& 31) = nI (2 ^ i) := b_one (by omega)
            have r52 : r_X12_give_52 (r_X12_give d V) V 70 (nI i) (nI men) (nI k) (nI hd') ga = some (.inl (70, nI i, nI men, nI (k + 1), gd)) := by
              unfold r_X12_give_52
              rw [grd_t (v_70 hV), q_70_20 (B'.f fa).2.1, bind_some', grd_t o81, one, b_or, cl_nI (by omega), nm_eq, ← egb]
              by_cases w : k = men
              · rw [if_pos w] at em'
                rw [brn_t (by rw [w]), nI_1, nI_1, ← em', c1, bnd_some, q_70_20 Bc.2.1, bind_some', grd_t o81, nm_eq, nm_eq, nI_1, egd]
              · rw [if_neg w] at em'
                rw [brn_f (by rw [nI_eq (by omega) (by omega)]; exact w), nI_1, ← em', c1, bnd_some, q_70_20 Bc.2.1, bind_some', grd_t o81, nm_eq, nm_eq, nI_1, egd, em']
            have st : r_X12_give_19 (r_X12_give d V) V (70, nI i, nI men, nI k, g') = some (.inl (70, nI i, nI men, nI (k + 1), gd)) := by
              show r_X12_give_19' (r_X12_give d V) V 70 (nI i) (nI men) (nI k) g' = _
              unfold r_X12_give_19'
              rw [brn_f (nI_nlt hk' (by omega)), brn_f (show ¬ (10 : Int32) ≤ nI k from nI_ge (b := 10) (by omega) (by decide)), grd_t (v_70 hV), q_70_18 B'.2.1, bind_some', grd_t o79, cl_nI (by omega), nm_eq, ← ega]
              by_cases w : men ≤ k
              · have ek : k = men := by omega
                have h0 : hd' = 0 := by rw [ehd, ek]; exact pt_none (by omega) r
                rw [brn_t (nI_le w (by omega))]
                rw [h0] at r52
                exact r52
              · have a81 : ga.1 81 k = nI hd' := by rw [ega, sI_1, up2_nk _ _ _ (by decide), k3 k (by omega), h81 k (by omega), ehd]
                rw [brn_f (nI_ge (by omega) (by omega)), q_70_20 (B'.f fa).2.1, bind_some', grd_t o81, cl_nI (by omega), a81]
                exact r52
            rw [lop_l st]
            refine ihe (k + 1) (by omega) gd M2 S2 F2 (((k1.tr fab).tr c2).tr fd) (fun j hj => ?_) (fun q hq => ?_) ?_ ?_ (fun c m rc vc ec lc => ?_)
            · rw [egd, sI_1, up2_nk _ _ _ (by decide), c3 j (by omega), b79 j (by omega), if_neg (by omega), h79 j hj]
            · rw [egd, sI_1, up2_at]
              by_cases z : q = k
              · rw [if_pos ⟨rfl, z⟩, ehd, ← z, h81 q hq]
              · have q' : q < m' := by rw [em']; split <;> omega
                rw [if_neg (fun w => z w.2), c4 q q', egb, sI_1, up2_at, if_neg (fun w => z w.2), ega, sI_1, up2_nk _ _ _ (by decide)]
                exact k3 q hq
            · rw [egd]; exact c5.w (Or.inr rfl)
            · rcases c6 with ⟨d1, d2, d3⟩ | ⟨d1, d2, -, d4⟩
              · rw [d1, d2, d3]
                rcases k5 with z | ⟨z1, z2, z3, z4⟩
                · exact Or.inl z
                · exact Or.inr ⟨z1, z2, by show F' i < k + 1; omega, z4⟩
              · have d2' : ∀ j, j < i + 1 → F2 j = if j = i then k else f j := d2
                refine Or.inr ⟨d1, fun j hj => by rw [d2' j (by omega), if_neg (by omega)], ?_, ?_⟩
                · show F2 i < k + 1
                  rw [d2' i (by omega), if_pos rfl]; omega
                · rcases k5 with ⟨z1, z2, -⟩ | ⟨-, -, -, z4⟩
                  · rw [← z1, ← z2]; exact d4
                  · exact Nat.lt_trans d4 z4
            · by_cases z : c i = k
              · exact c7 c m rc vc (fun j hj => by
                  show c j = if j = i then k else f j
                  by_cases w : j = i
                  · rw [if_pos w, w]; exact z
                  · rw [if_neg w]; exact ec j (by omega))
              · exact (k6 c m rc vc ec (by omega)).mono c6
        obtain ⟨g'', M'', S'', F'', l1, l2, l3, l4, l5, l6, l7⟩ := loop (men + 1) 0 (by omega) g M S F Fg.rf (fun _ _ => rfl) (fun _ _ => rfl) s (Or.inl ⟨rfl, rfl, rfl⟩) (fun c m _ _ _ h => absurd h (by omega))
        refine ⟨g'', M'', S'', F'', l1, l2, l3, l4, l5, ?_, fun c m rc vc ec => l7 c m rc vc ec ?_⟩
        · rcases l6 with z | ⟨z1, z2, z3, z4⟩
          · exact Or.inl z
          · exact Or.inr ⟨z1, z2, trivial, z4⟩
        · refine Nat.lt_of_not_le (fun w => ?_)
          obtain ⟨j, j0, j1, j2⟩ := rc.2.2 i (fbt.mpr hin) men (by omega)
          have := r.1 j (fbt.mpr j0)
          have := ec j j0
          omega
    · rw [brn_f (nI_ge (by omega) (by omega))]
      refine ⟨g, M, S, F, rfl, Fg.rf, fun _ _ => rfl, fun _ _ => rfl, s, Or.inl ⟨rfl, rfl, rfl⟩, fun c m rc vc ec => Or.inl ?_⟩
      have : men ≤ m := by
        rcases Nat.eq_zero_or_pos men with z | z
        · omega
        · obtain ⟨j, j1, j2⟩ := r.2.1 (men - 1) (by omega)
          have h1 := fbt.mp j1
          have h2 := ec j h1
          have h3 := rc.1 j (fbt.mpr (by omega))
          omega
      omega
