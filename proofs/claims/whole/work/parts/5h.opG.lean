set_option maxHeartbeats 4000000 in
theorem sim_laws {V : Vk} {gx gm : Hq} (a : Int32) (hR : ShR gm.2.2) (hI : Inv V (cmb gx gm)) : Sim V (r_X11_laws V 0 a) (r_X12_laws V 70 a) gx gm := by
  have hV := hI.v
  have hRx : ShR gx.2.2 := hI.r
  have m70 : (cmb gx gm).1 70 = gm.1 70 := cmb_2 (by unfold md; omega)
  have m71 : (cmb gx gm).1 71 = gm.1 71 := cmb_2 (by unfold md; omega)
  have x1 : (cmb gx gm).1 1 = gx.1 1 := cmb_1 (by unfold md; omega)
  have x2 : (cmb gx gm).1 2 = gx.1 2 := cmb_1 (by unfold md; omega)
  have x18 : (cmb gx gm).1 18 = gx.1 18 := cmb_1 (by unfold md; omega)
  obtain ⟨gz, egz⟩ : ∃ gz, gz = sI (sI gm 70 2 (gm.1 70 1)) 70 1 0 := ⟨_, rfl⟩
  have zR : gz.2 = gm.2 := by rw [egz]; rfl
  have zn : ∀ a, a ≠ 70 → gz.1 a = gm.1 a := fun a ha => by rw [egz]; simp only [sI_1]; rw [up2_nk _ _ _ ha, up2_nk _ _ _ ha]
  have z1 : gz.1 70 1 = 0 := by rw [egz, sI_1, up2_s]
  have z2 : gz.1 70 2 = gm.1 70 1 := by rw [egz]; simp only [sI_1]; rw [up2_ne _ _ (Or.inr (by decide)), up2_s]
  have zj : ∀ j, j ≠ 1 → j ≠ 2 → gz.1 70 j = gm.1 70 j := fun j h1 h2 => by rw [egz]; simp only [sI_1]; rw [up2_ne _ _ (Or.inr h1), up2_ne _ _ (Or.inr h2)]
  by_cases hw : 0 ≤ a ∧ a ≤ 3
  · obtain ⟨w, hw3, rfl⟩ := nat_of (n := 3) rfl hw
    have hw4 : w < 4 := by omega
    obtain ⟨t1, t2, t3, t4, t5⟩ := hI.t
    rw [m70] at t1 t2 t3
    rw [x1] at t1
    rw [x2, m71] at t4
    obtain ⟨N, hN⟩ : ∃ N : Nat, (gm.1 70 1).toInt = N := ⟨(gm.1 70 1).toInt.toNat, by omega⟩
    have hN8 : N ≤ 800 := by omega
    have e70 : gm.1 70 1 = nI N := by rw [i_eq, hN, tN (by omega)]
    obtain ⟨f, f1, f2, f3, f4, f5⟩ := hI.l
    rw [cmb_R] at f3 f4
    have hp := f1 4 (by omega)
    have vp := sh_vl hV hp
    obtain ⟨xa, exa⟩ : ∃ xa, xa = fgG (sI (sI (sI (sI gx 18 3 0) 18 5 0) 18 6 0) 18 7 (-1)) (f 4) := ⟨_, rfl⟩
    have p18 : f 4 ≠ 18 ∧ f 4 ≠ 1 ∧ f 4 ≠ 2 := by unfold lawPl at hp; omega
    have a18 : ∀ j, xa.1 18 j = (sI (sI (sI (sI gx 18 3 0) 18 5 0) 18 6 0) 18 7 (-1)).1 18 j := fun j => by rw [exa, fgG_n (Ne.symm p18.1)]
    have aR : xa.2 = gx.2 := by rw [exa]; rfl
    have an : ∀ a, a ≠ 18 → a ≠ f 4 → xa.1 a = gx.1 a := fun a h1 h2 => by rw [exa, fgG_n h2]; simp only [sI_1]; rw [up2_nk _ _ _ h1, up2_nk _ _ _ h1, up2_nk _ _ _ h1, up2_nk _ _ _ h1]
    have a3 : xa.1 18 3 = nI 0 := by rw [a18]; simp only [sI_1, up2_at]; rfl
    have a5 : xa.1 18 5 = nI 0 := by rw [a18]; simp only [sI_1, up2_at]; rfl
    have a6 : xa.1 18 6 = 0 := by rw [a18]; simp only [sI_1, up2_at]; rfl
    have a7 : xa.1 18 7 = -1 := by rw [a18]; simp only [sI_1, up2_at]; rfl
    have a8 : xa.1 (f 4) 8 = nI 0 := by rw [exa, fgG_8]; rfl
    have aj : ∀ j, j < 8 → xa.1 (f 4) j = plv j := fun j hj => by rw [exa, fgG_j j hj]
    obtain ⟨mb, emb⟩ : ∃ mb, mb = sI (sI gz 70 8 0) 70 9 (-1) := ⟨_, rfl⟩
    obtain ⟨ma, ema⟩ : ∃ ma, ma = drG mb := ⟨_, rfl⟩
    have bR : mb.2 = gm.2 := by rw [emb]; exact zR
    have maR : ma.2 = gm.2 := by rw [ema]; exact bR
    have man : ∀ a, a ≠ 70 → a ≠ 85 → a ≠ 87 → ma.1 a = gm.1 a := fun a h1 h2 h3 => by
      rw [ema]; unfold drG; simp only [sI_1]; rw [up2_nk _ _ _ h1, up2_nk _ _ _ h3, sA_n h2, emb]; simp only [sI_1]; rw [up2_nk _ _ _ h1, up2_nk _ _ _ h1, zn a h1]
    have ma70 : ∀ j, j ≠ 6 → j ≠ 8 → j ≠ 9 → ma.1 70 j = gz.1 70 j := fun j h1 h2 h3 => by
      rw [ema]; unfold drG; simp only [sI_1]; rw [up2_ne _ _ (Or.inr h1), up2_nk _ _ _ (by decide), sA_n (by decide), emb]; simp only [sI_1]; rw [up2_ne _ _ (Or.inr h3), up2_ne _ _ (Or.inr h2)]
    have ma6 : ma.1 70 6 = nI 0 := by rw [ema]; unfold drG; rw [sI_1, up2_s]; rfl
    have ma8 : ma.1 70 8 = 0 := by
      rw [ema]; unfold drG; simp only [sI_1]; rw [up2_ne _ _ (Or.inr (by decide)), up2_nk _ _ _ (by decide), sA_n (by decide), emb]; simp only [sI_1]; rw [up2_ne _ _ (Or.inr (by decide)), up2_s]
    have ma9 : ma.1 70 9 = -1 := by
      rw [ema]; unfold drG; simp only [sI_1]; rw [up2_ne _ _ (Or.inr (by decide)), up2_nk _ _ _ (by decide), sA_n (by decide), emb]; simp only [sI_1]; rw [up2_s]
    have b85 : mb.1 85 = gm.1 85 := by rw [emb]; simp only [sI_1]; rw [up2_nk _ _ _ (by decide), up2_nk _ _ _ (by decide), zn 85 (by decide)]
    have b87 : mb.1 87 = gm.1 87 := by rw [emb]; simp only [sI_1]; rw [up2_nk _ _ _ (by decide), up2_nk _ _ _ (by decide), zn 87 (by decide)]
    have ma85 : ma.1 85 = drF (gm.1 85) 8 := by rw [ema]; unfold drG; simp only [sI_1]; rw [up2_nk _ _ _ (by decide), up2_nk _ _ _ (by decide), sA_s, b85]
    have ma87 : ∀ j, ma.1 87 j = if j = 4 then 0 else gm.1 87 j := fun j => by
      rw [ema]; unfold drG; simp only [sI_1]; rw [up2_nk _ _ _ (by decide), up2_at, sA_n (by decide), b87]; simp
    have cx : CX V (gx.1 2) N xa := ⟨hV, by rw [aR]; exact hRx, by rw [an 1 (by decide) (Ne.symm p18.2.1), t1, e70], by rw [an 2 (by decide) (Ne.symm p18.2.2)], hN8⟩
    have cm : CM V (gx.1 2) N ma := ⟨hV, by rw [maR]; exact hR, by rw [ma70 2 (by decide) (by decide) (by decide), z2, e70], by rw [man 71 (by decide) (by decide) (by decide), t4], hN8⟩
    obtain ⟨s, e, gx2, gm2, k1, k2, k3, k4, k5, k6, k7, k8, k9, k10, k11, k12, k13⟩ := adv2 cx cm (Nat.zero_le N) a3 ma6
    have KXa : KX (f 4) gx xa := ⟨fun a h1 h2 => an a h1 (by omega), aR⟩
    have KMa : KM gz ma := ⟨fun a h1 h2 h3 h4 => by rw [man a h1 h2 h4, zn a h1], fun j hj => ma70 j (by omega) (by omega) (by omega), fun j hj => by rw [ma85, zn 85 (by decide)]; unfold drF; rw [if_neg (by omega)], fun j hj => by rw [man 86 (by decide) (by decide) (by decide), zn 86 (by decide)], fun j hj => by rw [ma87, if_neg (by omega), zn 87 (by decide)], by rw [maR, zR]⟩
    have Lx : Li V (gx.1 2) N (f 4) gx gz s gx2 gm2 := by
      refine ⟨⟨hp, cx.f k3, KXa.f k3, ⟨0, by omega, by rw [k3.1 _ p18.1]; exact a8⟩, s, e, k6, k7, k8, k9⟩, cm.f k4, KMa.f k4, ?_, ?_, ?_, ?_, e, k6, k7, k8, k9, k10, k11, k12, k13⟩
      · rw [k3.2.1 6 (by omega)]; exact a6
      · rw [k3.2.1 7 (by omega)]; exact a7
      · rw [k4.2.1 8 (by omega)]; exact ma8
      · rw [k4.2.1 9 (by omega)]; exact ma9
    have hD : RL1 (cmb xa ma).1 (f 4) 4 := by
      have c0 : (cmb xa ma).1 (f 4) = xa.1 (f 4) := cmb_1 (by unfold lawPl at hp; unfold md; omega)
      have c85 : (cmb xa ma).1 85 = ma.1 85 := cmb_2 (by unfold md; omega)
      have c87 : (cmb xa ma).1 87 = ma.1 87 := cmb_2 (by unfold md; omega)
      have d : ∀ j, j < 8 → (cmb xa ma).1 85 (8 * 4 + j) = plv j := fun j hj => by rw [c85, ma85]; unfold drF; rw [if_pos (by omega), show 8 * 4 + j - 32 = j by omega]
      have d0 : (cmb xa ma).1 85 (8 * 4) = plv 0 := d 0 (by decide)
      refine ⟨fun j hj => by rw [c0, d j hj]; exact aj j hj, ⟨0, by omega, by rw [c0]; exact a8, by rw [c87, ma87]; rfl, fun i hi => absurd hi (by omega)⟩, ?_⟩
      rw [d0, d 1 (by decide), d 2 (by decide), d 3 (by decide), d 4 (by decide), d 5 (by decide), d 6 (by decide), d 7 (by decide)]
      decide
    have hD2 := RL1_f hp hD k3.1 k4
    have X : ∀ o, lop (r_X3_read_30 V) (18, f 4, 0, gx2) = o → r_X3_read V 18 (f 4) gx = o := by
      intro o ho
      unfold r_X3_read
      rw [grd_t (v_18 hV), nm_eq, nm_eq, nm_eq, nm_eq, grd_t vp, x_forget vp, bnd_some, ← exa, k1, bnd_some]
      exact ho
    have M : ∀ o, lop (r_X12_laws_80 V) (70, nI w, 0, 0, gm2) = o → r_X12_laws V 70 (nI w) gm = o := by
      intro o ho
      unfold r_X12_laws
      rw [grd_t (v_70 hV), nm_eq, nm_eq, m_isWard, bnd_some, brn_f (by rw [bI_0]; exact fun k => k hw), nm_eq, nm_eq, ← egz, ← emb, m_draft hV (by rw [bR]; exact hR) (by rw [← ema]; exact k2)]
      exact ho
    have fin : ∀ gx' gm' : Hq, KX (f 4) gx gx' → KM gz gm' → FX gx (sI gx' 1 1 0) ∧ FM gm gm' ∧ (∀ a, a ≠ 1 → a ≠ 18 → a ≠ 70 → ¬ sLw a → (cmb (sI gx' 1 1 0) gm').1 a = (cmb gx gm).1 a) ∧ (∀ j, ¬ (1 ≤ j ∧ j ≤ 9) → (cmb (sI gx' 1 1 0) gm').1 70 j = (cmb gx gm).1 70 j) ∧ (cmb (sI gx' 1 1 0) gm').2.1 = (cmb gx gm).2.1 := by
      intro gx' gm' kx km
      have l1 : gx'.2.1 = gx.2.1 := by rw [kx.2]
      have l2 : gm'.2.1 = gm.2.1 := by rw [km.2.2.2.2.2, zR]
      refine ⟨⟨fun a ha => ?_, fun a _ => by show gx'.2.1 a = _; rw [l1]⟩, ⟨fun a ha => ?_, fun a _ => by rw [l2], by rw [km.2.2.2.2.2, zR]⟩, fun a h1 h2 h3 h4 => ?_, fun j hj => ?_, ?_⟩
      · rw [sI_1, up2_nk _ _ _ (by unfold md at ha; omega)]
        exact kx.1 a (by unfold md at ha; omega) (fun k => (law_sl hp k).2.1 ha)
      · unfold md at ha
        rw [km.1 a (by omega) (by omega) (by omega) (by omega), zn a (by omega)]
      · by_cases q : md a
        · rw [cmb_2 q, cmb_2 q, km.1 a h3 (fun e => h4 (by unfold sLw; omega)) (fun e => h4 (by unfold sLw; omega)) (fun e => h4 (by unfold sLw; omega)), zn a h3]
        · rw [cmb_1 q, cmb_1 q, sI_1, up2_nk _ _ _ h1]
          exact kx.1 a h2 (fun k => h4 (law_sl hp k).1)
      · rw [cmb_2 (by unfold md; omega), cmb_2 (by unfold md; omega), km.2.1 j (by omega), zj j (by omega) (by omega)]
      · show (fun a => if md a then gm'.2.1 a else gx'.2.1 a) = fun a => if md a then gm.2.1 a else gx.2.1 a
        rw [l1, l2]
    have old : ∀ (gx' gm' : Hq) (u : Nat), u < 4 → KX (f 4) gx gx' → (∀ j, j < 8 → gm'.1 85 (8 * u + j) = gm.1 85 (8 * u + j)) → (∀ j, j < 48 → gm'.1 86 (48 * u + j) = gm.1 86 (48 * u + j)) → gm'.1 87 u = gm.1 87 u → RL1 (cmb (sI gx' 1 1 0) gm').1 (f u) u := by
      intro gx' gm' u hu kx e85 e86 e87
      have hq := f1 u (by omega)
      have c85 : ∀ x y : Hq, (cmb x y).1 85 = y.1 85 := fun x y => cmb_2 (by unfold md; omega)
      have c86 : ∀ x y : Hq, (cmb x y).1 86 = y.1 86 := fun x y => cmb_2 (by unfold md; omega)
      have c87 : ∀ x y : Hq, (cmb x y).1 87 = y.1 87 := fun x y => cmb_2 (by unfold md; omega)
      refine RL1_mv (f5 u hu) (fun i hi => ?_) (fun j hj => by rw [c85, c85]; exact e85 j hj) (fun j hj => by rw [c86, c86]; exact e86 j hj) (by rw [c87, c87]; exact e87)
      have q := law_sl hq (a := f u + i) ⟨by omega, by omega⟩
      rw [cmb_1 q.2.1, cmb_1 q.2.1, sI_1, up2_nk _ _ _ q.2.2.1]
      exact kx.1 _ q.2.2.2 (law_dj hp hq (fun e => by have := f2 u 4 (by omega) (by omega) e; omega) hi)
    rcases l_loop (W := nI w) (N + 1) s 0 0 0 gx2 gm2 (by omega) Lx hD2 (by rw [k3.2.1 5 (by omega)]; exact a5) (by omega) (by omega) (by omega) with ⟨gx', gm', n, s', r1, r2, L, D, hn⟩ | ⟨gx', gm', r1, r2, f', q', hf', hde, cm', km, m8, m9⟩
    · have kx := L.1.2.2.1
      have km := L.2.2.1
      have r2' := r2.trans (m_copy hV L.R hw4)
      obtain ⟨gy, egy⟩ : ∃ gy, gy = sR (sR gx' 0 8 (some (f w))) (31 + 9 * w) 0 (some (f 4)) := ⟨_, rfl⟩
      have yI : gy.1 = gx'.1 := by rw [egy]; rfl
      have yL : gy.2.1 = gx.2.1 := by rw [egy]; show gx'.2.1 = _; rw [kx.2]
      have yR : gy.2.2 = up2 (up2 gx.2.2 0 8 (some (f w))) (31 + 9 * w) 0 (some (f 4)) := by rw [egy]; simp only [sR_3]; rw [kx.2]
      have kem : ∀ a, a ≠ 85 → a ≠ 86 → a ≠ 87 → (enG gm' w).1 a = gm'.1 a := fun a h1 h2 h3 => by
        unfold enG enM; rw [sA_n h2, sI_1, up2_nk _ _ _ h3, sA_n h1]
      have n85 : (enG gm' w).1 85 = cpF (gm'.1 85) (8 * w) 32 8 := by unfold enG enM; rw [sA_n (by decide), sI_1, up2_nk _ _ _ (by decide), sA_s]
      have n86 : (enG gm' w).1 86 = cpF (gm'.1 86) (48 * w) 192 48 := by unfold enG; rw [sA_s]
      have n87 : ∀ j, (enG gm' w).1 87 j = if j = w then gm'.1 87 4 else gm'.1 87 j := fun j => by
        unfold enG enM; rw [sA_n (by decide), sI_1, up2_at, sA_n (by decide)]; simp
      have KMe : KM gz (enG gm' w) ∨ True := Or.inr trivial
      have gS : ShR gy.2.2 := by
        intro q hq
        have k := rfs_ne ⟨w, hw4⟩ q hq
        rw [yR, up2_at, if_neg (by simpa using k.2), up2_at, if_neg k.1]
        exact hRx q hq
      have fx : FX gx (sI gy 1 1 0) := by
        have k := (fin gx' gm' kx km).1
        refine ⟨fun a ha => ?_, fun a _ => by show gy.2.1 a = _; rw [yL]⟩
        have := k.1 a ha
        rw [sI_1] at this ⊢
        rw [yI]; exact this
      have fm : FM gm (enG gm' w) := by
        have k := (fin gx' gm' kx km).2.1
        refine ⟨fun a ha => ?_, fun a ha => ?_, ?_⟩
        · rw [kem a (by unfold md at ha; omega) (by unfold md at ha; omega) (by unfold md at ha; omega)]; exact k.1 a ha
        · exact k.2.1 a ha
        · exact k.2.2
      refine ⟨nI n, sI gy 1 1 0, enG gm' w, ?_, M _ r2', fx, fm, ?_⟩
      · have nn : ¬ nI n = -1 := by rw [i_eq, tN (by omega)]; have : (-1 : Int32).toInt = -1 := rfl; omega
        unfold r_X11_laws
        have g0 : gx'.2.2 = gx.2.2 := by rw [kx.2]
        rw [p_isWard, bnd_some, brn_f (by rw [bI_0]; exact fun k => k hw), grd_t (v_0 hV), q_0_3 hRx, bind_some', f4, bind_some', grd_t (v_18 hV), X _ r1, bnd_some, brn_f nn, g0, q_0_4 hRx, bind_some', grd_t (ok_nI (v_19 hV) hw4 (by decide)), cl_nI (by omega), sh_w hRx hw4, bind_some']
        unfold r_X11_enactDraft r_X8_cut
        rw [grd_t (v_0 hV), g0, f4, bind_some', grd_t (sh_vw hV hw4), f3 w hw4, bind_some', nm_eq, nm_eq, bnd_some, ← egy, q_0_0 gS, bind_some', grd_t (v_1 hV), grd_t (v_1 hV), nm_eq, bnd_some]
      · obtain ⟨F1, F2, F3, F4, F5⟩ := fin gx' gm' kx km
        have cA : ∀ a, ¬ a = 85 → ¬ a = 86 → ¬ a = 87 → (cmb (sI gy 1 1 0) (enG gm' w)).1 a = (cmb (sI gx' 1 1 0) gm').1 a := fun a h1 h2 h3 => by
          by_cases q : md a
          · rw [cmb_2 q, cmb_2 q, kem a h1 h2 h3]
          · rw [cmb_1 q, cmb_1 q, sI_1, sI_1, yI]
        refine Inv_law hI (fun a h1 h2 h3 h4 => ?_) ?_ (fun j hj => ?_) ?_ ?_ ?_ ?_ gS ?_ ?_ ?_
        · rw [cA a (fun e => h4 (by unfold sLw; omega)) (fun e => h4 (by unfold sLw; omega)) (fun e => h4 (by unfold sLw; omega))]
          exact F3 a h1 h2 h3 h4
        · rw [cmb_1 (by unfold md; omega), sI_1, up2_s]
        · rw [cA 70 (by decide) (by decide) (by decide)]; exact F4 j hj
        · rw [cmb_2 (by unfold md; omega), kem 70 (by decide) (by decide) (by decide), km.2.1 1 (by omega)]; exact z1
        · have q18 : (cmb (sI gy 1 1 0) (enG gm' w)).1 18 = gx'.1 18 := by rw [cmb_1 (by unfold md; omega), sI_1, up2_nk _ _ _ (by decide), yI]
          have q70 : (cmb (sI gy 1 1 0) (enG gm' w)).1 70 = gm'.1 70 := by rw [cmb_2 (by unfold md; omega), kem 70 (by decide) (by decide) (by decide)]
          unfold RF
          rw [q18, q70, L.2.2.2.1, L.2.2.2.2.1, L.2.2.2.2.2.1, L.2.2.2.2.2.2.1]
          exact ⟨rfl, rfl⟩
        · have cR : (cmb (sI gy 1 1 0) (enG gm' w)).2.2 = up2 (up2 gx.2.2 0 8 (some (f w))) (31 + 9 * w) 0 (some (f 4)) := yR
          rw [cR]
          refine ⟨fun i => if i = w then f 4 else if i = 4 then f w else f i, fun i hi => ?_, fun i j hi hj e => ?_, fun u hu => ?_, ?_, fun u hu => ?_⟩
          · by_cases q : i = w
            · simp only [if_pos q]; exact hp
            · by_cases q2 : i = 4
              · simp only [if_neg q, if_pos q2]; exact f1 w (by omega)
              · simp only [if_neg q, if_neg q2]; exact f1 i hi
          · simp only at e
            have G : ∀ i, i < 5 → ∃ i', i' < 5 ∧ (if i = w then f 4 else if i = 4 then f w else f i) = f i' ∧ i' = (if i = w then 4 else if i = 4 then w else i) := fun i hi => by
              by_cases q : i = w
              · exact ⟨4, by omega, by rw [if_pos q], by rw [if_pos q]⟩
              · by_cases q2 : i = 4
                · exact ⟨w, by omega, by rw [if_neg q, if_pos q2], by rw [if_neg q, if_pos q2]⟩
                · exact ⟨i, hi, by rw [if_neg q, if_neg q2], by rw [if_neg q, if_neg q2]⟩
            obtain ⟨i', i1, i2, i3⟩ := G i hi
            obtain ⟨j', j1, j2, j3⟩ := G j hj
            rw [i2, j2] at e
            have := f2 i' j' i1 j1 e
            rw [i3, j3] at this
            split at this <;> split at this <;> (try split at this) <;> (try split at this) <;> omega
          · by_cases q : u = w
            · subst q; simp only [if_pos]; rw [up2_s]
            · simp only [if_neg q, if_neg (show ¬ u = 4 by omega)]
              rw [up2_ne _ _ (Or.inl (by omega)), up2_ne _ _ (Or.inl (by omega))]
              exact f3 u hu
          · simp only [if_neg (show ¬ 4 = w by omega), if_pos]
            rw [up2_ne _ _ (Or.inl (by omega)), up2_s]
          · by_cases q : u = w
            · subst q
              simp only [if_pos]
              refine RL1_mv D (fun i hi => ?_) (fun j hj => ?_) (fun j hj => ?_) ?_
              · have q := law_sl hp (a := f 4 + i) ⟨by omega, by omega⟩
                rw [cmb_1 q.2.1, cmb_1 q.2.1, sI_1, up2_nk _ _ _ q.2.2.1, yI]
              · rw [cmb_2 (by unfold md; omega), cmb_2 (by unfold md; omega), n85]
                unfold cpF
                rw [if_pos (by omega), show 32 + (8 * u + j - 8 * u) = 8 * 4 + j by omega]
              · rw [cmb_2 (by unfold md; omega), cmb_2 (by unfold md; omega), n86]
                unfold cpF
                rw [if_pos (by omega), show 192 + (48 * u + j - 48 * u) = 48 * 4 + j by omega]
              · rw [cmb_2 (by unfold md; omega), cmb_2 (by unfold md; omega), n87, if_pos rfl]
            · simp only [if_neg q, if_neg (show ¬ u = 4 by omega)]
              have o := old gx' (enG gm' w) u hu kx (fun j hj => by rw [n85]; unfold cpF; rw [if_neg (by omega), km.2.2.1 _ (by omega), zn 85 (by decide)]) (fun j hj => by rw [n86]; unfold cpF; rw [if_neg (by omega), km.2.2.2.1 _ (by omega), zn 86 (by decide)]) (by rw [n87, if_neg q, km.2.2.2.2.1 _ (by omega), zn 87 (by decide)])
              have hq := f1 u (by omega)
              refine RL1_mv o (fun i hi => ?_) (fun j hj => ?_) (fun j hj => ?_) ?_
              · have q := law_sl hq (a := f u + i) ⟨by omega, by omega⟩
                rw [cmb_1 q.2.1, cmb_1 q.2.1, sI_1, sI_1, yI]
              · rw [cmb_2 (by unfold md; omega), cmb_2 (by unfold md; omega)]
              · rw [cmb_2 (by unfold md; omega), cmb_2 (by unfold md; omega)]
              · rw [cmb_2 (by unfold md; omega), cmb_2 (by unfold md; omega)]
        · have : (cmb (sI gy 1 1 0) (enG gm' w)).2.1 = (cmb (sI gx' 1 1 0) gm').2.1 := by
            show (fun a => if md a then gm'.2.1 a else gy.2.1 a) = fun a => if md a then gm'.2.1 a else gx'.2.1 a
            rw [yL, kx.2]
          rw [this]; exact F5
        · show gy.2.2 21 = gx.2.2 21
          rw [yR, up2_nk _ _ _ (by omega), up2_nk _ _ _ (by decide)]
        · show gy.2.2 23 = gx.2.2 23
          rw [yR, up2_nk _ _ _ (by omega), up2_nk _ _ _ (by decide)]
        · intro a j r e
          have e' : gy.2.2 a j = some r := e
          rw [yR, up2_at] at e'
          by_cases q : a = 31 + 9 * w ∧ j = 0
          · rw [if_pos q] at e'
            left
            have := Option.some.inj e'
            unfold lawPl at hp; omega
          · rw [if_neg q, up2_at] at e'
            by_cases q2 : a = 0 ∧ j = 8
            · rw [if_pos q2] at e'
              left
              have := Option.some.inj e'
              have hq := f1 w (by omega)
              unfold lawPl at hq; omega
            · rw [if_neg q2] at e'
              exact Or.inr e'
    · have kx := hde.1.2.2.1
      obtain ⟨F1, F2, F3, F4, F5⟩ := fin gx' gm' kx km
      refine ⟨-1, sI gx' 1 1 0, gm', ?_, M _ r2, F1, F2, ?_⟩
      · unfold r_X11_laws r_X8_cut
        have g0 : gx'.2.2 = gx.2.2 := by rw [kx.2]
        rw [p_isWard, bnd_some, brn_f (by rw [bI_0]; exact fun k => k hw), grd_t (v_0 hV), q_0_3 hRx, bind_some', f4, bind_some', grd_t (v_18 hV), X _ r1, bnd_some, brn_t rfl, g0, q_0_0 hRx, bind_some', grd_t (v_1 hV), grd_t (v_1 hV), nm_eq, bnd_some]
      · have g0 : (cmb (sI gx' 1 1 0) gm').2.2 = gx.2.2 := by show gx'.2.2 = _; rw [kx.2]
        refine Inv_law hI F3 ?_ F4 ?_ ?_ ?_ F5 (by rw [g0]; exact hRx) (by rw [g0]; rfl) (by rw [g0]; rfl) (fun a j r e => Or.inr (by rw [g0] at e; exact e))
        · rw [cmb_1 (by unfold md; omega), sI_1, up2_s]
        · rw [cmb_2 (by unfold md; omega), km.2.1 1 (by omega)]; exact z1
        · have q18 : (cmb (sI gx' 1 1 0) gm').1 18 = gx'.1 18 := by rw [cmb_1 (by unfold md; omega), sI_1, up2_nk _ _ _ (by decide)]
          have q70 : (cmb (sI gx' 1 1 0) gm').1 70 = gm'.1 70 := by rw [cmb_2 (by unfold md; omega)]
          unfold RF
          rw [q18, q70, m8, m9, hde.2.1, hde.2.2]
          exact ⟨rfl, rfl⟩
        · rw [g0]
          exact ⟨f, f1, f2, f3, f4, fun u hu => old gx' gm' u hu kx (fun j hj => by rw [km.2.2.1 _ (by omega), zn 85 (by decide)]) (fun j hj => by rw [km.2.2.2.1 _ (by omega), zn 86 (by decide)]) (by rw [km.2.2.2.2.1 _ (by omega), zn 87 (by decide)])⟩
  · have nb : bI (0 ≤ a ∧ a ≤ 3) = 0 := bI_0.mpr hw
    refine ⟨-2, sI gx 1 1 0, gz, ?_, ?_, FX.w (by unfold md; omega), ⟨fun a ha => zn a (by unfold md at ha; omega), fun a _ => by rw [zR], by rw [zR]⟩, ?_⟩
    · unfold r_X11_laws r_X8_cut
      rw [p_isWard, bnd_some, brn_t nb, grd_t (v_0 hV), q_0_0 hRx, bind_some', grd_t (v_1 hV), grd_t (v_1 hV), nm_eq, bnd_some]
    · unfold r_X12_laws
      rw [grd_t (v_70 hV), nm_eq, nm_eq, m_isWard, bnd_some, brn_t nb, egz]
    · have cn : ∀ a, a ≠ 1 → a ≠ 70 → (cmb (sI gx 1 1 0) gz).1 a = (cmb gx gm).1 a := fun a h1 h2 => by
        by_cases q : md a
        · rw [cmb_2 q, cmb_2 q, zn a h2]
        · rw [cmb_1 q, cmb_1 q, sI_1, up2_nk _ _ _ h1]
      have c70 : (cmb (sI gx 1 1 0) gz).1 70 = gz.1 70 := cmb_2 (by unfold md; omega)
      refine Inv_law hI (fun a h1 _ h3 _ => cn a h1 h3) (by rw [cmb_1 (by unfold md; omega), sI_1, up2_s]) (fun j hj => by rw [c70, m70]; exact zj j (by omega) (by omega)) (by rw [c70]; exact z1) (cgF hI.f (cn 18 (by decide) (by decide)) (by rw [c70, m70]; exact zj 8 (by decide) (by decide)) (by rw [c70, m70]; exact zj 9 (by decide) (by decide))) (cgLw hI.l (fun a ha => cn a (by unfold sLw at ha; omega) (by unfold sLw at ha; omega)) rfl (fun _ _ => rfl)) ?_ hRx rfl rfl (fun a j r e => Or.inr e)
      show (fun a => if md a then gz.2.1 a else gx.2.1 a) = fun a => if md a then gm.2.1 a else gx.2.1 a
      rw [zR]
theorem op_laws {V : Vk} {g : Hq} (h : Inv V g) (a : Int32) : Op V g (r_X11_laws V 0 a) (r_X12_laws V 70 a) := Op_of h (fun _ _ hR hI => sim_laws a hR hI)
