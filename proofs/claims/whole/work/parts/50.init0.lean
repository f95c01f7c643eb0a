/-! ===== the constructors ===== -/
theorem bna_some {α γ : Type} (a : α) (V : Vk) (g : Hq) (f : α → Vk → Hq → Option γ) : bna (some (a, V, g)) f = f a V g := rfl
theorem bind_ref {γ : Type} {o : Option Nat} {k : Nat} {f : Nat → Option γ} (h : o = some k) : Option.bind o f = f k := by rw [h]; rfl
def vT (n a : Nat) : Option (Nat × Nat) := if a < n then vks.getD a none else none
def St (n : Nat) (g : Hq) : Prop := (∀ a j r, g.2.2 a j = some r → a < n ∧ r < n) ∧ ∀ a j, n ≤ a → g.1 a j = 0 ∧ g.2.1 a j = 0
theorem St.fr {n : Nat} {g : Hq} (h : St n g) : frK (vT n) g n := ⟨by unfold vT; rw [if_neg (by omega)], fun a j e => by have := (h.1 a j n e).2; omega⟩
theorem St.nw {n : Nat} {g : Hq} (h : St n g) : newG g n = g := by
  refine Prod.ext ?_ (Prod.ext ?_ ?_)
  · funext a j
    show upr g.1 n _ a j = _
    rw [upr_at]
    by_cases e : a = n
    · rw [if_pos e, (h.2 a j (by omega)).1]
    · rw [if_neg e]
  · funext a j
    show upr g.2.1 n _ a j = _
    rw [upr_at]
    by_cases e : a = n
    · rw [if_pos e, (h.2 a j (by omega)).2]
    · rw [if_neg e]
  · funext a j
    show upr g.2.2 n _ a j = _
    rw [upr_at]
    by_cases e : a = n
    · rw [if_pos e]
      cases q : g.2.2 a j with
      | none => rfl
      | some r => have := (h.1 a j r q).1; omega
    · rw [if_neg e]
theorem vT_nv {n : Nat} {q : Nat × Nat} (e : vks.getD n none = some q) : newV (vT n) n q = vT (n + 1) := by
  funext a
  unfold newV vT
  by_cases k : a = n
  · rw [if_pos k, if_pos (by omega), k, e]
  · rw [if_neg k]
    by_cases l : a < n
    · rw [if_pos l, if_pos (by omega)]
    · rw [if_neg l, if_neg (by omega)]
theorem St.al {n : Nat} {g : Hq} (h : St n g) : St (n + 1) g := ⟨fun a j r e => by have := h.1 a j r e; omega, fun a j e => h.2 a j (by omega)⟩
theorem St.si {n k j : Nat} {v : Int32} {g : Hq} (h : St n g) (hk : k < n) : St n (sI g k j v) := ⟨h.1, fun a i e => ⟨by rw [sI_1, up2_nk _ _ _ (by omega)]; exact (h.2 a i e).1, (h.2 a i e).2⟩⟩
theorem St.sa {n k : Nat} {r : Nat → Int32} {g : Hq} (h : St n g) (hk : k < n) : St n (sA g k r) := ⟨h.1, fun a i e => ⟨by rw [sA_1, upr_at, if_neg (by omega)]; exact (h.2 a i e).1, (h.2 a i e).2⟩⟩
theorem St.sr {n k j r : Nat} {g : Hq} (h : St n g) (hk : k < n) (hr : r < n) : St n (sR g k j (some r)) := ⟨fun a i q e => by
  rw [sR_3, up2_at] at e
  by_cases c : a = k ∧ i = j
  · rw [if_pos c] at e; cases e; omega
  · rw [if_neg c] at e; exact h.1 a i q e, h.2⟩
def sLA (g : Hq) (k : Nat) (r : Nat → Int64) : Hq := (g.1, upr g.2.1 k r, g.2.2)
theorem St.sl {n k : Nat} {r : Nat → Int64} {g : Hq} (h : St n g) (hk : k < n) : St n (sLA g k r) := ⟨h.1, fun a i e => ⟨(h.2 a i e).1, by show upr g.2.1 k r a i = 0; rw [upr_at, if_neg (by omega)]; exact (h.2 a i e).2⟩⟩
/-- an array is filled -/
def flR (n : Nat) (v : Int32) (old : Nat → Int32) : Nat → Int32 := fun j => if j < n then v else old j
theorem flR_0 {v : Int32} {old : Nat → Int32} : flR 0 v old = old := by funext j; unfold flR; rw [if_neg (by omega)]
theorem flR_s {n : Nat} {v : Int32} {old : Nat → Int32} : upd (flR n v old) n v = flR (n + 1) v old := by
  funext j
  show (if j = n then v else flR n v old j) = _
  unfold flR
  by_cases e : j = n
  · rw [if_pos e, if_pos (by omega)]
  · rw [if_neg e]
    by_cases l : j < n
    · rw [if_pos l, if_pos (by omega)]
    · rw [if_neg l, if_neg (by omega)]
theorem p_fill {V : Vk} {g : Hq} {k n : Nat} {v : Int32} (hk : V k = some (100, n)) (hn : n < 1000) : r_J7_fill_53178 V k v g = some ((), sA g k (flR n v (g.1 k))) := by
  unfold r_J7_fill_53178
  have e0 : aln V k 0 (fun n1 => nm (nI n1) fun x3 => (lop (r_J7_fill_53178_5 V) (k, v, (0 : Int32), x3, g))) = lop (r_J7_fill_53178_5 V) (k, v, nI 0, nI n, sA g k (flR 0 v (g.1 k))) := by
    rw [flR_0, sA_id]
    unfold aln
    rw [hk]
    simp
    rfl
  rw [e0]
  refine run_for (f := r_J7_fill_53178_5 V) (fun i => (k, v, nI i, nI n, sA g k (flR i v (g.1 k)))) n ?_ ?_ n 0 (by omega)
  · intro i hi
    show r_J7_fill_53178_5' V k v (nI i) (nI n) (sA g k (flR i v (g.1 k))) = some (.inl (k, v, nI (i + 1), nI n, sA g k (flR (i + 1) v (g.1 k))))
    unfold r_J7_fill_53178_5'
    rw [brn_f (nI_ge hi (by omega)), grd_t (ok_nI (n := n) (t := 0) hk hi (by omega)), cl_nI (by omega), nm_eq, nm_eq, nI_1, sA_sI, flR_s]
  · show r_J7_fill_53178_5' V k v (nI n) (nI n) (sA g k (flR n v (g.1 k))) = _
    unfold r_J7_fill_53178_5'
    rw [brn_t (nI_le (Nat.le_refl n) (by omega))]
/-- the number of trailing zeros -/
def ntz49 (x2 x3 : Int32) : Int32 := if x2 ≤ (16 : Int32) then (if x2 ≤ (4 : Int32) then x3 + (x2.toUInt32 >>> ((1 : Int32).toUInt32 &&& Int32.toUInt32 31)).toInt32 else (x3 + 2) + ((x2.toUInt32 >>> ((2 : Int32).toUInt32 &&& Int32.toUInt32 31)).toInt32.toUInt32 >>> ((1 : Int32).toUInt32 &&& Int32.toUInt32 31)).toInt32) else if (x2.toUInt32 >>> ((4 : Int32).toUInt32 &&& Int32.toUInt32 31)).toInt32 ≤ (4 : Int32) then (x3 + 4) + ((x2.toUInt32 >>> ((4 : Int32).toUInt32 &&& Int32.toUInt32 31)).toInt32.toUInt32 >>> ((1 : Int32).toUInt32 &&& Int32.toUInt32 31)).toInt32 else (x3 + 4 + 2) + (((x2.toUInt32 >>> ((4 : Int32).toUInt32 &&& Int32.toUInt32 31)).toInt32.toUInt32 >>> ((2 : Int32).toUInt32 &&& Int32.toUInt32 31)).toInt32.toUInt32 >>> ((1 : Int32).toUInt32 &&& Int32.toUInt32 31)).toInt32
theorem p_ntz49 (V : Vk) (x2 x3 : Int32) (g : Hq) : r_J6_numberOfTrailingZeros_0f7a4_49 V x2 x3 g = some (ntz49 x2 x3, g) := by
  unfold r_J6_numberOfTrailingZeros_0f7a4_49 ntz49
  by_cases h1 : x2 ≤ (16 : Int32)
  · rw [brn_t h1, if_pos h1]
    by_cases h2 : x2 ≤ (4 : Int32)
    · rw [brn_t h2, if_pos h2]
    · rw [brn_f h2, if_neg h2, nm_eq, nm_eq]
  · rw [brn_f h1, if_neg h1, nm_eq, nm_eq]
    by_cases h2 : (x2.toUInt32 >>> ((4 : Int32).toUInt32 &&& Int32.toUInt32 31)).toInt32 ≤ (4 : Int32)
    · rw [brn_t h2, if_pos h2]
    · rw [brn_f h2, if_neg h2, nm_eq, nm_eq]
def ntzX (a : Int32) : Int32 := (a ^^^ (-1 : Int32)) &&& (a - (1 : Int32))
/-- for numbers below 1024 -/
def ntzC (a : Int32) : Int32 := if 0 < ntzX a then (if ntzX a ≤ 256 then ntz49 (ntzX a) 1 else ntz49 ((ntzX a).toUInt32 >>> ((8 : Int32).toUInt32 &&& Int32.toUInt32 31)).toInt32 9) else ntzX a &&& 32
theorem p_ntz {V : Vk} {a : Int32} {g : Hq} (h : ntzX a ≤ 65536) : r_J6_numberOfTrailingZeros_0f7a4 V a g = some (ntzC a, g) := by
  unfold r_J6_numberOfTrailingZeros_0f7a4 ntzC
  rw [nm_eq]
  show brn (0 < ntzX a) (brn (ntzX a ≤ 65536) (brn (ntzX a ≤ 256) _ _) _) _ = _
  by_cases h0 : 0 < ntzX a
  · rw [brn_t h0, brn_t h, if_pos h0]
    by_cases h1 : ntzX a ≤ 256
    · rw [brn_t h1, if_pos h1]
      exact p_ntz49 V _ _ g
    · rw [brn_f h1, if_neg h1, nm_eq, nm_eq]
      exact p_ntz49 V _ _ g
  · rw [brn_f h0, if_neg h0]
    rfl
def low (p : Nat) : Nat := ((List.range 10).find? (fun i => p.testBit i)).getD 0
theorem ntz_at : ∀ p : Fin 1024, 1 ≤ p.1 → ntzX (nI p.1) ≤ 65536 ∧ ntzC (nI p.1) = nI (low p.1) := by decide +kernel
theorem low_lt : ∀ p : Fin 1024, low p.1 < 10 := by decide +kernel
def drp (p : Nat) : Nat := p &&& (p - 1)
theorem drp_at : ∀ p : Fin 1024, 1 ≤ p.1 → nI p.1 &&& (nI p.1 - 1) = nI (drp p.1) ∧ drp p.1 < p.1 := by decide +kernel
theorem ones_at : ∀ p : Fin 1024, 1 ≤ p.1 → onesF (drp p.1) ||| ((1 : Int64) <<< (((4 : Int32) * ((9 : Int32) - nI (low p.1))).toInt64 &&& 63)) = onesF p.1 := by decide +kernel
def oR (p : Nat) : Nat → Int64 := fun q => if q < p then onesF q else 0
theorem oR_s {p : Nat} {v : Int64} (h : v = onesF p) : (fun j => if j = p then v else oR p j) = oR (p + 1) := by
  funext j
  show (if j = p then v else oR p j) = _
  unfold oR
  by_cases e : j = p
  · rw [if_pos e, if_pos (by omega), h, e]
  · rw [if_neg e]
    by_cases l : j < p
    · rw [if_pos l, if_pos (by omega)]
    · rw [if_neg l, if_neg (by omega)]
theorem sLA_sL {g : Hq} {k j : Nat} {r : Nat → Int64} {v : Int64} : sL (sLA g k r) k j v = sLA g k (fun i => if i = j then v else r i) := by
  refine Prod.ext rfl (Prod.ext ?_ rfl)
  funext a b
  show up2 (upr g.2.1 k r) k j v a b = upr g.2.1 k _ a b
  rw [up2_at, upr_at, upr_at]
  by_cases e : a = k
  · rw [if_pos e, if_pos e]
    by_cases e2 : b = j
    · rw [if_pos ⟨e, e2⟩, if_pos e2]
    · rw [if_neg (fun q => e2 q.2), if_neg e2]
  · rw [if_neg e, if_neg e, if_neg (fun q => e q.1)]
theorem ones_loop {g : Hq} (h14 : ∀ j, g.2.1 14 j = 0) (h85 : g.2.2 8 5 = some 14) : lop (r_X6_init_82 (vT 18)) (8, (1 : Int32), g) = some ((), vT 18, sLA g 14 (oR 1024)) := by
  have e0 : ((8, (1 : Int32), g) : Nat × Int32 × Hq) = (8, nI 1, sLA g 14 (oR 1)) := by
    have : sLA g 14 (oR 1) = g := by
      refine Prod.ext rfl (Prod.ext ?_ rfl)
      funext a j
      show upr g.2.1 14 (oR 1) a j = _
      rw [upr_at]
      by_cases e : a = 14
      · rw [if_pos e, e, h14]
        unfold oR
        by_cases q : j < 1
        · rw [if_pos q, show j = 0 by omega]; decide
        · rw [if_neg q]
      · rw [if_neg e]
    rw [this]; rfl
  rw [e0]
  refine run_for (f := r_X6_init_82 (vT 18)) (fun i => (8, nI (i + 1), sLA g 14 (oR (i + 1)))) 1023 ?_ ?_ 1023 0 (by omega)
  · intro i hi
    obtain ⟨p, ep⟩ : ∃ p, p = i + 1 := ⟨_, rfl⟩
    have hp : p < 1024 := by omega
    have p1 : 1 ≤ p := by omega
    rw [← ep]
    · have n1 := ntz_at ⟨p, hp⟩ p1
      have d1 := drp_at ⟨p, hp⟩ p1
      have o1 := ones_at ⟨p, hp⟩ p1
      simp only at n1 d1 o1
      have hv : vT 18 14 = some (100 + 3, 1024) := by decide
      have od : (sLA g 14 (oR p)).2.1 14 (drp p) = onesF (drp p) := by
        show upr g.2.1 14 (oR p) 14 _ = _
        rw [upr_at, if_pos rfl]
        unfold oR
        rw [if_pos d1.2]
      show r_X6_init_82' (vT 18) 8 (nI p) (sLA g 14 (oR p)) = some (.inl (8, nI (p + 1), sLA g 14 (oR (p + 1))))
      unfold r_X6_init_82'
      rw [brn_f (by rw [show (1024 : Int32) = nI 1024 from rfl]; exact nI_ge hp (by decide)), p_ntz n1.1, bnd_some, n1.2, grd_t (by decide), bind_ref (k := 14) (show (sLA g 14 (oR p)).2.2 8 5 = some 14 from h85), bind_ref (k := 14) (show (sLA g 14 (oR p)).2.2 8 5 = some 14 from h85), d1.1, grd_t (ok_nI (n := 1024) (t := 3) hv (by omega) (by decide))]
      unfold r_X6_rowShift
      rw [bnd_some, grd_t (ok_nI (n := 1024) (t := 3) hv hp (by decide)), cl_nI (j := drp p) (by omega), cl_nI (j := p) (by omega), od, o1, nm_eq, nm_eq, nI_1, sLA_sL, oR_s rfl]
  · show r_X6_init_82' (vT 18) 8 (nI 1024) (sLA g 14 (oR 1024)) = _
    unfold r_X6_init_82'
    rw [brn_t (by decide)]
