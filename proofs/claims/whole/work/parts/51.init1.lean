theorem i_X3 {V : Vk} {k a : Nat} {g : Hq} (hk : V k = some (3, 0) := by decide) : r_X3_init V k a g = some ((), sR (sI g k 7 (-1)) k 0 (some a)) := by
  unfold r_X3_init
  rw [grd_t hk, nm_eq, nm_eq]
def fgt (g : Hq) (k : Nat) : Hq := sI (sI (sI (sI (sI (sI (sI (sI (sI g k 0 21) k 1 60) k 2 7) k 3 100) k 4 (-1)) k 5 (-1)) k 6 0) k 7 4) k 8 0
theorem p_forget {V : Vk} {k : Nat} {g : Hq} (hk : V k = some (4, 0)) : r_X4_forget V k g = some ((), fgt g k) := by
  unfold r_X4_forget
  rw [grd_t hk, nm_eq, nm_eq, nm_eq, nm_eq, nm_eq, nm_eq, nm_eq, nm_eq, nm_eq]
  rfl
theorem fgt_St {n k : Nat} {g : Hq} (h : St n g) (hk : k < n) : St n (fgt g k) := ((((((((h.si hk).si hk).si hk).si hk).si hk).si hk).si hk).si hk).si hk
def fil (g : Hq) (k n : Nat) (v : Int32) : Hq := sA g k (flR n v (g.1 k))
theorem fil_St {n' k n : Nat} {v : Int32} {g : Hq} (h : St n' g) (hk : k < n') : St n' (fil g k n v) := h.sa hk
def e_X8_1 (g : Hq) : Hq := (sR g 1 0 (some 2))
theorem i_X8_1 {g : Hq} (h : St 2 g) : r_X8_init (vT 2) 1 g = some ((), vT 3, e_X8_1 g) ∧ St 3 (e_X8_1 g) := by
  have h1 := h.al
  have h2 := h1.sr (k := 1) (j := 0) (r := 2) (by decide) (by decide)
  refine ⟨?_, h2⟩
  unfold r_X8_init
  simp only [Nat.reduceAdd]
  rw [nm_eq, grd_t h.fr, grd_t (by decide), nm_eq, vT_nv (n := 2) rfl, nm_eq, h.nw, grd_t (by decide), nm_eq]
  rfl
def e_X9_3 (g : Hq) : Hq := (fil (fil (sI (sR (sR (sR (sR g 3 0 (some 4)) 3 1 (some 5)) 3 2 (some 6)) 3 3 (some 7)) 3 4 (1)) 5 12 (60)) 6 144 (-1))
theorem i_X9_3 {g : Hq} (h : St 4 g) : r_X9_init (vT 4) 3 g = some ((), vT 8, e_X9_3 g) ∧ St 8 (e_X9_3 g) := by
  have h1 := h.al
  have h2 := h1.sr (k := 3) (j := 0) (r := 4) (by decide) (by decide)
  have h3 := h2.al
  have h4 := h3.sr (k := 3) (j := 1) (r := 5) (by decide) (by decide)
  have h5 := h4.al
  have h6 := h5.sr (k := 3) (j := 2) (r := 6) (by decide) (by decide)
  have h7 := h6.al
  have h8 := h7.sr (k := 3) (j := 3) (r := 7) (by decide) (by decide)
  have h9 := h8.si (k := 3) (j := 4) (v := 1) (by decide)
  have h10 := fil_St h9 (k := 5) (n := 12) (v := 60) (by decide)
  have h11 := fil_St h10 (k := 6) (n := 144) (v := -1) (by decide)
  refine ⟨?_, h11⟩
  unfold r_X9_init
  simp only [Nat.reduceAdd]
  rw [nm_eq, grd_t h.fr, grd_t (by decide), nm_eq, vT_nv (n := 4) rfl, nm_eq, h.nw, grd_t (by decide), nm_eq, nm_eq, grd_t h2.fr, grd_t (by decide), nm_eq, vT_nv (n := 5) rfl, nm_eq, h2.nw, grd_t (by decide), nm_eq, nm_eq, grd_t h4.fr, grd_t (by decide), nm_eq, vT_nv (n := 6) rfl, nm_eq, h4.nw, grd_t (by decide), nm_eq, nm_eq, grd_t h6.fr, grd_t (by decide), nm_eq, vT_nv (n := 7) rfl, nm_eq, h6.nw, grd_t (by decide), nm_eq, nm_eq, bind_ref (k := 5) (by rfl), p_fill (n := 12) (by decide) (by decide), bnd_some, bind_ref (k := 6) (by rfl), p_fill (n := 144) (by decide) (by decide), bnd_some]
  rfl
def e_X6_8 (g : Hq) : Hq := (sLA (sR (sR (sR (sR (sR (sR (sR (sR (sR g 8 0 (some 9)) 8 1 (some 10)) 8 2 (some 11)) 8 3 (some 12)) 8 4 (some 13)) 8 5 (some 14)) 8 9 (some 15)) 8 10 (some 16)) 8 11 (some 17)) 14 (oR 1024))
theorem i_X6_8 {g : Hq} (h : St 9 g) : r_X6_init (vT 9) 8 g = some ((), vT 18, e_X6_8 g) ∧ St 18 (e_X6_8 g) := by
  have h1 := h.al
  have h2 := h1.sr (k := 8) (j := 0) (r := 9) (by decide) (by decide)
  have h3 := h2.al
  have h4 := h3.sr (k := 8) (j := 1) (r := 10) (by decide) (by decide)
  have h5 := h4.al
  have h6 := h5.sr (k := 8) (j := 2) (r := 11) (by decide) (by decide)
  have h7 := h6.al
  have h8 := h7.sr (k := 8) (j := 3) (r := 12) (by decide) (by decide)
  have h9 := h8.al
  have h10 := h9.sr (k := 8) (j := 4) (r := 13) (by decide) (by decide)
  have h11 := h10.al
  have h12 := h11.sr (k := 8) (j := 5) (r := 14) (by decide) (by decide)
  have h13 := h12.al
  have h14 := h13.sr (k := 8) (j := 9) (r := 15) (by decide) (by decide)
  have h15 := h14.al
  have h16 := h15.sr (k := 8) (j := 10) (r := 16) (by decide) (by decide)
  have h17 := h16.al
  have h18 := h17.sr (k := 8) (j := 11) (r := 17) (by decide) (by decide)
  have h19 := h18.sl (k := 14) (r := oR 1024) (by decide)
  refine ⟨?_, h19⟩
  have hz := h
  unfold r_X6_init
  simp only [Nat.reduceAdd]
  rw [nm_eq, grd_t h.fr, grd_t (by decide), nm_eq, vT_nv (n := 9) rfl, nm_eq, h.nw, grd_t (by decide), nm_eq, nm_eq, grd_t h2.fr, grd_t (by decide), nm_eq, vT_nv (n := 10) rfl, nm_eq, h2.nw, grd_t (by decide), nm_eq, nm_eq, grd_t h4.fr, grd_t (by decide), nm_eq, vT_nv (n := 11) rfl, nm_eq, h4.nw, grd_t (by decide), nm_eq, nm_eq, grd_t h6.fr, grd_t (by decide), nm_eq, vT_nv (n := 12) rfl, nm_eq, h6.nw, grd_t (by decide), nm_eq, nm_eq, grd_t h8.fr, grd_t (by decide), nm_eq, vT_nv (n := 13) rfl, nm_eq, h8.nw, grd_t (by decide), nm_eq, nm_eq, grd_t h10.fr, grd_t (by decide), nm_eq, vT_nv (n := 14) rfl, nm_eq, h10.nw, grd_t (by decide), nm_eq, nm_eq, grd_t h12.fr, grd_t (by decide), nm_eq, vT_nv (n := 15) rfl, nm_eq, h12.nw, grd_t (by decide), nm_eq, nm_eq, grd_t h14.fr, grd_t (by decide), nm_eq, vT_nv (n := 16) rfl, nm_eq, h14.nw, grd_t (by decide), nm_eq, nm_eq, grd_t h16.fr, grd_t (by decide), nm_eq, vT_nv (n := 17) rfl, nm_eq, h16.nw, grd_t (by decide), nm_eq]
  exact ones_loop (g := (sR (sR (sR (sR (sR (sR (sR (sR (sR g 8 0 (some 9)) 8 1 (some 10)) 8 2 (some 11)) 8 3 (some 12)) 8 4 (some 13)) 8 5 (some 14)) 8 9 (some 15)) 8 10 (some 16)) 8 11 (some 17))) (fun j => (hz.2 14 j (by decide)).2) (by rfl)
def e_X7_20 (g : Hq) : Hq := (sR g 20 0 (some 21))
theorem i_X7_20 {g : Hq} (h : St 21 g) : r_X7_init (vT 21) 20 g = some ((), vT 22, e_X7_20 g) ∧ St 22 (e_X7_20 g) := by
  have h1 := h.al
  have h2 := h1.sr (k := 20) (j := 0) (r := 21) (by decide) (by decide)
  refine ⟨?_, h2⟩
  unfold r_X7_init
  simp only [Nat.reduceAdd]
  rw [nm_eq, grd_t h.fr, grd_t (by decide), nm_eq, vT_nv (n := 21) rfl, nm_eq, h.nw, grd_t (by decide), nm_eq]
  rfl
def e_X5_22 (g : Hq) : Hq := (sR g 22 0 (some 23))
theorem i_X5_22 {g : Hq} (h : St 23 g) : r_X5_init (vT 23) 22 g = some ((), vT 24, e_X5_22 g) ∧ St 24 (e_X5_22 g) := by
  have h1 := h.al
  have h2 := h1.sr (k := 22) (j := 0) (r := 23) (by decide) (by decide)
  refine ⟨?_, h2⟩
  unfold r_X5_init
  simp only [Nat.reduceAdd]
  rw [nm_eq, grd_t h.fr, grd_t (by decide), nm_eq, vT_nv (n := 23) rfl, nm_eq, h.nw, grd_t (by decide), nm_eq]
  rfl
def e_X1_24 (g : Hq) : Hq := (sI (sR g 24 0 (some 25)) 24 3 (-1))
theorem i_X1_24 {g : Hq} (h : St 25 g) : r_X1_init (vT 25) 24 g = some ((), vT 26, e_X1_24 g) ∧ St 26 (e_X1_24 g) := by
  have h1 := h.al
  have h2 := h1.sr (k := 24) (j := 0) (r := 25) (by decide) (by decide)
  have h3 := h2.si (k := 24) (j := 3) (v := -1) (by decide)
  refine ⟨?_, h3⟩
  unfold r_X1_init
  simp only [Nat.reduceAdd]
  rw [nm_eq, grd_t h.fr, grd_t (by decide), nm_eq, vT_nv (n := 25) rfl, nm_eq, h.nw, grd_t (by decide), nm_eq, nm_eq]
  rfl
def e_X4_26 (g : Hq) : Hq := (fgt (sR (sR (sR (sR g 26 9 (some 27)) 26 10 (some 28)) 26 11 (some 29)) 26 12 (some 30)) 26)
theorem i_X4_26 {g : Hq} (h : St 27 g) : r_X4_init (vT 27) 26 g = some ((), vT 31, e_X4_26 g) ∧ St 31 (e_X4_26 g) := by
  have h1 := h.al
  have h2 := h1.sr (k := 26) (j := 9) (r := 27) (by decide) (by decide)
  have h3 := h2.al
  have h4 := h3.sr (k := 26) (j := 10) (r := 28) (by decide) (by decide)
  have h5 := h4.al
  have h6 := h5.sr (k := 26) (j := 11) (r := 29) (by decide) (by decide)
  have h7 := h6.al
  have h8 := h7.sr (k := 26) (j := 12) (r := 30) (by decide) (by decide)
  have h9 := fgt_St h8 (k := 26) (by decide)
  refine ⟨?_, h9⟩
  unfold r_X4_init
  simp only [Nat.reduceAdd]
  rw [nm_eq, grd_t h.fr, grd_t (by decide), nm_eq, vT_nv (n := 27) rfl, nm_eq, h.nw, grd_t (by decide), nm_eq, nm_eq, grd_t h2.fr, grd_t (by decide), nm_eq, vT_nv (n := 28) rfl, nm_eq, h2.nw, grd_t (by decide), nm_eq, nm_eq, grd_t h4.fr, grd_t (by decide), nm_eq, vT_nv (n := 29) rfl, nm_eq, h4.nw, grd_t (by decide), nm_eq, nm_eq, grd_t h6.fr, grd_t (by decide), nm_eq, vT_nv (n := 30) rfl, nm_eq, h6.nw, grd_t (by decide), nm_eq, p_forget (by decide), bnd_some]
  rfl
def e_X4_32 (g : Hq) : Hq := (fgt (sR (sR (sR (sR g 32 9 (some 33)) 32 10 (some 34)) 32 11 (some 35)) 32 12 (some 36)) 32)
theorem i_X4_32 {g : Hq} (h : St 33 g) : r_X4_init (vT 33) 32 g = some ((), vT 37, e_X4_32 g) ∧ St 37 (e_X4_32 g) := by
  have h1 := h.al
  have h2 := h1.sr (k := 32) (j := 9) (r := 33) (by decide) (by decide)
  have h3 := h2.al
  have h4 := h3.sr (k := 32) (j := 10) (r := 34) (by decide) (by decide)
  have h5 := h4.al
  have h6 := h5.sr (k := 32) (j := 11) (r := 35) (by decide) (by decide)
  have h7 := h6.al
  have h8 := h7.sr (k := 32) (j := 12) (r := 36) (by decide) (by decide)
  have h9 := fgt_St h8 (k := 32) (by decide)
  refine ⟨?_, h9⟩
  unfold r_X4_init
  simp only [Nat.reduceAdd]
  rw [nm_eq, grd_t h.fr, grd_t (by decide), nm_eq, vT_nv (n := 33) rfl, nm_eq, h.nw, grd_t (by decide), nm_eq, nm_eq, grd_t h2.fr, grd_t (by decide), nm_eq, vT_nv (n := 34) rfl, nm_eq, h2.nw, grd_t (by decide), nm_eq, nm_eq, grd_t h4.fr, grd_t (by decide), nm_eq, vT_nv (n := 35) rfl, nm_eq, h4.nw, grd_t (by decide), nm_eq, nm_eq, grd_t h6.fr, grd_t (by decide), nm_eq, vT_nv (n := 36) rfl, nm_eq, h6.nw, grd_t (by decide), nm_eq, p_forget (by decide), bnd_some]
  rfl
def e_X10_31 (g : Hq) : Hq := (sR (sR (sR (sI (sI (sI (sR (e_X4_32 g) 31 0 (some 32)) 31 3 (-1)) 31 4 (-1)) 31 5 (-1)) 31 6 (some 37)) 31 7 (some 38)) 31 8 (some 39))
theorem i_X10_31 {g : Hq} (h : St 32 g) : r_X10_init (vT 32) 31 g = some ((), vT 40, e_X10_31 g) ∧ St 40 (e_X10_31 g) := by
  have h1 := h.al
  have h2 := (i_X4_32 h1).2
  have h3 := h2.sr (k := 31) (j := 0) (r := 32) (by decide) (by decide)
  have h4 := h3.si (k := 31) (j := 3) (v := -1) (by decide)
  have h5 := h4.si (k := 31) (j := 4) (v := -1) (by decide)
  have h6 := h5.si (k := 31) (j := 5) (v := -1) (by decide)
  have h7 := h6.al
  have h8 := h7.sr (k := 31) (j := 6) (r := 37) (by decide) (by decide)
  have h9 := h8.al
  have h10 := h9.sr (k := 31) (j := 7) (r := 38) (by decide) (by decide)
  have h11 := h10.al
  have h12 := h11.sr (k := 31) (j := 8) (r := 39) (by decide) (by decide)
  refine ⟨?_, h12⟩
  unfold r_X10_init
  simp only [Nat.reduceAdd]
  rw [nm_eq, grd_t h.fr, grd_t (by decide), nm_eq, vT_nv (n := 32) rfl, nm_eq, h.nw, grd_t (by decide), grd_t (by decide), (i_X4_32 h1).1, bna_some, grd_t (by decide), nm_eq, nm_eq, nm_eq, nm_eq, nm_eq, grd_t h6.fr, grd_t (by decide), nm_eq, vT_nv (n := 37) rfl, nm_eq, h6.nw, grd_t (by decide), nm_eq, nm_eq, grd_t h8.fr, grd_t (by decide), nm_eq, vT_nv (n := 38) rfl, nm_eq, h8.nw, grd_t (by decide), nm_eq, nm_eq, grd_t h10.fr, grd_t (by decide), nm_eq, vT_nv (n := 39) rfl, nm_eq, h10.nw, grd_t (by decide), nm_eq]
  rfl
def e_X4_41 (g : Hq) : Hq := (fgt (sR (sR (sR (sR g 41 9 (some 42)) 41 10 (some 43)) 41 11 (some 44)) 41 12 (some 45)) 41)
theorem i_X4_41 {g : Hq} (h : St 42 g) : r_X4_init (vT 42) 41 g = some ((), vT 46, e_X4_41 g) ∧ St 46 (e_X4_41 g) := by
  have h1 := h.al
  have h2 := h1.sr (k := 41) (j := 9) (r := 42) (by decide) (by decide)
  have h3 := h2.al
  have h4 := h3.sr (k := 41) (j := 10) (r := 43) (by decide) (by decide)
  have h5 := h4.al
  have h6 := h5.sr (k := 41) (j := 11) (r := 44) (by decide) (by decide)
  have h7 := h6.al
  have h8 := h7.sr (k := 41) (j := 12) (r := 45) (by decide) (by decide)
  have h9 := fgt_St h8 (k := 41) (by decide)
  refine ⟨?_, h9⟩
  unfold r_X4_init
  simp only [Nat.reduceAdd]
  rw [nm_eq, grd_t h.fr, grd_t (by decide), nm_eq, vT_nv (n := 42) rfl, nm_eq, h.nw, grd_t (by decide), nm_eq, nm_eq, grd_t h2.fr, grd_t (by decide), nm_eq, vT_nv (n := 43) rfl, nm_eq, h2.nw, grd_t (by decide), nm_eq, nm_eq, grd_t h4.fr, grd_t (by decide), nm_eq, vT_nv (n := 44) rfl, nm_eq, h4.nw, grd_t (by decide), nm_eq, nm_eq, grd_t h6.fr, grd_t (by decide), nm_eq, vT_nv (n := 45) rfl, nm_eq, h6.nw, grd_t (by decide), nm_eq, p_forget (by decide), bnd_some]
  rfl
def e_X10_40 (g : Hq) : Hq := (sR (sR (sR (sI (sI (sI (sR (e_X4_41 g) 40 0 (some 41)) 40 3 (-1)) 40 4 (-1)) 40 5 (-1)) 40 6 (some 46)) 40 7 (some 47)) 40 8 (some 48))
theorem i_X10_40 {g : Hq} (h : St 41 g) : r_X10_init (vT 41) 40 g = some ((), vT 49, e_X10_40 g) ∧ St 49 (e_X10_40 g) := by
  have h1 := h.al
  have h2 := (i_X4_41 h1).2
  have h3 := h2.sr (k := 40) (j := 0) (r := 41) (by decide) (by decide)
  have h4 := h3.si (k := 40) (j := 3) (v := -1) (by decide)
  have h5 := h4.si (k := 40) (j := 4) (v := -1) (by decide)
  have h6 := h5.si (k := 40) (j := 5) (v := -1) (by decide)
  have h7 := h6.al
  have h8 := h7.sr (k := 40) (j := 6) (r := 46) (by decide) (by decide)
  have h9 := h8.al
  have h10 := h9.sr (k := 40) (j := 7) (r := 47) (by decide) (by decide)
  have h11 := h10.al
  have h12 := h11.sr (k := 40) (j := 8) (r := 48) (by decide) (by decide)
  refine ⟨?_, h12⟩
  unfold r_X10_init
  simp only [Nat.reduceAdd]
  rw [nm_eq, grd_t h.fr, grd_t (by decide), nm_eq, vT_nv (n := 41) rfl, nm_eq, h.nw, grd_t (by decide), grd_t (by decide), (i_X4_41 h1).1, bna_some, grd_t (by decide), nm_eq, nm_eq, nm_eq, nm_eq, nm_eq, grd_t h6.fr, grd_t (by decide), nm_eq, vT_nv (n := 46) rfl, nm_eq, h6.nw, grd_t (by decide), nm_eq, nm_eq, grd_t h8.fr, grd_t (by decide), nm_eq, vT_nv (n := 47) rfl, nm_eq, h8.nw, grd_t (by decide), nm_eq, nm_eq, grd_t h10.fr, grd_t (by decide), nm_eq, vT_nv (n := 48) rfl, nm_eq, h10.nw, grd_t (by decide), nm_eq]
  rfl
def e_X4_50 (g : Hq) : Hq := (fgt (sR (sR (sR (sR g 50 9 (some 51)) 50 10 (some 52)) 50 11 (some 53)) 50 12 (some 54)) 50)
theorem i_X4_50 {g : Hq} (h : St 51 g) : r_X4_init (vT 51) 50 g = some ((), vT 55, e_X4_50 g) ∧ St 55 (e_X4_50 g) := by
  have h1 := h.al
  have h2 := h1.sr (k := 50) (j := 9) (r := 51) (by decide) (by decide)
  have h3 := h2.al
  have h4 := h3.sr (k := 50) (j := 10) (r := 52) (by decide) (by decide)
  have h5 := h4.al
  have h6 := h5.sr (k := 50) (j := 11) (r := 53) (by decide) (by decide)
  have h7 := h6.al
  have h8 := h7.sr (k := 50) (j := 12) (r := 54) (by decide) (by decide)
  have h9 := fgt_St h8 (k := 50) (by decide)
  refine ⟨?_, h9⟩
  unfold r_X4_init
  simp only [Nat.reduceAdd]
  rw [nm_eq, grd_t h.fr, grd_t (by decide), nm_eq, vT_nv (n := 51) rfl, nm_eq, h.nw, grd_t (by decide), nm_eq, nm_eq, grd_t h2.fr, grd_t (by decide), nm_eq, vT_nv (n := 52) rfl, nm_eq, h2.nw, grd_t (by decide), nm_eq, nm_eq, grd_t h4.fr, grd_t (by decide), nm_eq, vT_nv (n := 53) rfl, nm_eq, h4.nw, grd_t (by decide), nm_eq, nm_eq, grd_t h6.fr, grd_t (by decide), nm_eq, vT_nv (n := 54) rfl, nm_eq, h6.nw, grd_t (by decide), nm_eq, p_forget (by decide), bnd_some]
  rfl
def e_X10_49 (g : Hq) : Hq := (sR (sR (sR (sI (sI (sI (sR (e_X4_50 g) 49 0 (some 50)) 49 3 (-1)) 49 4 (-1)) 49 5 (-1)) 49 6 (some 55)) 49 7 (some 56)) 49 8 (some 57))
theorem i_X10_49 {g : Hq} (h : St 50 g) : r_X10_init (vT 50) 49 g = some ((), vT 58, e_X10_49 g) ∧ St 58 (e_X10_49 g) := by
  have h1 := h.al
  have h2 := (i_X4_50 h1).2
  have h3 := h2.sr (k := 49) (j := 0) (r := 50) (by decide) (by decide)
  have h4 := h3.si (k := 49) (j := 3) (v := -1) (by decide)
  have h5 := h4.si (k := 49) (j := 4) (v := -1) (by decide)
  have h6 := h5.si (k := 49) (j := 5) (v := -1) (by decide)
  have h7 := h6.al
  have h8 := h7.sr (k := 49) (j := 6) (r := 55) (by decide) (by decide)
  have h9 := h8.al
  have h10 := h9.sr (k := 49) (j := 7) (r := 56) (by decide) (by decide)
  have h11 := h10.al
  have h12 := h11.sr (k := 49) (j := 8) (r := 57) (by decide) (by decide)
  refine ⟨?_, h12⟩
  unfold r_X10_init
  simp only [Nat.reduceAdd]
  rw [nm_eq, grd_t h.fr, grd_t (by decide), nm_eq, vT_nv (n := 50) rfl, nm_eq, h.nw, grd_t (by decide), grd_t (by decide), (i_X4_50 h1).1, bna_some, grd_t (by decide), nm_eq, nm_eq, nm_eq, nm_eq, nm_eq, grd_t h6.fr, grd_t (by decide), nm_eq, vT_nv (n := 55) rfl, nm_eq, h6.nw, grd_t (by decide), nm_eq, nm_eq, grd_t h8.fr, grd_t (by decide), nm_eq, vT_nv (n := 56) rfl, nm_eq, h8.nw, grd_t (by decide), nm_eq, nm_eq, grd_t h10.fr, grd_t (by decide), nm_eq, vT_nv (n := 57) rfl, nm_eq, h10.nw, grd_t (by decide), nm_eq]
  rfl
def e_X4_59 (g : Hq) : Hq := (fgt (sR (sR (sR (sR g 59 9 (some 60)) 59 10 (some 61)) 59 11 (some 62)) 59 12 (some 63)) 59)
theorem i_X4_59 {g : Hq} (h : St 60 g) : r_X4_init (vT 60) 59 g = some ((), vT 64, e_X4_59 g) ∧ St 64 (e_X4_59 g) := by
  have h1 := h.al
  have h2 := h1.sr (k := 59) (j := 9) (r := 60) (by decide) (by decide)
  have h3 := h2.al
  have h4 := h3.sr (k := 59) (j := 10) (r := 61) (by decide) (by decide)
  have h5 := h4.al
  have h6 := h5.sr (k := 59) (j := 11) (r := 62) (by decide) (by decide)
  have h7 := h6.al
  have h8 := h7.sr (k := 59) (j := 12) (r := 63) (by decide) (by decide)
  have h9 := fgt_St h8 (k := 59) (by decide)
  refine ⟨?_, h9⟩
  unfold r_X4_init
  simp only [Nat.reduceAdd]
  rw [nm_eq, grd_t h.fr, grd_t (by decide), nm_eq, vT_nv (n := 60) rfl, nm_eq, h.nw, grd_t (by decide), nm_eq, nm_eq, grd_t h2.fr, grd_t (by decide), nm_eq, vT_nv (n := 61) rfl, nm_eq, h2.nw, grd_t (by decide), nm_eq, nm_eq, grd_t h4.fr, grd_t (by decide), nm_eq, vT_nv (n := 62) rfl, nm_eq, h4.nw, grd_t (by decide), nm_eq, nm_eq, grd_t h6.fr, grd_t (by decide), nm_eq, vT_nv (n := 63) rfl, nm_eq, h6.nw, grd_t (by decide), nm_eq, p_forget (by decide), bnd_some]
  rfl
def e_X10_58 (g : Hq) : Hq := (sR (sR (sR (sI (sI (sI (sR (e_X4_59 g) 58 0 (some 59)) 58 3 (-1)) 58 4 (-1)) 58 5 (-1)) 58 6 (some 64)) 58 7 (some 65)) 58 8 (some 66))
theorem i_X10_58 {g : Hq} (h : St 59 g) : r_X10_init (vT 59) 58 g = some ((), vT 67, e_X10_58 g) ∧ St 67 (e_X10_58 g) := by
  have h1 := h.al
  have h2 := (i_X4_59 h1).2
  have h3 := h2.sr (k := 58) (j := 0) (r := 59) (by decide) (by decide)
  have h4 := h3.si (k := 58) (j := 3) (v := -1) (by decide)
  have h5 := h4.si (k := 58) (j := 4) (v := -1) (by decide)
  have h6 := h5.si (k := 58) (j := 5) (v := -1) (by decide)
  have h7 := h6.al
  have h8 := h7.sr (k := 58) (j := 6) (r := 64) (by decide) (by decide)
  have h9 := h8.al
  have h10 := h9.sr (k := 58) (j := 7) (r := 65) (by decide) (by decide)
  have h11 := h10.al
  have h12 := h11.sr (k := 58) (j := 8) (r := 66) (by decide) (by decide)
  refine ⟨?_, h12⟩
  unfold r_X10_init
  simp only [Nat.reduceAdd]
  rw [nm_eq, grd_t h.fr, grd_t (by decide), nm_eq, vT_nv (n := 59) rfl, nm_eq, h.nw, grd_t (by decide), grd_t (by decide), (i_X4_59 h1).1, bna_some, grd_t (by decide), nm_eq, nm_eq, nm_eq, nm_eq, nm_eq, grd_t h6.fr, grd_t (by decide), nm_eq, vT_nv (n := 64) rfl, nm_eq, h6.nw, grd_t (by decide), nm_eq, nm_eq, grd_t h8.fr, grd_t (by decide), nm_eq, vT_nv (n := 65) rfl, nm_eq, h8.nw, grd_t (by decide), nm_eq, nm_eq, grd_t h10.fr, grd_t (by decide), nm_eq, vT_nv (n := 66) rfl, nm_eq, h10.nw, grd_t (by decide), nm_eq]
  rfl
def e_X11_0 (g : Hq) : Hq := (sR (e_X10_58 (sR (e_X10_49 (sR (e_X10_40 (sR (e_X10_31 (sR (e_X4_26 (sR (e_X1_24 (sR (e_X5_22 (sR (e_X7_20 (sR (sR (sR (sI (sR (e_X6_8 (sR (e_X9_3 (sR (e_X8_1 g) 0 0 (some 1))) 0 1 (some 3))) 0 2 (some 8)) 18 7 (-1)) 18 0 (some 1)) 0 3 (some 18)) 0 4 (some 19))) 0 5 (some 20))) 0 6 (some 22))) 0 7 (some 24))) 0 8 (some 26))) 19 0 (some 31))) 19 1 (some 40))) 19 2 (some 49))) 19 3 (some 58))
theorem i_X11_0 {g : Hq} (h : St 1 g) : r_X11_init (vT 1) 0 g = some ((), vT 67, e_X11_0 g) ∧ St 67 (e_X11_0 g) := by
  have h1 := h.al
  have h2 := (i_X8_1 h1).2
  have h3 := h2.sr (k := 0) (j := 0) (r := 1) (by decide) (by decide)
  have h4 := h3.al
  have h5 := (i_X9_3 h4).2
  have h6 := h5.sr (k := 0) (j := 1) (r := 3) (by decide) (by decide)
  have h7 := h6.al
  have h8 := (i_X6_8 h7).2
  have h9 := h8.sr (k := 0) (j := 2) (r := 8) (by decide) (by decide)
  have h10 := h9.al
  have h11 := (h10.si (k := 18) (j := 7) (v := -1) (by decide)).sr (k := 18) (j := 0) (r := 1) (by decide) (by decide)
  have h12 := h11.sr (k := 0) (j := 3) (r := 18) (by decide) (by decide)
  have h13 := h12.al
  have h14 := h13.sr (k := 0) (j := 4) (r := 19) (by decide) (by decide)
  have h15 := h14.al
  have h16 := (i_X7_20 h15).2
  have h17 := h16.sr (k := 0) (j := 5) (r := 20) (by decide) (by decide)
  have h18 := h17.al
  have h19 := (i_X5_22 h18).2
  have h20 := h19.sr (k := 0) (j := 6) (r := 22) (by decide) (by decide)
  have h21 := h20.al
  have h22 := (i_X1_24 h21).2
  have h23 := h22.sr (k := 0) (j := 7) (r := 24) (by decide) (by decide)
  have h24 := h23.al
  have h25 := (i_X4_26 h24).2
  have h26 := h25.sr (k := 0) (j := 8) (r := 26) (by decide) (by decide)
  have h27 := h26.al
  have h28 := (i_X10_31 h27).2
  have h29 := h28.sr (k := 19) (j := 0) (r := 31) (by decide) (by decide)
  have h30 := h29.al
  have h31 := (i_X10_40 h30).2
  have h32 := h31.sr (k := 19) (j := 1) (r := 40) (by decide) (by decide)
  have h33 := h32.al
  have h34 := (i_X10_49 h33).2
  have h35 := h34.sr (k := 19) (j := 2) (r := 49) (by decide) (by decide)
  have h36 := h35.al
  have h37 := (i_X10_58 h36).2
  have h38 := h37.sr (k := 19) (j := 3) (r := 58) (by decide) (by decide)
  refine ⟨?_, h38⟩
  unfold r_X11_init
  simp only [Nat.reduceAdd]
  rw [nm_eq, grd_t h.fr, grd_t (by decide), nm_eq, vT_nv (n := 1) rfl, nm_eq, h.nw, grd_t (by decide), grd_t (by decide), (i_X8_1 h1).1, bna_some, grd_t (by decide), nm_eq, nm_eq, grd_t h3.fr, grd_t (by decide), nm_eq, vT_nv (n := 3) rfl, nm_eq, h3.nw, grd_t (by decide), grd_t (by decide), (i_X9_3 h4).1, bna_some, grd_t (by decide), nm_eq, nm_eq, grd_t h6.fr, grd_t (by decide), nm_eq, vT_nv (n := 8) rfl, nm_eq, h6.nw, grd_t (by decide), grd_t (by decide), (i_X6_8 h7).1, bna_some, grd_t (by decide), nm_eq, nm_eq, grd_t h9.fr, grd_t (by decide), nm_eq, vT_nv (n := 18) rfl, nm_eq, h9.nw, grd_t (by decide), bind_ref (k := 1) (by rfl), i_X3, bnd_some, nm_eq, nm_eq, grd_t h12.fr, grd_t (by decide), nm_eq, vT_nv (n := 19) rfl, nm_eq, h12.nw, grd_t (by decide), nm_eq, nm_eq, grd_t h14.fr, grd_t (by decide), nm_eq, vT_nv (n := 20) rfl, nm_eq, h14.nw, grd_t (by decide), grd_t (by decide), (i_X7_20 h15).1, bna_some, grd_t (by decide), nm_eq, nm_eq, grd_t h17.fr, grd_t (by decide), nm_eq, vT_nv (n := 22) rfl, nm_eq, h17.nw, grd_t (by decide), grd_t (by decide), (i_X5_22 h18).1, bna_some, grd_t (by decide), nm_eq, nm_eq, grd_t h20.fr, grd_t (by decide), nm_eq, vT_nv (n := 24) rfl, nm_eq, h20.nw, grd_t (by decide), grd_t (by decide), (i_X1_24 h21).1, bna_some, grd_t (by decide), nm_eq, nm_eq, grd_t h23.fr, grd_t (by decide), nm_eq, vT_nv (n := 26) rfl, nm_eq, h23.nw, grd_t (by decide), grd_t (by decide), (i_X4_26 h24).1, bna_some, grd_t (by decide), nm_eq, bind_ref (k := 19) (by rfl), nm_eq, grd_t h26.fr, grd_t (by decide), grd_t (by decide), nm_eq, vT_nv (n := 31) rfl, nm_eq, h26.nw, grd_t (by decide), grd_t (by decide), grd_t (by decide), (i_X10_31 h27).1, bna_some, grd_t (show okV (vT 40) 19 4 0 from ok_nI (n := 4) (t := 4) (j := 0) (by decide) (by decide) (by decide)), grd_t (by decide), nm_eq, show (0 : Int32).toNatClampNeg = 0 from rfl, grd_t (by decide), bind_ref (k := 19) (by rfl), nm_eq, grd_t h29.fr, grd_t (by decide), grd_t (by decide), nm_eq, vT_nv (n := 40) rfl, nm_eq, h29.nw, grd_t (by decide), grd_t (by decide), grd_t (by decide), (i_X10_40 h30).1, bna_some, grd_t (show okV (vT 49) 19 4 1 from ok_nI (n := 4) (t := 4) (j := 1) (by decide) (by decide) (by decide)), grd_t (by decide), nm_eq, show (1 : Int32).toNatClampNeg = 1 from rfl, grd_t (by decide), bind_ref (k := 19) (by rfl), nm_eq, grd_t h32.fr, grd_t (by decide), grd_t (by decide), nm_eq, vT_nv (n := 49) rfl, nm_eq, h32.nw, grd_t (by decide), grd_t (by decide), grd_t (by decide), (i_X10_49 h33).1, bna_some, grd_t (show okV (vT 58) 19 4 2 from ok_nI (n := 4) (t := 4) (j := 2) (by decide) (by decide) (by decide)), grd_t (by decide), nm_eq, show (2 : Int32).toNatClampNeg = 2 from rfl, grd_t (by decide), bind_ref (k := 19) (by rfl), nm_eq, grd_t h35.fr, grd_t (by decide), grd_t (by decide), nm_eq, vT_nv (n := 58) rfl, nm_eq, h35.nw, grd_t (by decide), grd_t (by decide), grd_t (by decide), (i_X10_58 h36).1, bna_some, grd_t (show okV (vT 67) 19 4 3 from ok_nI (n := 4) (t := 4) (j := 3) (by decide) (by decide) (by decide)), grd_t (by decide), nm_eq, show (3 : Int32).toNatClampNeg = 3 from rfl]
  rfl
