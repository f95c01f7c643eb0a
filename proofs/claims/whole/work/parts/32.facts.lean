theorem fl_in {b : Nat} {s : State} (h : (Jvm.Cond.and given_1 narrow_1).before #[Value.ref b] s = true) {w : Cond} (hw : w ∈ flatC (Jvm.Cond.and given_1 narrow_1)) : w.before #[Value.ref b] s = true := flat_of_before _ h w hw
def tmS (i : Nat) : Term := .string (sT.getD i ("", 0, "")).1 (sT.getD i ("", 0, "")).2.1
def flS : List Cond := flatC (Jvm.Cond.and given_1 narrow_1)
def exP : List Nat := [9, 16, 26, 36, 47, 60, 73, 87, 103, 119, 134, 151, 172, 194]
def coP : List Nat := [10, 17, 27, 37, 48, 61, 74, 88, 104, 120, 135, 152, 173, 195]
def arP : List Nat := [11, 18, 28, 38, 49, 62, 75, 89, 105, 121, 136, 153, 174, 196]
def leP : List Nat := [12, 19, 29, 39, 50, 63, 76, 90, 106, 122, 137, 154, 175, 197]
def elP : List (List Nat) := [[13, 14, 15], [20, 21, 22, 23, 24], [30, 31, 32, 33], [40, 41, 42, 43], [51, 52, 53, 54, 55], [64, 65, 66, 67], [77, 78, 79, 80], [91, 92, 93, 94, 95], [107, 108, 109, 110], [123, 124], [138, 139, 140], [155, 156, 157, 158, 159, 160], [176, 177, 178, 179, 180, 181], [198, 199, 200, 201, 202, 203, 204, 205, 206, 207, 208, 209, 210, 211, 212, 213, 214, 215, 216, 217, 218, 219, 220, 221, 222, 223, 224, 225, 226, 227, 228, 229, 230, 231, 232, 233, 234, 235, 236, 237, 238, 239, 240, 241, 242, 243, 244, 245, 246, 247, 248, 249, 250, 251, 252, 253, 254, 255, 256, 257, 258, 259, 260, 261, 262, 263, 264, 265]]
def neP : List (List Nat) := [[0, 25, 34, 44, 56, 68, 81, 96, 111, 125, 141, 161, 182, 266], [0, 0, 35, 45, 57, 69, 82, 97, 112, 126, 142, 162, 183, 267], [0, 0, 0, 46, 58, 70, 83, 98, 113, 127, 143, 163, 184, 268], [0, 0, 0, 0, 59, 71, 84, 99, 114, 128, 144, 164, 185, 269], [0, 0, 0, 0, 0, 72, 85, 100, 115, 129, 145, 165, 186, 270], [0, 0, 0, 0, 0, 0, 86, 101, 116, 130, 146, 166, 187, 271], [0, 0, 0, 0, 0, 0, 0, 102, 117, 131, 147, 167, 188, 272], [0, 0, 0, 0, 0, 0, 0, 0, 118, 132, 148, 168, 189, 273], [0, 0, 0, 0, 0, 0, 0, 0, 0, 133, 149, 169, 190, 274], [0, 0, 0, 0, 0, 0, 0, 0, 0, 0, 150, 170, 191, 275], [0, 0, 0, 0, 0, 0, 0, 0, 0, 0, 0, 171, 192, 276], [0, 0, 0, 0, 0, 0, 0, 0, 0, 0, 0, 0, 193, 277], [0, 0, 0, 0, 0, 0, 0, 0, 0, 0, 0, 0, 0, 278], [0, 0, 0, 0, 0, 0, 0, 0, 0, 0, 0, 0, 0, 0]]
def rfP : List Nat := [578, 644, 645, 646, 647, 660, 661, 662, 663, 668, 673, 679, 680, 1230]
set_option maxRecDepth 100000 in
theorem st_ex0 : ∀ i : Nat, i < 14 → flS[exP.getD i 0]? = some (Cond.exactly (tmS i) "java/lang/String") := by decide +kernel
set_option maxRecDepth 100000 in
theorem st_co0 : ∀ i : Nat, i < 14 → flS[coP.getD i 0]? = some (Cond.eq (.field (tmS i) "java/lang/String" "coder" "B") (.int 0)) := by decide +kernel
set_option maxRecDepth 100000 in
theorem st_ar0 : ∀ i : Nat, i < 14 → flS[arP.getD i 0]? = some (Cond.arrayOf (.field (tmS i) "java/lang/String" "value" "[B") .byte) := by decide +kernel
set_option maxRecDepth 100000 in
theorem st_le0 : ∀ i : Nat, i < 14 → flS[leP.getD i 0]? = some (Cond.eq (.length (.field (tmS i) "java/lang/String" "value" "[B")) (.int (Int32.ofNat (lenS.getD i 0)))) := by decide +kernel
set_option maxRecDepth 100000 in
theorem st_el0 : ∀ i : Nat, i < 14 → ∀ j : Nat, j < lenS.getD i 0 → flS[(elP.getD i []).getD j 0]? = some (Cond.eq (.elem (.field (tmS i) "java/lang/String" "value" "[B") (.int (Int32.ofNat j))) (.int ((bytS.getD i []).getD j 0))) := by decide +kernel
set_option maxRecDepth 100000 in
theorem st_ne0 : ∀ i : Nat, i < 14 → ∀ j : Nat, j < 14 → i < j → flS[(neP.getD i []).getD j 0]? = some (Cond.not (Cond.eq (tmS i) (tmS j))) := by decide +kernel
theorem st_ex (i : Nat) (h : i < 14) : Cond.exactly (tmS i) "java/lang/String" ∈ flS := List.mem_of_getElem? (st_ex0 i h)
theorem st_co (i : Nat) (h : i < 14) : Cond.eq (.field (tmS i) "java/lang/String" "coder" "B") (.int 0) ∈ flS := List.mem_of_getElem? (st_co0 i h)
theorem st_ar (i : Nat) (h : i < 14) : Cond.arrayOf (.field (tmS i) "java/lang/String" "value" "[B") .byte ∈ flS := List.mem_of_getElem? (st_ar0 i h)
theorem st_le (i : Nat) (h : i < 14) : Cond.eq (.length (.field (tmS i) "java/lang/String" "value" "[B")) (.int (Int32.ofNat (lenS.getD i 0))) ∈ flS := List.mem_of_getElem? (st_le0 i h)
theorem st_el (i : Nat) (h : i < 14) (j : Nat) (hj : j < lenS.getD i 0) : Cond.eq (.elem (.field (tmS i) "java/lang/String" "value" "[B") (.int (Int32.ofNat j))) (.int ((bytS.getD i []).getD j 0)) ∈ flS := List.mem_of_getElem? (st_el0 i h j hj)
theorem st_ne (i : Nat) (h : i < 14) (j : Nat) (hj : j < 14) (hne : i ≠ j) : Cond.not (Cond.eq (tmS i) (tmS j)) ∈ flS ∨ Cond.not (Cond.eq (tmS j) (tmS i)) ∈ flS := by
  rcases Nat.lt_or_gt_of_ne hne with q | q
  · exact Or.inl (List.mem_of_getElem? (st_ne0 i h j hj q))
  · exact Or.inr (List.mem_of_getElem? (st_ne0 j hj i h q))
theorem st_ln : ∀ i : Nat, i < 14 → lenS.getD i 0 < 2 ^ 31 := by decide +kernel
set_option maxRecDepth 100000 in
theorem st_rf0 : ∀ i : Nat, i < 14 → lw_tbl[rfP.getD i 0]? = some (Cond.stringRef (sT.getD i ("", 0, "")).1 (sT.getD i ("", 0, "")).2.1 (sT.getD i ("", 0, "")).2.2) := by decide +kernel
theorem st_rf (i : Nat) (h : i < 14) : Cond.stringRef (sT.getD i ("", 0, "")).1 (sT.getD i ("", 0, "")).2.1 (sT.getD i ("", 0, "")).2.2 ∈ lw_tbl := List.mem_of_getElem? (st_rf0 i h)
set_option maxRecDepth 100000 in
theorem st_cs : Cond.eq (.static "java/lang/String" "COMPACT_STRINGS" "Z") (.int 1) ∈ flS := List.mem_of_getElem? (i := 4) (by decide +kernel)
set_option maxRecDepth 100000 in
theorem st_sf : Cond.isRef (.static "jdk/internal/util/Preconditions" "SIOOBE_FORMATTER" "Ljava/util/function/BiFunction;") ∈ flS := List.mem_of_getElem? (i := 5) (by decide +kernel)
