/-! ===== words ===== -/
def chS (t j : Nat) : Int32 := (bytS.getD t []).getD j 0
def lnS (t : Nat) : Nat := lenS.getD t 0
theorem ch_ok : ∀ t : Fin 14, ∀ j : Fin 68, j.1 < lnS t.1 → (((chS t.1 j.1) &&& (255 : Int32)).toUInt32 % 65536).toInt32 = chS t.1 j.1 ∧ 0 ≤ (chS t.1 j.1).toInt ∧ (chS t.1 j.1).toInt ≤ 255 := by decide +kernel
theorem ln_ok : ∀ t : Fin 14, lnS t.1 ≤ 68 ∧ nI (lnS t.1) >>> ((0 : Int32) &&& 31) = nI (lnS t.1) := by decide +kernel
theorem p_strlen {V : Vk} {t : Nat} {g : Hq} (ht : t < 14) : r_J0_length_8abf5 V t g = some (nI (lnS t), g) := by
  unfold r_J0_length_8abf5 r_J0_coder_7d493
  rw [grd_t ht, grd_t ht, bnd_some]
  show some (nI (lnS t) >>> ((0 : Int32) &&& 31), g) = _
  rw [(ln_ok ⟨t, ht⟩).2]
theorem char_ok : ∀ t : Fin 14, ∀ j : Fin 68, j.1 < lnS t.1 → (((chS t.1 j.1).toUInt32 % 65536).toInt32 = chS t.1 j.1) := by decide +kernel
theorem nar_ch {x : Int32} (h : ((x.toUInt32 % 65536).toInt32 = x)) : narrow .char (.int x) = .int x := congrArg Value.int h
theorem p_char {V : Vk} {t j : Nat} {g : Hq} (ht : t < 14) (hj : j < lnS t) : r_J0_charAt_5068e V t (nI j) g = some (chS t j, g) := by
  have l68 := (ln_ok ⟨t, ht⟩).1
  have c := ch_ok ⟨t, ht⟩ ⟨j, by simp only at l68; omega⟩ hj
  simp only at c l68
  have hin : vp_in (nI j) (lnS t) := vp_in_nI hj (by omega)
  have cl := cl_nI (j := j) (by omega)
  unfold r_J0_charAt_5068e r_J0_isLatin1_aae02 r_J1_charAt_3b067
  rw [grd_t ht, grd_t ht, bnd_some, brn_f (by decide), grd_t ht]
  have ck : r_J0_checkIndex_df160 V (nI j) (nI (lenS.getD t 0)) g = some ((), g) := by
    unfold r_J0_checkIndex_df160 r_J3_checkIndex_8e157
    rw [brn_f (by rw [i_lt, tN (by omega), t0]; omega), brn_t (show nI j < nI (lenS.getD t 0) from nI_lt hj (show lnS t < 2 ^ 31 by omega)), bnd_some]
  rw [ck, bnd_some, grd_t (show vp_in (nI j) (lenS.getD t 0) from hin), cl]
  have e : (((((bytS.getD t []).getD j 0) &&& (255 : Int32)).toUInt32 % 65536).toInt32) = chS t j := c.1
  have ck2 := nar_ch (char_ok ⟨t, ht⟩ ⟨j, by omega⟩ hj)
  simp only at ck2
  rw [e, grd_t ck2, bnd_some, grd_t ck2]

