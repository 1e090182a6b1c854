/-! PairWalk -/
def kWalk (o1 o2 : Nat) : XK := kO 4 [fR o1, fR o2, fI, fI, fI, fI, fI, fI, fI, fI]
set_option maxHeartbeats 4000000 in
set_option maxRecDepth 100000 in
theorem tX4_valueOfOne {G : XG} {κ : XKs} {M : XM} {hs w o1 o2 : Nat} (hW : xO κ hs w (kWalk o1 o2)) {v : Int} (hv : M w 6 = v) : XC G mX4_valueOfOne 0 0 0 [xR w] κ M hs (pP κ M hs (xI v)) := by
  refine XC.intro cdX4_valueOfOne (by decide) (by decide) (Nat.le_of_ble_eq_true rfl) (loc := [some (xR w)]) rfl (fun X hX => ?_)
  refine x_aload_n (pc := 0) hX rfl rfl dX4_valueOfOne_0 ?_
  refine x_getI (pc := 1) hX fl_X4_16 hW rfl hv dX4_valueOfOne_1 ?_
  refine x_iret (pc := 4) hX rfl (Nat.zero_le _) (Nat.zero_le _) dX4_valueOfOne_4 (pP_i rfl)

set_option maxHeartbeats 4000000 in
set_option maxRecDepth 100000 in
theorem tX4_valueOfOther {G : XG} {κ : XKs} {M : XM} {hs w o1 o2 : Nat} (hW : xO κ hs w (kWalk o1 o2)) {v : Int} (hv : M w 7 = v) : XC G mX4_valueOfOther 0 0 0 [xR w] κ M hs (pP κ M hs (xI v)) := by
  refine XC.intro cdX4_valueOfOther (by decide) (by decide) (Nat.le_of_ble_eq_true rfl) (loc := [some (xR w)]) rfl (fun X hX => ?_)
  refine x_aload_n (pc := 0) hX rfl rfl dX4_valueOfOther_0 ?_
  refine x_getI (pc := 1) hX fl_X4_20 hW rfl hv dX4_valueOfOther_1 ?_
  refine x_iret (pc := 4) hX rfl (Nat.zero_le _) (Nat.zero_le _) dX4_valueOfOther_4 (pP_i rfl)

set_option maxHeartbeats 4000000 in
set_option maxRecDepth 100000 in
theorem tX4_firstRow {G : XG} {κ : XKs} {M : XM} {hs w o1 o2 : Nat} (hW : xO κ hs w (kWalk o1 o2)) {v : Int} (hv : M w 8 = v) : XC G mX4_firstRow 0 0 0 [xR w] κ M hs (pP κ M hs (xI v)) := by
  refine XC.intro cdX4_firstRow (by decide) (by decide) (Nat.le_of_ble_eq_true rfl) (loc := [some (xR w)]) rfl (fun X hX => ?_)
  refine x_aload_n (pc := 0) hX rfl rfl dX4_firstRow_0 ?_
  refine x_getI (pc := 1) hX fl_X4_26 hW rfl hv dX4_firstRow_1 ?_
  refine x_iret (pc := 4) hX rfl (Nat.zero_le _) (Nat.zero_le _) dX4_firstRow_4 (pP_i rfl)

set_option maxHeartbeats 4000000 in
set_option maxRecDepth 100000 in
theorem tX4_length {G : XG} {κ : XKs} {M : XM} {hs w o1 o2 : Nat} (hW : xO κ hs w (kWalk o1 o2)) {v : Int} (hv : M w 9 = v) : XC G mX4_length 0 0 0 [xR w] κ M hs (pP κ M hs (xI v)) := by
  refine XC.intro cdX4_length (by decide) (by decide) (Nat.le_of_ble_eq_true rfl) (loc := [some (xR w)]) rfl (fun X hX => ?_)
  refine x_aload_n (pc := 0) hX rfl rfl dX4_length_0 ?_
  refine x_getI (pc := 1) hX fl_X4_23 hW rfl hv dX4_length_1 ?_
  refine x_iret (pc := 4) hX rfl (Nat.zero_le _) (Nat.zero_le _) dX4_length_4 (pP_i rfl)

set_option maxHeartbeats 4000000 in
set_option maxRecDepth 100000 in
theorem tX4_isAlike {G : XG} {κ : XKs} {M : XM} {hs w o1 o2 : Nat} (hW : xO κ hs w (kWalk o1 o2)) {a b : Nat} (ha : M w 6 = (a : Int)) (hb : M w 7 = (b : Int)) (ha9 : a ≤ 9) (hb9 : b ≤ 9) : XC G mX4_isAlike 0 0 0 [xR w] κ M hs (pP κ M hs (xI (if a = b then 1 else 0))) := by
  refine XC.intro cdX4_isAlike (by decide) (by decide) (Nat.le_of_ble_eq_true rfl) (loc := [some (xR w)]) rfl (fun X hX => ?_)
  refine x_aload_n (pc := 0) hX rfl rfl dX4_isAlike_0 ?_
  refine x_getI (pc := 1) hX fl_X4_16 hW rfl ha dX4_isAlike_1 ?_
  refine x_aload_n (pc := 4) hX rfl rfl dX4_isAlike_4 ?_
  refine x_getI (pc := 5) hX fl_X4_20 hW rfl hb dX4_isAlike_5 ?_
  refine x_icmp_ne (pc := 8) (tgt := 15) hX dX4_isAlike_8 (by decide) (by omega) (fun h8 => ?_) (fun h8 => ?_)
  · refine x_iconst (pc := 15) hX dX4_isAlike_15 ?_
    refine x_zret (pc := 16) hX rfl (xn_bool (by omega)) (Nat.zero_le _) (Nat.zero_le _) dX4_isAlike_16 ?_
    exact pP_i (congrArg xI (by first | rw [if_pos (by omega)] | rw [if_neg (by omega)]))
  · refine x_iconst (pc := 11) hX dX4_isAlike_11 ?_
    refine x_goto (pc := 12) (tgt := 16) hX dX4_isAlike_12 (by decide) ?_
    refine x_zret (pc := 16) hX rfl (xn_bool (by omega)) (Nat.zero_le _) (Nat.zero_le _) dX4_isAlike_16 ?_
    exact pP_i (congrArg xI (by first | rw [if_pos (by omega)] | rw [if_neg (by omega)]))

set_option maxHeartbeats 4000000 in
set_option maxRecDepth 100000 in
theorem tX4_advance {G : XG} {κ : XKs} {M : XM} {hs w o1 o2 : Nat} (hW : xO κ hs w (kWalk o1 o2)) {l1 l2 : List Nat} {A B : Ru} {t : Int} (hK1 : KCol κ hs o1) (hK2 : KCol κ hs o2) (hw : o1 + 3 ≤ w ∧ o2 + 3 ≤ w) (hC1 : Col M o1 l1) (hC2 : Col M o2 l2) (hS : WS M w (enc l1) (enc l2) A B t) : XC G mX4_advance 1 0 0 [xR w] κ M hs (pI κ hs (fun a M' => Same w (w + 1) M M' ∧ ((A = [] ∨ B = []) → a = 0 ∧ WS M' w (enc l1) (enc l2) A B t) ∧ ∀ v n s u m r, A = (v, n) :: s → B = (u, m) :: r → a = 1 ∧ M' w 6 = (v : Int) ∧ M' w 7 = (u : Int) ∧ M' w 8 = t ∧ M' w 9 = ((min n m : Nat) : Int) ∧ WS M' w (enc l1) (enc l2) (cutr v n (min n m) s) (cutr u m (min n m) r) (t + ((min n m : Nat) : Int)))) := by
  refine XC.intro cdX4_advance (by decide) (by decide) (Nat.le_of_ble_eq_true rfl) (loc := [some (xR w), none, none]) rfl (fun X hX => ?_)
  obtain ⟨i, q, j, z, h2, h3, h4, h5, hil, hjl, hq1, hz1, h9, h10, hT11⟩ := hS
  have hl1 := hC1.len
  have hl2 := hC2.len
  refine x_aload_n (pc := 0) hX rfl rfl dX4_advance_0 ?_
  refine x_getI (pc := 1) hX fl_X4_29 hW rfl h2 dX4_advance_1 ?_
  refine x_aload_n (pc := 4) hX rfl rfl dX4_advance_4 ?_
  refine x_getR (pc := 5) hX fl_X4_7 hW rfl dX4_advance_5 ?_
  refine x_cV_P (pc := 8) hX (tX0_runs hK1 hC1) hK1.1 rfl lk_X4_32 rfl rfl (Nat.le_of_ble_eq_true rfl) (by decide) (Nat.zero_le _) (Nat.zero_le _) dX4_advance_8 ?_
  refine x_icmp_ge (pc := 11) (tgt := 28) hX dX4_advance_11 (by decide) (by omega) (fun h11 => ?_) (fun h11 => ?_)
  · refine x_iconst (pc := 28) hX dX4_advance_28 ?_
    refine x_zret (pc := 29) hX rfl (xn_bool (Or.inl rfl)) (Nat.zero_le _) (Nat.zero_le _) dX4_advance_29 ?_
    exact pI_i ⟨Same.rf, fun _ => ⟨rfl, i, q, j, z, h2, h3, h4, h5, hil, hjl, hq1, hz1, h9, h10, hT11⟩, fun v n s u m r hA hB => (by rw [hA] at h9; rw [remr_end _ (by omega)] at h9; cases h9)⟩
  · refine x_aload_n (pc := 14) hX rfl rfl dX4_advance_14 ?_
    refine x_getI (pc := 15) hX fl_X4_38 hW rfl h3 dX4_advance_15 ?_
    refine x_aload_n (pc := 18) hX rfl rfl dX4_advance_18 ?_
    refine x_getR (pc := 19) hX fl_X4_13 hW rfl dX4_advance_19 ?_
    refine x_cV_P (pc := 22) hX (tX0_runs hK2 hC2) hK2.1 rfl lk_X4_32 rfl rfl (Nat.le_of_ble_eq_true rfl) (by decide) (Nat.zero_le _) (Nat.zero_le _) dX4_advance_22 ?_
    refine x_icmp_lt (pc := 25) (tgt := 30) hX dX4_advance_25 (by decide) (by omega) (fun h25 => ?_) (fun h25 => ?_)
    · have hi : i < (enc l1).length := by omega
      have hj : j < (enc l2).length := by omega
      have hq9 := hq1 hi
      have hz9 := hz1 hj
      have eA : A = (rv (enc l1) i, rn (enc l1) i - q) :: (enc l1).drop (i + 1) := by rw [h9, remr_in _ hi]
      have eB : B = (rv (enc l2) j, rn (enc l2) j - z) :: (enc l2).drop (j + 1) := by rw [h10, remr_in _ hj]
      have hm1 := hC1.mem hi
      have hm2 := hC2.mem hj
      have v1 : rvO (enc l1) i = (rv (enc l1) i : Int) := by unfold rvO; rw [if_pos (by omega)]; rfl
      have v2 : rvO (enc l2) j = (rv (enc l2) j : Int) := by unfold rvO; rw [if_pos (by omega)]; rfl
      have v3 : rnO (enc l1) i = (rn (enc l1) i : Int) := by unfold rnO; rw [if_pos (by omega)]; rfl
      have v4 : rnO (enc l2) j = (rn (enc l2) j : Int) := by unfold rnO; rw [if_pos (by omega)]; rfl
      have hput : ∀ {M9 : XM} (j : Nat) (v : Int), Same w (w + 1) M M9 → Same w (w + 1) M (mput M9 w j v) := fun j v h => h.tr (Same.put (Nat.le_refl _) (Nat.lt_succ_self _))
      refine x_aload_n (pc := 30) hX rfl rfl dX4_advance_30 ?_
      refine x_dup (pc := 31) hX rfl dX4_advance_31 ?_
      refine x_getI (pc := 32) hX fl_X4_26 hW rfl rfl dX4_advance_32 ?_
      refine x_aload_n (pc := 35) hX rfl rfl dX4_advance_35 ?_
      refine x_getI (pc := 36) hX fl_X4_23 hW rfl rfl dX4_advance_36 ?_
      refine x_iadd (pc := 39) (v := t) hX dX4_advance_39 hT11 ?_
      refine x_putI (pc := 40) hX fl_X4_26 hW rfl rfl rfl dX4_advance_40 ?_
      refine x_aload_n (pc := 43) hX rfl rfl dX4_advance_43 ?_
      refine x_aload_n (pc := 44) hX rfl rfl dX4_advance_44 ?_
      refine x_getR (pc := 45) hX fl_X4_7 hW rfl dX4_advance_45 ?_
      refine x_aload_n (pc := 48) hX rfl rfl dX4_advance_48 ?_
      refine x_getI (pc := 49) (v := (i : Int)) hX fl_X4_29 hW rfl (by simp [mp_at, h2]) dX4_advance_49 ?_
      refine x_cV_P (pc := 52) hX (tX0_valueOfRun hK1 (hC1.same (hput _ _ Same.rf) (by omega)) _ (by unfold InR; omega)) hK1.1 rfl lk_X4_41 rfl rfl (Nat.le_of_ble_eq_true rfl) (by decide) (Nat.zero_le _) (Nat.zero_le _) dX4_advance_52 ?_
      refine x_top (congrArg xI v1) ?_
      refine x_putI (pc := 55) hX fl_X4_16 hW rfl rfl rfl dX4_advance_55 ?_
      refine x_aload_n (pc := 58) hX rfl rfl dX4_advance_58 ?_
      refine x_aload_n (pc := 59) hX rfl rfl dX4_advance_59 ?_
      refine x_getR (pc := 60) hX fl_X4_13 hW rfl dX4_advance_60 ?_
      refine x_aload_n (pc := 63) hX rfl rfl dX4_advance_63 ?_
      refine x_getI (pc := 64) (v := (j : Int)) hX fl_X4_38 hW rfl (by simp [mp_at, h3]) dX4_advance_64 ?_
      refine x_cV_P (pc := 67) hX (tX0_valueOfRun hK2 (hC2.same (hput _ _ (hput _ _ Same.rf)) (by omega)) _ (by unfold InR; omega)) hK2.1 rfl lk_X4_41 rfl rfl (Nat.le_of_ble_eq_true rfl) (by decide) (Nat.zero_le _) (Nat.zero_le _) dX4_advance_67 ?_
      refine x_top (congrArg xI v2) ?_
      refine x_putI (pc := 70) hX fl_X4_20 hW rfl rfl rfl dX4_advance_70 ?_
      refine x_aload_n (pc := 73) hX rfl rfl dX4_advance_73 ?_
      refine x_getR (pc := 74) hX fl_X4_7 hW rfl dX4_advance_74 ?_
      refine x_aload_n (pc := 77) hX rfl rfl dX4_advance_77 ?_
      refine x_getI (pc := 78) (v := (i : Int)) hX fl_X4_29 hW rfl (by simp [mp_at, h2]) dX4_advance_78 ?_
      refine x_cV_P (pc := 81) hX (tX0_lengthOfRun hK1 (hC1.same (hput _ _ (hput _ _ (hput _ _ Same.rf))) (by omega)) _ (by unfold InR; omega)) hK1.1 rfl lk_X4_45 rfl rfl (Nat.le_of_ble_eq_true rfl) (by decide) (Nat.zero_le _) (Nat.zero_le _) dX4_advance_81 ?_
      refine x_aload_n (pc := 84) hX rfl rfl dX4_advance_84 ?_
      refine x_getI (pc := 85) (v := (q : Int)) hX fl_X4_48 hW rfl (by simp [mp_at, h4]) dX4_advance_85 ?_
      refine x_isub (pc := 88) (v := ((rn (enc l1) i - q : Nat) : Int)) hX dX4_advance_88 (by rw [v3]; omega) ?_
      refine x_istore_n (pc := 89) hX rfl (by decide) rfl rfl dX4_advance_89 ?_
      refine x_aload_n (pc := 90) hX rfl rfl dX4_advance_90 ?_
      refine x_getR (pc := 91) hX fl_X4_13 hW rfl dX4_advance_91 ?_
      refine x_aload_n (pc := 94) hX rfl rfl dX4_advance_94 ?_
      refine x_getI (pc := 95) (v := (j : Int)) hX fl_X4_38 hW rfl (by simp [mp_at, h3]) dX4_advance_95 ?_
      refine x_cV_P (pc := 98) hX (tX0_lengthOfRun hK2 (hC2.same (hput _ _ (hput _ _ (hput _ _ Same.rf))) (by omega)) _ (by unfold InR; omega)) hK2.1 rfl lk_X4_45 rfl rfl (Nat.le_of_ble_eq_true rfl) (by decide) (Nat.zero_le _) (Nat.zero_le _) dX4_advance_98 ?_
      refine x_aload_n (pc := 101) hX rfl rfl dX4_advance_101 ?_
      refine x_getI (pc := 102) (v := (z : Int)) hX fl_X4_51 hW rfl (by simp [mp_at, h5]) dX4_advance_102 ?_
      refine x_isub (pc := 105) (v := ((rn (enc l2) j - z : Nat) : Int)) hX dX4_advance_105 (by rw [v4]; omega) ?_
      refine x_istore_n (pc := 106) hX rfl (by decide) rfl rfl dX4_advance_106 ?_
      refine x_aload_n (pc := 107) hX rfl rfl dX4_advance_107 ?_
      refine x_iload_n (pc := 108) hX rfl rfl dX4_advance_108 ?_
      refine x_iload_n (pc := 109) hX rfl rfl dX4_advance_109 ?_
      refine x_min (pc := 110) (v := ((min (rn (enc l1) i - q) (rn (enc l2) j - z) : Nat) : Int)) hX lk_X4_54.1 (by omega) (by split <;> omega) (by decide) (Nat.zero_le _) (Nat.zero_le _) (Nat.le_of_ble_eq_true rfl) dX4_advance_110 ?_
      refine x_putI (pc := 113) hX fl_X4_23 hW rfl rfl rfl dX4_advance_113 ?_
      refine x_aload_n (pc := 116) hX rfl rfl dX4_advance_116 ?_
      refine x_dup (pc := 117) hX rfl dX4_advance_117 ?_
      refine x_getI (pc := 118) (v := (q : Int)) hX fl_X4_48 hW rfl (by simp [mp_at, h4]) dX4_advance_118 ?_
      refine x_aload_n (pc := 121) hX rfl rfl dX4_advance_121 ?_
      refine x_getI (pc := 122) (v := ((min (rn (enc l1) i - q) (rn (enc l2) j - z) : Nat) : Int)) hX fl_X4_23 hW rfl (by simp [mp_at, h4]) dX4_advance_122 ?_
      refine x_iadd (pc := 125) (v := ((q + min (rn (enc l1) i - q) (rn (enc l2) j - z) : Nat) : Int)) hX dX4_advance_125 (by omega) ?_
      refine x_putI (pc := 126) hX fl_X4_48 hW rfl rfl rfl dX4_advance_126 ?_
      refine x_aload_n (pc := 129) hX rfl rfl dX4_advance_129 ?_
      refine x_dup (pc := 130) hX rfl dX4_advance_130 ?_
      refine x_getI (pc := 131) (v := (z : Int)) hX fl_X4_51 hW rfl (by simp [mp_at, h5]) dX4_advance_131 ?_
      refine x_aload_n (pc := 134) hX rfl rfl dX4_advance_134 ?_
      refine x_getI (pc := 135) (v := ((min (rn (enc l1) i - q) (rn (enc l2) j - z) : Nat) : Int)) hX fl_X4_23 hW rfl (by simp [mp_at, h4]) dX4_advance_135 ?_
      refine x_iadd (pc := 138) (v := ((z + min (rn (enc l1) i - q) (rn (enc l2) j - z) : Nat) : Int)) hX dX4_advance_138 (by omega) ?_
      refine x_putI (pc := 139) hX fl_X4_51 hW rfl rfl rfl dX4_advance_139 ?_
      refine x_aload_n (pc := 142) hX rfl rfl dX4_advance_142 ?_
      refine x_getI (pc := 143) (v := ((min (rn (enc l1) i - q) (rn (enc l2) j - z) : Nat) : Int)) hX fl_X4_23 hW rfl (by simp [mp_at, h4]) dX4_advance_143 ?_
      refine x_iload_n (pc := 146) hX rfl rfl dX4_advance_146 ?_
      refine x_icmp_ne (pc := 147) (tgt := 165) hX dX4_advance_147 (by decide) (by omega) (fun h147 => ?_) (fun h147 => ?_)
      · refine x_aload_n (pc := 165) hX rfl rfl dX4_advance_165 ?_
        refine x_getI (pc := 166) (v := ((min (rn (enc l1) i - q) (rn (enc l2) j - z) : Nat) : Int)) hX fl_X4_23 hW rfl (by simp [mp_at, h4]) dX4_advance_166 ?_
        refine x_iload_n (pc := 169) hX rfl rfl dX4_advance_169 ?_
        refine x_icmp_ne (pc := 170) (tgt := 188) hX dX4_advance_170 (by decide) (by omega) (fun h170 => ?_) (fun h170 => ?_)
        · refine x_iconst (pc := 188) hX dX4_advance_188 ?_
          refine x_zret (pc := 189) hX rfl (xn_bool (by omega)) (Nat.zero_le _) (Nat.zero_le _) dX4_advance_189 ?_
          refine pI_i ⟨?_, fun hh => ?_, fun v n s u m r hA hB => ?_⟩
          · exact fun qq hq => (by simp [mput_ne _ _ _ (show qq ≠ w by omega)])
          · rcases hh with hh | hh
            · rw [eA] at hh; cases hh
            · rw [eB] at hh; cases hh
          · rw [eA] at hA
            rw [eB] at hB
            cases hA
            cases hB
            refine ⟨rfl, by simp [mp_at], by simp [mp_at], by simp [mp_at], by simp [mp_at], i, q + min (rn (enc l1) i - q) (rn (enc l2) j - z), j, z + min (rn (enc l1) i - q) (rn (enc l2) j - z), by simp [mp_at, h2], by simp [mp_at, h3], by simp [mp_at, h4], by simp [mp_at, h5], by omega, by omega, fun _ => (by omega), fun _ => (by omega), ?_, ?_, by simp [mp_at]⟩
            · rw [cutr_remr hi hq9 (by omega)]
              exact if_neg (by omega)
            · rw [cutr_remr hj hz9 (by omega)]
              exact if_neg (by omega)
        · refine x_aload_n (pc := 173) hX rfl rfl dX4_advance_173 ?_
          refine x_dup (pc := 174) hX rfl dX4_advance_174 ?_
          refine x_getI (pc := 175) (v := (j : Int)) hX fl_X4_38 hW rfl (by simp [mp_at, h3]) dX4_advance_175 ?_
          refine x_iconst (pc := 178) hX dX4_advance_178 ?_
          refine x_iadd (pc := 179) (v := ((j + 1 : Nat) : Int)) hX dX4_advance_179 (by omega) ?_
          refine x_putI (pc := 180) hX fl_X4_38 hW rfl rfl rfl dX4_advance_180 ?_
          refine x_aload_n (pc := 183) hX rfl rfl dX4_advance_183 ?_
          refine x_iconst (pc := 184) hX dX4_advance_184 ?_
          refine x_putI (pc := 185) hX fl_X4_51 hW rfl rfl rfl dX4_advance_185 ?_
          refine x_iconst (pc := 188) hX dX4_advance_188 ?_
          refine x_zret (pc := 189) hX rfl (xn_bool (by omega)) (Nat.zero_le _) (Nat.zero_le _) dX4_advance_189 ?_
          refine pI_i ⟨?_, fun hh => ?_, fun v n s u m r hA hB => ?_⟩
          · exact fun qq hq => (by simp [mput_ne _ _ _ (show qq ≠ w by omega)])
          · rcases hh with hh | hh
            · rw [eA] at hh; cases hh
            · rw [eB] at hh; cases hh
          · rw [eA] at hA
            rw [eB] at hB
            cases hA
            cases hB
            refine ⟨rfl, by simp [mp_at], by simp [mp_at], by simp [mp_at], by simp [mp_at], i, q + min (rn (enc l1) i - q) (rn (enc l2) j - z), j + 1, 0, by simp [mp_at, h2], by simp [mp_at, h3], by simp [mp_at, h4], by simp [mp_at, h5], by omega, by omega, fun _ => (by omega), fun hlt => (enc_rv hlt).2.1, ?_, ?_, by simp [mp_at]⟩
            · rw [cutr_remr hi hq9 (by omega)]
              exact if_neg (by omega)
            · rw [cutr_remr hj hz9 (by omega)]
              exact if_pos (by omega)
      · refine x_aload_n (pc := 150) hX rfl rfl dX4_advance_150 ?_
        refine x_dup (pc := 151) hX rfl dX4_advance_151 ?_
        refine x_getI (pc := 152) (v := (i : Int)) hX fl_X4_29 hW rfl (by simp [mp_at, h2]) dX4_advance_152 ?_
        refine x_iconst (pc := 155) hX dX4_advance_155 ?_
        refine x_iadd (pc := 156) (v := ((i + 1 : Nat) : Int)) hX dX4_advance_156 (by omega) ?_
        refine x_putI (pc := 157) hX fl_X4_29 hW rfl rfl rfl dX4_advance_157 ?_
        refine x_aload_n (pc := 160) hX rfl rfl dX4_advance_160 ?_
        refine x_iconst (pc := 161) hX dX4_advance_161 ?_
        refine x_putI (pc := 162) hX fl_X4_48 hW rfl rfl rfl dX4_advance_162 ?_
        refine x_aload_n (pc := 165) hX rfl rfl dX4_advance_165 ?_
        refine x_getI (pc := 166) (v := ((min (rn (enc l1) i - q) (rn (enc l2) j - z) : Nat) : Int)) hX fl_X4_23 hW rfl (by simp [mp_at, h4]) dX4_advance_166 ?_
        refine x_iload_n (pc := 169) hX rfl rfl dX4_advance_169 ?_
        refine x_icmp_ne (pc := 170) (tgt := 188) hX dX4_advance_170 (by decide) (by omega) (fun h170 => ?_) (fun h170 => ?_)
        · refine x_iconst (pc := 188) hX dX4_advance_188 ?_
          refine x_zret (pc := 189) hX rfl (xn_bool (by omega)) (Nat.zero_le _) (Nat.zero_le _) dX4_advance_189 ?_
          refine pI_i ⟨?_, fun hh => ?_, fun v n s u m r hA hB => ?_⟩
          · exact fun qq hq => (by simp [mput_ne _ _ _ (show qq ≠ w by omega)])
          · rcases hh with hh | hh
            · rw [eA] at hh; cases hh
            · rw [eB] at hh; cases hh
          · rw [eA] at hA
            rw [eB] at hB
            cases hA
            cases hB
            refine ⟨rfl, by simp [mp_at], by simp [mp_at], by simp [mp_at], by simp [mp_at], i + 1, 0, j, z + min (rn (enc l1) i - q) (rn (enc l2) j - z), by simp [mp_at, h2], by simp [mp_at, h3], by simp [mp_at, h4], by simp [mp_at, h5], by omega, by omega, fun hlt => (enc_rv hlt).2.1, fun _ => (by omega), ?_, ?_, by simp [mp_at]⟩
            · rw [cutr_remr hi hq9 (by omega)]
              exact if_pos (by omega)
            · rw [cutr_remr hj hz9 (by omega)]
              exact if_neg (by omega)
        · refine x_aload_n (pc := 173) hX rfl rfl dX4_advance_173 ?_
          refine x_dup (pc := 174) hX rfl dX4_advance_174 ?_
          refine x_getI (pc := 175) (v := (j : Int)) hX fl_X4_38 hW rfl (by simp [mp_at, h3]) dX4_advance_175 ?_
          refine x_iconst (pc := 178) hX dX4_advance_178 ?_
          refine x_iadd (pc := 179) (v := ((j + 1 : Nat) : Int)) hX dX4_advance_179 (by omega) ?_
          refine x_putI (pc := 180) hX fl_X4_38 hW rfl rfl rfl dX4_advance_180 ?_
          refine x_aload_n (pc := 183) hX rfl rfl dX4_advance_183 ?_
          refine x_iconst (pc := 184) hX dX4_advance_184 ?_
          refine x_putI (pc := 185) hX fl_X4_51 hW rfl rfl rfl dX4_advance_185 ?_
          refine x_iconst (pc := 188) hX dX4_advance_188 ?_
          refine x_zret (pc := 189) hX rfl (xn_bool (by omega)) (Nat.zero_le _) (Nat.zero_le _) dX4_advance_189 ?_
          refine pI_i ⟨?_, fun hh => ?_, fun v n s u m r hA hB => ?_⟩
          · exact fun qq hq => (by simp [mput_ne _ _ _ (show qq ≠ w by omega)])
          · rcases hh with hh | hh
            · rw [eA] at hh; cases hh
            · rw [eB] at hh; cases hh
          · rw [eA] at hA
            rw [eB] at hB
            cases hA
            cases hB
            refine ⟨rfl, by simp [mp_at], by simp [mp_at], by simp [mp_at], by simp [mp_at], i + 1, 0, j + 1, 0, by simp [mp_at, h2], by simp [mp_at, h3], by simp [mp_at, h4], by simp [mp_at, h5], by omega, by omega, fun hlt => (enc_rv hlt).2.1, fun hlt => (enc_rv hlt).2.1, ?_, ?_, by simp [mp_at]⟩
            · rw [cutr_remr hi hq9 (by omega)]
              exact if_pos (by omega)
            · rw [cutr_remr hj hz9 (by omega)]
              exact if_pos (by omega)
    · refine x_iconst (pc := 28) hX dX4_advance_28 ?_
      refine x_zret (pc := 29) hX rfl (xn_bool (Or.inl rfl)) (Nat.zero_le _) (Nat.zero_le _) dX4_advance_29 ?_
      exact pI_i ⟨Same.rf, fun _ => ⟨rfl, i, q, j, z, h2, h3, h4, h5, hil, hjl, hq1, hz1, h9, h10, hT11⟩, fun v n s u m r hA hB => (by rw [hB] at h10; rw [remr_end _ (by omega)] at h10; cases h10)⟩

