/-! Pad and OrderReader -/
set_option maxHeartbeats 4000000 in
set_option maxRecDepth 100000 in
theorem tX3_length {G : XG} {κ : XKs} {M : XM} {hs : Nat} {p : List Nat} (hK : KRd κ hs) (hP : Pd M p) : XC G mX3_length 0 0 0 [xR 107] κ M hs (pP κ M hs (xI (p.length : Int))) := by
  refine XC.intro cdX3_length (by decide) (by decide) (Nat.le_of_ble_eq_true rfl) (loc := [some (xR 107)]) rfl (fun X hX => ?_)
  refine x_aload_n (pc := 0) hX rfl rfl dX3_length_0 ?_
  refine x_getI (pc := 1) hX fl_X3_15 hK.1 rfl hP.1 dX3_length_1 ?_
  refine x_iret (pc := 4) hX rfl (Nat.zero_le _) (Nat.zero_le _) dX3_length_4 (pP_i rfl)

set_option maxHeartbeats 4000000 in
set_option maxRecDepth 100000 in
theorem tX3_signAt {G : XG} {κ : XKs} {M : XM} {hs : Nat} {p : List Nat} (hK : KRd κ hs) (hP : Pd M p) (i : Nat) (hi : i ≤ 100) : XC G mX3_signAt 0 0 0 [xR 107, xI (i : Int)] κ M hs (pP κ M hs (xI (chr p i : Int))) := by
  refine XC.intro cdX3_signAt (by decide) (by decide) (Nat.le_of_ble_eq_true rfl) (loc := [some (xR 107), some (xI (i : Int))]) rfl (fun X hX => ?_)
  have hc := hP.rng i
  have hp2 := hP.2.1
  refine x_iload_n (pc := 0) hX rfl rfl dX3_signAt_0 ?_
  refine x_if_lt (pc := 1) (tgt := 21) hX dX3_signAt_1 (by decide) (by omega) (fun h1 => ?_) (fun h1 => ?_)
  · exfalso; omega
  · refine x_iload_n (pc := 4) hX rfl rfl dX3_signAt_4 ?_
    refine x_aload_n (pc := 5) hX rfl rfl dX3_signAt_5 ?_
    refine x_getI (pc := 6) hX fl_X3_15 hK.1 rfl hP.1 dX3_signAt_6 ?_
    refine x_icmp_ge (pc := 9) (tgt := 21) hX dX3_signAt_9 (by decide) (by omega) (fun h9 => ?_) (fun h9 => ?_)
    · have h0 : chr p i = 0 := by
        by_cases z : chr p i = 0
        · exact z
        · have := chr_lt z; omega
      refine x_iconst (pc := 21) hX dX3_signAt_21 ?_
      refine x_zret (pc := 22) hX rfl (xn_char (by omega)) (Nat.zero_le _) (Nat.zero_le _) dX3_signAt_22 ?_
      exact pP_i (by first | rfl | rw [h0]; rfl)
    · refine x_aload_n (pc := 12) hX rfl rfl dX3_signAt_12 ?_
      refine x_getR (pc := 13) hX fl_X3_9 hK.1 rfl dX3_signAt_13 ?_
      refine x_iload_n (pc := 16) hX rfl rfl dX3_signAt_16 ?_
      refine x_cald (pc := 17) (j := i) hX hK.2.1 (by omega) (by omega) (by decide) (hP.2.2.1 i (by omega)) dX3_signAt_17 ?_
      refine x_goto (pc := 18) (tgt := 22) hX dX3_signAt_18 (by decide) ?_
      refine x_zret (pc := 22) hX rfl (xn_char (by omega)) (Nat.zero_le _) (Nat.zero_le _) dX3_signAt_22 ?_
      exact pP_i (by first | rfl | rw [h0]; rfl)

set_option maxHeartbeats 4000000 in
set_option maxRecDepth 100000 in
theorem tX3_add {G : XG} {κ : XKs} {M : XM} {hs : Nat} {p : List Nat} (hK : KRd κ hs) (hP : Pd M p) (c : Nat) (hc : 33 ≤ c ∧ c ≤ 126) (hl : p.length < 80) : XC G mX3_add 0 0 0 [xR 107, xI (c : Int)] κ M hs (pV κ hs (fun M' => Pd M' (p ++ [c]) ∧ Same 107 109 M M')) := by
  refine XC.intro cdX3_add (by decide) (by decide) (Nat.le_of_ble_eq_true rfl) (loc := [some (xR 107), some (xI (c : Int))]) rfl (fun X hX => ?_)
  have hp2 := hP.2.1
  refine x_aload_n (pc := 0) hX rfl rfl dX3_add_0 ?_
  refine x_getI (pc := 1) hX fl_X3_15 hK.1 rfl hP.1 dX3_add_1 ?_
  refine x_bipush (pc := 4) hX (by decide) dX3_add_4 ?_
  refine x_icmp_ge (pc := 6) (tgt := 29) hX dX3_add_6 (by decide) (by omega) (fun h6 => ?_) (fun h6 => ?_)
  · exfalso; omega
  · refine x_aload_n (pc := 9) hX rfl rfl dX3_add_9 ?_
    refine x_getR (pc := 10) hX fl_X3_9 hK.1 rfl dX3_add_10 ?_
    refine x_aload_n (pc := 13) hX rfl rfl dX3_add_13 ?_
    refine x_getI (pc := 14) hX fl_X3_15 hK.1 rfl hP.1 dX3_add_14 ?_
    refine x_iload_n (pc := 17) hX rfl rfl dX3_add_17 ?_
    refine x_cast (pc := 18) (j := p.length) hX hK.2.1 (by omega) (by omega) (by decide) (xn_char (by omega)) dX3_add_18 ?_
    refine x_aload_n (pc := 19) hX rfl rfl dX3_add_19 ?_
    refine x_dup (pc := 20) hX rfl dX3_add_20 ?_
    refine x_getI (pc := 21) (v := (p.length : Int)) hX fl_X3_15 hK.1 rfl (by rw [mput_ne _ _ _ (by decide)]; exact hP.1) dX3_add_21 ?_
    refine x_iconst (pc := 24) hX dX3_add_24 ?_
    refine x_iadd (pc := 25) hX dX3_add_25 rfl ?_
    refine x_putI (pc := 26) hX fl_X3_15 hK.1 rfl rfl rfl dX3_add_26 ?_
    refine x_vret (pc := 29) hX rfl (Nat.zero_le _) (Nat.zero_le _) dX3_add_29 ?_
    refine pV_i ⟨⟨?_, ?_, fun i hi => ?_, fun d hd => ?_⟩, (Same.put (by decide) (by decide)).tr (Same.put (by decide) (by decide))⟩
    · rw [mp_eq]; simp
    · simp; omega
    · rw [mput_ne _ _ _ (by decide), mp_at]
      have hi2 : i < p.length + 1 := by simpa using hi
      by_cases e : i = p.length
      · subst e
        rw [if_pos ⟨rfl, rfl⟩]
        simp [chr]
      · rw [if_neg (fun z => e z.2), hP.2.2.1 i (by omega)]
        simp [chr, List.getElem?_append_left (show i < p.length by omega)]
    · rcases List.mem_append.mp hd with h | h
      · exact hP.2.2.2 d h
      · rw [List.mem_singleton.mp h]; exact hc

set_option maxHeartbeats 4000000 in
set_option maxRecDepth 100000 in
theorem tX3_clear {G : XG} {κ : XKs} {M : XM} {hs : Nat} {p : List Nat} (hK : KRd κ hs) : XC G mX3_clear 0 0 0 [xR 107] κ M hs (pV κ hs (fun M' => Pd M' [] ∧ Same 107 109 M M')) := by
  refine XC.intro cdX3_clear (by decide) (by decide) (Nat.le_of_ble_eq_true rfl) (loc := [some (xR 107)]) rfl (fun X hX => ?_)
  refine x_aload_n (pc := 0) hX rfl rfl dX3_clear_0 ?_
  refine x_iconst (pc := 1) hX dX3_clear_1 ?_
  refine x_putI (pc := 2) hX fl_X3_15 hK.1 rfl rfl rfl dX3_clear_2 ?_
  refine x_vret (pc := 5) hX rfl (Nat.zero_le _) (Nat.zero_le _) dX3_clear_5 ?_
  exact pV_i ⟨⟨mp_eq _ _ _ _, Nat.zero_le _, fun i hi => (by cases hi), fun c hc => by cases hc⟩, Same.put (by decide) (by decide)⟩

set_option maxHeartbeats 4000000 in
set_option maxRecDepth 100000 in
theorem tX2_pad {G : XG} {κ : XKs} {M : XM} {hs : Nat} (hK : KRd κ hs) : XC G mX2_pad 0 0 0 [xR 106] κ M hs (pP κ M hs (xR 107)) := by
  refine XC.intro cdX2_pad (by decide) (by decide) (Nat.le_of_ble_eq_true rfl) (loc := [some (xR 106)]) rfl (fun X hX => ?_)
  refine x_aload_n (pc := 0) hX rfl rfl dX2_pad_0 ?_
  refine x_getR (pc := 1) hX fl_X2_12 hK.2.2.1 rfl dX2_pad_1 ?_
  refine x_aret (pc := 4) hX rfl (Nat.zero_le _) (Nat.zero_le _) dX2_pad_4 (pP_i rfl)

set_option maxHeartbeats 4000000 in
set_option maxRecDepth 100000 in
theorem tX2_column {G : XG} {κ : XKs} {M : XM} {hs : Nat} {p : List Nat} (hK : KRd κ hs) (v : Int) (hv : M 106 5 = v) : XC G mX2_column 0 0 0 [xR 106] κ M hs (pP κ M hs (xI v)) := by
  refine XC.intro cdX2_column (by decide) (by decide) (Nat.le_of_ble_eq_true rfl) (loc := [some (xR 106)]) rfl (fun X hX => ?_)
  refine x_aload_n (pc := 0) hX rfl rfl dX2_column_0 ?_
  refine x_getI (pc := 1) hX fl_X2_25 hK.2.2.1 rfl hv dX2_column_1 ?_
  refine x_iret (pc := 4) hX rfl (Nat.zero_le _) (Nat.zero_le _) dX2_column_4 (pP_i rfl)

set_option maxHeartbeats 4000000 in
set_option maxRecDepth 100000 in
theorem tX2_kind {G : XG} {κ : XKs} {M : XM} {hs : Nat} {p : List Nat} (hK : KRd κ hs) (v : Int) (hv : M 106 6 = v) (hr : 0 ≤ v ∧ v < 65536) : XC G mX2_kind 0 0 0 [xR 106] κ M hs (pP κ M hs (xI v)) := by
  refine XC.intro cdX2_kind (by decide) (by decide) (Nat.le_of_ble_eq_true rfl) (loc := [some (xR 106)]) rfl (fun X hX => ?_)
  refine x_aload_n (pc := 0) hX rfl rfl dX2_kind_0 ?_
  refine x_getI (pc := 1) hX fl_X2_29 hK.2.2.1 rfl hv dX2_kind_1 ?_
  refine x_zret (pc := 4) hX rfl (xn_char hr) (Nat.zero_le _) (Nat.zero_le _) dX2_kind_4 (pP_i rfl)

set_option maxHeartbeats 4000000 in
set_option maxRecDepth 100000 in
theorem tX2_row {G : XG} {κ : XKs} {M : XM} {hs : Nat} {p : List Nat} (hK : KRd κ hs) (v : Int) (hv : M 106 7 = v) : XC G mX2_row 0 0 0 [xR 106] κ M hs (pP κ M hs (xI v)) := by
  refine XC.intro cdX2_row (by decide) (by decide) (Nat.le_of_ble_eq_true rfl) (loc := [some (xR 106)]) rfl (fun X hX => ?_)
  refine x_aload_n (pc := 0) hX rfl rfl dX2_row_0 ?_
  refine x_getI (pc := 1) hX fl_X2_33 hK.2.2.1 rfl hv dX2_row_1 ?_
  refine x_iret (pc := 4) hX rfl (Nat.zero_le _) (Nat.zero_le _) dX2_row_4 (pP_i rfl)

set_option maxHeartbeats 4000000 in
set_option maxRecDepth 100000 in
theorem tX2_operand {G : XG} {κ : XKs} {M : XM} {hs : Nat} {p : List Nat} (hK : KRd κ hs) (v : Int) (hv : M 106 8 = v) : XC G mX2_operand 0 0 0 [xR 106] κ M hs (pP κ M hs (xI v)) := by
  refine XC.intro cdX2_operand (by decide) (by decide) (Nat.le_of_ble_eq_true rfl) (loc := [some (xR 106)]) rfl (fun X hX => ?_)
  refine x_aload_n (pc := 0) hX rfl rfl dX2_operand_0 ?_
  refine x_getI (pc := 1) hX fl_X2_36 hK.2.2.1 rfl hv dX2_operand_1 ?_
  refine x_iret (pc := 4) hX rfl (Nat.zero_le _) (Nat.zero_le _) dX2_operand_4 (pP_i rfl)

set_option maxHeartbeats 4000000 in
set_option maxRecDepth 100000 in
theorem tX2_runs {G : XG} {κ : XKs} {M : XM} {hs : Nat} {p : List Nat} (hK : KRd κ hs) (v : Int) (hv : M 106 3 = v) : XC G mX2_runs 0 0 0 [xR 106] κ M hs (pP κ M hs (xI v)) := by
  refine XC.intro cdX2_runs (by decide) (by decide) (Nat.le_of_ble_eq_true rfl) (loc := [some (xR 106)]) rfl (fun X hX => ?_)
  refine x_aload_n (pc := 0) hX rfl rfl dX2_runs_0 ?_
  refine x_getI (pc := 1) hX fl_X2_39 hK.2.2.1 rfl hv dX2_runs_1 ?_
  refine x_iret (pc := 4) hX rfl (Nat.zero_le _) (Nat.zero_le _) dX2_runs_4 (pP_i rfl)

set_option maxHeartbeats 4000000 in
set_option maxRecDepth 100000 in
theorem tX2_valueOfRun {G : XG} {κ : XKs} {M : XM} {hs : Nat} {p : List Nat} (hK : KRd κ hs) (L : Ru) (h3 : M 106 3 = (L.length : Int)) (hL : L.length ≤ 40) (k : Nat) (hk : k < L.length) (hv : M 109 k = (rv L k : Int)) : XC G mX2_valueOfRun 0 0 0 [xR 106, xI (k : Int)] κ M hs (pP κ M hs (xI (rv L k : Int))) := by
  refine XC.intro cdX2_valueOfRun (by decide) (by decide) (Nat.le_of_ble_eq_true rfl) (loc := [some (xR 106), some (xI (k : Int))]) rfl (fun X hX => ?_)
  refine x_iload_n (pc := 0) hX rfl rfl dX2_valueOfRun_0 ?_
  refine x_if_lt (pc := 1) (tgt := 21) hX dX2_valueOfRun_1 (by decide) (by omega) (fun h1 => ?_) (fun h1 => ?_)
  · exfalso; omega
  · refine x_iload_n (pc := 4) hX rfl rfl dX2_valueOfRun_4 ?_
    refine x_aload_n (pc := 5) hX rfl rfl dX2_valueOfRun_5 ?_
    refine x_getI (pc := 6) hX fl_X2_39 hK.2.2.1 rfl h3 dX2_valueOfRun_6 ?_
    refine x_icmp_ge (pc := 9) (tgt := 21) hX dX2_valueOfRun_9 (by decide) (by omega) (fun h9 => ?_) (fun h9 => ?_)
    · exfalso; omega
    · refine x_aload_n (pc := 12) hX rfl rfl dX2_valueOfRun_12 ?_
      refine x_getR (pc := 13) hX fl_X2_18 hK.2.2.1 rfl dX2_valueOfRun_13 ?_
      refine x_iload_n (pc := 16) hX rfl rfl dX2_valueOfRun_16 ?_
      refine x_iald (pc := 17) (j := k) hX hK.2.2.2.1 (by omega) (by omega) (by decide) hv dX2_valueOfRun_17 ?_
      refine x_goto (pc := 18) (tgt := 23) hX dX2_valueOfRun_18 (by decide) ?_
      refine x_iret (pc := 23) hX rfl (Nat.zero_le _) (Nat.zero_le _) dX2_valueOfRun_23 (pP_i rfl)

set_option maxHeartbeats 4000000 in
set_option maxRecDepth 100000 in
theorem tX2_lengthOfRun {G : XG} {κ : XKs} {M : XM} {hs : Nat} {p : List Nat} (hK : KRd κ hs) (L : Ru) (h3 : M 106 3 = (L.length : Int)) (hL : L.length ≤ 40) (k : Nat) (hk : k < L.length) (hv : M 110 k = (rn L k : Int)) : XC G mX2_lengthOfRun 0 0 0 [xR 106, xI (k : Int)] κ M hs (pP κ M hs (xI (rn L k : Int))) := by
  refine XC.intro cdX2_lengthOfRun (by decide) (by decide) (Nat.le_of_ble_eq_true rfl) (loc := [some (xR 106), some (xI (k : Int))]) rfl (fun X hX => ?_)
  refine x_iload_n (pc := 0) hX rfl rfl dX2_lengthOfRun_0 ?_
  refine x_if_lt (pc := 1) (tgt := 21) hX dX2_lengthOfRun_1 (by decide) (by omega) (fun h1 => ?_) (fun h1 => ?_)
  · exfalso; omega
  · refine x_iload_n (pc := 4) hX rfl rfl dX2_lengthOfRun_4 ?_
    refine x_aload_n (pc := 5) hX rfl rfl dX2_lengthOfRun_5 ?_
    refine x_getI (pc := 6) hX fl_X2_39 hK.2.2.1 rfl h3 dX2_lengthOfRun_6 ?_
    refine x_icmp_ge (pc := 9) (tgt := 21) hX dX2_lengthOfRun_9 (by decide) (by omega) (fun h9 => ?_) (fun h9 => ?_)
    · exfalso; omega
    · refine x_aload_n (pc := 12) hX rfl rfl dX2_lengthOfRun_12 ?_
      refine x_getR (pc := 13) hX fl_X2_22 hK.2.2.1 rfl dX2_lengthOfRun_13 ?_
      refine x_iload_n (pc := 16) hX rfl rfl dX2_lengthOfRun_16 ?_
      refine x_iald (pc := 17) (j := k) hX hK.2.2.2.2 (by omega) (by omega) (by decide) hv dX2_lengthOfRun_17 ?_
      refine x_goto (pc := 18) (tgt := 22) hX dX2_lengthOfRun_18 (by decide) ?_
      refine x_iret (pc := 22) hX rfl (Nat.zero_le _) (Nat.zero_le _) dX2_lengthOfRun_22 (pP_i rfl)

set_option maxHeartbeats 4000000 in
set_option maxRecDepth 100000 in
theorem tX2_start {G : XG} {κ : XKs} {M : XM} {hs : Nat} {p : List Nat} (hK : KRd κ hs) (hP : Pd M p) : XC G mX2_start 0 0 0 [xR 106] κ M hs (pV κ hs (fun M' => RdS M' p 0 ∧ Kp M M')) := by
  refine XC.intro cdX2_start (by decide) (by decide) (Nat.le_of_ble_eq_true rfl) (loc := [some (xR 106)]) rfl (fun X hX => ?_)
  refine x_aload_n (pc := 0) hX rfl rfl dX2_start_0 ?_
  refine x_iconst (pc := 1) hX dX2_start_1 ?_
  refine x_putI (pc := 2) hX fl_X2_42 hK.2.2.1 rfl rfl rfl dX2_start_2 ?_
  refine x_vret (pc := 5) hX rfl (Nat.zero_le _) (Nat.zero_le _) dX2_start_5 ?_
  exact pV_i ⟨⟨hP.congr (mput_ne _ _ _ (by decide)) (mput_ne _ _ _ (by decide)), mp_eq _ _ _ _, Nat.zero_le _⟩, Kp.mv⟩

set_option maxHeartbeats 4000000 in
set_option maxRecDepth 100000 in
theorem tX2_passes {G : XG} {κ : XKs} {M : XM} {hs : Nat} {p : List Nat} (hK : KRd κ hs) {i : Nat} (hS : RdS M p i) (c : Nat) (hc : 0 < c ∧ c ≤ 126) : XC G mX2_passes 1 0 0 [xR 106, xI (c : Int)] κ M hs (pI κ hs (fun a M' => (chr p i = c → a = 1 ∧ RdS M' p (i + 1) ∧ Kp M M') ∧ (chr p i ≠ c → a = 0 ∧ M' = M))) := by
  refine XC.intro cdX2_passes (by decide) (by decide) (Nat.le_of_ble_eq_true rfl) (loc := [some (xR 106), some (xI (c : Int))]) rfl (fun X hX => ?_)
  have hp2 := hS.1.2.1
  have hi2 := hS.2.2
  have hc2 := hS.1.rng i
  refine x_aload_n (pc := 0) hX rfl rfl dX2_passes_0 ?_
  refine x_getR (pc := 1) hX fl_X2_12 hK.2.2.1 rfl dX2_passes_1 ?_
  refine x_aload_n (pc := 4) hX rfl rfl dX2_passes_4 ?_
  refine x_getI (pc := 5) hX fl_X2_42 hK.2.2.1 rfl hS.2.1 dX2_passes_5 ?_
  refine x_cV_P (pc := 8) hX (tX3_signAt hK hS.1 i (by omega)) hK.1 rfl lk_X2_67 rfl rfl (Nat.le_of_ble_eq_true rfl) (by decide) (Nat.zero_le _) (Nat.zero_le _) dX2_passes_8 ?_
  refine x_iload_n (pc := 11) hX rfl rfl dX2_passes_11 ?_
  refine x_icmp_eq (pc := 12) (tgt := 17) hX dX2_passes_12 (by decide) (by omega) (fun h12 => ?_) (fun h12 => ?_)
  · refine x_aload_n (pc := 17) hX rfl rfl dX2_passes_17 ?_
    refine x_dup (pc := 18) hX rfl dX2_passes_18 ?_
    refine x_getI (pc := 19) hX fl_X2_42 hK.2.2.1 rfl hS.2.1 dX2_passes_19 ?_
    refine x_iconst (pc := 22) hX dX2_passes_22 ?_
    refine x_iadd (pc := 23) hX dX2_passes_23 rfl ?_
    refine x_putI (pc := 24) hX fl_X2_42 hK.2.2.1 rfl rfl rfl dX2_passes_24 ?_
    refine x_iconst (pc := 27) hX dX2_passes_27 ?_
    refine x_zret (pc := 28) hX rfl (xn_bool (by omega)) (Nat.zero_le _) (Nat.zero_le _) dX2_passes_28 ?_
    exact pI_i ⟨fun _ => ⟨rfl, hS.kp Kp.mv (mp_eq _ _ _ _) (chr_lt (by omega)), Kp.mv⟩, fun z => (by omega)⟩
  · refine x_iconst (pc := 15) hX dX2_passes_15 ?_
    refine x_zret (pc := 16) hX rfl (xn_bool (by omega)) (Nat.zero_le _) (Nat.zero_le _) dX2_passes_16 ?_
    exact pI_i ⟨fun z => (by omega), fun _ => ⟨rfl, rfl⟩⟩

set_option maxHeartbeats 4000000 in
set_option maxRecDepth 100000 in
theorem tX2_readDigit {G : XG} {κ : XKs} {M : XM} {hs : Nat} {p : List Nat} (hK : KRd κ hs) {i : Nat} (hS : RdS M p i) (m : Nat) (hm : m ≤ 9) : XC G mX2_readDigit 1 0 0 [xR 106, xI (m : Int)] κ M hs (pI κ hs (fun a M' => (pDig p i m = none → a = 0 ∧ M' = M) ∧ ∀ d, pDig p i m = some d → a = 1 ∧ M' 106 9 = (d : Int) ∧ RdS M' p (i + 1) ∧ Kp M M')) := by
  refine XC.intro cdX2_readDigit (by decide) (by decide) (Nat.le_of_ble_eq_true rfl) (loc := [some (xR 106), some (xI (m : Int)), none]) rfl (fun X hX => ?_)
  have hp2 := hS.1.2.1
  have hi2 := hS.2.2
  have hc2 := hS.1.rng i
  refine x_aload_n (pc := 0) hX rfl rfl dX2_readDigit_0 ?_
  refine x_getR (pc := 1) hX fl_X2_12 hK.2.2.1 rfl dX2_readDigit_1 ?_
  refine x_aload_n (pc := 4) hX rfl rfl dX2_readDigit_4 ?_
  refine x_getI (pc := 5) hX fl_X2_42 hK.2.2.1 rfl hS.2.1 dX2_readDigit_5 ?_
  refine x_cV_P (pc := 8) hX (tX3_signAt hK hS.1 i (by omega)) hK.1 rfl lk_X2_67 rfl rfl (Nat.le_of_ble_eq_true rfl) (by decide) (Nat.zero_le _) (Nat.zero_le _) dX2_readDigit_8 ?_
  refine x_bipush (pc := 11) hX (by decide) dX2_readDigit_11 ?_
  refine x_isub (pc := 13) hX dX2_readDigit_13 rfl ?_
  refine x_istore_n (pc := 14) hX rfl (by decide) rfl rfl dX2_readDigit_14 ?_
  refine x_iload_n (pc := 15) hX rfl rfl dX2_readDigit_15 ?_
  refine x_if_lt (pc := 16) (tgt := 24) hX dX2_readDigit_16 (by decide) (by omega) (fun h16 => ?_) (fun h16 => ?_)
  · refine x_iconst (pc := 24) hX dX2_readDigit_24 ?_
    refine x_zret (pc := 25) hX rfl (xn_bool (by omega)) (Nat.zero_le _) (Nat.zero_le _) dX2_readDigit_25 ?_
    refine pI_i ⟨fun _ => ⟨rfl, rfl⟩, fun d hd => ?_⟩
    have h1 := pDig_some hd
    omega
  · refine x_iload_n (pc := 19) hX rfl rfl dX2_readDigit_19 ?_
    refine x_iload_n (pc := 20) hX rfl rfl dX2_readDigit_20 ?_
    refine x_icmp_le (pc := 21) (tgt := 26) hX dX2_readDigit_21 (by decide) (by omega) (fun h21 => ?_) (fun h21 => ?_)
    · refine x_aload_n (pc := 26) hX rfl rfl dX2_readDigit_26 ?_
      refine x_iload_n (pc := 27) hX rfl rfl dX2_readDigit_27 ?_
      refine x_putI (pc := 28) hX fl_X2_64 hK.2.2.1 rfl rfl rfl dX2_readDigit_28 ?_
      refine x_aload_n (pc := 31) hX rfl rfl dX2_readDigit_31 ?_
      refine x_dup (pc := 32) hX rfl dX2_readDigit_32 ?_
      refine x_getI (pc := 33) (v := (i : Int)) hX fl_X2_42 hK.2.2.1 rfl (by rw [mp_ne _ _ (by decide)]; exact hS.2.1) dX2_readDigit_33 ?_
      refine x_iconst (pc := 36) hX dX2_readDigit_36 ?_
      refine x_iadd (pc := 37) hX dX2_readDigit_37 rfl ?_
      refine x_putI (pc := 38) hX fl_X2_42 hK.2.2.1 rfl rfl rfl dX2_readDigit_38 ?_
      refine x_iconst (pc := 41) hX dX2_readDigit_41 ?_
      refine x_zret (pc := 42) hX rfl (xn_bool (by omega)) (Nat.zero_le _) (Nat.zero_le _) dX2_readDigit_42 ?_
      refine pI_i ⟨fun hd => ?_, fun d hd => ⟨rfl, ?_, hS.kp (Kp.nm.tr Kp.mv) (mp_eq _ _ _ _) (chr_lt (by omega)), Kp.nm.tr Kp.mv⟩⟩
      · have h1 := pDig_none hd
        omega
      · have h1 := pDig_some hd
        rw [mp_ne _ _ (by decide), mp_eq]
        omega
    · refine x_iconst (pc := 24) hX dX2_readDigit_24 ?_
      refine x_zret (pc := 25) hX rfl (xn_bool (by omega)) (Nat.zero_le _) (Nat.zero_le _) dX2_readDigit_25 ?_
      refine pI_i ⟨fun _ => ⟨rfl, rfl⟩, fun d hd => ?_⟩
      have h1 := pDig_some hd
      omega

set_option maxHeartbeats 4000000 in
set_option maxRecDepth 100000 in
theorem tX2_readNumber {G : XG} {κ : XKs} {M : XM} {hs : Nat} {p : List Nat} (hK : KRd κ hs) {i : Nat} (hS : RdS M p i) : XC G mX2_readNumber 2 0 0 [xR 106] κ M hs (pI κ hs (fun a M' => (pNum p i = none → a = 0 ∧ M' = M) ∧ ∀ w j, pNum p i = some (w, j) → a = 1 ∧ M' 106 9 = (w : Int) ∧ RdS M' p j ∧ Kp M M')) := by
  refine XC.intro cdX2_readNumber (by decide) (by decide) (Nat.le_of_ble_eq_true rfl) (loc := [some (xR 106), none, none]) rfl (fun X hX => ?_)
  have hp2 := hS.1.2.1
  have hi2 := hS.2.2
  refine x_aload_n (pc := 0) hX rfl rfl dX2_readNumber_0 ?_
  refine x_bipush (pc := 1) hX (by decide) dX2_readNumber_1 ?_
  refine x_cV_I (pc := 3) hX (tX2_readDigit hK hS 9 (by decide)) hK.2.2.1 rfl lk_X2_60 rfl rfl (Nat.le_of_ble_eq_true rfl) (by decide) (Nat.zero_le _) (Nat.zero_le _) dX2_readNumber_3 (fun a M2 hp => ?_)
  cases hdd : pDig p i 9
  · obtain ⟨rfl, rfl⟩ := hp.1 hdd
    refine x_if_ne (pc := 6) (tgt := 11) hX dX2_readNumber_6 (by decide) (by omega) (fun h6 => ?_) (fun h6 => ?_)
    · exfalso; omega
    · refine x_iconst (pc := 9) hX dX2_readNumber_9 ?_
      refine x_zret (pc := 10) hX rfl (xn_bool (by omega)) (Nat.zero_le _) (Nat.zero_le _) dX2_readNumber_10 ?_
      exact pI_i ⟨fun _ => ⟨rfl, rfl⟩, fun w j hz => (by unfold pNum at hz; rw [hdd] at hz; cases hz)⟩
  · rename_i d0
    obtain ⟨rfl, hn2, hS2, hk2⟩ := hp.2 d0 hdd
    have h9 := pDig_some hdd
    have hnum : pNum p i = some (pMore p 2 (i + 1) d0) := by unfold pNum; rw [hdd]
    have loop : ∀ (n k j w : Nat) (M1 : XM), k ≤ 2 → 2 < k + n → (w ≤ 9 ∧ k = 0 ∨ w ≤ 99 ∧ k = 1 ∨ w ≤ 999 ∧ k = 2) → RdS M1 p j → Kp M M1 → pMore p (2 - k) j w = pMore p 2 (i + 1) d0 → XW G X mX2_readNumber (xq G (pI κ hs (fun a M' => (pNum p i = none → a = 0 ∧ M' = M) ∧ ∀ w j, pNum p i = some (w, j) → a = 1 ∧ M' 106 9 = (w : Int) ∧ RdS M' p j ∧ Kp M M')) 0 0 X) 0 0 18 [some (xR 106), some (xI (w : Int)), some (xI (k : Int))] [] κ M1 hs := by
      intro n
      induction n with
      | zero => intro k j w M1 h1 h2; omega
      | succ n ih =>
        intro k j w M1 h1 h2 h3 hS1 hk1 hF
        have hj2 := hS1.2.2
        refine x_iload_n (pc := 18) hX rfl rfl dX2_readNumber_18 ?_
        refine x_iconst (pc := 19) hX dX2_readNumber_19 ?_
        refine x_icmp_ge (pc := 20) (tgt := 52) hX dX2_readNumber_20 (by decide) (by omega) (fun h20 => ?_) (fun h20 => ?_)
        · refine x_aload_n (pc := 52) hX rfl rfl dX2_readNumber_52 ?_
          refine x_iload_n (pc := 53) hX rfl rfl dX2_readNumber_53 ?_
          refine x_putI (pc := 54) hX fl_X2_64 hK.2.2.1 rfl rfl rfl dX2_readNumber_54 ?_
          refine x_iconst (pc := 57) hX dX2_readNumber_57 ?_
          refine x_zret (pc := 58) hX rfl (xn_bool (by omega)) (Nat.zero_le _) (Nat.zero_le _) dX2_readNumber_58 ?_
          refine pI_i ⟨fun z => (by rw [hnum] at z; cases z), fun w9 j9 hz => ?_⟩
          have hk0 : k = 2 := by omega
          subst hk0
          rw [hnum, ← hF] at hz
          cases hz
          exact ⟨rfl, mp_eq _ _ _ _, hS1.kp Kp.nm (by rw [mp_ne _ _ (by decide)]; exact hS1.2.1) hS1.2.2, hk1.tr Kp.nm⟩
        · refine x_iload_n (pc := 23) hX rfl rfl dX2_readNumber_23 ?_
          refine x_if_le (pc := 24) (tgt := 52) hX dX2_readNumber_24 (by decide) (by omega) (fun h24 => ?_) (fun h24 => ?_)
          · refine x_aload_n (pc := 52) hX rfl rfl dX2_readNumber_52 ?_
            refine x_iload_n (pc := 53) hX rfl rfl dX2_readNumber_53 ?_
            refine x_putI (pc := 54) hX fl_X2_64 hK.2.2.1 rfl rfl rfl dX2_readNumber_54 ?_
            refine x_iconst (pc := 57) hX dX2_readNumber_57 ?_
            refine x_zret (pc := 58) hX rfl (xn_bool (by omega)) (Nat.zero_le _) (Nat.zero_le _) dX2_readNumber_58 ?_
            refine pI_i ⟨fun z => (by rw [hnum] at z; cases z), fun w9 j9 hz => ?_⟩
            rw [hnum, ← hF, show 2 - k = (1 - k) + 1 by omega, pMore, if_neg (by omega)] at hz
            cases hz
            exact ⟨rfl, mp_eq _ _ _ _, hS1.kp Kp.nm (by rw [mp_ne _ _ (by decide)]; exact hS1.2.1) hS1.2.2, hk1.tr Kp.nm⟩
          · refine x_aload_n (pc := 27) hX rfl rfl dX2_readNumber_27 ?_
            refine x_bipush (pc := 28) hX (by decide) dX2_readNumber_28 ?_
            refine x_cV_I (pc := 30) hX (tX2_readDigit hK hS1 9 (by decide)) hK.2.2.1 rfl lk_X2_60 rfl rfl (Nat.le_of_ble_eq_true rfl) (by decide) (Nat.zero_le _) (Nat.zero_le _) dX2_readNumber_30 (fun a M2 hp => ?_)
            cases hdd : pDig p j 9
            · obtain ⟨rfl, rfl⟩ := hp.1 hdd
              refine x_if_eq (pc := 33) (tgt := 52) hX dX2_readNumber_33 (by decide) (by omega) (fun h33 => ?_) (fun h33 => ?_)
              · refine x_aload_n (pc := 52) hX rfl rfl dX2_readNumber_52 ?_
                refine x_iload_n (pc := 53) hX rfl rfl dX2_readNumber_53 ?_
                refine x_putI (pc := 54) hX fl_X2_64 hK.2.2.1 rfl rfl rfl dX2_readNumber_54 ?_
                refine x_iconst (pc := 57) hX dX2_readNumber_57 ?_
                refine x_zret (pc := 58) hX rfl (xn_bool (by omega)) (Nat.zero_le _) (Nat.zero_le _) dX2_readNumber_58 ?_
                refine pI_i ⟨fun z => (by rw [hnum] at z; cases z), fun w9 j9 hz => ?_⟩
                rw [hnum, ← hF, show 2 - k = (1 - k) + 1 by omega, pMore, if_pos (by omega), hdd] at hz
                cases hz
                exact ⟨rfl, mp_eq _ _ _ _, hS1.kp Kp.nm (by rw [mp_ne _ _ (by decide)]; exact hS1.2.1) hS1.2.2, hk1.tr Kp.nm⟩
              · exfalso; omega
            · rename_i d
              obtain ⟨rfl, hn2, hS2, hk2⟩ := hp.2 d hdd
              have h9 := pDig_some hdd
              refine x_if_eq (pc := 33) (tgt := 52) hX dX2_readNumber_33 (by decide) (by omega) (fun h33 => ?_) (fun h33 => ?_)
              · exfalso; omega
              · refine x_bipush (pc := 36) hX (by decide) dX2_readNumber_36 ?_
                refine x_iload_n (pc := 38) hX rfl rfl dX2_readNumber_38 ?_
                refine x_imul (pc := 39) hX dX2_readNumber_39 rfl ?_
                refine x_aload_n (pc := 40) hX rfl rfl dX2_readNumber_40 ?_
                refine x_getI (pc := 41) (v := (d : Int)) hX fl_X2_64 hK.2.2.1 rfl hn2 dX2_readNumber_41 ?_
                refine x_iadd (pc := 44) (v := ((10 * w + d : Nat) : Int)) hX dX2_readNumber_44 (by omega) ?_
                refine x_istore_n (pc := 45) hX rfl (by decide) rfl rfl dX2_readNumber_45 ?_
                refine x_iinc (pc := 46) (v := ((k + 1 : Nat) : Int)) hX dX2_readNumber_46 rfl (by decide) rfl (by omega) rfl ?_
                refine x_goto (pc := 49) (tgt := 18) hX dX2_readNumber_49 (by decide) ?_
                exact ih (k + 1) (j + 1) (10 * w + d) M2 (by omega) (by omega) (by omega) hS2 (hk1.tr hk2) (by rw [← hF, show 2 - k = (2 - (k + 1)) + 1 by omega, pMore, if_pos (by omega), hdd])
    refine x_if_ne (pc := 6) (tgt := 11) hX dX2_readNumber_6 (by decide) (by omega) (fun h6 => ?_) (fun h6 => ?_)
    · refine x_aload_n (pc := 11) hX rfl rfl dX2_readNumber_11 ?_
      refine x_getI (pc := 12) (v := (d0 : Int)) hX fl_X2_64 hK.2.2.1 rfl hn2 dX2_readNumber_12 ?_
      refine x_istore_n (pc := 15) hX rfl (by decide) rfl rfl dX2_readNumber_15 ?_
      refine x_iconst (pc := 16) hX dX2_readNumber_16 ?_
      refine x_istore_n (pc := 17) hX rfl (by decide) rfl rfl dX2_readNumber_17 ?_
      exact loop 3 0 (i + 1) d0 M2 (by omega) (by omega) (by omega) hS2 hk2 rfl
    · exfalso; omega

set_option maxHeartbeats 4000000 in
set_option maxRecDepth 100000 in
theorem tX2_readRow {G : XG} {κ : XKs} {M : XM} {hs : Nat} {p : List Nat} (hK : KRd κ hs) {i : Nat} (hS : RdS M p i) : XC G mX2_readRow 3 0 0 [xR 106] κ M hs (pI κ hs (fun a M' => (pNum p i = none → a = 0 ∧ M' = M) ∧ ∀ w j, pNum p i = some (w, j) → a = 1 ∧ M' 106 7 = (w : Int) ∧ RdS M' p j ∧ (∀ q f, (q = 106 ∧ (f = 4 ∨ f = 9 ∨ f = 7)) ∨ M' q f = M q f))) := by
  refine XC.intro cdX2_readRow (by decide) (by decide) (Nat.le_of_ble_eq_true rfl) (loc := [some (xR 106)]) rfl (fun X hX => ?_)
  have hp2 := hS.1.2.1
  have hi2 := hS.2.2
  refine x_aload_n (pc := 0) hX rfl rfl dX2_readRow_0 ?_
  refine x_cV_I (pc := 1) hX (tX2_readNumber hK hS) hK.2.2.1 rfl lk_X2_77 rfl rfl (Nat.le_of_ble_eq_true rfl) (by decide) (Nat.zero_le _) (Nat.zero_le _) dX2_readRow_1 (fun a M2 hp => ?_)
  cases hdd : pNum p i
  · obtain ⟨rfl, rfl⟩ := hp.1 hdd
    refine x_if_ne (pc := 4) (tgt := 9) hX dX2_readRow_4 (by decide) (by omega) (fun h4 => ?_) (fun h4 => ?_)
    · exfalso; omega
    · refine x_iconst (pc := 7) hX dX2_readRow_7 ?_
      refine x_zret (pc := 8) hX rfl (xn_bool (by omega)) (Nat.zero_le _) (Nat.zero_le _) dX2_readRow_8 ?_
      exact pI_i ⟨fun _ => ⟨rfl, rfl⟩, fun w j hz => (by cases hz)⟩
  · rename_i q
    obtain ⟨w, j⟩ := q
    obtain ⟨rfl, hn2, hS2, hk2⟩ := hp.2 w j hdd
    refine x_if_ne (pc := 4) (tgt := 9) hX dX2_readRow_4 (by decide) (by omega) (fun h4 => ?_) (fun h4 => ?_)
    · refine x_aload_n (pc := 9) hX rfl rfl dX2_readRow_9 ?_
      refine x_aload_n (pc := 10) hX rfl rfl dX2_readRow_10 ?_
      refine x_getI (pc := 11) hX fl_X2_64 hK.2.2.1 rfl hn2 dX2_readRow_11 ?_
      refine x_putI (pc := 14) hX fl_X2_33 hK.2.2.1 rfl rfl rfl dX2_readRow_14 ?_
      refine x_iconst (pc := 17) hX dX2_readRow_17 ?_
      refine x_zret (pc := 18) hX rfl (xn_bool (by omega)) (Nat.zero_le _) (Nat.zero_le _) dX2_readRow_18 ?_
      refine pI_i ⟨fun z => (by cases z), fun w2 j2 hz => ?_⟩
      cases hz
      refine ⟨rfl, mp_eq _ _ _ _, ⟨hS2.1.congr (mput_ne _ _ _ (by decide)) (mput_ne _ _ _ (by decide)), by rw [mp_ne _ _ (by decide)]; exact hS2.2.1, hS2.2.2⟩, fun q f => ?_⟩
      rcases hk2 q f with h | h
      · exact Or.inl ⟨h.1, h.2.elim Or.inl (fun z => Or.inr (Or.inl z))⟩
      · rw [mp_at]
        by_cases e : q = 106 ∧ f = 7
        · exact Or.inl ⟨e.1, Or.inr (Or.inr e.2)⟩
        · rw [if_neg e]
          exact Or.inr h
    · exfalso; omega

set_option maxHeartbeats 4000000 in
set_option maxRecDepth 100000 in
theorem tX2_keepOperand {G : XG} {κ : XKs} {M : XM} {hs : Nat} {p : List Nat} (hK : KRd κ hs) (v : Int) (hv : M 106 9 = v) : XC G mX2_keepOperand 0 0 0 [xR 106] κ M hs (pI κ hs (fun a M' => a = 1 ∧ M' = mput M 106 8 v)) := by
  refine XC.intro cdX2_keepOperand (by decide) (by decide) (Nat.le_of_ble_eq_true rfl) (loc := [some (xR 106)]) rfl (fun X hX => ?_)
  refine x_aload_n (pc := 0) hX rfl rfl dX2_keepOperand_0 ?_
  refine x_aload_n (pc := 1) hX rfl rfl dX2_keepOperand_1 ?_
  refine x_getI (pc := 2) hX fl_X2_64 hK.2.2.1 rfl hv dX2_keepOperand_2 ?_
  refine x_putI (pc := 5) hX fl_X2_36 hK.2.2.1 rfl rfl rfl dX2_keepOperand_5 ?_
  refine x_iconst (pc := 8) hX dX2_keepOperand_8 ?_
  refine x_zret (pc := 9) hX rfl (xn_bool (by omega)) (Nat.zero_le _) (Nat.zero_le _) dX2_keepOperand_9 ?_
  exact pI_i ⟨rfl, rfl⟩

