/-! Column: its reads -/
set_option maxHeartbeats 4000000 in
set_option maxRecDepth 100000 in
theorem tX0_runs {G : XG} {κ : XKs} {M : XM} {hs o : Nat} {l : List Nat} (hK : KCol κ hs o) (hC : Col M o l) : XC G mX0_runs 0 0 0 [xR o] κ M hs (pP κ M hs (xI ((enc l).length : Int))) := by
  refine XC.intro cdX0_runs (by decide) (by decide) (Nat.le_of_ble_eq_true rfl) (loc := [some (xR o)]) rfl (fun X hX => ?_)
  refine x_aload_n (pc := 0) hX rfl rfl dX0_runs_0 ?_
  refine x_getI (pc := 1) hX fl_X0_18 hK.1 rfl hC.len.1 dX0_runs_1 ?_
  refine x_iret (pc := 4) hX rfl (Nat.zero_le _) (Nat.zero_le _) dX0_runs_4 (pP_i rfl)

set_option maxHeartbeats 4000000 in
set_option maxRecDepth 100000 in
theorem tX0_rows {G : XG} {κ : XKs} {M : XM} {hs o : Nat} {l : List Nat} (hK : KCol κ hs o) (hC : Col M o l) : XC G mX0_rows 0 0 0 [xR o] κ M hs (pP κ M hs (xI (l.length : Int))) := by
  refine XC.intro cdX0_rows (by decide) (by decide) (Nat.le_of_ble_eq_true rfl) (loc := [some (xR o)]) rfl (fun X hX => ?_)
  refine x_aload_n (pc := 0) hX rfl rfl dX0_rows_0 ?_
  refine x_getI (pc := 1) hX fl_X0_22 hK.1 rfl hC.len.2.1 dX0_rows_1 ?_
  refine x_iret (pc := 4) hX rfl (Nat.zero_le _) (Nat.zero_le _) dX0_rows_4 (pP_i rfl)

set_option maxHeartbeats 4000000 in
set_option maxRecDepth 100000 in
theorem tX0_isOverfull {G : XG} {κ : XKs} {M : XM} {hs o : Nat} {l : List Nat} (hK : KCol κ hs o) (hC : Dra M o l) (b : Int) (hb : M o 4 = b) (hb2 : b = 0 ∨ b = 1) : XC G mX0_isOverfull 0 0 0 [xR o] κ M hs (pP κ M hs (xI b)) := by
  refine XC.intro cdX0_isOverfull (by decide) (by decide) (Nat.le_of_ble_eq_true rfl) (loc := [some (xR o)]) rfl (fun X hX => ?_)
  refine x_aload_n (pc := 0) hX rfl rfl dX0_isOverfull_0 ?_
  refine x_getI (pc := 1) hX fl_X0_25 hK.1 rfl hb dX0_isOverfull_1 ?_
  refine x_zret (pc := 4) hX rfl (xn_bool hb2) (Nat.zero_le _) (Nat.zero_le _) dX0_isOverfull_4 (pP_i rfl)

set_option maxHeartbeats 4000000 in
set_option maxRecDepth 100000 in
theorem tX0_valueOfRun {G : XG} {κ : XKs} {M : XM} {hs o : Nat} {l : List Nat} (hK : KCol κ hs o) (hC : Col M o l) (a : Int) (ha : InR a) : XC G mX0_valueOfRun 0 0 0 [xR o, xI a] κ M hs (pP κ M hs (xI (rvO (enc l) a))) := by
  refine XC.intro cdX0_valueOfRun (by decide) (by decide) (Nat.le_of_ble_eq_true rfl) (loc := [some (xR o), some (xI a)]) rfl (fun X hX => ?_)
  unfold InR at ha
  have hl := hC.len
  refine x_iload_n (pc := 0) hX rfl rfl dX0_valueOfRun_0 ?_
  refine x_if_lt (pc := 1) (tgt := 21) hX dX0_valueOfRun_1 (by decide) (by omega) (fun h1 => ?_) (fun h1 => ?_)
  · refine x_bipush (pc := 21) hX (by decide) dX0_valueOfRun_21 ?_
    refine x_iret (pc := 23) hX rfl (Nat.zero_le _) (Nat.zero_le _) dX0_valueOfRun_23 ?_
    exact pP_i (congrArg xI (by unfold rvO; first | rw [if_pos (by omega)] | rw [if_neg (by omega)]))
  · refine x_iload_n (pc := 4) hX rfl rfl dX0_valueOfRun_4 ?_
    refine x_aload_n (pc := 5) hX rfl rfl dX0_valueOfRun_5 ?_
    refine x_getI (pc := 6) hX fl_X0_18 hK.1 rfl hl.1 dX0_valueOfRun_6 ?_
    refine x_icmp_ge (pc := 9) (tgt := 21) hX dX0_valueOfRun_9 (by decide) (by omega) (fun h9 => ?_) (fun h9 => ?_)
    · refine x_bipush (pc := 21) hX (by decide) dX0_valueOfRun_21 ?_
      refine x_iret (pc := 23) hX rfl (Nat.zero_le _) (Nat.zero_le _) dX0_valueOfRun_23 ?_
      exact pP_i (congrArg xI (by unfold rvO; first | rw [if_pos (by omega)] | rw [if_neg (by omega)]))
    · refine x_aload_n (pc := 12) hX rfl rfl dX0_valueOfRun_12 ?_
      refine x_getR (pc := 13) hX fl_X0_9 hK.1 rfl dX0_valueOfRun_13 ?_
      refine x_iload_n (pc := 16) hX rfl rfl dX0_valueOfRun_16 ?_
      have hn : a.toNat < (enc l).length := by omega
      refine x_iald (pc := 17) (j := a.toNat) hX hK.2.1 (by omega) (by omega) (by decide) (hC.mem hn).1 dX0_valueOfRun_17 ?_
      refine x_goto (pc := 18) (tgt := 23) hX dX0_valueOfRun_18 (by decide) ?_
      refine x_iret (pc := 23) hX rfl (Nat.zero_le _) (Nat.zero_le _) dX0_valueOfRun_23 ?_
      exact pP_i (congrArg xI (by unfold rvO; first | rw [if_pos (by omega)] | rw [if_neg (by omega)]))

set_option maxHeartbeats 4000000 in
set_option maxRecDepth 100000 in
theorem tX0_lengthOfRun {G : XG} {κ : XKs} {M : XM} {hs o : Nat} {l : List Nat} (hK : KCol κ hs o) (hC : Col M o l) (a : Int) (ha : InR a) : XC G mX0_lengthOfRun 0 0 0 [xR o, xI a] κ M hs (pP κ M hs (xI (rnO (enc l) a))) := by
  refine XC.intro cdX0_lengthOfRun (by decide) (by decide) (Nat.le_of_ble_eq_true rfl) (loc := [some (xR o), some (xI a)]) rfl (fun X hX => ?_)
  unfold InR at ha
  have hl := hC.len
  refine x_iload_n (pc := 0) hX rfl rfl dX0_lengthOfRun_0 ?_
  refine x_if_lt (pc := 1) (tgt := 21) hX dX0_lengthOfRun_1 (by decide) (by omega) (fun h1 => ?_) (fun h1 => ?_)
  · refine x_iconst (pc := 21) hX dX0_lengthOfRun_21 ?_
    refine x_iret (pc := 22) hX rfl (Nat.zero_le _) (Nat.zero_le _) dX0_lengthOfRun_22 ?_
    exact pP_i (congrArg xI (by unfold rnO; first | rw [if_pos (by omega)] | rw [if_neg (by omega)]))
  · refine x_iload_n (pc := 4) hX rfl rfl dX0_lengthOfRun_4 ?_
    refine x_aload_n (pc := 5) hX rfl rfl dX0_lengthOfRun_5 ?_
    refine x_getI (pc := 6) hX fl_X0_18 hK.1 rfl hl.1 dX0_lengthOfRun_6 ?_
    refine x_icmp_ge (pc := 9) (tgt := 21) hX dX0_lengthOfRun_9 (by decide) (by omega) (fun h9 => ?_) (fun h9 => ?_)
    · refine x_iconst (pc := 21) hX dX0_lengthOfRun_21 ?_
      refine x_iret (pc := 22) hX rfl (Nat.zero_le _) (Nat.zero_le _) dX0_lengthOfRun_22 ?_
      exact pP_i (congrArg xI (by unfold rnO; first | rw [if_pos (by omega)] | rw [if_neg (by omega)]))
    · refine x_aload_n (pc := 12) hX rfl rfl dX0_lengthOfRun_12 ?_
      refine x_getR (pc := 13) hX fl_X0_15 hK.1 rfl dX0_lengthOfRun_13 ?_
      refine x_iload_n (pc := 16) hX rfl rfl dX0_lengthOfRun_16 ?_
      have hn : a.toNat < (enc l).length := by omega
      refine x_iald (pc := 17) (j := a.toNat) hX hK.2.2 (by omega) (by omega) (by decide) (hC.mem hn).2.1 dX0_lengthOfRun_17 ?_
      refine x_goto (pc := 18) (tgt := 22) hX dX0_lengthOfRun_18 (by decide) ?_
      refine x_iret (pc := 22) hX rfl (Nat.zero_le _) (Nat.zero_le _) dX0_lengthOfRun_22 ?_
      exact pP_i (congrArg xI (by unfold rnO; first | rw [if_pos (by omega)] | rw [if_neg (by omega)]))

set_option maxHeartbeats 4000000 in
set_option maxRecDepth 100000 in
theorem tX0_firstRowOfRun {G : XG} {κ : XKs} {M : XM} {hs o : Nat} {l : List Nat} (hK : KCol κ hs o) (hC : Col M o l) (a : Nat) (ha : a ≤ (enc l).length) : XC G mX0_firstRowOfRun 0 0 0 [xR o, xI (a : Int)] κ M hs (pP κ M hs (xI (tot ((enc l).take a) : Int))) := by
  refine XC.intro cdX0_firstRowOfRun (by decide) (by decide) (Nat.le_of_ble_eq_true rfl) (loc := [some (xR o), some (xI (a : Int)), none, none]) rfl (fun X hX => ?_)
  have hl := hC.len
  have loop : ∀ (n k : Nat), k ≤ (enc l).length → (enc l).length < k + n → k ≤ a → XW G X mX0_firstRowOfRun (xq G (pP κ M hs (xI (tot ((enc l).take a) : Int))) 0 0 X) 0 0 4 [some (xR o), some (xI (a : Int)), some (xI (tot ((enc l).take k) : Int)), some (xI (k : Int))] [] κ M hs := by
    intro n
    induction n with
    | zero => intro k  h1 h2; omega
    | succ n ih =>
      intro k  h1 h2 h3
      refine x_iload_n (pc := 4) hX rfl rfl dX0_firstRowOfRun_4 ?_
      refine x_iload_n (pc := 5) hX rfl rfl dX0_firstRowOfRun_5 ?_
      refine x_icmp_ge (pc := 6) (tgt := 32) hX dX0_firstRowOfRun_6 (by decide) (by omega) (fun h6 => ?_) (fun h6 => ?_)
      · refine x_iload_n (pc := 32) hX rfl rfl dX0_firstRowOfRun_32 ?_
        refine x_iret (pc := 33) hX rfl (Nat.zero_le _) (Nat.zero_le _) dX0_firstRowOfRun_33 ?_
        have hka : k = a := by omega
        exact pP_i (by rw [hka])
      · refine x_iload_n (pc := 9) hX rfl rfl dX0_firstRowOfRun_9 ?_
        refine x_aload_n (pc := 10) hX rfl rfl dX0_firstRowOfRun_10 ?_
        refine x_getI (pc := 11) hX fl_X0_18 hK.1 rfl hl.1 dX0_firstRowOfRun_11 ?_
        refine x_icmp_ge (pc := 14) (tgt := 32) hX dX0_firstRowOfRun_14 (by decide) (by omega) (fun h14 => ?_) (fun h14 => ?_)
        · refine x_iload_n (pc := 32) hX rfl rfl dX0_firstRowOfRun_32 ?_
          refine x_iret (pc := 33) hX rfl (Nat.zero_le _) (Nat.zero_le _) dX0_firstRowOfRun_33 ?_
          have hka : k = a := by omega
          exact pP_i (by rw [hka])
        · have hk2 : k < (enc l).length := by omega
          have hm := hC.mem hk2
          refine x_iload_n (pc := 17) hX rfl rfl dX0_firstRowOfRun_17 ?_
          refine x_aload_n (pc := 18) hX rfl rfl dX0_firstRowOfRun_18 ?_
          refine x_getR (pc := 19) hX fl_X0_15 hK.1 rfl dX0_firstRowOfRun_19 ?_
          refine x_iload_n (pc := 22) hX rfl rfl dX0_firstRowOfRun_22 ?_
          refine x_iald (pc := 23) (j := k) hX hK.2.2 (by omega) (by omega) (by decide) hm.2.1 dX0_firstRowOfRun_23 ?_
          refine x_iadd (pc := 24) (v := (tot ((enc l).take (k + 1)) : Int)) hX dX0_firstRowOfRun_24 (by rw [tot_take_succ hk2]; omega) ?_
          refine x_istore_n (pc := 25) hX rfl (by decide) rfl rfl dX0_firstRowOfRun_25 ?_
          refine x_iinc (pc := 26) (v := ((k + 1 : Nat) : Int)) hX dX0_firstRowOfRun_26 rfl (by decide) rfl (by omega) rfl ?_
          refine x_goto (pc := 29) (tgt := 4) hX dX0_firstRowOfRun_29 (by decide) ?_
          exact ih (k + 1) (by omega) (by omega) (by omega)
  refine x_iconst (pc := 0) hX dX0_firstRowOfRun_0 ?_
  refine x_istore_n (pc := 1) hX rfl (by decide) rfl rfl dX0_firstRowOfRun_1 ?_
  refine x_iconst (pc := 2) hX dX0_firstRowOfRun_2 ?_
  refine x_istore_n (pc := 3) hX rfl (by decide) rfl rfl dX0_firstRowOfRun_3 ?_
  exact loop ((enc l).length + 1) 0 (by omega) (by omega) (by omega)

set_option maxHeartbeats 4000000 in
set_option maxRecDepth 100000 in
theorem tX0_runOfRow {G : XG} {κ : XKs} {M : XM} {hs o : Nat} {l : List Nat} (hK : KCol κ hs o) (hC : Col M o l) (r : Nat) (hr : r < l.length) : XC G mX0_runOfRow 0 0 0 [xR o, xI (r : Int)] κ M hs (pP κ M hs (xI (rof (enc l) r : Int))) := by
  refine XC.intro cdX0_runOfRow (by decide) (by decide) (Nat.le_of_ble_eq_true rfl) (loc := [some (xR o), some (xI (r : Int)), none, none]) rfl (fun X hX => ?_)
  have hl := hC.len
  have loop : ∀ (n k : Nat), k ≤ (enc l).length → (enc l).length < k + n → tot ((enc l).take k) ≤ r → XW G X mX0_runOfRow (xq G (pP κ M hs (xI (rof (enc l) r : Int))) 0 0 X) 0 0 4 [some (xR o), some (xI (r : Int)), some (xI (tot ((enc l).take k) : Int)), some (xI (k : Int))] [] κ M hs := by
    intro n
    induction n with
    | zero => intro k  h1 h2; omega
    | succ n ih =>
      intro k  h1 h2 h3
      refine x_iload_n (pc := 4) hX rfl rfl dX0_runOfRow_4 ?_
      refine x_aload_n (pc := 5) hX rfl rfl dX0_runOfRow_5 ?_
      refine x_getI (pc := 6) hX fl_X0_18 hK.1 rfl hl.1 dX0_runOfRow_6 ?_
      refine x_icmp_ge (pc := 9) (tgt := 34) hX dX0_runOfRow_9 (by decide) (by omega) (fun h9 => ?_) (fun h9 => ?_)
      · exfalso
        have e9 : (enc l).take k = enc l := List.take_of_length_le (by omega)
        rw [e9, tot_enc] at h3
        omega
      · have hk2 : k < (enc l).length := by omega
        have hm := hC.mem hk2
        have ht := tot_take_succ hk2
        have ht2 := tot_take_le (enc l) (k + 1)
        rw [tot_enc] at ht2
        refine x_iload_n (pc := 12) hX rfl rfl dX0_runOfRow_12 ?_
        refine x_aload_n (pc := 13) hX rfl rfl dX0_runOfRow_13 ?_
        refine x_getR (pc := 14) hX fl_X0_15 hK.1 rfl dX0_runOfRow_14 ?_
        refine x_iload_n (pc := 17) hX rfl rfl dX0_runOfRow_17 ?_
        refine x_iald (pc := 18) (j := k) hX hK.2.2 (by omega) (by omega) (by decide) hm.2.1 dX0_runOfRow_18 ?_
        refine x_iadd (pc := 19) (v := (tot ((enc l).take (k + 1)) : Int)) hX dX0_runOfRow_19 (by rw [ht]; omega) ?_
        refine x_istore_n (pc := 20) hX rfl (by decide) rfl rfl dX0_runOfRow_20 ?_
        refine x_iload_n (pc := 21) hX rfl rfl dX0_runOfRow_21 ?_
        refine x_iload_n (pc := 22) hX rfl rfl dX0_runOfRow_22 ?_
        refine x_icmp_ge (pc := 23) (tgt := 28) hX dX0_runOfRow_23 (by decide) (by omega) (fun h23 => ?_) (fun h23 => ?_)
        · refine x_iinc (pc := 28) (v := ((k + 1 : Nat) : Int)) hX dX0_runOfRow_28 rfl (by decide) rfl (by omega) rfl ?_
          refine x_goto (pc := 31) (tgt := 4) hX dX0_runOfRow_31 (by decide) ?_
          exact ih (k + 1) (by omega) (by omega) (by omega)
        · refine x_iload_n (pc := 26) hX rfl rfl dX0_runOfRow_26 ?_
          refine x_iret (pc := 27) hX rfl (Nat.zero_le _) (Nat.zero_le _) dX0_runOfRow_27 ?_
          exact pP_i (by rw [rof_uniq hk2 h3 (by omega)])
  refine x_iconst (pc := 0) hX dX0_runOfRow_0 ?_
  refine x_istore_n (pc := 1) hX rfl (by decide) rfl rfl dX0_runOfRow_1 ?_
  refine x_iconst (pc := 2) hX dX0_runOfRow_2 ?_
  refine x_istore_n (pc := 3) hX rfl (by decide) rfl rfl dX0_runOfRow_3 ?_
  exact loop ((enc l).length + 1) 0 (by omega) (by omega) (by show tot (List.take 0 (enc l)) ≤ r; simp [tot])

set_option maxHeartbeats 4000000 in
set_option maxRecDepth 100000 in
theorem tX0_valueOfRow {G : XG} {κ : XKs} {M : XM} {hs o : Nat} {l : List Nat} (hK : KCol κ hs o) (hC : Col M o l) (r : Nat) (hr : r < l.length) : XC G mX0_valueOfRow 1 0 0 [xR o, xI (r : Int)] κ M hs (pP κ M hs (xI (rvO (enc l) (rof (enc l) r)))) := by
  refine XC.intro cdX0_valueOfRow (by decide) (by decide) (Nat.le_of_ble_eq_true rfl) (loc := [some (xR o), some (xI (r : Int))]) rfl (fun X hX => ?_)
  have hl := hC.len
  have hq := rof_spec (enc l) r (by rw [tot_enc]; exact hr)
  refine x_aload_n (pc := 0) hX rfl rfl dX0_valueOfRow_0 ?_
  refine x_aload_n (pc := 1) hX rfl rfl dX0_valueOfRow_1 ?_
  refine x_iload_n (pc := 2) hX rfl rfl dX0_valueOfRow_2 ?_
  refine x_cV_P (pc := 3) hX (tX0_runOfRow hK hC r hr) hK.1 rfl lk_X0_29 rfl rfl (Nat.le_of_ble_eq_true rfl) (by decide) (Nat.zero_le _) (Nat.zero_le _) dX0_valueOfRow_3 ?_
  refine x_cV_P (pc := 6) hX (tX0_valueOfRun hK hC _ (by unfold InR; omega)) hK.1 rfl lk_X0_33 rfl rfl (Nat.le_of_ble_eq_true rfl) (by decide) (Nat.zero_le _) (Nat.zero_le _) dX0_valueOfRow_6 ?_
  refine x_iret (pc := 9) hX rfl (Nat.zero_le _) (Nat.zero_le _) dX0_valueOfRow_9 (pP_i rfl)

set_option maxHeartbeats 4000000 in
set_option maxRecDepth 100000 in
theorem tX0_rowOfRank {G : XG} {κ : XKs} {M : XM} {hs o : Nat} {l : List Nat} (hK : KCol κ hs o) (hC : Col M o l) (v : Int) (hv : InR v) (rk : Nat) (hrk : rk < 2147483648) : XC G mX0_rowOfRank 0 0 0 [xR o, xI v, xI (rk : Int)] κ M hs (pP κ M hs (xI (fRank v 0 rk (enc l)))) := by
  refine XC.intro cdX0_rowOfRank (by decide) (by decide) (Nat.le_of_ble_eq_true rfl) (loc := [some (xR o), some (xI v), some (xI (rk : Int)), none, none, none]) rfl (fun X hX => ?_)
  unfold InR at hv
  have hl := hC.len
  have loop : ∀ (n k : Nat) (left : Nat), k ≤ (enc l).length → (enc l).length < k + n → left ≤ rk → fRank v (tot ((enc l).take k)) left ((enc l).drop k) = fRank v 0 rk (enc l) → XW G X mX0_rowOfRank (xq G (pP κ M hs (xI (fRank v 0 rk (enc l)))) 0 0 X) 0 0 8 [some (xR o), some (xI v), some (xI (rk : Int)), some (xI (tot ((enc l).take k) : Int)), some (xI (left : Int)), some (xI (k : Int))] [] κ M hs := by
    intro n
    induction n with
    | zero => intro k left h1 h2; omega
    | succ n ih =>
      intro k left h1 h2 h3 hF
      refine x_iload (pc := 8) hX rfl dX0_rowOfRank_8 ?_
      refine x_aload_n (pc := 10) hX rfl rfl dX0_rowOfRank_10 ?_
      refine x_getI (pc := 11) hX fl_X0_18 hK.1 rfl hl.1 dX0_rowOfRank_11 ?_
      refine x_icmp_ge (pc := 14) (tgt := 73) hX dX0_rowOfRank_14 (by decide) (by omega) (fun h14 => ?_) (fun h14 => ?_)
      · refine x_bipush (pc := 73) hX (by decide) dX0_rowOfRank_73 ?_
        refine x_iret (pc := 75) hX rfl (Nat.zero_le _) (Nat.zero_le _) dX0_rowOfRank_75 ?_
        exact pP_i (congrArg xI (by rw [← hF, ru_end _ (by omega)]; rfl))
      · have hk2 : k < (enc l).length := by omega
        have hm := hC.mem hk2
        have ht := tot_take_succ hk2
        have ht2 := tot_take_le (enc l) k
        rw [tot_enc] at ht2
        refine x_aload_n (pc := 17) hX rfl rfl dX0_rowOfRank_17 ?_
        refine x_getR (pc := 18) hX fl_X0_9 hK.1 rfl dX0_rowOfRank_18 ?_
        refine x_iload (pc := 21) hX rfl dX0_rowOfRank_21 ?_
        refine x_iald (pc := 23) (j := k) hX hK.2.1 (by omega) (by omega) (by decide) hm.1 dX0_rowOfRank_23 ?_
        refine x_iload_n (pc := 24) hX rfl rfl dX0_rowOfRank_24 ?_
        refine x_icmp_ne (pc := 25) (tgt := 57) hX dX0_rowOfRank_25 (by decide) (by omega) (fun h25 => ?_) (fun h25 => ?_)
        · refine x_iload_n (pc := 57) hX rfl rfl dX0_rowOfRank_57 ?_
          refine x_aload_n (pc := 58) hX rfl rfl dX0_rowOfRank_58 ?_
          refine x_getR (pc := 59) hX fl_X0_15 hK.1 rfl dX0_rowOfRank_59 ?_
          refine x_iload (pc := 62) hX rfl dX0_rowOfRank_62 ?_
          refine x_iald (pc := 64) (j := k) hX hK.2.2 (by omega) (by omega) (by decide) hm.2.1 dX0_rowOfRank_64 ?_
          refine x_iadd (pc := 65) (v := (tot ((enc l).take (k + 1)) : Int)) hX dX0_rowOfRank_65 (by rw [ht]; omega) ?_
          refine x_istore_n (pc := 66) hX rfl (by decide) rfl rfl dX0_rowOfRank_66 ?_
          refine x_iinc (pc := 67) (v := ((k + 1 : Nat) : Int)) hX dX0_rowOfRank_67 rfl (by decide) rfl (by omega) rfl ?_
          refine x_goto (pc := 70) (tgt := 8) hX dX0_rowOfRank_70 (by decide) ?_
          first
          | exact ih (k + 1) (left - rn (enc l) k) (by omega) (by omega) (by omega) (by rw [← hF, ru_drop hk2, fRank, if_pos (by omega), if_neg (by omega), ht])
          | exact ih (k + 1) left (by omega) (by omega) (by omega) (by rw [← hF, ru_drop hk2, fRank, if_neg (by omega), ht])
        · refine x_iload (pc := 28) hX rfl dX0_rowOfRank_28 ?_
          refine x_aload_n (pc := 30) hX rfl rfl dX0_rowOfRank_30 ?_
          refine x_getR (pc := 31) hX fl_X0_15 hK.1 rfl dX0_rowOfRank_31 ?_
          refine x_iload (pc := 34) hX rfl dX0_rowOfRank_34 ?_
          refine x_iald (pc := 36) (j := k) hX hK.2.2 (by omega) (by omega) (by decide) hm.2.1 dX0_rowOfRank_36 ?_
          refine x_icmp_ge (pc := 37) (tgt := 45) hX dX0_rowOfRank_37 (by decide) (by omega) (fun h37 => ?_) (fun h37 => ?_)
          · refine x_iload (pc := 45) hX rfl dX0_rowOfRank_45 ?_
            refine x_aload_n (pc := 47) hX rfl rfl dX0_rowOfRank_47 ?_
            refine x_getR (pc := 48) hX fl_X0_15 hK.1 rfl dX0_rowOfRank_48 ?_
            refine x_iload (pc := 51) hX rfl dX0_rowOfRank_51 ?_
            refine x_iald (pc := 53) (j := k) hX hK.2.2 (by omega) (by omega) (by decide) hm.2.1 dX0_rowOfRank_53 ?_
            refine x_isub (pc := 54) (v := ((left - rn (enc l) k : Nat) : Int)) hX dX0_rowOfRank_54 (by omega) ?_
            refine x_istore (pc := 55) hX (by decide) rfl rfl dX0_rowOfRank_55 ?_
            refine x_iload_n (pc := 57) hX rfl rfl dX0_rowOfRank_57 ?_
            refine x_aload_n (pc := 58) hX rfl rfl dX0_rowOfRank_58 ?_
            refine x_getR (pc := 59) hX fl_X0_15 hK.1 rfl dX0_rowOfRank_59 ?_
            refine x_iload (pc := 62) hX rfl dX0_rowOfRank_62 ?_
            refine x_iald (pc := 64) (j := k) hX hK.2.2 (by omega) (by omega) (by decide) hm.2.1 dX0_rowOfRank_64 ?_
            refine x_iadd (pc := 65) (v := (tot ((enc l).take (k + 1)) : Int)) hX dX0_rowOfRank_65 (by rw [ht]; omega) ?_
            refine x_istore_n (pc := 66) hX rfl (by decide) rfl rfl dX0_rowOfRank_66 ?_
            refine x_iinc (pc := 67) (v := ((k + 1 : Nat) : Int)) hX dX0_rowOfRank_67 rfl (by decide) rfl (by omega) rfl ?_
            refine x_goto (pc := 70) (tgt := 8) hX dX0_rowOfRank_70 (by decide) ?_
            first
            | exact ih (k + 1) (left - rn (enc l) k) (by omega) (by omega) (by omega) (by rw [← hF, ru_drop hk2, fRank, if_pos (by omega), if_neg (by omega), ht])
            | exact ih (k + 1) left (by omega) (by omega) (by omega) (by rw [← hF, ru_drop hk2, fRank, if_neg (by omega), ht])
          · refine x_iload_n (pc := 40) hX rfl rfl dX0_rowOfRank_40 ?_
            refine x_iload (pc := 41) hX rfl dX0_rowOfRank_41 ?_
            refine x_iadd (pc := 43) hX dX0_rowOfRank_43 rfl ?_
            refine x_iret (pc := 44) hX rfl (Nat.zero_le _) (Nat.zero_le _) dX0_rowOfRank_44 ?_
            exact pP_i (congrArg xI (by rw [← hF, ru_drop hk2, fRank, if_pos (by omega), if_pos (by omega)]; omega))
  refine x_iconst (pc := 0) hX dX0_rowOfRank_0 ?_
  refine x_istore_n (pc := 1) hX rfl (by decide) rfl rfl dX0_rowOfRank_1 ?_
  refine x_iload_n (pc := 2) hX rfl rfl dX0_rowOfRank_2 ?_
  refine x_istore (pc := 3) hX (by decide) rfl rfl dX0_rowOfRank_3 ?_
  refine x_iconst (pc := 5) hX dX0_rowOfRank_5 ?_
  refine x_istore (pc := 6) hX (by decide) rfl rfl dX0_rowOfRank_6 ?_
  exact loop ((enc l).length + 1) 0 rk (by omega) (by omega) (by omega) rfl

set_option maxHeartbeats 4000000 in
set_option maxRecDepth 100000 in
theorem tX0_rowsOf {G : XG} {κ : XKs} {M : XM} {hs o : Nat} {l : List Nat} (hK : KCol κ hs o) (hC : Col M o l) (v : Int) (hv : InR v) : XC G mX0_rowsOf 0 0 0 [xR o, xI v] κ M hs (pP κ M hs (xI (fRows v 0 (enc l)))) := by
  refine XC.intro cdX0_rowsOf (by decide) (by decide) (Nat.le_of_ble_eq_true rfl) (loc := [some (xR o), some (xI v), none, none]) rfl (fun X hX => ?_)
  unfold InR at hv
  have hl := hC.len
  have loop : ∀ (n k : Nat) (acc : Int), k ≤ (enc l).length → (enc l).length < k + n → fRows v acc ((enc l).drop k) = fRows v 0 (enc l) → XW G X mX0_rowsOf (xq G (pP κ M hs (xI (fRows v 0 (enc l)))) 0 0 X) 0 0 4 [some (xR o), some (xI v), some (xI acc), some (xI (k : Int))] [] κ M hs := by
    intro n
    induction n with
    | zero => intro k acc h1 h2; omega
    | succ n ih =>
      intro k acc h1 h2 hF
      refine x_iload_n (pc := 4) hX rfl rfl dX0_rowsOf_4 ?_
      refine x_aload_n (pc := 5) hX rfl rfl dX0_rowsOf_5 ?_
      refine x_getI (pc := 6) hX fl_X0_18 hK.1 rfl hl.1 dX0_rowsOf_6 ?_
      refine x_icmp_ge (pc := 9) (tgt := 37) hX dX0_rowsOf_9 (by decide) (by omega) (fun h9 => ?_) (fun h9 => ?_)
      · refine x_iload_n (pc := 37) hX rfl rfl dX0_rowsOf_37 ?_
        refine x_iret (pc := 38) hX rfl (Nat.zero_le _) (Nat.zero_le _) dX0_rowsOf_38 ?_
        exact pP_i (congrArg xI (by rw [← hF, ru_end _ (by omega)]; rfl))
      · have hk2 : k < (enc l).length := by omega
        have hm := hC.mem hk2
        refine x_aload_n (pc := 12) hX rfl rfl dX0_rowsOf_12 ?_
        refine x_getR (pc := 13) hX fl_X0_9 hK.1 rfl dX0_rowsOf_13 ?_
        refine x_iload_n (pc := 16) hX rfl rfl dX0_rowsOf_16 ?_
        refine x_iald (pc := 17) (j := k) hX hK.2.1 (by omega) (by omega) (by decide) hm.1 dX0_rowsOf_17 ?_
        refine x_iload_n (pc := 18) hX rfl rfl dX0_rowsOf_18 ?_
        refine x_icmp_ne (pc := 19) (tgt := 31) hX dX0_rowsOf_19 (by decide) (by omega) (fun h19 => ?_) (fun h19 => ?_)
        · refine x_iinc (pc := 31) (v := ((k + 1 : Nat) : Int)) hX dX0_rowsOf_31 rfl (by decide) rfl (by omega) rfl ?_
          refine x_goto (pc := 34) (tgt := 4) hX dX0_rowsOf_34 (by decide) ?_
          first
          | exact ih (k + 1) _ (by omega) (by omega) (by rw [← hF, ru_drop hk2, fRows, if_pos (show ((rv (enc l) k : Nat) : Int) = v by omega)])
          | exact ih (k + 1) _ (by omega) (by omega) (by rw [← hF, ru_drop hk2, fRows, if_neg (show ¬ ((rv (enc l) k : Nat) : Int) = v by omega)])
        · refine x_iload_n (pc := 22) hX rfl rfl dX0_rowsOf_22 ?_
          refine x_aload_n (pc := 23) hX rfl rfl dX0_rowsOf_23 ?_
          refine x_getR (pc := 24) hX fl_X0_15 hK.1 rfl dX0_rowsOf_24 ?_
          refine x_iload_n (pc := 27) hX rfl rfl dX0_rowsOf_27 ?_
          refine x_iald (pc := 28) (j := k) hX hK.2.2 (by omega) (by omega) (by decide) hm.2.1 dX0_rowsOf_28 ?_
          refine x_iadd (pc := 29) hX dX0_rowsOf_29 rfl ?_
          refine x_istore_n (pc := 30) hX rfl (by decide) rfl rfl dX0_rowsOf_30 ?_
          refine x_iinc (pc := 31) (v := ((k + 1 : Nat) : Int)) hX dX0_rowsOf_31 rfl (by decide) rfl (by omega) rfl ?_
          refine x_goto (pc := 34) (tgt := 4) hX dX0_rowsOf_34 (by decide) ?_
          first
          | exact ih (k + 1) _ (by omega) (by omega) (by rw [← hF, ru_drop hk2, fRows, if_pos (show ((rv (enc l) k : Nat) : Int) = v by omega)])
          | exact ih (k + 1) _ (by omega) (by omega) (by rw [← hF, ru_drop hk2, fRows, if_neg (show ¬ ((rv (enc l) k : Nat) : Int) = v by omega)])
  refine x_iconst (pc := 0) hX dX0_rowsOf_0 ?_
  refine x_istore_n (pc := 1) hX rfl (by decide) rfl rfl dX0_rowsOf_1 ?_
  refine x_iconst (pc := 2) hX dX0_rowsOf_2 ?_
  refine x_istore_n (pc := 3) hX rfl (by decide) rfl rfl dX0_rowsOf_3 ?_
  exact loop ((enc l).length + 1) 0 0 (by omega) (by omega) rfl

set_option maxHeartbeats 4000000 in
set_option maxRecDepth 100000 in
theorem tX0_runsOf {G : XG} {κ : XKs} {M : XM} {hs o : Nat} {l : List Nat} (hK : KCol κ hs o) (hC : Col M o l) (v : Int) (hv : InR v) : XC G mX0_runsOf 0 0 0 [xR o, xI v] κ M hs (pP κ M hs (xI (fRuns v 0 (enc l)))) := by
  refine XC.intro cdX0_runsOf (by decide) (by decide) (Nat.le_of_ble_eq_true rfl) (loc := [some (xR o), some (xI v), none, none]) rfl (fun X hX => ?_)
  unfold InR at hv
  have hl := hC.len
  have loop : ∀ (n k : Nat) (acc : Int), k ≤ (enc l).length → (enc l).length < k + n → fRuns v acc ((enc l).drop k) = fRuns v 0 (enc l) → XW G X mX0_runsOf (xq G (pP κ M hs (xI (fRuns v 0 (enc l)))) 0 0 X) 0 0 4 [some (xR o), some (xI v), some (xI acc), some (xI (k : Int))] [] κ M hs := by
    intro n
    induction n with
    | zero => intro k acc h1 h2; omega
    | succ n ih =>
      intro k acc h1 h2 hF
      refine x_iload_n (pc := 4) hX rfl rfl dX0_runsOf_4 ?_
      refine x_aload_n (pc := 5) hX rfl rfl dX0_runsOf_5 ?_
      refine x_getI (pc := 6) hX fl_X0_18 hK.1 rfl hl.1 dX0_runsOf_6 ?_
      refine x_icmp_ge (pc := 9) (tgt := 31) hX dX0_runsOf_9 (by decide) (by omega) (fun h9 => ?_) (fun h9 => ?_)
      · refine x_iload_n (pc := 31) hX rfl rfl dX0_runsOf_31 ?_
        refine x_iret (pc := 32) hX rfl (Nat.zero_le _) (Nat.zero_le _) dX0_runsOf_32 ?_
        exact pP_i (congrArg xI (by rw [← hF, ru_end _ (by omega)]; rfl))
      · have hk2 : k < (enc l).length := by omega
        have hm := hC.mem hk2
        refine x_aload_n (pc := 12) hX rfl rfl dX0_runsOf_12 ?_
        refine x_getR (pc := 13) hX fl_X0_9 hK.1 rfl dX0_runsOf_13 ?_
        refine x_iload_n (pc := 16) hX rfl rfl dX0_runsOf_16 ?_
        refine x_iald (pc := 17) (j := k) hX hK.2.1 (by omega) (by omega) (by decide) hm.1 dX0_runsOf_17 ?_
        refine x_iload_n (pc := 18) hX rfl rfl dX0_runsOf_18 ?_
        refine x_icmp_ne (pc := 19) (tgt := 25) hX dX0_runsOf_19 (by decide) (by omega) (fun h19 => ?_) (fun h19 => ?_)
        · refine x_iinc (pc := 25) (v := ((k + 1 : Nat) : Int)) hX dX0_runsOf_25 rfl (by decide) rfl (by omega) rfl ?_
          refine x_goto (pc := 28) (tgt := 4) hX dX0_runsOf_28 (by decide) ?_
          first
          | exact ih (k + 1) _ (by omega) (by omega) (by rw [← hF, ru_drop hk2, fRuns, if_pos (show ((rv (enc l) k : Nat) : Int) = v by omega)])
          | exact ih (k + 1) _ (by omega) (by omega) (by rw [← hF, ru_drop hk2, fRuns, if_neg (show ¬ ((rv (enc l) k : Nat) : Int) = v by omega)])
        · refine x_iinc (pc := 22) hX dX0_runsOf_22 rfl (by decide) rfl rfl rfl ?_
          refine x_iinc (pc := 25) (v := ((k + 1 : Nat) : Int)) hX dX0_runsOf_25 rfl (by decide) rfl (by omega) rfl ?_
          refine x_goto (pc := 28) (tgt := 4) hX dX0_runsOf_28 (by decide) ?_
          first
          | exact ih (k + 1) _ (by omega) (by omega) (by rw [← hF, ru_drop hk2, fRuns, if_pos (show ((rv (enc l) k : Nat) : Int) = v by omega)])
          | exact ih (k + 1) _ (by omega) (by omega) (by rw [← hF, ru_drop hk2, fRuns, if_neg (show ¬ ((rv (enc l) k : Nat) : Int) = v by omega)])
  refine x_iconst (pc := 0) hX dX0_runsOf_0 ?_
  refine x_istore_n (pc := 1) hX rfl (by decide) rfl rfl dX0_runsOf_1 ?_
  refine x_iconst (pc := 2) hX dX0_runsOf_2 ?_
  refine x_istore_n (pc := 3) hX rfl (by decide) rfl rfl dX0_runsOf_3 ?_
  exact loop ((enc l).length + 1) 0 0 (by omega) (by omega) rfl

set_option maxHeartbeats 4000000 in
set_option maxRecDepth 100000 in
theorem tX0_sum {G : XG} {κ : XKs} {M : XM} {hs o : Nat} {l : List Nat} (hK : KCol κ hs o) (hC : Col M o l) : XC G mX0_sum 0 0 0 [xR o] κ M hs (pP κ M hs (xI (fSum  0 (enc l)))) := by
  refine XC.intro cdX0_sum (by decide) (by decide) (Nat.le_of_ble_eq_true rfl) (loc := [some (xR o), none, none]) rfl (fun X hX => ?_)
  have hl := hC.len
  have loop : ∀ (n k : Nat) (acc : Int), k ≤ (enc l).length → (enc l).length < k + n → fSum  acc ((enc l).drop k) = fSum  0 (enc l) → XW G X mX0_sum (xq G (pP κ M hs (xI (fSum  0 (enc l)))) 0 0 X) 0 0 4 [some (xR o), some (xI acc), some (xI (k : Int))] [] κ M hs := by
    intro n
    induction n with
    | zero => intro k acc h1 h2; omega
    | succ n ih =>
      intro k acc h1 h2 hF
      refine x_iload_n (pc := 4) hX rfl rfl dX0_sum_4 ?_
      refine x_aload_n (pc := 5) hX rfl rfl dX0_sum_5 ?_
      refine x_getI (pc := 6) hX fl_X0_18 hK.1 rfl hl.1 dX0_sum_6 ?_
      refine x_icmp_ge (pc := 9) (tgt := 34) hX dX0_sum_9 (by decide) (by omega) (fun h9 => ?_) (fun h9 => ?_)
      · refine x_iload_n (pc := 34) hX rfl rfl dX0_sum_34 ?_
        refine x_iret (pc := 35) hX rfl (Nat.zero_le _) (Nat.zero_le _) dX0_sum_35 ?_
        exact pP_i (congrArg xI (by rw [← hF, ru_end _ (by omega)]; rfl))
      · have hk2 : k < (enc l).length := by omega
        have hm := hC.mem hk2
        refine x_iload_n (pc := 12) hX rfl rfl dX0_sum_12 ?_
        refine x_aload_n (pc := 13) hX rfl rfl dX0_sum_13 ?_
        refine x_getR (pc := 14) hX fl_X0_9 hK.1 rfl dX0_sum_14 ?_
        refine x_iload_n (pc := 17) hX rfl rfl dX0_sum_17 ?_
        refine x_iald (pc := 18) (j := k) hX hK.2.1 (by omega) (by omega) (by decide) hm.1 dX0_sum_18 ?_
        refine x_aload_n (pc := 19) hX rfl rfl dX0_sum_19 ?_
        refine x_getR (pc := 20) hX fl_X0_15 hK.1 rfl dX0_sum_20 ?_
        refine x_iload_n (pc := 23) hX rfl rfl dX0_sum_23 ?_
        refine x_iald (pc := 24) (j := k) hX hK.2.2 (by omega) (by omega) (by decide) hm.2.1 dX0_sum_24 ?_
        refine x_imul (pc := 25) hX dX0_sum_25 rfl ?_
        refine x_iadd (pc := 26) hX dX0_sum_26 rfl ?_
        refine x_istore_n (pc := 27) hX rfl (by decide) rfl rfl dX0_sum_27 ?_
        refine x_iinc (pc := 28) (v := ((k + 1 : Nat) : Int)) hX dX0_sum_28 rfl (by decide) rfl (by omega) rfl ?_
        refine x_goto (pc := 31) (tgt := 4) hX dX0_sum_31 (by decide) ?_
        first
        | exact ih (k + 1) _ (by omega) (by omega) (by rw [← hF, ru_drop hk2, fSum])
  refine x_iconst (pc := 0) hX dX0_sum_0 ?_
  refine x_istore_n (pc := 1) hX rfl (by decide) rfl rfl dX0_sum_1 ?_
  refine x_iconst (pc := 2) hX dX0_sum_2 ?_
  refine x_istore_n (pc := 3) hX rfl (by decide) rfl rfl dX0_sum_3 ?_
  exact loop ((enc l).length + 1) 0 0 (by omega) (by omega) rfl

set_option maxHeartbeats 4000000 in
set_option maxRecDepth 100000 in
theorem tX0_valueSet {G : XG} {κ : XKs} {M : XM} {hs o : Nat} {l : List Nat} (hK : KCol κ hs o) (hC : Col M o l) : XC G mX0_valueSet 0 0 0 [xR o] κ M hs (pP κ M hs (xI (fSet  0 (enc l) : Nat))) := by
  refine XC.intro cdX0_valueSet (by decide) (by decide) (Nat.le_of_ble_eq_true rfl) (loc := [some (xR o), none, none]) rfl (fun X hX => ?_)
  have hl := hC.len
  have loop : ∀ (n k : Nat) (acc : Nat), k ≤ (enc l).length → (enc l).length < k + n → fSet  acc ((enc l).drop k) = fSet  0 (enc l) → XW G X mX0_valueSet (xq G (pP κ M hs (xI (fSet  0 (enc l) : Nat))) 0 0 X) 0 0 4 [some (xR o), some (xI (acc : Int)), some (xI (k : Int))] [] κ M hs := by
    intro n
    induction n with
    | zero => intro k acc h1 h2; omega
    | succ n ih =>
      intro k acc h1 h2 hF
      refine x_iload_n (pc := 4) hX rfl rfl dX0_valueSet_4 ?_
      refine x_aload_n (pc := 5) hX rfl rfl dX0_valueSet_5 ?_
      refine x_getI (pc := 6) hX fl_X0_18 hK.1 rfl hl.1 dX0_valueSet_6 ?_
      refine x_icmp_ge (pc := 9) (tgt := 29) hX dX0_valueSet_9 (by decide) (by omega) (fun h9 => ?_) (fun h9 => ?_)
      · refine x_iload_n (pc := 29) hX rfl rfl dX0_valueSet_29 ?_
        refine x_iret (pc := 30) hX rfl (Nat.zero_le _) (Nat.zero_le _) dX0_valueSet_30 ?_
        exact pP_i (congrArg xI (by rw [← hF, ru_end _ (by omega)]; rfl))
      · have hk2 : k < (enc l).length := by omega
        have hm := hC.mem hk2
        refine x_iload_n (pc := 12) hX rfl rfl dX0_valueSet_12 ?_
        refine x_iconst (pc := 13) hX dX0_valueSet_13 ?_
        refine x_aload_n (pc := 14) hX rfl rfl dX0_valueSet_14 ?_
        refine x_getR (pc := 15) hX fl_X0_9 hK.1 rfl dX0_valueSet_15 ?_
        refine x_iload_n (pc := 18) hX rfl rfl dX0_valueSet_18 ?_
        refine x_iald (pc := 19) (j := k) hX hK.2.1 (by omega) (by omega) (by decide) hm.1 dX0_valueSet_19 ?_
        refine x_ishl (pc := 20) (v := ((2 ^ rv (enc l) k : Nat) : Int)) hX dX0_valueSet_20 (xshl1 _ hm.2.2.1) ?_
        refine x_ior (pc := 21) (v := ((acc ||| 2 ^ rv (enc l) k : Nat) : Int)) hX dX0_valueSet_21 (xor2 _ _) ?_
        refine x_istore_n (pc := 22) hX rfl (by decide) rfl rfl dX0_valueSet_22 ?_
        refine x_iinc (pc := 23) (v := ((k + 1 : Nat) : Int)) hX dX0_valueSet_23 rfl (by decide) rfl (by omega) rfl ?_
        refine x_goto (pc := 26) (tgt := 4) hX dX0_valueSet_26 (by decide) ?_
        first
        | exact ih (k + 1) _ (by omega) (by omega) (by rw [← hF, ru_drop hk2, fSet])
  refine x_iconst (pc := 0) hX dX0_valueSet_0 ?_
  refine x_istore_n (pc := 1) hX rfl (by decide) rfl rfl dX0_valueSet_1 ?_
  refine x_iconst (pc := 2) hX dX0_valueSet_2 ?_
  refine x_istore_n (pc := 3) hX rfl (by decide) rfl rfl dX0_valueSet_3 ?_
  exact loop ((enc l).length + 1) 0 0 (by omega) (by omega) rfl

set_option maxHeartbeats 4000000 in
set_option maxRecDepth 100000 in
theorem tX0_longest {G : XG} {κ : XKs} {M : XM} {hs o : Nat} {l : List Nat} (hK : KCol κ hs o) (hC : Col M o l) : XC G mX0_longest 1 0 0 [xR o] κ M hs (pP κ M hs (xI (fLong  0 (enc l)))) := by
  refine XC.intro cdX0_longest (by decide) (by decide) (Nat.le_of_ble_eq_true rfl) (loc := [some (xR o), none, none]) rfl (fun X hX => ?_)
  have hl := hC.len
  have loop : ∀ (n k : Nat) (acc : Int), k ≤ (enc l).length → (enc l).length < k + n → 0 ≤ acc ∧ acc ≤ 999 → fLong  acc ((enc l).drop k) = fLong  0 (enc l) → XW G X mX0_longest (xq G (pP κ M hs (xI (fLong  0 (enc l)))) 0 0 X) 0 0 4 [some (xR o), some (xI acc), some (xI (k : Int))] [] κ M hs := by
    intro n
    induction n with
    | zero => intro k acc h1 h2; omega
    | succ n ih =>
      intro k acc h1 h2 h3 hF
      refine x_iload_n (pc := 4) hX rfl rfl dX0_longest_4 ?_
      refine x_aload_n (pc := 5) hX rfl rfl dX0_longest_5 ?_
      refine x_getI (pc := 6) hX fl_X0_18 hK.1 rfl hl.1 dX0_longest_6 ?_
      refine x_icmp_ge (pc := 9) (tgt := 29) hX dX0_longest_9 (by decide) (by omega) (fun h9 => ?_) (fun h9 => ?_)
      · refine x_iload_n (pc := 29) hX rfl rfl dX0_longest_29 ?_
        refine x_iret (pc := 30) hX rfl (Nat.zero_le _) (Nat.zero_le _) dX0_longest_30 ?_
        exact pP_i (congrArg xI (by rw [← hF, ru_end _ (by omega)]; rfl))
      · have hk2 : k < (enc l).length := by omega
        have hm := hC.mem hk2
        refine x_iload_n (pc := 12) hX rfl rfl dX0_longest_12 ?_
        refine x_aload_n (pc := 13) hX rfl rfl dX0_longest_13 ?_
        refine x_getR (pc := 14) hX fl_X0_15 hK.1 rfl dX0_longest_14 ?_
        refine x_iload_n (pc := 17) hX rfl rfl dX0_longest_17 ?_
        refine x_iald (pc := 18) (j := k) hX hK.2.2 (by omega) (by omega) (by decide) hm.2.1 dX0_longest_18 ?_
        refine x_max (pc := 19) hX lk_X0_36.1 (by omega) rfl (by decide) (Nat.zero_le _) (Nat.zero_le _) (Nat.le_of_ble_eq_true rfl) dX0_longest_19 ?_
        refine x_istore_n (pc := 22) hX rfl (by decide) rfl rfl dX0_longest_22 ?_
        refine x_iinc (pc := 23) (v := ((k + 1 : Nat) : Int)) hX dX0_longest_23 rfl (by decide) rfl (by omega) rfl ?_
        refine x_goto (pc := 26) (tgt := 4) hX dX0_longest_26 (by decide) ?_
        first
        | exact ih (k + 1) _ (by omega) (by omega) (by split <;> omega) (by rw [← hF, ru_drop hk2, fLong])
  refine x_iconst (pc := 0) hX dX0_longest_0 ?_
  refine x_istore_n (pc := 1) hX rfl (by decide) rfl rfl dX0_longest_1 ?_
  refine x_iconst (pc := 2) hX dX0_longest_2 ?_
  refine x_istore_n (pc := 3) hX rfl (by decide) rfl rfl dX0_longest_3 ?_
  exact loop ((enc l).length + 1) 0 0 (by omega) (by omega) (by omega) rfl

set_option maxHeartbeats 4000000 in
set_option maxRecDepth 100000 in
theorem tX0_longestOf {G : XG} {κ : XKs} {M : XM} {hs o : Nat} {l : List Nat} (hK : KCol κ hs o) (hC : Col M o l) (v : Int) (hv : InR v) : XC G mX0_longestOf 1 0 0 [xR o, xI v] κ M hs (pP κ M hs (xI (fLongOf v 0 (enc l)))) := by
  refine XC.intro cdX0_longestOf (by decide) (by decide) (Nat.le_of_ble_eq_true rfl) (loc := [some (xR o), some (xI v), none, none]) rfl (fun X hX => ?_)
  unfold InR at hv
  have hl := hC.len
  have loop : ∀ (n k : Nat) (acc : Int), k ≤ (enc l).length → (enc l).length < k + n → 0 ≤ acc ∧ acc ≤ 999 → fLongOf v acc ((enc l).drop k) = fLongOf v 0 (enc l) → XW G X mX0_longestOf (xq G (pP κ M hs (xI (fLongOf v 0 (enc l)))) 0 0 X) 0 0 4 [some (xR o), some (xI v), some (xI acc), some (xI (k : Int))] [] κ M hs := by
    intro n
    induction n with
    | zero => intro k acc h1 h2; omega
    | succ n ih =>
      intro k acc h1 h2 h3 hF
      refine x_iload_n (pc := 4) hX rfl rfl dX0_longestOf_4 ?_
      refine x_aload_n (pc := 5) hX rfl rfl dX0_longestOf_5 ?_
      refine x_getI (pc := 6) hX fl_X0_18 hK.1 rfl hl.1 dX0_longestOf_6 ?_
      refine x_icmp_ge (pc := 9) (tgt := 39) hX dX0_longestOf_9 (by decide) (by omega) (fun h9 => ?_) (fun h9 => ?_)
      · refine x_iload_n (pc := 39) hX rfl rfl dX0_longestOf_39 ?_
        refine x_iret (pc := 40) hX rfl (Nat.zero_le _) (Nat.zero_le _) dX0_longestOf_40 ?_
        exact pP_i (congrArg xI (by rw [← hF, ru_end _ (by omega)]; rfl))
      · have hk2 : k < (enc l).length := by omega
        have hm := hC.mem hk2
        refine x_aload_n (pc := 12) hX rfl rfl dX0_longestOf_12 ?_
        refine x_getR (pc := 13) hX fl_X0_9 hK.1 rfl dX0_longestOf_13 ?_
        refine x_iload_n (pc := 16) hX rfl rfl dX0_longestOf_16 ?_
        refine x_iald (pc := 17) (j := k) hX hK.2.1 (by omega) (by omega) (by decide) hm.1 dX0_longestOf_17 ?_
        refine x_iload_n (pc := 18) hX rfl rfl dX0_longestOf_18 ?_
        refine x_icmp_ne (pc := 19) (tgt := 33) hX dX0_longestOf_19 (by decide) (by omega) (fun h19 => ?_) (fun h19 => ?_)
        · refine x_iinc (pc := 33) (v := ((k + 1 : Nat) : Int)) hX dX0_longestOf_33 rfl (by decide) rfl (by omega) rfl ?_
          refine x_goto (pc := 36) (tgt := 4) hX dX0_longestOf_36 (by decide) ?_
          first
          | exact ih (k + 1) _ (by omega) (by omega) (by split <;> omega) (by rw [← hF, ru_drop hk2, fLongOf, if_pos (show ((rv (enc l) k : Nat) : Int) = v by omega)])
          | exact ih (k + 1) _ (by omega) (by omega) h3 (by rw [← hF, ru_drop hk2, fLongOf, if_neg (show ¬ ((rv (enc l) k : Nat) : Int) = v by omega)])
        · refine x_iload_n (pc := 22) hX rfl rfl dX0_longestOf_22 ?_
          refine x_aload_n (pc := 23) hX rfl rfl dX0_longestOf_23 ?_
          refine x_getR (pc := 24) hX fl_X0_15 hK.1 rfl dX0_longestOf_24 ?_
          refine x_iload_n (pc := 27) hX rfl rfl dX0_longestOf_27 ?_
          refine x_iald (pc := 28) (j := k) hX hK.2.2 (by omega) (by omega) (by decide) hm.2.1 dX0_longestOf_28 ?_
          refine x_max (pc := 29) hX lk_X0_36.1 (by omega) rfl (by decide) (Nat.zero_le _) (Nat.zero_le _) (Nat.le_of_ble_eq_true rfl) dX0_longestOf_29 ?_
          refine x_istore_n (pc := 32) hX rfl (by decide) rfl rfl dX0_longestOf_32 ?_
          refine x_iinc (pc := 33) (v := ((k + 1 : Nat) : Int)) hX dX0_longestOf_33 rfl (by decide) rfl (by omega) rfl ?_
          refine x_goto (pc := 36) (tgt := 4) hX dX0_longestOf_36 (by decide) ?_
          first
          | exact ih (k + 1) _ (by omega) (by omega) (by split <;> omega) (by rw [← hF, ru_drop hk2, fLongOf, if_pos (show ((rv (enc l) k : Nat) : Int) = v by omega)])
          | exact ih (k + 1) _ (by omega) (by omega) h3 (by rw [← hF, ru_drop hk2, fLongOf, if_neg (show ¬ ((rv (enc l) k : Nat) : Int) = v by omega)])
  refine x_iconst (pc := 0) hX dX0_longestOf_0 ?_
  refine x_istore_n (pc := 1) hX rfl (by decide) rfl rfl dX0_longestOf_1 ?_
  refine x_iconst (pc := 2) hX dX0_longestOf_2 ?_
  refine x_istore_n (pc := 3) hX rfl (by decide) rfl rfl dX0_longestOf_3 ?_
  exact loop ((enc l).length + 1) 0 0 (by omega) (by omega) (by omega) rfl

set_option maxHeartbeats 4000000 in
set_option maxRecDepth 100000 in
theorem tX0_neverFalls {G : XG} {κ : XKs} {M : XM} {hs o : Nat} {l : List Nat} (hK : KCol κ hs o) (hC : Col M o l) : XC G mX0_neverFalls 0 0 0 [xR o] κ M hs (pP κ M hs (xI (if nFall (enc l) = true then 1 else 0))) := by
  refine XC.intro cdX0_neverFalls (by decide) (by decide) (Nat.le_of_ble_eq_true rfl) (loc := [some (xR o), none]) rfl (fun X hX => ?_)
  have hl := hC.len
  have loop : ∀ (n k : Nat), k ≤ (enc l).length + 1 → (enc l).length + 1 < k + n → 1 ≤ k → nFall ((enc l).drop (k - 1)) = nFall (enc l) → XW G X mX0_neverFalls (xq G (pP κ M hs (xI (if nFall (enc l) = true then 1 else 0))) 0 0 X) 0 0 2 [some (xR o), some (xI (k : Int))] [] κ M hs := by
    intro n
    induction n with
    | zero => intro k  h1 h2; omega
    | succ n ih =>
      intro k  h1 h2 h3 hF
      refine x_iload_n (pc := 2) hX rfl rfl dX0_neverFalls_2 ?_
      refine x_aload_n (pc := 3) hX rfl rfl dX0_neverFalls_3 ?_
      refine x_getI (pc := 4) hX fl_X0_18 hK.1 rfl hl.1 dX0_neverFalls_4 ?_
      refine x_icmp_ge (pc := 7) (tgt := 35) hX dX0_neverFalls_7 (by decide) (by omega) (fun h7 => ?_) (fun h7 => ?_)
      · refine x_iconst (pc := 35) hX dX0_neverFalls_35 ?_
        refine x_zret (pc := 36) hX rfl (xn_bool (by omega)) (Nat.zero_le _) (Nat.zero_le _) dX0_neverFalls_36 ?_
        refine pP_i (congrArg xI ?_)
        rw [if_pos]
        rw [← hF]
        have e8 : ((enc l).drop (k - 1)).length ≤ 1 := by rw [List.length_drop]; omega
        match (enc l).drop (k - 1), e8 with
        | [], _ => rfl
        | [_], _ => rfl
      · have hk2 : k < (enc l).length := by omega
        have hm := hC.mem hk2
        have hk3 : k - 1 < (enc l).length := by omega
        have hm3 := hC.mem hk3
        have e9 := ru_drop hk3
        rw [show k - 1 + 1 = k by omega, ru_drop hk2] at e9
        refine x_aload_n (pc := 10) hX rfl rfl dX0_neverFalls_10 ?_
        refine x_getR (pc := 11) hX fl_X0_9 hK.1 rfl dX0_neverFalls_11 ?_
        refine x_iload_n (pc := 14) hX rfl rfl dX0_neverFalls_14 ?_
        refine x_iald (pc := 15) (j := k) hX hK.2.1 (by omega) (by omega) (by decide) hm.1 dX0_neverFalls_15 ?_
        refine x_aload_n (pc := 16) hX rfl rfl dX0_neverFalls_16 ?_
        refine x_getR (pc := 17) hX fl_X0_9 hK.1 rfl dX0_neverFalls_17 ?_
        refine x_iload_n (pc := 20) hX rfl rfl dX0_neverFalls_20 ?_
        refine x_iconst (pc := 21) hX dX0_neverFalls_21 ?_
        refine x_isub (pc := 22) (v := ((k - 1 : Nat) : Int)) hX dX0_neverFalls_22 (by omega) ?_
        refine x_iald (pc := 23) (j := k - 1) hX hK.2.1 (by omega) (by omega) (by decide) hm3.1 dX0_neverFalls_23 ?_
        refine x_icmp_ge (pc := 24) (tgt := 29) hX dX0_neverFalls_24 (by decide) (by omega) (fun h24 => ?_) (fun h24 => ?_)
        · refine x_iinc (pc := 29) (v := ((k + 1 : Nat) : Int)) hX dX0_neverFalls_29 rfl (by decide) rfl (by omega) rfl ?_
          refine x_goto (pc := 32) (tgt := 2) hX dX0_neverFalls_32 (by decide) ?_
          exact ih (k + 1) (by omega) (by omega) (by omega) (by rw [← hF, e9, nFall, if_neg (by show ¬ _ < _; omega), Nat.add_sub_cancel, ru_drop hk2])
        · refine x_iconst (pc := 27) hX dX0_neverFalls_27 ?_
          refine x_zret (pc := 28) hX rfl (xn_bool (by omega)) (Nat.zero_le _) (Nat.zero_le _) dX0_neverFalls_28 ?_
          have e7 : nFall (enc l) = false := by
            rw [← hF, e9, nFall]
            exact if_pos (show rv (enc l) k < rv (enc l) (k - 1) by omega)
          exact pP_i (congrArg xI (by rw [e7]; rfl))
  refine x_iconst (pc := 0) hX dX0_neverFalls_0 ?_
  refine x_istore_n (pc := 1) hX rfl (by decide) rfl rfl dX0_neverFalls_1 ?_
  exact loop ((enc l).length + 1) 1 (by omega) (by omega) (by omega) rfl

set_option maxHeartbeats 4000000 in
set_option maxRecDepth 100000 in
theorem tX0_neverRises {G : XG} {κ : XKs} {M : XM} {hs o : Nat} {l : List Nat} (hK : KCol κ hs o) (hC : Col M o l) : XC G mX0_neverRises 0 0 0 [xR o] κ M hs (pP κ M hs (xI (if nRise (enc l) = true then 1 else 0))) := by
  refine XC.intro cdX0_neverRises (by decide) (by decide) (Nat.le_of_ble_eq_true rfl) (loc := [some (xR o), none]) rfl (fun X hX => ?_)
  have hl := hC.len
  have loop : ∀ (n k : Nat), k ≤ (enc l).length + 1 → (enc l).length + 1 < k + n → 1 ≤ k → nRise ((enc l).drop (k - 1)) = nRise (enc l) → XW G X mX0_neverRises (xq G (pP κ M hs (xI (if nRise (enc l) = true then 1 else 0))) 0 0 X) 0 0 2 [some (xR o), some (xI (k : Int))] [] κ M hs := by
    intro n
    induction n with
    | zero => intro k  h1 h2; omega
    | succ n ih =>
      intro k  h1 h2 h3 hF
      refine x_iload_n (pc := 2) hX rfl rfl dX0_neverRises_2 ?_
      refine x_aload_n (pc := 3) hX rfl rfl dX0_neverRises_3 ?_
      refine x_getI (pc := 4) hX fl_X0_18 hK.1 rfl hl.1 dX0_neverRises_4 ?_
      refine x_icmp_ge (pc := 7) (tgt := 35) hX dX0_neverRises_7 (by decide) (by omega) (fun h7 => ?_) (fun h7 => ?_)
      · refine x_iconst (pc := 35) hX dX0_neverRises_35 ?_
        refine x_zret (pc := 36) hX rfl (xn_bool (by omega)) (Nat.zero_le _) (Nat.zero_le _) dX0_neverRises_36 ?_
        refine pP_i (congrArg xI ?_)
        rw [if_pos]
        rw [← hF]
        have e8 : ((enc l).drop (k - 1)).length ≤ 1 := by rw [List.length_drop]; omega
        match (enc l).drop (k - 1), e8 with
        | [], _ => rfl
        | [_], _ => rfl
      · have hk2 : k < (enc l).length := by omega
        have hm := hC.mem hk2
        have hk3 : k - 1 < (enc l).length := by omega
        have hm3 := hC.mem hk3
        have e9 := ru_drop hk3
        rw [show k - 1 + 1 = k by omega, ru_drop hk2] at e9
        refine x_aload_n (pc := 10) hX rfl rfl dX0_neverRises_10 ?_
        refine x_getR (pc := 11) hX fl_X0_9 hK.1 rfl dX0_neverRises_11 ?_
        refine x_iload_n (pc := 14) hX rfl rfl dX0_neverRises_14 ?_
        refine x_iald (pc := 15) (j := k) hX hK.2.1 (by omega) (by omega) (by decide) hm.1 dX0_neverRises_15 ?_
        refine x_aload_n (pc := 16) hX rfl rfl dX0_neverRises_16 ?_
        refine x_getR (pc := 17) hX fl_X0_9 hK.1 rfl dX0_neverRises_17 ?_
        refine x_iload_n (pc := 20) hX rfl rfl dX0_neverRises_20 ?_
        refine x_iconst (pc := 21) hX dX0_neverRises_21 ?_
        refine x_isub (pc := 22) (v := ((k - 1 : Nat) : Int)) hX dX0_neverRises_22 (by omega) ?_
        refine x_iald (pc := 23) (j := k - 1) hX hK.2.1 (by omega) (by omega) (by decide) hm3.1 dX0_neverRises_23 ?_
        refine x_icmp_le (pc := 24) (tgt := 29) hX dX0_neverRises_24 (by decide) (by omega) (fun h24 => ?_) (fun h24 => ?_)
        · refine x_iinc (pc := 29) (v := ((k + 1 : Nat) : Int)) hX dX0_neverRises_29 rfl (by decide) rfl (by omega) rfl ?_
          refine x_goto (pc := 32) (tgt := 2) hX dX0_neverRises_32 (by decide) ?_
          exact ih (k + 1) (by omega) (by omega) (by omega) (by rw [← hF, e9, nRise, if_neg (by show ¬ _ < _; omega), Nat.add_sub_cancel, ru_drop hk2])
        · refine x_iconst (pc := 27) hX dX0_neverRises_27 ?_
          refine x_zret (pc := 28) hX rfl (xn_bool (by omega)) (Nat.zero_le _) (Nat.zero_le _) dX0_neverRises_28 ?_
          have e7 : nRise (enc l) = false := by
            rw [← hF, e9, nRise]
            exact if_pos (show rv (enc l) (k - 1) < rv (enc l) k by omega)
          exact pP_i (congrArg xI (by rw [e7]; rfl))
  refine x_iconst (pc := 0) hX dX0_neverRises_0 ?_
  refine x_istore_n (pc := 1) hX rfl (by decide) rfl rfl dX0_neverRises_1 ?_
  exact loop ((enc l).length + 1) 1 (by omega) (by omega) (by omega) rfl

