/-! JoinedRuns: arguments, drafts -/
theorem u_toInt (x : Int32) : Int32.ofInt x.toInt = x := Int32.ofInt_toInt x
set_option maxHeartbeats 4000000 in
set_option maxRecDepth 100000 in
theorem tJ6_bitCount_0f7a4 {G : XG} {κ : XKs} {M : XM} {hs : Nat} (n : Nat) (hn : n < 1024) : XC G mJ6_bitCount_0f7a4 0 0 0 [xI (n : Int)] κ M hs (pP κ M hs (xI ((popT n 10 : Nat) : Int))) := by
  refine XC.intro cdJ6_bitCount_0f7a4 (by decide) (by decide) (Nat.le_of_ble_eq_true rfl) (loc := [some (xI (n : Int))]) rfl (fun X hX => ?_)
  refine x_iload_n (pc := 0) hX rfl rfl dJ6_bitCount_0f7a4_0 ?_
  refine x_iload_n (pc := 1) hX rfl rfl dJ6_bitCount_0f7a4_1 ?_
  refine x_iconst (pc := 2) hX dJ6_bitCount_0f7a4_2 ?_
  refine x_iushr (pc := 3) (v := (ush (Int32.ofInt (n : Int)) 1).toInt) hX dJ6_bitCount_0f7a4_3 (by first | (simp only [u_toInt]; done) | (simp only [u_toInt]; rfl)) ?_
  refine x_ldc_w (pc := 4) (v := 1431655765) hX tw_540 dJ6_bitCount_0f7a4_4 ?_
  refine x_iand (pc := 7) (v := (ush (Int32.ofInt (n : Int)) 1 &&& Int32.ofInt 1431655765).toInt) hX dJ6_bitCount_0f7a4_7 (by first | (simp only [u_toInt]; done) | (simp only [u_toInt]; rfl)) ?_
  refine x_isub (pc := 8) hX dJ6_bitCount_0f7a4_8 rfl ?_
  refine x_tn (b := ((bcA (Int32.ofInt (n : Int)))).toInt) (by first | (simp only [Int32.ofInt_sub, Int32.ofInt_add, u_toInt]; done) | (simp only [Int32.ofInt_sub, Int32.ofInt_add, u_toInt]; rfl)) ?_
  refine x_istore_n (pc := 9) hX rfl (by decide) rfl rfl dJ6_bitCount_0f7a4_9 ?_
  refine x_iload_n (pc := 10) hX rfl rfl dJ6_bitCount_0f7a4_10 ?_
  refine x_ldc_w (pc := 11) (v := 858993459) hX tw_541 dJ6_bitCount_0f7a4_11 ?_
  refine x_iand (pc := 14) (v := ((bcA (Int32.ofInt (n : Int))) &&& Int32.ofInt 858993459).toInt) hX dJ6_bitCount_0f7a4_14 (by first | (simp only [u_toInt]; done) | (simp only [u_toInt]; rfl)) ?_
  refine x_iload_n (pc := 15) hX rfl rfl dJ6_bitCount_0f7a4_15 ?_
  refine x_iconst (pc := 16) hX dJ6_bitCount_0f7a4_16 ?_
  refine x_iushr (pc := 17) (v := (ush (bcA (Int32.ofInt (n : Int))) 2).toInt) hX dJ6_bitCount_0f7a4_17 (by first | (simp only [u_toInt]; done) | (simp only [u_toInt]; rfl)) ?_
  refine x_ldc_w (pc := 18) (v := 858993459) hX tw_541 dJ6_bitCount_0f7a4_18 ?_
  refine x_iand (pc := 21) (v := (ush (bcA (Int32.ofInt (n : Int))) 2 &&& Int32.ofInt 858993459).toInt) hX dJ6_bitCount_0f7a4_21 (by first | (simp only [u_toInt]; done) | (simp only [u_toInt]; rfl)) ?_
  refine x_iadd (pc := 22) hX dJ6_bitCount_0f7a4_22 rfl ?_
  refine x_tn (b := ((bcB (bcA (Int32.ofInt (n : Int))))).toInt) (by first | (simp only [Int32.ofInt_sub, Int32.ofInt_add, u_toInt]; done) | (simp only [Int32.ofInt_sub, Int32.ofInt_add, u_toInt]; rfl)) ?_
  refine x_istore_n (pc := 23) hX rfl (by decide) rfl rfl dJ6_bitCount_0f7a4_23 ?_
  refine x_iload_n (pc := 24) hX rfl rfl dJ6_bitCount_0f7a4_24 ?_
  refine x_iload_n (pc := 25) hX rfl rfl dJ6_bitCount_0f7a4_25 ?_
  refine x_iconst (pc := 26) hX dJ6_bitCount_0f7a4_26 ?_
  refine x_iushr (pc := 27) (v := (ush (bcB (bcA (Int32.ofInt (n : Int)))) 4).toInt) hX dJ6_bitCount_0f7a4_27 (by first | (simp only [u_toInt]; done) | (simp only [u_toInt]; rfl)) ?_
  refine x_iadd (pc := 28) hX dJ6_bitCount_0f7a4_28 rfl ?_
  refine x_tn (b := ((bcB (bcA (Int32.ofInt (n : Int)))) + ush (bcB (bcA (Int32.ofInt (n : Int)))) 4).toInt) (by first | (simp only [Int32.ofInt_sub, Int32.ofInt_add, u_toInt]; done) | (simp only [Int32.ofInt_sub, Int32.ofInt_add, u_toInt]; rfl)) ?_
  refine x_ldc_w (pc := 29) (v := 252645135) hX tw_542 dJ6_bitCount_0f7a4_29 ?_
  refine x_iand (pc := 32) (v := ((bcC (bcB (bcA (Int32.ofInt (n : Int)))))).toInt) hX dJ6_bitCount_0f7a4_32 (by first | (simp only [u_toInt]; done) | (simp only [u_toInt]; rfl)) ?_
  refine x_istore_n (pc := 33) hX rfl (by decide) rfl rfl dJ6_bitCount_0f7a4_33 ?_
  refine x_iload_n (pc := 34) hX rfl rfl dJ6_bitCount_0f7a4_34 ?_
  refine x_iload_n (pc := 35) hX rfl rfl dJ6_bitCount_0f7a4_35 ?_
  refine x_bipush (pc := 36) hX (by decide) dJ6_bitCount_0f7a4_36 ?_
  refine x_iushr (pc := 38) (v := (ush (bcC (bcB (bcA (Int32.ofInt (n : Int))))) 8).toInt) hX dJ6_bitCount_0f7a4_38 (by first | (simp only [u_toInt]; done) | (simp only [u_toInt]; rfl)) ?_
  refine x_iadd (pc := 39) hX dJ6_bitCount_0f7a4_39 rfl ?_
  refine x_tn (b := ((bcD (bcC (bcB (bcA (Int32.ofInt (n : Int))))) 8)).toInt) (by first | (simp only [Int32.ofInt_sub, Int32.ofInt_add, u_toInt]; done) | (simp only [Int32.ofInt_sub, Int32.ofInt_add, u_toInt]; rfl)) ?_
  refine x_istore_n (pc := 40) hX rfl (by decide) rfl rfl dJ6_bitCount_0f7a4_40 ?_
  refine x_iload_n (pc := 41) hX rfl rfl dJ6_bitCount_0f7a4_41 ?_
  refine x_iload_n (pc := 42) hX rfl rfl dJ6_bitCount_0f7a4_42 ?_
  refine x_bipush (pc := 43) hX (by decide) dJ6_bitCount_0f7a4_43 ?_
  refine x_iushr (pc := 45) (v := (ush (bcD (bcC (bcB (bcA (Int32.ofInt (n : Int))))) 8) 16).toInt) hX dJ6_bitCount_0f7a4_45 (by first | (simp only [u_toInt]; done) | (simp only [u_toInt]; rfl)) ?_
  refine x_iadd (pc := 46) hX dJ6_bitCount_0f7a4_46 rfl ?_
  refine x_tn (b := ((bcD (bcD (bcC (bcB (bcA (Int32.ofInt (n : Int))))) 8) 16)).toInt) (by first | (simp only [Int32.ofInt_sub, Int32.ofInt_add, u_toInt]; done) | (simp only [Int32.ofInt_sub, Int32.ofInt_add, u_toInt]; rfl)) ?_
  refine x_istore_n (pc := 47) hX rfl (by decide) rfl rfl dJ6_bitCount_0f7a4_47 ?_
  refine x_iload_n (pc := 48) hX rfl rfl dJ6_bitCount_0f7a4_48 ?_
  refine x_bipush (pc := 49) hX (by decide) dJ6_bitCount_0f7a4_49 ?_
  refine x_iand (pc := 51) (v := (bitc (Int32.ofInt (n : Int))).toInt) hX dJ6_bitCount_0f7a4_51 (by first | (simp only [u_toInt]; done) | (simp only [u_toInt]; rfl)) ?_
  refine x_tn (b := ((popT n 10 : Nat) : Int)) (by rw [u_toInt]; exact bitc_pop n hn) ?_
  refine x_iret (pc := 52) hX rfl (Nat.zero_le _) (Nat.zero_le _) dJ6_bitCount_0f7a4_52 (pP_i rfl)

set_option maxHeartbeats 4000000 in
set_option maxRecDepth 100000 in
theorem tJ7_fill_53178 {G : XG} {κ : XKs} {M : XM} {hs o N : Nat} (hO : xO κ hs o (kA 0 N)) (hN : N ≤ 100) (v : Int) : XC G mJ7_fill_53178 0 0 0 [xR o, xI v] κ M hs (pV κ hs (fun M' => (∀ i, i < N → M' o i = v) ∧ Same o (o + 1) M M')) := by
  refine XC.intro cdJ7_fill_53178 (by decide) (by decide) (Nat.le_of_ble_eq_true rfl) (loc := [some (xR o), some (xI v), none, none]) rfl (fun X hX => ?_)
  have loop : ∀ (n k : Nat) (M1 : XM), k ≤ N → N < k + n → (∀ i, i < k → M1 o i = v) → Same o (o + 1) M M1 → XW G X mJ7_fill_53178 (xq G (pV κ hs (fun M' => (∀ i, i < N → M' o i = v) ∧ Same o (o + 1) M M')) 0 0 X) 0 0 5 [some (xR o), some (xI v), some (xI (k : Int)), some (xI (N : Int))] [] κ M1 hs := by
    intro n
    induction n with
    | zero => intro k M1 h1 h2; omega
    | succ n ih =>
      intro k M1 h1 h2 hv hS1
      refine x_iload_n (pc := 5) hX rfl rfl dJ7_fill_53178_5 ?_
      refine x_iload_n (pc := 6) hX rfl rfl dJ7_fill_53178_6 ?_
      refine x_icmp_ge (pc := 7) (tgt := 20) hX dJ7_fill_53178_7 (by decide) (by omega) (fun h7 => ?_) (fun h7 => ?_)
      · refine x_vret (pc := 20) hX rfl (Nat.zero_le _) (Nat.zero_le _) dJ7_fill_53178_20 ?_
        exact pV_i ⟨fun i hi => hv i (by omega), hS1⟩
      · have hk2 : k < N := by omega
        refine x_aload_n (pc := 10) hX rfl rfl dJ7_fill_53178_10 ?_
        refine x_iload_n (pc := 11) hX rfl rfl dJ7_fill_53178_11 ?_
        refine x_iload_n (pc := 12) hX rfl rfl dJ7_fill_53178_12 ?_
        refine x_iast (pc := 13) (j := k) hX hO (by omega) (by omega) (by omega) dJ7_fill_53178_13 ?_
        refine x_iinc (pc := 14) (v := ((k + 1 : Nat) : Int)) hX dJ7_fill_53178_14 rfl (by decide) rfl (by omega) rfl ?_
        refine x_goto (pc := 17) (tgt := 5) hX dJ7_fill_53178_17 (by decide) ?_
        refine ih (k + 1) _ (by omega) (by omega) (fun i hi => ?_) (hS1.tr (Same.put (Nat.le_refl _) (Nat.lt_succ_self _)))
        rw [mp_at]
        by_cases e : i = k
        · rw [if_pos ⟨rfl, e⟩]
        · rw [if_neg (fun z => e z.2)]; exact hv i (by omega)
  refine x_iconst (pc := 0) hX dJ7_fill_53178_0 ?_
  refine x_istore_n (pc := 1) hX rfl (by decide) rfl rfl dJ7_fill_53178_1 ?_
  refine x_aload_n (pc := 2) hX rfl rfl dJ7_fill_53178_2 ?_
  refine x_alen (pc := 3) hX hO (by decide) dJ7_fill_53178_3 ?_
  refine x_istore_n (pc := 4) hX rfl (by decide) rfl rfl dJ7_fill_53178_4 ?_
  exact loop (N + 1) 0 M (by omega) (by omega) (fun i hi => by omega) Same.rf

set_option maxHeartbeats 4000000 in
set_option maxRecDepth 100000 in
theorem tX6_isColumn {G : XG} {κ : XKs} {M : XM} {hs : Nat} (a : Int) (ha : InR a) : XC G mX6_isColumn 0 0 0 [xI a] κ M hs (pP κ M hs (xI (if 0 ≤ a ∧ a < 4 then 1 else 0))) := by
  refine XC.intro cdX6_isColumn (by decide) (by decide) (Nat.le_of_ble_eq_true rfl) (loc := [some (xI a)]) rfl (fun X hX => ?_)
  unfold InR at ha
  refine x_iload_n (pc := 0) hX rfl rfl dX6_isColumn_0 ?_
  refine x_if_lt (pc := 1) (tgt := 13) hX dX6_isColumn_1 (by decide) (by omega) (fun h1 => ?_) (fun h1 => ?_)
  · refine x_iconst (pc := 13) hX dX6_isColumn_13 ?_
    refine x_zret (pc := 14) hX rfl (xn_bool (by omega)) (Nat.zero_le _) (Nat.zero_le _) dX6_isColumn_14 ?_
    exact pP_i (by split <;> first | rfl | omega)
  · refine x_iload_n (pc := 4) hX rfl rfl dX6_isColumn_4 ?_
    refine x_iconst (pc := 5) hX dX6_isColumn_5 ?_
    refine x_icmp_ge (pc := 6) (tgt := 13) hX dX6_isColumn_6 (by decide) (by omega) (fun h6 => ?_) (fun h6 => ?_)
    · refine x_iconst (pc := 13) hX dX6_isColumn_13 ?_
      refine x_zret (pc := 14) hX rfl (xn_bool (by omega)) (Nat.zero_le _) (Nat.zero_le _) dX6_isColumn_14 ?_
      exact pP_i (by split <;> first | rfl | omega)
    · refine x_iconst (pc := 9) hX dX6_isColumn_9 ?_
      refine x_goto (pc := 10) (tgt := 14) hX dX6_isColumn_10 (by decide) ?_
      refine x_zret (pc := 14) hX rfl (xn_bool (by omega)) (Nat.zero_le _) (Nat.zero_le _) dX6_isColumn_14 ?_
      exact pP_i (by split <;> first | rfl | omega)

set_option maxHeartbeats 4000000 in
set_option maxRecDepth 100000 in
theorem tX6_isValue {G : XG} {κ : XKs} {M : XM} {hs : Nat} (a : Int) (ha : InR a) : XC G mX6_isValue 0 0 0 [xI a] κ M hs (pP κ M hs (xI (if 0 ≤ a ∧ a ≤ 9 then 1 else 0))) := by
  refine XC.intro cdX6_isValue (by decide) (by decide) (Nat.le_of_ble_eq_true rfl) (loc := [some (xI a)]) rfl (fun X hX => ?_)
  unfold InR at ha
  refine x_iload_n (pc := 0) hX rfl rfl dX6_isValue_0 ?_
  refine x_if_lt (pc := 1) (tgt := 14) hX dX6_isValue_1 (by decide) (by omega) (fun h1 => ?_) (fun h1 => ?_)
  · refine x_iconst (pc := 14) hX dX6_isValue_14 ?_
    refine x_zret (pc := 15) hX rfl (xn_bool (by omega)) (Nat.zero_le _) (Nat.zero_le _) dX6_isValue_15 ?_
    exact pP_i (by split <;> first | rfl | omega)
  · refine x_iload_n (pc := 4) hX rfl rfl dX6_isValue_4 ?_
    refine x_bipush (pc := 5) hX (by decide) dX6_isValue_5 ?_
    refine x_icmp_ge (pc := 7) (tgt := 14) hX dX6_isValue_7 (by decide) (by omega) (fun h7 => ?_) (fun h7 => ?_)
    · refine x_iconst (pc := 14) hX dX6_isValue_14 ?_
      refine x_zret (pc := 15) hX rfl (xn_bool (by omega)) (Nat.zero_le _) (Nat.zero_le _) dX6_isValue_15 ?_
      exact pP_i (by split <;> first | rfl | omega)
    · refine x_iconst (pc := 10) hX dX6_isValue_10 ?_
      refine x_goto (pc := 11) (tgt := 15) hX dX6_isValue_11 (by decide) ?_
      refine x_zret (pc := 15) hX rfl (xn_bool (by omega)) (Nat.zero_le _) (Nat.zero_le _) dX6_isValue_15 ?_
      exact pP_i (by split <;> first | rfl | omega)

set_option maxHeartbeats 4000000 in
set_option maxRecDepth 100000 in
theorem tX6_isLength {G : XG} {κ : XKs} {M : XM} {hs : Nat} (a : Int) (ha : InR a) : XC G mX6_isLength 0 0 0 [xI a] κ M hs (pP κ M hs (xI (if 1 ≤ a ∧ a ≤ 999 then 1 else 0))) := by
  refine XC.intro cdX6_isLength (by decide) (by decide) (Nat.le_of_ble_eq_true rfl) (loc := [some (xI a)]) rfl (fun X hX => ?_)
  unfold InR at ha
  refine x_iload_n (pc := 0) hX rfl rfl dX6_isLength_0 ?_
  refine x_iconst (pc := 1) hX dX6_isLength_1 ?_
  refine x_icmp_lt (pc := 2) (tgt := 16) hX dX6_isLength_2 (by decide) (by omega) (fun h2 => ?_) (fun h2 => ?_)
  · refine x_iconst (pc := 16) hX dX6_isLength_16 ?_
    refine x_zret (pc := 17) hX rfl (xn_bool (by omega)) (Nat.zero_le _) (Nat.zero_le _) dX6_isLength_17 ?_
    exact pP_i (by split <;> first | rfl | omega)
  · refine x_iload_n (pc := 5) hX rfl rfl dX6_isLength_5 ?_
    refine x_sipush (pc := 6) hX (by decide) dX6_isLength_6 ?_
    refine x_icmp_gt (pc := 9) (tgt := 16) hX dX6_isLength_9 (by decide) (by omega) (fun h9 => ?_) (fun h9 => ?_)
    · refine x_iconst (pc := 16) hX dX6_isLength_16 ?_
      refine x_zret (pc := 17) hX rfl (xn_bool (by omega)) (Nat.zero_le _) (Nat.zero_le _) dX6_isLength_17 ?_
      exact pP_i (by split <;> first | rfl | omega)
    · refine x_iconst (pc := 12) hX dX6_isLength_12 ?_
      refine x_goto (pc := 13) (tgt := 17) hX dX6_isLength_13 (by decide) ?_
      refine x_zret (pc := 17) hX rfl (xn_bool (by omega)) (Nat.zero_le _) (Nat.zero_le _) dX6_isLength_17 ?_
      exact pP_i (by split <;> first | rfl | omega)

set_option maxHeartbeats 4000000 in
set_option maxRecDepth 100000 in
theorem tX6_isSlot {G : XG} {κ : XKs} {M : XM} {hs : Nat} (a : Int) (ha : InR a) : XC G mX6_isSlot 0 0 0 [xI a] κ M hs (pP κ M hs (xI (if 0 ≤ a ∧ a < 2 then 1 else 0))) := by
  refine XC.intro cdX6_isSlot (by decide) (by decide) (Nat.le_of_ble_eq_true rfl) (loc := [some (xI a)]) rfl (fun X hX => ?_)
  unfold InR at ha
  refine x_iload_n (pc := 0) hX rfl rfl dX6_isSlot_0 ?_
  refine x_if_lt (pc := 1) (tgt := 13) hX dX6_isSlot_1 (by decide) (by omega) (fun h1 => ?_) (fun h1 => ?_)
  · refine x_iconst (pc := 13) hX dX6_isSlot_13 ?_
    refine x_zret (pc := 14) hX rfl (xn_bool (by omega)) (Nat.zero_le _) (Nat.zero_le _) dX6_isSlot_14 ?_
    exact pP_i (by split <;> first | rfl | omega)
  · refine x_iload_n (pc := 4) hX rfl rfl dX6_isSlot_4 ?_
    refine x_iconst (pc := 5) hX dX6_isSlot_5 ?_
    refine x_icmp_ge (pc := 6) (tgt := 13) hX dX6_isSlot_6 (by decide) (by omega) (fun h6 => ?_) (fun h6 => ?_)
    · refine x_iconst (pc := 13) hX dX6_isSlot_13 ?_
      refine x_zret (pc := 14) hX rfl (xn_bool (by omega)) (Nat.zero_le _) (Nat.zero_le _) dX6_isSlot_14 ?_
      exact pP_i (by split <;> first | rfl | omega)
    · refine x_iconst (pc := 9) hX dX6_isSlot_9 ?_
      refine x_goto (pc := 10) (tgt := 14) hX dX6_isSlot_10 (by decide) ?_
      refine x_zret (pc := 14) hX rfl (xn_bool (by omega)) (Nat.zero_le _) (Nat.zero_le _) dX6_isSlot_14 ?_
      exact pP_i (by split <;> first | rfl | omega)

set_option maxHeartbeats 4000000 in
set_option maxRecDepth 100000 in
theorem tX6_isRow {G : XG} {κ : XKs} {M : XM} {hs : Nat} (hK : KX κ hs) {S : Sx} (hS : RX M S) (c r : Int) (hc : InR c) (hr : InR r) : XC G mX6_isRow 1 0 0 [xR 0, xI c, xI r] κ M hs (pP κ M hs (xI (if (0 ≤ c ∧ c < 4) ∧ 0 ≤ r ∧ r < ((S.1 c.toNat).length : Int) then 1 else 0))) := by
  refine XC.intro cdX6_isRow (by decide) (by decide) (Nat.le_of_ble_eq_true rfl) (loc := [some (xR 0), some (xI c), some (xI r)]) rfl (fun X hX => ?_)
  unfold InR at hc hr
  refine x_iload_n (pc := 0) hX rfl rfl dX6_isRow_0 ?_
  refine x_cS_P (pc := 1) hX (tX6_isColumn c hc) lk_X6_92 rfl rfl (Nat.le_of_ble_eq_true rfl) (by decide) (Nat.zero_le _) (Nat.zero_le _) dX6_isRow_1 ?_
  by_cases hcc : 0 ≤ c ∧ c < 4
  · rw [if_pos hcc]
    have hcol := hS.ok (i := c.toNat) (by omega)
    have hln := hcol.len
    refine x_if_eq (pc := 4) (tgt := 30) hX dX6_isRow_4 (by decide) (by omega) (fun h4 => ?_) (fun h4 => ?_)
    · exfalso; omega
    · refine x_iload_n (pc := 7) hX rfl rfl dX6_isRow_7 ?_
      refine x_if_lt (pc := 8) (tgt := 30) hX dX6_isRow_8 (by decide) (by omega) (fun h8 => ?_) (fun h8 => ?_)
      · refine x_iconst (pc := 30) hX dX6_isRow_30 ?_
        refine x_zret (pc := 31) hX rfl (xn_bool (by omega)) (Nat.zero_le _) (Nat.zero_le _) dX6_isRow_31 ?_
        exact pP_i (congrArg xI (by first | rw [if_pos (by omega)] | rw [if_neg (by omega)]))
      · refine x_iload_n (pc := 11) hX rfl rfl dX6_isRow_11 ?_
        refine x_aload_n (pc := 12) hX rfl rfl dX6_isRow_12 ?_
        refine x_getR (pc := 13) hX fl_X6_12 hK.1 rfl dX6_isRow_13 ?_
        refine x_iload_n (pc := 16) hX rfl rfl dX6_isRow_16 ?_
        refine x_top (congrArg xI (show c = ((c.toNat : Nat) : Int) by omega)) ?_
        refine x_cV_P (pc := 17) hX (tX5_column hK.2.1 c.toNat (by omega)) hK.2.1.1 rfl lk_X6_64 rfl rfl (Nat.le_of_ble_eq_true rfl) (by decide) (Nat.zero_le _) (Nat.zero_le _) dX6_isRow_17 ?_
        refine x_top (congrArg xR (show 1 + 2 + 3 * c.toNat = 3 + 3 * c.toNat by omega)) ?_
        refine x_cV_P (pc := 20) hX (tX0_rows (hK.col (i := c.toNat) (by omega)) hcol) (hK.col (i := c.toNat) (by omega)).1 rfl lk_X6_68 rfl rfl (Nat.le_of_ble_eq_true rfl) (by decide) (Nat.zero_le _) (Nat.zero_le _) dX6_isRow_20 ?_
        refine x_icmp_ge (pc := 23) (tgt := 30) hX dX6_isRow_23 (by decide) (by omega) (fun h23 => ?_) (fun h23 => ?_)
        · refine x_iconst (pc := 30) hX dX6_isRow_30 ?_
          refine x_zret (pc := 31) hX rfl (xn_bool (by omega)) (Nat.zero_le _) (Nat.zero_le _) dX6_isRow_31 ?_
          exact pP_i (congrArg xI (by first | rw [if_pos (by omega)] | rw [if_neg (by omega)]))
        · refine x_iconst (pc := 26) hX dX6_isRow_26 ?_
          refine x_goto (pc := 27) (tgt := 31) hX dX6_isRow_27 (by decide) ?_
          refine x_zret (pc := 31) hX rfl (xn_bool (by omega)) (Nat.zero_le _) (Nat.zero_le _) dX6_isRow_31 ?_
          exact pP_i (congrArg xI (by first | rw [if_pos (by omega)] | rw [if_neg (by omega)]))
  · rw [if_neg hcc]
    refine x_if_eq (pc := 4) (tgt := 30) hX dX6_isRow_4 (by decide) (by omega) (fun h4 => ?_) (fun h4 => ?_)
    · refine x_iconst (pc := 30) hX dX6_isRow_30 ?_
      refine x_zret (pc := 31) hX rfl (xn_bool (by omega)) (Nat.zero_le _) (Nat.zero_le _) dX6_isRow_31 ?_
      exact pP_i (congrArg xI (by first | rw [if_pos (by omega)] | rw [if_neg (by omega)]))
    · exfalso; omega

set_option maxHeartbeats 4000000 in
set_option maxRecDepth 100000 in
theorem tX6_errorOfDraft {G : XG} {κ : XKs} {M : XM} {hs : Nat} (hK : KX κ hs) {l : List Nat} (hD : Dra M 103 l) : XC G mX6_errorOfDraft 1 0 0 [xR 0] κ M hs (pP κ M hs (xI (if M 103 4 = 1 then -4 else 0))) := by
  refine XC.intro cdX6_errorOfDraft (by decide) (by decide) (Nat.le_of_ble_eq_true rfl) (loc := [some (xR 0)]) rfl (fun X hX => ?_)
  have hb := hD.bit
  refine x_aload_n (pc := 0) hX rfl rfl dX6_errorOfDraft_0 ?_
  refine x_getR (pc := 1) hX fl_X6_34 hK.1 rfl dX6_errorOfDraft_1 ?_
  refine x_cV_P (pc := 4) hX (tX0_isOverfull hK.2.2.2.2.2.1 hD _ rfl hb) hK.2.2.2.2.2.1.1 rfl lk_X6_283 rfl rfl (Nat.le_of_ble_eq_true rfl) (by decide) (Nat.zero_le _) (Nat.zero_le _) dX6_errorOfDraft_4 ?_
  refine x_if_eq (pc := 7) (tgt := 15) hX dX6_errorOfDraft_7 (by decide) (by omega) (fun h7 => ?_) (fun h7 => ?_)
  · refine x_iconst (pc := 15) hX dX6_errorOfDraft_15 ?_
    refine x_iret (pc := 16) hX rfl (Nat.zero_le _) (Nat.zero_le _) dX6_errorOfDraft_16 ?_
    exact pP_i (congrArg xI (by first | rw [if_pos (by omega)] | rw [if_neg (by omega)]))
  · refine x_bipush (pc := 10) hX (by decide) dX6_errorOfDraft_10 ?_
    refine x_goto (pc := 12) (tgt := 16) hX dX6_errorOfDraft_12 (by decide) ?_
    refine x_iret (pc := 16) hX rfl (Nat.zero_le _) (Nat.zero_le _) dX6_errorOfDraft_16 ?_
    exact pP_i (congrArg xI (by first | rw [if_pos (by omega)] | rw [if_neg (by omega)]))

set_option maxHeartbeats 4000000 in
set_option maxRecDepth 100000 in
theorem tX6_recordAndTakeDraft {G : XG} {κ : XKs} {M : XM} {hs : Nat} (hK : KX κ hs) {S : Sx} (hS : RX M S) {l : List Nat} (hC : Col M 103 l) (c : Nat) (hc : c < 4) : XC G mX6_recordAndTakeDraft 4 0 0 [xR 0, xI (c : Int)] κ M hs (pV κ hs (fun M' => RX M' (upC S.1 c l, pushH S.2.1 S.1, S.2.2.1, S.2.2.2) ∧ Same 1 101 M M')) := by
  refine XC.intro cdX6_recordAndTakeDraft (by decide) (by decide) (Nat.le_of_ble_eq_true rfl) (loc := [some (xR 0), some (xI (c : Int))]) rfl (fun X hX => ?_)
  refine x_aload_n (pc := 0) hX rfl rfl dX6_recordAndTakeDraft_0 ?_
  refine x_getR (pc := 1) hX fl_X6_19 hK.1 rfl dX6_recordAndTakeDraft_1 ?_
  refine x_aload_n (pc := 4) hX rfl rfl dX6_recordAndTakeDraft_4 ?_
  refine x_getR (pc := 5) hX fl_X6_12 hK.1 rfl dX6_recordAndTakeDraft_5 ?_
  refine x_cV_V (pc := 8) hX (tX1_record hK.2.2.1 hK.2.1 (by decide) hS.2.1 hS.1) hK.2.2.1.1 rfl lk_X6_227 rfl rfl (Nat.le_of_ble_eq_true rfl) (by decide) (Nat.zero_le _) (Nat.zero_le _) dX6_recordAndTakeDraft_8 (fun M1 hp => ?_)
  obtain ⟨hH1, hq1⟩ := hp
  have hC1 := hC.same hq1 (by omega)
  refine x_aload_n (pc := 11) hX rfl rfl dX6_recordAndTakeDraft_11 ?_
  refine x_getR (pc := 12) hX fl_X6_12 hK.1 rfl dX6_recordAndTakeDraft_12 ?_
  refine x_iload_n (pc := 15) hX rfl rfl dX6_recordAndTakeDraft_15 ?_
  refine x_cV_P (pc := 16) hX (tX5_column hK.2.1 c hc) hK.2.1.1 rfl lk_X6_64 rfl rfl (Nat.le_of_ble_eq_true rfl) (by decide) (Nat.zero_le _) (Nat.zero_le _) dX6_recordAndTakeDraft_16 ?_
  refine x_aload_n (pc := 19) hX rfl rfl dX6_recordAndTakeDraft_19 ?_
  refine x_getR (pc := 20) hX fl_X6_34 hK.1 rfl dX6_recordAndTakeDraft_20 ?_
  have hKc := hK.2.1.2.2 c hc
  refine x_cV_V (pc := 23) hX (tX0_copyFrom hKc hK.2.2.2.2.2.1 (by omega) (Or.inl hC1.2.1)) hKc.1 rfl lk_X6_246 rfl rfl (Nat.le_of_ble_eq_true rfl) (by decide) (Nat.zero_le _) (Nat.zero_le _) dX6_recordAndTakeDraft_23 (fun M2 hp => ?_)
  refine x_vret (pc := 26) hX rfl (Nat.zero_le _) (Nat.zero_le _) dX6_recordAndTakeDraft_26 ?_
  have hq2 := hp.2.2
  have hSt1 : St M1 1 S.1 := hS.1.same hq1 (by omega)
  refine pV_i ⟨⟨hSt1.up hc hq2 (hp.col hC1), hH1.same hq2 (by omega), (hS.2.2.1.same hq1 (by omega)).same hq2 (by omega), (hS.2.2.2.same hq1 (by omega)).same hq2 (by omega)⟩, (hq1.mono (by omega) (by omega)).tr (hq2.mono (by omega) (by omega))⟩

set_option maxHeartbeats 4000000 in
set_option maxRecDepth 100000 in
theorem tX6_draftAppend {G : XG} {κ : XKs} {M : XM} {hs : Nat} (hK : KX κ hs) {S : Sx} (hS : RX M S) (c v n : Int) (hc : InR c) (hv : InR v) (hn : InR n) {res : Int ⊕ List Nat} (hres : dApp S.1 c v n = res) : XC G mX6_draftAppend 2 0 0 [xR 0, xI c, xI v, xI n] κ M hs (pI κ hs (fun a M' => DP M res a M')) := by
  refine XC.intro cdX6_draftAppend (by decide) (by decide) (Nat.le_of_ble_eq_true rfl) (loc := [some (xR 0), some (xI c), some (xI v), some (xI n)]) rfl (fun X hX => ?_)
  unfold InR at hc hv hn
  unfold dApp at hres
  refine x_iload_n (pc := 0) hX rfl rfl dX6_draftAppend_0 ?_
  refine x_cS_P (pc := 1) hX (tX6_isColumn c hc) lk_X6_92 rfl rfl (Nat.le_of_ble_eq_true rfl) (by decide) (Nat.zero_le _) (Nat.zero_le _) dX6_draftAppend_1 ?_
  by_cases hcc : 0 ≤ c ∧ c < 4
  · rw [if_pos hcc]
    rw [if_neg (fun z => z hcc)] at hres
    have hcol := hS.ok (i := c.toNat) (by omega)
    have hln := hcol.len
    have hKc := hK.col (i := c.toNat) (by omega)
    refine x_if_ne (pc := 4) (tgt := 9) hX dX6_draftAppend_4 (by decide) (by omega) (fun h4 => ?_) (fun h4 => ?_)
    · refine x_iload_n (pc := 9) hX rfl rfl dX6_draftAppend_9 ?_
      refine x_cS_P (pc := 10) hX (tX6_isValue v hv) lk_X6_119 rfl rfl (Nat.le_of_ble_eq_true rfl) (by decide) (Nat.zero_le _) (Nat.zero_le _) dX6_draftAppend_10 ?_
      by_cases hvv : 0 ≤ v ∧ v ≤ 9
      · rw [if_pos hvv]
        refine x_if_eq (pc := 13) (tgt := 23) hX dX6_draftAppend_13 (by decide) (by omega) (fun h13 => ?_) (fun h13 => ?_)
        · exfalso; omega
        · refine x_iload_n (pc := 16) hX rfl rfl dX6_draftAppend_16 ?_
          refine x_cS_P (pc := 17) hX (tX6_isLength n hn) lk_X6_243 rfl rfl (Nat.le_of_ble_eq_true rfl) (by decide) (Nat.zero_le _) (Nat.zero_le _) dX6_draftAppend_17 ?_
          by_cases hnn : 1 ≤ n ∧ n ≤ 999
          · rw [if_pos hnn]
            rw [if_neg (by omega)] at hres
            refine x_if_ne (pc := 20) (tgt := 26) hX dX6_draftAppend_20 (by decide) (by omega) (fun h20 => ?_) (fun h20 => ?_)
            · refine x_aload_n (pc := 26) hX rfl rfl dX6_draftAppend_26 ?_
              refine x_getR (pc := 27) hX fl_X6_34 hK.1 rfl dX6_draftAppend_27 ?_
              refine x_aload_n (pc := 30) hX rfl rfl dX6_draftAppend_30 ?_
              refine x_getR (pc := 31) hX fl_X6_12 hK.1 rfl dX6_draftAppend_31 ?_
              refine x_iload_n (pc := 34) hX rfl rfl dX6_draftAppend_34 ?_
              refine x_top (congrArg xI (show c = ((c.toNat : Nat) : Int) by omega)) ?_
              refine x_cV_P (pc := 35) hX (tX5_column hK.2.1 c.toNat (by omega)) hK.2.1.1 rfl lk_X6_64 rfl rfl (Nat.le_of_ble_eq_true rfl) (by decide) (Nat.zero_le _) (Nat.zero_le _) dX6_draftAppend_35 ?_
              refine x_top (congrArg xR (show 1 + 2 + 3 * c.toNat = 3 + 3 * c.toNat by omega)) ?_
              refine x_cV_V (pc := 38) hX (tX0_copyFrom hK.2.2.2.2.2.1 hKc (by omega) (Or.inl hcol.2.1)) hK.2.2.2.2.2.1.1 rfl lk_X6_246 rfl rfl (Nat.le_of_ble_eq_true rfl) (by decide) (Nat.zero_le _) (Nat.zero_le _) dX6_draftAppend_38 (fun M1 hp => ?_)
              have hD1 := (hp.col hcol).dra
              refine x_aload_n (pc := 41) hX rfl rfl dX6_draftAppend_41 ?_
              refine x_getR (pc := 42) hX fl_X6_34 hK.1 rfl dX6_draftAppend_42 ?_
              refine x_iload_n (pc := 45) hX rfl rfl dX6_draftAppend_45 ?_
              refine x_iload_n (pc := 46) hX rfl rfl dX6_draftAppend_46 ?_
              refine x_top2 (congrArg xI (show v = ((v.toNat : Nat) : Int) by omega)) ?_
              refine x_cV_V (pc := 47) hX (tX0_addRun hK.2.2.2.2.2.1 hD1 v.toNat (by omega) n hn) hK.2.2.2.2.2.1.1 rfl lk_X6_248 rfl rfl (Nat.le_of_ble_eq_true rfl) (by decide) (Nat.zero_le _) (Nat.zero_le _) dX6_draftAppend_47 (fun M2 hp2 => ?_)
              obtain ⟨hD2, hq2⟩ := hp2
              refine x_aload_n (pc := 50) hX rfl rfl dX6_draftAppend_50 ?_
              refine x_cV_P (pc := 51) hX (tX6_errorOfDraft hK hD2) hK.1 rfl lk_X6_252 rfl rfl (Nat.le_of_ble_eq_true rfl) (by decide) (Nat.zero_le _) (Nat.zero_le _) dX6_draftAppend_51 ?_
              refine x_iret (pc := 54) hX rfl (Nat.zero_le _) (Nat.zero_le _) dX6_draftAppend_54 ?_
              rcases dFin_eq hD2 with ⟨g1, g2⟩ | ⟨g1, g2, g3⟩
              · rw [if_pos g1]
                exact pI_i ⟨hp.2.2.tr hq2, fun e he => (by rw [← hres, g2] at he; cases he; rfl), fun l hl => (by rw [← hres, g2] at hl; cases hl)⟩
              · rw [if_neg (by omega)]
                exact pI_i ⟨hp.2.2.tr hq2, fun e he => (by rw [← hres, g2] at he; cases he), fun l hl => (by rw [← hres, g2] at hl; cases hl; exact ⟨rfl, g3⟩)⟩
            · exfalso; omega
          · rw [if_neg hnn]
            refine x_if_ne (pc := 20) (tgt := 26) hX dX6_draftAppend_20 (by decide) (by omega) (fun h20 => ?_) (fun h20 => ?_)
            · exfalso; omega
            · refine x_bipush (pc := 23) hX (by decide) dX6_draftAppend_23 ?_
              rw [if_pos (by omega)] at hres
              refine x_iret (pc := 25) hX rfl (Nat.zero_le _) (Nat.zero_le _) dX6_draftAppend_25 ?_
              exact pI_i ⟨Same.rf, fun e he => (by rw [← hres] at he; cases he; rfl), fun l hl => (by rw [← hres] at hl; cases hl)⟩
      · rw [if_neg hvv]
        refine x_if_eq (pc := 13) (tgt := 23) hX dX6_draftAppend_13 (by decide) (by omega) (fun h13 => ?_) (fun h13 => ?_)
        · refine x_bipush (pc := 23) hX (by decide) dX6_draftAppend_23 ?_
          rw [if_pos (by omega)] at hres
          refine x_iret (pc := 25) hX rfl (Nat.zero_le _) (Nat.zero_le _) dX6_draftAppend_25 ?_
          exact pI_i ⟨Same.rf, fun e he => (by rw [← hres] at he; cases he; rfl), fun l hl => (by rw [← hres] at hl; cases hl)⟩
        · exfalso; omega
    · exfalso; omega
  · rw [if_neg hcc]
    rw [if_pos hcc] at hres
    refine x_if_ne (pc := 4) (tgt := 9) hX dX6_draftAppend_4 (by decide) (by omega) (fun h4 => ?_) (fun h4 => ?_)
    · exfalso; omega
    · refine x_iconst (pc := 7) hX dX6_draftAppend_7 ?_
      refine x_iret (pc := 8) hX rfl (Nat.zero_le _) (Nat.zero_le _) dX6_draftAppend_8 ?_
      exact pI_i ⟨Same.rf, fun e he => (by rw [← hres] at he; cases he; rfl), fun l hl => (by rw [← hres] at hl; cases hl)⟩

set_option maxHeartbeats 4000000 in
set_option maxRecDepth 100000 in
theorem tX6_draftInsert {G : XG} {κ : XKs} {M : XM} {hs : Nat} (hK : KX κ hs) {S : Sx} (hS : RX M S) (c r v n : Int) (hc : InR c) (hr : InR r) (hv : InR v) (hn : InR n) {res : Int ⊕ List Nat} (hres : dIns S.1 c r v n = res) : XC G mX6_draftInsert 2 0 0 [xR 0, xI c, xI r, xI v, xI n] κ M hs (pI κ hs (fun a M' => DP M res a M')) := by
  refine XC.intro cdX6_draftInsert (by decide) (by decide) (Nat.le_of_ble_eq_true rfl) (loc := [some (xR 0), some (xI c), some (xI r), some (xI v), some (xI n), none]) rfl (fun X hX => ?_)
  unfold InR at hc hr hv hn
  unfold dIns at hres
  refine x_iload_n (pc := 0) hX rfl rfl dX6_draftInsert_0 ?_
  refine x_cS_P (pc := 1) hX (tX6_isColumn c hc) lk_X6_92 rfl rfl (Nat.le_of_ble_eq_true rfl) (by decide) (Nat.zero_le _) (Nat.zero_le _) dX6_draftInsert_1 ?_
  by_cases hcc : 0 ≤ c ∧ c < 4
  · rw [if_pos hcc]
    rw [if_neg (fun z => z hcc)] at hres
    have hcol := hS.ok (i := c.toNat) (by omega)
    have hln := hcol.len
    have hKc := hK.col (i := c.toNat) (by omega)
    refine x_if_ne (pc := 4) (tgt := 9) hX dX6_draftInsert_4 (by decide) (by omega) (fun h4 => ?_) (fun h4 => ?_)
    · refine x_aload_n (pc := 9) hX rfl rfl dX6_draftInsert_9 ?_
      refine x_getR (pc := 10) hX fl_X6_12 hK.1 rfl dX6_draftInsert_10 ?_
      refine x_iload_n (pc := 13) hX rfl rfl dX6_draftInsert_13 ?_
      refine x_top (congrArg xI (show c = ((c.toNat : Nat) : Int) by omega)) ?_
      refine x_cV_P (pc := 14) hX (tX5_column hK.2.1 c.toNat (by omega)) hK.2.1.1 rfl lk_X6_64 rfl rfl (Nat.le_of_ble_eq_true rfl) (by decide) (Nat.zero_le _) (Nat.zero_le _) dX6_draftInsert_14 ?_
      refine x_top (congrArg xR (show 1 + 2 + 3 * c.toNat = 3 + 3 * c.toNat by omega)) ?_
      refine x_astore (pc := 17) hX (by decide) rfl rfl dX6_draftInsert_17 ?_
      refine x_iload_n (pc := 19) hX rfl rfl dX6_draftInsert_19 ?_
      refine x_if_lt (pc := 20) (tgt := 47) hX dX6_draftInsert_20 (by decide) (by omega) (fun h20 => ?_) (fun h20 => ?_)
      · refine x_bipush (pc := 47) hX (by decide) dX6_draftInsert_47 ?_
        rw [if_pos (by omega)] at hres
        refine x_iret (pc := 49) hX rfl (Nat.zero_le _) (Nat.zero_le _) dX6_draftInsert_49 ?_
        exact pI_i ⟨Same.rf, fun e he => (by rw [← hres] at he; cases he; rfl), fun l hl => (by rw [← hres] at hl; cases hl)⟩
      · refine x_iload_n (pc := 23) hX rfl rfl dX6_draftInsert_23 ?_
        refine x_aload (pc := 24) hX rfl dX6_draftInsert_24 ?_
        refine x_cV_P (pc := 26) hX (tX0_rows hKc hcol) hKc.1 rfl lk_X6_68 rfl rfl (Nat.le_of_ble_eq_true rfl) (by decide) (Nat.zero_le _) (Nat.zero_le _) dX6_draftInsert_26 ?_
        refine x_icmp_gt (pc := 29) (tgt := 47) hX dX6_draftInsert_29 (by decide) (by omega) (fun h29 => ?_) (fun h29 => ?_)
        · refine x_bipush (pc := 47) hX (by decide) dX6_draftInsert_47 ?_
          rw [if_pos (by omega)] at hres
          refine x_iret (pc := 49) hX rfl (Nat.zero_le _) (Nat.zero_le _) dX6_draftInsert_49 ?_
          exact pI_i ⟨Same.rf, fun e he => (by rw [← hres] at he; cases he; rfl), fun l hl => (by rw [← hres] at hl; cases hl)⟩
        · refine x_iload_n (pc := 32) hX rfl rfl dX6_draftInsert_32 ?_
          refine x_cS_P (pc := 33) hX (tX6_isValue v hv) lk_X6_119 rfl rfl (Nat.le_of_ble_eq_true rfl) (by decide) (Nat.zero_le _) (Nat.zero_le _) dX6_draftInsert_33 ?_
          by_cases hvv : 0 ≤ v ∧ v ≤ 9
          · rw [if_pos hvv]
            refine x_if_eq (pc := 36) (tgt := 47) hX dX6_draftInsert_36 (by decide) (by omega) (fun h36 => ?_) (fun h36 => ?_)
            · exfalso; omega
            · refine x_iload (pc := 39) hX rfl dX6_draftInsert_39 ?_
              refine x_cS_P (pc := 41) hX (tX6_isLength n hn) lk_X6_243 rfl rfl (Nat.le_of_ble_eq_true rfl) (by decide) (Nat.zero_le _) (Nat.zero_le _) dX6_draftInsert_41 ?_
              by_cases hnn : 1 ≤ n ∧ n ≤ 999
              · rw [if_pos hnn]
                rw [if_neg (by omega)] at hres
                refine x_if_ne (pc := 44) (tgt := 50) hX dX6_draftInsert_44 (by decide) (by omega) (fun h44 => ?_) (fun h44 => ?_)
                · refine x_aload_n (pc := 50) hX rfl rfl dX6_draftInsert_50 ?_
                  refine x_getR (pc := 51) hX fl_X6_34 hK.1 rfl dX6_draftInsert_51 ?_
                  refine x_cV_V (pc := 54) hX (tX0_clear hK.2.2.2.2.2.1) hK.2.2.2.2.2.1.1 rfl lk_X6_96 rfl rfl (Nat.le_of_ble_eq_true rfl) (by decide) (Nat.zero_le _) (Nat.zero_le _) dX6_draftInsert_54 (fun M1 hp => ?_)
                  obtain ⟨hD1, hq1⟩ := hp
                  have hc1 := hcol.same hq1 (by omega)
                  refine x_aload_n (pc := 57) hX rfl rfl dX6_draftInsert_57 ?_
                  refine x_getR (pc := 58) hX fl_X6_34 hK.1 rfl dX6_draftInsert_58 ?_
                  refine x_aload (pc := 61) hX rfl dX6_draftInsert_61 ?_
                  refine x_iconst (pc := 63) hX dX6_draftInsert_63 ?_
                  refine x_iload_n (pc := 64) hX rfl rfl dX6_draftInsert_64 ?_
                  refine x_top (congrArg xI (show r = ((r.toNat : Nat) : Int) by omega)) ?_
                  refine x_cV_V (pc := 65) hX (tX0_addRows hK.2.2.2.2.2.1 hKc (by omega) hD1 hc1 0 r.toNat (by omega) (by omega)) hK.2.2.2.2.2.1.1 rfl lk_X6_255 rfl rfl (Nat.le_of_ble_eq_true rfl) (by decide) (Nat.zero_le _) (Nat.zero_le _) dX6_draftInsert_65 (fun M2 hp => ?_)
                  obtain ⟨hD2, hq2⟩ := hp
                  have hc2 := hc1.same hq2 (by omega)
                  refine x_aload_n (pc := 68) hX rfl rfl dX6_draftInsert_68 ?_
                  refine x_getR (pc := 69) hX fl_X6_34 hK.1 rfl dX6_draftInsert_69 ?_
                  refine x_iload_n (pc := 72) hX rfl rfl dX6_draftInsert_72 ?_
                  refine x_iload (pc := 73) hX rfl dX6_draftInsert_73 ?_
                  refine x_top2 (congrArg xI (show v = ((v.toNat : Nat) : Int) by omega)) ?_
                  refine x_cV_V (pc := 75) hX (tX0_addRun hK.2.2.2.2.2.1 hD2 v.toNat (by omega) n hn) hK.2.2.2.2.2.1.1 rfl lk_X6_248 rfl rfl (Nat.le_of_ble_eq_true rfl) (by decide) (Nat.zero_le _) (Nat.zero_le _) dX6_draftInsert_75 (fun M3 hp => ?_)
                  obtain ⟨hD3, hq3⟩ := hp
                  have hc3 := hc2.same hq3 (by omega)
                  refine x_aload_n (pc := 78) hX rfl rfl dX6_draftInsert_78 ?_
                  refine x_getR (pc := 79) hX fl_X6_34 hK.1 rfl dX6_draftInsert_79 ?_
                  refine x_aload (pc := 82) hX rfl dX6_draftInsert_82 ?_
                  refine x_iload_n (pc := 84) hX rfl rfl dX6_draftInsert_84 ?_
                  refine x_aload (pc := 85) hX rfl dX6_draftInsert_85 ?_
                  refine x_cV_P (pc := 87) hX (tX0_rows hKc hc3) hKc.1 rfl lk_X6_68 rfl rfl (Nat.le_of_ble_eq_true rfl) (by decide) (Nat.zero_le _) (Nat.zero_le _) dX6_draftInsert_87 ?_
                  refine x_top2 (congrArg xI (show r = ((r.toNat : Nat) : Int) by omega)) ?_
                  refine x_cV_V (pc := 90) hX (tX0_addRows hK.2.2.2.2.2.1 hKc (by omega) hD3 hc3 r.toNat (S.1 c.toNat).length (by omega) (by omega)) hK.2.2.2.2.2.1.1 rfl lk_X6_255 rfl rfl (Nat.le_of_ble_eq_true rfl) (by decide) (Nat.zero_le _) (Nat.zero_le _) dX6_draftInsert_90 (fun M4 hp => ?_)
                  obtain ⟨hD4, hq4⟩ := hp
                  have e9 : ([] ++ slice (S.1 c.toNat) 0 r.toNat ++ List.replicate n.toNat v.toNat) ++ slice (S.1 c.toNat) r.toNat (S.1 c.toNat).length = (S.1 c.toNat).take r.toNat ++ List.replicate n.toNat v.toNat ++ (S.1 c.toNat).drop r.toNat := by
                    unfold slice
                    rw [List.take_length, List.drop_zero, List.nil_append]
                  rw [e9] at hD4
                  refine x_aload_n (pc := 93) hX rfl rfl dX6_draftInsert_93 ?_
                  refine x_cV_P (pc := 94) hX (tX6_errorOfDraft hK hD4) hK.1 rfl lk_X6_252 rfl rfl (Nat.le_of_ble_eq_true rfl) (by decide) (Nat.zero_le _) (Nat.zero_le _) dX6_draftInsert_94 ?_
                  refine x_iret (pc := 97) hX rfl (Nat.zero_le _) (Nat.zero_le _) dX6_draftInsert_97 ?_
                  rcases dFin_eq hD4 with ⟨g1, g2⟩ | ⟨g1, g2, g3⟩
                  · rw [if_pos g1]
                    exact pI_i ⟨((hq1.tr hq2).tr hq3).tr hq4, fun e he => (by rw [← hres, g2] at he; cases he; rfl), fun l hl => (by rw [← hres, g2] at hl; cases hl)⟩
                  · rw [if_neg (by omega)]
                    exact pI_i ⟨((hq1.tr hq2).tr hq3).tr hq4, fun e he => (by rw [← hres, g2] at he; cases he), fun l hl => (by rw [← hres, g2] at hl; cases hl; exact ⟨rfl, g3⟩)⟩
                · exfalso; omega
              · rw [if_neg hnn]
                refine x_if_ne (pc := 44) (tgt := 50) hX dX6_draftInsert_44 (by decide) (by omega) (fun h44 => ?_) (fun h44 => ?_)
                · exfalso; omega
                · refine x_bipush (pc := 47) hX (by decide) dX6_draftInsert_47 ?_
                  rw [if_pos (by omega)] at hres
                  refine x_iret (pc := 49) hX rfl (Nat.zero_le _) (Nat.zero_le _) dX6_draftInsert_49 ?_
                  exact pI_i ⟨Same.rf, fun e he => (by rw [← hres] at he; cases he; rfl), fun l hl => (by rw [← hres] at hl; cases hl)⟩
          · rw [if_neg hvv]
            refine x_if_eq (pc := 36) (tgt := 47) hX dX6_draftInsert_36 (by decide) (by omega) (fun h36 => ?_) (fun h36 => ?_)
            · refine x_bipush (pc := 47) hX (by decide) dX6_draftInsert_47 ?_
              rw [if_pos (by omega)] at hres
              refine x_iret (pc := 49) hX rfl (Nat.zero_le _) (Nat.zero_le _) dX6_draftInsert_49 ?_
              exact pI_i ⟨Same.rf, fun e he => (by rw [← hres] at he; cases he; rfl), fun l hl => (by rw [← hres] at hl; cases hl)⟩
            · exfalso; omega
    · exfalso; omega
  · rw [if_neg hcc]
    rw [if_pos hcc] at hres
    refine x_if_ne (pc := 4) (tgt := 9) hX dX6_draftInsert_4 (by decide) (by omega) (fun h4 => ?_) (fun h4 => ?_)
    · exfalso; omega
    · refine x_iconst (pc := 7) hX dX6_draftInsert_7 ?_
      refine x_iret (pc := 8) hX rfl (Nat.zero_le _) (Nat.zero_le _) dX6_draftInsert_8 ?_
      exact pI_i ⟨Same.rf, fun e he => (by rw [← hres] at he; cases he; rfl), fun l hl => (by rw [← hres] at hl; cases hl)⟩

set_option maxHeartbeats 4000000 in
set_option maxRecDepth 100000 in
theorem tX6_draftRemove {G : XG} {κ : XKs} {M : XM} {hs : Nat} (hK : KX κ hs) {S : Sx} (hS : RX M S) (c r n : Int) (hc : InR c) (hr : InR r) (hn : InR n) {res : Int ⊕ List Nat} (hres : dRem S.1 c r n = res) : XC G mX6_draftRemove 2 0 0 [xR 0, xI c, xI r, xI n] κ M hs (pI κ hs (fun a M' => DP M res a M')) := by
  refine XC.intro cdX6_draftRemove (by decide) (by decide) (Nat.le_of_ble_eq_true rfl) (loc := [some (xR 0), some (xI c), some (xI r), some (xI n), none]) rfl (fun X hX => ?_)
  have hc0 := hc
  have hr0 := hr
  unfold InR at hc0 hr0 hn
  unfold dRem at hres
  refine x_aload_n (pc := 0) hX rfl rfl dX6_draftRemove_0 ?_
  refine x_iload_n (pc := 1) hX rfl rfl dX6_draftRemove_1 ?_
  refine x_iload_n (pc := 2) hX rfl rfl dX6_draftRemove_2 ?_
  refine x_cV_P (pc := 3) hX (tX6_isRow hK hS c r hc hr) hK.1 rfl lk_X6_115 rfl rfl (Nat.le_of_ble_eq_true rfl) (by decide) (Nat.zero_le _) (Nat.zero_le _) dX6_draftRemove_3 ?_
  by_cases hrr : (0 ≤ c ∧ c < 4) ∧ 0 ≤ r ∧ r < ((S.1 c.toNat).length : Int)
  · rw [if_pos hrr]
    rw [if_neg (fun z => z hrr)] at hres
    have hcol := hS.ok (i := c.toNat) (by omega)
    have hln := hcol.len
    have hKc := hK.col (i := c.toNat) (by omega)
    refine x_if_ne (pc := 6) (tgt := 11) hX dX6_draftRemove_6 (by decide) (by omega) (fun h6 => ?_) (fun h6 => ?_)
    · refine x_iload_n (pc := 11) hX rfl rfl dX6_draftRemove_11 ?_
      refine x_iconst (pc := 12) hX dX6_draftRemove_12 ?_
      refine x_icmp_ge (pc := 13) (tgt := 19) hX dX6_draftRemove_13 (by decide) (by omega) (fun h13 => ?_) (fun h13 => ?_)
      · rw [if_neg (by omega)] at hres
        refine x_aload_n (pc := 19) hX rfl rfl dX6_draftRemove_19 ?_
        refine x_getR (pc := 20) hX fl_X6_12 hK.1 rfl dX6_draftRemove_20 ?_
        refine x_iload_n (pc := 23) hX rfl rfl dX6_draftRemove_23 ?_
        refine x_top (congrArg xI (show c = ((c.toNat : Nat) : Int) by omega)) ?_
        refine x_cV_P (pc := 24) hX (tX5_column hK.2.1 c.toNat (by omega)) hK.2.1.1 rfl lk_X6_64 rfl rfl (Nat.le_of_ble_eq_true rfl) (by decide) (Nat.zero_le _) (Nat.zero_le _) dX6_draftRemove_24 ?_
        refine x_top (congrArg xR (show 1 + 2 + 3 * c.toNat = 3 + 3 * c.toNat by omega)) ?_
        refine x_astore (pc := 27) hX (by decide) rfl rfl dX6_draftRemove_27 ?_
        refine x_iload_n (pc := 29) hX rfl rfl dX6_draftRemove_29 ?_
        refine x_aload (pc := 30) hX rfl dX6_draftRemove_30 ?_
        refine x_cV_P (pc := 32) hX (tX0_rows hKc hcol) hKc.1 rfl lk_X6_68 rfl rfl (Nat.le_of_ble_eq_true rfl) (by decide) (Nat.zero_le _) (Nat.zero_le _) dX6_draftRemove_32 ?_
        refine x_iload_n (pc := 35) hX rfl rfl dX6_draftRemove_35 ?_
        refine x_isub (pc := 36) hX dX6_draftRemove_36 rfl ?_
        refine x_icmp_le (pc := 37) (tgt := 43) hX dX6_draftRemove_37 (by decide) (by omega) (fun h37 => ?_) (fun h37 => ?_)
        · rw [if_neg (by omega)] at hres
          refine x_aload_n (pc := 43) hX rfl rfl dX6_draftRemove_43 ?_
          refine x_getR (pc := 44) hX fl_X6_34 hK.1 rfl dX6_draftRemove_44 ?_
          refine x_cV_V (pc := 47) hX (tX0_clear hK.2.2.2.2.2.1) hK.2.2.2.2.2.1.1 rfl lk_X6_96 rfl rfl (Nat.le_of_ble_eq_true rfl) (by decide) (Nat.zero_le _) (Nat.zero_le _) dX6_draftRemove_47 (fun M1 hp => ?_)
          obtain ⟨hD1, hq1⟩ := hp
          have hc1 := hcol.same hq1 (by omega)
          refine x_aload_n (pc := 50) hX rfl rfl dX6_draftRemove_50 ?_
          refine x_getR (pc := 51) hX fl_X6_34 hK.1 rfl dX6_draftRemove_51 ?_
          refine x_aload (pc := 54) hX rfl dX6_draftRemove_54 ?_
          refine x_iconst (pc := 56) hX dX6_draftRemove_56 ?_
          refine x_iload_n (pc := 57) hX rfl rfl dX6_draftRemove_57 ?_
          refine x_top (congrArg xI (show r = ((r.toNat : Nat) : Int) by omega)) ?_
          refine x_cV_V (pc := 58) hX (tX0_addRows hK.2.2.2.2.2.1 hKc (by omega) hD1 hc1 0 r.toNat (by omega) (by omega)) hK.2.2.2.2.2.1.1 rfl lk_X6_255 rfl rfl (Nat.le_of_ble_eq_true rfl) (by decide) (Nat.zero_le _) (Nat.zero_le _) dX6_draftRemove_58 (fun M2 hp => ?_)
          obtain ⟨hD2, hq2⟩ := hp
          have hc2 := hc1.same hq2 (by omega)
          refine x_aload_n (pc := 61) hX rfl rfl dX6_draftRemove_61 ?_
          refine x_getR (pc := 62) hX fl_X6_34 hK.1 rfl dX6_draftRemove_62 ?_
          refine x_aload (pc := 65) hX rfl dX6_draftRemove_65 ?_
          refine x_iload_n (pc := 67) hX rfl rfl dX6_draftRemove_67 ?_
          refine x_iload_n (pc := 68) hX rfl rfl dX6_draftRemove_68 ?_
          refine x_iadd (pc := 69) (v := ((r.toNat + n.toNat : Nat) : Int)) hX dX6_draftRemove_69 (by omega) ?_
          refine x_aload (pc := 70) hX rfl dX6_draftRemove_70 ?_
          refine x_cV_P (pc := 72) hX (tX0_rows hKc hc2) hKc.1 rfl lk_X6_68 rfl rfl (Nat.le_of_ble_eq_true rfl) (by decide) (Nat.zero_le _) (Nat.zero_le _) dX6_draftRemove_72 ?_
          refine x_cV_V (pc := 75) hX (tX0_addRows hK.2.2.2.2.2.1 hKc (by omega) hD2 hc2 (r.toNat + n.toNat) (S.1 c.toNat).length (by omega) (by omega)) hK.2.2.2.2.2.1.1 rfl lk_X6_255 rfl rfl (Nat.le_of_ble_eq_true rfl) (by decide) (Nat.zero_le _) (Nat.zero_le _) dX6_draftRemove_75 (fun M3 hp => ?_)
          obtain ⟨hD3, hq3⟩ := hp
          have e9 : ([] ++ slice (S.1 c.toNat) 0 r.toNat) ++ slice (S.1 c.toNat) (r.toNat + n.toNat) (S.1 c.toNat).length = (S.1 c.toNat).take r.toNat ++ (S.1 c.toNat).drop (r.toNat + n.toNat) := by
            unfold slice
            rw [List.take_length, List.drop_zero, List.nil_append]
          rw [e9] at hD3
          have hfit := fit_rem hcol.2.2.1 r.toNat (r.toNat + n.toNat) (by omega)
          have hC3 := hD3.col hfit
          refine x_aload_n (pc := 78) hX rfl rfl dX6_draftRemove_78 ?_
          refine x_cV_P (pc := 79) hX (tX6_errorOfDraft hK hD3) hK.1 rfl lk_X6_252 rfl rfl (Nat.le_of_ble_eq_true rfl) (by decide) (Nat.zero_le _) (Nat.zero_le _) dX6_draftRemove_79 ?_
          have h4 := hC3.2.1
          refine x_iret (pc := 82) hX rfl (Nat.zero_le _) (Nat.zero_le _) dX6_draftRemove_82 ?_
          rw [if_neg (by omega)]
          exact pI_i ⟨(hq1.tr hq2).tr hq3, fun e he => (by rw [← hres] at he; cases he), fun l hl => (by rw [← hres] at hl; cases hl; exact ⟨rfl, hC3⟩)⟩
        · refine x_bipush (pc := 40) hX (by decide) dX6_draftRemove_40 ?_
          rw [if_pos (by omega)] at hres
          refine x_iret (pc := 42) hX rfl (Nat.zero_le _) (Nat.zero_le _) dX6_draftRemove_42 ?_
          exact pI_i ⟨Same.rf, fun e he => (by rw [← hres] at he; cases he; rfl), fun l hl => (by rw [← hres] at hl; cases hl)⟩
      · refine x_bipush (pc := 16) hX (by decide) dX6_draftRemove_16 ?_
        rw [if_pos (by omega)] at hres
        refine x_iret (pc := 18) hX rfl (Nat.zero_le _) (Nat.zero_le _) dX6_draftRemove_18 ?_
        exact pI_i ⟨Same.rf, fun e he => (by rw [← hres] at he; cases he; rfl), fun l hl => (by rw [← hres] at hl; cases hl)⟩
    · exfalso; omega
  · rw [if_neg hrr]
    rw [if_pos hrr] at hres
    refine x_if_ne (pc := 6) (tgt := 11) hX dX6_draftRemove_6 (by decide) (by omega) (fun h6 => ?_) (fun h6 => ?_)
    · exfalso; omega
    · refine x_iconst (pc := 9) hX dX6_draftRemove_9 ?_
      refine x_iret (pc := 10) hX rfl (Nat.zero_le _) (Nat.zero_le _) dX6_draftRemove_10 ?_
      exact pI_i ⟨Same.rf, fun e he => (by rw [← hres] at he; cases he; rfl), fun l hl => (by rw [← hres] at hl; cases hl)⟩

set_option maxHeartbeats 4000000 in
set_option maxRecDepth 100000 in
theorem tX6_draftSet {G : XG} {κ : XKs} {M : XM} {hs : Nat} (hK : KX κ hs) {S : Sx} (hS : RX M S) (c r v : Int) (hc : InR c) (hr : InR r) (hv : InR v) {res : Int ⊕ List Nat} (hres : dSet S.1 c r v = res) : XC G mX6_draftSet 2 0 0 [xR 0, xI c, xI r, xI v] κ M hs (pI κ hs (fun a M' => DP M res a M')) := by
  refine XC.intro cdX6_draftSet (by decide) (by decide) (Nat.le_of_ble_eq_true rfl) (loc := [some (xR 0), some (xI c), some (xI r), some (xI v), none]) rfl (fun X hX => ?_)
  have hc0 := hc
  have hr0 := hr
  unfold InR at hc0 hr0 hv
  unfold dSet at hres
  refine x_aload_n (pc := 0) hX rfl rfl dX6_draftSet_0 ?_
  refine x_iload_n (pc := 1) hX rfl rfl dX6_draftSet_1 ?_
  refine x_iload_n (pc := 2) hX rfl rfl dX6_draftSet_2 ?_
  refine x_cV_P (pc := 3) hX (tX6_isRow hK hS c r hc hr) hK.1 rfl lk_X6_115 rfl rfl (Nat.le_of_ble_eq_true rfl) (by decide) (Nat.zero_le _) (Nat.zero_le _) dX6_draftSet_3 ?_
  by_cases hrr : (0 ≤ c ∧ c < 4) ∧ 0 ≤ r ∧ r < ((S.1 c.toNat).length : Int)
  · rw [if_pos hrr]
    rw [if_neg (fun z => z hrr)] at hres
    have hcol := hS.ok (i := c.toNat) (by omega)
    have hln := hcol.len
    have hKc := hK.col (i := c.toNat) (by omega)
    refine x_if_ne (pc := 6) (tgt := 11) hX dX6_draftSet_6 (by decide) (by omega) (fun h6 => ?_) (fun h6 => ?_)
    · refine x_iload_n (pc := 11) hX rfl rfl dX6_draftSet_11 ?_
      refine x_cS_P (pc := 12) hX (tX6_isValue v hv) lk_X6_119 rfl rfl (Nat.le_of_ble_eq_true rfl) (by decide) (Nat.zero_le _) (Nat.zero_le _) dX6_draftSet_12 ?_
      by_cases hvv : 0 ≤ v ∧ v ≤ 9
      · rw [if_pos hvv]
        rw [if_neg (fun z => z hvv)] at hres
        refine x_if_ne (pc := 15) (tgt := 21) hX dX6_draftSet_15 (by decide) (by omega) (fun h15 => ?_) (fun h15 => ?_)
        · refine x_aload_n (pc := 21) hX rfl rfl dX6_draftSet_21 ?_
          refine x_getR (pc := 22) hX fl_X6_12 hK.1 rfl dX6_draftSet_22 ?_
          refine x_iload_n (pc := 25) hX rfl rfl dX6_draftSet_25 ?_
          refine x_top (congrArg xI (show c = ((c.toNat : Nat) : Int) by omega)) ?_
          refine x_cV_P (pc := 26) hX (tX5_column hK.2.1 c.toNat (by omega)) hK.2.1.1 rfl lk_X6_64 rfl rfl (Nat.le_of_ble_eq_true rfl) (by decide) (Nat.zero_le _) (Nat.zero_le _) dX6_draftSet_26 ?_
          refine x_top (congrArg xR (show 1 + 2 + 3 * c.toNat = 3 + 3 * c.toNat by omega)) ?_
          refine x_astore (pc := 29) hX (by decide) rfl rfl dX6_draftSet_29 ?_
          refine x_aload_n (pc := 31) hX rfl rfl dX6_draftSet_31 ?_
          refine x_getR (pc := 32) hX fl_X6_34 hK.1 rfl dX6_draftSet_32 ?_
          refine x_cV_V (pc := 35) hX (tX0_clear hK.2.2.2.2.2.1) hK.2.2.2.2.2.1.1 rfl lk_X6_96 rfl rfl (Nat.le_of_ble_eq_true rfl) (by decide) (Nat.zero_le _) (Nat.zero_le _) dX6_draftSet_35 (fun M1 hp => ?_)
          obtain ⟨hD1, hq1⟩ := hp
          have hc1 := hcol.same hq1 (by omega)
          refine x_aload_n (pc := 38) hX rfl rfl dX6_draftSet_38 ?_
          refine x_getR (pc := 39) hX fl_X6_34 hK.1 rfl dX6_draftSet_39 ?_
          refine x_aload (pc := 42) hX rfl dX6_draftSet_42 ?_
          refine x_iconst (pc := 44) hX dX6_draftSet_44 ?_
          refine x_iload_n (pc := 45) hX rfl rfl dX6_draftSet_45 ?_
          refine x_top (congrArg xI (show r = ((r.toNat : Nat) : Int) by omega)) ?_
          refine x_cV_V (pc := 46) hX (tX0_addRows hK.2.2.2.2.2.1 hKc (by omega) hD1 hc1 0 r.toNat (by omega) (by omega)) hK.2.2.2.2.2.1.1 rfl lk_X6_255 rfl rfl (Nat.le_of_ble_eq_true rfl) (by decide) (Nat.zero_le _) (Nat.zero_le _) dX6_draftSet_46 (fun M2 hp => ?_)
          obtain ⟨hD2, hq2⟩ := hp
          have hc2 := hc1.same hq2 (by omega)
          refine x_aload_n (pc := 49) hX rfl rfl dX6_draftSet_49 ?_
          refine x_getR (pc := 50) hX fl_X6_34 hK.1 rfl dX6_draftSet_50 ?_
          refine x_iload_n (pc := 53) hX rfl rfl dX6_draftSet_53 ?_
          refine x_iconst (pc := 54) hX dX6_draftSet_54 ?_
          refine x_top2 (congrArg xI (show v = ((v.toNat : Nat) : Int) by omega)) ?_
          refine x_cV_V (pc := 55) hX (tX0_addRun hK.2.2.2.2.2.1 hD2 v.toNat (by omega) 1 (by unfold InR; omega)) hK.2.2.2.2.2.1.1 rfl lk_X6_248 rfl rfl (Nat.le_of_ble_eq_true rfl) (by decide) (Nat.zero_le _) (Nat.zero_le _) dX6_draftSet_55 (fun M3 hp => ?_)
          obtain ⟨hD3, hq3⟩ := hp
          have hc3 := hc2.same hq3 (by omega)
          refine x_aload_n (pc := 58) hX rfl rfl dX6_draftSet_58 ?_
          refine x_getR (pc := 59) hX fl_X6_34 hK.1 rfl dX6_draftSet_59 ?_
          refine x_aload (pc := 62) hX rfl dX6_draftSet_62 ?_
          refine x_iload_n (pc := 64) hX rfl rfl dX6_draftSet_64 ?_
          refine x_iconst (pc := 65) hX dX6_draftSet_65 ?_
          refine x_iadd (pc := 66) (v := ((r.toNat + 1 : Nat) : Int)) hX dX6_draftSet_66 (by omega) ?_
          refine x_aload (pc := 67) hX rfl dX6_draftSet_67 ?_
          refine x_cV_P (pc := 69) hX (tX0_rows hKc hc3) hKc.1 rfl lk_X6_68 rfl rfl (Nat.le_of_ble_eq_true rfl) (by decide) (Nat.zero_le _) (Nat.zero_le _) dX6_draftSet_69 ?_
          refine x_cV_V (pc := 72) hX (tX0_addRows hK.2.2.2.2.2.1 hKc (by omega) hD3 hc3 (r.toNat + 1) (S.1 c.toNat).length (by omega) (by omega)) hK.2.2.2.2.2.1.1 rfl lk_X6_255 rfl rfl (Nat.le_of_ble_eq_true rfl) (by decide) (Nat.zero_le _) (Nat.zero_le _) dX6_draftSet_72 (fun M4 hp => ?_)
          obtain ⟨hD4, hq4⟩ := hp
          have e9 : ([] ++ slice (S.1 c.toNat) 0 r.toNat ++ List.replicate (1 : Int).toNat v.toNat) ++ slice (S.1 c.toNat) (r.toNat + 1) (S.1 c.toNat).length = (S.1 c.toNat).take r.toNat ++ [v.toNat] ++ (S.1 c.toNat).drop (r.toNat + 1) := by
            unfold slice
            rw [List.take_length, List.drop_zero, List.nil_append]
            rfl
          rw [e9] at hD4
          refine x_aload_n (pc := 75) hX rfl rfl dX6_draftSet_75 ?_
          refine x_cV_P (pc := 76) hX (tX6_errorOfDraft hK hD4) hK.1 rfl lk_X6_252 rfl rfl (Nat.le_of_ble_eq_true rfl) (by decide) (Nat.zero_le _) (Nat.zero_le _) dX6_draftSet_76 ?_
          refine x_iret (pc := 79) hX rfl (Nat.zero_le _) (Nat.zero_le _) dX6_draftSet_79 ?_
          rcases dFin_eq hD4 with ⟨g1, g2⟩ | ⟨g1, g2, g3⟩
          · rw [if_pos g1]
            exact pI_i ⟨((hq1.tr hq2).tr hq3).tr hq4, fun e he => (by rw [← hres, g2] at he; cases he; rfl), fun l hl => (by rw [← hres, g2] at hl; cases hl)⟩
          · rw [if_neg (by omega)]
            exact pI_i ⟨((hq1.tr hq2).tr hq3).tr hq4, fun e he => (by rw [← hres, g2] at he; cases he), fun l hl => (by rw [← hres, g2] at hl; cases hl; exact ⟨rfl, g3⟩)⟩
        · exfalso; omega
      · rw [if_neg hvv]
        rw [if_pos hvv] at hres
        refine x_if_ne (pc := 15) (tgt := 21) hX dX6_draftSet_15 (by decide) (by omega) (fun h15 => ?_) (fun h15 => ?_)
        · exfalso; omega
        · refine x_bipush (pc := 18) hX (by decide) dX6_draftSet_18 ?_
          refine x_iret (pc := 20) hX rfl (Nat.zero_le _) (Nat.zero_le _) dX6_draftSet_20 ?_
          exact pI_i ⟨Same.rf, fun e he => (by rw [← hres] at he; cases he; rfl), fun l hl => (by rw [← hres] at hl; cases hl)⟩
    · exfalso; omega
  · rw [if_neg hrr]
    rw [if_pos hrr] at hres
    refine x_if_ne (pc := 6) (tgt := 11) hX dX6_draftSet_6 (by decide) (by omega) (fun h6 => ?_) (fun h6 => ?_)
    · exfalso; omega
    · refine x_iconst (pc := 9) hX dX6_draftSet_9 ?_
      refine x_iret (pc := 10) hX rfl (Nat.zero_le _) (Nat.zero_le _) dX6_draftSet_10 ?_
      exact pI_i ⟨Same.rf, fun e he => (by rw [← hres] at he; cases he; rfl), fun l hl => (by rw [← hres] at hl; cases hl)⟩

set_option maxHeartbeats 4000000 in
set_option maxRecDepth 100000 in
theorem tX6_draftSort {G : XG} {κ : XKs} {M : XM} {hs : Nat} (hK : KX κ hs) {S : Sx} (hS : RX M S) (c : Int) (hc : InR c) {res : Int ⊕ List Nat} (hres : dSort S.1 c = res) : XC G mX6_draftSort 2 0 0 [xR 0, xI c] κ M hs (pI κ hs (fun a M' => DP M res a M')) := by
  refine XC.intro cdX6_draftSort (by decide) (by decide) (Nat.le_of_ble_eq_true rfl) (loc := [some (xR 0), some (xI c), none, none]) rfl (fun X hX => ?_)
  unfold InR at hc
  unfold dSort at hres
  refine x_iload_n (pc := 0) hX rfl rfl dX6_draftSort_0 ?_
  refine x_cS_P (pc := 1) hX (tX6_isColumn c hc) lk_X6_92 rfl rfl (Nat.le_of_ble_eq_true rfl) (by decide) (Nat.zero_le _) (Nat.zero_le _) dX6_draftSort_1 ?_
  by_cases hcc : 0 ≤ c ∧ c < 4
  · rw [if_pos hcc]
    rw [if_neg (fun z => z hcc)] at hres
    have hcol := hS.ok (i := c.toNat) (by omega)
    have hln := hcol.len
    have hKc := hK.col (i := c.toNat) (by omega)
    have loop : ∀ (n k : Nat) (M1 : XM), k ≤ 10 → 10 < k + n → Dra M1 103 (sortTo (S.1 c.toNat) k) → Same 103 106 M M1 → XW G X mX6_draftSort (xq G (pI κ hs (fun a M' => DP M res a M')) 0 0 X) 0 0 27 [some (xR 0), some (xI c), some (xR (3 + 3 * c.toNat)), some (xI (k : Int))] [] κ M1 hs := by
      intro n
      induction n with
      | zero => intro k M1 h1 h2; omega
      | succ n ih =>
        intro k M1 h1 h2 hD1 hS1
        refine x_iload_n (pc := 27) hX rfl rfl dX6_draftSort_27 ?_
        refine x_bipush (pc := 28) hX (by decide) dX6_draftSort_28 ?_
        refine x_icmp_ge (pc := 30) (tgt := 52) hX dX6_draftSort_30 (by decide) (by omega) (fun h30 => ?_) (fun h30 => ?_)
        · refine x_aload_n (pc := 52) hX rfl rfl dX6_draftSort_52 ?_
          have hk0 : k = 10 := by omega
          subst hk0
          refine x_cV_P (pc := 53) hX (tX6_errorOfDraft hK hD1) hK.1 rfl lk_X6_252 rfl rfl (Nat.le_of_ble_eq_true rfl) (by decide) (Nat.zero_le _) (Nat.zero_le _) dX6_draftSort_53 ?_
          have hC3 := hD1.col (fit_sort hcol.2.2)
          have h4 := hC3.2.1
          refine x_iret (pc := 56) hX rfl (Nat.zero_le _) (Nat.zero_le _) dX6_draftSort_56 ?_
          rw [if_neg (by omega)]
          exact pI_i ⟨hS1, fun e he => (by rw [← hres] at he; cases he), fun l hl => (by rw [← hres] at hl; cases hl; exact ⟨rfl, hC3⟩)⟩
        · have hk9 : k ≤ 9 := by omega
          have hc1 := hcol.same hS1 (by omega)
          refine x_aload_n (pc := 33) hX rfl rfl dX6_draftSort_33 ?_
          refine x_getR (pc := 34) hX fl_X6_34 hK.1 rfl dX6_draftSort_34 ?_
          refine x_iload_n (pc := 37) hX rfl rfl dX6_draftSort_37 ?_
          refine x_aload_n (pc := 38) hX rfl rfl dX6_draftSort_38 ?_
          refine x_iload_n (pc := 39) hX rfl rfl dX6_draftSort_39 ?_
          refine x_cV_P (pc := 40) hX (tX0_rowsOf hKc hc1 (k : Int) (by unfold InR; omega)) hKc.1 rfl lk_X6_142 rfl rfl (Nat.le_of_ble_eq_true rfl) (by decide) (Nat.zero_le _) (Nat.zero_le _) dX6_draftSort_40 ?_
          have hnn := fRows_rng hcol (k : Int)
          refine x_cV_V (pc := 43) hX (tX0_addRun hK.2.2.2.2.2.1 hD1 k hk9 _ (by unfold InR; omega)) hK.2.2.2.2.2.1.1 rfl lk_X6_248 rfl rfl (Nat.le_of_ble_eq_true rfl) (by decide) (Nat.zero_le _) (Nat.zero_le _) dX6_draftSort_43 (fun M2 hp => ?_)
          obtain ⟨hD2, hq2⟩ := hp
          refine x_iinc (pc := 46) (v := ((k + 1 : Nat) : Int)) hX dX6_draftSort_46 rfl (by decide) rfl (by omega) rfl ?_
          refine x_goto (pc := 49) (tgt := 27) hX dX6_draftSort_49 (by decide) ?_
          exact ih (k + 1) M2 (by omega) (by omega) hD2 (hS1.tr hq2)
    refine x_if_ne (pc := 4) (tgt := 9) hX dX6_draftSort_4 (by decide) (by omega) (fun h4 => ?_) (fun h4 => ?_)
    · refine x_aload_n (pc := 9) hX rfl rfl dX6_draftSort_9 ?_
      refine x_getR (pc := 10) hX fl_X6_12 hK.1 rfl dX6_draftSort_10 ?_
      refine x_iload_n (pc := 13) hX rfl rfl dX6_draftSort_13 ?_
      refine x_top (congrArg xI (show c = ((c.toNat : Nat) : Int) by omega)) ?_
      refine x_cV_P (pc := 14) hX (tX5_column hK.2.1 c.toNat (by omega)) hK.2.1.1 rfl lk_X6_64 rfl rfl (Nat.le_of_ble_eq_true rfl) (by decide) (Nat.zero_le _) (Nat.zero_le _) dX6_draftSort_14 ?_
      refine x_top (congrArg xR (show 1 + 2 + 3 * c.toNat = 3 + 3 * c.toNat by omega)) ?_
      refine x_astore_n (pc := 17) hX rfl (by decide) rfl rfl dX6_draftSort_17 ?_
      refine x_aload_n (pc := 18) hX rfl rfl dX6_draftSort_18 ?_
      refine x_getR (pc := 19) hX fl_X6_34 hK.1 rfl dX6_draftSort_19 ?_
      refine x_cV_V (pc := 22) hX (tX0_clear hK.2.2.2.2.2.1) hK.2.2.2.2.2.1.1 rfl lk_X6_96 rfl rfl (Nat.le_of_ble_eq_true rfl) (by decide) (Nat.zero_le _) (Nat.zero_le _) dX6_draftSort_22 (fun M1 hp => ?_)
      obtain ⟨hD1, hq1⟩ := hp
      refine x_iconst (pc := 25) hX dX6_draftSort_25 ?_
      refine x_istore_n (pc := 26) hX rfl (by decide) rfl rfl dX6_draftSort_26 ?_
      exact loop 11 0 M1 (by omega) (by omega) hD1 hq1
    · exfalso; omega
  · rw [if_neg hcc]
    rw [if_pos hcc] at hres
    refine x_if_ne (pc := 4) (tgt := 9) hX dX6_draftSort_4 (by decide) (by omega) (fun h4 => ?_) (fun h4 => ?_)
    · exfalso; omega
    · refine x_iconst (pc := 7) hX dX6_draftSort_7 ?_
      refine x_iret (pc := 8) hX rfl (Nat.zero_le _) (Nat.zero_le _) dX6_draftSort_8 ?_
      exact pI_i ⟨Same.rf, fun e he => (by rw [← hres] at he; cases he; rfl), fun l hl => (by rw [← hres] at hl; cases hl)⟩

