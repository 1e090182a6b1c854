/-! State and History -/
set_option maxHeartbeats 4000000 in
set_option maxRecDepth 100000 in
theorem tX5_column {G : XG} {κ : XKs} {M : XM} {hs o : Nat} (hK : KSt κ hs o) (i : Nat) (hi : i < 4) : XC G mX5_column 0 0 0 [xR o, xI (i : Int)] κ M hs (pP κ M hs (xR (o + 2 + 3 * i))) := by
  refine XC.intro cdX5_column (by decide) (by decide) (Nat.le_of_ble_eq_true rfl) (loc := [some (xR o), some (xI (i : Int))]) rfl (fun X hX => ?_)
  obtain ⟨g, hg, hgi⟩ := hK.2.1
  refine x_aload_n (pc := 0) hX rfl rfl dX5_column_0 ?_
  refine x_getR (pc := 1) hX fl_X5_11 hK.1 rfl dX5_column_1 ?_
  refine x_iload_n (pc := 4) hX rfl rfl dX5_column_4 ?_
  refine x_if_lt (pc := 5) (tgt := 17) hX dX5_column_5 (by decide) (by omega) (fun h5 => ?_) (fun h5 => ?_)
  · exfalso; omega
  · refine x_iload_n (pc := 8) hX rfl rfl dX5_column_8 ?_
    refine x_iconst (pc := 9) hX dX5_column_9 ?_
    refine x_icmp_ge (pc := 10) (tgt := 17) hX dX5_column_10 (by decide) (by omega) (fun h10 => ?_) (fun h10 => ?_)
    · exfalso; omega
    · refine x_iload_n (pc := 13) hX rfl rfl dX5_column_13 ?_
      refine x_goto (pc := 14) (tgt := 18) hX dX5_column_14 (by decide) ?_
      refine x_aald (pc := 18) (j := i) hX hg rfl (by omega) (by omega) (by decide) (hgi i hi) dX5_column_18 ?_
      refine x_aret (pc := 19) hX rfl (Nat.zero_le _) (Nat.zero_le _) dX5_column_19 (pP_i rfl)

set_option maxHeartbeats 4000000 in
set_option maxRecDepth 100000 in
theorem tX5_allRows {G : XG} {κ : XKs} {M : XM} {hs o : Nat} {cs : Cs} (hK : KSt κ hs o) (hT : St M o cs) : XC G mX5_allRows 1 0 0 [xR o] κ M hs (pP κ M hs (xI (sumTo (fun i => ((cs i).length : Int)) 4))) := by
  refine XC.intro cdX5_allRows (by decide) (by decide) (Nat.le_of_ble_eq_true rfl) (loc := [some (xR o), none, none]) rfl (fun X hX => ?_)
  obtain ⟨g, hg, hgi⟩ := hK.2.1
  have loop : ∀ (n k : Nat), k ≤ 4 → 4 < k + n → XW G X mX5_allRows (xq G (pP κ M hs (xI (sumTo (fun i => ((cs i).length : Int)) 4))) 0 0 X) 0 0 4 [some (xR o), some (xI (sumTo (fun i => ((cs i).length : Int)) k)), some (xI (k : Int))] [] κ M hs := by
    intro n
    induction n with
    | zero => intro k h1 h2; omega
    | succ n ih =>
      intro k h1 h2
      refine x_iload_n (pc := 4) hX rfl rfl dX5_allRows_4 ?_
      refine x_iconst (pc := 5) hX dX5_allRows_5 ?_
      refine x_icmp_ge (pc := 6) (tgt := 27) hX dX5_allRows_6 (by decide) (by omega) (fun h6 => ?_) (fun h6 => ?_)
      · refine x_iload_n (pc := 27) hX rfl rfl dX5_allRows_27 ?_
        refine x_iret (pc := 28) hX rfl (Nat.zero_le _) (Nat.zero_le _) dX5_allRows_28 ?_
        have hk4 : k = 4 := by omega
        subst hk4
        exact pP_i rfl
      · have hk4 : k < 4 := by omega
        refine x_iload_n (pc := 9) hX rfl rfl dX5_allRows_9 ?_
        refine x_aload_n (pc := 10) hX rfl rfl dX5_allRows_10 ?_
        refine x_getR (pc := 11) hX fl_X5_11 hK.1 rfl dX5_allRows_11 ?_
        refine x_iload_n (pc := 14) hX rfl rfl dX5_allRows_14 ?_
        refine x_aald (pc := 15) (j := k) hX hg rfl (by omega) (by omega) (by decide) (hgi k hk4) dX5_allRows_15 ?_
        refine x_cV_P (pc := 16) hX (tX0_rows (hK.2.2 k hk4) (hT k hk4)) (hK.2.2 k hk4).1 rfl lk_X5_18 rfl rfl (Nat.le_of_ble_eq_true rfl) (by decide) (Nat.zero_le _) (Nat.zero_le _) dX5_allRows_16 ?_
        refine x_iadd (pc := 19) (v := sumTo (fun i => ((cs i).length : Int)) (k + 1)) hX dX5_allRows_19 rfl ?_
        refine x_istore_n (pc := 20) hX rfl (by decide) rfl rfl dX5_allRows_20 ?_
        refine x_iinc (pc := 21) (v := ((k + 1 : Nat) : Int)) hX dX5_allRows_21 rfl (by decide) rfl (by omega) rfl ?_
        refine x_goto (pc := 24) (tgt := 4) hX dX5_allRows_24 (by decide) ?_
        exact ih (k + 1) (by omega) (by omega)
  refine x_iconst (pc := 0) hX dX5_allRows_0 ?_
  refine x_istore_n (pc := 1) hX rfl (by decide) rfl rfl dX5_allRows_1 ?_
  refine x_iconst (pc := 2) hX dX5_allRows_2 ?_
  refine x_istore_n (pc := 3) hX rfl (by decide) rfl rfl dX5_allRows_3 ?_
  exact loop 5 0 (by omega) (by omega)

set_option maxHeartbeats 4000000 in
set_option maxRecDepth 100000 in
theorem tX5_allRuns {G : XG} {κ : XKs} {M : XM} {hs o : Nat} {cs : Cs} (hK : KSt κ hs o) (hT : St M o cs) : XC G mX5_allRuns 1 0 0 [xR o] κ M hs (pP κ M hs (xI (sumTo (fun i => ((enc (cs i)).length : Int)) 4))) := by
  refine XC.intro cdX5_allRuns (by decide) (by decide) (Nat.le_of_ble_eq_true rfl) (loc := [some (xR o), none, none]) rfl (fun X hX => ?_)
  obtain ⟨g, hg, hgi⟩ := hK.2.1
  have loop : ∀ (n k : Nat), k ≤ 4 → 4 < k + n → XW G X mX5_allRuns (xq G (pP κ M hs (xI (sumTo (fun i => ((enc (cs i)).length : Int)) 4))) 0 0 X) 0 0 4 [some (xR o), some (xI (sumTo (fun i => ((enc (cs i)).length : Int)) k)), some (xI (k : Int))] [] κ M hs := by
    intro n
    induction n with
    | zero => intro k h1 h2; omega
    | succ n ih =>
      intro k h1 h2
      refine x_iload_n (pc := 4) hX rfl rfl dX5_allRuns_4 ?_
      refine x_iconst (pc := 5) hX dX5_allRuns_5 ?_
      refine x_icmp_ge (pc := 6) (tgt := 27) hX dX5_allRuns_6 (by decide) (by omega) (fun h6 => ?_) (fun h6 => ?_)
      · refine x_iload_n (pc := 27) hX rfl rfl dX5_allRuns_27 ?_
        refine x_iret (pc := 28) hX rfl (Nat.zero_le _) (Nat.zero_le _) dX5_allRuns_28 ?_
        have hk4 : k = 4 := by omega
        subst hk4
        exact pP_i rfl
      · have hk4 : k < 4 := by omega
        refine x_iload_n (pc := 9) hX rfl rfl dX5_allRuns_9 ?_
        refine x_aload_n (pc := 10) hX rfl rfl dX5_allRuns_10 ?_
        refine x_getR (pc := 11) hX fl_X5_11 hK.1 rfl dX5_allRuns_11 ?_
        refine x_iload_n (pc := 14) hX rfl rfl dX5_allRuns_14 ?_
        refine x_aald (pc := 15) (j := k) hX hg rfl (by omega) (by omega) (by decide) (hgi k hk4) dX5_allRuns_15 ?_
        refine x_cV_P (pc := 16) hX (tX0_runs (hK.2.2 k hk4) (hT k hk4)) (hK.2.2 k hk4).1 rfl lk_X5_22 rfl rfl (Nat.le_of_ble_eq_true rfl) (by decide) (Nat.zero_le _) (Nat.zero_le _) dX5_allRuns_16 ?_
        refine x_iadd (pc := 19) (v := sumTo (fun i => ((enc (cs i)).length : Int)) (k + 1)) hX dX5_allRuns_19 rfl ?_
        refine x_istore_n (pc := 20) hX rfl (by decide) rfl rfl dX5_allRuns_20 ?_
        refine x_iinc (pc := 21) (v := ((k + 1 : Nat) : Int)) hX dX5_allRuns_21 rfl (by decide) rfl (by omega) rfl ?_
        refine x_goto (pc := 24) (tgt := 4) hX dX5_allRuns_24 (by decide) ?_
        exact ih (k + 1) (by omega) (by omega)
  refine x_iconst (pc := 0) hX dX5_allRuns_0 ?_
  refine x_istore_n (pc := 1) hX rfl (by decide) rfl rfl dX5_allRuns_1 ?_
  refine x_iconst (pc := 2) hX dX5_allRuns_2 ?_
  refine x_istore_n (pc := 3) hX rfl (by decide) rfl rfl dX5_allRuns_3 ?_
  exact loop 5 0 (by omega) (by omega)

set_option maxHeartbeats 4000000 in
set_option maxRecDepth 100000 in
theorem tX5_copyFrom {G : XG} {κ : XKs} {M : XM} {hs o q : Nat} {cs : Cs} (hK : KSt κ hs o) (hK2 : KSt κ hs q) (hd : q + 14 ≤ o ∨ o + 14 ≤ q) (hT : St M q cs) : XC G mX5_copyFrom 2 0 0 [xR o, xR q] κ M hs (pV κ hs (fun M' => St M' o cs ∧ Same o (o + 14) M M')) := by
  refine XC.intro cdX5_copyFrom (by decide) (by decide) (Nat.le_of_ble_eq_true rfl) (loc := [some (xR o), some (xR q), none]) rfl (fun X hX => ?_)
  obtain ⟨g, hg, hgi⟩ := hK.2.1
  obtain ⟨g2, hg2, hgi2⟩ := hK2.2.1
  have loop : ∀ (n k : Nat) (M1 : XM), k ≤ 4 → 4 < k + n → (∀ i, i < k → Col M1 (o + 2 + 3 * i) (cs i)) → Same o (o + 14) M M1 → XW G X mX5_copyFrom (xq G (pV κ hs (fun M' => St M' o cs ∧ Same o (o + 14) M M')) 0 0 X) 0 0 2 [some (xR o), some (xR q), some (xI (k : Int))] [] κ M1 hs := by
    intro n
    induction n with
    | zero => intro k M1 h1 h2; omega
    | succ n ih =>
      intro k M1 h1 h2 hD hS1
      refine x_iload_n (pc := 2) hX rfl rfl dX5_copyFrom_2 ?_
      refine x_iconst (pc := 3) hX dX5_copyFrom_3 ?_
      refine x_icmp_ge (pc := 4) (tgt := 28) hX dX5_copyFrom_4 (by decide) (by omega) (fun h4 => ?_) (fun h4 => ?_)
      · refine x_vret (pc := 28) hX rfl (Nat.zero_le _) (Nat.zero_le _) dX5_copyFrom_28 ?_
        exact pV_i ⟨fun i hi => hD i (by omega), hS1⟩
      · have hk4 : k < 4 := by omega
        have hC1 := (hT k hk4).same hS1 (by omega)
        refine x_aload_n (pc := 7) hX rfl rfl dX5_copyFrom_7 ?_
        refine x_getR (pc := 8) hX fl_X5_11 hK.1 rfl dX5_copyFrom_8 ?_
        refine x_iload_n (pc := 11) hX rfl rfl dX5_copyFrom_11 ?_
        refine x_aald (pc := 12) (j := k) hX hg rfl (by omega) (by omega) (by decide) (hgi k hk4) dX5_copyFrom_12 ?_
        refine x_aload_n (pc := 13) hX rfl rfl dX5_copyFrom_13 ?_
        refine x_getR (pc := 14) hX fl_X5_11 hK2.1 rfl dX5_copyFrom_14 ?_
        refine x_iload_n (pc := 17) hX rfl rfl dX5_copyFrom_17 ?_
        refine x_aald (pc := 18) (j := k) hX hg2 rfl (by omega) (by omega) (by decide) (hgi2 k hk4) dX5_copyFrom_18 ?_
        refine x_cV_V (pc := 19) hX (tX0_copyFrom (hK.2.2 k hk4) (hK2.2.2 k hk4) (by omega) (Or.inl hC1.2.1)) (hK.2.2 k hk4).1 rfl lk_X5_25 rfl rfl (Nat.le_of_ble_eq_true rfl) (by decide) (Nat.zero_le _) (Nat.zero_le _) dX5_copyFrom_19 (fun M2 hp => ?_)
        refine x_iinc (pc := 22) (v := ((k + 1 : Nat) : Int)) hX dX5_copyFrom_22 rfl (by decide) rfl (by omega) rfl ?_
        refine x_goto (pc := 25) (tgt := 2) hX dX5_copyFrom_25 (by decide) ?_
        have hS2 : Same o (o + 14) M1 M2 := hp.2.2.mono (by omega) (by omega)
        refine ih (k + 1) M2 (by omega) (by omega) (fun i hi => ?_) (hS1.tr hS2)
        by_cases e : i = k
        · subst e
          exact hp.col hC1
        · exact (hD i (by omega)).same hp.2.2 (by omega)
  refine x_iconst (pc := 0) hX dX5_copyFrom_0 ?_
  refine x_istore_n (pc := 1) hX rfl (by decide) rfl rfl dX5_copyFrom_1 ?_
  exact loop 5 0 M (by omega) (by omega) (fun i hi => by omega) Same.rf

set_option maxHeartbeats 4000000 in
set_option maxRecDepth 100000 in
theorem tX1_kept {G : XG} {κ : XKs} {M : XM} {hs o : Nat} {h : List Cs} (hK : KHi κ hs o) (hT : Hi M o h) : XC G mX1_kept 0 0 0 [xR o] κ M hs (pP κ M hs (xI (h.length : Int))) := by
  refine XC.intro cdX1_kept (by decide) (by decide) (Nat.le_of_ble_eq_true rfl) (loc := [some (xR o)]) rfl (fun X hX => ?_)
  obtain ⟨old, h1, h2, h3, h4, h5⟩ := hT
  refine x_aload_n (pc := 0) hX rfl rfl dX1_kept_0 ?_
  refine x_getI (pc := 1) hX fl_X1_18 hK.1 rfl h3 dX1_kept_1 ?_
  refine x_iret (pc := 4) hX rfl (Nat.zero_le _) (Nat.zero_le _) dX1_kept_4 (pP_i rfl)

set_option maxHeartbeats 4000000 in
set_option maxRecDepth 100000 in
theorem tX1_record {G : XG} {κ : XKs} {M : XM} {hs o q : Nat} {h : List Cs} {cs : Cs} (hK : KHi κ hs o) (hK2 : KSt κ hs q) (hd : q + 14 ≤ o) (hT : Hi M o h) (hS : St M q cs) : XC G mX1_record 3 0 0 [xR o, xR q] κ M hs (pV κ hs (fun M' => Hi M' o (pushH h cs) ∧ Same o (o + 86) M M')) := by
  refine XC.intro cdX1_record (by decide) (by decide) (Nat.le_of_ble_eq_true rfl) (loc := [some (xR o), some (xR q)]) rfl (fun X hX => ?_)
  obtain ⟨g, hg, hgi⟩ := hK.2.1
  obtain ⟨old, h1, h2, h3, h4, h5⟩ := hT
  have hp6 := Nat.mod_lt (old + h.length) (show 0 < 6 by decide)
  refine x_aload_n (pc := 0) hX rfl rfl dX1_record_0 ?_
  refine x_getR (pc := 1) hX fl_X1_11 hK.1 rfl dX1_record_1 ?_
  refine x_aload_n (pc := 4) hX rfl rfl dX1_record_4 ?_
  refine x_getI (pc := 5) hX fl_X1_22 hK.1 rfl h2 dX1_record_5 ?_
  refine x_aload_n (pc := 8) hX rfl rfl dX1_record_8 ?_
  refine x_getI (pc := 9) hX fl_X1_18 hK.1 rfl h3 dX1_record_9 ?_
  refine x_iadd (pc := 12) (v := ((old + h.length : Nat) : Int)) hX dX1_record_12 (by omega) ?_
  refine x_bipush (pc := 13) hX (by decide) dX1_record_13 ?_
  refine x_irem (pc := 15) (v := (((old + h.length) % 6 : Nat) : Int)) hX dX1_record_15 (xrem6 _ (by omega)) (by decide) ?_
  refine x_aald (pc := 16) (j := (old + h.length) % 6) hX hg rfl (by omega) (by omega) (by decide) (hgi _ hp6) dX1_record_16 ?_
  refine x_aload_n (pc := 17) hX rfl rfl dX1_record_17 ?_
  refine x_cV_V (pc := 18) hX (tX5_copyFrom (hK.2.2 _ hp6) hK2 (by omega) hS) (hK.2.2 _ hp6).1 rfl lk_X1_25 rfl rfl (Nat.le_of_ble_eq_true rfl) (by decide) (Nat.zero_le _) (Nat.zero_le _) dX1_record_18 (fun M1 hp => ?_)
  obtain ⟨hS1, hq⟩ := hp
  have hoo : M1 o = M o := hq o (by omega)
  have hpu := Hi.push h1 h2 h3 h4 h5 hS1 hq
  have hq2 : Same o (o + 86) M M1 := hq.mono (by omega) (by omega)
  refine x_aload_n (pc := 21) hX rfl rfl dX1_record_21 ?_
  refine x_getI (pc := 22) (v := (h.length : Int)) hX fl_X1_18 hK.1 rfl (by rw [hoo]; exact h3) dX1_record_22 ?_
  refine x_bipush (pc := 25) hX (by decide) dX1_record_25 ?_
  refine x_icmp_ge (pc := 27) (tgt := 43) hX dX1_record_27 (by decide) (by omega) (fun h27 => ?_) (fun h27 => ?_)
  · refine x_aload_n (pc := 43) hX rfl rfl dX1_record_43 ?_
    refine x_aload_n (pc := 44) hX rfl rfl dX1_record_44 ?_
    refine x_getI (pc := 45) (v := (old : Int)) hX fl_X1_22 hK.1 rfl (by rw [hoo]; exact h2) dX1_record_45 ?_
    refine x_iconst (pc := 48) hX dX1_record_48 ?_
    refine x_iadd (pc := 49) (v := ((old + 1 : Nat) : Int)) hX dX1_record_49 (by omega) ?_
    refine x_bipush (pc := 50) hX (by decide) dX1_record_50 ?_
    refine x_irem (pc := 52) (v := (((old + 1) % 6 : Nat) : Int)) hX dX1_record_52 (xrem6 _ (by omega)) (by decide) ?_
    refine x_putI (pc := 53) hX fl_X1_22 hK.1 rfl rfl rfl dX1_record_53 ?_
    refine x_vret (pc := 56) hX rfl (Nat.zero_le _) (Nat.zero_le _) dX1_record_56 ?_
    exact pV_i ⟨hpu.2 (by omega), hq2.tr (Same.put (by omega) (by omega))⟩
  · refine x_aload_n (pc := 30) hX rfl rfl dX1_record_30 ?_
    refine x_dup (pc := 31) hX rfl dX1_record_31 ?_
    refine x_getI (pc := 32) (v := (h.length : Int)) hX fl_X1_18 hK.1 rfl (by rw [hoo]; exact h3) dX1_record_32 ?_
    refine x_iconst (pc := 35) hX dX1_record_35 ?_
    refine x_iadd (pc := 36) hX dX1_record_36 rfl ?_
    refine x_putI (pc := 37) hX fl_X1_18 hK.1 rfl rfl rfl dX1_record_37 ?_
    refine x_goto (pc := 40) (tgt := 56) hX dX1_record_40 (by decide) ?_
    refine x_vret (pc := 56) hX rfl (Nat.zero_le _) (Nat.zero_le _) dX1_record_56 ?_
    exact pV_i ⟨hpu.1 (by omega), hq2.tr (Same.put (by omega) (by omega))⟩

set_option maxHeartbeats 4000000 in
set_option maxRecDepth 100000 in
theorem tX1_takeBack {G : XG} {κ : XKs} {M : XM} {hs o q : Nat} {h : List Cs} {c : Cs} (hK : KHi κ hs o) (hK2 : KSt κ hs q) (hd : q + 14 ≤ o) (hT : Hi M o (h ++ [c])) : XC G mX1_takeBack 3 0 0 [xR o, xR q] κ M hs (pV κ hs (fun M' => St M' q c ∧ Hi M' o h ∧ (∀ a, a ≠ o → (a < q ∨ q + 14 ≤ a) → M' a = M a))) := by
  refine XC.intro cdX1_takeBack (by decide) (by decide) (Nat.le_of_ble_eq_true rfl) (loc := [some (xR o), some (xR q)]) rfl (fun X hX => ?_)
  obtain ⟨g, hg, hgi⟩ := hK.2.1
  obtain ⟨old, h1, h2, h3, h4, h5⟩ := id hT
  have hlen : (h ++ [c]).length = h.length + 1 := by simp
  have hp6 := Nat.mod_lt (old + h.length) (show 0 < 6 by decide)
  have h6 := h5 h.length (by omega)
  rw [List.getElem_append_right (Nat.le_refl _)] at h6
  have e9 : ∀ (j : Nat) (hj : j < [c].length), [c][j] = c := by
    intro j hj
    have : j = 0 := by simp at hj; exact hj
    subst this
    rfl
  rw [e9] at h6
  refine x_aload_n (pc := 0) hX rfl rfl dX1_takeBack_0 ?_
  refine x_getI (pc := 1) hX fl_X1_18 hK.1 rfl h3 dX1_takeBack_1 ?_
  refine x_if_le (pc := 4) (tgt := 38) hX dX1_takeBack_4 (by decide) (by omega) (fun h4 => ?_) (fun h4 => ?_)
  · exfalso; omega
  · refine x_aload_n (pc := 7) hX rfl rfl dX1_takeBack_7 ?_
    refine x_dup (pc := 8) hX rfl dX1_takeBack_8 ?_
    refine x_getI (pc := 9) hX fl_X1_18 hK.1 rfl h3 dX1_takeBack_9 ?_
    refine x_iconst (pc := 12) hX dX1_takeBack_12 ?_
    refine x_isub (pc := 13) (v := (h.length : Int)) hX dX1_takeBack_13 (by omega) ?_
    refine x_putI (pc := 14) hX fl_X1_18 hK.1 rfl rfl rfl dX1_takeBack_14 ?_
    refine x_aload_n (pc := 17) hX rfl rfl dX1_takeBack_17 ?_
    refine x_aload_n (pc := 18) hX rfl rfl dX1_takeBack_18 ?_
    refine x_getR (pc := 19) hX fl_X1_11 hK.1 rfl dX1_takeBack_19 ?_
    refine x_aload_n (pc := 22) hX rfl rfl dX1_takeBack_22 ?_
    refine x_getI (pc := 23) (v := (old : Int)) hX fl_X1_22 hK.1 rfl (by rw [mp_ne _ _ (by decide)]; exact h2) dX1_takeBack_23 ?_
    refine x_aload_n (pc := 26) hX rfl rfl dX1_takeBack_26 ?_
    refine x_getI (pc := 27) hX fl_X1_18 hK.1 rfl (mp_eq _ _ _ _) dX1_takeBack_27 ?_
    refine x_iadd (pc := 30) (v := ((old + h.length : Nat) : Int)) hX dX1_takeBack_30 (by omega) ?_
    refine x_bipush (pc := 31) hX (by decide) dX1_takeBack_31 ?_
    refine x_irem (pc := 33) (v := (((old + h.length) % 6 : Nat) : Int)) hX dX1_takeBack_33 (xrem6 _ (by omega)) (by decide) ?_
    refine x_aald (pc := 34) (j := (old + h.length) % 6) hX hg rfl (by omega) (by omega) (by decide) (hgi _ hp6) dX1_takeBack_34 ?_
    refine x_cV_V (pc := 35) hX (tX5_copyFrom hK2 (hK.2.2 _ hp6) (by omega) (h6.same (Same.put (a := o) (b := o + 1) (Nat.le_refl _) (Nat.lt_succ_self _)) (by omega))) hK2.1 rfl lk_X1_25 rfl rfl (Nat.le_of_ble_eq_true rfl) (by decide) (Nat.zero_le _) (Nat.zero_le _) dX1_takeBack_35 (fun M1 hp => ?_)
    refine x_vret (pc := 38) hX rfl (Nat.zero_le _) (Nat.zero_le _) dX1_takeBack_38 ?_
    obtain ⟨hS1, hq⟩ := hp
    refine pV_i ⟨hS1, Hi.pop hT (fun a g1 g2 => ?_) hd ?_ ?_, fun a g1 g2 => ?_⟩
    · rw [hq a (by omega), mput_ne _ _ _ g1]
    · rw [hq o (by omega), mp_ne _ _ (by decide)]
    · rw [hq o (by omega), mp_eq]
    · rw [hq a (by omega), mput_ne _ _ _ g1]

