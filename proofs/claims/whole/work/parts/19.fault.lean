/-! OrderReader: an order, the fault -/
set_option maxHeartbeats 4000000 in
set_option maxRecDepth 100000 in
theorem tX2_readOrder {G : XG} {κ : XKs} {M : XM} {hs : Nat} {p : List Nat} (hK : KRd κ hs) {i : Nat} (hS : RdS M p i) {res : Option Od} {jf : Nat} (hR : pOrder p i = (res, jf)) : XC G mX2_readOrder 4 0 0 [xR 106] κ M hs (pI κ hs (fun a M' => RdS M' p jf ∧ Same 106 111 M M' ∧ (res = none → a = 0) ∧ ∀ od, res = some od → a = 1 ∧ OdM M' od)) := by
  refine XC.intro cdX2_readOrder (by decide) (by decide) (Nat.le_of_ble_eq_true rfl) (loc := [some (xR 106)]) rfl (fun X hX => ?_)
  have hp2 := hS.1.2.1
  have hi2 := hS.2.2
  have hF := hR
  refine x_aload_n (pc := 0) hX rfl rfl dX2_readOrder_0 ?_
  refine x_iconst (pc := 1) hX dX2_readOrder_1 ?_
  refine x_cV_I (pc := 2) hX (tX2_readDigit hK hS 3 (by decide)) hK.2.2.1 rfl lk_X2_60 rfl rfl (Nat.le_of_ble_eq_true rfl) (by decide) (Nat.zero_le _) (Nat.zero_le _) dX2_readOrder_2 (fun a M2 hp => ?_)
  unfold pOrder at hF
  cases hdd : pDig p i 3
  · obtain ⟨rfl, rfl⟩ := hp.1 hdd
    rw [hdd] at hF
    refine x_if_ne (pc := 5) (tgt := 10) hX dX2_readOrder_5 (by decide) (by omega) (fun h5 => ?_) (fun h5 => ?_)
    · exfalso; omega
    · refine x_iconst (pc := 8) hX dX2_readOrder_8 ?_
      refine x_zret (pc := 9) hX rfl (xn_bool (by omega)) (Nat.zero_le _) (Nat.zero_le _) dX2_readOrder_9 ?_
      cases hF
      exact pI_i ⟨hS, Same.rf, fun _ => rfl, fun L hL => (by cases hL)⟩
  · rename_i c
    obtain ⟨rfl, hn2, hS2, hk2⟩ := hp.2 c hdd
    have h9 := pDig_some hdd
    rw [hdd] at hF
    have hF : pRest p c (chr p (i + 1)) (i + 2) = (res, jf) := hF
    have hc2 := hS2.1.rng (i + 1)
    refine x_if_ne (pc := 5) (tgt := 10) hX dX2_readOrder_5 (by decide) (by omega) (fun h5 => ?_) (fun h5 => ?_)
    · refine x_aload_n (pc := 10) hX rfl rfl dX2_readOrder_10 ?_
      refine x_aload_n (pc := 11) hX rfl rfl dX2_readOrder_11 ?_
      refine x_getI (pc := 12) (v := (c : Int)) hX fl_X2_64 hK.2.2.1 rfl hn2 dX2_readOrder_12 ?_
      refine x_putI (pc := 15) hX fl_X2_25 hK.2.2.1 rfl rfl rfl dX2_readOrder_15 ?_
      have hS3 := hS2.fld (k := 5) (v := (c : Int)) (by decide)
      refine x_aload_n (pc := 18) hX rfl rfl dX2_readOrder_18 ?_
      refine x_aload_n (pc := 19) hX rfl rfl dX2_readOrder_19 ?_
      refine x_getR (pc := 20) hX fl_X2_12 hK.2.2.1 rfl dX2_readOrder_20 ?_
      refine x_aload_n (pc := 23) hX rfl rfl dX2_readOrder_23 ?_
      refine x_getI (pc := 24) (v := ((i + 1 : Nat) : Int)) hX fl_X2_42 hK.2.2.1 rfl hS3.2.1 dX2_readOrder_24 ?_
      refine x_cV_P (pc := 27) hX (tX3_signAt hK hS3.1 (i + 1) (by omega)) hK.1 rfl lk_X2_67 rfl rfl (Nat.le_of_ble_eq_true rfl) (by decide) (Nat.zero_le _) (Nat.zero_le _) dX2_readOrder_27 ?_
      refine x_putI (pc := 30) hX fl_X2_29 hK.2.2.1 rfl (xn_char (by omega)) (xf_char (by omega)) dX2_readOrder_30 ?_
      have hS4 := hS3.fld (k := 6) (v := (chr p (i + 1) : Int)) (by decide)
      have hf5 : mput (mput M2 106 5 c) 106 6 (chr p (i + 1)) 106 5 = (c : Int) := by rw [mp_ne _ _ (by decide), mp_eq]
      have hf6 := mp_eq (mput M2 106 5 (c : Int)) 106 6 (chr p (i + 1) : Int)
      have hM4 : Same 106 111 M (mput (mput M2 106 5 c) 106 6 (chr p (i + 1))) := (hk2.same.tr (Same.put (by decide) (by decide))).tr (Same.put (by decide) (by decide))
      refine x_aload_n (pc := 33) hX rfl rfl dX2_readOrder_33 ?_
      refine x_bipush (pc := 34) hX (by decide) dX2_readOrder_34 ?_
      refine x_cV_I (pc := 36) hX (tX2_passes hK hS4 61 (by decide)) hK.2.2.1 rfl lk_X2_52 rfl rfl (Nat.le_of_ble_eq_true rfl) (by decide) (Nat.zero_le _) (Nat.zero_le _) dX2_readOrder_36 (fun a M5 hp => ?_)
      by_cases k61 : chr p (i + 1) = 61
      · obtain ⟨rfl, hS5, hk5⟩ := hp.1 k61
        have hg5 : M5 106 5 = (c : Int) := by rw [hk5.fld (by decide) (by decide)]; exact hf5
        have hg6 : M5 106 6 = (chr p (i + 1) : Int) := by rw [hk5.fld (by decide) (by decide)]; exact hf6
        have hM5 := hM4.tr hk5.same
        refine x_if_ne (pc := 39) (tgt := 51) hX dX2_readOrder_39 (by decide) (by omega) (fun h39 => ?_) (fun h39 => ?_)
        · refine x_aload_n (pc := 51) hX rfl rfl dX2_readOrder_51 ?_
          rw [pRest_eq (by omega)] at hF
          rcases hrr : pRuns p 40 (i + 2) [] with ⟨rr, j7⟩
          rw [hrr] at hF
          refine x_cV_I (pc := 52) hX (tX2_readRuns hK hS5 hrr) hK.2.2.1 rfl lk_X2_71 rfl rfl (Nat.le_of_ble_eq_true rfl) (by decide) (Nat.zero_le _) (Nat.zero_le _) dX2_readOrder_52 (fun a M7 hp => ?_)
          obtain ⟨hS7, hM7, hf7, hn7, hL7⟩ := hp
          have h01 : a = 0 ∨ a = 1 := by
            cases rr with
            | none => exact Or.inl (hn7 rfl)
            | some L => exact Or.inr (hL7 L rfl).1
          refine x_zret (pc := 55) hX rfl (xn_bool h01) (Nat.zero_le _) (Nat.zero_le _) dX2_readOrder_55 ?_
          cases rr with
          | none =>
            cases hF
            exact pI_i ⟨hS7, hM5.tr hM7, fun _ => hn7 rfl, fun L hL => (by cases hL)⟩
          | some L =>
            cases hF
            refine pI_i ⟨hS7, hM5.tr hM7, fun z => (by cases z), fun od hod => ?_⟩
            cases hod
            obtain ⟨h71, h72, h73⟩ := hL7 L rfl
            exact ⟨h71, by rw [hf7 5 (Or.inl rfl)]; exact hg5, by rw [hf7 6 (Or.inr rfl)]; exact hg6, fun _ => ⟨h72, h73⟩, fun z => absurd z (by show ¬ (chr p (i + 1) = 45 ∨ chr p (i + 1) = 64); omega)⟩
        · exfalso; omega
      · obtain ⟨rfl, rfl⟩ := hp.2 k61
        refine x_if_ne (pc := 39) (tgt := 51) hX dX2_readOrder_39 (by decide) (by omega) (fun h39 => ?_) (fun h39 => ?_)
        · exfalso; omega
        · refine x_aload_n (pc := 42) hX rfl rfl dX2_readOrder_42 ?_
          refine x_bipush (pc := 43) hX (by decide) dX2_readOrder_43 ?_
          refine x_cV_I (pc := 45) hX (tX2_passes hK hS4 43 (by decide)) hK.2.2.1 rfl lk_X2_52 rfl rfl (Nat.le_of_ble_eq_true rfl) (by decide) (Nat.zero_le _) (Nat.zero_le _) dX2_readOrder_45 (fun a M5 hp => ?_)
          by_cases k43 : chr p (i + 1) = 43
          · obtain ⟨rfl, hS5, hk5⟩ := hp.1 k43
            have hg5 : M5 106 5 = (c : Int) := by rw [hk5.fld (by decide) (by decide)]; exact hf5
            have hg6 : M5 106 6 = (chr p (i + 1) : Int) := by rw [hk5.fld (by decide) (by decide)]; exact hf6
            have hM5 := hM4.tr hk5.same
            refine x_if_eq (pc := 48) (tgt := 56) hX dX2_readOrder_48 (by decide) (by omega) (fun h48 => ?_) (fun h48 => ?_)
            · exfalso; omega
            · refine x_aload_n (pc := 51) hX rfl rfl dX2_readOrder_51 ?_
              rw [pRest_eq (by omega)] at hF
              rcases hrr : pRuns p 40 (i + 2) [] with ⟨rr, j7⟩
              rw [hrr] at hF
              refine x_cV_I (pc := 52) hX (tX2_readRuns hK hS5 hrr) hK.2.2.1 rfl lk_X2_71 rfl rfl (Nat.le_of_ble_eq_true rfl) (by decide) (Nat.zero_le _) (Nat.zero_le _) dX2_readOrder_52 (fun a M7 hp => ?_)
              obtain ⟨hS7, hM7, hf7, hn7, hL7⟩ := hp
              have h01 : a = 0 ∨ a = 1 := by
                cases rr with
                | none => exact Or.inl (hn7 rfl)
                | some L => exact Or.inr (hL7 L rfl).1
              refine x_zret (pc := 55) hX rfl (xn_bool h01) (Nat.zero_le _) (Nat.zero_le _) dX2_readOrder_55 ?_
              cases rr with
              | none =>
                cases hF
                exact pI_i ⟨hS7, hM5.tr hM7, fun _ => hn7 rfl, fun L hL => (by cases hL)⟩
              | some L =>
                cases hF
                refine pI_i ⟨hS7, hM5.tr hM7, fun z => (by cases z), fun od hod => ?_⟩
                cases hod
                obtain ⟨h71, h72, h73⟩ := hL7 L rfl
                exact ⟨h71, by rw [hf7 5 (Or.inl rfl)]; exact hg5, by rw [hf7 6 (Or.inr rfl)]; exact hg6, fun _ => ⟨h72, h73⟩, fun z => absurd z (by show ¬ (chr p (i + 1) = 45 ∨ chr p (i + 1) = 64); omega)⟩
          · obtain ⟨rfl, rfl⟩ := hp.2 k43
            refine x_if_eq (pc := 48) (tgt := 56) hX dX2_readOrder_48 (by decide) (by omega) (fun h48 => ?_) (fun h48 => ?_)
            · refine x_aload_n (pc := 56) hX rfl rfl dX2_readOrder_56 ?_
              refine x_bipush (pc := 57) hX (by decide) dX2_readOrder_57 ?_
              refine x_cV_I (pc := 59) hX (tX2_passes hK hS4 45 (by decide)) hK.2.2.1 rfl lk_X2_52 rfl rfl (Nat.le_of_ble_eq_true rfl) (by decide) (Nat.zero_le _) (Nat.zero_le _) dX2_readOrder_59 (fun a M5 hp => ?_)
              by_cases k45 : chr p (i + 1) = 45
              · obtain ⟨rfl, hS5, hk5⟩ := hp.1 k45
                have hg5 : M5 106 5 = (c : Int) := by rw [hk5.fld (by decide) (by decide)]; exact hf5
                have hg6 : M5 106 6 = (chr p (i + 1) : Int) := by rw [hk5.fld (by decide) (by decide)]; exact hf6
                have hM5 := hM4.tr hk5.same
                rw [k45, pRest_45] at hF
                rw [← k45] at hF
                refine x_if_eq (pc := 62) (tgt := 101) hX dX2_readOrder_62 (by decide) (by omega) (fun h62 => ?_) (fun h62 => ?_)
                · exfalso; omega
                · refine x_aload_n (pc := 65) hX rfl rfl dX2_readOrder_65 ?_
                  have hnn9 : ∀ x, pNum p (i + 1 + 1) = x → pNum p (i + 2) = x := fun x h => h
                  refine x_cV_I (pc := 66) hX (tX2_readRow hK hS5) hK.2.2.1 rfl lk_X2_74 rfl rfl (Nat.le_of_ble_eq_true rfl) (by decide) (Nat.zero_le _) (Nat.zero_le _) dX2_readOrder_66 (fun a M6 hp => ?_)
                  rcases hnn : pNum p (i + 1 + 1) with _ | ⟨r, j6⟩
                  · obtain ⟨rfl, rfl⟩ := hp.1 hnn
                    rw [hnn9 _ hnn] at hF
                    refine x_if_eq (pc := 69) (tgt := 99) hX dX2_readOrder_69 (by decide) (by omega) (fun h69 => ?_) (fun h69 => ?_)
                    · refine x_iconst (pc := 99) hX dX2_readOrder_99 ?_
                      refine x_zret (pc := 100) hX rfl (xn_bool (by omega)) (Nat.zero_le _) (Nat.zero_le _) dX2_readOrder_100 ?_
                      cases hF
                      exact pI_i ⟨hS5, hM5, fun _ => rfl, fun L hL => (by cases hL)⟩
                    · exfalso; omega
                  · obtain ⟨rfl, hr6, hS6, hk6⟩ := hp.2 r j6 hnn
                    rw [hnn9 _ hnn] at hF
                    have hM6 : Same 106 111 M M6 := hM5.tr (fun q hq => funext fun f => (hk6 q f).resolve_left (fun z => (by omega)))
                    have hh5 : M6 106 5 = (c : Int) := by rw [(hk6 106 5).resolve_left (fun z => (by omega))]; exact hg5
                    have hh6 : M6 106 6 = (chr p (i + 1) : Int) := by rw [(hk6 106 6).resolve_left (fun z => (by omega))]; exact hg6
                    dsimp only at hF
                    refine x_if_eq (pc := 69) (tgt := 99) hX dX2_readOrder_69 (by decide) (by omega) (fun h69 => ?_) (fun h69 => ?_)
                    · exfalso; omega
                    · refine x_aload_n (pc := 72) hX rfl rfl dX2_readOrder_72 ?_
                      refine x_bipush (pc := 73) hX (by decide) dX2_readOrder_73 ?_
                      refine x_cV_I (pc := 75) hX (tX2_passes hK hS6 42 (by decide)) hK.2.2.1 rfl lk_X2_52 rfl rfl (Nat.le_of_ble_eq_true rfl) (by decide) (Nat.zero_le _) (Nat.zero_le _) dX2_readOrder_75 (fun a M7 hp => ?_)
                      by_cases hst : chr p (j6) = 42
                      · obtain ⟨rfl, hS7, hk7⟩ := hp.1 hst
                        rw [if_pos hst] at hF
                        have hM7 := hM6.tr hk7.same
                        refine x_if_eq (pc := 78) (tgt := 99) hX dX2_readOrder_78 (by decide) (by omega) (fun h78 => ?_) (fun h78 => ?_)
                        · exfalso; omega
                        · refine x_aload_n (pc := 81) hX rfl rfl dX2_readOrder_81 ?_
                          refine x_cV_I (pc := 82) hX (tX2_readNumber hK hS7) hK.2.2.1 rfl lk_X2_77 rfl rfl (Nat.le_of_ble_eq_true rfl) (by decide) (Nat.zero_le _) (Nat.zero_le _) dX2_readOrder_82 (fun a M8 hp => ?_)
                          rcases hnb : pNum p (j6 + 1) with _ | ⟨w, j8⟩
                          · obtain ⟨rfl, rfl⟩ := hp.1 hnb
                            rw [hnb] at hF
                            refine x_if_eq (pc := 85) (tgt := 99) hX dX2_readOrder_85 (by decide) (by omega) (fun h85 => ?_) (fun h85 => ?_)
                            · refine x_iconst (pc := 99) hX dX2_readOrder_99 ?_
                              refine x_zret (pc := 100) hX rfl (xn_bool (by omega)) (Nat.zero_le _) (Nat.zero_le _) dX2_readOrder_100 ?_
                              cases hF
                              exact pI_i ⟨hS7, hM7, fun _ => rfl, fun L hL => (by cases hL)⟩
                            · exfalso; omega
                          · obtain ⟨rfl, hn8, hS8, hk8⟩ := hp.2 w j8 hnb
                            rw [hnb] at hF
                            have hM8 := hM7.tr hk8.same
                            refine x_if_eq (pc := 85) (tgt := 99) hX dX2_readOrder_85 (by decide) (by omega) (fun h85 => ?_) (fun h85 => ?_)
                            · exfalso; omega
                            · refine x_aload_n (pc := 88) hX rfl rfl dX2_readOrder_88 ?_
                              refine x_cV_I (pc := 89) hX (tX2_keepOperand (p := p) hK (w : Int) hn8) hK.2.2.1 rfl lk_X2_80 rfl rfl (Nat.le_of_ble_eq_true rfl) (by decide) (Nat.zero_le _) (Nat.zero_le _) dX2_readOrder_89 (fun a M9 hp => ?_)
                              obtain ⟨rfl, rfl⟩ := hp
                              refine x_if_eq (pc := 92) (tgt := 99) hX dX2_readOrder_92 (by decide) (by omega) (fun h92 => ?_) (fun h92 => ?_)
                              · exfalso; omega
                              · refine x_iconst (pc := 95) hX dX2_readOrder_95 ?_
                                refine x_goto (pc := 96) (tgt := 100) hX dX2_readOrder_96 (by decide) ?_
                                refine x_zret (pc := 100) hX rfl (xn_bool (by omega)) (Nat.zero_le _) (Nat.zero_le _) dX2_readOrder_100 ?_
                                cases hF
                                refine pI_i ⟨hS8.fld (by decide), hM8.tr (Same.put (by decide) (by decide)), fun z => (by cases z), fun od hod => ?_⟩
                                cases hod
                                exact ⟨rfl, by rw [mp_ne _ _ (by decide), hk8.fld (by decide) (by decide), hk7.fld (by decide) (by decide)]; exact hh5, by rw [mp_ne _ _ (by decide), hk8.fld (by decide) (by decide), hk7.fld (by decide) (by decide)]; exact hh6, fun z => absurd z (by show ¬ (chr p (i + 1) = 61 ∨ chr p (i + 1) = 43); omega), fun _ => ⟨by rw [mp_ne _ _ (by decide), hk8.fld (by decide) (by decide), hk7.fld (by decide) (by decide)]; exact hr6, mp_eq _ _ _ _⟩⟩
                      · obtain ⟨rfl, rfl⟩ := hp.2 hst
                        rw [if_neg hst] at hF
                        refine x_if_eq (pc := 78) (tgt := 99) hX dX2_readOrder_78 (by decide) (by omega) (fun h78 => ?_) (fun h78 => ?_)
                        · refine x_iconst (pc := 99) hX dX2_readOrder_99 ?_
                          refine x_zret (pc := 100) hX rfl (xn_bool (by omega)) (Nat.zero_le _) (Nat.zero_le _) dX2_readOrder_100 ?_
                          cases hF
                          exact pI_i ⟨hS6, hM6, fun _ => rfl, fun L hL => (by cases hL)⟩
                        · exfalso; omega
              · obtain ⟨rfl, rfl⟩ := hp.2 k45
                refine x_if_eq (pc := 62) (tgt := 101) hX dX2_readOrder_62 (by decide) (by omega) (fun h62 => ?_) (fun h62 => ?_)
                · refine x_aload_n (pc := 101) hX rfl rfl dX2_readOrder_101 ?_
                  refine x_bipush (pc := 102) hX (by decide) dX2_readOrder_102 ?_
                  refine x_cV_I (pc := 104) hX (tX2_passes hK hS4 64 (by decide)) hK.2.2.1 rfl lk_X2_52 rfl rfl (Nat.le_of_ble_eq_true rfl) (by decide) (Nat.zero_le _) (Nat.zero_le _) dX2_readOrder_104 (fun a M5 hp => ?_)
                  by_cases k64 : chr p (i + 1) = 64
                  · obtain ⟨rfl, hS5, hk5⟩ := hp.1 k64
                    have hg5 : M5 106 5 = (c : Int) := by rw [hk5.fld (by decide) (by decide)]; exact hf5
                    have hg6 : M5 106 6 = (chr p (i + 1) : Int) := by rw [hk5.fld (by decide) (by decide)]; exact hf6
                    have hM5 := hM4.tr hk5.same
                    rw [k64, pRest_64] at hF
                    rw [← k64] at hF
                    refine x_if_eq (pc := 107) (tgt := 148) hX dX2_readOrder_107 (by decide) (by omega) (fun h107 => ?_) (fun h107 => ?_)
                    · exfalso; omega
                    · refine x_aload_n (pc := 110) hX rfl rfl dX2_readOrder_110 ?_
                      have hnn9 : ∀ x, pNum p (i + 1 + 1) = x → pNum p (i + 2) = x := fun x h => h
                      refine x_cV_I (pc := 111) hX (tX2_readRow hK hS5) hK.2.2.1 rfl lk_X2_74 rfl rfl (Nat.le_of_ble_eq_true rfl) (by decide) (Nat.zero_le _) (Nat.zero_le _) dX2_readOrder_111 (fun a M6 hp => ?_)
                      rcases hnn : pNum p (i + 1 + 1) with _ | ⟨r, j6⟩
                      · obtain ⟨rfl, rfl⟩ := hp.1 hnn
                        rw [hnn9 _ hnn] at hF
                        refine x_if_eq (pc := 114) (tgt := 146) hX dX2_readOrder_114 (by decide) (by omega) (fun h114 => ?_) (fun h114 => ?_)
                        · refine x_iconst (pc := 146) hX dX2_readOrder_146 ?_
                          refine x_zret (pc := 147) hX rfl (xn_bool (by omega)) (Nat.zero_le _) (Nat.zero_le _) dX2_readOrder_147 ?_
                          cases hF
                          exact pI_i ⟨hS5, hM5, fun _ => rfl, fun L hL => (by cases hL)⟩
                        · exfalso; omega
                      · obtain ⟨rfl, hr6, hS6, hk6⟩ := hp.2 r j6 hnn
                        rw [hnn9 _ hnn] at hF
                        have hM6 : Same 106 111 M M6 := hM5.tr (fun q hq => funext fun f => (hk6 q f).resolve_left (fun z => (by omega)))
                        have hh5 : M6 106 5 = (c : Int) := by rw [(hk6 106 5).resolve_left (fun z => (by omega))]; exact hg5
                        have hh6 : M6 106 6 = (chr p (i + 1) : Int) := by rw [(hk6 106 6).resolve_left (fun z => (by omega))]; exact hg6
                        dsimp only at hF
                        refine x_if_eq (pc := 114) (tgt := 146) hX dX2_readOrder_114 (by decide) (by omega) (fun h114 => ?_) (fun h114 => ?_)
                        · exfalso; omega
                        · refine x_aload_n (pc := 117) hX rfl rfl dX2_readOrder_117 ?_
                          refine x_bipush (pc := 118) hX (by decide) dX2_readOrder_118 ?_
                          refine x_cV_I (pc := 120) hX (tX2_passes hK hS6 61 (by decide)) hK.2.2.1 rfl lk_X2_52 rfl rfl (Nat.le_of_ble_eq_true rfl) (by decide) (Nat.zero_le _) (Nat.zero_le _) dX2_readOrder_120 (fun a M7 hp => ?_)
                          by_cases hst : chr p (j6) = 61
                          · obtain ⟨rfl, hS7, hk7⟩ := hp.1 hst
                            rw [if_pos hst] at hF
                            have hM7 := hM6.tr hk7.same
                            refine x_if_eq (pc := 123) (tgt := 146) hX dX2_readOrder_123 (by decide) (by omega) (fun h123 => ?_) (fun h123 => ?_)
                            · exfalso; omega
                            · refine x_aload_n (pc := 126) hX rfl rfl dX2_readOrder_126 ?_
                              refine x_bipush (pc := 127) hX (by decide) dX2_readOrder_127 ?_
                              refine x_cV_I (pc := 129) hX (tX2_readDigit hK hS7 9 (by decide)) hK.2.2.1 rfl lk_X2_60 rfl rfl (Nat.le_of_ble_eq_true rfl) (by decide) (Nat.zero_le _) (Nat.zero_le _) dX2_readOrder_129 (fun a M8 hp => ?_)
                              cases hnb : pDig p (j6 + 1) 9
                              · obtain ⟨rfl, rfl⟩ := hp.1 hnb
                                rw [hnb] at hF
                                refine x_if_eq (pc := 132) (tgt := 146) hX dX2_readOrder_132 (by decide) (by omega) (fun h132 => ?_) (fun h132 => ?_)
                                · refine x_iconst (pc := 146) hX dX2_readOrder_146 ?_
                                  refine x_zret (pc := 147) hX rfl (xn_bool (by omega)) (Nat.zero_le _) (Nat.zero_le _) dX2_readOrder_147 ?_
                                  cases hF
                                  exact pI_i ⟨hS7, hM7, fun _ => rfl, fun L hL => (by cases hL)⟩
                                · exfalso; omega
                              · rename_i w
                                obtain ⟨rfl, hn8, hS8, hk8⟩ := hp.2 w hnb
                                rw [hnb] at hF
                                have hM8 := hM7.tr hk8.same
                                refine x_if_eq (pc := 132) (tgt := 146) hX dX2_readOrder_132 (by decide) (by omega) (fun h132 => ?_) (fun h132 => ?_)
                                · exfalso; omega
                                · refine x_aload_n (pc := 135) hX rfl rfl dX2_readOrder_135 ?_
                                  refine x_cV_I (pc := 136) hX (tX2_keepOperand (p := p) hK (w : Int) hn8) hK.2.2.1 rfl lk_X2_80 rfl rfl (Nat.le_of_ble_eq_true rfl) (by decide) (Nat.zero_le _) (Nat.zero_le _) dX2_readOrder_136 (fun a M9 hp => ?_)
                                  obtain ⟨rfl, rfl⟩ := hp
                                  refine x_if_eq (pc := 139) (tgt := 146) hX dX2_readOrder_139 (by decide) (by omega) (fun h139 => ?_) (fun h139 => ?_)
                                  · exfalso; omega
                                  · refine x_iconst (pc := 142) hX dX2_readOrder_142 ?_
                                    refine x_goto (pc := 143) (tgt := 147) hX dX2_readOrder_143 (by decide) ?_
                                    refine x_zret (pc := 147) hX rfl (xn_bool (by omega)) (Nat.zero_le _) (Nat.zero_le _) dX2_readOrder_147 ?_
                                    cases hF
                                    refine pI_i ⟨hS8.fld (by decide), hM8.tr (Same.put (by decide) (by decide)), fun z => (by cases z), fun od hod => ?_⟩
                                    cases hod
                                    exact ⟨rfl, by rw [mp_ne _ _ (by decide), hk8.fld (by decide) (by decide), hk7.fld (by decide) (by decide)]; exact hh5, by rw [mp_ne _ _ (by decide), hk8.fld (by decide) (by decide), hk7.fld (by decide) (by decide)]; exact hh6, fun z => absurd z (by show ¬ (chr p (i + 1) = 61 ∨ chr p (i + 1) = 43); omega), fun _ => ⟨by rw [mp_ne _ _ (by decide), hk8.fld (by decide) (by decide), hk7.fld (by decide) (by decide)]; exact hr6, mp_eq _ _ _ _⟩⟩
                          · obtain ⟨rfl, rfl⟩ := hp.2 hst
                            rw [if_neg hst] at hF
                            refine x_if_eq (pc := 123) (tgt := 146) hX dX2_readOrder_123 (by decide) (by omega) (fun h123 => ?_) (fun h123 => ?_)
                            · refine x_iconst (pc := 146) hX dX2_readOrder_146 ?_
                              refine x_zret (pc := 147) hX rfl (xn_bool (by omega)) (Nat.zero_le _) (Nat.zero_le _) dX2_readOrder_147 ?_
                              cases hF
                              exact pI_i ⟨hS6, hM6, fun _ => rfl, fun L hL => (by cases hL)⟩
                            · exfalso; omega
                  · obtain ⟨rfl, rfl⟩ := hp.2 k64
                    refine x_if_eq (pc := 107) (tgt := 148) hX dX2_readOrder_107 (by decide) (by omega) (fun h107 => ?_) (fun h107 => ?_)
                    · refine x_aload_n (pc := 148) hX rfl rfl dX2_readOrder_148 ?_
                      refine x_bipush (pc := 149) hX (by decide) dX2_readOrder_149 ?_
                      refine x_cV_I (pc := 151) hX (tX2_passes hK hS4 33 (by decide)) hK.2.2.1 rfl lk_X2_52 rfl rfl (Nat.le_of_ble_eq_true rfl) (by decide) (Nat.zero_le _) (Nat.zero_le _) dX2_readOrder_151 (fun a M5 hp => ?_)
                      by_cases k33 : chr p (i + 1) = 33
                      · obtain ⟨rfl, hS5, hk5⟩ := hp.1 k33
                        have hg5 : M5 106 5 = (c : Int) := by rw [hk5.fld (by decide) (by decide)]; exact hf5
                        have hg6 : M5 106 6 = (chr p (i + 1) : Int) := by rw [hk5.fld (by decide) (by decide)]; exact hf6
                        have hM5 := hM4.tr hk5.same
                        rw [k33, pRest_33] at hF
                        rw [← k33] at hF
                        refine x_zret (pc := 154) hX rfl (xn_bool (by omega)) (Nat.zero_le _) (Nat.zero_le _) dX2_readOrder_154 ?_
                        cases hF
                        refine pI_i ⟨hS5, hM5, fun z => (by cases z), fun od hod => ?_⟩
                        cases hod
                        exact ⟨rfl, hg5, hg6, fun z => absurd z (by show ¬ (chr p (i + 1) = 61 ∨ chr p (i + 1) = 43); omega), fun z => absurd z (by show ¬ (chr p (i + 1) = 45 ∨ chr p (i + 1) = 64); omega)⟩
                      · obtain ⟨rfl, rfl⟩ := hp.2 k33
                        rw [pRest_no k61 k43 k45 k64 k33] at hF
                        have hF : ((none : Option Od), i + 1) = (res, jf) := hF
                        refine x_zret (pc := 154) hX rfl (xn_bool (by omega)) (Nat.zero_le _) (Nat.zero_le _) dX2_readOrder_154 ?_
                        cases hF
                        exact pI_i ⟨hS4, hM4, fun _ => rfl, fun L hL => (by cases hL)⟩
                    · exfalso; omega
                · exfalso; omega
            · exfalso; omega
    · exfalso; omega

set_option maxHeartbeats 4000000 in
set_option maxRecDepth 100000 in
theorem tX2_firstFault {G : XG} {κ : XKs} {M : XM} {hs : Nat} {p : List Nat} (hK : KRd κ hs) (hP : Pd M p) : XC G mX2_firstFault 5 0 0 [xR 106] κ M hs (pI κ hs (fun a M' => a = pFault p 80 0 ∧ Pd M' p ∧ Same 106 111 M M')) := by
  refine XC.intro cdX2_firstFault (by decide) (by decide) (Nat.le_of_ble_eq_true rfl) (loc := [some (xR 106), none]) rfl (fun X hX => ?_)
  have hp2 := hP.2.1
  have loop : ∀ (n k j : Nat) (M1 : XM), k ≤ 80 → 80 < k + n → RdS M1 p j → Same 106 111 M M1 → pFault p (80 - k) j = pFault p 80 0 → XW G X mX2_firstFault (xq G (pI κ hs (fun a M' => a = pFault p 80 0 ∧ Pd M' p ∧ Same 106 111 M M')) 0 0 X) 0 0 6 [some (xR 106), some (xI (k : Int))] [] κ M1 hs := by
    intro n
    induction n with
    | zero => intro k j M1 h1 h2; omega
    | succ n ih =>
      intro k j M1 h1 h2 hS1 hM1 hF
      have hj2 := hS1.2.2
      refine x_iload_n (pc := 6) hX rfl rfl dX2_firstFault_6 ?_
      refine x_bipush (pc := 7) hX (by decide) dX2_firstFault_7 ?_
      refine x_icmp_ge (pc := 9) (tgt := 63) hX dX2_firstFault_9 (by decide) (by omega) (fun h9 => ?_) (fun h9 => ?_)
      · refine x_aload_n (pc := 63) hX rfl rfl dX2_firstFault_63 ?_
        refine x_getI (pc := 64) (v := (j : Int)) hX fl_X2_42 hK.2.2.1 rfl hS1.2.1 dX2_firstFault_64 ?_
        refine x_iret (pc := 67) hX rfl (Nat.zero_le _) (Nat.zero_le _) dX2_firstFault_67 ?_
        rw [show 80 - k = 0 by omega] at hF
        exact pI_i ⟨hF, hS1.1, hM1⟩
      · obtain ⟨f9, hf9⟩ : ∃ f9, 80 - k = f9 + 1 := ⟨79 - k, by omega⟩
        rw [hf9, pFault] at hF
        rcases hrr : pOrder p j with ⟨rr, j2⟩
        rw [hrr] at hF
        refine x_aload_n (pc := 12) hX rfl rfl dX2_firstFault_12 ?_
        refine x_cV_I (pc := 13) hX (tX2_readOrder hK hS1 hrr) hK.2.2.1 rfl lk_X2_48 rfl rfl (Nat.le_of_ble_eq_true rfl) (by decide) (Nat.zero_le _) (Nat.zero_le _) dX2_firstFault_13 (fun a M2 hp => ?_)
        obtain ⟨hS2, hM2, hn2, ho2⟩ := hp
        have hj3 := hS2.2.2
        have hc2 := hS2.1.rng j2
        cases rr
        · obtain rfl := hn2 rfl
          have hF : (j2 : Int) = pFault p 80 0 := hF
          refine x_if_ne (pc := 16) (tgt := 24) hX dX2_firstFault_16 (by decide) (by omega) (fun h16 => ?_) (fun h16 => ?_)
          · exfalso; omega
          · refine x_aload_n (pc := 19) hX rfl rfl dX2_firstFault_19 ?_
            refine x_getI (pc := 20) (v := (j2 : Int)) hX fl_X2_42 hK.2.2.1 rfl hS2.2.1 dX2_firstFault_20 ?_
            refine x_iret (pc := 23) hX rfl (Nat.zero_le _) (Nat.zero_le _) dX2_firstFault_23 ?_
            exact pI_i ⟨hF, hS2.1, hM1.tr hM2⟩
        · rename_i od
          obtain ⟨rfl, -⟩ := ho2 od rfl
          have hF : (if chr p j2 = 59 then pFault p f9 (j2 + 1) else if j2 = p.length then -6 else (j2 : Int)) = pFault p 80 0 := hF
          refine x_if_ne (pc := 16) (tgt := 24) hX dX2_firstFault_16 (by decide) (by omega) (fun h16 => ?_) (fun h16 => ?_)
          · refine x_aload_n (pc := 24) hX rfl rfl dX2_firstFault_24 ?_
            refine x_bipush (pc := 25) hX (by decide) dX2_firstFault_25 ?_
            refine x_cV_I (pc := 27) hX (tX2_passes hK hS2 59 (by decide)) hK.2.2.1 rfl lk_X2_52 rfl rfl (Nat.le_of_ble_eq_true rfl) (by decide) (Nat.zero_le _) (Nat.zero_le _) dX2_firstFault_27 (fun a M3 hp => ?_)
            by_cases hsc : chr p j2 = 59
            · obtain ⟨rfl, hS3, hk3⟩ := hp.1 hsc
              rw [if_pos hsc] at hF
              refine x_if_ne (pc := 30) (tgt := 57) hX dX2_firstFault_30 (by decide) (by omega) (fun h30 => ?_) (fun h30 => ?_)
              · refine x_iinc (pc := 57) (v := ((k + 1 : Nat) : Int)) hX dX2_firstFault_57 rfl (by decide) rfl (by omega) rfl ?_
                refine x_goto (pc := 60) (tgt := 6) hX dX2_firstFault_60 (by decide) ?_
                exact ih (k + 1) (j2 + 1) M3 (by omega) (by omega) hS3 ((hM1.tr hM2).tr hk3.same) (by rw [show 80 - (k + 1) = f9 by omega]; exact hF)
              · exfalso; omega
            · obtain ⟨rfl, rfl⟩ := hp.2 hsc
              rw [if_neg hsc] at hF
              refine x_if_ne (pc := 30) (tgt := 57) hX dX2_firstFault_30 (by decide) (by omega) (fun h30 => ?_) (fun h30 => ?_)
              · exfalso; omega
              · refine x_aload_n (pc := 33) hX rfl rfl dX2_firstFault_33 ?_
                refine x_getI (pc := 34) (v := (j2 : Int)) hX fl_X2_42 hK.2.2.1 rfl hS2.2.1 dX2_firstFault_34 ?_
                refine x_aload_n (pc := 37) hX rfl rfl dX2_firstFault_37 ?_
                refine x_getR (pc := 38) hX fl_X2_12 hK.2.2.1 rfl dX2_firstFault_38 ?_
                refine x_cV_P (pc := 41) hX (tX3_length hK hS2.1) hK.1 rfl lk_X2_56 rfl rfl (Nat.le_of_ble_eq_true rfl) (by decide) (Nat.zero_le _) (Nat.zero_le _) dX2_firstFault_41 ?_
                refine x_icmp_ne (pc := 44) (tgt := 52) hX dX2_firstFault_44 (by decide) (by omega) (fun h44 => ?_) (fun h44 => ?_)
                · refine x_aload_n (pc := 52) hX rfl rfl dX2_firstFault_52 ?_
                  refine x_getI (pc := 53) (v := (j2 : Int)) hX fl_X2_42 hK.2.2.1 rfl hS2.2.1 dX2_firstFault_53 ?_
                  refine x_iret (pc := 56) hX rfl (Nat.zero_le _) (Nat.zero_le _) dX2_firstFault_56 ?_
                  rw [if_neg (by omega)] at hF
                  exact pI_i ⟨hF, hS2.1, hM1.tr hM2⟩
                · refine x_bipush (pc := 47) hX (by decide) dX2_firstFault_47 ?_
                  refine x_goto (pc := 49) (tgt := 56) hX dX2_firstFault_49 (by decide) ?_
                  refine x_iret (pc := 56) hX rfl (Nat.zero_le _) (Nat.zero_le _) dX2_firstFault_56 ?_
                  rw [if_pos (by omega)] at hF
                  exact pI_i ⟨hF, hS2.1, hM1.tr hM2⟩
          · exfalso; omega
  refine x_aload_n (pc := 0) hX rfl rfl dX2_firstFault_0 ?_
  refine x_cV_V (pc := 1) hX (tX2_start hK hP) hK.2.2.1 rfl lk_X2_45 rfl rfl (Nat.le_of_ble_eq_true rfl) (by decide) (Nat.zero_le _) (Nat.zero_le _) dX2_firstFault_1 (fun M1 hp => ?_)
  refine x_iconst (pc := 4) hX dX2_firstFault_4 ?_
  refine x_istore_n (pc := 5) hX rfl (by decide) rfl rfl dX2_firstFault_5 ?_
  exact loop 81 0 0 M1 (by omega) (by omega) hp.1 hp.2.same rfl

