theorem ms_at (M : XM) (a q : Nat) (f : Nat → Int) : mset M a f q = if q = a then f else M q := rfl
/-! Column: what would be, and its writes -/
set_option maxHeartbeats 4000000 in
set_option maxRecDepth 100000 in
theorem tX0_runsAfterSet {G : XG} {κ : XKs} {M : XM} {hs o : Nat} {l : List Nat} (hK : KCol κ hs o) (hC : Col M o l) (r : Nat) (hr : r < l.length) (v : Int) (hv : InR v) : XC G mX0_runsAfterSet 1 0 0 [xR o, xI (r : Int), xI v] κ M hs (pP κ M hs (xI (asets (enc l) r v))) := by
  refine XC.intro cdX0_runsAfterSet (by decide) (by decide) (Nat.le_of_ble_eq_true rfl) (loc := [some (xR o), some (xI (r : Int)), some (xI v), none, none, none, none, none]) rfl (fun X hX => ?_)
  unfold InR at hv
  have hl := hC.len
  have hq := rof_spec (enc l) r (by rw [tot_enc]; exact hr)
  have hq2 := tot_take_le (enc l) (rof (enc l) r)
  rw [tot_enc] at hq2
  have hq3 : rnO (enc l) (rof (enc l) r) = (rn (enc l) (rof (enc l) r) : Int) := by unfold rnO; rw [if_pos (by omega)]; rfl
  have hq4 := rvO_rng hC (rof (enc l) r)
  have hq5 := rvO_rng hC ((rof (enc l) r : Int) - 1)
  have hq6 := rvO_rng hC ((rof (enc l) r : Int) + 1)
  have hq7 := hC.mem hq.1
  refine x_aload_n (pc := 0) hX rfl rfl dX0_runsAfterSet_0 ?_
  refine x_iload_n (pc := 1) hX rfl rfl dX0_runsAfterSet_1 ?_
  refine x_cV_P (pc := 2) hX (tX0_runOfRow hK hC r hr) hK.1 rfl lk_X0_29 rfl rfl (Nat.le_of_ble_eq_true rfl) (by decide) (Nat.zero_le _) (Nat.zero_le _) dX0_runsAfterSet_2 ?_
  refine x_istore_n (pc := 5) hX rfl (by decide) rfl rfl dX0_runsAfterSet_5 ?_
  refine x_aload_n (pc := 6) hX rfl rfl dX0_runsAfterSet_6 ?_
  refine x_iload_n (pc := 7) hX rfl rfl dX0_runsAfterSet_7 ?_
  refine x_cV_P (pc := 8) hX (tX0_valueOfRun hK hC _ (by unfold InR; omega)) hK.1 rfl lk_X0_33 rfl rfl (Nat.le_of_ble_eq_true rfl) (by decide) (Nat.zero_le _) (Nat.zero_le _) dX0_runsAfterSet_8 ?_
  refine x_iload_n (pc := 11) hX rfl rfl dX0_runsAfterSet_11 ?_
  refine x_icmp_ne (pc := 12) (tgt := 20) hX dX0_runsAfterSet_12 (by decide) (by omega) (fun h12 => ?_) (fun h12 => ?_)
  · refine x_aload_n (pc := 20) hX rfl rfl dX0_runsAfterSet_20 ?_
    refine x_iload_n (pc := 21) hX rfl rfl dX0_runsAfterSet_21 ?_
    refine x_cV_P (pc := 22) hX (tX0_firstRowOfRun hK hC _ (by omega)) hK.1 rfl lk_X0_42 rfl rfl (Nat.le_of_ble_eq_true rfl) (by decide) (Nat.zero_le _) (Nat.zero_le _) dX0_runsAfterSet_22 ?_
    refine x_istore (pc := 25) hX (by decide) rfl rfl dX0_runsAfterSet_25 ?_
    refine x_iload_n (pc := 27) hX rfl rfl dX0_runsAfterSet_27 ?_
    refine x_iload (pc := 28) hX rfl dX0_runsAfterSet_28 ?_
    refine x_icmp_ne (pc := 30) (tgt := 37) hX dX0_runsAfterSet_30 (by decide) (by omega) (fun h30 => ?_) (fun h30 => ?_)
    · refine x_iconst (pc := 37) hX dX0_runsAfterSet_37 ?_
      refine x_istore (pc := 38) hX (by decide) rfl rfl dX0_runsAfterSet_38 ?_
      refine x_iload_n (pc := 40) hX rfl rfl dX0_runsAfterSet_40 ?_
      refine x_iload (pc := 41) hX rfl dX0_runsAfterSet_41 ?_
      refine x_aload_n (pc := 43) hX rfl rfl dX0_runsAfterSet_43 ?_
      refine x_iload_n (pc := 44) hX rfl rfl dX0_runsAfterSet_44 ?_
      refine x_cV_P (pc := 45) hX (tX0_lengthOfRun hK hC _ (by unfold InR; omega)) hK.1 rfl lk_X0_45 rfl rfl (Nat.le_of_ble_eq_true rfl) (by decide) (Nat.zero_le _) (Nat.zero_le _) dX0_runsAfterSet_45 ?_
      refine x_iadd (pc := 48) (v := ((tot ((enc l).take (rof (enc l) r)) + rn (enc l) (rof (enc l) r) : Nat) : Int)) hX dX0_runsAfterSet_48 (by rw [hq3]; omega) ?_
      refine x_iconst (pc := 49) hX dX0_runsAfterSet_49 ?_
      refine x_isub (pc := 50) hX dX0_runsAfterSet_50 rfl ?_
      refine x_icmp_ne (pc := 51) (tgt := 58) hX dX0_runsAfterSet_51 (by decide) (by omega) (fun h51 => ?_) (fun h51 => ?_)
      · refine x_iconst (pc := 58) hX dX0_runsAfterSet_58 ?_
        refine x_istore (pc := 59) hX (by decide) rfl rfl dX0_runsAfterSet_59 ?_
        refine x_aload_n (pc := 61) hX rfl rfl dX0_runsAfterSet_61 ?_
        refine x_getI (pc := 62) hX fl_X0_18 hK.1 rfl hl.1 dX0_runsAfterSet_62 ?_
        refine x_istore (pc := 65) hX (by decide) rfl rfl dX0_runsAfterSet_65 ?_
        refine x_iload (pc := 67) hX rfl dX0_runsAfterSet_67 ?_
        refine x_if_ne (pc := 69) (tgt := 78) hX dX0_runsAfterSet_69 (by decide) (by omega) (fun h69 => ?_) (fun h69 => ?_)
        · exfalso; omega
        · refine x_iinc (pc := 72) hX dX0_runsAfterSet_72 rfl (by decide) rfl rfl rfl ?_
          refine x_goto (pc := 75) (tgt := 92) hX dX0_runsAfterSet_75 (by decide) ?_
          refine x_iload (pc := 92) hX rfl dX0_runsAfterSet_92 ?_
          refine x_if_ne (pc := 94) (tgt := 103) hX dX0_runsAfterSet_94 (by decide) (by omega) (fun h94 => ?_) (fun h94 => ?_)
          · exfalso; omega
          · refine x_iinc (pc := 97) hX dX0_runsAfterSet_97 rfl (by decide) rfl rfl rfl ?_
            refine x_goto (pc := 100) (tgt := 117) hX dX0_runsAfterSet_100 (by decide) ?_
            refine x_iload (pc := 117) hX rfl dX0_runsAfterSet_117 ?_
            refine x_iret (pc := 119) hX rfl (Nat.zero_le _) (Nat.zero_le _) dX0_runsAfterSet_119 ?_
            exact pP_i (congrArg xI (by unfold asets; repeat' split; all_goals omega))
      · refine x_iconst (pc := 54) hX dX0_runsAfterSet_54 ?_
        refine x_goto (pc := 55) (tgt := 59) hX dX0_runsAfterSet_55 (by decide) ?_
        refine x_istore (pc := 59) hX (by decide) rfl rfl dX0_runsAfterSet_59 ?_
        refine x_aload_n (pc := 61) hX rfl rfl dX0_runsAfterSet_61 ?_
        refine x_getI (pc := 62) hX fl_X0_18 hK.1 rfl hl.1 dX0_runsAfterSet_62 ?_
        refine x_istore (pc := 65) hX (by decide) rfl rfl dX0_runsAfterSet_65 ?_
        refine x_iload (pc := 67) hX rfl dX0_runsAfterSet_67 ?_
        refine x_if_ne (pc := 69) (tgt := 78) hX dX0_runsAfterSet_69 (by decide) (by omega) (fun h69 => ?_) (fun h69 => ?_)
        · exfalso; omega
        · refine x_iinc (pc := 72) hX dX0_runsAfterSet_72 rfl (by decide) rfl rfl rfl ?_
          refine x_goto (pc := 75) (tgt := 92) hX dX0_runsAfterSet_75 (by decide) ?_
          refine x_iload (pc := 92) hX rfl dX0_runsAfterSet_92 ?_
          refine x_if_ne (pc := 94) (tgt := 103) hX dX0_runsAfterSet_94 (by decide) (by omega) (fun h94 => ?_) (fun h94 => ?_)
          · refine x_aload_n (pc := 103) hX rfl rfl dX0_runsAfterSet_103 ?_
            refine x_iload_n (pc := 104) hX rfl rfl dX0_runsAfterSet_104 ?_
            refine x_iconst (pc := 105) hX dX0_runsAfterSet_105 ?_
            refine x_iadd (pc := 106) hX dX0_runsAfterSet_106 rfl ?_
            refine x_cV_P (pc := 107) hX (tX0_valueOfRun hK hC _ (by unfold InR; omega)) hK.1 rfl lk_X0_33 rfl rfl (Nat.le_of_ble_eq_true rfl) (by decide) (Nat.zero_le _) (Nat.zero_le _) dX0_runsAfterSet_107 ?_
            refine x_iload_n (pc := 110) hX rfl rfl dX0_runsAfterSet_110 ?_
            refine x_icmp_ne (pc := 111) (tgt := 117) hX dX0_runsAfterSet_111 (by decide) (by omega) (fun h111 => ?_) (fun h111 => ?_)
            · refine x_iload (pc := 117) hX rfl dX0_runsAfterSet_117 ?_
              refine x_iret (pc := 119) hX rfl (Nat.zero_le _) (Nat.zero_le _) dX0_runsAfterSet_119 ?_
              exact pP_i (congrArg xI (by unfold asets; repeat' split; all_goals omega))
            · refine x_iinc (pc := 114) hX dX0_runsAfterSet_114 rfl (by decide) rfl rfl rfl ?_
              refine x_iload (pc := 117) hX rfl dX0_runsAfterSet_117 ?_
              refine x_iret (pc := 119) hX rfl (Nat.zero_le _) (Nat.zero_le _) dX0_runsAfterSet_119 ?_
              exact pP_i (congrArg xI (by unfold asets; repeat' split; all_goals omega))
          · exfalso; omega
    · refine x_iconst (pc := 33) hX dX0_runsAfterSet_33 ?_
      refine x_goto (pc := 34) (tgt := 38) hX dX0_runsAfterSet_34 (by decide) ?_
      refine x_istore (pc := 38) hX (by decide) rfl rfl dX0_runsAfterSet_38 ?_
      refine x_iload_n (pc := 40) hX rfl rfl dX0_runsAfterSet_40 ?_
      refine x_iload (pc := 41) hX rfl dX0_runsAfterSet_41 ?_
      refine x_aload_n (pc := 43) hX rfl rfl dX0_runsAfterSet_43 ?_
      refine x_iload_n (pc := 44) hX rfl rfl dX0_runsAfterSet_44 ?_
      refine x_cV_P (pc := 45) hX (tX0_lengthOfRun hK hC _ (by unfold InR; omega)) hK.1 rfl lk_X0_45 rfl rfl (Nat.le_of_ble_eq_true rfl) (by decide) (Nat.zero_le _) (Nat.zero_le _) dX0_runsAfterSet_45 ?_
      refine x_iadd (pc := 48) (v := ((tot ((enc l).take (rof (enc l) r)) + rn (enc l) (rof (enc l) r) : Nat) : Int)) hX dX0_runsAfterSet_48 (by rw [hq3]; omega) ?_
      refine x_iconst (pc := 49) hX dX0_runsAfterSet_49 ?_
      refine x_isub (pc := 50) hX dX0_runsAfterSet_50 rfl ?_
      refine x_icmp_ne (pc := 51) (tgt := 58) hX dX0_runsAfterSet_51 (by decide) (by omega) (fun h51 => ?_) (fun h51 => ?_)
      · refine x_iconst (pc := 58) hX dX0_runsAfterSet_58 ?_
        refine x_istore (pc := 59) hX (by decide) rfl rfl dX0_runsAfterSet_59 ?_
        refine x_aload_n (pc := 61) hX rfl rfl dX0_runsAfterSet_61 ?_
        refine x_getI (pc := 62) hX fl_X0_18 hK.1 rfl hl.1 dX0_runsAfterSet_62 ?_
        refine x_istore (pc := 65) hX (by decide) rfl rfl dX0_runsAfterSet_65 ?_
        refine x_iload (pc := 67) hX rfl dX0_runsAfterSet_67 ?_
        refine x_if_ne (pc := 69) (tgt := 78) hX dX0_runsAfterSet_69 (by decide) (by omega) (fun h69 => ?_) (fun h69 => ?_)
        · refine x_aload_n (pc := 78) hX rfl rfl dX0_runsAfterSet_78 ?_
          refine x_iload_n (pc := 79) hX rfl rfl dX0_runsAfterSet_79 ?_
          refine x_iconst (pc := 80) hX dX0_runsAfterSet_80 ?_
          refine x_isub (pc := 81) hX dX0_runsAfterSet_81 rfl ?_
          refine x_cV_P (pc := 82) hX (tX0_valueOfRun hK hC _ (by unfold InR; omega)) hK.1 rfl lk_X0_33 rfl rfl (Nat.le_of_ble_eq_true rfl) (by decide) (Nat.zero_le _) (Nat.zero_le _) dX0_runsAfterSet_82 ?_
          refine x_iload_n (pc := 85) hX rfl rfl dX0_runsAfterSet_85 ?_
          refine x_icmp_ne (pc := 86) (tgt := 92) hX dX0_runsAfterSet_86 (by decide) (by omega) (fun h86 => ?_) (fun h86 => ?_)
          · refine x_iload (pc := 92) hX rfl dX0_runsAfterSet_92 ?_
            refine x_if_ne (pc := 94) (tgt := 103) hX dX0_runsAfterSet_94 (by decide) (by omega) (fun h94 => ?_) (fun h94 => ?_)
            · exfalso; omega
            · refine x_iinc (pc := 97) hX dX0_runsAfterSet_97 rfl (by decide) rfl rfl rfl ?_
              refine x_goto (pc := 100) (tgt := 117) hX dX0_runsAfterSet_100 (by decide) ?_
              refine x_iload (pc := 117) hX rfl dX0_runsAfterSet_117 ?_
              refine x_iret (pc := 119) hX rfl (Nat.zero_le _) (Nat.zero_le _) dX0_runsAfterSet_119 ?_
              exact pP_i (congrArg xI (by unfold asets; repeat' split; all_goals omega))
          · refine x_iinc (pc := 89) hX dX0_runsAfterSet_89 rfl (by decide) rfl rfl rfl ?_
            refine x_iload (pc := 92) hX rfl dX0_runsAfterSet_92 ?_
            refine x_if_ne (pc := 94) (tgt := 103) hX dX0_runsAfterSet_94 (by decide) (by omega) (fun h94 => ?_) (fun h94 => ?_)
            · exfalso; omega
            · refine x_iinc (pc := 97) hX dX0_runsAfterSet_97 rfl (by decide) rfl rfl rfl ?_
              refine x_goto (pc := 100) (tgt := 117) hX dX0_runsAfterSet_100 (by decide) ?_
              refine x_iload (pc := 117) hX rfl dX0_runsAfterSet_117 ?_
              refine x_iret (pc := 119) hX rfl (Nat.zero_le _) (Nat.zero_le _) dX0_runsAfterSet_119 ?_
              exact pP_i (congrArg xI (by unfold asets; repeat' split; all_goals omega))
        · exfalso; omega
      · refine x_iconst (pc := 54) hX dX0_runsAfterSet_54 ?_
        refine x_goto (pc := 55) (tgt := 59) hX dX0_runsAfterSet_55 (by decide) ?_
        refine x_istore (pc := 59) hX (by decide) rfl rfl dX0_runsAfterSet_59 ?_
        refine x_aload_n (pc := 61) hX rfl rfl dX0_runsAfterSet_61 ?_
        refine x_getI (pc := 62) hX fl_X0_18 hK.1 rfl hl.1 dX0_runsAfterSet_62 ?_
        refine x_istore (pc := 65) hX (by decide) rfl rfl dX0_runsAfterSet_65 ?_
        refine x_iload (pc := 67) hX rfl dX0_runsAfterSet_67 ?_
        refine x_if_ne (pc := 69) (tgt := 78) hX dX0_runsAfterSet_69 (by decide) (by omega) (fun h69 => ?_) (fun h69 => ?_)
        · refine x_aload_n (pc := 78) hX rfl rfl dX0_runsAfterSet_78 ?_
          refine x_iload_n (pc := 79) hX rfl rfl dX0_runsAfterSet_79 ?_
          refine x_iconst (pc := 80) hX dX0_runsAfterSet_80 ?_
          refine x_isub (pc := 81) hX dX0_runsAfterSet_81 rfl ?_
          refine x_cV_P (pc := 82) hX (tX0_valueOfRun hK hC _ (by unfold InR; omega)) hK.1 rfl lk_X0_33 rfl rfl (Nat.le_of_ble_eq_true rfl) (by decide) (Nat.zero_le _) (Nat.zero_le _) dX0_runsAfterSet_82 ?_
          refine x_iload_n (pc := 85) hX rfl rfl dX0_runsAfterSet_85 ?_
          refine x_icmp_ne (pc := 86) (tgt := 92) hX dX0_runsAfterSet_86 (by decide) (by omega) (fun h86 => ?_) (fun h86 => ?_)
          · refine x_iload (pc := 92) hX rfl dX0_runsAfterSet_92 ?_
            refine x_if_ne (pc := 94) (tgt := 103) hX dX0_runsAfterSet_94 (by decide) (by omega) (fun h94 => ?_) (fun h94 => ?_)
            · refine x_aload_n (pc := 103) hX rfl rfl dX0_runsAfterSet_103 ?_
              refine x_iload_n (pc := 104) hX rfl rfl dX0_runsAfterSet_104 ?_
              refine x_iconst (pc := 105) hX dX0_runsAfterSet_105 ?_
              refine x_iadd (pc := 106) hX dX0_runsAfterSet_106 rfl ?_
              refine x_cV_P (pc := 107) hX (tX0_valueOfRun hK hC _ (by unfold InR; omega)) hK.1 rfl lk_X0_33 rfl rfl (Nat.le_of_ble_eq_true rfl) (by decide) (Nat.zero_le _) (Nat.zero_le _) dX0_runsAfterSet_107 ?_
              refine x_iload_n (pc := 110) hX rfl rfl dX0_runsAfterSet_110 ?_
              refine x_icmp_ne (pc := 111) (tgt := 117) hX dX0_runsAfterSet_111 (by decide) (by omega) (fun h111 => ?_) (fun h111 => ?_)
              · refine x_iload (pc := 117) hX rfl dX0_runsAfterSet_117 ?_
                refine x_iret (pc := 119) hX rfl (Nat.zero_le _) (Nat.zero_le _) dX0_runsAfterSet_119 ?_
                exact pP_i (congrArg xI (by unfold asets; repeat' split; all_goals omega))
              · refine x_iinc (pc := 114) hX dX0_runsAfterSet_114 rfl (by decide) rfl rfl rfl ?_
                refine x_iload (pc := 117) hX rfl dX0_runsAfterSet_117 ?_
                refine x_iret (pc := 119) hX rfl (Nat.zero_le _) (Nat.zero_le _) dX0_runsAfterSet_119 ?_
                exact pP_i (congrArg xI (by unfold asets; repeat' split; all_goals omega))
            · exfalso; omega
          · refine x_iinc (pc := 89) hX dX0_runsAfterSet_89 rfl (by decide) rfl rfl rfl ?_
            refine x_iload (pc := 92) hX rfl dX0_runsAfterSet_92 ?_
            refine x_if_ne (pc := 94) (tgt := 103) hX dX0_runsAfterSet_94 (by decide) (by omega) (fun h94 => ?_) (fun h94 => ?_)
            · refine x_aload_n (pc := 103) hX rfl rfl dX0_runsAfterSet_103 ?_
              refine x_iload_n (pc := 104) hX rfl rfl dX0_runsAfterSet_104 ?_
              refine x_iconst (pc := 105) hX dX0_runsAfterSet_105 ?_
              refine x_iadd (pc := 106) hX dX0_runsAfterSet_106 rfl ?_
              refine x_cV_P (pc := 107) hX (tX0_valueOfRun hK hC _ (by unfold InR; omega)) hK.1 rfl lk_X0_33 rfl rfl (Nat.le_of_ble_eq_true rfl) (by decide) (Nat.zero_le _) (Nat.zero_le _) dX0_runsAfterSet_107 ?_
              refine x_iload_n (pc := 110) hX rfl rfl dX0_runsAfterSet_110 ?_
              refine x_icmp_ne (pc := 111) (tgt := 117) hX dX0_runsAfterSet_111 (by decide) (by omega) (fun h111 => ?_) (fun h111 => ?_)
              · refine x_iload (pc := 117) hX rfl dX0_runsAfterSet_117 ?_
                refine x_iret (pc := 119) hX rfl (Nat.zero_le _) (Nat.zero_le _) dX0_runsAfterSet_119 ?_
                exact pP_i (congrArg xI (by unfold asets; repeat' split; all_goals omega))
              · refine x_iinc (pc := 114) hX dX0_runsAfterSet_114 rfl (by decide) rfl rfl rfl ?_
                refine x_iload (pc := 117) hX rfl dX0_runsAfterSet_117 ?_
                refine x_iret (pc := 119) hX rfl (Nat.zero_le _) (Nat.zero_le _) dX0_runsAfterSet_119 ?_
                exact pP_i (congrArg xI (by unfold asets; repeat' split; all_goals omega))
            · exfalso; omega
        · exfalso; omega
  · refine x_aload_n (pc := 15) hX rfl rfl dX0_runsAfterSet_15 ?_
    refine x_getI (pc := 16) hX fl_X0_18 hK.1 rfl hl.1 dX0_runsAfterSet_16 ?_
    refine x_iret (pc := 19) hX rfl (Nat.zero_le _) (Nat.zero_le _) dX0_runsAfterSet_19 ?_
    exact pP_i (congrArg xI (by unfold asets; repeat' split; all_goals omega))

set_option maxHeartbeats 4000000 in
set_option maxRecDepth 100000 in
theorem tX0_bestRowToSet {G : XG} {κ : XKs} {M : XM} {hs o : Nat} {l : List Nat} (hK : KCol κ hs o) (hC : Col M o l) (h0 : 0 < l.length) (v : Int) (hv : InR v) : XC G mX0_bestRowToSet 2 0 0 [xR o, xI v] κ M hs (pP κ M hs (xI ((fBest (enc l) v 0 (0, asets (enc l) 0 v) (enc l)).1 : Int))) := by
  refine XC.intro cdX0_bestRowToSet (by decide) (by decide) (Nat.le_of_ble_eq_true rfl) (loc := [some (xR o), some (xI v), none, none, none, none, none]) rfl (fun X hX => ?_)
  have hv2 := hv
  unfold InR at hv2
  have hl := hC.len
  have loop : ∀ (n k : Nat) (best : Nat) (few : Int) (z : Option XV), k ≤ (enc l).length → (enc l).length < k + n → -2 ≤ few ∧ few ≤ 42 → best < l.length → fBest (enc l) v (tot ((enc l).take k)) (best, few) ((enc l).drop k) = fBest (enc l) v 0 (0, asets (enc l) 0 v) (enc l) → XW G X mX0_bestRowToSet (xq G (pP κ M hs (xI ((fBest (enc l) v 0 (0, asets (enc l) 0 v) (enc l)).1 : Int))) 0 0 X) 0 0 15 [some (xR o), some (xI v), some (xI (best : Int)), some (xI few), some (xI (tot ((enc l).take k) : Int)), some (xI (k : Int)), z] [] κ M hs := by
    intro n
    induction n with
    | zero => intro k best few z h1 h2; omega
    | succ n ih =>
      intro k best few z h1 h2 h3 h4 hF
      refine x_iload (pc := 15) hX rfl dX0_bestRowToSet_15 ?_
      refine x_aload_n (pc := 17) hX rfl rfl dX0_bestRowToSet_17 ?_
      refine x_getI (pc := 18) hX fl_X0_18 hK.1 rfl hl.1 dX0_bestRowToSet_18 ?_
      refine x_icmp_ge (pc := 21) (tgt := 94) hX dX0_bestRowToSet_21 (by decide) (by omega) (fun h21 => ?_) (fun h21 => ?_)
      · refine x_iload_n (pc := 94) hX rfl rfl dX0_bestRowToSet_94 ?_
        refine x_iret (pc := 95) hX rfl (Nat.zero_le _) (Nat.zero_le _) dX0_bestRowToSet_95 ?_
        exact pP_i (congrArg xI (by rw [← hF, ru_end _ (by omega)]; rfl))
      · have hk2 : k < (enc l).length := by omega
        have hm := hC.mem hk2
        have ht := tot_take_succ hk2
        have ht2 := tot_take_le (enc l) (k + 1)
        rw [tot_enc] at ht2
        have ha1 := asets_rng hC (tot ((enc l).take k)) v
        have ha2 := asets_rng hC (tot ((enc l).take k) + rn (enc l) k - 1) v
        refine x_iload (pc := 24) hX rfl dX0_bestRowToSet_24 ?_
        refine x_aload_n (pc := 26) hX rfl rfl dX0_bestRowToSet_26 ?_
        refine x_getR (pc := 27) hX fl_X0_15 hK.1 rfl dX0_bestRowToSet_27 ?_
        refine x_iload (pc := 30) hX rfl dX0_bestRowToSet_30 ?_
        refine x_iald (pc := 32) (j := k) hX hK.2.2 (by omega) (by omega) (by decide) hm.2.1 dX0_bestRowToSet_32 ?_
        refine x_iadd (pc := 33) hX dX0_bestRowToSet_33 rfl ?_
        refine x_iconst (pc := 34) hX dX0_bestRowToSet_34 ?_
        refine x_isub (pc := 35) (v := ((tot ((enc l).take k) + rn (enc l) k - 1 : Nat) : Int)) hX dX0_bestRowToSet_35 (by omega) ?_
        refine x_istore (pc := 36) hX (by decide) rfl rfl dX0_bestRowToSet_36 ?_
        refine x_aload_n (pc := 38) hX rfl rfl dX0_bestRowToSet_38 ?_
        refine x_iload (pc := 39) hX rfl dX0_bestRowToSet_39 ?_
        refine x_iload_n (pc := 41) hX rfl rfl dX0_bestRowToSet_41 ?_
        refine x_cV_P (pc := 42) hX (tX0_runsAfterSet hK hC _ (by omega) v hv) hK.1 rfl lk_X0_48 rfl rfl (Nat.le_of_ble_eq_true rfl) (by decide) (Nat.zero_le _) (Nat.zero_le _) dX0_bestRowToSet_42 ?_
        refine x_iload_n (pc := 45) hX rfl rfl dX0_bestRowToSet_45 ?_
        refine x_icmp_ge (pc := 46) (tgt := 60) hX dX0_bestRowToSet_46 (by decide) (by omega) (fun h46 => ?_) (fun h46 => ?_)
        · refine x_aload_n (pc := 60) hX rfl rfl dX0_bestRowToSet_60 ?_
          refine x_iload (pc := 61) hX rfl dX0_bestRowToSet_61 ?_
          refine x_iload_n (pc := 63) hX rfl rfl dX0_bestRowToSet_63 ?_
          refine x_cV_P (pc := 64) hX (tX0_runsAfterSet hK hC _ (by omega) v hv) hK.1 rfl lk_X0_48 rfl rfl (Nat.le_of_ble_eq_true rfl) (by decide) (Nat.zero_le _) (Nat.zero_le _) dX0_bestRowToSet_64 ?_
          refine x_iload_n (pc := 67) hX rfl rfl dX0_bestRowToSet_67 ?_
          refine x_icmp_ge (pc := 68) (tgt := 82) hX dX0_bestRowToSet_68 (by decide) (by omega) (fun h68 => ?_) (fun h68 => ?_)
          · refine x_iload (pc := 82) hX rfl dX0_bestRowToSet_82 ?_
            refine x_iconst (pc := 84) hX dX0_bestRowToSet_84 ?_
            refine x_iadd (pc := 85) (v := (tot ((enc l).take (k + 1)) : Int)) hX dX0_bestRowToSet_85 (by rw [ht]; omega) ?_
            refine x_istore (pc := 86) hX (by decide) rfl rfl dX0_bestRowToSet_86 ?_
            refine x_iinc (pc := 88) (v := ((k + 1 : Nat) : Int)) hX dX0_bestRowToSet_88 rfl (by decide) rfl (by omega) rfl ?_
            refine x_goto (pc := 91) (tgt := 15) hX dX0_bestRowToSet_91 (by decide) ?_
            refine ih (k + 1) _ _ _ (by omega) (by omega) (by omega) (by omega) ?_
            rw [← hF, ru_drop hk2, fBest, ht]
            first
            | rw [best1_pos (b := best) (f := few) (by omega), best1_pos (by omega)]
            | rw [best1_pos (b := best) (f := few) (by omega), best1_neg (by omega)]
            | rw [best1_neg (b := best) (f := few) (by omega), best1_pos (by omega)]
            | rw [best1_neg (b := best) (f := few) (by omega), best1_neg (by omega)]
          · refine x_iload (pc := 71) hX rfl dX0_bestRowToSet_71 ?_
            refine x_istore_n (pc := 73) hX rfl (by decide) rfl rfl dX0_bestRowToSet_73 ?_
            refine x_aload_n (pc := 74) hX rfl rfl dX0_bestRowToSet_74 ?_
            refine x_iload (pc := 75) hX rfl dX0_bestRowToSet_75 ?_
            refine x_iload_n (pc := 77) hX rfl rfl dX0_bestRowToSet_77 ?_
            refine x_cV_P (pc := 78) hX (tX0_runsAfterSet hK hC _ (by omega) v hv) hK.1 rfl lk_X0_48 rfl rfl (Nat.le_of_ble_eq_true rfl) (by decide) (Nat.zero_le _) (Nat.zero_le _) dX0_bestRowToSet_78 ?_
            refine x_istore_n (pc := 81) hX rfl (by decide) rfl rfl dX0_bestRowToSet_81 ?_
            refine x_iload (pc := 82) hX rfl dX0_bestRowToSet_82 ?_
            refine x_iconst (pc := 84) hX dX0_bestRowToSet_84 ?_
            refine x_iadd (pc := 85) (v := (tot ((enc l).take (k + 1)) : Int)) hX dX0_bestRowToSet_85 (by rw [ht]; omega) ?_
            refine x_istore (pc := 86) hX (by decide) rfl rfl dX0_bestRowToSet_86 ?_
            refine x_iinc (pc := 88) (v := ((k + 1 : Nat) : Int)) hX dX0_bestRowToSet_88 rfl (by decide) rfl (by omega) rfl ?_
            refine x_goto (pc := 91) (tgt := 15) hX dX0_bestRowToSet_91 (by decide) ?_
            refine ih (k + 1) _ _ _ (by omega) (by omega) (by omega) (by omega) ?_
            rw [← hF, ru_drop hk2, fBest, ht]
            first
            | rw [best1_pos (b := best) (f := few) (by omega), best1_pos (by omega)]
            | rw [best1_pos (b := best) (f := few) (by omega), best1_neg (by omega)]
            | rw [best1_neg (b := best) (f := few) (by omega), best1_pos (by omega)]
            | rw [best1_neg (b := best) (f := few) (by omega), best1_neg (by omega)]
        · refine x_iload (pc := 49) hX rfl dX0_bestRowToSet_49 ?_
          refine x_istore_n (pc := 51) hX rfl (by decide) rfl rfl dX0_bestRowToSet_51 ?_
          refine x_aload_n (pc := 52) hX rfl rfl dX0_bestRowToSet_52 ?_
          refine x_iload (pc := 53) hX rfl dX0_bestRowToSet_53 ?_
          refine x_iload_n (pc := 55) hX rfl rfl dX0_bestRowToSet_55 ?_
          refine x_cV_P (pc := 56) hX (tX0_runsAfterSet hK hC _ (by omega) v hv) hK.1 rfl lk_X0_48 rfl rfl (Nat.le_of_ble_eq_true rfl) (by decide) (Nat.zero_le _) (Nat.zero_le _) dX0_bestRowToSet_56 ?_
          refine x_istore_n (pc := 59) hX rfl (by decide) rfl rfl dX0_bestRowToSet_59 ?_
          refine x_aload_n (pc := 60) hX rfl rfl dX0_bestRowToSet_60 ?_
          refine x_iload (pc := 61) hX rfl dX0_bestRowToSet_61 ?_
          refine x_iload_n (pc := 63) hX rfl rfl dX0_bestRowToSet_63 ?_
          refine x_cV_P (pc := 64) hX (tX0_runsAfterSet hK hC _ (by omega) v hv) hK.1 rfl lk_X0_48 rfl rfl (Nat.le_of_ble_eq_true rfl) (by decide) (Nat.zero_le _) (Nat.zero_le _) dX0_bestRowToSet_64 ?_
          refine x_iload_n (pc := 67) hX rfl rfl dX0_bestRowToSet_67 ?_
          refine x_icmp_ge (pc := 68) (tgt := 82) hX dX0_bestRowToSet_68 (by decide) (by omega) (fun h68 => ?_) (fun h68 => ?_)
          · refine x_iload (pc := 82) hX rfl dX0_bestRowToSet_82 ?_
            refine x_iconst (pc := 84) hX dX0_bestRowToSet_84 ?_
            refine x_iadd (pc := 85) (v := (tot ((enc l).take (k + 1)) : Int)) hX dX0_bestRowToSet_85 (by rw [ht]; omega) ?_
            refine x_istore (pc := 86) hX (by decide) rfl rfl dX0_bestRowToSet_86 ?_
            refine x_iinc (pc := 88) (v := ((k + 1 : Nat) : Int)) hX dX0_bestRowToSet_88 rfl (by decide) rfl (by omega) rfl ?_
            refine x_goto (pc := 91) (tgt := 15) hX dX0_bestRowToSet_91 (by decide) ?_
            refine ih (k + 1) _ _ _ (by omega) (by omega) (by omega) (by omega) ?_
            rw [← hF, ru_drop hk2, fBest, ht]
            first
            | rw [best1_pos (b := best) (f := few) (by omega), best1_pos (by omega)]
            | rw [best1_pos (b := best) (f := few) (by omega), best1_neg (by omega)]
            | rw [best1_neg (b := best) (f := few) (by omega), best1_pos (by omega)]
            | rw [best1_neg (b := best) (f := few) (by omega), best1_neg (by omega)]
          · refine x_iload (pc := 71) hX rfl dX0_bestRowToSet_71 ?_
            refine x_istore_n (pc := 73) hX rfl (by decide) rfl rfl dX0_bestRowToSet_73 ?_
            refine x_aload_n (pc := 74) hX rfl rfl dX0_bestRowToSet_74 ?_
            refine x_iload (pc := 75) hX rfl dX0_bestRowToSet_75 ?_
            refine x_iload_n (pc := 77) hX rfl rfl dX0_bestRowToSet_77 ?_
            refine x_cV_P (pc := 78) hX (tX0_runsAfterSet hK hC _ (by omega) v hv) hK.1 rfl lk_X0_48 rfl rfl (Nat.le_of_ble_eq_true rfl) (by decide) (Nat.zero_le _) (Nat.zero_le _) dX0_bestRowToSet_78 ?_
            refine x_istore_n (pc := 81) hX rfl (by decide) rfl rfl dX0_bestRowToSet_81 ?_
            refine x_iload (pc := 82) hX rfl dX0_bestRowToSet_82 ?_
            refine x_iconst (pc := 84) hX dX0_bestRowToSet_84 ?_
            refine x_iadd (pc := 85) (v := (tot ((enc l).take (k + 1)) : Int)) hX dX0_bestRowToSet_85 (by rw [ht]; omega) ?_
            refine x_istore (pc := 86) hX (by decide) rfl rfl dX0_bestRowToSet_86 ?_
            refine x_iinc (pc := 88) (v := ((k + 1 : Nat) : Int)) hX dX0_bestRowToSet_88 rfl (by decide) rfl (by omega) rfl ?_
            refine x_goto (pc := 91) (tgt := 15) hX dX0_bestRowToSet_91 (by decide) ?_
            refine ih (k + 1) _ _ _ (by omega) (by omega) (by omega) (by omega) ?_
            rw [← hF, ru_drop hk2, fBest, ht]
            first
            | rw [best1_pos (b := best) (f := few) (by omega), best1_pos (by omega)]
            | rw [best1_pos (b := best) (f := few) (by omega), best1_neg (by omega)]
            | rw [best1_neg (b := best) (f := few) (by omega), best1_pos (by omega)]
            | rw [best1_neg (b := best) (f := few) (by omega), best1_neg (by omega)]
  refine x_iconst (pc := 0) hX dX0_bestRowToSet_0 ?_
  refine x_istore_n (pc := 1) hX rfl (by decide) rfl rfl dX0_bestRowToSet_1 ?_
  refine x_aload_n (pc := 2) hX rfl rfl dX0_bestRowToSet_2 ?_
  refine x_iconst (pc := 3) hX dX0_bestRowToSet_3 ?_
  refine x_iload_n (pc := 4) hX rfl rfl dX0_bestRowToSet_4 ?_
  refine x_cV_P (pc := 5) hX (tX0_runsAfterSet hK hC 0 h0 v hv) hK.1 rfl lk_X0_48 rfl rfl (Nat.le_of_ble_eq_true rfl) (by decide) (Nat.zero_le _) (Nat.zero_le _) dX0_bestRowToSet_5 ?_
  refine x_istore_n (pc := 8) hX rfl (by decide) rfl rfl dX0_bestRowToSet_8 ?_
  refine x_iconst (pc := 9) hX dX0_bestRowToSet_9 ?_
  refine x_istore (pc := 10) hX (by decide) rfl rfl dX0_bestRowToSet_10 ?_
  refine x_iconst (pc := 12) hX dX0_bestRowToSet_12 ?_
  refine x_istore (pc := 13) hX (by decide) rfl rfl dX0_bestRowToSet_13 ?_
  exact loop ((enc l).length + 1) 0 0 _ none (by omega) (by omega) (asets_rng hC 0 v) h0 rfl

set_option maxHeartbeats 4000000 in
set_option maxRecDepth 100000 in
theorem tX0_clear {G : XG} {κ : XKs} {M : XM} {hs o : Nat} (hK : KCol κ hs o) : XC G mX0_clear 0 0 0 [xR o] κ M hs (pV κ hs (fun M' => Dra M' o [] ∧ Same o (o + 3) M M')) := by
  refine XC.intro cdX0_clear (by decide) (by decide) (Nat.le_of_ble_eq_true rfl) (loc := [some (xR o)]) rfl (fun X hX => ?_)
  refine x_aload_n (pc := 0) hX rfl rfl dX0_clear_0 ?_
  refine x_iconst (pc := 1) hX dX0_clear_1 ?_
  refine x_putI (pc := 2) hX fl_X0_18 hK.1 rfl rfl rfl dX0_clear_2 ?_
  refine x_aload_n (pc := 5) hX rfl rfl dX0_clear_5 ?_
  refine x_iconst (pc := 6) hX dX0_clear_6 ?_
  refine x_putI (pc := 7) hX fl_X0_22 hK.1 rfl rfl rfl dX0_clear_7 ?_
  refine x_aload_n (pc := 10) hX rfl rfl dX0_clear_10 ?_
  refine x_iconst (pc := 11) hX dX0_clear_11 ?_
  refine x_putI (pc := 12) hX fl_X0_25 hK.1 rfl (xn_bool (Or.inl rfl)) (xf_bool (Or.inl rfl)) dX0_clear_12 ?_
  refine x_vret (pc := 15) hX rfl (Nat.zero_le _) (Nat.zero_le _) dX0_clear_15 ?_
  refine pV_i ⟨⟨fun v hv => (by cases hv), fun _ => ⟨⟨?_, ?_, fun i hi => (by cases hi)⟩, ?_⟩, fun hf => absurd ⟨Nat.zero_le _, Nat.zero_le _⟩ hf⟩, ?_⟩
  · simp [mp_at, enc]
  · simp [mp_at, enc, tot]
  · simp [mp_at]
  · exact ((Same.put (by omega) (by omega)).tr (Same.put (by omega) (by omega))).tr (Same.put (by omega) (by omega))

set_option maxHeartbeats 4000000 in
set_option maxRecDepth 100000 in
theorem tX0_copyFrom {G : XG} {κ : XKs} {M : XM} {hs o q : Nat} (hK : KCol κ hs o) (hK2 : KCol κ hs q) (hd : q + 3 ≤ o ∨ o + 3 ≤ q) (hz : M q 4 = 0 ∨ M q 4 = 1) : XC G mX0_copyFrom 1 0 0 [xR o, xR q] κ M hs (pV κ hs (fun M' => Copy q o M M')) := by
  refine XC.intro cdX0_copyFrom (by decide) (by decide) (Nat.le_of_ble_eq_true rfl) (loc := [some (xR o), some (xR q)]) rfl (fun X hX => ?_)
  have hne : ¬ q = o := by omega
  have hne1 : ¬ q = o + 1 := by omega
  have hne2 : ¬ q = o + 2 := by omega
  have hne3 : ¬ q + 2 = o + 1 := by omega
  refine x_aload_n (pc := 0) hX rfl rfl dX0_copyFrom_0 ?_
  refine x_getR (pc := 1) hX fl_X0_9 hK2.1 rfl dX0_copyFrom_1 ?_
  refine x_iconst (pc := 4) hX dX0_copyFrom_4 ?_
  refine x_aload_n (pc := 5) hX rfl rfl dX0_copyFrom_5 ?_
  refine x_getR (pc := 6) hX fl_X0_9 hK.1 rfl dX0_copyFrom_6 ?_
  refine x_iconst (pc := 9) hX dX0_copyFrom_9 ?_
  refine x_bipush (pc := 10) hX (by decide) dX0_copyFrom_10 ?_
  refine x_copy (pc := 12) (L := 40) hX tw_240 hK2.2.1 hK.2.1 rfl rfl rfl (by decide) (by decide) (by decide) (Nat.le_refl 1) (Nat.le_of_ble_eq_true rfl) dX0_copyFrom_12 ?_
  refine x_aload_n (pc := 15) hX rfl rfl dX0_copyFrom_15 ?_
  refine x_getR (pc := 16) hX fl_X0_15 hK2.1 rfl dX0_copyFrom_16 ?_
  refine x_iconst (pc := 19) hX dX0_copyFrom_19 ?_
  refine x_aload_n (pc := 20) hX rfl rfl dX0_copyFrom_20 ?_
  refine x_getR (pc := 21) hX fl_X0_15 hK.1 rfl dX0_copyFrom_21 ?_
  refine x_iconst (pc := 24) hX dX0_copyFrom_24 ?_
  refine x_bipush (pc := 25) hX (by decide) dX0_copyFrom_25 ?_
  refine x_copy (pc := 27) (L := 40) hX tw_240 hK2.2.2 hK.2.2 rfl rfl rfl (by decide) (by decide) (by decide) (Nat.le_refl 1) (Nat.le_of_ble_eq_true rfl) dX0_copyFrom_27 ?_
  refine x_aload_n (pc := 30) hX rfl rfl dX0_copyFrom_30 ?_
  refine x_aload_n (pc := 31) hX rfl rfl dX0_copyFrom_31 ?_
  refine x_getI (pc := 32) hX fl_X0_18 hK2.1 rfl rfl dX0_copyFrom_32 ?_
  refine x_putI (pc := 35) hX fl_X0_18 hK.1 rfl rfl rfl dX0_copyFrom_35 ?_
  refine x_aload_n (pc := 38) hX rfl rfl dX0_copyFrom_38 ?_
  refine x_aload_n (pc := 39) hX rfl rfl dX0_copyFrom_39 ?_
  refine x_getI (pc := 40) hX fl_X0_22 hK2.1 rfl rfl dX0_copyFrom_40 ?_
  refine x_putI (pc := 43) hX fl_X0_22 hK.1 rfl rfl rfl dX0_copyFrom_43 ?_
  refine x_aload_n (pc := 46) hX rfl rfl dX0_copyFrom_46 ?_
  refine x_aload_n (pc := 47) hX rfl rfl dX0_copyFrom_47 ?_
  refine x_getI (pc := 48) hX fl_X0_25 hK2.1 rfl rfl dX0_copyFrom_48 ?_
  refine x_putI (pc := 51) hX fl_X0_25 hK.1 rfl (xn_bool (by simp [mp_at, ms_at, hne, hne1, hne2]; exact hz)) (xf_bool (by simp [mp_at, ms_at, hne, hne1, hne2]; exact hz)) dX0_copyFrom_51 ?_
  refine x_vret (pc := 54) hX rfl (Nat.zero_le _) (Nat.zero_le _) dX0_copyFrom_54 ?_
  refine pV_i ⟨⟨?_, ?_, ?_⟩, fun i hi => ⟨?_, ?_⟩, ?_⟩
  · simp [mp_at, ms_at, hne, hne1, hne2]
  · simp [mp_at, ms_at, hne, hne1, hne2]
  · simp [mp_at, ms_at, hne, hne1, hne2]
  · simp [mp_at, ms_at, cpy0, hi]
  · simp [mp_at, ms_at, cpy0, hi, hne3]
  · exact ((((Same.set (by omega) (by omega)).tr (Same.set (by omega) (by omega))).tr (Same.put (by omega) (by omega))).tr (Same.put (by omega) (by omega))).tr (Same.put (by omega) (by omega))

set_option maxHeartbeats 4000000 in
set_option maxRecDepth 100000 in
theorem tX0_addRun {G : XG} {κ : XKs} {M : XM} {hs o : Nat} {l : List Nat} (hK : KCol κ hs o) (hD : Dra M o l) (v : Nat) (hv : v ≤ 9) (n : Int) (hn : InR n) : XC G mX0_addRun 0 0 0 [xR o, xI (v : Int), xI n] κ M hs (pV κ hs (fun M' => Dra M' o (l ++ List.replicate n.toNat v) ∧ Same o (o + 3) M M')) := by
  refine XC.intro cdX0_addRun (by decide) (by decide) (Nat.le_of_ble_eq_true rfl) (loc := [some (xR o), some (xI (v : Int)), some (xI n)]) rfl (fun X hX => ?_)
  unfold InR at hn
  have hb := hD.bit
  refine x_iload_n (pc := 0) hX rfl rfl dX0_addRun_0 ?_
  refine x_iconst (pc := 1) hX dX0_addRun_1 ?_
  refine x_icmp_lt (pc := 2) (tgt := 12) hX dX0_addRun_2 (by decide) (by omega) (fun h2 => ?_) (fun h2 => ?_)
  · refine x_vret (pc := 12) hX rfl (Nat.zero_le _) (Nat.zero_le _) dX0_addRun_12 ?_
    refine pV_i ⟨?_, Same.rf⟩
    rw [show n.toNat = 0 by omega, List.replicate_zero, List.append_nil]
    exact hD
  · refine x_aload_n (pc := 5) hX rfl rfl dX0_addRun_5 ?_
    refine x_getI (pc := 6) hX fl_X0_25 hK.1 rfl rfl dX0_addRun_6 ?_
    refine x_if_eq (pc := 9) (tgt := 13) hX dX0_addRun_9 (by decide) (by omega) (fun h9 => ?_) (fun h9 => ?_)
    · have hf : fit l := hD.zero h9
      obtain ⟨⟨r1, r2, r3⟩, r4⟩ := hD.2.1 hf
      have hl1 := hf.1
      have hl2 := hf.2
      have r2b := r2
      rw [tot_enc] at r2b
      obtain ⟨j, rfl⟩ : ∃ j : Nat, n = (j : Int) := ⟨n.toNat, by omega⟩
      have hj : ((j : Int)).toNat = j := rfl
      have hx : ∀ w ∈ List.replicate j v, w ≤ 9 := fun w hw => by rw [(List.mem_replicate.mp hw).2]; exact hv
      have hla : (l ++ List.replicate j v).length = l.length + j := by simp
      refine x_iload_n (pc := 13) hX rfl rfl dX0_addRun_13 ?_
      refine x_sipush (pc := 14) hX (by decide) dX0_addRun_14 ?_
      refine x_aload_n (pc := 17) hX rfl rfl dX0_addRun_17 ?_
      refine x_getI (pc := 18) hX fl_X0_22 hK.1 rfl r2b dX0_addRun_18 ?_
      refine x_isub (pc := 21) hX dX0_addRun_21 rfl ?_
      refine x_icmp_le (pc := 22) (tgt := 33) hX dX0_addRun_22 (by decide) (by omega) (fun h22 => ?_) (fun h22 => ?_)
      · refine x_aload_n (pc := 33) hX rfl rfl dX0_addRun_33 ?_
        refine x_getI (pc := 34) hX fl_X0_18 hK.1 rfl r1 dX0_addRun_34 ?_
        refine x_if_le (pc := 37) (tgt := 92) hX dX0_addRun_37 (by decide) (by omega) (fun h37 => ?_) (fun h37 => ?_)
        · have he : enc l = [] ∨ rv (enc l) ((enc l).length - 1) ≠ v := Or.inl (List.eq_nil_of_length_eq_zero (by omega))
          refine x_aload_n (pc := 92) hX rfl rfl dX0_addRun_92 ?_
          refine x_getI (pc := 93) hX fl_X0_18 hK.1 rfl r1 dX0_addRun_93 ?_
          refine x_bipush (pc := 96) hX (by decide) dX0_addRun_96 ?_
          refine x_icmp_ge (pc := 98) (tgt := 144) hX dX0_addRun_98 (by decide) (by omega) (fun h98 => ?_) (fun h98 => ?_)
          · refine x_aload_n (pc := 144) hX rfl rfl dX0_addRun_144 ?_
            refine x_iconst (pc := 145) hX dX0_addRun_145 ?_
            refine x_putI (pc := 146) hX fl_X0_25 hK.1 rfl (xn_bool (Or.inr rfl)) (xf_bool (Or.inr rfl)) dX0_addRun_146 ?_
            refine x_vret (pc := 149) hX rfl (Nat.zero_le _) (Nat.zero_le _) dX0_addRun_149 ?_
            refine pV_i ⟨hD.over hx (more_over (by omega) (by omega) he) (mp_eq _ _ _ _), Same.put (by omega) (by omega)⟩
          · refine x_aload_n (pc := 101) hX rfl rfl dX0_addRun_101 ?_
            refine x_getR (pc := 102) hX fl_X0_9 hK.1 rfl dX0_addRun_102 ?_
            refine x_aload_n (pc := 105) hX rfl rfl dX0_addRun_105 ?_
            refine x_getI (pc := 106) hX fl_X0_18 hK.1 rfl r1 dX0_addRun_106 ?_
            refine x_iload_n (pc := 109) hX rfl rfl dX0_addRun_109 ?_
            refine x_iast (pc := 110) (j := (enc l).length) hX hK.2.1 (by omega) (by omega) (by decide) dX0_addRun_110 ?_
            refine x_aload_n (pc := 111) hX rfl rfl dX0_addRun_111 ?_
            refine x_getR (pc := 112) hX fl_X0_15 hK.1 rfl dX0_addRun_112 ?_
            refine x_aload_n (pc := 115) hX rfl rfl dX0_addRun_115 ?_
            refine x_getI (pc := 116) (v := ((enc l).length : Int)) hX fl_X0_18 hK.1 rfl (by rw [mput_ne _ _ _ (by omega)]; exact r1) dX0_addRun_116 ?_
            refine x_iload_n (pc := 119) hX rfl rfl dX0_addRun_119 ?_
            refine x_iast (pc := 120) (j := (enc l).length) hX hK.2.2 (by omega) (by omega) (by decide) dX0_addRun_120 ?_
            refine x_aload_n (pc := 121) hX rfl rfl dX0_addRun_121 ?_
            refine x_dup (pc := 122) hX rfl dX0_addRun_122 ?_
            refine x_getI (pc := 123) (v := ((enc l).length : Int)) hX fl_X0_18 hK.1 rfl (by rw [mput_ne _ _ _ (by omega), mput_ne _ _ _ (by omega)]; exact r1) dX0_addRun_123 ?_
            refine x_iconst (pc := 126) hX dX0_addRun_126 ?_
            refine x_iadd (pc := 127) hX dX0_addRun_127 rfl ?_
            refine x_putI (pc := 128) hX fl_X0_18 hK.1 rfl rfl rfl dX0_addRun_128 ?_
            refine x_aload_n (pc := 131) hX rfl rfl dX0_addRun_131 ?_
            refine x_dup (pc := 132) hX rfl dX0_addRun_132 ?_
            refine x_getI (pc := 133) (v := M o 3) hX fl_X0_22 hK.1 rfl (by rw [mp_ne _ _ (by decide), mput_ne _ _ _ (by omega), mput_ne _ _ _ (by omega)]) dX0_addRun_133 ?_
            refine x_iload_n (pc := 136) hX rfl rfl dX0_addRun_136 ?_
            refine x_iadd (pc := 137) hX dX0_addRun_137 rfl ?_
            refine x_putI (pc := 138) hX fl_X0_22 hK.1 rfl rfl rfl dX0_addRun_138 ?_
            refine x_goto (pc := 141) (tgt := 149) hX dX0_addRun_141 (by decide) ?_
            refine x_vret (pc := 149) hX rfl (Nat.zero_le _) (Nat.zero_le _) dX0_addRun_149 ?_
            exact pV_i ⟨hD.more hf hv (by omega) (by omega) (by omega) he, (((Same.put (by omega) (by omega)).tr (Same.put (by omega) (by omega))).tr (Same.put (by omega) (by omega))).tr (Same.put (by omega) (by omega))⟩
        · refine x_aload_n (pc := 40) hX rfl rfl dX0_addRun_40 ?_
          refine x_getI (pc := 41) hX fl_X0_18 hK.1 rfl r1 dX0_addRun_41 ?_
          refine x_bipush (pc := 44) hX (by decide) dX0_addRun_44 ?_
          refine x_icmp_gt (pc := 46) (tgt := 92) hX dX0_addRun_46 (by decide) (by omega) (fun h46 => ?_) (fun h46 => ?_)
          · exfalso; omega
          · refine x_aload_n (pc := 49) hX rfl rfl dX0_addRun_49 ?_
            refine x_getR (pc := 50) hX fl_X0_9 hK.1 rfl dX0_addRun_50 ?_
            refine x_aload_n (pc := 53) hX rfl rfl dX0_addRun_53 ?_
            refine x_getI (pc := 54) hX fl_X0_18 hK.1 rfl r1 dX0_addRun_54 ?_
            refine x_iconst (pc := 57) hX dX0_addRun_57 ?_
            refine x_isub (pc := 58) (v := (((enc l).length - 1 : Nat) : Int)) hX dX0_addRun_58 (by omega) ?_
            have hr9 := enc_rv (l := l) (k := (enc l).length - 1) (by omega)
            have hr8 := hD.1 _ hr9.1
            refine x_iald (pc := 59) (j := (enc l).length - 1) hX hK.2.1 (by omega) (by omega) (by decide) (r3 _ (by omega)).1 dX0_addRun_59 ?_
            refine x_iload_n (pc := 60) hX rfl rfl dX0_addRun_60 ?_
            refine x_icmp_ne (pc := 61) (tgt := 92) hX dX0_addRun_61 (by decide) (by omega) (fun h61 => ?_) (fun h61 => ?_)
            · have he : enc l = [] ∨ rv (enc l) ((enc l).length - 1) ≠ v := Or.inr (by omega)
              refine x_aload_n (pc := 92) hX rfl rfl dX0_addRun_92 ?_
              refine x_getI (pc := 93) hX fl_X0_18 hK.1 rfl r1 dX0_addRun_93 ?_
              refine x_bipush (pc := 96) hX (by decide) dX0_addRun_96 ?_
              refine x_icmp_ge (pc := 98) (tgt := 144) hX dX0_addRun_98 (by decide) (by omega) (fun h98 => ?_) (fun h98 => ?_)
              · refine x_aload_n (pc := 144) hX rfl rfl dX0_addRun_144 ?_
                refine x_iconst (pc := 145) hX dX0_addRun_145 ?_
                refine x_putI (pc := 146) hX fl_X0_25 hK.1 rfl (xn_bool (Or.inr rfl)) (xf_bool (Or.inr rfl)) dX0_addRun_146 ?_
                refine x_vret (pc := 149) hX rfl (Nat.zero_le _) (Nat.zero_le _) dX0_addRun_149 ?_
                refine pV_i ⟨hD.over hx (more_over (by omega) (by omega) he) (mp_eq _ _ _ _), Same.put (by omega) (by omega)⟩
              · refine x_aload_n (pc := 101) hX rfl rfl dX0_addRun_101 ?_
                refine x_getR (pc := 102) hX fl_X0_9 hK.1 rfl dX0_addRun_102 ?_
                refine x_aload_n (pc := 105) hX rfl rfl dX0_addRun_105 ?_
                refine x_getI (pc := 106) hX fl_X0_18 hK.1 rfl r1 dX0_addRun_106 ?_
                refine x_iload_n (pc := 109) hX rfl rfl dX0_addRun_109 ?_
                refine x_iast (pc := 110) (j := (enc l).length) hX hK.2.1 (by omega) (by omega) (by decide) dX0_addRun_110 ?_
                refine x_aload_n (pc := 111) hX rfl rfl dX0_addRun_111 ?_
                refine x_getR (pc := 112) hX fl_X0_15 hK.1 rfl dX0_addRun_112 ?_
                refine x_aload_n (pc := 115) hX rfl rfl dX0_addRun_115 ?_
                refine x_getI (pc := 116) (v := ((enc l).length : Int)) hX fl_X0_18 hK.1 rfl (by rw [mput_ne _ _ _ (by omega)]; exact r1) dX0_addRun_116 ?_
                refine x_iload_n (pc := 119) hX rfl rfl dX0_addRun_119 ?_
                refine x_iast (pc := 120) (j := (enc l).length) hX hK.2.2 (by omega) (by omega) (by decide) dX0_addRun_120 ?_
                refine x_aload_n (pc := 121) hX rfl rfl dX0_addRun_121 ?_
                refine x_dup (pc := 122) hX rfl dX0_addRun_122 ?_
                refine x_getI (pc := 123) (v := ((enc l).length : Int)) hX fl_X0_18 hK.1 rfl (by rw [mput_ne _ _ _ (by omega), mput_ne _ _ _ (by omega)]; exact r1) dX0_addRun_123 ?_
                refine x_iconst (pc := 126) hX dX0_addRun_126 ?_
                refine x_iadd (pc := 127) hX dX0_addRun_127 rfl ?_
                refine x_putI (pc := 128) hX fl_X0_18 hK.1 rfl rfl rfl dX0_addRun_128 ?_
                refine x_aload_n (pc := 131) hX rfl rfl dX0_addRun_131 ?_
                refine x_dup (pc := 132) hX rfl dX0_addRun_132 ?_
                refine x_getI (pc := 133) (v := M o 3) hX fl_X0_22 hK.1 rfl (by rw [mp_ne _ _ (by decide), mput_ne _ _ _ (by omega), mput_ne _ _ _ (by omega)]) dX0_addRun_133 ?_
                refine x_iload_n (pc := 136) hX rfl rfl dX0_addRun_136 ?_
                refine x_iadd (pc := 137) hX dX0_addRun_137 rfl ?_
                refine x_putI (pc := 138) hX fl_X0_22 hK.1 rfl rfl rfl dX0_addRun_138 ?_
                refine x_goto (pc := 141) (tgt := 149) hX dX0_addRun_141 (by decide) ?_
                refine x_vret (pc := 149) hX rfl (Nat.zero_le _) (Nat.zero_le _) dX0_addRun_149 ?_
                exact pV_i ⟨hD.more hf hv (by omega) (by omega) (by omega) he, (((Same.put (by omega) (by omega)).tr (Same.put (by omega) (by omega))).tr (Same.put (by omega) (by omega))).tr (Same.put (by omega) (by omega))⟩
            · refine x_aload_n (pc := 64) hX rfl rfl dX0_addRun_64 ?_
              refine x_getR (pc := 65) hX fl_X0_15 hK.1 rfl dX0_addRun_65 ?_
              refine x_aload_n (pc := 68) hX rfl rfl dX0_addRun_68 ?_
              refine x_getI (pc := 69) hX fl_X0_18 hK.1 rfl r1 dX0_addRun_69 ?_
              refine x_iconst (pc := 72) hX dX0_addRun_72 ?_
              refine x_isub (pc := 73) (v := (((enc l).length - 1 : Nat) : Int)) hX dX0_addRun_73 (by omega) ?_
              refine x_dup2 (pc := 74) hX rfl rfl dX0_addRun_74 ?_
              refine x_iald (pc := 75) (j := (enc l).length - 1) hX hK.2.2 (by omega) (by omega) (by decide) rfl dX0_addRun_75 ?_
              refine x_iload_n (pc := 76) hX rfl rfl dX0_addRun_76 ?_
              refine x_iadd (pc := 77) hX dX0_addRun_77 rfl ?_
              refine x_iast (pc := 78) (j := (enc l).length - 1) hX hK.2.2 (by omega) (by omega) (by decide) dX0_addRun_78 ?_
              refine x_aload_n (pc := 79) hX rfl rfl dX0_addRun_79 ?_
              refine x_dup (pc := 80) hX rfl dX0_addRun_80 ?_
              refine x_getI (pc := 81) (v := M o 3) hX fl_X0_22 hK.1 rfl (congrFun (mput_ne _ _ _ (by omega)) 3) dX0_addRun_81 ?_
              refine x_iload_n (pc := 84) hX rfl rfl dX0_addRun_84 ?_
              refine x_iadd (pc := 85) hX dX0_addRun_85 rfl ?_
              refine x_putI (pc := 86) hX fl_X0_22 hK.1 rfl rfl rfl dX0_addRun_86 ?_
              refine x_goto (pc := 89) (tgt := 149) hX dX0_addRun_89 (by decide) ?_
              refine x_vret (pc := 149) hX rfl (Nat.zero_le _) (Nat.zero_le _) dX0_addRun_149 ?_
              exact pV_i ⟨hD.grow hf hv (by omega) (by omega) (by omega) (by omega), (Same.put (by omega) (by omega)).tr (Same.put (by omega) (by omega))⟩
      · refine x_aload_n (pc := 25) hX rfl rfl dX0_addRun_25 ?_
        refine x_iconst (pc := 26) hX dX0_addRun_26 ?_
        refine x_putI (pc := 27) hX fl_X0_25 hK.1 rfl (xn_bool (Or.inr rfl)) (xf_bool (Or.inr rfl)) dX0_addRun_27 ?_
        refine x_goto (pc := 30) (tgt := 149) hX dX0_addRun_30 (by decide) ?_
        refine x_vret (pc := 149) hX rfl (Nat.zero_le _) (Nat.zero_le _) dX0_addRun_149 ?_
        refine pV_i ⟨hD.over hx (fun z => ?_) (mp_eq _ _ _ _), Same.put (by omega) (by omega)⟩
        have h8 : (l ++ List.replicate j v).length ≤ 999 := z.1
        omega
    · refine x_vret (pc := 12) hX rfl (Nat.zero_le _) (Nat.zero_le _) dX0_addRun_12 ?_
      have hf : ¬ fit l := hD.one h9
      refine pV_i ⟨⟨fun w hw => ?_, fun z => absurd z.left hf, fun _ => by omega⟩, Same.rf⟩
      rcases List.mem_append.mp hw with h | h
      · exact hD.1 w h
      · rw [(List.mem_replicate.mp h).2]; exact hv

set_option maxHeartbeats 4000000 in
set_option maxRecDepth 100000 in
theorem tX0_addRows {G : XG} {κ : XKs} {M : XM} {hs o q : Nat} {l l2 : List Nat} (hK : KCol κ hs o) (hK2 : KCol κ hs q) (hd : q + 3 ≤ o ∨ o + 3 ≤ q) (hD : Dra M o l) (hC : Col M q l2) (a b : Nat) (ha : a ≤ 1000) (hb : b ≤ 1000) : XC G mX0_addRows 1 0 0 [xR o, xR q, xI (a : Int), xI (b : Int)] κ M hs (pV κ hs (fun M' => Dra M' o (l ++ slice l2 a b) ∧ Same o (o + 3) M M')) := by
  refine XC.intro cdX0_addRows (by decide) (by decide) (Nat.le_of_ble_eq_true rfl) (loc := [some (xR o), some (xR q), some (xI (a : Int)), some (xI (b : Int)), none, none, none]) rfl (fun X hX => ?_)
  have loop : ∀ (n k : Nat) (M1 : XM) (z : Option XV), k ≤ (enc l2).length → (enc l2).length < k + n → Dra M1 o (l ++ slice (rows ((enc l2).take k)) a b) → Same o (o + 3) M M1 → XW G X mX0_addRows (xq G (pV κ hs (fun M' => Dra M' o (l ++ slice l2 a b) ∧ Same o (o + 3) M M')) 0 0 X) 0 0 6 [some (xR o), some (xR q), some (xI (a : Int)), some (xI (b : Int)), some (xI (tot ((enc l2).take k) : Int)), some (xI (k : Int)), z] [] κ M1 hs := by
    intro n
    induction n with
    | zero => intro k M1 z h1 h2; omega
    | succ n ih =>
      intro k M1 z h1 h2 hD1 hS1
      have hC1 := hC.same hS1 (by omega)
      have hl := hC1.len
      refine x_iload (pc := 6) hX rfl dX0_addRows_6 ?_
      refine x_aload_n (pc := 8) hX rfl rfl dX0_addRows_8 ?_
      refine x_getI (pc := 9) hX fl_X0_18 hK2.1 rfl hl.1 dX0_addRows_9 ?_
      refine x_icmp_ge (pc := 12) (tgt := 61) hX dX0_addRows_12 (by decide) (by omega) (fun h12 => ?_) (fun h12 => ?_)
      · refine x_vret (pc := 61) hX rfl (Nat.zero_le _) (Nat.zero_le _) dX0_addRows_61 ?_
        refine pV_i ⟨?_, hS1⟩
        rw [List.take_of_length_le (by omega), rows_enc] at hD1
        exact hD1
      · have hk2 : k < (enc l2).length := by omega
        have hm := hC1.mem hk2
        have ht := tot_take_succ hk2
        have ht2 := tot_take_le (enc l2) (k + 1)
        rw [tot_enc] at ht2
        refine x_iload (pc := 15) hX rfl dX0_addRows_15 ?_
        refine x_aload_n (pc := 17) hX rfl rfl dX0_addRows_17 ?_
        refine x_getR (pc := 18) hX fl_X0_15 hK2.1 rfl dX0_addRows_18 ?_
        refine x_iload (pc := 21) hX rfl dX0_addRows_21 ?_
        refine x_iald (pc := 23) (j := k) hX hK2.2.2 (by omega) (by omega) (by decide) hm.2.1 dX0_addRows_23 ?_
        refine x_iadd (pc := 24) (v := (tot ((enc l2).take (k + 1)) : Int)) hX dX0_addRows_24 (by rw [ht]; omega) ?_
        refine x_istore (pc := 25) hX (by decide) rfl rfl dX0_addRows_25 ?_
        refine x_aload_n (pc := 27) hX rfl rfl dX0_addRows_27 ?_
        refine x_aload_n (pc := 28) hX rfl rfl dX0_addRows_28 ?_
        refine x_getR (pc := 29) hX fl_X0_9 hK2.1 rfl dX0_addRows_29 ?_
        refine x_iload (pc := 32) hX rfl dX0_addRows_32 ?_
        refine x_iald (pc := 34) (j := k) hX hK2.2.1 (by omega) (by omega) (by decide) hm.1 dX0_addRows_34 ?_
        refine x_iload (pc := 35) hX rfl dX0_addRows_35 ?_
        refine x_iload_n (pc := 37) hX rfl rfl dX0_addRows_37 ?_
        refine x_min (pc := 38) (v := ((min (tot ((enc l2).take (k + 1))) b : Nat) : Int)) hX lk_X0_57.1 (by omega) (by split <;> omega) (by decide) (Nat.zero_le _) (Nat.zero_le _) (Nat.le_of_ble_eq_true rfl) dX0_addRows_38 ?_
        refine x_iload (pc := 41) hX rfl dX0_addRows_41 ?_
        refine x_iload_n (pc := 43) hX rfl rfl dX0_addRows_43 ?_
        refine x_max (pc := 44) (v := ((max (tot ((enc l2).take k)) a : Nat) : Int)) hX lk_X0_36.1 (by omega) (by split <;> omega) (by decide) (Nat.zero_le _) (Nat.zero_le _) (Nat.le_of_ble_eq_true rfl) dX0_addRows_44 ?_
        refine x_isub (pc := 47) hX dX0_addRows_47 rfl ?_
        refine x_cV_V (pc := 48) hX (tX0_addRun hK hD1 _ hm.2.2.1 _ (by unfold InR; omega)) hK.1 rfl lk_X0_60 rfl rfl (Nat.le_of_ble_eq_true rfl) (by decide) (Nat.zero_le _) (Nat.zero_le _) dX0_addRows_48 (fun M2 hp => ?_)
        obtain ⟨hD2, hS2⟩ := hp
        refine x_iload (pc := 51) hX rfl dX0_addRows_51 ?_
        refine x_istore (pc := 53) hX (by decide) rfl rfl dX0_addRows_53 ?_
        refine x_iinc (pc := 55) (v := ((k + 1 : Nat) : Int)) hX dX0_addRows_55 rfl (by decide) rfl (by omega) rfl ?_
        refine x_goto (pc := 58) (tgt := 6) hX dX0_addRows_58 (by decide) ?_
        refine ih (k + 1) _ _ (by omega) (by omega) ?_ (hS1.tr hS2)
        have e8 := slice_snoc (rows ((enc l2).take k)) (rv (enc l2) k) (rn (enc l2) k) a b
        rw [← rows_take_succ hk2, rows_len] at e8
        rw [e8, ← List.append_assoc]
        have e7 : (((min (tot ((enc l2).take (k + 1))) b : Nat) : Int) - ((max (tot ((enc l2).take k)) a : Nat) : Int)).toNat = min (tot ((enc l2).take k) + rn (enc l2) k) b - max (tot ((enc l2).take k)) a := by omega
        rw [e7] at hD2
        exact hD2
  refine x_iconst (pc := 0) hX dX0_addRows_0 ?_
  refine x_istore (pc := 1) hX (by decide) rfl rfl dX0_addRows_1 ?_
  refine x_iconst (pc := 3) hX dX0_addRows_3 ?_
  refine x_istore (pc := 4) hX (by decide) rfl rfl dX0_addRows_4 ?_
  exact loop ((enc l2).length + 1) 0 M none (by omega) (by omega) (by rw [List.take_zero]; show Dra M o (l ++ slice [] a b); simp only [slice, List.take_nil, List.drop_nil, List.append_nil]; exact hD) Same.rf

set_option maxHeartbeats 4000000 in
set_option maxRecDepth 100000 in
theorem tX0_addTurned {G : XG} {κ : XKs} {M : XM} {hs o q : Nat} {l l2 : List Nat} (hK : KCol κ hs o) (hK2 : KCol κ hs q) (hd : q + 3 ≤ o ∨ o + 3 ≤ q) (hD : Dra M o l) (hC : Col M q l2) : XC G mX0_addTurned 1 0 0 [xR o, xR q] κ M hs (pV κ hs (fun M' => Dra M' o (l ++ l2.reverse) ∧ Same o (o + 3) M M')) := by
  refine XC.intro cdX0_addTurned (by decide) (by decide) (Nat.le_of_ble_eq_true rfl) (loc := [some (xR o), some (xR q), none]) rfl (fun X hX => ?_)
  have hl := hC.len
  have loop : ∀ (n k : Nat) (M1 : XM), k ≤ (enc l2).length → k < n → Dra M1 o (l ++ (rows ((enc l2).drop k)).reverse) → Same o (o + 3) M M1 → XW G X mX0_addTurned (xq G (pV κ hs (fun M' => Dra M' o (l ++ l2.reverse) ∧ Same o (o + 3) M M')) 0 0 X) 0 0 7 [some (xR o), some (xR q), some (xI ((k : Int) - 1))] [] κ M1 hs := by
    intro n
    induction n with
    | zero => intro k M1 h1 h2; omega
    | succ n ih =>
      intro k M1 h1 h2 hD1 hS1
      have hC1 := hC.same hS1 (by omega)
      have hl := hC1.len
      refine x_iload_n (pc := 7) hX rfl rfl dX0_addTurned_7 ?_
      refine x_if_lt (pc := 8) (tgt := 33) hX dX0_addTurned_8 (by decide) (by omega) (fun h8 => ?_) (fun h8 => ?_)
      · refine x_vret (pc := 33) hX rfl (Nat.zero_le _) (Nat.zero_le _) dX0_addTurned_33 ?_
        refine pV_i ⟨?_, hS1⟩
        have hk0 : k = 0 := by omega
        subst hk0
        rw [List.drop_zero, rows_enc] at hD1
        exact hD1
      · have hk2 : k - 1 < (enc l2).length := by omega
        have hm := hC1.mem hk2
        obtain ⟨k, rfl⟩ : ∃ j, k = j + 1 := ⟨k - 1, by omega⟩
        rw [Nat.add_sub_cancel] at hk2 hm
        refine x_aload_n (pc := 11) hX rfl rfl dX0_addTurned_11 ?_
        refine x_aload_n (pc := 12) hX rfl rfl dX0_addTurned_12 ?_
        refine x_getR (pc := 13) hX fl_X0_9 hK2.1 rfl dX0_addTurned_13 ?_
        refine x_iload_n (pc := 16) hX rfl rfl dX0_addTurned_16 ?_
        refine x_iald (pc := 17) (j := k) hX hK2.2.1 (by omega) (by omega) (by decide) hm.1 dX0_addTurned_17 ?_
        refine x_aload_n (pc := 18) hX rfl rfl dX0_addTurned_18 ?_
        refine x_getR (pc := 19) hX fl_X0_15 hK2.1 rfl dX0_addTurned_19 ?_
        refine x_iload_n (pc := 22) hX rfl rfl dX0_addTurned_22 ?_
        refine x_iald (pc := 23) (j := k) hX hK2.2.2 (by omega) (by omega) (by decide) hm.2.1 dX0_addTurned_23 ?_
        refine x_cV_V (pc := 24) hX (tX0_addRun hK hD1 _ hm.2.2.1 _ (by unfold InR; omega)) hK.1 rfl lk_X0_60 rfl rfl (Nat.le_of_ble_eq_true rfl) (by decide) (Nat.zero_le _) (Nat.zero_le _) dX0_addTurned_24 (fun M2 hp => ?_)
        obtain ⟨hD2, hS2⟩ := hp
        refine x_iinc (pc := 27) (v := ((k : Int) - 1)) hX dX0_addTurned_27 rfl (by decide) rfl (by omega) rfl ?_
        refine x_goto (pc := 30) (tgt := 7) hX dX0_addTurned_30 (by decide) ?_
        refine ih k _ (by omega) (by omega) ?_ (hS1.tr hS2)
        have e7 : ((rn (enc l2) k : Int)).toNat = rn (enc l2) k := rfl
        rw [e7, List.append_assoc] at hD2
        have e8 : (rows ((enc l2).drop (k + 1))).reverse ++ List.replicate (rn (enc l2) k) (rv (enc l2) k) = (rows ((enc l2).drop k)).reverse := by
          rw [ru_drop hk2, rows, List.reverse_append, List.reverse_replicate]
        rw [e8] at hD2
        exact hD2
  refine x_aload_n (pc := 0) hX rfl rfl dX0_addTurned_0 ?_
  refine x_getI (pc := 1) hX fl_X0_18 hK2.1 rfl hl.1 dX0_addTurned_1 ?_
  refine x_iconst (pc := 4) hX dX0_addTurned_4 ?_
  refine x_isub (pc := 5) hX dX0_addTurned_5 rfl ?_
  refine x_istore_n (pc := 6) hX rfl (by decide) rfl rfl dX0_addTurned_6 ?_
  exact loop ((enc l2).length + 1) (enc l2).length M (by omega) (by omega) (by rw [ru_end _ (Nat.le_refl _)]; show Dra M o (l ++ []); rw [List.append_nil]; exact hD) Same.rf

