set_option maxHeartbeats 4000000 in
set_option maxRecDepth 100000 in
theorem tX6_isColumn {G : XG} {κ : XKs} {M : XM} {hs : Nat} (a : Int) (ha : InR a) : XC G mX6_isColumn 0 0 0 [xI a] κ M hs (pP κ M hs (xI (if 0 ≤ a ∧ a < 4 then 1 else 0))) := by
  refine XC.intro cdX6_isColumn (by decide) (by decide) (Nat.le_of_ble_eq_true rfl) (loc := [some (xI a)]) rfl (fun X hX => ?_)
  unfold InR at ha
  refine x_iload_n (pc := 0) hX rfl rfl dX6_isColumn_0 ?_
  refine x_if_lt (pc := 1) (tgt := 13) hX dX6_isColumn_1 (by decide) (by omega) (fun h1 => ?_) (fun h1 => ?_)
  · refine x_iconst (pc := 13) hX dX6_isColumn_13 ?_
    refine x_zret (pc := 14) hX rfl (xn_bool (by omega)) (Nat.zero_le _) (Nat.zero_le _) dX6_isColumn_14 ?_
    exact pP_i (by split <;> first | rfl | omega)
  · refine x_iload_n (pc := 4) hX rfl rfl dX6_isColumn_4 ?_
    refine x_iconst (pc := 5) hX dX6_isColumn_5 ?_
    refine x_icmp_ge (pc := 6) (tgt := 13) hX dX6_isColumn_6 (by decide) (by omega) (fun h6 => ?_) (fun h6 => ?_)
    · refine x_iconst (pc := 13) hX dX6_isColumn_13 ?_
      refine x_zret (pc := 14) hX rfl (xn_bool (by omega)) (Nat.zero_le _) (Nat.zero_le _) dX6_isColumn_14 ?_
      exact pP_i (by split <;> first | rfl | omega)
    · refine x_iconst (pc := 9) hX dX6_isColumn_9 ?_
      refine x_goto (pc := 10) (tgt := 14) hX dX6_isColumn_10 (by decide) ?_
      refine x_zret (pc := 14) hX rfl (xn_bool (by omega)) (Nat.zero_le _) (Nat.zero_le _) dX6_isColumn_14 ?_
      exact pP_i (by split <;> first | rfl | omega)

set_option maxHeartbeats 4000000 in
set_option maxRecDepth 100000 in
theorem tX0_runs {G : XG} {κ : XKs} {M : XM} {hs o : Nat} {L : Ru} (hK : KCol κ hs o) (hR : CRep M o L) : XC G mX0_runs 0 0 0 [xR o] κ M hs (pP κ M hs (xI (L.length : Int))) := by
  refine XC.intro cdX0_runs (by decide) (by decide) (Nat.le_of_ble_eq_true rfl) (loc := [some (xR o)]) rfl (fun X hX => ?_)
  refine x_aload_n (pc := 0) hX rfl rfl dX0_runs_0 ?_
  refine x_getI (pc := 1) hX fl_X0_18 hK.1 rfl hR.1 dX0_runs_1 ?_
  refine x_iret (pc := 4) hX rfl (Nat.zero_le _) (Nat.zero_le _) dX0_runs_4 (pP_i rfl)

set_option maxHeartbeats 4000000 in
set_option maxRecDepth 100000 in
theorem tX0_valueOfRun {G : XG} {κ : XKs} {M : XM} {hs o : Nat} {L : Ru} (hK : KCol κ hs o) (hR : CRep M o L) (hG : Good L) (a : Int) (ha : InR a) : XC G mX0_valueOfRun 0 0 0 [xR o, xI a] κ M hs (pP κ M hs (xI (if 0 ≤ a ∧ a < L.length then (rv L a.toNat : Int) else -6))) := by
  refine XC.intro cdX0_valueOfRun (by decide) (by decide) (Nat.le_of_ble_eq_true rfl) (loc := [some (xR o), some (xI a)]) rfl (fun X hX => ?_)
  unfold InR at ha
  have hg1 := hG.1
  refine x_iload_n (pc := 0) hX rfl rfl dX0_valueOfRun_0 ?_
  refine x_if_lt (pc := 1) (tgt := 21) hX dX0_valueOfRun_1 (by decide) (by omega) (fun h1 => ?_) (fun h1 => ?_)
  · refine x_bipush (pc := 21) hX (by decide) dX0_valueOfRun_21 ?_
    refine x_iret (pc := 23) hX rfl (Nat.zero_le _) (Nat.zero_le _) dX0_valueOfRun_23 ?_
    exact pP_i (by first | rw [if_pos (by omega)] | rw [if_neg (by omega)])
  · refine x_iload_n (pc := 4) hX rfl rfl dX0_valueOfRun_4 ?_
    refine x_aload_n (pc := 5) hX rfl rfl dX0_valueOfRun_5 ?_
    refine x_getI (pc := 6) hX fl_X0_18 hK.1 rfl hR.1 dX0_valueOfRun_6 ?_
    refine x_icmp_ge (pc := 9) (tgt := 21) hX dX0_valueOfRun_9 (by decide) (by omega) (fun h9 => ?_) (fun h9 => ?_)
    · refine x_bipush (pc := 21) hX (by decide) dX0_valueOfRun_21 ?_
      refine x_iret (pc := 23) hX rfl (Nat.zero_le _) (Nat.zero_le _) dX0_valueOfRun_23 ?_
      exact pP_i (by first | rw [if_pos (by omega)] | rw [if_neg (by omega)])
    · refine x_aload_n (pc := 12) hX rfl rfl dX0_valueOfRun_12 ?_
      refine x_getR (pc := 13) hX fl_X0_9 hK.1 rfl dX0_valueOfRun_13 ?_
      refine x_iload_n (pc := 16) hX rfl rfl dX0_valueOfRun_16 ?_
      have hn : a.toNat < L.length := by omega
      refine x_iald (pc := 17) (j := a.toNat) hX hK.2.1 (by omega) (by omega) (by decide) (hR.2.2 _ hn).1 dX0_valueOfRun_17 ?_
      refine x_goto (pc := 18) (tgt := 23) hX dX0_valueOfRun_18 (by decide) ?_
      refine x_iret (pc := 23) hX rfl (Nat.zero_le _) (Nat.zero_le _) dX0_valueOfRun_23 ?_
      exact pP_i (by first | rw [if_pos (by omega)] | rw [if_neg (by omega)])

def fRows (v : Int) : Int → Ru → Int
  | acc, [] => acc
  | acc, (w, n) :: t => fRows v (if (w : Int) = v then acc + n else acc) t
set_option maxHeartbeats 4000000 in
set_option maxRecDepth 100000 in
theorem tX0_rowsOf {G : XG} {κ : XKs} {M : XM} {hs o : Nat} {L : Ru} (hK : KCol κ hs o) (hR : CRep M o L) (hG : Good L) (v : Int) (hv : InR v) : XC G mX0_rowsOf 0 0 0 [xR o, xI v] κ M hs (pP κ M hs (xI (fRows v 0 L))) := by
  refine XC.intro cdX0_rowsOf (by decide) (by decide) (Nat.le_of_ble_eq_true rfl) (loc := [some (xR o), some (xI v), none, none]) rfl (fun X hX => ?_)
  unfold InR at hv
  have hg1 := hG.1
  have loop : ∀ (n k : Nat) (acc : Int), k ≤ L.length → L.length < k + n → fRows v acc (L.drop k) = fRows v 0 L → XW G X mX0_rowsOf (xq G (pP κ M hs (xI (fRows v 0 L))) 0 0 X) 0 0 4 [some (xR o), some (xI v), some (xI acc), some (xI (k : Int))] [] κ M hs := by
    intro n
    induction n with
    | zero => intro k acc h1 h2; omega
    | succ n ih =>
      intro k acc h1 h2 hF
      refine x_iload_n (pc := 4) hX rfl rfl dX0_rowsOf_4 ?_
      refine x_aload_n (pc := 5) hX rfl rfl dX0_rowsOf_5 ?_
      refine x_getI (pc := 6) hX fl_X0_18 hK.1 rfl hR.1 dX0_rowsOf_6 ?_
      refine x_icmp_ge (pc := 9) (tgt := 37) hX dX0_rowsOf_9 (by decide) (by omega) (fun h9 => ?_) (fun h9 => ?_)
      · refine x_iload_n (pc := 37) hX rfl rfl dX0_rowsOf_37 ?_
        refine x_iret (pc := 38) hX rfl (Nat.zero_le _) (Nat.zero_le _) dX0_rowsOf_38 ?_
        refine pP_i (congrArg xI ?_)
        rw [← hF, ru_end L (by omega)]; rfl
      · have hk2 : k < L.length := by omega
        have hm := hG.mem hk2
        have hr2 := hR.2.2 k hk2
        refine x_aload_n (pc := 12) hX rfl rfl dX0_rowsOf_12 ?_
        refine x_getR (pc := 13) hX fl_X0_9 hK.1 rfl dX0_rowsOf_13 ?_
        refine x_iload_n (pc := 16) hX rfl rfl dX0_rowsOf_16 ?_
        refine x_iald (pc := 17) (j := k) hX hK.2.1 (by omega) (by omega) (by decide) hr2.1 dX0_rowsOf_17 ?_
        refine x_iload_n (pc := 18) hX rfl rfl dX0_rowsOf_18 ?_
        refine x_icmp_ne (pc := 19) (tgt := 31) hX dX0_rowsOf_19 (by decide) (by omega) (fun h19 => ?_) (fun h19 => ?_)
        · refine x_iinc (pc := 31) (v := ((k + 1 : Nat) : Int)) hX dX0_rowsOf_31 rfl (by decide) rfl (by omega) rfl ?_
          refine x_goto (pc := 34) (tgt := 4) hX dX0_rowsOf_34 (by decide) ?_
          first
          | exact ih (k + 1) _ (by omega) (by omega) (by rw [← hF, ru_drop hk2]; show _ = fRows v (if (rv L k : Int) = v then acc + rn L k else acc) _; rw [if_pos (by omega)])
          | exact ih (k + 1) _ (by omega) (by omega) (by rw [← hF, ru_drop hk2]; show _ = fRows v (if (rv L k : Int) = v then acc + rn L k else acc) _; rw [if_neg (by omega)])
        · refine x_iload_n (pc := 22) hX rfl rfl dX0_rowsOf_22 ?_
          refine x_aload_n (pc := 23) hX rfl rfl dX0_rowsOf_23 ?_
          refine x_getR (pc := 24) hX fl_X0_15 hK.1 rfl dX0_rowsOf_24 ?_
          refine x_iload_n (pc := 27) hX rfl rfl dX0_rowsOf_27 ?_
          refine x_iald (pc := 28) (j := k) hX hK.2.2 (by omega) (by omega) (by decide) hr2.2 dX0_rowsOf_28 ?_
          refine x_iadd (pc := 29) hX dX0_rowsOf_29 rfl ?_
          refine x_istore_n (pc := 30) hX rfl (by decide) rfl rfl dX0_rowsOf_30 ?_
          refine x_iinc (pc := 31) (v := ((k + 1 : Nat) : Int)) hX dX0_rowsOf_31 rfl (by decide) rfl (by omega) rfl ?_
          refine x_goto (pc := 34) (tgt := 4) hX dX0_rowsOf_34 (by decide) ?_
          first
          | exact ih (k + 1) _ (by omega) (by omega) (by rw [← hF, ru_drop hk2]; show _ = fRows v (if (rv L k : Int) = v then acc + rn L k else acc) _; rw [if_pos (by omega)])
          | exact ih (k + 1) _ (by omega) (by omega) (by rw [← hF, ru_drop hk2]; show _ = fRows v (if (rv L k : Int) = v then acc + rn L k else acc) _; rw [if_neg (by omega)])
  refine x_iconst (pc := 0) hX dX0_rowsOf_0 ?_
  refine x_istore_n (pc := 1) hX rfl (by decide) rfl rfl dX0_rowsOf_1 ?_
  refine x_iconst (pc := 2) hX dX0_rowsOf_2 ?_
  refine x_istore_n (pc := 3) hX rfl (by decide) rfl rfl dX0_rowsOf_3 ?_
  exact loop (L.length + 1) 0 0 (by omega) (by omega) rfl
