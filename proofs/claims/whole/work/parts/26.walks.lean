/-! walks over two columns -/
set_option maxHeartbeats 4000000 in
set_option maxRecDepth 100000 in
theorem tX4_init {G : XG} {κ : XKs} {M : XM} {hs w o1 o2 : Nat} (hO : xO κ hs w (kO 4 [fN, fN, fI, fI, fI, fI, fI, fI, fI, fI])) : XC G mX4_init 1 0 0 [xR w, xR o1, xR o2] κ M hs (fun r κ' M' hs' => r = none ∧ M' = M ∧ hs' = hs ∧ (∀ q, q ≠ w → κ' q = κ q) ∧ κ' w = kWalk o1 o2) := by
  refine XC.intro cdX4_init (by decide) (by decide) (Nat.le_of_ble_eq_true rfl) (loc := [some (xR w), some (xR o1), some (xR o2)]) rfl (fun X hX => ?_)
  refine x_aload_n (pc := 0) hX rfl rfl dX4_init_0 ?_
  refine x_objInit (pc := 1) hX tw_368 (Nat.le_of_ble_eq_true rfl) (by decide) dX4_init_1 ?_
  refine x_aload_n (pc := 4) hX rfl rfl dX4_init_4 ?_
  refine x_aload_n (pc := 5) hX rfl rfl dX4_init_5 ?_
  refine x_putR (pc := 6) hX fl_X4_7 hO (Nat.le_of_ble_eq_true rfl) rfl rfl (fun _ => ⟨rfl, _, _, rfl⟩) dX4_init_6 ?_
  refine x_aload_n (pc := 9) hX rfl rfl dX4_init_9 ?_
  refine x_aload_n (pc := 10) hX rfl rfl dX4_init_10 ?_
  refine x_putR (pc := 11) hX fl_X4_13 (⟨hO.1, kset_self _ _ _⟩ : xO (kset κ w (kO 4 [fR o1, fN, fI, fI, fI, fI, fI, fI, fI, fI])) hs w (kO 4 [fR o1, fN, fI, fI, fI, fI, fI, fI, fI, fI])) (Nat.le_of_ble_eq_true rfl) rfl rfl (fun _ => ⟨rfl, _, _, rfl⟩) dX4_init_11 ?_
  refine x_vret (pc := 14) hX rfl (Nat.zero_le _) (Nat.zero_le _) dX4_init_14 ?_
  exact ⟨rfl, rfl, rfl, fun q hq => by rw [kset_ne _ _ hq, kset_ne _ _ hq], kset_self _ _ _⟩

set_option maxHeartbeats 4000000 in
set_option maxRecDepth 100000 in
theorem tX6_walkOver {G : XG} {κ : XKs} {M : XM} {hs : Nat} (hK : KX κ hs) {S : Sx} (hS : RX M S) (hh : 151 ≤ hs) (a b : Nat) (ha : a < 4) (hb : b < 4) : XC G mX6_walkOver 2 1 10 [xR 0, xI (a : Int), xI (b : Int)] κ M hs (fun r κ' M' hs' => r = some (xR hs) ∧ hs' = hs + 1 ∧ (∀ q, q < hs → κ' q = κ q) ∧ (∀ q, q < hs → M' q = M q) ∧ WalkAt κ' M' (hs + 1) hs (3 + 3 * a) (3 + 3 * b) (S.1 a) (S.1 b) (enc (S.1 a)) (enc (S.1 b)) 0) := by
  refine XC.intro cdX6_walkOver (by decide) (by decide) (Nat.le_of_ble_eq_true rfl) (loc := [some (xR 0), some (xI (a : Int)), some (xI (b : Int))]) rfl (fun X hX => ?_)
  refine x_new (pc := 0) hX cl_X6_170 nfX4 (by intro o h; simp [flX4] at h) (by decide) (by decide) dX6_walkOver_0 ?_
  have hκ1 : ∀ q, q < hs → kset κ hs (kO 4 flX4) q = κ q := fun q hq => kset_ne _ _ (Nat.ne_of_lt hq)
  have hM1 : ∀ q, q < hs → mset M hs (fun _ => 0) q = M q := fun q hq => mset_ne _ _ (Nat.ne_of_lt hq)
  have hK1 := hK.mono (κ' := kset κ hs (kO 4 flX4)) (hs' := hs + 1) hκ1 (Nat.le_succ _)
  refine x_dup (pc := 3) hX rfl dX6_walkOver_3 ?_
  refine x_aload_n (pc := 4) hX rfl rfl dX6_walkOver_4 ?_
  refine x_getR (pc := 5) hX fl_X6_12 hK1.1 rfl dX6_walkOver_5 ?_
  refine x_iload_n (pc := 8) hX rfl rfl dX6_walkOver_8 ?_
  refine x_cV_P (pc := 9) hX (tX5_column hK1.2.1 a ha) hK1.2.1.1 rfl lk_X6_64 rfl rfl (Nat.le_of_ble_eq_true rfl) (by decide) (by decide) (by decide) dX6_walkOver_9 ?_
  refine x_aload_n (pc := 12) hX rfl rfl dX6_walkOver_12 ?_
  refine x_getR (pc := 13) hX fl_X6_12 hK1.1 rfl dX6_walkOver_13 ?_
  refine x_iload_n (pc := 16) hX rfl rfl dX6_walkOver_16 ?_
  refine x_cV_P (pc := 17) hX (tX5_column hK1.2.1 b hb) hK1.2.1.1 rfl lk_X6_64 rfl rfl (Nat.le_of_ble_eq_true rfl) (by decide) (by decide) (by decide) dX6_walkOver_17 ?_
  refine x_callI (pc := 20) hX (tX4_init (w := hs) (⟨Nat.lt_succ_self _, kset_self _ _ _⟩ : xO (kset κ hs (kO 4 flX4)) (hs + 1) hs (kO 4 flX4))) rfl lk_X6_299 rfl rfl (Nat.le_of_ble_eq_true rfl) (by decide) (by decide) (by decide) dX6_walkOver_20 (fun r κ' M' hs' hp => ?_)
  obtain ⟨rfl, rfl, rfl, hq, hw⟩ := hp
  refine x_aret (pc := 23) hX rfl (by decide) (by decide) dX6_walkOver_23 ?_
  refine ⟨rfl, rfl, fun q hq2 => by rw [hq q (Nat.ne_of_lt hq2), hκ1 q hq2], hM1, ⟨Nat.lt_succ_self _, hw⟩, ?_, ?_, by omega, ?_, ?_, WS.start (fun j => by rw [mset_self])⟩
  · exact (hK.col ha).mono (fun q hq2 => by rw [hq q (Nat.ne_of_lt hq2), hκ1 q hq2]) (Nat.le_succ _)
  · exact (hK.col hb).mono (fun q hq2 => by rw [hq q (Nat.ne_of_lt hq2), hκ1 q hq2]) (Nat.le_succ _)
  · exact (hS.ok ha).congr (fun q h1 h2 => hM1 q (by omega))
  · exact (hS.ok hb).congr (fun q h1 h2 => hM1 q (by omega))

set_option maxHeartbeats 4000000 in
set_option maxRecDepth 100000 in
theorem tX6_runsOfPairs {G : XG} {κ : XKs} {M : XM} {hs w o1 o2 : Nat} {l1 l2 : List Nat} {A B : Ru} {t : Int} (hW : WalkAt κ M hs w o1 o2 l1 l2 A B t) (hAB : A.length + B.length ≤ 80) (R0 : Int) (hR0 : ((zr A B).length : Int) = R0) : XC G mX6_runsOfPairs 2 0 0 [xR w] κ M hs (pI κ hs (fun a M' => Same w (w + 1) M M' ∧ a = R0)) := by
  refine XC.intro cdX6_runsOfPairs (by decide) (by decide) (Nat.le_of_ble_eq_true rfl) (loc := [some (xR w), none, none]) rfl (fun X hX => ?_)
  have loop : ∀ (n k : Nat) (acc : Int) (A B : Ru) (t : Int) (M1 : XM), k ≤ 80 → 80 < k + n → k + A.length + B.length ≤ 80 → WalkAt κ M1 hs w o1 o2 l1 l2 A B t → Same w (w + 1) M M1 → acc + ((zr A B).length : Int) = R0 → XW G X mX6_runsOfPairs (xq G (pI κ hs (fun a M' => Same w (w + 1) M M' ∧ a = R0)) 0 0 X) 0 0 4 [some (xR w), some (xI acc), some (xI (k : Int))] [] κ M1 hs := by
    intro n
    induction n with
    | zero => intro k acc A B t M1 h1 h2; omega
    | succ n ih =>
      intro k acc A B t M1 h1 h2 h3 hW1 hq1 hF
      refine x_iload_n (pc := 4) hX rfl rfl dX6_runsOfPairs_4 ?_
      refine x_bipush (pc := 5) hX (by decide) dX6_runsOfPairs_5 ?_
      refine x_icmp_ge (pc := 7) (tgt := 26) hX dX6_runsOfPairs_7 (by decide) (by omega) (fun h7 => ?_) (fun h7 => ?_)
      · have he : A = [] := List.eq_nil_of_length_eq_zero (by omega)
        rw [zr_none (Or.inl he)] at hF
        refine x_iload_n (pc := 26) hX rfl rfl dX6_runsOfPairs_26 ?_
        refine x_iret (pc := 27) hX rfl (Nat.zero_le _) (Nat.zero_le _) dX6_runsOfPairs_27 ?_
        exact pI_i ⟨hq1, (by rw [← hF]; simp)⟩
      · refine x_aload_n (pc := 10) hX rfl rfl dX6_runsOfPairs_10 ?_
        refine x_cV_I (pc := 11) hX (tX4_advance hW1.1 hW1.2.1 hW1.2.2.1 hW1.2.2.2.1 hW1.2.2.2.2.1 hW1.2.2.2.2.2.1 hW1.2.2.2.2.2.2) hW1.1 rfl lk_X6_169 rfl rfl (Nat.le_of_ble_eq_true rfl) (by decide) (Nat.zero_le _) (Nat.zero_le _) dX6_runsOfPairs_11 (fun a M2 hp => ?_)
        obtain ⟨hq2, hno, hyes⟩ := hp
        by_cases he : A = [] ∨ B = []
        · obtain ⟨rfl, hS2⟩ := hno he
          rw [zr_none he] at hF
          refine x_if_eq (pc := 14) (tgt := 26) hX dX6_runsOfPairs_14 (by decide) (by omega) (fun h14 => ?_) (fun h14 => ?_)
          · refine x_iload_n (pc := 26) hX rfl rfl dX6_runsOfPairs_26 ?_
            refine x_iret (pc := 27) hX rfl (Nat.zero_le _) (Nat.zero_le _) dX6_runsOfPairs_27 ?_
            exact pI_i ⟨hq1.tr hq2, (by rw [← hF]; simp)⟩
          · exfalso; omega
        · obtain ⟨v, n9, s, u, m9, r, rfl, rfl⟩ := ru_two he
          obtain ⟨rfl, h6, h7, h8, h9, hS2⟩ := hyes v n9 s u m9 r rfl rfl
          have hW2 := hW1.nxt hq2 hS2
          have hd := hW1.2.2.2.2.2.2.hd (o1 := o1) (o2 := o2) hW1.2.2.2.2.1.2.2 hW1.2.2.2.2.2.1.2.2
          have hc2 := cut2_len v n9 u m9 s r
          rw [zr_cons] at hF
          simp only [List.length_cons] at h3
          refine x_if_eq (pc := 14) (tgt := 26) hX dX6_runsOfPairs_14 (by decide) (by omega) (fun h14 => ?_) (fun h14 => ?_)
          · exfalso; omega
          · refine x_iinc (pc := 17) hX dX6_runsOfPairs_17 rfl (by decide) rfl rfl rfl ?_
            refine x_iinc (pc := 20) (v := ((k + 1 : Nat) : Int)) hX dX6_runsOfPairs_20 rfl (by decide) rfl (by omega) rfl ?_
            refine x_goto (pc := 23) (tgt := 4) hX dX6_runsOfPairs_23 (by decide) ?_
            exact ih (k + 1) _ _ _ _ M2 (by omega) (by omega) (by omega) hW2 (hq1.tr hq2) (by rw [← hF, List.length_cons]; omega)
  refine x_iconst (pc := 0) hX dX6_runsOfPairs_0 ?_
  refine x_istore_n (pc := 1) hX rfl (by decide) rfl rfl dX6_runsOfPairs_1 ?_
  refine x_iconst (pc := 2) hX dX6_runsOfPairs_2 ?_
  refine x_istore_n (pc := 3) hX rfl (by decide) rfl rfl dX6_runsOfPairs_3 ?_
  exact loop 81 0 0 A B t M (by omega) (by omega) (by omega) hW Same.rf (by rw [← hR0]; omega)

set_option maxHeartbeats 4000000 in
set_option maxRecDepth 100000 in
theorem tX6_rowsAlike {G : XG} {κ : XKs} {M : XM} {hs w o1 o2 : Nat} {l1 l2 : List Nat} {A B : Ru} {t : Int} (hW : WalkAt κ M hs w o1 o2 l1 l2 A B t) (hAB : A.length + B.length ≤ 80) (R0 : Int) (hR0 : gAl 0 (zr A B) = R0) : XC G mX6_rowsAlike 2 0 0 [xR w] κ M hs (pI κ hs (fun a M' => Same w (w + 1) M M' ∧ a = R0)) := by
  refine XC.intro cdX6_rowsAlike (by decide) (by decide) (Nat.le_of_ble_eq_true rfl) (loc := [some (xR w), none, none]) rfl (fun X hX => ?_)
  have loop : ∀ (n k : Nat) (acc : Int) (A B : Ru) (t : Int) (M1 : XM), k ≤ 80 → 80 < k + n → k + A.length + B.length ≤ 80 → WalkAt κ M1 hs w o1 o2 l1 l2 A B t → Same w (w + 1) M M1 → gAl acc (zr A B) = R0 → XW G X mX6_rowsAlike (xq G (pI κ hs (fun a M' => Same w (w + 1) M M' ∧ a = R0)) 0 0 X) 0 0 4 [some (xR w), some (xI acc), some (xI (k : Int))] [] κ M1 hs := by
    intro n
    induction n with
    | zero => intro k acc A B t M1 h1 h2; omega
    | succ n ih =>
      intro k acc A B t M1 h1 h2 h3 hW1 hq1 hF
      refine x_iload_n (pc := 4) hX rfl rfl dX6_rowsAlike_4 ?_
      refine x_bipush (pc := 5) hX (by decide) dX6_rowsAlike_5 ?_
      refine x_icmp_ge (pc := 7) (tgt := 37) hX dX6_rowsAlike_7 (by decide) (by omega) (fun h7 => ?_) (fun h7 => ?_)
      · have he : A = [] := List.eq_nil_of_length_eq_zero (by omega)
        rw [zr_none (Or.inl he)] at hF
        refine x_iload_n (pc := 37) hX rfl rfl dX6_rowsAlike_37 ?_
        refine x_iret (pc := 38) hX rfl (Nat.zero_le _) (Nat.zero_le _) dX6_rowsAlike_38 ?_
        exact pI_i ⟨hq1, hF⟩
      · refine x_aload_n (pc := 10) hX rfl rfl dX6_rowsAlike_10 ?_
        refine x_cV_I (pc := 11) hX (tX4_advance hW1.1 hW1.2.1 hW1.2.2.1 hW1.2.2.2.1 hW1.2.2.2.2.1 hW1.2.2.2.2.2.1 hW1.2.2.2.2.2.2) hW1.1 rfl lk_X6_169 rfl rfl (Nat.le_of_ble_eq_true rfl) (by decide) (Nat.zero_le _) (Nat.zero_le _) dX6_rowsAlike_11 (fun a M2 hp => ?_)
        obtain ⟨hq2, hno, hyes⟩ := hp
        by_cases he : A = [] ∨ B = []
        · obtain ⟨rfl, hS2⟩ := hno he
          rw [zr_none he] at hF
          refine x_if_eq (pc := 14) (tgt := 37) hX dX6_rowsAlike_14 (by decide) (by omega) (fun h14 => ?_) (fun h14 => ?_)
          · refine x_iload_n (pc := 37) hX rfl rfl dX6_rowsAlike_37 ?_
            refine x_iret (pc := 38) hX rfl (Nat.zero_le _) (Nat.zero_le _) dX6_rowsAlike_38 ?_
            exact pI_i ⟨hq1.tr hq2, hF⟩
          · exfalso; omega
        · obtain ⟨v, n9, s, u, m9, r, rfl, rfl⟩ := ru_two he
          obtain ⟨rfl, h6, h7, h8, h9, hS2⟩ := hyes v n9 s u m9 r rfl rfl
          have hW2 := hW1.nxt hq2 hS2
          have hd := hW1.2.2.2.2.2.2.hd (o1 := o1) (o2 := o2) hW1.2.2.2.2.1.2.2 hW1.2.2.2.2.2.1.2.2
          have hc2 := cut2_len v n9 u m9 s r
          rw [zr_cons] at hF
          simp only [List.length_cons] at h3
          refine x_if_eq (pc := 14) (tgt := 37) hX dX6_rowsAlike_14 (by decide) (by omega) (fun h14 => ?_) (fun h14 => ?_)
          · exfalso; omega
          · refine x_aload_n (pc := 17) hX rfl rfl dX6_rowsAlike_17 ?_
            refine x_cV_P (pc := 18) hX (tX4_isAlike hW2.1 h6 h7 (by omega) (by omega)) hW2.1 rfl lk_X6_262 rfl rfl (Nat.le_of_ble_eq_true rfl) (by decide) (Nat.zero_le _) (Nat.zero_le _) dX6_rowsAlike_18 ?_
            by_cases hvu : v = u
            · rw [if_pos hvu]
              refine x_if_eq (pc := 21) (tgt := 31) hX dX6_rowsAlike_21 (by decide) (by omega) (fun h21 => ?_) (fun h21 => ?_)
              · exfalso; omega
              · refine x_iload_n (pc := 24) hX rfl rfl dX6_rowsAlike_24 ?_
                refine x_aload_n (pc := 25) hX rfl rfl dX6_rowsAlike_25 ?_
                refine x_cV_P (pc := 26) hX (tX4_length hW2.1 h9) hW2.1 rfl lk_X6_180 rfl rfl (Nat.le_of_ble_eq_true rfl) (by decide) (Nat.zero_le _) (Nat.zero_le _) dX6_rowsAlike_26 ?_
                refine x_iadd (pc := 29) hX dX6_rowsAlike_29 rfl ?_
                refine x_istore_n (pc := 30) hX rfl (by decide) rfl rfl dX6_rowsAlike_30 ?_
                refine x_iinc (pc := 31) (v := ((k + 1 : Nat) : Int)) hX dX6_rowsAlike_31 rfl (by decide) rfl (by omega) rfl ?_
                refine x_goto (pc := 34) (tgt := 4) hX dX6_rowsAlike_34 (by decide) ?_
                exact ih (k + 1) _ _ _ _ M2 (by omega) (by omega) (by omega) hW2 (hq1.tr hq2) (by rw [← hF, gAl]; first | rw [if_pos (show v = u by omega)] | rw [if_neg (show ¬ v = u by omega)])
            · rw [if_neg hvu]
              refine x_if_eq (pc := 21) (tgt := 31) hX dX6_rowsAlike_21 (by decide) (by omega) (fun h21 => ?_) (fun h21 => ?_)
              · refine x_iinc (pc := 31) (v := ((k + 1 : Nat) : Int)) hX dX6_rowsAlike_31 rfl (by decide) rfl (by omega) rfl ?_
                refine x_goto (pc := 34) (tgt := 4) hX dX6_rowsAlike_34 (by decide) ?_
                exact ih (k + 1) _ _ _ _ M2 (by omega) (by omega) (by omega) hW2 (hq1.tr hq2) (by rw [← hF, gAl]; first | rw [if_pos (show v = u by omega)] | rw [if_neg (show ¬ v = u by omega)])
              · exfalso; omega
  refine x_iconst (pc := 0) hX dX6_rowsAlike_0 ?_
  refine x_istore_n (pc := 1) hX rfl (by decide) rfl rfl dX6_rowsAlike_1 ?_
  refine x_iconst (pc := 2) hX dX6_rowsAlike_2 ?_
  refine x_istore_n (pc := 3) hX rfl (by decide) rfl rfl dX6_rowsAlike_3 ?_
  exact loop 81 0 0 A B t M (by omega) (by omega) (by omega) hW Same.rf hR0

set_option maxHeartbeats 4000000 in
set_option maxRecDepth 100000 in
theorem tX6_sumOfProducts {G : XG} {κ : XKs} {M : XM} {hs w o1 o2 : Nat} {l1 l2 : List Nat} {A B : Ru} {t : Int} (hW : WalkAt κ M hs w o1 o2 l1 l2 A B t) (hAB : A.length + B.length ≤ 80) (R0 : Int) (hR0 : gSm 0 (zr A B) = R0) : XC G mX6_sumOfProducts 2 0 0 [xR w] κ M hs (pI κ hs (fun a M' => Same w (w + 1) M M' ∧ a = R0)) := by
  refine XC.intro cdX6_sumOfProducts (by decide) (by decide) (Nat.le_of_ble_eq_true rfl) (loc := [some (xR w), none, none]) rfl (fun X hX => ?_)
  have loop : ∀ (n k : Nat) (acc : Int) (A B : Ru) (t : Int) (M1 : XM), k ≤ 80 → 80 < k + n → k + A.length + B.length ≤ 80 → WalkAt κ M1 hs w o1 o2 l1 l2 A B t → Same w (w + 1) M M1 → gSm acc (zr A B) = R0 → XW G X mX6_sumOfProducts (xq G (pI κ hs (fun a M' => Same w (w + 1) M M' ∧ a = R0)) 0 0 X) 0 0 4 [some (xR w), some (xI acc), some (xI (k : Int))] [] κ M1 hs := by
    intro n
    induction n with
    | zero => intro k acc A B t M1 h1 h2; omega
    | succ n ih =>
      intro k acc A B t M1 h1 h2 h3 hW1 hq1 hF
      refine x_iload_n (pc := 4) hX rfl rfl dX6_sumOfProducts_4 ?_
      refine x_bipush (pc := 5) hX (by decide) dX6_sumOfProducts_5 ?_
      refine x_icmp_ge (pc := 7) (tgt := 40) hX dX6_sumOfProducts_7 (by decide) (by omega) (fun h7 => ?_) (fun h7 => ?_)
      · have he : A = [] := List.eq_nil_of_length_eq_zero (by omega)
        rw [zr_none (Or.inl he)] at hF
        refine x_iload_n (pc := 40) hX rfl rfl dX6_sumOfProducts_40 ?_
        refine x_iret (pc := 41) hX rfl (Nat.zero_le _) (Nat.zero_le _) dX6_sumOfProducts_41 ?_
        exact pI_i ⟨hq1, hF⟩
      · refine x_aload_n (pc := 10) hX rfl rfl dX6_sumOfProducts_10 ?_
        refine x_cV_I (pc := 11) hX (tX4_advance hW1.1 hW1.2.1 hW1.2.2.1 hW1.2.2.2.1 hW1.2.2.2.2.1 hW1.2.2.2.2.2.1 hW1.2.2.2.2.2.2) hW1.1 rfl lk_X6_169 rfl rfl (Nat.le_of_ble_eq_true rfl) (by decide) (Nat.zero_le _) (Nat.zero_le _) dX6_sumOfProducts_11 (fun a M2 hp => ?_)
        obtain ⟨hq2, hno, hyes⟩ := hp
        by_cases he : A = [] ∨ B = []
        · obtain ⟨rfl, hS2⟩ := hno he
          rw [zr_none he] at hF
          refine x_if_eq (pc := 14) (tgt := 40) hX dX6_sumOfProducts_14 (by decide) (by omega) (fun h14 => ?_) (fun h14 => ?_)
          · refine x_iload_n (pc := 40) hX rfl rfl dX6_sumOfProducts_40 ?_
            refine x_iret (pc := 41) hX rfl (Nat.zero_le _) (Nat.zero_le _) dX6_sumOfProducts_41 ?_
            exact pI_i ⟨hq1.tr hq2, hF⟩
          · exfalso; omega
        · obtain ⟨v, n9, s, u, m9, r, rfl, rfl⟩ := ru_two he
          obtain ⟨rfl, h6, h7, h8, h9, hS2⟩ := hyes v n9 s u m9 r rfl rfl
          have hW2 := hW1.nxt hq2 hS2
          have hd := hW1.2.2.2.2.2.2.hd (o1 := o1) (o2 := o2) hW1.2.2.2.2.1.2.2 hW1.2.2.2.2.2.1.2.2
          have hc2 := cut2_len v n9 u m9 s r
          rw [zr_cons] at hF
          simp only [List.length_cons] at h3
          refine x_if_eq (pc := 14) (tgt := 40) hX dX6_sumOfProducts_14 (by decide) (by omega) (fun h14 => ?_) (fun h14 => ?_)
          · exfalso; omega
          · refine x_iload_n (pc := 17) hX rfl rfl dX6_sumOfProducts_17 ?_
            refine x_aload_n (pc := 18) hX rfl rfl dX6_sumOfProducts_18 ?_
            refine x_cV_P (pc := 19) hX (tX4_valueOfOne hW2.1 h6) hW2.1 rfl lk_X6_174 rfl rfl (Nat.le_of_ble_eq_true rfl) (by decide) (Nat.zero_le _) (Nat.zero_le _) dX6_sumOfProducts_19 ?_
            refine x_aload_n (pc := 22) hX rfl rfl dX6_sumOfProducts_22 ?_
            refine x_cV_P (pc := 23) hX (tX4_valueOfOther hW2.1 h7) hW2.1 rfl lk_X6_177 rfl rfl (Nat.le_of_ble_eq_true rfl) (by decide) (Nat.zero_le _) (Nat.zero_le _) dX6_sumOfProducts_23 ?_
            refine x_imul (pc := 26) hX dX6_sumOfProducts_26 rfl ?_
            refine x_aload_n (pc := 27) hX rfl rfl dX6_sumOfProducts_27 ?_
            refine x_cV_P (pc := 28) hX (tX4_length hW2.1 h9) hW2.1 rfl lk_X6_180 rfl rfl (Nat.le_of_ble_eq_true rfl) (by decide) (Nat.zero_le _) (Nat.zero_le _) dX6_sumOfProducts_28 ?_
            refine x_imul (pc := 31) hX dX6_sumOfProducts_31 rfl ?_
            refine x_iadd (pc := 32) hX dX6_sumOfProducts_32 rfl ?_
            refine x_istore_n (pc := 33) hX rfl (by decide) rfl rfl dX6_sumOfProducts_33 ?_
            refine x_iinc (pc := 34) (v := ((k + 1 : Nat) : Int)) hX dX6_sumOfProducts_34 rfl (by decide) rfl (by omega) rfl ?_
            refine x_goto (pc := 37) (tgt := 4) hX dX6_sumOfProducts_37 (by decide) ?_
            exact ih (k + 1) _ _ _ _ M2 (by omega) (by omega) (by omega) hW2 (hq1.tr hq2) (by rw [← hF, gSm])
  refine x_iconst (pc := 0) hX dX6_sumOfProducts_0 ?_
  refine x_istore_n (pc := 1) hX rfl (by decide) rfl rfl dX6_sumOfProducts_1 ?_
  refine x_iconst (pc := 2) hX dX6_sumOfProducts_2 ?_
  refine x_istore_n (pc := 3) hX rfl (by decide) rfl rfl dX6_sumOfProducts_3 ?_
  exact loop 81 0 0 A B t M (by omega) (by omega) (by omega) hW Same.rf hR0

set_option maxHeartbeats 4000000 in
set_option maxRecDepth 100000 in
theorem tX6_unlikePairs {G : XG} {κ : XKs} {M : XM} {hs : Nat} (hK : KX κ hs) {w o1 o2 : Nat} {l1 l2 : List Nat} {A B : Ru} {t : Int} (hW : WalkAt κ M hs w o1 o2 l1 l2 A B t) (hAB : A.length + B.length ≤ 80) (mk0 : Nat → Nat) (hmk0 : gMk (fun _ => 0) (zr A B) = mk0) (hw1 : 112 ≤ w) (ho1 : o1 + 3 ≤ 111) (ho2 : o2 + 3 ≤ 111) : XC G mX6_unlikePairs 2 0 0 [xR 0, xR w] κ M hs (pI κ hs (fun a M' => (∀ q, q ≠ 111 → q ≠ w → M' q = M q) ∧ a = sumTo (fun x => ((popT (mk0 x) 10 : Nat) : Int)) 10)) := by
  refine XC.intro cdX6_unlikePairs (by decide) (by decide) (Nat.le_of_ble_eq_true rfl) (loc := [some (xR 0), some (xR w), none, none]) rfl (fun X hX => ?_)
  have hw9 := hW.2.2.2.1
  have loop : ∀ (n k : Nat) (mk : Nat → Nat) (A B : Ru) (t : Int) (M1 : XM) (z : Option XV), k ≤ 80 → 80 < k + n → k + A.length + B.length ≤ 80 → WalkAt κ M1 hs w o1 o2 l1 l2 A B t → (∀ q, q ≠ 111 → q ≠ w → M1 q = M q) → (∀ x, x < 10 → M1 111 x = (mk x : Int)) → (∀ x, mk x < 1024) → gMk mk (zr A B) = mk0 → XW G X mX6_unlikePairs (xq G (pI κ hs (fun a M' => (∀ q, q ≠ 111 → q ≠ w → M' q = M q) ∧ a = sumTo (fun x => ((popT (mk0 x) 10 : Nat) : Int)) 10)) 0 0 X) 0 0 10 [some (xR 0), some (xR w), some (xI (k : Int)), z] [] κ M1 hs := by
    intro n
    induction n with
    | zero => intro k mk A B t M1 z h1 h2; omega
    | succ n ih =>
      intro k mk A B t M1 z h1 h2 h3 hW1 hM1 hm1 hml hF
      refine x_iload_n (pc := 10) hX rfl rfl dX6_unlikePairs_10 ?_
      refine x_bipush (pc := 11) hX (by decide) dX6_unlikePairs_11 ?_
      refine x_icmp_ge (pc := 13) (tgt := 56) hX dX6_unlikePairs_13 (by decide) (by omega) (fun h13 => ?_) (fun h13 => ?_)
      · have he : A = [] := List.eq_nil_of_length_eq_zero (by omega)
        rw [zr_none (Or.inl he)] at hF
        have hF : mk = mk0 := hF
        obtain ⟨MM, hMMe⟩ : ∃ MM, MM = M1 := ⟨_, rfl⟩
        rw [← hMMe]
        have hMM : ∀ q, q ≠ 111 → q ≠ w → MM q = M q := by rw [hMMe]; exact hM1
        have hmm : ∀ x, x < 10 → MM 111 x = (mk x : Int) := by rw [hMMe]; exact hm1
        have loop2 : ∀ (n j : Nat), j ≤ 10 → 10 < j + n → XW G X mX6_unlikePairs (xq G (pI κ hs (fun a M' => (∀ q, q ≠ 111 → q ≠ w → M' q = M q) ∧ a = sumTo (fun x => ((popT (mk0 x) 10 : Nat) : Int)) 10)) 0 0 X) 0 0 60 [some (xR 0), some (xR w), some (xI (sumTo (fun x => ((popT (mk x) 10 : Nat) : Int)) j)), some (xI (j : Int))] [] κ MM hs := by
          intro n
          induction n with
          | zero => intro j h1 h2; omega
          | succ n ihj =>
            intro j h1 h2
            refine x_iload_n (pc := 60) hX rfl rfl dX6_unlikePairs_60 ?_
            refine x_bipush (pc := 61) hX (by decide) dX6_unlikePairs_61 ?_
            refine x_icmp_ge (pc := 63) (tgt := 84) hX dX6_unlikePairs_63 (by decide) (by omega) (fun h63 => ?_) (fun h63 => ?_)
            · refine x_iload_n (pc := 84) hX rfl rfl dX6_unlikePairs_84 ?_
              refine x_iret (pc := 85) hX rfl (Nat.zero_le _) (Nat.zero_le _) dX6_unlikePairs_85 ?_
              have hj0 : j = 10 := by omega
              subst hj0
              exact pI_i ⟨hMM, by rw [hF]⟩
            · have hk10 : j < 10 := by omega
              refine x_iload_n (pc := 66) hX rfl rfl dX6_unlikePairs_66 ?_
              refine x_aload_n (pc := 67) hX rfl rfl dX6_unlikePairs_67 ?_
              refine x_getR (pc := 68) hX fl_X6_52 hK.1 rfl dX6_unlikePairs_68 ?_
              refine x_iload_n (pc := 71) hX rfl rfl dX6_unlikePairs_71 ?_
              refine x_iald (pc := 72) (j := j) (v := (mk j : Int)) hX hK.2.2.2.2.2.2.2.1 (by omega) (by omega) (by decide) (hmm j hk10) dX6_unlikePairs_72 ?_
              refine x_cS_P (pc := 73) hX (tJ6_bitCount_0f7a4 (mk j) (hml j)) lk_X6_202 rfl rfl (Nat.le_of_ble_eq_true rfl) (by decide) (Nat.zero_le _) (Nat.zero_le _) dX6_unlikePairs_73 ?_
              refine x_iadd (pc := 76) (v := sumTo (fun x => ((popT (mk x) 10 : Nat) : Int)) (j + 1)) hX dX6_unlikePairs_76 rfl ?_
              refine x_istore_n (pc := 77) hX rfl (by decide) rfl rfl dX6_unlikePairs_77 ?_
              refine x_iinc (pc := 78) (v := ((j + 1 : Nat) : Int)) hX dX6_unlikePairs_78 rfl (by decide) rfl (by omega) rfl ?_
              refine x_goto (pc := 81) (tgt := 60) hX dX6_unlikePairs_81 (by decide) ?_
              exact ihj (j + 1) (by omega) (by omega)
        refine x_iconst (pc := 56) hX dX6_unlikePairs_56 ?_
        refine x_istore_n (pc := 57) hX rfl (by decide) rfl rfl dX6_unlikePairs_57 ?_
        refine x_iconst (pc := 58) hX dX6_unlikePairs_58 ?_
        refine x_istore_n (pc := 59) hX rfl (by decide) rfl rfl dX6_unlikePairs_59 ?_
        exact loop2 11 0 (by omega) (by omega)
      · refine x_aload_n (pc := 16) hX rfl rfl dX6_unlikePairs_16 ?_
        refine x_cV_I (pc := 17) hX (tX4_advance hW1.1 hW1.2.1 hW1.2.2.1 hW1.2.2.2.1 hW1.2.2.2.2.1 hW1.2.2.2.2.2.1 hW1.2.2.2.2.2.2) hW1.1 rfl lk_X6_169 rfl rfl (Nat.le_of_ble_eq_true rfl) (by decide) (Nat.zero_le _) (Nat.zero_le _) dX6_unlikePairs_17 (fun a M2 hp => ?_)
        obtain ⟨hq2, hno, hyes⟩ := hp
        by_cases he : A = [] ∨ B = []
        · obtain ⟨rfl, hS2⟩ := hno he
          rw [zr_none he] at hF
          refine x_if_eq (pc := 20) (tgt := 56) hX dX6_unlikePairs_20 (by decide) (by omega) (fun h20 => ?_) (fun h20 => ?_)
          · have hF : mk = mk0 := hF
            obtain ⟨MM, hMMe⟩ : ∃ MM, MM = M2 := ⟨_, rfl⟩
            rw [← hMMe]
            have hMM : ∀ q, q ≠ 111 → q ≠ w → MM q = M q := by rw [hMMe]; exact fun q h1 h2 => (hq2 q (by omega)).trans (hM1 q h1 h2)
            have hmm : ∀ x, x < 10 → MM 111 x = (mk x : Int) := by rw [hMMe]; exact fun x hx => (by rw [hq2 111 (by omega)]; exact hm1 x hx)
            have loop2 : ∀ (n j : Nat), j ≤ 10 → 10 < j + n → XW G X mX6_unlikePairs (xq G (pI κ hs (fun a M' => (∀ q, q ≠ 111 → q ≠ w → M' q = M q) ∧ a = sumTo (fun x => ((popT (mk0 x) 10 : Nat) : Int)) 10)) 0 0 X) 0 0 60 [some (xR 0), some (xR w), some (xI (sumTo (fun x => ((popT (mk x) 10 : Nat) : Int)) j)), some (xI (j : Int))] [] κ MM hs := by
              intro n
              induction n with
              | zero => intro j h1 h2; omega
              | succ n ihj =>
                intro j h1 h2
                refine x_iload_n (pc := 60) hX rfl rfl dX6_unlikePairs_60 ?_
                refine x_bipush (pc := 61) hX (by decide) dX6_unlikePairs_61 ?_
                refine x_icmp_ge (pc := 63) (tgt := 84) hX dX6_unlikePairs_63 (by decide) (by omega) (fun h63 => ?_) (fun h63 => ?_)
                · refine x_iload_n (pc := 84) hX rfl rfl dX6_unlikePairs_84 ?_
                  refine x_iret (pc := 85) hX rfl (Nat.zero_le _) (Nat.zero_le _) dX6_unlikePairs_85 ?_
                  have hj0 : j = 10 := by omega
                  subst hj0
                  exact pI_i ⟨hMM, by rw [hF]⟩
                · have hk10 : j < 10 := by omega
                  refine x_iload_n (pc := 66) hX rfl rfl dX6_unlikePairs_66 ?_
                  refine x_aload_n (pc := 67) hX rfl rfl dX6_unlikePairs_67 ?_
                  refine x_getR (pc := 68) hX fl_X6_52 hK.1 rfl dX6_unlikePairs_68 ?_
                  refine x_iload_n (pc := 71) hX rfl rfl dX6_unlikePairs_71 ?_
                  refine x_iald (pc := 72) (j := j) (v := (mk j : Int)) hX hK.2.2.2.2.2.2.2.1 (by omega) (by omega) (by decide) (hmm j hk10) dX6_unlikePairs_72 ?_
                  refine x_cS_P (pc := 73) hX (tJ6_bitCount_0f7a4 (mk j) (hml j)) lk_X6_202 rfl rfl (Nat.le_of_ble_eq_true rfl) (by decide) (Nat.zero_le _) (Nat.zero_le _) dX6_unlikePairs_73 ?_
                  refine x_iadd (pc := 76) (v := sumTo (fun x => ((popT (mk x) 10 : Nat) : Int)) (j + 1)) hX dX6_unlikePairs_76 rfl ?_
                  refine x_istore_n (pc := 77) hX rfl (by decide) rfl rfl dX6_unlikePairs_77 ?_
                  refine x_iinc (pc := 78) (v := ((j + 1 : Nat) : Int)) hX dX6_unlikePairs_78 rfl (by decide) rfl (by omega) rfl ?_
                  refine x_goto (pc := 81) (tgt := 60) hX dX6_unlikePairs_81 (by decide) ?_
                  exact ihj (j + 1) (by omega) (by omega)
            refine x_iconst (pc := 56) hX dX6_unlikePairs_56 ?_
            refine x_istore_n (pc := 57) hX rfl (by decide) rfl rfl dX6_unlikePairs_57 ?_
            refine x_iconst (pc := 58) hX dX6_unlikePairs_58 ?_
            refine x_istore_n (pc := 59) hX rfl (by decide) rfl rfl dX6_unlikePairs_59 ?_
            exact loop2 11 0 (by omega) (by omega)
          · exfalso; omega
        · obtain ⟨v, n9, s, u, m9, r, rfl, rfl⟩ := ru_two he
          obtain ⟨rfl, h6, h7, h8, h9, hS2⟩ := hyes v n9 s u m9 r rfl rfl
          have hW2 := hW1.nxt hq2 hS2
          have hd := hW1.2.2.2.2.2.2.hd (o1 := o1) (o2 := o2) hW1.2.2.2.2.1.2.2 hW1.2.2.2.2.2.1.2.2
          have hc2 := cut2_len v n9 u m9 s r
          rw [zr_cons] at hF
          simp only [List.length_cons] at h3
          have hmk : ∀ x, x < 10 → M2 111 x = (mk x : Int) := fun x hx => by rw [hq2 111 (by omega)]; exact hm1 x hx
          refine x_if_eq (pc := 20) (tgt := 56) hX dX6_unlikePairs_20 (by decide) (by omega) (fun h20 => ?_) (fun h20 => ?_)
          · exfalso; omega
          · refine x_aload_n (pc := 23) hX rfl rfl dX6_unlikePairs_23 ?_
            refine x_cV_P (pc := 24) hX (tX4_valueOfOne hW2.1 h6) hW2.1 rfl lk_X6_174 rfl rfl (Nat.le_of_ble_eq_true rfl) (by decide) (Nat.zero_le _) (Nat.zero_le _) dX6_unlikePairs_24 ?_
            refine x_istore_n (pc := 27) hX rfl (by decide) rfl rfl dX6_unlikePairs_27 ?_
            refine x_iload_n (pc := 28) hX rfl rfl dX6_unlikePairs_28 ?_
            refine x_cS_P (pc := 29) hX (tX6_isValue (v : Int) (by unfold InR; omega)) lk_X6_119 rfl rfl (Nat.le_of_ble_eq_true rfl) (by decide) (Nat.zero_le _) (Nat.zero_le _) dX6_unlikePairs_29 ?_
            rw [if_pos (by omega)]
            refine x_if_eq (pc := 32) (tgt := 50) hX dX6_unlikePairs_32 (by decide) (by omega) (fun h32 => ?_) (fun h32 => ?_)
            · exfalso; omega
            · refine x_aload_n (pc := 35) hX rfl rfl dX6_unlikePairs_35 ?_
              refine x_getR (pc := 36) hX fl_X6_52 hK.1 rfl dX6_unlikePairs_36 ?_
              refine x_iload_n (pc := 39) hX rfl rfl dX6_unlikePairs_39 ?_
              refine x_dup2 (pc := 40) hX rfl rfl dX6_unlikePairs_40 ?_
              refine x_iald (pc := 41) (j := v) (v := (mk v : Int)) hX hK.2.2.2.2.2.2.2.1 (by omega) (by omega) (by decide) (hmk v (by omega)) dX6_unlikePairs_41 ?_
              refine x_iconst (pc := 42) hX dX6_unlikePairs_42 ?_
              refine x_aload_n (pc := 43) hX rfl rfl dX6_unlikePairs_43 ?_
              refine x_cV_P (pc := 44) hX (tX4_valueOfOther hW2.1 h7) hW2.1 rfl lk_X6_177 rfl rfl (Nat.le_of_ble_eq_true rfl) (by decide) (Nat.zero_le _) (Nat.zero_le _) dX6_unlikePairs_44 ?_
              refine x_ishl (pc := 47) (v := ((2 ^ u : Nat) : Int)) hX dX6_unlikePairs_47 (xshl1 u (by omega)) ?_
              refine x_ior (pc := 48) (v := ((mk v ||| 2 ^ u : Nat) : Int)) hX dX6_unlikePairs_48 (xor2 _ _) ?_
              refine x_iast (pc := 49) (j := v) hX hK.2.2.2.2.2.2.2.1 (by omega) (by omega) (by decide) dX6_unlikePairs_49 ?_
              refine x_iinc (pc := 50) (v := ((k + 1 : Nat) : Int)) hX dX6_unlikePairs_50 rfl (by decide) rfl (by omega) rfl ?_
              refine x_goto (pc := 53) (tgt := 10) hX dX6_unlikePairs_53 (by decide) ?_
              have hq3 : Same 111 112 M2 (mput M2 111 v ((mk v ||| 2 ^ u : Nat) : Int)) := Same.put (by decide) (by decide)
              refine ih (k + 1) (fun x => if x = v then mk x ||| 2 ^ u else mk x) _ _ _ _ _ (by omega) (by omega) (by omega) (hW2.oth hq3 (by omega) (by omega) (by omega)) (fun q h1 h2 => ?_) (fun x hx => ?_) (fun x => ?_) ?_
              · rw [mput_ne _ _ _ h1, hq2 q (by omega)]; exact hM1 q h1 h2
              · rw [mp_at]
                by_cases e : x = v
                · rw [if_pos ⟨rfl, e⟩, if_pos e, e]
                · rw [if_neg (fun z => e z.2), if_neg e]; exact hmk x hx
              · show (if x = v then mk x ||| 2 ^ u else mk x) < 1024
                split
                · exact or_lt (hml x) (by omega)
                · exact hml x
              · rw [← hF]; rfl
  refine x_aload_n (pc := 0) hX rfl rfl dX6_unlikePairs_0 ?_
  refine x_getR (pc := 1) hX fl_X6_52 hK.1 rfl dX6_unlikePairs_1 ?_
  refine x_iconst (pc := 4) hX dX6_unlikePairs_4 ?_
  refine x_cS_V (pc := 5) hX (tJ7_fill_53178 hK.2.2.2.2.2.2.2.1 (by decide) 0) lk_X6_302 rfl rfl (Nat.le_of_ble_eq_true rfl) (by decide) (Nat.zero_le _) (Nat.zero_le _) dX6_unlikePairs_5 (fun M1 hp => ?_)
  have hW1 := hW.oth hp.2 (by omega) (by omega) (by omega)
  refine x_iconst (pc := 8) hX dX6_unlikePairs_8 ?_
  refine x_istore_n (pc := 9) hX rfl (by decide) rfl rfl dX6_unlikePairs_9 ?_
  exact loop 81 0 (fun _ => 0) A B t M1 none (by omega) (by omega) (by omega) hW1 (fun q h1 h2 => hp.2 q (by omega)) (fun x hx => hp.1 x hx) (fun x => by decide) hmk0

