/-! the model: what there is -/
def rowRank (v : Int) : Nat → Nat → List Nat → Int
  | _, _, [] => -6
  | k, left, x :: t => if (x : Int) = v then (if left = 0 then (k : Int) else rowRank v (k + 1) (left - 1) t) else rowRank v (k + 1) left t
theorem rank_rep (v : Int) (w : Nat) (t : List Nat) : ∀ (n k left : Nat), rowRank v k left (List.replicate n w ++ t) = if (w : Int) = v then (if left < n then ((k + left : Nat) : Int) else rowRank v (k + n) (left - n) t) else rowRank v (k + n) left t
  | 0, k, left => by
    rw [List.replicate_zero, List.nil_append, if_neg (Nat.not_lt_zero _)]
    split <;> rfl
  | n + 1, k, left => by
    rw [List.replicate_succ, List.cons_append, rowRank, rank_rep v w t n, rank_rep v w t n]
    by_cases h : (w : Int) = v
    · simp only [if_pos h]
      by_cases h2 : left = 0
      · rw [if_pos h2, if_pos (by omega), h2]
        rfl
      · rw [if_neg h2]
        by_cases h3 : left < n + 1
        · rw [if_pos h3, if_pos (by omega)]
          congr 1
          omega
        · rw [if_neg h3, if_neg (by omega)]
          congr 1 <;> omega
    · simp only [if_neg h]
      congr 1
      omega
theorem fRank_rows (v : Int) : ∀ (L : Ru) (first left : Nat), fRank v first left L = rowRank v first left (rows L)
  | [], first, left => rfl
  | (w, n) :: t, first, left => by
    rw [fRank, rows, rank_rep, fRank_rows v t, fRank_rows v t]
theorem nFall_iff : ∀ (L : Ru), nFall L = true ↔ ∀ r, r + 1 < L.length → rv L r ≤ rv L (r + 1)
  | [] => ⟨fun _ r h => absurd h (Nat.not_lt_zero _), fun _ => rfl⟩
  | [_] => ⟨fun _ r h => by simp at h, fun _ => rfl⟩
  | a :: b :: t => by
    rw [nFall]
    by_cases h : b.1 < a.1
    · rw [if_pos h]
      refine ⟨fun z => (by cases z), fun z => ?_⟩
      have h2 : a.1 ≤ b.1 := z 0 (by simp)
      omega
    · rw [if_neg h, nFall_iff (b :: t)]
      refine ⟨fun z r hr => ?_, fun z r hr => z (r + 1) (by simp at hr ⊢; omega)⟩
      cases r with
      | zero => show a.1 ≤ b.1; omega
      | succ r => exact z r (by simp at hr ⊢; omega)
theorem nRise_iff : ∀ (L : Ru), nRise L = true ↔ ∀ r, r + 1 < L.length → rv L (r + 1) ≤ rv L r
  | [] => ⟨fun _ r h => absurd h (Nat.not_lt_zero _), fun _ => rfl⟩
  | [_] => ⟨fun _ r h => by simp at h, fun _ => rfl⟩
  | a :: b :: t => by
    rw [nRise]
    by_cases h : a.1 < b.1
    · rw [if_pos h]
      refine ⟨fun z => (by cases z), fun z => ?_⟩
      have h2 : b.1 ≤ a.1 := z 0 (by simp)
      omega
    · rw [if_neg h, nRise_iff (b :: t)]
      refine ⟨fun z r hr => ?_, fun z r hr => z (r + 1) (by simp at hr ⊢; omega)⟩
      cases r with
      | zero => show b.1 ≤ a.1; omega
      | succ r => exact z r (by simp at hr ⊢; omega)
theorem alt_ne : ∀ (L : Ru), alt L → ∀ r, r + 1 < L.length → rv L r ≠ rv L (r + 1)
  | [], _, r, h => absurd h (Nat.not_lt_zero _)
  | [_], _, r, h => by simp at h
  | a :: b :: t, hA, r, h => by
    cases r with
    | zero => exact hA.1
    | succ r => exact alt_ne (b :: t) hA.tail r (by simp at h ⊢; omega)
theorem xshr_n : ∀ k : Nat, k < 10 → ∀ n : Nat, n < 1024 → Int32.ofInt ((n / 2 ^ k : Nat) : Int) = Int32.ofInt (n : Int) >>> (Int32.ofInt (k : Int) &&& 31) := by decide +kernel
theorem xand_1 : ∀ n : Nat, n < 1024 → Int32.ofInt ((n % 2 : Nat) : Int) = Int32.ofInt (n : Int) &&& Int32.ofInt 1 := by decide +kernel
set_option maxHeartbeats 4000000 in
set_option maxRecDepth 100000 in
theorem tX7_firstRow {G : XG} {κ : XKs} {M : XM} {hs : Nat} (hK : KM κ hs) {cs : Cs} (hS : MS (M 141) 0 cs) (c : Nat) (hc : c < 4) (r : Nat) (hr : r ≤ (enc (cs c)).length) : XC G mX7_firstRow 1 0 0 [xR 140, xI (c : Int), xI (r : Int)] κ M hs (pP κ M hs (xI (tot ((enc (cs c)).take r) : Int))) := by
  refine XC.intro cdX7_firstRow (by decide) (by decide) (Nat.le_of_ble_eq_true rfl) (loc := [some (xR 140), some (xI (c : Int)), some (xI (r : Int)), none, none]) rfl (fun X hX => ?_)
  have hl := (hS.col hc).len
  have loop : ∀ (n k : Nat), k ≤ r → r < k + n → XW G X mX7_firstRow (xq G (pP κ M hs (xI (tot ((enc (cs c)).take r) : Int))) 0 0 X) 0 0 5 [some (xR 140), some (xI (c : Int)), some (xI (r : Int)), some (xI (tot ((enc (cs c)).take k) : Int)), some (xI (k : Int))] [] κ M hs := by
    intro n
    induction n with
    | zero => intro k  h1 h2; omega
    | succ n ih =>
      intro k  h1 h2
      refine x_iload (pc := 5) hX rfl dX7_firstRow_5 ?_
      refine x_iload_n (pc := 7) hX rfl rfl dX7_firstRow_7 ?_
      refine x_icmp_ge (pc := 8) (tgt := 27) hX dX7_firstRow_8 (by decide) (by omega) (fun h8 => ?_) (fun h8 => ?_)
      · obtain rfl : k = r := by omega
        refine x_iload_n (pc := 27) hX rfl rfl dX7_firstRow_27 ?_
        refine x_iret (pc := 28) hX rfl (Nat.zero_le _) (Nat.zero_le _) dX7_firstRow_28 (pP_i rfl)
      · have hkl : k < (enc (cs c)).length := by omega
        have ht := tot_take_succ hkl
        refine x_iload_n (pc := 11) hX rfl rfl dX7_firstRow_11 ?_
        refine x_aload_n (pc := 12) hX rfl rfl dX7_firstRow_12 ?_
        refine x_iload_n (pc := 13) hX rfl rfl dX7_firstRow_13 ?_
        refine x_iload (pc := 14) hX rfl dX7_firstRow_14 ?_
        refine x_cV_P (pc := 16) hX (tX7_lengthOf hK hS c hc k hkl) hK.1 rfl lk_X7_56 rfl rfl (Nat.le_of_ble_eq_true rfl) (by decide) (Nat.zero_le _) (Nat.zero_le _) dX7_firstRow_16 ?_
        refine x_iadd (pc := 19) (v := (tot ((enc (cs c)).take (k + 1)) : Int)) hX dX7_firstRow_19 (by omega) ?_
        refine x_istore_n (pc := 20) hX rfl (by decide) rfl rfl dX7_firstRow_20 ?_
        refine x_iinc (pc := 21) (v := ((k + 1 : Nat) : Int)) hX dX7_firstRow_21 rfl (by decide) rfl (by omega) rfl ?_
        refine x_goto (pc := 24) (tgt := 5) hX dX7_firstRow_24 (by decide) ?_
        exact ih (k + 1) (by omega) (by omega)
  refine x_iconst (pc := 0) hX dX7_firstRow_0 ?_
  refine x_istore_n (pc := 1) hX rfl (by decide) rfl rfl dX7_firstRow_1 ?_
  refine x_iconst (pc := 2) hX dX7_firstRow_2 ?_
  refine x_istore (pc := 3) hX (by decide) rfl rfl dX7_firstRow_3 ?_
  exact loop (r + 1) 0 (by omega) (by omega)

set_option maxHeartbeats 4000000 in
set_option maxRecDepth 100000 in
theorem tX7_sumOf {G : XG} {κ : XKs} {M : XM} {hs : Nat} (hK : KM κ hs) {cs : Cs} (hS : MS (M 141) 0 cs) (c : Nat) (hc : c < 4) : XC G mX7_sumOf 1 0 0 [xR 140, xI (c : Int)] κ M hs (pP κ M hs (xI (fSum 0 (enc (cs c))))) := by
  refine XC.intro cdX7_sumOf (by decide) (by decide) (Nat.le_of_ble_eq_true rfl) (loc := [some (xR 140), some (xI (c : Int)), none, none]) rfl (fun X hX => ?_)
  have hl := (hS.col hc).len
  have loop : ∀ (n k : Nat) (acc : Int), k ≤ (enc (cs c)).length → (enc (cs c)).length < k + n → fSum acc ((enc (cs c)).drop k) = fSum 0 (enc (cs c)) → XW G X mX7_sumOf (xq G (pP κ M hs (xI (fSum 0 (enc (cs c))))) 0 0 X) 0 0 4 [some (xR 140), some (xI (c : Int)), some (xI acc), some (xI (k : Int))] [] κ M hs := by
    intro n
    induction n with
    | zero => intro k acc h1 h2; omega
    | succ n ih =>
      intro k acc h1 h2 hF
      refine x_iload_n (pc := 4) hX rfl rfl dX7_sumOf_4 ?_
      refine x_aload_n (pc := 5) hX rfl rfl dX7_sumOf_5 ?_
      refine x_iload_n (pc := 6) hX rfl rfl dX7_sumOf_6 ?_
      refine x_cV_P (pc := 7) hX (tX7_runsOf hK hS c hc) hK.1 rfl lk_X7_52 rfl rfl (Nat.le_of_ble_eq_true rfl) (by decide) (Nat.zero_le _) (Nat.zero_le _) dX7_sumOf_7 ?_
      refine x_icmp_ge (pc := 10) (tgt := 35) hX dX7_sumOf_10 (by decide) (by omega) (fun h10 => ?_) (fun h10 => ?_)
      · rw [ru_end _ (by omega : (enc (cs c)).length ≤ k), fSum] at hF
        refine x_iload_n (pc := 35) hX rfl rfl dX7_sumOf_35 ?_
        refine x_iret (pc := 36) hX rfl (Nat.zero_le _) (Nat.zero_le _) dX7_sumOf_36 (pP_i (by rw [hF]))
      · have hkl : k < (enc (cs c)).length := by omega
        rw [ru_drop hkl, fSum] at hF
        refine x_iload_n (pc := 13) hX rfl rfl dX7_sumOf_13 ?_
        refine x_aload_n (pc := 14) hX rfl rfl dX7_sumOf_14 ?_
        refine x_iload_n (pc := 15) hX rfl rfl dX7_sumOf_15 ?_
        refine x_iload_n (pc := 16) hX rfl rfl dX7_sumOf_16 ?_
        refine x_cV_P (pc := 17) hX (tX7_valueOf hK hS c hc k hkl) hK.1 rfl lk_X7_66 rfl rfl (Nat.le_of_ble_eq_true rfl) (by decide) (Nat.zero_le _) (Nat.zero_le _) dX7_sumOf_17 ?_
        refine x_aload_n (pc := 20) hX rfl rfl dX7_sumOf_20 ?_
        refine x_iload_n (pc := 21) hX rfl rfl dX7_sumOf_21 ?_
        refine x_iload_n (pc := 22) hX rfl rfl dX7_sumOf_22 ?_
        refine x_cV_P (pc := 23) hX (tX7_lengthOf hK hS c hc k hkl) hK.1 rfl lk_X7_56 rfl rfl (Nat.le_of_ble_eq_true rfl) (by decide) (Nat.zero_le _) (Nat.zero_le _) dX7_sumOf_23 ?_
        refine x_imul (pc := 26) hX dX7_sumOf_26 rfl ?_
        refine x_iadd (pc := 27) hX dX7_sumOf_27 rfl ?_
        refine x_istore_n (pc := 28) hX rfl (by decide) rfl rfl dX7_sumOf_28 ?_
        refine x_iinc (pc := 29) (v := ((k + 1 : Nat) : Int)) hX dX7_sumOf_29 rfl (by decide) rfl (by omega) rfl ?_
        refine x_goto (pc := 32) (tgt := 4) hX dX7_sumOf_32 (by decide) ?_
        exact ih (k + 1) _ (by omega) (by omega) hF
  refine x_iconst (pc := 0) hX dX7_sumOf_0 ?_
  refine x_istore_n (pc := 1) hX rfl (by decide) rfl rfl dX7_sumOf_1 ?_
  refine x_iconst (pc := 2) hX dX7_sumOf_2 ?_
  refine x_istore_n (pc := 3) hX rfl (by decide) rfl rfl dX7_sumOf_3 ?_
  exact loop ((enc (cs c)).length + 1) 0 0 (by omega) (by omega) (by rw [List.drop_zero])

set_option maxHeartbeats 4000000 in
set_option maxRecDepth 100000 in
theorem tX7_valuesOf {G : XG} {κ : XKs} {M : XM} {hs : Nat} (hK : KM κ hs) {cs : Cs} (hS : MS (M 141) 0 cs) (c : Nat) (hc : c < 4) : XC G mX7_valuesOf 1 0 0 [xR 140, xI (c : Int)] κ M hs (pP κ M hs (xI (fSet 0 (enc (cs c)) : Nat))) := by
  refine XC.intro cdX7_valuesOf (by decide) (by decide) (Nat.le_of_ble_eq_true rfl) (loc := [some (xR 140), some (xI (c : Int)), none, none]) rfl (fun X hX => ?_)
  have hl := (hS.col hc).len
  have loop : ∀ (n k : Nat) (acc : Nat), k ≤ (enc (cs c)).length → (enc (cs c)).length < k + n → fSet acc ((enc (cs c)).drop k) = fSet 0 (enc (cs c)) → XW G X mX7_valuesOf (xq G (pP κ M hs (xI (fSet 0 (enc (cs c)) : Nat))) 0 0 X) 0 0 4 [some (xR 140), some (xI (c : Int)), some (xI (acc : Int)), some (xI (k : Int))] [] κ M hs := by
    intro n
    induction n with
    | zero => intro k acc h1 h2; omega
    | succ n ih =>
      intro k acc h1 h2 hF
      refine x_iload_n (pc := 4) hX rfl rfl dX7_valuesOf_4 ?_
      refine x_aload_n (pc := 5) hX rfl rfl dX7_valuesOf_5 ?_
      refine x_iload_n (pc := 6) hX rfl rfl dX7_valuesOf_6 ?_
      refine x_cV_P (pc := 7) hX (tX7_runsOf hK hS c hc) hK.1 rfl lk_X7_52 rfl rfl (Nat.le_of_ble_eq_true rfl) (by decide) (Nat.zero_le _) (Nat.zero_le _) dX7_valuesOf_7 ?_
      refine x_icmp_ge (pc := 10) (tgt := 30) hX dX7_valuesOf_10 (by decide) (by omega) (fun h10 => ?_) (fun h10 => ?_)
      · rw [ru_end _ (by omega : (enc (cs c)).length ≤ k), fSet] at hF
        refine x_iload_n (pc := 30) hX rfl rfl dX7_valuesOf_30 ?_
        refine x_iret (pc := 31) hX rfl (Nat.zero_le _) (Nat.zero_le _) dX7_valuesOf_31 (pP_i (by rw [hF]))
      · have hkl : k < (enc (cs c)).length := by omega
        have hmm := (hS.col hc).mem hkl
        rw [ru_drop hkl, fSet] at hF
        refine x_iload_n (pc := 13) hX rfl rfl dX7_valuesOf_13 ?_
        refine x_iconst (pc := 14) hX dX7_valuesOf_14 ?_
        refine x_aload_n (pc := 15) hX rfl rfl dX7_valuesOf_15 ?_
        refine x_iload_n (pc := 16) hX rfl rfl dX7_valuesOf_16 ?_
        refine x_iload_n (pc := 17) hX rfl rfl dX7_valuesOf_17 ?_
        refine x_cV_P (pc := 18) hX (tX7_valueOf hK hS c hc k hkl) hK.1 rfl lk_X7_66 rfl rfl (Nat.le_of_ble_eq_true rfl) (by decide) (Nat.zero_le _) (Nat.zero_le _) dX7_valuesOf_18 ?_
        refine x_ishl (pc := 21) (v := ((2 ^ rv (enc (cs c)) k : Nat) : Int)) hX dX7_valuesOf_21 (xshl1 _ hmm.1) ?_
        refine x_ior (pc := 22) (v := ((acc ||| 2 ^ rv (enc (cs c)) k : Nat) : Int)) hX dX7_valuesOf_22 (xor2 _ _) ?_
        refine x_istore_n (pc := 23) hX rfl (by decide) rfl rfl dX7_valuesOf_23 ?_
        refine x_iinc (pc := 24) (v := ((k + 1 : Nat) : Int)) hX dX7_valuesOf_24 rfl (by decide) rfl (by omega) rfl ?_
        refine x_goto (pc := 27) (tgt := 4) hX dX7_valuesOf_27 (by decide) ?_
        exact ih (k + 1) _ (by omega) (by omega) hF
  refine x_iconst (pc := 0) hX dX7_valuesOf_0 ?_
  refine x_istore_n (pc := 1) hX rfl (by decide) rfl rfl dX7_valuesOf_1 ?_
  refine x_iconst (pc := 2) hX dX7_valuesOf_2 ?_
  refine x_istore_n (pc := 3) hX rfl (by decide) rfl rfl dX7_valuesOf_3 ?_
  exact loop ((enc (cs c)).length + 1) 0 0 (by omega) (by omega) (by rw [List.drop_zero])

set_option maxHeartbeats 4000000 in
set_option maxRecDepth 100000 in
theorem tX7_bits {G : XG} {κ : XKs} {M : XM} {hs : Nat} (n0 : Nat) (hn : n0 < 1024) : XC G mX7_bits 0 0 0 [xI (n0 : Int)] κ M hs (pP κ M hs (xI ((popT n0 10 : Nat) : Int))) := by
  refine XC.intro cdX7_bits (by decide) (by decide) (Nat.le_of_ble_eq_true rfl) (loc := [some (xI (n0 : Int)), none, none]) rfl (fun X hX => ?_)
  have loop : ∀ (n k : Nat), k ≤ 10 → 10 < k + n → XW G X mX7_bits (xq G (pP κ M hs (xI ((popT n0 10 : Nat) : Int))) 0 0 X) 0 0 4 [some (xI (n0 : Int)), some (xI ((popT n0 k : Nat) : Int)), some (xI (k : Int))] [] κ M hs := by
    intro n
    induction n with
    | zero => intro k  h1 h2; omega
    | succ n ih =>
      intro k  h1 h2
      refine x_iload_n (pc := 4) hX rfl rfl dX7_bits_4 ?_
      refine x_bipush (pc := 5) hX (by decide) dX7_bits_5 ?_
      refine x_icmp_ge (pc := 7) (tgt := 24) hX dX7_bits_7 (by decide) (by omega) (fun h7 => ?_) (fun h7 => ?_)
      · obtain rfl : k = 10 := by omega
        refine x_iload_n (pc := 24) hX rfl rfl dX7_bits_24 ?_
        refine x_iret (pc := 25) hX rfl (Nat.zero_le _) (Nat.zero_le _) dX7_bits_25 (pP_i rfl)
      · have hk : k < 10 := by omega
        have hd : n0 / 2 ^ k < 1024 := Nat.lt_of_le_of_lt (Nat.div_le_self _ _) hn
        refine x_iload_n (pc := 10) hX rfl rfl dX7_bits_10 ?_
        refine x_iload_n (pc := 11) hX rfl rfl dX7_bits_11 ?_
        refine x_iload_n (pc := 12) hX rfl rfl dX7_bits_12 ?_
        refine x_ishr (pc := 13) (v := ((n0 / 2 ^ k : Nat) : Int)) hX dX7_bits_13 (xshr_n k hk n0 hn) ?_
        refine x_iconst (pc := 14) hX dX7_bits_14 ?_
        refine x_iand (pc := 15) (v := ((n0 / 2 ^ k % 2 : Nat) : Int)) hX dX7_bits_15 (xand_1 _ hd) ?_
        refine x_iadd (pc := 16) (v := ((popT n0 (k + 1) : Nat) : Int)) hX dX7_bits_16 (by rw [popT]; omega) ?_
        refine x_istore_n (pc := 17) hX rfl (by decide) rfl rfl dX7_bits_17 ?_
        refine x_iinc (pc := 18) (v := ((k + 1 : Nat) : Int)) hX dX7_bits_18 rfl (by decide) rfl (by omega) rfl ?_
        refine x_goto (pc := 21) (tgt := 4) hX dX7_bits_21 (by decide) ?_
        exact ih (k + 1) (by omega) (by omega)
  refine x_iconst (pc := 0) hX dX7_bits_0 ?_
  refine x_istore_n (pc := 1) hX rfl (by decide) rfl rfl dX7_bits_1 ?_
  refine x_iconst (pc := 2) hX dX7_bits_2 ?_
  refine x_istore_n (pc := 3) hX rfl (by decide) rfl rfl dX7_bits_3 ?_
  exact loop 11 0 (by omega) (by omega)

set_option maxHeartbeats 4000000 in
set_option maxRecDepth 100000 in
theorem tX7_isInOrder {G : XG} {κ : XKs} {M : XM} {hs : Nat} (hK : KM κ hs) {cs : Cs} (hS : MS (M 141) 0 cs) (c : Nat) (hc : c < 4) (b : Int) (hb : b = 0 ∨ b = 1) : XC G mX7_isInOrder 1 0 0 [xR 140, xI (c : Int), xI b] κ M hs (pP κ M hs (xI (if b = 0 then (if nRise (enc (cs c)) = true then 1 else 0) else if nFall (enc (cs c)) = true then 1 else 0))) := by
  refine XC.intro cdX7_isInOrder (by decide) (by decide) (Nat.le_of_ble_eq_true rfl) (loc := [some (xR 140), some (xI (c : Int)), some (xI b), none, none]) rfl (fun X hX => ?_)
  have hl := (hS.col hc).len
  have loop : ∀ (n k : Nat) (g : Int), 1 ≤ k → (k ≤ (enc (cs c)).length ∨ k = 1) → (enc (cs c)).length + 1 < k + n → (g = 1 ∧ (∀ r, r + 1 < k → (b ≠ 0 → rv (enc (cs c)) r < rv (enc (cs c)) (r + 1)) ∧ (b = 0 → rv (enc (cs c)) (r + 1) < rv (enc (cs c)) r))) ∨ (g = 0 ∧ ¬ (∀ r, r + 1 < k → (b ≠ 0 → rv (enc (cs c)) r < rv (enc (cs c)) (r + 1)) ∧ (b = 0 → rv (enc (cs c)) (r + 1) < rv (enc (cs c)) r))) → XW G X mX7_isInOrder (xq G (pP κ M hs (xI (if b = 0 then (if nRise (enc (cs c)) = true then 1 else 0) else if nFall (enc (cs c)) = true then 1 else 0))) 0 0 X) 0 0 5 [some (xR 140), some (xI (c : Int)), some (xI b), some (xI g), some (xI (k : Int))] [] κ M hs := by
    intro n
    induction n with
    | zero => intro k g h0 h1 h2 hg; omega
    | succ n ih =>
      intro k g h0 h1 h2 hg
      refine x_iload (pc := 5) hX rfl dX7_isInOrder_5 ?_
      refine x_aload_n (pc := 7) hX rfl rfl dX7_isInOrder_7 ?_
      refine x_iload_n (pc := 8) hX rfl rfl dX7_isInOrder_8 ?_
      refine x_cV_P (pc := 9) hX (tX7_runsOf hK hS c hc) hK.1 rfl lk_X7_52 rfl rfl (Nat.le_of_ble_eq_true rfl) (by decide) (Nat.zero_le _) (Nat.zero_le _) dX7_isInOrder_9 ?_
      refine x_icmp_ge (pc := 12) (tgt := 76) hX dX7_isInOrder_12 (by decide) (by omega) (fun h12 => ?_) (fun h12 => ?_)
      · skip
        refine x_iload_n (pc := 76) hX rfl rfl dX7_isInOrder_76 ?_
        refine x_zret (pc := 77) hX rfl (xn_bool (by omega)) (Nat.zero_le _) (Nat.zero_le _) dX7_isInOrder_77 ?_
        have hal := alt_ne (enc (cs c)) (can_enc (cs c)).1
        refine pP_i (congrArg xI ?_)
        rcases hg with ⟨rfl, h9⟩ | ⟨rfl, h9⟩
        · by_cases hb0 : b = 0
          · rw [if_pos hb0, if_pos ((nRise_iff _).mpr (fun r hr => Nat.le_of_lt ((h9 r (by omega)).2 hb0)))]
          · rw [if_neg hb0, if_pos ((nFall_iff _).mpr (fun r hr => Nat.le_of_lt ((h9 r (by omega)).1 hb0)))]
        · by_cases hb0 : b = 0
          · rw [if_pos hb0, if_neg (fun z => h9 (fun r hr => ⟨fun y => absurd hb0 y, fun _ => Nat.lt_of_le_of_ne ((nRise_iff _).mp z r (by omega)) (fun y => hal r (by omega) y.symm)⟩))]
          · rw [if_neg hb0, if_neg (fun z => h9 (fun r hr => ⟨fun _ => Nat.lt_of_le_of_ne ((nFall_iff _).mp z r (by omega)) (hal r (by omega)), fun y => absurd y hb0⟩))]
      · have hkl : k < (enc (cs c)).length := by omega
        have hmm := (hS.col hc).mem hkl
        have hmm1 := (hS.col hc).mem (k := k - 1) (by omega)
        refine x_iload_n (pc := 15) hX rfl rfl dX7_isInOrder_15 ?_
        refine x_if_eq (pc := 16) (tgt := 68) hX dX7_isInOrder_16 (by decide) (by omega) (fun h16 => ?_) (fun h16 => ?_)
        · refine x_iconst (pc := 68) hX dX7_isInOrder_68 ?_
          refine x_istore_n (pc := 69) hX rfl (by decide) rfl rfl dX7_isInOrder_69 ?_
          refine x_iinc (pc := 70) (v := ((k + 1 : Nat) : Int)) hX dX7_isInOrder_70 rfl (by decide) rfl (by omega) rfl ?_
          refine x_goto (pc := 73) (tgt := 5) hX dX7_isInOrder_73 (by decide) ?_
          first
            | (refine ih (k + 1) 1 (by omega) (by omega) (by omega) (Or.inl ⟨rfl, fun r hr => ?_⟩)
               have h9 := hg.resolve_right (fun z => by have := z.1; omega)
               by_cases e : r + 1 = k
               · have e2 : r = k - 1 := by omega
                 subst e2
                 rw [e]
                 exact ⟨fun z => by omega, fun z => by omega⟩
               · exact h9.2 r (by omega))
            | (refine ih (k + 1) 0 (by omega) (by omega) (by omega) (Or.inr ⟨rfl, fun z => ?_⟩)
               rcases hg with ⟨hg1, h9⟩ | ⟨-, h9⟩
               · have h8 := z (k - 1) (by omega)
                 rw [show k - 1 + 1 = k by omega] at h8
                 omega
               · exact h9 (fun r hr => z r (by omega)))
        · refine x_iload_n (pc := 19) hX rfl rfl dX7_isInOrder_19 ?_
          refine x_if_eq (pc := 20) (tgt := 45) hX dX7_isInOrder_20 (by decide) (by omega) (fun h20 => ?_) (fun h20 => ?_)
          · refine x_aload_n (pc := 45) hX rfl rfl dX7_isInOrder_45 ?_
            refine x_iload_n (pc := 46) hX rfl rfl dX7_isInOrder_46 ?_
            refine x_iload (pc := 47) hX rfl dX7_isInOrder_47 ?_
            refine x_cV_P (pc := 49) hX (tX7_valueOf hK hS c hc k hkl) hK.1 rfl lk_X7_66 rfl rfl (Nat.le_of_ble_eq_true rfl) (by decide) (Nat.zero_le _) (Nat.zero_le _) dX7_isInOrder_49 ?_
            refine x_aload_n (pc := 52) hX rfl rfl dX7_isInOrder_52 ?_
            refine x_iload_n (pc := 53) hX rfl rfl dX7_isInOrder_53 ?_
            refine x_iload (pc := 54) hX rfl dX7_isInOrder_54 ?_
            refine x_iconst (pc := 56) hX dX7_isInOrder_56 ?_
            refine x_isub (pc := 57) hX dX7_isInOrder_57 rfl ?_
            refine x_top (congrArg xI (show (k : Int) - 1 = ((k - 1 : Nat) : Int) by omega)) ?_
            refine x_cV_P (pc := 58) hX (tX7_valueOf hK hS c hc (k - 1) (by omega)) hK.1 rfl lk_X7_66 rfl rfl (Nat.le_of_ble_eq_true rfl) (by decide) (Nat.zero_le _) (Nat.zero_le _) dX7_isInOrder_58 ?_
            refine x_icmp_ge (pc := 61) (tgt := 68) hX dX7_isInOrder_61 (by decide) (by omega) (fun h61 => ?_) (fun h61 => ?_)
            · refine x_iconst (pc := 68) hX dX7_isInOrder_68 ?_
              refine x_istore_n (pc := 69) hX rfl (by decide) rfl rfl dX7_isInOrder_69 ?_
              refine x_iinc (pc := 70) (v := ((k + 1 : Nat) : Int)) hX dX7_isInOrder_70 rfl (by decide) rfl (by omega) rfl ?_
              refine x_goto (pc := 73) (tgt := 5) hX dX7_isInOrder_73 (by decide) ?_
              first
                | (refine ih (k + 1) 1 (by omega) (by omega) (by omega) (Or.inl ⟨rfl, fun r hr => ?_⟩)
                   have h9 := hg.resolve_right (fun z => by have := z.1; omega)
                   by_cases e : r + 1 = k
                   · have e2 : r = k - 1 := by omega
                     subst e2
                     rw [e]
                     exact ⟨fun z => by omega, fun z => by omega⟩
                   · exact h9.2 r (by omega))
                | (refine ih (k + 1) 0 (by omega) (by omega) (by omega) (Or.inr ⟨rfl, fun z => ?_⟩)
                   rcases hg with ⟨hg1, h9⟩ | ⟨-, h9⟩
                   · have h8 := z (k - 1) (by omega)
                     rw [show k - 1 + 1 = k by omega] at h8
                     omega
                   · exact h9 (fun r hr => z r (by omega)))
            · refine x_iconst (pc := 64) hX dX7_isInOrder_64 ?_
              refine x_goto (pc := 65) (tgt := 69) hX dX7_isInOrder_65 (by decide) ?_
              refine x_istore_n (pc := 69) hX rfl (by decide) rfl rfl dX7_isInOrder_69 ?_
              refine x_iinc (pc := 70) (v := ((k + 1 : Nat) : Int)) hX dX7_isInOrder_70 rfl (by decide) rfl (by omega) rfl ?_
              refine x_goto (pc := 73) (tgt := 5) hX dX7_isInOrder_73 (by decide) ?_
              first
                | (refine ih (k + 1) 1 (by omega) (by omega) (by omega) (Or.inl ⟨rfl, fun r hr => ?_⟩)
                   have h9 := hg.resolve_right (fun z => by have := z.1; omega)
                   by_cases e : r + 1 = k
                   · have e2 : r = k - 1 := by omega
                     subst e2
                     rw [e]
                     exact ⟨fun z => by omega, fun z => by omega⟩
                   · exact h9.2 r (by omega))
                | (refine ih (k + 1) 0 (by omega) (by omega) (by omega) (Or.inr ⟨rfl, fun z => ?_⟩)
                   rcases hg with ⟨hg1, h9⟩ | ⟨-, h9⟩
                   · have h8 := z (k - 1) (by omega)
                     rw [show k - 1 + 1 = k by omega] at h8
                     omega
                   · exact h9 (fun r hr => z r (by omega)))
          · refine x_aload_n (pc := 23) hX rfl rfl dX7_isInOrder_23 ?_
            refine x_iload_n (pc := 24) hX rfl rfl dX7_isInOrder_24 ?_
            refine x_iload (pc := 25) hX rfl dX7_isInOrder_25 ?_
            refine x_cV_P (pc := 27) hX (tX7_valueOf hK hS c hc k hkl) hK.1 rfl lk_X7_66 rfl rfl (Nat.le_of_ble_eq_true rfl) (by decide) (Nat.zero_le _) (Nat.zero_le _) dX7_isInOrder_27 ?_
            refine x_aload_n (pc := 30) hX rfl rfl dX7_isInOrder_30 ?_
            refine x_iload_n (pc := 31) hX rfl rfl dX7_isInOrder_31 ?_
            refine x_iload (pc := 32) hX rfl dX7_isInOrder_32 ?_
            refine x_iconst (pc := 34) hX dX7_isInOrder_34 ?_
            refine x_isub (pc := 35) hX dX7_isInOrder_35 rfl ?_
            refine x_top (congrArg xI (show (k : Int) - 1 = ((k - 1 : Nat) : Int) by omega)) ?_
            refine x_cV_P (pc := 36) hX (tX7_valueOf hK hS c hc (k - 1) (by omega)) hK.1 rfl lk_X7_66 rfl rfl (Nat.le_of_ble_eq_true rfl) (by decide) (Nat.zero_le _) (Nat.zero_le _) dX7_isInOrder_36 ?_
            refine x_icmp_le (pc := 39) (tgt := 68) hX dX7_isInOrder_39 (by decide) (by omega) (fun h39 => ?_) (fun h39 => ?_)
            · refine x_iconst (pc := 68) hX dX7_isInOrder_68 ?_
              refine x_istore_n (pc := 69) hX rfl (by decide) rfl rfl dX7_isInOrder_69 ?_
              refine x_iinc (pc := 70) (v := ((k + 1 : Nat) : Int)) hX dX7_isInOrder_70 rfl (by decide) rfl (by omega) rfl ?_
              refine x_goto (pc := 73) (tgt := 5) hX dX7_isInOrder_73 (by decide) ?_
              first
                | (refine ih (k + 1) 1 (by omega) (by omega) (by omega) (Or.inl ⟨rfl, fun r hr => ?_⟩)
                   have h9 := hg.resolve_right (fun z => by have := z.1; omega)
                   by_cases e : r + 1 = k
                   · have e2 : r = k - 1 := by omega
                     subst e2
                     rw [e]
                     exact ⟨fun z => by omega, fun z => by omega⟩
                   · exact h9.2 r (by omega))
                | (refine ih (k + 1) 0 (by omega) (by omega) (by omega) (Or.inr ⟨rfl, fun z => ?_⟩)
                   rcases hg with ⟨hg1, h9⟩ | ⟨-, h9⟩
                   · have h8 := z (k - 1) (by omega)
                     rw [show k - 1 + 1 = k by omega] at h8
                     omega
                   · exact h9 (fun r hr => z r (by omega)))
            · refine x_goto (pc := 42) (tgt := 64) hX dX7_isInOrder_42 (by decide) ?_
              refine x_iconst (pc := 64) hX dX7_isInOrder_64 ?_
              refine x_goto (pc := 65) (tgt := 69) hX dX7_isInOrder_65 (by decide) ?_
              refine x_istore_n (pc := 69) hX rfl (by decide) rfl rfl dX7_isInOrder_69 ?_
              refine x_iinc (pc := 70) (v := ((k + 1 : Nat) : Int)) hX dX7_isInOrder_70 rfl (by decide) rfl (by omega) rfl ?_
              refine x_goto (pc := 73) (tgt := 5) hX dX7_isInOrder_73 (by decide) ?_
              first
                | (refine ih (k + 1) 1 (by omega) (by omega) (by omega) (Or.inl ⟨rfl, fun r hr => ?_⟩)
                   have h9 := hg.resolve_right (fun z => by have := z.1; omega)
                   by_cases e : r + 1 = k
                   · have e2 : r = k - 1 := by omega
                     subst e2
                     rw [e]
                     exact ⟨fun z => by omega, fun z => by omega⟩
                   · exact h9.2 r (by omega))
                | (refine ih (k + 1) 0 (by omega) (by omega) (by omega) (Or.inr ⟨rfl, fun z => ?_⟩)
                   rcases hg with ⟨hg1, h9⟩ | ⟨-, h9⟩
                   · have h8 := z (k - 1) (by omega)
                     rw [show k - 1 + 1 = k by omega] at h8
                     omega
                   · exact h9 (fun r hr => z r (by omega)))
  refine x_iconst (pc := 0) hX dX7_isInOrder_0 ?_
  refine x_istore_n (pc := 1) hX rfl (by decide) rfl rfl dX7_isInOrder_1 ?_
  refine x_iconst (pc := 2) hX dX7_isInOrder_2 ?_
  refine x_istore (pc := 3) hX (by decide) rfl rfl dX7_isInOrder_3 ?_
  exact loop ((enc (cs c)).length + 1) 1 1 (by omega) (by omega) (by omega) (Or.inl ⟨rfl, fun r hr => absurd hr (by omega)⟩)

set_option maxHeartbeats 4000000 in
set_option maxRecDepth 100000 in
theorem tX7_longest {G : XG} {κ : XKs} {M : XM} {hs : Nat} (hK : KM κ hs) {cs : Cs} (hS : MS (M 141) 0 cs) (c : Nat) (hc : c < 4) (v : Int) (hv : InR v) : XC G mX7_longest 1 0 0 [xR 140, xI (c : Int), xI v] κ M hs (pP κ M hs (xI (if v < 0 then fLong 0 (enc (cs c)) else fLongOf v 0 (enc (cs c))))) := by
  refine XC.intro cdX7_longest (by decide) (by decide) (Nat.le_of_ble_eq_true rfl) (loc := [some (xR 140), some (xI (c : Int)), some (xI v), none, none, none]) rfl (fun X hX => ?_)
  have hl := (hS.col hc).len
  unfold InR at hv
  have loop : ∀ (n k : Nat) (acc : Int) (z : Option XV), 0 ≤ acc ∧ acc ≤ 999 → k ≤ (enc (cs c)).length → (enc (cs c)).length < k + n → (if v < 0 then fLong acc ((enc (cs c)).drop k) else fLongOf v acc ((enc (cs c)).drop k)) = (if v < 0 then fLong 0 (enc (cs c)) else fLongOf v 0 (enc (cs c))) → XW G X mX7_longest (xq G (pP κ M hs (xI (if v < 0 then fLong 0 (enc (cs c)) else fLongOf v 0 (enc (cs c))))) 0 0 X) 0 0 5 [some (xR 140), some (xI (c : Int)), some (xI v), some (xI acc), some (xI (k : Int)), z] [] κ M hs := by
    intro n
    induction n with
    | zero => intro k acc z h0 h1 h2; omega
    | succ n ih =>
      intro k acc z h0 h1 h2 hF
      refine x_iload (pc := 5) hX rfl dX7_longest_5 ?_
      refine x_aload_n (pc := 7) hX rfl rfl dX7_longest_7 ?_
      refine x_iload_n (pc := 8) hX rfl rfl dX7_longest_8 ?_
      refine x_cV_P (pc := 9) hX (tX7_runsOf hK hS c hc) hK.1 rfl lk_X7_52 rfl rfl (Nat.le_of_ble_eq_true rfl) (by decide) (Nat.zero_le _) (Nat.zero_le _) dX7_longest_9 ?_
      refine x_icmp_ge (pc := 12) (tgt := 71) hX dX7_longest_12 (by decide) (by omega) (fun h12 => ?_) (fun h12 => ?_)
      · rw [ru_end _ (by omega : (enc (cs c)).length ≤ k), fLong, fLongOf] at hF
        refine x_iload_n (pc := 71) hX rfl rfl dX7_longest_71 ?_
        refine x_iret (pc := 72) hX rfl (Nat.zero_le _) (Nat.zero_le _) dX7_longest_72 ?_
        exact pP_i (congrArg xI (by rw [← hF]; split <;> rfl))
      · have hkl : k < (enc (cs c)).length := by omega
        have hmm := (hS.col hc).mem hkl
        rw [ru_drop hkl, fLong, fLongOf] at hF
        refine x_iload_n (pc := 15) hX rfl rfl dX7_longest_15 ?_
        refine x_if_lt (pc := 16) (tgt := 30) hX dX7_longest_16 (by decide) (by omega) (fun h16 => ?_) (fun h16 => ?_)
        · refine x_iconst (pc := 30) hX dX7_longest_30 ?_
          refine x_goto (pc := 31) (tgt := 35) hX dX7_longest_31 (by decide) ?_
          refine x_istore (pc := 35) hX (by decide) rfl rfl dX7_longest_35 ?_
          refine x_iload (pc := 37) hX rfl dX7_longest_37 ?_
          refine x_if_eq (pc := 39) (tgt := 63) hX dX7_longest_39 (by decide) (by decide) (fun h39 => ?_) (fun h39 => ?_)
          · exact absurd h39 (by decide)
          · refine x_aload_n (pc := 42) hX rfl rfl dX7_longest_42 ?_
            refine x_iload_n (pc := 43) hX rfl rfl dX7_longest_43 ?_
            refine x_iload (pc := 44) hX rfl dX7_longest_44 ?_
            refine x_cV_P (pc := 46) hX (tX7_lengthOf hK hS c hc k hkl) hK.1 rfl lk_X7_56 rfl rfl (Nat.le_of_ble_eq_true rfl) (by decide) (Nat.zero_le _) (Nat.zero_le _) dX7_longest_46 ?_
            refine x_iload_n (pc := 49) hX rfl rfl dX7_longest_49 ?_
            refine x_icmp_le (pc := 50) (tgt := 63) hX dX7_longest_50 (by decide) (by omega) (fun h50 => ?_) (fun h50 => ?_)
            · refine x_iload_n (pc := 63) hX rfl rfl dX7_longest_63 ?_
              refine x_istore_n (pc := 64) hX rfl (by decide) rfl rfl dX7_longest_64 ?_
              refine x_iinc (pc := 65) (v := ((k + 1 : Nat) : Int)) hX dX7_longest_65 rfl (by decide) rfl (by omega) rfl ?_
              refine x_goto (pc := 68) (tgt := 5) hX dX7_longest_68 (by decide) ?_
              first
                | (refine ih (k + 1) _ _ (by omega) (by omega) (by omega) ?_
                   rw [← hF]
                   by_cases g0 : v < 0
                   · rw [if_pos g0, if_pos g0]
                     first | (exfalso; omega) | rw [if_pos (by omega)] | rw [if_neg (by omega)]
                   · rw [if_neg g0, if_neg g0]
                     first | (exfalso; omega) | rw [if_pos (by omega), if_pos (by omega)] | rw [if_pos (by omega), if_neg (by omega)] | rw [if_neg (by omega)])
            · refine x_aload_n (pc := 53) hX rfl rfl dX7_longest_53 ?_
              refine x_iload_n (pc := 54) hX rfl rfl dX7_longest_54 ?_
              refine x_iload (pc := 55) hX rfl dX7_longest_55 ?_
              refine x_cV_P (pc := 57) hX (tX7_lengthOf hK hS c hc k hkl) hK.1 rfl lk_X7_56 rfl rfl (Nat.le_of_ble_eq_true rfl) (by decide) (Nat.zero_le _) (Nat.zero_le _) dX7_longest_57 ?_
              refine x_goto (pc := 60) (tgt := 64) hX dX7_longest_60 (by decide) ?_
              refine x_istore_n (pc := 64) hX rfl (by decide) rfl rfl dX7_longest_64 ?_
              refine x_iinc (pc := 65) (v := ((k + 1 : Nat) : Int)) hX dX7_longest_65 rfl (by decide) rfl (by omega) rfl ?_
              refine x_goto (pc := 68) (tgt := 5) hX dX7_longest_68 (by decide) ?_
              first
                | (refine ih (k + 1) _ _ (by omega) (by omega) (by omega) ?_
                   rw [← hF]
                   by_cases g0 : v < 0
                   · rw [if_pos g0, if_pos g0]
                     first | (exfalso; omega) | rw [if_pos (by omega)] | rw [if_neg (by omega)]
                   · rw [if_neg g0, if_neg g0]
                     first | (exfalso; omega) | rw [if_pos (by omega), if_pos (by omega)] | rw [if_pos (by omega), if_neg (by omega)] | rw [if_neg (by omega)])
        · refine x_aload_n (pc := 19) hX rfl rfl dX7_longest_19 ?_
          refine x_iload_n (pc := 20) hX rfl rfl dX7_longest_20 ?_
          refine x_iload (pc := 21) hX rfl dX7_longest_21 ?_
          refine x_cV_P (pc := 23) hX (tX7_valueOf hK hS c hc k hkl) hK.1 rfl lk_X7_66 rfl rfl (Nat.le_of_ble_eq_true rfl) (by decide) (Nat.zero_le _) (Nat.zero_le _) dX7_longest_23 ?_
          refine x_iload_n (pc := 26) hX rfl rfl dX7_longest_26 ?_
          refine x_icmp_ne (pc := 27) (tgt := 34) hX dX7_longest_27 (by decide) (by omega) (fun h27 => ?_) (fun h27 => ?_)
          · refine x_iconst (pc := 34) hX dX7_longest_34 ?_
            refine x_istore (pc := 35) hX (by decide) rfl rfl dX7_longest_35 ?_
            refine x_iload (pc := 37) hX rfl dX7_longest_37 ?_
            refine x_if_eq (pc := 39) (tgt := 63) hX dX7_longest_39 (by decide) (by decide) (fun h39 => ?_) (fun h39 => ?_)
            · refine x_iload_n (pc := 63) hX rfl rfl dX7_longest_63 ?_
              refine x_istore_n (pc := 64) hX rfl (by decide) rfl rfl dX7_longest_64 ?_
              refine x_iinc (pc := 65) (v := ((k + 1 : Nat) : Int)) hX dX7_longest_65 rfl (by decide) rfl (by omega) rfl ?_
              refine x_goto (pc := 68) (tgt := 5) hX dX7_longest_68 (by decide) ?_
              first
                | (refine ih (k + 1) _ _ (by omega) (by omega) (by omega) ?_
                   rw [← hF]
                   by_cases g0 : v < 0
                   · rw [if_pos g0, if_pos g0]
                     first | (exfalso; omega) | rw [if_pos (by omega)] | rw [if_neg (by omega)]
                   · rw [if_neg g0, if_neg g0]
                     first | (exfalso; omega) | rw [if_pos (by omega), if_pos (by omega)] | rw [if_pos (by omega), if_neg (by omega)] | rw [if_neg (by omega)])
            · exact absurd rfl h39
          · refine x_iconst (pc := 30) hX dX7_longest_30 ?_
            refine x_goto (pc := 31) (tgt := 35) hX dX7_longest_31 (by decide) ?_
            refine x_istore (pc := 35) hX (by decide) rfl rfl dX7_longest_35 ?_
            refine x_iload (pc := 37) hX rfl dX7_longest_37 ?_
            refine x_if_eq (pc := 39) (tgt := 63) hX dX7_longest_39 (by decide) (by decide) (fun h39 => ?_) (fun h39 => ?_)
            · exact absurd h39 (by decide)
            · refine x_aload_n (pc := 42) hX rfl rfl dX7_longest_42 ?_
              refine x_iload_n (pc := 43) hX rfl rfl dX7_longest_43 ?_
              refine x_iload (pc := 44) hX rfl dX7_longest_44 ?_
              refine x_cV_P (pc := 46) hX (tX7_lengthOf hK hS c hc k hkl) hK.1 rfl lk_X7_56 rfl rfl (Nat.le_of_ble_eq_true rfl) (by decide) (Nat.zero_le _) (Nat.zero_le _) dX7_longest_46 ?_
              refine x_iload_n (pc := 49) hX rfl rfl dX7_longest_49 ?_
              refine x_icmp_le (pc := 50) (tgt := 63) hX dX7_longest_50 (by decide) (by omega) (fun h50 => ?_) (fun h50 => ?_)
              · refine x_iload_n (pc := 63) hX rfl rfl dX7_longest_63 ?_
                refine x_istore_n (pc := 64) hX rfl (by decide) rfl rfl dX7_longest_64 ?_
                refine x_iinc (pc := 65) (v := ((k + 1 : Nat) : Int)) hX dX7_longest_65 rfl (by decide) rfl (by omega) rfl ?_
                refine x_goto (pc := 68) (tgt := 5) hX dX7_longest_68 (by decide) ?_
                first
                  | (refine ih (k + 1) _ _ (by omega) (by omega) (by omega) ?_
                     rw [← hF]
                     by_cases g0 : v < 0
                     · rw [if_pos g0, if_pos g0]
                       first | (exfalso; omega) | rw [if_pos (by omega)] | rw [if_neg (by omega)]
                     · rw [if_neg g0, if_neg g0]
                       first | (exfalso; omega) | rw [if_pos (by omega), if_pos (by omega)] | rw [if_pos (by omega), if_neg (by omega)] | rw [if_neg (by omega)])
              · refine x_aload_n (pc := 53) hX rfl rfl dX7_longest_53 ?_
                refine x_iload_n (pc := 54) hX rfl rfl dX7_longest_54 ?_
                refine x_iload (pc := 55) hX rfl dX7_longest_55 ?_
                refine x_cV_P (pc := 57) hX (tX7_lengthOf hK hS c hc k hkl) hK.1 rfl lk_X7_56 rfl rfl (Nat.le_of_ble_eq_true rfl) (by decide) (Nat.zero_le _) (Nat.zero_le _) dX7_longest_57 ?_
                refine x_goto (pc := 60) (tgt := 64) hX dX7_longest_60 (by decide) ?_
                refine x_istore_n (pc := 64) hX rfl (by decide) rfl rfl dX7_longest_64 ?_
                refine x_iinc (pc := 65) (v := ((k + 1 : Nat) : Int)) hX dX7_longest_65 rfl (by decide) rfl (by omega) rfl ?_
                refine x_goto (pc := 68) (tgt := 5) hX dX7_longest_68 (by decide) ?_
                first
                  | (refine ih (k + 1) _ _ (by omega) (by omega) (by omega) ?_
                     rw [← hF]
                     by_cases g0 : v < 0
                     · rw [if_pos g0, if_pos g0]
                       first | (exfalso; omega) | rw [if_pos (by omega)] | rw [if_neg (by omega)]
                     · rw [if_neg g0, if_neg g0]
                       first | (exfalso; omega) | rw [if_pos (by omega), if_pos (by omega)] | rw [if_pos (by omega), if_neg (by omega)] | rw [if_neg (by omega)])
  refine x_iconst (pc := 0) hX dX7_longest_0 ?_
  refine x_istore_n (pc := 1) hX rfl (by decide) rfl rfl dX7_longest_1 ?_
  refine x_iconst (pc := 2) hX dX7_longest_2 ?_
  refine x_istore (pc := 3) hX (by decide) rfl rfl dX7_longest_3 ?_
  exact loop ((enc (cs c)).length + 1) 0 0 none (by omega) (by omega) (by omega) (by rw [List.drop_zero])

set_option maxHeartbeats 4000000 in
set_option maxRecDepth 100000 in
theorem tX7_ofValue {G : XG} {κ : XKs} {M : XM} {hs : Nat} (hK : KM κ hs) {cs : Cs} (hS : MS (M 141) 0 cs) (c : Nat) (hc : c < 4) (v : Int) (hv : InR v) (b : Int) (hb : b = 0 ∨ b = 1) : XC G mX7_ofValue 1 0 0 [xR 140, xI (c : Int), xI v, xI b] κ M hs (pP κ M hs (xI (if b = 0 then fRows v 0 (enc (cs c)) else fRuns v 0 (enc (cs c))))) := by
  refine XC.intro cdX7_ofValue (by decide) (by decide) (Nat.le_of_ble_eq_true rfl) (loc := [some (xR 140), some (xI (c : Int)), some (xI v), some (xI b), none, none, none]) rfl (fun X hX => ?_)
  have hl := (hS.col hc).len
  unfold InR at hv
  have loop : ∀ (n k : Nat) (acc : Int) (z : Option XV), k ≤ (enc (cs c)).length → (enc (cs c)).length < k + n → (if b = 0 then fRows v acc ((enc (cs c)).drop k) else fRuns v acc ((enc (cs c)).drop k)) = (if b = 0 then fRows v 0 (enc (cs c)) else fRuns v 0 (enc (cs c))) → XW G X mX7_ofValue (xq G (pP κ M hs (xI (if b = 0 then fRows v 0 (enc (cs c)) else fRuns v 0 (enc (cs c))))) 0 0 X) 0 0 6 [some (xR 140), some (xI (c : Int)), some (xI v), some (xI b), some (xI acc), some (xI (k : Int)), z] [] κ M hs := by
    intro n
    induction n with
    | zero => intro k acc z h1 h2; omega
    | succ n ih =>
      intro k acc z h1 h2 hF
      refine x_iload (pc := 6) hX rfl dX7_ofValue_6 ?_
      refine x_aload_n (pc := 8) hX rfl rfl dX7_ofValue_8 ?_
      refine x_iload_n (pc := 9) hX rfl rfl dX7_ofValue_9 ?_
      refine x_cV_P (pc := 10) hX (tX7_runsOf hK hS c hc) hK.1 rfl lk_X7_52 rfl rfl (Nat.le_of_ble_eq_true rfl) (by decide) (Nat.zero_le _) (Nat.zero_le _) dX7_ofValue_10 ?_
      refine x_icmp_ge (pc := 13) (tgt := 61) hX dX7_ofValue_13 (by decide) (by omega) (fun h13 => ?_) (fun h13 => ?_)
      · rw [ru_end _ (by omega : (enc (cs c)).length ≤ k), fRows, fRuns] at hF
        refine x_iload (pc := 61) hX rfl dX7_ofValue_61 ?_
        refine x_iret (pc := 63) hX rfl (Nat.zero_le _) (Nat.zero_le _) dX7_ofValue_63 ?_
        exact pP_i (congrArg xI (by rw [← hF]; split <;> rfl))
      · have hkl : k < (enc (cs c)).length := by omega
        have hmm := (hS.col hc).mem hkl
        rw [ru_drop hkl, fRows, fRuns] at hF
        refine x_iload_n (pc := 16) hX rfl rfl dX7_ofValue_16 ?_
        refine x_if_eq (pc := 17) (tgt := 24) hX dX7_ofValue_17 (by decide) (by omega) (fun h17 => ?_) (fun h17 => ?_)
        · refine x_aload_n (pc := 24) hX rfl rfl dX7_ofValue_24 ?_
          refine x_iload_n (pc := 25) hX rfl rfl dX7_ofValue_25 ?_
          refine x_iload (pc := 26) hX rfl dX7_ofValue_26 ?_
          refine x_cV_P (pc := 28) hX (tX7_lengthOf hK hS c hc k hkl) hK.1 rfl lk_X7_56 rfl rfl (Nat.le_of_ble_eq_true rfl) (by decide) (Nat.zero_le _) (Nat.zero_le _) dX7_ofValue_28 ?_
          refine x_istore (pc := 31) hX (by decide) rfl rfl dX7_ofValue_31 ?_
          refine x_iload (pc := 33) hX rfl dX7_ofValue_33 ?_
          refine x_aload_n (pc := 35) hX rfl rfl dX7_ofValue_35 ?_
          refine x_iload_n (pc := 36) hX rfl rfl dX7_ofValue_36 ?_
          refine x_iload (pc := 37) hX rfl dX7_ofValue_37 ?_
          refine x_cV_P (pc := 39) hX (tX7_valueOf hK hS c hc k hkl) hK.1 rfl lk_X7_66 rfl rfl (Nat.le_of_ble_eq_true rfl) (by decide) (Nat.zero_le _) (Nat.zero_le _) dX7_ofValue_39 ?_
          refine x_iload_n (pc := 42) hX rfl rfl dX7_ofValue_42 ?_
          refine x_icmp_ne (pc := 43) (tgt := 51) hX dX7_ofValue_43 (by decide) (by omega) (fun h43 => ?_) (fun h43 => ?_)
          · refine x_iconst (pc := 51) hX dX7_ofValue_51 ?_
            refine x_iadd (pc := 52) hX dX7_ofValue_52 rfl ?_
            refine x_istore (pc := 53) hX (by decide) rfl rfl dX7_ofValue_53 ?_
            refine x_iinc (pc := 55) (v := ((k + 1 : Nat) : Int)) hX dX7_ofValue_55 rfl (by decide) rfl (by omega) rfl ?_
            refine x_goto (pc := 58) (tgt := 6) hX dX7_ofValue_58 (by decide) ?_
            refine ih (k + 1) _ _ (by omega) (by omega) ?_
            rw [← hF]
            by_cases g0 : b = 0
            · rw [if_pos g0, if_pos g0]
              first | (exfalso; omega) | rw [if_pos (by omega)] | (rw [if_neg (by omega)]; congr 1; omega)
            · rw [if_neg g0, if_neg g0]
              first | (exfalso; omega) | rw [if_pos (by omega)] | (rw [if_neg (by omega)]; congr 1; omega)
          · refine x_iload (pc := 46) hX rfl dX7_ofValue_46 ?_
            refine x_goto (pc := 48) (tgt := 52) hX dX7_ofValue_48 (by decide) ?_
            refine x_iadd (pc := 52) hX dX7_ofValue_52 rfl ?_
            refine x_istore (pc := 53) hX (by decide) rfl rfl dX7_ofValue_53 ?_
            refine x_iinc (pc := 55) (v := ((k + 1 : Nat) : Int)) hX dX7_ofValue_55 rfl (by decide) rfl (by omega) rfl ?_
            refine x_goto (pc := 58) (tgt := 6) hX dX7_ofValue_58 (by decide) ?_
            refine ih (k + 1) _ _ (by omega) (by omega) ?_
            rw [← hF]
            by_cases g0 : b = 0
            · rw [if_pos g0, if_pos g0]
              first | (exfalso; omega) | rw [if_pos (by omega)] | (rw [if_neg (by omega)]; congr 1; omega)
            · rw [if_neg g0, if_neg g0]
              first | (exfalso; omega) | rw [if_pos (by omega)] | (rw [if_neg (by omega)]; congr 1; omega)
        · refine x_iconst (pc := 20) hX dX7_ofValue_20 ?_
          refine x_goto (pc := 21) (tgt := 31) hX dX7_ofValue_21 (by decide) ?_
          refine x_istore (pc := 31) hX (by decide) rfl rfl dX7_ofValue_31 ?_
          refine x_iload (pc := 33) hX rfl dX7_ofValue_33 ?_
          refine x_aload_n (pc := 35) hX rfl rfl dX7_ofValue_35 ?_
          refine x_iload_n (pc := 36) hX rfl rfl dX7_ofValue_36 ?_
          refine x_iload (pc := 37) hX rfl dX7_ofValue_37 ?_
          refine x_cV_P (pc := 39) hX (tX7_valueOf hK hS c hc k hkl) hK.1 rfl lk_X7_66 rfl rfl (Nat.le_of_ble_eq_true rfl) (by decide) (Nat.zero_le _) (Nat.zero_le _) dX7_ofValue_39 ?_
          refine x_iload_n (pc := 42) hX rfl rfl dX7_ofValue_42 ?_
          refine x_icmp_ne (pc := 43) (tgt := 51) hX dX7_ofValue_43 (by decide) (by omega) (fun h43 => ?_) (fun h43 => ?_)
          · refine x_iconst (pc := 51) hX dX7_ofValue_51 ?_
            refine x_iadd (pc := 52) hX dX7_ofValue_52 rfl ?_
            refine x_istore (pc := 53) hX (by decide) rfl rfl dX7_ofValue_53 ?_
            refine x_iinc (pc := 55) (v := ((k + 1 : Nat) : Int)) hX dX7_ofValue_55 rfl (by decide) rfl (by omega) rfl ?_
            refine x_goto (pc := 58) (tgt := 6) hX dX7_ofValue_58 (by decide) ?_
            refine ih (k + 1) _ _ (by omega) (by omega) ?_
            rw [← hF]
            by_cases g0 : b = 0
            · rw [if_pos g0, if_pos g0]
              first | (exfalso; omega) | rw [if_pos (by omega)] | (rw [if_neg (by omega)]; congr 1; omega)
            · rw [if_neg g0, if_neg g0]
              first | (exfalso; omega) | rw [if_pos (by omega)] | (rw [if_neg (by omega)]; congr 1; omega)
          · refine x_iload (pc := 46) hX rfl dX7_ofValue_46 ?_
            refine x_goto (pc := 48) (tgt := 52) hX dX7_ofValue_48 (by decide) ?_
            refine x_iadd (pc := 52) hX dX7_ofValue_52 rfl ?_
            refine x_istore (pc := 53) hX (by decide) rfl rfl dX7_ofValue_53 ?_
            refine x_iinc (pc := 55) (v := ((k + 1 : Nat) : Int)) hX dX7_ofValue_55 rfl (by decide) rfl (by omega) rfl ?_
            refine x_goto (pc := 58) (tgt := 6) hX dX7_ofValue_58 (by decide) ?_
            refine ih (k + 1) _ _ (by omega) (by omega) ?_
            rw [← hF]
            by_cases g0 : b = 0
            · rw [if_pos g0, if_pos g0]
              first | (exfalso; omega) | rw [if_pos (by omega)] | (rw [if_neg (by omega)]; congr 1; omega)
            · rw [if_neg g0, if_neg g0]
              first | (exfalso; omega) | rw [if_pos (by omega)] | (rw [if_neg (by omega)]; congr 1; omega)
  refine x_iconst (pc := 0) hX dX7_ofValue_0 ?_
  refine x_istore (pc := 1) hX (by decide) rfl rfl dX7_ofValue_1 ?_
  refine x_iconst (pc := 3) hX dX7_ofValue_3 ?_
  refine x_istore (pc := 4) hX (by decide) rfl rfl dX7_ofValue_4 ?_
  exact loop ((enc (cs c)).length + 1) 0 0 none (by omega) (by omega) (by rw [List.drop_zero])

set_option maxHeartbeats 4000000 in
set_option maxRecDepth 100000 in
theorem tX7_allRuns {G : XG} {κ : XKs} {M : XM} {hs : Nat} (hK : KM κ hs) {cs : Cs} (hS : MS (M 141) 0 cs) : XC G mX7_allRuns 1 0 0 [xR 140] κ M hs (pP κ M hs (xI (sumTo (fun i => ((enc (cs i)).length : Int)) 4))) := by
  refine XC.intro cdX7_allRuns (by decide) (by decide) (Nat.le_of_ble_eq_true rfl) (loc := [some (xR 140), none, none]) rfl (fun X hX => ?_)
  have loop : ∀ (n k : Nat), k ≤ 4 → 4 < k + n → XW G X mX7_allRuns (xq G (pP κ M hs (xI (sumTo (fun i => ((enc (cs i)).length : Int)) 4))) 0 0 X) 0 0 4 [some (xR 140), some (xI (sumTo (fun i => ((enc (cs i)).length : Int)) k)), some (xI (k : Int))] [] κ M hs := by
    intro n
    induction n with
    | zero => intro k  h1 h2; omega
    | succ n ih =>
      intro k  h1 h2
      refine x_iload_n (pc := 4) hX rfl rfl dX7_allRuns_4 ?_
      refine x_iconst (pc := 5) hX dX7_allRuns_5 ?_
      refine x_icmp_ge (pc := 6) (tgt := 23) hX dX7_allRuns_6 (by decide) (by omega) (fun h6 => ?_) (fun h6 => ?_)
      · obtain rfl : k = 4 := by omega
        refine x_iload_n (pc := 23) hX rfl rfl dX7_allRuns_23 ?_
        refine x_iret (pc := 24) hX rfl (Nat.zero_le _) (Nat.zero_le _) dX7_allRuns_24 (pP_i rfl)
      · have hk : k < 4 := by omega
        refine x_iload_n (pc := 9) hX rfl rfl dX7_allRuns_9 ?_
        refine x_aload_n (pc := 10) hX rfl rfl dX7_allRuns_10 ?_
        refine x_iload_n (pc := 11) hX rfl rfl dX7_allRuns_11 ?_
        refine x_cV_P (pc := 12) hX (tX7_runsOf hK hS k hk) hK.1 rfl lk_X7_52 rfl rfl (Nat.le_of_ble_eq_true rfl) (by decide) (Nat.zero_le _) (Nat.zero_le _) dX7_allRuns_12 ?_
        refine x_iadd (pc := 15) (v := (sumTo (fun i => ((enc (cs i)).length : Int)) (k + 1))) hX dX7_allRuns_15 rfl ?_
        refine x_istore_n (pc := 16) hX rfl (by decide) rfl rfl dX7_allRuns_16 ?_
        refine x_iinc (pc := 17) (v := ((k + 1 : Nat) : Int)) hX dX7_allRuns_17 rfl (by decide) rfl (by omega) rfl ?_
        refine x_goto (pc := 20) (tgt := 4) hX dX7_allRuns_20 (by decide) ?_
        exact ih (k + 1) (by omega) (by omega)
  refine x_iconst (pc := 0) hX dX7_allRuns_0 ?_
  refine x_istore_n (pc := 1) hX rfl (by decide) rfl rfl dX7_allRuns_1 ?_
  refine x_iconst (pc := 2) hX dX7_allRuns_2 ?_
  refine x_istore_n (pc := 3) hX rfl (by decide) rfl rfl dX7_allRuns_3 ?_
  exact loop 5 0 (by omega) (by omega)

set_option maxHeartbeats 4000000 in
set_option maxRecDepth 100000 in
theorem tX7_allRows {G : XG} {κ : XKs} {M : XM} {hs : Nat} (hK : KM κ hs) {cs : Cs} (hS : MS (M 141) 0 cs) : XC G mX7_allRows 2 0 0 [xR 140] κ M hs (pP κ M hs (xI (sumTo (fun i => ((cs i).length : Int)) 4))) := by
  refine XC.intro cdX7_allRows (by decide) (by decide) (Nat.le_of_ble_eq_true rfl) (loc := [some (xR 140), none, none]) rfl (fun X hX => ?_)
  have loop : ∀ (n k : Nat), k ≤ 4 → 4 < k + n → XW G X mX7_allRows (xq G (pP κ M hs (xI (sumTo (fun i => ((cs i).length : Int)) 4))) 0 0 X) 0 0 4 [some (xR 140), some (xI (sumTo (fun i => ((cs i).length : Int)) k)), some (xI (k : Int))] [] κ M hs := by
    intro n
    induction n with
    | zero => intro k  h1 h2; omega
    | succ n ih =>
      intro k  h1 h2
      refine x_iload_n (pc := 4) hX rfl rfl dX7_allRows_4 ?_
      refine x_iconst (pc := 5) hX dX7_allRows_5 ?_
      refine x_icmp_ge (pc := 6) (tgt := 23) hX dX7_allRows_6 (by decide) (by omega) (fun h6 => ?_) (fun h6 => ?_)
      · obtain rfl : k = 4 := by omega
        refine x_iload_n (pc := 23) hX rfl rfl dX7_allRows_23 ?_
        refine x_iret (pc := 24) hX rfl (Nat.zero_le _) (Nat.zero_le _) dX7_allRows_24 (pP_i rfl)
      · have hk : k < 4 := by omega
        refine x_iload_n (pc := 9) hX rfl rfl dX7_allRows_9 ?_
        refine x_aload_n (pc := 10) hX rfl rfl dX7_allRows_10 ?_
        refine x_iload_n (pc := 11) hX rfl rfl dX7_allRows_11 ?_
        refine x_cV_P (pc := 12) hX (tX7_rowsOf hK hS k hk) hK.1 rfl lk_X7_60 rfl rfl (Nat.le_of_ble_eq_true rfl) (by decide) (Nat.zero_le _) (Nat.zero_le _) dX7_allRows_12 ?_
        refine x_iadd (pc := 15) (v := (sumTo (fun i => ((cs i).length : Int)) (k + 1))) hX dX7_allRows_15 rfl ?_
        refine x_istore_n (pc := 16) hX rfl (by decide) rfl rfl dX7_allRows_16 ?_
        refine x_iinc (pc := 17) (v := ((k + 1 : Nat) : Int)) hX dX7_allRows_17 rfl (by decide) rfl (by omega) rfl ?_
        refine x_goto (pc := 20) (tgt := 4) hX dX7_allRows_20 (by decide) ?_
        exact ih (k + 1) (by omega) (by omega)
  refine x_iconst (pc := 0) hX dX7_allRows_0 ?_
  refine x_istore_n (pc := 1) hX rfl (by decide) rfl rfl dX7_allRows_1 ?_
  refine x_iconst (pc := 2) hX dX7_allRows_2 ?_
  refine x_istore_n (pc := 3) hX rfl (by decide) rfl rfl dX7_allRows_3 ?_
  exact loop 5 0 (by omega) (by omega)

set_option maxHeartbeats 4000000 in
set_option maxRecDepth 100000 in
theorem tX7_run {G : XG} {κ : XKs} {M : XM} {hs : Nat} (hK : KM κ hs) {S : Sx} (hS : RM M S) (c k w : Int) (hc : InR c) (hk : InR k) (hw : InR w) {R : Int} (hR : aRun S.1 c k w = R) : XC G mX7_run 2 0 0 [xR 140, xI c, xI k, xI w] κ M hs (pI κ hs (fun x M' => x = R ∧ RM M' S ∧ Chg PA M M')) := by
  refine XC.intro cdX7_run (by decide) (by decide) (Nat.le_of_ble_eq_true rfl) (loc := [some (xR 140), some (xI c), some (xI k), some (xI w)]) rfl (fun X hX => ?_)
  have hc0 := hc
  have hk0 := hk
  have hw0 := hw
  unfold InR at hc0 hk0 hw0
  refine x_iload_n (pc := 0) hX rfl rfl dX7_run_0 ?_
  refine x_cS_P (pc := 1) hX (tX7_isColumn c hc) lk_X7_76 rfl rfl (Nat.le_of_ble_eq_true rfl) (by decide) (Nat.zero_le _) (Nat.zero_le _) dX7_run_1 ?_
  by_cases hcc1 : 0 ≤ c ∧ c ≤ 3
  · rw [if_pos hcc1]
    have hl := (hS.1.col (c := c.toNat) (by omega)).len
    refine x_if_eq (pc := 4) (tgt := 22) hX dX7_run_4 (by decide) (by omega) (fun h4 => ?_) (fun h4 => ?_)
    · exfalso; omega
    · refine x_iload_n (pc := 7) hX rfl rfl dX7_run_7 ?_
      refine x_iconst (pc := 8) hX dX7_run_8 ?_
      refine x_aload_n (pc := 9) hX rfl rfl dX7_run_9 ?_
      refine x_iload_n (pc := 10) hX rfl rfl dX7_run_10 ?_
      refine x_top (congrArg xI (show c = ((c.toNat : Nat) : Int) by omega)) ?_
      refine x_cV_P (pc := 11) hX (tX7_runsOf hK hS.1 c.toNat (by omega)) hK.1 rfl lk_X7_52 rfl rfl (Nat.le_of_ble_eq_true rfl) (by decide) (Nat.zero_le _) (Nat.zero_le _) dX7_run_11 ?_
      refine x_iconst (pc := 14) hX dX7_run_14 ?_
      refine x_isub (pc := 15) hX dX7_run_15 rfl ?_
      refine x_cS_P (pc := 16) hX (tX7_within k (0) (((enc (S.1 c.toNat)).length : Int) - 1) hk (by unfold InR; omega) (by unfold InR; omega)) lk_X7_48 rfl rfl (Nat.le_of_ble_eq_true rfl) (by decide) (Nat.zero_le _) (Nat.zero_le _) dX7_run_16 ?_
      by_cases hkk : 0 ≤ k ∧ k ≤ ((enc (S.1 c.toNat)).length : Int) - 1
      · rw [if_pos hkk]
        refine x_if_ne (pc := 19) (tgt := 24) hX dX7_run_19 (by decide) (by omega) (fun h19 => ?_) (fun h19 => ?_)
        · refine x_iload_n (pc := 24) hX rfl rfl dX7_run_24 ?_
          rcases (show (w < 0 ∨ 2 < w) ∨ w = 0 ∨ w = 1 ∨ w = 2 by omega) with hsw | hsw | hsw | hsw
          · refine x_tswOut (pc := 25) (tgt := 73) hX dX7_run_25 (by omega) hsw (by decide) ?_
            refine x_bipush (pc := 73) hX (by decide) dX7_run_73 ?_
            refine x_iret (pc := 75) hX rfl (Nat.zero_le _) (Nat.zero_le _) dX7_run_75 ?_
            refine pI_i ⟨?_, hS, Chg.rf⟩
            rw [← hR]
            unfold aRun
            repeat' split
            all_goals first | rfl | (exfalso; omega)
          · refine x_tswIn (pc := 25) (off := 27) (tgt := 52) hX dX7_run_25 (by omega) (by omega) (by rw [hsw]; rfl) (by decide) ?_
            refine x_aload_n (pc := 52) hX rfl rfl dX7_run_52 ?_
            refine x_iload_n (pc := 53) hX rfl rfl dX7_run_53 ?_
            refine x_iload_n (pc := 54) hX rfl rfl dX7_run_54 ?_
            refine x_top2 (congrArg xI (show c = ((c.toNat : Nat) : Int) by omega)) ?_
            refine x_top (congrArg xI (show k = ((k.toNat : Nat) : Int) by omega)) ?_
            refine x_cV_P (pc := 55) hX (tX7_valueOf hK hS.1 c.toNat (by omega) k.toNat (by omega)) hK.1 rfl lk_X7_66 rfl rfl (Nat.le_of_ble_eq_true rfl) (by decide) (Nat.zero_le _) (Nat.zero_le _) dX7_run_55 ?_
            refine x_iret (pc := 58) hX rfl (Nat.zero_le _) (Nat.zero_le _) dX7_run_58 ?_
            refine pI_i ⟨?_, hS, Chg.rf⟩
            rw [← hR]
            unfold aRun
            repeat' split
            all_goals first | rfl | (exfalso; omega)
          · refine x_tswIn (pc := 25) (off := 34) (tgt := 59) hX dX7_run_25 (by omega) (by omega) (by rw [hsw]; rfl) (by decide) ?_
            refine x_aload_n (pc := 59) hX rfl rfl dX7_run_59 ?_
            refine x_iload_n (pc := 60) hX rfl rfl dX7_run_60 ?_
            refine x_iload_n (pc := 61) hX rfl rfl dX7_run_61 ?_
            refine x_top2 (congrArg xI (show c = ((c.toNat : Nat) : Int) by omega)) ?_
            refine x_top (congrArg xI (show k = ((k.toNat : Nat) : Int) by omega)) ?_
            refine x_cV_P (pc := 62) hX (tX7_lengthOf hK hS.1 c.toNat (by omega) k.toNat (by omega)) hK.1 rfl lk_X7_56 rfl rfl (Nat.le_of_ble_eq_true rfl) (by decide) (Nat.zero_le _) (Nat.zero_le _) dX7_run_62 ?_
            refine x_iret (pc := 65) hX rfl (Nat.zero_le _) (Nat.zero_le _) dX7_run_65 ?_
            refine pI_i ⟨?_, hS, Chg.rf⟩
            rw [← hR]
            unfold aRun
            repeat' split
            all_goals first | rfl | (exfalso; omega)
          · refine x_tswIn (pc := 25) (off := 41) (tgt := 66) hX dX7_run_25 (by omega) (by omega) (by rw [hsw]; rfl) (by decide) ?_
            refine x_aload_n (pc := 66) hX rfl rfl dX7_run_66 ?_
            refine x_iload_n (pc := 67) hX rfl rfl dX7_run_67 ?_
            refine x_iload_n (pc := 68) hX rfl rfl dX7_run_68 ?_
            refine x_top2 (congrArg xI (show c = ((c.toNat : Nat) : Int) by omega)) ?_
            refine x_top (congrArg xI (show k = ((k.toNat : Nat) : Int) by omega)) ?_
            refine x_cV_P (pc := 69) hX (tX7_firstRow hK hS.1 c.toNat (by omega) k.toNat (by omega)) hK.1 rfl lk_X7_127 rfl rfl (Nat.le_of_ble_eq_true rfl) (by decide) (Nat.zero_le _) (Nat.zero_le _) dX7_run_69 ?_
            refine x_iret (pc := 72) hX rfl (Nat.zero_le _) (Nat.zero_le _) dX7_run_72 ?_
            refine pI_i ⟨?_, hS, Chg.rf⟩
            rw [← hR]
            unfold aRun
            repeat' split
            all_goals first | rfl | (exfalso; omega)
        · exfalso; omega
      · rw [if_neg hkk]
        refine x_if_ne (pc := 19) (tgt := 24) hX dX7_run_19 (by decide) (by omega) (fun h19 => ?_) (fun h19 => ?_)
        · exfalso; omega
        · refine x_iconst (pc := 22) hX dX7_run_22 ?_
          refine x_iret (pc := 23) hX rfl (Nat.zero_le _) (Nat.zero_le _) dX7_run_23 ?_
          refine pI_i ⟨?_, hS, Chg.rf⟩
          rw [← hR]
          unfold aRun
          repeat' split
          all_goals first | rfl | (exfalso; omega)
  · rw [if_neg hcc1]
    refine x_if_eq (pc := 4) (tgt := 22) hX dX7_run_4 (by decide) (by omega) (fun h4 => ?_) (fun h4 => ?_)
    · refine x_iconst (pc := 22) hX dX7_run_22 ?_
      refine x_iret (pc := 23) hX rfl (Nat.zero_le _) (Nat.zero_le _) dX7_run_23 ?_
      refine pI_i ⟨?_, hS, Chg.rf⟩
      rw [← hR]
      unfold aRun
      repeat' split
      all_goals first | rfl | (exfalso; omega)
    · exfalso; omega

set_option maxHeartbeats 4000000 in
set_option maxRecDepth 100000 in
theorem tX7_value {G : XG} {κ : XKs} {M : XM} {hs : Nat} (hK : KM κ hs) {S : Sx} (hS : RM M S) (c r : Int) (hc : InR c) (hr : InR r) {R : Int} (hR : aValue S.1 c r = R) : XC G mX7_value 3 0 0 [xR 140, xI c, xI r] κ M hs (pI κ hs (fun x M' => x = R ∧ RM M' S ∧ Chg PA M M')) := by
  refine XC.intro cdX7_value (by decide) (by decide) (Nat.le_of_ble_eq_true rfl) (loc := [some (xR 140), some (xI c), some (xI r)]) rfl (fun X hX => ?_)
  have hc0 := hc
  have hr0 := hr
  unfold InR at hc0 hr0
  refine x_iload_n (pc := 0) hX rfl rfl dX7_value_0 ?_
  refine x_cS_P (pc := 1) hX (tX7_isColumn c hc) lk_X7_76 rfl rfl (Nat.le_of_ble_eq_true rfl) (by decide) (Nat.zero_le _) (Nat.zero_le _) dX7_value_1 ?_
  by_cases hcc1 : 0 ≤ c ∧ c ≤ 3
  · rw [if_pos hcc1]
    have hl := (hS.1.col (c := c.toNat) (by omega)).len
    refine x_if_eq (pc := 4) (tgt := 25) hX dX7_value_4 (by decide) (by omega) (fun h4 => ?_) (fun h4 => ?_)
    · exfalso; omega
    · refine x_aload_n (pc := 7) hX rfl rfl dX7_value_7 ?_
      refine x_iload_n (pc := 8) hX rfl rfl dX7_value_8 ?_
      refine x_iload_n (pc := 9) hX rfl rfl dX7_value_9 ?_
      refine x_top2 (congrArg xI (show c = ((c.toNat : Nat) : Int) by omega)) ?_
      refine x_cV_P (pc := 10) hX (tX7_isRow hK hS.1 c.toNat (by omega) r hr) hK.1 rfl lk_X7_101 rfl rfl (Nat.le_of_ble_eq_true rfl) (by decide) (Nat.zero_le _) (Nat.zero_le _) dX7_value_10 ?_
      by_cases hrr : 0 ≤ r ∧ r ≤ ((S.1 c.toNat).length : Int) - 1
      · rw [if_pos hrr]
        refine x_if_eq (pc := 13) (tgt := 25) hX dX7_value_13 (by decide) (by omega) (fun h13 => ?_) (fun h13 => ?_)
        · exfalso; omega
        · refine x_aload_n (pc := 16) hX rfl rfl dX7_value_16 ?_
          refine x_iload_n (pc := 17) hX rfl rfl dX7_value_17 ?_
          refine x_iload_n (pc := 18) hX rfl rfl dX7_value_18 ?_
          refine x_top2 (congrArg xI (show c = ((c.toNat : Nat) : Int) by omega)) ?_
          refine x_top (congrArg xI (show r = ((r.toNat : Nat) : Int) by omega)) ?_
          refine x_cV_P (pc := 19) hX (tX7_valueAt hK hS.1 c.toNat (by omega) r.toNat (by omega)) hK.1 rfl lk_X7_115 rfl rfl (Nat.le_of_ble_eq_true rfl) (by decide) (Nat.zero_le _) (Nat.zero_le _) dX7_value_19 ?_
          refine x_goto (pc := 22) (tgt := 26) hX dX7_value_22 (by decide) ?_
          refine x_iret (pc := 26) hX rfl (Nat.zero_le _) (Nat.zero_le _) dX7_value_26 ?_
          refine pI_i ⟨?_, hS, Chg.rf⟩
          rw [← hR]
          unfold aValue
          repeat' split
          all_goals first | rfl | (exfalso; omega)
      · rw [if_neg hrr]
        refine x_if_eq (pc := 13) (tgt := 25) hX dX7_value_13 (by decide) (by omega) (fun h13 => ?_) (fun h13 => ?_)
        · refine x_iconst (pc := 25) hX dX7_value_25 ?_
          refine x_iret (pc := 26) hX rfl (Nat.zero_le _) (Nat.zero_le _) dX7_value_26 ?_
          refine pI_i ⟨?_, hS, Chg.rf⟩
          rw [← hR]
          unfold aValue
          repeat' split
          all_goals first | rfl | (exfalso; omega)
        · exfalso; omega
  · rw [if_neg hcc1]
    refine x_if_eq (pc := 4) (tgt := 25) hX dX7_value_4 (by decide) (by omega) (fun h4 => ?_) (fun h4 => ?_)
    · refine x_iconst (pc := 25) hX dX7_value_25 ?_
      refine x_iret (pc := 26) hX rfl (Nat.zero_le _) (Nat.zero_le _) dX7_value_26 ?_
      refine pI_i ⟨?_, hS, Chg.rf⟩
      rw [← hR]
      unfold aValue
      repeat' split
      all_goals first | rfl | (exfalso; omega)
    · exfalso; omega

set_option maxHeartbeats 4000000 in
set_option maxRecDepth 100000 in
theorem tX7_find {G : XG} {κ : XKs} {M : XM} {hs : Nat} (hK : KM κ hs) {S : Sx} (hS : RM M S) (c v k : Int) (hc : InR c) (hv : InR v) (hk : InR k) {R : Int} (hR : aFind S.1 c v k = R) : XC G mX7_find 2 0 0 [xR 140, xI c, xI v, xI k] κ M hs (pI κ hs (fun x M' => x = R ∧ RM M' S ∧ Chg PA M M')) := by
  refine XC.intro cdX7_find (by decide) (by decide) (Nat.le_of_ble_eq_true rfl) (loc := [some (xR 140), some (xI c), some (xI v), some (xI k), none, none]) rfl (fun X hX => ?_)
  have hc0 := hc
  have hv0 := hv
  have hk0 := hk
  unfold InR at hc0 hv0 hk0
  refine x_iload_n (pc := 0) hX rfl rfl dX7_find_0 ?_
  refine x_cS_P (pc := 1) hX (tX7_isColumn c hc) lk_X7_76 rfl rfl (Nat.le_of_ble_eq_true rfl) (by decide) (Nat.zero_le _) (Nat.zero_le _) dX7_find_1 ?_
  by_cases hcc1 : 0 ≤ c ∧ c ≤ 3
  · rw [if_pos hcc1]
    have hl := (hS.1.col (c := c.toNat) (by omega)).len
    refine x_if_ne (pc := 4) (tgt := 9) hX dX7_find_4 (by decide) (by omega) (fun h4 => ?_) (fun h4 => ?_)
    · refine x_iload_n (pc := 9) hX rfl rfl dX7_find_9 ?_
      refine x_cS_P (pc := 10) hX (tX7_isValue v hv) lk_X7_80 rfl rfl (Nat.le_of_ble_eq_true rfl) (by decide) (Nat.zero_le _) (Nat.zero_le _) dX7_find_10 ?_
      by_cases hvv10 : 0 ≤ v ∧ v ≤ 9
      · rw [if_pos hvv10]
        refine x_if_eq (pc := 13) (tgt := 20) hX dX7_find_13 (by decide) (by omega) (fun h13 => ?_) (fun h13 => ?_)
        · exfalso; omega
        · refine x_iload_n (pc := 16) hX rfl rfl dX7_find_16 ?_
          refine x_if_ge (pc := 17) (tgt := 23) hX dX7_find_17 (by decide) (by omega) (fun h17 => ?_) (fun h17 => ?_)
          · refine x_aload_n (pc := 23) hX rfl rfl dX7_find_23 ?_
            refine x_iload_n (pc := 24) hX rfl rfl dX7_find_24 ?_
            refine x_top (congrArg xI (show c = ((c.toNat : Nat) : Int) by omega)) ?_
            refine x_cV_V (pc := 25) hX (tX7_layOut hK hS.1 c.toNat (by omega)) hK.1 rfl lk_X7_83 rfl rfl (Nat.le_of_ble_eq_true rfl) (by decide) (Nat.zero_le _) (Nat.zero_le _) dX7_find_25 (fun M1 hp => ?_)
            obtain ⟨hL1, hq1⟩ := hp
            have hq1 := hq1.mono (fun q f => PL.ps)
            have hok := hS.ok (c := c.toNat) (by omega)
            have hF0 : rowRank v 0 k.toNat ((S.1 c.toNat).drop 0) = R := by
              rw [← hR, List.drop_zero]
              unfold aFind
              rw [if_neg (by omega), if_neg (by omega), fRank_rows, rows_enc]
            have loop : ∀ (n i left : Nat), left < 2147483648 → i ≤ (S.1 c.toNat).length → (S.1 c.toNat).length < i + n → rowRank v i left ((S.1 c.toNat).drop i) = R → XW G X mX7_find (xq G (pI κ hs (fun x M' => x = R ∧ RM M' S ∧ Chg PA M M')) 0 0 X) 0 0 34 [some (xR 140), some (xI c), some (xI v), some (xI k), some (xI (left : Int)), some (xI (i : Int))] [] κ M1 hs := by
              intro n
              induction n with
              | zero => intro i left h0 h1 h2; omega
              | succ n ih =>
                intro i left h0 h1 h2 hF
                refine x_iload (pc := 34) hX rfl dX7_find_34 ?_
                refine x_aload_n (pc := 36) hX rfl rfl dX7_find_36 ?_
                refine x_getI (pc := 37) (v := ((S.1 c.toNat).length : Int)) hX fl_X7_63 hK.1 rfl hL1.1 dX7_find_37 ?_
                refine x_icmp_ge (pc := 40) (tgt := 89) hX dX7_find_40 (by decide) (by omega) (fun h40 => ?_) (fun h40 => ?_)
                · rw [List.drop_eq_nil_of_le (by omega : (S.1 c.toNat).length ≤ i), rowRank] at hF
                  refine x_bipush (pc := 89) hX (by decide) dX7_find_89 ?_
                  refine x_iret (pc := 91) hX rfl (Nat.zero_le _) (Nat.zero_le _) dX7_find_91 ?_
                  exact pI_i ⟨by rw [← hF], hS.scr hq1, hq1.mono (fun q f => PS.pa)⟩
                · have hkl : i < (S.1 c.toNat).length := by omega
                  have hch : chr (S.1 c.toNat) i ≤ 9 := hok.2 _ (chr_mem hkl)
                  rw [drop_cons hkl, rowRank] at hF
                  refine x_aload_n (pc := 43) hX rfl rfl dX7_find_43 ?_
                  refine x_getR (pc := 44) hX fl_X7_25 hK.1 rfl dX7_find_44 ?_
                  refine x_iload (pc := 47) hX rfl dX7_find_47 ?_
                  refine x_iald (pc := 49) (j := i) (v := (chr (S.1 c.toNat) i : Int)) hX hK.2.2.2.2.2.2.1 (by omega) (by omega) (by decide) (hL1.2.2 i hkl) dX7_find_49 ?_
                  refine x_iload_n (pc := 50) hX rfl rfl dX7_find_50 ?_
                  refine x_icmp_ne (pc := 51) (tgt := 62) hX dX7_find_51 (by decide) (by omega) (fun h51 => ?_) (fun h51 => ?_)
                  · refine x_iload (pc := 62) hX rfl dX7_find_62 ?_
                    refine x_aload_n (pc := 64) hX rfl rfl dX7_find_64 ?_
                    refine x_getR (pc := 65) hX fl_X7_25 hK.1 rfl dX7_find_65 ?_
                    refine x_iload (pc := 68) hX rfl dX7_find_68 ?_
                    refine x_iald (pc := 70) (j := i) (v := (chr (S.1 c.toNat) i : Int)) hX hK.2.2.2.2.2.2.1 (by omega) (by omega) (by decide) (hL1.2.2 i hkl) dX7_find_70 ?_
                    refine x_iload_n (pc := 71) hX rfl rfl dX7_find_71 ?_
                    refine x_icmp_ne (pc := 72) (tgt := 79) hX dX7_find_72 (by decide) (by omega) (fun h72 => ?_) (fun h72 => ?_)
                    · refine x_iconst (pc := 79) hX dX7_find_79 ?_
                      refine x_isub (pc := 80) (v := ((left : Nat) : Int)) hX dX7_find_80 (by omega) ?_
                      refine x_istore (pc := 81) hX (by decide) rfl rfl dX7_find_81 ?_
                      refine x_iinc (pc := 83) (v := ((i + 1 : Nat) : Int)) hX dX7_find_83 rfl (by decide) rfl (by omega) rfl ?_
                      refine x_goto (pc := 86) (tgt := 34) hX dX7_find_86 (by decide) ?_
                      rw [if_neg (by omega)] at hF
                      exact ih (i + 1) left (by omega) (by omega) (by omega) hF
                    · refine x_iconst (pc := 75) hX dX7_find_75 ?_
                      refine x_goto (pc := 76) (tgt := 80) hX dX7_find_76 (by decide) ?_
                      refine x_isub (pc := 80) (v := ((left - 1 : Nat) : Int)) hX dX7_find_80 (by omega) ?_
                      refine x_istore (pc := 81) hX (by decide) rfl rfl dX7_find_81 ?_
                      refine x_iinc (pc := 83) (v := ((i + 1 : Nat) : Int)) hX dX7_find_83 rfl (by decide) rfl (by omega) rfl ?_
                      refine x_goto (pc := 86) (tgt := 34) hX dX7_find_86 (by decide) ?_
                      rw [if_pos (by omega), if_neg (by omega)] at hF
                      exact ih (i + 1) (left - 1) (by omega) (by omega) (by omega) hF
                  · refine x_iload (pc := 54) hX rfl dX7_find_54 ?_
                    refine x_if_ne (pc := 56) (tgt := 62) hX dX7_find_56 (by decide) (by omega) (fun h56 => ?_) (fun h56 => ?_)
                    · refine x_iload (pc := 62) hX rfl dX7_find_62 ?_
                      refine x_aload_n (pc := 64) hX rfl rfl dX7_find_64 ?_
                      refine x_getR (pc := 65) hX fl_X7_25 hK.1 rfl dX7_find_65 ?_
                      refine x_iload (pc := 68) hX rfl dX7_find_68 ?_
                      refine x_iald (pc := 70) (j := i) (v := (chr (S.1 c.toNat) i : Int)) hX hK.2.2.2.2.2.2.1 (by omega) (by omega) (by decide) (hL1.2.2 i hkl) dX7_find_70 ?_
                      refine x_iload_n (pc := 71) hX rfl rfl dX7_find_71 ?_
                      refine x_icmp_ne (pc := 72) (tgt := 79) hX dX7_find_72 (by decide) (by omega) (fun h72 => ?_) (fun h72 => ?_)
                      · refine x_iconst (pc := 79) hX dX7_find_79 ?_
                        refine x_isub (pc := 80) (v := ((left : Nat) : Int)) hX dX7_find_80 (by omega) ?_
                        refine x_istore (pc := 81) hX (by decide) rfl rfl dX7_find_81 ?_
                        refine x_iinc (pc := 83) (v := ((i + 1 : Nat) : Int)) hX dX7_find_83 rfl (by decide) rfl (by omega) rfl ?_
                        refine x_goto (pc := 86) (tgt := 34) hX dX7_find_86 (by decide) ?_
                        rw [if_neg (by omega)] at hF
                        exact ih (i + 1) left (by omega) (by omega) (by omega) hF
                      · refine x_iconst (pc := 75) hX dX7_find_75 ?_
                        refine x_goto (pc := 76) (tgt := 80) hX dX7_find_76 (by decide) ?_
                        refine x_isub (pc := 80) (v := ((left - 1 : Nat) : Int)) hX dX7_find_80 (by omega) ?_
                        refine x_istore (pc := 81) hX (by decide) rfl rfl dX7_find_81 ?_
                        refine x_iinc (pc := 83) (v := ((i + 1 : Nat) : Int)) hX dX7_find_83 rfl (by decide) rfl (by omega) rfl ?_
                        refine x_goto (pc := 86) (tgt := 34) hX dX7_find_86 (by decide) ?_
                        rw [if_pos (by omega), if_neg (by omega)] at hF
                        exact ih (i + 1) (left - 1) (by omega) (by omega) (by omega) hF
                    · refine x_iload (pc := 59) hX rfl dX7_find_59 ?_
                      rw [if_pos (by omega), if_pos (by omega)] at hF
                      refine x_iret (pc := 61) hX rfl (Nat.zero_le _) (Nat.zero_le _) dX7_find_61 ?_
                      exact pI_i ⟨by rw [← hF], hS.scr hq1, hq1.mono (fun q f => PS.pa)⟩
            refine x_iload_n (pc := 28) hX rfl rfl dX7_find_28 ?_
            refine x_top (congrArg xI (show k = ((k.toNat : Nat) : Int) by omega)) ?_
            refine x_istore (pc := 29) hX (by decide) rfl rfl dX7_find_29 ?_
            refine x_iconst (pc := 31) hX dX7_find_31 ?_
            refine x_istore (pc := 32) hX (by decide) rfl rfl dX7_find_32 ?_
            exact loop ((S.1 c.toNat).length + 1) 0 k.toNat (by omega) (by omega) (by omega) hF0
          · refine x_bipush (pc := 20) hX (by decide) dX7_find_20 ?_
            refine x_iret (pc := 22) hX rfl (Nat.zero_le _) (Nat.zero_le _) dX7_find_22 ?_
            refine pI_i ⟨?_, hS, Chg.rf⟩
            rw [← hR]
            unfold aFind
            repeat' split
            all_goals first | rfl | (exfalso; omega)
      · rw [if_neg hvv10]
        refine x_if_eq (pc := 13) (tgt := 20) hX dX7_find_13 (by decide) (by omega) (fun h13 => ?_) (fun h13 => ?_)
        · refine x_bipush (pc := 20) hX (by decide) dX7_find_20 ?_
          refine x_iret (pc := 22) hX rfl (Nat.zero_le _) (Nat.zero_le _) dX7_find_22 ?_
          refine pI_i ⟨?_, hS, Chg.rf⟩
          rw [← hR]
          unfold aFind
          repeat' split
          all_goals first | rfl | (exfalso; omega)
        · exfalso; omega
    · exfalso; omega
  · rw [if_neg hcc1]
    refine x_if_ne (pc := 4) (tgt := 9) hX dX7_find_4 (by decide) (by omega) (fun h4 => ?_) (fun h4 => ?_)
    · exfalso; omega
    · refine x_iconst (pc := 7) hX dX7_find_7 ?_
      refine x_iret (pc := 8) hX rfl (Nat.zero_le _) (Nat.zero_le _) dX7_find_8 ?_
      refine pI_i ⟨?_, hS, Chg.rf⟩
      rw [← hR]
      unfold aFind
      repeat' split
      all_goals first | rfl | (exfalso; omega)

set_option maxHeartbeats 4000000 in
set_option maxRecDepth 100000 in
theorem tX7_ofColumn {G : XG} {κ : XKs} {M : XM} {hs : Nat} (hK : KM κ hs) {S : Sx} (hS : RM M S) (c w : Int) (hc : InR c) (hw : InR w) {R : Int} (hR : aOf S.1 c w = R) : XC G mX7_ofColumn 2 0 0 [xR 140, xI c, xI w] κ M hs (pI κ hs (fun x M' => x = R ∧ RM M' S ∧ Chg PA M M')) := by
  refine XC.intro cdX7_ofColumn (by decide) (by decide) (Nat.le_of_ble_eq_true rfl) (loc := [some (xR 140), some (xI c), some (xI w)]) rfl (fun X hX => ?_)
  have hc0 := hc
  have hw0 := hw
  unfold InR at hc0 hw0
  refine x_iload_n (pc := 0) hX rfl rfl dX7_ofColumn_0 ?_
  refine x_cS_P (pc := 1) hX (tX7_isColumn c hc) lk_X7_76 rfl rfl (Nat.le_of_ble_eq_true rfl) (by decide) (Nat.zero_le _) (Nat.zero_le _) dX7_ofColumn_1 ?_
  by_cases hcc1 : 0 ≤ c ∧ c ≤ 3
  · rw [if_pos hcc1]
    have hl := (hS.1.col (c := c.toNat) (by omega)).len
    refine x_if_ne (pc := 4) (tgt := 9) hX dX7_ofColumn_4 (by decide) (by omega) (fun h4 => ?_) (fun h4 => ?_)
    · refine x_iload_n (pc := 9) hX rfl rfl dX7_ofColumn_9 ?_
      rcases (show (w < 0 ∨ 6 < w) ∨ w = 0 ∨ w = 1 ∨ w = 2 ∨ w = 3 ∨ w = 4 ∨ w = 5 ∨ w = 6 by omega) with hsw | hsw | hsw | hsw | hsw | hsw | hsw | hsw
      · refine x_tswOut (pc := 10) (tgt := 114) hX dX7_ofColumn_10 (by omega) hsw (by decide) ?_
        refine x_bipush (pc := 114) hX (by decide) dX7_ofColumn_114 ?_
        refine x_iret (pc := 116) hX rfl (Nat.zero_le _) (Nat.zero_le _) dX7_ofColumn_116 ?_
        refine pI_i ⟨?_, hS, Chg.rf⟩
        rw [← hR]
        unfold aOf
        repeat' split
        all_goals first | rfl | (exfalso; omega)
      · refine x_tswIn (pc := 10) (off := 42) (tgt := 52) hX dX7_ofColumn_10 (by omega) (by omega) (by rw [hsw]; rfl) (by decide) ?_
        refine x_aload_n (pc := 52) hX rfl rfl dX7_ofColumn_52 ?_
        refine x_iload_n (pc := 53) hX rfl rfl dX7_ofColumn_53 ?_
        refine x_top (congrArg xI (show c = ((c.toNat : Nat) : Int) by omega)) ?_
        refine x_cV_P (pc := 54) hX (tX7_rowsOf hK hS.1 c.toNat (by omega)) hK.1 rfl lk_X7_60 rfl rfl (Nat.le_of_ble_eq_true rfl) (by decide) (Nat.zero_le _) (Nat.zero_le _) dX7_ofColumn_54 ?_
        refine x_iret (pc := 57) hX rfl (Nat.zero_le _) (Nat.zero_le _) dX7_ofColumn_57 ?_
        refine pI_i ⟨?_, hS, Chg.rf⟩
        rw [← hR]
        unfold aOf
        repeat' split
        all_goals first | rfl | (exfalso; omega)
      · refine x_tswIn (pc := 10) (off := 48) (tgt := 58) hX dX7_ofColumn_10 (by omega) (by omega) (by rw [hsw]; rfl) (by decide) ?_
        refine x_aload_n (pc := 58) hX rfl rfl dX7_ofColumn_58 ?_
        refine x_iload_n (pc := 59) hX rfl rfl dX7_ofColumn_59 ?_
        refine x_top (congrArg xI (show c = ((c.toNat : Nat) : Int) by omega)) ?_
        refine x_cV_P (pc := 60) hX (tX7_runsOf hK hS.1 c.toNat (by omega)) hK.1 rfl lk_X7_52 rfl rfl (Nat.le_of_ble_eq_true rfl) (by decide) (Nat.zero_le _) (Nat.zero_le _) dX7_ofColumn_60 ?_
        refine x_iret (pc := 63) hX rfl (Nat.zero_le _) (Nat.zero_le _) dX7_ofColumn_63 ?_
        refine pI_i ⟨?_, hS, Chg.rf⟩
        rw [← hR]
        unfold aOf
        repeat' split
        all_goals first | rfl | (exfalso; omega)
      · refine x_tswIn (pc := 10) (off := 54) (tgt := 64) hX dX7_ofColumn_10 (by omega) (by omega) (by rw [hsw]; rfl) (by decide) ?_
        refine x_aload_n (pc := 64) hX rfl rfl dX7_ofColumn_64 ?_
        refine x_iload_n (pc := 65) hX rfl rfl dX7_ofColumn_65 ?_
        refine x_top (congrArg xI (show c = ((c.toNat : Nat) : Int) by omega)) ?_
        refine x_cV_P (pc := 66) hX (tX7_sumOf hK hS.1 c.toNat (by omega)) hK.1 rfl lk_X7_130 rfl rfl (Nat.le_of_ble_eq_true rfl) (by decide) (Nat.zero_le _) (Nat.zero_le _) dX7_ofColumn_66 ?_
        refine x_iret (pc := 69) hX rfl (Nat.zero_le _) (Nat.zero_le _) dX7_ofColumn_69 ?_
        refine pI_i ⟨?_, hS, Chg.rf⟩
        rw [← hR]
        unfold aOf
        repeat' split
        all_goals first | rfl | (exfalso; omega)
      · refine x_tswIn (pc := 10) (off := 60) (tgt := 70) hX dX7_ofColumn_10 (by omega) (by omega) (by rw [hsw]; rfl) (by decide) ?_
        refine x_aload_n (pc := 70) hX rfl rfl dX7_ofColumn_70 ?_
        refine x_iload_n (pc := 71) hX rfl rfl dX7_ofColumn_71 ?_
        refine x_bipush (pc := 72) hX (by decide) dX7_ofColumn_72 ?_
        refine x_top2 (congrArg xI (show c = ((c.toNat : Nat) : Int) by omega)) ?_
        refine x_cV_P (pc := 74) hX (tX7_longest hK hS.1 c.toNat (by omega) (-6) (by unfold InR; omega)) hK.1 rfl lk_X7_133 rfl rfl (Nat.le_of_ble_eq_true rfl) (by decide) (Nat.zero_le _) (Nat.zero_le _) dX7_ofColumn_74 ?_
        refine x_top (congrArg xI (if_pos (by decide))) ?_
        refine x_iret (pc := 77) hX rfl (Nat.zero_le _) (Nat.zero_le _) dX7_ofColumn_77 ?_
        refine pI_i ⟨?_, hS, Chg.rf⟩
        rw [← hR]
        unfold aOf
        repeat' split
        all_goals first | rfl | (exfalso; omega)
      · refine x_tswIn (pc := 10) (off := 68) (tgt := 78) hX dX7_ofColumn_10 (by omega) (by omega) (by rw [hsw]; rfl) (by decide) ?_
        refine x_aload_n (pc := 78) hX rfl rfl dX7_ofColumn_78 ?_
        refine x_iload_n (pc := 79) hX rfl rfl dX7_ofColumn_79 ?_
        refine x_top (congrArg xI (show c = ((c.toNat : Nat) : Int) by omega)) ?_
        refine x_cV_P (pc := 80) hX (tX7_valuesOf hK hS.1 c.toNat (by omega)) hK.1 rfl lk_X7_136 rfl rfl (Nat.le_of_ble_eq_true rfl) (by decide) (Nat.zero_le _) (Nat.zero_le _) dX7_ofColumn_80 ?_
        refine x_iret (pc := 83) hX rfl (Nat.zero_le _) (Nat.zero_le _) dX7_ofColumn_83 ?_
        refine pI_i ⟨?_, hS, Chg.rf⟩
        rw [← hR]
        unfold aOf
        repeat' split
        all_goals first | rfl | (exfalso; omega)
      · refine x_tswIn (pc := 10) (off := 74) (tgt := 84) hX dX7_ofColumn_10 (by omega) (by omega) (by rw [hsw]; rfl) (by decide) ?_
        refine x_aload_n (pc := 84) hX rfl rfl dX7_ofColumn_84 ?_
        refine x_iload_n (pc := 85) hX rfl rfl dX7_ofColumn_85 ?_
        refine x_iconst (pc := 86) hX dX7_ofColumn_86 ?_
        refine x_top2 (congrArg xI (show c = ((c.toNat : Nat) : Int) by omega)) ?_
        refine x_cV_P (pc := 87) hX (tX7_isInOrder hK hS.1 c.toNat (by omega) 1 (by omega)) hK.1 rfl lk_X7_139 rfl rfl (Nat.le_of_ble_eq_true rfl) (by decide) (Nat.zero_le _) (Nat.zero_le _) dX7_ofColumn_87 ?_
        refine x_top (congrArg xI (if_neg (by decide))) ?_
        by_cases hnf : nFall (enc (S.1 c.toNat)) = true
        · rw [if_pos hnf]
          refine x_if_eq (pc := 90) (tgt := 97) hX dX7_ofColumn_90 (by decide) (by omega) (fun h90 => ?_) (fun h90 => ?_)
          · exfalso; omega
          · refine x_iconst (pc := 93) hX dX7_ofColumn_93 ?_
            refine x_goto (pc := 94) (tgt := 98) hX dX7_ofColumn_94 (by decide) ?_
            refine x_iret (pc := 98) hX rfl (Nat.zero_le _) (Nat.zero_le _) dX7_ofColumn_98 ?_
            refine pI_i ⟨?_, hS, Chg.rf⟩
            rw [← hR]
            unfold aOf
            repeat' split
            all_goals first | rfl | (exfalso; omega)
        · rw [if_neg hnf]
          refine x_if_eq (pc := 90) (tgt := 97) hX dX7_ofColumn_90 (by decide) (by omega) (fun h90 => ?_) (fun h90 => ?_)
          · refine x_iconst (pc := 97) hX dX7_ofColumn_97 ?_
            refine x_iret (pc := 98) hX rfl (Nat.zero_le _) (Nat.zero_le _) dX7_ofColumn_98 ?_
            refine pI_i ⟨?_, hS, Chg.rf⟩
            rw [← hR]
            unfold aOf
            repeat' split
            all_goals first | rfl | (exfalso; omega)
          · exfalso; omega
      · refine x_tswIn (pc := 10) (off := 89) (tgt := 99) hX dX7_ofColumn_10 (by omega) (by omega) (by rw [hsw]; rfl) (by decide) ?_
        refine x_aload_n (pc := 99) hX rfl rfl dX7_ofColumn_99 ?_
        refine x_iload_n (pc := 100) hX rfl rfl dX7_ofColumn_100 ?_
        refine x_iconst (pc := 101) hX dX7_ofColumn_101 ?_
        refine x_top2 (congrArg xI (show c = ((c.toNat : Nat) : Int) by omega)) ?_
        refine x_cV_P (pc := 102) hX (tX7_isInOrder hK hS.1 c.toNat (by omega) 0 (by omega)) hK.1 rfl lk_X7_139 rfl rfl (Nat.le_of_ble_eq_true rfl) (by decide) (Nat.zero_le _) (Nat.zero_le _) dX7_ofColumn_102 ?_
        refine x_top (congrArg xI (if_pos rfl)) ?_
        by_cases hnf : nRise (enc (S.1 c.toNat)) = true
        · rw [if_pos hnf]
          refine x_if_eq (pc := 105) (tgt := 112) hX dX7_ofColumn_105 (by decide) (by omega) (fun h105 => ?_) (fun h105 => ?_)
          · exfalso; omega
          · refine x_iconst (pc := 108) hX dX7_ofColumn_108 ?_
            refine x_goto (pc := 109) (tgt := 113) hX dX7_ofColumn_109 (by decide) ?_
            refine x_iret (pc := 113) hX rfl (Nat.zero_le _) (Nat.zero_le _) dX7_ofColumn_113 ?_
            refine pI_i ⟨?_, hS, Chg.rf⟩
            rw [← hR]
            unfold aOf
            repeat' split
            all_goals first | rfl | (exfalso; omega)
        · rw [if_neg hnf]
          refine x_if_eq (pc := 105) (tgt := 112) hX dX7_ofColumn_105 (by decide) (by omega) (fun h105 => ?_) (fun h105 => ?_)
          · refine x_iconst (pc := 112) hX dX7_ofColumn_112 ?_
            refine x_iret (pc := 113) hX rfl (Nat.zero_le _) (Nat.zero_le _) dX7_ofColumn_113 ?_
            refine pI_i ⟨?_, hS, Chg.rf⟩
            rw [← hR]
            unfold aOf
            repeat' split
            all_goals first | rfl | (exfalso; omega)
          · exfalso; omega
    · exfalso; omega
  · rw [if_neg hcc1]
    refine x_if_ne (pc := 4) (tgt := 9) hX dX7_ofColumn_4 (by decide) (by omega) (fun h4 => ?_) (fun h4 => ?_)
    · exfalso; omega
    · refine x_iconst (pc := 7) hX dX7_ofColumn_7 ?_
      refine x_iret (pc := 8) hX rfl (Nat.zero_le _) (Nat.zero_le _) dX7_ofColumn_8 ?_
      refine pI_i ⟨?_, hS, Chg.rf⟩
      rw [← hR]
      unfold aOf
      repeat' split
      all_goals first | rfl | (exfalso; omega)

set_option maxHeartbeats 4000000 in
set_option maxRecDepth 100000 in
theorem tX7_group {G : XG} {κ : XKs} {M : XM} {hs : Nat} (hK : KM κ hs) {S : Sx} (hS : RM M S) (c v w : Int) (hc : InR c) (hv : InR v) (hw : InR w) {R : Int} (hR : aGroup S.1 c v w = R) : XC G mX7_group 2 0 0 [xR 140, xI c, xI v, xI w] κ M hs (pI κ hs (fun x M' => x = R ∧ RM M' S ∧ Chg PA M M')) := by
  refine XC.intro cdX7_group (by decide) (by decide) (Nat.le_of_ble_eq_true rfl) (loc := [some (xR 140), some (xI c), some (xI v), some (xI w)]) rfl (fun X hX => ?_)
  have hc0 := hc
  have hv0 := hv
  have hw0 := hw
  unfold InR at hc0 hv0 hw0
  refine x_iload_n (pc := 0) hX rfl rfl dX7_group_0 ?_
  refine x_cS_P (pc := 1) hX (tX7_isColumn c hc) lk_X7_76 rfl rfl (Nat.le_of_ble_eq_true rfl) (by decide) (Nat.zero_le _) (Nat.zero_le _) dX7_group_1 ?_
  by_cases hcc1 : 0 ≤ c ∧ c ≤ 3
  · rw [if_pos hcc1]
    have hl := (hS.1.col (c := c.toNat) (by omega)).len
    refine x_if_ne (pc := 4) (tgt := 9) hX dX7_group_4 (by decide) (by omega) (fun h4 => ?_) (fun h4 => ?_)
    · refine x_iload_n (pc := 9) hX rfl rfl dX7_group_9 ?_
      refine x_cS_P (pc := 10) hX (tX7_isValue v hv) lk_X7_80 rfl rfl (Nat.le_of_ble_eq_true rfl) (by decide) (Nat.zero_le _) (Nat.zero_le _) dX7_group_10 ?_
      by_cases hvv10 : 0 ≤ v ∧ v ≤ 9
      · rw [if_pos hvv10]
        refine x_if_eq (pc := 13) (tgt := 25) hX dX7_group_13 (by decide) (by omega) (fun h13 => ?_) (fun h13 => ?_)
        · exfalso; omega
        · refine x_iload_n (pc := 16) hX rfl rfl dX7_group_16 ?_
          refine x_iconst (pc := 17) hX dX7_group_17 ?_
          refine x_iconst (pc := 18) hX dX7_group_18 ?_
          refine x_cS_P (pc := 19) hX (tX7_within w (0) (2) hw (by unfold InR; omega) (by unfold InR; omega)) lk_X7_48 rfl rfl (Nat.le_of_ble_eq_true rfl) (by decide) (Nat.zero_le _) (Nat.zero_le _) dX7_group_19 ?_
          by_cases hww : 0 ≤ w ∧ w ≤ 2
          · rw [if_pos hww]
            refine x_if_ne (pc := 22) (tgt := 28) hX dX7_group_22 (by decide) (by omega) (fun h22 => ?_) (fun h22 => ?_)
            · refine x_iload_n (pc := 28) hX rfl rfl dX7_group_28 ?_
              refine x_iconst (pc := 29) hX dX7_group_29 ?_
              refine x_icmp_ne (pc := 30) (tgt := 42) hX dX7_group_30 (by decide) (by omega) (fun h30 => ?_) (fun h30 => ?_)
              · refine x_aload_n (pc := 42) hX rfl rfl dX7_group_42 ?_
                refine x_iload_n (pc := 43) hX rfl rfl dX7_group_43 ?_
                refine x_iload_n (pc := 44) hX rfl rfl dX7_group_44 ?_
                refine x_iload_n (pc := 45) hX rfl rfl dX7_group_45 ?_
                refine x_iconst (pc := 46) hX dX7_group_46 ?_
                refine x_icmp_ne (pc := 47) (tgt := 54) hX dX7_group_47 (by decide) (by omega) (fun h47 => ?_) (fun h47 => ?_)
                · refine x_iconst (pc := 54) hX dX7_group_54 ?_
                  refine x_top3 (congrArg xI (show c = ((c.toNat : Nat) : Int) by omega)) ?_
                  refine x_cV_P (pc := 55) hX (tX7_ofValue hK hS.1 c.toNat (by omega) v hv 0 (by omega)) hK.1 rfl lk_X7_143 rfl rfl (Nat.le_of_ble_eq_true rfl) (by decide) (Nat.zero_le _) (Nat.zero_le _) dX7_group_55 ?_
                  refine x_top (congrArg xI (if_pos rfl)) ?_
                  refine x_iret (pc := 58) hX rfl (Nat.zero_le _) (Nat.zero_le _) dX7_group_58 ?_
                  refine pI_i ⟨?_, hS, Chg.rf⟩
                  rw [← hR]
                  unfold aGroup
                  repeat' split
                  all_goals first | rfl | (exfalso; omega)
                · refine x_iconst (pc := 50) hX dX7_group_50 ?_
                  refine x_goto (pc := 51) (tgt := 55) hX dX7_group_51 (by decide) ?_
                  refine x_top3 (congrArg xI (show c = ((c.toNat : Nat) : Int) by omega)) ?_
                  refine x_cV_P (pc := 55) hX (tX7_ofValue hK hS.1 c.toNat (by omega) v hv 1 (by omega)) hK.1 rfl lk_X7_143 rfl rfl (Nat.le_of_ble_eq_true rfl) (by decide) (Nat.zero_le _) (Nat.zero_le _) dX7_group_55 ?_
                  refine x_top (congrArg xI (if_neg (by decide))) ?_
                  refine x_iret (pc := 58) hX rfl (Nat.zero_le _) (Nat.zero_le _) dX7_group_58 ?_
                  refine pI_i ⟨?_, hS, Chg.rf⟩
                  rw [← hR]
                  unfold aGroup
                  repeat' split
                  all_goals first | rfl | (exfalso; omega)
              · refine x_aload_n (pc := 33) hX rfl rfl dX7_group_33 ?_
                refine x_iload_n (pc := 34) hX rfl rfl dX7_group_34 ?_
                refine x_iload_n (pc := 35) hX rfl rfl dX7_group_35 ?_
                refine x_top2 (congrArg xI (show c = ((c.toNat : Nat) : Int) by omega)) ?_
                refine x_cV_P (pc := 36) hX (tX7_longest hK hS.1 c.toNat (by omega) v hv) hK.1 rfl lk_X7_133 rfl rfl (Nat.le_of_ble_eq_true rfl) (by decide) (Nat.zero_le _) (Nat.zero_le _) dX7_group_36 ?_
                refine x_top (congrArg xI (if_neg (by omega))) ?_
                refine x_goto (pc := 39) (tgt := 58) hX dX7_group_39 (by decide) ?_
                refine x_iret (pc := 58) hX rfl (Nat.zero_le _) (Nat.zero_le _) dX7_group_58 ?_
                refine pI_i ⟨?_, hS, Chg.rf⟩
                rw [← hR]
                unfold aGroup
                repeat' split
                all_goals first | rfl | (exfalso; omega)
            · exfalso; omega
          · rw [if_neg hww]
            refine x_if_ne (pc := 22) (tgt := 28) hX dX7_group_22 (by decide) (by omega) (fun h22 => ?_) (fun h22 => ?_)
            · exfalso; omega
            · refine x_bipush (pc := 25) hX (by decide) dX7_group_25 ?_
              refine x_iret (pc := 27) hX rfl (Nat.zero_le _) (Nat.zero_le _) dX7_group_27 ?_
              refine pI_i ⟨?_, hS, Chg.rf⟩
              rw [← hR]
              unfold aGroup
              repeat' split
              all_goals first | rfl | (exfalso; omega)
      · rw [if_neg hvv10]
        refine x_if_eq (pc := 13) (tgt := 25) hX dX7_group_13 (by decide) (by omega) (fun h13 => ?_) (fun h13 => ?_)
        · refine x_bipush (pc := 25) hX (by decide) dX7_group_25 ?_
          refine x_iret (pc := 27) hX rfl (Nat.zero_le _) (Nat.zero_le _) dX7_group_27 ?_
          refine pI_i ⟨?_, hS, Chg.rf⟩
          rw [← hR]
          unfold aGroup
          repeat' split
          all_goals first | rfl | (exfalso; omega)
        · exfalso; omega
    · exfalso; omega
  · rw [if_neg hcc1]
    refine x_if_ne (pc := 4) (tgt := 9) hX dX7_group_4 (by decide) (by omega) (fun h4 => ?_) (fun h4 => ?_)
    · exfalso; omega
    · refine x_iconst (pc := 7) hX dX7_group_7 ?_
      refine x_iret (pc := 8) hX rfl (Nat.zero_le _) (Nat.zero_le _) dX7_group_8 ?_
      refine pI_i ⟨?_, hS, Chg.rf⟩
      rw [← hR]
      unfold aGroup
      repeat' split
      all_goals first | rfl | (exfalso; omega)

set_option maxHeartbeats 4000000 in
set_option maxRecDepth 100000 in
theorem tX7_count {G : XG} {κ : XKs} {M : XM} {hs : Nat} (hK : KM κ hs) {S : Sx} (hS : RM M S) (w : Int) (hw : InR w) {R : Int} (hR : aCount S w = R) : XC G mX7_count 3 0 0 [xR 140, xI w] κ M hs (pI κ hs (fun x M' => x = R ∧ RM M' S ∧ Chg PA M M')) := by
  refine XC.intro cdX7_count (by decide) (by decide) (Nat.le_of_ble_eq_true rfl) (loc := [some (xR 140), some (xI w)]) rfl (fun X hX => ?_)
  have hw0 := hw
  unfold InR at hw0
  refine x_iload_n (pc := 0) hX rfl rfl dX7_count_0 ?_
  rcases (show (w < 0 ∨ 3 < w) ∨ w = 0 ∨ w = 1 ∨ w = 2 ∨ w = 3 by omega) with hsw | hsw | hsw | hsw | hsw
  · refine x_tswOut (pc := 1) (tgt := 52) hX dX7_count_1 (by omega) hsw (by decide) ?_
    refine x_bipush (pc := 52) hX (by decide) dX7_count_52 ?_
    refine x_iret (pc := 54) hX rfl (Nat.zero_le _) (Nat.zero_le _) dX7_count_54 ?_
    refine pI_i ⟨?_, hS, Chg.rf⟩
    rw [← hR]
    unfold aCount
    repeat' split
    all_goals first | rfl | (exfalso; omega)
  · refine x_tswIn (pc := 1) (off := 31) (tgt := 32) hX dX7_count_1 (by omega) (by omega) (by rw [hsw]; rfl) (by decide) ?_
    refine x_aload_n (pc := 32) hX rfl rfl dX7_count_32 ?_
    refine x_cV_P (pc := 33) hX (tX7_allRows hK hS.1) hK.1 rfl lk_X7_147 rfl rfl (Nat.le_of_ble_eq_true rfl) (by decide) (Nat.zero_le _) (Nat.zero_le _) dX7_count_33 ?_
    refine x_iret (pc := 36) hX rfl (Nat.zero_le _) (Nat.zero_le _) dX7_count_36 ?_
    refine pI_i ⟨?_, hS, Chg.rf⟩
    rw [← hR]
    unfold aCount
    repeat' split
    all_goals first | rfl | (exfalso; omega)
  · refine x_tswIn (pc := 1) (off := 36) (tgt := 37) hX dX7_count_1 (by omega) (by omega) (by rw [hsw]; rfl) (by decide) ?_
    refine x_aload_n (pc := 37) hX rfl rfl dX7_count_37 ?_
    refine x_cV_P (pc := 38) hX (tX7_allRuns hK hS.1) hK.1 rfl lk_X7_150 rfl rfl (Nat.le_of_ble_eq_true rfl) (by decide) (Nat.zero_le _) (Nat.zero_le _) dX7_count_38 ?_
    refine x_iret (pc := 41) hX rfl (Nat.zero_le _) (Nat.zero_le _) dX7_count_41 ?_
    refine pI_i ⟨?_, hS, Chg.rf⟩
    rw [← hR]
    unfold aCount
    repeat' split
    all_goals first | rfl | (exfalso; omega)
  · refine x_tswIn (pc := 1) (off := 41) (tgt := 42) hX dX7_count_1 (by omega) (by omega) (by rw [hsw]; rfl) (by decide) ?_
    refine x_aload_n (pc := 42) hX rfl rfl dX7_count_42 ?_
    refine x_getI (pc := 43) (v := (S.2.2.2.length : Int)) hX fl_X7_153 hK.1 rfl hS.2.2.2.1 dX7_count_43 ?_
    refine x_iret (pc := 46) hX rfl (Nat.zero_le _) (Nat.zero_le _) dX7_count_46 ?_
    refine pI_i ⟨?_, hS, Chg.rf⟩
    rw [← hR]
    unfold aCount
    repeat' split
    all_goals first | rfl | (exfalso; omega)
  · refine x_tswIn (pc := 1) (off := 46) (tgt := 47) hX dX7_count_1 (by omega) (by omega) (by rw [hsw]; rfl) (by decide) ?_
    refine x_aload_n (pc := 47) hX rfl rfl dX7_count_47 ?_
    refine x_getI (pc := 48) (v := (S.2.1.length : Int)) hX fl_X7_40 hK.1 rfl hS.2.1.1 dX7_count_48 ?_
    refine x_iret (pc := 51) hX rfl (Nat.zero_le _) (Nat.zero_le _) dX7_count_51 ?_
    refine pI_i ⟨?_, hS, Chg.rf⟩
    rw [← hR]
    unfold aCount
    repeat' split
    all_goals first | rfl | (exfalso; omega)

