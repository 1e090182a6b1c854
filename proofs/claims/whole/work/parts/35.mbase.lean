/-! the model: its small methods -/
theorem MS.col {f : Nat → Int} {cs : Cs} (h : MS f 0 cs) {c : Nat} (hc : c < 4) : MC f (81 * c) (cs c) := by
  have := h c hc
  rw [Nat.zero_add] at this
  exact this
theorem MC.len {f : Nat → Int} {b : Nat} {l : List Nat} (h : MC f b l) : (enc l).length ≤ 40 ∧ l.length ≤ 999 ∧ tot (enc l) = l.length := ⟨h.2.2.1.2, h.2.2.1.1, tot_enc l⟩
theorem MC.mem {f : Nat → Int} {b : Nat} {l : List Nat} (h : MC f b l) {k : Nat} (hk : k < (enc l).length) : rv (enc l) k ≤ 9 ∧ 1 ≤ rn (enc l) k ∧ rn (enc l) k ≤ 999 := by
  have h1 := enc_rv hk
  have h2 := h.2.2.2 _ h1.1
  have h3 := h.2.2.1.1
  omega
def GR (f : Nat → Int) (b : Nat) (E : Ru) : Prop := (∀ r, r < E.length → f (b + 1 + 2 * r) = (rv E r : Int) ∧ f (b + 2 + 2 * r) = (rn E r : Int)) ∧ ∀ j, 2 * E.length < j → j < 81 → f (b + j) = 0
theorem GR.new {M : XM} {b : Nat} {E : Ru} (h : GR (M 141) b E) (v : Nat) : GR ((mput (mput M 141 (b + 1 + 2 * E.length) (v : Int)) 141 (b + 2 + 2 * E.length) 1) 141) b (E ++ [(v, 1)]) := by
  refine ⟨fun r hr => ?_, fun j h1 h2 => ?_⟩
  · rw [List.length_append] at hr
    by_cases e : r = E.length
    · subst e
      rw [rv_last, rn_last, mp_ne _ _ (by omega), mp_eq, mp_eq]
      exact ⟨rfl, rfl⟩
    · have hr2 : r < E.length := Nat.lt_of_le_of_ne (Nat.le_of_lt_succ hr) e
      rw [rv_app _ hr2, rn_app _ hr2, mp_ne _ _ (by omega), mp_ne _ _ (by omega), mp_ne _ _ (by omega), mp_ne _ _ (by omega)]
      exact h.1 r hr2
  · rw [List.length_append] at h1
    have h1' : 2 * (E.length + 1) < j := h1
    rw [mp_ne _ _ (by omega), mp_ne _ _ (by omega)]
    exact h.2 j (by omega) h2
theorem GR.same {M : XM} {b v m : Nat} {E : Ru} (h : GR (M 141) b (E ++ [(v, m)])) : GR ((mput (mput M 141 (b + 1 + 2 * E.length) (v : Int)) 141 (b + 2 + 2 * E.length) ((m : Int) + 1)) 141) b (E ++ [(v, m + 1)]) := by
  refine ⟨fun r hr => ?_, fun j h1 h2 => ?_⟩
  · rw [List.length_append] at hr
    by_cases e : r = E.length
    · subst e
      rw [rv_last, rn_last, mp_ne _ _ (by omega), mp_eq, mp_eq]
      exact ⟨rfl, rfl⟩
    · have hr2 : r < E.length := Nat.lt_of_le_of_ne (Nat.le_of_lt_succ hr) e
      have h3 := h.1 r (by rw [List.length_append]; exact hr)
      rw [rv_app _ hr2, rn_app _ hr2] at h3
      rw [rv_app _ hr2, rn_app _ hr2, mp_ne _ _ (by omega), mp_ne _ _ (by omega), mp_ne _ _ (by omega), mp_ne _ _ (by omega)]
      exact h3
  · rw [List.length_append] at h1
    have h1' : 2 * (E.length + 1) < j := h1
    rw [mp_ne _ _ (by omega), mp_ne _ _ (by omega)]
    exact h.2 j (by rw [List.length_append]; exact h1') h2
theorem chr_put {l : List Nat} {r n v : Nat} (hr : r ≤ l.length) {f : Nat → Int} (h1 : ∀ i, i < r → f i = (chr l i : Int)) (h2 : ∀ i, r ≤ i → i < l.length → f (i + n) = (chr l i : Int)) (h3 : ∀ i, i < n → f (r + i) = (v : Int)) : ∀ i, i < (l.take r ++ List.replicate n v ++ l.drop r).length → f i = (chr (l.take r ++ List.replicate n v ++ l.drop r) i : Int) := by
  intro i hi
  have hlen : (l.take r).length = r := by rw [List.length_take]; omega
  have hlen2 : (l.take r ++ List.replicate n v).length = r + n := by rw [List.length_append, hlen, List.length_replicate]
  rw [List.length_append, hlen2, List.length_drop] at hi
  by_cases e1 : i < r
  · rw [chr_l _ (by omega), chr_l _ (by omega), chr_take e1]
    exact h1 i e1
  · by_cases e2 : i < r + n
    · obtain ⟨j, rfl⟩ : ∃ j, i = r + j := ⟨i - r, by omega⟩
      have e3 := chr_r (l.take r) (List.replicate n v) j
      rw [hlen] at e3
      rw [chr_l _ (by omega), e3, chr_rep (by omega)]
      exact h3 j (by omega)
    · obtain ⟨j, rfl⟩ : ∃ j, i = r + n + j := ⟨i - r - n, by omega⟩
      have e3 := chr_r (l.take r ++ List.replicate n v) (l.drop r) j
      rw [hlen2] at e3
      rw [e3, chr_drop]
      have e4 := h2 (r + j) (by omega) (by omega)
      rw [show r + n + j = r + j + n by omega]
      exact e4
set_option maxHeartbeats 4000000 in
set_option maxRecDepth 100000 in
theorem tX7_moves {G : XG} {κ : XKs} {M : XM} {hs a b N1 N2 : Nat} (hA : xO κ hs a (kA 0 N1)) (hB : xO κ hs b (kA 0 N2)) (hab : a ≠ b) (f t : Nat) (h1 : f + 324 ≤ N1) (h2 : t + 324 ≤ N2) (hN1 : N1 ≤ 65536) (hN2 : N2 ≤ 65536) : XC G mX7_moves 0 0 0 [xR a, xI (f : Int), xR b, xI (t : Int)] κ M hs (pV κ hs (fun M' => (∀ j, j < 324 → M' b (t + j) = M a (f + j)) ∧ (∀ j, (j < t ∨ t + 324 ≤ j) → M' b j = M b j) ∧ ∀ q, q ≠ b → M' q = M q)) := by
  refine XC.intro cdX7_moves (by decide) (by decide) (Nat.le_of_ble_eq_true rfl) (loc := [some (xR a), some (xI (f : Int)), some (xR b), some (xI (t : Int)), none]) rfl (fun X hX => ?_)
  have loop : ∀ (n k : Nat) (M1 : XM), k ≤ 324 → 324 < k + n → (∀ j, j < k → M1 b (t + j) = M a (f + j)) → (∀ j, (j < t ∨ t + k ≤ j) → M1 b j = M b j) → (∀ q, q ≠ b → M1 q = M q) → XW G X mX7_moves (xq G (pV κ hs (fun M' => (∀ j, j < 324 → M' b (t + j) = M a (f + j)) ∧ (∀ j, (j < t ∨ t + 324 ≤ j) → M' b j = M b j) ∧ ∀ q, q ≠ b → M' q = M q)) 0 0 X) 0 0 3 [some (xR a), some (xI (f : Int)), some (xR b), some (xI (t : Int)), some (xI (k : Int))] [] κ M1 hs := by
    intro n
    induction n with
    | zero => intro k M1 h1 h2; omega
    | succ n ih =>
      intro k M1 h1 h2 hi1 ho1 hq1
      refine x_iload (pc := 3) hX rfl dX7_moves_3 ?_
      refine x_sipush (pc := 5) hX (by decide) dX7_moves_5 ?_
      refine x_icmp_ge (pc := 8) (tgt := 29) hX dX7_moves_8 (by decide) (by omega) (fun h8 => ?_) (fun h8 => ?_)
      · obtain rfl : k = 324 := by omega
        refine x_vret (pc := 29) hX rfl (Nat.zero_le _) (Nat.zero_le _) dX7_moves_29 ?_
        exact pV_i ⟨hi1, ho1, hq1⟩
      · have hk : k < 324 := by omega
        refine x_aload_n (pc := 11) hX rfl rfl dX7_moves_11 ?_
        refine x_iload_n (pc := 12) hX rfl rfl dX7_moves_12 ?_
        refine x_iload (pc := 13) hX rfl dX7_moves_13 ?_
        refine x_iadd (pc := 15) hX dX7_moves_15 rfl ?_
        refine x_aload_n (pc := 16) hX rfl rfl dX7_moves_16 ?_
        refine x_iload_n (pc := 17) hX rfl rfl dX7_moves_17 ?_
        refine x_iload (pc := 18) hX rfl dX7_moves_18 ?_
        refine x_iadd (pc := 20) hX dX7_moves_20 rfl ?_
        refine x_iald (pc := 21) (j := f + k) hX hA (by omega) (by omega) (by omega) rfl dX7_moves_21 ?_
        refine x_iast (pc := 22) (j := t + k) hX hB (by omega) (by omega) (by omega) dX7_moves_22 ?_
        refine x_iinc (pc := 23) (v := ((k + 1 : Nat) : Int)) hX dX7_moves_23 rfl (by decide) rfl (by omega) rfl ?_
        refine x_goto (pc := 26) (tgt := 3) hX dX7_moves_26 (by decide) ?_
        refine ih (k + 1) _ (by omega) (by omega) (fun j hj => ?_) (fun j hj => ?_) (fun q hq => by rw [mput_ne _ _ _ hq]; exact hq1 q hq)
        · by_cases e : j = k
          · subst e
            rw [mp_eq, hq1 a hab]
          · rw [mp_ne _ _ (by omega)]
            exact hi1 j (by omega)
        · rw [mp_ne _ _ (by omega)]
          exact ho1 j (by omega)
  refine x_iconst (pc := 0) hX dX7_moves_0 ?_
  refine x_istore (pc := 1) hX (by decide) rfl rfl dX7_moves_1 ?_
  exact loop 325 0 M (by omega) (by omega) (fun j hj => absurd hj (Nat.not_lt_zero _)) (fun j hj => rfl) (fun q hq => rfl)

set_option maxHeartbeats 4000000 in
set_option maxRecDepth 100000 in
theorem tX7_within {G : XG} {κ : XKs} {M : XM} {hs : Nat} (v a b : Int) (hv : InR v) (ha : InR a) (hb : InR b) : XC G mX7_within 0 0 0 [xI v, xI a, xI b] κ M hs (pP κ M hs (xI (if a ≤ v ∧ v ≤ b then 1 else 0))) := by
  refine XC.intro cdX7_within (by decide) (by decide) (Nat.le_of_ble_eq_true rfl) (loc := [some (xI v), some (xI a), some (xI b)]) rfl (fun X hX => ?_)
  unfold InR at hv ha hb
  refine x_iload_n (pc := 0) hX rfl rfl dX7_within_0 ?_
  refine x_iload_n (pc := 1) hX rfl rfl dX7_within_1 ?_
  refine x_icmp_lt (pc := 2) (tgt := 14) hX dX7_within_2 (by decide) (by omega) (fun h2 => ?_) (fun h2 => ?_)
  · refine x_iconst (pc := 14) hX dX7_within_14 ?_
    refine x_zret (pc := 15) hX rfl (xn_bool (by omega)) (Nat.zero_le _) (Nat.zero_le _) dX7_within_15 ?_
    exact pP_i (congrArg xI (by first | rw [if_pos (by omega)] | rw [if_neg (by omega)]))
  · refine x_iload_n (pc := 5) hX rfl rfl dX7_within_5 ?_
    refine x_iload_n (pc := 6) hX rfl rfl dX7_within_6 ?_
    refine x_icmp_gt (pc := 7) (tgt := 14) hX dX7_within_7 (by decide) (by omega) (fun h7 => ?_) (fun h7 => ?_)
    · refine x_iconst (pc := 14) hX dX7_within_14 ?_
      refine x_zret (pc := 15) hX rfl (xn_bool (by omega)) (Nat.zero_le _) (Nat.zero_le _) dX7_within_15 ?_
      exact pP_i (congrArg xI (by first | rw [if_pos (by omega)] | rw [if_neg (by omega)]))
    · refine x_iconst (pc := 10) hX dX7_within_10 ?_
      refine x_goto (pc := 11) (tgt := 15) hX dX7_within_11 (by decide) ?_
      refine x_zret (pc := 15) hX rfl (xn_bool (by omega)) (Nat.zero_le _) (Nat.zero_le _) dX7_within_15 ?_
      exact pP_i (congrArg xI (by first | rw [if_pos (by omega)] | rw [if_neg (by omega)]))

set_option maxHeartbeats 4000000 in
set_option maxRecDepth 100000 in
theorem tX7_isColumn {G : XG} {κ : XKs} {M : XM} {hs : Nat} (v : Int) (hv : InR v) : XC G mX7_isColumn 1 0 0 [xI v] κ M hs (pP κ M hs (xI (if 0 ≤ v ∧ v ≤ 3 then 1 else 0))) := by
  refine XC.intro cdX7_isColumn (by decide) (by decide) (Nat.le_of_ble_eq_true rfl) (loc := [some (xI v)]) rfl (fun X hX => ?_)
  refine x_iload_n (pc := 0) hX rfl rfl dX7_isColumn_0 ?_
  refine x_iconst (pc := 1) hX dX7_isColumn_1 ?_
  refine x_iconst (pc := 2) hX dX7_isColumn_2 ?_
  refine x_cS_P (pc := 3) hX (tX7_within v 0 3 hv (by unfold InR; omega) (by unfold InR; omega)) lk_X7_48 rfl rfl (Nat.le_of_ble_eq_true rfl) (by decide) (Nat.zero_le _) (Nat.zero_le _) dX7_isColumn_3 ?_
  refine x_zret (pc := 6) hX rfl (xn_bool (by split <;> omega)) (Nat.zero_le _) (Nat.zero_le _) dX7_isColumn_6 (pP_i rfl)

set_option maxHeartbeats 4000000 in
set_option maxRecDepth 100000 in
theorem tX7_isValue {G : XG} {κ : XKs} {M : XM} {hs : Nat} (v : Int) (hv : InR v) : XC G mX7_isValue 1 0 0 [xI v] κ M hs (pP κ M hs (xI (if 0 ≤ v ∧ v ≤ 9 then 1 else 0))) := by
  refine XC.intro cdX7_isValue (by decide) (by decide) (Nat.le_of_ble_eq_true rfl) (loc := [some (xI v)]) rfl (fun X hX => ?_)
  refine x_iload_n (pc := 0) hX rfl rfl dX7_isValue_0 ?_
  refine x_iconst (pc := 1) hX dX7_isValue_1 ?_
  refine x_bipush (pc := 2) hX (by decide) dX7_isValue_2 ?_
  refine x_cS_P (pc := 4) hX (tX7_within v 0 9 hv (by unfold InR; omega) (by unfold InR; omega)) lk_X7_48 rfl rfl (Nat.le_of_ble_eq_true rfl) (by decide) (Nat.zero_le _) (Nat.zero_le _) dX7_isValue_4 ?_
  refine x_zret (pc := 7) hX rfl (xn_bool (by split <;> omega)) (Nat.zero_le _) (Nat.zero_le _) dX7_isValue_7 (pP_i rfl)

set_option maxHeartbeats 4000000 in
set_option maxRecDepth 100000 in
theorem tX7_runsOf {G : XG} {κ : XKs} {M : XM} {hs : Nat} (hK : KM κ hs) {cs : Cs} (hS : MS (M 141) 0 cs) (c : Nat) (hc : c < 4) : XC G mX7_runsOf 0 0 0 [xR 140, xI (c : Int)] κ M hs (pP κ M hs (xI ((enc (cs c)).length : Int))) := by
  refine XC.intro cdX7_runsOf (by decide) (by decide) (Nat.le_of_ble_eq_true rfl) (loc := [some (xR 140), some (xI (c : Int))]) rfl (fun X hX => ?_)
  have hC := hS.col hc
  refine x_aload_n (pc := 0) hX rfl rfl dX7_runsOf_0 ?_
  refine x_getR (pc := 1) hX fl_X7_7 hK.1 rfl dX7_runsOf_1 ?_
  refine x_bipush (pc := 4) hX (by decide) dX7_runsOf_4 ?_
  refine x_iload_n (pc := 6) hX rfl rfl dX7_runsOf_6 ?_
  refine x_imul (pc := 7) hX dX7_runsOf_7 rfl ?_
  refine x_iald (pc := 8) (j := 81 * c) (v := ((enc (cs c)).length : Int)) hX hK.2.1 (by omega) (by omega) (by decide) hC.1 dX7_runsOf_8 ?_
  refine x_iret (pc := 9) hX rfl (Nat.zero_le _) (Nat.zero_le _) dX7_runsOf_9 (pP_i rfl)

set_option maxHeartbeats 4000000 in
set_option maxRecDepth 100000 in
theorem tX7_valueOf {G : XG} {κ : XKs} {M : XM} {hs : Nat} (hK : KM κ hs) {cs : Cs} (hS : MS (M 141) 0 cs) (c : Nat) (hc : c < 4) (r : Nat) (hr : r < (enc (cs c)).length) : XC G mX7_valueOf 0 0 0 [xR 140, xI (c : Int), xI (r : Int)] κ M hs (pP κ M hs (xI (rv (enc (cs c)) r : Int))) := by
  refine XC.intro cdX7_valueOf (by decide) (by decide) (Nat.le_of_ble_eq_true rfl) (loc := [some (xR 140), some (xI (c : Int)), some (xI (r : Int))]) rfl (fun X hX => ?_)
  have hC := hS.col hc
  have hl := hC.len
  refine x_aload_n (pc := 0) hX rfl rfl dX7_valueOf_0 ?_
  refine x_getR (pc := 1) hX fl_X7_7 hK.1 rfl dX7_valueOf_1 ?_
  refine x_bipush (pc := 4) hX (by decide) dX7_valueOf_4 ?_
  refine x_iload_n (pc := 6) hX rfl rfl dX7_valueOf_6 ?_
  refine x_imul (pc := 7) hX dX7_valueOf_7 rfl ?_
  refine x_iconst (pc := 8) hX dX7_valueOf_8 ?_
  refine x_iadd (pc := 9) hX dX7_valueOf_9 rfl ?_
  refine x_iconst (pc := 10) hX dX7_valueOf_10 ?_
  refine x_iload_n (pc := 11) hX rfl rfl dX7_valueOf_11 ?_
  refine x_imul (pc := 12) hX dX7_valueOf_12 rfl ?_
  refine x_iadd (pc := 13) hX dX7_valueOf_13 rfl ?_
  refine x_iald (pc := 14) (j := 81 * c + 1 + 2 * r) (v := (rv (enc (cs c)) r : Int)) hX hK.2.1 (by omega) (by omega) (by decide) (hC.2.1 r hr).1 dX7_valueOf_14 ?_
  refine x_iret (pc := 15) hX rfl (Nat.zero_le _) (Nat.zero_le _) dX7_valueOf_15 (pP_i rfl)

set_option maxHeartbeats 4000000 in
set_option maxRecDepth 100000 in
theorem tX7_lengthOf {G : XG} {κ : XKs} {M : XM} {hs : Nat} (hK : KM κ hs) {cs : Cs} (hS : MS (M 141) 0 cs) (c : Nat) (hc : c < 4) (r : Nat) (hr : r < (enc (cs c)).length) : XC G mX7_lengthOf 0 0 0 [xR 140, xI (c : Int), xI (r : Int)] κ M hs (pP κ M hs (xI (rn (enc (cs c)) r : Int))) := by
  refine XC.intro cdX7_lengthOf (by decide) (by decide) (Nat.le_of_ble_eq_true rfl) (loc := [some (xR 140), some (xI (c : Int)), some (xI (r : Int))]) rfl (fun X hX => ?_)
  have hC := hS.col hc
  have hl := hC.len
  refine x_aload_n (pc := 0) hX rfl rfl dX7_lengthOf_0 ?_
  refine x_getR (pc := 1) hX fl_X7_7 hK.1 rfl dX7_lengthOf_1 ?_
  refine x_bipush (pc := 4) hX (by decide) dX7_lengthOf_4 ?_
  refine x_iload_n (pc := 6) hX rfl rfl dX7_lengthOf_6 ?_
  refine x_imul (pc := 7) hX dX7_lengthOf_7 rfl ?_
  refine x_iconst (pc := 8) hX dX7_lengthOf_8 ?_
  refine x_iadd (pc := 9) hX dX7_lengthOf_9 rfl ?_
  refine x_iconst (pc := 10) hX dX7_lengthOf_10 ?_
  refine x_iload_n (pc := 11) hX rfl rfl dX7_lengthOf_11 ?_
  refine x_imul (pc := 12) hX dX7_lengthOf_12 rfl ?_
  refine x_iadd (pc := 13) hX dX7_lengthOf_13 rfl ?_
  refine x_iald (pc := 14) (j := 81 * c + 2 + 2 * r) (v := (rn (enc (cs c)) r : Int)) hX hK.2.1 (by omega) (by omega) (by decide) (hC.2.1 r hr).2 dX7_lengthOf_14 ?_
  refine x_iret (pc := 15) hX rfl (Nat.zero_le _) (Nat.zero_le _) dX7_lengthOf_15 (pP_i rfl)

set_option maxHeartbeats 4000000 in
set_option maxRecDepth 100000 in
theorem tX7_rowsOf {G : XG} {κ : XKs} {M : XM} {hs : Nat} (hK : KM κ hs) {cs : Cs} (hS : MS (M 141) 0 cs) (c : Nat) (hc : c < 4) : XC G mX7_rowsOf 1 0 0 [xR 140, xI (c : Int)] κ M hs (pP κ M hs (xI ((cs c).length : Int))) := by
  refine XC.intro cdX7_rowsOf (by decide) (by decide) (Nat.le_of_ble_eq_true rfl) (loc := [some (xR 140), some (xI (c : Int)), none, none]) rfl (fun X hX => ?_)
  have hC := hS.col hc
  have hl := hC.len
  have loop : ∀ (n k : Nat), k ≤ (enc (cs c)).length → (enc (cs c)).length < k + n → XW G X mX7_rowsOf (xq G (pP κ M hs (xI ((cs c).length : Int))) 0 0 X) 0 0 4 [some (xR 140), some (xI (c : Int)), some (xI (tot ((enc (cs c)).take k) : Int)), some (xI (k : Int))] [] κ M hs := by
    intro n
    induction n with
    | zero => intro k h1 h2; omega
    | succ n ih =>
      intro k h1 h2
      refine x_iload_n (pc := 4) hX rfl rfl dX7_rowsOf_4 ?_
      refine x_aload_n (pc := 5) hX rfl rfl dX7_rowsOf_5 ?_
      refine x_iload_n (pc := 6) hX rfl rfl dX7_rowsOf_6 ?_
      refine x_cV_P (pc := 7) hX (tX7_runsOf hK hS c hc) hK.1 rfl lk_X7_52 rfl rfl (Nat.le_of_ble_eq_true rfl) (by decide) (Nat.zero_le _) (Nat.zero_le _) dX7_rowsOf_7 ?_
      refine x_icmp_ge (pc := 10) (tgt := 28) hX dX7_rowsOf_10 (by decide) (by omega) (fun h10 => ?_) (fun h10 => ?_)
      · obtain rfl : k = (enc (cs c)).length := by omega
        rw [List.take_length, hl.2.2]
        refine x_iload_n (pc := 28) hX rfl rfl dX7_rowsOf_28 ?_
        refine x_iret (pc := 29) hX rfl (Nat.zero_le _) (Nat.zero_le _) dX7_rowsOf_29 (pP_i rfl)
      · have hkl : k < (enc (cs c)).length := by omega
        have ht := tot_take_succ hkl
        refine x_iload_n (pc := 13) hX rfl rfl dX7_rowsOf_13 ?_
        refine x_aload_n (pc := 14) hX rfl rfl dX7_rowsOf_14 ?_
        refine x_iload_n (pc := 15) hX rfl rfl dX7_rowsOf_15 ?_
        refine x_iload_n (pc := 16) hX rfl rfl dX7_rowsOf_16 ?_
        refine x_cV_P (pc := 17) hX (tX7_lengthOf hK hS c hc k (by omega)) hK.1 rfl lk_X7_56 rfl rfl (Nat.le_of_ble_eq_true rfl) (by decide) (Nat.zero_le _) (Nat.zero_le _) dX7_rowsOf_17 ?_
        refine x_iadd (pc := 20) (v := (tot ((enc (cs c)).take (k + 1)) : Int)) hX dX7_rowsOf_20 (by omega) ?_
        refine x_istore_n (pc := 21) hX rfl (by decide) rfl rfl dX7_rowsOf_21 ?_
        refine x_iinc (pc := 22) (v := ((k + 1 : Nat) : Int)) hX dX7_rowsOf_22 rfl (by decide) rfl (by omega) rfl ?_
        refine x_goto (pc := 25) (tgt := 4) hX dX7_rowsOf_25 (by decide) ?_
        exact ih (k + 1) (by omega) (by omega)
  refine x_iconst (pc := 0) hX dX7_rowsOf_0 ?_
  refine x_istore_n (pc := 1) hX rfl (by decide) rfl rfl dX7_rowsOf_1 ?_
  refine x_iconst (pc := 2) hX dX7_rowsOf_2 ?_
  refine x_istore_n (pc := 3) hX rfl (by decide) rfl rfl dX7_rowsOf_3 ?_
  exact loop ((enc (cs c)).length + 1) 0 (by omega) (by omega)

set_option maxHeartbeats 4000000 in
set_option maxRecDepth 100000 in
theorem tX7_isRow {G : XG} {κ : XKs} {M : XM} {hs : Nat} (hK : KM κ hs) {cs : Cs} (hS : MS (M 141) 0 cs) (c : Nat) (hc : c < 4) (r : Int) (hr : InR r) : XC G mX7_isRow 2 0 0 [xR 140, xI (c : Int), xI r] κ M hs (pP κ M hs (xI (if 0 ≤ r ∧ r ≤ ((cs c).length : Int) - 1 then 1 else 0))) := by
  refine XC.intro cdX7_isRow (by decide) (by decide) (Nat.le_of_ble_eq_true rfl) (loc := [some (xR 140), some (xI (c : Int)), some (xI r)]) rfl (fun X hX => ?_)
  have hl := (hS.col hc).len
  refine x_iload_n (pc := 0) hX rfl rfl dX7_isRow_0 ?_
  refine x_iconst (pc := 1) hX dX7_isRow_1 ?_
  refine x_aload_n (pc := 2) hX rfl rfl dX7_isRow_2 ?_
  refine x_iload_n (pc := 3) hX rfl rfl dX7_isRow_3 ?_
  refine x_cV_P (pc := 4) hX (tX7_rowsOf hK hS c hc) hK.1 rfl lk_X7_60 rfl rfl (Nat.le_of_ble_eq_true rfl) (by decide) (Nat.zero_le _) (Nat.zero_le _) dX7_isRow_4 ?_
  refine x_iconst (pc := 7) hX dX7_isRow_7 ?_
  refine x_isub (pc := 8) hX dX7_isRow_8 rfl ?_
  refine x_cS_P (pc := 9) hX (tX7_within r 0 (((cs c).length : Int) - 1) hr (by unfold InR; omega) (by unfold InR; omega)) lk_X7_48 rfl rfl (Nat.le_of_ble_eq_true rfl) (by decide) (Nat.zero_le _) (Nat.zero_le _) dX7_isRow_9 ?_
  refine x_zret (pc := 12) hX rfl (xn_bool (by split <;> omega)) (Nat.zero_le _) (Nat.zero_le _) dX7_isRow_12 (pP_i rfl)

set_option maxHeartbeats 4000000 in
set_option maxRecDepth 100000 in
theorem tX7_layOut {G : XG} {κ : XKs} {M : XM} {hs : Nat} (hK : KM κ hs) {cs : Cs} (hS : MS (M 141) 0 cs) (c : Nat) (hc : c < 4) : XC G mX7_layOut 1 0 0 [xR 140, xI (c : Int)] κ M hs (pV κ hs (fun M' => Lay M' (cs c) ∧ Chg PL M M')) := by
  refine XC.intro cdX7_layOut (by decide) (by decide) (Nat.le_of_ble_eq_true rfl) (loc := [some (xR 140), some (xI (c : Int)), none, none]) rfl (fun X hX => ?_)
  have hC := hS.col hc
  have hl := hC.len
  have loop : ∀ (n r : Nat) (M1 : XM) (z : Option XV), r ≤ (enc (cs c)).length → (enc (cs c)).length < r + n → Lay M1 (rows ((enc (cs c)).take r)) → Chg PL M M1 → XW G X mX7_layOut (xq G (pV κ hs (fun M' => Lay M' (cs c) ∧ Chg PL M M')) 0 0 X) 0 0 7 [some (xR 140), some (xI (c : Int)), some (xI (r : Int)), z] [] κ M1 hs := by
    intro n
    induction n with
    | zero => intro r M1 z h1 h2; omega
    | succ n ih =>
      intro r M1 z h1 h2 hL hq1
      refine x_iload_n (pc := 7) hX rfl rfl dX7_layOut_7 ?_
      refine x_aload_n (pc := 8) hX rfl rfl dX7_layOut_8 ?_
      refine x_iload_n (pc := 9) hX rfl rfl dX7_layOut_9 ?_
      have hS1 : MS (M1 141) 0 cs := by rw [hq1.cell (fun f => by unfold PL; omega)]; exact hS
      refine x_cV_P (pc := 10) hX (tX7_runsOf hK hS1 c hc) hK.1 rfl lk_X7_52 rfl rfl (Nat.le_of_ble_eq_true rfl) (by decide) (Nat.zero_le _) (Nat.zero_le _) dX7_layOut_10 ?_
      refine x_icmp_ge (pc := 13) (tgt := 65) hX dX7_layOut_13 (by decide) (by omega) (fun h13 => ?_) (fun h13 => ?_)
      · obtain rfl : r = (enc (cs c)).length := by omega
        rw [List.take_length, rows_enc] at hL
        refine x_vret (pc := 65) hX rfl (Nat.zero_le _) (Nat.zero_le _) dX7_layOut_65 ?_
        exact pV_i ⟨hL, hq1⟩
      · have hr : r < (enc (cs c)).length := by omega
        have htt := tot_take_succ hr
        have htl := tot_take_le (enc (cs c)) (r + 1)
        have loopk : ∀ (n k : Nat) (acc : List Nat) (M1 : XM), k ≤ rn (enc (cs c)) r → rn (enc (cs c)) r < k + n → Lay M1 acc → Chg PL M M1 → acc = rows ((enc (cs c)).take r) ++ List.replicate k (rv (enc (cs c)) r) → XW G X mX7_layOut (xq G (pV κ hs (fun M' => Lay M' (cs c) ∧ Chg PL M M')) 0 0 X) 0 0 18 [some (xR 140), some (xI (c : Int)), some (xI (r : Int)), some (xI (k : Int))] [] κ M1 hs := by
          intro n
          induction n with
          | zero => intro k acc M1 h1 h2; omega
          | succ n ihk =>
            intro k acc M1 h1 h2 hL hq1 hacc
            have hS1 : MS (M1 141) 0 cs := by rw [hq1.cell (fun f => by unfold PL; omega)]; exact hS
            refine x_iload_n (pc := 18) hX rfl rfl dX7_layOut_18 ?_
            refine x_aload_n (pc := 19) hX rfl rfl dX7_layOut_19 ?_
            refine x_iload_n (pc := 20) hX rfl rfl dX7_layOut_20 ?_
            refine x_iload_n (pc := 21) hX rfl rfl dX7_layOut_21 ?_
            refine x_cV_P (pc := 22) hX (tX7_lengthOf hK hS1 c hc r hr) hK.1 rfl lk_X7_56 rfl rfl (Nat.le_of_ble_eq_true rfl) (by decide) (Nat.zero_le _) (Nat.zero_le _) dX7_layOut_22 ?_
            refine x_icmp_ge (pc := 25) (tgt := 59) hX dX7_layOut_25 (by decide) (by omega) (fun h25 => ?_) (fun h25 => ?_)
            · obtain rfl : k = rn (enc (cs c)) r := by omega
              rw [← rows_take_succ hr] at hacc
              subst hacc
              refine x_iinc (pc := 59) (v := ((r + 1 : Nat) : Int)) hX dX7_layOut_59 rfl (by decide) rfl (by omega) rfl ?_
              refine x_goto (pc := 62) (tgt := 7) hX dX7_layOut_62 (by decide) ?_
              exact ih (r + 1) _ _ (by omega) (by omega) hL hq1
            · have hkn : k < rn (enc (cs c)) r := by omega
              have hacl : acc.length < 999 := by rw [hacc, List.length_append, List.length_replicate, rows_len]; omega
              refine x_aload_n (pc := 28) hX rfl rfl dX7_layOut_28 ?_
              refine x_getR (pc := 29) hX fl_X7_25 hK.1 rfl dX7_layOut_29 ?_
              refine x_aload_n (pc := 32) hX rfl rfl dX7_layOut_32 ?_
              refine x_getI (pc := 33) (v := (acc.length : Int)) hX fl_X7_63 hK.1 rfl hL.1 dX7_layOut_33 ?_
              refine x_aload_n (pc := 36) hX rfl rfl dX7_layOut_36 ?_
              refine x_iload_n (pc := 37) hX rfl rfl dX7_layOut_37 ?_
              refine x_iload_n (pc := 38) hX rfl rfl dX7_layOut_38 ?_
              refine x_cV_P (pc := 39) hX (tX7_valueOf hK hS1 c hc r hr) hK.1 rfl lk_X7_66 rfl rfl (Nat.le_of_ble_eq_true rfl) (by decide) (Nat.zero_le _) (Nat.zero_le _) dX7_layOut_39 ?_
              refine x_iast (pc := 42) (j := acc.length) hX hK.2.2.2.2.2.2.1 (by omega) (by omega) (by decide) dX7_layOut_42 ?_
              refine x_aload_n (pc := 43) hX rfl rfl dX7_layOut_43 ?_
              refine x_dup (pc := 44) hX rfl dX7_layOut_44 ?_
              refine x_getI (pc := 45) (v := (acc.length : Int)) hX fl_X7_63 hK.1 rfl (by rw [mput_ne _ _ _ (by decide)]; exact hL.1) dX7_layOut_45 ?_
              refine x_iconst (pc := 48) hX dX7_layOut_48 ?_
              refine x_iadd (pc := 49) (v := ((acc.length + 1 : Nat) : Int)) hX dX7_layOut_49 (by omega) ?_
              refine x_putI (pc := 50) hX fl_X7_63 hK.1 rfl rfl rfl dX7_layOut_50 ?_
              refine x_iinc (pc := 53) (v := ((k + 1 : Nat) : Int)) hX dX7_layOut_53 rfl (by decide) rfl (by omega) rfl ?_
              refine x_goto (pc := 56) (tgt := 18) hX dX7_layOut_56 (by decide) ?_
              exact ihk (k + 1) (acc ++ [rv (enc (cs c)) r]) _ (by omega) (by omega) (hL.snoc (by omega) _) (hq1.tr ((Chg.put (Or.inl rfl)).tr (Chg.put (Or.inr ⟨rfl, rfl⟩)))) (by rw [hacc, List.append_assoc, ← List.replicate_succ'])
        refine x_iconst (pc := 16) hX dX7_layOut_16 ?_
        refine x_istore_n (pc := 17) hX rfl (by decide) rfl rfl dX7_layOut_17 ?_
        exact loopk _ 0 _ M1 (Nat.zero_le _) (by rw [Nat.zero_add]; exact Nat.lt_succ_self _) hL hq1 (by rw [List.replicate_zero, List.append_nil])
  refine x_aload_n (pc := 0) hX rfl rfl dX7_layOut_0 ?_
  refine x_iconst (pc := 1) hX dX7_layOut_1 ?_
  refine x_putI (pc := 2) hX fl_X7_63 hK.1 rfl rfl rfl dX7_layOut_2 ?_
  refine x_iconst (pc := 5) hX dX7_layOut_5 ?_
  refine x_istore_n (pc := 6) hX rfl (by decide) rfl rfl dX7_layOut_6 ?_
  exact loop ((enc (cs c)).length + 1) 0 _ _ (by omega) (by omega) Lay.zero (Chg.put (Or.inr ⟨rfl, rfl⟩))

set_option maxHeartbeats 4000000 in
set_option maxRecDepth 100000 in
theorem tX7_layOutOther {G : XG} {κ : XKs} {M : XM} {hs : Nat} (hK : KM κ hs) {cs : Cs} (hS : MS (M 141) 0 cs) (c : Nat) (hc : c < 4) : XC G mX7_layOutOther 1 0 0 [xR 140, xI (c : Int)] κ M hs (pV κ hs (fun M' => LaO M' (cs c) ∧ Chg PO M M')) := by
  refine XC.intro cdX7_layOutOther (by decide) (by decide) (Nat.le_of_ble_eq_true rfl) (loc := [some (xR 140), some (xI (c : Int)), none, none]) rfl (fun X hX => ?_)
  have hC := hS.col hc
  have hl := hC.len
  have loop : ∀ (n r : Nat) (M1 : XM) (z : Option XV), r ≤ (enc (cs c)).length → (enc (cs c)).length < r + n → LaO M1 (rows ((enc (cs c)).take r)) → Chg PO M M1 → XW G X mX7_layOutOther (xq G (pV κ hs (fun M' => LaO M' (cs c) ∧ Chg PO M M')) 0 0 X) 0 0 7 [some (xR 140), some (xI (c : Int)), some (xI (r : Int)), z] [] κ M1 hs := by
    intro n
    induction n with
    | zero => intro r M1 z h1 h2; omega
    | succ n ih =>
      intro r M1 z h1 h2 hL hq1
      refine x_iload_n (pc := 7) hX rfl rfl dX7_layOutOther_7 ?_
      refine x_aload_n (pc := 8) hX rfl rfl dX7_layOutOther_8 ?_
      refine x_iload_n (pc := 9) hX rfl rfl dX7_layOutOther_9 ?_
      have hS1 : MS (M1 141) 0 cs := by rw [hq1.cell (fun f => by unfold PO; omega)]; exact hS
      refine x_cV_P (pc := 10) hX (tX7_runsOf hK hS1 c hc) hK.1 rfl lk_X7_52 rfl rfl (Nat.le_of_ble_eq_true rfl) (by decide) (Nat.zero_le _) (Nat.zero_le _) dX7_layOutOther_10 ?_
      refine x_icmp_ge (pc := 13) (tgt := 65) hX dX7_layOutOther_13 (by decide) (by omega) (fun h13 => ?_) (fun h13 => ?_)
      · obtain rfl : r = (enc (cs c)).length := by omega
        rw [List.take_length, rows_enc] at hL
        refine x_vret (pc := 65) hX rfl (Nat.zero_le _) (Nat.zero_le _) dX7_layOutOther_65 ?_
        exact pV_i ⟨hL, hq1⟩
      · have hr : r < (enc (cs c)).length := by omega
        have htt := tot_take_succ hr
        have htl := tot_take_le (enc (cs c)) (r + 1)
        have loopk : ∀ (n k : Nat) (acc : List Nat) (M1 : XM), k ≤ rn (enc (cs c)) r → rn (enc (cs c)) r < k + n → LaO M1 acc → Chg PO M M1 → acc = rows ((enc (cs c)).take r) ++ List.replicate k (rv (enc (cs c)) r) → XW G X mX7_layOutOther (xq G (pV κ hs (fun M' => LaO M' (cs c) ∧ Chg PO M M')) 0 0 X) 0 0 18 [some (xR 140), some (xI (c : Int)), some (xI (r : Int)), some (xI (k : Int))] [] κ M1 hs := by
          intro n
          induction n with
          | zero => intro k acc M1 h1 h2; omega
          | succ n ihk =>
            intro k acc M1 h1 h2 hL hq1 hacc
            have hS1 : MS (M1 141) 0 cs := by rw [hq1.cell (fun f => by unfold PO; omega)]; exact hS
            refine x_iload_n (pc := 18) hX rfl rfl dX7_layOutOther_18 ?_
            refine x_aload_n (pc := 19) hX rfl rfl dX7_layOutOther_19 ?_
            refine x_iload_n (pc := 20) hX rfl rfl dX7_layOutOther_20 ?_
            refine x_iload_n (pc := 21) hX rfl rfl dX7_layOutOther_21 ?_
            refine x_cV_P (pc := 22) hX (tX7_lengthOf hK hS1 c hc r hr) hK.1 rfl lk_X7_56 rfl rfl (Nat.le_of_ble_eq_true rfl) (by decide) (Nat.zero_le _) (Nat.zero_le _) dX7_layOutOther_22 ?_
            refine x_icmp_ge (pc := 25) (tgt := 59) hX dX7_layOutOther_25 (by decide) (by omega) (fun h25 => ?_) (fun h25 => ?_)
            · obtain rfl : k = rn (enc (cs c)) r := by omega
              rw [← rows_take_succ hr] at hacc
              subst hacc
              refine x_iinc (pc := 59) (v := ((r + 1 : Nat) : Int)) hX dX7_layOutOther_59 rfl (by decide) rfl (by omega) rfl ?_
              refine x_goto (pc := 62) (tgt := 7) hX dX7_layOutOther_62 (by decide) ?_
              exact ih (r + 1) _ _ (by omega) (by omega) hL hq1
            · have hkn : k < rn (enc (cs c)) r := by omega
              have hacl : acc.length < 999 := by rw [hacc, List.length_append, List.length_replicate, rows_len]; omega
              refine x_aload_n (pc := 28) hX rfl rfl dX7_layOutOther_28 ?_
              refine x_getR (pc := 29) hX fl_X7_28 hK.1 rfl dX7_layOutOther_29 ?_
              refine x_aload_n (pc := 32) hX rfl rfl dX7_layOutOther_32 ?_
              refine x_getI (pc := 33) (v := (acc.length : Int)) hX fl_X7_69 hK.1 rfl hL.1 dX7_layOutOther_33 ?_
              refine x_aload_n (pc := 36) hX rfl rfl dX7_layOutOther_36 ?_
              refine x_iload_n (pc := 37) hX rfl rfl dX7_layOutOther_37 ?_
              refine x_iload_n (pc := 38) hX rfl rfl dX7_layOutOther_38 ?_
              refine x_cV_P (pc := 39) hX (tX7_valueOf hK hS1 c hc r hr) hK.1 rfl lk_X7_66 rfl rfl (Nat.le_of_ble_eq_true rfl) (by decide) (Nat.zero_le _) (Nat.zero_le _) dX7_layOutOther_39 ?_
              refine x_iast (pc := 42) (j := acc.length) hX hK.2.2.2.2.2.2.2.1 (by omega) (by omega) (by decide) dX7_layOutOther_42 ?_
              refine x_aload_n (pc := 43) hX rfl rfl dX7_layOutOther_43 ?_
              refine x_dup (pc := 44) hX rfl dX7_layOutOther_44 ?_
              refine x_getI (pc := 45) (v := (acc.length : Int)) hX fl_X7_69 hK.1 rfl (by rw [mput_ne _ _ _ (by decide)]; exact hL.1) dX7_layOutOther_45 ?_
              refine x_iconst (pc := 48) hX dX7_layOutOther_48 ?_
              refine x_iadd (pc := 49) (v := ((acc.length + 1 : Nat) : Int)) hX dX7_layOutOther_49 (by omega) ?_
              refine x_putI (pc := 50) hX fl_X7_69 hK.1 rfl rfl rfl dX7_layOutOther_50 ?_
              refine x_iinc (pc := 53) (v := ((k + 1 : Nat) : Int)) hX dX7_layOutOther_53 rfl (by decide) rfl (by omega) rfl ?_
              refine x_goto (pc := 56) (tgt := 18) hX dX7_layOutOther_56 (by decide) ?_
              exact ihk (k + 1) (acc ++ [rv (enc (cs c)) r]) _ (by omega) (by omega) (hL.snoc (by omega) _) (hq1.tr ((Chg.put (Or.inl rfl)).tr (Chg.put (Or.inr ⟨rfl, rfl⟩)))) (by rw [hacc, List.append_assoc, ← List.replicate_succ'])
        refine x_iconst (pc := 16) hX dX7_layOutOther_16 ?_
        refine x_istore_n (pc := 17) hX rfl (by decide) rfl rfl dX7_layOutOther_17 ?_
        exact loopk _ 0 _ M1 (Nat.zero_le _) (by rw [Nat.zero_add]; exact Nat.lt_succ_self _) hL hq1 (by rw [List.replicate_zero, List.append_nil])
  refine x_aload_n (pc := 0) hX rfl rfl dX7_layOutOther_0 ?_
  refine x_iconst (pc := 1) hX dX7_layOutOther_1 ?_
  refine x_putI (pc := 2) hX fl_X7_69 hK.1 rfl rfl rfl dX7_layOutOther_2 ?_
  refine x_iconst (pc := 5) hX dX7_layOutOther_5 ?_
  refine x_istore_n (pc := 6) hX rfl (by decide) rfl rfl dX7_layOutOther_6 ?_
  exact loop ((enc (cs c)).length + 1) 0 _ _ (by omega) (by omega) LaO.zero (Chg.put (Or.inr ⟨rfl, rfl⟩))

set_option maxHeartbeats 4000000 in
set_option maxRecDepth 100000 in
theorem tX7_runsLaid {G : XG} {κ : XKs} {M : XM} {hs : Nat} (hK : KM κ hs) {l : List Nat} (hL : Lay M l) (hv : ∀ v ∈ l, v ≤ 9) : XC G mX7_runsLaid 0 0 0 [xR 140] κ M hs (pP κ M hs (xI ((enc l).length : Int))) := by
  refine XC.intro cdX7_runsLaid (by decide) (by decide) (Nat.le_of_ble_eq_true rfl) (loc := [some (xR 140), none, none]) rfl (fun X hX => ?_)
  have hv9 : ∀ i, chr l i ≤ 9 := fun i => by
    rcases Nat.lt_or_ge i l.length with h | h
    · exact hv _ (chr_mem h)
    · rw [chr_ge h]; omega
  have hll := hL.2.1
  have loop : ∀ (n k : Nat), k ≤ l.length → l.length < k + n → XW G X mX7_runsLaid (xq G (pP κ M hs (xI ((enc l).length : Int))) 0 0 X) 0 0 4 [some (xR 140), some (xI ((enc (l.take k)).length : Int)), some (xI (k : Int))] [] κ M hs := by
    intro n
    induction n with
    | zero => intro k h1 h2; omega
    | succ n ih =>
      intro k h1 h2
      refine x_iload_n (pc := 4) hX rfl rfl dX7_runsLaid_4 ?_
      refine x_aload_n (pc := 5) hX rfl rfl dX7_runsLaid_5 ?_
      refine x_getI (pc := 6) (v := (l.length : Int)) hX fl_X7_63 hK.1 rfl hL.1 dX7_runsLaid_6 ?_
      refine x_icmp_ge (pc := 9) (tgt := 47) hX dX7_runsLaid_9 (by decide) (by omega) (fun h9 => ?_) (fun h9 => ?_)
      · obtain rfl : k = l.length := by omega
        rw [List.take_length]
        refine x_iload_n (pc := 47) hX rfl rfl dX7_runsLaid_47 ?_
        refine x_iret (pc := 48) hX rfl (Nat.zero_le _) (Nat.zero_le _) dX7_runsLaid_48 (pP_i rfl)
      · have hkl : k < l.length := by omega
        have hnr := enc_take_len hkl
        have hel := enc_take_le l (k + 1)
        refine x_iload_n (pc := 12) hX rfl rfl dX7_runsLaid_12 ?_
        refine x_iload_n (pc := 13) hX rfl rfl dX7_runsLaid_13 ?_
        refine x_if_eq (pc := 14) (tgt := 34) hX dX7_runsLaid_14 (by decide) (by omega) (fun h14 => ?_) (fun h14 => ?_)
        · refine x_iconst (pc := 34) hX dX7_runsLaid_34 ?_
          refine x_goto (pc := 35) (tgt := 39) hX dX7_runsLaid_35 (by decide) ?_
          refine x_iadd (pc := 39) (v := ((enc (l.take (k + 1))).length : Int)) hX dX7_runsLaid_39 (by have := (hnr.1 (Or.inl (by omega))).1; omega) ?_
          refine x_istore_n (pc := 40) hX rfl (by decide) rfl rfl dX7_runsLaid_40 ?_
          refine x_iinc (pc := 41) (v := ((k + 1 : Nat) : Int)) hX dX7_runsLaid_41 rfl (by decide) rfl (by omega) rfl ?_
          refine x_goto (pc := 44) (tgt := 4) hX dX7_runsLaid_44 (by decide) ?_
          exact ih (k + 1) (by omega) (by omega)
        · refine x_aload_n (pc := 17) hX rfl rfl dX7_runsLaid_17 ?_
          refine x_getR (pc := 18) hX fl_X7_25 hK.1 rfl dX7_runsLaid_18 ?_
          refine x_iload_n (pc := 21) hX rfl rfl dX7_runsLaid_21 ?_
          refine x_iald (pc := 22) (j := k) (v := (chr l k : Int)) hX hK.2.2.2.2.2.2.1 (by omega) (by omega) (by decide) (hL.2.2 k hkl) dX7_runsLaid_22 ?_
          refine x_aload_n (pc := 23) hX rfl rfl dX7_runsLaid_23 ?_
          refine x_getR (pc := 24) hX fl_X7_25 hK.1 rfl dX7_runsLaid_24 ?_
          refine x_iload_n (pc := 27) hX rfl rfl dX7_runsLaid_27 ?_
          refine x_iconst (pc := 28) hX dX7_runsLaid_28 ?_
          refine x_isub (pc := 29) hX dX7_runsLaid_29 rfl ?_
          refine x_iald (pc := 30) (j := k - 1) (v := (chr l (k - 1) : Int)) hX hK.2.2.2.2.2.2.1 (by omega) (by omega) (by decide) (hL.2.2 (k - 1) (by omega)) dX7_runsLaid_30 ?_
          refine x_icmp_eq (pc := 31) (tgt := 38) hX dX7_runsLaid_31 (by decide) (by have := hv9 k; have := hv9 (k - 1); omega) (fun h31 => ?_) (fun h31 => ?_)
          · refine x_iconst (pc := 38) hX dX7_runsLaid_38 ?_
            refine x_iadd (pc := 39) (v := ((enc (l.take (k + 1))).length : Int)) hX dX7_runsLaid_39 (by obtain ⟨L0, m0, e1, e2⟩ := hnr.2 (fun z => z.elim (fun z => by omega) (fun z => z (by omega))); rw [e1, e2, List.length_append, List.length_append]; rfl) ?_
            refine x_istore_n (pc := 40) hX rfl (by decide) rfl rfl dX7_runsLaid_40 ?_
            refine x_iinc (pc := 41) (v := ((k + 1 : Nat) : Int)) hX dX7_runsLaid_41 rfl (by decide) rfl (by omega) rfl ?_
            refine x_goto (pc := 44) (tgt := 4) hX dX7_runsLaid_44 (by decide) ?_
            exact ih (k + 1) (by omega) (by omega)
          · refine x_iconst (pc := 34) hX dX7_runsLaid_34 ?_
            refine x_goto (pc := 35) (tgt := 39) hX dX7_runsLaid_35 (by decide) ?_
            refine x_iadd (pc := 39) (v := ((enc (l.take (k + 1))).length : Int)) hX dX7_runsLaid_39 (by have := (hnr.1 (Or.inr (by omega))).1; omega) ?_
            refine x_istore_n (pc := 40) hX rfl (by decide) rfl rfl dX7_runsLaid_40 ?_
            refine x_iinc (pc := 41) (v := ((k + 1 : Nat) : Int)) hX dX7_runsLaid_41 rfl (by decide) rfl (by omega) rfl ?_
            refine x_goto (pc := 44) (tgt := 4) hX dX7_runsLaid_44 (by decide) ?_
            exact ih (k + 1) (by omega) (by omega)
  refine x_iconst (pc := 0) hX dX7_runsLaid_0 ?_
  refine x_istore_n (pc := 1) hX rfl (by decide) rfl rfl dX7_runsLaid_1 ?_
  refine x_iconst (pc := 2) hX dX7_runsLaid_2 ?_
  refine x_istore_n (pc := 3) hX rfl (by decide) rfl rfl dX7_runsLaid_3 ?_
  exact loop (l.length + 1) 0 (by omega) (by omega)

set_option maxHeartbeats 4000000 in
set_option maxRecDepth 100000 in
theorem tX7_isTooMany {G : XG} {κ : XKs} {M : XM} {hs : Nat} (hK : KM κ hs) {l : List Nat} (hL : Lay M l) (hv : ∀ v ∈ l, v ≤ 9) : XC G mX7_isTooMany 1 0 0 [xR 140] κ M hs (pP κ M hs (xI (if l.length ≤ 999 ∧ (enc l).length ≤ 40 then 0 else 1))) := by
  refine XC.intro cdX7_isTooMany (by decide) (by decide) (Nat.le_of_ble_eq_true rfl) (loc := [some (xR 140)]) rfl (fun X hX => ?_)
  have hll := hL.2.1
  have hel := enc_len_le l
  refine x_aload_n (pc := 0) hX rfl rfl dX7_isTooMany_0 ?_
  refine x_getI (pc := 1) (v := (l.length : Int)) hX fl_X7_63 hK.1 rfl hL.1 dX7_isTooMany_1 ?_
  refine x_sipush (pc := 4) hX (by decide) dX7_isTooMany_4 ?_
  refine x_icmp_gt (pc := 7) (tgt := 19) hX dX7_isTooMany_7 (by decide) (by omega) (fun h7 => ?_) (fun h7 => ?_)
  · refine x_iconst (pc := 19) hX dX7_isTooMany_19 ?_
    refine x_goto (pc := 20) (tgt := 24) hX dX7_isTooMany_20 (by decide) ?_
    refine x_zret (pc := 24) hX rfl (xn_bool (by omega)) (Nat.zero_le _) (Nat.zero_le _) dX7_isTooMany_24 ?_
    exact pP_i (congrArg xI (by first | rw [if_pos (by omega)] | rw [if_neg (by omega)]))
  · refine x_aload_n (pc := 10) hX rfl rfl dX7_isTooMany_10 ?_
    refine x_cV_P (pc := 11) hX (tX7_runsLaid hK hL hv) hK.1 rfl lk_X7_72 rfl rfl (Nat.le_of_ble_eq_true rfl) (by decide) (Nat.zero_le _) (Nat.zero_le _) dX7_isTooMany_11 ?_
    refine x_bipush (pc := 14) hX (by decide) dX7_isTooMany_14 ?_
    refine x_icmp_le (pc := 16) (tgt := 23) hX dX7_isTooMany_16 (by decide) (by omega) (fun h16 => ?_) (fun h16 => ?_)
    · refine x_iconst (pc := 23) hX dX7_isTooMany_23 ?_
      refine x_zret (pc := 24) hX rfl (xn_bool (by omega)) (Nat.zero_le _) (Nat.zero_le _) dX7_isTooMany_24 ?_
      exact pP_i (congrArg xI (by first | rw [if_pos (by omega)] | rw [if_neg (by omega)]))
    · refine x_iconst (pc := 19) hX dX7_isTooMany_19 ?_
      refine x_goto (pc := 20) (tgt := 24) hX dX7_isTooMany_20 (by decide) ?_
      refine x_zret (pc := 24) hX rfl (xn_bool (by omega)) (Nat.zero_le _) (Nat.zero_le _) dX7_isTooMany_24 ?_
      exact pP_i (congrArg xI (by first | rw [if_pos (by omega)] | rw [if_neg (by omega)]))

set_option maxHeartbeats 4000000 in
set_option maxRecDepth 100000 in
theorem tX7_gets {G : XG} {κ : XKs} {M : XM} {hs : Nat} (hK : KM κ hs) {l : List Nat} (hL : Lay M l) (hf : fit l) (hv : ∀ v ∈ l, v ≤ 9) (c : Nat) (hc : c < 4) : XC G mX7_gets 0 0 0 [xR 140, xI (c : Int)] κ M hs (pV κ hs (fun M' => MC (M' 141) (81 * c) l ∧ Chg (PG c) M M')) := by
  refine XC.intro cdX7_gets (by decide) (by decide) (Nat.le_of_ble_eq_true rfl) (loc := [some (xR 140), some (xI (c : Int)), none, none]) rfl (fun X hX => ?_)
  have hv9 : ∀ i, chr l i ≤ 9 := fun i => by
    rcases Nat.lt_or_ge i l.length with h | h
    · exact hv _ (chr_mem h)
    · rw [chr_ge h]; omega
  have hf1 := hf.1
  have loop2 : ∀ (n k : Nat) (M1 : XM), k ≤ l.length → l.length < k + n → GR (M1 141) (81 * c) (enc (l.take k)) → Chg (PG c) M M1 → XW G X mX7_gets (xq G (pV κ hs (fun M' => MC (M' 141) (81 * c) l ∧ Chg (PG c) M M')) 0 0 X) 0 0 30 [some (xR 140), some (xI (c : Int)), some (xI ((enc (l.take k)).length : Int)), some (xI (k : Int))] [] κ M1 hs := by
    intro n
    induction n with
    | zero => intro k M1 h1 h2; omega
    | succ n ih =>
      intro k M1 h1 h2 hG hq1
      have hL1 : Lay M1 l := ⟨by rw [show M1 140 = M 140 from hq1.cell (fun f => by unfold PG; omega)]; exact hL.1, hL.2.1, by rw [show M1 146 = M 146 from hq1.cell (fun f => by unfold PG; omega)]; exact hL.2.2⟩
      refine x_iload_n (pc := 30) hX rfl rfl dX7_gets_30 ?_
      refine x_aload_n (pc := 31) hX rfl rfl dX7_gets_31 ?_
      refine x_getI (pc := 32) (v := (l.length : Int)) hX fl_X7_63 hK.1 rfl hL1.1 dX7_gets_32 ?_
      refine x_icmp_ge (pc := 35) (tgt := 111) hX dX7_gets_35 (by decide) (by omega) (fun h35 => ?_) (fun h35 => ?_)
      · obtain rfl : k = l.length := by omega
        rw [List.take_length] at hG ⊢
        refine x_aload_n (pc := 111) hX rfl rfl dX7_gets_111 ?_
        refine x_getR (pc := 112) hX fl_X7_7 hK.1 rfl dX7_gets_112 ?_
        refine x_bipush (pc := 115) hX (by decide) dX7_gets_115 ?_
        refine x_iload_n (pc := 117) hX rfl rfl dX7_gets_117 ?_
        refine x_imul (pc := 118) hX dX7_gets_118 rfl ?_
        refine x_iload_n (pc := 119) hX rfl rfl dX7_gets_119 ?_
        refine x_iast (pc := 120) (j := 81 * c) hX hK.2.1 (by omega) (by omega) (by decide) dX7_gets_120 ?_
        refine x_vret (pc := 121) hX rfl (Nat.zero_le _) (Nat.zero_le _) dX7_gets_121 ?_
        refine pV_i ⟨⟨mp_eq _ _ _ _, fun r hr => ?_, hf, hv⟩, hq1.tr (Chg.put (by unfold PG; omega))⟩
        rw [mp_ne _ _ (by omega), mp_ne _ _ (by omega)]
        exact hG.1 r hr
      · have hkl : k < l.length := by omega
        have hnr := enc_take_len hkl
        have hel := enc_take_le l (k + 1)
        have hel2 := hf.2
        refine x_iload_n (pc := 38) hX rfl rfl dX7_gets_38 ?_
        refine x_iload_n (pc := 39) hX rfl rfl dX7_gets_39 ?_
        refine x_if_eq (pc := 40) (tgt := 60) hX dX7_gets_40 (by decide) (by omega) (fun h40 => ?_) (fun h40 => ?_)
        · refine x_iconst (pc := 60) hX dX7_gets_60 ?_
          refine x_goto (pc := 61) (tgt := 65) hX dX7_gets_61 (by decide) ?_
          refine x_iadd (pc := 65) (v := (((enc (l.take k)).length + 1 : Nat) : Int)) hX dX7_gets_65 (by omega) ?_
          refine x_istore_n (pc := 66) hX rfl (by decide) rfl rfl dX7_gets_66 ?_
          refine x_aload_n (pc := 67) hX rfl rfl dX7_gets_67 ?_
          refine x_getR (pc := 68) hX fl_X7_7 hK.1 rfl dX7_gets_68 ?_
          refine x_bipush (pc := 71) hX (by decide) dX7_gets_71 ?_
          refine x_iload_n (pc := 73) hX rfl rfl dX7_gets_73 ?_
          refine x_imul (pc := 74) hX dX7_gets_74 rfl ?_
          refine x_iconst (pc := 75) hX dX7_gets_75 ?_
          refine x_iload_n (pc := 76) hX rfl rfl dX7_gets_76 ?_
          refine x_imul (pc := 77) hX dX7_gets_77 rfl ?_
          refine x_iadd (pc := 78) hX dX7_gets_78 rfl ?_
          refine x_iconst (pc := 79) hX dX7_gets_79 ?_
          refine x_isub (pc := 80) hX dX7_gets_80 rfl ?_
          refine x_aload_n (pc := 81) hX rfl rfl dX7_gets_81 ?_
          refine x_getR (pc := 82) hX fl_X7_25 hK.1 rfl dX7_gets_82 ?_
          refine x_iload_n (pc := 85) hX rfl rfl dX7_gets_85 ?_
          refine x_iald (pc := 86) (j := k) (v := (chr l k : Int)) hX hK.2.2.2.2.2.2.1 (by omega) (by omega) (by decide) (hL1.2.2 k hkl) dX7_gets_86 ?_
          refine x_iast (pc := 87) (j := 81 * c + 1 + 2 * (enc (l.take k)).length) hX hK.2.1 (by omega) (by have := (hnr.1 (Or.inl (by omega))).1; omega) (by decide) dX7_gets_87 ?_
          refine x_aload_n (pc := 88) hX rfl rfl dX7_gets_88 ?_
          refine x_getR (pc := 89) hX fl_X7_7 hK.1 rfl dX7_gets_89 ?_
          refine x_bipush (pc := 92) hX (by decide) dX7_gets_92 ?_
          refine x_iload_n (pc := 94) hX rfl rfl dX7_gets_94 ?_
          refine x_imul (pc := 95) hX dX7_gets_95 rfl ?_
          refine x_iconst (pc := 96) hX dX7_gets_96 ?_
          refine x_iload_n (pc := 97) hX rfl rfl dX7_gets_97 ?_
          refine x_imul (pc := 98) hX dX7_gets_98 rfl ?_
          refine x_iadd (pc := 99) hX dX7_gets_99 rfl ?_
          refine x_dup2 (pc := 100) hX rfl rfl dX7_gets_100 ?_
          refine x_iald (pc := 101) (j := 81 * c + 2 + 2 * (enc (l.take k)).length) (v := (0 : Int)) hX hK.2.1 (by omega) (by have := (hnr.1 (Or.inl (by omega))).1; omega) (by decide) (by rw [mp_ne _ _ (by omega), Nat.add_assoc]; have := (hnr.1 (Or.inl (by omega))).1; exact hG.2 (2 + 2 * (enc (l.take k)).length) (by omega) (by omega)) dX7_gets_101 ?_
          refine x_iconst (pc := 102) hX dX7_gets_102 ?_
          refine x_iadd (pc := 103) hX dX7_gets_103 rfl ?_
          refine x_iast (pc := 104) (j := 81 * c + 2 + 2 * (enc (l.take k)).length) hX hK.2.1 (by omega) (by have := (hnr.1 (Or.inl (by omega))).1; omega) (by decide) dX7_gets_104 ?_
          refine x_iinc (pc := 105) (v := ((k + 1 : Nat) : Int)) hX dX7_gets_105 rfl (by decide) rfl (by omega) rfl ?_
          refine x_goto (pc := 108) (tgt := 30) hX dX7_gets_108 (by decide) ?_
          have hnw := hnr.1 (Or.inl (by omega))
          have h9 := hG.new (chr l k)
          rw [← hnw.2] at h9
          have e8 : (((enc (l.take k)).length + 1 : Nat) : Int) = ((enc (l.take (k + 1))).length : Int) := by rw [hnw.1]
          rw [e8]
          refine ih (k + 1) _ (by omega) (by omega) h9 (hq1.tr ((Chg.put (by unfold PG; omega)).tr (Chg.put (by unfold PG; omega))))
        · refine x_aload_n (pc := 43) hX rfl rfl dX7_gets_43 ?_
          refine x_getR (pc := 44) hX fl_X7_25 hK.1 rfl dX7_gets_44 ?_
          refine x_iload_n (pc := 47) hX rfl rfl dX7_gets_47 ?_
          refine x_iald (pc := 48) (j := k) (v := (chr l k : Int)) hX hK.2.2.2.2.2.2.1 (by omega) (by omega) (by decide) (hL1.2.2 k hkl) dX7_gets_48 ?_
          refine x_aload_n (pc := 49) hX rfl rfl dX7_gets_49 ?_
          refine x_getR (pc := 50) hX fl_X7_25 hK.1 rfl dX7_gets_50 ?_
          refine x_iload_n (pc := 53) hX rfl rfl dX7_gets_53 ?_
          refine x_iconst (pc := 54) hX dX7_gets_54 ?_
          refine x_isub (pc := 55) hX dX7_gets_55 rfl ?_
          refine x_iald (pc := 56) (j := k - 1) (v := (chr l (k - 1) : Int)) hX hK.2.2.2.2.2.2.1 (by omega) (by omega) (by decide) (hL1.2.2 (k - 1) (by omega)) dX7_gets_56 ?_
          refine x_icmp_eq (pc := 57) (tgt := 64) hX dX7_gets_57 (by decide) (by have := hv9 k; have := hv9 (k - 1); omega) (fun h57 => ?_) (fun h57 => ?_)
          · obtain ⟨L0, m0, hsm⟩ := hnr.2 (fun z => z.elim (fun z => by omega) (fun z => z (by omega)))
            have hsl : L0.length + 1 ≤ 40 := by have := congrArg List.length hsm.2; rw [List.length_append] at this; have e : (L0.length + 1 : Nat) = (enc (l.take (k + 1))).length := this.symm; omega
            refine x_iconst (pc := 64) hX dX7_gets_64 ?_
            refine x_iadd (pc := 65) (v := ((L0.length + 1 : Nat) : Int)) hX dX7_gets_65 (by rw [hsm.1, List.length_append]; rfl) ?_
            refine x_istore_n (pc := 66) hX rfl (by decide) rfl rfl dX7_gets_66 ?_
            refine x_aload_n (pc := 67) hX rfl rfl dX7_gets_67 ?_
            refine x_getR (pc := 68) hX fl_X7_7 hK.1 rfl dX7_gets_68 ?_
            refine x_bipush (pc := 71) hX (by decide) dX7_gets_71 ?_
            refine x_iload_n (pc := 73) hX rfl rfl dX7_gets_73 ?_
            refine x_imul (pc := 74) hX dX7_gets_74 rfl ?_
            refine x_iconst (pc := 75) hX dX7_gets_75 ?_
            refine x_iload_n (pc := 76) hX rfl rfl dX7_gets_76 ?_
            refine x_imul (pc := 77) hX dX7_gets_77 rfl ?_
            refine x_iadd (pc := 78) hX dX7_gets_78 rfl ?_
            refine x_iconst (pc := 79) hX dX7_gets_79 ?_
            refine x_isub (pc := 80) hX dX7_gets_80 rfl ?_
            refine x_aload_n (pc := 81) hX rfl rfl dX7_gets_81 ?_
            refine x_getR (pc := 82) hX fl_X7_25 hK.1 rfl dX7_gets_82 ?_
            refine x_iload_n (pc := 85) hX rfl rfl dX7_gets_85 ?_
            refine x_iald (pc := 86) (j := k) (v := (chr l k : Int)) hX hK.2.2.2.2.2.2.1 (by omega) (by omega) (by decide) (hL1.2.2 k hkl) dX7_gets_86 ?_
            refine x_iast (pc := 87) (j := 81 * c + 1 + 2 * L0.length) hX hK.2.1 (by omega) (by omega) (by decide) dX7_gets_87 ?_
            refine x_aload_n (pc := 88) hX rfl rfl dX7_gets_88 ?_
            refine x_getR (pc := 89) hX fl_X7_7 hK.1 rfl dX7_gets_89 ?_
            refine x_bipush (pc := 92) hX (by decide) dX7_gets_92 ?_
            refine x_iload_n (pc := 94) hX rfl rfl dX7_gets_94 ?_
            refine x_imul (pc := 95) hX dX7_gets_95 rfl ?_
            refine x_iconst (pc := 96) hX dX7_gets_96 ?_
            refine x_iload_n (pc := 97) hX rfl rfl dX7_gets_97 ?_
            refine x_imul (pc := 98) hX dX7_gets_98 rfl ?_
            refine x_iadd (pc := 99) hX dX7_gets_99 rfl ?_
            refine x_dup2 (pc := 100) hX rfl rfl dX7_gets_100 ?_
            refine x_iald (pc := 101) (j := 81 * c + 2 + 2 * L0.length) (v := (m0 : Int)) hX hK.2.1 (by omega) (by omega) (by decide) (by rw [mp_ne _ _ (by omega)]; have := (hG.1 L0.length (by rw [hsm.1, List.length_append]; exact Nat.lt_succ_self _)).2; rw [this, hsm.1, rn_last]) dX7_gets_101 ?_
            refine x_iconst (pc := 102) hX dX7_gets_102 ?_
            refine x_iadd (pc := 103) (v := ((m0 : Int) + 1)) hX dX7_gets_103 rfl ?_
            refine x_iast (pc := 104) (j := 81 * c + 2 + 2 * L0.length) hX hK.2.1 (by omega) (by omega) (by decide) dX7_gets_104 ?_
            refine x_iinc (pc := 105) (v := ((k + 1 : Nat) : Int)) hX dX7_gets_105 rfl (by decide) rfl (by omega) rfl ?_
            refine x_goto (pc := 108) (tgt := 30) hX dX7_gets_108 (by decide) ?_
            rw [hsm.1] at hG
            have h9 := hG.same
            rw [← hsm.2] at h9
            have e8 : ((L0.length + 1 : Nat) : Int) = ((enc (l.take (k + 1))).length : Int) := by rw [hsm.2, List.length_append]; rfl
            rw [e8]
            refine ih (k + 1) _ (by omega) (by omega) h9 (hq1.tr ((Chg.put (by unfold PG; omega)).tr (Chg.put (by unfold PG; omega))))
          · refine x_iconst (pc := 60) hX dX7_gets_60 ?_
            refine x_goto (pc := 61) (tgt := 65) hX dX7_gets_61 (by decide) ?_
            refine x_iadd (pc := 65) (v := (((enc (l.take k)).length + 1 : Nat) : Int)) hX dX7_gets_65 (by omega) ?_
            refine x_istore_n (pc := 66) hX rfl (by decide) rfl rfl dX7_gets_66 ?_
            refine x_aload_n (pc := 67) hX rfl rfl dX7_gets_67 ?_
            refine x_getR (pc := 68) hX fl_X7_7 hK.1 rfl dX7_gets_68 ?_
            refine x_bipush (pc := 71) hX (by decide) dX7_gets_71 ?_
            refine x_iload_n (pc := 73) hX rfl rfl dX7_gets_73 ?_
            refine x_imul (pc := 74) hX dX7_gets_74 rfl ?_
            refine x_iconst (pc := 75) hX dX7_gets_75 ?_
            refine x_iload_n (pc := 76) hX rfl rfl dX7_gets_76 ?_
            refine x_imul (pc := 77) hX dX7_gets_77 rfl ?_
            refine x_iadd (pc := 78) hX dX7_gets_78 rfl ?_
            refine x_iconst (pc := 79) hX dX7_gets_79 ?_
            refine x_isub (pc := 80) hX dX7_gets_80 rfl ?_
            refine x_aload_n (pc := 81) hX rfl rfl dX7_gets_81 ?_
            refine x_getR (pc := 82) hX fl_X7_25 hK.1 rfl dX7_gets_82 ?_
            refine x_iload_n (pc := 85) hX rfl rfl dX7_gets_85 ?_
            refine x_iald (pc := 86) (j := k) (v := (chr l k : Int)) hX hK.2.2.2.2.2.2.1 (by omega) (by omega) (by decide) (hL1.2.2 k hkl) dX7_gets_86 ?_
            refine x_iast (pc := 87) (j := 81 * c + 1 + 2 * (enc (l.take k)).length) hX hK.2.1 (by omega) (by have := (hnr.1 (Or.inr (by omega))).1; omega) (by decide) dX7_gets_87 ?_
            refine x_aload_n (pc := 88) hX rfl rfl dX7_gets_88 ?_
            refine x_getR (pc := 89) hX fl_X7_7 hK.1 rfl dX7_gets_89 ?_
            refine x_bipush (pc := 92) hX (by decide) dX7_gets_92 ?_
            refine x_iload_n (pc := 94) hX rfl rfl dX7_gets_94 ?_
            refine x_imul (pc := 95) hX dX7_gets_95 rfl ?_
            refine x_iconst (pc := 96) hX dX7_gets_96 ?_
            refine x_iload_n (pc := 97) hX rfl rfl dX7_gets_97 ?_
            refine x_imul (pc := 98) hX dX7_gets_98 rfl ?_
            refine x_iadd (pc := 99) hX dX7_gets_99 rfl ?_
            refine x_dup2 (pc := 100) hX rfl rfl dX7_gets_100 ?_
            refine x_iald (pc := 101) (j := 81 * c + 2 + 2 * (enc (l.take k)).length) (v := (0 : Int)) hX hK.2.1 (by omega) (by have := (hnr.1 (Or.inr (by omega))).1; omega) (by decide) (by rw [mp_ne _ _ (by omega), Nat.add_assoc]; have := (hnr.1 (Or.inr (by omega))).1; exact hG.2 (2 + 2 * (enc (l.take k)).length) (by omega) (by omega)) dX7_gets_101 ?_
            refine x_iconst (pc := 102) hX dX7_gets_102 ?_
            refine x_iadd (pc := 103) hX dX7_gets_103 rfl ?_
            refine x_iast (pc := 104) (j := 81 * c + 2 + 2 * (enc (l.take k)).length) hX hK.2.1 (by omega) (by have := (hnr.1 (Or.inr (by omega))).1; omega) (by decide) dX7_gets_104 ?_
            refine x_iinc (pc := 105) (v := ((k + 1 : Nat) : Int)) hX dX7_gets_105 rfl (by decide) rfl (by omega) rfl ?_
            refine x_goto (pc := 108) (tgt := 30) hX dX7_gets_108 (by decide) ?_
            have hnw := hnr.1 (Or.inr (by omega))
            have h9 := hG.new (chr l k)
            rw [← hnw.2] at h9
            have e8 : (((enc (l.take k)).length + 1 : Nat) : Int) = ((enc (l.take (k + 1))).length : Int) := by rw [hnw.1]
            rw [e8]
            refine ih (k + 1) _ (by omega) (by omega) h9 (hq1.tr ((Chg.put (by unfold PG; omega)).tr (Chg.put (by unfold PG; omega))))
  have loop1 : ∀ (n k : Nat) (M1 : XM), k ≤ 81 → 81 < k + n → (∀ j, j < k → M1 141 (81 * c + j) = 0) → Chg (PG c) M M1 → XW G X mX7_gets (xq G (pV κ hs (fun M' => MC (M' 141) (81 * c) l ∧ Chg (PG c) M M')) 0 0 X) 0 0 4 [some (xR 140), some (xI (c : Int)), some (xI 0), some (xI (k : Int))] [] κ M1 hs := by
    intro n
    induction n with
    | zero => intro k M1 h1 h2; omega
    | succ n ih =>
      intro k M1 h1 h2 hz1 hq1
      refine x_iload_n (pc := 4) hX rfl rfl dX7_gets_4 ?_
      refine x_bipush (pc := 5) hX (by decide) dX7_gets_5 ?_
      refine x_icmp_ge (pc := 7) (tgt := 28) hX dX7_gets_7 (by decide) (by omega) (fun h7 => ?_) (fun h7 => ?_)
      · obtain rfl : k = 81 := by omega
        refine x_iconst (pc := 28) hX dX7_gets_28 ?_
        refine x_istore_n (pc := 29) hX rfl (by decide) rfl rfl dX7_gets_29 ?_
        exact loop2 (l.length + 1) 0 M1 (by omega) (by omega) ⟨fun r hr => absurd hr (Nat.not_lt_zero _), fun j h1 h2 => hz1 j h2⟩ hq1
      · have hk : k < 81 := by omega
        refine x_aload_n (pc := 10) hX rfl rfl dX7_gets_10 ?_
        refine x_getR (pc := 11) hX fl_X7_7 hK.1 rfl dX7_gets_11 ?_
        refine x_bipush (pc := 14) hX (by decide) dX7_gets_14 ?_
        refine x_iload_n (pc := 16) hX rfl rfl dX7_gets_16 ?_
        refine x_imul (pc := 17) hX dX7_gets_17 rfl ?_
        refine x_iload_n (pc := 18) hX rfl rfl dX7_gets_18 ?_
        refine x_iadd (pc := 19) hX dX7_gets_19 rfl ?_
        refine x_iconst (pc := 20) hX dX7_gets_20 ?_
        refine x_iast (pc := 21) (j := 81 * c + k) hX hK.2.1 (by omega) (by omega) (by decide) dX7_gets_21 ?_
        refine x_iinc (pc := 22) (v := ((k + 1 : Nat) : Int)) hX dX7_gets_22 rfl (by decide) rfl (by omega) rfl ?_
        refine x_goto (pc := 25) (tgt := 4) hX dX7_gets_25 (by decide) ?_
        refine ih (k + 1) _ (by omega) (by omega) (fun j hj => ?_) (hq1.tr (Chg.put (by unfold PG; omega)))
        by_cases e : j = k
        · subst e
          exact mp_eq _ _ _ _
        · rw [mp_ne _ _ (by omega)]
          exact hz1 j (by omega)
  refine x_iconst (pc := 0) hX dX7_gets_0 ?_
  refine x_istore_n (pc := 1) hX rfl (by decide) rfl rfl dX7_gets_1 ?_
  refine x_iconst (pc := 2) hX dX7_gets_2 ?_
  refine x_istore_n (pc := 3) hX rfl (by decide) rfl rfl dX7_gets_3 ?_
  exact loop1 82 0 M (by omega) (by omega) (fun j hj => absurd hj (Nat.not_lt_zero _)) Chg.rf

def PL9 (q _f : Nat) : Prop := q = 146
theorem Chg.pl {M M' : XM} (h : Chg PL9 M M') : Chg PL M M' := h.mono (fun q f z => Or.inl z)
set_option maxHeartbeats 4000000 in
set_option maxRecDepth 100000 in
theorem tX7_putIn {G : XG} {κ : XKs} {M : XM} {hs : Nat} (hK : KM κ hs) {l : List Nat} (hL : Lay M l) (r : Nat) (hr : r ≤ l.length) (v n : Nat) (hn : l.length + n ≤ 1998) : XC G mX7_putIn 0 0 0 [xR 140, xI (r : Int), xI (v : Int), xI (n : Int)] κ M hs (pV κ hs (fun M' => Lay M' (l.take r ++ List.replicate n v ++ l.drop r) ∧ Chg PL M M')) := by
  refine XC.intro cdX7_putIn (by decide) (by decide) (Nat.le_of_ble_eq_true rfl) (loc := [some (xR 140), some (xI (r : Int)), some (xI (v : Int)), some (xI (n : Int)), none]) rfl (fun X hX => ?_)
  have hll := hL.2.1
  have loop2 : ∀ (n9 k : Nat) (M1 : XM), k ≤ n → n < k + n9 → (∀ i, i < r → M1 146 i = (chr l i : Int)) → (∀ i, r ≤ i → i < l.length → M1 146 (i + n) = (chr l i : Int)) → (∀ i, i < k → M1 146 (r + i) = (v : Int)) → Chg PL9 M M1 → XW G X mX7_putIn (xq G (pV κ hs (fun M' => Lay M' (l.take r ++ List.replicate n v ++ l.drop r) ∧ Chg PL M M')) 0 0 X) 0 0 39 [some (xR 140), some (xI (r : Int)), some (xI (v : Int)), some (xI (n : Int)), some (xI (k : Int))] [] κ M1 hs := by
    intro n9
    induction n9 with
    | zero => intro k M1 h1 h2; omega
    | succ n9 ih =>
      intro k M1 h1 h2 ha1 hb1 hd1 hq1
      refine x_iload (pc := 39) hX rfl dX7_putIn_39 ?_
      refine x_iload_n (pc := 41) hX rfl rfl dX7_putIn_41 ?_
      refine x_icmp_ge (pc := 42) (tgt := 61) hX dX7_putIn_42 (by decide) (by omega) (fun h42 => ?_) (fun h42 => ?_)
      · obtain rfl : k = n := by omega
        refine x_aload_n (pc := 61) hX rfl rfl dX7_putIn_61 ?_
        refine x_dup (pc := 62) hX rfl dX7_putIn_62 ?_
        refine x_getI (pc := 63) (v := (l.length : Int)) hX fl_X7_63 hK.1 rfl ((hq1.at (by unfold PL9; omega)).trans hL.1) dX7_putIn_63 ?_
        refine x_iload_n (pc := 66) hX rfl rfl dX7_putIn_66 ?_
        refine x_iadd (pc := 67) (v := ((l.length + k : Nat) : Int)) hX dX7_putIn_67 (by omega) ?_
        refine x_putI (pc := 68) hX fl_X7_63 hK.1 rfl rfl rfl dX7_putIn_68 ?_
        refine x_vret (pc := 71) hX rfl (Nat.zero_le _) (Nat.zero_le _) dX7_putIn_71 ?_
        have hlen : (l.take r ++ List.replicate k v ++ l.drop r).length = l.length + k := by
          rw [List.length_append, List.length_append, List.length_take, List.length_replicate, List.length_drop]
          omega
        refine pV_i ⟨⟨by rw [mp_eq, hlen], by omega, ?_⟩, hq1.pl.tr (Chg.put (Or.inr ⟨rfl, rfl⟩))⟩
        rw [mput_ne _ _ _ (by decide)]
        exact chr_put hr ha1 hb1 hd1
      · have hkn : k < n := by omega
        refine x_aload_n (pc := 45) hX rfl rfl dX7_putIn_45 ?_
        refine x_getR (pc := 46) hX fl_X7_25 hK.1 rfl dX7_putIn_46 ?_
        refine x_iload_n (pc := 49) hX rfl rfl dX7_putIn_49 ?_
        refine x_iload (pc := 50) hX rfl dX7_putIn_50 ?_
        refine x_iadd (pc := 52) hX dX7_putIn_52 rfl ?_
        refine x_iload_n (pc := 53) hX rfl rfl dX7_putIn_53 ?_
        refine x_iast (pc := 54) (j := r + k) hX hK.2.2.2.2.2.2.1 (by omega) (by omega) (by decide) dX7_putIn_54 ?_
        refine x_iinc (pc := 55) (v := ((k + 1 : Nat) : Int)) hX dX7_putIn_55 rfl (by decide) rfl (by omega) rfl ?_
        refine x_goto (pc := 58) (tgt := 39) hX dX7_putIn_58 (by decide) ?_
        refine ih (k + 1) _ (by omega) (by omega) (fun i hi => ?_) (fun i h5 h6 => ?_) (fun i hi => ?_) (hq1.tr (Chg.put rfl))
        · rw [mp_ne _ _ (by omega)]
          exact ha1 i hi
        · rw [mp_ne _ _ (by omega)]
          exact hb1 i h5 h6
        · by_cases e : i = k
          · subst e
            exact mp_eq _ _ _ _
          · rw [mp_ne _ _ (by omega)]
            exact hd1 i (by omega)
  have loop1 : ∀ (n9 j : Nat) (M1 : XM), j ≤ l.length → r ≤ j → j < r + n9 → (∀ i, i < j → M1 146 i = (chr l i : Int)) → (∀ i, j ≤ i → i < l.length → M1 146 (i + n) = (chr l i : Int)) → Chg PL9 M M1 → XW G X mX7_putIn (xq G (pV κ hs (fun M' => Lay M' (l.take r ++ List.replicate n v ++ l.drop r) ∧ Chg PL M M')) 0 0 X) 0 0 8 [some (xR 140), some (xI (r : Int)), some (xI (v : Int)), some (xI (n : Int)), some (xI ((j : Int) - 1))] [] κ M1 hs := by
    intro n9
    induction n9 with
    | zero => intro j M1 h1 h2; omega
    | succ n9 ih =>
      intro j M1 h1 h2 h3 ha1 hb1 hq1
      refine x_iload (pc := 8) hX rfl dX7_putIn_8 ?_
      refine x_iload_n (pc := 10) hX rfl rfl dX7_putIn_10 ?_
      refine x_icmp_lt (pc := 11) (tgt := 36) hX dX7_putIn_11 (by decide) (by omega) (fun h11 => ?_) (fun h11 => ?_)
      · obtain rfl : j = r := by omega
        refine x_iconst (pc := 36) hX dX7_putIn_36 ?_
        refine x_istore (pc := 37) hX (by decide) rfl rfl dX7_putIn_37 ?_
        exact loop2 (n + 1) 0 M1 (by omega) (by omega) ha1 hb1 (fun i hi => absurd hi (Nat.not_lt_zero _)) hq1
      · obtain ⟨j, rfl⟩ : ∃ j2, j = j2 + 1 := ⟨j - 1, by omega⟩
        have e1 : ((j + 1 : Nat) : Int) - 1 = (j : Int) := by omega
        rw [e1]
        refine x_aload_n (pc := 14) hX rfl rfl dX7_putIn_14 ?_
        refine x_getR (pc := 15) hX fl_X7_25 hK.1 rfl dX7_putIn_15 ?_
        refine x_iload (pc := 18) hX rfl dX7_putIn_18 ?_
        refine x_iload_n (pc := 20) hX rfl rfl dX7_putIn_20 ?_
        refine x_iadd (pc := 21) hX dX7_putIn_21 rfl ?_
        refine x_aload_n (pc := 22) hX rfl rfl dX7_putIn_22 ?_
        refine x_getR (pc := 23) hX fl_X7_25 hK.1 rfl dX7_putIn_23 ?_
        refine x_iload (pc := 26) hX rfl dX7_putIn_26 ?_
        refine x_iald (pc := 28) (j := j) (v := (chr l j : Int)) hX hK.2.2.2.2.2.2.1 (by omega) (by omega) (by decide) (ha1 j (by omega)) dX7_putIn_28 ?_
        refine x_iast (pc := 29) (j := j + n) hX hK.2.2.2.2.2.2.1 (by omega) (by omega) (by decide) dX7_putIn_29 ?_
        refine x_iinc (pc := 30) (v := (j : Int) - 1) hX dX7_putIn_30 rfl (by decide) rfl (by omega) rfl ?_
        refine x_goto (pc := 33) (tgt := 8) hX dX7_putIn_33 (by decide) ?_
        refine ih j _ (by omega) (by omega) (by omega) (fun i hi => ?_) (fun i h5 h6 => ?_) (hq1.tr (Chg.put rfl))
        · rw [mp_ne _ _ (by omega)]
          exact ha1 i (by omega)
        · by_cases e : i = j
          · subst e
            exact mp_eq _ _ _ _
          · rw [mp_ne _ _ (by omega)]
            exact hb1 i (by omega) h6
  refine x_aload_n (pc := 0) hX rfl rfl dX7_putIn_0 ?_
  refine x_getI (pc := 1) (v := (l.length : Int)) hX fl_X7_63 hK.1 rfl hL.1 dX7_putIn_1 ?_
  refine x_iconst (pc := 4) hX dX7_putIn_4 ?_
  refine x_isub (pc := 5) hX dX7_putIn_5 rfl ?_
  refine x_istore (pc := 6) hX (by decide) rfl rfl dX7_putIn_6 ?_
  exact loop1 (l.length + 1) l.length M (by omega) hr (by omega) hL.2.2 (fun i h5 h6 => absurd h6 (by omega)) Chg.rf

set_option maxHeartbeats 4000000 in
set_option maxRecDepth 100000 in
theorem tX7_record {G : XG} {κ : XKs} {M : XM} {hs : Nat} (hK : KM κ hs) {cs : Cs} (hS : MS (M 141) 0 cs) {h : List Cs} (hH : HM M h) : XC G mX7_record 1 0 0 [xR 140] κ M hs (pV κ hs (fun M' => HM M' (pushH h cs) ∧ Chg PH M M')) := by
  refine XC.intro cdX7_record (by decide) (by decide) (Nat.le_of_ble_eq_true rfl) (loc := [some (xR 140), none]) rfl (fun X hX => ?_)
  have half : ∀ (h1 : List Cs) (M1 : XM) (z : Option XV), M1 140 2 = (h1.length : Int) → h1.length ≤ 5 → (∀ (i : Nat) (hi : i < h1.length), MS (M1 142) (324 * i) h1[i]) → MS (M1 141) 0 cs → Chg PH M M1 → h1 ++ [cs] = pushH h cs → XW G X mX7_record (xq G (pV κ hs (fun M' => HM M' (pushH h cs) ∧ Chg PH M M')) 0 0 X) 0 0 50 [some (xR 140), z] [] κ M1 hs := by
    intro h1 M1 z hr1 hl5 hs1 hS1 hc1 hpu
    rw [← hpu]
    refine x_aload_n (pc := 50) hX rfl rfl dX7_record_50 ?_
    refine x_getR (pc := 51) hX fl_X7_7 hK.1 rfl dX7_record_51 ?_
    refine x_iconst (pc := 54) hX dX7_record_54 ?_
    refine x_aload_n (pc := 55) hX rfl rfl dX7_record_55 ?_
    refine x_getR (pc := 56) hX fl_X7_13 hK.1 rfl dX7_record_56 ?_
    refine x_aload_n (pc := 59) hX rfl rfl dX7_record_59 ?_
    refine x_getI (pc := 60) (v := (h1.length : Int)) hX fl_X7_40 hK.1 rfl hr1 dX7_record_60 ?_
    refine x_sipush (pc := 63) hX (by decide) dX7_record_63 ?_
    refine x_imul (pc := 66) (v := ((h1.length * 324 : Nat) : Int)) hX dX7_record_66 (by omega) ?_
    refine x_cS_V (pc := 67) hX (tX7_moves hK.2.1 hK.2.2.1 (by decide) 0 (h1.length * 324) (by decide) (by omega) (by decide) (by decide)) lk_X7_44 rfl rfl (Nat.le_of_ble_eq_true rfl) (by decide) (Nat.zero_le _) (Nat.zero_le _) dX7_record_67 (fun M2 hp => ?_)
    obtain ⟨hp1, hp2, hp3⟩ := hp
    refine x_aload_n (pc := 70) hX rfl rfl dX7_record_70 ?_
    refine x_dup (pc := 71) hX rfl dX7_record_71 ?_
    refine x_getI (pc := 72) (v := (h1.length : Int)) hX fl_X7_40 hK.1 rfl ((congrFun (hp3 140 (by decide)) 2).trans hr1) dX7_record_72 ?_
    refine x_iconst (pc := 75) hX dX7_record_75 ?_
    refine x_iadd (pc := 76) (v := ((h1.length + 1 : Nat) : Int)) hX dX7_record_76 (by omega) ?_
    refine x_putI (pc := 77) hX fl_X7_40 hK.1 rfl rfl rfl dX7_record_77 ?_
    refine x_vret (pc := 80) hX rfl (Nat.zero_le _) (Nat.zero_le _) dX7_record_80 ?_
    refine pV_i ⟨⟨by rw [mp_eq, List.length_append]; rfl, by rw [List.length_append]; show h1.length + 1 ≤ 6; omega, fun i hi => ?_⟩, (hc1.tr (fun q f => ?_)).tr (Chg.put (Or.inr ⟨rfl, rfl⟩))⟩
    · rw [mput_ne _ _ _ (by decide)]
      rw [List.length_append] at hi
      by_cases e : i = h1.length
      · subst e
        rw [List.getElem_append_right (Nat.le_refl _)]
        simp only [Nat.sub_self, List.getElem_cons_zero]
        refine hS1.congr (fun j hj => ?_)
        rw [Nat.mul_comm, Nat.zero_add, hp1 j hj, Nat.zero_add]
      · have hi2 : i < h1.length := Nat.lt_of_le_of_ne (Nat.le_of_lt_succ hi) e
        rw [List.getElem_append_left hi2]
        exact (hs1 i hi2).congr (fun j hj => hp2 _ (by omega))
    · by_cases e : q = 142
      · exact Or.inl (Or.inl e)
      · exact Or.inr (by rw [hp3 q e])
  have loop : ∀ (n k : Nat) (M1 : XM), k ≤ 1620 → 1620 < k + n → (∀ j, j < k → M1 142 j = M 142 (j + 324)) → (∀ j, k ≤ j → M1 142 j = M 142 j) → (∀ q, q ≠ 142 → M1 q = M q) → h.length = 6 → XW G X mX7_record (xq G (pV κ hs (fun M' => HM M' (pushH h cs) ∧ Chg PH M M')) 0 0 X) 0 0 11 [some (xR 140), some (xI (k : Int))] [] κ M1 hs := by
    intro n
    induction n with
    | zero => intro k M1 h1 h2; omega
    | succ n ih =>
      intro k M1 h1 h2 ha1 hb1 hq1 hl6
      refine x_iload_n (pc := 11) hX rfl rfl dX7_record_11 ?_
      refine x_sipush (pc := 12) hX (by decide) dX7_record_12 ?_
      refine x_icmp_ge (pc := 15) (tgt := 40) hX dX7_record_15 (by decide) (by omega) (fun h15 => ?_) (fun h15 => ?_)
      · obtain rfl : k = 1620 := by omega
        refine x_aload_n (pc := 40) hX rfl rfl dX7_record_40 ?_
        refine x_dup (pc := 41) hX rfl dX7_record_41 ?_
        refine x_getI (pc := 42) (v := (h.length : Int)) hX fl_X7_40 hK.1 rfl ((congrFun (hq1 140 (by decide)) 2).trans hH.1) dX7_record_42 ?_
        refine x_iconst (pc := 45) hX dX7_record_45 ?_
        refine x_isub (pc := 46) (v := ((h.drop 1).length : Int)) hX dX7_record_46 (by rw [List.length_drop]; omega) ?_
        refine x_putI (pc := 47) hX fl_X7_40 hK.1 rfl rfl rfl dX7_record_47 ?_
        have hdl : (h.drop 1).length = 5 := by rw [List.length_drop]; omega
        refine half (h.drop 1) _ _ (mp_eq _ _ _ _) (by omega) (fun i hi => ?_) (by rw [mput_ne _ _ _ (by decide), hq1 141 (by decide)]; exact hS) (fun q f => ?_) (by unfold pushH; rw [if_neg (by omega)])
        · rw [mput_ne _ _ _ (by decide), List.getElem_drop]
          refine (hH.2.2 (1 + i) (by omega)).congr (fun j hj => ?_)
          rw [ha1 _ (by omega)]
          congr 1
          omega
        · by_cases e : q = 142
          · exact Or.inl (Or.inl e)
          · rw [mp_at]
            by_cases e2 : q = 140 ∧ f = 2
            · exact Or.inl (Or.inr e2)
            · rw [if_neg e2, hq1 q e]
              exact Or.inr rfl
      · have hk : k < 1620 := by omega
        refine x_aload_n (pc := 18) hX rfl rfl dX7_record_18 ?_
        refine x_getR (pc := 19) hX fl_X7_13 hK.1 rfl dX7_record_19 ?_
        refine x_iload_n (pc := 22) hX rfl rfl dX7_record_22 ?_
        refine x_aload_n (pc := 23) hX rfl rfl dX7_record_23 ?_
        refine x_getR (pc := 24) hX fl_X7_13 hK.1 rfl dX7_record_24 ?_
        refine x_iload_n (pc := 27) hX rfl rfl dX7_record_27 ?_
        refine x_sipush (pc := 28) hX (by decide) dX7_record_28 ?_
        refine x_iadd (pc := 31) hX dX7_record_31 rfl ?_
        refine x_iald (pc := 32) (j := k + 324) hX hK.2.2.1 (by omega) (by omega) (by decide) rfl dX7_record_32 ?_
        refine x_iast (pc := 33) (j := k) hX hK.2.2.1 (by omega) (by omega) (by decide) dX7_record_33 ?_
        refine x_iinc (pc := 34) (v := ((k + 1 : Nat) : Int)) hX dX7_record_34 rfl (by decide) rfl (by omega) rfl ?_
        refine x_goto (pc := 37) (tgt := 11) hX dX7_record_37 (by decide) ?_
        refine ih (k + 1) _ (by omega) (by omega) (fun j hj => ?_) (fun j hj => ?_) (fun q hq => by rw [mput_ne _ _ _ hq]; exact hq1 q hq) hl6
        · by_cases e : j = k
          · subst e
            rw [mp_eq]
            exact hb1 _ (by omega)
          · rw [mp_ne _ _ (by omega)]
            exact ha1 j (by omega)
        · rw [mp_ne _ _ (by omega)]
          exact hb1 j (by omega)
  refine x_aload_n (pc := 0) hX rfl rfl dX7_record_0 ?_
  refine x_getI (pc := 1) (v := (h.length : Int)) hX fl_X7_40 hK.1 rfl hH.1 dX7_record_1 ?_
  refine x_bipush (pc := 4) hX (by decide) dX7_record_4 ?_
  refine x_icmp_ne (pc := 6) (tgt := 50) hX dX7_record_6 (by decide) (by have := hH.2.1; omega) (fun h6 => ?_) (fun h6 => ?_)
  · exact half h M _ hH.1 (by have := hH.2.1; omega) hH.2.2 hS Chg.rf (by unfold pushH; rw [if_pos (by have := hH.2.1; omega)])
  · refine x_iconst (pc := 9) hX dX7_record_9 ?_
    refine x_istore_n (pc := 10) hX rfl (by decide) rfl rfl dX7_record_10 ?_
    exact loop 1621 0 M (by omega) (by omega) (fun j hj => absurd hj (Nat.not_lt_zero _)) (fun j _ => rfl) (fun q _ => rfl) (by omega)

