/-! the model: joins, what if -/
theorem chr_le9 {l : List Nat} (h : ∀ v ∈ l, v ≤ 9) (i : Nat) : chr l i ≤ 9 := by
  rcases Nat.lt_or_ge i l.length with g | g
  · exact h _ (chr_mem g)
  · rw [chr_ge g]
    exact Nat.zero_le _
def fpI (A B : List Nat) (k : Nat) : Int := if k ≠ 0 ∧ chr A k = chr A (k - 1) ∧ chr B k = chr B (k - 1) then 0 else 1
theorem fpI_same {A B : List Nat} {k : Nat} (h : sameP A B k) : fpI A B k = 0 := if_pos h
theorem fpI_new {A B : List Nat} {k : Nat} (h : ¬ sameP A B k) : fpI A B k = 1 := if_neg h
theorem zr_eq (l1 l2 : List Nat) : zr (enc l1) (enc l2) = enc (l1.zip l2) := by
  have h := zr_enc _ (enc l1) (enc l2) (Nat.le_refl _) (can_enc _) (can_enc _)
  rw [rows_enc, rows_enc] at h
  exact h.symm
theorem pair_at {A B : List Nat} {p : Nat} (h : p < (enc (A.zip B)).length) : ∃ x : (Nat × Nat) × Nat, (enc (A.zip B))[p]? = some x ∧ tot ((enc (A.zip B)).take p) < A.length ∧ tot ((enc (A.zip B)).take p) < B.length ∧ chr A (tot ((enc (A.zip B)).take p)) = x.1.1 ∧ chr B (tot ((enc (A.zip B)).take p)) = x.1.2 ∧ lenOf (enc (A.zip B)) p = (x.2 : Int) := by
  have h1 := List.getElem?_eq_getElem h
  have h2 := (can_enc (A.zip B)).2 _ (List.getElem_mem h)
  have h3 := rows_at (enc (A.zip B)) p _ h1 h2
  rw [rows_enc] at h3
  have h4 := zip_at (a := ((enc (A.zip B))[p]).1.1) (b := ((enc (A.zip B))[p]).1.2) h3
  refine ⟨(enc (A.zip B))[p], h1, h4.1, h4.2.1, h4.2.2.1, h4.2.2.2, ?_⟩
  unfold lenOf
  rw [h1]
theorem aPairW_some {P : Rp} {p : Nat} {w : Int} {x : (Nat × Nat) × Nat} (h : P[p]? = some x) : aPairW P p w = if w = 0 then (x.1.1 : Int) else if w = 1 then (x.1.2 : Int) else if w = 2 then (x.2 : Int) else if w = 3 then (tot (P.take p) : Int) else -2 := by
  unfold aPairW
  rw [h]
theorem aPairW_none {P : Rp} {p : Nat} {w : Int} (h : P.length ≤ p) : aPairW P p w = -1 := by
  unfold aPairW
  rw [List.getElem?_eq_none h]
def aJ (A B : List Nat) (w : Int) : Int := if w = 0 then ((min A.length B.length : Nat) : Int) else if w = 1 then ((enc (A.zip B)).length : Int) else if w = 2 then cAl (A.zip B) else if w = 3 then cSm (A.zip B) else uq (mkR (fun _ => 0) (A.zip B))
theorem joined_aJ {cs : Cs} {a b w : Int} (h1 : (0 ≤ a ∧ a < 4) ∧ 0 ≤ b ∧ b < 4) (h2 : 0 ≤ w ∧ w ≤ 4) : aJoined cs a b w = aJ (cs a.toNat) (cs b.toNat) w := by
  unfold aJoined aJ
  rw [if_neg (fun z => z h1), zr_eq, gAl_rows, gSm_rows, rows_enc, gMk_rows _ _ (can_enc _).2, rows_enc, Int.zero_add, Int.zero_add]
  by_cases g0 : w = 0
  · rw [if_pos g0, if_pos g0]
  · by_cases g1 : w = 1
    · rw [if_neg g0, if_neg g0, if_pos g1, if_pos g1]
    · by_cases g2 : w = 2
      · rw [if_neg g0, if_neg g0, if_neg g1, if_neg g1, if_pos g2, if_pos g2]
      · by_cases g3 : w = 3
        · rw [if_neg g0, if_neg g0, if_neg g1, if_neg g1, if_neg g2, if_neg g2, if_pos g3, if_pos g3]
        · rw [if_neg g0, if_neg g0, if_neg g1, if_neg g1, if_neg g2, if_neg g2, if_neg g3, if_neg g3, if_pos (by omega)]
          rfl
theorem joined_no {cs : Cs} {a b w : Int} (h1 : (0 ≤ a ∧ a < 4) ∧ 0 ≤ b ∧ b < 4) (h2 : ¬ (0 ≤ w ∧ w ≤ 4)) : aJoined cs a b w = -2 := by
  unfold aJoined
  rw [if_neg (fun z => z h1), if_neg (by omega), if_neg (by omega), if_neg (by omega), if_neg (by omega), if_neg (by omega)]
theorem asets_rng2 {L : Ru} (h : L.length ≤ 40) (r : Nat) (v : Int) : -2 ≤ asets L r v ∧ asets L r v ≤ 42 := by
  unfold asets
  repeat' split
  all_goals omega
def bqI (L : Ru) (v : Int) (k : Nat) (b lst : Int) : Prop := (k = 0 ∧ b = -6) ∨ (0 < k ∧ b = ((bq L v k).1 : Int) ∧ lst = (bq L v k).2)
theorem bq_le (L : Ru) (v : Int) : ∀ k, (bq L v k).1 ≤ k ∧ (bq L v k).2 = asets L (bq L v k).1 v
  | 0 => ⟨Nat.le_refl _, rfl⟩
  | k + 1 => by
    have ih := bq_le L v k
    rw [bq]
    unfold best1
    split
    · exact ⟨Nat.le_succ k, rfl⟩
    · exact ⟨Nat.le_succ_of_le ih.1, ih.2⟩
theorem bqI_upd {L : Ru} {v : Int} {k : Nat} {b lst : Int} (h : bqI L v k b lst) : ((b = -6 ∨ asets L k v < lst) → bqI L v (k + 1) (k : Int) (asets L k v)) ∧ (¬ (b = -6 ∨ asets L k v < lst) → bqI L v (k + 1) b lst) := by
  rcases h with ⟨rfl, h⟩ | ⟨h0, h1, h2⟩
  · refine ⟨fun _ => Or.inr ⟨Nat.zero_lt_succ _, ?_⟩, fun z => absurd (Or.inl h) z⟩
    rw [bq, bq]
    unfold best1
    rw [if_neg (Int.lt_irrefl _)]
    exact ⟨rfl, rfl⟩
  · refine ⟨fun z => Or.inr ⟨Nat.zero_lt_succ _, ?_⟩, fun z => Or.inr ⟨Nat.zero_lt_succ _, ?_⟩⟩
    · rw [bq]
      unfold best1
      rw [if_pos (by omega)]
      exact ⟨rfl, rfl⟩
    · rw [bq]
      unfold best1
      rw [if_neg (by omega)]
      exact ⟨h1, h2⟩
theorem sumTo_s (f : Nat → Int) (n : Nat) : sumTo f (n + 1) = sumTo f n + f n := rfl
def P48 (q _f : Nat) : Prop := q = 148
theorem P48.ps {q f : Nat} (h : P48 q f) : PS q f := by unfold P48 at h; unfold PS; omega
def Tb (M : XM) (mk : Nat → Nat) : Prop := ∀ v u, v ≤ 9 → u ≤ 9 → M 148 (10 * v + u) = ((mk v / 2 ^ u % 2 : Nat) : Int)
theorem Tb.up {M : XM} {mk : Nat → Nat} (h : Tb M mk) {a b : Nat} (ha : a ≤ 9) (hb : b ≤ 9) : Tb (mput M 148 (10 * a + b) 1) (upB mk a b) := by
  intro v u hv hu
  unfold upB
  by_cases e : v = a
  · rw [if_pos e, bit_or]
    by_cases e2 : u = b
    · rw [if_pos e2, e, e2, mp_eq]
      rfl
    · rw [if_neg e2, mp_ne _ _ (by omega)]
      have := h v u hv hu
      rw [this, e]
  · rw [if_neg e, mp_ne _ _ (by omega)]
    exact h v u hv hu
theorem Tb.zero {M : XM} (h : ∀ i, i < 100 → M 148 i = 0) : Tb M (fun _ => 0) := by
  intro v u hv hu
  rw [h _ (by omega), Nat.zero_div]
  rfl
theorem best_at {cs : Cs} {c v w best least : Int} (hc : 0 ≤ c ∧ c < 4) (hv : 0 ≤ v ∧ v ≤ 9) (hw : 0 ≤ w ∧ w ≤ 1) (hI : bqI (enc (cs c.toNat)) v (cs c.toNat).length best least) : aBest cs c v w = if best = -6 ∨ w = 0 then best else least := by
  unfold aBest
  rw [if_neg (fun z => z hc), if_neg (fun z => z ⟨hv, hw⟩)]
  rcases hI with ⟨h0, h1⟩ | ⟨h0, h1, h2⟩
  · rw [if_pos h0, if_pos (Or.inl h1), h1]
  · rw [if_neg (by omega), fBest_eq]
    have h3 := bq_le (enc (cs c.toNat)) v (cs c.toNat).length
    by_cases g : w = 0
    · rw [if_pos g, if_pos (Or.inr g), h1]
    · rw [if_neg g, if_neg (by omega), h2]
      exact h3.2.symm
set_option maxHeartbeats 4000000 in
set_option maxRecDepth 100000 in
theorem tX7_isFirstPair {G : XG} {κ : XKs} {M : XM} {hs : Nat} (hK : KM κ hs) {A B : List Nat} (hL : Lay M A) (hO : LaO M B) (hA : ∀ v ∈ A, v ≤ 9) (hB : ∀ v ∈ B, v ≤ 9) (k : Nat) (hk1 : k < A.length) (hk2 : k < B.length) : XC G mX7_isFirstPair 0 0 0 [xR 140, xI (k : Int)] κ M hs (pP κ M hs (xI (fpI A B k))) := by
  refine XC.intro cdX7_isFirstPair (by decide) (by decide) (Nat.le_of_ble_eq_true rfl) (loc := [some (xR 140), some (xI (k : Int))]) rfl (fun X hX => ?_)
  have hl1 := hL.2.1
  have hl2 := hO.2.1
  have v1 := chr_le9 hA k
  have v2 := chr_le9 hA (k - 1)
  have v3 := chr_le9 hB k
  have v4 := chr_le9 hB (k - 1)
  refine x_iload_n (pc := 0) hX rfl rfl dX7_isFirstPair_0 ?_
  refine x_if_eq (pc := 1) (tgt := 38) hX dX7_isFirstPair_1 (by decide) (by omega) (fun h1 => ?_) (fun h1 => ?_)
  · refine x_iconst (pc := 38) hX dX7_isFirstPair_38 ?_
    refine x_goto (pc := 39) (tgt := 43) hX dX7_isFirstPair_39 (by decide) ?_
    refine x_zret (pc := 43) hX rfl (xn_bool (by omega)) (Nat.zero_le _) (Nat.zero_le _) dX7_isFirstPair_43 ?_
    exact pP_i (congrArg xI (by unfold fpI; first | rw [if_pos (by omega)] | rw [if_neg (by omega)]))
  · refine x_aload_n (pc := 4) hX rfl rfl dX7_isFirstPair_4 ?_
    refine x_getR (pc := 5) hX fl_X7_25 hK.1 rfl dX7_isFirstPair_5 ?_
    refine x_iload_n (pc := 8) hX rfl rfl dX7_isFirstPair_8 ?_
    refine x_iald (pc := 9) (j := k) (v := (chr A k : Int)) hX hK.2.2.2.2.2.2.1 (by omega) (by omega) (by decide) (hL.2.2 k hk1) dX7_isFirstPair_9 ?_
    refine x_aload_n (pc := 10) hX rfl rfl dX7_isFirstPair_10 ?_
    refine x_getR (pc := 11) hX fl_X7_25 hK.1 rfl dX7_isFirstPair_11 ?_
    refine x_iload_n (pc := 14) hX rfl rfl dX7_isFirstPair_14 ?_
    refine x_iconst (pc := 15) hX dX7_isFirstPair_15 ?_
    refine x_isub (pc := 16) hX dX7_isFirstPair_16 rfl ?_
    refine x_iald (pc := 17) (j := k - 1) (v := (chr A (k - 1) : Int)) hX hK.2.2.2.2.2.2.1 (by omega) (by omega) (by decide) (hL.2.2 _ (by omega)) dX7_isFirstPair_17 ?_
    refine x_icmp_ne (pc := 18) (tgt := 38) hX dX7_isFirstPair_18 (by decide) (by omega) (fun h18 => ?_) (fun h18 => ?_)
    · refine x_iconst (pc := 38) hX dX7_isFirstPair_38 ?_
      refine x_goto (pc := 39) (tgt := 43) hX dX7_isFirstPair_39 (by decide) ?_
      refine x_zret (pc := 43) hX rfl (xn_bool (by omega)) (Nat.zero_le _) (Nat.zero_le _) dX7_isFirstPair_43 ?_
      exact pP_i (congrArg xI (by unfold fpI; first | rw [if_pos (by omega)] | rw [if_neg (by omega)]))
    · refine x_aload_n (pc := 21) hX rfl rfl dX7_isFirstPair_21 ?_
      refine x_getR (pc := 22) hX fl_X7_28 hK.1 rfl dX7_isFirstPair_22 ?_
      refine x_iload_n (pc := 25) hX rfl rfl dX7_isFirstPair_25 ?_
      refine x_iald (pc := 26) (j := k) (v := (chr B k : Int)) hX hK.2.2.2.2.2.2.2.1 (by omega) (by omega) (by decide) (hO.2.2 k hk2) dX7_isFirstPair_26 ?_
      refine x_aload_n (pc := 27) hX rfl rfl dX7_isFirstPair_27 ?_
      refine x_getR (pc := 28) hX fl_X7_28 hK.1 rfl dX7_isFirstPair_28 ?_
      refine x_iload_n (pc := 31) hX rfl rfl dX7_isFirstPair_31 ?_
      refine x_iconst (pc := 32) hX dX7_isFirstPair_32 ?_
      refine x_isub (pc := 33) hX dX7_isFirstPair_33 rfl ?_
      refine x_iald (pc := 34) (j := k - 1) (v := (chr B (k - 1) : Int)) hX hK.2.2.2.2.2.2.2.1 (by omega) (by omega) (by decide) (hO.2.2 _ (by omega)) dX7_isFirstPair_34 ?_
      refine x_icmp_eq (pc := 35) (tgt := 42) hX dX7_isFirstPair_35 (by decide) (by omega) (fun h35 => ?_) (fun h35 => ?_)
      · refine x_iconst (pc := 42) hX dX7_isFirstPair_42 ?_
        refine x_zret (pc := 43) hX rfl (xn_bool (by omega)) (Nat.zero_le _) (Nat.zero_le _) dX7_isFirstPair_43 ?_
        exact pP_i (congrArg xI (by unfold fpI; first | rw [if_pos (by omega)] | rw [if_neg (by omega)]))
      · refine x_iconst (pc := 38) hX dX7_isFirstPair_38 ?_
        refine x_goto (pc := 39) (tgt := 43) hX dX7_isFirstPair_39 (by decide) ?_
        refine x_zret (pc := 43) hX rfl (xn_bool (by omega)) (Nat.zero_le _) (Nat.zero_le _) dX7_isFirstPair_43 ?_
        exact pP_i (congrArg xI (by unfold fpI; first | rw [if_pos (by omega)] | rw [if_neg (by omega)]))

set_option maxHeartbeats 4000000 in
set_option maxRecDepth 100000 in
theorem tX7_pair {G : XG} {κ : XKs} {M : XM} {hs : Nat} (hK : KM κ hs) {S : Sx} (hS : RM M S) (a b p w : Int) (ha : InR a) (hb : InR b) (hp : InR p) (hw : InR w) {R : Int} (hR : aPair S.1 a b p w = R) : XC G mX7_pair 3 0 0 [xR 140, xI a, xI b, xI p, xI w] κ M hs (pI κ hs (fun x M' => x = R ∧ RM M' S ∧ Chg PA M M')) := by
  refine XC.intro cdX7_pair (by decide) (by decide) (Nat.le_of_ble_eq_true rfl) (loc := [some (xR 140), some (xI a), some (xI b), some (xI p), some (xI w), none, none, none, none, none, none]) rfl (fun X hX => ?_)
  have ha0 := ha
  have hb0 := hb
  have hp0 := hp
  have hw0 := hw
  unfold InR at ha0 hb0 hp0 hw0
  refine x_iload_n (pc := 0) hX rfl rfl dX7_pair_0 ?_
  refine x_cS_P (pc := 1) hX (tX7_isColumn a ha) lk_X7_76 rfl rfl (Nat.le_of_ble_eq_true rfl) (by decide) (Nat.zero_le _) (Nat.zero_le _) dX7_pair_1 ?_
  by_cases hca1 : 0 ≤ a ∧ a ≤ 3
  · rw [if_pos hca1]
    refine x_if_eq (pc := 4) (tgt := 18) hX dX7_pair_4 (by decide) (by omega) (fun h4 => ?_) (fun h4 => ?_)
    · exfalso; omega
    · refine x_iload_n (pc := 7) hX rfl rfl dX7_pair_7 ?_
      refine x_cS_P (pc := 8) hX (tX7_isColumn b hb) lk_X7_76 rfl rfl (Nat.le_of_ble_eq_true rfl) (by decide) (Nat.zero_le _) (Nat.zero_le _) dX7_pair_8 ?_
      by_cases hcb8 : 0 ≤ b ∧ b ≤ 3
      · rw [if_pos hcb8]
        have hoka := hS.ok (c := a.toNat) (by omega)
        have hokb := hS.ok (c := b.toNat) (by omega)
        have hfa := hoka.1
        have hfb := hokb.1
        unfold fit at hfa hfb
        refine x_if_eq (pc := 11) (tgt := 18) hX dX7_pair_11 (by decide) (by omega) (fun h11 => ?_) (fun h11 => ?_)
        · exfalso; omega
        · refine x_iload_n (pc := 14) hX rfl rfl dX7_pair_14 ?_
          refine x_if_ge (pc := 15) (tgt := 20) hX dX7_pair_15 (by decide) (by omega) (fun h15 => ?_) (fun h15 => ?_)
          · refine x_aload_n (pc := 20) hX rfl rfl dX7_pair_20 ?_
            refine x_iload_n (pc := 21) hX rfl rfl dX7_pair_21 ?_
            refine x_iload_n (pc := 22) hX rfl rfl dX7_pair_22 ?_
            refine x_top2 (congrArg xI (show a = ((a.toNat : Nat) : Int) by omega)) ?_
            refine x_top (congrArg xI (show b = ((b.toNat : Nat) : Int) by omega)) ?_
            refine x_cV_I (pc := 23) hX (tX7_layOutBoth hK hS.1 a.toNat b.toNat (by omega) (by omega)) hK.1 rfl lk_X7_124 rfl rfl (Nat.le_of_ble_eq_true rfl) (by decide) (Nat.zero_le _) (Nat.zero_le _) dX7_pair_23 (fun x M1 hp => ?_)
            obtain ⟨rfl, hL1, hO1, hq1⟩ := hp
            have hl1 := hL1.2.1
            have hl2 := hO1.2.1
            have loop : ∀ (n k : Nat) (z : Option XV) (left fr ln : Int), k ≤ (min (S.1 a.toNat).length (S.1 b.toNat).length) → (min (S.1 a.toNat).length (S.1 b.toNat).length) < k + n → left = p - ((enc (((S.1 a.toNat).zip (S.1 b.toNat)).take (k))).length : Int) → fr = fromOf (enc (((S.1 a.toNat).zip (S.1 b.toNat)).take (k))) p.toNat → ln = lenOf (enc (((S.1 a.toNat).zip (S.1 b.toNat)).take (k))) p.toNat → XW G X mX7_pair (xq G (pI κ hs (fun x M' => x = R ∧ RM M' S ∧ Chg PA M M')) 0 0 X) 0 0 41 [some (xR 140), some (xI a), some (xI b), some (xI p), some (xI w), some (xI ((min (S.1 a.toNat).length (S.1 b.toNat).length) : Nat)), some (xI left), some (xI fr), some (xI ln), some (xI (k : Int)), z] [] κ M1 hs := by
              intro n
              induction n with
              | zero => intro k z left fr ln h1 h2; omega
              | succ n ih =>
                intro k z left fr ln h1 h2 hlf hfr hln
                refine x_iload (pc := 41) hX rfl dX7_pair_41 ?_
                refine x_iload (pc := 43) hX rfl dX7_pair_43 ?_
                refine x_icmp_ge (pc := 45) (tgt := 112) hX dX7_pair_45 (by decide) (by omega) (fun h45 => ?_) (fun h45 => ?_)
                · obtain rfl : k = (min (S.1 a.toNat).length (S.1 b.toNat).length) := by omega
                  rw [← List.length_zip, List.take_length] at hlf hfr hln
                  have hz80 : (enc ((S.1 a.toNat).zip (S.1 b.toNat))).length ≤ 80 := by
                    rw [← zr_eq]
                    exact zr_len 80 _ _ (by omega)
                  by_cases hpp : p.toNat < (enc ((S.1 a.toNat).zip (S.1 b.toNat))).length
                  · obtain ⟨x, x1, x2, x3, x4, x5, x6⟩ := pair_at hpp
                    have hfr2 : fr = (tot ((enc ((S.1 a.toNat).zip (S.1 b.toNat))).take p.toNat) : Int) := by rw [hfr]; exact if_pos hpp
                    have hln2 : ln = (x.2 : Int) := hln.trans x6
                    have hRR : aPair S.1 a b p w = if w = 0 then (x.1.1 : Int) else if w = 1 then (x.1.2 : Int) else if w = 2 then (x.2 : Int) else if w = 3 then (tot ((enc ((S.1 a.toNat).zip (S.1 b.toNat))).take p.toNat) : Int) else -2 := by
                      unfold aPair
                      rw [if_neg (by omega), zr_eq, aPairW_some x1]
                    generalize htt : tot ((enc ((S.1 a.toNat).zip (S.1 b.toNat))).take p.toNat) = t at x2 x3 x4 x5 hfr2 hRR
                    refine x_iload (pc := 112) hX rfl dX7_pair_112 ?_
                    refine x_bipush (pc := 114) hX (by decide) dX7_pair_114 ?_
                    refine x_icmp_ne (pc := 116) (tgt := 121) hX dX7_pair_116 (by decide) (by omega) (fun h116 => ?_) (fun h116 => ?_)
                    · refine x_iload (pc := 121) hX rfl dX7_pair_121 ?_
                      rcases (show (w < 0 ∨ 3 < w) ∨ w = 0 ∨ w = 1 ∨ w = 2 ∨ w = 3 by omega) with hsw | hsw | hsw | hsw | hsw
                      · refine x_tswOut (pc := 123) (tgt := 174) hX dX7_pair_123 (by omega) hsw (by decide) ?_
                        refine x_bipush (pc := 174) hX (by decide) dX7_pair_174 ?_
                        refine x_iret (pc := 176) hX rfl (Nat.zero_le _) (Nat.zero_le _) dX7_pair_176 ?_
                        refine pI_i ⟨?_, hS.scr (hq1.mono (fun q f => PB.ps)), hq1.mono (fun q f z => z.ps.pa)⟩
                        rw [← hR, hRR]
                        first | done | omega | (repeat' split) <;> omega
                      · refine x_tswIn (pc := 123) (off := 29) (tgt := 152) hX dX7_pair_123 (by omega) (by omega) (by rw [hsw]; rfl) (by decide) ?_
                        refine x_aload_n (pc := 152) hX rfl rfl dX7_pair_152 ?_
                        refine x_getR (pc := 153) hX fl_X7_25 hK.1 rfl dX7_pair_153 ?_
                        refine x_iload (pc := 156) hX rfl dX7_pair_156 ?_
                        refine x_iald (pc := 158) (j := t) (v := (chr (S.1 a.toNat) t : Int)) hX hK.2.2.2.2.2.2.1 (by omega) (by omega) (by decide) (hL1.2.2 t x2) dX7_pair_158 ?_
                        refine x_iret (pc := 159) hX rfl (Nat.zero_le _) (Nat.zero_le _) dX7_pair_159 ?_
                        refine pI_i ⟨?_, hS.scr (hq1.mono (fun q f => PB.ps)), hq1.mono (fun q f z => z.ps.pa)⟩
                        rw [← hR, hRR]
                        first | done | omega | (repeat' split) <;> omega
                      · refine x_tswIn (pc := 123) (off := 37) (tgt := 160) hX dX7_pair_123 (by omega) (by omega) (by rw [hsw]; rfl) (by decide) ?_
                        refine x_aload_n (pc := 160) hX rfl rfl dX7_pair_160 ?_
                        refine x_getR (pc := 161) hX fl_X7_28 hK.1 rfl dX7_pair_161 ?_
                        refine x_iload (pc := 164) hX rfl dX7_pair_164 ?_
                        refine x_iald (pc := 166) (j := t) (v := (chr (S.1 b.toNat) t : Int)) hX hK.2.2.2.2.2.2.2.1 (by omega) (by omega) (by decide) (hO1.2.2 t x3) dX7_pair_166 ?_
                        refine x_iret (pc := 167) hX rfl (Nat.zero_le _) (Nat.zero_le _) dX7_pair_167 ?_
                        refine pI_i ⟨?_, hS.scr (hq1.mono (fun q f => PB.ps)), hq1.mono (fun q f z => z.ps.pa)⟩
                        rw [← hR, hRR]
                        first | done | omega | (repeat' split) <;> omega
                      · refine x_tswIn (pc := 123) (off := 45) (tgt := 168) hX dX7_pair_123 (by omega) (by omega) (by rw [hsw]; rfl) (by decide) ?_
                        refine x_iload (pc := 168) hX rfl dX7_pair_168 ?_
                        refine x_iret (pc := 170) hX rfl (Nat.zero_le _) (Nat.zero_le _) dX7_pair_170 ?_
                        refine pI_i ⟨?_, hS.scr (hq1.mono (fun q f => PB.ps)), hq1.mono (fun q f z => z.ps.pa)⟩
                        rw [← hR, hRR]
                        first | done | omega | (repeat' split) <;> omega
                      · refine x_tswIn (pc := 123) (off := 48) (tgt := 171) hX dX7_pair_123 (by omega) (by omega) (by rw [hsw]; rfl) (by decide) ?_
                        refine x_iload (pc := 171) hX rfl dX7_pair_171 ?_
                        refine x_iret (pc := 173) hX rfl (Nat.zero_le _) (Nat.zero_le _) dX7_pair_173 ?_
                        refine pI_i ⟨?_, hS.scr (hq1.mono (fun q f => PB.ps)), hq1.mono (fun q f z => z.ps.pa)⟩
                        rw [← hR, hRR]
                        first | done | omega | (repeat' split) <;> omega
                    · exfalso; omega
                  · have hfr2 : fr = -6 := by rw [hfr]; exact if_neg hpp
                    have hRR : aPair S.1 a b p w = -1 := by
                      unfold aPair
                      by_cases g8 : p < 80
                      · rw [if_neg (by omega), zr_eq, aPairW_none (by omega)]
                      · rw [if_pos (by omega)]
                    refine x_iload (pc := 112) hX rfl dX7_pair_112 ?_
                    refine x_bipush (pc := 114) hX (by decide) dX7_pair_114 ?_
                    refine x_icmp_ne (pc := 116) (tgt := 121) hX dX7_pair_116 (by decide) (by omega) (fun h116 => ?_) (fun h116 => ?_)
                    · exfalso; omega
                    · refine x_iconst (pc := 119) hX dX7_pair_119 ?_
                      refine x_iret (pc := 120) hX rfl (Nat.zero_le _) (Nat.zero_le _) dX7_pair_120 ?_
                      refine pI_i ⟨?_, hS.scr (hq1.mono (fun q f => PB.ps)), hq1.mono (fun q f z => z.ps.pa)⟩
                      rw [← hR, hRR]
                · have hkm : k < (min (S.1 a.toNat).length (S.1 b.toNat).length) := by omega
                  have hka : k < (S.1 a.toNat).length := by omega
                  have hkb : k < (S.1 b.toNat).length := by omega
                  have ht : tot (enc (((S.1 a.toNat).zip (S.1 b.toNat)).take (k))) = k := by rw [tot_enc, List.length_take, List.length_zip]; omega
                  have hel := enc_len_le (((S.1 a.toNat).zip (S.1 b.toNat)).take k)
                  have hel2 : (((S.1 a.toNat).zip (S.1 b.toNat)).take k).length ≤ k := by rw [List.length_take]; omega
                  refine x_aload_n (pc := 48) hX rfl rfl dX7_pair_48 ?_
                  refine x_iload (pc := 49) hX rfl dX7_pair_49 ?_
                  refine x_cV_P (pc := 51) hX (tX7_isFirstPair hK hL1 hO1 hoka.2 hokb.2 k hka hkb) hK.1 rfl lk_X7_156 rfl rfl (Nat.le_of_ble_eq_true rfl) (by decide) (Nat.zero_le _) (Nat.zero_le _) dX7_pair_51 ?_
                  by_cases hsp : sameP (S.1 a.toNat) (S.1 b.toNat) k
                  · refine x_top (congrArg xI (fpI_same hsp)) ?_
                    obtain ⟨L0, m, e1, e2⟩ := (zip_step hka hkb).2 hsp
                    have g1 : (enc (((S.1 a.toNat).zip (S.1 b.toNat)).take (k))).length = L0.length + 1 := by rw [e1, List.length_append]; rfl
                    have g2 : (enc (((S.1 a.toNat).zip (S.1 b.toNat)).take (k + 1))).length = L0.length + 1 := by rw [e2, List.length_append]; rfl
                    refine x_istore (pc := 54) hX (by decide) rfl rfl dX7_pair_54 ?_
                    refine x_iload (pc := 56) hX rfl dX7_pair_56 ?_
                    refine x_if_eq (pc := 58) (tgt := 71) hX dX7_pair_58 (by decide) (by omega) (fun h58 => ?_) (fun h58 => ?_)
                    · refine x_iload (pc := 71) hX rfl dX7_pair_71 ?_
                      refine x_istore (pc := 73) hX (by decide) rfl rfl dX7_pair_73 ?_
                      refine x_iload (pc := 75) hX rfl dX7_pair_75 ?_
                      refine x_iload (pc := 77) hX rfl dX7_pair_77 ?_
                      refine x_if_eq (pc := 79) (tgt := 86) hX dX7_pair_79 (by decide) (by omega) (fun h79 => ?_) (fun h79 => ?_)
                      · refine x_iconst (pc := 86) hX dX7_pair_86 ?_
                        refine x_isub (pc := 87) hX dX7_pair_87 rfl ?_
                        refine x_istore (pc := 88) hX (by decide) rfl rfl dX7_pair_88 ?_
                        refine x_iload (pc := 90) hX rfl dX7_pair_90 ?_
                        refine x_iload (pc := 92) hX rfl dX7_pair_92 ?_
                        refine x_iconst (pc := 94) hX dX7_pair_94 ?_
                        refine x_icmp_ne (pc := 95) (tgt := 102) hX dX7_pair_95 (by decide) (by omega) (fun h95 => ?_) (fun h95 => ?_)
                        · refine x_iconst (pc := 102) hX dX7_pair_102 ?_
                          refine x_iadd (pc := 103) hX dX7_pair_103 rfl ?_
                          refine x_istore (pc := 104) hX (by decide) rfl rfl dX7_pair_104 ?_
                          refine x_iinc (pc := 106) (v := ((k + 1 : Nat) : Int)) hX dX7_pair_106 rfl (by decide) rfl (by omega) rfl ?_
                          refine x_goto (pc := 109) (tgt := 41) hX dX7_pair_109 (by decide) ?_
                          refine ih (k + 1) _ _ _ _ (by omega) (by omega) (by omega) (by rw [e2, fromOf_same, ← e1]; exact hfr) ?_
                          rw [e2, lenOf_same, ← e1, ← hln]
                          split <;> omega
                        · refine x_iconst (pc := 98) hX dX7_pair_98 ?_
                          refine x_goto (pc := 99) (tgt := 103) hX dX7_pair_99 (by decide) ?_
                          refine x_iadd (pc := 103) hX dX7_pair_103 rfl ?_
                          refine x_istore (pc := 104) hX (by decide) rfl rfl dX7_pair_104 ?_
                          refine x_iinc (pc := 106) (v := ((k + 1 : Nat) : Int)) hX dX7_pair_106 rfl (by decide) rfl (by omega) rfl ?_
                          refine x_goto (pc := 109) (tgt := 41) hX dX7_pair_109 (by decide) ?_
                          refine ih (k + 1) _ _ _ _ (by omega) (by omega) (by omega) (by rw [e2, fromOf_same, ← e1]; exact hfr) ?_
                          rw [e2, lenOf_same, ← e1, ← hln]
                          split <;> omega
                      · exfalso; omega
                    · exfalso; omega
                  · refine x_top (congrArg xI (fpI_new hsp)) ?_
                    have e3 := (zip_step hka hkb).1 hsp
                    have g2 : (enc (((S.1 a.toNat).zip (S.1 b.toNat)).take (k + 1))).length = (enc (((S.1 a.toNat).zip (S.1 b.toNat)).take (k))).length + 1 := by rw [e3, List.length_append]; rfl
                    refine x_istore (pc := 54) hX (by decide) rfl rfl dX7_pair_54 ?_
                    refine x_iload (pc := 56) hX rfl dX7_pair_56 ?_
                    refine x_if_eq (pc := 58) (tgt := 71) hX dX7_pair_58 (by decide) (by omega) (fun h58 => ?_) (fun h58 => ?_)
                    · exfalso; omega
                    · refine x_iload (pc := 61) hX rfl dX7_pair_61 ?_
                      refine x_if_ne (pc := 63) (tgt := 71) hX dX7_pair_63 (by decide) (by omega) (fun h63 => ?_) (fun h63 => ?_)
                      · refine x_iload (pc := 71) hX rfl dX7_pair_71 ?_
                        refine x_istore (pc := 73) hX (by decide) rfl rfl dX7_pair_73 ?_
                        refine x_iload (pc := 75) hX rfl dX7_pair_75 ?_
                        refine x_iload (pc := 77) hX rfl dX7_pair_77 ?_
                        refine x_if_eq (pc := 79) (tgt := 86) hX dX7_pair_79 (by decide) (by omega) (fun h79 => ?_) (fun h79 => ?_)
                        · exfalso; omega
                        · refine x_iconst (pc := 82) hX dX7_pair_82 ?_
                          refine x_goto (pc := 83) (tgt := 87) hX dX7_pair_83 (by decide) ?_
                          refine x_isub (pc := 87) hX dX7_pair_87 rfl ?_
                          refine x_istore (pc := 88) hX (by decide) rfl rfl dX7_pair_88 ?_
                          refine x_iload (pc := 90) hX rfl dX7_pair_90 ?_
                          refine x_iload (pc := 92) hX rfl dX7_pair_92 ?_
                          refine x_iconst (pc := 94) hX dX7_pair_94 ?_
                          refine x_icmp_ne (pc := 95) (tgt := 102) hX dX7_pair_95 (by decide) (by omega) (fun h95 => ?_) (fun h95 => ?_)
                          · refine x_iconst (pc := 102) hX dX7_pair_102 ?_
                            refine x_iadd (pc := 103) hX dX7_pair_103 rfl ?_
                            refine x_istore (pc := 104) hX (by decide) rfl rfl dX7_pair_104 ?_
                            refine x_iinc (pc := 106) (v := ((k + 1 : Nat) : Int)) hX dX7_pair_106 rfl (by decide) rfl (by omega) rfl ?_
                            refine x_goto (pc := 109) (tgt := 41) hX dX7_pair_109 (by decide) ?_
                            first
                              | (exfalso; omega)
                              | (refine ih (k + 1) _ _ _ _ (by omega) (by omega) (by omega) ?_ ?_
                                 · rw [e3, fromOf_new, ht, ← hfr]
                                   split <;> omega
                                 · rw [e3, lenOf_new, ← hln]
                                   split <;> omega)
                          · refine x_iconst (pc := 98) hX dX7_pair_98 ?_
                            refine x_goto (pc := 99) (tgt := 103) hX dX7_pair_99 (by decide) ?_
                            refine x_iadd (pc := 103) hX dX7_pair_103 rfl ?_
                            refine x_istore (pc := 104) hX (by decide) rfl rfl dX7_pair_104 ?_
                            refine x_iinc (pc := 106) (v := ((k + 1 : Nat) : Int)) hX dX7_pair_106 rfl (by decide) rfl (by omega) rfl ?_
                            refine x_goto (pc := 109) (tgt := 41) hX dX7_pair_109 (by decide) ?_
                            first
                              | (exfalso; omega)
                              | (refine ih (k + 1) _ _ _ _ (by omega) (by omega) (by omega) ?_ ?_
                                 · rw [e3, fromOf_new, ht, ← hfr]
                                   split <;> omega
                                 · rw [e3, lenOf_new, ← hln]
                                   split <;> omega)
                      · refine x_iload (pc := 66) hX rfl dX7_pair_66 ?_
                        refine x_goto (pc := 68) (tgt := 73) hX dX7_pair_68 (by decide) ?_
                        refine x_istore (pc := 73) hX (by decide) rfl rfl dX7_pair_73 ?_
                        refine x_iload (pc := 75) hX rfl dX7_pair_75 ?_
                        refine x_iload (pc := 77) hX rfl dX7_pair_77 ?_
                        refine x_if_eq (pc := 79) (tgt := 86) hX dX7_pair_79 (by decide) (by omega) (fun h79 => ?_) (fun h79 => ?_)
                        · exfalso; omega
                        · refine x_iconst (pc := 82) hX dX7_pair_82 ?_
                          refine x_goto (pc := 83) (tgt := 87) hX dX7_pair_83 (by decide) ?_
                          refine x_isub (pc := 87) hX dX7_pair_87 rfl ?_
                          refine x_istore (pc := 88) hX (by decide) rfl rfl dX7_pair_88 ?_
                          refine x_iload (pc := 90) hX rfl dX7_pair_90 ?_
                          refine x_iload (pc := 92) hX rfl dX7_pair_92 ?_
                          refine x_iconst (pc := 94) hX dX7_pair_94 ?_
                          refine x_icmp_ne (pc := 95) (tgt := 102) hX dX7_pair_95 (by decide) (by omega) (fun h95 => ?_) (fun h95 => ?_)
                          · refine x_iconst (pc := 102) hX dX7_pair_102 ?_
                            refine x_iadd (pc := 103) hX dX7_pair_103 rfl ?_
                            refine x_istore (pc := 104) hX (by decide) rfl rfl dX7_pair_104 ?_
                            refine x_iinc (pc := 106) (v := ((k + 1 : Nat) : Int)) hX dX7_pair_106 rfl (by decide) rfl (by omega) rfl ?_
                            refine x_goto (pc := 109) (tgt := 41) hX dX7_pair_109 (by decide) ?_
                            first
                              | (exfalso; omega)
                              | (refine ih (k + 1) _ _ _ _ (by omega) (by omega) (by omega) ?_ ?_
                                 · rw [e3, fromOf_new, ht, ← hfr]
                                   split <;> omega
                                 · rw [e3, lenOf_new, ← hln]
                                   split <;> omega)
                          · refine x_iconst (pc := 98) hX dX7_pair_98 ?_
                            refine x_goto (pc := 99) (tgt := 103) hX dX7_pair_99 (by decide) ?_
                            refine x_iadd (pc := 103) hX dX7_pair_103 rfl ?_
                            refine x_istore (pc := 104) hX (by decide) rfl rfl dX7_pair_104 ?_
                            refine x_iinc (pc := 106) (v := ((k + 1 : Nat) : Int)) hX dX7_pair_106 rfl (by decide) rfl (by omega) rfl ?_
                            refine x_goto (pc := 109) (tgt := 41) hX dX7_pair_109 (by decide) ?_
                            first
                              | (exfalso; omega)
                              | (refine ih (k + 1) _ _ _ _ (by omega) (by omega) (by omega) ?_ ?_
                                 · rw [e3, fromOf_new, ht, ← hfr]
                                   split <;> omega
                                 · rw [e3, lenOf_new, ← hln]
                                   split <;> omega)
            refine x_istore (pc := 26) hX (by decide) rfl rfl dX7_pair_26 ?_
            refine x_iload_n (pc := 28) hX rfl rfl dX7_pair_28 ?_
            refine x_istore (pc := 29) hX (by decide) rfl rfl dX7_pair_29 ?_
            refine x_bipush (pc := 31) hX (by decide) dX7_pair_31 ?_
            refine x_istore (pc := 33) hX (by decide) rfl rfl dX7_pair_33 ?_
            refine x_iconst (pc := 35) hX dX7_pair_35 ?_
            refine x_istore (pc := 36) hX (by decide) rfl rfl dX7_pair_36 ?_
            refine x_iconst (pc := 38) hX dX7_pair_38 ?_
            refine x_istore (pc := 39) hX (by decide) rfl rfl dX7_pair_39 ?_
            exact loop ((min (S.1 a.toNat).length (S.1 b.toNat).length) + 1) 0 none _ _ _ (by omega) (by omega) (by rw [List.take_zero]; exact (Int.sub_zero p).symm) (by rw [List.take_zero]; rfl) (by rw [List.take_zero]; rfl)
          · refine x_iconst (pc := 18) hX dX7_pair_18 ?_
            refine x_iret (pc := 19) hX rfl (Nat.zero_le _) (Nat.zero_le _) dX7_pair_19 ?_
            refine pI_i ⟨?_, hS, Chg.rf⟩
            rw [← hR]
            unfold aPair
            rw [if_pos (by omega)]
      · rw [if_neg hcb8]
        refine x_if_eq (pc := 11) (tgt := 18) hX dX7_pair_11 (by decide) (by omega) (fun h11 => ?_) (fun h11 => ?_)
        · refine x_iconst (pc := 18) hX dX7_pair_18 ?_
          refine x_iret (pc := 19) hX rfl (Nat.zero_le _) (Nat.zero_le _) dX7_pair_19 ?_
          refine pI_i ⟨?_, hS, Chg.rf⟩
          rw [← hR]
          unfold aPair
          rw [if_pos (by omega)]
        · exfalso; omega
  · rw [if_neg hca1]
    refine x_if_eq (pc := 4) (tgt := 18) hX dX7_pair_4 (by decide) (by omega) (fun h4 => ?_) (fun h4 => ?_)
    · refine x_iconst (pc := 18) hX dX7_pair_18 ?_
      refine x_iret (pc := 19) hX rfl (Nat.zero_le _) (Nat.zero_le _) dX7_pair_19 ?_
      refine pI_i ⟨?_, hS, Chg.rf⟩
      rw [← hR]
      unfold aPair
      rw [if_pos (by omega)]
    · exfalso; omega

set_option maxHeartbeats 4000000 in
set_option maxRecDepth 100000 in
theorem tX7_ofPairs {G : XG} {κ : XKs} {M : XM} {hs : Nat} (hK : KM κ hs) {A B : List Nat} (hL : Lay M A) (hO : LaO M B) (hA : ∀ v ∈ A, v ≤ 9) (hB : ∀ v ∈ B, v ≤ 9) (w : Int) (hw : 0 ≤ w ∧ w ≤ 4) : XC G mX7_ofPairs 1 0 0 [xR 140, xI ((min A.length B.length) : Nat), xI w] κ M hs (pI κ hs (fun x M' => x = aJ A B w ∧ Chg P48 M M')) := by
  refine XC.intro cdX7_ofPairs (by decide) (by decide) (Nat.le_of_ble_eq_true rfl) (loc := [some (xR 140), some (xI ((min A.length B.length) : Nat)), some (xI w), none, none, none, none, none, none]) rfl (fun X hX => ?_)
  have hl1 := hL.2.1
  have hl2 := hO.2.1
  have hzB : ∀ q ∈ A.zip B, q.2 ≤ 9 := fun q hq => hB _ (List.of_mem_zip hq).2
  have loop : ∀ (n k : Nat) (z : Option XV) (r1 r2 r3 r4 : Int) (M1 : XM), k ≤ (min A.length B.length) → (min A.length B.length) < k + n → r1 = ((enc ((A.zip B).take (k))).length : Int) → r2 = cAl ((A.zip B).take (k)) → r3 = cSm ((A.zip B).take (k)) → r4 = uq (mkR (fun _ => 0) ((A.zip B).take (k))) → Tb M1 (mkR (fun _ => 0) ((A.zip B).take (k))) → Chg P48 M M1 → XW G X mX7_ofPairs (xq G (pI κ hs (fun x M' => x = aJ A B w ∧ Chg P48 M M')) 0 0 X) 0 0 38 [some (xR 140), some (xI ((min A.length B.length) : Nat)), some (xI w), some (xI r1), some (xI r2), some (xI r3), some (xI r4), some (xI (k : Int)), z] [] κ M1 hs := by
    intro n
    induction n with
    | zero => intro k z r1 r2 r3 r4 M1 h1 h2; omega
    | succ n ih =>
      intro k z r1 r2 r3 r4 M1 h1 h2 hr1 hr2 hr3 hr4 hT hq1
      refine x_iload (pc := 38) hX rfl dX7_ofPairs_38 ?_
      refine x_iload_n (pc := 40) hX rfl rfl dX7_ofPairs_40 ?_
      refine x_icmp_ge (pc := 41) (tgt := 162) hX dX7_ofPairs_41 (by decide) (by omega) (fun h41 => ?_) (fun h41 => ?_)
      · obtain rfl : k = (min A.length B.length) := by omega
        rw [← List.length_zip, List.take_length] at hr1 hr2 hr3 hr4
        refine x_iload_n (pc := 162) hX rfl rfl dX7_ofPairs_162 ?_
        refine x_if_ne (pc := 163) (tgt := 170) hX dX7_ofPairs_163 (by decide) (by omega) (fun h163 => ?_) (fun h163 => ?_)
        · refine x_iload_n (pc := 170) hX rfl rfl dX7_ofPairs_170 ?_
          refine x_iconst (pc := 171) hX dX7_ofPairs_171 ?_
          refine x_icmp_ne (pc := 172) (tgt := 179) hX dX7_ofPairs_172 (by decide) (by omega) (fun h172 => ?_) (fun h172 => ?_)
          · refine x_iload_n (pc := 179) hX rfl rfl dX7_ofPairs_179 ?_
            refine x_iconst (pc := 180) hX dX7_ofPairs_180 ?_
            refine x_icmp_ne (pc := 181) (tgt := 189) hX dX7_ofPairs_181 (by decide) (by omega) (fun h181 => ?_) (fun h181 => ?_)
            · refine x_iload_n (pc := 189) hX rfl rfl dX7_ofPairs_189 ?_
              refine x_iconst (pc := 190) hX dX7_ofPairs_190 ?_
              refine x_icmp_ne (pc := 191) (tgt := 199) hX dX7_ofPairs_191 (by decide) (by omega) (fun h191 => ?_) (fun h191 => ?_)
              · refine x_iload (pc := 199) hX rfl dX7_ofPairs_199 ?_
                refine x_iret (pc := 201) hX rfl (Nat.zero_le _) (Nat.zero_le _) dX7_ofPairs_201 ?_
                refine pI_i ⟨?_, hq1⟩
                unfold aJ
                repeat' split
                all_goals omega
              · refine x_iload (pc := 194) hX rfl dX7_ofPairs_194 ?_
                refine x_goto (pc := 196) (tgt := 201) hX dX7_ofPairs_196 (by decide) ?_
                refine x_iret (pc := 201) hX rfl (Nat.zero_le _) (Nat.zero_le _) dX7_ofPairs_201 ?_
                refine pI_i ⟨?_, hq1⟩
                unfold aJ
                repeat' split
                all_goals omega
            · refine x_iload (pc := 184) hX rfl dX7_ofPairs_184 ?_
              refine x_goto (pc := 186) (tgt := 201) hX dX7_ofPairs_186 (by decide) ?_
              refine x_iret (pc := 201) hX rfl (Nat.zero_le _) (Nat.zero_le _) dX7_ofPairs_201 ?_
              refine pI_i ⟨?_, hq1⟩
              unfold aJ
              repeat' split
              all_goals omega
          · refine x_iload_n (pc := 175) hX rfl rfl dX7_ofPairs_175 ?_
            refine x_goto (pc := 176) (tgt := 201) hX dX7_ofPairs_176 (by decide) ?_
            refine x_iret (pc := 201) hX rfl (Nat.zero_le _) (Nat.zero_le _) dX7_ofPairs_201 ?_
            refine pI_i ⟨?_, hq1⟩
            unfold aJ
            repeat' split
            all_goals omega
        · refine x_iload_n (pc := 166) hX rfl rfl dX7_ofPairs_166 ?_
          refine x_goto (pc := 167) (tgt := 201) hX dX7_ofPairs_167 (by decide) ?_
          refine x_iret (pc := 201) hX rfl (Nat.zero_le _) (Nat.zero_le _) dX7_ofPairs_201 ?_
          refine pI_i ⟨?_, hq1⟩
          unfold aJ
          repeat' split
          all_goals omega
      · have hkm : k < (min A.length B.length) := by omega
        have hka : k < A.length := by omega
        have hkb : k < B.length := by omega
        have v1 := chr_le9 hA k
        have v3 := chr_le9 hB k
        have hzt := zip_take hka hkb
        have hmk : mkR (fun _ => 0) ((A.zip B).take (k + 1)) = upB (mkR (fun _ => 0) ((A.zip B).take (k))) (chr A k) (chr B k) := by
          rw [hzt, mkR_app]
          rfl
        have hmlt := mkR_lt ((A.zip B).take (k)) (fun _ => 0) (fun _ => by decide) (fun q hq => hzB q (List.mem_of_mem_take hq))
        have hTk := hT _ _ v1 v3
        generalize hbit : mkR (fun _ => 0) ((A.zip B).take (k)) (chr A k) / 2 ^ chr B k % 2 = bt at hTk
        have hbt : bt < 2 := by rw [← hbit]; exact Nat.mod_lt _ (by decide)
        have hL2 : Lay M1 A := hL.congr (hq1.at (by unfold P48; omega)) (hq1.cell (fun f => by unfold P48; omega))
        have hO2 : LaO M1 B := hO.congr (hq1.at (by unfold P48; omega)) (hq1.cell (fun f => by unfold P48; omega))
        refine x_bipush (pc := 44) hX (by decide) dX7_ofPairs_44 ?_
        refine x_aload_n (pc := 46) hX rfl rfl dX7_ofPairs_46 ?_
        refine x_getR (pc := 47) hX fl_X7_25 hK.1 rfl dX7_ofPairs_47 ?_
        refine x_iload (pc := 50) hX rfl dX7_ofPairs_50 ?_
        refine x_iald (pc := 52) (j := k) (v := (chr A k : Int)) hX hK.2.2.2.2.2.2.1 (by omega) (by omega) (by decide) (hL2.2.2 k hka) dX7_ofPairs_52 ?_
        refine x_imul (pc := 53) hX dX7_ofPairs_53 rfl ?_
        refine x_aload_n (pc := 54) hX rfl rfl dX7_ofPairs_54 ?_
        refine x_getR (pc := 55) hX fl_X7_28 hK.1 rfl dX7_ofPairs_55 ?_
        refine x_iload (pc := 58) hX rfl dX7_ofPairs_58 ?_
        refine x_iald (pc := 60) (j := k) (v := (chr B k : Int)) hX hK.2.2.2.2.2.2.2.1 (by omega) (by omega) (by decide) (hO2.2.2 k hkb) dX7_ofPairs_60 ?_
        refine x_iadd (pc := 61) (v := ((10 * chr A k + chr B k : Nat) : Int)) hX dX7_ofPairs_61 (by omega) ?_
        refine x_istore (pc := 62) hX (by decide) rfl rfl dX7_ofPairs_62 ?_
        refine x_iload_n (pc := 64) hX rfl rfl dX7_ofPairs_64 ?_
        refine x_aload_n (pc := 65) hX rfl rfl dX7_ofPairs_65 ?_
        refine x_iload (pc := 66) hX rfl dX7_ofPairs_66 ?_
        refine x_cV_P (pc := 68) hX (tX7_isFirstPair hK hL2 hO2 hA hB k hka hkb) hK.1 rfl lk_X7_156 rfl rfl (Nat.le_of_ble_eq_true rfl) (by decide) (Nat.zero_le _) (Nat.zero_le _) dX7_ofPairs_68 ?_
        by_cases hsp : sameP A B k
        · refine x_top (congrArg xI (fpI_same hsp)) ?_
          obtain ⟨L0, m, e1, e2⟩ := (zip_step hka hkb).2 hsp
          have g1 : (enc ((A.zip B).take (k + 1))).length = (enc ((A.zip B).take (k))).length := by rw [e1, e2, List.length_append, List.length_append]; rfl
          refine x_if_eq (pc := 71) (tgt := 78) hX dX7_ofPairs_71 (by decide) (by omega) (fun h71 => ?_) (fun h71 => ?_)
          · refine x_iconst (pc := 78) hX dX7_ofPairs_78 ?_
            refine x_iadd (pc := 79) hX dX7_ofPairs_79 rfl ?_
            refine x_istore_n (pc := 80) hX rfl (by decide) rfl rfl dX7_ofPairs_80 ?_
            refine x_iload (pc := 81) hX rfl dX7_ofPairs_81 ?_
            refine x_aload_n (pc := 83) hX rfl rfl dX7_ofPairs_83 ?_
            refine x_getR (pc := 84) hX fl_X7_25 hK.1 rfl dX7_ofPairs_84 ?_
            refine x_iload (pc := 87) hX rfl dX7_ofPairs_87 ?_
            refine x_iald (pc := 89) (j := k) (v := (chr A k : Int)) hX hK.2.2.2.2.2.2.1 (by omega) (by omega) (by decide) (hL2.2.2 k hka) dX7_ofPairs_89 ?_
            refine x_aload_n (pc := 90) hX rfl rfl dX7_ofPairs_90 ?_
            refine x_getR (pc := 91) hX fl_X7_28 hK.1 rfl dX7_ofPairs_91 ?_
            refine x_iload (pc := 94) hX rfl dX7_ofPairs_94 ?_
            refine x_iald (pc := 96) (j := k) (v := (chr B k : Int)) hX hK.2.2.2.2.2.2.2.1 (by omega) (by omega) (by decide) (hO2.2.2 k hkb) dX7_ofPairs_96 ?_
            refine x_icmp_ne (pc := 97) (tgt := 104) hX dX7_ofPairs_97 (by decide) (by omega) (fun h97 => ?_) (fun h97 => ?_)
            · refine x_iconst (pc := 104) hX dX7_ofPairs_104 ?_
              refine x_iadd (pc := 105) hX dX7_ofPairs_105 rfl ?_
              refine x_istore (pc := 106) hX (by decide) rfl rfl dX7_ofPairs_106 ?_
              refine x_iload (pc := 108) hX rfl dX7_ofPairs_108 ?_
              refine x_aload_n (pc := 110) hX rfl rfl dX7_ofPairs_110 ?_
              refine x_getR (pc := 111) hX fl_X7_25 hK.1 rfl dX7_ofPairs_111 ?_
              refine x_iload (pc := 114) hX rfl dX7_ofPairs_114 ?_
              refine x_iald (pc := 116) (j := k) (v := (chr A k : Int)) hX hK.2.2.2.2.2.2.1 (by omega) (by omega) (by decide) (hL2.2.2 k hka) dX7_ofPairs_116 ?_
              refine x_aload_n (pc := 117) hX rfl rfl dX7_ofPairs_117 ?_
              refine x_getR (pc := 118) hX fl_X7_28 hK.1 rfl dX7_ofPairs_118 ?_
              refine x_iload (pc := 121) hX rfl dX7_ofPairs_121 ?_
              refine x_iald (pc := 123) (j := k) (v := (chr B k : Int)) hX hK.2.2.2.2.2.2.2.1 (by omega) (by omega) (by decide) (hO2.2.2 k hkb) dX7_ofPairs_123 ?_
              refine x_imul (pc := 124) hX dX7_ofPairs_124 rfl ?_
              refine x_iadd (pc := 125) hX dX7_ofPairs_125 rfl ?_
              refine x_istore (pc := 126) hX (by decide) rfl rfl dX7_ofPairs_126 ?_
              refine x_iload (pc := 128) hX rfl dX7_ofPairs_128 ?_
              refine x_aload_n (pc := 130) hX rfl rfl dX7_ofPairs_130 ?_
              refine x_getR (pc := 131) hX fl_X7_31 hK.1 rfl dX7_ofPairs_131 ?_
              refine x_iload (pc := 134) hX rfl dX7_ofPairs_134 ?_
              refine x_iald (pc := 136) (j := 10 * chr A k + chr B k) (v := (bt : Int)) hX hK.2.2.2.2.2.2.2.2.1 (by omega) (by omega) (by decide) hTk dX7_ofPairs_136 ?_
              refine x_if_ne (pc := 137) (tgt := 144) hX dX7_ofPairs_137 (by decide) (by omega) (fun h137 => ?_) (fun h137 => ?_)
              · refine x_iconst (pc := 144) hX dX7_ofPairs_144 ?_
                refine x_iadd (pc := 145) hX dX7_ofPairs_145 rfl ?_
                refine x_istore (pc := 146) hX (by decide) rfl rfl dX7_ofPairs_146 ?_
                refine x_aload_n (pc := 148) hX rfl rfl dX7_ofPairs_148 ?_
                refine x_getR (pc := 149) hX fl_X7_31 hK.1 rfl dX7_ofPairs_149 ?_
                refine x_iload (pc := 152) hX rfl dX7_ofPairs_152 ?_
                refine x_iconst (pc := 154) hX dX7_ofPairs_154 ?_
                refine x_iast (pc := 155) (j := 10 * chr A k + chr B k) hX hK.2.2.2.2.2.2.2.2.1 (by omega) (by omega) (by decide) dX7_ofPairs_155 ?_
                refine x_iinc (pc := 156) (v := ((k + 1 : Nat) : Int)) hX dX7_ofPairs_156 rfl (by decide) rfl (by omega) rfl ?_
                refine x_goto (pc := 159) (tgt := 38) hX dX7_ofPairs_159 (by decide) ?_
                refine ih (k + 1) _ _ _ _ _ _ (by omega) (by omega) ?_ ?_ ?_ ?_ ?_ (hq1.tr (Chg.put rfl))
                · omega
                · rw [hzt, cAl_app]
                  show _ = _ + ((if chr A k = chr B k then (1 : Int) else 0) + 0)
                  split <;> omega
                · rw [hzt, cSm_app]
                  show _ = _ + ((chr A k : Int) * (chr B k : Int) + 0)
                  omega
                · rw [hmk, uq_up hmlt v1 v3]
                  split <;> omega
                · rw [hmk]
                  exact hT.up v1 v3
              · refine x_iconst (pc := 140) hX dX7_ofPairs_140 ?_
                refine x_goto (pc := 141) (tgt := 145) hX dX7_ofPairs_141 (by decide) ?_
                refine x_iadd (pc := 145) hX dX7_ofPairs_145 rfl ?_
                refine x_istore (pc := 146) hX (by decide) rfl rfl dX7_ofPairs_146 ?_
                refine x_aload_n (pc := 148) hX rfl rfl dX7_ofPairs_148 ?_
                refine x_getR (pc := 149) hX fl_X7_31 hK.1 rfl dX7_ofPairs_149 ?_
                refine x_iload (pc := 152) hX rfl dX7_ofPairs_152 ?_
                refine x_iconst (pc := 154) hX dX7_ofPairs_154 ?_
                refine x_iast (pc := 155) (j := 10 * chr A k + chr B k) hX hK.2.2.2.2.2.2.2.2.1 (by omega) (by omega) (by decide) dX7_ofPairs_155 ?_
                refine x_iinc (pc := 156) (v := ((k + 1 : Nat) : Int)) hX dX7_ofPairs_156 rfl (by decide) rfl (by omega) rfl ?_
                refine x_goto (pc := 159) (tgt := 38) hX dX7_ofPairs_159 (by decide) ?_
                refine ih (k + 1) _ _ _ _ _ _ (by omega) (by omega) ?_ ?_ ?_ ?_ ?_ (hq1.tr (Chg.put rfl))
                · omega
                · rw [hzt, cAl_app]
                  show _ = _ + ((if chr A k = chr B k then (1 : Int) else 0) + 0)
                  split <;> omega
                · rw [hzt, cSm_app]
                  show _ = _ + ((chr A k : Int) * (chr B k : Int) + 0)
                  omega
                · rw [hmk, uq_up hmlt v1 v3]
                  split <;> omega
                · rw [hmk]
                  exact hT.up v1 v3
            · refine x_iconst (pc := 100) hX dX7_ofPairs_100 ?_
              refine x_goto (pc := 101) (tgt := 105) hX dX7_ofPairs_101 (by decide) ?_
              refine x_iadd (pc := 105) hX dX7_ofPairs_105 rfl ?_
              refine x_istore (pc := 106) hX (by decide) rfl rfl dX7_ofPairs_106 ?_
              refine x_iload (pc := 108) hX rfl dX7_ofPairs_108 ?_
              refine x_aload_n (pc := 110) hX rfl rfl dX7_ofPairs_110 ?_
              refine x_getR (pc := 111) hX fl_X7_25 hK.1 rfl dX7_ofPairs_111 ?_
              refine x_iload (pc := 114) hX rfl dX7_ofPairs_114 ?_
              refine x_iald (pc := 116) (j := k) (v := (chr A k : Int)) hX hK.2.2.2.2.2.2.1 (by omega) (by omega) (by decide) (hL2.2.2 k hka) dX7_ofPairs_116 ?_
              refine x_aload_n (pc := 117) hX rfl rfl dX7_ofPairs_117 ?_
              refine x_getR (pc := 118) hX fl_X7_28 hK.1 rfl dX7_ofPairs_118 ?_
              refine x_iload (pc := 121) hX rfl dX7_ofPairs_121 ?_
              refine x_iald (pc := 123) (j := k) (v := (chr B k : Int)) hX hK.2.2.2.2.2.2.2.1 (by omega) (by omega) (by decide) (hO2.2.2 k hkb) dX7_ofPairs_123 ?_
              refine x_imul (pc := 124) hX dX7_ofPairs_124 rfl ?_
              refine x_iadd (pc := 125) hX dX7_ofPairs_125 rfl ?_
              refine x_istore (pc := 126) hX (by decide) rfl rfl dX7_ofPairs_126 ?_
              refine x_iload (pc := 128) hX rfl dX7_ofPairs_128 ?_
              refine x_aload_n (pc := 130) hX rfl rfl dX7_ofPairs_130 ?_
              refine x_getR (pc := 131) hX fl_X7_31 hK.1 rfl dX7_ofPairs_131 ?_
              refine x_iload (pc := 134) hX rfl dX7_ofPairs_134 ?_
              refine x_iald (pc := 136) (j := 10 * chr A k + chr B k) (v := (bt : Int)) hX hK.2.2.2.2.2.2.2.2.1 (by omega) (by omega) (by decide) hTk dX7_ofPairs_136 ?_
              refine x_if_ne (pc := 137) (tgt := 144) hX dX7_ofPairs_137 (by decide) (by omega) (fun h137 => ?_) (fun h137 => ?_)
              · refine x_iconst (pc := 144) hX dX7_ofPairs_144 ?_
                refine x_iadd (pc := 145) hX dX7_ofPairs_145 rfl ?_
                refine x_istore (pc := 146) hX (by decide) rfl rfl dX7_ofPairs_146 ?_
                refine x_aload_n (pc := 148) hX rfl rfl dX7_ofPairs_148 ?_
                refine x_getR (pc := 149) hX fl_X7_31 hK.1 rfl dX7_ofPairs_149 ?_
                refine x_iload (pc := 152) hX rfl dX7_ofPairs_152 ?_
                refine x_iconst (pc := 154) hX dX7_ofPairs_154 ?_
                refine x_iast (pc := 155) (j := 10 * chr A k + chr B k) hX hK.2.2.2.2.2.2.2.2.1 (by omega) (by omega) (by decide) dX7_ofPairs_155 ?_
                refine x_iinc (pc := 156) (v := ((k + 1 : Nat) : Int)) hX dX7_ofPairs_156 rfl (by decide) rfl (by omega) rfl ?_
                refine x_goto (pc := 159) (tgt := 38) hX dX7_ofPairs_159 (by decide) ?_
                refine ih (k + 1) _ _ _ _ _ _ (by omega) (by omega) ?_ ?_ ?_ ?_ ?_ (hq1.tr (Chg.put rfl))
                · omega
                · rw [hzt, cAl_app]
                  show _ = _ + ((if chr A k = chr B k then (1 : Int) else 0) + 0)
                  split <;> omega
                · rw [hzt, cSm_app]
                  show _ = _ + ((chr A k : Int) * (chr B k : Int) + 0)
                  omega
                · rw [hmk, uq_up hmlt v1 v3]
                  split <;> omega
                · rw [hmk]
                  exact hT.up v1 v3
              · refine x_iconst (pc := 140) hX dX7_ofPairs_140 ?_
                refine x_goto (pc := 141) (tgt := 145) hX dX7_ofPairs_141 (by decide) ?_
                refine x_iadd (pc := 145) hX dX7_ofPairs_145 rfl ?_
                refine x_istore (pc := 146) hX (by decide) rfl rfl dX7_ofPairs_146 ?_
                refine x_aload_n (pc := 148) hX rfl rfl dX7_ofPairs_148 ?_
                refine x_getR (pc := 149) hX fl_X7_31 hK.1 rfl dX7_ofPairs_149 ?_
                refine x_iload (pc := 152) hX rfl dX7_ofPairs_152 ?_
                refine x_iconst (pc := 154) hX dX7_ofPairs_154 ?_
                refine x_iast (pc := 155) (j := 10 * chr A k + chr B k) hX hK.2.2.2.2.2.2.2.2.1 (by omega) (by omega) (by decide) dX7_ofPairs_155 ?_
                refine x_iinc (pc := 156) (v := ((k + 1 : Nat) : Int)) hX dX7_ofPairs_156 rfl (by decide) rfl (by omega) rfl ?_
                refine x_goto (pc := 159) (tgt := 38) hX dX7_ofPairs_159 (by decide) ?_
                refine ih (k + 1) _ _ _ _ _ _ (by omega) (by omega) ?_ ?_ ?_ ?_ ?_ (hq1.tr (Chg.put rfl))
                · omega
                · rw [hzt, cAl_app]
                  show _ = _ + ((if chr A k = chr B k then (1 : Int) else 0) + 0)
                  split <;> omega
                · rw [hzt, cSm_app]
                  show _ = _ + ((chr A k : Int) * (chr B k : Int) + 0)
                  omega
                · rw [hmk, uq_up hmlt v1 v3]
                  split <;> omega
                · rw [hmk]
                  exact hT.up v1 v3
          · exfalso; omega
        · refine x_top (congrArg xI (fpI_new hsp)) ?_
          have e3 := (zip_step hka hkb).1 hsp
          have g1 : (enc ((A.zip B).take (k + 1))).length = (enc ((A.zip B).take (k))).length + 1 := by rw [e3, List.length_append]; rfl
          refine x_if_eq (pc := 71) (tgt := 78) hX dX7_ofPairs_71 (by decide) (by omega) (fun h71 => ?_) (fun h71 => ?_)
          · exfalso; omega
          · refine x_iconst (pc := 74) hX dX7_ofPairs_74 ?_
            refine x_goto (pc := 75) (tgt := 79) hX dX7_ofPairs_75 (by decide) ?_
            refine x_iadd (pc := 79) hX dX7_ofPairs_79 rfl ?_
            refine x_istore_n (pc := 80) hX rfl (by decide) rfl rfl dX7_ofPairs_80 ?_
            refine x_iload (pc := 81) hX rfl dX7_ofPairs_81 ?_
            refine x_aload_n (pc := 83) hX rfl rfl dX7_ofPairs_83 ?_
            refine x_getR (pc := 84) hX fl_X7_25 hK.1 rfl dX7_ofPairs_84 ?_
            refine x_iload (pc := 87) hX rfl dX7_ofPairs_87 ?_
            refine x_iald (pc := 89) (j := k) (v := (chr A k : Int)) hX hK.2.2.2.2.2.2.1 (by omega) (by omega) (by decide) (hL2.2.2 k hka) dX7_ofPairs_89 ?_
            refine x_aload_n (pc := 90) hX rfl rfl dX7_ofPairs_90 ?_
            refine x_getR (pc := 91) hX fl_X7_28 hK.1 rfl dX7_ofPairs_91 ?_
            refine x_iload (pc := 94) hX rfl dX7_ofPairs_94 ?_
            refine x_iald (pc := 96) (j := k) (v := (chr B k : Int)) hX hK.2.2.2.2.2.2.2.1 (by omega) (by omega) (by decide) (hO2.2.2 k hkb) dX7_ofPairs_96 ?_
            refine x_icmp_ne (pc := 97) (tgt := 104) hX dX7_ofPairs_97 (by decide) (by omega) (fun h97 => ?_) (fun h97 => ?_)
            · refine x_iconst (pc := 104) hX dX7_ofPairs_104 ?_
              refine x_iadd (pc := 105) hX dX7_ofPairs_105 rfl ?_
              refine x_istore (pc := 106) hX (by decide) rfl rfl dX7_ofPairs_106 ?_
              refine x_iload (pc := 108) hX rfl dX7_ofPairs_108 ?_
              refine x_aload_n (pc := 110) hX rfl rfl dX7_ofPairs_110 ?_
              refine x_getR (pc := 111) hX fl_X7_25 hK.1 rfl dX7_ofPairs_111 ?_
              refine x_iload (pc := 114) hX rfl dX7_ofPairs_114 ?_
              refine x_iald (pc := 116) (j := k) (v := (chr A k : Int)) hX hK.2.2.2.2.2.2.1 (by omega) (by omega) (by decide) (hL2.2.2 k hka) dX7_ofPairs_116 ?_
              refine x_aload_n (pc := 117) hX rfl rfl dX7_ofPairs_117 ?_
              refine x_getR (pc := 118) hX fl_X7_28 hK.1 rfl dX7_ofPairs_118 ?_
              refine x_iload (pc := 121) hX rfl dX7_ofPairs_121 ?_
              refine x_iald (pc := 123) (j := k) (v := (chr B k : Int)) hX hK.2.2.2.2.2.2.2.1 (by omega) (by omega) (by decide) (hO2.2.2 k hkb) dX7_ofPairs_123 ?_
              refine x_imul (pc := 124) hX dX7_ofPairs_124 rfl ?_
              refine x_iadd (pc := 125) hX dX7_ofPairs_125 rfl ?_
              refine x_istore (pc := 126) hX (by decide) rfl rfl dX7_ofPairs_126 ?_
              refine x_iload (pc := 128) hX rfl dX7_ofPairs_128 ?_
              refine x_aload_n (pc := 130) hX rfl rfl dX7_ofPairs_130 ?_
              refine x_getR (pc := 131) hX fl_X7_31 hK.1 rfl dX7_ofPairs_131 ?_
              refine x_iload (pc := 134) hX rfl dX7_ofPairs_134 ?_
              refine x_iald (pc := 136) (j := 10 * chr A k + chr B k) (v := (bt : Int)) hX hK.2.2.2.2.2.2.2.2.1 (by omega) (by omega) (by decide) hTk dX7_ofPairs_136 ?_
              refine x_if_ne (pc := 137) (tgt := 144) hX dX7_ofPairs_137 (by decide) (by omega) (fun h137 => ?_) (fun h137 => ?_)
              · refine x_iconst (pc := 144) hX dX7_ofPairs_144 ?_
                refine x_iadd (pc := 145) hX dX7_ofPairs_145 rfl ?_
                refine x_istore (pc := 146) hX (by decide) rfl rfl dX7_ofPairs_146 ?_
                refine x_aload_n (pc := 148) hX rfl rfl dX7_ofPairs_148 ?_
                refine x_getR (pc := 149) hX fl_X7_31 hK.1 rfl dX7_ofPairs_149 ?_
                refine x_iload (pc := 152) hX rfl dX7_ofPairs_152 ?_
                refine x_iconst (pc := 154) hX dX7_ofPairs_154 ?_
                refine x_iast (pc := 155) (j := 10 * chr A k + chr B k) hX hK.2.2.2.2.2.2.2.2.1 (by omega) (by omega) (by decide) dX7_ofPairs_155 ?_
                refine x_iinc (pc := 156) (v := ((k + 1 : Nat) : Int)) hX dX7_ofPairs_156 rfl (by decide) rfl (by omega) rfl ?_
                refine x_goto (pc := 159) (tgt := 38) hX dX7_ofPairs_159 (by decide) ?_
                refine ih (k + 1) _ _ _ _ _ _ (by omega) (by omega) ?_ ?_ ?_ ?_ ?_ (hq1.tr (Chg.put rfl))
                · omega
                · rw [hzt, cAl_app]
                  show _ = _ + ((if chr A k = chr B k then (1 : Int) else 0) + 0)
                  split <;> omega
                · rw [hzt, cSm_app]
                  show _ = _ + ((chr A k : Int) * (chr B k : Int) + 0)
                  omega
                · rw [hmk, uq_up hmlt v1 v3]
                  split <;> omega
                · rw [hmk]
                  exact hT.up v1 v3
              · refine x_iconst (pc := 140) hX dX7_ofPairs_140 ?_
                refine x_goto (pc := 141) (tgt := 145) hX dX7_ofPairs_141 (by decide) ?_
                refine x_iadd (pc := 145) hX dX7_ofPairs_145 rfl ?_
                refine x_istore (pc := 146) hX (by decide) rfl rfl dX7_ofPairs_146 ?_
                refine x_aload_n (pc := 148) hX rfl rfl dX7_ofPairs_148 ?_
                refine x_getR (pc := 149) hX fl_X7_31 hK.1 rfl dX7_ofPairs_149 ?_
                refine x_iload (pc := 152) hX rfl dX7_ofPairs_152 ?_
                refine x_iconst (pc := 154) hX dX7_ofPairs_154 ?_
                refine x_iast (pc := 155) (j := 10 * chr A k + chr B k) hX hK.2.2.2.2.2.2.2.2.1 (by omega) (by omega) (by decide) dX7_ofPairs_155 ?_
                refine x_iinc (pc := 156) (v := ((k + 1 : Nat) : Int)) hX dX7_ofPairs_156 rfl (by decide) rfl (by omega) rfl ?_
                refine x_goto (pc := 159) (tgt := 38) hX dX7_ofPairs_159 (by decide) ?_
                refine ih (k + 1) _ _ _ _ _ _ (by omega) (by omega) ?_ ?_ ?_ ?_ ?_ (hq1.tr (Chg.put rfl))
                · omega
                · rw [hzt, cAl_app]
                  show _ = _ + ((if chr A k = chr B k then (1 : Int) else 0) + 0)
                  split <;> omega
                · rw [hzt, cSm_app]
                  show _ = _ + ((chr A k : Int) * (chr B k : Int) + 0)
                  omega
                · rw [hmk, uq_up hmlt v1 v3]
                  split <;> omega
                · rw [hmk]
                  exact hT.up v1 v3
            · refine x_iconst (pc := 100) hX dX7_ofPairs_100 ?_
              refine x_goto (pc := 101) (tgt := 105) hX dX7_ofPairs_101 (by decide) ?_
              refine x_iadd (pc := 105) hX dX7_ofPairs_105 rfl ?_
              refine x_istore (pc := 106) hX (by decide) rfl rfl dX7_ofPairs_106 ?_
              refine x_iload (pc := 108) hX rfl dX7_ofPairs_108 ?_
              refine x_aload_n (pc := 110) hX rfl rfl dX7_ofPairs_110 ?_
              refine x_getR (pc := 111) hX fl_X7_25 hK.1 rfl dX7_ofPairs_111 ?_
              refine x_iload (pc := 114) hX rfl dX7_ofPairs_114 ?_
              refine x_iald (pc := 116) (j := k) (v := (chr A k : Int)) hX hK.2.2.2.2.2.2.1 (by omega) (by omega) (by decide) (hL2.2.2 k hka) dX7_ofPairs_116 ?_
              refine x_aload_n (pc := 117) hX rfl rfl dX7_ofPairs_117 ?_
              refine x_getR (pc := 118) hX fl_X7_28 hK.1 rfl dX7_ofPairs_118 ?_
              refine x_iload (pc := 121) hX rfl dX7_ofPairs_121 ?_
              refine x_iald (pc := 123) (j := k) (v := (chr B k : Int)) hX hK.2.2.2.2.2.2.2.1 (by omega) (by omega) (by decide) (hO2.2.2 k hkb) dX7_ofPairs_123 ?_
              refine x_imul (pc := 124) hX dX7_ofPairs_124 rfl ?_
              refine x_iadd (pc := 125) hX dX7_ofPairs_125 rfl ?_
              refine x_istore (pc := 126) hX (by decide) rfl rfl dX7_ofPairs_126 ?_
              refine x_iload (pc := 128) hX rfl dX7_ofPairs_128 ?_
              refine x_aload_n (pc := 130) hX rfl rfl dX7_ofPairs_130 ?_
              refine x_getR (pc := 131) hX fl_X7_31 hK.1 rfl dX7_ofPairs_131 ?_
              refine x_iload (pc := 134) hX rfl dX7_ofPairs_134 ?_
              refine x_iald (pc := 136) (j := 10 * chr A k + chr B k) (v := (bt : Int)) hX hK.2.2.2.2.2.2.2.2.1 (by omega) (by omega) (by decide) hTk dX7_ofPairs_136 ?_
              refine x_if_ne (pc := 137) (tgt := 144) hX dX7_ofPairs_137 (by decide) (by omega) (fun h137 => ?_) (fun h137 => ?_)
              · refine x_iconst (pc := 144) hX dX7_ofPairs_144 ?_
                refine x_iadd (pc := 145) hX dX7_ofPairs_145 rfl ?_
                refine x_istore (pc := 146) hX (by decide) rfl rfl dX7_ofPairs_146 ?_
                refine x_aload_n (pc := 148) hX rfl rfl dX7_ofPairs_148 ?_
                refine x_getR (pc := 149) hX fl_X7_31 hK.1 rfl dX7_ofPairs_149 ?_
                refine x_iload (pc := 152) hX rfl dX7_ofPairs_152 ?_
                refine x_iconst (pc := 154) hX dX7_ofPairs_154 ?_
                refine x_iast (pc := 155) (j := 10 * chr A k + chr B k) hX hK.2.2.2.2.2.2.2.2.1 (by omega) (by omega) (by decide) dX7_ofPairs_155 ?_
                refine x_iinc (pc := 156) (v := ((k + 1 : Nat) : Int)) hX dX7_ofPairs_156 rfl (by decide) rfl (by omega) rfl ?_
                refine x_goto (pc := 159) (tgt := 38) hX dX7_ofPairs_159 (by decide) ?_
                refine ih (k + 1) _ _ _ _ _ _ (by omega) (by omega) ?_ ?_ ?_ ?_ ?_ (hq1.tr (Chg.put rfl))
                · omega
                · rw [hzt, cAl_app]
                  show _ = _ + ((if chr A k = chr B k then (1 : Int) else 0) + 0)
                  split <;> omega
                · rw [hzt, cSm_app]
                  show _ = _ + ((chr A k : Int) * (chr B k : Int) + 0)
                  omega
                · rw [hmk, uq_up hmlt v1 v3]
                  split <;> omega
                · rw [hmk]
                  exact hT.up v1 v3
              · refine x_iconst (pc := 140) hX dX7_ofPairs_140 ?_
                refine x_goto (pc := 141) (tgt := 145) hX dX7_ofPairs_141 (by decide) ?_
                refine x_iadd (pc := 145) hX dX7_ofPairs_145 rfl ?_
                refine x_istore (pc := 146) hX (by decide) rfl rfl dX7_ofPairs_146 ?_
                refine x_aload_n (pc := 148) hX rfl rfl dX7_ofPairs_148 ?_
                refine x_getR (pc := 149) hX fl_X7_31 hK.1 rfl dX7_ofPairs_149 ?_
                refine x_iload (pc := 152) hX rfl dX7_ofPairs_152 ?_
                refine x_iconst (pc := 154) hX dX7_ofPairs_154 ?_
                refine x_iast (pc := 155) (j := 10 * chr A k + chr B k) hX hK.2.2.2.2.2.2.2.2.1 (by omega) (by omega) (by decide) dX7_ofPairs_155 ?_
                refine x_iinc (pc := 156) (v := ((k + 1 : Nat) : Int)) hX dX7_ofPairs_156 rfl (by decide) rfl (by omega) rfl ?_
                refine x_goto (pc := 159) (tgt := 38) hX dX7_ofPairs_159 (by decide) ?_
                refine ih (k + 1) _ _ _ _ _ _ (by omega) (by omega) ?_ ?_ ?_ ?_ ?_ (hq1.tr (Chg.put rfl))
                · omega
                · rw [hzt, cAl_app]
                  show _ = _ + ((if chr A k = chr B k then (1 : Int) else 0) + 0)
                  split <;> omega
                · rw [hzt, cSm_app]
                  show _ = _ + ((chr A k : Int) * (chr B k : Int) + 0)
                  omega
                · rw [hmk, uq_up hmlt v1 v3]
                  split <;> omega
                · rw [hmk]
                  exact hT.up v1 v3
  have loop0 : ∀ (n i : Nat) (M1 : XM), i ≤ 100 → 100 < i + n → (∀ j, j < i → M1 148 j = 0) → Chg P48 M M1 → XW G X mX7_ofPairs (xq G (pI κ hs (fun x M' => x = aJ A B w ∧ Chg P48 M M')) 0 0 X) 0 0 14 [some (xR 140), some (xI ((min A.length B.length) : Nat)), some (xI w), some (xI 0), some (xI 0), some (xI 0), some (xI 0), some (xI (i : Int)), none] [] κ M1 hs := by
    intro n
    induction n with
    | zero => intro i M1 h1 h2; omega
    | succ n ih =>
      intro i M1 h1 h2 hz1 hq1
      refine x_iload (pc := 14) hX rfl dX7_ofPairs_14 ?_
      refine x_bipush (pc := 16) hX (by decide) dX7_ofPairs_16 ?_
      refine x_icmp_ge (pc := 18) (tgt := 35) hX dX7_ofPairs_18 (by decide) (by omega) (fun h18 => ?_) (fun h18 => ?_)
      · obtain rfl : i = 100 := by omega
        refine x_iconst (pc := 35) hX dX7_ofPairs_35 ?_
        refine x_istore (pc := 36) hX (by decide) rfl rfl dX7_ofPairs_36 ?_
        exact loop ((min A.length B.length) + 1) 0 none _ _ _ _ M1 (by omega) (by omega) (by rw [List.take_zero]; rfl) (by rw [List.take_zero]; rfl) (by rw [List.take_zero]; rfl) (by rw [List.take_zero]; decide) (by rw [List.take_zero]; exact Tb.zero hz1) hq1
      · have hi : i < 100 := by omega
        refine x_aload_n (pc := 21) hX rfl rfl dX7_ofPairs_21 ?_
        refine x_getR (pc := 22) hX fl_X7_31 hK.1 rfl dX7_ofPairs_22 ?_
        refine x_iload (pc := 25) hX rfl dX7_ofPairs_25 ?_
        refine x_iconst (pc := 27) hX dX7_ofPairs_27 ?_
        refine x_iast (pc := 28) (j := i) hX hK.2.2.2.2.2.2.2.2.1 (by omega) (by omega) (by decide) dX7_ofPairs_28 ?_
        refine x_iinc (pc := 29) (v := ((i + 1 : Nat) : Int)) hX dX7_ofPairs_29 rfl (by decide) rfl (by omega) rfl ?_
        refine x_goto (pc := 32) (tgt := 14) hX dX7_ofPairs_32 (by decide) ?_
        refine ih (i + 1) _ (by omega) (by omega) (fun j hj => ?_) (hq1.tr (Chg.put rfl))
        by_cases e : j = i
        · subst e
          rw [mp_eq]
        · rw [mp_ne _ _ e]
          exact hz1 j (by omega)
  refine x_iconst (pc := 0) hX dX7_ofPairs_0 ?_
  refine x_istore_n (pc := 1) hX rfl (by decide) rfl rfl dX7_ofPairs_1 ?_
  refine x_iconst (pc := 2) hX dX7_ofPairs_2 ?_
  refine x_istore (pc := 3) hX (by decide) rfl rfl dX7_ofPairs_3 ?_
  refine x_iconst (pc := 5) hX dX7_ofPairs_5 ?_
  refine x_istore (pc := 6) hX (by decide) rfl rfl dX7_ofPairs_6 ?_
  refine x_iconst (pc := 8) hX dX7_ofPairs_8 ?_
  refine x_istore (pc := 9) hX (by decide) rfl rfl dX7_ofPairs_9 ?_
  refine x_iconst (pc := 11) hX dX7_ofPairs_11 ?_
  refine x_istore (pc := 12) hX (by decide) rfl rfl dX7_ofPairs_12 ?_
  exact loop0 101 0 M (by omega) (by omega) (fun j hj => absurd hj (Nat.not_lt_zero _)) Chg.rf

set_option maxHeartbeats 4000000 in
set_option maxRecDepth 100000 in
theorem tX7_joined {G : XG} {κ : XKs} {M : XM} {hs : Nat} (hK : KM κ hs) {S : Sx} (hS : RM M S) (a b w : Int) (ha : InR a) (hb : InR b) (hw : InR w) {R : Int} (hR : aJoined S.1 a b w = R) : XC G mX7_joined 3 0 0 [xR 140, xI a, xI b, xI w] κ M hs (pI κ hs (fun x M' => x = R ∧ RM M' S ∧ Chg PA M M')) := by
  refine XC.intro cdX7_joined (by decide) (by decide) (Nat.le_of_ble_eq_true rfl) (loc := [some (xR 140), some (xI a), some (xI b), some (xI w)]) rfl (fun X hX => ?_)
  have ha0 := ha
  have hb0 := hb
  have hw0 := hw
  unfold InR at ha0 hb0 hw0
  refine x_iload_n (pc := 0) hX rfl rfl dX7_joined_0 ?_
  refine x_cS_P (pc := 1) hX (tX7_isColumn a ha) lk_X7_76 rfl rfl (Nat.le_of_ble_eq_true rfl) (by decide) (Nat.zero_le _) (Nat.zero_le _) dX7_joined_1 ?_
  by_cases hca1 : 0 ≤ a ∧ a ≤ 3
  · rw [if_pos hca1]
    refine x_if_eq (pc := 4) (tgt := 14) hX dX7_joined_4 (by decide) (by omega) (fun h4 => ?_) (fun h4 => ?_)
    · exfalso; omega
    · refine x_iload_n (pc := 7) hX rfl rfl dX7_joined_7 ?_
      refine x_cS_P (pc := 8) hX (tX7_isColumn b hb) lk_X7_76 rfl rfl (Nat.le_of_ble_eq_true rfl) (by decide) (Nat.zero_le _) (Nat.zero_le _) dX7_joined_8 ?_
      by_cases hcb8 : 0 ≤ b ∧ b ≤ 3
      · rw [if_pos hcb8]
        have hoka := hS.ok (c := a.toNat) (by omega)
        have hokb := hS.ok (c := b.toNat) (by omega)
        refine x_if_ne (pc := 11) (tgt := 16) hX dX7_joined_11 (by decide) (by omega) (fun h11 => ?_) (fun h11 => ?_)
        · refine x_iload_n (pc := 16) hX rfl rfl dX7_joined_16 ?_
          refine x_iconst (pc := 17) hX dX7_joined_17 ?_
          refine x_iconst (pc := 18) hX dX7_joined_18 ?_
          refine x_cS_P (pc := 19) hX (tX7_within w (0) (4) hw (by unfold InR; omega) (by unfold InR; omega)) lk_X7_48 rfl rfl (Nat.le_of_ble_eq_true rfl) (by decide) (Nat.zero_le _) (Nat.zero_le _) dX7_joined_19 ?_
          by_cases hww : 0 ≤ w ∧ w ≤ 4
          · rw [if_pos hww]
            refine x_if_eq (pc := 22) (tgt := 39) hX dX7_joined_22 (by decide) (by omega) (fun h22 => ?_) (fun h22 => ?_)
            · exfalso; omega
            · refine x_aload_n (pc := 25) hX rfl rfl dX7_joined_25 ?_
              refine x_aload_n (pc := 26) hX rfl rfl dX7_joined_26 ?_
              refine x_iload_n (pc := 27) hX rfl rfl dX7_joined_27 ?_
              refine x_iload_n (pc := 28) hX rfl rfl dX7_joined_28 ?_
              refine x_top2 (congrArg xI (show a = ((a.toNat : Nat) : Int) by omega)) ?_
              refine x_top (congrArg xI (show b = ((b.toNat : Nat) : Int) by omega)) ?_
              refine x_cV_I (pc := 29) hX (tX7_layOutBoth hK hS.1 a.toNat b.toNat (by omega) (by omega)) hK.1 rfl lk_X7_124 rfl rfl (Nat.le_of_ble_eq_true rfl) (by decide) (Nat.zero_le _) (Nat.zero_le _) dX7_joined_29 (fun x M1 hp => ?_)
              obtain ⟨rfl, hL1, hO1, hq1⟩ := hp
              refine x_iload_n (pc := 32) hX rfl rfl dX7_joined_32 ?_
              refine x_cV_I (pc := 33) hX (tX7_ofPairs hK hL1 hO1 hoka.2 hokb.2 w hww) hK.1 rfl lk_X7_159 rfl rfl (Nat.le_of_ble_eq_true rfl) (by decide) (Nat.zero_le _) (Nat.zero_le _) dX7_joined_33 (fun x M2 hp => ?_)
              obtain ⟨rfl, hq2⟩ := hp
              refine x_goto (pc := 36) (tgt := 41) hX dX7_joined_36 (by decide) ?_
              refine x_iret (pc := 41) hX rfl (Nat.zero_le _) (Nat.zero_le _) dX7_joined_41 ?_
              refine pI_i ⟨?_, (hS.scr (hq1.mono (fun q f => PB.ps))).scr (hq2.mono (fun q f => P48.ps)), (hq1.mono (fun q f z => z.ps.pa)).tr (hq2.mono (fun q f z => z.ps.pa))⟩
              rw [← hR, joined_aJ (by omega) hww]
          · rw [if_neg hww]
            refine x_if_eq (pc := 22) (tgt := 39) hX dX7_joined_22 (by decide) (by omega) (fun h22 => ?_) (fun h22 => ?_)
            · refine x_bipush (pc := 39) hX (by decide) dX7_joined_39 ?_
              refine x_iret (pc := 41) hX rfl (Nat.zero_le _) (Nat.zero_le _) dX7_joined_41 ?_
              refine pI_i ⟨?_, hS, Chg.rf⟩
              rw [← hR, joined_no (by omega) hww]
            · exfalso; omega
        · exfalso; omega
      · rw [if_neg hcb8]
        refine x_if_ne (pc := 11) (tgt := 16) hX dX7_joined_11 (by decide) (by omega) (fun h11 => ?_) (fun h11 => ?_)
        · exfalso; omega
        · refine x_iconst (pc := 14) hX dX7_joined_14 ?_
          refine x_iret (pc := 15) hX rfl (Nat.zero_le _) (Nat.zero_le _) dX7_joined_15 ?_
          refine pI_i ⟨?_, hS, Chg.rf⟩
          rw [← hR]
          unfold aJoined
          rw [if_pos (by omega)]
  · rw [if_neg hca1]
    refine x_if_eq (pc := 4) (tgt := 14) hX dX7_joined_4 (by decide) (by omega) (fun h4 => ?_) (fun h4 => ?_)
    · refine x_iconst (pc := 14) hX dX7_joined_14 ?_
      refine x_iret (pc := 15) hX rfl (Nat.zero_le _) (Nat.zero_le _) dX7_joined_15 ?_
      refine pI_i ⟨?_, hS, Chg.rf⟩
      rw [← hR]
      unfold aJoined
      rw [if_pos (by omega)]
    · exfalso; omega

set_option maxHeartbeats 4000000 in
set_option maxRecDepth 100000 in
theorem tX7_alike {G : XG} {κ : XKs} {M : XM} {hs : Nat} (hK : KM κ hs) {S : Sx} (hS : RM M S) (a b : Int) (ha : InR a) (hb : InR b) {R : Int} (hR : aAlike S.1 a b = R) : XC G mX7_alike 2 0 0 [xR 140, xI a, xI b] κ M hs (pI κ hs (fun x M' => x = R ∧ RM M' S ∧ Chg PA M M')) := by
  refine XC.intro cdX7_alike (by decide) (by decide) (Nat.le_of_ble_eq_true rfl) (loc := [some (xR 140), some (xI a), some (xI b), none, none]) rfl (fun X hX => ?_)
  have ha0 := ha
  have hb0 := hb
  unfold InR at ha0 hb0
  refine x_iload_n (pc := 0) hX rfl rfl dX7_alike_0 ?_
  refine x_cS_P (pc := 1) hX (tX7_isColumn a ha) lk_X7_76 rfl rfl (Nat.le_of_ble_eq_true rfl) (by decide) (Nat.zero_le _) (Nat.zero_le _) dX7_alike_1 ?_
  by_cases hca1 : 0 ≤ a ∧ a ≤ 3
  · rw [if_pos hca1]
    refine x_if_eq (pc := 4) (tgt := 14) hX dX7_alike_4 (by decide) (by omega) (fun h4 => ?_) (fun h4 => ?_)
    · exfalso; omega
    · refine x_iload_n (pc := 7) hX rfl rfl dX7_alike_7 ?_
      refine x_cS_P (pc := 8) hX (tX7_isColumn b hb) lk_X7_76 rfl rfl (Nat.le_of_ble_eq_true rfl) (by decide) (Nat.zero_le _) (Nat.zero_le _) dX7_alike_8 ?_
      by_cases hcb8 : 0 ≤ b ∧ b ≤ 3
      · rw [if_pos hcb8]
        refine x_if_ne (pc := 11) (tgt := 16) hX dX7_alike_11 (by decide) (by omega) (fun h11 => ?_) (fun h11 => ?_)
        · refine x_iconst (pc := 16) hX dX7_alike_16 ?_
          refine x_istore_n (pc := 17) hX rfl (by decide) rfl rfl dX7_alike_17 ?_
          refine x_iconst (pc := 18) hX dX7_alike_18 ?_
          refine x_istore (pc := 19) hX (by decide) rfl rfl dX7_alike_19 ?_
          have loop : ∀ (n k : Nat), k ≤ 10 → 10 < k + n → XW G X mX7_alike (xq G (pI κ hs (fun x M' => x = R ∧ RM M' S ∧ Chg PA M M')) 0 0 X) 0 0 21 [some (xR 140), some (xI a), some (xI b), some (xI (sumTo (fun v => fRows (v : Int) 0 (enc (S.1 a.toNat)) * fRows (v : Int) 0 (enc (S.1 b.toNat))) k)), some (xI (k : Int))] [] κ M hs := by
            intro n
            induction n with
            | zero => intro k h1 h2; omega
            | succ n ih =>
              intro k h1 h2
              refine x_iload (pc := 21) hX rfl dX7_alike_21 ?_
              refine x_bipush (pc := 23) hX (by decide) dX7_alike_23 ?_
              refine x_icmp_ge (pc := 25) (tgt := 54) hX dX7_alike_25 (by decide) (by omega) (fun h25 => ?_) (fun h25 => ?_)
              · obtain rfl : k = 10 := by omega
                refine x_iload_n (pc := 54) hX rfl rfl dX7_alike_54 ?_
                refine x_iret (pc := 55) hX rfl (Nat.zero_le _) (Nat.zero_le _) dX7_alike_55 ?_
                refine pI_i ⟨?_, hS, Chg.rf⟩
                rw [← hR]
                unfold aAlike
                rw [if_neg (by omega)]
              · have hk : k < 10 := by omega
                refine x_iload_n (pc := 28) hX rfl rfl dX7_alike_28 ?_
                refine x_aload_n (pc := 29) hX rfl rfl dX7_alike_29 ?_
                refine x_iload_n (pc := 30) hX rfl rfl dX7_alike_30 ?_
                refine x_iload (pc := 31) hX rfl dX7_alike_31 ?_
                refine x_iconst (pc := 33) hX dX7_alike_33 ?_
                refine x_top3 (congrArg xI (show a = ((a.toNat : Nat) : Int) by omega)) ?_
                refine x_cV_P (pc := 34) hX (tX7_ofValue hK hS.1 a.toNat (by omega) (k : Int) (by unfold InR; omega) 0 (Or.inl rfl)) hK.1 rfl lk_X7_143 rfl rfl (Nat.le_of_ble_eq_true rfl) (by decide) (Nat.zero_le _) (Nat.zero_le _) dX7_alike_34 ?_
                refine x_top (congrArg xI (if_pos rfl)) ?_
                refine x_aload_n (pc := 37) hX rfl rfl dX7_alike_37 ?_
                refine x_iload_n (pc := 38) hX rfl rfl dX7_alike_38 ?_
                refine x_iload (pc := 39) hX rfl dX7_alike_39 ?_
                refine x_iconst (pc := 41) hX dX7_alike_41 ?_
                refine x_top3 (congrArg xI (show b = ((b.toNat : Nat) : Int) by omega)) ?_
                refine x_cV_P (pc := 42) hX (tX7_ofValue hK hS.1 b.toNat (by omega) (k : Int) (by unfold InR; omega) 0 (Or.inl rfl)) hK.1 rfl lk_X7_143 rfl rfl (Nat.le_of_ble_eq_true rfl) (by decide) (Nat.zero_le _) (Nat.zero_le _) dX7_alike_42 ?_
                refine x_top (congrArg xI (if_pos rfl)) ?_
                refine x_imul (pc := 45) hX dX7_alike_45 rfl ?_
                refine x_iadd (pc := 46) (v := (sumTo (fun v => fRows (v : Int) 0 (enc (S.1 a.toNat)) * fRows (v : Int) 0 (enc (S.1 b.toNat))) (k + 1))) hX dX7_alike_46 rfl ?_
                refine x_istore_n (pc := 47) hX rfl (by decide) rfl rfl dX7_alike_47 ?_
                refine x_iinc (pc := 48) (v := ((k + 1 : Nat) : Int)) hX dX7_alike_48 rfl (by decide) rfl (by omega) rfl ?_
                refine x_goto (pc := 51) (tgt := 21) hX dX7_alike_51 (by decide) ?_
                exact ih (k + 1) (by omega) (by omega)
          exact loop 11 0 (by omega) (by omega)
        · exfalso; omega
      · rw [if_neg hcb8]
        refine x_if_ne (pc := 11) (tgt := 16) hX dX7_alike_11 (by decide) (by omega) (fun h11 => ?_) (fun h11 => ?_)
        · exfalso; omega
        · refine x_iconst (pc := 14) hX dX7_alike_14 ?_
          refine x_iret (pc := 15) hX rfl (Nat.zero_le _) (Nat.zero_le _) dX7_alike_15 ?_
          refine pI_i ⟨?_, hS, Chg.rf⟩
          rw [← hR]
          unfold aAlike
          rw [if_pos (by omega)]
  · rw [if_neg hca1]
    refine x_if_eq (pc := 4) (tgt := 14) hX dX7_alike_4 (by decide) (by omega) (fun h4 => ?_) (fun h4 => ?_)
    · refine x_iconst (pc := 14) hX dX7_alike_14 ?_
      refine x_iret (pc := 15) hX rfl (Nat.zero_le _) (Nat.zero_le _) dX7_alike_15 ?_
      refine pI_i ⟨?_, hS, Chg.rf⟩
      rw [← hR]
      unfold aAlike
      rw [if_pos (by omega)]
    · exfalso; omega

set_option maxHeartbeats 4000000 in
set_option maxRecDepth 100000 in
theorem tX7_saves {G : XG} {κ : XKs} {M : XM} {hs : Nat} (hK : KM κ hs) {S : Sx} (hS : RM M S) (c : Int) (hc : InR c) {R : Int} (hR : aSaves S.1 c = R) : XC G mX7_saves 2 0 0 [xR 140, xI c] κ M hs (pI κ hs (fun x M' => x = R ∧ RM M' S ∧ Chg PA M M')) := by
  refine XC.intro cdX7_saves (by decide) (by decide) (Nat.le_of_ble_eq_true rfl) (loc := [some (xR 140), some (xI c)]) rfl (fun X hX => ?_)
  have hc0 := hc
  unfold InR at hc0
  refine x_iload_n (pc := 0) hX rfl rfl dX7_saves_0 ?_
  refine x_cS_P (pc := 1) hX (tX7_isColumn c hc) lk_X7_76 rfl rfl (Nat.le_of_ble_eq_true rfl) (by decide) (Nat.zero_le _) (Nat.zero_le _) dX7_saves_1 ?_
  by_cases hcc1 : 0 ≤ c ∧ c ≤ 3
  · rw [if_pos hcc1]
    refine x_if_eq (pc := 4) (tgt := 24) hX dX7_saves_4 (by decide) (by omega) (fun h4 => ?_) (fun h4 => ?_)
    · exfalso; omega
    · refine x_aload_n (pc := 7) hX rfl rfl dX7_saves_7 ?_
      refine x_iload_n (pc := 8) hX rfl rfl dX7_saves_8 ?_
      refine x_top (congrArg xI (show c = ((c.toNat : Nat) : Int) by omega)) ?_
      refine x_cV_P (pc := 9) hX (tX7_runsOf hK hS.1 c.toNat (by omega)) hK.1 rfl lk_X7_52 rfl rfl (Nat.le_of_ble_eq_true rfl) (by decide) (Nat.zero_le _) (Nat.zero_le _) dX7_saves_9 ?_
      refine x_aload_n (pc := 12) hX rfl rfl dX7_saves_12 ?_
      refine x_iload_n (pc := 13) hX rfl rfl dX7_saves_13 ?_
      refine x_top (congrArg xI (show c = ((c.toNat : Nat) : Int) by omega)) ?_
      refine x_cV_P (pc := 14) hX (tX7_valuesOf hK hS.1 c.toNat (by omega)) hK.1 rfl lk_X7_136 rfl rfl (Nat.le_of_ble_eq_true rfl) (by decide) (Nat.zero_le _) (Nat.zero_le _) dX7_saves_14 ?_
      refine x_cS_P (pc := 17) hX (tX7_bits _ (fSet_lt _ 0 (by decide) (fun q hq => (hS.ok (c := c.toNat) (by omega)).2 _ (enc_mem hq)))) lk_X7_162 rfl rfl (Nat.le_of_ble_eq_true rfl) (by decide) (Nat.zero_le _) (Nat.zero_le _) dX7_saves_17 ?_
      refine x_isub (pc := 20) hX dX7_saves_20 rfl ?_
      refine x_goto (pc := 21) (tgt := 25) hX dX7_saves_21 (by decide) ?_
      refine x_iret (pc := 25) hX rfl (Nat.zero_le _) (Nat.zero_le _) dX7_saves_25 ?_
      refine pI_i ⟨?_, hS, Chg.rf⟩
      rw [← hR]
      unfold aSaves
      first | rw [if_neg (by omega)] | rw [if_pos (by omega)]
  · rw [if_neg hcc1]
    refine x_if_eq (pc := 4) (tgt := 24) hX dX7_saves_4 (by decide) (by omega) (fun h4 => ?_) (fun h4 => ?_)
    · refine x_iconst (pc := 24) hX dX7_saves_24 ?_
      refine x_iret (pc := 25) hX rfl (Nat.zero_le _) (Nat.zero_le _) dX7_saves_25 ?_
      refine pI_i ⟨?_, hS, Chg.rf⟩
      rw [← hR]
      unfold aSaves
      first | rw [if_neg (by omega)] | rw [if_pos (by omega)]
    · exfalso; omega

set_option maxHeartbeats 4000000 in
set_option maxRecDepth 100000 in
theorem tX7_beginnings {G : XG} {κ : XKs} {M : XM} {hs : Nat} (hK : KM κ hs) {l : List Nat} (hL : Lay M l) (h9 : ∀ i, chr l i ≤ 9) (r : Nat) (hr : r < l.length) : XC G mX7_beginnings 0 0 0 [xR 140, xI (r : Int)] κ M hs (pP κ M hs (xI (beg l r))) := by
  refine XC.intro cdX7_beginnings (by decide) (by decide) (Nat.le_of_ble_eq_true rfl) (loc := [some (xR 140), some (xI (r : Int)), none]) rfl (fun X hX => ?_)
  have hl1 := hL.2.1
  have v1 := h9 r
  have v2 := h9 (r - 1)
  have v3 := h9 (r + 1)
  refine x_iload_n (pc := 0) hX rfl rfl dX7_beginnings_0 ?_
  refine x_if_eq (pc := 1) (tgt := 21) hX dX7_beginnings_1 (by decide) (by omega) (fun h1 => ?_) (fun h1 => ?_)
  · refine x_iconst (pc := 21) hX dX7_beginnings_21 ?_
    refine x_goto (pc := 22) (tgt := 26) hX dX7_beginnings_22 (by decide) ?_
    refine x_istore_n (pc := 26) hX rfl (by decide) rfl rfl dX7_beginnings_26 ?_
    refine x_iload_n (pc := 27) hX rfl rfl dX7_beginnings_27 ?_
    refine x_iload_n (pc := 28) hX rfl rfl dX7_beginnings_28 ?_
    refine x_aload_n (pc := 29) hX rfl rfl dX7_beginnings_29 ?_
    refine x_getI (pc := 30) (v := (l.length : Int)) hX fl_X7_63 hK.1 rfl hL.1 dX7_beginnings_30 ?_
    refine x_iconst (pc := 33) hX dX7_beginnings_33 ?_
    refine x_isub (pc := 34) hX dX7_beginnings_34 rfl ?_
    refine x_icmp_ge (pc := 35) (tgt := 59) hX dX7_beginnings_35 (by decide) (by omega) (fun h35 => ?_) (fun h35 => ?_)
    · refine x_iconst (pc := 59) hX dX7_beginnings_59 ?_
      refine x_iadd (pc := 60) hX dX7_beginnings_60 rfl ?_
      refine x_iret (pc := 61) hX rfl (Nat.zero_le _) (Nat.zero_le _) dX7_beginnings_61 ?_
      refine pP_i (congrArg xI ?_)
      unfold beg
      repeat' split
      all_goals omega
    · refine x_aload_n (pc := 38) hX rfl rfl dX7_beginnings_38 ?_
      refine x_getR (pc := 39) hX fl_X7_25 hK.1 rfl dX7_beginnings_39 ?_
      refine x_iload_n (pc := 42) hX rfl rfl dX7_beginnings_42 ?_
      refine x_iconst (pc := 43) hX dX7_beginnings_43 ?_
      refine x_iadd (pc := 44) hX dX7_beginnings_44 rfl ?_
      refine x_iald (pc := 45) (j := r + 1) (v := (chr l (r + 1) : Int)) hX hK.2.2.2.2.2.2.1 (by omega) (by omega) (by decide) (hL.2.2 _ (by omega)) dX7_beginnings_45 ?_
      refine x_aload_n (pc := 46) hX rfl rfl dX7_beginnings_46 ?_
      refine x_getR (pc := 47) hX fl_X7_25 hK.1 rfl dX7_beginnings_47 ?_
      refine x_iload_n (pc := 50) hX rfl rfl dX7_beginnings_50 ?_
      refine x_iald (pc := 51) (j := r) (v := (chr l r : Int)) hX hK.2.2.2.2.2.2.1 (by omega) (by omega) (by decide) (hL.2.2 r hr) dX7_beginnings_51 ?_
      refine x_icmp_eq (pc := 52) (tgt := 59) hX dX7_beginnings_52 (by decide) (by omega) (fun h52 => ?_) (fun h52 => ?_)
      · refine x_iconst (pc := 59) hX dX7_beginnings_59 ?_
        refine x_iadd (pc := 60) hX dX7_beginnings_60 rfl ?_
        refine x_iret (pc := 61) hX rfl (Nat.zero_le _) (Nat.zero_le _) dX7_beginnings_61 ?_
        refine pP_i (congrArg xI ?_)
        unfold beg
        repeat' split
        all_goals omega
      · refine x_iconst (pc := 55) hX dX7_beginnings_55 ?_
        refine x_goto (pc := 56) (tgt := 60) hX dX7_beginnings_56 (by decide) ?_
        refine x_iadd (pc := 60) hX dX7_beginnings_60 rfl ?_
        refine x_iret (pc := 61) hX rfl (Nat.zero_le _) (Nat.zero_le _) dX7_beginnings_61 ?_
        refine pP_i (congrArg xI ?_)
        unfold beg
        repeat' split
        all_goals omega
  · refine x_aload_n (pc := 4) hX rfl rfl dX7_beginnings_4 ?_
    refine x_getR (pc := 5) hX fl_X7_25 hK.1 rfl dX7_beginnings_5 ?_
    refine x_iload_n (pc := 8) hX rfl rfl dX7_beginnings_8 ?_
    refine x_iald (pc := 9) (j := r) (v := (chr l r : Int)) hX hK.2.2.2.2.2.2.1 (by omega) (by omega) (by decide) (hL.2.2 r hr) dX7_beginnings_9 ?_
    refine x_aload_n (pc := 10) hX rfl rfl dX7_beginnings_10 ?_
    refine x_getR (pc := 11) hX fl_X7_25 hK.1 rfl dX7_beginnings_11 ?_
    refine x_iload_n (pc := 14) hX rfl rfl dX7_beginnings_14 ?_
    refine x_iconst (pc := 15) hX dX7_beginnings_15 ?_
    refine x_isub (pc := 16) hX dX7_beginnings_16 rfl ?_
    refine x_iald (pc := 17) (j := r - 1) (v := (chr l (r - 1) : Int)) hX hK.2.2.2.2.2.2.1 (by omega) (by omega) (by decide) (hL.2.2 _ (by omega)) dX7_beginnings_17 ?_
    refine x_icmp_eq (pc := 18) (tgt := 25) hX dX7_beginnings_18 (by decide) (by omega) (fun h18 => ?_) (fun h18 => ?_)
    · refine x_iconst (pc := 25) hX dX7_beginnings_25 ?_
      refine x_istore_n (pc := 26) hX rfl (by decide) rfl rfl dX7_beginnings_26 ?_
      refine x_iload_n (pc := 27) hX rfl rfl dX7_beginnings_27 ?_
      refine x_iload_n (pc := 28) hX rfl rfl dX7_beginnings_28 ?_
      refine x_aload_n (pc := 29) hX rfl rfl dX7_beginnings_29 ?_
      refine x_getI (pc := 30) (v := (l.length : Int)) hX fl_X7_63 hK.1 rfl hL.1 dX7_beginnings_30 ?_
      refine x_iconst (pc := 33) hX dX7_beginnings_33 ?_
      refine x_isub (pc := 34) hX dX7_beginnings_34 rfl ?_
      refine x_icmp_ge (pc := 35) (tgt := 59) hX dX7_beginnings_35 (by decide) (by omega) (fun h35 => ?_) (fun h35 => ?_)
      · refine x_iconst (pc := 59) hX dX7_beginnings_59 ?_
        refine x_iadd (pc := 60) hX dX7_beginnings_60 rfl ?_
        refine x_iret (pc := 61) hX rfl (Nat.zero_le _) (Nat.zero_le _) dX7_beginnings_61 ?_
        refine pP_i (congrArg xI ?_)
        unfold beg
        repeat' split
        all_goals omega
      · refine x_aload_n (pc := 38) hX rfl rfl dX7_beginnings_38 ?_
        refine x_getR (pc := 39) hX fl_X7_25 hK.1 rfl dX7_beginnings_39 ?_
        refine x_iload_n (pc := 42) hX rfl rfl dX7_beginnings_42 ?_
        refine x_iconst (pc := 43) hX dX7_beginnings_43 ?_
        refine x_iadd (pc := 44) hX dX7_beginnings_44 rfl ?_
        refine x_iald (pc := 45) (j := r + 1) (v := (chr l (r + 1) : Int)) hX hK.2.2.2.2.2.2.1 (by omega) (by omega) (by decide) (hL.2.2 _ (by omega)) dX7_beginnings_45 ?_
        refine x_aload_n (pc := 46) hX rfl rfl dX7_beginnings_46 ?_
        refine x_getR (pc := 47) hX fl_X7_25 hK.1 rfl dX7_beginnings_47 ?_
        refine x_iload_n (pc := 50) hX rfl rfl dX7_beginnings_50 ?_
        refine x_iald (pc := 51) (j := r) (v := (chr l r : Int)) hX hK.2.2.2.2.2.2.1 (by omega) (by omega) (by decide) (hL.2.2 r hr) dX7_beginnings_51 ?_
        refine x_icmp_eq (pc := 52) (tgt := 59) hX dX7_beginnings_52 (by decide) (by omega) (fun h52 => ?_) (fun h52 => ?_)
        · refine x_iconst (pc := 59) hX dX7_beginnings_59 ?_
          refine x_iadd (pc := 60) hX dX7_beginnings_60 rfl ?_
          refine x_iret (pc := 61) hX rfl (Nat.zero_le _) (Nat.zero_le _) dX7_beginnings_61 ?_
          refine pP_i (congrArg xI ?_)
          unfold beg
          repeat' split
          all_goals omega
        · refine x_iconst (pc := 55) hX dX7_beginnings_55 ?_
          refine x_goto (pc := 56) (tgt := 60) hX dX7_beginnings_56 (by decide) ?_
          refine x_iadd (pc := 60) hX dX7_beginnings_60 rfl ?_
          refine x_iret (pc := 61) hX rfl (Nat.zero_le _) (Nat.zero_le _) dX7_beginnings_61 ?_
          refine pP_i (congrArg xI ?_)
          unfold beg
          repeat' split
          all_goals omega
    · refine x_iconst (pc := 21) hX dX7_beginnings_21 ?_
      refine x_goto (pc := 22) (tgt := 26) hX dX7_beginnings_22 (by decide) ?_
      refine x_istore_n (pc := 26) hX rfl (by decide) rfl rfl dX7_beginnings_26 ?_
      refine x_iload_n (pc := 27) hX rfl rfl dX7_beginnings_27 ?_
      refine x_iload_n (pc := 28) hX rfl rfl dX7_beginnings_28 ?_
      refine x_aload_n (pc := 29) hX rfl rfl dX7_beginnings_29 ?_
      refine x_getI (pc := 30) (v := (l.length : Int)) hX fl_X7_63 hK.1 rfl hL.1 dX7_beginnings_30 ?_
      refine x_iconst (pc := 33) hX dX7_beginnings_33 ?_
      refine x_isub (pc := 34) hX dX7_beginnings_34 rfl ?_
      refine x_icmp_ge (pc := 35) (tgt := 59) hX dX7_beginnings_35 (by decide) (by omega) (fun h35 => ?_) (fun h35 => ?_)
      · refine x_iconst (pc := 59) hX dX7_beginnings_59 ?_
        refine x_iadd (pc := 60) hX dX7_beginnings_60 rfl ?_
        refine x_iret (pc := 61) hX rfl (Nat.zero_le _) (Nat.zero_le _) dX7_beginnings_61 ?_
        refine pP_i (congrArg xI ?_)
        unfold beg
        repeat' split
        all_goals omega
      · refine x_aload_n (pc := 38) hX rfl rfl dX7_beginnings_38 ?_
        refine x_getR (pc := 39) hX fl_X7_25 hK.1 rfl dX7_beginnings_39 ?_
        refine x_iload_n (pc := 42) hX rfl rfl dX7_beginnings_42 ?_
        refine x_iconst (pc := 43) hX dX7_beginnings_43 ?_
        refine x_iadd (pc := 44) hX dX7_beginnings_44 rfl ?_
        refine x_iald (pc := 45) (j := r + 1) (v := (chr l (r + 1) : Int)) hX hK.2.2.2.2.2.2.1 (by omega) (by omega) (by decide) (hL.2.2 _ (by omega)) dX7_beginnings_45 ?_
        refine x_aload_n (pc := 46) hX rfl rfl dX7_beginnings_46 ?_
        refine x_getR (pc := 47) hX fl_X7_25 hK.1 rfl dX7_beginnings_47 ?_
        refine x_iload_n (pc := 50) hX rfl rfl dX7_beginnings_50 ?_
        refine x_iald (pc := 51) (j := r) (v := (chr l r : Int)) hX hK.2.2.2.2.2.2.1 (by omega) (by omega) (by decide) (hL.2.2 r hr) dX7_beginnings_51 ?_
        refine x_icmp_eq (pc := 52) (tgt := 59) hX dX7_beginnings_52 (by decide) (by omega) (fun h52 => ?_) (fun h52 => ?_)
        · refine x_iconst (pc := 59) hX dX7_beginnings_59 ?_
          refine x_iadd (pc := 60) hX dX7_beginnings_60 rfl ?_
          refine x_iret (pc := 61) hX rfl (Nat.zero_le _) (Nat.zero_le _) dX7_beginnings_61 ?_
          refine pP_i (congrArg xI ?_)
          unfold beg
          repeat' split
          all_goals omega
        · refine x_iconst (pc := 55) hX dX7_beginnings_55 ?_
          refine x_goto (pc := 56) (tgt := 60) hX dX7_beginnings_56 (by decide) ?_
          refine x_iadd (pc := 60) hX dX7_beginnings_60 rfl ?_
          refine x_iret (pc := 61) hX rfl (Nat.zero_le _) (Nat.zero_le _) dX7_beginnings_61 ?_
          refine pP_i (congrArg xI ?_)
          unfold beg
          repeat' split
          all_goals omega

theorem Lay.put {M : XM} {l : List Nat} (h : Lay M l) {k : Nat} (hk : k < l.length) (v : Nat) : Lay (mput M 146 k (v : Int)) (l.set k v) := by
  refine ⟨by rw [mput_ne _ _ _ (by decide), List.length_set]; exact h.1, by rw [List.length_set]; exact h.2.1, fun i hi => ?_⟩
  rw [List.length_set] at hi
  rw [chr_set _ _ _ _ hk]
  by_cases e : i = k
  · rw [if_pos e, e, mp_eq]
  · rw [if_neg e, mp_ne _ _ e]
    exact h.2.2 i hi
theorem Lay.back {M : XM} {l : List Nat} (h : Lay M l) {k : Nat} (hk : k < l.length) {v : Int} : Lay (mput (mput M 146 k v) 146 k (chr l k : Int)) l := by
  refine ⟨by rw [mput_ne _ _ _ (by decide), mput_ne _ _ _ (by decide)]; exact h.1, h.2.1, fun i hi => ?_⟩
  by_cases e : i = k
  · rw [e, mp_eq]
  · rw [mp_ne _ _ e, mp_ne _ _ e]
    exact h.2.2 i hi
set_option maxHeartbeats 4000000 in
set_option maxRecDepth 100000 in
theorem tX7_bestSet {G : XG} {κ : XKs} {M : XM} {hs : Nat} (hK : KM κ hs) {S : Sx} (hS : RM M S) (c v w : Int) (hc : InR c) (hv : InR v) (hw : InR w) {R : Int} (hR : aBest S.1 c v w = R) : XC G mX7_bestSet 2 0 0 [xR 140, xI c, xI v, xI w] κ M hs (pI κ hs (fun x M' => x = R ∧ RM M' S ∧ Chg PA M M')) := by
  refine XC.intro cdX7_bestSet (by decide) (by decide) (Nat.le_of_ble_eq_true rfl) (loc := [some (xR 140), some (xI c), some (xI v), some (xI w), none, none, none, none, none, none]) rfl (fun X hX => ?_)
  have hc0 := hc
  have hv0 := hv
  have hw0 := hw
  unfold InR at hc0 hv0 hw0
  refine x_iload_n (pc := 0) hX rfl rfl dX7_bestSet_0 ?_
  refine x_cS_P (pc := 1) hX (tX7_isColumn c hc) lk_X7_76 rfl rfl (Nat.le_of_ble_eq_true rfl) (by decide) (Nat.zero_le _) (Nat.zero_le _) dX7_bestSet_1 ?_
  by_cases hcc1 : 0 ≤ c ∧ c ≤ 3
  · rw [if_pos hcc1]
    have hok := hS.ok (c := c.toNat) (by omega)
    have hf9 := hok.1.1
    refine x_if_ne (pc := 4) (tgt := 9) hX dX7_bestSet_4 (by decide) (by omega) (fun h4 => ?_) (fun h4 => ?_)
    · refine x_iload_n (pc := 9) hX rfl rfl dX7_bestSet_9 ?_
      refine x_cS_P (pc := 10) hX (tX7_isValue v hv) lk_X7_80 rfl rfl (Nat.le_of_ble_eq_true rfl) (by decide) (Nat.zero_le _) (Nat.zero_le _) dX7_bestSet_10 ?_
      by_cases hvv10 : 0 ≤ v ∧ v ≤ 9
      · rw [if_pos hvv10]
        refine x_if_eq (pc := 13) (tgt := 25) hX dX7_bestSet_13 (by decide) (by omega) (fun h13 => ?_) (fun h13 => ?_)
        · exfalso; omega
        · refine x_iload_n (pc := 16) hX rfl rfl dX7_bestSet_16 ?_
          refine x_iconst (pc := 17) hX dX7_bestSet_17 ?_
          refine x_iconst (pc := 18) hX dX7_bestSet_18 ?_
          refine x_cS_P (pc := 19) hX (tX7_within w (0) (1) hw (by unfold InR; omega) (by unfold InR; omega)) lk_X7_48 rfl rfl (Nat.le_of_ble_eq_true rfl) (by decide) (Nat.zero_le _) (Nat.zero_le _) dX7_bestSet_19 ?_
          by_cases hww : 0 ≤ w ∧ w ≤ 1
          · rw [if_pos hww]
            obtain ⟨vN, rfl⟩ := Int.eq_ofNat_of_zero_le (show 0 ≤ v by omega)
            refine x_if_ne (pc := 22) (tgt := 28) hX dX7_bestSet_22 (by decide) (by omega) (fun h22 => ?_) (fun h22 => ?_)
            · refine x_aload_n (pc := 28) hX rfl rfl dX7_bestSet_28 ?_
              refine x_iload_n (pc := 29) hX rfl rfl dX7_bestSet_29 ?_
              refine x_top (congrArg xI (show c = ((c.toNat : Nat) : Int) by omega)) ?_
              refine x_cV_V (pc := 30) hX (tX7_layOut hK hS.1 c.toNat (by omega)) hK.1 rfl lk_X7_83 rfl rfl (Nat.le_of_ble_eq_true rfl) (by decide) (Nat.zero_le _) (Nat.zero_le _) dX7_bestSet_30 (fun M1 hp => ?_)
              obtain ⟨hL1, hq1⟩ := hp
              have loop : ∀ (n k : Nat) (z1 z2 z3 : Option XV) (best least : Int) (M1 : XM), k ≤ (S.1 c.toNat).length → (S.1 c.toNat).length < k + n → bqI (enc (S.1 c.toNat)) (vN : Int) k best least → Lay M1 (S.1 c.toNat) → Chg PL M M1 → XW G X mX7_bestSet (xq G (pI κ hs (fun x M' => x = R ∧ RM M' S ∧ Chg PA M M')) 0 0 X) 0 0 43 [some (xR 140), some (xI c), some (xI (vN : Int)), some (xI w), some (xI best), some (xI least), some (xI (k : Int)), z1, z2, z3] [] κ M1 hs := by
                intro n
                induction n with
                | zero => intro k z1 z2 z3 best least M1 h1 h2; omega
                | succ n ih =>
                  intro k z1 z2 z3 best least M1 h1 h2 hI hL hq1
                  have hS1 : MS (M1 141) 0 S.1 := by rw [hq1.cell (fun f => by unfold PL; omega)]; exact hS.1
                  refine x_iload (pc := 43) hX rfl dX7_bestSet_43 ?_
                  refine x_aload_n (pc := 45) hX rfl rfl dX7_bestSet_45 ?_
                  refine x_getI (pc := 46) (v := ((S.1 c.toNat).length : Int)) hX fl_X7_63 hK.1 rfl hL.1 dX7_bestSet_46 ?_
                  refine x_icmp_ge (pc := 49) (tgt := 158) hX dX7_bestSet_49 (by decide) (by omega) (fun h49 => ?_) (fun h49 => ?_)
                  · obtain rfl : k = (S.1 c.toNat).length := by omega
                    have hbl := bq_le (enc (S.1 c.toNat)) (vN : Int) (S.1 c.toNat).length
                    have hRR := best_at (w := w) (show 0 ≤ c ∧ c < 4 by omega) (show 0 ≤ (vN : Int) ∧ (vN : Int) ≤ 9 by omega) (by omega) hI
                    have hbr : -6 ≤ best ∧ best ≤ 1000 := by
                      rcases hI with ⟨z1, z2⟩ | ⟨z1, z2, z3⟩ <;> omega
                    refine x_iload (pc := 158) hX rfl dX7_bestSet_158 ?_
                    refine x_bipush (pc := 160) hX (by decide) dX7_bestSet_160 ?_
                    refine x_icmp_eq (pc := 162) (tgt := 169) hX dX7_bestSet_162 (by decide) (by omega) (fun h162 => ?_) (fun h162 => ?_)
                    · refine x_iload (pc := 169) hX rfl dX7_bestSet_169 ?_
                      refine x_goto (pc := 171) (tgt := 176) hX dX7_bestSet_171 (by decide) ?_
                      refine x_iret (pc := 176) hX rfl (Nat.zero_le _) (Nat.zero_le _) dX7_bestSet_176 ?_
                      refine pI_i ⟨?_, hS.scr (hq1.mono (fun q f => PL.ps)), hq1.mono (fun q f z => z.ps.pa)⟩
                      rw [← hR, hRR]
                      split <;> omega
                    · refine x_iload_n (pc := 165) hX rfl rfl dX7_bestSet_165 ?_
                      refine x_if_ne (pc := 166) (tgt := 174) hX dX7_bestSet_166 (by decide) (by omega) (fun h166 => ?_) (fun h166 => ?_)
                      · refine x_iload (pc := 174) hX rfl dX7_bestSet_174 ?_
                        refine x_iret (pc := 176) hX rfl (Nat.zero_le _) (Nat.zero_le _) dX7_bestSet_176 ?_
                        refine pI_i ⟨?_, hS.scr (hq1.mono (fun q f => PL.ps)), hq1.mono (fun q f z => z.ps.pa)⟩
                        rw [← hR, hRR]
                        split <;> omega
                      · refine x_iload (pc := 169) hX rfl dX7_bestSet_169 ?_
                        refine x_goto (pc := 171) (tgt := 176) hX dX7_bestSet_171 (by decide) ?_
                        refine x_iret (pc := 176) hX rfl (Nat.zero_le _) (Nat.zero_le _) dX7_bestSet_176 ?_
                        refine pI_i ⟨?_, hS.scr (hq1.mono (fun q f => PL.ps)), hq1.mono (fun q f z => z.ps.pa)⟩
                        rw [← hR, hRR]
                        split <;> omega
                  · have hkl : k < (S.1 c.toNat).length := by omega
                    have hv1 := chr_le9 hok.2 k
                    have hbl := bq_le (enc (S.1 c.toNat)) (vN : Int) k
                    have has := asets_rng2 hok.1.2 k (vN : Int)
                    have hbr : -6 ≤ best ∧ best ≤ 1000 ∧ (best ≠ -6 → -2 ≤ least ∧ least ≤ 42) := by
                      rcases hI with ⟨z1, z2⟩ | ⟨z1, z2, z3⟩
                      · exact ⟨by omega, by omega, fun z => absurd z2 z⟩
                      · have z4 := asets_rng2 hok.1.2 (bq (enc (S.1 c.toNat)) (vN : Int) k).1 (vN : Int)
                        rw [hbl.2] at z3
                        exact ⟨by omega, by omega, fun _ => by omega⟩
                    refine x_aload_n (pc := 52) hX rfl rfl dX7_bestSet_52 ?_
                    refine x_getR (pc := 53) hX fl_X7_25 hK.1 rfl dX7_bestSet_53 ?_
                    refine x_iload (pc := 56) hX rfl dX7_bestSet_56 ?_
                    refine x_iald (pc := 58) (j := k) (v := (chr (S.1 c.toNat) k : Int)) hX hK.2.2.2.2.2.2.1 (by omega) (by omega) (by decide) (hL.2.2 k hkl) dX7_bestSet_58 ?_
                    refine x_istore (pc := 59) hX (by decide) rfl rfl dX7_bestSet_59 ?_
                    refine x_aload_n (pc := 61) hX rfl rfl dX7_bestSet_61 ?_
                    refine x_iload_n (pc := 62) hX rfl rfl dX7_bestSet_62 ?_
                    refine x_top (congrArg xI (show c = ((c.toNat : Nat) : Int) by omega)) ?_
                    refine x_cV_P (pc := 63) hX (tX7_runsOf hK hS1 c.toNat (by omega)) hK.1 rfl lk_X7_52 rfl rfl (Nat.le_of_ble_eq_true rfl) (by decide) (Nat.zero_le _) (Nat.zero_le _) dX7_bestSet_63 ?_
                    refine x_aload_n (pc := 66) hX rfl rfl dX7_bestSet_66 ?_
                    refine x_iload (pc := 67) hX rfl dX7_bestSet_67 ?_
                    refine x_cV_P (pc := 69) hX (tX7_beginnings hK hL (chr_le9 hok.2) k hkl) hK.1 rfl lk_X7_165 rfl rfl (Nat.le_of_ble_eq_true rfl) (by decide) (Nat.zero_le _) (Nat.zero_le _) dX7_bestSet_69 ?_
                    refine x_isub (pc := 72) hX dX7_bestSet_72 rfl ?_
                    refine x_istore (pc := 73) hX (by decide) rfl rfl dX7_bestSet_73 ?_
                    refine x_aload_n (pc := 75) hX rfl rfl dX7_bestSet_75 ?_
                    refine x_getR (pc := 76) hX fl_X7_25 hK.1 rfl dX7_bestSet_76 ?_
                    refine x_iload (pc := 79) hX rfl dX7_bestSet_79 ?_
                    refine x_iload_n (pc := 81) hX rfl rfl dX7_bestSet_81 ?_
                    refine x_iast (pc := 82) (j := k) hX hK.2.2.2.2.2.2.1 (by omega) (by omega) (by decide) dX7_bestSet_82 ?_
                    have hL2 : Lay (mput M1 146 k (vN : Int)) ((S.1 c.toNat).set k vN) := hL.put hkl vN
                    have h92 : ∀ i, chr ((S.1 c.toNat).set k vN) i ≤ 9 := fun i => by
                      rw [chr_set _ _ _ _ hkl]
                      split
                      · omega
                      · exact chr_le9 hok.2 i
                    refine x_iload (pc := 83) hX rfl dX7_bestSet_83 ?_
                    refine x_aload_n (pc := 85) hX rfl rfl dX7_bestSet_85 ?_
                    refine x_iload (pc := 86) hX rfl dX7_bestSet_86 ?_
                    refine x_cV_P (pc := 88) hX (tX7_beginnings hK hL2 h92 k (by rw [List.length_set]; exact hkl)) hK.1 rfl lk_X7_165 rfl rfl (Nat.le_of_ble_eq_true rfl) (by decide) (Nat.zero_le _) (Nat.zero_le _) dX7_bestSet_88 ?_
                    refine x_iadd (pc := 91) (v := (asets (enc (S.1 c.toNat)) k (vN : Int))) hX dX7_bestSet_91 (asets_beg hkl).symm ?_
                    refine x_istore (pc := 92) hX (by decide) rfl rfl dX7_bestSet_92 ?_
                    refine x_aload_n (pc := 94) hX rfl rfl dX7_bestSet_94 ?_
                    refine x_getR (pc := 95) hX fl_X7_25 hK.1 rfl dX7_bestSet_95 ?_
                    refine x_iload (pc := 98) hX rfl dX7_bestSet_98 ?_
                    refine x_iload (pc := 100) hX rfl dX7_bestSet_100 ?_
                    refine x_iast (pc := 102) (j := k) hX hK.2.2.2.2.2.2.1 (by omega) (by omega) (by decide) dX7_bestSet_102 ?_
                    have hL3 := hL.back hkl (v := (vN : Int))
                    refine x_iload (pc := 103) hX rfl dX7_bestSet_103 ?_
                    refine x_bipush (pc := 105) hX (by decide) dX7_bestSet_105 ?_
                    refine x_icmp_eq (pc := 107) (tgt := 117) hX dX7_bestSet_107 (by decide) (by omega) (fun h107 => ?_) (fun h107 => ?_)
                    · refine x_iconst (pc := 117) hX dX7_bestSet_117 ?_
                      refine x_goto (pc := 118) (tgt := 122) hX dX7_bestSet_118 (by decide) ?_
                      refine x_istore (pc := 122) hX (by decide) rfl rfl dX7_bestSet_122 ?_
                      refine x_iload (pc := 124) hX rfl dX7_bestSet_124 ?_
                      refine x_if_eq (pc := 126) (tgt := 134) hX dX7_bestSet_126 (by decide) (by omega) (fun h126 => ?_) (fun h126 => ?_)
                      · exfalso; omega
                      · refine x_iload (pc := 129) hX rfl dX7_bestSet_129 ?_
                        refine x_goto (pc := 131) (tgt := 136) hX dX7_bestSet_131 (by decide) ?_
                        refine x_istore (pc := 136) hX (by decide) rfl rfl dX7_bestSet_136 ?_
                        refine x_iload (pc := 138) hX rfl dX7_bestSet_138 ?_
                        refine x_if_eq (pc := 140) (tgt := 148) hX dX7_bestSet_140 (by decide) (by omega) (fun h140 => ?_) (fun h140 => ?_)
                        · exfalso; omega
                        · refine x_iload (pc := 143) hX rfl dX7_bestSet_143 ?_
                          refine x_goto (pc := 145) (tgt := 150) hX dX7_bestSet_145 (by decide) ?_
                          refine x_istore (pc := 150) hX (by decide) rfl rfl dX7_bestSet_150 ?_
                          refine x_iinc (pc := 152) (v := ((k + 1 : Nat) : Int)) hX dX7_bestSet_152 rfl (by decide) rfl (by omega) rfl ?_
                          refine x_goto (pc := 155) (tgt := 43) hX dX7_bestSet_155 (by decide) ?_
                          first
                            | exact ih (k + 1) _ _ _ _ _ _ (by omega) (by omega) ((bqI_upd hI).1 (by omega)) hL3 ((hq1.tr (Chg.put (Or.inl rfl))).tr (Chg.put (Or.inl rfl)))
                            | exact ih (k + 1) _ _ _ _ _ _ (by omega) (by omega) ((bqI_upd hI).2 (by omega)) hL3 ((hq1.tr (Chg.put (Or.inl rfl))).tr (Chg.put (Or.inl rfl)))
                    · refine x_iload (pc := 110) hX rfl dX7_bestSet_110 ?_
                      refine x_iload (pc := 112) hX rfl dX7_bestSet_112 ?_
                      refine x_icmp_ge (pc := 114) (tgt := 121) hX dX7_bestSet_114 (by decide) (by omega) (fun h114 => ?_) (fun h114 => ?_)
                      · refine x_iconst (pc := 121) hX dX7_bestSet_121 ?_
                        refine x_istore (pc := 122) hX (by decide) rfl rfl dX7_bestSet_122 ?_
                        refine x_iload (pc := 124) hX rfl dX7_bestSet_124 ?_
                        refine x_if_eq (pc := 126) (tgt := 134) hX dX7_bestSet_126 (by decide) (by omega) (fun h126 => ?_) (fun h126 => ?_)
                        · refine x_iload (pc := 134) hX rfl dX7_bestSet_134 ?_
                          refine x_istore (pc := 136) hX (by decide) rfl rfl dX7_bestSet_136 ?_
                          refine x_iload (pc := 138) hX rfl dX7_bestSet_138 ?_
                          refine x_if_eq (pc := 140) (tgt := 148) hX dX7_bestSet_140 (by decide) (by omega) (fun h140 => ?_) (fun h140 => ?_)
                          · refine x_iload (pc := 148) hX rfl dX7_bestSet_148 ?_
                            refine x_istore (pc := 150) hX (by decide) rfl rfl dX7_bestSet_150 ?_
                            refine x_iinc (pc := 152) (v := ((k + 1 : Nat) : Int)) hX dX7_bestSet_152 rfl (by decide) rfl (by omega) rfl ?_
                            refine x_goto (pc := 155) (tgt := 43) hX dX7_bestSet_155 (by decide) ?_
                            first
                              | exact ih (k + 1) _ _ _ _ _ _ (by omega) (by omega) ((bqI_upd hI).1 (by omega)) hL3 ((hq1.tr (Chg.put (Or.inl rfl))).tr (Chg.put (Or.inl rfl)))
                              | exact ih (k + 1) _ _ _ _ _ _ (by omega) (by omega) ((bqI_upd hI).2 (by omega)) hL3 ((hq1.tr (Chg.put (Or.inl rfl))).tr (Chg.put (Or.inl rfl)))
                          · exfalso; omega
                        · exfalso; omega
                      · refine x_iconst (pc := 117) hX dX7_bestSet_117 ?_
                        refine x_goto (pc := 118) (tgt := 122) hX dX7_bestSet_118 (by decide) ?_
                        refine x_istore (pc := 122) hX (by decide) rfl rfl dX7_bestSet_122 ?_
                        refine x_iload (pc := 124) hX rfl dX7_bestSet_124 ?_
                        refine x_if_eq (pc := 126) (tgt := 134) hX dX7_bestSet_126 (by decide) (by omega) (fun h126 => ?_) (fun h126 => ?_)
                        · exfalso; omega
                        · refine x_iload (pc := 129) hX rfl dX7_bestSet_129 ?_
                          refine x_goto (pc := 131) (tgt := 136) hX dX7_bestSet_131 (by decide) ?_
                          refine x_istore (pc := 136) hX (by decide) rfl rfl dX7_bestSet_136 ?_
                          refine x_iload (pc := 138) hX rfl dX7_bestSet_138 ?_
                          refine x_if_eq (pc := 140) (tgt := 148) hX dX7_bestSet_140 (by decide) (by omega) (fun h140 => ?_) (fun h140 => ?_)
                          · exfalso; omega
                          · refine x_iload (pc := 143) hX rfl dX7_bestSet_143 ?_
                            refine x_goto (pc := 145) (tgt := 150) hX dX7_bestSet_145 (by decide) ?_
                            refine x_istore (pc := 150) hX (by decide) rfl rfl dX7_bestSet_150 ?_
                            refine x_iinc (pc := 152) (v := ((k + 1 : Nat) : Int)) hX dX7_bestSet_152 rfl (by decide) rfl (by omega) rfl ?_
                            refine x_goto (pc := 155) (tgt := 43) hX dX7_bestSet_155 (by decide) ?_
                            first
                              | exact ih (k + 1) _ _ _ _ _ _ (by omega) (by omega) ((bqI_upd hI).1 (by omega)) hL3 ((hq1.tr (Chg.put (Or.inl rfl))).tr (Chg.put (Or.inl rfl)))
                              | exact ih (k + 1) _ _ _ _ _ _ (by omega) (by omega) ((bqI_upd hI).2 (by omega)) hL3 ((hq1.tr (Chg.put (Or.inl rfl))).tr (Chg.put (Or.inl rfl)))
              refine x_bipush (pc := 33) hX (by decide) dX7_bestSet_33 ?_
              refine x_istore (pc := 35) hX (by decide) rfl rfl dX7_bestSet_35 ?_
              refine x_iconst (pc := 37) hX dX7_bestSet_37 ?_
              refine x_istore (pc := 38) hX (by decide) rfl rfl dX7_bestSet_38 ?_
              refine x_iconst (pc := 40) hX dX7_bestSet_40 ?_
              refine x_istore (pc := 41) hX (by decide) rfl rfl dX7_bestSet_41 ?_
              exact loop ((S.1 c.toNat).length + 1) 0 none none none (-6) 0 M1 (by omega) (by omega) (Or.inl ⟨rfl, rfl⟩) hL1 hq1
            · exfalso; omega
          · rw [if_neg hww]
            refine x_if_ne (pc := 22) (tgt := 28) hX dX7_bestSet_22 (by decide) (by omega) (fun h22 => ?_) (fun h22 => ?_)
            · exfalso; omega
            · refine x_bipush (pc := 25) hX (by decide) dX7_bestSet_25 ?_
              refine x_iret (pc := 27) hX rfl (Nat.zero_le _) (Nat.zero_le _) dX7_bestSet_27 ?_
              refine pI_i ⟨?_, hS, Chg.rf⟩
              rw [← hR]
              unfold aBest
              rw [if_neg (by omega), if_pos (by omega)]
      · rw [if_neg hvv10]
        refine x_if_eq (pc := 13) (tgt := 25) hX dX7_bestSet_13 (by decide) (by omega) (fun h13 => ?_) (fun h13 => ?_)
        · refine x_bipush (pc := 25) hX (by decide) dX7_bestSet_25 ?_
          refine x_iret (pc := 27) hX rfl (Nat.zero_le _) (Nat.zero_le _) dX7_bestSet_27 ?_
          refine pI_i ⟨?_, hS, Chg.rf⟩
          rw [← hR]
          unfold aBest
          rw [if_neg (by omega), if_pos (by omega)]
        · exfalso; omega
    · exfalso; omega
  · rw [if_neg hcc1]
    refine x_if_ne (pc := 4) (tgt := 9) hX dX7_bestSet_4 (by decide) (by omega) (fun h4 => ?_) (fun h4 => ?_)
    · exfalso; omega
    · refine x_iconst (pc := 7) hX dX7_bestSet_7 ?_
      refine x_iret (pc := 8) hX rfl (Nat.zero_le _) (Nat.zero_le _) dX7_bestSet_8 ?_
      refine pI_i ⟨?_, hS, Chg.rf⟩
      rw [← hR]
      unfold aBest
      rw [if_pos (by omega)]

