/-! JoinedRuns: joins, texts, undo, saving -/
/-- the walk stands behind the k-th pair -/
def PW (M : XM) (w : Nat) (P : Rp) (k : Nat) : Prop := k = 0 ∨ ∃ v u n, P[k - 1]? = some ((v, u), n) ∧ M w 6 = (v : Int) ∧ M w 7 = (u : Int) ∧ M w 9 = (n : Int) ∧ M w 8 = (tot (P.take (k - 1)) : Int)
set_option maxHeartbeats 4000000 in
set_option maxRecDepth 100000 in
theorem tX6_pair {G : XG} {κ : XKs} {M : XM} {hs : Nat} (hK : KX κ hs) {S : Sx} (hS : RX M S) (a b p w : Int) (ha : InR a) (hb : InR b) (hp : InR p) (hw : InR w) {R : Int} (hR : aPair S.1 a b p w = R) (hh : 151 ≤ hs) : XC G mX6_pair 3 1 10 [xR 0, xI a, xI b, xI p, xI w] κ M hs (pX κ M hs R S) := by
  refine XC.intro cdX6_pair (by decide) (by decide) (Nat.le_of_ble_eq_true rfl) (loc := [some (xR 0), some (xI a), some (xI b), some (xI p), some (xI w), none, none]) rfl (fun X hX => ?_)
  have ha0 := ha
  have hb0 := hb
  have hp0 := hp
  have hw0 := hw
  unfold InR at ha0 hb0 hp0 hw0
  unfold aPair at hR
  refine x_iload_n (pc := 0) hX rfl rfl dX6_pair_0 ?_
  refine x_cS_P (pc := 1) hX (tX6_isColumn a ha) lk_X6_92 rfl rfl (Nat.le_of_ble_eq_true rfl) (by decide) (by decide) (by decide) dX6_pair_1 ?_
  by_cases hca1 : 0 ≤ a ∧ a < 4
  · rw [if_pos hca1]
    refine x_if_eq (pc := 4) (tgt := 24) hX dX6_pair_4 (by decide) (by omega) (fun h4 => ?_) (fun h4 => ?_)
    · exfalso; omega
    · refine x_iload_n (pc := 7) hX rfl rfl dX6_pair_7 ?_
      refine x_cS_P (pc := 8) hX (tX6_isColumn b hb) lk_X6_92 rfl rfl (Nat.le_of_ble_eq_true rfl) (by decide) (by decide) (by decide) dX6_pair_8 ?_
      by_cases hcb8 : 0 ≤ b ∧ b < 4
      · rw [if_pos hcb8]
        refine x_if_eq (pc := 11) (tgt := 24) hX dX6_pair_11 (by decide) (by omega) (fun h11 => ?_) (fun h11 => ?_)
        · exfalso; omega
        · refine x_iload_n (pc := 14) hX rfl rfl dX6_pair_14 ?_
          refine x_if_lt (pc := 15) (tgt := 24) hX dX6_pair_15 (by decide) (by omega) (fun h15 => ?_) (fun h15 => ?_)
          · refine x_iconst (pc := 24) hX dX6_pair_24 ?_
            refine x_iret (pc := 25) hX rfl (by decide) (by decide) dX6_pair_25 ?_
            rw [if_pos (by omega)] at hR
            exact ⟨by rw [← hR], fun _ _ => rfl, Nat.le_refl _, hS, fun _ _ _ => rfl⟩
          · refine x_iload_n (pc := 18) hX rfl rfl dX6_pair_18 ?_
            refine x_bipush (pc := 19) hX (by decide) dX6_pair_19 ?_
            refine x_icmp_lt (pc := 21) (tgt := 26) hX dX6_pair_21 (by decide) (by omega) (fun h21 => ?_) (fun h21 => ?_)
            · rw [if_neg (by omega)] at hR
              refine x_aload_n (pc := 26) hX rfl rfl dX6_pair_26 ?_
              refine x_iload_n (pc := 27) hX rfl rfl dX6_pair_27 ?_
              refine x_iload_n (pc := 28) hX rfl rfl dX6_pair_28 ?_
              refine x_top2 (congrArg xI (show a = ((a.toNat : Nat) : Int) by omega)) ?_
              refine x_top (congrArg xI (show b = ((b.toNat : Nat) : Int) by omega)) ?_
              refine x_callV (pc := 29) hX (tX6_walkOver hK hS hh a.toNat b.toNat (by omega) (by omega)) hK.1 rfl lk_X6_165 rfl rfl (Nat.le_of_ble_eq_true rfl) (by decide) (by decide) (by decide) dX6_pair_29 (fun r κ' M' hs' hp9 => ?_)
              obtain ⟨rfl, rfl, hκ, hM1, hW⟩ := hp9
              have hSw : ∀ M2 : XM, (∀ q, q < hs → M2 q = M q) → RX M2 S := fun M2 h => hS.agr (fun q h1 h2 => h q (by omega))
              generalize κ' = κ1 at hκ hW
              have loop : ∀ (n k : Nat) (A B : Ru) (t : Int) (M1 : XM), k ≤ p.toNat + 1 → p.toNat + 1 < k + n → A.length + B.length ≤ 80 → WalkAt κ1 M1 (hs + 1) hs (3 + 3 * a.toNat) (3 + 3 * b.toNat) (S.1 a.toNat) (S.1 b.toNat) A B t → (∀ q, q < hs → M1 q = M q) → (zr (enc (S.1 a.toNat)) (enc (S.1 b.toNat))).drop k = zr A B → t = (tot ((zr (enc (S.1 a.toNat)) (enc (S.1 b.toNat))).take k) : Int) → PW M1 hs (zr (enc (S.1 a.toNat)) (enc (S.1 b.toNat))) k → XW G X mX6_pair (xq G (pX κ M hs R S) 1 10 X) 1 10 37 [some (xR 0), some (xI a), some (xI b), some (xI p), some (xI w), some (xR hs), some (xI (k : Int))] [] κ1 M1 (hs + 1) := by
                intro n
                induction n with
                | zero => intro k A B t M1 h1 h2; omega
                | succ n ih =>
                  intro k A B t M1 h1 h2 h3 hW1 hMq hD hT hPW
                  refine x_iload (pc := 37) hX rfl dX6_pair_37 ?_
                  refine x_iload_n (pc := 39) hX rfl rfl dX6_pair_39 ?_
                  refine x_icmp_gt (pc := 40) (tgt := 59) hX dX6_pair_40 (by decide) (by omega) (fun h40 => ?_) (fun h40 => ?_)
                  · obtain ⟨v, u, n9, hg, h6, h7, h9, h8⟩ := hPW.resolve_left (by omega)
                    obtain rfl : k = p.toNat + 1 := by omega
                    rw [Nat.add_sub_cancel] at hg h8
                    unfold aPairW at hR
                    rw [hg] at hR
                    simp only at hR
                    refine x_iload (pc := 59) hX rfl dX6_pair_59 ?_
                    rcases (show (w < 0 ∨ 3 < w) ∨ w = 0 ∨ w = 1 ∨ w = 2 ∨ w = 3 by omega) with hsw | hsw | hsw | hsw | hsw
                    · refine x_tswOut (pc := 61) (tgt := 116) hX dX6_pair_61 (by omega) hsw (by decide) ?_
                      refine x_bipush (pc := 116) hX (by decide) dX6_pair_116 ?_
                      refine x_iret (pc := 118) hX rfl (by decide) (by decide) dX6_pair_118 ?_
                      rw [if_neg (by omega), if_neg (by omega), if_neg (by omega), if_neg (by omega)] at hR
                      exact ⟨by rw [← hR], hκ, Nat.le_succ _, hSw _ hMq, fun q h1 h2 => hMq q h2⟩
                    · refine x_tswIn (pc := 61) (off := 31) (tgt := 92) hX dX6_pair_61 (by omega) (by omega) (by rw [hsw]; rfl) (by decide) ?_
                      refine x_aload (pc := 92) hX rfl dX6_pair_92 ?_
                      refine x_cV_P (pc := 94) hX (tX4_valueOfOne hW1.1 h6) hW1.1 rfl lk_X6_174 rfl rfl (Nat.le_of_ble_eq_true rfl) (by decide) (by decide) (by decide) dX6_pair_94 ?_
                      refine x_iret (pc := 97) hX rfl (by decide) (by decide) dX6_pair_97 ?_
                      rw [if_pos hsw] at hR
                      exact ⟨by rw [← hR], hκ, Nat.le_succ _, hSw _ hMq, fun q h1 h2 => hMq q h2⟩
                    · refine x_tswIn (pc := 61) (off := 37) (tgt := 98) hX dX6_pair_61 (by omega) (by omega) (by rw [hsw]; rfl) (by decide) ?_
                      refine x_aload (pc := 98) hX rfl dX6_pair_98 ?_
                      refine x_cV_P (pc := 100) hX (tX4_valueOfOther hW1.1 h7) hW1.1 rfl lk_X6_177 rfl rfl (Nat.le_of_ble_eq_true rfl) (by decide) (by decide) (by decide) dX6_pair_100 ?_
                      refine x_iret (pc := 103) hX rfl (by decide) (by decide) dX6_pair_103 ?_
                      rw [if_neg (by omega), if_pos hsw] at hR
                      exact ⟨by rw [← hR], hκ, Nat.le_succ _, hSw _ hMq, fun q h1 h2 => hMq q h2⟩
                    · refine x_tswIn (pc := 61) (off := 43) (tgt := 104) hX dX6_pair_61 (by omega) (by omega) (by rw [hsw]; rfl) (by decide) ?_
                      refine x_aload (pc := 104) hX rfl dX6_pair_104 ?_
                      refine x_cV_P (pc := 106) hX (tX4_length hW1.1 h9) hW1.1 rfl lk_X6_180 rfl rfl (Nat.le_of_ble_eq_true rfl) (by decide) (by decide) (by decide) dX6_pair_106 ?_
                      refine x_iret (pc := 109) hX rfl (by decide) (by decide) dX6_pair_109 ?_
                      rw [if_neg (by omega), if_neg (by omega), if_pos hsw] at hR
                      exact ⟨by rw [← hR], hκ, Nat.le_succ _, hSw _ hMq, fun q h1 h2 => hMq q h2⟩
                    · refine x_tswIn (pc := 61) (off := 49) (tgt := 110) hX dX6_pair_61 (by omega) (by omega) (by rw [hsw]; rfl) (by decide) ?_
                      refine x_aload (pc := 110) hX rfl dX6_pair_110 ?_
                      refine x_cV_P (pc := 112) hX (tX4_firstRow hW1.1 h8) hW1.1 rfl lk_X6_181 rfl rfl (Nat.le_of_ble_eq_true rfl) (by decide) (by decide) (by decide) dX6_pair_112 ?_
                      refine x_iret (pc := 115) hX rfl (by decide) (by decide) dX6_pair_115 ?_
                      rw [if_neg (by omega), if_neg (by omega), if_neg (by omega), if_pos hsw] at hR
                      exact ⟨by rw [← hR], hκ, Nat.le_succ _, hSw _ hMq, fun q h1 h2 => hMq q h2⟩
                  · have hkp : k ≤ p.toNat := by omega
                    refine x_aload (pc := 43) hX rfl dX6_pair_43 ?_
                    refine x_cV_I (pc := 45) hX (tX4_advance hW1.1 hW1.2.1 hW1.2.2.1 hW1.2.2.2.1 hW1.2.2.2.2.1 hW1.2.2.2.2.2.1 hW1.2.2.2.2.2.2) hW1.1 rfl lk_X6_169 rfl rfl (Nat.le_of_ble_eq_true rfl) (by decide) (by decide) (by decide) dX6_pair_45 (fun a9 M2 hp9 => ?_)
                    obtain ⟨hq2, hno, hyes⟩ := hp9
                    have hMq2 : ∀ q, q < hs → M2 q = M q := fun q hq => (hq2 q (by omega)).trans (hMq q hq)
                    by_cases he : A = [] ∨ B = []
                    · obtain ⟨rfl, hS2⟩ := hno he
                      rw [zr_none he] at hD
                      have hlen : (zr (enc (S.1 a.toNat)) (enc (S.1 b.toNat))).length ≤ k := List.drop_eq_nil_iff.mp hD
                      unfold aPairW at hR
                      rw [List.getElem?_eq_none (by omega)] at hR
                      simp only at hR
                      refine x_if_ne (pc := 48) (tgt := 53) hX dX6_pair_48 (by decide) (by omega) (fun h48 => ?_) (fun h48 => ?_)
                      · exfalso; omega
                      · refine x_iconst (pc := 51) hX dX6_pair_51 ?_
                        refine x_iret (pc := 52) hX rfl (by decide) (by decide) dX6_pair_52 ?_
                        exact ⟨by rw [← hR], hκ, Nat.le_succ _, hSw _ hMq2, fun q h1 h2 => hMq2 q h2⟩
                    · obtain ⟨v, n9, s, u, m9, r, rfl, rfl⟩ := ru_two he
                      obtain ⟨rfl, h6, h7, h8, h9, hS2⟩ := hyes v n9 s u m9 r rfl rfl
                      have hW2 := hW1.nxt hq2 hS2
                      have hc2 := cut2_len v n9 u m9 s r
                      rw [zr_cons] at hD
                      simp only [List.length_cons] at h3
                      refine x_if_ne (pc := 48) (tgt := 53) hX dX6_pair_48 (by decide) (by omega) (fun h48 => ?_) (fun h48 => ?_)
                      · refine x_iinc (pc := 53) (v := ((k + 1 : Nat) : Int)) hX dX6_pair_53 rfl (by decide) rfl (by omega) rfl ?_
                        refine x_goto (pc := 56) (tgt := 37) hX dX6_pair_56 (by decide) ?_
                        have hg : (zr (enc (S.1 a.toNat)) (enc (S.1 b.toNat)))[k]? = some ((v, u), min n9 m9) := by
                          rw [← List.head?_drop, hD]
                          rfl
                        have hdt : (zr (enc (S.1 a.toNat)) (enc (S.1 b.toNat))).drop (k + 1) = zr (cutr v n9 (min n9 m9) s) (cutr u m9 (min n9 m9) r) := by
                          rw [← List.tail_drop, hD]
                          rfl
                        have htk : tot ((zr (enc (S.1 a.toNat)) (enc (S.1 b.toNat))).take (k + 1)) = tot ((zr (enc (S.1 a.toNat)) (enc (S.1 b.toNat))).take k) + min n9 m9 := by
                          rw [List.take_add_one, hg, tot_app]
                          show _ + (min n9 m9 + 0) = _
                          omega
                        refine ih (k + 1) _ _ _ M2 (by omega) (by omega) (by omega) hW2 hMq2 hdt (by rw [htk]; omega) (Or.inr ⟨v, u, min n9 m9, by rw [Nat.add_sub_cancel]; exact hg, h6, h7, h9, ?_⟩)
                        rw [h8, hT, Nat.add_sub_cancel]
                      · exfalso; omega
              refine x_astore (pc := 32) hX (by decide) rfl rfl dX6_pair_32 ?_
              refine x_iconst (pc := 34) hX dX6_pair_34 ?_
              refine x_istore (pc := 35) hX (by decide) rfl rfl dX6_pair_35 ?_
              have hla := (hS.ok (i := a.toNat) (by omega)).len
              have hlb := (hS.ok (i := b.toNat) (by omega)).len
              exact loop (p.toNat + 2) 0 _ _ 0 _ (by omega) (by omega) (by omega) hW hM1 rfl rfl (Or.inl rfl)
            · refine x_iconst (pc := 24) hX dX6_pair_24 ?_
              refine x_iret (pc := 25) hX rfl (by decide) (by decide) dX6_pair_25 ?_
              rw [if_pos (by omega)] at hR
              exact ⟨by rw [← hR], fun _ _ => rfl, Nat.le_refl _, hS, fun _ _ _ => rfl⟩
      · rw [if_neg hcb8]
        refine x_if_eq (pc := 11) (tgt := 24) hX dX6_pair_11 (by decide) (by omega) (fun h11 => ?_) (fun h11 => ?_)
        · refine x_iconst (pc := 24) hX dX6_pair_24 ?_
          refine x_iret (pc := 25) hX rfl (by decide) (by decide) dX6_pair_25 ?_
          rw [if_pos (by omega)] at hR
          exact ⟨by rw [← hR], fun _ _ => rfl, Nat.le_refl _, hS, fun _ _ _ => rfl⟩
        · exfalso; omega
  · rw [if_neg hca1]
    refine x_if_eq (pc := 4) (tgt := 24) hX dX6_pair_4 (by decide) (by omega) (fun h4 => ?_) (fun h4 => ?_)
    · refine x_iconst (pc := 24) hX dX6_pair_24 ?_
      refine x_iret (pc := 25) hX rfl (by decide) (by decide) dX6_pair_25 ?_
      rw [if_pos (by omega)] at hR
      exact ⟨by rw [← hR], fun _ _ => rfl, Nat.le_refl _, hS, fun _ _ _ => rfl⟩
    · exfalso; omega

set_option maxHeartbeats 4000000 in
set_option maxRecDepth 100000 in
theorem tX6_joined {G : XG} {κ : XKs} {M : XM} {hs : Nat} (hK : KX κ hs) {S : Sx} (hS : RX M S) (a b w : Int) (ha : InR a) (hb : InR b) (hw : InR w) {R : Int} (hR : aJoined S.1 a b w = R) (hh : 151 ≤ hs) : XC G mX6_joined 3 1 10 [xR 0, xI a, xI b, xI w] κ M hs (pX κ M hs R S) := by
  refine XC.intro cdX6_joined (by decide) (by decide) (Nat.le_of_ble_eq_true rfl) (loc := [some (xR 0), some (xI a), some (xI b), some (xI w)]) rfl (fun X hX => ?_)
  have ha0 := ha
  have hb0 := hb
  have hw0 := hw
  unfold InR at ha0 hb0 hw0
  unfold aJoined at hR
  refine x_iload_n (pc := 0) hX rfl rfl dX6_joined_0 ?_
  refine x_cS_P (pc := 1) hX (tX6_isColumn a ha) lk_X6_92 rfl rfl (Nat.le_of_ble_eq_true rfl) (by decide) (by decide) (by decide) dX6_joined_1 ?_
  by_cases hca1 : 0 ≤ a ∧ a < 4
  · rw [if_pos hca1]
    refine x_if_eq (pc := 4) (tgt := 14) hX dX6_joined_4 (by decide) (by omega) (fun h4 => ?_) (fun h4 => ?_)
    · exfalso; omega
    · refine x_iload_n (pc := 7) hX rfl rfl dX6_joined_7 ?_
      refine x_cS_P (pc := 8) hX (tX6_isColumn b hb) lk_X6_92 rfl rfl (Nat.le_of_ble_eq_true rfl) (by decide) (by decide) (by decide) dX6_joined_8 ?_
      by_cases hcb8 : 0 ≤ b ∧ b < 4
      · rw [if_pos hcb8]
        refine x_if_ne (pc := 11) (tgt := 16) hX dX6_joined_11 (by decide) (by omega) (fun h11 => ?_) (fun h11 => ?_)
        · rw [if_neg (by omega)] at hR
          refine x_iload_n (pc := 16) hX rfl rfl dX6_joined_16 ?_
          rcases (show (w < 0 ∨ 4 < w) ∨ w = 0 ∨ w = 1 ∨ w = 2 ∨ w = 3 ∨ w = 4 by omega) with hsw | hsw | hsw | hsw | hsw | hsw
          · refine x_tswOut (pc := 17) (tgt := 119) hX dX6_joined_17 (by omega) hsw (by decide) ?_
            refine x_bipush (pc := 119) hX (by decide) dX6_joined_119 ?_
            refine x_iret (pc := 121) hX rfl (by decide) (by decide) dX6_joined_121 ?_
            rw [if_neg (by omega), if_neg (by omega), if_neg (by omega), if_neg (by omega), if_neg (by omega)] at hR
            exact ⟨by rw [← hR], fun _ _ => rfl, Nat.le_refl _, hS, fun _ _ _ => rfl⟩
          · refine x_tswIn (pc := 17) (off := 35) (tgt := 52) hX dX6_joined_17 (by omega) (by omega) (by rw [hsw]; rfl) (by decide) ?_
            refine x_aload_n (pc := 52) hX rfl rfl dX6_joined_52 ?_
            refine x_getR (pc := 53) hX fl_X6_12 hK.1 rfl dX6_joined_53 ?_
            refine x_iload_n (pc := 56) hX rfl rfl dX6_joined_56 ?_
            refine x_top (congrArg xI (show a = ((a.toNat : Nat) : Int) by omega)) ?_
            refine x_cV_P (pc := 57) hX (tX5_column hK.2.1 a.toNat (by omega)) hK.2.1.1 rfl lk_X6_64 rfl rfl (Nat.le_of_ble_eq_true rfl) (by decide) (by decide) (by decide) dX6_joined_57 ?_
            refine x_top (congrArg xR (show 1 + 2 + 3 * a.toNat = 3 + 3 * a.toNat by omega)) ?_
            refine x_cV_P (pc := 60) hX (tX0_rows (hK.col (i := a.toNat) (by omega)) (hS.ok (i := a.toNat) (by omega))) (hK.col (i := a.toNat) (by omega)).1 rfl lk_X6_68 rfl rfl (Nat.le_of_ble_eq_true rfl) (by decide) (by decide) (by decide) dX6_joined_60 ?_
            refine x_aload_n (pc := 63) hX rfl rfl dX6_joined_63 ?_
            refine x_getR (pc := 64) hX fl_X6_12 hK.1 rfl dX6_joined_64 ?_
            refine x_iload_n (pc := 67) hX rfl rfl dX6_joined_67 ?_
            refine x_top (congrArg xI (show b = ((b.toNat : Nat) : Int) by omega)) ?_
            refine x_cV_P (pc := 68) hX (tX5_column hK.2.1 b.toNat (by omega)) hK.2.1.1 rfl lk_X6_64 rfl rfl (Nat.le_of_ble_eq_true rfl) (by decide) (by decide) (by decide) dX6_joined_68 ?_
            refine x_top (congrArg xR (show 1 + 2 + 3 * b.toNat = 3 + 3 * b.toNat by omega)) ?_
            refine x_cV_P (pc := 71) hX (tX0_rows (hK.col (i := b.toNat) (by omega)) (hS.ok (i := b.toNat) (by omega))) (hK.col (i := b.toNat) (by omega)).1 rfl lk_X6_68 rfl rfl (Nat.le_of_ble_eq_true rfl) (by decide) (by decide) (by decide) dX6_joined_71 ?_
            have hla := (hS.ok (i := a.toNat) (by omega)).len
            have hlb := (hS.ok (i := b.toNat) (by omega)).len
            refine x_min (pc := 74) (v := ((min (S.1 a.toNat).length (S.1 b.toNat).length : Nat) : Int)) hX lk_X6_184.1 (by omega) (by split <;> omega) (by decide) (by decide) (by decide) (Nat.le_of_ble_eq_true rfl) dX6_joined_74 ?_
            refine x_iret (pc := 77) hX rfl (by decide) (by decide) dX6_joined_77 ?_
            rw [if_pos hsw] at hR
            exact ⟨by rw [← hR], fun _ _ => rfl, Nat.le_refl _, hS, fun _ _ _ => rfl⟩
          · refine x_tswIn (pc := 17) (off := 61) (tgt := 78) hX dX6_joined_17 (by omega) (by omega) (by rw [hsw]; rfl) (by decide) ?_
            refine x_aload_n (pc := 78) hX rfl rfl dX6_joined_78 ?_
            refine x_iload_n (pc := 79) hX rfl rfl dX6_joined_79 ?_
            refine x_iload_n (pc := 80) hX rfl rfl dX6_joined_80 ?_
            refine x_top2 (congrArg xI (show a = ((a.toNat : Nat) : Int) by omega)) ?_
            refine x_top (congrArg xI (show b = ((b.toNat : Nat) : Int) by omega)) ?_
            refine x_callV (pc := 81) hX (tX6_walkOver hK hS hh a.toNat b.toNat (by omega) (by omega)) hK.1 rfl lk_X6_165 rfl rfl (Nat.le_of_ble_eq_true rfl) (by decide) (by decide) (by decide) dX6_joined_81 (fun r κ' M' hs' hp => ?_)
            obtain ⟨rfl, rfl, hκ, hM1, hW⟩ := hp
            have hSw : ∀ M2 : XM, (∀ q, q < hs → q ≠ 111 → M2 q = M q) → RX M2 S := fun M2 h => hS.agr (fun q h1 h2 => h q (by omega) (by omega))
            have hla := (hS.ok (i := a.toNat) (by omega)).len
            have hlb := (hS.ok (i := b.toNat) (by omega)).len
            refine x_cS_I (pc := 84) hX (tX6_runsOfPairs hW (by omega) _ rfl) lk_X6_189 rfl rfl (Nat.le_of_ble_eq_true rfl) (by decide) (by decide) (by decide) dX6_joined_84 (fun a9 M2 hp => ?_)
            refine x_iret (pc := 87) hX rfl (by decide) (by decide) dX6_joined_87 ?_
            rw [if_neg (by omega), if_pos hsw] at hR
            exact ⟨by rw [← hR]; exact congrArg (fun z => some (xI z)) hp.2, hκ, Nat.le_succ _, hSw _ (fun q h1 h2 => (hp.1 q (by omega)).trans (hM1 q h1)), fun q h1 h2 => (hp.1 q (by omega)).trans (hM1 q h2)⟩
          · refine x_tswIn (pc := 17) (off := 71) (tgt := 88) hX dX6_joined_17 (by omega) (by omega) (by rw [hsw]; rfl) (by decide) ?_
            refine x_aload_n (pc := 88) hX rfl rfl dX6_joined_88 ?_
            refine x_iload_n (pc := 89) hX rfl rfl dX6_joined_89 ?_
            refine x_iload_n (pc := 90) hX rfl rfl dX6_joined_90 ?_
            refine x_top2 (congrArg xI (show a = ((a.toNat : Nat) : Int) by omega)) ?_
            refine x_top (congrArg xI (show b = ((b.toNat : Nat) : Int) by omega)) ?_
            refine x_callV (pc := 91) hX (tX6_walkOver hK hS hh a.toNat b.toNat (by omega) (by omega)) hK.1 rfl lk_X6_165 rfl rfl (Nat.le_of_ble_eq_true rfl) (by decide) (by decide) (by decide) dX6_joined_91 (fun r κ' M' hs' hp => ?_)
            obtain ⟨rfl, rfl, hκ, hM1, hW⟩ := hp
            have hSw : ∀ M2 : XM, (∀ q, q < hs → q ≠ 111 → M2 q = M q) → RX M2 S := fun M2 h => hS.agr (fun q h1 h2 => h q (by omega) (by omega))
            have hla := (hS.ok (i := a.toNat) (by omega)).len
            have hlb := (hS.ok (i := b.toNat) (by omega)).len
            refine x_cS_I (pc := 94) hX (tX6_rowsAlike hW (by omega) _ rfl) lk_X6_193 rfl rfl (Nat.le_of_ble_eq_true rfl) (by decide) (by decide) (by decide) dX6_joined_94 (fun a9 M2 hp => ?_)
            refine x_iret (pc := 97) hX rfl (by decide) (by decide) dX6_joined_97 ?_
            rw [if_neg (by omega), if_neg (by omega), if_pos hsw] at hR
            exact ⟨by rw [← hR]; exact congrArg (fun z => some (xI z)) hp.2, hκ, Nat.le_succ _, hSw _ (fun q h1 h2 => (hp.1 q (by omega)).trans (hM1 q h1)), fun q h1 h2 => (hp.1 q (by omega)).trans (hM1 q h2)⟩
          · refine x_tswIn (pc := 17) (off := 81) (tgt := 98) hX dX6_joined_17 (by omega) (by omega) (by rw [hsw]; rfl) (by decide) ?_
            refine x_aload_n (pc := 98) hX rfl rfl dX6_joined_98 ?_
            refine x_iload_n (pc := 99) hX rfl rfl dX6_joined_99 ?_
            refine x_iload_n (pc := 100) hX rfl rfl dX6_joined_100 ?_
            refine x_top2 (congrArg xI (show a = ((a.toNat : Nat) : Int) by omega)) ?_
            refine x_top (congrArg xI (show b = ((b.toNat : Nat) : Int) by omega)) ?_
            refine x_callV (pc := 101) hX (tX6_walkOver hK hS hh a.toNat b.toNat (by omega) (by omega)) hK.1 rfl lk_X6_165 rfl rfl (Nat.le_of_ble_eq_true rfl) (by decide) (by decide) (by decide) dX6_joined_101 (fun r κ' M' hs' hp => ?_)
            obtain ⟨rfl, rfl, hκ, hM1, hW⟩ := hp
            have hSw : ∀ M2 : XM, (∀ q, q < hs → q ≠ 111 → M2 q = M q) → RX M2 S := fun M2 h => hS.agr (fun q h1 h2 => h q (by omega) (by omega))
            have hla := (hS.ok (i := a.toNat) (by omega)).len
            have hlb := (hS.ok (i := b.toNat) (by omega)).len
            refine x_cS_I (pc := 104) hX (tX6_sumOfProducts hW (by omega) _ rfl) lk_X6_196 rfl rfl (Nat.le_of_ble_eq_true rfl) (by decide) (by decide) (by decide) dX6_joined_104 (fun a9 M2 hp => ?_)
            refine x_iret (pc := 107) hX rfl (by decide) (by decide) dX6_joined_107 ?_
            rw [if_neg (by omega), if_neg (by omega), if_neg (by omega), if_pos hsw] at hR
            exact ⟨by rw [← hR]; exact congrArg (fun z => some (xI z)) hp.2, hκ, Nat.le_succ _, hSw _ (fun q h1 h2 => (hp.1 q (by omega)).trans (hM1 q h1)), fun q h1 h2 => (hp.1 q (by omega)).trans (hM1 q h2)⟩
          · refine x_tswIn (pc := 17) (off := 91) (tgt := 108) hX dX6_joined_17 (by omega) (by omega) (by rw [hsw]; rfl) (by decide) ?_
            refine x_aload_n (pc := 108) hX rfl rfl dX6_joined_108 ?_
            refine x_aload_n (pc := 109) hX rfl rfl dX6_joined_109 ?_
            refine x_iload_n (pc := 110) hX rfl rfl dX6_joined_110 ?_
            refine x_iload_n (pc := 111) hX rfl rfl dX6_joined_111 ?_
            refine x_top2 (congrArg xI (show a = ((a.toNat : Nat) : Int) by omega)) ?_
            refine x_top (congrArg xI (show b = ((b.toNat : Nat) : Int) by omega)) ?_
            refine x_callV (pc := 112) hX (tX6_walkOver hK hS hh a.toNat b.toNat (by omega) (by omega)) hK.1 rfl lk_X6_165 rfl rfl (Nat.le_of_ble_eq_true rfl) (by decide) (by decide) (by decide) dX6_joined_112 (fun r κ' M' hs' hp => ?_)
            obtain ⟨rfl, rfl, hκ, hM1, hW⟩ := hp
            have hSw : ∀ M2 : XM, (∀ q, q < hs → q ≠ 111 → M2 q = M q) → RX M2 S := fun M2 h => hS.agr (fun q h1 h2 => h q (by omega) (by omega))
            have hla := (hS.ok (i := a.toNat) (by omega)).len
            have hlb := (hS.ok (i := b.toNat) (by omega)).len
            refine x_cV_I (pc := 115) hX (tX6_unlikePairs (hK.mono hκ (Nat.le_succ _)) hW (by omega) _ rfl (by omega) (by omega) (by omega)) (hK.mono hκ (Nat.le_succ _)).1 rfl lk_X6_199 rfl rfl (Nat.le_of_ble_eq_true rfl) (by decide) (by decide) (by decide) dX6_joined_115 (fun a9 M2 hp => ?_)
            refine x_iret (pc := 118) hX rfl (by decide) (by decide) dX6_joined_118 ?_
            rw [if_neg (by omega), if_neg (by omega), if_neg (by omega), if_neg (by omega), if_pos hsw] at hR
            exact ⟨by rw [← hR]; exact congrArg (fun z => some (xI z)) hp.2, hκ, Nat.le_succ _, hSw _ (fun q h1 h2 => (hp.1 q h2 (by omega)).trans (hM1 q h1)), fun q h1 h2 => (hp.1 q (by omega) (by omega)).trans (hM1 q h2)⟩
        · exfalso; omega
      · rw [if_neg hcb8]
        refine x_if_ne (pc := 11) (tgt := 16) hX dX6_joined_11 (by decide) (by omega) (fun h11 => ?_) (fun h11 => ?_)
        · exfalso; omega
        · refine x_iconst (pc := 14) hX dX6_joined_14 ?_
          refine x_iret (pc := 15) hX rfl (by decide) (by decide) dX6_joined_15 ?_
          rw [if_pos (by omega)] at hR
          exact ⟨by rw [← hR], fun _ _ => rfl, Nat.le_refl _, hS, fun _ _ _ => rfl⟩
  · rw [if_neg hca1]
    refine x_if_eq (pc := 4) (tgt := 14) hX dX6_joined_4 (by decide) (by omega) (fun h4 => ?_) (fun h4 => ?_)
    · refine x_iconst (pc := 14) hX dX6_joined_14 ?_
      refine x_iret (pc := 15) hX rfl (by decide) (by decide) dX6_joined_15 ?_
      rw [if_pos (by omega)] at hR
      exact ⟨by rw [← hR], fun _ _ => rfl, Nat.le_refl _, hS, fun _ _ _ => rfl⟩
    · exfalso; omega

theorem bytesD_len (n : Nat) : ∀ k, (bytesD n k).length = k
  | 0 => rfl
  | k + 1 => by rw [bytesD, List.length_cons, bytesD_len n k]
set_option maxHeartbeats 4000000 in
set_option maxRecDepth 100000 in
theorem tX6_put {G : XG} {κ : XKs} {M : XM} {hs : Nat} (hK : KX κ hs) {S : Sx} (hS : RX M S) (a : Nat) (ha : a < 2 ^ 64) {R : Int × Sx} (hR : sPut S a = R) (hh : 151 ≤ hs) : XC G mX6_put 1 0 0 [xR 0, xV (.long (lN a))] κ M hs (pX κ M hs R.1 R.2) := by
  refine XC.intro cdX6_put (by decide) (by decide) (Nat.le_of_ble_eq_true rfl) (loc := [some (xR 0), some (xV (.long (lN a))), none, none, none]) rfl (fun X hX => ?_)
  have hcr := chIn_rng 8 a 0 (by decide)
  have hpl := hS.2.2.2.2.1
  unfold sPut at hR
  refine x_lload_n (pc := 0) hX rfl rfl dX6_put_0 ?_
  refine x_cS_P (pc := 1) hX (tX6_charactersIn a ha rfl) lk_X6_213 rfl rfl (Nat.le_of_ble_eq_true rfl) (by decide) (Nat.zero_le _) (Nat.zero_le _) dX6_put_1 ?_
  refine x_istore_n (pc := 4) hX rfl (by decide) rfl rfl dX6_put_4 ?_
  refine x_iload_n (pc := 5) hX rfl rfl dX6_put_5 ?_
  refine x_iconst (pc := 6) hX dX6_put_6 ?_
  refine x_icmp_ge (pc := 7) (tgt := 13) hX dX6_put_7 (by decide) (by omega) (fun h7 => ?_) (fun h7 => ?_)
  · rw [if_neg (by omega)] at hR
    refine x_iload_n (pc := 13) hX rfl rfl dX6_put_13 ?_
    refine x_bipush (pc := 14) hX (by decide) dX6_put_14 ?_
    refine x_aload_n (pc := 16) hX rfl rfl dX6_put_16 ?_
    refine x_getR (pc := 17) hX fl_X6_49 hK.1 rfl dX6_put_17 ?_
    refine x_cV_P (pc := 20) hX (tX3_length hK.2.2.2.2.2.2.1 hS.2.2.2) hK.2.2.2.2.2.2.1.1 rfl lk_X6_157 rfl rfl (Nat.le_of_ble_eq_true rfl) (by decide) (Nat.zero_le _) (Nat.zero_le _) dX6_put_20 ?_
    refine x_isub (pc := 23) hX dX6_put_23 rfl ?_
    refine x_icmp_le (pc := 24) (tgt := 30) hX dX6_put_24 (by decide) (by omega) (fun h24 => ?_) (fun h24 => ?_)
    · rw [if_neg (by omega)] at hR
      have loop : ∀ (n j : Nat) (pp : List Nat) (M1 : XM), j ≤ (chIn 8 a 0).toNat → j < n → Pd M1 pp → Same 107 109 M M1 → pp ++ bytesD a j = S.2.2.2 ++ bytesD a (chIn 8 a 0).toNat → XW G X mX6_put (xq G (pX κ M hs R.1 R.2) 0 0 X) 0 0 35 [some (xR 0), some (xV (.long (lN a))), none, some (xI (chIn 8 a 0)), some (xI ((j : Int) - 1))] [] κ M1 hs := by
        intro n
        induction n with
        | zero => intro j pp M1 h1 h2; omega
        | succ n ih =>
          intro j pp M1 h1 h2 hP hS1 hF
          refine x_iload (pc := 35) hX rfl dX6_put_35 ?_
          refine x_if_lt (pc := 37) (tgt := 66) hX dX6_put_37 (by decide) (by omega) (fun h37 => ?_) (fun h37 => ?_)
          · obtain rfl : j = 0 := by omega
            rw [bytesD, List.append_nil] at hF
            refine x_aload_n (pc := 66) hX rfl rfl dX6_put_66 ?_
            refine x_getR (pc := 67) hX fl_X6_49 hK.1 rfl dX6_put_67 ?_
            refine x_cV_P (pc := 70) hX (tX3_length hK.2.2.2.2.2.2.1 hP) hK.2.2.2.2.2.2.1.1 rfl lk_X6_157 rfl rfl (Nat.le_of_ble_eq_true rfl) (by decide) (Nat.zero_le _) (Nat.zero_le _) dX6_put_70 ?_
            refine x_iret (pc := 73) hX rfl (Nat.zero_le _) (Nat.zero_le _) dX6_put_73 ?_
            have hlen : (pp.length : Int) = S.2.2.2.length + chIn 8 a 0 := by rw [hF, List.length_append, bytesD_len]; omega
            obtain rfl := hR
            refine pX_i hlen ⟨hS.1.same hS1 (by omega), hS.2.1.same hS1 (by omega), hS.2.2.1.same hS1 (by omega), ?_⟩ (fun q h1 => hS1 q (by omega))
            rw [← hF]
            exact hP
          · obtain ⟨j, rfl⟩ : ∃ j2, j = j2 + 1 := ⟨j - 1, by omega⟩
            rw [bytesD] at hF
            have hb := chIn_ok 8 a 0 (by decide) (by omega) j (by omega)
            have e1 : ((j + 1 : Nat) : Int) - 1 = (j : Int) := by omega
            rw [e1]
            have hl2 : pp.length + (j + 1) ≤ 80 := by have := congrArg List.length hF; simp [bytesD_len] at this; omega
            refine x_aload_n (pc := 40) hX rfl rfl dX6_put_40 ?_
            refine x_getR (pc := 41) hX fl_X6_49 hK.1 rfl dX6_put_41 ?_
            refine x_lload_n (pc := 44) hX rfl rfl dX6_put_44 ?_
            refine x_bipush (pc := 45) hX (by decide) dX6_put_45 ?_
            refine x_iload (pc := 47) hX rfl dX6_put_47 ?_
            refine x_imul (pc := 49) (v := ((8 * j : Nat) : Int)) hX dX6_put_49 (by omega) ?_
            refine x_lushr (pc := 50) (v := lN (a / 256 ^ j)) hX (xshr8 j ha (by omega)) dX6_put_50 ?_
            refine x_ldc2 (pc := 51) hX tw_573 dX6_put_51 ?_
            refine x_land (pc := 54) (v := lN (a / 256 ^ j % 256)) hX (xand255 (Nat.lt_of_le_of_lt (Nat.div_le_self _ _) ha)) dX6_put_54 ?_
            refine x_l2i (pc := 55) (a := ((a / 256 ^ j % 256 : Nat) : Int)) hX (xl2i _) dX6_put_55 ?_
            refine x_i2c (pc := 56) (v := ((a / 256 ^ j % 256 : Nat) : Int)) hX (xi2c _ (by omega)) dX6_put_56 ?_
            refine x_cV_V (pc := 57) hX (tX3_add hK.2.2.2.2.2.2.1 hP (a / 256 ^ j % 256) hb (by omega)) hK.2.2.2.2.2.2.1.1 rfl lk_X6_219 rfl rfl (Nat.le_of_ble_eq_true rfl) (by decide) (Nat.zero_le _) (Nat.zero_le _) dX6_put_57 (fun M2 hp => ?_)
            refine x_iinc (pc := 60) (v := ((j : Nat) : Int) - 1) hX dX6_put_60 rfl (by decide) rfl (by omega) rfl ?_
            refine x_goto (pc := 63) (tgt := 35) hX dX6_put_63 (by decide) ?_
            exact ih j _ M2 (by omega) (by omega) hp.1 (hS1.tr hp.2) (by rw [← hF, List.append_assoc]; rfl)
      refine x_iload_n (pc := 30) hX rfl rfl dX6_put_30 ?_
      refine x_iconst (pc := 31) hX dX6_put_31 ?_
      refine x_isub (pc := 32) (v := (((chIn 8 a 0).toNat : Nat) : Int) - 1) hX dX6_put_32 (by omega) ?_
      refine x_istore (pc := 33) hX (by decide) rfl rfl dX6_put_33 ?_
      exact loop ((chIn 8 a 0).toNat + 1) _ _ M (Nat.le_refl _) (Nat.lt_succ_self _) hS.2.2.2 Same.rf rfl
    · rw [if_pos (by omega)] at hR
      obtain rfl := hR
      refine x_bipush (pc := 27) hX (by decide) dX6_put_27 ?_
      refine x_iret (pc := 29) hX rfl (Nat.zero_le _) (Nat.zero_le _) dX6_put_29 ?_
      exact pX_p rfl hS
  · rw [if_pos (by omega)] at hR
    obtain rfl := hR
    refine x_bipush (pc := 10) hX (by decide) dX6_put_10 ?_
    refine x_iret (pc := 12) hX rfl (Nat.zero_le _) (Nat.zero_le _) dX6_put_12 ?_
    exact pX_p rfl hS

set_option maxHeartbeats 4000000 in
set_option maxRecDepth 100000 in
theorem tX6_wipe {G : XG} {κ : XKs} {M : XM} {hs : Nat} (hK : KX κ hs) {S : Sx} (hS : RX M S) {R : Int × Sx} (hR : sWipe S = R) (hh : 151 ≤ hs) : XC G mX6_wipe 1 0 0 [xR 0] κ M hs (pX κ M hs R.1 R.2) := by
  refine XC.intro cdX6_wipe (by decide) (by decide) (Nat.le_of_ble_eq_true rfl) (loc := [some (xR 0), none]) rfl (fun X hX => ?_)
  refine x_aload_n (pc := 0) hX rfl rfl dX6_wipe_0 ?_
  refine x_getR (pc := 1) hX fl_X6_49 hK.1 rfl dX6_wipe_1 ?_
  refine x_cV_P (pc := 4) hX (tX3_length hK.2.2.2.2.2.2.1 hS.2.2.2) hK.2.2.2.2.2.2.1.1 rfl lk_X6_157 rfl rfl (Nat.le_of_ble_eq_true rfl) (by decide) (Nat.zero_le _) (Nat.zero_le _) dX6_wipe_4 ?_
  refine x_istore_n (pc := 7) hX rfl (by decide) rfl rfl dX6_wipe_7 ?_
  refine x_aload_n (pc := 8) hX rfl rfl dX6_wipe_8 ?_
  refine x_getR (pc := 9) hX fl_X6_49 hK.1 rfl dX6_wipe_9 ?_
  refine x_cV_V (pc := 12) hX (tX3_clear hK.2.2.2.2.2.2.1 (p := [])) hK.2.2.2.2.2.2.1.1 rfl lk_X6_223 rfl rfl (Nat.le_of_ble_eq_true rfl) (by decide) (Nat.zero_le _) (Nat.zero_le _) dX6_wipe_12 (fun M1 hp => ?_)
  refine x_iload_n (pc := 15) hX rfl rfl dX6_wipe_15 ?_
  refine x_iret (pc := 16) hX rfl (Nat.zero_le _) (Nat.zero_le _) dX6_wipe_16 ?_
  obtain rfl := hR
  exact pX_i rfl ⟨hS.1.same hp.2 (by omega), hS.2.1.same hp.2 (by omega), hS.2.2.1.same hp.2 (by omega), hp.1⟩ (fun q h1 => hp.2 q (by omega))

set_option maxHeartbeats 4000000 in
set_option maxRecDepth 100000 in
theorem tX6_fault {G : XG} {κ : XKs} {M : XM} {hs : Nat} (hK : KX κ hs) {S : Sx} (hS : RX M S) {R : Int} (hR : pFault S.2.2.2 80 0 = R) (hh : 151 ≤ hs) : XC G mX6_fault 6 0 0 [xR 0] κ M hs (pX κ M hs R S) := by
  refine XC.intro cdX6_fault (by decide) (by decide) (Nat.le_of_ble_eq_true rfl) (loc := [some (xR 0)]) rfl (fun X hX => ?_)
  refine x_aload_n (pc := 0) hX rfl rfl dX6_fault_0 ?_
  refine x_getR (pc := 1) hX fl_X6_41 hK.1 rfl dX6_fault_1 ?_
  refine x_cV_I (pc := 4) hX (tX2_firstFault hK.2.2.2.2.2.2.1 hS.2.2.2) hK.2.2.2.2.2.2.1.2.2.1 rfl lk_X6_224 rfl rfl (Nat.le_of_ble_eq_true rfl) (by decide) (Nat.zero_le _) (Nat.zero_le _) dX6_fault_4 (fun a M1 hp => ?_)
  refine x_iret (pc := 7) hX rfl (Nat.zero_le _) (Nat.zero_le _) dX6_fault_7 ?_
  exact pX_i (hp.1.trans hR) (hS.same hp.2.2 (by omega)) (fun q h1 => hp.2.2 q (by omega))

theorem pOrder_le (p : List Nat) (i : Nat) (hi : i ≤ p.length) : (pOrder p i).2 ≤ p.length := by
  unfold pOrder
  cases hd : pDig p i 3 with
  | none => exact hi
  | some c =>
    have h1 := pDig_some hd
    show (pRest p c (chr p (i + 1)) (i + 2)).2 ≤ _
    have hch : chr p (i + 1) ≠ 0 → i + 2 ≤ p.length := fun z => chr_lt z
    generalize hk : chr p (i + 1) = k at hch
    by_cases k1 : k = 61 ∨ k = 43
    · rw [pRest_eq k1]
      have h2 := pRuns_le 40 p (i + 2) [] (hch (by omega)) (fun q hq => by cases hq)
      generalize hr : pRuns p 40 (i + 2) [] = rr at h2
      obtain ⟨a, b⟩ := rr
      cases a with
      | none => exact h2.1
      | some L => exact h2.1
    · by_cases k2 : k = 45
      · subst k2
        rw [pRest_45]
        cases hn : pNum p (i + 2) with
        | none => exact hch (by decide)
        | some q =>
          obtain ⟨r, j1⟩ := q
          have h3 := pNum_some hn
          simp only
          by_cases k3 : chr p j1 = 42
          · rw [if_pos k3]
            cases hm : pNum p (j1 + 1) with
            | none => exact chr_lt (by omega)
            | some q =>
              obtain ⟨n, j2⟩ := q
              exact (pNum_some hm).2.1
          · rw [if_neg k3]
            exact h3.2.1
      · by_cases k4 : k = 64
        · subst k4
          rw [pRest_64]
          cases hn : pNum p (i + 2) with
          | none => exact hch (by decide)
          | some q =>
            obtain ⟨r, j1⟩ := q
            have h3 := pNum_some hn
            simp only
            by_cases k3 : chr p j1 = 61
            · rw [if_pos k3]
              cases hm : pDig p (j1 + 1) 9 with
              | none => exact chr_lt (by omega)
              | some v => exact (pDig_some hm).2.2
            · rw [if_neg k3]
              exact h3.2.1
        · by_cases k5 : k = 33
          · subst k5
            rw [pRest_33]
            exact hch (by decide)
          · rw [pRest_no (fun z => k1 (Or.inl z)) (fun z => k1 (Or.inr z)) k2 k4 k5]
            show i + 2 - 1 ≤ _
            omega
theorem pFault_rng : ∀ (f : Nat) (p : List Nat) (i : Nat), i ≤ p.length → -6 ≤ pFault p f i ∧ pFault p f i ≤ p.length
  | 0, p, i, h => by rw [pFault]; omega
  | f + 1, p, i, h => by
    rw [pFault]
    have h1 := pOrder_le p i h
    generalize pOrder p i = r at h1
    obtain ⟨o, j⟩ := r
    cases o with
    | none => show -6 ≤ (j : Int) ∧ (j : Int) ≤ p.length; omega
    | some od =>
      show -6 ≤ (if chr p j = 59 then pFault p f (j + 1) else if j = p.length then -6 else (j : Int)) ∧ (if chr p j = 59 then pFault p f (j + 1) else if j = p.length then -6 else (j : Int)) ≤ _
      by_cases e : chr p j = 59
      · rw [if_pos e]
        exact pFault_rng f p (j + 1) (chr_lt (by omega))
      · rw [if_neg e]
        split <;> omega
theorem Sl.same2 {M M' : XM} {sl : Nat → Option Cs} {a b : Nat} (h : Sl M sl) (hq : Same a b M M') (hd : b ≤ 102) : Sl M' sl := h.same hq (by omega)
set_option maxHeartbeats 4000000 in
set_option maxRecDepth 100000 in
theorem tX6_carryOut {G : XG} {κ : XKs} {M : XM} {hs : Nat} (hK : KX κ hs) {S : Sx} (hS : RX M S) {R : Int × Sx} (hR : sCarry S = R) (hh : 151 ≤ hs) : XC G mX6_carryOut 6 0 0 [xR 0] κ M hs (pX κ M hs R.1 R.2) := by
  refine XC.intro cdX6_carryOut (by decide) (by decide) (Nat.le_of_ble_eq_true rfl) (loc := [some (xR 0), none]) rfl (fun X hX => ?_)
  refine x_aload_n (pc := 0) hX rfl rfl dX6_carryOut_0 ?_
  refine x_getR (pc := 1) hX fl_X6_41 hK.1 rfl dX6_carryOut_1 ?_
  refine x_cV_I (pc := 4) hX (tX2_firstFault hK.2.2.2.2.2.2.1 hS.2.2.2) hK.2.2.2.2.2.2.1.2.2.1 rfl lk_X6_224 rfl rfl (Nat.le_of_ble_eq_true rfl) (by decide) (Nat.zero_le _) (Nat.zero_le _) dX6_carryOut_4 (fun a M1 hp => ?_)
  obtain ⟨rfl, hP1, hq1⟩ := hp
  have hR1 := hS.same hq1 (by omega)
  have hpl := hS.2.2.2.2.1
  have hfr := pFault_rng 80 S.2.2.2 0 (Nat.zero_le _)
  unfold sCarry at hR
  refine x_bipush (pc := 7) hX (by decide) dX6_carryOut_7 ?_
  refine x_icmp_eq (pc := 9) (tgt := 15) hX dX6_carryOut_9 (by decide) (by omega) (fun h9 => ?_) (fun h9 => ?_)
  · rw [if_neg (fun z => z h9)] at hR
    refine x_aload_n (pc := 15) hX rfl rfl dX6_carryOut_15 ?_
    refine x_getR (pc := 16) hX fl_X6_19 hK.1 rfl dX6_carryOut_16 ?_
    refine x_aload_n (pc := 19) hX rfl rfl dX6_carryOut_19 ?_
    refine x_getR (pc := 20) hX fl_X6_12 hK.1 rfl dX6_carryOut_20 ?_
    refine x_cV_V (pc := 23) hX (tX1_record hK.2.2.1 hK.2.1 (by decide) hR1.2.1 hR1.1) hK.2.2.1.1 rfl lk_X6_227 rfl rfl (Nat.le_of_ble_eq_true rfl) (by decide) (Nat.zero_le _) (Nat.zero_le _) dX6_carryOut_23 (fun M2 hp => ?_)
    obtain ⟨hH2, hq2⟩ := hp
    have hR2 : RX M2 (S.1, pushH S.2.1 S.1, S.2.2.1, S.2.2.2) := ⟨hR1.1.same hq2 (by omega), hH2, hR1.2.2.1.same2 hq2 (by omega), hR1.2.2.2.same hq2 (by omega)⟩
    refine x_aload_n (pc := 26) hX rfl rfl dX6_carryOut_26 ?_
    refine x_cV_I (pc := 27) hX (tX6_obeyOrders hK hR2 rfl) hK.1 rfl lk_X6_231 rfl rfl (Nat.le_of_ble_eq_true rfl) (by decide) (Nat.zero_le _) (Nat.zero_le _) dX6_carryOut_27 (fun a9 M3 hp => ?_)
    obtain ⟨hR3, rfl, hq3⟩ := hp
    refine x_istore_n (pc := 30) hX rfl (by decide) rfl rfl dX6_carryOut_30 ?_
    refine x_aload_n (pc := 31) hX rfl rfl dX6_carryOut_31 ?_
    refine x_getR (pc := 32) hX fl_X6_49 hK.1 rfl dX6_carryOut_32 ?_
    refine x_cV_V (pc := 35) hX (tX3_clear hK.2.2.2.2.2.2.1 (p := [])) hK.2.2.2.2.2.2.1.1 rfl lk_X6_223 rfl rfl (Nat.le_of_ble_eq_true rfl) (by decide) (Nat.zero_le _) (Nat.zero_le _) dX6_carryOut_35 (fun M4 hp => ?_)
    obtain ⟨hP4, hq4⟩ := hp
    refine x_iload_n (pc := 38) hX rfl rfl dX6_carryOut_38 ?_
    refine x_iret (pc := 39) hX rfl (Nat.zero_le _) (Nat.zero_le _) dX6_carryOut_39 ?_
    obtain rfl := hR
    exact pX_i rfl ⟨hR3.1.same hq4 (by omega), hR3.2.1.same hq4 (by omega), hR3.2.2.1.same hq4 (by omega), hP4⟩ (fun q h1 => (hq4 q (by omega)).trans ((hq3 q (by omega)).trans ((hq2 q (by omega)).trans (hq1 q (by omega)))))
  · rw [if_pos h9] at hR
    obtain rfl := hR
    refine x_bipush (pc := 12) hX (by decide) dX6_carryOut_12 ?_
    refine x_iret (pc := 14) hX rfl (Nat.zero_le _) (Nat.zero_le _) dX6_carryOut_14 ?_
    exact pX_i rfl hR1 (fun q h1 => hq1 q (by omega))

theorem getLastD_snoc {α : Type} (l : List α) (c d : α) : (l ++ [c]).getLastD d = c := by simp [List.getLastD_eq_getLast?]
set_option maxHeartbeats 4000000 in
set_option maxRecDepth 100000 in
theorem tX6_undo {G : XG} {κ : XKs} {M : XM} {hs : Nat} (hK : KX κ hs) {S : Sx} (hS : RX M S) {R : Int × Sx} (hR : sUndo S = R) (hh : 151 ≤ hs) : XC G mX6_undo 4 0 0 [xR 0] κ M hs (pX κ M hs R.1 R.2) := by
  refine XC.intro cdX6_undo (by decide) (by decide) (Nat.le_of_ble_eq_true rfl) (loc := [some (xR 0)]) rfl (fun X hX => ?_)
  unfold sUndo at hR
  refine x_aload_n (pc := 0) hX rfl rfl dX6_undo_0 ?_
  refine x_getR (pc := 1) hX fl_X6_19 hK.1 rfl dX6_undo_1 ?_
  refine x_cV_P (pc := 4) hX (tX1_kept hK.2.2.1 hS.2.1) hK.2.2.1.1 rfl lk_X6_162 rfl rfl (Nat.le_of_ble_eq_true rfl) (by decide) (Nat.zero_le _) (Nat.zero_le _) dX6_undo_4 ?_
  have hhl : S.2.1.length ≤ 6 := by obtain ⟨old, -, -, -, g, -⟩ := hS.2.1; exact g
  refine x_if_ne (pc := 7) (tgt := 13) hX dX6_undo_7 (by decide) (by omega) (fun h7 => ?_) (fun h7 => ?_)
  · rw [if_neg (by omega)] at hR
    obtain ⟨h0, c0, hcc⟩ : ∃ h0 c0, S.2.1 = h0 ++ [c0] := ⟨S.2.1.dropLast, S.2.1.getLast (fun z => h7 (by rw [z]; rfl)), (List.dropLast_concat_getLast _).symm⟩
    have hS2 := hS.2.1
    rw [hcc] at hR hS2
    rw [List.dropLast_concat, getLastD_snoc] at hR
    refine x_aload_n (pc := 13) hX rfl rfl dX6_undo_13 ?_
    refine x_getR (pc := 14) hX fl_X6_19 hK.1 rfl dX6_undo_14 ?_
    refine x_aload_n (pc := 17) hX rfl rfl dX6_undo_17 ?_
    refine x_getR (pc := 18) hX fl_X6_12 hK.1 rfl dX6_undo_18 ?_
    refine x_cV_V (pc := 21) hX (tX1_takeBack hK.2.2.1 hK.2.1 (by decide) hS2) hK.2.2.1.1 rfl lk_X6_234 rfl rfl (Nat.le_of_ble_eq_true rfl) (by decide) (Nat.zero_le _) (Nat.zero_le _) dX6_undo_21 (fun M1 hp => ?_)
    obtain ⟨hT1, hH1, hq1⟩ := hp
    have hq9 : Same 1 16 M M1 := fun q hq => hq1 q (by omega) (by omega)
    refine x_aload_n (pc := 24) hX rfl rfl dX6_undo_24 ?_
    refine x_getR (pc := 25) hX fl_X6_19 hK.1 rfl dX6_undo_25 ?_
    refine x_cV_P (pc := 28) hX (tX1_kept hK.2.2.1 hH1) hK.2.2.1.1 rfl lk_X6_162 rfl rfl (Nat.le_of_ble_eq_true rfl) (by decide) (Nat.zero_le _) (Nat.zero_le _) dX6_undo_28 ?_
    refine x_iret (pc := 31) hX rfl (Nat.zero_le _) (Nat.zero_le _) dX6_undo_31 ?_
    obtain rfl := hR
    exact pX_i rfl ⟨hT1, hH1, hS.2.2.1.same hq9 (by omega), hS.2.2.2.same hq9 (by omega)⟩ (fun q h1 => hq9 q (by omega))
  · rw [if_pos (by omega)] at hR
    obtain rfl := hR
    refine x_bipush (pc := 10) hX (by decide) dX6_undo_10 ?_
    refine x_iret (pc := 12) hX rfl (Nat.zero_le _) (Nat.zero_le _) dX6_undo_12 ?_
    exact pX_p rfl hS

set_option maxHeartbeats 4000000 in
set_option maxRecDepth 100000 in
theorem tX6_save {G : XG} {κ : XKs} {M : XM} {hs : Nat} (hK : KX κ hs) {S : Sx} (hS : RX M S) (i : Int) (hi : InR i) {R : Int × Sx} (hR : sSave S i = R) (hh : 151 ≤ hs) : XC G mX6_save 3 0 0 [xR 0, xI i] κ M hs (pX κ M hs R.1 R.2) := by
  refine XC.intro cdX6_save (by decide) (by decide) (Nat.le_of_ble_eq_true rfl) (loc := [some (xR 0), some (xI i)]) rfl (fun X hX => ?_)
  have hi0 := hi
  unfold InR at hi0
  unfold sSave at hR
  refine x_iload_n (pc := 0) hX rfl rfl dX6_save_0 ?_
  refine x_cS_P (pc := 1) hX (tX6_isSlot i hi) lk_X6_237 rfl rfl (Nat.le_of_ble_eq_true rfl) (by decide) (Nat.zero_le _) (Nat.zero_le _) dX6_save_1 ?_
  by_cases hci1 : 0 ≤ i ∧ i < 2
  · rw [if_pos hci1]
    rw [if_neg (fun z => z hci1)] at hR
    obtain ⟨g, hG, hg⟩ := hK.2.2.2.1
    have hKs := hK.2.2.2.2.2.2.2.2 i.toNat (by omega)
    refine x_if_ne (pc := 4) (tgt := 10) hX dX6_save_4 (by decide) (by omega) (fun h4 => ?_) (fun h4 => ?_)
    · refine x_aload_n (pc := 10) hX rfl rfl dX6_save_10 ?_
      refine x_getR (pc := 11) hX fl_X6_23 hK.1 rfl dX6_save_11 ?_
      refine x_iload_n (pc := 14) hX rfl rfl dX6_save_14 ?_
      refine x_aald (pc := 15) (j := i.toNat) hX hG rfl (by omega) (by omega) (by decide) (hg i.toNat (by omega)) dX6_save_15 ?_
      refine x_aload_n (pc := 16) hX rfl rfl dX6_save_16 ?_
      refine x_getR (pc := 17) hX fl_X6_12 hK.1 rfl dX6_save_17 ?_
      refine x_cV_V (pc := 20) hX (tX5_copyFrom hKs hK.2.1 (by omega) hS.1) hKs.1 rfl lk_X6_240 rfl rfl (Nat.le_of_ble_eq_true rfl) (by decide) (Nat.zero_le _) (Nat.zero_le _) dX6_save_20 (fun M1 hp => ?_)
      obtain ⟨hT1, hq1⟩ := hp
      refine x_aload_n (pc := 23) hX rfl rfl dX6_save_23 ?_
      refine x_getR (pc := 24) hX fl_X6_27 hK.1 rfl dX6_save_24 ?_
      refine x_iload_n (pc := 27) hX rfl rfl dX6_save_27 ?_
      refine x_iconst (pc := 28) hX dX6_save_28 ?_
      refine x_zast (pc := 29) (j := i.toNat) hX hK.2.2.2.2.1 (by omega) (by omega) (by decide) (xn_bool (by decide)) dX6_save_29 ?_
      have hq2 : Same 102 103 M1 (mput M1 102 i.toNat 1) := Same.put (by decide) (by decide)
      have hSt2 : St (mput M1 102 i.toNat 1) 1 S.1 := (hS.1.same hq1 (by omega)).same hq2 (by omega)
      refine x_aload_n (pc := 30) hX rfl rfl dX6_save_30 ?_
      refine x_getR (pc := 31) hX fl_X6_12 hK.1 rfl dX6_save_31 ?_
      refine x_cV_P (pc := 34) hX (tX5_allRuns hK.2.1 hSt2) hK.2.1.1 rfl lk_X6_154 rfl rfl (Nat.le_of_ble_eq_true rfl) (by decide) (Nat.zero_le _) (Nat.zero_le _) dX6_save_34 ?_
      refine x_iret (pc := 37) hX rfl (Nat.zero_le _) (Nat.zero_le _) dX6_save_37 ?_
      obtain rfl := hR
      refine pX_i rfl ⟨hSt2, (hS.2.1.same hq1 (by omega)).same hq2 (by omega), fun j hj => ?_, (hS.2.2.2.same hq1 (by omega)).same hq2 (by omega)⟩ (fun q h1 => (hq2 q (by omega)).trans (hq1 q (by omega)))
      by_cases e : j = i.toNat
      · right
        refine ⟨by rw [e, mp_eq], S.1, if_pos e, ?_⟩
        rw [e]
        exact hT1.same hq2 (by omega)
      · have e9 : mput M1 102 i.toNat 1 102 j = M 102 j := by rw [mp_ne _ _ e, hq1 102 (by omega)]
        rw [e9]
        show _ ∧ (if j = i.toNat then some S.1 else S.2.2.1 j) = none ∨ _ ∧ ∃ c, (if j = i.toNat then some S.1 else S.2.2.1 j) = some c ∧ _
        rw [if_neg e]
        rcases hS.2.2.1 j hj with h | ⟨h, c, h1, h2⟩
        · exact Or.inl h
        · exact Or.inr ⟨h, c, h1, (h2.same hq1 (by omega)).same hq2 (by omega)⟩
    · exfalso; omega
  · rw [if_neg hci1]
    refine x_if_ne (pc := 4) (tgt := 10) hX dX6_save_4 (by decide) (by omega) (fun h4 => ?_) (fun h4 => ?_)
    · exfalso; omega
    · refine x_bipush (pc := 7) hX (by decide) dX6_save_7 ?_
      refine x_iret (pc := 9) hX rfl (Nat.zero_le _) (Nat.zero_le _) dX6_save_9 ?_
      rw [if_pos hci1] at hR
      obtain rfl := hR
      exact pX_p rfl hS

set_option maxHeartbeats 4000000 in
set_option maxRecDepth 100000 in
theorem tX6_restore {G : XG} {κ : XKs} {M : XM} {hs : Nat} (hK : KX κ hs) {S : Sx} (hS : RX M S) (i : Int) (hi : InR i) {R : Int × Sx} (hR : sRest S i = R) (hh : 151 ≤ hs) : XC G mX6_restore 4 0 0 [xR 0, xI i] κ M hs (pX κ M hs R.1 R.2) := by
  refine XC.intro cdX6_restore (by decide) (by decide) (Nat.le_of_ble_eq_true rfl) (loc := [some (xR 0), some (xI i)]) rfl (fun X hX => ?_)
  have hi0 := hi
  unfold InR at hi0
  unfold sRest at hR
  refine x_iload_n (pc := 0) hX rfl rfl dX6_restore_0 ?_
  refine x_cS_P (pc := 1) hX (tX6_isSlot i hi) lk_X6_237 rfl rfl (Nat.le_of_ble_eq_true rfl) (by decide) (Nat.zero_le _) (Nat.zero_le _) dX6_restore_1 ?_
  by_cases hci1 : 0 ≤ i ∧ i < 2
  · rw [if_pos hci1]
    rw [if_neg (fun z => z hci1)] at hR
    obtain ⟨g, hG, hg⟩ := hK.2.2.2.1
    have hKs := hK.2.2.2.2.2.2.2.2 i.toNat (by omega)
    have hsl := hS.2.2.1 i.toNat (by omega)
    refine x_if_ne (pc := 4) (tgt := 10) hX dX6_restore_4 (by decide) (by omega) (fun h4 => ?_) (fun h4 => ?_)
    · refine x_aload_n (pc := 10) hX rfl rfl dX6_restore_10 ?_
      refine x_getR (pc := 11) hX fl_X6_27 hK.1 rfl dX6_restore_11 ?_
      refine x_iload_n (pc := 14) hX rfl rfl dX6_restore_14 ?_
      by_cases hn : M 102 i.toNat = 0
      · obtain ⟨-, hnone⟩ : M 102 i.toNat = 0 ∧ S.2.2.1 i.toNat = none := hsl.resolve_right (fun z => by have := z.1; omega)
        rw [hnone] at hR
        obtain rfl := hR
        refine x_zald (pc := 15) (j := i.toNat) (v := (0 : Int)) hX hK.2.2.2.2.1 (by omega) (by omega) (by decide) hn dX6_restore_15 ?_
        refine x_if_ne (pc := 16) (tgt := 22) hX dX6_restore_16 (by decide) (by omega) (fun h16 => ?_) (fun h16 => ?_)
        · exfalso; omega
        · refine x_bipush (pc := 19) hX (by decide) dX6_restore_19 ?_
          refine x_iret (pc := 21) hX rfl (Nat.zero_le _) (Nat.zero_le _) dX6_restore_21 ?_
          exact pX_p rfl hS
      · obtain ⟨hone, c, hsome, hc⟩ := hsl.resolve_left (fun z => hn z.1)
        rw [hsome] at hR
        obtain rfl := hR
        refine x_zald (pc := 15) (j := i.toNat) (v := (1 : Int)) hX hK.2.2.2.2.1 (by omega) (by omega) (by decide) hone dX6_restore_15 ?_
        refine x_if_ne (pc := 16) (tgt := 22) hX dX6_restore_16 (by decide) (by omega) (fun h16 => ?_) (fun h16 => ?_)
        · refine x_aload_n (pc := 22) hX rfl rfl dX6_restore_22 ?_
          refine x_getR (pc := 23) hX fl_X6_19 hK.1 rfl dX6_restore_23 ?_
          refine x_aload_n (pc := 26) hX rfl rfl dX6_restore_26 ?_
          refine x_getR (pc := 27) hX fl_X6_12 hK.1 rfl dX6_restore_27 ?_
          refine x_cV_V (pc := 30) hX (tX1_record hK.2.2.1 hK.2.1 (by decide) hS.2.1 hS.1) hK.2.2.1.1 rfl lk_X6_227 rfl rfl (Nat.le_of_ble_eq_true rfl) (by decide) (Nat.zero_le _) (Nat.zero_le _) dX6_restore_30 (fun M1 hp => ?_)
          obtain ⟨hH1, hq1⟩ := hp
          have hc1 := hc.same hq1 (by omega)
          refine x_aload_n (pc := 33) hX rfl rfl dX6_restore_33 ?_
          refine x_getR (pc := 34) hX fl_X6_12 hK.1 rfl dX6_restore_34 ?_
          refine x_aload_n (pc := 37) hX rfl rfl dX6_restore_37 ?_
          refine x_getR (pc := 38) hX fl_X6_23 hK.1 rfl dX6_restore_38 ?_
          refine x_iload_n (pc := 41) hX rfl rfl dX6_restore_41 ?_
          refine x_aald (pc := 42) (j := i.toNat) hX hG rfl (by omega) (by omega) (by decide) (hg i.toNat (by omega)) dX6_restore_42 ?_
          refine x_cV_V (pc := 43) hX (tX5_copyFrom hK.2.1 hKs (by omega) hc1) hK.2.1.1 rfl lk_X6_240 rfl rfl (Nat.le_of_ble_eq_true rfl) (by decide) (Nat.zero_le _) (Nat.zero_le _) dX6_restore_43 (fun M2 hp => ?_)
          obtain ⟨hT2, hq2⟩ := hp
          refine x_aload_n (pc := 46) hX rfl rfl dX6_restore_46 ?_
          refine x_getR (pc := 47) hX fl_X6_12 hK.1 rfl dX6_restore_47 ?_
          refine x_cV_P (pc := 50) hX (tX5_allRuns hK.2.1 hT2) hK.2.1.1 rfl lk_X6_154 rfl rfl (Nat.le_of_ble_eq_true rfl) (by decide) (Nat.zero_le _) (Nat.zero_le _) dX6_restore_50 ?_
          refine x_iret (pc := 53) hX rfl (Nat.zero_le _) (Nat.zero_le _) dX6_restore_53 ?_
          exact pX_i rfl ⟨hT2, hH1.same hq2 (by omega), (hS.2.2.1.same hq1 (by omega)).same hq2 (by omega), (hS.2.2.2.same hq1 (by omega)).same hq2 (by omega)⟩ (fun q h1 => (hq2 q (by omega)).trans (hq1 q (by omega)))
        · exfalso; omega
    · exfalso; omega
  · rw [if_neg hci1]
    refine x_if_ne (pc := 4) (tgt := 10) hX dX6_restore_4 (by decide) (by omega) (fun h4 => ?_) (fun h4 => ?_)
    · exfalso; omega
    · refine x_bipush (pc := 7) hX (by decide) dX6_restore_7 ?_
      refine x_iret (pc := 9) hX rfl (Nat.zero_le _) (Nat.zero_le _) dX6_restore_9 ?_
      rw [if_pos hci1] at hR
      obtain rfl := hR
      exact pX_p rfl hS

