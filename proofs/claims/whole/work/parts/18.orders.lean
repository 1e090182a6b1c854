/-! OrderReader: runs, orders, the fault -/
/-- the reader amid runs: what was read stands in its rows -/
def RI (M0 M : XM) (p : List Nat) (j : Nat) (acc : Ru) : Prop := RdS M p j ∧ Same 106 111 M0 M ∧ (∀ f, f = 5 ∨ f = 6 → M 106 f = M0 106 f) ∧ ∀ x, x < acc.length → M 109 x = (rv acc x : Int) ∧ M 110 x = (rn acc x : Int)
theorem RI.kp {M0 M M' : XM} {p : List Nat} {j j' : Nat} {acc : Ru} (h : RI M0 M p j acc) (hk : Kp M M') (hS : RdS M' p j') : RI M0 M' p j' acc := ⟨hS, h.2.1.tr hk.same, fun f hf => (hk.fld (by omega) (by omega)).trans (h.2.2.1 f hf), by rw [hk.cell (by decide), hk.cell (by decide)]; exact h.2.2.2⟩
theorem RdS.cell {M : XM} {p : List Nat} {j : Nat} (h : RdS M p j) {a k : Nat} {v : Int} (ha : a = 109 ∨ a = 110) : RdS (mput M a k v) p j := ⟨h.1.congr (mput_ne _ _ _ (by omega)) (mput_ne _ _ _ (by omega)), by rw [mput_ne _ _ _ (by omega)]; exact h.2.1, h.2.2⟩
theorem RdS.fld {M : XM} {p : List Nat} {j : Nat} (h : RdS M p j) {k : Nat} {v : Int} (hk : k ≠ 4) : RdS (mput M 106 k v) p j := ⟨h.1.congr (mput_ne _ _ _ (by decide)) (mput_ne _ _ _ (by decide)), by rw [mp_ne _ _ (Ne.symm hk)]; exact h.2.1, h.2.2⟩
theorem RI.arr {M0 M : XM} {p : List Nat} {j a : Nat} {v : Int} {acc : Ru} (h : RI M0 M p j acc) (ha : a = 109 ∨ a = 110) : RI M0 (mput M a acc.length v) p j acc := by
  refine ⟨h.1.cell ha, h.2.1.tr (Same.put (by omega) (by omega)), fun f hf => by rw [mput_ne _ _ _ (by omega)]; exact h.2.2.1 f hf, fun x hx => ?_⟩
  have h1 := h.2.2.2 x hx
  refine ⟨?_, ?_⟩
  · rw [mp_at, if_neg (fun z => absurd z.2 (by omega))]; exact h1.1
  · rw [mp_at, if_neg (fun z => absurd z.2 (by omega))]; exact h1.2
theorem RI.run {M0 M : XM} {p : List Nat} {j : Nat} {v : Int} {acc : Ru} (h : RI M0 M p j acc) : RI M0 (mput M 106 3 v) p j acc := ⟨h.1.fld (by decide), h.2.1.tr (Same.put (by decide) (by decide)), fun f hf => by rw [mp_ne _ _ (by omega)]; exact h.2.2.1 f hf, by rw [mput_ne _ _ _ (by decide), mput_ne _ _ _ (by decide)]; exact h.2.2.2⟩
theorem RI.add {M0 M : XM} {p : List Nat} {j v w : Nat} {acc : Ru} (h : RI M0 M p j acc) (hv : M 109 acc.length = (v : Int)) (hw : M 110 acc.length = (w : Int)) : RI M0 M p j (acc ++ [(v, w)]) := by
  refine ⟨h.1, h.2.1, h.2.2.1, fun x hx => ?_⟩
  have hx2 : x < acc.length + 1 := by simpa using hx
  by_cases e : x = acc.length
  · subst e
    rw [rv_last, rn_last]
    exact ⟨hv, hw⟩
  · rw [rv_app _ (by omega), rn_app _ (by omega)]
    exact h.2.2.2 x (by omega)
/-- what the reader holds of an order -/
def OdM (M : XM) (od : Od) : Prop := M 106 5 = (od.1 : Int) ∧ M 106 6 = (od.2.1 : Int) ∧ (od.2.1 = 61 ∨ od.2.1 = 43 → M 106 3 = (od.2.2.2.2.length : Int) ∧ ∀ x, x < od.2.2.2.2.length → M 109 x = (rv od.2.2.2.2 x : Int) ∧ M 110 x = (rn od.2.2.2.2 x : Int)) ∧ (od.2.1 = 45 ∨ od.2.1 = 64 → M 106 7 = (od.2.2.1 : Int) ∧ M 106 8 = (od.2.2.2.1 : Int))
theorem pRest_eq {p : List Nat} {c k i : Nat} (h : k = 61 ∨ k = 43) : pRest p c k i = (match pRuns p 40 i [] with | (some L, j) => (some (c, k, 0, 0, L), j) | (none, j) => (none, j)) := if_pos h
theorem pRest_45 {p : List Nat} {c i : Nat} : pRest p c 45 i = (match pNum p i with
    | none => (none, i)
    | some (r, j) => if chr p j = 42 then (match pNum p (j + 1) with | none => (none, j + 1) | some (n, j2) => (some (c, 45, r, n, []), j2)) else (none, j)) := rfl
theorem pRest_64 {p : List Nat} {c i : Nat} : pRest p c 64 i = (match pNum p i with
    | none => (none, i)
    | some (r, j) => if chr p j = 61 then (match pDig p (j + 1) 9 with | none => (none, j + 1) | some v => (some (c, 64, r, v, []), j + 2)) else (none, j)) := rfl
theorem pRest_33 {p : List Nat} {c i : Nat} : pRest p c 33 i = (some (c, 33, 0, 0, []), i) := rfl
theorem pRest_no {p : List Nat} {c k i : Nat} (h1 : k ≠ 61) (h2 : k ≠ 43) (h3 : k ≠ 45) (h4 : k ≠ 64) (h5 : k ≠ 33) : pRest p c k i = (none, i - 1) := by
  unfold pRest
  rw [if_neg (fun z => z.elim h1 h2), if_neg h3, if_neg h4, if_neg h5]
set_option maxHeartbeats 4000000 in
set_option maxRecDepth 100000 in
theorem tX2_readRuns {G : XG} {κ : XKs} {M : XM} {hs : Nat} {p : List Nat} (hK : KRd κ hs) {i : Nat} (hS : RdS M p i) {res : Option Ru} {jf : Nat} (hR : pRuns p 40 i [] = (res, jf)) : XC G mX2_readRuns 3 0 0 [xR 106] κ M hs (pI κ hs (fun a M' => RdS M' p jf ∧ Same 106 111 M M' ∧ (∀ f, f = 5 ∨ f = 6 → M' 106 f = M 106 f) ∧ (res = none → a = 0) ∧ ∀ L, res = some L → a = 1 ∧ M' 106 3 = (L.length : Int) ∧ ∀ x, x < L.length → M' 109 x = (rv L x : Int) ∧ M' 110 x = (rn L x : Int))) := by
  refine XC.intro cdX2_readRuns (by decide) (by decide) (Nat.le_of_ble_eq_true rfl) (loc := [some (xR 106), none]) rfl (fun X hX => ?_)
  have hp2 := hS.1.2.1
  have hi2 := hS.2.2
  have loop : ∀ (n k j : Nat) (acc : Ru) (M1 : XM), k ≤ 40 → 40 < k + n → acc.length = k → RI M M1 p j acc → pRuns p (40 - k) j acc = (res, jf) → XW G X mX2_readRuns (xq G (pI κ hs (fun a M' => RdS M' p jf ∧ Same 106 111 M M' ∧ (∀ f, f = 5 ∨ f = 6 → M' 106 f = M 106 f) ∧ (res = none → a = 0) ∧ ∀ L, res = some L → a = 1 ∧ M' 106 3 = (L.length : Int) ∧ ∀ x, x < L.length → M' 109 x = (rv L x : Int) ∧ M' 110 x = (rn L x : Int))) 0 0 X) 0 0 7 [some (xR 106), some (xI (k : Int))] [] κ M1 hs := by
    intro n
    induction n with
    | zero => intro k j acc M1 h1 h2; omega
    | succ n ih =>
      intro k j acc M1 h1 h2 hk RI1 hF
      subst hk
      have hj2 := RI1.1.2.2
      refine x_iload_n (pc := 7) hX rfl rfl dX2_readRuns_7 ?_
      refine x_bipush (pc := 8) hX (by decide) dX2_readRuns_8 ?_
      refine x_icmp_ge (pc := 10) (tgt := 93) hX dX2_readRuns_10 (by decide) (by omega) (fun h10 => ?_) (fun h10 => ?_)
      · refine x_iconst (pc := 93) hX dX2_readRuns_93 ?_
        refine x_zret (pc := 94) hX rfl (xn_bool (by omega)) (Nat.zero_le _) (Nat.zero_le _) dX2_readRuns_94 ?_
        rw [show 40 - acc.length = 0 by omega] at hF
        cases hF
        exact pI_i ⟨RI1.1, RI1.2.1, RI1.2.2.1, fun _ => rfl, fun L hL => (by cases hL)⟩
      · obtain ⟨f9, hf9⟩ : ∃ f9, 40 - acc.length = f9 + 1 := ⟨39 - acc.length, by omega⟩
        rw [hf9, pRuns] at hF
        refine x_aload_n (pc := 13) hX rfl rfl dX2_readRuns_13 ?_
        refine x_bipush (pc := 14) hX (by decide) dX2_readRuns_14 ?_
        refine x_cV_I (pc := 16) hX (tX2_readDigit hK RI1.1 9 (by decide)) hK.2.2.1 rfl lk_X2_60 rfl rfl (Nat.le_of_ble_eq_true rfl) (by decide) (Nat.zero_le _) (Nat.zero_le _) dX2_readRuns_16 (fun a M2 hp => ?_)
        cases hdd : pDig p j 9
        · obtain ⟨rfl, rfl⟩ := hp.1 hdd
          rw [hdd] at hF
          refine x_if_ne (pc := 19) (tgt := 24) hX dX2_readRuns_19 (by decide) (by omega) (fun h19 => ?_) (fun h19 => ?_)
          · exfalso; omega
          · refine x_iconst (pc := 22) hX dX2_readRuns_22 ?_
            refine x_zret (pc := 23) hX rfl (xn_bool (by omega)) (Nat.zero_le _) (Nat.zero_le _) dX2_readRuns_23 ?_
            cases hF
            exact pI_i ⟨RI1.1, RI1.2.1, RI1.2.2.1, fun _ => rfl, fun L hL => (by cases hL)⟩
        · rename_i v
          obtain ⟨rfl, hn2, hS2, hk2⟩ := hp.2 v hdd
          have h9 := pDig_some hdd
          rw [hdd] at hF
          have RI2 := RI1.kp hk2 hS2
          refine x_if_ne (pc := 19) (tgt := 24) hX dX2_readRuns_19 (by decide) (by omega) (fun h19 => ?_) (fun h19 => ?_)
          · refine x_aload_n (pc := 24) hX rfl rfl dX2_readRuns_24 ?_
            refine x_getR (pc := 25) hX fl_X2_18 hK.2.2.1 rfl dX2_readRuns_25 ?_
            refine x_iload_n (pc := 28) hX rfl rfl dX2_readRuns_28 ?_
            refine x_aload_n (pc := 29) hX rfl rfl dX2_readRuns_29 ?_
            refine x_getI (pc := 30) (v := (v : Int)) hX fl_X2_64 hK.2.2.1 rfl hn2 dX2_readRuns_30 ?_
            refine x_iast (pc := 33) (j := acc.length) hX hK.2.2.2.1 (by omega) (by omega) (by decide) dX2_readRuns_33 ?_
            have RI3 := RI2.arr (a := 109) (v := (v : Int)) (Or.inl rfl)
            have h109a := mp_eq M2 109 acc.length (v : Int)
            refine x_aload_n (pc := 34) hX rfl rfl dX2_readRuns_34 ?_
            refine x_getR (pc := 35) hX fl_X2_22 hK.2.2.1 rfl dX2_readRuns_35 ?_
            refine x_iload_n (pc := 38) hX rfl rfl dX2_readRuns_38 ?_
            refine x_iconst (pc := 39) hX dX2_readRuns_39 ?_
            refine x_iast (pc := 40) (j := acc.length) hX hK.2.2.2.2 (by omega) (by omega) (by decide) dX2_readRuns_40 ?_
            have RI4 := RI3.arr (a := 110) (v := 1) (Or.inr rfl)
            have h110a := mp_eq (mput M2 109 acc.length (v : Int)) 110 acc.length 1
            have h109b : mput (mput M2 109 acc.length (v : Int)) 110 acc.length 1 109 acc.length = (v : Int) := by rw [mput_ne _ _ _ (by decide)]; exact h109a
            refine x_aload_n (pc := 41) hX rfl rfl dX2_readRuns_41 ?_
            refine x_bipush (pc := 42) hX (by decide) dX2_readRuns_42 ?_
            refine x_cV_I (pc := 44) hX (tX2_passes hK RI4.1 42 (by decide)) hK.2.2.1 rfl lk_X2_52 rfl rfl (Nat.le_of_ble_eq_true rfl) (by decide) (Nat.zero_le _) (Nat.zero_le _) dX2_readRuns_44 (fun a M5 hp => ?_)
            by_cases hst : chr p (j + 1) = 42
            · obtain ⟨rfl, hS5, hk5⟩ := hp.1 hst
              have RI5 := RI4.kp hk5 hS5
              have hle : pLen p (j + 1) = pNum p (j + 2) := if_pos hst
              refine x_if_eq (pc := 47) (tgt := 69) hX dX2_readRuns_47 (by decide) (by omega) (fun h47 => ?_) (fun h47 => ?_)
              · exfalso; omega
              · refine x_aload_n (pc := 50) hX rfl rfl dX2_readRuns_50 ?_
                refine x_cV_I (pc := 51) hX (tX2_readNumber hK RI5.1) hK.2.2.1 rfl lk_X2_77 rfl rfl (Nat.le_of_ble_eq_true rfl) (by decide) (Nat.zero_le _) (Nat.zero_le _) dX2_readRuns_51 (fun a M6 hp => ?_)
                cases hnn : pNum p (j + 1 + 1)
                · obtain ⟨rfl, rfl⟩ := hp.1 hnn
                  rw [hle, hnn] at hF
                  refine x_if_ne (pc := 54) (tgt := 59) hX dX2_readRuns_54 (by decide) (by omega) (fun h54 => ?_) (fun h54 => ?_)
                  · exfalso; omega
                  · refine x_iconst (pc := 57) hX dX2_readRuns_57 ?_
                    refine x_zret (pc := 58) hX rfl (xn_bool (by omega)) (Nat.zero_le _) (Nat.zero_le _) dX2_readRuns_58 ?_
                    cases hF
                    exact pI_i ⟨RI5.1, RI5.2.1, RI5.2.2.1, fun _ => rfl, fun L hL => (by cases hL)⟩
                · rename_i q
                  obtain ⟨w, j9⟩ := q
                  obtain ⟨rfl, hn6, hS6, hk6⟩ := hp.2 w j9 hnn
                  rw [hle, hnn] at hF
                  have hF : (if chr p j9 = 44 then pRuns p f9 (j9 + 1) (acc ++ [(v, w)]) else (some (acc ++ [(v, w)]), j9)) = (res, jf) := hF
                  have RI6 := RI5.kp hk6 hS6
                  refine x_if_ne (pc := 54) (tgt := 59) hX dX2_readRuns_54 (by decide) (by omega) (fun h54 => ?_) (fun h54 => ?_)
                  · refine x_aload_n (pc := 59) hX rfl rfl dX2_readRuns_59 ?_
                    refine x_getR (pc := 60) hX fl_X2_22 hK.2.2.1 rfl dX2_readRuns_60 ?_
                    refine x_iload_n (pc := 63) hX rfl rfl dX2_readRuns_63 ?_
                    refine x_aload_n (pc := 64) hX rfl rfl dX2_readRuns_64 ?_
                    refine x_getI (pc := 65) (v := (w : Int)) hX fl_X2_64 hK.2.2.1 rfl hn6 dX2_readRuns_65 ?_
                    refine x_iast (pc := 68) (j := acc.length) hX hK.2.2.2.2 (by omega) (by omega) (by decide) dX2_readRuns_68 ?_
                    have RIN := RI6.arr (a := 110) (v := (w : Int)) (Or.inr rfl)
                    have h110 := mp_eq M6 110 acc.length (w : Int)
                    have h109 : mput M6 110 acc.length (w : Int) 109 acc.length = (v : Int) := by rw [mput_ne _ _ _ (by decide), hk6.cell (by decide), hk5.cell (by decide)]; exact h109b
                    refine x_aload_n (pc := 69) hX rfl rfl dX2_readRuns_69 ?_
                    refine x_iload_n (pc := 70) hX rfl rfl dX2_readRuns_70 ?_
                    refine x_iconst (pc := 71) hX dX2_readRuns_71 ?_
                    refine x_iadd (pc := 72) hX dX2_readRuns_72 rfl ?_
                    refine x_putI (pc := 73) hX fl_X2_39 hK.2.2.1 rfl rfl rfl dX2_readRuns_73 ?_
                    have R8 := (RIN.run (v := ((acc.length : Int) + 1)))
                    have R9 := R8.add (v := v) (w := w) (by rw [mput_ne _ _ _ (by decide)]; exact h109) (by rw [mput_ne _ _ _ (by decide)]; exact h110)
                    refine x_aload_n (pc := 76) hX rfl rfl dX2_readRuns_76 ?_
                    refine x_bipush (pc := 77) hX (by decide) dX2_readRuns_77 ?_
                    refine x_cV_I (pc := 79) hX (tX2_passes hK R9.1 44 (by decide)) hK.2.2.1 rfl lk_X2_52 rfl rfl (Nat.le_of_ble_eq_true rfl) (by decide) (Nat.zero_le _) (Nat.zero_le _) dX2_readRuns_79 (fun a M9 hp => ?_)
                    by_cases hcm : chr p j9 = 44
                    · obtain ⟨rfl, hS9, hk9⟩ := hp.1 hcm
                      rw [if_pos hcm] at hF
                      refine x_if_ne (pc := 82) (tgt := 87) hX dX2_readRuns_82 (by decide) (by omega) (fun h82 => ?_) (fun h82 => ?_)
                      · refine x_iinc (pc := 87) (v := ((acc.length + 1 : Nat) : Int)) hX dX2_readRuns_87 rfl (by decide) rfl (by omega) rfl ?_
                        refine x_goto (pc := 90) (tgt := 7) hX dX2_readRuns_90 (by decide) ?_
                        refine ih (acc.length + 1) (j9 + 1) (acc ++ [(v, w)]) M9 (by omega) (by omega) (by simp) (R9.kp hk9 hS9) ?_
                        rw [show 40 - (acc.length + 1) = f9 by omega]
                        exact hF
                      · exfalso; omega
                    · obtain ⟨rfl, rfl⟩ := hp.2 hcm
                      rw [if_neg hcm] at hF
                      cases hF
                      refine x_if_ne (pc := 82) (tgt := 87) hX dX2_readRuns_82 (by decide) (by omega) (fun h82 => ?_) (fun h82 => ?_)
                      · exfalso; omega
                      · refine x_iconst (pc := 85) hX dX2_readRuns_85 ?_
                        refine x_zret (pc := 86) hX rfl (xn_bool (by omega)) (Nat.zero_le _) (Nat.zero_le _) dX2_readRuns_86 ?_
                        refine pI_i ⟨R9.1, R9.2.1, R9.2.2.1, fun z => (by cases z), fun L hL => ?_⟩
                        cases hL
                        exact ⟨rfl, by rw [mp_eq]; simp, R9.2.2.2⟩
                  · exfalso; omega
            · obtain ⟨rfl, rfl⟩ := hp.2 hst
              have hle : pLen p (j + 1) = some (1, j + 1) := if_neg hst
              rw [hle] at hF
              obtain ⟨w, hw⟩ : ∃ w : Nat, w = 1 := ⟨1, rfl⟩
              obtain ⟨j9, hj9⟩ : ∃ j9 : Nat, j9 = j + 1 := ⟨_, rfl⟩
              have hF : (if chr p j9 = 44 then pRuns p f9 (j9 + 1) (acc ++ [(v, w)]) else (some (acc ++ [(v, w)]), j9)) = (res, jf) := by rw [hw, hj9]; exact hF
              have RIN := RI4
              rw [← hj9] at RIN
              have h109 := h109b
              have h110 : mput (mput M2 109 acc.length (v : Int)) 110 acc.length 1 110 acc.length = (w : Int) := by rw [h110a, hw]; rfl
              refine x_if_eq (pc := 47) (tgt := 69) hX dX2_readRuns_47 (by decide) (by omega) (fun h47 => ?_) (fun h47 => ?_)
              · refine x_aload_n (pc := 69) hX rfl rfl dX2_readRuns_69 ?_
                refine x_iload_n (pc := 70) hX rfl rfl dX2_readRuns_70 ?_
                refine x_iconst (pc := 71) hX dX2_readRuns_71 ?_
                refine x_iadd (pc := 72) hX dX2_readRuns_72 rfl ?_
                refine x_putI (pc := 73) hX fl_X2_39 hK.2.2.1 rfl rfl rfl dX2_readRuns_73 ?_
                have R8 := (RIN.run (v := ((acc.length : Int) + 1)))
                have R9 := R8.add (v := v) (w := w) (by rw [mput_ne _ _ _ (by decide)]; exact h109) (by rw [mput_ne _ _ _ (by decide)]; exact h110)
                refine x_aload_n (pc := 76) hX rfl rfl dX2_readRuns_76 ?_
                refine x_bipush (pc := 77) hX (by decide) dX2_readRuns_77 ?_
                refine x_cV_I (pc := 79) hX (tX2_passes hK R9.1 44 (by decide)) hK.2.2.1 rfl lk_X2_52 rfl rfl (Nat.le_of_ble_eq_true rfl) (by decide) (Nat.zero_le _) (Nat.zero_le _) dX2_readRuns_79 (fun a M9 hp => ?_)
                by_cases hcm : chr p j9 = 44
                · obtain ⟨rfl, hS9, hk9⟩ := hp.1 hcm
                  rw [if_pos hcm] at hF
                  refine x_if_ne (pc := 82) (tgt := 87) hX dX2_readRuns_82 (by decide) (by omega) (fun h82 => ?_) (fun h82 => ?_)
                  · refine x_iinc (pc := 87) (v := ((acc.length + 1 : Nat) : Int)) hX dX2_readRuns_87 rfl (by decide) rfl (by omega) rfl ?_
                    refine x_goto (pc := 90) (tgt := 7) hX dX2_readRuns_90 (by decide) ?_
                    refine ih (acc.length + 1) (j9 + 1) (acc ++ [(v, w)]) M9 (by omega) (by omega) (by simp) (R9.kp hk9 hS9) ?_
                    rw [show 40 - (acc.length + 1) = f9 by omega]
                    exact hF
                  · exfalso; omega
                · obtain ⟨rfl, rfl⟩ := hp.2 hcm
                  rw [if_neg hcm] at hF
                  cases hF
                  refine x_if_ne (pc := 82) (tgt := 87) hX dX2_readRuns_82 (by decide) (by omega) (fun h82 => ?_) (fun h82 => ?_)
                  · exfalso; omega
                  · refine x_iconst (pc := 85) hX dX2_readRuns_85 ?_
                    refine x_zret (pc := 86) hX rfl (xn_bool (by omega)) (Nat.zero_le _) (Nat.zero_le _) dX2_readRuns_86 ?_
                    refine pI_i ⟨R9.1, R9.2.1, R9.2.2.1, fun z => (by cases z), fun L hL => ?_⟩
                    cases hL
                    exact ⟨rfl, by rw [mp_eq]; simp, R9.2.2.2⟩
              · exfalso; omega
          · exfalso; omega
  refine x_aload_n (pc := 0) hX rfl rfl dX2_readRuns_0 ?_
  refine x_iconst (pc := 1) hX dX2_readRuns_1 ?_
  refine x_putI (pc := 2) hX fl_X2_39 hK.2.2.1 rfl rfl rfl dX2_readRuns_2 ?_
  refine x_iconst (pc := 5) hX dX2_readRuns_5 ?_
  refine x_istore_n (pc := 6) hX rfl (by decide) rfl rfl dX2_readRuns_6 ?_
  exact loop 41 0 i [] _ (by omega) (by omega) rfl ⟨hS.fld (by decide), Same.put (by decide) (by decide), fun f hf => (by rw [mp_ne _ _ (by omega)]), fun x hx => (by cases hx)⟩ hR

