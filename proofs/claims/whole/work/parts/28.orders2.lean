/-! JoinedRuns: merging, the drafts of orders, what orders do -/
def mrgZ (w : Int) : Rp → List Nat
  | [] => []
  | ((v, u), k) :: t => (if w = 0 then List.replicate k (min v u) else if w = 1 then List.replicate k (max v u) else if v = u then List.replicate k v else []) ++ mrgZ w t
theorem mrg_app (w : Int) : ∀ (P R : List (Nat × Nat)), mrg w (P ++ R) = mrg w P ++ mrg w R
  | [], R => rfl
  | (v, u) :: t, R => by
    rw [List.cons_append, mrg, mrg, mrg_app w t R, List.append_assoc]
theorem mrg_rep (w : Int) (v u : Nat) : ∀ k, mrg w (List.replicate k (v, u)) = if w = 0 then List.replicate k (min v u) else if w = 1 then List.replicate k (max v u) else if v = u then List.replicate k v else []
  | 0 => by
    simp [mrg]
  | k + 1 => by
    rw [List.replicate_succ, mrg, mrg_rep w v u k]
    by_cases h0 : w = 0
    · simp only [if_pos h0, List.replicate_succ, List.singleton_append]
    · by_cases h1 : w = 1
      · simp only [if_neg h0, if_pos h1, List.replicate_succ, List.singleton_append]
      · by_cases h2 : v = u
        · simp only [if_neg h0, if_neg h1, if_pos h2, List.replicate_succ, List.singleton_append]
        · simp only [if_neg h0, if_neg h1, if_neg h2, List.nil_append]
theorem mrg_rows (w : Int) : ∀ (P : Rp), mrg w (rows P) = mrgZ w P
  | [] => rfl
  | ((v, u), k) :: t => by
    rw [rows, mrg_app, mrg_rep, mrg_rows w t, mrgZ]
theorem mrg_zr (w : Int) (l1 l2 : List Nat) : mrg w (l1.zip l2) = mrgZ w (zr (enc l1) (enc l2)) := by
  rw [← zr_enc _ (enc l1) (enc l2) (Nat.le_refl _) (can_enc l1) (can_enc l2), rows_enc, rows_enc, ← mrg_rows, rows_enc]
def pDr (κ : XKs) (M : XM) (hs : Nat) (res : Int ⊕ List Nat) : XP := fun r κ' M' hs' => (∀ q, q < hs → κ' q = κ q) ∧ hs ≤ hs' ∧ (∀ q, q < hs → (q < 103 ∨ 106 ≤ q) → M' q = M q) ∧ ∃ a, r = some (xI a) ∧ (∀ e, res = .inl e → a = e) ∧ ∀ l, res = .inr l → a = 0 ∧ Col M' 103 l
/-- the runs of an order, added to rows -/
def dRunsF (l0 : List Nat) : Ru → Int ⊕ List Nat
  | [] => dFin l0
  | (v, n) :: t => if n < 1 then .inl (-2) else dRunsF (l0 ++ List.replicate n v) t
def dOrd (cs : Cs) (od : Od) : Int ⊕ List Nat :=
  if od.2.1 = 33 then dSort cs od.1 else if od.2.1 = 45 then dRem cs od.1 od.2.2.1 od.2.2.2.1 else if od.2.1 = 64 then dSet cs od.1 od.2.2.1 od.2.2.2.1
  else dRunsF (if od.2.1 = 43 then cs od.1 else []) od.2.2.2.2
def OdOk (od : Od) : Prop := od.1 < 4 ∧ (od.2.1 = 33 ∨ od.2.1 = 45 ∨ od.2.1 = 64 ∨ od.2.1 = 61 ∨ od.2.1 = 43) ∧ od.2.2.1 ≤ 999 ∧ od.2.2.2.1 ≤ 999 ∧ od.2.2.2.2.length ≤ 40 ∧ ∀ q ∈ od.2.2.2.2, q.1 ≤ 9 ∧ q.2 ≤ 999
theorem pOrder_ok {p : List Nat} {i j : Nat} {od : Od} (h : pOrder p i = (some od, j)) : OdOk od ∧ i + 2 ≤ j ∧ j ≤ p.length := by
  unfold pOrder at h
  cases hd : pDig p i 3 with
  | none => rw [hd] at h; cases h
  | some c =>
    rw [hd] at h
    have h1 := pDig_some hd
    have h : pRest p c (chr p (i + 1)) (i + 2) = (some od, j) := h
    have hch : chr p (i + 1) ≠ 0 → i + 2 ≤ p.length := fun z => chr_lt z
    generalize hk : chr p (i + 1) = k at h hch
    by_cases k1 : k = 61 ∨ k = 43
    · rw [pRest_eq k1] at h
      have h2 := pRuns_le 40 p (i + 2) [] (hch (by omega)) (fun q hq => by cases hq)
      generalize hr : pRuns p 40 (i + 2) [] = rr at h h2
      obtain ⟨a, b⟩ := rr
      cases a with
      | none => cases h
      | some L =>
        cases h
        have h3 := h2.2.2 L rfl
        have h4 := h2.1
        have h5 := h2.2.1
        refine ⟨⟨by show c < 4; omega, by show k = 33 ∨ k = 45 ∨ k = 64 ∨ k = 61 ∨ k = 43; omega, Nat.zero_le _, Nat.zero_le _, by show L.length ≤ 40; simp at h3; omega, h3.1⟩, h5, h4⟩
    · by_cases k2 : k = 45
      · subst k2
        rw [pRest_45] at h
        cases hn : pNum p (i + 2) with
        | none => rw [hn] at h; cases h
        | some q =>
          obtain ⟨r, j1⟩ := q
          rw [hn] at h
          have h3 := pNum_some hn
          simp only at h
          by_cases k3 : chr p j1 = 42
          · rw [if_pos k3] at h
            cases hm : pNum p (j1 + 1) with
            | none => rw [hm] at h; cases h
            | some q =>
              obtain ⟨n, j2⟩ := q
              rw [hm] at h
              have h4 := pNum_some hm
              cases h
              exact ⟨⟨by show c < 4; omega, Or.inr (Or.inl rfl), h3.2.2, h4.2.2, Nat.zero_le _, fun q hq => by cases hq⟩, by omega, h4.2.1⟩
          · rw [if_neg k3] at h
            cases h
      · by_cases k4 : k = 64
        · subst k4
          rw [pRest_64] at h
          cases hn : pNum p (i + 2) with
          | none => rw [hn] at h; cases h
          | some q =>
            obtain ⟨r, j1⟩ := q
            rw [hn] at h
            have h3 := pNum_some hn
            simp only at h
            by_cases k3 : chr p j1 = 61
            · rw [if_pos k3] at h
              cases hm : pDig p (j1 + 1) 9 with
              | none => rw [hm] at h; cases h
              | some v =>
                rw [hm] at h
                have h4 := pDig_some hm
                cases h
                exact ⟨⟨by show c < 4; omega, Or.inr (Or.inr (Or.inl rfl)), h3.2.2, by show v ≤ 999; omega, Nat.zero_le _, fun q hq => by cases hq⟩, by omega, by omega⟩
            · rw [if_neg k3] at h
              cases h
        · by_cases k5 : k = 33
          · subst k5
            rw [pRest_33] at h
            cases h
            exact ⟨⟨by show c < 4; omega, Or.inl rfl, Nat.zero_le _, Nat.zero_le _, Nat.zero_le _, fun q hq => by cases hq⟩, Nat.le_refl _, hch (by decide)⟩
          · rw [pRest_no (fun z => k1 (Or.inl z)) (fun z => k1 (Or.inr z)) k2 k4 k5] at h
            cases h
theorem dFin_ne {l : List Nat} {e : Int} (h : dFin l = .inl e) : -6 ≤ e ∧ e < 0 := by
  unfold dFin at h
  split at h
  · cases h
  · cases h; decide
theorem dRem_ne {cs : Cs} {c r n e : Int} (h : dRem cs c r n = .inl e) : -6 ≤ e ∧ e < 0 := by
  unfold dRem at h
  split at h
  · cases h; decide
  · split at h
    · cases h; decide
    · split at h
      · cases h; decide
      · cases h
theorem dSet_ne {cs : Cs} {c r v e : Int} (h : dSet cs c r v = .inl e) : -6 ≤ e ∧ e < 0 := by
  unfold dSet at h
  split at h
  · cases h; decide
  · split at h
    · cases h; decide
    · exact dFin_ne h
theorem dSort_ne {cs : Cs} {c e : Int} (h : dSort cs c = .inl e) : -6 ≤ e ∧ e < 0 := by
  unfold dSort at h
  split at h
  · cases h; decide
  · cases h
theorem dRunsF_ne : ∀ (L : Ru) (l0 : List Nat) {e : Int}, dRunsF l0 L = .inl e → -6 ≤ e ∧ e < 0
  | [], l0, e, h => dFin_ne h
  | (v, n) :: t, l0, e, h => by
    rw [dRunsF] at h
    split at h
    · cases h; decide
    · exact dRunsF_ne t _ h
theorem dOrd_ne {cs : Cs} {od : Od} {e : Int} (h : dOrd cs od = .inl e) : -6 ≤ e ∧ e < 0 := by
  unfold dOrd at h
  split at h
  · exact dSort_ne h
  · split at h
    · exact dRem_ne h
    · split at h
      · exact dSet_ne h
      · exact dRunsF_ne _ _ h
def pExec (p : List Nat) : Nat → Cs → Nat → Nat → Cs × Nat
  | 0, cs, _, m => (cs, m)
  | f + 1, cs, i, m => match pOrder p i with
    | (none, _) => (cs, m)
    | (some od, j) => match dOrd cs od with
      | .inl _ => (cs, m)
      | .inr l => if chr p j = 59 then pExec p f (upC cs od.1 l) (j + 1) (m + 1) else (upC cs od.1 l, m + 1)
def chIn : Nat → Nat → Int → Int
  | 0, n, m => if n = 0 then m else -2
  | f + 1, n, m => if n % 256 = 0 then (if n = 0 then m else -2) else if n % 256 < 33 ∨ 126 < n % 256 then -2 else chIn f (n / 256) (m + 1)
set_option maxHeartbeats 4000000 in
set_option maxRecDepth 100000 in
theorem tX6_draftMerge {G : XG} {κ : XKs} {M : XM} {hs : Nat} (hK : KX κ hs) {S : Sx} (hS : RX M S) (hh : 151 ≤ hs) (c a b w : Int) (hc : InR c) (ha : InR a) (hb : InR b) (hw : InR w) {res : Int ⊕ List Nat} (hres : dMrg S.1 c a b w = res) : XC G mX6_draftMerge 3 1 10 [xR 0, xI c, xI a, xI b, xI w] κ M hs (pDr κ M hs res) := by
  refine XC.intro cdX6_draftMerge (by decide) (by decide) (Nat.le_of_ble_eq_true rfl) (loc := [some (xR 0), some (xI c), some (xI a), some (xI b), some (xI w), none, none]) rfl (fun X hX => ?_)
  have hw0 := hw
  unfold InR at hc ha hb hw
  unfold dMrg at hres
  refine x_iload_n (pc := 0) hX rfl rfl dX6_draftMerge_0 ?_
  refine x_cS_P (pc := 1) hX (tX6_isColumn c hc) lk_X6_92 rfl rfl (Nat.le_of_ble_eq_true rfl) (by decide) (by decide) (by decide) dX6_draftMerge_1 ?_
  by_cases hcc : 0 ≤ c ∧ c < 4
  · rw [if_pos hcc]
    refine x_if_eq (pc := 4) (tgt := 21) hX dX6_draftMerge_4 (by decide) (by omega) (fun h4 => ?_) (fun h4 => ?_)
    · exfalso; omega
    · refine x_iload_n (pc := 7) hX rfl rfl dX6_draftMerge_7 ?_
      refine x_cS_P (pc := 8) hX (tX6_isColumn a ha) lk_X6_92 rfl rfl (Nat.le_of_ble_eq_true rfl) (by decide) (by decide) (by decide) dX6_draftMerge_8 ?_
      by_cases hca : 0 ≤ a ∧ a < 4
      · rw [if_pos hca]
        refine x_if_eq (pc := 11) (tgt := 21) hX dX6_draftMerge_11 (by decide) (by omega) (fun h11 => ?_) (fun h11 => ?_)
        · exfalso; omega
        · refine x_iload_n (pc := 14) hX rfl rfl dX6_draftMerge_14 ?_
          refine x_cS_P (pc := 15) hX (tX6_isColumn b hb) lk_X6_92 rfl rfl (Nat.le_of_ble_eq_true rfl) (by decide) (by decide) (by decide) dX6_draftMerge_15 ?_
          by_cases hcb : 0 ≤ b ∧ b < 4
          · rw [if_pos hcb]
            rw [if_neg (fun z => z ⟨hcc, hca, hcb⟩)] at hres
            refine x_if_ne (pc := 18) (tgt := 23) hX dX6_draftMerge_18 (by decide) (by omega) (fun h18 => ?_) (fun h18 => ?_)
            · refine x_iload (pc := 23) hX rfl dX6_draftMerge_23 ?_
              refine x_if_lt (pc := 25) (tgt := 34) hX dX6_draftMerge_25 (by decide) (by omega) (fun h25 => ?_) (fun h25 => ?_)
              · refine x_bipush (pc := 34) hX (by decide) dX6_draftMerge_34 ?_
                rw [if_pos (by omega)] at hres
                refine x_iret (pc := 36) hX rfl (by decide) (by decide) dX6_draftMerge_36 ?_
                exact ⟨fun _ _ => rfl, Nat.le_refl _, fun _ _ _ => rfl, _, rfl, fun e he => (by rw [← hres] at he; cases he; rfl), fun l hl => (by rw [← hres] at hl; cases hl)⟩
              · refine x_iload (pc := 28) hX rfl dX6_draftMerge_28 ?_
                refine x_iconst (pc := 30) hX dX6_draftMerge_30 ?_
                refine x_icmp_le (pc := 31) (tgt := 37) hX dX6_draftMerge_31 (by decide) (by omega) (fun h31 => ?_) (fun h31 => ?_)
                · rw [if_neg (by omega)] at hres
                  refine x_aload_n (pc := 37) hX rfl rfl dX6_draftMerge_37 ?_
                  refine x_iload_n (pc := 38) hX rfl rfl dX6_draftMerge_38 ?_
                  refine x_iload_n (pc := 39) hX rfl rfl dX6_draftMerge_39 ?_
                  refine x_top2 (congrArg xI (show a = ((a.toNat : Nat) : Int) by omega)) ?_
                  refine x_top (congrArg xI (show b = ((b.toNat : Nat) : Int) by omega)) ?_
                  refine x_callV (pc := 40) hX (tX6_walkOver hK hS hh a.toNat b.toNat (by omega) (by omega)) hK.1 rfl lk_X6_165 rfl rfl (Nat.le_of_ble_eq_true rfl) (by decide) (by decide) (by decide) dX6_draftMerge_40 (fun r κ' M' hs' hp => ?_)
                  obtain ⟨rfl, rfl, hκ, hM1, hW⟩ := hp
                  have hKo := hK
                  have hK := hK.mono hκ (Nat.le_succ _)
                  refine x_astore (pc := 43) hX (by decide) rfl rfl dX6_draftMerge_43 ?_
                  refine x_aload_n (pc := 45) hX rfl rfl dX6_draftMerge_45 ?_
                  refine x_getR (pc := 46) hX fl_X6_34 hK.1 rfl dX6_draftMerge_46 ?_
                  refine x_cV_V (pc := 49) hX (tX0_clear hK.2.2.2.2.2.1) hK.2.2.2.2.2.1.1 rfl lk_X6_96 rfl rfl (Nat.le_of_ble_eq_true rfl) (by decide) (by decide) (by decide) dX6_draftMerge_49 (fun M1 hp => ?_)
                  obtain ⟨hD1, hq1⟩ := hp
                  have hW1 := hW.oth hq1 (by omega) (by omega) (by omega)
                  generalize κ' = κ1 at hκ hK hW hW1
                  have loop : ∀ (n k : Nat) (acc : List Nat) (A B : Ru) (t : Int) (M1 : XM), k ≤ 80 → 80 < k + n → k + A.length + B.length ≤ 80 → WalkAt κ1 M1 (hs + 1) hs (3 + 3 * a.toNat) (3 + 3 * b.toNat) (S.1 a.toNat) (S.1 b.toNat) A B t → (∀ q, q < hs → (q < 103 ∨ 106 ≤ q) → M1 q = M q) → Dra M1 103 acc → acc ++ mrgZ w (zr A B) = mrg w ((S.1 a.toNat).zip (S.1 b.toNat)) → XW G X mX6_draftMerge (xq G (pDr κ M hs res) 1 10 X) 1 10 55 [some (xR 0), some (xI c), some (xI a), some (xI b), some (xI w), some (xR hs), some (xI (k : Int))] [] κ1 M1 (hs + 1) := by
                    intro n
                    induction n with
                    | zero => intro k acc A B t M1 h1 h2; omega
                    | succ n ih =>
                      intro k acc A B t M1 h1 h2 h3 hW1 hMq hD1 hF
                      refine x_iload (pc := 55) hX rfl dX6_draftMerge_55 ?_
                      refine x_bipush (pc := 57) hX (by decide) dX6_draftMerge_57 ?_
                      refine x_icmp_ge (pc := 59) (tgt := 168) hX dX6_draftMerge_59 (by decide) (by omega) (fun h59 => ?_) (fun h59 => ?_)
                      · have he : A = [] := List.eq_nil_of_length_eq_zero (by omega)
                        rw [zr_none (Or.inl he), mrgZ, List.append_nil] at hF
                        refine x_aload_n (pc := 168) hX rfl rfl dX6_draftMerge_168 ?_
                        refine x_cV_P (pc := 169) hX (tX6_errorOfDraft hK hD1) hK.1 rfl lk_X6_252 rfl rfl (Nat.le_of_ble_eq_true rfl) (by decide) (by decide) (by decide) dX6_draftMerge_169 ?_
                        rw [hF] at hD1
                        refine x_iret (pc := 172) hX rfl (by decide) (by decide) dX6_draftMerge_172 ?_
                        rcases dFin_eq hD1 with ⟨g1, g2⟩ | ⟨g1, g2, g3⟩
                        · rw [if_pos g1]
                          exact ⟨hκ, Nat.le_succ _, hMq, _, rfl, fun e he => (by rw [← hres, g2] at he; cases he; rfl), fun l hl => (by rw [← hres, g2] at hl; cases hl)⟩
                        · rw [if_neg (by omega)]
                          exact ⟨hκ, Nat.le_succ _, hMq, _, rfl, fun e he => (by rw [← hres, g2] at he; cases he), fun l hl => (by rw [← hres, g2] at hl; cases hl; exact ⟨rfl, g3⟩)⟩
                      · refine x_aload (pc := 62) hX rfl dX6_draftMerge_62 ?_
                        refine x_cV_I (pc := 64) hX (tX4_advance hW1.1 hW1.2.1 hW1.2.2.1 hW1.2.2.2.1 hW1.2.2.2.2.1 hW1.2.2.2.2.2.1 hW1.2.2.2.2.2.2) hW1.1 rfl lk_X6_169 rfl rfl (Nat.le_of_ble_eq_true rfl) (by decide) (by decide) (by decide) dX6_draftMerge_64 (fun a9 M2 hp => ?_)
                        obtain ⟨hq2, hno, hyes⟩ := hp
                        have hD2 := hD1.same hq2 (by omega)
                        by_cases he : A = [] ∨ B = []
                        · obtain ⟨rfl, hS2⟩ := hno he
                          rw [zr_none he, mrgZ, List.append_nil] at hF
                          refine x_if_eq (pc := 67) (tgt := 168) hX dX6_draftMerge_67 (by decide) (by omega) (fun h67 => ?_) (fun h67 => ?_)
                          · refine x_aload_n (pc := 168) hX rfl rfl dX6_draftMerge_168 ?_
                            refine x_cV_P (pc := 169) hX (tX6_errorOfDraft hK hD2) hK.1 rfl lk_X6_252 rfl rfl (Nat.le_of_ble_eq_true rfl) (by decide) (by decide) (by decide) dX6_draftMerge_169 ?_
                            rw [hF] at hD2
                            refine x_iret (pc := 172) hX rfl (by decide) (by decide) dX6_draftMerge_172 ?_
                            rcases dFin_eq hD2 with ⟨g1, g2⟩ | ⟨g1, g2, g3⟩
                            · rw [if_pos g1]
                              exact ⟨hκ, Nat.le_succ _, fun q h1 h2 => (hq2 q (by omega)).trans (hMq q h1 h2), _, rfl, fun e he => (by rw [← hres, g2] at he; cases he; rfl), fun l hl => (by rw [← hres, g2] at hl; cases hl)⟩
                            · rw [if_neg (by omega)]
                              exact ⟨hκ, Nat.le_succ _, fun q h1 h2 => (hq2 q (by omega)).trans (hMq q h1 h2), _, rfl, fun e he => (by rw [← hres, g2] at he; cases he), fun l hl => (by rw [← hres, g2] at hl; cases hl; exact ⟨rfl, g3⟩)⟩
                          · exfalso; omega
                        · obtain ⟨v, n9, s, u, m9, r, rfl, rfl⟩ := ru_two he
                          obtain ⟨rfl, h6, h7, h8, h9, hS2⟩ := hyes v n9 s u m9 r rfl rfl
                          have hW2 := hW1.nxt hq2 hS2
                          have hd := hW1.2.2.2.2.2.2.hd (o1 := 3 + 3 * a.toNat) (o2 := 3 + 3 * b.toNat) hW1.2.2.2.2.1.2.2 hW1.2.2.2.2.2.1.2.2
                          have hc2 := cut2_len v n9 u m9 s r
                          rw [zr_cons] at hF
                          simp only [List.length_cons] at h3
                          refine x_if_eq (pc := 67) (tgt := 168) hX dX6_draftMerge_67 (by decide) (by omega) (fun h67 => ?_) (fun h67 => ?_)
                          · exfalso; omega
                          · refine x_iload (pc := 70) hX rfl dX6_draftMerge_70 ?_
                            refine x_if_ne (pc := 72) (tgt := 103) hX dX6_draftMerge_72 (by decide) (by omega) (fun h72 => ?_) (fun h72 => ?_)
                            · refine x_iload (pc := 103) hX rfl dX6_draftMerge_103 ?_
                              refine x_iconst (pc := 105) hX dX6_draftMerge_105 ?_
                              refine x_icmp_ne (pc := 106) (tgt := 137) hX dX6_draftMerge_106 (by decide) (by omega) (fun h106 => ?_) (fun h106 => ?_)
                              · refine x_aload (pc := 137) hX rfl dX6_draftMerge_137 ?_
                                refine x_cV_P (pc := 139) hX (tX4_isAlike hW2.1 h6 h7 (by omega) (by omega)) hW2.1 rfl lk_X6_262 rfl rfl (Nat.le_of_ble_eq_true rfl) (by decide) (by decide) (by decide) dX6_draftMerge_139 ?_
                                by_cases hvu : v = u
                                · rw [if_pos hvu]
                                  refine x_if_eq (pc := 142) (tgt := 162) hX dX6_draftMerge_142 (by decide) (by omega) (fun h142 => ?_) (fun h142 => ?_)
                                  · exfalso; omega
                                  · refine x_aload_n (pc := 145) hX rfl rfl dX6_draftMerge_145 ?_
                                    refine x_getR (pc := 146) hX fl_X6_34 hK.1 rfl dX6_draftMerge_146 ?_
                                    refine x_aload (pc := 149) hX rfl dX6_draftMerge_149 ?_
                                    refine x_cV_P (pc := 151) hX (tX4_valueOfOne hW2.1 h6) hW2.1 rfl lk_X6_174 rfl rfl (Nat.le_of_ble_eq_true rfl) (by decide) (by decide) (by decide) dX6_draftMerge_151 ?_
                                    refine x_aload (pc := 154) hX rfl dX6_draftMerge_154 ?_
                                    refine x_cV_P (pc := 156) hX (tX4_length hW2.1 h9) hW2.1 rfl lk_X6_180 rfl rfl (Nat.le_of_ble_eq_true rfl) (by decide) (by decide) (by decide) dX6_draftMerge_156 ?_
                                    refine x_top2 (congrArg xI (show _ = ((v : Nat) : Int) from rfl)) ?_
                                    refine x_cV_V (pc := 159) hX (tX0_addRun hK.2.2.2.2.2.1 hD2 (v) (by omega) ((min n9 m9 : Nat) : Int) (by unfold InR; omega)) hK.2.2.2.2.2.1.1 rfl lk_X6_248 rfl rfl (Nat.le_of_ble_eq_true rfl) (by decide) (by decide) (by decide) dX6_draftMerge_159 (fun M3 hp => ?_)
                                    obtain ⟨hD3, hq3⟩ := hp
                                    rw [Int.toNat_natCast] at hD3
                                    refine x_iinc (pc := 162) (v := ((k + 1 : Nat) : Int)) hX dX6_draftMerge_162 rfl (by decide) rfl (by omega) rfl ?_
                                    refine x_goto (pc := 165) (tgt := 55) hX dX6_draftMerge_165 (by decide) ?_
                                    refine ih (k + 1) _ _ _ _ M3 (by omega) (by omega) (by omega) (hW2.oth hq3 (by omega) (by omega) (by omega)) (fun q h1 h2 => (hq3 q (by omega)).trans ((hq2 q (by omega)).trans (hMq q h1 h2))) hD3 ?_
                                    rw [← hF, mrgZ, ← List.append_assoc]
                                    first | rw [if_pos h72] | (rw [if_neg h72]; first | rw [if_pos h106] | (rw [if_neg h106]; first | rw [if_pos hvu] | (rw [if_neg hvu]; rw [List.append_nil])))
                                · rw [if_neg hvu]
                                  refine x_if_eq (pc := 142) (tgt := 162) hX dX6_draftMerge_142 (by decide) (by omega) (fun h142 => ?_) (fun h142 => ?_)
                                  · refine x_iinc (pc := 162) (v := ((k + 1 : Nat) : Int)) hX dX6_draftMerge_162 rfl (by decide) rfl (by omega) rfl ?_
                                    refine x_goto (pc := 165) (tgt := 55) hX dX6_draftMerge_165 (by decide) ?_
                                    refine ih (k + 1) _ _ _ _ M2 (by omega) (by omega) (by omega) hW2 (fun q h1 h2 => (hq2 q (by omega)).trans (hMq q h1 h2)) hD2 ?_
                                    rw [← hF, mrgZ, ← List.append_assoc]
                                    first | rw [if_pos h72] | (rw [if_neg h72]; first | rw [if_pos h106] | (rw [if_neg h106]; first | rw [if_pos hvu] | (rw [if_neg hvu]; rw [List.append_nil])))
                                  · exfalso; omega
                              · refine x_aload_n (pc := 109) hX rfl rfl dX6_draftMerge_109 ?_
                                refine x_getR (pc := 110) hX fl_X6_34 hK.1 rfl dX6_draftMerge_110 ?_
                                refine x_aload (pc := 113) hX rfl dX6_draftMerge_113 ?_
                                refine x_cV_P (pc := 115) hX (tX4_valueOfOne hW2.1 h6) hW2.1 rfl lk_X6_174 rfl rfl (Nat.le_of_ble_eq_true rfl) (by decide) (by decide) (by decide) dX6_draftMerge_115 ?_
                                refine x_aload (pc := 118) hX rfl dX6_draftMerge_118 ?_
                                refine x_cV_P (pc := 120) hX (tX4_valueOfOther hW2.1 h7) hW2.1 rfl lk_X6_177 rfl rfl (Nat.le_of_ble_eq_true rfl) (by decide) (by decide) (by decide) dX6_draftMerge_120 ?_
                                refine x_max (pc := 123) (v := ((max v u : Nat) : Int)) hX lk_X6_259.1 (by omega) (by split <;> omega) (by decide) (by decide) (by decide) (Nat.le_of_ble_eq_true rfl) dX6_draftMerge_123 ?_
                                refine x_aload (pc := 126) hX rfl dX6_draftMerge_126 ?_
                                refine x_cV_P (pc := 128) hX (tX4_length hW2.1 h9) hW2.1 rfl lk_X6_180 rfl rfl (Nat.le_of_ble_eq_true rfl) (by decide) (by decide) (by decide) dX6_draftMerge_128 ?_
                                refine x_top2 (congrArg xI (show _ = ((max v u : Nat) : Int) from rfl)) ?_
                                refine x_cV_V (pc := 131) hX (tX0_addRun hK.2.2.2.2.2.1 hD2 (max v u) (by omega) ((min n9 m9 : Nat) : Int) (by unfold InR; omega)) hK.2.2.2.2.2.1.1 rfl lk_X6_248 rfl rfl (Nat.le_of_ble_eq_true rfl) (by decide) (by decide) (by decide) dX6_draftMerge_131 (fun M3 hp => ?_)
                                obtain ⟨hD3, hq3⟩ := hp
                                rw [Int.toNat_natCast] at hD3
                                refine x_goto (pc := 134) (tgt := 162) hX dX6_draftMerge_134 (by decide) ?_
                                refine x_iinc (pc := 162) (v := ((k + 1 : Nat) : Int)) hX dX6_draftMerge_162 rfl (by decide) rfl (by omega) rfl ?_
                                refine x_goto (pc := 165) (tgt := 55) hX dX6_draftMerge_165 (by decide) ?_
                                refine ih (k + 1) _ _ _ _ M3 (by omega) (by omega) (by omega) (hW2.oth hq3 (by omega) (by omega) (by omega)) (fun q h1 h2 => (hq3 q (by omega)).trans ((hq2 q (by omega)).trans (hMq q h1 h2))) hD3 ?_
                                rw [← hF, mrgZ, ← List.append_assoc]
                                first | rw [if_pos h72] | (rw [if_neg h72]; first | rw [if_pos h106] | (rw [if_neg h106]; first | rw [if_pos hvu] | (rw [if_neg hvu]; rw [List.append_nil])))
                            · refine x_aload_n (pc := 75) hX rfl rfl dX6_draftMerge_75 ?_
                              refine x_getR (pc := 76) hX fl_X6_34 hK.1 rfl dX6_draftMerge_76 ?_
                              refine x_aload (pc := 79) hX rfl dX6_draftMerge_79 ?_
                              refine x_cV_P (pc := 81) hX (tX4_valueOfOne hW2.1 h6) hW2.1 rfl lk_X6_174 rfl rfl (Nat.le_of_ble_eq_true rfl) (by decide) (by decide) (by decide) dX6_draftMerge_81 ?_
                              refine x_aload (pc := 84) hX rfl dX6_draftMerge_84 ?_
                              refine x_cV_P (pc := 86) hX (tX4_valueOfOther hW2.1 h7) hW2.1 rfl lk_X6_177 rfl rfl (Nat.le_of_ble_eq_true rfl) (by decide) (by decide) (by decide) dX6_draftMerge_86 ?_
                              refine x_min (pc := 89) (v := ((min v u : Nat) : Int)) hX lk_X6_184.1 (by omega) (by split <;> omega) (by decide) (by decide) (by decide) (Nat.le_of_ble_eq_true rfl) dX6_draftMerge_89 ?_
                              refine x_aload (pc := 92) hX rfl dX6_draftMerge_92 ?_
                              refine x_cV_P (pc := 94) hX (tX4_length hW2.1 h9) hW2.1 rfl lk_X6_180 rfl rfl (Nat.le_of_ble_eq_true rfl) (by decide) (by decide) (by decide) dX6_draftMerge_94 ?_
                              refine x_top2 (congrArg xI (show _ = ((min v u : Nat) : Int) from rfl)) ?_
                              refine x_cV_V (pc := 97) hX (tX0_addRun hK.2.2.2.2.2.1 hD2 (min v u) (by omega) ((min n9 m9 : Nat) : Int) (by unfold InR; omega)) hK.2.2.2.2.2.1.1 rfl lk_X6_248 rfl rfl (Nat.le_of_ble_eq_true rfl) (by decide) (by decide) (by decide) dX6_draftMerge_97 (fun M3 hp => ?_)
                              obtain ⟨hD3, hq3⟩ := hp
                              rw [Int.toNat_natCast] at hD3
                              refine x_goto (pc := 100) (tgt := 162) hX dX6_draftMerge_100 (by decide) ?_
                              refine x_iinc (pc := 162) (v := ((k + 1 : Nat) : Int)) hX dX6_draftMerge_162 rfl (by decide) rfl (by omega) rfl ?_
                              refine x_goto (pc := 165) (tgt := 55) hX dX6_draftMerge_165 (by decide) ?_
                              refine ih (k + 1) _ _ _ _ M3 (by omega) (by omega) (by omega) (hW2.oth hq3 (by omega) (by omega) (by omega)) (fun q h1 h2 => (hq3 q (by omega)).trans ((hq2 q (by omega)).trans (hMq q h1 h2))) hD3 ?_
                              rw [← hF, mrgZ, ← List.append_assoc]
                              first | rw [if_pos h72] | (rw [if_neg h72]; first | rw [if_pos h106] | (rw [if_neg h106]; first | rw [if_pos hvu] | (rw [if_neg hvu]; rw [List.append_nil])))
                  refine x_iconst (pc := 52) hX dX6_draftMerge_52 ?_
                  refine x_istore (pc := 53) hX (by decide) rfl rfl dX6_draftMerge_53 ?_
                  have hla := (hS.ok (i := a.toNat) (by omega)).len
                  have hlb := (hS.ok (i := b.toNat) (by omega)).len
                  exact loop 81 0 [] _ _ 0 M1 (by omega) (by omega) (by omega) hW1 (fun q h1 h2 => (hq1 q (by omega)).trans (hM1 q h1)) hD1 (by rw [mrg_zr]; rfl)
                · refine x_bipush (pc := 34) hX (by decide) dX6_draftMerge_34 ?_
                  rw [if_pos (by omega)] at hres
                  refine x_iret (pc := 36) hX rfl (by decide) (by decide) dX6_draftMerge_36 ?_
                  exact ⟨fun _ _ => rfl, Nat.le_refl _, fun _ _ _ => rfl, _, rfl, fun e he => (by rw [← hres] at he; cases he; rfl), fun l hl => (by rw [← hres] at hl; cases hl)⟩
            · exfalso; omega
          · rw [if_neg hcb]
            refine x_if_ne (pc := 18) (tgt := 23) hX dX6_draftMerge_18 (by decide) (by omega) (fun h18 => ?_) (fun h18 => ?_)
            · exfalso; omega
            · refine x_iconst (pc := 21) hX dX6_draftMerge_21 ?_
              rw [if_pos (fun z => absurd z (by omega))] at hres
              refine x_iret (pc := 22) hX rfl (by decide) (by decide) dX6_draftMerge_22 ?_
              exact ⟨fun _ _ => rfl, Nat.le_refl _, fun _ _ _ => rfl, _, rfl, fun e he => (by rw [← hres] at he; cases he; rfl), fun l hl => (by rw [← hres] at hl; cases hl)⟩
      · rw [if_neg hca]
        refine x_if_eq (pc := 11) (tgt := 21) hX dX6_draftMerge_11 (by decide) (by omega) (fun h11 => ?_) (fun h11 => ?_)
        · refine x_iconst (pc := 21) hX dX6_draftMerge_21 ?_
          rw [if_pos (fun z => absurd z (by omega))] at hres
          refine x_iret (pc := 22) hX rfl (by decide) (by decide) dX6_draftMerge_22 ?_
          exact ⟨fun _ _ => rfl, Nat.le_refl _, fun _ _ _ => rfl, _, rfl, fun e he => (by rw [← hres] at he; cases he; rfl), fun l hl => (by rw [← hres] at hl; cases hl)⟩
        · exfalso; omega
  · rw [if_neg hcc]
    refine x_if_eq (pc := 4) (tgt := 21) hX dX6_draftMerge_4 (by decide) (by omega) (fun h4 => ?_) (fun h4 => ?_)
    · refine x_iconst (pc := 21) hX dX6_draftMerge_21 ?_
      rw [if_pos (fun z => absurd z (by omega))] at hres
      refine x_iret (pc := 22) hX rfl (by decide) (by decide) dX6_draftMerge_22 ?_
      exact ⟨fun _ _ => rfl, Nat.le_refl _, fun _ _ _ => rfl, _, rfl, fun e he => (by rw [← hres] at he; cases he; rfl), fun l hl => (by rw [← hres] at hl; cases hl)⟩
    · exfalso; omega

set_option maxHeartbeats 4000000 in
set_option maxRecDepth 100000 in
theorem tX6_draftRunsOfOrder {G : XG} {κ : XKs} {M : XM} {hs : Nat} (hK : KX κ hs) {l0 : List Nat} (hD : Dra M 103 l0) (L : Ru) (hL : L.length ≤ 40) (hL2 : ∀ q ∈ L, q.1 ≤ 9 ∧ q.2 ≤ 999) (h3 : M 106 3 = (L.length : Int)) (hA : ∀ x, x < L.length → M 109 x = (rv L x : Int) ∧ M 110 x = (rn L x : Int)) {res : Int ⊕ List Nat} (hres : dRunsF l0 L = res) : XC G mX6_draftRunsOfOrder 2 0 0 [xR 0] κ M hs (pI κ hs (fun a M' => DP M res a M')) := by
  refine XC.intro cdX6_draftRunsOfOrder (by decide) (by decide) (Nat.le_of_ble_eq_true rfl) (loc := [some (xR 0), none]) rfl (fun X hX => ?_)
  have loop : ∀ (n k : Nat) (acc : List Nat) (M1 : XM), k ≤ L.length → L.length < k + n → Same 103 106 M M1 → Dra M1 103 acc → M1 106 3 = (L.length : Int) → (∀ x, x < L.length → M1 109 x = (rv L x : Int) ∧ M1 110 x = (rn L x : Int)) → dRunsF acc (L.drop k) = res → XW G X mX6_draftRunsOfOrder (xq G (pI κ hs (fun a M' => DP M res a M')) 0 0 X) 0 0 2 [some (xR 0), some (xI (k : Int))] [] κ M1 hs := by
    intro n
    induction n with
    | zero => intro k acc M1 h1 h2; omega
    | succ n ih =>
      intro k acc M1 h1 h2 hS1 hD1 h3 hA hF
      refine x_iload_n (pc := 2) hX rfl rfl dX6_draftRunsOfOrder_2 ?_
      refine x_aload_n (pc := 3) hX rfl rfl dX6_draftRunsOfOrder_3 ?_
      refine x_getR (pc := 4) hX fl_X6_41 hK.1 rfl dX6_draftRunsOfOrder_4 ?_
      refine x_cV_P (pc := 7) hX (tX2_runs hK.2.2.2.2.2.2.1 (p := []) (L.length : Int) h3) hK.2.2.2.2.2.2.1.2.2.1 rfl lk_X6_280 rfl rfl (Nat.le_of_ble_eq_true rfl) (by decide) (Nat.zero_le _) (Nat.zero_le _) dX6_draftRunsOfOrder_7 ?_
      refine x_icmp_ge (pc := 10) (tgt := 59) hX dX6_draftRunsOfOrder_10 (by decide) (by omega) (fun h10 => ?_) (fun h10 => ?_)
      · rw [ru_end L (by omega : L.length ≤ k), dRunsF] at hF
        refine x_aload_n (pc := 59) hX rfl rfl dX6_draftRunsOfOrder_59 ?_
        refine x_cV_P (pc := 60) hX (tX6_errorOfDraft hK hD1) hK.1 rfl lk_X6_252 rfl rfl (Nat.le_of_ble_eq_true rfl) (by decide) (Nat.zero_le _) (Nat.zero_le _) dX6_draftRunsOfOrder_60 ?_
        refine x_iret (pc := 63) hX rfl (Nat.zero_le _) (Nat.zero_le _) dX6_draftRunsOfOrder_63 ?_
        rcases dFin_eq hD1 with ⟨g1, g2⟩ | ⟨g1, g2, g3⟩
        · rw [if_pos g1]
          exact pI_i ⟨hS1, fun e he => (by rw [← hF, g2] at he; cases he; rfl), fun l hl => (by rw [← hF, g2] at hl; cases hl)⟩
        · rw [if_neg (by omega)]
          exact pI_i ⟨hS1, fun e he => (by rw [← hF, g2] at he; cases he), fun l hl => (by rw [← hF, g2] at hl; cases hl; exact ⟨rfl, g3⟩)⟩
      · have hkl : k < L.length := by omega
        rw [ru_drop hkl, dRunsF] at hF
        have hq := hA k hkl
        have hmm := hL2 _ (ru_mem hkl)
        have hmm1 : rv L k ≤ 9 := hmm.1
        have hmm2 : rn L k ≤ 999 := hmm.2
        refine x_aload_n (pc := 13) hX rfl rfl dX6_draftRunsOfOrder_13 ?_
        refine x_getR (pc := 14) hX fl_X6_41 hK.1 rfl dX6_draftRunsOfOrder_14 ?_
        refine x_iload_n (pc := 17) hX rfl rfl dX6_draftRunsOfOrder_17 ?_
        refine x_cV_P (pc := 18) hX (tX2_lengthOfRun hK.2.2.2.2.2.2.1 (p := []) L h3 hL k hkl hq.2) hK.2.2.2.2.2.2.1.2.2.1 rfl lk_X6_281 rfl rfl (Nat.le_of_ble_eq_true rfl) (by decide) (Nat.zero_le _) (Nat.zero_le _) dX6_draftRunsOfOrder_18 ?_
        refine x_cS_P (pc := 21) hX (tX6_isLength (rn L k : Int) (by unfold InR; omega)) lk_X6_243 rfl rfl (Nat.le_of_ble_eq_true rfl) (by decide) (Nat.zero_le _) (Nat.zero_le _) dX6_draftRunsOfOrder_21 ?_
        by_cases hnl : 1 ≤ (rn L k : Int) ∧ (rn L k : Int) ≤ 999
        · rw [if_pos hnl]
          rw [if_neg (by omega)] at hF
          refine x_if_ne (pc := 24) (tgt := 30) hX dX6_draftRunsOfOrder_24 (by decide) (by omega) (fun h24 => ?_) (fun h24 => ?_)
          · refine x_aload_n (pc := 30) hX rfl rfl dX6_draftRunsOfOrder_30 ?_
            refine x_getR (pc := 31) hX fl_X6_34 hK.1 rfl dX6_draftRunsOfOrder_31 ?_
            refine x_aload_n (pc := 34) hX rfl rfl dX6_draftRunsOfOrder_34 ?_
            refine x_getR (pc := 35) hX fl_X6_41 hK.1 rfl dX6_draftRunsOfOrder_35 ?_
            refine x_iload_n (pc := 38) hX rfl rfl dX6_draftRunsOfOrder_38 ?_
            refine x_cV_P (pc := 39) hX (tX2_valueOfRun hK.2.2.2.2.2.2.1 (p := []) L h3 hL k hkl hq.1) hK.2.2.2.2.2.2.1.2.2.1 rfl lk_X6_282 rfl rfl (Nat.le_of_ble_eq_true rfl) (by decide) (Nat.zero_le _) (Nat.zero_le _) dX6_draftRunsOfOrder_39 ?_
            refine x_aload_n (pc := 42) hX rfl rfl dX6_draftRunsOfOrder_42 ?_
            refine x_getR (pc := 43) hX fl_X6_41 hK.1 rfl dX6_draftRunsOfOrder_43 ?_
            refine x_iload_n (pc := 46) hX rfl rfl dX6_draftRunsOfOrder_46 ?_
            refine x_cV_P (pc := 47) hX (tX2_lengthOfRun hK.2.2.2.2.2.2.1 (p := []) L h3 hL k hkl hq.2) hK.2.2.2.2.2.2.1.2.2.1 rfl lk_X6_281 rfl rfl (Nat.le_of_ble_eq_true rfl) (by decide) (Nat.zero_le _) (Nat.zero_le _) dX6_draftRunsOfOrder_47 ?_
            refine x_cV_V (pc := 50) hX (tX0_addRun hK.2.2.2.2.2.1 hD1 (rv L k) (by omega) (rn L k : Int) (by unfold InR; omega)) hK.2.2.2.2.2.1.1 rfl lk_X6_248 rfl rfl (Nat.le_of_ble_eq_true rfl) (by decide) (Nat.zero_le _) (Nat.zero_le _) dX6_draftRunsOfOrder_50 (fun M2 hp => ?_)
            obtain ⟨hD2, hq2⟩ := hp
            rw [Int.toNat_natCast] at hD2
            refine x_iinc (pc := 53) (v := ((k + 1 : Nat) : Int)) hX dX6_draftRunsOfOrder_53 rfl (by decide) rfl (by omega) rfl ?_
            refine x_goto (pc := 56) (tgt := 2) hX dX6_draftRunsOfOrder_56 (by decide) ?_
            exact ih (k + 1) _ M2 (by omega) (by omega) (hS1.tr hq2) hD2 ((congrFun (hq2 106 (by omega)) 3).trans h3) (fun x hx => by rw [hq2 109 (by omega), hq2 110 (by omega)]; exact hA x hx) hF
          · exfalso; omega
        · rw [if_neg hnl]
          rw [if_pos (by omega)] at hF
          refine x_if_ne (pc := 24) (tgt := 30) hX dX6_draftRunsOfOrder_24 (by decide) (by omega) (fun h24 => ?_) (fun h24 => ?_)
          · exfalso; omega
          · refine x_bipush (pc := 27) hX (by decide) dX6_draftRunsOfOrder_27 ?_
            refine x_iret (pc := 29) hX rfl (Nat.zero_le _) (Nat.zero_le _) dX6_draftRunsOfOrder_29 ?_
            exact pI_i ⟨hS1, fun e he => (by rw [← hF] at he; cases he; rfl), fun l hl => (by rw [← hF] at hl; cases hl)⟩
  refine x_iconst (pc := 0) hX dX6_draftRunsOfOrder_0 ?_
  refine x_istore_n (pc := 1) hX rfl (by decide) rfl rfl dX6_draftRunsOfOrder_1 ?_
  exact loop (L.length + 1) 0 l0 M (by omega) (by omega) Same.rf hD h3 hA hres

set_option maxHeartbeats 4000000 in
set_option maxRecDepth 100000 in
theorem tX6_draftOrder {G : XG} {κ : XKs} {M : XM} {hs : Nat} (hK : KX κ hs) {S : Sx} (hS : RX M S) {od : Od} (hO : OdOk od) (hM : OdM M od) {res : Int ⊕ List Nat} (hres : dOrd S.1 od = res) : XC G mX6_draftOrder 3 0 0 [xR 0] κ M hs (pI κ hs (fun a M' => DP M res a M')) := by
  refine XC.intro cdX6_draftOrder (by decide) (by decide) (Nat.le_of_ble_eq_true rfl) (loc := [some (xR 0), none, none]) rfl (fun X hX => ?_)
  obtain ⟨c, k, r, n, L⟩ := od
  obtain ⟨hc, hk, hr, hn, hL, hL2⟩ := hO
  obtain ⟨h5, h6, hru, hop⟩ := hM
  simp only at hc hk hr hn hL hL2 h5 h6 hru hop
  unfold dOrd at hres
  simp only at hres
  have hcol := hS.ok (i := c) (by omega)
  have hKc := hK.col (i := c) (by omega)
  refine x_aload_n (pc := 0) hX rfl rfl dX6_draftOrder_0 ?_
  refine x_getR (pc := 1) hX fl_X6_41 hK.1 rfl dX6_draftOrder_1 ?_
  refine x_cV_P (pc := 4) hX (tX2_column hK.2.2.2.2.2.2.1 (p := []) (c : Int) h5) hK.2.2.2.2.2.2.1.2.2.1 rfl lk_X6_265 rfl rfl (Nat.le_of_ble_eq_true rfl) (by decide) (Nat.zero_le _) (Nat.zero_le _) dX6_draftOrder_4 ?_
  refine x_istore_n (pc := 7) hX rfl (by decide) rfl rfl dX6_draftOrder_7 ?_
  refine x_aload_n (pc := 8) hX rfl rfl dX6_draftOrder_8 ?_
  refine x_getR (pc := 9) hX fl_X6_41 hK.1 rfl dX6_draftOrder_9 ?_
  refine x_cV_P (pc := 12) hX (tX2_kind hK.2.2.2.2.2.2.1 (p := []) (k : Int) h6 (by omega)) hK.2.2.2.2.2.2.1.2.2.1 rfl lk_X6_267 rfl rfl (Nat.le_of_ble_eq_true rfl) (by decide) (Nat.zero_le _) (Nat.zero_le _) dX6_draftOrder_12 ?_
  refine x_istore_n (pc := 15) hX rfl (by decide) rfl rfl dX6_draftOrder_15 ?_
  refine x_iload_n (pc := 16) hX rfl rfl dX6_draftOrder_16 ?_
  refine x_bipush (pc := 17) hX (by decide) dX6_draftOrder_17 ?_
  refine x_icmp_ne (pc := 19) (tgt := 28) hX dX6_draftOrder_19 (by decide) (by omega) (fun h19 => ?_) (fun h19 => ?_)
  · rw [if_neg (by omega)] at hres
    refine x_iload_n (pc := 28) hX rfl rfl dX6_draftOrder_28 ?_
    refine x_bipush (pc := 29) hX (by decide) dX6_draftOrder_29 ?_
    refine x_icmp_ne (pc := 31) (tgt := 54) hX dX6_draftOrder_31 (by decide) (by omega) (fun h31 => ?_) (fun h31 => ?_)
    · rw [if_neg (by omega)] at hres
      refine x_iload_n (pc := 54) hX rfl rfl dX6_draftOrder_54 ?_
      refine x_bipush (pc := 55) hX (by decide) dX6_draftOrder_55 ?_
      refine x_icmp_ne (pc := 57) (tgt := 80) hX dX6_draftOrder_57 (by decide) (by omega) (fun h57 => ?_) (fun h57 => ?_)
      · rw [if_neg (by omega)] at hres
        have hru := hru (by omega)
        refine x_aload_n (pc := 80) hX rfl rfl dX6_draftOrder_80 ?_
        refine x_getR (pc := 81) hX fl_X6_34 hK.1 rfl dX6_draftOrder_81 ?_
        refine x_cV_V (pc := 84) hX (tX0_clear hK.2.2.2.2.2.1) hK.2.2.2.2.2.1.1 rfl lk_X6_96 rfl rfl (Nat.le_of_ble_eq_true rfl) (by decide) (Nat.zero_le _) (Nat.zero_le _) dX6_draftOrder_84 (fun M1 hp => ?_)
        obtain ⟨hD1, hq1⟩ := hp
        refine x_iload_n (pc := 87) hX rfl rfl dX6_draftOrder_87 ?_
        refine x_bipush (pc := 88) hX (by decide) dX6_draftOrder_88 ?_
        refine x_icmp_ne (pc := 90) (tgt := 108) hX dX6_draftOrder_90 (by decide) (by omega) (fun h90 => ?_) (fun h90 => ?_)
        · rw [if_neg (by omega)] at hres
          refine x_aload_n (pc := 108) hX rfl rfl dX6_draftOrder_108 ?_
          refine x_cV_I (pc := 109) hX (tX6_draftRunsOfOrder hK hD1 L hL hL2 (by rw [hq1 106 (by omega)]; exact hru.1) (fun x hx => by rw [hq1 109 (by omega), hq1 110 (by omega)]; exact hru.2 x hx) hres) hK.1 rfl lk_X6_277 rfl rfl (Nat.le_of_ble_eq_true rfl) (by decide) (Nat.zero_le _) (Nat.zero_le _) dX6_draftOrder_109 (fun a M3 hp3 => ?_)
          refine x_iret (pc := 112) hX rfl (Nat.zero_le _) (Nat.zero_le _) dX6_draftOrder_112 ?_
          exact pI_i ⟨hq1.tr hp3.1, hp3.2⟩
        · rw [if_pos (by omega)] at hres
          have hc1 := hcol.same hq1 (by omega)
          refine x_aload_n (pc := 93) hX rfl rfl dX6_draftOrder_93 ?_
          refine x_getR (pc := 94) hX fl_X6_34 hK.1 rfl dX6_draftOrder_94 ?_
          refine x_aload_n (pc := 97) hX rfl rfl dX6_draftOrder_97 ?_
          refine x_getR (pc := 98) hX fl_X6_12 hK.1 rfl dX6_draftOrder_98 ?_
          refine x_iload_n (pc := 101) hX rfl rfl dX6_draftOrder_101 ?_
          refine x_cV_P (pc := 102) hX (tX5_column hK.2.1 c hc) hK.2.1.1 rfl lk_X6_64 rfl rfl (Nat.le_of_ble_eq_true rfl) (by decide) (Nat.zero_le _) (Nat.zero_le _) dX6_draftOrder_102 ?_
          refine x_top (congrArg xR (show 1 + 2 + 3 * c = 3 + 3 * c by omega)) ?_
          refine x_cV_V (pc := 105) hX (tX0_copyFrom hK.2.2.2.2.2.1 hKc (by omega) (Or.inl hc1.2.1)) hK.2.2.2.2.2.1.1 rfl lk_X6_246 rfl rfl (Nat.le_of_ble_eq_true rfl) (by decide) (Nat.zero_le _) (Nat.zero_le _) dX6_draftOrder_105 (fun M2 hp => ?_)
          refine x_aload_n (pc := 108) hX rfl rfl dX6_draftOrder_108 ?_
          refine x_cV_I (pc := 109) hX (tX6_draftRunsOfOrder hK (hp.col hc1).dra L hL hL2 (by rw [hp.2.2 106 (by omega), hq1 106 (by omega)]; exact hru.1) (fun x hx => by rw [hp.2.2 109 (by omega), hp.2.2 110 (by omega), hq1 109 (by omega), hq1 110 (by omega)]; exact hru.2 x hx) hres) hK.1 rfl lk_X6_277 rfl rfl (Nat.le_of_ble_eq_true rfl) (by decide) (Nat.zero_le _) (Nat.zero_le _) dX6_draftOrder_109 (fun a M3 hp3 => ?_)
          refine x_iret (pc := 112) hX rfl (Nat.zero_le _) (Nat.zero_le _) dX6_draftOrder_112 ?_
          exact pI_i ⟨(hq1.tr hp.2.2).tr hp3.1, hp3.2⟩
      · rw [if_pos (by omega)] at hres
        have hop := hop (by omega)
        refine x_aload_n (pc := 60) hX rfl rfl dX6_draftOrder_60 ?_
        refine x_iload_n (pc := 61) hX rfl rfl dX6_draftOrder_61 ?_
        refine x_aload_n (pc := 62) hX rfl rfl dX6_draftOrder_62 ?_
        refine x_getR (pc := 63) hX fl_X6_41 hK.1 rfl dX6_draftOrder_63 ?_
        refine x_cV_P (pc := 66) hX (tX2_row hK.2.2.2.2.2.2.1 (p := []) (r : Int) hop.1) hK.2.2.2.2.2.2.1.2.2.1 rfl lk_X6_271 rfl rfl (Nat.le_of_ble_eq_true rfl) (by decide) (Nat.zero_le _) (Nat.zero_le _) dX6_draftOrder_66 ?_
        refine x_aload_n (pc := 69) hX rfl rfl dX6_draftOrder_69 ?_
        refine x_getR (pc := 70) hX fl_X6_41 hK.1 rfl dX6_draftOrder_70 ?_
        refine x_cV_P (pc := 73) hX (tX2_operand hK.2.2.2.2.2.2.1 (p := []) (n : Int) hop.2) hK.2.2.2.2.2.2.1.2.2.1 rfl lk_X6_274 rfl rfl (Nat.le_of_ble_eq_true rfl) (by decide) (Nat.zero_le _) (Nat.zero_le _) dX6_draftOrder_73 ?_
        refine x_cV_I (pc := 76) hX (tX6_draftSet hK hS (c : Int) (r : Int) (n : Int) (by unfold InR; omega) (by unfold InR; omega) (by unfold InR; omega) hres) hK.1 rfl lk_X6_82 rfl rfl (Nat.le_of_ble_eq_true rfl) (by decide) (Nat.zero_le _) (Nat.zero_le _) dX6_draftOrder_76 (fun a M1 hp => ?_)
        refine x_iret (pc := 79) hX rfl (Nat.zero_le _) (Nat.zero_le _) dX6_draftOrder_79 ?_
        exact pI_i hp
    · rw [if_pos (by omega)] at hres
      have hop := hop (by omega)
      refine x_aload_n (pc := 34) hX rfl rfl dX6_draftOrder_34 ?_
      refine x_iload_n (pc := 35) hX rfl rfl dX6_draftOrder_35 ?_
      refine x_aload_n (pc := 36) hX rfl rfl dX6_draftOrder_36 ?_
      refine x_getR (pc := 37) hX fl_X6_41 hK.1 rfl dX6_draftOrder_37 ?_
      refine x_cV_P (pc := 40) hX (tX2_row hK.2.2.2.2.2.2.1 (p := []) (r : Int) hop.1) hK.2.2.2.2.2.2.1.2.2.1 rfl lk_X6_271 rfl rfl (Nat.le_of_ble_eq_true rfl) (by decide) (Nat.zero_le _) (Nat.zero_le _) dX6_draftOrder_40 ?_
      refine x_aload_n (pc := 43) hX rfl rfl dX6_draftOrder_43 ?_
      refine x_getR (pc := 44) hX fl_X6_41 hK.1 rfl dX6_draftOrder_44 ?_
      refine x_cV_P (pc := 47) hX (tX2_operand hK.2.2.2.2.2.2.1 (p := []) (n : Int) hop.2) hK.2.2.2.2.2.2.1.2.2.1 rfl lk_X6_274 rfl rfl (Nat.le_of_ble_eq_true rfl) (by decide) (Nat.zero_le _) (Nat.zero_le _) dX6_draftOrder_47 ?_
      refine x_cV_I (pc := 50) hX (tX6_draftRemove hK hS (c : Int) (r : Int) (n : Int) (by unfold InR; omega) (by unfold InR; omega) (by unfold InR; omega) hres) hK.1 rfl lk_X6_79 rfl rfl (Nat.le_of_ble_eq_true rfl) (by decide) (Nat.zero_le _) (Nat.zero_le _) dX6_draftOrder_50 (fun a M1 hp => ?_)
      refine x_iret (pc := 53) hX rfl (Nat.zero_le _) (Nat.zero_le _) dX6_draftOrder_53 ?_
      exact pI_i hp
  · rw [if_pos (by omega)] at hres
    refine x_aload_n (pc := 22) hX rfl rfl dX6_draftOrder_22 ?_
    refine x_iload_n (pc := 23) hX rfl rfl dX6_draftOrder_23 ?_
    refine x_cV_I (pc := 24) hX (tX6_draftSort hK hS (c : Int) (by unfold InR; omega) hres) hK.1 rfl lk_X6_89 rfl rfl (Nat.le_of_ble_eq_true rfl) (by decide) (Nat.zero_le _) (Nat.zero_le _) dX6_draftOrder_24 (fun a M1 hp => ?_)
    refine x_iret (pc := 27) hX rfl (Nat.zero_le _) (Nat.zero_le _) dX6_draftOrder_27 ?_
    exact pI_i hp

set_option maxHeartbeats 4000000 in
set_option maxRecDepth 100000 in
theorem tX6_obeyOrders {G : XG} {κ : XKs} {M : XM} {hs : Nat} (hK : KX κ hs) {S : Sx} (hS : RX M S) {R0 : Cs × Nat} (hR0 : pExec S.2.2.2 80 S.1 0 0 = R0) : XC G mX6_obeyOrders 5 0 0 [xR 0] κ M hs (pI κ hs (fun a M' => RX M' (R0.1, S.2.1, S.2.2.1, S.2.2.2) ∧ a = (R0.2 : Int) ∧ ∀ q, 112 ≤ q → M' q = M q)) := by
  refine XC.intro cdX6_obeyOrders (by decide) (by decide) (Nat.le_of_ble_eq_true rfl) (loc := [some (xR 0), none, none]) rfl (fun X hX => ?_)
  have hlen0 := hS.2.2.2.2.1
  have loop : ∀ (n k f9 : Nat) (cs : Cs) (i mm : Nat) (M1 : XM), k + f9 = 80 → mm ≤ k → 80 < k + n → RX M1 (cs, S.2.1, S.2.2.1, S.2.2.2) → RdS M1 S.2.2.2 i → (∀ q, 112 ≤ q → M1 q = M q) → pExec S.2.2.2 f9 cs i mm = R0 → XW G X mX6_obeyOrders (xq G (pI κ hs (fun a M' => RX M' (R0.1, S.2.1, S.2.2.1, S.2.2.2) ∧ a = (R0.2 : Int) ∧ ∀ q, 112 ≤ q → M' q = M q)) 0 0 X) 0 0 11 [some (xR 0), some (xI (mm : Int)), some (xI (k : Int))] [] κ M1 hs := by
    intro n
    induction n with
    | zero => intro k f9 cs i mm M1 h1 h2; omega
    | succ n ih =>
      intro k f9 cs i mm M1 h1 h2 h3 hR1 hSr hfr hF
      refine x_iload_n (pc := 11) hX rfl rfl dX6_obeyOrders_11 ?_
      refine x_bipush (pc := 12) hX (by decide) dX6_obeyOrders_12 ?_
      refine x_icmp_ge (pc := 14) (tgt := 80) hX dX6_obeyOrders_14 (by decide) (by omega) (fun h14 => ?_) (fun h14 => ?_)
      · have hk80 : f9 = 0 := by omega
        subst hk80
        rw [pExec] at hF
        refine x_iload_n (pc := 80) hX rfl rfl dX6_obeyOrders_80 ?_
        refine x_iret (pc := 81) hX rfl (Nat.zero_le _) (Nat.zero_le _) dX6_obeyOrders_81 ?_
        exact pI_i (by rw [← hF]; exact ⟨hR1, rfl, hfr⟩)
      · obtain ⟨f8, rfl⟩ : ∃ f8, f9 = f8 + 1 := ⟨f9 - 1, by omega⟩
        rw [pExec] at hF
        have hrr : pOrder S.2.2.2 i = ((pOrder S.2.2.2 i).1, (pOrder S.2.2.2 i).2) := rfl
        generalize (pOrder S.2.2.2 i).1 = rod at hrr
        generalize (pOrder S.2.2.2 i).2 = j9 at hrr
        rw [hrr] at hF
        refine x_aload_n (pc := 17) hX rfl rfl dX6_obeyOrders_17 ?_
        refine x_getR (pc := 18) hX fl_X6_41 hK.1 rfl dX6_obeyOrders_18 ?_
        refine x_cV_I (pc := 21) hX (tX2_readOrder hK.2.2.2.2.2.2.1 hSr hrr) hK.2.2.2.2.2.2.1.2.2.1 rfl lk_X6_289 rfl rfl (Nat.le_of_ble_eq_true rfl) (by decide) (Nat.zero_le _) (Nat.zero_le _) dX6_obeyOrders_21 (fun a M2 hp => ?_)
        obtain ⟨hSr2, hq2, hno, hyes⟩ := hp
        have hR2 := hR1.same hq2 (by omega)
        by_cases hnn : rod = none
        · obtain rfl := hno hnn
          subst hnn
          have hF : (cs, mm) = R0 := hF
          refine x_if_eq (pc := 24) (tgt := 34) hX dX6_obeyOrders_24 (by decide) (by omega) (fun h24 => ?_) (fun h24 => ?_)
          · refine x_iload_n (pc := 34) hX rfl rfl dX6_obeyOrders_34 ?_
            refine x_iret (pc := 35) hX rfl (Nat.zero_le _) (Nat.zero_le _) dX6_obeyOrders_35 ?_
            exact pI_i (by rw [← hF]; exact ⟨hR2, rfl, fun q hq => (hq2 q (by omega)).trans (hfr q hq)⟩)
          · exfalso; omega
        · obtain ⟨od, rfl⟩ : ∃ od, rod = some od := by
            cases rod with
            | none => exact absurd rfl hnn
            | some od => exact ⟨od, rfl⟩
          obtain ⟨rfl, hOM⟩ := hyes od rfl
          have hOk := pOrder_ok hrr
          have hlen := hSr2.1.2.1
          have hF : (match dOrd cs od with
                | .inl _ => (cs, mm)
                | .inr l => if chr S.2.2.2 j9 = 59 then pExec S.2.2.2 f8 (upC cs od.1 l) (j9 + 1) (mm + 1) else (upC cs od.1 l, mm + 1)) = R0 := hF
          generalize hdd : dOrd cs od = dd at hF
          refine x_if_eq (pc := 24) (tgt := 34) hX dX6_obeyOrders_24 (by decide) (by omega) (fun h24 => ?_) (fun h24 => ?_)
          · exfalso; omega
          · refine x_aload_n (pc := 27) hX rfl rfl dX6_obeyOrders_27 ?_
            refine x_cV_I (pc := 28) hX (tX6_draftOrder hK hR2 hOk.1 hOM hdd) hK.1 rfl lk_X6_292 rfl rfl (Nat.le_of_ble_eq_true rfl) (by decide) (Nat.zero_le _) (Nat.zero_le _) dX6_obeyOrders_28 (fun a M3 hp => ?_)
            obtain ⟨hq3, he3, hl3⟩ := hp
            have hR3 := hR2.same hq3 (by omega)
            have hSr3 : RdS M3 S.2.2.2 j9 := ⟨hSr2.1.same hq3 (by omega), (congrFun (hq3 106 (by omega)) 4).trans hSr2.2.1, hSr2.2.2⟩
            by_cases hin : ∃ e, dd = .inl e
            · obtain ⟨e, rfl⟩ := hin
              have he0 := he3 e rfl
              have hne := dOrd_ne hdd
              have hF : (cs, mm) = R0 := hF
              refine x_if_eq (pc := 31) (tgt := 36) hX dX6_obeyOrders_31 (by decide) (by omega) (fun h31 => ?_) (fun h31 => ?_)
              · exfalso; omega
              · refine x_iload_n (pc := 34) hX rfl rfl dX6_obeyOrders_34 ?_
                refine x_iret (pc := 35) hX rfl (Nat.zero_le _) (Nat.zero_le _) dX6_obeyOrders_35 ?_
                exact pI_i (by rw [← hF]; exact ⟨hR3, rfl, fun q hq => (hq3 q (by omega)).trans ((hq2 q (by omega)).trans (hfr q hq))⟩)
            · obtain ⟨l, rfl⟩ : ∃ l, dd = .inr l := by
                cases dd with
                | inl e => exact absurd ⟨e, rfl⟩ hin
                | inr l => exact ⟨l, rfl⟩
              obtain ⟨rfl, hC3⟩ := hl3 l rfl
              have hF : (if chr S.2.2.2 j9 = 59 then pExec S.2.2.2 f8 (upC cs od.1 l) (j9 + 1) (mm + 1) else (upC cs od.1 l, mm + 1)) = R0 := hF
              have hc := hOk.1.1
              refine x_if_eq (pc := 31) (tgt := 36) hX dX6_obeyOrders_31 (by decide) (by omega) (fun h31 => ?_) (fun h31 => ?_)
              · refine x_aload_n (pc := 36) hX rfl rfl dX6_obeyOrders_36 ?_
                refine x_getR (pc := 37) hX fl_X6_12 hK.1 rfl dX6_obeyOrders_37 ?_
                refine x_aload_n (pc := 40) hX rfl rfl dX6_obeyOrders_40 ?_
                refine x_getR (pc := 41) hX fl_X6_41 hK.1 rfl dX6_obeyOrders_41 ?_
                refine x_cV_P (pc := 44) hX (tX2_column hK.2.2.2.2.2.2.1 (p := []) (od.1 : Int) (by rw [hq3 106 (by omega)]; exact hOM.1)) hK.2.2.2.2.2.2.1.2.2.1 rfl lk_X6_265 rfl rfl (Nat.le_of_ble_eq_true rfl) (by decide) (Nat.zero_le _) (Nat.zero_le _) dX6_obeyOrders_44 ?_
                refine x_cV_P (pc := 47) hX (tX5_column hK.2.1 od.1 hc) hK.2.1.1 rfl lk_X6_64 rfl rfl (Nat.le_of_ble_eq_true rfl) (by decide) (Nat.zero_le _) (Nat.zero_le _) dX6_obeyOrders_47 ?_
                refine x_aload_n (pc := 50) hX rfl rfl dX6_obeyOrders_50 ?_
                refine x_getR (pc := 51) hX fl_X6_34 hK.1 rfl dX6_obeyOrders_51 ?_
                have hKc := hK.2.1.2.2 od.1 hc
                refine x_cV_V (pc := 54) hX (tX0_copyFrom hKc hK.2.2.2.2.2.1 (by omega) (Or.inl hC3.2.1)) hKc.1 rfl lk_X6_246 rfl rfl (Nat.le_of_ble_eq_true rfl) (by decide) (Nat.zero_le _) (Nat.zero_le _) dX6_obeyOrders_54 (fun M4 hp => ?_)
                have hq4 := hp.2.2
                have hR4 : RX M4 (upC cs od.1 l, S.2.1, S.2.2.1, S.2.2.2) := ⟨hR3.1.up hc hq4 (hp.col hC3), hR3.2.1.same hq4 (by omega), hR3.2.2.1.same hq4 (by omega), hR3.2.2.2.same hq4 (by omega)⟩
                have hSr4 : RdS M4 S.2.2.2 j9 := ⟨hSr3.1.same hq4 (by omega), (congrFun (hq4 106 (by omega)) 4).trans hSr3.2.1, hSr3.2.2⟩
                have hfr4 : ∀ q, 112 ≤ q → M4 q = M q := fun q hq => (hq4 q (by omega)).trans ((hq3 q (by omega)).trans ((hq2 q (by omega)).trans (hfr q hq)))
                refine x_iinc (pc := 57) (v := ((mm + 1 : Nat) : Int)) hX dX6_obeyOrders_57 rfl (by decide) rfl (by omega) rfl ?_
                refine x_aload_n (pc := 60) hX rfl rfl dX6_obeyOrders_60 ?_
                refine x_getR (pc := 61) hX fl_X6_41 hK.1 rfl dX6_obeyOrders_61 ?_
                refine x_bipush (pc := 64) hX (by decide) dX6_obeyOrders_64 ?_
                refine x_cV_I (pc := 66) hX (tX2_passes hK.2.2.2.2.2.2.1 hSr4 59 (by decide)) hK.2.2.2.2.2.2.1.2.2.1 rfl lk_X6_295 rfl rfl (Nat.le_of_ble_eq_true rfl) (by decide) (Nat.zero_le _) (Nat.zero_le _) dX6_obeyOrders_66 (fun a M5 hp => ?_)
                obtain ⟨hy5, hn5⟩ := hp
                by_cases hsc : chr S.2.2.2 j9 = 59
                · obtain ⟨rfl, hSr5, hk5⟩ := hy5 hsc
                  rw [if_pos hsc] at hF
                  have hq5 := hk5.same
                  refine x_if_ne (pc := 69) (tgt := 74) hX dX6_obeyOrders_69 (by decide) (by omega) (fun h69 => ?_) (fun h69 => ?_)
                  · refine x_iinc (pc := 74) (v := ((k + 1 : Nat) : Int)) hX dX6_obeyOrders_74 rfl (by decide) rfl (by omega) rfl ?_
                    refine x_goto (pc := 77) (tgt := 11) hX dX6_obeyOrders_77 (by decide) ?_
                    exact ih (k + 1) f8 (upC cs od.1 l) (j9 + 1) (mm + 1) M5 (by omega) (by omega) (by omega) (hR4.same hq5 (by omega)) hSr5 (fun q hq => (hq5 q (by omega)).trans (hfr4 q hq)) hF
                  · exfalso; omega
                · obtain ⟨rfl, rfl⟩ := hn5 hsc
                  rw [if_neg hsc] at hF
                  refine x_if_ne (pc := 69) (tgt := 74) hX dX6_obeyOrders_69 (by decide) (by omega) (fun h69 => ?_) (fun h69 => ?_)
                  · exfalso; omega
                  · refine x_iload_n (pc := 72) hX rfl rfl dX6_obeyOrders_72 ?_
                    refine x_iret (pc := 73) hX rfl (Nat.zero_le _) (Nat.zero_le _) dX6_obeyOrders_73 ?_
                    exact pI_i (by rw [← hF]; exact ⟨hR4, rfl, hfr4⟩)
              · exfalso; omega
  refine x_iconst (pc := 0) hX dX6_obeyOrders_0 ?_
  refine x_istore_n (pc := 1) hX rfl (by decide) rfl rfl dX6_obeyOrders_1 ?_
  refine x_aload_n (pc := 2) hX rfl rfl dX6_obeyOrders_2 ?_
  refine x_getR (pc := 3) hX fl_X6_41 hK.1 rfl dX6_obeyOrders_3 ?_
  refine x_cV_V (pc := 6) hX (tX2_start hK.2.2.2.2.2.2.1 hS.2.2.2) hK.2.2.2.2.2.2.1.2.2.1 rfl lk_X6_286 rfl rfl (Nat.le_of_ble_eq_true rfl) (by decide) (Nat.zero_le _) (Nat.zero_le _) dX6_obeyOrders_6 (fun M1 hp => ?_)
  refine x_iconst (pc := 9) hX dX6_obeyOrders_9 ?_
  refine x_istore_n (pc := 10) hX rfl (by decide) rfl rfl dX6_obeyOrders_10 ?_
  exact loop 81 0 80 S.1 0 0 M1 (by omega) (by omega) (by omega) (hS.same hp.2.same (by omega)) hp.1 (fun q hq => hp.2.same q (by omega)) hR0

