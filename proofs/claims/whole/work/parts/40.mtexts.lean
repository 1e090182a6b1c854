/-! the model: texts -/
def AtM (M : XM) (p : List Nat) (i : Nat) : Prop := PM M p ∧ M 140 12 = (i : Int)
def P12 (q f : Nat) : Prop := q = 140 ∧ f = 12
def PRq (q f : Nat) : Prop := q = 149 ∨ q = 150 ∨ (q = 140 ∧ (f = 12 ∨ 15 ≤ f))
def PRo (q f : Nat) : Prop := q = 149 ∨ q = 150 ∨ (q = 140 ∧ 12 ≤ f)
theorem P12.rq {q f : Nat} (h : P12 q f) : PRq q f := by unfold P12 at h; unfold PRq; omega
theorem PRq.ro {q f : Nat} (h : PRq q f) : PRo q f := by unfold PRq at h; unfold PRo; omega
theorem P12.ro {q f : Nat} (h : P12 q f) : PRo q f := h.rq.ro
theorem PRo.ps {q f : Nat} (h : PRo q f) : PS q f := by unfold PRo at h; unfold PS; omega
theorem PM.chg {M M' : XM} {p : List Nat} (h : PM M p) (hq : Chg PRo M M') : PM M' p := h.congr (hq.at (by unfold PRo; omega)) (hq.cell (fun f => by unfold PRo; omega))
theorem AtM.mv {M : XM} {p : List Nat} {i : Nat} (h : AtM M p i) (j : Nat) : AtM (mput M 140 12 (j : Int)) p j := ⟨h.1.chg (Chg.put (by unfold PRo; omega)), mp_eq _ _ _ _⟩
theorem AtM.fld {M : XM} {p : List Nat} {i f : Nat} {v : Int} (h : AtM M p i) (hf : 13 ≤ f) : AtM (mput M 140 f v) p i := ⟨h.1.chg (Chg.put (by unfold PRo; omega)), by rw [mp_ne _ _ (by omega)]; exact h.2⟩
theorem AtM.arr {M : XM} {p : List Nat} {i a k : Nat} {v : Int} (h : AtM M p i) (ha : a = 149 ∨ a = 150) : AtM (mput M a k v) p i := ⟨h.1.chg (Chg.put (by unfold PRo; omega)), by rw [mput_ne _ _ _ (by omega)]; exact h.2⟩
theorem Chg.mv {M : XM} {v : Int} : Chg P12 M (mput M 140 12 v) := Chg.put ⟨rfl, rfl⟩
def chI (p : List Nat) (i : Nat) : Int := if i < p.length then (chr p i : Int) else -1
theorem chI_or {M : XM} {p : List Nat} (h : PM M p) (i : Nat) : (i < p.length ∧ chI p i = (chr p i : Int) ∧ 33 ≤ chr p i ∧ chr p i ≤ 126) ∨ (p.length ≤ i ∧ chI p i = -1 ∧ chr p i = 0) := by
  have h1 := h.rng i
  unfold chI
  by_cases e : i < p.length
  · rw [if_pos e]
    exact Or.inl ⟨e, rfl, h1.2 e, h1.1⟩
  · rw [if_neg e]
    exact Or.inr ⟨by omega, rfl, chr_ge (by omega)⟩
/-- the reader amid runs -/
def RJ (M0 M : XM) (p : List Nat) (j : Nat) (acc : Ru) : Prop := AtM M p j ∧ Chg PRq M0 M ∧ M 140 19 = (acc.length : Int) ∧ ∀ x, x < acc.length → M 149 x = (rv acc x : Int) ∧ M 150 x = (rn acc x : Int)
theorem RJ.kp {M0 M M' : XM} {p : List Nat} {j j' : Nat} {acc : Ru} (h : RJ M0 M p j acc) (hA : AtM M' p j') (hq : Chg P12 M M') : RJ M0 M' p j' acc := ⟨hA, h.2.1.tr (hq.mono (fun _ _ => P12.rq)), by rw [hq.at (by unfold P12; omega)]; exact h.2.2.1, by rw [hq.cell (fun f => by unfold P12; omega), hq.cell (fun f => by unfold P12; omega)]; exact h.2.2.2⟩
theorem RJ.add {M0 M : XM} {p : List Nat} {j v w : Nat} {acc : Ru} (h : RJ M0 M p j acc) : RJ M0 (mput (mput (mput M 149 acc.length (v : Int)) 150 acc.length (w : Int)) 140 19 ((acc.length + 1 : Nat) : Int)) p j (acc ++ [(v, w)]) := by
  refine ⟨((h.1.arr (Or.inl rfl)).arr (Or.inr rfl)).fld (by decide), ((h.2.1.tr (Chg.put (Or.inl rfl))).tr (Chg.put (Or.inr (Or.inl rfl)))).tr (Chg.put (by unfold PRq; omega)), by rw [mp_eq, List.length_append]; rfl, fun x hx => ?_⟩
  have g1 : mput (mput (mput M 149 acc.length (v : Int)) 150 acc.length (w : Int)) 140 19 ((acc.length + 1 : Nat) : Int) 149 = mput M 149 acc.length (v : Int) 149 := by
    rw [mput_ne _ _ _ (show (149 : Nat) ≠ 140 by decide), mput_ne _ _ _ (show (149 : Nat) ≠ 150 by decide)]
  have g2 : mput (mput (mput M 149 acc.length (v : Int)) 150 acc.length (w : Int)) 140 19 ((acc.length + 1 : Nat) : Int) 150 = mput (mput M 149 acc.length (v : Int)) 150 acc.length (w : Int) 150 := mput_ne _ _ _ (show (150 : Nat) ≠ 140 by decide)
  rw [g1, g2]
  have hx2 : x < acc.length + 1 := by simpa using hx
  by_cases e : x = acc.length
  · subst e
    rw [rv_last, rn_last, mp_eq, mp_eq]
    exact ⟨rfl, rfl⟩
  · rw [rv_app _ (by omega), rn_app _ (by omega), mp_ne _ _ e, mp_ne _ _ e, mput_ne _ _ _ (show (150 : Nat) ≠ 149 by decide)]
    exact h.2.2.2 x (by omega)
/-- what the model holds of an order -/
def OdK (M : XM) (od : Od) : Prop := M 140 13 = (od.1 : Int) ∧ M 140 14 = (od.2.1 : Int) ∧ (od.2.1 = 61 ∨ od.2.1 = 43 → M 140 19 = (od.2.2.2.2.length : Int) ∧ ∀ x, x < od.2.2.2.2.length → M 149 x = (rv od.2.2.2.2 x : Int) ∧ M 150 x = (rn od.2.2.2.2 x : Int)) ∧ (od.2.1 = 45 ∨ od.2.1 = 64 → M 140 15 = (od.2.2.1 : Int) ∧ M 140 16 = (od.2.2.2.1 : Int))
set_option maxHeartbeats 4000000 in
set_option maxRecDepth 100000 in
theorem tX7_character {G : XG} {κ : XKs} {M : XM} {hs : Nat} (hK : KM κ hs) {p : List Nat} (hP : PM M p) (i : Nat) (hi : i ≤ 1000) : XC G mX7_character 0 0 0 [xR 140, xI (i : Int)] κ M hs (pP κ M hs (xI (chI p i))) := by
  refine XC.intro cdX7_character (by decide) (by decide) (Nat.le_of_ble_eq_true rfl) (loc := [some (xR 140), some (xI (i : Int))]) rfl (fun X hX => ?_)
  have hp2 := hP.2.1
  refine x_iload_n (pc := 0) hX rfl rfl dX7_character_0 ?_
  refine x_aload_n (pc := 1) hX rfl rfl dX7_character_1 ?_
  refine x_getI (pc := 2) (v := (p.length : Int)) hX fl_X7_153 hK.1 rfl hP.1 dX7_character_2 ?_
  refine x_icmp_ge (pc := 5) (tgt := 17) hX dX7_character_5 (by decide) (by omega) (fun h5 => ?_) (fun h5 => ?_)
  · refine x_iconst (pc := 17) hX dX7_character_17 ?_
    refine x_iret (pc := 18) hX rfl (Nat.zero_le _) (Nat.zero_le _) dX7_character_18 ?_
    exact pP_i (congrArg xI (by unfold chI; first | rw [if_pos (by omega)] | rw [if_neg (by omega)]))
  · refine x_aload_n (pc := 8) hX rfl rfl dX7_character_8 ?_
    refine x_getR (pc := 9) hX fl_X7_22 hK.1 rfl dX7_character_9 ?_
    refine x_iload_n (pc := 12) hX rfl rfl dX7_character_12 ?_
    refine x_iald (pc := 13) (j := i) (v := (chr p i : Int)) hX hK.2.2.2.2.2.1 (by omega) (by omega) (by decide) (hP.2.2.1 i (by omega)) dX7_character_13 ?_
    refine x_goto (pc := 14) (tgt := 18) hX dX7_character_14 (by decide) ?_
    refine x_iret (pc := 18) hX rfl (Nat.zero_le _) (Nat.zero_le _) dX7_character_18 ?_
    exact pP_i (congrArg xI (by unfold chI; first | rw [if_pos (by omega)] | rw [if_neg (by omega)]))

set_option maxHeartbeats 4000000 in
set_option maxRecDepth 100000 in
theorem tX7_isNext {G : XG} {κ : XKs} {M : XM} {hs : Nat} (hK : KM κ hs) {p : List Nat} {i : Nat} (hA : AtM M p i) (hi : i ≤ 500) (c : Nat) (hc : 0 < c ∧ c ≤ 126) : XC G mX7_isNext 1 0 0 [xR 140, xI (c : Int)] κ M hs (pI κ hs (fun a M' => (chr p i = c → a = 1 ∧ AtM M' p (i + 1) ∧ Chg P12 M M') ∧ (chr p i ≠ c → a = 0 ∧ AtM M' p i ∧ Chg P12 M M'))) := by
  refine XC.intro cdX7_isNext (by decide) (by decide) (Nat.le_of_ble_eq_true rfl) (loc := [some (xR 140), some (xI (c : Int)), none]) rfl (fun X hX => ?_)
  have hco := chI_or hA.1 i
  refine x_aload_n (pc := 0) hX rfl rfl dX7_isNext_0 ?_
  refine x_aload_n (pc := 1) hX rfl rfl dX7_isNext_1 ?_
  refine x_getI (pc := 2) (v := (i : Int)) hX fl_X7_170 hK.1 rfl hA.2 dX7_isNext_2 ?_
  refine x_cV_P (pc := 5) hX (tX7_character hK hA.1 i (by omega)) hK.1 rfl lk_X7_173 rfl rfl (Nat.le_of_ble_eq_true rfl) (by decide) (Nat.zero_le _) (Nat.zero_le _) dX7_isNext_5 ?_
  refine x_iload_n (pc := 8) hX rfl rfl dX7_isNext_8 ?_
  refine x_icmp_ne (pc := 9) (tgt := 16) hX dX7_isNext_9 (by decide) (by omega) (fun h9 => ?_) (fun h9 => ?_)
  · refine x_iconst (pc := 16) hX dX7_isNext_16 ?_
    refine x_istore_n (pc := 17) hX rfl (by decide) rfl rfl dX7_isNext_17 ?_
    refine x_aload_n (pc := 18) hX rfl rfl dX7_isNext_18 ?_
    refine x_dup (pc := 19) hX rfl dX7_isNext_19 ?_
    refine x_getI (pc := 20) (v := (i : Int)) hX fl_X7_170 hK.1 rfl hA.2 dX7_isNext_20 ?_
    refine x_iload_n (pc := 23) hX rfl rfl dX7_isNext_23 ?_
    refine x_if_eq (pc := 24) (tgt := 31) hX dX7_isNext_24 (by decide) (by omega) (fun h24 => ?_) (fun h24 => ?_)
    · refine x_iconst (pc := 31) hX dX7_isNext_31 ?_
      refine x_iadd (pc := 32) (v := (i : Int)) hX dX7_isNext_32 (by omega) ?_
      refine x_putI (pc := 33) hX fl_X7_170 hK.1 rfl rfl rfl dX7_isNext_33 ?_
      refine x_iload_n (pc := 36) hX rfl rfl dX7_isNext_36 ?_
      refine x_zret (pc := 37) hX rfl (xn_bool (by omega)) (Nat.zero_le _) (Nat.zero_le _) dX7_isNext_37 ?_
      exact pI_i ⟨fun z => absurd z (by omega), fun _ => ⟨rfl, hA.mv i, Chg.mv⟩⟩
    · exfalso; omega
  · refine x_iconst (pc := 12) hX dX7_isNext_12 ?_
    refine x_goto (pc := 13) (tgt := 17) hX dX7_isNext_13 (by decide) ?_
    refine x_istore_n (pc := 17) hX rfl (by decide) rfl rfl dX7_isNext_17 ?_
    refine x_aload_n (pc := 18) hX rfl rfl dX7_isNext_18 ?_
    refine x_dup (pc := 19) hX rfl dX7_isNext_19 ?_
    refine x_getI (pc := 20) (v := (i : Int)) hX fl_X7_170 hK.1 rfl hA.2 dX7_isNext_20 ?_
    refine x_iload_n (pc := 23) hX rfl rfl dX7_isNext_23 ?_
    refine x_if_eq (pc := 24) (tgt := 31) hX dX7_isNext_24 (by decide) (by omega) (fun h24 => ?_) (fun h24 => ?_)
    · exfalso; omega
    · refine x_iconst (pc := 27) hX dX7_isNext_27 ?_
      refine x_goto (pc := 28) (tgt := 32) hX dX7_isNext_28 (by decide) ?_
      refine x_iadd (pc := 32) (v := ((i + 1 : Nat) : Int)) hX dX7_isNext_32 (by omega) ?_
      refine x_putI (pc := 33) hX fl_X7_170 hK.1 rfl rfl rfl dX7_isNext_33 ?_
      refine x_iload_n (pc := 36) hX rfl rfl dX7_isNext_36 ?_
      refine x_zret (pc := 37) hX rfl (xn_bool (by omega)) (Nat.zero_le _) (Nat.zero_le _) dX7_isNext_37 ?_
      exact pI_i ⟨fun _ => ⟨rfl, hA.mv (i + 1), Chg.mv⟩, fun z => absurd (show chr p i = c by omega) z⟩

set_option maxHeartbeats 4000000 in
set_option maxRecDepth 100000 in
theorem tX7_takeDigit {G : XG} {κ : XKs} {M : XM} {hs : Nat} (hK : KM κ hs) {p : List Nat} {i : Nat} (hA : AtM M p i) (hi : i ≤ 500) (m : Nat) (hm : m ≤ 9) : XC G mX7_takeDigit 1 0 0 [xR 140, xI (m : Int)] κ M hs (pI κ hs (fun a M' => (pDig p i m = none → a = -1 ∧ M' = M) ∧ ∀ d, pDig p i m = some d → a = (d : Int) ∧ AtM M' p (i + 1) ∧ Chg P12 M M')) := by
  refine XC.intro cdX7_takeDigit (by decide) (by decide) (Nat.le_of_ble_eq_true rfl) (loc := [some (xR 140), some (xI (m : Int)), none]) rfl (fun X hX => ?_)
  have hco := chI_or hA.1 i
  refine x_aload_n (pc := 0) hX rfl rfl dX7_takeDigit_0 ?_
  refine x_aload_n (pc := 1) hX rfl rfl dX7_takeDigit_1 ?_
  refine x_getI (pc := 2) (v := (i : Int)) hX fl_X7_170 hK.1 rfl hA.2 dX7_takeDigit_2 ?_
  refine x_cV_P (pc := 5) hX (tX7_character hK hA.1 i (by omega)) hK.1 rfl lk_X7_173 rfl rfl (Nat.le_of_ble_eq_true rfl) (by decide) (Nat.zero_le _) (Nat.zero_le _) dX7_takeDigit_5 ?_
  refine x_bipush (pc := 8) hX (by decide) dX7_takeDigit_8 ?_
  refine x_isub (pc := 10) (v := (chI p i - 48)) hX dX7_takeDigit_10 (by omega) ?_
  refine x_istore_n (pc := 11) hX rfl (by decide) rfl rfl dX7_takeDigit_11 ?_
  refine x_iload_n (pc := 12) hX rfl rfl dX7_takeDigit_12 ?_
  refine x_iconst (pc := 13) hX dX7_takeDigit_13 ?_
  refine x_iload_n (pc := 14) hX rfl rfl dX7_takeDigit_14 ?_
  refine x_cS_P (pc := 15) hX (tX7_within (chI p i - 48) 0 (m : Int) (by unfold InR; omega) (by unfold InR; omega) (by unfold InR; omega)) lk_X7_48 rfl rfl (Nat.le_of_ble_eq_true rfl) (by decide) (Nat.zero_le _) (Nat.zero_le _) dX7_takeDigit_15 ?_
  by_cases hww : 0 ≤ chI p i - 48 ∧ chI p i - 48 ≤ (m : Int)
  · rw [if_pos hww]
    refine x_if_ne (pc := 18) (tgt := 23) hX dX7_takeDigit_18 (by decide) (by omega) (fun h18 => ?_) (fun h18 => ?_)
    · refine x_aload_n (pc := 23) hX rfl rfl dX7_takeDigit_23 ?_
      refine x_dup (pc := 24) hX rfl dX7_takeDigit_24 ?_
      refine x_getI (pc := 25) (v := (i : Int)) hX fl_X7_170 hK.1 rfl hA.2 dX7_takeDigit_25 ?_
      refine x_iconst (pc := 28) hX dX7_takeDigit_28 ?_
      refine x_iadd (pc := 29) (v := ((i + 1 : Nat) : Int)) hX dX7_takeDigit_29 (by omega) ?_
      refine x_putI (pc := 30) hX fl_X7_170 hK.1 rfl rfl rfl dX7_takeDigit_30 ?_
      refine x_iload_n (pc := 33) hX rfl rfl dX7_takeDigit_33 ?_
      refine x_iret (pc := 34) hX rfl (Nat.zero_le _) (Nat.zero_le _) dX7_takeDigit_34 ?_
      refine pI_i ⟨fun hd => ?_, fun d hd => ⟨?_, hA.mv (i + 1), Chg.mv⟩⟩
      · have h1 := pDig_none hd
        omega
      · have h1 := pDig_some hd
        omega
    · exfalso; omega
  · rw [if_neg hww]
    refine x_if_ne (pc := 18) (tgt := 23) hX dX7_takeDigit_18 (by decide) (by omega) (fun h18 => ?_) (fun h18 => ?_)
    · exfalso; omega
    · refine x_iconst (pc := 21) hX dX7_takeDigit_21 ?_
      refine x_iret (pc := 22) hX rfl (Nat.zero_le _) (Nat.zero_le _) dX7_takeDigit_22 ?_
      refine pI_i ⟨fun _ => ⟨rfl, rfl⟩, fun d hd => ?_⟩
      have h1 := pDig_some hd
      omega

set_option maxHeartbeats 4000000 in
set_option maxRecDepth 100000 in
theorem tX7_takeNumber {G : XG} {κ : XKs} {M : XM} {hs : Nat} (hK : KM κ hs) {p : List Nat} {i : Nat} (hA : AtM M p i) (hi : i ≤ 500) : XC G mX7_takeNumber 2 0 0 [xR 140] κ M hs (pI κ hs (fun a M' => (pNum p i = none → a = -1 ∧ M' = M) ∧ ∀ w j, pNum p i = some (w, j) → a = (w : Int) ∧ AtM M' p j ∧ Chg P12 M M')) := by
  refine XC.intro cdX7_takeNumber (by decide) (by decide) (Nat.le_of_ble_eq_true rfl) (loc := [some (xR 140), none]) rfl (fun X hX => ?_)
  have hp2 := hA.1.2.1
  refine x_aload_n (pc := 0) hX rfl rfl dX7_takeNumber_0 ?_
  refine x_bipush (pc := 1) hX (by decide) dX7_takeNumber_1 ?_
  refine x_cV_I (pc := 3) hX (tX7_takeDigit hK hA (by omega) 9 (by decide)) hK.1 rfl lk_X7_176 rfl rfl (Nat.le_of_ble_eq_true rfl) (by decide) (Nat.zero_le _) (Nat.zero_le _) dX7_takeNumber_3 (fun a M2 hp => ?_)
  cases hdd : pDig p i 9
  · obtain ⟨rfl, rfl⟩ := hp.1 hdd
    refine x_istore_n (pc := 6) hX rfl (by decide) rfl rfl dX7_takeNumber_6 ?_
    refine x_iload_n (pc := 7) hX rfl rfl dX7_takeNumber_7 ?_
    refine x_if_le (pc := 8) (tgt := 50) hX dX7_takeNumber_8 (by decide) (by omega) (fun h8 => ?_) (fun h8 => ?_)
    · refine x_iload_n (pc := 50) hX rfl rfl dX7_takeNumber_50 ?_
      refine x_iret (pc := 51) hX rfl (Nat.zero_le _) (Nat.zero_le _) dX7_takeNumber_51 ?_
      exact pI_i ⟨fun _ => ⟨rfl, rfl⟩, fun w j hz => (by unfold pNum at hz; rw [hdd] at hz; cases hz)⟩
    · exfalso; omega
  · rename_i d0
    obtain ⟨rfl, hA2, hq2⟩ := hp.2 d0 hdd
    have h9 := pDig_some hdd
    have hnum : pNum p i = some (pMore p 2 (i + 1) d0) := by unfold pNum; rw [hdd]
    have loop : ∀ (n f j w : Nat) (M1 : XM), f < n → j ≤ p.length → (f = 2 ∧ w ≤ 9 ∨ f = 1 ∧ 10 ≤ w ∧ w ≤ 99 ∨ f = 0 ∧ 100 ≤ w ∧ w ≤ 999) → AtM M1 p j → Chg P12 M M1 → pMore p f j w = pMore p 2 (i + 1) d0 → XW G X mX7_takeNumber (xq G (pI κ hs (fun a M' => (pNum p i = none → a = -1 ∧ M' = M) ∧ ∀ w j, pNum p i = some (w, j) → a = (w : Int) ∧ AtM M' p j ∧ Chg P12 M M')) 0 0 X) 0 0 7 [some (xR 140), some (xI (w : Int))] [] κ M1 hs := by
      intro n
      induction n with
      | zero => intro f j w M1 h1; omega
      | succ n ih =>
        intro f j w M1 h1 hj h3 hA1 hq1 hF
        refine x_iload_n (pc := 7) hX rfl rfl dX7_takeNumber_7 ?_
        refine x_if_le (pc := 8) (tgt := 50) hX dX7_takeNumber_8 (by decide) (by omega) (fun h8 => ?_) (fun h8 => ?_)
        · have hF : (w, j) = pMore p 2 (i + 1) d0 := by
            rw [← hF]
            obtain ⟨f9, rfl⟩ : ∃ f9, f = f9 + 1 := ⟨f - 1, by omega⟩
            rw [pMore, if_neg (by omega)]
          refine x_iload_n (pc := 50) hX rfl rfl dX7_takeNumber_50 ?_
          refine x_iret (pc := 51) hX rfl (Nat.zero_le _) (Nat.zero_le _) dX7_takeNumber_51 ?_
          refine pI_i ⟨fun z => (by rw [hnum] at z; cases z), fun w9 j9 hz => ?_⟩
          rw [hnum, ← hF] at hz
          cases hz
          exact ⟨rfl, hA1, hq1⟩
        · refine x_iload_n (pc := 11) hX rfl rfl dX7_takeNumber_11 ?_
          refine x_bipush (pc := 12) hX (by decide) dX7_takeNumber_12 ?_
          refine x_icmp_ge (pc := 14) (tgt := 50) hX dX7_takeNumber_14 (by decide) (by omega) (fun h14 => ?_) (fun h14 => ?_)
          · have hF : (w, j) = pMore p 2 (i + 1) d0 := by
              rw [← hF]
              obtain rfl : f = 0 := by omega
              rfl
            refine x_iload_n (pc := 50) hX rfl rfl dX7_takeNumber_50 ?_
            refine x_iret (pc := 51) hX rfl (Nat.zero_le _) (Nat.zero_le _) dX7_takeNumber_51 ?_
            refine pI_i ⟨fun z => (by rw [hnum] at z; cases z), fun w9 j9 hz => ?_⟩
            rw [hnum, ← hF] at hz
            cases hz
            exact ⟨rfl, hA1, hq1⟩
          · have hco := chI_or hA1.1 j
            obtain ⟨f, rfl⟩ : ∃ f9, f = f9 + 1 := ⟨f - 1, by omega⟩
            refine x_aload_n (pc := 17) hX rfl rfl dX7_takeNumber_17 ?_
            refine x_aload_n (pc := 18) hX rfl rfl dX7_takeNumber_18 ?_
            refine x_getI (pc := 19) (v := (j : Int)) hX fl_X7_170 hK.1 rfl hA1.2 dX7_takeNumber_19 ?_
            refine x_cV_P (pc := 22) hX (tX7_character hK hA1.1 j (by omega)) hK.1 rfl lk_X7_173 rfl rfl (Nat.le_of_ble_eq_true rfl) (by decide) (Nat.zero_le _) (Nat.zero_le _) dX7_takeNumber_22 ?_
            refine x_bipush (pc := 25) hX (by decide) dX7_takeNumber_25 ?_
            refine x_bipush (pc := 27) hX (by decide) dX7_takeNumber_27 ?_
            refine x_cS_P (pc := 29) hX (tX7_within (chI p j) 48 57 (by unfold InR; omega) (by unfold InR; omega) (by unfold InR; omega)) lk_X7_48 rfl rfl (Nat.le_of_ble_eq_true rfl) (by decide) (Nat.zero_le _) (Nat.zero_le _) dX7_takeNumber_29 ?_
            by_cases hww : 48 ≤ chI p j ∧ chI p j ≤ 57
            · rw [if_pos hww]
              refine x_if_eq (pc := 32) (tgt := 50) hX dX7_takeNumber_32 (by decide) (by omega) (fun h32 => ?_) (fun h32 => ?_)
              · exfalso; omega
              · refine x_bipush (pc := 35) hX (by decide) dX7_takeNumber_35 ?_
                refine x_iload_n (pc := 37) hX rfl rfl dX7_takeNumber_37 ?_
                refine x_imul (pc := 38) hX dX7_takeNumber_38 rfl ?_
                refine x_aload_n (pc := 39) hX rfl rfl dX7_takeNumber_39 ?_
                refine x_bipush (pc := 40) hX (by decide) dX7_takeNumber_40 ?_
                obtain ⟨d, hdj⟩ : ∃ d, pDig p j 9 = some d := by
                  cases hdj : pDig p j 9 with
                  | none =>
                    have h1 := pDig_none hdj
                    omega
                  | some d => exact ⟨d, rfl⟩
                have hd9 := pDig_some hdj
                refine x_cV_I (pc := 42) hX (tX7_takeDigit hK hA1 (by omega) 9 (by decide)) hK.1 rfl lk_X7_176 rfl rfl (Nat.le_of_ble_eq_true rfl) (by decide) (Nat.zero_le _) (Nat.zero_le _) dX7_takeNumber_42 (fun a M2 hp => ?_)
                obtain ⟨rfl, hA2, hq2⟩ := hp.2 d hdj
                refine x_iadd (pc := 45) (v := ((10 * w + d : Nat) : Int)) hX dX7_takeNumber_45 (by omega) ?_
                refine x_istore_n (pc := 46) hX rfl (by decide) rfl rfl dX7_takeNumber_46 ?_
                refine x_goto (pc := 47) (tgt := 7) hX dX7_takeNumber_47 (by decide) ?_
                refine ih f (j + 1) (10 * w + d) M2 (by omega) (by omega) (by omega) hA2 (hq1.tr hq2) ?_
                rw [← hF, pMore, if_pos (by omega), hdj]
            · rw [if_neg hww]
              refine x_if_eq (pc := 32) (tgt := 50) hX dX7_takeNumber_32 (by decide) (by omega) (fun h32 => ?_) (fun h32 => ?_)
              · refine x_iload_n (pc := 50) hX rfl rfl dX7_takeNumber_50 ?_
                refine x_iret (pc := 51) hX rfl (Nat.zero_le _) (Nat.zero_le _) dX7_takeNumber_51 ?_
                have hF : (w, j) = pMore p 2 (i + 1) d0 := by
                  rw [← hF, pMore, if_pos (by omega)]
                  cases hdj : pDig p j 9 with
                  | none => rfl
                  | some d =>
                    have h1 := pDig_some hdj
                    omega
                refine pI_i ⟨fun z => (by rw [hnum] at z; cases z), fun w9 j9 hz => ?_⟩
                rw [hnum, ← hF] at hz
                cases hz
                exact ⟨rfl, hA1, hq1⟩
              · exfalso; omega
    refine x_istore_n (pc := 6) hX rfl (by decide) rfl rfl dX7_takeNumber_6 ?_
    exact loop 3 2 (i + 1) d0 M2 (by omega) (by omega) (by omega) hA2 hq2 rfl

set_option maxHeartbeats 4000000 in
set_option maxRecDepth 100000 in
theorem tX7_readsRuns {G : XG} {κ : XKs} {M : XM} {hs : Nat} (hK : KM κ hs) {p : List Nat} {i : Nat} (hA : AtM M p i) (hi : 2 ≤ i ∧ i ≤ p.length) {res : Option Ru} {jf : Nat} (hR : pRuns p 40 i [] = (res, jf)) : XC G mX7_readsRuns 3 0 0 [xR 140] κ M hs (pI κ hs (fun a M' => AtM M' p jf ∧ Chg PRq M M' ∧ (res = none → a = 0) ∧ ∀ L, res = some L → a = 1 ∧ M' 140 19 = (L.length : Int) ∧ ∀ x, x < L.length → M' 149 x = (rv L x : Int) ∧ M' 150 x = (rn L x : Int))) := by
  refine XC.intro cdX7_readsRuns (by decide) (by decide) (Nat.le_of_ble_eq_true rfl) (loc := [some (xR 140), none, none, none]) rfl (fun X hX => ?_)
  have hp2 := hA.1.2.1
  have loop : ∀ (f j : Nat) (acc : Ru) (z1 z2 : Option XV) (M1 : XM), j ≤ p.length → 82 ≤ j + 2 * f → acc.length + f = 40 → RJ M M1 p j acc → pRuns p f j acc = (res, jf) → XW G X mX7_readsRuns (xq G (pI κ hs (fun a M' => AtM M' p jf ∧ Chg PRq M M' ∧ (res = none → a = 0) ∧ ∀ L, res = some L → a = 1 ∧ M' 140 19 = (L.length : Int) ∧ ∀ x, x < L.length → M' 149 x = (rv L x : Int) ∧ M' 150 x = (rn L x : Int))) 0 0 X) 0 0 7 [some (xR 140), some (xI 1), z1, z2] [] κ M1 hs := by
    intro f
    induction f with
    | zero => intro j acc z1 z2 M1 h1 h2; omega
    | succ f ih =>
      intro j acc z1 z2 M1 h1 h2 h3 J1 hF
      rw [pRuns] at hF
      refine x_iload_n (pc := 7) hX rfl rfl dX7_readsRuns_7 ?_
      refine x_if_eq (pc := 8) (tgt := 90) hX dX7_readsRuns_8 (by decide) (by omega) (fun h8 => ?_) (fun h8 => ?_)
      · exfalso; omega
      · refine x_aload_n (pc := 11) hX rfl rfl dX7_readsRuns_11 ?_
        refine x_bipush (pc := 12) hX (by decide) dX7_readsRuns_12 ?_
        refine x_cV_I (pc := 14) hX (tX7_takeDigit hK J1.1 (by omega) 9 (by decide)) hK.1 rfl lk_X7_176 rfl rfl (Nat.le_of_ble_eq_true rfl) (by decide) (Nat.zero_le _) (Nat.zero_le _) dX7_readsRuns_14 (fun a M2 hp => ?_)
        cases hdd : pDig p j 9
        · obtain ⟨rfl, rfl⟩ := hp.1 hdd
          rw [hdd] at hF
          refine x_istore_n (pc := 17) hX rfl (by decide) rfl rfl dX7_readsRuns_17 ?_
          refine x_iload_n (pc := 18) hX rfl rfl dX7_readsRuns_18 ?_
          refine x_if_ge (pc := 19) (tgt := 26) hX dX7_readsRuns_19 (by decide) (by omega) (fun h19 => ?_) (fun h19 => ?_)
          · exfalso; omega
          · refine x_iconst (pc := 22) hX dX7_readsRuns_22 ?_
            refine x_goto (pc := 23) (tgt := 43) hX dX7_readsRuns_23 (by decide) ?_
            refine x_istore_n (pc := 43) hX rfl (by decide) rfl rfl dX7_readsRuns_43 ?_
            refine x_iload_n (pc := 44) hX rfl rfl dX7_readsRuns_44 ?_
            refine x_if_ge (pc := 45) (tgt := 50) hX dX7_readsRuns_45 (by decide) (by omega) (fun h45 => ?_) (fun h45 => ?_)
            · exfalso; omega
            · refine x_iconst (pc := 48) hX dX7_readsRuns_48 ?_
              refine x_zret (pc := 49) hX rfl (xn_bool (by omega)) (Nat.zero_le _) (Nat.zero_le _) dX7_readsRuns_49 ?_
              cases hF
              exact pI_i ⟨J1.1, J1.2.1, fun _ => rfl, fun L hL => (by cases hL)⟩
        · rename_i v
          obtain ⟨rfl, hA2, hk2⟩ := hp.2 v hdd
          have h9 := pDig_some hdd
          rw [hdd] at hF
          have J2 := J1.kp hA2 hk2
          refine x_istore_n (pc := 17) hX rfl (by decide) rfl rfl dX7_readsRuns_17 ?_
          refine x_iload_n (pc := 18) hX rfl rfl dX7_readsRuns_18 ?_
          refine x_if_ge (pc := 19) (tgt := 26) hX dX7_readsRuns_19 (by decide) (by omega) (fun h19 => ?_) (fun h19 => ?_)
          · refine x_aload_n (pc := 26) hX rfl rfl dX7_readsRuns_26 ?_
            refine x_bipush (pc := 27) hX (by decide) dX7_readsRuns_27 ?_
            refine x_cV_I (pc := 29) hX (tX7_isNext hK J2.1 (by omega) 42 (by decide)) hK.1 rfl lk_X7_182 rfl rfl (Nat.le_of_ble_eq_true rfl) (by decide) (Nat.zero_le _) (Nat.zero_le _) dX7_readsRuns_29 (fun a M3 hp => ?_)
            by_cases hst : chr p (j + 1) = 42
            · obtain ⟨rfl, hA3, hk3⟩ := hp.1 hst
              have J3 := J2.kp hA3 hk3
              have hle : pLen p (j + 1) = pNum p (j + 2) := if_pos hst
              refine x_if_eq (pc := 32) (tgt := 42) hX dX7_readsRuns_32 (by decide) (by omega) (fun h32 => ?_) (fun h32 => ?_)
              · exfalso; omega
              · refine x_aload_n (pc := 35) hX rfl rfl dX7_readsRuns_35 ?_
                refine x_cV_I (pc := 36) hX (tX7_takeNumber hK J3.1 (by omega)) hK.1 rfl lk_X7_185 rfl rfl (Nat.le_of_ble_eq_true rfl) (by decide) (Nat.zero_le _) (Nat.zero_le _) dX7_readsRuns_36 (fun a M4 hp => ?_)
                cases hnn : pNum p (j + 1 + 1)
                · obtain ⟨rfl, rfl⟩ := hp.1 hnn
                  rw [hle, hnn] at hF
                  refine x_goto (pc := 39) (tgt := 43) hX dX7_readsRuns_39 (by decide) ?_
                  refine x_istore_n (pc := 43) hX rfl (by decide) rfl rfl dX7_readsRuns_43 ?_
                  refine x_iload_n (pc := 44) hX rfl rfl dX7_readsRuns_44 ?_
                  refine x_if_ge (pc := 45) (tgt := 50) hX dX7_readsRuns_45 (by decide) (by omega) (fun h45 => ?_) (fun h45 => ?_)
                  · exfalso; omega
                  · refine x_iconst (pc := 48) hX dX7_readsRuns_48 ?_
                    refine x_zret (pc := 49) hX rfl (xn_bool (by omega)) (Nat.zero_le _) (Nat.zero_le _) dX7_readsRuns_49 ?_
                    cases hF
                    exact pI_i ⟨J3.1, J3.2.1, fun _ => rfl, fun L hL => (by cases hL)⟩
                · rename_i q
                  obtain ⟨w, j9⟩ := q
                  obtain ⟨rfl, hA4, hk4⟩ := hp.2 w j9 hnn
                  have hj9 := pNum_some hnn
                  rw [hle, hnn] at hF
                  have hF : (if chr p j9 = 44 then pRuns p f (j9 + 1) (acc ++ [(v, w)]) else (some (acc ++ [(v, w)]), j9)) = (res, jf) := hF
                  have JN := J3.kp hA4 hk4
                  generalize M4 = MN at JN
                  refine x_goto (pc := 39) (tgt := 43) hX dX7_readsRuns_39 (by decide) ?_
                  refine x_istore_n (pc := 43) hX rfl (by decide) rfl rfl dX7_readsRuns_43 ?_
                  refine x_iload_n (pc := 44) hX rfl rfl dX7_readsRuns_44 ?_
                  refine x_if_ge (pc := 45) (tgt := 50) hX dX7_readsRuns_45 (by decide) (by omega) (fun h45 => ?_) (fun h45 => ?_)
                  · refine x_aload_n (pc := 50) hX rfl rfl dX7_readsRuns_50 ?_
                    refine x_getR (pc := 51) hX fl_X7_34 hK.1 rfl dX7_readsRuns_51 ?_
                    refine x_aload_n (pc := 54) hX rfl rfl dX7_readsRuns_54 ?_
                    refine x_getI (pc := 55) (v := (acc.length : Int)) hX fl_X7_179 hK.1 rfl JN.2.2.1 dX7_readsRuns_55 ?_
                    refine x_iload_n (pc := 58) hX rfl rfl dX7_readsRuns_58 ?_
                    refine x_iast (pc := 59) (j := acc.length) hX hK.2.2.2.2.2.2.2.2.2.1 (by omega) (by omega) (by decide) dX7_readsRuns_59 ?_
                    refine x_aload_n (pc := 60) hX rfl rfl dX7_readsRuns_60 ?_
                    refine x_getR (pc := 61) hX fl_X7_37 hK.1 rfl dX7_readsRuns_61 ?_
                    refine x_aload_n (pc := 64) hX rfl rfl dX7_readsRuns_64 ?_
                    refine x_getI (pc := 65) (v := (acc.length : Int)) hX fl_X7_179 hK.1 rfl (by rw [mput_ne _ _ _ (by decide)]; exact JN.2.2.1) dX7_readsRuns_65 ?_
                    refine x_iload_n (pc := 68) hX rfl rfl dX7_readsRuns_68 ?_
                    refine x_iast (pc := 69) (j := acc.length) hX hK.2.2.2.2.2.2.2.2.2.2 (by omega) (by omega) (by decide) dX7_readsRuns_69 ?_
                    refine x_aload_n (pc := 70) hX rfl rfl dX7_readsRuns_70 ?_
                    refine x_dup (pc := 71) hX rfl dX7_readsRuns_71 ?_
                    refine x_getI (pc := 72) (v := (acc.length : Int)) hX fl_X7_179 hK.1 rfl (by rw [mput_ne _ _ _ (by decide), mput_ne _ _ _ (by decide)]; exact JN.2.2.1) dX7_readsRuns_72 ?_
                    refine x_iconst (pc := 75) hX dX7_readsRuns_75 ?_
                    refine x_iadd (pc := 76) (v := ((acc.length + 1 : Nat) : Int)) hX dX7_readsRuns_76 (by omega) ?_
                    refine x_putI (pc := 77) hX fl_X7_179 hK.1 rfl rfl rfl dX7_readsRuns_77 ?_
                    have J8 := JN.add (v := v) (w := w)
                    refine x_aload_n (pc := 80) hX rfl rfl dX7_readsRuns_80 ?_
                    refine x_bipush (pc := 81) hX (by decide) dX7_readsRuns_81 ?_
                    refine x_cV_I (pc := 83) hX (tX7_isNext hK J8.1 (by omega) 44 (by decide)) hK.1 rfl lk_X7_182 rfl rfl (Nat.le_of_ble_eq_true rfl) (by decide) (Nat.zero_le _) (Nat.zero_le _) dX7_readsRuns_83 (fun a M9 hp => ?_)
                    by_cases hcm : chr p j9 = 44
                    · obtain ⟨rfl, hA9, hk9⟩ := hp.1 hcm
                      rw [if_pos hcm] at hF
                      have hj3 := chr_lt (show chr p j9 ≠ 0 by omega)
                      refine x_istore_n (pc := 86) hX rfl (by decide) rfl rfl dX7_readsRuns_86 ?_
                      refine x_goto (pc := 87) (tgt := 7) hX dX7_readsRuns_87 (by decide) ?_
                      exact ih (j9 + 1) (acc ++ [(v, w)]) _ _ M9 (by omega) (by omega) (by rw [List.length_append]; show acc.length + 1 + f = 40; omega) (J8.kp hA9 hk9) hF
                    · obtain ⟨rfl, hA9, hk9⟩ := hp.2 hcm
                      rw [if_neg hcm] at hF
                      cases hF
                      have J9 := J8.kp hA9 hk9
                      refine x_istore_n (pc := 86) hX rfl (by decide) rfl rfl dX7_readsRuns_86 ?_
                      refine x_goto (pc := 87) (tgt := 7) hX dX7_readsRuns_87 (by decide) ?_
                      refine x_iload_n (pc := 7) hX rfl rfl dX7_readsRuns_7 ?_
                      refine x_if_eq (pc := 8) (tgt := 90) hX dX7_readsRuns_8 (by decide) (by omega) (fun h8 => ?_) (fun h8 => ?_)
                      · refine x_iconst (pc := 90) hX dX7_readsRuns_90 ?_
                        refine x_zret (pc := 91) hX rfl (xn_bool (by omega)) (Nat.zero_le _) (Nat.zero_le _) dX7_readsRuns_91 ?_
                        refine pI_i ⟨J9.1, J9.2.1, fun z => (by cases z), fun L hL => ?_⟩
                        cases hL
                        exact ⟨rfl, J9.2.2⟩
                      · exfalso; omega
                  · exfalso; omega
            · obtain ⟨rfl, hA3, hk3⟩ := hp.2 hst
              have J3 := J2.kp hA3 hk3
              have hle : pLen p (j + 1) = some (1, j + 1) := if_neg hst
              rw [hle] at hF
              obtain ⟨w, hw⟩ : ∃ w : Nat, w = 1 := ⟨1, rfl⟩
              obtain ⟨j9, hj9⟩ : ∃ j9 : Nat, j9 = j + 1 := ⟨_, rfl⟩
              have hF : (if chr p j9 = 44 then pRuns p f (j9 + 1) (acc ++ [(v, w)]) else (some (acc ++ [(v, w)]), j9)) = (res, jf) := by rw [hw, hj9]; exact hF
              have JN := J3
              rw [← hj9] at JN
              generalize M3 = MN at JN
              refine x_if_eq (pc := 32) (tgt := 42) hX dX7_readsRuns_32 (by decide) (by omega) (fun h32 => ?_) (fun h32 => ?_)
              · refine x_iconst (pc := 42) hX dX7_readsRuns_42 ?_
                refine x_top (congrArg xI (show (1 : Int) = (w : Int) by omega)) ?_
                refine x_istore_n (pc := 43) hX rfl (by decide) rfl rfl dX7_readsRuns_43 ?_
                refine x_iload_n (pc := 44) hX rfl rfl dX7_readsRuns_44 ?_
                refine x_if_ge (pc := 45) (tgt := 50) hX dX7_readsRuns_45 (by decide) (by omega) (fun h45 => ?_) (fun h45 => ?_)
                · refine x_aload_n (pc := 50) hX rfl rfl dX7_readsRuns_50 ?_
                  refine x_getR (pc := 51) hX fl_X7_34 hK.1 rfl dX7_readsRuns_51 ?_
                  refine x_aload_n (pc := 54) hX rfl rfl dX7_readsRuns_54 ?_
                  refine x_getI (pc := 55) (v := (acc.length : Int)) hX fl_X7_179 hK.1 rfl JN.2.2.1 dX7_readsRuns_55 ?_
                  refine x_iload_n (pc := 58) hX rfl rfl dX7_readsRuns_58 ?_
                  refine x_iast (pc := 59) (j := acc.length) hX hK.2.2.2.2.2.2.2.2.2.1 (by omega) (by omega) (by decide) dX7_readsRuns_59 ?_
                  refine x_aload_n (pc := 60) hX rfl rfl dX7_readsRuns_60 ?_
                  refine x_getR (pc := 61) hX fl_X7_37 hK.1 rfl dX7_readsRuns_61 ?_
                  refine x_aload_n (pc := 64) hX rfl rfl dX7_readsRuns_64 ?_
                  refine x_getI (pc := 65) (v := (acc.length : Int)) hX fl_X7_179 hK.1 rfl (by rw [mput_ne _ _ _ (by decide)]; exact JN.2.2.1) dX7_readsRuns_65 ?_
                  refine x_iload_n (pc := 68) hX rfl rfl dX7_readsRuns_68 ?_
                  refine x_iast (pc := 69) (j := acc.length) hX hK.2.2.2.2.2.2.2.2.2.2 (by omega) (by omega) (by decide) dX7_readsRuns_69 ?_
                  refine x_aload_n (pc := 70) hX rfl rfl dX7_readsRuns_70 ?_
                  refine x_dup (pc := 71) hX rfl dX7_readsRuns_71 ?_
                  refine x_getI (pc := 72) (v := (acc.length : Int)) hX fl_X7_179 hK.1 rfl (by rw [mput_ne _ _ _ (by decide), mput_ne _ _ _ (by decide)]; exact JN.2.2.1) dX7_readsRuns_72 ?_
                  refine x_iconst (pc := 75) hX dX7_readsRuns_75 ?_
                  refine x_iadd (pc := 76) (v := ((acc.length + 1 : Nat) : Int)) hX dX7_readsRuns_76 (by omega) ?_
                  refine x_putI (pc := 77) hX fl_X7_179 hK.1 rfl rfl rfl dX7_readsRuns_77 ?_
                  have J8 := JN.add (v := v) (w := w)
                  refine x_aload_n (pc := 80) hX rfl rfl dX7_readsRuns_80 ?_
                  refine x_bipush (pc := 81) hX (by decide) dX7_readsRuns_81 ?_
                  refine x_cV_I (pc := 83) hX (tX7_isNext hK J8.1 (by omega) 44 (by decide)) hK.1 rfl lk_X7_182 rfl rfl (Nat.le_of_ble_eq_true rfl) (by decide) (Nat.zero_le _) (Nat.zero_le _) dX7_readsRuns_83 (fun a M9 hp => ?_)
                  by_cases hcm : chr p j9 = 44
                  · obtain ⟨rfl, hA9, hk9⟩ := hp.1 hcm
                    rw [if_pos hcm] at hF
                    have hj3 := chr_lt (show chr p j9 ≠ 0 by omega)
                    refine x_istore_n (pc := 86) hX rfl (by decide) rfl rfl dX7_readsRuns_86 ?_
                    refine x_goto (pc := 87) (tgt := 7) hX dX7_readsRuns_87 (by decide) ?_
                    exact ih (j9 + 1) (acc ++ [(v, w)]) _ _ M9 (by omega) (by omega) (by rw [List.length_append]; show acc.length + 1 + f = 40; omega) (J8.kp hA9 hk9) hF
                  · obtain ⟨rfl, hA9, hk9⟩ := hp.2 hcm
                    rw [if_neg hcm] at hF
                    cases hF
                    have J9 := J8.kp hA9 hk9
                    refine x_istore_n (pc := 86) hX rfl (by decide) rfl rfl dX7_readsRuns_86 ?_
                    refine x_goto (pc := 87) (tgt := 7) hX dX7_readsRuns_87 (by decide) ?_
                    refine x_iload_n (pc := 7) hX rfl rfl dX7_readsRuns_7 ?_
                    refine x_if_eq (pc := 8) (tgt := 90) hX dX7_readsRuns_8 (by decide) (by omega) (fun h8 => ?_) (fun h8 => ?_)
                    · refine x_iconst (pc := 90) hX dX7_readsRuns_90 ?_
                      refine x_zret (pc := 91) hX rfl (xn_bool (by omega)) (Nat.zero_le _) (Nat.zero_le _) dX7_readsRuns_91 ?_
                      refine pI_i ⟨J9.1, J9.2.1, fun z => (by cases z), fun L hL => ?_⟩
                      cases hL
                      exact ⟨rfl, J9.2.2⟩
                    · exfalso; omega
                · exfalso; omega
              · exfalso; omega
          · exfalso; omega
  refine x_aload_n (pc := 0) hX rfl rfl dX7_readsRuns_0 ?_
  refine x_iconst (pc := 1) hX dX7_readsRuns_1 ?_
  refine x_putI (pc := 2) hX fl_X7_179 hK.1 rfl rfl rfl dX7_readsRuns_2 ?_
  refine x_iconst (pc := 5) hX dX7_readsRuns_5 ?_
  refine x_istore_n (pc := 6) hX rfl (by decide) rfl rfl dX7_readsRuns_6 ?_
  exact loop 40 i [] none none _ (by omega) (by omega) rfl ⟨hA.fld (by decide), Chg.put (by unfold PRq; omega), mp_eq _ _ _ _, fun x hx => absurd hx (Nat.not_lt_zero _)⟩ hR

set_option maxHeartbeats 4000000 in
set_option maxRecDepth 100000 in
theorem tX7_readsRest {G : XG} {κ : XKs} {M : XM} {hs : Nat} (hK : KM κ hs) {p : List Nat} {i : Nat} (hA : AtM M p i) (hi : 2 ≤ i ∧ i ≤ 100) (c k : Nat) (lt : Int) (hlt : M 140 14 = lt) (hlk : (k = 0 ∧ lt = -1) ∨ (33 ≤ k ∧ k ≤ 126 ∧ lt = (k : Int))) (hip : k ≠ 0 → i ≤ p.length) {res : Option Od} {jf : Nat} (hR : pRest p c k i = (res, jf)) : XC G mX7_readsRest 4 0 0 [xR 140] κ M hs (pI κ hs (fun a M' => AtM M' p jf ∧ Chg PRq M M' ∧ (res = none → a = 0) ∧ ∀ od, res = some od → a = 1 ∧ od.1 = c ∧ od.2.1 = k ∧ (od.2.1 = 61 ∨ od.2.1 = 43 → M' 140 19 = (od.2.2.2.2.length : Int) ∧ ∀ x, x < od.2.2.2.2.length → M' 149 x = (rv od.2.2.2.2 x : Int) ∧ M' 150 x = (rn od.2.2.2.2 x : Int)) ∧ (od.2.1 = 45 ∨ od.2.1 = 64 → M' 140 15 = (od.2.2.1 : Int) ∧ M' 140 16 = (od.2.2.2.1 : Int)))) := by
  refine XC.intro cdX7_readsRest (by decide) (by decide) (Nat.le_of_ble_eq_true rfl) (loc := [some (xR 140)]) rfl (fun X hX => ?_)
  have hp2 := hA.1.2.1
  have hF := hR
  have hlr : -1 ≤ lt ∧ lt ≤ 126 := by omega
  have hkl : (k = 0 ∧ lt = -1) ∨ (33 ≤ k ∧ k ≤ 126 ∧ lt = (k : Int)) := by omega
  refine x_aload_n (pc := 0) hX rfl rfl dX7_readsRest_0 ?_
  refine x_getI (pc := 1) (v := lt) hX fl_X7_188 hK.1 rfl hlt dX7_readsRest_1 ?_
  rcases (show (k = 61 ∨ k = 43) ∨ k = 45 ∨ k = 64 ∨ k = 33 ∨ (k ≠ 61 ∧ k ≠ 43 ∧ k ≠ 45 ∧ k ≠ 64 ∧ k ≠ 33) by omega) with hkk | hkk | hkk | hkk | hkk
  · rw [pRest_eq hkk] at hF
    refine x_lookup (pc := 4) (off := 52) (tgt := 56) hX dX7_readsRest_4 (by decide) (by omega) (by show (if (33 : Int) = lt then (57 : Int) else if (43 : Int) = lt then (52 : Int) else if (45 : Int) = lt then (59 : Int) else if (61 : Int) = lt then (52 : Int) else if (64 : Int) = lt then (108 : Int) else 159) = 52; (repeat' split) <;> omega) (by decide) ?_
    refine x_aload_n (pc := 56) hX rfl rfl dX7_readsRest_56 ?_
    rcases hrr : pRuns p 40 i [] with ⟨rr, j7⟩
    rw [hrr] at hF
    refine x_cV_I (pc := 57) hX (tX7_readsRuns hK hA ⟨hi.1, hip (by omega)⟩ hrr) hK.1 rfl lk_X7_191 rfl rfl (Nat.le_of_ble_eq_true rfl) (by decide) (Nat.zero_le _) (Nat.zero_le _) dX7_readsRest_57 (fun a M7 hp => ?_)
    obtain ⟨hA7, hq7, hn7, hL7⟩ := hp
    have h01 : a = 0 ∨ a = 1 := by
      cases rr with
      | none => exact Or.inl (hn7 rfl)
      | some L => exact Or.inr (hL7 L rfl).1
    refine x_zret (pc := 60) hX rfl (xn_bool h01) (Nat.zero_le _) (Nat.zero_le _) dX7_readsRest_60 ?_
    cases rr with
    | none =>
      cases hF
      exact pI_i ⟨hA7, hq7, fun _ => hn7 rfl, fun L hL => (by cases hL)⟩
    | some L =>
      cases hF
      refine pI_i ⟨hA7, hq7, fun z => (by cases z), fun od hod => ?_⟩
      cases hod
      obtain ⟨h71, h72⟩ := hL7 L rfl
      exact ⟨h71, rfl, rfl, fun _ => h72, fun z => absurd z (by show ¬ (k = 45 ∨ k = 64); omega)⟩
  · subst hkk
    rw [pRest_45] at hF
    refine x_lookup (pc := 4) (off := 59) (tgt := 63) hX dX7_readsRest_4 (by decide) (by omega) (by show (if (33 : Int) = lt then (57 : Int) else if (43 : Int) = lt then (52 : Int) else if (45 : Int) = lt then (59 : Int) else if (61 : Int) = lt then (52 : Int) else if (64 : Int) = lt then (108 : Int) else 159) = 59; (repeat' split) <;> omega) (by decide) ?_
    refine x_aload_n (pc := 63) hX rfl rfl dX7_readsRest_63 ?_
    refine x_aload_n (pc := 64) hX rfl rfl dX7_readsRest_64 ?_
    refine x_cV_I (pc := 65) hX (tX7_takeNumber hK hA (by omega)) hK.1 rfl lk_X7_185 rfl rfl (Nat.le_of_ble_eq_true rfl) (by decide) (Nat.zero_le _) (Nat.zero_le _) dX7_readsRest_65 (fun a M2 hp => ?_)
    rcases hnn : pNum p i with _ | ⟨r, j⟩
    · obtain ⟨rfl, rfl⟩ := hp.1 hnn
      rw [hnn] at hF
      refine x_putI (pc := 68) hX fl_X7_194 hK.1 rfl rfl rfl dX7_readsRest_68 ?_
      have hA3 := AtM.fld (f := 15) (v := -1) hA (by decide)
      have hq3 := Chg.put (P := PRq) (M := M2) (a := 140) (j := 15) (v := -1) (by unfold PRq; omega)
      refine x_aload_n (pc := 71) hX rfl rfl dX7_readsRest_71 ?_
      refine x_aload_n (pc := 72) hX rfl rfl dX7_readsRest_72 ?_
      refine x_getI (pc := 73) (v := (-1 : Int)) hX fl_X7_194 hK.1 rfl (mp_eq _ _ _ _) dX7_readsRest_73 ?_
      refine x_if_lt (pc := 76) (tgt := 95) hX dX7_readsRest_76 (by decide) (by omega) (fun h76 => ?_) (fun h76 => ?_)
      · refine x_iconst (pc := 95) hX dX7_readsRest_95 ?_
        refine x_putI (pc := 96) hX fl_X7_197 hK.1 rfl rfl rfl dX7_readsRest_96 ?_
        have hA9 := AtM.fld (f := 16) (v := -1) hA3 (by decide)
        have hq9 := hq3.tr (Chg.put (P := PRq) (M := _) (a := 140) (j := 16) (v := -1) (by unfold PRq; omega))
        refine x_aload_n (pc := 99) hX rfl rfl dX7_readsRest_99 ?_
        refine x_getI (pc := 100) (v := (-1 : Int)) hX fl_X7_197 hK.1 rfl (mp_eq _ _ _ _) dX7_readsRest_100 ?_
        refine x_if_lt (pc := 103) (tgt := 110) hX dX7_readsRest_103 (by decide) (by omega) (fun h103 => ?_) (fun h103 => ?_)
        · refine x_iconst (pc := 110) hX dX7_readsRest_110 ?_
          refine x_zret (pc := 111) hX rfl (xn_bool (by omega)) (Nat.zero_le _) (Nat.zero_le _) dX7_readsRest_111 ?_
          cases hF
          exact pI_i ⟨hA9, hq9, fun _ => rfl, fun od hod => (by cases hod)⟩
        · exfalso; omega
      · exfalso; omega
    · obtain ⟨rfl, hA2, hq2⟩ := hp.2 r j hnn
      have hj := pNum_some hnn
      rw [hnn] at hF
      dsimp only at hF
      refine x_putI (pc := 68) hX fl_X7_194 hK.1 rfl rfl rfl dX7_readsRest_68 ?_
      have hA3 := AtM.fld (f := 15) (v := (r : Int)) hA2 (by decide)
      have hq3 := (hq2.mono (fun _ _ => P12.rq)).tr (Chg.put (P := PRq) (M := M2) (a := 140) (j := 15) (v := (r : Int)) (by unfold PRq; omega))
      have hr3 := mp_eq M2 140 15 (r : Int)
      refine x_aload_n (pc := 71) hX rfl rfl dX7_readsRest_71 ?_
      refine x_aload_n (pc := 72) hX rfl rfl dX7_readsRest_72 ?_
      refine x_getI (pc := 73) (v := (r : Int)) hX fl_X7_194 hK.1 rfl hr3 dX7_readsRest_73 ?_
      refine x_if_lt (pc := 76) (tgt := 95) hX dX7_readsRest_76 (by decide) (by omega) (fun h76 => ?_) (fun h76 => ?_)
      · exfalso; omega
      · refine x_aload_n (pc := 79) hX rfl rfl dX7_readsRest_79 ?_
        refine x_bipush (pc := 80) hX (by decide) dX7_readsRest_80 ?_
        refine x_cV_I (pc := 82) hX (tX7_isNext hK hA3 (by omega) 42 (by decide)) hK.1 rfl lk_X7_182 rfl rfl (Nat.le_of_ble_eq_true rfl) (by decide) (Nat.zero_le _) (Nat.zero_le _) dX7_readsRest_82 (fun a M4 hp => ?_)
        by_cases hst : chr p j = 42
        · obtain ⟨rfl, hA4, hk4⟩ := hp.1 hst
          rw [if_pos hst] at hF
          have hq4 := hq3.tr (hk4.mono (fun _ _ => P12.rq))
          have hr4 : M4 140 15 = (r : Int) := by rw [hk4.at (by unfold P12; omega)]; exact hr3
          have hjl := chr_lt (show chr p j ≠ 0 by omega)
          refine x_if_eq (pc := 85) (tgt := 95) hX dX7_readsRest_85 (by decide) (by omega) (fun h85 => ?_) (fun h85 => ?_)
          · exfalso; omega
          · refine x_aload_n (pc := 88) hX rfl rfl dX7_readsRest_88 ?_
            refine x_cV_I (pc := 89) hX (tX7_takeNumber hK hA4 (by omega)) hK.1 rfl lk_X7_185 rfl rfl (Nat.le_of_ble_eq_true rfl) (by decide) (Nat.zero_le _) (Nat.zero_le _) dX7_readsRest_89 (fun a M5 hp => ?_)
            rcases hnb : pNum p (j + 1) with _ | ⟨w, j5⟩
            · obtain ⟨rfl, rfl⟩ := hp.1 hnb
              rw [hnb] at hF
              refine x_goto (pc := 92) (tgt := 96) hX dX7_readsRest_92 (by decide) ?_
              refine x_putI (pc := 96) hX fl_X7_197 hK.1 rfl rfl rfl dX7_readsRest_96 ?_
              have hA9 := AtM.fld (f := 16) (v := -1) hA4 (by decide)
              have hq9 := hq4.tr (Chg.put (P := PRq) (M := _) (a := 140) (j := 16) (v := -1) (by unfold PRq; omega))
              refine x_aload_n (pc := 99) hX rfl rfl dX7_readsRest_99 ?_
              refine x_getI (pc := 100) (v := (-1 : Int)) hX fl_X7_197 hK.1 rfl (mp_eq _ _ _ _) dX7_readsRest_100 ?_
              refine x_if_lt (pc := 103) (tgt := 110) hX dX7_readsRest_103 (by decide) (by omega) (fun h103 => ?_) (fun h103 => ?_)
              · refine x_iconst (pc := 110) hX dX7_readsRest_110 ?_
                refine x_zret (pc := 111) hX rfl (xn_bool (by omega)) (Nat.zero_le _) (Nat.zero_le _) dX7_readsRest_111 ?_
                cases hF
                exact pI_i ⟨hA9, hq9, fun _ => rfl, fun od hod => (by cases hod)⟩
              · exfalso; omega
            · obtain ⟨rfl, hA5, hk5⟩ := hp.2 w j5 hnb
              have hw9 := pNum_some hnb
              rw [hnb] at hF
              have hr5 : M5 140 15 = (r : Int) := by rw [hk5.at (by unfold P12; omega)]; exact hr4
              refine x_goto (pc := 92) (tgt := 96) hX dX7_readsRest_92 (by decide) ?_
              refine x_putI (pc := 96) hX fl_X7_197 hK.1 rfl rfl rfl dX7_readsRest_96 ?_
              have hA9 := AtM.fld (f := 16) (v := (w : Int)) hA5 (by decide)
              have hq9 := (hq4.tr (hk5.mono (fun _ _ => P12.rq))).tr (Chg.put (P := PRq) (M := M5) (a := 140) (j := 16) (v := (w : Int)) (by unfold PRq; omega))
              refine x_aload_n (pc := 99) hX rfl rfl dX7_readsRest_99 ?_
              refine x_getI (pc := 100) (v := (w : Int)) hX fl_X7_197 hK.1 rfl (mp_eq _ _ _ _) dX7_readsRest_100 ?_
              refine x_if_lt (pc := 103) (tgt := 110) hX dX7_readsRest_103 (by decide) (by omega) (fun h103 => ?_) (fun h103 => ?_)
              · exfalso; omega
              · refine x_iconst (pc := 106) hX dX7_readsRest_106 ?_
                refine x_goto (pc := 107) (tgt := 111) hX dX7_readsRest_107 (by decide) ?_
                refine x_zret (pc := 111) hX rfl (xn_bool (by omega)) (Nat.zero_le _) (Nat.zero_le _) dX7_readsRest_111 ?_
                cases hF
                refine pI_i ⟨hA9, hq9, fun z => (by cases z), fun od hod => ?_⟩
                cases hod
                exact ⟨rfl, rfl, rfl, fun z => absurd z (show ¬ ((45 : Nat) = 61 ∨ (45 : Nat) = 43) by decide), fun _ => ⟨by rw [mp_ne _ _ (by decide)]; exact hr5, mp_eq _ _ _ _⟩⟩
        · obtain ⟨rfl, hA4, hk4⟩ := hp.2 hst
          rw [if_neg hst] at hF
          have hq4 := hq3.tr (hk4.mono (fun _ _ => P12.rq))
          refine x_if_eq (pc := 85) (tgt := 95) hX dX7_readsRest_85 (by decide) (by omega) (fun h85 => ?_) (fun h85 => ?_)
          · refine x_iconst (pc := 95) hX dX7_readsRest_95 ?_
            refine x_putI (pc := 96) hX fl_X7_197 hK.1 rfl rfl rfl dX7_readsRest_96 ?_
            have hA9 := AtM.fld (f := 16) (v := -1) hA4 (by decide)
            have hq9 := hq4.tr (Chg.put (P := PRq) (M := _) (a := 140) (j := 16) (v := -1) (by unfold PRq; omega))
            refine x_aload_n (pc := 99) hX rfl rfl dX7_readsRest_99 ?_
            refine x_getI (pc := 100) (v := (-1 : Int)) hX fl_X7_197 hK.1 rfl (mp_eq _ _ _ _) dX7_readsRest_100 ?_
            refine x_if_lt (pc := 103) (tgt := 110) hX dX7_readsRest_103 (by decide) (by omega) (fun h103 => ?_) (fun h103 => ?_)
            · refine x_iconst (pc := 110) hX dX7_readsRest_110 ?_
              refine x_zret (pc := 111) hX rfl (xn_bool (by omega)) (Nat.zero_le _) (Nat.zero_le _) dX7_readsRest_111 ?_
              cases hF
              exact pI_i ⟨hA9, hq9, fun _ => rfl, fun od hod => (by cases hod)⟩
            · exfalso; omega
          · exfalso; omega
  · subst hkk
    rw [pRest_64] at hF
    refine x_lookup (pc := 4) (off := 108) (tgt := 112) hX dX7_readsRest_4 (by decide) (by omega) (by show (if (33 : Int) = lt then (57 : Int) else if (43 : Int) = lt then (52 : Int) else if (45 : Int) = lt then (59 : Int) else if (61 : Int) = lt then (52 : Int) else if (64 : Int) = lt then (108 : Int) else 159) = 108; (repeat' split) <;> omega) (by decide) ?_
    refine x_aload_n (pc := 112) hX rfl rfl dX7_readsRest_112 ?_
    refine x_aload_n (pc := 113) hX rfl rfl dX7_readsRest_113 ?_
    refine x_cV_I (pc := 114) hX (tX7_takeNumber hK hA (by omega)) hK.1 rfl lk_X7_185 rfl rfl (Nat.le_of_ble_eq_true rfl) (by decide) (Nat.zero_le _) (Nat.zero_le _) dX7_readsRest_114 (fun a M2 hp => ?_)
    rcases hnn : pNum p i with _ | ⟨r, j⟩
    · obtain ⟨rfl, rfl⟩ := hp.1 hnn
      rw [hnn] at hF
      refine x_putI (pc := 117) hX fl_X7_194 hK.1 rfl rfl rfl dX7_readsRest_117 ?_
      have hA3 := AtM.fld (f := 15) (v := -1) hA (by decide)
      have hq3 := Chg.put (P := PRq) (M := M2) (a := 140) (j := 15) (v := -1) (by unfold PRq; omega)
      refine x_aload_n (pc := 120) hX rfl rfl dX7_readsRest_120 ?_
      refine x_aload_n (pc := 121) hX rfl rfl dX7_readsRest_121 ?_
      refine x_getI (pc := 122) (v := (-1 : Int)) hX fl_X7_194 hK.1 rfl (mp_eq _ _ _ _) dX7_readsRest_122 ?_
      refine x_if_lt (pc := 125) (tgt := 146) hX dX7_readsRest_125 (by decide) (by omega) (fun h125 => ?_) (fun h125 => ?_)
      · refine x_iconst (pc := 146) hX dX7_readsRest_146 ?_
        refine x_putI (pc := 147) hX fl_X7_197 hK.1 rfl rfl rfl dX7_readsRest_147 ?_
        have hA9 := AtM.fld (f := 16) (v := -1) hA3 (by decide)
        have hq9 := hq3.tr (Chg.put (P := PRq) (M := _) (a := 140) (j := 16) (v := -1) (by unfold PRq; omega))
        refine x_aload_n (pc := 150) hX rfl rfl dX7_readsRest_150 ?_
        refine x_getI (pc := 151) (v := (-1 : Int)) hX fl_X7_197 hK.1 rfl (mp_eq _ _ _ _) dX7_readsRest_151 ?_
        refine x_if_lt (pc := 154) (tgt := 161) hX dX7_readsRest_154 (by decide) (by omega) (fun h154 => ?_) (fun h154 => ?_)
        · refine x_iconst (pc := 161) hX dX7_readsRest_161 ?_
          refine x_zret (pc := 162) hX rfl (xn_bool (by omega)) (Nat.zero_le _) (Nat.zero_le _) dX7_readsRest_162 ?_
          cases hF
          exact pI_i ⟨hA9, hq9, fun _ => rfl, fun od hod => (by cases hod)⟩
        · exfalso; omega
      · exfalso; omega
    · obtain ⟨rfl, hA2, hq2⟩ := hp.2 r j hnn
      have hj := pNum_some hnn
      rw [hnn] at hF
      dsimp only at hF
      refine x_putI (pc := 117) hX fl_X7_194 hK.1 rfl rfl rfl dX7_readsRest_117 ?_
      have hA3 := AtM.fld (f := 15) (v := (r : Int)) hA2 (by decide)
      have hq3 := (hq2.mono (fun _ _ => P12.rq)).tr (Chg.put (P := PRq) (M := M2) (a := 140) (j := 15) (v := (r : Int)) (by unfold PRq; omega))
      have hr3 := mp_eq M2 140 15 (r : Int)
      refine x_aload_n (pc := 120) hX rfl rfl dX7_readsRest_120 ?_
      refine x_aload_n (pc := 121) hX rfl rfl dX7_readsRest_121 ?_
      refine x_getI (pc := 122) (v := (r : Int)) hX fl_X7_194 hK.1 rfl hr3 dX7_readsRest_122 ?_
      refine x_if_lt (pc := 125) (tgt := 146) hX dX7_readsRest_125 (by decide) (by omega) (fun h125 => ?_) (fun h125 => ?_)
      · exfalso; omega
      · refine x_aload_n (pc := 128) hX rfl rfl dX7_readsRest_128 ?_
        refine x_bipush (pc := 129) hX (by decide) dX7_readsRest_129 ?_
        refine x_cV_I (pc := 131) hX (tX7_isNext hK hA3 (by omega) 61 (by decide)) hK.1 rfl lk_X7_182 rfl rfl (Nat.le_of_ble_eq_true rfl) (by decide) (Nat.zero_le _) (Nat.zero_le _) dX7_readsRest_131 (fun a M4 hp => ?_)
        by_cases hst : chr p j = 61
        · obtain ⟨rfl, hA4, hk4⟩ := hp.1 hst
          rw [if_pos hst] at hF
          have hq4 := hq3.tr (hk4.mono (fun _ _ => P12.rq))
          have hr4 : M4 140 15 = (r : Int) := by rw [hk4.at (by unfold P12; omega)]; exact hr3
          have hjl := chr_lt (show chr p j ≠ 0 by omega)
          refine x_if_eq (pc := 134) (tgt := 146) hX dX7_readsRest_134 (by decide) (by omega) (fun h134 => ?_) (fun h134 => ?_)
          · exfalso; omega
          · refine x_aload_n (pc := 137) hX rfl rfl dX7_readsRest_137 ?_
            refine x_bipush (pc := 138) hX (by decide) dX7_readsRest_138 ?_
            refine x_cV_I (pc := 140) hX (tX7_takeDigit hK hA4 (by omega) 9 (by decide)) hK.1 rfl lk_X7_176 rfl rfl (Nat.le_of_ble_eq_true rfl) (by decide) (Nat.zero_le _) (Nat.zero_le _) dX7_readsRest_140 (fun a M5 hp => ?_)
            rcases hnb : pDig p (j + 1) 9 with _ | w
            · obtain ⟨rfl, rfl⟩ := hp.1 hnb
              rw [hnb] at hF
              refine x_goto (pc := 143) (tgt := 147) hX dX7_readsRest_143 (by decide) ?_
              refine x_putI (pc := 147) hX fl_X7_197 hK.1 rfl rfl rfl dX7_readsRest_147 ?_
              have hA9 := AtM.fld (f := 16) (v := -1) hA4 (by decide)
              have hq9 := hq4.tr (Chg.put (P := PRq) (M := _) (a := 140) (j := 16) (v := -1) (by unfold PRq; omega))
              refine x_aload_n (pc := 150) hX rfl rfl dX7_readsRest_150 ?_
              refine x_getI (pc := 151) (v := (-1 : Int)) hX fl_X7_197 hK.1 rfl (mp_eq _ _ _ _) dX7_readsRest_151 ?_
              refine x_if_lt (pc := 154) (tgt := 161) hX dX7_readsRest_154 (by decide) (by omega) (fun h154 => ?_) (fun h154 => ?_)
              · refine x_iconst (pc := 161) hX dX7_readsRest_161 ?_
                refine x_zret (pc := 162) hX rfl (xn_bool (by omega)) (Nat.zero_le _) (Nat.zero_le _) dX7_readsRest_162 ?_
                cases hF
                exact pI_i ⟨hA9, hq9, fun _ => rfl, fun od hod => (by cases hod)⟩
              · exfalso; omega
            · obtain ⟨rfl, hA5, hk5⟩ := hp.2 w hnb
              have hw9 := pDig_some hnb
              rw [hnb] at hF
              have hr5 : M5 140 15 = (r : Int) := by rw [hk5.at (by unfold P12; omega)]; exact hr4
              refine x_goto (pc := 143) (tgt := 147) hX dX7_readsRest_143 (by decide) ?_
              refine x_putI (pc := 147) hX fl_X7_197 hK.1 rfl rfl rfl dX7_readsRest_147 ?_
              have hA9 := AtM.fld (f := 16) (v := (w : Int)) hA5 (by decide)
              have hq9 := (hq4.tr (hk5.mono (fun _ _ => P12.rq))).tr (Chg.put (P := PRq) (M := M5) (a := 140) (j := 16) (v := (w : Int)) (by unfold PRq; omega))
              refine x_aload_n (pc := 150) hX rfl rfl dX7_readsRest_150 ?_
              refine x_getI (pc := 151) (v := (w : Int)) hX fl_X7_197 hK.1 rfl (mp_eq _ _ _ _) dX7_readsRest_151 ?_
              refine x_if_lt (pc := 154) (tgt := 161) hX dX7_readsRest_154 (by decide) (by omega) (fun h154 => ?_) (fun h154 => ?_)
              · exfalso; omega
              · refine x_iconst (pc := 157) hX dX7_readsRest_157 ?_
                refine x_goto (pc := 158) (tgt := 162) hX dX7_readsRest_158 (by decide) ?_
                refine x_zret (pc := 162) hX rfl (xn_bool (by omega)) (Nat.zero_le _) (Nat.zero_le _) dX7_readsRest_162 ?_
                cases hF
                refine pI_i ⟨hA9, hq9, fun z => (by cases z), fun od hod => ?_⟩
                cases hod
                exact ⟨rfl, rfl, rfl, fun z => absurd z (show ¬ ((64 : Nat) = 61 ∨ (64 : Nat) = 43) by decide), fun _ => ⟨by rw [mp_ne _ _ (by decide)]; exact hr5, mp_eq _ _ _ _⟩⟩
        · obtain ⟨rfl, hA4, hk4⟩ := hp.2 hst
          rw [if_neg hst] at hF
          have hq4 := hq3.tr (hk4.mono (fun _ _ => P12.rq))
          refine x_if_eq (pc := 134) (tgt := 146) hX dX7_readsRest_134 (by decide) (by omega) (fun h134 => ?_) (fun h134 => ?_)
          · refine x_iconst (pc := 146) hX dX7_readsRest_146 ?_
            refine x_putI (pc := 147) hX fl_X7_197 hK.1 rfl rfl rfl dX7_readsRest_147 ?_
            have hA9 := AtM.fld (f := 16) (v := -1) hA4 (by decide)
            have hq9 := hq4.tr (Chg.put (P := PRq) (M := _) (a := 140) (j := 16) (v := -1) (by unfold PRq; omega))
            refine x_aload_n (pc := 150) hX rfl rfl dX7_readsRest_150 ?_
            refine x_getI (pc := 151) (v := (-1 : Int)) hX fl_X7_197 hK.1 rfl (mp_eq _ _ _ _) dX7_readsRest_151 ?_
            refine x_if_lt (pc := 154) (tgt := 161) hX dX7_readsRest_154 (by decide) (by omega) (fun h154 => ?_) (fun h154 => ?_)
            · refine x_iconst (pc := 161) hX dX7_readsRest_161 ?_
              refine x_zret (pc := 162) hX rfl (xn_bool (by omega)) (Nat.zero_le _) (Nat.zero_le _) dX7_readsRest_162 ?_
              cases hF
              exact pI_i ⟨hA9, hq9, fun _ => rfl, fun od hod => (by cases hod)⟩
            · exfalso; omega
          · exfalso; omega
  · subst hkk
    rw [pRest_33] at hF
    refine x_lookup (pc := 4) (off := 57) (tgt := 61) hX dX7_readsRest_4 (by decide) (by omega) (by show (if (33 : Int) = lt then (57 : Int) else if (43 : Int) = lt then (52 : Int) else if (45 : Int) = lt then (59 : Int) else if (61 : Int) = lt then (52 : Int) else if (64 : Int) = lt then (108 : Int) else 159) = 57; (repeat' split) <;> omega) (by decide) ?_
    refine x_iconst (pc := 61) hX dX7_readsRest_61 ?_
    refine x_zret (pc := 62) hX rfl (xn_bool (by omega)) (Nat.zero_le _) (Nat.zero_le _) dX7_readsRest_62 ?_
    cases hF
    refine pI_i ⟨hA, Chg.rf, fun z => (by cases z), fun od hod => ?_⟩
    cases hod
    exact ⟨rfl, rfl, rfl, fun z => absurd z (show ¬ ((33 : Nat) = 61 ∨ (33 : Nat) = 43) by decide), fun z => absurd z (show ¬ ((33 : Nat) = 45 ∨ (33 : Nat) = 64) by decide)⟩
  · rw [pRest_no hkk.1 hkk.2.1 hkk.2.2.1 hkk.2.2.2.1 hkk.2.2.2.2] at hF
    refine x_lookup (pc := 4) (off := 159) (tgt := 163) hX dX7_readsRest_4 (by decide) (by omega) (by show (if (33 : Int) = lt then (57 : Int) else if (43 : Int) = lt then (52 : Int) else if (45 : Int) = lt then (59 : Int) else if (61 : Int) = lt then (52 : Int) else if (64 : Int) = lt then (108 : Int) else 159) = 159; (repeat' split) <;> omega) (by decide) ?_
    refine x_aload_n (pc := 163) hX rfl rfl dX7_readsRest_163 ?_
    refine x_dup (pc := 164) hX rfl dX7_readsRest_164 ?_
    refine x_getI (pc := 165) (v := (i : Int)) hX fl_X7_170 hK.1 rfl hA.2 dX7_readsRest_165 ?_
    refine x_iconst (pc := 168) hX dX7_readsRest_168 ?_
    refine x_isub (pc := 169) (v := ((i - 1 : Nat) : Int)) hX dX7_readsRest_169 (by omega) ?_
    refine x_putI (pc := 170) hX fl_X7_170 hK.1 rfl rfl rfl dX7_readsRest_170 ?_
    refine x_iconst (pc := 173) hX dX7_readsRest_173 ?_
    refine x_zret (pc := 174) hX rfl (xn_bool (by omega)) (Nat.zero_le _) (Nat.zero_le _) dX7_readsRest_174 ?_
    cases hF
    exact pI_i ⟨(hA.mv (i - 1)), (Chg.mv.mono (fun _ _ => P12.rq)), fun _ => rfl, fun od hod => (by cases hod)⟩

set_option maxHeartbeats 4000000 in
set_option maxRecDepth 100000 in
theorem tX7_readsOrder {G : XG} {κ : XKs} {M : XM} {hs : Nat} (hK : KM κ hs) {p : List Nat} {i : Nat} (hA : AtM M p i) (hi : i ≤ p.length) {res : Option Od} {jf : Nat} (hR : pOrder p i = (res, jf)) : XC G mX7_readsOrder 5 0 0 [xR 140] κ M hs (pI κ hs (fun a M' => AtM M' p jf ∧ Chg PRo M M' ∧ (res = none → a = 0) ∧ ∀ od, res = some od → a = 1 ∧ OdK M' od)) := by
  refine XC.intro cdX7_readsOrder (by decide) (by decide) (Nat.le_of_ble_eq_true rfl) (loc := [some (xR 140)]) rfl (fun X hX => ?_)
  have hp2 := hA.1.2.1
  have hF := hR
  refine x_aload_n (pc := 0) hX rfl rfl dX7_readsOrder_0 ?_
  refine x_aload_n (pc := 1) hX rfl rfl dX7_readsOrder_1 ?_
  refine x_iconst (pc := 2) hX dX7_readsOrder_2 ?_
  refine x_cV_I (pc := 3) hX (tX7_takeDigit hK hA (by omega) 3 (by decide)) hK.1 rfl lk_X7_176 rfl rfl (Nat.le_of_ble_eq_true rfl) (by decide) (Nat.zero_le _) (Nat.zero_le _) dX7_readsOrder_3 (fun a M2 hp => ?_)
  unfold pOrder at hF
  cases hdd : pDig p i 3
  · obtain ⟨rfl, rfl⟩ := hp.1 hdd
    rw [hdd] at hF
    refine x_putI (pc := 6) hX fl_X7_200 hK.1 rfl rfl rfl dX7_readsOrder_6 ?_
    have hA3 := AtM.fld (f := 13) (v := -1) hA (by decide)
    have hq3 := Chg.put (P := PRo) (M := M2) (a := 140) (j := 13) (v := -1) (by unfold PRo; omega)
    refine x_aload_n (pc := 9) hX rfl rfl dX7_readsOrder_9 ?_
    refine x_getI (pc := 10) (v := (-1 : Int)) hX fl_X7_200 hK.1 rfl (mp_eq _ _ _ _) dX7_readsOrder_10 ?_
    refine x_if_ge (pc := 13) (tgt := 18) hX dX7_readsOrder_13 (by decide) (by omega) (fun h13 => ?_) (fun h13 => ?_)
    · exfalso; omega
    · refine x_iconst (pc := 16) hX dX7_readsOrder_16 ?_
      refine x_zret (pc := 17) hX rfl (xn_bool (by omega)) (Nat.zero_le _) (Nat.zero_le _) dX7_readsOrder_17 ?_
      cases hF
      exact pI_i ⟨hA3, hq3, fun _ => rfl, fun od hod => (by cases hod)⟩
  · rename_i c
    obtain ⟨rfl, hA2, hk2⟩ := hp.2 c hdd
    have h9 := pDig_some hdd
    rw [hdd] at hF
    have hF : pRest p c (chr p (i + 1)) (i + 2) = (res, jf) := hF
    have hco := chI_or hA2.1 (i + 1)
    refine x_putI (pc := 6) hX fl_X7_200 hK.1 rfl rfl rfl dX7_readsOrder_6 ?_
    have hA3 := AtM.fld (f := 13) (v := (c : Int)) hA2 (by decide)
    refine x_aload_n (pc := 9) hX rfl rfl dX7_readsOrder_9 ?_
    refine x_getI (pc := 10) (v := (c : Int)) hX fl_X7_200 hK.1 rfl (mp_eq _ _ _ _) dX7_readsOrder_10 ?_
    refine x_if_ge (pc := 13) (tgt := 18) hX dX7_readsOrder_13 (by decide) (by omega) (fun h13 => ?_) (fun h13 => ?_)
    · refine x_aload_n (pc := 18) hX rfl rfl dX7_readsOrder_18 ?_
      refine x_aload_n (pc := 19) hX rfl rfl dX7_readsOrder_19 ?_
      refine x_aload_n (pc := 20) hX rfl rfl dX7_readsOrder_20 ?_
      refine x_getI (pc := 21) (v := ((i + 1 : Nat) : Int)) hX fl_X7_170 hK.1 rfl hA3.2 dX7_readsOrder_21 ?_
      refine x_cV_P (pc := 24) hX (tX7_character hK hA3.1 (i + 1) (by omega)) hK.1 rfl lk_X7_173 rfl rfl (Nat.le_of_ble_eq_true rfl) (by decide) (Nat.zero_le _) (Nat.zero_le _) dX7_readsOrder_24 ?_
      refine x_putI (pc := 27) hX fl_X7_188 hK.1 rfl rfl rfl dX7_readsOrder_27 ?_
      have hA4 := AtM.fld (f := 14) (v := chI p (i + 1)) hA3 (by decide)
      refine x_aload_n (pc := 30) hX rfl rfl dX7_readsOrder_30 ?_
      refine x_dup (pc := 31) hX rfl dX7_readsOrder_31 ?_
      refine x_getI (pc := 32) (v := ((i + 1 : Nat) : Int)) hX fl_X7_170 hK.1 rfl hA4.2 dX7_readsOrder_32 ?_
      refine x_iconst (pc := 35) hX dX7_readsOrder_35 ?_
      refine x_iadd (pc := 36) (v := ((i + 2 : Nat) : Int)) hX dX7_readsOrder_36 (by omega) ?_
      refine x_putI (pc := 37) hX fl_X7_170 hK.1 rfl rfl rfl dX7_readsOrder_37 ?_
      have hA5 := hA4.mv (i + 2)
      generalize hM5 : mput (mput (mput M2 140 13 (c : Int)) 140 14 (chI p (i + 1))) 140 12 ((i + 2 : Nat) : Int) = M5 at hA5
      have h513 : M5 140 13 = (c : Int) := by rw [← hM5, mp_ne _ _ (by decide), mp_ne _ _ (by decide), mp_eq]
      have h514 : M5 140 14 = chI p (i + 1) := by rw [← hM5, mp_ne _ _ (by decide), mp_eq]
      have hq5 : Chg PRo M M5 := by
        rw [← hM5]
        exact (((hk2.mono (fun _ _ => P12.ro)).tr (Chg.put (by unfold PRo; omega))).tr (Chg.put (by unfold PRo; omega))).tr (Chg.put (by unfold PRo; omega))
      refine x_aload_n (pc := 40) hX rfl rfl dX7_readsOrder_40 ?_
      refine x_cV_I (pc := 41) hX (tX7_readsRest hK hA5 (by omega) c (chr p (i + 1)) (chI p (i + 1)) h514 (by omega) (fun z => chr_lt z) hF) hK.1 rfl lk_X7_203 rfl rfl (Nat.le_of_ble_eq_true rfl) (by decide) (Nat.zero_le _) (Nat.zero_le _) dX7_readsOrder_41 (fun a M6 hp => ?_)
      obtain ⟨hA6, hq6, hn6, ho6⟩ := hp
      have h01 : a = 0 ∨ a = 1 := by
        cases res with
        | none => exact Or.inl (hn6 rfl)
        | some od => exact Or.inr (ho6 od rfl).1
      refine x_zret (pc := 44) hX rfl (xn_bool h01) (Nat.zero_le _) (Nat.zero_le _) dX7_readsOrder_44 ?_
      refine pI_i ⟨hA6, hq5.tr (hq6.mono (fun _ _ => PRq.ro)), hn6, fun od hod => ?_⟩
      obtain ⟨g1, g2, g3, g4, g5⟩ := ho6 od hod
      refine ⟨g1, ?_, ?_, g4, g5⟩
      · rw [hq6.at (by unfold PRq; omega), h513, g2]
      · rw [hq6.at (by unfold PRq; omega), h514, g3]
        have hne : chr p (i + 1) ≠ 0 := by
          intro z
          rw [z, pRest_no (by decide) (by decide) (by decide) (by decide) (by decide)] at hF
          cases hF
          cases hod
        omega
    · exfalso; omega

set_option maxHeartbeats 4000000 in
set_option maxRecDepth 100000 in
theorem tX7_findFault {G : XG} {κ : XKs} {M : XM} {hs : Nat} (hK : KM κ hs) {p : List Nat} (hP : PM M p) : XC G mX7_findFault 6 0 0 [xR 140] κ M hs (pI κ hs (fun a M' => a = pFault p 80 0 ∧ Chg PRo M M')) := by
  refine XC.intro cdX7_findFault (by decide) (by decide) (Nat.le_of_ble_eq_true rfl) (loc := [some (xR 140)]) rfl (fun X hX => ?_)
  have hp2 := hP.2.1
  have loop : ∀ (f j : Nat) (M1 : XM), j ≤ p.length → 240 ≤ j + 3 * f → AtM M1 p j → Chg PRo M M1 → pFault p f j = pFault p 80 0 → XW G X mX7_findFault (xq G (pI κ hs (fun a M' => a = pFault p 80 0 ∧ Chg PRo M M')) 0 0 X) 0 0 5 [some (xR 140)] [] κ M1 hs := by
    intro f
    induction f with
    | zero => intro j M1 h1 h2; omega
    | succ f ih =>
      intro j M1 hj h2 hA1 hq1 hF
      rw [pFault] at hF
      rcases hrr : pOrder p j with ⟨rr, j2⟩
      rw [hrr] at hF
      refine x_aload_n (pc := 5) hX rfl rfl dX7_findFault_5 ?_
      refine x_cV_I (pc := 6) hX (tX7_readsOrder hK hA1 hj hrr) hK.1 rfl lk_X7_206 rfl rfl (Nat.le_of_ble_eq_true rfl) (by decide) (Nat.zero_le _) (Nat.zero_le _) dX7_findFault_6 (fun a M2 hp => ?_)
      obtain ⟨hA2, hq2, hn2, ho2⟩ := hp
      have hj3 := pOrder_le p j hj
      rw [hrr] at hj3
      have hj3 : j2 ≤ p.length := hj3
      have hqq := hq1.tr hq2
      cases rr
      · obtain rfl := hn2 rfl
        have hF : (j2 : Int) = pFault p 80 0 := hF
        refine x_if_ne (pc := 9) (tgt := 17) hX dX7_findFault_9 (by decide) (by omega) (fun h9 => ?_) (fun h9 => ?_)
        · exfalso; omega
        · refine x_aload_n (pc := 12) hX rfl rfl dX7_findFault_12 ?_
          refine x_getI (pc := 13) (v := (j2 : Int)) hX fl_X7_170 hK.1 rfl hA2.2 dX7_findFault_13 ?_
          refine x_iret (pc := 16) hX rfl (Nat.zero_le _) (Nat.zero_le _) dX7_findFault_16 ?_
          exact pI_i ⟨hF, hqq⟩
      · rename_i od
        obtain ⟨rfl, -⟩ := ho2 od rfl
        have hj4 := (pOrder_ok hrr).2.1
        have hF : (if chr p j2 = 59 then pFault p f (j2 + 1) else if j2 = p.length then -6 else (j2 : Int)) = pFault p 80 0 := hF
        refine x_if_ne (pc := 9) (tgt := 17) hX dX7_findFault_9 (by decide) (by omega) (fun h9 => ?_) (fun h9 => ?_)
        · refine x_aload_n (pc := 17) hX rfl rfl dX7_findFault_17 ?_
          refine x_getI (pc := 18) (v := (j2 : Int)) hX fl_X7_170 hK.1 rfl hA2.2 dX7_findFault_18 ?_
          refine x_aload_n (pc := 21) hX rfl rfl dX7_findFault_21 ?_
          refine x_getI (pc := 22) (v := (p.length : Int)) hX fl_X7_153 hK.1 rfl hA2.1.1 dX7_findFault_22 ?_
          refine x_icmp_ne (pc := 25) (tgt := 31) hX dX7_findFault_25 (by decide) (by omega) (fun h25 => ?_) (fun h25 => ?_)
          · refine x_aload_n (pc := 31) hX rfl rfl dX7_findFault_31 ?_
            refine x_bipush (pc := 32) hX (by decide) dX7_findFault_32 ?_
            refine x_cV_I (pc := 34) hX (tX7_isNext hK hA2 (by omega) 59 (by decide)) hK.1 rfl lk_X7_182 rfl rfl (Nat.le_of_ble_eq_true rfl) (by decide) (Nat.zero_le _) (Nat.zero_le _) dX7_findFault_34 (fun a M3 hp => ?_)
            by_cases hsc : chr p j2 = 59
            · obtain ⟨rfl, hA3, hk3⟩ := hp.1 hsc
              rw [if_pos hsc] at hF
              have hj5 := chr_lt (show chr p j2 ≠ 0 by omega)
              refine x_if_ne (pc := 37) (tgt := 5) hX dX7_findFault_37 (by decide) (by omega) (fun h37 => ?_) (fun h37 => ?_)
              · exact ih (j2 + 1) M3 (by omega) (by omega) hA3 (hqq.tr (hk3.mono (fun _ _ => P12.ro))) hF
              · exfalso; omega
            · obtain ⟨rfl, hA3, hk3⟩ := hp.2 hsc
              rw [if_neg hsc, if_neg (by omega)] at hF
              refine x_if_ne (pc := 37) (tgt := 5) hX dX7_findFault_37 (by decide) (by omega) (fun h37 => ?_) (fun h37 => ?_)
              · exfalso; omega
              · refine x_aload_n (pc := 40) hX rfl rfl dX7_findFault_40 ?_
                refine x_getI (pc := 41) (v := (j2 : Int)) hX fl_X7_170 hK.1 rfl hA3.2 dX7_findFault_41 ?_
                refine x_iret (pc := 44) hX rfl (Nat.zero_le _) (Nat.zero_le _) dX7_findFault_44 ?_
                exact pI_i ⟨hF, hqq.tr (hk3.mono (fun _ _ => P12.ro))⟩
          · have hz := chr_ge (l := p) (i := j2) (by omega)
            rw [if_neg (by omega), if_pos (by omega)] at hF
            refine x_bipush (pc := 28) hX (by decide) dX7_findFault_28 ?_
            refine x_iret (pc := 30) hX rfl (Nat.zero_le _) (Nat.zero_le _) dX7_findFault_30 ?_
            exact pI_i ⟨hF, hqq⟩
        · exfalso; omega
  refine x_aload_n (pc := 0) hX rfl rfl dX7_findFault_0 ?_
  refine x_iconst (pc := 1) hX dX7_findFault_1 ?_
  refine x_putI (pc := 2) hX fl_X7_170 hK.1 rfl rfl rfl dX7_findFault_2 ?_
  exact loop 80 0 _ (Nat.zero_le _) (by omega) ⟨hP.chg (Chg.put (by unfold PRo; omega)), mp_eq _ _ _ _⟩ (Chg.put (by unfold PRo; omega)) rfl

set_option maxHeartbeats 4000000 in
set_option maxRecDepth 100000 in
theorem tX7_fault {G : XG} {κ : XKs} {M : XM} {hs : Nat} (hK : KM κ hs) {S : Sx} (hS : RM M S) {R : Int} (hR : pFault S.2.2.2 80 0 = R) : XC G mX7_fault 7 0 0 [xR 140] κ M hs (pI κ hs (fun x M' => x = R ∧ RM M' S ∧ Chg PA M M')) := by
  refine XC.intro cdX7_fault (by decide) (by decide) (Nat.le_of_ble_eq_true rfl) (loc := [some (xR 140)]) rfl (fun X hX => ?_)
  refine x_aload_n (pc := 0) hX rfl rfl dX7_fault_0 ?_
  refine x_cV_I (pc := 1) hX (tX7_findFault hK hS.2.2.2) hK.1 rfl lk_X7_209 rfl rfl (Nat.le_of_ble_eq_true rfl) (by decide) (Nat.zero_le _) (Nat.zero_le _) dX7_fault_1 (fun a M1 hp => ?_)
  obtain ⟨rfl, hq1⟩ := hp
  refine x_iret (pc := 4) hX rfl (Nat.zero_le _) (Nat.zero_le _) dX7_fault_4 ?_
  exact pI_i ⟨hR, hS.scr (hq1.mono (fun _ _ => PRo.ps)), hq1.mono (fun _ _ z => z.ps.pa)⟩

