/-! the model: changes -/
def PT (c q f : Nat) : Prop := PB q f ∨ PG c q f
theorem PT.pa {c q f : Nat} (h : PT c q f) : PA q f := h.elim (fun z => z.ps.pa) PG.pa
theorem MS.up {f f' : Nat → Int} {cs : Cs} {c : Nat} {l : List Nat} (h : MS f 0 cs) (hq : ∀ j, (j < 81 * c ∨ 81 * c + 81 ≤ j) → f' j = f j) (hl : MC f' (81 * c) l) : MS f' 0 (upC cs c l) := by
  intro i hi
  unfold upC
  rw [Nat.zero_add]
  by_cases e : i = c
  · subst e
    rw [if_pos rfl]
    exact hl
  · rw [if_neg e]
    exact (h.col hi).congr (fun j hj => hq _ (by omega))
theorem RM.gets {M M' : XM} {S : Sx} {c : Nat} {l : List Nat} (h : RM M S) (hq : Chg (PT c) M M') (hl : MC (M' 141) (81 * c) l) : RM M' (upC S.1 c l, S.2.1, S.2.2.1, S.2.2.2) := by
  have e2 : M' 142 = M 142 := hq.cell (fun f => by unfold PT PB PG; omega)
  have e3 : M' 143 = M 143 := hq.cell (fun f => by unfold PT PB PG; omega)
  have e4 : M' 144 = M 144 := hq.cell (fun f => by unfold PT PB PG; omega)
  have e5 : M' 145 = M 145 := hq.cell (fun f => by unfold PT PB PG; omega)
  exact ⟨h.1.up (fun j hj => hq.at (by unfold PT PB PG; omega)) hl, h.2.1.congr (hq.at (by unfold PT PB PG; omega)) e2, h.2.2.1.congr e4 e3, h.2.2.2.congr (hq.at (by unfold PT PB PG; omega)) e5⟩
theorem RM.rec {M M' : XM} {S : Sx} {h' : List Cs} (h : RM M S) (hq : Chg PH M M') (hh : HM M' h') : RM M' (S.1, h', S.2.2.1, S.2.2.2) := by
  have e1 : M' 141 = M 141 := hq.cell (fun f => by unfold PH; omega)
  have e3 : M' 143 = M 143 := hq.cell (fun f => by unfold PH; omega)
  have e4 : M' 144 = M 144 := hq.cell (fun f => by unfold PH; omega)
  have e5 : M' 145 = M 145 := hq.cell (fun f => by unfold PH; omega)
  exact ⟨by rw [e1]; exact h.1, hh, h.2.2.1.congr e4 e3, h.2.2.2.congr (hq.at (by unfold PH; omega)) e5⟩
theorem Lay.ph {M M' : XM} {l : List Nat} (h : Lay M l) (hq : Chg PH M M') : Lay M' l := h.congr (hq.at (by unfold PH; omega)) (hq.cell (fun f => by unfold PH; omega))
theorem Lay.pg {M M' : XM} {c : Nat} {l : List Nat} (h : Lay M l) (hq : Chg (PG c) M M') : Lay M' l := h.congr (hq.at (by unfold PG; omega)) (hq.cell (fun f => by unfold PG; omega))
theorem Lay.po {M M' : XM} {l : List Nat} (h : Lay M l) (hq : Chg PO M M') : Lay M' l := h.congr (hq.at (by unfold PO; omega)) (hq.cell (fun f => by unfold PO; omega))
theorem RM.ok {M : XM} {S : Sx} (h : RM M S) {c : Nat} (hc : c < 4) : Ok (S.1 c) := (h.1.col hc).2.2
theorem dApp_ok {l : List Nat} {v n : Nat} (h : Ok l) (hv : v ≤ 9) : ∀ w ∈ l ++ List.replicate n v, w ≤ 9 := fun w hw => (List.mem_append.mp hw).elim (h.2 w) (fun z => by rw [(List.mem_replicate.mp z).2]; exact hv)
theorem dIns_ok {l : List Nat} {r v n : Nat} (h : Ok l) (hv : v ≤ 9) : ∀ w ∈ l.take r ++ List.replicate n v ++ l.drop r, w ≤ 9 := fun w hw => by
  rcases List.mem_append.mp hw with hw | hw
  · rcases List.mem_append.mp hw with hw | hw
    · exact h.2 w (List.mem_of_mem_take hw)
    · rw [(List.mem_replicate.mp hw).2]; exact hv
  · exact h.2 w (List.mem_of_mem_drop hw)
theorem dCut_ok {l : List Nat} {r k : Nat} (h : Ok l) : ∀ w ∈ l.take r ++ l.drop k, w ≤ 9 := fun w hw => by
  rcases List.mem_append.mp hw with hw | hw
  · exact h.2 w (List.mem_of_mem_take hw)
  · exact h.2 w (List.mem_of_mem_drop hw)
theorem dSet_ok {l : List Nat} {r k v : Nat} (h : Ok l) (hv : v ≤ 9) : ∀ w ∈ l.take r ++ [v] ++ l.drop k, w ≤ 9 := fun w hw => by
  rcases List.mem_append.mp hw with hw | hw
  · rcases List.mem_append.mp hw with hw | hw
    · exact h.2 w (List.mem_of_mem_take hw)
    · rw [List.mem_singleton.mp hw]; exact hv
  · exact h.2 w (List.mem_of_mem_drop hw)
theorem sortTo_ok (l : List Nat) : ∀ k, k ≤ 10 → ∀ w ∈ sortTo l k, w ≤ 9
  | 0, _, w, hw => by cases hw
  | k + 1, hk, w, hw => by
    rw [sortTo] at hw
    rcases List.mem_append.mp hw with hw | hw
    · exact sortTo_ok l k (by omega) w hw
    · rw [(List.mem_replicate.mp hw).2]; omega
theorem mrg_ok (w : Int) : ∀ (P : List (Nat × Nat)), (∀ q ∈ P, q.1 ≤ 9 ∧ q.2 ≤ 9) → ∀ x ∈ mrg w P, x ≤ 9
  | [], _, x, hx => by cases hx
  | (v, u) :: t, h, x, hx => by
    rw [mrg] at hx
    have h1 : v ≤ 9 ∧ u ≤ 9 := h _ List.mem_cons_self
    rcases List.mem_append.mp hx with hx | hx
    · split at hx
      · rw [List.mem_singleton.mp hx]; omega
      · split at hx
        · rw [List.mem_singleton.mp hx]; omega
        · split at hx
          · rw [List.mem_singleton.mp hx]; omega
          · cases hx
    · exact mrg_ok w t (fun q hq => h q (List.mem_cons_of_mem _ hq)) x hx
theorem mrg_len (w : Int) : ∀ (P : List (Nat × Nat)), (mrg w P).length ≤ P.length
  | [] => Nat.le_refl _
  | (v, u) :: t => by
    have := mrg_len w t
    rw [mrg, List.length_append, List.length_cons]
    have h1 : (if w = 0 then [min v u] else if w = 1 then [max v u] else if v = u then [v] else []).length ≤ 1 := by
      split
      · exact Nat.le_refl _
      · split
        · exact Nat.le_refl _
        · split
          · exact Nat.le_refl _
          · exact Nat.zero_le _
    omega
theorem zip_drop {A B : List Nat} {k : Nat} (h1 : k < A.length) (h2 : k < B.length) : (A.zip B).drop k = (chr A k, chr B k) :: (A.zip B).drop (k + 1) := by
  have hz : k < (A.zip B).length := by rw [List.length_zip]; omega
  rw [List.drop_eq_getElem_cons hz, List.getElem_zip, chr_get h1, chr_get h2]
theorem zip_mem {A B : List Nat} (hA : ∀ v ∈ A, v ≤ 9) (hB : ∀ v ∈ B, v ≤ 9) : ∀ q ∈ A.zip B, q.1 ≤ 9 ∧ q.2 ≤ 9 := fun q hq => ⟨hA _ (List.of_mem_zip hq).1, hB _ (List.of_mem_zip hq).2⟩
set_option maxHeartbeats 4000000 in
set_option maxRecDepth 100000 in
theorem tX7_valueAt {G : XG} {κ : XKs} {M : XM} {hs : Nat} (hK : KM κ hs) {cs : Cs} (hS : MS (M 141) 0 cs) (c : Nat) (hc : c < 4) (r : Nat) (hr : r < (cs c).length) : XC G mX7_valueAt 1 0 0 [xR 140, xI (c : Int), xI (r : Int)] κ M hs (pP κ M hs (xI (rvO (enc (cs c)) (rof (enc (cs c)) r)))) := by
  refine XC.intro cdX7_valueAt (by decide) (by decide) (Nat.le_of_ble_eq_true rfl) (loc := [some (xR 140), some (xI (c : Int)), some (xI (r : Int)), none, none]) rfl (fun X hX => ?_)
  have hl := (hS.col hc).len
  have loop : ∀ (n k left : Nat), k ≤ (enc (cs c)).length → (enc (cs c)).length < k + n → rof (enc (cs c)) r = k + rof ((enc (cs c)).drop k) left → left < tot ((enc (cs c)).drop k) → XW G X mX7_valueAt (xq G (pP κ M hs (xI (rvO (enc (cs c)) (rof (enc (cs c)) r)))) 0 0 X) 0 0 5 [some (xR 140), some (xI (c : Int)), some (xI (r : Int)), some (xI (k : Int)), some (xI (left : Int))] [] κ M hs := by
    intro n
    induction n with
    | zero => intro k left h1 h2; omega
    | succ n ih =>
      intro k left h1 h2 hrof hlt
      have hk : k < (enc (cs c)).length := by
        rcases Nat.lt_or_ge k (enc (cs c)).length with h | h
        · exact h
        · rw [ru_end _ h] at hlt
          exact absurd hlt (Nat.not_lt_zero _)
      have hts := tot_split (enc (cs c)) k
      have htd := tot_drop hk
      have hrn := rn_le hk
      rw [ru_drop hk, rof] at hrof
      refine x_iload (pc := 5) hX rfl dX7_valueAt_5 ?_
      refine x_aload_n (pc := 7) hX rfl rfl dX7_valueAt_7 ?_
      refine x_iload_n (pc := 8) hX rfl rfl dX7_valueAt_8 ?_
      refine x_iload_n (pc := 9) hX rfl rfl dX7_valueAt_9 ?_
      refine x_cV_P (pc := 10) hX (tX7_lengthOf hK hS c hc k hk) hK.1 rfl lk_X7_56 rfl rfl (Nat.le_of_ble_eq_true rfl) (by decide) (Nat.zero_le _) (Nat.zero_le _) dX7_valueAt_10 ?_
      refine x_icmp_lt (pc := 13) (tgt := 33) hX dX7_valueAt_13 (by decide) (by omega) (fun h13 => ?_) (fun h13 => ?_)
      · rw [if_pos (by omega), Nat.add_zero] at hrof
        refine x_aload_n (pc := 33) hX rfl rfl dX7_valueAt_33 ?_
        refine x_iload_n (pc := 34) hX rfl rfl dX7_valueAt_34 ?_
        refine x_iload_n (pc := 35) hX rfl rfl dX7_valueAt_35 ?_
        refine x_cV_P (pc := 36) hX (tX7_valueOf hK hS c hc k hk) hK.1 rfl lk_X7_66 rfl rfl (Nat.le_of_ble_eq_true rfl) (by decide) (Nat.zero_le _) (Nat.zero_le _) dX7_valueAt_36 ?_
        refine x_iret (pc := 39) hX rfl (Nat.zero_le _) (Nat.zero_le _) dX7_valueAt_39 ?_
        exact pP_i (congrArg xI (by unfold rvO; rw [hrof, if_pos (by omega)]; rfl))
      · rw [if_neg (by omega)] at hrof
        refine x_iload (pc := 16) hX rfl dX7_valueAt_16 ?_
        refine x_aload_n (pc := 18) hX rfl rfl dX7_valueAt_18 ?_
        refine x_iload_n (pc := 19) hX rfl rfl dX7_valueAt_19 ?_
        refine x_iload_n (pc := 20) hX rfl rfl dX7_valueAt_20 ?_
        refine x_cV_P (pc := 21) hX (tX7_lengthOf hK hS c hc k hk) hK.1 rfl lk_X7_56 rfl rfl (Nat.le_of_ble_eq_true rfl) (by decide) (Nat.zero_le _) (Nat.zero_le _) dX7_valueAt_21 ?_
        refine x_isub (pc := 24) (v := ((left - rn (enc (cs c)) k : Nat) : Int)) hX dX7_valueAt_24 (by omega) ?_
        refine x_istore (pc := 25) hX (by decide) rfl rfl dX7_valueAt_25 ?_
        refine x_iinc (pc := 27) (v := ((k + 1 : Nat) : Int)) hX dX7_valueAt_27 rfl (by decide) rfl (by omega) rfl ?_
        refine x_goto (pc := 30) (tgt := 5) hX dX7_valueAt_30 (by decide) ?_
        exact ih (k + 1) (left - rn (enc (cs c)) k) (by omega) (by omega) (by omega) (by omega)
  refine x_iconst (pc := 0) hX dX7_valueAt_0 ?_
  refine x_istore_n (pc := 1) hX rfl (by decide) rfl rfl dX7_valueAt_1 ?_
  refine x_iload_n (pc := 2) hX rfl rfl dX7_valueAt_2 ?_
  refine x_istore (pc := 3) hX (by decide) rfl rfl dX7_valueAt_3 ?_
  exact loop ((enc (cs c)).length + 1) 0 r (Nat.zero_le _) (by omega) (by rw [List.drop_zero, Nat.zero_add]) (by rw [List.drop_zero, hl.2.2]; exact hr)

set_option maxHeartbeats 4000000 in
set_option maxRecDepth 100000 in
theorem tX7_append {G : XG} {κ : XKs} {M : XM} {hs : Nat} (hK : KM κ hs) {S : Sx} (hS : RM M S) (c v n : Int) (hc : InR c) (hv : InR v) (hn : InR n) {dd : Int ⊕ List Nat} (hdd : dApp S.1 c v n = dd) {R : Int × Sx} (hR : sDo S c dd (fun l => (l.length : Int)) = R) : XC G mX7_append 2 0 0 [xR 140, xI c, xI v, xI n] κ M hs (pI κ hs (fun a M' => a = R.1 ∧ RM M' R.2 ∧ Chg PA M M')) := by
  refine XC.intro cdX7_append (by decide) (by decide) (Nat.le_of_ble_eq_true rfl) (loc := [some (xR 140), some (xI c), some (xI v), some (xI n)]) rfl (fun X hX => ?_)
  have hc0 := hc
  have hv0 := hv
  have hn0 := hn
  unfold InR at hc0 hv0 hn0
  unfold dApp at hdd
  refine x_iload_n (pc := 0) hX rfl rfl dX7_append_0 ?_
  refine x_cS_P (pc := 1) hX (tX7_isColumn c hc) lk_X7_76 rfl rfl (Nat.le_of_ble_eq_true rfl) (by decide) (Nat.zero_le _) (Nat.zero_le _) dX7_append_1 ?_
  by_cases hcc1 : 0 ≤ c ∧ c ≤ 3
  · rw [if_pos hcc1]
    rw [if_neg (by omega)] at hdd
    refine x_if_ne (pc := 4) (tgt := 9) hX dX7_append_4 (by decide) (by omega) (fun h4 => ?_) (fun h4 => ?_)
    · refine x_iload_n (pc := 9) hX rfl rfl dX7_append_9 ?_
      refine x_cS_P (pc := 10) hX (tX7_isValue v hv) lk_X7_80 rfl rfl (Nat.le_of_ble_eq_true rfl) (by decide) (Nat.zero_le _) (Nat.zero_le _) dX7_append_10 ?_
      by_cases hvv10 : 0 ≤ v ∧ v ≤ 9
      · rw [if_pos hvv10]
        refine x_if_eq (pc := 13) (tgt := 27) hX dX7_append_13 (by decide) (by omega) (fun h13 => ?_) (fun h13 => ?_)
        · exfalso; omega
        · refine x_iload_n (pc := 16) hX rfl rfl dX7_append_16 ?_
          refine x_iconst (pc := 17) hX dX7_append_17 ?_
          refine x_sipush (pc := 18) hX (by decide) dX7_append_18 ?_
          refine x_cS_P (pc := 21) hX (tX7_within n (1) (999) hn (by unfold InR; omega) (by unfold InR; omega)) lk_X7_48 rfl rfl (Nat.le_of_ble_eq_true rfl) (by decide) (Nat.zero_le _) (Nat.zero_le _) dX7_append_21 ?_
          by_cases hnn : 1 ≤ n ∧ n ≤ 999
          · rw [if_pos hnn]
            rw [if_neg (by omega)] at hdd
            have hok := hS.ok (c := c.toNat) (by omega)
            have hf1 := hok.1.1
            refine x_if_ne (pc := 24) (tgt := 30) hX dX7_append_24 (by decide) (by omega) (fun h24 => ?_) (fun h24 => ?_)
            · refine x_aload_n (pc := 30) hX rfl rfl dX7_append_30 ?_
              refine x_iload_n (pc := 31) hX rfl rfl dX7_append_31 ?_
              refine x_top (congrArg xI (show c = ((c.toNat : Nat) : Int) by omega)) ?_
              refine x_cV_V (pc := 32) hX (tX7_layOut hK hS.1 c.toNat (by omega)) hK.1 rfl lk_X7_83 rfl rfl (Nat.le_of_ble_eq_true rfl) (by decide) (Nat.zero_le _) (Nat.zero_le _) dX7_append_32 (fun M1 hp => ?_)
              obtain ⟨hL1, hq1⟩ := hp
              have hR1 := hS.scr (hq1.mono (fun q f => PL.ps))
              refine x_aload_n (pc := 35) hX rfl rfl dX7_append_35 ?_
              refine x_aload_n (pc := 36) hX rfl rfl dX7_append_36 ?_
              refine x_getI (pc := 37) (v := ((S.1 c.toNat).length : Int)) hX fl_X7_63 hK.1 rfl hL1.1 dX7_append_37 ?_
              refine x_iload_n (pc := 40) hX rfl rfl dX7_append_40 ?_
              refine x_iload_n (pc := 41) hX rfl rfl dX7_append_41 ?_
              refine x_top2 (congrArg xI (show v = ((v.toNat : Nat) : Int) by omega)) ?_
              refine x_top (congrArg xI (show n = ((n.toNat : Nat) : Int) by omega)) ?_
              refine x_cV_V (pc := 42) hX (tX7_putIn hK hL1 (S.1 c.toNat).length (Nat.le_refl _) v.toNat n.toNat (by omega)) hK.1 rfl lk_X7_87 rfl rfl (Nat.le_of_ble_eq_true rfl) (by decide) (Nat.zero_le _) (Nat.zero_le _) dX7_append_42 (fun M2 hp => ?_)
              obtain ⟨hL2, hq2⟩ := hp
              rw [List.take_length, List.drop_length, List.append_nil] at hL2
              have hq12 := (hq1.tr hq2).mono (fun q f => PL.ps)
              have hR2 := hS.scr hq12
              have hv9 := dApp_ok (n := n.toNat) (v := v.toNat) hok (by omega)
              refine x_aload_n (pc := 45) hX rfl rfl dX7_append_45 ?_
              refine x_cV_P (pc := 46) hX (tX7_isTooMany hK hL2 hv9) hK.1 rfl lk_X7_91 rfl rfl (Nat.le_of_ble_eq_true rfl) (by decide) (Nat.zero_le _) (Nat.zero_le _) dX7_append_46 ?_
              by_cases hfit : (S.1 c.toNat ++ List.replicate n.toNat v.toNat).length ≤ 999 ∧ (enc (S.1 c.toNat ++ List.replicate n.toNat v.toNat)).length ≤ 40
              · rw [if_pos hfit]
                unfold dFin at hdd
                rw [if_pos hfit] at hdd
                subst hdd
                subst hR
                refine x_if_eq (pc := 49) (tgt := 55) hX dX7_append_49 (by decide) (by omega) (fun h49 => ?_) (fun h49 => ?_)
                · refine x_aload_n (pc := 55) hX rfl rfl dX7_append_55 ?_
                  refine x_cV_V (pc := 56) hX (tX7_record hK hR2.1 hR2.2.1) hK.1 rfl lk_X7_95 rfl rfl (Nat.le_of_ble_eq_true rfl) (by decide) (Nat.zero_le _) (Nat.zero_le _) dX7_append_56 (fun M3 hp => ?_)
                  obtain ⟨hH3, hq3⟩ := hp
                  have hR3 := hR2.rec hq3 hH3
                  refine x_aload_n (pc := 59) hX rfl rfl dX7_append_59 ?_
                  refine x_iload_n (pc := 60) hX rfl rfl dX7_append_60 ?_
                  refine x_top (congrArg xI (show c = ((c.toNat : Nat) : Int) by omega)) ?_
                  refine x_cV_V (pc := 61) hX (tX7_gets hK (hL2.ph hq3) hfit hv9 c.toNat (by omega)) hK.1 rfl lk_X7_98 rfl rfl (Nat.le_of_ble_eq_true rfl) (by decide) (Nat.zero_le _) (Nat.zero_le _) dX7_append_61 (fun M4 hp => ?_)
                  obtain ⟨hG4, hq4⟩ := hp
                  have hR4 := hR3.gets (hq4.mono (fun q f => Or.inr)) hG4
                  have hL4 := (hL2.ph hq3).pg hq4
                  have hall := ((hq12.mono (fun q f => PS.pa)).tr (hq3.mono (fun q f => PH.pa))).tr (hq4.mono (fun q f => PG.pa))
                  refine x_aload_n (pc := 64) hX rfl rfl dX7_append_64 ?_
                  refine x_getI (pc := 65) (v := ((S.1 c.toNat ++ List.replicate n.toNat v.toNat).length : Int)) hX fl_X7_63 hK.1 rfl hL4.1 dX7_append_65 ?_
                  refine x_iret (pc := 68) hX rfl (Nat.zero_le _) (Nat.zero_le _) dX7_append_68 ?_
                  exact pI_i ⟨rfl, hR4, hall⟩
                · exfalso; omega
              · rw [if_neg hfit]
                unfold dFin at hdd
                rw [if_neg hfit] at hdd
                subst hdd
                subst hR
                refine x_if_eq (pc := 49) (tgt := 55) hX dX7_append_49 (by decide) (by omega) (fun h49 => ?_) (fun h49 => ?_)
                · exfalso; omega
                · refine x_bipush (pc := 52) hX (by decide) dX7_append_52 ?_
                  refine x_iret (pc := 54) hX rfl (Nat.zero_le _) (Nat.zero_le _) dX7_append_54 ?_
                  exact pI_i ⟨rfl, hR2, hq12.mono (fun q f => PS.pa)⟩
            · exfalso; omega
          · rw [if_neg hnn]
            refine x_if_ne (pc := 24) (tgt := 30) hX dX7_append_24 (by decide) (by omega) (fun h24 => ?_) (fun h24 => ?_)
            · exfalso; omega
            · refine x_bipush (pc := 27) hX (by decide) dX7_append_27 ?_
              rw [if_pos (by omega)] at hdd
              subst hdd
              subst hR
              refine x_iret (pc := 29) hX rfl (Nat.zero_le _) (Nat.zero_le _) dX7_append_29 ?_
              exact pI_i ⟨rfl, hS, Chg.rf⟩
      · rw [if_neg hvv10]
        refine x_if_eq (pc := 13) (tgt := 27) hX dX7_append_13 (by decide) (by omega) (fun h13 => ?_) (fun h13 => ?_)
        · refine x_bipush (pc := 27) hX (by decide) dX7_append_27 ?_
          rw [if_pos (by omega)] at hdd
          subst hdd
          subst hR
          refine x_iret (pc := 29) hX rfl (Nat.zero_le _) (Nat.zero_le _) dX7_append_29 ?_
          exact pI_i ⟨rfl, hS, Chg.rf⟩
        · exfalso; omega
    · exfalso; omega
  · rw [if_neg hcc1]
    refine x_if_ne (pc := 4) (tgt := 9) hX dX7_append_4 (by decide) (by omega) (fun h4 => ?_) (fun h4 => ?_)
    · exfalso; omega
    · refine x_iconst (pc := 7) hX dX7_append_7 ?_
      rw [if_pos (by omega)] at hdd
      subst hdd
      subst hR
      refine x_iret (pc := 8) hX rfl (Nat.zero_le _) (Nat.zero_le _) dX7_append_8 ?_
      exact pI_i ⟨rfl, hS, Chg.rf⟩

theorem x_top3 {G : XG} {X : XX} {md : XD} {Q : State → Prop} {k n pc : Nat} {loc : List (Option XV)} {st : List XV} {κ : XKs} {M : XM} {hs : Nat} {a b c d : XV} (e : a = b) (kk : XW G X md Q k n pc loc (d :: c :: b :: st) κ M hs) : XW G X md Q k n pc loc (d :: c :: a :: st) κ M hs := e ▸ kk
set_option maxHeartbeats 4000000 in
set_option maxRecDepth 100000 in
theorem tX7_insert {G : XG} {κ : XKs} {M : XM} {hs : Nat} (hK : KM κ hs) {S : Sx} (hS : RM M S) (c r v n : Int) (hc : InR c) (hr : InR r) (hv : InR v) (hn : InR n) {dd : Int ⊕ List Nat} (hdd : dIns S.1 c r v n = dd) {R : Int × Sx} (hR : sDo S c dd (fun l => ((enc l).length : Int)) = R) : XC G mX7_insert 2 0 0 [xR 140, xI c, xI r, xI v, xI n] κ M hs (pI κ hs (fun a M' => a = R.1 ∧ RM M' R.2 ∧ Chg PA M M')) := by
  refine XC.intro cdX7_insert (by decide) (by decide) (Nat.le_of_ble_eq_true rfl) (loc := [some (xR 140), some (xI c), some (xI r), some (xI v), some (xI n)]) rfl (fun X hX => ?_)
  have hc0 := hc
  have hr0 := hr
  have hv0 := hv
  have hn0 := hn
  unfold InR at hc0 hr0 hv0 hn0
  unfold dIns at hdd
  refine x_iload_n (pc := 0) hX rfl rfl dX7_insert_0 ?_
  refine x_cS_P (pc := 1) hX (tX7_isColumn c hc) lk_X7_76 rfl rfl (Nat.le_of_ble_eq_true rfl) (by decide) (Nat.zero_le _) (Nat.zero_le _) dX7_insert_1 ?_
  by_cases hcc1 : 0 ≤ c ∧ c ≤ 3
  · rw [if_pos hcc1]
    rw [if_neg (by omega)] at hdd
    have hok := hS.ok (c := c.toNat) (by omega)
    have hf1 := hok.1.1
    refine x_if_ne (pc := 4) (tgt := 9) hX dX7_insert_4 (by decide) (by omega) (fun h4 => ?_) (fun h4 => ?_)
    · refine x_iload_n (pc := 9) hX rfl rfl dX7_insert_9 ?_
      refine x_iconst (pc := 10) hX dX7_insert_10 ?_
      refine x_aload_n (pc := 11) hX rfl rfl dX7_insert_11 ?_
      refine x_iload_n (pc := 12) hX rfl rfl dX7_insert_12 ?_
      refine x_top (congrArg xI (show c = ((c.toNat : Nat) : Int) by omega)) ?_
      refine x_cV_P (pc := 13) hX (tX7_rowsOf hK hS.1 c.toNat (by omega)) hK.1 rfl lk_X7_60 rfl rfl (Nat.le_of_ble_eq_true rfl) (by decide) (Nat.zero_le _) (Nat.zero_le _) dX7_insert_13 ?_
      refine x_cS_P (pc := 16) hX (tX7_within r (0) (((S.1 c.toNat).length : Int)) hr (by unfold InR; omega) (by unfold InR; omega)) lk_X7_48 rfl rfl (Nat.le_of_ble_eq_true rfl) (by decide) (Nat.zero_le _) (Nat.zero_le _) dX7_insert_16 ?_
      by_cases hrr : 0 ≤ r ∧ r ≤ ((S.1 c.toNat).length : Int)
      · rw [if_pos hrr]
        refine x_if_eq (pc := 19) (tgt := 41) hX dX7_insert_19 (by decide) (by omega) (fun h19 => ?_) (fun h19 => ?_)
        · exfalso; omega
        · refine x_iload_n (pc := 22) hX rfl rfl dX7_insert_22 ?_
          refine x_cS_P (pc := 23) hX (tX7_isValue v hv) lk_X7_80 rfl rfl (Nat.le_of_ble_eq_true rfl) (by decide) (Nat.zero_le _) (Nat.zero_le _) dX7_insert_23 ?_
          by_cases hvv23 : 0 ≤ v ∧ v ≤ 9
          · rw [if_pos hvv23]
            refine x_if_eq (pc := 26) (tgt := 41) hX dX7_insert_26 (by decide) (by omega) (fun h26 => ?_) (fun h26 => ?_)
            · exfalso; omega
            · refine x_iload (pc := 29) hX rfl dX7_insert_29 ?_
              refine x_iconst (pc := 31) hX dX7_insert_31 ?_
              refine x_sipush (pc := 32) hX (by decide) dX7_insert_32 ?_
              refine x_cS_P (pc := 35) hX (tX7_within n (1) (999) hn (by unfold InR; omega) (by unfold InR; omega)) lk_X7_48 rfl rfl (Nat.le_of_ble_eq_true rfl) (by decide) (Nat.zero_le _) (Nat.zero_le _) dX7_insert_35 ?_
              by_cases hnn : 1 ≤ n ∧ n ≤ 999
              · rw [if_pos hnn]
                rw [if_neg (by omega)] at hdd
                refine x_if_ne (pc := 38) (tgt := 44) hX dX7_insert_38 (by decide) (by omega) (fun h38 => ?_) (fun h38 => ?_)
                · refine x_aload_n (pc := 44) hX rfl rfl dX7_insert_44 ?_
                  refine x_iload_n (pc := 45) hX rfl rfl dX7_insert_45 ?_
                  refine x_top (congrArg xI (show c = ((c.toNat : Nat) : Int) by omega)) ?_
                  refine x_cV_V (pc := 46) hX (tX7_layOut hK hS.1 c.toNat (by omega)) hK.1 rfl lk_X7_83 rfl rfl (Nat.le_of_ble_eq_true rfl) (by decide) (Nat.zero_le _) (Nat.zero_le _) dX7_insert_46 (fun M1 hp => ?_)
                  obtain ⟨hL1, hq1⟩ := hp
                  have hR1 := hS.scr (hq1.mono (fun q f => PL.ps))
                  refine x_aload_n (pc := 49) hX rfl rfl dX7_insert_49 ?_
                  refine x_iload_n (pc := 50) hX rfl rfl dX7_insert_50 ?_
                  refine x_iload_n (pc := 51) hX rfl rfl dX7_insert_51 ?_
                  refine x_iload (pc := 52) hX rfl dX7_insert_52 ?_
                  refine x_top3 (congrArg xI (show r = ((r.toNat : Nat) : Int) by omega)) ?_
                  refine x_top2 (congrArg xI (show v = ((v.toNat : Nat) : Int) by omega)) ?_
                  refine x_top (congrArg xI (show n = ((n.toNat : Nat) : Int) by omega)) ?_
                  refine x_cV_V (pc := 54) hX (tX7_putIn hK hL1 r.toNat (by omega) v.toNat n.toNat (by omega)) hK.1 rfl lk_X7_87 rfl rfl (Nat.le_of_ble_eq_true rfl) (by decide) (Nat.zero_le _) (Nat.zero_le _) dX7_insert_54 (fun M2 hp => ?_)
                  obtain ⟨hL2, hq2⟩ := hp
                  have hq12 := (hq1.tr hq2).mono (fun q f => PL.ps)
                  have hR2 := hS.scr hq12
                  have hv9 := dIns_ok (n := n.toNat) (r := r.toNat) (v := v.toNat) hok (by omega)
                  refine x_aload_n (pc := 57) hX rfl rfl dX7_insert_57 ?_
                  refine x_cV_P (pc := 58) hX (tX7_isTooMany hK hL2 hv9) hK.1 rfl lk_X7_91 rfl rfl (Nat.le_of_ble_eq_true rfl) (by decide) (Nat.zero_le _) (Nat.zero_le _) dX7_insert_58 ?_
                  by_cases hfit : ((S.1 c.toNat).take r.toNat ++ List.replicate n.toNat v.toNat ++ (S.1 c.toNat).drop r.toNat).length ≤ 999 ∧ (enc ((S.1 c.toNat).take r.toNat ++ List.replicate n.toNat v.toNat ++ (S.1 c.toNat).drop r.toNat)).length ≤ 40
                  · rw [if_pos hfit]
                    unfold dFin at hdd
                    rw [if_pos hfit] at hdd
                    subst hdd
                    subst hR
                    refine x_if_eq (pc := 61) (tgt := 67) hX dX7_insert_61 (by decide) (by omega) (fun h61 => ?_) (fun h61 => ?_)
                    · refine x_aload_n (pc := 67) hX rfl rfl dX7_insert_67 ?_
                      refine x_cV_V (pc := 68) hX (tX7_record hK hR2.1 hR2.2.1) hK.1 rfl lk_X7_95 rfl rfl (Nat.le_of_ble_eq_true rfl) (by decide) (Nat.zero_le _) (Nat.zero_le _) dX7_insert_68 (fun M3 hp => ?_)
                      obtain ⟨hH3, hq3⟩ := hp
                      have hR3 := hR2.rec hq3 hH3
                      refine x_aload_n (pc := 71) hX rfl rfl dX7_insert_71 ?_
                      refine x_iload_n (pc := 72) hX rfl rfl dX7_insert_72 ?_
                      refine x_top (congrArg xI (show c = ((c.toNat : Nat) : Int) by omega)) ?_
                      refine x_cV_V (pc := 73) hX (tX7_gets hK (hL2.ph hq3) hfit hv9 c.toNat (by omega)) hK.1 rfl lk_X7_98 rfl rfl (Nat.le_of_ble_eq_true rfl) (by decide) (Nat.zero_le _) (Nat.zero_le _) dX7_insert_73 (fun M4 hp => ?_)
                      obtain ⟨hG4, hq4⟩ := hp
                      have hR4 := hR3.gets (hq4.mono (fun q f => Or.inr)) hG4
                      have hall := ((hq12.mono (fun q f => PS.pa)).tr (hq3.mono (fun q f => PH.pa))).tr (hq4.mono (fun q f => PG.pa))
                      refine x_aload_n (pc := 76) hX rfl rfl dX7_insert_76 ?_
                      refine x_iload_n (pc := 77) hX rfl rfl dX7_insert_77 ?_
                      refine x_top (congrArg xI (show c = ((c.toNat : Nat) : Int) by omega)) ?_
                      refine x_cV_P (pc := 78) hX (tX7_runsOf hK hR4.1 c.toNat (by omega)) hK.1 rfl lk_X7_52 rfl rfl (Nat.le_of_ble_eq_true rfl) (by decide) (Nat.zero_le _) (Nat.zero_le _) dX7_insert_78 ?_
                      refine x_top (congrArg (fun z => xI ((enc z).length : Int)) upC_eq) ?_
                      refine x_iret (pc := 81) hX rfl (Nat.zero_le _) (Nat.zero_le _) dX7_insert_81 ?_
                      exact pI_i ⟨rfl, hR4, hall⟩
                    · exfalso; omega
                  · rw [if_neg hfit]
                    unfold dFin at hdd
                    rw [if_neg hfit] at hdd
                    subst hdd
                    subst hR
                    refine x_if_eq (pc := 61) (tgt := 67) hX dX7_insert_61 (by decide) (by omega) (fun h61 => ?_) (fun h61 => ?_)
                    · exfalso; omega
                    · refine x_bipush (pc := 64) hX (by decide) dX7_insert_64 ?_
                      refine x_iret (pc := 66) hX rfl (Nat.zero_le _) (Nat.zero_le _) dX7_insert_66 ?_
                      exact pI_i ⟨rfl, hR2, hq12.mono (fun q f => PS.pa)⟩
                · exfalso; omega
              · rw [if_neg hnn]
                refine x_if_ne (pc := 38) (tgt := 44) hX dX7_insert_38 (by decide) (by omega) (fun h38 => ?_) (fun h38 => ?_)
                · exfalso; omega
                · refine x_bipush (pc := 41) hX (by decide) dX7_insert_41 ?_
                  rw [if_pos (by omega)] at hdd
                  subst hdd
                  subst hR
                  refine x_iret (pc := 43) hX rfl (Nat.zero_le _) (Nat.zero_le _) dX7_insert_43 ?_
                  exact pI_i ⟨rfl, hS, Chg.rf⟩
          · rw [if_neg hvv23]
            refine x_if_eq (pc := 26) (tgt := 41) hX dX7_insert_26 (by decide) (by omega) (fun h26 => ?_) (fun h26 => ?_)
            · refine x_bipush (pc := 41) hX (by decide) dX7_insert_41 ?_
              rw [if_pos (by omega)] at hdd
              subst hdd
              subst hR
              refine x_iret (pc := 43) hX rfl (Nat.zero_le _) (Nat.zero_le _) dX7_insert_43 ?_
              exact pI_i ⟨rfl, hS, Chg.rf⟩
            · exfalso; omega
      · rw [if_neg hrr]
        refine x_if_eq (pc := 19) (tgt := 41) hX dX7_insert_19 (by decide) (by omega) (fun h19 => ?_) (fun h19 => ?_)
        · refine x_bipush (pc := 41) hX (by decide) dX7_insert_41 ?_
          rw [if_pos (by omega)] at hdd
          subst hdd
          subst hR
          refine x_iret (pc := 43) hX rfl (Nat.zero_le _) (Nat.zero_le _) dX7_insert_43 ?_
          exact pI_i ⟨rfl, hS, Chg.rf⟩
        · exfalso; omega
    · exfalso; omega
  · rw [if_neg hcc1]
    refine x_if_ne (pc := 4) (tgt := 9) hX dX7_insert_4 (by decide) (by omega) (fun h4 => ?_) (fun h4 => ?_)
    · exfalso; omega
    · refine x_iconst (pc := 7) hX dX7_insert_7 ?_
      rw [if_pos (by omega)] at hdd
      subst hdd
      subst hR
      refine x_iret (pc := 8) hX rfl (Nat.zero_le _) (Nat.zero_le _) dX7_insert_8 ?_
      exact pI_i ⟨rfl, hS, Chg.rf⟩

def whyN : Int ⊕ List Nat → Int
  | .inl e => e
  | .inr _ => 0
set_option maxHeartbeats 4000000 in
set_option maxRecDepth 100000 in
theorem tX7_whyNotRemoved {G : XG} {κ : XKs} {M : XM} {hs : Nat} (hK : KM κ hs) {cs : Cs} (hS : MS (M 141) 0 cs) (c r n : Int) (hc : InR c) (hr : InR r) (hn : InR n) {dd : Int ⊕ List Nat} (hdd : dRem cs c r n = dd) : XC G mX7_whyNotRemoved 3 0 0 [xR 140, xI c, xI r, xI n] κ M hs (pP κ M hs (xI (whyN dd))) := by
  refine XC.intro cdX7_whyNotRemoved (by decide) (by decide) (Nat.le_of_ble_eq_true rfl) (loc := [some (xR 140), some (xI c), some (xI r), some (xI n)]) rfl (fun X hX => ?_)
  have hc0 := hc
  have hr0 := hr
  have hn0 := hn
  unfold InR at hc0 hr0 hn0
  unfold dRem at hdd
  refine x_iload_n (pc := 0) hX rfl rfl dX7_whyNotRemoved_0 ?_
  refine x_cS_P (pc := 1) hX (tX7_isColumn c hc) lk_X7_76 rfl rfl (Nat.le_of_ble_eq_true rfl) (by decide) (Nat.zero_le _) (Nat.zero_le _) dX7_whyNotRemoved_1 ?_
  by_cases hcc1 : 0 ≤ c ∧ c ≤ 3
  · rw [if_pos hcc1]
    have hl := (hS.col (c := c.toNat) (by omega)).len
    refine x_if_eq (pc := 4) (tgt := 16) hX dX7_whyNotRemoved_4 (by decide) (by omega) (fun h4 => ?_) (fun h4 => ?_)
    · exfalso; omega
    · refine x_aload_n (pc := 7) hX rfl rfl dX7_whyNotRemoved_7 ?_
      refine x_iload_n (pc := 8) hX rfl rfl dX7_whyNotRemoved_8 ?_
      refine x_iload_n (pc := 9) hX rfl rfl dX7_whyNotRemoved_9 ?_
      refine x_top2 (congrArg xI (show c = ((c.toNat : Nat) : Int) by omega)) ?_
      refine x_cV_P (pc := 10) hX (tX7_isRow hK hS c.toNat (by omega) r hr) hK.1 rfl lk_X7_101 rfl rfl (Nat.le_of_ble_eq_true rfl) (by decide) (Nat.zero_le _) (Nat.zero_le _) dX7_whyNotRemoved_10 ?_
      by_cases hrr : 0 ≤ r ∧ r ≤ ((cs c.toNat).length : Int) - 1
      · rw [if_pos hrr]
        rw [if_neg (by omega)] at hdd
        refine x_if_ne (pc := 13) (tgt := 18) hX dX7_whyNotRemoved_13 (by decide) (by omega) (fun h13 => ?_) (fun h13 => ?_)
        · refine x_iload_n (pc := 18) hX rfl rfl dX7_whyNotRemoved_18 ?_
          refine x_iconst (pc := 19) hX dX7_whyNotRemoved_19 ?_
          refine x_icmp_ge (pc := 20) (tgt := 28) hX dX7_whyNotRemoved_20 (by decide) (by omega) (fun h20 => ?_) (fun h20 => ?_)
          · rw [if_neg (by omega)] at hdd
            refine x_iload_n (pc := 28) hX rfl rfl dX7_whyNotRemoved_28 ?_
            refine x_aload_n (pc := 29) hX rfl rfl dX7_whyNotRemoved_29 ?_
            refine x_iload_n (pc := 30) hX rfl rfl dX7_whyNotRemoved_30 ?_
            refine x_top (congrArg xI (show c = ((c.toNat : Nat) : Int) by omega)) ?_
            refine x_cV_P (pc := 31) hX (tX7_rowsOf hK hS c.toNat (by omega)) hK.1 rfl lk_X7_60 rfl rfl (Nat.le_of_ble_eq_true rfl) (by decide) (Nat.zero_le _) (Nat.zero_le _) dX7_whyNotRemoved_31 ?_
            refine x_iload_n (pc := 34) hX rfl rfl dX7_whyNotRemoved_34 ?_
            refine x_isub (pc := 35) hX dX7_whyNotRemoved_35 rfl ?_
            refine x_icmp_le (pc := 36) (tgt := 44) hX dX7_whyNotRemoved_36 (by decide) (by omega) (fun h36 => ?_) (fun h36 => ?_)
            · rw [if_neg (by omega)] at hdd
              subst hdd
              refine x_iconst (pc := 44) hX dX7_whyNotRemoved_44 ?_
              refine x_iret (pc := 45) hX rfl (Nat.zero_le _) (Nat.zero_le _) dX7_whyNotRemoved_45 ?_
              exact pP_i rfl
            · rw [if_pos (by omega)] at hdd
              subst hdd
              refine x_bipush (pc := 39) hX (by decide) dX7_whyNotRemoved_39 ?_
              refine x_goto (pc := 41) (tgt := 45) hX dX7_whyNotRemoved_41 (by decide) ?_
              refine x_iret (pc := 45) hX rfl (Nat.zero_le _) (Nat.zero_le _) dX7_whyNotRemoved_45 ?_
              exact pP_i rfl
          · rw [if_pos (by omega)] at hdd
            subst hdd
            refine x_bipush (pc := 23) hX (by decide) dX7_whyNotRemoved_23 ?_
            refine x_goto (pc := 25) (tgt := 45) hX dX7_whyNotRemoved_25 (by decide) ?_
            refine x_iret (pc := 45) hX rfl (Nat.zero_le _) (Nat.zero_le _) dX7_whyNotRemoved_45 ?_
            exact pP_i rfl
        · exfalso; omega
      · rw [if_neg hrr]
        refine x_if_ne (pc := 13) (tgt := 18) hX dX7_whyNotRemoved_13 (by decide) (by omega) (fun h13 => ?_) (fun h13 => ?_)
        · exfalso; omega
        · refine x_iconst (pc := 16) hX dX7_whyNotRemoved_16 ?_
          refine x_iret (pc := 17) hX rfl (Nat.zero_le _) (Nat.zero_le _) dX7_whyNotRemoved_17 ?_
          rw [if_pos (by omega)] at hdd
          subst hdd
          exact pP_i rfl
  · rw [if_neg hcc1]
    refine x_if_eq (pc := 4) (tgt := 16) hX dX7_whyNotRemoved_4 (by decide) (by omega) (fun h4 => ?_) (fun h4 => ?_)
    · refine x_iconst (pc := 16) hX dX7_whyNotRemoved_16 ?_
      refine x_iret (pc := 17) hX rfl (Nat.zero_le _) (Nat.zero_le _) dX7_whyNotRemoved_17 ?_
      rw [if_pos (by omega)] at hdd
      subst hdd
      exact pP_i rfl
    · exfalso; omega

set_option maxHeartbeats 4000000 in
set_option maxRecDepth 100000 in
theorem tX7_removes {G : XG} {κ : XKs} {M : XM} {hs : Nat} (hK : KM κ hs) {cs : Cs} (hS : MS (M 141) 0 cs) (c : Nat) (hc : c < 4) (r n : Nat) (hr : r < (cs c).length) (hn : 1 ≤ n ∧ n ≤ (cs c).length - r) : XC G mX7_removes 2 0 0 [xR 140, xI (c : Int), xI (r : Int), xI (n : Int)] κ M hs (pI κ hs (fun a M' => a = ((enc ((cs c).take r ++ (cs c).drop (r + n))).length : Int) ∧ MC (M' 141) (81 * c) ((cs c).take r ++ (cs c).drop (r + n)) ∧ Chg (PT c) M M')) := by
  refine XC.intro cdX7_removes (by decide) (by decide) (Nat.le_of_ble_eq_true rfl) (loc := [some (xR 140), some (xI (c : Int)), some (xI (r : Int)), some (xI (n : Int)), none]) rfl (fun X hX => ?_)
  have hl := (hS.col hc).len
  have loop : ∀ (n9 k : Nat) (M1 : XM), r ≤ k → k ≤ (cs c).length - n → (cs c).length - n < k + n9 → M1 140 8 = ((cs c).length - n : Int) → (∀ i, i < r → M1 146 i = (chr (cs c) i : Int)) → (∀ i, k ≤ i → i < (cs c).length → M1 146 i = (chr (cs c) i : Int)) → (∀ i, r ≤ i → i < k → M1 146 i = (chr (cs c) (i + n) : Int)) → Chg PL M M1 → XW G X mX7_removes (xq G (pI κ hs (fun a M' => a = ((enc ((cs c).take r ++ (cs c).drop (r + n))).length : Int) ∧ MC (M' 141) (81 * c) ((cs c).take r ++ (cs c).drop (r + n)) ∧ Chg (PT c) M M')) 0 0 X) 0 0 18 [some (xR 140), some (xI (c : Int)), some (xI (r : Int)), some (xI (n : Int)), some (xI (k : Int))] [] κ M1 hs := by
    intro n9
    induction n9 with
    | zero => intro k M1 h1 h2; omega
    | succ n9 ih =>
      intro k M1 h1 h2 h3 hm1 ha1 hb1 hd1 hq1
      refine x_iload (pc := 18) hX rfl dX7_removes_18 ?_
      refine x_aload_n (pc := 20) hX rfl rfl dX7_removes_20 ?_
      refine x_getI (pc := 21) (v := ((cs c).length - n : Int)) hX fl_X7_63 hK.1 rfl hm1 dX7_removes_21 ?_
      refine x_icmp_ge (pc := 24) (tgt := 49) hX dX7_removes_24 (by decide) (by omega) (fun h24 => ?_) (fun h24 => ?_)
      · obtain rfl : k = (cs c).length - n := by omega
        refine x_aload_n (pc := 49) hX rfl rfl dX7_removes_49 ?_
        refine x_iload_n (pc := 50) hX rfl rfl dX7_removes_50 ?_
        have hlen : ((cs c).take r ++ (cs c).drop (r + n)).length = (cs c).length - n := by
          rw [List.length_append, List.length_take, List.length_drop]
          omega
        have hL3 : Lay M1 ((cs c).take r ++ (cs c).drop (r + n)) := by
          refine ⟨by rw [hlen, hm1]; omega, by omega, fun i hi => ?_⟩
          rw [hlen] at hi
          have htl : ((cs c).take r).length = r := by rw [List.length_take]; omega
          by_cases e : i < r
          · rw [chr_l _ (by omega), chr_take e]
            exact ha1 i e
          · obtain ⟨j, rfl⟩ : ∃ j, i = r + j := ⟨i - r, by omega⟩
            have e3 := chr_r ((cs c).take r) ((cs c).drop (r + n)) j
            rw [htl] at e3
            rw [e3, chr_drop, hd1 _ (by omega) (by omega)]
            congr 2
            omega
        have hS1 : MS (M1 141) 0 cs := by rw [hq1.cell (fun f => by unfold PL; omega)]; exact hS
        have hok : Ok (cs c) := (hS.col hc).2.2
        have hfit := fit_rem hok.1 r (r + n) (by omega)
        refine x_cV_V (pc := 51) hX (tX7_gets hK hL3 hfit (dCut_ok hok) c hc) hK.1 rfl lk_X7_98 rfl rfl (Nat.le_of_ble_eq_true rfl) (by decide) (Nat.zero_le _) (Nat.zero_le _) dX7_removes_51 (fun M2 hp => ?_)
        obtain ⟨hG2, hq2⟩ := hp
        have hS2 := hS1.up (fun j hj => hq2.at (by unfold PG; omega)) hG2
        refine x_aload_n (pc := 54) hX rfl rfl dX7_removes_54 ?_
        refine x_iload_n (pc := 55) hX rfl rfl dX7_removes_55 ?_
        refine x_cV_P (pc := 56) hX (tX7_runsOf hK hS2 c hc) hK.1 rfl lk_X7_52 rfl rfl (Nat.le_of_ble_eq_true rfl) (by decide) (Nat.zero_le _) (Nat.zero_le _) dX7_removes_56 ?_
        refine x_top (congrArg (fun z => xI ((enc z).length : Int)) upC_eq) ?_
        refine x_iret (pc := 59) hX rfl (Nat.zero_le _) (Nat.zero_le _) dX7_removes_59 ?_
        exact pI_i ⟨rfl, hG2, (hq1.mono (fun q f z => Or.inl z.pb)).tr (hq2.mono (fun q f => Or.inr))⟩
      · have hkn : k < (cs c).length - n := by omega
        refine x_aload_n (pc := 27) hX rfl rfl dX7_removes_27 ?_
        refine x_getR (pc := 28) hX fl_X7_25 hK.1 rfl dX7_removes_28 ?_
        refine x_iload (pc := 31) hX rfl dX7_removes_31 ?_
        refine x_aload_n (pc := 33) hX rfl rfl dX7_removes_33 ?_
        refine x_getR (pc := 34) hX fl_X7_25 hK.1 rfl dX7_removes_34 ?_
        refine x_iload (pc := 37) hX rfl dX7_removes_37 ?_
        refine x_iload_n (pc := 39) hX rfl rfl dX7_removes_39 ?_
        refine x_iadd (pc := 40) hX dX7_removes_40 rfl ?_
        refine x_iald (pc := 41) (j := k + n) (v := (chr (cs c) (k + n) : Int)) hX hK.2.2.2.2.2.2.1 (by omega) (by omega) (by decide) (hb1 (k + n) (by omega) (by omega)) dX7_removes_41 ?_
        refine x_iast (pc := 42) (j := k) hX hK.2.2.2.2.2.2.1 (by omega) (by omega) (by decide) dX7_removes_42 ?_
        refine x_iinc (pc := 43) (v := ((k + 1 : Nat) : Int)) hX dX7_removes_43 rfl (by decide) rfl (by omega) rfl ?_
        refine x_goto (pc := 46) (tgt := 18) hX dX7_removes_46 (by decide) ?_
        refine ih (k + 1) _ (by omega) (by omega) (by omega) (by rw [mput_ne _ _ _ (by decide)]; exact hm1) (fun i hi => ?_) (fun i h5 h6 => ?_) (fun i h5 h6 => ?_) (hq1.tr (Chg.put (Or.inl rfl)))
        · rw [mp_ne _ _ (by omega)]
          exact ha1 i hi
        · rw [mp_ne _ _ (by omega)]
          exact hb1 i (by omega) h6
        · by_cases e : i = k
          · subst e
            exact mp_eq _ _ _ _
          · rw [mp_ne _ _ (by omega)]
            exact hd1 i h5 (by omega)
  refine x_aload_n (pc := 0) hX rfl rfl dX7_removes_0 ?_
  refine x_iload_n (pc := 1) hX rfl rfl dX7_removes_1 ?_
  refine x_cV_V (pc := 2) hX (tX7_layOut hK hS c hc) hK.1 rfl lk_X7_83 rfl rfl (Nat.le_of_ble_eq_true rfl) (by decide) (Nat.zero_le _) (Nat.zero_le _) dX7_removes_2 (fun M1 hp => ?_)
  obtain ⟨hL1, hq1⟩ := hp
  refine x_aload_n (pc := 5) hX rfl rfl dX7_removes_5 ?_
  refine x_dup (pc := 6) hX rfl dX7_removes_6 ?_
  refine x_getI (pc := 7) (v := ((cs c).length : Int)) hX fl_X7_63 hK.1 rfl hL1.1 dX7_removes_7 ?_
  refine x_iload_n (pc := 10) hX rfl rfl dX7_removes_10 ?_
  refine x_isub (pc := 11) (v := ((cs c).length - n : Int)) hX dX7_removes_11 rfl ?_
  refine x_putI (pc := 12) hX fl_X7_63 hK.1 rfl rfl rfl dX7_removes_12 ?_
  refine x_iload_n (pc := 15) hX rfl rfl dX7_removes_15 ?_
  refine x_istore (pc := 16) hX (by decide) rfl rfl dX7_removes_16 ?_
  refine loop ((cs c).length + 1) r _ (Nat.le_refl _) (by omega) (by omega) (mp_eq _ _ _ _) (fun i hi => by rw [mput_ne _ _ _ (by decide)]; exact hL1.2.2 i (by omega)) (fun i h5 h6 => by rw [mput_ne _ _ _ (by decide)]; exact hL1.2.2 i h6) (fun i h5 h6 => absurd h6 (by omega)) (hq1.tr (Chg.put (Or.inr ⟨rfl, rfl⟩)))

theorem dRem_inr {cs : Cs} {c r n : Int} {l : List Nat} (h : dRem cs c r n = .inr l) : (0 ≤ c ∧ c < 4) ∧ (0 ≤ r ∧ r < (cs c.toNat).length) ∧ (1 ≤ n ∧ n ≤ (cs c.toNat).length - r) ∧ (cs c.toNat).take r.toNat ++ (cs c.toNat).drop (r.toNat + n.toNat) = l := by
  unfold dRem at h
  split at h
  · cases h
  · split at h
    · cases h
    · split at h
      · cases h
      · cases h
        exact ⟨by omega, by omega, by omega, rfl⟩
set_option maxHeartbeats 4000000 in
set_option maxRecDepth 100000 in
theorem tX7_remove {G : XG} {κ : XKs} {M : XM} {hs : Nat} (hK : KM κ hs) {S : Sx} (hS : RM M S) (c r n : Int) (hc : InR c) (hr : InR r) (hn : InR n) {dd : Int ⊕ List Nat} (hdd : dRem S.1 c r n = dd) {R : Int × Sx} (hR : sDo S c dd (fun l => ((enc l).length : Int)) = R) : XC G mX7_remove 4 0 0 [xR 140, xI c, xI r, xI n] κ M hs (pI κ hs (fun a M' => a = R.1 ∧ RM M' R.2 ∧ Chg PA M M')) := by
  refine XC.intro cdX7_remove (by decide) (by decide) (Nat.le_of_ble_eq_true rfl) (loc := [some (xR 140), some (xI c), some (xI r), some (xI n), none]) rfl (fun X hX => ?_)
  have hc0 := hc
  have hr0 := hr
  have hn0 := hn
  unfold InR at hc0 hr0 hn0
  refine x_aload_n (pc := 0) hX rfl rfl dX7_remove_0 ?_
  refine x_iload_n (pc := 1) hX rfl rfl dX7_remove_1 ?_
  refine x_iload_n (pc := 2) hX rfl rfl dX7_remove_2 ?_
  refine x_iload_n (pc := 3) hX rfl rfl dX7_remove_3 ?_
  refine x_cV_P (pc := 4) hX (tX7_whyNotRemoved hK hS.1 c r n hc hr hn hdd) hK.1 rfl lk_X7_105 rfl rfl (Nat.le_of_ble_eq_true rfl) (by decide) (Nat.zero_le _) (Nat.zero_le _) dX7_remove_4 ?_
  by_cases hin : ∃ e, dd = .inl e
  · obtain ⟨e, rfl⟩ := hin
    have hne := dRem_ne hdd
    have hw : whyN (.inl e) = e := rfl
    rw [hw]
    subst hR
    refine x_istore (pc := 7) hX (by decide) rfl rfl dX7_remove_7 ?_
    refine x_iload (pc := 9) hX rfl dX7_remove_9 ?_
    refine x_if_ge (pc := 11) (tgt := 17) hX dX7_remove_11 (by decide) (by omega) (fun h11 => ?_) (fun h11 => ?_)
    · exfalso; omega
    · refine x_iload (pc := 14) hX rfl dX7_remove_14 ?_
      refine x_iret (pc := 16) hX rfl (Nat.zero_le _) (Nat.zero_le _) dX7_remove_16 ?_
      exact pI_i ⟨rfl, hS, Chg.rf⟩
  · obtain ⟨l, rfl⟩ : ∃ l, dd = .inr l := by
      cases dd with
      | inl e => exact absurd ⟨e, rfl⟩ hin
      | inr l => exact ⟨l, rfl⟩
    have hw : whyN (.inr l) = 0 := rfl
    rw [hw]
    subst hR
    have hpp := dRem_inr hdd
    obtain ⟨hcc, hrr, hnn, rfl⟩ := hpp
    refine x_istore (pc := 7) hX (by decide) rfl rfl dX7_remove_7 ?_
    refine x_iload (pc := 9) hX rfl dX7_remove_9 ?_
    refine x_if_ge (pc := 11) (tgt := 17) hX dX7_remove_11 (by decide) (by omega) (fun h11 => ?_) (fun h11 => ?_)
    · refine x_aload_n (pc := 17) hX rfl rfl dX7_remove_17 ?_
      refine x_cV_V (pc := 18) hX (tX7_record hK hS.1 hS.2.1) hK.1 rfl lk_X7_95 rfl rfl (Nat.le_of_ble_eq_true rfl) (by decide) (Nat.zero_le _) (Nat.zero_le _) dX7_remove_18 (fun M3 hp => ?_)
      obtain ⟨hH3, hq3⟩ := hp
      have hR3 := hS.rec hq3 hH3
      refine x_aload_n (pc := 21) hX rfl rfl dX7_remove_21 ?_
      refine x_iload_n (pc := 22) hX rfl rfl dX7_remove_22 ?_
      refine x_iload_n (pc := 23) hX rfl rfl dX7_remove_23 ?_
      refine x_iload_n (pc := 24) hX rfl rfl dX7_remove_24 ?_
      refine x_top3 (congrArg xI (show c = ((c.toNat : Nat) : Int) by omega)) ?_
      refine x_top2 (congrArg xI (show r = ((r.toNat : Nat) : Int) by omega)) ?_
      refine x_top (congrArg xI (show n = ((n.toNat : Nat) : Int) by omega)) ?_
      refine x_cV_I (pc := 25) hX (tX7_removes hK hR3.1 c.toNat (by omega) r.toNat n.toNat (show r.toNat < (S.1 c.toNat).length by omega) (show 1 ≤ n.toNat ∧ n.toNat ≤ (S.1 c.toNat).length - r.toNat by omega)) hK.1 rfl lk_X7_109 rfl rfl (Nat.le_of_ble_eq_true rfl) (by decide) (Nat.zero_le _) (Nat.zero_le _) dX7_remove_25 (fun a M4 hp => ?_)
      obtain ⟨rfl, hG4, hq4⟩ := hp
      have hR4 := hR3.gets hq4 hG4
      refine x_iret (pc := 28) hX rfl (Nat.zero_le _) (Nat.zero_le _) dX7_remove_28 ?_
      exact pI_i ⟨rfl, hR4, (hq3.mono (fun q f => PH.pa)).tr (hq4.mono (fun q f => PT.pa))⟩
    · exfalso; omega

set_option maxHeartbeats 4000000 in
set_option maxRecDepth 100000 in
theorem tX7_whyNotSet {G : XG} {κ : XKs} {M : XM} {hs : Nat} (hK : KM κ hs) {cs : Cs} (hS : MS (M 141) 0 cs) (c r v : Int) (hc : InR c) (hr : InR r) (hv : InR v) {dd : Int ⊕ List Nat} (hdd : dSet cs c r v = dd) : XC G mX7_whyNotSet 3 0 0 [xR 140, xI c, xI r, xI v] κ M hs (pI κ hs (fun a M' => a = whyN dd ∧ Chg PL M M' ∧ ∀ l, dd = .inr l → Lay M' l)) := by
  refine XC.intro cdX7_whyNotSet (by decide) (by decide) (Nat.le_of_ble_eq_true rfl) (loc := [some (xR 140), some (xI c), some (xI r), some (xI v)]) rfl (fun X hX => ?_)
  have hc0 := hc
  have hr0 := hr
  have hv0 := hv
  unfold InR at hc0 hr0 hv0
  unfold dSet at hdd
  refine x_iload_n (pc := 0) hX rfl rfl dX7_whyNotSet_0 ?_
  refine x_cS_P (pc := 1) hX (tX7_isColumn c hc) lk_X7_76 rfl rfl (Nat.le_of_ble_eq_true rfl) (by decide) (Nat.zero_le _) (Nat.zero_le _) dX7_whyNotSet_1 ?_
  by_cases hcc1 : 0 ≤ c ∧ c ≤ 3
  · rw [if_pos hcc1]
    have hl := (hS.col (c := c.toNat) (by omega)).len
    have hok := (hS.col (c := c.toNat) (by omega)).2.2
    refine x_if_eq (pc := 4) (tgt := 16) hX dX7_whyNotSet_4 (by decide) (by omega) (fun h4 => ?_) (fun h4 => ?_)
    · exfalso; omega
    · refine x_aload_n (pc := 7) hX rfl rfl dX7_whyNotSet_7 ?_
      refine x_iload_n (pc := 8) hX rfl rfl dX7_whyNotSet_8 ?_
      refine x_iload_n (pc := 9) hX rfl rfl dX7_whyNotSet_9 ?_
      refine x_top2 (congrArg xI (show c = ((c.toNat : Nat) : Int) by omega)) ?_
      refine x_cV_P (pc := 10) hX (tX7_isRow hK hS c.toNat (by omega) r hr) hK.1 rfl lk_X7_101 rfl rfl (Nat.le_of_ble_eq_true rfl) (by decide) (Nat.zero_le _) (Nat.zero_le _) dX7_whyNotSet_10 ?_
      by_cases hrr : 0 ≤ r ∧ r ≤ ((cs c.toNat).length : Int) - 1
      · rw [if_pos hrr]
        rw [if_neg (by omega)] at hdd
        refine x_if_ne (pc := 13) (tgt := 18) hX dX7_whyNotSet_13 (by decide) (by omega) (fun h13 => ?_) (fun h13 => ?_)
        · refine x_iload_n (pc := 18) hX rfl rfl dX7_whyNotSet_18 ?_
          refine x_cS_P (pc := 19) hX (tX7_isValue v hv) lk_X7_80 rfl rfl (Nat.le_of_ble_eq_true rfl) (by decide) (Nat.zero_le _) (Nat.zero_le _) dX7_whyNotSet_19 ?_
          by_cases hvv19 : 0 ≤ v ∧ v ≤ 9
          · rw [if_pos hvv19]
            rw [if_neg (by omega)] at hdd
            have hv9 := dSet_ok (k := r.toNat + 1) (r := r.toNat) (v := v.toNat) hok (by omega)
            refine x_if_ne (pc := 22) (tgt := 28) hX dX7_whyNotSet_22 (by decide) (by omega) (fun h22 => ?_) (fun h22 => ?_)
            · refine x_aload_n (pc := 28) hX rfl rfl dX7_whyNotSet_28 ?_
              refine x_iload_n (pc := 29) hX rfl rfl dX7_whyNotSet_29 ?_
              refine x_top (congrArg xI (show c = ((c.toNat : Nat) : Int) by omega)) ?_
              refine x_cV_V (pc := 30) hX (tX7_layOut hK hS c.toNat (by omega)) hK.1 rfl lk_X7_83 rfl rfl (Nat.le_of_ble_eq_true rfl) (by decide) (Nat.zero_le _) (Nat.zero_le _) dX7_whyNotSet_30 (fun M1 hp => ?_)
              obtain ⟨hL1, hq1⟩ := hp
              refine x_aload_n (pc := 33) hX rfl rfl dX7_whyNotSet_33 ?_
              refine x_getR (pc := 34) hX fl_X7_25 hK.1 rfl dX7_whyNotSet_34 ?_
              refine x_iload_n (pc := 37) hX rfl rfl dX7_whyNotSet_37 ?_
              refine x_iload_n (pc := 38) hX rfl rfl dX7_whyNotSet_38 ?_
              refine x_iast (pc := 39) (j := r.toNat) hX hK.2.2.2.2.2.2.1 (by omega) (by omega) (by decide) dX7_whyNotSet_39 ?_
              have hL2 : Lay (mput M1 146 r.toNat v) ((cs c.toNat).take r.toNat ++ [v.toNat] ++ (cs c.toNat).drop (r.toNat + 1)) := by
                have htl : ((cs c.toNat).take r.toNat).length = r.toNat := by rw [List.length_take]; omega
                have hlen : ((cs c.toNat).take r.toNat ++ [v.toNat] ++ (cs c.toNat).drop (r.toNat + 1)).length = (cs c.toNat).length := by
                  rw [List.length_append, List.length_append, htl, List.length_drop]
                  show r.toNat + 1 + _ = _
                  omega
                refine ⟨by rw [mput_ne _ _ _ (by decide), hlen]; exact hL1.1, by omega, fun i hi => ?_⟩
                rw [hlen] at hi
                by_cases e1 : i < r.toNat
                · rw [mp_ne _ _ (by omega), List.append_assoc, chr_l _ (by omega), chr_take e1]
                  exact hL1.2.2 i hi
                · by_cases e2 : i = r.toNat
                  · rw [e2, mp_eq, List.append_assoc]
                    have e3 : chr ((cs c.toNat).take r.toNat ++ ([v.toNat] ++ (cs c.toNat).drop (r.toNat + 1))) r.toNat = chr ([v.toNat] ++ (cs c.toNat).drop (r.toNat + 1)) 0 := by
                      have e4 := chr_r ((cs c.toNat).take r.toNat) ([v.toNat] ++ (cs c.toNat).drop (r.toNat + 1)) 0
                      rw [htl] at e4
                      exact e4
                    rw [e3]
                    show v = ((v.toNat : Nat) : Int)
                    omega
                  · rw [mp_ne _ _ e2]
                    obtain ⟨j, rfl⟩ : ∃ j, i = r.toNat + 1 + j := ⟨i - r.toNat - 1, by omega⟩
                    have htl2 : ((cs c.toNat).take r.toNat ++ [v.toNat]).length = r.toNat + 1 := by rw [List.length_append, htl]; rfl
                    have e3 := chr_r ((cs c.toNat).take r.toNat ++ [v.toNat]) ((cs c.toNat).drop (r.toNat + 1)) j
                    rw [htl2] at e3
                    rw [e3, chr_drop]
                    exact hL1.2.2 _ hi
              have hq2 := hq1.tr (Chg.put (a := 146) (j := r.toNat) (v := v) (Or.inl rfl))
              refine x_aload_n (pc := 40) hX rfl rfl dX7_whyNotSet_40 ?_
              refine x_cV_P (pc := 41) hX (tX7_isTooMany hK hL2 hv9) hK.1 rfl lk_X7_91 rfl rfl (Nat.le_of_ble_eq_true rfl) (by decide) (Nat.zero_le _) (Nat.zero_le _) dX7_whyNotSet_41 ?_
              by_cases hfit : ((cs c.toNat).take r.toNat ++ [v.toNat] ++ (cs c.toNat).drop (r.toNat + 1)).length ≤ 999 ∧ (enc ((cs c.toNat).take r.toNat ++ [v.toNat] ++ (cs c.toNat).drop (r.toNat + 1))).length ≤ 40
              · rw [if_pos hfit]
                unfold dFin at hdd
                rw [if_pos hfit] at hdd
                subst hdd
                refine x_if_eq (pc := 44) (tgt := 52) hX dX7_whyNotSet_44 (by decide) (by omega) (fun h44 => ?_) (fun h44 => ?_)
                · refine x_iconst (pc := 52) hX dX7_whyNotSet_52 ?_
                  refine x_iret (pc := 53) hX rfl (Nat.zero_le _) (Nat.zero_le _) dX7_whyNotSet_53 ?_
                  exact pI_i ⟨rfl, hq2, fun l hl => (by cases hl; exact hL2)⟩
                · exfalso; omega
              · rw [if_neg hfit]
                unfold dFin at hdd
                rw [if_neg hfit] at hdd
                subst hdd
                refine x_if_eq (pc := 44) (tgt := 52) hX dX7_whyNotSet_44 (by decide) (by omega) (fun h44 => ?_) (fun h44 => ?_)
                · exfalso; omega
                · refine x_bipush (pc := 47) hX (by decide) dX7_whyNotSet_47 ?_
                  refine x_goto (pc := 49) (tgt := 53) hX dX7_whyNotSet_49 (by decide) ?_
                  refine x_iret (pc := 53) hX rfl (Nat.zero_le _) (Nat.zero_le _) dX7_whyNotSet_53 ?_
                  exact pI_i ⟨rfl, hq2, fun l hl => (by cases hl)⟩
            · exfalso; omega
          · rw [if_neg hvv19]
            refine x_if_ne (pc := 22) (tgt := 28) hX dX7_whyNotSet_22 (by decide) (by omega) (fun h22 => ?_) (fun h22 => ?_)
            · exfalso; omega
            · refine x_bipush (pc := 25) hX (by decide) dX7_whyNotSet_25 ?_
              refine x_iret (pc := 27) hX rfl (Nat.zero_le _) (Nat.zero_le _) dX7_whyNotSet_27 ?_
              rw [if_pos (by omega)] at hdd
              subst hdd
              exact pI_i ⟨rfl, Chg.rf, fun l hl => (by cases hl)⟩
        · exfalso; omega
      · rw [if_neg hrr]
        refine x_if_ne (pc := 13) (tgt := 18) hX dX7_whyNotSet_13 (by decide) (by omega) (fun h13 => ?_) (fun h13 => ?_)
        · exfalso; omega
        · refine x_iconst (pc := 16) hX dX7_whyNotSet_16 ?_
          refine x_iret (pc := 17) hX rfl (Nat.zero_le _) (Nat.zero_le _) dX7_whyNotSet_17 ?_
          rw [if_pos (by omega)] at hdd
          subst hdd
          exact pI_i ⟨rfl, Chg.rf, fun l hl => (by cases hl)⟩
  · rw [if_neg hcc1]
    refine x_if_eq (pc := 4) (tgt := 16) hX dX7_whyNotSet_4 (by decide) (by omega) (fun h4 => ?_) (fun h4 => ?_)
    · refine x_iconst (pc := 16) hX dX7_whyNotSet_16 ?_
      refine x_iret (pc := 17) hX rfl (Nat.zero_le _) (Nat.zero_le _) dX7_whyNotSet_17 ?_
      rw [if_pos (by omega)] at hdd
      subst hdd
      exact pI_i ⟨rfl, Chg.rf, fun l hl => (by cases hl)⟩
    · exfalso; omega

theorem dSet_inr {cs : Cs} {c r v : Int} {l : List Nat} (hok : ∀ c, c < 4 → Ok (cs c)) (h : dSet cs c r v = .inr l) : (0 ≤ c ∧ c < 4) ∧ (0 ≤ r ∧ r < (cs c.toNat).length) ∧ fit l ∧ ∀ w ∈ l, w ≤ 9 := by
  unfold dSet at h
  split at h
  · cases h
  · split at h
    · cases h
    · unfold dFin at h
      split at h
      · rename_i hf
        cases h
        exact ⟨by omega, by omega, hf, dSet_ok (hok _ (by omega)) (by omega)⟩
      · cases h
set_option maxHeartbeats 4000000 in
set_option maxRecDepth 100000 in
theorem tX7_set {G : XG} {κ : XKs} {M : XM} {hs : Nat} (hK : KM κ hs) {S : Sx} (hS : RM M S) (c r v : Int) (hc : InR c) (hr : InR r) (hv : InR v) {dd : Int ⊕ List Nat} (hdd : dSet S.1 c r v = dd) {R : Int × Sx} (hR : sDo S c dd (fun _ => rvO (enc (S.1 c.toNat)) (rof (enc (S.1 c.toNat)) r.toNat)) = R) : XC G mX7_set 4 0 0 [xR 140, xI c, xI r, xI v] κ M hs (pI κ hs (fun a M' => a = R.1 ∧ RM M' R.2 ∧ Chg PA M M')) := by
  refine XC.intro cdX7_set (by decide) (by decide) (Nat.le_of_ble_eq_true rfl) (loc := [some (xR 140), some (xI c), some (xI r), some (xI v), none, none]) rfl (fun X hX => ?_)
  have hc0 := hc
  have hr0 := hr
  have hv0 := hv
  unfold InR at hc0 hr0 hv0
  refine x_aload_n (pc := 0) hX rfl rfl dX7_set_0 ?_
  refine x_iload_n (pc := 1) hX rfl rfl dX7_set_1 ?_
  refine x_iload_n (pc := 2) hX rfl rfl dX7_set_2 ?_
  refine x_iload_n (pc := 3) hX rfl rfl dX7_set_3 ?_
  refine x_cV_I (pc := 4) hX (tX7_whyNotSet hK hS.1 c r v hc hr hv hdd) hK.1 rfl lk_X7_112 rfl rfl (Nat.le_of_ble_eq_true rfl) (by decide) (Nat.zero_le _) (Nat.zero_le _) dX7_set_4 (fun a M1 hp => ?_)
  obtain ⟨rfl, hq1, hL1⟩ := hp
  have hq12 := hq1.mono (fun q f => PL.ps)
  have hR1 := hS.scr hq12
  by_cases hin : ∃ e, dd = .inl e
  · obtain ⟨e, rfl⟩ := hin
    have hne := dSet_ne hdd
    have hw : whyN (.inl e) = e := rfl
    rw [hw]
    subst hR
    refine x_istore (pc := 7) hX (by decide) rfl rfl dX7_set_7 ?_
    refine x_iload (pc := 9) hX rfl dX7_set_9 ?_
    refine x_if_ge (pc := 11) (tgt := 17) hX dX7_set_11 (by decide) (by omega) (fun h11 => ?_) (fun h11 => ?_)
    · exfalso; omega
    · refine x_iload (pc := 14) hX rfl dX7_set_14 ?_
      refine x_iret (pc := 16) hX rfl (Nat.zero_le _) (Nat.zero_le _) dX7_set_16 ?_
      exact pI_i ⟨rfl, hR1, hq12.mono (fun q f => PS.pa)⟩
  · obtain ⟨l, rfl⟩ : ∃ l, dd = .inr l := by
      cases dd with
      | inl e => exact absurd ⟨e, rfl⟩ hin
      | inr l => exact ⟨l, rfl⟩
    have hw : whyN (.inr l) = 0 := rfl
    rw [hw]
    subst hR
    obtain ⟨hcc, hrr, hfit, hv9⟩ := dSet_inr (fun c hc => hS.ok hc) hdd
    have hL1 := hL1 l rfl
    refine x_istore (pc := 7) hX (by decide) rfl rfl dX7_set_7 ?_
    refine x_iload (pc := 9) hX rfl dX7_set_9 ?_
    refine x_if_ge (pc := 11) (tgt := 17) hX dX7_set_11 (by decide) (by omega) (fun h11 => ?_) (fun h11 => ?_)
    · refine x_aload_n (pc := 17) hX rfl rfl dX7_set_17 ?_
      refine x_cV_V (pc := 18) hX (tX7_record hK hR1.1 hR1.2.1) hK.1 rfl lk_X7_95 rfl rfl (Nat.le_of_ble_eq_true rfl) (by decide) (Nat.zero_le _) (Nat.zero_le _) dX7_set_18 (fun M3 hp => ?_)
      obtain ⟨hH3, hq3⟩ := hp
      have hR3 := hR1.rec hq3 hH3
      refine x_aload_n (pc := 21) hX rfl rfl dX7_set_21 ?_
      refine x_iload_n (pc := 22) hX rfl rfl dX7_set_22 ?_
      refine x_iload_n (pc := 23) hX rfl rfl dX7_set_23 ?_
      refine x_top2 (congrArg xI (show c = ((c.toNat : Nat) : Int) by omega)) ?_
      refine x_top (congrArg xI (show r = ((r.toNat : Nat) : Int) by omega)) ?_
      refine x_cV_P (pc := 24) hX (tX7_valueAt hK hR3.1 c.toNat (by omega) r.toNat (show r.toNat < (S.1 c.toNat).length by omega)) hK.1 rfl lk_X7_115 rfl rfl (Nat.le_of_ble_eq_true rfl) (by decide) (Nat.zero_le _) (Nat.zero_le _) dX7_set_24 ?_
      refine x_istore (pc := 27) hX (by decide) rfl rfl dX7_set_27 ?_
      refine x_aload_n (pc := 29) hX rfl rfl dX7_set_29 ?_
      refine x_iload_n (pc := 30) hX rfl rfl dX7_set_30 ?_
      refine x_top (congrArg xI (show c = ((c.toNat : Nat) : Int) by omega)) ?_
      refine x_cV_V (pc := 31) hX (tX7_gets hK (hL1.ph hq3) hfit hv9 c.toNat (by omega)) hK.1 rfl lk_X7_98 rfl rfl (Nat.le_of_ble_eq_true rfl) (by decide) (Nat.zero_le _) (Nat.zero_le _) dX7_set_31 (fun M4 hp => ?_)
      obtain ⟨hG4, hq4⟩ := hp
      have hR4 := hR3.gets (hq4.mono (fun q f => Or.inr)) hG4
      have hall := ((hq12.mono (fun q f => PS.pa)).tr (hq3.mono (fun q f => PH.pa))).tr (hq4.mono (fun q f => PG.pa))
      refine x_iload (pc := 34) hX rfl dX7_set_34 ?_
      refine x_iret (pc := 36) hX rfl (Nat.zero_le _) (Nat.zero_le _) dX7_set_36 ?_
      exact pI_i ⟨rfl, hR4, hall⟩
    · exfalso; omega

theorem cnt_len (l : List Nat) (v k : Nat) : ((l.take k).count v) ≤ l.count v := (List.take_sublist k l).count_le v
theorem sortTo_len (l : List Nat) (k : Nat) : (sortTo l k).length + l.count k ≤ l.length := by
  have h := count_sum_le l (k + 1)
  have h2 := List.length_filter_le (fun v => decide (v < k + 1)) l
  rw [sortTo_eq, List.length_append, List.length_replicate] at h
  omega
set_option maxHeartbeats 4000000 in
set_option maxRecDepth 100000 in
theorem tX7_sorts {G : XG} {κ : XKs} {M : XM} {hs : Nat} (hK : KM κ hs) {cs : Cs} (hS : MS (M 141) 0 cs) (c : Nat) (hc : c < 4) : XC G mX7_sorts 2 0 0 [xR 140, xI (c : Int)] κ M hs (pI κ hs (fun a M' => a = ((enc (sortTo (cs c) 10)).length : Int) ∧ MC (M' 141) (81 * c) (sortTo (cs c) 10) ∧ Chg (PT c) M M')) := by
  refine XC.intro cdX7_sorts (by decide) (by decide) (Nat.le_of_ble_eq_true rfl) (loc := [some (xR 140), some (xI (c : Int)), none, none]) rfl (fun X hX => ?_)
  have hok : Ok (cs c) := (hS.col hc).2.2
  have hl := (hS.col hc).len
  have loop : ∀ (n v : Nat) (M1 : XM) (z : Option XV), v ≤ 10 → 10 < v + n → Lay M1 (sortTo (cs c) v) → LaO M1 (cs c) → Chg PB M M1 → XW G X mX7_sorts (xq G (pI κ hs (fun a M' => a = ((enc (sortTo (cs c) 10)).length : Int) ∧ MC (M' 141) (81 * c) (sortTo (cs c) 10) ∧ Chg (PT c) M M')) 0 0 X) 0 0 12 [some (xR 140), some (xI (c : Int)), some (xI (v : Int)), z] [] κ M1 hs := by
    intro n
    induction n with
    | zero => intro v M1 z h1 h2; omega
    | succ n ih =>
      intro v M1 z h1 h2 hL hO hq1
      refine x_iload_n (pc := 12) hX rfl rfl dX7_sorts_12 ?_
      refine x_bipush (pc := 13) hX (by decide) dX7_sorts_13 ?_
      refine x_icmp_ge (pc := 15) (tgt := 70) hX dX7_sorts_15 (by decide) (by omega) (fun h15 => ?_) (fun h15 => ?_)
      · obtain rfl : v = 10 := by omega
        refine x_aload_n (pc := 70) hX rfl rfl dX7_sorts_70 ?_
        refine x_iload_n (pc := 71) hX rfl rfl dX7_sorts_71 ?_
        have hS1 : MS (M1 141) 0 cs := by rw [hq1.cell (fun f => by unfold PB; omega)]; exact hS
        refine x_cV_V (pc := 72) hX (tX7_gets hK hL (fit_sort hok) (sortTo_ok _ 10 (by decide)) c hc) hK.1 rfl lk_X7_98 rfl rfl (Nat.le_of_ble_eq_true rfl) (by decide) (Nat.zero_le _) (Nat.zero_le _) dX7_sorts_72 (fun M2 hp => ?_)
        obtain ⟨hG2, hq2⟩ := hp
        have hS2 := hS1.up (fun j hj => hq2.at (by unfold PG; omega)) hG2
        refine x_aload_n (pc := 75) hX rfl rfl dX7_sorts_75 ?_
        refine x_iload_n (pc := 76) hX rfl rfl dX7_sorts_76 ?_
        refine x_cV_P (pc := 77) hX (tX7_runsOf hK hS2 c hc) hK.1 rfl lk_X7_52 rfl rfl (Nat.le_of_ble_eq_true rfl) (by decide) (Nat.zero_le _) (Nat.zero_le _) dX7_sorts_77 ?_
        refine x_top (congrArg (fun z => xI ((enc z).length : Int)) upC_eq) ?_
        refine x_iret (pc := 80) hX rfl (Nat.zero_le _) (Nat.zero_le _) dX7_sorts_80 ?_
        exact pI_i ⟨rfl, hG2, (hq1.mono (fun q f z => Or.inl z)).tr (hq2.mono (fun q f => Or.inr))⟩
      · have hv10 : v < 10 := by omega
        have loopk : ∀ (n k : Nat) (acc : List Nat) (M1 : XM), k ≤ (cs c).length → (cs c).length < k + n → Lay M1 acc → LaO M1 (cs c) → Chg PB M M1 → acc = sortTo (cs c) v ++ List.replicate (((cs c).take k).count v) v → XW G X mX7_sorts (xq G (pI κ hs (fun a M' => a = ((enc (sortTo (cs c) 10)).length : Int) ∧ MC (M' 141) (81 * c) (sortTo (cs c) 10) ∧ Chg (PT c) M M')) 0 0 X) 0 0 20 [some (xR 140), some (xI (c : Int)), some (xI (v : Int)), some (xI (k : Int))] [] κ M1 hs := by
          intro n
          induction n with
          | zero => intro k acc M1 h1 h2; omega
          | succ n ihk =>
            intro k acc M1 h1 h2 hL hO hq1 hacc
            refine x_iload_n (pc := 20) hX rfl rfl dX7_sorts_20 ?_
            refine x_aload_n (pc := 21) hX rfl rfl dX7_sorts_21 ?_
            refine x_getI (pc := 22) (v := ((cs c).length : Int)) hX fl_X7_69 hK.1 rfl hO.1 dX7_sorts_22 ?_
            refine x_icmp_ge (pc := 25) (tgt := 64) hX dX7_sorts_25 (by decide) (by omega) (fun h25 => ?_) (fun h25 => ?_)
            · obtain rfl : k = (cs c).length := by omega
              rw [List.take_length, ← sortTo_eq] at hacc
              subst hacc
              refine x_iinc (pc := 64) (v := ((v + 1 : Nat) : Int)) hX dX7_sorts_64 rfl (by decide) rfl (by omega) rfl ?_
              refine x_goto (pc := 67) (tgt := 12) hX dX7_sorts_67 (by decide) ?_
              exact ih (v + 1) M1 _ (by omega) (by omega) hL hO hq1
            · have hkn : k < (cs c).length := by omega
              have hch : chr (cs c) k ≤ 9 := hok.2 _ (chr_mem hkn)
              have htk := take_snoc hkn
              have hcl := cnt_len (cs c) v k
              have hsl := sortTo_len (cs c) v
              have hacl : acc.length ≤ 999 := by rw [hacc, List.length_append, List.length_replicate]; omega
              refine x_aload_n (pc := 28) hX rfl rfl dX7_sorts_28 ?_
              refine x_getR (pc := 29) hX fl_X7_28 hK.1 rfl dX7_sorts_29 ?_
              refine x_iload_n (pc := 32) hX rfl rfl dX7_sorts_32 ?_
              refine x_iald (pc := 33) (j := k) (v := (chr (cs c) k : Int)) hX hK.2.2.2.2.2.2.2.1 (by omega) (by omega) (by decide) (hO.2.2 k hkn) dX7_sorts_33 ?_
              refine x_iload_n (pc := 34) hX rfl rfl dX7_sorts_34 ?_
              refine x_icmp_ne (pc := 35) (tgt := 58) hX dX7_sorts_35 (by decide) (by omega) (fun h35 => ?_) (fun h35 => ?_)
              · refine x_iinc (pc := 58) (v := ((k + 1 : Nat) : Int)) hX dX7_sorts_58 rfl (by decide) rfl (by omega) rfl ?_
                refine x_goto (pc := 61) (tgt := 20) hX dX7_sorts_61 (by decide) ?_
                exact ihk (k + 1) acc M1 (by omega) (by omega) hL hO hq1 (by rw [hacc, htk, List.count_append, List.count_singleton, if_neg (by simp; omega), Nat.add_zero])
              · refine x_aload_n (pc := 38) hX rfl rfl dX7_sorts_38 ?_
                refine x_getR (pc := 39) hX fl_X7_25 hK.1 rfl dX7_sorts_39 ?_
                refine x_aload_n (pc := 42) hX rfl rfl dX7_sorts_42 ?_
                refine x_getI (pc := 43) (v := (acc.length : Int)) hX fl_X7_63 hK.1 rfl hL.1 dX7_sorts_43 ?_
                refine x_iload_n (pc := 46) hX rfl rfl dX7_sorts_46 ?_
                refine x_iast (pc := 47) (j := acc.length) hX hK.2.2.2.2.2.2.1 (by omega) (by omega) (by decide) dX7_sorts_47 ?_
                refine x_aload_n (pc := 48) hX rfl rfl dX7_sorts_48 ?_
                refine x_dup (pc := 49) hX rfl dX7_sorts_49 ?_
                refine x_getI (pc := 50) (v := (acc.length : Int)) hX fl_X7_63 hK.1 rfl (by rw [mput_ne _ _ _ (by decide)]; exact hL.1) dX7_sorts_50 ?_
                refine x_iconst (pc := 53) hX dX7_sorts_53 ?_
                refine x_iadd (pc := 54) (v := ((acc.length + 1 : Nat) : Int)) hX dX7_sorts_54 (by omega) ?_
                refine x_putI (pc := 55) hX fl_X7_63 hK.1 rfl rfl rfl dX7_sorts_55 ?_
                refine x_iinc (pc := 58) (v := ((k + 1 : Nat) : Int)) hX dX7_sorts_58 rfl (by decide) rfl (by omega) rfl ?_
                refine x_goto (pc := 61) (tgt := 20) hX dX7_sorts_61 (by decide) ?_
                exact ihk (k + 1) (acc ++ [v]) _ (by omega) (by omega) (hL.snoc (by omega) v) (hO.congr (by rw [mp_ne _ _ (by decide), mput_ne _ _ _ (by decide)]) (by rw [mput_ne _ _ _ (by decide), mput_ne _ _ _ (by decide)])) (hq1.tr ((Chg.put (Or.inl rfl)).tr (Chg.put (Or.inr (Or.inr ⟨rfl, Or.inl rfl⟩))))) (by rw [hacc, htk, List.count_append, List.count_singleton, if_pos (by simp; omega), List.append_assoc, ← List.replicate_succ'])
        refine x_iconst (pc := 18) hX dX7_sorts_18 ?_
        refine x_istore_n (pc := 19) hX rfl (by decide) rfl rfl dX7_sorts_19 ?_
        exact loopk ((cs c).length + 1) 0 _ M1 (by omega) (by omega) hL hO hq1 (by rw [List.take_zero]; simp)
  refine x_aload_n (pc := 0) hX rfl rfl dX7_sorts_0 ?_
  refine x_iload_n (pc := 1) hX rfl rfl dX7_sorts_1 ?_
  refine x_cV_V (pc := 2) hX (tX7_layOutOther hK hS c hc) hK.1 rfl lk_X7_118 rfl rfl (Nat.le_of_ble_eq_true rfl) (by decide) (Nat.zero_le _) (Nat.zero_le _) dX7_sorts_2 (fun M1 hp => ?_)
  obtain ⟨hO1, hq1⟩ := hp
  refine x_aload_n (pc := 5) hX rfl rfl dX7_sorts_5 ?_
  refine x_iconst (pc := 6) hX dX7_sorts_6 ?_
  refine x_putI (pc := 7) hX fl_X7_63 hK.1 rfl rfl rfl dX7_sorts_7 ?_
  refine x_iconst (pc := 10) hX dX7_sorts_10 ?_
  refine x_istore_n (pc := 11) hX rfl (by decide) rfl rfl dX7_sorts_11 ?_
  exact loop 11 0 _ _ (by omega) (by omega) Lay.zero (hO1.congr (by rw [mp_ne _ _ (by decide)]) (by rw [mput_ne _ _ _ (by decide)])) ((hq1.mono (fun q f => PO.pb)).tr (Chg.put (Or.inr (Or.inr ⟨rfl, Or.inl rfl⟩))))

set_option maxHeartbeats 4000000 in
set_option maxRecDepth 100000 in
theorem tX7_sort {G : XG} {κ : XKs} {M : XM} {hs : Nat} (hK : KM κ hs) {S : Sx} (hS : RM M S) (c : Int) (hc : InR c) {dd : Int ⊕ List Nat} (hdd : dSort S.1 c = dd) {R : Int × Sx} (hR : sDo S c dd (fun l => ((enc l).length : Int)) = R) : XC G mX7_sort 3 0 0 [xR 140, xI c] κ M hs (pI κ hs (fun a M' => a = R.1 ∧ RM M' R.2 ∧ Chg PA M M')) := by
  refine XC.intro cdX7_sort (by decide) (by decide) (Nat.le_of_ble_eq_true rfl) (loc := [some (xR 140), some (xI c)]) rfl (fun X hX => ?_)
  have hc0 := hc
  unfold InR at hc0
  unfold dSort at hdd
  refine x_iload_n (pc := 0) hX rfl rfl dX7_sort_0 ?_
  refine x_cS_P (pc := 1) hX (tX7_isColumn c hc) lk_X7_76 rfl rfl (Nat.le_of_ble_eq_true rfl) (by decide) (Nat.zero_le _) (Nat.zero_le _) dX7_sort_1 ?_
  by_cases hcc1 : 0 ≤ c ∧ c ≤ 3
  · rw [if_pos hcc1]
    rw [if_neg (by omega)] at hdd
    subst hdd
    subst hR
    refine x_if_ne (pc := 4) (tgt := 9) hX dX7_sort_4 (by decide) (by omega) (fun h4 => ?_) (fun h4 => ?_)
    · refine x_aload_n (pc := 9) hX rfl rfl dX7_sort_9 ?_
      refine x_cV_V (pc := 10) hX (tX7_record hK hS.1 hS.2.1) hK.1 rfl lk_X7_95 rfl rfl (Nat.le_of_ble_eq_true rfl) (by decide) (Nat.zero_le _) (Nat.zero_le _) dX7_sort_10 (fun M3 hp => ?_)
      obtain ⟨hH3, hq3⟩ := hp
      have hR3 := hS.rec hq3 hH3
      refine x_aload_n (pc := 13) hX rfl rfl dX7_sort_13 ?_
      refine x_iload_n (pc := 14) hX rfl rfl dX7_sort_14 ?_
      refine x_top (congrArg xI (show c = ((c.toNat : Nat) : Int) by omega)) ?_
      refine x_cV_I (pc := 15) hX (tX7_sorts hK hR3.1 c.toNat (by omega)) hK.1 rfl lk_X7_121 rfl rfl (Nat.le_of_ble_eq_true rfl) (by decide) (Nat.zero_le _) (Nat.zero_le _) dX7_sort_15 (fun a M4 hp => ?_)
      obtain ⟨rfl, hG4, hq4⟩ := hp
      have hR4 := hR3.gets hq4 hG4
      refine x_iret (pc := 18) hX rfl (Nat.zero_le _) (Nat.zero_le _) dX7_sort_18 ?_
      exact pI_i ⟨rfl, hR4, (hq3.mono (fun q f => PH.pa)).tr (hq4.mono (fun q f => PT.pa))⟩
    · exfalso; omega
  · rw [if_neg hcc1]
    refine x_if_ne (pc := 4) (tgt := 9) hX dX7_sort_4 (by decide) (by omega) (fun h4 => ?_) (fun h4 => ?_)
    · exfalso; omega
    · refine x_iconst (pc := 7) hX dX7_sort_7 ?_
      rw [if_pos (by omega)] at hdd
      subst hdd
      subst hR
      refine x_iret (pc := 8) hX rfl (Nat.zero_le _) (Nat.zero_le _) dX7_sort_8 ?_
      exact pI_i ⟨rfl, hS, Chg.rf⟩

theorem chr_rev {l : List Nat} {k : Nat} (h : k < l.length) : chr l (l.length - 1 - k) = chr l.reverse k := by
  rw [chr_get (by omega), chr_get (by rw [List.length_reverse]; exact h), List.getElem_reverse]
set_option maxHeartbeats 4000000 in
set_option maxRecDepth 100000 in
theorem tX7_turn {G : XG} {κ : XKs} {M : XM} {hs : Nat} (hK : KM κ hs) {S : Sx} (hS : RM M S) (c a : Int) (hc : InR c) (ha : InR a) {R : Int × Sx} (hR : sTurn S c a = R) : XC G mX7_turn 2 0 0 [xR 140, xI c, xI a] κ M hs (pI κ hs (fun b M' => b = R.1 ∧ RM M' R.2 ∧ Chg PA M M')) := by
  refine XC.intro cdX7_turn (by decide) (by decide) (Nat.le_of_ble_eq_true rfl) (loc := [some (xR 140), some (xI c), some (xI a), none]) rfl (fun X hX => ?_)
  have hc0 := hc
  have ha0 := ha
  unfold InR at hc0 ha0
  unfold sTurn at hR
  refine x_iload_n (pc := 0) hX rfl rfl dX7_turn_0 ?_
  refine x_cS_P (pc := 1) hX (tX7_isColumn c hc) lk_X7_76 rfl rfl (Nat.le_of_ble_eq_true rfl) (by decide) (Nat.zero_le _) (Nat.zero_le _) dX7_turn_1 ?_
  by_cases hcc1 : 0 ≤ c ∧ c ≤ 3
  · rw [if_pos hcc1]
    refine x_if_eq (pc := 4) (tgt := 14) hX dX7_turn_4 (by decide) (by omega) (fun h4 => ?_) (fun h4 => ?_)
    · exfalso; omega
    · refine x_iload_n (pc := 7) hX rfl rfl dX7_turn_7 ?_
      refine x_cS_P (pc := 8) hX (tX7_isColumn a ha) lk_X7_76 rfl rfl (Nat.le_of_ble_eq_true rfl) (by decide) (Nat.zero_le _) (Nat.zero_le _) dX7_turn_8 ?_
      by_cases hca8 : 0 ≤ a ∧ a ≤ 3
      · rw [if_pos hca8]
        rw [if_neg (by omega)] at hR
        subst hR
        have hoka := hS.ok (c := a.toNat) (by omega)
        have hf1 := hoka.1.1
        refine x_if_ne (pc := 11) (tgt := 16) hX dX7_turn_11 (by decide) (by omega) (fun h11 => ?_) (fun h11 => ?_)
        · refine x_aload_n (pc := 16) hX rfl rfl dX7_turn_16 ?_
          refine x_cV_V (pc := 17) hX (tX7_record hK hS.1 hS.2.1) hK.1 rfl lk_X7_95 rfl rfl (Nat.le_of_ble_eq_true rfl) (by decide) (Nat.zero_le _) (Nat.zero_le _) dX7_turn_17 (fun M3 hp => ?_)
          obtain ⟨hH3, hq3⟩ := hp
          have hR3 := hS.rec hq3 hH3
          refine x_aload_n (pc := 20) hX rfl rfl dX7_turn_20 ?_
          refine x_iload_n (pc := 21) hX rfl rfl dX7_turn_21 ?_
          refine x_top (congrArg xI (show a = ((a.toNat : Nat) : Int) by omega)) ?_
          refine x_cV_V (pc := 22) hX (tX7_layOutOther hK hR3.1 a.toNat (by omega)) hK.1 rfl lk_X7_118 rfl rfl (Nat.le_of_ble_eq_true rfl) (by decide) (Nat.zero_le _) (Nat.zero_le _) dX7_turn_22 (fun M4 hp => ?_)
          obtain ⟨hO4, hq4⟩ := hp
          have loop : ∀ (n k : Nat) (M4 : XM), k ≤ (S.1 a.toNat).length → (S.1 a.toNat).length < k + n → M4 140 8 = ((S.1 a.toNat).length : Int) → LaO M4 (S.1 a.toNat) → (∀ i, i < k → M4 146 i = (chr (S.1 a.toNat).reverse i : Int)) → Chg PB M3 M4 → XW G X mX7_turn (xq G (pI κ hs (fun b M' => b = (sDo S c (.inr (S.1 a.toNat).reverse) (fun l => (l.length : Int))).1 ∧ RM M' (sDo S c (.inr (S.1 a.toNat).reverse) (fun l => (l.length : Int))).2 ∧ Chg PA M M')) 0 0 X) 0 0 35 [some (xR 140), some (xI c), some (xI a), some (xI (k : Int))] [] κ M4 hs := by
            intro n
            induction n with
            | zero => intro k M4 h1 h2; omega
            | succ n ih =>
              intro k M4 h1 h2 hm1 hO ha1 hq4
              refine x_iload_n (pc := 35) hX rfl rfl dX7_turn_35 ?_
              refine x_aload_n (pc := 36) hX rfl rfl dX7_turn_36 ?_
              refine x_getI (pc := 37) (v := ((S.1 a.toNat).length : Int)) hX fl_X7_63 hK.1 rfl hm1 dX7_turn_37 ?_
              refine x_icmp_ge (pc := 40) (tgt := 68) hX dX7_turn_40 (by decide) (by omega) (fun h40 => ?_) (fun h40 => ?_)
              · obtain rfl : k = (S.1 a.toNat).length := by omega
                have hL4 : Lay M4 (S.1 a.toNat).reverse := ⟨by rw [List.length_reverse]; exact hm1, by rw [List.length_reverse]; omega, fun i hi => ha1 i (by rw [List.length_reverse] at hi; exact hi)⟩
                have hfit := fit_rev hoka.1
                have hv9 : ∀ w ∈ (S.1 a.toNat).reverse, w ≤ 9 := fun w hw => hoka.2 w (List.mem_reverse.mp hw)
                have hR4 := hR3.scr (hq4.mono (fun q f => PB.ps))
                refine x_aload_n (pc := 68) hX rfl rfl dX7_turn_68 ?_
                refine x_iload_n (pc := 69) hX rfl rfl dX7_turn_69 ?_
                refine x_top (congrArg xI (show c = ((c.toNat : Nat) : Int) by omega)) ?_
                refine x_cV_V (pc := 70) hX (tX7_gets hK hL4 hfit hv9 c.toNat (by omega)) hK.1 rfl lk_X7_98 rfl rfl (Nat.le_of_ble_eq_true rfl) (by decide) (Nat.zero_le _) (Nat.zero_le _) dX7_turn_70 (fun M5 hp => ?_)
                obtain ⟨hG5, hq5⟩ := hp
                have hR5 := hR4.gets (hq5.mono (fun q f => Or.inr)) hG5
                have hL5 := hL4.pg hq5
                refine x_aload_n (pc := 73) hX rfl rfl dX7_turn_73 ?_
                refine x_getI (pc := 74) (v := (((S.1 a.toNat).reverse).length : Int)) hX fl_X7_63 hK.1 rfl hL5.1 dX7_turn_74 ?_
                refine x_iret (pc := 77) hX rfl (Nat.zero_le _) (Nat.zero_le _) dX7_turn_77 ?_
                exact pI_i ⟨rfl, hR5, ((hq3.mono (fun q f => PH.pa)).tr (hq4.mono (fun q f z => z.ps.pa))).tr (hq5.mono (fun q f => PG.pa))⟩
              · have hkl : k < (S.1 a.toNat).length := by omega
                refine x_aload_n (pc := 43) hX rfl rfl dX7_turn_43 ?_
                refine x_getR (pc := 44) hX fl_X7_25 hK.1 rfl dX7_turn_44 ?_
                refine x_iload_n (pc := 47) hX rfl rfl dX7_turn_47 ?_
                refine x_aload_n (pc := 48) hX rfl rfl dX7_turn_48 ?_
                refine x_getR (pc := 49) hX fl_X7_28 hK.1 rfl dX7_turn_49 ?_
                refine x_aload_n (pc := 52) hX rfl rfl dX7_turn_52 ?_
                refine x_getI (pc := 53) (v := ((S.1 a.toNat).length : Int)) hX fl_X7_63 hK.1 rfl hm1 dX7_turn_53 ?_
                refine x_iconst (pc := 56) hX dX7_turn_56 ?_
                refine x_isub (pc := 57) hX dX7_turn_57 rfl ?_
                refine x_iload_n (pc := 58) hX rfl rfl dX7_turn_58 ?_
                refine x_isub (pc := 59) hX dX7_turn_59 rfl ?_
                refine x_iald (pc := 60) (j := (S.1 a.toNat).length - 1 - k) (v := (chr (S.1 a.toNat) ((S.1 a.toNat).length - 1 - k) : Int)) hX hK.2.2.2.2.2.2.2.1 (by omega) (by omega) (by decide) (hO.2.2 _ (by omega)) dX7_turn_60 ?_
                refine x_iast (pc := 61) (j := k) hX hK.2.2.2.2.2.2.1 (by omega) (by omega) (by decide) dX7_turn_61 ?_
                refine x_iinc (pc := 62) (v := ((k + 1 : Nat) : Int)) hX dX7_turn_62 rfl (by decide) rfl (by omega) rfl ?_
                refine x_goto (pc := 65) (tgt := 35) hX dX7_turn_65 (by decide) ?_
                refine ih (k + 1) _ (by omega) (by omega) (by rw [mput_ne _ _ _ (by decide)]; exact hm1) (hO.congr (by rw [mput_ne _ _ _ (by decide)]) (by rw [mput_ne _ _ _ (by decide)])) (fun i hi => ?_) (hq4.tr (Chg.put (Or.inl rfl)))
                by_cases e : i = k
                · subst e
                  rw [mp_eq, chr_rev hkl]
                · rw [mp_ne _ _ e]
                  exact ha1 i (by omega)
          refine x_aload_n (pc := 25) hX rfl rfl dX7_turn_25 ?_
          refine x_aload_n (pc := 26) hX rfl rfl dX7_turn_26 ?_
          refine x_getI (pc := 27) (v := ((S.1 a.toNat).length : Int)) hX fl_X7_69 hK.1 rfl hO4.1 dX7_turn_27 ?_
          refine x_putI (pc := 30) hX fl_X7_63 hK.1 rfl rfl rfl dX7_turn_30 ?_
          refine x_iconst (pc := 33) hX dX7_turn_33 ?_
          refine x_istore_n (pc := 34) hX rfl (by decide) rfl rfl dX7_turn_34 ?_
          exact loop ((S.1 a.toNat).length + 1) 0 _ (by omega) (by omega) (mp_eq _ _ _ _) (hO4.congr (by rw [mp_ne _ _ (by decide)]) (by rw [mput_ne _ _ _ (by decide)])) (fun i hi => absurd hi (Nat.not_lt_zero _)) ((hq4.mono (fun q f => PO.pb)).tr (Chg.put (Or.inr (Or.inr ⟨rfl, Or.inl rfl⟩))))
        · exfalso; omega
      · rw [if_neg hca8]
        refine x_if_ne (pc := 11) (tgt := 16) hX dX7_turn_11 (by decide) (by omega) (fun h11 => ?_) (fun h11 => ?_)
        · exfalso; omega
        · refine x_iconst (pc := 14) hX dX7_turn_14 ?_
          rw [if_pos (by omega)] at hR
          subst hR
          refine x_iret (pc := 15) hX rfl (Nat.zero_le _) (Nat.zero_le _) dX7_turn_15 ?_
          exact pI_i ⟨rfl, hS, Chg.rf⟩
  · rw [if_neg hcc1]
    refine x_if_eq (pc := 4) (tgt := 14) hX dX7_turn_4 (by decide) (by omega) (fun h4 => ?_) (fun h4 => ?_)
    · refine x_iconst (pc := 14) hX dX7_turn_14 ?_
      rw [if_pos (by omega)] at hR
      subst hR
      refine x_iret (pc := 15) hX rfl (Nat.zero_le _) (Nat.zero_le _) dX7_turn_15 ?_
      exact pI_i ⟨rfl, hS, Chg.rf⟩
    · exfalso; omega

set_option maxHeartbeats 4000000 in
set_option maxRecDepth 100000 in
theorem tX7_layOutBoth {G : XG} {κ : XKs} {M : XM} {hs : Nat} (hK : KM κ hs) {cs : Cs} (hS : MS (M 141) 0 cs) (a b : Nat) (ha : a < 4) (hb : b < 4) : XC G mX7_layOutBoth 2 0 0 [xR 140, xI (a : Int), xI (b : Int)] κ M hs (pI κ hs (fun x M' => x = ((min (cs a).length (cs b).length : Nat) : Int) ∧ Lay M' (cs a) ∧ LaO M' (cs b) ∧ Chg PB M M')) := by
  refine XC.intro cdX7_layOutBoth (by decide) (by decide) (Nat.le_of_ble_eq_true rfl) (loc := [some (xR 140), some (xI (a : Int)), some (xI (b : Int))]) rfl (fun X hX => ?_)
  have hla := (hS.col ha).len
  have hlb := (hS.col hb).len
  refine x_aload_n (pc := 0) hX rfl rfl dX7_layOutBoth_0 ?_
  refine x_iload_n (pc := 1) hX rfl rfl dX7_layOutBoth_1 ?_
  refine x_cV_V (pc := 2) hX (tX7_layOut hK hS a ha) hK.1 rfl lk_X7_83 rfl rfl (Nat.le_of_ble_eq_true rfl) (by decide) (Nat.zero_le _) (Nat.zero_le _) dX7_layOutBoth_2 (fun M1 hp => ?_)
  obtain ⟨hL1, hq1⟩ := hp
  have hS1 : MS (M1 141) 0 cs := by rw [hq1.cell (fun f => by unfold PL; omega)]; exact hS
  refine x_aload_n (pc := 5) hX rfl rfl dX7_layOutBoth_5 ?_
  refine x_iload_n (pc := 6) hX rfl rfl dX7_layOutBoth_6 ?_
  refine x_cV_V (pc := 7) hX (tX7_layOutOther hK hS1 b hb) hK.1 rfl lk_X7_118 rfl rfl (Nat.le_of_ble_eq_true rfl) (by decide) (Nat.zero_le _) (Nat.zero_le _) dX7_layOutBoth_7 (fun M2 hp => ?_)
  obtain ⟨hO2, hq2⟩ := hp
  have hL2 := hL1.po hq2
  refine x_aload_n (pc := 10) hX rfl rfl dX7_layOutBoth_10 ?_
  refine x_getI (pc := 11) (v := ((cs a).length : Int)) hX fl_X7_63 hK.1 rfl hL2.1 dX7_layOutBoth_11 ?_
  refine x_aload_n (pc := 14) hX rfl rfl dX7_layOutBoth_14 ?_
  refine x_getI (pc := 15) (v := ((cs b).length : Int)) hX fl_X7_69 hK.1 rfl hO2.1 dX7_layOutBoth_15 ?_
  refine x_icmp_ge (pc := 18) (tgt := 28) hX dX7_layOutBoth_18 (by decide) (by omega) (fun h18 => ?_) (fun h18 => ?_)
  · refine x_aload_n (pc := 28) hX rfl rfl dX7_layOutBoth_28 ?_
    refine x_getI (pc := 29) (v := ((cs b).length : Int)) hX fl_X7_69 hK.1 rfl hO2.1 dX7_layOutBoth_29 ?_
    refine x_iret (pc := 32) hX rfl (Nat.zero_le _) (Nat.zero_le _) dX7_layOutBoth_32 ?_
    exact pI_i ⟨by omega, hL2, hO2, (hq1.mono (fun q f => PL.pb)).tr (hq2.mono (fun q f => PO.pb))⟩
  · refine x_aload_n (pc := 21) hX rfl rfl dX7_layOutBoth_21 ?_
    refine x_getI (pc := 22) (v := ((cs a).length : Int)) hX fl_X7_63 hK.1 rfl hL2.1 dX7_layOutBoth_22 ?_
    refine x_goto (pc := 25) (tgt := 32) hX dX7_layOutBoth_25 (by decide) ?_
    refine x_iret (pc := 32) hX rfl (Nat.zero_le _) (Nat.zero_le _) dX7_layOutBoth_32 ?_
    exact pI_i ⟨by omega, hL2, hO2, (hq1.mono (fun q f => PL.pb)).tr (hq2.mono (fun q f => PO.pb))⟩

set_option maxHeartbeats 4000000 in
set_option maxRecDepth 100000 in
theorem tX7_merge {G : XG} {κ : XKs} {M : XM} {hs : Nat} (hK : KM κ hs) {S : Sx} (hS : RM M S) (c a b w : Int) (hc : InR c) (ha : InR a) (hb : InR b) (hw : InR w) {dd : Int ⊕ List Nat} (hdd : dMrg S.1 c a b w = dd) {R : Int × Sx} (hR : sDo S c dd (fun l => (l.length : Int)) = R) : XC G mX7_merge 3 0 0 [xR 140, xI c, xI a, xI b, xI w] κ M hs (pI κ hs (fun x M' => x = R.1 ∧ RM M' R.2 ∧ Chg PA M M')) := by
  refine XC.intro cdX7_merge (by decide) (by decide) (Nat.le_of_ble_eq_true rfl) (loc := [some (xR 140), some (xI c), some (xI a), some (xI b), some (xI w), none, none, none, none]) rfl (fun X hX => ?_)
  have hc0 := hc
  have ha0 := ha
  have hb0 := hb
  have hw0 := hw
  unfold InR at hc0 ha0 hb0 hw0
  unfold dMrg at hdd
  refine x_iload_n (pc := 0) hX rfl rfl dX7_merge_0 ?_
  refine x_cS_P (pc := 1) hX (tX7_isColumn c hc) lk_X7_76 rfl rfl (Nat.le_of_ble_eq_true rfl) (by decide) (Nat.zero_le _) (Nat.zero_le _) dX7_merge_1 ?_
  by_cases hcc1 : 0 ≤ c ∧ c ≤ 3
  · rw [if_pos hcc1]
    refine x_if_eq (pc := 4) (tgt := 21) hX dX7_merge_4 (by decide) (by omega) (fun h4 => ?_) (fun h4 => ?_)
    · exfalso; omega
    · refine x_iload_n (pc := 7) hX rfl rfl dX7_merge_7 ?_
      refine x_cS_P (pc := 8) hX (tX7_isColumn a ha) lk_X7_76 rfl rfl (Nat.le_of_ble_eq_true rfl) (by decide) (Nat.zero_le _) (Nat.zero_le _) dX7_merge_8 ?_
      by_cases hca8 : 0 ≤ a ∧ a ≤ 3
      · rw [if_pos hca8]
        refine x_if_eq (pc := 11) (tgt := 21) hX dX7_merge_11 (by decide) (by omega) (fun h11 => ?_) (fun h11 => ?_)
        · exfalso; omega
        · refine x_iload_n (pc := 14) hX rfl rfl dX7_merge_14 ?_
          refine x_cS_P (pc := 15) hX (tX7_isColumn b hb) lk_X7_76 rfl rfl (Nat.le_of_ble_eq_true rfl) (by decide) (Nat.zero_le _) (Nat.zero_le _) dX7_merge_15 ?_
          by_cases hcb15 : 0 ≤ b ∧ b ≤ 3
          · rw [if_pos hcb15]
            rw [if_neg (by omega)] at hdd
            have hoka := hS.ok (c := a.toNat) (by omega)
            have hokb := hS.ok (c := b.toNat) (by omega)
            have hfa := hoka.1.1
            have hfb := hokb.1.1
            refine x_if_ne (pc := 18) (tgt := 23) hX dX7_merge_18 (by decide) (by omega) (fun h18 => ?_) (fun h18 => ?_)
            · refine x_iload (pc := 23) hX rfl dX7_merge_23 ?_
              refine x_iconst (pc := 25) hX dX7_merge_25 ?_
              refine x_iconst (pc := 26) hX dX7_merge_26 ?_
              refine x_cS_P (pc := 27) hX (tX7_within w (0) (2) hw (by unfold InR; omega) (by unfold InR; omega)) lk_X7_48 rfl rfl (Nat.le_of_ble_eq_true rfl) (by decide) (Nat.zero_le _) (Nat.zero_le _) dX7_merge_27 ?_
              by_cases hww : 0 ≤ w ∧ w ≤ 2
              · rw [if_pos hww]
                rw [if_neg (by omega)] at hdd
                refine x_if_ne (pc := 30) (tgt := 36) hX dX7_merge_30 (by decide) (by omega) (fun h30 => ?_) (fun h30 => ?_)
                · refine x_aload_n (pc := 36) hX rfl rfl dX7_merge_36 ?_
                  refine x_iload_n (pc := 37) hX rfl rfl dX7_merge_37 ?_
                  refine x_iload_n (pc := 38) hX rfl rfl dX7_merge_38 ?_
                  refine x_top2 (congrArg xI (show a = ((a.toNat : Nat) : Int) by omega)) ?_
                  refine x_top (congrArg xI (show b = ((b.toNat : Nat) : Int) by omega)) ?_
                  refine x_cV_I (pc := 39) hX (tX7_layOutBoth hK hS.1 a.toNat b.toNat (by omega) (by omega)) hK.1 rfl lk_X7_124 rfl rfl (Nat.le_of_ble_eq_true rfl) (by decide) (Nat.zero_le _) (Nat.zero_le _) dX7_merge_39 (fun x M1 hp => ?_)
                  obtain ⟨rfl, hL1, hO1, hq1⟩ := hp
                  have loop : ∀ (n k : Nat) (acc : List Nat) (z1 z2 : Option XV) (M1 : XM), k ≤ (min (S.1 a.toNat).length (S.1 b.toNat).length) → (min (S.1 a.toNat).length (S.1 b.toNat).length) < k + n → acc.length ≤ k → Lay M1 acc → (∀ i, k ≤ i → i < (S.1 a.toNat).length → M1 146 i = (chr (S.1 a.toNat) i : Int)) → LaO M1 (S.1 b.toNat) → Chg PB M M1 → acc ++ mrg w (((S.1 a.toNat).zip (S.1 b.toNat)).drop k) = mrg w ((S.1 a.toNat).zip (S.1 b.toNat)) → XW G X mX7_merge (xq G (pI κ hs (fun x M' => x = R.1 ∧ RM M' R.2 ∧ Chg PA M M')) 0 0 X) 0 0 52 [some (xR 140), some (xI c), some (xI a), some (xI b), some (xI w), some (xI ((min (S.1 a.toNat).length (S.1 b.toNat).length) : Nat)), some (xI (k : Int)), z1, z2] [] κ M1 hs := by
                    intro n
                    induction n with
                    | zero => intro k acc z1 z2 M1 h1 h2; omega
                    | succ n ih =>
                      intro k acc z1 z2 M1 h1 h2 h3 hL ha1 hO hq1 hF
                      refine x_iload (pc := 52) hX rfl dX7_merge_52 ?_
                      refine x_iload (pc := 54) hX rfl dX7_merge_54 ?_
                      refine x_icmp_ge (pc := 56) (tgt := 147) hX dX7_merge_56 (by decide) (by omega) (fun h56 => ?_) (fun h56 => ?_)
                      · obtain rfl : k = (min (S.1 a.toNat).length (S.1 b.toNat).length) := by omega
                        rw [← List.length_zip, List.drop_length, mrg, List.append_nil] at hF
                        subst hF
                        have hR1 := hS.scr (hq1.mono (fun q f => PB.ps))
                        have hv9 := mrg_ok w _ (zip_mem hoka.2 hokb.2)
                        refine x_aload_n (pc := 147) hX rfl rfl dX7_merge_147 ?_
                        refine x_cV_P (pc := 148) hX (tX7_isTooMany hK hL hv9) hK.1 rfl lk_X7_91 rfl rfl (Nat.le_of_ble_eq_true rfl) (by decide) (Nat.zero_le _) (Nat.zero_le _) dX7_merge_148 ?_
                        by_cases hfit : (mrg w ((S.1 a.toNat).zip (S.1 b.toNat))).length ≤ 999 ∧ (enc (mrg w ((S.1 a.toNat).zip (S.1 b.toNat)))).length ≤ 40
                        · rw [if_pos hfit]
                          unfold dFin at hdd
                          rw [if_pos hfit] at hdd
                          subst hdd
                          subst hR
                          refine x_if_eq (pc := 151) (tgt := 157) hX dX7_merge_151 (by decide) (by omega) (fun h151 => ?_) (fun h151 => ?_)
                          · refine x_aload_n (pc := 157) hX rfl rfl dX7_merge_157 ?_
                            refine x_cV_V (pc := 158) hX (tX7_record hK hR1.1 hR1.2.1) hK.1 rfl lk_X7_95 rfl rfl (Nat.le_of_ble_eq_true rfl) (by decide) (Nat.zero_le _) (Nat.zero_le _) dX7_merge_158 (fun M3 hp => ?_)
                            obtain ⟨hH3, hq3⟩ := hp
                            have hR3 := hR1.rec hq3 hH3
                            refine x_aload_n (pc := 161) hX rfl rfl dX7_merge_161 ?_
                            refine x_iload_n (pc := 162) hX rfl rfl dX7_merge_162 ?_
                            refine x_top (congrArg xI (show c = ((c.toNat : Nat) : Int) by omega)) ?_
                            refine x_cV_V (pc := 163) hX (tX7_gets hK (hL.ph hq3) hfit hv9 c.toNat (by omega)) hK.1 rfl lk_X7_98 rfl rfl (Nat.le_of_ble_eq_true rfl) (by decide) (Nat.zero_le _) (Nat.zero_le _) dX7_merge_163 (fun M4 hp => ?_)
                            obtain ⟨hG4, hq4⟩ := hp
                            have hR4 := hR3.gets (hq4.mono (fun q f => Or.inr)) hG4
                            have hL4 := (hL.ph hq3).pg hq4
                            refine x_aload_n (pc := 166) hX rfl rfl dX7_merge_166 ?_
                            refine x_getI (pc := 167) (v := ((mrg w ((S.1 a.toNat).zip (S.1 b.toNat))).length : Int)) hX fl_X7_63 hK.1 rfl hL4.1 dX7_merge_167 ?_
                            refine x_iret (pc := 170) hX rfl (Nat.zero_le _) (Nat.zero_le _) dX7_merge_170 ?_
                            exact pI_i ⟨rfl, hR4, ((hq1.mono (fun q f z => z.ps.pa)).tr (hq3.mono (fun q f => PH.pa))).tr (hq4.mono (fun q f => PG.pa))⟩
                          · exfalso; omega
                        · rw [if_neg hfit]
                          unfold dFin at hdd
                          rw [if_neg hfit] at hdd
                          subst hdd
                          subst hR
                          refine x_if_eq (pc := 151) (tgt := 157) hX dX7_merge_151 (by decide) (by omega) (fun h151 => ?_) (fun h151 => ?_)
                          · exfalso; omega
                          · refine x_bipush (pc := 154) hX (by decide) dX7_merge_154 ?_
                            refine x_iret (pc := 156) hX rfl (Nat.zero_le _) (Nat.zero_le _) dX7_merge_156 ?_
                            exact pI_i ⟨rfl, hR1, hq1.mono (fun q f z => z.ps.pa)⟩
                      · have hkm : k < (min (S.1 a.toNat).length (S.1 b.toNat).length) := by omega
                        have hka : k < (S.1 a.toNat).length := by omega
                        have hkb : k < (S.1 b.toNat).length := by omega
                        have hva : chr (S.1 a.toNat) k ≤ 9 := hoka.2 _ (chr_mem hka)
                        have hvb : chr (S.1 b.toNat) k ≤ 9 := hokb.2 _ (chr_mem hkb)
                        rw [zip_drop hka hkb, mrg] at hF
                        have hacl : acc.length < 1998 := by omega
                        refine x_aload_n (pc := 59) hX rfl rfl dX7_merge_59 ?_
                        refine x_getR (pc := 60) hX fl_X7_25 hK.1 rfl dX7_merge_60 ?_
                        refine x_iload (pc := 63) hX rfl dX7_merge_63 ?_
                        refine x_iald (pc := 65) (j := k) (v := (chr (S.1 a.toNat) k : Int)) hX hK.2.2.2.2.2.2.1 (by omega) (by omega) (by decide) (ha1 k (Nat.le_refl _) hka) dX7_merge_65 ?_
                        refine x_istore (pc := 66) hX (by decide) rfl rfl dX7_merge_66 ?_
                        refine x_aload_n (pc := 68) hX rfl rfl dX7_merge_68 ?_
                        refine x_getR (pc := 69) hX fl_X7_28 hK.1 rfl dX7_merge_69 ?_
                        refine x_iload (pc := 72) hX rfl dX7_merge_72 ?_
                        refine x_iald (pc := 74) (j := k) (v := (chr (S.1 b.toNat) k : Int)) hX hK.2.2.2.2.2.2.2.1 (by omega) (by omega) (by decide) (hO.2.2 k hkb) dX7_merge_74 ?_
                        refine x_istore (pc := 75) hX (by decide) rfl rfl dX7_merge_75 ?_
                        refine x_iload (pc := 77) hX rfl dX7_merge_77 ?_
                        refine x_iconst (pc := 79) hX dX7_merge_79 ?_
                        refine x_icmp_lt (pc := 80) (tgt := 90) hX dX7_merge_80 (by decide) (by omega) (fun h80 => ?_) (fun h80 => ?_)
                        · refine x_aload_n (pc := 90) hX rfl rfl dX7_merge_90 ?_
                          refine x_getR (pc := 91) hX fl_X7_25 hK.1 rfl dX7_merge_91 ?_
                          refine x_aload_n (pc := 94) hX rfl rfl dX7_merge_94 ?_
                          refine x_getI (pc := 95) (v := (acc.length : Int)) hX fl_X7_63 hK.1 rfl hL.1 dX7_merge_95 ?_
                          refine x_iload (pc := 98) hX rfl dX7_merge_98 ?_
                          refine x_if_ne (pc := 100) (tgt := 107) hX dX7_merge_100 (by decide) (by omega) (fun h100 => ?_) (fun h100 => ?_)
                          · refine x_iconst (pc := 107) hX dX7_merge_107 ?_
                            refine x_iload (pc := 108) hX rfl dX7_merge_108 ?_
                            refine x_iload (pc := 110) hX rfl dX7_merge_110 ?_
                            refine x_icmp_ge (pc := 112) (tgt := 119) hX dX7_merge_112 (by decide) (by omega) (fun h112 => ?_) (fun h112 => ?_)
                            · refine x_iconst (pc := 119) hX dX7_merge_119 ?_
                              refine x_icmp_ne (pc := 120) (tgt := 128) hX dX7_merge_120 (by decide) (by decide) (fun h120 => ?_) (fun h120 => ?_)
                              · exfalso; omega
                              · refine x_iload (pc := 123) hX rfl dX7_merge_123 ?_
                                refine x_goto (pc := 125) (tgt := 130) hX dX7_merge_125 (by decide) ?_
                                refine x_iast (pc := 130) (j := acc.length) hX hK.2.2.2.2.2.2.1 (by omega) (by omega) (by decide) dX7_merge_130 ?_
                                refine x_aload_n (pc := 131) hX rfl rfl dX7_merge_131 ?_
                                refine x_dup (pc := 132) hX rfl dX7_merge_132 ?_
                                refine x_getI (pc := 133) (v := (acc.length : Int)) hX fl_X7_63 hK.1 rfl (by rw [mput_ne _ _ _ (by decide)]; exact hL.1) dX7_merge_133 ?_
                                refine x_iconst (pc := 136) hX dX7_merge_136 ?_
                                refine x_iadd (pc := 137) (v := ((acc.length + 1 : Nat) : Int)) hX dX7_merge_137 (by omega) ?_
                                refine x_putI (pc := 138) hX fl_X7_63 hK.1 rfl rfl rfl dX7_merge_138 ?_
                                refine x_iinc (pc := 141) (v := ((k + 1 : Nat) : Int)) hX dX7_merge_141 rfl (by decide) rfl (by omega) rfl ?_
                                refine x_goto (pc := 144) (tgt := 52) hX dX7_merge_144 (by decide) ?_
                                have hval : (if w = 0 then [min (chr (S.1 a.toNat) k) (chr (S.1 b.toNat) k)] else if w = 1 then [max (chr (S.1 a.toNat) k) (chr (S.1 b.toNat) k)] else if chr (S.1 a.toNat) k = chr (S.1 b.toNat) k then [chr (S.1 a.toNat) k] else []) = [chr (S.1 a.toNat) k] := by
                                  by_cases g0 : w = 0
                                  · rw [if_pos g0]
                                    exact congrArg (fun z => [z]) (by omega)
                                  · rw [if_neg g0]
                                    by_cases g1 : w = 1
                                    · rw [if_pos g1]
                                      exact congrArg (fun z => [z]) (by omega)
                                    · exact (if_neg g1).trans ((if_pos (by omega)).trans (congrArg (fun z => [z]) (by omega)))
                                rw [hval] at hF
                                refine ih (k + 1) (acc ++ [chr (S.1 a.toNat) k]) _ _ _ (by omega) (by omega) (by rw [List.length_append]; show acc.length + 1 ≤ k + 1; omega) (hL.snoc (by omega) _) (fun i h5 h6 => ?_) (hO.congr (by rw [mp_ne _ _ (by decide), mput_ne _ _ _ (by decide)]) (by rw [mput_ne _ _ _ (by decide), mput_ne _ _ _ (by decide)])) (hq1.tr ((Chg.put (Or.inl rfl)).tr (Chg.put (Or.inr (Or.inr ⟨rfl, Or.inl rfl⟩))))) (by rw [List.append_assoc]; exact hF)
                                rw [mput_ne _ _ _ (by decide), mp_ne _ _ (by omega)]
                                exact ha1 i (by omega) h6
                            · refine x_iconst (pc := 115) hX dX7_merge_115 ?_
                              refine x_goto (pc := 116) (tgt := 120) hX dX7_merge_116 (by decide) ?_
                              refine x_icmp_ne (pc := 120) (tgt := 128) hX dX7_merge_120 (by decide) (by decide) (fun h120 => ?_) (fun h120 => ?_)
                              · refine x_iload (pc := 128) hX rfl dX7_merge_128 ?_
                                refine x_iast (pc := 130) (j := acc.length) hX hK.2.2.2.2.2.2.1 (by omega) (by omega) (by decide) dX7_merge_130 ?_
                                refine x_aload_n (pc := 131) hX rfl rfl dX7_merge_131 ?_
                                refine x_dup (pc := 132) hX rfl dX7_merge_132 ?_
                                refine x_getI (pc := 133) (v := (acc.length : Int)) hX fl_X7_63 hK.1 rfl (by rw [mput_ne _ _ _ (by decide)]; exact hL.1) dX7_merge_133 ?_
                                refine x_iconst (pc := 136) hX dX7_merge_136 ?_
                                refine x_iadd (pc := 137) (v := ((acc.length + 1 : Nat) : Int)) hX dX7_merge_137 (by omega) ?_
                                refine x_putI (pc := 138) hX fl_X7_63 hK.1 rfl rfl rfl dX7_merge_138 ?_
                                refine x_iinc (pc := 141) (v := ((k + 1 : Nat) : Int)) hX dX7_merge_141 rfl (by decide) rfl (by omega) rfl ?_
                                refine x_goto (pc := 144) (tgt := 52) hX dX7_merge_144 (by decide) ?_
                                have hval : (if w = 0 then [min (chr (S.1 a.toNat) k) (chr (S.1 b.toNat) k)] else if w = 1 then [max (chr (S.1 a.toNat) k) (chr (S.1 b.toNat) k)] else if chr (S.1 a.toNat) k = chr (S.1 b.toNat) k then [chr (S.1 a.toNat) k] else []) = [chr (S.1 b.toNat) k] := by
                                  by_cases g0 : w = 0
                                  · rw [if_pos g0]
                                    exact congrArg (fun z => [z]) (by omega)
                                  · rw [if_neg g0]
                                    by_cases g1 : w = 1
                                    · rw [if_pos g1]
                                      exact congrArg (fun z => [z]) (by omega)
                                    · exact (if_neg g1).trans ((if_pos (by omega)).trans (congrArg (fun z => [z]) (by omega)))
                                rw [hval] at hF
                                refine ih (k + 1) (acc ++ [chr (S.1 b.toNat) k]) _ _ _ (by omega) (by omega) (by rw [List.length_append]; show acc.length + 1 ≤ k + 1; omega) (hL.snoc (by omega) _) (fun i h5 h6 => ?_) (hO.congr (by rw [mp_ne _ _ (by decide), mput_ne _ _ _ (by decide)]) (by rw [mput_ne _ _ _ (by decide), mput_ne _ _ _ (by decide)])) (hq1.tr ((Chg.put (Or.inl rfl)).tr (Chg.put (Or.inr (Or.inr ⟨rfl, Or.inl rfl⟩))))) (by rw [List.append_assoc]; exact hF)
                                rw [mput_ne _ _ _ (by decide), mp_ne _ _ (by omega)]
                                exact ha1 i (by omega) h6
                              · exfalso; omega
                          · refine x_iconst (pc := 103) hX dX7_merge_103 ?_
                            refine x_goto (pc := 104) (tgt := 108) hX dX7_merge_104 (by decide) ?_
                            refine x_iload (pc := 108) hX rfl dX7_merge_108 ?_
                            refine x_iload (pc := 110) hX rfl dX7_merge_110 ?_
                            refine x_icmp_ge (pc := 112) (tgt := 119) hX dX7_merge_112 (by decide) (by omega) (fun h112 => ?_) (fun h112 => ?_)
                            · refine x_iconst (pc := 119) hX dX7_merge_119 ?_
                              refine x_icmp_ne (pc := 120) (tgt := 128) hX dX7_merge_120 (by decide) (by decide) (fun h120 => ?_) (fun h120 => ?_)
                              · refine x_iload (pc := 128) hX rfl dX7_merge_128 ?_
                                refine x_iast (pc := 130) (j := acc.length) hX hK.2.2.2.2.2.2.1 (by omega) (by omega) (by decide) dX7_merge_130 ?_
                                refine x_aload_n (pc := 131) hX rfl rfl dX7_merge_131 ?_
                                refine x_dup (pc := 132) hX rfl dX7_merge_132 ?_
                                refine x_getI (pc := 133) (v := (acc.length : Int)) hX fl_X7_63 hK.1 rfl (by rw [mput_ne _ _ _ (by decide)]; exact hL.1) dX7_merge_133 ?_
                                refine x_iconst (pc := 136) hX dX7_merge_136 ?_
                                refine x_iadd (pc := 137) (v := ((acc.length + 1 : Nat) : Int)) hX dX7_merge_137 (by omega) ?_
                                refine x_putI (pc := 138) hX fl_X7_63 hK.1 rfl rfl rfl dX7_merge_138 ?_
                                refine x_iinc (pc := 141) (v := ((k + 1 : Nat) : Int)) hX dX7_merge_141 rfl (by decide) rfl (by omega) rfl ?_
                                refine x_goto (pc := 144) (tgt := 52) hX dX7_merge_144 (by decide) ?_
                                have hval : (if w = 0 then [min (chr (S.1 a.toNat) k) (chr (S.1 b.toNat) k)] else if w = 1 then [max (chr (S.1 a.toNat) k) (chr (S.1 b.toNat) k)] else if chr (S.1 a.toNat) k = chr (S.1 b.toNat) k then [chr (S.1 a.toNat) k] else []) = [chr (S.1 b.toNat) k] := by
                                  by_cases g0 : w = 0
                                  · rw [if_pos g0]
                                    exact congrArg (fun z => [z]) (by omega)
                                  · rw [if_neg g0]
                                    by_cases g1 : w = 1
                                    · rw [if_pos g1]
                                      exact congrArg (fun z => [z]) (by omega)
                                    · exact (if_neg g1).trans ((if_pos (by omega)).trans (congrArg (fun z => [z]) (by omega)))
                                rw [hval] at hF
                                refine ih (k + 1) (acc ++ [chr (S.1 b.toNat) k]) _ _ _ (by omega) (by omega) (by rw [List.length_append]; show acc.length + 1 ≤ k + 1; omega) (hL.snoc (by omega) _) (fun i h5 h6 => ?_) (hO.congr (by rw [mp_ne _ _ (by decide), mput_ne _ _ _ (by decide)]) (by rw [mput_ne _ _ _ (by decide), mput_ne _ _ _ (by decide)])) (hq1.tr ((Chg.put (Or.inl rfl)).tr (Chg.put (Or.inr (Or.inr ⟨rfl, Or.inl rfl⟩))))) (by rw [List.append_assoc]; exact hF)
                                rw [mput_ne _ _ _ (by decide), mp_ne _ _ (by omega)]
                                exact ha1 i (by omega) h6
                              · exfalso; omega
                            · refine x_iconst (pc := 115) hX dX7_merge_115 ?_
                              refine x_goto (pc := 116) (tgt := 120) hX dX7_merge_116 (by decide) ?_
                              refine x_icmp_ne (pc := 120) (tgt := 128) hX dX7_merge_120 (by decide) (by decide) (fun h120 => ?_) (fun h120 => ?_)
                              · exfalso; omega
                              · refine x_iload (pc := 123) hX rfl dX7_merge_123 ?_
                                refine x_goto (pc := 125) (tgt := 130) hX dX7_merge_125 (by decide) ?_
                                refine x_iast (pc := 130) (j := acc.length) hX hK.2.2.2.2.2.2.1 (by omega) (by omega) (by decide) dX7_merge_130 ?_
                                refine x_aload_n (pc := 131) hX rfl rfl dX7_merge_131 ?_
                                refine x_dup (pc := 132) hX rfl dX7_merge_132 ?_
                                refine x_getI (pc := 133) (v := (acc.length : Int)) hX fl_X7_63 hK.1 rfl (by rw [mput_ne _ _ _ (by decide)]; exact hL.1) dX7_merge_133 ?_
                                refine x_iconst (pc := 136) hX dX7_merge_136 ?_
                                refine x_iadd (pc := 137) (v := ((acc.length + 1 : Nat) : Int)) hX dX7_merge_137 (by omega) ?_
                                refine x_putI (pc := 138) hX fl_X7_63 hK.1 rfl rfl rfl dX7_merge_138 ?_
                                refine x_iinc (pc := 141) (v := ((k + 1 : Nat) : Int)) hX dX7_merge_141 rfl (by decide) rfl (by omega) rfl ?_
                                refine x_goto (pc := 144) (tgt := 52) hX dX7_merge_144 (by decide) ?_
                                have hval : (if w = 0 then [min (chr (S.1 a.toNat) k) (chr (S.1 b.toNat) k)] else if w = 1 then [max (chr (S.1 a.toNat) k) (chr (S.1 b.toNat) k)] else if chr (S.1 a.toNat) k = chr (S.1 b.toNat) k then [chr (S.1 a.toNat) k] else []) = [chr (S.1 a.toNat) k] := by
                                  by_cases g0 : w = 0
                                  · rw [if_pos g0]
                                    exact congrArg (fun z => [z]) (by omega)
                                  · rw [if_neg g0]
                                    by_cases g1 : w = 1
                                    · rw [if_pos g1]
                                      exact congrArg (fun z => [z]) (by omega)
                                    · exact (if_neg g1).trans ((if_pos (by omega)).trans (congrArg (fun z => [z]) (by omega)))
                                rw [hval] at hF
                                refine ih (k + 1) (acc ++ [chr (S.1 a.toNat) k]) _ _ _ (by omega) (by omega) (by rw [List.length_append]; show acc.length + 1 ≤ k + 1; omega) (hL.snoc (by omega) _) (fun i h5 h6 => ?_) (hO.congr (by rw [mp_ne _ _ (by decide), mput_ne _ _ _ (by decide)]) (by rw [mput_ne _ _ _ (by decide), mput_ne _ _ _ (by decide)])) (hq1.tr ((Chg.put (Or.inl rfl)).tr (Chg.put (Or.inr (Or.inr ⟨rfl, Or.inl rfl⟩))))) (by rw [List.append_assoc]; exact hF)
                                rw [mput_ne _ _ _ (by decide), mp_ne _ _ (by omega)]
                                exact ha1 i (by omega) h6
                        · refine x_iload (pc := 83) hX rfl dX7_merge_83 ?_
                          refine x_iload (pc := 85) hX rfl dX7_merge_85 ?_
                          refine x_icmp_ne (pc := 87) (tgt := 141) hX dX7_merge_87 (by decide) (by omega) (fun h87 => ?_) (fun h87 => ?_)
                          · refine x_iinc (pc := 141) (v := ((k + 1 : Nat) : Int)) hX dX7_merge_141 rfl (by decide) rfl (by omega) rfl ?_
                            refine x_goto (pc := 144) (tgt := 52) hX dX7_merge_144 (by decide) ?_
                            have hval : (if w = 0 then [min (chr (S.1 a.toNat) k) (chr (S.1 b.toNat) k)] else if w = 1 then [max (chr (S.1 a.toNat) k) (chr (S.1 b.toNat) k)] else if chr (S.1 a.toNat) k = chr (S.1 b.toNat) k then [chr (S.1 a.toNat) k] else []) = [] := by rw [if_neg (by omega), if_neg (by omega), if_neg (by omega)]
                            rw [hval, List.nil_append] at hF
                            exact ih (k + 1) acc _ _ M1 (by omega) (by omega) (by omega) hL (fun i h5 h6 => ha1 i (by omega) h6) hO hq1 hF
                          · refine x_aload_n (pc := 90) hX rfl rfl dX7_merge_90 ?_
                            refine x_getR (pc := 91) hX fl_X7_25 hK.1 rfl dX7_merge_91 ?_
                            refine x_aload_n (pc := 94) hX rfl rfl dX7_merge_94 ?_
                            refine x_getI (pc := 95) (v := (acc.length : Int)) hX fl_X7_63 hK.1 rfl hL.1 dX7_merge_95 ?_
                            refine x_iload (pc := 98) hX rfl dX7_merge_98 ?_
                            refine x_if_ne (pc := 100) (tgt := 107) hX dX7_merge_100 (by decide) (by omega) (fun h100 => ?_) (fun h100 => ?_)
                            · refine x_iconst (pc := 107) hX dX7_merge_107 ?_
                              refine x_iload (pc := 108) hX rfl dX7_merge_108 ?_
                              refine x_iload (pc := 110) hX rfl dX7_merge_110 ?_
                              refine x_icmp_ge (pc := 112) (tgt := 119) hX dX7_merge_112 (by decide) (by omega) (fun h112 => ?_) (fun h112 => ?_)
                              · refine x_iconst (pc := 119) hX dX7_merge_119 ?_
                                refine x_icmp_ne (pc := 120) (tgt := 128) hX dX7_merge_120 (by decide) (by decide) (fun h120 => ?_) (fun h120 => ?_)
                                · exfalso; omega
                                · refine x_iload (pc := 123) hX rfl dX7_merge_123 ?_
                                  refine x_goto (pc := 125) (tgt := 130) hX dX7_merge_125 (by decide) ?_
                                  refine x_iast (pc := 130) (j := acc.length) hX hK.2.2.2.2.2.2.1 (by omega) (by omega) (by decide) dX7_merge_130 ?_
                                  refine x_aload_n (pc := 131) hX rfl rfl dX7_merge_131 ?_
                                  refine x_dup (pc := 132) hX rfl dX7_merge_132 ?_
                                  refine x_getI (pc := 133) (v := (acc.length : Int)) hX fl_X7_63 hK.1 rfl (by rw [mput_ne _ _ _ (by decide)]; exact hL.1) dX7_merge_133 ?_
                                  refine x_iconst (pc := 136) hX dX7_merge_136 ?_
                                  refine x_iadd (pc := 137) (v := ((acc.length + 1 : Nat) : Int)) hX dX7_merge_137 (by omega) ?_
                                  refine x_putI (pc := 138) hX fl_X7_63 hK.1 rfl rfl rfl dX7_merge_138 ?_
                                  refine x_iinc (pc := 141) (v := ((k + 1 : Nat) : Int)) hX dX7_merge_141 rfl (by decide) rfl (by omega) rfl ?_
                                  refine x_goto (pc := 144) (tgt := 52) hX dX7_merge_144 (by decide) ?_
                                  have hval : (if w = 0 then [min (chr (S.1 a.toNat) k) (chr (S.1 b.toNat) k)] else if w = 1 then [max (chr (S.1 a.toNat) k) (chr (S.1 b.toNat) k)] else if chr (S.1 a.toNat) k = chr (S.1 b.toNat) k then [chr (S.1 a.toNat) k] else []) = [chr (S.1 a.toNat) k] := by
                                    by_cases g0 : w = 0
                                    · rw [if_pos g0]
                                      exact congrArg (fun z => [z]) (by omega)
                                    · rw [if_neg g0]
                                      by_cases g1 : w = 1
                                      · rw [if_pos g1]
                                        exact congrArg (fun z => [z]) (by omega)
                                      · exact (if_neg g1).trans ((if_pos (by omega)).trans (congrArg (fun z => [z]) (by omega)))
                                  rw [hval] at hF
                                  refine ih (k + 1) (acc ++ [chr (S.1 a.toNat) k]) _ _ _ (by omega) (by omega) (by rw [List.length_append]; show acc.length + 1 ≤ k + 1; omega) (hL.snoc (by omega) _) (fun i h5 h6 => ?_) (hO.congr (by rw [mp_ne _ _ (by decide), mput_ne _ _ _ (by decide)]) (by rw [mput_ne _ _ _ (by decide), mput_ne _ _ _ (by decide)])) (hq1.tr ((Chg.put (Or.inl rfl)).tr (Chg.put (Or.inr (Or.inr ⟨rfl, Or.inl rfl⟩))))) (by rw [List.append_assoc]; exact hF)
                                  rw [mput_ne _ _ _ (by decide), mp_ne _ _ (by omega)]
                                  exact ha1 i (by omega) h6
                              · refine x_iconst (pc := 115) hX dX7_merge_115 ?_
                                refine x_goto (pc := 116) (tgt := 120) hX dX7_merge_116 (by decide) ?_
                                refine x_icmp_ne (pc := 120) (tgt := 128) hX dX7_merge_120 (by decide) (by decide) (fun h120 => ?_) (fun h120 => ?_)
                                · refine x_iload (pc := 128) hX rfl dX7_merge_128 ?_
                                  refine x_iast (pc := 130) (j := acc.length) hX hK.2.2.2.2.2.2.1 (by omega) (by omega) (by decide) dX7_merge_130 ?_
                                  refine x_aload_n (pc := 131) hX rfl rfl dX7_merge_131 ?_
                                  refine x_dup (pc := 132) hX rfl dX7_merge_132 ?_
                                  refine x_getI (pc := 133) (v := (acc.length : Int)) hX fl_X7_63 hK.1 rfl (by rw [mput_ne _ _ _ (by decide)]; exact hL.1) dX7_merge_133 ?_
                                  refine x_iconst (pc := 136) hX dX7_merge_136 ?_
                                  refine x_iadd (pc := 137) (v := ((acc.length + 1 : Nat) : Int)) hX dX7_merge_137 (by omega) ?_
                                  refine x_putI (pc := 138) hX fl_X7_63 hK.1 rfl rfl rfl dX7_merge_138 ?_
                                  refine x_iinc (pc := 141) (v := ((k + 1 : Nat) : Int)) hX dX7_merge_141 rfl (by decide) rfl (by omega) rfl ?_
                                  refine x_goto (pc := 144) (tgt := 52) hX dX7_merge_144 (by decide) ?_
                                  have hval : (if w = 0 then [min (chr (S.1 a.toNat) k) (chr (S.1 b.toNat) k)] else if w = 1 then [max (chr (S.1 a.toNat) k) (chr (S.1 b.toNat) k)] else if chr (S.1 a.toNat) k = chr (S.1 b.toNat) k then [chr (S.1 a.toNat) k] else []) = [chr (S.1 b.toNat) k] := by
                                    by_cases g0 : w = 0
                                    · rw [if_pos g0]
                                      exact congrArg (fun z => [z]) (by omega)
                                    · rw [if_neg g0]
                                      by_cases g1 : w = 1
                                      · rw [if_pos g1]
                                        exact congrArg (fun z => [z]) (by omega)
                                      · exact (if_neg g1).trans ((if_pos (by omega)).trans (congrArg (fun z => [z]) (by omega)))
                                  rw [hval] at hF
                                  refine ih (k + 1) (acc ++ [chr (S.1 b.toNat) k]) _ _ _ (by omega) (by omega) (by rw [List.length_append]; show acc.length + 1 ≤ k + 1; omega) (hL.snoc (by omega) _) (fun i h5 h6 => ?_) (hO.congr (by rw [mp_ne _ _ (by decide), mput_ne _ _ _ (by decide)]) (by rw [mput_ne _ _ _ (by decide), mput_ne _ _ _ (by decide)])) (hq1.tr ((Chg.put (Or.inl rfl)).tr (Chg.put (Or.inr (Or.inr ⟨rfl, Or.inl rfl⟩))))) (by rw [List.append_assoc]; exact hF)
                                  rw [mput_ne _ _ _ (by decide), mp_ne _ _ (by omega)]
                                  exact ha1 i (by omega) h6
                                · exfalso; omega
                            · refine x_iconst (pc := 103) hX dX7_merge_103 ?_
                              refine x_goto (pc := 104) (tgt := 108) hX dX7_merge_104 (by decide) ?_
                              refine x_iload (pc := 108) hX rfl dX7_merge_108 ?_
                              refine x_iload (pc := 110) hX rfl dX7_merge_110 ?_
                              refine x_icmp_ge (pc := 112) (tgt := 119) hX dX7_merge_112 (by decide) (by omega) (fun h112 => ?_) (fun h112 => ?_)
                              · refine x_iconst (pc := 119) hX dX7_merge_119 ?_
                                refine x_icmp_ne (pc := 120) (tgt := 128) hX dX7_merge_120 (by decide) (by decide) (fun h120 => ?_) (fun h120 => ?_)
                                · refine x_iload (pc := 128) hX rfl dX7_merge_128 ?_
                                  refine x_iast (pc := 130) (j := acc.length) hX hK.2.2.2.2.2.2.1 (by omega) (by omega) (by decide) dX7_merge_130 ?_
                                  refine x_aload_n (pc := 131) hX rfl rfl dX7_merge_131 ?_
                                  refine x_dup (pc := 132) hX rfl dX7_merge_132 ?_
                                  refine x_getI (pc := 133) (v := (acc.length : Int)) hX fl_X7_63 hK.1 rfl (by rw [mput_ne _ _ _ (by decide)]; exact hL.1) dX7_merge_133 ?_
                                  refine x_iconst (pc := 136) hX dX7_merge_136 ?_
                                  refine x_iadd (pc := 137) (v := ((acc.length + 1 : Nat) : Int)) hX dX7_merge_137 (by omega) ?_
                                  refine x_putI (pc := 138) hX fl_X7_63 hK.1 rfl rfl rfl dX7_merge_138 ?_
                                  refine x_iinc (pc := 141) (v := ((k + 1 : Nat) : Int)) hX dX7_merge_141 rfl (by decide) rfl (by omega) rfl ?_
                                  refine x_goto (pc := 144) (tgt := 52) hX dX7_merge_144 (by decide) ?_
                                  have hval : (if w = 0 then [min (chr (S.1 a.toNat) k) (chr (S.1 b.toNat) k)] else if w = 1 then [max (chr (S.1 a.toNat) k) (chr (S.1 b.toNat) k)] else if chr (S.1 a.toNat) k = chr (S.1 b.toNat) k then [chr (S.1 a.toNat) k] else []) = [chr (S.1 b.toNat) k] := by
                                    by_cases g0 : w = 0
                                    · rw [if_pos g0]
                                      exact congrArg (fun z => [z]) (by omega)
                                    · rw [if_neg g0]
                                      by_cases g1 : w = 1
                                      · rw [if_pos g1]
                                        exact congrArg (fun z => [z]) (by omega)
                                      · exact (if_neg g1).trans ((if_pos (by omega)).trans (congrArg (fun z => [z]) (by omega)))
                                  rw [hval] at hF
                                  refine ih (k + 1) (acc ++ [chr (S.1 b.toNat) k]) _ _ _ (by omega) (by omega) (by rw [List.length_append]; show acc.length + 1 ≤ k + 1; omega) (hL.snoc (by omega) _) (fun i h5 h6 => ?_) (hO.congr (by rw [mp_ne _ _ (by decide), mput_ne _ _ _ (by decide)]) (by rw [mput_ne _ _ _ (by decide), mput_ne _ _ _ (by decide)])) (hq1.tr ((Chg.put (Or.inl rfl)).tr (Chg.put (Or.inr (Or.inr ⟨rfl, Or.inl rfl⟩))))) (by rw [List.append_assoc]; exact hF)
                                  rw [mput_ne _ _ _ (by decide), mp_ne _ _ (by omega)]
                                  exact ha1 i (by omega) h6
                                · exfalso; omega
                              · refine x_iconst (pc := 115) hX dX7_merge_115 ?_
                                refine x_goto (pc := 116) (tgt := 120) hX dX7_merge_116 (by decide) ?_
                                refine x_icmp_ne (pc := 120) (tgt := 128) hX dX7_merge_120 (by decide) (by decide) (fun h120 => ?_) (fun h120 => ?_)
                                · exfalso; omega
                                · refine x_iload (pc := 123) hX rfl dX7_merge_123 ?_
                                  refine x_goto (pc := 125) (tgt := 130) hX dX7_merge_125 (by decide) ?_
                                  refine x_iast (pc := 130) (j := acc.length) hX hK.2.2.2.2.2.2.1 (by omega) (by omega) (by decide) dX7_merge_130 ?_
                                  refine x_aload_n (pc := 131) hX rfl rfl dX7_merge_131 ?_
                                  refine x_dup (pc := 132) hX rfl dX7_merge_132 ?_
                                  refine x_getI (pc := 133) (v := (acc.length : Int)) hX fl_X7_63 hK.1 rfl (by rw [mput_ne _ _ _ (by decide)]; exact hL.1) dX7_merge_133 ?_
                                  refine x_iconst (pc := 136) hX dX7_merge_136 ?_
                                  refine x_iadd (pc := 137) (v := ((acc.length + 1 : Nat) : Int)) hX dX7_merge_137 (by omega) ?_
                                  refine x_putI (pc := 138) hX fl_X7_63 hK.1 rfl rfl rfl dX7_merge_138 ?_
                                  refine x_iinc (pc := 141) (v := ((k + 1 : Nat) : Int)) hX dX7_merge_141 rfl (by decide) rfl (by omega) rfl ?_
                                  refine x_goto (pc := 144) (tgt := 52) hX dX7_merge_144 (by decide) ?_
                                  have hval : (if w = 0 then [min (chr (S.1 a.toNat) k) (chr (S.1 b.toNat) k)] else if w = 1 then [max (chr (S.1 a.toNat) k) (chr (S.1 b.toNat) k)] else if chr (S.1 a.toNat) k = chr (S.1 b.toNat) k then [chr (S.1 a.toNat) k] else []) = [chr (S.1 a.toNat) k] := by
                                    by_cases g0 : w = 0
                                    · rw [if_pos g0]
                                      exact congrArg (fun z => [z]) (by omega)
                                    · rw [if_neg g0]
                                      by_cases g1 : w = 1
                                      · rw [if_pos g1]
                                        exact congrArg (fun z => [z]) (by omega)
                                      · exact (if_neg g1).trans ((if_pos (by omega)).trans (congrArg (fun z => [z]) (by omega)))
                                  rw [hval] at hF
                                  refine ih (k + 1) (acc ++ [chr (S.1 a.toNat) k]) _ _ _ (by omega) (by omega) (by rw [List.length_append]; show acc.length + 1 ≤ k + 1; omega) (hL.snoc (by omega) _) (fun i h5 h6 => ?_) (hO.congr (by rw [mp_ne _ _ (by decide), mput_ne _ _ _ (by decide)]) (by rw [mput_ne _ _ _ (by decide), mput_ne _ _ _ (by decide)])) (hq1.tr ((Chg.put (Or.inl rfl)).tr (Chg.put (Or.inr (Or.inr ⟨rfl, Or.inl rfl⟩))))) (by rw [List.append_assoc]; exact hF)
                                  rw [mput_ne _ _ _ (by decide), mp_ne _ _ (by omega)]
                                  exact ha1 i (by omega) h6
                  refine x_istore (pc := 42) hX (by decide) rfl rfl dX7_merge_42 ?_
                  refine x_aload_n (pc := 44) hX rfl rfl dX7_merge_44 ?_
                  refine x_iconst (pc := 45) hX dX7_merge_45 ?_
                  refine x_putI (pc := 46) hX fl_X7_63 hK.1 rfl rfl rfl dX7_merge_46 ?_
                  refine x_iconst (pc := 49) hX dX7_merge_49 ?_
                  refine x_istore (pc := 50) hX (by decide) rfl rfl dX7_merge_50 ?_
                  exact loop ((min (S.1 a.toNat).length (S.1 b.toNat).length) + 1) 0 [] none none _ (by omega) (by omega) (Nat.le_refl _) Lay.zero (fun i h5 h6 => by rw [mput_ne _ _ _ (by decide)]; exact hL1.2.2 i h6) (hO1.congr (by rw [mp_ne _ _ (by decide)]) (by rw [mput_ne _ _ _ (by decide)])) (hq1.tr (Chg.put (Or.inr (Or.inr ⟨rfl, Or.inl rfl⟩)))) (by rw [List.drop_zero, List.nil_append])
                · exfalso; omega
              · rw [if_neg hww]
                refine x_if_ne (pc := 30) (tgt := 36) hX dX7_merge_30 (by decide) (by omega) (fun h30 => ?_) (fun h30 => ?_)
                · exfalso; omega
                · refine x_bipush (pc := 33) hX (by decide) dX7_merge_33 ?_
                  rw [if_pos (by omega)] at hdd
                  subst hdd
                  subst hR
                  refine x_iret (pc := 35) hX rfl (Nat.zero_le _) (Nat.zero_le _) dX7_merge_35 ?_
                  exact pI_i ⟨rfl, hS, Chg.rf⟩
            · exfalso; omega
          · rw [if_neg hcb15]
            refine x_if_ne (pc := 18) (tgt := 23) hX dX7_merge_18 (by decide) (by omega) (fun h18 => ?_) (fun h18 => ?_)
            · exfalso; omega
            · refine x_iconst (pc := 21) hX dX7_merge_21 ?_
              rw [if_pos (by omega)] at hdd
              subst hdd
              subst hR
              refine x_iret (pc := 22) hX rfl (Nat.zero_le _) (Nat.zero_le _) dX7_merge_22 ?_
              exact pI_i ⟨rfl, hS, Chg.rf⟩
      · rw [if_neg hca8]
        refine x_if_eq (pc := 11) (tgt := 21) hX dX7_merge_11 (by decide) (by omega) (fun h11 => ?_) (fun h11 => ?_)
        · refine x_iconst (pc := 21) hX dX7_merge_21 ?_
          rw [if_pos (by omega)] at hdd
          subst hdd
          subst hR
          refine x_iret (pc := 22) hX rfl (Nat.zero_le _) (Nat.zero_le _) dX7_merge_22 ?_
          exact pI_i ⟨rfl, hS, Chg.rf⟩
        · exfalso; omega
  · rw [if_neg hcc1]
    refine x_if_eq (pc := 4) (tgt := 21) hX dX7_merge_4 (by decide) (by omega) (fun h4 => ?_) (fun h4 => ?_)
    · refine x_iconst (pc := 21) hX dX7_merge_21 ?_
      rw [if_pos (by omega)] at hdd
      subst hdd
      subst hR
      refine x_iret (pc := 22) hX rfl (Nat.zero_le _) (Nat.zero_le _) dX7_merge_22 ?_
      exact pI_i ⟨rfl, hS, Chg.rf⟩
    · exfalso; omega

