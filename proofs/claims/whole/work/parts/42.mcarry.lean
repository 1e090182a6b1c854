/-! the model: orders carried out -/
theorem dRunsF_zero : ∀ (L : Ru) (l0 : List Nat), (∃ x, x < L.length ∧ rn L x = 0) → ∃ e, dRunsF l0 L = .inl e
  | [], l0, ⟨x, hx, _⟩ => absurd hx (Nat.not_lt_zero _)
  | (v, n) :: t, l0, ⟨x, hx, h0⟩ => by
    rw [dRunsF]
    by_cases e : n < 1
    · rw [if_pos e]
      exact ⟨_, rfl⟩
    · rw [if_neg e]
      cases x with
      | zero =>
        have h1 : n = 0 := h0
        omega
      | succ x => exact dRunsF_zero t _ ⟨x, by simp at hx; omega, h0⟩
theorem dRunsF_pos : ∀ (L : Ru) (l0 : List Nat), (∀ x, x < L.length → 1 ≤ rn L x) → dRunsF l0 L = dFin (l0 ++ rows L)
  | [], l0, _ => by
    rw [dRunsF, rows, List.append_nil]
  | (v, n) :: t, l0, h => by
    have h1 : 1 ≤ n := h 0 (by simp)
    rw [dRunsF, if_neg (by omega), dRunsF_pos t _ (fun x hx => h (x + 1) (by simp; omega)), rows, List.append_assoc]
theorem dFin_or (l : List Nat) : (fit l ∧ dFin l = .inr l) ∨ (¬ fit l ∧ dFin l = .inl (-4)) := by
  unfold dFin
  by_cases h : fit l
  · exact Or.inl ⟨h, if_pos h⟩
  · exact Or.inr ⟨h, if_neg h⟩
theorem rows_le9 : ∀ (L : Ru), (∀ q ∈ L, q.1 ≤ 9) → ∀ v ∈ rows L, v ≤ 9
  | [], _, v, hv => by cases hv
  | (w, n) :: t, h, v, hv => by
    rw [rows] at hv
    rcases List.mem_append.mp hv with g | g
    · rw [(List.mem_replicate.mp g).2]
      exact h (w, n) List.mem_cons_self
    · exact rows_le9 t (fun q hq => h q (List.mem_cons_of_mem _ hq)) v g
theorem Lay.same {M : XM} {l : List Nat} (h : Lay M l) : Lay (mput M 140 8 (l.length : Int)) l := ⟨mp_eq _ _ _ _, h.2.1, by rw [mput_ne _ _ _ (by decide)]; exact h.2.2⟩
theorem take_all_put (l : List Nat) (n v : Nat) : l.take l.length ++ List.replicate n v ++ l.drop l.length = l ++ List.replicate n v := by
  rw [List.take_length, List.drop_length, List.append_nil]
theorem Chg.pl2 {M M' : XM} {q f : Nat} (h : Chg PL M M') (h1 : q ≠ 146) (h2 : q = 140 → f ≠ 8) : M' q f = M q f := h.at (by unfold PL; omega)
set_option maxHeartbeats 4000000 in
set_option maxRecDepth 100000 in
theorem tX7_layOutTold {G : XG} {κ : XKs} {M : XM} {hs : Nat} (hK : KM κ hs) {l0 : List Nat} (hL : Lay M l0) (hl0 : l0.length ≤ 999 ∧ ∀ v ∈ l0, v ≤ 9) (L : Ru) (hLL : L.length ≤ 40) (hL2 : ∀ q ∈ L, q.1 ≤ 9 ∧ q.2 ≤ 999) (h3 : M 140 19 = (L.length : Int)) (hA : ∀ x, x < L.length → M 149 x = (rv L x : Int) ∧ M 150 x = (rn L x : Int)) {res : Int ⊕ List Nat} (hres : dRunsF l0 L = res) : XC G mX7_layOutTold 2 0 0 [xR 140] κ M hs (pI κ hs (fun a M' => Chg PL M M' ∧ (∀ e, res = .inl e → -4 ≤ a ∧ a < 0) ∧ ∀ l, res = .inr l → a = 0 ∧ Lay M' l)) := by
  refine XC.intro cdX7_layOutTold (by decide) (by decide) (Nat.le_of_ble_eq_true rfl) (loc := [some (xR 140), none, none, none]) rfl (fun X hX => ?_)
  have loop2 : ∀ (n k : Nat) (M1 : XM), k ≤ L.length → L.length < k + n → Lay M1 (l0 ++ rows (L.take k)) → Chg PL M M1 → (∀ x, x < L.length → 1 ≤ rn L x) → l0.length + tot L ≤ 999 → ∀ (y1 y2 : Int), XW G X mX7_layOutTold (xq G (pI κ hs (fun a M' => Chg PL M M' ∧ (∀ e, res = .inl e → -4 ≤ a ∧ a < 0) ∧ ∀ l, res = .inr l → a = 0 ∧ Lay M' l)) 0 0 X) 0 0 76 [some (xR 140), some (xI y1), some (xI y2), some (xI (k : Int))] [] κ M1 hs := by
    intro n
    induction n with
    | zero => intro k M1 h1 h2; omega
    | succ n ih =>
      intro k M1 h1 h2 hL1 hq1 hpos hall y1 y2
      refine x_iload_n (pc := 76) hX rfl rfl dX7_layOutTold_76 ?_
      refine x_aload_n (pc := 77) hX rfl rfl dX7_layOutTold_77 ?_
      refine x_getI (pc := 78) (v := (L.length : Int)) hX fl_X7_179 hK.1 rfl (by rw [hq1.pl2 (by decide) (by decide)]; exact h3) dX7_layOutTold_78 ?_
      refine x_icmp_ge (pc := 81) (tgt := 110) hX dX7_layOutTold_81 (by decide) (by omega) (fun h81 => ?_) (fun h81 => ?_)
      · obtain rfl : k = L.length := by omega
        rw [List.take_length] at hL1
        have hv9 : ∀ v ∈ l0 ++ rows L, v ≤ 9 := fun v hv => (List.mem_append.mp hv).elim (hl0.2 v) (rows_le9 L (fun q hq => (hL2 q hq).1) v)
        refine x_aload_n (pc := 110) hX rfl rfl dX7_layOutTold_110 ?_
        refine x_cV_P (pc := 111) hX (tX7_isTooMany hK hL1 hv9) hK.1 rfl lk_X7_91 rfl rfl (Nat.le_of_ble_eq_true rfl) (by decide) (Nat.zero_le _) (Nat.zero_le _) dX7_layOutTold_111 ?_
        by_cases hft : (l0 ++ rows L).length ≤ 999 ∧ (enc (l0 ++ rows L)).length ≤ 40
        · rw [if_pos hft]
          refine x_if_eq (pc := 114) (tgt := 122) hX dX7_layOutTold_114 (by decide) (by omega) (fun h114 => ?_) (fun h114 => ?_)
          · refine x_iconst (pc := 122) hX dX7_layOutTold_122 ?_
            refine x_iret (pc := 123) hX rfl (Nat.zero_le _) (Nat.zero_le _) dX7_layOutTold_123 ?_
            refine pI_i ⟨hq1, fun e he => ?_, fun l hl => ?_⟩
            · rcases dFin_or (l0 ++ rows L) with ⟨-, g⟩ | ⟨g, -⟩
              · rw [← hres, dRunsF_pos L l0 hpos, g] at he
                cases he
              · exact absurd hft g
            · rcases dFin_or (l0 ++ rows L) with ⟨-, g⟩ | ⟨g, -⟩
              · rw [← hres, dRunsF_pos L l0 hpos, g] at hl
                cases hl
                exact ⟨rfl, hL1⟩
              · exact absurd hft g
          · exfalso; omega
        · rw [if_neg hft]
          refine x_if_eq (pc := 114) (tgt := 122) hX dX7_layOutTold_114 (by decide) (by omega) (fun h114 => ?_) (fun h114 => ?_)
          · exfalso; omega
          · refine x_bipush (pc := 117) hX (by decide) dX7_layOutTold_117 ?_
            refine x_goto (pc := 119) (tgt := 123) hX dX7_layOutTold_119 (by decide) ?_
            refine x_iret (pc := 123) hX rfl (Nat.zero_le _) (Nat.zero_le _) dX7_layOutTold_123 ?_
            refine pI_i ⟨hq1, fun e he => by omega, fun l hl => ?_⟩
            rcases dFin_or (l0 ++ rows L) with ⟨g, -⟩ | ⟨-, g⟩
            · exact absurd g hft
            · rw [← hres, dRunsF_pos L l0 hpos, g] at hl
              cases hl
      · have hkl : k < L.length := by omega
        have hmm := hL2 _ (ru_mem hkl)
        have hmm1 : rv L k ≤ 9 := hmm.1
        have ht := tot_take_succ hkl
        have ht2 := tot_take_le L (k + 1)
        have hlen : (l0 ++ rows (L.take k)).length = l0.length + tot (L.take k) := by rw [List.length_append, rows_len]
        refine x_aload_n (pc := 84) hX rfl rfl dX7_layOutTold_84 ?_
        refine x_aload_n (pc := 85) hX rfl rfl dX7_layOutTold_85 ?_
        refine x_getI (pc := 86) (v := ((l0 ++ rows (L.take k)).length : Int)) hX fl_X7_63 hK.1 rfl hL1.1 dX7_layOutTold_86 ?_
        refine x_aload_n (pc := 89) hX rfl rfl dX7_layOutTold_89 ?_
        refine x_getR (pc := 90) hX fl_X7_34 hK.1 rfl dX7_layOutTold_90 ?_
        refine x_iload_n (pc := 93) hX rfl rfl dX7_layOutTold_93 ?_
        refine x_iald (pc := 94) (j := k) (v := (rv L k : Int)) hX hK.2.2.2.2.2.2.2.2.2.1 (by omega) (by omega) (by decide) (by rw [hq1.pl2 (by decide) (fun z => absurd z (by decide))]; exact (hA k hkl).1) dX7_layOutTold_94 ?_
        refine x_aload_n (pc := 95) hX rfl rfl dX7_layOutTold_95 ?_
        refine x_getR (pc := 96) hX fl_X7_37 hK.1 rfl dX7_layOutTold_96 ?_
        refine x_iload_n (pc := 99) hX rfl rfl dX7_layOutTold_99 ?_
        refine x_iald (pc := 100) (j := k) (v := (rn L k : Int)) hX hK.2.2.2.2.2.2.2.2.2.2 (by omega) (by omega) (by decide) (by rw [hq1.pl2 (by decide) (fun z => absurd z (by decide))]; exact (hA k hkl).2) dX7_layOutTold_100 ?_
        refine x_cV_V (pc := 101) hX (tX7_putIn hK hL1 (l0 ++ rows (L.take k)).length (Nat.le_refl _) (rv L k) (rn L k) (by omega)) hK.1 rfl lk_X7_87 rfl rfl (Nat.le_of_ble_eq_true rfl) (by decide) (Nat.zero_le _) (Nat.zero_le _) dX7_layOutTold_101 (fun M2 hp => ?_)
        obtain ⟨hL2a, hq2⟩ := hp
        rw [take_all_put, List.append_assoc, ← rows_take_succ hkl] at hL2a
        refine x_iinc (pc := 104) (v := ((k + 1 : Nat) : Int)) hX dX7_layOutTold_104 rfl (by decide) rfl (by omega) rfl ?_
        refine x_goto (pc := 107) (tgt := 76) hX dX7_layOutTold_107 (by decide) ?_
        exact ih (k + 1) M2 (by omega) (by omega) hL2a (hq1.tr hq2) hpos hall y1 y2
  have loop : ∀ (n k : Nat) (g : Int), k ≤ L.length → L.length < k + n → tot (L.take k) ≤ 999 * k → (g = 1 ∧ (∀ x, x < k → 1 ≤ rn L x) ∨ g = 0 ∧ ∃ x, x < L.length ∧ rn L x = 0) → XW G X mX7_layOutTold (xq G (pI κ hs (fun a M' => Chg PL M M' ∧ (∀ e, res = .inl e → -4 ≤ a ∧ a < 0) ∧ ∀ l, res = .inr l → a = 0 ∧ Lay M' l)) 0 0 X) 0 0 9 [some (xR 140), some (xI ((l0.length + tot (L.take k) : Nat) : Int)), some (xI g), some (xI (k : Int))] [] κ M hs := by
    intro n
    induction n with
    | zero => intro k g h1 h2; omega
    | succ n ih =>
      intro k g h1 h2 htk hg
      refine x_iload_n (pc := 9) hX rfl rfl dX7_layOutTold_9 ?_
      refine x_aload_n (pc := 10) hX rfl rfl dX7_layOutTold_10 ?_
      refine x_getI (pc := 11) (v := (L.length : Int)) hX fl_X7_179 hK.1 rfl h3 dX7_layOutTold_11 ?_
      refine x_icmp_ge (pc := 14) (tgt := 51) hX dX7_layOutTold_14 (by decide) (by omega) (fun h14 => ?_) (fun h14 => ?_)
      · obtain rfl : k = L.length := by omega
        rw [List.take_length] at htk ⊢
        refine x_iload_n (pc := 51) hX rfl rfl dX7_layOutTold_51 ?_
        refine x_if_eq (pc := 52) (tgt := 62) hX dX7_layOutTold_52 (by decide) (by omega) (fun h52 => ?_) (fun h52 => ?_)
        · refine x_iload_n (pc := 62) hX rfl rfl dX7_layOutTold_62 ?_
          refine x_if_eq (pc := 63) (tgt := 71) hX dX7_layOutTold_63 (by decide) (by omega) (fun h63 => ?_) (fun h63 => ?_)
          · refine x_bipush (pc := 71) hX (by decide) dX7_layOutTold_71 ?_
            refine x_iret (pc := 73) hX rfl (Nat.zero_le _) (Nat.zero_le _) dX7_layOutTold_73 ?_
            refine pI_i ⟨Chg.rf, fun e he => by omega, fun l hl => ?_⟩
            obtain ⟨e, g⟩ := dRunsF_zero L l0 (hg.resolve_left (fun z => by omega)).2
            rw [← hres, g] at hl
            cases hl
          · exfalso; omega
        · have hpos := (hg.resolve_right (fun z => by omega)).2
          refine x_iload_n (pc := 55) hX rfl rfl dX7_layOutTold_55 ?_
          refine x_sipush (pc := 56) hX (by decide) dX7_layOutTold_56 ?_
          refine x_icmp_le (pc := 59) (tgt := 74) hX dX7_layOutTold_59 (by decide) (by omega) (fun h59 => ?_) (fun h59 => ?_)
          · refine x_iconst (pc := 74) hX dX7_layOutTold_74 ?_
            refine x_istore_n (pc := 75) hX rfl (by decide) rfl rfl dX7_layOutTold_75 ?_
            exact loop2 (L.length + 1) 0 M (Nat.zero_le _) (by omega) (by rw [List.take_zero, rows, List.append_nil]; exact hL) Chg.rf hpos (by omega) _ _
          · refine x_iload_n (pc := 62) hX rfl rfl dX7_layOutTold_62 ?_
            refine x_if_eq (pc := 63) (tgt := 71) hX dX7_layOutTold_63 (by decide) (by omega) (fun h63 => ?_) (fun h63 => ?_)
            · exfalso; omega
            · refine x_bipush (pc := 66) hX (by decide) dX7_layOutTold_66 ?_
              refine x_goto (pc := 68) (tgt := 73) hX dX7_layOutTold_68 (by decide) ?_
              refine x_iret (pc := 73) hX rfl (Nat.zero_le _) (Nat.zero_le _) dX7_layOutTold_73 ?_
              refine pI_i ⟨Chg.rf, fun e he => by omega, fun l hl => ?_⟩
              rcases dFin_or (l0 ++ rows L) with ⟨g, -⟩ | ⟨-, g⟩
              · have g2 := g.1
                rw [List.length_append, rows_len] at g2
                omega
              · rw [← hres, dRunsF_pos L l0 hpos, g] at hl
                cases hl
      · have hkl : k < L.length := by omega
        have hmm := hL2 _ (ru_mem hkl)
        have hmm2 : rn L k ≤ 999 := hmm.2
        have ht := tot_take_succ hkl
        have hAk := (hA k hkl).2
        refine x_iload_n (pc := 17) hX rfl rfl dX7_layOutTold_17 ?_
        refine x_aload_n (pc := 18) hX rfl rfl dX7_layOutTold_18 ?_
        refine x_getR (pc := 19) hX fl_X7_37 hK.1 rfl dX7_layOutTold_19 ?_
        refine x_iload_n (pc := 22) hX rfl rfl dX7_layOutTold_22 ?_
        refine x_iald (pc := 23) (j := k) (v := (rn L k : Int)) hX hK.2.2.2.2.2.2.2.2.2.2 (by omega) (by omega) (by decide) hAk dX7_layOutTold_23 ?_
        refine x_iadd (pc := 24) (v := ((l0.length + tot (L.take (k + 1)) : Nat) : Int)) hX dX7_layOutTold_24 (by omega) ?_
        refine x_istore_n (pc := 25) hX rfl (by decide) rfl rfl dX7_layOutTold_25 ?_
        refine x_iload_n (pc := 26) hX rfl rfl dX7_layOutTold_26 ?_
        refine x_if_eq (pc := 27) (tgt := 43) hX dX7_layOutTold_27 (by decide) (by omega) (fun h27 => ?_) (fun h27 => ?_)
        · refine x_iconst (pc := 43) hX dX7_layOutTold_43 ?_
          refine x_istore_n (pc := 44) hX rfl (by decide) rfl rfl dX7_layOutTold_44 ?_
          refine x_iinc (pc := 45) (v := ((k + 1 : Nat) : Int)) hX dX7_layOutTold_45 rfl (by decide) rfl (by omega) rfl ?_
          refine x_goto (pc := 48) (tgt := 9) hX dX7_layOutTold_48 (by decide) ?_
          refine ih (k + 1) _ (by omega) (by omega) (by omega) (Or.inr ⟨rfl, ?_⟩)
          obtain ⟨x, g1, g2⟩ := (hg.resolve_left (fun z => by omega)).2
          exact ⟨x, g1, g2⟩
        · refine x_aload_n (pc := 30) hX rfl rfl dX7_layOutTold_30 ?_
          refine x_getR (pc := 31) hX fl_X7_37 hK.1 rfl dX7_layOutTold_31 ?_
          refine x_iload_n (pc := 34) hX rfl rfl dX7_layOutTold_34 ?_
          refine x_iald (pc := 35) (j := k) (v := (rn L k : Int)) hX hK.2.2.2.2.2.2.2.2.2.2 (by omega) (by omega) (by decide) hAk dX7_layOutTold_35 ?_
          refine x_if_le (pc := 36) (tgt := 43) hX dX7_layOutTold_36 (by decide) (by omega) (fun h36 => ?_) (fun h36 => ?_)
          · refine x_iconst (pc := 43) hX dX7_layOutTold_43 ?_
            refine x_istore_n (pc := 44) hX rfl (by decide) rfl rfl dX7_layOutTold_44 ?_
            refine x_iinc (pc := 45) (v := ((k + 1 : Nat) : Int)) hX dX7_layOutTold_45 rfl (by decide) rfl (by omega) rfl ?_
            refine x_goto (pc := 48) (tgt := 9) hX dX7_layOutTold_48 (by decide) ?_
            exact ih (k + 1) _ (by omega) (by omega) (by omega) (Or.inr ⟨rfl, k, hkl, by omega⟩)
          · refine x_iconst (pc := 39) hX dX7_layOutTold_39 ?_
            refine x_goto (pc := 40) (tgt := 44) hX dX7_layOutTold_40 (by decide) ?_
            refine x_istore_n (pc := 44) hX rfl (by decide) rfl rfl dX7_layOutTold_44 ?_
            refine x_iinc (pc := 45) (v := ((k + 1 : Nat) : Int)) hX dX7_layOutTold_45 rfl (by decide) rfl (by omega) rfl ?_
            refine x_goto (pc := 48) (tgt := 9) hX dX7_layOutTold_48 (by decide) ?_
            refine ih (k + 1) _ (by omega) (by omega) (by omega) (Or.inl ⟨rfl, fun x hx => ?_⟩)
            have hg2 := (hg.resolve_right (fun z => by omega)).2
            by_cases e : x = k
            · rw [e]; omega
            · exact hg2 x (by omega)
  refine x_aload_n (pc := 0) hX rfl rfl dX7_layOutTold_0 ?_
  refine x_getI (pc := 1) (v := (l0.length : Int)) hX fl_X7_63 hK.1 rfl hL.1 dX7_layOutTold_1 ?_
  refine x_istore_n (pc := 4) hX rfl (by decide) rfl rfl dX7_layOutTold_4 ?_
  refine x_iconst (pc := 5) hX dX7_layOutTold_5 ?_
  refine x_istore_n (pc := 6) hX rfl (by decide) rfl rfl dX7_layOutTold_6 ?_
  refine x_iconst (pc := 7) hX dX7_layOutTold_7 ?_
  refine x_istore_n (pc := 8) hX rfl (by decide) rfl rfl dX7_layOutTold_8 ?_
  exact loop (L.length + 1) 0 1 (Nat.zero_le _) (by omega) (Nat.le_refl _) (Or.inl ⟨rfl, fun x hx => absurd hx (Nat.not_lt_zero _)⟩)

theorem dRunsF_inr {l0 : List Nat} {L : Ru} {l : List Nat} (h : dRunsF l0 L = .inr l) (hL : ∀ q ∈ L, q.1 ≤ 9) (h0 : ∀ v ∈ l0, v ≤ 9) : fit l ∧ ∀ v ∈ l, v ≤ 9 := by
  by_cases hz : ∃ x, x < L.length ∧ rn L x = 0
  · obtain ⟨e, g⟩ := dRunsF_zero L l0 hz
    rw [g] at h
    cases h
  · rw [dRunsF_pos L l0 (fun x hx => by
      have : ¬ rn L x = 0 := fun z => hz ⟨x, hx, z⟩
      omega)] at h
    rcases dFin_or (l0 ++ rows L) with ⟨g1, g⟩ | ⟨-, g⟩
    · rw [g] at h
      cases h
      exact ⟨g1, fun v hv => (List.mem_append.mp hv).elim (h0 v) (rows_le9 L hL v)⟩
    · rw [g] at h
      cases h
set_option maxHeartbeats 4000000 in
set_option maxRecDepth 100000 in
theorem tX7_doesOrder {G : XG} {κ : XKs} {M : XM} {hs : Nat} (hK : KM κ hs) {cs : Cs} (hS : MS (M 141) 0 cs) {od : Od} (hO : OdOk od) (hM : OdK M od) {res : Int ⊕ List Nat} (hres : dOrd cs od = res) : XC G mX7_doesOrder 4 0 0 [xR 140] κ M hs (pI κ hs (fun a M' => (∀ e, res = .inl e → a = 0 ∧ Chg PB M M') ∧ ∀ l, res = .inr l → a = 1 ∧ MC (M' 141) (81 * od.1) l ∧ Chg (PT od.1) M M')) := by
  refine XC.intro cdX7_doesOrder (by decide) (by decide) (Nat.le_of_ble_eq_true rfl) (loc := [some (xR 140)]) rfl (fun X hX => ?_)
  obtain ⟨c, k, r, n, L⟩ := od
  obtain ⟨hc, hk, hr, hn, hLL, hL2a⟩ := hO
  obtain ⟨h13, h14, hru, hop⟩ := hM
  simp only at hc hk hr hn hLL hL2a h13 h14 hru hop
  unfold dOrd at hres
  simp only at hres
  have hok := (hS.col hc).2.2
  refine x_aload_n (pc := 0) hX rfl rfl dX7_doesOrder_0 ?_
  refine x_getI (pc := 1) (v := (k : Int)) hX fl_X7_188 hK.1 rfl h14 dX7_doesOrder_1 ?_
  rcases (show k = 61 ∨ k = 43 ∨ k = 33 ∨ k = 45 ∨ k = 64 by omega) with hkk | hkk | hkk | hkk | hkk
  · have hru := hru (by omega)
    simp only [if_neg (show ¬ k = 33 by omega), if_neg (show ¬ k = 45 by omega), if_neg (show ¬ k = 64 by omega)] at hres
    rw [if_neg (by omega)] at hres
    refine x_lookup (pc := 4) (off := 44) (tgt := 48) hX dX7_doesOrder_4 (by decide) (by omega) (by show (if (33 : Int) = (k : Int) then (92 : Int) else if (43 : Int) = (k : Int) then (44 : Int) else if (45 : Int) = (k : Int) then (103 : Int) else if (61 : Int) = (k : Int) then (44 : Int) else 143) = 44; (repeat' split) <;> omega) (by decide) ?_
    refine x_aload_n (pc := 48) hX rfl rfl dX7_doesOrder_48 ?_
    refine x_aload_n (pc := 49) hX rfl rfl dX7_doesOrder_49 ?_
    refine x_getI (pc := 50) (v := (c : Int)) hX fl_X7_200 hK.1 rfl h13 dX7_doesOrder_50 ?_
    refine x_cV_V (pc := 53) hX (tX7_layOut hK hS c hc) hK.1 rfl lk_X7_83 rfl rfl (Nat.le_of_ble_eq_true rfl) (by decide) (Nat.zero_le _) (Nat.zero_le _) dX7_doesOrder_53 (fun M1 hp => ?_)
    obtain ⟨hL1, hq1⟩ := hp
    refine x_aload_n (pc := 56) hX rfl rfl dX7_doesOrder_56 ?_
    refine x_aload_n (pc := 57) hX rfl rfl dX7_doesOrder_57 ?_
    refine x_getI (pc := 58) (v := (k : Int)) hX fl_X7_188 hK.1 rfl ((hq1.pl2 (by decide) (by decide)).trans h14) dX7_doesOrder_58 ?_
    refine x_bipush (pc := 61) hX (by decide) dX7_doesOrder_61 ?_
    refine x_icmp_ne (pc := 63) (tgt := 70) hX dX7_doesOrder_63 (by decide) (by omega) (fun h63 => ?_) (fun h63 => ?_)
    · exfalso; omega
    · refine x_iconst (pc := 66) hX dX7_doesOrder_66 ?_
      refine x_goto (pc := 67) (tgt := 74) hX dX7_doesOrder_67 (by decide) ?_
      refine x_putI (pc := 74) hX fl_X7_63 hK.1 rfl rfl rfl dX7_doesOrder_74 ?_
      have hL2 := Lay.zero (M := M1)
      have hq2 : Chg PL M _ := hq1.tr (Chg.put (M := M1) (a := 140) (j := 8) (v := 0) (Or.inr ⟨rfl, rfl⟩))
      generalize mput M1 140 8 0 = M2 at hL2 hq2
      refine x_aload_n (pc := 77) hX rfl rfl dX7_doesOrder_77 ?_
      refine x_cV_I (pc := 78) hX (tX7_layOutTold hK hL2 (⟨Nat.zero_le _, fun v hv => by cases hv⟩) L hLL hL2a (by rw [hq2.pl2 (by decide) (by decide)]; exact hru.1) (fun x hx => by rw [hq2.pl2 (by decide) (fun z => absurd z (by decide)), hq2.pl2 (by decide) (fun z => absurd z (by decide))]; exact hru.2 x hx) hres) hK.1 rfl lk_X7_212 rfl rfl (Nat.le_of_ble_eq_true rfl) (by decide) (Nat.zero_le _) (Nat.zero_le _) dX7_doesOrder_78 (fun a M3 hp => ?_)
      obtain ⟨hq3, he3, hl3⟩ := hp
      have hq23 := hq2.tr hq3
      by_cases hin : ∃ e, res = .inl e
      · obtain ⟨e, rfl⟩ := hin
        have he4 := he3 e rfl
        refine x_if_ge (pc := 81) (tgt := 86) hX dX7_doesOrder_81 (by decide) (by omega) (fun h81 => ?_) (fun h81 => ?_)
        · exfalso; omega
        · refine x_iconst (pc := 84) hX dX7_doesOrder_84 ?_
          refine x_zret (pc := 85) hX rfl (xn_bool (by omega)) (Nat.zero_le _) (Nat.zero_le _) dX7_doesOrder_85 ?_
          exact pI_i ⟨fun _ _ => ⟨rfl, hq23.mono (fun _ _ => PL.pb)⟩, fun l hl => (by cases hl)⟩
      · obtain ⟨l, rfl⟩ : ∃ l, res = .inr l := by
          cases res with
          | inl e => exact absurd ⟨e, rfl⟩ hin
          | inr l => exact ⟨l, rfl⟩
        obtain ⟨rfl, hL3⟩ := hl3 l rfl
        have hfo := dRunsF_inr hres (fun q hq => (hL2a q hq).1) (fun v hv => by cases hv)
        refine x_if_ge (pc := 81) (tgt := 86) hX dX7_doesOrder_81 (by decide) (by omega) (fun h81 => ?_) (fun h81 => ?_)
        · refine x_aload_n (pc := 86) hX rfl rfl dX7_doesOrder_86 ?_
          refine x_aload_n (pc := 87) hX rfl rfl dX7_doesOrder_87 ?_
          refine x_getI (pc := 88) (v := (c : Int)) hX fl_X7_200 hK.1 rfl ((hq23.pl2 (by decide) (by decide)).trans h13) dX7_doesOrder_88 ?_
          refine x_cV_V (pc := 91) hX (tX7_gets hK hL3 hfo.1 hfo.2 c hc) hK.1 rfl lk_X7_98 rfl rfl (Nat.le_of_ble_eq_true rfl) (by decide) (Nat.zero_le _) (Nat.zero_le _) dX7_doesOrder_91 (fun M4 hp => ?_)
          obtain ⟨hG4, hq4⟩ := hp
          refine x_iconst (pc := 94) hX dX7_doesOrder_94 ?_
          refine x_zret (pc := 95) hX rfl (xn_bool (by omega)) (Nat.zero_le _) (Nat.zero_le _) dX7_doesOrder_95 ?_
          exact pI_i ⟨fun e he => (by cases he), fun l hl => (by cases hl; exact ⟨rfl, hG4, (hq23.mono (fun _ _ z => Or.inl z.pb)).tr (hq4.mono (fun _ _ => Or.inr))⟩)⟩
        · exfalso; omega
  · have hru := hru (by omega)
    simp only [if_neg (show ¬ k = 33 by omega), if_neg (show ¬ k = 45 by omega), if_neg (show ¬ k = 64 by omega)] at hres
    rw [if_pos (by omega)] at hres
    refine x_lookup (pc := 4) (off := 44) (tgt := 48) hX dX7_doesOrder_4 (by decide) (by omega) (by show (if (33 : Int) = (k : Int) then (92 : Int) else if (43 : Int) = (k : Int) then (44 : Int) else if (45 : Int) = (k : Int) then (103 : Int) else if (61 : Int) = (k : Int) then (44 : Int) else 143) = 44; (repeat' split) <;> omega) (by decide) ?_
    refine x_aload_n (pc := 48) hX rfl rfl dX7_doesOrder_48 ?_
    refine x_aload_n (pc := 49) hX rfl rfl dX7_doesOrder_49 ?_
    refine x_getI (pc := 50) (v := (c : Int)) hX fl_X7_200 hK.1 rfl h13 dX7_doesOrder_50 ?_
    refine x_cV_V (pc := 53) hX (tX7_layOut hK hS c hc) hK.1 rfl lk_X7_83 rfl rfl (Nat.le_of_ble_eq_true rfl) (by decide) (Nat.zero_le _) (Nat.zero_le _) dX7_doesOrder_53 (fun M1 hp => ?_)
    obtain ⟨hL1, hq1⟩ := hp
    refine x_aload_n (pc := 56) hX rfl rfl dX7_doesOrder_56 ?_
    refine x_aload_n (pc := 57) hX rfl rfl dX7_doesOrder_57 ?_
    refine x_getI (pc := 58) (v := (k : Int)) hX fl_X7_188 hK.1 rfl ((hq1.pl2 (by decide) (by decide)).trans h14) dX7_doesOrder_58 ?_
    refine x_bipush (pc := 61) hX (by decide) dX7_doesOrder_61 ?_
    refine x_icmp_ne (pc := 63) (tgt := 70) hX dX7_doesOrder_63 (by decide) (by omega) (fun h63 => ?_) (fun h63 => ?_)
    · refine x_aload_n (pc := 70) hX rfl rfl dX7_doesOrder_70 ?_
      refine x_getI (pc := 71) (v := ((cs c).length : Int)) hX fl_X7_63 hK.1 rfl hL1.1 dX7_doesOrder_71 ?_
      refine x_putI (pc := 74) hX fl_X7_63 hK.1 rfl rfl rfl dX7_doesOrder_74 ?_
      have hL2 := hL1.same
      have hq2 : Chg PL M _ := hq1.tr (Chg.put (M := M1) (a := 140) (j := 8) (v := ((cs c).length : Int)) (Or.inr ⟨rfl, rfl⟩))
      generalize mput M1 140 8 ((cs c).length : Int) = M2 at hL2 hq2
      refine x_aload_n (pc := 77) hX rfl rfl dX7_doesOrder_77 ?_
      refine x_cV_I (pc := 78) hX (tX7_layOutTold hK hL2 (⟨hok.1.1, hok.2⟩) L hLL hL2a (by rw [hq2.pl2 (by decide) (by decide)]; exact hru.1) (fun x hx => by rw [hq2.pl2 (by decide) (fun z => absurd z (by decide)), hq2.pl2 (by decide) (fun z => absurd z (by decide))]; exact hru.2 x hx) hres) hK.1 rfl lk_X7_212 rfl rfl (Nat.le_of_ble_eq_true rfl) (by decide) (Nat.zero_le _) (Nat.zero_le _) dX7_doesOrder_78 (fun a M3 hp => ?_)
      obtain ⟨hq3, he3, hl3⟩ := hp
      have hq23 := hq2.tr hq3
      by_cases hin : ∃ e, res = .inl e
      · obtain ⟨e, rfl⟩ := hin
        have he4 := he3 e rfl
        refine x_if_ge (pc := 81) (tgt := 86) hX dX7_doesOrder_81 (by decide) (by omega) (fun h81 => ?_) (fun h81 => ?_)
        · exfalso; omega
        · refine x_iconst (pc := 84) hX dX7_doesOrder_84 ?_
          refine x_zret (pc := 85) hX rfl (xn_bool (by omega)) (Nat.zero_le _) (Nat.zero_le _) dX7_doesOrder_85 ?_
          exact pI_i ⟨fun _ _ => ⟨rfl, hq23.mono (fun _ _ => PL.pb)⟩, fun l hl => (by cases hl)⟩
      · obtain ⟨l, rfl⟩ : ∃ l, res = .inr l := by
          cases res with
          | inl e => exact absurd ⟨e, rfl⟩ hin
          | inr l => exact ⟨l, rfl⟩
        obtain ⟨rfl, hL3⟩ := hl3 l rfl
        have hfo := dRunsF_inr hres (fun q hq => (hL2a q hq).1) hok.2
        refine x_if_ge (pc := 81) (tgt := 86) hX dX7_doesOrder_81 (by decide) (by omega) (fun h81 => ?_) (fun h81 => ?_)
        · refine x_aload_n (pc := 86) hX rfl rfl dX7_doesOrder_86 ?_
          refine x_aload_n (pc := 87) hX rfl rfl dX7_doesOrder_87 ?_
          refine x_getI (pc := 88) (v := (c : Int)) hX fl_X7_200 hK.1 rfl ((hq23.pl2 (by decide) (by decide)).trans h13) dX7_doesOrder_88 ?_
          refine x_cV_V (pc := 91) hX (tX7_gets hK hL3 hfo.1 hfo.2 c hc) hK.1 rfl lk_X7_98 rfl rfl (Nat.le_of_ble_eq_true rfl) (by decide) (Nat.zero_le _) (Nat.zero_le _) dX7_doesOrder_91 (fun M4 hp => ?_)
          obtain ⟨hG4, hq4⟩ := hp
          refine x_iconst (pc := 94) hX dX7_doesOrder_94 ?_
          refine x_zret (pc := 95) hX rfl (xn_bool (by omega)) (Nat.zero_le _) (Nat.zero_le _) dX7_doesOrder_95 ?_
          exact pI_i ⟨fun e he => (by cases he), fun l hl => (by cases hl; exact ⟨rfl, hG4, (hq23.mono (fun _ _ z => Or.inl z.pb)).tr (hq4.mono (fun _ _ => Or.inr))⟩)⟩
        · exfalso; omega
    · exfalso; omega
  · rw [if_pos hkk] at hres
    unfold dSort at hres
    rw [if_neg (by omega), Int.toNat_natCast] at hres
    subst hres
    refine x_lookup (pc := 4) (off := 92) (tgt := 96) hX dX7_doesOrder_4 (by decide) (by omega) (by show (if (33 : Int) = (k : Int) then (92 : Int) else if (43 : Int) = (k : Int) then (44 : Int) else if (45 : Int) = (k : Int) then (103 : Int) else if (61 : Int) = (k : Int) then (44 : Int) else 143) = 92; (repeat' split) <;> omega) (by decide) ?_
    refine x_aload_n (pc := 96) hX rfl rfl dX7_doesOrder_96 ?_
    refine x_aload_n (pc := 97) hX rfl rfl dX7_doesOrder_97 ?_
    refine x_getI (pc := 98) (v := (c : Int)) hX fl_X7_200 hK.1 rfl h13 dX7_doesOrder_98 ?_
    refine x_cV_I (pc := 101) hX (tX7_sorts hK hS c hc) hK.1 rfl lk_X7_121 rfl rfl (Nat.le_of_ble_eq_true rfl) (by decide) (Nat.zero_le _) (Nat.zero_le _) dX7_doesOrder_101 (fun a M1 hp => ?_)
    obtain ⟨rfl, hG1, hq1⟩ := hp
    refine x_pop (pc := 104) hX rfl dX7_doesOrder_104 ?_
    refine x_iconst (pc := 105) hX dX7_doesOrder_105 ?_
    refine x_zret (pc := 106) hX rfl (xn_bool (by omega)) (Nat.zero_le _) (Nat.zero_le _) dX7_doesOrder_106 ?_
    exact pI_i ⟨fun e he => (by cases he), fun l hl => (by cases hl; exact ⟨rfl, hG1, hq1⟩)⟩
  · have hop := hop (by omega)
    rw [if_neg (by omega), if_pos hkk] at hres
    refine x_lookup (pc := 4) (off := 103) (tgt := 107) hX dX7_doesOrder_4 (by decide) (by omega) (by show (if (33 : Int) = (k : Int) then (92 : Int) else if (43 : Int) = (k : Int) then (44 : Int) else if (45 : Int) = (k : Int) then (103 : Int) else if (61 : Int) = (k : Int) then (44 : Int) else 143) = 103; (repeat' split) <;> omega) (by decide) ?_
    refine x_aload_n (pc := 107) hX rfl rfl dX7_doesOrder_107 ?_
    refine x_aload_n (pc := 108) hX rfl rfl dX7_doesOrder_108 ?_
    refine x_getI (pc := 109) (v := (c : Int)) hX fl_X7_200 hK.1 rfl h13 dX7_doesOrder_109 ?_
    refine x_aload_n (pc := 112) hX rfl rfl dX7_doesOrder_112 ?_
    refine x_getI (pc := 113) (v := (r : Int)) hX fl_X7_194 hK.1 rfl hop.1 dX7_doesOrder_113 ?_
    refine x_aload_n (pc := 116) hX rfl rfl dX7_doesOrder_116 ?_
    refine x_getI (pc := 117) (v := (n : Int)) hX fl_X7_197 hK.1 rfl hop.2 dX7_doesOrder_117 ?_
    refine x_cV_P (pc := 120) hX (tX7_whyNotRemoved hK hS (c : Int) (r : Int) (n : Int) (by unfold InR; omega) (by unfold InR; omega) (by unfold InR; omega) hres) hK.1 rfl lk_X7_105 rfl rfl (Nat.le_of_ble_eq_true rfl) (by decide) (Nat.zero_le _) (Nat.zero_le _) dX7_doesOrder_120 ?_
    by_cases hin : ∃ e, res = .inl e
    · obtain ⟨e, rfl⟩ := hin
      have hne := dRem_ne hres
      have hw : whyN (.inl e) = e := rfl
      rw [hw]
      refine x_if_ge (pc := 123) (tgt := 128) hX dX7_doesOrder_123 (by decide) (by omega) (fun h123 => ?_) (fun h123 => ?_)
      · exfalso; omega
      · refine x_iconst (pc := 126) hX dX7_doesOrder_126 ?_
        refine x_zret (pc := 127) hX rfl (xn_bool (by omega)) (Nat.zero_le _) (Nat.zero_le _) dX7_doesOrder_127 ?_
        exact pI_i ⟨fun _ _ => ⟨rfl, Chg.rf⟩, fun l hl => (by cases hl)⟩
    · obtain ⟨l, rfl⟩ : ∃ l, res = .inr l := by
        cases res with
        | inl e => exact absurd ⟨e, rfl⟩ hin
        | inr l => exact ⟨l, rfl⟩
      have hw : whyN (.inr l) = 0 := rfl
      rw [hw]
      have hpp := dRem_inr hres
      simp only [Int.toNat_natCast] at hpp
      obtain ⟨hcc, hrr, hnn, rfl⟩ := hpp
      refine x_if_ge (pc := 123) (tgt := 128) hX dX7_doesOrder_123 (by decide) (by omega) (fun h123 => ?_) (fun h123 => ?_)
      · refine x_aload_n (pc := 128) hX rfl rfl dX7_doesOrder_128 ?_
        refine x_aload_n (pc := 129) hX rfl rfl dX7_doesOrder_129 ?_
        refine x_getI (pc := 130) (v := (c : Int)) hX fl_X7_200 hK.1 rfl h13 dX7_doesOrder_130 ?_
        refine x_aload_n (pc := 133) hX rfl rfl dX7_doesOrder_133 ?_
        refine x_getI (pc := 134) (v := (r : Int)) hX fl_X7_194 hK.1 rfl hop.1 dX7_doesOrder_134 ?_
        refine x_aload_n (pc := 137) hX rfl rfl dX7_doesOrder_137 ?_
        refine x_getI (pc := 138) (v := (n : Int)) hX fl_X7_197 hK.1 rfl hop.2 dX7_doesOrder_138 ?_
        refine x_cV_I (pc := 141) hX (tX7_removes hK hS c hc r n (by omega) (by omega)) hK.1 rfl lk_X7_109 rfl rfl (Nat.le_of_ble_eq_true rfl) (by decide) (Nat.zero_le _) (Nat.zero_le _) dX7_doesOrder_141 (fun a M1 hp => ?_)
        obtain ⟨rfl, hG1, hq1⟩ := hp
        refine x_pop (pc := 144) hX rfl dX7_doesOrder_144 ?_
        refine x_iconst (pc := 145) hX dX7_doesOrder_145 ?_
        refine x_zret (pc := 146) hX rfl (xn_bool (by omega)) (Nat.zero_le _) (Nat.zero_le _) dX7_doesOrder_146 ?_
        exact pI_i ⟨fun e he => (by cases he), fun l hl => (by cases hl; exact ⟨rfl, hG1, hq1⟩)⟩
      · exfalso; omega
  · have hop := hop (by omega)
    rw [if_neg (by omega), if_neg (by omega), if_pos hkk] at hres
    refine x_lookup (pc := 4) (off := 143) (tgt := 147) hX dX7_doesOrder_4 (by decide) (by omega) (by show (if (33 : Int) = (k : Int) then (92 : Int) else if (43 : Int) = (k : Int) then (44 : Int) else if (45 : Int) = (k : Int) then (103 : Int) else if (61 : Int) = (k : Int) then (44 : Int) else 143) = 143; (repeat' split) <;> omega) (by decide) ?_
    refine x_aload_n (pc := 147) hX rfl rfl dX7_doesOrder_147 ?_
    refine x_aload_n (pc := 148) hX rfl rfl dX7_doesOrder_148 ?_
    refine x_getI (pc := 149) (v := (c : Int)) hX fl_X7_200 hK.1 rfl h13 dX7_doesOrder_149 ?_
    refine x_aload_n (pc := 152) hX rfl rfl dX7_doesOrder_152 ?_
    refine x_getI (pc := 153) (v := (r : Int)) hX fl_X7_194 hK.1 rfl hop.1 dX7_doesOrder_153 ?_
    refine x_aload_n (pc := 156) hX rfl rfl dX7_doesOrder_156 ?_
    refine x_getI (pc := 157) (v := (n : Int)) hX fl_X7_197 hK.1 rfl hop.2 dX7_doesOrder_157 ?_
    refine x_cV_I (pc := 160) hX (tX7_whyNotSet hK hS (c : Int) (r : Int) (n : Int) (by unfold InR; omega) (by unfold InR; omega) (by unfold InR; omega) hres) hK.1 rfl lk_X7_112 rfl rfl (Nat.le_of_ble_eq_true rfl) (by decide) (Nat.zero_le _) (Nat.zero_le _) dX7_doesOrder_160 (fun a M1 hp => ?_)
    obtain ⟨rfl, hq1, hL1⟩ := hp
    by_cases hin : ∃ e, res = .inl e
    · obtain ⟨e, rfl⟩ := hin
      have hne := dSet_ne hres
      have hw : whyN (.inl e) = e := rfl
      rw [hw]
      refine x_if_ge (pc := 163) (tgt := 168) hX dX7_doesOrder_163 (by decide) (by omega) (fun h163 => ?_) (fun h163 => ?_)
      · exfalso; omega
      · refine x_iconst (pc := 166) hX dX7_doesOrder_166 ?_
        refine x_zret (pc := 167) hX rfl (xn_bool (by omega)) (Nat.zero_le _) (Nat.zero_le _) dX7_doesOrder_167 ?_
        exact pI_i ⟨fun _ _ => ⟨rfl, hq1.mono (fun _ _ => PL.pb)⟩, fun l hl => (by cases hl)⟩
    · obtain ⟨l, rfl⟩ : ∃ l, res = .inr l := by
        cases res with
        | inl e => exact absurd ⟨e, rfl⟩ hin
        | inr l => exact ⟨l, rfl⟩
      have hw : whyN (.inr l) = 0 := rfl
      rw [hw]
      obtain ⟨hcc, hrr, hfit, hv9⟩ := dSet_inr (fun c hc => (hS.col hc).2.2) hres
      have hL1 := hL1 l rfl
      refine x_if_ge (pc := 163) (tgt := 168) hX dX7_doesOrder_163 (by decide) (by omega) (fun h163 => ?_) (fun h163 => ?_)
      · refine x_aload_n (pc := 168) hX rfl rfl dX7_doesOrder_168 ?_
        refine x_aload_n (pc := 169) hX rfl rfl dX7_doesOrder_169 ?_
        refine x_getI (pc := 170) (v := (c : Int)) hX fl_X7_200 hK.1 rfl ((hq1.pl2 (by decide) (by decide)).trans h13) dX7_doesOrder_170 ?_
        refine x_cV_V (pc := 173) hX (tX7_gets hK hL1 hfit hv9 c hc) hK.1 rfl lk_X7_98 rfl rfl (Nat.le_of_ble_eq_true rfl) (by decide) (Nat.zero_le _) (Nat.zero_le _) dX7_doesOrder_173 (fun M2 hp => ?_)
        obtain ⟨hG2, hq2⟩ := hp
        refine x_iconst (pc := 176) hX dX7_doesOrder_176 ?_
        refine x_zret (pc := 177) hX rfl (xn_bool (by omega)) (Nat.zero_le _) (Nat.zero_le _) dX7_doesOrder_177 ?_
        exact pI_i ⟨fun e he => (by cases he), fun l hl => (by cases hl; exact ⟨rfl, hG2, (hq1.mono (fun _ _ z => Or.inl z.pb)).tr (hq2.mono (fun _ _ => Or.inr))⟩)⟩
      · exfalso; omega

theorem pFault_in {p : List Nat} {f i : Nat} (hi : i ≤ p.length) (h : pFault p (f + 1) i = -6) : i < p.length ∧ ∃ od j, pOrder p i = (some od, j) ∧ (if chr p j = 59 then pFault p f (j + 1) else if j = p.length then -6 else (j : Int)) = -6 := by
  rw [pFault] at h
  rcases hrr : pOrder p i with ⟨rr, j⟩
  rw [hrr] at h
  cases rr with
  | none =>
    have h2 : (j : Int) = -6 := h
    omega
  | some od =>
    have h3 := pOrder_ok hrr
    exact ⟨by omega, od, j, rfl, h⟩
theorem RM.sc2 {M M' : XM} {S : Sx} {p : List Nat} {i : Nat} (h : RM M S) (hA : AtM M p i) (hq : Chg PB M M') (hp : S.2.2.2 = p) : RM M' S ∧ AtM M' p i := by
  have h2 := h.scr (hq.mono (fun _ _ => PB.ps))
  refine ⟨h2, hp ▸ h2.2.2.2, ?_⟩
  rw [hq.at (by unfold PB; omega)]
  exact hA.2
theorem OdK.p12 {M M' : XM} {od : Od} (h : OdK M od) (hq : Chg P12 M M') : OdK M' od := by
  unfold OdK
  rw [hq.at (show ¬ P12 140 13 by unfold P12; omega), hq.at (show ¬ P12 140 14 by unfold P12; omega), hq.at (show ¬ P12 140 15 by unfold P12; omega), hq.at (show ¬ P12 140 16 by unfold P12; omega), hq.at (show ¬ P12 140 19 by unfold P12; omega), hq.cell (q := 149) (fun f => by unfold P12; omega), hq.cell (q := 150) (fun f => by unfold P12; omega)]
  exact h
set_option maxHeartbeats 4000000 in
set_option maxRecDepth 100000 in
theorem tX7_carryOut {G : XG} {κ : XKs} {M : XM} {hs : Nat} (hK : KM κ hs) {S : Sx} (hS : RM M S) {R : Int × Sx} (hR : sCarry S = R) : XC G mX7_carryOut 7 0 0 [xR 140] κ M hs (pI κ hs (fun x M' => x = R.1 ∧ RM M' R.2 ∧ Chg PA M M')) := by
  refine XC.intro cdX7_carryOut (by decide) (by decide) (Nat.le_of_ble_eq_true rfl) (loc := [some (xR 140), none, none]) rfl (fun X hX => ?_)
  have hps1 : S.2.2.2.length ≤ 80 := hS.2.2.2.2.1
  have hfr := pFault_rng 80 S.2.2.2 0 (Nat.zero_le _)
  unfold sCarry at hR
  refine x_aload_n (pc := 0) hX rfl rfl dX7_carryOut_0 ?_
  refine x_cV_I (pc := 1) hX (tX7_findFault hK hS.2.2.2) hK.1 rfl lk_X7_209 rfl rfl (Nat.le_of_ble_eq_true rfl) (by decide) (Nat.zero_le _) (Nat.zero_le _) dX7_carryOut_1 (fun a M2 hp => ?_)
  obtain ⟨rfl, hq2⟩ := hp
  have hR2 := hS.scr (hq2.mono (fun _ _ => PRo.ps))
  refine x_bipush (pc := 4) hX (by decide) dX7_carryOut_4 ?_
  refine x_icmp_eq (pc := 6) (tgt := 12) hX dX7_carryOut_6 (by decide) (by omega) (fun h6 => ?_) (fun h6 => ?_)
  · rw [if_neg (fun z => z h6)] at hR
    subst hR
    refine x_aload_n (pc := 12) hX rfl rfl dX7_carryOut_12 ?_
    refine x_cV_V (pc := 13) hX (tX7_record hK hR2.1 hR2.2.1) hK.1 rfl lk_X7_95 rfl rfl (Nat.le_of_ble_eq_true rfl) (by decide) (Nat.zero_le _) (Nat.zero_le _) dX7_carryOut_13 (fun M3 hp => ?_)
    obtain ⟨hH3, hq3⟩ := hp
    have hR3 := hR2.rec hq3 hH3
    generalize hR0 : pExec S.2.2.2 80 S.1 0 0 = R0
    have fin : ∀ (mm : Nat) (cs : Cs) (M1 : XM) (z : Option XV), RM M1 (cs, pushH S.2.1 S.1, S.2.2.1, S.2.2.2) → Chg PA M M1 → (cs, mm) = R0 → XW G X mX7_carryOut (xq G (pI κ hs (fun x M' => x = (R0.2 : Int) ∧ RM M' (R0.1, pushH S.2.1 S.1, S.2.2.1, []) ∧ Chg PA M M')) 0 0 X) 0 0 72 [some (xR 140), some (xI (mm : Int)), z] [] κ M1 hs := by
      intro mm cs M1 z hR1 hq1 hF
      subst hF
      refine x_aload_n (pc := 72) hX rfl rfl dX7_carryOut_72 ?_
      refine x_iconst (pc := 73) hX dX7_carryOut_73 ?_
      refine x_putI (pc := 74) hX fl_X7_153 hK.1 rfl rfl rfl dX7_carryOut_74 ?_
      refine x_iload_n (pc := 77) hX rfl rfl dX7_carryOut_77 ?_
      refine x_iret (pc := 78) hX rfl (Nat.zero_le _) (Nat.zero_le _) dX7_carryOut_78 ?_
      exact pI_i ⟨rfl, hR1.pad (Chg.put (Or.inr ⟨rfl, rfl⟩)) PM.nil, hq1.tr (Chg.put (by unfold PA; omega))⟩
    have loop : ∀ (n f : Nat) (cs : Cs) (i mm : Nat) (M1 : XM), f < n → i ≤ S.2.2.2.length → 240 ≤ i + 3 * f ∨ i = S.2.2.2.length → RM M1 (cs, pushH S.2.1 S.1, S.2.2.1, S.2.2.2) → AtM M1 S.2.2.2 i → Chg PA M M1 → (i < S.2.2.2.length ∧ pFault S.2.2.2 f i = -6 ∧ pExec S.2.2.2 f cs i mm = R0) ∨ (i = S.2.2.2.length ∧ (cs, mm) = R0) → XW G X mX7_carryOut (xq G (pI κ hs (fun x M' => x = (R0.2 : Int) ∧ RM M' (R0.1, pushH S.2.1 S.1, S.2.2.1, []) ∧ Chg PA M M')) 0 0 X) 0 0 25 [some (xR 140), some (xI (mm : Int)), some (xI 1)] [] κ M1 hs := by
      intro n
      induction n with
      | zero => intro f cs i mm M1 h1; omega
      | succ n ih =>
        intro f cs i mm M1 h1 hi h2 hR1 hA1 hq1 hF
        have hps0 : S.2.2.2.length ≤ 80 := hS.2.2.2.2.1
        refine x_iload_n (pc := 25) hX rfl rfl dX7_carryOut_25 ?_
        refine x_if_eq (pc := 26) (tgt := 72) hX dX7_carryOut_26 (by decide) (by omega) (fun h26 => ?_) (fun h26 => ?_)
        · exfalso; omega
        · refine x_aload_n (pc := 29) hX rfl rfl dX7_carryOut_29 ?_
          refine x_getI (pc := 30) (v := (i : Int)) hX fl_X7_170 hK.1 rfl hA1.2 dX7_carryOut_30 ?_
          refine x_aload_n (pc := 33) hX rfl rfl dX7_carryOut_33 ?_
          refine x_getI (pc := 34) (v := (S.2.2.2.length : Int)) hX fl_X7_153 hK.1 rfl hA1.1.1 dX7_carryOut_34 ?_
          by_cases hend : i = S.2.2.2.length
          · have hF2 : (cs, mm) = R0 := by
              rcases hF with ⟨g, -, -⟩ | ⟨-, g⟩
              · omega
              · exact g
            subst hF2
            refine x_icmp_ge (pc := 37) (tgt := 72) hX dX7_carryOut_37 (by decide) (by omega) (fun h37 => ?_) (fun h37 => ?_)
            · exact fin mm cs M1 _ hR1 hq1 rfl
            · exfalso; omega
          · obtain ⟨hil, hpf, hpe⟩ := hF.resolve_right (fun z => hend z.1)
            obtain ⟨f, rfl⟩ : ∃ f9, f = f9 + 1 := ⟨f - 1, by omega⟩
            obtain ⟨-, od, j, hrr, hif⟩ := pFault_in (Nat.le_of_lt hil) hpf
            obtain ⟨hOk, hj2, hjl⟩ := pOrder_ok hrr
            rw [pExec, hrr] at hpe
            have hpe : (match dOrd cs od with
                  | .inl _ => (cs, mm)
                  | .inr l => if chr S.2.2.2 j = 59 then pExec S.2.2.2 f (upC cs od.1 l) (j + 1) (mm + 1) else (upC cs od.1 l, mm + 1)) = R0 := hpe
            generalize hdd : dOrd cs od = dd at hpe
            refine x_icmp_ge (pc := 37) (tgt := 72) hX dX7_carryOut_37 (by decide) (by omega) (fun h37 => ?_) (fun h37 => ?_)
            · exfalso; omega
            · refine x_aload_n (pc := 40) hX rfl rfl dX7_carryOut_40 ?_
              refine x_cV_I (pc := 41) hX (tX7_readsOrder hK hA1 (Nat.le_of_lt hil) hrr) hK.1 rfl lk_X7_206 rfl rfl (Nat.le_of_ble_eq_true rfl) (by decide) (Nat.zero_le _) (Nat.zero_le _) dX7_carryOut_41 (fun a M2 hp => ?_)
              obtain ⟨hA2, hq2, -, ho2⟩ := hp
              obtain ⟨rfl, hOK2⟩ := ho2 od rfl
              have hR2 := hR1.scr (hq2.mono (fun _ _ => PRo.ps))
              refine x_pop (pc := 44) hX rfl dX7_carryOut_44 ?_
              refine x_aload_n (pc := 45) hX rfl rfl dX7_carryOut_45 ?_
              refine x_bipush (pc := 46) hX (by decide) dX7_carryOut_46 ?_
              refine x_cV_I (pc := 48) hX (tX7_isNext hK hA2 (by omega) 59 (by decide)) hK.1 rfl lk_X7_182 rfl rfl (Nat.le_of_ble_eq_true rfl) (by decide) (Nat.zero_le _) (Nat.zero_le _) dX7_carryOut_48 (fun a M4 hp => ?_)
              have hps : S.2.2.2.length ≤ 80 := hS.2.2.2.2.1
              obtain ⟨j5, hA4, hk4, hj5⟩ : ∃ j5, AtM M4 S.2.2.2 j5 ∧ Chg P12 M2 M4 ∧ ((chr S.2.2.2 j = 59 ∧ j5 = j + 1) ∨ (chr S.2.2.2 j ≠ 59 ∧ j5 = j)) := by
                by_cases hsc : chr S.2.2.2 j = 59
                · exact ⟨j + 1, (hp.1 hsc).2.1, (hp.1 hsc).2.2, Or.inl ⟨hsc, rfl⟩⟩
                · exact ⟨j, (hp.2 hsc).2.1, (hp.2 hsc).2.2, Or.inr ⟨hsc, rfl⟩⟩
              have hR4 := hR2.scr (hk4.mono (fun _ _ z => z.ro.ps))
              have hOK4 := hOK2.p12 hk4
              have hqq4 := (hq1.tr (hq2.mono (fun _ _ z => z.ps.pa))).tr (hk4.mono (fun _ _ z => z.ro.ps.pa))
              refine x_pop (pc := 51) hX rfl dX7_carryOut_51 ?_
              refine x_aload_n (pc := 52) hX rfl rfl dX7_carryOut_52 ?_
              refine x_cV_I (pc := 53) hX (tX7_doesOrder hK hR4.1 hOk hOK4 hdd) hK.1 rfl lk_X7_215 rfl rfl (Nat.le_of_ble_eq_true rfl) (by decide) (Nat.zero_le _) (Nat.zero_le _) dX7_carryOut_53 (fun a M5 hp => ?_)
              obtain ⟨he5, hl5⟩ := hp
              by_cases hin : ∃ e, dd = .inl e
              · obtain ⟨e, rfl⟩ := hin
                obtain ⟨rfl, hq5⟩ := he5 e rfl
                have hpe : (cs, mm) = R0 := hpe
                subst hpe
                have hR5 := hR4.scr (hq5.mono (fun _ _ => PB.ps))
                have hqq5 := hqq4.tr (hq5.mono (fun _ _ z => z.ps.pa))
                refine x_istore_n (pc := 56) hX rfl (by decide) rfl rfl dX7_carryOut_56 ?_
                refine x_iload_n (pc := 57) hX rfl rfl dX7_carryOut_57 ?_
                refine x_iload_n (pc := 58) hX rfl rfl dX7_carryOut_58 ?_
                refine x_if_eq (pc := 59) (tgt := 66) hX dX7_carryOut_59 (by decide) (by omega) (fun h59 => ?_) (fun h59 => ?_)
                · refine x_iconst (pc := 66) hX dX7_carryOut_66 ?_
                  refine x_iadd (pc := 67) (v := (mm : Int)) hX dX7_carryOut_67 (by omega) ?_
                  refine x_istore_n (pc := 68) hX rfl (by decide) rfl rfl dX7_carryOut_68 ?_
                  refine x_goto (pc := 69) (tgt := 25) hX dX7_carryOut_69 (by decide) ?_
                  refine x_iload_n (pc := 25) hX rfl rfl dX7_carryOut_25 ?_
                  refine x_if_eq (pc := 26) (tgt := 72) hX dX7_carryOut_26 (by decide) (by omega) (fun h26 => ?_) (fun h26 => ?_)
                  · exact fin mm cs M5 _ hR5 hqq5 rfl
                  · exfalso; omega
                · exfalso; omega
              · obtain ⟨l, rfl⟩ : ∃ l, dd = .inr l := by
                  cases dd with
                  | inl e => exact absurd ⟨e, rfl⟩ hin
                  | inr l => exact ⟨l, rfl⟩
                obtain ⟨rfl, hG5, hq5⟩ := hl5 l rfl
                have hpe : (if chr S.2.2.2 j = 59 then pExec S.2.2.2 f (upC cs od.1 l) (j + 1) (mm + 1) else (upC cs od.1 l, mm + 1)) = R0 := hpe
                have hR5 := hR4.gets hq5 hG5
                have hA5 : AtM M5 S.2.2.2 j5 := ⟨hR5.2.2.2, by rw [hq5.at (by unfold PT PB PG; omega)]; exact hA4.2⟩
                have hqq5 := hqq4.tr (hq5.mono (fun _ _ => PT.pa))
                refine x_istore_n (pc := 56) hX rfl (by decide) rfl rfl dX7_carryOut_56 ?_
                refine x_iload_n (pc := 57) hX rfl rfl dX7_carryOut_57 ?_
                refine x_iload_n (pc := 58) hX rfl rfl dX7_carryOut_58 ?_
                refine x_if_eq (pc := 59) (tgt := 66) hX dX7_carryOut_59 (by decide) (by omega) (fun h59 => ?_) (fun h59 => ?_)
                · exfalso; omega
                · refine x_iconst (pc := 62) hX dX7_carryOut_62 ?_
                  refine x_goto (pc := 63) (tgt := 67) hX dX7_carryOut_63 (by decide) ?_
                  refine x_iadd (pc := 67) (v := ((mm + 1 : Nat) : Int)) hX dX7_carryOut_67 (by omega) ?_
                  refine x_istore_n (pc := 68) hX rfl (by decide) rfl rfl dX7_carryOut_68 ?_
                  refine x_goto (pc := 69) (tgt := 25) hX dX7_carryOut_69 (by decide) ?_
                  rcases hj5 with ⟨hsc, rfl⟩ | ⟨hsc, rfl⟩
                  · rw [if_pos hsc] at hif hpe
                    have hjl2 := chr_lt (show chr S.2.2.2 j ≠ 0 by omega)
                    refine ih f (upC cs od.1 l) (j + 1) (mm + 1) M5 (by omega) (by omega) (by omega) hR5 hA5 hqq5 (Or.inl ⟨?_, hif, hpe⟩)
                    cases f with
                    | zero =>
                      have h9 : ((j + 1 : Nat) : Int) = -6 := hif
                      omega
                    | succ f => exact (pFault_in (by omega) hif).1
                  · rw [if_neg hsc] at hif hpe
                    refine ih f (upC cs od.1 l) j5 (mm + 1) M5 (by omega) (by omega) (by omega) hR5 hA5 hqq5 (Or.inr ⟨?_, hpe⟩)
                    by_cases e : j5 = S.2.2.2.length
                    · exact e
                    · rw [if_neg e] at hif
                      omega
    refine x_iconst (pc := 16) hX dX7_carryOut_16 ?_
    refine x_istore_n (pc := 17) hX rfl (by decide) rfl rfl dX7_carryOut_17 ?_
    refine x_aload_n (pc := 18) hX rfl rfl dX7_carryOut_18 ?_
    refine x_iconst (pc := 19) hX dX7_carryOut_19 ?_
    refine x_putI (pc := 20) hX fl_X7_170 hK.1 rfl rfl rfl dX7_carryOut_20 ?_
    refine x_iconst (pc := 23) hX dX7_carryOut_23 ?_
    refine x_istore_n (pc := 24) hX rfl (by decide) rfl rfl dX7_carryOut_24 ?_
    have hR4 := hR3.scr (Chg.put (P := PS) (M := M3) (a := 140) (j := 12) (v := 0) (by unfold PS; omega))
    exact loop 81 80 S.1 0 0 _ (by omega) (Nat.zero_le _) (Or.inl (by omega)) hR4 ⟨hR4.2.2.2, mp_eq _ _ _ _⟩ (((hq2.mono (fun _ _ z => z.ps.pa)).tr (hq3.mono (fun _ _ => PH.pa))).tr (Chg.put (by unfold PA; omega))) (Or.inl ⟨(pFault_in (f := 79) (Nat.zero_le _) h6).1, h6, hR0⟩)
  · rw [if_pos h6] at hR
    subst hR
    refine x_bipush (pc := 9) hX (by decide) dX7_carryOut_9 ?_
    refine x_iret (pc := 11) hX rfl (Nat.zero_le _) (Nat.zero_le _) dX7_carryOut_11 ?_
    exact pI_i ⟨rfl, hR2, hq2.mono (fun _ _ z => z.ps.pa)⟩

