/-! the model: the pad, orders, undo, slots -/
def PP (q f : Nat) : Prop := q = 145 ∨ (q = 140 ∧ f = 6)
theorem PP.pa {q f : Nat} (h : PP q f) : PA q f := by unfold PP at h; unfold PA; omega
theorem RM.pad {M M' : XM} {S : Sx} {p : List Nat} (h : RM M S) (hq : Chg PP M M') (hp : PM M' p) : RM M' (S.1, S.2.1, S.2.2.1, p) := by
  have e1 : M' 141 = M 141 := hq.cell (fun f => by unfold PP; omega)
  have e2 : M' 142 = M 142 := hq.cell (fun f => by unfold PP; omega)
  have e3 : M' 143 = M 143 := hq.cell (fun f => by unfold PP; omega)
  have e4 : M' 144 = M 144 := hq.cell (fun f => by unfold PP; omega)
  exact ⟨by rw [e1]; exact h.1, h.2.1.congr (hq.at (by unfold PP; omega)) e2, h.2.2.1.congr e4 e3, hp⟩
theorem PM.snoc {M : XM} {p : List Nat} (h : PM M p) (hl : p.length < 80) {c : Nat} (hc : 33 ≤ c ∧ c ≤ 126) : PM (mput (mput M 145 p.length (c : Int)) 140 6 ((p.length + 1 : Nat) : Int)) (p ++ [c]) := by
  refine ⟨by rw [mp_eq, List.length_append]; rfl, by rw [List.length_append]; exact hl, fun i hi => ?_, fun d hd => ?_⟩
  · rw [List.length_append] at hi
    rw [mput_ne _ _ _ (show (145 : Nat) ≠ 140 by decide)]
    by_cases e : i = p.length
    · rw [e, mp_eq, chr_z]
    · have hi2 : i < p.length := Nat.lt_of_le_of_ne (Nat.le_of_lt_succ hi) e
      rw [mp_ne _ _ e, chr_l _ hi2]
      exact h.2.2.1 i hi2
  · rcases List.mem_append.mp hd with g | g
    · exact h.2.2.2 d g
    · rw [List.mem_singleton.mp g]
      exact hc
theorem PM.nil {M : XM} : PM (mput M 140 6 0) [] := ⟨mp_eq _ _ _ _, Nat.zero_le _, fun i hi => absurd hi (Nat.not_lt_zero _), fun c hc => by cases hc⟩
set_option maxHeartbeats 4000000 in
set_option maxRecDepth 100000 in
theorem tX7_put {G : XG} {κ : XKs} {M : XM} {hs : Nat} (hK : KM κ hs) {S : Sx} (hS : RM M S) (a : Nat) (ha : a < 2 ^ 64) {R : Int × Sx} (hR : sPut S a = R) : XC G mX7_put 1 0 0 [xR 140, xV (.long (lN a))] κ M hs (pI κ hs (fun x M' => x = R.1 ∧ RM M' R.2 ∧ Chg PA M M')) := by
  refine XC.intro cdX7_put (by decide) (by decide) (Nat.le_of_ble_eq_true rfl) (loc := [some (xR 140), some (xV (.long (lN a))), none, none, none, none, none, none]) rfl (fun X hX => ?_)
  have hcr := chIn_rng 8 a 0 (by decide)
  have hpl := hS.2.2.2.2.1
  unfold sPut at hR
  have loop2 : ∀ (n j : Nat) (pp : List Nat) (M1 : XM) (z : Nat × Int), j ≤ (chIn 8 a 0).toNat → j < n → PM M1 pp → Chg PP M M1 → pp ++ bytesD a j = S.2.2.2 ++ bytesD a (chIn 8 a 0).toNat → 1 ≤ chIn 8 a 0 → (S.2.2.2.length : Int) + chIn 8 a 0 ≤ 80 → ((S.2.2.2.length : Int) + chIn 8 a 0, S.1, S.2.1, S.2.2.1, S.2.2.2 ++ bytesD a (chIn 8 a 0).toNat) = R → XW G X mX7_put (xq G (pI κ hs (fun x M' => x = R.1 ∧ RM M' R.2 ∧ Chg PA M M')) 0 0 X) 0 0 105 [some (xR 140), some (xV (.long (lN a))), none, some (xI ((chIn 8 a 0).toNat : Nat)), some (xV (.long (lN z.1))), none, some (xI z.2), some (xI ((j : Int) - 1))] [] κ M1 hs := by
    clear hR
    intro n
    induction n with
    | zero => intro j pp M1 z h1 h2; omega
    | succ n ih =>
      intro j pp M1 z h1 h2 hP hq1 hF hR0 hR80 hR
      refine x_iload (pc := 105) hX rfl dX7_put_105 ?_
      refine x_if_lt (pc := 107) (tgt := 147) hX dX7_put_107 (by decide) (by omega) (fun h107 => ?_) (fun h107 => ?_)
      · obtain rfl : j = 0 := by omega
        rw [bytesD, List.append_nil] at hF
        refine x_aload_n (pc := 147) hX rfl rfl dX7_put_147 ?_
        refine x_getI (pc := 148) (v := (pp.length : Int)) hX fl_X7_153 hK.1 rfl hP.1 dX7_put_148 ?_
        refine x_iret (pc := 151) hX rfl (Nat.zero_le _) (Nat.zero_le _) dX7_put_151 ?_
        have hlen : (pp.length : Int) = S.2.2.2.length + chIn 8 a 0 := by rw [hF, List.length_append, bytesD_len]; omega
        subst hR
        refine pI_i ⟨hlen, ?_, hq1.mono (fun _ _ => PP.pa)⟩
        rw [← hF]
        exact hS.pad hq1 hP
      · obtain ⟨j, rfl⟩ : ∃ j2, j = j2 + 1 := ⟨j - 1, by omega⟩
        rw [bytesD] at hF
        have hb := chIn_ok 8 a 0 (by decide) (by omega) j (by omega)
        have e1 : ((j + 1 : Nat) : Int) - 1 = (j : Int) := by omega
        rw [e1]
        have hl2 : pp.length + (j + 1) ≤ 80 := by have := congrArg List.length hF; simp [bytesD_len] at this; omega
        refine x_aload_n (pc := 110) hX rfl rfl dX7_put_110 ?_
        refine x_getR (pc := 111) hX fl_X7_22 hK.1 rfl dX7_put_111 ?_
        refine x_aload_n (pc := 114) hX rfl rfl dX7_put_114 ?_
        refine x_getI (pc := 115) (v := (pp.length : Int)) hX fl_X7_153 hK.1 rfl hP.1 dX7_put_115 ?_
        refine x_lload_n (pc := 118) hX rfl rfl dX7_put_118 ?_
        refine x_bipush (pc := 119) hX (by decide) dX7_put_119 ?_
        refine x_iload (pc := 121) hX rfl dX7_put_121 ?_
        refine x_imul (pc := 123) (v := ((8 * j : Nat) : Int)) hX dX7_put_123 (by omega) ?_
        refine x_lushr (pc := 124) (v := lN (a / 256 ^ j)) hX (xshr8 j ha (by omega)) dX7_put_124 ?_
        refine x_ldc2 (pc := 125) hX tw_974 dX7_put_125 ?_
        refine x_land (pc := 128) (v := lN (a / 256 ^ j % 256)) hX (xand255 (Nat.lt_of_le_of_lt (Nat.div_le_self _ _) ha)) dX7_put_128 ?_
        refine x_l2i (pc := 129) (a := ((a / 256 ^ j % 256 : Nat) : Int)) hX (xl2i _) dX7_put_129 ?_
        refine x_iast (pc := 130) (j := pp.length) hX hK.2.2.2.2.2.1 (by omega) (by omega) (by decide) dX7_put_130 ?_
        refine x_aload_n (pc := 131) hX rfl rfl dX7_put_131 ?_
        refine x_dup (pc := 132) hX rfl dX7_put_132 ?_
        refine x_getI (pc := 133) (v := (pp.length : Int)) hX fl_X7_153 hK.1 rfl (by rw [mput_ne _ _ _ (by decide)]; exact hP.1) dX7_put_133 ?_
        refine x_iconst (pc := 136) hX dX7_put_136 ?_
        refine x_iadd (pc := 137) (v := ((pp.length + 1 : Nat) : Int)) hX dX7_put_137 (by omega) ?_
        refine x_putI (pc := 138) hX fl_X7_153 hK.1 rfl rfl rfl dX7_put_138 ?_
        refine x_iinc (pc := 141) (v := ((j : Nat) : Int) - 1) hX dX7_put_141 rfl (by decide) rfl (by omega) rfl ?_
        refine x_goto (pc := 144) (tgt := 105) hX dX7_put_144 (by decide) ?_
        exact ih j _ _ z (by omega) (by omega) (hP.snoc (by omega) hb) ((hq1.tr (Chg.put (Or.inl rfl))).tr (Chg.put (Or.inr ⟨rfl, rfl⟩))) (by rw [← hF, List.append_assoc]; rfl) hR0 hR80 hR
  have fin : ∀ (m r : Nat) (g : Int), m ≤ 8 → r < 2 ^ 64 → (g = 1 ∧ (r = 0 → chIn 8 a 0 = (m : Int)) ∧ (r ≠ 0 → chIn 8 a 0 = -2) ∨ g = 0 ∧ chIn 8 a 0 = -2) → XW G X mX7_put (xq G (pI κ hs (fun x M' => x = R.1 ∧ RM M' R.2 ∧ Chg PA M M')) 0 0 X) 0 0 67 [some (xR 140), some (xV (.long (lN a))), none, some (xI (m : Int)), some (xV (.long (lN r))), none, some (xI g), none] [] κ M hs := by
    intro m r g hm hr hg
    refine x_iload_n (pc := 67) hX rfl rfl dX7_put_67 ?_
    refine x_if_eq (pc := 68) (tgt := 83) hX dX7_put_68 (by decide) (by omega) (fun h68 => ?_) (fun h68 => ?_)
    · refine x_bipush (pc := 83) hX (by decide) dX7_put_83 ?_
      refine x_iret (pc := 85) hX rfl (Nat.zero_le _) (Nat.zero_le _) dX7_put_85 ?_
      rw [if_pos (by omega)] at hR
      subst hR
      exact pI_i ⟨rfl, hS, Chg.rf⟩
    · refine x_iload (pc := 71) hX rfl dX7_put_71 ?_
      refine x_if_eq (pc := 73) (tgt := 83) hX dX7_put_73 (by decide) (by omega) (fun h73 => ?_) (fun h73 => ?_)
      · refine x_bipush (pc := 83) hX (by decide) dX7_put_83 ?_
        refine x_iret (pc := 85) hX rfl (Nat.zero_le _) (Nat.zero_le _) dX7_put_85 ?_
        rw [if_pos (by omega)] at hR
        subst hR
        exact pI_i ⟨rfl, hS, Chg.rf⟩
      · obtain ⟨z4, hz4, hz4e, hz4r⟩ := xeq64 hr
        refine x_lload (pc := 76) hX rfl dX7_put_76 ?_
        refine x_lconst (pc := 78) (z := 0) hX rfl dX7_put_78 ?_
        refine x_lcmp (pc := 79) hX hz4 dX7_put_79 ?_
        refine x_if_eq (pc := 80) (tgt := 86) hX dX7_put_80 (by decide) (by omega) (fun h80 => ?_) (fun h80 => ?_)
        · have hrz : r = 0 := hz4e.mp (by omega)
          rw [if_neg (by omega)] at hR
          refine x_aload_n (pc := 86) hX rfl rfl dX7_put_86 ?_
          refine x_getI (pc := 87) (v := (S.2.2.2.length : Int)) hX fl_X7_153 hK.1 rfl hS.2.2.2.1 dX7_put_87 ?_
          refine x_iload_n (pc := 90) hX rfl rfl dX7_put_90 ?_
          refine x_iadd (pc := 91) hX dX7_put_91 rfl ?_
          refine x_bipush (pc := 92) hX (by decide) dX7_put_92 ?_
          refine x_icmp_le (pc := 94) (tgt := 100) hX dX7_put_94 (by decide) (by omega) (fun h94 => ?_) (fun h94 => ?_)
          · rw [if_neg (by omega)] at hR
            refine x_iload_n (pc := 100) hX rfl rfl dX7_put_100 ?_
            refine x_iconst (pc := 101) hX dX7_put_101 ?_
            refine x_isub (pc := 102) (v := ((m : Int) - 1)) hX dX7_put_102 rfl ?_
            refine x_istore (pc := 103) hX (by decide) rfl rfl dX7_put_103 ?_
            have hm9 : (chIn 8 a 0).toNat = m := by omega
            have h9 := loop2 (m + 1) m S.2.2.2 M (r, g) (by omega) (by omega) hS.2.2.2 Chg.rf (by rw [hm9]) (by omega) (by omega) hR
            rw [hm9] at h9
            exact h9
          · rw [if_pos (by omega)] at hR
            refine x_bipush (pc := 97) hX (by decide) dX7_put_97 ?_
            refine x_iret (pc := 99) hX rfl (Nat.zero_le _) (Nat.zero_le _) dX7_put_99 ?_
            subst hR
            exact pI_i ⟨rfl, hS, Chg.rf⟩
        · have hrz : ¬ r = 0 := fun z => h80 (hz4e.mpr z)
          refine x_bipush (pc := 83) hX (by decide) dX7_put_83 ?_
          refine x_iret (pc := 85) hX rfl (Nat.zero_le _) (Nat.zero_le _) dX7_put_85 ?_
          rw [if_pos (by omega)] at hR
          subst hR
          exact pI_i ⟨rfl, hS, Chg.rf⟩
  have loop : ∀ (n f m r : Nat) (g : Int), f < n → m + f = 8 → r < 2 ^ 64 → (g = 1 ∧ chIn f r (m : Int) = chIn 8 a 0 ∨ g = 0 ∧ chIn 8 a 0 = -2) → XW G X mX7_put (xq G (pI κ hs (fun x M' => x = R.1 ∧ RM M' R.2 ∧ Chg PA M M')) 0 0 X) 0 0 8 [some (xR 140), some (xV (.long (lN a))), none, some (xI (m : Int)), some (xV (.long (lN r))), none, some (xI g), none] [] κ M hs := by
    intro n
    induction n with
    | zero => intro f m r g h1; omega
    | succ n ih =>
      intro f m r g h1 h2 hr hg
      refine x_iload_n (pc := 8) hX rfl rfl dX7_put_8 ?_
      refine x_bipush (pc := 9) hX (by decide) dX7_put_9 ?_
      refine x_icmp_ge (pc := 11) (tgt := 67) hX dX7_put_11 (by decide) (by omega) (fun h11 => ?_) (fun h11 => ?_)
      · refine fin m r g (by omega) hr ?_
        rcases hg with ⟨g1, g2⟩ | g2
        · left
          obtain rfl : f = 0 := by omega
          rw [chIn] at g2
          refine ⟨g1, fun z => ?_, fun z => ?_⟩
          · rw [if_pos z] at g2
            exact g2.symm
          · rw [if_neg z] at g2
            exact g2.symm
        · exact Or.inr g2
      · obtain ⟨f, rfl⟩ : ∃ f9, f = f9 + 1 := ⟨f - 1, by omega⟩
        obtain ⟨z1, hz1, hz1e, hz1r⟩ := xeq64 (a := r % 256) (by omega)
        refine x_lload (pc := 14) hX rfl dX7_put_14 ?_
        refine x_ldc2 (pc := 16) hX tw_974 dX7_put_16 ?_
        refine x_land (pc := 19) (v := lN (r % 256)) hX (xand255 hr) dX7_put_19 ?_
        refine x_lconst (pc := 20) (z := 0) hX rfl dX7_put_20 ?_
        refine x_lcmp (pc := 21) hX hz1 dX7_put_21 ?_
        refine x_if_eq (pc := 22) (tgt := 67) hX dX7_put_22 (by decide) (by omega) (fun h22 => ?_) (fun h22 => ?_)
        · have hm0 : r % 256 = 0 := hz1e.mp h22
          refine fin m r g (by omega) hr ?_
          rcases hg with ⟨g1, g2⟩ | g2
          · left
            rw [chIn, if_pos hm0] at g2
            refine ⟨g1, fun z => ?_, fun z => ?_⟩
            · rw [if_pos z] at g2
              exact g2.symm
            · rw [if_neg z] at g2
              exact g2.symm
          · exact Or.inr g2
        · have hm0 : ¬ r % 256 = 0 := fun z => h22 (hz1e.mpr z)
          refine x_iload (pc := 25) hX rfl dX7_put_25 ?_
          refine x_if_eq (pc := 27) (tgt := 51) hX dX7_put_27 (by decide) (by omega) (fun h27 => ?_) (fun h27 => ?_)
          · refine x_iconst (pc := 51) hX dX7_put_51 ?_
            refine x_istore (pc := 52) hX (by decide) rfl rfl dX7_put_52 ?_
            refine x_lload (pc := 54) hX rfl dX7_put_54 ?_
            refine x_bipush (pc := 56) hX (by decide) dX7_put_56 ?_
            refine x_lushr (pc := 58) (v := lN (r / 256)) hX (by have h := xshr8 (n := r) 1 hr (by decide); rw [Nat.pow_one] at h; exact h) dX7_put_58 ?_
            refine x_lstore (pc := 59) hX (by decide) rfl rfl dX7_put_59 ?_
            refine x_iinc (pc := 61) (v := ((m + 1 : Nat) : Int)) hX dX7_put_61 rfl (by decide) rfl (by omega) rfl ?_
            refine x_goto (pc := 64) (tgt := 8) hX dX7_put_64 (by decide) ?_
            refine ih f (m + 1) (r / 256) _ (by omega) (by omega) (by omega) (Or.inr ⟨rfl, ?_⟩)
            rcases hg with ⟨g1, g2⟩ | ⟨g1, g2⟩
            · exfalso; omega
            · exact g2
          · refine x_lload (pc := 30) hX rfl dX7_put_30 ?_
            refine x_ldc2 (pc := 32) hX tw_974 dX7_put_32 ?_
            refine x_land (pc := 35) (v := lN (r % 256)) hX (xand255 hr) dX7_put_35 ?_
            refine x_l2i (pc := 36) (a := ((r % 256 : Nat) : Int)) hX (xl2i _) dX7_put_36 ?_
            refine x_bipush (pc := 37) hX (by decide) dX7_put_37 ?_
            refine x_bipush (pc := 39) hX (by decide) dX7_put_39 ?_
            refine x_cS_P (pc := 41) hX (tX7_within ((r % 256 : Nat) : Int) 33 126 (by unfold InR; omega) (by unfold InR; omega) (by unfold InR; omega)) lk_X7_48 rfl rfl (Nat.le_of_ble_eq_true rfl) (by decide) (Nat.zero_le _) (Nat.zero_le _) dX7_put_41 ?_
            by_cases hww : 33 ≤ ((r % 256 : Nat) : Int) ∧ ((r % 256 : Nat) : Int) ≤ 126
            · rw [if_pos hww]
              refine x_if_eq (pc := 44) (tgt := 51) hX dX7_put_44 (by decide) (by omega) (fun h44 => ?_) (fun h44 => ?_)
              · exfalso; omega
              · refine x_iconst (pc := 47) hX dX7_put_47 ?_
                refine x_goto (pc := 48) (tgt := 52) hX dX7_put_48 (by decide) ?_
                refine x_istore (pc := 52) hX (by decide) rfl rfl dX7_put_52 ?_
                refine x_lload (pc := 54) hX rfl dX7_put_54 ?_
                refine x_bipush (pc := 56) hX (by decide) dX7_put_56 ?_
                refine x_lushr (pc := 58) (v := lN (r / 256)) hX (by have h := xshr8 (n := r) 1 hr (by decide); rw [Nat.pow_one] at h; exact h) dX7_put_58 ?_
                refine x_lstore (pc := 59) hX (by decide) rfl rfl dX7_put_59 ?_
                refine x_iinc (pc := 61) (v := ((m + 1 : Nat) : Int)) hX dX7_put_61 rfl (by decide) rfl (by omega) rfl ?_
                refine x_goto (pc := 64) (tgt := 8) hX dX7_put_64 (by decide) ?_
                refine ih f (m + 1) (r / 256) _ (by omega) (by omega) (by omega) (Or.inl ⟨rfl, ?_⟩)
                rcases hg with ⟨g1, g2⟩ | ⟨g1, g2⟩
                · rw [chIn, if_neg hm0, if_neg (by omega)] at g2
                  rw [Int.natCast_succ]
                  exact g2
                · exact absurd g1 h27
            · rw [if_neg hww]
              refine x_if_eq (pc := 44) (tgt := 51) hX dX7_put_44 (by decide) (by omega) (fun h44 => ?_) (fun h44 => ?_)
              · refine x_iconst (pc := 51) hX dX7_put_51 ?_
                refine x_istore (pc := 52) hX (by decide) rfl rfl dX7_put_52 ?_
                refine x_lload (pc := 54) hX rfl dX7_put_54 ?_
                refine x_bipush (pc := 56) hX (by decide) dX7_put_56 ?_
                refine x_lushr (pc := 58) (v := lN (r / 256)) hX (by have h := xshr8 (n := r) 1 hr (by decide); rw [Nat.pow_one] at h; exact h) dX7_put_58 ?_
                refine x_lstore (pc := 59) hX (by decide) rfl rfl dX7_put_59 ?_
                refine x_iinc (pc := 61) (v := ((m + 1 : Nat) : Int)) hX dX7_put_61 rfl (by decide) rfl (by omega) rfl ?_
                refine x_goto (pc := 64) (tgt := 8) hX dX7_put_64 (by decide) ?_
                refine ih f (m + 1) (r / 256) _ (by omega) (by omega) (by omega) (Or.inr ⟨rfl, ?_⟩)
                rcases hg with ⟨g1, g2⟩ | ⟨g1, g2⟩
                · rw [chIn, if_neg hm0, if_pos (by omega)] at g2
                  exact g2.symm
                · exact g2
              · exfalso; omega
  refine x_iconst (pc := 0) hX dX7_put_0 ?_
  refine x_istore_n (pc := 1) hX rfl (by decide) rfl rfl dX7_put_1 ?_
  refine x_lload_n (pc := 2) hX rfl rfl dX7_put_2 ?_
  refine x_lstore (pc := 3) hX (by decide) rfl rfl dX7_put_3 ?_
  refine x_iconst (pc := 5) hX dX7_put_5 ?_
  refine x_istore (pc := 6) hX (by decide) rfl rfl dX7_put_6 ?_
  exact loop 9 8 0 a 1 (by omega) (by omega) ha (Or.inl ⟨rfl, rfl⟩)

set_option maxHeartbeats 4000000 in
set_option maxRecDepth 100000 in
theorem tX7_wipe {G : XG} {κ : XKs} {M : XM} {hs : Nat} (hK : KM κ hs) {S : Sx} (hS : RM M S) {R : Int × Sx} (hR : sWipe S = R) : XC G mX7_wipe 0 0 0 [xR 140] κ M hs (pI κ hs (fun x M' => x = R.1 ∧ RM M' R.2 ∧ Chg PA M M')) := by
  refine XC.intro cdX7_wipe (by decide) (by decide) (Nat.le_of_ble_eq_true rfl) (loc := [some (xR 140), none]) rfl (fun X hX => ?_)
  refine x_aload_n (pc := 0) hX rfl rfl dX7_wipe_0 ?_
  refine x_getI (pc := 1) (v := (S.2.2.2.length : Int)) hX fl_X7_153 hK.1 rfl hS.2.2.2.1 dX7_wipe_1 ?_
  refine x_istore_n (pc := 4) hX rfl (by decide) rfl rfl dX7_wipe_4 ?_
  refine x_aload_n (pc := 5) hX rfl rfl dX7_wipe_5 ?_
  refine x_iconst (pc := 6) hX dX7_wipe_6 ?_
  refine x_putI (pc := 7) hX fl_X7_153 hK.1 rfl rfl rfl dX7_wipe_7 ?_
  refine x_iload_n (pc := 10) hX rfl rfl dX7_wipe_10 ?_
  refine x_iret (pc := 11) hX rfl (Nat.zero_le _) (Nat.zero_le _) dX7_wipe_11 ?_
  subst hR
  exact pI_i ⟨rfl, hS.pad (Chg.put (Or.inr ⟨rfl, rfl⟩)) PM.nil, Chg.put (by unfold PA; omega)⟩

set_option maxHeartbeats 4000000 in
set_option maxRecDepth 100000 in
theorem tX7_undo {G : XG} {κ : XKs} {M : XM} {hs : Nat} (hK : KM κ hs) {S : Sx} (hS : RM M S) {R : Int × Sx} (hR : sUndo S = R) : XC G mX7_undo 1 0 0 [xR 140] κ M hs (pI κ hs (fun x M' => x = R.1 ∧ RM M' R.2 ∧ Chg PA M M')) := by
  refine XC.intro cdX7_undo (by decide) (by decide) (Nat.le_of_ble_eq_true rfl) (loc := [some (xR 140)]) rfl (fun X hX => ?_)
  unfold sUndo at hR
  have hhl := hS.2.1.2.1
  refine x_aload_n (pc := 0) hX rfl rfl dX7_undo_0 ?_
  refine x_getI (pc := 1) (v := (S.2.1.length : Int)) hX fl_X7_40 hK.1 rfl hS.2.1.1 dX7_undo_1 ?_
  refine x_if_ne (pc := 4) (tgt := 10) hX dX7_undo_4 (by decide) (by omega) (fun h4 => ?_) (fun h4 => ?_)
  · rw [if_neg (by omega)] at hR
    obtain ⟨h0, c0, hcc⟩ : ∃ h0 c0, S.2.1 = h0 ++ [c0] := ⟨S.2.1.dropLast, S.2.1.getLast (fun z => h4 (by rw [z]; rfl)), (List.dropLast_concat_getLast _).symm⟩
    have hS2 := hS.2.1
    rw [hcc] at hR hS2
    rw [List.dropLast_concat, getLastD_snoc] at hR
    have hl0 : S.2.1.length = h0.length + 1 := by rw [hcc, List.length_append]; rfl
    have hSl : MS (M 142) (324 * h0.length) c0 := by
      have h9 := hS2.2.2 h0.length (by rw [List.length_append]; exact Nat.lt_succ_self _)
      rw [List.getElem_append_right (Nat.le_refl _)] at h9
      simp only [Nat.sub_self, List.getElem_cons_zero] at h9
      exact h9
    refine x_aload_n (pc := 10) hX rfl rfl dX7_undo_10 ?_
    refine x_dup (pc := 11) hX rfl dX7_undo_11 ?_
    refine x_getI (pc := 12) (v := (S.2.1.length : Int)) hX fl_X7_40 hK.1 rfl hS.2.1.1 dX7_undo_12 ?_
    refine x_iconst (pc := 15) hX dX7_undo_15 ?_
    refine x_isub (pc := 16) (v := (h0.length : Int)) hX dX7_undo_16 (by omega) ?_
    refine x_putI (pc := 17) hX fl_X7_40 hK.1 rfl rfl rfl dX7_undo_17 ?_
    refine x_aload_n (pc := 20) hX rfl rfl dX7_undo_20 ?_
    refine x_getR (pc := 21) hX fl_X7_13 hK.1 rfl dX7_undo_21 ?_
    refine x_aload_n (pc := 24) hX rfl rfl dX7_undo_24 ?_
    refine x_getI (pc := 25) (v := (h0.length : Int)) hX fl_X7_40 hK.1 rfl (mp_eq _ _ _ _) dX7_undo_25 ?_
    refine x_sipush (pc := 28) hX (by decide) dX7_undo_28 ?_
    refine x_imul (pc := 31) (v := ((h0.length * 324 : Nat) : Int)) hX dX7_undo_31 (by omega) ?_
    refine x_aload_n (pc := 32) hX rfl rfl dX7_undo_32 ?_
    refine x_getR (pc := 33) hX fl_X7_7 hK.1 rfl dX7_undo_33 ?_
    refine x_iconst (pc := 36) hX dX7_undo_36 ?_
    refine x_cS_V (pc := 37) hX (tX7_moves hK.2.2.1 hK.2.1 (by decide) (h0.length * 324) 0 (by omega) (by decide) (by decide) (by decide)) lk_X7_44 rfl rfl (Nat.le_of_ble_eq_true rfl) (by decide) (Nat.zero_le _) (Nat.zero_le _) dX7_undo_37 (fun M2 hp => ?_)
    obtain ⟨hp1, hp2, hp3⟩ := hp
    refine x_aload_n (pc := 40) hX rfl rfl dX7_undo_40 ?_
    refine x_getI (pc := 41) (v := (h0.length : Int)) hX fl_X7_40 hK.1 rfl ((congrFun (hp3 140 (by decide)) 2).trans (mp_eq _ _ _ _)) dX7_undo_41 ?_
    refine x_iret (pc := 44) hX rfl (Nat.zero_le _) (Nat.zero_le _) dX7_undo_44 ?_
    subst hR
    have q1 : ∀ q, q ≠ 141 → q ≠ 140 → M2 q = M q := fun q g1 g2 => by rw [hp3 q g1, mput_ne _ _ _ g2]
    have q2 : ∀ f, f ≠ 2 → M2 140 f = M 140 f := fun f g => by rw [hp3 140 (by decide), mp_ne _ _ g]
    refine pI_i ⟨rfl, ⟨hSl.congr (fun j hj => ?_), ⟨?_, by show h0.length ≤ 6; omega, fun i hi => ?_⟩, hS.2.2.1.congr (q1 144 (by decide) (by decide)) (q1 143 (by decide) (by decide)), hS.2.2.2.congr (q2 6 (by decide)) (q1 145 (by decide) (by decide))⟩, fun q f => ?_⟩
    · rw [hp1 j hj, mput_ne _ _ _ (by decide), Nat.mul_comm]
    · rw [hp3 140 (by decide), mp_eq]
    · have h9 := hS2.2.2 i (by rw [List.length_append]; exact Nat.lt_succ_of_lt hi)
      rw [List.getElem_append_left hi] at h9
      rw [q1 142 (by decide) (by decide)]
      exact h9
    · by_cases e : q = 141 ∨ q = 140
      · exact Or.inl (by unfold PA; omega)
      · exact Or.inr (by rw [q1 q (fun z => e (Or.inl z)) (fun z => e (Or.inr z))])
  · rw [if_pos (by omega)] at hR
    subst hR
    refine x_bipush (pc := 7) hX (by decide) dX7_undo_7 ?_
    refine x_iret (pc := 9) hX rfl (Nat.zero_le _) (Nat.zero_le _) dX7_undo_9 ?_
    exact pI_i ⟨rfl, hS, Chg.rf⟩

set_option maxHeartbeats 4000000 in
set_option maxRecDepth 100000 in
theorem tX7_save {G : XG} {κ : XKs} {M : XM} {hs : Nat} (hK : KM κ hs) {S : Sx} (hS : RM M S) (i : Int) (hi : InR i) {R : Int × Sx} (hR : sSave S i = R) : XC G mX7_save 2 0 0 [xR 140, xI i] κ M hs (pI κ hs (fun x M' => x = R.1 ∧ RM M' R.2 ∧ Chg PA M M')) := by
  refine XC.intro cdX7_save (by decide) (by decide) (Nat.le_of_ble_eq_true rfl) (loc := [some (xR 140), some (xI i)]) rfl (fun X hX => ?_)
  have hi0 := hi
  unfold InR at hi0
  unfold sSave at hR
  refine x_iload_n (pc := 0) hX rfl rfl dX7_save_0 ?_
  refine x_iconst (pc := 1) hX dX7_save_1 ?_
  refine x_iconst (pc := 2) hX dX7_save_2 ?_
  refine x_cS_P (pc := 3) hX (tX7_within i (0) (1) hi (by unfold InR; omega) (by unfold InR; omega)) lk_X7_48 rfl rfl (Nat.le_of_ble_eq_true rfl) (by decide) (Nat.zero_le _) (Nat.zero_le _) dX7_save_3 ?_
  by_cases hii : 0 ≤ i ∧ i ≤ 1
  · rw [if_pos hii]
    rw [if_neg (by omega)] at hR
    refine x_if_ne (pc := 6) (tgt := 12) hX dX7_save_6 (by decide) (by omega) (fun h6 => ?_) (fun h6 => ?_)
    · refine x_aload_n (pc := 12) hX rfl rfl dX7_save_12 ?_
      refine x_getR (pc := 13) hX fl_X7_7 hK.1 rfl dX7_save_13 ?_
      refine x_iconst (pc := 16) hX dX7_save_16 ?_
      refine x_aload_n (pc := 17) hX rfl rfl dX7_save_17 ?_
      refine x_getR (pc := 18) hX fl_X7_16 hK.1 rfl dX7_save_18 ?_
      refine x_sipush (pc := 21) hX (by decide) dX7_save_21 ?_
      refine x_iload_n (pc := 24) hX rfl rfl dX7_save_24 ?_
      refine x_imul (pc := 25) (v := ((324 * i.toNat : Nat) : Int)) hX dX7_save_25 (by omega) ?_
      refine x_cS_V (pc := 26) hX (tX7_moves hK.2.1 hK.2.2.2.1 (by decide) 0 (324 * i.toNat) (by decide) (by omega) (by decide) (by decide)) lk_X7_44 rfl rfl (Nat.le_of_ble_eq_true rfl) (by decide) (Nat.zero_le _) (Nat.zero_le _) dX7_save_26 (fun M1 hp => ?_)
      obtain ⟨hp1, hp2, hp3⟩ := hp
      refine x_aload_n (pc := 29) hX rfl rfl dX7_save_29 ?_
      refine x_getR (pc := 30) hX fl_X7_19 hK.1 rfl dX7_save_30 ?_
      refine x_iload_n (pc := 33) hX rfl rfl dX7_save_33 ?_
      refine x_iconst (pc := 34) hX dX7_save_34 ?_
      refine x_iast (pc := 35) (j := i.toNat) hX hK.2.2.2.2.1 (by omega) (by omega) (by decide) dX7_save_35 ?_
      generalize hM2 : mput M1 144 i.toNat 1 = M2
      have q1 : ∀ q, q ≠ 143 → q ≠ 144 → M2 q = M q := fun q g1 g2 => by rw [← hM2, mput_ne _ _ _ g2, hp3 q g1]
      have q3 : M2 143 = M1 143 := by rw [← hM2, mput_ne _ _ _ (by decide)]
      have q4 : M2 144 i.toNat = 1 := by rw [← hM2, mp_eq]
      have q5 : ∀ j, j ≠ i.toNat → M2 144 j = M 144 j := fun j g => by rw [← hM2, mp_ne _ _ g, hp3 144 (by decide)]
      have hS1 : MS (M2 141) 0 S.1 := by rw [q1 141 (by decide) (by decide)]; exact hS.1
      refine x_aload_n (pc := 36) hX rfl rfl dX7_save_36 ?_
      refine x_cV_P (pc := 37) hX (tX7_allRuns hK hS1) hK.1 rfl lk_X7_150 rfl rfl (Nat.le_of_ble_eq_true rfl) (by decide) (Nat.zero_le _) (Nat.zero_le _) dX7_save_37 ?_
      refine x_iret (pc := 40) hX rfl (Nat.zero_le _) (Nat.zero_le _) dX7_save_40 ?_
      subst hR
      refine pI_i ⟨rfl, ⟨hS1, hS.2.1.congr (by rw [q1 140 (by decide) (by decide)]) (q1 142 (by decide) (by decide)), fun j hj => ?_, hS.2.2.2.congr (by rw [q1 140 (by decide) (by decide)]) (q1 145 (by decide) (by decide))⟩, fun q f => ?_⟩
      · show M2 144 j = 0 ∧ (if j = i.toNat then some S.1 else S.2.2.1 j) = none ∨ M2 144 j = 1 ∧ ∃ c, (if j = i.toNat then some S.1 else S.2.2.1 j) = some c ∧ MS (M2 143) (324 * j) c
        rw [q3]
        by_cases e : j = i.toNat
        · rw [if_pos e, e]
          refine Or.inr ⟨q4, S.1, rfl, hS.1.congr (fun j hj => ?_)⟩
          rw [hp1 j hj]
        · rw [if_neg e, q5 j e]
          rcases hS.2.2.1 j hj with h | ⟨h, c, h1, h2⟩
          · exact Or.inl h
          · exact Or.inr ⟨h, c, h1, h2.congr (fun k hk => hp2 _ (by omega))⟩
      · by_cases e : q = 143 ∨ q = 144
        · exact Or.inl (by unfold PA; omega)
        · exact Or.inr (by rw [q1 q (fun z => e (Or.inl z)) (fun z => e (Or.inr z))])
    · exfalso; omega
  · rw [if_neg hii]
    refine x_if_ne (pc := 6) (tgt := 12) hX dX7_save_6 (by decide) (by omega) (fun h6 => ?_) (fun h6 => ?_)
    · exfalso; omega
    · refine x_bipush (pc := 9) hX (by decide) dX7_save_9 ?_
      refine x_iret (pc := 11) hX rfl (Nat.zero_le _) (Nat.zero_le _) dX7_save_11 ?_
      rw [if_pos (by omega)] at hR
      subst hR
      exact pI_i ⟨rfl, hS, Chg.rf⟩

set_option maxHeartbeats 4000000 in
set_option maxRecDepth 100000 in
theorem tX7_restore {G : XG} {κ : XKs} {M : XM} {hs : Nat} (hK : KM κ hs) {S : Sx} (hS : RM M S) (i : Int) (hi : InR i) {R : Int × Sx} (hR : sRest S i = R) : XC G mX7_restore 2 0 0 [xR 140, xI i] κ M hs (pI κ hs (fun x M' => x = R.1 ∧ RM M' R.2 ∧ Chg PA M M')) := by
  refine XC.intro cdX7_restore (by decide) (by decide) (Nat.le_of_ble_eq_true rfl) (loc := [some (xR 140), some (xI i)]) rfl (fun X hX => ?_)
  have hi0 := hi
  unfold InR at hi0
  unfold sRest at hR
  refine x_iload_n (pc := 0) hX rfl rfl dX7_restore_0 ?_
  refine x_iconst (pc := 1) hX dX7_restore_1 ?_
  refine x_iconst (pc := 2) hX dX7_restore_2 ?_
  refine x_cS_P (pc := 3) hX (tX7_within i (0) (1) hi (by unfold InR; omega) (by unfold InR; omega)) lk_X7_48 rfl rfl (Nat.le_of_ble_eq_true rfl) (by decide) (Nat.zero_le _) (Nat.zero_le _) dX7_restore_3 ?_
  by_cases hii : 0 ≤ i ∧ i ≤ 1
  · rw [if_pos hii]
    rw [if_neg (by omega)] at hR
    have hsl := hS.2.2.1 i.toNat (by omega)
    refine x_if_ne (pc := 6) (tgt := 12) hX dX7_restore_6 (by decide) (by omega) (fun h6 => ?_) (fun h6 => ?_)
    · refine x_aload_n (pc := 12) hX rfl rfl dX7_restore_12 ?_
      refine x_getR (pc := 13) hX fl_X7_19 hK.1 rfl dX7_restore_13 ?_
      refine x_iload_n (pc := 16) hX rfl rfl dX7_restore_16 ?_
      by_cases hn : M 144 i.toNat = 0
      · obtain ⟨-, hnone⟩ : M 144 i.toNat = 0 ∧ S.2.2.1 i.toNat = none := hsl.resolve_right (fun z => by have := z.1; omega)
        rw [hnone] at hR
        subst hR
        refine x_iald (pc := 17) (j := i.toNat) (v := (0 : Int)) hX hK.2.2.2.2.1 (by omega) (by omega) (by decide) hn dX7_restore_17 ?_
        refine x_if_ne (pc := 18) (tgt := 24) hX dX7_restore_18 (by decide) (by omega) (fun h18 => ?_) (fun h18 => ?_)
        · exfalso; omega
        · refine x_bipush (pc := 21) hX (by decide) dX7_restore_21 ?_
          refine x_iret (pc := 23) hX rfl (Nat.zero_le _) (Nat.zero_le _) dX7_restore_23 ?_
          exact pI_i ⟨rfl, hS, Chg.rf⟩
      · obtain ⟨hone, c, hsome, hc⟩ := hsl.resolve_left (fun z => hn z.1)
        rw [hsome] at hR
        subst hR
        refine x_iald (pc := 17) (j := i.toNat) (v := (1 : Int)) hX hK.2.2.2.2.1 (by omega) (by omega) (by decide) hone dX7_restore_17 ?_
        refine x_if_ne (pc := 18) (tgt := 24) hX dX7_restore_18 (by decide) (by omega) (fun h18 => ?_) (fun h18 => ?_)
        · refine x_aload_n (pc := 24) hX rfl rfl dX7_restore_24 ?_
          refine x_cV_V (pc := 25) hX (tX7_record hK hS.1 hS.2.1) hK.1 rfl lk_X7_95 rfl rfl (Nat.le_of_ble_eq_true rfl) (by decide) (Nat.zero_le _) (Nat.zero_le _) dX7_restore_25 (fun M3 hp => ?_)
          obtain ⟨hH3, hq3⟩ := hp
          have hR3 := hS.rec hq3 hH3
          have e143 : M3 143 = M 143 := hq3.cell (fun f => by unfold PH; omega)
          refine x_aload_n (pc := 28) hX rfl rfl dX7_restore_28 ?_
          refine x_getR (pc := 29) hX fl_X7_16 hK.1 rfl dX7_restore_29 ?_
          refine x_sipush (pc := 32) hX (by decide) dX7_restore_32 ?_
          refine x_iload_n (pc := 35) hX rfl rfl dX7_restore_35 ?_
          refine x_imul (pc := 36) (v := ((324 * i.toNat : Nat) : Int)) hX dX7_restore_36 (by omega) ?_
          refine x_aload_n (pc := 37) hX rfl rfl dX7_restore_37 ?_
          refine x_getR (pc := 38) hX fl_X7_7 hK.1 rfl dX7_restore_38 ?_
          refine x_iconst (pc := 41) hX dX7_restore_41 ?_
          refine x_cS_V (pc := 42) hX (tX7_moves hK.2.2.2.1 hK.2.1 (by decide) (324 * i.toNat) 0 (by omega) (by decide) (by decide) (by decide)) lk_X7_44 rfl rfl (Nat.le_of_ble_eq_true rfl) (by decide) (Nat.zero_le _) (Nat.zero_le _) dX7_restore_42 (fun M4 hp => ?_)
          obtain ⟨hp1, hp2, hp3⟩ := hp
          have hS4 : MS (M4 141) 0 c := hc.congr (fun j hj => by rw [hp1 j hj, e143])
          refine x_aload_n (pc := 45) hX rfl rfl dX7_restore_45 ?_
          refine x_cV_P (pc := 46) hX (tX7_allRuns hK hS4) hK.1 rfl lk_X7_150 rfl rfl (Nat.le_of_ble_eq_true rfl) (by decide) (Nat.zero_le _) (Nat.zero_le _) dX7_restore_46 ?_
          refine x_iret (pc := 49) hX rfl (Nat.zero_le _) (Nat.zero_le _) dX7_restore_49 ?_
          refine pI_i ⟨rfl, ⟨hS4, hR3.2.1.congr (by rw [hp3 140 (by decide)]) (hp3 142 (by decide)), hR3.2.2.1.congr (hp3 144 (by decide)) (hp3 143 (by decide)), hR3.2.2.2.congr (by rw [hp3 140 (by decide)]) (hp3 145 (by decide))⟩, (hq3.mono (fun _ _ => PH.pa)).tr (fun q f => ?_)⟩
          by_cases e : q = 141
          · exact Or.inl (by unfold PA; omega)
          · exact Or.inr (by rw [hp3 q e])
        · exfalso; omega
    · exfalso; omega
  · rw [if_neg hii]
    refine x_if_ne (pc := 6) (tgt := 12) hX dX7_restore_6 (by decide) (by omega) (fun h6 => ?_) (fun h6 => ?_)
    · exfalso; omega
    · refine x_bipush (pc := 9) hX (by decide) dX7_restore_9 ?_
      refine x_iret (pc := 11) hX rfl (Nat.zero_le _) (Nat.zero_le _) dX7_restore_11 ?_
      rw [if_pos (by omega)] at hR
      subst hR
      exact pI_i ⟨rfl, hS, Chg.rf⟩

