/-! constructors -/
def Ext (o : Nat) (κ : XKs) (M : XM) (κ' : XKs) (M' : XM) : Prop := ∀ q, q < o → κ' q = κ q ∧ M' q = M q
theorem KCol.rg {κ κ' : XKs} {hs hs' o : Nat} (h : KCol κ hs o) (hq : ∀ q, o ≤ q → q < o + 3 → κ' q = κ q) (hl : hs ≤ hs') : KCol κ' hs' o := ⟨⟨Nat.lt_of_lt_of_le h.1.1 hl, by rw [hq o (by omega) (by omega)]; exact h.1.2⟩, ⟨Nat.lt_of_lt_of_le h.2.1.1 hl, by rw [hq _ (by omega) (by omega)]; exact h.2.1.2⟩, ⟨Nat.lt_of_lt_of_le h.2.2.1 hl, by rw [hq _ (by omega) (by omega)]; exact h.2.2.2⟩⟩
theorem KSt.rg {κ κ' : XKs} {hs hs' o : Nat} (h : KSt κ hs o) (hq : ∀ q, o ≤ q → q < o + 14 → κ' q = κ q) (hl : hs ≤ hs') : KSt κ' hs' o := by
  obtain ⟨h1, ⟨g, h2, h3⟩, h4⟩ := h
  exact ⟨⟨Nat.lt_of_lt_of_le h1.1 hl, by rw [hq o (by omega) (by omega)]; exact h1.2⟩, ⟨g, ⟨Nat.lt_of_lt_of_le h2.1 hl, by rw [hq _ (by omega) (by omega)]; exact h2.2⟩, h3⟩, fun i hi => (h4 i hi).rg (fun q h5 h6 => hq q (by omega) (by omega)) hl⟩
theorem KHi.rg {κ κ' : XKs} {hs hs' o : Nat} (h : KHi κ hs o) (hq : ∀ q, o ≤ q → q < o + 86 → κ' q = κ q) (hl : hs ≤ hs') : KHi κ' hs' o := by
  obtain ⟨h1, ⟨g, h2, h3⟩, h4⟩ := h
  exact ⟨⟨Nat.lt_of_lt_of_le h1.1 hl, by rw [hq o (by omega) (by omega)]; exact h1.2⟩, ⟨g, ⟨Nat.lt_of_lt_of_le h2.1 hl, by rw [hq _ (by omega) (by omega)]; exact h2.2⟩, h3⟩, fun i hi => (h4 i hi).rg (fun q h5 h6 => hq q (by omega) (by omega)) hl⟩
theorem St.rg {M M' : XM} {o : Nat} {cs : Cs} (h : St M o cs) (hq : ∀ q, o ≤ q → q < o + 14 → M' q = M q) : St M' o cs := fun i hi => (h i hi).congr (fun a h1 h2 => hq a (by omega) (by omega))
theorem Col.nil {M : XM} {o : Nat} (h : ∀ j, M o j = 0) : Col M o [] := ⟨⟨h 2, h 3, fun i hi => absurd hi (Nat.not_lt_zero _)⟩, h 4, ⟨Nat.zero_le _, Nat.zero_le _⟩, fun v hv => by cases hv⟩
theorem x_abs {G : XG} {X : XX} {md : XD} {Q : State → Prop} {k n pc : Nat} {loc : List (Option XV)} {st : List XV} {κ : XKs} {M : XM} {hs : Nat} {P : XKs → XM → Prop} (h : P κ M) (kk : ∀ κ' M', P κ' M' → XW G X md Q k n pc loc st κ' M' hs) : XW G X md Q k n pc loc st κ M hs := kk κ M h
set_option maxHeartbeats 4000000 in
set_option maxRecDepth 100000 in
theorem tX0_init {G : XG} {κ : XKs} {M : XM} {o : Nat} (h0 : κ o = kO 0 flX0) (hM : ∀ j, M o j = 0) : XC G mX0_init 1 2 80 [xR o] κ M (o + 1) (fun r κ' M' hs' => r = none ∧ hs' = o + 3 ∧ Ext o κ M κ' M' ∧ KCol κ' (o + 3) o ∧ Col M' o []) := by
  refine XC.intro cdX0_init (by decide) (by decide) (Nat.le_of_ble_eq_true rfl) (loc := [some (xR o)]) rfl (fun X hX => ?_)
  refine x_aload_n (pc := 0) hX rfl rfl dX0_init_0 ?_
  refine x_objInit (pc := 1) hX tw_91 (Nat.le_of_ble_eq_true rfl) (by decide) dX0_init_1 ?_
  refine x_aload_n (pc := 4) hX rfl rfl dX0_init_4 ?_
  refine x_bipush (pc := 5) hX (by decide) dX0_init_5 ?_
  refine x_newa (pc := 7) (atype := .int) (t := 0) (N := 40) hX tw_108 rfl rfl rfl (fun C h => by cases h) rfl (by decide) (by decide) (by decide) (by decide) dX0_init_7 ?_
  refine x_putR (pc := 9) hX fl_X0_9 (show xO (kset κ (o + 1) (kA 0 40)) (o + 1 + 1) o (kO 0 flX0) from ⟨by omega, by rw [kset_ne _ _ (by omega)]; exact h0⟩) (Nat.le_of_ble_eq_true rfl) rfl rfl (fun _ => ⟨rfl, _, _, rfl⟩) dX0_init_9 ?_
  refine x_aload_n (pc := 12) hX rfl rfl dX0_init_12 ?_
  refine x_bipush (pc := 13) hX (by decide) dX0_init_13 ?_
  refine x_newa (pc := 15) (atype := .int) (t := 0) (N := 40) hX tw_108 rfl rfl rfl (fun C h => by cases h) rfl (by decide) (by decide) (by decide) (by decide) dX0_init_15 ?_
  refine x_putR (pc := 17) hX fl_X0_15 (show xO (kset (kset (kset κ (o + 1) (kA 0 40)) o (kO 0 (flX0.set 0 (fR (o + 1))))) (o + 1 + 1) (kA 0 40)) (o + 1 + 1 + 1) o (kO 0 (flX0.set 0 (fR (o + 1)))) from ⟨by omega, by rw [kset_ne _ _ (by omega), kset_self]⟩) (Nat.le_of_ble_eq_true rfl) rfl rfl (fun _ => ⟨rfl, _, _, rfl⟩) dX0_init_17 ?_
  refine x_vret (pc := 20) hX rfl (by decide) (by decide) dX0_init_20 ?_
  refine ⟨rfl, rfl, fun q hq => ⟨by rw [kset_ne _ _ (by omega), kset_ne _ _ (by omega), kset_ne _ _ (by omega), kset_ne _ _ (by omega)], by rw [mset_ne _ _ (by omega), mset_ne _ _ (by omega)]⟩, ⟨⟨by omega, kset_self _ _ _⟩, ⟨by omega, ?_⟩, ⟨by omega, ?_⟩⟩, Col.nil (fun j => by rw [mset_ne _ _ (by omega), mset_ne _ _ (by omega)]; exact hM j)⟩
  · rw [kset_ne _ _ (by omega), kset_ne _ _ (by omega), kset_ne _ _ (by omega), kset_self]
  · rw [kset_ne _ _ (by omega)]
    exact kset_self _ _ _

set_option maxHeartbeats 4000000 in
set_option maxRecDepth 100000 in
theorem tX5_init {G : XG} {κ : XKs} {M : XM} {o : Nat} (h0 : κ o = kO 5 flX5) (hM : ∀ j, M o j = 0) : XC G mX5_init 2 13 344 [xR o] κ M (o + 1) (fun r κ' M' hs' => r = none ∧ hs' = o + 14 ∧ Ext o κ M κ' M' ∧ KSt κ' (o + 14) o ∧ St M' o (fun _ => [])) := by
  refine XC.intro cdX5_init (by decide) (by decide) (Nat.le_of_ble_eq_true rfl) (loc := [some (xR o), none]) rfl (fun X hX => ?_)
  have loop : ∀ (n i : Nat) (κ1 : XKs) (M1 : XM) (g : Nat → Option Nat), i ≤ 4 → 4 < i + n → Ext o κ M κ1 M1 → κ1 o = kO 5 [fR (o + 1)] → κ1 (o + 1) = kQ 3 4 g → (∀ j, M1 o j = 0) → (∀ j, j < i → g j = some (o + 2 + 3 * j) ∧ KCol κ1 (o + 2 + 3 * i) (o + 2 + 3 * j) ∧ Col M1 (o + 2 + 3 * j) []) → XW G X mX5_init (xq G (fun r κ' M' hs' => r = none ∧ hs' = o + 14 ∧ Ext o κ M κ' M' ∧ KSt κ' (o + 14) o ∧ St M' o (fun _ => [])) 13 344 X) (1 + 3 * i) (4 + 85 * i) 14 [some (xR o), some (xI (i : Int))] [] κ1 M1 (o + 2 + 3 * i) := by
    intro n
    induction n with
    | zero => intro i κ1 M1 g h1 h2; omega
    | succ n ih =>
      intro i κ1 M1 g h1 h2 hx ho hg hM1 hj2
      refine x_iload_n (pc := 14) hX rfl rfl dX5_init_14 ?_
      refine x_iconst (pc := 15) hX dX5_init_15 ?_
      refine x_icmp_ge (pc := 16) (tgt := 38) hX dX5_init_16 (by decide) (by omega) (fun h16 => ?_) (fun h16 => ?_)
      · refine x_vret (pc := 38) hX rfl (by omega) (by omega) dX5_init_38 ?_
        obtain rfl : i = 4 := by omega
        refine ⟨rfl, rfl, hx, ⟨⟨by omega, ho⟩, ⟨g, ⟨by omega, hg⟩, fun j hj => (hj2 j hj).1⟩, fun j hj => (hj2 j hj).2.1⟩, fun j hj => (hj2 j hj).2.2⟩
      · have hi : i < 4 := by omega
        refine x_aload_n (pc := 19) hX rfl rfl dX5_init_19 ?_
        refine x_getR (pc := 20) hX fl_X5_11 (show xO κ1 (o + 2 + 3 * i) o (kO 5 [fR (o + 1)]) from ⟨by omega, ho⟩) rfl dX5_init_20 ?_
        refine x_iload_n (pc := 23) hX rfl rfl dX5_init_23 ?_
        refine x_new (pc := 24) hX cl_X5_9 nfX0 (by intro o h; simp [flX0] at h) (by omega) (by omega) dX5_init_24 ?_
        refine x_dup (pc := 27) hX rfl dX5_init_27 ?_
        refine x_callN (pc := 28) hX (tX0_init (o := o + 2 + 3 * i) (kset_self _ _ _) (fun j => by rw [mset_self])) rfl lk_X5_17 rfl rfl (Nat.le_of_ble_eq_true rfl) (by decide) (by omega) (by omega) dX5_init_28 (fun r κ' M' hs' hp => ?_)
        obtain ⟨rfl, rfl, hxc, hKc, hCc⟩ := hp
        refine x_aast (pc := 31) (j := i) hX (show xO κ' (o + 2 + 3 * i + 3) (o + 1) (kQ 3 4 g) from ⟨by omega, by rw [(hxc _ (by omega)).1, kset_ne _ _ (by omega)]; exact hg⟩) rfl hKc.1 rfl (by omega) (by omega) (by decide) dX5_init_31 ?_
        refine x_iinc (pc := 32) (v := ((i + 1 : Nat) : Int)) hX dX5_init_32 rfl (by decide) rfl (by omega) rfl ?_
        refine x_goto (pc := 35) (tgt := 14) hX dX5_init_35 (by decide) ?_
        have ehs : o + 2 + 3 * i + 3 = o + 2 + 3 * (i + 1) := by omega
        rw [ehs] at hKc ⊢
        refine x_widen (k' := 1 + 3 * (i + 1)) (n' := 4 + 85 * (i + 1)) (by omega) (by omega) (ih (i + 1) _ _ (va_up g i (some (o + 2 + 3 * i))) (by omega) (by omega) (fun q hq => ⟨by rw [kset_ne _ _ (by omega), (hxc q (by omega)).1, kset_ne _ _ (by omega)]; exact (hx q hq).1, by rw [(hxc q (by omega)).2, mset_ne _ _ (by omega)]; exact (hx q hq).2⟩) (by rw [kset_ne _ _ (by omega), (hxc o (by omega)).1, kset_ne _ _ (by omega)]; exact ho) (kset_self _ _ _) (fun j => by rw [(hxc o (by omega)).2, mset_ne _ _ (by omega)]; exact hM1 j) (fun j hj => ?_))
        by_cases e : j = i
        · subst e
          exact ⟨if_pos rfl, hKc.rg (fun q h1 h2 => kset_ne _ _ (by omega)) (Nat.le_refl _), hCc⟩
        · have h9 := hj2 j (by omega)
          refine ⟨(if_neg e).trans h9.1, h9.2.1.rg (fun q h1 h2 => ?_) (by omega), h9.2.2.congr (fun q h1 h2 => ?_)⟩
          · rw [kset_ne _ _ (by omega), (hxc q (by omega)).1, kset_ne _ _ (by omega)]
          · rw [(hxc q (by omega)).2, mset_ne _ _ (by omega)]
  refine x_aload_n (pc := 0) hX rfl rfl dX5_init_0 ?_
  refine x_objInit (pc := 1) hX tw_84 (Nat.le_of_ble_eq_true rfl) (by decide) dX5_init_1 ?_
  refine x_aload_n (pc := 4) hX rfl rfl dX5_init_4 ?_
  refine x_iconst (pc := 5) hX dX5_init_5 ?_
  refine x_anewa (pc := 6) (t := 3) (N := 4) hX tw_85 (fun U h => h.2.1) rfl rfl (by decide) (by decide) (by decide) dX5_init_6 ?_
  refine x_putR (pc := 9) hX fl_X5_11 (show xO (kset κ (o + 1) (kQ 3 4 (fun _ => none))) (o + 1 + 1) o (kO 5 flX5) from ⟨by omega, by rw [kset_ne _ _ (by omega)]; exact h0⟩) (Nat.le_of_ble_eq_true rfl) rfl rfl (fun _ => ⟨rfl, _, _, rfl⟩) dX5_init_9 ?_
  refine x_iconst (pc := 12) hX dX5_init_12 ?_
  refine x_istore_n (pc := 13) hX rfl (by decide) rfl rfl dX5_init_13 ?_
  exact loop 5 0 _ _ (fun _ => none) (by omega) (by omega) (fun q hq => ⟨by rw [kset_ne _ _ (by omega), kset_ne _ _ (by omega)], by rw [mset_ne _ _ (by omega)]⟩) (kset_self _ _ _) (by rw [kset_ne _ _ (by omega), kset_self]) (fun j => by rw [mset_ne _ _ (by omega)]; exact hM j) (fun j hj => absurd hj (Nat.not_lt_zero _))

set_option maxHeartbeats 4000000 in
set_option maxRecDepth 100000 in
theorem tX1_init {G : XG} {κ : XKs} {M : XM} {o : Nat} (h0 : κ o = kO 1 flX1) (hM : ∀ j, M o j = 0) : XC G mX1_init 3 85 2076 [xR o] κ M (o + 1) (fun r κ' M' hs' => r = none ∧ hs' = o + 86 ∧ Ext o κ M κ' M' ∧ KHi κ' (o + 86) o ∧ Hi M' o []) := by
  refine XC.intro cdX1_init (by decide) (by decide) (Nat.le_of_ble_eq_true rfl) (loc := [some (xR o), none]) rfl (fun X hX => ?_)
  have loop : ∀ (n i : Nat) (κ1 : XKs) (M1 : XM) (g : Nat → Option Nat), i ≤ 6 → 6 < i + n → Ext o κ M κ1 M1 → κ1 o = kO 1 [fR (o + 1), fI, fI] → κ1 (o + 1) = kQ 4 6 g → (∀ j, M1 o j = 0) → (∀ j, j < i → g j = some (o + 2 + 14 * j) ∧ KSt κ1 (o + 2 + 14 * i) (o + 2 + 14 * j) ∧ St M1 (o + 2 + 14 * j) (fun _ => [])) → XW G X mX1_init (xq G (fun r κ' M' hs' => r = none ∧ hs' = o + 86 ∧ Ext o κ M κ' M' ∧ KHi κ' (o + 86) o ∧ Hi M' o []) 85 2076 X) (1 + 14 * i) (6 + 345 * i) 15 [some (xR o), some (xI (i : Int))] [] κ1 M1 (o + 2 + 14 * i) := by
    intro n
    induction n with
    | zero => intro i κ1 M1 g h1 h2; omega
    | succ n ih =>
      intro i κ1 M1 g h1 h2 hx ho hg hM1 hj2
      refine x_iload_n (pc := 15) hX rfl rfl dX1_init_15 ?_
      refine x_bipush (pc := 16) hX (by decide) dX1_init_16 ?_
      refine x_icmp_ge (pc := 18) (tgt := 40) hX dX1_init_18 (by decide) (by omega) (fun h18 => ?_) (fun h18 => ?_)
      · refine x_vret (pc := 40) hX rfl (by omega) (by omega) dX1_init_40 ?_
        obtain rfl : i = 6 := by omega
        refine ⟨rfl, rfl, hx, ⟨⟨by omega, ho⟩, ⟨g, ⟨by omega, hg⟩, fun j hj => (hj2 j hj).1⟩, fun j hj => (hj2 j hj).2.1⟩, ⟨0, by decide, hM1 1, hM1 2, by decide, fun j hj => absurd hj (Nat.not_lt_zero _)⟩⟩
      · have hi : i < 6 := by omega
        refine x_aload_n (pc := 21) hX rfl rfl dX1_init_21 ?_
        refine x_getR (pc := 22) hX fl_X1_11 (show xO κ1 (o + 2 + 14 * i) o (kO 1 [fR (o + 1), fI, fI]) from ⟨by omega, ho⟩) rfl dX1_init_22 ?_
        refine x_iload_n (pc := 25) hX rfl rfl dX1_init_25 ?_
        refine x_new (pc := 26) hX cl_X1_9 nfX5 (by intro o h; simp [flX5] at h) (by omega) (by omega) dX1_init_26 ?_
        refine x_dup (pc := 29) hX rfl dX1_init_29 ?_
        refine x_callI (pc := 30) hX (tX5_init (o := o + 2 + 14 * i) (kset_self _ _ _) (fun j => by rw [mset_self])) rfl lk_X1_17 rfl rfl (Nat.le_of_ble_eq_true rfl) (by decide) (by omega) (by omega) dX1_init_30 (fun r κ' M' hs' hp => ?_)
        obtain ⟨rfl, rfl, hxc, hKc, hCc⟩ := hp
        refine x_aast (pc := 33) (j := i) hX (show xO κ' (o + 2 + 14 * i + 14) (o + 1) (kQ 4 6 g) from ⟨by omega, by rw [(hxc _ (by omega)).1, kset_ne _ _ (by omega)]; exact hg⟩) rfl hKc.1 rfl (by omega) (by omega) (by decide) dX1_init_33 ?_
        refine x_iinc (pc := 34) (v := ((i + 1 : Nat) : Int)) hX dX1_init_34 rfl (by decide) rfl (by omega) rfl ?_
        refine x_goto (pc := 37) (tgt := 15) hX dX1_init_37 (by decide) ?_
        have ehs : o + 2 + 14 * i + 14 = o + 2 + 14 * (i + 1) := by omega
        rw [ehs] at hKc ⊢
        refine x_widen (k' := 1 + 14 * (i + 1)) (n' := 6 + 345 * (i + 1)) (by omega) (by omega) (ih (i + 1) _ _ (va_up g i (some (o + 2 + 14 * i))) (by omega) (by omega) (fun q hq => ⟨by rw [kset_ne _ _ (by omega), (hxc q (by omega)).1, kset_ne _ _ (by omega)]; exact (hx q hq).1, by rw [(hxc q (by omega)).2, mset_ne _ _ (by omega)]; exact (hx q hq).2⟩) (by rw [kset_ne _ _ (by omega), (hxc o (by omega)).1, kset_ne _ _ (by omega)]; exact ho) (kset_self _ _ _) (fun j => by rw [(hxc o (by omega)).2, mset_ne _ _ (by omega)]; exact hM1 j) (fun j hj => ?_))
        by_cases e : j = i
        · subst e
          exact ⟨if_pos rfl, hKc.rg (fun q h1 h2 => kset_ne _ _ (by omega)) (Nat.le_refl _), hCc⟩
        · have h9 := hj2 j (by omega)
          refine ⟨(if_neg e).trans h9.1, h9.2.1.rg (fun q h1 h2 => ?_) (by omega), h9.2.2.rg (fun q h1 h2 => ?_)⟩
          · rw [kset_ne _ _ (by omega), (hxc q (by omega)).1, kset_ne _ _ (by omega)]
          · rw [(hxc q (by omega)).2, mset_ne _ _ (by omega)]
  refine x_aload_n (pc := 0) hX rfl rfl dX1_init_0 ?_
  refine x_objInit (pc := 1) hX tw_118 (Nat.le_of_ble_eq_true rfl) (by decide) dX1_init_1 ?_
  refine x_aload_n (pc := 4) hX rfl rfl dX1_init_4 ?_
  refine x_bipush (pc := 5) hX (by decide) dX1_init_5 ?_
  refine x_anewa (pc := 7) (t := 4) (N := 6) hX tw_119 (fun U h => h.2.2.1) rfl rfl (by decide) (by decide) (by decide) dX1_init_7 ?_
  refine x_putR (pc := 10) hX fl_X1_11 (show xO (kset κ (o + 1) (kQ 4 6 (fun _ => none))) (o + 1 + 1) o (kO 1 flX1) from ⟨by omega, by rw [kset_ne _ _ (by omega)]; exact h0⟩) (Nat.le_of_ble_eq_true rfl) rfl rfl (fun _ => ⟨rfl, _, _, rfl⟩) dX1_init_10 ?_
  refine x_iconst (pc := 13) hX dX1_init_13 ?_
  refine x_istore_n (pc := 14) hX rfl (by decide) rfl rfl dX1_init_14 ?_
  exact loop 7 0 _ _ (fun _ => none) (by omega) (by omega) (fun q hq => ⟨by rw [kset_ne _ _ (by omega), kset_ne _ _ (by omega)], by rw [mset_ne _ _ (by omega)]⟩) (kset_self _ _ _) (by rw [kset_ne _ _ (by omega), kset_self]) (fun j => by rw [mset_ne _ _ (by omega)]; exact hM j) (fun j hj => absurd hj (Nat.not_lt_zero _))

set_option maxHeartbeats 4000000 in
set_option maxRecDepth 100000 in
theorem tX3_init {G : XG} {κ : XKs} {M : XM} {o : Nat} (h0 : κ o = kO 3 flX3) (hM : ∀ j, M o j = 0) : XC G mX3_init 1 1 80 [xR o] κ M (o + 1) (fun r κ' M' hs' => r = none ∧ hs' = o + 2 ∧ Ext o κ M κ' M' ∧ xO κ' (o + 2) o (kO 3 [fR (o + 1), fI]) ∧ xO κ' (o + 2) (o + 1) (kA 1 80) ∧ ∀ j, M' o j = 0) := by
  refine XC.intro cdX3_init (by decide) (by decide) (Nat.le_of_ble_eq_true rfl) (loc := [some (xR o)]) rfl (fun X hX => ?_)
  refine x_aload_n (pc := 0) hX rfl rfl dX3_init_0 ?_
  refine x_objInit (pc := 1) hX tw_145 (Nat.le_of_ble_eq_true rfl) (by decide) dX3_init_1 ?_
  refine x_aload_n (pc := 4) hX rfl rfl dX3_init_4 ?_
  refine x_bipush (pc := 5) hX (by decide) dX3_init_5 ?_
  refine x_newa (pc := 7) (atype := .char) (t := 1) (N := 80) hX tw_154 rfl rfl rfl (fun C h => by cases h) rfl (by decide) (by decide) (by decide) (by decide) dX3_init_7 ?_
  refine x_putR (pc := 9) hX fl_X3_9 (show xO (kset κ (o + 1) (kA 1 80)) (o + 1 + 1) o (kO 3 flX3) from ⟨by omega, by rw [kset_ne _ _ (by omega)]; exact h0⟩) (Nat.le_of_ble_eq_true rfl) rfl rfl (fun _ => ⟨rfl, _, _, rfl⟩) dX3_init_9 ?_
  refine x_vret (pc := 12) hX rfl (by decide) (by decide) dX3_init_12 ?_
  exact ⟨rfl, rfl, fun q hq => ⟨by rw [kset_ne _ _ (by omega), kset_ne _ _ (by omega)], by rw [mset_ne _ _ (by omega)]⟩, ⟨by omega, kset_self _ _ _⟩, ⟨by omega, by rw [kset_ne _ _ (by omega), kset_self]⟩, fun j => by rw [mset_ne _ _ (by omega)]; exact hM j⟩

set_option maxHeartbeats 4000000 in
set_option maxRecDepth 100000 in
theorem tX2_init {G : XG} {κ : XKs} {M : XM} {o : Nat} (h0 : κ o = kO 2 flX2) : XC G mX2_init 2 4 162 [xR o] κ M (o + 1) (fun r κ' M' hs' => r = none ∧ hs' = o + 5 ∧ Ext o κ M κ' M' ∧ xO κ' (o + 5) o (kO 2 [fR (o + 1), fR (o + 3), fR (o + 4), fI, fI, fI, fI, fI, fI, fI]) ∧ xO κ' (o + 5) (o + 1) (kO 3 [fR (o + 2), fI]) ∧ xO κ' (o + 5) (o + 2) (kA 1 80) ∧ xO κ' (o + 5) (o + 3) (kA 0 40) ∧ xO κ' (o + 5) (o + 4) (kA 0 40) ∧ ∀ j, M' (o + 1) j = 0) := by
  refine XC.intro cdX2_init (by decide) (by decide) (Nat.le_of_ble_eq_true rfl) (loc := [some (xR o)]) rfl (fun X hX => ?_)
  refine x_aload_n (pc := 0) hX rfl rfl dX2_init_0 ?_
  refine x_objInit (pc := 1) hX tw_139 (Nat.le_of_ble_eq_true rfl) (by decide) dX2_init_1 ?_
  refine x_aload_n (pc := 4) hX rfl rfl dX2_init_4 ?_
  refine x_new (pc := 5) hX cl_X2_9 nfX3 (by intro o h; simp [flX3] at h) (by omega) (by omega) dX2_init_5 ?_
  refine x_dup (pc := 8) hX rfl dX2_init_8 ?_
  refine x_callN (pc := 9) hX (tX3_init (o := o + 1) (kset_self _ _ _) (fun j => by rw [mset_self])) rfl lk_X2_11 rfl rfl (Nat.le_of_ble_eq_true rfl) (by decide) (by decide) (by decide) dX2_init_9 (fun r κ' M' hs' hp => ?_)
  obtain ⟨rfl, rfl, hx, hP1, hP2, hP0⟩ := hp
  refine x_putR (pc := 12) hX fl_X2_12 (show xO κ' (o + 1 + 2) o (kO 2 flX2) from ⟨by omega, by rw [(hx o (by omega)).1, kset_ne _ _ (by omega)]; exact h0⟩) (Nat.le_of_ble_eq_true rfl) rfl rfl (fun _ => ⟨rfl, _, _, rfl⟩) dX2_init_12 ?_
  refine x_aload_n (pc := 15) hX rfl rfl dX2_init_15 ?_
  refine x_bipush (pc := 16) hX (by decide) dX2_init_16 ?_
  refine x_newa (pc := 18) (atype := .int) (t := 0) (N := 40) hX tw_108 rfl rfl rfl (fun C h => by cases h) rfl (by decide) (by decide) (by decide) (by decide) dX2_init_18 ?_
  refine x_putR (pc := 20) hX fl_X2_18 (show xO (kset (kset κ' o (kO 2 (flX2.set 0 (fR (o + 1))))) (o + 1 + 2) (kA 0 40)) (o + 1 + 2 + 1) o (kO 2 (flX2.set 0 (fR (o + 1)))) from ⟨by omega, by rw [kset_ne _ _ (by omega), kset_self]⟩) (Nat.le_of_ble_eq_true rfl) rfl rfl (fun _ => ⟨rfl, _, _, rfl⟩) dX2_init_20 ?_
  refine x_aload_n (pc := 23) hX rfl rfl dX2_init_23 ?_
  refine x_bipush (pc := 24) hX (by decide) dX2_init_24 ?_
  refine x_newa (pc := 26) (atype := .int) (t := 0) (N := 40) hX tw_108 rfl rfl rfl (fun C h => by cases h) rfl (by decide) (by decide) (by decide) (by decide) dX2_init_26 ?_
  refine x_putR (pc := 28) hX fl_X2_22 (show xO (kset (kset (kset (kset κ' o (kO 2 (flX2.set 0 (fR (o + 1))))) (o + 1 + 2) (kA 0 40)) o (kO 2 ((flX2.set 0 (fR (o + 1))).set 1 (fR (o + 1 + 2))))) (o + 1 + 2 + 1) (kA 0 40)) (o + 1 + 2 + 1 + 1) o (kO 2 ((flX2.set 0 (fR (o + 1))).set 1 (fR (o + 1 + 2)))) from ⟨by omega, by rw [kset_ne _ _ (by omega), kset_self]⟩) (Nat.le_of_ble_eq_true rfl) rfl rfl (fun _ => ⟨rfl, _, _, rfl⟩) dX2_init_28 ?_
  refine x_vret (pc := 31) hX rfl (by decide) (by decide) dX2_init_31 ?_
  refine ⟨rfl, rfl, fun q hq => ⟨by rw [kset_ne _ _ (by omega), kset_ne _ _ (by omega), kset_ne _ _ (by omega), kset_ne _ _ (by omega), kset_ne _ _ (by omega), (hx q (by omega)).1, kset_ne _ _ (by omega)], by rw [mset_ne _ _ (by omega), mset_ne _ _ (by omega), (hx q (by omega)).2, mset_ne _ _ (by omega)]⟩, ⟨by omega, kset_self _ _ _⟩, ⟨by omega, ?_⟩, ⟨by omega, ?_⟩, ⟨by omega, ?_⟩, ⟨by omega, ?_⟩, fun j => by rw [mset_ne _ _ (by omega), mset_ne _ _ (by omega)]; exact hP0 j⟩
  · rw [kset_ne _ _ (by omega), kset_ne _ _ (by omega), kset_ne _ _ (by omega), kset_ne _ _ (by omega), kset_ne _ _ (by omega)]
    exact hP1.2
  · rw [kset_ne _ _ (by omega), kset_ne _ _ (by omega), kset_ne _ _ (by omega), kset_ne _ _ (by omega), kset_ne _ _ (by omega)]
    exact hP2.2
  · rw [kset_ne _ _ (by omega), kset_ne _ _ (by omega), kset_ne _ _ (by omega)]
    exact kset_self _ _ _
  · rw [kset_ne _ _ (by omega)]
    exact kset_self _ _ _

