/-! the two objects made -/
def SX0 : Sx := (fun _ => [], [], fun _ => none, [])
def KM (κ : XKs) (hs : Nat) : Prop := xO κ hs 140 (kO 7 [fR 141, fR 142, fI, fR 143, fR 144, fR 145, fI, fR 146, fI, fR 147, fI, fR 148, fI, fI, fI, fI, fI, fR 149, fR 150, fI]) ∧ xO κ hs 141 (kA 0 324) ∧ xO κ hs 142 (kA 0 1944) ∧ xO κ hs 143 (kA 0 648) ∧ xO κ hs 144 (kA 0 2) ∧ xO κ hs 145 (kA 0 80) ∧ xO κ hs 146 (kA 0 1998) ∧ xO κ hs 147 (kA 0 999) ∧ xO κ hs 148 (kA 0 100) ∧ xO κ hs 149 (kA 0 40) ∧ xO κ hs 150 (kA 0 40)
theorem KM.mono {κ κ' : XKs} {hs hs' : Nat} (h : KM κ hs) (hq : ∀ q, q < hs → κ' q = κ q) (hl : hs ≤ hs') : KM κ' hs' := ⟨h.1.mono hq hl, h.2.1.mono hq hl, h.2.2.1.mono hq hl, h.2.2.2.1.mono hq hl, h.2.2.2.2.1.mono hq hl, h.2.2.2.2.2.1.mono hq hl, h.2.2.2.2.2.2.1.mono hq hl, h.2.2.2.2.2.2.2.1.mono hq hl, h.2.2.2.2.2.2.2.2.1.mono hq hl, h.2.2.2.2.2.2.2.2.2.1.mono hq hl, h.2.2.2.2.2.2.2.2.2.2.mono hq hl⟩
theorem Hi.e15 {M M' : XM} {o : Nat} (h : Hi M o []) (e : M' o = M o) : Hi M' o [] := by
  obtain ⟨old, h1, h2, h3, h4, -⟩ := h
  exact ⟨old, h1, by rw [e]; exact h2, by rw [e]; exact h3, h4, fun i hi => absurd hi (Nat.not_lt_zero _)⟩
set_option maxHeartbeats 4000000 in
set_option maxRecDepth 100000 in
theorem tX6_init {G : XG} {κ : XKs} {M : XM} (h0 : κ 0 = kO 6 flX6) : XC G mX6_init 4 139 3385 [xR 0] κ M 1 (fun r κ' M' hs' => r = none ∧ hs' = 140 ∧ KX κ' 140 ∧ RX M' SX0) := by
  refine XC.intro cdX6_init (by decide) (by decide) (Nat.le_of_ble_eq_true rfl) (loc := [some (xR 0), none]) rfl (fun X hX => ?_)
  refine x_abs (P := fun κ2 M2 => κ2 0 = kO 6 flX6) h0 (fun κ1 M1 h0 => ?_)
  refine x_aload_n (pc := 0) hX rfl rfl dX6_init_0 ?_
  refine x_objInit (pc := 1) hX tw_76 (Nat.le_of_ble_eq_true rfl) (by decide) dX6_init_1 ?_
  refine x_aload_n (pc := 4) hX rfl rfl dX6_init_4 ?_
  refine x_new (pc := 5) hX cl_X6_9 nfX5 (by intro o h; simp [flX5] at h) (by omega) (by omega) dX6_init_5 ?_
  refine x_dup (pc := 8) hX rfl dX6_init_8 ?_
  refine x_callI (pc := 9) hX (tX5_init (o := 1) (kset_self _ _ _) (fun j => by rw [mset_self])) rfl lk_X6_11 rfl rfl (Nat.le_of_ble_eq_true rfl) (by decide) (by omega) (by omega) dX6_init_9 (fun r κ' M' hs' hp => ?_)
  obtain ⟨rfl, rfl, hx, hnew⟩ := hp
  refine x_putR (pc := 12) hX fl_X6_12 (show xO κ' (1 + 14) 0 (kO 6 [fN, fN, fN, fN, fN, fN, fN, fN]) from ⟨by omega, by rw [(hx 0 (by omega)).1, kset_ne _ _ (by omega)]; exact h0⟩) (Nat.le_of_ble_eq_true rfl) rfl rfl (fun _ => ⟨rfl, _, _, rfl⟩) dX6_init_12 ?_
  refine x_abs (hs := 15) (P := fun κ2 M2 => κ2 0 = kO 6 [fR 1, fN, fN, fN, fN, fN, fN, fN] ∧ KSt κ2 15 1 ∧ St M2 1 (fun _ => [])) ⟨kset_self _ _ _, hnew.1.rg (fun q h1 h2 => by rw [kset_ne _ _ (by omega)]) (by omega), hnew.2⟩ (fun κ1 M1 hh => ?_)
  obtain ⟨h0, hA, hA2⟩ := hh
  refine x_aload_n (pc := 15) hX rfl rfl dX6_init_15 ?_
  refine x_new (pc := 16) hX cl_X6_16 nfX1 (by intro o h; simp [flX1] at h) (by omega) (by omega) dX6_init_16 ?_
  refine x_dup (pc := 19) hX rfl dX6_init_19 ?_
  refine x_callI (pc := 20) hX (tX1_init (o := 15) (kset_self _ _ _) (fun j => by rw [mset_self])) rfl lk_X6_18 rfl rfl (Nat.le_of_ble_eq_true rfl) (by decide) (by omega) (by omega) dX6_init_20 (fun r κ' M' hs' hp => ?_)
  obtain ⟨rfl, rfl, hx, hnew⟩ := hp
  refine x_putR (pc := 23) hX fl_X6_19 (show xO κ' (15 + 86) 0 (kO 6 [fR 1, fN, fN, fN, fN, fN, fN, fN]) from ⟨by omega, by rw [(hx 0 (by omega)).1, kset_ne _ _ (by omega)]; exact h0⟩) (Nat.le_of_ble_eq_true rfl) rfl rfl (fun _ => ⟨rfl, _, _, rfl⟩) dX6_init_23 ?_
  refine x_abs (hs := 101) (P := fun κ2 M2 => κ2 0 = kO 6 [fR 1, fR 15, fN, fN, fN, fN, fN, fN] ∧ KSt κ2 101 1 ∧ St M2 1 (fun _ => []) ∧ KHi κ2 101 15 ∧ Hi M2 15 []) ⟨kset_self _ _ _, hA.rg (fun q h1 h2 => by rw [kset_ne _ _ (by omega), (hx q (by omega)).1, kset_ne _ _ (by omega)]) (by omega), hA2.rg (fun q h1 h2 => by rw [(hx q (by omega)).2, mset_ne _ _ (by omega)]), hnew.1.rg (fun q h1 h2 => by rw [kset_ne _ _ (by omega)]) (by omega), hnew.2⟩ (fun κ1 M1 hh => ?_)
  obtain ⟨h0, hA, hA2, hB, hB2⟩ := hh
  refine x_aload_n (pc := 26) hX rfl rfl dX6_init_26 ?_
  refine x_iconst (pc := 27) hX dX6_init_27 ?_
  refine x_anewa (pc := 28) (t := 4) (N := 2) hX tw_79 (fun U h => h.2.2.1) rfl rfl (by decide) (by omega) (by omega) dX6_init_28 ?_
  refine x_putR (pc := 31) hX fl_X6_23 (show xO (kset κ1 101 (kQ 4 2 (fun _ => none))) 102 0 (kO 6 [fR 1, fR 15, fN, fN, fN, fN, fN, fN]) from ⟨by omega, by rw [kset_ne _ _ (by omega)]; exact h0⟩) (Nat.le_of_ble_eq_true rfl) rfl rfl (fun _ => ⟨rfl, _, _, rfl⟩) dX6_init_31 ?_
  refine x_abs (hs := 102) (P := fun κ2 M2 => κ2 0 = kO 6 [fR 1, fR 15, fR 101, fN, fN, fN, fN, fN] ∧ KSt κ2 102 1 ∧ St M2 1 (fun _ => []) ∧ KHi κ2 102 15 ∧ Hi M2 15 [] ∧ κ2 101 = kQ 4 2 (fun _ => none)) ⟨kset_self _ _ _, hA.rg (fun q h1 h2 => by rw [kset_ne _ _ (by omega), kset_ne _ _ (by omega)]) (by omega), hA2.rg (fun q h1 h2 => by rw [mset_ne _ _ (by omega)]), hB.rg (fun q h1 h2 => by rw [kset_ne _ _ (by omega), kset_ne _ _ (by omega)]) (by omega), (hB2.e15 (by rw [mset_ne _ _ (by omega)])), (by rw [kset_ne _ _ (by omega)]; exact kset_self _ _ _)⟩ (fun κ1 M1 hh => ?_)
  obtain ⟨h0, hA, hA2, hB, hB2, hC⟩ := hh
  refine x_aload_n (pc := 34) hX rfl rfl dX6_init_34 ?_
  refine x_iconst (pc := 35) hX dX6_init_35 ?_
  refine x_newa (pc := 36) (atype := .boolean) (t := 2) (N := 2) hX tw_153 rfl rfl rfl (fun C h => by cases h) rfl (by decide) (by decide) (by omega) (by omega) dX6_init_36 ?_
  refine x_putR (pc := 38) hX fl_X6_27 (show xO (kset κ1 102 (kA 2 2)) 103 0 (kO 6 [fR 1, fR 15, fR 101, fN, fN, fN, fN, fN]) from ⟨by omega, by rw [kset_ne _ _ (by omega)]; exact h0⟩) (Nat.le_of_ble_eq_true rfl) rfl rfl (fun _ => ⟨rfl, _, _, rfl⟩) dX6_init_38 ?_
  refine x_abs (hs := 103) (P := fun κ2 M2 => κ2 0 = kO 6 [fR 1, fR 15, fR 101, fR 102, fN, fN, fN, fN] ∧ KSt κ2 103 1 ∧ St M2 1 (fun _ => []) ∧ KHi κ2 103 15 ∧ Hi M2 15 [] ∧ κ2 101 = kQ 4 2 (fun _ => none) ∧ κ2 102 = kA 2 2 ∧ (∀ j, M2 102 j = 0)) ⟨kset_self _ _ _, hA.rg (fun q h1 h2 => by rw [kset_ne _ _ (by omega), kset_ne _ _ (by omega)]) (by omega), hA2.rg (fun q h1 h2 => by rw [mset_ne _ _ (by omega)]), hB.rg (fun q h1 h2 => by rw [kset_ne _ _ (by omega), kset_ne _ _ (by omega)]) (by omega), (hB2.e15 (by rw [mset_ne _ _ (by omega)])), ((show _ = _ from by rw [kset_ne _ _ (by omega), kset_ne _ _ (by omega)]).trans hC), (by rw [kset_ne _ _ (by omega)]; exact kset_self _ _ _), (fun j => by rw [mset_self])⟩ (fun κ1 M1 hh => ?_)
  obtain ⟨h0, hA, hA2, hB, hB2, hC, hD, hD2⟩ := hh
  refine x_aload_n (pc := 41) hX rfl rfl dX6_init_41 ?_
  refine x_new (pc := 42) hX cl_X6_31 nfX0 (by intro o h; simp [flX0] at h) (by omega) (by omega) dX6_init_42 ?_
  refine x_dup (pc := 45) hX rfl dX6_init_45 ?_
  refine x_callN (pc := 46) hX (tX0_init (o := 103) (kset_self _ _ _) (fun j => by rw [mset_self])) rfl lk_X6_33 rfl rfl (Nat.le_of_ble_eq_true rfl) (by decide) (by omega) (by omega) dX6_init_46 (fun r κ' M' hs' hp => ?_)
  obtain ⟨rfl, rfl, hx, hnew⟩ := hp
  refine x_putR (pc := 49) hX fl_X6_34 (show xO κ' (103 + 3) 0 (kO 6 [fR 1, fR 15, fR 101, fR 102, fN, fN, fN, fN]) from ⟨by omega, by rw [(hx 0 (by omega)).1, kset_ne _ _ (by omega)]; exact h0⟩) (Nat.le_of_ble_eq_true rfl) rfl rfl (fun _ => ⟨rfl, _, _, rfl⟩) dX6_init_49 ?_
  refine x_abs (hs := 106) (P := fun κ2 M2 => κ2 0 = kO 6 [fR 1, fR 15, fR 101, fR 102, fR 103, fN, fN, fN] ∧ KSt κ2 106 1 ∧ St M2 1 (fun _ => []) ∧ KHi κ2 106 15 ∧ Hi M2 15 [] ∧ κ2 101 = kQ 4 2 (fun _ => none) ∧ κ2 102 = kA 2 2 ∧ (∀ j, M2 102 j = 0) ∧ KCol κ2 106 103) ⟨kset_self _ _ _, hA.rg (fun q h1 h2 => by rw [kset_ne _ _ (by omega), (hx q (by omega)).1, kset_ne _ _ (by omega)]) (by omega), hA2.rg (fun q h1 h2 => by rw [(hx q (by omega)).2, mset_ne _ _ (by omega)]), hB.rg (fun q h1 h2 => by rw [kset_ne _ _ (by omega), (hx q (by omega)).1, kset_ne _ _ (by omega)]) (by omega), (hB2.e15 (by rw [(hx 15 (by omega)).2, mset_ne _ _ (by omega)])), ((show _ = _ from by rw [kset_ne _ _ (by omega), (hx 101 (by omega)).1, kset_ne _ _ (by omega)]).trans hC), ((show _ = _ from by rw [kset_ne _ _ (by omega), (hx 102 (by omega)).1, kset_ne _ _ (by omega)]).trans hD), (fun j => (congrFun (show _ = _ from by rw [(hx 102 (by omega)).2, mset_ne _ _ (by omega)]) j).trans (hD2 j)), hnew.1.rg (fun q h1 h2 => by rw [kset_ne _ _ (by omega)]) (by omega)⟩ (fun κ1 M1 hh => ?_)
  obtain ⟨h0, hA, hA2, hB, hB2, hC, hD, hD2, hE⟩ := hh
  refine x_aload_n (pc := 52) hX rfl rfl dX6_init_52 ?_
  refine x_new (pc := 53) hX cl_X6_38 nfX2 (by intro o h; simp [flX2] at h) (by omega) (by omega) dX6_init_53 ?_
  refine x_dup (pc := 56) hX rfl dX6_init_56 ?_
  refine x_callN (pc := 57) hX (tX2_init (o := 106) (kset_self _ _ _)) rfl lk_X6_40 rfl rfl (Nat.le_of_ble_eq_true rfl) (by decide) (by omega) (by omega) dX6_init_57 (fun r κ' M' hs' hp => ?_)
  obtain ⟨rfl, rfl, hx, hnew⟩ := hp
  refine x_putR (pc := 60) hX fl_X6_41 (show xO κ' (106 + 5) 0 (kO 6 [fR 1, fR 15, fR 101, fR 102, fR 103, fN, fN, fN]) from ⟨by omega, by rw [(hx 0 (by omega)).1, kset_ne _ _ (by omega)]; exact h0⟩) (Nat.le_of_ble_eq_true rfl) rfl rfl (fun _ => ⟨rfl, _, _, rfl⟩) dX6_init_60 ?_
  refine x_abs (hs := 111) (P := fun κ2 M2 => κ2 0 = kO 6 [fR 1, fR 15, fR 101, fR 102, fR 103, fR 106, fN, fN] ∧ KSt κ2 111 1 ∧ St M2 1 (fun _ => []) ∧ KHi κ2 111 15 ∧ Hi M2 15 [] ∧ κ2 101 = kQ 4 2 (fun _ => none) ∧ κ2 102 = kA 2 2 ∧ (∀ j, M2 102 j = 0) ∧ KCol κ2 111 103 ∧ κ2 106 = kO 2 [fR 107, fR 109, fR 110, fI, fI, fI, fI, fI, fI, fI] ∧ κ2 107 = kO 3 [fR 108, fI] ∧ κ2 108 = kA 1 80 ∧ κ2 109 = kA 0 40 ∧ κ2 110 = kA 0 40 ∧ (∀ j, M2 107 j = 0)) ⟨kset_self _ _ _, hA.rg (fun q h1 h2 => by rw [kset_ne _ _ (by omega), (hx q (by omega)).1, kset_ne _ _ (by omega)]) (by omega), hA2.rg (fun q h1 h2 => by rw [(hx q (by omega)).2, mset_ne _ _ (by omega)]), hB.rg (fun q h1 h2 => by rw [kset_ne _ _ (by omega), (hx q (by omega)).1, kset_ne _ _ (by omega)]) (by omega), (hB2.e15 (by rw [(hx 15 (by omega)).2, mset_ne _ _ (by omega)])), ((show _ = _ from by rw [kset_ne _ _ (by omega), (hx 101 (by omega)).1, kset_ne _ _ (by omega)]).trans hC), ((show _ = _ from by rw [kset_ne _ _ (by omega), (hx 102 (by omega)).1, kset_ne _ _ (by omega)]).trans hD), (fun j => (congrFun (show _ = _ from by rw [(hx 102 (by omega)).2, mset_ne _ _ (by omega)]) j).trans (hD2 j)), hE.rg (fun q h1 h2 => by rw [kset_ne _ _ (by omega), (hx q (by omega)).1, kset_ne _ _ (by omega)]) (by omega), (by rw [kset_ne _ _ (by omega)]; exact hnew.1.2), (by rw [kset_ne _ _ (by omega)]; exact hnew.2.1.2), (by rw [kset_ne _ _ (by omega)]; exact hnew.2.2.1.2), (by rw [kset_ne _ _ (by omega)]; exact hnew.2.2.2.1.2), (by rw [kset_ne _ _ (by omega)]; exact hnew.2.2.2.2.1.2), hnew.2.2.2.2.2⟩ (fun κ1 M1 hh => ?_)
  obtain ⟨h0, hA, hA2, hB, hB2, hC, hD, hD2, hE, hG, hF, hF1, hG1, hG2, hF2⟩ := hh
  refine x_aload_n (pc := 63) hX rfl rfl dX6_init_63 ?_
  refine x_aload_n (pc := 64) hX rfl rfl dX6_init_64 ?_
  refine x_getR (pc := 65) hX fl_X6_41 (show xO κ1 111 0 (kO 6 [fR 1, fR 15, fR 101, fR 102, fR 103, fR 106, fN, fN]) from ⟨by omega, h0⟩) rfl dX6_init_65 ?_
  refine x_cV_P (pc := 68) hX (tX2_pad ⟨⟨by omega, hF⟩, ⟨by omega, hF1⟩, ⟨by omega, hG⟩, ⟨by omega, hG1⟩, ⟨by omega, hG2⟩⟩) (show xO κ1 111 106 (kO 2 [fR 107, fR 109, fR 110, fI, fI, fI, fI, fI, fI, fI]) from ⟨by omega, hG⟩) rfl lk_X6_45 rfl rfl (Nat.le_of_ble_eq_true rfl) (by decide) (by omega) (by omega) dX6_init_68 ?_
  refine x_putR (pc := 71) hX fl_X6_49 (show xO κ1 111 0 (kO 6 [fR 1, fR 15, fR 101, fR 102, fR 103, fR 106, fN, fN]) from ⟨by omega, h0⟩) (Nat.le_of_ble_eq_true rfl) rfl rfl (fun _ => ⟨rfl, _, _, rfl⟩) dX6_init_71 ?_
  refine x_abs (hs := 111) (P := fun κ2 M2 => κ2 0 = kO 6 [fR 1, fR 15, fR 101, fR 102, fR 103, fR 106, fR 107, fN] ∧ KSt κ2 111 1 ∧ St M2 1 (fun _ => []) ∧ KHi κ2 111 15 ∧ Hi M2 15 [] ∧ κ2 101 = kQ 4 2 (fun _ => none) ∧ κ2 102 = kA 2 2 ∧ (∀ j, M2 102 j = 0) ∧ KCol κ2 111 103 ∧ κ2 106 = kO 2 [fR 107, fR 109, fR 110, fI, fI, fI, fI, fI, fI, fI] ∧ κ2 107 = kO 3 [fR 108, fI] ∧ κ2 108 = kA 1 80 ∧ κ2 109 = kA 0 40 ∧ κ2 110 = kA 0 40 ∧ (∀ j, M2 107 j = 0)) ⟨kset_self _ _ _, hA.rg (fun q h1 h2 => by rw [kset_ne _ _ (by omega)]) (by omega), hA2.rg (fun q h1 h2 => by rfl), hB.rg (fun q h1 h2 => by rw [kset_ne _ _ (by omega)]) (by omega), (hB2.e15 (by rfl)), ((show _ = _ from by rw [kset_ne _ _ (by omega)]).trans hC), ((show _ = _ from by rw [kset_ne _ _ (by omega)]).trans hD), (fun j => (congrFun (show _ = _ from by rfl) j).trans (hD2 j)), hE.rg (fun q h1 h2 => by rw [kset_ne _ _ (by omega)]) (by omega), ((show _ = _ from by rw [kset_ne _ _ (by omega)]).trans hG), ((show _ = _ from by rw [kset_ne _ _ (by omega)]).trans hF), ((show _ = _ from by rw [kset_ne _ _ (by omega)]).trans hF1), ((show _ = _ from by rw [kset_ne _ _ (by omega)]).trans hG1), ((show _ = _ from by rw [kset_ne _ _ (by omega)]).trans hG2), (fun j => (congrFun (show _ = _ from by rfl) j).trans (hF2 j))⟩ (fun κ1 M1 hh => ?_)
  obtain ⟨h0, hA, hA2, hB, hB2, hC, hD, hD2, hE, hG, hF, hF1, hG1, hG2, hF2⟩ := hh
  refine x_aload_n (pc := 74) hX rfl rfl dX6_init_74 ?_
  refine x_bipush (pc := 75) hX (by decide) dX6_init_75 ?_
  refine x_newa (pc := 77) (atype := .int) (t := 0) (N := 10) hX tw_108 rfl rfl rfl (fun C h => by cases h) rfl (by decide) (by decide) (by omega) (by omega) dX6_init_77 ?_
  refine x_putR (pc := 79) hX fl_X6_52 (show xO (kset κ1 111 (kA 0 10)) 112 0 (kO 6 [fR 1, fR 15, fR 101, fR 102, fR 103, fR 106, fR 107, fN]) from ⟨by omega, by rw [kset_ne _ _ (by omega)]; exact h0⟩) (Nat.le_of_ble_eq_true rfl) rfl rfl (fun _ => ⟨rfl, _, _, rfl⟩) dX6_init_79 ?_
  refine x_abs (hs := 112) (P := fun κ2 M2 => κ2 0 = kO 6 [fR 1, fR 15, fR 101, fR 102, fR 103, fR 106, fR 107, fR 111] ∧ KSt κ2 112 1 ∧ St M2 1 (fun _ => []) ∧ KHi κ2 112 15 ∧ Hi M2 15 [] ∧ κ2 101 = kQ 4 2 (fun _ => none) ∧ κ2 102 = kA 2 2 ∧ (∀ j, M2 102 j = 0) ∧ KCol κ2 112 103 ∧ κ2 106 = kO 2 [fR 107, fR 109, fR 110, fI, fI, fI, fI, fI, fI, fI] ∧ κ2 107 = kO 3 [fR 108, fI] ∧ κ2 108 = kA 1 80 ∧ κ2 109 = kA 0 40 ∧ κ2 110 = kA 0 40 ∧ (∀ j, M2 107 j = 0) ∧ κ2 111 = kA 0 10) ⟨kset_self _ _ _, hA.rg (fun q h1 h2 => by rw [kset_ne _ _ (by omega), kset_ne _ _ (by omega)]) (by omega), hA2.rg (fun q h1 h2 => by rw [mset_ne _ _ (by omega)]), hB.rg (fun q h1 h2 => by rw [kset_ne _ _ (by omega), kset_ne _ _ (by omega)]) (by omega), (hB2.e15 (by rw [mset_ne _ _ (by omega)])), ((show _ = _ from by rw [kset_ne _ _ (by omega), kset_ne _ _ (by omega)]).trans hC), ((show _ = _ from by rw [kset_ne _ _ (by omega), kset_ne _ _ (by omega)]).trans hD), (fun j => (congrFun (show _ = _ from by rw [mset_ne _ _ (by omega)]) j).trans (hD2 j)), hE.rg (fun q h1 h2 => by rw [kset_ne _ _ (by omega), kset_ne _ _ (by omega)]) (by omega), ((show _ = _ from by rw [kset_ne _ _ (by omega), kset_ne _ _ (by omega)]).trans hG), ((show _ = _ from by rw [kset_ne _ _ (by omega), kset_ne _ _ (by omega)]).trans hF), ((show _ = _ from by rw [kset_ne _ _ (by omega), kset_ne _ _ (by omega)]).trans hF1), ((show _ = _ from by rw [kset_ne _ _ (by omega), kset_ne _ _ (by omega)]).trans hG1), ((show _ = _ from by rw [kset_ne _ _ (by omega), kset_ne _ _ (by omega)]).trans hG2), (fun j => (congrFun (show _ = _ from by rw [mset_ne _ _ (by omega)]) j).trans (hF2 j)), (by rw [kset_ne _ _ (by omega)]; exact kset_self _ _ _)⟩ (fun κ1 M1 hh => ?_)
  obtain ⟨h0, hA, hA2, hB, hB2, hC, hD, hD2, hE, hG, hF, hF1, hG1, hG2, hF2, hH⟩ := hh
  have loop : ∀ (n i : Nat) (κ2 : XKs) (M2 : XM) (g : Nat → Option Nat), i ≤ 2 → 2 < i + n → (∀ q, q < 112 → q ≠ 101 → κ2 q = κ1 q ∧ M2 q = M1 q) → κ2 101 = kQ 4 2 g → (∀ j, j < i → g j = some (112 + 14 * j) ∧ KSt κ2 (112 + 14 * i) (112 + 14 * j)) → XW G X mX6_init (xq G (fun r κ' M' hs' => r = none ∧ hs' = 140 ∧ KX κ' 140 ∧ RX M' SX0) 139 3385 X) (111 + 14 * i) (2695 + 345 * i) 84 [some (xR 0), some (xI (i : Int))] [] κ2 M2 (112 + 14 * i) := by
    intro n
    induction n with
    | zero => intro i κ2 M2 g h1 h2; omega
    | succ n ih =>
      intro i κ2 M2 g h1 h2 hx2 hg hj2
      refine x_iload_n (pc := 84) hX rfl rfl dX6_init_84 ?_
      refine x_iconst (pc := 85) hX dX6_init_85 ?_
      refine x_icmp_ge (pc := 86) (tgt := 108) hX dX6_init_86 (by decide) (by omega) (fun h86 => ?_) (fun h86 => ?_)
      · refine x_vret (pc := 108) hX rfl (by omega) (by omega) dX6_init_108 ?_
        obtain rfl : i = 2 := by omega
        have ek : ∀ q, q < 112 → q ≠ 101 → κ2 q = κ1 q := fun q h1 h2 => (hx2 q h1 h2).1
        have em : ∀ q, q < 112 → q ≠ 101 → M2 q = M1 q := fun q h1 h2 => (hx2 q h1 h2).2
        refine ⟨rfl, rfl, ⟨⟨by omega, (ek 0 (by omega) (by omega)).trans h0⟩, hA.rg (fun q h1 h2 => ek q (by omega) (by omega)) (by omega), hB.rg (fun q h1 h2 => ek q (by omega) (by omega)) (by omega), ⟨g, ⟨by omega, hg⟩, fun j hj => (hj2 j hj).1⟩, ⟨by omega, (ek _ (by omega) (by omega)).trans hD⟩, hE.rg (fun q h1 h2 => ek q (by omega) (by omega)) (by omega), ⟨⟨by omega, (ek _ (by omega) (by omega)).trans hF⟩, ⟨by omega, (ek _ (by omega) (by omega)).trans hF1⟩, ⟨by omega, (ek _ (by omega) (by omega)).trans hG⟩, ⟨by omega, (ek _ (by omega) (by omega)).trans hG1⟩, ⟨by omega, (ek _ (by omega) (by omega)).trans hG2⟩⟩, ⟨by omega, (ek _ (by omega) (by omega)).trans hH⟩, fun j hj => (hj2 j hj).2⟩, hA2.rg (fun q h1 h2 => em q (by omega) (by omega)), hB2.e15 (em 15 (by omega) (by omega)), fun j hj => Or.inl ⟨(congrFun (em 102 (by omega) (by omega)) j).trans (hD2 j), rfl⟩, (congrFun (em 107 (by omega) (by omega)) 1).trans (hF2 1), by decide, fun j hj => absurd hj (Nat.not_lt_zero _), fun c hc => by cases hc⟩
      · have hi : i < 2 := by omega
        refine x_aload_n (pc := 89) hX rfl rfl dX6_init_89 ?_
        refine x_getR (pc := 90) hX fl_X6_23 (show xO κ2 (112 + 14 * i) 0 (kO 6 [fR 1, fR 15, fR 101, fR 102, fR 103, fR 106, fR 107, fR 111]) from ⟨by omega, ((hx2 0 (by omega) (by omega)).1).trans h0⟩) rfl dX6_init_90 ?_
        refine x_iload_n (pc := 93) hX rfl rfl dX6_init_93 ?_
        refine x_new (pc := 94) hX cl_X6_9 nfX5 (by intro o h; simp [flX5] at h) (by omega) (by omega) dX6_init_94 ?_
        refine x_dup (pc := 97) hX rfl dX6_init_97 ?_
        refine x_callI (pc := 98) hX (tX5_init (o := 112 + 14 * i) (kset_self _ _ _) (fun j => by rw [mset_self])) rfl lk_X6_11 rfl rfl (Nat.le_of_ble_eq_true rfl) (by decide) (by omega) (by omega) dX6_init_98 (fun r κ' M' hs' hp => ?_)
        obtain ⟨rfl, rfl, hxc, hKc, hCc⟩ := hp
        refine x_aast (pc := 101) (j := i) hX (show xO κ' (112 + 14 * i + 14) 101 (kQ 4 2 g) from ⟨by omega, by rw [(hxc _ (by omega)).1, kset_ne _ _ (by omega)]; exact hg⟩) rfl hKc.1 rfl (by omega) (by omega) (by decide) dX6_init_101 ?_
        refine x_iinc (pc := 102) (v := ((i + 1 : Nat) : Int)) hX dX6_init_102 rfl (by decide) rfl (by omega) rfl ?_
        refine x_goto (pc := 105) (tgt := 84) hX dX6_init_105 (by decide) ?_
        have ehs : 112 + 14 * i + 14 = 112 + 14 * (i + 1) := by omega
        rw [ehs] at hKc ⊢
        refine x_widen (k' := 111 + 14 * (i + 1)) (n' := 2695 + 345 * (i + 1)) (by omega) (by omega) (ih (i + 1) _ _ (va_up g i (some (112 + 14 * i))) (by omega) (by omega) (fun q hq hq2 => ⟨by rw [kset_ne _ _ (by omega), (hxc q (by omega)).1, kset_ne _ _ (by omega)]; exact (hx2 q hq hq2).1, by rw [(hxc q (by omega)).2, mset_ne _ _ (by omega)]; exact (hx2 q hq hq2).2⟩) (kset_self _ _ _) (fun j hj => ?_))
        by_cases e : j = i
        · subst e
          exact ⟨if_pos rfl, hKc.rg (fun q h1 h2 => kset_ne _ _ (by omega)) (Nat.le_refl _)⟩
        · have h9 := hj2 j (by omega)
          refine ⟨(if_neg e).trans h9.1, h9.2.rg (fun q h1 h2 => ?_) (by omega)⟩
          rw [kset_ne _ _ (by omega), (hxc q (by omega)).1, kset_ne _ _ (by omega)]
  refine x_iconst (pc := 82) hX dX6_init_82 ?_
  refine x_istore_n (pc := 83) hX rfl (by decide) rfl rfl dX6_init_83 ?_
  exact loop 3 0 κ1 M1 (fun _ => none) (by omega) (by omega) (fun q _ _ => ⟨rfl, rfl⟩) hC (fun j hj => absurd hj (Nat.not_lt_zero _))

