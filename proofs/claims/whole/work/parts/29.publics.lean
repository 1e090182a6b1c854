/-! JoinedRuns: what is called from outside -/
def pX (κ : XKs) (M : XM) (hs : Nat) (a : Int) (S' : Sx) : XP := fun r κ' M' hs' => r = some (xI a) ∧ (∀ q, q < hs → κ' q = κ q) ∧ hs ≤ hs' ∧ RX M' S' ∧ ∀ q, 140 ≤ q → q < hs → M' q = M q
theorem pX_p {κ : XKs} {M : XM} {hs : Nat} {a b : Int} {S : Sx} (h : b = a) (hS : RX M S) : pX κ M hs a S (some (xI b)) κ M hs := ⟨by rw [h], fun _ _ => rfl, Nat.le_refl _, hS, fun _ _ _ => rfl⟩
theorem pX_i {κ : XKs} {M M' : XM} {hs : Nat} {a b : Int} {S : Sx} (h : b = a) (hS : RX M' S) (hq : ∀ q, 140 ≤ q → M' q = M q) : pX κ M hs a S (some (xI b)) κ M' hs := ⟨by rw [h], fun _ _ => rfl, Nat.le_refl _, hS, fun q h1 _ => hq q h1⟩
theorem upC_eq {cs : Cs} {c : Nat} {l : List Nat} : upC cs c l c = l := if_pos rfl
theorem RX.agr {M M' : XM} {S : Sx} (h : RX M S) (hq : ∀ q, q < 140 → (q < 103 ∨ (107 ≤ q ∧ q < 109) ∨ 112 ≤ q) → M' q = M q) : RX M' S := by
  refine ⟨fun i hi => (h.1 i hi).congr (fun a h1 h2 => hq a (by omega) (by omega)), ?_, fun j hj => ?_, h.2.2.2.congr (hq _ (by omega) (by omega)) (hq _ (by omega) (by omega))⟩
  · obtain ⟨old, h1, h2, h3, h4, h5⟩ := h.2.1
    refine ⟨old, h1, by rw [hq 15 (by omega) (by omega)]; exact h2, by rw [hq 15 (by omega) (by omega)]; exact h3, h4, fun i hi j hj => (h5 i hi j hj).congr (fun a h6 h7 => hq a ?_ ?_)⟩
    · have := Nat.mod_lt (old + i) (show 0 < 6 by decide)
      omega
    · have := Nat.mod_lt (old + i) (show 0 < 6 by decide)
      omega
  · rw [hq 102 (by omega) (by omega)]
    rcases h.2.2.1 j hj with h | ⟨h, c, h1, h2⟩
    · exact Or.inl h
    · exact Or.inr ⟨h, c, h1, fun i hi => (h2 i hi).congr (fun a h3 h4 => hq a (by omega) (by omega))⟩
-- what the methods answer
def aRun (cs : Cs) (c k w : Int) : Int := if ¬ (0 ≤ c ∧ c < 4) then -1 else if ¬ (0 ≤ k ∧ k < (enc (cs c.toNat)).length) then -1 else if w = 0 then (rv (enc (cs c.toNat)) k.toNat : Int) else if w = 1 then (rn (enc (cs c.toNat)) k.toNat : Int) else if w = 2 then (tot ((enc (cs c.toNat)).take k.toNat) : Int) else -2
def aValue (cs : Cs) (c r : Int) : Int := if ¬ ((0 ≤ c ∧ c < 4) ∧ 0 ≤ r ∧ r < (cs c.toNat).length) then -1 else rvO (enc (cs c.toNat)) (rof (enc (cs c.toNat)) r.toNat)
def aFind (cs : Cs) (c v k : Int) : Int := if ¬ (0 ≤ c ∧ c < 4) then -1 else if ¬ ((0 ≤ v ∧ v ≤ 9) ∧ 0 ≤ k) then -2 else fRank v 0 k.toNat (enc (cs c.toNat))
def aOf (cs : Cs) (c w : Int) : Int := if ¬ (0 ≤ c ∧ c < 4) then -1 else if w = 0 then ((cs c.toNat).length : Int) else if w = 1 then ((enc (cs c.toNat)).length : Int) else if w = 2 then fSum 0 (enc (cs c.toNat)) else if w = 3 then fLong 0 (enc (cs c.toNat)) else if w = 4 then (fSet 0 (enc (cs c.toNat)) : Int) else if w = 5 then (if nFall (enc (cs c.toNat)) = true then 1 else 0) else if w = 6 then (if nRise (enc (cs c.toNat)) = true then 1 else 0) else -2
def aGroup (cs : Cs) (c v w : Int) : Int := if ¬ (0 ≤ c ∧ c < 4) then -1 else if ¬ (0 ≤ v ∧ v ≤ 9) then -2 else if w = 0 then fRows v 0 (enc (cs c.toNat)) else if w = 1 then fRuns v 0 (enc (cs c.toNat)) else if w = 2 then fLongOf v 0 (enc (cs c.toNat)) else -2
def aCount (S : Sx) (w : Int) : Int := if w = 0 then sumTo (fun i => ((S.1 i).length : Int)) 4 else if w = 1 then sumTo (fun i => ((enc (S.1 i)).length : Int)) 4 else if w = 2 then (S.2.2.2.length : Int) else if w = 3 then (S.2.1.length : Int) else -2
def aPairW (P : Rp) (p : Nat) (w : Int) : Int := match P[p]? with
  | none => -1
  | some x => if w = 0 then (x.1.1 : Int) else if w = 1 then (x.1.2 : Int) else if w = 2 then (x.2 : Int) else if w = 3 then (tot (P.take p) : Int) else -2
def aPair (cs : Cs) (a b p w : Int) : Int := if ¬ ((0 ≤ a ∧ a < 4) ∧ (0 ≤ b ∧ b < 4) ∧ 0 ≤ p ∧ p < 80) then -1 else aPairW (zr (enc (cs a.toNat)) (enc (cs b.toNat))) p.toNat w
def aJoined (cs : Cs) (a b w : Int) : Int := if ¬ ((0 ≤ a ∧ a < 4) ∧ 0 ≤ b ∧ b < 4) then -1 else if w = 0 then ((min (cs a.toNat).length (cs b.toNat).length : Nat) : Int) else if w = 1 then ((zr (enc (cs a.toNat)) (enc (cs b.toNat))).length : Int) else if w = 2 then gAl 0 (zr (enc (cs a.toNat)) (enc (cs b.toNat))) else if w = 3 then gSm 0 (zr (enc (cs a.toNat)) (enc (cs b.toNat))) else if w = 4 then sumTo (fun x => ((popT (gMk (fun _ => 0) (zr (enc (cs a.toNat)) (enc (cs b.toNat))) x) 10 : Nat) : Int)) 10 else -2
def aAlike (cs : Cs) (a b : Int) : Int := if ¬ ((0 ≤ a ∧ a < 4) ∧ 0 ≤ b ∧ b < 4) then -1 else sumTo (fun v => fRows (v : Int) 0 (enc (cs a.toNat)) * fRows (v : Int) 0 (enc (cs b.toNat))) 10
def aSaves (cs : Cs) (c : Int) : Int := if ¬ (0 ≤ c ∧ c < 4) then -1 else ((enc (cs c.toNat)).length : Int) - (popT (fSet 0 (enc (cs c.toNat))) 10 : Nat)
def aBest (cs : Cs) (c v w : Int) : Int := if ¬ (0 ≤ c ∧ c < 4) then -1 else if ¬ ((0 ≤ v ∧ v ≤ 9) ∧ 0 ≤ w ∧ w ≤ 1) then -2 else if (cs c.toNat).length = 0 then -6 else if w = 0 then ((fBest (enc (cs c.toNat)) v 0 (0, asets (enc (cs c.toNat)) 0 v) (enc (cs c.toNat))).1 : Int) else asets (enc (cs c.toNat)) (fBest (enc (cs c.toNat)) v 0 (0, asets (enc (cs c.toNat)) 0 v) (enc (cs c.toNat))).1 v
def sTurn (S : Sx) (c a : Int) : Int × Sx := if ¬ ((0 ≤ c ∧ c < 4) ∧ 0 ≤ a ∧ a < 4) then (-1, S) else sDo S c (.inr (S.1 a.toNat).reverse) (fun l => (l.length : Int))
def bytesD (n : Nat) : Nat → List Nat
  | 0 => []
  | k + 1 => (n / 256 ^ k % 256) :: bytesD n k
def sPut (S : Sx) (n : Nat) : Int × Sx := if chIn 8 n 0 < 1 then (-2, S) else if 80 - (S.2.2.2.length : Int) < chIn 8 n 0 then (-4, S) else ((S.2.2.2.length : Int) + chIn 8 n 0, S.1, S.2.1, S.2.2.1, S.2.2.2 ++ bytesD n (chIn 8 n 0).toNat)
def sWipe (S : Sx) : Int × Sx := ((S.2.2.2.length : Int), S.1, S.2.1, S.2.2.1, [])
def sCarry (S : Sx) : Int × Sx := if pFault S.2.2.2 80 0 ≠ -6 then (-3, S) else (((pExec S.2.2.2 80 S.1 0 0).2 : Int), (pExec S.2.2.2 80 S.1 0 0).1, pushH S.2.1 S.1, S.2.2.1, [])
def sUndo (S : Sx) : Int × Sx := if S.2.1.length = 0 then (-5, S) else ((S.2.1.dropLast.length : Int), S.2.1.getLastD (fun _ => []), S.2.1.dropLast, S.2.2.1, S.2.2.2)
def sSave (S : Sx) (i : Int) : Int × Sx := if ¬ (0 ≤ i ∧ i < 2) then (-2, S) else (sumTo (fun i => ((enc (S.1 i)).length : Int)) 4, S.1, S.2.1, fun j => if j = i.toNat then some S.1 else S.2.2.1 j, S.2.2.2)
def sRest (S : Sx) (i : Int) : Int × Sx := if ¬ (0 ≤ i ∧ i < 2) then (-2, S) else match S.2.2.1 i.toNat with
  | none => (-5, S)
  | some c => (sumTo (fun i => ((enc (c i)).length : Int)) 4, c, pushH S.2.1 S.1, S.2.2.1, S.2.2.2)
theorem chIn_rng : ∀ (f n : Nat) (m : Int), 0 ≤ m → chIn f n m = -2 ∨ (m ≤ chIn f n m ∧ chIn f n m ≤ m + f)
  | 0, n, m, hm => by
    rw [chIn]
    split
    · right; omega
    · left; rfl
  | f + 1, n, m, hm => by
    rw [chIn]
    split
    · split
      · right; omega
      · left; rfl
    · split
      · left; rfl
      · rcases chIn_rng f (n / 256) (m + 1) (by omega) with h | h
        · left; exact h
        · right; omega
theorem chIn_ok : ∀ (f n : Nat) (m : Int), 0 ≤ m → chIn f n m ≠ -2 → ∀ k : Nat, (k : Int) < chIn f n m - m → 33 ≤ n / 256 ^ k % 256 ∧ n / 256 ^ k % 256 ≤ 126
  | 0, n, m, hm, h, k, hk => by
    rw [chIn] at hk h
    split at hk
    · omega
    · rename_i e; rw [if_neg e] at h; exact absurd rfl h
  | f + 1, n, m, hm, h, k, hk => by
    rw [chIn] at hk h
    by_cases e1 : n % 256 = 0
    · rw [if_pos e1] at hk h
      by_cases e2 : n = 0
      · rw [if_pos e2] at hk; omega
      · rw [if_neg e2] at h; exact absurd rfl h
    · rw [if_neg e1] at hk h
      by_cases e2 : n % 256 < 33 ∨ 126 < n % 256
      · rw [if_pos e2] at h; exact absurd rfl h
      · rw [if_neg e2] at hk h
        cases k with
        | zero => rw [Nat.pow_zero, Nat.div_one]; omega
        | succ k =>
          have h2 := chIn_ok f (n / 256) (m + 1) (by omega) h k (by omega)
          rw [Nat.div_div_eq_div_mul, Nat.mul_comm, ← Nat.pow_succ] at h2
          exact h2
theorem xcmp64 {a b : Nat} (ha : a < 2 ^ 63) (hb : b < 2 ^ 63) : ∃ z : Int, lg_cmp (lN a) (lN b) = Int32.ofInt z ∧ (z < 0 ↔ a < b) ∧ (0 < z ↔ b < a) ∧ -1 ≤ z ∧ z ≤ 1 := by
  refine ⟨_, xlt64 ha hb, ?_⟩
  by_cases h1 : b < a
  · rw [if_pos h1]
    omega
  · rw [if_neg h1]
    by_cases h2 : a = b
    · rw [if_pos h2]
      omega
    · rw [if_neg h2]
      omega
theorem fSet_lt : ∀ (L : Ru) (a : Nat), a < 1024 → (∀ q ∈ L, q.1 ≤ 9) → fSet a L < 1024
  | [], a, ha, _ => ha
  | (v, n) :: t, a, ha, h => fSet_lt t _ (or_lt ha (h _ List.mem_cons_self)) (fun q hq => h q (List.mem_cons_of_mem _ hq))
theorem fBest_le (L : Ru) (v : Int) (N : Nat) : ∀ (t : Ru) (first : Nat) (q : Nat × Int), (∀ x ∈ t, 1 ≤ x.2) → first + tot t ≤ N → q.1 < N → (fBest L v first q t).1 < N
  | [], first, q, _, _, h => h
  | (w, n) :: t, first, q, hA, hN, h => by
    have h1 : 1 ≤ n := hA _ List.mem_cons_self
    rw [tot] at hN
    refine fBest_le L v N t _ _ (fun x hx => hA x (List.mem_cons_of_mem _ hx)) (by omega) ?_
    have hb : ∀ (r : Nat) (q : Nat × Int), r < N → q.1 < N → (best1 L v r q).1 < N := by
      intro r q h2 h3
      unfold best1
      split
      · exact h2
      · exact h3
    exact hb _ _ (by omega) (hb _ _ (by omega) h)
theorem fBest_lt {M : XM} {o : Nat} {l : List Nat} (hC : Col M o l) (h : 0 < l.length) (v : Int) : (fBest (enc l) v 0 (0, asets (enc l) 0 v) (enc l)).1 < l.length := fBest_le _ _ _ _ _ _ (can_enc l).2 (by rw [tot_enc]; omega) h
set_option maxHeartbeats 4000000 in
set_option maxRecDepth 100000 in
theorem tX6_charactersIn {G : XG} {κ : XKs} {M : XM} {hs : Nat} (a : Nat) (ha : a < 2 ^ 64) {R0 : Int} (hR0 : chIn 8 a 0 = R0) : XC G mX6_charactersIn 0 0 0 [xV (.long (lN a))] κ M hs (pP κ M hs (xI R0)) := by
  refine XC.intro cdX6_charactersIn (by decide) (by decide) (Nat.le_of_ble_eq_true rfl) (loc := [some (xV (.long (lN a))), none, none, none, none, none, none, none]) rfl (fun X hX => ?_)
  have loop : ∀ (n k f9 n0 : Nat) (mm : Int) (z : Option XV), k + f9 = 8 → 8 < k + n → n0 < 2 ^ 64 → chIn f9 n0 mm = R0 → XW G X mX6_charactersIn (xq G (pP κ M hs (xI R0)) 0 0 X) 0 0 8 [some (xV (.long (lN a))), none, some (xV (.long (lN n0))), none, some (xI mm), some (xI (k : Int)), z, none] [] κ M hs := by
    intro n
    induction n with
    | zero => intro k f9 n0 mm z h1 h2; omega
    | succ n ih =>
      intro k f9 n0 mm z h1 h2 hn0 hF
      refine x_iload (pc := 8) hX rfl dX6_charactersIn_8 ?_
      refine x_bipush (pc := 10) hX (by decide) dX6_charactersIn_10 ?_
      refine x_icmp_ge (pc := 12) (tgt := 67) hX dX6_charactersIn_12 (by decide) (by omega) (fun h12 => ?_) (fun h12 => ?_)
      · obtain rfl : f9 = 0 := by omega
        rw [chIn] at hF
        obtain ⟨z4, hz4, hz4e, hz4r⟩ := xeq64 hn0
        refine x_lload_n (pc := 67) hX rfl rfl dX6_charactersIn_67 ?_
        refine x_lconst (pc := 68) (z := 0) hX rfl dX6_charactersIn_68 ?_
        refine x_lcmp (pc := 69) hX hz4 dX6_charactersIn_69 ?_
        refine x_if_ne (pc := 70) (tgt := 78) hX dX6_charactersIn_70 (by decide) (by omega) (fun h70 => ?_) (fun h70 => ?_)
        · rw [if_neg (fun z => h70 (hz4e.mpr z))] at hF
          refine x_bipush (pc := 78) hX (by decide) dX6_charactersIn_78 ?_
          refine x_iret (pc := 80) hX rfl (Nat.zero_le _) (Nat.zero_le _) dX6_charactersIn_80 ?_
          exact pP_i (by rw [← hF])
        · rw [if_pos (hz4e.mp (by omega))] at hF
          refine x_iload (pc := 73) hX rfl dX6_charactersIn_73 ?_
          refine x_goto (pc := 75) (tgt := 80) hX dX6_charactersIn_75 (by decide) ?_
          refine x_iret (pc := 80) hX rfl (Nat.zero_le _) (Nat.zero_le _) dX6_charactersIn_80 ?_
          exact pP_i (by rw [← hF])
      · obtain ⟨f8, rfl⟩ : ∃ f8, f9 = f8 + 1 := ⟨f9 - 1, by omega⟩
        rw [chIn] at hF
        obtain ⟨z1, hz1, hz1e, hz1r⟩ := xeq64 (a := n0 % 256) (by omega)
        refine x_lload_n (pc := 15) hX rfl rfl dX6_charactersIn_15 ?_
        refine x_ldc2 (pc := 16) hX tw_573 dX6_charactersIn_16 ?_
        refine x_land (pc := 19) (v := lN (n0 % 256)) hX (xand255 hn0) dX6_charactersIn_19 ?_
        refine x_lconst (pc := 20) (z := 0) hX rfl dX6_charactersIn_20 ?_
        refine x_lcmp (pc := 21) hX hz1 dX6_charactersIn_21 ?_
        refine x_if_eq (pc := 22) (tgt := 67) hX dX6_charactersIn_22 (by decide) (by omega) (fun h22 => ?_) (fun h22 => ?_)
        · have hm0 : n0 % 256 = 0 := hz1e.mp h22
          rw [if_pos hm0] at hF
          obtain ⟨z4, hz4, hz4e, hz4r⟩ := xeq64 hn0
          refine x_lload_n (pc := 67) hX rfl rfl dX6_charactersIn_67 ?_
          refine x_lconst (pc := 68) (z := 0) hX rfl dX6_charactersIn_68 ?_
          refine x_lcmp (pc := 69) hX hz4 dX6_charactersIn_69 ?_
          refine x_if_ne (pc := 70) (tgt := 78) hX dX6_charactersIn_70 (by decide) (by omega) (fun h70 => ?_) (fun h70 => ?_)
          · rw [if_neg (fun z => h70 (hz4e.mpr z))] at hF
            refine x_bipush (pc := 78) hX (by decide) dX6_charactersIn_78 ?_
            refine x_iret (pc := 80) hX rfl (Nat.zero_le _) (Nat.zero_le _) dX6_charactersIn_80 ?_
            exact pP_i (by rw [← hF])
          · rw [if_pos (hz4e.mp (by omega))] at hF
            refine x_iload (pc := 73) hX rfl dX6_charactersIn_73 ?_
            refine x_goto (pc := 75) (tgt := 80) hX dX6_charactersIn_75 (by decide) ?_
            refine x_iret (pc := 80) hX rfl (Nat.zero_le _) (Nat.zero_le _) dX6_charactersIn_80 ?_
            exact pP_i (by rw [← hF])
        · have hm0 : ¬ n0 % 256 = 0 := fun z => h22 (hz1e.mpr z)
          rw [if_neg hm0] at hF
          obtain ⟨z2, hz2, hz2a, hz2b, hz2r⟩ := xcmp64 (a := n0 % 256) (b := 33) (by omega) (by omega)
          obtain ⟨z3, hz3, hz3a, hz3b, hz3r⟩ := xcmp64 (a := n0 % 256) (b := 126) (by omega) (by omega)
          refine x_lload_n (pc := 25) hX rfl rfl dX6_charactersIn_25 ?_
          refine x_ldc2 (pc := 26) hX tw_573 dX6_charactersIn_26 ?_
          refine x_land (pc := 29) (v := lN (n0 % 256)) hX (xand255 hn0) dX6_charactersIn_29 ?_
          refine x_lstore (pc := 30) hX (by decide) rfl rfl dX6_charactersIn_30 ?_
          refine x_lload (pc := 32) hX rfl dX6_charactersIn_32 ?_
          refine x_ldc2 (pc := 34) hX tw_574 dX6_charactersIn_34 ?_
          refine x_lcmp (pc := 37) hX hz2 dX6_charactersIn_37 ?_
          refine x_if_lt (pc := 38) (tgt := 50) hX dX6_charactersIn_38 (by decide) (by omega) (fun h38 => ?_) (fun h38 => ?_)
          · refine x_bipush (pc := 50) hX (by decide) dX6_charactersIn_50 ?_
            rw [if_pos (by omega)] at hF
            refine x_iret (pc := 52) hX rfl (Nat.zero_le _) (Nat.zero_le _) dX6_charactersIn_52 ?_
            exact pP_i (by rw [← hF])
          · refine x_lload (pc := 41) hX rfl dX6_charactersIn_41 ?_
            refine x_ldc2 (pc := 43) hX tw_575 dX6_charactersIn_43 ?_
            refine x_lcmp (pc := 46) hX hz3 dX6_charactersIn_46 ?_
            refine x_if_le (pc := 47) (tgt := 53) hX dX6_charactersIn_47 (by decide) (by omega) (fun h47 => ?_) (fun h47 => ?_)
            · rw [if_neg (by omega)] at hF
              refine x_iinc (pc := 53) hX dX6_charactersIn_53 rfl (by decide) rfl rfl rfl ?_
              refine x_lload_n (pc := 56) hX rfl rfl dX6_charactersIn_56 ?_
              refine x_bipush (pc := 57) hX (by decide) dX6_charactersIn_57 ?_
              refine x_lushr (pc := 59) (v := lN (n0 / 256)) hX (by have h := xshr8 (n := n0) 1 hn0 (by decide); rw [Nat.pow_one] at h; exact h) dX6_charactersIn_59 ?_
              refine x_lstore_n (pc := 60) hX rfl (by decide) rfl rfl dX6_charactersIn_60 ?_
              refine x_iinc (pc := 61) (v := ((k + 1 : Nat) : Int)) hX dX6_charactersIn_61 rfl (by decide) rfl (by omega) rfl ?_
              refine x_goto (pc := 64) (tgt := 8) hX dX6_charactersIn_64 (by decide) ?_
              exact ih (k + 1) f8 (n0 / 256) (mm + 1) _ (by omega) (by omega) (by omega) hF
            · refine x_bipush (pc := 50) hX (by decide) dX6_charactersIn_50 ?_
              rw [if_pos (by omega)] at hF
              refine x_iret (pc := 52) hX rfl (Nat.zero_le _) (Nat.zero_le _) dX6_charactersIn_52 ?_
              exact pP_i (by rw [← hF])
  refine x_lload_n (pc := 0) hX rfl rfl dX6_charactersIn_0 ?_
  refine x_lstore_n (pc := 1) hX rfl (by decide) rfl rfl dX6_charactersIn_1 ?_
  refine x_iconst (pc := 2) hX dX6_charactersIn_2 ?_
  refine x_istore (pc := 3) hX (by decide) rfl rfl dX6_charactersIn_3 ?_
  refine x_iconst (pc := 5) hX dX6_charactersIn_5 ?_
  refine x_istore (pc := 6) hX (by decide) rfl rfl dX6_charactersIn_6 ?_
  exact loop 9 0 8 a 0 none (by omega) (by omega) ha hR0

theorem dApp_ne {cs : Cs} {c v n e : Int} (h : dApp cs c v n = .inl e) : -6 ≤ e ∧ e < 0 := by
  unfold dApp at h
  repeat' split at h
  all_goals first | (cases h; decide) | exact dFin_ne h | cases h
theorem dApp_col {cs : Cs} {c v n : Int} {l : List Nat} (h : dApp cs c v n = .inr l) : 0 ≤ c ∧ c < 4 := by
  unfold dApp at h
  by_cases z : 0 ≤ c ∧ c < 4
  · exact z
  · rw [if_pos (by omega)] at h
    cases h
theorem dIns_ne {cs : Cs} {c r v n e : Int} (h : dIns cs c r v n = .inl e) : -6 ≤ e ∧ e < 0 := by
  unfold dIns at h
  repeat' split at h
  all_goals first | (cases h; decide) | exact dFin_ne h | cases h
theorem dIns_col {cs : Cs} {c r v n : Int} {l : List Nat} (h : dIns cs c r v n = .inr l) : 0 ≤ c ∧ c < 4 := by
  unfold dIns at h
  by_cases z : 0 ≤ c ∧ c < 4
  · exact z
  · rw [if_pos (by omega)] at h
    cases h
theorem dMrg_ne {cs : Cs} {c a b w e : Int} (h : dMrg cs c a b w = .inl e) : -6 ≤ e ∧ e < 0 := by
  unfold dMrg at h
  repeat' split at h
  all_goals first | (cases h; decide) | exact dFin_ne h | cases h
theorem dMrg_col {cs : Cs} {c a b w : Int} {l : List Nat} (h : dMrg cs c a b w = .inr l) : 0 ≤ c ∧ c < 4 := by
  unfold dMrg at h
  by_cases z : 0 ≤ c ∧ c < 4
  · exact z
  · rw [if_pos (by omega)] at h
    cases h
theorem dRem_col {cs : Cs} {c r n : Int} {l : List Nat} (h : dRem cs c r n = .inr l) : 0 ≤ c ∧ c < 4 := by
  unfold dRem at h
  by_cases z : 0 ≤ c ∧ c < 4
  · exact z
  · rw [if_pos (fun y => z y.1)] at h
    cases h
theorem dSet_col {cs : Cs} {c r v : Int} {l : List Nat} (h : dSet cs c r v = .inr l) : (0 ≤ c ∧ c < 4) ∧ 0 ≤ r ∧ r < (cs c.toNat).length := by
  unfold dSet at h
  by_cases z : (0 ≤ c ∧ c < 4) ∧ 0 ≤ r ∧ r < (cs c.toNat).length
  · exact z
  · rw [if_pos z] at h
    cases h
theorem dSort_col {cs : Cs} {c : Int} {l : List Nat} (h : dSort cs c = .inr l) : 0 ≤ c ∧ c < 4 := by
  unfold dSort at h
  by_cases z : 0 ≤ c ∧ c < 4
  · exact z
  · rw [if_pos z] at h
    cases h
set_option maxHeartbeats 4000000 in
set_option maxRecDepth 100000 in
theorem tX6_append {G : XG} {κ : XKs} {M : XM} {hs : Nat} (hK : KX κ hs) {S : Sx} (hS : RX M S) (c v n : Int) (hc : InR c) (hv : InR v) (hn : InR n) {dd : Int ⊕ List Nat} (hdd : dApp S.1 c v n = dd) {R : Int × Sx} (hR : sDo S c dd (fun l => (l.length : Int)) = R) (hh : 151 ≤ hs) : XC G mX6_append 5 0 0 [xR 0, xI c, xI v, xI n] κ M hs (pX κ M hs R.1 R.2) := by
  refine XC.intro cdX6_append (by decide) (by decide) (Nat.le_of_ble_eq_true rfl) (loc := [some (xR 0), some (xI c), some (xI v), some (xI n), none]) rfl (fun X hX => ?_)
  have hc0 := hc
  have hv0 := hv
  have hn0 := hn
  unfold InR at hc0 hv0 hn0
  refine x_aload_n (pc := 0) hX rfl rfl dX6_append_0 ?_
  refine x_iload_n (pc := 1) hX rfl rfl dX6_append_1 ?_
  refine x_iload_n (pc := 2) hX rfl rfl dX6_append_2 ?_
  refine x_iload_n (pc := 3) hX rfl rfl dX6_append_3 ?_
  refine x_cV_I (pc := 4) hX (tX6_draftAppend hK hS c v n hc hv hn hdd) hK.1 rfl lk_X6_56 rfl rfl (Nat.le_of_ble_eq_true rfl) (by decide) (Nat.zero_le _) (Nat.zero_le _) dX6_append_4 (fun a9 M1 hp => ?_)
  obtain ⟨hq1, he1, hl1⟩ := hp
  have hR1 := hS.same hq1 (by omega)
  by_cases hin : ∃ e, dd = .inl e
  · obtain ⟨e, rfl⟩ := hin
    obtain rfl := he1 e rfl
    have hne := dApp_ne hdd
    obtain rfl : (a9, S) = R := hR
    refine x_istore (pc := 7) hX (by decide) rfl rfl dX6_append_7 ?_
    refine x_iload (pc := 9) hX rfl dX6_append_9 ?_
    refine x_if_eq (pc := 11) (tgt := 17) hX dX6_append_11 (by decide) (by omega) (fun h11 => ?_) (fun h11 => ?_)
    · exfalso; omega
    · refine x_iload (pc := 14) hX rfl dX6_append_14 ?_
      refine x_iret (pc := 16) hX rfl (Nat.zero_le _) (Nat.zero_le _) dX6_append_16 ?_
      exact pX_i rfl hR1 (fun q h1 => hq1 q (by omega))
  · obtain ⟨l, rfl⟩ : ∃ l, dd = .inr l := by
      cases dd with
      | inl e => exact absurd ⟨e, rfl⟩ hin
      | inr l => exact ⟨l, rfl⟩
    obtain ⟨rfl, hC1⟩ := hl1 l rfl
    have hcc := dApp_col hdd
    refine x_istore (pc := 7) hX (by decide) rfl rfl dX6_append_7 ?_
    refine x_iload (pc := 9) hX rfl dX6_append_9 ?_
    refine x_if_eq (pc := 11) (tgt := 17) hX dX6_append_11 (by decide) (by omega) (fun h11 => ?_) (fun h11 => ?_)
    · refine x_aload_n (pc := 17) hX rfl rfl dX6_append_17 ?_
      refine x_iload_n (pc := 18) hX rfl rfl dX6_append_18 ?_
      refine x_top (congrArg xI (show c = ((c.toNat : Nat) : Int) by omega)) ?_
      refine x_cV_V (pc := 19) hX (tX6_recordAndTakeDraft hK hR1 hC1 c.toNat (by omega)) hK.1 rfl lk_X6_60 rfl rfl (Nat.le_of_ble_eq_true rfl) (by decide) (Nat.zero_le _) (Nat.zero_le _) dX6_append_19 (fun M2 hp => ?_)
      obtain ⟨hR2, hq2⟩ := hp
      have hc2 := hR2.ok (i := c.toNat) (by omega)
      rw [show (upC S.1 c.toNat l, pushH S.2.1 S.1, S.2.2.1, S.2.2.2).1 c.toNat = l from upC_eq] at hc2
      have hKc := hK.col (i := c.toNat) (by omega)
      refine x_aload_n (pc := 22) hX rfl rfl dX6_append_22 ?_
      refine x_getR (pc := 23) hX fl_X6_12 hK.1 rfl dX6_append_23 ?_
      refine x_iload_n (pc := 26) hX rfl rfl dX6_append_26 ?_
      refine x_top (congrArg xI (show c = ((c.toNat : Nat) : Int) by omega)) ?_
      refine x_cV_P (pc := 27) hX (tX5_column hK.2.1 c.toNat (by omega)) hK.2.1.1 rfl lk_X6_64 rfl rfl (Nat.le_of_ble_eq_true rfl) (by decide) (Nat.zero_le _) (Nat.zero_le _) dX6_append_27 ?_
      refine x_top (congrArg xR (show 1 + 2 + 3 * c.toNat = 3 + 3 * c.toNat by omega)) ?_
      refine x_cV_P (pc := 30) hX (tX0_rows hKc hc2) hKc.1 rfl lk_X6_68 rfl rfl (Nat.le_of_ble_eq_true rfl) (by decide) (Nat.zero_le _) (Nat.zero_le _) dX6_append_30 ?_
      refine x_iret (pc := 33) hX rfl (Nat.zero_le _) (Nat.zero_le _) dX6_append_33 ?_
      obtain rfl := hR
      exact pX_i rfl hR2 (fun q h1 => (hq2 q (by omega)).trans (hq1 q (by omega)))
    · exfalso; omega

set_option maxHeartbeats 4000000 in
set_option maxRecDepth 100000 in
theorem tX6_insert {G : XG} {κ : XKs} {M : XM} {hs : Nat} (hK : KX κ hs) {S : Sx} (hS : RX M S) (c r v n : Int) (hc : InR c) (hr : InR r) (hv : InR v) (hn : InR n) {dd : Int ⊕ List Nat} (hdd : dIns S.1 c r v n = dd) {R : Int × Sx} (hR : sDo S c dd (fun l => ((enc l).length : Int)) = R) (hh : 151 ≤ hs) : XC G mX6_insert 5 0 0 [xR 0, xI c, xI r, xI v, xI n] κ M hs (pX κ M hs R.1 R.2) := by
  refine XC.intro cdX6_insert (by decide) (by decide) (Nat.le_of_ble_eq_true rfl) (loc := [some (xR 0), some (xI c), some (xI r), some (xI v), some (xI n), none]) rfl (fun X hX => ?_)
  have hc0 := hc
  have hr0 := hr
  have hv0 := hv
  have hn0 := hn
  unfold InR at hc0 hr0 hv0 hn0
  refine x_aload_n (pc := 0) hX rfl rfl dX6_insert_0 ?_
  refine x_iload_n (pc := 1) hX rfl rfl dX6_insert_1 ?_
  refine x_iload_n (pc := 2) hX rfl rfl dX6_insert_2 ?_
  refine x_iload_n (pc := 3) hX rfl rfl dX6_insert_3 ?_
  refine x_iload (pc := 4) hX rfl dX6_insert_4 ?_
  refine x_cV_I (pc := 6) hX (tX6_draftInsert hK hS c r v n hc hr hv hn hdd) hK.1 rfl lk_X6_72 rfl rfl (Nat.le_of_ble_eq_true rfl) (by decide) (Nat.zero_le _) (Nat.zero_le _) dX6_insert_6 (fun a9 M1 hp => ?_)
  obtain ⟨hq1, he1, hl1⟩ := hp
  have hR1 := hS.same hq1 (by omega)
  by_cases hin : ∃ e, dd = .inl e
  · obtain ⟨e, rfl⟩ := hin
    obtain rfl := he1 e rfl
    have hne := dIns_ne hdd
    obtain rfl : (a9, S) = R := hR
    refine x_istore (pc := 9) hX (by decide) rfl rfl dX6_insert_9 ?_
    refine x_iload (pc := 11) hX rfl dX6_insert_11 ?_
    refine x_if_eq (pc := 13) (tgt := 19) hX dX6_insert_13 (by decide) (by omega) (fun h13 => ?_) (fun h13 => ?_)
    · exfalso; omega
    · refine x_iload (pc := 16) hX rfl dX6_insert_16 ?_
      refine x_iret (pc := 18) hX rfl (Nat.zero_le _) (Nat.zero_le _) dX6_insert_18 ?_
      exact pX_i rfl hR1 (fun q h1 => hq1 q (by omega))
  · obtain ⟨l, rfl⟩ : ∃ l, dd = .inr l := by
      cases dd with
      | inl e => exact absurd ⟨e, rfl⟩ hin
      | inr l => exact ⟨l, rfl⟩
    obtain ⟨rfl, hC1⟩ := hl1 l rfl
    have hcc := dIns_col hdd
    refine x_istore (pc := 9) hX (by decide) rfl rfl dX6_insert_9 ?_
    refine x_iload (pc := 11) hX rfl dX6_insert_11 ?_
    refine x_if_eq (pc := 13) (tgt := 19) hX dX6_insert_13 (by decide) (by omega) (fun h13 => ?_) (fun h13 => ?_)
    · refine x_aload_n (pc := 19) hX rfl rfl dX6_insert_19 ?_
      refine x_iload_n (pc := 20) hX rfl rfl dX6_insert_20 ?_
      refine x_top (congrArg xI (show c = ((c.toNat : Nat) : Int) by omega)) ?_
      refine x_cV_V (pc := 21) hX (tX6_recordAndTakeDraft hK hR1 hC1 c.toNat (by omega)) hK.1 rfl lk_X6_60 rfl rfl (Nat.le_of_ble_eq_true rfl) (by decide) (Nat.zero_le _) (Nat.zero_le _) dX6_insert_21 (fun M2 hp => ?_)
      obtain ⟨hR2, hq2⟩ := hp
      have hc2 := hR2.ok (i := c.toNat) (by omega)
      rw [show (upC S.1 c.toNat l, pushH S.2.1 S.1, S.2.2.1, S.2.2.2).1 c.toNat = l from upC_eq] at hc2
      have hKc := hK.col (i := c.toNat) (by omega)
      refine x_aload_n (pc := 24) hX rfl rfl dX6_insert_24 ?_
      refine x_getR (pc := 25) hX fl_X6_12 hK.1 rfl dX6_insert_25 ?_
      refine x_iload_n (pc := 28) hX rfl rfl dX6_insert_28 ?_
      refine x_top (congrArg xI (show c = ((c.toNat : Nat) : Int) by omega)) ?_
      refine x_cV_P (pc := 29) hX (tX5_column hK.2.1 c.toNat (by omega)) hK.2.1.1 rfl lk_X6_64 rfl rfl (Nat.le_of_ble_eq_true rfl) (by decide) (Nat.zero_le _) (Nat.zero_le _) dX6_insert_29 ?_
      refine x_top (congrArg xR (show 1 + 2 + 3 * c.toNat = 3 + 3 * c.toNat by omega)) ?_
      refine x_cV_P (pc := 32) hX (tX0_runs hKc hc2) hKc.1 rfl lk_X6_76 rfl rfl (Nat.le_of_ble_eq_true rfl) (by decide) (Nat.zero_le _) (Nat.zero_le _) dX6_insert_32 ?_
      refine x_iret (pc := 35) hX rfl (Nat.zero_le _) (Nat.zero_le _) dX6_insert_35 ?_
      obtain rfl := hR
      exact pX_i rfl hR2 (fun q h1 => (hq2 q (by omega)).trans (hq1 q (by omega)))
    · exfalso; omega

set_option maxHeartbeats 4000000 in
set_option maxRecDepth 100000 in
theorem tX6_remove {G : XG} {κ : XKs} {M : XM} {hs : Nat} (hK : KX κ hs) {S : Sx} (hS : RX M S) (c r n : Int) (hc : InR c) (hr : InR r) (hn : InR n) {dd : Int ⊕ List Nat} (hdd : dRem S.1 c r n = dd) {R : Int × Sx} (hR : sDo S c dd (fun l => ((enc l).length : Int)) = R) (hh : 151 ≤ hs) : XC G mX6_remove 5 0 0 [xR 0, xI c, xI r, xI n] κ M hs (pX κ M hs R.1 R.2) := by
  refine XC.intro cdX6_remove (by decide) (by decide) (Nat.le_of_ble_eq_true rfl) (loc := [some (xR 0), some (xI c), some (xI r), some (xI n), none]) rfl (fun X hX => ?_)
  have hc0 := hc
  have hr0 := hr
  have hn0 := hn
  unfold InR at hc0 hr0 hn0
  refine x_aload_n (pc := 0) hX rfl rfl dX6_remove_0 ?_
  refine x_iload_n (pc := 1) hX rfl rfl dX6_remove_1 ?_
  refine x_iload_n (pc := 2) hX rfl rfl dX6_remove_2 ?_
  refine x_iload_n (pc := 3) hX rfl rfl dX6_remove_3 ?_
  refine x_cV_I (pc := 4) hX (tX6_draftRemove hK hS c r n hc hr hn hdd) hK.1 rfl lk_X6_79 rfl rfl (Nat.le_of_ble_eq_true rfl) (by decide) (Nat.zero_le _) (Nat.zero_le _) dX6_remove_4 (fun a9 M1 hp => ?_)
  obtain ⟨hq1, he1, hl1⟩ := hp
  have hR1 := hS.same hq1 (by omega)
  by_cases hin : ∃ e, dd = .inl e
  · obtain ⟨e, rfl⟩ := hin
    obtain rfl := he1 e rfl
    have hne := dRem_ne hdd
    obtain rfl : (a9, S) = R := hR
    refine x_istore (pc := 7) hX (by decide) rfl rfl dX6_remove_7 ?_
    refine x_iload (pc := 9) hX rfl dX6_remove_9 ?_
    refine x_if_eq (pc := 11) (tgt := 17) hX dX6_remove_11 (by decide) (by omega) (fun h11 => ?_) (fun h11 => ?_)
    · exfalso; omega
    · refine x_iload (pc := 14) hX rfl dX6_remove_14 ?_
      refine x_iret (pc := 16) hX rfl (Nat.zero_le _) (Nat.zero_le _) dX6_remove_16 ?_
      exact pX_i rfl hR1 (fun q h1 => hq1 q (by omega))
  · obtain ⟨l, rfl⟩ : ∃ l, dd = .inr l := by
      cases dd with
      | inl e => exact absurd ⟨e, rfl⟩ hin
      | inr l => exact ⟨l, rfl⟩
    obtain ⟨rfl, hC1⟩ := hl1 l rfl
    have hcc := dRem_col hdd
    refine x_istore (pc := 7) hX (by decide) rfl rfl dX6_remove_7 ?_
    refine x_iload (pc := 9) hX rfl dX6_remove_9 ?_
    refine x_if_eq (pc := 11) (tgt := 17) hX dX6_remove_11 (by decide) (by omega) (fun h11 => ?_) (fun h11 => ?_)
    · refine x_aload_n (pc := 17) hX rfl rfl dX6_remove_17 ?_
      refine x_iload_n (pc := 18) hX rfl rfl dX6_remove_18 ?_
      refine x_top (congrArg xI (show c = ((c.toNat : Nat) : Int) by omega)) ?_
      refine x_cV_V (pc := 19) hX (tX6_recordAndTakeDraft hK hR1 hC1 c.toNat (by omega)) hK.1 rfl lk_X6_60 rfl rfl (Nat.le_of_ble_eq_true rfl) (by decide) (Nat.zero_le _) (Nat.zero_le _) dX6_remove_19 (fun M2 hp => ?_)
      obtain ⟨hR2, hq2⟩ := hp
      have hc2 := hR2.ok (i := c.toNat) (by omega)
      rw [show (upC S.1 c.toNat l, pushH S.2.1 S.1, S.2.2.1, S.2.2.2).1 c.toNat = l from upC_eq] at hc2
      have hKc := hK.col (i := c.toNat) (by omega)
      refine x_aload_n (pc := 22) hX rfl rfl dX6_remove_22 ?_
      refine x_getR (pc := 23) hX fl_X6_12 hK.1 rfl dX6_remove_23 ?_
      refine x_iload_n (pc := 26) hX rfl rfl dX6_remove_26 ?_
      refine x_top (congrArg xI (show c = ((c.toNat : Nat) : Int) by omega)) ?_
      refine x_cV_P (pc := 27) hX (tX5_column hK.2.1 c.toNat (by omega)) hK.2.1.1 rfl lk_X6_64 rfl rfl (Nat.le_of_ble_eq_true rfl) (by decide) (Nat.zero_le _) (Nat.zero_le _) dX6_remove_27 ?_
      refine x_top (congrArg xR (show 1 + 2 + 3 * c.toNat = 3 + 3 * c.toNat by omega)) ?_
      refine x_cV_P (pc := 30) hX (tX0_runs hKc hc2) hKc.1 rfl lk_X6_76 rfl rfl (Nat.le_of_ble_eq_true rfl) (by decide) (Nat.zero_le _) (Nat.zero_le _) dX6_remove_30 ?_
      refine x_iret (pc := 33) hX rfl (Nat.zero_le _) (Nat.zero_le _) dX6_remove_33 ?_
      obtain rfl := hR
      exact pX_i rfl hR2 (fun q h1 => (hq2 q (by omega)).trans (hq1 q (by omega)))
    · exfalso; omega

set_option maxHeartbeats 4000000 in
set_option maxRecDepth 100000 in
theorem tX6_set {G : XG} {κ : XKs} {M : XM} {hs : Nat} (hK : KX κ hs) {S : Sx} (hS : RX M S) (c r v : Int) (hc : InR c) (hr : InR r) (hv : InR v) {dd : Int ⊕ List Nat} (hdd : dSet S.1 c r v = dd) {R : Int × Sx} (hR : sDo S c dd (fun _ => rvO (enc (S.1 c.toNat)) (rof (enc (S.1 c.toNat)) r.toNat)) = R) (hh : 151 ≤ hs) : XC G mX6_set 5 0 0 [xR 0, xI c, xI r, xI v] κ M hs (pX κ M hs R.1 R.2) := by
  refine XC.intro cdX6_set (by decide) (by decide) (Nat.le_of_ble_eq_true rfl) (loc := [some (xR 0), some (xI c), some (xI r), some (xI v), none, none]) rfl (fun X hX => ?_)
  have hc0 := hc
  have hr0 := hr
  have hv0 := hv
  unfold InR at hc0 hr0 hv0
  refine x_aload_n (pc := 0) hX rfl rfl dX6_set_0 ?_
  refine x_iload_n (pc := 1) hX rfl rfl dX6_set_1 ?_
  refine x_iload_n (pc := 2) hX rfl rfl dX6_set_2 ?_
  refine x_iload_n (pc := 3) hX rfl rfl dX6_set_3 ?_
  refine x_cV_I (pc := 4) hX (tX6_draftSet hK hS c r v hc hr hv hdd) hK.1 rfl lk_X6_82 rfl rfl (Nat.le_of_ble_eq_true rfl) (by decide) (Nat.zero_le _) (Nat.zero_le _) dX6_set_4 (fun a9 M1 hp => ?_)
  obtain ⟨hq1, he1, hl1⟩ := hp
  have hR1 := hS.same hq1 (by omega)
  by_cases hin : ∃ e, dd = .inl e
  · obtain ⟨e, rfl⟩ := hin
    obtain rfl := he1 e rfl
    have hne := dSet_ne hdd
    obtain rfl : (a9, S) = R := hR
    refine x_istore (pc := 7) hX (by decide) rfl rfl dX6_set_7 ?_
    refine x_iload (pc := 9) hX rfl dX6_set_9 ?_
    refine x_if_eq (pc := 11) (tgt := 17) hX dX6_set_11 (by decide) (by omega) (fun h11 => ?_) (fun h11 => ?_)
    · exfalso; omega
    · refine x_iload (pc := 14) hX rfl dX6_set_14 ?_
      refine x_iret (pc := 16) hX rfl (Nat.zero_le _) (Nat.zero_le _) dX6_set_16 ?_
      exact pX_i rfl hR1 (fun q h1 => hq1 q (by omega))
  · obtain ⟨l, rfl⟩ : ∃ l, dd = .inr l := by
      cases dd with
      | inl e => exact absurd ⟨e, rfl⟩ hin
      | inr l => exact ⟨l, rfl⟩
    obtain ⟨rfl, hC1⟩ := hl1 l rfl
    have hcc := dSet_col hdd
    refine x_istore (pc := 7) hX (by decide) rfl rfl dX6_set_7 ?_
    refine x_iload (pc := 9) hX rfl dX6_set_9 ?_
    refine x_if_eq (pc := 11) (tgt := 17) hX dX6_set_11 (by decide) (by omega) (fun h11 => ?_) (fun h11 => ?_)
    · refine x_aload_n (pc := 17) hX rfl rfl dX6_set_17 ?_
      refine x_getR (pc := 18) hX fl_X6_12 hK.1 rfl dX6_set_18 ?_
      refine x_iload_n (pc := 21) hX rfl rfl dX6_set_21 ?_
      refine x_top (congrArg xI (show c = ((c.toNat : Nat) : Int) by omega)) ?_
      refine x_cV_P (pc := 22) hX (tX5_column hK.2.1 c.toNat (by omega)) hK.2.1.1 rfl lk_X6_64 rfl rfl (Nat.le_of_ble_eq_true rfl) (by decide) (Nat.zero_le _) (Nat.zero_le _) dX6_set_22 ?_
      refine x_top (congrArg xR (show 1 + 2 + 3 * c.toNat = 3 + 3 * c.toNat by omega)) ?_
      refine x_iload_n (pc := 25) hX rfl rfl dX6_set_25 ?_
      refine x_top (congrArg xI (show r = ((r.toNat : Nat) : Int) by omega)) ?_
      refine x_cV_P (pc := 26) hX (tX0_valueOfRow (hK.col (i := c.toNat) (by omega)) (hR1.ok (i := c.toNat) (by omega)) r.toNat (by omega)) (hK.col (i := c.toNat) (by omega)).1 rfl lk_X6_85 rfl rfl (Nat.le_of_ble_eq_true rfl) (by decide) (Nat.zero_le _) (Nat.zero_le _) dX6_set_26 ?_
      refine x_istore (pc := 29) hX (by decide) rfl rfl dX6_set_29 ?_
      refine x_aload_n (pc := 31) hX rfl rfl dX6_set_31 ?_
      refine x_iload_n (pc := 32) hX rfl rfl dX6_set_32 ?_
      refine x_top (congrArg xI (show c = ((c.toNat : Nat) : Int) by omega)) ?_
      refine x_cV_V (pc := 33) hX (tX6_recordAndTakeDraft hK hR1 hC1 c.toNat (by omega)) hK.1 rfl lk_X6_60 rfl rfl (Nat.le_of_ble_eq_true rfl) (by decide) (Nat.zero_le _) (Nat.zero_le _) dX6_set_33 (fun M2 hp => ?_)
      obtain ⟨hR2, hq2⟩ := hp
      have hc2 := hR2.ok (i := c.toNat) (by omega)
      rw [show (upC S.1 c.toNat l, pushH S.2.1 S.1, S.2.2.1, S.2.2.2).1 c.toNat = l from upC_eq] at hc2
      have hKc := hK.col (i := c.toNat) (by omega)
      refine x_iload (pc := 36) hX rfl dX6_set_36 ?_
      refine x_iret (pc := 38) hX rfl (Nat.zero_le _) (Nat.zero_le _) dX6_set_38 ?_
      obtain rfl := hR
      exact pX_i rfl hR2 (fun q h1 => (hq2 q (by omega)).trans (hq1 q (by omega)))
    · exfalso; omega

set_option maxHeartbeats 4000000 in
set_option maxRecDepth 100000 in
theorem tX6_sort {G : XG} {κ : XKs} {M : XM} {hs : Nat} (hK : KX κ hs) {S : Sx} (hS : RX M S) (c : Int) (hc : InR c) {dd : Int ⊕ List Nat} (hdd : dSort S.1 c = dd) {R : Int × Sx} (hR : sDo S c dd (fun l => ((enc l).length : Int)) = R) (hh : 151 ≤ hs) : XC G mX6_sort 5 0 0 [xR 0, xI c] κ M hs (pX κ M hs R.1 R.2) := by
  refine XC.intro cdX6_sort (by decide) (by decide) (Nat.le_of_ble_eq_true rfl) (loc := [some (xR 0), some (xI c), none]) rfl (fun X hX => ?_)
  have hc0 := hc
  unfold InR at hc0
  refine x_aload_n (pc := 0) hX rfl rfl dX6_sort_0 ?_
  refine x_iload_n (pc := 1) hX rfl rfl dX6_sort_1 ?_
  refine x_cV_I (pc := 2) hX (tX6_draftSort hK hS c hc hdd) hK.1 rfl lk_X6_89 rfl rfl (Nat.le_of_ble_eq_true rfl) (by decide) (Nat.zero_le _) (Nat.zero_le _) dX6_sort_2 (fun a9 M1 hp => ?_)
  obtain ⟨hq1, he1, hl1⟩ := hp
  have hR1 := hS.same hq1 (by omega)
  by_cases hin : ∃ e, dd = .inl e
  · obtain ⟨e, rfl⟩ := hin
    obtain rfl := he1 e rfl
    have hne := dSort_ne hdd
    obtain rfl : (a9, S) = R := hR
    refine x_istore_n (pc := 5) hX rfl (by decide) rfl rfl dX6_sort_5 ?_
    refine x_iload_n (pc := 6) hX rfl rfl dX6_sort_6 ?_
    refine x_if_eq (pc := 7) (tgt := 12) hX dX6_sort_7 (by decide) (by omega) (fun h7 => ?_) (fun h7 => ?_)
    · exfalso; omega
    · refine x_iload_n (pc := 10) hX rfl rfl dX6_sort_10 ?_
      refine x_iret (pc := 11) hX rfl (Nat.zero_le _) (Nat.zero_le _) dX6_sort_11 ?_
      exact pX_i rfl hR1 (fun q h1 => hq1 q (by omega))
  · obtain ⟨l, rfl⟩ : ∃ l, dd = .inr l := by
      cases dd with
      | inl e => exact absurd ⟨e, rfl⟩ hin
      | inr l => exact ⟨l, rfl⟩
    obtain ⟨rfl, hC1⟩ := hl1 l rfl
    have hcc := dSort_col hdd
    refine x_istore_n (pc := 5) hX rfl (by decide) rfl rfl dX6_sort_5 ?_
    refine x_iload_n (pc := 6) hX rfl rfl dX6_sort_6 ?_
    refine x_if_eq (pc := 7) (tgt := 12) hX dX6_sort_7 (by decide) (by omega) (fun h7 => ?_) (fun h7 => ?_)
    · refine x_aload_n (pc := 12) hX rfl rfl dX6_sort_12 ?_
      refine x_iload_n (pc := 13) hX rfl rfl dX6_sort_13 ?_
      refine x_top (congrArg xI (show c = ((c.toNat : Nat) : Int) by omega)) ?_
      refine x_cV_V (pc := 14) hX (tX6_recordAndTakeDraft hK hR1 hC1 c.toNat (by omega)) hK.1 rfl lk_X6_60 rfl rfl (Nat.le_of_ble_eq_true rfl) (by decide) (Nat.zero_le _) (Nat.zero_le _) dX6_sort_14 (fun M2 hp => ?_)
      obtain ⟨hR2, hq2⟩ := hp
      have hc2 := hR2.ok (i := c.toNat) (by omega)
      rw [show (upC S.1 c.toNat l, pushH S.2.1 S.1, S.2.2.1, S.2.2.2).1 c.toNat = l from upC_eq] at hc2
      have hKc := hK.col (i := c.toNat) (by omega)
      refine x_aload_n (pc := 17) hX rfl rfl dX6_sort_17 ?_
      refine x_getR (pc := 18) hX fl_X6_12 hK.1 rfl dX6_sort_18 ?_
      refine x_iload_n (pc := 21) hX rfl rfl dX6_sort_21 ?_
      refine x_top (congrArg xI (show c = ((c.toNat : Nat) : Int) by omega)) ?_
      refine x_cV_P (pc := 22) hX (tX5_column hK.2.1 c.toNat (by omega)) hK.2.1.1 rfl lk_X6_64 rfl rfl (Nat.le_of_ble_eq_true rfl) (by decide) (Nat.zero_le _) (Nat.zero_le _) dX6_sort_22 ?_
      refine x_top (congrArg xR (show 1 + 2 + 3 * c.toNat = 3 + 3 * c.toNat by omega)) ?_
      refine x_cV_P (pc := 25) hX (tX0_runs hKc hc2) hKc.1 rfl lk_X6_76 rfl rfl (Nat.le_of_ble_eq_true rfl) (by decide) (Nat.zero_le _) (Nat.zero_le _) dX6_sort_25 ?_
      refine x_iret (pc := 28) hX rfl (Nat.zero_le _) (Nat.zero_le _) dX6_sort_28 ?_
      obtain rfl := hR
      exact pX_i rfl hR2 (fun q h1 => (hq2 q (by omega)).trans (hq1 q (by omega)))
    · exfalso; omega

theorem addr_len_eq {α : Type} [DecidableEq α] : ∀ (L : List (α × Nat)) (v : α) (n m : Nat), (addr L v n).length = (addr L v m).length
  | [], v, n, m => rfl
  | [(w, k)], v, n, m => by
    rw [addr_one, addr_one]
    split <;> rfl
  | a :: b :: t, v, n, m => by
    show (a :: addr (b :: t) v n).length = (a :: addr (b :: t) v m).length
    rw [List.length_cons, List.length_cons, addr_len_eq (b :: t) v n m]
theorem enc_drop_snoc (l : List Nat) (v : Nat) : (enc (l ++ [v])).length ≤ (enc l).length + 1 := enc_app_rep l v 1
theorem enc_rev_le : ∀ (l : List Nat), (enc l.reverse).length ≤ (enc l).length
  | [] => Nat.le_refl _
  | [v] => Nat.le_refl _
  | v :: w :: t => by
    have h1 := enc_rev_le (w :: t)
    have h2 : (v :: w :: t).reverse = (w :: t).reverse ++ [v] := List.reverse_cons
    rw [h2]
    by_cases e : v = w
    · have h3 : (enc ((w :: t).reverse ++ [v])).length = (enc (w :: t).reverse).length := by
        rw [List.reverse_cons, e, List.append_assoc, show [w] ++ [w] = List.replicate 2 w from rfl, show [w] = List.replicate 1 w from rfl, enc_addr _ _ (by decide), enc_addr _ _ (by decide)]
        exact addr_len_eq _ _ _ _
      have h4 := (enc_cons_len v (w :: t)).1
      omega
    · have h3 := enc_drop_snoc (w :: t).reverse v
      have h4 : (enc (v :: w :: t)).length = (enc (w :: t)).length + 1 := by
        show (cr v (enc (w :: t))).length = _
        have h5 : ∃ m s, enc (w :: t) = (w, m) :: s := by
          show ∃ m s, cr w (enc t) = (w, m) :: s
          cases he : enc t with
          | nil => exact ⟨1, [], rfl⟩
          | cons b s =>
            obtain ⟨x, m⟩ := b
            rw [cr_cons]
            by_cases e2 : w = x
            · rw [if_pos e2, e2]; exact ⟨_, _, rfl⟩
            · rw [if_neg e2]; exact ⟨_, _, rfl⟩
        obtain ⟨m, s, h5⟩ := h5
        rw [h5, cr_cons, if_neg e]
        rfl
      omega
theorem fit_rev {l : List Nat} (h : fit l) : fit l.reverse := ⟨by rw [List.length_reverse]; exact h.1, Nat.le_trans (enc_rev_le l) h.2⟩
set_option maxHeartbeats 4000000 in
set_option maxRecDepth 100000 in
theorem tX6_turn {G : XG} {κ : XKs} {M : XM} {hs : Nat} (hK : KX κ hs) {S : Sx} (hS : RX M S) (c a : Int) (hc : InR c) (ha : InR a) {R : Int × Sx} (hR : sTurn S c a = R) (hh : 151 ≤ hs) : XC G mX6_turn 5 0 0 [xR 0, xI c, xI a] κ M hs (pX κ M hs R.1 R.2) := by
  refine XC.intro cdX6_turn (by decide) (by decide) (Nat.le_of_ble_eq_true rfl) (loc := [some (xR 0), some (xI c), some (xI a)]) rfl (fun X hX => ?_)
  have hc0 := hc
  have ha0 := ha
  unfold InR at hc0 ha0
  unfold sTurn at hR
  refine x_iload_n (pc := 0) hX rfl rfl dX6_turn_0 ?_
  refine x_cS_P (pc := 1) hX (tX6_isColumn c hc) lk_X6_92 rfl rfl (Nat.le_of_ble_eq_true rfl) (by decide) (Nat.zero_le _) (Nat.zero_le _) dX6_turn_1 ?_
  by_cases hcc1 : 0 ≤ c ∧ c < 4
  · rw [if_pos hcc1]
    refine x_if_eq (pc := 4) (tgt := 14) hX dX6_turn_4 (by decide) (by omega) (fun h4 => ?_) (fun h4 => ?_)
    · exfalso; omega
    · refine x_iload_n (pc := 7) hX rfl rfl dX6_turn_7 ?_
      refine x_cS_P (pc := 8) hX (tX6_isColumn a ha) lk_X6_92 rfl rfl (Nat.le_of_ble_eq_true rfl) (by decide) (Nat.zero_le _) (Nat.zero_le _) dX6_turn_8 ?_
      by_cases hca8 : 0 ≤ a ∧ a < 4
      · rw [if_pos hca8]
        rw [if_neg (fun y => y ⟨hcc1, hca8⟩)] at hR
        have hKa := hK.col (i := a.toNat) (by omega)
        have hKc := hK.col (i := c.toNat) (by omega)
        have hcola := hS.ok (i := a.toNat) (by omega)
        refine x_if_ne (pc := 11) (tgt := 16) hX dX6_turn_11 (by decide) (by omega) (fun h11 => ?_) (fun h11 => ?_)
        · refine x_aload_n (pc := 16) hX rfl rfl dX6_turn_16 ?_
          refine x_getR (pc := 17) hX fl_X6_34 hK.1 rfl dX6_turn_17 ?_
          refine x_cV_V (pc := 20) hX (tX0_clear hK.2.2.2.2.2.1) hK.2.2.2.2.2.1.1 rfl lk_X6_96 rfl rfl (Nat.le_of_ble_eq_true rfl) (by decide) (Nat.zero_le _) (Nat.zero_le _) dX6_turn_20 (fun M1 hp => ?_)
          obtain ⟨hD1, hq1⟩ := hp
          have hca1 := hcola.same hq1 (by omega)
          refine x_aload_n (pc := 23) hX rfl rfl dX6_turn_23 ?_
          refine x_getR (pc := 24) hX fl_X6_34 hK.1 rfl dX6_turn_24 ?_
          refine x_aload_n (pc := 27) hX rfl rfl dX6_turn_27 ?_
          refine x_getR (pc := 28) hX fl_X6_12 hK.1 rfl dX6_turn_28 ?_
          refine x_iload_n (pc := 31) hX rfl rfl dX6_turn_31 ?_
          refine x_top (congrArg xI (show a = ((a.toNat : Nat) : Int) by omega)) ?_
          refine x_cV_P (pc := 32) hX (tX5_column hK.2.1 a.toNat (by omega)) hK.2.1.1 rfl lk_X6_64 rfl rfl (Nat.le_of_ble_eq_true rfl) (by decide) (Nat.zero_le _) (Nat.zero_le _) dX6_turn_32 ?_
          refine x_top (congrArg xR (show 1 + 2 + 3 * a.toNat = 3 + 3 * a.toNat by omega)) ?_
          refine x_cV_V (pc := 35) hX (tX0_addTurned hK.2.2.2.2.2.1 hKa (by omega) hD1 hca1) hK.2.2.2.2.2.1.1 rfl lk_X6_99 rfl rfl (Nat.le_of_ble_eq_true rfl) (by decide) (Nat.zero_le _) (Nat.zero_le _) dX6_turn_35 (fun M2 hp => ?_)
          obtain ⟨hD2, hq2⟩ := hp
          rw [List.nil_append] at hD2
          have hC2 := hD2.col (fit_rev hcola.2.2.1)
          have hR2 := hS.same (hq1.tr hq2) (by omega)
          refine x_aload_n (pc := 38) hX rfl rfl dX6_turn_38 ?_
          refine x_iload_n (pc := 39) hX rfl rfl dX6_turn_39 ?_
          refine x_top (congrArg xI (show c = ((c.toNat : Nat) : Int) by omega)) ?_
          refine x_cV_V (pc := 40) hX (tX6_recordAndTakeDraft hK hR2 hC2 c.toNat (by omega)) hK.1 rfl lk_X6_60 rfl rfl (Nat.le_of_ble_eq_true rfl) (by decide) (Nat.zero_le _) (Nat.zero_le _) dX6_turn_40 (fun M3 hp => ?_)
          obtain ⟨hR3, hq3⟩ := hp
          have hc3 := hR3.ok (i := c.toNat) (by omega)
          rw [show (upC S.1 c.toNat (S.1 a.toNat).reverse, pushH S.2.1 S.1, S.2.2.1, S.2.2.2).1 c.toNat = (S.1 a.toNat).reverse from upC_eq] at hc3
          refine x_aload_n (pc := 43) hX rfl rfl dX6_turn_43 ?_
          refine x_getR (pc := 44) hX fl_X6_12 hK.1 rfl dX6_turn_44 ?_
          refine x_iload_n (pc := 47) hX rfl rfl dX6_turn_47 ?_
          refine x_top (congrArg xI (show c = ((c.toNat : Nat) : Int) by omega)) ?_
          refine x_cV_P (pc := 48) hX (tX5_column hK.2.1 c.toNat (by omega)) hK.2.1.1 rfl lk_X6_64 rfl rfl (Nat.le_of_ble_eq_true rfl) (by decide) (Nat.zero_le _) (Nat.zero_le _) dX6_turn_48 ?_
          refine x_top (congrArg xR (show 1 + 2 + 3 * c.toNat = 3 + 3 * c.toNat by omega)) ?_
          refine x_cV_P (pc := 51) hX (tX0_rows hKc hc3) hKc.1 rfl lk_X6_68 rfl rfl (Nat.le_of_ble_eq_true rfl) (by decide) (Nat.zero_le _) (Nat.zero_le _) dX6_turn_51 ?_
          refine x_iret (pc := 54) hX rfl (Nat.zero_le _) (Nat.zero_le _) dX6_turn_54 ?_
          obtain rfl := hR
          exact pX_i rfl hR3 (fun q h1 => (hq3 q (by omega)).trans ((hq2 q (by omega)).trans (hq1 q (by omega))))
        · exfalso; omega
      · rw [if_neg hca8]
        refine x_if_ne (pc := 11) (tgt := 16) hX dX6_turn_11 (by decide) (by omega) (fun h11 => ?_) (fun h11 => ?_)
        · exfalso; omega
        · refine x_iconst (pc := 14) hX dX6_turn_14 ?_
          refine x_iret (pc := 15) hX rfl (Nat.zero_le _) (Nat.zero_le _) dX6_turn_15 ?_
          rw [if_pos (fun y => hca8 y.2)] at hR
          obtain rfl := hR
          exact pX_p rfl hS
  · rw [if_neg hcc1]
    refine x_if_eq (pc := 4) (tgt := 14) hX dX6_turn_4 (by decide) (by omega) (fun h4 => ?_) (fun h4 => ?_)
    · refine x_iconst (pc := 14) hX dX6_turn_14 ?_
      refine x_iret (pc := 15) hX rfl (Nat.zero_le _) (Nat.zero_le _) dX6_turn_15 ?_
      rw [if_pos (fun y => hcc1 y.1)] at hR
      obtain rfl := hR
      exact pX_p rfl hS
    · exfalso; omega

set_option maxHeartbeats 4000000 in
set_option maxRecDepth 100000 in
theorem tX6_merge {G : XG} {κ : XKs} {M : XM} {hs : Nat} (hK : KX κ hs) {S : Sx} (hS : RX M S) (c a b w : Int) (hc : InR c) (ha : InR a) (hb : InR b) (hw : InR w) {dd : Int ⊕ List Nat} (hdd : dMrg S.1 c a b w = dd) {R : Int × Sx} (hR : sDo S c dd (fun l => (l.length : Int)) = R) (hh : 151 ≤ hs) : XC G mX6_merge 5 1 10 [xR 0, xI c, xI a, xI b, xI w] κ M hs (pX κ M hs R.1 R.2) := by
  refine XC.intro cdX6_merge (by decide) (by decide) (Nat.le_of_ble_eq_true rfl) (loc := [some (xR 0), some (xI c), some (xI a), some (xI b), some (xI w), none]) rfl (fun X hX => ?_)
  have hc0 := hc
  unfold InR at hc0
  refine x_aload_n (pc := 0) hX rfl rfl dX6_merge_0 ?_
  refine x_iload_n (pc := 1) hX rfl rfl dX6_merge_1 ?_
  refine x_iload_n (pc := 2) hX rfl rfl dX6_merge_2 ?_
  refine x_iload_n (pc := 3) hX rfl rfl dX6_merge_3 ?_
  refine x_iload (pc := 4) hX rfl dX6_merge_4 ?_
  refine x_callV (pc := 6) hX (tX6_draftMerge hK hS hh c a b w hc ha hb hw hdd) hK.1 rfl lk_X6_103 rfl rfl (Nat.le_of_ble_eq_true rfl) (by decide) (by decide) (by decide) dX6_merge_6 (fun r κ' M' hs' hp => ?_)
  obtain ⟨hκ, hhs, hM1, a9, rfl, he1, hl1⟩ := hp
  have hKn := hK.mono hκ hhs
  have hR1 : RX M' S := hS.agr (fun q h1 h2 => hM1 q (by omega) (by omega))
  have hfr : ∀ q, 140 ≤ q → q < hs → M' q = M q := fun q h1 h2 => hM1 q h2 (by omega)
  clear hK
  have hK := hKn
  have hkind : (∃ e, dd = .inl e) ∨ ∃ l, dd = .inr l := by
    cases dd with
    | inl e => exact Or.inl ⟨e, rfl⟩
    | inr l => exact Or.inr ⟨l, rfl⟩
  have herng : ∀ e, dd = .inl e → -6 ≤ e ∧ e < 0 := fun e he => dMrg_ne (hdd.trans he)
  by_cases hin : ∃ e, dd = .inl e
  · obtain ⟨e, rfl⟩ := hin
    obtain rfl := he1 e rfl
    have hne := herng a9 rfl
    obtain rfl : (a9, S) = R := hR
    refine x_istore (pc := 9) hX (by decide) rfl rfl dX6_merge_9 ?_
    refine x_iload (pc := 11) hX rfl dX6_merge_11 ?_
    refine x_if_eq (pc := 13) (tgt := 19) hX dX6_merge_13 (by decide) (by omega) (fun h13 => ?_) (fun h13 => ?_)
    · exfalso; omega
    · refine x_iload (pc := 16) hX rfl dX6_merge_16 ?_
      refine x_iret (pc := 18) hX rfl (by decide) (by decide) dX6_merge_18 ?_
      exact ⟨rfl, hκ, hhs, hR1, hfr⟩
  · obtain ⟨l, rfl⟩ := hkind.resolve_left hin
    obtain ⟨rfl, hC1⟩ := hl1 l rfl
    have hcc := dMrg_col hdd
    refine x_istore (pc := 9) hX (by decide) rfl rfl dX6_merge_9 ?_
    refine x_iload (pc := 11) hX rfl dX6_merge_11 ?_
    refine x_if_eq (pc := 13) (tgt := 19) hX dX6_merge_13 (by decide) (by omega) (fun h13 => ?_) (fun h13 => ?_)
    · refine x_aload_n (pc := 19) hX rfl rfl dX6_merge_19 ?_
      refine x_iload_n (pc := 20) hX rfl rfl dX6_merge_20 ?_
      refine x_top (congrArg xI (show c = ((c.toNat : Nat) : Int) by omega)) ?_
      refine x_cV_V (pc := 21) hX (tX6_recordAndTakeDraft hK hR1 hC1 c.toNat (by omega)) hK.1 rfl lk_X6_60 rfl rfl (Nat.le_of_ble_eq_true rfl) (by decide) (by decide) (by decide) dX6_merge_21 (fun M2 hp => ?_)
      obtain ⟨hR2, hq2⟩ := hp
      have hc2 := hR2.ok (i := c.toNat) (by omega)
      rw [show (upC S.1 c.toNat l, pushH S.2.1 S.1, S.2.2.1, S.2.2.2).1 c.toNat = l from upC_eq] at hc2
      have hKc := hK.col (i := c.toNat) (by omega)
      refine x_aload_n (pc := 24) hX rfl rfl dX6_merge_24 ?_
      refine x_getR (pc := 25) hX fl_X6_12 hK.1 rfl dX6_merge_25 ?_
      refine x_iload_n (pc := 28) hX rfl rfl dX6_merge_28 ?_
      refine x_top (congrArg xI (show c = ((c.toNat : Nat) : Int) by omega)) ?_
      refine x_cV_P (pc := 29) hX (tX5_column hK.2.1 c.toNat (by omega)) hK.2.1.1 rfl lk_X6_64 rfl rfl (Nat.le_of_ble_eq_true rfl) (by decide) (by decide) (by decide) dX6_merge_29 ?_
      refine x_top (congrArg xR (show 1 + 2 + 3 * c.toNat = 3 + 3 * c.toNat by omega)) ?_
      refine x_cV_P (pc := 32) hX (tX0_rows hKc hc2) hKc.1 rfl lk_X6_68 rfl rfl (Nat.le_of_ble_eq_true rfl) (by decide) (by decide) (by decide) dX6_merge_32 ?_
      refine x_iret (pc := 35) hX rfl (by decide) (by decide) dX6_merge_35 ?_
      obtain rfl := hR
      exact ⟨rfl, hκ, hhs, hR2, fun q h1 h2 => (hq2 q (by omega)).trans (hfr q h1 h2)⟩
    · exfalso; omega

set_option maxHeartbeats 4000000 in
set_option maxRecDepth 100000 in
theorem tX6_run {G : XG} {κ : XKs} {M : XM} {hs : Nat} (hK : KX κ hs) {S : Sx} (hS : RX M S) (c k w : Int) (hc : InR c) (hk : InR k) (hw : InR w) {R : Int} (hR : aRun S.1 c k w = R) (hh : 151 ≤ hs) : XC G mX6_run 1 0 0 [xR 0, xI c, xI k, xI w] κ M hs (pX κ M hs R S) := by
  refine XC.intro cdX6_run (by decide) (by decide) (Nat.le_of_ble_eq_true rfl) (loc := [some (xR 0), some (xI c), some (xI k), some (xI w), none]) rfl (fun X hX => ?_)
  have hc0 := hc
  have hk0 := hk
  have hw0 := hw
  unfold InR at hc0 hk0 hw0
  refine x_iload_n (pc := 0) hX rfl rfl dX6_run_0 ?_
  refine x_cS_P (pc := 1) hX (tX6_isColumn c hc) lk_X6_92 rfl rfl (Nat.le_of_ble_eq_true rfl) (by decide) (Nat.zero_le _) (Nat.zero_le _) dX6_run_1 ?_
  by_cases hcc1 : 0 ≤ c ∧ c < 4
  · rw [if_pos hcc1]
    have hcol := hS.ok (i := c.toNat) (by omega)
    have hln := hcol.len
    have hKc := hK.col (i := c.toNat) (by omega)
    refine x_if_ne (pc := 4) (tgt := 9) hX dX6_run_4 (by decide) (by omega) (fun h4 => ?_) (fun h4 => ?_)
    · refine x_aload_n (pc := 9) hX rfl rfl dX6_run_9 ?_
      refine x_getR (pc := 10) hX fl_X6_12 hK.1 rfl dX6_run_10 ?_
      refine x_iload_n (pc := 13) hX rfl rfl dX6_run_13 ?_
      refine x_top (congrArg xI (show c = ((c.toNat : Nat) : Int) by omega)) ?_
      refine x_cV_P (pc := 14) hX (tX5_column hK.2.1 c.toNat (by omega)) hK.2.1.1 rfl lk_X6_64 rfl rfl (Nat.le_of_ble_eq_true rfl) (by decide) (Nat.zero_le _) (Nat.zero_le _) dX6_run_14 ?_
      refine x_top (congrArg xR (show 1 + 2 + 3 * c.toNat = 3 + 3 * c.toNat by omega)) ?_
      refine x_astore (pc := 17) hX (by decide) rfl rfl dX6_run_17 ?_
      refine x_iload_n (pc := 19) hX rfl rfl dX6_run_19 ?_
      refine x_if_lt (pc := 20) (tgt := 32) hX dX6_run_20 (by decide) (by omega) (fun h20 => ?_) (fun h20 => ?_)
      · refine x_iconst (pc := 32) hX dX6_run_32 ?_
        refine x_iret (pc := 33) hX rfl (Nat.zero_le _) (Nat.zero_le _) dX6_run_33 ?_
        refine pX_p ?_ hS
        rw [← hR]
        unfold aRun
        repeat' split
        all_goals first | rfl | (exfalso; omega)
      · refine x_iload_n (pc := 23) hX rfl rfl dX6_run_23 ?_
        refine x_aload (pc := 24) hX rfl dX6_run_24 ?_
        refine x_cV_P (pc := 26) hX (tX0_runs hKc hcol) hKc.1 rfl lk_X6_76 rfl rfl (Nat.le_of_ble_eq_true rfl) (by decide) (Nat.zero_le _) (Nat.zero_le _) dX6_run_26 ?_
        refine x_icmp_lt (pc := 29) (tgt := 34) hX dX6_run_29 (by decide) (by omega) (fun h29 => ?_) (fun h29 => ?_)
        · refine x_iload_n (pc := 34) hX rfl rfl dX6_run_34 ?_
          rcases (show (w < 0 ∨ 2 < w) ∨ w = 0 ∨ w = 1 ∨ w = 2 by omega) with hsw | hsw | hsw | hsw
          · refine x_tswOut (pc := 35) (tgt := 81) hX dX6_run_35 (by omega) hsw (by decide) ?_
            refine x_bipush (pc := 81) hX (by decide) dX6_run_81 ?_
            refine x_iret (pc := 83) hX rfl (Nat.zero_le _) (Nat.zero_le _) dX6_run_83 ?_
            refine pX_p ?_ hS
            rw [← hR]
            unfold aRun
            repeat' split
            all_goals first | rfl | (exfalso; omega)
          · refine x_tswIn (pc := 35) (off := 25) (tgt := 60) hX dX6_run_35 (by omega) (by omega) (by rw [hsw]; rfl) (by decide) ?_
            refine x_aload (pc := 60) hX rfl dX6_run_60 ?_
            refine x_iload_n (pc := 62) hX rfl rfl dX6_run_62 ?_
            refine x_cV_P (pc := 63) hX (tX0_valueOfRun hKc hcol k hk) hKc.1 rfl lk_X6_106 rfl rfl (Nat.le_of_ble_eq_true rfl) (by decide) (Nat.zero_le _) (Nat.zero_le _) dX6_run_63 ?_
            refine x_top (congrArg xI (show rvO (enc (S.1 c.toNat)) k = (rv (enc (S.1 c.toNat)) k.toNat : Int) from if_pos (by omega))) ?_
            refine x_iret (pc := 66) hX rfl (Nat.zero_le _) (Nat.zero_le _) dX6_run_66 ?_
            refine pX_p ?_ hS
            rw [← hR]
            unfold aRun
            repeat' split
            all_goals first | rfl | (exfalso; omega)
          · refine x_tswIn (pc := 35) (off := 32) (tgt := 67) hX dX6_run_35 (by omega) (by omega) (by rw [hsw]; rfl) (by decide) ?_
            refine x_aload (pc := 67) hX rfl dX6_run_67 ?_
            refine x_iload_n (pc := 69) hX rfl rfl dX6_run_69 ?_
            refine x_cV_P (pc := 70) hX (tX0_lengthOfRun hKc hcol k hk) hKc.1 rfl lk_X6_109 rfl rfl (Nat.le_of_ble_eq_true rfl) (by decide) (Nat.zero_le _) (Nat.zero_le _) dX6_run_70 ?_
            refine x_top (congrArg xI (show rnO (enc (S.1 c.toNat)) k = (rn (enc (S.1 c.toNat)) k.toNat : Int) from if_pos (by omega))) ?_
            refine x_iret (pc := 73) hX rfl (Nat.zero_le _) (Nat.zero_le _) dX6_run_73 ?_
            refine pX_p ?_ hS
            rw [← hR]
            unfold aRun
            repeat' split
            all_goals first | rfl | (exfalso; omega)
          · refine x_tswIn (pc := 35) (off := 39) (tgt := 74) hX dX6_run_35 (by omega) (by omega) (by rw [hsw]; rfl) (by decide) ?_
            refine x_aload (pc := 74) hX rfl dX6_run_74 ?_
            refine x_iload_n (pc := 76) hX rfl rfl dX6_run_76 ?_
            refine x_top (congrArg xI (show k = ((k.toNat : Nat) : Int) by omega)) ?_
            refine x_cV_P (pc := 77) hX (tX0_firstRowOfRun hKc hcol k.toNat (by omega)) hKc.1 rfl lk_X6_112 rfl rfl (Nat.le_of_ble_eq_true rfl) (by decide) (Nat.zero_le _) (Nat.zero_le _) dX6_run_77 ?_
            refine x_iret (pc := 80) hX rfl (Nat.zero_le _) (Nat.zero_le _) dX6_run_80 ?_
            refine pX_p ?_ hS
            rw [← hR]
            unfold aRun
            repeat' split
            all_goals first | rfl | (exfalso; omega)
        · refine x_iconst (pc := 32) hX dX6_run_32 ?_
          refine x_iret (pc := 33) hX rfl (Nat.zero_le _) (Nat.zero_le _) dX6_run_33 ?_
          refine pX_p ?_ hS
          rw [← hR]
          unfold aRun
          repeat' split
          all_goals first | rfl | (exfalso; omega)
    · exfalso; omega
  · rw [if_neg hcc1]
    refine x_if_ne (pc := 4) (tgt := 9) hX dX6_run_4 (by decide) (by omega) (fun h4 => ?_) (fun h4 => ?_)
    · exfalso; omega
    · refine x_iconst (pc := 7) hX dX6_run_7 ?_
      refine x_iret (pc := 8) hX rfl (Nat.zero_le _) (Nat.zero_le _) dX6_run_8 ?_
      refine pX_p ?_ hS
      rw [← hR]
      unfold aRun
      repeat' split
      all_goals first | rfl | (exfalso; omega)

set_option maxHeartbeats 4000000 in
set_option maxRecDepth 100000 in
theorem tX6_value {G : XG} {κ : XKs} {M : XM} {hs : Nat} (hK : KX κ hs) {S : Sx} (hS : RX M S) (c r : Int) (hc : InR c) (hr : InR r) {R : Int} (hR : aValue S.1 c r = R) (hh : 151 ≤ hs) : XC G mX6_value 2 0 0 [xR 0, xI c, xI r] κ M hs (pX κ M hs R S) := by
  refine XC.intro cdX6_value (by decide) (by decide) (Nat.le_of_ble_eq_true rfl) (loc := [some (xR 0), some (xI c), some (xI r)]) rfl (fun X hX => ?_)
  have hc0 := hc
  have hr0 := hr
  unfold InR at hc0 hr0
  refine x_aload_n (pc := 0) hX rfl rfl dX6_value_0 ?_
  refine x_iload_n (pc := 1) hX rfl rfl dX6_value_1 ?_
  refine x_iload_n (pc := 2) hX rfl rfl dX6_value_2 ?_
  refine x_cV_P (pc := 3) hX (tX6_isRow hK hS c r hc hr) hK.1 rfl lk_X6_115 rfl rfl (Nat.le_of_ble_eq_true rfl) (by decide) (Nat.zero_le _) (Nat.zero_le _) dX6_value_3 ?_
  by_cases hrr : (0 ≤ c ∧ c < 4) ∧ 0 ≤ r ∧ r < ((S.1 c.toNat).length : Int)
  · rw [if_pos hrr]
    have hcol := hS.ok (i := c.toNat) (by omega)
    have hln := hcol.len
    have hKc := hK.col (i := c.toNat) (by omega)
    refine x_if_ne (pc := 6) (tgt := 11) hX dX6_value_6 (by decide) (by omega) (fun h6 => ?_) (fun h6 => ?_)
    · refine x_aload_n (pc := 11) hX rfl rfl dX6_value_11 ?_
      refine x_getR (pc := 12) hX fl_X6_12 hK.1 rfl dX6_value_12 ?_
      refine x_iload_n (pc := 15) hX rfl rfl dX6_value_15 ?_
      refine x_top (congrArg xI (show c = ((c.toNat : Nat) : Int) by omega)) ?_
      refine x_cV_P (pc := 16) hX (tX5_column hK.2.1 c.toNat (by omega)) hK.2.1.1 rfl lk_X6_64 rfl rfl (Nat.le_of_ble_eq_true rfl) (by decide) (Nat.zero_le _) (Nat.zero_le _) dX6_value_16 ?_
      refine x_top (congrArg xR (show 1 + 2 + 3 * c.toNat = 3 + 3 * c.toNat by omega)) ?_
      refine x_iload_n (pc := 19) hX rfl rfl dX6_value_19 ?_
      refine x_top (congrArg xI (show r = ((r.toNat : Nat) : Int) by omega)) ?_
      refine x_cV_P (pc := 20) hX (tX0_valueOfRow hKc hcol r.toNat (by omega)) hKc.1 rfl lk_X6_85 rfl rfl (Nat.le_of_ble_eq_true rfl) (by decide) (Nat.zero_le _) (Nat.zero_le _) dX6_value_20 ?_
      refine x_iret (pc := 23) hX rfl (Nat.zero_le _) (Nat.zero_le _) dX6_value_23 ?_
      refine pX_p ?_ hS
      rw [← hR]
      unfold aValue
      repeat' split
      all_goals first | rfl | (exfalso; omega)
    · exfalso; omega
  · rw [if_neg hrr]
    refine x_if_ne (pc := 6) (tgt := 11) hX dX6_value_6 (by decide) (by omega) (fun h6 => ?_) (fun h6 => ?_)
    · exfalso; omega
    · refine x_iconst (pc := 9) hX dX6_value_9 ?_
      refine x_iret (pc := 10) hX rfl (Nat.zero_le _) (Nat.zero_le _) dX6_value_10 ?_
      refine pX_p ?_ hS
      rw [← hR]
      unfold aValue
      repeat' split
      all_goals first | rfl | (exfalso; omega)

set_option maxHeartbeats 4000000 in
set_option maxRecDepth 100000 in
theorem tX6_find {G : XG} {κ : XKs} {M : XM} {hs : Nat} (hK : KX κ hs) {S : Sx} (hS : RX M S) (c v k : Int) (hc : InR c) (hv : InR v) (hk : InR k) {R : Int} (hR : aFind S.1 c v k = R) (hh : 151 ≤ hs) : XC G mX6_find 1 0 0 [xR 0, xI c, xI v, xI k] κ M hs (pX κ M hs R S) := by
  refine XC.intro cdX6_find (by decide) (by decide) (Nat.le_of_ble_eq_true rfl) (loc := [some (xR 0), some (xI c), some (xI v), some (xI k)]) rfl (fun X hX => ?_)
  have hc0 := hc
  have hv0 := hv
  have hk0 := hk
  unfold InR at hc0 hv0 hk0
  refine x_iload_n (pc := 0) hX rfl rfl dX6_find_0 ?_
  refine x_cS_P (pc := 1) hX (tX6_isColumn c hc) lk_X6_92 rfl rfl (Nat.le_of_ble_eq_true rfl) (by decide) (Nat.zero_le _) (Nat.zero_le _) dX6_find_1 ?_
  by_cases hcc1 : 0 ≤ c ∧ c < 4
  · rw [if_pos hcc1]
    have hcol := hS.ok (i := c.toNat) (by omega)
    have hln := hcol.len
    have hKc := hK.col (i := c.toNat) (by omega)
    refine x_if_ne (pc := 4) (tgt := 9) hX dX6_find_4 (by decide) (by omega) (fun h4 => ?_) (fun h4 => ?_)
    · refine x_iload_n (pc := 9) hX rfl rfl dX6_find_9 ?_
      refine x_cS_P (pc := 10) hX (tX6_isValue v hv) lk_X6_119 rfl rfl (Nat.le_of_ble_eq_true rfl) (by decide) (Nat.zero_le _) (Nat.zero_le _) dX6_find_10 ?_
      by_cases hcv10 : 0 ≤ v ∧ v ≤ 9
      · rw [if_pos hcv10]
        refine x_if_eq (pc := 13) (tgt := 20) hX dX6_find_13 (by decide) (by omega) (fun h13 => ?_) (fun h13 => ?_)
        · exfalso; omega
        · refine x_iload_n (pc := 16) hX rfl rfl dX6_find_16 ?_
          refine x_if_ge (pc := 17) (tgt := 23) hX dX6_find_17 (by decide) (by omega) (fun h17 => ?_) (fun h17 => ?_)
          · refine x_aload_n (pc := 23) hX rfl rfl dX6_find_23 ?_
            refine x_getR (pc := 24) hX fl_X6_12 hK.1 rfl dX6_find_24 ?_
            refine x_iload_n (pc := 27) hX rfl rfl dX6_find_27 ?_
            refine x_top (congrArg xI (show c = ((c.toNat : Nat) : Int) by omega)) ?_
            refine x_cV_P (pc := 28) hX (tX5_column hK.2.1 c.toNat (by omega)) hK.2.1.1 rfl lk_X6_64 rfl rfl (Nat.le_of_ble_eq_true rfl) (by decide) (Nat.zero_le _) (Nat.zero_le _) dX6_find_28 ?_
            refine x_top (congrArg xR (show 1 + 2 + 3 * c.toNat = 3 + 3 * c.toNat by omega)) ?_
            refine x_iload_n (pc := 31) hX rfl rfl dX6_find_31 ?_
            refine x_iload_n (pc := 32) hX rfl rfl dX6_find_32 ?_
            refine x_top (congrArg xI (show k = ((k.toNat : Nat) : Int) by omega)) ?_
            refine x_cV_P (pc := 33) hX (tX0_rowOfRank hKc hcol v hv k.toNat (by omega)) hKc.1 rfl lk_X6_122 rfl rfl (Nat.le_of_ble_eq_true rfl) (by decide) (Nat.zero_le _) (Nat.zero_le _) dX6_find_33 ?_
            refine x_iret (pc := 36) hX rfl (Nat.zero_le _) (Nat.zero_le _) dX6_find_36 ?_
            refine pX_p ?_ hS
            rw [← hR]
            unfold aFind
            repeat' split
            all_goals first | rfl | (exfalso; omega)
          · refine x_bipush (pc := 20) hX (by decide) dX6_find_20 ?_
            refine x_iret (pc := 22) hX rfl (Nat.zero_le _) (Nat.zero_le _) dX6_find_22 ?_
            refine pX_p ?_ hS
            rw [← hR]
            unfold aFind
            repeat' split
            all_goals first | rfl | (exfalso; omega)
      · rw [if_neg hcv10]
        refine x_if_eq (pc := 13) (tgt := 20) hX dX6_find_13 (by decide) (by omega) (fun h13 => ?_) (fun h13 => ?_)
        · refine x_bipush (pc := 20) hX (by decide) dX6_find_20 ?_
          refine x_iret (pc := 22) hX rfl (Nat.zero_le _) (Nat.zero_le _) dX6_find_22 ?_
          refine pX_p ?_ hS
          rw [← hR]
          unfold aFind
          repeat' split
          all_goals first | rfl | (exfalso; omega)
        · exfalso; omega
    · exfalso; omega
  · rw [if_neg hcc1]
    refine x_if_ne (pc := 4) (tgt := 9) hX dX6_find_4 (by decide) (by omega) (fun h4 => ?_) (fun h4 => ?_)
    · exfalso; omega
    · refine x_iconst (pc := 7) hX dX6_find_7 ?_
      refine x_iret (pc := 8) hX rfl (Nat.zero_le _) (Nat.zero_le _) dX6_find_8 ?_
      refine pX_p ?_ hS
      rw [← hR]
      unfold aFind
      repeat' split
      all_goals first | rfl | (exfalso; omega)

set_option maxHeartbeats 4000000 in
set_option maxRecDepth 100000 in
theorem tX6_ofColumn {G : XG} {κ : XKs} {M : XM} {hs : Nat} (hK : KX κ hs) {S : Sx} (hS : RX M S) (c w : Int) (hc : InR c) (hw : InR w) {R : Int} (hR : aOf S.1 c w = R) (hh : 151 ≤ hs) : XC G mX6_ofColumn 2 0 0 [xR 0, xI c, xI w] κ M hs (pX κ M hs R S) := by
  refine XC.intro cdX6_ofColumn (by decide) (by decide) (Nat.le_of_ble_eq_true rfl) (loc := [some (xR 0), some (xI c), some (xI w), none]) rfl (fun X hX => ?_)
  have hc0 := hc
  have hw0 := hw
  unfold InR at hc0 hw0
  refine x_iload_n (pc := 0) hX rfl rfl dX6_ofColumn_0 ?_
  refine x_cS_P (pc := 1) hX (tX6_isColumn c hc) lk_X6_92 rfl rfl (Nat.le_of_ble_eq_true rfl) (by decide) (Nat.zero_le _) (Nat.zero_le _) dX6_ofColumn_1 ?_
  by_cases hcc1 : 0 ≤ c ∧ c < 4
  · rw [if_pos hcc1]
    have hcol := hS.ok (i := c.toNat) (by omega)
    have hln := hcol.len
    have hKc := hK.col (i := c.toNat) (by omega)
    refine x_if_ne (pc := 4) (tgt := 9) hX dX6_ofColumn_4 (by decide) (by omega) (fun h4 => ?_) (fun h4 => ?_)
    · refine x_aload_n (pc := 9) hX rfl rfl dX6_ofColumn_9 ?_
      refine x_getR (pc := 10) hX fl_X6_12 hK.1 rfl dX6_ofColumn_10 ?_
      refine x_iload_n (pc := 13) hX rfl rfl dX6_ofColumn_13 ?_
      refine x_top (congrArg xI (show c = ((c.toNat : Nat) : Int) by omega)) ?_
      refine x_cV_P (pc := 14) hX (tX5_column hK.2.1 c.toNat (by omega)) hK.2.1.1 rfl lk_X6_64 rfl rfl (Nat.le_of_ble_eq_true rfl) (by decide) (Nat.zero_le _) (Nat.zero_le _) dX6_ofColumn_14 ?_
      refine x_top (congrArg xR (show 1 + 2 + 3 * c.toNat = 3 + 3 * c.toNat by omega)) ?_
      refine x_astore_n (pc := 17) hX rfl (by decide) rfl rfl dX6_ofColumn_17 ?_
      refine x_iload_n (pc := 18) hX rfl rfl dX6_ofColumn_18 ?_
      rcases (show (w < 0 ∨ 6 < w) ∨ w = 0 ∨ w = 1 ∨ w = 2 ∨ w = 3 ∨ w = 4 ∨ w = 5 ∨ w = 6 by omega) with hsw | hsw | hsw | hsw | hsw | hsw | hsw | hsw
      · refine x_tswOut (pc := 19) (tgt := 111) hX dX6_ofColumn_19 (by omega) hsw (by decide) ?_
        refine x_bipush (pc := 111) hX (by decide) dX6_ofColumn_111 ?_
        refine x_iret (pc := 113) hX rfl (Nat.zero_le _) (Nat.zero_le _) dX6_ofColumn_113 ?_
        refine pX_p ?_ hS
        rw [← hR]
        unfold aOf
        repeat' split
        all_goals first | rfl | (exfalso; omega)
      · refine x_tswIn (pc := 19) (off := 41) (tgt := 60) hX dX6_ofColumn_19 (by omega) (by omega) (by rw [hsw]; rfl) (by decide) ?_
        refine x_aload_n (pc := 60) hX rfl rfl dX6_ofColumn_60 ?_
        refine x_cV_P (pc := 61) hX (tX0_rows hKc hcol) hKc.1 rfl lk_X6_68 rfl rfl (Nat.le_of_ble_eq_true rfl) (by decide) (Nat.zero_le _) (Nat.zero_le _) dX6_ofColumn_61 ?_
        refine x_iret (pc := 64) hX rfl (Nat.zero_le _) (Nat.zero_le _) dX6_ofColumn_64 ?_
        refine pX_p ?_ hS
        rw [← hR]
        unfold aOf
        repeat' split
        all_goals first | rfl | (exfalso; omega)
      · refine x_tswIn (pc := 19) (off := 46) (tgt := 65) hX dX6_ofColumn_19 (by omega) (by omega) (by rw [hsw]; rfl) (by decide) ?_
        refine x_aload_n (pc := 65) hX rfl rfl dX6_ofColumn_65 ?_
        refine x_cV_P (pc := 66) hX (tX0_runs hKc hcol) hKc.1 rfl lk_X6_76 rfl rfl (Nat.le_of_ble_eq_true rfl) (by decide) (Nat.zero_le _) (Nat.zero_le _) dX6_ofColumn_66 ?_
        refine x_iret (pc := 69) hX rfl (Nat.zero_le _) (Nat.zero_le _) dX6_ofColumn_69 ?_
        refine pX_p ?_ hS
        rw [← hR]
        unfold aOf
        repeat' split
        all_goals first | rfl | (exfalso; omega)
      · refine x_tswIn (pc := 19) (off := 51) (tgt := 70) hX dX6_ofColumn_19 (by omega) (by omega) (by rw [hsw]; rfl) (by decide) ?_
        refine x_aload_n (pc := 70) hX rfl rfl dX6_ofColumn_70 ?_
        refine x_cV_P (pc := 71) hX (tX0_sum hKc hcol) hKc.1 rfl lk_X6_126 rfl rfl (Nat.le_of_ble_eq_true rfl) (by decide) (Nat.zero_le _) (Nat.zero_le _) dX6_ofColumn_71 ?_
        refine x_iret (pc := 74) hX rfl (Nat.zero_le _) (Nat.zero_le _) dX6_ofColumn_74 ?_
        refine pX_p ?_ hS
        rw [← hR]
        unfold aOf
        repeat' split
        all_goals first | rfl | (exfalso; omega)
      · refine x_tswIn (pc := 19) (off := 56) (tgt := 75) hX dX6_ofColumn_19 (by omega) (by omega) (by rw [hsw]; rfl) (by decide) ?_
        refine x_aload_n (pc := 75) hX rfl rfl dX6_ofColumn_75 ?_
        refine x_cV_P (pc := 76) hX (tX0_longest hKc hcol) hKc.1 rfl lk_X6_129 rfl rfl (Nat.le_of_ble_eq_true rfl) (by decide) (Nat.zero_le _) (Nat.zero_le _) dX6_ofColumn_76 ?_
        refine x_iret (pc := 79) hX rfl (Nat.zero_le _) (Nat.zero_le _) dX6_ofColumn_79 ?_
        refine pX_p ?_ hS
        rw [← hR]
        unfold aOf
        repeat' split
        all_goals first | rfl | (exfalso; omega)
      · refine x_tswIn (pc := 19) (off := 61) (tgt := 80) hX dX6_ofColumn_19 (by omega) (by omega) (by rw [hsw]; rfl) (by decide) ?_
        refine x_aload_n (pc := 80) hX rfl rfl dX6_ofColumn_80 ?_
        refine x_cV_P (pc := 81) hX (tX0_valueSet hKc hcol) hKc.1 rfl lk_X6_132 rfl rfl (Nat.le_of_ble_eq_true rfl) (by decide) (Nat.zero_le _) (Nat.zero_le _) dX6_ofColumn_81 ?_
        refine x_iret (pc := 84) hX rfl (Nat.zero_le _) (Nat.zero_le _) dX6_ofColumn_84 ?_
        refine pX_p ?_ hS
        rw [← hR]
        unfold aOf
        repeat' split
        all_goals first | rfl | (exfalso; omega)
      · refine x_tswIn (pc := 19) (off := 66) (tgt := 85) hX dX6_ofColumn_19 (by omega) (by omega) (by rw [hsw]; rfl) (by decide) ?_
        refine x_aload_n (pc := 85) hX rfl rfl dX6_ofColumn_85 ?_
        refine x_cV_P (pc := 86) hX (tX0_neverFalls hKc hcol) hKc.1 rfl lk_X6_135 rfl rfl (Nat.le_of_ble_eq_true rfl) (by decide) (Nat.zero_le _) (Nat.zero_le _) dX6_ofColumn_86 ?_
        by_cases hnf : nFall (enc (S.1 c.toNat)) = true
        · rw [if_pos hnf]
          refine x_if_eq (pc := 89) (tgt := 96) hX dX6_ofColumn_89 (by decide) (by omega) (fun h89 => ?_) (fun h89 => ?_)
          · exfalso; omega
          · refine x_iconst (pc := 92) hX dX6_ofColumn_92 ?_
            refine x_goto (pc := 93) (tgt := 97) hX dX6_ofColumn_93 (by decide) ?_
            refine x_iret (pc := 97) hX rfl (Nat.zero_le _) (Nat.zero_le _) dX6_ofColumn_97 ?_
            refine pX_p ?_ hS
            rw [← hR]
            unfold aOf
            repeat' split
            all_goals first | rfl | (exfalso; omega)
        · rw [if_neg hnf]
          refine x_if_eq (pc := 89) (tgt := 96) hX dX6_ofColumn_89 (by decide) (by omega) (fun h89 => ?_) (fun h89 => ?_)
          · refine x_iconst (pc := 96) hX dX6_ofColumn_96 ?_
            refine x_iret (pc := 97) hX rfl (Nat.zero_le _) (Nat.zero_le _) dX6_ofColumn_97 ?_
            refine pX_p ?_ hS
            rw [← hR]
            unfold aOf
            repeat' split
            all_goals first | rfl | (exfalso; omega)
          · exfalso; omega
      · refine x_tswIn (pc := 19) (off := 79) (tgt := 98) hX dX6_ofColumn_19 (by omega) (by omega) (by rw [hsw]; rfl) (by decide) ?_
        refine x_aload_n (pc := 98) hX rfl rfl dX6_ofColumn_98 ?_
        refine x_cV_P (pc := 99) hX (tX0_neverRises hKc hcol) hKc.1 rfl lk_X6_139 rfl rfl (Nat.le_of_ble_eq_true rfl) (by decide) (Nat.zero_le _) (Nat.zero_le _) dX6_ofColumn_99 ?_
        by_cases hnf : nRise (enc (S.1 c.toNat)) = true
        · rw [if_pos hnf]
          refine x_if_eq (pc := 102) (tgt := 109) hX dX6_ofColumn_102 (by decide) (by omega) (fun h102 => ?_) (fun h102 => ?_)
          · exfalso; omega
          · refine x_iconst (pc := 105) hX dX6_ofColumn_105 ?_
            refine x_goto (pc := 106) (tgt := 110) hX dX6_ofColumn_106 (by decide) ?_
            refine x_iret (pc := 110) hX rfl (Nat.zero_le _) (Nat.zero_le _) dX6_ofColumn_110 ?_
            refine pX_p ?_ hS
            rw [← hR]
            unfold aOf
            repeat' split
            all_goals first | rfl | (exfalso; omega)
        · rw [if_neg hnf]
          refine x_if_eq (pc := 102) (tgt := 109) hX dX6_ofColumn_102 (by decide) (by omega) (fun h102 => ?_) (fun h102 => ?_)
          · refine x_iconst (pc := 109) hX dX6_ofColumn_109 ?_
            refine x_iret (pc := 110) hX rfl (Nat.zero_le _) (Nat.zero_le _) dX6_ofColumn_110 ?_
            refine pX_p ?_ hS
            rw [← hR]
            unfold aOf
            repeat' split
            all_goals first | rfl | (exfalso; omega)
          · exfalso; omega
    · exfalso; omega
  · rw [if_neg hcc1]
    refine x_if_ne (pc := 4) (tgt := 9) hX dX6_ofColumn_4 (by decide) (by omega) (fun h4 => ?_) (fun h4 => ?_)
    · exfalso; omega
    · refine x_iconst (pc := 7) hX dX6_ofColumn_7 ?_
      refine x_iret (pc := 8) hX rfl (Nat.zero_le _) (Nat.zero_le _) dX6_ofColumn_8 ?_
      refine pX_p ?_ hS
      rw [← hR]
      unfold aOf
      repeat' split
      all_goals first | rfl | (exfalso; omega)

set_option maxHeartbeats 4000000 in
set_option maxRecDepth 100000 in
theorem tX6_group {G : XG} {κ : XKs} {M : XM} {hs : Nat} (hK : KX κ hs) {S : Sx} (hS : RX M S) (c v w : Int) (hc : InR c) (hv : InR v) (hw : InR w) {R : Int} (hR : aGroup S.1 c v w = R) (hh : 151 ≤ hs) : XC G mX6_group 2 0 0 [xR 0, xI c, xI v, xI w] κ M hs (pX κ M hs R S) := by
  refine XC.intro cdX6_group (by decide) (by decide) (Nat.le_of_ble_eq_true rfl) (loc := [some (xR 0), some (xI c), some (xI v), some (xI w), none]) rfl (fun X hX => ?_)
  have hc0 := hc
  have hv0 := hv
  have hw0 := hw
  unfold InR at hc0 hv0 hw0
  refine x_iload_n (pc := 0) hX rfl rfl dX6_group_0 ?_
  refine x_cS_P (pc := 1) hX (tX6_isColumn c hc) lk_X6_92 rfl rfl (Nat.le_of_ble_eq_true rfl) (by decide) (Nat.zero_le _) (Nat.zero_le _) dX6_group_1 ?_
  by_cases hcc1 : 0 ≤ c ∧ c < 4
  · rw [if_pos hcc1]
    have hcol := hS.ok (i := c.toNat) (by omega)
    have hln := hcol.len
    have hKc := hK.col (i := c.toNat) (by omega)
    refine x_if_ne (pc := 4) (tgt := 9) hX dX6_group_4 (by decide) (by omega) (fun h4 => ?_) (fun h4 => ?_)
    · refine x_iload_n (pc := 9) hX rfl rfl dX6_group_9 ?_
      refine x_cS_P (pc := 10) hX (tX6_isValue v hv) lk_X6_119 rfl rfl (Nat.le_of_ble_eq_true rfl) (by decide) (Nat.zero_le _) (Nat.zero_le _) dX6_group_10 ?_
      by_cases hcv10 : 0 ≤ v ∧ v ≤ 9
      · rw [if_pos hcv10]
        refine x_if_ne (pc := 13) (tgt := 19) hX dX6_group_13 (by decide) (by omega) (fun h13 => ?_) (fun h13 => ?_)
        · refine x_aload_n (pc := 19) hX rfl rfl dX6_group_19 ?_
          refine x_getR (pc := 20) hX fl_X6_12 hK.1 rfl dX6_group_20 ?_
          refine x_iload_n (pc := 23) hX rfl rfl dX6_group_23 ?_
          refine x_top (congrArg xI (show c = ((c.toNat : Nat) : Int) by omega)) ?_
          refine x_cV_P (pc := 24) hX (tX5_column hK.2.1 c.toNat (by omega)) hK.2.1.1 rfl lk_X6_64 rfl rfl (Nat.le_of_ble_eq_true rfl) (by decide) (Nat.zero_le _) (Nat.zero_le _) dX6_group_24 ?_
          refine x_top (congrArg xR (show 1 + 2 + 3 * c.toNat = 3 + 3 * c.toNat by omega)) ?_
          refine x_astore (pc := 27) hX (by decide) rfl rfl dX6_group_27 ?_
          refine x_iload_n (pc := 29) hX rfl rfl dX6_group_29 ?_
          rcases (show (w < 0 ∨ 2 < w) ∨ w = 0 ∨ w = 1 ∨ w = 2 by omega) with hsw | hsw | hsw | hsw
          · refine x_tswOut (pc := 30) (tgt := 77) hX dX6_group_30 (by omega) hsw (by decide) ?_
            refine x_bipush (pc := 77) hX (by decide) dX6_group_77 ?_
            refine x_iret (pc := 79) hX rfl (Nat.zero_le _) (Nat.zero_le _) dX6_group_79 ?_
            refine pX_p ?_ hS
            rw [← hR]
            unfold aGroup
            repeat' split
            all_goals first | rfl | (exfalso; omega)
          · refine x_tswIn (pc := 30) (off := 26) (tgt := 56) hX dX6_group_30 (by omega) (by omega) (by rw [hsw]; rfl) (by decide) ?_
            refine x_aload (pc := 56) hX rfl dX6_group_56 ?_
            refine x_iload_n (pc := 58) hX rfl rfl dX6_group_58 ?_
            refine x_cV_P (pc := 59) hX (tX0_rowsOf hKc hcol v hv) hKc.1 rfl lk_X6_142 rfl rfl (Nat.le_of_ble_eq_true rfl) (by decide) (Nat.zero_le _) (Nat.zero_le _) dX6_group_59 ?_
            refine x_iret (pc := 62) hX rfl (Nat.zero_le _) (Nat.zero_le _) dX6_group_62 ?_
            refine pX_p ?_ hS
            rw [← hR]
            unfold aGroup
            repeat' split
            all_goals first | rfl | (exfalso; omega)
          · refine x_tswIn (pc := 30) (off := 33) (tgt := 63) hX dX6_group_30 (by omega) (by omega) (by rw [hsw]; rfl) (by decide) ?_
            refine x_aload (pc := 63) hX rfl dX6_group_63 ?_
            refine x_iload_n (pc := 65) hX rfl rfl dX6_group_65 ?_
            refine x_cV_P (pc := 66) hX (tX0_runsOf hKc hcol v hv) hKc.1 rfl lk_X6_145 rfl rfl (Nat.le_of_ble_eq_true rfl) (by decide) (Nat.zero_le _) (Nat.zero_le _) dX6_group_66 ?_
            refine x_iret (pc := 69) hX rfl (Nat.zero_le _) (Nat.zero_le _) dX6_group_69 ?_
            refine pX_p ?_ hS
            rw [← hR]
            unfold aGroup
            repeat' split
            all_goals first | rfl | (exfalso; omega)
          · refine x_tswIn (pc := 30) (off := 40) (tgt := 70) hX dX6_group_30 (by omega) (by omega) (by rw [hsw]; rfl) (by decide) ?_
            refine x_aload (pc := 70) hX rfl dX6_group_70 ?_
            refine x_iload_n (pc := 72) hX rfl rfl dX6_group_72 ?_
            refine x_cV_P (pc := 73) hX (tX0_longestOf hKc hcol v hv) hKc.1 rfl lk_X6_148 rfl rfl (Nat.le_of_ble_eq_true rfl) (by decide) (Nat.zero_le _) (Nat.zero_le _) dX6_group_73 ?_
            refine x_iret (pc := 76) hX rfl (Nat.zero_le _) (Nat.zero_le _) dX6_group_76 ?_
            refine pX_p ?_ hS
            rw [← hR]
            unfold aGroup
            repeat' split
            all_goals first | rfl | (exfalso; omega)
        · exfalso; omega
      · rw [if_neg hcv10]
        refine x_if_ne (pc := 13) (tgt := 19) hX dX6_group_13 (by decide) (by omega) (fun h13 => ?_) (fun h13 => ?_)
        · exfalso; omega
        · refine x_bipush (pc := 16) hX (by decide) dX6_group_16 ?_
          refine x_iret (pc := 18) hX rfl (Nat.zero_le _) (Nat.zero_le _) dX6_group_18 ?_
          refine pX_p ?_ hS
          rw [← hR]
          unfold aGroup
          repeat' split
          all_goals first | rfl | (exfalso; omega)
    · exfalso; omega
  · rw [if_neg hcc1]
    refine x_if_ne (pc := 4) (tgt := 9) hX dX6_group_4 (by decide) (by omega) (fun h4 => ?_) (fun h4 => ?_)
    · exfalso; omega
    · refine x_iconst (pc := 7) hX dX6_group_7 ?_
      refine x_iret (pc := 8) hX rfl (Nat.zero_le _) (Nat.zero_le _) dX6_group_8 ?_
      refine pX_p ?_ hS
      rw [← hR]
      unfold aGroup
      repeat' split
      all_goals first | rfl | (exfalso; omega)

set_option maxHeartbeats 4000000 in
set_option maxRecDepth 100000 in
theorem tX6_count {G : XG} {κ : XKs} {M : XM} {hs : Nat} (hK : KX κ hs) {S : Sx} (hS : RX M S) (w : Int) (hw : InR w) {R : Int} (hR : aCount S w = R) (hh : 151 ≤ hs) : XC G mX6_count 2 0 0 [xR 0, xI w] κ M hs (pX κ M hs R S) := by
  refine XC.intro cdX6_count (by decide) (by decide) (Nat.le_of_ble_eq_true rfl) (loc := [some (xR 0), some (xI w)]) rfl (fun X hX => ?_)
  have hw0 := hw
  unfold InR at hw0
  refine x_iload_n (pc := 0) hX rfl rfl dX6_count_0 ?_
  rcases (show (w < 0 ∨ 3 < w) ∨ w = 0 ∨ w = 1 ∨ w = 2 ∨ w = 3 by omega) with hsw | hsw | hsw | hsw | hsw
  · refine x_tswOut (pc := 1) (tgt := 64) hX dX6_count_1 (by omega) hsw (by decide) ?_
    refine x_bipush (pc := 64) hX (by decide) dX6_count_64 ?_
    refine x_iret (pc := 66) hX rfl (Nat.zero_le _) (Nat.zero_le _) dX6_count_66 ?_
    refine pX_p ?_ hS
    rw [← hR]
    unfold aCount
    repeat' split
    all_goals first | rfl | (exfalso; omega)
  · refine x_tswIn (pc := 1) (off := 31) (tgt := 32) hX dX6_count_1 (by omega) (by omega) (by rw [hsw]; rfl) (by decide) ?_
    refine x_aload_n (pc := 32) hX rfl rfl dX6_count_32 ?_
    refine x_getR (pc := 33) hX fl_X6_12 hK.1 rfl dX6_count_33 ?_
    refine x_cV_P (pc := 36) hX (tX5_allRows hK.2.1 hS.1) hK.2.1.1 rfl lk_X6_151 rfl rfl (Nat.le_of_ble_eq_true rfl) (by decide) (Nat.zero_le _) (Nat.zero_le _) dX6_count_36 ?_
    refine x_iret (pc := 39) hX rfl (Nat.zero_le _) (Nat.zero_le _) dX6_count_39 ?_
    refine pX_p ?_ hS
    rw [← hR]
    unfold aCount
    repeat' split
    all_goals first | rfl | (exfalso; omega)
  · refine x_tswIn (pc := 1) (off := 39) (tgt := 40) hX dX6_count_1 (by omega) (by omega) (by rw [hsw]; rfl) (by decide) ?_
    refine x_aload_n (pc := 40) hX rfl rfl dX6_count_40 ?_
    refine x_getR (pc := 41) hX fl_X6_12 hK.1 rfl dX6_count_41 ?_
    refine x_cV_P (pc := 44) hX (tX5_allRuns hK.2.1 hS.1) hK.2.1.1 rfl lk_X6_154 rfl rfl (Nat.le_of_ble_eq_true rfl) (by decide) (Nat.zero_le _) (Nat.zero_le _) dX6_count_44 ?_
    refine x_iret (pc := 47) hX rfl (Nat.zero_le _) (Nat.zero_le _) dX6_count_47 ?_
    refine pX_p ?_ hS
    rw [← hR]
    unfold aCount
    repeat' split
    all_goals first | rfl | (exfalso; omega)
  · refine x_tswIn (pc := 1) (off := 47) (tgt := 48) hX dX6_count_1 (by omega) (by omega) (by rw [hsw]; rfl) (by decide) ?_
    refine x_aload_n (pc := 48) hX rfl rfl dX6_count_48 ?_
    refine x_getR (pc := 49) hX fl_X6_49 hK.1 rfl dX6_count_49 ?_
    refine x_cV_P (pc := 52) hX (tX3_length hK.2.2.2.2.2.2.1 hS.2.2.2) hK.2.2.2.2.2.2.1.1 rfl lk_X6_157 rfl rfl (Nat.le_of_ble_eq_true rfl) (by decide) (Nat.zero_le _) (Nat.zero_le _) dX6_count_52 ?_
    refine x_iret (pc := 55) hX rfl (Nat.zero_le _) (Nat.zero_le _) dX6_count_55 ?_
    refine pX_p ?_ hS
    rw [← hR]
    unfold aCount
    repeat' split
    all_goals first | rfl | (exfalso; omega)
  · refine x_tswIn (pc := 1) (off := 55) (tgt := 56) hX dX6_count_1 (by omega) (by omega) (by rw [hsw]; rfl) (by decide) ?_
    refine x_aload_n (pc := 56) hX rfl rfl dX6_count_56 ?_
    refine x_getR (pc := 57) hX fl_X6_19 hK.1 rfl dX6_count_57 ?_
    refine x_cV_P (pc := 60) hX (tX1_kept hK.2.2.1 hS.2.1) hK.2.2.1.1 rfl lk_X6_162 rfl rfl (Nat.le_of_ble_eq_true rfl) (by decide) (Nat.zero_le _) (Nat.zero_le _) dX6_count_60 ?_
    refine x_iret (pc := 63) hX rfl (Nat.zero_le _) (Nat.zero_le _) dX6_count_63 ?_
    refine pX_p ?_ hS
    rw [← hR]
    unfold aCount
    repeat' split
    all_goals first | rfl | (exfalso; omega)

set_option maxHeartbeats 4000000 in
set_option maxRecDepth 100000 in
theorem tX6_saves {G : XG} {κ : XKs} {M : XM} {hs : Nat} (hK : KX κ hs) {S : Sx} (hS : RX M S) (c : Int) (hc : InR c) {R : Int} (hR : aSaves S.1 c = R) (hh : 151 ≤ hs) : XC G mX6_saves 1 0 0 [xR 0, xI c] κ M hs (pX κ M hs R S) := by
  refine XC.intro cdX6_saves (by decide) (by decide) (Nat.le_of_ble_eq_true rfl) (loc := [some (xR 0), some (xI c), none]) rfl (fun X hX => ?_)
  have hc0 := hc
  unfold InR at hc0
  refine x_iload_n (pc := 0) hX rfl rfl dX6_saves_0 ?_
  refine x_cS_P (pc := 1) hX (tX6_isColumn c hc) lk_X6_92 rfl rfl (Nat.le_of_ble_eq_true rfl) (by decide) (Nat.zero_le _) (Nat.zero_le _) dX6_saves_1 ?_
  by_cases hcc1 : 0 ≤ c ∧ c < 4
  · rw [if_pos hcc1]
    have hcol := hS.ok (i := c.toNat) (by omega)
    have hln := hcol.len
    have hKc := hK.col (i := c.toNat) (by omega)
    refine x_if_ne (pc := 4) (tgt := 9) hX dX6_saves_4 (by decide) (by omega) (fun h4 => ?_) (fun h4 => ?_)
    · refine x_aload_n (pc := 9) hX rfl rfl dX6_saves_9 ?_
      refine x_getR (pc := 10) hX fl_X6_12 hK.1 rfl dX6_saves_10 ?_
      refine x_iload_n (pc := 13) hX rfl rfl dX6_saves_13 ?_
      refine x_top (congrArg xI (show c = ((c.toNat : Nat) : Int) by omega)) ?_
      refine x_cV_P (pc := 14) hX (tX5_column hK.2.1 c.toNat (by omega)) hK.2.1.1 rfl lk_X6_64 rfl rfl (Nat.le_of_ble_eq_true rfl) (by decide) (Nat.zero_le _) (Nat.zero_le _) dX6_saves_14 ?_
      refine x_top (congrArg xR (show 1 + 2 + 3 * c.toNat = 3 + 3 * c.toNat by omega)) ?_
      refine x_astore_n (pc := 17) hX rfl (by decide) rfl rfl dX6_saves_17 ?_
      refine x_aload_n (pc := 18) hX rfl rfl dX6_saves_18 ?_
      refine x_cV_P (pc := 19) hX (tX0_runs hKc hcol) hKc.1 rfl lk_X6_76 rfl rfl (Nat.le_of_ble_eq_true rfl) (by decide) (Nat.zero_le _) (Nat.zero_le _) dX6_saves_19 ?_
      refine x_aload_n (pc := 22) hX rfl rfl dX6_saves_22 ?_
      refine x_cV_P (pc := 23) hX (tX0_valueSet hKc hcol) hKc.1 rfl lk_X6_132 rfl rfl (Nat.le_of_ble_eq_true rfl) (by decide) (Nat.zero_le _) (Nat.zero_le _) dX6_saves_23 ?_
      refine x_cS_P (pc := 26) hX (tJ6_bitCount_0f7a4 (fSet 0 (enc (S.1 c.toNat))) (fSet_lt _ _ (by decide) (fun q hq => hcol.2.2.2 _ (enc_mem hq)))) lk_X6_202 rfl rfl (Nat.le_of_ble_eq_true rfl) (by decide) (Nat.zero_le _) (Nat.zero_le _) dX6_saves_26 ?_
      refine x_isub (pc := 29) hX dX6_saves_29 rfl ?_
      refine x_iret (pc := 30) hX rfl (Nat.zero_le _) (Nat.zero_le _) dX6_saves_30 ?_
      refine pX_p ?_ hS
      rw [← hR]
      unfold aSaves
      repeat' split
      all_goals first | rfl | (exfalso; omega)
    · exfalso; omega
  · rw [if_neg hcc1]
    refine x_if_ne (pc := 4) (tgt := 9) hX dX6_saves_4 (by decide) (by omega) (fun h4 => ?_) (fun h4 => ?_)
    · exfalso; omega
    · refine x_iconst (pc := 7) hX dX6_saves_7 ?_
      refine x_iret (pc := 8) hX rfl (Nat.zero_le _) (Nat.zero_le _) dX6_saves_8 ?_
      refine pX_p ?_ hS
      rw [← hR]
      unfold aSaves
      repeat' split
      all_goals first | rfl | (exfalso; omega)

set_option maxHeartbeats 4000000 in
set_option maxRecDepth 100000 in
theorem tX6_bestSet {G : XG} {κ : XKs} {M : XM} {hs : Nat} (hK : KX κ hs) {S : Sx} (hS : RX M S) (c v w : Int) (hc : InR c) (hv : InR v) (hw : InR w) {R : Int} (hR : aBest S.1 c v w = R) (hh : 151 ≤ hs) : XC G mX6_bestSet 3 0 0 [xR 0, xI c, xI v, xI w] κ M hs (pX κ M hs R S) := by
  refine XC.intro cdX6_bestSet (by decide) (by decide) (Nat.le_of_ble_eq_true rfl) (loc := [some (xR 0), some (xI c), some (xI v), some (xI w), none, none]) rfl (fun X hX => ?_)
  have hc0 := hc
  have hv0 := hv
  have hw0 := hw
  unfold InR at hc0 hv0 hw0
  refine x_iload_n (pc := 0) hX rfl rfl dX6_bestSet_0 ?_
  refine x_cS_P (pc := 1) hX (tX6_isColumn c hc) lk_X6_92 rfl rfl (Nat.le_of_ble_eq_true rfl) (by decide) (Nat.zero_le _) (Nat.zero_le _) dX6_bestSet_1 ?_
  by_cases hcc1 : 0 ≤ c ∧ c < 4
  · rw [if_pos hcc1]
    have hcol := hS.ok (i := c.toNat) (by omega)
    have hln := hcol.len
    have hKc := hK.col (i := c.toNat) (by omega)
    refine x_if_ne (pc := 4) (tgt := 9) hX dX6_bestSet_4 (by decide) (by omega) (fun h4 => ?_) (fun h4 => ?_)
    · refine x_iload_n (pc := 9) hX rfl rfl dX6_bestSet_9 ?_
      refine x_cS_P (pc := 10) hX (tX6_isValue v hv) lk_X6_119 rfl rfl (Nat.le_of_ble_eq_true rfl) (by decide) (Nat.zero_le _) (Nat.zero_le _) dX6_bestSet_10 ?_
      by_cases hcv10 : 0 ≤ v ∧ v ≤ 9
      · rw [if_pos hcv10]
        refine x_if_eq (pc := 13) (tgt := 25) hX dX6_bestSet_13 (by decide) (by omega) (fun h13 => ?_) (fun h13 => ?_)
        · exfalso; omega
        · refine x_iload_n (pc := 16) hX rfl rfl dX6_bestSet_16 ?_
          refine x_if_lt (pc := 17) (tgt := 25) hX dX6_bestSet_17 (by decide) (by omega) (fun h17 => ?_) (fun h17 => ?_)
          · refine x_bipush (pc := 25) hX (by decide) dX6_bestSet_25 ?_
            refine x_iret (pc := 27) hX rfl (Nat.zero_le _) (Nat.zero_le _) dX6_bestSet_27 ?_
            refine pX_p ?_ hS
            rw [← hR]
            unfold aBest
            repeat' split
            all_goals first | rfl | (exfalso; omega)
          · refine x_iload_n (pc := 20) hX rfl rfl dX6_bestSet_20 ?_
            refine x_iconst (pc := 21) hX dX6_bestSet_21 ?_
            refine x_icmp_le (pc := 22) (tgt := 28) hX dX6_bestSet_22 (by decide) (by omega) (fun h22 => ?_) (fun h22 => ?_)
            · refine x_aload_n (pc := 28) hX rfl rfl dX6_bestSet_28 ?_
              refine x_getR (pc := 29) hX fl_X6_12 hK.1 rfl dX6_bestSet_29 ?_
              refine x_iload_n (pc := 32) hX rfl rfl dX6_bestSet_32 ?_
              refine x_top (congrArg xI (show c = ((c.toNat : Nat) : Int) by omega)) ?_
              refine x_cV_P (pc := 33) hX (tX5_column hK.2.1 c.toNat (by omega)) hK.2.1.1 rfl lk_X6_64 rfl rfl (Nat.le_of_ble_eq_true rfl) (by decide) (Nat.zero_le _) (Nat.zero_le _) dX6_bestSet_33 ?_
              refine x_top (congrArg xR (show 1 + 2 + 3 * c.toNat = 3 + 3 * c.toNat by omega)) ?_
              refine x_astore (pc := 36) hX (by decide) rfl rfl dX6_bestSet_36 ?_
              refine x_aload (pc := 38) hX rfl dX6_bestSet_38 ?_
              refine x_cV_P (pc := 40) hX (tX0_rows hKc hcol) hKc.1 rfl lk_X6_68 rfl rfl (Nat.le_of_ble_eq_true rfl) (by decide) (Nat.zero_le _) (Nat.zero_le _) dX6_bestSet_40 ?_
              refine x_if_ne (pc := 43) (tgt := 49) hX dX6_bestSet_43 (by decide) (by omega) (fun h43 => ?_) (fun h43 => ?_)
              · have hpos : 0 < (S.1 c.toNat).length := by omega
                refine x_aload (pc := 49) hX rfl dX6_bestSet_49 ?_
                refine x_iload_n (pc := 51) hX rfl rfl dX6_bestSet_51 ?_
                refine x_cV_P (pc := 52) hX (tX0_bestRowToSet hKc hcol hpos v hv) hKc.1 rfl lk_X6_207 rfl rfl (Nat.le_of_ble_eq_true rfl) (by decide) (Nat.zero_le _) (Nat.zero_le _) dX6_bestSet_52 ?_
                refine x_istore (pc := 55) hX (by decide) rfl rfl dX6_bestSet_55 ?_
                refine x_iload_n (pc := 57) hX rfl rfl dX6_bestSet_57 ?_
                refine x_if_ne (pc := 58) (tgt := 66) hX dX6_bestSet_58 (by decide) (by omega) (fun h58 => ?_) (fun h58 => ?_)
                · refine x_aload (pc := 66) hX rfl dX6_bestSet_66 ?_
                  refine x_iload (pc := 68) hX rfl dX6_bestSet_68 ?_
                  refine x_iload_n (pc := 70) hX rfl rfl dX6_bestSet_70 ?_
                  refine x_cV_P (pc := 71) hX (tX0_runsAfterSet hKc hcol (fBest (enc (S.1 c.toNat)) v 0 (0, asets (enc (S.1 c.toNat)) 0 v) (enc (S.1 c.toNat))).1 (fBest_lt hcol hpos v) v hv) hKc.1 rfl lk_X6_210 rfl rfl (Nat.le_of_ble_eq_true rfl) (by decide) (Nat.zero_le _) (Nat.zero_le _) dX6_bestSet_71 ?_
                  refine x_iret (pc := 74) hX rfl (Nat.zero_le _) (Nat.zero_le _) dX6_bestSet_74 ?_
                  refine pX_p ?_ hS
                  rw [← hR]
                  unfold aBest
                  repeat' split
                  all_goals first | rfl | (exfalso; omega)
                · refine x_iload (pc := 61) hX rfl dX6_bestSet_61 ?_
                  refine x_goto (pc := 63) (tgt := 74) hX dX6_bestSet_63 (by decide) ?_
                  refine x_iret (pc := 74) hX rfl (Nat.zero_le _) (Nat.zero_le _) dX6_bestSet_74 ?_
                  refine pX_p ?_ hS
                  rw [← hR]
                  unfold aBest
                  repeat' split
                  all_goals first | rfl | (exfalso; omega)
              · refine x_bipush (pc := 46) hX (by decide) dX6_bestSet_46 ?_
                refine x_iret (pc := 48) hX rfl (Nat.zero_le _) (Nat.zero_le _) dX6_bestSet_48 ?_
                refine pX_p ?_ hS
                rw [← hR]
                unfold aBest
                repeat' split
                all_goals first | rfl | (exfalso; omega)
            · refine x_bipush (pc := 25) hX (by decide) dX6_bestSet_25 ?_
              refine x_iret (pc := 27) hX rfl (Nat.zero_le _) (Nat.zero_le _) dX6_bestSet_27 ?_
              refine pX_p ?_ hS
              rw [← hR]
              unfold aBest
              repeat' split
              all_goals first | rfl | (exfalso; omega)
      · rw [if_neg hcv10]
        refine x_if_eq (pc := 13) (tgt := 25) hX dX6_bestSet_13 (by decide) (by omega) (fun h13 => ?_) (fun h13 => ?_)
        · refine x_bipush (pc := 25) hX (by decide) dX6_bestSet_25 ?_
          refine x_iret (pc := 27) hX rfl (Nat.zero_le _) (Nat.zero_le _) dX6_bestSet_27 ?_
          refine pX_p ?_ hS
          rw [← hR]
          unfold aBest
          repeat' split
          all_goals first | rfl | (exfalso; omega)
        · exfalso; omega
    · exfalso; omega
  · rw [if_neg hcc1]
    refine x_if_ne (pc := 4) (tgt := 9) hX dX6_bestSet_4 (by decide) (by omega) (fun h4 => ?_) (fun h4 => ?_)
    · exfalso; omega
    · refine x_iconst (pc := 7) hX dX6_bestSet_7 ?_
      refine x_iret (pc := 8) hX rfl (Nat.zero_le _) (Nat.zero_le _) dX6_bestSet_8 ?_
      refine pX_p ?_ hS
      rw [← hR]
      unfold aBest
      repeat' split
      all_goals first | rfl | (exfalso; omega)

set_option maxHeartbeats 4000000 in
set_option maxRecDepth 100000 in
theorem tX6_alike {G : XG} {κ : XKs} {M : XM} {hs : Nat} (hK : KX κ hs) {S : Sx} (hS : RX M S) (a b : Int) (ha : InR a) (hb : InR b) {R : Int} (hR : aAlike S.1 a b = R) (hh : 151 ≤ hs) : XC G mX6_alike 1 0 0 [xR 0, xI a, xI b] κ M hs (pX κ M hs R S) := by
  refine XC.intro cdX6_alike (by decide) (by decide) (Nat.le_of_ble_eq_true rfl) (loc := [some (xR 0), some (xI a), some (xI b), none, none]) rfl (fun X hX => ?_)
  have ha0 := ha
  have hb0 := hb
  unfold InR at ha0 hb0
  unfold aAlike at hR
  refine x_iload_n (pc := 0) hX rfl rfl dX6_alike_0 ?_
  refine x_cS_P (pc := 1) hX (tX6_isColumn a ha) lk_X6_92 rfl rfl (Nat.le_of_ble_eq_true rfl) (by decide) (Nat.zero_le _) (Nat.zero_le _) dX6_alike_1 ?_
  by_cases hca1 : 0 ≤ a ∧ a < 4
  · rw [if_pos hca1]
    refine x_if_eq (pc := 4) (tgt := 14) hX dX6_alike_4 (by decide) (by omega) (fun h4 => ?_) (fun h4 => ?_)
    · exfalso; omega
    · refine x_iload_n (pc := 7) hX rfl rfl dX6_alike_7 ?_
      refine x_cS_P (pc := 8) hX (tX6_isColumn b hb) lk_X6_92 rfl rfl (Nat.le_of_ble_eq_true rfl) (by decide) (Nat.zero_le _) (Nat.zero_le _) dX6_alike_8 ?_
      by_cases hcb8 : 0 ≤ b ∧ b < 4
      · rw [if_pos hcb8]
        rw [if_neg (by omega)] at hR
        have loop : ∀ (n k : Nat), k ≤ 10 → 10 < k + n → XW G X mX6_alike (xq G (pX κ M hs R S) 0 0 X) 0 0 21 [some (xR 0), some (xI a), some (xI b), some (xI (sumTo (fun v => fRows (v : Int) 0 (enc (S.1 a.toNat)) * fRows (v : Int) 0 (enc (S.1 b.toNat))) k)), some (xI (k : Int))] [] κ M hs := by
          intro n
          induction n with
          | zero => intro k h1 h2; omega
          | succ n ih =>
            intro k h1 h2
            refine x_iload (pc := 21) hX rfl dX6_alike_21 ?_
            refine x_bipush (pc := 23) hX (by decide) dX6_alike_23 ?_
            refine x_icmp_ge (pc := 25) (tgt := 64) hX dX6_alike_25 (by decide) (by omega) (fun h25 => ?_) (fun h25 => ?_)
            · refine x_iload_n (pc := 64) hX rfl rfl dX6_alike_64 ?_
              refine x_iret (pc := 65) hX rfl (Nat.zero_le _) (Nat.zero_le _) dX6_alike_65 ?_
              obtain rfl : k = 10 := by omega
              exact pX_p hR hS
            · have hk10 : k < 10 := by omega
              refine x_iload_n (pc := 28) hX rfl rfl dX6_alike_28 ?_
              refine x_aload_n (pc := 29) hX rfl rfl dX6_alike_29 ?_
              refine x_getR (pc := 30) hX fl_X6_12 hK.1 rfl dX6_alike_30 ?_
              refine x_iload_n (pc := 33) hX rfl rfl dX6_alike_33 ?_
              refine x_top (congrArg xI (show a = ((a.toNat : Nat) : Int) by omega)) ?_
              refine x_cV_P (pc := 34) hX (tX5_column hK.2.1 a.toNat (by omega)) hK.2.1.1 rfl lk_X6_64 rfl rfl (Nat.le_of_ble_eq_true rfl) (by decide) (Nat.zero_le _) (Nat.zero_le _) dX6_alike_34 ?_
              refine x_top (congrArg xR (show 1 + 2 + 3 * a.toNat = 3 + 3 * a.toNat by omega)) ?_
              refine x_iload (pc := 37) hX rfl dX6_alike_37 ?_
              refine x_cV_P (pc := 39) hX (tX0_rowsOf (hK.col (i := a.toNat) (by omega)) (hS.ok (i := a.toNat) (by omega)) (k : Int) (by unfold InR; omega)) (hK.col (i := a.toNat) (by omega)).1 rfl lk_X6_142 rfl rfl (Nat.le_of_ble_eq_true rfl) (by decide) (Nat.zero_le _) (Nat.zero_le _) dX6_alike_39 ?_
              refine x_aload_n (pc := 42) hX rfl rfl dX6_alike_42 ?_
              refine x_getR (pc := 43) hX fl_X6_12 hK.1 rfl dX6_alike_43 ?_
              refine x_iload_n (pc := 46) hX rfl rfl dX6_alike_46 ?_
              refine x_top (congrArg xI (show b = ((b.toNat : Nat) : Int) by omega)) ?_
              refine x_cV_P (pc := 47) hX (tX5_column hK.2.1 b.toNat (by omega)) hK.2.1.1 rfl lk_X6_64 rfl rfl (Nat.le_of_ble_eq_true rfl) (by decide) (Nat.zero_le _) (Nat.zero_le _) dX6_alike_47 ?_
              refine x_top (congrArg xR (show 1 + 2 + 3 * b.toNat = 3 + 3 * b.toNat by omega)) ?_
              refine x_iload (pc := 50) hX rfl dX6_alike_50 ?_
              refine x_cV_P (pc := 52) hX (tX0_rowsOf (hK.col (i := b.toNat) (by omega)) (hS.ok (i := b.toNat) (by omega)) (k : Int) (by unfold InR; omega)) (hK.col (i := b.toNat) (by omega)).1 rfl lk_X6_142 rfl rfl (Nat.le_of_ble_eq_true rfl) (by decide) (Nat.zero_le _) (Nat.zero_le _) dX6_alike_52 ?_
              refine x_imul (pc := 55) hX dX6_alike_55 rfl ?_
              refine x_iadd (pc := 56) (v := sumTo (fun v => fRows (v : Int) 0 (enc (S.1 a.toNat)) * fRows (v : Int) 0 (enc (S.1 b.toNat))) (k + 1)) hX dX6_alike_56 rfl ?_
              refine x_istore_n (pc := 57) hX rfl (by decide) rfl rfl dX6_alike_57 ?_
              refine x_iinc (pc := 58) (v := ((k + 1 : Nat) : Int)) hX dX6_alike_58 rfl (by decide) rfl (by omega) rfl ?_
              refine x_goto (pc := 61) (tgt := 21) hX dX6_alike_61 (by decide) ?_
              exact ih (k + 1) (by omega) (by omega)
        refine x_if_ne (pc := 11) (tgt := 16) hX dX6_alike_11 (by decide) (by omega) (fun h11 => ?_) (fun h11 => ?_)
        · refine x_iconst (pc := 16) hX dX6_alike_16 ?_
          refine x_istore_n (pc := 17) hX rfl (by decide) rfl rfl dX6_alike_17 ?_
          refine x_iconst (pc := 18) hX dX6_alike_18 ?_
          refine x_istore (pc := 19) hX (by decide) rfl rfl dX6_alike_19 ?_
          exact loop 11 0 (by omega) (by omega)
        · exfalso; omega
      · rw [if_neg hcb8]
        refine x_if_ne (pc := 11) (tgt := 16) hX dX6_alike_11 (by decide) (by omega) (fun h11 => ?_) (fun h11 => ?_)
        · exfalso; omega
        · refine x_iconst (pc := 14) hX dX6_alike_14 ?_
          refine x_iret (pc := 15) hX rfl (Nat.zero_le _) (Nat.zero_le _) dX6_alike_15 ?_
          rw [if_pos (by omega)] at hR
          exact pX_p hR hS
  · rw [if_neg hca1]
    refine x_if_eq (pc := 4) (tgt := 14) hX dX6_alike_4 (by decide) (by omega) (fun h4 => ?_) (fun h4 => ?_)
    · refine x_iconst (pc := 14) hX dX6_alike_14 ?_
      refine x_iret (pc := 15) hX rfl (Nat.zero_le _) (Nat.zero_le _) dX6_alike_15 ?_
      rw [if_pos (by omega)] at hR
      exact pX_p hR hS
    · exfalso; omega

