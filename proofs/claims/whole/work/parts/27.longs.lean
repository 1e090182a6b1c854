/-! longs: bits (family wb_ of the kit's laws), rows -/
theorem wb_tb (n : Nat) : (lN n).toBitVec = BitVec.ofNat 64 n := rfl
theorem wb_inj {a b : Int64} (h : a.toBitVec = b.toBitVec) : a = b := Int64.toBitVec_inj.mp h
theorem wb_tn {n : Nat} (h : n < 2 ^ 64) : (lN n).toBitVec.toNat = n := by rw [wb_tb, BitVec.toNat_ofNat, Nat.mod_eq_of_lt h]
theorem wb_of (x : Int64) : ∃ n, n < 2 ^ 64 ∧ x = lN n := ⟨x.toBitVec.toNat, x.toBitVec.isLt, wb_inj (by rw [wb_tb]; simp)⟩
theorem wb_of32 (x : Int32) : ∃ n, n < 2 ^ 32 ∧ x = nI n := ⟨x.toBitVec.toNat, x.toBitVec.isLt, Int32.toBitVec_inj.mp (by show _ = BitVec.ofNat 32 _; simp)⟩
theorem wb_c : ∀ k, k < 64 → ((nI k).toInt64 &&& 63) = lN k := by decide +kernel
theorem wb_cu : ∀ k, k < 64 → ((nI k).toInt64.toUInt64 &&& Int64.toUInt64 63) = UInt64.ofNat k := by decide +kernel
theorem wb_sm : ∀ k, k < 64 → (BitVec.ofNat 64 k).smod 64 = BitVec.ofNat 64 k := by decide +kernel
theorem wb_pw {a b : Nat} (h : a ≤ b) : 2 ^ b = 2 ^ a * 2 ^ (b - a) := by rw [← Nat.pow_add]; congr 1; omega
theorem wb_lt2 {a b : Nat} (h : a < b) : 2 ^ a < 2 ^ b := Nat.pow_lt_pow_right (by decide) h
theorem wb_mod (n : Nat) : lN n = lN (n % 2 ^ 64) := wb_inj (by rw [wb_tb, wb_tb]; apply BitVec.eq_of_toNat_eq; rw [BitVec.toNat_ofNat, BitVec.toNat_ofNat, Nat.mod_mod])
theorem wb_shr {n k : Nat} (hn : n < 2 ^ 64) (hk : k < 64) : ((lN n).toUInt64 >>> ((nI k).toInt64.toUInt64 &&& Int64.toUInt64 63)).toInt64 = lN (n / 2 ^ k) := by
  rw [wb_cu k hk]
  apply wb_inj
  apply BitVec.eq_of_toNat_eq
  show ((lN n).toUInt64 >>> UInt64.ofNat k).toNat = (BitVec.ofNat 64 _).toNat
  have h1 : (UInt64.ofNat k).toNat = k := by
    show (BitVec.ofNat 64 k).toNat = k
    rw [BitVec.toNat_ofNat, Nat.mod_eq_of_lt (by omega)]
  have h2 : (lN n).toUInt64.toNat = n := wb_tn hn
  rw [UInt64.toNat_shiftRight, h1, h2, Nat.mod_eq_of_lt hk, Nat.shiftRight_eq_div_pow, BitVec.toNat_ofNat, Nat.mod_eq_of_lt (Nat.lt_of_le_of_lt (Nat.div_le_self _ _) hn)]
theorem wb_shl (n : Nat) {k : Nat} (hk : k < 64) : lN n <<< ((nI k).toInt64 &&& 63) = lN (n * 2 ^ k) := by
  rw [wb_c k hk]
  apply wb_inj
  rw [Int64.toBitVec_shiftLeft, wb_tb, wb_tb, wb_tb, wb_sm k hk]
  apply BitVec.eq_of_toNat_eq
  rw [BitVec.shiftLeft_eq', BitVec.toNat_shiftLeft, BitVec.toNat_ofNat, BitVec.toNat_ofNat, BitVec.toNat_ofNat, Nat.mod_eq_of_lt (show k < 2 ^ 64 by omega), Nat.shiftLeft_eq, Nat.mul_mod, Nat.mod_mod, ← Nat.mul_mod]
theorem wb_and {a b : Nat} (ha : a < 2 ^ 64) (hb : b < 2 ^ 64) : lN a &&& lN b = lN (a &&& b) := by
  apply wb_inj
  rw [Int64.toBitVec_and, wb_tb, wb_tb, wb_tb]
  apply BitVec.eq_of_toNat_eq
  rw [BitVec.toNat_and, BitVec.toNat_ofNat, BitVec.toNat_ofNat, BitVec.toNat_ofNat, Nat.mod_eq_of_lt ha, Nat.mod_eq_of_lt hb, Nat.mod_eq_of_lt (Nat.and_lt_two_pow _ hb)]
theorem wb_or {a b : Nat} (ha : a < 2 ^ 64) (hb : b < 2 ^ 64) : lN a ||| lN b = lN (a ||| b) := by
  apply wb_inj
  rw [Int64.toBitVec_or, wb_tb, wb_tb, wb_tb]
  apply BitVec.eq_of_toNat_eq
  rw [BitVec.toNat_or, BitVec.toNat_ofNat, BitVec.toNat_ofNat, BitVec.toNat_ofNat, Nat.mod_eq_of_lt ha, Nat.mod_eq_of_lt hb, Nat.mod_eq_of_lt (Nat.or_lt_two_pow ha hb)]
theorem wb_mask {n k : Nat} (hn : n < 2 ^ 64) (hk : k < 64) : lN n &&& lN (2 ^ k - 1) = lN (n % 2 ^ k) := by
  rw [wb_and hn (by have := wb_lt2 hk; omega), Nat.and_two_pow_sub_one_eq_mod]
theorem wb_a1 {n : Nat} (hn : n < 2 ^ 64) : lN n &&& 1 = lN (n % 2) := wb_mask (k := 1) hn (by decide)
section XR5
variable {G : XG} {md : XD} {d mc ms : Nat} {X : XX} {Q : State → Prop} {k n pc : Nat} {loc : List (Option XV)} {st rest : List XV} {κ : XKs} {M : XM} {hs : Nat}
theorem x_ldc2 (hX : Xx G md d mc ms X) {idx : Nat} {z : Int64} (hw : Cond.constantLong md.1.cls idx z ∈ lw_g) (hdg : decode md.2.1 pc = .ok (.ldc2_w idx, 3)) (kk : XW G X md Q k n (pc + 3) loc (xV (.long z) :: st) κ M hs) : XW G X md Q k n pc loc st κ M hs := by
  obtain ⟨p, l, e, R, s, m, args, below, meth, c⟩ := X
  intro H locs ls hH hS hl
  exact lv_ldc2 hX.1 hX.2.1 hX.2.2.2.2.1 (hX.2.2.2.2.2.1 _ hw) hdg (kk H locs ls hH hS hl)
theorem x_lconst (hX : Xx G md d mc ms X) {j : Fin 2} {z : Int64} (hz : Int64.ofNat (j : Nat) = z) (hdg : decode md.2.1 pc = .ok (.lconst j, 1)) (kk : XW G X md Q k n (pc + 1) loc (xV (.long z) :: st) κ M hs) : XW G X md Q k n pc loc st κ M hs := by
  obtain ⟨p, l, e, R, s, m, args, below, meth, c⟩ := X
  intro H locs ls hH hS hl
  exact lv_lconst hX.1 hX.2.1 hdg hz (kk H locs ls hH hS hl)
theorem x_land (hX : Xx G md d mc ms X) {x y v : Int64} (hv : x &&& y = v) (hdg : decode md.2.1 pc = .ok (.land, 1)) (kk : XW G X md Q k n (pc + 1) loc (xV (.long v) :: st) κ M hs) : XW G X md Q k n pc loc (xV (.long y) :: xV (.long x) :: st) κ M hs := by
  obtain ⟨p, l, e, R, s, m, args, below, meth, c⟩ := X
  intro H locs ls hH hS hl
  subst hv
  exact lv_land hX.1 hX.2.1 hdg (kk H locs ls hH hS hl)
theorem x_lor (hX : Xx G md d mc ms X) {x y v : Int64} (hv : x ||| y = v) (hdg : decode md.2.1 pc = .ok (.lor, 1)) (kk : XW G X md Q k n (pc + 1) loc (xV (.long v) :: st) κ M hs) : XW G X md Q k n pc loc (xV (.long y) :: xV (.long x) :: st) κ M hs := by
  obtain ⟨p, l, e, R, s, m, args, below, meth, c⟩ := X
  intro H locs ls hH hS hl
  subst hv
  exact lv_lor hX.1 hX.2.1 hdg (kk H locs ls hH hS hl)
theorem x_lushr (hX : Xx G md d mc ms X) {x v : Int64} {b : Int} (hv : (x.toUInt64 >>> ((Int32.ofInt b).toInt64.toUInt64 &&& Int64.toUInt64 63)).toInt64 = v) (hdg : decode md.2.1 pc = .ok (.lushr, 1)) (kk : XW G X md Q k n (pc + 1) loc (xV (.long v) :: st) κ M hs) : XW G X md Q k n pc loc (xI b :: xV (.long x) :: st) κ M hs := by
  obtain ⟨p, l, e, R, s, m, args, below, meth, c⟩ := X
  intro H locs ls hH hS hl
  exact lv_lushr hX.1 hX.2.1 hdg hv (kk H locs ls hH hS hl)
theorem x_lshl (hX : Xx G md d mc ms X) {x v : Int64} {b : Int} (hv : x <<< ((Int32.ofInt b).toInt64 &&& 63) = v) (hdg : decode md.2.1 pc = .ok (.lshl, 1)) (kk : XW G X md Q k n (pc + 1) loc (xV (.long v) :: st) κ M hs) : XW G X md Q k n pc loc (xI b :: xV (.long x) :: st) κ M hs := by
  obtain ⟨p, l, e, R, s, m, args, below, meth, c⟩ := X
  intro H locs ls hH hS hl
  exact lv_lshl hX.1 hX.2.1 hdg hv (kk H locs ls hH hS hl)
theorem x_lcmp (hX : Xx G md d mc ms X) {x y : Int64} {a : Int} (hv : lg_cmp x y = Int32.ofInt a) (hdg : decode md.2.1 pc = .ok (.lcmp, 1)) (kk : XW G X md Q k n (pc + 1) loc (xI a :: st) κ M hs) : XW G X md Q k n pc loc (xV (.long y) :: xV (.long x) :: st) κ M hs := by
  obtain ⟨p, l, e, R, s, m, args, below, meth, c⟩ := X
  intro H locs ls hH hS hl
  have k2 := kk H locs ls hH hS hl
  have e9 : xt G.2.2 (xI a) = .int (lg_cmp x y) := congrArg Value.int hv.symm
  rw [List.map_cons, e9] at k2
  exact W.lcmp hX.1 hX.2.1 hdg k2
theorem x_l2i (hX : Xx G md d mc ms X) {x : Int64} {a : Int} (hv : x.toInt32 = Int32.ofInt a) (hdg : decode md.2.1 pc = .ok (.l2i, 1)) (kk : XW G X md Q k n (pc + 1) loc (xI a :: st) κ M hs) : XW G X md Q k n pc loc (xV (.long x) :: st) κ M hs := by
  obtain ⟨p, l, e, R, s, m, args, below, meth, c⟩ := X
  intro H locs ls hH hS hl
  exact lv_l2i hX.1 hX.2.1 hdg hv (kk H locs ls hH hS hl)
theorem x_i2l (hX : Xx G md d mc ms X) {a : Int} {v : Int64} (hv : (Int32.ofInt a).toInt64 = v) (hdg : decode md.2.1 pc = .ok (.i2l, 1)) (kk : XW G X md Q k n (pc + 1) loc (xV (.long v) :: st) κ M hs) : XW G X md Q k n pc loc (xI a :: st) κ M hs := by
  obtain ⟨p, l, e, R, s, m, args, below, meth, c⟩ := X
  intro H locs ls hH hS hl
  exact lv_i2l hX.1 hX.2.1 hdg hv (kk H locs ls hH hS hl)
theorem x_i2c (hX : Xx G md d mc ms X) {a v : Int} (hv : ((Int32.ofInt a).toUInt32 % 65536).toInt32 = Int32.ofInt v) (hdg : decode md.2.1 pc = .ok (.i2c, 1)) (kk : XW G X md Q k n (pc + 1) loc (xI v :: st) κ M hs) : XW G X md Q k n pc loc (xI a :: st) κ M hs := by
  obtain ⟨p, l, e, R, s, m, args, below, meth, c⟩ := X
  intro H locs ls hH hS hl
  exact lv_i2c hX.1 hX.2.1 hdg hv (kk H locs ls hH hS hl)
end XR5
theorem xlt64 {a b : Nat} (ha : a < 2 ^ 63) (hb : b < 2 ^ 63) : lg_cmp (lN a) (lN b) = Int32.ofInt (if b < a then 1 else if a = b then 0 else -1) := by
  unfold lg_cmp
  by_cases h1 : b < a
  · rw [if_pos ((pk_lLT hb ha).mpr h1), if_pos h1]
    rfl
  · rw [if_neg (fun z => h1 ((pk_lLT hb ha).mp z)), if_neg h1]
    by_cases h2 : a = b
    · rw [if_pos ((pk_lEQ ha hb).mpr h2), if_pos h2]
      rfl
    · rw [if_neg (fun z => h2 ((pk_lEQ ha hb).mp z)), if_neg h2]
      rfl
theorem xeq64 {a : Nat} (ha : a < 2 ^ 64) : ∃ z : Int, lg_cmp (lN a) 0 = Int32.ofInt z ∧ (z = 0 ↔ a = 0) ∧ -1 ≤ z ∧ z ≤ 1 := by
  have e0 : lN a = 0 ↔ a = 0 := by
    constructor
    · intro h
      have h2 := congrArg (fun x : Int64 => x.toBitVec.toNat) h
      simp only [wb_tn ha] at h2
      exact h2
    · intro h
      rw [h]
      rfl
  unfold lg_cmp
  by_cases h1 : (0 : Int64) < lN a
  · rw [if_pos h1]
    refine ⟨1, rfl, ⟨fun z => by omega, fun z => ?_⟩, by omega, by omega⟩
    rw [e0.mpr z] at h1
    exact absurd h1 (by decide)
  · rw [if_neg h1]
    by_cases h2 : lN a = 0
    · rw [if_pos h2]
      exact ⟨0, rfl, ⟨fun _ => e0.mp h2, fun _ => rfl⟩, by omega, by omega⟩
    · rw [if_neg h2]
      exact ⟨-1, rfl, ⟨fun z => by omega, fun z => absurd (e0.mpr z) h2⟩, by omega, by omega⟩
theorem xand255 {n : Nat} (hn : n < 2 ^ 64) : lN n &&& 255 = lN (n % 256) := wb_mask (k := 8) hn (by decide)
theorem xshr8 {n : Nat} (k : Nat) (hn : n < 2 ^ 64) (hk : k < 8) : ((lN n).toUInt64 >>> ((Int32.ofInt ((8 * k : Nat) : Int)).toInt64.toUInt64 &&& Int64.toUInt64 63)).toInt64 = lN (n / 256 ^ k) := by
  have h := wb_shr (n := n) (k := 8 * k) hn (by omega)
  rw [Nat.pow_mul] at h
  rw [Int32.ofInt_eq_ofNat]
  exact h
theorem xi2c : ∀ n : Nat, n < 256 → ((Int32.ofInt (n : Int)).toUInt32 % 65536).toInt32 = Int32.ofInt (n : Int) := by decide +kernel
theorem xl2i (n : Nat) : (lN n).toInt32 = Int32.ofInt (n : Int) := by
  rw [Int32.ofInt_eq_ofNat]
  exact lN_i n
