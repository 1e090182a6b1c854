/-! JoinedRuns: its cells, its state; the JDK's fill and bitCount -/
section XR4
variable {G : XG} {md : XD} {d mc ms : Nat} {X : XX} {Q : State → Prop} {k n pc : Nat} {loc : List (Option XV)} {st rest : List XV} {κ : XKs} {M : XM} {hs : Nat}
theorem x_tn {a b : Int} (e : Int32.ofInt a = Int32.ofInt b) (kk : XW G X md Q k n pc loc (xI b :: st) κ M hs) : XW G X md Q k n pc loc (xI a :: st) κ M hs := by
  obtain ⟨p, l, e', R, s, m, args, below, meth, c⟩ := X
  intro H locs ls hH hS hl
  have k2 := kk H locs ls hH hS hl
  rw [List.map_cons, show xt G.2.2 (xI b) = xt G.2.2 (xI a) from congrArg Value.int e.symm] at k2
  exact k2
theorem x_iushr (hX : Xx G md d mc ms X) {a b v : Int} (hdg : decode md.2.1 pc = .ok (.iushr, 1)) (hv : Int32.ofInt v = ((Int32.ofInt a).toUInt32 >>> ((Int32.ofInt b).toUInt32 &&& Int32.toUInt32 31)).toInt32) (kk : XW G X md Q k n (pc + 1) loc (xI v :: st) κ M hs) : XW G X md Q k n pc loc (xI b :: xI a :: st) κ M hs := by
  obtain ⟨p, l, e, R, s, m, args, below, meth, c⟩ := X
  intro H locs ls hH hS hl
  have k2 := kk H locs ls hH hS hl
  have e9 : xt G.2.2 (xI v) = .int (((Int32.ofInt a).toUInt32 >>> ((Int32.ofInt b).toUInt32 &&& Int32.toUInt32 31)).toInt32) := congrArg Value.int hv
  rw [List.map_cons, e9] at k2
  exact lv_iushr hX.1 hX.2.1 hdg rfl k2
theorem x_ldc_w (hX : Xx G md d mc ms X) {idx : Nat} {v : Int} (hw : Cond.constant md.1.cls idx (Int32.ofInt v) ∈ lw_g) (hdg : decode md.2.1 pc = .ok (.ldc_w idx, 3)) (kk : XW G X md Q k n (pc + 3) loc (xI v :: st) κ M hs) : XW G X md Q k n pc loc st κ M hs := by
  obtain ⟨p, l, e, R, s, m, args, below, meth, c⟩ := X
  intro H locs ls hH hS hl
  obtain ⟨hexec, hb, hml, -, hown, hts, hK, -, hR, -, -⟩ := hX
  exact lv_ldcw hexec hb hown (hts _ hw) hdg (kk H locs ls hH hS hl)
end XR4
def ush (x : Int32) (k : Int) : Int32 := (x.toUInt32 >>> ((Int32.ofInt k).toUInt32 &&& Int32.toUInt32 31)).toInt32
def bcA (x : Int32) : Int32 := x - (ush x 1 &&& Int32.ofInt 1431655765)
def bcB (x : Int32) : Int32 := (x &&& Int32.ofInt 858993459) + (ush x 2 &&& Int32.ofInt 858993459)
def bcC (x : Int32) : Int32 := (x + ush x 4) &&& Int32.ofInt 252645135
def bcD (x : Int32) (k : Int) : Int32 := x + ush x k
def bitc (x : Int32) : Int32 := bcD (bcD (bcC (bcB (bcA x))) 8) 16 &&& Int32.ofInt 63
/-- the ones among the first k bits -/
def popT (n : Nat) : Nat → Nat
  | 0 => 0
  | k + 1 => popT n k + n / 2 ^ k % 2
theorem bitc_pop : ∀ n : Nat, n < 1024 → bitc (Int32.ofInt (n : Int)) = Int32.ofInt ((popT n 10 : Nat) : Int) := by decide +kernel
-- cells
def KX (κ : XKs) (hs : Nat) : Prop := xO κ hs 0 (kO 6 [fR 1, fR 15, fR 101, fR 102, fR 103, fR 106, fR 107, fR 111]) ∧ KSt κ hs 1 ∧ KHi κ hs 15 ∧ (∃ g, xO κ hs 101 (kQ 4 2 g) ∧ ∀ i, i < 2 → g i = some (112 + 14 * i)) ∧ xO κ hs 102 (kA 2 2) ∧ KCol κ hs 103 ∧ KRd κ hs ∧ xO κ hs 111 (kA 0 10) ∧ ∀ i, i < 2 → KSt κ hs (112 + 14 * i)
/-- the system's state: the columns' rows, the history, the slots, the pad -/
abbrev Sx : Type := Cs × List Cs × (Nat → Option Cs) × List Nat
def Sl (M : XM) (sl : Nat → Option Cs) : Prop := ∀ j, j < 2 → (M 102 j = 0 ∧ sl j = none) ∨ (M 102 j = 1 ∧ ∃ c, sl j = some c ∧ St M (112 + 14 * j) c)
def RX (M : XM) (S : Sx) : Prop := St M 1 S.1 ∧ Hi M 15 S.2.1 ∧ Sl M S.2.2.1 ∧ Pd M S.2.2.2
theorem Sl.same {M M' : XM} {sl : Nat → Option Cs} {a b : Nat} (h : Sl M sl) (hq : Same a b M M') (hd : b ≤ 102 ∨ 103 ≤ a ∧ b ≤ 112 ∨ 140 ≤ a) : Sl M' sl := by
  intro j hj
  rw [hq 102 (by omega)]
  rcases h j hj with h | ⟨h, c, h1, h2⟩
  · exact Or.inl h
  · exact Or.inr ⟨h, c, h1, h2.same hq (by omega)⟩
/-- a change of the draft, the reader or of what lies behind -/
theorem RX.same {M M' : XM} {S : Sx} {a b : Nat} (h : RX M S) (hq : Same a b M M') (hd : 103 ≤ a ∧ b ≤ 106 ∨ a = 106 ∧ b = 111 ∨ 109 ≤ a ∧ b ≤ 112 ∨ 140 ≤ a) : RX M' S := ⟨h.1.same hq (by omega), h.2.1.same hq (by omega), h.2.2.1.same hq (by omega), h.2.2.2.same hq (by omega)⟩
def upC (cs : Cs) (c : Nat) (l : List Nat) : Cs := fun i => if i = c then l else cs i
/-- a draft's end: the rows, if a column can have them -/
def dFin (l : List Nat) : Int ⊕ List Nat := if l.length ≤ 999 ∧ (enc l).length ≤ 40 then .inr l else .inl (-4)
def isCol (c : Int) : Prop := 0 ≤ c ∧ c < 4
def isVal (v : Int) : Prop := 0 ≤ v ∧ v ≤ 9
def isLen (n : Int) : Prop := 1 ≤ n ∧ n ≤ 999
def isRow (cs : Cs) (c r : Int) : Prop := isCol c ∧ 0 ≤ r ∧ r < (cs c.toNat).length
def dApp (cs : Cs) (c v n : Int) : Int ⊕ List Nat := if ¬ (0 ≤ c ∧ c < 4) then .inl (-1) else if ¬ ((0 ≤ v ∧ v ≤ 9) ∧ 1 ≤ n ∧ n ≤ 999) then .inl (-2) else dFin (cs c.toNat ++ List.replicate n.toNat v.toNat)
def dIns (cs : Cs) (c r v n : Int) : Int ⊕ List Nat := if ¬ (0 ≤ c ∧ c < 4) then .inl (-1) else if ¬ ((0 ≤ r ∧ r ≤ (cs c.toNat).length) ∧ (0 ≤ v ∧ v ≤ 9) ∧ 1 ≤ n ∧ n ≤ 999) then .inl (-2) else dFin ((cs c.toNat).take r.toNat ++ List.replicate n.toNat v.toNat ++ (cs c.toNat).drop r.toNat)
def dRem (cs : Cs) (c r n : Int) : Int ⊕ List Nat := if ¬ ((0 ≤ c ∧ c < 4) ∧ 0 ≤ r ∧ r < (cs c.toNat).length) then .inl (-1) else if n < 1 then .inl (-2) else if (cs c.toNat).length - r < n then .inl (-5) else .inr ((cs c.toNat).take r.toNat ++ (cs c.toNat).drop (r.toNat + n.toNat))
def dSet (cs : Cs) (c r v : Int) : Int ⊕ List Nat := if ¬ ((0 ≤ c ∧ c < 4) ∧ 0 ≤ r ∧ r < (cs c.toNat).length) then .inl (-1) else if ¬ (0 ≤ v ∧ v ≤ 9) then .inl (-2) else dFin ((cs c.toNat).take r.toNat ++ [v.toNat] ++ (cs c.toNat).drop (r.toNat + 1))
/-- the rows of a value, as many as there are -/
def sortTo (l : List Nat) : Nat → List Nat
  | 0 => []
  | v + 1 => sortTo l v ++ List.replicate (fRows (v : Int) 0 (enc l)).toNat v
def dSort (cs : Cs) (c : Int) : Int ⊕ List Nat := if ¬ (0 ≤ c ∧ c < 4) then .inl (-1) else .inr (sortTo (cs c.toNat) 10)
def mrg (w : Int) : List (Nat × Nat) → List Nat
  | [] => []
  | (v, u) :: t => (if w = 0 then [min v u] else if w = 1 then [max v u] else if v = u then [v] else []) ++ mrg w t
def dMrg (cs : Cs) (c a b w : Int) : Int ⊕ List Nat := if ¬ ((0 ≤ c ∧ c < 4) ∧ (0 ≤ a ∧ a < 4) ∧ 0 ≤ b ∧ b < 4) then .inl (-1) else if ¬ (0 ≤ w ∧ w ≤ 2) then .inl (-2) else dFin (mrg w ((cs a.toNat).zip (cs b.toNat)))
/-- what a draft leaves: an error, or the draft -/
def DP (M : XM) (res : Int ⊕ List Nat) (a : Int) (M' : XM) : Prop := Same 103 106 M M' ∧ (∀ e, res = .inl e → a = e) ∧ ∀ l, res = .inr l → a = 0 ∧ Col M' 103 l
/-- a change by a draft -/
def sDo (S : Sx) (c : Int) (res : Int ⊕ List Nat) (f : List Nat → Int) : Int × Sx := match res with
  | .inl e => (e, S)
  | .inr l => (f l, upC S.1 c.toNat l, pushH S.2.1 S.1, S.2.2.1, S.2.2.2)
theorem RX.ok {M : XM} {S : Sx} (h : RX M S) {i : Nat} (hi : i < 4) : Col M (3 + 3 * i) (S.1 i) := by
  have := h.1 i hi
  rw [show 1 + 2 + 3 * i = 3 + 3 * i by omega] at this
  exact this
theorem KX.col {κ : XKs} {hs : Nat} (h : KX κ hs) {i : Nat} (hi : i < 4) : KCol κ hs (3 + 3 * i) := by
  have := h.2.1.2.2 i hi
  rw [show 1 + 2 + 3 * i = 3 + 3 * i by omega] at this
  exact this
theorem dFin_eq {M : XM} {l : List Nat} (h : Dra M 103 l) : (M 103 4 = 1 ∧ dFin l = .inl (-4)) ∨ (M 103 4 = 0 ∧ dFin l = .inr l ∧ Col M 103 l) := by
  unfold dFin
  by_cases hf : fit l
  · right
    exact ⟨(h.2.1 hf).2, if_pos hf, h.col hf⟩
  · left
    exact ⟨h.2.2 hf, if_neg hf⟩
theorem St.up {M M' : XM} {o c : Nat} {cs : Cs} {l : List Nat} (h : St M o cs) (hc : c < 4) (hq : Same (o + 2 + 3 * c) (o + 2 + 3 * c + 3) M M') (hl : Col M' (o + 2 + 3 * c) l) : St M' o (upC cs c l) := by
  intro i hi
  unfold upC
  by_cases e : i = c
  · subst e
    rw [if_pos rfl]
    exact hl
  · rw [if_neg e]
    exact (h i hi).same hq (by omega)
