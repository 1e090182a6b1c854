/-! states, the history, their cells -/
def KSt (κ : XKs) (hs o : Nat) : Prop := xO κ hs o (kO 5 [fR (o + 1)]) ∧ (∃ g, xO κ hs (o + 1) (kQ 3 4 g) ∧ ∀ i, i < 4 → g i = some (o + 2 + 3 * i)) ∧ ∀ i, i < 4 → KCol κ hs (o + 2 + 3 * i)
def KHi (κ : XKs) (hs o : Nat) : Prop := xO κ hs o (kO 1 [fR (o + 1), fI, fI]) ∧ (∃ g, xO κ hs (o + 1) (kQ 4 6 g) ∧ ∀ i, i < 6 → g i = some (o + 2 + 14 * i)) ∧ ∀ i, i < 6 → KSt κ hs (o + 2 + 14 * i)
abbrev Cs : Type := Nat → List Nat
def St (M : XM) (o : Nat) (cs : Cs) : Prop := ∀ i, i < 4 → Col M (o + 2 + 3 * i) (cs i)
theorem St.same {M M' : XM} {o a b : Nat} {cs : Cs} (h : St M o cs) (hq : Same a b M M') (hd : o + 14 ≤ a ∨ b ≤ o + 2) : St M' o cs := fun i hi => (h i hi).same hq (by omega)
def sumTo (f : Nat → Int) : Nat → Int
  | 0 => 0
  | n + 1 => sumTo f n + f n
def pushH (h : List Cs) (c : Cs) : List Cs := if h.length < 6 then h ++ [c] else h.drop 1 ++ [c]
theorem pushH_len (h : List Cs) (c : Cs) (hl : h.length ≤ 6) : (pushH h c).length ≤ 6 := by
  unfold pushH
  split
  · simp; omega
  · simp; omega
def Hi (M : XM) (o : Nat) (h : List Cs) : Prop := ∃ old : Nat, old < 6 ∧ M o 1 = (old : Int) ∧ M o 2 = (h.length : Int) ∧ h.length ≤ 6 ∧ ∀ (i : Nat) (hi : i < h.length), St M (o + 2 + 14 * ((old + i) % 6)) h[i]
theorem Hi.same {M M' : XM} {o a b : Nat} {h : List Cs} (hh : Hi M o h) (hq : Same a b M M') (hd : o + 86 ≤ a ∨ b ≤ o) : Hi M' o h := by
  obtain ⟨old, h1, h2, h3, h4, h5⟩ := hh
  refine ⟨old, h1, by rw [hq o (by omega)]; exact h2, by rw [hq o (by omega)]; exact h3, h4, fun i hi => (h5 i hi).same hq ?_⟩
  have := Nat.mod_lt (old + i) (show 0 < 6 by decide)
  omega
theorem xrem6 (n : Nat) (hn : n < 2147483648) : Int32.ofInt ((n % 6 : Nat) : Int) = Int32.ofInt (n : Int) - Int32.ofInt (n : Int) / Int32.ofInt 6 * Int32.ofInt 6 := by
  have h := pk_rem (a := n) (d := 6) hn (by decide) (by decide)
  rw [Int32.ofInt_eq_ofNat, Int32.ofInt_eq_ofNat]
  exact h.symm
theorem Hi.push {M M1 : XM} {o : Nat} {h : List Cs} {c : Cs} {old : Nat} (h1 : old < 6) (h2 : M o 1 = (old : Int)) (h3 : M o 2 = (h.length : Int)) (h4 : h.length ≤ 6) (h5 : ∀ (i : Nat) (hi : i < h.length), St M (o + 2 + 14 * ((old + i) % 6)) h[i])
    (hS : St M1 (o + 2 + 14 * ((old + h.length) % 6)) c) (hq : Same (o + 2 + 14 * ((old + h.length) % 6)) (o + 2 + 14 * ((old + h.length) % 6) + 14) M M1) :
    (h.length < 6 → Hi (mput M1 o 2 (h.length + 1)) o (pushH h c)) ∧ (¬ h.length < 6 → Hi (mput M1 o 1 ((old + 1) % 6 : Nat)) o (pushH h c)) := by
  have hoo : M1 o = M o := hq o (by omega)
  have hst : ∀ (p : Nat) (cs : Cs) (k : Nat) (v : Int), p < 6 → p ≠ (old + h.length) % 6 → St M (o + 2 + 14 * p) cs → St (mput M1 o k v) (o + 2 + 14 * p) cs := by
    intro p cs k v hp hne hs
    exact (hs.same hq (by omega)).same (Same.put (a := o) (b := o + 1) (Nat.le_refl _) (Nat.lt_succ_self _)) (by omega)
  have hst2 : ∀ (k : Nat) (v : Int), St (mput M1 o k v) (o + 2 + 14 * ((old + h.length) % 6)) c := fun k v => hS.same (Same.put (a := o) (b := o + 1) (Nat.le_refl _) (Nat.lt_succ_self _)) (by omega)
  refine ⟨fun hl => ?_, fun hl => ?_⟩
  · unfold pushH
    rw [if_pos hl]
    refine ⟨old, h1, by rw [mp_ne _ _ (by decide), hoo]; exact h2, by rw [mp_eq]; simp, by simp; omega, fun i hi => ?_⟩
    by_cases e : i < h.length
    · rw [List.getElem_append_left e]
      exact hst _ _ _ _ (Nat.mod_lt _ (by decide)) (by omega) (h5 i e)
    · have hi2 : i = h.length := by simp at hi; omega
      subst hi2
      rw [List.getElem_append_right (Nat.le_refl _)]
      simp only [Nat.sub_self, List.getElem_cons_zero]
      exact hst2 _ _
  · have hl6 : h.length = 6 := by omega
    have hdl : (h.drop 1).length = 5 := by rw [List.length_drop]; omega
    unfold pushH
    rw [if_neg hl]
    refine ⟨(old + 1) % 6, Nat.mod_lt _ (by decide), by rw [mp_eq], by rw [mp_ne _ _ (by decide), hoo, h3]; simp; omega, by simp; omega, fun i hi => ?_⟩
    by_cases e : i < 5
    · rw [List.getElem_append_left (by omega), List.getElem_drop]
      have h7 := h5 (1 + i) (by omega)
      rw [show ((old + 1) % 6 + i) % 6 = (old + (1 + i)) % 6 by omega]
      exact hst _ _ _ _ (Nat.mod_lt _ (by decide)) (by omega) h7
    · have hi2 : i = 5 := by simp at hi; omega
      subst hi2
      rw [List.getElem_append_right (by omega)]
      have e8 : ((old + 1) % 6 + 5) % 6 = (old + h.length) % 6 := by omega
      rw [e8]
      have e9 : ∀ (j : Nat) (hj : j < [c].length), [c][j] = c := by
        intro j hj
        have : j = 0 := by simp at hj; exact hj
        subst this
        rfl
      rw [e9]
      exact hst2 _ _
theorem Hi.pop {M M1 : XM} {o q : Nat} {h : List Cs} {c : Cs} (hh : Hi M o (h ++ [c])) (hq : ∀ a, a ≠ o → (a < q ∨ q + 14 ≤ a) → M1 a = M a) (hqo : q + 14 ≤ o) (h1 : M1 o 1 = M o 1) (h2 : M1 o 2 = (h.length : Int)) : Hi M1 o h := by
  obtain ⟨old, g1, g2, g3, g4, g5⟩ := hh
  refine ⟨old, g1, by rw [h1]; exact g2, h2, by simp at g4; omega, fun i hi => ?_⟩
  have h7 := g5 i (by simp; omega)
  rw [List.getElem_append_left hi] at h7
  intro j hj
  refine (h7 j hj).congr (fun a h8 h9 => hq a ?_ ?_)
  · omega
  · omega
