/-! texts: how they are read -/
def chr (p : List Nat) (i : Nat) : Nat := p.getD i 0
theorem chr_lt {p : List Nat} {i : Nat} (h : chr p i ≠ 0) : i < p.length := by
  rcases Nat.lt_or_ge i p.length with h1 | h1
  · exact h1
  · exact absurd (by simp [chr, List.getD_eq_getElem?_getD, List.getElem?_eq_none h1]) h
def pDig (p : List Nat) (i m : Nat) : Option Nat := if 48 ≤ chr p i ∧ chr p i ≤ 48 + m then some (chr p i - 48) else none
def pMore (p : List Nat) : Nat → Nat → Nat → Nat × Nat
  | 0, i, w => (w, i)
  | f + 1, i, w => if 0 < w then (match pDig p i 9 with | some d => pMore p f (i + 1) (10 * w + d) | none => (w, i)) else (w, i)
def pNum (p : List Nat) (i : Nat) : Option (Nat × Nat) := match pDig p i 9 with | none => none | some d => some (pMore p 2 (i + 1) d)
def pLen (p : List Nat) (i : Nat) : Option (Nat × Nat) := if chr p i = 42 then pNum p (i + 1) else some (1, i)
def pRuns (p : List Nat) : Nat → Nat → Ru → Option Ru × Nat
  | 0, i, _ => (none, i)
  | f + 1, i, acc => match pDig p i 9 with
    | none => (none, i)
    | some v => match pLen p (i + 1) with
      | none => (none, i + 2)
      | some (w, j) => if chr p j = 44 then pRuns p f (j + 1) (acc ++ [(v, w)]) else (some (acc ++ [(v, w)]), j)
/-- an order: its column, its sign, its first number, its second, its runs -/
abbrev Od : Type := Nat × Nat × Nat × Nat × Ru
def pRest (p : List Nat) (c k i : Nat) : Option Od × Nat :=
  if k = 61 ∨ k = 43 then (match pRuns p 40 i [] with | (some L, j) => (some (c, k, 0, 0, L), j) | (none, j) => (none, j))
  else if k = 45 then (match pNum p i with
    | none => (none, i)
    | some (r, j) => if chr p j = 42 then (match pNum p (j + 1) with | none => (none, j + 1) | some (n, j2) => (some (c, k, r, n, []), j2)) else (none, j))
  else if k = 64 then (match pNum p i with
    | none => (none, i)
    | some (r, j) => if chr p j = 61 then (match pDig p (j + 1) 9 with | none => (none, j + 1) | some v => (some (c, k, r, v, []), j + 2)) else (none, j))
  else if k = 33 then (some (c, k, 0, 0, []), i) else (none, i - 1)
def pOrder (p : List Nat) (i : Nat) : Option Od × Nat := match pDig p i 3 with
  | none => (none, i)
  | some c => pRest p c (chr p (i + 1)) (i + 2)
def pFault (p : List Nat) : Nat → Nat → Int
  | 0, i => (i : Int)
  | f + 1, i => match pOrder p i with
    | (none, j) => (j : Int)
    | (some _, j) => if chr p j = 59 then pFault p f (j + 1) else if j = p.length then -6 else (j : Int)
theorem pDig_some {p : List Nat} {i m d : Nat} (h : pDig p i m = some d) : chr p i = 48 + d ∧ d ≤ m ∧ i < p.length := by
  unfold pDig at h
  split at h
  · cases h
    refine ⟨by omega, by omega, chr_lt (by omega)⟩
  · cases h
theorem pDig_none {p : List Nat} {i m : Nat} (h : pDig p i m = none) : chr p i < 48 ∨ 48 + m < chr p i := by
  unfold pDig at h
  split at h
  · cases h
  · omega
theorem pMore_le : ∀ (f : Nat) (p : List Nat) (i w b : Nat), i ≤ p.length → w < b → (pMore p f i w).2 ≤ p.length ∧ i ≤ (pMore p f i w).2 ∧ (pMore p f i w).1 < b * 10 ^ f
  | 0, p, i, w, b, hi, hw => ⟨hi, Nat.le_refl _, by simp [pMore]; exact hw⟩
  | f + 1, p, i, w, b, hi, hw => by
    rw [pMore]
    have e10 : b * 10 ^ (f + 1) = (10 * b) * 10 ^ f := by rw [Nat.pow_succ, Nat.mul_comm (10 ^ f) 10, ← Nat.mul_assoc, Nat.mul_comm b 10]
    have hb : b ≤ b * 10 ^ (f + 1) := Nat.le_mul_of_pos_right _ (Nat.pow_pos (by decide))
    split
    · cases hd : pDig p i 9 with
      | none => exact ⟨hi, Nat.le_refl _, Nat.lt_of_lt_of_le hw hb⟩
      | some d =>
        have h1 := pDig_some hd
        obtain ⟨h2, h3, h4⟩ := pMore_le f p (i + 1) (10 * w + d) (10 * b) h1.2.2 (by omega)
        exact ⟨h2, by show i ≤ (pMore p f (i + 1) (10 * w + d)).2; omega, by rw [e10]; exact h4⟩
    · exact ⟨hi, Nat.le_refl _, Nat.lt_of_lt_of_le hw hb⟩
theorem pNum_some {p : List Nat} {i w j : Nat} (h : pNum p i = some (w, j)) : i < j ∧ j ≤ p.length ∧ w ≤ 999 := by
  unfold pNum at h
  cases hd : pDig p i 9 with
  | none => rw [hd] at h; cases h
  | some d =>
    rw [hd] at h
    have h1 := pDig_some hd
    have h2 := pMore_le 2 p (i + 1) d 10 h1.2.2 (by omega)
    have h3 := Option.some.inj h
    rw [h3] at h2
    simp at h2
    omega
theorem pLen_some {p : List Nat} {i w j : Nat} (hi : i ≤ p.length) (h : pLen p i = some (w, j)) : i ≤ j ∧ j ≤ p.length ∧ w ≤ 999 := by
  unfold pLen at h
  split at h
  · have := pNum_some h
    omega
  · cases h
    omega
theorem pLen_none {p : List Nat} {i : Nat} (h : pLen p i = none) : i < p.length := by
  unfold pLen at h
  split at h
  · exact chr_lt (by omega)
  · cases h
theorem pRuns_le : ∀ (f : Nat) (p : List Nat) (i : Nat) (acc : Ru), i ≤ p.length → (∀ q ∈ acc, q.1 ≤ 9 ∧ q.2 ≤ 999) → (pRuns p f i acc).2 ≤ p.length ∧ i ≤ (pRuns p f i acc).2 ∧ ∀ L, (pRuns p f i acc).1 = some L → (∀ q ∈ L, q.1 ≤ 9 ∧ q.2 ≤ 999) ∧ L.length ≤ acc.length + f ∧ 1 ≤ L.length
  | 0, p, i, acc, hi, ha => ⟨hi, Nat.le_refl _, fun L h => by cases h⟩
  | f + 1, p, i, acc, hi, ha => by
    rw [pRuns]
    cases hd : pDig p i 9 with
    | none => exact ⟨hi, Nat.le_refl _, fun L h => by cases h⟩
    | some v =>
      have h1 := pDig_some hd
      cases hl : pLen p (i + 1) with
      | none => exact ⟨pLen_none hl, by show i ≤ i + 2; omega, fun L h => by cases h⟩
      | some q =>
        obtain ⟨w, j⟩ := q
        have h2 := pLen_some h1.2.2 hl
        have ha2 : ∀ q ∈ acc ++ [(v, w)], q.1 ≤ 9 ∧ q.2 ≤ 999 := fun q hq => by
          rcases List.mem_append.mp hq with h | h
          · exact ha q h
          · rw [List.mem_singleton.mp h]
            exact ⟨h1.2.1, h2.2.2⟩
        show ((if chr p j = 44 then pRuns p f (j + 1) (acc ++ [(v, w)]) else (some (acc ++ [(v, w)]), j)).2 ≤ _) ∧ _
        by_cases hc : chr p j = 44
        · have h3 := pRuns_le f p (j + 1) (acc ++ [(v, w)]) (chr_lt (by omega)) ha2
          show _ ∧ i ≤ (if chr p j = 44 then pRuns p f (j + 1) (acc ++ [(v, w)]) else (some (acc ++ [(v, w)]), j)).2 ∧ ∀ L, (if chr p j = 44 then pRuns p f (j + 1) (acc ++ [(v, w)]) else (some (acc ++ [(v, w)]), j)).1 = some L → _
          rw [if_pos hc]
          refine ⟨h3.1, by omega, fun L hL => ?_⟩
          have h4 := h3.2.2 L hL
          rw [List.length_append] at h4
          exact ⟨h4.1, by have : [(v, w)].length = 1 := rfl; omega, h4.2.2⟩
        · show _ ∧ i ≤ (if chr p j = 44 then pRuns p f (j + 1) (acc ++ [(v, w)]) else (some (acc ++ [(v, w)]), j)).2 ∧ ∀ L, (if chr p j = 44 then pRuns p f (j + 1) (acc ++ [(v, w)]) else (some (acc ++ [(v, w)]), j)).1 = some L → _
          rw [if_neg hc]
          refine ⟨h2.2.1, by show i ≤ j; omega, fun L hL => ?_⟩
          cases hL
          exact ⟨ha2, by simp <;> omega, by simp⟩
-- cells of the pad and the reader
def Pd (M : XM) (p : List Nat) : Prop := M 107 1 = (p.length : Int) ∧ p.length ≤ 80 ∧ (∀ i, i < p.length → M 108 i = (chr p i : Int)) ∧ ∀ c ∈ p, 33 ≤ c ∧ c ≤ 126
theorem Pd.congr {M M' : XM} {p : List Nat} (h : Pd M p) (h1 : M' 107 = M 107) (h2 : M' 108 = M 108) : Pd M' p := ⟨by rw [h1]; exact h.1, h.2.1, by rw [h2]; exact h.2.2.1, h.2.2.2⟩
theorem Pd.same {M M' : XM} {p : List Nat} {a b : Nat} (h : Pd M p) (hq : Same a b M M') (hd : b ≤ 107 ∨ 109 ≤ a ∨ (a = 106 ∧ b = 111)) : Pd M' p := h.congr (hq 107 (by omega)) (hq 108 (by omega))
theorem Pd.rng {M : XM} {p : List Nat} (h : Pd M p) (i : Nat) : chr p i ≤ 126 := by
  rcases Nat.lt_or_ge i p.length with h1 | h1
  · have e : chr p i = p[i] := by simp [chr, h1]
    rw [e]
    exact (h.2.2.2 _ (List.getElem_mem h1)).2
  · simp [chr, List.getD_eq_getElem?_getD, List.getElem?_eq_none h1]
def KRd (κ : XKs) (hs : Nat) : Prop := xO κ hs 107 (kO 3 [fR 108, fI]) ∧ xO κ hs 108 (kA 1 80) ∧ xO κ hs 106 (kO 2 [fR 107, fR 109, fR 110, fI, fI, fI, fI, fI, fI, fI]) ∧ xO κ hs 109 (kA 0 40) ∧ xO κ hs 110 (kA 0 40)
def RdS (M : XM) (p : List Nat) (i : Nat) : Prop := Pd M p ∧ M 106 4 = (i : Int) ∧ i ≤ p.length
/-- of the reader only the place and the number have changed -/
def Kp (M M' : XM) : Prop := ∀ q f, (q = 106 ∧ (f = 4 ∨ f = 9)) ∨ M' q f = M q f
theorem Kp.rf {M : XM} : Kp M M := fun _ _ => Or.inr rfl
theorem Kp.tr {M M1 M2 : XM} (h : Kp M M1) (h2 : Kp M1 M2) : Kp M M2 := fun q f => by
  rcases h q f with g | g
  · exact Or.inl g
  · rcases h2 q f with g2 | g2
    · exact Or.inl g2
    · exact Or.inr (g2.trans g)
theorem Kp.mv {M : XM} {v : Int} : Kp M (mput M 106 4 v) := fun q f => by
  rw [mp_at]
  by_cases h : q = 106 ∧ f = 4
  · exact Or.inl ⟨h.1, Or.inl h.2⟩
  · rw [if_neg h]
    exact Or.inr rfl
theorem Kp.nm {M : XM} {v : Int} : Kp M (mput M 106 9 v) := fun q f => by
  rw [mp_at]
  by_cases h : q = 106 ∧ f = 9
  · exact Or.inl ⟨h.1, Or.inr h.2⟩
  · rw [if_neg h]
    exact Or.inr rfl
theorem Kp.cell {M M' : XM} (h : Kp M M') {q : Nat} (hq : q ≠ 106) : M' q = M q := funext fun f => (h q f).resolve_left (fun z => hq z.1)
theorem Kp.fld {M M' : XM} (h : Kp M M') {f : Nat} (h4 : f ≠ 4) (h9 : f ≠ 9) : M' 106 f = M 106 f := (h 106 f).resolve_left (fun z => z.2.elim h4 h9)
theorem Kp.same {M M' : XM} (h : Kp M M') : Same 106 111 M M' := fun q hq => h.cell (by omega)
theorem RdS.kp {M M' : XM} {p : List Nat} {i j : Nat} (h : RdS M p i) (hk : Kp M M') (h4 : M' 106 4 = (j : Int)) (hj : j ≤ p.length) : RdS M' p j := ⟨h.1.congr (hk.cell (by decide)) (hk.cell (by decide)), h4, hj⟩
