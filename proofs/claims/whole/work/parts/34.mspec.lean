/-! the model: how it holds the state, what it lays out; lists of rows and their runs -/
def MC (f : Nat → Int) (b : Nat) (l : List Nat) : Prop := f b = ((enc l).length : Int) ∧ (∀ r, r < (enc l).length → f (b + 1 + 2 * r) = (rv (enc l) r : Int) ∧ f (b + 2 + 2 * r) = (rn (enc l) r : Int)) ∧ Ok l
theorem MC.congr {f f' : Nat → Int} {b b' : Nat} {l : List Nat} (h : MC f b l) (hq : ∀ j, j < 81 → f' (b' + j) = f (b + j)) : MC f' b' l := by
  have h4 := h.2.2.1.2
  refine ⟨by have := hq 0 (by decide); rw [Nat.add_zero, Nat.add_zero] at this; rw [this]; exact h.1, fun r hr => ⟨?_, ?_⟩, h.2.2⟩
  · rw [Nat.add_assoc, hq (1 + 2 * r) (by omega), ← Nat.add_assoc]
    exact (h.2.1 r hr).1
  · rw [Nat.add_assoc, hq (2 + 2 * r) (by omega), ← Nat.add_assoc]
    exact (h.2.1 r hr).2
def MS (f : Nat → Int) (b : Nat) (cs : Cs) : Prop := ∀ c, c < 4 → MC f (b + 81 * c) (cs c)
theorem MS.congr {f f' : Nat → Int} {b b' : Nat} {cs : Cs} (h : MS f b cs) (hq : ∀ j, j < 324 → f' (b' + j) = f (b + j)) : MS f' b' cs := fun c hc => (h c hc).congr (fun j hj => by rw [Nat.add_assoc, hq (81 * c + j) (by omega), ← Nat.add_assoc])
def HM (M : XM) (h : List Cs) : Prop := M 140 2 = (h.length : Int) ∧ h.length ≤ 6 ∧ ∀ (i : Nat) (hi : i < h.length), MS (M 142) (324 * i) h[i]
def SM (M : XM) (sl : Nat → Option Cs) : Prop := ∀ j, j < 2 → (M 144 j = 0 ∧ sl j = none) ∨ (M 144 j = 1 ∧ ∃ c, sl j = some c ∧ MS (M 143) (324 * j) c)
def PM (M : XM) (p : List Nat) : Prop := M 140 6 = (p.length : Int) ∧ p.length ≤ 80 ∧ (∀ i, i < p.length → M 145 i = (chr p i : Int)) ∧ ∀ c ∈ p, 33 ≤ c ∧ c ≤ 126
def RM (M : XM) (S : Sx) : Prop := MS (M 141) 0 S.1 ∧ HM M S.2.1 ∧ SM M S.2.2.1 ∧ PM M S.2.2.2
/-- only what P tells has changed -/
def Chg (P : Nat → Nat → Prop) (M M' : XM) : Prop := ∀ q f, P q f ∨ M' q f = M q f
theorem Chg.rf {P : Nat → Nat → Prop} {M : XM} : Chg P M M := fun _ _ => Or.inr rfl
theorem Chg.tr {P : Nat → Nat → Prop} {M M1 M2 : XM} (h : Chg P M M1) (h2 : Chg P M1 M2) : Chg P M M2 := fun q f => by
  rcases h2 q f with g | g
  · exact Or.inl g
  · rcases h q f with e | e
    · exact Or.inl e
    · exact Or.inr (g.trans e)
theorem Chg.mono {P P' : Nat → Nat → Prop} {M M1 : XM} (h : Chg P M M1) (hp : ∀ q f, P q f → P' q f) : Chg P' M M1 := fun q f => (h q f).imp (hp q f) id
theorem Chg.put {P : Nat → Nat → Prop} {M : XM} {a j : Nat} {v : Int} (h : P a j) : Chg P M (mput M a j v) := fun q f => by
  rw [mp_at]
  by_cases e : q = a ∧ f = j
  · rw [e.1, e.2]
    exact Or.inl h
  · rw [if_neg e]
    exact Or.inr rfl
theorem Chg.at {P : Nat → Nat → Prop} {M M' : XM} (h : Chg P M M') {q f : Nat} (hn : ¬ P q f) : M' q f = M q f := (h q f).resolve_left hn
theorem Chg.cell {P : Nat → Nat → Prop} {M M' : XM} (h : Chg P M M') {q : Nat} (hn : ∀ f, ¬ P q f) : M' q = M q := funext fun f => (h q f).resolve_left (hn f)
def PL (q f : Nat) : Prop := q = 146 ∨ (q = 140 ∧ f = 8)
def PO (q f : Nat) : Prop := q = 147 ∨ (q = 140 ∧ f = 10)
def PB (q f : Nat) : Prop := q = 146 ∨ q = 147 ∨ (q = 140 ∧ (f = 8 ∨ f = 10))
def PG (c q f : Nat) : Prop := q = 141 ∧ 81 * c ≤ f ∧ f < 81 * c + 81
def PH (q f : Nat) : Prop := q = 142 ∨ (q = 140 ∧ f = 2)
/-- what is only used amid a call -/
def PS (q f : Nat) : Prop := (146 ≤ q ∧ q ≤ 150) ∨ (q = 140 ∧ f ≠ 2 ∧ f ≠ 6)
def PA (q _f : Nat) : Prop := 140 ≤ q ∧ q ≤ 150
theorem PL.ps {q f : Nat} (h : PL q f) : PS q f := by unfold PL at h; unfold PS; omega
theorem PO.ps {q f : Nat} (h : PO q f) : PS q f := by unfold PO at h; unfold PS; omega
theorem PB.ps {q f : Nat} (h : PB q f) : PS q f := by unfold PB at h; unfold PS; omega
theorem PL.pb {q f : Nat} (h : PL q f) : PB q f := by unfold PL at h; unfold PB; omega
theorem PO.pb {q f : Nat} (h : PO q f) : PB q f := by unfold PO at h; unfold PB; omega
theorem PS.pa {q f : Nat} (h : PS q f) : PA q f := by unfold PS at h; unfold PA; omega
theorem PG.pa {c q f : Nat} (h : PG c q f) : PA q f := by unfold PG at h; unfold PA; omega
theorem PH.pa {q f : Nat} (h : PH q f) : PA q f := by unfold PH at h; unfold PA; omega
theorem HM.congr {M M' : XM} {h : List Cs} (hh : HM M h) (h1 : M' 140 2 = M 140 2) (h2 : M' 142 = M 142) : HM M' h := ⟨by rw [h1]; exact hh.1, hh.2.1, by rw [h2]; exact hh.2.2⟩
theorem SM.congr {M M' : XM} {sl : Nat → Option Cs} (h : SM M sl) (h1 : M' 144 = M 144) (h2 : M' 143 = M 143) : SM M' sl := by unfold SM; rw [h1, h2]; exact h
theorem PM.congr {M M' : XM} {p : List Nat} (h : PM M p) (h1 : M' 140 6 = M 140 6) (h2 : M' 145 = M 145) : PM M' p := ⟨by rw [h1]; exact h.1, h.2.1, by rw [h2]; exact h.2.2.1, h.2.2.2⟩
theorem RM.scr {M M' : XM} {S : Sx} (h : RM M S) (hq : Chg PS M M') : RM M' S := by
  have e1 : M' 141 = M 141 := hq.cell (fun f => by unfold PS; omega)
  have e2 : M' 142 = M 142 := hq.cell (fun f => by unfold PS; omega)
  have e3 : M' 143 = M 143 := hq.cell (fun f => by unfold PS; omega)
  have e4 : M' 144 = M 144 := hq.cell (fun f => by unfold PS; omega)
  have e5 : M' 145 = M 145 := hq.cell (fun f => by unfold PS; omega)
  exact ⟨by rw [e1]; exact h.1, h.2.1.congr (hq.at (by unfold PS; omega)) e2, h.2.2.1.congr e4 e3, h.2.2.2.congr (hq.at (by unfold PS; omega)) e5⟩
theorem PM.rng {M : XM} {p : List Nat} (h : PM M p) (i : Nat) : chr p i ≤ 126 ∧ (i < p.length → 33 ≤ chr p i) := by
  rcases Nat.lt_or_ge i p.length with h1 | h1
  · have e : chr p i = p[i] := by simp [chr, h1]
    rw [e]
    have := h.2.2.2 _ (List.getElem_mem h1)
    omega
  · have e : chr p i = 0 := by simp [chr, List.getD_eq_getElem?_getD, List.getElem?_eq_none h1]
    rw [e]
    omega
-- rows
theorem chr_l {l : List Nat} (x : List Nat) {i : Nat} (h : i < l.length) : chr (l ++ x) i = chr l i := by
  simp only [chr, List.getD_eq_getElem?_getD, List.getElem?_append_left h]
theorem chr_r (l x : List Nat) (i : Nat) : chr (l ++ x) (l.length + i) = chr x i := by
  simp only [chr, List.getD_eq_getElem?_getD, List.getElem?_append_right (Nat.le_add_right _ _), Nat.add_sub_cancel_left]
theorem chr_z (l : List Nat) (v : Nat) : chr (l ++ [v]) l.length = v := chr_r l [v] 0
theorem chr_get {l : List Nat} {i : Nat} (h : i < l.length) : chr l i = l[i] := by simp [chr, h]
theorem chr_mem {l : List Nat} {i : Nat} (h : i < l.length) : chr l i ∈ l := by rw [chr_get h]; exact List.getElem_mem h
theorem chr_ge {l : List Nat} {i : Nat} (h : l.length ≤ i) : chr l i = 0 := by simp [chr, List.getD_eq_getElem?_getD, List.getElem?_eq_none h]
theorem chr_take {l : List Nat} {k i : Nat} (h : i < k) : chr (l.take k) i = chr l i := by
  simp only [chr, List.getD_eq_getElem?_getD, List.getElem?_take, if_pos h]
theorem chr_drop (l : List Nat) (k i : Nat) : chr (l.drop k) i = chr l (k + i) := by
  simp only [chr, List.getD_eq_getElem?_getD, List.getElem?_drop]
theorem chr_rep {n v i : Nat} (h : i < n) : chr (List.replicate n v) i = v := by
  simp [chr, h]
theorem take_snoc {l : List Nat} {k : Nat} (h : k < l.length) : l.take (k + 1) = l.take k ++ [chr l k] := by
  rw [List.take_add_one, List.getElem?_eq_getElem h, chr_get h]
  rfl
theorem drop_cons {l : List Nat} {k : Nat} (h : k < l.length) : l.drop k = chr l k :: l.drop (k + 1) := by
  rw [List.drop_eq_getElem_cons h, chr_get h]
def Lay (M : XM) (l : List Nat) : Prop := M 140 8 = (l.length : Int) ∧ l.length ≤ 1998 ∧ ∀ i, i < l.length → M 146 i = (chr l i : Int)
def LaO (M : XM) (l : List Nat) : Prop := M 140 10 = (l.length : Int) ∧ l.length ≤ 999 ∧ ∀ i, i < l.length → M 147 i = (chr l i : Int)
theorem Lay.congr {M M' : XM} {l : List Nat} (h : Lay M l) (h1 : M' 140 8 = M 140 8) (h2 : M' 146 = M 146) : Lay M' l := ⟨by rw [h1]; exact h.1, h.2.1, by rw [h2]; exact h.2.2⟩
theorem LaO.congr {M M' : XM} {l : List Nat} (h : LaO M l) (h1 : M' 140 10 = M 140 10) (h2 : M' 147 = M 147) : LaO M' l := ⟨by rw [h1]; exact h.1, h.2.1, by rw [h2]; exact h.2.2⟩
theorem Lay.zero {M : XM} : Lay (mput M 140 8 0) [] := ⟨mp_eq _ _ _ _, Nat.zero_le _, fun i hi => absurd hi (Nat.not_lt_zero _)⟩
theorem LaO.zero {M : XM} : LaO (mput M 140 10 0) [] := ⟨mp_eq _ _ _ _, Nat.zero_le _, fun i hi => absurd hi (Nat.not_lt_zero _)⟩
theorem Lay.snoc {M : XM} {l : List Nat} (h : Lay M l) (hl : l.length < 1998) (v : Nat) : Lay (mput (mput M 146 l.length (v : Int)) 140 8 ((l.length + 1 : Nat) : Int)) (l ++ [v]) := by
  refine ⟨by rw [mp_eq, List.length_append]; rfl, by rw [List.length_append]; exact hl, fun i hi => ?_⟩
  rw [List.length_append] at hi
  rw [mput_ne _ _ _ (by decide), mp_at]
  by_cases e : i = l.length
  · rw [if_pos ⟨rfl, e⟩, e, chr_z]
  · have hi2 : i < l.length := Nat.lt_of_le_of_ne (Nat.le_of_lt_succ hi) e
    rw [if_neg (fun z => e z.2), chr_l _ hi2]
    exact h.2.2 i hi2
theorem LaO.snoc {M : XM} {l : List Nat} (h : LaO M l) (hl : l.length < 999) (v : Nat) : LaO (mput (mput M 147 l.length (v : Int)) 140 10 ((l.length + 1 : Nat) : Int)) (l ++ [v]) := by
  refine ⟨by rw [mp_eq, List.length_append]; rfl, by rw [List.length_append]; exact hl, fun i hi => ?_⟩
  rw [List.length_append] at hi
  rw [mput_ne _ _ _ (by decide), mp_at]
  by_cases e : i = l.length
  · rw [if_pos ⟨rfl, e⟩, e, chr_z]
  · have hi2 : i < l.length := Nat.lt_of_le_of_ne (Nat.le_of_lt_succ hi) e
    rw [if_neg (fun z => e z.2), chr_l _ hi2]
    exact h.2.2 i hi2
-- a row behind rows
theorem addr_new {α : Type} [DecidableEq α] : ∀ (L : List (α × Nat)) (v : α) (n : Nat), (∀ L0 m, L ≠ L0 ++ [(v, m)]) → addr L v n = L ++ [(v, n)]
  | [], v, n, _ => rfl
  | [(w, m)], v, n, h => by
    rw [addr_one, if_neg (fun z => h [] m (by rw [z]; rfl))]
    rfl
  | a :: b :: t, v, n, h => by
    rw [addr, addr_new (b :: t) v n (fun L0 m z => h (a :: L0) m (by rw [z]; rfl))]
    · rfl
theorem addr_same {α : Type} [DecidableEq α] : ∀ (L0 : List (α × Nat)) (v : α) (m n : Nat), addr (L0 ++ [(v, m)]) v n = L0 ++ [(v, m + n)]
  | [], v, m, n => by rw [List.nil_append, addr_one, if_pos rfl]; rfl
  | [a], v, m, n => by
    show addr (a :: [(v, m)]) v n = _
    rw [addr, addr_one, if_pos rfl]
    rfl
  | a :: b :: t, v, m, n => by
    have h := addr_same (b :: t) v m n
    show addr (a :: b :: (t ++ [(v, m)])) v n = _
    rw [addr]
    · show a :: addr (b :: t ++ [(v, m)]) v n = _
      rw [h]
      rfl
theorem enc_lastG {α : Type} [DecidableEq α] (l : List α) (v : α) : ∃ L0 m, enc (l ++ [v]) = L0 ++ [(v, m)] := by
  rw [enc_snoc]
  by_cases h : ∃ L0 m, enc l = L0 ++ [(v, m)]
  · obtain ⟨L0, m, h⟩ := h
    rw [h, addr_same]
    exact ⟨L0, m + 1, rfl⟩
  · rw [addr_new _ _ _ (fun L0 m z => h ⟨L0, m, z⟩)]
    exact ⟨_, _, rfl⟩
theorem enc_step {α : Type} [DecidableEq α] (l : List α) (v : α) : (l.getLast? = some v ∧ ∃ L0 m, enc l = L0 ++ [(v, m)] ∧ enc (l ++ [v]) = L0 ++ [(v, m + 1)]) ∨ (l.getLast? ≠ some v ∧ enc (l ++ [v]) = enc l ++ [(v, 1)]) := by
  rw [enc_snoc]
  by_cases hl : l = []
  · subst hl
    exact Or.inr ⟨fun z => (by cases z), rfl⟩
  · obtain ⟨l0, u, rfl⟩ : ∃ l0 u, l = l0 ++ [u] := ⟨l.dropLast, l.getLast hl, (List.dropLast_concat_getLast hl).symm⟩
    obtain ⟨L0, m, h⟩ := enc_lastG l0 u
    rw [h]
    have hg : (l0 ++ [u]).getLast? = some u := by simp
    rw [hg]
    by_cases e : u = v
    · subst e
      exact Or.inl ⟨rfl, L0, m, rfl, addr_same _ _ _ _⟩
    · refine Or.inr ⟨fun z => e (Option.some.inj z), addr_new _ _ _ (fun L1 m1 z => ?_)⟩
      have h2 := congrArg List.getLast? z
      simp at h2
      exact e h2.1
theorem getLast_take {l : List Nat} {k : Nat} (h : k < l.length) : (l.take (k + 1)).getLast? = some (chr l k) := by
  rw [take_snoc h]
  simp
/-- whether a run begins at the k-th row -/
def newRun (l : List Nat) (k : Nat) : Prop := k = 0 ∨ chr l k ≠ chr l (k - 1)
theorem enc_take_len {l : List Nat} {k : Nat} (h : k < l.length) : (newRun l k → (enc (l.take (k + 1))).length = (enc (l.take k)).length + 1 ∧ enc (l.take (k + 1)) = enc (l.take k) ++ [(chr l k, 1)]) ∧ (¬ newRun l k → ∃ L0 m, enc (l.take k) = L0 ++ [(chr l k, m)] ∧ enc (l.take (k + 1)) = L0 ++ [(chr l k, m + 1)]) := by
  rw [take_snoc h]
  have hs := enc_step (l.take k) (chr l k)
  have hlast : 0 < k → (l.take k).getLast? = some (chr l (k - 1)) := by
    intro hk
    obtain ⟨j, rfl⟩ : ∃ j, k = j + 1 := ⟨k - 1, by omega⟩
    rw [Nat.add_sub_cancel]
    exact getLast_take (by omega)
  refine ⟨fun hn => ?_, fun hn => ?_⟩
  · rcases hs with ⟨h1, -⟩ | ⟨-, h2⟩
    · exfalso
      rcases hn with rfl | hn
      · rw [List.take_zero] at h1
        cases h1
      · by_cases hk : k = 0
        · subst hk
          rw [List.take_zero] at h1
          cases h1
        · rw [hlast (by omega)] at h1
          exact hn (Option.some.inj h1).symm
    · rw [h2]
      exact ⟨by rw [List.length_append]; rfl, rfl⟩
  · rcases hs with ⟨-, L0, m, h1, h2⟩ | ⟨h1, -⟩
    · exact ⟨L0, m, h1, h2⟩
    · exfalso
      have hk : k ≠ 0 := fun z => hn (Or.inl z)
      have he : chr l k = chr l (k - 1) := by
        by_cases e : chr l k = chr l (k - 1)
        · exact e
        · exact absurd (Or.inr e) hn
      rw [hlast (by omega), he] at h1
      exact h1 rfl
theorem enc_take_le (l : List Nat) (k : Nat) : (enc (l.take k)).length ≤ (enc l).length := by
  have := enc_mono (l.drop k) (l.take k)
  rw [List.take_append_drop] at this
  exact this
theorem rows_take_mem {l : List Nat} (h : Ok l) (c : Nat) : rows (enc l) = l := rows_enc l
