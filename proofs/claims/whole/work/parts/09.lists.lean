/-! columns as lists of runs; what a cell of ints says of them -/
abbrev Ru : Type := List (Nat × Nat)
def rv (L : Ru) (i : Nat) : Nat := (L.getD i (0, 0)).1
def rn (L : Ru) (i : Nat) : Nat := (L.getD i (0, 0)).2
def tot : Ru → Nat
  | [] => 0
  | (_, n) :: t => n + tot t
def rows : Ru → List Nat
  | [] => []
  | (v, n) :: t => List.replicate n v ++ rows t
theorem rows_len : ∀ (L : Ru), (rows L).length = tot L
  | [] => rfl
  | (v, n) :: t => by rw [rows, tot, List.length_append, List.length_replicate, rows_len t]
theorem ru_drop {L : Ru} {k : Nat} (h : k < L.length) : L.drop k = (rv L k, rn L k) :: L.drop (k + 1) := by
  rw [List.drop_eq_getElem_cons h]
  have e : L.getD k (0, 0) = L[k] := by simp [h]
  simp only [rv, rn, e]
theorem ru_end {α : Type} (L : List α) {k : Nat} (h : L.length ≤ k) : L.drop k = [] := List.drop_eq_nil_of_le h
theorem tot_app : ∀ (A B : Ru), tot (A ++ B) = tot A + tot B
  | [], B => by simp [tot]
  | (v, n) :: t, B => by rw [List.cons_append, tot, tot, tot_app t B]; omega
theorem rows_app : ∀ (A B : Ru), rows (A ++ B) = rows A ++ rows B
  | [], B => rfl
  | (v, n) :: t, B => by rw [List.cons_append, rows, rows, rows_app t B, List.append_assoc]
theorem tot_split (L : Ru) (k : Nat) : tot (L.take k) + tot (L.drop k) = tot L := by rw [← tot_app, List.take_append_drop]
theorem tot_drop {L : Ru} {k : Nat} (h : k < L.length) : tot (L.drop k) = rn L k + tot (L.drop (k + 1)) := by rw [ru_drop h, tot]
theorem rn_le {L : Ru} {k : Nat} (h : k < L.length) : rn L k ≤ tot L := by
  have h1 := tot_split L k
  rw [tot_drop h] at h1
  omega
theorem tot_take_le (L : Ru) (k : Nat) : tot (L.take k) ≤ tot L := by
  have h1 := tot_split L k
  omega
theorem tot_take_succ {L : Ru} {k : Nat} (h : k < L.length) : tot (L.take (k + 1)) = tot (L.take k) + rn L k := by
  have h1 := tot_split L k
  have h2 := tot_split L (k + 1)
  rw [tot_drop h] at h1
  omega
def alt : Ru → Prop
  | [] => True
  | [_] => True
  | a :: b :: t => a.1 ≠ b.1 ∧ alt (b :: t)
def Good (L : Ru) : Prop := L.length ≤ 40 ∧ tot L ≤ 999 ∧ (∀ p ∈ L, p.1 ≤ 9 ∧ 1 ≤ p.2) ∧ alt L
theorem Good.mem {L : Ru} (h : Good L) {k : Nat} (hk : k < L.length) : rv L k ≤ 9 ∧ 1 ≤ rn L k := by
  have e : L.getD k (0, 0) = L[k] := by simp [hk]
  have h2 := h.2.2.1 (L.getD k (0, 0)) (by rw [e]; exact List.getElem_mem hk)
  exact h2
def CRep (M : XM) (o : Nat) (L : Ru) : Prop := M o 2 = (L.length : Int) ∧ M o 3 = (tot L : Int) ∧ ∀ i, i < L.length → M (o + 1) i = (rv L i : Int) ∧ M (o + 2) i = (rn L i : Int)
theorem CRep.congr {M M' : XM} {o : Nat} {L : Ru} (h : CRep M o L) (h0 : M' o = M o) (h1 : M' (o + 1) = M (o + 1)) (h2 : M' (o + 2) = M (o + 2)) : CRep M' o L := by
  refine ⟨by rw [h0]; exact h.1, by rw [h0]; exact h.2.1, fun i hi => ?_⟩
  rw [h1, h2]
  exact h.2.2 i hi
-- shapes
def KCol (κ : XKs) (hs o : Nat) : Prop := xO κ hs o (kO 0 [fR (o + 1), fR (o + 2), fI, fI, fI]) ∧ xO κ hs (o + 1) (kA 0 40) ∧ xO κ hs (o + 2) (kA 0 40)
def InR (a : Int) : Prop := -2147483648 ≤ a ∧ a < 2147483648
