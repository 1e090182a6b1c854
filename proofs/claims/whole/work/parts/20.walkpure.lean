/-! two columns side by side, as runs of pairs -/
/-- the runs from the i-th on, of which q rows are gone -/
def remr (L : Ru) (i q : Nat) : Ru := match L.drop i with
  | [] => []
  | (v, n) :: t => (v, n - q) :: t
theorem remr_in {L : Ru} {i : Nat} (q : Nat) (h : i < L.length) : remr L i q = (rv L i, rn L i - q) :: L.drop (i + 1) := by
  unfold remr
  rw [ru_drop h]
theorem remr_end {L : Ru} {i : Nat} (q : Nat) (h : L.length ≤ i) : remr L i q = [] := by
  unfold remr
  rw [ru_end L h]
theorem remr_0 (L : Ru) (i : Nat) : remr L i 0 = L.drop i := by
  unfold remr
  cases L.drop i with
  | nil => rfl
  | cons a t => rfl
/-- what is left of a run and those behind it when k rows are gone -/
def cutr (v n k : Nat) (s : Ru) : Ru := if k < n then (v, n - k) :: s else s
abbrev Rp : Type := List ((Nat × Nat) × Nat)
def zrF : Nat → Ru → Ru → Rp
  | 0, _, _ => []
  | _ + 1, [], _ => []
  | _ + 1, _ :: _, [] => []
  | f + 1, (v, n) :: s, (u, m) :: r => ((v, u), min n m) :: zrF f (cutr v n (min n m) s) (cutr u m (min n m) r)
theorem cutr_len {v n k : Nat} {s : Ru} : (cutr v n k s).length ≤ s.length + 1 ∧ (n ≤ k → (cutr v n k s).length = s.length) := by
  unfold cutr
  split
  · refine ⟨Nat.le_refl _, fun h => ?_⟩
    omega
  · exact ⟨Nat.le_succ _, fun _ => rfl⟩
theorem cut2_len (v n u m : Nat) (s r : Ru) : (cutr v n (min n m) s).length + (cutr u m (min n m) r).length + 1 ≤ (s.length + 1) + (r.length + 1) := by
  have h1 := cutr_len (v := v) (n := n) (k := min n m) (s := s)
  have h2 := cutr_len (v := u) (n := m) (k := min n m) (s := r)
  rcases Nat.le_total n m with h | h
  · have := h1.2 (by omega)
    omega
  · have := h2.2 (by omega)
    omega
theorem zrF_more : ∀ (f g : Nat) (A B : Ru), A.length + B.length ≤ f → f ≤ g → zrF g A B = zrF f A B
  | 0, 0, A, B, _, _ => rfl
  | 0, g + 1, [], B, _, _ => rfl
  | 0, g + 1, a :: s, B, h, _ => by simp at h
  | f + 1, 0, A, B, _, h => by omega
  | f + 1, g + 1, [], B, _, _ => rfl
  | f + 1, g + 1, a :: s, [], _, _ => rfl
  | f + 1, g + 1, (v, n) :: s, (u, m) :: r, h, hg => by
    rw [zrF, zrF]
    have h1 := cut2_len v n u m s r
    simp only [List.length_cons] at h
    rw [zrF_more f g _ _ (by omega) (by omega)]
def zr (A B : Ru) : Rp := zrF (A.length + B.length) A B
theorem zr_nil1 (B : Ru) : zr [] B = [] := by
  unfold zr
  cases B.length with
  | zero => rfl
  | succ n =>
    rw [show ([] : Ru).length + (n + 1) = n + 1 by simp]
    rfl
theorem zr_nil2 (A : Ru) : zr A [] = [] := by
  unfold zr
  cases A with
  | nil => rfl
  | cons a s => rfl
theorem zr_cons (v n u m : Nat) (s r : Ru) : zr ((v, n) :: s) ((u, m) :: r) = ((v, u), min n m) :: zr (cutr v n (min n m) s) (cutr u m (min n m) r) := by
  have h1 := cut2_len v n u m s r
  unfold zr
  rw [show ((v, n) :: s).length + ((u, m) :: r).length = (s.length + r.length + 1) + 1 by simp only [List.length_cons]; omega, zrF]
  rw [zrF_more _ _ _ _ (Nat.le_refl _) (by omega : (cutr v n (min n m) s).length + (cutr u m (min n m) r).length ≤ s.length + r.length + 1)]
theorem zr_len : ∀ (f : Nat) (A B : Ru), A.length + B.length ≤ f → (zr A B).length ≤ f
  | f, [], B, _ => by rw [zr_nil1]; exact Nat.zero_le _
  | f, a :: s, [], _ => by rw [zr_nil2]; exact Nat.zero_le _
  | 0, a :: s, b :: r, h => by simp at h
  | f + 1, (v, n) :: s, (u, m) :: r, h => by
    rw [zr_cons, List.length_cons]
    have h1 := cut2_len v n u m s r
    simp only [List.length_cons] at h
    have := zr_len f _ _ (show _ ≤ f by omega : (cutr v n (min n m) s).length + (cutr u m (min n m) r).length ≤ f)
    omega
theorem can_cutr {v n k : Nat} {s : Ru} (h : Can ((v, n) :: s)) : Can (cutr v n k s) := by
  unfold cutr
  split
  · refine ⟨?_, fun p hp => ?_⟩
    · cases s with
      | nil => trivial
      | cons b t => exact h.1
    · rcases List.mem_cons.mp hp with rfl | hp
      · show 1 ≤ n - k
        omega
      · exact h.2 p (List.mem_cons_of_mem _ hp)
  · exact h.tail
theorem rows_cutr {v n k : Nat} {s : Ru} (hk : k ≤ n) : rows ((v, n) :: s) = List.replicate k v ++ rows (cutr v n k s) := by
  unfold cutr
  split
  · rw [rows, rows, ← List.append_assoc, List.replicate_append_replicate, Nat.add_sub_cancel' hk]
  · rw [show k = n by omega, rows]
theorem zip_rep {α β : Type} (k : Nat) (v : α) (u : β) (A : List α) (B : List β) : (List.replicate k v ++ A).zip (List.replicate k u ++ B) = List.replicate k (v, u) ++ A.zip B := by
  induction k with
  | zero => rfl
  | succ k ih => rw [List.replicate_succ, List.replicate_succ, List.replicate_succ, List.cons_append, List.cons_append, List.cons_append, List.zip_cons_cons, ih]
theorem zr_head {A B : Ru} {x : Nat × Nat} {k : Nat} {t : Rp} (h : zr A B = (x, k) :: t) : ∃ n s m r, A = (x.1, n) :: s ∧ B = (x.2, m) :: r := by
  cases A with
  | nil => rw [zr_nil1] at h; cases h
  | cons a s =>
    cases B with
    | nil => rw [zr_nil2] at h; cases h
    | cons b r =>
      obtain ⟨v, n⟩ := a
      obtain ⟨u, m⟩ := b
      rw [zr_cons] at h
      cases h
      exact ⟨n, s, m, r, rfl, rfl⟩
/-- the walk's runs of pairs are those of the rows side by side -/
theorem zr_enc : ∀ (f : Nat) (A B : Ru), A.length + B.length ≤ f → Can A → Can B → enc ((rows A).zip (rows B)) = zr A B
  | f, [], B, _, _, _ => by rw [zr_nil1]; rfl
  | f, a :: s, [], _, _, _ => by
    rw [zr_nil2]
    show enc ((rows (a :: s)).zip []) = []
    rw [List.zip_nil_right]
    rfl
  | 0, a :: s, b :: r, h, _, _ => by simp at h
  | f + 1, (v, n) :: s, (u, m) :: r, h, hA, hB => by
    have h1 := cut2_len v n u m s r
    simp only [List.length_cons] at h
    have hn : 1 ≤ n := hA.2 (v, n) List.mem_cons_self
    have hm : 1 ≤ m := hB.2 (u, m) List.mem_cons_self
    have ih := zr_enc f (cutr v n (min n m) s) (cutr u m (min n m) r) (by omega) (can_cutr hA) (can_cutr hB)
    obtain ⟨k, hk⟩ : ∃ k, min n m = k + 1 := ⟨min n m - 1, by omega⟩
    rw [zr_cons, rows_cutr (v := v) (k := min n m) (s := s) (by omega), rows_cutr (v := u) (k := min n m) (s := r) (by omega), zip_rep, ← ih]
    rw [hk] at ih ⊢
    refine enc_rep (v, u) _ (fun w z t e => ?_) k
    rw [ih] at e
    obtain ⟨n', s', m', r', e1, e2⟩ := zr_head e
    intro hw
    rw [hw] at e1 e2
    have alt1 : ∀ (q c j : Nat) (S S' : Ru) (c' : Nat), Can ((q, c) :: S) → cutr q c j S = (q, c') :: S' → j < c := by
      intro q c j S S' c' hc e3
      unfold cutr at e3
      by_cases hlt : j < c
      · exact hlt
      · rw [if_neg hlt] at e3
        rw [e3] at hc
        exact absurd rfl hc.1.1
    have a1 := alt1 v n (k + 1) s s' n' hA e1
    have a2 := alt1 u m (k + 1) r r' m' hB e2
    omega
/-- the walk over two columns -/
def WS (M : XM) (w : Nat) (L1 L2 : Ru) (A B : Ru) (t : Int) : Prop := ∃ i q j z : Nat, M w 2 = (i : Int) ∧ M w 3 = (j : Int) ∧ M w 4 = (q : Int) ∧ M w 5 = (z : Int) ∧ i ≤ L1.length ∧ j ≤ L2.length ∧ (i < L1.length → q < rn L1 i) ∧ (j < L2.length → z < rn L2 j) ∧ A = remr L1 i q ∧ B = remr L2 j z ∧ M w 8 + M w 9 = t
theorem WS.congr {M M' : XM} {w : Nat} {L1 L2 A B : Ru} {t : Int} (h : WS M w L1 L2 A B t) (e : M' w = M w) : WS M' w L1 L2 A B t := by
  unfold WS
  rw [e]
  exact h
theorem cutr_remr {L : Ru} {i q k : Nat} (hi : i < L.length) (hq : q < rn L i) (hk : k ≤ rn L i - q) : cutr (rv L i) (rn L i - q) k (L.drop (i + 1)) = if k = rn L i - q then remr L (i + 1) 0 else remr L i (q + k) := by
  unfold cutr
  by_cases h : k = rn L i - q
  · rw [if_pos h, if_neg (by omega), remr_0]
  · rw [if_neg h, if_pos (by omega), remr_in _ hi]
    rw [show rn L i - (q + k) = rn L i - q - k by omega]
