/-! rows side by side and their runs; what would be set -/
def sameP (A B : List Nat) (k : Nat) : Prop := k ≠ 0 ∧ chr A k = chr A (k - 1) ∧ chr B k = chr B (k - 1)
theorem zip_take {A B : List Nat} {k : Nat} (h1 : k < A.length) (h2 : k < B.length) : (A.zip B).take (k + 1) = (A.zip B).take k ++ [(chr A k, chr B k)] := by
  have hz : k < (A.zip B).length := by rw [List.length_zip]; omega
  rw [List.take_add_one, List.getElem?_eq_getElem hz, List.getElem_zip, chr_get h1, chr_get h2]
  rfl
theorem zip_step {A B : List Nat} {k : Nat} (h1 : k < A.length) (h2 : k < B.length) : (¬ sameP A B k → enc ((A.zip B).take (k + 1)) = enc ((A.zip B).take k) ++ [((chr A k, chr B k), 1)]) ∧ (sameP A B k → ∃ L0 m, enc ((A.zip B).take k) = L0 ++ [((chr A k, chr B k), m)] ∧ enc ((A.zip B).take (k + 1)) = L0 ++ [((chr A k, chr B k), m + 1)]) := by
  have hz := zip_take h1 h2
  have hs := enc_step ((A.zip B).take k) (chr A k, chr B k)
  have hlast : ∀ j, k = j + 1 → ((A.zip B).take k).getLast? = some (chr A j, chr B j) := by
    intro j e
    rw [e, zip_take (by omega) (by omega)]
    simp
  rw [hz]
  refine ⟨fun hn => ?_, fun hn => ?_⟩
  · rcases hs with ⟨g1, -⟩ | ⟨-, g2⟩
    · exfalso
      by_cases h0 : k = 0
      · rw [h0, List.take_zero] at g1
        cases g1
      · rw [hlast (k - 1) (by omega)] at g1
        have g3 := Option.some.inj g1
        exact hn ⟨h0, (congrArg Prod.fst g3).symm, (congrArg Prod.snd g3).symm⟩
    · exact g2
  · rcases hs with ⟨-, g2⟩ | ⟨g1, -⟩
    · exact g2
    · exfalso
      have h0 := hn.1
      rw [hlast (k - 1) (by omega), ← hn.2.1, ← hn.2.2] at g1
      exact g1 rfl
def fromOf (E : Rp) (p : Nat) : Int := if p < E.length then (tot (E.take p) : Int) else -6
def lenOf (E : Rp) (p : Nat) : Int := match E[p]? with
  | none => 0
  | some x => (x.2 : Int)
theorem fromOf_new (E : Rp) (z : Nat × Nat) (p : Nat) : fromOf (E ++ [(z, 1)]) p = if p = E.length then (tot E : Int) else fromOf E p := by
  unfold fromOf
  rw [List.length_append]
  show (if p < E.length + 1 then _ else _) = _
  by_cases h : p = E.length
  · rw [if_pos h, if_pos (by omega), h, List.take_append_of_le_length (Nat.le_refl _), List.take_length]
  · rw [if_neg h]
    by_cases h2 : p < E.length
    · rw [if_pos h2, if_pos (by omega), List.take_append_of_le_length (by omega)]
    · rw [if_neg h2, if_neg (by omega)]
theorem lenOf_new (E : Rp) (z : Nat × Nat) (p : Nat) : lenOf (E ++ [(z, 1)]) p = lenOf E p + (if p = E.length then 1 else 0) := by
  unfold lenOf
  by_cases h : p = E.length
  · subst h
    rw [List.getElem?_append_right (Nat.le_refl _), List.getElem?_eq_none (Nat.le_refl _), if_pos rfl, Nat.sub_self]
    rfl
  · rw [if_neg h]
    by_cases h2 : p < E.length
    · rw [List.getElem?_append_left h2, Int.add_zero]
    · rw [List.getElem?_eq_none (by rw [List.length_append]; show E.length + 1 ≤ p; omega), List.getElem?_eq_none (by omega)]
      rfl
theorem fromOf_same (E : Rp) (z : Nat × Nat) (m p : Nat) : fromOf (E ++ [(z, m + 1)]) p = fromOf (E ++ [(z, m)]) p := by
  unfold fromOf
  rw [List.length_append, List.length_append]
  by_cases h : p < E.length + 1
  · rw [if_pos (show p < E.length + [(z, m + 1)].length from h), if_pos (show p < E.length + [(z, m)].length from h), List.take_append_of_le_length (by omega), List.take_append_of_le_length (by omega)]
  · rw [if_neg (show ¬ p < E.length + [(z, m + 1)].length from h), if_neg (show ¬ p < E.length + [(z, m)].length from h)]
theorem lenOf_same (E : Rp) (z : Nat × Nat) (m p : Nat) : lenOf (E ++ [(z, m + 1)]) p = lenOf (E ++ [(z, m)]) p + (if p = E.length then 1 else 0) := by
  unfold lenOf
  by_cases h : p = E.length
  · subst h
    rw [List.getElem?_append_right (Nat.le_refl _), List.getElem?_append_right (Nat.le_refl _), if_pos rfl, Nat.sub_self]
    rfl
  · rw [if_neg h, Int.add_zero]
    by_cases h2 : p < E.length
    · rw [List.getElem?_append_left h2, List.getElem?_append_left h2]
    · rw [List.getElem?_eq_none (by rw [List.length_append]; show E.length + 1 ≤ p; omega), List.getElem?_eq_none (by rw [List.length_append]; show E.length + 1 ≤ p; omega)]
theorem rows_at {α : Type} : ∀ (P : List (α × Nat)) (p : Nat) (x : α × Nat), P[p]? = some x → 1 ≤ x.2 → (rows P)[tot (P.take p)]? = some x.1
  | [], p, x, h, _ => by cases h
  | (v, n) :: t, 0, x, h, hx => by
    have h2 : (v, n) = x := Option.some.inj h
    subst h2
    show (List.replicate n v ++ rows t)[0]? = some v
    cases n with
    | zero => exact absurd hx (Nat.not_succ_le_zero _)
    | succ n => rfl
  | (v, n) :: t, p + 1, x, h, hx => by
    have h2 := rows_at t p x h hx
    show (List.replicate n v ++ rows t)[n + tot (t.take p)]? = some x.1
    rw [List.getElem?_append_right (by rw [List.length_replicate]; exact Nat.le_add_right _ _), List.length_replicate, Nat.add_sub_cancel_left]
    exact h2
theorem zip_at {A B : List Nat} {i : Nat} {a b : Nat} (h : (A.zip B)[i]? = some (a, b)) : i < A.length ∧ i < B.length ∧ chr A i = a ∧ chr B i = b := by
  have hi := (List.getElem?_eq_some_iff.mp h).1
  rw [List.length_zip] at hi
  have h1 : i < A.length := by omega
  have h2 : i < B.length := by omega
  have h3 := (List.getElem?_eq_some_iff.mp h).2
  rw [List.getElem_zip] at h3
  exact ⟨h1, h2, by rw [chr_get h1]; exact congrArg Prod.fst h3, by rw [chr_get h2]; exact congrArg Prod.snd h3⟩
-- sums over rows
def cAl : List (Nat × Nat) → Int
  | [] => 0
  | (v, u) :: t => (if v = u then 1 else 0) + cAl t
def cSm : List (Nat × Nat) → Int
  | [] => 0
  | (v, u) :: t => (v : Int) * u + cSm t
theorem cAl_app : ∀ (P R : List (Nat × Nat)), cAl (P ++ R) = cAl P + cAl R
  | [], R => by rw [List.nil_append, cAl, Int.zero_add]
  | (v, u) :: t, R => by rw [List.cons_append, cAl, cAl, cAl_app t R]; omega
theorem cSm_app : ∀ (P R : List (Nat × Nat)), cSm (P ++ R) = cSm P + cSm R
  | [], R => by rw [List.nil_append, cSm, Int.zero_add]
  | (v, u) :: t, R => by rw [List.cons_append, cSm, cSm, cSm_app t R]; omega
theorem cAl_rep (v u : Nat) : ∀ k, cAl (List.replicate k (v, u)) = if v = u then (k : Int) else 0
  | 0 => by split <;> rfl
  | k + 1 => by
    rw [List.replicate_succ, cAl, cAl_rep v u k]
    split <;> omega
theorem cSm_rep (v u : Nat) : ∀ k : Nat, cSm (List.replicate k (v, u)) = (v : Int) * u * k
  | 0 => by rw [Int.natCast_zero, Int.mul_zero]; rfl
  | k + 1 => by
    rw [List.replicate_succ, cSm, cSm_rep v u k, Int.natCast_succ, Int.mul_add, Int.mul_one]
    omega
theorem gAl_rows : ∀ (L : Rp) (acc : Int), gAl acc L = acc + cAl (rows L)
  | [], acc => (Int.add_zero acc).symm
  | ((v, u), k) :: t, acc => by
    rw [gAl, gAl_rows t, rows, cAl_app, cAl_rep]
    split <;> omega
theorem gSm_rows : ∀ (L : Rp) (acc : Int), gSm acc L = acc + cSm (rows L)
  | [], acc => (Int.add_zero acc).symm
  | ((v, u), k) :: t, acc => by
    rw [gSm, gSm_rows t, rows, cSm_app, cSm_rep]
    omega
def upB (m : Nat → Nat) (v u : Nat) : Nat → Nat := fun x => if x = v then m x ||| 2 ^ u else m x
def mkR (m : Nat → Nat) : List (Nat × Nat) → Nat → Nat
  | [] => m
  | (v, u) :: t => mkR (upB m v u) t
theorem mkR_app : ∀ (P R : List (Nat × Nat)) (m : Nat → Nat), mkR m (P ++ R) = mkR (mkR m P) R
  | [], R, m => rfl
  | (v, u) :: t, R, m => mkR_app t R _
theorem upB_idem (m : Nat → Nat) (v u : Nat) : upB (upB m v u) v u = upB m v u := by
  funext x
  unfold upB
  by_cases h : x = v
  · simp only [if_pos h]
    rw [Nat.or_assoc, Nat.or_self]
  · simp only [if_neg h]
theorem mkR_rep (v u : Nat) : ∀ (k : Nat) (m : Nat → Nat), mkR m (List.replicate (k + 1) (v, u)) = upB m v u
  | 0, m => rfl
  | k + 1, m => by
    rw [List.replicate_succ, mkR, mkR_rep v u k, upB_idem]
theorem gMk_rows : ∀ (L : Rp) (m : Nat → Nat), (∀ x ∈ L, 1 ≤ x.2) → gMk m L = mkR m (rows L)
  | [], m, _ => rfl
  | ((v, u), k) :: t, m, h => by
    have h1 : 1 ≤ k := h _ List.mem_cons_self
    obtain ⟨j, rfl⟩ : ∃ j, k = j + 1 := ⟨k - 1, by omega⟩
    rw [gMk, gMk_rows t _ (fun x hx => h x (List.mem_cons_of_mem _ hx)), rows, mkR_app, mkR_rep]
    rfl
theorem mkR_lt : ∀ (P : List (Nat × Nat)) (m : Nat → Nat), (∀ x, m x < 1024) → (∀ q ∈ P, q.2 ≤ 9) → ∀ x, mkR m P x < 1024
  | [], m, h, _, x => h x
  | (v, u) :: t, m, h, hq, x => by
    refine mkR_lt t _ (fun y => ?_) (fun q z => hq q (List.mem_cons_of_mem _ z)) x
    unfold upB
    split
    · exact or_lt (h y) (hq _ List.mem_cons_self)
    · exact h y
theorem popT_or : ∀ u : Nat, u < 10 → ∀ n : Nat, n < 1024 → popT (n ||| 2 ^ u) 10 = popT n 10 + (if n / 2 ^ u % 2 = 0 then 1 else 0) := by decide +kernel
theorem bit_or (n u w : Nat) : (n ||| 2 ^ u) / 2 ^ w % 2 = if w = u then 1 else n / 2 ^ w % 2 := by
  have h1 := Nat.testBit_eq_decide_div_mod_eq (x := n ||| 2 ^ u) (i := w)
  rw [Nat.testBit_or, Nat.testBit_two_pow, Nat.testBit_eq_decide_div_mod_eq (x := n) (i := w)] at h1
  have h2 := Nat.mod_lt ((n ||| 2 ^ u) / 2 ^ w) (show 0 < 2 by decide)
  have h3 := Nat.mod_lt (n / 2 ^ w) (show 0 < 2 by decide)
  by_cases e : w = u
  · rw [if_pos e]
    rw [decide_eq_true (show u = w from e.symm), Bool.or_true] at h1
    exact of_decide_eq_true h1.symm
  · rw [if_neg e]
    rw [decide_eq_false (show ¬ u = w from fun z => e z.symm), Bool.or_false] at h1
    by_cases e2 : n / 2 ^ w % 2 = 1
    · rw [decide_eq_true e2] at h1
      rw [e2]
      exact of_decide_eq_true h1.symm
    · rw [decide_eq_false e2] at h1
      have e3 := of_decide_eq_false h1.symm
      omega
theorem sumTo_up (f g : Nat → Int) (v : Nat) (d : Int) (h : ∀ x, g x = if x = v then f x + d else f x) : ∀ n, sumTo g n = sumTo f n + (if v < n then d else 0)
  | 0 => by rw [if_neg (Nat.not_lt_zero _)]; rfl
  | n + 1 => by
    rw [sumTo, sumTo, sumTo_up f g v d h n, h n]
    by_cases e : n = v
    · subst e
      rw [if_pos rfl, if_neg (Nat.lt_irrefl _), if_pos (Nat.lt_succ_self _)]
      omega
    · rw [if_neg e]
      by_cases e2 : v < n
      · rw [if_pos e2, if_pos (by omega)]
        omega
      · rw [if_neg e2, if_neg (by omega)]
        omega
def uq (m : Nat → Nat) : Int := sumTo (fun x => ((popT (m x) 10 : Nat) : Int)) 10
theorem uq_up {m : Nat → Nat} {v u : Nat} (hm : ∀ x, m x < 1024) (hv : v ≤ 9) (hu : u ≤ 9) : uq (upB m v u) = uq m + (if m v / 2 ^ u % 2 = 0 then 1 else 0) := by
  unfold uq
  have h := sumTo_up (fun x => ((popT (m x) 10 : Nat) : Int)) (fun x => ((popT (upB m v u x) 10 : Nat) : Int)) v (if m v / 2 ^ u % 2 = 0 then 1 else 0) (fun x => ?_) 10
  · rw [h, if_pos (by omega)]
  · unfold upB
    by_cases e : x = v
    · subst e
      rw [if_pos rfl, if_pos rfl, popT_or u (by omega) _ (hm x)]
      split <;> rfl
    · rw [if_neg e, if_neg e]
-- set in place
def beg (l : List Nat) (r : Nat) : Int := (if r ≠ 0 ∧ chr l r = chr l (r - 1) then 0 else 1) + (if r + 1 < l.length ∧ chr l (r + 1) ≠ chr l r then 1 else 0)
theorem chr_set (l : List Nat) (r v i : Nat) (hr : r < l.length) : chr (l.set r v) i = if i = r then v else chr l i := by
  simp only [chr, List.getD_eq_getElem?_getD, List.getElem?_set]
  by_cases e : r = i
  · subst e
    rw [if_pos rfl, if_pos hr, if_pos rfl]
    rfl
  · rw [if_neg e, if_neg (fun z => e z.symm)]
theorem chr_rows : ∀ (L : Ru) (r : Nat), r < tot L → chr (rows L) r = rv L (rof L r)
  | [], r, h => absurd h (Nat.not_lt_zero _)
  | (v, n) :: t, r, h => by
    rw [rows, rof]
    by_cases e : r < n
    · rw [if_pos e, chr_l _ (by rw [List.length_replicate]; exact e), chr_rep e]
      rfl
    · rw [if_neg e]
      obtain ⟨j, rfl⟩ : ∃ j, r = n + j := ⟨r - n, by omega⟩
      have e3 := chr_r (List.replicate n v) (rows t) j
      rw [List.length_replicate] at e3
      rw [tot] at h
      rw [e3, Nat.add_sub_cancel_left, chr_rows t j (by omega), Nat.add_comm 1]
      rfl
theorem chr_run {l : List Nat} {k r : Nat} (hk : k < (enc l).length) (h1 : tot ((enc l).take k) ≤ r) (h2 : r < tot ((enc l).take k) + rn (enc l) k) : chr l r = rv (enc l) k ∧ rof (enc l) r = k ∧ r < l.length := by
  have h3 := rof_uniq hk h1 h2
  have h4 := tot_take_le (enc l) (k + 1)
  rw [tot_take_succ hk, tot_enc] at h4
  have h5 := chr_rows (enc l) r (by rw [tot_enc]; omega)
  rw [rows_enc, h3] at h5
  exact ⟨h5, h3, by omega⟩
theorem asets_beg {l : List Nat} {r v : Nat} (hr : r < l.length) : asets (enc l) r (v : Int) = ((enc l).length : Int) - beg l r + beg (l.set r v) r := by
  obtain ⟨hk, h1, h2⟩ := rof_spec (enc l) r (by rw [tot_enc]; exact hr)
  generalize hkk : rof (enc l) r = k at hk h1 h2
  have hc := (chr_run hk h1 h2).1
  have hal := alt_ne (enc l) (can_enc l).1
  have hrv := enc_rv hk
  have hts := tot_split (enc l) k
  have htd := tot_drop hk
  rw [tot_enc] at hts
  -- the row ahead
  have hprev : r ≠ 0 → (r = tot ((enc l).take k) → 0 < k ∧ chr l (r - 1) = rv (enc l) (k - 1)) ∧ (r ≠ tot ((enc l).take k) → chr l (r - 1) = rv (enc l) k) := by
    intro h0
    refine ⟨fun e => ?_, fun e => (chr_run hk (by omega) (by omega)).1⟩
    have hk0 : 0 < k := by
      rcases Nat.eq_zero_or_pos k with z | z
      · rw [z, List.take_zero] at e
        exact absurd e h0
      · exact z
    have hk1 : k - 1 < (enc l).length := by omega
    have e5 := tot_take_succ hk1
    rw [Nat.sub_add_cancel hk0] at e5
    have hn1 := (enc_rv hk1).2.1
    exact ⟨hk0, (chr_run hk1 (by omega) (by omega)).1⟩
  -- the row behind
  have hnext : r + 1 < l.length → (r + 1 = tot ((enc l).take k) + rn (enc l) k → k + 1 < (enc l).length ∧ chr l (r + 1) = rv (enc l) (k + 1)) ∧ (r + 1 ≠ tot ((enc l).take k) + rn (enc l) k → chr l (r + 1) = rv (enc l) k) := by
    intro h0
    refine ⟨fun e => ?_, fun e => (chr_run hk (by omega) (by omega)).1⟩
    have hk1 : k + 1 < (enc l).length := by
      rcases Nat.lt_or_ge (k + 1) (enc l).length with z | z
      · exact z
      · rw [ru_end _ z] at htd
        have : tot ([] : Ru) = 0 := rfl
        omega
    have e5 := tot_take_succ hk
    have hn1 := (enc_rv hk1).2.1
    exact ⟨hk1, (chr_run hk1 (by omega) (by omega)).1⟩
  have hlast : r + 1 = l.length → r + 1 = tot ((enc l).take k) + rn (enc l) k ∧ k + 1 = (enc l).length := by
    intro e
    rcases Nat.lt_or_ge (k + 1) (enc l).length with z | z
    · have e6 := tot_drop z
      have hn1 := (enc_rv z).2.1
      omega
    · exact ⟨by rw [ru_end _ z] at htd; have : tot ([] : Ru) = 0 := rfl; omega, by omega⟩
  have hset : (l.set r v).length = l.length := List.length_set
  unfold beg asets
  rw [hset, chr_set l r v r hr, chr_set l r v (r - 1) hr, chr_set l r v (r + 1) hr, if_pos rfl, if_neg (by omega : ¬ r + 1 = r), hkk, hc]
  have e0 : rvO (enc l) (k : Int) = (rv (enc l) k : Int) := by
    unfold rvO
    rw [if_pos (by omega)]
    rfl
  rw [e0]
  have em : 0 < k → rvO (enc l) ((k : Int) - 1) = (rv (enc l) (k - 1) : Int) := by
    intro z
    unfold rvO
    rw [if_pos (by omega), show ((k : Int) - 1).toNat = k - 1 by omega]
  have em0 : k = 0 → rvO (enc l) ((k : Int) - 1) = -6 := by
    intro z
    unfold rvO
    rw [if_neg (by omega)]
  have ep : k + 1 < (enc l).length → rvO (enc l) ((k : Int) + 1) = (rv (enc l) (k + 1) : Int) := by
    intro z
    unfold rvO
    rw [if_pos (by omega), show ((k : Int) + 1).toNat = k + 1 by omega]
  have ep0 : k + 1 = (enc l).length → rvO (enc l) ((k : Int) + 1) = -6 := by
    intro z
    unfold rvO
    rw [if_neg (by omega)]
  have ht0 : r = 0 → r = tot ((enc l).take k) ∧ k = 0 := by
    intro z
    rcases Nat.eq_zero_or_pos k with y | y
    · rw [y, List.take_zero] at h1 ⊢
      exact ⟨z, rfl⟩
    · have hk1 : k - 1 < (enc l).length := by omega
      have e5 := tot_take_succ hk1
      rw [Nat.sub_add_cancel y] at e5
      have hn1 := (enc_rv hk1).2.1
      omega
  -- the ends, one after the other
  have hA : ∀ x : Nat, x = v → True := fun _ _ => trivial
  by_cases hv : rv (enc l) k = v
  · rw [if_pos (show (rv (enc l) k : Int) = (v : Int) by omega)]
    have hx : (if r ≠ 0 ∧ v = (if r - 1 = r then v else chr l (r - 1)) then (0 : Int) else 1) = (if r ≠ 0 ∧ v = chr l (r - 1) then 0 else 1) := by
      by_cases r0 : r = 0
      · rw [if_neg (fun z => z.1 r0), if_neg (fun z => z.1 r0)]
      · rw [if_neg (show ¬ r - 1 = r by omega)]
    rw [hv, hx]
    omega
  · rw [if_neg (show ¬ (rv (enc l) k : Int) = (v : Int) by omega)]
    have hP : (if r = tot ((enc l).take k) then (if rvO (enc l) ((k : Int) - 1) = (v : Int) then (-1 : Int) else 0) else 1) = (if r ≠ 0 ∧ v = (if r - 1 = r then v else chr l (r - 1)) then 0 else 1) - (if r ≠ 0 ∧ rv (enc l) k = chr l (r - 1) then 0 else 1) := by
      by_cases r0 : r = 0
      · rw [if_pos (ht0 r0).1, em0 (ht0 r0).2, if_neg (by omega), if_neg (fun z => z.1 r0), if_neg (fun z => z.1 r0)]
        rfl
      · rw [if_neg (show ¬ r - 1 = r by omega)]
        obtain ⟨p1, p2⟩ := hprev r0
        by_cases e : r = tot ((enc l).take k)
        · obtain ⟨p3, p4⟩ := p1 e
          have p5 := hal (k - 1) (by omega)
          rw [Nat.sub_add_cancel p3] at p5
          rw [if_pos e, em p3, p4, if_neg (fun z : r ≠ 0 ∧ rv (enc l) k = rv (enc l) (k - 1) => p5 z.2.symm)]
          by_cases e2 : rv (enc l) (k - 1) = v
          · rw [if_pos (by omega), if_pos ⟨r0, e2.symm⟩]
            rfl
          · rw [if_neg (by omega), if_neg (fun z => e2 z.2.symm)]
            rfl
        · rw [if_neg e, p2 e, if_neg (fun z => hv z.2.symm), if_pos ⟨r0, rfl⟩]
          rfl
    have hN : (if r + 1 = tot ((enc l).take k) + rn (enc l) k then (if rvO (enc l) ((k : Int) + 1) = (v : Int) then (-1 : Int) else 0) else 1) = (if r + 1 < l.length ∧ chr l (r + 1) ≠ v then 1 else 0) - (if r + 1 < l.length ∧ chr l (r + 1) ≠ rv (enc l) k then 1 else 0) := by
      by_cases r0 : r + 1 < l.length
      · obtain ⟨p1, p2⟩ := hnext r0
        by_cases e : r + 1 = tot ((enc l).take k) + rn (enc l) k
        · obtain ⟨p3, p4⟩ := p1 e
          have p5 := hal k p3
          rw [if_pos e, ep p3, p4, if_pos (⟨r0, fun z => p5 z.symm⟩ : r + 1 < l.length ∧ rv (enc l) (k + 1) ≠ rv (enc l) k)]
          by_cases e2 : rv (enc l) (k + 1) = v
          · rw [if_pos (by omega), if_neg (fun z => z.2 e2)]
            rfl
          · rw [if_neg (by omega), if_pos ⟨r0, e2⟩]
            rfl
        · rw [if_neg e, p2 e, if_neg (fun z : r + 1 < l.length ∧ rv (enc l) k ≠ rv (enc l) k => z.2 rfl), if_pos ⟨r0, hv⟩]
          rfl
      · obtain ⟨p1, p2⟩ := hlast (by omega)
        rw [if_pos p1, ep0 p2, if_neg (by omega), if_neg (fun z => r0 z.1), if_neg (fun z => r0 z.1)]
        rfl
    rw [hP, hN]
    omega
def bq (L : Ru) (v : Int) : Nat → Nat × Int
  | 0 => (0, asets L 0 v)
  | k + 1 => best1 L v k (bq L v k)
theorem best1_le (L : Ru) (v : Int) (r : Nat) (q : Nat × Int) : (best1 L v r q).2 ≤ q.2 ∧ (best1 L v r q).2 ≤ asets L r v := by
  unfold best1
  split
  · exact ⟨by show asets L r v ≤ q.2; omega, Int.le_refl _⟩
  · exact ⟨Int.le_refl _, by omega⟩
theorem bq_run {l : List Nat} {v : Int} {k : Nat} (hk : k < (enc l).length) : bq (enc l) v (tot ((enc l).take k) + rn (enc l) k) = best1 (enc l) v (tot ((enc l).take k) + rn (enc l) k - 1) (best1 (enc l) v (tot ((enc l).take k)) (bq (enc l) v (tot ((enc l).take k)))) := by
  have hn := (enc_rv hk).2.1
  generalize hf : tot ((enc l).take k) = f
  generalize hnn : rn (enc l) k = n at hn ⊢
  have hw : ∀ r, f ≤ r → r < f + n → rof (enc l) r = k := fun r h1 h2 => (chr_run hk (by omega) (by omega)).2.1
  have ha : ∀ r, f < r → r + 1 < f + n → asets (enc l) f v ≤ asets (enc l) r v := by
    intro r h1 h2
    unfold asets
    rw [hw r (by omega) (by omega), hw f (by omega) (by omega), hf, hnn]
    split
    · exact Int.le_refl _
    · rw [if_pos rfl, if_neg (show ¬ r = f by omega), if_neg (show ¬ r + 1 = f + n by omega)]
      repeat' split
      all_goals omega
  have hst : ∀ j, 1 ≤ j → j < n → bq (enc l) v (f + j) = best1 (enc l) v f (bq (enc l) v f) := by
    intro j
    induction j with
    | zero => intro h; omega
    | succ j ih =>
      intro _ h2
      rcases Nat.eq_zero_or_pos j with z | z
      · subst z
        rfl
      · show best1 (enc l) v (f + j) (bq (enc l) v (f + j)) = _
        rw [ih z (by omega)]
        have h3 := (best1_le (enc l) v f (bq (enc l) v f)).2
        have h4 := ha (f + j) (by omega) (by omega)
        generalize best1 (enc l) v f (bq (enc l) v f) = q at h3
        unfold best1
        rw [if_neg (by omega)]
  obtain ⟨m, rfl⟩ : ∃ m, n = m + 1 := ⟨n - 1, by omega⟩
  show best1 (enc l) v (f + m) (bq (enc l) v (f + m)) = best1 (enc l) v (f + (m + 1) - 1) _
  rw [show f + (m + 1) - 1 = f + m by omega]
  rcases Nat.eq_zero_or_pos m with z | z
  · subst z
    rw [Nat.add_zero]
    have h3 := best1_le (enc l) v f (bq (enc l) v f)
    generalize hq : best1 (enc l) v f (bq (enc l) v f) = q at h3
    unfold best1
    rw [if_neg (by omega)]
  · rw [hst m z (by omega)]
theorem fBest_bq {l : List Nat} {v : Int} : ∀ (n k : Nat), k + n = (enc l).length → fBest (enc l) v (tot ((enc l).take k)) (bq (enc l) v (tot ((enc l).take k))) ((enc l).drop k) = bq (enc l) v l.length
  | 0, k, h => by
    rw [ru_end _ (by omega : (enc l).length ≤ k), fBest, List.take_of_length_le (by omega), tot_enc]
  | n + 1, k, h => by
    have hk : k < (enc l).length := by omega
    have h1 := tot_take_succ hk
    rw [ru_drop hk, fBest, ← bq_run hk, ← h1]
    exact fBest_bq n (k + 1) (by omega)
theorem fBest_eq (l : List Nat) (v : Int) : fBest (enc l) v 0 (0, asets (enc l) 0 v) (enc l) = bq (enc l) v l.length := fBest_bq (l := l) (v := v) (enc l).length 0 (by omega)
