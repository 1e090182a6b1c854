/-! what is asked of a column: functions over its runs, as loops over them add up -/
def fRows (v : Int) : Int → Ru → Int
  | acc, [] => acc
  | acc, (w, n) :: t => fRows v (if (w : Int) = v then acc + n else acc) t
def fRuns (v : Int) : Int → Ru → Int
  | acc, [] => acc
  | acc, (w, _) :: t => fRuns v (if (w : Int) = v then acc + 1 else acc) t
def fLongOf (v : Int) : Int → Ru → Int
  | acc, [] => acc
  | acc, (w, n) :: t => fLongOf v (if (w : Int) = v then (if acc < (n : Int) then (n : Int) else acc) else acc) t
def fLong : Int → Ru → Int
  | acc, [] => acc
  | acc, (_, n) :: t => fLong (if acc < (n : Int) then (n : Int) else acc) t
def fSum : Int → Ru → Int
  | acc, [] => acc
  | acc, (w, n) :: t => fSum (acc + (w : Int) * n) t
def fSet : Nat → Ru → Nat
  | acc, [] => acc
  | acc, (w, _) :: t => fSet (acc ||| 2 ^ w) t
def nFall : Ru → Bool
  | [] => true
  | [_] => true
  | a :: b :: t => if b.1 < a.1 then false else nFall (b :: t)
def nRise : Ru → Bool
  | [] => true
  | [_] => true
  | a :: b :: t => if a.1 < b.1 then false else nRise (b :: t)
def fRank (v : Int) : Nat → Nat → Ru → Int
  | _, _, [] => -6
  | first, left, (w, n) :: t => if (w : Int) = v then (if left < n then ((first + left : Nat) : Int) else fRank v (first + n) (left - n) t) else fRank v (first + n) left t
/-- the run of a row -/
def rof : Ru → Nat → Nat
  | [], _ => 0
  | (_, n) :: t, r => if r < n then 0 else 1 + rof t (r - n)
theorem rof_spec : ∀ (L : Ru) (r : Nat), r < tot L → rof L r < L.length ∧ tot (L.take (rof L r)) ≤ r ∧ r < tot (L.take (rof L r)) + rn L (rof L r)
  | [], r, h => by simp [tot] at h
  | (v, n) :: t, r, h => by
    rw [rof]
    by_cases e : r < n
    · rw [if_pos e]
      refine ⟨Nat.zero_lt_succ _, Nat.zero_le _, ?_⟩
      show r < 0 + n
      omega
    · rw [if_neg e]
      have ht : r - n < tot t := by
        rw [tot] at h
        omega
      obtain ⟨h1, h2, h3⟩ := rof_spec t (r - n) ht
      have e1 : ((v, n) :: t).take (1 + rof t (r - n)) = (v, n) :: t.take (rof t (r - n)) := by rw [Nat.add_comm]; rfl
      have e2 : rn ((v, n) :: t) (1 + rof t (r - n)) = rn t (rof t (r - n)) := by rw [Nat.add_comm]; rfl
      rw [e1, e2, tot]
      refine ⟨by rw [List.length_cons]; omega, by omega, by omega⟩
theorem rof_uniq {L : Ru} {r k : Nat} (hk : k < L.length) (h1 : tot (L.take k) ≤ r) (h2 : r < tot (L.take k) + rn L k) : rof L r = k := by
  have hr : r < tot L := by
    have := tot_take_le L (k + 1)
    rw [tot_take_succ hk] at this
    omega
  obtain ⟨g1, g2, g3⟩ := rof_spec L r hr
  have mono : ∀ a b : Nat, a < b → b ≤ L.length → a < L.length → tot (L.take (a + 1)) ≤ tot (L.take b) := by
    intro a b hab _ _
    have e : L.take (a + 1) = (L.take b).take (a + 1) := by rw [List.take_take, Nat.min_eq_left (by omega)]
    rw [e]
    exact tot_take_le _ _
  rcases Nat.lt_trichotomy (rof L r) k with h | h | h
  · have := mono _ _ h (by omega) g1
    rw [tot_take_succ g1] at this
    omega
  · exact h
  · have := mono _ _ h (by omega) hk
    rw [tot_take_succ hk] at this
    omega
theorem xor2 (a b : Nat) : Int32.ofInt ((a ||| b : Nat) : Int) = Int32.ofInt (a : Int) ||| Int32.ofInt (b : Int) := by
  rw [Int32.ofInt_eq_ofNat, Int32.ofInt_eq_ofNat, Int32.ofInt_eq_ofNat]
  apply Int32.toBitVec.inj
  simp
theorem xshl1 (w : Nat) (hw : w ≤ 9) : Int32.ofInt ((2 ^ w : Nat) : Int) = Int32.ofInt 1 <<< (Int32.ofInt (w : Int) &&& 31) := by
  rcases (show w = 0 ∨ w = 1 ∨ w = 2 ∨ w = 3 ∨ w = 4 ∨ w = 5 ∨ w = 6 ∨ w = 7 ∨ w = 8 ∨ w = 9 by omega) with rfl | rfl | rfl | rfl | rfl | rfl | rfl | rfl | rfl | rfl <;> rfl
/-- a value by a run's number, -6 beyond both ends -/
def rvO (L : Ru) (i : Int) : Int := if 0 ≤ i ∧ i < L.length then (rv L i.toNat : Int) else -6
def rnO (L : Ru) (i : Int) : Int := if 0 ≤ i ∧ i < L.length then (rn L i.toNat : Int) else 0
/-- how many runs there would be behind set() of a row -/
def asets (L : Ru) (r : Nat) (v : Int) : Int :=
  if rvO L (rof L r) = v then (L.length : Int) else
    L.length + (if r = tot (L.take (rof L r)) then (if rvO L ((rof L r : Int) - 1) = v then -1 else 0) else 1) + (if r + 1 = tot (L.take (rof L r)) + rn L (rof L r) then (if rvO L ((rof L r : Int) + 1) = v then -1 else 0) else 1)
def best1 (L : Ru) (v : Int) (r : Nat) (q : Nat × Int) : Nat × Int := if asets L r v < q.2 then (r, asets L r v) else q
def fBest (L : Ru) (v : Int) : Nat → Nat × Int → Ru → Nat × Int
  | _, q, [] => q
  | first, q, (_, n) :: t => fBest L v (first + n) (best1 L v (first + n - 1) (best1 L v first q)) t
/-- a part of rows -/
def slice {α : Type} (l : List α) (a b : Nat) : List α := (l.take b).drop a
theorem slice_snoc {α : Type} (A : List α) (v : α) (n a b : Nat) : slice (A ++ List.replicate n v) a b = slice A a b ++ List.replicate (min (A.length + n) b - max A.length a) v := by
  unfold slice
  rw [List.take_append, List.take_replicate, List.drop_append, List.drop_replicate, List.length_take]
  congr 2
  omega
theorem slice_all {α : Type} (l : List α) {b : Nat} (h : l.length ≤ b) : slice l 0 b = l := by
  unfold slice
  rw [List.take_of_length_le h, List.drop_zero]
