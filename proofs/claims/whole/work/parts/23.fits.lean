/-! rows that were taken out, and sorted rows, are rows that a column can have -/
theorem fRows_acc (v : Int) : ∀ (L : Ru) (acc : Int), fRows v acc L = acc + fRows v 0 L
  | [], acc => by simp [fRows]
  | (w, n) :: t, acc => by
    rw [fRows, fRows, fRows_acc v t (if (w : Int) = v then acc + n else acc), fRows_acc v t (if (w : Int) = v then 0 + n else 0)]
    split <;> omega
theorem fRows_le (v : Int) : ∀ (L : Ru), 0 ≤ fRows v 0 L ∧ fRows v 0 L ≤ tot L
  | [] => by simp [fRows, tot]
  | (w, n) :: t => by
    have ih := fRows_le v t
    rw [fRows, fRows_acc, tot]
    split <;> omega
theorem fRows_rng {M : XM} {o : Nat} {l : List Nat} (h : Col M o l) (v : Int) : 0 ≤ fRows v 0 (enc l) ∧ fRows v 0 (enc l) ≤ 999 := by
  have h1 := fRows_le v (enc l)
  rw [tot_enc] at h1
  have h2 := h.len
  omega
theorem enc_cons_len {α : Type} [DecidableEq α] (v : α) (l : List α) : (enc l).length ≤ (enc (v :: l)).length ∧ (enc (v :: l)).length ≤ (enc l).length + 1 := by
  show (enc l).length ≤ (cr v (enc l)).length ∧ (cr v (enc l)).length ≤ (enc l).length + 1
  cases enc l with
  | nil => exact ⟨Nat.zero_le _, Nat.le_refl _⟩
  | cons a t =>
    obtain ⟨w, m⟩ := a
    rw [cr_cons]
    split
    · exact ⟨Nat.le_refl _, Nat.le_succ _⟩
    · exact ⟨Nat.le_succ _, Nat.le_refl _⟩
theorem enc_drop_len {α : Type} [DecidableEq α] : ∀ (l : List α) (k : Nat), (enc (l.drop k)).length ≤ (enc l).length
  | l, 0 => by rw [List.drop_zero]; exact Nat.le_refl _
  | [], k + 1 => by rw [List.drop_nil]; exact Nat.le_refl _
  | v :: t, k + 1 => Nat.le_trans (enc_drop_len t k) (enc_cons_len v t).1
/-- a part taken out never makes more runs -/
theorem enc_cut_len {α : Type} [DecidableEq α] : ∀ (l : List α) (a k : Nat), a ≤ k → (enc (l.take a ++ l.drop k)).length ≤ (enc l).length
  | l, 0, k, _ => by rw [List.take_zero, List.nil_append]; exact enc_drop_len l k
  | [], a + 1, k, _ => by simp
  | v :: t, a + 1, 0, h => by omega
  | v :: t, a + 1, k + 1, h => by
    have ih := enc_cut_len t a k (by omega)
    rw [List.take_succ_cons, List.drop_succ_cons, List.cons_append]
    cases ht : t with
    | nil => simp
    | cons u t' =>
      cases a with
      | succ a =>
        -- the row behind v stays
        rw [ht] at ih
        rw [List.take_succ_cons, List.cons_append] at ih ⊢
        have e1 : ∀ (x : List α), (enc (v :: u :: x)).length = (enc (u :: x)).length + (if v = u then 0 else 1) := by
          intro x
          show (cr v (cr u (enc x))).length = (cr u (enc x)).length + _
          cases hx : enc x with
          | nil =>
            show (cr v [(u, 1)]).length = _
            rw [cr_cons]
            split <;> rfl
          | cons b s =>
            obtain ⟨z, m⟩ := b
            rw [cr_cons]
            by_cases huz : u = z
            · rw [if_pos huz, cr_cons]
              subst huz
              split <;> rfl
            · rw [if_neg huz, cr_cons]
              split <;> rfl
        rw [e1, e1]
        omega
      | zero =>
        rw [List.take_zero, List.nil_append]
        -- v and then a part from k on
        rw [← ht]
        have e2 : ∀ (x : List α) (j : Nat), (enc (v :: x.drop j)).length ≤ (enc (v :: x)).length := by
          intro x
          induction x with
          | nil => intro j; rw [List.drop_nil]; exact Nat.le_refl _
          | cons y s ihs =>
            intro j
            cases j with
            | zero => exact Nat.le_refl _
            | succ j =>
              rw [List.drop_succ_cons]
              refine Nat.le_trans (ihs j) ?_
              show (cr v (enc s)).length ≤ (cr v (cr y (enc s))).length
              cases hs : enc s with
              | nil =>
                show 1 ≤ (cr v [(y, 1)]).length
                rw [cr_cons]
                split <;> simp
              | cons b s' =>
                obtain ⟨z, m⟩ := b
                rw [cr_cons, cr_cons]
                by_cases hyz : y = z
                · rw [if_pos hyz, cr_cons]
                  subst hyz
                  by_cases hv : v = y
                  · rw [if_pos hv, if_pos hv]; exact Nat.le_refl _
                  · rw [if_neg hv, if_neg hv]; exact Nat.le_refl _
                · rw [if_neg hyz, cr_cons]
                  by_cases hv : v = y
                  · rw [if_pos hv]
                    split <;> simp
                  · rw [if_neg hv]
                    split <;> simp
        exact e2 t k
theorem fit_rem {l : List Nat} (h : fit l) (a k : Nat) (hk : a ≤ k) : fit (l.take a ++ l.drop k) := by
  refine ⟨?_, Nat.le_trans (enc_cut_len l a k hk) h.2⟩
  have := h.1
  simp
  omega
theorem fRows_enc (v : Nat) : ∀ (l : List Nat), fRows (v : Int) 0 (enc l) = (l.count v : Int) := by
  have key : ∀ (L : Ru), fRows (v : Int) 0 L = ((rows L).count v : Int) := by
    intro L
    induction L with
    | nil => rfl
    | cons a t ih =>
      obtain ⟨w, n⟩ := a
      rw [fRows, fRows_acc, ih, rows, List.count_append, List.count_replicate]
      by_cases h : w = v
      · subst h
        simp
      · have h2 : ¬ ((w : Int) = (v : Int)) := by omega
        simp [h, h2]
  intro l
  rw [key, rows_enc]
theorem sortTo_eq (l : List Nat) (k : Nat) : sortTo l (k + 1) = sortTo l k ++ List.replicate (l.count k) k := by
  rw [sortTo, fRows_enc]
  rfl
theorem enc_app_rep {α : Type} [DecidableEq α] (l : List α) (v : α) (n : Nat) : (enc (l ++ List.replicate n v)).length ≤ (enc l).length + 1 := by
  cases n with
  | zero => simp
  | succ n =>
    rw [enc_addr l v (Nat.succ_le_succ (Nat.zero_le n))]
    have key : ∀ (L : List (α × Nat)), (addr L v (n + 1)).length ≤ L.length + 1 := by
      intro L
      induction L with
      | nil => exact Nat.le_refl _
      | cons a t ih =>
        cases t with
        | nil =>
          obtain ⟨w, m⟩ := a
          rw [addr_one]
          split
          · exact Nat.le_succ _
          · exact Nat.le_refl _
        | cons b t => exact Nat.succ_le_succ ih
    exact key _
theorem sortTo_runs (l : List Nat) : ∀ k, (enc (sortTo l k)).length ≤ k
  | 0 => Nat.le_refl _
  | k + 1 => by
    rw [sortTo_eq]
    have h1 := enc_app_rep (sortTo l k) k (l.count k)
    have h2 := sortTo_runs l k
    omega
theorem count_sum_le (l : List Nat) : ∀ k, (sortTo l k).length ≤ (l.filter (fun v => decide (v < k))).length
  | 0 => Nat.zero_le _
  | k + 1 => by
    have ih := count_sum_le l k
    rw [sortTo_eq, List.length_append, List.length_replicate]
    have key : ∀ (x : List Nat), (x.filter (fun v => decide (v < k))).length + x.count k = (x.filter (fun v => decide (v < k + 1))).length := by
      intro x
      induction x with
      | nil => rfl
      | cons a t iht =>
        rw [List.filter_cons, List.filter_cons, List.count_cons]
        by_cases h1 : a < k
        · have h2 : a < k + 1 := by omega
          have h3 : ¬ a = k := by omega
          simp [h1, h2, h3]
          omega
        · by_cases h3 : a = k
          · subst h3
            simp
            omega
          · have h2 : ¬ a < k + 1 := by omega
            simp [h1, h2, h3]
            omega
    have := key l
    omega
theorem fit_sort {l : List Nat} (h : Ok l) : fit (sortTo l 10) := by
  refine ⟨?_, Nat.le_trans (sortTo_runs l 10) (by decide)⟩
  have h1 := count_sum_le l 10
  have h2 := List.length_filter_le (fun v => decide (v < 10)) l
  have h3 := h.1.1
  omega
