/-! columns as lists of runs; what a cell of ints says of them -/
abbrev Ru : Type := List (Nat × Nat)
def rv (L : Ru) (i : Nat) : Nat := (L.getD i (0, 0)).1
def rn (L : Ru) (i : Nat) : Nat := (L.getD i (0, 0)).2
def tot {α : Type} : List (α × Nat) → Nat
  | [] => 0
  | (_, n) :: t => n + tot t
def rows {α : Type} : List (α × Nat) → List α
  | [] => []
  | (v, n) :: t => List.replicate n v ++ rows t
theorem rows_len {α : Type} : ∀ (L : List (α × Nat)), (rows L).length = tot L
  | [] => rfl
  | (v, n) :: t => by rw [rows, tot, List.length_append, List.length_replicate, rows_len t]
theorem ru_drop {L : Ru} {k : Nat} (h : k < L.length) : L.drop k = (rv L k, rn L k) :: L.drop (k + 1) := by
  rw [List.drop_eq_getElem_cons h]
  have e : L.getD k (0, 0) = L[k] := by simp [h]
  simp only [rv, rn, e]
theorem ru_end {α : Type} (L : List α) {k : Nat} (h : L.length ≤ k) : L.drop k = [] := List.drop_eq_nil_of_le h
theorem ru_take {L : Ru} {k : Nat} (h : k < L.length) : L.take (k + 1) = L.take k ++ [(rv L k, rn L k)] := by
  rw [List.take_succ_eq_append_getElem h]
  have e : L.getD k (0, 0) = L[k] := by simp [h]
  simp only [rv, rn, e]
theorem tot_app {α : Type} : ∀ (A B : List (α × Nat)), tot (A ++ B) = tot A + tot B
  | [], B => by simp [tot]
  | (v, n) :: t, B => by rw [List.cons_append, tot, tot, tot_app t B]; omega
theorem rows_app {α : Type} : ∀ (A B : List (α × Nat)), rows (A ++ B) = rows A ++ rows B
  | [], B => rfl
  | (v, n) :: t, B => by rw [List.cons_append, rows, rows, rows_app t B, List.append_assoc]
theorem tot_split {α : Type} (L : List (α × Nat)) (k : Nat) : tot (L.take k) + tot (L.drop k) = tot L := by rw [← tot_app, List.take_append_drop]
theorem tot_drop {L : Ru} {k : Nat} (h : k < L.length) : tot (L.drop k) = rn L k + tot (L.drop (k + 1)) := by rw [ru_drop h, tot]
theorem rn_le {L : Ru} {k : Nat} (h : k < L.length) : rn L k ≤ tot L := by
  have h1 := tot_split L k
  rw [tot_drop h] at h1
  omega
theorem tot_take_le {α : Type} (L : List (α × Nat)) (k : Nat) : tot (L.take k) ≤ tot L := by
  have h1 := tot_split L k
  omega
theorem tot_take_succ {L : Ru} {k : Nat} (h : k < L.length) : tot (L.take (k + 1)) = tot (L.take k) + rn L k := by
  have h1 := tot_split L k
  have h2 := tot_split L (k + 1)
  rw [tot_drop h] at h1
  omega
theorem rows_take_succ {L : Ru} {k : Nat} (h : k < L.length) : rows (L.take (k + 1)) = rows (L.take k) ++ List.replicate (rn L k) (rv L k) := by
  rw [ru_take h, rows_app]
  simp [rows]
def alt {α : Type} : List (α × Nat) → Prop
  | [] => True
  | [_] => True
  | a :: b :: t => a.1 ≠ b.1 ∧ alt (b :: t)
/-- runs that are as they should be: none is empty, two side by side are never alike -/
def Can {α : Type} (L : List (α × Nat)) : Prop := alt L ∧ ∀ p ∈ L, 1 ≤ p.2
theorem alt.tail {α : Type} {a : α × Nat} {t : List (α × Nat)} (h : alt (a :: t)) : alt t := by
  cases t with
  | nil => trivial
  | cons b t => exact h.2
theorem Can.tail {α : Type} {a : α × Nat} {t : List (α × Nat)} (h : Can (a :: t)) : Can t := ⟨h.1.tail, fun p hp => h.2 p (List.mem_cons_of_mem _ hp)⟩
/-- a row ahead of runs -/
def cr {α : Type} [DecidableEq α] (v : α) : List (α × Nat) → List (α × Nat)
  | [] => [(v, 1)]
  | (w, m) :: t => if v = w then (w, m + 1) :: t else (v, 1) :: (w, m) :: t
def enc {α : Type} [DecidableEq α] : List α → List (α × Nat)
  | [] => []
  | v :: t => cr v (enc t)
theorem cr_cons {α : Type} [DecidableEq α] (v w : α) (m : Nat) (t : List (α × Nat)) : cr v ((w, m) :: t) = if v = w then (w, m + 1) :: t else (v, 1) :: (w, m) :: t := rfl
theorem rows_cr {α : Type} [DecidableEq α] (v : α) (L : List (α × Nat)) : rows (cr v L) = v :: rows L := by
  cases L with
  | nil => rfl
  | cons a t =>
    obtain ⟨w, m⟩ := a
    rw [cr_cons]
    by_cases h : v = w
    · rw [if_pos h, rows, rows, List.replicate_succ, h]
      rfl
    · rw [if_neg h]
      rfl
theorem rows_enc {α : Type} [DecidableEq α] : ∀ (l : List α), rows (enc l) = l
  | [] => rfl
  | v :: t => by rw [enc, rows_cr, rows_enc t]
theorem can_cr {α : Type} [DecidableEq α] (v : α) {L : List (α × Nat)} (h : Can L) : Can (cr v L) := by
  cases L with
  | nil => exact ⟨trivial, fun p hp => by simp [cr] at hp; subst hp; exact Nat.le_refl _⟩
  | cons a t =>
    obtain ⟨w, m⟩ := a
    rw [cr_cons]
    by_cases e : v = w
    · rw [if_pos e]
      refine ⟨?_, fun p hp => ?_⟩
      · cases t with
        | nil => trivial
        | cons b t => exact ⟨h.1.1, h.1.2⟩
      · rcases List.mem_cons.mp hp with rfl | hp
        · exact Nat.le_add_left 1 m
        · exact h.2 p (List.mem_cons_of_mem _ hp)
    · rw [if_neg e]
      refine ⟨⟨e, h.1⟩, fun p hp => ?_⟩
      rcases List.mem_cons.mp hp with rfl | hp
      · exact Nat.le_refl _
      · exact h.2 p hp
theorem can_enc {α : Type} [DecidableEq α] : ∀ (l : List α), Can (enc l)
  | [] => ⟨trivial, fun p hp => by cases hp⟩
  | v :: t => can_cr v (can_enc t)
theorem enc_rep {α : Type} [DecidableEq α] (v : α) (l : List α) (hl : ∀ w m t, enc l = (w, m) :: t → w ≠ v) : ∀ (n : Nat), enc (List.replicate (n + 1) v ++ l) = (v, n + 1) :: enc l
  | 0 => by
    show cr v (enc l) = _
    cases e : enc l with
    | nil => rfl
    | cons a t =>
      obtain ⟨w, m⟩ := a
      show (if v = w then _ else _) = _
      rw [if_neg (fun q => hl w m t e q.symm)]
  | n + 1 => by
    rw [List.replicate_succ, List.cons_append, enc, enc_rep v l hl n]
    show (if v = v then _ else _) = _
    rw [if_pos rfl]
/-- runs that are as they should be are those of their rows -/
theorem enc_rows {α : Type} [DecidableEq α] : ∀ (L : List (α × Nat)), Can L → enc (rows L) = L
  | [], _ => rfl
  | (v, n) :: t, h => by
    have ih := enc_rows t h.tail
    have hn : 1 ≤ n := h.2 (v, n) List.mem_cons_self
    obtain ⟨n, rfl⟩ : ∃ m, n = m + 1 := ⟨n - 1, by omega⟩
    rw [rows, enc_rep v (rows t) ?_ n, ih]
    intro w m t' e
    rw [ih] at e
    subst e
    exact fun q => h.1.1 q.symm
theorem can_eq {α : Type} [DecidableEq α] {A B : List (α × Nat)} (hA : Can A) (hB : Can B) (h : rows A = rows B) : A = B := by rw [← enc_rows A hA, ← enc_rows B hB, h]
/-- a run behind runs -/
def addr {α : Type} [DecidableEq α] : List (α × Nat) → α → Nat → List (α × Nat)
  | [], v, n => [(v, n)]
  | [(w, m)], v, n => if w = v then [(w, m + n)] else [(w, m), (v, n)]
  | a :: b :: t, v, n => a :: addr (b :: t) v n
theorem addr_one {α : Type} [DecidableEq α] (v w : α) (m n : Nat) : addr [(w, m)] v n = if w = v then [(w, m + n)] else [(w, m), (v, n)] := rfl
theorem rows_addr {α : Type} [DecidableEq α] : ∀ (L : List (α × Nat)) (v : α) (n : Nat), rows (addr L v n) = rows L ++ List.replicate n v
  | [], v, n => by simp [addr, rows]
  | [(w, m)], v, n => by
    rw [addr_one]
    by_cases h : w = v
    · rw [if_pos h, h]
      simp [rows]
    · rw [if_neg h]
      simp [rows]
  | (w, m) :: b :: t, v, n => by
    show List.replicate m w ++ rows (addr (b :: t) v n) = (List.replicate m w ++ rows (b :: t)) ++ _
    rw [rows_addr (b :: t) v n, List.append_assoc]
theorem addr_head {α : Type} [DecidableEq α] (b : α × Nat) (t : List (α × Nat)) (v : α) (n : Nat) : ∃ m t', addr (b :: t) v n = (b.1, m) :: t' := by
  obtain ⟨w, m⟩ := b
  cases t with
  | nil =>
    rw [addr_one]
    by_cases h : w = v
    · rw [if_pos h]
      exact ⟨_, _, rfl⟩
    · rw [if_neg h]
      exact ⟨_, _, rfl⟩
  | cons c t => exact ⟨_, _, rfl⟩
theorem can_addr {α : Type} [DecidableEq α] : ∀ (L : List (α × Nat)) (v : α) (n : Nat), Can L → 1 ≤ n → Can (addr L v n)
  | [], v, n, _, hn => ⟨trivial, fun p hp => by simp [addr] at hp; subst hp; exact hn⟩
  | [(w, m)], v, n, h, hn => by
    have hm : 1 ≤ m := h.2 (w, m) List.mem_cons_self
    rw [addr_one]
    by_cases e : w = v
    · rw [if_pos e]
      exact ⟨trivial, fun p hp => by simp at hp; subst hp; exact Nat.le_add_right_of_le hm⟩
    · rw [if_neg e]
      refine ⟨⟨e, trivial⟩, fun p hp => ?_⟩
      simp at hp
      rcases hp with rfl | rfl
      · exact hm
      · exact hn
  | a :: b :: t, v, n, h, hn => by
    have ih := can_addr (b :: t) v n h.tail hn
    rw [addr]
    obtain ⟨m, t', e⟩ := addr_head b t v n
    refine ⟨?_, fun p hp => ?_⟩
    · rw [e] at ih ⊢
      exact ⟨h.1.1, ih.1⟩
    · rcases List.mem_cons.mp hp with rfl | hp
      · exact h.2 p List.mem_cons_self
      · exact ih.2 p hp
theorem enc_addr {α : Type} [DecidableEq α] (l : List α) (v : α) {n : Nat} (hn : 1 ≤ n) : enc (l ++ List.replicate n v) = addr (enc l) v n := by
  refine can_eq (can_enc _) (can_addr _ v n (can_enc l) hn) ?_
  rw [rows_enc, rows_addr, rows_enc]
theorem enc_snoc {α : Type} [DecidableEq α] (l : List α) (v : α) : enc (l ++ [v]) = addr (enc l) v 1 := enc_addr l v (Nat.le_refl 1)
theorem addr_len {α : Type} [DecidableEq α] : ∀ (L : List (α × Nat)) (v : α) (n : Nat), L.length ≤ (addr L v n).length
  | [], v, n => Nat.zero_le _
  | [(w, m)], v, n => by
    rw [addr_one]
    by_cases e : w = v
    · rw [if_pos e]
      exact Nat.le_refl _
    · rw [if_neg e]
      exact Nat.le_succ _
  | a :: b :: t, v, n => Nat.succ_le_succ (addr_len (b :: t) v n)
theorem enc_mono {α : Type} [DecidableEq α] : ∀ (x l : List α), (enc l).length ≤ (enc (l ++ x)).length
  | [], l => by rw [List.append_nil]; exact Nat.le_refl _
  | v :: t, l => by
    have h1 := enc_mono t (l ++ [v])
    rw [List.append_assoc] at h1
    have h2 := addr_len (enc l) v 1
    rw [← enc_snoc] at h2
    exact Nat.le_trans h2 h1
theorem tot_enc {α : Type} [DecidableEq α] (l : List α) : tot (enc l) = l.length := by rw [← rows_len, rows_enc]
theorem enc_len_le {α : Type} [DecidableEq α] (l : List α) : (enc l).length ≤ l.length := by
  have key : ∀ (L : List (α × Nat)), (∀ p ∈ L, 1 ≤ p.2) → L.length ≤ tot L := by
    intro L
    induction L with
    | nil => intro _; exact Nat.le_refl _
    | cons a t ih =>
      intro h
      obtain ⟨w, m⟩ := a
      have h1 : 1 ≤ m := h (w, m) List.mem_cons_self
      have h2 := ih (fun p hp => h p (List.mem_cons_of_mem _ hp))
      show t.length + 1 ≤ m + tot t
      omega
  have h := key (enc l) (can_enc l).2
  rw [tot_enc] at h
  exact h
theorem enc_nil_iff {α : Type} [DecidableEq α] {l : List α} (h : enc l = []) : l = [] := by
  have h1 := rows_enc l
  rw [h] at h1
  exact h1.symm
theorem rows_mem {α : Type} : ∀ (L : List (α × Nat)), (∀ p ∈ L, 1 ≤ p.2) → ∀ p ∈ L, p.1 ∈ rows L
  | [], _, p, hp => by cases hp
  | (v, n) :: t, h, p, hp => by
    rw [rows]
    rcases List.mem_cons.mp hp with rfl | hp
    · have h1 : 1 ≤ n := h (v, n) List.mem_cons_self
      exact List.mem_append_left _ (List.mem_replicate.mpr ⟨by omega, rfl⟩)
    · exact List.mem_append_right _ (rows_mem t (fun q hq => h q (List.mem_cons_of_mem _ hq)) p hp)
theorem enc_mem {α : Type} [DecidableEq α] {l : List α} {p : α × Nat} (hp : p ∈ enc l) : p.1 ∈ l := by
  have h := rows_mem (enc l) (can_enc l).2 p hp
  rw [rows_enc] at h
  exact h
/-- rows that a column can have -/
def fit (l : List Nat) : Prop := l.length ≤ 999 ∧ (enc l).length ≤ 40
def Ok (l : List Nat) : Prop := fit l ∧ ∀ v ∈ l, v ≤ 9
theorem fit.left {l x : List Nat} (h : fit (l ++ x)) : fit l := by
  obtain ⟨h1, h2⟩ := h
  rw [List.length_append] at h1
  exact ⟨by omega, Nat.le_trans (enc_mono x l) h2⟩
theorem ru_mem {L : Ru} {k : Nat} (hk : k < L.length) : (rv L k, rn L k) ∈ L := by
  have e : L.getD k (0, 0) = L[k] := by simp [hk]
  have e2 : (rv L k, rn L k) = L[k] := by simp only [rv, rn, e]
  rw [e2]
  exact List.getElem_mem hk
theorem enc_rv {l : List Nat} {k : Nat} (hk : k < (enc l).length) : rv (enc l) k ∈ l ∧ 1 ≤ rn (enc l) k ∧ rn (enc l) k ≤ l.length := by
  have h := ru_mem hk
  refine ⟨enc_mem h, (can_enc l).2 _ h, ?_⟩
  have h2 := rn_le hk
  rw [tot_enc] at h2
  exact h2
-- what cells hold
def CRep (M : XM) (o : Nat) (L : Ru) : Prop := M o 2 = (L.length : Int) ∧ M o 3 = (tot L : Int) ∧ ∀ i, i < L.length → M (o + 1) i = (rv L i : Int) ∧ M (o + 2) i = (rn L i : Int)
/-- a column that holds the rows l -/
def Col (M : XM) (o : Nat) (l : List Nat) : Prop := CRep M o (enc l) ∧ M o 4 = 0 ∧ Ok l
/-- a draft to which the rows l were added -/
def Dra (M : XM) (o : Nat) (l : List Nat) : Prop := (∀ v ∈ l, v ≤ 9) ∧ (fit l → CRep M o (enc l) ∧ M o 4 = 0) ∧ (¬ fit l → M o 4 = 1)
theorem CRep.congr {M M' : XM} {o : Nat} {L : Ru} (h : CRep M o L) (h0 : M' o = M o) (h1 : M' (o + 1) = M (o + 1)) (h2 : M' (o + 2) = M (o + 2)) : CRep M' o L := by
  refine ⟨by rw [h0]; exact h.1, by rw [h0]; exact h.2.1, fun i hi => ?_⟩
  rw [h1, h2]
  exact h.2.2 i hi
theorem Col.congr {M M' : XM} {o : Nat} {l : List Nat} (h : Col M o l) (hq : ∀ a, o ≤ a → a < o + 3 → M' a = M a) : Col M' o l := ⟨h.1.congr (hq o (Nat.le_refl _) (by omega)) (hq _ (by omega) (by omega)) (hq _ (by omega) (by omega)), by rw [hq o (Nat.le_refl _) (by omega)]; exact h.2.1, h.2.2⟩
theorem Dra.congr {M M' : XM} {o : Nat} {l : List Nat} (h : Dra M o l) (hq : ∀ a, o ≤ a → a < o + 3 → M' a = M a) : Dra M' o l := ⟨h.1, fun hf => ⟨(h.2.1 hf).1.congr (hq o (Nat.le_refl _) (by omega)) (hq _ (by omega) (by omega)) (hq _ (by omega) (by omega)), by rw [hq o (Nat.le_refl _) (by omega)]; exact (h.2.1 hf).2⟩, fun hf => by rw [hq o (Nat.le_refl _) (by omega)]; exact h.2.2 hf⟩
/-- nothing but the cells from a on below b has changed; between the reader's cells, 106 and 109, 110, the pad's two stay -/
def Same (a b : Nat) (M M' : XM) : Prop := ∀ q, (q < a ∨ b ≤ q ∨ (a = 106 ∧ b = 111 ∧ 107 ≤ q ∧ q < 109)) → M' q = M q
theorem Same.rf {a b : Nat} {M : XM} : Same a b M M := fun _ _ => rfl
theorem Same.tr {a b : Nat} {M M1 M2 : XM} (h : Same a b M M1) (h2 : Same a b M1 M2) : Same a b M M2 := fun q hq => (h2 q hq).trans (h q hq)
theorem Same.mono {a b c d : Nat} {M M1 : XM} (h : Same a b M M1) (h1 : c ≤ a) (h2 : b ≤ d) (h3 : ¬ (c = 106 ∧ d = 111) ∨ a = 106 ∧ b = 111 ∨ b ≤ 107 ∨ 109 ≤ a := by omega) : Same c d M M1 := fun q hq => h q (by omega)
theorem Same.put {a b o j : Nat} {v : Int} {M : XM} (h1 : a ≤ o) (h2 : o < b) (h3 : ¬ (a = 106 ∧ b = 111 ∧ 107 ≤ o ∧ o < 109) := by omega) : Same a b M (mput M o j v) := fun q hq => mput_ne M j v (by omega)
theorem Same.set {a b o : Nat} {f : Nat → Int} {M : XM} (h1 : a ≤ o) (h2 : o < b) (h3 : ¬ (a = 106 ∧ b = 111 ∧ 107 ≤ o ∧ o < 109) := by omega) : Same a b M (mset M o f) := fun q hq => mset_ne M f (by omega)
theorem Col.same {M M' : XM} {o a b : Nat} {l : List Nat} (h : Col M o l) (hq : Same a b M M') (hd : o + 3 ≤ a ∨ b ≤ o) : Col M' o l := h.congr (fun q h1 h2 => hq q (by omega))
theorem Dra.same {M M' : XM} {o a b : Nat} {l : List Nat} (h : Dra M o l) (hq : Same a b M M') (hd : o + 3 ≤ a ∨ b ≤ o) : Dra M' o l := h.congr (fun q h1 h2 => hq q (by omega))
-- shapes
def KCol (κ : XKs) (hs o : Nat) : Prop := xO κ hs o (kO 0 [fR (o + 1), fR (o + 2), fI, fI, fI]) ∧ xO κ hs (o + 1) (kA 0 40) ∧ xO κ hs (o + 2) (kA 0 40)
def InR (a : Int) : Prop := -2147483648 ≤ a ∧ a < 2147483648
theorem Col.mem {M : XM} {o : Nat} {l : List Nat} (h : Col M o l) {k : Nat} (hk : k < (enc l).length) : M (o + 1) k = (rv (enc l) k : Int) ∧ M (o + 2) k = (rn (enc l) k : Int) ∧ rv (enc l) k ≤ 9 ∧ 1 ≤ rn (enc l) k ∧ rn (enc l) k ≤ 999 := by
  have h1 := h.1.2.2 k hk
  have h2 := enc_rv hk
  exact ⟨h1.1, h1.2, h.2.2.2 _ h2.1, h2.2.1, Nat.le_trans h2.2.2 h.2.2.1.1⟩
theorem Col.len {M : XM} {o : Nat} {l : List Nat} (h : Col M o l) : M o 2 = ((enc l).length : Int) ∧ M o 3 = (l.length : Int) ∧ (enc l).length ≤ 40 ∧ l.length ≤ 999 := by
  have h1 := h.1.2.1
  rw [tot_enc] at h1
  exact ⟨h.1.1, h1, h.2.2.1.2, h.2.2.1.1⟩
