/-! what a run behind runs changes; reads of written cells -/
theorem mp_eq (M : XM) (a j : Nat) (v : Int) : mput M a j v a j = v := by rw [mput_self, up1_self]
theorem mp_ne (M : XM) {a j i : Nat} (v : Int) (h : i ≠ j) : mput M a j v a i = M a i := by rw [mput_self, up1_ne _ _ h]
theorem mp_at (M : XM) (a j q i : Nat) (v : Int) : mput M a j v q i = if q = a ∧ i = j then v else M q i := by
  by_cases h : q = a
  · subst h
    by_cases h2 : i = j
    · subst h2
      rw [mp_eq, if_pos ⟨rfl, rfl⟩]
    · rw [mp_ne _ _ h2, if_neg (fun z => h2 z.2)]
  · rw [mput_ne _ _ _ h, if_neg (fun z => h z.1)]
theorem rv_s (a : Nat × Nat) (t : Ru) (i : Nat) : rv (a :: t) (i + 1) = rv t i := rfl
theorem rn_s (a : Nat × Nat) (t : Ru) (i : Nat) : rn (a :: t) (i + 1) = rn t i := rfl
theorem rv_app {L : Ru} {i : Nat} (x : Ru) (h : i < L.length) : rv (L ++ x) i = rv L i := by
  simp only [rv, List.getD_eq_getElem?_getD, List.getElem?_append_left h]
theorem rn_app {L : Ru} {i : Nat} (x : Ru) (h : i < L.length) : rn (L ++ x) i = rn L i := by
  simp only [rn, List.getD_eq_getElem?_getD, List.getElem?_append_left h]
theorem rv_last (L : Ru) (v n : Nat) : rv (L ++ [(v, n)]) L.length = v := by
  simp [rv]
theorem rn_last (L : Ru) (v n : Nat) : rn (L ++ [(v, n)]) L.length = n := by
  simp [rn]
theorem addr_ne : ∀ (L : Ru) (v n : Nat), (L = [] ∨ rv L (L.length - 1) ≠ v) → addr L v n = L ++ [(v, n)]
  | [], v, n, _ => rfl
  | [(w, m)], v, n, h => by
    rcases h with h | h
    · cases h
    · have h2 : ¬ w = v := h
      rw [addr_one, if_neg h2]
      rfl
  | a :: b :: t, v, n, h => by
    rw [addr, addr_ne (b :: t) v n (Or.inr ?_)]
    · rfl
    · rcases h with h | h
      · cases h
      · exact h
theorem addr_eq : ∀ (L : Ru) (v n : Nat), L ≠ [] → rv L (L.length - 1) = v → (addr L v n).length = L.length ∧ (∀ i, i < L.length → rv (addr L v n) i = rv L i) ∧ (∀ i, i + 1 < L.length → rn (addr L v n) i = rn L i) ∧ rn (addr L v n) (L.length - 1) = rn L (L.length - 1) + n
  | [], v, n, h, _ => absurd rfl h
  | [(w, m)], v, n, _, h => by
    have h2 : w = v := h
    rw [addr_one, if_pos h2]
    refine ⟨rfl, fun i hi => ?_, fun i hi => ?_, rfl⟩
    · have : i = 0 := by simp at hi; exact hi
      subst this
      rfl
    · simp at hi
  | a :: b :: t, v, n, _, h => by
    obtain ⟨h1, h2, h3, h4⟩ := addr_eq (b :: t) v n (fun z => by cases z) h
    rw [addr]
    refine ⟨by rw [List.length_cons, h1]; rfl, fun i hi => ?_, fun i hi => ?_, ?_⟩
    · cases i with
      | zero => rfl
      | succ i => exact h2 i (by simp at hi ⊢; omega)
    · cases i with
      | zero => rfl
      | succ i => exact h3 i (by simp at hi ⊢; omega)
    · exact h4
theorem Col.dra {M : XM} {o : Nat} {l : List Nat} (h : Col M o l) : Dra M o l := ⟨h.2.2.2, fun _ => ⟨h.1, h.2.1⟩, fun hf => absurd h.2.2.1 hf⟩
theorem Dra.col {M : XM} {o : Nat} {l : List Nat} (h : Dra M o l) (hf : fit l) : Col M o l := ⟨(h.2.1 hf).1, (h.2.1 hf).2, hf, h.1⟩
theorem Dra.zero {M : XM} {o : Nat} {l : List Nat} (h : Dra M o l) (hz : M o 4 = 0) : fit l := by
  by_cases hf : fit l
  · exact hf
  · have := h.2.2 hf
    omega
theorem Dra.one {M : XM} {o : Nat} {l : List Nat} (h : Dra M o l) (hz : M o 4 ≠ 0) : ¬ fit l := fun hf => hz (h.2.1 hf).2
theorem Dra.bit {M : XM} {o : Nat} {l : List Nat} (h : Dra M o l) : M o 4 = 0 ∨ M o 4 = 1 := by
  by_cases hf : fit l
  · exact Or.inl (h.2.1 hf).2
  · exact Or.inr (h.2.2 hf)
theorem Dra.over {M M' : XM} {o : Nat} {l x : List Nat} (h : Dra M o l) (hx : ∀ v ∈ x, v ≤ 9) (hf : ¬ fit (l ++ x)) (h1 : M' o 4 = 1) : Dra M' o (l ++ x) := ⟨fun v hv => (List.mem_append.mp hv).elim (h.1 v) (hx v), fun z => absurd z hf, fun _ => h1⟩
/-- the last run grows -/
theorem Dra.grow {M : XM} {o v n : Nat} {l : List Nat} (h : Dra M o l) (hf : fit l) (hv : v ≤ 9) (hn : 1 ≤ n) (hl : l.length + n ≤ 999) (h0 : 0 < (enc l).length) (he : rv (enc l) ((enc l).length - 1) = v) :
    Dra (mput (mput M (o + 2) ((enc l).length - 1) (M (o + 2) ((enc l).length - 1) + n)) o 3 (M o 3 + n)) o (l ++ List.replicate n v) := by
  obtain ⟨⟨r1, r2, r3⟩, r4⟩ := h.2.1 hf
  have hne : enc l ≠ [] := fun z => by rw [z] at h0; exact Nat.lt_irrefl 0 h0
  obtain ⟨a1, a2, a3, a4⟩ := addr_eq (enc l) v n hne he
  have e1 := enc_addr l v hn
  have hx : ∀ w ∈ List.replicate n v, w ≤ 9 := fun w hw => by rw [(List.mem_replicate.mp hw).2]; exact hv
  refine ⟨fun w hw => (List.mem_append.mp hw).elim (h.1 w) (hx w), fun _ => ⟨⟨?_, ?_, fun i hi => ?_⟩, ?_⟩, fun z => absurd ⟨by simp; omega, by rw [e1, a1]; exact hf.2⟩ z⟩
  · rw [mp_ne _ _ (by decide), mput_ne _ _ _ (by omega), r1, e1, a1]
  · rw [mp_eq, r2, tot_enc, tot_enc]
    simp
  · rw [mput_ne _ _ _ (by omega), mput_ne _ _ _ (by omega), mput_ne _ _ _ (by omega)]
    rw [e1, a1] at hi
    rw [e1, a2 i hi]
    refine ⟨(r3 i hi).1, ?_⟩
    by_cases hi2 : i = (enc l).length - 1
    · subst hi2
      rw [mp_eq, a4, (r3 _ hi).2]
      simp
    · rw [mp_ne _ _ hi2, a3 i (by omega)]
      exact (r3 i hi).2
  · rw [mp_ne _ _ (by decide), mput_ne _ _ _ (by omega)]
    exact r4
/-- a run comes behind -/
theorem Dra.more {M : XM} {o v n : Nat} {l : List Nat} (h : Dra M o l) (hf : fit l) (hv : v ≤ 9) (hn : 1 ≤ n) (hl : l.length + n ≤ 999) (h0 : (enc l).length < 40) (he : enc l = [] ∨ rv (enc l) ((enc l).length - 1) ≠ v) :
    Dra (mput (mput (mput (mput M (o + 1) (enc l).length v) (o + 2) (enc l).length n) o 2 ((enc l).length + 1)) o 3 (M o 3 + n)) o (l ++ List.replicate n v) := by
  obtain ⟨⟨r1, r2, r3⟩, r4⟩ := h.2.1 hf
  have e1 := enc_addr l v hn
  rw [addr_ne _ _ _ he] at e1
  have hx : ∀ w ∈ List.replicate n v, w ≤ 9 := fun w hw => by rw [(List.mem_replicate.mp hw).2]; exact hv
  refine ⟨fun w hw => (List.mem_append.mp hw).elim (h.1 w) (hx w), fun _ => ⟨⟨?_, ?_, fun i hi => ?_⟩, ?_⟩, fun z => absurd ⟨by simp; omega, by rw [e1]; simp; omega⟩ z⟩
  · rw [mp_ne _ _ (by decide), mp_eq, e1]
    simp
  · rw [mp_eq, r2, tot_enc, tot_enc]
    simp
  · rw [e1, List.length_append] at hi
    have hi3 : i < (enc l).length + 1 := hi
    rw [e1]
    by_cases hi2 : i = (enc l).length
    · subst hi2
      rw [rv_last, rn_last]
      refine ⟨?_, ?_⟩
      · simp [mp_at]
      · simp [mp_at]
    · rw [rv_app _ (by omega), rn_app _ (by omega)]
      have r5 := r3 i (by omega)
      refine ⟨?_, ?_⟩
      · simp [mp_at, hi2, r5.1]
      · simp [mp_at, hi2, r5.2]
  · rw [mp_ne _ _ (by decide), mp_ne _ _ (by decide), mput_ne _ _ _ (by omega), mput_ne _ _ _ (by omega)]
    exact r4
theorem more_over {v n : Nat} {l : List Nat} (hn : 1 ≤ n) (h0 : (enc l).length = 40) (he : enc l = [] ∨ rv (enc l) ((enc l).length - 1) ≠ v) : ¬ fit (l ++ List.replicate n v) := by
  intro h
  have e1 := enc_addr l v hn
  rw [addr_ne _ _ _ he] at e1
  have h2 := h.2
  rw [e1, List.length_append, h0] at h2
  exact absurd (show 40 + 1 ≤ 40 from h2) (by decide)
/-- a column copied -/
def Copy (q o : Nat) (M M' : XM) : Prop := (M' o 2 = M q 2 ∧ M' o 3 = M q 3 ∧ M' o 4 = M q 4) ∧ (∀ i, i < 40 → M' (o + 1) i = M (q + 1) i ∧ M' (o + 2) i = M (q + 2) i) ∧ Same o (o + 3) M M'
theorem Copy.col {q o : Nat} {M M' : XM} {l : List Nat} (h : Copy q o M M') (hC : Col M q l) : Col M' o l := by
  have hl := hC.len
  refine ⟨⟨by rw [h.1.1]; exact hC.1.1, by rw [h.1.2.1]; exact hC.1.2.1, fun i hi => ?_⟩, by rw [h.1.2.2]; exact hC.2.1, hC.2.2⟩
  rw [(h.2.1 i (by omega)).1, (h.2.1 i (by omega)).2]
  exact hC.1.2.2 i hi
theorem rvO_rng {M : XM} {o : Nat} {l : List Nat} (h : Col M o l) (a : Int) : -6 ≤ rvO (enc l) a ∧ rvO (enc l) a ≤ 9 := by
  unfold rvO
  split
  · have := h.mem (k := a.toNat) (by omega)
    omega
  · omega
theorem asets_rng {M : XM} {o : Nat} {l : List Nat} (h : Col M o l) (r : Nat) (v : Int) : -2 ≤ asets (enc l) r v ∧ asets (enc l) r v ≤ 42 := by
  have := h.len
  unfold asets
  repeat' split
  all_goals omega
theorem best1_pos {L : Ru} {v : Int} {r b : Nat} {f : Int} (h : asets L r v < f) : best1 L v r (b, f) = (r, asets L r v) := if_pos h
theorem best1_neg {L : Ru} {v : Int} {r b : Nat} {f : Int} (h : ¬ asets L r v < f) : best1 L v r (b, f) = (b, f) := if_neg h
