/-! The flat world: every cell that the law makes stands at base + its number; kinds (classes, lengths, references) apart from ints. -/
-- values: an int, a cell's number, any other value
abbrev XV : Type := Int ⊕ (Nat ⊕ Value)
abbrev xI (a : Int) : XV := .inl a
abbrev xR (o : Nat) : XV := .inr (.inl o)
abbrev xV (v : Value) : XV := .inr (.inr v)
def xt (b : Nat) : XV → Value
  | .inl a => .int (Int32.ofInt a)
  | .inr (.inl o) => .ref (b + o)
  | .inr (.inr v) => v
-- a field: an int, or a reference that may be null
abbrev XF : Type := Option (Option Nat)
abbrev fI : XF := none
abbrev fN : XF := some none
abbrev fR (o : Nat) : XF := some (some o)
-- a cell's kind: an object of a class with its fields; an array of ints (of a type, of a length); an array of references
abbrev XK : Type := (Nat × List XF) ⊕ ((Nat × Nat) ⊕ (Nat × Nat × (Nat → Option Nat)))
abbrev kO (ci : Nat) (l : List XF) : XK := .inl (ci, l)
abbrev kA (t n : Nat) : XK := .inr (.inl (t, n))
abbrev kQ (t n : Nat) (g : Nat → Option Nat) : XK := .inr (.inr (t, n, g))
abbrev XKs : Type := Nat → XK
abbrev XM : Type := Nat → Nat → Int
-- classes, array classes, base
abbrev XG : Type := va_G × (Nat → ClassId) × Nat
def xf (b : Nat) (a : Int) : XF → Value
  | none => .int (Int32.ofInt a)
  | some none => .null
  | some (some o) => .ref (b + o)
def xe (G : XG) (kd : XK) (f : Nat → Int) : va_E := match kd with
  | .inl (ci, l) => .inr (ci, l.mapIdx (fun k x => xf G.2.2 (f k) x))
  | .inr (.inl (t, n)) => .inl (G.2.1 t, n, .inl (fun j => Int32.ofInt (f j)))
  | .inr (.inr (t, n, g)) => .inl (G.2.1 t, n, .inr (.inr (.inr (.inr (fun j => (g j).map (fun o => G.2.2 + o))))))
def xw (G : XG) (κ : XKs) (M : XM) (hs : Nat) : va_W := (List.range hs).map (fun a => (G.2.2 + a, xe G (κ a) (M a)))
def xtys : List FieldType := [.int, .char, .boolean, .object "JoinedRuns$Column", .object "JoinedRuns$State"]
def xty (G : XG) : List (ClassId × FieldType) := [(G.2.1 0, .int), (G.2.1 1, .char), (G.2.1 2, .boolean), (G.2.1 3, .object "JoinedRuns$Column"), (G.2.1 4, .object "JoinedRuns$State")]
-- updates
def mset (M : XM) (a : Nat) (f : Nat → Int) : XM := fun q => if q = a then f else M q
def up1 (f : Nat → Int) (k : Nat) (v : Int) : Nat → Int := fun j => if j = k then v else f j
def mput (M : XM) (a k : Nat) (v : Int) : XM := mset M a (up1 (M a) k v)
def kset (κ : XKs) (a : Nat) (kd : XK) : XKs := fun q => if q = a then kd else κ q
theorem xw_get {G : XG} {κ : XKs} {M : XM} {hs a : Nat} (h : a < hs) : (xw G κ M hs)[a]? = some (G.2.2 + a, xe G (κ a) (M a)) := by
  simp [xw, h]
theorem xw_inv {G : XG} {κ : XKs} {M : XM} {hs k : Nat} {q : Nat × va_E} (h : (xw G κ M hs)[k]? = some q) : k < hs ∧ q = (G.2.2 + k, xe G (κ k) (M k)) := by
  have hl : k < hs := by
    have := (List.getElem?_eq_some_iff.mp h).1
    simpa [xw] using this
  rw [xw_get hl] at h
  exact ⟨hl, (Option.some.inj h).symm⟩
theorem xw_D (G : XG) (κ : XKs) (M : XM) (hs : Nat) : va_D (fun q => G.2.2 ≤ q) (xw G κ M hs) := by
  refine ⟨fun i j p q hi hj hpq => ?_, fun k q h => ?_⟩
  · obtain ⟨-, rfl⟩ := xw_inv hi
    obtain ⟨-, rfl⟩ := xw_inv hj
    have : G.2.2 + i = G.2.2 + j := hpq
    omega
  · obtain ⟨-, rfl⟩ := xw_inv h
    exact Nat.le_add_right _ _
theorem xw_set {G : XG} {κ : XKs} {M : XM} {hs a : Nat} (κ' : XKs) (M' : XM) (ho : ∀ q, q ≠ a → κ' q = κ q ∧ M' q = M q) : (xw G κ M hs).set a (G.2.2 + a, xe G (κ' a) (M' a)) = xw G κ' M' hs := by
  apply List.ext_getElem?
  intro i
  rw [List.getElem?_set]
  by_cases hi : i < hs
  · by_cases e : a = i
    · subst e
      rw [if_pos rfl, if_pos (by simpa [xw] using hi), xw_get hi]
    · rw [if_neg e, xw_get hi, xw_get hi, (ho i (fun h => e h.symm)).1, (ho i (fun h => e h.symm)).2]
  · have h1 : (xw G κ M hs)[i]? = none := List.getElem?_eq_none (by simp [xw]; omega)
    have h2 : (xw G κ' M' hs)[i]? = none := List.getElem?_eq_none (by simp [xw]; omega)
    rw [h1, h2]
    by_cases e : a = i
    · subst e
      rw [if_pos rfl, if_neg (by simpa [xw] using hi)]
    · rw [if_neg e]
theorem mset_self (M : XM) (a : Nat) (f : Nat → Int) : mset M a f a = f := if_pos rfl
theorem mset_ne (M : XM) {a q : Nat} (f : Nat → Int) (h : q ≠ a) : mset M a f q = M q := if_neg h
theorem kset_self (κ : XKs) (a : Nat) (kd : XK) : kset κ a kd a = kd := if_pos rfl
theorem kset_ne (κ : XKs) {a q : Nat} (kd : XK) (h : q ≠ a) : kset κ a kd q = κ q := if_neg h
theorem xw_setM {G : XG} {κ : XKs} {M : XM} {hs a : Nat} (f : Nat → Int) : (xw G κ M hs).set a (G.2.2 + a, xe G (κ a) f) = xw G κ (mset M a f) hs := by
  have := xw_set (G := G) (κ := κ) (M := M) (hs := hs) (a := a) κ (mset M a f) (fun q h => ⟨rfl, mset_ne M f h⟩)
  rw [mset_self] at this
  exact this
theorem xw_setK {G : XG} {κ : XKs} {M : XM} {hs a : Nat} (kd : XK) : (xw G κ M hs).set a (G.2.2 + a, xe G kd (M a)) = xw G (kset κ a kd) M hs := by
  have := xw_set (G := G) (κ := κ) (M := M) (hs := hs) (a := a) (kset κ a kd) M (fun q h => ⟨kset_ne κ kd h, rfl⟩)
  rw [kset_self] at this
  exact this
theorem xw_push {G : XG} {κ : XKs} {M : XM} {hs : Nat} (kd : XK) (f : Nat → Int) : xw G κ M hs ++ [(G.2.2 + hs, xe G kd f)] = xw G (kset κ hs kd) (mset M hs f) (hs + 1) := by
  apply List.ext_getElem?
  intro i
  have hlen : (xw G κ M hs).length = hs := by simp [xw]
  rcases Nat.lt_trichotomy i hs with h | h | h
  · rw [List.getElem?_append_left (by rw [hlen]; exact h), xw_get h, xw_get (Nat.lt_succ_of_lt h), kset_ne _ _ (Nat.ne_of_lt h), mset_ne _ _ (Nat.ne_of_lt h)]
  · subst h
    rw [List.getElem?_append_right (by rw [hlen]; exact Nat.le_refl _), hlen, Nat.sub_self, xw_get (Nat.lt_succ_self _), kset_self, mset_self]
    rfl
  · rw [List.getElem?_eq_none (by simp [hlen]; omega), List.getElem?_eq_none (by simp [xw]; omega)]
-- a cell that is there, of a kind
def xO (κ : XKs) (hs o : Nat) (kd : XK) : Prop := o < hs ∧ κ o = kd
theorem xO_get {G : XG} {κ : XKs} {M : XM} {hs o : Nat} {kd : XK} (h : xO κ hs o kd) : (xw G κ M hs)[o]? = some (G.2.2 + o, xe G kd (M o)) := by
  rw [xw_get h.1, h.2]
-- the world as a state holds it
def xH (G : XG) (κ : XKs) (M : XM) (hs : Nat) (H : Heap) : Prop := va_P G.1 vwCl (xw G κ M hs) H ∧ H.size = G.2.2 + hs
def xU (G : XG) (κ : XKs) (M : XM) (hs : Nat) (U : State) : Prop := xH G κ M hs U.heap ∧ va_K G.1 vwCl (xty G) U
-- locals
def xl (b : Nat) : Nat → List (Option XV) → List (Nat × Value)
  | _, [] => []
  | i, none :: t => xl b (i + 1) t
  | i, some v :: t => (i, xt b v) :: xl b (i + 1) t
def xL (b : Nat) (ls : Array Slot) (nL : Nat) (loc : List (Option XV)) : Prop := lv_has ls nL (xl b 0 loc)
theorem xl_mem {b : Nat} : ∀ (loc : List (Option XV)) (i j : Nat) (w : Value), (j, w) ∈ xl b i loc ↔ ∃ v, i ≤ j ∧ loc[j - i]? = some (some v) ∧ w = xt b v
  | [], i, j, w => by simp [xl]
  | none :: t, i, j, w => by
    rw [xl, xl_mem t (i + 1) j w]
    constructor
    · rintro ⟨v, h1, h2, h3⟩
      refine ⟨v, by omega, ?_, h3⟩
      rw [show j - i = (j - (i + 1)) + 1 by omega, List.getElem?_cons_succ]
      exact h2
    · rintro ⟨v, h1, h2, h3⟩
      have hne : j ≠ i := by
        intro e
        subst e
        rw [Nat.sub_self] at h2
        cases h2
      refine ⟨v, by omega, ?_, h3⟩
      rw [show j - i = (j - (i + 1)) + 1 by omega, List.getElem?_cons_succ] at h2
      exact h2
  | some u :: t, i, j, w => by
    rw [xl, List.mem_cons, xl_mem t (i + 1) j w]
    constructor
    · rintro (h | ⟨v, h1, h2, h3⟩)
      · cases h
        exact ⟨u, Nat.le_refl _, by rw [Nat.sub_self]; rfl, rfl⟩
      · refine ⟨v, by omega, ?_, h3⟩
        rw [show j - i = (j - (i + 1)) + 1 by omega, List.getElem?_cons_succ]
        exact h2
    · rintro ⟨v, h1, h2, h3⟩
      by_cases e : j = i
      · subst e
        rw [Nat.sub_self] at h2
        left
        rw [h3]
        cases h2
        rfl
      · right
        refine ⟨v, by omega, ?_, h3⟩
        rw [show j - i = (j - (i + 1)) + 1 by omega, List.getElem?_cons_succ] at h2
        exact h2
theorem xL_at {b : Nat} {ls : Array Slot} {nL : Nat} {loc : List (Option XV)} (h : xL b ls nL loc) {i : Nat} {v : XV} (hi : loc[i]? = some (some v)) : ls[i]? = some (.val (xt b v)) :=
  h.2.2 (i, xt b v) ((xl_mem loc 0 i (xt b v)).mpr ⟨v, Nat.zero_le _, hi, rfl⟩)
def xcat : XV → Nat
  | .inl _ => 1
  | .inr (.inl _) => 1
  | .inr (.inr v) => v.category
theorem xcat_eq (b : Nat) (v : XV) : (xt b v).category = xcat v := by
  rcases v with a | o | w <;> rfl
def xok (loc : List (Option XV)) : Nat → Bool
  | 0 => true
  | j + 1 => match loc[j]? with
    | some (some (.inr (.inr v))) => v.category != 2
    | _ => true
theorem xok_ne {loc : List (Option XV)} {j : Nat} {v : XV} (h : xok loc (j + 1) = true) (hj : loc[j]? = some (some v)) : xcat v ≠ 2 := by
  rcases v with a | o | w
  · show (1 : Nat) ≠ 2
    decide
  · show (1 : Nat) ≠ 2
    decide
  · simp only [xok, hj, bne_iff_ne] at h
    exact h
theorem xL_st1 {b : Nat} {ls : Array Slot} {nL i : Nat} {loc : List (Option XV)} {v : XV} (h : lv_has ls nL ((i, xt b v) :: (xl b 0 loc).filter (fun q => !(q.1 == i) && !(q.1 + 1 == i && q.2.category == 2)))) (hok : xok loc i = true) : xL b ls nL (loc.set i (some v)) := by
  refine ⟨h.1, h.2.1, fun q hq => h.2.2 q ?_⟩
  obtain ⟨j, w⟩ := q
  obtain ⟨u, -, h2, rfl⟩ := (xl_mem _ 0 j w).mp hq
  rw [Nat.sub_zero, List.getElem?_set] at h2
  by_cases e : i = j
  · subst e
    rw [if_pos rfl] at h2
    split at h2
    · cases h2
      exact List.mem_cons_self
    · cases h2
  · rw [if_neg e] at h2
    refine List.mem_cons_of_mem _ (List.mem_filter.mpr ⟨(xl_mem _ 0 j _).mpr ⟨u, Nat.zero_le _, h2, rfl⟩, ?_⟩)
    have h3 : (j == i) = false := beq_false_of_ne (fun z => e z.symm)
    simp only [h3, Bool.not_false, Bool.true_and, Bool.not_eq_true', Bool.and_eq_false_iff, beq_eq_false_iff_ne]
    by_cases e2 : j + 1 = i
    · right
      subst e2
      rw [xcat_eq]
      exact xok_ne hok h2
    · exact Or.inl e2
theorem xL_st2 {b : Nat} {ls : Array Slot} {nL i : Nat} {loc : List (Option XV)} {v : XV} (h : lv_has ls nL ((i, xt b v) :: (xl b 0 loc).filter (fun q => !(q.1 == i) && (!(q.1 == i + 1) && !(q.1 + 1 == i && q.2.category == 2))))) (hok : xok loc i = true) : xL b ls nL ((loc.set (i + 1) none).set i (some v)) := by
  refine ⟨h.1, h.2.1, fun q hq => h.2.2 q ?_⟩
  obtain ⟨j, w⟩ := q
  obtain ⟨u, -, h2, rfl⟩ := (xl_mem _ 0 j w).mp hq
  rw [Nat.sub_zero, List.getElem?_set] at h2
  by_cases e : i = j
  · subst e
    rw [if_pos rfl] at h2
    split at h2
    · cases h2
      exact List.mem_cons_self
    · cases h2
  · rw [if_neg e, List.getElem?_set] at h2
    by_cases e1 : i + 1 = j
    · rw [if_pos e1] at h2
      split at h2 <;> cases h2
    · rw [if_neg e1] at h2
      refine List.mem_cons_of_mem _ (List.mem_filter.mpr ⟨(xl_mem _ 0 j _).mpr ⟨u, Nat.zero_le _, h2, rfl⟩, ?_⟩)
      have h3 : (j == i) = false := beq_false_of_ne (fun z => e z.symm)
      have h4 : (j == i + 1) = false := beq_false_of_ne (fun z => e1 z.symm)
      simp only [h3, h4, Bool.not_false, Bool.true_and, Bool.not_eq_true', Bool.and_eq_false_iff, beq_eq_false_iff_ne]
      by_cases e2 : j + 1 = i
      · right
        subst e2
        rw [xcat_eq]
        exact xok_ne hok h2
      · exact Or.inl e2
-- a method's locals at its entry
def xargs : List XV → List (Option XV)
  | [] => []
  | v :: t => if xcat v = 2 then some v :: none :: xargs t else some v :: xargs t
theorem xargs_len (b : Nat) : ∀ (vs : List XV), (lg_sl (vs.map (xt b))).length = (xargs vs).length
  | [] => rfl
  | v :: t => by
    rw [List.map_cons, xargs]
    show ((if (xt b v).category = 2 then [Slot.val (xt b v), Slot.second] else [Slot.val (xt b v)]) ++ lg_sl (t.map (xt b))).length = _
    rw [List.length_append, xargs_len b t, xcat_eq]
    by_cases h : xcat v = 2
    · rw [if_pos h, if_pos h]; simp; omega
    · rw [if_neg h, if_neg h]; simp; omega
theorem xargs_mem (b : Nat) : ∀ (vs : List XV) (i : Nat) (rest : List (Option XV)), (∀ q ∈ xl b i (xargs vs ++ List.replicate 0 none), q ∈ lv_args i (vs.map (xt b)))
  | [], i, rest => by simp [xargs, xl]
  | v :: t, i, rest => by
    intro q hq
    rw [List.map_cons, lv_args, xcat_eq]
    rw [xargs] at hq
    by_cases h : xcat v = 2
    · rw [if_pos h] at hq ⊢
      simp only [List.cons_append, xl, List.mem_cons] at hq
      rcases hq with rfl | hq
      · exact List.mem_cons_self
      · exact List.mem_cons_of_mem _ (xargs_mem b t (i + 2) rest q hq)
    · rw [if_neg h] at hq ⊢
      simp only [List.cons_append, xl, List.mem_cons] at hq
      rcases hq with rfl | hq
      · exact List.mem_cons_self
      · exact List.mem_cons_of_mem _ (xargs_mem b t (i + 1) rest q hq)
theorem xl_app_none (b : Nat) : ∀ (l : List (Option XV)) (i n : Nat), xl b i (l ++ List.replicate n none) = xl b i (l ++ List.replicate 0 none)
  | [], i, 0 => rfl
  | [], i, n + 1 => by
    rw [List.nil_append, List.replicate_succ, xl]
    exact (xl_app_none b [] (i + 1) n).trans rfl
  | none :: t, i, n => by
    simp only [List.cons_append, xl]
    exact xl_app_none b t (i + 1) n
  | some v :: t, i, n => by
    simp only [List.cons_append, xl]
    rw [xl_app_none b t (i + 1) n]
def xloc (nL : Nat) (vs : List XV) : List (Option XV) := xargs vs ++ List.replicate (nL - (xargs vs).length) none
theorem xL_entry (b : Nat) (vs : List XV) {nL : Nat} (h : (xargs vs).length ≤ nL) : xL b ((lg_sl (vs.map (xt b)) ++ List.replicate (nL - (lg_sl (vs.map (xt b))).length) Slot.unset).toArray) nL (xloc nL vs) := by
  have hl := lv_entry (vs.map (xt b)) (n := nL) (by rw [xargs_len]; exact h)
  refine ⟨hl.1, hl.2.1, fun q hq => hl.2.2 q ?_⟩
  rw [xloc, xl_app_none] at hq
  exact xargs_mem b vs 0 [] q hq
