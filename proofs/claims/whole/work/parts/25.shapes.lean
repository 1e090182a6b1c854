/-! shapes stay when a cell comes; fields at the start; walks -/
theorem xO.mono {κ κ' : XKs} {hs hs' o : Nat} {kd : XK} (h : xO κ hs o kd) (hq : ∀ q, q < hs → κ' q = κ q) (hl : hs ≤ hs') : xO κ' hs' o kd := ⟨Nat.lt_of_lt_of_le h.1 hl, by rw [hq o h.1]; exact h.2⟩
theorem KCol.mono {κ κ' : XKs} {hs hs' o : Nat} (h : KCol κ hs o) (hq : ∀ q, q < hs → κ' q = κ q) (hl : hs ≤ hs') : KCol κ' hs' o := ⟨h.1.mono hq hl, h.2.1.mono hq hl, h.2.2.mono hq hl⟩
theorem KSt.mono {κ κ' : XKs} {hs hs' o : Nat} (h : KSt κ hs o) (hq : ∀ q, q < hs → κ' q = κ q) (hl : hs ≤ hs') : KSt κ' hs' o := by
  obtain ⟨h1, ⟨g, h2, h3⟩, h4⟩ := h
  exact ⟨h1.mono hq hl, ⟨g, h2.mono hq hl, h3⟩, fun i hi => (h4 i hi).mono hq hl⟩
theorem KHi.mono {κ κ' : XKs} {hs hs' o : Nat} (h : KHi κ hs o) (hq : ∀ q, q < hs → κ' q = κ q) (hl : hs ≤ hs') : KHi κ' hs' o := by
  obtain ⟨h1, ⟨g, h2, h3⟩, h4⟩ := h
  exact ⟨h1.mono hq hl, ⟨g, h2.mono hq hl, h3⟩, fun i hi => (h4 i hi).mono hq hl⟩
theorem KRd.mono {κ κ' : XKs} {hs hs' : Nat} (h : KRd κ hs) (hq : ∀ q, q < hs → κ' q = κ q) (hl : hs ≤ hs') : KRd κ' hs' := ⟨h.1.mono hq hl, h.2.1.mono hq hl, h.2.2.1.mono hq hl, h.2.2.2.1.mono hq hl, h.2.2.2.2.mono hq hl⟩
theorem KX.mono {κ κ' : XKs} {hs hs' : Nat} (h : KX κ hs) (hq : ∀ q, q < hs → κ' q = κ q) (hl : hs ≤ hs') : KX κ' hs' := by
  obtain ⟨h1, h2, h3, ⟨g, h4, h5⟩, h6, h7, h8, h9, h10⟩ := h
  exact ⟨h1.mono hq hl, h2.mono hq hl, h3.mono hq hl, ⟨g, h4.mono hq hl, h5⟩, h6.mono hq hl, h7.mono hq hl, h8.mono hq hl, h9.mono hq hl, fun i hi => (h10 i hi).mono hq hl⟩
def NF (ci N : Nat) (fl : List XF) : Prop := ∀ (tyf : Nat → FieldType) (C : String) (T : u_T), vwCl[ci]? = some (C, T, N) → (∀ j, j < N → parseFieldDescriptor (T j).2.2.1 = some (tyf j)) → ∀ j, j < N → defaultValue (tyf j) = vp_V (fl.mapIdx (fun _ x => xf 0 0 x)) j
theorem nf_of {ci N : Nat} {fl : List XF} {C0 : String} {T0 : u_T} {ty0 : Nat → FieldType} (h0 : vwCl[ci]? = some (C0, T0, N)) (hty : ∀ k, k < N → parseFieldDescriptor (T0 k).2.2.1 = some (ty0 k)) (hv : ∀ j, j < N → defaultValue (ty0 j) = vp_V (fl.mapIdx (fun _ x => xf 0 0 x)) j) :
    ∀ (tyf : Nat → FieldType) (C : String) (T : u_T), vwCl[ci]? = some (C, T, N) → (∀ j, j < N → parseFieldDescriptor (T j).2.2.1 = some (tyf j)) → ∀ j, j < N → defaultValue (tyf j) = vp_V (fl.mapIdx (fun _ x => xf 0 0 x)) j := by
  intro tyf C T h1 h2 j hj
  have e := Option.some.inj (h0.symm.trans h1)
  have e2 : T0 = T := congrArg (fun q => q.2.1) e
  subst e2
  have e3 := (hty j hj).symm.trans (h2 j hj)
  rw [← Option.some.inj e3]
  exact hv j hj
def flX0 : List XF := [fN, fN, fI, fI, fI]
def flX1 : List XF := [fN, fI, fI]
def flX2 : List XF := [fN, fN, fN, fI, fI, fI, fI, fI, fI, fI]
def flX3 : List XF := [fN, fI]
def flX4 : List XF := [fN, fN, fI, fI, fI, fI, fI, fI, fI, fI]
def flX5 : List XF := [fN]
def flX6 : List XF := [fN, fN, fN, fN, fN, fN, fN, fN]
def flX7 : List XF := [fN, fN, fI, fN, fN, fN, fI, fN, fI, fN, fI, fN, fI, fI, fI, fI, fI, fN, fN, fI]
theorem nfX0 : NF 0 5 flX0 := nf_of (ci := 0) (fl := flX0) (C0 := RX0) (T0 := TX0) rfl tyX0_ok (fun j hj => by rcases (show j = 0 ∨ j = 1 ∨ j = 2 ∨ j = 3 ∨ j = 4 by omega) with rfl | rfl | rfl | rfl | rfl <;> rfl)
theorem nfX1 : NF 1 3 flX1 := nf_of (ci := 1) (fl := flX1) (C0 := RX1) (T0 := TX1) rfl tyX1_ok (fun j hj => by rcases (show j = 0 ∨ j = 1 ∨ j = 2 by omega) with rfl | rfl | rfl <;> rfl)
theorem nfX2 : NF 2 10 flX2 := nf_of (ci := 2) (fl := flX2) (C0 := RX2) (T0 := TX2) rfl tyX2_ok (fun j hj => by rcases (show j = 0 ∨ j = 1 ∨ j = 2 ∨ j = 3 ∨ j = 4 ∨ j = 5 ∨ j = 6 ∨ j = 7 ∨ j = 8 ∨ j = 9 by omega) with rfl | rfl | rfl | rfl | rfl | rfl | rfl | rfl | rfl | rfl <;> rfl)
theorem nfX3 : NF 3 2 flX3 := nf_of (ci := 3) (fl := flX3) (C0 := RX3) (T0 := TX3) rfl tyX3_ok (fun j hj => by rcases (show j = 0 ∨ j = 1 by omega) with rfl | rfl <;> rfl)
theorem nfX4 : NF 4 10 flX4 := nf_of (ci := 4) (fl := flX4) (C0 := RX4) (T0 := TX4) rfl tyX4_ok (fun j hj => by rcases (show j = 0 ∨ j = 1 ∨ j = 2 ∨ j = 3 ∨ j = 4 ∨ j = 5 ∨ j = 6 ∨ j = 7 ∨ j = 8 ∨ j = 9 by omega) with rfl | rfl | rfl | rfl | rfl | rfl | rfl | rfl | rfl | rfl <;> rfl)
theorem nfX5 : NF 5 1 flX5 := nf_of (ci := 5) (fl := flX5) (C0 := RX5) (T0 := TX5) rfl tyX5_ok (fun j hj => by rcases (show j = 0 by omega) with rfl <;> rfl)
theorem nfX6 : NF 6 8 flX6 := nf_of (ci := 6) (fl := flX6) (C0 := RX6) (T0 := TX6) rfl tyX6_ok (fun j hj => by rcases (show j = 0 ∨ j = 1 ∨ j = 2 ∨ j = 3 ∨ j = 4 ∨ j = 5 ∨ j = 6 ∨ j = 7 by omega) with rfl | rfl | rfl | rfl | rfl | rfl | rfl | rfl <;> rfl)
theorem nfX7 : NF 7 20 flX7 := nf_of (ci := 7) (fl := flX7) (C0 := RX7) (T0 := TX7) rfl tyX7_ok (fun j hj => by rcases (show j = 0 ∨ j = 1 ∨ j = 2 ∨ j = 3 ∨ j = 4 ∨ j = 5 ∨ j = 6 ∨ j = 7 ∨ j = 8 ∨ j = 9 ∨ j = 10 ∨ j = 11 ∨ j = 12 ∨ j = 13 ∨ j = 14 ∨ j = 15 ∨ j = 16 ∨ j = 17 ∨ j = 18 ∨ j = 19 by omega) with rfl | rfl | rfl | rfl | rfl | rfl | rfl | rfl | rfl | rfl | rfl | rfl | rfl | rfl | rfl | rfl | rfl | rfl | rfl | rfl <;> rfl)
-- walks
theorem ru_two {A B : Ru} (h : ¬ (A = [] ∨ B = [])) : ∃ v n s u m r, A = (v, n) :: s ∧ B = (u, m) :: r := by
  cases A with
  | nil => exact absurd (Or.inl rfl) h
  | cons a s =>
    cases B with
    | nil => exact absurd (Or.inr rfl) h
    | cons b r => exact ⟨a.1, a.2, s, b.1, b.2, r, rfl, rfl⟩
theorem zr_none {A B : Ru} (h : A = [] ∨ B = []) : zr A B = [] := by
  rcases h with rfl | rfl
  · exact zr_nil1 B
  · exact zr_nil2 A
theorem WS.hd {M : XM} {w o1 o2 : Nat} {l1 l2 : List Nat} {v n u m : Nat} {s r : Ru} {t : Int} (h : WS M w (enc l1) (enc l2) ((v, n) :: s) ((u, m) :: r) t) (h1 : Ok l1) (h2 : Ok l2) : v ≤ 9 ∧ u ≤ 9 ∧ n ≤ 999 ∧ m ≤ 999 ∧ 1 ≤ n ∧ 1 ≤ m := by
  obtain ⟨i, q, j, z, -, -, -, -, hi, hj, hq, hz, hA, hB, -⟩ := h
  have hi2 : i < (enc l1).length := by
    rcases Nat.lt_or_ge i (enc l1).length with g | g
    · exact g
    · rw [remr_end _ g] at hA
      cases hA
  have hj2 : j < (enc l2).length := by
    rcases Nat.lt_or_ge j (enc l2).length with g | g
    · exact g
    · rw [remr_end _ g] at hB
      cases hB
  rw [remr_in _ hi2] at hA
  rw [remr_in _ hj2] at hB
  cases hA
  cases hB
  have e1 := enc_rv hi2
  have e2 := enc_rv hj2
  have a1 := h1.2 _ e1.1
  have a2 := h2.2 _ e2.1
  have b1 := h1.1.1
  have b2 := h2.1.1
  have c1 := hq hi2
  have c2 := hz hj2
  omega
def WalkAt (κ : XKs) (M : XM) (hs w o1 o2 : Nat) (l1 l2 : List Nat) (A B : Ru) (t : Int) : Prop := xO κ hs w (kWalk o1 o2) ∧ KCol κ hs o1 ∧ KCol κ hs o2 ∧ (o1 + 3 ≤ w ∧ o2 + 3 ≤ w) ∧ Col M o1 l1 ∧ Col M o2 l2 ∧ WS M w (enc l1) (enc l2) A B t
theorem WalkAt.nxt {κ : XKs} {M M' : XM} {hs w o1 o2 : Nat} {l1 l2 : List Nat} {A B A' B' : Ru} {t t' : Int} (h : WalkAt κ M hs w o1 o2 l1 l2 A B t) (hq : Same w (w + 1) M M') (hS : WS M' w (enc l1) (enc l2) A' B' t') : WalkAt κ M' hs w o1 o2 l1 l2 A' B' t' := ⟨h.1, h.2.1, h.2.2.1, h.2.2.2.1, h.2.2.2.2.1.same hq (by have := h.2.2.2.1; omega), h.2.2.2.2.2.1.same hq (by have := h.2.2.2.1; omega), hS⟩
theorem WalkAt.oth {κ : XKs} {M M' : XM} {hs w o1 o2 : Nat} {l1 l2 : List Nat} {A B : Ru} {t : Int} (h : WalkAt κ M hs w o1 o2 l1 l2 A B t) {a b : Nat} (hq : Same a b M M') (h1 : o1 + 3 ≤ a) (h2 : o2 + 3 ≤ a) (h3 : b ≤ w) : WalkAt κ M' hs w o1 o2 l1 l2 A B t := ⟨h.1, h.2.1, h.2.2.1, h.2.2.2.1, h.2.2.2.2.1.same hq (by omega), h.2.2.2.2.2.1.same hq (by omega), h.2.2.2.2.2.2.congr (hq w (by omega))⟩
theorem WS.start {M : XM} {w : Nat} {l1 l2 : List Nat} (h : ∀ j, M w j = 0) : WS M w (enc l1) (enc l2) (enc l1) (enc l2) 0 := by
  refine ⟨0, 0, 0, 0, h 2, h 3, h 4, h 5, Nat.zero_le _, Nat.zero_le _, fun hl => (enc_rv hl).2.1, fun hl => (enc_rv hl).2.1, ?_, ?_, by rw [h 8, h 9]; rfl⟩
  · rw [remr_0, List.drop_zero]
  · rw [remr_0, List.drop_zero]
def gAl : Int → Rp → Int
  | acc, [] => acc
  | acc, ((v, u), k) :: t => gAl (if v = u then acc + k else acc) t
def gSm : Int → Rp → Int
  | acc, [] => acc
  | acc, ((v, u), k) :: t => gSm (acc + (v : Int) * u * k) t
def gMk : (Nat → Nat) → Rp → Nat → Nat
  | m, [] => m
  | m, ((v, u), _) :: t => gMk (fun x => if x = v then m x ||| 2 ^ u else m x) t
theorem or_lt {a u : Nat} (ha : a < 1024) (hu : u ≤ 9) : a ||| 2 ^ u < 1024 := Nat.or_lt_two_pow (n := 10) ha (Nat.pow_lt_pow_right (by decide) (by omega))
