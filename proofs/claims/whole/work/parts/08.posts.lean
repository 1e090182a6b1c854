/-! what a method answers: nothing (V), an int (I), a value with nothing changed (P); the calls in these forms -/
def pV (κ : XKs) (hs : Nat) (B : XM → Prop) : XP := fun r κ' M' hs' => κ' = κ ∧ hs' = hs ∧ r = none ∧ B M'
def pI (κ : XKs) (hs : Nat) (B : Int → XM → Prop) : XP := fun r κ' M' hs' => κ' = κ ∧ hs' = hs ∧ ∃ a, r = some (xI a) ∧ B a M'
def pP (κ : XKs) (M : XM) (hs : Nat) (v : XV) : XP := fun r κ' M' hs' => κ' = κ ∧ hs' = hs ∧ r = some v ∧ M' = M
theorem pV_i {κ : XKs} {hs : Nat} {B : XM → Prop} {M : XM} (h : B M) : pV κ hs B none κ M hs := ⟨rfl, rfl, rfl, h⟩
theorem pI_i {κ : XKs} {hs : Nat} {B : Int → XM → Prop} {M : XM} {a : Int} (h : B a M) : pI κ hs B (some (xI a)) κ M hs := ⟨rfl, rfl, a, rfl, h⟩
theorem pP_i {κ : XKs} {hs : Nat} {M : XM} {v w : XV} (h : w = v) : pP κ M hs v (some w) κ M hs := ⟨rfl, rfl, congrArg some h, rfl⟩
section XR3
variable {G : XG} {md : XD} {d mc ms : Nat} {X : XX} {Q : State → Prop} {k n pc : Nat} {loc : List (Option XV)} {st rest : List XV} {κ : XKs} {M : XM} {hs : Nat}
theorem x_cV_P (hX : Xx G md d mc ms X) {md' : XD} {d' idx nn ci o N : Nat} {As : List XV} {fl : List XF} {T : u_T} {v : XV} (hC : XC G md' d' 0 0 (xR o :: As) κ M hs (pP κ M hs v)) (hO : xO κ hs o (kO ci fl)) (hci : vwCl[ci]? = some (md'.1.cls, T, N)) (hL : xLV md.1.cls idx md'.1 nn) (hnn : As.length = nn) (hst : As.reverse ++ xR o :: rest = st) (hcat : (rest.map xcat).sum ≤ 8) (hd : d' + 1 ≤ d) (hc : k ≤ mc) (hsl : n ≤ ms) (hdg : decode md.2.1 pc = .ok (.invokevirtual idx, 3)) (kk : XW G X md Q k n (pc + 3) loc (v :: rest) κ M hs) : XW G X md Q k n pc loc st κ M hs := by
  refine x_callV hX hC hO hci hL hnn hst hcat hd hc hsl hdg (fun r κ' M' hs' hp => ?_)
  obtain ⟨rfl, rfl, rfl, rfl⟩ := hp
  exact kk
theorem x_cV_I (hX : Xx G md d mc ms X) {md' : XD} {d' idx nn ci o N : Nat} {As : List XV} {fl : List XF} {T : u_T} {B : Int → XM → Prop} (hC : XC G md' d' 0 0 (xR o :: As) κ M hs (pI κ hs B)) (hO : xO κ hs o (kO ci fl)) (hci : vwCl[ci]? = some (md'.1.cls, T, N)) (hL : xLV md.1.cls idx md'.1 nn) (hnn : As.length = nn) (hst : As.reverse ++ xR o :: rest = st) (hcat : (rest.map xcat).sum ≤ 8) (hd : d' + 1 ≤ d) (hc : k ≤ mc) (hsl : n ≤ ms) (hdg : decode md.2.1 pc = .ok (.invokevirtual idx, 3)) (kk : ∀ (a : Int) (M2 : XM), B a M2 → XW G X md Q k n (pc + 3) loc (xI a :: rest) κ M2 hs) : XW G X md Q k n pc loc st κ M hs := by
  refine x_callV hX hC hO hci hL hnn hst hcat hd hc hsl hdg (fun r κ' M' hs' hp => ?_)
  obtain ⟨rfl, rfl, a, rfl, hp⟩ := hp
  exact kk a M' hp
theorem x_cV_V (hX : Xx G md d mc ms X) {md' : XD} {d' idx nn ci o N : Nat} {As : List XV} {fl : List XF} {T : u_T} {B : XM → Prop} (hC : XC G md' d' 0 0 (xR o :: As) κ M hs (pV κ hs B)) (hO : xO κ hs o (kO ci fl)) (hci : vwCl[ci]? = some (md'.1.cls, T, N)) (hL : xLV md.1.cls idx md'.1 nn) (hnn : As.length = nn) (hst : As.reverse ++ xR o :: rest = st) (hcat : (rest.map xcat).sum ≤ 8) (hd : d' + 1 ≤ d) (hc : k ≤ mc) (hsl : n ≤ ms) (hdg : decode md.2.1 pc = .ok (.invokevirtual idx, 3)) (kk : ∀ (M2 : XM), B M2 → XW G X md Q k n (pc + 3) loc rest κ M2 hs) : XW G X md Q k n pc loc st κ M hs := by
  refine x_callV hX hC hO hci hL hnn hst hcat hd hc hsl hdg (fun r κ' M' hs' hp => ?_)
  obtain ⟨rfl, rfl, rfl, hp⟩ := hp
  exact kk M' hp
theorem x_cS_P (hX : Xx G md d mc ms X) {md' : XD} {d' idx nn : Nat} {As : List XV} {v : XV} (hC : XC G md' d' 0 0 As κ M hs (pP κ M hs v)) (hL : xLS md.1.cls idx md'.1 nn) (hnn : As.length = nn) (hst : As.reverse ++ rest = st) (hcat : (rest.map xcat).sum ≤ 8) (hd : d' + 1 ≤ d) (hc : k ≤ mc) (hsl : n ≤ ms) (hdg : decode md.2.1 pc = .ok (.invokestatic idx, 3)) (kk : XW G X md Q k n (pc + 3) loc (v :: rest) κ M hs) : XW G X md Q k n pc loc st κ M hs := by
  refine x_callS hX hC  hL hnn hst hcat hd hc hsl hdg (fun r κ' M' hs' hp => ?_)
  obtain ⟨rfl, rfl, rfl, rfl⟩ := hp
  exact kk
theorem x_cS_I (hX : Xx G md d mc ms X) {md' : XD} {d' idx nn : Nat} {As : List XV} {B : Int → XM → Prop} (hC : XC G md' d' 0 0 As κ M hs (pI κ hs B)) (hL : xLS md.1.cls idx md'.1 nn) (hnn : As.length = nn) (hst : As.reverse ++ rest = st) (hcat : (rest.map xcat).sum ≤ 8) (hd : d' + 1 ≤ d) (hc : k ≤ mc) (hsl : n ≤ ms) (hdg : decode md.2.1 pc = .ok (.invokestatic idx, 3)) (kk : ∀ (a : Int) (M2 : XM), B a M2 → XW G X md Q k n (pc + 3) loc (xI a :: rest) κ M2 hs) : XW G X md Q k n pc loc st κ M hs := by
  refine x_callS hX hC  hL hnn hst hcat hd hc hsl hdg (fun r κ' M' hs' hp => ?_)
  obtain ⟨rfl, rfl, a, rfl, hp⟩ := hp
  exact kk a M' hp
theorem x_cS_V (hX : Xx G md d mc ms X) {md' : XD} {d' idx nn : Nat} {As : List XV} {B : XM → Prop} (hC : XC G md' d' 0 0 As κ M hs (pV κ hs B)) (hL : xLS md.1.cls idx md'.1 nn) (hnn : As.length = nn) (hst : As.reverse ++ rest = st) (hcat : (rest.map xcat).sum ≤ 8) (hd : d' + 1 ≤ d) (hc : k ≤ mc) (hsl : n ≤ ms) (hdg : decode md.2.1 pc = .ok (.invokestatic idx, 3)) (kk : ∀ (M2 : XM), B M2 → XW G X md Q k n (pc + 3) loc rest κ M2 hs) : XW G X md Q k n pc loc st κ M hs := by
  refine x_callS hX hC  hL hnn hst hcat hd hc hsl hdg (fun r κ' M' hs' hp => ?_)
  obtain ⟨rfl, rfl, rfl, hp⟩ := hp
  exact kk M' hp
theorem x_cI_V (hX : Xx G md d mc ms X) {md' : XD} {d' idx nn o : Nat} {As : List XV} {B : XM → Prop} (hC : XC G md' d' 0 0 (xR o :: As) κ M hs (pV κ hs B)) (hret : md'.2.2.2 = none) (hL : xLI md.1.cls idx md'.1 nn) (hnn : As.length = nn) (hst : As.reverse ++ xR o :: rest = st) (hcat : (rest.map xcat).sum ≤ 8) (hd : d' + 1 ≤ d) (hc : k ≤ mc) (hsl : n ≤ ms) (hdg : decode md.2.1 pc = .ok (.invokespecial idx, 3)) (kk : ∀ (M2 : XM), B M2 → XW G X md Q k n (pc + 3) loc rest κ M2 hs) : XW G X md Q k n pc loc st κ M hs := by
  refine x_callI hX hC hret hL hnn hst hcat hd hc hsl hdg (fun r κ' M' hs' hp => ?_)
  obtain ⟨rfl, rfl, rfl, hp⟩ := hp
  exact kk M' hp
end XR3
