/-! The judgement over the flat world, and a row an instruction. -/
abbrev XX : Type := Program × Launch × Env × Room × State × MethodId × Array Value × List Frame × Method × Code
def xroom (d mc ms : Nat) : Room := { frames := d, cells := mc, slots := ms, locals := 34 * d }
abbrev XP : Type := Option XV → XKs → XM → Nat → Prop
/-- what the tables say beside the words: classes, array classes, nest mates -/
def xKs (G : XG) (U : State) : Prop := va_K G.1 vwCl (xty G) U ∧ va_AO RX0 U ∧ va_AO RX5 U ∧ ∀ q ∈ xnests, va_Nw (.methodLinkNest q.1 q.2.1 q.2.2.1 q.2.2.2) U
theorem xKs.warm {G : XG} {s U : State} (hW : s.WarmedH U.vm) (h : xKs G s) : xKs G U := ⟨va_K.moved hW.alike h.1, va_AO.moved hW.alike h.2.1, va_AO.moved hW.alike h.2.2.1, fun q hq => va_Nw.warmM hW (h.2.2.2 q hq)⟩
theorem xKs.same {G : XG} {s U : State} (e : s.vm = U.vm) (h : xKs G s) : xKs G U := ⟨va_K.moved (by rw [e]; exact Vm.Alike.refl _) h.1, va_AO.moved (by rw [e]; exact Vm.Alike.refl _) h.2.1, va_AO.moved (by rw [e]; exact Vm.Alike.refl _) h.2.2.1, fun q hq => va_Nw.same rfl e (h.2.2.2 q hq)⟩
def xB (G : XG) (κ : XKs) (M : XM) (hs : Nat) (U : State) : Prop := xH G κ M hs U.heap ∧ xKs G U ∧ G.2.2 ≤ U.heap.size
def xQ (G : XG) (Post : XP) : Array Value → State → Outcome → State → Prop := fun _ st oc t => (∃ r κ M hs, oc = .returned (Option.map (xt G.2.2) r) ∧ Post r κ M hs ∧ xH G κ M hs t.heap) ∧ va_F (fun q => G.2.2 ≤ q) st t
def xws (md : XD) : List Cond := .code md.1 md.2.1 md.2.2.1 md.2.2.2 :: lw_g
/-- a contract: the method, its depth, its cells and slots; its arguments and its world; what it answers and its world then -/
def XC (G : XG) (md : XD) (d mc ms : Nat) (As : List XV) (κ : XKs) (M : XM) (hs : Nat) (Post : XP) : Prop := (Cond.code md.1 md.2.1 md.2.2.1 md.2.2.2 ∈ lw_g ∧ md.2.2.1 ≤ 15) ∧ ∀ l : Launch, Met l md.1 (xws md) (xroom d mc ms) (va_Pc (As.map (xt G.2.2)) (xB G κ M hs)) (xQ G Post) mc ms (fun q => G.2.2 ≤ q)
def Xx (G : XG) (md : XD) (d mc ms : Nat) : XX → Prop
  | (p, _, _, R, s, m, args, _, meth, c) => p.tables.exec = Jvm.exec ∧ c.code = md.2.1 ∧ c.maxLocals = md.2.2.1 ∧ meth.sig.returnType = md.2.2.2 ∧ s.vm.findClass md.1.cls = some m.cls ∧ (∀ w ∈ lw_g, w.before args s = true) ∧ xKs G s ∧ meth.locks = false ∧ R = xroom d mc ms ∧ G.2.2 ≤ s.heap.size ∧ meth.name = md.1.name
def xq (G : XG) (Post : XP) (mc ms : Nat) : XX → State → Prop
  | (_, _, _, _, s, _, args, below, _, _) => MQ below (xQ G Post) args s mc ms (fun q => G.2.2 ≤ q)
def XW (G : XG) (X : XX) (md : XD) (Q : State → Prop) (k n pc : Nat) (loc : List (Option XV)) (st : List XV) (κ : XKs) (M : XM) (hs : Nat) : Prop := match X with
  | (p, l, e, R, s, m, args, below, meth, c) => ∀ (H : Heap) (locs : List Loc) (ls : Array Slot), xH G κ M hs H → va_S (fun q => G.2.2 ≤ q) s.heap H locs → xL G.2.2 ls md.2.2.1 loc → W p l e R s m args below meth c H locs k n Q (F0 m pc ls (st.map (xt G.2.2)))
theorem xB_blind {G : XG} {κ : XKs} {M : XM} {hs : Nat} {av : List Value} : FrameBlind (va_Pc av (xB G κ M hs)) := fun a U g mk q => ⟨q.1, q.2.1, xKs.same (s := U) rfl q.2.2.1, q.2.2.2⟩
/-- a contract's proof -/
theorem XC.intro {G : XG} {md : XD} {d mc ms : Nat} {As : List XV} {κ : XKs} {M : XM} {hs : Nat} {Post : XP} (hcd : Cond.code md.1 md.2.1 md.2.2.1 md.2.2.2 ∈ lw_g) (hnl : md.2.2.1 ≤ 15) (hpl : plainName md.1.cls = true) (hal : (xargs As).length ≤ md.2.2.1) {loc : List (Option XV)} (hloc : xloc md.2.2.1 As = loc)
    (body : ∀ X : XX, Xx G md d mc ms X → XW G X md (xq G Post mc ms X) 0 0 0 loc [] κ M hs) : XC G md d mc ms As κ M hs Post := by
  refine ⟨⟨hcd, hnl⟩, fun l => ?_⟩
  refine Met.ofW (cc := md.2.1) (maxL := md.2.2.1) (ret := md.2.2.2) hpl rfl ?_
  intro p e s m args below meth c s₁ B hml hv
  obtain ⟨rfl, hH, hK, hbs⟩ := hv
  have hts := atoms_spec (ws := xws md) B.pre
  have hb := body (p, l, e, xroom d mc ms, s, m, (As.map (xt G.2.2)).toArray, below, meth, c) ⟨B.exec, B.bytes, hml, B.returns, findClass_of_methodNamed B.named, fun w hw => hts w (List.mem_cons_of_mem _ hw), hK, B.notSynchronized, rfl, hbs, (name_of_methodNamed B.named B.method).1⟩
  have hl := xL_entry G.2.2 As hal
  rw [lg_entry_eq]
  subst hloc
  exact hb s.heap [] _ hH va_S.rf hl
section XR
variable {G : XG} {md : XD} {d mc ms : Nat} {X : XX} {Q : State → Prop} {k n pc : Nat} {loc : List (Option XV)} {st : List XV} {κ : XKs} {M : XM} {hs : Nat}
theorem x_rng {a : Int} (h : -2147483648 ≤ a ∧ a < 2147483648) : (Int32.ofInt a).toInt = a := Int32.toInt_ofInt_of_le (by omega) (by omega)
theorem x_cl {a : Int} (h : 0 ≤ a ∧ a < 2147483648) : (Int32.ofInt a).toNatClampNeg = a.toNat := by
  show (Int32.ofInt a).toInt.toNat = _
  rw [x_rng (by omega)]
theorem x_lt {a b : Int} (h : (-2147483648 ≤ a ∧ a < 2147483648) ∧ -2147483648 ≤ b ∧ b < 2147483648) : Int32.ofInt a < Int32.ofInt b ↔ a < b := by rw [Int32.lt_iff_toInt_lt, x_rng h.1, x_rng h.2]
theorem x_le {a b : Int} (h : (-2147483648 ≤ a ∧ a < 2147483648) ∧ -2147483648 ≤ b ∧ b < 2147483648) : Int32.ofInt a ≤ Int32.ofInt b ↔ a ≤ b := by rw [Int32.le_iff_toInt_le, x_rng h.1, x_rng h.2]
theorem x_eq {a b : Int} (h : (-2147483648 ≤ a ∧ a < 2147483648) ∧ -2147483648 ≤ b ∧ b < 2147483648) : Int32.ofInt a = Int32.ofInt b ↔ a = b := by rw [← Int32.toInt_inj, x_rng h.1, x_rng h.2]
theorem x_zero : (0 : Int32) = Int32.ofInt 0 := rfl
theorem x_in {a : Int} {j N : Nat} (hj : a = (j : Int)) (hn : j < N) (hN : N ≤ 65536) : vp_in (Int32.ofInt a) N ∧ (Int32.ofInt a).toNatClampNeg = j := by
  subst hj
  have h2 : (Int32.ofInt (j : Int)).toNatClampNeg = j := by rw [x_cl (by omega)]; rfl
  refine ⟨?_, h2⟩
  intro h
  rcases h with h | h
  · rw [x_zero, x_lt (by omega)] at h
    omega
  · rw [h2] at h
    omega
theorem x_top {a b : XV} (e : a = b) (kk : XW G X md Q k n pc loc (b :: st) κ M hs) : XW G X md Q k n pc loc (a :: st) κ M hs := e ▸ kk
theorem x_top2 {a b c : XV} (e : a = b) (kk : XW G X md Q k n pc loc (c :: b :: st) κ M hs) : XW G X md Q k n pc loc (c :: a :: st) κ M hs := e ▸ kk
theorem x_M {M' : XM} (e : M = M') (kk : XW G X md Q k n pc loc st κ M' hs) : XW G X md Q k n pc loc st κ M hs := e ▸ kk
theorem x_loc {loc' : List (Option XV)} (e : loc = loc') (kk : XW G X md Q k n pc loc' st κ M hs) : XW G X md Q k n pc loc st κ M hs := e ▸ kk
theorem x_widen {k' n' : Nat} (h1 : k ≤ k') (h2 : n ≤ n') (kk : XW G X md Q k' n' pc loc st κ M hs) : XW G X md Q k n pc loc st κ M hs := by
  obtain ⟨p, l, e, R, s, m, args, below, meth, c⟩ := X
  intro H locs ls hH hS hl
  exact W.widen h1 h2 (kk H locs ls hH hS hl)
theorem x_iconst (hX : Xx G md d mc ms X) {z : Int} (hdg : decode md.2.1 pc = .ok (.iconst z, 1)) (kk : XW G X md Q k n (pc + 1) loc (xI z :: st) κ M hs) : XW G X md Q k n pc loc (st) κ M hs := by
  obtain ⟨p, l, e, R, s, m, args, below, meth, c⟩ := X
  intro H locs ls hH hS hl
  exact lv_iconst hX.1 hX.2.1 hdg rfl (kk H locs ls hH hS hl)
theorem x_bipush (hX : Xx G md d mc ms X) {z : Int} (hv : (Int8.ofInt z).toInt32 = Int32.ofInt z) (hdg : decode md.2.1 pc = .ok (.bipush z, 2)) (kk : XW G X md Q k n (pc + 2) loc (xI z :: st) κ M hs) : XW G X md Q k n pc loc (st) κ M hs := by
  obtain ⟨p, l, e, R, s, m, args, below, meth, c⟩ := X
  intro H locs ls hH hS hl
  exact lv_bipush hX.1 hX.2.1 hdg hv (kk H locs ls hH hS hl)
theorem x_sipush (hX : Xx G md d mc ms X) {z : Int} (hv : (Int16.ofInt z).toInt32 = Int32.ofInt z) (hdg : decode md.2.1 pc = .ok (.sipush z, 3)) (kk : XW G X md Q k n (pc + 3) loc (xI z :: st) κ M hs) : XW G X md Q k n pc loc (st) κ M hs := by
  obtain ⟨p, l, e, R, s, m, args, below, meth, c⟩ := X
  intro H locs ls hH hS hl
  exact lv_sipush hX.1 hX.2.1 hdg hv (kk H locs ls hH hS hl)
theorem x_iload_n (hX : Xx G md d mc ms X) {j : Fin 4} {i : Nat} {a : Int} (hi : (j : Nat) = i) (hl0 : loc[i]? = some (some (xI a))) (hdg : decode md.2.1 pc = .ok (.iload_n j, 1)) (kk : XW G X md Q k n (pc + 1) loc (xI a :: st) κ M hs) : XW G X md Q k n pc loc (st) κ M hs := by
  obtain ⟨p, l, e, R, s, m, args, below, meth, c⟩ := X
  intro H locs ls hH hS hl
  exact lv_iload_n hX.1 hX.2.1 hdg hi (xL_at hl hl0) (kk H locs ls hH hS hl)
theorem x_iload (hX : Xx G md d mc ms X) {i : Nat} {a : Int} (hl0 : loc[i]? = some (some (xI a))) (hdg : decode md.2.1 pc = .ok (.iload i, 2)) (kk : XW G X md Q k n (pc + 2) loc (xI a :: st) κ M hs) : XW G X md Q k n pc loc (st) κ M hs := by
  obtain ⟨p, l, e, R, s, m, args, below, meth, c⟩ := X
  intro H locs ls hH hS hl
  exact lv_iload hX.1 hX.2.1 hdg (xL_at hl hl0) (kk H locs ls hH hS hl)
theorem x_aload_n (hX : Xx G md d mc ms X) {j : Fin 4} {i : Nat} {o : Nat} (hi : (j : Nat) = i) (hl0 : loc[i]? = some (some (xR o))) (hdg : decode md.2.1 pc = .ok (.aload_n j, 1)) (kk : XW G X md Q k n (pc + 1) loc (xR o :: st) κ M hs) : XW G X md Q k n pc loc (st) κ M hs := by
  obtain ⟨p, l, e, R, s, m, args, below, meth, c⟩ := X
  intro H locs ls hH hS hl
  exact lv_aload_n hX.1 hX.2.1 hdg hi (xL_at hl hl0) (kk H locs ls hH hS hl)
theorem x_aload (hX : Xx G md d mc ms X) {i : Nat} {o : Nat} (hl0 : loc[i]? = some (some (xR o))) (hdg : decode md.2.1 pc = .ok (.aload i, 2)) (kk : XW G X md Q k n (pc + 2) loc (xR o :: st) κ M hs) : XW G X md Q k n pc loc (st) κ M hs := by
  obtain ⟨p, l, e, R, s, m, args, below, meth, c⟩ := X
  intro H locs ls hH hS hl
  exact lv_aload hX.1 hX.2.1 hdg (xL_at hl hl0) (kk H locs ls hH hS hl)
theorem x_aloadV_n (hX : Xx G md d mc ms X) {j : Fin 4} {i : Nat} {o : Nat} (hi : (j : Nat) = i) (hl0 : loc[i]? = some (some (xV (.ref o)))) (hdg : decode md.2.1 pc = .ok (.aload_n j, 1)) (kk : XW G X md Q k n (pc + 1) loc (xV (.ref o) :: st) κ M hs) : XW G X md Q k n pc loc (st) κ M hs := by
  obtain ⟨p, l, e, R, s, m, args, below, meth, c⟩ := X
  intro H locs ls hH hS hl
  exact lv_aload_n hX.1 hX.2.1 hdg hi (xL_at hl hl0) (kk H locs ls hH hS hl)
theorem x_lload_n (hX : Xx G md d mc ms X) {j : Fin 4} {i : Nat} {z : Int64} (hi : (j : Nat) = i) (hl0 : loc[i]? = some (some (xV (.long z)))) (hdg : decode md.2.1 pc = .ok (.lload_n j, 1)) (kk : XW G X md Q k n (pc + 1) loc (xV (.long z) :: st) κ M hs) : XW G X md Q k n pc loc (st) κ M hs := by
  obtain ⟨p, l, e, R, s, m, args, below, meth, c⟩ := X
  intro H locs ls hH hS hl
  exact lv_lload_n hX.1 hX.2.1 hdg hi (xL_at hl hl0) (kk H locs ls hH hS hl)
theorem x_lload (hX : Xx G md d mc ms X) {i : Nat} {z : Int64} (hl0 : loc[i]? = some (some (xV (.long z)))) (hdg : decode md.2.1 pc = .ok (.lload i, 2)) (kk : XW G X md Q k n (pc + 2) loc (xV (.long z) :: st) κ M hs) : XW G X md Q k n pc loc (st) κ M hs := by
  obtain ⟨p, l, e, R, s, m, args, below, meth, c⟩ := X
  intro H locs ls hH hS hl
  exact lv_lload hX.1 hX.2.1 hdg (xL_at hl hl0) (kk H locs ls hH hS hl)
theorem x_istore_n (hX : Xx G md d mc ms X) {j : Fin 4} {i : Nat} {a : Int} {loc2 : List (Option XV)} (hi : (j : Nat) = i) (hn : i < md.2.2.1) (hok : xok loc i = true) (hset : loc.set i (some (xI a)) = loc2) (hdg : decode md.2.1 pc = .ok (.istore_n j, 1)) (kk : XW G X md Q k n (pc + 1) loc2 (st) κ M hs) : XW G X md Q k n pc loc (xI a :: st) κ M hs := by
  obtain ⟨p, l, e, R, s, m, args, below, meth, c⟩ := X
  intro H locs ls hH hS hl
  exact lv_istore_n (lv := xl G.2.2 0 loc) hX.1 hX.2.1 hdg hi hl hn rfl (fun ls2 h2 => kk H locs ls2 hH hS (hset ▸ xL_st1 h2 hok))
theorem x_istore (hX : Xx G md d mc ms X) {i : Nat} {a : Int} {loc2 : List (Option XV)} (hn : i < md.2.2.1) (hok : xok loc i = true) (hset : loc.set i (some (xI a)) = loc2) (hdg : decode md.2.1 pc = .ok (.istore i, 2)) (kk : XW G X md Q k n (pc + 2) loc2 (st) κ M hs) : XW G X md Q k n pc loc (xI a :: st) κ M hs := by
  obtain ⟨p, l, e, R, s, m, args, below, meth, c⟩ := X
  intro H locs ls hH hS hl
  exact lv_istore (lv := xl G.2.2 0 loc) hX.1 hX.2.1 hdg hl hn rfl (fun ls2 h2 => kk H locs ls2 hH hS (hset ▸ xL_st1 h2 hok))
theorem x_astore_n (hX : Xx G md d mc ms X) {j : Fin 4} {i : Nat} {o : Nat} {loc2 : List (Option XV)} (hi : (j : Nat) = i) (hn : i < md.2.2.1) (hok : xok loc i = true) (hset : loc.set i (some (xR o)) = loc2) (hdg : decode md.2.1 pc = .ok (.astore_n j, 1)) (kk : XW G X md Q k n (pc + 1) loc2 (st) κ M hs) : XW G X md Q k n pc loc (xR o :: st) κ M hs := by
  obtain ⟨p, l, e, R, s, m, args, below, meth, c⟩ := X
  intro H locs ls hH hS hl
  exact lv_astore_n (lv := xl G.2.2 0 loc) hX.1 hX.2.1 hdg hi hl hn rfl (fun ls2 h2 => kk H locs ls2 hH hS (hset ▸ xL_st1 h2 hok))
theorem x_astore (hX : Xx G md d mc ms X) {i : Nat} {o : Nat} {loc2 : List (Option XV)} (hn : i < md.2.2.1) (hok : xok loc i = true) (hset : loc.set i (some (xR o)) = loc2) (hdg : decode md.2.1 pc = .ok (.astore i, 2)) (kk : XW G X md Q k n (pc + 2) loc2 (st) κ M hs) : XW G X md Q k n pc loc (xR o :: st) κ M hs := by
  obtain ⟨p, l, e, R, s, m, args, below, meth, c⟩ := X
  intro H locs ls hH hS hl
  exact lv_astore (lv := xl G.2.2 0 loc) hX.1 hX.2.1 hdg hl hn rfl (fun ls2 h2 => kk H locs ls2 hH hS (hset ▸ xL_st1 h2 hok))
theorem x_lstore_n (hX : Xx G md d mc ms X) {j : Fin 4} {i : Nat} {z : Int64} {loc2 : List (Option XV)} (hi : (j : Nat) = i) (hn : i + 1 < md.2.2.1) (hok : xok loc i = true) (hset : (loc.set (i + 1) none).set i (some (xV (.long z))) = loc2) (hdg : decode md.2.1 pc = .ok (.lstore_n j, 1)) (kk : XW G X md Q k n (pc + 1) loc2 (st) κ M hs) : XW G X md Q k n pc loc (xV (.long z) :: st) κ M hs := by
  obtain ⟨p, l, e, R, s, m, args, below, meth, c⟩ := X
  intro H locs ls hH hS hl
  exact lv_lstore_n (lv := xl G.2.2 0 loc) hX.1 hX.2.1 hdg hi hl hn rfl (fun ls2 h2 => kk H locs ls2 hH hS (hset ▸ xL_st2 (v := xV (.long z)) h2 hok))
theorem x_lstore (hX : Xx G md d mc ms X) {i : Nat} {z : Int64} {loc2 : List (Option XV)} (hn : i + 1 < md.2.2.1) (hok : xok loc i = true) (hset : (loc.set (i + 1) none).set i (some (xV (.long z))) = loc2) (hdg : decode md.2.1 pc = .ok (.lstore i, 2)) (kk : XW G X md Q k n (pc + 2) loc2 (st) κ M hs) : XW G X md Q k n pc loc (xV (.long z) :: st) κ M hs := by
  obtain ⟨p, l, e, R, s, m, args, below, meth, c⟩ := X
  intro H locs ls hH hS hl
  exact lv_lstore (lv := xl G.2.2 0 loc) hX.1 hX.2.1 hdg hl hn rfl (fun ls2 h2 => kk H locs ls2 hH hS (hset ▸ xL_st2 (v := xV (.long z)) h2 hok))
theorem x_iinc (hX : Xx G md d mc ms X) {i : Nat} {z a v : Int} {loc2 : List (Option XV)} (hdg : decode md.2.1 pc = .ok (.iinc i z, 3)) (hl0 : loc[i]? = some (some (xI a))) (hn : i < md.2.2.1) (hok : xok loc i = true) (hv : a + z = v) (hset : loc.set i (some (xI v)) = loc2) (kk : XW G X md Q k n (pc + 3) loc2 st κ M hs) : XW G X md Q k n pc loc st κ M hs := by
  obtain ⟨p, l, e, R, s, m, args, below, meth, c⟩ := X
  intro H locs ls hH hS hl
  obtain ⟨j, hj⟩ := List.getElem?_of_mem ((xl_mem (b := G.2.2) loc 0 i (.int (Int32.ofInt a))).mpr ⟨xI a, Nat.zero_le _, hl0, rfl⟩)
  exact lv_iinc (lv := xl G.2.2 0 loc) (v := Int32.ofInt v) hX.1 hX.2.1 hdg hl hj (by rw [← hv, Int32.ofInt_add]) hn rfl (fun ls2 h2 => kk H locs ls2 hH hS (hset ▸ xL_st1 (v := xI v) h2 hok))
theorem x_iadd (hX : Xx G md d mc ms X) {a b v : Int} (hdg : decode md.2.1 pc = .ok (.iadd, 1)) (hv : a + b = v) (kk : XW G X md Q k n (pc + 1) loc (xI v :: st) κ M hs) : XW G X md Q k n pc loc (xI b :: xI a :: st) κ M hs := by
  obtain ⟨p, l, e, R, s, m, args, below, meth, c⟩ := X
  intro H locs ls hH hS hl
  subst hv
  have k2 := kk H locs ls hH hS hl
  have e9 : xt G.2.2 (xI (a + b)) = .int (Int32.ofInt a + Int32.ofInt b) := congrArg Value.int (Int32.ofInt_add a b)
  rw [List.map_cons, e9] at k2
  exact lv_iadd hX.1 hX.2.1 hdg k2
theorem x_isub (hX : Xx G md d mc ms X) {a b v : Int} (hdg : decode md.2.1 pc = .ok (.isub, 1)) (hv : a - b = v) (kk : XW G X md Q k n (pc + 1) loc (xI v :: st) κ M hs) : XW G X md Q k n pc loc (xI b :: xI a :: st) κ M hs := by
  obtain ⟨p, l, e, R, s, m, args, below, meth, c⟩ := X
  intro H locs ls hH hS hl
  subst hv
  have k2 := kk H locs ls hH hS hl
  have e9 : xt G.2.2 (xI (a - b)) = .int (Int32.ofInt a - Int32.ofInt b) := congrArg Value.int (Int32.ofInt_sub a b)
  rw [List.map_cons, e9] at k2
  exact lv_isub hX.1 hX.2.1 hdg k2
theorem x_imul (hX : Xx G md d mc ms X) {a b v : Int} (hdg : decode md.2.1 pc = .ok (.imul, 1)) (hv : a * b = v) (kk : XW G X md Q k n (pc + 1) loc (xI v :: st) κ M hs) : XW G X md Q k n pc loc (xI b :: xI a :: st) κ M hs := by
  obtain ⟨p, l, e, R, s, m, args, below, meth, c⟩ := X
  intro H locs ls hH hS hl
  subst hv
  have k2 := kk H locs ls hH hS hl
  have e9 : xt G.2.2 (xI (a * b)) = .int (Int32.ofInt a * Int32.ofInt b) := congrArg Value.int (Int32.ofInt_mul a b)
  rw [List.map_cons, e9] at k2
  exact lv_imul hX.1 hX.2.1 hdg k2
theorem x_iand (hX : Xx G md d mc ms X) {a b v : Int} (hdg : decode md.2.1 pc = .ok (.iand, 1)) (hv : Int32.ofInt v = Int32.ofInt a &&& Int32.ofInt b) (kk : XW G X md Q k n (pc + 1) loc (xI v :: st) κ M hs) : XW G X md Q k n pc loc (xI b :: xI a :: st) κ M hs := by
  obtain ⟨p, l, e, R, s, m, args, below, meth, c⟩ := X
  intro H locs ls hH hS hl
  have k2 := kk H locs ls hH hS hl
  have e9 : xt G.2.2 (xI v) = .int (Int32.ofInt a &&& Int32.ofInt b) := congrArg Value.int hv
  rw [List.map_cons, e9] at k2
  exact lv_iand hX.1 hX.2.1 hdg k2
theorem x_ior (hX : Xx G md d mc ms X) {a b v : Int} (hdg : decode md.2.1 pc = .ok (.ior, 1)) (hv : Int32.ofInt v = Int32.ofInt a ||| Int32.ofInt b) (kk : XW G X md Q k n (pc + 1) loc (xI v :: st) κ M hs) : XW G X md Q k n pc loc (xI b :: xI a :: st) κ M hs := by
  obtain ⟨p, l, e, R, s, m, args, below, meth, c⟩ := X
  intro H locs ls hH hS hl
  have k2 := kk H locs ls hH hS hl
  have e9 : xt G.2.2 (xI v) = .int (Int32.ofInt a ||| Int32.ofInt b) := congrArg Value.int hv
  rw [List.map_cons, e9] at k2
  exact lv_ior hX.1 hX.2.1 hdg k2
theorem x_ishl (hX : Xx G md d mc ms X) {a b v : Int} (hdg : decode md.2.1 pc = .ok (.ishl, 1)) (hv : Int32.ofInt v = Int32.ofInt a <<< (Int32.ofInt b &&& 31)) (kk : XW G X md Q k n (pc + 1) loc (xI v :: st) κ M hs) : XW G X md Q k n pc loc (xI b :: xI a :: st) κ M hs := by
  obtain ⟨p, l, e, R, s, m, args, below, meth, c⟩ := X
  intro H locs ls hH hS hl
  have k2 := kk H locs ls hH hS hl
  have e9 : xt G.2.2 (xI v) = .int (Int32.ofInt a <<< (Int32.ofInt b &&& 31)) := congrArg Value.int hv
  rw [List.map_cons, e9] at k2
  exact lv_ishl hX.1 hX.2.1 hdg k2
theorem x_ishr (hX : Xx G md d mc ms X) {a b v : Int} (hdg : decode md.2.1 pc = .ok (.ishr, 1)) (hv : Int32.ofInt v = Int32.ofInt a >>> (Int32.ofInt b &&& 31)) (kk : XW G X md Q k n (pc + 1) loc (xI v :: st) κ M hs) : XW G X md Q k n pc loc (xI b :: xI a :: st) κ M hs := by
  obtain ⟨p, l, e, R, s, m, args, below, meth, c⟩ := X
  intro H locs ls hH hS hl
  have k2 := kk H locs ls hH hS hl
  have e9 : xt G.2.2 (xI v) = .int (Int32.ofInt a >>> (Int32.ofInt b &&& 31)) := congrArg Value.int hv
  rw [List.map_cons, e9] at k2
  exact lv_ishr hX.1 hX.2.1 hdg k2
theorem x_irem (hX : Xx G md d mc ms X) {a b v : Int} (hdg : decode md.2.1 pc = .ok (.irem, 1)) (hv : Int32.ofInt v = Int32.ofInt a - Int32.ofInt a / Int32.ofInt b * Int32.ofInt b) (hne : ¬ Int32.ofInt b = 0) (kk : XW G X md Q k n (pc + 1) loc (xI v :: st) κ M hs) : XW G X md Q k n pc loc (xI b :: xI a :: st) κ M hs := by
  obtain ⟨p, l, e, R, s, m, args, below, meth, c⟩ := X
  intro H locs ls hH hS hl
  have k2 := kk H locs ls hH hS hl
  have e9 : xt G.2.2 (xI v) = .int (Int32.ofInt a - Int32.ofInt a / Int32.ofInt b * Int32.ofInt b) := congrArg Value.int hv
  rw [List.map_cons, e9] at k2
  exact lv_irem hX.1 hX.2.1 hdg hne k2
theorem x_dup (hX : Xx G md d mc ms X) {v : XV} (hc : xcat v = 1) (hdg : decode md.2.1 pc = .ok (.dup, 1)) (kk : XW G X md Q k n (pc + 1) loc (v :: v :: st) κ M hs) : XW G X md Q k n pc loc (v :: st) κ M hs := by
  obtain ⟨p, l, e, R, s, m, args, below, meth, c⟩ := X
  intro H locs ls hH hS hl
  exact lv_dup hX.1 hX.2.1 hdg (by rw [xcat_eq]; exact hc) (kk H locs ls hH hS hl)
theorem x_dup2 (hX : Xx G md d mc ms X) {v w : XV} (hc : xcat v = 1) (hc2 : xcat w = 1) (hdg : decode md.2.1 pc = .ok (.dup2, 1)) (kk : XW G X md Q k n (pc + 1) loc (v :: w :: v :: w :: st) κ M hs) : XW G X md Q k n pc loc (v :: w :: st) κ M hs := by
  obtain ⟨p, l, e, R, s, m, args, below, meth, c⟩ := X
  intro H locs ls hH hS hl
  exact lv_dup2_11 hX.1 hX.2.1 hdg (by rw [xcat_eq]; exact hc) (by rw [xcat_eq]; exact hc2) (kk H locs ls hH hS hl)
theorem x_pop (hX : Xx G md d mc ms X) {v : XV} (hc : xcat v = 1) (hdg : decode md.2.1 pc = .ok (.pop, 1)) (kk : XW G X md Q k n (pc + 1) loc (st) κ M hs) : XW G X md Q k n pc loc (v :: st) κ M hs := by
  obtain ⟨p, l, e, R, s, m, args, below, meth, c⟩ := X
  intro H locs ls hH hS hl
  exact lv_pop hX.1 hX.2.1 hdg (by rw [xcat_eq]; exact hc) (kk H locs ls hH hS hl)
theorem x_goto (hX : Xx G md d mc ms X) {off : Int} {tgt : Nat} (hdg : decode md.2.1 pc = .ok (.goto off, 3)) (ht : (pc : Int) + off = (tgt : Int)) (kk : XW G X md Q k n tgt loc st κ M hs) : XW G X md Q k n pc loc st κ M hs := by
  obtain ⟨p, l, e, R, s, m, args, below, meth, c⟩ := X
  intro H locs ls hH hS hl
  exact lv_goto hX.1 hX.2.1 hdg ht (kk H locs ls hH hS hl)
theorem x_if_eq (hX : Xx G md d mc ms X) {a : Int} {off : Int} {tgt : Nat} (hdg : decode md.2.1 pc = .ok (.ifCond .eq off, 3)) (ht : (pc : Int) + off = (tgt : Int)) (hr : (-2147483648 ≤ a ∧ a < 2147483648)) (kt : a = 0 → XW G X md Q k n tgt loc st κ M hs) (kf : ¬ (a = 0) → XW G X md Q k n (pc + 3) loc st κ M hs) : XW G X md Q k n pc loc (xI a :: st) κ M hs := by
  obtain ⟨p, l, e, R, s, m, args, below, meth, c⟩ := X
  intro H locs ls hH hS hl
  exact lv_if_eq hX.1 hX.2.1 hdg ht (fun h => kt ((x_eq (a := a) (b := 0) ⟨hr, by omega⟩).mp h) H locs ls hH hS hl) (fun h => kf (fun q => h ((x_eq (a := a) (b := 0) ⟨hr, by omega⟩).mpr q)) H locs ls hH hS hl)
theorem x_icmp_eq (hX : Xx G md d mc ms X) {a b : Int} {off : Int} {tgt : Nat} (hdg : decode md.2.1 pc = .ok (.if_icmp .eq off, 3)) (ht : (pc : Int) + off = (tgt : Int)) (hr : ((-2147483648 ≤ a ∧ a < 2147483648) ∧ -2147483648 ≤ b ∧ b < 2147483648)) (kt : a = b → XW G X md Q k n tgt loc st κ M hs) (kf : ¬ (a = b) → XW G X md Q k n (pc + 3) loc st κ M hs) : XW G X md Q k n pc loc (xI b :: xI a :: st) κ M hs := by
  obtain ⟨p, l, e, R, s, m, args, below, meth, c⟩ := X
  intro H locs ls hH hS hl
  exact lv_icmp_eq hX.1 hX.2.1 hdg ht (fun h => kt ((x_eq hr).mp h) H locs ls hH hS hl) (fun h => kf (fun q => h ((x_eq hr).mpr q)) H locs ls hH hS hl)
theorem x_if_ne (hX : Xx G md d mc ms X) {a : Int} {off : Int} {tgt : Nat} (hdg : decode md.2.1 pc = .ok (.ifCond .ne off, 3)) (ht : (pc : Int) + off = (tgt : Int)) (hr : (-2147483648 ≤ a ∧ a < 2147483648)) (kt : ¬ a = 0 → XW G X md Q k n tgt loc st κ M hs) (kf : a = 0 → XW G X md Q k n (pc + 3) loc st κ M hs) : XW G X md Q k n pc loc (xI a :: st) κ M hs := by
  obtain ⟨p, l, e, R, s, m, args, below, meth, c⟩ := X
  intro H locs ls hH hS hl
  exact lv_if_ne hX.1 hX.2.1 hdg ht (fun h => kt ((not_congr (x_eq (a := a) (b := 0) ⟨hr, by omega⟩)).mp h) H locs ls hH hS hl) (fun h => kf ((x_eq (a := a) (b := 0) ⟨hr, by omega⟩).mp h) H locs ls hH hS hl)
theorem x_icmp_ne (hX : Xx G md d mc ms X) {a b : Int} {off : Int} {tgt : Nat} (hdg : decode md.2.1 pc = .ok (.if_icmp .ne off, 3)) (ht : (pc : Int) + off = (tgt : Int)) (hr : ((-2147483648 ≤ a ∧ a < 2147483648) ∧ -2147483648 ≤ b ∧ b < 2147483648)) (kt : ¬ a = b → XW G X md Q k n tgt loc st κ M hs) (kf : a = b → XW G X md Q k n (pc + 3) loc st κ M hs) : XW G X md Q k n pc loc (xI b :: xI a :: st) κ M hs := by
  obtain ⟨p, l, e, R, s, m, args, below, meth, c⟩ := X
  intro H locs ls hH hS hl
  exact lv_icmp_ne hX.1 hX.2.1 hdg ht (fun h => kt ((not_congr (x_eq hr)).mp h) H locs ls hH hS hl) (fun h => kf ((x_eq hr).mp h) H locs ls hH hS hl)
theorem x_if_lt (hX : Xx G md d mc ms X) {a : Int} {off : Int} {tgt : Nat} (hdg : decode md.2.1 pc = .ok (.ifCond .lt off, 3)) (ht : (pc : Int) + off = (tgt : Int)) (hr : (-2147483648 ≤ a ∧ a < 2147483648)) (kt : a < 0 → XW G X md Q k n tgt loc st κ M hs) (kf : ¬ (a < 0) → XW G X md Q k n (pc + 3) loc st κ M hs) : XW G X md Q k n pc loc (xI a :: st) κ M hs := by
  obtain ⟨p, l, e, R, s, m, args, below, meth, c⟩ := X
  intro H locs ls hH hS hl
  exact lv_if_lt hX.1 hX.2.1 hdg ht (fun h => kt ((x_lt (a := a) (b := 0) ⟨hr, by omega⟩).mp h) H locs ls hH hS hl) (fun h => kf (fun q => h ((x_lt (a := a) (b := 0) ⟨hr, by omega⟩).mpr q)) H locs ls hH hS hl)
theorem x_icmp_lt (hX : Xx G md d mc ms X) {a b : Int} {off : Int} {tgt : Nat} (hdg : decode md.2.1 pc = .ok (.if_icmp .lt off, 3)) (ht : (pc : Int) + off = (tgt : Int)) (hr : ((-2147483648 ≤ a ∧ a < 2147483648) ∧ -2147483648 ≤ b ∧ b < 2147483648)) (kt : a < b → XW G X md Q k n tgt loc st κ M hs) (kf : ¬ (a < b) → XW G X md Q k n (pc + 3) loc st κ M hs) : XW G X md Q k n pc loc (xI b :: xI a :: st) κ M hs := by
  obtain ⟨p, l, e, R, s, m, args, below, meth, c⟩ := X
  intro H locs ls hH hS hl
  exact lv_icmp_lt hX.1 hX.2.1 hdg ht (fun h => kt ((x_lt hr).mp h) H locs ls hH hS hl) (fun h => kf (fun q => h ((x_lt hr).mpr q)) H locs ls hH hS hl)
theorem x_if_ge (hX : Xx G md d mc ms X) {a : Int} {off : Int} {tgt : Nat} (hdg : decode md.2.1 pc = .ok (.ifCond .ge off, 3)) (ht : (pc : Int) + off = (tgt : Int)) (hr : (-2147483648 ≤ a ∧ a < 2147483648)) (kt : 0 ≤ a → XW G X md Q k n tgt loc st κ M hs) (kf : ¬ (0 ≤ a) → XW G X md Q k n (pc + 3) loc st κ M hs) : XW G X md Q k n pc loc (xI a :: st) κ M hs := by
  obtain ⟨p, l, e, R, s, m, args, below, meth, c⟩ := X
  intro H locs ls hH hS hl
  exact lv_if_ge hX.1 hX.2.1 hdg ht (fun h => kt ((x_le (a := 0) (b := a) ⟨by omega, hr⟩).mp h) H locs ls hH hS hl) (fun h => kf (fun q => h ((x_le (a := 0) (b := a) ⟨by omega, hr⟩).mpr q)) H locs ls hH hS hl)
theorem x_icmp_ge (hX : Xx G md d mc ms X) {a b : Int} {off : Int} {tgt : Nat} (hdg : decode md.2.1 pc = .ok (.if_icmp .ge off, 3)) (ht : (pc : Int) + off = (tgt : Int)) (hr : ((-2147483648 ≤ a ∧ a < 2147483648) ∧ -2147483648 ≤ b ∧ b < 2147483648)) (kt : b ≤ a → XW G X md Q k n tgt loc st κ M hs) (kf : ¬ (b ≤ a) → XW G X md Q k n (pc + 3) loc st κ M hs) : XW G X md Q k n pc loc (xI b :: xI a :: st) κ M hs := by
  obtain ⟨p, l, e, R, s, m, args, below, meth, c⟩ := X
  intro H locs ls hH hS hl
  exact lv_icmp_ge hX.1 hX.2.1 hdg ht (fun h => kt ((x_le ⟨hr.2, hr.1⟩).mp h) H locs ls hH hS hl) (fun h => kf (fun q => h ((x_le ⟨hr.2, hr.1⟩).mpr q)) H locs ls hH hS hl)
theorem x_if_gt (hX : Xx G md d mc ms X) {a : Int} {off : Int} {tgt : Nat} (hdg : decode md.2.1 pc = .ok (.ifCond .gt off, 3)) (ht : (pc : Int) + off = (tgt : Int)) (hr : (-2147483648 ≤ a ∧ a < 2147483648)) (kt : 0 < a → XW G X md Q k n tgt loc st κ M hs) (kf : ¬ (0 < a) → XW G X md Q k n (pc + 3) loc st κ M hs) : XW G X md Q k n pc loc (xI a :: st) κ M hs := by
  obtain ⟨p, l, e, R, s, m, args, below, meth, c⟩ := X
  intro H locs ls hH hS hl
  exact lv_if_gt hX.1 hX.2.1 hdg ht (fun h => kt ((x_lt (a := 0) (b := a) ⟨by omega, hr⟩).mp h) H locs ls hH hS hl) (fun h => kf (fun q => h ((x_lt (a := 0) (b := a) ⟨by omega, hr⟩).mpr q)) H locs ls hH hS hl)
theorem x_icmp_gt (hX : Xx G md d mc ms X) {a b : Int} {off : Int} {tgt : Nat} (hdg : decode md.2.1 pc = .ok (.if_icmp .gt off, 3)) (ht : (pc : Int) + off = (tgt : Int)) (hr : ((-2147483648 ≤ a ∧ a < 2147483648) ∧ -2147483648 ≤ b ∧ b < 2147483648)) (kt : b < a → XW G X md Q k n tgt loc st κ M hs) (kf : ¬ (b < a) → XW G X md Q k n (pc + 3) loc st κ M hs) : XW G X md Q k n pc loc (xI b :: xI a :: st) κ M hs := by
  obtain ⟨p, l, e, R, s, m, args, below, meth, c⟩ := X
  intro H locs ls hH hS hl
  exact lv_icmp_gt hX.1 hX.2.1 hdg ht (fun h => kt ((x_lt ⟨hr.2, hr.1⟩).mp h) H locs ls hH hS hl) (fun h => kf (fun q => h ((x_lt ⟨hr.2, hr.1⟩).mpr q)) H locs ls hH hS hl)
theorem x_if_le (hX : Xx G md d mc ms X) {a : Int} {off : Int} {tgt : Nat} (hdg : decode md.2.1 pc = .ok (.ifCond .le off, 3)) (ht : (pc : Int) + off = (tgt : Int)) (hr : (-2147483648 ≤ a ∧ a < 2147483648)) (kt : a ≤ 0 → XW G X md Q k n tgt loc st κ M hs) (kf : ¬ (a ≤ 0) → XW G X md Q k n (pc + 3) loc st κ M hs) : XW G X md Q k n pc loc (xI a :: st) κ M hs := by
  obtain ⟨p, l, e, R, s, m, args, below, meth, c⟩ := X
  intro H locs ls hH hS hl
  exact lv_if_le hX.1 hX.2.1 hdg ht (fun h => kt ((x_le (a := a) (b := 0) ⟨hr, by omega⟩).mp h) H locs ls hH hS hl) (fun h => kf (fun q => h ((x_le (a := a) (b := 0) ⟨hr, by omega⟩).mpr q)) H locs ls hH hS hl)
theorem x_icmp_le (hX : Xx G md d mc ms X) {a b : Int} {off : Int} {tgt : Nat} (hdg : decode md.2.1 pc = .ok (.if_icmp .le off, 3)) (ht : (pc : Int) + off = (tgt : Int)) (hr : ((-2147483648 ≤ a ∧ a < 2147483648) ∧ -2147483648 ≤ b ∧ b < 2147483648)) (kt : a ≤ b → XW G X md Q k n tgt loc st κ M hs) (kf : ¬ (a ≤ b) → XW G X md Q k n (pc + 3) loc st κ M hs) : XW G X md Q k n pc loc (xI b :: xI a :: st) κ M hs := by
  obtain ⟨p, l, e, R, s, m, args, below, meth, c⟩ := X
  intro H locs ls hH hS hl
  exact lv_icmp_le hX.1 hX.2.1 hdg ht (fun h => kt ((x_le hr).mp h) H locs ls hH hS hl) (fun h => kf (fun q => h ((x_le hr).mpr q)) H locs ls hH hS hl)
theorem x_tswOut (hX : Xx G md d mc ms X) {a dflt lo hi : Int} {offs : Array Int} {len tgt : Nat} (hdg : decode md.2.1 pc = .ok (.tableswitch dflt lo hi offs, len)) (hr : (-2147483648 ≤ a ∧ a < 2147483648)) (h : a < lo ∨ hi < a) (ht : (pc : Int) + dflt = (tgt : Int)) (kk : XW G X md Q k n tgt loc st κ M hs) : XW G X md Q k n pc loc (xI a :: st) κ M hs := by
  obtain ⟨p, l, e, R, s, m, args, below, meth, c⟩ := X
  intro H locs ls hH hS hl
  exact lv_tableOut hX.1 hX.2.1 hdg (by rw [x_rng hr]; exact h) ht (kk H locs ls hH hS hl)
theorem x_tswIn (hX : Xx G md d mc ms X) {a dflt lo hi off : Int} {offs : Array Int} {len tgt : Nat} (hdg : decode md.2.1 pc = .ok (.tableswitch dflt lo hi offs, len)) (hr : (-2147483648 ≤ a ∧ a < 2147483648)) (h1 : lo ≤ a ∧ a ≤ hi) (ho : offs[(a - lo).toNat]? = some off) (ht : (pc : Int) + off = (tgt : Int)) (kk : XW G X md Q k n tgt loc st κ M hs) : XW G X md Q k n pc loc (xI a :: st) κ M hs := by
  obtain ⟨p, l, e, R, s, m, args, below, meth, c⟩ := X
  intro H locs ls hH hS hl
  exact lv_tableIn hX.1 hX.2.1 hdg (by rw [x_rng hr]; omega) (by rw [x_rng hr]; omega) (by rw [x_rng hr]; exact ho) ht (kk H locs ls hH hS hl)
theorem x_lookup (hX : Xx G md d mc ms X) {a dflt off : Int} {ps : Array (Int × Int)} {len tgt : Nat} (hdg : decode md.2.1 pc = .ok (.lookupswitch dflt ps, len)) (hp : (ps.toList.zip (ps.toList.drop 1)).all (fun (a, next) => a.1 < next.1) = true) (hr : (-2147483648 ≤ a ∧ a < 2147483648)) (ho : Op.lookupswitch.offset ps.toList dflt a = off) (ht : (pc : Int) + off = (tgt : Int)) (kk : XW G X md Q k n tgt loc st κ M hs) : XW G X md Q k n pc loc (xI a :: st) κ M hs := by
  obtain ⟨p, l, e, R, s, m, args, below, meth, c⟩ := X
  intro H locs ls hH hS hl
  exact lv_lookup hX.1 hX.2.1 hdg hp (by rw [x_rng hr]; exact ho) ht (kk H locs ls hH hS hl)
theorem x_he {ci o : Nat} {fl : List XF} (h : xO κ hs o (kO ci fl)) : (xw G κ M hs)[o]? = some (G.2.2 + o, .inr (ci, fl.mapIdx (fun k x => xf G.2.2 (M o k) x))) := xO_get h
theorem x_getI (hX : Xx G md d mc ms X) {idx ci j o : Nat} {fl : List XF} {fin : Bool} {ty : FieldType} {v : Int} (hF : xFL md.1.cls idx ci j fin ty) (hO : xO κ hs o (kO ci fl)) (hj : fl[j]? = some fI) (hv : M o j = v) (hdg : decode md.2.1 pc = .ok (.getfield idx, 3)) (kk : XW G X md Q k n (pc + 3) loc (xI v :: st) κ M hs) : XW G X md Q k n pc loc (xR o :: st) κ M hs := by
  obtain ⟨p, l, e, R, s, m, args, below, meth, c⟩ := X
  intro H locs ls hH hS hl
  obtain ⟨C, T, N, tyf, h1, h2, h3, h4, h5, -⟩ := hF
  subst hv
  exact va_get (ci := ci) (v := .int (Int32.ofInt (M o j))) hX.1 hX.2.1 hX.2.2.2.2.2.1 h2 hX.2.2.2.2.1 hX.2.2.2.2.2.2.1.1 hH.1 o (x_he hO) h1 j h3 (hX.2.2.2.2.2.1 _ h4) (fun _ h => by rw [h5] at h; exact h) (by rw [List.getElem?_mapIdx, hj]; rfl) hdg (kk H locs ls hH hS hl)
theorem x_getR (hX : Xx G md d mc ms X) {idx ci j o r : Nat} {fl : List XF} {fin : Bool} {ty : FieldType} (hF : xFL md.1.cls idx ci j fin ty) (hO : xO κ hs o (kO ci fl)) (hj : fl[j]? = some (fR r)) (hdg : decode md.2.1 pc = .ok (.getfield idx, 3)) (kk : XW G X md Q k n (pc + 3) loc (xR r :: st) κ M hs) : XW G X md Q k n pc loc (xR o :: st) κ M hs := by
  obtain ⟨p, l, e, R, s, m, args, below, meth, c⟩ := X
  intro H locs ls hH hS hl
  obtain ⟨C, T, N, tyf, h1, h2, h3, h4, h5, -⟩ := hF
  exact va_get (ci := ci) (v := .ref (G.2.2 + r)) hX.1 hX.2.1 hX.2.2.2.2.2.1 h2 hX.2.2.2.2.1 hX.2.2.2.2.2.2.1.1 hH.1 o (x_he hO) h1 j h3 (hX.2.2.2.2.2.1 _ h4) (fun _ h => by rw [h5] at h; exact h) (by rw [List.getElem?_mapIdx, hj]; rfl) hdg (kk H locs ls hH hS hl)
theorem x_fput {fl : List XF} {j : Nat} {f : Nat → Int} {v : Int} {b : Nat} (hj : fl[j]? = some fI) : (fl.mapIdx (fun k x => xf b (f k) x)).set j (.int (Int32.ofInt v)) = fl.mapIdx (fun k x => xf b (up1 f j v k) x) := by
  apply List.ext_getElem?
  intro i
  have hl := (List.getElem?_eq_some_iff.mp hj).1
  rw [List.getElem?_set, List.getElem?_mapIdx, List.getElem?_mapIdx]
  by_cases e : j = i
  · subst e
    rw [if_pos rfl, if_pos (by simpa using hl), hj]
    simp [xf, up1]
  · rw [if_neg e]
    have e2 : ¬ i = j := fun h => e h.symm
    simp [up1, e2]
theorem x_fputR {fl : List XF} {j r : Nat} {f : Nat → Int} {b : Nat} (hj : j < fl.length) : (fl.mapIdx (fun k x => xf b (f k) x)).set j (.ref (b + r)) = (fl.set j (fR r)).mapIdx (fun k x => xf b (f k) x) := by
  apply List.ext_getElem?
  intro i
  rw [List.getElem?_set, List.getElem?_mapIdx, List.getElem?_mapIdx, List.getElem?_set]
  by_cases e : j = i
  · subst e
    rw [if_pos rfl, if_pos (by simpa using hj), if_pos rfl, if_pos hj]
    rfl
  · rw [if_neg e, if_neg e]
theorem xH_put {κ' : XKs} {M' : XM} {o : Nat} {H H1 : Heap} (hH : xH G κ M hs H) (hl : o < hs) (ho : ∀ q, q ≠ o → κ' q = κ q ∧ M' q = M q) (e : va_at G.1 vwCl (G.2.2 + o, xe G (κ' o) (M' o)) H1) (z : H1.size = H.size) (oq : ∀ q : Nat, q ≠ G.2.2 + o → H1[q]? = H[q]?) : xH G κ' M' hs H1 := by
  refine ⟨?_, z.trans hH.2⟩
  rw [← xw_set κ' M' ho]
  exact hH.1.set (xw_D G κ M hs) (xw_get hl) e oq
theorem xH_at {o : Nat} {kd : XK} {H : Heap} (hH : xH G κ M hs H) (hO : xO κ hs o kd) : va_at G.1 vwCl (G.2.2 + o, xe G kd (M o)) H := hH.1 o _ (xO_get hO)
theorem x_putG (hX : Xx G md d mc ms X) {idx ci j o : Nat} {fl : List XF} {ty : FieldType} {v : XV} {fin : Bool} {κ2 : XKs} {M2 : XM} (hF : xFL md.1.cls idx ci j fin ty) (hO : xO κ hs o (kO ci fl)) (hlen : j < fl.length) (hn : narrow ty (xt G.2.2 v) = xt G.2.2 v) (hfit : fits ty (xt G.2.2 v) = true) (hfi : fin = true → md.1.name = "<init>" ∧ ∃ T N, vwCl[ci]? = some (md.1.cls, T, N))
    (ho : ∀ q, q ≠ o → κ2 q = κ q ∧ M2 q = M q) (he : ∃ fl2, κ2 o = kO ci fl2 ∧ fl2.mapIdx (fun k x => xf G.2.2 (M2 o k) x) = (fl.mapIdx (fun k x => xf G.2.2 (M o k) x)).set j (xt G.2.2 v)) (hdg : decode md.2.1 pc = .ok (.putfield idx, 3)) (kk : XW G X md Q k n (pc + 3) loc st κ2 M2 hs) : XW G X md Q k n pc loc (v :: xR o :: st) κ M hs := by
  obtain ⟨p, l, e, R, s, m, args, below, meth, c⟩ := X
  intro H locs ls hH hS hl
  obtain ⟨C, T, N, tyf, h1, h2, h3, h4, h5, h6, h7, h8, h9⟩ := hF
  obtain ⟨hexec, hb, -, -, hown, hts, hK, -, -, -, hnm⟩ := hX
  have hap := va_apart (own := md.1.cls) hts h2 tyf h6 h7 hK.1 h1
  obtain ⟨r, g1, cell, q1, q2, q3, q4⟩ := xH_at hH hO
  obtain rfl : r = (C, T, N) := Option.some.inj (g1.symm.trans h1)
  obtain ⟨hSl, hfc, kC, hkC, hkind⟩ := hK.1.1 ci _ h1
  obtain ⟨cf, kf, fi, f, hi, hsl⟩ := hSl j h3
  have hd : parseFieldDescriptor (T j).2.2.1 = some ty := by rw [h6 j h3, h9]
  have hsame : s.fieldFound? C (T j).2.1 (T j).2.2.1 = some (cf, kf, fi, f) := by rw [h5] at hi; exact hi
  have hst := (u_facts hfc hkC (u_lays hts h2 h3) hi).1
  obtain ⟨fl2, hk2, hf2⟩ := he
  have fin' : ∀ H' : Heap, H'[G.2.2 + o]? = some (cell.setSlot f.slot (xt G.2.2 v)) → H'.size = H.size → (∀ q : Nat, q ≠ G.2.2 + o → H'[q]? = H[q]?) → W p l e R s m args below meth c H' (locs ++ [⟨G.2.2 + o, f.slot⟩]) k n Q (F0 m (pc + 3) ls (st.map (xt G.2.2))) := by
    intro H' e1 e2 e3
    rw [hsl] at e1
    refine kk H' _ ls (xH_put hH hO.1 ho ?_ e2 e3) (hS.put e2 e3 (Nat.le_add_right _ _)) hl
    rw [hk2]
    show va_at G.1 vwCl (G.2.2 + o, .inr (ci, fl2.mapIdx (fun k x => xf G.2.2 (M2 o k) x))) H'
    rw [hf2]
    exact ⟨_, h1, t_OB.to (V := updV (vp_V (fl.mapIdx (fun k x => xf G.2.2 (M o k) x))) j (xt G.2.2 v)) ⟨_, e1, q2, q3, t_set q4 hap h3 _⟩ (fun i _ => vp_updV_set (by simpa using hlen) _ i)⟩
  cases fin with
  | false =>
    have hlay := hts _ (h2 _ (u_in_lay h3))
    unfold u_lay at hlay
    rw [if_neg (by rw [h8]; decide)] at hlay
    have h10 := u_store hfc hkC hkind hlay hi hd hn hfit
    exact W.putK hexec hb (f := f) ⟨hown, hts _ h4, ⟨_, _, _, hsame⟩, hst⟩ (by rw [q2]; exact h10) q1 q3 (by rw [hsl]; exact k2_hasslot (q4 j h3)) rfl rfl hdg fin'
  | true =>
    obtain ⟨hin2, T', N', hc'⟩ := hfi rfl
    have hCe : C = md.1.cls := congrArg (fun z => z.1) (Option.some.inj (h1.symm.trans hc'))
    have hlay := hts _ (h2 _ (u_in_lay h3))
    unfold u_lay at hlay
    rw [if_pos h8] at hlay
    have hcf : m.cls = cf := by
      obtain ⟨_, _, c', _, _, _, -, -, hf', -, -, -, hown2, -⟩ := Cond.laysFinal_spec hlay
      have e1 : c' = cf := by have := hi.symm.trans hf'; simp at this; exact this.1.symm
      rw [h5, hCe] at hown2
      rw [← e1]; exact Option.some.inj (hown.symm.trans hown2)
    have h10 := u_fits hfc hkC hkind (Or.inr hlay) hi hd hn hfit
    exact W.putFinK hexec hb hown (hts _ h4) hsame hst hcf (hnm.trans hin2) (by rw [q2]; exact h10) q1 q3 (by rw [hsl]; exact k2_hasslot (q4 j h3)) rfl rfl hdg fin'
theorem mput_self (M : XM) (a j : Nat) (v : Int) : mput M a j v a = up1 (M a) j v := mset_self M a _
theorem mput_ne (M : XM) {a q : Nat} (j : Nat) (v : Int) (h : q ≠ a) : mput M a j v q = M q := mset_ne M _ h
theorem up1_self (f : Nat → Int) (j : Nat) (v : Int) : up1 f j v j = v := if_pos rfl
theorem up1_ne (f : Nat → Int) {j i : Nat} (v : Int) (h : i ≠ j) : up1 f j v i = f i := if_neg h
theorem x_putI (hX : Xx G md d mc ms X) {idx ci j o : Nat} {fl : List XF} {ty : FieldType} {v : Int} (hF : xFL md.1.cls idx ci j false ty) (hO : xO κ hs o (kO ci fl)) (hj : fl[j]? = some fI) (hn : narrow ty (.int (Int32.ofInt v)) = .int (Int32.ofInt v)) (hfit : fits ty (.int (Int32.ofInt v)) = true) (hdg : decode md.2.1 pc = .ok (.putfield idx, 3)) (kk : XW G X md Q k n (pc + 3) loc st κ (mput M o j v) hs) : XW G X md Q k n pc loc (xI v :: xR o :: st) κ M hs := by
  refine x_putG hX hF hO (List.getElem?_eq_some_iff.mp hj).1 hn hfit (fun h => by cases h) (fun q h => ⟨rfl, mput_ne M j v h⟩) ⟨fl, hO.2, ?_⟩ hdg kk
  rw [mput_self]
  exact (x_fput hj).symm
/-- a reference into a field: the kind changes -/
theorem x_putR (hX : Xx G md d mc ms X) {idx ci j o r : Nat} {fl : List XF} {ty : FieldType} {fin : Bool} (hF : xFL md.1.cls idx ci j fin ty) (hO : xO κ hs o (kO ci fl)) (hj : j < fl.length) (hn : narrow ty (.ref (G.2.2 + r)) = .ref (G.2.2 + r)) (hfit : fits ty (.ref (G.2.2 + r)) = true) (hfi : fin = true → md.1.name = "<init>" ∧ ∃ T N, vwCl[ci]? = some (md.1.cls, T, N)) (hdg : decode md.2.1 pc = .ok (.putfield idx, 3)) (kk : XW G X md Q k n (pc + 3) loc st (kset κ o (kO ci (fl.set j (fR r)))) M hs) : XW G X md Q k n pc loc (xR r :: xR o :: st) κ M hs := by
  refine x_putG hX hF hO hj hn hfit hfi (fun q h => ⟨kset_ne κ _ h, rfl⟩) ⟨fl.set j (fR r), kset_self κ o _, ?_⟩ hdg kk
  exact (x_fputR hj).symm
/-- an int into a final field, in a constructor -/
theorem x_putIF (hX : Xx G md d mc ms X) {idx ci j o : Nat} {fl : List XF} {ty : FieldType} {v : Int} {fin : Bool} (hF : xFL md.1.cls idx ci j fin ty) (hO : xO κ hs o (kO ci fl)) (hj : fl[j]? = some fI) (hn : narrow ty (.int (Int32.ofInt v)) = .int (Int32.ofInt v)) (hfit : fits ty (.int (Int32.ofInt v)) = true) (hfi : fin = true → md.1.name = "<init>" ∧ ∃ T N, vwCl[ci]? = some (md.1.cls, T, N)) (hdg : decode md.2.1 pc = .ok (.putfield idx, 3)) (kk : XW G X md Q k n (pc + 3) loc st κ (mput M o j v) hs) : XW G X md Q k n pc loc (xI v :: xR o :: st) κ M hs := by
  refine x_putG hX hF hO (List.getElem?_eq_some_iff.mp hj).1 hn hfit hfi (fun q h => ⟨rfl, mput_ne M j v h⟩) ⟨fl, hO.2, ?_⟩ hdg kk
  rw [mput_self]
  exact (x_fput hj).symm
-- arrays
theorem x_ai {t N : Nat} {o : Nat} {H : Heap} (hH : xH G κ M hs H) (hO : xO κ hs o (kA t N)) : H[G.2.2 + o]? = some (vp_cell (G.2.1 t) (N, .inl (fun j => Int32.ofInt (M o j)))) := xH_at hH hO
theorem x_iald (hX : Xx G md d mc ms X) {o N j : Nat} {a v : Int} (hO : xO κ hs o (kA 0 N)) (hj : a = (j : Int)) (hn : j < N) (hN : N ≤ 65536) (hv : M o j = v) (hdg : decode md.2.1 pc = .ok (.iaload, 1)) (kk : XW G X md Q k n (pc + 1) loc (xI v :: st) κ M hs) : XW G X md Q k n pc loc (xI a :: xR o :: st) κ M hs := by
  obtain ⟨p, l, e, R, s, m, args, below, meth, c⟩ := X
  intro H locs ls hH hS hl
  obtain ⟨h1, h2⟩ := x_in hj hn hN
  subst hv
  have k2 := kk H locs ls hH hS hl
  refine va_iald hX.1 hX.2.1 hX.2.2.2.2.2.2.1.1 hH.1 o 0 (xO_get hO) rfl h1 hdg ?_
  rw [h2]
  exact k2
theorem x_cald (hX : Xx G md d mc ms X) {o N j : Nat} {a v : Int} (hO : xO κ hs o (kA 1 N)) (hj : a = (j : Int)) (hn : j < N) (hN : N ≤ 65536) (hv : M o j = v) (hdg : decode md.2.1 pc = .ok (.caload, 1)) (kk : XW G X md Q k n (pc + 1) loc (xI v :: st) κ M hs) : XW G X md Q k n pc loc (xI a :: xR o :: st) κ M hs := by
  obtain ⟨p, l, e, R, s, m, args, below, meth, c⟩ := X
  intro H locs ls hH hS hl
  obtain ⟨h1, h2⟩ := x_in hj hn hN
  subst hv
  have k2 := kk H locs ls hH hS hl
  refine va_cald hX.1 hX.2.1 hX.2.2.2.2.2.2.1.1 hH.1 o 1 (xO_get hO) rfl h1 hdg ?_
  rw [h2]
  exact k2
theorem x_zald (hX : Xx G md d mc ms X) {o N j : Nat} {a v : Int} (hO : xO κ hs o (kA 2 N)) (hj : a = (j : Int)) (hn : j < N) (hN : N ≤ 65536) (hv : M o j = v) (hdg : decode md.2.1 pc = .ok (.baload, 1)) (kk : XW G X md Q k n (pc + 1) loc (xI v :: st) κ M hs) : XW G X md Q k n pc loc (xI a :: xR o :: st) κ M hs := by
  obtain ⟨p, l, e, R, s, m, args, below, meth, c⟩ := X
  intro H locs ls hH hS hl
  obtain ⟨h1, h2⟩ := x_in hj hn hN
  subst hv
  have k2 := kk H locs ls hH hS hl
  refine va_zald hX.1 hX.2.1 hX.2.2.2.2.2.2.1.1 hH.1 o 2 (xO_get hO) rfl h1 hdg ?_
  rw [h2]
  exact k2
theorem x_aald (hX : Xx G md d mc ms X) {o t N j r : Nat} {a : Int} {g : Nat → Option Nat} {C : String} (hO : xO κ hs o (kQ t N g)) (ht : xtys[t]? = some (.object C)) (hj : a = (j : Int)) (hn : j < N) (hN : N ≤ 65536) (hv : g j = some r) (hdg : decode md.2.1 pc = .ok (.aaload, 1)) (kk : XW G X md Q k n (pc + 1) loc (xR r :: st) κ M hs) : XW G X md Q k n pc loc (xI a :: xR o :: st) κ M hs := by
  obtain ⟨p, l, e, R, s, m, args, below, meth, c⟩ := X
  intro H locs ls hH hS hl
  obtain ⟨h1, h2⟩ := x_in hj hn hN
  have k2 := kk H locs ls hH hS hl
  have h9 : (xty G)[t]? = some (G.2.1 t, .object C) := by
    match t, ht with
    | 3, ht => cases ht; rfl
    | 4, ht => cases ht; rfl
  refine va_aldq hX.1 hX.2.1 hX.2.2.2.2.2.2.1.1 hH.1 o t (xO_get hO) h9 h1 hdg ?_
  rw [h2, hv]
  exact k2
theorem x_alen (hX : Xx G md d mc ms X) {o t N : Nat} (hO : xO κ hs o (kA t N)) (ht : t < 3) (hdg : decode md.2.1 pc = .ok (.arraylength, 1)) (kk : XW G X md Q k n (pc + 1) loc (xI (N : Int) :: st) κ M hs) : XW G X md Q k n pc loc (xR o :: st) κ M hs := by
  obtain ⟨p, l, e, R, s, m, args, below, meth, c⟩ := X
  intro H locs ls hH hS hl
  have h9 : ∃ ty, (xty G)[t]? = some (G.2.1 t, ty) := by
    match t, ht with
    | 0, _ => exact ⟨_, rfl⟩
    | 1, _ => exact ⟨_, rfl⟩
    | 2, _ => exact ⟨_, rfl⟩
  obtain ⟨ty, h9⟩ := h9
  exact va_alen (v := Int32.ofInt (N : Int)) hX.1 hX.2.1 hX.2.2.2.2.2.2.1.1 hH.1 o t (xO_get hO) h9 (Int32.ofInt_eq_ofNat).symm hdg (kk H locs ls hH hS hl)
theorem x_ast {t N o j : Nat} {v : Int} {H H1 : Heap} (hH : xH G κ M hs H) (hO : xO κ hs o (kA t N)) (e : H1[G.2.2 + o]? = some ((vp_cell (G.2.1 t) (N, .inl (fun j => Int32.ofInt (M o j)))).setSlot j (.int (Int32.ofInt v)))) (z : H1.size = H.size) (oq : ∀ q : Nat, q ≠ G.2.2 + o → H1[q]? = H[q]?) : xH G κ (mput M o j v) hs H1 := by
  refine xH_put hH hO.1 (fun q h => ⟨rfl, mput_ne M j v h⟩) ?_ z oq
  rw [hO.2, mput_self]
  show H1[G.2.2 + o]? = some (vp_cell (G.2.1 t) (N, .inl (fun i => Int32.ofInt (up1 (M o) j v i))))
  rw [e, vp_cell_i, vp_cell_i, arrV_store]
  congr 2
  funext q
  by_cases hq : q = j
  · subst hq
    simp [updV, up1]
  · simp [updV, up1, hq]
theorem x_iast (hX : Xx G md d mc ms X) {o N j : Nat} {a v : Int} (hO : xO κ hs o (kA 0 N)) (hj : a = (j : Int)) (hn : j < N) (hN : N ≤ 65536) (hdg : decode md.2.1 pc = .ok (.iastore, 1)) (kk : XW G X md Q k n (pc + 1) loc st κ (mput M o j v) hs) : XW G X md Q k n pc loc (xI v :: xI a :: xR o :: st) κ M hs := by
  obtain ⟨p, l, e, R, s, m, args, below, meth, c⟩ := X
  intro H locs ls hH hS hl
  obtain ⟨h1, h2⟩ := x_in hj hn hN
  refine W.iast hX.1 hX.2.1 (x_ai hH hO) ((hX.2.2.2.2.2.2.1.1.2 0 _ rfl).1 N (fun j => .int (Int32.ofInt (M o j)))) (fun q => by cases q) (by show ¬ (_ < 0 ∨ (arrV _ _ _).slots.size ≤ _); rw [arrV_size]; exact h1) rfl rfl hdg fun H1 e z oq => ?_
  rw [h2] at e
  exact kk H1 _ ls (x_ast hH hO e z oq) (hS.put z oq (Nat.le_add_right _ _)) hl
theorem x_cast (hX : Xx G md d mc ms X) {o N j : Nat} {a v : Int} (hO : xO κ hs o (kA 1 N)) (hj : a = (j : Int)) (hn : j < N) (hN : N ≤ 65536) (hnr : narrow .char (.int (Int32.ofInt v)) = .int (Int32.ofInt v)) (hdg : decode md.2.1 pc = .ok (.castore, 1)) (kk : XW G X md Q k n (pc + 1) loc st κ (mput M o j v) hs) : XW G X md Q k n pc loc (xI v :: xI a :: xR o :: st) κ M hs := by
  obtain ⟨p, l, e, R, s, m, args, below, meth, c⟩ := X
  intro H locs ls hH hS hl
  obtain ⟨h1, h2⟩ := x_in hj hn hN
  refine W.cast hX.1 hX.2.1 (x_ai hH hO) ((hX.2.2.2.2.2.2.1.1.2 1 _ rfl).1 N (fun j => .int (Int32.ofInt (M o j)))) (fun q => by cases q) (by show ¬ (_ < 0 ∨ (arrV _ _ _).slots.size ≤ _); rw [arrV_size]; exact h1) rfl rfl hdg fun H1 e z oq => ?_
  rw [h2, hnr] at e
  exact kk H1 _ ls (x_ast hH hO e z oq) (hS.put z oq (Nat.le_add_right _ _)) hl
theorem x_zast (hX : Xx G md d mc ms X) {o N j : Nat} {a v : Int} (hO : xO κ hs o (kA 2 N)) (hj : a = (j : Int)) (hn : j < N) (hN : N ≤ 65536) (hnr : narrow .boolean (.int (Int32.ofInt v)) = .int (Int32.ofInt v)) (hdg : decode md.2.1 pc = .ok (.bastore, 1)) (kk : XW G X md Q k n (pc + 1) loc st κ (mput M o j v) hs) : XW G X md Q k n pc loc (xI v :: xI a :: xR o :: st) κ M hs := by
  obtain ⟨p, l, e, R, s, m, args, below, meth, c⟩ := X
  intro H locs ls hH hS hl
  obtain ⟨h1, h2⟩ := x_in hj hn hN
  refine W.zast hX.1 hX.2.1 (x_ai hH hO) ((hX.2.2.2.2.2.2.1.1.2 2 _ rfl).1 N (fun j => .int (Int32.ofInt (M o j)))) (fun q => by cases q) (by show ¬ (_ < 0 ∨ (arrV _ _ _).slots.size ≤ _); rw [arrV_size]; exact h1) rfl rfl hdg fun H1 e z oq => ?_
  rw [h2, hnr] at e
  exact kk H1 _ ls (x_ast hH hO e z oq) (hS.put z oq (Nat.le_add_right _ _)) hl
/-- a reference into an array: the kind changes -/
theorem x_aast (hX : Xx G md d mc ms X) {o t N j r ci : Nat} {fl : List XF} {a : Int} {g : Nat → Option Nat} {q : vw_C} (hO : xO κ hs o (kQ t N g)) (ht : xtys[t]? = some (.object q.1)) (hr : xO κ hs r (kO ci fl)) (hc : vwCl[ci]? = some q) (hj : a = (j : Int)) (hn : j < N) (hN : N ≤ 65536) (hdg : decode md.2.1 pc = .ok (.aastore, 1)) (kk : XW G X md Q k n (pc + 1) loc st (kset κ o (kQ t N (va_up g j (some r)))) M hs) : XW G X md Q k n pc loc (xR r :: xI a :: xR o :: st) κ M hs := by
  obtain ⟨p, l, e, R, s, m, args, below, meth, c⟩ := X
  intro H locs ls hH hS hl
  obtain ⟨h1, h2⟩ := x_in hj hn hN
  have hK := hX.2.2.2.2.2.2.1.1
  have h9 : (xty G)[t]? = some (G.2.1 t, .object q.1) := by
    match t, ht with
    | 3, ht => rw [← Option.some.inj ht]; rfl
    | 4, ht => rw [← Option.some.inj ht]; rfl
  obtain ⟨r', hr', cellV, g1, g2, g3, -⟩ := xH_at hH hr
  have hcls := (hK.1 ci q hc).2
  obtain ⟨kA', comp, k1, k2, k3, -⟩ := (hK.2 t _ h9).2
  have hcomp : comp = G.1.1 ci := Option.some.inj (k3.symm.trans hcls.1)
  subst hcomp
  obtain ⟨kC, hkC, -⟩ := id hcls.2
  refine W.aast hX.1 hX.2.1 (xH_at hH hO) (fun q h => by cases h) (fun h => by cases h) k1 k2 rfl hkC ⟨fun q => h1 (Or.inl q), by show _ < (arrV _ _ _).slots.size; rw [arrV_size, h2]; exact hn⟩ g1 (fun q h => by rw [g3] at h; cases h) (by rw [g2]; exact hkC) (by rw [g2]; exact va_assign hcls) rfl rfl hdg fun H1 e z oq => ?_
  rw [h2] at e
  refine kk H1 _ ls (xH_put hH hO.1 (fun q h => ⟨kset_ne κ _ h, rfl⟩) ?_ z oq) (hS.put z oq (Nat.le_add_right _ _)) hl
  rw [kset_self]
  show H1[G.2.2 + o]? = some (vp_cell (G.2.1 t) (N, .inr (.inr (.inr (.inr (fun i => (va_up g j (some r) i).map (fun o => G.2.2 + o)))))))
  rw [e]
  show some ((vp_cell (G.2.1 t) (N, .inr (.inr (.inr (.inr (fun i => (g i).map (fun o => G.2.2 + o))))))).setSlot j _) = _
  rw [vp_cell_q, vp_cell_q, arrV_store]
  congr 2
  funext q
  by_cases hq : q = j
  · subst hq
    simp [updV, va_up, va_rf]
  · simp [updV, va_up, hq]
-- makings
theorem xH_push {kd : XK} {f : Nat → Int} {H H1 : Heap} (hH : xH G κ M hs H) (e : va_at G.1 vwCl (G.2.2 + hs, xe G kd f) H1) (z : H1.size = H.size + 1) (o1 : ∀ q : Nat, q < H.size → H1[q]? = H[q]?) : xH G (kset κ hs kd) (mset M hs f) (hs + 1) H1 := by
  refine ⟨?_, by rw [z, hH.2]; omega⟩
  rw [← xw_push]
  exact (hH.1.kept (fun k x hx => o1 x.1 ((hH.1 k x hx).lt))).app (fun k x hx => by
    have hz : k < 1 := (List.getElem?_eq_some_iff.mp hx).1
    rw [show k = 0 by omega] at hx
    cases hx
    exact e)
theorem va_S.push {A : Nat → Prop} {H0 H H1 : Heap} {locs : List Loc} (h : va_S A H0 H locs) (z : H.size ≤ H1.size) (o1 : ∀ q : Nat, q < H.size → H1[q]? = H[q]?) : va_S A H0 H1 locs := ⟨Nat.le_trans h.1 z, fun q h1 h2 => (o1 q (Nat.lt_of_lt_of_le h1 h.1)).trans (h.2.1 q h1 h2), h.2.2⟩
theorem x_newa (hX : Xx G md d mc ms X) {t N : Nat} {atype : ArrayType} {ty : FieldType} {a : Int} (hw : Cond.arrayClass (newarray.typeOf atype) ∈ lw_g) (hty : newarray.typeOf atype = ty) (ht : (xty G)[t]? = some (G.2.1 t, ty)) (hdf : defaultValue ty = .int 0) (hprim : ∀ C, ty ≠ .object C) (ha : a = (N : Int)) (hN : N ≤ 65536) (hb8 : componentBytes ty ≤ 8) (hc : k + 1 ≤ mc) (hsl : n + N ≤ ms) (hdg : decode md.2.1 pc = .ok (.newarray atype, 2)) (kk : XW G X md Q (k + 1) (n + N) (pc + 2) loc (xR hs :: st) (kset κ hs (kA t N)) (mset M hs (fun _ => 0)) (hs + 1)) : XW G X md Q k n pc loc (xI a :: st) κ M hs := by
  obtain ⟨p, l, e, R, s, m, args, below, meth, c⟩ := X
  intro H locs ls hH hS hl
  obtain ⟨hexec, hb, -, -, hown, hts, hK, -, hR, -, -⟩ := hX
  subst hty
  subst ha
  have h2 : (Int32.ofInt (N : Int)).toNatClampNeg = N := by rw [x_cl (by omega)]; rfl
  refine va_newaK (h := H.size) hexec hb (hts _ hw) rfl hdg (n := Int32.ofInt (N : Int)) rfl (by rw [x_zero, x_lt (by omega)]; omega) h2 (by have := Nat.mul_le_mul hN hb8; omega) (by rw [hR]; exact hc) (by rw [hR]; exact hsl) rfl fun H1 cA e1 z1 o1 hAr hNm => ?_
  have hcA : cA = G.2.1 t := by
    have h5 := (hK.1.2 t _ ht).2
    revert hNm h5
    cases atype <;> (intro h6 h5; exact Option.some.inj (h6.symm.trans h5))
  have k3 := kk H1 locs ls (xH_push hH (by rw [← hH.2]; show H1[H.size]? = some (vp_cell _ _); rw [e1, hcA, hdf]; rfl) z1 o1) (hS.push (by omega) o1) hl
  rw [hH.2]
  exact k3
theorem x_anewa (hX : Xx G md d mc ms X) {t N idx : Nat} {C : String} {a : Int} (hw : Cond.classLink md.1.cls idx C ∈ lw_g) (hov : ∀ U, xKs G U → va_AO C U) (ht : (xty G)[t]? = some (G.2.1 t, .object C)) (ha : a = (N : Int)) (hN : N ≤ 65536) (hc : k + 1 ≤ mc) (hsl : n + N ≤ ms) (hdg : decode md.2.1 pc = .ok (.anewarray idx, 3)) (kk : XW G X md Q (k + 1) (n + N) (pc + 3) loc (xR hs :: st) (kset κ hs (kQ t N (fun _ => none))) (mset M hs (fun _ => 0)) (hs + 1)) : XW G X md Q k n pc loc (xI a :: st) κ M hs := by
  obtain ⟨p, l, e, R, s, m, args, below, meth, c⟩ := X
  intro H locs ls hH hS hl
  obtain ⟨hexec, hb, -, -, hown, hts, hK, -, hR, -, -⟩ := hX
  subst ha
  have h2 : (Int32.ofInt (N : Int)).toNatClampNeg = N := by rw [x_cl (by omega)]; rfl
  have hcc : k + 1 ≤ R.cells := by rw [hR]; exact hc
  have hss : n + N ≤ R.slots := by rw [hR]; exact hsl
  refine W.anew hexec hb hown (hts _ hw) (va_AO.use (hov s hK)) rfl hdg (n := Int32.ofInt (N : Int)) rfl (by rw [x_zero, x_lt (by omega)]; omega) (by rw [h2]; omega) hcc (by rw [h2]; exact hss) fun cA kA comp f1 f2 f3 f4 => ?_
  rw [h2]
  have hcA : cA = G.2.1 t := by
    obtain ⟨_, _, _, _, _, h5⟩ := (hK.1.2 t _ ht).2
    exact Option.some.inj (f1.symm.trans h5)
  subst hcA
  have k3 := kk (H.push { cls := G.2.1 t, slots := Array.replicate N .null, vm := .none }) locs ls (xH_push hH (by
    rw [← hH.2]
    show (H.push _)[H.size]? = some (arrV (G.2.1 t) N (fun _ => .null))
    rw [Array.getElem?_push_size, ← arrV_new]) (Array.size_push _) (fun q hq => by rw [Array.getElem?_push, if_neg (Nat.ne_of_lt hq)])) (hS.push (by rw [Array.size_push]; omega) (fun q hq => by rw [Array.getElem?_push, if_neg (Nat.ne_of_lt hq)])) hl
  rw [hH.2]
  exact k3
/-- a field's first value -/
def xf0 : FieldType → XF
  | .object _ => fN
  | .array _ => fN
  | _ => fI
theorem x_new (hX : Xx G md d mc ms X) {idx ci N : Nat} {fl : List XF} (hC : xLC md.1.cls idx ci N) (hfl : ∀ (tyf : Nat → FieldType) (C : String) (T : u_T), vwCl[ci]? = some (C, T, N) → (∀ j, j < N → parseFieldDescriptor (T j).2.2.1 = some (tyf j)) → ∀ j, j < N → defaultValue (tyf j) = vp_V (fl.mapIdx (fun _ x => xf 0 0 x)) j) (hz : ∀ o, fR o ∉ fl) (hc : k + 1 ≤ mc) (hsl : n + N ≤ ms) (hdg : decode md.2.1 pc = .ok (.new idx, 3)) (kk : XW G X md Q (k + 1) (n + N) (pc + 3) loc (xR hs :: st) (kset κ hs (kO ci fl)) (mset M hs (fun _ => 0)) (hs + 1)) : XW G X md Q k n pc loc st κ M hs := by
  obtain ⟨p, l, e, R, s, m, args, below, meth, c⟩ := X
  intro H locs ls hH hS hl
  obtain ⟨hexec, hb, -, -, hown, hts, hK, -, hR, -, -⟩ := hX
  obtain ⟨C, T, tyf, h1, h2, h3, h4, h5, h6⟩ := hC
  have hKn := hK.1.1 ci _ h1
  refine W.newcK (h := H.size) hexec hb hown (hts _ h4) (hts _ h5) (hts _ h6) rfl hdg (by rw [hR]; exact hc) (by rw [hR]; exact hsl) hKn.2.1 rfl fun H1 kC hkC e1 z1 o1 => ?_
  have hmap : fl.mapIdx (fun _ x => xf 0 0 x) = fl.mapIdx (fun _ x => xf G.2.2 0 x) := by
    apply List.ext_getElem?
    intro i
    rw [List.getElem?_mapIdx, List.getElem?_mapIdx]
    cases hi : fl[i]? with
    | none => rfl
    | some y =>
      match y, hi with
      | none, _ => rfl
      | some none, _ => rfl
      | some (some o), hi => exact absurd (List.mem_of_getElem? hi) (hz o)
  have k3 := kk H1 locs ls (xH_push hH (by
    rw [← hH.2]
    refine ⟨_, h1, (u_born tyf hts h2 hKn hkC e1 h3).to (fun j hj => ?_)⟩
    rw [hfl tyf C T h1 h3 j hj, hmap]) z1 o1) (hS.push (by omega) o1) hl
  rw [hH.2]
  exact k3
theorem x_objInit (hX : Xx G md d mc ms X) {idx o : Nat} (hw : Cond.methodLink md.1.cls idx objectInit ∈ lw_g) (hst : (st.map xcat).sum ≤ 8) (hd : 1 ≤ d) (hdg : decode md.2.1 pc = .ok (.invokespecial idx, 3)) (kk : XW G X md Q k n (pc + 3) loc st κ M hs) : XW G X md Q k n pc loc (xR o :: st) κ M hs := by
  obtain ⟨p, l, e, R, s, m, args, below, meth, c⟩ := X
  intro H locs ls hH hS hl
  obtain ⟨hexec, hb, hml, -, hown, hts, hK, -, hR, -, -⟩ := hX
  refine W.objInit hexec hb hown (hts _ hw) (hts _ tw_77) (hts _ tw_78) rfl (by rw [hml]; exact hl.1) rfl hdg (by rw [hR]; exact hd) ?_ (kk H locs ls hH hS hl)
  have e9 : ((st.map (xt G.2.2)).map fun v => v.category) = st.map xcat := by
    rw [List.map_map]
    exact List.map_congr_left (fun v _ => xcat_eq _ v)
  rw [hR]
  show 2 * 0 + ((st.map (xt G.2.2)).map fun v => v.category).sum + 12 ≤ 34 * d
  rw [e9]
  omega
end XR

