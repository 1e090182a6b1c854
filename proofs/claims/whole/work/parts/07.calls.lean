/-! calls, returns, and the JDK's own -/
theorem tw_minS : Cond.static Lib.Math.min.name ∈ lw_g := tw_289
theorem tw_maxS : Cond.static Lib.Math.max.name ∈ lw_g := tw_292
theorem tw_minC : Cond.code Lib.Math.min.name Lib.Math.min.code 2 (some .int) ∈ lw_g := lg_in (List.mem_of_getElem? (i := 290) (by decide +kernel)) rfl
theorem tw_maxC : Cond.code Lib.Math.max.name Lib.Math.max.code 2 (some .int) ∈ lw_g := lg_in (List.mem_of_getElem? (i := 293) (by decide +kernel)) rfl
theorem tw_math : Cond.initialized "java/lang/Math" ∈ lw_g := tw_67
theorem tw_sys : Cond.initialized "java/lang/System" ∈ lw_g := tw_66
theorem tw_acN : Cond.native arraycopyName ∈ lw_g := tw_242
theorem tw_acS : Cond.static arraycopyName ∈ lw_g := tw_241
section XR2
variable {G : XG} {md : XD} {d mc ms : Nat} {X : XX} {Q : State → Prop} {k n pc : Nat} {loc : List (Option XV)} {st rest : List XV} {κ : XKs} {M : XM} {hs : Nat}
theorem xgood {md' : XD} (h : Cond.code md'.1 md'.2.1 md'.2.2.1 md'.2.2.2 ∈ lw_g) : GoodIn lw_g (xws md') := fun w hw => by
  rcases List.mem_cons.mp hw with rfl | hw
  · exact ⟨h, good_of_word (lg_of h).2⟩
  · exact ⟨hw, good_of_word (lg_of hw).2⟩
theorem xcats (b : Nat) (l : List XV) : ((l.map (xt b)).map fun v => v.category) = l.map xcat := by
  rw [List.map_map]
  exact List.map_congr_left (fun v _ => xcat_eq b v)
theorem x_after {p : Program} {l : Launch} {e : Env} {R : Room} {s : State} {m : MethodId} {args : Array Value} {below : List Frame} {meth : Method} {c : Code} {H : Heap} {locs : List Loc} {ls : Array Slot} {mc' ms' : Nat} {st0 : List Value} {a : Array Value} {Post : XP}
    (hr : va_Run p l e R s m args below meth c H locs k n mc' ms' (F0 m pc ls st0) (rest.map (xt G.2.2)) (xQ G Post a) (fun q => G.2.2 ≤ q)) (hS : va_S (fun q => G.2.2 ≤ q) s.heap H locs)
    (kk : ∀ r κ' M' hs' (H1 : Heap) (locs1 : List Loc), Post r κ' M' hs' → xH G κ' M' hs' H1 → va_S (fun q => G.2.2 ≤ q) s.heap H1 locs1 → W p l e R s m args below meth c H1 locs1 (k + mc') (n + ms') Q (F0 m (pc + 3) ls ((r.toList ++ rest).map (xt G.2.2)))) : W p l e R s m args below meth c H locs k n Q (F0 m pc ls st0) := by
  intro T hT X
  obtain ⟨v, st₀, t, T', L, h0, X', hL, e1, e2, ⟨⟨r, κ', M', hs', hv, hp, hH'⟩, hF⟩, st⟩ := hr T hT X
  cases hv
  obtain ⟨hz, hk⟩ := hF
  rw [h0] at hz hk
  have k2 := kk r κ' M' hs' T'.heap (locs ++ L) hp (by rw [e1]; exact hH') ⟨Nat.le_trans hS.1 (by rw [e1]; exact hz), fun q h1 h2 => by rw [e1, hk q (Nat.lt_of_lt_of_le h1 hS.1) h2]; exact hS.2.1 q h1 h2, fun q hq => by
      rcases List.mem_append.mp hq with h | h
      · exact hS.2.2 q h
      · exact hL q h⟩
  obtain ⟨t2, a1, b1⟩ := k2 T' rfl X'
  refine ⟨t2, st t2 ?_, b1⟩
  have e9 : (Option.map (xt G.2.2) r).toList ++ rest.map (xt G.2.2) = (r.toList ++ rest).map (xt G.2.2) := by
    cases r <;> simp
  rw [e9]
  exact a1
theorem xB_to {H : Heap} {s U : State} (hH : xH G κ M hs H) (hK : xKs G s) (hb : G.2.2 ≤ H.size) (hU : U.heap = H) (hW : s.WarmedH U.vm) : xB G κ M hs U := ⟨by rw [hU]; exact hH, hK.warm hW, by rw [hU]; exact hb⟩
theorem x_callV (hX : Xx G md d mc ms X) {md' : XD} {d' mc' ms' idx nn ci o N : Nat} {As : List XV} {fl : List XF} {T : u_T} {Post : XP} (hC : XC G md' d' mc' ms' (xR o :: As) κ M hs Post) (hO : xO κ hs o (kO ci fl)) (hci : vwCl[ci]? = some (md'.1.cls, T, N)) (hL : xLV md.1.cls idx md'.1 nn) (hnn : As.length = nn) (hst : As.reverse ++ xR o :: rest = st) (hcat : (rest.map xcat).sum ≤ 8) (hd : d' + 1 ≤ d) (hc : k + mc' ≤ mc) (hsl : n + ms' ≤ ms) (hdg : decode md.2.1 pc = .ok (.invokevirtual idx, 3))
    (kk : ∀ r κ' M' hs', Post r κ' M' hs' → XW G X md Q (k + mc') (n + ms') (pc + 3) loc (r.toList ++ rest) κ' M' hs') : XW G X md Q k n pc loc st κ M hs := by
  obtain ⟨p, l, e, R, s, m, args, below, meth, c⟩ := X
  intro H locs ls hH hS hl
  subst hst
  obtain ⟨hexec, hb, hml, -, hown, hts, hK, -, hR, hbs, -⟩ := hX
  obtain ⟨⟨hcd, hnl⟩, hM⟩ := hC
  obtain ⟨h1, h2, h3, h4, h5, h6, h7⟩ := hL
  have cb : CallB R s args md.1.cls idx md'.1 md'.2.1 md'.2.2.1 md'.2.2.2 (xws md') (xroom d' mc' ms') mc' ms' nn := callB_of nn hts (xgood hcd) rfl rfl rfl (hts _ h4) (hts _ h1) ⟨h5, h6, h7⟩ ⟨by rw [hR]; exact hd, by rw [hR]; show 8 + (md'.2.2.1 + 11) + 34 * d' ≤ 34 * d; omega⟩
  have hbH : G.2.2 ≤ H.size := by rw [hH.2]; omega
  obtain ⟨r', hr', cellV, g1, g2, g3, -⟩ := xH_at hH hO
  refine x_after (rest := rest) (va_runV (As := As.map (xt G.2.2)) (b := G.2.2 + o) (C := md'.1.cls) ⟨hexec, hb, hml, hown, hts⟩ (hM l) ⟨cb, hts _ h2, hts _ h3⟩ ⟨xB_blind, ⟨cellV, g1, by rw [g3]; rfl, by rw [g2]; exact (hK.1.1 ci _ hci).2.1⟩, fun U hU hW => ⟨rfl, xB_to hH hK hbH hU hW⟩⟩ rfl (by rw [List.length_map]; exact hnn) hl.1 ?_ (lv_room (by rw [xcats]; exact hcat)) hdg ⟨by rw [hR]; exact hc, by rw [hR]; exact hsl⟩) hS (fun r κ' M' hs' H1 locs1 hp hH1 hS1 => kk r κ' M' hs' hp H1 locs1 ls hH1 hS1 hl)
  show List.map (xt G.2.2) (As.reverse ++ xR o :: rest) = _
  rw [List.map_append, List.map_reverse]
  rfl
theorem x_callS (hX : Xx G md d mc ms X) {md' : XD} {d' mc' ms' idx nn : Nat} {As : List XV} {Post : XP} (hC : XC G md' d' mc' ms' As κ M hs Post) (hL : xLS md.1.cls idx md'.1 nn) (hnn : As.length = nn) (hst : As.reverse ++ rest = st) (hcat : (rest.map xcat).sum ≤ 8) (hd : d' + 1 ≤ d) (hc : k + mc' ≤ mc) (hsl : n + ms' ≤ ms) (hdg : decode md.2.1 pc = .ok (.invokestatic idx, 3))
    (kk : ∀ r κ' M' hs', Post r κ' M' hs' → XW G X md Q (k + mc') (n + ms') (pc + 3) loc (r.toList ++ rest) κ' M' hs') : XW G X md Q k n pc loc st κ M hs := by
  obtain ⟨p, l, e, R, s, m, args, below, meth, c⟩ := X
  intro H locs ls hH hS hl
  subst hst
  obtain ⟨hexec, hb, hml, -, hown, hts, hK, -, hR, hbs, -⟩ := hX
  obtain ⟨⟨hcd, hnl⟩, hM⟩ := hC
  obtain ⟨h1, h2, h4, h5, h6, h7⟩ := hL
  have cb : CallB R s args md.1.cls idx md'.1 md'.2.1 md'.2.2.1 md'.2.2.2 (xws md') (xroom d' mc' ms') mc' ms' nn := callB_of nn hts (xgood hcd) rfl rfl rfl (hts _ h4) (hts _ h1) ⟨h5, h6, h7⟩ ⟨by rw [hR]; exact hd, by rw [hR]; show 8 + (md'.2.2.1 + 11) + 34 * d' ≤ 34 * d; omega⟩
  have hbH : G.2.2 ≤ H.size := by rw [hH.2]; omega
  refine x_after (rest := rest) (va_runS (As := As.map (xt G.2.2)) ⟨hexec, hb, hml, hown, hts⟩ (hM l) ⟨cb, hts _ h2⟩ ⟨xB_blind, fun U hU hW => ⟨rfl, xB_to hH hK hbH hU hW⟩⟩ rfl (by rw [List.length_map]; exact hnn) hl.1 ?_ (lv_room (by rw [xcats]; exact hcat)) hdg ⟨by rw [hR]; exact hc, by rw [hR]; exact hsl⟩) hS (fun r κ' M' hs' H1 locs1 hp hH1 hS1 => kk r κ' M' hs' hp H1 locs1 ls hH1 hS1 hl)
  show List.map (xt G.2.2) (As.reverse ++ rest) = _
  rw [List.map_append, List.map_reverse]
theorem x_callI (hX : Xx G md d mc ms X) {md' : XD} {d' mc' ms' idx nn o : Nat} {As : List XV} {Post : XP} (hC : XC G md' d' mc' ms' (xR o :: As) κ M hs Post) (hret : md'.2.2.2 = none) (hL : xLI md.1.cls idx md'.1 nn) (hnn : As.length = nn) (hst : As.reverse ++ xR o :: rest = st) (hcat : (rest.map xcat).sum ≤ 8) (hd : d' + 1 ≤ d) (hc : k + mc' ≤ mc) (hsl : n + ms' ≤ ms) (hdg : decode md.2.1 pc = .ok (.invokespecial idx, 3))
    (kk : ∀ r κ' M' hs', Post r κ' M' hs' → XW G X md Q (k + mc') (n + ms') (pc + 3) loc (r.toList ++ rest) κ' M' hs') : XW G X md Q k n pc loc st κ M hs := by
  obtain ⟨p, l, e, R, s, m, args, below, meth, c⟩ := X
  intro H locs ls hH hS hl
  subst hst
  obtain ⟨hexec, hb, hml, -, hown, hts, hK, -, hR, hbs, -⟩ := hX
  obtain ⟨⟨hcd, hnl⟩, hM⟩ := hC
  obtain ⟨h1, h2, h3, h4, h5, h6, h7⟩ := hL
  have cb : CallB R s args md.1.cls idx md'.1 md'.2.1 md'.2.2.1 none (xws md') (xroom d' mc' ms') mc' ms' nn := callB_of nn hts (xgood hcd) (by rw [← hret]; rfl) rfl rfl (hts _ h4) (hts _ h1) ⟨h5, h6, h7⟩ ⟨by rw [hR]; exact hd, by rw [hR]; show 8 + (md'.2.2.1 + 11) + 34 * d' ≤ 34 * d; omega⟩
  have hbH : G.2.2 ≤ H.size := by rw [hH.2]; omega
  refine x_after (rest := rest) (va_runI (As := As.map (xt G.2.2)) (b := G.2.2 + o) ⟨hexec, hb, hml, hown, hts⟩ (hM l) ⟨cb, h3, hts _ h2⟩ ⟨xB_blind, fun U hU hW => ⟨rfl, xB_to hH hK hbH hU hW⟩⟩ rfl (by rw [List.length_map]; exact hnn) hl.1 ?_ (lv_room (by rw [xcats]; exact hcat)) hdg ⟨by rw [hR]; exact hc, by rw [hR]; exact hsl⟩) hS (fun r κ' M' hs' H1 locs1 hp hH1 hS1 => kk r κ' M' hs' hp H1 locs1 ls hH1 hS1 hl)
  show List.map (xt G.2.2) (As.reverse ++ xR o :: rest) = _
  rw [List.map_append, List.map_reverse]
  rfl
theorem x_callN (hX : Xx G md d mc ms X) {md' : XD} {d' mc' ms' idx nn o : Nat} {As : List XV} {Post : XP} (hC : XC G md' d' mc' ms' (xR o :: As) κ M hs Post) (hret : md'.2.2.2 = none) (hL : xLN md.1.cls idx md'.1 nn) (hnn : As.length = nn) (hst : As.reverse ++ xR o :: rest = st) (hcat : (rest.map xcat).sum ≤ 8) (hd : d' + 1 ≤ d) (hc : k + mc' ≤ mc) (hsl : n + ms' ≤ ms) (hdg : decode md.2.1 pc = .ok (.invokespecial idx, 3))
    (kk : ∀ r κ' M' hs', Post r κ' M' hs' → XW G X md Q (k + mc') (n + ms') (pc + 3) loc (r.toList ++ rest) κ' M' hs') : XW G X md Q k n pc loc st κ M hs := by
  obtain ⟨p, l, e, R, s, m, args, below, meth, c⟩ := X
  intro H locs ls hH hS hl
  subst hst
  obtain ⟨hexec, hb, hml, -, hown, hts, hK, -, hR, hbs, -⟩ := hX
  obtain ⟨⟨hcd, hnl⟩, hM⟩ := hC
  obtain ⟨host, h1, h2, h3, h4, h5, h6, h7⟩ := hL
  have cb : va_CN R s args md.1.cls idx md'.1 host md'.2.1 md'.2.2.1 none (xws md') (xroom d' mc' ms') mc' ms' nn := va_cnB nn hts (xgood hcd) (by rw [← hret]; rfl) rfl rfl (hK.2.2.2 _ h1) (hts _ h4) ⟨h5, h6, h7⟩ ⟨by rw [hR]; exact hd, by rw [hR]; show 8 + (md'.2.2.1 + 11) + 34 * d' ≤ 34 * d; omega⟩
  have hbH : G.2.2 ≤ H.size := by rw [hH.2]; omega
  refine x_after (rest := rest) (va_runIN (As := As.map (xt G.2.2)) (b := G.2.2 + o) ⟨hexec, hb, hml, hown, hts⟩ (hM l) ⟨cb, h3, hts _ h2⟩ ⟨xB_blind, fun U hU hW => ⟨rfl, xB_to hH hK hbH hU hW⟩⟩ rfl (by rw [List.length_map]; exact hnn) hl.1 ?_ (lv_room (by rw [xcats]; exact hcat)) hdg ⟨by rw [hR]; exact hc, by rw [hR]; exact hsl⟩) hS (fun r κ' M' hs' H1 locs1 hp hH1 hS1 => kk r κ' M' hs' hp H1 locs1 ls hH1 hS1 hl)
  show List.map (xt G.2.2) (As.reverse ++ xR o :: rest) = _
  rw [List.map_append, List.map_reverse]
  rfl
-- returns
theorem xQ_to {Post : XP} {s t : State} {args : Array Value} {H : Heap} {locs : List Loc} {r : Option XV} (hp : Post r κ M hs) (hH : xH G κ M hs H) (hS : va_S (fun q => G.2.2 ≤ q) s.heap H locs) (ht : t.heap = H) : xQ G Post args s (.returned (Option.map (xt G.2.2) r)) t := ⟨⟨r, κ, M, hs, rfl, hp, by rw [ht]; exact hH⟩, hS.F ht⟩
theorem x_iret (hX : Xx G md d mc ms X) {a : Int} {Post : XP} (hr : md.2.2.2 = some .int) (hk : k ≤ mc) (hn : n ≤ ms) (hdg : decode md.2.1 pc = .ok (.ireturn, 1)) (hp : Post (some (xI a)) κ M hs) : XW G X md (xq G Post mc ms X) k n pc loc [xI a] κ M hs := by
  obtain ⟨p, l, e, R, s, m, args, below, meth, c⟩ := X
  intro H locs ls hH hS hl
  obtain ⟨hexec, hb, -, hret, -, -, -, hlocks, -, -, -⟩ := hX
  exact W.widen hk hn (W.iret (v := Int32.ofInt a) hexec hb (hret.trans hr) (fun t ht hW => xQ_to hp hH hS ht) hS.2.2 hdg hlocks)
theorem x_zret (hX : Xx G md d mc ms X) {a : Int} {ty : FieldType} {Post : XP} (hr : md.2.2.2 = some ty) (hnr : narrow ty (.int (Int32.ofInt a)) = .int (Int32.ofInt a)) (hk : k ≤ mc) (hn : n ≤ ms) (hdg : decode md.2.1 pc = .ok (.ireturn, 1)) (hp : Post (some (xI a)) κ M hs) : XW G X md (xq G Post mc ms X) k n pc loc [xI a] κ M hs := by
  obtain ⟨p, l, e, R, s, m, args, below, meth, c⟩ := X
  intro H locs ls hH hS hl
  obtain ⟨hexec, hb, -, hret, -, -, -, hlocks, -, -, -⟩ := hX
  exact W.widen hk hn (W.zret (v := Int32.ofInt a) hexec hb (hret.trans hr) hnr (fun t ht hW => xQ_to hp hH hS ht) hS.2.2 hdg hlocks)
theorem x_vret (hX : Xx G md d mc ms X) {Post : XP} (hr : md.2.2.2 = none) (hk : k ≤ mc) (hn : n ≤ ms) (hdg : decode md.2.1 pc = .ok (.return_, 1)) (hp : Post none κ M hs) : XW G X md (xq G Post mc ms X) k n pc loc [] κ M hs := by
  obtain ⟨p, l, e, R, s, m, args, below, meth, c⟩ := X
  intro H locs ls hH hS hl
  obtain ⟨hexec, hb, -, hret, -, -, -, hlocks, -, -, -⟩ := hX
  exact W.widen hk hn (W.vret hexec hb (hret.trans hr) (fun t ht hW => xQ_to hp hH hS ht) hS.2.2 hdg hlocks)
theorem x_aret (hX : Xx G md d mc ms X) {o : Nat} {C : String} {Post : XP} (hr : md.2.2.2 = some (.object C)) (hk : k ≤ mc) (hn : n ≤ ms) (hdg : decode md.2.1 pc = .ok (.areturn, 1)) (hp : Post (some (xR o)) κ M hs) : XW G X md (xq G Post mc ms X) k n pc loc [xR o] κ M hs := by
  obtain ⟨p, l, e, R, s, m, args, below, meth, c⟩ := X
  intro H locs ls hH hS hl
  obtain ⟨hexec, hb, -, hret, -, -, -, hlocks, -, -, -⟩ := hX
  exact W.widen hk hn (W.aret (v := .ref (G.2.2 + o)) hexec hb (hret.trans hr) (Or.inl ⟨C, rfl⟩) (Or.inr ⟨_, rfl⟩) (fun t ht hW => xQ_to hp hH hS ht) hS.2.2 hdg hlocks)
theorem xn_bool {a : Int} (h : a = 0 ∨ a = 1) : narrow .boolean (.int (Int32.ofInt a)) = .int (Int32.ofInt a) := by
  rcases h with rfl | rfl <;> rfl
theorem xf_bool {a : Int} (h : a = 0 ∨ a = 1) : fits .boolean (.int (Int32.ofInt a)) = true := by
  rcases h with rfl | rfl <;> rfl
theorem xn_char {a : Int} (h : 0 ≤ a ∧ a < 65536) : narrow .char (.int (Int32.ofInt a)) = .int (Int32.ofInt a) := by
  obtain ⟨j, rfl⟩ := Int.eq_ofNat_of_zero_le h.1
  have h2 := pk_charN (q := j) (by omega)
  rw [Int32.ofInt_eq_ofNat]
  exact h2.1
theorem xf_char {a : Int} (h : 0 ≤ a ∧ a < 65536) : fits .char (.int (Int32.ofInt a)) = true := by
  obtain ⟨j, rfl⟩ := Int.eq_ofNat_of_zero_le h.1
  have h2 := pk_charN (q := j) (by omega)
  rw [Int32.ofInt_eq_ofNat]
  exact h2.2
-- Math.min, Math.max
theorem x_min (hX : Xx G md d mc ms X) {a b v : Int} {idx : Nat} (hL : Cond.methodLink md.1.cls idx Lib.Math.min.name ∈ lw_g) (hr : (-2147483648 ≤ a ∧ a < 2147483648) ∧ -2147483648 ≤ b ∧ b < 2147483648) (hv : (if b < a then b else a) = v) (hd : 1 ≤ d) (hk : k ≤ mc) (hn : n ≤ ms) (hcat : (st.map xcat).sum ≤ 8) (hdg : decode md.2.1 pc = .ok (.invokestatic idx, 3)) (kk : XW G X md Q k n (pc + 3) loc (xI v :: st) κ M hs) : XW G X md Q k n pc loc (xI b :: xI a :: st) κ M hs := by
  obtain ⟨p, l, e, R, s, m, args, below, meth, c⟩ := X
  intro H locs ls hH hS hl
  obtain ⟨hexec, hb, hml, -, hown, hts, hK, -, hR, hbs, -⟩ := hX
  have k2 := kk H locs ls hH hS hl
  have e9 : xt G.2.2 (xI v) = .int (if Int32.ofInt b < Int32.ofInt a then Int32.ofInt b else Int32.ofInt a) := by
    rw [← hv]
    by_cases h : b < a
    · rw [if_pos h, if_pos ((x_lt ⟨hr.2, hr.1⟩).mpr h)]
      rfl
    · rw [if_neg h, if_neg (fun q => h ((x_lt ⟨hr.2, hr.1⟩).mp q))]
      rfl
  rw [List.map_cons, e9] at k2
  exact va_mmin hexec hb (hml.trans hl.1.symm) hown (hts _ hL) (hts _ tw_minS) (hts _ tw_math) (hts _ tw_minC) (by rw [hR]; exact hd) (by rw [hR, xcats]; show _ + 13 ≤ 34 * d; omega) (by rw [hR]; exact hk) (by rw [hR]; exact hn) hdg k2
theorem x_max (hX : Xx G md d mc ms X) {a b v : Int} {idx : Nat} (hL : Cond.methodLink md.1.cls idx Lib.Math.max.name ∈ lw_g) (hr : (-2147483648 ≤ a ∧ a < 2147483648) ∧ -2147483648 ≤ b ∧ b < 2147483648) (hv : (if a < b then b else a) = v) (hd : 1 ≤ d) (hk : k ≤ mc) (hn : n ≤ ms) (hcat : (st.map xcat).sum ≤ 8) (hdg : decode md.2.1 pc = .ok (.invokestatic idx, 3)) (kk : XW G X md Q k n (pc + 3) loc (xI v :: st) κ M hs) : XW G X md Q k n pc loc (xI b :: xI a :: st) κ M hs := by
  obtain ⟨p, l, e, R, s, m, args, below, meth, c⟩ := X
  intro H locs ls hH hS hl
  obtain ⟨hexec, hb, hml, -, hown, hts, hK, -, hR, hbs, -⟩ := hX
  have k2 := kk H locs ls hH hS hl
  have e9 : xt G.2.2 (xI v) = .int (if Int32.ofInt a < Int32.ofInt b then Int32.ofInt b else Int32.ofInt a) := by
    rw [← hv]
    by_cases h : a < b
    · rw [if_pos h, if_pos ((x_lt hr).mpr h)]
      rfl
    · rw [if_neg h, if_neg (fun q => h ((x_lt hr).mp q))]
      rfl
  rw [List.map_cons, e9] at k2
  exact va_mmax hexec hb (hml.trans hl.1.symm) hown (hts _ hL) (hts _ tw_maxS) (hts _ tw_math) (hts _ tw_maxC) (by rw [hR]; exact hd) (by rw [hR, xcats]; show _ + 13 ≤ 34 * d; omega) (by rw [hR]; exact hk) (by rw [hR]; exact hn) hdg k2
-- System.arraycopy of a whole row of ints onto another
def cpy0 (f g : Nat → Int) (N : Nat) : Nat → Int := fun j => if j < N then f j else g j
theorem x_copy (hX : Xx G md d mc ms X) {o o2 N N2 L idx : Nat} {z a b : Int} (hL : Cond.methodLink md.1.cls idx arraycopyName ∈ lw_g) (hO : xO κ hs o (kA 0 N)) (hO2 : xO κ hs o2 (kA 0 N2)) (ha : a = 0) (hb0 : b = 0) (hz : z = (L : Int)) (h1 : L ≤ N) (h2 : L ≤ N2) (hLs : L ≤ 65536) (hd : 1 ≤ d) (hcat : (st.map xcat).sum ≤ 8) (hdg : decode md.2.1 pc = .ok (.invokestatic idx, 3)) (kk : XW G X md Q k n (pc + 3) loc st κ (mset M o2 (cpy0 (M o) (M o2) L)) hs) : XW G X md Q k n pc loc (xI z :: xI b :: xR o2 :: xI a :: xR o :: st) κ M hs := by
  subst ha
  subst hb0
  subst hz
  obtain ⟨p, l, e, R, s, m, args, below, meth, c⟩ := X
  intro H locs ls hH hS hl
  obtain ⟨hexec, hb, hml, -, hown, hts, hK, -, hR, hbs, -⟩ := hX
  have hcl : (Int32.ofInt (L : Int)).toNatClampNeg = L := by rw [x_cl (by omega)]; rfl
  have hti : (Int32.ofInt (L : Int)).toInt = (L : Int) := x_rng (by omega)
  have hcl0 : (Int32.ofInt 0).toNatClampNeg = 0 := rfl
  intro T hT X
  have hc0 := x_ai hH hO
  have hc1 := x_ai hH hO2
  have hAr : ArrOfT s (G.2.1 0) .int := (hK.1.2 0 (G.2.1 0, .int) rfl).1
  obtain ⟨-, k0, hk0, cm0, hkk0⟩ := hAr N (fun j => .int (Int32.ofInt (M o j)))
  obtain ⟨-, k1, hk1, cm1, hkk1⟩ := hAr N2 (fun j => .int (Int32.ofInt (M o2 j)))
  obtain ⟨vm', X', step⟩ := X.arraycopy hexec hown (hts _ hL) (hts _ tw_acN) (hts _ tw_acS) (hts _ tw_sys) (src := G.2.2 + o) (dst := G.2.2 + o2) (cs := vp_cell (G.2.1 0) (N, .inl (fun j => Int32.ofInt (M o j)))) (cd := vp_cell (G.2.1 0) (N2, .inl (fun j => Int32.ofInt (M o2 j)))) (srcPos := Int32.ofInt 0) (destPos := Int32.ofInt 0) (n := Int32.ofInt (L : Int)) (by rw [hT]; exact hc0) (by rw [hT]; exact hc1)
    (fun _ h => by cases h) (fun _ h => by cases h) (fun h => by cases h) (fun h => by cases h) hk0 hk1 hkk0 hkk1 (by simp [refKind]) (by decide) (by decide) (by rw [x_zero, x_lt (by omega)]; omega)
    (by rw [hti]; show ¬ (0 : Int) + _ > ((arrV _ N _).slots.size : Int); rw [arrV_size]; omega)
    (by rw [hti]; show ¬ (0 : Int) + _ > ((arrV _ N2 _).slots.size : Int); rw [arrV_size]; omega)
    (fun vm₁ _ i hi => by
      rw [hcl] at hi
      have e : (vp_cell (G.2.1 0) (N, .inl (fun j => Int32.ofInt (M o j)))).slots.getD ((Int32.ofInt 0).toNatClampNeg + i) .null = .int (Int32.ofInt (M o (0 + i))) := by
        show (arrV _ N (fun j => .int (Int32.ofInt (M o j)))).slots.getD (0 + i) _ = _
        rw [Array.getD_eq_getD_getElem?, arrV_read _ _ (by omega)]
        rfl
      refine ⟨?_, ?_⟩
      · rw [e]
        rfl
      · rw [e]
        exact trivial)
    (g := F0 m pc ls (.int (Int32.ofInt (L : Int)) :: .int (Int32.ofInt 0) :: .ref (G.2.2 + o2) :: .int (Int32.ofInt 0) :: .ref (G.2.2 + o) :: st.map (xt G.2.2))) rfl (by rw [hml]; exact hl.1) (rest := st.map (xt G.2.2)) rfl (by rw [hb]; exact hdg) (by rw [hR]; exact hd) (by
      rw [hR]
      show 2 * 0 + ((st.map (xt G.2.2)).map fun v => v.category).sum + (7 + 11) ≤ 34 * d
      rw [xcats]
      omega)
  have e1 : copied (vp_cell (G.2.1 0) (N, .inl (fun j => Int32.ofInt (M o j)))) (vp_cell (G.2.1 0) (N2, .inl (fun j => Int32.ofInt (M o2 j)))) (Int32.ofInt 0) (Int32.ofInt 0) (Int32.ofInt (L : Int)) = vp_cell (G.2.1 0) (N2, .inl (fun j => Int32.ofInt (cpy0 (M o) (M o2) L j))) := by
    have e2 := va_copied (fun z => Value.int z) (G.2.1 0) (G.2.1 0) (n0 := N) (n1 := N2) (sp := 0) (dp := 0) (n := L) (fun j => Int32.ofInt (M o j)) (fun j => Int32.ofInt (M o2 j)) (by omega)
    rw [← hcl] at e2
    refine Eq.trans e2 ?_
    rw [hcl]
    have e3 : (fun j => Value.int (va_cpy (fun j => Int32.ofInt (M o j)) (fun j => Int32.ofInt (M o2 j)) 0 0 L j)) = (fun j => Value.int (Int32.ofInt (cpy0 (M o) (M o2) L j))) := ?_
    · exact congrArg (arrV (G.2.1 0) N2) e3
    funext j
    simp only [va_cpy, cpy0]
    by_cases hj : j < L
    · rw [if_pos ⟨Nat.zero_le _, by omega⟩, if_pos hj]
      simp
    · rw [if_neg (by omega), if_neg hj]
  rw [e1] at X' step
  have hlt : G.2.2 + o2 < H.size := (Array.getElem?_eq_some_iff.mp hc1).1
  have hheap : ((T.setVm vm').setCell (G.2.2 + o2) (vp_cell (G.2.1 0) (N2, .inl (fun j => Int32.ofInt (cpy0 (M o) (M o2) L j))))).heap = H.setIfInBounds (G.2.2 + o2) (vp_cell (G.2.1 0) (N2, .inl (fun j => Int32.ofInt (cpy0 (M o) (M o2) L j)))) := by rw [← hT]; rfl
  have oq : ∀ q : Nat, q ≠ G.2.2 + o2 → (H.setIfInBounds (G.2.2 + o2) (vp_cell (G.2.1 0) (N2, .inl (fun j => Int32.ofInt (cpy0 (M o) (M o2) L j)))))[q]? = H[q]? := fun q hq => by simp [Array.getElem?_setIfInBounds, Ne.symm hq]
  obtain ⟨t, a1, b1⟩ := kk _ _ ls (xH_put (κ' := κ) (M' := mset M o2 (cpy0 (M o) (M o2) L)) hH hO2.1 (fun q h => ⟨rfl, mset_ne M _ h⟩) (by
      rw [hO2.2, mset_self]
      show (H.setIfInBounds (G.2.2 + o2) _)[G.2.2 + o2]? = some _
      simp [Array.getElem?_setIfInBounds, hlt]) (by simp) oq) ⟨by simp; exact hS.1, fun q g1 g2 => by
      rw [oq q (fun e => g2 (by rw [e]; exact Nat.le_add_right _ _))]
      exact hS.2.1 q g1 g2, fun q hq => by
      rcases List.mem_append.mp hq with h | h
      · exact hS.2.2 q h
      · obtain ⟨z, -, hz⟩ := List.mem_map.mp h
        rw [← hz]
        exact Nat.le_add_right _ _⟩ hl _ hheap X'
  exact ⟨t, step t a1, b1⟩
end XR2
