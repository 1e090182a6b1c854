/-! the law -/
def XSc (G : XG) (b L : Nat) (xs : Nat → Int32) : XX → Prop
  | (_, _, _, _, s, _, _, _, _, _) => va_X b L xs s s.heap ∧ b < s.heap.size ∧ b < G.2.2
section XR6
variable {G : XG} {md : XD} {d mc ms : Nat} {X : XX} {Q : State → Prop} {k n pc : Nat} {loc : List (Option XV)} {st : List XV} {κ : XKs} {M : XM} {hs : Nat}
theorem x_sld (hX : Xx G md d mc ms X) {b L j : Nat} {xs : Nat → Int32} (hZ : XSc G b L xs X) {a : Int} (hj : a = (j : Int)) (hn : j < L) (hL : L ≤ 2560) (hdg : decode md.2.1 pc = .ok (.iaload, 1)) (kk : XW G X md Q k n (pc + 1) loc (xI (xs j).toInt :: st) κ M hs) : XW G X md Q k n pc loc (xI a :: xV (.ref b) :: st) κ M hs := by
  obtain ⟨p, l, e, R, s, m, args, below, meth, c⟩ := X
  intro H locs ls hH hS hl
  have k2 := kk H locs ls hH hS hl
  obtain ⟨h1, h2⟩ := x_in hj hn (by omega)
  have e9 : xt G.2.2 (xI (xs j).toInt) = .int (xs (Int32.ofInt a).toNatClampNeg) := by
    rw [h2]
    exact congrArg Value.int (u_toInt (xs j))
  rw [List.map_cons, e9] at k2
  exact va_sld hX.1 hX.2.1 hZ.1 hZ.2.1 (Nat.not_le.mpr hZ.2.2) hS h1 hdg k2
theorem x_slen (hX : Xx G md d mc ms X) {b L : Nat} {xs : Nat → Int32} (hZ : XSc G b L xs X) (hdg : decode md.2.1 pc = .ok (.arraylength, 1)) (kk : XW G X md Q k n (pc + 1) loc (xI (L : Int) :: st) κ M hs) : XW G X md Q k n pc loc (xV (.ref b) :: st) κ M hs := by
  obtain ⟨p, l, e, R, s, m, args, below, meth, c⟩ := X
  intro H locs ls hH hS hl
  have k2 := kk H locs ls hH hS hl
  have e9 : xt G.2.2 (xI (L : Int)) = .int (Int32.ofNat L) := congrArg Value.int (Int32.ofInt_eq_ofNat)
  rw [List.map_cons, e9] at k2
  exact va_slen hX.1 hX.2.1 hZ.1 hZ.2.1 (Nat.not_le.mpr hZ.2.2) hS hdg k2
theorem x_icmp_same (hX : Xx G md d mc ms X) {a : Int} {off : Int} {tgt : Nat} (hdg : decode md.2.1 pc = .ok (.if_icmp .eq off, 3)) (ht : (pc : Int) + off = (tgt : Int)) (kt : XW G X md Q k n tgt loc st κ M hs) : XW G X md Q k n pc loc (xI a :: xI a :: st) κ M hs := by
  obtain ⟨p, l, e, R, s, m, args, below, meth, c⟩ := X
  intro H locs ls hH hS hl
  exact lv_icmp_eq hX.1 hX.2.1 hdg ht (fun _ => kt H locs ls hH hS hl) (fun h => absurd rfl h)
end XR6
theorem inr_i (x : Int32) : InR x.toInt := by
  have h1 := Int32.le_toInt x
  have h2 := Int32.toInt_lt x
  unfold InR
  omega
theorem RM.cells {M M' : XM} {S : Sx} (h : RM M S) (hq : ∀ q, 140 ≤ q → q < 151 → M' q = M q) : RM M' S := by
  have e0 := hq 140 (by decide) (by decide)
  exact ⟨by rw [hq 141 (by decide) (by decide)]; exact h.1, h.2.1.congr (by rw [e0]) (hq 142 (by decide) (by decide)), h.2.2.1.congr (hq 144 (by decide) (by decide)) (hq 143 (by decide) (by decide)), h.2.2.2.congr (by rw [e0]) (hq 145 (by decide) (by decide))⟩
theorem Chg.same {M M' : XM} (h : Chg PA M M') : Same 140 151 M M' := fun q hq => h.cell (fun f => by unfold PA; omega)
theorem MC.nil {f : Nat → Int} {b : Nat} (h : f b = 0) : MC f b [] := ⟨h, fun r hr => absurd hr (Nat.not_lt_zero _), ⟨Nat.zero_le _, Nat.zero_le _⟩, fun v hv => by cases hv⟩
theorem RM.zero {M : XM} (h : ∀ q, 140 ≤ q → q < 151 → ∀ j, M q j = 0) : RM M SX0 :=
  ⟨fun c hc => MC.nil (h 141 (by decide) (by decide) _), ⟨h 140 (by decide) (by decide) 2, Nat.zero_le _, fun i hi => absurd hi (Nat.not_lt_zero _)⟩, fun j hj => Or.inl ⟨h 144 (by decide) (by decide) j, rfl⟩, h 140 (by decide) (by decide) 6, Nat.zero_le _, fun i hi => absurd hi (Nat.not_lt_zero _), fun c hc => by cases hc⟩
/-- behind a call, at the loop's step -/
def LNx (G : XG) (X : XX) (Q : State → Prop) (b q : Nat) : Prop := ∀ (k n : Nat) (S : Sx) (κ : XKs) (M : XM) (hs : Nat), k ≤ 152 + q → n ≤ 9598 + 10 * q → KX κ hs → KM κ hs → RX M S → RM M S → 151 ≤ hs → XW G X mL_law Q k n 1003 [some (xV (.ref b)), some (xR 0), some (xR 140), some (xI ((5 * q : Nat) : Int))] [] κ M hs
set_option maxHeartbeats 4000000 in
set_option maxRecDepth 100000 in
theorem law_c0 {G : XG} {X : XX} {Q : State → Prop} {b L q : Nat} {xs : Nat → Int32} (hX : Xx G mL_law 10 600000 7302250 X) (hZ : XSc G b L xs X) (hL : L ≤ 2560) (hq : 5 * q + 5 ≤ L) (hnx : LNx G X Q b q) {S : Sx} {κ : XKs} {M : XM} {hs : Nat} (hK : KX κ hs) (hKM : KM κ hs) (hR : RX M S) (hRM : RM M S) (hh : 151 ≤ hs) : XW G X mL_law Q (151 + q) (9588 + 10 * q) 148 [some (xV (.ref b)), some (xR 0), some (xR 140), some (xI ((5 * q : Nat) : Int))] [] κ M hs := by
  refine x_aload_n (pc := 148) hX rfl rfl dL_law_148 ?_
  refine x_aloadV_n (pc := 149) hX rfl rfl dL_law_149 ?_
  refine x_iload_n (pc := 150) hX rfl rfl dL_law_150 ?_
  refine x_iconst (pc := 151) hX dL_law_151 ?_
  refine x_iadd (pc := 152) hX dL_law_152 rfl ?_
  refine x_sld (pc := 153) (j := 5 * q + 1) hX hZ (by omega) (by omega) hL dL_law_153 ?_
  refine x_aloadV_n (pc := 154) hX rfl rfl dL_law_154 ?_
  refine x_iload_n (pc := 155) hX rfl rfl dL_law_155 ?_
  refine x_iconst (pc := 156) hX dL_law_156 ?_
  refine x_iadd (pc := 157) hX dL_law_157 rfl ?_
  refine x_sld (pc := 158) (j := 5 * q + 2) hX hZ (by omega) (by omega) hL dL_law_158 ?_
  refine x_aloadV_n (pc := 159) hX rfl rfl dL_law_159 ?_
  refine x_iload_n (pc := 160) hX rfl rfl dL_law_160 ?_
  refine x_iconst (pc := 161) hX dL_law_161 ?_
  refine x_iadd (pc := 162) hX dL_law_162 rfl ?_
  refine x_sld (pc := 163) (j := 5 * q + 3) hX hZ (by omega) (by omega) hL dL_law_163 ?_
  refine x_callV (pc := 164) hX (tX6_append hK hR (xs (5 * q + 1)).toInt (xs (5 * q + 2)).toInt (xs (5 * q + 3)).toInt (inr_i (xs (5 * q + 1))) (inr_i (xs (5 * q + 2))) (inr_i (xs (5 * q + 3))) rfl rfl hh) hK.1 rfl lk_L_13 rfl rfl (Nat.le_of_ble_eq_true rfl) (by decide) (by omega) (by omega) dL_law_164 (fun r κ' M' hs' hp => ?_)
  obtain ⟨rfl, hκ1, hh1, hR1, hM1⟩ := hp
  have hRM1 := hRM.cells (fun q h1 h2 => hM1 q h1 (by omega))
  have hK := hK.mono hκ1 hh1
  have hKM := hKM.mono hκ1 hh1
  have hh := Nat.le_trans hh hh1
  refine x_aload_n (pc := 167) hX rfl rfl dL_law_167 ?_
  refine x_aloadV_n (pc := 168) hX rfl rfl dL_law_168 ?_
  refine x_iload_n (pc := 169) hX rfl rfl dL_law_169 ?_
  refine x_iconst (pc := 170) hX dL_law_170 ?_
  refine x_iadd (pc := 171) hX dL_law_171 rfl ?_
  refine x_sld (pc := 172) (j := 5 * q + 1) hX hZ (by omega) (by omega) hL dL_law_172 ?_
  refine x_aloadV_n (pc := 173) hX rfl rfl dL_law_173 ?_
  refine x_iload_n (pc := 174) hX rfl rfl dL_law_174 ?_
  refine x_iconst (pc := 175) hX dL_law_175 ?_
  refine x_iadd (pc := 176) hX dL_law_176 rfl ?_
  refine x_sld (pc := 177) (j := 5 * q + 2) hX hZ (by omega) (by omega) hL dL_law_177 ?_
  refine x_aloadV_n (pc := 178) hX rfl rfl dL_law_178 ?_
  refine x_iload_n (pc := 179) hX rfl rfl dL_law_179 ?_
  refine x_iconst (pc := 180) hX dL_law_180 ?_
  refine x_iadd (pc := 181) hX dL_law_181 rfl ?_
  refine x_sld (pc := 182) (j := 5 * q + 3) hX hZ (by omega) (by omega) hL dL_law_182 ?_
  refine x_cV_I (pc := 183) hX (tX7_append hKM hRM1 (xs (5 * q + 1)).toInt (xs (5 * q + 2)).toInt (xs (5 * q + 3)).toInt (inr_i (xs (5 * q + 1))) (inr_i (xs (5 * q + 2))) (inr_i (xs (5 * q + 3))) rfl rfl) hKM.1 rfl lk_L_17 rfl rfl (Nat.le_of_ble_eq_true rfl) (by decide) (by omega) (by omega) dL_law_183 (fun x M2 hp => ?_)
  obtain ⟨rfl, hRM2, hq2⟩ := hp
  have hR2 := hR1.same hq2.same (Or.inr (Or.inr (Or.inr (Nat.le_refl _))))
  refine x_icmp_same (pc := 186) (tgt := 1003) hX dL_law_186 (by decide) ?_
  exact hnx _ _ _ _ _ _ (by omega) (by omega) hK hKM hR2 hRM2 hh

set_option maxHeartbeats 4000000 in
set_option maxRecDepth 100000 in
theorem law_c1 {G : XG} {X : XX} {Q : State → Prop} {b L q : Nat} {xs : Nat → Int32} (hX : Xx G mL_law 10 600000 7302250 X) (hZ : XSc G b L xs X) (hL : L ≤ 2560) (hq : 5 * q + 5 ≤ L) (hnx : LNx G X Q b q) {S : Sx} {κ : XKs} {M : XM} {hs : Nat} (hK : KX κ hs) (hKM : KM κ hs) (hR : RX M S) (hRM : RM M S) (hh : 151 ≤ hs) : XW G X mL_law Q (151 + q) (9588 + 10 * q) 191 [some (xV (.ref b)), some (xR 0), some (xR 140), some (xI ((5 * q : Nat) : Int))] [] κ M hs := by
  refine x_aload_n (pc := 191) hX rfl rfl dL_law_191 ?_
  refine x_aloadV_n (pc := 192) hX rfl rfl dL_law_192 ?_
  refine x_iload_n (pc := 193) hX rfl rfl dL_law_193 ?_
  refine x_iconst (pc := 194) hX dL_law_194 ?_
  refine x_iadd (pc := 195) hX dL_law_195 rfl ?_
  refine x_sld (pc := 196) (j := 5 * q + 1) hX hZ (by omega) (by omega) hL dL_law_196 ?_
  refine x_aloadV_n (pc := 197) hX rfl rfl dL_law_197 ?_
  refine x_iload_n (pc := 198) hX rfl rfl dL_law_198 ?_
  refine x_iconst (pc := 199) hX dL_law_199 ?_
  refine x_iadd (pc := 200) hX dL_law_200 rfl ?_
  refine x_sld (pc := 201) (j := 5 * q + 2) hX hZ (by omega) (by omega) hL dL_law_201 ?_
  refine x_aloadV_n (pc := 202) hX rfl rfl dL_law_202 ?_
  refine x_iload_n (pc := 203) hX rfl rfl dL_law_203 ?_
  refine x_iconst (pc := 204) hX dL_law_204 ?_
  refine x_iadd (pc := 205) hX dL_law_205 rfl ?_
  refine x_sld (pc := 206) (j := 5 * q + 3) hX hZ (by omega) (by omega) hL dL_law_206 ?_
  refine x_aloadV_n (pc := 207) hX rfl rfl dL_law_207 ?_
  refine x_iload_n (pc := 208) hX rfl rfl dL_law_208 ?_
  refine x_iconst (pc := 209) hX dL_law_209 ?_
  refine x_iadd (pc := 210) hX dL_law_210 rfl ?_
  refine x_sld (pc := 211) (j := 5 * q + 4) hX hZ (by omega) (by omega) hL dL_law_211 ?_
  refine x_callV (pc := 212) hX (tX6_insert hK hR (xs (5 * q + 1)).toInt (xs (5 * q + 2)).toInt (xs (5 * q + 3)).toInt (xs (5 * q + 4)).toInt (inr_i (xs (5 * q + 1))) (inr_i (xs (5 * q + 2))) (inr_i (xs (5 * q + 3))) (inr_i (xs (5 * q + 4))) rfl rfl hh) hK.1 rfl lk_L_18 rfl rfl (Nat.le_of_ble_eq_true rfl) (by decide) (by omega) (by omega) dL_law_212 (fun r κ' M' hs' hp => ?_)
  obtain ⟨rfl, hκ1, hh1, hR1, hM1⟩ := hp
  have hRM1 := hRM.cells (fun q h1 h2 => hM1 q h1 (by omega))
  have hK := hK.mono hκ1 hh1
  have hKM := hKM.mono hκ1 hh1
  have hh := Nat.le_trans hh hh1
  refine x_aload_n (pc := 215) hX rfl rfl dL_law_215 ?_
  refine x_aloadV_n (pc := 216) hX rfl rfl dL_law_216 ?_
  refine x_iload_n (pc := 217) hX rfl rfl dL_law_217 ?_
  refine x_iconst (pc := 218) hX dL_law_218 ?_
  refine x_iadd (pc := 219) hX dL_law_219 rfl ?_
  refine x_sld (pc := 220) (j := 5 * q + 1) hX hZ (by omega) (by omega) hL dL_law_220 ?_
  refine x_aloadV_n (pc := 221) hX rfl rfl dL_law_221 ?_
  refine x_iload_n (pc := 222) hX rfl rfl dL_law_222 ?_
  refine x_iconst (pc := 223) hX dL_law_223 ?_
  refine x_iadd (pc := 224) hX dL_law_224 rfl ?_
  refine x_sld (pc := 225) (j := 5 * q + 2) hX hZ (by omega) (by omega) hL dL_law_225 ?_
  refine x_aloadV_n (pc := 226) hX rfl rfl dL_law_226 ?_
  refine x_iload_n (pc := 227) hX rfl rfl dL_law_227 ?_
  refine x_iconst (pc := 228) hX dL_law_228 ?_
  refine x_iadd (pc := 229) hX dL_law_229 rfl ?_
  refine x_sld (pc := 230) (j := 5 * q + 3) hX hZ (by omega) (by omega) hL dL_law_230 ?_
  refine x_aloadV_n (pc := 231) hX rfl rfl dL_law_231 ?_
  refine x_iload_n (pc := 232) hX rfl rfl dL_law_232 ?_
  refine x_iconst (pc := 233) hX dL_law_233 ?_
  refine x_iadd (pc := 234) hX dL_law_234 rfl ?_
  refine x_sld (pc := 235) (j := 5 * q + 4) hX hZ (by omega) (by omega) hL dL_law_235 ?_
  refine x_cV_I (pc := 236) hX (tX7_insert hKM hRM1 (xs (5 * q + 1)).toInt (xs (5 * q + 2)).toInt (xs (5 * q + 3)).toInt (xs (5 * q + 4)).toInt (inr_i (xs (5 * q + 1))) (inr_i (xs (5 * q + 2))) (inr_i (xs (5 * q + 3))) (inr_i (xs (5 * q + 4))) rfl rfl) hKM.1 rfl lk_L_22 rfl rfl (Nat.le_of_ble_eq_true rfl) (by decide) (by omega) (by omega) dL_law_236 (fun x M2 hp => ?_)
  obtain ⟨rfl, hRM2, hq2⟩ := hp
  have hR2 := hR1.same hq2.same (Or.inr (Or.inr (Or.inr (Nat.le_refl _))))
  refine x_icmp_same (pc := 239) (tgt := 1003) hX dL_law_239 (by decide) ?_
  exact hnx _ _ _ _ _ _ (by omega) (by omega) hK hKM hR2 hRM2 hh

set_option maxHeartbeats 4000000 in
set_option maxRecDepth 100000 in
theorem law_c2 {G : XG} {X : XX} {Q : State → Prop} {b L q : Nat} {xs : Nat → Int32} (hX : Xx G mL_law 10 600000 7302250 X) (hZ : XSc G b L xs X) (hL : L ≤ 2560) (hq : 5 * q + 5 ≤ L) (hnx : LNx G X Q b q) {S : Sx} {κ : XKs} {M : XM} {hs : Nat} (hK : KX κ hs) (hKM : KM κ hs) (hR : RX M S) (hRM : RM M S) (hh : 151 ≤ hs) : XW G X mL_law Q (151 + q) (9588 + 10 * q) 244 [some (xV (.ref b)), some (xR 0), some (xR 140), some (xI ((5 * q : Nat) : Int))] [] κ M hs := by
  refine x_aload_n (pc := 244) hX rfl rfl dL_law_244 ?_
  refine x_aloadV_n (pc := 245) hX rfl rfl dL_law_245 ?_
  refine x_iload_n (pc := 246) hX rfl rfl dL_law_246 ?_
  refine x_iconst (pc := 247) hX dL_law_247 ?_
  refine x_iadd (pc := 248) hX dL_law_248 rfl ?_
  refine x_sld (pc := 249) (j := 5 * q + 1) hX hZ (by omega) (by omega) hL dL_law_249 ?_
  refine x_aloadV_n (pc := 250) hX rfl rfl dL_law_250 ?_
  refine x_iload_n (pc := 251) hX rfl rfl dL_law_251 ?_
  refine x_iconst (pc := 252) hX dL_law_252 ?_
  refine x_iadd (pc := 253) hX dL_law_253 rfl ?_
  refine x_sld (pc := 254) (j := 5 * q + 2) hX hZ (by omega) (by omega) hL dL_law_254 ?_
  refine x_aloadV_n (pc := 255) hX rfl rfl dL_law_255 ?_
  refine x_iload_n (pc := 256) hX rfl rfl dL_law_256 ?_
  refine x_iconst (pc := 257) hX dL_law_257 ?_
  refine x_iadd (pc := 258) hX dL_law_258 rfl ?_
  refine x_sld (pc := 259) (j := 5 * q + 3) hX hZ (by omega) (by omega) hL dL_law_259 ?_
  refine x_callV (pc := 260) hX (tX6_remove hK hR (xs (5 * q + 1)).toInt (xs (5 * q + 2)).toInt (xs (5 * q + 3)).toInt (inr_i (xs (5 * q + 1))) (inr_i (xs (5 * q + 2))) (inr_i (xs (5 * q + 3))) rfl rfl hh) hK.1 rfl lk_L_23 rfl rfl (Nat.le_of_ble_eq_true rfl) (by decide) (by omega) (by omega) dL_law_260 (fun r κ' M' hs' hp => ?_)
  obtain ⟨rfl, hκ1, hh1, hR1, hM1⟩ := hp
  have hRM1 := hRM.cells (fun q h1 h2 => hM1 q h1 (by omega))
  have hK := hK.mono hκ1 hh1
  have hKM := hKM.mono hκ1 hh1
  have hh := Nat.le_trans hh hh1
  refine x_aload_n (pc := 263) hX rfl rfl dL_law_263 ?_
  refine x_aloadV_n (pc := 264) hX rfl rfl dL_law_264 ?_
  refine x_iload_n (pc := 265) hX rfl rfl dL_law_265 ?_
  refine x_iconst (pc := 266) hX dL_law_266 ?_
  refine x_iadd (pc := 267) hX dL_law_267 rfl ?_
  refine x_sld (pc := 268) (j := 5 * q + 1) hX hZ (by omega) (by omega) hL dL_law_268 ?_
  refine x_aloadV_n (pc := 269) hX rfl rfl dL_law_269 ?_
  refine x_iload_n (pc := 270) hX rfl rfl dL_law_270 ?_
  refine x_iconst (pc := 271) hX dL_law_271 ?_
  refine x_iadd (pc := 272) hX dL_law_272 rfl ?_
  refine x_sld (pc := 273) (j := 5 * q + 2) hX hZ (by omega) (by omega) hL dL_law_273 ?_
  refine x_aloadV_n (pc := 274) hX rfl rfl dL_law_274 ?_
  refine x_iload_n (pc := 275) hX rfl rfl dL_law_275 ?_
  refine x_iconst (pc := 276) hX dL_law_276 ?_
  refine x_iadd (pc := 277) hX dL_law_277 rfl ?_
  refine x_sld (pc := 278) (j := 5 * q + 3) hX hZ (by omega) (by omega) hL dL_law_278 ?_
  refine x_cV_I (pc := 279) hX (tX7_remove hKM hRM1 (xs (5 * q + 1)).toInt (xs (5 * q + 2)).toInt (xs (5 * q + 3)).toInt (inr_i (xs (5 * q + 1))) (inr_i (xs (5 * q + 2))) (inr_i (xs (5 * q + 3))) rfl rfl) hKM.1 rfl lk_L_26 rfl rfl (Nat.le_of_ble_eq_true rfl) (by decide) (by omega) (by omega) dL_law_279 (fun x M2 hp => ?_)
  obtain ⟨rfl, hRM2, hq2⟩ := hp
  have hR2 := hR1.same hq2.same (Or.inr (Or.inr (Or.inr (Nat.le_refl _))))
  refine x_icmp_same (pc := 282) (tgt := 1003) hX dL_law_282 (by decide) ?_
  exact hnx _ _ _ _ _ _ (by omega) (by omega) hK hKM hR2 hRM2 hh

set_option maxHeartbeats 4000000 in
set_option maxRecDepth 100000 in
theorem law_c3 {G : XG} {X : XX} {Q : State → Prop} {b L q : Nat} {xs : Nat → Int32} (hX : Xx G mL_law 10 600000 7302250 X) (hZ : XSc G b L xs X) (hL : L ≤ 2560) (hq : 5 * q + 5 ≤ L) (hnx : LNx G X Q b q) {S : Sx} {κ : XKs} {M : XM} {hs : Nat} (hK : KX κ hs) (hKM : KM κ hs) (hR : RX M S) (hRM : RM M S) (hh : 151 ≤ hs) : XW G X mL_law Q (151 + q) (9588 + 10 * q) 287 [some (xV (.ref b)), some (xR 0), some (xR 140), some (xI ((5 * q : Nat) : Int))] [] κ M hs := by
  refine x_aload_n (pc := 287) hX rfl rfl dL_law_287 ?_
  refine x_aloadV_n (pc := 288) hX rfl rfl dL_law_288 ?_
  refine x_iload_n (pc := 289) hX rfl rfl dL_law_289 ?_
  refine x_iconst (pc := 290) hX dL_law_290 ?_
  refine x_iadd (pc := 291) hX dL_law_291 rfl ?_
  refine x_sld (pc := 292) (j := 5 * q + 1) hX hZ (by omega) (by omega) hL dL_law_292 ?_
  refine x_aloadV_n (pc := 293) hX rfl rfl dL_law_293 ?_
  refine x_iload_n (pc := 294) hX rfl rfl dL_law_294 ?_
  refine x_iconst (pc := 295) hX dL_law_295 ?_
  refine x_iadd (pc := 296) hX dL_law_296 rfl ?_
  refine x_sld (pc := 297) (j := 5 * q + 2) hX hZ (by omega) (by omega) hL dL_law_297 ?_
  refine x_aloadV_n (pc := 298) hX rfl rfl dL_law_298 ?_
  refine x_iload_n (pc := 299) hX rfl rfl dL_law_299 ?_
  refine x_iconst (pc := 300) hX dL_law_300 ?_
  refine x_iadd (pc := 301) hX dL_law_301 rfl ?_
  refine x_sld (pc := 302) (j := 5 * q + 3) hX hZ (by omega) (by omega) hL dL_law_302 ?_
  refine x_callV (pc := 303) hX (tX6_set hK hR (xs (5 * q + 1)).toInt (xs (5 * q + 2)).toInt (xs (5 * q + 3)).toInt (inr_i (xs (5 * q + 1))) (inr_i (xs (5 * q + 2))) (inr_i (xs (5 * q + 3))) rfl rfl hh) hK.1 rfl lk_L_27 rfl rfl (Nat.le_of_ble_eq_true rfl) (by decide) (by omega) (by omega) dL_law_303 (fun r κ' M' hs' hp => ?_)
  obtain ⟨rfl, hκ1, hh1, hR1, hM1⟩ := hp
  have hRM1 := hRM.cells (fun q h1 h2 => hM1 q h1 (by omega))
  have hK := hK.mono hκ1 hh1
  have hKM := hKM.mono hκ1 hh1
  have hh := Nat.le_trans hh hh1
  refine x_aload_n (pc := 306) hX rfl rfl dL_law_306 ?_
  refine x_aloadV_n (pc := 307) hX rfl rfl dL_law_307 ?_
  refine x_iload_n (pc := 308) hX rfl rfl dL_law_308 ?_
  refine x_iconst (pc := 309) hX dL_law_309 ?_
  refine x_iadd (pc := 310) hX dL_law_310 rfl ?_
  refine x_sld (pc := 311) (j := 5 * q + 1) hX hZ (by omega) (by omega) hL dL_law_311 ?_
  refine x_aloadV_n (pc := 312) hX rfl rfl dL_law_312 ?_
  refine x_iload_n (pc := 313) hX rfl rfl dL_law_313 ?_
  refine x_iconst (pc := 314) hX dL_law_314 ?_
  refine x_iadd (pc := 315) hX dL_law_315 rfl ?_
  refine x_sld (pc := 316) (j := 5 * q + 2) hX hZ (by omega) (by omega) hL dL_law_316 ?_
  refine x_aloadV_n (pc := 317) hX rfl rfl dL_law_317 ?_
  refine x_iload_n (pc := 318) hX rfl rfl dL_law_318 ?_
  refine x_iconst (pc := 319) hX dL_law_319 ?_
  refine x_iadd (pc := 320) hX dL_law_320 rfl ?_
  refine x_sld (pc := 321) (j := 5 * q + 3) hX hZ (by omega) (by omega) hL dL_law_321 ?_
  refine x_cV_I (pc := 322) hX (tX7_set hKM hRM1 (xs (5 * q + 1)).toInt (xs (5 * q + 2)).toInt (xs (5 * q + 3)).toInt (inr_i (xs (5 * q + 1))) (inr_i (xs (5 * q + 2))) (inr_i (xs (5 * q + 3))) rfl rfl) hKM.1 rfl lk_L_30 rfl rfl (Nat.le_of_ble_eq_true rfl) (by decide) (by omega) (by omega) dL_law_322 (fun x M2 hp => ?_)
  obtain ⟨rfl, hRM2, hq2⟩ := hp
  have hR2 := hR1.same hq2.same (Or.inr (Or.inr (Or.inr (Nat.le_refl _))))
  refine x_icmp_same (pc := 325) (tgt := 1003) hX dL_law_325 (by decide) ?_
  exact hnx _ _ _ _ _ _ (by omega) (by omega) hK hKM hR2 hRM2 hh

set_option maxHeartbeats 4000000 in
set_option maxRecDepth 100000 in
theorem law_c4 {G : XG} {X : XX} {Q : State → Prop} {b L q : Nat} {xs : Nat → Int32} (hX : Xx G mL_law 10 600000 7302250 X) (hZ : XSc G b L xs X) (hL : L ≤ 2560) (hq : 5 * q + 5 ≤ L) (hnx : LNx G X Q b q) {S : Sx} {κ : XKs} {M : XM} {hs : Nat} (hK : KX κ hs) (hKM : KM κ hs) (hR : RX M S) (hRM : RM M S) (hh : 151 ≤ hs) : XW G X mL_law Q (151 + q) (9588 + 10 * q) 330 [some (xV (.ref b)), some (xR 0), some (xR 140), some (xI ((5 * q : Nat) : Int))] [] κ M hs := by
  refine x_aload_n (pc := 330) hX rfl rfl dL_law_330 ?_
  refine x_aloadV_n (pc := 331) hX rfl rfl dL_law_331 ?_
  refine x_iload_n (pc := 332) hX rfl rfl dL_law_332 ?_
  refine x_iconst (pc := 333) hX dL_law_333 ?_
  refine x_iadd (pc := 334) hX dL_law_334 rfl ?_
  refine x_sld (pc := 335) (j := 5 * q + 1) hX hZ (by omega) (by omega) hL dL_law_335 ?_
  refine x_callV (pc := 336) hX (tX6_sort hK hR (xs (5 * q + 1)).toInt (inr_i (xs (5 * q + 1))) rfl rfl hh) hK.1 rfl lk_L_31 rfl rfl (Nat.le_of_ble_eq_true rfl) (by decide) (by omega) (by omega) dL_law_336 (fun r κ' M' hs' hp => ?_)
  obtain ⟨rfl, hκ1, hh1, hR1, hM1⟩ := hp
  have hRM1 := hRM.cells (fun q h1 h2 => hM1 q h1 (by omega))
  have hK := hK.mono hκ1 hh1
  have hKM := hKM.mono hκ1 hh1
  have hh := Nat.le_trans hh hh1
  refine x_aload_n (pc := 339) hX rfl rfl dL_law_339 ?_
  refine x_aloadV_n (pc := 340) hX rfl rfl dL_law_340 ?_
  refine x_iload_n (pc := 341) hX rfl rfl dL_law_341 ?_
  refine x_iconst (pc := 342) hX dL_law_342 ?_
  refine x_iadd (pc := 343) hX dL_law_343 rfl ?_
  refine x_sld (pc := 344) (j := 5 * q + 1) hX hZ (by omega) (by omega) hL dL_law_344 ?_
  refine x_cV_I (pc := 345) hX (tX7_sort hKM hRM1 (xs (5 * q + 1)).toInt (inr_i (xs (5 * q + 1))) rfl rfl) hKM.1 rfl lk_L_35 rfl rfl (Nat.le_of_ble_eq_true rfl) (by decide) (by omega) (by omega) dL_law_345 (fun x M2 hp => ?_)
  obtain ⟨rfl, hRM2, hq2⟩ := hp
  have hR2 := hR1.same hq2.same (Or.inr (Or.inr (Or.inr (Nat.le_refl _))))
  refine x_icmp_same (pc := 348) (tgt := 1003) hX dL_law_348 (by decide) ?_
  exact hnx _ _ _ _ _ _ (by omega) (by omega) hK hKM hR2 hRM2 hh

set_option maxHeartbeats 4000000 in
set_option maxRecDepth 100000 in
theorem law_c5 {G : XG} {X : XX} {Q : State → Prop} {b L q : Nat} {xs : Nat → Int32} (hX : Xx G mL_law 10 600000 7302250 X) (hZ : XSc G b L xs X) (hL : L ≤ 2560) (hq : 5 * q + 5 ≤ L) (hnx : LNx G X Q b q) {S : Sx} {κ : XKs} {M : XM} {hs : Nat} (hK : KX κ hs) (hKM : KM κ hs) (hR : RX M S) (hRM : RM M S) (hh : 151 ≤ hs) : XW G X mL_law Q (151 + q) (9588 + 10 * q) 353 [some (xV (.ref b)), some (xR 0), some (xR 140), some (xI ((5 * q : Nat) : Int))] [] κ M hs := by
  refine x_aload_n (pc := 353) hX rfl rfl dL_law_353 ?_
  refine x_aloadV_n (pc := 354) hX rfl rfl dL_law_354 ?_
  refine x_iload_n (pc := 355) hX rfl rfl dL_law_355 ?_
  refine x_iconst (pc := 356) hX dL_law_356 ?_
  refine x_iadd (pc := 357) hX dL_law_357 rfl ?_
  refine x_sld (pc := 358) (j := 5 * q + 1) hX hZ (by omega) (by omega) hL dL_law_358 ?_
  refine x_aloadV_n (pc := 359) hX rfl rfl dL_law_359 ?_
  refine x_iload_n (pc := 360) hX rfl rfl dL_law_360 ?_
  refine x_iconst (pc := 361) hX dL_law_361 ?_
  refine x_iadd (pc := 362) hX dL_law_362 rfl ?_
  refine x_sld (pc := 363) (j := 5 * q + 2) hX hZ (by omega) (by omega) hL dL_law_363 ?_
  refine x_callV (pc := 364) hX (tX6_turn hK hR (xs (5 * q + 1)).toInt (xs (5 * q + 2)).toInt (inr_i (xs (5 * q + 1))) (inr_i (xs (5 * q + 2))) rfl hh) hK.1 rfl lk_L_36 rfl rfl (Nat.le_of_ble_eq_true rfl) (by decide) (by omega) (by omega) dL_law_364 (fun r κ' M' hs' hp => ?_)
  obtain ⟨rfl, hκ1, hh1, hR1, hM1⟩ := hp
  have hRM1 := hRM.cells (fun q h1 h2 => hM1 q h1 (by omega))
  have hK := hK.mono hκ1 hh1
  have hKM := hKM.mono hκ1 hh1
  have hh := Nat.le_trans hh hh1
  refine x_aload_n (pc := 367) hX rfl rfl dL_law_367 ?_
  refine x_aloadV_n (pc := 368) hX rfl rfl dL_law_368 ?_
  refine x_iload_n (pc := 369) hX rfl rfl dL_law_369 ?_
  refine x_iconst (pc := 370) hX dL_law_370 ?_
  refine x_iadd (pc := 371) hX dL_law_371 rfl ?_
  refine x_sld (pc := 372) (j := 5 * q + 1) hX hZ (by omega) (by omega) hL dL_law_372 ?_
  refine x_aloadV_n (pc := 373) hX rfl rfl dL_law_373 ?_
  refine x_iload_n (pc := 374) hX rfl rfl dL_law_374 ?_
  refine x_iconst (pc := 375) hX dL_law_375 ?_
  refine x_iadd (pc := 376) hX dL_law_376 rfl ?_
  refine x_sld (pc := 377) (j := 5 * q + 2) hX hZ (by omega) (by omega) hL dL_law_377 ?_
  refine x_cV_I (pc := 378) hX (tX7_turn hKM hRM1 (xs (5 * q + 1)).toInt (xs (5 * q + 2)).toInt (inr_i (xs (5 * q + 1))) (inr_i (xs (5 * q + 2))) rfl) hKM.1 rfl lk_L_40 rfl rfl (Nat.le_of_ble_eq_true rfl) (by decide) (by omega) (by omega) dL_law_378 (fun x M2 hp => ?_)
  obtain ⟨rfl, hRM2, hq2⟩ := hp
  have hR2 := hR1.same hq2.same (Or.inr (Or.inr (Or.inr (Nat.le_refl _))))
  refine x_icmp_same (pc := 381) (tgt := 1003) hX dL_law_381 (by decide) ?_
  exact hnx _ _ _ _ _ _ (by omega) (by omega) hK hKM hR2 hRM2 hh

set_option maxHeartbeats 4000000 in
set_option maxRecDepth 100000 in
theorem law_c6 {G : XG} {X : XX} {Q : State → Prop} {b L q : Nat} {xs : Nat → Int32} (hX : Xx G mL_law 10 600000 7302250 X) (hZ : XSc G b L xs X) (hL : L ≤ 2560) (hq : 5 * q + 5 ≤ L) (hnx : LNx G X Q b q) {S : Sx} {κ : XKs} {M : XM} {hs : Nat} (hK : KX κ hs) (hKM : KM κ hs) (hR : RX M S) (hRM : RM M S) (hh : 151 ≤ hs) : XW G X mL_law Q (151 + q) (9588 + 10 * q) 386 [some (xV (.ref b)), some (xR 0), some (xR 140), some (xI ((5 * q : Nat) : Int))] [] κ M hs := by
  refine x_aload_n (pc := 386) hX rfl rfl dL_law_386 ?_
  refine x_aloadV_n (pc := 387) hX rfl rfl dL_law_387 ?_
  refine x_iload_n (pc := 388) hX rfl rfl dL_law_388 ?_
  refine x_iconst (pc := 389) hX dL_law_389 ?_
  refine x_iadd (pc := 390) hX dL_law_390 rfl ?_
  refine x_sld (pc := 391) (j := 5 * q + 1) hX hZ (by omega) (by omega) hL dL_law_391 ?_
  refine x_aloadV_n (pc := 392) hX rfl rfl dL_law_392 ?_
  refine x_iload_n (pc := 393) hX rfl rfl dL_law_393 ?_
  refine x_iconst (pc := 394) hX dL_law_394 ?_
  refine x_iadd (pc := 395) hX dL_law_395 rfl ?_
  refine x_sld (pc := 396) (j := 5 * q + 2) hX hZ (by omega) (by omega) hL dL_law_396 ?_
  refine x_aloadV_n (pc := 397) hX rfl rfl dL_law_397 ?_
  refine x_iload_n (pc := 398) hX rfl rfl dL_law_398 ?_
  refine x_iconst (pc := 399) hX dL_law_399 ?_
  refine x_iadd (pc := 400) hX dL_law_400 rfl ?_
  refine x_sld (pc := 401) (j := 5 * q + 3) hX hZ (by omega) (by omega) hL dL_law_401 ?_
  refine x_aloadV_n (pc := 402) hX rfl rfl dL_law_402 ?_
  refine x_iload_n (pc := 403) hX rfl rfl dL_law_403 ?_
  refine x_iconst (pc := 404) hX dL_law_404 ?_
  refine x_iadd (pc := 405) hX dL_law_405 rfl ?_
  refine x_sld (pc := 406) (j := 5 * q + 4) hX hZ (by omega) (by omega) hL dL_law_406 ?_
  refine x_callV (pc := 407) hX (tX6_merge hK hR (xs (5 * q + 1)).toInt (xs (5 * q + 2)).toInt (xs (5 * q + 3)).toInt (xs (5 * q + 4)).toInt (inr_i (xs (5 * q + 1))) (inr_i (xs (5 * q + 2))) (inr_i (xs (5 * q + 3))) (inr_i (xs (5 * q + 4))) rfl rfl hh) hK.1 rfl lk_L_41 rfl rfl (Nat.le_of_ble_eq_true rfl) (by decide) (by omega) (by omega) dL_law_407 (fun r κ' M' hs' hp => ?_)
  obtain ⟨rfl, hκ1, hh1, hR1, hM1⟩ := hp
  have hRM1 := hRM.cells (fun q h1 h2 => hM1 q h1 (by omega))
  have hK := hK.mono hκ1 hh1
  have hKM := hKM.mono hκ1 hh1
  have hh := Nat.le_trans hh hh1
  refine x_aload_n (pc := 410) hX rfl rfl dL_law_410 ?_
  refine x_aloadV_n (pc := 411) hX rfl rfl dL_law_411 ?_
  refine x_iload_n (pc := 412) hX rfl rfl dL_law_412 ?_
  refine x_iconst (pc := 413) hX dL_law_413 ?_
  refine x_iadd (pc := 414) hX dL_law_414 rfl ?_
  refine x_sld (pc := 415) (j := 5 * q + 1) hX hZ (by omega) (by omega) hL dL_law_415 ?_
  refine x_aloadV_n (pc := 416) hX rfl rfl dL_law_416 ?_
  refine x_iload_n (pc := 417) hX rfl rfl dL_law_417 ?_
  refine x_iconst (pc := 418) hX dL_law_418 ?_
  refine x_iadd (pc := 419) hX dL_law_419 rfl ?_
  refine x_sld (pc := 420) (j := 5 * q + 2) hX hZ (by omega) (by omega) hL dL_law_420 ?_
  refine x_aloadV_n (pc := 421) hX rfl rfl dL_law_421 ?_
  refine x_iload_n (pc := 422) hX rfl rfl dL_law_422 ?_
  refine x_iconst (pc := 423) hX dL_law_423 ?_
  refine x_iadd (pc := 424) hX dL_law_424 rfl ?_
  refine x_sld (pc := 425) (j := 5 * q + 3) hX hZ (by omega) (by omega) hL dL_law_425 ?_
  refine x_aloadV_n (pc := 426) hX rfl rfl dL_law_426 ?_
  refine x_iload_n (pc := 427) hX rfl rfl dL_law_427 ?_
  refine x_iconst (pc := 428) hX dL_law_428 ?_
  refine x_iadd (pc := 429) hX dL_law_429 rfl ?_
  refine x_sld (pc := 430) (j := 5 * q + 4) hX hZ (by omega) (by omega) hL dL_law_430 ?_
  refine x_cV_I (pc := 431) hX (tX7_merge hKM hRM1 (xs (5 * q + 1)).toInt (xs (5 * q + 2)).toInt (xs (5 * q + 3)).toInt (xs (5 * q + 4)).toInt (inr_i (xs (5 * q + 1))) (inr_i (xs (5 * q + 2))) (inr_i (xs (5 * q + 3))) (inr_i (xs (5 * q + 4))) rfl rfl) hKM.1 rfl lk_L_44 rfl rfl (Nat.le_of_ble_eq_true rfl) (by decide) (by omega) (by omega) dL_law_431 (fun x M2 hp => ?_)
  obtain ⟨rfl, hRM2, hq2⟩ := hp
  have hR2 := hR1.same hq2.same (Or.inr (Or.inr (Or.inr (Nat.le_refl _))))
  refine x_icmp_same (pc := 434) (tgt := 1003) hX dL_law_434 (by decide) ?_
  exact hnx _ _ _ _ _ _ (by omega) (by omega) hK hKM hR2 hRM2 hh

set_option maxHeartbeats 4000000 in
set_option maxRecDepth 100000 in
theorem law_c7 {G : XG} {X : XX} {Q : State → Prop} {b L q : Nat} {xs : Nat → Int32} (hX : Xx G mL_law 10 600000 7302250 X) (hZ : XSc G b L xs X) (hL : L ≤ 2560) (hq : 5 * q + 5 ≤ L) (hnx : LNx G X Q b q) {S : Sx} {κ : XKs} {M : XM} {hs : Nat} (hK : KX κ hs) (hKM : KM κ hs) (hR : RX M S) (hRM : RM M S) (hh : 151 ≤ hs) : XW G X mL_law Q (151 + q) (9588 + 10 * q) 439 [some (xV (.ref b)), some (xR 0), some (xR 140), some (xI ((5 * q : Nat) : Int))] [] κ M hs := by
  refine x_aload_n (pc := 439) hX rfl rfl dL_law_439 ?_
  refine x_aloadV_n (pc := 440) hX rfl rfl dL_law_440 ?_
  refine x_iload_n (pc := 441) hX rfl rfl dL_law_441 ?_
  refine x_iconst (pc := 442) hX dL_law_442 ?_
  refine x_iadd (pc := 443) hX dL_law_443 rfl ?_
  refine x_sld (pc := 444) (j := 5 * q + 1) hX hZ (by omega) (by omega) hL dL_law_444 ?_
  refine x_aloadV_n (pc := 445) hX rfl rfl dL_law_445 ?_
  refine x_iload_n (pc := 446) hX rfl rfl dL_law_446 ?_
  refine x_iconst (pc := 447) hX dL_law_447 ?_
  refine x_iadd (pc := 448) hX dL_law_448 rfl ?_
  refine x_sld (pc := 449) (j := 5 * q + 2) hX hZ (by omega) (by omega) hL dL_law_449 ?_
  refine x_aloadV_n (pc := 450) hX rfl rfl dL_law_450 ?_
  refine x_iload_n (pc := 451) hX rfl rfl dL_law_451 ?_
  refine x_iconst (pc := 452) hX dL_law_452 ?_
  refine x_iadd (pc := 453) hX dL_law_453 rfl ?_
  refine x_sld (pc := 454) (j := 5 * q + 3) hX hZ (by omega) (by omega) hL dL_law_454 ?_
  refine x_callV (pc := 455) hX (tX6_run hK hR (xs (5 * q + 1)).toInt (xs (5 * q + 2)).toInt (xs (5 * q + 3)).toInt (inr_i (xs (5 * q + 1))) (inr_i (xs (5 * q + 2))) (inr_i (xs (5 * q + 3))) rfl hh) hK.1 rfl lk_L_45 rfl rfl (Nat.le_of_ble_eq_true rfl) (by decide) (by omega) (by omega) dL_law_455 (fun r κ' M' hs' hp => ?_)
  obtain ⟨rfl, hκ1, hh1, hR1, hM1⟩ := hp
  have hRM1 := hRM.cells (fun q h1 h2 => hM1 q h1 (by omega))
  have hK := hK.mono hκ1 hh1
  have hKM := hKM.mono hκ1 hh1
  have hh := Nat.le_trans hh hh1
  refine x_aload_n (pc := 458) hX rfl rfl dL_law_458 ?_
  refine x_aloadV_n (pc := 459) hX rfl rfl dL_law_459 ?_
  refine x_iload_n (pc := 460) hX rfl rfl dL_law_460 ?_
  refine x_iconst (pc := 461) hX dL_law_461 ?_
  refine x_iadd (pc := 462) hX dL_law_462 rfl ?_
  refine x_sld (pc := 463) (j := 5 * q + 1) hX hZ (by omega) (by omega) hL dL_law_463 ?_
  refine x_aloadV_n (pc := 464) hX rfl rfl dL_law_464 ?_
  refine x_iload_n (pc := 465) hX rfl rfl dL_law_465 ?_
  refine x_iconst (pc := 466) hX dL_law_466 ?_
  refine x_iadd (pc := 467) hX dL_law_467 rfl ?_
  refine x_sld (pc := 468) (j := 5 * q + 2) hX hZ (by omega) (by omega) hL dL_law_468 ?_
  refine x_aloadV_n (pc := 469) hX rfl rfl dL_law_469 ?_
  refine x_iload_n (pc := 470) hX rfl rfl dL_law_470 ?_
  refine x_iconst (pc := 471) hX dL_law_471 ?_
  refine x_iadd (pc := 472) hX dL_law_472 rfl ?_
  refine x_sld (pc := 473) (j := 5 * q + 3) hX hZ (by omega) (by omega) hL dL_law_473 ?_
  refine x_cV_I (pc := 474) hX (tX7_run hKM hRM1 (xs (5 * q + 1)).toInt (xs (5 * q + 2)).toInt (xs (5 * q + 3)).toInt (inr_i (xs (5 * q + 1))) (inr_i (xs (5 * q + 2))) (inr_i (xs (5 * q + 3))) rfl) hKM.1 rfl lk_L_48 rfl rfl (Nat.le_of_ble_eq_true rfl) (by decide) (by omega) (by omega) dL_law_474 (fun x M2 hp => ?_)
  obtain ⟨rfl, hRM2, hq2⟩ := hp
  have hR2 := hR1.same hq2.same (Or.inr (Or.inr (Or.inr (Nat.le_refl _))))
  refine x_icmp_same (pc := 477) (tgt := 1003) hX dL_law_477 (by decide) ?_
  exact hnx _ _ _ _ _ _ (by omega) (by omega) hK hKM hR2 hRM2 hh

set_option maxHeartbeats 4000000 in
set_option maxRecDepth 100000 in
theorem law_c8 {G : XG} {X : XX} {Q : State → Prop} {b L q : Nat} {xs : Nat → Int32} (hX : Xx G mL_law 10 600000 7302250 X) (hZ : XSc G b L xs X) (hL : L ≤ 2560) (hq : 5 * q + 5 ≤ L) (hnx : LNx G X Q b q) {S : Sx} {κ : XKs} {M : XM} {hs : Nat} (hK : KX κ hs) (hKM : KM κ hs) (hR : RX M S) (hRM : RM M S) (hh : 151 ≤ hs) : XW G X mL_law Q (151 + q) (9588 + 10 * q) 482 [some (xV (.ref b)), some (xR 0), some (xR 140), some (xI ((5 * q : Nat) : Int))] [] κ M hs := by
  refine x_aload_n (pc := 482) hX rfl rfl dL_law_482 ?_
  refine x_aloadV_n (pc := 483) hX rfl rfl dL_law_483 ?_
  refine x_iload_n (pc := 484) hX rfl rfl dL_law_484 ?_
  refine x_iconst (pc := 485) hX dL_law_485 ?_
  refine x_iadd (pc := 486) hX dL_law_486 rfl ?_
  refine x_sld (pc := 487) (j := 5 * q + 1) hX hZ (by omega) (by omega) hL dL_law_487 ?_
  refine x_aloadV_n (pc := 488) hX rfl rfl dL_law_488 ?_
  refine x_iload_n (pc := 489) hX rfl rfl dL_law_489 ?_
  refine x_iconst (pc := 490) hX dL_law_490 ?_
  refine x_iadd (pc := 491) hX dL_law_491 rfl ?_
  refine x_sld (pc := 492) (j := 5 * q + 2) hX hZ (by omega) (by omega) hL dL_law_492 ?_
  refine x_callV (pc := 493) hX (tX6_value hK hR (xs (5 * q + 1)).toInt (xs (5 * q + 2)).toInt (inr_i (xs (5 * q + 1))) (inr_i (xs (5 * q + 2))) rfl hh) hK.1 rfl lk_L_49 rfl rfl (Nat.le_of_ble_eq_true rfl) (by decide) (by omega) (by omega) dL_law_493 (fun r κ' M' hs' hp => ?_)
  obtain ⟨rfl, hκ1, hh1, hR1, hM1⟩ := hp
  have hRM1 := hRM.cells (fun q h1 h2 => hM1 q h1 (by omega))
  have hK := hK.mono hκ1 hh1
  have hKM := hKM.mono hκ1 hh1
  have hh := Nat.le_trans hh hh1
  refine x_aload_n (pc := 496) hX rfl rfl dL_law_496 ?_
  refine x_aloadV_n (pc := 497) hX rfl rfl dL_law_497 ?_
  refine x_iload_n (pc := 498) hX rfl rfl dL_law_498 ?_
  refine x_iconst (pc := 499) hX dL_law_499 ?_
  refine x_iadd (pc := 500) hX dL_law_500 rfl ?_
  refine x_sld (pc := 501) (j := 5 * q + 1) hX hZ (by omega) (by omega) hL dL_law_501 ?_
  refine x_aloadV_n (pc := 502) hX rfl rfl dL_law_502 ?_
  refine x_iload_n (pc := 503) hX rfl rfl dL_law_503 ?_
  refine x_iconst (pc := 504) hX dL_law_504 ?_
  refine x_iadd (pc := 505) hX dL_law_505 rfl ?_
  refine x_sld (pc := 506) (j := 5 * q + 2) hX hZ (by omega) (by omega) hL dL_law_506 ?_
  refine x_cV_I (pc := 507) hX (tX7_value hKM hRM1 (xs (5 * q + 1)).toInt (xs (5 * q + 2)).toInt (inr_i (xs (5 * q + 1))) (inr_i (xs (5 * q + 2))) rfl) hKM.1 rfl lk_L_52 rfl rfl (Nat.le_of_ble_eq_true rfl) (by decide) (by omega) (by omega) dL_law_507 (fun x M2 hp => ?_)
  obtain ⟨rfl, hRM2, hq2⟩ := hp
  have hR2 := hR1.same hq2.same (Or.inr (Or.inr (Or.inr (Nat.le_refl _))))
  refine x_icmp_same (pc := 510) (tgt := 1003) hX dL_law_510 (by decide) ?_
  exact hnx _ _ _ _ _ _ (by omega) (by omega) hK hKM hR2 hRM2 hh

set_option maxHeartbeats 4000000 in
set_option maxRecDepth 100000 in
theorem law_c9 {G : XG} {X : XX} {Q : State → Prop} {b L q : Nat} {xs : Nat → Int32} (hX : Xx G mL_law 10 600000 7302250 X) (hZ : XSc G b L xs X) (hL : L ≤ 2560) (hq : 5 * q + 5 ≤ L) (hnx : LNx G X Q b q) {S : Sx} {κ : XKs} {M : XM} {hs : Nat} (hK : KX κ hs) (hKM : KM κ hs) (hR : RX M S) (hRM : RM M S) (hh : 151 ≤ hs) : XW G X mL_law Q (151 + q) (9588 + 10 * q) 515 [some (xV (.ref b)), some (xR 0), some (xR 140), some (xI ((5 * q : Nat) : Int))] [] κ M hs := by
  refine x_aload_n (pc := 515) hX rfl rfl dL_law_515 ?_
  refine x_aloadV_n (pc := 516) hX rfl rfl dL_law_516 ?_
  refine x_iload_n (pc := 517) hX rfl rfl dL_law_517 ?_
  refine x_iconst (pc := 518) hX dL_law_518 ?_
  refine x_iadd (pc := 519) hX dL_law_519 rfl ?_
  refine x_sld (pc := 520) (j := 5 * q + 1) hX hZ (by omega) (by omega) hL dL_law_520 ?_
  refine x_aloadV_n (pc := 521) hX rfl rfl dL_law_521 ?_
  refine x_iload_n (pc := 522) hX rfl rfl dL_law_522 ?_
  refine x_iconst (pc := 523) hX dL_law_523 ?_
  refine x_iadd (pc := 524) hX dL_law_524 rfl ?_
  refine x_sld (pc := 525) (j := 5 * q + 2) hX hZ (by omega) (by omega) hL dL_law_525 ?_
  refine x_aloadV_n (pc := 526) hX rfl rfl dL_law_526 ?_
  refine x_iload_n (pc := 527) hX rfl rfl dL_law_527 ?_
  refine x_iconst (pc := 528) hX dL_law_528 ?_
  refine x_iadd (pc := 529) hX dL_law_529 rfl ?_
  refine x_sld (pc := 530) (j := 5 * q + 3) hX hZ (by omega) (by omega) hL dL_law_530 ?_
  refine x_callV (pc := 531) hX (tX6_find hK hR (xs (5 * q + 1)).toInt (xs (5 * q + 2)).toInt (xs (5 * q + 3)).toInt (inr_i (xs (5 * q + 1))) (inr_i (xs (5 * q + 2))) (inr_i (xs (5 * q + 3))) rfl hh) hK.1 rfl lk_L_53 rfl rfl (Nat.le_of_ble_eq_true rfl) (by decide) (by omega) (by omega) dL_law_531 (fun r κ' M' hs' hp => ?_)
  obtain ⟨rfl, hκ1, hh1, hR1, hM1⟩ := hp
  have hRM1 := hRM.cells (fun q h1 h2 => hM1 q h1 (by omega))
  have hK := hK.mono hκ1 hh1
  have hKM := hKM.mono hκ1 hh1
  have hh := Nat.le_trans hh hh1
  refine x_aload_n (pc := 534) hX rfl rfl dL_law_534 ?_
  refine x_aloadV_n (pc := 535) hX rfl rfl dL_law_535 ?_
  refine x_iload_n (pc := 536) hX rfl rfl dL_law_536 ?_
  refine x_iconst (pc := 537) hX dL_law_537 ?_
  refine x_iadd (pc := 538) hX dL_law_538 rfl ?_
  refine x_sld (pc := 539) (j := 5 * q + 1) hX hZ (by omega) (by omega) hL dL_law_539 ?_
  refine x_aloadV_n (pc := 540) hX rfl rfl dL_law_540 ?_
  refine x_iload_n (pc := 541) hX rfl rfl dL_law_541 ?_
  refine x_iconst (pc := 542) hX dL_law_542 ?_
  refine x_iadd (pc := 543) hX dL_law_543 rfl ?_
  refine x_sld (pc := 544) (j := 5 * q + 2) hX hZ (by omega) (by omega) hL dL_law_544 ?_
  refine x_aloadV_n (pc := 545) hX rfl rfl dL_law_545 ?_
  refine x_iload_n (pc := 546) hX rfl rfl dL_law_546 ?_
  refine x_iconst (pc := 547) hX dL_law_547 ?_
  refine x_iadd (pc := 548) hX dL_law_548 rfl ?_
  refine x_sld (pc := 549) (j := 5 * q + 3) hX hZ (by omega) (by omega) hL dL_law_549 ?_
  refine x_cV_I (pc := 550) hX (tX7_find hKM hRM1 (xs (5 * q + 1)).toInt (xs (5 * q + 2)).toInt (xs (5 * q + 3)).toInt (inr_i (xs (5 * q + 1))) (inr_i (xs (5 * q + 2))) (inr_i (xs (5 * q + 3))) rfl) hKM.1 rfl lk_L_56 rfl rfl (Nat.le_of_ble_eq_true rfl) (by decide) (by omega) (by omega) dL_law_550 (fun x M2 hp => ?_)
  obtain ⟨rfl, hRM2, hq2⟩ := hp
  have hR2 := hR1.same hq2.same (Or.inr (Or.inr (Or.inr (Nat.le_refl _))))
  refine x_icmp_same (pc := 553) (tgt := 1003) hX dL_law_553 (by decide) ?_
  exact hnx _ _ _ _ _ _ (by omega) (by omega) hK hKM hR2 hRM2 hh

set_option maxHeartbeats 4000000 in
set_option maxRecDepth 100000 in
theorem law_c10 {G : XG} {X : XX} {Q : State → Prop} {b L q : Nat} {xs : Nat → Int32} (hX : Xx G mL_law 10 600000 7302250 X) (hZ : XSc G b L xs X) (hL : L ≤ 2560) (hq : 5 * q + 5 ≤ L) (hnx : LNx G X Q b q) {S : Sx} {κ : XKs} {M : XM} {hs : Nat} (hK : KX κ hs) (hKM : KM κ hs) (hR : RX M S) (hRM : RM M S) (hh : 151 ≤ hs) : XW G X mL_law Q (151 + q) (9588 + 10 * q) 558 [some (xV (.ref b)), some (xR 0), some (xR 140), some (xI ((5 * q : Nat) : Int))] [] κ M hs := by
  refine x_aload_n (pc := 558) hX rfl rfl dL_law_558 ?_
  refine x_aloadV_n (pc := 559) hX rfl rfl dL_law_559 ?_
  refine x_iload_n (pc := 560) hX rfl rfl dL_law_560 ?_
  refine x_iconst (pc := 561) hX dL_law_561 ?_
  refine x_iadd (pc := 562) hX dL_law_562 rfl ?_
  refine x_sld (pc := 563) (j := 5 * q + 1) hX hZ (by omega) (by omega) hL dL_law_563 ?_
  refine x_aloadV_n (pc := 564) hX rfl rfl dL_law_564 ?_
  refine x_iload_n (pc := 565) hX rfl rfl dL_law_565 ?_
  refine x_iconst (pc := 566) hX dL_law_566 ?_
  refine x_iadd (pc := 567) hX dL_law_567 rfl ?_
  refine x_sld (pc := 568) (j := 5 * q + 2) hX hZ (by omega) (by omega) hL dL_law_568 ?_
  refine x_callV (pc := 569) hX (tX6_ofColumn hK hR (xs (5 * q + 1)).toInt (xs (5 * q + 2)).toInt (inr_i (xs (5 * q + 1))) (inr_i (xs (5 * q + 2))) rfl hh) hK.1 rfl lk_L_57 rfl rfl (Nat.le_of_ble_eq_true rfl) (by decide) (by omega) (by omega) dL_law_569 (fun r κ' M' hs' hp => ?_)
  obtain ⟨rfl, hκ1, hh1, hR1, hM1⟩ := hp
  have hRM1 := hRM.cells (fun q h1 h2 => hM1 q h1 (by omega))
  have hK := hK.mono hκ1 hh1
  have hKM := hKM.mono hκ1 hh1
  have hh := Nat.le_trans hh hh1
  refine x_aload_n (pc := 572) hX rfl rfl dL_law_572 ?_
  refine x_aloadV_n (pc := 573) hX rfl rfl dL_law_573 ?_
  refine x_iload_n (pc := 574) hX rfl rfl dL_law_574 ?_
  refine x_iconst (pc := 575) hX dL_law_575 ?_
  refine x_iadd (pc := 576) hX dL_law_576 rfl ?_
  refine x_sld (pc := 577) (j := 5 * q + 1) hX hZ (by omega) (by omega) hL dL_law_577 ?_
  refine x_aloadV_n (pc := 578) hX rfl rfl dL_law_578 ?_
  refine x_iload_n (pc := 579) hX rfl rfl dL_law_579 ?_
  refine x_iconst (pc := 580) hX dL_law_580 ?_
  refine x_iadd (pc := 581) hX dL_law_581 rfl ?_
  refine x_sld (pc := 582) (j := 5 * q + 2) hX hZ (by omega) (by omega) hL dL_law_582 ?_
  refine x_cV_I (pc := 583) hX (tX7_ofColumn hKM hRM1 (xs (5 * q + 1)).toInt (xs (5 * q + 2)).toInt (inr_i (xs (5 * q + 1))) (inr_i (xs (5 * q + 2))) rfl) hKM.1 rfl lk_L_60 rfl rfl (Nat.le_of_ble_eq_true rfl) (by decide) (by omega) (by omega) dL_law_583 (fun x M2 hp => ?_)
  obtain ⟨rfl, hRM2, hq2⟩ := hp
  have hR2 := hR1.same hq2.same (Or.inr (Or.inr (Or.inr (Nat.le_refl _))))
  refine x_icmp_same (pc := 586) (tgt := 1003) hX dL_law_586 (by decide) ?_
  exact hnx _ _ _ _ _ _ (by omega) (by omega) hK hKM hR2 hRM2 hh

set_option maxHeartbeats 4000000 in
set_option maxRecDepth 100000 in
theorem law_c11 {G : XG} {X : XX} {Q : State → Prop} {b L q : Nat} {xs : Nat → Int32} (hX : Xx G mL_law 10 600000 7302250 X) (hZ : XSc G b L xs X) (hL : L ≤ 2560) (hq : 5 * q + 5 ≤ L) (hnx : LNx G X Q b q) {S : Sx} {κ : XKs} {M : XM} {hs : Nat} (hK : KX κ hs) (hKM : KM κ hs) (hR : RX M S) (hRM : RM M S) (hh : 151 ≤ hs) : XW G X mL_law Q (151 + q) (9588 + 10 * q) 591 [some (xV (.ref b)), some (xR 0), some (xR 140), some (xI ((5 * q : Nat) : Int))] [] κ M hs := by
  refine x_aload_n (pc := 591) hX rfl rfl dL_law_591 ?_
  refine x_aloadV_n (pc := 592) hX rfl rfl dL_law_592 ?_
  refine x_iload_n (pc := 593) hX rfl rfl dL_law_593 ?_
  refine x_iconst (pc := 594) hX dL_law_594 ?_
  refine x_iadd (pc := 595) hX dL_law_595 rfl ?_
  refine x_sld (pc := 596) (j := 5 * q + 1) hX hZ (by omega) (by omega) hL dL_law_596 ?_
  refine x_aloadV_n (pc := 597) hX rfl rfl dL_law_597 ?_
  refine x_iload_n (pc := 598) hX rfl rfl dL_law_598 ?_
  refine x_iconst (pc := 599) hX dL_law_599 ?_
  refine x_iadd (pc := 600) hX dL_law_600 rfl ?_
  refine x_sld (pc := 601) (j := 5 * q + 2) hX hZ (by omega) (by omega) hL dL_law_601 ?_
  refine x_aloadV_n (pc := 602) hX rfl rfl dL_law_602 ?_
  refine x_iload_n (pc := 603) hX rfl rfl dL_law_603 ?_
  refine x_iconst (pc := 604) hX dL_law_604 ?_
  refine x_iadd (pc := 605) hX dL_law_605 rfl ?_
  refine x_sld (pc := 606) (j := 5 * q + 3) hX hZ (by omega) (by omega) hL dL_law_606 ?_
  refine x_callV (pc := 607) hX (tX6_group hK hR (xs (5 * q + 1)).toInt (xs (5 * q + 2)).toInt (xs (5 * q + 3)).toInt (inr_i (xs (5 * q + 1))) (inr_i (xs (5 * q + 2))) (inr_i (xs (5 * q + 3))) rfl hh) hK.1 rfl lk_L_61 rfl rfl (Nat.le_of_ble_eq_true rfl) (by decide) (by omega) (by omega) dL_law_607 (fun r κ' M' hs' hp => ?_)
  obtain ⟨rfl, hκ1, hh1, hR1, hM1⟩ := hp
  have hRM1 := hRM.cells (fun q h1 h2 => hM1 q h1 (by omega))
  have hK := hK.mono hκ1 hh1
  have hKM := hKM.mono hκ1 hh1
  have hh := Nat.le_trans hh hh1
  refine x_aload_n (pc := 610) hX rfl rfl dL_law_610 ?_
  refine x_aloadV_n (pc := 611) hX rfl rfl dL_law_611 ?_
  refine x_iload_n (pc := 612) hX rfl rfl dL_law_612 ?_
  refine x_iconst (pc := 613) hX dL_law_613 ?_
  refine x_iadd (pc := 614) hX dL_law_614 rfl ?_
  refine x_sld (pc := 615) (j := 5 * q + 1) hX hZ (by omega) (by omega) hL dL_law_615 ?_
  refine x_aloadV_n (pc := 616) hX rfl rfl dL_law_616 ?_
  refine x_iload_n (pc := 617) hX rfl rfl dL_law_617 ?_
  refine x_iconst (pc := 618) hX dL_law_618 ?_
  refine x_iadd (pc := 619) hX dL_law_619 rfl ?_
  refine x_sld (pc := 620) (j := 5 * q + 2) hX hZ (by omega) (by omega) hL dL_law_620 ?_
  refine x_aloadV_n (pc := 621) hX rfl rfl dL_law_621 ?_
  refine x_iload_n (pc := 622) hX rfl rfl dL_law_622 ?_
  refine x_iconst (pc := 623) hX dL_law_623 ?_
  refine x_iadd (pc := 624) hX dL_law_624 rfl ?_
  refine x_sld (pc := 625) (j := 5 * q + 3) hX hZ (by omega) (by omega) hL dL_law_625 ?_
  refine x_cV_I (pc := 626) hX (tX7_group hKM hRM1 (xs (5 * q + 1)).toInt (xs (5 * q + 2)).toInt (xs (5 * q + 3)).toInt (inr_i (xs (5 * q + 1))) (inr_i (xs (5 * q + 2))) (inr_i (xs (5 * q + 3))) rfl) hKM.1 rfl lk_L_64 rfl rfl (Nat.le_of_ble_eq_true rfl) (by decide) (by omega) (by omega) dL_law_626 (fun x M2 hp => ?_)
  obtain ⟨rfl, hRM2, hq2⟩ := hp
  have hR2 := hR1.same hq2.same (Or.inr (Or.inr (Or.inr (Nat.le_refl _))))
  refine x_icmp_same (pc := 629) (tgt := 1003) hX dL_law_629 (by decide) ?_
  exact hnx _ _ _ _ _ _ (by omega) (by omega) hK hKM hR2 hRM2 hh

set_option maxHeartbeats 4000000 in
set_option maxRecDepth 100000 in
theorem law_c12 {G : XG} {X : XX} {Q : State → Prop} {b L q : Nat} {xs : Nat → Int32} (hX : Xx G mL_law 10 600000 7302250 X) (hZ : XSc G b L xs X) (hL : L ≤ 2560) (hq : 5 * q + 5 ≤ L) (hnx : LNx G X Q b q) {S : Sx} {κ : XKs} {M : XM} {hs : Nat} (hK : KX κ hs) (hKM : KM κ hs) (hR : RX M S) (hRM : RM M S) (hh : 151 ≤ hs) : XW G X mL_law Q (151 + q) (9588 + 10 * q) 634 [some (xV (.ref b)), some (xR 0), some (xR 140), some (xI ((5 * q : Nat) : Int))] [] κ M hs := by
  refine x_aload_n (pc := 634) hX rfl rfl dL_law_634 ?_
  refine x_aloadV_n (pc := 635) hX rfl rfl dL_law_635 ?_
  refine x_iload_n (pc := 636) hX rfl rfl dL_law_636 ?_
  refine x_iconst (pc := 637) hX dL_law_637 ?_
  refine x_iadd (pc := 638) hX dL_law_638 rfl ?_
  refine x_sld (pc := 639) (j := 5 * q + 1) hX hZ (by omega) (by omega) hL dL_law_639 ?_
  refine x_callV (pc := 640) hX (tX6_count hK hR (xs (5 * q + 1)).toInt (inr_i (xs (5 * q + 1))) rfl hh) hK.1 rfl lk_L_65 rfl rfl (Nat.le_of_ble_eq_true rfl) (by decide) (by omega) (by omega) dL_law_640 (fun r κ' M' hs' hp => ?_)
  obtain ⟨rfl, hκ1, hh1, hR1, hM1⟩ := hp
  have hRM1 := hRM.cells (fun q h1 h2 => hM1 q h1 (by omega))
  have hK := hK.mono hκ1 hh1
  have hKM := hKM.mono hκ1 hh1
  have hh := Nat.le_trans hh hh1
  refine x_aload_n (pc := 643) hX rfl rfl dL_law_643 ?_
  refine x_aloadV_n (pc := 644) hX rfl rfl dL_law_644 ?_
  refine x_iload_n (pc := 645) hX rfl rfl dL_law_645 ?_
  refine x_iconst (pc := 646) hX dL_law_646 ?_
  refine x_iadd (pc := 647) hX dL_law_647 rfl ?_
  refine x_sld (pc := 648) (j := 5 * q + 1) hX hZ (by omega) (by omega) hL dL_law_648 ?_
  refine x_cV_I (pc := 649) hX (tX7_count hKM hRM1 (xs (5 * q + 1)).toInt (inr_i (xs (5 * q + 1))) rfl) hKM.1 rfl lk_L_68 rfl rfl (Nat.le_of_ble_eq_true rfl) (by decide) (by omega) (by omega) dL_law_649 (fun x M2 hp => ?_)
  obtain ⟨rfl, hRM2, hq2⟩ := hp
  have hR2 := hR1.same hq2.same (Or.inr (Or.inr (Or.inr (Nat.le_refl _))))
  refine x_icmp_same (pc := 652) (tgt := 1003) hX dL_law_652 (by decide) ?_
  exact hnx _ _ _ _ _ _ (by omega) (by omega) hK hKM hR2 hRM2 hh

set_option maxHeartbeats 4000000 in
set_option maxRecDepth 100000 in
theorem law_c13 {G : XG} {X : XX} {Q : State → Prop} {b L q : Nat} {xs : Nat → Int32} (hX : Xx G mL_law 10 600000 7302250 X) (hZ : XSc G b L xs X) (hL : L ≤ 2560) (hq : 5 * q + 5 ≤ L) (hnx : LNx G X Q b q) {S : Sx} {κ : XKs} {M : XM} {hs : Nat} (hK : KX κ hs) (hKM : KM κ hs) (hR : RX M S) (hRM : RM M S) (hh : 151 ≤ hs) : XW G X mL_law Q (151 + q) (9588 + 10 * q) 657 [some (xV (.ref b)), some (xR 0), some (xR 140), some (xI ((5 * q : Nat) : Int))] [] κ M hs := by
  refine x_aload_n (pc := 657) hX rfl rfl dL_law_657 ?_
  refine x_aloadV_n (pc := 658) hX rfl rfl dL_law_658 ?_
  refine x_iload_n (pc := 659) hX rfl rfl dL_law_659 ?_
  refine x_iconst (pc := 660) hX dL_law_660 ?_
  refine x_iadd (pc := 661) hX dL_law_661 rfl ?_
  refine x_sld (pc := 662) (j := 5 * q + 1) hX hZ (by omega) (by omega) hL dL_law_662 ?_
  refine x_aloadV_n (pc := 663) hX rfl rfl dL_law_663 ?_
  refine x_iload_n (pc := 664) hX rfl rfl dL_law_664 ?_
  refine x_iconst (pc := 665) hX dL_law_665 ?_
  refine x_iadd (pc := 666) hX dL_law_666 rfl ?_
  refine x_sld (pc := 667) (j := 5 * q + 2) hX hZ (by omega) (by omega) hL dL_law_667 ?_
  refine x_aloadV_n (pc := 668) hX rfl rfl dL_law_668 ?_
  refine x_iload_n (pc := 669) hX rfl rfl dL_law_669 ?_
  refine x_iconst (pc := 670) hX dL_law_670 ?_
  refine x_iadd (pc := 671) hX dL_law_671 rfl ?_
  refine x_sld (pc := 672) (j := 5 * q + 3) hX hZ (by omega) (by omega) hL dL_law_672 ?_
  refine x_aloadV_n (pc := 673) hX rfl rfl dL_law_673 ?_
  refine x_iload_n (pc := 674) hX rfl rfl dL_law_674 ?_
  refine x_iconst (pc := 675) hX dL_law_675 ?_
  refine x_iadd (pc := 676) hX dL_law_676 rfl ?_
  refine x_sld (pc := 677) (j := 5 * q + 4) hX hZ (by omega) (by omega) hL dL_law_677 ?_
  refine x_callV (pc := 678) hX (tX6_pair hK hR (xs (5 * q + 1)).toInt (xs (5 * q + 2)).toInt (xs (5 * q + 3)).toInt (xs (5 * q + 4)).toInt (inr_i (xs (5 * q + 1))) (inr_i (xs (5 * q + 2))) (inr_i (xs (5 * q + 3))) (inr_i (xs (5 * q + 4))) rfl hh) hK.1 rfl lk_L_69 rfl rfl (Nat.le_of_ble_eq_true rfl) (by decide) (by omega) (by omega) dL_law_678 (fun r κ' M' hs' hp => ?_)
  obtain ⟨rfl, hκ1, hh1, hR1, hM1⟩ := hp
  have hRM1 := hRM.cells (fun q h1 h2 => hM1 q h1 (by omega))
  have hK := hK.mono hκ1 hh1
  have hKM := hKM.mono hκ1 hh1
  have hh := Nat.le_trans hh hh1
  refine x_aload_n (pc := 681) hX rfl rfl dL_law_681 ?_
  refine x_aloadV_n (pc := 682) hX rfl rfl dL_law_682 ?_
  refine x_iload_n (pc := 683) hX rfl rfl dL_law_683 ?_
  refine x_iconst (pc := 684) hX dL_law_684 ?_
  refine x_iadd (pc := 685) hX dL_law_685 rfl ?_
  refine x_sld (pc := 686) (j := 5 * q + 1) hX hZ (by omega) (by omega) hL dL_law_686 ?_
  refine x_aloadV_n (pc := 687) hX rfl rfl dL_law_687 ?_
  refine x_iload_n (pc := 688) hX rfl rfl dL_law_688 ?_
  refine x_iconst (pc := 689) hX dL_law_689 ?_
  refine x_iadd (pc := 690) hX dL_law_690 rfl ?_
  refine x_sld (pc := 691) (j := 5 * q + 2) hX hZ (by omega) (by omega) hL dL_law_691 ?_
  refine x_aloadV_n (pc := 692) hX rfl rfl dL_law_692 ?_
  refine x_iload_n (pc := 693) hX rfl rfl dL_law_693 ?_
  refine x_iconst (pc := 694) hX dL_law_694 ?_
  refine x_iadd (pc := 695) hX dL_law_695 rfl ?_
  refine x_sld (pc := 696) (j := 5 * q + 3) hX hZ (by omega) (by omega) hL dL_law_696 ?_
  refine x_aloadV_n (pc := 697) hX rfl rfl dL_law_697 ?_
  refine x_iload_n (pc := 698) hX rfl rfl dL_law_698 ?_
  refine x_iconst (pc := 699) hX dL_law_699 ?_
  refine x_iadd (pc := 700) hX dL_law_700 rfl ?_
  refine x_sld (pc := 701) (j := 5 * q + 4) hX hZ (by omega) (by omega) hL dL_law_701 ?_
  refine x_cV_I (pc := 702) hX (tX7_pair hKM hRM1 (xs (5 * q + 1)).toInt (xs (5 * q + 2)).toInt (xs (5 * q + 3)).toInt (xs (5 * q + 4)).toInt (inr_i (xs (5 * q + 1))) (inr_i (xs (5 * q + 2))) (inr_i (xs (5 * q + 3))) (inr_i (xs (5 * q + 4))) rfl) hKM.1 rfl lk_L_72 rfl rfl (Nat.le_of_ble_eq_true rfl) (by decide) (by omega) (by omega) dL_law_702 (fun x M2 hp => ?_)
  obtain ⟨rfl, hRM2, hq2⟩ := hp
  have hR2 := hR1.same hq2.same (Or.inr (Or.inr (Or.inr (Nat.le_refl _))))
  refine x_icmp_same (pc := 705) (tgt := 1003) hX dL_law_705 (by decide) ?_
  exact hnx _ _ _ _ _ _ (by omega) (by omega) hK hKM hR2 hRM2 hh

set_option maxHeartbeats 4000000 in
set_option maxRecDepth 100000 in
theorem law_c14 {G : XG} {X : XX} {Q : State → Prop} {b L q : Nat} {xs : Nat → Int32} (hX : Xx G mL_law 10 600000 7302250 X) (hZ : XSc G b L xs X) (hL : L ≤ 2560) (hq : 5 * q + 5 ≤ L) (hnx : LNx G X Q b q) {S : Sx} {κ : XKs} {M : XM} {hs : Nat} (hK : KX κ hs) (hKM : KM κ hs) (hR : RX M S) (hRM : RM M S) (hh : 151 ≤ hs) : XW G X mL_law Q (151 + q) (9588 + 10 * q) 710 [some (xV (.ref b)), some (xR 0), some (xR 140), some (xI ((5 * q : Nat) : Int))] [] κ M hs := by
  refine x_aload_n (pc := 710) hX rfl rfl dL_law_710 ?_
  refine x_aloadV_n (pc := 711) hX rfl rfl dL_law_711 ?_
  refine x_iload_n (pc := 712) hX rfl rfl dL_law_712 ?_
  refine x_iconst (pc := 713) hX dL_law_713 ?_
  refine x_iadd (pc := 714) hX dL_law_714 rfl ?_
  refine x_sld (pc := 715) (j := 5 * q + 1) hX hZ (by omega) (by omega) hL dL_law_715 ?_
  refine x_aloadV_n (pc := 716) hX rfl rfl dL_law_716 ?_
  refine x_iload_n (pc := 717) hX rfl rfl dL_law_717 ?_
  refine x_iconst (pc := 718) hX dL_law_718 ?_
  refine x_iadd (pc := 719) hX dL_law_719 rfl ?_
  refine x_sld (pc := 720) (j := 5 * q + 2) hX hZ (by omega) (by omega) hL dL_law_720 ?_
  refine x_aloadV_n (pc := 721) hX rfl rfl dL_law_721 ?_
  refine x_iload_n (pc := 722) hX rfl rfl dL_law_722 ?_
  refine x_iconst (pc := 723) hX dL_law_723 ?_
  refine x_iadd (pc := 724) hX dL_law_724 rfl ?_
  refine x_sld (pc := 725) (j := 5 * q + 3) hX hZ (by omega) (by omega) hL dL_law_725 ?_
  refine x_callV (pc := 726) hX (tX6_joined hK hR (xs (5 * q + 1)).toInt (xs (5 * q + 2)).toInt (xs (5 * q + 3)).toInt (inr_i (xs (5 * q + 1))) (inr_i (xs (5 * q + 2))) (inr_i (xs (5 * q + 3))) rfl hh) hK.1 rfl lk_L_73 rfl rfl (Nat.le_of_ble_eq_true rfl) (by decide) (by omega) (by omega) dL_law_726 (fun r κ' M' hs' hp => ?_)
  obtain ⟨rfl, hκ1, hh1, hR1, hM1⟩ := hp
  have hRM1 := hRM.cells (fun q h1 h2 => hM1 q h1 (by omega))
  have hK := hK.mono hκ1 hh1
  have hKM := hKM.mono hκ1 hh1
  have hh := Nat.le_trans hh hh1
  refine x_aload_n (pc := 729) hX rfl rfl dL_law_729 ?_
  refine x_aloadV_n (pc := 730) hX rfl rfl dL_law_730 ?_
  refine x_iload_n (pc := 731) hX rfl rfl dL_law_731 ?_
  refine x_iconst (pc := 732) hX dL_law_732 ?_
  refine x_iadd (pc := 733) hX dL_law_733 rfl ?_
  refine x_sld (pc := 734) (j := 5 * q + 1) hX hZ (by omega) (by omega) hL dL_law_734 ?_
  refine x_aloadV_n (pc := 735) hX rfl rfl dL_law_735 ?_
  refine x_iload_n (pc := 736) hX rfl rfl dL_law_736 ?_
  refine x_iconst (pc := 737) hX dL_law_737 ?_
  refine x_iadd (pc := 738) hX dL_law_738 rfl ?_
  refine x_sld (pc := 739) (j := 5 * q + 2) hX hZ (by omega) (by omega) hL dL_law_739 ?_
  refine x_aloadV_n (pc := 740) hX rfl rfl dL_law_740 ?_
  refine x_iload_n (pc := 741) hX rfl rfl dL_law_741 ?_
  refine x_iconst (pc := 742) hX dL_law_742 ?_
  refine x_iadd (pc := 743) hX dL_law_743 rfl ?_
  refine x_sld (pc := 744) (j := 5 * q + 3) hX hZ (by omega) (by omega) hL dL_law_744 ?_
  refine x_cV_I (pc := 745) hX (tX7_joined hKM hRM1 (xs (5 * q + 1)).toInt (xs (5 * q + 2)).toInt (xs (5 * q + 3)).toInt (inr_i (xs (5 * q + 1))) (inr_i (xs (5 * q + 2))) (inr_i (xs (5 * q + 3))) rfl) hKM.1 rfl lk_L_76 rfl rfl (Nat.le_of_ble_eq_true rfl) (by decide) (by omega) (by omega) dL_law_745 (fun x M2 hp => ?_)
  obtain ⟨rfl, hRM2, hq2⟩ := hp
  have hR2 := hR1.same hq2.same (Or.inr (Or.inr (Or.inr (Nat.le_refl _))))
  refine x_icmp_same (pc := 748) (tgt := 1003) hX dL_law_748 (by decide) ?_
  exact hnx _ _ _ _ _ _ (by omega) (by omega) hK hKM hR2 hRM2 hh

set_option maxHeartbeats 4000000 in
set_option maxRecDepth 100000 in
theorem law_c15 {G : XG} {X : XX} {Q : State → Prop} {b L q : Nat} {xs : Nat → Int32} (hX : Xx G mL_law 10 600000 7302250 X) (hZ : XSc G b L xs X) (hL : L ≤ 2560) (hq : 5 * q + 5 ≤ L) (hnx : LNx G X Q b q) {S : Sx} {κ : XKs} {M : XM} {hs : Nat} (hK : KX κ hs) (hKM : KM κ hs) (hR : RX M S) (hRM : RM M S) (hh : 151 ≤ hs) : XW G X mL_law Q (151 + q) (9588 + 10 * q) 753 [some (xV (.ref b)), some (xR 0), some (xR 140), some (xI ((5 * q : Nat) : Int))] [] κ M hs := by
  refine x_aload_n (pc := 753) hX rfl rfl dL_law_753 ?_
  refine x_aloadV_n (pc := 754) hX rfl rfl dL_law_754 ?_
  refine x_iload_n (pc := 755) hX rfl rfl dL_law_755 ?_
  refine x_iconst (pc := 756) hX dL_law_756 ?_
  refine x_iadd (pc := 757) hX dL_law_757 rfl ?_
  refine x_sld (pc := 758) (j := 5 * q + 1) hX hZ (by omega) (by omega) hL dL_law_758 ?_
  refine x_aloadV_n (pc := 759) hX rfl rfl dL_law_759 ?_
  refine x_iload_n (pc := 760) hX rfl rfl dL_law_760 ?_
  refine x_iconst (pc := 761) hX dL_law_761 ?_
  refine x_iadd (pc := 762) hX dL_law_762 rfl ?_
  refine x_sld (pc := 763) (j := 5 * q + 2) hX hZ (by omega) (by omega) hL dL_law_763 ?_
  refine x_callV (pc := 764) hX (tX6_alike hK hR (xs (5 * q + 1)).toInt (xs (5 * q + 2)).toInt (inr_i (xs (5 * q + 1))) (inr_i (xs (5 * q + 2))) rfl hh) hK.1 rfl lk_L_77 rfl rfl (Nat.le_of_ble_eq_true rfl) (by decide) (by omega) (by omega) dL_law_764 (fun r κ' M' hs' hp => ?_)
  obtain ⟨rfl, hκ1, hh1, hR1, hM1⟩ := hp
  have hRM1 := hRM.cells (fun q h1 h2 => hM1 q h1 (by omega))
  have hK := hK.mono hκ1 hh1
  have hKM := hKM.mono hκ1 hh1
  have hh := Nat.le_trans hh hh1
  refine x_aload_n (pc := 767) hX rfl rfl dL_law_767 ?_
  refine x_aloadV_n (pc := 768) hX rfl rfl dL_law_768 ?_
  refine x_iload_n (pc := 769) hX rfl rfl dL_law_769 ?_
  refine x_iconst (pc := 770) hX dL_law_770 ?_
  refine x_iadd (pc := 771) hX dL_law_771 rfl ?_
  refine x_sld (pc := 772) (j := 5 * q + 1) hX hZ (by omega) (by omega) hL dL_law_772 ?_
  refine x_aloadV_n (pc := 773) hX rfl rfl dL_law_773 ?_
  refine x_iload_n (pc := 774) hX rfl rfl dL_law_774 ?_
  refine x_iconst (pc := 775) hX dL_law_775 ?_
  refine x_iadd (pc := 776) hX dL_law_776 rfl ?_
  refine x_sld (pc := 777) (j := 5 * q + 2) hX hZ (by omega) (by omega) hL dL_law_777 ?_
  refine x_cV_I (pc := 778) hX (tX7_alike hKM hRM1 (xs (5 * q + 1)).toInt (xs (5 * q + 2)).toInt (inr_i (xs (5 * q + 1))) (inr_i (xs (5 * q + 2))) rfl) hKM.1 rfl lk_L_80 rfl rfl (Nat.le_of_ble_eq_true rfl) (by decide) (by omega) (by omega) dL_law_778 (fun x M2 hp => ?_)
  obtain ⟨rfl, hRM2, hq2⟩ := hp
  have hR2 := hR1.same hq2.same (Or.inr (Or.inr (Or.inr (Nat.le_refl _))))
  refine x_icmp_same (pc := 781) (tgt := 1003) hX dL_law_781 (by decide) ?_
  exact hnx _ _ _ _ _ _ (by omega) (by omega) hK hKM hR2 hRM2 hh

set_option maxHeartbeats 4000000 in
set_option maxRecDepth 100000 in
theorem law_c16 {G : XG} {X : XX} {Q : State → Prop} {b L q : Nat} {xs : Nat → Int32} (hX : Xx G mL_law 10 600000 7302250 X) (hZ : XSc G b L xs X) (hL : L ≤ 2560) (hq : 5 * q + 5 ≤ L) (hnx : LNx G X Q b q) {S : Sx} {κ : XKs} {M : XM} {hs : Nat} (hK : KX κ hs) (hKM : KM κ hs) (hR : RX M S) (hRM : RM M S) (hh : 151 ≤ hs) : XW G X mL_law Q (151 + q) (9588 + 10 * q) 786 [some (xV (.ref b)), some (xR 0), some (xR 140), some (xI ((5 * q : Nat) : Int))] [] κ M hs := by
  refine x_aload_n (pc := 786) hX rfl rfl dL_law_786 ?_
  refine x_aloadV_n (pc := 787) hX rfl rfl dL_law_787 ?_
  refine x_iload_n (pc := 788) hX rfl rfl dL_law_788 ?_
  refine x_iconst (pc := 789) hX dL_law_789 ?_
  refine x_iadd (pc := 790) hX dL_law_790 rfl ?_
  refine x_sld (pc := 791) (j := 5 * q + 1) hX hZ (by omega) (by omega) hL dL_law_791 ?_
  refine x_callV (pc := 792) hX (tX6_saves hK hR (xs (5 * q + 1)).toInt (inr_i (xs (5 * q + 1))) rfl hh) hK.1 rfl lk_L_81 rfl rfl (Nat.le_of_ble_eq_true rfl) (by decide) (by omega) (by omega) dL_law_792 (fun r κ' M' hs' hp => ?_)
  obtain ⟨rfl, hκ1, hh1, hR1, hM1⟩ := hp
  have hRM1 := hRM.cells (fun q h1 h2 => hM1 q h1 (by omega))
  have hK := hK.mono hκ1 hh1
  have hKM := hKM.mono hκ1 hh1
  have hh := Nat.le_trans hh hh1
  refine x_aload_n (pc := 795) hX rfl rfl dL_law_795 ?_
  refine x_aloadV_n (pc := 796) hX rfl rfl dL_law_796 ?_
  refine x_iload_n (pc := 797) hX rfl rfl dL_law_797 ?_
  refine x_iconst (pc := 798) hX dL_law_798 ?_
  refine x_iadd (pc := 799) hX dL_law_799 rfl ?_
  refine x_sld (pc := 800) (j := 5 * q + 1) hX hZ (by omega) (by omega) hL dL_law_800 ?_
  refine x_cV_I (pc := 801) hX (tX7_saves hKM hRM1 (xs (5 * q + 1)).toInt (inr_i (xs (5 * q + 1))) rfl) hKM.1 rfl lk_L_84 rfl rfl (Nat.le_of_ble_eq_true rfl) (by decide) (by omega) (by omega) dL_law_801 (fun x M2 hp => ?_)
  obtain ⟨rfl, hRM2, hq2⟩ := hp
  have hR2 := hR1.same hq2.same (Or.inr (Or.inr (Or.inr (Nat.le_refl _))))
  refine x_icmp_same (pc := 804) (tgt := 1003) hX dL_law_804 (by decide) ?_
  exact hnx _ _ _ _ _ _ (by omega) (by omega) hK hKM hR2 hRM2 hh

set_option maxHeartbeats 4000000 in
set_option maxRecDepth 100000 in
theorem law_c17 {G : XG} {X : XX} {Q : State → Prop} {b L q : Nat} {xs : Nat → Int32} (hX : Xx G mL_law 10 600000 7302250 X) (hZ : XSc G b L xs X) (hL : L ≤ 2560) (hq : 5 * q + 5 ≤ L) (hnx : LNx G X Q b q) {S : Sx} {κ : XKs} {M : XM} {hs : Nat} (hK : KX κ hs) (hKM : KM κ hs) (hR : RX M S) (hRM : RM M S) (hh : 151 ≤ hs) : XW G X mL_law Q (151 + q) (9588 + 10 * q) 809 [some (xV (.ref b)), some (xR 0), some (xR 140), some (xI ((5 * q : Nat) : Int))] [] κ M hs := by
  refine x_aload_n (pc := 809) hX rfl rfl dL_law_809 ?_
  refine x_aloadV_n (pc := 810) hX rfl rfl dL_law_810 ?_
  refine x_iload_n (pc := 811) hX rfl rfl dL_law_811 ?_
  refine x_iconst (pc := 812) hX dL_law_812 ?_
  refine x_iadd (pc := 813) hX dL_law_813 rfl ?_
  refine x_sld (pc := 814) (j := 5 * q + 1) hX hZ (by omega) (by omega) hL dL_law_814 ?_
  refine x_aloadV_n (pc := 815) hX rfl rfl dL_law_815 ?_
  refine x_iload_n (pc := 816) hX rfl rfl dL_law_816 ?_
  refine x_iconst (pc := 817) hX dL_law_817 ?_
  refine x_iadd (pc := 818) hX dL_law_818 rfl ?_
  refine x_sld (pc := 819) (j := 5 * q + 2) hX hZ (by omega) (by omega) hL dL_law_819 ?_
  refine x_aloadV_n (pc := 820) hX rfl rfl dL_law_820 ?_
  refine x_iload_n (pc := 821) hX rfl rfl dL_law_821 ?_
  refine x_iconst (pc := 822) hX dL_law_822 ?_
  refine x_iadd (pc := 823) hX dL_law_823 rfl ?_
  refine x_sld (pc := 824) (j := 5 * q + 3) hX hZ (by omega) (by omega) hL dL_law_824 ?_
  refine x_callV (pc := 825) hX (tX6_bestSet hK hR (xs (5 * q + 1)).toInt (xs (5 * q + 2)).toInt (xs (5 * q + 3)).toInt (inr_i (xs (5 * q + 1))) (inr_i (xs (5 * q + 2))) (inr_i (xs (5 * q + 3))) rfl hh) hK.1 rfl lk_L_85 rfl rfl (Nat.le_of_ble_eq_true rfl) (by decide) (by omega) (by omega) dL_law_825 (fun r κ' M' hs' hp => ?_)
  obtain ⟨rfl, hκ1, hh1, hR1, hM1⟩ := hp
  have hRM1 := hRM.cells (fun q h1 h2 => hM1 q h1 (by omega))
  have hK := hK.mono hκ1 hh1
  have hKM := hKM.mono hκ1 hh1
  have hh := Nat.le_trans hh hh1
  refine x_aload_n (pc := 828) hX rfl rfl dL_law_828 ?_
  refine x_aloadV_n (pc := 829) hX rfl rfl dL_law_829 ?_
  refine x_iload_n (pc := 830) hX rfl rfl dL_law_830 ?_
  refine x_iconst (pc := 831) hX dL_law_831 ?_
  refine x_iadd (pc := 832) hX dL_law_832 rfl ?_
  refine x_sld (pc := 833) (j := 5 * q + 1) hX hZ (by omega) (by omega) hL dL_law_833 ?_
  refine x_aloadV_n (pc := 834) hX rfl rfl dL_law_834 ?_
  refine x_iload_n (pc := 835) hX rfl rfl dL_law_835 ?_
  refine x_iconst (pc := 836) hX dL_law_836 ?_
  refine x_iadd (pc := 837) hX dL_law_837 rfl ?_
  refine x_sld (pc := 838) (j := 5 * q + 2) hX hZ (by omega) (by omega) hL dL_law_838 ?_
  refine x_aloadV_n (pc := 839) hX rfl rfl dL_law_839 ?_
  refine x_iload_n (pc := 840) hX rfl rfl dL_law_840 ?_
  refine x_iconst (pc := 841) hX dL_law_841 ?_
  refine x_iadd (pc := 842) hX dL_law_842 rfl ?_
  refine x_sld (pc := 843) (j := 5 * q + 3) hX hZ (by omega) (by omega) hL dL_law_843 ?_
  refine x_cV_I (pc := 844) hX (tX7_bestSet hKM hRM1 (xs (5 * q + 1)).toInt (xs (5 * q + 2)).toInt (xs (5 * q + 3)).toInt (inr_i (xs (5 * q + 1))) (inr_i (xs (5 * q + 2))) (inr_i (xs (5 * q + 3))) rfl) hKM.1 rfl lk_L_88 rfl rfl (Nat.le_of_ble_eq_true rfl) (by decide) (by omega) (by omega) dL_law_844 (fun x M2 hp => ?_)
  obtain ⟨rfl, hRM2, hq2⟩ := hp
  have hR2 := hR1.same hq2.same (Or.inr (Or.inr (Or.inr (Nat.le_refl _))))
  refine x_icmp_same (pc := 847) (tgt := 1003) hX dL_law_847 (by decide) ?_
  exact hnx _ _ _ _ _ _ (by omega) (by omega) hK hKM hR2 hRM2 hh

set_option maxHeartbeats 4000000 in
set_option maxRecDepth 100000 in
theorem law_c18 {G : XG} {X : XX} {Q : State → Prop} {b L q : Nat} {xs : Nat → Int32} (hX : Xx G mL_law 10 600000 7302250 X) (hZ : XSc G b L xs X) (hL : L ≤ 2560) (hq : 5 * q + 5 ≤ L) (hnx : LNx G X Q b q) {S : Sx} {κ : XKs} {M : XM} {hs : Nat} (hK : KX κ hs) (hKM : KM κ hs) (hR : RX M S) (hRM : RM M S) (hh : 151 ≤ hs) : XW G X mL_law Q (151 + q) (9588 + 10 * q) 852 [some (xV (.ref b)), some (xR 0), some (xR 140), some (xI ((5 * q : Nat) : Int))] [] κ M hs := by
  obtain ⟨a9, h9, e9⟩ := wb_of (((Int32.ofInt (xs (5 * q + 1)).toInt).toInt64 <<< ((Int32.ofInt 32).toInt64 &&& 63)) ||| ((Int32.ofInt (xs (5 * q + 2)).toInt).toInt64 &&& 4294967295))
  refine x_aload_n (pc := 852) hX rfl rfl dL_law_852 ?_
  refine x_aloadV_n (pc := 853) hX rfl rfl dL_law_853 ?_
  refine x_iload_n (pc := 854) hX rfl rfl dL_law_854 ?_
  refine x_iconst (pc := 855) hX dL_law_855 ?_
  refine x_iadd (pc := 856) hX dL_law_856 rfl ?_
  refine x_sld (pc := 857) (j := 5 * q + 1) hX hZ (by omega) (by omega) hL dL_law_857 ?_
  refine x_i2l (pc := 858) hX rfl dL_law_858 ?_
  refine x_bipush (pc := 859) hX (by decide) dL_law_859 ?_
  refine x_lshl (pc := 861) hX rfl dL_law_861 ?_
  refine x_aloadV_n (pc := 862) hX rfl rfl dL_law_862 ?_
  refine x_iload_n (pc := 863) hX rfl rfl dL_law_863 ?_
  refine x_iconst (pc := 864) hX dL_law_864 ?_
  refine x_iadd (pc := 865) hX dL_law_865 rfl ?_
  refine x_sld (pc := 866) (j := 5 * q + 2) hX hZ (by omega) (by omega) hL dL_law_866 ?_
  refine x_i2l (pc := 867) hX rfl dL_law_867 ?_
  refine x_ldc2 (pc := 868) hX tw_1039 dL_law_868 ?_
  refine x_land (pc := 871) hX rfl dL_law_871 ?_
  refine x_lor (pc := 872) (v := lN a9) hX e9 dL_law_872 ?_
  refine x_callV (pc := 873) hX (tX6_put hK hR a9 h9 rfl hh) hK.1 rfl lk_L_91 rfl rfl (Nat.le_of_ble_eq_true rfl) (by decide) (by omega) (by omega) dL_law_873 (fun r κ' M' hs' hp => ?_)
  obtain ⟨rfl, hκ1, hh1, hR1, hM1⟩ := hp
  have hRM1 := hRM.cells (fun q h1 h2 => hM1 q h1 (by omega))
  have hK := hK.mono hκ1 hh1
  have hKM := hKM.mono hκ1 hh1
  have hh := Nat.le_trans hh hh1
  refine x_aload_n (pc := 876) hX rfl rfl dL_law_876 ?_
  refine x_aloadV_n (pc := 877) hX rfl rfl dL_law_877 ?_
  refine x_iload_n (pc := 878) hX rfl rfl dL_law_878 ?_
  refine x_iconst (pc := 879) hX dL_law_879 ?_
  refine x_iadd (pc := 880) hX dL_law_880 rfl ?_
  refine x_sld (pc := 881) (j := 5 * q + 1) hX hZ (by omega) (by omega) hL dL_law_881 ?_
  refine x_i2l (pc := 882) hX rfl dL_law_882 ?_
  refine x_bipush (pc := 883) hX (by decide) dL_law_883 ?_
  refine x_lshl (pc := 885) hX rfl dL_law_885 ?_
  refine x_aloadV_n (pc := 886) hX rfl rfl dL_law_886 ?_
  refine x_iload_n (pc := 887) hX rfl rfl dL_law_887 ?_
  refine x_iconst (pc := 888) hX dL_law_888 ?_
  refine x_iadd (pc := 889) hX dL_law_889 rfl ?_
  refine x_sld (pc := 890) (j := 5 * q + 2) hX hZ (by omega) (by omega) hL dL_law_890 ?_
  refine x_i2l (pc := 891) hX rfl dL_law_891 ?_
  refine x_ldc2 (pc := 892) hX tw_1039 dL_law_892 ?_
  refine x_land (pc := 895) hX rfl dL_law_895 ?_
  refine x_lor (pc := 896) (v := lN a9) hX e9 dL_law_896 ?_
  refine x_cV_I (pc := 897) hX (tX7_put hKM hRM1 a9 h9 rfl) hKM.1 rfl lk_L_95 rfl rfl (Nat.le_of_ble_eq_true rfl) (by decide) (by omega) (by omega) dL_law_897 (fun x M2 hp => ?_)
  obtain ⟨rfl, hRM2, hq2⟩ := hp
  have hR2 := hR1.same hq2.same (Or.inr (Or.inr (Or.inr (Nat.le_refl _))))
  refine x_icmp_same (pc := 900) (tgt := 1003) hX dL_law_900 (by decide) ?_
  exact hnx _ _ _ _ _ _ (by omega) (by omega) hK hKM hR2 hRM2 hh

set_option maxHeartbeats 4000000 in
set_option maxRecDepth 100000 in
theorem law_c19 {G : XG} {X : XX} {Q : State → Prop} {b L q : Nat} {xs : Nat → Int32} (hX : Xx G mL_law 10 600000 7302250 X) (hZ : XSc G b L xs X) (hL : L ≤ 2560) (hq : 5 * q + 5 ≤ L) (hnx : LNx G X Q b q) {S : Sx} {κ : XKs} {M : XM} {hs : Nat} (hK : KX κ hs) (hKM : KM κ hs) (hR : RX M S) (hRM : RM M S) (hh : 151 ≤ hs) : XW G X mL_law Q (151 + q) (9588 + 10 * q) 905 [some (xV (.ref b)), some (xR 0), some (xR 140), some (xI ((5 * q : Nat) : Int))] [] κ M hs := by
  refine x_aload_n (pc := 905) hX rfl rfl dL_law_905 ?_
  refine x_callV (pc := 906) hX (tX6_wipe hK hR rfl hh) hK.1 rfl lk_L_96 rfl rfl (Nat.le_of_ble_eq_true rfl) (by decide) (by omega) (by omega) dL_law_906 (fun r κ' M' hs' hp => ?_)
  obtain ⟨rfl, hκ1, hh1, hR1, hM1⟩ := hp
  have hRM1 := hRM.cells (fun q h1 h2 => hM1 q h1 (by omega))
  have hK := hK.mono hκ1 hh1
  have hKM := hKM.mono hκ1 hh1
  have hh := Nat.le_trans hh hh1
  refine x_aload_n (pc := 909) hX rfl rfl dL_law_909 ?_
  refine x_cV_I (pc := 910) hX (tX7_wipe hKM hRM1 rfl) hKM.1 rfl lk_L_100 rfl rfl (Nat.le_of_ble_eq_true rfl) (by decide) (by omega) (by omega) dL_law_910 (fun x M2 hp => ?_)
  obtain ⟨rfl, hRM2, hq2⟩ := hp
  have hR2 := hR1.same hq2.same (Or.inr (Or.inr (Or.inr (Nat.le_refl _))))
  refine x_icmp_same (pc := 913) (tgt := 1003) hX dL_law_913 (by decide) ?_
  exact hnx _ _ _ _ _ _ (by omega) (by omega) hK hKM hR2 hRM2 hh

set_option maxHeartbeats 4000000 in
set_option maxRecDepth 100000 in
theorem law_c20 {G : XG} {X : XX} {Q : State → Prop} {b L q : Nat} {xs : Nat → Int32} (hX : Xx G mL_law 10 600000 7302250 X) (hZ : XSc G b L xs X) (hL : L ≤ 2560) (hq : 5 * q + 5 ≤ L) (hnx : LNx G X Q b q) {S : Sx} {κ : XKs} {M : XM} {hs : Nat} (hK : KX κ hs) (hKM : KM κ hs) (hR : RX M S) (hRM : RM M S) (hh : 151 ≤ hs) : XW G X mL_law Q (151 + q) (9588 + 10 * q) 918 [some (xV (.ref b)), some (xR 0), some (xR 140), some (xI ((5 * q : Nat) : Int))] [] κ M hs := by
  refine x_aload_n (pc := 918) hX rfl rfl dL_law_918 ?_
  refine x_callV (pc := 919) hX (tX6_fault hK hR rfl hh) hK.1 rfl lk_L_101 rfl rfl (Nat.le_of_ble_eq_true rfl) (by decide) (by omega) (by omega) dL_law_919 (fun r κ' M' hs' hp => ?_)
  obtain ⟨rfl, hκ1, hh1, hR1, hM1⟩ := hp
  have hRM1 := hRM.cells (fun q h1 h2 => hM1 q h1 (by omega))
  have hK := hK.mono hκ1 hh1
  have hKM := hKM.mono hκ1 hh1
  have hh := Nat.le_trans hh hh1
  refine x_aload_n (pc := 922) hX rfl rfl dL_law_922 ?_
  refine x_cV_I (pc := 923) hX (tX7_fault hKM hRM1 rfl) hKM.1 rfl lk_L_104 rfl rfl (Nat.le_of_ble_eq_true rfl) (by decide) (by omega) (by omega) dL_law_923 (fun x M2 hp => ?_)
  obtain ⟨rfl, hRM2, hq2⟩ := hp
  have hR2 := hR1.same hq2.same (Or.inr (Or.inr (Or.inr (Nat.le_refl _))))
  refine x_icmp_same (pc := 926) (tgt := 1003) hX dL_law_926 (by decide) ?_
  exact hnx _ _ _ _ _ _ (by omega) (by omega) hK hKM hR2 hRM2 hh

set_option maxHeartbeats 4000000 in
set_option maxRecDepth 100000 in
theorem law_c21 {G : XG} {X : XX} {Q : State → Prop} {b L q : Nat} {xs : Nat → Int32} (hX : Xx G mL_law 10 600000 7302250 X) (hZ : XSc G b L xs X) (hL : L ≤ 2560) (hq : 5 * q + 5 ≤ L) (hnx : LNx G X Q b q) {S : Sx} {κ : XKs} {M : XM} {hs : Nat} (hK : KX κ hs) (hKM : KM κ hs) (hR : RX M S) (hRM : RM M S) (hh : 151 ≤ hs) : XW G X mL_law Q (151 + q) (9588 + 10 * q) 931 [some (xV (.ref b)), some (xR 0), some (xR 140), some (xI ((5 * q : Nat) : Int))] [] κ M hs := by
  refine x_aload_n (pc := 931) hX rfl rfl dL_law_931 ?_
  refine x_callV (pc := 932) hX (tX6_carryOut hK hR rfl hh) hK.1 rfl lk_L_105 rfl rfl (Nat.le_of_ble_eq_true rfl) (by decide) (by omega) (by omega) dL_law_932 (fun r κ' M' hs' hp => ?_)
  obtain ⟨rfl, hκ1, hh1, hR1, hM1⟩ := hp
  have hRM1 := hRM.cells (fun q h1 h2 => hM1 q h1 (by omega))
  have hK := hK.mono hκ1 hh1
  have hKM := hKM.mono hκ1 hh1
  have hh := Nat.le_trans hh hh1
  refine x_aload_n (pc := 935) hX rfl rfl dL_law_935 ?_
  refine x_cV_I (pc := 936) hX (tX7_carryOut hKM hRM1 rfl) hKM.1 rfl lk_L_108 rfl rfl (Nat.le_of_ble_eq_true rfl) (by decide) (by omega) (by omega) dL_law_936 (fun x M2 hp => ?_)
  obtain ⟨rfl, hRM2, hq2⟩ := hp
  have hR2 := hR1.same hq2.same (Or.inr (Or.inr (Or.inr (Nat.le_refl _))))
  refine x_icmp_same (pc := 939) (tgt := 1003) hX dL_law_939 (by decide) ?_
  exact hnx _ _ _ _ _ _ (by omega) (by omega) hK hKM hR2 hRM2 hh

set_option maxHeartbeats 4000000 in
set_option maxRecDepth 100000 in
theorem law_c22 {G : XG} {X : XX} {Q : State → Prop} {b L q : Nat} {xs : Nat → Int32} (hX : Xx G mL_law 10 600000 7302250 X) (hZ : XSc G b L xs X) (hL : L ≤ 2560) (hq : 5 * q + 5 ≤ L) (hnx : LNx G X Q b q) {S : Sx} {κ : XKs} {M : XM} {hs : Nat} (hK : KX κ hs) (hKM : KM κ hs) (hR : RX M S) (hRM : RM M S) (hh : 151 ≤ hs) : XW G X mL_law Q (151 + q) (9588 + 10 * q) 944 [some (xV (.ref b)), some (xR 0), some (xR 140), some (xI ((5 * q : Nat) : Int))] [] κ M hs := by
  refine x_aload_n (pc := 944) hX rfl rfl dL_law_944 ?_
  refine x_callV (pc := 945) hX (tX6_undo hK hR rfl hh) hK.1 rfl lk_L_109 rfl rfl (Nat.le_of_ble_eq_true rfl) (by decide) (by omega) (by omega) dL_law_945 (fun r κ' M' hs' hp => ?_)
  obtain ⟨rfl, hκ1, hh1, hR1, hM1⟩ := hp
  have hRM1 := hRM.cells (fun q h1 h2 => hM1 q h1 (by omega))
  have hK := hK.mono hκ1 hh1
  have hKM := hKM.mono hκ1 hh1
  have hh := Nat.le_trans hh hh1
  refine x_aload_n (pc := 948) hX rfl rfl dL_law_948 ?_
  refine x_cV_I (pc := 949) hX (tX7_undo hKM hRM1 rfl) hKM.1 rfl lk_L_112 rfl rfl (Nat.le_of_ble_eq_true rfl) (by decide) (by omega) (by omega) dL_law_949 (fun x M2 hp => ?_)
  obtain ⟨rfl, hRM2, hq2⟩ := hp
  have hR2 := hR1.same hq2.same (Or.inr (Or.inr (Or.inr (Nat.le_refl _))))
  refine x_icmp_same (pc := 952) (tgt := 1003) hX dL_law_952 (by decide) ?_
  exact hnx _ _ _ _ _ _ (by omega) (by omega) hK hKM hR2 hRM2 hh

set_option maxHeartbeats 4000000 in
set_option maxRecDepth 100000 in
theorem law_c23 {G : XG} {X : XX} {Q : State → Prop} {b L q : Nat} {xs : Nat → Int32} (hX : Xx G mL_law 10 600000 7302250 X) (hZ : XSc G b L xs X) (hL : L ≤ 2560) (hq : 5 * q + 5 ≤ L) (hnx : LNx G X Q b q) {S : Sx} {κ : XKs} {M : XM} {hs : Nat} (hK : KX κ hs) (hKM : KM κ hs) (hR : RX M S) (hRM : RM M S) (hh : 151 ≤ hs) : XW G X mL_law Q (151 + q) (9588 + 10 * q) 957 [some (xV (.ref b)), some (xR 0), some (xR 140), some (xI ((5 * q : Nat) : Int))] [] κ M hs := by
  refine x_aload_n (pc := 957) hX rfl rfl dL_law_957 ?_
  refine x_aloadV_n (pc := 958) hX rfl rfl dL_law_958 ?_
  refine x_iload_n (pc := 959) hX rfl rfl dL_law_959 ?_
  refine x_iconst (pc := 960) hX dL_law_960 ?_
  refine x_iadd (pc := 961) hX dL_law_961 rfl ?_
  refine x_sld (pc := 962) (j := 5 * q + 1) hX hZ (by omega) (by omega) hL dL_law_962 ?_
  refine x_callV (pc := 963) hX (tX6_save hK hR (xs (5 * q + 1)).toInt (inr_i (xs (5 * q + 1))) rfl hh) hK.1 rfl lk_L_113 rfl rfl (Nat.le_of_ble_eq_true rfl) (by decide) (by omega) (by omega) dL_law_963 (fun r κ' M' hs' hp => ?_)
  obtain ⟨rfl, hκ1, hh1, hR1, hM1⟩ := hp
  have hRM1 := hRM.cells (fun q h1 h2 => hM1 q h1 (by omega))
  have hK := hK.mono hκ1 hh1
  have hKM := hKM.mono hκ1 hh1
  have hh := Nat.le_trans hh hh1
  refine x_aload_n (pc := 966) hX rfl rfl dL_law_966 ?_
  refine x_aloadV_n (pc := 967) hX rfl rfl dL_law_967 ?_
  refine x_iload_n (pc := 968) hX rfl rfl dL_law_968 ?_
  refine x_iconst (pc := 969) hX dL_law_969 ?_
  refine x_iadd (pc := 970) hX dL_law_970 rfl ?_
  refine x_sld (pc := 971) (j := 5 * q + 1) hX hZ (by omega) (by omega) hL dL_law_971 ?_
  refine x_cV_I (pc := 972) hX (tX7_save hKM hRM1 (xs (5 * q + 1)).toInt (inr_i (xs (5 * q + 1))) rfl) hKM.1 rfl lk_L_116 rfl rfl (Nat.le_of_ble_eq_true rfl) (by decide) (by omega) (by omega) dL_law_972 (fun x M2 hp => ?_)
  obtain ⟨rfl, hRM2, hq2⟩ := hp
  have hR2 := hR1.same hq2.same (Or.inr (Or.inr (Or.inr (Nat.le_refl _))))
  refine x_icmp_same (pc := 975) (tgt := 1003) hX dL_law_975 (by decide) ?_
  exact hnx _ _ _ _ _ _ (by omega) (by omega) hK hKM hR2 hRM2 hh

set_option maxHeartbeats 4000000 in
set_option maxRecDepth 100000 in
theorem law_c24 {G : XG} {X : XX} {Q : State → Prop} {b L q : Nat} {xs : Nat → Int32} (hX : Xx G mL_law 10 600000 7302250 X) (hZ : XSc G b L xs X) (hL : L ≤ 2560) (hq : 5 * q + 5 ≤ L) (hnx : LNx G X Q b q) {S : Sx} {κ : XKs} {M : XM} {hs : Nat} (hK : KX κ hs) (hKM : KM κ hs) (hR : RX M S) (hRM : RM M S) (hh : 151 ≤ hs) : XW G X mL_law Q (151 + q) (9588 + 10 * q) 980 [some (xV (.ref b)), some (xR 0), some (xR 140), some (xI ((5 * q : Nat) : Int))] [] κ M hs := by
  refine x_aload_n (pc := 980) hX rfl rfl dL_law_980 ?_
  refine x_aloadV_n (pc := 981) hX rfl rfl dL_law_981 ?_
  refine x_iload_n (pc := 982) hX rfl rfl dL_law_982 ?_
  refine x_iconst (pc := 983) hX dL_law_983 ?_
  refine x_iadd (pc := 984) hX dL_law_984 rfl ?_
  refine x_sld (pc := 985) (j := 5 * q + 1) hX hZ (by omega) (by omega) hL dL_law_985 ?_
  refine x_callV (pc := 986) hX (tX6_restore hK hR (xs (5 * q + 1)).toInt (inr_i (xs (5 * q + 1))) rfl hh) hK.1 rfl lk_L_117 rfl rfl (Nat.le_of_ble_eq_true rfl) (by decide) (by omega) (by omega) dL_law_986 (fun r κ' M' hs' hp => ?_)
  obtain ⟨rfl, hκ1, hh1, hR1, hM1⟩ := hp
  have hRM1 := hRM.cells (fun q h1 h2 => hM1 q h1 (by omega))
  have hK := hK.mono hκ1 hh1
  have hKM := hKM.mono hκ1 hh1
  have hh := Nat.le_trans hh hh1
  refine x_aload_n (pc := 989) hX rfl rfl dL_law_989 ?_
  refine x_aloadV_n (pc := 990) hX rfl rfl dL_law_990 ?_
  refine x_iload_n (pc := 991) hX rfl rfl dL_law_991 ?_
  refine x_iconst (pc := 992) hX dL_law_992 ?_
  refine x_iadd (pc := 993) hX dL_law_993 rfl ?_
  refine x_sld (pc := 994) (j := 5 * q + 1) hX hZ (by omega) (by omega) hL dL_law_994 ?_
  refine x_cV_I (pc := 995) hX (tX7_restore hKM hRM1 (xs (5 * q + 1)).toInt (inr_i (xs (5 * q + 1))) rfl) hKM.1 rfl lk_L_120 rfl rfl (Nat.le_of_ble_eq_true rfl) (by decide) (by omega) (by omega) dL_law_995 (fun x M2 hp => ?_)
  obtain ⟨rfl, hRM2, hq2⟩ := hp
  have hR2 := hR1.same hq2.same (Or.inr (Or.inr (Or.inr (Nat.le_refl _))))
  refine x_icmp_same (pc := 998) (tgt := 1003) hX dL_law_998 (by decide) ?_
  exact hnx _ _ _ _ _ _ (by omega) (by omega) hK hKM hR2 hRM2 hh

set_option maxHeartbeats 4000000 in
set_option maxRecDepth 100000 in
theorem law_loop {G : XG} {X : XX} {Q : State → Prop} {b L : Nat} {xs : Nat → Int32} (hX : Xx G mL_law 10 600000 7302250 X) (hZ : XSc G b L xs X) (hL : L ≤ 2560) (hend : ∀ (k n : Nat) (loc : List (Option XV)) (κ : XKs) (M : XM) (hs : Nat), k ≤ 600000 → n ≤ 7302250 → XW G X mL_law Q k n 1010 loc [xI 1] κ M hs) : ∀ (n q : Nat) (S : Sx) (κ : XKs) (M : XM) (hs : Nat), 5 * q ≤ L → L < q + n → KX κ hs → KM κ hs → RX M S → RM M S → 151 ≤ hs → XW G X mL_law Q (151 + q) (9588 + 10 * q) 18 [some (xV (.ref b)), some (xR 0), some (xR 140), some (xI ((5 * q : Nat) : Int))] [] κ M hs := by
  intro n
  induction n with
  | zero => intro q S κ M hs h1 h2; omega
  | succ n ih =>
    intro q S κ M hs h1 h2 hK hKM hR hRM hh
    refine x_iload_n (pc := 18) hX rfl rfl dL_law_18 ?_
    refine x_aloadV_n (pc := 19) hX rfl rfl dL_law_19 ?_
    refine x_slen (pc := 20) hX hZ dL_law_20 ?_
    refine x_iconst (pc := 21) hX dL_law_21 ?_
    refine x_isub (pc := 22) hX dL_law_22 rfl ?_
    refine x_icmp_gt (pc := 23) (tgt := 1009) hX dL_law_23 (by decide) (by omega) (fun h23 => ?_) (fun h23 => ?_)
    · refine x_iconst (pc := 1009) hX dL_law_1009 ?_
      exact hend _ _ _ _ _ _ (by omega) (by omega)
    · have hq5 : 5 * q + 5 ≤ L := by omega
      have hnx : LNx G X Q b q := by
        intro k n S κ M hs h1 h2 hK hKM hR hRM hh
        refine x_iinc (pc := 1003) (v := ((5 * (q + 1) : Nat) : Int)) hX dL_law_1003 rfl (by decide) rfl (by omega) rfl ?_
        refine x_goto (pc := 1006) (tgt := 18) hX dL_law_1006 (by decide) ?_
        exact x_widen (k' := 151 + (q + 1)) (n' := 9588 + 10 * (q + 1)) (by omega) (by omega) (ih (q + 1) S κ M hs (by omega) (by omega) hK hKM hR hRM hh)
      refine x_aloadV_n (pc := 26) hX rfl rfl dL_law_26 ?_
      refine x_iload_n (pc := 27) hX rfl rfl dL_law_27 ?_
      refine x_sld (pc := 28) (j := 5 * q) hX hZ rfl (by omega) hL dL_law_28 ?_
      refine x_bipush (pc := 29) hX (by decide) dL_law_29 ?_
      refine x_iand (pc := 31) (v := (xs (5 * q) &&& Int32.ofInt 31).toInt) hX dL_law_31 (by rw [u_toInt, u_toInt]) ?_
      have hw9 := inr_i (xs (5 * q) &&& Int32.ofInt 31)
      unfold InR at hw9
      generalize (xs (5 * q) &&& Int32.ofInt 31).toInt = w9 at hw9 ⊢
      rcases (show (w9 < 0 ∨ 24 < w9) ∨ w9 = 0 ∨ w9 = 1 ∨ w9 = 2 ∨ w9 = 3 ∨ w9 = 4 ∨ w9 = 5 ∨ w9 = 6 ∨ w9 = 7 ∨ w9 = 8 ∨ w9 = 9 ∨ w9 = 10 ∨ w9 = 11 ∨ w9 = 12 ∨ w9 = 13 ∨ w9 = 14 ∨ w9 = 15 ∨ w9 = 16 ∨ w9 = 17 ∨ w9 = 18 ∨ w9 = 19 ∨ w9 = 20 ∨ w9 = 21 ∨ w9 = 22 ∨ w9 = 23 ∨ w9 = 24 by omega) with hsw | hsw | hsw | hsw | hsw | hsw | hsw | hsw | hsw | hsw | hsw | hsw | hsw | hsw | hsw | hsw | hsw | hsw | hsw | hsw | hsw | hsw | hsw | hsw | hsw | hsw
      · refine x_tswOut (pc := 32) (tgt := 1003) hX dL_law_32 hw9 hsw (by decide) ?_
        exact hnx _ _ _ _ _ _ (by omega) (by omega) hK hKM hR hRM hh
      · refine x_tswIn (pc := 32) (off := 116) (tgt := 148) hX dL_law_32 hw9 (by omega) (by rw [hsw]; rfl) (by decide) ?_
        exact law_c0 hX hZ hL hq5 hnx hK hKM hR hRM hh
      · refine x_tswIn (pc := 32) (off := 159) (tgt := 191) hX dL_law_32 hw9 (by omega) (by rw [hsw]; rfl) (by decide) ?_
        exact law_c1 hX hZ hL hq5 hnx hK hKM hR hRM hh
      · refine x_tswIn (pc := 32) (off := 212) (tgt := 244) hX dL_law_32 hw9 (by omega) (by rw [hsw]; rfl) (by decide) ?_
        exact law_c2 hX hZ hL hq5 hnx hK hKM hR hRM hh
      · refine x_tswIn (pc := 32) (off := 255) (tgt := 287) hX dL_law_32 hw9 (by omega) (by rw [hsw]; rfl) (by decide) ?_
        exact law_c3 hX hZ hL hq5 hnx hK hKM hR hRM hh
      · refine x_tswIn (pc := 32) (off := 298) (tgt := 330) hX dL_law_32 hw9 (by omega) (by rw [hsw]; rfl) (by decide) ?_
        exact law_c4 hX hZ hL hq5 hnx hK hKM hR hRM hh
      · refine x_tswIn (pc := 32) (off := 321) (tgt := 353) hX dL_law_32 hw9 (by omega) (by rw [hsw]; rfl) (by decide) ?_
        exact law_c5 hX hZ hL hq5 hnx hK hKM hR hRM hh
      · refine x_tswIn (pc := 32) (off := 354) (tgt := 386) hX dL_law_32 hw9 (by omega) (by rw [hsw]; rfl) (by decide) ?_
        exact law_c6 hX hZ hL hq5 hnx hK hKM hR hRM hh
      · refine x_tswIn (pc := 32) (off := 407) (tgt := 439) hX dL_law_32 hw9 (by omega) (by rw [hsw]; rfl) (by decide) ?_
        exact law_c7 hX hZ hL hq5 hnx hK hKM hR hRM hh
      · refine x_tswIn (pc := 32) (off := 450) (tgt := 482) hX dL_law_32 hw9 (by omega) (by rw [hsw]; rfl) (by decide) ?_
        exact law_c8 hX hZ hL hq5 hnx hK hKM hR hRM hh
      · refine x_tswIn (pc := 32) (off := 483) (tgt := 515) hX dL_law_32 hw9 (by omega) (by rw [hsw]; rfl) (by decide) ?_
        exact law_c9 hX hZ hL hq5 hnx hK hKM hR hRM hh
      · refine x_tswIn (pc := 32) (off := 526) (tgt := 558) hX dL_law_32 hw9 (by omega) (by rw [hsw]; rfl) (by decide) ?_
        exact law_c10 hX hZ hL hq5 hnx hK hKM hR hRM hh
      · refine x_tswIn (pc := 32) (off := 559) (tgt := 591) hX dL_law_32 hw9 (by omega) (by rw [hsw]; rfl) (by decide) ?_
        exact law_c11 hX hZ hL hq5 hnx hK hKM hR hRM hh
      · refine x_tswIn (pc := 32) (off := 602) (tgt := 634) hX dL_law_32 hw9 (by omega) (by rw [hsw]; rfl) (by decide) ?_
        exact law_c12 hX hZ hL hq5 hnx hK hKM hR hRM hh
      · refine x_tswIn (pc := 32) (off := 625) (tgt := 657) hX dL_law_32 hw9 (by omega) (by rw [hsw]; rfl) (by decide) ?_
        exact law_c13 hX hZ hL hq5 hnx hK hKM hR hRM hh
      · refine x_tswIn (pc := 32) (off := 678) (tgt := 710) hX dL_law_32 hw9 (by omega) (by rw [hsw]; rfl) (by decide) ?_
        exact law_c14 hX hZ hL hq5 hnx hK hKM hR hRM hh
      · refine x_tswIn (pc := 32) (off := 721) (tgt := 753) hX dL_law_32 hw9 (by omega) (by rw [hsw]; rfl) (by decide) ?_
        exact law_c15 hX hZ hL hq5 hnx hK hKM hR hRM hh
      · refine x_tswIn (pc := 32) (off := 754) (tgt := 786) hX dL_law_32 hw9 (by omega) (by rw [hsw]; rfl) (by decide) ?_
        exact law_c16 hX hZ hL hq5 hnx hK hKM hR hRM hh
      · refine x_tswIn (pc := 32) (off := 777) (tgt := 809) hX dL_law_32 hw9 (by omega) (by rw [hsw]; rfl) (by decide) ?_
        exact law_c17 hX hZ hL hq5 hnx hK hKM hR hRM hh
      · refine x_tswIn (pc := 32) (off := 820) (tgt := 852) hX dL_law_32 hw9 (by omega) (by rw [hsw]; rfl) (by decide) ?_
        exact law_c18 hX hZ hL hq5 hnx hK hKM hR hRM hh
      · refine x_tswIn (pc := 32) (off := 873) (tgt := 905) hX dL_law_32 hw9 (by omega) (by rw [hsw]; rfl) (by decide) ?_
        exact law_c19 hX hZ hL hq5 hnx hK hKM hR hRM hh
      · refine x_tswIn (pc := 32) (off := 886) (tgt := 918) hX dL_law_32 hw9 (by omega) (by rw [hsw]; rfl) (by decide) ?_
        exact law_c20 hX hZ hL hq5 hnx hK hKM hR hRM hh
      · refine x_tswIn (pc := 32) (off := 899) (tgt := 931) hX dL_law_32 hw9 (by omega) (by rw [hsw]; rfl) (by decide) ?_
        exact law_c21 hX hZ hL hq5 hnx hK hKM hR hRM hh
      · refine x_tswIn (pc := 32) (off := 912) (tgt := 944) hX dL_law_32 hw9 (by omega) (by rw [hsw]; rfl) (by decide) ?_
        exact law_c22 hX hZ hL hq5 hnx hK hKM hR hRM hh
      · refine x_tswIn (pc := 32) (off := 925) (tgt := 957) hX dL_law_32 hw9 (by omega) (by rw [hsw]; rfl) (by decide) ?_
        exact law_c23 hX hZ hL hq5 hnx hK hKM hR hRM hh
      · refine x_tswIn (pc := 32) (off := 948) (tgt := 980) hX dL_law_32 hw9 (by omega) (by rw [hsw]; rfl) (by decide) ?_
        exact law_c24 hX hZ hL hq5 hnx hK hKM hR hRM hh

set_option maxHeartbeats 4000000 in
set_option maxRecDepth 100000 in
theorem law_start {G : XG} {X : XX} {Q : State → Prop} {b L : Nat} {xs : Nat → Int32} (hX : Xx G mL_law 10 600000 7302250 X) (hZ : XSc G b L xs X) (hL : L ≤ 2560) (hend : ∀ (k n : Nat) (loc : List (Option XV)) (κ : XKs) (M : XM) (hs : Nat), k ≤ 600000 → n ≤ 7302250 → XW G X mL_law Q k n 1010 loc [xI 1] κ M hs) : XW G X mL_law Q 0 0 0 [some (xV (.ref b)), none, none, none] [] (fun _ => kA 0 0) (fun _ _ => 0) 0 := by
  refine x_new (pc := 0) hX cl_L_7 nfX6 (by intro o h; simp [flX6] at h) (by decide) (by decide) dL_law_0 ?_
  refine x_dup (pc := 3) hX rfl dL_law_3 ?_
  refine x_callI (pc := 4) hX (tX6_init (kset_self _ _ _)) rfl lk_L_9 rfl rfl (Nat.le_of_ble_eq_true rfl) (by decide) (by decide) (by decide) dL_law_4 (fun r κ' M' hs' hp => ?_)
  obtain ⟨rfl, rfl, hK0, hR0⟩ := hp
  refine x_astore_n (pc := 7) hX rfl (by decide) rfl rfl dL_law_7 ?_
  refine x_new (pc := 8) hX cl_L_10 nfX7 (by intro o h; simp [flX7] at h) (by decide) (by decide) dL_law_8 ?_
  refine x_dup (pc := 11) hX rfl dL_law_11 ?_
  refine x_callI (pc := 12) hX (tX7_init (kset_self _ _ _) (fun j => by rw [mset_self])) rfl lk_L_12 rfl rfl (Nat.le_of_ble_eq_true rfl) (by decide) (by decide) (by decide) dL_law_12 (fun r2 κ2 M2 hs2 hp => ?_)
  obtain ⟨rfl, rfl, hKM2, hag, hz2⟩ := hp
  have hK2 : KX κ2 151 := hK0.mono (fun q hq => by rw [(hag q hq).1, kset_ne _ _ (by omega)]) (by decide)
  have hR2 : RX M2 SX0 := hR0.agr (fun q hq _ => by rw [(hag q hq).2, mset_ne _ _ (by omega)])
  refine x_astore_n (pc := 15) hX rfl (by decide) rfl rfl dL_law_15 ?_
  refine x_iconst (pc := 16) hX dL_law_16 ?_
  refine x_istore_n (pc := 17) hX rfl (by decide) rfl rfl dL_law_17 ?_
  exact x_widen (k' := 151 + 0) (n' := 9588 + 10 * 0) (by decide) (by decide) (law_loop hX hZ hL hend (L + 1) 0 SX0 _ _ _ (Nat.zero_le _) (by omega) hK2 hKM2 hR2 (RM.zero hz2) (Nat.le_refl _))

