/-! the cases of the law -/
theorem ixk1 {i : Nat} : nI i + 1 = nI (i + 1) := nI_add i 1
theorem ixk2 {i : Nat} : nI i + 2 = nI (i + 2) := nI_add i 2
theorem ixk3 {i : Nat} : nI i + 3 = nI (i + 3) := nI_add i 3
theorem ixk4 {i : Nat} : nI i + 4 = nI (i + 4) := nI_add i 4
theorem ixk5 {i : Nat} : nI i + 5 = nI (i + 5) := nI_add i 5
theorem okL_type {d : DT} (v0 v1 : Int32) (hl : okL d) : okL (dType d v0 v1) := by
  have e : d_l (dType d v0 v1) = d_l d := by
    unfold dType
    repeat' first | rfl | split
  rw [okL, e]; exact hl
theorem okL_wipe {d : DT} (v0 : Int32) (hl : okL d) : okL (dWipe d v0) := by
  have e : d_l (dWipe d v0) = d_l d := by
    unfold dWipe
    repeat' first | rfl | split
  rw [okL, e]; exact hl
theorem okL_law {d : DT} (v0 v1 : Int32) (hl : okL d) : okL (dLaw d v0 v1) := by
  have e : d_l (dLaw d v0 v1) = d_l d := by
    unfold dLaw
    repeat' first | rfl | split
  rw [okL, e]; exact hl
theorem okL_sale {d : DT} (v0 v1 : Int32) (hl : okL d) : okL (dSale d v0 v1) := by
  have e : d_l (dSale d v0 v1) = d_l d := by
    unfold dSale
    repeat' first | rfl | split
  rw [okL, e]; exact hl
theorem okL_undo {d : DT} (hl : okL d) : okL (dUndo d) := by
  have e : d_l (dUndo d) = d_l d := by
    unfold dUndo
    repeat' first | rfl | split
  rw [okL, e]; exact hl
theorem okL_worth {d : DT} (v0 v1 v2 : Int32) (hl : okL d) : okL (dWorth d v0 v1 v2) := by
  have e : d_l (dWorth d v0 v1 v2) = d_l d := by
    unfold dWorth
    repeat' first | rfl | split
  rw [okL, e]; exact hl
theorem okL_should {d : DT} (v0 : Int32) (hl : okL d) : okL (dShould d v0) := by
  have e : d_l (dShould d v0) = d_l d := by
    unfold dShould
    repeat' first | rfl | split
  rw [okL, e]; exact hl
theorem okL_fact {d : DT} (v0 v1 : Int32) (hl : okL d) : okL (dFact d v0 v1) := by
  have e : d_l (dFact d v0 v1) = d_l d := by
    unfold dFact
    repeat' first | rfl | split
  rw [okL, e]; exact hl
theorem okL_forget {d : DT} (hl : okL d) : okL (dForget d) := by
  have e : d_l (dForget d) = d_l d := by
    unfold dForget
    repeat' first | rfl | split
  rw [okL, e]; exact hl
theorem okL_sheet {d : DT} (v0 v1 v2 : Int32) (hl : okL d) : okL (dSheet d v0 v1 v2) := by
  have e : d_l (dSheet d v0 v1 v2) = d_l d := by
    unfold dSheet
    repeat' first | rfl | split
  rw [okL, e]; exact hl
theorem okL_lose {d : DT} (v0 : Int32) (hl : okL d) : okL (dLose d v0) := by
  have e : d_l (dLose d v0) = d_l d := by
    unfold dLose
    repeat' first | rfl | split
  rw [okL, e]; exact hl
theorem okL_put {d : DT} (v0 v1 v2 v3 : Int32) (hl : okL d) : okL (dPut d v0 v1 v2 v3) := by
  have e : d_l (dPut d v0 v1 v2 v3) = d_l d := by
    unfold dPut
    repeat' first | rfl | split
  rw [okL, e]; exact hl
theorem okL_get {d : DT} (v0 v1 v2 : Int32) (hl : okL d) : okL (dGet d v0 v1 v2) := by
  have e : d_l (dGet d v0 v1 v2) = d_l d := by
    unfold dGet
    repeat' first | rfl | split
  rw [okL, e]; exact hl
theorem okL_copy {d : DT} (v0 v1 v2 v3 v4 : Int32) (hl : okL d) : okL (dCopy d v0 v1 v2 v3 v4) := by
  have e : d_l (dCopy d v0 v1 v2 v3 v4) = d_l d := by
    unfold dCopy
    repeat' first | rfl | split
  rw [okL, e]; exact hl
theorem okL_write {d : DT} (v0 : Int32) (hl : okL d) : okL (dWrite d v0) := by
  have e : d_l (dWrite d v0) = d_l d := by
    unfold dWrite
    repeat' first | rfl | split
  rw [okL, e]; exact hl
theorem okL_read {d : DT} (v0 : Int32) (hl : okL d) : okL (dRead d v0) := by
  have e : d_l (dRead d v0) = d_l d := by
    rw [dRead]
    split
    · split
      · rfl
      · exact congrArg (fun q => q.1.2) (rdD_sh d (sN v0) (rdK d (sN v0)))
    · rfl
  rw [okL, e]; exact hl
theorem tix_ne {a b v : Int32} {p : Nat} (hc : cTaste a b v) (hp : p < 8) (z : 8 * p + p = tix a b) : False := by
  obtain ⟨x, hx, rfl⟩ := upto (n := 7) hc.1.1 hc.1.2 (by omega)
  obtain ⟨y, hy, rfl⟩ := upto (n := 7) hc.2.1.1 hc.2.1.2 (by omega)
  rw [tix, nI_clamp (by omega), nI_clamp (by omega)] at z
  have e1 : x = p := by omega
  have e2 : y = p := by omega
  exact hc.2.2.1 (by rw [e1, e2])
theorem lcmp_same {a : Int64} : lg_cmp a a = 0 := by simp [lg_cmp]
theorem okL_like {d : DT} (v0 v1 v2 : Int32) (hl : okL d) : okL (dLike d v0 v1 v2) := by
  intro p hp
  by_cases hc : cTaste v0 v1 v2
  · have e : d_l (dLike d v0 v1 v2) = upd (d_l d) (tix v0 v1) v2 := by rw [dLike, if_pos hc]; rfl
    rw [e, upd_ne (fun z => ?_)]
    · exact hl p hp
    · exact tix_ne hc hp z
  · rw [dLike, if_neg hc]; exact hl p hp
section Cases
variable {Γ : GX} {h : Hp} {sz : Nat} {d : DT}
theorem law_0 {Z : ZT} {cc cn i : Nat} (hJ : JW h sz d) (hi : i + 6 ≤ Γ.2.2.2.2.1) (hl : Γ.2.2.2.2.1 ≤ 3072) (hcc : cc + 414 ≤ 212196) (hcn : cn + 16384 ≤ 8465662) (K : ∀ (cc2 cn2 : Nat) (h2 : Hp) (sz2 : Nat) (d2 : DT), cc2 ≤ cc + 414 → cn2 ≤ cn + 16384 → JW h2 sz2 d2 → Ex Γ mL_law Z cc2 cn2 1288 [.ref 0, .ref 4, .ref 57, .int (nI i)] [] h2 sz2) : Ex Γ mL_law Z cc cn 196 [.ref 0, .ref 4, .ref 57, .int (nI i)] [] h sz := by
  obtain ⟨hX, hM, hd, hL, hsz⟩ := id hJ
  obtain ⟨fs, x4⟩ := hJ.x4
  refine x_aload dL_law_196 rfl ?_
  refine x_aload dL_law_197 rfl ?_
  refine x_iload dL_law_198 rfl ?_
  refine x_k dL_law_199 ?_
  refine x_iadd dL_law_200 ?_
  rw [ixk1]
  refine x_sld dL_law_201 ⟨by omega, by omega⟩ ?_
  refine x_aload dL_law_202 rfl ?_
  refine x_iload dL_law_203 rfl ?_
  refine x_k dL_law_204 ?_
  refine x_iadd dL_law_205 ?_
  rw [ixk2]
  refine x_sld dL_law_206 ⟨by omega, by omega⟩ ?_
  refine x_V2q lL_13 ⟨⟨by decide, by decide⟩, ⟨by show cc + 0 ≤ 212196; omega, by show cn + 0 ≤ 8465662; omega⟩⟩ (cc1 := cc + 0) (cn1 := cn + 0) rfl rfl (Nat.le_of_ble_eq_true rfl) dL_law_207 x4 (c_type _ _ hX hd) ?_
  rintro _ h1 sz1 ⟨rfl, hz1, hX1, hf1⟩
  obtain ⟨hM1, hsz1, fs1, m57⟩ := hJ.cls hz1 hX1 hf1
  refine x_aload dL_law_210 rfl ?_
  refine x_aload dL_law_211 rfl ?_
  refine x_iload dL_law_212 rfl ?_
  refine x_k dL_law_213 ?_
  refine x_iadd dL_law_214 ?_
  rw [ixk1]
  refine x_sld dL_law_215 ⟨by omega, by omega⟩ ?_
  refine x_aload dL_law_216 rfl ?_
  refine x_iload dL_law_217 rfl ?_
  refine x_k dL_law_218 ?_
  refine x_iadd dL_law_219 ?_
  rw [ixk2]
  refine x_sld dL_law_220 ⟨by omega, by omega⟩ ?_
  refine x_V2q lL_17 ⟨⟨by decide, by decide⟩, ⟨by show cc + 0 + 0 ≤ 212196; omega, by show cn + 0 + 0 ≤ 8465662; omega⟩⟩ (cc1 := cc + 0 + 0) (cn1 := cn + 0 + 0) rfl rfl (Nat.le_of_ble_eq_true rfl) dL_law_221 m57 (m_type _ _ hM1 hd) ?_
  rintro _ h2 _ ⟨rfl, rfl, hM2, hf2⟩
  have hJ2 := JW.ref hX1 hsz1 hM2 hf2 (ok_type _ _ hd) (okL_type _ _ hL)
  refine x_icmp_eq dL_law_224 (fun _ => ?_) (fun b => absurd rfl b)
  exact K _ _ _ _ _ (by omega) (by omega) hJ2
theorem law_1 {Z : ZT} {cc cn i : Nat} (hJ : JW h sz d) (hi : i + 6 ≤ Γ.2.2.2.2.1) (hl : Γ.2.2.2.2.1 ≤ 3072) (hcc : cc + 414 ≤ 212196) (hcn : cn + 16384 ≤ 8465662) (K : ∀ (cc2 cn2 : Nat) (h2 : Hp) (sz2 : Nat) (d2 : DT), cc2 ≤ cc + 414 → cn2 ≤ cn + 16384 → JW h2 sz2 d2 → Ex Γ mL_law Z cc2 cn2 1288 [.ref 0, .ref 4, .ref 57, .int (nI i)] [] h2 sz2) : Ex Γ mL_law Z cc cn 229 [.ref 0, .ref 4, .ref 57, .int (nI i)] [] h sz := by
  obtain ⟨hX, hM, hd, hL, hsz⟩ := id hJ
  obtain ⟨fs, x4⟩ := hJ.x4
  refine x_aload dL_law_229 rfl ?_
  refine x_aload dL_law_230 rfl ?_
  refine x_iload dL_law_231 rfl ?_
  refine x_k dL_law_232 ?_
  refine x_iadd dL_law_233 ?_
  rw [ixk1]
  refine x_sld dL_law_234 ⟨by omega, by omega⟩ ?_
  refine x_V1q lL_18 ⟨⟨by decide, by decide⟩, ⟨by show cc + 0 ≤ 212196; omega, by show cn + 0 ≤ 8465662; omega⟩⟩ (cc1 := cc + 0) (cn1 := cn + 0) rfl rfl (Nat.le_of_ble_eq_true rfl) dL_law_235 x4 (c_wipe _ hX hd) ?_
  rintro _ h1 sz1 ⟨rfl, hz1, hX1, hf1⟩
  obtain ⟨hM1, hsz1, fs1, m57⟩ := hJ.cls hz1 hX1 hf1
  refine x_aload dL_law_238 rfl ?_
  refine x_aload dL_law_239 rfl ?_
  refine x_iload dL_law_240 rfl ?_
  refine x_k dL_law_241 ?_
  refine x_iadd dL_law_242 ?_
  rw [ixk1]
  refine x_sld dL_law_243 ⟨by omega, by omega⟩ ?_
  refine x_V1q lL_22 ⟨⟨by decide, by decide⟩, ⟨by show cc + 0 + 0 ≤ 212196; omega, by show cn + 0 + 0 ≤ 8465662; omega⟩⟩ (cc1 := cc + 0 + 0) (cn1 := cn + 0 + 0) rfl rfl (Nat.le_of_ble_eq_true rfl) dL_law_244 m57 (m_wipe _ hM1) ?_
  rintro _ h2 _ ⟨rfl, rfl, hM2, hf2⟩
  have hJ2 := JW.ref hX1 hsz1 hM2 hf2 (ok_wipe _ hd) (okL_wipe _ hL)
  refine x_icmp_eq dL_law_247 (fun _ => ?_) (fun b => absurd rfl b)
  exact K _ _ _ _ _ (by omega) (by omega) hJ2
theorem law_2 {Z : ZT} {cc cn i : Nat} (hJ : JW h sz d) (hi : i + 6 ≤ Γ.2.2.2.2.1) (hl : Γ.2.2.2.2.1 ≤ 3072) (hcc : cc + 414 ≤ 212196) (hcn : cn + 16384 ≤ 8465662) (K : ∀ (cc2 cn2 : Nat) (h2 : Hp) (sz2 : Nat) (d2 : DT), cc2 ≤ cc + 414 → cn2 ≤ cn + 16384 → JW h2 sz2 d2 → Ex Γ mL_law Z cc2 cn2 1288 [.ref 0, .ref 4, .ref 57, .int (nI i)] [] h2 sz2) : Ex Γ mL_law Z cc cn 252 [.ref 0, .ref 4, .ref 57, .int (nI i)] [] h sz := by
  obtain ⟨hX, hM, hd, hL, hsz⟩ := id hJ
  obtain ⟨fs, x4⟩ := hJ.x4
  refine x_aload dL_law_252 rfl ?_
  refine x_aload dL_law_253 rfl ?_
  refine x_iload dL_law_254 rfl ?_
  refine x_k dL_law_255 ?_
  refine x_iadd dL_law_256 ?_
  rw [ixk1]
  refine x_sld dL_law_257 ⟨by omega, by omega⟩ ?_
  refine x_V1q lL_23 ⟨⟨by decide, by decide⟩, ⟨by show cc + 0 ≤ 212196; omega, by show cn + 0 ≤ 8465662; omega⟩⟩ (cc1 := cc + 0) (cn1 := cn + 0) rfl rfl (Nat.le_of_ble_eq_true rfl) dL_law_258 x4 (c_fault _ hX hd) ?_
  rintro _ h1 sz1 ⟨rfl, hz1, hX1, hf1⟩
  obtain ⟨hM1, hsz1, fs1, m57⟩ := hJ.cls hz1 hX1 hf1
  refine x_aload dL_law_261 rfl ?_
  refine x_aload dL_law_262 rfl ?_
  refine x_iload dL_law_263 rfl ?_
  refine x_k dL_law_264 ?_
  refine x_iadd dL_law_265 ?_
  rw [ixk1]
  refine x_sld dL_law_266 ⟨by omega, by omega⟩ ?_
  refine x_V1q lL_26 ⟨⟨by decide, by decide⟩, ⟨by show cc + 0 + 0 ≤ 212196; omega, by show cn + 0 + 0 ≤ 8465662; omega⟩⟩ (cc1 := cc + 0 + 0) (cn1 := cn + 0 + 0) rfl rfl (Nat.le_of_ble_eq_true rfl) dL_law_267 m57 (m_fault _ hM1 hd) ?_
  rintro _ h2 _ ⟨rfl, rfl, hM2, hf2⟩
  have hJ2 := JW.ref hX1 hsz1 hM2 hf2 hd hL
  refine x_icmp_eq dL_law_270 (fun _ => ?_) (fun b => absurd rfl b)
  exact K _ _ _ _ _ (by omega) (by omega) hJ2
theorem law_3 {Z : ZT} {cc cn i : Nat} (hJ : JW h sz d) (hi : i + 6 ≤ Γ.2.2.2.2.1) (hl : Γ.2.2.2.2.1 ≤ 3072) (hcc : cc + 414 ≤ 212196) (hcn : cn + 16384 ≤ 8465662) (K : ∀ (cc2 cn2 : Nat) (h2 : Hp) (sz2 : Nat) (d2 : DT), cc2 ≤ cc + 414 → cn2 ≤ cn + 16384 → JW h2 sz2 d2 → Ex Γ mL_law Z cc2 cn2 1288 [.ref 0, .ref 4, .ref 57, .int (nI i)] [] h2 sz2) : Ex Γ mL_law Z cc cn 275 [.ref 0, .ref 4, .ref 57, .int (nI i)] [] h sz := by
  obtain ⟨hX, hM, hd, hL, hsz⟩ := id hJ
  obtain ⟨fs, x4⟩ := hJ.x4
  refine x_aload dL_law_275 rfl ?_
  refine x_aload dL_law_276 rfl ?_
  refine x_iload dL_law_277 rfl ?_
  refine x_k dL_law_278 ?_
  refine x_iadd dL_law_279 ?_
  rw [ixk1]
  refine x_sld dL_law_280 ⟨by omega, by omega⟩ ?_
  refine x_aload dL_law_281 rfl ?_
  refine x_iload dL_law_282 rfl ?_
  refine x_k dL_law_283 ?_
  refine x_iadd dL_law_284 ?_
  rw [ixk2]
  refine x_sld dL_law_285 ⟨by omega, by omega⟩ ?_
  refine x_V2q lL_27 ⟨⟨by decide, by decide⟩, ⟨by show cc + 0 ≤ 212196; omega, by show cn + 0 ≤ 8465662; omega⟩⟩ (cc1 := cc + 0) (cn1 := cn + 0) rfl rfl (Nat.le_of_ble_eq_true rfl) dL_law_286 x4 (c_house _ _ hX hd) ?_
  rintro _ h1 sz1 ⟨rfl, hz1, hX1, hf1⟩
  obtain ⟨hM1, hsz1, fs1, m57⟩ := hJ.cls hz1 hX1 hf1
  refine x_aload dL_law_289 rfl ?_
  refine x_aload dL_law_290 rfl ?_
  refine x_iload dL_law_291 rfl ?_
  refine x_k dL_law_292 ?_
  refine x_iadd dL_law_293 ?_
  rw [ixk1]
  refine x_sld dL_law_294 ⟨by omega, by omega⟩ ?_
  refine x_aload dL_law_295 rfl ?_
  refine x_iload dL_law_296 rfl ?_
  refine x_k dL_law_297 ?_
  refine x_iadd dL_law_298 ?_
  rw [ixk2]
  refine x_sld dL_law_299 ⟨by omega, by omega⟩ ?_
  refine x_V2q lL_30 ⟨⟨by decide, by decide⟩, ⟨by show cc + 0 + 0 ≤ 212196; omega, by show cn + 0 + 0 ≤ 8465662; omega⟩⟩ (cc1 := cc + 0 + 0) (cn1 := cn + 0 + 0) rfl rfl (Nat.le_of_ble_eq_true rfl) dL_law_300 m57 (m_house _ _ hM1 hd) ?_
  rintro _ h2 _ ⟨rfl, rfl, hM2, hf2⟩
  have hJ2 := JW.ref hX1 hsz1 hM2 hf2 hd hL
  refine x_icmp_eq dL_law_303 (fun _ => ?_) (fun b => absurd rfl b)
  exact K _ _ _ _ _ (by omega) (by omega) hJ2
theorem law_4 {Z : ZT} {cc cn i : Nat} (hJ : JW h sz d) (hi : i + 6 ≤ Γ.2.2.2.2.1) (hl : Γ.2.2.2.2.1 ≤ 3072) (hcc : cc + 414 ≤ 212196) (hcn : cn + 16384 ≤ 8465662) (K : ∀ (cc2 cn2 : Nat) (h2 : Hp) (sz2 : Nat) (d2 : DT), cc2 ≤ cc + 414 → cn2 ≤ cn + 16384 → JW h2 sz2 d2 → Ex Γ mL_law Z cc2 cn2 1288 [.ref 0, .ref 4, .ref 57, .int (nI i)] [] h2 sz2) : Ex Γ mL_law Z cc cn 308 [.ref 0, .ref 4, .ref 57, .int (nI i)] [] h sz := by
  obtain ⟨hX, hM, hd, hL, hsz⟩ := id hJ
  obtain ⟨fs, x4⟩ := hJ.x4
  refine x_aload dL_law_308 rfl ?_
  refine x_aload dL_law_309 rfl ?_
  refine x_iload dL_law_310 rfl ?_
  refine x_k dL_law_311 ?_
  refine x_iadd dL_law_312 ?_
  rw [ixk1]
  refine x_sld dL_law_313 ⟨by omega, by omega⟩ ?_
  refine x_aload dL_law_314 rfl ?_
  refine x_iload dL_law_315 rfl ?_
  refine x_k dL_law_316 ?_
  refine x_iadd dL_law_317 ?_
  rw [ixk2]
  refine x_sld dL_law_318 ⟨by omega, by omega⟩ ?_
  refine x_V2q lL_31 ⟨⟨by decide, by decide⟩, ⟨by show cc + 0 ≤ 212196; omega, by show cn + 0 ≤ 8465662; omega⟩⟩ (cc1 := cc + 0) (cn1 := cn + 0) rfl rfl (Nat.le_of_ble_eq_true rfl) dL_law_319 x4 (c_person _ _ hX hd) ?_
  rintro _ h1 sz1 ⟨rfl, hz1, hX1, hf1⟩
  obtain ⟨hM1, hsz1, fs1, m57⟩ := hJ.cls hz1 hX1 hf1
  refine x_aload dL_law_322 rfl ?_
  refine x_aload dL_law_323 rfl ?_
  refine x_iload dL_law_324 rfl ?_
  refine x_k dL_law_325 ?_
  refine x_iadd dL_law_326 ?_
  rw [ixk1]
  refine x_sld dL_law_327 ⟨by omega, by omega⟩ ?_
  refine x_aload dL_law_328 rfl ?_
  refine x_iload dL_law_329 rfl ?_
  refine x_k dL_law_330 ?_
  refine x_iadd dL_law_331 ?_
  rw [ixk2]
  refine x_sld dL_law_332 ⟨by omega, by omega⟩ ?_
  refine x_V2q lL_34 ⟨⟨by decide, by decide⟩, ⟨by show cc + 0 + 0 ≤ 212196; omega, by show cn + 0 + 0 ≤ 8465662; omega⟩⟩ (cc1 := cc + 0 + 0) (cn1 := cn + 0 + 0) rfl rfl (Nat.le_of_ble_eq_true rfl) dL_law_333 m57 (m_person _ _ hM1 hd) ?_
  rintro _ h2 _ ⟨rfl, rfl, hM2, hf2⟩
  have hJ2 := JW.ref hX1 hsz1 hM2 hf2 hd hL
  refine x_icmp_eq dL_law_336 (fun _ => ?_) (fun b => absurd rfl b)
  exact K _ _ _ _ _ (by omega) (by omega) hJ2
theorem law_5 {Z : ZT} {cc cn i : Nat} (hJ : JW h sz d) (hi : i + 6 ≤ Γ.2.2.2.2.1) (hl : Γ.2.2.2.2.1 ≤ 3072) (hcc : cc + 414 ≤ 212196) (hcn : cn + 16384 ≤ 8465662) (K : ∀ (cc2 cn2 : Nat) (h2 : Hp) (sz2 : Nat) (d2 : DT), cc2 ≤ cc + 414 → cn2 ≤ cn + 16384 → JW h2 sz2 d2 → Ex Γ mL_law Z cc2 cn2 1288 [.ref 0, .ref 4, .ref 57, .int (nI i)] [] h2 sz2) : Ex Γ mL_law Z cc cn 341 [.ref 0, .ref 4, .ref 57, .int (nI i)] [] h sz := by
  obtain ⟨hX, hM, hd, hL, hsz⟩ := id hJ
  obtain ⟨fs, x4⟩ := hJ.x4
  refine x_aload dL_law_341 rfl ?_
  refine x_aload dL_law_342 rfl ?_
  refine x_iload dL_law_343 rfl ?_
  refine x_k dL_law_344 ?_
  refine x_iadd dL_law_345 ?_
  rw [ixk1]
  refine x_sld dL_law_346 ⟨by omega, by omega⟩ ?_
  refine x_aload dL_law_347 rfl ?_
  refine x_iload dL_law_348 rfl ?_
  refine x_k dL_law_349 ?_
  refine x_iadd dL_law_350 ?_
  rw [ixk2]
  refine x_sld dL_law_351 ⟨by omega, by omega⟩ ?_
  refine x_V2q lL_35 ⟨⟨by decide, by decide⟩, ⟨by show cc + 0 ≤ 212196; omega, by show cn + 0 ≤ 8465662; omega⟩⟩ (cc1 := cc + 0) (cn1 := cn + 0) rfl rfl (Nat.le_of_ble_eq_true rfl) dL_law_352 x4 (c_law _ _ hX hd) ?_
  rintro _ h1 sz1 ⟨rfl, hz1, hX1, hf1⟩
  obtain ⟨hM1, hsz1, fs1, m57⟩ := hJ.cls hz1 hX1 hf1
  refine x_aload dL_law_355 rfl ?_
  refine x_aload dL_law_356 rfl ?_
  refine x_iload dL_law_357 rfl ?_
  refine x_k dL_law_358 ?_
  refine x_iadd dL_law_359 ?_
  rw [ixk1]
  refine x_sld dL_law_360 ⟨by omega, by omega⟩ ?_
  refine x_aload dL_law_361 rfl ?_
  refine x_iload dL_law_362 rfl ?_
  refine x_k dL_law_363 ?_
  refine x_iadd dL_law_364 ?_
  rw [ixk2]
  refine x_sld dL_law_365 ⟨by omega, by omega⟩ ?_
  refine x_V2q lL_38 ⟨⟨by decide, by decide⟩, ⟨by show cc + 0 + 0 ≤ 212196; omega, by show cn + 0 + 0 ≤ 8465662; omega⟩⟩ (cc1 := cc + 0 + 0) (cn1 := cn + 0 + 0) rfl rfl (Nat.le_of_ble_eq_true rfl) dL_law_366 m57 (m_law _ _ hM1 hd) ?_
  rintro _ h2 _ ⟨rfl, rfl, hM2, hf2⟩
  have hJ2 := JW.ref hX1 hsz1 hM2 hf2 (ok_law _ _ hd) (okL_law _ _ hL)
  refine x_icmp_eq dL_law_369 (fun _ => ?_) (fun b => absurd rfl b)
  exact K _ _ _ _ _ (by omega) (by omega) hJ2
theorem law_6 {Z : ZT} {cc cn i : Nat} (hJ : JW h sz d) (hi : i + 6 ≤ Γ.2.2.2.2.1) (hl : Γ.2.2.2.2.1 ≤ 3072) (hcc : cc + 414 ≤ 212196) (hcn : cn + 16384 ≤ 8465662) (K : ∀ (cc2 cn2 : Nat) (h2 : Hp) (sz2 : Nat) (d2 : DT), cc2 ≤ cc + 414 → cn2 ≤ cn + 16384 → JW h2 sz2 d2 → Ex Γ mL_law Z cc2 cn2 1288 [.ref 0, .ref 4, .ref 57, .int (nI i)] [] h2 sz2) : Ex Γ mL_law Z cc cn 374 [.ref 0, .ref 4, .ref 57, .int (nI i)] [] h sz := by
  obtain ⟨hX, hM, hd, hL, hsz⟩ := id hJ
  obtain ⟨fs, x4⟩ := hJ.x4
  refine x_aload dL_law_374 rfl ?_
  refine x_aload dL_law_375 rfl ?_
  refine x_iload dL_law_376 rfl ?_
  refine x_k dL_law_377 ?_
  refine x_iadd dL_law_378 ?_
  rw [ixk1]
  refine x_sld dL_law_379 ⟨by omega, by omega⟩ ?_
  refine x_aload dL_law_380 rfl ?_
  refine x_iload dL_law_381 rfl ?_
  refine x_k dL_law_382 ?_
  refine x_iadd dL_law_383 ?_
  rw [ixk2]
  refine x_sld dL_law_384 ⟨by omega, by omega⟩ ?_
  refine x_V2q lL_39 ⟨⟨by decide, by decide⟩, ⟨by show cc + 0 ≤ 212196; omega, by show cn + 0 ≤ 8465662; omega⟩⟩ (cc1 := cc + 0) (cn1 := cn + 0) rfl rfl (Nat.le_of_ble_eq_true rfl) dL_law_385 x4 (c_sale _ _ hX hd) ?_
  rintro _ h1 sz1 ⟨rfl, hz1, hX1, hf1⟩
  obtain ⟨hM1, hsz1, fs1, m57⟩ := hJ.cls hz1 hX1 hf1
  refine x_aload dL_law_388 rfl ?_
  refine x_aload dL_law_389 rfl ?_
  refine x_iload dL_law_390 rfl ?_
  refine x_k dL_law_391 ?_
  refine x_iadd dL_law_392 ?_
  rw [ixk1]
  refine x_sld dL_law_393 ⟨by omega, by omega⟩ ?_
  refine x_aload dL_law_394 rfl ?_
  refine x_iload dL_law_395 rfl ?_
  refine x_k dL_law_396 ?_
  refine x_iadd dL_law_397 ?_
  rw [ixk2]
  refine x_sld dL_law_398 ⟨by omega, by omega⟩ ?_
  refine x_V2q lL_42 ⟨⟨by decide, by decide⟩, ⟨by show cc + 0 + 0 ≤ 212196; omega, by show cn + 0 + 0 ≤ 8465662; omega⟩⟩ (cc1 := cc + 0 + 0) (cn1 := cn + 0 + 0) rfl rfl (Nat.le_of_ble_eq_true rfl) dL_law_399 m57 (m_sale _ _ hM1 hd) ?_
  rintro _ h2 _ ⟨rfl, rfl, hM2, hf2⟩
  have hJ2 := JW.ref hX1 hsz1 hM2 hf2 (ok_sale _ _ hd) (okL_sale _ _ hL)
  refine x_icmp_eq dL_law_402 (fun _ => ?_) (fun b => absurd rfl b)
  exact K _ _ _ _ _ (by omega) (by omega) hJ2
theorem law_7 {Z : ZT} {cc cn i : Nat} (hJ : JW h sz d) (hi : i + 6 ≤ Γ.2.2.2.2.1) (hl : Γ.2.2.2.2.1 ≤ 3072) (hcc : cc + 414 ≤ 212196) (hcn : cn + 16384 ≤ 8465662) (K : ∀ (cc2 cn2 : Nat) (h2 : Hp) (sz2 : Nat) (d2 : DT), cc2 ≤ cc + 414 → cn2 ≤ cn + 16384 → JW h2 sz2 d2 → Ex Γ mL_law Z cc2 cn2 1288 [.ref 0, .ref 4, .ref 57, .int (nI i)] [] h2 sz2) : Ex Γ mL_law Z cc cn 407 [.ref 0, .ref 4, .ref 57, .int (nI i)] [] h sz := by
  obtain ⟨hX, hM, hd, hL, hsz⟩ := id hJ
  obtain ⟨fs, x4⟩ := hJ.x4
  refine x_aload dL_law_407 rfl ?_
  refine x_aload dL_law_408 rfl ?_
  refine x_iload dL_law_409 rfl ?_
  refine x_k dL_law_410 ?_
  refine x_iadd dL_law_411 ?_
  rw [ixk1]
  refine x_sld dL_law_412 ⟨by omega, by omega⟩ ?_
  refine x_V1q lL_43 ⟨⟨by decide, by decide⟩, ⟨by show cc + 0 ≤ 212196; omega, by show cn + 0 ≤ 8465662; omega⟩⟩ (cc1 := cc + 0) (cn1 := cn + 0) rfl rfl (Nat.le_of_ble_eq_true rfl) dL_law_413 x4 (c_read _ hX hd) ?_
  rintro _ h1 sz1 ⟨rfl, hz1, hX1, hf1⟩
  obtain ⟨hM1, hsz1, fs1, m57⟩ := hJ.cls hz1 hX1 hf1
  refine x_aload dL_law_416 rfl ?_
  refine x_aload dL_law_417 rfl ?_
  refine x_iload dL_law_418 rfl ?_
  refine x_k dL_law_419 ?_
  refine x_iadd dL_law_420 ?_
  rw [ixk1]
  refine x_sld dL_law_421 ⟨by omega, by omega⟩ ?_
  refine x_V1q lL_46 ⟨⟨by decide, by decide⟩, ⟨by show cc + 0 + 0 ≤ 212196; omega, by show cn + 0 + 0 ≤ 8465662; omega⟩⟩ (cc1 := cc + 0 + 0) (cn1 := cn + 0 + 0) rfl rfl (Nat.le_of_ble_eq_true rfl) dL_law_422 m57 (m_read _ hM1 hd) ?_
  rintro _ h2 _ ⟨rfl, rfl, hM2, hf2⟩
  have hJ2 := JW.ref hX1 hsz1 hM2 hf2 (ok_read _ hd) (okL_read _ hL)
  refine x_icmp_eq dL_law_425 (fun _ => ?_) (fun b => absurd rfl b)
  exact K _ _ _ _ _ (by omega) (by omega) hJ2
theorem law_8 {Z : ZT} {cc cn i : Nat} (hJ : JW h sz d) (hi : i + 6 ≤ Γ.2.2.2.2.1) (hl : Γ.2.2.2.2.1 ≤ 3072) (hcc : cc + 414 ≤ 212196) (hcn : cn + 16384 ≤ 8465662) (K : ∀ (cc2 cn2 : Nat) (h2 : Hp) (sz2 : Nat) (d2 : DT), cc2 ≤ cc + 414 → cn2 ≤ cn + 16384 → JW h2 sz2 d2 → Ex Γ mL_law Z cc2 cn2 1288 [.ref 0, .ref 4, .ref 57, .int (nI i)] [] h2 sz2) : Ex Γ mL_law Z cc cn 430 [.ref 0, .ref 4, .ref 57, .int (nI i)] [] h sz := by
  obtain ⟨hX, hM, hd, hL, hsz⟩ := id hJ
  obtain ⟨fs, x4⟩ := hJ.x4
  refine x_aload dL_law_430 rfl ?_
  refine x_V0q lL_47 ⟨⟨by decide, by decide⟩, ⟨by show cc + 0 ≤ 212196; omega, by show cn + 0 ≤ 8465662; omega⟩⟩ (cc1 := cc + 0) (cn1 := cn + 0) rfl rfl (Nat.le_of_ble_eq_true rfl) dL_law_431 x4 (c_undo  hX hd) ?_
  rintro _ h1 sz1 ⟨rfl, hz1, hX1, hf1⟩
  obtain ⟨hM1, hsz1, fs1, m57⟩ := hJ.cls hz1 hX1 hf1
  refine x_aload dL_law_434 rfl ?_
  refine x_V0q lL_51 ⟨⟨by decide, by decide⟩, ⟨by show cc + 0 + 0 ≤ 212196; omega, by show cn + 0 + 0 ≤ 8465662; omega⟩⟩ (cc1 := cc + 0 + 0) (cn1 := cn + 0 + 0) rfl rfl (Nat.le_of_ble_eq_true rfl) dL_law_435 m57 (m_undo  hM1 hd) ?_
  rintro _ h2 _ ⟨rfl, rfl, hM2, hf2⟩
  have hJ2 := JW.ref hX1 hsz1 hM2 hf2 (ok_undo  hd) (okL_undo  hL)
  refine x_icmp_eq dL_law_438 (fun _ => ?_) (fun b => absurd rfl b)
  exact K _ _ _ _ _ (by omega) (by omega) hJ2
theorem law_9 {Z : ZT} {cc cn i : Nat} (hJ : JW h sz d) (hi : i + 6 ≤ Γ.2.2.2.2.1) (hl : Γ.2.2.2.2.1 ≤ 3072) (hcc : cc + 414 ≤ 212196) (hcn : cn + 16384 ≤ 8465662) (K : ∀ (cc2 cn2 : Nat) (h2 : Hp) (sz2 : Nat) (d2 : DT), cc2 ≤ cc + 414 → cn2 ≤ cn + 16384 → JW h2 sz2 d2 → Ex Γ mL_law Z cc2 cn2 1288 [.ref 0, .ref 4, .ref 57, .int (nI i)] [] h2 sz2) : Ex Γ mL_law Z cc cn 443 [.ref 0, .ref 4, .ref 57, .int (nI i)] [] h sz := by
  obtain ⟨hX, hM, hd, hL, hsz⟩ := id hJ
  obtain ⟨fs, x4⟩ := hJ.x4
  refine x_aload dL_law_443 rfl ?_
  refine x_aload dL_law_444 rfl ?_
  refine x_iload dL_law_445 rfl ?_
  refine x_k dL_law_446 ?_
  refine x_iadd dL_law_447 ?_
  rw [ixk1]
  refine x_sld dL_law_448 ⟨by omega, by omega⟩ ?_
  refine x_aload dL_law_449 rfl ?_
  refine x_iload dL_law_450 rfl ?_
  refine x_k dL_law_451 ?_
  refine x_iadd dL_law_452 ?_
  rw [ixk2]
  refine x_sld dL_law_453 ⟨by omega, by omega⟩ ?_
  refine x_V2q lL_52 ⟨⟨by decide, by decide⟩, ⟨by show cc + 0 ≤ 212196; omega, by show cn + 0 ≤ 8465662; omega⟩⟩ (cc1 := cc + 0) (cn1 := cn + 0) rfl rfl (Nat.le_of_ble_eq_true rfl) dL_law_454 x4 ((c_whose _ _ hX.1 hX.2.1 hd).mono (fun _ _ _ q => qX_W hX.2.2.1 hX.2.2.2 q)) ?_
  rintro _ h1 sz1 ⟨rfl, hz1, hX1, hf1⟩
  obtain ⟨hM1, hsz1, fs1, m57⟩ := hJ.cls hz1 hX1 hf1
  refine x_aload dL_law_457 rfl ?_
  refine x_aload dL_law_458 rfl ?_
  refine x_iload dL_law_459 rfl ?_
  refine x_k dL_law_460 ?_
  refine x_iadd dL_law_461 ?_
  rw [ixk1]
  refine x_sld dL_law_462 ⟨by omega, by omega⟩ ?_
  refine x_aload dL_law_463 rfl ?_
  refine x_iload dL_law_464 rfl ?_
  refine x_k dL_law_465 ?_
  refine x_iadd dL_law_466 ?_
  rw [ixk2]
  refine x_sld dL_law_467 ⟨by omega, by omega⟩ ?_
  refine x_V2q lL_55 ⟨⟨by decide, by decide⟩, ⟨by show cc + 0 + 0 ≤ 212196; omega, by show cn + 0 + 0 ≤ 8465662; omega⟩⟩ (cc1 := cc + 0 + 0) (cn1 := cn + 0 + 0) rfl rfl (Nat.le_of_ble_eq_true rfl) dL_law_468 m57 (m_whose _ _ hM1 hd) ?_
  rintro _ h2 _ ⟨rfl, rfl, hM2, hf2⟩
  have hJ2 := JW.ref hX1 hsz1 hM2 hf2 hd hL
  refine x_icmp_eq dL_law_471 (fun _ => ?_) (fun b => absurd rfl b)
  exact K _ _ _ _ _ (by omega) (by omega) hJ2
theorem law_10 {Z : ZT} {cc cn i : Nat} (hJ : JW h sz d) (hi : i + 6 ≤ Γ.2.2.2.2.1) (hl : Γ.2.2.2.2.1 ≤ 3072) (hcc : cc + 414 ≤ 212196) (hcn : cn + 16384 ≤ 8465662) (K : ∀ (cc2 cn2 : Nat) (h2 : Hp) (sz2 : Nat) (d2 : DT), cc2 ≤ cc + 414 → cn2 ≤ cn + 16384 → JW h2 sz2 d2 → Ex Γ mL_law Z cc2 cn2 1288 [.ref 0, .ref 4, .ref 57, .int (nI i)] [] h2 sz2) : Ex Γ mL_law Z cc cn 476 [.ref 0, .ref 4, .ref 57, .int (nI i)] [] h sz := by
  obtain ⟨hX, hM, hd, hL, hsz⟩ := id hJ
  obtain ⟨fs, x4⟩ := hJ.x4
  refine x_aload dL_law_476 rfl ?_
  refine x_aload dL_law_477 rfl ?_
  refine x_iload dL_law_478 rfl ?_
  refine x_k dL_law_479 ?_
  refine x_iadd dL_law_480 ?_
  rw [ixk1]
  refine x_sld dL_law_481 ⟨by omega, by omega⟩ ?_
  refine x_aload dL_law_482 rfl ?_
  refine x_iload dL_law_483 rfl ?_
  refine x_k dL_law_484 ?_
  refine x_iadd dL_law_485 ?_
  rw [ixk2]
  refine x_sld dL_law_486 ⟨by omega, by omega⟩ ?_
  refine x_V2q lL_56 ⟨⟨by decide, by decide⟩, ⟨by show cc + 0 ≤ 212196; omega, by show cn + 0 ≤ 8465662; omega⟩⟩ (cc1 := cc + 0) (cn1 := cn + 0) rfl rfl (Nat.le_of_ble_eq_true rfl) dL_law_487 x4 ((c_keeper _ _ hX.1 hX.2.1 hd).mono (fun _ _ _ q => qX_W hX.2.2.1 hX.2.2.2 q)) ?_
  rintro _ h1 sz1 ⟨rfl, hz1, hX1, hf1⟩
  obtain ⟨hM1, hsz1, fs1, m57⟩ := hJ.cls hz1 hX1 hf1
  refine x_aload dL_law_490 rfl ?_
  refine x_aload dL_law_491 rfl ?_
  refine x_iload dL_law_492 rfl ?_
  refine x_k dL_law_493 ?_
  refine x_iadd dL_law_494 ?_
  rw [ixk1]
  refine x_sld dL_law_495 ⟨by omega, by omega⟩ ?_
  refine x_aload dL_law_496 rfl ?_
  refine x_iload dL_law_497 rfl ?_
  refine x_k dL_law_498 ?_
  refine x_iadd dL_law_499 ?_
  rw [ixk2]
  refine x_sld dL_law_500 ⟨by omega, by omega⟩ ?_
  refine x_V2q lL_59 ⟨⟨by decide, by decide⟩, ⟨by show cc + 0 + 0 ≤ 212196; omega, by show cn + 0 + 0 ≤ 8465662; omega⟩⟩ (cc1 := cc + 0 + 0) (cn1 := cn + 0 + 0) rfl rfl (Nat.le_of_ble_eq_true rfl) dL_law_501 m57 (m_keeper _ _ hM1 hd) ?_
  rintro _ h2 _ ⟨rfl, rfl, hM2, hf2⟩
  have hJ2 := JW.ref hX1 hsz1 hM2 hf2 hd hL
  refine x_icmp_eq dL_law_504 (fun _ => ?_) (fun b => absurd rfl b)
  exact K _ _ _ _ _ (by omega) (by omega) hJ2
theorem law_11 {Z : ZT} {cc cn i : Nat} (hJ : JW h sz d) (hi : i + 6 ≤ Γ.2.2.2.2.1) (hl : Γ.2.2.2.2.1 ≤ 3072) (hcc : cc + 414 ≤ 212196) (hcn : cn + 16384 ≤ 8465662) (K : ∀ (cc2 cn2 : Nat) (h2 : Hp) (sz2 : Nat) (d2 : DT), cc2 ≤ cc + 414 → cn2 ≤ cn + 16384 → JW h2 sz2 d2 → Ex Γ mL_law Z cc2 cn2 1288 [.ref 0, .ref 4, .ref 57, .int (nI i)] [] h2 sz2) : Ex Γ mL_law Z cc cn 509 [.ref 0, .ref 4, .ref 57, .int (nI i)] [] h sz := by
  obtain ⟨hX, hM, hd, hL, hsz⟩ := id hJ
  obtain ⟨fs, x4⟩ := hJ.x4
  refine x_aload dL_law_509 rfl ?_
  refine x_aload dL_law_510 rfl ?_
  refine x_iload dL_law_511 rfl ?_
  refine x_k dL_law_512 ?_
  refine x_iadd dL_law_513 ?_
  rw [ixk1]
  refine x_sld dL_law_514 ⟨by omega, by omega⟩ ?_
  refine x_aload dL_law_515 rfl ?_
  refine x_iload dL_law_516 rfl ?_
  refine x_k dL_law_517 ?_
  refine x_iadd dL_law_518 ?_
  rw [ixk2]
  refine x_sld dL_law_519 ⟨by omega, by omega⟩ ?_
  refine x_V2q lL_60 ⟨⟨by decide, by decide⟩, ⟨by show cc + 0 ≤ 212196; omega, by show cn + 0 ≤ 8465662; omega⟩⟩ (cc1 := cc + 0) (cn1 := cn + 0) rfl rfl (Nat.le_of_ble_eq_true rfl) dL_law_520 x4 ((c_sold _ _ hX.1 hX.2.1 hd).mono (fun _ _ _ q => qX_W hX.2.2.1 hX.2.2.2 q)) ?_
  rintro _ h1 sz1 ⟨rfl, hz1, hX1, hf1⟩
  obtain ⟨hM1, hsz1, fs1, m57⟩ := hJ.cls hz1 hX1 hf1
  refine x_aload dL_law_523 rfl ?_
  refine x_aload dL_law_524 rfl ?_
  refine x_iload dL_law_525 rfl ?_
  refine x_k dL_law_526 ?_
  refine x_iadd dL_law_527 ?_
  rw [ixk1]
  refine x_sld dL_law_528 ⟨by omega, by omega⟩ ?_
  refine x_aload dL_law_529 rfl ?_
  refine x_iload dL_law_530 rfl ?_
  refine x_k dL_law_531 ?_
  refine x_iadd dL_law_532 ?_
  rw [ixk2]
  refine x_sld dL_law_533 ⟨by omega, by omega⟩ ?_
  refine x_V2q lL_63 ⟨⟨by decide, by decide⟩, ⟨by show cc + 0 + 0 ≤ 212196; omega, by show cn + 0 + 0 ≤ 8465662; omega⟩⟩ (cc1 := cc + 0 + 0) (cn1 := cn + 0 + 0) rfl rfl (Nat.le_of_ble_eq_true rfl) dL_law_534 m57 (m_sold _ _ hM1 hd) ?_
  rintro _ h2 _ ⟨rfl, rfl, hM2, hf2⟩
  have hJ2 := JW.ref hX1 hsz1 hM2 hf2 hd hL
  refine x_icmp_eq dL_law_537 (fun _ => ?_) (fun b => absurd rfl b)
  exact K _ _ _ _ _ (by omega) (by omega) hJ2
theorem law_12 {Z : ZT} {cc cn i : Nat} (hJ : JW h sz d) (hi : i + 6 ≤ Γ.2.2.2.2.1) (hl : Γ.2.2.2.2.1 ≤ 3072) (hcc : cc + 414 ≤ 212196) (hcn : cn + 16384 ≤ 8465662) (K : ∀ (cc2 cn2 : Nat) (h2 : Hp) (sz2 : Nat) (d2 : DT), cc2 ≤ cc + 414 → cn2 ≤ cn + 16384 → JW h2 sz2 d2 → Ex Γ mL_law Z cc2 cn2 1288 [.ref 0, .ref 4, .ref 57, .int (nI i)] [] h2 sz2) : Ex Γ mL_law Z cc cn 542 [.ref 0, .ref 4, .ref 57, .int (nI i)] [] h sz := by
  obtain ⟨hX, hM, hd, hL, hsz⟩ := id hJ
  obtain ⟨fs, x4⟩ := hJ.x4
  refine x_aload dL_law_542 rfl ?_
  refine x_aload dL_law_543 rfl ?_
  refine x_iload dL_law_544 rfl ?_
  refine x_k dL_law_545 ?_
  refine x_iadd dL_law_546 ?_
  rw [ixk1]
  refine x_sld dL_law_547 ⟨by omega, by omega⟩ ?_
  refine x_V1q lL_64 ⟨⟨by decide, by decide⟩, ⟨by show cc + 0 ≤ 212196; omega, by show cn + 0 ≤ 8465662; omega⟩⟩ (cc1 := cc + 0) (cn1 := cn + 0) rfl rfl (Nat.le_of_ble_eq_true rfl) dL_law_548 x4 ((c_length _ hX.1 hX.2.1 hd).mono (fun _ _ _ q => qX_W hX.2.2.1 hX.2.2.2 q)) ?_
  rintro _ h1 sz1 ⟨rfl, hz1, hX1, hf1⟩
  obtain ⟨hM1, hsz1, fs1, m57⟩ := hJ.cls hz1 hX1 hf1
  refine x_aload dL_law_551 rfl ?_
  refine x_aload dL_law_552 rfl ?_
  refine x_iload dL_law_553 rfl ?_
  refine x_k dL_law_554 ?_
  refine x_iadd dL_law_555 ?_
  rw [ixk1]
  refine x_sld dL_law_556 ⟨by omega, by omega⟩ ?_
  refine x_V1q lL_67 ⟨⟨by decide, by decide⟩, ⟨by show cc + 0 + 0 ≤ 212196; omega, by show cn + 0 + 0 ≤ 8465662; omega⟩⟩ (cc1 := cc + 0 + 0) (cn1 := cn + 0 + 0) rfl rfl (Nat.le_of_ble_eq_true rfl) dL_law_557 m57 (m_length _ hM1 hd) ?_
  rintro _ h2 _ ⟨rfl, rfl, hM2, hf2⟩
  have hJ2 := JW.ref hX1 hsz1 hM2 hf2 hd hL
  refine x_icmp_eq dL_law_560 (fun _ => ?_) (fun b => absurd rfl b)
  exact K _ _ _ _ _ (by omega) (by omega) hJ2
theorem law_13 {Z : ZT} {cc cn i : Nat} (hJ : JW h sz d) (hi : i + 6 ≤ Γ.2.2.2.2.1) (hl : Γ.2.2.2.2.1 ≤ 3072) (hcc : cc + 414 ≤ 212196) (hcn : cn + 16384 ≤ 8465662) (K : ∀ (cc2 cn2 : Nat) (h2 : Hp) (sz2 : Nat) (d2 : DT), cc2 ≤ cc + 414 → cn2 ≤ cn + 16384 → JW h2 sz2 d2 → Ex Γ mL_law Z cc2 cn2 1288 [.ref 0, .ref 4, .ref 57, .int (nI i)] [] h2 sz2) : Ex Γ mL_law Z cc cn 565 [.ref 0, .ref 4, .ref 57, .int (nI i)] [] h sz := by
  obtain ⟨hX, hM, hd, hL, hsz⟩ := id hJ
  obtain ⟨fs, x4⟩ := hJ.x4
  refine x_aload dL_law_565 rfl ?_
  refine x_aload dL_law_566 rfl ?_
  refine x_iload dL_law_567 rfl ?_
  refine x_k dL_law_568 ?_
  refine x_iadd dL_law_569 ?_
  rw [ixk1]
  refine x_sld dL_law_570 ⟨by omega, by omega⟩ ?_
  refine x_aload dL_law_571 rfl ?_
  refine x_iload dL_law_572 rfl ?_
  refine x_k dL_law_573 ?_
  refine x_iadd dL_law_574 ?_
  rw [ixk2]
  refine x_sld dL_law_575 ⟨by omega, by omega⟩ ?_
  refine x_aload dL_law_576 rfl ?_
  refine x_iload dL_law_577 rfl ?_
  refine x_k dL_law_578 ?_
  refine x_iadd dL_law_579 ?_
  rw [ixk3]
  refine x_sld dL_law_580 ⟨by omega, by omega⟩ ?_
  refine x_V3q lL_68 ⟨⟨by decide, by decide⟩, ⟨by show cc + 0 ≤ 212196; omega, by show cn + 0 ≤ 8465662; omega⟩⟩ (cc1 := cc + 0) (cn1 := cn + 0) rfl rfl (Nat.le_of_ble_eq_true rfl) dL_law_581 x4 (c_worth _ _ _ hX) ?_
  rintro _ h1 sz1 ⟨rfl, hz1, hX1, hf1⟩
  obtain ⟨hM1, hsz1, fs1, m57⟩ := hJ.cls hz1 hX1 hf1
  refine x_aload dL_law_584 rfl ?_
  refine x_aload dL_law_585 rfl ?_
  refine x_iload dL_law_586 rfl ?_
  refine x_k dL_law_587 ?_
  refine x_iadd dL_law_588 ?_
  rw [ixk1]
  refine x_sld dL_law_589 ⟨by omega, by omega⟩ ?_
  refine x_aload dL_law_590 rfl ?_
  refine x_iload dL_law_591 rfl ?_
  refine x_k dL_law_592 ?_
  refine x_iadd dL_law_593 ?_
  rw [ixk2]
  refine x_sld dL_law_594 ⟨by omega, by omega⟩ ?_
  refine x_aload dL_law_595 rfl ?_
  refine x_iload dL_law_596 rfl ?_
  refine x_k dL_law_597 ?_
  refine x_iadd dL_law_598 ?_
  rw [ixk3]
  refine x_sld dL_law_599 ⟨by omega, by omega⟩ ?_
  refine x_V3q lL_72 ⟨⟨by decide, by decide⟩, ⟨by show cc + 0 + 0 ≤ 212196; omega, by show cn + 0 + 0 ≤ 8465662; omega⟩⟩ (cc1 := cc + 0 + 0) (cn1 := cn + 0 + 0) rfl rfl (Nat.le_of_ble_eq_true rfl) dL_law_600 m57 (m_worth _ _ _ hM1) ?_
  rintro _ h2 _ ⟨rfl, rfl, hM2, hf2⟩
  have hJ2 := JW.ref hX1 hsz1 hM2 hf2 (ok_worth _ _ _ hd) (okL_worth _ _ _ hL)
  refine x_icmp_eq dL_law_603 (fun _ => ?_) (fun b => absurd rfl b)
  exact K _ _ _ _ _ (by omega) (by omega) hJ2
theorem law_14 {Z : ZT} {cc cn i : Nat} (hJ : JW h sz d) (hi : i + 6 ≤ Γ.2.2.2.2.1) (hl : Γ.2.2.2.2.1 ≤ 3072) (hcc : cc + 414 ≤ 212196) (hcn : cn + 16384 ≤ 8465662) (K : ∀ (cc2 cn2 : Nat) (h2 : Hp) (sz2 : Nat) (d2 : DT), cc2 ≤ cc + 414 → cn2 ≤ cn + 16384 → JW h2 sz2 d2 → Ex Γ mL_law Z cc2 cn2 1288 [.ref 0, .ref 4, .ref 57, .int (nI i)] [] h2 sz2) : Ex Γ mL_law Z cc cn 608 [.ref 0, .ref 4, .ref 57, .int (nI i)] [] h sz := by
  obtain ⟨hX, hM, hd, hL, hsz⟩ := id hJ
  obtain ⟨fs, x4⟩ := hJ.x4
  refine x_aload dL_law_608 rfl ?_
  refine x_aload dL_law_609 rfl ?_
  refine x_iload dL_law_610 rfl ?_
  refine x_k dL_law_611 ?_
  refine x_iadd dL_law_612 ?_
  rw [ixk1]
  refine x_sld dL_law_613 ⟨by omega, by omega⟩ ?_
  refine x_aload dL_law_614 rfl ?_
  refine x_iload dL_law_615 rfl ?_
  refine x_k dL_law_616 ?_
  refine x_iadd dL_law_617 ?_
  rw [ixk2]
  refine x_sld dL_law_618 ⟨by omega, by omega⟩ ?_
  refine x_aload dL_law_619 rfl ?_
  refine x_iload dL_law_620 rfl ?_
  refine x_k dL_law_621 ?_
  refine x_iadd dL_law_622 ?_
  rw [ixk3]
  refine x_sld dL_law_623 ⟨by omega, by omega⟩ ?_
  refine x_V3q lL_73 ⟨⟨by decide, by decide⟩, ⟨by show cc + 0 ≤ 212196; omega, by show cn + 0 ≤ 8465662; omega⟩⟩ (cc1 := cc + 0) (cn1 := cn + 0) rfl rfl (Nat.le_of_ble_eq_true rfl) dL_law_624 x4 (c_like _ _ _ hX) ?_
  rintro _ h1 sz1 ⟨rfl, hz1, hX1, hf1⟩
  obtain ⟨hM1, hsz1, fs1, m57⟩ := hJ.cls hz1 hX1 hf1
  refine x_aload dL_law_627 rfl ?_
  refine x_aload dL_law_628 rfl ?_
  refine x_iload dL_law_629 rfl ?_
  refine x_k dL_law_630 ?_
  refine x_iadd dL_law_631 ?_
  rw [ixk1]
  refine x_sld dL_law_632 ⟨by omega, by omega⟩ ?_
  refine x_aload dL_law_633 rfl ?_
  refine x_iload dL_law_634 rfl ?_
  refine x_k dL_law_635 ?_
  refine x_iadd dL_law_636 ?_
  rw [ixk2]
  refine x_sld dL_law_637 ⟨by omega, by omega⟩ ?_
  refine x_aload dL_law_638 rfl ?_
  refine x_iload dL_law_639 rfl ?_
  refine x_k dL_law_640 ?_
  refine x_iadd dL_law_641 ?_
  rw [ixk3]
  refine x_sld dL_law_642 ⟨by omega, by omega⟩ ?_
  refine x_V3q lL_76 ⟨⟨by decide, by decide⟩, ⟨by show cc + 0 + 0 ≤ 212196; omega, by show cn + 0 + 0 ≤ 8465662; omega⟩⟩ (cc1 := cc + 0 + 0) (cn1 := cn + 0 + 0) rfl rfl (Nat.le_of_ble_eq_true rfl) dL_law_643 m57 (m_like _ _ _ hM1) ?_
  rintro _ h2 _ ⟨rfl, rfl, hM2, hf2⟩
  have hJ2 := JW.ref hX1 hsz1 hM2 hf2 (ok_like _ _ _ hd) (okL_like _ _ _ hL)
  refine x_icmp_eq dL_law_646 (fun _ => ?_) (fun b => absurd rfl b)
  exact K _ _ _ _ _ (by omega) (by omega) hJ2
theorem law_15 {Z : ZT} {cc cn i : Nat} (hJ : JW h sz d) (hi : i + 6 ≤ Γ.2.2.2.2.1) (hl : Γ.2.2.2.2.1 ≤ 3072) (hcc : cc + 414 ≤ 212196) (hcn : cn + 16384 ≤ 8465662) (K : ∀ (cc2 cn2 : Nat) (h2 : Hp) (sz2 : Nat) (d2 : DT), cc2 ≤ cc + 414 → cn2 ≤ cn + 16384 → JW h2 sz2 d2 → Ex Γ mL_law Z cc2 cn2 1288 [.ref 0, .ref 4, .ref 57, .int (nI i)] [] h2 sz2) : Ex Γ mL_law Z cc cn 651 [.ref 0, .ref 4, .ref 57, .int (nI i)] [] h sz := by
  obtain ⟨hX, hM, hd, hL, hsz⟩ := id hJ
  obtain ⟨fs, x4⟩ := hJ.x4
  refine x_aload dL_law_651 rfl ?_
  refine x_aload dL_law_652 rfl ?_
  refine x_iload dL_law_653 rfl ?_
  refine x_k dL_law_654 ?_
  refine x_iadd dL_law_655 ?_
  rw [ixk1]
  refine x_sld dL_law_656 ⟨by omega, by omega⟩ ?_
  refine x_V1q lL_77 ⟨⟨by decide, by decide⟩, ⟨by show cc + 0 ≤ 212196; omega, by show cn + 0 ≤ 8465662; omega⟩⟩ (cc1 := cc + 0) (cn1 := cn + 0) rfl rfl (Nat.le_of_ble_eq_true rfl) dL_law_657 x4 ((c_gain _ hX.1 hX.2.1 hd).mono (fun _ _ _ q => qX_W hX.2.2.1 hX.2.2.2 q)) ?_
  rintro _ h1 sz1 ⟨rfl, hz1, hX1, hf1⟩
  obtain ⟨hM1, hsz1, fs1, m57⟩ := hJ.cls hz1 hX1 hf1
  refine x_aload dL_law_660 rfl ?_
  refine x_aload dL_law_661 rfl ?_
  refine x_iload dL_law_662 rfl ?_
  refine x_k dL_law_663 ?_
  refine x_iadd dL_law_664 ?_
  rw [ixk1]
  refine x_sld dL_law_665 ⟨by omega, by omega⟩ ?_
  refine x_V1q lL_80 ⟨⟨by decide, by decide⟩, ⟨by show cc + 0 + 0 ≤ 212196; omega, by show cn + 0 + 0 ≤ 8465662; omega⟩⟩ (cc1 := cc + 0 + 0) (cn1 := cn + 0 + 0) rfl rfl (Nat.le_of_ble_eq_true rfl) dL_law_666 m57 (m_gain _ hM1 hd) ?_
  rintro _ h2 _ ⟨rfl, rfl, hM2, hf2⟩
  have hJ2 := JW.ref hX1 hsz1 hM2 hf2 hd hL
  refine x_icmp_eq dL_law_669 (fun _ => ?_) (fun b => absurd rfl b)
  exact K _ _ _ _ _ (by omega) (by omega) hJ2
theorem law_16 {Z : ZT} {cc cn i : Nat} (hJ : JW h sz d) (hi : i + 6 ≤ Γ.2.2.2.2.1) (hl : Γ.2.2.2.2.1 ≤ 3072) (hcc : cc + 414 ≤ 212196) (hcn : cn + 16384 ≤ 8465662) (K : ∀ (cc2 cn2 : Nat) (h2 : Hp) (sz2 : Nat) (d2 : DT), cc2 ≤ cc + 414 → cn2 ≤ cn + 16384 → JW h2 sz2 d2 → Ex Γ mL_law Z cc2 cn2 1288 [.ref 0, .ref 4, .ref 57, .int (nI i)] [] h2 sz2) : Ex Γ mL_law Z cc cn 674 [.ref 0, .ref 4, .ref 57, .int (nI i)] [] h sz := by
  obtain ⟨hX, hM, hd, hL, hsz⟩ := id hJ
  obtain ⟨fs, x4⟩ := hJ.x4
  refine x_aload dL_law_674 rfl ?_
  refine x_aload dL_law_675 rfl ?_
  refine x_iload dL_law_676 rfl ?_
  refine x_k dL_law_677 ?_
  refine x_iadd dL_law_678 ?_
  rw [ixk1]
  refine x_sld dL_law_679 ⟨by omega, by omega⟩ ?_
  refine x_aload dL_law_680 rfl ?_
  refine x_iload dL_law_681 rfl ?_
  refine x_k dL_law_682 ?_
  refine x_iadd dL_law_683 ?_
  rw [ixk2]
  refine x_sld dL_law_684 ⟨by omega, by omega⟩ ?_
  refine x_V2q lL_81 ⟨⟨by decide, by decide⟩, ⟨by show cc + 1 ≤ 212196; omega, by show cn + 6561 ≤ 8465662; omega⟩⟩ (cc1 := cc + 1) (cn1 := cn + 6561) rfl rfl (Nat.le_of_ble_eq_true rfl) dL_law_685 x4 (c_best _ _ hX hd hsz) ?_
  rintro _ h1 sz1 ⟨rfl, hz1, hX1, hf1⟩
  obtain ⟨hM1, hsz1, fs1, m57⟩ := hJ.cls hz1 hX1 hf1
  refine x_aload dL_law_688 rfl ?_
  refine x_aload dL_law_689 rfl ?_
  refine x_iload dL_law_690 rfl ?_
  refine x_k dL_law_691 ?_
  refine x_iadd dL_law_692 ?_
  rw [ixk1]
  refine x_sld dL_law_693 ⟨by omega, by omega⟩ ?_
  refine x_aload dL_law_694 rfl ?_
  refine x_iload dL_law_695 rfl ?_
  refine x_k dL_law_696 ?_
  refine x_iadd dL_law_697 ?_
  rw [ixk2]
  refine x_sld dL_law_698 ⟨by omega, by omega⟩ ?_
  refine x_V2q lL_84 ⟨⟨by decide, by decide⟩, ⟨by show cc + 1 + 0 ≤ 212196; omega, by show cn + 6561 + 0 ≤ 8465662; omega⟩⟩ (cc1 := cc + 1 + 0) (cn1 := cn + 6561 + 0) rfl rfl (Nat.le_of_ble_eq_true rfl) dL_law_699 m57 (m_best _ _ hM1 hd) ?_
  rintro _ h2 _ ⟨rfl, rfl, hM2, hf2⟩
  have hJ2 := JW.ref hX1 hsz1 hM2 hf2 hd hL
  refine x_icmp_eq dL_law_702 (fun _ => ?_) (fun b => absurd rfl b)
  exact K _ _ _ _ _ (by omega) (by omega) hJ2
theorem law_17 {Z : ZT} {cc cn i : Nat} (hJ : JW h sz d) (hi : i + 6 ≤ Γ.2.2.2.2.1) (hl : Γ.2.2.2.2.1 ≤ 3072) (hcc : cc + 414 ≤ 212196) (hcn : cn + 16384 ≤ 8465662) (K : ∀ (cc2 cn2 : Nat) (h2 : Hp) (sz2 : Nat) (d2 : DT), cc2 ≤ cc + 414 → cn2 ≤ cn + 16384 → JW h2 sz2 d2 → Ex Γ mL_law Z cc2 cn2 1288 [.ref 0, .ref 4, .ref 57, .int (nI i)] [] h2 sz2) : Ex Γ mL_law Z cc cn 707 [.ref 0, .ref 4, .ref 57, .int (nI i)] [] h sz := by
  obtain ⟨hX, hM, hd, hL, hsz⟩ := id hJ
  obtain ⟨fs, x4⟩ := hJ.x4
  refine x_aload dL_law_707 rfl ?_
  refine x_aload dL_law_708 rfl ?_
  refine x_iload dL_law_709 rfl ?_
  refine x_k dL_law_710 ?_
  refine x_iadd dL_law_711 ?_
  rw [ixk1]
  refine x_sld dL_law_712 ⟨by omega, by omega⟩ ?_
  refine x_V1q lL_85 ⟨⟨by decide, by decide⟩, ⟨by show cc + 1 ≤ 212196; omega, by show cn + 6561 ≤ 8465662; omega⟩⟩ (cc1 := cc + 1) (cn1 := cn + 6561) rfl rfl (Nat.le_of_ble_eq_true rfl) dL_law_713 x4 (c_rest _ hX hd hsz) ?_
  rintro _ h1 sz1 ⟨rfl, hz1, hX1, hf1⟩
  obtain ⟨hM1, hsz1, fs1, m57⟩ := hJ.cls hz1 hX1 hf1
  refine x_aload dL_law_716 rfl ?_
  refine x_aload dL_law_717 rfl ?_
  refine x_iload dL_law_718 rfl ?_
  refine x_k dL_law_719 ?_
  refine x_iadd dL_law_720 ?_
  rw [ixk1]
  refine x_sld dL_law_721 ⟨by omega, by omega⟩ ?_
  refine x_V1q lL_88 ⟨⟨by decide, by decide⟩, ⟨by show cc + 1 + 0 ≤ 212196; omega, by show cn + 6561 + 0 ≤ 8465662; omega⟩⟩ (cc1 := cc + 1 + 0) (cn1 := cn + 6561 + 0) rfl rfl (Nat.le_of_ble_eq_true rfl) dL_law_722 m57 (m_rest _ hM1 hd hL) ?_
  rintro _ h2 _ ⟨rfl, rfl, hM2, hf2⟩
  have hJ2 := JW.ref hX1 hsz1 hM2 hf2 hd hL
  refine x_icmp_eq dL_law_725 (fun _ => ?_) (fun b => absurd rfl b)
  exact K _ _ _ _ _ (by omega) (by omega) hJ2
theorem law_18 {Z : ZT} {cc cn i : Nat} (hJ : JW h sz d) (hi : i + 6 ≤ Γ.2.2.2.2.1) (hl : Γ.2.2.2.2.1 ≤ 3072) (hcc : cc + 414 ≤ 212196) (hcn : cn + 16384 ≤ 8465662) (K : ∀ (cc2 cn2 : Nat) (h2 : Hp) (sz2 : Nat) (d2 : DT), cc2 ≤ cc + 414 → cn2 ≤ cn + 16384 → JW h2 sz2 d2 → Ex Γ mL_law Z cc2 cn2 1288 [.ref 0, .ref 4, .ref 57, .int (nI i)] [] h2 sz2) : Ex Γ mL_law Z cc cn 730 [.ref 0, .ref 4, .ref 57, .int (nI i)] [] h sz := by
  obtain ⟨hX, hM, hd, hL, hsz⟩ := id hJ
  obtain ⟨fs, x4⟩ := hJ.x4
  refine x_aload dL_law_730 rfl ?_
  refine x_aload dL_law_731 rfl ?_
  refine x_iload dL_law_732 rfl ?_
  refine x_k dL_law_733 ?_
  refine x_iadd dL_law_734 ?_
  rw [ixk1]
  refine x_sld dL_law_735 ⟨by omega, by omega⟩ ?_
  refine x_V1q lL_89 ⟨⟨by decide, by decide⟩, ⟨by show cc + 0 ≤ 212196; omega, by show cn + 0 ≤ 8465662; omega⟩⟩ (cc1 := cc + 0) (cn1 := cn + 0) rfl rfl (Nat.le_of_ble_eq_true rfl) dL_law_736 x4 (c_out _ hX hd) ?_
  rintro _ h1 sz1 ⟨rfl, hz1, hX1, hf1⟩
  obtain ⟨hM1, hsz1, fs1, m57⟩ := hJ.cls hz1 hX1 hf1
  refine x_aload dL_law_739 rfl ?_
  refine x_aload dL_law_740 rfl ?_
  refine x_iload dL_law_741 rfl ?_
  refine x_k dL_law_742 ?_
  refine x_iadd dL_law_743 ?_
  rw [ixk1]
  refine x_sld dL_law_744 ⟨by omega, by omega⟩ ?_
  refine x_V1q lL_92 ⟨⟨by decide, by decide⟩, ⟨by show cc + 0 + 0 ≤ 212196; omega, by show cn + 0 + 0 ≤ 8465662; omega⟩⟩ (cc1 := cc + 0 + 0) (cn1 := cn + 0 + 0) rfl rfl (Nat.le_of_ble_eq_true rfl) dL_law_745 m57 (m_out _ hM1 hd) ?_
  rintro _ h2 _ ⟨rfl, rfl, hM2, hf2⟩
  have hJ2 := JW.ref hX1 hsz1 hM2 hf2 hd hL
  refine x_icmp_eq dL_law_748 (fun _ => ?_) (fun b => absurd rfl b)
  exact K _ _ _ _ _ (by omega) (by omega) hJ2
theorem law_19 {Z : ZT} {cc cn i : Nat} (hJ : JW h sz d) (hi : i + 6 ≤ Γ.2.2.2.2.1) (hl : Γ.2.2.2.2.1 ≤ 3072) (hcc : cc + 414 ≤ 212196) (hcn : cn + 16384 ≤ 8465662) (K : ∀ (cc2 cn2 : Nat) (h2 : Hp) (sz2 : Nat) (d2 : DT), cc2 ≤ cc + 414 → cn2 ≤ cn + 16384 → JW h2 sz2 d2 → Ex Γ mL_law Z cc2 cn2 1288 [.ref 0, .ref 4, .ref 57, .int (nI i)] [] h2 sz2) : Ex Γ mL_law Z cc cn 753 [.ref 0, .ref 4, .ref 57, .int (nI i)] [] h sz := by
  obtain ⟨hX, hM, hd, hL, hsz⟩ := id hJ
  obtain ⟨fs, x4⟩ := hJ.x4
  refine x_aload dL_law_753 rfl ?_
  refine x_aload dL_law_754 rfl ?_
  refine x_iload dL_law_755 rfl ?_
  refine x_k dL_law_756 ?_
  refine x_iadd dL_law_757 ?_
  rw [ixk1]
  refine x_sld dL_law_758 ⟨by omega, by omega⟩ ?_
  refine x_aload dL_law_759 rfl ?_
  refine x_iload dL_law_760 rfl ?_
  refine x_k dL_law_761 ?_
  refine x_iadd dL_law_762 ?_
  rw [ixk2]
  refine x_sld dL_law_763 ⟨by omega, by omega⟩ ?_
  refine x_V2q lL_93 ⟨⟨by decide, by decide⟩, ⟨by show cc + 0 ≤ 212196; omega, by show cn + 0 ≤ 8465662; omega⟩⟩ (cc1 := cc + 0) (cn1 := cn + 0) rfl rfl (Nat.le_of_ble_eq_true rfl) dL_law_764 x4 (c_value _ _ hX hd) ?_
  rintro _ h1 sz1 ⟨rfl, hz1, hX1, hf1⟩
  obtain ⟨hM1, hsz1, fs1, m57⟩ := hJ.cls hz1 hX1 hf1
  refine x_aload dL_law_767 rfl ?_
  refine x_aload dL_law_768 rfl ?_
  refine x_iload dL_law_769 rfl ?_
  refine x_k dL_law_770 ?_
  refine x_iadd dL_law_771 ?_
  rw [ixk1]
  refine x_sld dL_law_772 ⟨by omega, by omega⟩ ?_
  refine x_aload dL_law_773 rfl ?_
  refine x_iload dL_law_774 rfl ?_
  refine x_k dL_law_775 ?_
  refine x_iadd dL_law_776 ?_
  rw [ixk2]
  refine x_sld dL_law_777 ⟨by omega, by omega⟩ ?_
  refine x_V2q lL_96 ⟨⟨by decide, by decide⟩, ⟨by show cc + 0 + 0 ≤ 212196; omega, by show cn + 0 + 0 ≤ 8465662; omega⟩⟩ (cc1 := cc + 0 + 0) (cn1 := cn + 0 + 0) rfl rfl (Nat.le_of_ble_eq_true rfl) dL_law_778 m57 (m_value _ _ hM1 hd) ?_
  rintro _ h2 _ ⟨rfl, rfl, hM2, hf2⟩
  have hJ2 := JW.ref hX1 hsz1 hM2 hf2 hd hL
  refine x_icmp_eq dL_law_781 (fun _ => ?_) (fun b => absurd rfl b)
  exact K _ _ _ _ _ (by omega) (by omega) hJ2
theorem law_20 {Z : ZT} {cc cn i : Nat} (hJ : JW h sz d) (hi : i + 6 ≤ Γ.2.2.2.2.1) (hl : Γ.2.2.2.2.1 ≤ 3072) (hcc : cc + 414 ≤ 212196) (hcn : cn + 16384 ≤ 8465662) (K : ∀ (cc2 cn2 : Nat) (h2 : Hp) (sz2 : Nat) (d2 : DT), cc2 ≤ cc + 414 → cn2 ≤ cn + 16384 → JW h2 sz2 d2 → Ex Γ mL_law Z cc2 cn2 1288 [.ref 0, .ref 4, .ref 57, .int (nI i)] [] h2 sz2) : Ex Γ mL_law Z cc cn 786 [.ref 0, .ref 4, .ref 57, .int (nI i)] [] h sz := by
  obtain ⟨hX, hM, hd, hL, hsz⟩ := id hJ
  obtain ⟨fs, x4⟩ := hJ.x4
  refine x_aload dL_law_786 rfl ?_
  refine x_aload dL_law_787 rfl ?_
  refine x_iload dL_law_788 rfl ?_
  refine x_k dL_law_789 ?_
  refine x_iadd dL_law_790 ?_
  rw [ixk1]
  refine x_sld dL_law_791 ⟨by omega, by omega⟩ ?_
  refine x_aload dL_law_792 rfl ?_
  refine x_iload dL_law_793 rfl ?_
  refine x_k dL_law_794 ?_
  refine x_iadd dL_law_795 ?_
  rw [ixk2]
  refine x_sld dL_law_796 ⟨by omega, by omega⟩ ?_
  refine x_V2q lL_97 ⟨⟨by decide, by decide⟩, ⟨by show cc + 0 ≤ 212196; omega, by show cn + 0 ≤ 8465662; omega⟩⟩ (cc1 := cc + 0) (cn1 := cn + 0) rfl rfl (Nat.le_of_ble_eq_true rfl) dL_law_797 x4 (c_change _ _ hX hd) ?_
  rintro _ h1 sz1 ⟨rfl, hz1, hX1, hf1⟩
  obtain ⟨hM1, hsz1, fs1, m57⟩ := hJ.cls hz1 hX1 hf1
  refine x_aload dL_law_800 rfl ?_
  refine x_aload dL_law_801 rfl ?_
  refine x_iload dL_law_802 rfl ?_
  refine x_k dL_law_803 ?_
  refine x_iadd dL_law_804 ?_
  rw [ixk1]
  refine x_sld dL_law_805 ⟨by omega, by omega⟩ ?_
  refine x_aload dL_law_806 rfl ?_
  refine x_iload dL_law_807 rfl ?_
  refine x_k dL_law_808 ?_
  refine x_iadd dL_law_809 ?_
  rw [ixk2]
  refine x_sld dL_law_810 ⟨by omega, by omega⟩ ?_
  refine x_V2q lL_100 ⟨⟨by decide, by decide⟩, ⟨by show cc + 0 + 0 ≤ 212196; omega, by show cn + 0 + 0 ≤ 8465662; omega⟩⟩ (cc1 := cc + 0 + 0) (cn1 := cn + 0 + 0) rfl rfl (Nat.le_of_ble_eq_true rfl) dL_law_811 m57 (m_change _ _ hM1 hd) ?_
  rintro _ h2 _ ⟨rfl, rfl, hM2, hf2⟩
  have hJ2 := JW.ref hX1 hsz1 hM2 hf2 hd hL
  refine x_icmp_eq dL_law_814 (fun _ => ?_) (fun b => absurd rfl b)
  exact K _ _ _ _ _ (by omega) (by omega) hJ2
theorem law_21 {Z : ZT} {cc cn i : Nat} (hJ : JW h sz d) (hi : i + 6 ≤ Γ.2.2.2.2.1) (hl : Γ.2.2.2.2.1 ≤ 3072) (hcc : cc + 414 ≤ 212196) (hcn : cn + 16384 ≤ 8465662) (K : ∀ (cc2 cn2 : Nat) (h2 : Hp) (sz2 : Nat) (d2 : DT), cc2 ≤ cc + 414 → cn2 ≤ cn + 16384 → JW h2 sz2 d2 → Ex Γ mL_law Z cc2 cn2 1288 [.ref 0, .ref 4, .ref 57, .int (nI i)] [] h2 sz2) : Ex Γ mL_law Z cc cn 819 [.ref 0, .ref 4, .ref 57, .int (nI i)] [] h sz := by
  obtain ⟨hX, hM, hd, hL, hsz⟩ := id hJ
  obtain ⟨fs, x4⟩ := hJ.x4
  refine x_aload dL_law_819 rfl ?_
  refine x_V0q lL_101 ⟨⟨by decide, by decide⟩, ⟨by show cc + 0 ≤ 212196; omega, by show cn + 0 ≤ 8465662; omega⟩⟩ (cc1 := cc + 0) (cn1 := cn + 0) rfl rfl (Nat.le_of_ble_eq_true rfl) dL_law_820 x4 (c_changes  hX hd) ?_
  rintro _ h1 sz1 ⟨rfl, hz1, hX1, hf1⟩
  obtain ⟨hM1, hsz1, fs1, m57⟩ := hJ.cls hz1 hX1 hf1
  refine x_aload dL_law_823 rfl ?_
  refine x_V0q lL_104 ⟨⟨by decide, by decide⟩, ⟨by show cc + 0 + 0 ≤ 212196; omega, by show cn + 0 + 0 ≤ 8465662; omega⟩⟩ (cc1 := cc + 0 + 0) (cn1 := cn + 0 + 0) rfl rfl (Nat.le_of_ble_eq_true rfl) dL_law_824 m57 (m_changes  hM1 hd) ?_
  rintro _ h2 _ ⟨rfl, rfl, hM2, hf2⟩
  have hJ2 := JW.ref hX1 hsz1 hM2 hf2 hd hL
  refine x_icmp_eq dL_law_827 (fun _ => ?_) (fun b => absurd rfl b)
  exact K _ _ _ _ _ (by omega) (by omega) hJ2
theorem law_22 {Z : ZT} {cc cn i : Nat} (hJ : JW h sz d) (hi : i + 6 ≤ Γ.2.2.2.2.1) (hl : Γ.2.2.2.2.1 ≤ 3072) (hcc : cc + 414 ≤ 212196) (hcn : cn + 16384 ≤ 8465662) (K : ∀ (cc2 cn2 : Nat) (h2 : Hp) (sz2 : Nat) (d2 : DT), cc2 ≤ cc + 414 → cn2 ≤ cn + 16384 → JW h2 sz2 d2 → Ex Γ mL_law Z cc2 cn2 1288 [.ref 0, .ref 4, .ref 57, .int (nI i)] [] h2 sz2) : Ex Γ mL_law Z cc cn 832 [.ref 0, .ref 4, .ref 57, .int (nI i)] [] h sz := by
  obtain ⟨hX, hM, hd, hL, hsz⟩ := id hJ
  obtain ⟨fs, x4⟩ := hJ.x4
  refine x_aload dL_law_832 rfl ?_
  refine x_aload dL_law_833 rfl ?_
  refine x_iload dL_law_834 rfl ?_
  refine x_k dL_law_835 ?_
  refine x_iadd dL_law_836 ?_
  rw [ixk1]
  refine x_sld dL_law_837 ⟨by omega, by omega⟩ ?_
  refine x_V1q lL_105 ⟨⟨by decide, by decide⟩, ⟨by show cc + 2 ≤ 212196; omega, by show cn + 8192 ≤ 8465662; omega⟩⟩ (cc1 := cc + 2) (cn1 := cn + 8192) rfl rfl (Nat.le_of_ble_eq_true rfl) dL_law_838 x4 (c_should _ hX hd hsz) ?_
  rintro _ h1 sz1 ⟨rfl, hz1, hX1, hf1⟩
  obtain ⟨hM1, hsz1, fs1, m57⟩ := hJ.cls hz1 hX1 hf1
  refine x_aload dL_law_841 rfl ?_
  refine x_aload dL_law_842 rfl ?_
  refine x_iload dL_law_843 rfl ?_
  refine x_k dL_law_844 ?_
  refine x_iadd dL_law_845 ?_
  rw [ixk1]
  refine x_sld dL_law_846 ⟨by omega, by omega⟩ ?_
  refine x_V1q lL_108 ⟨⟨by decide, by decide⟩, ⟨by show cc + 2 + 0 ≤ 212196; omega, by show cn + 8192 + 0 ≤ 8465662; omega⟩⟩ (cc1 := cc + 2 + 0) (cn1 := cn + 8192 + 0) rfl rfl (Nat.le_of_ble_eq_true rfl) dL_law_847 m57 (m_should _ hM1 hd) ?_
  rintro _ h2 _ ⟨rfl, rfl, hM2, hf2⟩
  have hJ2 := JW.ref hX1 hsz1 hM2 hf2 (ok_should _ hd) (okL_should _ hL)
  refine x_icmp_eq dL_law_850 (fun _ => ?_) (fun b => absurd rfl b)
  exact K _ _ _ _ _ (by omega) (by omega) hJ2
theorem law_23 {Z : ZT} {cc cn i : Nat} (hJ : JW h sz d) (hi : i + 6 ≤ Γ.2.2.2.2.1) (hl : Γ.2.2.2.2.1 ≤ 3072) (hcc : cc + 414 ≤ 212196) (hcn : cn + 16384 ≤ 8465662) (K : ∀ (cc2 cn2 : Nat) (h2 : Hp) (sz2 : Nat) (d2 : DT), cc2 ≤ cc + 414 → cn2 ≤ cn + 16384 → JW h2 sz2 d2 → Ex Γ mL_law Z cc2 cn2 1288 [.ref 0, .ref 4, .ref 57, .int (nI i)] [] h2 sz2) : Ex Γ mL_law Z cc cn 855 [.ref 0, .ref 4, .ref 57, .int (nI i)] [] h sz := by
  obtain ⟨hX, hM, hd, hL, hsz⟩ := id hJ
  obtain ⟨fs, x4⟩ := hJ.x4
  refine x_aload dL_law_855 rfl ?_
  refine x_aload dL_law_856 rfl ?_
  refine x_iload dL_law_857 rfl ?_
  refine x_k dL_law_858 ?_
  refine x_iadd dL_law_859 ?_
  rw [ixk1]
  refine x_sld dL_law_860 ⟨by omega, by omega⟩ ?_
  refine x_aload dL_law_861 rfl ?_
  refine x_iload dL_law_862 rfl ?_
  refine x_k dL_law_863 ?_
  refine x_iadd dL_law_864 ?_
  rw [ixk2]
  refine x_sld dL_law_865 ⟨by omega, by omega⟩ ?_
  refine x_V2q lL_109 ⟨⟨by decide, by decide⟩, ⟨by show cc + 0 ≤ 212196; omega, by show cn + 0 ≤ 8465662; omega⟩⟩ (cc1 := cc + 0) (cn1 := cn + 0) rfl rfl (Nat.le_of_ble_eq_true rfl) dL_law_866 x4 (c_come _ _ hX hd) ?_
  rintro _ h1 sz1 ⟨rfl, hz1, hX1, hf1⟩
  obtain ⟨hM1, hsz1, fs1, m57⟩ := hJ.cls hz1 hX1 hf1
  refine x_aload dL_law_869 rfl ?_
  refine x_aload dL_law_870 rfl ?_
  refine x_iload dL_law_871 rfl ?_
  refine x_k dL_law_872 ?_
  refine x_iadd dL_law_873 ?_
  rw [ixk1]
  refine x_sld dL_law_874 ⟨by omega, by omega⟩ ?_
  refine x_aload dL_law_875 rfl ?_
  refine x_iload dL_law_876 rfl ?_
  refine x_k dL_law_877 ?_
  refine x_iadd dL_law_878 ?_
  rw [ixk2]
  refine x_sld dL_law_879 ⟨by omega, by omega⟩ ?_
  refine x_V2q lL_112 ⟨⟨by decide, by decide⟩, ⟨by show cc + 0 + 0 ≤ 212196; omega, by show cn + 0 + 0 ≤ 8465662; omega⟩⟩ (cc1 := cc + 0 + 0) (cn1 := cn + 0 + 0) rfl rfl (Nat.le_of_ble_eq_true rfl) dL_law_880 m57 (m_come _ _ hM1 hd) ?_
  rintro _ h2 _ ⟨rfl, rfl, hM2, hf2⟩
  have hJ2 := JW.ref hX1 hsz1 hM2 hf2 hd hL
  refine x_icmp_eq dL_law_883 (fun _ => ?_) (fun b => absurd rfl b)
  exact K _ _ _ _ _ (by omega) (by omega) hJ2
theorem law_24 {Z : ZT} {cc cn i : Nat} (hJ : JW h sz d) (hi : i + 6 ≤ Γ.2.2.2.2.1) (hl : Γ.2.2.2.2.1 ≤ 3072) (hcc : cc + 414 ≤ 212196) (hcn : cn + 16384 ≤ 8465662) (K : ∀ (cc2 cn2 : Nat) (h2 : Hp) (sz2 : Nat) (d2 : DT), cc2 ≤ cc + 414 → cn2 ≤ cn + 16384 → JW h2 sz2 d2 → Ex Γ mL_law Z cc2 cn2 1288 [.ref 0, .ref 4, .ref 57, .int (nI i)] [] h2 sz2) : Ex Γ mL_law Z cc cn 888 [.ref 0, .ref 4, .ref 57, .int (nI i)] [] h sz := by
  obtain ⟨hX, hM, hd, hL, hsz⟩ := id hJ
  obtain ⟨fs, x4⟩ := hJ.x4
  refine x_aload dL_law_888 rfl ?_
  refine x_aload dL_law_889 rfl ?_
  refine x_iload dL_law_890 rfl ?_
  refine x_k dL_law_891 ?_
  refine x_iadd dL_law_892 ?_
  rw [ixk1]
  refine x_sld dL_law_893 ⟨by omega, by omega⟩ ?_
  refine x_aload dL_law_894 rfl ?_
  refine x_iload dL_law_895 rfl ?_
  refine x_k dL_law_896 ?_
  refine x_iadd dL_law_897 ?_
  rw [ixk2]
  refine x_sld dL_law_898 ⟨by omega, by omega⟩ ?_
  refine x_V2q lL_113 ⟨⟨by decide, by decide⟩, ⟨by show cc + 0 ≤ 212196; omega, by show cn + 0 ≤ 8465662; omega⟩⟩ (cc1 := cc + 0) (cn1 := cn + 0) rfl rfl (Nat.le_of_ble_eq_true rfl) dL_law_899 x4 (c_invite _ _ hX hd) ?_
  rintro _ h1 sz1 ⟨rfl, hz1, hX1, hf1⟩
  obtain ⟨hM1, hsz1, fs1, m57⟩ := hJ.cls hz1 hX1 hf1
  refine x_aload dL_law_902 rfl ?_
  refine x_aload dL_law_903 rfl ?_
  refine x_iload dL_law_904 rfl ?_
  refine x_k dL_law_905 ?_
  refine x_iadd dL_law_906 ?_
  rw [ixk1]
  refine x_sld dL_law_907 ⟨by omega, by omega⟩ ?_
  refine x_aload dL_law_908 rfl ?_
  refine x_iload dL_law_909 rfl ?_
  refine x_k dL_law_910 ?_
  refine x_iadd dL_law_911 ?_
  rw [ixk2]
  refine x_sld dL_law_912 ⟨by omega, by omega⟩ ?_
  refine x_V2q lL_116 ⟨⟨by decide, by decide⟩, ⟨by show cc + 0 + 0 ≤ 212196; omega, by show cn + 0 + 0 ≤ 8465662; omega⟩⟩ (cc1 := cc + 0 + 0) (cn1 := cn + 0 + 0) rfl rfl (Nat.le_of_ble_eq_true rfl) dL_law_913 m57 (m_invite _ _ hM1 hd) ?_
  rintro _ h2 _ ⟨rfl, rfl, hM2, hf2⟩
  have hJ2 := JW.ref hX1 hsz1 hM2 hf2 hd hL
  refine x_icmp_eq dL_law_916 (fun _ => ?_) (fun b => absurd rfl b)
  exact K _ _ _ _ _ (by omega) (by omega) hJ2
theorem law_25 {Z : ZT} {cc cn i : Nat} (hJ : JW h sz d) (hi : i + 6 ≤ Γ.2.2.2.2.1) (hl : Γ.2.2.2.2.1 ≤ 3072) (hcc : cc + 414 ≤ 212196) (hcn : cn + 16384 ≤ 8465662) (K : ∀ (cc2 cn2 : Nat) (h2 : Hp) (sz2 : Nat) (d2 : DT), cc2 ≤ cc + 414 → cn2 ≤ cn + 16384 → JW h2 sz2 d2 → Ex Γ mL_law Z cc2 cn2 1288 [.ref 0, .ref 4, .ref 57, .int (nI i)] [] h2 sz2) : Ex Γ mL_law Z cc cn 921 [.ref 0, .ref 4, .ref 57, .int (nI i)] [] h sz := by
  obtain ⟨hX, hM, hd, hL, hsz⟩ := id hJ
  obtain ⟨fs, x4⟩ := hJ.x4
  refine x_aload dL_law_921 rfl ?_
  refine x_aload dL_law_922 rfl ?_
  refine x_iload dL_law_923 rfl ?_
  refine x_k dL_law_924 ?_
  refine x_iadd dL_law_925 ?_
  rw [ixk1]
  refine x_sld dL_law_926 ⟨by omega, by omega⟩ ?_
  refine x_aload dL_law_927 rfl ?_
  refine x_iload dL_law_928 rfl ?_
  refine x_k dL_law_929 ?_
  refine x_iadd dL_law_930 ?_
  rw [ixk2]
  refine x_sld dL_law_931 ⟨by omega, by omega⟩ ?_
  refine x_V2q lL_117 ⟨⟨by decide, by decide⟩, ⟨by show cc + 0 ≤ 212196; omega, by show cn + 0 ≤ 8465662; omega⟩⟩ (cc1 := cc + 0) (cn1 := cn + 0) rfl rfl (Nat.le_of_ble_eq_true rfl) dL_law_932 x4 (c_fact _ _ hX hd) ?_
  rintro _ h1 sz1 ⟨rfl, hz1, hX1, hf1⟩
  obtain ⟨hM1, hsz1, fs1, m57⟩ := hJ.cls hz1 hX1 hf1
  refine x_aload dL_law_935 rfl ?_
  refine x_aload dL_law_936 rfl ?_
  refine x_iload dL_law_937 rfl ?_
  refine x_k dL_law_938 ?_
  refine x_iadd dL_law_939 ?_
  rw [ixk1]
  refine x_sld dL_law_940 ⟨by omega, by omega⟩ ?_
  refine x_aload dL_law_941 rfl ?_
  refine x_iload dL_law_942 rfl ?_
  refine x_k dL_law_943 ?_
  refine x_iadd dL_law_944 ?_
  rw [ixk2]
  refine x_sld dL_law_945 ⟨by omega, by omega⟩ ?_
  refine x_V2q lL_120 ⟨⟨by decide, by decide⟩, ⟨by show cc + 0 + 0 ≤ 212196; omega, by show cn + 0 + 0 ≤ 8465662; omega⟩⟩ (cc1 := cc + 0 + 0) (cn1 := cn + 0 + 0) rfl rfl (Nat.le_of_ble_eq_true rfl) dL_law_946 m57 (m_fact _ _ hM1 hd) ?_
  rintro _ h2 _ ⟨rfl, rfl, hM2, hf2⟩
  have hJ2 := JW.ref hX1 hsz1 hM2 hf2 (ok_fact _ _ hd) (okL_fact _ _ hL)
  refine x_icmp_eq dL_law_949 (fun _ => ?_) (fun b => absurd rfl b)
  exact K _ _ _ _ _ (by omega) (by omega) hJ2
theorem law_26 {Z : ZT} {cc cn i : Nat} (hJ : JW h sz d) (hi : i + 6 ≤ Γ.2.2.2.2.1) (hl : Γ.2.2.2.2.1 ≤ 3072) (hcc : cc + 414 ≤ 212196) (hcn : cn + 16384 ≤ 8465662) (K : ∀ (cc2 cn2 : Nat) (h2 : Hp) (sz2 : Nat) (d2 : DT), cc2 ≤ cc + 414 → cn2 ≤ cn + 16384 → JW h2 sz2 d2 → Ex Γ mL_law Z cc2 cn2 1288 [.ref 0, .ref 4, .ref 57, .int (nI i)] [] h2 sz2) : Ex Γ mL_law Z cc cn 954 [.ref 0, .ref 4, .ref 57, .int (nI i)] [] h sz := by
  obtain ⟨hX, hM, hd, hL, hsz⟩ := id hJ
  obtain ⟨fs, x4⟩ := hJ.x4
  refine x_aload dL_law_954 rfl ?_
  refine x_V0q lL_121 ⟨⟨by decide, by decide⟩, ⟨by show cc + 0 ≤ 212196; omega, by show cn + 0 ≤ 8465662; omega⟩⟩ (cc1 := cc + 0) (cn1 := cn + 0) rfl rfl (Nat.le_of_ble_eq_true rfl) dL_law_955 x4 (c_forget  hX) ?_
  rintro _ h1 sz1 ⟨rfl, hz1, hX1, hf1⟩
  obtain ⟨hM1, hsz1, fs1, m57⟩ := hJ.cls hz1 hX1 hf1
  refine x_aload dL_law_958 rfl ?_
  refine x_V0q lL_124 ⟨⟨by decide, by decide⟩, ⟨by show cc + 0 + 0 ≤ 212196; omega, by show cn + 0 + 0 ≤ 8465662; omega⟩⟩ (cc1 := cc + 0 + 0) (cn1 := cn + 0 + 0) rfl rfl (Nat.le_of_ble_eq_true rfl) dL_law_959 m57 (m_forget  hM1) ?_
  rintro _ h2 _ ⟨rfl, rfl, hM2, hf2⟩
  have hJ2 := JW.ref hX1 hsz1 hM2 hf2 (ok_forget  hd) (okL_forget  hL)
  refine x_icmp_eq dL_law_962 (fun _ => ?_) (fun b => absurd rfl b)
  exact K _ _ _ _ _ (by omega) (by omega) hJ2
theorem law_27 {Z : ZT} {cc cn i : Nat} (hJ : JW h sz d) (hi : i + 6 ≤ Γ.2.2.2.2.1) (hl : Γ.2.2.2.2.1 ≤ 3072) (hcc : cc + 414 ≤ 212196) (hcn : cn + 16384 ≤ 8465662) (K : ∀ (cc2 cn2 : Nat) (h2 : Hp) (sz2 : Nat) (d2 : DT), cc2 ≤ cc + 414 → cn2 ≤ cn + 16384 → JW h2 sz2 d2 → Ex Γ mL_law Z cc2 cn2 1288 [.ref 0, .ref 4, .ref 57, .int (nI i)] [] h2 sz2) : Ex Γ mL_law Z cc cn 967 [.ref 0, .ref 4, .ref 57, .int (nI i)] [] h sz := by
  obtain ⟨hX, hM, hd, hL, hsz⟩ := id hJ
  obtain ⟨fs, x4⟩ := hJ.x4
  refine x_aload dL_law_967 rfl ?_
  refine x_aload dL_law_968 rfl ?_
  refine x_iload dL_law_969 rfl ?_
  refine x_k dL_law_970 ?_
  refine x_iadd dL_law_971 ?_
  rw [ixk1]
  refine x_sld dL_law_972 ⟨by omega, by omega⟩ ?_
  refine x_V1q lL_125 ⟨⟨by decide, by decide⟩, ⟨by show cc + 1 ≤ 212196; omega, by show cn + 6561 ≤ 8465662; omega⟩⟩ (cc1 := cc + 1) (cn1 := cn + 6561) rfl rfl (Nat.le_of_ble_eq_true rfl) dL_law_973 x4 (c_were _ hX hd hsz) ?_
  rintro _ h1 sz1 ⟨rfl, hz1, hX1, hf1⟩
  obtain ⟨hM1, hsz1, fs1, m57⟩ := hJ.cls hz1 hX1 hf1
  refine x_aload dL_law_976 rfl ?_
  refine x_aload dL_law_977 rfl ?_
  refine x_iload dL_law_978 rfl ?_
  refine x_k dL_law_979 ?_
  refine x_iadd dL_law_980 ?_
  rw [ixk1]
  refine x_sld dL_law_981 ⟨by omega, by omega⟩ ?_
  refine x_V1q lL_128 ⟨⟨by decide, by decide⟩, ⟨by show cc + 1 + 0 ≤ 212196; omega, by show cn + 6561 + 0 ≤ 8465662; omega⟩⟩ (cc1 := cc + 1 + 0) (cn1 := cn + 6561 + 0) rfl rfl (Nat.le_of_ble_eq_true rfl) dL_law_982 m57 (m_were _ hM1 hd) ?_
  rintro _ h2 _ ⟨rfl, rfl, hM2, hf2⟩
  have hJ2 := JW.ref hX1 hsz1 hM2 hf2 hd hL
  refine x_icmp_eq dL_law_985 (fun _ => ?_) (fun b => absurd rfl b)
  exact K _ _ _ _ _ (by omega) (by omega) hJ2
theorem law_28 {Z : ZT} {cc cn i : Nat} (hJ : JW h sz d) (hi : i + 6 ≤ Γ.2.2.2.2.1) (hl : Γ.2.2.2.2.1 ≤ 3072) (hcc : cc + 414 ≤ 212196) (hcn : cn + 16384 ≤ 8465662) (K : ∀ (cc2 cn2 : Nat) (h2 : Hp) (sz2 : Nat) (d2 : DT), cc2 ≤ cc + 414 → cn2 ≤ cn + 16384 → JW h2 sz2 d2 → Ex Γ mL_law Z cc2 cn2 1288 [.ref 0, .ref 4, .ref 57, .int (nI i)] [] h2 sz2) : Ex Γ mL_law Z cc cn 990 [.ref 0, .ref 4, .ref 57, .int (nI i)] [] h sz := by
  obtain ⟨hX, hM, hd, hL, hsz⟩ := id hJ
  obtain ⟨fs, x4⟩ := hJ.x4
  refine x_aload dL_law_990 rfl ?_
  refine x_V0q lL_129 ⟨⟨by decide, by decide⟩, ⟨by show cc + 1 ≤ 212196; omega, by show cn + 6561 ≤ 8465662; omega⟩⟩ (cc1 := cc + 1) (cn1 := cn + 6561) rfl rfl (Nat.le_of_ble_eq_true rfl) dL_law_991 x4 (c_bed  hX hd hsz) ?_
  rintro _ h1 sz1 ⟨rfl, hz1, hX1, hf1⟩
  obtain ⟨hM1, hsz1, fs1, m57⟩ := hJ.cls hz1 hX1 hf1
  refine x_aload dL_law_994 rfl ?_
  refine x_V0q lL_132 ⟨⟨by decide, by decide⟩, ⟨by show cc + 1 + 0 ≤ 212196; omega, by show cn + 6561 + 0 ≤ 8465662; omega⟩⟩ (cc1 := cc + 1 + 0) (cn1 := cn + 6561 + 0) rfl rfl (Nat.le_of_ble_eq_true rfl) dL_law_995 m57 (m_bed  hM1 hd) ?_
  rintro _ h2 _ ⟨rfl, rfl, hM2, hf2⟩
  have hJ2 := JW.ref hX1 hsz1 hM2 hf2 hd hL
  refine x_icmp_eq dL_law_998 (fun _ => ?_) (fun b => absurd rfl b)
  exact K _ _ _ _ _ (by omega) (by omega) hJ2
theorem law_29 {Z : ZT} {cc cn i : Nat} (hJ : JW h sz d) (hi : i + 6 ≤ Γ.2.2.2.2.1) (hl : Γ.2.2.2.2.1 ≤ 3072) (hcc : cc + 414 ≤ 212196) (hcn : cn + 16384 ≤ 8465662) (K : ∀ (cc2 cn2 : Nat) (h2 : Hp) (sz2 : Nat) (d2 : DT), cc2 ≤ cc + 414 → cn2 ≤ cn + 16384 → JW h2 sz2 d2 → Ex Γ mL_law Z cc2 cn2 1288 [.ref 0, .ref 4, .ref 57, .int (nI i)] [] h2 sz2) : Ex Γ mL_law Z cc cn 1003 [.ref 0, .ref 4, .ref 57, .int (nI i)] [] h sz := by
  obtain ⟨hX, hM, hd, hL, hsz⟩ := id hJ
  obtain ⟨fs, x4⟩ := hJ.x4
  refine x_aload dL_law_1003 rfl ?_
  refine x_aload dL_law_1004 rfl ?_
  refine x_iload dL_law_1005 rfl ?_
  refine x_k dL_law_1006 ?_
  refine x_iadd dL_law_1007 ?_
  rw [ixk1]
  refine x_sld dL_law_1008 ⟨by omega, by omega⟩ ?_
  refine x_aload dL_law_1009 rfl ?_
  refine x_iload dL_law_1010 rfl ?_
  refine x_k dL_law_1011 ?_
  refine x_iadd dL_law_1012 ?_
  rw [ixk2]
  refine x_sld dL_law_1013 ⟨by omega, by omega⟩ ?_
  refine x_aload dL_law_1014 rfl ?_
  refine x_iload dL_law_1015 rfl ?_
  refine x_k dL_law_1016 ?_
  refine x_iadd dL_law_1017 ?_
  rw [ixk3]
  refine x_sld dL_law_1018 ⟨by omega, by omega⟩ ?_
  refine x_V3q lL_133 ⟨⟨by decide, by decide⟩, ⟨by show cc + 0 ≤ 212196; omega, by show cn + 0 ≤ 8465662; omega⟩⟩ (cc1 := cc + 0) (cn1 := cn + 0) rfl rfl (Nat.le_of_ble_eq_true rfl) dL_law_1019 x4 (c_sheet _ _ _ hX) ?_
  rintro _ h1 sz1 ⟨rfl, hz1, hX1, hf1⟩
  obtain ⟨hM1, hsz1, fs1, m57⟩ := hJ.cls hz1 hX1 hf1
  refine x_aload dL_law_1022 rfl ?_
  refine x_aload dL_law_1023 rfl ?_
  refine x_iload dL_law_1024 rfl ?_
  refine x_k dL_law_1025 ?_
  refine x_iadd dL_law_1026 ?_
  rw [ixk1]
  refine x_sld dL_law_1027 ⟨by omega, by omega⟩ ?_
  refine x_aload dL_law_1028 rfl ?_
  refine x_iload dL_law_1029 rfl ?_
  refine x_k dL_law_1030 ?_
  refine x_iadd dL_law_1031 ?_
  rw [ixk2]
  refine x_sld dL_law_1032 ⟨by omega, by omega⟩ ?_
  refine x_aload dL_law_1033 rfl ?_
  refine x_iload dL_law_1034 rfl ?_
  refine x_k dL_law_1035 ?_
  refine x_iadd dL_law_1036 ?_
  rw [ixk3]
  refine x_sld dL_law_1037 ⟨by omega, by omega⟩ ?_
  refine x_V3q lL_136 ⟨⟨by decide, by decide⟩, ⟨by show cc + 0 + 0 ≤ 212196; omega, by show cn + 0 + 0 ≤ 8465662; omega⟩⟩ (cc1 := cc + 0 + 0) (cn1 := cn + 0 + 0) rfl rfl (Nat.le_of_ble_eq_true rfl) dL_law_1038 m57 (m_sheet _ _ _ hM1) ?_
  rintro _ h2 _ ⟨rfl, rfl, hM2, hf2⟩
  have hJ2 := JW.ref hX1 hsz1 hM2 hf2 (ok_sheet _ _ _ hd) (okL_sheet _ _ _ hL)
  refine x_icmp_eq dL_law_1041 (fun _ => ?_) (fun b => absurd rfl b)
  exact K _ _ _ _ _ (by omega) (by omega) hJ2
theorem law_30 {Z : ZT} {cc cn i : Nat} (hJ : JW h sz d) (hi : i + 6 ≤ Γ.2.2.2.2.1) (hl : Γ.2.2.2.2.1 ≤ 3072) (hcc : cc + 414 ≤ 212196) (hcn : cn + 16384 ≤ 8465662) (K : ∀ (cc2 cn2 : Nat) (h2 : Hp) (sz2 : Nat) (d2 : DT), cc2 ≤ cc + 414 → cn2 ≤ cn + 16384 → JW h2 sz2 d2 → Ex Γ mL_law Z cc2 cn2 1288 [.ref 0, .ref 4, .ref 57, .int (nI i)] [] h2 sz2) : Ex Γ mL_law Z cc cn 1046 [.ref 0, .ref 4, .ref 57, .int (nI i)] [] h sz := by
  obtain ⟨hX, hM, hd, hL, hsz⟩ := id hJ
  obtain ⟨fs, x4⟩ := hJ.x4
  refine x_aload dL_law_1046 rfl ?_
  refine x_aload dL_law_1047 rfl ?_
  refine x_iload dL_law_1048 rfl ?_
  refine x_k dL_law_1049 ?_
  refine x_iadd dL_law_1050 ?_
  rw [ixk1]
  refine x_sld dL_law_1051 ⟨by omega, by omega⟩ ?_
  refine x_V1q lL_137 ⟨⟨by decide, by decide⟩, ⟨by show cc + 0 ≤ 212196; omega, by show cn + 0 ≤ 8465662; omega⟩⟩ (cc1 := cc + 0) (cn1 := cn + 0) rfl rfl (Nat.le_of_ble_eq_true rfl) dL_law_1052 x4 (c_lose _ hX) ?_
  rintro _ h1 sz1 ⟨rfl, hz1, hX1, hf1⟩
  obtain ⟨hM1, hsz1, fs1, m57⟩ := hJ.cls hz1 hX1 hf1
  refine x_aload dL_law_1055 rfl ?_
  refine x_aload dL_law_1056 rfl ?_
  refine x_iload dL_law_1057 rfl ?_
  refine x_k dL_law_1058 ?_
  refine x_iadd dL_law_1059 ?_
  rw [ixk1]
  refine x_sld dL_law_1060 ⟨by omega, by omega⟩ ?_
  refine x_V1q lL_140 ⟨⟨by decide, by decide⟩, ⟨by show cc + 0 + 0 ≤ 212196; omega, by show cn + 0 + 0 ≤ 8465662; omega⟩⟩ (cc1 := cc + 0 + 0) (cn1 := cn + 0 + 0) rfl rfl (Nat.le_of_ble_eq_true rfl) dL_law_1061 m57 (m_lose _ hM1) ?_
  rintro _ h2 _ ⟨rfl, rfl, hM2, hf2⟩
  have hJ2 := JW.ref hX1 hsz1 hM2 hf2 (ok_lose _ hd) (okL_lose _ hL)
  refine x_icmp_eq dL_law_1064 (fun _ => ?_) (fun b => absurd rfl b)
  exact K _ _ _ _ _ (by omega) (by omega) hJ2
theorem law_31 {Z : ZT} {cc cn i : Nat} (hJ : JW h sz d) (hi : i + 6 ≤ Γ.2.2.2.2.1) (hl : Γ.2.2.2.2.1 ≤ 3072) (hcc : cc + 414 ≤ 212196) (hcn : cn + 16384 ≤ 8465662) (K : ∀ (cc2 cn2 : Nat) (h2 : Hp) (sz2 : Nat) (d2 : DT), cc2 ≤ cc + 414 → cn2 ≤ cn + 16384 → JW h2 sz2 d2 → Ex Γ mL_law Z cc2 cn2 1288 [.ref 0, .ref 4, .ref 57, .int (nI i)] [] h2 sz2) : Ex Γ mL_law Z cc cn 1069 [.ref 0, .ref 4, .ref 57, .int (nI i)] [] h sz := by
  obtain ⟨hX, hM, hd, hL, hsz⟩ := id hJ
  obtain ⟨fs, x4⟩ := hJ.x4
  refine x_aload dL_law_1069 rfl ?_
  refine x_aload dL_law_1070 rfl ?_
  refine x_iload dL_law_1071 rfl ?_
  refine x_k dL_law_1072 ?_
  refine x_iadd dL_law_1073 ?_
  rw [ixk1]
  refine x_sld dL_law_1074 ⟨by omega, by omega⟩ ?_
  refine x_aload dL_law_1075 rfl ?_
  refine x_iload dL_law_1076 rfl ?_
  refine x_k dL_law_1077 ?_
  refine x_iadd dL_law_1078 ?_
  rw [ixk2]
  refine x_sld dL_law_1079 ⟨by omega, by omega⟩ ?_
  refine x_aload dL_law_1080 rfl ?_
  refine x_iload dL_law_1081 rfl ?_
  refine x_k dL_law_1082 ?_
  refine x_iadd dL_law_1083 ?_
  rw [ixk3]
  refine x_sld dL_law_1084 ⟨by omega, by omega⟩ ?_
  refine x_aload dL_law_1085 rfl ?_
  refine x_iload dL_law_1086 rfl ?_
  refine x_k dL_law_1087 ?_
  refine x_iadd dL_law_1088 ?_
  rw [ixk4]
  refine x_sld dL_law_1089 ⟨by omega, by omega⟩ ?_
  refine x_V4q lL_141 ⟨⟨by decide, by decide⟩, ⟨by show cc + 0 ≤ 212196; omega, by show cn + 0 ≤ 8465662; omega⟩⟩ (cc1 := cc + 0) (cn1 := cn + 0) rfl rfl (Nat.le_of_ble_eq_true rfl) dL_law_1090 x4 (c_put _ _ _ _ hX hd) ?_
  rintro _ h1 sz1 ⟨rfl, hz1, hX1, hf1⟩
  obtain ⟨hM1, hsz1, fs1, m57⟩ := hJ.cls hz1 hX1 hf1
  refine x_aload dL_law_1093 rfl ?_
  refine x_aload dL_law_1094 rfl ?_
  refine x_iload dL_law_1095 rfl ?_
  refine x_k dL_law_1096 ?_
  refine x_iadd dL_law_1097 ?_
  rw [ixk1]
  refine x_sld dL_law_1098 ⟨by omega, by omega⟩ ?_
  refine x_aload dL_law_1099 rfl ?_
  refine x_iload dL_law_1100 rfl ?_
  refine x_k dL_law_1101 ?_
  refine x_iadd dL_law_1102 ?_
  rw [ixk2]
  refine x_sld dL_law_1103 ⟨by omega, by omega⟩ ?_
  refine x_aload dL_law_1104 rfl ?_
  refine x_iload dL_law_1105 rfl ?_
  refine x_k dL_law_1106 ?_
  refine x_iadd dL_law_1107 ?_
  rw [ixk3]
  refine x_sld dL_law_1108 ⟨by omega, by omega⟩ ?_
  refine x_aload dL_law_1109 rfl ?_
  refine x_iload dL_law_1110 rfl ?_
  refine x_k dL_law_1111 ?_
  refine x_iadd dL_law_1112 ?_
  rw [ixk4]
  refine x_sld dL_law_1113 ⟨by omega, by omega⟩ ?_
  refine x_V4q lL_145 ⟨⟨by decide, by decide⟩, ⟨by show cc + 0 + 0 ≤ 212196; omega, by show cn + 0 + 0 ≤ 8465662; omega⟩⟩ (cc1 := cc + 0 + 0) (cn1 := cn + 0 + 0) rfl rfl (Nat.le_of_ble_eq_true rfl) dL_law_1114 m57 (m_put _ _ _ _ hM1 hd) ?_
  rintro _ h2 _ ⟨rfl, rfl, hM2, hf2⟩
  have hJ2 := JW.ref hX1 hsz1 hM2 hf2 (ok_put _ _ _ _ hd) (okL_put _ _ _ _ hL)
  refine x_icmp_eq dL_law_1117 (fun _ => ?_) (fun b => absurd rfl b)
  exact K _ _ _ _ _ (by omega) (by omega) hJ2
theorem law_32 {Z : ZT} {cc cn i : Nat} (hJ : JW h sz d) (hi : i + 6 ≤ Γ.2.2.2.2.1) (hl : Γ.2.2.2.2.1 ≤ 3072) (hcc : cc + 414 ≤ 212196) (hcn : cn + 16384 ≤ 8465662) (K : ∀ (cc2 cn2 : Nat) (h2 : Hp) (sz2 : Nat) (d2 : DT), cc2 ≤ cc + 414 → cn2 ≤ cn + 16384 → JW h2 sz2 d2 → Ex Γ mL_law Z cc2 cn2 1288 [.ref 0, .ref 4, .ref 57, .int (nI i)] [] h2 sz2) : Ex Γ mL_law Z cc cn 1122 [.ref 0, .ref 4, .ref 57, .int (nI i)] [] h sz := by
  obtain ⟨hX, hM, hd, hL, hsz⟩ := id hJ
  obtain ⟨fs, x4⟩ := hJ.x4
  refine x_aload dL_law_1122 rfl ?_
  refine x_aload dL_law_1123 rfl ?_
  refine x_iload dL_law_1124 rfl ?_
  refine x_k dL_law_1125 ?_
  refine x_iadd dL_law_1126 ?_
  rw [ixk1]
  refine x_sld dL_law_1127 ⟨by omega, by omega⟩ ?_
  refine x_aload dL_law_1128 rfl ?_
  refine x_iload dL_law_1129 rfl ?_
  refine x_k dL_law_1130 ?_
  refine x_iadd dL_law_1131 ?_
  rw [ixk2]
  refine x_sld dL_law_1132 ⟨by omega, by omega⟩ ?_
  refine x_aload dL_law_1133 rfl ?_
  refine x_iload dL_law_1134 rfl ?_
  refine x_k dL_law_1135 ?_
  refine x_iadd dL_law_1136 ?_
  rw [ixk3]
  refine x_sld dL_law_1137 ⟨by omega, by omega⟩ ?_
  refine x_V3q lL_146 ⟨⟨by decide, by decide⟩, ⟨by show cc + 0 ≤ 212196; omega, by show cn + 0 ≤ 8465662; omega⟩⟩ (cc1 := cc + 0) (cn1 := cn + 0) rfl rfl (Nat.le_of_ble_eq_true rfl) dL_law_1138 x4 (c_get _ _ _ hX hd) ?_
  rintro _ h1 sz1 ⟨rfl, hz1, hX1, hf1⟩
  obtain ⟨hM1, hsz1, fs1, m57⟩ := hJ.cls hz1 hX1 hf1
  refine x_aload dL_law_1141 rfl ?_
  refine x_aload dL_law_1142 rfl ?_
  refine x_iload dL_law_1143 rfl ?_
  refine x_k dL_law_1144 ?_
  refine x_iadd dL_law_1145 ?_
  rw [ixk1]
  refine x_sld dL_law_1146 ⟨by omega, by omega⟩ ?_
  refine x_aload dL_law_1147 rfl ?_
  refine x_iload dL_law_1148 rfl ?_
  refine x_k dL_law_1149 ?_
  refine x_iadd dL_law_1150 ?_
  rw [ixk2]
  refine x_sld dL_law_1151 ⟨by omega, by omega⟩ ?_
  refine x_aload dL_law_1152 rfl ?_
  refine x_iload dL_law_1153 rfl ?_
  refine x_k dL_law_1154 ?_
  refine x_iadd dL_law_1155 ?_
  rw [ixk3]
  refine x_sld dL_law_1156 ⟨by omega, by omega⟩ ?_
  refine x_V3q lL_149 ⟨⟨by decide, by decide⟩, ⟨by show cc + 0 + 0 ≤ 212196; omega, by show cn + 0 + 0 ≤ 8465662; omega⟩⟩ (cc1 := cc + 0 + 0) (cn1 := cn + 0 + 0) rfl rfl (Nat.le_of_ble_eq_true rfl) dL_law_1157 m57 (m_get _ _ _ hM1 hd) ?_
  rintro _ h2 _ ⟨rfl, rfl, hM2, hf2⟩
  have hJ2 := JW.ref hX1 hsz1 hM2 hf2 (ok_get _ _ _ hd) (okL_get _ _ _ hL)
  refine x_icmp_eq dL_law_1160 (fun _ => ?_) (fun b => absurd rfl b)
  exact K _ _ _ _ _ (by omega) (by omega) hJ2
theorem law_33 {Z : ZT} {cc cn i : Nat} (hJ : JW h sz d) (hi : i + 6 ≤ Γ.2.2.2.2.1) (hl : Γ.2.2.2.2.1 ≤ 3072) (hcc : cc + 414 ≤ 212196) (hcn : cn + 16384 ≤ 8465662) (K : ∀ (cc2 cn2 : Nat) (h2 : Hp) (sz2 : Nat) (d2 : DT), cc2 ≤ cc + 414 → cn2 ≤ cn + 16384 → JW h2 sz2 d2 → Ex Γ mL_law Z cc2 cn2 1288 [.ref 0, .ref 4, .ref 57, .int (nI i)] [] h2 sz2) : Ex Γ mL_law Z cc cn 1165 [.ref 0, .ref 4, .ref 57, .int (nI i)] [] h sz := by
  obtain ⟨hX, hM, hd, hL, hsz⟩ := id hJ
  obtain ⟨fs, x4⟩ := hJ.x4
  refine x_aload dL_law_1165 rfl ?_
  refine x_aload dL_law_1166 rfl ?_
  refine x_iload dL_law_1167 rfl ?_
  refine x_k dL_law_1168 ?_
  refine x_iadd dL_law_1169 ?_
  rw [ixk1]
  refine x_sld dL_law_1170 ⟨by omega, by omega⟩ ?_
  refine x_aload dL_law_1171 rfl ?_
  refine x_iload dL_law_1172 rfl ?_
  refine x_k dL_law_1173 ?_
  refine x_iadd dL_law_1174 ?_
  rw [ixk2]
  refine x_sld dL_law_1175 ⟨by omega, by omega⟩ ?_
  refine x_aload dL_law_1176 rfl ?_
  refine x_iload dL_law_1177 rfl ?_
  refine x_k dL_law_1178 ?_
  refine x_iadd dL_law_1179 ?_
  rw [ixk3]
  refine x_sld dL_law_1180 ⟨by omega, by omega⟩ ?_
  refine x_aload dL_law_1181 rfl ?_
  refine x_iload dL_law_1182 rfl ?_
  refine x_k dL_law_1183 ?_
  refine x_iadd dL_law_1184 ?_
  rw [ixk4]
  refine x_sld dL_law_1185 ⟨by omega, by omega⟩ ?_
  refine x_aload dL_law_1186 rfl ?_
  refine x_iload dL_law_1187 rfl ?_
  refine x_k dL_law_1188 ?_
  refine x_iadd dL_law_1189 ?_
  rw [ixk5]
  refine x_sld dL_law_1190 ⟨by omega, by omega⟩ ?_
  refine x_V5q lL_150 ⟨⟨by decide, by decide⟩, ⟨by show cc + 0 ≤ 212196; omega, by show cn + 0 ≤ 8465662; omega⟩⟩ (cc1 := cc + 0) (cn1 := cn + 0) rfl rfl (Nat.le_of_ble_eq_true rfl) dL_law_1191 x4 (c_copy _ _ _ _ _ hX hd) ?_
  rintro _ h1 sz1 ⟨rfl, hz1, hX1, hf1⟩
  obtain ⟨hM1, hsz1, fs1, m57⟩ := hJ.cls hz1 hX1 hf1
  refine x_aload dL_law_1194 rfl ?_
  refine x_aload dL_law_1195 rfl ?_
  refine x_iload dL_law_1196 rfl ?_
  refine x_k dL_law_1197 ?_
  refine x_iadd dL_law_1198 ?_
  rw [ixk1]
  refine x_sld dL_law_1199 ⟨by omega, by omega⟩ ?_
  refine x_aload dL_law_1200 rfl ?_
  refine x_iload dL_law_1201 rfl ?_
  refine x_k dL_law_1202 ?_
  refine x_iadd dL_law_1203 ?_
  rw [ixk2]
  refine x_sld dL_law_1204 ⟨by omega, by omega⟩ ?_
  refine x_aload dL_law_1205 rfl ?_
  refine x_iload dL_law_1206 rfl ?_
  refine x_k dL_law_1207 ?_
  refine x_iadd dL_law_1208 ?_
  rw [ixk3]
  refine x_sld dL_law_1209 ⟨by omega, by omega⟩ ?_
  refine x_aload dL_law_1210 rfl ?_
  refine x_iload dL_law_1211 rfl ?_
  refine x_k dL_law_1212 ?_
  refine x_iadd dL_law_1213 ?_
  rw [ixk4]
  refine x_sld dL_law_1214 ⟨by omega, by omega⟩ ?_
  refine x_aload dL_law_1215 rfl ?_
  refine x_iload dL_law_1216 rfl ?_
  refine x_k dL_law_1217 ?_
  refine x_iadd dL_law_1218 ?_
  rw [ixk5]
  refine x_sld dL_law_1219 ⟨by omega, by omega⟩ ?_
  refine x_V5q lL_154 ⟨⟨by decide, by decide⟩, ⟨by show cc + 0 + 0 ≤ 212196; omega, by show cn + 0 + 0 ≤ 8465662; omega⟩⟩ (cc1 := cc + 0 + 0) (cn1 := cn + 0 + 0) rfl rfl (Nat.le_of_ble_eq_true rfl) dL_law_1220 m57 (m_copy _ _ _ _ _ hM1 hd) ?_
  rintro _ h2 _ ⟨rfl, rfl, hM2, hf2⟩
  have hJ2 := JW.ref hX1 hsz1 hM2 hf2 (ok_copy _ _ _ _ _ hd) (okL_copy _ _ _ _ _ hL)
  refine x_icmp_eq dL_law_1223 (fun _ => ?_) (fun b => absurd rfl b)
  exact K _ _ _ _ _ (by omega) (by omega) hJ2
theorem law_34 {Z : ZT} {cc cn i : Nat} (hJ : JW h sz d) (hi : i + 6 ≤ Γ.2.2.2.2.1) (hl : Γ.2.2.2.2.1 ≤ 3072) (hcc : cc + 414 ≤ 212196) (hcn : cn + 16384 ≤ 8465662) (K : ∀ (cc2 cn2 : Nat) (h2 : Hp) (sz2 : Nat) (d2 : DT), cc2 ≤ cc + 414 → cn2 ≤ cn + 16384 → JW h2 sz2 d2 → Ex Γ mL_law Z cc2 cn2 1288 [.ref 0, .ref 4, .ref 57, .int (nI i)] [] h2 sz2) : Ex Γ mL_law Z cc cn 1228 [.ref 0, .ref 4, .ref 57, .int (nI i)] [] h sz := by
  obtain ⟨hX, hM, hd, hL, hsz⟩ := id hJ
  obtain ⟨fs, x4⟩ := hJ.x4
  refine x_aload dL_law_1228 rfl ?_
  refine x_aload dL_law_1229 rfl ?_
  refine x_iload dL_law_1230 rfl ?_
  refine x_k dL_law_1231 ?_
  refine x_iadd dL_law_1232 ?_
  rw [ixk1]
  refine x_sld dL_law_1233 ⟨by omega, by omega⟩ ?_
  refine x_V1q lL_155 ⟨⟨by decide, by decide⟩, ⟨by show cc + 0 ≤ 212196; omega, by show cn + 0 ≤ 8465662; omega⟩⟩ (cc1 := cc + 0) (cn1 := cn + 0) rfl rfl (Nat.le_of_ble_eq_true rfl) dL_law_1234 x4 (c_write _ hX hd) ?_
  rintro _ h1 sz1 ⟨rfl, hz1, hX1, hf1⟩
  obtain ⟨hM1, hsz1, fs1, m57⟩ := hJ.cls hz1 hX1 hf1
  refine x_aload dL_law_1237 rfl ?_
  refine x_aload dL_law_1238 rfl ?_
  refine x_iload dL_law_1239 rfl ?_
  refine x_k dL_law_1240 ?_
  refine x_iadd dL_law_1241 ?_
  rw [ixk1]
  refine x_sld dL_law_1242 ⟨by omega, by omega⟩ ?_
  refine x_V1q lL_158 ⟨⟨by decide, by decide⟩, ⟨by show cc + 0 + 0 ≤ 212196; omega, by show cn + 0 + 0 ≤ 8465662; omega⟩⟩ (cc1 := cc + 0 + 0) (cn1 := cn + 0 + 0) rfl rfl (Nat.le_of_ble_eq_true rfl) dL_law_1243 m57 (m_write _ hM1 hd) ?_
  rintro _ h2 _ ⟨rfl, rfl, hM2, hf2⟩
  have hJ2 := JW.ref hX1 hsz1 hM2 hf2 (ok_write _ hd) (okL_write _ hL)
  refine x_icmp_eq dL_law_1246 (fun _ => ?_) (fun b => absurd rfl b)
  exact K _ _ _ _ _ (by omega) (by omega) hJ2
theorem law_35 {Z : ZT} {cc cn i : Nat} (hJ : JW h sz d) (hi : i + 6 ≤ Γ.2.2.2.2.1) (hl : Γ.2.2.2.2.1 ≤ 3072) (hcc : cc + 414 ≤ 212196) (hcn : cn + 16384 ≤ 8465662) (K : ∀ (cc2 cn2 : Nat) (h2 : Hp) (sz2 : Nat) (d2 : DT), cc2 ≤ cc + 414 → cn2 ≤ cn + 16384 → JW h2 sz2 d2 → Ex Γ mL_law Z cc2 cn2 1288 [.ref 0, .ref 4, .ref 57, .int (nI i)] [] h2 sz2) : Ex Γ mL_law Z cc cn 1251 [.ref 0, .ref 4, .ref 57, .int (nI i)] [] h sz := by
  obtain ⟨hX, hM, hd, hL, hsz⟩ := id hJ
  obtain ⟨fs, x4⟩ := hJ.x4
  refine x_aload dL_law_1251 rfl ?_
  refine x_aload dL_law_1252 rfl ?_
  refine x_iload dL_law_1253 rfl ?_
  refine x_k dL_law_1254 ?_
  refine x_iadd dL_law_1255 ?_
  rw [ixk1]
  refine x_sld dL_law_1256 ⟨by omega, by omega⟩ ?_
  refine x_V1q lL_159 ⟨⟨by decide, by decide⟩, ⟨by show cc + 0 ≤ 212196; omega, by show cn + 0 ≤ 8465662; omega⟩⟩ (cc1 := cc + 0) (cn1 := cn + 0) rfl rfl (Nat.le_of_ble_eq_true rfl) dL_law_1257 x4 (c_count _ hX hd) ?_
  rintro _ h1 sz1 ⟨rfl, hz1, hX1, hf1⟩
  obtain ⟨hM1, hsz1, fs1, m57⟩ := hJ.cls hz1 hX1 hf1
  refine x_aload dL_law_1260 rfl ?_
  refine x_aload dL_law_1261 rfl ?_
  refine x_iload dL_law_1262 rfl ?_
  refine x_k dL_law_1263 ?_
  refine x_iadd dL_law_1264 ?_
  rw [ixk1]
  refine x_sld dL_law_1265 ⟨by omega, by omega⟩ ?_
  refine x_V1q lL_162 ⟨⟨by decide, by decide⟩, ⟨by show cc + 0 + 0 ≤ 212196; omega, by show cn + 0 + 0 ≤ 8465662; omega⟩⟩ (cc1 := cc + 0 + 0) (cn1 := cn + 0 + 0) rfl rfl (Nat.le_of_ble_eq_true rfl) dL_law_1266 m57 (m_count _ hM1 hd) ?_
  rintro _ h2 _ ⟨rfl, rfl, hM2, hf2⟩
  have hJ2 := JW.ref hX1 hsz1 hM2 hf2 hd hL
  refine x_icmp_eq dL_law_1269 (fun _ => ?_) (fun b => absurd rfl b)
  exact K _ _ _ _ _ (by omega) (by omega) hJ2
theorem law_36 {Z : ZT} {cc cn i : Nat} (hJ : JW h sz d) (hi : i + 6 ≤ Γ.2.2.2.2.1) (hl : Γ.2.2.2.2.1 ≤ 3072) (hcc : cc + 414 ≤ 212196) (hcn : cn + 16384 ≤ 8465662) (K : ∀ (cc2 cn2 : Nat) (h2 : Hp) (sz2 : Nat) (d2 : DT), cc2 ≤ cc + 414 → cn2 ≤ cn + 16384 → JW h2 sz2 d2 → Ex Γ mL_law Z cc2 cn2 1288 [.ref 0, .ref 4, .ref 57, .int (nI i)] [] h2 sz2) : Ex Γ mL_law Z cc cn 1274 [.ref 0, .ref 4, .ref 57, .int (nI i)] [] h sz := by
  obtain ⟨hX, hM, hd, hL, hsz⟩ := id hJ
  obtain ⟨fs, x4⟩ := hJ.x4
  refine x_aload dL_law_1274 rfl ?_
  refine x_V0q lL_163 ⟨⟨by decide, by decide⟩, ⟨by show cc + 0 ≤ 212196; omega, by show cn + 0 ≤ 8465662; omega⟩⟩ (cc1 := cc + 0) (cn1 := cn + 0) rfl rfl (Nat.le_of_ble_eq_true rfl) dL_law_1275 x4 (c_digest  hX hd) ?_
  rintro _ h1 sz1 ⟨rfl, hz1, hX1, hf1⟩
  obtain ⟨hM1, hsz1, fs1, m57⟩ := hJ.cls hz1 hX1 hf1
  refine x_aload dL_law_1278 rfl ?_
  refine x_V0q lL_167 ⟨⟨by decide, by decide⟩, ⟨by show cc + 0 + 0 ≤ 212196; omega, by show cn + 0 + 0 ≤ 8465662; omega⟩⟩ (cc1 := cc + 0 + 0) (cn1 := cn + 0 + 0) rfl rfl (Nat.le_of_ble_eq_true rfl) dL_law_1279 m57 (m_digest  hM1 hd) ?_
  rintro _ h2 _ ⟨rfl, rfl, hM2, hf2⟩
  have hJ2 := JW.ref hX1 hsz1 hM2 hf2 hd hL
  refine x_lcmp dL_law_1282 ?_
  refine x_if_eq dL_law_1283 (fun _ => ?_) (fun b => absurd lcmp_same b)
  exact K _ _ _ _ _ (by omega) (by omega) hJ2
end Cases
