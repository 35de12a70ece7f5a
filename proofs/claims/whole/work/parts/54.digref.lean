/-! digest of the reference -/
section Dgr
variable {Γ : GX} {h : Hp} {sz : Nat} {d : DT}
theorem m_gainOfR {i : Nat} (hM : MW h d) (hd : okD d) (hi : i < d_N d) : Rn Γ mX10_gainOf [.ref 57, .int (nI i)] h sz (fun r h' sz' => r = some (.int (gnS d (d_run d (d_ns d)) i)) ∧ sz = sz' ∧ MW h' d ∧ MR h' d ∧ frM h h') := by
  refine x_enter 0 (by decide) rfl ?_
  obtain ⟨_, _, _, w57⟩ := hM.w57
  have hP8 : d_N d ≤ 8 := (pN_ok hd.1.2.1).1
  refine x_aload dX10_gainOf_0 rfl ?_
  refine x_aload dX10_gainOf_1 rfl ?_
  refine x_get fX10_137 dX10_gainOf_2 (by first | assumption | rfl | exact up_same | exact (up_ne (by omega)).trans (by assumption) | exact (up_ne (by assumption)).trans (by assumption)) ?_
  refine x_V1q lX10_166 (Rm.of rfl) (cc1 := 0) (cn1 := 0) rfl rfl (Nat.le_of_ble_eq_true rfl) dX10_gainOf_5 (by first | assumption | rfl | exact up_same | exact (up_ne (by omega)).trans (by assumption) | exact (up_ne (by assumption)).trans (by assumption)) (m_lays hM hd (Nat.le_refl _)) ?_
  rintro _ h2 _ ⟨rfl, rfl, hM2, hR2, hF2, ll, os, kp, tm, s57, s68, s69, s70, hk, -⟩
  obtain ⟨ll2, ow, pr, kd, pl, r57, r60, r61, r62, r63, ro, rp⟩ := id hR2
  refine x_aload dX10_gainOf_8 rfl ?_
  refine x_iload dX10_gainOf_9 rfl ?_
  refine x_V1i lX10_179 (Rm.of rfl) (cc1 := 0) (cn1 := 0) rfl rfl (Nat.le_of_ble_eq_true rfl) dX10_gainOf_10 (by first | assumption | rfl | exact up_same | exact (up_ne (by omega)).trans (by assumption) | exact (up_ne (by assumption)).trans (by assumption)) (m_gainBy s57 r61 s68 s69 hM2.w72 (fun j hj => (ro j hj).2) hk hd (by omega)) ?_
  refine x_iret (ty := .int) dX10_gainOf_13 rfl rfl (Nat.zero_le _) (Nat.zero_le _) ?_
  exact ⟨rfl, rfl, hM2, hR2, hF2⟩
theorem m_digest (hM : MW h d) (hd : okD d) : Rn Γ mX10_digest [.ref 57] h sz (qML h sz d (aDigest d)) := by
  refine x_enter 4 (by decide) rfl ?_
  have hH8 : d_H d ≤ 8 := (hN_ok hd.1.1).1
  have hP8 : d_N d ≤ 8 := (pN_ok hd.1.2.1).1
  have hns := hd.2.1.2.1
  have A297 : ∀ i, i ≤ d_ns d → ∀ (h' : Hp) (v : Value), MW h' d → MR h' d → frM h h' → Ex Γ mX10_digest (gx_Z Γ mX10_digest (qML h sz d (aDigest d))) 0 0 297 [.ref 57, .long (lacc (dgP d (d_N d)) (fun i => nI (d_run d (i + 1)).2.2.2) i), .retAddr 0, .int (nI i), v] [] h' sz := by
    refine loopUp (d_ns d) (fun h' v hM' hR' hF => ?_) (fun i hi ih h' v hM' hR' hF => ?_)
    · obtain ⟨ll, ow, pr, kd, pl, r57, -⟩ := id hR'
      refine x_iload dX10_digest_297 rfl ?_
      refine x_aload dX10_digest_298 rfl ?_
      refine x_get fX10_137 dX10_digest_299 (by first | assumption | rfl | exact up_same | exact (up_ne (by omega)).trans (by assumption) | exact (up_ne (by assumption)).trans (by assumption)) ?_
      refine x_icmp_ge dX10_digest_302 (fun b302 => ?_) (fun b302 => ?_)
      · refine x_ldc2 kX10_258 dX10_digest_324 ?_
        refine x_lload dX10_digest_327 rfl ?_
        refine x_lmul dX10_digest_328 ?_
        refine x_aload dX10_digest_329 rfl ?_
        refine x_V0q lX10_214 (Rm.of rfl) (cc1 := 0) (cn1 := 0) rfl rfl (Nat.le_of_ble_eq_true rfl) dX10_digest_330 (by first | assumption | rfl | exact up_same | exact (up_ne (by omega)).trans (by assumption) | exact (up_ne (by assumption)).trans (by assumption)) (m_changesNow hM' hd) ?_
        rintro _ h2 _ ⟨rfl, rfl, hM2, hF2⟩
        refine x_i2l dX10_digest_333 ?_
        refine x_ladd dX10_digest_334 ?_
        refine x_lret dX10_digest_335 rfl (Nat.zero_le _) (Nat.zero_le _) ?_
        exact ⟨rfl, rfl, hM2, hF.trans hF2⟩
      · exact absurd (Int32.le_refl _) b302
    · obtain ⟨ll, ow, pr, kd, pl, r57, -⟩ := id hR'
      refine x_iload dX10_digest_297 rfl ?_
      refine x_aload dX10_digest_298 rfl ?_
      refine x_get fX10_137 dX10_digest_299 (by first | assumption | rfl | exact up_same | exact (up_ne (by omega)).trans (by assumption) | exact (up_ne (by assumption)).trans (by assumption)) ?_
      refine x_icmp_ge dX10_digest_302 (fun b302 => ?_) (fun b302 => ?_)
      · exact absurd b302 (nI_ge hi (by omega))
      · refine x_ldc2 kX10_258 dX10_digest_305 ?_
        refine x_lload dX10_digest_308 rfl ?_
        refine x_lmul dX10_digest_309 ?_
        refine x_aload dX10_digest_310 rfl ?_
        refine x_iload dX10_digest_311 rfl ?_
        refine x_V1q lX10_175 (Rm.of rfl) (cc1 := 0) (cn1 := 0) rfl rfl (Nat.le_of_ble_eq_true rfl) dX10_digest_312 (by first | assumption | rfl | exact up_same | exact (up_ne (by omega)).trans (by assumption) | exact (up_ne (by assumption)).trans (by assumption)) (m_lengthOf hM' hd hi) ?_
        rintro _ h2 _ ⟨rfl, rfl, hM2, hR2, hF2⟩
        refine x_i2l dX10_digest_315 ?_
        refine x_ladd dX10_digest_316 ?_
        refine x_lstore dX10_digest_317 (Nat.le_of_ble_eq_true rfl) rfl ?_
        refine x_inc1 dX10_digest_318 rfl (Nat.le_of_ble_eq_true rfl) rfl ?_
        refine x_goto dX10_digest_321 ?_
        exact ih h2 _ hM2 hR2 (hF.trans hF2)
  have A164 : ∀ p, p ≤ d_N d → ∀ (h' : Hp) (v : Value), MW h' d → MR h' d → frM h h' → Ex Γ mX10_digest (gx_Z Γ mX10_digest (qML h sz d (aDigest d))) 0 0 164 [.ref 57, .long (dgP d p), .retAddr 0, .int (nI p), v] [] h' sz := by
    refine loopUp (d_N d) (fun h' v hM' hR' hF => ?_) (fun p hp ih h' v hM' hR' hF => ?_)
    · obtain ⟨ll, ow, pr, kd, pl, r57, -⟩ := id hR'
      refine x_iload dX10_digest_164 rfl ?_
      refine x_aload dX10_digest_165 rfl ?_
      refine x_get fX10_104 dX10_digest_166 (by first | assumption | rfl | exact up_same | exact (up_ne (by omega)).trans (by assumption) | exact (up_ne (by assumption)).trans (by assumption)) ?_
      refine x_icmp_ge dX10_digest_169 (fun b169 => ?_) (fun b169 => ?_)
      · refine x_k dX10_digest_295 ?_
        refine x_istore dX10_digest_296 (Nat.le_of_ble_eq_true rfl) rfl ?_
        exact A297 0 (Nat.zero_le _) h' _ hM' hR' hF
      · exact absurd (Int32.le_refl _) b169
    · obtain ⟨ll, ow, pr, kd, pl, r57, -⟩ := id hR'
      have J202 : Ex Γ mX10_digest (gx_Z Γ mX10_digest (qML h sz d (aDigest d))) 0 0 202 [.ref 57, .long (lacc (dgP d p) (peN d p) 3), .retAddr 0, .int (nI p), .int (nI 3)] [] h' sz := by
        refine x_ldc2 kX10_258 dX10_digest_202 ?_
        refine x_lload dX10_digest_205 rfl ?_
        refine x_lmul dX10_digest_206 ?_
        refine x_aload dX10_digest_207 rfl ?_
        refine x_iload dX10_digest_208 rfl ?_
        refine x_aload dX10_digest_209 rfl ?_
        refine x_get fX10_137 dX10_digest_210 (by first | assumption | rfl | exact up_same | exact (up_ne (by omega)).trans (by assumption) | exact (up_ne (by assumption)).trans (by assumption)) ?_
        refine x_V2q lX10_169 (Rm.of rfl) (cc1 := 0) (cn1 := 0) rfl rfl (Nat.le_of_ble_eq_true rfl) dX10_digest_213 (by first | assumption | rfl | exact up_same | exact (up_ne (by omega)).trans (by assumption) | exact (up_ne (by assumption)).trans (by assumption)) (m_keeperOf hM' hd hp (Nat.le_refl _)) ?_
        rintro _ h2 _ ⟨rfl, rfl, hM2, hR2, hF2⟩
        obtain ⟨l2, _, _, _, _, u57, -⟩ := id hR2
        refine x_i2l dX10_digest_216 ?_
        refine x_ladd dX10_digest_217 ?_
        refine x_lstore dX10_digest_218 (Nat.le_of_ble_eq_true rfl) rfl ?_
        refine x_ldc2 kX10_258 dX10_digest_219 ?_
        refine x_lload dX10_digest_222 rfl ?_
        refine x_lmul dX10_digest_223 ?_
        refine x_aload dX10_digest_224 rfl ?_
        refine x_iload dX10_digest_225 rfl ?_
        refine x_aload dX10_digest_226 rfl ?_
        refine x_get fX10_137 dX10_digest_227 (by first | assumption | rfl | exact up_same | exact (up_ne (by omega)).trans (by assumption) | exact (up_ne (by assumption)).trans (by assumption)) ?_
        refine x_V2q lX10_172 (Rm.of rfl) (cc1 := 0) (cn1 := 0) rfl rfl (Nat.le_of_ble_eq_true rfl) dX10_digest_230 (by first | assumption | rfl | exact up_same | exact (up_ne (by omega)).trans (by assumption) | exact (up_ne (by assumption)).trans (by assumption)) (m_soldOf hM2 hd hp (Nat.le_refl _)) ?_
        rintro _ h3 _ ⟨rfl, rfl, hM3, hR3, hF3⟩
        obtain ⟨l3, _, _, _, _, v57, -⟩ := id hR3
        refine x_i2l dX10_digest_233 ?_
        refine x_ladd dX10_digest_234 ?_
        refine x_lstore dX10_digest_235 (Nat.le_of_ble_eq_true rfl) rfl ?_
        refine x_ldc2 kX10_258 dX10_digest_236 ?_
        refine x_lload dX10_digest_239 rfl ?_
        refine x_lmul dX10_digest_240 ?_
        refine x_aload dX10_digest_241 rfl ?_
        refine x_iload dX10_digest_242 rfl ?_
        refine x_V1q lX10_182 (Rm.of rfl) (cc1 := 0) (cn1 := 0) rfl rfl (Nat.le_of_ble_eq_true rfl) dX10_digest_243 (by first | assumption | rfl | exact up_same | exact (up_ne (by omega)).trans (by assumption) | exact (up_ne (by assumption)).trans (by assumption)) (m_gainOfR hM3 hd hp) ?_
        rintro _ h4 _ ⟨rfl, rfl, hM4, hR4, hF4⟩
        obtain ⟨l4, _, _, _, _, x57, -⟩ := id hR4
        refine x_i2l dX10_digest_246 ?_
        refine x_ladd dX10_digest_247 ?_
        refine x_lstore dX10_digest_248 (Nat.le_of_ble_eq_true rfl) rfl ?_
        refine x_ldc2 kX10_258 dX10_digest_249 ?_
        refine x_lload dX10_digest_252 rfl ?_
        refine x_lmul dX10_digest_253 ?_
        refine x_aload dX10_digest_254 rfl ?_
        refine x_iload dX10_digest_255 rfl ?_
        refine x_V1i lX10_205 (Rm.of rfl) (cc1 := 0) (cn1 := 0) rfl rfl (Nat.le_of_ble_eq_true rfl) dX10_digest_256 (by first | assumption | rfl | exact up_same | exact (up_ne (by omega)).trans (by assumption) | exact (up_ne (by assumption)).trans (by assumption)) (m_outOf hR4 hM4.w65 hd hp) ?_
        refine x_i2l dX10_digest_259 ?_
        refine x_ladd dX10_digest_260 ?_
        refine x_lstore dX10_digest_261 (Nat.le_of_ble_eq_true rfl) rfl ?_
        refine x_ldc2 kX10_258 dX10_digest_262 ?_
        refine x_lload dX10_digest_265 rfl ?_
        refine x_lmul dX10_digest_266 ?_
        refine x_aload dX10_digest_267 rfl ?_
        refine x_iload dX10_digest_268 rfl ?_
        refine x_k dX10_digest_269 ?_
        refine x_aload dX10_digest_270 rfl ?_
        refine x_get fX10_104 dX10_digest_271 (by first | assumption | rfl | exact up_same | exact (up_ne (by omega)).trans (by assumption) | exact (up_ne (by assumption)).trans (by assumption)) ?_
        refine x_ishl dX10_digest_274 ?_
        refine x_k dX10_digest_275 ?_
        refine x_isub dX10_digest_276 ?_
        refine x_k dX10_digest_277 ?_
        refine x_iload dX10_digest_278 rfl ?_
        refine x_ishl dX10_digest_279 ?_
        refine x_k dX10_digest_280 ?_
        refine x_ixor dX10_digest_281 ?_
        rw [everyB hP8, shl1 (by omega)]
        refine x_iand dX10_digest_282 ?_
        rw [fa_diff, show 2 ^ d_N d - 1 = allN d from rfl]
        refine x_V2i lX10_226 (Rm.of rfl) (cc1 := 0) (cn1 := 0) rfl rfl (Nat.le_of_ble_eq_true rfl) dX10_digest_283 (by first | assumption | rfl | exact up_same | exact (up_ne (by omega)).trans (by assumption) | exact (up_ne (by assumption)).trans (by assumption)) (m_comeOf x57 hM4.w73 hd (by omega) (gP_ok hd hp)) ?_
        refine x_i2l dX10_digest_286 ?_
        refine x_ladd dX10_digest_287 ?_
        refine x_lstore dX10_digest_288 (Nat.le_of_ble_eq_true rfl) rfl ?_
        refine x_inc1 dX10_digest_289 rfl (Nat.le_of_ble_eq_true rfl) rfl ?_
        refine x_goto dX10_digest_292 ?_
        exact ih h4 _ hM4 hR4 (((hF.trans hF2).trans hF3).trans hF4)
      refine x_iload dX10_digest_164 rfl ?_
      refine x_aload dX10_digest_165 rfl ?_
      refine x_get fX10_104 dX10_digest_166 (by first | assumption | rfl | exact up_same | exact (up_ne (by omega)).trans (by assumption) | exact (up_ne (by assumption)).trans (by assumption)) ?_
      refine x_icmp_ge dX10_digest_169 (fun b169 => ?_) (fun b169 => ?_)
      · exact absurd b169 (nI_ge hp (by omega))
      · refine x_k dX10_digest_172 ?_
        refine x_istore dX10_digest_173 (Nat.le_of_ble_eq_true rfl) rfl ?_
        
        refine x_eq rfl rfl rfl (loopUp (P := fun w => Ex Γ mX10_digest _ 0 0 175 [.ref 57, .long (lacc (dgP d p) (peN d p) w), .retAddr 0, .int (nI p), .int (nI w)] [] h' sz) 3 ?_ (fun w hw ih2 => ?_) 0 (Nat.zero_le _))
        · refine x_iload dX10_digest_175 rfl ?_
          refine x_k dX10_digest_177 ?_
          refine x_icmp_ge dX10_digest_178 (fun b178 => ?_) (fun b178 => ?_)
          · exact J202
          · exact absurd (Int32.le_refl _) b178
        · refine x_iload dX10_digest_175 rfl ?_
          refine x_k dX10_digest_177 ?_
          refine x_icmp_ge dX10_digest_178 (fun b178 => ?_) (fun b178 => ?_)
          · exact absurd b178 (nI_ge (b := 3) hw (by decide))
          · refine x_ldc2 kX10_258 dX10_digest_181 ?_
            refine x_lload dX10_digest_184 rfl ?_
            refine x_lmul dX10_digest_185 ?_
            refine x_aload dX10_digest_186 rfl ?_
            refine x_iload dX10_digest_187 rfl ?_
            refine x_iload dX10_digest_188 rfl ?_
            refine x_V2i lX10_131 (Rm.of rfl) (cc1 := 0) (cn1 := 0) rfl rfl (Nat.le_of_ble_eq_true rfl) dX10_digest_190 (by first | assumption | rfl | exact up_same | exact (up_ne (by omega)).trans (by assumption) | exact (up_ne (by assumption)).trans (by assumption)) (m_personOf hR' hd hp (by omega)) ?_
            refine x_i2l dX10_digest_193 ?_
            refine x_ladd dX10_digest_194 ?_
            refine x_lstore dX10_digest_195 (Nat.le_of_ble_eq_true rfl) rfl ?_
            refine x_inc1 dX10_digest_196 rfl (Nat.le_of_ble_eq_true rfl) rfl ?_
            refine x_goto dX10_digest_199 ?_
            exact ih2
  have A63 : ∀ k, k ≤ d_H d → ∀ (h' : Hp) (v : Value), MW h' d → MR h' d → frM h h' → Ex Γ mX10_digest (gx_Z Γ mX10_digest (qML h sz d (aDigest d))) 0 0 63 [.ref 57, .long (dgH d k), .retAddr 0, .int (nI k), v] [] h' sz := by
    refine loopUp (d_H d) (fun h' v hM' hR' hF => ?_) (fun k hk ih h' v hM' hR' hF => ?_)
    · obtain ⟨ll, ow, pr, kd, pl, r57, -⟩ := id hR'
      refine x_iload dX10_digest_63 rfl ?_
      refine x_aload dX10_digest_64 rfl ?_
      refine x_get fX10_96 dX10_digest_65 (by first | assumption | rfl | exact up_same | exact (up_ne (by omega)).trans (by assumption) | exact (up_ne (by assumption)).trans (by assumption)) ?_
      refine x_icmp_ge dX10_digest_68 (fun b68 => ?_) (fun b68 => ?_)
      · refine x_k dX10_digest_162 ?_
        refine x_istore dX10_digest_163 (Nat.le_of_ble_eq_true rfl) rfl ?_
        exact A164 0 (Nat.zero_le _) h' _ hM' hR' hF
      · exact absurd (Int32.le_refl _) b68
    · obtain ⟨ll, ow, pr, kd, pl, r57, -⟩ := id hR'
      have J101 : Ex Γ mX10_digest (gx_Z Γ mX10_digest (qML h sz d (aDigest d))) 0 0 101 [.ref 57, .long (lacc (dgH d k) (hoN d k) 3), .retAddr 0, .int (nI k), .int (nI 3)] [] h' sz := by
        refine x_aload dX10_digest_101 rfl ?_
        refine x_aload dX10_digest_102 rfl ?_
        refine x_get fX10_137 dX10_digest_103 (by first | assumption | rfl | exact up_same | exact (up_ne (by omega)).trans (by assumption) | exact (up_ne (by assumption)).trans (by assumption)) ?_
        refine x_V1q lX10_166 (Rm.of rfl) (cc1 := 0) (cn1 := 0) rfl rfl (Nat.le_of_ble_eq_true rfl) dX10_digest_106 (by first | assumption | rfl | exact up_same | exact (up_ne (by omega)).trans (by assumption) | exact (up_ne (by assumption)).trans (by assumption)) (m_lays hM' hd (Nat.le_refl _)) ?_
        rintro _ h2 _ ⟨rfl, rfl, hM2, hR2, hF2, l2, os, kp, tm, s57, s68, s69, s70, hkk, -⟩
        refine x_ldc2 kX10_258 dX10_digest_109 ?_
        refine x_lload dX10_digest_112 rfl ?_
        refine x_lmul dX10_digest_113 ?_
        refine x_aload dX10_digest_114 rfl ?_
        refine x_get fX10_40 dX10_digest_115 (by first | assumption | rfl | exact up_same | exact (up_ne (by omega)).trans (by assumption) | exact (up_ne (by assumption)).trans (by assumption)) ?_
        refine x_iload dX10_digest_118 rfl ?_
        refine x_ialdn dX10_digest_119 (by first | assumption | rfl | exact up_same | exact (up_ne (by omega)).trans (by assumption) | exact (up_ne (by assumption)).trans (by assumption)) ⟨by first | omega | decide, by decide⟩ ?_
        rw [(hkk.1 k hk).1]
        refine x_i2l dX10_digest_120 ?_
        refine x_ladd dX10_digest_121 ?_
        refine x_lstore dX10_digest_122 (Nat.le_of_ble_eq_true rfl) rfl ?_
        refine x_k dX10_digest_123 ?_
        refine x_istore dX10_digest_124 (Nat.le_of_ble_eq_true rfl) rfl ?_
        refine x_eq rfl rfl rfl (loopUp (P := fun p => Ex Γ mX10_digest _ 0 0 126 [.ref 57, .long (lacc (31 * lacc (dgH d k) (hoN d k) 3 + (nI ((d_run d (d_ns d)).1 k)).toInt64) (vlN d k) p), .retAddr 0, .int (nI k), .int (nI p)] [] h2 sz) (d_N d) ?_ (fun p hp ih2 => ?_) 0 (Nat.zero_le _))
        · refine x_iload dX10_digest_126 rfl ?_
          refine x_aload dX10_digest_128 rfl ?_
          refine x_get fX10_104 dX10_digest_129 (by first | assumption | rfl | exact up_same | exact (up_ne (by omega)).trans (by assumption) | exact (up_ne (by assumption)).trans (by assumption)) ?_
          refine x_icmp_ge dX10_digest_132 (fun b132 => ?_) (fun b132 => ?_)
          · refine x_inc1 dX10_digest_156 rfl (Nat.le_of_ble_eq_true rfl) rfl ?_
            refine x_goto dX10_digest_159 ?_
            exact ih h2 _ hM2 hR2 (hF.trans hF2)
          · exact absurd (Int32.le_refl _) b132
        · refine x_iload dX10_digest_126 rfl ?_
          refine x_aload dX10_digest_128 rfl ?_
          refine x_get fX10_104 dX10_digest_129 (by first | assumption | rfl | exact up_same | exact (up_ne (by omega)).trans (by assumption) | exact (up_ne (by assumption)).trans (by assumption)) ?_
          refine x_icmp_ge dX10_digest_132 (fun b132 => ?_) (fun b132 => ?_)
          · exact absurd b132 (nI_ge hp (by omega))
          · refine x_ldc2 kX10_258 dX10_digest_135 ?_
            refine x_lload dX10_digest_138 rfl ?_
            refine x_lmul dX10_digest_139 ?_
            refine x_aload dX10_digest_140 rfl ?_
            refine x_iload dX10_digest_141 rfl ?_
            refine x_iload dX10_digest_142 rfl ?_
            refine x_V2i lX10_208 (Rm.of rfl) (cc1 := 0) (cn1 := 0) rfl rfl (Nat.le_of_ble_eq_true rfl) dX10_digest_144 (by first | assumption | rfl | exact up_same | exact (up_ne (by omega)).trans (by assumption) | exact (up_ne (by assumption)).trans (by assumption)) (m_valueOf hR2 hM2.w72 hd hk (by omega)) ?_
            refine x_i2l dX10_digest_147 ?_
            refine x_ladd dX10_digest_148 ?_
            refine x_lstore dX10_digest_149 (Nat.le_of_ble_eq_true rfl) rfl ?_
            refine x_inc1 dX10_digest_150 rfl (Nat.le_of_ble_eq_true rfl) rfl ?_
            refine x_goto dX10_digest_153 ?_
            exact ih2
      refine x_iload dX10_digest_63 rfl ?_
      refine x_aload dX10_digest_64 rfl ?_
      refine x_get fX10_96 dX10_digest_65 (by first | assumption | rfl | exact up_same | exact (up_ne (by omega)).trans (by assumption) | exact (up_ne (by assumption)).trans (by assumption)) ?_
      refine x_icmp_ge dX10_digest_68 (fun b68 => ?_) (fun b68 => ?_)
      · exact absurd b68 (nI_ge hk (by omega))
      · refine x_k dX10_digest_71 ?_
        refine x_istore dX10_digest_72 (Nat.le_of_ble_eq_true rfl) rfl ?_
        
        refine x_eq rfl rfl rfl (loopUp (P := fun w => Ex Γ mX10_digest _ 0 0 74 [.ref 57, .long (lacc (dgH d k) (hoN d k) w), .retAddr 0, .int (nI k), .int (nI w)] [] h' sz) 3 ?_ (fun w hw ih2 => ?_) 0 (Nat.zero_le _))
        · refine x_iload dX10_digest_74 rfl ?_
          refine x_k dX10_digest_76 ?_
          refine x_icmp_ge dX10_digest_77 (fun b77 => ?_) (fun b77 => ?_)
          · exact J101
          · exact absurd (Int32.le_refl _) b77
        · refine x_iload dX10_digest_74 rfl ?_
          refine x_k dX10_digest_76 ?_
          refine x_icmp_ge dX10_digest_77 (fun b77 => ?_) (fun b77 => ?_)
          · exact absurd b77 (nI_ge (b := 3) hw (by decide))
          · refine x_ldc2 kX10_258 dX10_digest_80 ?_
            refine x_lload dX10_digest_83 rfl ?_
            refine x_lmul dX10_digest_84 ?_
            refine x_aload dX10_digest_85 rfl ?_
            refine x_iload dX10_digest_86 rfl ?_
            refine x_iload dX10_digest_87 rfl ?_
            refine x_V2i lX10_125 (Rm.of rfl) (cc1 := 0) (cn1 := 0) rfl rfl (Nat.le_of_ble_eq_true rfl) dX10_digest_89 (by first | assumption | rfl | exact up_same | exact (up_ne (by omega)).trans (by assumption) | exact (up_ne (by assumption)).trans (by assumption)) (m_houseOf hR' hd hk (by omega)) ?_
            refine x_i2l dX10_digest_92 ?_
            refine x_ladd dX10_digest_93 ?_
            refine x_lstore dX10_digest_94 (Nat.le_of_ble_eq_true rfl) rfl ?_
            refine x_inc1 dX10_digest_95 rfl (Nat.le_of_ble_eq_true rfl) rfl ?_
            refine x_goto dX10_digest_98 ?_
            exact ih2
  have A6 : ∀ w, w ≤ 8 → ∀ (h' : Hp) (v : Value), MW h' d → frM h h' → Ex Γ mX10_digest (gx_Z Γ mX10_digest (qML h sz d (aDigest d))) 0 0 6 [.ref 57, .long (lacc 17 (fun w => aCount d (nI w)) w), .retAddr 0, .int (nI w), v] [] h' sz := by
    refine loopUp 8 (fun h' v hM' hF => ?_) (fun w hw ih h' v hM' hF => ?_)
    · obtain ⟨_, _, _, w57⟩ := hM'.w57
      refine x_iload dX10_digest_6 rfl ?_
      refine x_k dX10_digest_7 ?_
      refine x_icmp_ge dX10_digest_9 (fun b9 => ?_) (fun b9 => ?_)
      · refine x_ldc2 kX10_258 dX10_digest_31 ?_
        refine x_lload dX10_digest_34 rfl ?_
        refine x_lmul dX10_digest_35 ?_
        refine x_aload dX10_digest_36 rfl ?_
        refine x_k dX10_digest_37 ?_
        refine x_V1q lX10_114 (Rm.of rfl) (cc1 := 0) (cn1 := 0) rfl rfl (Nat.le_of_ble_eq_true rfl) dX10_digest_38 (by first | assumption | rfl | exact up_same | exact (up_ne (by omega)).trans (by assumption) | exact (up_ne (by assumption)).trans (by assumption)) (m_faultOf0 hM' hd) ?_
        rintro _ h2 _ ⟨rfl, rfl, hM2, hF2⟩
        obtain ⟨_, _, _, u57⟩ := hM2.w57
        refine x_i2l dX10_digest_41 ?_
        refine x_ladd dX10_digest_42 ?_
        refine x_lstore dX10_digest_43 (Nat.le_of_ble_eq_true rfl) rfl ?_
        refine x_ldc2 kX10_258 dX10_digest_44 ?_
        refine x_lload dX10_digest_47 rfl ?_
        refine x_lmul dX10_digest_48 ?_
        refine x_aload dX10_digest_49 rfl ?_
        refine x_k dX10_digest_50 ?_
        refine x_V1q lX10_114 (Rm.of rfl) (cc1 := 0) (cn1 := 0) rfl rfl (Nat.le_of_ble_eq_true rfl) dX10_digest_51 (by first | assumption | rfl | exact up_same | exact (up_ne (by omega)).trans (by assumption) | exact (up_ne (by assumption)).trans (by assumption)) (m_faultOf1 hM2 hd) ?_
        rintro _ h3 _ ⟨rfl, rfl, hM3, hF3⟩
        obtain ⟨_, _, _, v57⟩ := hM3.w57
        refine x_i2l dX10_digest_54 ?_
        refine x_ladd dX10_digest_55 ?_
        refine x_lstore dX10_digest_56 (Nat.le_of_ble_eq_true rfl) rfl ?_
        refine x_aload dX10_digest_57 rfl ?_
        refine x_V0q lX10_118 (Rm.of rfl) (cc1 := 0) (cn1 := 0) rfl rfl (Nat.le_of_ble_eq_true rfl) dX10_digest_58 (by first | assumption | rfl | exact up_same | exact (up_ne (by omega)).trans (by assumption) | exact (up_ne (by assumption)).trans (by assumption)) (m_reads hM3 hd) ?_
        rintro _ h4 _ ⟨rfl, rfl, hM4, hR4, hF4⟩
        refine x_k dX10_digest_61 ?_
        refine x_istore dX10_digest_62 (Nat.le_of_ble_eq_true rfl) rfl ?_
        exact A63 0 (Nat.zero_le _) h4 _ hM4 hR4 (((hF.trans hF2).trans hF3).trans hF4)
      · exact absurd (Int32.le_refl _) b9
    · obtain ⟨_, _, _, w57⟩ := hM'.w57
      refine x_iload dX10_digest_6 rfl ?_
      refine x_k dX10_digest_7 ?_
      refine x_icmp_ge dX10_digest_9 (fun b9 => ?_) (fun b9 => ?_)
      · exact absurd b9 (nI_ge (b := 8) hw (by decide))
      · refine x_ldc2 kX10_258 dX10_digest_12 ?_
        refine x_lload dX10_digest_15 rfl ?_
        refine x_lmul dX10_digest_16 ?_
        refine x_aload dX10_digest_17 rfl ?_
        refine x_iload dX10_digest_18 rfl ?_
        refine x_V1q lX10_260 (Rm.of rfl) (cc1 := 0) (cn1 := 0) rfl rfl (Nat.le_of_ble_eq_true rfl) dX10_digest_19 (by first | assumption | rfl | exact up_same | exact (up_ne (by omega)).trans (by assumption) | exact (up_ne (by assumption)).trans (by assumption)) (m_count (nI w) hM' hd) ?_
        rintro _ h2 _ ⟨rfl, rfl, hM2, hF2⟩
        refine x_i2l dX10_digest_22 ?_
        refine x_ladd dX10_digest_23 ?_
        refine x_lstore dX10_digest_24 (Nat.le_of_ble_eq_true rfl) rfl ?_
        refine x_inc1 dX10_digest_25 rfl (Nat.le_of_ble_eq_true rfl) rfl ?_
        refine x_goto dX10_digest_28 ?_
        exact ih h2 _ hM2 (hF.trans hF2)
  refine x_ldc2 kX10_256 dX10_digest_0 ?_
  refine x_lstore dX10_digest_3 (Nat.le_of_ble_eq_true rfl) rfl ?_
  refine x_k dX10_digest_4 ?_
  refine x_istore dX10_digest_5 (Nat.le_of_ble_eq_true rfl) rfl ?_
  exact A6 0 (Nat.zero_le _) h _ hM (fun _ _ => rfl)
end Dgr
