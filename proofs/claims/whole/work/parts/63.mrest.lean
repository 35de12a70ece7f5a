/-! rest, of the reference -/
/-- nobody likes himself more or less than nothing -/
def okL (d : DT) : Prop := ∀ p, p < 8 → d_l d (8 * p + p) = 0
theorem ix4 (q p : Nat) : 4 * nI q + nI p = nI (4 * q + p) := by
  rw [show (4 : Int32) = nI 4 from rfl, pk_mul, nI_add]
/-- the likings of the rows below n -/
def lkOK (d : DT) (lk : Nat → Int32) (n : Nat) : Prop := ∀ r, r < n → ∀ p, p < d_N d → lk (4 * r + p) = rwL d p r
section MRest
variable {Γ : GX} {h : Hp} {sz : Nat} {d : DT}
theorem MW.w74 (hM : MW h d) : ∃ lk, h 74 = ia 26244 lk := by
  obtain ⟨hs, pe, ll, ty, tx, ow, pr, kd, pl, lw, wh, os, kp, tm, ls, lk, af, wt, be, th, fr, it, mv, -, -, ⟨-, -, a74, -⟩, -⟩ := hM
  exact ⟨lk, a74⟩
theorem m_restA {w : Int32} {Q : QT} (hd : okD d) (hL : okL d) (hN : d_N d ≤ 4) (K : ∀ (h' : Hp) (lk : Nat → Int32), MW h' d → MR h' d → frM h h' → h' 74 = ia 26244 lk → lkOK d lk (rwN d) → ∀ v : Value, Ex Γ mX10_restOf (gx_Z Γ mX10_restOf Q) 0 0 105 [.ref 57, .int w, .int (nI (rwN d)), .int (nI (rwN d)), v, .retAddr 0, .retAddr 0, .retAddr 0, .retAddr 0, .retAddr 0, .retAddr 0] [] h' sz) : ∀ r, r ≤ rwN d → ∀ (h' : Hp) (lk : Nat → Int32) (v : Value), MW h' d → MR h' d → frM h h' → h' 74 = ia 26244 lk → lkOK d lk r → Ex Γ mX10_restOf (gx_Z Γ mX10_restOf Q) 0 0 18 [.ref 57, .int w, .int (nI (rwN d)), .int (nI r), v, .retAddr 0, .retAddr 0, .retAddr 0, .retAddr 0, .retAddr 0, .retAddr 0] [] h' sz := by
  have hle := rwN_le hd hN
  refine loopUp (rwN d) (fun h' lk v hM' hR' hF' h74 hlk => ?_) (fun r hr ih h' lk v hM' hR' hF' h74 hlk => ?_)
  · refine x_iload dX10_restOf_18 rfl ?_
    refine x_iload dX10_restOf_19 rfl ?_
    refine x_icmp_ge dX10_restOf_20 (fun b20 => ?_) (fun b20 => ?_)
    · exact K h' lk hM' hR' hF' h74 hlk v
    · exact absurd (Int32.le_refl _) b20
  · obtain ⟨ll, ow, pr, kd, pl, r57, -⟩ := id hR'
    have A39 : ∀ (h2 : Hp), MW h2 d → MR h2 d → MQw h2 d (rwR d r) → frM h h2 → h2 74 = ia 26244 lk → Ex Γ mX10_restOf (gx_Z Γ mX10_restOf Q) 0 0 39 [.ref 57, .int w, .int (nI (rwN d)), .int (nI r), .int (nI 0), .retAddr 0, .retAddr 0, .retAddr 0, .retAddr 0, .retAddr 0, .retAddr 0] [] h2 sz := by
      intro h2 hM2 hR2 hQ2 hF2 g74
      obtain ⟨l2, os, kp, tm, s57, s68, s69, s70, hk⟩ := id hQ2
      have g73 := hM2.w73
      refine x_eq rfl rfl (show h2 = va_up h2 74 (ia 26244 (blkG lk (4 * r) (fun p => rwL d p r) 0)) by rw [blkG_0, up_id g74]) (loopUp (P := fun q => Ex Γ mX10_restOf _ 0 0 39 [.ref 57, .int w, .int (nI (rwN d)), .int (nI r), .int (nI q), .retAddr 0, .retAddr 0, .retAddr 0, .retAddr 0, .retAddr 0, .retAddr 0] [] (va_up h2 74 (ia 26244 (blkG lk (4 * r) (fun p => rwL d p r) q))) sz) (d_N d) ?_ (fun q hq ih2 => ?_) 0 (Nat.zero_le _))
      · refine x_iload dX10_restOf_39 rfl ?_
        refine x_aload dX10_restOf_41 rfl ?_
        refine x_get fX10_104 dX10_restOf_42 (by first | assumption | rfl | exact up_same | exact (up_ne (by omega)).trans (by assumption) | exact (up_ne (by assumption)).trans (by assumption)) ?_
        refine x_icmp_ge dX10_restOf_45 (fun b45 => ?_) (fun b45 => ?_)
        · refine x_inc1 dX10_restOf_99 rfl (Nat.le_of_ble_eq_true rfl) rfl ?_
          refine x_goto dX10_restOf_102 ?_
          refine ih _ _ _ hM2.wk74 (hR2.of (fun j j1 j2 => up_ne (by omega))) (hF2.trans (fun j hj => up_ne (by omega))) up_same (fun r' hr' p hp => ?_)
          rw [blkG]
          by_cases er : r' = r
          · subst er
            rw [if_pos (by omega), Nat.add_sub_cancel_left]
          · rw [if_neg (by omega)]; exact hlk r' (by omega) p hp
        · exact absurd (Int32.le_refl _) b45
      · have hkq := hk.2.1 q (by omega)
        have ekq : kp q = nI q ↔ (rwR d r).2.1 q = q := by rw [hkq.1]; exact nI_eq (by omega) (by omega)
        have hl0 : (rwR d r).2.1 q = q → rwL d q r = 0 := fun z => by rw [rwL, z]; exact hL q (by omega)
        have ix : 8 * nI q + kp q = nI (8 * q + (rwR d r).2.1 q) := by rw [hkq.1, ix8']
        refine x_iload dX10_restOf_39 rfl ?_
        refine x_aload dX10_restOf_41 rfl ?_
        refine x_get fX10_104 dX10_restOf_42 (by first | assumption | rfl | exact up_same | exact (up_ne (by omega)).trans (by assumption) | exact (up_ne (by assumption)).trans (by assumption)) ?_
        refine x_icmp_ge dX10_restOf_45 (fun b45 => ?_) (fun b45 => ?_)
        · exact absurd b45 (nI_ge hq (by omega))
        · refine x_aload dX10_restOf_48 rfl ?_
          refine x_get fX10_58 dX10_restOf_49 (by first | assumption | rfl | exact up_same | exact (up_ne (by omega)).trans (by assumption) | exact (up_ne (by assumption)).trans (by assumption)) ?_
          refine x_k dX10_restOf_52 ?_
          refine x_iload dX10_restOf_53 rfl ?_
          refine x_imul dX10_restOf_54 ?_
          refine x_iload dX10_restOf_55 rfl ?_
          refine x_iadd dX10_restOf_57 ?_
          rw [ix4]
          refine x_aload dX10_restOf_58 rfl ?_
          refine x_get fX10_43 dX10_restOf_59 (by first | assumption | rfl | exact up_same | exact (up_ne (by omega)).trans (by assumption) | exact (up_ne (by assumption)).trans (by assumption)) ?_
          refine x_iload dX10_restOf_62 rfl ?_
          refine x_ialdn dX10_restOf_64 (by first | assumption | rfl | exact up_same | exact (up_ne (by omega)).trans (by assumption) | exact (up_ne (by assumption)).trans (by assumption)) ⟨by first | omega | decide, by decide⟩ ?_
          refine x_iload dX10_restOf_65 rfl ?_
          refine x_icmp_ne dX10_restOf_67 (fun b67 => ?_) (fun b67 => ?_)
          · refine x_aload dX10_restOf_74 rfl ?_
            refine x_get fX10_55 dX10_restOf_75 (by first | assumption | rfl | exact up_same | exact (up_ne (by omega)).trans (by assumption) | exact (up_ne (by assumption)).trans (by assumption)) ?_
            refine x_k dX10_restOf_78 ?_
            refine x_iload dX10_restOf_80 rfl ?_
            refine x_imul dX10_restOf_82 ?_
            refine x_aload dX10_restOf_83 rfl ?_
            refine x_get fX10_43 dX10_restOf_84 (by first | assumption | rfl | exact up_same | exact (up_ne (by omega)).trans (by assumption) | exact (up_ne (by assumption)).trans (by assumption)) ?_
            refine x_iload dX10_restOf_87 rfl ?_
            refine x_ialdn dX10_restOf_89 (by first | assumption | rfl | exact up_same | exact (up_ne (by omega)).trans (by assumption) | exact (up_ne (by assumption)).trans (by assumption)) ⟨by first | omega | decide, by decide⟩ ?_
            refine x_iadd dX10_restOf_90 ?_
            rw [ix]
            refine x_ialdn dX10_restOf_91 (by first | assumption | rfl | exact up_same | exact (up_ne (by omega)).trans (by assumption) | exact (up_ne (by assumption)).trans (by assumption)) ⟨by first | omega | decide, by decide⟩ ?_
            refine x_iastn dX10_restOf_92 (by first | assumption | rfl | exact up_same | exact (up_ne (by omega)).trans (by assumption) | exact (up_ne (by assumption)).trans (by assumption)) ⟨by first | omega | decide, by decide⟩ ?_
            refine x_inc1 dX10_restOf_93 rfl (Nat.le_of_ble_eq_true rfl) rfl ?_
            refine x_goto dX10_restOf_96 ?_
            first
              | (have hz : (rwR d r).2.1 q = q := ekq.mp (Classical.not_not.mp b67)
                 rw [up_up, blkG_s _ _ (fun p => rwL d p r) q (hl0 hz).symm]; exact ih2)
              | (rw [up_up, blkG_s (v := d_l d (8 * q + (rwR d r).2.1 q)) _ _ (fun p => rwL d p r) q rfl]; exact ih2)
          · refine x_k dX10_restOf_70 ?_
            refine x_goto dX10_restOf_71 ?_
            refine x_iastn dX10_restOf_92 (by first | assumption | rfl | exact up_same | exact (up_ne (by omega)).trans (by assumption) | exact (up_ne (by assumption)).trans (by assumption)) ⟨by first | omega | decide, by decide⟩ ?_
            refine x_inc1 dX10_restOf_93 rfl (Nat.le_of_ble_eq_true rfl) rfl ?_
            refine x_goto dX10_restOf_96 ?_
            first
              | (have hz : (rwR d r).2.1 q = q := ekq.mp (Classical.not_not.mp b67)
                 rw [up_up, blkG_s _ _ (fun p => rwL d p r) q (hl0 hz).symm]; exact ih2)
              | (rw [up_up, blkG_s (v := d_l d (8 * q + (rwR d r).2.1 q)) _ _ (fun p => rwL d p r) q rfl]; exact ih2)
    refine x_iload dX10_restOf_18 rfl ?_
    refine x_iload dX10_restOf_19 rfl ?_
    refine x_icmp_ge dX10_restOf_20 (fun b20 => ?_) (fun b20 => ?_)
    · exact absurd b20 (nI_ge hr (by omega))
    · refine x_aload dX10_restOf_23 rfl ?_
      refine x_iload dX10_restOf_24 rfl ?_
      refine x_V1q lX10_189 (Rm.of rfl) (cc1 := 0) (cn1 := 0) rfl rfl (Nat.le_of_ble_eq_true rfl) dX10_restOf_25 (by first | assumption | rfl | exact up_same | exact (up_ne (by omega)).trans (by assumption) | exact (up_ne (by assumption)).trans (by assumption)) (m_places hM' hR' hd hN hr) ?_
      rintro _ h1 _ ⟨rfl, rfl, hM1, hR1, hP1, hf1⟩
      obtain ⟨l1, _, _, _, _, u57, -⟩ := id hR1
      refine x_aload dX10_restOf_28 rfl ?_
      refine x_aload dX10_restOf_29 rfl ?_
      refine x_get fX10_137 dX10_restOf_30 (by first | assumption | rfl | exact up_same | exact (up_ne (by omega)).trans (by assumption) | exact (up_ne (by assumption)).trans (by assumption)) ?_
      refine x_V1q lX10_162 (Rm.of rfl) (cc1 := 0) (cn1 := 0) rfl rfl (Nat.le_of_ble_eq_true rfl) dX10_restOf_33 (by first | assumption | rfl | exact up_same | exact (up_ne (by omega)).trans (by assumption) | exact (up_ne (by assumption)).trans (by assumption)) (m_runRow hM1 hR1 hP1 hd) ?_
      rintro _ h2 _ ⟨rfl, rfl, hM2, hR2, hP2, hQ2, hf2⟩
      refine x_k dX10_restOf_36 ?_
      refine x_istore dX10_restOf_37 (Nat.le_of_ble_eq_true rfl) rfl ?_
      exact A39 h2 hM2 hR2 hQ2 (hF'.trans (fun k hk => (hf2 k (by omega) (by omega)).trans (hf1 k (by omega)))) ((hf2 74 (by decide) (by decide)).trans ((hf1 74 (by decide)).trans h74))
/-- the last loop's k: all that was seen of p is not better -/
noncomputable abbrev noB (d : DT) (r p s : Nat) : Prop := (∀ i, i < p → rstB d r i = true) ∧ ∀ i, i < s → ¬ rwL d p r < rwL d p (rwS d r p i)
theorem m_restP {w n0 fr0 : Int32} {Q : QT} {r : Nat} {lk wh kd pl : Nat → Int32} {hs sa ll fa fi : Int32} (hd : okD d) (hN : d_N d ≤ 4) (hr : r < rwN d) (h57 : h 57 = cM (nI (d_H d)) (nI (d_N d)) sa ll fa fi) (h62 : h 62 = ia 9 kd) (h63 : h 63 = ia 9 pl) (h67 : h 67 = ia 9 wh) (h74 : h 74 = ia 26244 lk) (hkd : ∀ p, p < d_N d → kd p = nI (kinN (d_b1 d) p) ∧ pl p = nI (posN (d_H d) (d_b1 d) p) - 1) (hwh : ∀ p, p < d_N d → wh p = nI (rwP d r p) - 1) (hlk : lkOK d lk (rwN d)) (K : ∀ v u z : Value, Ex Γ mX10_restOf (gx_Z Γ mX10_restOf Q) 0 0 283 [.ref 57, .int w, .int (nI (rwN d)), .int n0, .int fr0, .int (nI r), .int (bI (rstR d r = true)), v, .int (nI (d_N d)), u, z] [] h sz) : ∀ p, p ≤ d_N d → ∀ u z : Value, Ex Γ mX10_restOf (gx_Z Γ mX10_restOf Q) 0 0 134 [.ref 57, .int w, .int (nI (rwN d)), .int n0, .int fr0, .int (nI r), .int (bI (∀ i, i < p → rstB d r i = true)), .int (nI ((d_H d + 1) ^ (d_N d - p))), .int (nI p), u, z] [] h sz := by
  have hle := rwN_le hd hN
  have hH8 : d_H d ≤ 8 := (hN_ok hd.1.1).1
  refine loopUp (d_N d) (fun u z => ?_) (fun p hp ih u z => ?_)
  · refine x_iload dX10_restOf_134 rfl ?_
    refine x_aload dX10_restOf_136 rfl ?_
    refine x_get fX10_104 dX10_restOf_137 (by first | assumption | rfl | exact up_same | exact (up_ne (by omega)).trans (by assumption) | exact (up_ne (by assumption)).trans (by assumption)) ?_
    refine x_icmp_ge dX10_restOf_140 (fun b140 => ?_) (fun b140 => ?_)
    · rw [show bI (∀ i, i < d_N d → rstB d r i = true) = bI (rstR d r = true) from bI_congr decide_eq_true_iff.symm]
      exact K _ _ _
    · exact absurd (Int32.le_refl _) b140
  · have hk2 := (kinN_ok hd.1.2.1 hp).2
    have ek2 : kd p = 2 ↔ kinN (d_b1 d) p = 2 := by rw [(hkd p hp).1]; exact nI_eq (b := 2) (by omega) (by omega)
    have hpo := (posN_ok hH8 (d_b1 d) p).2
    have hrl := rwP_lt d r p
    have eps : wh p = pl p ↔ rwP d r p = posN (d_H d) (d_b1 d) p := by
      rw [hwh p hp, (hkd p hp).2]
      constructor
      · intro y
        have := congrArg (fun x => x + 1) y
        simp only [Int32.sub_add_cancel] at this
        exact (nI_eq (by omega) (by omega)).mp this
      · intro y; rw [y]
    have hg0 : 0 < (d_H d + 1) ^ (d_N d - p) := Nat.pow_pos (by omega)
    have hgl : (d_H d + 1) ^ (d_N d - p) ≤ rwN d := Nat.pow_le_pow_right (by omega) (by omega)
    have edv : (d_H d + 1) ^ (d_N d - p) / (d_H d + 1) = strd d p := by
      rw [show d_N d - p = (d_N d - 1 - p) + 1 by omega, Nat.pow_succ, Nat.mul_div_cancel _ (by omega)]
    have est : strd d p = (d_H d + 1) ^ (d_N d - (p + 1)) := by rw [strd, show d_N d - 1 - p = d_N d - (p + 1) by omega]
    have hb := rwP_le d r p
    have allp : (∀ i, i < p + 1 → rstB d r i = true) ↔ (∀ i, i < p → rstB d r i = true) ∧ rstB d r p = true := by
      constructor
      · intro y; exact ⟨fun i hi => y i (by omega), y p (by omega)⟩
      · rintro ⟨y1, y2⟩ i hi
        by_cases ei : i = p
        · subst ei; exact y2
        · exact y1 i (by omega)
    have J277 : ∀ (x : Int32) (u z : Value), x = bI (∀ i, i < p + 1 → rstB d r i = true) → Ex Γ mX10_restOf (gx_Z Γ mX10_restOf Q) 0 0 277 [.ref 57, .int w, .int (nI (rwN d)), .int n0, .int fr0, .int (nI r), .int x, .int (nI (strd d p)), .int (nI p), u, z] [] h sz := by
      intro x u z hx
      rw [hx, est]
      refine x_inc1 dX10_restOf_277 rfl (Nat.le_of_ble_eq_true rfl) rfl ?_
      refine x_goto dX10_restOf_280 ?_
      exact ih u z
    have J154 : Ex Γ mX10_restOf (gx_Z Γ mX10_restOf Q) 0 0 154 [.ref 57, .int w, .int (nI (rwN d)), .int n0, .int fr0, .int (nI r), .int (bI (∀ i, i < p → rstB d r i = true)), .int (nI (strd d p)), .int (nI p), u, z] [] h sz := by
      have hlr := hlk r hr p hp
      have A217 : kinN (d_b1 d) p ≠ 2 → ∀ s, s ≤ d_H d + 1 → Ex Γ mX10_restOf (gx_Z Γ mX10_restOf Q) 0 0 217 [.ref 57, .int w, .int (nI (rwN d)), .int n0, .int fr0, .int (nI r), .int (bI (noB d r p s)), .int (nI (strd d p)), .int (nI p), .int (nI (r - strd d p * rwP d r p)), .int (nI s)] [] h sz := by
        intro hkn
        refine loopUp (d_H d + 1) ?_ (fun s hs ih2 => ?_)
        · have er : noB d r p (d_H d + 1) ↔ ∀ i, i < p + 1 → rstB d r i = true := by
            rw [allp, rstB, if_neg hkn]
            exact ⟨fun y => ⟨y.1, decide_eq_true y.2⟩, fun y => ⟨y.1, of_decide_eq_true y.2⟩⟩
          refine x_iload dX10_restOf_217 rfl ?_
          refine x_aload dX10_restOf_219 rfl ?_
          refine x_get fX10_96 dX10_restOf_220 (by first | assumption | rfl | exact up_same | exact (up_ne (by omega)).trans (by assumption) | exact (up_ne (by assumption)).trans (by assumption)) ?_
          refine x_icmp_gt dX10_restOf_223 (fun b223 => ?_) (fun b223 => ?_)
          · exact J277 _ _ _ (bI_congr er)
          · exact absurd ((nI_ltI (by omega) (by omega)).mpr (by omega)) b223
        · have hrs := rwS_lt (r := r) hr hp hs
          have eix : r - strd d p * rwP d r p + strd d p * s = rwS d r p s := by rw [rwS, Nat.mul_comm (strd d p), Nat.mul_comm (strd d p)]
          have hls := hlk _ hrs p hp
          have ens : noB d r p (s + 1) ↔ noB d r p s ∧ ¬ rwL d p r < rwL d p (rwS d r p s) := by
            constructor
            · rintro ⟨y1, y2⟩; exact ⟨⟨y1, fun i hi => y2 i (by omega)⟩, y2 s (by omega)⟩
            · rintro ⟨⟨y1, y2⟩, y3⟩
              refine ⟨y1, fun i hi => ?_⟩
              by_cases ei : i = s
              · subst ei; exact y3
              · exact y2 i (by omega)
          have J269 : ∀ x : Int32, x = bI (noB d r p (s + 1)) → Ex Γ mX10_restOf (gx_Z Γ mX10_restOf Q) 0 0 269 [.ref 57, .int w, .int (nI (rwN d)), .int n0, .int fr0, .int (nI r), .int (bI (noB d r p s)), .int (nI (strd d p)), .int (nI p), .int (nI (r - strd d p * rwP d r p)), .int (nI s)] [.int x] h sz := by
            intro x hx
            rw [hx]
            refine x_istore dX10_restOf_269 (Nat.le_of_ble_eq_true rfl) rfl ?_
            refine x_inc1 dX10_restOf_271 rfl (Nat.le_of_ble_eq_true rfl) rfl ?_
            refine x_goto dX10_restOf_274 ?_
            exact ih2
          refine x_iload dX10_restOf_217 rfl ?_
          refine x_aload dX10_restOf_219 rfl ?_
          refine x_get fX10_96 dX10_restOf_220 (by first | assumption | rfl | exact up_same | exact (up_ne (by omega)).trans (by assumption) | exact (up_ne (by assumption)).trans (by assumption)) ?_
          refine x_icmp_gt dX10_restOf_223 (fun b223 => ?_) (fun b223 => ?_)
          · exact absurd b223 (Int32.not_lt.mpr ((nI_leI (by omega) (by omega)).mpr (by omega)))
          · refine x_iload dX10_restOf_226 rfl ?_
            refine x_if_eq dX10_restOf_228 (fun b228 => ?_) (fun b228 => ?_)
            · refine x_k dX10_restOf_268 ?_
              refine J269 _ ?_
              first
                | (have hz : ¬ noB d r p s := i01.mp b228
                   exact (if_neg (fun y => hz (ens.mp y).1)).symm)
                | (have hz : noB d r p s := Classical.not_not.mp (fun y => b228 (i01.mpr y))
                   first
                     | exact (if_pos (ens.mpr ⟨hz, b261⟩)).symm
                     | exact (if_neg (fun y => (ens.mp y).2 b261)).symm)
            · refine x_aload dX10_restOf_231 rfl ?_
              refine x_get fX10_58 dX10_restOf_232 (by first | assumption | rfl | exact up_same | exact (up_ne (by omega)).trans (by assumption) | exact (up_ne (by assumption)).trans (by assumption)) ?_
              refine x_k dX10_restOf_235 ?_
              refine x_iload dX10_restOf_236 rfl ?_
              refine x_iload dX10_restOf_238 rfl ?_
              refine x_iload dX10_restOf_240 rfl ?_
              refine x_imul dX10_restOf_242 ?_
              rw [pk_mul]
              refine x_iadd dX10_restOf_243 ?_
              rw [nI_add, eix]
              refine x_imul dX10_restOf_244 ?_
              refine x_iload dX10_restOf_245 rfl ?_
              refine x_iadd dX10_restOf_247 ?_
              rw [ix4]
              refine x_ialdn dX10_restOf_248 (by first | assumption | rfl | exact up_same | exact (up_ne (by omega)).trans (by assumption) | exact (up_ne (by assumption)).trans (by assumption)) ⟨by first | omega | decide, by decide⟩ ?_
              rw [hls]
              refine x_aload dX10_restOf_249 rfl ?_
              refine x_get fX10_58 dX10_restOf_250 (by first | assumption | rfl | exact up_same | exact (up_ne (by omega)).trans (by assumption) | exact (up_ne (by assumption)).trans (by assumption)) ?_
              refine x_k dX10_restOf_253 ?_
              refine x_iload dX10_restOf_254 rfl ?_
              refine x_imul dX10_restOf_256 ?_
              refine x_iload dX10_restOf_257 rfl ?_
              refine x_iadd dX10_restOf_259 ?_
              rw [ix4]
              refine x_ialdn dX10_restOf_260 (by first | assumption | rfl | exact up_same | exact (up_ne (by omega)).trans (by assumption) | exact (up_ne (by assumption)).trans (by assumption)) ⟨by first | omega | decide, by decide⟩ ?_
              rw [hlr]
              refine x_icmp_gt dX10_restOf_261 (fun b261 => ?_) (fun b261 => ?_)
              · refine x_k dX10_restOf_268 ?_
                refine J269 _ ?_
                first
                  | (have hz : ¬ noB d r p s := i01.mp b228
                     exact (if_neg (fun y => hz (ens.mp y).1)).symm)
                  | (have hz : noB d r p s := Classical.not_not.mp (fun y => b228 (i01.mpr y))
                     first
                       | exact (if_pos (ens.mpr ⟨hz, b261⟩)).symm
                       | exact (if_neg (fun y => (ens.mp y).2 b261)).symm)
              · refine x_k dX10_restOf_264 ?_
                refine x_goto dX10_restOf_265 ?_
                refine J269 _ ?_
                first
                  | (have hz : ¬ noB d r p s := i01.mp b228
                     exact (if_neg (fun y => hz (ens.mp y).1)).symm)
                  | (have hz : noB d r p s := Classical.not_not.mp (fun y => b228 (i01.mpr y))
                     first
                       | exact (if_pos (ens.mpr ⟨hz, b261⟩)).symm
                       | exact (if_neg (fun y => (ens.mp y).2 b261)).symm)
      refine x_aload dX10_restOf_154 rfl ?_
      refine x_get fX10_22 dX10_restOf_155 (by first | assumption | rfl | exact up_same | exact (up_ne (by omega)).trans (by assumption) | exact (up_ne (by assumption)).trans (by assumption)) ?_
      refine x_iload dX10_restOf_158 rfl ?_
      refine x_ialdn dX10_restOf_160 (by first | assumption | rfl | exact up_same | exact (up_ne (by omega)).trans (by assumption) | exact (up_ne (by assumption)).trans (by assumption)) ⟨by first | omega | decide, by decide⟩ ?_
      refine x_k dX10_restOf_161 ?_
      refine x_icmp_ne dX10_restOf_162 (fun b162 => ?_) (fun b162 => ?_)
      · refine x_iload dX10_restOf_197 rfl ?_
        refine x_iload dX10_restOf_199 rfl ?_
        refine x_aload dX10_restOf_201 rfl ?_
        refine x_get fX10_37 dX10_restOf_202 (by first | assumption | rfl | exact up_same | exact (up_ne (by omega)).trans (by assumption) | exact (up_ne (by assumption)).trans (by assumption)) ?_
        refine x_iload dX10_restOf_205 rfl ?_
        refine x_ialdn dX10_restOf_207 (by first | assumption | rfl | exact up_same | exact (up_ne (by omega)).trans (by assumption) | exact (up_ne (by assumption)).trans (by assumption)) ⟨by first | omega | decide, by decide⟩ ?_
        rw [hwh p hp]
        refine x_k dX10_restOf_208 ?_
        refine x_iadd dX10_restOf_209 ?_
        rw [Int32.sub_add_cancel]
        refine x_imul dX10_restOf_210 ?_
        rw [pk_mul]
        refine x_isub dX10_restOf_211 ?_
        rw [nI_sub (by rw [Nat.mul_comm]; exact hb)]
        refine x_istore dX10_restOf_212 (Nat.le_of_ble_eq_true rfl) rfl ?_
        refine x_k dX10_restOf_214 ?_
        refine x_istore dX10_restOf_215 (Nat.le_of_ble_eq_true rfl) rfl ?_
        refine x_eq ?_ rfl rfl (A217 (fun y => b162 (ek2.mpr y)) 0 (Nat.zero_le _))
        have e0 : bI (noB d r p 0) = bI (∀ i, i < p → rstB d r i = true) := bI_congr ⟨fun y => y.1, fun y => ⟨y, fun i hi => absurd hi (by omega)⟩⟩
        rw [e0]; rfl
      · refine x_iload dX10_restOf_165 rfl ?_
        refine x_if_eq dX10_restOf_167 (fun b167 => ?_) (fun b167 => ?_)
        · refine x_k dX10_restOf_191 ?_
          first
            | (have hz : kinN (d_b1 d) p = 2 := ek2.mp (Classical.not_not.mp b162)
               have er : rstB d r p = true ↔ rwP d r p = posN (d_H d) (d_b1 d) p := by rw [rstB, if_pos hz]; exact decide_eq_true_iff
               first
                 | (have hy : ¬ (∀ i, i < p → rstB d r i = true) := i01.mp b167
                    refine x_istore dX10_restOf_192 (Nat.le_of_ble_eq_true rfl) rfl ?_
                    refine x_goto dX10_restOf_194 ?_
                    exact J277 0 _ _ (if_neg (fun x => hy (allp.mp x).1)).symm)
                 | (have hy : ∀ i, i < p → rstB d r i = true := Classical.not_not.mp (fun y => b167 (i01.mpr y))
                    refine x_istore dX10_restOf_192 (Nat.le_of_ble_eq_true rfl) rfl ?_
                    refine x_goto dX10_restOf_194 ?_
                    first
                      | exact J277 1 _ _ (if_pos (allp.mpr ⟨hy, er.mpr (eps.mp (Classical.not_not.mp b184))⟩)).symm
                      | exact J277 0 _ _ (if_neg (fun x => b184 (eps.mpr (er.mp (allp.mp x).2)))).symm))
        · refine x_aload dX10_restOf_170 rfl ?_
          refine x_get fX10_37 dX10_restOf_171 (by first | assumption | rfl | exact up_same | exact (up_ne (by omega)).trans (by assumption) | exact (up_ne (by assumption)).trans (by assumption)) ?_
          refine x_iload dX10_restOf_174 rfl ?_
          refine x_ialdn dX10_restOf_176 (by first | assumption | rfl | exact up_same | exact (up_ne (by omega)).trans (by assumption) | exact (up_ne (by assumption)).trans (by assumption)) ⟨by first | omega | decide, by decide⟩ ?_
          refine x_aload dX10_restOf_177 rfl ?_
          refine x_get fX10_25 dX10_restOf_178 (by first | assumption | rfl | exact up_same | exact (up_ne (by omega)).trans (by assumption) | exact (up_ne (by assumption)).trans (by assumption)) ?_
          refine x_iload dX10_restOf_181 rfl ?_
          refine x_ialdn dX10_restOf_183 (by first | assumption | rfl | exact up_same | exact (up_ne (by omega)).trans (by assumption) | exact (up_ne (by assumption)).trans (by assumption)) ⟨by first | omega | decide, by decide⟩ ?_
          refine x_icmp_ne dX10_restOf_184 (fun b184 => ?_) (fun b184 => ?_)
          · refine x_k dX10_restOf_191 ?_
            first
              | (have hz : kinN (d_b1 d) p = 2 := ek2.mp (Classical.not_not.mp b162)
                 have er : rstB d r p = true ↔ rwP d r p = posN (d_H d) (d_b1 d) p := by rw [rstB, if_pos hz]; exact decide_eq_true_iff
                 first
                   | (have hy : ¬ (∀ i, i < p → rstB d r i = true) := i01.mp b167
                      refine x_istore dX10_restOf_192 (Nat.le_of_ble_eq_true rfl) rfl ?_
                      refine x_goto dX10_restOf_194 ?_
                      exact J277 0 _ _ (if_neg (fun x => hy (allp.mp x).1)).symm)
                   | (have hy : ∀ i, i < p → rstB d r i = true := Classical.not_not.mp (fun y => b167 (i01.mpr y))
                      refine x_istore dX10_restOf_192 (Nat.le_of_ble_eq_true rfl) rfl ?_
                      refine x_goto dX10_restOf_194 ?_
                      first
                        | exact J277 1 _ _ (if_pos (allp.mpr ⟨hy, er.mpr (eps.mp (Classical.not_not.mp b184))⟩)).symm
                        | exact J277 0 _ _ (if_neg (fun x => b184 (eps.mpr (er.mp (allp.mp x).2)))).symm))
          · refine x_k dX10_restOf_187 ?_
            refine x_goto dX10_restOf_188 ?_
            first
              | (have hz : kinN (d_b1 d) p = 2 := ek2.mp (Classical.not_not.mp b162)
                 have er : rstB d r p = true ↔ rwP d r p = posN (d_H d) (d_b1 d) p := by rw [rstB, if_pos hz]; exact decide_eq_true_iff
                 first
                   | (have hy : ¬ (∀ i, i < p → rstB d r i = true) := i01.mp b167
                      refine x_istore dX10_restOf_192 (Nat.le_of_ble_eq_true rfl) rfl ?_
                      refine x_goto dX10_restOf_194 ?_
                      exact J277 0 _ _ (if_neg (fun x => hy (allp.mp x).1)).symm)
                   | (have hy : ∀ i, i < p → rstB d r i = true := Classical.not_not.mp (fun y => b167 (i01.mpr y))
                      refine x_istore dX10_restOf_192 (Nat.le_of_ble_eq_true rfl) rfl ?_
                      refine x_goto dX10_restOf_194 ?_
                      first
                        | exact J277 1 _ _ (if_pos (allp.mpr ⟨hy, er.mpr (eps.mp (Classical.not_not.mp b184))⟩)).symm
                        | exact J277 0 _ _ (if_neg (fun x => b184 (eps.mpr (er.mp (allp.mp x).2)))).symm))
    refine x_iload dX10_restOf_134 rfl ?_
    refine x_aload dX10_restOf_136 rfl ?_
    refine x_get fX10_104 dX10_restOf_137 (by first | assumption | rfl | exact up_same | exact (up_ne (by omega)).trans (by assumption) | exact (up_ne (by assumption)).trans (by assumption)) ?_
    refine x_icmp_ge dX10_restOf_140 (fun b140 => ?_) (fun b140 => ?_)
    · exact absurd b140 (nI_ge hp (by omega))
    · refine x_iload dX10_restOf_143 rfl ?_
      refine x_aload dX10_restOf_145 rfl ?_
      refine x_get fX10_96 dX10_restOf_146 (by first | assumption | rfl | exact up_same | exact (up_ne (by omega)).trans (by assumption) | exact (up_ne (by assumption)).trans (by assumption)) ?_
      refine x_k dX10_restOf_149 ?_
      refine x_iadd dX10_restOf_150 ?_
      rw [nI_1]
      refine x_idivn dX10_restOf_151 (by omega) ⟨by omega, by omega⟩ ?_
      rw [edv]
      refine x_istore dX10_restOf_152 (Nat.le_of_ble_eq_true rfl) rfl ?_
      exact J154
theorem frs_m1 (b : Nat → Bool) {r : Nat} (hr : r < 2 ^ 31) : frsB b r = -1 ↔ cntB b r = 0 := by
  rw [cnt_fst, frsB]
  have hle := fst1_le b r
  by_cases z : fst1 b r < r
  · rw [if_pos z]; exact ⟨fun y => absurd y (nI_nm1 (by omega)), fun y => absurd y (by omega)⟩
  · rw [if_neg z]; exact ⟨fun _ => by omega, fun _ => rfl⟩
theorem m_restOf {w : Int32} (hM : MW h d) (hR : MR h d) (hd : okD d) (hL : okL d) (hw : cRest d w) : Rn Γ mX10_restOf [.ref 57, .int w] h sz (qM h sz d (if d_N d ≤ 4 then rstA d w else -100004)) := by
  refine x_enter 9 (by decide) rfl ?_
  obtain ⟨ll, ow, pr, kd, pl, r57, -⟩ := id hR
  have hP8 : d_N d ≤ 8 := (pN_ok hd.1.2.1).1
  have e4 : nI (d_N d) ≤ 4 ↔ d_N d ≤ 4 := nI_leI (b := 4) (by omega) (by omega)
  have J11 : d_N d ≤ 4 → Ex Γ mX10_restOf (gx_Z Γ mX10_restOf (qM h sz d (rstA d w))) 0 0 11 [.ref 57, .int w, .retAddr 0, .retAddr 0, .retAddr 0, .retAddr 0, .retAddr 0, .retAddr 0, .retAddr 0, .retAddr 0, .retAddr 0] [] h sz := by
    intro hN
    have hle := rwN_le hd hN
    have hcl : rstN d ≤ rwN d := cnt_le _ _
    have ep : nI (rstN d) ≤ 0 ↔ rstN d ≤ 0 := nI_leI (b := 0) (by omega) (by omega)
    have A322 : ∀ (h' : Hp) (v1 v2 v3 v4 v5 v6 : Value), MW h' d → MR h' d → frM h h' → Ex Γ mX10_restOf (gx_Z Γ mX10_restOf (qM h sz d (rstA d w))) 0 0 322 [.ref 57, .int w, .int (nI (rwN d)), .int (nI (rstN d)), .int (frsB (rstR d) (rwN d)), v1, v2, v3, v4, v5, v6] [] h' sz := by
      intro h' v1 v2 v3 v4 v5 v6 hM' hR' hF'
      obtain ⟨ll, ow, pr, kd, pl, u57, -⟩ := id hR'
      have em := frs_m1 (rstR d) (r := rwN d) (by omega)
      refine x_iload dX10_restOf_322 rfl ?_
      refine x_k dX10_restOf_323 ?_
      refine x_icmp_ne dX10_restOf_325 (fun b325 => ?_) (fun b325 => ?_)
      · refine x_iload dX10_restOf_330 rfl ?_
        refine x_k dX10_restOf_331 ?_
        refine x_icmp_ne dX10_restOf_332 (fun b332 => ?_) (fun b332 => ?_)
        · refine x_iload dX10_restOf_345 rfl ?_
          refine x_k dX10_restOf_347 ?_
          refine x_icmp_ne dX10_restOf_348 (fun b348 => ?_) (fun b348 => ?_)
          · have hz : 0 < rstN d := Nat.pos_of_ne_zero (fun y => b348 (em.mpr y))
            have hw0 : 0 ≤ w := by
              have h1 := hw.1
              have n2 : (-2 : Int32).toInt = -2 := by decide
              have n1 : (-1 : Int32).toInt = -1 := by decide
              have b67' : ¬ w.toInt = -2 := fun z => b325 (Int32.toInt_inj.mp (by rw [z, n2]))
              have b80' : ¬ w.toInt = -1 := fun z => b332 (Int32.toInt_inj.mp (by rw [z, n1]))
              rw [Int32.le_iff_toInt_le, n2] at h1
              rw [Int32.le_iff_toInt_le, n0t]
              omega
            obtain ⟨q, hq, rfl⟩ := below hw0 hw.2 (by omega)
            have hfl : fst1 (rstR d) (rwN d) < rwN d := by
              have h1 := fst1_le (rstR d) (rwN d)
              have h2 := cnt_fst (rstR d) (rwN d)
              have h3 : ¬ fst1 (rstR d) (rwN d) = rwN d := fun z => by have := h2.mpr z; rw [rstN] at hz; omega
              omega
            have efr : frsB (rstR d) (rwN d) = nI (fst1 (rstR d) (rwN d)) := if_pos hfl
            rw [efr]
            refine x_aload dX10_restOf_354 rfl ?_
            refine x_iload dX10_restOf_355 rfl ?_
            refine x_V1q lX10_189 (Rm.of rfl) (cc1 := 0) (cn1 := 0) rfl rfl (Nat.le_of_ble_eq_true rfl) dX10_restOf_357 (by first | assumption | rfl | exact up_same | exact (up_ne (by omega)).trans (by assumption) | exact (up_ne (by assumption)).trans (by assumption)) (m_places hM' hR' hd hN hfl) ?_
            rintro _ h2 _ ⟨rfl, rfl, hM2, hR2, ⟨wh, p67, hwh⟩, hf2⟩
            obtain ⟨ll2, _, _, _, _, x57, -⟩ := id hR2
            refine x_aload dX10_restOf_360 rfl ?_
            refine x_get fX10_37 dX10_restOf_361 (by first | assumption | rfl | exact up_same | exact (up_ne (by omega)).trans (by assumption) | exact (up_ne (by assumption)).trans (by assumption)) ?_
            refine x_iload dX10_restOf_364 rfl ?_
            refine x_ialdn dX10_restOf_365 (by first | assumption | rfl | exact up_same | exact (up_ne (by omega)).trans (by assumption) | exact (up_ne (by assumption)).trans (by assumption)) ⟨by first | omega | decide, by decide⟩ ?_
            refine x_iret (ty := .int) dX10_restOf_366 rfl rfl (Nat.zero_le _) (Nat.zero_le _) ?_
            exact ⟨by rw [rstA, if_neg b325, if_neg b332, if_pos hz, sN, nI_clamp (by omega), hwh q hq], rfl, hM2, hF'.trans (fun k hk => hf2 k (by omega))⟩
          · refine x_ldc kX10_195 dX10_restOf_351 ?_
            refine x_iret (ty := .int) dX10_restOf_353 rfl rfl (Nat.zero_le _) (Nat.zero_le _) ?_
            have hz : ¬ 0 < rstN d := fun y => by have := em.mp (Classical.not_not.mp b348); rw [rstN] at y; omega
            exact ⟨by rw [rstA, if_neg b325, if_neg b332, if_neg hz], rfl, hM', hF'⟩
        · refine x_iload dX10_restOf_335 rfl ?_
          refine x_if_le dX10_restOf_336 (fun b336 => ?_) (fun b336 => ?_)
          · refine x_k dX10_restOf_343 ?_
            refine x_iret (ty := .int) dX10_restOf_344 rfl rfl (Nat.zero_le _) (Nat.zero_le _) ?_
            refine ⟨?_, rfl, hM', hF'⟩
            rw [rstA, if_neg b325, if_pos (Classical.not_not.mp b332)]
            first
              | (have hz : ¬ 0 < rstN d := Nat.not_lt.mpr (ep.mp b336)
                 rw [if_neg hz]; done)
              | (have hz : 0 < rstN d := Nat.not_le.mp (fun z => b336 (ep.mpr z))
                 rw [if_pos hz]; done)
          · refine x_k dX10_restOf_339 ?_
            refine x_goto dX10_restOf_340 ?_
            refine x_iret (ty := .int) dX10_restOf_344 rfl rfl (Nat.zero_le _) (Nat.zero_le _) ?_
            refine ⟨?_, rfl, hM', hF'⟩
            rw [rstA, if_neg b325, if_pos (Classical.not_not.mp b332)]
            first
              | (have hz : ¬ 0 < rstN d := Nat.not_lt.mpr (ep.mp b336)
                 rw [if_neg hz]; done)
              | (have hz : 0 < rstN d := Nat.not_le.mp (fun z => b336 (ep.mpr z))
                 rw [if_pos hz]; done)
      · refine x_iload dX10_restOf_328 rfl ?_
        refine x_iret (ty := .int) dX10_restOf_329 rfl rfl (Nat.zero_le _) (Nat.zero_le _) ?_
        exact ⟨by rw [rstA, if_pos (Classical.not_not.mp b325)], rfl, hM', hF'⟩
    have A113 : ∀ (lk : Nat → Int32), lkOK d lk (rwN d) → ∀ r, r ≤ rwN d → ∀ (h' : Hp) (v2 v3 v4 v5 v6 : Value), MW h' d → MR h' d → frM h h' → h' 74 = ia 26244 lk → Ex Γ mX10_restOf (gx_Z Γ mX10_restOf (qM h sz d (rstA d w))) 0 0 113 [.ref 57, .int w, .int (nI (rwN d)), .int (nI (cntB (rstR d) r)), .int (frsB (rstR d) r), .int (nI r), v2, v3, v4, v5, v6] [] h' sz := by
      intro lk hlk
      refine loopUp (rwN d) (fun h' v2 v3 v4 v5 v6 hM' hR' hF' h74 => ?_) (fun r hr ih h' v2 v3 v4 v5 v6 hM' hR' hF' h74 => ?_)
      · refine x_iload dX10_restOf_113 rfl ?_
        refine x_iload dX10_restOf_115 rfl ?_
        refine x_icmp_ge dX10_restOf_116 (fun b116 => ?_) (fun b116 => ?_)
        · exact A322 h' _ _ _ _ _ _ hM' hR' hF'
        · exact absurd (Int32.le_refl _) b116
      · obtain ⟨ll, ow, pr, kd, pl, u57, -⟩ := id hR'
        have em := frs_m1 (rstR d) (r := r) (by omega)
        rw [cnt_s, frs_s] at ih
        have J283 : ∀ h2, MW h2 d → MR h2 d → frM h h2 → h2 74 = ia 26244 lk → ∀ v u z : Value, Ex Γ mX10_restOf (gx_Z Γ mX10_restOf (qM h sz d (rstA d w))) 0 0 283 [.ref 57, .int w, .int (nI (rwN d)), .int (nI (cntB (rstR d) r)), .int (frsB (rstR d) r), .int (nI r), .int (bI (rstR d r = true)), v, .int (nI (d_N d)), u, z] [] h2 sz := by
          intro h2 hM2 hR2 hF2 g74 v u z
          by_cases hz : rstR d r = true
          · have ex : bI (rstR d r = true) = 1 := if_pos hz
            rw [ex]
            by_cases hy : cntB (rstR d) r = 0
            · rw [if_pos ⟨hz, hy⟩, hz] at ih
              refine x_iload dX10_restOf_283 rfl ?_
              refine x_iload dX10_restOf_284 rfl ?_
              refine x_if_eq dX10_restOf_286 (fun b286 => ?_) (fun b286 => ?_)
              · exact absurd b286 (by decide)
              · refine x_k dX10_restOf_289 ?_
                refine x_goto dX10_restOf_290 ?_
                refine x_iadd dX10_restOf_294 ?_
                rw [nI_1]
                refine x_istore dX10_restOf_295 (Nat.le_of_ble_eq_true rfl) rfl ?_
                refine x_iload dX10_restOf_296 rfl ?_
                refine x_if_eq dX10_restOf_298 (fun b298 => ?_) (fun b298 => ?_)
                · exact absurd b298 (by decide)
                · refine x_iload dX10_restOf_301 rfl ?_
                  refine x_k dX10_restOf_303 ?_
                  refine x_icmp_ne dX10_restOf_304 (fun b304 => ?_) (fun b304 => ?_)
                  · exact absurd (em.mpr hy) b304
                  · refine x_iload dX10_restOf_307 rfl ?_
                    refine x_goto dX10_restOf_309 ?_
                    refine x_istore dX10_restOf_314 (Nat.le_of_ble_eq_true rfl) rfl ?_
                    refine x_inc1 dX10_restOf_316 rfl (Nat.le_of_ble_eq_true rfl) rfl ?_
                    refine x_goto dX10_restOf_319 ?_
                    exact ih h2 _ _ _ _ _ hM2 hR2 hF2 g74
            · rw [if_neg (fun x => hy x.2), hz] at ih
              refine x_iload dX10_restOf_283 rfl ?_
              refine x_iload dX10_restOf_284 rfl ?_
              refine x_if_eq dX10_restOf_286 (fun b286 => ?_) (fun b286 => ?_)
              · exact absurd b286 (by decide)
              · refine x_k dX10_restOf_289 ?_
                refine x_goto dX10_restOf_290 ?_
                refine x_iadd dX10_restOf_294 ?_
                rw [nI_1]
                refine x_istore dX10_restOf_295 (Nat.le_of_ble_eq_true rfl) rfl ?_
                refine x_iload dX10_restOf_296 rfl ?_
                refine x_if_eq dX10_restOf_298 (fun b298 => ?_) (fun b298 => ?_)
                · exact absurd b298 (by decide)
                · refine x_iload dX10_restOf_301 rfl ?_
                  refine x_k dX10_restOf_303 ?_
                  refine x_icmp_ne dX10_restOf_304 (fun b304 => ?_) (fun b304 => ?_)
                  · refine x_iload dX10_restOf_312 rfl ?_
                    refine x_istore dX10_restOf_314 (Nat.le_of_ble_eq_true rfl) rfl ?_
                    refine x_inc1 dX10_restOf_316 rfl (Nat.le_of_ble_eq_true rfl) rfl ?_
                    refine x_goto dX10_restOf_319 ?_
                    exact ih h2 _ _ _ _ _ hM2 hR2 hF2 g74
                  · exact (b304 (fun x => hy (em.mp x))).elim
          · have ex : bI (rstR d r = true) = 0 := if_neg hz
            rw [ex]
            rw [if_neg (fun x => hz x.1), Bool.eq_false_iff.mpr hz] at ih
            refine x_iload dX10_restOf_283 rfl ?_
            refine x_iload dX10_restOf_284 rfl ?_
            refine x_if_eq dX10_restOf_286 (fun b286 => ?_) (fun b286 => ?_)
            · refine x_k dX10_restOf_293 ?_
              refine x_iadd dX10_restOf_294 ?_
              rw [Int32.add_zero]
              refine x_istore dX10_restOf_295 (Nat.le_of_ble_eq_true rfl) rfl ?_
              refine x_iload dX10_restOf_296 rfl ?_
              refine x_if_eq dX10_restOf_298 (fun b298 => ?_) (fun b298 => ?_)
              · refine x_iload dX10_restOf_312 rfl ?_
                refine x_istore dX10_restOf_314 (Nat.le_of_ble_eq_true rfl) rfl ?_
                refine x_inc1 dX10_restOf_316 rfl (Nat.le_of_ble_eq_true rfl) rfl ?_
                refine x_goto dX10_restOf_319 ?_
                exact ih h2 _ _ _ _ _ hM2 hR2 hF2 g74
              · exact absurd rfl b298
            · exact absurd rfl b286
        refine x_iload dX10_restOf_113 rfl ?_
        refine x_iload dX10_restOf_115 rfl ?_
        refine x_icmp_ge dX10_restOf_116 (fun b116 => ?_) (fun b116 => ?_)
        · exact absurd b116 (nI_ge hr (by omega))
        · refine x_aload dX10_restOf_119 rfl ?_
          refine x_iload dX10_restOf_120 rfl ?_
          refine x_V1q lX10_189 (Rm.of rfl) (cc1 := 0) (cn1 := 0) rfl rfl (Nat.le_of_ble_eq_true rfl) dX10_restOf_122 (by first | assumption | rfl | exact up_same | exact (up_ne (by omega)).trans (by assumption) | exact (up_ne (by assumption)).trans (by assumption)) (m_places hM' hR' hd hN hr) ?_
          rintro _ h2 _ ⟨rfl, rfl, hM2, hR2, ⟨wh, p67, hwh⟩, hf2⟩
          obtain ⟨ll2, ow2, pr2, kd2, pl2, x57, x60, x61, x62, x63, ro, rp⟩ := id hR2
          have g74 := (hf2 74 (by decide)).trans h74
          have hF2 : frM h h2 := hF'.trans (fun k hk => hf2 k (by omega))
          refine x_k dX10_restOf_125 ?_
          refine x_istore dX10_restOf_126 (Nat.le_of_ble_eq_true rfl) rfl ?_
          refine x_iload dX10_restOf_128 rfl ?_
          refine x_istore dX10_restOf_129 (Nat.le_of_ble_eq_true rfl) rfl ?_
          refine x_k dX10_restOf_131 ?_
          refine x_istore dX10_restOf_132 (Nat.le_of_ble_eq_true rfl) rfl ?_
          refine x_eq ?_ rfl rfl (m_restP (hs := 0) hd hN hr x57 x62 x63 p67 g74 rp hwh hlk (J283 h2 hM2 hR2 hF2 g74) 0 (Nat.zero_le _) v5 v6)
          have e0 : ∀ n, n = 0 → bI (∀ i, i < n → rstB d r i = true) = 1 := fun n hn => if_pos (fun i hi => absurd hi (by omega))
          rw [e0 0 rfl]; rfl
    obtain ⟨lk, h74⟩ := hM.w74
    refine x_aload dX10_restOf_11 rfl ?_
    refine x_V0i lX10_186 (Rm.of rfl) (cc1 := 0) (cn1 := 0) rfl rfl (Nat.le_of_ble_eq_true rfl) dX10_restOf_12 (by first | assumption | rfl | exact up_same | exact (up_ne (by omega)).trans (by assumption) | exact (up_ne (by assumption)).trans (by assumption)) (m_rows hR hd hN) ?_
    refine x_istore dX10_restOf_15 (Nat.le_of_ble_eq_true rfl) rfl ?_
    refine x_k dX10_restOf_16 ?_
    refine x_istore dX10_restOf_17 (Nat.le_of_ble_eq_true rfl) rfl ?_
    refine m_restA (h := h) hd hL hN (fun h' lk hM' hR' hF' g74 hlk v => ?_) 0 (Nat.zero_le _) h lk _ hM hR (fun _ _ => rfl) h74 (fun r hr => absurd hr (by omega))
    refine x_k dX10_restOf_105 ?_
    refine x_istore dX10_restOf_106 (Nat.le_of_ble_eq_true rfl) rfl ?_
    refine x_k dX10_restOf_107 ?_
    refine x_istore dX10_restOf_108 (Nat.le_of_ble_eq_true rfl) rfl ?_
    refine x_k dX10_restOf_110 ?_
    refine x_istore dX10_restOf_111 (Nat.le_of_ble_eq_true rfl) rfl ?_
    exact A113 lk hlk 0 (Nat.zero_le _) h' _ _ _ _ _ hM' hR' hF' g74
  refine x_aload dX10_restOf_0 rfl ?_
  refine x_get fX10_104 dX10_restOf_1 (by first | assumption | rfl | exact up_same | exact (up_ne (by omega)).trans (by assumption) | exact (up_ne (by assumption)).trans (by assumption)) ?_
  refine x_k dX10_restOf_4 ?_
  refine x_icmp_le dX10_restOf_5 (fun b5 => ?_) (fun b5 => ?_)
  · rw [if_pos (e4.mp b5)]; exact J11 (e4.mp b5)
  · refine x_ldc kX10_185 dX10_restOf_8 ?_
    refine x_iret (ty := .int) dX10_restOf_10 rfl rfl (Nat.zero_le _) (Nat.zero_le _) ?_
    exact ⟨by rw [if_neg (fun z => b5 (e4.mpr z))], rfl, hM, fun _ _ => rfl⟩
theorem m_restNow {w : Int32} (hM : MW h d) (hd : okD d) (hL : okL d) (hw : cRest d w) : Rn Γ mX10_restNow [.ref 57, .int w] h sz (qM h sz d (if d_N d ≤ 4 then rstA d w else -100004)) := by
  refine x_enter 0 (by decide) rfl ?_
  obtain ⟨_, _, _, w57⟩ := hM.w57
  refine x_aload dX10_restNow_0 rfl ?_
  refine x_V0q lX10_118 (Rm.of rfl) (cc1 := 0) (cn1 := 0) rfl rfl (Nat.le_of_ble_eq_true rfl) dX10_restNow_1 (by first | assumption | rfl | exact up_same | exact (up_ne (by omega)).trans (by assumption) | exact (up_ne (by assumption)).trans (by assumption)) (m_reads hM hd) ?_
  rintro _ h1 _ ⟨rfl, rfl, hM1, hR1, hF1⟩
  obtain ⟨_, _, _, v57⟩ := hM1.w57
  refine x_aload dX10_restNow_4 rfl ?_
  refine x_iload dX10_restNow_5 rfl ?_
  refine x_V1q lX10_199 (Rm.of rfl) (cc1 := 0) (cn1 := 0) rfl rfl (Nat.le_of_ble_eq_true rfl) dX10_restNow_6 (by first | assumption | rfl | exact up_same | exact (up_ne (by omega)).trans (by assumption) | exact (up_ne (by assumption)).trans (by assumption)) (m_restOf hM1 hR1 hd hL hw) ?_
  rintro _ h2 _ ⟨rfl, rfl, hM2, hF2⟩
  refine x_iret (ty := .int) dX10_restNow_9 rfl rfl (Nat.zero_le _) (Nat.zero_le _) ?_
  exact ⟨rfl, rfl, hM2, hF1.trans hF2⟩
theorem m_rest (w : Int32) (hM : MW h d) (hd : okD d) (hL : okL d) : Rn Γ mX10_rest [.ref 57, .int w] h sz (qM h sz d (aRest d w)) := by
  refine x_enter 0 (by decide) rfl ?_
  obtain ⟨_, _, _, w57⟩ := hM.w57
  have hP8 : d_N d ≤ 8 := (pN_ok hd.1.2.1).1
  have n2 : (-2 : Int32).toInt = -2 := by decide
  have n1 : (-1 : Int32).toInt = -1 := by decide
  have nN : (nI (d_N d)).toInt = d_N d := nI_toInt (by omega)
  have J18 : ∀ h2, MW h2 d → frM h h2 → cRest d w → Ex Γ mX10_rest (gx_Z Γ mX10_rest (qM h sz d (aRest d w))) 0 0 18 [.ref 57, .int w] [] h2 sz := by
    intro h2 hM2 hF2 hc
    obtain ⟨_, _, _, v57⟩ := hM2.w57
    rw [aRest, if_pos hc]
    refine x_aload dX10_rest_18 rfl ?_
    refine x_iload dX10_rest_19 rfl ?_
    refine x_V1q lX10_196 (Rm.of rfl) (cc1 := 0) (cn1 := 0) rfl rfl (Nat.le_of_ble_eq_true rfl) dX10_rest_20 (by first | assumption | rfl | exact up_same | exact (up_ne (by omega)).trans (by assumption) | exact (up_ne (by assumption)).trans (by assumption)) (m_restNow hM2 hd hL hc) ?_
    rintro _ h3 _ ⟨rfl, rfl, hM3, hF3⟩
    refine x_goto dX10_rest_23 ?_
    refine x_iret (ty := .int) dX10_rest_28 rfl rfl (Nat.zero_le _) (Nat.zero_le _) ?_
    exact ⟨rfl, rfl, hM3, hF2.trans hF3⟩
  refine x_iload dX10_rest_0 rfl ?_
  refine x_k dX10_rest_1 ?_
  refine x_k dX10_rest_3 ?_
  refine x_S3i lX10_92 (Rm.of rfl) (cc1 := 0) (cn1 := 0) rfl rfl (Nat.le_of_ble_eq_true rfl) dX10_rest_4 (r_in w (-2) (-1)) ?_
  refine x_if_ne dX10_rest_7 (fun b7 => ?_) (fun b7 => ?_)
  · try simp only [i01, Classical.not_not] at b7
    first
      | (have hc : cRest d w := by simp only [cRest, Int32.lt_iff_toInt_lt, Int32.le_iff_toInt_le, n0t, n1, n2, nN] at *; omega
         exact J18 _ hM1 hF1 hc)
      | (have hc : cRest d w := by simp only [cRest, Int32.lt_iff_toInt_lt, Int32.le_iff_toInt_le, n0t, n1, n2, nN] at *; omega
         exact J18 _ hM (fun _ _ => rfl) hc)
  · try simp only [i01, Classical.not_not] at b7
    refine x_aload dX10_rest_10 rfl ?_
    refine x_iload dX10_rest_11 rfl ?_
    refine x_V1q lX10_128 (Rm.of rfl) (cc1 := 0) (cn1 := 0) rfl rfl (Nat.le_of_ble_eq_true rfl) dX10_rest_12 (by first | assumption | rfl | exact up_same | exact (up_ne (by omega)).trans (by assumption) | exact (up_ne (by assumption)).trans (by assumption)) (m_isPerson w hM hd) ?_
    rintro _ h1 _ ⟨rfl, rfl, hM1, hR1, hF1⟩
    obtain ⟨_, _, _, v57⟩ := hM1.w57
    refine x_if_eq dX10_rest_15 (fun b15 => ?_) (fun b15 => ?_)
    · try simp only [i01, Classical.not_not] at b15
      refine x_ldc kX10_178 dX10_rest_26 ?_
      refine x_iret (ty := .int) dX10_rest_28 rfl rfl (Nat.zero_le _) (Nat.zero_le _) ?_
      have hc : ¬ cRest d w := by simp only [cRest, Int32.lt_iff_toInt_lt, Int32.le_iff_toInt_le, n0t, n1, n2, nN] at *; omega
      exact ⟨by rw [aRest, if_neg hc], rfl, hM1, hF1⟩
    · try simp only [i01, Classical.not_not] at b15
      first
        | (have hc : cRest d w := by simp only [cRest, Int32.lt_iff_toInt_lt, Int32.le_iff_toInt_le, n0t, n1, n2, nN] at *; omega
           exact J18 _ hM1 hF1 hc)
        | (have hc : cRest d w := by simp only [cRest, Int32.lt_iff_toInt_lt, Int32.le_iff_toInt_le, n0t, n1, n2, nN] at *; omega
           exact J18 _ hM (fun _ _ => rfl) hc)
end MRest
