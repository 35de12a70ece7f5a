/-! value -/
theorem accF_congr {a : Int32} {f g : Nat → Int32} : ∀ {n : Nat}, (∀ i, i < n → f i = g i) → accF a f n = accF a g n
  | 0, _ => rfl
  | n + 1, e => by rw [accF, accF, accF_congr (fun i hi => e i (by omega)), e n (by omega)]
def vlf (d : DT) (j q : Nat) : Nat → Int32 := fun p => if p ≠ q ∧ posN (d_H d) (d_b1 d) p = j + 1 then d_w d (8 * q + p) else 0
def vlN (d : DT) (j q : Nat) : Int32 := accF (nI (priN (d_b0 d) j)) (vlf d j q) (d_N d)
abbrev cVal (d : DT) (t p : Int32) : Prop := (0 ≤ t ∧ t < nI (d_H d)) ∧ 0 ≤ p ∧ p < nI (d_N d)
def aValue (d : DT) (t p : Int32) : Int32 := if cVal d t p then vlN d t.toNatClampNeg p.toNatClampNeg else -100002
section Val
variable {Γ : GX} {h : Hp} {sz : Nat} {d : DT}
theorem x_valueTo {j q : Nat} (hA : XA h d) (hK : XK h d) (hd : okD d) (hj : j < d_H d) (hq : q < 8) : Re Γ mX9_valueTo [.ref 4, .int (nI j), .int (nI q)] h sz (some (.int (vlN d j q))) h sz := by
  obtain ⟨ow, pr, od, kd, sp, ins, a1, ⟨a10, a11, a12, a13, a14, a15, a16⟩, a3, ⟨a25, a26, a27⟩, a5, a6, f1, f2, f3, f4⟩ := id hA
  obtain ⟨ss, h4⟩ := hK.w4
  have hH8 : d_H d ≤ 8 := (hN_ok hd.1.1).1
  have hP8 : d_N d ≤ 8 := (pN_ok hd.1.2.1).1
  have e : accF (pr j) (fun p => if p ≠ q ∧ sp p = nI (j + 1) then d_w d (8 * q + p) else 0) (d_N d) = vlN d j q := by
    rw [(f1 j hj).2, vlN]
    refine accF_congr (fun p hp => ?_)
    have hpos := (posN_ok hH8 (d_b1 d) p).2
    have hz : sp p = nI (j + 1) ↔ posN (d_H d) (d_b1 d) p = j + 1 := by rw [(f3 p hp).2]; exact nI_eq (by omega) (by omega)
    simp only [vlf, hz]
  rw [← e]
  exact r_valueTo h4 a10 a12 a15 a25 a26 hP8 (by omega) hq
theorem c_value (t p : Int32) (hX : XW h sz d) (hd : okD d) : Rn Γ mX9_value [.ref 4, .int t, .int p] h sz (qW h sz d (aValue d t p)) := by
  refine x_enter 0 (by decide) rfl ?_
  obtain ⟨hA, hK, hR, hD⟩ := id hX
  obtain ⟨ow, pr, od, kd, sp, ins, a1, ⟨a10, -⟩, -⟩ := id hA
  obtain ⟨ss, h4⟩ := hK.w4
  have hH8 : d_H d ≤ 8 := (hN_ok hd.1.1).1
  have hP8 : d_N d ≤ 8 := (pN_ok hd.1.2.1).1
  have J19 : cVal d t p → Ex Γ mX9_value (gx_Z Γ mX9_value (qW h sz d (aValue d t p))) 0 0 19 [.ref 4, .int t, .int p] [] h sz := by
    intro hc
    obtain ⟨j, hj, rfl⟩ := below hc.1.1 hc.1.2 (by omega)
    obtain ⟨q, hq, rfl⟩ := below hc.2.1 hc.2.2 (by omega)
    rw [aValue, if_pos hc, nI_clamp (by omega), nI_clamp (by omega)]
    refine x_aload dX9_value_19 rfl ?_
    refine x_iload dX9_value_20 rfl ?_
    refine x_iload dX9_value_21 rfl ?_
    refine x_V2i lX9_245 (Rm.of rfl) (cc1 := 0) (cn1 := 0) rfl rfl (Nat.le_of_ble_eq_true rfl) dX9_value_22 (by first | assumption | rfl) (x_valueTo hA hK hd hj (by omega)) ?_
    refine x_iret (ty := .int) dX9_value_25 rfl rfl (Nat.zero_le _) (Nat.zero_le _) ?_
    exact ⟨rfl, Nat.le_refl _, hX, fun _ _ => rfl⟩
  refine x_aload dX9_value_0 rfl ?_
  refine x_iload dX9_value_1 rfl ?_
  refine x_V1i lX9_102 (Rm.of rfl) (cc1 := 0) (cn1 := 0) rfl rfl (Nat.le_of_ble_eq_true rfl) dX9_value_2 (by first | assumption | rfl) (r_noHouse h4 a10 t) ?_
  refine x_if_ne dX9_value_5 (fun b5 => ?_) (fun b5 => ?_)
  · try simp only [i01, Classical.not_not] at b5
    refine x_ldc kX9_180 dX9_value_16 ?_
    refine x_iret (ty := .int) dX9_value_18 rfl rfl (Nat.zero_le _) (Nat.zero_le _) ?_
    refine ⟨?_, Nat.le_refl _, hX, fun _ _ => rfl⟩
    rw [aValue, if_neg]
    simp only [cVal, Int32.lt_iff_toInt_lt, Int32.le_iff_toInt_le] at *
    omega
  · try simp only [i01, Classical.not_not] at b5
    refine x_aload dX9_value_8 rfl ?_
    refine x_iload dX9_value_9 rfl ?_
    refine x_V1i lX9_115 (Rm.of rfl) (cc1 := 0) (cn1 := 0) rfl rfl (Nat.le_of_ble_eq_true rfl) dX9_value_10 (by first | assumption | rfl) (r_nobody h4 a10 p) ?_
    refine x_if_eq dX9_value_13 (fun b13 => ?_) (fun b13 => ?_)
    · try simp only [i01, Classical.not_not] at b13
      exact J19 (by simp only [cVal, Int32.lt_iff_toInt_lt, Int32.le_iff_toInt_le] at *; omega)
    · try simp only [i01, Classical.not_not] at b13
      refine x_ldc kX9_180 dX9_value_16 ?_
      refine x_iret (ty := .int) dX9_value_18 rfl rfl (Nat.zero_le _) (Nat.zero_le _) ?_
      refine ⟨?_, Nat.le_refl _, hX, fun _ _ => rfl⟩
      rw [aValue, if_neg]
      simp only [cVal, Int32.lt_iff_toInt_lt, Int32.le_iff_toInt_le] at *
      omega
theorem m_valueOf {j q : Nat} (hR : MR h d) (h72 : h 72 = ia 64 (d_w d)) (hd : okD d) (hj : j < d_H d) (hq : q < 8) : Re Γ mX10_valueOf [.ref 57, .int (nI j), .int (nI q)] h sz (some (.int (vlN d j q))) h sz := by
  refine x_enter 2 (by decide) rfl ?_
  obtain ⟨ll, ow, pr, kd, pl, r57, r60, r61, r62, r63, ro, rp⟩ := id hR
  have hH8 : d_H d ≤ 8 := (hN_ok hd.1.1).1
  have hP8 : d_N d ≤ 8 := (pN_ok hd.1.2.1).1
  refine x_aload dX10_valueOf_0 rfl ?_
  refine x_get fX10_19 dX10_valueOf_1 (by first | assumption | rfl) ?_
  refine x_iload dX10_valueOf_4 rfl ?_
  refine x_ialdn dX10_valueOf_5 (by first | assumption | rfl) ⟨by first | omega | decide, by decide⟩ ?_
  refine x_istore dX10_valueOf_6 (Nat.le_of_ble_eq_true rfl) rfl ?_
  refine x_k dX10_valueOf_7 ?_
  refine x_istore dX10_valueOf_8 (Nat.le_of_ble_eq_true rfl) rfl ?_
  refine x_eq (by rw [(ro j hj).2]; rfl) rfl rfl (loopUp (P := fun p => Ex Γ mX10_valueOf _ 0 0 10 [.ref 57, .int (nI j), .int (nI q), .int (accF (nI (priN (d_b0 d) j)) (vlf d j q) p), .int (nI p)] [] h sz) (d_N d) ?_ (fun p hp ih => ?_) 0 (Nat.zero_le _))
  · refine x_iload dX10_valueOf_10 rfl ?_
    refine x_aload dX10_valueOf_12 rfl ?_
    refine x_get fX10_104 dX10_valueOf_13 (by first | assumption | rfl) ?_
    refine x_icmp_ge dX10_valueOf_16 (fun b16 => ?_) (fun b16 => ?_)
    · refine x_iload dX10_valueOf_61 rfl ?_
      refine x_iret (ty := .int) dX10_valueOf_62 rfl rfl (Nat.zero_le _) (Nat.zero_le _) ?_
      exact ⟨rfl, rfl, rfl⟩
    · exact absurd (Int32.le_refl _) b16
  · have hpos := (posN_ok hH8 (d_b1 d) p).2
    have e1 : nI p = nI q ↔ p = q := nI_eq (by omega) (by omega)
    have e2 : pl p = nI j ↔ posN (d_H d) (d_b1 d) p = j + 1 := by rw [(rp p hp).2]; exact pm1 _ (by omega) _ (by omega)
    rw [accF, vlf] at ih
    refine x_iload dX10_valueOf_10 rfl ?_
    refine x_aload dX10_valueOf_12 rfl ?_
    refine x_get fX10_104 dX10_valueOf_13 (by first | assumption | rfl) ?_
    refine x_icmp_ge dX10_valueOf_16 (fun b16 => ?_) (fun b16 => ?_)
    · exact absurd b16 (nI_ge hp (by omega))
    · refine x_iload dX10_valueOf_19 rfl ?_
      refine x_aload dX10_valueOf_20 rfl ?_
      refine x_get fX10_25 dX10_valueOf_21 (by first | assumption | rfl) ?_
      refine x_iload dX10_valueOf_24 rfl ?_
      refine x_ialdn dX10_valueOf_26 (by first | assumption | rfl) ⟨by first | omega | decide, by decide⟩ ?_
      refine x_iload dX10_valueOf_27 rfl ?_
      refine x_icmp_ne dX10_valueOf_28 (fun b28 => ?_) (fun b28 => ?_)
      · refine x_k dX10_valueOf_52 ?_
        refine x_iadd dX10_valueOf_53 ?_
        refine x_istore dX10_valueOf_54 (Nat.le_of_ble_eq_true rfl) rfl ?_
        refine x_inc1 dX10_valueOf_55 rfl (Nat.le_of_ble_eq_true rfl) rfl ?_
        refine x_goto dX10_valueOf_58 ?_
        first
          | rw [if_pos ⟨fun e => b34 (e1.mpr e), e2.mp (Classical.not_not.mp b28)⟩] at ih; rw [ix8', nI_clamp (by omega)]; exact ih
          | rw [if_pos ⟨fun e => b34 (e1.mpr e), e2.mp b28⟩] at ih; rw [ix8', nI_clamp (by omega)]; exact ih
          | rw [if_neg (fun z => b28 (e2.mpr z.2))] at ih; exact ih
          | rw [if_neg (fun z => z.1 (e1.mp b34))] at ih; exact ih
      · refine x_iload dX10_valueOf_31 rfl ?_
        refine x_iload dX10_valueOf_33 rfl ?_
        refine x_icmp_eq dX10_valueOf_34 (fun b34 => ?_) (fun b34 => ?_)
        · refine x_k dX10_valueOf_52 ?_
          refine x_iadd dX10_valueOf_53 ?_
          refine x_istore dX10_valueOf_54 (Nat.le_of_ble_eq_true rfl) rfl ?_
          refine x_inc1 dX10_valueOf_55 rfl (Nat.le_of_ble_eq_true rfl) rfl ?_
          refine x_goto dX10_valueOf_58 ?_
          first
            | rw [if_pos ⟨fun e => b34 (e1.mpr e), e2.mp (Classical.not_not.mp b28)⟩] at ih; rw [ix8', nI_clamp (by omega)]; exact ih
            | rw [if_pos ⟨fun e => b34 (e1.mpr e), e2.mp b28⟩] at ih; rw [ix8', nI_clamp (by omega)]; exact ih
            | rw [if_neg (fun z => b28 (e2.mpr z.2))] at ih; exact ih
            | rw [if_neg (fun z => z.1 (e1.mp b34))] at ih; exact ih
        · refine x_aload dX10_valueOf_37 rfl ?_
          refine x_get fX10_52 dX10_valueOf_38 (by first | assumption | rfl) ?_
          refine x_k dX10_valueOf_41 ?_
          refine x_iload dX10_valueOf_43 rfl ?_
          refine x_imul dX10_valueOf_44 ?_
          refine x_iload dX10_valueOf_45 rfl ?_
          refine x_iadd dX10_valueOf_47 ?_
          refine x_iald dX10_valueOf_48 (by first | assumption | rfl) (in8' (by omega) (by omega)) ?_
          refine x_goto dX10_valueOf_49 ?_
          refine x_iadd dX10_valueOf_53 ?_
          refine x_istore dX10_valueOf_54 (Nat.le_of_ble_eq_true rfl) rfl ?_
          refine x_inc1 dX10_valueOf_55 rfl (Nat.le_of_ble_eq_true rfl) rfl ?_
          refine x_goto dX10_valueOf_58 ?_
          first
            | rw [if_pos ⟨fun e => b34 (e1.mpr e), e2.mp (Classical.not_not.mp b28)⟩] at ih; rw [ix8', nI_clamp (by omega)]; exact ih
            | rw [if_pos ⟨fun e => b34 (e1.mpr e), e2.mp b28⟩] at ih; rw [ix8', nI_clamp (by omega)]; exact ih
            | rw [if_neg (fun z => b28 (e2.mpr z.2))] at ih; exact ih
            | rw [if_neg (fun z => z.1 (e1.mp b34))] at ih; exact ih
theorem m_value (t p : Int32) (hM : MW h d) (hd : okD d) : Rn Γ mX10_value [.ref 57, .int t, .int p] h sz (qM h sz d (aValue d t p)) := by
  refine x_enter 0 (by decide) rfl ?_
  obtain ⟨_, _, _, w57⟩ := hM.w57
  have hH8 : d_H d ≤ 8 := (hN_ok hd.1.1).1
  have hP8 : d_N d ≤ 8 := (pN_ok hd.1.2.1).1
  refine x_aload dX10_value_0 rfl ?_
  refine x_iload dX10_value_1 rfl ?_
  refine x_V1q lX10_121 (Rm.of rfl) (cc1 := 0) (cn1 := 0) rfl rfl (Nat.le_of_ble_eq_true rfl) dX10_value_2 (by first | assumption | rfl) (m_isHouse t hM hd) ?_
  rintro _ h1 _ ⟨rfl, rfl, hM1, hR1, hF1⟩
  obtain ⟨_, _, _, v57⟩ := hM1.w57
  refine x_if_eq dX10_value_5 (fun b5 => ?_) (fun b5 => ?_)
  · try simp only [i01, Classical.not_not] at b5
    refine x_ldc kX10_178 dX10_value_25 ?_
    refine x_iret (ty := .int) dX10_value_27 rfl rfl (Nat.zero_le _) (Nat.zero_le _) ?_
    first
      | exact ⟨by rw [aValue, if_neg (fun z => b13 z.2)], rfl, hM2, hF1.trans hF2⟩
      | exact ⟨by rw [aValue, if_neg (fun z => b5 z.1)], rfl, hM1, hF1⟩
  · try simp only [i01, Classical.not_not] at b5
    refine x_aload dX10_value_8 rfl ?_
    refine x_iload dX10_value_9 rfl ?_
    refine x_V1q lX10_128 (Rm.of rfl) (cc1 := 0) (cn1 := 0) rfl rfl (Nat.le_of_ble_eq_true rfl) dX10_value_10 (by first | assumption | rfl) (m_isPerson p hM1 hd) ?_
    rintro _ h2 _ ⟨rfl, rfl, hM2, hR2, hF2⟩
    obtain ⟨_, _, _, u57⟩ := hM2.w57
    refine x_if_eq dX10_value_13 (fun b13 => ?_) (fun b13 => ?_)
    · try simp only [i01, Classical.not_not] at b13
      refine x_ldc kX10_178 dX10_value_25 ?_
      refine x_iret (ty := .int) dX10_value_27 rfl rfl (Nat.zero_le _) (Nat.zero_le _) ?_
      first
        | exact ⟨by rw [aValue, if_neg (fun z => b13 z.2)], rfl, hM2, hF1.trans hF2⟩
        | exact ⟨by rw [aValue, if_neg (fun z => b5 z.1)], rfl, hM1, hF1⟩
    · try simp only [i01, Classical.not_not] at b13
      obtain ⟨i, hi, rfl⟩ := below b5.1 b5.2 (by omega)
      obtain ⟨q, hq, rfl⟩ := below b13.1 b13.2 (by omega)
      refine x_aload dX10_value_16 rfl ?_
      refine x_iload dX10_value_17 rfl ?_
      refine x_iload dX10_value_18 rfl ?_
      refine x_V2i lX10_208 (Rm.of rfl) (cc1 := 0) (cn1 := 0) rfl rfl (Nat.le_of_ble_eq_true rfl) dX10_value_19 (by first | assumption | rfl) (m_valueOf hR2 hM2.w72 hd hi (by omega)) ?_
      refine x_goto dX10_value_22 ?_
      refine x_iret (ty := .int) dX10_value_27 rfl rfl (Nat.zero_le _) (Nat.zero_le _) ?_
      exact ⟨by rw [aValue, if_pos ⟨b5, b13⟩, nI_clamp (by omega), nI_clamp (by omega)], rfl, hM2, hF1.trans hF2⟩
end Val
