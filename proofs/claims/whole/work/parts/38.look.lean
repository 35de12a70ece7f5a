/-! fault, house, person -/
def aFault (d : DT) (t : Int32) : Int32 := if cText t then (if t = 0 then fauH (d_n0 d) (d_b0 d) else fauP (d_n1 d) (d_b1 d)) else -2
abbrev cHo (d : DT) (t w : Int32) : Prop := (0 ≤ t ∧ t < nI (d_H d)) ∧ 0 ≤ w ∧ w ≤ 2
abbrev cPe (d : DT) (t w : Int32) : Prop := (0 ≤ t ∧ t < nI (d_N d)) ∧ 0 ≤ w ∧ w ≤ 2
def hoN (d : DT) (j w : Nat) : Int32 := if w = 0 then nI (ownN (d_b0 d) j) else if w = 1 then nI (priN (d_b0 d) j) else nI (insM (d_N d) (posN (d_H d) (d_b1 d)) (j + 1))
def peN (d : DT) (p w : Nat) : Int32 := if w = 0 then nI (kinN (d_b1 d) p) else if w = 1 then nI (posN (d_H d) (d_b1 d) p) - 1 else nI (msk (fun j => decide (ownN (d_b0 d) j = p)) (d_H d))
def aHouse (d : DT) (t w : Int32) : Int32 := if cHo d t w then hoN d t.toNatClampNeg w.toNatClampNeg else -2
def aPerson (d : DT) (t w : Int32) : Int32 := if cPe d t w then peN d t.toNatClampNeg w.toNatClampNeg else -2
section Look
variable {Γ : GX} {h : Hp} {sz : Nat} {d d0 : DT}
theorem c_fault (t : Int32) (hX : XW h sz d) (hd : okD d) : Rn Γ mX9_fault [.ref 4, .int t] h sz (qW h sz d (aFault d t)) := by
  refine x_enter 0 (by decide) rfl ?_
  obtain ⟨hA, hK, hR, hD⟩ := id hX
  obtain ⟨t5, t6, t7, t8, t9⟩ := hA.T
  obtain ⟨ss, h4⟩ := hK.w4
  obtain ⟨⟨n0, n1, -, bb⟩, -⟩ := id hd
  refine x_iload dX9_fault_0 rfl ?_
  refine x_S1i lX9_82 (Rm.of rfl) (cc1 := 0) (cn1 := 0) rfl rfl (Nat.le_of_ble_eq_true rfl) dX9_fault_1 (r_noText t) ?_
  refine x_if_eq dX9_fault_4 (fun b4 => ?_) (fun b4 => ?_)
  · try simp only [i01, Classical.not_not] at b4
    refine x_iload dX9_fault_10 rfl ?_
    refine x_if_ne dX9_fault_11 (fun b11 => ?_) (fun b11 => ?_)
    · refine x_aload dX9_fault_26 rfl ?_
      refine x_get fX9_12 dX9_fault_27 (by first | assumption | rfl) ?_
      refine x_k dX9_fault_30 ?_
      refine x_aaT (i := 1) (q := 8) dX9_fault_31 t5 (by decide) ?_
      refine x_S1i lX9_99 (Rm.of rfl) (cc1 := 0) (cn1 := 0) rfl rfl (Nat.le_of_ble_eq_true rfl) dX9_fault_32 (r_wrongPerson t8 t9 n1 bb) ?_
      refine x_iret (ty := .int) dX9_fault_35 rfl rfl (Nat.zero_le _) (Nat.zero_le _) ?_
      refine ⟨?_, Nat.le_refl _, hX, fun _ _ => rfl⟩
      have hc : cText t := by simp only [cText, Int32.lt_iff_toInt_lt, Int32.le_iff_toInt_le, not_or] at *; omega
      rw [aFault, if_pos hc]
      first
        | rw [if_pos (Classical.not_not.mp b11)]
        | rw [if_neg b11]
        | rw [if_pos b11]
    · refine x_aload dX9_fault_14 rfl ?_
      refine x_get fX9_12 dX9_fault_15 (by first | assumption | rfl) ?_
      refine x_k dX9_fault_18 ?_
      refine x_aaT (i := 0) (q := 6) dX9_fault_19 t5 (by decide) ?_
      refine x_S1i lX9_95 (Rm.of rfl) (cc1 := 0) (cn1 := 0) rfl rfl (Nat.le_of_ble_eq_true rfl) dX9_fault_20 (r_wrongHouse t6 t7 n0) ?_
      refine x_goto dX9_fault_23 ?_
      refine x_iret (ty := .int) dX9_fault_35 rfl rfl (Nat.zero_le _) (Nat.zero_le _) ?_
      refine ⟨?_, Nat.le_refl _, hX, fun _ _ => rfl⟩
      have hc : cText t := by simp only [cText, Int32.lt_iff_toInt_lt, Int32.le_iff_toInt_le, not_or] at *; omega
      rw [aFault, if_pos hc]
      first
        | rw [if_pos (Classical.not_not.mp b11)]
        | rw [if_neg b11]
        | rw [if_pos b11]
  · try simp only [i01, Classical.not_not] at b4
    refine x_k dX9_fault_7 ?_
    refine x_iret (ty := .int) dX9_fault_9 rfl rfl (Nat.zero_le _) (Nat.zero_le _) ?_
    refine ⟨?_, Nat.le_refl _, hX, fun _ _ => rfl⟩
    rw [aFault, if_neg]
    simp only [cText, Int32.lt_iff_toInt_lt, Int32.le_iff_toInt_le, not_or] at *
    omega
theorem c_house (t w : Int32) (hX : XW h sz d) (hd : okD d) : Rn Γ mX9_house [.ref 4, .int t, .int w] h sz (qW h sz d (aHouse d t w)) := by
  refine x_enter 0 (by decide) rfl ?_
  obtain ⟨hA, hK, hR, hD⟩ := id hX
  obtain ⟨ow, pr, od, kd, sp, ins, a1, ⟨a10, a11, a12, a13, a14, a15, a16⟩, a3, a4, a5, a6, f1, f2, f3, f4⟩ := id hA
  obtain ⟨ss, h4⟩ := hK.w4
  have hH8 : d_H d ≤ 8 := (hN_ok hd.1.1).1
  have J20 : cHo d t w → Ex Γ mX9_house (gx_Z Γ mX9_house (qW h sz d (aHouse d t w))) 0 0 20 [.ref 4, .int t, .int w] [] h sz := by
    intro hc
    obtain ⟨i, hi, rfl⟩ := below hc.1.1 hc.1.2 (by omega)
    obtain ⟨j, hj, rfl⟩ := upto (n := 2) hc.2.1 hc.2.2 (by omega)
    have ea : aHouse d (nI i) (nI j) = hoN d i j := by rw [aHouse, if_pos hc, nI_clamp (by omega), nI_clamp (by omega)]
    rw [ea]
    have h3 : j = 0 ∨ j = 1 ∨ j = 2 := by omega
    rcases h3 with rfl | rfl | rfl
    · refine x_iload dX9_house_20 rfl ?_
      refine x_if_ne dX9_house_21 (fun b21 => ?_) (fun b21 => ?_)
      · exact absurd b21 (by decide)
      · refine x_aload dX9_house_24 rfl ?_
        refine x_get fX9_21 dX9_house_25 (by first | assumption | rfl) ?_
        refine x_get fX9_105 dX9_house_28 (by first | assumption | rfl) ?_
        refine x_iload dX9_house_31 rfl ?_
        refine x_ialdn dX9_house_32 (by first | assumption | rfl) ⟨by first | omega | decide, by decide⟩ ?_
        refine x_iret (ty := .int) dX9_house_33 rfl rfl (Nat.zero_le _) (Nat.zero_le _) ?_
        exact ⟨by rw [(f1 i hi).1]; rfl, Nat.le_refl _, hX, fun _ _ => rfl⟩
    · refine x_iload dX9_house_20 rfl ?_
      refine x_if_ne dX9_house_21 (fun b21 => ?_) (fun b21 => ?_)
      · refine x_iload dX9_house_34 rfl ?_
        refine x_k dX9_house_35 ?_
        refine x_icmp_ne dX9_house_36 (fun b36 => ?_) (fun b36 => ?_)
        · exact absurd b36 (by decide)
        · refine x_aload dX9_house_39 rfl ?_
          refine x_get fX9_21 dX9_house_40 (by first | assumption | rfl) ?_
          refine x_get fX9_109 dX9_house_43 (by first | assumption | rfl) ?_
          refine x_iload dX9_house_46 rfl ?_
          refine x_ialdn dX9_house_47 (by first | assumption | rfl) ⟨by first | omega | decide, by decide⟩ ?_
          refine x_goto dX9_house_48 ?_
          refine x_iret (ty := .int) dX9_house_62 rfl rfl (Nat.zero_le _) (Nat.zero_le _) ?_
          exact ⟨by rw [(f1 i hi).2]; rfl, Nat.le_refl _, hX, fun _ _ => rfl⟩
      · exact absurd b21 (by decide)
    · refine x_iload dX9_house_20 rfl ?_
      refine x_if_ne dX9_house_21 (fun b21 => ?_) (fun b21 => ?_)
      · refine x_iload dX9_house_34 rfl ?_
        refine x_k dX9_house_35 ?_
        refine x_icmp_ne dX9_house_36 (fun b36 => ?_) (fun b36 => ?_)
        · refine x_aload dX9_house_51 rfl ?_
          refine x_get fX9_21 dX9_house_52 (by first | assumption | rfl) ?_
          refine x_get fX9_112 dX9_house_55 (by first | assumption | rfl) ?_
          refine x_iload dX9_house_58 rfl ?_
          refine x_k dX9_house_59 ?_
          refine x_iadd dX9_house_60 ?_
          rw [nI_1]
          refine x_ialdn dX9_house_61 (by first | assumption | rfl) ⟨by first | omega | decide, by decide⟩ ?_
          refine x_iret (ty := .int) dX9_house_62 rfl rfl (Nat.zero_le _) (Nat.zero_le _) ?_
          exact ⟨by rw [f4 (i + 1) (by omega)]; rfl, Nat.le_refl _, hX, fun _ _ => rfl⟩
        · exact absurd b36 (by decide)
      · exact absurd b21 (by decide)
  refine x_aload dX9_house_0 rfl ?_
  refine x_iload dX9_house_1 rfl ?_
  refine x_V1i lX9_102 (Rm.of rfl) (cc1 := 0) (cn1 := 0) rfl rfl (Nat.le_of_ble_eq_true rfl) dX9_house_2 (by first | assumption | rfl) (r_noHouse h4 a10 t) ?_
  refine x_if_ne dX9_house_5 (fun b5 => ?_) (fun b5 => ?_)
  · try simp only [i01, Classical.not_not] at b5
    refine x_k dX9_house_17 ?_
    refine x_iret (ty := .int) dX9_house_19 rfl rfl (Nat.zero_le _) (Nat.zero_le _) ?_
    refine ⟨?_, Nat.le_refl _, hX, fun _ _ => rfl⟩
    rw [aHouse, if_neg]
    simp only [cHo, Int32.lt_iff_toInt_lt, Int32.le_iff_toInt_le] at *
    omega
  · try simp only [i01, Classical.not_not] at b5
    refine x_iload dX9_house_8 rfl ?_
    refine x_if_lt dX9_house_9 (fun b9 => ?_) (fun b9 => ?_)
    · refine x_k dX9_house_17 ?_
      refine x_iret (ty := .int) dX9_house_19 rfl rfl (Nat.zero_le _) (Nat.zero_le _) ?_
      refine ⟨?_, Nat.le_refl _, hX, fun _ _ => rfl⟩
      rw [aHouse, if_neg]
      simp only [cHo, Int32.lt_iff_toInt_lt, Int32.le_iff_toInt_le] at *
      omega
    · refine x_iload dX9_house_12 rfl ?_
      refine x_k dX9_house_13 ?_
      refine x_icmp_le dX9_house_14 (fun b14 => ?_) (fun b14 => ?_)
      · exact J20 (by simp only [cHo, Int32.lt_iff_toInt_lt, Int32.le_iff_toInt_le] at *; omega)
      · refine x_k dX9_house_17 ?_
        refine x_iret (ty := .int) dX9_house_19 rfl rfl (Nat.zero_le _) (Nat.zero_le _) ?_
        refine ⟨?_, Nat.le_refl _, hX, fun _ _ => rfl⟩
        rw [aHouse, if_neg]
        simp only [cHo, Int32.lt_iff_toInt_lt, Int32.le_iff_toInt_le] at *
        omega
theorem c_person (t w : Int32) (hX : XW h sz d) (hd : okD d) : Rn Γ mX9_person [.ref 4, .int t, .int w] h sz (qW h sz d (aPerson d t w)) := by
  refine x_enter 0 (by decide) rfl ?_
  obtain ⟨hA, hK, hR, hD⟩ := id hX
  obtain ⟨ow, pr, od, kd, sp, ins, a1, ⟨a10, a11, a12, a13, a14, a15, a16⟩, a3, a4, a5, a6, f1, f2, f3, f4⟩ := id hA
  obtain ⟨ss, h4⟩ := hK.w4
  have hP8 : d_N d ≤ 8 := (pN_ok hd.1.2.1).1
  have J20 : cPe d t w → Ex Γ mX9_person (gx_Z Γ mX9_person (qW h sz d (aPerson d t w))) 0 0 20 [.ref 4, .int t, .int w] [] h sz := by
    intro hc
    obtain ⟨i, hi, rfl⟩ := below hc.1.1 hc.1.2 (by omega)
    obtain ⟨j, hj, rfl⟩ := upto (n := 2) hc.2.1 hc.2.2 (by omega)
    have ea : aPerson d (nI i) (nI j) = peN d i j := by rw [aPerson, if_pos hc, nI_clamp (by omega), nI_clamp (by omega)]
    rw [ea]
    have h3 : j = 0 ∨ j = 1 ∨ j = 2 := by omega
    rcases h3 with rfl | rfl | rfl
    · refine x_iload dX9_person_20 rfl ?_
      refine x_if_ne dX9_person_21 (fun b21 => ?_) (fun b21 => ?_)
      · exact absurd b21 (by decide)
      · refine x_aload dX9_person_24 rfl ?_
        refine x_get fX9_21 dX9_person_25 (by first | assumption | rfl) ?_
        refine x_get fX9_118 dX9_person_28 (by first | assumption | rfl) ?_
        refine x_iload dX9_person_31 rfl ?_
        refine x_ialdn dX9_person_32 (by first | assumption | rfl) ⟨by first | omega | decide, by decide⟩ ?_
        refine x_iret (ty := .int) dX9_person_33 rfl rfl (Nat.zero_le _) (Nat.zero_le _) ?_
        exact ⟨by rw [(f3 i hi).1]; rfl, Nat.le_refl _, hX, fun _ _ => rfl⟩
    · refine x_iload dX9_person_20 rfl ?_
      refine x_if_ne dX9_person_21 (fun b21 => ?_) (fun b21 => ?_)
      · refine x_iload dX9_person_34 rfl ?_
        refine x_k dX9_person_35 ?_
        refine x_icmp_ne dX9_person_36 (fun b36 => ?_) (fun b36 => ?_)
        · exact absurd b36 (by decide)
        · refine x_aload dX9_person_39 rfl ?_
          refine x_get fX9_21 dX9_person_40 (by first | assumption | rfl) ?_
          refine x_get fX9_121 dX9_person_43 (by first | assumption | rfl) ?_
          refine x_iload dX9_person_46 rfl ?_
          refine x_ialdn dX9_person_47 (by first | assumption | rfl) ⟨by first | omega | decide, by decide⟩ ?_
          refine x_S1i lX9_124 (Rm.of rfl) (cc1 := 0) (cn1 := 0) rfl rfl (Nat.le_of_ble_eq_true rfl) dX9_person_48 (r_houseAt (sp i)) ?_
          refine x_goto dX9_person_51 ?_
          refine x_iret (ty := .int) dX9_person_63 rfl rfl (Nat.zero_le _) (Nat.zero_le _) ?_
          exact ⟨by rw [(f3 i hi).2]; rfl, Nat.le_refl _, hX, fun _ _ => rfl⟩
      · exact absurd b21 (by decide)
    · refine x_iload dX9_person_20 rfl ?_
      refine x_if_ne dX9_person_21 (fun b21 => ?_) (fun b21 => ?_)
      · refine x_iload dX9_person_34 rfl ?_
        refine x_k dX9_person_35 ?_
        refine x_icmp_ne dX9_person_36 (fun b36 => ?_) (fun b36 => ?_)
        · refine x_aload dX9_person_54 rfl ?_
          refine x_get fX9_21 dX9_person_55 (by first | assumption | rfl) ?_
          refine x_get fX9_128 dX9_person_58 (by first | assumption | rfl) ?_
          refine x_iload dX9_person_61 rfl ?_
          refine x_ialdn dX9_person_62 (by first | assumption | rfl) ⟨by first | omega | decide, by decide⟩ ?_
          refine x_iret (ty := .int) dX9_person_63 rfl rfl (Nat.zero_le _) (Nat.zero_le _) ?_
          exact ⟨by rw [f2 i (by omega)]; rfl, Nat.le_refl _, hX, fun _ _ => rfl⟩
        · exact absurd b36 (by decide)
      · exact absurd b21 (by decide)
  refine x_aload dX9_person_0 rfl ?_
  refine x_iload dX9_person_1 rfl ?_
  refine x_V1i lX9_115 (Rm.of rfl) (cc1 := 0) (cn1 := 0) rfl rfl (Nat.le_of_ble_eq_true rfl) dX9_person_2 (by first | assumption | rfl) (r_nobody h4 a10 t) ?_
  refine x_if_ne dX9_person_5 (fun b5 => ?_) (fun b5 => ?_)
  · try simp only [i01, Classical.not_not] at b5
    refine x_k dX9_person_17 ?_
    refine x_iret (ty := .int) dX9_person_19 rfl rfl (Nat.zero_le _) (Nat.zero_le _) ?_
    refine ⟨?_, Nat.le_refl _, hX, fun _ _ => rfl⟩
    rw [aPerson, if_neg]
    simp only [cPe, Int32.lt_iff_toInt_lt, Int32.le_iff_toInt_le] at *
    omega
  · try simp only [i01, Classical.not_not] at b5
    refine x_iload dX9_person_8 rfl ?_
    refine x_if_lt dX9_person_9 (fun b9 => ?_) (fun b9 => ?_)
    · refine x_k dX9_person_17 ?_
      refine x_iret (ty := .int) dX9_person_19 rfl rfl (Nat.zero_le _) (Nat.zero_le _) ?_
      refine ⟨?_, Nat.le_refl _, hX, fun _ _ => rfl⟩
      rw [aPerson, if_neg]
      simp only [cPe, Int32.lt_iff_toInt_lt, Int32.le_iff_toInt_le] at *
      omega
    · refine x_iload dX9_person_12 rfl ?_
      refine x_k dX9_person_13 ?_
      refine x_icmp_le dX9_person_14 (fun b14 => ?_) (fun b14 => ?_)
      · exact J20 (by simp only [cPe, Int32.lt_iff_toInt_lt, Int32.le_iff_toInt_le] at *; omega)
      · refine x_k dX9_person_17 ?_
        refine x_iret (ty := .int) dX9_person_19 rfl rfl (Nat.zero_le _) (Nat.zero_le _) ?_
        refine ⟨?_, Nat.le_refl _, hX, fun _ _ => rfl⟩
        rw [aPerson, if_neg]
        simp only [cPe, Int32.lt_iff_toInt_lt, Int32.le_iff_toInt_le] at *
        omega
end Look
