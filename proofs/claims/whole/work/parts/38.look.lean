/-! fault, house, person -/
def aFault (d : DT) (t : Int32) : Int32 := if cText t then (if t = 0 then fauH (d_n0 d) (d_b0 d) else fauP (d_n1 d) (d_b1 d)) else -2
abbrev cHo (d : DT) (t w : Int32) : Prop := (0 ≤ t ∧ t < nI (d_H d)) ∧ 0 ≤ w ∧ w ≤ 2
abbrev cPe (d : DT) (t w : Int32) : Prop := (0 ≤ t ∧ t < nI (d_N d)) ∧ 0 ≤ w ∧ w ≤ 2
def hoN (d : DT) (j w : Nat) : Int32 := if w = 0 then nI (ownN (d_b0 d) j) else if w = 1 then nI (priN (d_b0 d) j) else nI (insM (d_N d) (posN (d_H d) (d_b1 d)) (j + 1))
def peN (d : DT) (p w : Nat) : Int32 := if w = 0 then nI (kinN (d_b1 d) p) else if w = 1 then nI (posN (d_H d) (d_b1 d) p) - 1 else nI (msk (fun j => decide (ownN (d_b0 d) j = p)) (d_H d))
def aHouse (d : DT) (t w : Int32) : Int32 := if cHo d t w then hoN d t.toNatClampNeg w.toNatClampNeg else -2
def aPerson (d : DT) (t w : Int32) : Int32 := if cPe d t w then peN d t.toNatClampNeg w.toNatClampNeg else -2
section Look
variable {Γ : GX} {h : Hp} {sz : Nat} {d d0 : DT}
theorem c_fault (t : Int32) (hX : XW h sz d) (hd : okD d) : Rn Γ mX9_fault [.ref 4, .int t] h sz (qW h sz d (aFault d t)) := by
  refine x_enter 0 (by decide) rfl ?_
  obtain ⟨hA, hK, hR, hD⟩ := id hX
  obtain ⟨t5, t6, t7, t8, t9⟩ := hA.T
  obtain ⟨ss, h4⟩ := hK.w4
  obtain ⟨⟨n0, n1, -, bb⟩, -⟩ := id hd
  refine x_iload dX9_fault_0 rfl ?_
  refine x_S1i lX9_82 (Rm.of rfl) (cc1 := 0) (cn1 := 0) rfl rfl (Nat.le_of_ble_eq_true rfl) dX9_fault_1 (r_noText t) ?_
  refine x_if_eq dX9_fault_4 (fun b4 => ?_) (fun b4 => ?_)
  · try simp only [i01, Classical.not_not] at b4
    refine x_iload dX9_fault_10 rfl ?_
    refine x_if_ne dX9_fault_11 (fun b11 => ?_) (fun b11 => ?_)
    · refine x_aload dX9_fault_26 rfl ?_
      refine x_get fX9_12 dX9_fault_27 (by first | assumption | rfl) ?_
      refine x_k dX9_fault_30 ?_
      refine x_aaT (i := 1) (q := 8) dX9_fault_31 t5 (by decide) ?_
      refine x_S1i lX9_99 (Rm.of rfl) (cc1 := 0) (cn1 := 0) rfl rfl (Nat.le_of_ble_eq_true rfl) dX9_fault_32 (r_wrongPerson t8 t9 n1 bb) ?_
      refine x_iret (ty := .int) dX9_fault_35 rfl rfl (Nat.zero_le _) (Nat.zero_le _) ?_
      refine ⟨?_, Nat.le_refl _, hX, fun _ _ => rfl⟩
      have hc : cText t := by simp only [cText, Int32.lt_iff_toInt_lt, Int32.le_iff_toInt_le, not_or] at *; omega
      rw [aFault, if_pos hc]
      first
        | rw [if_pos (Classical.not_not.mp b11)]
        | rw [if_neg b11]
        | rw [if_pos b11]
    · refine x_aload dX9_fault_14 rfl ?_
      refine x_get fX9_12 dX9_fault_15 (by first | assumption | rfl) ?_
      refine x_k dX9_fault_18 ?_
      refine x_aaT (i := 0) (q := 6) dX9_fault_19 t5 (by decide) ?_
      refine x_S1i lX9_95 (Rm.of rfl) (cc1 := 0) (cn1 := 0) rfl rfl (Nat.le_of_ble_eq_true rfl) dX9_fault_20 (r_wrongHouse t6 t7 n0) ?_
      refine x_goto dX9_fault_23 ?_
      refine x_iret (ty := .int) dX9_fault_35 rfl rfl (Nat.zero_le _) (Nat.zero_le _) ?_
      refine ⟨?_, Nat.le_refl _, hX, fun _ _ => rfl⟩
      have hc : cText t := by simp only [cText, Int32.lt_iff_toInt_lt, Int32.le_iff_toInt_le, not_or] at *; omega
      rw [aFault, if_pos hc]
      first
        | rw [if_pos (Classical.not_not.mp b11)]
        | rw [if_neg b11]
        | rw [if_pos b11]
  · try simp only [i01, Classical.not_not] at b4
    refine x_k dX9_fault_7 ?_
    refine x_iret (ty := .int) dX9_fault_9 rfl rfl (Nat.zero_le _) (Nat.zero_le _) ?_
    refine ⟨?_, Nat.le_refl _, hX, fun _ _ => rfl⟩
    rw [aFault, if_neg]
    simp only [cText, Int32.lt_iff_toInt_lt, Int32.le_iff_toInt_le, not_or] at *
    omega
theorem c_house (t w : Int32) (hX : XW h sz d) (hd : okD d) : Rn Γ mX9_house [.ref 4, .int t, .int w] h sz (qW h sz d (aHouse d t w)) := by
  refine x_enter 0 (by decide) rfl ?_
  obtain ⟨hA, hK, hR, hD⟩ := id hX
  obtain ⟨ow, pr, od, kd, sp, ins, a1, ⟨a10, a11, a12, a13, a14, a15, a16⟩, a3, a4, a5, a6, f1, f2, f3, f4⟩ := id hA
  obtain ⟨ss, h4⟩ := hK.w4
  have hH8 : d_H d ≤ 8 := (hN_ok hd.1.1).1
  have J20 : cHo d t w → Ex Γ mX9_house (gx_Z Γ mX9_house (qW h sz d (aHouse d t w))) 0 0 20 [.ref 4, .int t, .int w] [] h sz := by
    intro hc
    obtain ⟨i, hi, rfl⟩ := below hc.1.1 hc.1.2 (by omega)
    obtain ⟨j, hj, rfl⟩ := upto (n := 2) hc.2.1 hc.2.2 (by omega)
    have ea : aHouse d (nI i) (nI j) = hoN d i j := by rw [aHouse, if_pos hc, nI_clamp (by omega), nI_clamp (by omega)]
    rw [ea]
    have h3 : j = 0 ∨ j = 1 ∨ j = 2 := by omega
    rcases h3 with rfl | rfl | rfl
    · refine x_iload dX9_house_20 rfl ?_
      refine x_if_ne dX9_house_21 (fun b21 => ?_) (fun b21 => ?_)
      · exact absurd b21 (by decide)
      · refine x_aload dX9_house_24 rfl ?_
        refine x_get fX9_21 dX9_house_25 (by first | assumption | rfl) ?_
        refine x_get fX9_105 dX9_house_28 (by first | assumption | rfl) ?_
        refine x_iload dX9_house_31 rfl ?_
        refine x_ialdn dX9_house_32 (by first | assumption | rfl) ⟨by first | omega | decide, by decide⟩ ?_
        refine x_iret (ty := .int) dX9_house_33 rfl rfl (Nat.zero_le _) (Nat.zero_le _) ?_
        exact ⟨by rw [(f1 i hi).1]; rfl, Nat.le_refl _, hX, fun _ _ => rfl⟩
    · refine x_iload dX9_house_20 rfl ?_
      refine x_if_ne dX9_house_21 (fun b21 => ?_) (fun b21 => ?_)
      · refine x_iload dX9_house_34 rfl ?_
        refine x_k dX9_house_35 ?_
        refine x_icmp_ne dX9_house_36 (fun b36 => ?_) (fun b36 => ?_)
        · exact absurd b36 (by decide)
        · refine x_aload dX9_house_39 rfl ?_
          refine x_get fX9_21 dX9_house_40 (by first | assumption | rfl) ?_
          refine x_get fX9_109 dX9_house_43 (by first | assumption | rfl) ?_
          refine x_iload dX9_house_46 rfl ?_
          refine x_ialdn dX9_house_47 (by first | assumption | rfl) ⟨by first | omega | decide, by decide⟩ ?_
          refine x_goto dX9_house_48 ?_
          refine x_iret (ty := .int) dX9_house_62 rfl rfl (Nat.zero_le _) (Nat.zero_le _) ?_
          exact ⟨by rw [(f1 i hi).2]; rfl, Nat.le_refl _, hX, fun _ _ => rfl⟩
      · exact absurd b21 (by decide)
    · refine x_iload dX9_house_20 rfl ?_
      refine x_if_ne dX9_house_21 (fun b21 => ?_) (fun b21 => ?_)
      · refine x_iload dX9_house_34 rfl ?_
        refine x_k dX9_house_35 ?_
        refine x_icmp_ne dX9_house_36 (fun b36 => ?_) (fun b36 => ?_)
        · refine x_aload dX9_house_51 rfl ?_
          refine x_get fX9_21 dX9_house_52 (by first | assumption | rfl) ?_
          refine x_get fX9_112 dX9_house_55 (by first | assumption | rfl) ?_
          refine x_iload dX9_house_58 rfl ?_
          refine x_k dX9_house_59 ?_
          refine x_iadd dX9_house_60 ?_
          rw [nI_1]
          refine x_ialdn dX9_house_61 (by first | assumption | rfl) ⟨by first | omega | decide, by decide⟩ ?_
          refine x_iret (ty := .int) dX9_house_62 rfl rfl (Nat.zero_le _) (Nat.zero_le _) ?_
          exact ⟨by rw [f4 (i + 1) (by omega)]; rfl, Nat.le_refl _, hX, fun _ _ => rfl⟩
        · exact absurd b36 (by decide)
      · exact absurd b21 (by decide)
  refine x_aload dX9_house_0 rfl ?_
  refine x_iload dX9_house_1 rfl ?_
  refine x_V1i lX9_102 (Rm.of rfl) (cc1 := 0) (cn1 := 0) rfl rfl (Nat.le_of_ble_eq_true rfl) dX9_house_2 (by first | assumption | rfl) (r_noHouse h4 a10 t) ?_
  refine x_if_ne dX9_house_5 (fun b5 => ?_) (fun b5 => ?_)
  · try simp only [i01, Classical.not_not] at b5
    refine x_k dX9_house_17 ?_
    refine x_iret (ty := .int) dX9_house_19 rfl rfl (Nat.zero_le _) (Nat.zero_le _) ?_
    refine ⟨?_, Nat.le_refl _, hX, fun _ _ => rfl⟩
    rw [aHouse, if_neg]
    simp only [cHo, Int32.lt_iff_toInt_lt, Int32.le_iff_toInt_le] at *
    omega
  · try simp only [i01, Classical.not_not] at b5
    refine x_iload dX9_house_8 rfl ?_
    refine x_if_lt dX9_house_9 (fun b9 => ?_) (fun b9 => ?_)
    · refine x_k dX9_house_17 ?_
      refine x_iret (ty := .int) dX9_house_19 rfl rfl (Nat.zero_le _) (Nat.zero_le _) ?_
      refine ⟨?_, Nat.le_refl _, hX, fun _ _ => rfl⟩
      rw [aHouse, if_neg]
      simp only [cHo, Int32.lt_iff_toInt_lt, Int32.le_iff_toInt_le] at *
      omega
    · refine x_iload dX9_house_12 rfl ?_
      refine x_k dX9_house_13 ?_
      refine x_icmp_le dX9_house_14 (fun b14 => ?_) (fun b14 => ?_)
      · exact J20 (by simp only [cHo, Int32.lt_iff_toInt_lt, Int32.le_iff_toInt_le] at *; omega)
      · refine x_k dX9_house_17 ?_
        refine x_iret (ty := .int) dX9_house_19 rfl rfl (Nat.zero_le _) (Nat.zero_le _) ?_
        refine ⟨?_, Nat.le_refl _, hX, fun _ _ => rfl⟩
        rw [aHouse, if_neg]
        simp only [cHo, Int32.lt_iff_toInt_lt, Int32.le_iff_toInt_le] at *
        omega
theorem c_person (t w : Int32) (hX : XW h sz d) (hd : okD d) : Rn Γ mX9_person [.ref 4, .int t, .int w] h sz (qW h sz d (aPerson d t w)) := by
  refine x_enter 0 (by decide) rfl ?_
  obtain ⟨hA, hK, hR, hD⟩ := id hX
  obtain ⟨ow, pr, od, kd, sp, ins, a1, ⟨a10, a11, a12, a13, a14, a15, a16⟩, a3, a4, a5, a6, f1, f2, f3, f4⟩ := id hA
  obtain ⟨ss, h4⟩ := hK.w4
  have hP8 : d_N d ≤ 8 := (pN_ok hd.1.2.1).1
  have J20 : cPe d t w → Ex Γ mX9_person (gx_Z Γ mX9_person (qW h sz d (aPerson d t w))) 0 0 20 [.ref 4, .int t, .int w] [] h sz := by
    intro hc
    obtain ⟨i, hi, rfl⟩ := below hc.1.1 hc.1.2 (by omega)
    obtain ⟨j, hj, rfl⟩ := upto (n := 2) hc.2.1 hc.2.2 (by omega)
    have ea : aPerson d (nI i) (nI j) = peN d i j := by rw [aPerson, if_pos hc, nI_clamp (by omega), nI_clamp (by omega)]
    rw [ea]
    have h3 : j = 0 ∨ j = 1 ∨ j = 2 := by omega
    rcases h3 with rfl | rfl | rfl
    · refine x_iload dX9_person_20 rfl ?_
      refine x_if_ne dX9_person_21 (fun b21 => ?_) (fun b21 => ?_)
      · exact absurd b21 (by decide)
      · refine x_aload dX9_person_24 rfl ?_
        refine x_get fX9_21 dX9_person_25 (by first | assumption | rfl) ?_
        refine x_get fX9_118 dX9_person_28 (by first | assumption | rfl) ?_
        refine x_iload dX9_person_31 rfl ?_
        refine x_ialdn dX9_person_32 (by first | assumption | rfl) ⟨by first | omega | decide, by decide⟩ ?_
        refine x_iret (ty := .int) dX9_person_33 rfl rfl (Nat.zero_le _) (Nat.zero_le _) ?_
        exact ⟨by rw [(f3 i hi).1]; rfl, Nat.le_refl _, hX, fun _ _ => rfl⟩
    · refine x_iload dX9_person_20 rfl ?_
      refine x_if_ne dX9_person_21 (fun b21 => ?_) (fun b21 => ?_)
      · refine x_iload dX9_person_34 rfl ?_
        refine x_k dX9_person_35 ?_
        refine x_icmp_ne dX9_person_36 (fun b36 => ?_) (fun b36 => ?_)
        · exact absurd b36 (by decide)
        · refine x_aload dX9_person_39 rfl ?_
          refine x_get fX9_21 dX9_person_40 (by first | assumption | rfl) ?_
          refine x_get fX9_121 dX9_person_43 (by first | assumption | rfl) ?_
          refine x_iload dX9_person_46 rfl ?_
          refine x_ialdn dX9_person_47 (by first | assumption | rfl) ⟨by first | omega | decide, by decide⟩ ?_
          refine x_S1i lX9_124 (Rm.of rfl) (cc1 := 0) (cn1 := 0) rfl rfl (Nat.le_of_ble_eq_true rfl) dX9_person_48 (r_houseAt (sp i)) ?_
          refine x_goto dX9_person_51 ?_
          refine x_iret (ty := .int) dX9_person_63 rfl rfl (Nat.zero_le _) (Nat.zero_le _) ?_
          exact ⟨by rw [(f3 i hi).2]; rfl, Nat.le_refl _, hX, fun _ _ => rfl⟩
      · exact absurd b21 (by decide)
    · refine x_iload dX9_person_20 rfl ?_
      refine x_if_ne dX9_person_21 (fun b21 => ?_) (fun b21 => ?_)
      · refine x_iload dX9_person_34 rfl ?_
        refine x_k dX9_person_35 ?_
        refine x_icmp_ne dX9_person_36 (fun b36 => ?_) (fun b36 => ?_)
        · refine x_aload dX9_person_54 rfl ?_
          refine x_get fX9_21 dX9_person_55 (by first | assumption | rfl) ?_
          refine x_get fX9_128 dX9_person_58 (by first | assumption | rfl) ?_
          refine x_iload dX9_person_61 rfl ?_
          refine x_ialdn dX9_person_62 (by first | assumption | rfl) ⟨by first | omega | decide, by decide⟩ ?_
          refine x_iret (ty := .int) dX9_person_63 rfl rfl (Nat.zero_le _) (Nat.zero_le _) ?_
          exact ⟨by rw [f2 i (by omega)]; rfl, Nat.le_refl _, hX, fun _ _ => rfl⟩
        · exact absurd b36 (by decide)
      · exact absurd b21 (by decide)
  refine x_aload dX9_person_0 rfl ?_
  refine x_iload dX9_person_1 rfl ?_
  refine x_V1i lX9_115 (Rm.of rfl) (cc1 := 0) (cn1 := 0) rfl rfl (Nat.le_of_ble_eq_true rfl) dX9_person_2 (by first | assumption | rfl) (r_nobody h4 a10 t) ?_
  refine x_if_ne dX9_person_5 (fun b5 => ?_) (fun b5 => ?_)
  · try simp only [i01, Classical.not_not] at b5
    refine x_k dX9_person_17 ?_
    refine x_iret (ty := .int) dX9_person_19 rfl rfl (Nat.zero_le _) (Nat.zero_le _) ?_
    refine ⟨?_, Nat.le_refl _, hX, fun _ _ => rfl⟩
    rw [aPerson, if_neg]
    simp only [cPe, Int32.lt_iff_toInt_lt, Int32.le_iff_toInt_le] at *
    omega
  · try simp only [i01, Classical.not_not] at b5
    refine x_iload dX9_person_8 rfl ?_
    refine x_if_lt dX9_person_9 (fun b9 => ?_) (fun b9 => ?_)
    · refine x_k dX9_person_17 ?_
      refine x_iret (ty := .int) dX9_person_19 rfl rfl (Nat.zero_le _) (Nat.zero_le _) ?_
      refine ⟨?_, Nat.le_refl _, hX, fun _ _ => rfl⟩
      rw [aPerson, if_neg]
      simp only [cPe, Int32.lt_iff_toInt_lt, Int32.le_iff_toInt_le] at *
      omega
    · refine x_iload dX9_person_12 rfl ?_
      refine x_k dX9_person_13 ?_
      refine x_icmp_le dX9_person_14 (fun b14 => ?_) (fun b14 => ?_)
      · exact J20 (by simp only [cPe, Int32.lt_iff_toInt_lt, Int32.le_iff_toInt_le] at *; omega)
      · refine x_k dX9_person_17 ?_
        refine x_iret (ty := .int) dX9_person_19 rfl rfl (Nat.zero_le _) (Nat.zero_le _) ?_
        refine ⟨?_, Nat.le_refl _, hX, fun _ _ => rfl⟩
        rw [aPerson, if_neg]
        simp only [cPe, Int32.lt_iff_toInt_lt, Int32.le_iff_toInt_le] at *
        omega
theorem pm1 : ∀ a < 9, ∀ j < 9, (nI a - 1 = nI j ↔ a = j + 1) := by decide
theorem m_houseOf {j w : Nat} (hR : MR h d) (hd : okD d) (hj : j < d_H d) (hw : w ≤ 2) : Re Γ mX10_houseOf [.ref 57, .int (nI j), .int (nI w)] h sz (some (.int (hoN d j w))) h sz := by
  refine x_enter 2 (by decide) rfl ?_
  obtain ⟨ll, ow, pr, kd, pl, r57, r60, r61, r62, r63, ro, rp⟩ := id hR
  have hH8 : d_H d ≤ 8 := (hN_ok hd.1.1).1
  have hP8 : d_N d ≤ 8 := (pN_ok hd.1.2.1).1
  refine x_k dX10_houseOf_0 ?_
  refine x_istore dX10_houseOf_1 (Nat.le_of_ble_eq_true rfl) rfl ?_
  refine x_k dX10_houseOf_2 ?_
  refine x_istore dX10_houseOf_3 (Nat.le_of_ble_eq_true rfl) rfl ?_
  refine (loopUp (P := fun p => Ex Γ mX10_houseOf _ 0 0 5 [.ref 57, .int (nI j), .int (nI w), .int (nI (msk (fun p => decide (posN (d_H d) (d_b1 d) p = j + 1)) p)), .int (nI p)] [] h sz) (d_N d) ?_ (fun p hp ih => ?_) 0 (Nat.zero_le _))
  · have h3 : w = 0 ∨ w = 1 ∨ w = 2 := by omega
    rcases h3 with rfl | rfl | rfl
    · refine x_iload dX10_houseOf_5 rfl ?_
      refine x_aload dX10_houseOf_7 rfl ?_
      refine x_get fX10_104 dX10_houseOf_8 (by first | assumption | rfl) ?_
      refine x_icmp_ge dX10_houseOf_11 (fun b11 => ?_) (fun b11 => ?_)
      · refine x_iload dX10_houseOf_42 rfl ?_
        refine x_if_ne dX10_houseOf_43 (fun b43 => ?_) (fun b43 => ?_)
        · exact absurd b43 (by decide)
        · refine x_aload dX10_houseOf_46 rfl ?_
          refine x_get fX10_16 dX10_houseOf_47 (by first | assumption | rfl) ?_
          refine x_iload dX10_houseOf_50 rfl ?_
          refine x_ialdn dX10_houseOf_51 (by first | assumption | rfl) ⟨by first | omega | decide, by decide⟩ ?_
          refine x_goto dX10_houseOf_52 ?_
          refine x_iret (ty := .int) dX10_houseOf_70 rfl rfl (Nat.zero_le _) (Nat.zero_le _) ?_
          exact ⟨by rw [(ro j hj).1]; rfl, rfl, rfl⟩
      · exact absurd (Int32.le_refl _) b11
    · refine x_iload dX10_houseOf_5 rfl ?_
      refine x_aload dX10_houseOf_7 rfl ?_
      refine x_get fX10_104 dX10_houseOf_8 (by first | assumption | rfl) ?_
      refine x_icmp_ge dX10_houseOf_11 (fun b11 => ?_) (fun b11 => ?_)
      · refine x_iload dX10_houseOf_42 rfl ?_
        refine x_if_ne dX10_houseOf_43 (fun b43 => ?_) (fun b43 => ?_)
        · refine x_iload dX10_houseOf_55 rfl ?_
          refine x_k dX10_houseOf_56 ?_
          refine x_icmp_ne dX10_houseOf_57 (fun b57 => ?_) (fun b57 => ?_)
          · exact absurd b57 (by decide)
          · refine x_aload dX10_houseOf_60 rfl ?_
            refine x_get fX10_19 dX10_houseOf_61 (by first | assumption | rfl) ?_
            refine x_iload dX10_houseOf_64 rfl ?_
            refine x_ialdn dX10_houseOf_65 (by first | assumption | rfl) ⟨by first | omega | decide, by decide⟩ ?_
            refine x_goto dX10_houseOf_66 ?_
            refine x_iret (ty := .int) dX10_houseOf_70 rfl rfl (Nat.zero_le _) (Nat.zero_le _) ?_
            exact ⟨by rw [(ro j hj).2]; rfl, rfl, rfl⟩
        · exact absurd b43 (by decide)
      · exact absurd (Int32.le_refl _) b11
    · refine x_iload dX10_houseOf_5 rfl ?_
      refine x_aload dX10_houseOf_7 rfl ?_
      refine x_get fX10_104 dX10_houseOf_8 (by first | assumption | rfl) ?_
      refine x_icmp_ge dX10_houseOf_11 (fun b11 => ?_) (fun b11 => ?_)
      · refine x_iload dX10_houseOf_42 rfl ?_
        refine x_if_ne dX10_houseOf_43 (fun b43 => ?_) (fun b43 => ?_)
        · refine x_iload dX10_houseOf_55 rfl ?_
          refine x_k dX10_houseOf_56 ?_
          refine x_icmp_ne dX10_houseOf_57 (fun b57 => ?_) (fun b57 => ?_)
          · refine x_iload dX10_houseOf_69 rfl ?_
            refine x_iret (ty := .int) dX10_houseOf_70 rfl rfl (Nat.zero_le _) (Nat.zero_le _) ?_
            exact ⟨rfl, rfl, rfl⟩
          · exact absurd b57 (by decide)
        · exact absurd b43 (by decide)
      · exact absurd (Int32.le_refl _) b11
  · have hpos := (posN_ok hH8 (d_b1 d) p).2
    have hq : pl p = nI j ↔ posN (d_H d) (d_b1 d) p = j + 1 := by rw [(rp p hp).2]; exact pm1 _ (by omega) _ (by omega)
    rw [msk] at ih
    refine x_iload dX10_houseOf_5 rfl ?_
    refine x_aload dX10_houseOf_7 rfl ?_
    refine x_get fX10_104 dX10_houseOf_8 (by first | assumption | rfl) ?_
    refine x_icmp_ge dX10_houseOf_11 (fun b11 => ?_) (fun b11 => ?_)
    · exact absurd b11 (nI_ge hp (by omega))
    · refine x_iload dX10_houseOf_14 rfl ?_
      refine x_aload dX10_houseOf_15 rfl ?_
      refine x_get fX10_25 dX10_houseOf_16 (by first | assumption | rfl) ?_
      refine x_iload dX10_houseOf_19 rfl ?_
      refine x_ialdn dX10_houseOf_21 (by first | assumption | rfl) ⟨by first | omega | decide, by decide⟩ ?_
      refine x_iload dX10_houseOf_22 rfl ?_
      refine x_icmp_ne dX10_houseOf_23 (fun b23 => ?_) (fun b23 => ?_)
      · refine x_k dX10_houseOf_33 ?_
        refine x_ior dX10_houseOf_34 ?_
        refine x_istore dX10_houseOf_35 (Nat.le_of_ble_eq_true rfl) rfl ?_
        refine x_inc1 dX10_houseOf_36 rfl (Nat.le_of_ble_eq_true rfl) rfl ?_
        refine x_goto dX10_houseOf_39 ?_
        first
          | rw [orbit (by omega)]; rw [if_pos (decide_eq_true (hq.mp (Classical.not_not.mp b23)))] at ih; exact ih
          | rw [orbit (by omega)]; rw [if_pos (decide_eq_true (hq.mp b23))] at ih; exact ih
          | rw [if_neg (fun z => b23 (hq.mpr (of_decide_eq_true z)))] at ih; exact x_eq (by rw [Nat.or_zero]; simp) rfl rfl ih
      · refine x_k dX10_houseOf_26 ?_
        refine x_iload dX10_houseOf_27 rfl ?_
        refine x_ishl dX10_houseOf_29 ?_
        refine x_goto dX10_houseOf_30 ?_
        refine x_ior dX10_houseOf_34 ?_
        refine x_istore dX10_houseOf_35 (Nat.le_of_ble_eq_true rfl) rfl ?_
        refine x_inc1 dX10_houseOf_36 rfl (Nat.le_of_ble_eq_true rfl) rfl ?_
        refine x_goto dX10_houseOf_39 ?_
        first
          | rw [orbit (by omega)]; rw [if_pos (decide_eq_true (hq.mp (Classical.not_not.mp b23)))] at ih; exact ih
          | rw [orbit (by omega)]; rw [if_pos (decide_eq_true (hq.mp b23))] at ih; exact ih
          | rw [if_neg (fun z => b23 (hq.mpr (of_decide_eq_true z)))] at ih; exact x_eq (by rw [Nat.or_zero]; simp) rfl rfl ih
theorem m_personOf {j w : Nat} (hR : MR h d) (hd : okD d) (hj : j < d_N d) (hw : w ≤ 2) : Re Γ mX10_personOf [.ref 57, .int (nI j), .int (nI w)] h sz (some (.int (peN d j w))) h sz := by
  refine x_enter 2 (by decide) rfl ?_
  obtain ⟨ll, ow, pr, kd, pl, r57, r60, r61, r62, r63, ro, rp⟩ := id hR
  have hH8 : d_H d ≤ 8 := (hN_ok hd.1.1).1
  have hP8 : d_N d ≤ 8 := (pN_ok hd.1.2.1).1
  refine x_k dX10_personOf_0 ?_
  refine x_istore dX10_personOf_1 (Nat.le_of_ble_eq_true rfl) rfl ?_
  refine x_k dX10_personOf_2 ?_
  refine x_istore dX10_personOf_3 (Nat.le_of_ble_eq_true rfl) rfl ?_
  refine (loopUp (P := fun p => Ex Γ mX10_personOf _ 0 0 5 [.ref 57, .int (nI j), .int (nI w), .int (nI (msk (fun i => decide (ownN (d_b0 d) i = j)) p)), .int (nI p)] [] h sz) (d_H d) ?_ (fun p hp ih => ?_) 0 (Nat.zero_le _))
  · have h3 : w = 0 ∨ w = 1 ∨ w = 2 := by omega
    rcases h3 with rfl | rfl | rfl
    · refine x_iload dX10_personOf_5 rfl ?_
      refine x_aload dX10_personOf_7 rfl ?_
      refine x_get fX10_96 dX10_personOf_8 (by first | assumption | rfl) ?_
      refine x_icmp_ge dX10_personOf_11 (fun b11 => ?_) (fun b11 => ?_)
      · refine x_iload dX10_personOf_42 rfl ?_
        refine x_if_ne dX10_personOf_43 (fun b43 => ?_) (fun b43 => ?_)
        · exact absurd b43 (by decide)
        · refine x_aload dX10_personOf_46 rfl ?_
          refine x_get fX10_22 dX10_personOf_47 (by first | assumption | rfl) ?_
          refine x_iload dX10_personOf_50 rfl ?_
          refine x_ialdn dX10_personOf_51 (by first | assumption | rfl) ⟨by first | omega | decide, by decide⟩ ?_
          refine x_goto dX10_personOf_52 ?_
          refine x_iret (ty := .int) dX10_personOf_70 rfl rfl (Nat.zero_le _) (Nat.zero_le _) ?_
          exact ⟨by rw [(rp j hj).1]; rfl, rfl, rfl⟩
      · exact absurd (Int32.le_refl _) b11
    · refine x_iload dX10_personOf_5 rfl ?_
      refine x_aload dX10_personOf_7 rfl ?_
      refine x_get fX10_96 dX10_personOf_8 (by first | assumption | rfl) ?_
      refine x_icmp_ge dX10_personOf_11 (fun b11 => ?_) (fun b11 => ?_)
      · refine x_iload dX10_personOf_42 rfl ?_
        refine x_if_ne dX10_personOf_43 (fun b43 => ?_) (fun b43 => ?_)
        · refine x_iload dX10_personOf_55 rfl ?_
          refine x_k dX10_personOf_56 ?_
          refine x_icmp_ne dX10_personOf_57 (fun b57 => ?_) (fun b57 => ?_)
          · exact absurd b57 (by decide)
          · refine x_aload dX10_personOf_60 rfl ?_
            refine x_get fX10_25 dX10_personOf_61 (by first | assumption | rfl) ?_
            refine x_iload dX10_personOf_64 rfl ?_
            refine x_ialdn dX10_personOf_65 (by first | assumption | rfl) ⟨by first | omega | decide, by decide⟩ ?_
            refine x_goto dX10_personOf_66 ?_
            refine x_iret (ty := .int) dX10_personOf_70 rfl rfl (Nat.zero_le _) (Nat.zero_le _) ?_
            exact ⟨by rw [(rp j hj).2]; rfl, rfl, rfl⟩
        · exact absurd b43 (by decide)
      · exact absurd (Int32.le_refl _) b11
    · refine x_iload dX10_personOf_5 rfl ?_
      refine x_aload dX10_personOf_7 rfl ?_
      refine x_get fX10_96 dX10_personOf_8 (by first | assumption | rfl) ?_
      refine x_icmp_ge dX10_personOf_11 (fun b11 => ?_) (fun b11 => ?_)
      · refine x_iload dX10_personOf_42 rfl ?_
        refine x_if_ne dX10_personOf_43 (fun b43 => ?_) (fun b43 => ?_)
        · refine x_iload dX10_personOf_55 rfl ?_
          refine x_k dX10_personOf_56 ?_
          refine x_icmp_ne dX10_personOf_57 (fun b57 => ?_) (fun b57 => ?_)
          · refine x_iload dX10_personOf_69 rfl ?_
            refine x_iret (ty := .int) dX10_personOf_70 rfl rfl (Nat.zero_le _) (Nat.zero_le _) ?_
            exact ⟨rfl, rfl, rfl⟩
          · exact absurd b57 (by decide)
        · exact absurd b43 (by decide)
      · exact absurd (Int32.le_refl _) b11
  · have hown := (ownN_ok hd.1.1 hp).2
    have hq : ow p = nI j ↔ ownN (d_b0 d) p = j := by rw [(ro p hp).1]; exact nI_eq (by omega) (by omega)
    rw [msk] at ih
    refine x_iload dX10_personOf_5 rfl ?_
    refine x_aload dX10_personOf_7 rfl ?_
    refine x_get fX10_96 dX10_personOf_8 (by first | assumption | rfl) ?_
    refine x_icmp_ge dX10_personOf_11 (fun b11 => ?_) (fun b11 => ?_)
    · exact absurd b11 (nI_ge hp (by omega))
    · refine x_iload dX10_personOf_14 rfl ?_
      refine x_aload dX10_personOf_15 rfl ?_
      refine x_get fX10_16 dX10_personOf_16 (by first | assumption | rfl) ?_
      refine x_iload dX10_personOf_19 rfl ?_
      refine x_ialdn dX10_personOf_21 (by first | assumption | rfl) ⟨by first | omega | decide, by decide⟩ ?_
      refine x_iload dX10_personOf_22 rfl ?_
      refine x_icmp_ne dX10_personOf_23 (fun b23 => ?_) (fun b23 => ?_)
      · refine x_k dX10_personOf_33 ?_
        refine x_ior dX10_personOf_34 ?_
        refine x_istore dX10_personOf_35 (Nat.le_of_ble_eq_true rfl) rfl ?_
        refine x_inc1 dX10_personOf_36 rfl (Nat.le_of_ble_eq_true rfl) rfl ?_
        refine x_goto dX10_personOf_39 ?_
        first
          | rw [orbit (by omega)]; rw [if_pos (decide_eq_true (hq.mp (Classical.not_not.mp b23)))] at ih; exact ih
          | rw [orbit (by omega)]; rw [if_pos (decide_eq_true (hq.mp b23))] at ih; exact ih
          | rw [if_neg (fun z => b23 (hq.mpr (of_decide_eq_true z)))] at ih; exact x_eq (by rw [Nat.or_zero]; simp) rfl rfl ih
      · refine x_k dX10_personOf_26 ?_
        refine x_iload dX10_personOf_27 rfl ?_
        refine x_ishl dX10_personOf_29 ?_
        refine x_goto dX10_personOf_30 ?_
        refine x_ior dX10_personOf_34 ?_
        refine x_istore dX10_personOf_35 (Nat.le_of_ble_eq_true rfl) rfl ?_
        refine x_inc1 dX10_personOf_36 rfl (Nat.le_of_ble_eq_true rfl) rfl ?_
        refine x_goto dX10_personOf_39 ?_
        first
          | rw [orbit (by omega)]; rw [if_pos (decide_eq_true (hq.mp (Classical.not_not.mp b23)))] at ih; exact ih
          | rw [orbit (by omega)]; rw [if_pos (decide_eq_true (hq.mp b23))] at ih; exact ih
          | rw [if_neg (fun z => b23 (hq.mpr (of_decide_eq_true z)))] at ih; exact x_eq (by rw [Nat.or_zero]; simp) rfl rfl ih
theorem m_house (t w : Int32) (hM : MW h d) (hd : okD d) : Rn Γ mX10_house [.ref 57, .int t, .int w] h sz (qM h sz d (aHouse d t w)) := by
  refine x_enter 0 (by decide) rfl ?_
  have h8 : d_H d ≤ 8 := (hN_ok hd.1.1).1
  obtain ⟨_, _, _, w57⟩ := hM.w57
  refine x_aload dX10_house_0 rfl ?_
  refine x_iload dX10_house_1 rfl ?_
  refine x_V1q lX10_121 (Rm.of rfl) (cc1 := 0) (cn1 := 0) rfl rfl (Nat.le_of_ble_eq_true rfl) dX10_house_2 (by first | assumption | rfl) (m_isHouse t hM hd) ?_
  rintro _ h1 _ ⟨rfl, rfl, hM1, hR1, hF1⟩
  obtain ⟨_, _, _, w57⟩ := hM1.w57
  refine x_if_eq dX10_house_5 (fun b5 => ?_) (fun b5 => ?_)
  · try simp only [i01, Classical.not_not] at b5
    refine x_k dX10_house_26 ?_
    refine x_iret (ty := .int) dX10_house_28 rfl rfl (Nat.zero_le _) (Nat.zero_le _) ?_
    refine ⟨?_, rfl, hM1, hF1⟩
    first
      | rw [aHouse, if_neg (fun z => b5 z.1)]
      | rw [aHouse, if_neg (fun z => b14 z.2)]
  · try simp only [i01, Classical.not_not] at b5
    refine x_iload dX10_house_8 rfl ?_
    refine x_k dX10_house_9 ?_
    refine x_k dX10_house_10 ?_
    refine x_S3i lX10_92 (Rm.of rfl) (cc1 := 0) (cn1 := 0) rfl rfl (Nat.le_of_ble_eq_true rfl) dX10_house_11 (r_in w 0 2) ?_
    refine x_if_eq dX10_house_14 (fun b14 => ?_) (fun b14 => ?_)
    · try simp only [i01, Classical.not_not] at b14
      refine x_k dX10_house_26 ?_
      refine x_iret (ty := .int) dX10_house_28 rfl rfl (Nat.zero_le _) (Nat.zero_le _) ?_
      refine ⟨?_, rfl, hM1, hF1⟩
      first
        | rw [aHouse, if_neg (fun z => b5 z.1)]
        | rw [aHouse, if_neg (fun z => b14 z.2)]
    · try simp only [i01, Classical.not_not] at b14
      obtain ⟨i, hi, rfl⟩ := below b5.1 b5.2 (by omega)
      obtain ⟨j, hj, rfl⟩ := upto (n := 2) b14.1 b14.2 (by omega)
      refine x_aload dX10_house_17 rfl ?_
      refine x_iload dX10_house_18 rfl ?_
      refine x_iload dX10_house_19 rfl ?_
      refine x_V2i lX10_125 (Rm.of rfl) (cc1 := 0) (cn1 := 0) rfl rfl (Nat.le_of_ble_eq_true rfl) dX10_house_20 (by first | assumption | rfl) (m_houseOf hR1 hd hi hj) ?_
      refine x_goto dX10_house_23 ?_
      refine x_iret (ty := .int) dX10_house_28 rfl rfl (Nat.zero_le _) (Nat.zero_le _) ?_
      exact ⟨by rw [aHouse, if_pos ⟨b5, b14⟩, nI_clamp (by omega), nI_clamp (by omega)], rfl, hM1, hF1⟩
theorem m_person (t w : Int32) (hM : MW h d) (hd : okD d) : Rn Γ mX10_person [.ref 57, .int t, .int w] h sz (qM h sz d (aPerson d t w)) := by
  refine x_enter 0 (by decide) rfl ?_
  have h8 : d_N d ≤ 8 := (pN_ok hd.1.2.1).1
  obtain ⟨_, _, _, w57⟩ := hM.w57
  refine x_aload dX10_person_0 rfl ?_
  refine x_iload dX10_person_1 rfl ?_
  refine x_V1q lX10_128 (Rm.of rfl) (cc1 := 0) (cn1 := 0) rfl rfl (Nat.le_of_ble_eq_true rfl) dX10_person_2 (by first | assumption | rfl) (m_isPerson t hM hd) ?_
  rintro _ h1 _ ⟨rfl, rfl, hM1, hR1, hF1⟩
  obtain ⟨_, _, _, w57⟩ := hM1.w57
  refine x_if_eq dX10_person_5 (fun b5 => ?_) (fun b5 => ?_)
  · try simp only [i01, Classical.not_not] at b5
    refine x_k dX10_person_26 ?_
    refine x_iret (ty := .int) dX10_person_28 rfl rfl (Nat.zero_le _) (Nat.zero_le _) ?_
    refine ⟨?_, rfl, hM1, hF1⟩
    first
      | rw [aPerson, if_neg (fun z => b5 z.1)]
      | rw [aPerson, if_neg (fun z => b14 z.2)]
  · try simp only [i01, Classical.not_not] at b5
    refine x_iload dX10_person_8 rfl ?_
    refine x_k dX10_person_9 ?_
    refine x_k dX10_person_10 ?_
    refine x_S3i lX10_92 (Rm.of rfl) (cc1 := 0) (cn1 := 0) rfl rfl (Nat.le_of_ble_eq_true rfl) dX10_person_11 (r_in w 0 2) ?_
    refine x_if_eq dX10_person_14 (fun b14 => ?_) (fun b14 => ?_)
    · try simp only [i01, Classical.not_not] at b14
      refine x_k dX10_person_26 ?_
      refine x_iret (ty := .int) dX10_person_28 rfl rfl (Nat.zero_le _) (Nat.zero_le _) ?_
      refine ⟨?_, rfl, hM1, hF1⟩
      first
        | rw [aPerson, if_neg (fun z => b5 z.1)]
        | rw [aPerson, if_neg (fun z => b14 z.2)]
    · try simp only [i01, Classical.not_not] at b14
      obtain ⟨i, hi, rfl⟩ := below b5.1 b5.2 (by omega)
      obtain ⟨j, hj, rfl⟩ := upto (n := 2) b14.1 b14.2 (by omega)
      refine x_aload dX10_person_17 rfl ?_
      refine x_iload dX10_person_18 rfl ?_
      refine x_iload dX10_person_19 rfl ?_
      refine x_V2i lX10_131 (Rm.of rfl) (cc1 := 0) (cn1 := 0) rfl rfl (Nat.le_of_ble_eq_true rfl) dX10_person_20 (by first | assumption | rfl) (m_personOf hR1 hd hi hj) ?_
      refine x_goto dX10_person_23 ?_
      refine x_iret (ty := .int) dX10_person_28 rfl rfl (Nat.zero_le _) (Nat.zero_le _) ?_
      exact ⟨by rw [aPerson, if_pos ⟨b5, b14⟩, nI_clamp (by omega), nI_clamp (by omega)], rfl, hM1, hF1⟩
theorem m_faultOf0 (hM : MW h d) (hd : okD d) : Rn Γ mX10_faultOf [.ref 57, .int (nI 0)] h sz (qM h sz d (fauH (d_n0 d) (d_b0 d))) := by
  refine x_enter 0 (by decide) rfl ?_
  obtain ⟨hs, pe, ll, ty, tx, ow, pr, kd, pl, lw, wh, os, kp, tm, ls, lk, af, wt, be, th, fr, it, mv, ⟨a57, a58, a59, a60, a61, a62, a63⟩, a2, a3, a4, ⟨t0, t1, t2, t3⟩, a6, a7, a8⟩ := id hM
  obtain ⟨⟨n0, n1, -, -⟩, -⟩ := id hd
  have c0 : ∀ i, i < d_n0 d → tx i = d_b0 d i := fun i hi => t2 i (by omega)
  refine x_iload dX10_faultOf_0 rfl ?_
  refine x_if_ne dX10_faultOf_1 (fun b1 => ?_) (fun b1 => ?_)
  · exact absurd b1 (by decide)
  · refine x_aload dX10_faultOf_4 rfl ?_
    refine x_V0q lX10_107 (Rm.of rfl) (cc1 := 0) (cn1 := 0) rfl rfl (Nat.le_of_ble_eq_true rfl) dX10_faultOf_5 (by first | assumption | rfl) (r_readsHouses a57 a58 a59 a60 a61 t0 n0) ?_
    rintro _ _ _ ⟨rfl, rfl, ow2, pr2, rfl, hst⟩
    refine x_goto dX10_faultOf_8 ?_
    refine x_iret (ty := .int) dX10_faultOf_15 rfl rfl (Nat.zero_le _) (Nat.zero_le _) ?_
    exact ⟨by rw [fauH_congr c0], rfl, ⟨_, pe, ll, ty, tx, ow2, pr2, kd, pl, lw, wh, os, kp, tm, ls, lk, af, wt, be, th, fr, it, mv, ⟨rfl, a58, a59, rfl, rfl, a62, a63⟩, a2, a3, a4, ⟨t0, t1, t2, t3⟩, a6, a7, a8⟩, (by intro k hk; simp only [va_up]; (repeat' split) <;> first | rfl | omega)⟩
theorem m_faultOf1 (hM : MW h d) (hd : okD d) : Rn Γ mX10_faultOf [.ref 57, .int (nI 1)] h sz (qM h sz d (fauP (d_n1 d) (d_b1 d))) := by
  refine x_enter 0 (by decide) rfl ?_
  obtain ⟨hs, pe, ll, ty, tx, ow, pr, kd, pl, lw, wh, os, kp, tm, ls, lk, af, wt, be, th, fr, it, mv, ⟨a57, a58, a59, a60, a61, a62, a63⟩, a2, a3, a4, ⟨t0, t1, t2, t3⟩, a6, a7, a8⟩ := id hM
  obtain ⟨⟨n0, n1, -, -⟩, -⟩ := id hd
  have c1 : ∀ i, i < d_n1 d → (fun i => tx (30 + i)) i = d_b1 d i := fun i hi => t3 i (by omega)
  refine x_iload dX10_faultOf_0 rfl ?_
  refine x_if_ne dX10_faultOf_1 (fun b1 => ?_) (fun b1 => ?_)
  · refine x_aload dX10_faultOf_11 rfl ?_
    refine x_V0q lX10_111 (Rm.of rfl) (cc1 := 0) (cn1 := 0) rfl rfl (Nat.le_of_ble_eq_true rfl) dX10_faultOf_12 (by first | assumption | rfl) (r_readsPeople (b := fun i => tx (30 + i)) rfl a57 a58 a59 a62 a63 t1 n1) ?_
    rintro _ _ _ ⟨rfl, rfl, kd2, pl2, rfl, hst⟩
    refine x_iret (ty := .int) dX10_faultOf_15 rfl rfl (Nat.zero_le _) (Nat.zero_le _) ?_
    exact ⟨by rw [fauP_congr c1], rfl, ⟨hs, _, ll, ty, tx, ow, pr, kd2, pl2, lw, wh, os, kp, tm, ls, lk, af, wt, be, th, fr, it, mv, ⟨rfl, a58, a59, a60, a61, rfl, rfl⟩, a2, a3, a4, ⟨t0, t1, t2, t3⟩, a6, a7, a8⟩, (by intro k hk; simp only [va_up]; (repeat' split) <;> first | rfl | omega)⟩
  · exact absurd b1 (by decide)
theorem m_fault (t : Int32) (hM : MW h d) (hd : okD d) : Rn Γ mX10_fault [.ref 57, .int t] h sz (qM h sz d (aFault d t)) := by
  refine x_enter 0 (by decide) rfl ?_
  obtain ⟨_, _, _, w57⟩ := hM.w57
  have J9 : cText t → Ex Γ mX10_fault (gx_Z Γ mX10_fault (qM h sz d (aFault d t))) 0 0 9 [.ref 57, .int t] [] h sz := by
    intro hc
    obtain ⟨i, hi, rfl⟩ := upto (n := 1) hc.1 hc.2 (by omega)
    have h01 : i = 0 ∨ i = 1 := by omega
    rcases h01 with rfl | rfl
    · rw [aFault, if_pos hc, if_pos n00]
      refine x_aload dX10_fault_9 rfl ?_
      refine x_iload dX10_fault_10 rfl ?_
      refine x_V1q lX10_114 (Rm.of rfl) (cc1 := 0) (cn1 := 0) rfl rfl (Nat.le_of_ble_eq_true rfl) dX10_fault_11 (by first | assumption | rfl) (m_faultOf0 hM hd) ?_
      rintro _ h1 _ ⟨rfl, rfl, hM1, hF1⟩
      refine x_goto dX10_fault_14 ?_
      refine x_iret (ty := .int) dX10_fault_19 rfl rfl (Nat.zero_le _) (Nat.zero_le _) ?_
      exact ⟨rfl, rfl, hM1, hF1⟩
    · rw [aFault, if_pos hc, if_neg n10]
      refine x_aload dX10_fault_9 rfl ?_
      refine x_iload dX10_fault_10 rfl ?_
      refine x_V1q lX10_114 (Rm.of rfl) (cc1 := 0) (cn1 := 0) rfl rfl (Nat.le_of_ble_eq_true rfl) dX10_fault_11 (by first | assumption | rfl) (m_faultOf1 hM hd) ?_
      rintro _ h1 _ ⟨rfl, rfl, hM1, hF1⟩
      refine x_goto dX10_fault_14 ?_
      refine x_iret (ty := .int) dX10_fault_19 rfl rfl (Nat.zero_le _) (Nat.zero_le _) ?_
      exact ⟨rfl, rfl, hM1, hF1⟩
  refine x_iload dX10_fault_0 rfl ?_
  refine x_k dX10_fault_1 ?_
  refine x_k dX10_fault_2 ?_
  refine x_S3i lX10_92 (Rm.of rfl) (cc1 := 0) (cn1 := 0) rfl rfl (Nat.le_of_ble_eq_true rfl) dX10_fault_3 (r_in t 0 1) ?_
  refine x_if_eq dX10_fault_6 (fun b6 => ?_) (fun b6 => ?_)
  · try simp only [i01, Classical.not_not] at b6
    refine x_k dX10_fault_17 ?_
    refine x_iret (ty := .int) dX10_fault_19 rfl rfl (Nat.zero_le _) (Nat.zero_le _) ?_
    exact ⟨by rw [aFault, if_neg b6], rfl, hM, fun _ _ => rfl⟩
  · try simp only [i01, Classical.not_not] at b6
    exact J9 b6
end Look
