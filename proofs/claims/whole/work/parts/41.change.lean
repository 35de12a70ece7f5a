/-! change -/
abbrev chP (d : DT) (a b : Nat) : Prop := ownN (d_b0 d) a ≠ ownN (d_b0 d) b ∧ vlN d a (ownN (d_b0 d) a) < vlN d b (ownN (d_b0 d) a) ∧ vlN d b (ownN (d_b0 d) b) < vlN d a (ownN (d_b0 d) b)
abbrev cCh (d : DT) (t u : Int32) : Prop := (0 ≤ t ∧ t < nI (d_H d)) ∧ (0 ≤ u ∧ u < nI (d_H d)) ∧ t ≠ u
def aChange (d : DT) (t u : Int32) : Int32 := if cCh d t u then bI (chP d t.toNatClampNeg u.toNatClampNeg) else -2
section Chg
variable {Γ : GX} {h : Hp} {sz : Nat} {d : DT}
theorem c_changeOk {i j : Nat} (hX : XW h sz d) (hd : okD d) (hi : i < d_H d) (hj : j < d_H d) : Ex Γ mX9_change (gx_Z Γ mX9_change (qW h sz d (bI (chP d i j)))) 0 0 24 [.ref 4, .int (nI i), .int (nI j), .retAddr 0, .retAddr 0, .retAddr 0] [] h sz := by
  obtain ⟨hA, hK, hR, hD⟩ := id hX
  obtain ⟨ow, pr, od, kd, sp, ins, a1, ⟨a10, a11, a12, a13, a14, a15, a16⟩, a3, a4, a5, a6, f1, f2, f3, f4⟩ := id hA
  obtain ⟨ss, h4⟩ := hK.w4
  have hH8 : d_H d ≤ 8 := (hN_ok hd.1.1).1
  have oi := (ownN_ok hd.1.1 hi).2
  have oj := (ownN_ok hd.1.1 hj).2
  have e0 : nI (ownN (d_b0 d) i) = nI (ownN (d_b0 d) j) ↔ ownN (d_b0 d) i = ownN (d_b0 d) j := nI_eq (by omega) (by omega)
  have J88 : ∀ v : Int32, v = bI (chP d i j) → Ex Γ mX9_change (gx_Z Γ mX9_change (qW h sz d (bI (chP d i j)))) 0 0 88 [.ref 4, .int (nI i), .int (nI j), .int (nI (ownN (d_b0 d) i)), .int (nI (ownN (d_b0 d) j)), .retAddr 0] [.int v] h sz := by
    intro v hv
    rw [← hv]
    have h01 : v = 0 ∨ v = 1 := by rw [hv, bI]; split <;> simp
    rcases h01 with rfl | rfl
    · refine x_istore dX9_change_88 (Nat.le_of_ble_eq_true rfl) rfl ?_
      refine x_iload dX9_change_90 rfl ?_
      refine x_if_eq dX9_change_92 (fun b92 => ?_) (fun b92 => ?_)
      · refine x_k dX9_change_99 ?_
        refine x_iret (ty := .int) dX9_change_100 rfl rfl (Nat.zero_le _) (Nat.zero_le _) ?_
        exact ⟨rfl, Nat.le_refl _, hX, fun _ _ => rfl⟩
      · exact absurd b92 (by decide)
    · refine x_istore dX9_change_88 (Nat.le_of_ble_eq_true rfl) rfl ?_
      refine x_iload dX9_change_90 rfl ?_
      refine x_if_eq dX9_change_92 (fun b92 => ?_) (fun b92 => ?_)
      · exact absurd b92 (by decide)
      · refine x_k dX9_change_95 ?_
        refine x_goto dX9_change_96 ?_
        refine x_iret (ty := .int) dX9_change_100 rfl rfl (Nat.zero_le _) (Nat.zero_le _) ?_
        exact ⟨rfl, Nat.le_refl _, hX, fun _ _ => rfl⟩
  have J45 : Ex Γ mX9_change (gx_Z Γ mX9_change (qW h sz d (bI (chP d i j)))) 0 0 45 [.ref 4, .int (nI i), .int (nI j), .int (nI (ownN (d_b0 d) i)), .int (nI (ownN (d_b0 d) j)), .retAddr 0] [] h sz := by
    refine x_iload dX9_change_45 rfl ?_
    refine x_iload dX9_change_46 rfl ?_
    refine x_icmp_eq dX9_change_48 (fun b48 => ?_) (fun b48 => ?_)
    · refine x_k dX9_change_87 ?_
      refine J88 _ ?_
      first
        | exact (if_pos ⟨fun e => b48 (e0.mpr e), Int32.not_le.mp b63, Int32.not_le.mp b80⟩).symm
        | exact (if_neg (fun z => Int32.not_le.mpr z.2.2 b80)).symm
        | exact (if_neg (fun z => Int32.not_le.mpr z.2.1 b63)).symm
        | exact (if_neg (fun z => z.1 (e0.mp b48))).symm
    · refine x_aload dX9_change_51 rfl ?_
      refine x_iload dX9_change_52 rfl ?_
      refine x_iload dX9_change_53 rfl ?_
      refine x_V2i lX9_245 (Rm.of rfl) (cc1 := 0) (cn1 := 0) rfl rfl (Nat.le_of_ble_eq_true rfl) dX9_change_54 (by first | assumption | rfl) (x_valueTo hA hK hd hj oi) ?_
      refine x_aload dX9_change_57 rfl ?_
      refine x_iload dX9_change_58 rfl ?_
      refine x_iload dX9_change_59 rfl ?_
      refine x_V2i lX9_245 (Rm.of rfl) (cc1 := 0) (cn1 := 0) rfl rfl (Nat.le_of_ble_eq_true rfl) dX9_change_60 (by first | assumption | rfl) (x_valueTo hA hK hd hi oi) ?_
      refine x_icmp_le dX9_change_63 (fun b63 => ?_) (fun b63 => ?_)
      · refine x_k dX9_change_87 ?_
        refine J88 _ ?_
        first
          | exact (if_pos ⟨fun e => b48 (e0.mpr e), Int32.not_le.mp b63, Int32.not_le.mp b80⟩).symm
          | exact (if_neg (fun z => Int32.not_le.mpr z.2.2 b80)).symm
          | exact (if_neg (fun z => Int32.not_le.mpr z.2.1 b63)).symm
          | exact (if_neg (fun z => z.1 (e0.mp b48))).symm
      · refine x_aload dX9_change_66 rfl ?_
        refine x_iload dX9_change_67 rfl ?_
        refine x_iload dX9_change_68 rfl ?_
        refine x_V2i lX9_245 (Rm.of rfl) (cc1 := 0) (cn1 := 0) rfl rfl (Nat.le_of_ble_eq_true rfl) dX9_change_70 (by first | assumption | rfl) (x_valueTo hA hK hd hi oj) ?_
        refine x_aload dX9_change_73 rfl ?_
        refine x_iload dX9_change_74 rfl ?_
        refine x_iload dX9_change_75 rfl ?_
        refine x_V2i lX9_245 (Rm.of rfl) (cc1 := 0) (cn1 := 0) rfl rfl (Nat.le_of_ble_eq_true rfl) dX9_change_77 (by first | assumption | rfl) (x_valueTo hA hK hd hj oj) ?_
        refine x_icmp_le dX9_change_80 (fun b80 => ?_) (fun b80 => ?_)
        · refine x_k dX9_change_87 ?_
          refine J88 _ ?_
          first
            | exact (if_pos ⟨fun e => b48 (e0.mpr e), Int32.not_le.mp b63, Int32.not_le.mp b80⟩).symm
            | exact (if_neg (fun z => Int32.not_le.mpr z.2.2 b80)).symm
            | exact (if_neg (fun z => Int32.not_le.mpr z.2.1 b63)).symm
            | exact (if_neg (fun z => z.1 (e0.mp b48))).symm
        · refine x_k dX9_change_83 ?_
          refine x_goto dX9_change_84 ?_
          refine J88 _ ?_
          first
            | exact (if_pos ⟨fun e => b48 (e0.mpr e), Int32.not_le.mp b63, Int32.not_le.mp b80⟩).symm
            | exact (if_neg (fun z => Int32.not_le.mpr z.2.2 b80)).symm
            | exact (if_neg (fun z => Int32.not_le.mpr z.2.1 b63)).symm
            | exact (if_neg (fun z => z.1 (e0.mp b48))).symm
  refine x_aload dX9_change_24 rfl ?_
  refine x_get fX9_21 dX9_change_25 (by first | assumption | rfl) ?_
  refine x_get fX9_105 dX9_change_28 (by first | assumption | rfl) ?_
  refine x_iload dX9_change_31 rfl ?_
  refine x_ialdn dX9_change_32 (by first | assumption | rfl) ⟨by first | omega | decide, by decide⟩ ?_
  refine x_istore dX9_change_33 (Nat.le_of_ble_eq_true rfl) rfl ?_
  refine x_aload dX9_change_34 rfl ?_
  refine x_get fX9_21 dX9_change_35 (by first | assumption | rfl) ?_
  refine x_get fX9_105 dX9_change_38 (by first | assumption | rfl) ?_
  refine x_iload dX9_change_41 rfl ?_
  refine x_ialdn dX9_change_42 (by first | assumption | rfl) ⟨by first | omega | decide, by decide⟩ ?_
  refine x_istore dX9_change_43 (Nat.le_of_ble_eq_true rfl) rfl ?_
  exact x_eq (by rw [(f1 i hi).1, (f1 j hj).1]; rfl) rfl rfl J45
theorem c_change (t u : Int32) (hX : XW h sz d) (hd : okD d) : Rn Γ mX9_change [.ref 4, .int t, .int u] h sz (qW h sz d (aChange d t u)) := by
  refine x_enter 3 (by decide) rfl ?_
  obtain ⟨hA, hK, hR, hD⟩ := id hX
  obtain ⟨ow, pr, od, kd, sp, ins, a1, ⟨a10, -⟩, -⟩ := id hA
  obtain ⟨ss, h4⟩ := hK.w4
  have hH8 : d_H d ≤ 8 := (hN_ok hd.1.1).1
  have J24 : cCh d t u → Ex Γ mX9_change (gx_Z Γ mX9_change (qW h sz d (aChange d t u))) 0 0 24 [.ref 4, .int t, .int u, .retAddr 0, .retAddr 0, .retAddr 0] [] h sz := by
    intro hc
    obtain ⟨i, hi, rfl⟩ := below hc.1.1 hc.1.2 (by omega)
    obtain ⟨j, hj, rfl⟩ := below hc.2.1.1 hc.2.1.2 (by omega)
    rw [aChange, if_pos hc, nI_clamp (by omega), nI_clamp (by omega)]
    exact c_changeOk hX hd hi hj
  refine x_aload dX9_change_0 rfl ?_
  refine x_iload dX9_change_1 rfl ?_
  refine x_V1i lX9_102 (Rm.of rfl) (cc1 := 0) (cn1 := 0) rfl rfl (Nat.le_of_ble_eq_true rfl) dX9_change_2 (by first | assumption | rfl) (r_noHouse h4 a10 t) ?_
  refine x_if_ne dX9_change_5 (fun b5 => ?_) (fun b5 => ?_)
  · try simp only [i01, Classical.not_not] at b5
    refine x_k dX9_change_21 ?_
    refine x_iret (ty := .int) dX9_change_23 rfl rfl (Nat.zero_le _) (Nat.zero_le _) ?_
    have hc : ¬ cCh d t u := by
      rintro ⟨z1, z2, z3⟩
      first
        | exact z3 (Classical.not_not.mp b18)
        | exact z3 b18
        | exact b13.elim (fun y => Int32.not_lt.mpr z2.1 y) (fun y => Int32.not_le.mpr z2.2 y)
        | exact b5.elim (fun y => Int32.not_lt.mpr z1.1 y) (fun y => Int32.not_le.mpr z1.2 y)
    exact ⟨by rw [aChange, if_neg hc], Nat.le_refl _, hX, fun _ _ => rfl⟩
  · try simp only [i01, Classical.not_not] at b5
    refine x_aload dX9_change_8 rfl ?_
    refine x_iload dX9_change_9 rfl ?_
    refine x_V1i lX9_102 (Rm.of rfl) (cc1 := 0) (cn1 := 0) rfl rfl (Nat.le_of_ble_eq_true rfl) dX9_change_10 (by first | assumption | rfl) (r_noHouse h4 a10 u) ?_
    refine x_if_ne dX9_change_13 (fun b13 => ?_) (fun b13 => ?_)
    · try simp only [i01, Classical.not_not] at b13
      refine x_k dX9_change_21 ?_
      refine x_iret (ty := .int) dX9_change_23 rfl rfl (Nat.zero_le _) (Nat.zero_le _) ?_
      have hc : ¬ cCh d t u := by
        rintro ⟨z1, z2, z3⟩
        first
          | exact z3 (Classical.not_not.mp b18)
          | exact z3 b18
          | exact b13.elim (fun y => Int32.not_lt.mpr z2.1 y) (fun y => Int32.not_le.mpr z2.2 y)
          | exact b5.elim (fun y => Int32.not_lt.mpr z1.1 y) (fun y => Int32.not_le.mpr z1.2 y)
      exact ⟨by rw [aChange, if_neg hc], Nat.le_refl _, hX, fun _ _ => rfl⟩
    · try simp only [i01, Classical.not_not] at b13
      refine x_iload dX9_change_16 rfl ?_
      refine x_iload dX9_change_17 rfl ?_
      refine x_icmp_ne dX9_change_18 (fun b18 => ?_) (fun b18 => ?_)
      · exact J24 ⟨⟨Int32.not_lt.mp (fun y => b5 (Or.inl y)), Int32.not_le.mp (fun y => b5 (Or.inr y))⟩, ⟨Int32.not_lt.mp (fun y => b13 (Or.inl y)), Int32.not_le.mp (fun y => b13 (Or.inr y))⟩, b18⟩
      · refine x_k dX9_change_21 ?_
        refine x_iret (ty := .int) dX9_change_23 rfl rfl (Nat.zero_le _) (Nat.zero_le _) ?_
        have hc : ¬ cCh d t u := by
          rintro ⟨z1, z2, z3⟩
          first
            | exact z3 (Classical.not_not.mp b18)
            | exact z3 b18
            | exact b13.elim (fun y => Int32.not_lt.mpr z2.1 y) (fun y => Int32.not_le.mpr z2.2 y)
            | exact b5.elim (fun y => Int32.not_lt.mpr z1.1 y) (fun y => Int32.not_le.mpr z1.2 y)
        exact ⟨by rw [aChange, if_neg hc], Nat.le_refl _, hX, fun _ _ => rfl⟩
theorem m_isChange {i j : Nat} (hR : MR h d) (h72 : h 72 = ia 64 (d_w d)) (hd : okD d) (hi : i < d_H d) (hj : j < d_H d) : Re Γ mX10_isChange [.ref 57, .int (nI i), .int (nI j)] h sz (some (.int (bI (chP d i j)))) h sz := by
  refine x_enter 2 (by decide) rfl ?_
  obtain ⟨ll, ow, pr, kd, pl, r57, r60, r61, r62, r63, ro, rp⟩ := id hR
  have hH8 : d_H d ≤ 8 := (hN_ok hd.1.1).1
  have oi := (ownN_ok hd.1.1 hi).2
  have oj := (ownN_ok hd.1.1 hj).2
  have e0 : nI (ownN (d_b0 d) i) = nI (ownN (d_b0 d) j) ↔ ownN (d_b0 d) i = ownN (d_b0 d) j := nI_eq (by omega) (by omega)
  have J15 : Ex Γ mX10_isChange (gx_Z Γ mX10_isChange (fun r' h' sz' => r' = some (.int (bI (chP d i j))) ∧ h' = h ∧ sz' = sz)) 0 0 15 [.ref 57, .int (nI i), .int (nI j), .int (nI (ownN (d_b0 d) i)), .int (nI (ownN (d_b0 d) j))] [] h sz := by
    refine x_iload dX10_isChange_15 rfl ?_
    refine x_iload dX10_isChange_16 rfl ?_
    refine x_icmp_eq dX10_isChange_18 (fun b18 => ?_) (fun b18 => ?_)
    · refine x_k dX10_isChange_57 ?_
      refine x_iret (ty := .boolean) dX10_isChange_58 rfl (by first | rfl | exact nzb) (Nat.zero_le _) (Nat.zero_le _) ?_
      refine ⟨?_, rfl, rfl⟩
      first
        | exact congrArg (fun v => some (Value.int v)) (if_pos ⟨fun e => b18 (e0.mpr e), Int32.not_le.mp b33, Int32.not_le.mp b50⟩).symm
        | exact congrArg (fun v => some (Value.int v)) (if_neg (fun z => Int32.not_le.mpr z.2.2 b50)).symm
        | exact congrArg (fun v => some (Value.int v)) (if_neg (fun z => Int32.not_le.mpr z.2.1 b33)).symm
        | exact congrArg (fun v => some (Value.int v)) (if_neg (fun z => z.1 (e0.mp b18))).symm
    · refine x_aload dX10_isChange_21 rfl ?_
      refine x_iload dX10_isChange_22 rfl ?_
      refine x_iload dX10_isChange_23 rfl ?_
      refine x_V2i lX10_208 (Rm.of rfl) (cc1 := 0) (cn1 := 0) rfl rfl (Nat.le_of_ble_eq_true rfl) dX10_isChange_24 (by first | assumption | rfl) (m_valueOf hR h72 hd hj oi) ?_
      refine x_aload dX10_isChange_27 rfl ?_
      refine x_iload dX10_isChange_28 rfl ?_
      refine x_iload dX10_isChange_29 rfl ?_
      refine x_V2i lX10_208 (Rm.of rfl) (cc1 := 0) (cn1 := 0) rfl rfl (Nat.le_of_ble_eq_true rfl) dX10_isChange_30 (by first | assumption | rfl) (m_valueOf hR h72 hd hi oi) ?_
      refine x_icmp_le dX10_isChange_33 (fun b33 => ?_) (fun b33 => ?_)
      · refine x_k dX10_isChange_57 ?_
        refine x_iret (ty := .boolean) dX10_isChange_58 rfl (by first | rfl | exact nzb) (Nat.zero_le _) (Nat.zero_le _) ?_
        refine ⟨?_, rfl, rfl⟩
        first
          | exact congrArg (fun v => some (Value.int v)) (if_pos ⟨fun e => b18 (e0.mpr e), Int32.not_le.mp b33, Int32.not_le.mp b50⟩).symm
          | exact congrArg (fun v => some (Value.int v)) (if_neg (fun z => Int32.not_le.mpr z.2.2 b50)).symm
          | exact congrArg (fun v => some (Value.int v)) (if_neg (fun z => Int32.not_le.mpr z.2.1 b33)).symm
          | exact congrArg (fun v => some (Value.int v)) (if_neg (fun z => z.1 (e0.mp b18))).symm
      · refine x_aload dX10_isChange_36 rfl ?_
        refine x_iload dX10_isChange_37 rfl ?_
        refine x_iload dX10_isChange_38 rfl ?_
        refine x_V2i lX10_208 (Rm.of rfl) (cc1 := 0) (cn1 := 0) rfl rfl (Nat.le_of_ble_eq_true rfl) dX10_isChange_40 (by first | assumption | rfl) (m_valueOf hR h72 hd hi oj) ?_
        refine x_aload dX10_isChange_43 rfl ?_
        refine x_iload dX10_isChange_44 rfl ?_
        refine x_iload dX10_isChange_45 rfl ?_
        refine x_V2i lX10_208 (Rm.of rfl) (cc1 := 0) (cn1 := 0) rfl rfl (Nat.le_of_ble_eq_true rfl) dX10_isChange_47 (by first | assumption | rfl) (m_valueOf hR h72 hd hj oj) ?_
        refine x_icmp_le dX10_isChange_50 (fun b50 => ?_) (fun b50 => ?_)
        · refine x_k dX10_isChange_57 ?_
          refine x_iret (ty := .boolean) dX10_isChange_58 rfl (by first | rfl | exact nzb) (Nat.zero_le _) (Nat.zero_le _) ?_
          refine ⟨?_, rfl, rfl⟩
          first
            | exact congrArg (fun v => some (Value.int v)) (if_pos ⟨fun e => b18 (e0.mpr e), Int32.not_le.mp b33, Int32.not_le.mp b50⟩).symm
            | exact congrArg (fun v => some (Value.int v)) (if_neg (fun z => Int32.not_le.mpr z.2.2 b50)).symm
            | exact congrArg (fun v => some (Value.int v)) (if_neg (fun z => Int32.not_le.mpr z.2.1 b33)).symm
            | exact congrArg (fun v => some (Value.int v)) (if_neg (fun z => z.1 (e0.mp b18))).symm
        · refine x_k dX10_isChange_53 ?_
          refine x_goto dX10_isChange_54 ?_
          refine x_iret (ty := .boolean) dX10_isChange_58 rfl (by first | rfl | exact nzb) (Nat.zero_le _) (Nat.zero_le _) ?_
          refine ⟨?_, rfl, rfl⟩
          first
            | exact congrArg (fun v => some (Value.int v)) (if_pos ⟨fun e => b18 (e0.mpr e), Int32.not_le.mp b33, Int32.not_le.mp b50⟩).symm
            | exact congrArg (fun v => some (Value.int v)) (if_neg (fun z => Int32.not_le.mpr z.2.2 b50)).symm
            | exact congrArg (fun v => some (Value.int v)) (if_neg (fun z => Int32.not_le.mpr z.2.1 b33)).symm
            | exact congrArg (fun v => some (Value.int v)) (if_neg (fun z => z.1 (e0.mp b18))).symm
  refine x_aload dX10_isChange_0 rfl ?_
  refine x_get fX10_16 dX10_isChange_1 (by first | assumption | rfl) ?_
  refine x_iload dX10_isChange_4 rfl ?_
  refine x_ialdn dX10_isChange_5 (by first | assumption | rfl) ⟨by first | omega | decide, by decide⟩ ?_
  refine x_istore dX10_isChange_6 (Nat.le_of_ble_eq_true rfl) rfl ?_
  refine x_aload dX10_isChange_7 rfl ?_
  refine x_get fX10_16 dX10_isChange_8 (by first | assumption | rfl) ?_
  refine x_iload dX10_isChange_11 rfl ?_
  refine x_ialdn dX10_isChange_12 (by first | assumption | rfl) ⟨by first | omega | decide, by decide⟩ ?_
  refine x_istore dX10_isChange_13 (Nat.le_of_ble_eq_true rfl) rfl ?_
  exact x_eq (by rw [(ro i hi).1, (ro j hj).1]; rfl) rfl rfl J15
end Chg
