/-! count -/
noncomputable def sumS (d : DT) : Int32 := accF 0 (fun p => nI ((d_run d (d_ns d)).2.2.1 p)) (d_N d)
def sumK (d : DT) : Int32 := accF 0 (fun p => if kinN (d_b1 d) p = 2 then 1 else 0) (d_N d)
noncomputable def aCount (d : DT) (t : Int32) : Int32 := if t = 0 then nI (d_H d) else if t = 1 then nI (d_N d) else if t = 2 then nI (d_n0 d) else if t = 3 then nI (d_n1 d) else if t = 4 then nI (d_ns d) else if t = 5 then nI (d_nf d) else if t = 6 then sumS d else if t = 7 then sumK d else if t = 8 then d_fi d else -2
theorem out08 {t : Int32} (h0 : ¬ t = 0) (h1 : ¬ t = 1) (h2 : ¬ t = 2) (h3 : ¬ t = 3) (h4 : ¬ t = 4) (h5 : ¬ t = 5) (h6 : ¬ t = 6) (h7 : ¬ t = 7) (h8 : ¬ t = 8) : t.toInt < 0 ∨ 8 < t.toInt := by
  apply Classical.byContradiction
  intro z
  obtain ⟨k, hk, rfl⟩ := upto (x := t) (n := 8) (by rw [Int32.le_iff_toInt_le]; show 0 ≤ t.toInt; omega) (by rw [Int32.le_iff_toInt_le]; show t.toInt ≤ 8; omega) (by omega)
  have : k = 0 ∨ k = 1 ∨ k = 2 ∨ k = 3 ∨ k = 4 ∨ k = 5 ∨ k = 6 ∨ k = 7 ∨ k = 8 := by omega
  rcases this with rfl | rfl | rfl | rfl | rfl | rfl | rfl | rfl | rfl
  · exact h0 rfl
  · exact h1 rfl
  · exact h2 rfl
  · exact h3 rfl
  · exact h4 rfl
  · exact h5 rfl
  · exact h6 rfl
  · exact h7 rfl
  · exact h8 rfl
section Cnt
variable {Γ : GX} {h : Hp} {sz : Nat} {d : DT}
theorem c_allSold (hA : XA h d) (hK : XK h d) (hd : okD d) : Rn Γ mX9_allSold [.ref 4] h sz (qX h sz d (sumS d)) := by
  refine x_enter 3 (by decide) rfl ?_
  obtain ⟨ow, pr, od, kd, sp, ins, a1, ⟨a10, a11, a12, a13, a14, a15, a16⟩, ⟨a17, a18, a19⟩, a4, a5, a6, f1, f2, f3, f4⟩ := id hA
  obtain ⟨ss, h4⟩ := hK.w4
  have hP8 : d_N d ≤ 8 := (pN_ok hd.1.2.1).1
  refine x_aload dX9_allSold_0 rfl ?_
  refine x_aload dX9_allSold_1 rfl ?_
  refine x_get fX9_28 dX9_allSold_2 (by first | assumption | rfl | exact up_same | exact (up_ne (by omega)).trans (by assumption) | exact (up_ne (by assumption)).trans (by assumption)) ?_
  refine x_get fX9_143 dX9_allSold_5 (by first | assumption | rfl | exact up_same | exact (up_ne (by omega)).trans (by assumption) | exact (up_ne (by assumption)).trans (by assumption)) ?_
  refine x_V1q lX9_162 (Rm.of rfl) (cc1 := 0) (cn1 := 0) rfl rfl (Nat.le_of_ble_eq_true rfl) dX9_allSold_8 (by first | assumption | rfl | exact up_same | exact (up_ne (by omega)).trans (by assumption) | exact (up_ne (by assumption)).trans (by assumption)) (x_behind hA hK hd (Nat.le_refl _)) ?_
  rintro _ h2 _ ⟨rfl, rfl, hA2, hK2, hF2, f, g, kf, tf, hs, s20, s21, s22, s23, s24⟩
  clear a1 a10 a11 a12 a13 a14 a15 a16 a17 a18 a19 a4 a5 a6 f1 f2 f3 f4 h4
  obtain ⟨ow, pr, od, kd, sp, ins, a1, ⟨a10, -⟩, -⟩ := id hA2
  obtain ⟨ss2, h4⟩ := hK2.w4
  refine x_astore dX9_allSold_11 (Nat.le_of_ble_eq_true rfl) rfl ?_
  refine x_k dX9_allSold_12 ?_
  refine x_istore dX9_allSold_13 (Nat.le_of_ble_eq_true rfl) rfl ?_
  refine x_k dX9_allSold_14 ?_
  refine x_istore dX9_allSold_15 (Nat.le_of_ble_eq_true rfl) rfl ?_
  refine x_eq rfl rfl rfl (loopUp (P := fun p => Ex Γ mX9_allSold _ 0 0 16 [.ref 4, .ref 20, .int (accF 0 (fun p => nI ((d_run d (d_ns d)).2.2.1 p)) p), .int (nI p)] [] h2 sz) (d_N d) ?_ (fun p hp ih => ?_) 0 (Nat.zero_le _))
  · refine x_iload dX9_allSold_16 rfl ?_
    refine x_aload dX9_allSold_17 rfl ?_
    refine x_get fX9_21 dX9_allSold_18 (by first | assumption | rfl | exact up_same | exact (up_ne (by omega)).trans (by assumption) | exact (up_ne (by assumption)).trans (by assumption)) ?_
    refine x_get fX9_200 dX9_allSold_21 (by first | assumption | rfl | exact up_same | exact (up_ne (by omega)).trans (by assumption) | exact (up_ne (by assumption)).trans (by assumption)) ?_
    refine x_icmp_ge dX9_allSold_24 (fun b24 => ?_) (fun b24 => ?_)
    · refine x_iload dX9_allSold_42 rfl ?_
      refine x_iret (ty := .int) dX9_allSold_43 rfl rfl (Nat.zero_le _) (Nat.zero_le _) ?_
      exact ⟨rfl, rfl, hA2, hK2, hF2⟩
    · exact absurd (Int32.le_refl _) b24
  · rw [accF, ← hs.2.2.2 p (by omega)] at ih
    refine x_iload dX9_allSold_16 rfl ?_
    refine x_aload dX9_allSold_17 rfl ?_
    refine x_get fX9_21 dX9_allSold_18 (by first | assumption | rfl | exact up_same | exact (up_ne (by omega)).trans (by assumption) | exact (up_ne (by assumption)).trans (by assumption)) ?_
    refine x_get fX9_200 dX9_allSold_21 (by first | assumption | rfl | exact up_same | exact (up_ne (by omega)).trans (by assumption) | exact (up_ne (by assumption)).trans (by assumption)) ?_
    refine x_icmp_ge dX9_allSold_24 (fun b24 => ?_) (fun b24 => ?_)
    · exact absurd b24 (nI_ge hp (by omega))
    · refine x_iload dX9_allSold_27 rfl ?_
      refine x_aload dX9_allSold_28 rfl ?_
      refine x_get fX9_170 dX9_allSold_29 (by first | assumption | rfl | exact up_same | exact (up_ne (by omega)).trans (by assumption) | exact (up_ne (by assumption)).trans (by assumption)) ?_
      refine x_iload dX9_allSold_32 rfl ?_
      refine x_ialdn dX9_allSold_33 (by first | assumption | rfl | exact up_same | exact (up_ne (by omega)).trans (by assumption) | exact (up_ne (by assumption)).trans (by assumption)) ⟨by first | omega | decide, by decide⟩ ?_
      refine x_iadd dX9_allSold_34 ?_
      refine x_istore dX9_allSold_35 (Nat.le_of_ble_eq_true rfl) rfl ?_
      refine x_inc1 dX9_allSold_36 rfl (Nat.le_of_ble_eq_true rfl) rfl ?_
      refine x_goto dX9_allSold_39 ?_
      exact ih
theorem c_lockedIn (hA : XA h d) (hK : XK h d) (hd : okD d) : Re Γ mX9_lockedIn [.ref 4] h sz (some (.int (sumK d))) h sz := by
  refine x_enter 2 (by decide) rfl ?_
  obtain ⟨ow, pr, od, kd, sp, ins, a1, ⟨a10, a11, a12, a13, a14, a15, a16⟩, ⟨a17, a18, a19⟩, a4, a5, a6, f1, f2, f3, f4⟩ := id hA
  obtain ⟨ss, h4⟩ := hK.w4
  have hP8 : d_N d ≤ 8 := (pN_ok hd.1.2.1).1
  refine x_k dX9_lockedIn_0 ?_
  refine x_istore dX9_lockedIn_1 (Nat.le_of_ble_eq_true rfl) rfl ?_
  refine x_k dX9_lockedIn_2 ?_
  refine x_istore dX9_lockedIn_3 (Nat.le_of_ble_eq_true rfl) rfl ?_
  refine x_eq rfl rfl rfl (loopUp (P := fun p => Ex Γ mX9_lockedIn _ 0 0 4 [.ref 4, .int (accF 0 (fun p => if kinN (d_b1 d) p = 2 then 1 else 0) p), .int (nI p)] [] h sz) (d_N d) ?_ (fun p hp ih => ?_) 0 (Nat.zero_le _))
  · refine x_iload dX9_lockedIn_4 rfl ?_
    refine x_aload dX9_lockedIn_5 rfl ?_
    refine x_get fX9_21 dX9_lockedIn_6 (by first | assumption | rfl | exact up_same | exact (up_ne (by omega)).trans (by assumption) | exact (up_ne (by assumption)).trans (by assumption)) ?_
    refine x_get fX9_200 dX9_lockedIn_9 (by first | assumption | rfl | exact up_same | exact (up_ne (by omega)).trans (by assumption) | exact (up_ne (by assumption)).trans (by assumption)) ?_
    refine x_icmp_ge dX9_lockedIn_12 (fun b12 => ?_) (fun b12 => ?_)
    · refine x_iload dX9_lockedIn_37 rfl ?_
      refine x_iret (ty := .int) dX9_lockedIn_38 rfl rfl (Nat.zero_le _) (Nat.zero_le _) ?_
      exact ⟨rfl, rfl, rfl⟩
    · exact absurd (Int32.le_refl _) b12
  · have hk2 := (kinN_ok hd.1.2.1 hp).2
    have ek2 : kd p = 2 ↔ kinN (d_b1 d) p = 2 := by rw [(f3 p hp).1]; exact nI_eq (b := 2) (by omega) (by omega)
    rw [accF] at ih
    refine x_iload dX9_lockedIn_4 rfl ?_
    refine x_aload dX9_lockedIn_5 rfl ?_
    refine x_get fX9_21 dX9_lockedIn_6 (by first | assumption | rfl | exact up_same | exact (up_ne (by omega)).trans (by assumption) | exact (up_ne (by assumption)).trans (by assumption)) ?_
    refine x_get fX9_200 dX9_lockedIn_9 (by first | assumption | rfl | exact up_same | exact (up_ne (by omega)).trans (by assumption) | exact (up_ne (by assumption)).trans (by assumption)) ?_
    refine x_icmp_ge dX9_lockedIn_12 (fun b12 => ?_) (fun b12 => ?_)
    · exact absurd b12 (nI_ge hp (by omega))
    · refine x_aload dX9_lockedIn_15 rfl ?_
      refine x_get fX9_21 dX9_lockedIn_16 (by first | assumption | rfl | exact up_same | exact (up_ne (by omega)).trans (by assumption) | exact (up_ne (by assumption)).trans (by assumption)) ?_
      refine x_get fX9_118 dX9_lockedIn_19 (by first | assumption | rfl | exact up_same | exact (up_ne (by omega)).trans (by assumption) | exact (up_ne (by assumption)).trans (by assumption)) ?_
      refine x_iload dX9_lockedIn_22 rfl ?_
      refine x_ialdn dX9_lockedIn_23 (by first | assumption | rfl | exact up_same | exact (up_ne (by omega)).trans (by assumption) | exact (up_ne (by assumption)).trans (by assumption)) ⟨by first | omega | decide, by decide⟩ ?_
      refine x_k dX9_lockedIn_24 ?_
      refine x_icmp_ne dX9_lockedIn_25 (fun b25 => ?_) (fun b25 => ?_)
      · refine x_inc1 dX9_lockedIn_31 rfl (Nat.le_of_ble_eq_true rfl) rfl ?_
        refine x_goto dX9_lockedIn_34 ?_
        first
          | (have hz : kinN (d_b1 d) p = 2 := ek2.mp (Classical.not_not.mp b25)
             rw [if_pos hz] at ih; exact ih)
          | (have hz : ¬ kinN (d_b1 d) p = 2 := fun z => b25 (ek2.mpr z)
             rw [if_neg hz, Int32.add_zero] at ih; exact ih)
      · refine x_iinc (v := 1) dX9_lockedIn_28 rfl (by decide) (Nat.le_of_ble_eq_true rfl) rfl ?_
        refine x_inc1 dX9_lockedIn_31 rfl (Nat.le_of_ble_eq_true rfl) rfl ?_
        refine x_goto dX9_lockedIn_34 ?_
        first
          | (have hz : kinN (d_b1 d) p = 2 := ek2.mp (Classical.not_not.mp b25)
             rw [if_pos hz] at ih; exact ih)
          | (have hz : ¬ kinN (d_b1 d) p = 2 := fun z => b25 (ek2.mpr z)
             rw [if_neg hz, Int32.add_zero] at ih; exact ih)
theorem c_count (t : Int32) (hX : XW h sz d) (hd : okD d) : Rn Γ mX9_count [.ref 4, .int t] h sz (qW h sz d (aCount d t)) := by
  refine x_enter 0 (by decide) rfl ?_
  obtain ⟨hA, hK, hR, hD⟩ := id hX
  obtain ⟨ow, pr, od, kd, sp, ins, ⟨t5, t6, t7, t8, t9⟩, ⟨a10, a11, a12, a13, a14, a15, a16⟩, ⟨a17, a18, a19⟩, a4, ⟨a45, -⟩, a6, f1, f2, f3, f4⟩ := id hA
  obtain ⟨ss, h4⟩ := hK.w4
  refine x_iload dX9_count_0 rfl ?_
  by_cases h0 : t = 0
  · subst h0
    refine x_swIn dX9_count_1 (by decide) (by decide) rfl rfl ?_
    refine x_aload dX9_count_52 rfl ?_
    refine x_get fX9_21 dX9_count_53 (by first | assumption | rfl | exact up_same | exact (up_ne (by omega)).trans (by assumption) | exact (up_ne (by assumption)).trans (by assumption)) ?_
    refine x_get fX9_197 dX9_count_56 (by first | assumption | rfl | exact up_same | exact (up_ne (by omega)).trans (by assumption) | exact (up_ne (by assumption)).trans (by assumption)) ?_
    refine x_iret (ty := .int) dX9_count_59 rfl rfl (Nat.zero_le _) (Nat.zero_le _) ?_
    exact ⟨rfl, Nat.le_refl _, hX, fun _ _ => rfl⟩
  by_cases h1 : t = 1
  · subst h1
    refine x_swIn dX9_count_1 (by decide) (by decide) rfl rfl ?_
    refine x_aload dX9_count_60 rfl ?_
    refine x_get fX9_21 dX9_count_61 (by first | assumption | rfl | exact up_same | exact (up_ne (by omega)).trans (by assumption) | exact (up_ne (by assumption)).trans (by assumption)) ?_
    refine x_get fX9_200 dX9_count_64 (by first | assumption | rfl | exact up_same | exact (up_ne (by omega)).trans (by assumption) | exact (up_ne (by assumption)).trans (by assumption)) ?_
    refine x_iret (ty := .int) dX9_count_67 rfl rfl (Nat.zero_le _) (Nat.zero_le _) ?_
    exact ⟨rfl, Nat.le_refl _, hX, fun _ _ => rfl⟩
  by_cases h2 : t = 2
  · subst h2
    refine x_swIn dX9_count_1 (by decide) (by decide) rfl rfl ?_
    refine x_aload dX9_count_68 rfl ?_
    refine x_get fX9_12 dX9_count_69 (by first | assumption | rfl | exact up_same | exact (up_ne (by omega)).trans (by assumption) | exact (up_ne (by assumption)).trans (by assumption)) ?_
    refine x_k dX9_count_72 ?_
    refine x_aaT (i := 0) (q := 6) dX9_count_73 t5 (by decide) ?_
    refine x_get fX9_92 dX9_count_74 (by first | assumption | rfl | exact up_same | exact (up_ne (by omega)).trans (by assumption) | exact (up_ne (by assumption)).trans (by assumption)) ?_
    refine x_iret (ty := .int) dX9_count_77 rfl rfl (Nat.zero_le _) (Nat.zero_le _) ?_
    exact ⟨rfl, Nat.le_refl _, hX, fun _ _ => rfl⟩
  by_cases h3 : t = 3
  · subst h3
    refine x_swIn dX9_count_1 (by decide) (by decide) rfl rfl ?_
    refine x_aload dX9_count_78 rfl ?_
    refine x_get fX9_12 dX9_count_79 (by first | assumption | rfl | exact up_same | exact (up_ne (by omega)).trans (by assumption) | exact (up_ne (by assumption)).trans (by assumption)) ?_
    refine x_k dX9_count_82 ?_
    refine x_aaT (i := 1) (q := 8) dX9_count_83 t5 (by decide) ?_
    refine x_get fX9_92 dX9_count_84 (by first | assumption | rfl | exact up_same | exact (up_ne (by omega)).trans (by assumption) | exact (up_ne (by assumption)).trans (by assumption)) ?_
    refine x_iret (ty := .int) dX9_count_87 rfl rfl (Nat.zero_le _) (Nat.zero_le _) ?_
    exact ⟨rfl, Nat.le_refl _, hX, fun _ _ => rfl⟩
  by_cases h4' : t = 4
  · subst h4'
    refine x_swIn dX9_count_1 (by decide) (by decide) rfl rfl ?_
    refine x_aload dX9_count_88 rfl ?_
    refine x_get fX9_28 dX9_count_89 (by first | assumption | rfl | exact up_same | exact (up_ne (by omega)).trans (by assumption) | exact (up_ne (by assumption)).trans (by assumption)) ?_
    refine x_get fX9_143 dX9_count_92 (by first | assumption | rfl | exact up_same | exact (up_ne (by omega)).trans (by assumption) | exact (up_ne (by assumption)).trans (by assumption)) ?_
    refine x_iret (ty := .int) dX9_count_95 rfl rfl (Nat.zero_le _) (Nat.zero_le _) ?_
    exact ⟨rfl, Nat.le_refl _, hX, fun _ _ => rfl⟩
  by_cases h5 : t = 5
  · subst h5
    refine x_swIn dX9_count_1 (by decide) (by decide) rfl rfl ?_
    refine x_aload dX9_count_96 rfl ?_
    refine x_get fX9_63 dX9_count_97 (by first | assumption | rfl | exact up_same | exact (up_ne (by omega)).trans (by assumption) | exact (up_ne (by assumption)).trans (by assumption)) ?_
    refine x_get fX9_276 dX9_count_100 (by first | assumption | rfl | exact up_same | exact (up_ne (by omega)).trans (by assumption) | exact (up_ne (by assumption)).trans (by assumption)) ?_
    refine x_iret (ty := .int) dX9_count_103 rfl rfl (Nat.zero_le _) (Nat.zero_le _) ?_
    exact ⟨rfl, Nat.le_refl _, hX, fun _ _ => rfl⟩
  by_cases h6 : t = 6
  · subst h6
    refine x_swIn dX9_count_1 (by decide) (by decide) rfl rfl ?_
    refine x_aload dX9_count_104 rfl ?_
    refine x_V0q lX9_316 (Rm.of rfl) (cc1 := 0) (cn1 := 0) rfl rfl (Nat.le_of_ble_eq_true rfl) dX9_count_105 (by first | assumption | rfl | exact up_same | exact (up_ne (by omega)).trans (by assumption) | exact (up_ne (by assumption)).trans (by assumption)) (c_allSold hA hK hd) ?_
    rintro _ h2 _ hq
    have hq2 := hq
    obtain ⟨rfl, -⟩ := hq
    refine x_iret (ty := .int) dX9_count_108 rfl rfl (Nat.zero_le _) (Nat.zero_le _) ?_
    exact qX_W hR hD hq2
  by_cases h7 : t = 7
  · subst h7
    refine x_swIn dX9_count_1 (by decide) (by decide) rfl rfl ?_
    refine x_aload dX9_count_109 rfl ?_
    refine x_V0i lX9_319 (Rm.of rfl) (cc1 := 0) (cn1 := 0) rfl rfl (Nat.le_of_ble_eq_true rfl) dX9_count_110 (by first | assumption | rfl | exact up_same | exact (up_ne (by omega)).trans (by assumption) | exact (up_ne (by assumption)).trans (by assumption)) (c_lockedIn hA hK hd) ?_
    refine x_iret (ty := .int) dX9_count_113 rfl rfl (Nat.zero_le _) (Nat.zero_le _) ?_
    exact ⟨rfl, Nat.le_refl _, hX, fun _ _ => rfl⟩
  by_cases h8 : t = 8
  · subst h8
    refine x_swIn dX9_count_1 (by decide) (by decide) rfl rfl ?_
    refine x_aload dX9_count_114 rfl ?_
    refine x_get fX9_78 dX9_count_115 (by first | assumption | rfl | exact up_same | exact (up_ne (by omega)).trans (by assumption) | exact (up_ne (by assumption)).trans (by assumption)) ?_
    refine x_iret (ty := .int) dX9_count_118 rfl rfl (Nat.zero_le _) (Nat.zero_le _) ?_
    exact ⟨rfl, Nat.le_refl _, hX, fun _ _ => rfl⟩
  refine x_swOut dX9_count_1 (out08 h0 h1 h2 h3 h4' h5 h6 h7 h8) ?_
  refine x_k dX9_count_119 ?_
  refine x_iret (ty := .int) dX9_count_121 rfl rfl (Nat.zero_le _) (Nat.zero_le _) ?_
  exact ⟨by rw [aCount, if_neg h0, if_neg h1, if_neg h2, if_neg h3, if_neg h4', if_neg h5, if_neg h6, if_neg h7, if_neg h8], Nat.le_refl _, hX, fun _ _ => rfl⟩
theorem m_sumOf {w : Nat} (hw : w = 0 ∨ w = 1 ∨ w = 6 ∨ w = 7) (hM : MW h d) (hd : okD d) : Rn Γ mX10_sumOf [.ref 57, .int (nI w)] h sz (qM h sz d (aCount d (nI w))) := by
  refine x_enter 2 (by decide) rfl ?_
  obtain ⟨_, _, _, w57⟩ := hM.w57
  have hP8 : d_N d ≤ 8 := (pN_ok hd.1.2.1).1
  have e6 : nI w = 6 ↔ w = 6 := nI_eq (b := 6) (by omega) (by omega)
  have e0 : nI w = 0 ↔ w = 0 := nI_eq (b := 0) (by omega) (by omega)
  have e1 : nI w = 1 ↔ w = 1 := nI_eq (b := 1) (by omega) (by omega)
  refine x_aload dX10_sumOf_0 rfl ?_
  refine x_aload dX10_sumOf_1 rfl ?_
  refine x_get fX10_137 dX10_sumOf_2 (by first | assumption | rfl | exact up_same | exact (up_ne (by omega)).trans (by assumption) | exact (up_ne (by assumption)).trans (by assumption)) ?_
  refine x_V1q lX10_166 (Rm.of rfl) (cc1 := 0) (cn1 := 0) rfl rfl (Nat.le_of_ble_eq_true rfl) dX10_sumOf_5 (by first | assumption | rfl | exact up_same | exact (up_ne (by omega)).trans (by assumption) | exact (up_ne (by assumption)).trans (by assumption)) (m_lays hM hd (Nat.le_refl _)) ?_
  rintro _ h2 _ ⟨rfl, rfl, hM2, hR2, hF2, l2, os, kp, tm, -, s68, s69, s70, hkk, -⟩
  refine x_k dX10_sumOf_8 ?_
  refine x_istore dX10_sumOf_9 (Nat.le_of_ble_eq_true rfl) rfl ?_
  refine x_k dX10_sumOf_10 ?_
  refine x_istore dX10_sumOf_11 (Nat.le_of_ble_eq_true rfl) rfl ?_
  obtain ⟨ll, ow, pr, kd, pl, r57, r60, r61, r62, r63, ro, rp⟩ := id hR2
  refine x_eq rfl rfl rfl (loopUp (P := fun p => Ex Γ mX10_sumOf (gx_Z Γ mX10_sumOf (qM h sz d (aCount d (nI w)))) 0 0 12 [.ref 57, .int (nI w), .int (accF 0 (fun p => if w = 6 then nI ((d_run d (d_ns d)).2.2.1 p) else if kinN (d_b1 d) p = 2 then 1 else 0) p), .int (nI p)] [] h2 sz) (d_N d) ?_ (fun p hp ih => ?_) 0 (Nat.zero_le _))
  · rcases hw with rfl | rfl | rfl | rfl
    · refine x_iload dX10_sumOf_12 rfl ?_
      refine x_aload dX10_sumOf_13 rfl ?_
      refine x_get fX10_104 dX10_sumOf_14 (by first | assumption | rfl | exact up_same | exact (up_ne (by omega)).trans (by assumption) | exact (up_ne (by assumption)).trans (by assumption)) ?_
      refine x_icmp_ge dX10_sumOf_17 (fun b17 => ?_) (fun b17 => ?_)
      · refine x_iload dX10_sumOf_59 rfl ?_
        refine x_if_ne dX10_sumOf_60 (fun b60 => ?_) (fun b60 => ?_)
        · exact absurd rfl b60
        · refine x_aload dX10_sumOf_63 rfl ?_
          refine x_get fX10_96 dX10_sumOf_64 (by first | assumption | rfl | exact up_same | exact (up_ne (by omega)).trans (by assumption) | exact (up_ne (by assumption)).trans (by assumption)) ?_
          refine x_goto dX10_sumOf_67 ?_
          refine x_iret (ty := .int) dX10_sumOf_83 rfl rfl (Nat.zero_le _) (Nat.zero_le _) ?_
          exact ⟨rfl, rfl, hM2, hF2⟩
      · exact absurd (Int32.le_refl _) b17
    · refine x_iload dX10_sumOf_12 rfl ?_
      refine x_aload dX10_sumOf_13 rfl ?_
      refine x_get fX10_104 dX10_sumOf_14 (by first | assumption | rfl | exact up_same | exact (up_ne (by omega)).trans (by assumption) | exact (up_ne (by assumption)).trans (by assumption)) ?_
      refine x_icmp_ge dX10_sumOf_17 (fun b17 => ?_) (fun b17 => ?_)
      · refine x_iload dX10_sumOf_59 rfl ?_
        refine x_if_ne dX10_sumOf_60 (fun b60 => ?_) (fun b60 => ?_)
        · refine x_iload dX10_sumOf_70 rfl ?_
          refine x_k dX10_sumOf_71 ?_
          refine x_icmp_ne dX10_sumOf_72 (fun b72 => ?_) (fun b72 => ?_)
          · exact absurd rfl b72
          · refine x_aload dX10_sumOf_75 rfl ?_
            refine x_get fX10_104 dX10_sumOf_76 (by first | assumption | rfl | exact up_same | exact (up_ne (by omega)).trans (by assumption) | exact (up_ne (by assumption)).trans (by assumption)) ?_
            refine x_goto dX10_sumOf_79 ?_
            refine x_iret (ty := .int) dX10_sumOf_83 rfl rfl (Nat.zero_le _) (Nat.zero_le _) ?_
            exact ⟨rfl, rfl, hM2, hF2⟩
        · exact absurd (by decide) b60
      · exact absurd (Int32.le_refl _) b17
    · refine x_iload dX10_sumOf_12 rfl ?_
      refine x_aload dX10_sumOf_13 rfl ?_
      refine x_get fX10_104 dX10_sumOf_14 (by first | assumption | rfl | exact up_same | exact (up_ne (by omega)).trans (by assumption) | exact (up_ne (by assumption)).trans (by assumption)) ?_
      refine x_icmp_ge dX10_sumOf_17 (fun b17 => ?_) (fun b17 => ?_)
      · refine x_iload dX10_sumOf_59 rfl ?_
        refine x_if_ne dX10_sumOf_60 (fun b60 => ?_) (fun b60 => ?_)
        · refine x_iload dX10_sumOf_70 rfl ?_
          refine x_k dX10_sumOf_71 ?_
          refine x_icmp_ne dX10_sumOf_72 (fun b72 => ?_) (fun b72 => ?_)
          · refine x_iload dX10_sumOf_82 rfl ?_
            refine x_iret (ty := .int) dX10_sumOf_83 rfl rfl (Nat.zero_le _) (Nat.zero_le _) ?_
            exact ⟨rfl, rfl, hM2, hF2⟩
          · exact absurd (by decide) b72
        · exact absurd (by decide) b60
      · exact absurd (Int32.le_refl _) b17
    · refine x_iload dX10_sumOf_12 rfl ?_
      refine x_aload dX10_sumOf_13 rfl ?_
      refine x_get fX10_104 dX10_sumOf_14 (by first | assumption | rfl | exact up_same | exact (up_ne (by omega)).trans (by assumption) | exact (up_ne (by assumption)).trans (by assumption)) ?_
      refine x_icmp_ge dX10_sumOf_17 (fun b17 => ?_) (fun b17 => ?_)
      · refine x_iload dX10_sumOf_59 rfl ?_
        refine x_if_ne dX10_sumOf_60 (fun b60 => ?_) (fun b60 => ?_)
        · refine x_iload dX10_sumOf_70 rfl ?_
          refine x_k dX10_sumOf_71 ?_
          refine x_icmp_ne dX10_sumOf_72 (fun b72 => ?_) (fun b72 => ?_)
          · refine x_iload dX10_sumOf_82 rfl ?_
            refine x_iret (ty := .int) dX10_sumOf_83 rfl rfl (Nat.zero_le _) (Nat.zero_le _) ?_
            exact ⟨rfl, rfl, hM2, hF2⟩
          · exact absurd (by decide) b72
        · exact absurd (by decide) b60
      · exact absurd (Int32.le_refl _) b17
  · have hk2 := (kinN_ok hd.1.2.1 hp).2
    have ek2 : kd p = 2 ↔ kinN (d_b1 d) p = 2 := by rw [(rp p hp).1]; exact nI_eq (b := 2) (by omega) (by omega)
    rw [accF] at ih
    refine x_iload dX10_sumOf_12 rfl ?_
    refine x_aload dX10_sumOf_13 rfl ?_
    refine x_get fX10_104 dX10_sumOf_14 (by first | assumption | rfl | exact up_same | exact (up_ne (by omega)).trans (by assumption) | exact (up_ne (by assumption)).trans (by assumption)) ?_
    refine x_icmp_ge dX10_sumOf_17 (fun b17 => ?_) (fun b17 => ?_)
    · exact absurd b17 (nI_ge hp (by omega))
    · refine x_iload dX10_sumOf_20 rfl ?_
      refine x_iload dX10_sumOf_21 rfl ?_
      refine x_k dX10_sumOf_22 ?_
      refine x_icmp_ne dX10_sumOf_24 (fun b24 => ?_) (fun b24 => ?_)
      · refine x_aload dX10_sumOf_36 rfl ?_
        refine x_get fX10_22 dX10_sumOf_37 (by first | assumption | rfl | exact up_same | exact (up_ne (by omega)).trans (by assumption) | exact (up_ne (by assumption)).trans (by assumption)) ?_
        refine x_iload dX10_sumOf_40 rfl ?_
        refine x_ialdn dX10_sumOf_41 (by first | assumption | rfl | exact up_same | exact (up_ne (by omega)).trans (by assumption) | exact (up_ne (by assumption)).trans (by assumption)) ⟨by first | omega | decide, by decide⟩ ?_
        refine x_k dX10_sumOf_42 ?_
        refine x_icmp_ne dX10_sumOf_43 (fun b43 => ?_) (fun b43 => ?_)
        · refine x_k dX10_sumOf_50 ?_
          refine x_iadd dX10_sumOf_51 ?_
          refine x_istore dX10_sumOf_52 (Nat.le_of_ble_eq_true rfl) rfl ?_
          refine x_inc1 dX10_sumOf_53 rfl (Nat.le_of_ble_eq_true rfl) rfl ?_
          refine x_goto dX10_sumOf_56 ?_
          first
            | (have hz : w = 6 := e6.mp (Classical.not_not.mp b24)
               rw [if_pos hz, ← hkk.2.2 p (by omega)] at ih; exact ih)
            | (have hz : ¬ w = 6 := fun z => b24 (e6.mpr z)
               rw [if_neg hz] at ih
               first
                 | (have hy : kinN (d_b1 d) p = 2 := ek2.mp (Classical.not_not.mp b43)
                    rw [if_pos hy] at ih; exact ih)
                 | (have hy : ¬ kinN (d_b1 d) p = 2 := fun z => b43 (ek2.mpr z)
                    rw [if_neg hy] at ih; exact ih))
        · refine x_k dX10_sumOf_46 ?_
          refine x_goto dX10_sumOf_47 ?_
          refine x_iadd dX10_sumOf_51 ?_
          refine x_istore dX10_sumOf_52 (Nat.le_of_ble_eq_true rfl) rfl ?_
          refine x_inc1 dX10_sumOf_53 rfl (Nat.le_of_ble_eq_true rfl) rfl ?_
          refine x_goto dX10_sumOf_56 ?_
          first
            | (have hz : w = 6 := e6.mp (Classical.not_not.mp b24)
               rw [if_pos hz, ← hkk.2.2 p (by omega)] at ih; exact ih)
            | (have hz : ¬ w = 6 := fun z => b24 (e6.mpr z)
               rw [if_neg hz] at ih
               first
                 | (have hy : kinN (d_b1 d) p = 2 := ek2.mp (Classical.not_not.mp b43)
                    rw [if_pos hy] at ih; exact ih)
                 | (have hy : ¬ kinN (d_b1 d) p = 2 := fun z => b43 (ek2.mpr z)
                    rw [if_neg hy] at ih; exact ih))
      · refine x_aload dX10_sumOf_27 rfl ?_
        refine x_get fX10_46 dX10_sumOf_28 (by first | assumption | rfl | exact up_same | exact (up_ne (by omega)).trans (by assumption) | exact (up_ne (by assumption)).trans (by assumption)) ?_
        refine x_iload dX10_sumOf_31 rfl ?_
        refine x_ialdn dX10_sumOf_32 (by first | assumption | rfl | exact up_same | exact (up_ne (by omega)).trans (by assumption) | exact (up_ne (by assumption)).trans (by assumption)) ⟨by first | omega | decide, by decide⟩ ?_
        refine x_goto dX10_sumOf_33 ?_
        refine x_iadd dX10_sumOf_51 ?_
        refine x_istore dX10_sumOf_52 (Nat.le_of_ble_eq_true rfl) rfl ?_
        refine x_inc1 dX10_sumOf_53 rfl (Nat.le_of_ble_eq_true rfl) rfl ?_
        refine x_goto dX10_sumOf_56 ?_
        first
          | (have hz : w = 6 := e6.mp (Classical.not_not.mp b24)
             rw [if_pos hz, ← hkk.2.2 p (by omega)] at ih; exact ih)
          | (have hz : ¬ w = 6 := fun z => b24 (e6.mpr z)
             rw [if_neg hz] at ih
             first
               | (have hy : kinN (d_b1 d) p = 2 := ek2.mp (Classical.not_not.mp b43)
                  rw [if_pos hy] at ih; exact ih)
               | (have hy : ¬ kinN (d_b1 d) p = 2 := fun z => b43 (ek2.mpr z)
                  rw [if_neg hy] at ih; exact ih))
theorem m_count (t : Int32) (hM : MW h d) (hd : okD d) : Rn Γ mX10_count [.ref 57, .int t] h sz (qM h sz d (aCount d t)) := by
  refine x_enter 0 (by decide) rfl ?_
  obtain ⟨hs, pe, ll, ty, tx, ow, pr, kd, pl, lw, wh, os, kp, tm, ls, lk, af, wt, be, th, fr, it, mv, ⟨a57, a58, a59, a60, a61, a62, a63⟩, a2, a3, a4, ⟨t0, t1, t2, t3⟩, a6, a7, a8⟩ := id hM
  refine x_iload dX10_count_0 rfl ?_
  by_cases h0 : t = 0
  · subst h0
    refine x_swIn dX10_count_1 (by decide) (by decide) rfl rfl ?_
    refine x_aload dX10_count_52 rfl ?_
    refine x_iload dX10_count_53 rfl ?_
    refine x_V1q lX10_253 (Rm.of rfl) (cc1 := 0) (cn1 := 0) rfl rfl (Nat.le_of_ble_eq_true rfl) dX10_count_54 (by first | assumption | rfl | exact up_same | exact (up_ne (by omega)).trans (by assumption) | exact (up_ne (by assumption)).trans (by assumption)) (m_sumOf (w := 0) (by decide) hM hd) ?_
    rintro _ h2 _ hq
    have hq2 := hq
    obtain ⟨rfl, -⟩ := hq
    refine x_iret (ty := .int) dX10_count_57 rfl rfl (Nat.zero_le _) (Nat.zero_le _) ?_
    exact hq2
  by_cases h1 : t = 1
  · subst h1
    refine x_swIn dX10_count_1 (by decide) (by decide) rfl rfl ?_
    refine x_aload dX10_count_52 rfl ?_
    refine x_iload dX10_count_53 rfl ?_
    refine x_V1q lX10_253 (Rm.of rfl) (cc1 := 0) (cn1 := 0) rfl rfl (Nat.le_of_ble_eq_true rfl) dX10_count_54 (by first | assumption | rfl | exact up_same | exact (up_ne (by omega)).trans (by assumption) | exact (up_ne (by assumption)).trans (by assumption)) (m_sumOf (w := 1) (by decide) hM hd) ?_
    rintro _ h2 _ hq
    have hq2 := hq
    obtain ⟨rfl, -⟩ := hq
    refine x_iret (ty := .int) dX10_count_57 rfl rfl (Nat.zero_le _) (Nat.zero_le _) ?_
    exact hq2
  by_cases h6 : t = 6
  · subst h6
    refine x_swIn dX10_count_1 (by decide) (by decide) rfl rfl ?_
    refine x_aload dX10_count_52 rfl ?_
    refine x_iload dX10_count_53 rfl ?_
    refine x_V1q lX10_253 (Rm.of rfl) (cc1 := 0) (cn1 := 0) rfl rfl (Nat.le_of_ble_eq_true rfl) dX10_count_54 (by first | assumption | rfl | exact up_same | exact (up_ne (by omega)).trans (by assumption) | exact (up_ne (by assumption)).trans (by assumption)) (m_sumOf (w := 6) (by decide) hM hd) ?_
    rintro _ h2 _ hq
    have hq2 := hq
    obtain ⟨rfl, -⟩ := hq
    refine x_iret (ty := .int) dX10_count_57 rfl rfl (Nat.zero_le _) (Nat.zero_le _) ?_
    exact hq2
  by_cases h7 : t = 7
  · subst h7
    refine x_swIn dX10_count_1 (by decide) (by decide) rfl rfl ?_
    refine x_aload dX10_count_52 rfl ?_
    refine x_iload dX10_count_53 rfl ?_
    refine x_V1q lX10_253 (Rm.of rfl) (cc1 := 0) (cn1 := 0) rfl rfl (Nat.le_of_ble_eq_true rfl) dX10_count_54 (by first | assumption | rfl | exact up_same | exact (up_ne (by omega)).trans (by assumption) | exact (up_ne (by assumption)).trans (by assumption)) (m_sumOf (w := 7) (by decide) hM hd) ?_
    rintro _ h2 _ hq
    have hq2 := hq
    obtain ⟨rfl, -⟩ := hq
    refine x_iret (ty := .int) dX10_count_57 rfl rfl (Nat.zero_le _) (Nat.zero_le _) ?_
    exact hq2
  by_cases h2 : t = 2
  · subst h2
    refine x_swIn dX10_count_1 (by decide) (by decide) rfl rfl ?_
    refine x_eq rfl rfl rfl ?_
    refine x_aload dX10_count_58 rfl ?_
    refine x_get fX10_7 dX10_count_59 (by first | assumption | rfl | exact up_same | exact (up_ne (by omega)).trans (by assumption) | exact (up_ne (by assumption)).trans (by assumption)) ?_
    refine x_iload dX10_count_62 rfl ?_
    refine x_k dX10_count_63 ?_
    refine x_isub dX10_count_64 ?_
    rw [show (2 : Int32) - 2 = nI 0 by decide]
    refine x_ialdn dX10_count_65 (by first | assumption | rfl | exact up_same | exact (up_ne (by omega)).trans (by assumption) | exact (up_ne (by assumption)).trans (by assumption)) ⟨by first | omega | decide, by decide⟩ ?_
    refine x_iret (ty := .int) dX10_count_66 rfl rfl (Nat.zero_le _) (Nat.zero_le _) ?_
    exact ⟨by rw [t0]; rfl, rfl, hM, fun _ _ => rfl⟩
  by_cases h3 : t = 3
  · subst h3
    refine x_swIn dX10_count_1 (by decide) (by decide) rfl rfl ?_
    refine x_aload dX10_count_58 rfl ?_
    refine x_get fX10_7 dX10_count_59 (by first | assumption | rfl | exact up_same | exact (up_ne (by omega)).trans (by assumption) | exact (up_ne (by assumption)).trans (by assumption)) ?_
    refine x_iload dX10_count_62 rfl ?_
    refine x_k dX10_count_63 ?_
    refine x_isub dX10_count_64 ?_
    rw [show (3 : Int32) - 2 = nI 1 by decide]
    refine x_ialdn dX10_count_65 (by first | assumption | rfl | exact up_same | exact (up_ne (by omega)).trans (by assumption) | exact (up_ne (by assumption)).trans (by assumption)) ⟨by first | omega | decide, by decide⟩ ?_
    refine x_iret (ty := .int) dX10_count_66 rfl rfl (Nat.zero_le _) (Nat.zero_le _) ?_
    exact ⟨by rw [t1]; rfl, rfl, hM, fun _ _ => rfl⟩
  by_cases h4' : t = 4
  · subst h4'
    refine x_swIn dX10_count_1 (by decide) (by decide) rfl rfl ?_
    refine x_aload dX10_count_67 rfl ?_
    refine x_get fX10_137 dX10_count_68 (by first | assumption | rfl | exact up_same | exact (up_ne (by omega)).trans (by assumption) | exact (up_ne (by assumption)).trans (by assumption)) ?_
    refine x_iret (ty := .int) dX10_count_71 rfl rfl (Nat.zero_le _) (Nat.zero_le _) ?_
    exact ⟨rfl, rfl, hM, fun _ _ => rfl⟩
  by_cases h5 : t = 5
  · subst h5
    refine x_swIn dX10_count_1 (by decide) (by decide) rfl rfl ?_
    refine x_aload dX10_count_72 rfl ?_
    refine x_get fX10_235 dX10_count_73 (by first | assumption | rfl | exact up_same | exact (up_ne (by omega)).trans (by assumption) | exact (up_ne (by assumption)).trans (by assumption)) ?_
    refine x_iret (ty := .int) dX10_count_76 rfl rfl (Nat.zero_le _) (Nat.zero_le _) ?_
    exact ⟨rfl, rfl, hM, fun _ _ => rfl⟩
  by_cases h8 : t = 8
  · subst h8
    refine x_swIn dX10_count_1 (by decide) (by decide) rfl rfl ?_
    refine x_aload dX10_count_77 rfl ?_
    refine x_get fX10_241 dX10_count_78 (by first | assumption | rfl | exact up_same | exact (up_ne (by omega)).trans (by assumption) | exact (up_ne (by assumption)).trans (by assumption)) ?_
    refine x_iret (ty := .int) dX10_count_81 rfl rfl (Nat.zero_le _) (Nat.zero_le _) ?_
    exact ⟨rfl, rfl, hM, fun _ _ => rfl⟩
  refine x_swOut dX10_count_1 (out08 h0 h1 h2 h3 h4' h5 h6 h7 h8) ?_
  refine x_k dX10_count_82 ?_
  refine x_iret (ty := .int) dX10_count_84 rfl rfl (Nat.zero_le _) (Nat.zero_le _) ?_
  exact ⟨by rw [aCount, if_neg h0, if_neg h1, if_neg h2, if_neg h3, if_neg h4', if_neg h5, if_neg h6, if_neg h7, if_neg h8], rfl, hM, fun _ _ => rfl⟩
end Cnt
