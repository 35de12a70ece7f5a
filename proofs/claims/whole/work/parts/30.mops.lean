/-! the reference's calls: their answers -/
def qM (h : Hp) (sz : Nat) (d : DT) (a : Int32) : QT := fun r h' sz' => r = some (.int a) ∧ sz = sz' ∧ MW h' d ∧ frM h h'
theorem upto {x : Int32} {n : Nat} (h0 : 0 ≤ x) (h1 : x ≤ nI n) (hn : n < 2 ^ 31) : ∃ j, j ≤ n ∧ x = nI j := by
  obtain ⟨j, hj, e⟩ := nI_of (Int32.not_lt.mpr h0)
  subst e
  exact ⟨j, (nI_leI hj hn).mp h1, rfl⟩
theorem below {x : Int32} {n : Nat} (h0 : 0 ≤ x) (h1 : x < nI n) (hn : n < 2 ^ 31) : ∃ j, j < n ∧ x = nI j := by
  obtain ⟨j, hj, e⟩ := nI_of (Int32.not_lt.mpr h0)
  subst e
  exact ⟨j, (nI_ltI hj hn).mp h1, rfl⟩
noncomputable def aWhose (d : DT) (t k : Int32) : Int32 := if (0 ≤ t ∧ t < nI (d_H d)) ∧ (0 ≤ k ∧ k ≤ nI (d_ns d)) then nI ((d_run d k.toNatClampNeg).1 t.toNatClampNeg) else -2
noncomputable def aKeeper (d : DT) (t k : Int32) : Int32 := if (0 ≤ t ∧ t < nI (d_N d)) ∧ (0 ≤ k ∧ k ≤ nI (d_ns d)) then nI ((d_run d k.toNatClampNeg).2.1 t.toNatClampNeg) else -2
noncomputable def aSold (d : DT) (t k : Int32) : Int32 := if (0 ≤ t ∧ t < nI (d_N d)) ∧ (0 ≤ k ∧ k ≤ nI (d_ns d)) then nI ((d_run d k.toNatClampNeg).2.2.1 t.toNatClampNeg) else -2
noncomputable def aLength (d : DT) (k : Int32) : Int32 := if 0 ≤ k ∧ k < nI (d_ns d) then nI (d_run d (k.toNatClampNeg + 1)).2.2.2 else -2
section MOps
variable {Γ : GX} {h : Hp} {sz : Nat} {d : DT}
theorem m_whose (t k : Int32) (hM : MW h d) (hd : okD d) : Rn Γ mX10_whose [.ref 57, .int t, .int k] h sz (qM h sz d (aWhose d t k)) := by
  refine x_enter 0 (by decide) rfl ?_
  obtain ⟨_, _, _, w57⟩ := hM.w57
  have hH8 : d_H d ≤ 8 := (hN_ok hd.1.1).1
  have hns := hd.2.1.2.1
  refine x_aload dX10_whose_0 rfl ?_
  refine x_iload dX10_whose_1 rfl ?_
  refine x_V1q lX10_121 (Rm.of rfl) (cc1 := 0) (cn1 := 0) rfl rfl (Nat.le_of_ble_eq_true rfl) dX10_whose_2 (by first | assumption | rfl) (m_isHouse t hM hd) ?_
  rintro _ h1 _ ⟨rfl, rfl, hM1, hR1, hF1⟩
  obtain ⟨_, _, _, w57⟩ := hM1.w57
  refine x_if_eq dX10_whose_5 (fun b5 => ?_) (fun b5 => ?_)
  · try simp only [i01, Classical.not_not] at b5
    refine x_k dX10_whose_20 ?_
    refine x_iret (ty := .int) dX10_whose_22 rfl rfl (Nat.zero_le _) (Nat.zero_le _) ?_
    refine ⟨?_, rfl, hM1, hF1⟩
    first
      | rw [aWhose, if_neg (fun z => b5 z.1)]
      | rw [aWhose, if_neg (fun z => b17 z.2)]
  · try simp only [i01, Classical.not_not] at b5
    refine x_iload dX10_whose_8 rfl ?_
    refine x_k dX10_whose_9 ?_
    refine x_aload dX10_whose_10 rfl ?_
    refine x_get fX10_137 dX10_whose_11 (by first | assumption | rfl) ?_
    refine x_S3i lX10_92 (Rm.of rfl) (cc1 := 0) (cn1 := 0) rfl rfl (Nat.le_of_ble_eq_true rfl) dX10_whose_14 (r_in k 0 (nI (d_ns d))) ?_
    refine x_if_ne dX10_whose_17 (fun b17 => ?_) (fun b17 => ?_)
    · try simp only [i01, Classical.not_not] at b17
      obtain ⟨j, hj, rfl⟩ := upto b17.1 b17.2 (by omega)
      obtain ⟨i, hi, rfl⟩ := below b5.1 b5.2 (by omega)
      have hans : aWhose d (nI i) (nI j) = nI ((d_run d j).1 i) := by rw [aWhose, if_pos ⟨b5, b17⟩, nI_clamp (by omega), nI_clamp (by omega)]
      refine x_aload dX10_whose_23 rfl ?_
      refine x_iload dX10_whose_24 rfl ?_
      refine x_V1q lX10_166 (Rm.of rfl) (cc1 := 0) (cn1 := 0) rfl rfl (Nat.le_of_ble_eq_true rfl) dX10_whose_25 (by first | assumption | rfl) (m_lays hM1 hd hj) ?_
      rintro _ h2 _ ⟨rfl, rfl, hM2, hR2, hF2, ll, os, kp, tm, s57, s68, s69, s70, hk, -⟩
      refine x_aload dX10_whose_28 rfl ?_
      refine x_get fX10_40 dX10_whose_29 (by first | assumption | rfl) ?_
      refine x_iload dX10_whose_32 rfl ?_
      refine x_ialdn dX10_whose_33 (by first | assumption | rfl) ⟨by first | omega | decide, by decide⟩ ?_
      refine x_iret (ty := .int) dX10_whose_34 rfl rfl (Nat.zero_le _) (Nat.zero_le _) ?_
      exact ⟨by rw [hans, (hk.1 i hi).1], rfl, hM2, hF1.trans hF2⟩
    · try simp only [i01, Classical.not_not] at b17
      refine x_k dX10_whose_20 ?_
      refine x_iret (ty := .int) dX10_whose_22 rfl rfl (Nat.zero_le _) (Nat.zero_le _) ?_
      refine ⟨?_, rfl, hM1, hF1⟩
      first
        | rw [aWhose, if_neg (fun z => b5 z.1)]
        | rw [aWhose, if_neg (fun z => b17 z.2)]
theorem m_keeperOf {i j : Nat} (hM : MW h d) (hd : okD d) (hi : i < d_N d) (hj : j ≤ d_ns d) : Rn Γ mX10_keeperOf [.ref 57, .int (nI i), .int (nI j)] h sz (fun r h' sz' => r = some (.int (nI ((d_run d j).2.1 i))) ∧ sz = sz' ∧ MW h' d ∧ MR h' d ∧ frM h h') := by
  refine x_enter 0 (by decide) rfl ?_
  obtain ⟨_, _, _, w57⟩ := hM.w57
  have hP8 : d_N d ≤ 8 := (pN_ok hd.1.2.1).1
  refine x_aload dX10_keeperOf_0 rfl ?_
  refine x_iload dX10_keeperOf_1 rfl ?_
  refine x_V1q lX10_166 (Rm.of rfl) (cc1 := 0) (cn1 := 0) rfl rfl (Nat.le_of_ble_eq_true rfl) dX10_keeperOf_2 (by first | assumption | rfl) (m_lays hM hd hj) ?_
  rintro _ h2 _ ⟨rfl, rfl, hM2, hR2, hF2, ll, os, kp, tm, s57, s68, s69, s70, hk, -⟩
  refine x_aload dX10_keeperOf_5 rfl ?_
  refine x_get fX10_43 dX10_keeperOf_6 (by first | assumption | rfl) ?_
  refine x_iload dX10_keeperOf_9 rfl ?_
  refine x_ialdn dX10_keeperOf_10 (by first | assumption | rfl) ⟨by first | omega | decide, by decide⟩ ?_
  refine x_iret (ty := .int) dX10_keeperOf_11 rfl rfl (Nat.zero_le _) (Nat.zero_le _) ?_
  exact ⟨by rw [(hk.2.1 i (by omega)).1], rfl, hM2, hR2, hF2⟩
theorem m_soldOf {i j : Nat} (hM : MW h d) (hd : okD d) (hi : i < d_N d) (hj : j ≤ d_ns d) : Rn Γ mX10_soldOf [.ref 57, .int (nI i), .int (nI j)] h sz (fun r h' sz' => r = some (.int (nI ((d_run d j).2.2.1 i))) ∧ sz = sz' ∧ MW h' d ∧ MR h' d ∧ frM h h') := by
  refine x_enter 0 (by decide) rfl ?_
  obtain ⟨_, _, _, w57⟩ := hM.w57
  have hP8 : d_N d ≤ 8 := (pN_ok hd.1.2.1).1
  refine x_aload dX10_soldOf_0 rfl ?_
  refine x_iload dX10_soldOf_1 rfl ?_
  refine x_V1q lX10_166 (Rm.of rfl) (cc1 := 0) (cn1 := 0) rfl rfl (Nat.le_of_ble_eq_true rfl) dX10_soldOf_2 (by first | assumption | rfl) (m_lays hM hd hj) ?_
  rintro _ h2 _ ⟨rfl, rfl, hM2, hR2, hF2, ll, os, kp, tm, s57, s68, s69, s70, hk, -⟩
  refine x_aload dX10_soldOf_5 rfl ?_
  refine x_get fX10_46 dX10_soldOf_6 (by first | assumption | rfl) ?_
  refine x_iload dX10_soldOf_9 rfl ?_
  refine x_ialdn dX10_soldOf_10 (by first | assumption | rfl) ⟨by first | omega | decide, by decide⟩ ?_
  refine x_iret (ty := .int) dX10_soldOf_11 rfl rfl (Nat.zero_le _) (Nat.zero_le _) ?_
  exact ⟨by rw [hk.2.2 i (by omega)], rfl, hM2, hR2, hF2⟩
theorem m_keeper (t k : Int32) (hM : MW h d) (hd : okD d) : Rn Γ mX10_keeper [.ref 57, .int t, .int k] h sz (qM h sz d (aKeeper d t k)) := by
  refine x_enter 0 (by decide) rfl ?_
  obtain ⟨_, _, _, w57⟩ := hM.w57
  have hP8 : d_N d ≤ 8 := (pN_ok hd.1.2.1).1
  have hns := hd.2.1.2.1
  refine x_aload dX10_keeper_0 rfl ?_
  refine x_iload dX10_keeper_1 rfl ?_
  refine x_V1q lX10_128 (Rm.of rfl) (cc1 := 0) (cn1 := 0) rfl rfl (Nat.le_of_ble_eq_true rfl) dX10_keeper_2 (by first | assumption | rfl) (m_isPerson t hM hd) ?_
  rintro _ h1 _ ⟨rfl, rfl, hM1, hR1, hF1⟩
  obtain ⟨_, _, _, w57⟩ := hM1.w57
  refine x_if_eq dX10_keeper_5 (fun b5 => ?_) (fun b5 => ?_)
  · try simp only [i01, Classical.not_not] at b5
    refine x_k dX10_keeper_29 ?_
    refine x_iret (ty := .int) dX10_keeper_31 rfl rfl (Nat.zero_le _) (Nat.zero_le _) ?_
    refine ⟨?_, rfl, hM1, hF1⟩
    first
      | rw [aKeeper, if_neg (fun z => b5 z.1)]
      | rw [aKeeper, if_neg (fun z => b17 z.2)]
  · try simp only [i01, Classical.not_not] at b5
    refine x_iload dX10_keeper_8 rfl ?_
    refine x_k dX10_keeper_9 ?_
    refine x_aload dX10_keeper_10 rfl ?_
    refine x_get fX10_137 dX10_keeper_11 (by first | assumption | rfl) ?_
    refine x_S3i lX10_92 (Rm.of rfl) (cc1 := 0) (cn1 := 0) rfl rfl (Nat.le_of_ble_eq_true rfl) dX10_keeper_14 (r_in k 0 (nI (d_ns d))) ?_
    refine x_if_eq dX10_keeper_17 (fun b17 => ?_) (fun b17 => ?_)
    · try simp only [i01, Classical.not_not] at b17
      refine x_k dX10_keeper_29 ?_
      refine x_iret (ty := .int) dX10_keeper_31 rfl rfl (Nat.zero_le _) (Nat.zero_le _) ?_
      refine ⟨?_, rfl, hM1, hF1⟩
      first
        | rw [aKeeper, if_neg (fun z => b5 z.1)]
        | rw [aKeeper, if_neg (fun z => b17 z.2)]
    · try simp only [i01, Classical.not_not] at b17
      obtain ⟨j, hj, rfl⟩ := upto b17.1 b17.2 (by omega)
      obtain ⟨i, hi, rfl⟩ := below b5.1 b5.2 (by omega)
      refine x_aload dX10_keeper_20 rfl ?_
      refine x_iload dX10_keeper_21 rfl ?_
      refine x_iload dX10_keeper_22 rfl ?_
      refine x_V2q lX10_169 (Rm.of rfl) (cc1 := 0) (cn1 := 0) rfl rfl (Nat.le_of_ble_eq_true rfl) dX10_keeper_23 (by first | assumption | rfl) (m_keeperOf hM1 hd hi hj) ?_
      rintro _ h2 _ ⟨rfl, rfl, hM2, hR2, hF2⟩
      refine x_goto dX10_keeper_26 ?_
      refine x_iret (ty := .int) dX10_keeper_31 rfl rfl (Nat.zero_le _) (Nat.zero_le _) ?_
      exact ⟨by rw [aKeeper, if_pos ⟨b5, b17⟩, nI_clamp (by omega), nI_clamp (by omega)], rfl, hM2, hF1.trans hF2⟩
theorem m_sold (t k : Int32) (hM : MW h d) (hd : okD d) : Rn Γ mX10_sold [.ref 57, .int t, .int k] h sz (qM h sz d (aSold d t k)) := by
  refine x_enter 0 (by decide) rfl ?_
  obtain ⟨_, _, _, w57⟩ := hM.w57
  have hP8 : d_N d ≤ 8 := (pN_ok hd.1.2.1).1
  have hns := hd.2.1.2.1
  refine x_aload dX10_sold_0 rfl ?_
  refine x_iload dX10_sold_1 rfl ?_
  refine x_V1q lX10_128 (Rm.of rfl) (cc1 := 0) (cn1 := 0) rfl rfl (Nat.le_of_ble_eq_true rfl) dX10_sold_2 (by first | assumption | rfl) (m_isPerson t hM hd) ?_
  rintro _ h1 _ ⟨rfl, rfl, hM1, hR1, hF1⟩
  obtain ⟨_, _, _, w57⟩ := hM1.w57
  refine x_if_eq dX10_sold_5 (fun b5 => ?_) (fun b5 => ?_)
  · try simp only [i01, Classical.not_not] at b5
    refine x_k dX10_sold_29 ?_
    refine x_iret (ty := .int) dX10_sold_31 rfl rfl (Nat.zero_le _) (Nat.zero_le _) ?_
    refine ⟨?_, rfl, hM1, hF1⟩
    first
      | rw [aSold, if_neg (fun z => b5 z.1)]
      | rw [aSold, if_neg (fun z => b17 z.2)]
  · try simp only [i01, Classical.not_not] at b5
    refine x_iload dX10_sold_8 rfl ?_
    refine x_k dX10_sold_9 ?_
    refine x_aload dX10_sold_10 rfl ?_
    refine x_get fX10_137 dX10_sold_11 (by first | assumption | rfl) ?_
    refine x_S3i lX10_92 (Rm.of rfl) (cc1 := 0) (cn1 := 0) rfl rfl (Nat.le_of_ble_eq_true rfl) dX10_sold_14 (r_in k 0 (nI (d_ns d))) ?_
    refine x_if_eq dX10_sold_17 (fun b17 => ?_) (fun b17 => ?_)
    · try simp only [i01, Classical.not_not] at b17
      refine x_k dX10_sold_29 ?_
      refine x_iret (ty := .int) dX10_sold_31 rfl rfl (Nat.zero_le _) (Nat.zero_le _) ?_
      refine ⟨?_, rfl, hM1, hF1⟩
      first
        | rw [aSold, if_neg (fun z => b5 z.1)]
        | rw [aSold, if_neg (fun z => b17 z.2)]
    · try simp only [i01, Classical.not_not] at b17
      obtain ⟨j, hj, rfl⟩ := upto b17.1 b17.2 (by omega)
      obtain ⟨i, hi, rfl⟩ := below b5.1 b5.2 (by omega)
      refine x_aload dX10_sold_20 rfl ?_
      refine x_iload dX10_sold_21 rfl ?_
      refine x_iload dX10_sold_22 rfl ?_
      refine x_V2q lX10_172 (Rm.of rfl) (cc1 := 0) (cn1 := 0) rfl rfl (Nat.le_of_ble_eq_true rfl) dX10_sold_23 (by first | assumption | rfl) (m_soldOf hM1 hd hi hj) ?_
      rintro _ h2 _ ⟨rfl, rfl, hM2, hR2, hF2⟩
      refine x_goto dX10_sold_26 ?_
      refine x_iret (ty := .int) dX10_sold_31 rfl rfl (Nat.zero_le _) (Nat.zero_le _) ?_
      exact ⟨by rw [aSold, if_pos ⟨b5, b17⟩, nI_clamp (by omega), nI_clamp (by omega)], rfl, hM2, hF1.trans hF2⟩
theorem m_lengthOf {i : Nat} (hM : MW h d) (hd : okD d) (hi : i < d_ns d) : Rn Γ mX10_lengthOf [.ref 57, .int (nI i)] h sz (fun r h' sz' => r = some (.int (nI (d_run d (i + 1)).2.2.2)) ∧ sz = sz' ∧ MW h' d ∧ MR h' d ∧ frM h h') := by
  refine x_enter 0 (by decide) rfl ?_
  obtain ⟨_, _, _, w57⟩ := hM.w57
  refine x_aload dX10_lengthOf_0 rfl ?_
  refine x_iload dX10_lengthOf_1 rfl ?_
  refine x_k dX10_lengthOf_2 ?_
  refine x_iadd dX10_lengthOf_3 ?_
  rw [nI_1]
  refine x_V1q lX10_166 (Rm.of rfl) (cc1 := 0) (cn1 := 0) rfl rfl (Nat.le_of_ble_eq_true rfl) dX10_lengthOf_4 (by first | assumption | rfl) (m_lays hM hd (Nat.succ_le_of_lt hi)) ?_
  rintro _ h2 _ ⟨rfl, rfl, hM2, hR2, hF2, ll, os, kp, tm, s57, s68, s69, s70, hk, hl⟩
  refine x_aload dX10_lengthOf_7 rfl ?_
  refine x_get fX10_159 dX10_lengthOf_8 (by first | assumption | rfl) ?_
  refine x_iret (ty := .int) dX10_lengthOf_11 rfl rfl (Nat.zero_le _) (Nat.zero_le _) ?_
  exact ⟨by rw [hl (by omega)], rfl, hM2, hR2, hF2⟩
theorem m_length (k : Int32) (hM : MW h d) (hd : okD d) : Rn Γ mX10_length [.ref 57, .int k] h sz (qM h sz d (aLength d k)) := by
  refine x_enter 0 (by decide) rfl ?_
  obtain ⟨_, _, _, w57⟩ := hM.w57
  have hns := hd.2.1.2.1
  refine x_iload dX10_length_0 rfl ?_
  refine x_k dX10_length_1 ?_
  refine x_aload dX10_length_2 rfl ?_
  refine x_get fX10_137 dX10_length_3 (by first | assumption | rfl) ?_
  refine x_k dX10_length_6 ?_
  refine x_isub dX10_length_7 ?_
  refine x_S3i lX10_92 (Rm.of rfl) (cc1 := 0) (cn1 := 0) rfl rfl (Nat.le_of_ble_eq_true rfl) dX10_length_8 (r_in k 0 (nI (d_ns d) - 1)) ?_
  refine x_if_eq dX10_length_11 (fun b11 => ?_) (fun b11 => ?_)
  · try simp only [i01, Classical.not_not] at b11
    refine x_k dX10_length_22 ?_
    refine x_iret (ty := .int) dX10_length_24 rfl rfl (Nat.zero_le _) (Nat.zero_le _) ?_
    exact ⟨by rw [aLength, if_neg (by rw [le_pred (by omega)] at b11; exact b11)], rfl, hM, fun _ _ => rfl⟩
  · try simp only [i01, Classical.not_not] at b11
    rw [le_pred (by omega)] at b11
    obtain ⟨i, hi, rfl⟩ := below b11.1 b11.2 (by omega)
    refine x_aload dX10_length_14 rfl ?_
    refine x_iload dX10_length_15 rfl ?_
    refine x_V1q lX10_175 (Rm.of rfl) (cc1 := 0) (cn1 := 0) rfl rfl (Nat.le_of_ble_eq_true rfl) dX10_length_16 (by first | assumption | rfl) (m_lengthOf hM hd hi) ?_
    rintro _ h2 _ ⟨rfl, rfl, hM2, hR2, hF2⟩
    refine x_goto dX10_length_19 ?_
    refine x_iret (ty := .int) dX10_length_24 rfl rfl (Nat.zero_le _) (Nat.zero_le _) ?_
    exact ⟨by rw [aLength, if_pos b11, nI_clamp (by omega)], rfl, hM2, hF2⟩
end MOps
