/-! the class's world, but for rows and deeds; the calls on the stroke -/
def XA (h : Hp) (d : DT) : Prop := ∃ ow pr od kd sp ins : Nat → Int32,
  (h 5 = cTx ∧ h 6 = cT 7 (nI (d_n0 d)) ∧ h 7 = ia 30 (d_b0 d) ∧ h 8 = cT 9 (nI (d_n1 d)) ∧ h 9 = ia 24 (d_b1 d)) ∧
  (h 10 = cSt (nI (d_H d)) (nI (d_N d)) ∧ h 11 = ia 8 ow ∧ h 12 = ia 8 pr ∧ h 13 = ia 8 od ∧ h 14 = ia 8 kd ∧ h 15 = ia 8 sp ∧ h 16 = ia 9 ins) ∧
  (h 17 = cSa (nI (d_L d)) (nI (d_ns d)) ∧ h 18 = ia 12 (d_sh d) ∧ h 19 = ia 12 (d_sb d)) ∧
  (h 25 = cTa ∧ h 26 = ia 64 (d_w d) ∧ h 27 = ia 64 (d_l d)) ∧
  (h 45 = cF (nI (d_nf d)) ∧ h 46 = ia 8 (d_fp d) ∧ h 47 = ia 8 (d_fk d)) ∧
  (h 48 = cShs ∧ (h 49 = cSh 50 (d_fo d 0) (d_si d 0) ∧ h 50 = ia 48 (d_it d 0)) ∧ (h 51 = cSh 52 (d_fo d 1) (d_si d 1) ∧ h 52 = ia 48 (d_it d 1)) ∧ (h 53 = cSh 54 (d_fo d 2) (d_si d 2) ∧ h 54 = ia 48 (d_it d 2)) ∧ h 55 = cSh 56 (d_fo d 3) (d_si d 3) ∧ h 56 = ia 48 (d_it d 3)) ∧
  (∀ j, j < d_H d → ow j = nI (ownN (d_b0 d) j) ∧ pr j = nI (priN (d_b0 d) j)) ∧ (∀ q, q < 8 → od q = nI (msk (fun j => decide (ownN (d_b0 d) j = q)) (d_H d))) ∧
  (∀ p, p < d_N d → kd p = nI (kinN (d_b1 d) p) ∧ sp p = nI (posN (d_H d) (d_b1 d) p)) ∧ ∀ s, s < 9 → ins s = nI (insM (d_N d) (posN (d_H d) (d_b1 d)) s)
def XK (h : Hp) (d : DT) : Prop := ∃ (ss so dn ln : Int32) (f g kf tf : Nat → Int32), h 4 = cX ss (d_fi d) ∧ h 20 = cK 21 22 23 24 so dn ln ∧ h 21 = ia 8 f ∧ h 22 = ia 8 g ∧ h 23 = ia 8 kf ∧ h 24 = ia 8 tf ∧ skOK d ss so dn ln f g kf tf
/-- nothing has changed but the stroke and that it stands -/
def frS (h h' : Hp) : Prop := ∀ k, k ≠ 4 → (k < 20 ∨ 24 < k) → h' k = h k
theorem frS.trans {h1 h2 h3 : Hp} (a : frS h1 h2) (b : frS h2 h3) : frS h1 h3 := fun k h4 hk => (b k h4 hk).trans (a k h4 hk)
theorem XA.frS {h h' : Hp} {d : DT} (hA : XA h d) (hf : frS h h') : XA h' d := by
  have e : ∀ k, k ≠ 4 → (k < 20 ∨ 24 < k) → h' k = h k := hf
  obtain ⟨ow, pr, od, kd, sp, ins, a1, a2, a3, a4, a5, a6, a7⟩ := hA
  refine ⟨ow, pr, od, kd, sp, ins, ?_, ?_, ?_, ?_, ?_, ?_, a7⟩
  · rw [e 5 (by decide) (by decide), e 6 (by decide) (by decide), e 7 (by decide) (by decide), e 8 (by decide) (by decide), e 9 (by decide) (by decide)]; exact a1
  · rw [e 10 (by decide) (by decide), e 11 (by decide) (by decide), e 12 (by decide) (by decide), e 13 (by decide) (by decide), e 14 (by decide) (by decide), e 15 (by decide) (by decide), e 16 (by decide) (by decide)]; exact a2
  · rw [e 17 (by decide) (by decide), e 18 (by decide) (by decide), e 19 (by decide) (by decide)]; exact a3
  · rw [e 25 (by decide) (by decide), e 26 (by decide) (by decide), e 27 (by decide) (by decide)]; exact a4
  · rw [e 45 (by decide) (by decide), e 46 (by decide) (by decide), e 47 (by decide) (by decide)]; exact a5
  · rw [e 48 (by decide) (by decide), e 49 (by decide) (by decide), e 50 (by decide) (by decide), e 51 (by decide) (by decide), e 52 (by decide) (by decide), e 53 (by decide) (by decide), e 54 (by decide) (by decide), e 55 (by decide) (by decide), e 56 (by decide) (by decide)]; exact a6
section XOps
variable {Γ : GX} {h : Hp} {sz : Nat} {d : DT}
theorem XK.w4 (hK : XK h d) : ∃ ss : Int32, h 4 = cX ss (d_fi d) := by
  obtain ⟨ss, so, dn, ln, f, g, kf, tf, h4, -⟩ := hK
  exact ⟨ss, h4⟩
theorem x_behind {k : Nat} (hA : XA h d) (hK : XK h d) (hd : okD d) (hk : k ≤ d_ns d) : Rn Γ mX9_behind [.ref 4, .int (nI k)] h sz (fun r h' sz' => r = some (.ref 20) ∧ sz = sz' ∧ XA h' d ∧ XK h' d ∧ frS h h' ∧ ∃ f g kf tf : Nat → Int32, skF (d_H d) (d_run d k) f g kf tf ∧ h' 20 = cK 21 22 23 24 (soN (d_run d k).2.2.1) (nI k) (nI (d_run d k).2.2.2) ∧ h' 21 = ia 8 f ∧ h' 22 = ia 8 g ∧ h' 23 = ia 8 kf ∧ h' 24 = ia 8 tf) := by
  obtain ⟨ow, pr, od, kd, sp, ins, a1, ⟨a10, a11, a12, a13, a14, a15, a16⟩, ⟨a17, a18, a19⟩, a4, a5, a6, f1, f2, f3, f4⟩ := id hA
  obtain ⟨ss, so, dn, ln, f, g, kf, tf, h4, h20, h21, h22, h23, h24, hsk⟩ := hK
  refine (r_behind h4 a10 a11 a13 a16 a17 a18 a19 h20 h21 h22 h23 h24 (fun j hj => (f1 j hj).1) f2 f4 hsk hd hk).mono ?_
  rintro _ _ _ ⟨rfl, rfl, f', g', kf', tf', hs, rfl⟩
  have hf : frS h (beH h d k (d_fi d) f' g' kf' tf') := by
    intro j h4 hj
    simp only [va_up]
    (repeat' split) <;> first | rfl | omega
  exact ⟨rfl, rfl, hA.frS hf, ⟨1, _, _, _, f', g', kf', tf', rfl, rfl, rfl, rfl, rfl, rfl, Or.inr ⟨rfl, k, hk, rfl, rfl, rfl, hs⟩⟩, hf, f', g', kf', tf', hs, rfl, rfl, rfl, rfl, rfl⟩
def qX (h : Hp) (sz : Nat) (d : DT) (a : Int32) : QT := fun r h' sz' => r = some (.int a) ∧ sz = sz' ∧ XA h' d ∧ XK h' d ∧ frS h h'
theorem frS.rfl' : frS h h := fun _ _ _ => rfl
theorem c_whose (t k : Int32) (hA : XA h d) (hK : XK h d) (hd : okD d) : Rn Γ mX9_whose [.ref 4, .int t, .int k] h sz (qX h sz d (aWhose d t k)) := by
  refine x_enter 0 (by decide) rfl ?_
  obtain ⟨ow, pr, od, kd, sp, ins, a1, ⟨a10, a11, a12, a13, a14, a15, a16⟩, ⟨a17, a18, a19⟩, a4, a5, a6, f1, f2, f3, f4⟩ := id hA
  obtain ⟨ss, h4⟩ := hK.w4
  have hH8 : d_H d ≤ 8 := (hN_ok hd.1.1).1
  have hns := hd.2.1.2.1
  refine x_aload dX9_whose_0 rfl ?_
  refine x_iload dX9_whose_1 rfl ?_
  refine x_V1i lX9_102 (Rm.of rfl) (cc1 := 0) (cn1 := 0) rfl rfl (Nat.le_of_ble_eq_true rfl) dX9_whose_2 (by first | assumption | rfl) (r_noHouse h4 a10 t) ?_
  refine x_if_ne dX9_whose_5 (fun b5 => ?_) (fun b5 => ?_)
  · try simp only [i01, Classical.not_not] at b5
    refine x_k dX9_whose_23 ?_
    refine x_iret (ty := .int) dX9_whose_25 rfl rfl (Nat.zero_le _) (Nat.zero_le _) ?_
    refine ⟨?_, rfl, hA, hK, frS.rfl'⟩
    simp only [Int32.lt_iff_toInt_lt, Int32.le_iff_toInt_le] at *
    rw [aWhose, if_neg]
    simp only [Int32.lt_iff_toInt_lt, Int32.le_iff_toInt_le]
    omega
  · try simp only [i01, Classical.not_not] at b5
    refine x_iload dX9_whose_8 rfl ?_
    refine x_if_lt dX9_whose_9 (fun b9 => ?_) (fun b9 => ?_)
    · refine x_k dX9_whose_23 ?_
      refine x_iret (ty := .int) dX9_whose_25 rfl rfl (Nat.zero_le _) (Nat.zero_le _) ?_
      refine ⟨?_, rfl, hA, hK, frS.rfl'⟩
      simp only [Int32.lt_iff_toInt_lt, Int32.le_iff_toInt_le] at *
      rw [aWhose, if_neg]
      simp only [Int32.lt_iff_toInt_lt, Int32.le_iff_toInt_le]
      omega
    · refine x_iload dX9_whose_12 rfl ?_
      refine x_aload dX9_whose_13 rfl ?_
      refine x_get fX9_28 dX9_whose_14 (by first | assumption | rfl) ?_
      refine x_get fX9_143 dX9_whose_17 (by first | assumption | rfl) ?_
      refine x_icmp_le dX9_whose_20 (fun b20 => ?_) (fun b20 => ?_)
      · have c1 : 0 ≤ t ∧ t < nI (d_H d) := by simp only [Int32.lt_iff_toInt_lt, Int32.le_iff_toInt_le] at *; omega
        have c2 : 0 ≤ k ∧ k ≤ nI (d_ns d) := by simp only [Int32.lt_iff_toInt_lt, Int32.le_iff_toInt_le] at *; omega
        obtain ⟨j, hj, rfl⟩ := upto c2.1 c2.2 (by omega)
        obtain ⟨i, hi, rfl⟩ := below c1.1 c1.2 (by omega)
        refine x_aload dX9_whose_26 rfl ?_
        refine x_iload dX9_whose_27 rfl ?_
        refine x_V1q lX9_162 (Rm.of rfl) (cc1 := 0) (cn1 := 0) rfl rfl (Nat.le_of_ble_eq_true rfl) dX9_whose_28 (by first | assumption | rfl) (x_behind hA hK hd hj) ?_
        rintro _ h2 _ ⟨rfl, rfl, hA2, hK2, hF2, f, g, kf, tf, hs, s20, s21, s22, s23, s24⟩
        refine x_get fX9_166 dX9_whose_31 (by first | assumption | rfl) ?_
        refine x_iload dX9_whose_34 rfl ?_
        refine x_ialdn dX9_whose_35 (by first | assumption | rfl) ⟨by first | omega | decide, by decide⟩ ?_
        refine x_iret (ty := .int) dX9_whose_36 rfl rfl (Nat.zero_le _) (Nat.zero_le _) ?_
        exact ⟨by rw [aWhose, if_pos ⟨c1, c2⟩, nI_clamp (by omega), nI_clamp (by omega), (hs.1 i hi).1], rfl, hA2, hK2, hF2⟩
      · refine x_k dX9_whose_23 ?_
        refine x_iret (ty := .int) dX9_whose_25 rfl rfl (Nat.zero_le _) (Nat.zero_le _) ?_
        refine ⟨?_, rfl, hA, hK, frS.rfl'⟩
        simp only [Int32.lt_iff_toInt_lt, Int32.le_iff_toInt_le] at *
        rw [aWhose, if_neg]
        simp only [Int32.lt_iff_toInt_lt, Int32.le_iff_toInt_le]
        omega
theorem c_keeper (t k : Int32) (hA : XA h d) (hK : XK h d) (hd : okD d) : Rn Γ mX9_keeper [.ref 4, .int t, .int k] h sz (qX h sz d (aKeeper d t k)) := by
  refine x_enter 0 (by decide) rfl ?_
  obtain ⟨ow, pr, od, kd, sp, ins, a1, ⟨a10, a11, a12, a13, a14, a15, a16⟩, ⟨a17, a18, a19⟩, a4, a5, a6, f1, f2, f3, f4⟩ := id hA
  obtain ⟨ss, h4⟩ := hK.w4
  have hP8 : d_N d ≤ 8 := (pN_ok hd.1.2.1).1
  have hns := hd.2.1.2.1
  refine x_aload dX9_keeper_0 rfl ?_
  refine x_iload dX9_keeper_1 rfl ?_
  refine x_V1i lX9_115 (Rm.of rfl) (cc1 := 0) (cn1 := 0) rfl rfl (Nat.le_of_ble_eq_true rfl) dX9_keeper_2 (by first | assumption | rfl) (r_nobody h4 a10 t) ?_
  refine x_if_ne dX9_keeper_5 (fun b5 => ?_) (fun b5 => ?_)
  · try simp only [i01, Classical.not_not] at b5
    refine x_k dX9_keeper_23 ?_
    refine x_iret (ty := .int) dX9_keeper_25 rfl rfl (Nat.zero_le _) (Nat.zero_le _) ?_
    refine ⟨?_, rfl, hA, hK, frS.rfl'⟩
    simp only [Int32.lt_iff_toInt_lt, Int32.le_iff_toInt_le] at *
    rw [aKeeper, if_neg]
    simp only [Int32.lt_iff_toInt_lt, Int32.le_iff_toInt_le]
    omega
  · try simp only [i01, Classical.not_not] at b5
    refine x_iload dX9_keeper_8 rfl ?_
    refine x_if_lt dX9_keeper_9 (fun b9 => ?_) (fun b9 => ?_)
    · refine x_k dX9_keeper_23 ?_
      refine x_iret (ty := .int) dX9_keeper_25 rfl rfl (Nat.zero_le _) (Nat.zero_le _) ?_
      refine ⟨?_, rfl, hA, hK, frS.rfl'⟩
      simp only [Int32.lt_iff_toInt_lt, Int32.le_iff_toInt_le] at *
      rw [aKeeper, if_neg]
      simp only [Int32.lt_iff_toInt_lt, Int32.le_iff_toInt_le]
      omega
    · refine x_iload dX9_keeper_12 rfl ?_
      refine x_aload dX9_keeper_13 rfl ?_
      refine x_get fX9_28 dX9_keeper_14 (by first | assumption | rfl) ?_
      refine x_get fX9_143 dX9_keeper_17 (by first | assumption | rfl) ?_
      refine x_icmp_le dX9_keeper_20 (fun b20 => ?_) (fun b20 => ?_)
      · have c1 : 0 ≤ t ∧ t < nI (d_N d) := by simp only [Int32.lt_iff_toInt_lt, Int32.le_iff_toInt_le] at *; omega
        have c2 : 0 ≤ k ∧ k ≤ nI (d_ns d) := by simp only [Int32.lt_iff_toInt_lt, Int32.le_iff_toInt_le] at *; omega
        obtain ⟨j, hj, rfl⟩ := upto c2.1 c2.2 (by omega)
        obtain ⟨i, hi, rfl⟩ := below c1.1 c1.2 (by omega)
        refine x_aload dX9_keeper_26 rfl ?_
        refine x_iload dX9_keeper_27 rfl ?_
        refine x_V1q lX9_162 (Rm.of rfl) (cc1 := 0) (cn1 := 0) rfl rfl (Nat.le_of_ble_eq_true rfl) dX9_keeper_28 (by first | assumption | rfl) (x_behind hA hK hd hj) ?_
        rintro _ h2 _ ⟨rfl, rfl, hA2, hK2, hF2, f, g, kf, tf, hs, s20, s21, s22, s23, s24⟩
        refine x_get fX9_167 dX9_keeper_31 (by first | assumption | rfl) ?_
        refine x_iload dX9_keeper_34 rfl ?_
        refine x_ialdn dX9_keeper_35 (by first | assumption | rfl) ⟨by first | omega | decide, by decide⟩ ?_
        refine x_iret (ty := .int) dX9_keeper_36 rfl rfl (Nat.zero_le _) (Nat.zero_le _) ?_
        exact ⟨by rw [aKeeper, if_pos ⟨c1, c2⟩, nI_clamp (by omega), nI_clamp (by omega), (hs.2.2.1 i (by omega)).1], rfl, hA2, hK2, hF2⟩
      · refine x_k dX9_keeper_23 ?_
        refine x_iret (ty := .int) dX9_keeper_25 rfl rfl (Nat.zero_le _) (Nat.zero_le _) ?_
        refine ⟨?_, rfl, hA, hK, frS.rfl'⟩
        simp only [Int32.lt_iff_toInt_lt, Int32.le_iff_toInt_le] at *
        rw [aKeeper, if_neg]
        simp only [Int32.lt_iff_toInt_lt, Int32.le_iff_toInt_le]
        omega
theorem c_sold (t k : Int32) (hA : XA h d) (hK : XK h d) (hd : okD d) : Rn Γ mX9_sold [.ref 4, .int t, .int k] h sz (qX h sz d (aSold d t k)) := by
  refine x_enter 0 (by decide) rfl ?_
  obtain ⟨ow, pr, od, kd, sp, ins, a1, ⟨a10, a11, a12, a13, a14, a15, a16⟩, ⟨a17, a18, a19⟩, a4, a5, a6, f1, f2, f3, f4⟩ := id hA
  obtain ⟨ss, h4⟩ := hK.w4
  have hP8 : d_N d ≤ 8 := (pN_ok hd.1.2.1).1
  have hns := hd.2.1.2.1
  refine x_aload dX9_sold_0 rfl ?_
  refine x_iload dX9_sold_1 rfl ?_
  refine x_V1i lX9_115 (Rm.of rfl) (cc1 := 0) (cn1 := 0) rfl rfl (Nat.le_of_ble_eq_true rfl) dX9_sold_2 (by first | assumption | rfl) (r_nobody h4 a10 t) ?_
  refine x_if_ne dX9_sold_5 (fun b5 => ?_) (fun b5 => ?_)
  · try simp only [i01, Classical.not_not] at b5
    refine x_k dX9_sold_23 ?_
    refine x_iret (ty := .int) dX9_sold_25 rfl rfl (Nat.zero_le _) (Nat.zero_le _) ?_
    refine ⟨?_, rfl, hA, hK, frS.rfl'⟩
    simp only [Int32.lt_iff_toInt_lt, Int32.le_iff_toInt_le] at *
    rw [aSold, if_neg]
    simp only [Int32.lt_iff_toInt_lt, Int32.le_iff_toInt_le]
    omega
  · try simp only [i01, Classical.not_not] at b5
    refine x_iload dX9_sold_8 rfl ?_
    refine x_if_lt dX9_sold_9 (fun b9 => ?_) (fun b9 => ?_)
    · refine x_k dX9_sold_23 ?_
      refine x_iret (ty := .int) dX9_sold_25 rfl rfl (Nat.zero_le _) (Nat.zero_le _) ?_
      refine ⟨?_, rfl, hA, hK, frS.rfl'⟩
      simp only [Int32.lt_iff_toInt_lt, Int32.le_iff_toInt_le] at *
      rw [aSold, if_neg]
      simp only [Int32.lt_iff_toInt_lt, Int32.le_iff_toInt_le]
      omega
    · refine x_iload dX9_sold_12 rfl ?_
      refine x_aload dX9_sold_13 rfl ?_
      refine x_get fX9_28 dX9_sold_14 (by first | assumption | rfl) ?_
      refine x_get fX9_143 dX9_sold_17 (by first | assumption | rfl) ?_
      refine x_icmp_le dX9_sold_20 (fun b20 => ?_) (fun b20 => ?_)
      · have c1 : 0 ≤ t ∧ t < nI (d_N d) := by simp only [Int32.lt_iff_toInt_lt, Int32.le_iff_toInt_le] at *; omega
        have c2 : 0 ≤ k ∧ k ≤ nI (d_ns d) := by simp only [Int32.lt_iff_toInt_lt, Int32.le_iff_toInt_le] at *; omega
        obtain ⟨j, hj, rfl⟩ := upto c2.1 c2.2 (by omega)
        obtain ⟨i, hi, rfl⟩ := below c1.1 c1.2 (by omega)
        refine x_aload dX9_sold_26 rfl ?_
        refine x_iload dX9_sold_27 rfl ?_
        refine x_V1q lX9_162 (Rm.of rfl) (cc1 := 0) (cn1 := 0) rfl rfl (Nat.le_of_ble_eq_true rfl) dX9_sold_28 (by first | assumption | rfl) (x_behind hA hK hd hj) ?_
        rintro _ h2 _ ⟨rfl, rfl, hA2, hK2, hF2, f, g, kf, tf, hs, s20, s21, s22, s23, s24⟩
        refine x_get fX9_170 dX9_sold_31 (by first | assumption | rfl) ?_
        refine x_iload dX9_sold_34 rfl ?_
        refine x_ialdn dX9_sold_35 (by first | assumption | rfl) ⟨by first | omega | decide, by decide⟩ ?_
        refine x_iret (ty := .int) dX9_sold_36 rfl rfl (Nat.zero_le _) (Nat.zero_le _) ?_
        exact ⟨by rw [aSold, if_pos ⟨c1, c2⟩, nI_clamp (by omega), nI_clamp (by omega), hs.2.2.2 i (by omega)], rfl, hA2, hK2, hF2⟩
      · refine x_k dX9_sold_23 ?_
        refine x_iret (ty := .int) dX9_sold_25 rfl rfl (Nat.zero_le _) (Nat.zero_le _) ?_
        refine ⟨?_, rfl, hA, hK, frS.rfl'⟩
        simp only [Int32.lt_iff_toInt_lt, Int32.le_iff_toInt_le] at *
        rw [aSold, if_neg]
        simp only [Int32.lt_iff_toInt_lt, Int32.le_iff_toInt_le]
        omega
theorem c_length (k : Int32) (hA : XA h d) (hK : XK h d) (hd : okD d) : Rn Γ mX9_length [.ref 4, .int k] h sz (qX h sz d (aLength d k)) := by
  refine x_enter 0 (by decide) rfl ?_
  obtain ⟨ow, pr, od, kd, sp, ins, a1, ⟨a10, a11, a12, a13, a14, a15, a16⟩, ⟨a17, a18, a19⟩, a4, a5, a6, f1, f2, f3, f4⟩ := id hA
  obtain ⟨ss, h4⟩ := hK.w4
  have hns := hd.2.1.2.1
  refine x_iload dX9_length_0 rfl ?_
  refine x_if_lt dX9_length_1 (fun b1 => ?_) (fun b1 => ?_)
  · refine x_k dX9_length_15 ?_
    refine x_iret (ty := .int) dX9_length_17 rfl rfl (Nat.zero_le _) (Nat.zero_le _) ?_
    refine ⟨?_, rfl, hA, hK, frS.rfl'⟩
    simp only [Int32.lt_iff_toInt_lt, Int32.le_iff_toInt_le] at *
    rw [aLength, if_neg]
    simp only [Int32.lt_iff_toInt_lt, Int32.le_iff_toInt_le]
    omega
  · refine x_iload dX9_length_4 rfl ?_
    refine x_aload dX9_length_5 rfl ?_
    refine x_get fX9_28 dX9_length_6 (by first | assumption | rfl) ?_
    refine x_get fX9_143 dX9_length_9 (by first | assumption | rfl) ?_
    refine x_icmp_lt dX9_length_12 (fun b12 => ?_) (fun b12 => ?_)
    · have c1 : 0 ≤ k ∧ k < nI (d_ns d) := by simp only [Int32.lt_iff_toInt_lt, Int32.le_iff_toInt_le] at *; omega
      obtain ⟨j, hj, rfl⟩ := below c1.1 c1.2 (by omega)
      refine x_aload dX9_length_18 rfl ?_
      refine x_iload dX9_length_19 rfl ?_
      refine x_k dX9_length_20 ?_
      refine x_iadd dX9_length_21 ?_
      rw [nI_1]
      refine x_V1q lX9_162 (Rm.of rfl) (cc1 := 0) (cn1 := 0) rfl rfl (Nat.le_of_ble_eq_true rfl) dX9_length_22 (by first | assumption | rfl) (x_behind hA hK hd (Nat.succ_le_of_lt hj)) ?_
      rintro _ h2 _ ⟨rfl, rfl, hA2, hK2, hF2, f, g, kf, tf, hs, s20, s21, s22, s23, s24⟩
      refine x_get fX9_173 dX9_length_25 (by first | assumption | rfl) ?_
      refine x_iret (ty := .int) dX9_length_28 rfl rfl (Nat.zero_le _) (Nat.zero_le _) ?_
      exact ⟨by rw [aLength, if_pos c1, nI_clamp (by omega)], rfl, hA2, hK2, hF2⟩
    · refine x_k dX9_length_15 ?_
      refine x_iret (ty := .int) dX9_length_17 rfl rfl (Nat.zero_le _) (Nat.zero_le _) ?_
      refine ⟨?_, rfl, hA, hK, frS.rfl'⟩
      simp only [Int32.lt_iff_toInt_lt, Int32.le_iff_toInt_le] at *
      rw [aLength, if_neg]
      simp only [Int32.lt_iff_toInt_lt, Int32.le_iff_toInt_le]
      omega
end XOps
