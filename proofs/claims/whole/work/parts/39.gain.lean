/-! gain -/
theorem accF_a (a : Int32) (f : Nat → Int32) : ∀ n, accF a f n = a + accF 0 f n
  | 0 => (Int32.add_zero a).symm
  | n + 1 => by rw [accF, accF, accF_a a f n, Int32.add_assoc]
theorem accF_nI (g : Nat → Nat) : ∀ n, accF 0 (fun j => nI (g j)) n = nI (sumN g n)
  | 0 => rfl
  | n + 1 => by rw [accF, accF_nI g n, sumN, nI_add]
noncomputable def aGain (d : DT) (t : Int32) : Int32 := if 0 ≤ t ∧ t < nI (d_N d) then gnS d (d_run d (d_ns d)) t.toNatClampNeg else -100002
def pcf (d : DT) (s : SS) (p : Nat) : Nat → Int32 := fun j => if s.1 j = p then nI (priN (d_b0 d) j) else 0
def wcf (d : DT) (s : SS) (p : Nat) : Nat → Int32 := fun q => if q ≠ p ∧ s.2.1 q = p then d_w d (8 * p + q) else 0
theorem gnS_x (d : DT) (s : SS) (p : Nat) : accF (accF 0 (pcf d s p) (d_H d)) (wcf d s p) (d_N d) = gnS d s p := by
  rw [accF_a, gnS, wthS, prcS, ← accF_nI]
  congr 2
  funext j
  simp only [pcf]
  split <;> rfl
theorem gnS_m (d : DT) (s : SS) (p : Nat) : accF (accF 0 (wcf d s p) (d_N d)) (pcf d s p) (d_H d) = gnS d s p := by
  rw [← gnS_x, accF_a, accF_a (accF 0 (pcf d s p) (d_H d)), Int32.add_comm]
section Gain
variable {Γ : GX} {h : Hp} {sz : Nat} {d d0 : DT}
theorem XR.frS {h' : Hp} (hR : XR h sz d) (hf : frS h h') : XR h' sz d := hR.of (fun k hk => hf k (by omega) (by omega))
theorem XD.frS {h' : Hp} (hD : XD h sz d) (hf : frS h h') : XD h' sz d := hD.of (fun k hk => hf k (by omega) (by omega))
theorem frS.X {h' : Hp} (hf : frS h h') : frX h h' := fun k hk => hf k (by omega) (by omega)
theorem qX_W {r : Option Value} {h' : Hp} {sz' : Nat} {a : Int32} (hR : XR h sz d) (hD : XD h sz d) (q : qX h sz d a r h' sz') : qW h sz d a r h' sz' := by
  obtain ⟨q1, rfl, q3, q4, q5⟩ := q
  exact ⟨q1, Nat.le_refl _, ⟨q3, q4, hR.frS q5, hD.frS q5⟩, q5.X⟩
theorem c_gain (t : Int32) (hA : XA h d) (hK : XK h d) (hd : okD d) : Rn Γ mX9_gain [.ref 4, .int t] h sz (qX h sz d (aGain d t)) := by
  refine x_enter 3 (by decide) rfl ?_
  obtain ⟨ow, pr, od, kd, sp, ins, a1, ⟨a10, a11, a12, a13, a14, a15, a16⟩, ⟨a17, a18, a19⟩, a4, a5, a6, f1, f2, f3, f4⟩ := id hA
  obtain ⟨ss, h4⟩ := hK.w4
  have hH8 : d_H d ≤ 8 := (hN_ok hd.1.1).1
  have hP8 : d_N d ≤ 8 := (pN_ok hd.1.2.1).1
  have hns := hd.2.1.2.1
  have J11 : (0 ≤ t ∧ t < nI (d_N d)) → Ex Γ mX9_gain (gx_Z Γ mX9_gain (qX h sz d (aGain d t))) 0 0 11 [.ref 4, .int t, .retAddr 0, .retAddr 0, .retAddr 0] [] h sz := by
    intro hc
    obtain ⟨i, hi, rfl⟩ := below hc.1 hc.2 (by omega)
    have ea : aGain d (nI i) = gnS d (d_run d (d_ns d)) i := by rw [aGain, if_pos hc, nI_clamp (by omega)]
    rw [ea, ← gnS_x]
    refine x_aload dX9_gain_11 rfl ?_
    refine x_aload dX9_gain_12 rfl ?_
    refine x_get fX9_28 dX9_gain_13 (by first | assumption | rfl) ?_
    refine x_get fX9_143 dX9_gain_16 (by first | assumption | rfl) ?_
    refine x_V1q lX9_162 (Rm.of rfl) (cc1 := 0) (cn1 := 0) rfl rfl (Nat.le_of_ble_eq_true rfl) dX9_gain_19 (by first | assumption | rfl) (x_behind hA hK hd (Nat.le_refl _)) ?_
    rintro _ h2 _ ⟨rfl, rfl, hA2, hK2, hF2, f, g, kf, tf, hs, s20, s21, s22, s23, s24⟩
    clear a1 a10 a11 a12 a13 a14 a15 a16 a17 a18 a19 a4 a5 a6 f1 f2 f3 f4 h4
    obtain ⟨ow, pr, od, kd, sp, ins, a1, ⟨a10, a11, a12, a13, a14, a15, a16⟩, ⟨a17, a18, a19⟩, ⟨a25, a26, a27⟩, a5, a6, f1, f2, f3, f4⟩ := id hA2
    obtain ⟨ss2, h4⟩ := hK2.w4
    refine x_astore dX9_gain_22 (Nat.le_of_ble_eq_true rfl) rfl ?_
    refine x_k dX9_gain_23 ?_
    refine x_istore dX9_gain_24 (Nat.le_of_ble_eq_true rfl) rfl ?_
    refine x_k dX9_gain_25 ?_
    refine x_istore dX9_gain_26 (Nat.le_of_ble_eq_true rfl) rfl ?_
    have J73 : Ex Γ mX9_gain (gx_Z Γ mX9_gain (qX h sz d (accF (accF 0 (pcf d (d_run d (d_ns d)) i) (d_H d)) (wcf d (d_run d (d_ns d)) i) (d_N d)))) 0 0 73 [.ref 4, .int (nI i), .ref 20, .int (accF 0 (pcf d (d_run d (d_ns d)) i) (d_H d)), .int (nI 0)] [] h2 sz := by
      refine (loopUp (P := fun p => Ex Γ mX9_gain _ 0 0 73 [.ref 4, .int (nI i), .ref 20, .int (accF (accF 0 (pcf d (d_run d (d_ns d)) i) (d_H d)) (wcf d (d_run d (d_ns d)) i) p), .int (nI p)] [] h2 sz) (d_N d) ?_ (fun p hp ih => ?_) 0 (Nat.zero_le _))
      · refine x_iload dX9_gain_73 rfl ?_
        refine x_aload dX9_gain_75 rfl ?_
        refine x_get fX9_21 dX9_gain_76 (by first | assumption | rfl) ?_
        refine x_get fX9_200 dX9_gain_79 (by first | assumption | rfl) ?_
        refine x_icmp_ge dX9_gain_82 (fun b82 => ?_) (fun b82 => ?_)
        · refine x_iload dX9_gain_121 rfl ?_
          refine x_iret (ty := .int) dX9_gain_122 rfl rfl (Nat.zero_le _) (Nat.zero_le _) ?_
          exact ⟨rfl, rfl, hA2, hK2, hF2⟩
        · exact absurd (Int32.le_refl _) b82
      · have e1 : nI p = nI i ↔ p = i := nI_eq (by omega) (by omega)
        have e2 : kf p = nI i ↔ (d_run d (d_ns d)).2.1 p = i := by rw [(hs.2.2.1 p (by omega)).1]; exact nI_eq (by have := (hs.2.2.1 p (by omega)).2; omega) (by omega)
        rw [accF, wcf] at ih
        refine x_iload dX9_gain_73 rfl ?_
        refine x_aload dX9_gain_75 rfl ?_
        refine x_get fX9_21 dX9_gain_76 (by first | assumption | rfl) ?_
        refine x_get fX9_200 dX9_gain_79 (by first | assumption | rfl) ?_
        refine x_icmp_ge dX9_gain_82 (fun b82 => ?_) (fun b82 => ?_)
        · exact absurd b82 (nI_ge hp (by omega))
        · refine x_iload dX9_gain_85 rfl ?_
          refine x_iload dX9_gain_87 rfl ?_
          refine x_icmp_eq dX9_gain_88 (fun b88 => ?_) (fun b88 => ?_)
          · refine x_inc1 dX9_gain_115 rfl (Nat.le_of_ble_eq_true rfl) rfl ?_
            refine x_goto dX9_gain_118 ?_
            first
              | rw [if_pos ⟨fun e => b88 (e1.mpr e), e2.mp (Classical.not_not.mp b99)⟩] at ih; exact ih
              | rw [if_pos ⟨fun e => b88 (e1.mpr e), e2.mp b99⟩] at ih; exact ih
              | rw [if_neg (fun z => b99 (e2.mpr z.2)), Int32.add_zero] at ih; exact ih
              | rw [if_neg (fun z => z.1 (e1.mp b88)), Int32.add_zero] at ih; exact ih
          · refine x_aload dX9_gain_91 rfl ?_
            refine x_get fX9_167 dX9_gain_92 (by first | assumption | rfl) ?_
            refine x_iload dX9_gain_95 rfl ?_
            refine x_ialdn dX9_gain_97 (by first | assumption | rfl) ⟨by first | omega | decide, by decide⟩ ?_
            refine x_iload dX9_gain_98 rfl ?_
            refine x_icmp_ne dX9_gain_99 (fun b99 => ?_) (fun b99 => ?_)
            · refine x_inc1 dX9_gain_115 rfl (Nat.le_of_ble_eq_true rfl) rfl ?_
              refine x_goto dX9_gain_118 ?_
              first
                | rw [if_pos ⟨fun e => b88 (e1.mpr e), e2.mp (Classical.not_not.mp b99)⟩] at ih; exact ih
                | rw [if_pos ⟨fun e => b88 (e1.mpr e), e2.mp b99⟩] at ih; exact ih
                | rw [if_neg (fun z => b99 (e2.mpr z.2)), Int32.add_zero] at ih; exact ih
                | rw [if_neg (fun z => z.1 (e1.mp b88)), Int32.add_zero] at ih; exact ih
            · refine x_iload dX9_gain_102 rfl ?_
              refine x_aload dX9_gain_103 rfl ?_
              refine x_get fX9_42 dX9_gain_104 (by first | assumption | rfl) ?_
              refine x_iload dX9_gain_107 rfl ?_
              refine x_iload dX9_gain_108 rfl ?_
              refine x_V2i lX9_203 (Rm.of rfl) (cc1 := 0) (cn1 := 0) rfl rfl (Nat.le_of_ble_eq_true rfl) dX9_gain_110 (by first | assumption | rfl) (r_worthOf (q := i) (p := p) a25 a26 (by omega) (by omega)) ?_
              refine x_iadd dX9_gain_113 ?_
              refine x_istore dX9_gain_114 (Nat.le_of_ble_eq_true rfl) rfl ?_
              refine x_inc1 dX9_gain_115 rfl (Nat.le_of_ble_eq_true rfl) rfl ?_
              refine x_goto dX9_gain_118 ?_
              first
                | rw [if_pos ⟨fun e => b88 (e1.mpr e), e2.mp (Classical.not_not.mp b99)⟩] at ih; exact ih
                | rw [if_pos ⟨fun e => b88 (e1.mpr e), e2.mp b99⟩] at ih; exact ih
                | rw [if_neg (fun z => b99 (e2.mpr z.2)), Int32.add_zero] at ih; exact ih
                | rw [if_neg (fun z => z.1 (e1.mp b88)), Int32.add_zero] at ih; exact ih
    refine (loopUp (P := fun p => Ex Γ mX9_gain _ 0 0 28 [.ref 4, .int (nI i), .ref 20, .int (accF 0 (pcf d (d_run d (d_ns d)) i) p), .int (nI p)] [] h2 sz) (d_H d) ?_ (fun p hp ih => ?_) 0 (Nat.zero_le _))
    · refine x_iload dX9_gain_28 rfl ?_
      refine x_aload dX9_gain_30 rfl ?_
      refine x_get fX9_21 dX9_gain_31 (by first | assumption | rfl) ?_
      refine x_get fX9_197 dX9_gain_34 (by first | assumption | rfl) ?_
      refine x_icmp_ge dX9_gain_37 (fun b37 => ?_) (fun b37 => ?_)
      · refine x_k dX9_gain_70 ?_
        refine x_istore dX9_gain_71 (Nat.le_of_ble_eq_true rfl) rfl ?_
        exact J73
      · exact absurd (Int32.le_refl _) b37
    · have e2 : f p = nI i ↔ (d_run d (d_ns d)).1 p = i := by rw [(hs.1 p hp).1]; exact nI_eq (by have := (hs.1 p hp).2; omega) (by omega)
      rw [accF, pcf, ← (f1 p hp).2] at ih
      refine x_iload dX9_gain_28 rfl ?_
      refine x_aload dX9_gain_30 rfl ?_
      refine x_get fX9_21 dX9_gain_31 (by first | assumption | rfl) ?_
      refine x_get fX9_197 dX9_gain_34 (by first | assumption | rfl) ?_
      refine x_icmp_ge dX9_gain_37 (fun b37 => ?_) (fun b37 => ?_)
      · exact absurd b37 (nI_ge hp (by omega))
      · refine x_aload dX9_gain_40 rfl ?_
        refine x_get fX9_166 dX9_gain_41 (by first | assumption | rfl) ?_
        refine x_iload dX9_gain_44 rfl ?_
        refine x_ialdn dX9_gain_46 (by first | assumption | rfl) ⟨by first | omega | decide, by decide⟩ ?_
        refine x_iload dX9_gain_47 rfl ?_
        refine x_icmp_ne dX9_gain_48 (fun b48 => ?_) (fun b48 => ?_)
        · refine x_inc1 dX9_gain_64 rfl (Nat.le_of_ble_eq_true rfl) rfl ?_
          refine x_goto dX9_gain_67 ?_
          first
            | rw [if_pos (e2.mp (Classical.not_not.mp b48))] at ih; exact ih
            | rw [if_pos (e2.mp b48)] at ih; exact ih
            | rw [if_neg (fun z => b48 (e2.mpr z)), Int32.add_zero] at ih; exact ih
        · refine x_iload dX9_gain_51 rfl ?_
          refine x_aload dX9_gain_52 rfl ?_
          refine x_get fX9_21 dX9_gain_53 (by first | assumption | rfl) ?_
          refine x_get fX9_109 dX9_gain_56 (by first | assumption | rfl) ?_
          refine x_iload dX9_gain_59 rfl ?_
          refine x_ialdn dX9_gain_61 (by first | assumption | rfl) ⟨by first | omega | decide, by decide⟩ ?_
          refine x_iadd dX9_gain_62 ?_
          refine x_istore dX9_gain_63 (Nat.le_of_ble_eq_true rfl) rfl ?_
          refine x_inc1 dX9_gain_64 rfl (Nat.le_of_ble_eq_true rfl) rfl ?_
          refine x_goto dX9_gain_67 ?_
          first
            | rw [if_pos (e2.mp (Classical.not_not.mp b48))] at ih; exact ih
            | rw [if_pos (e2.mp b48)] at ih; exact ih
            | rw [if_neg (fun z => b48 (e2.mpr z)), Int32.add_zero] at ih; exact ih
  refine x_aload dX9_gain_0 rfl ?_
  refine x_iload dX9_gain_1 rfl ?_
  refine x_V1i lX9_115 (Rm.of rfl) (cc1 := 0) (cn1 := 0) rfl rfl (Nat.le_of_ble_eq_true rfl) dX9_gain_2 (by first | assumption | rfl) (r_nobody h4 a10 t) ?_
  refine x_if_eq dX9_gain_5 (fun b5 => ?_) (fun b5 => ?_)
  · try simp only [i01, Classical.not_not] at b5
    exact J11 (by simp only [Int32.lt_iff_toInt_lt, Int32.le_iff_toInt_le] at *; omega)
  · try simp only [i01, Classical.not_not] at b5
    refine x_ldc kX9_180 dX9_gain_8 ?_
    refine x_iret (ty := .int) dX9_gain_10 rfl rfl (Nat.zero_le _) (Nat.zero_le _) ?_
    refine ⟨?_, rfl, hA, hK, frS.rfl'⟩
    rw [aGain, if_neg]
    simp only [Int32.lt_iff_toInt_lt, Int32.le_iff_toInt_le] at *
    omega
theorem m_gainBy {sa ll fa fi : Int32} {s : SS} {pr os kp tm : Nat → Int32} {p : Nat} (h57 : h 57 = cM (nI (d_H d)) (nI (d_N d)) sa ll fa fi) (h61 : h 61 = ia 9 pr) (h68 : h 68 = ia 9 os) (h69 : h 69 = ia 9 kp) (h72 : h 72 = ia 64 (d_w d)) (hpr : ∀ j, j < d_H d → pr j = nI (priN (d_b0 d) j)) (hk : mkF (d_H d) s os kp tm) (hd : okD d) (hp : p < 8) : Re Γ mX10_gainBy [.ref 57, .int (nI p)] h sz (some (.int (gnS d s p))) h sz := by
  refine x_enter 2 (by decide) rfl ?_
  have hH8 : d_H d ≤ 8 := (hN_ok hd.1.1).1
  have hP8 : d_N d ≤ 8 := (pN_ok hd.1.2.1).1
  rw [← gnS_m]
  refine x_k dX10_gainBy_0 ?_
  refine x_istore dX10_gainBy_1 (Nat.le_of_ble_eq_true rfl) rfl ?_
  refine x_k dX10_gainBy_2 ?_
  refine x_istore dX10_gainBy_3 (Nat.le_of_ble_eq_true rfl) rfl ?_
  have J53 : Ex Γ mX10_gainBy (gx_Z Γ mX10_gainBy (fun r' h' sz' => r' = some (.int (accF (accF 0 (wcf d s p) (d_N d)) (pcf d s p) (d_H d))) ∧ h' = h ∧ sz' = sz)) 0 0 53 [.ref 57, .int (nI p), .int (accF 0 (wcf d s p) (d_N d)), .int (nI 0)] [] h sz := by
    refine (loopUp (P := fun k => Ex Γ mX10_gainBy _ 0 0 53 [.ref 57, .int (nI p), .int (accF (accF 0 (wcf d s p) (d_N d)) (pcf d s p) k), .int (nI k)] [] h sz) (d_H d) ?_ (fun k hk' ih => ?_) 0 (Nat.zero_le _))
    · refine x_iload dX10_gainBy_53 rfl ?_
      refine x_aload dX10_gainBy_54 rfl ?_
      refine x_get fX10_96 dX10_gainBy_55 (by first | assumption | rfl) ?_
      refine x_icmp_ge dX10_gainBy_58 (fun b58 => ?_) (fun b58 => ?_)
      · refine x_iload dX10_gainBy_90 rfl ?_
        refine x_iret (ty := .int) dX10_gainBy_91 rfl rfl (Nat.zero_le _) (Nat.zero_le _) ?_
        exact ⟨rfl, rfl, rfl⟩
      · exact absurd (Int32.le_refl _) b58
    · have e2 : os k = nI p ↔ s.1 k = p := by rw [(hk.1 k hk').1]; exact nI_eq (by have := (hk.1 k hk').2; omega) (by omega)
      rw [accF, pcf, ← hpr k hk'] at ih
      refine x_iload dX10_gainBy_53 rfl ?_
      refine x_aload dX10_gainBy_54 rfl ?_
      refine x_get fX10_96 dX10_gainBy_55 (by first | assumption | rfl) ?_
      refine x_icmp_ge dX10_gainBy_58 (fun b58 => ?_) (fun b58 => ?_)
      · exact absurd b58 (nI_ge hk' (by omega))
      · refine x_iload dX10_gainBy_61 rfl ?_
        refine x_aload dX10_gainBy_62 rfl ?_
        refine x_get fX10_40 dX10_gainBy_63 (by first | assumption | rfl) ?_
        refine x_iload dX10_gainBy_66 rfl ?_
        refine x_ialdn dX10_gainBy_67 (by first | assumption | rfl) ⟨by first | omega | decide, by decide⟩ ?_
        refine x_iload dX10_gainBy_68 rfl ?_
        refine x_icmp_ne dX10_gainBy_69 (fun b69 => ?_) (fun b69 => ?_)
        · refine x_k dX10_gainBy_81 ?_
          refine x_iadd dX10_gainBy_82 ?_
          refine x_istore dX10_gainBy_83 (Nat.le_of_ble_eq_true rfl) rfl ?_
          refine x_inc1 dX10_gainBy_84 rfl (Nat.le_of_ble_eq_true rfl) rfl ?_
          refine x_goto dX10_gainBy_87 ?_
          first
            | rw [if_pos (e2.mp (Classical.not_not.mp b69))] at ih; exact ih
            | rw [if_pos (e2.mp b69)] at ih; exact ih
            | rw [if_neg (fun z => b69 (e2.mpr z))] at ih; exact ih
        · refine x_aload dX10_gainBy_72 rfl ?_
          refine x_get fX10_19 dX10_gainBy_73 (by first | assumption | rfl) ?_
          refine x_iload dX10_gainBy_76 rfl ?_
          refine x_ialdn dX10_gainBy_77 (by first | assumption | rfl) ⟨by first | omega | decide, by decide⟩ ?_
          refine x_goto dX10_gainBy_78 ?_
          refine x_iadd dX10_gainBy_82 ?_
          refine x_istore dX10_gainBy_83 (Nat.le_of_ble_eq_true rfl) rfl ?_
          refine x_inc1 dX10_gainBy_84 rfl (Nat.le_of_ble_eq_true rfl) rfl ?_
          refine x_goto dX10_gainBy_87 ?_
          first
            | rw [if_pos (e2.mp (Classical.not_not.mp b69))] at ih; exact ih
            | rw [if_pos (e2.mp b69)] at ih; exact ih
            | rw [if_neg (fun z => b69 (e2.mpr z))] at ih; exact ih
  refine (loopUp (P := fun k => Ex Γ mX10_gainBy _ 0 0 4 [.ref 57, .int (nI p), .int (accF 0 (wcf d s p) k), .int (nI k)] [] h sz) (d_N d) ?_ (fun k hk' ih => ?_) 0 (Nat.zero_le _))
  · refine x_iload dX10_gainBy_4 rfl ?_
    refine x_aload dX10_gainBy_5 rfl ?_
    refine x_get fX10_104 dX10_gainBy_6 (by first | assumption | rfl) ?_
    refine x_icmp_ge dX10_gainBy_9 (fun b9 => ?_) (fun b9 => ?_)
    · refine x_k dX10_gainBy_51 ?_
      refine x_istore dX10_gainBy_52 (Nat.le_of_ble_eq_true rfl) rfl ?_
      exact J53
    · exact absurd (Int32.le_refl _) b9
  · have e1 : nI k = nI p ↔ k = p := nI_eq (by omega) (by omega)
    have e2 : kp k = nI p ↔ s.2.1 k = p := by rw [(hk.2.1 k (by omega)).1]; exact nI_eq (by have := (hk.2.1 k (by omega)).2; omega) (by omega)
    rw [accF, wcf] at ih
    refine x_iload dX10_gainBy_4 rfl ?_
    refine x_aload dX10_gainBy_5 rfl ?_
    refine x_get fX10_104 dX10_gainBy_6 (by first | assumption | rfl) ?_
    refine x_icmp_ge dX10_gainBy_9 (fun b9 => ?_) (fun b9 => ?_)
    · exact absurd b9 (nI_ge hk' (by omega))
    · refine x_iload dX10_gainBy_12 rfl ?_
      refine x_iload dX10_gainBy_13 rfl ?_
      refine x_iload dX10_gainBy_14 rfl ?_
      refine x_icmp_eq dX10_gainBy_15 (fun b15 => ?_) (fun b15 => ?_)
      · refine x_k dX10_gainBy_42 ?_
        refine x_iadd dX10_gainBy_43 ?_
        refine x_istore dX10_gainBy_44 (Nat.le_of_ble_eq_true rfl) rfl ?_
        refine x_inc1 dX10_gainBy_45 rfl (Nat.le_of_ble_eq_true rfl) rfl ?_
        refine x_goto dX10_gainBy_48 ?_
        first
          | rw [if_pos ⟨fun e => b15 (e1.mpr e), e2.mp (Classical.not_not.mp b25)⟩] at ih; rw [ix8', nI_clamp (by omega)]; exact ih
          | rw [if_pos ⟨fun e => b15 (e1.mpr e), e2.mp b25⟩] at ih; rw [ix8', nI_clamp (by omega)]; exact ih
          | rw [if_neg (fun z => b25 (e2.mpr z.2))] at ih; exact ih
          | rw [if_neg (fun z => z.1 (e1.mp b15))] at ih; exact ih
      · refine x_aload dX10_gainBy_18 rfl ?_
        refine x_get fX10_43 dX10_gainBy_19 (by first | assumption | rfl) ?_
        refine x_iload dX10_gainBy_22 rfl ?_
        refine x_ialdn dX10_gainBy_23 (by first | assumption | rfl) ⟨by first | omega | decide, by decide⟩ ?_
        refine x_iload dX10_gainBy_24 rfl ?_
        refine x_icmp_ne dX10_gainBy_25 (fun b25 => ?_) (fun b25 => ?_)
        · refine x_k dX10_gainBy_42 ?_
          refine x_iadd dX10_gainBy_43 ?_
          refine x_istore dX10_gainBy_44 (Nat.le_of_ble_eq_true rfl) rfl ?_
          refine x_inc1 dX10_gainBy_45 rfl (Nat.le_of_ble_eq_true rfl) rfl ?_
          refine x_goto dX10_gainBy_48 ?_
          first
            | rw [if_pos ⟨fun e => b15 (e1.mpr e), e2.mp (Classical.not_not.mp b25)⟩] at ih; rw [ix8', nI_clamp (by omega)]; exact ih
            | rw [if_pos ⟨fun e => b15 (e1.mpr e), e2.mp b25⟩] at ih; rw [ix8', nI_clamp (by omega)]; exact ih
            | rw [if_neg (fun z => b25 (e2.mpr z.2))] at ih; exact ih
            | rw [if_neg (fun z => z.1 (e1.mp b15))] at ih; exact ih
        · refine x_aload dX10_gainBy_28 rfl ?_
          refine x_get fX10_52 dX10_gainBy_29 (by first | assumption | rfl) ?_
          refine x_k dX10_gainBy_32 ?_
          refine x_iload dX10_gainBy_34 rfl ?_
          refine x_imul dX10_gainBy_35 ?_
          refine x_iload dX10_gainBy_36 rfl ?_
          refine x_iadd dX10_gainBy_37 ?_
          refine x_iald dX10_gainBy_38 (by first | assumption | rfl) (in8' (by omega) (by omega)) ?_
          refine x_goto dX10_gainBy_39 ?_
          refine x_iadd dX10_gainBy_43 ?_
          refine x_istore dX10_gainBy_44 (Nat.le_of_ble_eq_true rfl) rfl ?_
          refine x_inc1 dX10_gainBy_45 rfl (Nat.le_of_ble_eq_true rfl) rfl ?_
          refine x_goto dX10_gainBy_48 ?_
          first
            | rw [if_pos ⟨fun e => b15 (e1.mpr e), e2.mp (Classical.not_not.mp b25)⟩] at ih; rw [ix8', nI_clamp (by omega)]; exact ih
            | rw [if_pos ⟨fun e => b15 (e1.mpr e), e2.mp b25⟩] at ih; rw [ix8', nI_clamp (by omega)]; exact ih
            | rw [if_neg (fun z => b25 (e2.mpr z.2))] at ih; exact ih
            | rw [if_neg (fun z => z.1 (e1.mp b15))] at ih; exact ih
theorem MW.w72 (hM : MW h d) : h 72 = ia 64 (d_w d) := by
  obtain ⟨hs, pe, ll, ty, tx, ow, pr, kd, pl, lw, wh, os, kp, tm, ls, lk, af, wt, be, th, fr, it, mv, -, -, ⟨a72, -⟩, -⟩ := hM
  exact a72
theorem m_gainOf {i : Nat} (hM : MW h d) (hd : okD d) (hi : i < d_N d) : Rn Γ mX10_gainOf [.ref 57, .int (nI i)] h sz (qM h sz d (gnS d (d_run d (d_ns d)) i)) := by
  refine x_enter 0 (by decide) rfl ?_
  obtain ⟨_, _, _, w57⟩ := hM.w57
  have hP8 : d_N d ≤ 8 := (pN_ok hd.1.2.1).1
  refine x_aload dX10_gainOf_0 rfl ?_
  refine x_aload dX10_gainOf_1 rfl ?_
  refine x_get fX10_137 dX10_gainOf_2 (by first | assumption | rfl) ?_
  refine x_V1q lX10_166 (Rm.of rfl) (cc1 := 0) (cn1 := 0) rfl rfl (Nat.le_of_ble_eq_true rfl) dX10_gainOf_5 (by first | assumption | rfl) (m_lays hM hd (Nat.le_refl _)) ?_
  rintro _ h2 _ ⟨rfl, rfl, hM2, hR2, hF2, ll, os, kp, tm, s57, s68, s69, s70, hk, -⟩
  obtain ⟨ll2, ow, pr, kd, pl, r57, r60, r61, r62, r63, ro, rp⟩ := id hR2
  refine x_aload dX10_gainOf_8 rfl ?_
  refine x_iload dX10_gainOf_9 rfl ?_
  refine x_V1i lX10_179 (Rm.of rfl) (cc1 := 0) (cn1 := 0) rfl rfl (Nat.le_of_ble_eq_true rfl) dX10_gainOf_10 (by first | assumption | rfl) (m_gainBy s57 r61 s68 s69 hM2.w72 (fun j hj => (ro j hj).2) hk hd (by omega)) ?_
  refine x_iret (ty := .int) dX10_gainOf_13 rfl rfl (Nat.zero_le _) (Nat.zero_le _) ?_
  exact ⟨rfl, rfl, hM2, hF2⟩
theorem m_gain (t : Int32) (hM : MW h d) (hd : okD d) : Rn Γ mX10_gain [.ref 57, .int t] h sz (qM h sz d (aGain d t)) := by
  refine x_enter 0 (by decide) rfl ?_
  obtain ⟨_, _, _, w57⟩ := hM.w57
  have hP8 : d_N d ≤ 8 := (pN_ok hd.1.2.1).1
  refine x_aload dX10_gain_0 rfl ?_
  refine x_iload dX10_gain_1 rfl ?_
  refine x_V1q lX10_128 (Rm.of rfl) (cc1 := 0) (cn1 := 0) rfl rfl (Nat.le_of_ble_eq_true rfl) dX10_gain_2 (by first | assumption | rfl) (m_isPerson t hM hd) ?_
  rintro _ h1 _ ⟨rfl, rfl, hM1, hR1, hF1⟩
  obtain ⟨_, _, _, w57⟩ := hM1.w57
  refine x_if_eq dX10_gain_5 (fun b5 => ?_) (fun b5 => ?_)
  · try simp only [i01, Classical.not_not] at b5
    refine x_ldc kX10_178 dX10_gain_16 ?_
    refine x_iret (ty := .int) dX10_gain_18 rfl rfl (Nat.zero_le _) (Nat.zero_le _) ?_
    exact ⟨by rw [aGain, if_neg b5], rfl, hM1, hF1⟩
  · try simp only [i01, Classical.not_not] at b5
    obtain ⟨i, hi, rfl⟩ := below b5.1 b5.2 (by omega)
    refine x_aload dX10_gain_8 rfl ?_
    refine x_iload dX10_gain_9 rfl ?_
    refine x_V1q lX10_182 (Rm.of rfl) (cc1 := 0) (cn1 := 0) rfl rfl (Nat.le_of_ble_eq_true rfl) dX10_gain_10 (by first | assumption | rfl) (m_gainOf hM1 hd hi) ?_
    rintro _ h2 _ ⟨rfl, rfl, hM2, hF2⟩
    refine x_goto dX10_gain_13 ?_
    refine x_iret (ty := .int) dX10_gain_18 rfl rfl (Nat.zero_le _) (Nat.zero_le _) ?_
    exact ⟨by rw [aGain, if_pos b5, nI_clamp (by omega)], rfl, hM2, hF1.trans hF2⟩
end Gain
