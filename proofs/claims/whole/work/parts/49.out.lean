/-! out -/
def tl (d : DT) (j : Nat) : Nat → Bool
  | 0 => false
  | n + 1 => tl d j n || decide (cN (d_sh d) n = j)
def tlM (d : DT) : Nat → Nat
  | 0 => 0
  | n + 1 => tlM d n ||| 2 ^ cN (d_sh d) n
theorem tlM_bit (d : DT) (j : Nat) : ∀ n, (tlM d n).testBit j = tl d j n
  | 0 => by simp [tlM, tl]
  | n + 1 => by rw [tlM, Nat.testBit_or, tlM_bit d j n, Nat.testBit_two_pow, tl]
theorem tlM_lt {d : DT} (hd : okD d) : ∀ n, n ≤ d_ns d → tlM d n < 256
  | 0, _ => by show 0 < 256; decide
  | n + 1, h => by
    have h1 := tlM_lt hd n (by omega)
    have h2 := (hd.2.1.2.2 n (by omega)).1.2
    rw [tlM]
    have h3 : 2 ^ cN (d_sh d) n < 2 ^ 8 := Nat.pow_lt_pow_right (by decide) h2
    exact Nat.or_lt_two_pow (n := 8) h1 h3
def dis (a b : Nat) : Nat := if a < b then b - a else a - b
def outL (d : DT) (a : Nat) : Nat → Nat
  | 0 => min (a + 1) (d_H d - a)
  | j + 1 => if tl d j (d_ns d) then outL d a j else min (outL d a j) (dis j a)
theorem outL_le (d : DT) (a : Nat) : ∀ j, outL d a j ≤ a + 1
  | 0 => Nat.min_le_left _ _
  | j + 1 => by
    rw [outL]
    split
    · exact outL_le d a j
    · exact Nat.le_trans (Nat.min_le_left _ _) (outL_le d a j)
def outN (d : DT) (p : Nat) : Int32 := if posN (d_H d) (d_b1 d) p = 0 ∨ tl d (posN (d_H d) (d_b1 d) p - 1) (d_ns d) = false then 0 else if kinN (d_b1 d) p = 2 then -1 else nI (outL d (posN (d_H d) (d_b1 d) p - 1) (d_H d))
def aOut (d : DT) (t : Int32) : Int32 := if 0 ≤ t ∧ t < nI (d_N d) then outN d t.toNatClampNeg else -2
theorem nI_m1 (a : Nat) : nI (a + 1) - 1 = nI a := by rw [← nI_1, Int32.add_sub_cancel]
theorem nI_sub {a b : Nat} (h : b ≤ a) : nI a - nI b = nI (a - b) := by
  have := nI_add (a - b) b
  rw [Nat.sub_add_cancel h] at this
  rw [← this, Int32.add_sub_cancel]
theorem abs_dis {a b : Nat} (ha : a < 100) (hb : b < 100) : (if 0 ≤ nI a - nI b then nI a - nI b else 0 - (nI a - nI b)) = nI (dis a b) := by
  by_cases z : a < b
  · have e : nI a - nI b = 0 - nI (b - a) := by
      rw [← nI_sub (by omega : a ≤ b), Int32.zero_sub, Int32.neg_sub]
    have hp : ¬ (0 : Int32) ≤ 0 - nI (b - a) := by
      have : ∀ c : Nat, c < 100 → 0 < c → ¬ (0 : Int32) ≤ 0 - nI c := by decide +kernel
      exact this (b - a) (by omega) (by omega)
    rw [dis, if_pos z, e, if_neg hp, Int32.zero_sub, Int32.zero_sub, Int32.neg_neg]
  · rw [dis, if_neg z, nI_sub (by omega), if_pos (nI_pos' (by omega))]
section Out
variable {Γ : GX} {h : Hp} {sz : Nat} {d : DT}
theorem r_toldHouses (h17 : h 17 = cSa (nI (d_L d)) (nI (d_ns d))) (h18 : h 18 = ia 12 (d_sh d)) (hd : okD d) : Re Γ mX3_toldHouses [.ref 17] h sz (some (.int (nI (tlM d (d_ns d))))) h sz := by
  refine x_enter 2 (by decide) rfl ?_
  have hns := hd.2.1.2.1
  refine x_k dX3_toldHouses_0 ?_
  refine x_istore dX3_toldHouses_1 (Nat.le_of_ble_eq_true rfl) rfl ?_
  refine x_k dX3_toldHouses_2 ?_
  refine x_istore dX3_toldHouses_3 (Nat.le_of_ble_eq_true rfl) rfl ?_
  refine x_eq rfl rfl rfl (loopUp (P := fun n => Ex Γ mX3_toldHouses _ 0 0 4 [.ref 17, .int (nI (tlM d n)), .int (nI n)] [] h sz) (d_ns d) ?_ (fun n hn ih => ?_) 0 (Nat.zero_le _))
  · refine x_iload dX3_toldHouses_4 rfl ?_
    refine x_aload dX3_toldHouses_5 rfl ?_
    refine x_get fX3_15 dX3_toldHouses_6 (by first | assumption | rfl | exact up_same | exact (up_ne (by omega)).trans (by assumption) | exact (up_ne (by assumption)).trans (by assumption)) ?_
    refine x_icmp_ge dX3_toldHouses_9 (fun b9 => ?_) (fun b9 => ?_)
    · refine x_iload dX3_toldHouses_29 rfl ?_
      refine x_iret (ty := .int) dX3_toldHouses_30 rfl rfl (Nat.zero_le _) (Nat.zero_le _) ?_
      exact ⟨rfl, rfl, rfl⟩
    · exact absurd (Int32.le_refl _) b9
  · have hh := (hd.2.1.2.2 n hn).1
    refine x_iload dX3_toldHouses_4 rfl ?_
    refine x_aload dX3_toldHouses_5 rfl ?_
    refine x_get fX3_15 dX3_toldHouses_6 (by first | assumption | rfl | exact up_same | exact (up_ne (by omega)).trans (by assumption) | exact (up_ne (by assumption)).trans (by assumption)) ?_
    refine x_icmp_ge dX3_toldHouses_9 (fun b9 => ?_) (fun b9 => ?_)
    · exact absurd b9 (nI_ge hn (by omega))
    · refine x_iload dX3_toldHouses_12 rfl ?_
      refine x_k dX3_toldHouses_13 ?_
      refine x_aload dX3_toldHouses_14 rfl ?_
      refine x_get fX3_18 dX3_toldHouses_15 (by first | assumption | rfl | exact up_same | exact (up_ne (by omega)).trans (by assumption) | exact (up_ne (by assumption)).trans (by assumption)) ?_
      refine x_iload dX3_toldHouses_18 rfl ?_
      refine x_ialdn dX3_toldHouses_19 (by first | assumption | rfl | exact up_same | exact (up_ne (by omega)).trans (by assumption) | exact (up_ne (by assumption)).trans (by assumption)) ⟨by first | omega | decide, by decide⟩ ?_
      refine x_ishl dX3_toldHouses_20 ?_
      refine x_ior dX3_toldHouses_21 ?_
      rw [hh.1, orbit (by omega)]
      refine x_istore dX3_toldHouses_22 (Nat.le_of_ble_eq_true rfl) rfl ?_
      refine x_inc1 dX3_toldHouses_23 rfl (Nat.le_of_ble_eq_true rfl) rfl ?_
      refine x_goto dX3_toldHouses_26 ?_
      exact ih
theorem c_out (t : Int32) (hX : XW h sz d) (hd : okD d) : Rn Γ mX9_out [.ref 4, .int t] h sz (qW h sz d (aOut d t)) := by
  refine x_enter 4 (by decide) rfl ?_
  obtain ⟨hA, hK, hR, hD⟩ := id hX
  obtain ⟨ow, pr, od, kd, sp, ins, a1, ⟨a10, a11, a12, a13, a14, a15, a16⟩, ⟨a17, a18, a19⟩, a4, a5, a6, f1, f2, f3, f4⟩ := id hA
  obtain ⟨ss, h4⟩ := hK.w4
  have hH8 : d_H d ≤ 8 := (hN_ok hd.1.1).1
  have hP8 : d_N d ≤ 8 := (pN_ok hd.1.2.1).1
  have hlt := tlM_lt hd (d_ns d) (Nat.le_refl _)
  have J11 : (0 ≤ t ∧ t < nI (d_N d)) → Ex Γ mX9_out (gx_Z Γ mX9_out (qW h sz d (aOut d t))) 0 0 11 [.ref 4, .int t, .retAddr 0, .retAddr 0, .retAddr 0, .retAddr 0] [] h sz := by
    intro hc
    obtain ⟨p, hp, rfl⟩ := below hc.1 hc.2 (by omega)
    rw [aOut, if_pos hc, nI_clamp (by omega)]
    have hpos := posN_ok hH8 (d_b1 d) p
    have J62 : ∀ a, posN (d_H d) (d_b1 d) p = a + 1 → tl d a (d_ns d) = true → kinN (d_b1 d) p ≠ 2 → Ex Γ mX9_out (gx_Z Γ mX9_out (qW h sz d (outN d p))) 0 0 62 [.ref 4, .int (nI p), .int (nI a), .int (nI (tlM d (d_ns d))), .retAddr 0, .retAddr 0] [] h sz := by
      intro a e1 e2 e3
      have ea : a + 1 ≤ d_H d := by rw [← e1]; exact hpos.2
      have en : outN d p = nI (outL d a (d_H d)) := by
        rw [outN, e1, Nat.add_sub_cancel, if_neg (by rintro (z | z); (exact absurd z (by omega)); (rw [e2] at z; exact absurd z (by decide))), if_neg e3]
      rw [en]
      refine x_iload dX9_out_62 rfl ?_
      refine x_k dX9_out_63 ?_
      refine x_iadd dX9_out_64 ?_
      refine x_aload dX9_out_65 rfl ?_
      refine x_get fX9_21 dX9_out_66 (by first | assumption | rfl | exact up_same | exact (up_ne (by omega)).trans (by assumption) | exact (up_ne (by assumption)).trans (by assumption)) ?_
      refine x_get fX9_197 dX9_out_69 (by first | assumption | rfl | exact up_same | exact (up_ne (by omega)).trans (by assumption) | exact (up_ne (by assumption)).trans (by assumption)) ?_
      refine x_iload dX9_out_72 rfl ?_
      refine x_isub dX9_out_73 ?_
      rw [nI_1, nI_sub (by omega)]
      refine x_mmin lmX9_237 ms_min mi_math mc_min ⟨(Nat.le_of_ble_eq_true rfl), (Nat.le_of_ble_eq_true rfl)⟩ (Nat.le_of_ble_eq_true rfl) (Nat.le_of_ble_eq_true rfl) (Nat.le_of_ble_eq_true rfl) dX9_out_74 ?_
      rw [mmin_nI (by omega) (by omega)]
      refine x_istore dX9_out_77 (Nat.le_of_ble_eq_true rfl) rfl ?_
      refine x_k dX9_out_79 ?_
      refine x_istore dX9_out_80 (Nat.le_of_ble_eq_true rfl) rfl ?_
      refine x_eq rfl rfl rfl (loopUp (P := fun j => Ex Γ mX9_out _ 0 0 82 [.ref 4, .int (nI p), .int (nI a), .int (nI (tlM d (d_ns d))), .int (nI (outL d a j)), .int (nI j)] [] h sz) (d_H d) ?_ (fun j hj ih => ?_) 0 (Nat.zero_le _))
      · refine x_iload dX9_out_82 rfl ?_
        refine x_aload dX9_out_84 rfl ?_
        refine x_get fX9_21 dX9_out_85 (by first | assumption | rfl | exact up_same | exact (up_ne (by omega)).trans (by assumption) | exact (up_ne (by assumption)).trans (by assumption)) ?_
        refine x_get fX9_197 dX9_out_88 (by first | assumption | rfl | exact up_same | exact (up_ne (by omega)).trans (by assumption) | exact (up_ne (by assumption)).trans (by assumption)) ?_
        refine x_icmp_ge dX9_out_91 (fun b91 => ?_) (fun b91 => ?_)
        · refine x_iload dX9_out_123 rfl ?_
          refine x_iret (ty := .int) dX9_out_125 rfl rfl (Nat.zero_le _) (Nat.zero_le _) ?_
          exact ⟨rfl, Nat.le_refl _, hX, fun _ _ => rfl⟩
        · exact absurd (Int32.le_refl _) b91
      · have hb0 := bitN0 (m := tlM d (d_ns d)) (k := j) (by omega) (by omega)
        rw [tlM_bit] at hb0
        have hol := outL_le d a j
        have hdi : dis j a < 100 := by rw [dis]; split <;> omega
        rw [outL] at ih
        refine x_iload dX9_out_82 rfl ?_
        refine x_aload dX9_out_84 rfl ?_
        refine x_get fX9_21 dX9_out_85 (by first | assumption | rfl | exact up_same | exact (up_ne (by omega)).trans (by assumption) | exact (up_ne (by assumption)).trans (by assumption)) ?_
        refine x_get fX9_197 dX9_out_88 (by first | assumption | rfl | exact up_same | exact (up_ne (by omega)).trans (by assumption) | exact (up_ne (by assumption)).trans (by assumption)) ?_
        refine x_icmp_ge dX9_out_91 (fun b91 => ?_) (fun b91 => ?_)
        · exact absurd b91 (nI_ge hj (by omega))
        · refine x_iload dX9_out_94 rfl ?_
          refine x_iload dX9_out_95 rfl ?_
          refine x_ishr dX9_out_97 ?_
          refine x_k dX9_out_98 ?_
          refine x_iand dX9_out_99 ?_
          refine x_if_ne dX9_out_100 (fun b100 => ?_) (fun b100 => ?_)
          · refine x_inc1 dX9_out_117 rfl (Nat.le_of_ble_eq_true rfl) rfl ?_
            refine x_goto dX9_out_120 ?_
            first
              | (have hz : ¬ tl d j (d_ns d) = true := by rw [hb0.mp (Classical.not_not.mp b100)]; decide
                 rw [if_neg hz] at ih; exact ih)
              | (have hz : tl d j (d_ns d) = true := by
                   cases e : tl d j (d_ns d) with
                   | true => rfl
                   | false => exact absurd (hb0.mpr e) b100
                 rw [if_pos hz] at ih; exact ih)
          · refine x_iload dX9_out_103 rfl ?_
            refine x_iload dX9_out_105 rfl ?_
            refine x_iload dX9_out_107 rfl ?_
            refine x_isub dX9_out_108 ?_
            refine x_mabs (b := 0) lmX9_242 ms_abs mi_math mc_abs ⟨(Nat.le_of_ble_eq_true rfl), (Nat.le_of_ble_eq_true rfl)⟩ (Nat.le_of_ble_eq_true rfl) (Nat.le_of_ble_eq_true rfl) (Nat.le_of_ble_eq_true rfl) dX9_out_109 ?_
            rw [abs_dis (by omega) (by omega)]
            refine x_mmin lmX9_237 ms_min mi_math mc_min ⟨(Nat.le_of_ble_eq_true rfl), (Nat.le_of_ble_eq_true rfl)⟩ (Nat.le_of_ble_eq_true rfl) (Nat.le_of_ble_eq_true rfl) (Nat.le_of_ble_eq_true rfl) dX9_out_112 ?_
            rw [mmin_nI (by omega) (by omega)]
            refine x_istore dX9_out_115 (Nat.le_of_ble_eq_true rfl) rfl ?_
            refine x_inc1 dX9_out_117 rfl (Nat.le_of_ble_eq_true rfl) rfl ?_
            refine x_goto dX9_out_120 ?_
            first
              | (have hz : ¬ tl d j (d_ns d) = true := by rw [hb0.mp (Classical.not_not.mp b100)]; decide
                 rw [if_neg hz] at ih; exact ih)
              | (have hz : tl d j (d_ns d) = true := by
                   cases e : tl d j (d_ns d) with
                   | true => rfl
                   | false => exact absurd (hb0.mpr e) b100
                 rw [if_pos hz] at ih; exact ih)
    by_cases hz : posN (d_H d) (d_b1 d) p = 0
    · have en : outN d p = 0 := by rw [outN, if_pos (Or.inl hz)]
      rw [en]
      refine x_aload dX9_out_11 rfl ?_
      refine x_get fX9_21 dX9_out_12 (by first | assumption | rfl | exact up_same | exact (up_ne (by omega)).trans (by assumption) | exact (up_ne (by assumption)).trans (by assumption)) ?_
      refine x_get fX9_121 dX9_out_15 (by first | assumption | rfl | exact up_same | exact (up_ne (by omega)).trans (by assumption) | exact (up_ne (by assumption)).trans (by assumption)) ?_
      refine x_iload dX9_out_18 rfl ?_
      refine x_ialdn dX9_out_19 (by first | assumption | rfl | exact up_same | exact (up_ne (by omega)).trans (by assumption) | exact (up_ne (by assumption)).trans (by assumption)) ⟨by first | omega | decide, by decide⟩ ?_
      refine x_S1i lX9_124 (Rm.of rfl) (cc1 := 0) (cn1 := 0) rfl rfl (Nat.le_of_ble_eq_true rfl) dX9_out_20 (r_houseAt (sp p)) ?_
      refine x_istore dX9_out_23 (Nat.le_of_ble_eq_true rfl) rfl ?_
      refine x_aload dX9_out_24 rfl ?_
      refine x_get fX9_28 dX9_out_25 (by first | assumption | rfl | exact up_same | exact (up_ne (by omega)).trans (by assumption) | exact (up_ne (by assumption)).trans (by assumption)) ?_
      refine x_V0i lX9_233 (Rm.of rfl) (cc1 := 0) (cn1 := 0) rfl rfl (Nat.le_of_ble_eq_true rfl) dX9_out_28 (by first | assumption | rfl | exact up_same | exact (up_ne (by omega)).trans (by assumption) | exact (up_ne (by assumption)).trans (by assumption)) (r_toldHouses a17 a18 hd) ?_
      refine x_istore dX9_out_31 (Nat.le_of_ble_eq_true rfl) rfl ?_
      refine x_iload dX9_out_32 rfl ?_
      refine x_k dX9_out_33 ?_
      refine x_icmp_eq dX9_out_34 (fun b34 => ?_) (fun b34 => ?_)
      · refine x_k dX9_out_45 ?_
        refine x_iret (ty := .int) dX9_out_46 rfl rfl (Nat.zero_le _) (Nat.zero_le _) ?_
        exact ⟨rfl, Nat.le_refl _, hX, fun _ _ => rfl⟩
      · exact absurd (by rw [(f3 p hp).2, hz]; rfl) b34
    · obtain ⟨a, ea⟩ : ∃ a, posN (d_H d) (d_b1 d) p = a + 1 := ⟨posN (d_H d) (d_b1 d) p - 1, by omega⟩
      have ha8 : a < 8 := by have := hpos.2; omega
      have esp : sp p - 1 = nI a := by rw [(f3 p hp).2, ea, nI_m1]
      have hb0 := bitN0 (m := tlM d (d_ns d)) (k := a) (by omega) (by omega)
      rw [tlM_bit] at hb0
      have ekd : kd p = nI (kinN (d_b1 d) p) := (f3 p hp).1
      have hk2 := (kinN_ok hd.1.2.1 hp).2
      have ek2 : nI (kinN (d_b1 d) p) = 2 ↔ kinN (d_b1 d) p = 2 := nI_eq (b := 2) (by omega) (by omega)
      have ht : ∀ {c : Prop} [Decidable c], True := fun {_ _} => trivial
      refine x_aload dX9_out_11 rfl ?_
      refine x_get fX9_21 dX9_out_12 (by first | assumption | rfl | exact up_same | exact (up_ne (by omega)).trans (by assumption) | exact (up_ne (by assumption)).trans (by assumption)) ?_
      refine x_get fX9_121 dX9_out_15 (by first | assumption | rfl | exact up_same | exact (up_ne (by omega)).trans (by assumption) | exact (up_ne (by assumption)).trans (by assumption)) ?_
      refine x_iload dX9_out_18 rfl ?_
      refine x_ialdn dX9_out_19 (by first | assumption | rfl | exact up_same | exact (up_ne (by omega)).trans (by assumption) | exact (up_ne (by assumption)).trans (by assumption)) ⟨by first | omega | decide, by decide⟩ ?_
      refine x_S1i lX9_124 (Rm.of rfl) (cc1 := 0) (cn1 := 0) rfl rfl (Nat.le_of_ble_eq_true rfl) dX9_out_20 (r_houseAt (sp p)) ?_
      rw [esp]
      refine x_istore dX9_out_23 (Nat.le_of_ble_eq_true rfl) rfl ?_
      refine x_aload dX9_out_24 rfl ?_
      refine x_get fX9_28 dX9_out_25 (by first | assumption | rfl | exact up_same | exact (up_ne (by omega)).trans (by assumption) | exact (up_ne (by assumption)).trans (by assumption)) ?_
      refine x_V0i lX9_233 (Rm.of rfl) (cc1 := 0) (cn1 := 0) rfl rfl (Nat.le_of_ble_eq_true rfl) dX9_out_28 (by first | assumption | rfl | exact up_same | exact (up_ne (by omega)).trans (by assumption) | exact (up_ne (by assumption)).trans (by assumption)) (r_toldHouses a17 a18 hd) ?_
      refine x_istore dX9_out_31 (Nat.le_of_ble_eq_true rfl) rfl ?_
      refine x_iload dX9_out_32 rfl ?_
      refine x_k dX9_out_33 ?_
      refine x_icmp_eq dX9_out_34 (fun b34 => ?_) (fun b34 => ?_)
      · exact absurd b34 (nI_nm1 (by omega))
      · refine x_iload dX9_out_37 rfl ?_
        refine x_iload dX9_out_38 rfl ?_
        refine x_ishr dX9_out_39 ?_
        refine x_k dX9_out_40 ?_
        refine x_iand dX9_out_41 ?_
        refine x_if_ne dX9_out_42 (fun b42 => ?_) (fun b42 => ?_)
        · have hy : tl d a (d_ns d) = true := by
            cases e : tl d a (d_ns d) with
            | true => rfl
            | false => exact absurd (hb0.mpr e) b42
          refine x_aload dX9_out_47 rfl ?_
          refine x_get fX9_21 dX9_out_48 (by first | assumption | rfl | exact up_same | exact (up_ne (by omega)).trans (by assumption) | exact (up_ne (by assumption)).trans (by assumption)) ?_
          refine x_get fX9_118 dX9_out_51 (by first | assumption | rfl | exact up_same | exact (up_ne (by omega)).trans (by assumption) | exact (up_ne (by assumption)).trans (by assumption)) ?_
          refine x_iload dX9_out_54 rfl ?_
          refine x_ialdn dX9_out_55 (by first | assumption | rfl | exact up_same | exact (up_ne (by omega)).trans (by assumption) | exact (up_ne (by assumption)).trans (by assumption)) ⟨by first | omega | decide, by decide⟩ ?_
          refine x_k dX9_out_56 ?_
          rw [ekd]
          refine x_icmp_ne dX9_out_57 (fun b57 => ?_) (fun b57 => ?_)
          · exact J62 a ea hy (fun z => b57 (ek2.mpr z))
          · refine x_k dX9_out_60 ?_
            refine x_iret (ty := .int) dX9_out_61 rfl rfl (Nat.zero_le _) (Nat.zero_le _) ?_
            refine ⟨?_, Nat.le_refl _, hX, fun _ _ => rfl⟩
            rw [outN, ea, Nat.add_sub_cancel, if_neg (by rintro (z | z); (exact absurd z (by omega)); (rw [hy] at z; exact absurd z (by decide))), if_pos (ek2.mp (Classical.not_not.mp b57))]
        · refine x_k dX9_out_45 ?_
          refine x_iret (ty := .int) dX9_out_46 rfl rfl (Nat.zero_le _) (Nat.zero_le _) ?_
          refine ⟨?_, Nat.le_refl _, hX, fun _ _ => rfl⟩
          have hy : tl d a (d_ns d) = false := hb0.mp (Classical.not_not.mp b42)
          rw [outN, ea, Nat.add_sub_cancel, if_pos (Or.inr hy)]
  refine x_aload dX9_out_0 rfl ?_
  refine x_iload dX9_out_1 rfl ?_
  refine x_V1i lX9_115 (Rm.of rfl) (cc1 := 0) (cn1 := 0) rfl rfl (Nat.le_of_ble_eq_true rfl) dX9_out_2 (by first | assumption | rfl | exact up_same | exact (up_ne (by omega)).trans (by assumption) | exact (up_ne (by assumption)).trans (by assumption)) (r_nobody h4 a10 t) ?_
  refine x_if_eq dX9_out_5 (fun b5 => ?_) (fun b5 => ?_)
  · try simp only [i01, Classical.not_not] at b5
    exact J11 (by simp only [Int32.lt_iff_toInt_lt, Int32.le_iff_toInt_le] at *; omega)
  · try simp only [i01, Classical.not_not] at b5
    refine x_k dX9_out_8 ?_
    refine x_iret (ty := .int) dX9_out_10 rfl rfl (Nat.zero_le _) (Nat.zero_le _) ?_
    refine ⟨?_, Nat.le_refl _, hX, fun _ _ => rfl⟩
    rw [aOut, if_neg]
    simp only [Int32.lt_iff_toInt_lt, Int32.le_iff_toInt_le] at *
    omega
theorem r_isTold {hs pe ll fa fi : Int32} {j : Nat} (h57 : h 57 = cM hs pe (nI (d_ns d)) ll fa fi) (h65 : h 65 = ia 12 (d_sh d)) (hd : okD d) (hj : j < 100) : Re Γ mX10_isTold [.ref 57, .int (nI j)] h sz (some (.int (bI (tl d j (d_ns d) = true)))) h sz := by
  refine x_enter 2 (by decide) rfl ?_
  have hns := hd.2.1.2.1
  refine x_k dX10_isTold_0 ?_
  refine x_istore dX10_isTold_1 (Nat.le_of_ble_eq_true rfl) rfl ?_
  refine x_k dX10_isTold_2 ?_
  refine x_istore dX10_isTold_3 (Nat.le_of_ble_eq_true rfl) rfl ?_
  refine x_eq rfl rfl rfl (loopUp (P := fun n => Ex Γ mX10_isTold _ 0 0 4 [.ref 57, .int (nI j), .int (bI (tl d j n = true)), .int (nI n)] [] h sz) (d_ns d) ?_ (fun n hn ih => ?_) 0 (Nat.zero_le _))
  · refine x_iload dX10_isTold_4 rfl ?_
    refine x_aload dX10_isTold_5 rfl ?_
    refine x_get fX10_137 dX10_isTold_6 (by first | assumption | rfl | exact up_same | exact (up_ne (by omega)).trans (by assumption) | exact (up_ne (by assumption)).trans (by assumption)) ?_
    refine x_icmp_ge dX10_isTold_9 (fun b9 => ?_) (fun b9 => ?_)
    · refine x_iload dX10_isTold_38 rfl ?_
      refine x_iret (ty := .boolean) dX10_isTold_39 rfl (by first | rfl | exact nzb) (Nat.zero_le _) (Nat.zero_le _) ?_
      exact ⟨rfl, rfl, rfl⟩
    · exact absurd (Int32.le_refl _) b9
  · have hh := (hd.2.1.2.2 n hn).1
    have e1 : d_sh d n = nI j ↔ cN (d_sh d) n = j := by rw [hh.1]; exact nI_eq (by omega) (by omega)
    have e2 : tl d j (n + 1) = true ↔ tl d j n = true ∨ cN (d_sh d) n = j := by rw [tl]; simp
    refine x_iload dX10_isTold_4 rfl ?_
    refine x_aload dX10_isTold_5 rfl ?_
    refine x_get fX10_137 dX10_isTold_6 (by first | assumption | rfl | exact up_same | exact (up_ne (by omega)).trans (by assumption) | exact (up_ne (by assumption)).trans (by assumption)) ?_
    refine x_icmp_ge dX10_isTold_9 (fun b9 => ?_) (fun b9 => ?_)
    · exact absurd b9 (nI_ge hn (by omega))
    · refine x_iload dX10_isTold_12 rfl ?_
      refine x_if_ne dX10_isTold_13 (fun b13 => ?_) (fun b13 => ?_)
      · refine x_k dX10_isTold_26 ?_
        refine x_goto dX10_isTold_27 ?_
        refine x_istore dX10_isTold_31 (Nat.le_of_ble_eq_true rfl) rfl ?_
        refine x_inc1 dX10_isTold_32 rfl (Nat.le_of_ble_eq_true rfl) rfl ?_
        refine x_goto dX10_isTold_35 ?_
        refine x_eq ?_ rfl rfl ih
        have e3 : ∀ v : Int32, v = bI (tl d j (n + 1) = true) → [Value.ref 57, .int (nI j), .int v, .int (nI (n + 1))] = [Value.ref 57, .int (nI j), .int (bI (tl d j (n + 1) = true)), .int (nI (n + 1))] := fun v hv => by rw [hv]
        refine e3 _ ?_
        first
          | (have hz : tl d j n = true := by by_cases z : tl d j n = true; (exact z); (exact absurd (if_neg z) b13)
             exact (if_pos (e2.mpr (Or.inl hz))).symm)
          | (have hz : ¬ tl d j n = true := fun z => b13 (by rw [bI, if_pos z]; decide)
             first
               | exact (if_pos (e2.mpr (Or.inr (e1.mp (Classical.not_not.mp b23))))).symm
               | exact (if_neg (fun y => (e2.mp y).elim hz (fun x => b23 (e1.mpr x)))).symm)
      · refine x_aload dX10_isTold_16 rfl ?_
        refine x_get fX10_31 dX10_isTold_17 (by first | assumption | rfl | exact up_same | exact (up_ne (by omega)).trans (by assumption) | exact (up_ne (by assumption)).trans (by assumption)) ?_
        refine x_iload dX10_isTold_20 rfl ?_
        refine x_ialdn dX10_isTold_21 (by first | assumption | rfl | exact up_same | exact (up_ne (by omega)).trans (by assumption) | exact (up_ne (by assumption)).trans (by assumption)) ⟨by first | omega | decide, by decide⟩ ?_
        refine x_iload dX10_isTold_22 rfl ?_
        refine x_icmp_ne dX10_isTold_23 (fun b23 => ?_) (fun b23 => ?_)
        · refine x_k dX10_isTold_30 ?_
          refine x_istore dX10_isTold_31 (Nat.le_of_ble_eq_true rfl) rfl ?_
          refine x_inc1 dX10_isTold_32 rfl (Nat.le_of_ble_eq_true rfl) rfl ?_
          refine x_goto dX10_isTold_35 ?_
          refine x_eq ?_ rfl rfl ih
          have e3 : ∀ v : Int32, v = bI (tl d j (n + 1) = true) → [Value.ref 57, .int (nI j), .int v, .int (nI (n + 1))] = [Value.ref 57, .int (nI j), .int (bI (tl d j (n + 1) = true)), .int (nI (n + 1))] := fun v hv => by rw [hv]
          refine e3 _ ?_
          first
            | (have hz : tl d j n = true := by by_cases z : tl d j n = true; (exact z); (exact absurd (if_neg z) b13)
               exact (if_pos (e2.mpr (Or.inl hz))).symm)
            | (have hz : ¬ tl d j n = true := fun z => b13 (by rw [bI, if_pos z]; decide)
               first
                 | exact (if_pos (e2.mpr (Or.inr (e1.mp (Classical.not_not.mp b23))))).symm
                 | exact (if_neg (fun y => (e2.mp y).elim hz (fun x => b23 (e1.mpr x)))).symm)
        · refine x_k dX10_isTold_26 ?_
          refine x_goto dX10_isTold_27 ?_
          refine x_istore dX10_isTold_31 (Nat.le_of_ble_eq_true rfl) rfl ?_
          refine x_inc1 dX10_isTold_32 rfl (Nat.le_of_ble_eq_true rfl) rfl ?_
          refine x_goto dX10_isTold_35 ?_
          refine x_eq ?_ rfl rfl ih
          have e3 : ∀ v : Int32, v = bI (tl d j (n + 1) = true) → [Value.ref 57, .int (nI j), .int v, .int (nI (n + 1))] = [Value.ref 57, .int (nI j), .int (bI (tl d j (n + 1) = true)), .int (nI (n + 1))] := fun v hv => by rw [hv]
          refine e3 _ ?_
          first
            | (have hz : tl d j n = true := by by_cases z : tl d j n = true; (exact z); (exact absurd (if_neg z) b13)
               exact (if_pos (e2.mpr (Or.inl hz))).symm)
            | (have hz : ¬ tl d j n = true := fun z => b13 (by rw [bI, if_pos z]; decide)
               first
                 | exact (if_pos (e2.mpr (Or.inr (e1.mp (Classical.not_not.mp b23))))).symm
                 | exact (if_neg (fun y => (e2.mp y).elim hz (fun x => b23 (e1.mpr x)))).symm)
theorem m_outOf {p : Nat} (hR : MR h d) (h65 : h 65 = ia 12 (d_sh d)) (hd : okD d) (hp : p < d_N d) : Re Γ mX10_outOf [.ref 57, .int (nI p)] h sz (some (.int (outN d p))) h sz := by
  refine x_enter 4 (by decide) rfl ?_
  obtain ⟨ll, ow, pr, kd, pl, r57, r60, r61, r62, r63, ro, rp⟩ := id hR
  have hH8 : d_H d ≤ 8 := (hN_ok hd.1.1).1
  have hP8 : d_N d ≤ 8 := (pN_ok hd.1.2.1).1
  have hpos := posN_ok hH8 (d_b1 d) p
  by_cases hz : posN (d_H d) (d_b1 d) p = 0
  · have en : outN d p = 0 := by rw [outN, if_pos (Or.inl hz)]
    rw [en]
    refine x_aload dX10_outOf_0 rfl ?_
    refine x_get fX10_25 dX10_outOf_1 (by first | assumption | rfl | exact up_same | exact (up_ne (by omega)).trans (by assumption) | exact (up_ne (by assumption)).trans (by assumption)) ?_
    refine x_iload dX10_outOf_4 rfl ?_
    refine x_ialdn dX10_outOf_5 (by first | assumption | rfl | exact up_same | exact (up_ne (by omega)).trans (by assumption) | exact (up_ne (by assumption)).trans (by assumption)) ⟨by first | omega | decide, by decide⟩ ?_
    refine x_istore dX10_outOf_6 (Nat.le_of_ble_eq_true rfl) rfl ?_
    refine x_iload dX10_outOf_7 rfl ?_
    refine x_k dX10_outOf_8 ?_
    refine x_icmp_eq dX10_outOf_9 (fun b9 => ?_) (fun b9 => ?_)
    · refine x_k dX10_outOf_20 ?_
      refine x_iret (ty := .int) dX10_outOf_21 rfl rfl (Nat.zero_le _) (Nat.zero_le _) ?_
      exact ⟨rfl, rfl, rfl⟩
    · exact absurd (by rw [(rp p hp).2, hz]; rfl) b9
  · obtain ⟨a, ea⟩ : ∃ a, posN (d_H d) (d_b1 d) p = a + 1 := ⟨posN (d_H d) (d_b1 d) p - 1, by omega⟩
    have ha8 : a + 1 ≤ d_H d := by rw [← ea]; exact hpos.2
    have esp : pl p = nI a := by rw [(rp p hp).2, ea, nI_m1]
    have ekd : kd p = nI (kinN (d_b1 d) p) := (rp p hp).1
    have hk2 := (kinN_ok hd.1.2.1 hp).2
    have ek2 : nI (kinN (d_b1 d) p) = 2 ↔ kinN (d_b1 d) p = 2 := nI_eq (b := 2) (by omega) (by omega)
    have J58 : tl d a (d_ns d) = true → kinN (d_b1 d) p ≠ 2 → Ex Γ mX10_outOf (gx_Z Γ mX10_outOf (fun r' h' sz' => r' = some (.int (outN d p)) ∧ h' = h ∧ sz' = sz)) 0 0 58 [.ref 57, .int (nI p), .int (nI a), .retAddr 0, .retAddr 0, .retAddr 0] [.int (nI (min (a + 1) (d_H d - a)))] h sz := by
      intro e2 e3
      have en : outN d p = nI (outL d a (d_H d)) := by
        rw [outN, ea, Nat.add_sub_cancel, if_neg (by rintro (z | z); (exact absurd z (by omega)); (rw [e2] at z; exact absurd z (by decide))), if_neg e3]
      rw [en]
      refine x_istore dX10_outOf_58 (Nat.le_of_ble_eq_true rfl) rfl ?_
      refine x_k dX10_outOf_59 ?_
      refine x_istore dX10_outOf_60 (Nat.le_of_ble_eq_true rfl) rfl ?_
      have all : ∀ j, j ≤ d_H d → ∀ v : Value, Ex Γ mX10_outOf (gx_Z Γ mX10_outOf (fun r' h' sz' => r' = some (.int (nI (outL d a (d_H d)))) ∧ h' = h ∧ sz' = sz)) 0 0 62 [.ref 57, .int (nI p), .int (nI a), .int (nI (outL d a j)), .int (nI j), v] [] h sz := by
        refine loopUp (d_H d) (fun v => ?_) (fun j hj ih v => ?_)
        · refine x_iload dX10_outOf_62 rfl ?_
          refine x_aload dX10_outOf_64 rfl ?_
          refine x_get fX10_96 dX10_outOf_65 (by first | assumption | rfl | exact up_same | exact (up_ne (by omega)).trans (by assumption) | exact (up_ne (by assumption)).trans (by assumption)) ?_
          refine x_icmp_ge dX10_outOf_68 (fun b68 => ?_) (fun b68 => ?_)
          · refine x_iload dX10_outOf_118 rfl ?_
            refine x_iret (ty := .int) dX10_outOf_119 rfl rfl (Nat.zero_le _) (Nat.zero_le _) ?_
            exact ⟨rfl, rfl, rfl⟩
          · exact absurd (Int32.le_refl _) b68
        · have hol := outL_le d a j
          have hdi : dis j a < 100 := by rw [dis]; split <;> omega
          rw [outL] at ih
          have J90 : Ex Γ mX10_outOf (gx_Z Γ mX10_outOf (fun r' h' sz' => r' = some (.int (nI (outL d a (d_H d)))) ∧ h' = h ∧ sz' = sz)) 0 0 90 [.ref 57, .int (nI p), .int (nI a), .int (nI (outL d a j)), .int (nI j), .int (nI (dis j a))] [] h sz := by
            have el : nI (outL d a j) ≤ nI (dis j a) ↔ outL d a j ≤ dis j a := nI_leI (by omega) (by omega)
            refine x_aload dX10_outOf_90 rfl ?_
            refine x_iload dX10_outOf_91 rfl ?_
            refine x_V1i lX10_202 (Rm.of rfl) (cc1 := 0) (cn1 := 0) rfl rfl (Nat.le_of_ble_eq_true rfl) dX10_outOf_93 (by first | assumption | rfl | exact up_same | exact (up_ne (by omega)).trans (by assumption) | exact (up_ne (by assumption)).trans (by assumption)) (r_isTold r57 h65 hd (by omega)) ?_
            refine x_if_ne dX10_outOf_96 (fun b96 => ?_) (fun b96 => ?_)
            · try simp only [i01, Classical.not_not] at b96
              refine x_iload dX10_outOf_110 rfl ?_
              refine x_istore dX10_outOf_111 (Nat.le_of_ble_eq_true rfl) rfl ?_
              refine x_inc1 dX10_outOf_112 rfl (Nat.le_of_ble_eq_true rfl) rfl ?_
              refine x_goto dX10_outOf_115 ?_
              first
                | (rw [if_pos b96] at ih; exact ih _)
                | (rw [if_neg b96] at ih
                   first
                     | (rw [Nat.min_eq_left (el.mp b102)] at ih; exact ih _)
                     | (rw [Nat.min_eq_right (Nat.le_of_lt (Nat.not_le.mp (fun z => b102 (el.mpr z))))] at ih; exact ih _))
            · try simp only [i01, Classical.not_not] at b96
              refine x_iload dX10_outOf_99 rfl ?_
              refine x_iload dX10_outOf_101 rfl ?_
              refine x_icmp_ge dX10_outOf_102 (fun b102 => ?_) (fun b102 => ?_)
              · refine x_iload dX10_outOf_110 rfl ?_
                refine x_istore dX10_outOf_111 (Nat.le_of_ble_eq_true rfl) rfl ?_
                refine x_inc1 dX10_outOf_112 rfl (Nat.le_of_ble_eq_true rfl) rfl ?_
                refine x_goto dX10_outOf_115 ?_
                first
                  | (rw [if_pos b96] at ih; exact ih _)
                  | (rw [if_neg b96] at ih
                     first
                       | (rw [Nat.min_eq_left (el.mp b102)] at ih; exact ih _)
                       | (rw [Nat.min_eq_right (Nat.le_of_lt (Nat.not_le.mp (fun z => b102 (el.mpr z))))] at ih; exact ih _))
              · refine x_iload dX10_outOf_105 rfl ?_
                refine x_goto dX10_outOf_107 ?_
                refine x_istore dX10_outOf_111 (Nat.le_of_ble_eq_true rfl) rfl ?_
                refine x_inc1 dX10_outOf_112 rfl (Nat.le_of_ble_eq_true rfl) rfl ?_
                refine x_goto dX10_outOf_115 ?_
                first
                  | (rw [if_pos b96] at ih; exact ih _)
                  | (rw [if_neg b96] at ih
                     first
                       | (rw [Nat.min_eq_left (el.mp b102)] at ih; exact ih _)
                       | (rw [Nat.min_eq_right (Nat.le_of_lt (Nat.not_le.mp (fun z => b102 (el.mpr z))))] at ih; exact ih _))
          have ec : nI a ≤ nI j ↔ a ≤ j := nI_leI (by omega) (by omega)
          refine x_iload dX10_outOf_62 rfl ?_
          refine x_aload dX10_outOf_64 rfl ?_
          refine x_get fX10_96 dX10_outOf_65 (by first | assumption | rfl | exact up_same | exact (up_ne (by omega)).trans (by assumption) | exact (up_ne (by assumption)).trans (by assumption)) ?_
          refine x_icmp_ge dX10_outOf_68 (fun b68 => ?_) (fun b68 => ?_)
          · exact absurd b68 (nI_ge hj (by omega))
          · refine x_iload dX10_outOf_71 rfl ?_
            refine x_iload dX10_outOf_73 rfl ?_
            refine x_icmp_ge dX10_outOf_74 (fun b74 => ?_) (fun b74 => ?_)
            · refine x_iload dX10_outOf_84 rfl ?_
              refine x_iload dX10_outOf_86 rfl ?_
              refine x_isub dX10_outOf_87 ?_
              refine x_istore dX10_outOf_88 (Nat.le_of_ble_eq_true rfl) rfl ?_
              refine x_eq ?_ rfl rfl J90
              have e3 : ∀ w : Int32, w = nI (dis j a) → [Value.ref 57, .int (nI p), .int (nI a), .int (nI (outL d a j)), .int (nI j), .int w] = [Value.ref 57, .int (nI p), .int (nI a), .int (nI (outL d a j)), .int (nI j), .int (nI (dis j a))] := fun w hw => by rw [hw]
              refine e3 _ ?_
              first
                | (have hz : a ≤ j := ec.mp b74; rw [dis, if_neg (by omega), nI_sub hz]; done)
                | (have hz : ¬ a ≤ j := fun z => b74 (ec.mpr z); rw [dis, if_pos (by omega), nI_sub (by omega)]; done)
            · refine x_iload dX10_outOf_77 rfl ?_
              refine x_iload dX10_outOf_78 rfl ?_
              refine x_isub dX10_outOf_80 ?_
              refine x_goto dX10_outOf_81 ?_
              refine x_istore dX10_outOf_88 (Nat.le_of_ble_eq_true rfl) rfl ?_
              refine x_eq ?_ rfl rfl J90
              have e3 : ∀ w : Int32, w = nI (dis j a) → [Value.ref 57, .int (nI p), .int (nI a), .int (nI (outL d a j)), .int (nI j), .int w] = [Value.ref 57, .int (nI p), .int (nI a), .int (nI (outL d a j)), .int (nI j), .int (nI (dis j a))] := fun w hw => by rw [hw]
              refine e3 _ ?_
              first
                | (have hz : a ≤ j := ec.mp b74; rw [dis, if_neg (by omega), nI_sub hz]; done)
                | (have hz : ¬ a ≤ j := fun z => b74 (ec.mpr z); rw [dis, if_pos (by omega), nI_sub (by omega)]; done)
      exact all 0 (Nat.zero_le _) _
    have ed : nI (d_H d - a) ≤ nI (a + 1) ↔ d_H d - a ≤ a + 1 := nI_leI (by omega) (by omega)
    refine x_aload dX10_outOf_0 rfl ?_
    refine x_get fX10_25 dX10_outOf_1 (by first | assumption | rfl | exact up_same | exact (up_ne (by omega)).trans (by assumption) | exact (up_ne (by assumption)).trans (by assumption)) ?_
    refine x_iload dX10_outOf_4 rfl ?_
    refine x_ialdn dX10_outOf_5 (by first | assumption | rfl | exact up_same | exact (up_ne (by omega)).trans (by assumption) | exact (up_ne (by assumption)).trans (by assumption)) ⟨by first | omega | decide, by decide⟩ ?_
    rw [esp]
    refine x_istore dX10_outOf_6 (Nat.le_of_ble_eq_true rfl) rfl ?_
    refine x_iload dX10_outOf_7 rfl ?_
    refine x_k dX10_outOf_8 ?_
    refine x_icmp_eq dX10_outOf_9 (fun b9 => ?_) (fun b9 => ?_)
    · exact absurd b9 (nI_nm1 (by omega))
    · refine x_aload dX10_outOf_12 rfl ?_
      refine x_iload dX10_outOf_13 rfl ?_
      refine x_V1i lX10_202 (Rm.of rfl) (cc1 := 0) (cn1 := 0) rfl rfl (Nat.le_of_ble_eq_true rfl) dX10_outOf_14 (by first | assumption | rfl | exact up_same | exact (up_ne (by omega)).trans (by assumption) | exact (up_ne (by assumption)).trans (by assumption)) (r_isTold r57 h65 hd (by omega)) ?_
      refine x_if_ne dX10_outOf_17 (fun b17 => ?_) (fun b17 => ?_)
      · try simp only [i01, Classical.not_not] at b17
        refine x_aload dX10_outOf_22 rfl ?_
        refine x_get fX10_22 dX10_outOf_23 (by first | assumption | rfl | exact up_same | exact (up_ne (by omega)).trans (by assumption) | exact (up_ne (by assumption)).trans (by assumption)) ?_
        refine x_iload dX10_outOf_26 rfl ?_
        refine x_ialdn dX10_outOf_27 (by first | assumption | rfl | exact up_same | exact (up_ne (by omega)).trans (by assumption) | exact (up_ne (by assumption)).trans (by assumption)) ⟨by first | omega | decide, by decide⟩ ?_
        refine x_k dX10_outOf_28 ?_
        rw [ekd]
        refine x_icmp_ne dX10_outOf_29 (fun b29 => ?_) (fun b29 => ?_)
        · refine x_iload dX10_outOf_34 rfl ?_
          refine x_k dX10_outOf_35 ?_
          refine x_iadd dX10_outOf_36 ?_
          refine x_aload dX10_outOf_37 rfl ?_
          refine x_get fX10_96 dX10_outOf_38 (by first | assumption | rfl | exact up_same | exact (up_ne (by omega)).trans (by assumption) | exact (up_ne (by assumption)).trans (by assumption)) ?_
          refine x_iload dX10_outOf_41 rfl ?_
          refine x_isub dX10_outOf_42 ?_
          rw [nI_1, nI_sub (by omega)]
          refine x_icmp_ge dX10_outOf_43 (fun b43 => ?_) (fun b43 => ?_)
          · refine x_aload dX10_outOf_52 rfl ?_
            refine x_get fX10_96 dX10_outOf_53 (by first | assumption | rfl | exact up_same | exact (up_ne (by omega)).trans (by assumption) | exact (up_ne (by assumption)).trans (by assumption)) ?_
            refine x_iload dX10_outOf_56 rfl ?_
            refine x_isub dX10_outOf_57 ?_
            refine x_eq rfl ?_ rfl (J58 b17 (fun z => b29 (ek2.mpr z)))
            first
              | (rw [nI_sub (by omega), Nat.min_eq_right (ed.mp b43)]; done)
              | (rw [Nat.min_eq_left (Nat.le_of_lt (Nat.not_le.mp (fun z => b43 (ed.mpr z))))]; done)
          · refine x_iload dX10_outOf_46 rfl ?_
            refine x_k dX10_outOf_47 ?_
            refine x_iadd dX10_outOf_48 ?_
            rw [nI_1]
            refine x_goto dX10_outOf_49 ?_
            refine x_eq rfl ?_ rfl (J58 b17 (fun z => b29 (ek2.mpr z)))
            first
              | (rw [nI_sub (by omega), Nat.min_eq_right (ed.mp b43)]; done)
              | (rw [Nat.min_eq_left (Nat.le_of_lt (Nat.not_le.mp (fun z => b43 (ed.mpr z))))]; done)
        · refine x_k dX10_outOf_32 ?_
          refine x_iret (ty := .int) dX10_outOf_33 rfl rfl (Nat.zero_le _) (Nat.zero_le _) ?_
          exact ⟨by rw [outN, ea, Nat.add_sub_cancel, if_neg (by rintro (z | z); (exact absurd z (by omega)); (rw [b17] at z; exact absurd z (by decide))), if_pos (ek2.mp (Classical.not_not.mp b29))], rfl, rfl⟩
      · try simp only [i01, Classical.not_not] at b17
        refine x_k dX10_outOf_20 ?_
        refine x_iret (ty := .int) dX10_outOf_21 rfl rfl (Nat.zero_le _) (Nat.zero_le _) ?_
        have hy : tl d a (d_ns d) = false := Bool.eq_false_iff.mpr b17
        exact ⟨by rw [outN, ea, Nat.add_sub_cancel, if_pos (Or.inr hy)], rfl, rfl⟩
theorem MW.w65 (hM : MW h d) : h 65 = ia 12 (d_sh d) := by
  obtain ⟨hs, pe, ll, ty, tx, ow, pr, kd, pl, lw, wh, os, kp, tm, ls, lk, af, wt, be, th, fr, it, mv, -, ⟨-, a65, -⟩, -⟩ := hM
  exact a65
theorem m_out (t : Int32) (hM : MW h d) (hd : okD d) : Rn Γ mX10_out [.ref 57, .int t] h sz (qM h sz d (aOut d t)) := by
  refine x_enter 0 (by decide) rfl ?_
  obtain ⟨_, _, _, w57⟩ := hM.w57
  have hP8 : d_N d ≤ 8 := (pN_ok hd.1.2.1).1
  refine x_aload dX10_out_0 rfl ?_
  refine x_iload dX10_out_1 rfl ?_
  refine x_V1q lX10_128 (Rm.of rfl) (cc1 := 0) (cn1 := 0) rfl rfl (Nat.le_of_ble_eq_true rfl) dX10_out_2 (by first | assumption | rfl | exact up_same | exact (up_ne (by omega)).trans (by assumption) | exact (up_ne (by assumption)).trans (by assumption)) (m_isPerson t hM hd) ?_
  rintro _ h1 _ ⟨rfl, rfl, hM1, hR1, hF1⟩
  obtain ⟨_, _, _, w57⟩ := hM1.w57
  refine x_if_eq dX10_out_5 (fun b5 => ?_) (fun b5 => ?_)
  · try simp only [i01, Classical.not_not] at b5
    refine x_k dX10_out_16 ?_
    refine x_iret (ty := .int) dX10_out_18 rfl rfl (Nat.zero_le _) (Nat.zero_le _) ?_
    exact ⟨by rw [aOut, if_neg b5], rfl, hM1, hF1⟩
  · try simp only [i01, Classical.not_not] at b5
    obtain ⟨i, hi, rfl⟩ := below b5.1 b5.2 (by omega)
    refine x_aload dX10_out_8 rfl ?_
    refine x_iload dX10_out_9 rfl ?_
    refine x_V1i lX10_205 (Rm.of rfl) (cc1 := 0) (cn1 := 0) rfl rfl (Nat.le_of_ble_eq_true rfl) dX10_out_10 (by first | assumption | rfl | exact up_same | exact (up_ne (by omega)).trans (by assumption) | exact (up_ne (by assumption)).trans (by assumption)) (m_outOf hR1 hM1.w65 hd hi) ?_
    refine x_goto dX10_out_13 ?_
    refine x_iret (ty := .int) dX10_out_18 rfl rfl (Nat.zero_le _) (Nat.zero_le _) ?_
    exact ⟨by rw [aOut, if_pos b5, nI_clamp (by omega)], rfl, hM1, hF1⟩
end Out
