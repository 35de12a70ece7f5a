/-! should, of the reference: whole -/
section MShD
variable {Γ : GX} {h : Hp} {sz : Nat} {d : DT}
theorem in_it {v : Int32} {N : Nat} (hN : N ≤ 8) : (0 ≤ v ∧ v ≤ nI N - 1) ↔ (0 ≤ v ∧ v < nI N) := by
  have e1 : (nI N - 1).toInt = N - 1 := by
    have : ∀ N : Nat, N < 9 → (nI N - 1).toInt = (N : Int) - 1 := by decide +kernel
    exact this N (by omega)
  have e2 : (nI N).toInt = N := nI_toInt (by omega)
  simp only [Int32.le_iff_toInt_le, Int32.lt_iff_toInt_lt, e1, e2, n0t]
  omega
theorem m_begin0 {h0 : Hp} {du k : Nat} {a : Int32} (hM : MW h d) (hd : okD d) (hH : d_H d ≤ 4) (hdu : du < 4096) (ha : ∀ n, n = 4096 → (bfs d n).1 du = a) (hfr : frM h0 h) {af : Nat → Int32} (h75 : h 75 = ia 4096 af) (haf : ∀ i, i < 4096 → af i = -1) {v3 : Value} : Ex Γ mX10_shouldOf (gx_Z Γ mX10_shouldOf (qM h0 sz d a)) 0 0 112 [.ref 57, .int (nI k), .int (nI du), v3, .retAddr 0, .retAddr 0, .retAddr 0, .retAddr 0, .retAddr 0, .retAddr 0] [] h sz := by
  obtain ⟨_, _, _, w57⟩ := hM.w57
  have hw0 := wayOf_dig (H := d_H d) (own := ownN (d_b0 d)) hH (fun j hj => (ownN_ok hd.1.1 hj).2)
  have e0 : bfs d 0 = (upd (fun _ => -1) (wayOf (d_H d) (ownN (d_b0 d))) 0, fun j => if j = 0 then wayOf (d_H d) (ownN (d_b0 d)) else 0, 0 + 1) := by
    show rch (fun _ => -1, fun _ => 0, 0) (wayOf (d_H d) (ownN (d_b0 d))) 0 = _
    rw [rch, if_pos ⟨rfl, by decide⟩]
  have go := m_search (Γ := Γ) (sz := sz) (h0 := h0) (k := k) (x3 := nI (wayOf (d_H d) (ownN (d_b0 d)))) hd hH hdu ha 0 (Nat.zero_le _)
  rw [e0] at go
  refine x_aload dX10_shouldOf_112 rfl ?_
  refine x_k dX10_shouldOf_113 ?_
  refine x_V1q lX10_166 (Rm.of rfl) (cc1 := 0) (cn1 := 0) rfl rfl (Nat.le_of_ble_eq_true rfl) dX10_shouldOf_114 (by first | assumption | rfl | exact up_same | exact (up_ne (by omega)).trans (by assumption) | exact (up_ne (by assumption)).trans (by assumption) | exact (up_ne (by omega)).trans up_same | exact (up_ne (by omega)).trans ((up_ne (by omega)).trans (by assumption))) (m_laysK (k := 0) hM hd (Nat.zero_le _)) ?_
  rintro _ h1 _ ⟨rfl, rfl, hM1, hR1, hF1, hS1, hW1, hG1⟩
  obtain ⟨ll, os, kp, tm, s57, s68, s69, s70, sk, -⟩ := id hS1
  have g75 := (hG1 75 (by decide)).trans h75
  obtain ⟨_, _, _, _, _, _, _, _, _, _, _, _, _, _, ls, _, af2, wt, _, _, _, _, _, -, ⟨-, -, -, -, -, -, -, g71⟩, ⟨-, -, -, -, g76, -, -, -⟩, -⟩ := id hM1
  refine x_aload dX10_shouldOf_117 rfl ?_
  refine x_V0i lX10_217 (Rm.of rfl) (cc1 := 0) (cn1 := 0) rfl rfl (Nat.le_of_ble_eq_true rfl) dX10_shouldOf_118 (by first | assumption | rfl | exact up_same | exact (up_ne (by omega)).trans (by assumption) | exact (up_ne (by assumption)).trans (by assumption) | exact (up_ne (by omega)).trans up_same | exact (up_ne (by omega)).trans ((up_ne (by omega)).trans (by assumption))) (r_stateNow (own := ownN (d_b0 d)) s57 s68 (by omega) (fun j hj => (sk.1 j hj).1)) ?_
  refine x_istore dX10_shouldOf_121 (Nat.le_of_ble_eq_true rfl) rfl ?_
  refine x_aload dX10_shouldOf_122 rfl ?_
  refine x_get fX10_61 dX10_shouldOf_123 (by first | assumption | rfl | exact up_same | exact (up_ne (by omega)).trans (by assumption) | exact (up_ne (by assumption)).trans (by assumption) | exact (up_ne (by omega)).trans up_same | exact (up_ne (by omega)).trans ((up_ne (by omega)).trans (by assumption))) ?_
  refine x_iload dX10_shouldOf_126 rfl ?_
  refine x_k dX10_shouldOf_127 ?_
  refine x_iastn dX10_shouldOf_128 (by first | assumption | rfl | exact up_same | exact (up_ne (by omega)).trans (by assumption) | exact (up_ne (by assumption)).trans (by assumption) | exact (up_ne (by omega)).trans up_same | exact (up_ne (by omega)).trans ((up_ne (by omega)).trans (by assumption))) ⟨by first | omega | decide, by decide⟩ ?_
  refine x_aload dX10_shouldOf_129 rfl ?_
  refine x_get fX10_64 dX10_shouldOf_130 (by first | assumption | rfl | exact up_same | exact (up_ne (by omega)).trans (by assumption) | exact (up_ne (by assumption)).trans (by assumption) | exact (up_ne (by omega)).trans up_same | exact (up_ne (by omega)).trans ((up_ne (by omega)).trans (by assumption))) ?_
  refine x_k dX10_shouldOf_133 ?_
  refine x_iload dX10_shouldOf_134 rfl ?_
  refine x_iastn dX10_shouldOf_135 (by first | assumption | rfl | exact up_same | exact (up_ne (by omega)).trans (by assumption) | exact (up_ne (by assumption)).trans (by assumption) | exact (up_ne (by omega)).trans up_same | exact (up_ne (by omega)).trans ((up_ne (by omega)).trans (by assumption))) ⟨by first | omega | decide, by decide⟩ ?_
  refine x_k dX10_shouldOf_136 ?_
  refine x_istore dX10_shouldOf_137 (Nat.le_of_ble_eq_true rfl) rfl ?_
  refine x_k dX10_shouldOf_139 ?_
  refine x_istore dX10_shouldOf_140 (Nat.le_of_ble_eq_true rfl) rfl ?_
  refine x_eq rfl rfl rfl (go _ _ _ _ _ ⟨hM1.wrk (fun j h1 h2 h3 => by rw [up_ne (by omega), up_ne (by omega)]) s68 s69 s70 g71 rfl rfl, hR1.of (fun j h1 h2 => by rw [up_ne (by omega), up_ne (by omega)]), hW1.of rfl, ⟨_, _, rfl, rfl, fun j hj => ?_, fun j hj => ?_⟩, (hfr.trans hF1).trans (by intro k hk; simp only [va_up]; (repeat' split) <;> first | rfl | omega)⟩)
  · show upd af (wayOf (d_H d) (ownN (d_b0 d))) 0 j = upd (fun _ => -1) (wayOf (d_H d) (ownN (d_b0 d))) 0 j
    by_cases e : j = wayOf (d_H d) (ownN (d_b0 d))
    · rw [e, upd_same, upd_same]
    · rw [upd_ne e, upd_ne e]; exact haf j hj
  · have hj : j < 0 + 1 := hj
    have e : j = 0 := by omega
    subst e
    exact upd_same
theorem m_shouldOf {k : Nat} (hM : MW h d) (hR : MR h d) (hd : okD d) (hk : k < 4) : Rn Γ mX10_shouldOf [.ref 57, .int (nI k)] h sz (qM h sz d (shlA d k)) := by
  obtain ⟨ll, ow, pr, kd, pl, r57, r60, r61, r62, r63, ro, rp⟩ := id hR
  obtain ⟨_, _, _, _, _, _, _, _, _, _, _, os, kp, tm, ls, _, af, wt, _, th, fr, it, _, -, ⟨-, -, -, -, g68, g69, g70, g71⟩, ⟨-, -, -, g75, g76, -, -, -⟩, ⟨g80, g81, g82, g83, -⟩, -, -, -, ait⟩ := id hM
  have hH8 : d_H d ≤ 8 := (hN_ok hd.1.1).1
  have hP8 : d_N d ≤ 8 := (pN_ok hd.1.2.1).1
  have e4 : nI (d_H d) ≤ 4 ↔ d_H d ≤ 4 := nI_leI (b := 4) (by omega) (by omega)
  obtain ⟨s1, s2, s3⟩ := hd.2.2.2 k hk
  have es : nI (d_H d) ≤ d_si d k ↔ d_H d ≤ cN (d_si d) k := by rw [s2]; exact nI_leI (by omega) (by omega)
  refine x_enter 8 (by decide) rfl ?_
  have J92 : d_H d ≤ 4 → d_H d ≤ cN (d_si d) k → (∀ i, i < d_H d → itB d k i) → ∀ j, j ≤ 4096 → Ex Γ mX10_shouldOf (gx_Z Γ mX10_shouldOf (qM h sz d (shlA d k))) 0 0 92 [.ref 57, .int (nI k), .int (nI (wayOf (d_H d) (cN (d_it d k)))), .int (nI j), .retAddr 0, .retAddr 0, .retAddr 0, .retAddr 0, .retAddr 0, .retAddr 0] [] (va_up h 75 (ia 4096 (filF af (-1) j))) sz := by
    intro hH hsk hi
    have hw := wayOf_dig (own := cN (d_it d k)) hH (fun j hj => (itB_n hP8 (hi j hj)).2)
    refine loopUp 4096 ?_ (fun j hj ih => ?_)
    · refine x_iload dX10_shouldOf_92 rfl ?_
      refine x_k dX10_shouldOf_93 ?_
      refine x_icmp_ge dX10_shouldOf_96 (fun b96 => ?_) (fun b96 => ?_)
      · exact m_begin0 (hM.wrk (h' := va_up h 75 (ia 4096 (filF af (-1) 4096))) (fun j h1 h2 h3 => up_ne (by omega)) g68 g69 g70 g71 rfl g76) hd hH hw.1 (fun n hn => by rw [hn]; exact (shl_yes hH hsk hi).symm) (fun j hj => up_ne (by omega)) up_same (fun i hi => if_pos hi)
      · exact absurd (Int32.le_refl _) b96
    · refine x_iload dX10_shouldOf_92 rfl ?_
      refine x_k dX10_shouldOf_93 ?_
      refine x_icmp_ge dX10_shouldOf_96 (fun b96 => ?_) (fun b96 => ?_)
      · exact absurd b96 (nI_ge (b := 4096) hj (by decide))
      · refine x_aload dX10_shouldOf_99 rfl ?_
        refine x_get fX10_61 dX10_shouldOf_100 (by first | assumption | rfl | exact up_same | exact (up_ne (by omega)).trans (by assumption) | exact (up_ne (by assumption)).trans (by assumption) | exact (up_ne (by omega)).trans up_same | exact (up_ne (by omega)).trans ((up_ne (by omega)).trans (by assumption))) ?_
        refine x_iload dX10_shouldOf_103 rfl ?_
        refine x_k dX10_shouldOf_104 ?_
        refine x_iastn dX10_shouldOf_105 (by first | assumption | rfl | exact up_same | exact (up_ne (by omega)).trans (by assumption) | exact (up_ne (by assumption)).trans (by assumption) | exact (up_ne (by omega)).trans up_same | exact (up_ne (by omega)).trans ((up_ne (by omega)).trans (by assumption))) ⟨by first | omega | decide, by decide⟩ ?_
        refine x_inc1 dX10_shouldOf_106 rfl (Nat.le_of_ble_eq_true rfl) rfl ?_
        refine x_goto dX10_shouldOf_109 ?_
        refine x_eq rfl rfl ?_ ih
        rw [up_up, filF_s]
  have J36 : d_H d ≤ 4 → d_H d ≤ cN (d_si d) k → ∀ j, j ≤ d_H d → ∀ x, (∀ i, j ≤ i → i < d_H d → itB d k i) → x * 8 ^ j + wayOf j (cN (d_it d k)) = wayOf (d_H d) (cN (d_it d k)) → Ex Γ mX10_shouldOf (gx_Z Γ mX10_shouldOf (qM h sz d (shlA d k))) 0 0 36 [.ref 57, .int (nI k), .int (nI x), .int (nI j - 1), .retAddr 0, .retAddr 0, .retAddr 0, .retAddr 0, .retAddr 0, .retAddr 0] [] h sz := by
    intro hH hsk j
    induction j with
    | zero =>
      intro hj x hi hx
      have ex : x = wayOf (d_H d) (cN (d_it d k)) := by rw [← hx, Nat.pow_zero, Nat.mul_one]; rfl
      have go := J92 hH hsk (fun i h => hi i (Nat.zero_le _) h) 0 (Nat.zero_le _)
      rw [filF_0, up_id g75] at go
      rw [ex]
      refine x_iload dX10_shouldOf_36 rfl ?_
      refine x_if_lt dX10_shouldOf_37 (fun b37 => ?_) (fun b37 => ?_)
      · refine x_k dX10_shouldOf_90 ?_
        refine x_istore dX10_shouldOf_91 (Nat.le_of_ble_eq_true rfl) rfl ?_
        exact go
      · exact absurd (by decide) b37
    | succ j ih =>
      intro hj x hi hx
      rw [nI_m1]
      have hx2 : (8 * x + cN (d_it d k) j) * 8 ^ j + wayOf j (cN (d_it d k)) = wayOf (d_H d) (cN (d_it d k)) := by
        rw [← hx, way_s, Nat.pow_succ, Nat.add_mul, Nat.mul_comm 8 x, Nat.mul_assoc, Nat.mul_comm 8 (8 ^ j)]; omega
      have eix : (48 : Int32) * nI k + nI j = nI (48 * k + j) := by rw [show (48 : Int32) = nI 48 from rfl, pk_mul, nI_add]
      have eit := ait k hk j (by omega)
      refine x_iload dX10_shouldOf_36 rfl ?_
      refine x_if_lt dX10_shouldOf_37 (fun b37 => ?_) (fun b37 => ?_)
      · exact absurd b37 (nI_pos (by omega))
      · refine x_aload dX10_shouldOf_40 rfl ?_
        refine x_get fX10_86 dX10_shouldOf_41 (by first | assumption | rfl | exact up_same | exact (up_ne (by omega)).trans (by assumption) | exact (up_ne (by assumption)).trans (by assumption) | exact (up_ne (by omega)).trans up_same | exact (up_ne (by omega)).trans ((up_ne (by omega)).trans (by assumption))) ?_
        refine x_k dX10_shouldOf_44 ?_
        refine x_iload dX10_shouldOf_46 rfl ?_
        refine x_imul dX10_shouldOf_47 ?_
        refine x_iload dX10_shouldOf_48 rfl ?_
        refine x_iadd dX10_shouldOf_49 ?_
        rw [eix]
        refine x_ialdn dX10_shouldOf_50 (by first | assumption | rfl | exact up_same | exact (up_ne (by omega)).trans (by assumption) | exact (up_ne (by assumption)).trans (by assumption) | exact (up_ne (by omega)).trans up_same | exact (up_ne (by omega)).trans ((up_ne (by omega)).trans (by assumption))) ⟨by first | omega | decide, by decide⟩ ?_
        rw [eit]
        refine x_k dX10_shouldOf_51 ?_
        refine x_aload dX10_shouldOf_52 rfl ?_
        refine x_get fX10_104 dX10_shouldOf_53 (by first | assumption | rfl | exact up_same | exact (up_ne (by omega)).trans (by assumption) | exact (up_ne (by assumption)).trans (by assumption) | exact (up_ne (by omega)).trans up_same | exact (up_ne (by omega)).trans ((up_ne (by omega)).trans (by assumption))) ?_
        refine x_k dX10_shouldOf_56 ?_
        refine x_isub dX10_shouldOf_57 ?_
        refine x_S3i lX10_92 (Rm.of rfl) (cc1 := 0) (cn1 := 0) rfl rfl (Nat.le_of_ble_eq_true rfl) dX10_shouldOf_58 (r_in (d_it d k j) 0 (nI (d_N d) - 1)) ?_
        refine x_if_ne dX10_shouldOf_61 (fun b61 => ?_) (fun b61 => ?_)
        · try simp only [i01, Classical.not_not] at b61
          have hij : itB d k j := (in_it hP8).mp b61
          have ein := itB_n hP8 hij
          have hi2 : ∀ i, j ≤ i → i < d_H d → itB d k i := fun i h1 h2 => by
            by_cases e : i = j
            · rw [e]; exact hij
            · exact hi i (by omega) h2
          refine x_k dX10_shouldOf_67 ?_
          refine x_iload dX10_shouldOf_69 rfl ?_
          refine x_imul dX10_shouldOf_70 ?_
          refine x_aload dX10_shouldOf_71 rfl ?_
          refine x_get fX10_86 dX10_shouldOf_72 (by first | assumption | rfl | exact up_same | exact (up_ne (by omega)).trans (by assumption) | exact (up_ne (by assumption)).trans (by assumption) | exact (up_ne (by omega)).trans up_same | exact (up_ne (by omega)).trans ((up_ne (by omega)).trans (by assumption))) ?_
          refine x_k dX10_shouldOf_75 ?_
          refine x_iload dX10_shouldOf_77 rfl ?_
          refine x_imul dX10_shouldOf_78 ?_
          refine x_iload dX10_shouldOf_79 rfl ?_
          refine x_iadd dX10_shouldOf_80 ?_
          rw [eix]
          refine x_ialdn dX10_shouldOf_81 (by first | assumption | rfl | exact up_same | exact (up_ne (by omega)).trans (by assumption) | exact (up_ne (by assumption)).trans (by assumption) | exact (up_ne (by omega)).trans up_same | exact (up_ne (by omega)).trans ((up_ne (by omega)).trans (by assumption))) ⟨by first | omega | decide, by decide⟩ ?_
          refine x_iadd dX10_shouldOf_82 ?_
          rw [eit, ein.1, show (8 : Int32) = nI 8 from rfl, pk_mul, nI_add]
          refine x_istore dX10_shouldOf_83 (Nat.le_of_ble_eq_true rfl) rfl ?_
          refine x_iinc (v := (-1)) dX10_shouldOf_84 rfl (by decide) (Nat.le_of_ble_eq_true rfl) rfl ?_
          refine x_goto dX10_shouldOf_87 ?_
          refine x_eq ?_ rfl rfl (ih (by omega) (8 * x + cN (d_it d k) j) hi2 hx2)
          rw [← nI_add_m1]; rfl
        · try simp only [i01, Classical.not_not] at b61
          refine x_k dX10_shouldOf_64 ?_
          refine x_iret (ty := .int) dX10_shouldOf_66 rfl rfl (Nat.zero_le _) (Nat.zero_le _) ?_
          exact ⟨by rw [shl_not hH (fun z => b61 ((in_it hP8).mpr (z.2 j (by omega))))], rfl, hM, fun _ _ => rfl⟩
  refine x_aload dX10_shouldOf_0 rfl ?_
  refine x_get fX10_96 dX10_shouldOf_1 (by first | assumption | rfl | exact up_same | exact (up_ne (by omega)).trans (by assumption) | exact (up_ne (by assumption)).trans (by assumption) | exact (up_ne (by omega)).trans up_same | exact (up_ne (by omega)).trans ((up_ne (by omega)).trans (by assumption))) ?_
  refine x_k dX10_shouldOf_4 ?_
  refine x_icmp_le dX10_shouldOf_5 (fun b5 => ?_) (fun b5 => ?_)
  · refine x_aload dX10_shouldOf_11 rfl ?_
    refine x_get fX10_83 dX10_shouldOf_12 (by first | assumption | rfl | exact up_same | exact (up_ne (by omega)).trans (by assumption) | exact (up_ne (by assumption)).trans (by assumption) | exact (up_ne (by omega)).trans up_same | exact (up_ne (by omega)).trans ((up_ne (by omega)).trans (by assumption))) ?_
    refine x_iload dX10_shouldOf_15 rfl ?_
    refine x_ialdn dX10_shouldOf_16 (by first | assumption | rfl | exact up_same | exact (up_ne (by omega)).trans (by assumption) | exact (up_ne (by assumption)).trans (by assumption) | exact (up_ne (by omega)).trans up_same | exact (up_ne (by omega)).trans ((up_ne (by omega)).trans (by assumption))) ⟨by first | omega | decide, by decide⟩ ?_
    refine x_aload dX10_shouldOf_17 rfl ?_
    refine x_get fX10_96 dX10_shouldOf_18 (by first | assumption | rfl | exact up_same | exact (up_ne (by omega)).trans (by assumption) | exact (up_ne (by assumption)).trans (by assumption) | exact (up_ne (by omega)).trans up_same | exact (up_ne (by omega)).trans ((up_ne (by omega)).trans (by assumption))) ?_
    refine x_icmp_ge dX10_shouldOf_21 (fun b21 => ?_) (fun b21 => ?_)
    · refine x_k dX10_shouldOf_27 ?_
      refine x_istore dX10_shouldOf_28 (Nat.le_of_ble_eq_true rfl) rfl ?_
      refine x_aload dX10_shouldOf_29 rfl ?_
      refine x_get fX10_96 dX10_shouldOf_30 (by first | assumption | rfl | exact up_same | exact (up_ne (by omega)).trans (by assumption) | exact (up_ne (by assumption)).trans (by assumption) | exact (up_ne (by omega)).trans up_same | exact (up_ne (by omega)).trans ((up_ne (by omega)).trans (by assumption))) ?_
      refine x_k dX10_shouldOf_33 ?_
      refine x_isub dX10_shouldOf_34 ?_
      refine x_istore dX10_shouldOf_35 (Nat.le_of_ble_eq_true rfl) rfl ?_
      exact x_eq rfl rfl rfl (J36 (e4.mp b5) (es.mp b21) (d_H d) (Nat.le_refl _) 0 (fun i h1 h2 => absurd h1 (by omega)) (by rw [Nat.zero_mul, Nat.zero_add]))
    · refine x_k dX10_shouldOf_24 ?_
      refine x_iret (ty := .int) dX10_shouldOf_26 rfl rfl (Nat.zero_le _) (Nat.zero_le _) ?_
      exact ⟨by rw [shl_not (e4.mp b5) (fun z => b21 (es.mpr z.1))], rfl, hM, fun _ _ => rfl⟩
  · refine x_k dX10_shouldOf_8 ?_
    refine x_iret (ty := .int) dX10_shouldOf_10 rfl rfl (Nat.zero_le _) (Nat.zero_le _) ?_
    exact ⟨by rw [shl_full (fun z => b5 (e4.mpr z))], rfl, hM, fun _ _ => rfl⟩
theorem m_should (s : Int32) (hM : MW h d) (hd : okD d) : Rn Γ mX10_should [.ref 57, .int s] h sz (qM h sz (dShould d s) (aShould d s)) := by
  refine x_enter 0 (by decide) rfl ?_
  obtain ⟨hs, pe, ll, th, fr, it, mv, a57, a80, a81, a82, a83, a84, am⟩ := hM.shs
  have J10 : cS s → Ex Γ mX10_should (gx_Z Γ mX10_should (qM h sz (dShould d s) (aShould d s))) 0 0 10 [.ref 57, .int s] [] h sz := by
    intro hc
    obtain ⟨k, hk, rfl⟩ := upto (n := 3) hc.1 hc.2 (by omega)
    have ek := am.1 k (by omega)
    rw [dShould, aShould, if_pos hc, if_pos hc, sN, nI_clamp (by omega)]
    refine x_aload dX10_should_10 rfl ?_
    refine x_get fX10_76 dX10_should_11 (by first | assumption | rfl | exact up_same | exact (up_ne (by omega)).trans (by assumption) | exact (up_ne (by assumption)).trans (by assumption) | exact (up_ne (by omega)).trans up_same | exact (up_ne (by omega)).trans ((up_ne (by omega)).trans (by assumption))) ?_
    refine x_iload dX10_should_14 rfl ?_
    refine x_zaldn dX10_should_15 (by first | assumption | rfl | exact up_same | exact (up_ne (by omega)).trans (by assumption) | exact (up_ne (by assumption)).trans (by assumption) | exact (up_ne (by omega)).trans up_same | exact (up_ne (by omega)).trans ((up_ne (by omega)).trans (by assumption))) ⟨by first | omega | decide, by decide⟩ ?_
    refine x_if_ne dX10_should_16 (fun b16 => ?_) (fun b16 => ?_)
    · refine x_aload dX10_should_25 rfl ?_
      refine x_V0q lX10_118 (Rm.of rfl) (cc1 := 0) (cn1 := 0) rfl rfl (Nat.le_of_ble_eq_true rfl) dX10_should_26 (by first | assumption | rfl | exact up_same | exact (up_ne (by omega)).trans (by assumption) | exact (up_ne (by assumption)).trans (by assumption) | exact (up_ne (by omega)).trans up_same | exact (up_ne (by omega)).trans ((up_ne (by omega)).trans (by assumption))) (m_reads hM hd) ?_
      rintro _ h1 _ ⟨rfl, rfl, hM1, hR1, hF1⟩
      obtain ⟨_, _, _, w57⟩ := hM1.w57
      refine x_aload dX10_should_29 rfl ?_
      refine x_iload dX10_should_30 rfl ?_
      refine x_V1q lX10_223 (Rm.of rfl) (cc1 := 0) (cn1 := 0) rfl rfl (Nat.le_of_ble_eq_true rfl) dX10_should_31 (by first | assumption | rfl | exact up_same | exact (up_ne (by omega)).trans (by assumption) | exact (up_ne (by assumption)).trans (by assumption) | exact (up_ne (by omega)).trans up_same | exact (up_ne (by omega)).trans ((up_ne (by omega)).trans (by assumption))) (m_shouldOf hM1 hR1 hd (by omega)) ?_
      rintro _ h2 _ ⟨rfl, rfl, hM2, hF2⟩
      refine x_iret (ty := .int) dX10_should_34 rfl rfl (Nat.zero_le _) (Nat.zero_le _) ?_
      have hz : ¬ d_fo d k = -1 := fun z => by rw [ek.1, if_pos z] at b16; exact b16 rfl
      rw [if_neg hz, if_neg hz]
      exact ⟨rfl, rfl, hM2, hF1.trans hF2⟩
    · refine x_aload dX10_should_19 rfl ?_
      refine x_k dX10_should_20 ?_
      refine x_V1q lX10_146 (Rm.of rfl) (cc1 := 0) (cn1 := 0) rfl rfl (Nat.le_of_ble_eq_true rfl) dX10_should_21 (by first | assumption | rfl | exact up_same | exact (up_ne (by omega)).trans (by assumption) | exact (up_ne (by assumption)).trans (by assumption) | exact (up_ne (by omega)).trans up_same | exact (up_ne (by omega)).trans ((up_ne (by omega)).trans (by assumption))) (m_meets 1 hM) ?_
      rintro _ h2 _ hq
      have hq2 := hq
      obtain ⟨rfl, -⟩ := hq
      refine x_iret (ty := .int) dX10_should_24 rfl rfl (Nat.zero_le _) (Nat.zero_le _) ?_
      have hz : d_fo d k = -1 := Classical.byContradiction (fun z => b16 (by rw [ek.1, if_neg z]; decide))
      rw [if_pos hz, if_pos hz]; exact hq2
  refine x_iload dX10_should_0 rfl ?_
  refine x_S1i lX10_143 (Rm.of rfl) (cc1 := 0) (cn1 := 0) rfl rfl (Nat.le_of_ble_eq_true rfl) dX10_should_1 (r_isSheet s) ?_
  refine x_if_ne dX10_should_4 (fun b4 => ?_) (fun b4 => ?_)
  · try simp only [i01, Classical.not_not] at b4
    exact J10 b4
  · try simp only [i01, Classical.not_not] at b4
    refine x_k dX10_should_7 ?_
    refine x_iret (ty := .int) dX10_should_9 rfl rfl (Nat.zero_le _) (Nat.zero_le _) ?_
    rw [dShould, aShould, if_neg b4, if_neg b4]
    exact ⟨rfl, rfl, hM, fun _ _ => rfl⟩
end MShD
