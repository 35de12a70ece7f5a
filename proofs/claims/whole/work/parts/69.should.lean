/-! should, of the class -/
def itB (d : DT) (k j : Nat) : Prop := 0 ≤ d_it d k j ∧ d_it d k j < nI (d_N d)
noncomputable def shlA (d : DT) (k : Nat) : Int32 := if d_H d ≤ 4 then @ite Int32 (d_H d ≤ cN (d_si d) k ∧ ∀ j, j < d_H d → itB d k j) (Classical.propDecidable _) ((bfs d 4096).1 (wayOf (d_H d) (cN (d_it d k)))) (-3) else -4
noncomputable def aShould (d : DT) (s : Int32) : Int32 := if cS s then (if d_fo d (sN s) = -1 then -11 else shlA d (sN s)) else -2
def dShould (d : DT) (s : Int32) : DT := if cS s then (if d_fo d (sN s) = -1 then dFi d 1 else d) else d
theorem ok_should {d : DT} (s : Int32) (hd : okD d) : okD (dShould d s) := by
  rw [dShould]
  split
  · split
    · exact hd
    · exact hd
  · exact hd
theorem shl_full {d : DT} {k : Nat} (h : ¬ d_H d ≤ 4) : shlA d k = -4 := by rw [shlA, if_neg h]
theorem shl_not {d : DT} {k : Nat} (h : d_H d ≤ 4) (h2 : ¬ (d_H d ≤ cN (d_si d) k ∧ ∀ j, j < d_H d → itB d k j)) : shlA d k = -3 := by rw [shlA, if_pos h, if_neg h2]
theorem shl_yes {d : DT} {k : Nat} (h : d_H d ≤ 4) (h2 : d_H d ≤ cN (d_si d) k) (h3 : ∀ j, j < d_H d → itB d k j) : shlA d k = (bfs d 4096).1 (wayOf (d_H d) (cN (d_it d k))) := by rw [shlA, if_pos h, if_pos ⟨h2, h3⟩]
section Should
variable {Γ : GX} {h : Hp} {sz : Nat} {d : DT}
theorem itB_n {k j : Nat} (hN : d_N d ≤ 8) (hi : itB d k j) : d_it d k j = nI (cN (d_it d k) j) ∧ cN (d_it d k) j < 8 := by
  obtain ⟨q, hq, e⟩ := below hi.1 hi.2 (by omega)
  have : cN (d_it d k) j = q := by rw [cN, e, nI_clamp (by omega)]
  rw [this]; exact ⟨e, by omega⟩
theorem c_shouldOk {k : Nat} (hX : XW h sz d) (hd : okD d) (hsz : 85 ≤ sz) (hk : k < 4) : Ex Γ mX9_should (gx_Z Γ mX9_should (qW h sz d (shlA d k))) 0 0 30 [.ref 4, .int (nI k), .ref (49 + 2 * k), .retAddr 0, .retAddr 0] [] h sz := by
  obtain ⟨hA, hK, hR, hD⟩ := id hX
  obtain ⟨ow, pr, od, kd, sp, ins, a1, ⟨a10, -⟩, ⟨a17, -, -⟩, -⟩ := id hA
  obtain ⟨a48, a49, a50⟩ := hA.sh (s := k) hk
  obtain ⟨ss, h4⟩ := hK.w4
  have hH8 : d_H d ≤ 8 := (hN_ok hd.1.1).1
  have hP8 : d_N d ≤ 8 := (pN_ok hd.1.2.1).1
  have e4 : nI (d_H d) ≤ 4 ↔ d_H d ≤ 4 := nI_leI (b := 4) (by omega) (by omega)
  obtain ⟨s1, s2, s3⟩ := hd.2.2.2 k hk
  have es : nI (d_H d) ≤ d_si d k ↔ d_H d ≤ cN (d_si d) k := by rw [s2]; exact nI_leI (by omega) (by omega)
  obtain ⟨fe, qu, wt, fi, so, dn, ln, f, g, kf, tf, ⟨a39, -⟩, -⟩ := id hD
  have J66 : d_H d ≤ 4 → d_H d ≤ cN (d_si d) k → ∀ j, j ≤ d_H d → (∀ i, i < j → itB d k i) → Ex Γ mX9_should (gx_Z Γ mX9_should (qW h sz d (shlA d k))) 0 0 66 [.ref 4, .int (nI k), .ref (49 + 2 * k), .int (nI (wayOf j (cN (d_it d k)))), .int (nI j)] [] h sz := by
    intro hH hsk
    refine loopUp (d_H d) (fun hi => ?_) (fun j hj ih hi => ?_)
    · have hw := wayOf_dig (own := cN (d_it d k)) hH (fun j hj => (itB_n hP8 (hi j hj)).2)
      refine x_iload dX9_should_66 rfl ?_
      refine x_aload dX9_should_68 rfl ?_
      refine x_get fX9_21 dX9_should_69 (by first | assumption | rfl | exact up_same | exact (up_ne (by omega)).trans (by assumption) | exact (up_ne (by assumption)).trans (by assumption) | exact (up_ne (by omega)).trans up_same | exact (up_ne (by omega)).trans ((up_ne (by omega)).trans (by assumption))) ?_
      refine x_get fX9_197 dX9_should_72 (by first | assumption | rfl | exact up_same | exact (up_ne (by omega)).trans (by assumption) | exact (up_ne (by assumption)).trans (by assumption) | exact (up_ne (by omega)).trans up_same | exact (up_ne (by omega)).trans ((up_ne (by omega)).trans (by assumption))) ?_
      refine x_icmp_ge dX9_should_75 (fun b75 => ?_) (fun b75 => ?_)
      · refine x_aload dX9_should_115 rfl ?_
        refine x_get fX9_56 dX9_should_116 (by first | assumption | rfl | exact up_same | exact (up_ne (by omega)).trans (by assumption) | exact (up_ne (by assumption)).trans (by assumption) | exact (up_ne (by omega)).trans up_same | exact (up_ne (by omega)).trans ((up_ne (by omega)).trans (by assumption))) ?_
        refine x_aload dX9_should_119 rfl ?_
        refine x_get fX9_21 dX9_should_120 (by first | assumption | rfl | exact up_same | exact (up_ne (by omega)).trans (by assumption) | exact (up_ne (by assumption)).trans (by assumption) | exact (up_ne (by omega)).trans up_same | exact (up_ne (by omega)).trans ((up_ne (by omega)).trans (by assumption))) ?_
        refine x_aload dX9_should_123 rfl ?_
        refine x_get fX9_28 dX9_should_124 (by first | assumption | rfl | exact up_same | exact (up_ne (by omega)).trans (by assumption) | exact (up_ne (by assumption)).trans (by assumption) | exact (up_ne (by omega)).trans up_same | exact (up_ne (by omega)).trans ((up_ne (by omega)).trans (by assumption))) ?_
        refine x_get fX9_131 dX9_should_127 (by first | assumption | rfl | exact up_same | exact (up_ne (by omega)).trans (by assumption) | exact (up_ne (by assumption)).trans (by assumption) | exact (up_ne (by omega)).trans up_same | exact (up_ne (by omega)).trans ((up_ne (by omega)).trans (by assumption))) ?_
        refine x_V2q lX9_255 (Rm.of rfl) (cc1 := 2) (cn1 := 8192) rfl rfl (Nat.le_of_ble_eq_true rfl) dX9_should_130 (by first | assumption | rfl | exact up_same | exact (up_ne (by omega)).trans (by assumption) | exact (up_ne (by assumption)).trans (by assumption) | exact (up_ne (by omega)).trans up_same | exact (up_ne (by omega)).trans ((up_ne (by omega)).trans (by assumption))) (x_dfill hA hD hd hH hsz) ?_
        rintro _ h1 sz1 ⟨rfl, hz1, hE1, hfr1⟩
        have hA1 := hA.ofD hfr1 hsz
        have hK1 := hK.ofD hfr1 hsz
        have hR1 := hR.ofD hfr1 hsz hz1
        have hD1 := hE1.D
        obtain ⟨ss1, g4⟩ := hK1.w4
        obtain ⟨k1, l1, wt1, so1, dn1, ln1, f1, g1, kf1, tf1, ff1, qf1, ⟨g39, -⟩, -, -, -, gk, -, hDF⟩ := id hE1
        refine x_aload dX9_should_133 rfl ?_
        refine x_get fX9_56 dX9_should_134 (by first | assumption | rfl | exact up_same | exact (up_ne (by omega)).trans (by assumption) | exact (up_ne (by assumption)).trans (by assumption) | exact (up_ne (by omega)).trans up_same | exact (up_ne (by omega)).trans ((up_ne (by omega)).trans (by assumption))) ?_
        refine x_iload dX9_should_137 rfl ?_
        refine x_V1i lX9_258 (Rm.of rfl) (cc1 := 2) (cn1 := 8192) rfl rfl (Nat.le_of_ble_eq_true rfl) dX9_should_138 (by first | assumption | rfl | exact up_same | exact (up_ne (by omega)).trans (by assumption) | exact (up_ne (by assumption)).trans (by assumption) | exact (up_ne (by omega)).trans up_same | exact (up_ne (by omega)).trans ((up_ne (by omega)).trans (by assumption))) (r_fewestTo g39 gk hw.1) ?_
        refine x_iret (ty := .int) dX9_should_141 rfl rfl (Nat.le_of_ble_eq_true rfl) (Nat.le_of_ble_eq_true rfl) ?_
        exact ⟨by rw [shl_yes hH hsk hi, hDF.2 _ hw.1], hz1, ⟨hA1, hK1, hR1, hD1⟩, hfr1.X hsz⟩
      · exact absurd (Int32.le_refl _) b75
    · have hj48 : j < 48 := by omega
      refine x_iload dX9_should_66 rfl ?_
      refine x_aload dX9_should_68 rfl ?_
      refine x_get fX9_21 dX9_should_69 (by first | assumption | rfl | exact up_same | exact (up_ne (by omega)).trans (by assumption) | exact (up_ne (by assumption)).trans (by assumption) | exact (up_ne (by omega)).trans up_same | exact (up_ne (by omega)).trans ((up_ne (by omega)).trans (by assumption))) ?_
      refine x_get fX9_197 dX9_should_72 (by first | assumption | rfl | exact up_same | exact (up_ne (by omega)).trans (by assumption) | exact (up_ne (by assumption)).trans (by assumption) | exact (up_ne (by omega)).trans up_same | exact (up_ne (by omega)).trans ((up_ne (by omega)).trans (by assumption))) ?_
      refine x_icmp_ge dX9_should_75 (fun b75 => ?_) (fun b75 => ?_)
      · exact absurd b75 (nI_ge hj (by omega))
      · refine x_aload dX9_should_78 rfl ?_
        refine x_aload dX9_should_79 rfl ?_
        refine x_get fX9_155 dX9_should_80 (by first | assumption | rfl | exact up_same | exact (up_ne (by omega)).trans (by assumption) | exact (up_ne (by assumption)).trans (by assumption) | exact (up_ne (by omega)).trans up_same | exact (up_ne (by omega)).trans ((up_ne (by omega)).trans (by assumption))) ?_
        refine x_iload dX9_should_83 rfl ?_
        refine x_ialdn dX9_should_85 (by first | assumption | rfl | exact up_same | exact (up_ne (by omega)).trans (by assumption) | exact (up_ne (by assumption)).trans (by assumption) | exact (up_ne (by omega)).trans up_same | exact (up_ne (by omega)).trans ((up_ne (by omega)).trans (by assumption))) ⟨by first | omega | decide, by decide⟩ ?_
        refine x_V1i lX9_115 (Rm.of rfl) (cc1 := 0) (cn1 := 0) rfl rfl (Nat.le_of_ble_eq_true rfl) dX9_should_86 (by first | assumption | rfl | exact up_same | exact (up_ne (by omega)).trans (by assumption) | exact (up_ne (by assumption)).trans (by assumption) | exact (up_ne (by omega)).trans up_same | exact (up_ne (by omega)).trans ((up_ne (by omega)).trans (by assumption))) (r_nobody h4 a10 (d_it d k j)) ?_
        refine x_if_eq dX9_should_89 (fun b89 => ?_) (fun b89 => ?_)
        · try simp only [i01, Classical.not_not] at b89
          have hij : itB d k j := ⟨Int32.not_lt.mp (fun y => b89 (Or.inl y)), Int32.not_le.mp (fun y => b89 (Or.inr y))⟩
          have ein := itB_n hP8 hij
          have hi2 : ∀ i, i < j + 1 → itB d k i := fun i hi' => by
            by_cases e : i = j
            · rw [e]; exact hij
            · exact hi i (by omega)
          have ews := wayOf_set (own := cN (d_it d k)) (k := j) (by omega) (fun i hi' => (itB_n hP8 (hi2 i hi')).2)
          have ih2 := ih hi2
          rw [← ews] at ih2
          refine x_iload dX9_should_95 rfl ?_
          refine x_iload dX9_should_96 rfl ?_
          refine x_aload dX9_should_98 rfl ?_
          refine x_get fX9_155 dX9_should_99 (by first | assumption | rfl | exact up_same | exact (up_ne (by omega)).trans (by assumption) | exact (up_ne (by assumption)).trans (by assumption) | exact (up_ne (by omega)).trans up_same | exact (up_ne (by omega)).trans ((up_ne (by omega)).trans (by assumption))) ?_
          refine x_iload dX9_should_102 rfl ?_
          refine x_ialdn dX9_should_104 (by first | assumption | rfl | exact up_same | exact (up_ne (by omega)).trans (by assumption) | exact (up_ne (by assumption)).trans (by assumption) | exact (up_ne (by omega)).trans up_same | exact (up_ne (by omega)).trans ((up_ne (by omega)).trans (by assumption))) ⟨by first | omega | decide, by decide⟩ ?_
          rw [ein.1]
          refine x_S3i lX9_251 (Rm.of rfl) (cc1 := 0) (cn1 := 0) rfl rfl (Nat.le_of_ble_eq_true rfl) dX9_should_105 (r_withOwner (way := wayOf j (cN (d_it d k))) (by omega) ein.2) ?_
          refine x_istore dX9_should_108 (Nat.le_of_ble_eq_true rfl) rfl ?_
          refine x_inc1 dX9_should_109 rfl (Nat.le_of_ble_eq_true rfl) rfl ?_
          refine x_goto dX9_should_112 ?_
          exact ih2
        · try simp only [i01, Classical.not_not] at b89
          refine x_k dX9_should_92 ?_
          refine x_iret (ty := .int) dX9_should_94 rfl rfl (Nat.le_of_ble_eq_true rfl) (Nat.le_of_ble_eq_true rfl) ?_
          exact ⟨by rw [shl_not hH (fun z => (z.2 j hj).elim (fun y1 y2 => b89.elim (fun x => Int32.not_lt.mpr y1 x) (fun x => Int32.not_le.mpr y2 x)))], Nat.le_refl _, hX, fun _ _ => rfl⟩
  refine x_aload dX9_should_30 rfl ?_
  refine x_get fX9_21 dX9_should_31 (by first | assumption | rfl | exact up_same | exact (up_ne (by omega)).trans (by assumption) | exact (up_ne (by assumption)).trans (by assumption) | exact (up_ne (by omega)).trans up_same | exact (up_ne (by omega)).trans ((up_ne (by omega)).trans (by assumption))) ?_
  refine x_get fX9_197 dX9_should_34 (by first | assumption | rfl | exact up_same | exact (up_ne (by omega)).trans (by assumption) | exact (up_ne (by assumption)).trans (by assumption) | exact (up_ne (by omega)).trans up_same | exact (up_ne (by omega)).trans ((up_ne (by omega)).trans (by assumption))) ?_
  refine x_k dX9_should_37 ?_
  refine x_icmp_le dX9_should_38 (fun b38 => ?_) (fun b38 => ?_)
  · refine x_aload dX9_should_44 rfl ?_
    refine x_get fX9_154 dX9_should_45 (by first | assumption | rfl | exact up_same | exact (up_ne (by omega)).trans (by assumption) | exact (up_ne (by assumption)).trans (by assumption) | exact (up_ne (by omega)).trans up_same | exact (up_ne (by omega)).trans ((up_ne (by omega)).trans (by assumption))) ?_
    refine x_aload dX9_should_48 rfl ?_
    refine x_get fX9_21 dX9_should_49 (by first | assumption | rfl | exact up_same | exact (up_ne (by omega)).trans (by assumption) | exact (up_ne (by assumption)).trans (by assumption) | exact (up_ne (by omega)).trans up_same | exact (up_ne (by omega)).trans ((up_ne (by omega)).trans (by assumption))) ?_
    refine x_get fX9_197 dX9_should_52 (by first | assumption | rfl | exact up_same | exact (up_ne (by omega)).trans (by assumption) | exact (up_ne (by assumption)).trans (by assumption) | exact (up_ne (by omega)).trans up_same | exact (up_ne (by omega)).trans ((up_ne (by omega)).trans (by assumption))) ?_
    refine x_icmp_ge dX9_should_55 (fun b55 => ?_) (fun b55 => ?_)
    · refine x_k dX9_should_61 ?_
      refine x_istore dX9_should_62 (Nat.le_of_ble_eq_true rfl) rfl ?_
      refine x_k dX9_should_63 ?_
      refine x_istore dX9_should_64 (Nat.le_of_ble_eq_true rfl) rfl ?_
      exact x_eq rfl rfl rfl (J66 (e4.mp b38) (es.mp b55) 0 (Nat.zero_le _) (fun i hi => absurd hi (Nat.not_lt_zero i)))
    · refine x_k dX9_should_58 ?_
      refine x_iret (ty := .int) dX9_should_60 rfl rfl (Nat.le_of_ble_eq_true rfl) (Nat.le_of_ble_eq_true rfl) ?_
      exact ⟨by rw [shl_not (e4.mp b38) (fun z => b55 (es.mpr z.1))], Nat.le_refl _, hX, fun _ _ => rfl⟩
  · refine x_k dX9_should_41 ?_
    refine x_iret (ty := .int) dX9_should_43 rfl rfl (Nat.le_of_ble_eq_true rfl) (Nat.le_of_ble_eq_true rfl) ?_
    exact ⟨by rw [shl_full (fun z => b38 (e4.mpr z))], Nat.le_refl _, hX, fun _ _ => rfl⟩
theorem c_should (s : Int32) (hX : XW h sz d) (hd : okD d) (hsz : 85 ≤ sz) : Rn Γ mX9_should [.ref 4, .int s] h sz (qW h sz (dShould d s) (aShould d s)) := by
  refine x_enter 3 (by decide) rfl ?_
  obtain ⟨ss, h4⟩ := hX.2.1.w4
  have J10 : cS s → Ex Γ mX9_should (gx_Z Γ mX9_should (qW h sz (dShould d s) (aShould d s))) 0 0 10 [.ref 4, .int s, .retAddr 0, .retAddr 0, .retAddr 0] [] h sz := by
    intro hc
    obtain ⟨k, hk, rfl⟩ := upto (n := 3) hc.1 hc.2 (by omega)
    obtain ⟨a48, a49, a50⟩ := hX.1.sh (s := k) (by omega)
    rw [dShould, aShould, if_pos hc, if_pos hc, sN, nI_clamp (by omega)]
    refine x_aload dX9_should_10 rfl ?_
    refine x_get fX9_70 dX9_should_11 (by first | assumption | rfl | exact up_same | exact (up_ne (by omega)).trans (by assumption) | exact (up_ne (by assumption)).trans (by assumption) | exact (up_ne (by omega)).trans up_same | exact (up_ne (by omega)).trans ((up_ne (by omega)).trans (by assumption))) ?_
    refine x_iload dX9_should_14 rfl ?_
    refine x_aaS (i := k) (q := 49 + 2 * k) dX9_should_15 a48 ⟨by omega, rfl⟩ ?_
    refine x_astore dX9_should_16 (Nat.le_of_ble_eq_true rfl) rfl ?_
    refine x_aload dX9_should_17 rfl ?_
    refine x_V0i lX9_147 (Rm.of rfl) (cc1 := 0) (cn1 := 0) rfl rfl (Nat.le_of_ble_eq_true rfl) dX9_should_18 (by first | assumption | rfl | exact up_same | exact (up_ne (by omega)).trans (by assumption) | exact (up_ne (by assumption)).trans (by assumption) | exact (up_ne (by omega)).trans up_same | exact (up_ne (by omega)).trans ((up_ne (by omega)).trans (by assumption))) (r_isLost a49) ?_
    refine x_if_eq dX9_should_21 (fun b21 => ?_) (fun b21 => ?_)
    · try simp only [i01, Classical.not_not] at b21
      rw [if_neg b21, if_neg b21]; exact c_shouldOk hX hd hsz (by omega)
    · try simp only [i01, Classical.not_not] at b21
      refine x_aload dX9_should_24 rfl ?_
      refine x_k dX9_should_25 ?_
      refine x_V1q lX9_151 (Rm.of rfl) (cc1 := 0) (cn1 := 0) rfl rfl (Nat.le_of_ble_eq_true rfl) dX9_should_26 (by first | assumption | rfl | exact up_same | exact (up_ne (by omega)).trans (by assumption) | exact (up_ne (by assumption)).trans (by assumption) | exact (up_ne (by omega)).trans up_same | exact (up_ne (by omega)).trans ((up_ne (by omega)).trans (by assumption))) (c_found 1 hX) ?_
      rintro _ h2 _ hq
      have hq2 := hq
      obtain ⟨rfl, -⟩ := hq
      refine x_iret (ty := .int) dX9_should_29 rfl rfl (Nat.le_of_ble_eq_true rfl) (Nat.le_of_ble_eq_true rfl) ?_
      rw [if_pos b21, if_pos b21]; exact hq2
  refine x_iload dX9_should_0 rfl ?_
  refine x_S1i lX9_144 (Rm.of rfl) (cc1 := 0) (cn1 := 0) rfl rfl (Nat.le_of_ble_eq_true rfl) dX9_should_1 (r_noSheet s) ?_
  refine x_if_eq dX9_should_4 (fun b4 => ?_) (fun b4 => ?_)
  · try simp only [i01, Classical.not_not] at b4
    exact J10 (by simp only [cS, Int32.lt_iff_toInt_lt, Int32.le_iff_toInt_le, n0t, n2t, n3t, n4t, n48] at *; omega)
  · try simp only [i01, Classical.not_not] at b4
    refine x_k dX9_should_7 ?_
    refine x_iret (ty := .int) dX9_should_9 rfl rfl (Nat.le_of_ble_eq_true rfl) (Nat.le_of_ble_eq_true rfl) ?_
    have hc : ¬ cS s := by simp only [cS, Int32.lt_iff_toInt_lt, Int32.le_iff_toInt_le, n0t, n2t, n3t, n4t, n48] at *; omega
    rw [dShould, aShould, if_neg hc, if_neg hc]
    exact ⟨rfl, Nat.le_refl _, hX, fun _ _ => rfl⟩
end Should
