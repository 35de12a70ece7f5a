/-! rest, of the class: findRest, rest -/
theorem frs_s (b : Nat → Bool) (r : Nat) : frsB b (r + 1) = if b r = true ∧ cntB b r = 0 then nI r else frsB b r := by
  have hc := cnt_fst b r
  have hle := fst1_le b r
  rw [frsB, frsB, fst1]
  by_cases z : fst1 b r < r
  · have h0 : ¬ cntB b r = 0 := fun y => by have := hc.mp y; omega
    rw [if_pos z, if_pos (by omega), if_pos z, if_neg (fun y => h0 y.2)]
  · have h0 : cntB b r = 0 := hc.mpr (by omega)
    rw [if_neg z, if_neg z]
    by_cases y : b r = true
    · rw [if_pos y, if_pos (by omega), if_pos ⟨y, h0⟩]
    · rw [if_neg y, if_neg (by omega), if_neg (fun x => y x.1)]
section RestB
variable {Γ : GX} {h : Hp} {sz : Nat} {d : DT}
def qRst (h : Hp) (sz : Nat) (d : DT) : QT := fun r h' sz' => r = none ∧ sz = sz' ∧ XF h' sz d ∧ (∃ (k : Nat) (wk wy : Int32), h' 28 = cR (.ref k) (nI (d_N d)) (nI (d_H d + 1)) (nI (rwN d)) 1 1 wk (nI (rstN d)) (frsB (rstR d) (rwN d)) wy) ∧ ∀ j, j ≠ 28 → h' j = h j
theorem r_findRest (hF : XF h sz d) (hA : XA h d) (hd : okD d) : Rn Γ mX2_findRest [.ref 28, .ref 10, .ref 25] h sz (qRst h sz d) := by
  obtain ⟨k, rk, wk, rs, fr, wy, so, dn, ln, f, g, kf, tf, is, ats, st, bk, cn, e, ⟨a28, a29, a30, a31, a32, a33⟩, ⟨a34, a35, a36, a37, a38⟩, ⟨hk, hke⟩, hRF⟩ := id hF
  obtain ⟨⟨hN, -, -, -, hst, he⟩, hbk, c3, c4⟩ := id hRF
  obtain ⟨ow, pr, od, kd, sp, ins, a1, ⟨a10, a11, a12, a13, a14, a15, a16⟩, a17, ⟨a25, a26, a27⟩, a5, a6, f1, f2, f3, f4⟩ := id hA
  have hle := rwN_le hd hN
  refine x_enter 1 (by decide) rfl ?_
  rcases c3 with z | ⟨z1, z2, z3⟩
  · subst z
    have all : ∀ r, r ≤ rwN d → Ex Γ mX2_findRest (gx_Z Γ mX2_findRest (qRst h sz d)) 0 0 20 [.ref 28, .ref 10, .ref 25, .int (nI r)] [] (va_up h 28 (cR (.ref k) (nI (d_N d)) (nI (d_H d + 1)) (nI (rwN d)) 1 0 wk (nI (cntB (rstR d) r)) (frsB (rstR d) r) wy)) sz := by
      refine loopUp (rwN d) ?_ (fun r hr ih => ?_)
      · refine x_iload dX2_findRest_20 rfl ?_
        refine x_aload dX2_findRest_21 rfl ?_
        refine x_get fX2_42 dX2_findRest_22 (by first | assumption | rfl | exact up_same | exact (up_ne (by omega)).trans (by assumption) | exact (up_ne (by assumption)).trans (by assumption)) ?_
        refine x_icmp_ge dX2_findRest_25 (fun b25 => ?_) (fun b25 => ?_)
        · refine x_aload dX2_findRest_73 rfl ?_
          refine x_k dX2_findRest_74 ?_
          refine x_put fX2_49 tt2 gX2_49 dX2_findRest_75 (by first | assumption | rfl | exact up_same | exact (up_ne (by omega)).trans (by assumption) | exact (up_ne (by assumption)).trans (by assumption)) (Nat.le_of_ble_eq_true rfl) (by first | exact w2_100 | exact w2_101) ?_
          refine x_vret dX2_findRest_78 rfl (Nat.zero_le _) (Nat.zero_le _) ?_
          refine ⟨rfl, rfl, ⟨k, 1, wk, nI (rstN d), frsB (rstR d) (rwN d), wy, so, dn, ln, f, g, kf, tf, is, ats, st, bk, cn, e, ⟨rfl, a29, a30, a31, a32, a33⟩, ⟨a34, a35, a36, a37, a38⟩, ⟨hk, ?_⟩, ⟨hN, rfl, rfl, rfl, hst, he⟩, hbk, Or.inr ⟨rfl, rfl, rfl⟩, c4⟩, ⟨k, wk, wy, rfl⟩, fun j hj => ?_⟩
          · rw [up_ne (by omega), up_ne (by omega)]; exact hke
          · rw [up_ne hj, up_ne hj]
        · exact absurd (Int32.le_refl _) b25
      · have hcl := cnt_le (rstR d) r
        have ez : nI (cntB (rstR d) r) = 0 ↔ cntB (rstR d) r = 0 := nI_eq (b := 0) (by omega) (by omega)
        have c1 : (va_up h 28 (cR (.ref k) (nI (d_N d)) (nI (d_H d + 1)) (nI (rwN d)) 1 0 wk (nI (cntB (rstR d) r)) (frsB (rstR d) r) wy)) k = la 6561 e := (up_ne (by omega)).trans hke
        rw [cnt_s, frs_s] at ih
        refine x_iload dX2_findRest_20 rfl ?_
        refine x_aload dX2_findRest_21 rfl ?_
        refine x_get fX2_42 dX2_findRest_22 (by first | assumption | rfl | exact up_same | exact (up_ne (by omega)).trans (by assumption) | exact (up_ne (by assumption)).trans (by assumption)) ?_
        refine x_icmp_ge dX2_findRest_25 (fun b25 => ?_) (fun b25 => ?_)
        · exact absurd b25 (nI_ge hr (by omega))
        · refine x_aload dX2_findRest_28 rfl ?_
          refine x_iload dX2_findRest_29 rfl ?_
          refine x_aload dX2_findRest_30 rfl ?_
          refine x_aload dX2_findRest_31 rfl ?_
          refine x_V3i lX2_136 (Rm.of rfl) (cc1 := 0) (cn1 := 0) rfl rfl (Nat.le_of_ble_eq_true rfl) dX2_findRest_32 (by first | assumption | rfl | exact up_same | exact (up_ne (by omega)).trans (by assumption) | exact (up_ne (by assumption)).trans (by assumption)) (r_allRest rfl a36 c1 a10 a14 a15 f3 a25 a27 hst he hd hN hr) ?_
          refine x_if_eq dX2_findRest_35 (fun b35 => ?_) (fun b35 => ?_)
          · try simp only [i01, Classical.not_not] at b35
            refine x_inc1 dX2_findRest_67 rfl (Nat.le_of_ble_eq_true rfl) rfl ?_
            refine x_goto dX2_findRest_70 ?_
            refine x_eq rfl rfl ?_ ih
            first
              | (have hz : ¬ rstR d r = true := b35
                 rw [if_neg (fun y => hz y.1), Bool.eq_false_iff.mpr hz]; rfl)
              | (have hz : rstR d r = true := b35
                 first
                   | (have hy : ¬ cntB (rstR d) r = 0 := fun y => b43 (ez.mpr y)
                      rw [if_neg (fun y => hy y.2), hz]
                      rw [up_up, up_up, nI_1]; rfl)
                   | (have hy : cntB (rstR d) r = 0 := ez.mp (Classical.not_not.mp b43)
                      rw [if_pos ⟨hz, hy⟩, hz]
                      rw [up_up, up_up, nI_1]; rfl))
          · try simp only [i01, Classical.not_not] at b35
            refine x_aload dX2_findRest_38 rfl ?_
            refine x_aload dX2_findRest_39 rfl ?_
            refine x_get fX2_55 dX2_findRest_40 (by first | assumption | rfl | exact up_same | exact (up_ne (by omega)).trans (by assumption) | exact (up_ne (by assumption)).trans (by assumption)) ?_
            refine x_if_ne dX2_findRest_43 (fun b43 => ?_) (fun b43 => ?_)
            · refine x_aload dX2_findRest_50 rfl ?_
              refine x_get fX2_58 dX2_findRest_51 (by first | assumption | rfl | exact up_same | exact (up_ne (by omega)).trans (by assumption) | exact (up_ne (by assumption)).trans (by assumption)) ?_
              refine x_put fX2_58 tt2 gX2_58 dX2_findRest_54 (by first | assumption | rfl | exact up_same | exact (up_ne (by omega)).trans (by assumption) | exact (up_ne (by assumption)).trans (by assumption)) (Nat.le_of_ble_eq_true rfl) (w2_13 _) ?_
              refine x_aload dX2_findRest_57 rfl ?_
              refine x_dup dX2_findRest_58 rfl ?_
              refine x_get fX2_55 dX2_findRest_59 (by first | assumption | rfl | exact up_same | exact (up_ne (by omega)).trans (by assumption) | exact (up_ne (by assumption)).trans (by assumption)) ?_
              refine x_k dX2_findRest_62 ?_
              refine x_iadd dX2_findRest_63 ?_
              refine x_put fX2_55 tt2 gX2_55 dX2_findRest_64 (by first | assumption | rfl | exact up_same | exact (up_ne (by omega)).trans (by assumption) | exact (up_ne (by assumption)).trans (by assumption)) (Nat.le_of_ble_eq_true rfl) (w2_12 _) ?_
              refine x_inc1 dX2_findRest_67 rfl (Nat.le_of_ble_eq_true rfl) rfl ?_
              refine x_goto dX2_findRest_70 ?_
              refine x_eq rfl rfl ?_ ih
              first
                | (have hz : ¬ rstR d r = true := b35
                   rw [if_neg (fun y => hz y.1), Bool.eq_false_iff.mpr hz]; rfl)
                | (have hz : rstR d r = true := b35
                   first
                     | (have hy : ¬ cntB (rstR d) r = 0 := fun y => b43 (ez.mpr y)
                        rw [if_neg (fun y => hy y.2), hz]
                        rw [up_up, up_up, nI_1]; rfl)
                     | (have hy : cntB (rstR d) r = 0 := ez.mp (Classical.not_not.mp b43)
                        rw [if_pos ⟨hz, hy⟩, hz]
                        rw [up_up, up_up, nI_1]; rfl))
            · refine x_iload dX2_findRest_46 rfl ?_
              refine x_goto dX2_findRest_47 ?_
              refine x_put fX2_58 tt2 gX2_58 dX2_findRest_54 (by first | assumption | rfl | exact up_same | exact (up_ne (by omega)).trans (by assumption) | exact (up_ne (by assumption)).trans (by assumption)) (Nat.le_of_ble_eq_true rfl) (w2_13 _) ?_
              refine x_aload dX2_findRest_57 rfl ?_
              refine x_dup dX2_findRest_58 rfl ?_
              refine x_get fX2_55 dX2_findRest_59 (by first | assumption | rfl | exact up_same | exact (up_ne (by omega)).trans (by assumption) | exact (up_ne (by assumption)).trans (by assumption)) ?_
              refine x_k dX2_findRest_62 ?_
              refine x_iadd dX2_findRest_63 ?_
              refine x_put fX2_55 tt2 gX2_55 dX2_findRest_64 (by first | assumption | rfl | exact up_same | exact (up_ne (by omega)).trans (by assumption) | exact (up_ne (by assumption)).trans (by assumption)) (Nat.le_of_ble_eq_true rfl) (w2_12 _) ?_
              refine x_inc1 dX2_findRest_67 rfl (Nat.le_of_ble_eq_true rfl) rfl ?_
              refine x_goto dX2_findRest_70 ?_
              refine x_eq rfl rfl ?_ ih
              first
                | (have hz : ¬ rstR d r = true := b35
                   rw [if_neg (fun y => hz y.1), Bool.eq_false_iff.mpr hz]; rfl)
                | (have hz : rstR d r = true := b35
                   first
                     | (have hy : ¬ cntB (rstR d) r = 0 := fun y => b43 (ez.mpr y)
                        rw [if_neg (fun y => hy y.2), hz]
                        rw [up_up, up_up, nI_1]; rfl)
                     | (have hy : cntB (rstR d) r = 0 := ez.mp (Classical.not_not.mp b43)
                        rw [if_pos ⟨hz, hy⟩, hz]
                        rw [up_up, up_up, nI_1]; rfl))
    refine x_aload dX2_findRest_0 rfl ?_
    refine x_get fX2_49 dX2_findRest_1 (by first | assumption | rfl | exact up_same | exact (up_ne (by omega)).trans (by assumption) | exact (up_ne (by assumption)).trans (by assumption)) ?_
    refine x_if_eq dX2_findRest_4 (fun b4 => ?_) (fun b4 => ?_)
    · refine x_aload dX2_findRest_8 rfl ?_
      refine x_k dX2_findRest_9 ?_
      refine x_put fX2_55 tt2 gX2_55 dX2_findRest_10 (by first | assumption | rfl | exact up_same | exact (up_ne (by omega)).trans (by assumption) | exact (up_ne (by assumption)).trans (by assumption)) (Nat.le_of_ble_eq_true rfl) (w2_12 _) ?_
      refine x_aload dX2_findRest_13 rfl ?_
      refine x_k dX2_findRest_14 ?_
      refine x_put fX2_58 tt2 gX2_58 dX2_findRest_15 (by first | assumption | rfl | exact up_same | exact (up_ne (by omega)).trans (by assumption) | exact (up_ne (by assumption)).trans (by assumption)) (Nat.le_of_ble_eq_true rfl) (w2_13 _) ?_
      refine x_k dX2_findRest_18 ?_
      refine x_istore dX2_findRest_19 (Nat.le_of_ble_eq_true rfl) rfl ?_
      refine x_eq rfl rfl ?_ (all 0 (Nat.zero_le _))
      rw [up_up]; rfl
    · exact absurd rfl b4
  · subst z1; subst z2; subst z3
    refine x_aload dX2_findRest_0 rfl ?_
    refine x_get fX2_49 dX2_findRest_1 (by first | assumption | rfl | exact up_same | exact (up_ne (by omega)).trans (by assumption) | exact (up_ne (by assumption)).trans (by assumption)) ?_
    refine x_if_eq dX2_findRest_4 (fun b4 => ?_) (fun b4 => ?_)
    · exact absurd b4 (by decide)
    · refine x_vret dX2_findRest_7 rfl (Nat.zero_le _) (Nat.zero_le _) ?_
      exact ⟨rfl, rfl, hF, ⟨k, wk, wy, a28⟩, fun _ _ => rfl⟩
theorem c_restOk {w : Int32} (hX : XW h sz d) (hd : okD d) (hsz : 85 ≤ sz) (hN : d_N d ≤ 4) (hw : cRest d w) : Ex Γ mX9_rest (gx_Z Γ mX9_rest (qW h sz d (rstA d w))) 0 0 34 [.ref 4, .int w] [] h sz := by
  obtain ⟨hA, hK, hR, hD⟩ := id hX
  obtain ⟨ss, h4⟩ := hK.w4
  have hle := rwN_le hd hN
  obtain ⟨_, _, _, _, _, _, _, _, _, _, a28⟩ := hR.w28
  have hcl : rstN d ≤ rwN d := cnt_le _ _
  have ep : nI (rstN d) ≤ 0 ↔ rstN d ≤ 0 := nI_leI (b := 0) (by omega) (by omega)
  refine x_aload dX9_rest_34 rfl ?_
  refine x_get fX9_49 dX9_rest_35 (by first | assumption | rfl | exact up_same | exact (up_ne (by omega)).trans (by assumption) | exact (up_ne (by assumption)).trans (by assumption)) ?_
  refine x_aload dX9_rest_38 rfl ?_
  refine x_get fX9_21 dX9_rest_39 (by first | assumption | rfl | exact up_same | exact (up_ne (by omega)).trans (by assumption) | exact (up_ne (by assumption)).trans (by assumption)) ?_
  refine x_aload dX9_rest_42 rfl ?_
  refine x_get fX9_28 dX9_rest_43 (by first | assumption | rfl | exact up_same | exact (up_ne (by omega)).trans (by assumption) | exact (up_ne (by assumption)).trans (by assumption)) ?_
  refine x_V2q lX9_207 (Rm.of rfl) (cc1 := 1) (cn1 := 6561) rfl rfl (Nat.le_of_ble_eq_true rfl) dX9_rest_46 (by first | assumption | rfl | exact up_same | exact (up_ne (by omega)).trans (by assumption) | exact (up_ne (by assumption)).trans (by assumption)) (x_fill hA hR hd hN hsz) ?_
  rintro _ h1 sz1 ⟨rfl, hz1, hF1, hfr1⟩
  have hA1 := hA.ofR hfr1 hsz
  have hK1 := hK.ofR hfr1 hsz
  have hD1 := hD.ofR hfr1 hsz hz1
  obtain ⟨ss1, g4⟩ := hK1.w4
  obtain ⟨_, _, _, _, _, _, _, _, _, _, g28⟩ := hF1.R.w28
  refine x_aload dX9_rest_49 rfl ?_
  refine x_get fX9_49 dX9_rest_50 (by first | assumption | rfl | exact up_same | exact (up_ne (by omega)).trans (by assumption) | exact (up_ne (by assumption)).trans (by assumption)) ?_
  refine x_aload dX9_rest_53 rfl ?_
  refine x_get fX9_21 dX9_rest_54 (by first | assumption | rfl | exact up_same | exact (up_ne (by omega)).trans (by assumption) | exact (up_ne (by assumption)).trans (by assumption)) ?_
  refine x_aload dX9_rest_57 rfl ?_
  refine x_get fX9_42 dX9_rest_58 (by first | assumption | rfl | exact up_same | exact (up_ne (by omega)).trans (by assumption) | exact (up_ne (by assumption)).trans (by assumption)) ?_
  refine x_V2q lX9_222 (Rm.of rfl) (cc1 := 1) (cn1 := 6561) rfl rfl (Nat.le_of_ble_eq_true rfl) dX9_rest_61 (by first | assumption | rfl | exact up_same | exact (up_ne (by omega)).trans (by assumption) | exact (up_ne (by assumption)).trans (by assumption)) (r_findRest hF1 hA1 hd) ?_
  rintro _ h2 _ ⟨rfl, rfl, hF2, ⟨k, wk, wy, i28⟩, hfr2⟩
  have hA2 : XA h2 d := hA1.of (fun k k1 k2 k3 k4 k5 => hfr2 k k3)
  have hK2 : XK h2 d := hK1.of (fun k hk => hfr2 k (by omega))
  have hD2 : XD h2 sz1 d := hD1.of (fun k hk => hfr2 k (by omega))
  obtain ⟨ss2, i4⟩ := hK2.w4
  have fin : qW h sz d (rstA d w) (some (.int (rstA d w))) h2 sz1 := ⟨rfl, hz1, ⟨hA2, hK2, hF2.R, hD2⟩, (hfr1.X hsz).trans (fun k hk => hfr2 k (by omega))⟩
  refine x_iload dX9_rest_64 rfl ?_
  refine x_k dX9_rest_65 ?_
  refine x_icmp_ne dX9_rest_67 (fun b67 => ?_) (fun b67 => ?_)
  · refine x_iload dX9_rest_78 rfl ?_
    refine x_k dX9_rest_79 ?_
    refine x_icmp_ne dX9_rest_80 (fun b80 => ?_) (fun b80 => ?_)
    · refine x_aload dX9_rest_99 rfl ?_
      refine x_get fX9_49 dX9_rest_100 (by first | assumption | rfl | exact up_same | exact (up_ne (by omega)).trans (by assumption) | exact (up_ne (by assumption)).trans (by assumption)) ?_
      refine x_get fX9_226 dX9_rest_103 (by first | assumption | rfl | exact up_same | exact (up_ne (by omega)).trans (by assumption) | exact (up_ne (by assumption)).trans (by assumption)) ?_
      refine x_if_le dX9_rest_106 (fun b106 => ?_) (fun b106 => ?_)
      · refine x_ldc kX9_232 dX9_rest_130 ?_
        refine x_iret (ty := .int) dX9_rest_132 rfl rfl (Nat.le_of_ble_eq_true rfl) (Nat.le_of_ble_eq_true rfl) ?_
        have hz : ¬ 0 < rstN d := Nat.not_lt.mpr (ep.mp b106)
        have ea : rstA d w = -100003 := by rw [rstA, if_neg b67, if_neg b80, if_neg hz]
        rw [ea] at fin ⊢; exact fin
      · have hz : 0 < rstN d := Nat.not_le.mp (fun z => b106 (ep.mpr z))
        have hw0 : 0 ≤ w := by
          have h1 := hw.1
          have n2 : (-2 : Int32).toInt = -2 := by decide
          have n1 : (-1 : Int32).toInt = -1 := by decide
          have b67' : ¬ w.toInt = -2 := fun z => b67 (Int32.toInt_inj.mp (by rw [z, n2]))
          have b80' : ¬ w.toInt = -1 := fun z => b80 (Int32.toInt_inj.mp (by rw [z, n1]))
          rw [Int32.le_iff_toInt_le, n2] at h1
          rw [Int32.le_iff_toInt_le, n0t]
          omega
        obtain ⟨q, hq, rfl⟩ := below hw0 hw.2 (by omega)
        have hfl : fst1 (rstR d) (rwN d) < rwN d := by
          have h1 := fst1_le (rstR d) (rwN d)
          have h2 := cnt_fst (rstR d) (rwN d)
          have h3 : ¬ fst1 (rstR d) (rwN d) = rwN d := fun z => by have := h2.mpr z; rw [rstN] at hz; omega
          omega
        have efr : frsB (rstR d) (rwN d) = nI (fst1 (rstR d) (rwN d)) := if_pos hfl
        rw [efr] at i28
        obtain ⟨k', _, _, _, _, _, _, _, _, _, _, _, _, _, _, st, _, _, e, ⟨j28, -, -, -, -, -⟩, ⟨-, -, i36, -, -⟩, -, ⟨⟨-, -, -, -, hst, he⟩, -⟩⟩ := id hF2
        clear j28
        refine x_aload dX9_rest_109 rfl ?_
        refine x_get fX9_49 dX9_rest_110 (by first | assumption | rfl | exact up_same | exact (up_ne (by omega)).trans (by assumption) | exact (up_ne (by assumption)).trans (by assumption)) ?_
        refine x_aload dX9_rest_113 rfl ?_
        refine x_get fX9_49 dX9_rest_114 (by first | assumption | rfl | exact up_same | exact (up_ne (by omega)).trans (by assumption) | exact (up_ne (by assumption)).trans (by assumption)) ?_
        refine x_get fX9_229 dX9_rest_117 (by first | assumption | rfl | exact up_same | exact (up_ne (by omega)).trans (by assumption) | exact (up_ne (by assumption)).trans (by assumption)) ?_
        refine x_iload dX9_rest_120 rfl ?_
        refine x_V2i lX9_219 (Rm.of rfl) (cc1 := 1) (cn1 := 6561) rfl rfl (Nat.le_of_ble_eq_true rfl) dX9_rest_121 (by first | assumption | rfl | exact up_same | exact (up_ne (by omega)).trans (by assumption) | exact (up_ne (by assumption)).trans (by assumption)) (r_spotIn (p := q) i28 i36 hst hd hN hfl hq) ?_
        refine x_S1i lX9_124 (Rm.of rfl) (cc1 := 1) (cn1 := 6561) rfl rfl (Nat.le_of_ble_eq_true rfl) dX9_rest_124 (r_houseAt (nI (rwP d (fst1 (rstR d) (rwN d)) q))) ?_
        refine x_goto dX9_rest_127 ?_
        refine x_iret (ty := .int) dX9_rest_132 rfl rfl (Nat.le_of_ble_eq_true rfl) (Nat.le_of_ble_eq_true rfl) ?_
        have ea : rstA d (nI q) = nI (rwP d (fst1 (rstR d) (rwN d)) q) - 1 := by rw [rstA, if_neg b67, if_neg b80, if_pos hz, sN, nI_clamp (by omega)]
        rw [ea] at fin ⊢; exact fin
    · refine x_aload dX9_rest_83 rfl ?_
      refine x_get fX9_49 dX9_rest_84 (by first | assumption | rfl | exact up_same | exact (up_ne (by omega)).trans (by assumption) | exact (up_ne (by assumption)).trans (by assumption)) ?_
      refine x_get fX9_226 dX9_rest_87 (by first | assumption | rfl | exact up_same | exact (up_ne (by omega)).trans (by assumption) | exact (up_ne (by assumption)).trans (by assumption)) ?_
      refine x_if_le dX9_rest_90 (fun b90 => ?_) (fun b90 => ?_)
      · refine x_k dX9_rest_97 ?_
        refine x_iret (ty := .int) dX9_rest_98 rfl rfl (Nat.le_of_ble_eq_true rfl) (Nat.le_of_ble_eq_true rfl) ?_
        have ea : rstA d w = if 0 < rstN d then 1 else 0 := by rw [rstA, if_neg b67, if_pos (Classical.not_not.mp b80)]
        first
          | (have hz : ¬ 0 < rstN d := Nat.not_lt.mpr (ep.mp b90)
             rw [if_neg hz] at ea; rw [ea] at fin ⊢; exact fin)
          | (have hz : 0 < rstN d := Nat.not_le.mp (fun z => b90 (ep.mpr z))
             rw [if_pos hz] at ea; rw [ea] at fin ⊢; exact fin)
      · refine x_k dX9_rest_93 ?_
        refine x_goto dX9_rest_94 ?_
        refine x_iret (ty := .int) dX9_rest_98 rfl rfl (Nat.le_of_ble_eq_true rfl) (Nat.le_of_ble_eq_true rfl) ?_
        have ea : rstA d w = if 0 < rstN d then 1 else 0 := by rw [rstA, if_neg b67, if_pos (Classical.not_not.mp b80)]
        first
          | (have hz : ¬ 0 < rstN d := Nat.not_lt.mpr (ep.mp b90)
             rw [if_neg hz] at ea; rw [ea] at fin ⊢; exact fin)
          | (have hz : 0 < rstN d := Nat.not_le.mp (fun z => b90 (ep.mpr z))
             rw [if_pos hz] at ea; rw [ea] at fin ⊢; exact fin)
  · refine x_aload dX9_rest_70 rfl ?_
    refine x_get fX9_49 dX9_rest_71 (by first | assumption | rfl | exact up_same | exact (up_ne (by omega)).trans (by assumption) | exact (up_ne (by assumption)).trans (by assumption)) ?_
    refine x_get fX9_226 dX9_rest_74 (by first | assumption | rfl | exact up_same | exact (up_ne (by omega)).trans (by assumption) | exact (up_ne (by assumption)).trans (by assumption)) ?_
    refine x_iret (ty := .int) dX9_rest_77 rfl rfl (Nat.le_of_ble_eq_true rfl) (Nat.le_of_ble_eq_true rfl) ?_
    have ea : rstA d w = nI (rstN d) := by rw [rstA, if_pos (Classical.not_not.mp b67)]
    rw [ea] at fin ⊢; exact fin
theorem c_rest (w : Int32) (hX : XW h sz d) (hd : okD d) (hsz : 85 ≤ sz) : Rn Γ mX9_rest [.ref 4, .int w] h sz (qW h sz d (aRest d w)) := by
  refine x_enter 0 (by decide) rfl ?_
  obtain ⟨hA, hK, hR, hD⟩ := id hX
  obtain ⟨ow, pr, od, kd, sp, ins, a1, ⟨a10, -⟩, -⟩ := id hA
  obtain ⟨ss, h4⟩ := hK.w4
  have hP8 : d_N d ≤ 8 := (pN_ok hd.1.2.1).1
  have e4 : nI (d_N d) ≤ 4 ↔ d_N d ≤ 4 := nI_leI (b := 4) (by omega) (by omega)
  refine x_iload dX9_rest_0 rfl ?_
  refine x_k dX9_rest_1 ?_
  refine x_icmp_lt dX9_rest_3 (fun b3 => ?_) (fun b3 => ?_)
  · refine x_ldc kX9_180 dX9_rest_17 ?_
    refine x_iret (ty := .int) dX9_rest_19 rfl rfl (Nat.le_of_ble_eq_true rfl) (Nat.le_of_ble_eq_true rfl) ?_
    have hc : ¬ cRest d w := by
      rintro ⟨z1, z2⟩
      first
        | exact Int32.not_lt.mpr z1 b3
        | exact b14 z2
    exact ⟨by rw [aRest, if_neg hc], Nat.le_refl _, hX, fun _ _ => rfl⟩
  · refine x_iload dX9_rest_6 rfl ?_
    refine x_aload dX9_rest_7 rfl ?_
    refine x_get fX9_21 dX9_rest_8 (by first | assumption | rfl | exact up_same | exact (up_ne (by omega)).trans (by assumption) | exact (up_ne (by assumption)).trans (by assumption)) ?_
    refine x_get fX9_200 dX9_rest_11 (by first | assumption | rfl | exact up_same | exact (up_ne (by omega)).trans (by assumption) | exact (up_ne (by assumption)).trans (by assumption)) ?_
    refine x_icmp_lt dX9_rest_14 (fun b14 => ?_) (fun b14 => ?_)
    · have hc : cRest d w := ⟨Int32.not_lt.mp b3, b14⟩
      rw [aRest, if_pos hc]
      refine x_aload dX9_rest_20 rfl ?_
      refine x_get fX9_21 dX9_rest_21 (by first | assumption | rfl | exact up_same | exact (up_ne (by omega)).trans (by assumption) | exact (up_ne (by assumption)).trans (by assumption)) ?_
      refine x_get fX9_200 dX9_rest_24 (by first | assumption | rfl | exact up_same | exact (up_ne (by omega)).trans (by assumption) | exact (up_ne (by assumption)).trans (by assumption)) ?_
      refine x_k dX9_rest_27 ?_
      refine x_icmp_le dX9_rest_28 (fun b28 => ?_) (fun b28 => ?_)
      · rw [if_pos (e4.mp b28)]; exact c_restOk hX hd hsz (e4.mp b28) hc
      · refine x_ldc kX9_206 dX9_rest_31 ?_
        refine x_iret (ty := .int) dX9_rest_33 rfl rfl (Nat.le_of_ble_eq_true rfl) (Nat.le_of_ble_eq_true rfl) ?_
        exact ⟨by rw [if_neg (fun z => b28 (e4.mpr z))], Nat.le_refl _, hX, fun _ _ => rfl⟩
    · refine x_ldc kX9_180 dX9_rest_17 ?_
      refine x_iret (ty := .int) dX9_rest_19 rfl rfl (Nat.le_of_ble_eq_true rfl) (Nat.le_of_ble_eq_true rfl) ?_
      have hc : ¬ cRest d w := by
        rintro ⟨z1, z2⟩
        first
          | exact Int32.not_lt.mpr z1 b3
          | exact b14 z2
      exact ⟨by rw [aRest, if_neg hc], Nat.le_refl _, hX, fun _ _ => rfl⟩
end RestB
