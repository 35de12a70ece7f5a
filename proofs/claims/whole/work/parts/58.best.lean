/-! best, of the class -/
theorem bst_lt (g : Nat → Int32) : ∀ n, 0 < n → bst g n < n
  | 0, h => absurd h (by omega)
  | n + 1, _ => by
    rw [bst]
    split
    · omega
    · rcases Nat.eq_zero_or_pos n with e | e
      · subst e; show 0 < 1; omega
      · have := bst_lt g n e; omega
abbrev cBest (d : DT) (t w : Int32) : Prop := (0 ≤ t ∧ t < nI (d_N d)) ∧ (w = -1 ∨ (0 ≤ w ∧ w < nI (d_N d)))
noncomputable def bstA (d : DT) (p : Nat) (w : Int32) : Int32 := if w = -1 then rwG d p (bestR d p) else nI (rwP d (bestR d p) (sN w)) - 1
noncomputable def aBest (d : DT) (t w : Int32) : Int32 := if cBest d t w then (if d_N d ≤ 4 then bstA d (sN t) w else -100004) else -100002
section Best
variable {Γ : GX} {h : Hp} {sz : Nat} {d : DT}
theorem XF.ofB {h' : Hp} {sz' : Nat} (hF : XF h sz d) (hz : sz ≤ sz') (e : ∀ j, h' j = h j) : XF h' sz' d := by
  obtain ⟨k, rk, wk, rs, fr, wy, so, dn, ln, f, g, kf, tf, is, ats, st, bk, cn, e0, ⟨a28, a29, a30, a31, a32, a33⟩, ⟨a34, a35, a36, a37, a38⟩, ⟨⟨k1, k2⟩, ke⟩, a4⟩ := hF
  exact ⟨k, rk, wk, rs, fr, wy, so, dn, ln, f, g, kf, tf, is, ats, st, bk, cn, e0, ⟨(e 28).trans a28, (e 29).trans a29, (e 30).trans a30, (e 31).trans a31, (e 32).trans a32, (e 33).trans a33⟩, ⟨(e 34).trans a34, (e 35).trans a35, (e 36).trans a36, (e 37).trans a37, (e 38).trans a38⟩, ⟨⟨k1, by omega⟩, (e k).trans ke⟩, a4⟩
theorem r_bestRow {p : Nat} (hF : XF h sz d) (h25 : h 25 = cTa) (h26 : h 26 = ia 64 (d_w d)) (hd : okD d) (hp : p < d_N d) : Rn Γ mX2_bestRow [.ref 28, .int (nI p), .ref 25] h sz (fun r h' sz' => r = some (.int (nI (bestR d p))) ∧ sz = sz' ∧ XF h' sz d ∧ ∀ j, j ≠ 37 → h' j = h j) := by
  obtain ⟨k, rk, wk, rs, fr, wy, so, dn, ln, f, g, kf, tf, is, ats, st, bk, cn, e, ⟨a28, a29, a30, a31, a32, a33⟩, ⟨a34, a35, a36, a37, a38⟩, ⟨hk, hke⟩, hRF⟩ := id hF
  obtain ⟨⟨hN, -, -, -, hst, he⟩, hbk, c3, c4⟩ := id hRF
  have hle := rwN_le hd hN
  have hpos := rwN_pos d
  have hkp : ∀ r q, q < d_N d → (rwR d r).2.1 q < 4 := fun r q hq => Nat.lt_of_lt_of_le (runF_kp (d_ns d) q hq) hN
  refine x_enter 4 (by decide) rfl ?_
  have J70 : Ex Γ mX2_bestRow (gx_Z Γ mX2_bestRow (fun r h' sz' => r = some (.int (nI (bestR d p))) ∧ sz = sz' ∧ XF h' sz d ∧ ∀ j, j ≠ 37 → h' j = h j)) 0 0 31 [.ref 28, .int (nI p), .ref 25, .int (nI (bst (rwG d p) 1)), .int (rwG d p (bst (rwG d p) 1)), .int (nI 1), .retAddr 0] [] h sz := by
    have all : ∀ r, r ≤ rwN d → ∀ v : Value, 0 < r → Ex Γ mX2_bestRow (gx_Z Γ mX2_bestRow (fun r h' sz' => r = some (.int (nI (bestR d p))) ∧ sz = sz' ∧ XF h' sz d ∧ ∀ j, j ≠ 37 → h' j = h j)) 0 0 31 [.ref 28, .int (nI p), .ref 25, .int (nI (bst (rwG d p) r)), .int (rwG d p (bst (rwG d p) r)), .int (nI r), v] [] h sz := by
      refine loopUp (rwN d) (fun v h0 => ?_) (fun r hr ih v h0 => ?_)
      · refine x_iload dX2_bestRow_31 rfl ?_
        refine x_aload dX2_bestRow_33 rfl ?_
        refine x_get fX2_42 dX2_bestRow_34 (by first | assumption | rfl | exact up_same | exact (up_ne (by omega)).trans (by assumption) | exact (up_ne (by assumption)).trans (by assumption)) ?_
        refine x_icmp_ge dX2_bestRow_37 (fun b37 => ?_) (fun b37 => ?_)
        · refine x_aload dX2_bestRow_70 rfl ?_
          refine x_get fX2_28 dX2_bestRow_71 (by first | assumption | rfl | exact up_same | exact (up_ne (by omega)).trans (by assumption) | exact (up_ne (by assumption)).trans (by assumption)) ?_
          refine x_iload dX2_bestRow_74 rfl ?_
          refine x_iload dX2_bestRow_75 rfl ?_
          refine x_iastn dX2_bestRow_76 (by first | assumption | rfl | exact up_same | exact (up_ne (by omega)).trans (by assumption) | exact (up_ne (by assumption)).trans (by assumption)) ⟨by first | omega | decide, by decide⟩ ?_
          refine x_iload dX2_bestRow_77 rfl ?_
          refine x_iret (ty := .int) dX2_bestRow_78 rfl rfl (Nat.zero_le _) (Nat.zero_le _) ?_
          refine ⟨rfl, rfl, ⟨k, rk, wk, rs, fr, wy, so, dn, ln, f, g, kf, tf, is, ats, st, upd bk p (nI (bestR d p)), cn, e, ⟨a28, a29, a30, a31, a32, a33⟩, ⟨a34, a35, a36, rfl, a38⟩, ⟨hk, (up_ne (by omega)).trans hke⟩, ⟨hN, rfl, rfl, rfl, hst, he⟩, fun q hq => ?_, c3, c4⟩, fun j hj => up_ne hj⟩
          by_cases eq : q = p
          · subst eq; exact Or.inr ⟨hp, upd_same⟩
          · rw [upd_ne eq]; exact hbk q hq
        · exact absurd (Int32.le_refl _) b37
      · have eb : bst (rwG d p) (r + 1) = if rwG d p (bst (rwG d p) r) < rwG d p r then r else bst (rwG d p) r := rfl
        rw [eb] at ih
        refine x_iload dX2_bestRow_31 rfl ?_
        refine x_aload dX2_bestRow_33 rfl ?_
        refine x_get fX2_42 dX2_bestRow_34 (by first | assumption | rfl | exact up_same | exact (up_ne (by omega)).trans (by assumption) | exact (up_ne (by assumption)).trans (by assumption)) ?_
        refine x_icmp_ge dX2_bestRow_37 (fun b37 => ?_) (fun b37 => ?_)
        · exact absurd b37 (nI_ge hr (by omega))
        · refine x_aload dX2_bestRow_40 rfl ?_
          refine x_iload dX2_bestRow_41 rfl ?_
          refine x_iload dX2_bestRow_43 rfl ?_
          refine x_aload dX2_bestRow_44 rfl ?_
          refine x_V3i lX2_132 (Rm.of rfl) (cc1 := 0) (cn1 := 0) rfl rfl (Nat.le_of_ble_eq_true rfl) dX2_bestRow_45 (by first | assumption | rfl | exact up_same | exact (up_ne (by omega)).trans (by assumption) | exact (up_ne (by assumption)).trans (by assumption)) (r_gainByX (s := rwR d r) a28 hke h25 h26 (he r hr) hd hN hr hp (hkp r)) ?_
          refine x_istore dX2_bestRow_48 (Nat.le_of_ble_eq_true rfl) rfl ?_
          refine x_iload dX2_bestRow_50 rfl ?_
          refine x_iload dX2_bestRow_52 rfl ?_
          refine x_icmp_le dX2_bestRow_54 (fun b54 => ?_) (fun b54 => ?_)
          · refine x_inc1 dX2_bestRow_64 rfl (Nat.le_of_ble_eq_true rfl) rfl ?_
            refine x_goto dX2_bestRow_67 ?_
            first
              | (have hz : ¬ rwG d p (bst (rwG d p) r) < rwG d p r := Int32.not_lt.mpr b54
                 rw [if_neg hz] at ih; exact ih _ (by omega))
              | (have hz : rwG d p (bst (rwG d p) r) < rwG d p r := Int32.not_le.mp b54
                 rw [if_pos hz] at ih; exact ih _ (by omega))
          · refine x_iload dX2_bestRow_57 rfl ?_
            refine x_istore dX2_bestRow_59 (Nat.le_of_ble_eq_true rfl) rfl ?_
            refine x_iload dX2_bestRow_61 rfl ?_
            refine x_istore dX2_bestRow_63 (Nat.le_of_ble_eq_true rfl) rfl ?_
            refine x_inc1 dX2_bestRow_64 rfl (Nat.le_of_ble_eq_true rfl) rfl ?_
            refine x_goto dX2_bestRow_67 ?_
            first
              | (have hz : ¬ rwG d p (bst (rwG d p) r) < rwG d p r := Int32.not_lt.mpr b54
                 rw [if_neg hz] at ih; exact ih _ (by omega))
              | (have hz : rwG d p (bst (rwG d p) r) < rwG d p r := Int32.not_le.mp b54
                 rw [if_pos hz] at ih; exact ih _ (by omega))
    exact all 1 hpos _ (by omega)
  have e1 : bst (rwG d p) 1 = 0 := by have := bst_lt (rwG d p) 1 (by omega); omega
  refine x_aload dX2_bestRow_0 rfl ?_
  refine x_get fX2_28 dX2_bestRow_1 (by first | assumption | rfl | exact up_same | exact (up_ne (by omega)).trans (by assumption) | exact (up_ne (by assumption)).trans (by assumption)) ?_
  refine x_iload dX2_bestRow_4 rfl ?_
  refine x_ialdn dX2_bestRow_5 (by first | assumption | rfl | exact up_same | exact (up_ne (by omega)).trans (by assumption) | exact (up_ne (by assumption)).trans (by assumption)) ⟨by first | omega | decide, by decide⟩ ?_
  refine x_k dX2_bestRow_6 ?_
  refine x_icmp_eq dX2_bestRow_7 (fun b7 => ?_) (fun b7 => ?_)
  · refine x_k dX2_bestRow_17 ?_
    refine x_istore dX2_bestRow_18 (Nat.le_of_ble_eq_true rfl) rfl ?_
    refine x_aload dX2_bestRow_19 rfl ?_
    refine x_k dX2_bestRow_20 ?_
    refine x_iload dX2_bestRow_21 rfl ?_
    refine x_aload dX2_bestRow_22 rfl ?_
    refine x_V3i lX2_132 (Rm.of rfl) (cc1 := 0) (cn1 := 0) rfl rfl (Nat.le_of_ble_eq_true rfl) dX2_bestRow_23 (by first | assumption | rfl | exact up_same | exact (up_ne (by omega)).trans (by assumption) | exact (up_ne (by assumption)).trans (by assumption)) (r_gainByX (s := rwR d 0) (r := 0) a28 hke h25 h26 (he 0 hpos) hd hN hpos hp (hkp 0)) ?_
    refine x_istore dX2_bestRow_26 (Nat.le_of_ble_eq_true rfl) rfl ?_
    refine x_k dX2_bestRow_28 ?_
    refine x_istore dX2_bestRow_29 (Nat.le_of_ble_eq_true rfl) rfl ?_
    rw [e1] at J70; exact J70
  · refine x_aload dX2_bestRow_10 rfl ?_
    refine x_get fX2_28 dX2_bestRow_11 (by first | assumption | rfl | exact up_same | exact (up_ne (by omega)).trans (by assumption) | exact (up_ne (by assumption)).trans (by assumption)) ?_
    refine x_iload dX2_bestRow_14 rfl ?_
    refine x_ialdn dX2_bestRow_15 (by first | assumption | rfl | exact up_same | exact (up_ne (by omega)).trans (by assumption) | exact (up_ne (by assumption)).trans (by assumption)) ⟨by first | omega | decide, by decide⟩ ?_
    refine x_iret (ty := .int) dX2_bestRow_16 rfl rfl (Nat.zero_le _) (Nat.zero_le _) ?_
    refine ⟨?_, rfl, hF, fun _ _ => rfl⟩
    rcases hbk p (by omega) with z | z
    · exact absurd z b7
    · rw [z.2]
theorem c_bestOk {p : Nat} {w : Int32} (hX : XW h sz d) (hd : okD d) (hsz : 85 ≤ sz) (hN : d_N d ≤ 4) (hp : p < d_N d) (hw : w = -1 ∨ (0 ≤ w ∧ w < nI (d_N d))) : Ex Γ mX9_best (gx_Z Γ mX9_best (qW h sz d (bstA d p w))) 0 0 38 [.ref 4, .int (nI p), .int w, .retAddr 0] [] h sz := by
  obtain ⟨hA, hK, hR, hD⟩ := id hX
  obtain ⟨ss, h4⟩ := hK.w4
  have hle := rwN_le hd hN
  have hbl : bestR d p < rwN d := bst_lt _ _ (rwN_pos d)
  obtain ⟨_, _, _, _, _, _, _, _, _, _, a28⟩ := hR.w28
  refine x_aload dX9_best_38 rfl ?_
  refine x_get fX9_49 dX9_best_39 (by first | assumption | rfl | exact up_same | exact (up_ne (by omega)).trans (by assumption) | exact (up_ne (by assumption)).trans (by assumption)) ?_
  refine x_aload dX9_best_42 rfl ?_
  refine x_get fX9_21 dX9_best_43 (by first | assumption | rfl | exact up_same | exact (up_ne (by omega)).trans (by assumption) | exact (up_ne (by assumption)).trans (by assumption)) ?_
  refine x_aload dX9_best_46 rfl ?_
  refine x_get fX9_28 dX9_best_47 (by first | assumption | rfl | exact up_same | exact (up_ne (by omega)).trans (by assumption) | exact (up_ne (by assumption)).trans (by assumption)) ?_
  refine x_V2q lX9_207 (Rm.of rfl) (cc1 := 1) (cn1 := 6561) rfl rfl (Nat.le_of_ble_eq_true rfl) dX9_best_50 (by first | assumption | rfl | exact up_same | exact (up_ne (by omega)).trans (by assumption) | exact (up_ne (by assumption)).trans (by assumption)) (x_fill hA hR hd hN hsz) ?_
  rintro _ h1 sz1 ⟨rfl, hz1, hF1, hfr1⟩
  have hA1 := hA.ofR hfr1 hsz
  have hK1 := hK.ofR hfr1 hsz
  have hD1 := hD.ofR hfr1 hsz hz1
  obtain ⟨ss1, g4⟩ := hK1.w4
  obtain ⟨_, _, _, _, _, _, _, _, _, _, g28⟩ := hF1.R.w28
  obtain ⟨_, _, _, _, _, _, _, _, _, ⟨g25, g26, g27⟩, -⟩ := id hA1
  refine x_aload dX9_best_53 rfl ?_
  refine x_get fX9_49 dX9_best_54 (by first | assumption | rfl | exact up_same | exact (up_ne (by omega)).trans (by assumption) | exact (up_ne (by assumption)).trans (by assumption)) ?_
  refine x_iload dX9_best_57 rfl ?_
  refine x_aload dX9_best_58 rfl ?_
  refine x_get fX9_42 dX9_best_59 (by first | assumption | rfl | exact up_same | exact (up_ne (by omega)).trans (by assumption) | exact (up_ne (by assumption)).trans (by assumption)) ?_
  refine x_V2q lX9_211 (Rm.of rfl) (cc1 := 1) (cn1 := 6561) rfl rfl (Nat.le_of_ble_eq_true rfl) dX9_best_62 (by first | assumption | rfl | exact up_same | exact (up_ne (by omega)).trans (by assumption) | exact (up_ne (by assumption)).trans (by assumption)) (r_bestRow hF1 g25 g26 hd hp) ?_
  rintro _ h2 _ ⟨rfl, rfl, hF2, hfr2⟩
  have hA2 : XA h2 d := hA1.of (fun k k1 k2 k3 k4 k5 => hfr2 k k4)
  have hK2 : XK h2 d := hK1.of (fun k hk => hfr2 k (by omega))
  have hD2 : XD h2 sz1 d := hD1.of (fun k hk => hfr2 k (by omega))
  obtain ⟨ss2, i4⟩ := hK2.w4
  obtain ⟨_, _, _, _, _, _, _, _, _, ⟨i25, i26, i27⟩, -⟩ := id hA2
  obtain ⟨k, rk, wk, rs, fr, wy, so, dn, ln, f, g, kf, tf, is, ats, st, bk, cn, e, ⟨i28, -, -, -, -, -⟩, ⟨-, -, i36, -, -⟩, ⟨hk, hke⟩, ⟨⟨-, -, -, -, hst, he⟩, -⟩⟩ := id hF2
  have hkp : ∀ q, q < d_N d → (rwR d (bestR d p)).2.1 q < 4 := fun q hq => Nat.lt_of_lt_of_le (runF_kp (d_ns d) q hq) hN
  have fin : qW h sz d (bstA d p w) (some (.int (bstA d p w))) h2 sz1 := ⟨rfl, hz1, ⟨hA2, hK2, hF2.R, hD2⟩, (hfr1.X hsz).trans (fun k hk => hfr2 k (by omega))⟩
  refine x_istore dX9_best_65 (Nat.le_of_ble_eq_true rfl) rfl ?_
  refine x_iload dX9_best_66 rfl ?_
  refine x_k dX9_best_67 ?_
  refine x_icmp_ne dX9_best_68 (fun b68 => ?_) (fun b68 => ?_)
  · have hw1 : w ≠ -1 := b68
    obtain ⟨q, hq, rfl⟩ := below (hw.resolve_left hw1).1 (hw.resolve_left hw1).2 (by omega)
    refine x_aload dX9_best_87 rfl ?_
    refine x_get fX9_49 dX9_best_88 (by first | assumption | rfl | exact up_same | exact (up_ne (by omega)).trans (by assumption) | exact (up_ne (by assumption)).trans (by assumption)) ?_
    refine x_iload dX9_best_91 rfl ?_
    refine x_iload dX9_best_92 rfl ?_
    refine x_V2i lX9_219 (Rm.of rfl) (cc1 := 1) (cn1 := 6561) rfl rfl (Nat.le_of_ble_eq_true rfl) dX9_best_93 (by first | assumption | rfl | exact up_same | exact (up_ne (by omega)).trans (by assumption) | exact (up_ne (by assumption)).trans (by assumption)) (r_spotIn (p := q) i28 i36 hst hd hN hbl hq) ?_
    refine x_S1i lX9_124 (Rm.of rfl) (cc1 := 1) (cn1 := 6561) rfl rfl (Nat.le_of_ble_eq_true rfl) dX9_best_96 (r_houseAt (nI (rwP d (bestR d p) q))) ?_
    refine x_iret (ty := .int) dX9_best_99 rfl rfl (Nat.le_of_ble_eq_true rfl) (Nat.le_of_ble_eq_true rfl) ?_
    have ea : bstA d p (nI q) = nI (rwP d (bestR d p) q) - 1 := by rw [bstA, if_neg hw1, sN, nI_clamp (by omega)]
    rw [ea] at fin ⊢; exact fin
  · refine x_aload dX9_best_71 rfl ?_
    refine x_get fX9_49 dX9_best_72 (by first | assumption | rfl | exact up_same | exact (up_ne (by omega)).trans (by assumption) | exact (up_ne (by assumption)).trans (by assumption)) ?_
    refine x_iload dX9_best_75 rfl ?_
    refine x_iload dX9_best_76 rfl ?_
    refine x_aload dX9_best_77 rfl ?_
    refine x_get fX9_42 dX9_best_78 (by first | assumption | rfl | exact up_same | exact (up_ne (by omega)).trans (by assumption) | exact (up_ne (by assumption)).trans (by assumption)) ?_
    refine x_V3i lX9_215 (Rm.of rfl) (cc1 := 1) (cn1 := 6561) rfl rfl (Nat.le_of_ble_eq_true rfl) dX9_best_81 (by first | assumption | rfl | exact up_same | exact (up_ne (by omega)).trans (by assumption) | exact (up_ne (by assumption)).trans (by assumption)) (r_gainByX (s := rwR d (bestR d p)) i28 hke i25 i26 (he _ hbl) hd hN hbl hp hkp) ?_
    refine x_goto dX9_best_84 ?_
    refine x_iret (ty := .int) dX9_best_99 rfl rfl (Nat.le_of_ble_eq_true rfl) (Nat.le_of_ble_eq_true rfl) ?_
    have ea : bstA d p w = gnS d (rwR d (bestR d p)) p := by rw [bstA, if_pos (Classical.not_not.mp b68)]; rfl
    rw [ea] at fin ⊢; exact fin
theorem c_best (t w : Int32) (hX : XW h sz d) (hd : okD d) (hsz : 85 ≤ sz) : Rn Γ mX9_best [.ref 4, .int t, .int w] h sz (qW h sz d (aBest d t w)) := by
  refine x_enter 1 (by decide) rfl ?_
  obtain ⟨hA, hK, hR, hD⟩ := id hX
  obtain ⟨ow, pr, od, kd, sp, ins, a1, ⟨a10, -⟩, -⟩ := id hA
  obtain ⟨ss, h4⟩ := hK.w4
  have hP8 : d_N d ≤ 8 := (pN_ok hd.1.2.1).1
  have e4 : nI (d_N d) ≤ 4 ↔ d_N d ≤ 4 := nI_leI (b := 4) (by omega) (by omega)
  have J24 : cBest d t w → Ex Γ mX9_best (gx_Z Γ mX9_best (qW h sz d (aBest d t w))) 0 0 24 [.ref 4, .int t, .int w, .retAddr 0] [] h sz := by
    intro hc
    obtain ⟨p, hp, rfl⟩ := below hc.1.1 hc.1.2 (by omega)
    rw [aBest, if_pos hc, sN, nI_clamp (by omega)]
    refine x_aload dX9_best_24 rfl ?_
    refine x_get fX9_21 dX9_best_25 (by first | assumption | rfl | exact up_same | exact (up_ne (by omega)).trans (by assumption) | exact (up_ne (by assumption)).trans (by assumption)) ?_
    refine x_get fX9_200 dX9_best_28 (by first | assumption | rfl | exact up_same | exact (up_ne (by omega)).trans (by assumption) | exact (up_ne (by assumption)).trans (by assumption)) ?_
    refine x_k dX9_best_31 ?_
    refine x_icmp_le dX9_best_32 (fun b32 => ?_) (fun b32 => ?_)
    · rw [if_pos (e4.mp b32)]; exact c_bestOk hX hd hsz (e4.mp b32) hp hc.2
    · refine x_ldc kX9_206 dX9_best_35 ?_
      refine x_iret (ty := .int) dX9_best_37 rfl rfl (Nat.le_of_ble_eq_true rfl) (Nat.le_of_ble_eq_true rfl) ?_
      rw [if_neg (fun z => b32 (e4.mpr z))]; exact ⟨rfl, Nat.le_refl _, hX, fun _ _ => rfl⟩
  refine x_aload dX9_best_0 rfl ?_
  refine x_iload dX9_best_1 rfl ?_
  refine x_V1i lX9_115 (Rm.of rfl) (cc1 := 0) (cn1 := 0) rfl rfl (Nat.le_of_ble_eq_true rfl) dX9_best_2 (by first | assumption | rfl | exact up_same | exact (up_ne (by omega)).trans (by assumption) | exact (up_ne (by assumption)).trans (by assumption)) (r_nobody h4 a10 t) ?_
  refine x_if_ne dX9_best_5 (fun b5 => ?_) (fun b5 => ?_)
  · try simp only [i01, Classical.not_not] at b5
    refine x_ldc kX9_180 dX9_best_21 ?_
    refine x_iret (ty := .int) dX9_best_23 rfl rfl (Nat.le_of_ble_eq_true rfl) (Nat.le_of_ble_eq_true rfl) ?_
    have hc : ¬ cBest d t w := by
      rintro ⟨⟨z1, z2⟩, z3⟩
      first
        | exact b5.elim (fun y => Int32.not_lt.mpr z1 y) (fun y => Int32.not_le.mpr z2 y)
        | exact z3.elim (fun y => b10 y) (fun y => b18.elim (fun x => Int32.not_lt.mpr y.1 x) (fun x => Int32.not_le.mpr y.2 x))
    exact ⟨by rw [aBest, if_neg hc], Nat.le_refl _, hX, fun _ _ => rfl⟩
  · try simp only [i01, Classical.not_not] at b5
    refine x_iload dX9_best_8 rfl ?_
    refine x_k dX9_best_9 ?_
    refine x_icmp_eq dX9_best_10 (fun b10 => ?_) (fun b10 => ?_)
    · have hc : cBest d t w := by
        refine ⟨⟨Int32.not_lt.mp (fun y => b5 (Or.inl y)), Int32.not_le.mp (fun y => b5 (Or.inr y))⟩, ?_⟩
        first
          | exact Or.inl b10
          | exact Or.inr ⟨Int32.not_lt.mp (fun y => b18 (Or.inl y)), Int32.not_le.mp (fun y => b18 (Or.inr y))⟩
      exact J24 hc
    · refine x_aload dX9_best_13 rfl ?_
      refine x_iload dX9_best_14 rfl ?_
      refine x_V1i lX9_115 (Rm.of rfl) (cc1 := 0) (cn1 := 0) rfl rfl (Nat.le_of_ble_eq_true rfl) dX9_best_15 (by first | assumption | rfl | exact up_same | exact (up_ne (by omega)).trans (by assumption) | exact (up_ne (by assumption)).trans (by assumption)) (r_nobody h4 a10 w) ?_
      refine x_if_eq dX9_best_18 (fun b18 => ?_) (fun b18 => ?_)
      · try simp only [i01, Classical.not_not] at b18
        have hc : cBest d t w := by
          refine ⟨⟨Int32.not_lt.mp (fun y => b5 (Or.inl y)), Int32.not_le.mp (fun y => b5 (Or.inr y))⟩, ?_⟩
          first
            | exact Or.inl b10
            | exact Or.inr ⟨Int32.not_lt.mp (fun y => b18 (Or.inl y)), Int32.not_le.mp (fun y => b18 (Or.inr y))⟩
        exact J24 hc
      · try simp only [i01, Classical.not_not] at b18
        refine x_ldc kX9_180 dX9_best_21 ?_
        refine x_iret (ty := .int) dX9_best_23 rfl rfl (Nat.le_of_ble_eq_true rfl) (Nat.le_of_ble_eq_true rfl) ?_
        have hc : ¬ cBest d t w := by
          rintro ⟨⟨z1, z2⟩, z3⟩
          first
            | exact b5.elim (fun y => Int32.not_lt.mpr z1 y) (fun y => Int32.not_le.mpr z2 y)
            | exact z3.elim (fun y => b10 y) (fun y => b18.elim (fun x => Int32.not_lt.mpr y.1 x) (fun x => Int32.not_le.mpr y.2 x))
        exact ⟨by rw [aBest, if_neg hc], Nat.le_refl _, hX, fun _ _ => rfl⟩
end Best
