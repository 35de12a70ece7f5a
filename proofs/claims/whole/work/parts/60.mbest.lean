/-! best, of the reference -/
noncomputable def bB (g : Nat → Int32) (r : Nat) : Int32 := if r = 0 then -1 else nI (bst g r)
noncomputable def bM (g : Nat → Int32) (r : Nat) : Int32 := if r = 0 then 0 else g (bst g r)
section MBest
variable {Γ : GX} {h : Hp} {sz : Nat} {d : DT}
theorem m_bestOf {p : Nat} {w : Int32} (hM : MW h d) (hR : MR h d) (hd : okD d) (hp : p < d_N d) (hw : w = -1 ∨ (0 ≤ w ∧ w < nI (d_N d))) : Rn Γ mX10_bestOf [.ref 57, .int (nI p), .int w] h sz (qM h sz d (if d_N d ≤ 4 then bstA d p w else -100004)) := by
  refine x_enter 6 (by decide) rfl ?_
  obtain ⟨ll, ow, pr, kd, pl, r57, -⟩ := id hR
  have hP8 : d_N d ≤ 8 := (pN_ok hd.1.2.1).1
  have e4 : nI (d_N d) ≤ 4 ↔ d_N d ≤ 4 := nI_leI (b := 4) (by omega) (by omega)
  have J11 : d_N d ≤ 4 → Ex Γ mX10_bestOf (gx_Z Γ mX10_bestOf (qM h sz d (bstA d p w))) 0 0 11 [.ref 57, .int (nI p), .int w, .retAddr 0, .retAddr 0, .retAddr 0, .retAddr 0, .retAddr 0, .retAddr 0] [] h sz := by
    intro hN
    have hle := rwN_le hd hN
    have hpos := rwN_pos d
    have hbl : bestR d p < rwN d := bst_lt _ _ (rwN_pos d)
    have A104 : ∀ (h' : Hp) (v u : Value), MW h' d → MR h' d → frM h h' → Ex Γ mX10_bestOf (gx_Z Γ mX10_bestOf (qM h sz d (bstA d p w))) 0 0 104 [.ref 57, .int (nI p), .int w, .int (nI (bestR d p)), .int (rwG d p (bestR d p)), .int (nI (rwN d)), .int (nI (rwN d)), v, u] [] h' sz := by
      intro h' v u hM' hR' hF'
      obtain ⟨ll, ow, pr, kd, pl, r57, -⟩ := id hR'
      refine x_aload dX10_bestOf_104 rfl ?_
      refine x_iload dX10_bestOf_105 rfl ?_
      refine x_V1q lX10_189 (Rm.of rfl) (cc1 := 0) (cn1 := 0) rfl rfl (Nat.le_of_ble_eq_true rfl) dX10_bestOf_106 (by first | assumption | rfl | exact up_same | exact (up_ne (by omega)).trans (by assumption) | exact (up_ne (by assumption)).trans (by assumption)) (m_places hM' hR' hd hN hbl) ?_
      rintro _ h2 _ ⟨rfl, rfl, hM2, hR2, ⟨wh, p67, hwh⟩, hf2⟩
      obtain ⟨ll2, _, _, _, _, u57, -⟩ := id hR2
      refine x_iload dX10_bestOf_109 rfl ?_
      refine x_k dX10_bestOf_110 ?_
      refine x_icmp_ne dX10_bestOf_111 (fun b111 => ?_) (fun b111 => ?_)
      · have hw1 : w ≠ -1 := b111
        obtain ⟨q, hq, rfl⟩ := below (hw.resolve_left hw1).1 (hw.resolve_left hw1).2 (by omega)
        refine x_aload dX10_bestOf_119 rfl ?_
        refine x_get fX10_37 dX10_bestOf_120 (by first | assumption | rfl | exact up_same | exact (up_ne (by omega)).trans (by assumption) | exact (up_ne (by assumption)).trans (by assumption)) ?_
        refine x_iload dX10_bestOf_123 rfl ?_
        refine x_ialdn dX10_bestOf_124 (by first | assumption | rfl | exact up_same | exact (up_ne (by omega)).trans (by assumption) | exact (up_ne (by assumption)).trans (by assumption)) ⟨by first | omega | decide, by decide⟩ ?_
        refine x_iret (ty := .int) dX10_bestOf_125 rfl rfl (Nat.zero_le _) (Nat.zero_le _) ?_
        exact ⟨by rw [bstA, if_neg hw1, sN, nI_clamp (by omega), hwh q hq], rfl, hM2, hF'.trans (fun k hk => hf2 k (by omega))⟩
      · refine x_iload dX10_bestOf_114 rfl ?_
        refine x_goto dX10_bestOf_116 ?_
        refine x_iret (ty := .int) dX10_bestOf_125 rfl rfl (Nat.zero_le _) (Nat.zero_le _) ?_
        exact ⟨by rw [bstA, if_pos (Classical.not_not.mp b111)], rfl, hM2, hF'.trans (fun k hk => hf2 k (by omega))⟩
    have all : ∀ r, r ≤ rwN d → ∀ (h' : Hp) (v u : Value), MW h' d → MR h' d → frM h h' → Ex Γ mX10_bestOf (gx_Z Γ mX10_bestOf (qM h sz d (bstA d p w))) 0 0 25 [.ref 57, .int (nI p), .int w, .int (bB (rwG d p) r), .int (bM (rwG d p) r), .int (nI (rwN d)), .int (nI r), v, u] [] h' sz := by
      refine loopUp (rwN d) (fun h' v u hM' hR' hF' => ?_) (fun r hr ih h' v u hM' hR' hF' => ?_)
      · have e1 : bB (rwG d p) (rwN d) = nI (bestR d p) := if_neg (by omega)
        have e2 : bM (rwG d p) (rwN d) = rwG d p (bestR d p) := if_neg (by omega)
        rw [e1, e2]
        refine x_iload dX10_bestOf_25 rfl ?_
        refine x_iload dX10_bestOf_27 rfl ?_
        refine x_icmp_ge dX10_bestOf_29 (fun b29 => ?_) (fun b29 => ?_)
        · exact A104 h' v u hM' hR' hF'
        · exact absurd (Int32.le_refl _) b29
      · have e1 : bB (rwG d p) (r + 1) = nI (bst (rwG d p) (r + 1)) := if_neg (by omega)
        have e2 : bM (rwG d p) (r + 1) = rwG d p (bst (rwG d p) (r + 1)) := if_neg (by omega)
        have eb : bst (rwG d p) (r + 1) = if r = 0 ∨ rwG d p (bst (rwG d p) r) < rwG d p r then r else bst (rwG d p) r := by
          by_cases z : r = 0
          · subst z; rw [if_pos (Or.inl rfl)]; exact Nat.lt_one_iff.mp (bst_lt (rwG d p) 1 (by omega))
          · rw [bst]; simp only [z, false_or]
        have J70 : ∀ (h2 : Hp) (x : Int32), x = bI (r = 0 ∨ rwG d p (bst (rwG d p) r) < rwG d p r) → MW h2 d → MR h2 d → frM h h2 → Ex Γ mX10_bestOf (gx_Z Γ mX10_bestOf (qM h sz d (bstA d p w))) 0 0 70 [.ref 57, .int (nI p), .int w, .int (bB (rwG d p) r), .int (bM (rwG d p) r), .int (nI (rwN d)), .int (nI r), .int (rwG d p r), u] [.int x] h2 sz := by
          intro h2 x hx hM2 hR2 hF2
          rw [hx]
          by_cases hz : r = 0 ∨ rwG d p (bst (rwG d p) r) < rwG d p r
          · have ex : bI (r = 0 ∨ rwG d p (bst (rwG d p) r) < rwG d p r) = 1 := if_pos hz
            rw [if_pos hz] at eb
            rw [ex]
            refine x_istore dX10_bestOf_70 (Nat.le_of_ble_eq_true rfl) rfl ?_
            refine x_iload dX10_bestOf_72 rfl ?_
            refine x_if_eq dX10_bestOf_74 (fun b74 => ?_) (fun b74 => ?_)
            · exact absurd b74 (by decide)
            · refine x_iload dX10_bestOf_77 rfl ?_
              refine x_goto dX10_bestOf_79 ?_
              refine x_istore dX10_bestOf_83 (Nat.le_of_ble_eq_true rfl) rfl ?_
              refine x_iload dX10_bestOf_84 rfl ?_
              refine x_if_eq dX10_bestOf_86 (fun b86 => ?_) (fun b86 => ?_)
              · exact absurd b86 (by decide)
              · refine x_iload dX10_bestOf_89 rfl ?_
                refine x_goto dX10_bestOf_91 ?_
                refine x_istore dX10_bestOf_96 (Nat.le_of_ble_eq_true rfl) rfl ?_
                refine x_inc1 dX10_bestOf_98 rfl (Nat.le_of_ble_eq_true rfl) rfl ?_
                refine x_goto dX10_bestOf_101 ?_
                rw [e1, e2, eb] at ih; exact ih h2 _ _ hM2 hR2 hF2
          · have ex : bI (r = 0 ∨ rwG d p (bst (rwG d p) r) < rwG d p r) = 0 := if_neg hz
            rw [if_neg hz] at eb
            rw [ex]
            have h0 : r ≠ 0 := fun z => hz (Or.inl z)
            have f1 : bB (rwG d p) r = nI (bst (rwG d p) r) := if_neg h0
            have f2 : bM (rwG d p) r = rwG d p (bst (rwG d p) r) := if_neg h0
            rw [f1, f2]
            refine x_istore dX10_bestOf_70 (Nat.le_of_ble_eq_true rfl) rfl ?_
            refine x_iload dX10_bestOf_72 rfl ?_
            refine x_if_eq dX10_bestOf_74 (fun b74 => ?_) (fun b74 => ?_)
            · refine x_iload dX10_bestOf_82 rfl ?_
              refine x_istore dX10_bestOf_83 (Nat.le_of_ble_eq_true rfl) rfl ?_
              refine x_iload dX10_bestOf_84 rfl ?_
              refine x_if_eq dX10_bestOf_86 (fun b86 => ?_) (fun b86 => ?_)
              · refine x_iload dX10_bestOf_94 rfl ?_
                refine x_istore dX10_bestOf_96 (Nat.le_of_ble_eq_true rfl) rfl ?_
                refine x_inc1 dX10_bestOf_98 rfl (Nat.le_of_ble_eq_true rfl) rfl ?_
                refine x_goto dX10_bestOf_101 ?_
                rw [e1, e2, eb] at ih; exact ih h2 _ _ hM2 hR2 hF2
              · exact absurd rfl b86
            · exact absurd rfl b74
        obtain ⟨ll, ow, pr, kd, pl, r57, -⟩ := id hR'
        have hb1 : bB (rwG d p) r = -1 ↔ r = 0 := by
          by_cases z : r = 0
          · exact ⟨fun _ => z, fun _ => if_pos z⟩
          · have := bst_lt (rwG d p) r (by omega)
            rw [bB, if_neg z]; exact ⟨fun y => absurd y (nI_nm1 (by omega)), fun y => absurd y z⟩
        refine x_iload dX10_bestOf_25 rfl ?_
        refine x_iload dX10_bestOf_27 rfl ?_
        refine x_icmp_ge dX10_bestOf_29 (fun b29 => ?_) (fun b29 => ?_)
        · exact absurd b29 (nI_ge hr (by omega))
        · refine x_aload dX10_bestOf_32 rfl ?_
          refine x_iload dX10_bestOf_33 rfl ?_
          refine x_V1q lX10_189 (Rm.of rfl) (cc1 := 0) (cn1 := 0) rfl rfl (Nat.le_of_ble_eq_true rfl) dX10_bestOf_35 (by first | assumption | rfl | exact up_same | exact (up_ne (by omega)).trans (by assumption) | exact (up_ne (by assumption)).trans (by assumption)) (m_places hM' hR' hd hN hr) ?_
          rintro _ h1 _ ⟨rfl, rfl, hM1, hR1, hP1, hf1⟩
          obtain ⟨l1, _, _, _, _, u57, -⟩ := id hR1
          refine x_aload dX10_bestOf_38 rfl ?_
          refine x_aload dX10_bestOf_39 rfl ?_
          refine x_get fX10_137 dX10_bestOf_40 (by first | assumption | rfl | exact up_same | exact (up_ne (by omega)).trans (by assumption) | exact (up_ne (by assumption)).trans (by assumption)) ?_
          refine x_V1q lX10_162 (Rm.of rfl) (cc1 := 0) (cn1 := 0) rfl rfl (Nat.le_of_ble_eq_true rfl) dX10_bestOf_43 (by first | assumption | rfl | exact up_same | exact (up_ne (by omega)).trans (by assumption) | exact (up_ne (by assumption)).trans (by assumption)) (m_runRow hM1 hR1 hP1 hd) ?_
          rintro _ h2 _ ⟨rfl, rfl, hM2, hR2, hP2, ⟨l2, os, kp, tm, s57, s68, s69, s70, hk⟩, hf2⟩
          obtain ⟨l3, ow3, pr3, kd3, pl3, v57, v60, v61, v62, v63, ro, rp⟩ := id hR2
          have hF2 : frM h h2 := hF'.trans (fun k hk => (hf2 k (by omega) (by omega)).trans (hf1 k (by omega)))
          refine x_aload dX10_bestOf_46 rfl ?_
          refine x_iload dX10_bestOf_47 rfl ?_
          refine x_V1i lX10_179 (Rm.of rfl) (cc1 := 0) (cn1 := 0) rfl rfl (Nat.le_of_ble_eq_true rfl) dX10_bestOf_48 (by first | assumption | rfl | exact up_same | exact (up_ne (by omega)).trans (by assumption) | exact (up_ne (by assumption)).trans (by assumption)) (m_gainBy (s := rwR d r) s57 v61 s68 s69 hM2.w72 (fun j hj => (ro j hj).2) hk hd (by omega)) ?_
          refine x_istore dX10_bestOf_51 (Nat.le_of_ble_eq_true rfl) rfl ?_
          refine x_iload dX10_bestOf_53 rfl ?_
          refine x_k dX10_bestOf_54 ?_
          refine x_icmp_eq dX10_bestOf_55 (fun b55 => ?_) (fun b55 => ?_)
          · refine x_k dX10_bestOf_65 ?_
            refine x_goto dX10_bestOf_66 ?_
            refine J70 h2 _ ?_ hM2 hR2 hF2
            first
              | (have hz : r = 0 := hb1.mp b55
                 exact (if_pos (Or.inl hz)).symm)
              | (have hz : r ≠ 0 := fun z => b55 (hb1.mpr z)
                 have f2 : bM (rwG d p) r = rwG d p (bst (rwG d p) r) := if_neg hz
                 rw [f2] at b62
                 first
                   | (have hy : rwG d p (bst (rwG d p) r) < rwG d p r := Int32.not_le.mp b62
                      exact (if_pos (Or.inr hy)).symm)
                   | (have hy : ¬ rwG d p (bst (rwG d p) r) < rwG d p r := Int32.not_lt.mpr b62
                      exact (if_neg (fun z => z.elim hz hy)).symm))
          · refine x_iload dX10_bestOf_58 rfl ?_
            refine x_iload dX10_bestOf_60 rfl ?_
            refine x_icmp_le dX10_bestOf_62 (fun b62 => ?_) (fun b62 => ?_)
            · refine x_k dX10_bestOf_69 ?_
              refine J70 h2 _ ?_ hM2 hR2 hF2
              first
                | (have hz : r = 0 := hb1.mp b55
                   exact (if_pos (Or.inl hz)).symm)
                | (have hz : r ≠ 0 := fun z => b55 (hb1.mpr z)
                   have f2 : bM (rwG d p) r = rwG d p (bst (rwG d p) r) := if_neg hz
                   rw [f2] at b62
                   first
                     | (have hy : rwG d p (bst (rwG d p) r) < rwG d p r := Int32.not_le.mp b62
                        exact (if_pos (Or.inr hy)).symm)
                     | (have hy : ¬ rwG d p (bst (rwG d p) r) < rwG d p r := Int32.not_lt.mpr b62
                        exact (if_neg (fun z => z.elim hz hy)).symm))
            · refine x_k dX10_bestOf_65 ?_
              refine x_goto dX10_bestOf_66 ?_
              refine J70 h2 _ ?_ hM2 hR2 hF2
              first
                | (have hz : r = 0 := hb1.mp b55
                   exact (if_pos (Or.inl hz)).symm)
                | (have hz : r ≠ 0 := fun z => b55 (hb1.mpr z)
                   have f2 : bM (rwG d p) r = rwG d p (bst (rwG d p) r) := if_neg hz
                   rw [f2] at b62
                   first
                     | (have hy : rwG d p (bst (rwG d p) r) < rwG d p r := Int32.not_le.mp b62
                        exact (if_pos (Or.inr hy)).symm)
                     | (have hy : ¬ rwG d p (bst (rwG d p) r) < rwG d p r := Int32.not_lt.mpr b62
                        exact (if_neg (fun z => z.elim hz hy)).symm))
    refine x_k dX10_bestOf_11 ?_
    refine x_istore dX10_bestOf_12 (Nat.le_of_ble_eq_true rfl) rfl ?_
    refine x_k dX10_bestOf_13 ?_
    refine x_istore dX10_bestOf_14 (Nat.le_of_ble_eq_true rfl) rfl ?_
    refine x_aload dX10_bestOf_16 rfl ?_
    refine x_V0i lX10_186 (Rm.of rfl) (cc1 := 0) (cn1 := 0) rfl rfl (Nat.le_of_ble_eq_true rfl) dX10_bestOf_17 (by first | assumption | rfl | exact up_same | exact (up_ne (by omega)).trans (by assumption) | exact (up_ne (by assumption)).trans (by assumption)) (m_rows hR hd hN) ?_
    refine x_istore dX10_bestOf_20 (Nat.le_of_ble_eq_true rfl) rfl ?_
    refine x_k dX10_bestOf_22 ?_
    refine x_istore dX10_bestOf_23 (Nat.le_of_ble_eq_true rfl) rfl ?_
    exact all 0 (Nat.zero_le _) h _ _ hM hR (fun _ _ => rfl)
  refine x_aload dX10_bestOf_0 rfl ?_
  refine x_get fX10_104 dX10_bestOf_1 (by first | assumption | rfl | exact up_same | exact (up_ne (by omega)).trans (by assumption) | exact (up_ne (by assumption)).trans (by assumption)) ?_
  refine x_k dX10_bestOf_4 ?_
  refine x_icmp_le dX10_bestOf_5 (fun b5 => ?_) (fun b5 => ?_)
  · rw [if_pos (e4.mp b5)]; exact J11 (e4.mp b5)
  · refine x_ldc kX10_185 dX10_bestOf_8 ?_
    refine x_iret (ty := .int) dX10_bestOf_10 rfl rfl (Nat.zero_le _) (Nat.zero_le _) ?_
    exact ⟨by rw [if_neg (fun z => b5 (e4.mpr z))], rfl, hM, fun _ _ => rfl⟩
theorem m_best (t w : Int32) (hM : MW h d) (hd : okD d) : Rn Γ mX10_best [.ref 57, .int t, .int w] h sz (qM h sz d (aBest d t w)) := by
  refine x_enter 0 (by decide) rfl ?_
  obtain ⟨_, _, _, w57⟩ := hM.w57
  have hP8 : d_N d ≤ 8 := (pN_ok hd.1.2.1).1
  have J21 : ∀ h2, MW h2 d → MR h2 d → frM h h2 → cBest d t w → Ex Γ mX10_best (gx_Z Γ mX10_best (qM h sz d (aBest d t w))) 0 0 21 [.ref 57, .int t, .int w] [] h2 sz := by
    intro h2 hM2 hR2 hF2 hc
    obtain ⟨_, _, _, v57⟩ := hM2.w57
    obtain ⟨p, hp, rfl⟩ := below hc.1.1 hc.1.2 (by omega)
    rw [aBest, if_pos hc, sN, nI_clamp (by omega)]
    refine x_aload dX10_best_21 rfl ?_
    refine x_iload dX10_best_22 rfl ?_
    refine x_iload dX10_best_23 rfl ?_
    refine x_V2q lX10_192 (Rm.of rfl) (cc1 := 0) (cn1 := 0) rfl rfl (Nat.le_of_ble_eq_true rfl) dX10_best_24 (by first | assumption | rfl | exact up_same | exact (up_ne (by omega)).trans (by assumption) | exact (up_ne (by assumption)).trans (by assumption)) (m_bestOf hM2 hR2 hd hp hc.2) ?_
    rintro _ h3 _ ⟨rfl, rfl, hM3, hF3⟩
    refine x_goto dX10_best_27 ?_
    refine x_iret (ty := .int) dX10_best_32 rfl rfl (Nat.zero_le _) (Nat.zero_le _) ?_
    exact ⟨rfl, rfl, hM3, hF2.trans hF3⟩
  refine x_aload dX10_best_0 rfl ?_
  refine x_iload dX10_best_1 rfl ?_
  refine x_V1q lX10_128 (Rm.of rfl) (cc1 := 0) (cn1 := 0) rfl rfl (Nat.le_of_ble_eq_true rfl) dX10_best_2 (by first | assumption | rfl | exact up_same | exact (up_ne (by omega)).trans (by assumption) | exact (up_ne (by assumption)).trans (by assumption)) (m_isPerson t hM hd) ?_
  rintro _ h1 _ ⟨rfl, rfl, hM1, hR1, hF1⟩
  obtain ⟨_, _, _, v57⟩ := hM1.w57
  refine x_if_eq dX10_best_5 (fun b5 => ?_) (fun b5 => ?_)
  · try simp only [i01, Classical.not_not] at b5
    refine x_ldc kX10_178 dX10_best_30 ?_
    refine x_iret (ty := .int) dX10_best_32 rfl rfl (Nat.zero_le _) (Nat.zero_le _) ?_
    first
      | (have hc : ¬ cBest d t w := fun z => z.2.elim b10 b18); exact ⟨by rw [aBest, if_neg hc], rfl, hM2, hF1.trans hF2⟩
      | (have hc : ¬ cBest d t w := fun z => b5 z.1); exact ⟨by rw [aBest, if_neg hc], rfl, hM1, hF1⟩
  · try simp only [i01, Classical.not_not] at b5
    refine x_iload dX10_best_8 rfl ?_
    refine x_k dX10_best_9 ?_
    refine x_icmp_eq dX10_best_10 (fun b10 => ?_) (fun b10 => ?_)
    · first
        | exact J21 _ hM1 hR1 hF1 ⟨b5, Or.inl b10⟩
        | exact J21 _ hM2 hR2 (hF1.trans hF2) ⟨b5, Or.inr b18⟩
    · refine x_aload dX10_best_13 rfl ?_
      refine x_iload dX10_best_14 rfl ?_
      refine x_V1q lX10_128 (Rm.of rfl) (cc1 := 0) (cn1 := 0) rfl rfl (Nat.le_of_ble_eq_true rfl) dX10_best_15 (by first | assumption | rfl | exact up_same | exact (up_ne (by omega)).trans (by assumption) | exact (up_ne (by assumption)).trans (by assumption)) (m_isPerson w hM1 hd) ?_
      rintro _ h2 _ ⟨rfl, rfl, hM2, hR2, hF2⟩
      obtain ⟨_, _, _, u57⟩ := hM2.w57
      refine x_if_eq dX10_best_18 (fun b18 => ?_) (fun b18 => ?_)
      · try simp only [i01, Classical.not_not] at b18
        refine x_ldc kX10_178 dX10_best_30 ?_
        refine x_iret (ty := .int) dX10_best_32 rfl rfl (Nat.zero_le _) (Nat.zero_le _) ?_
        first
          | (have hc : ¬ cBest d t w := fun z => z.2.elim b10 b18); exact ⟨by rw [aBest, if_neg hc], rfl, hM2, hF1.trans hF2⟩
          | (have hc : ¬ cBest d t w := fun z => b5 z.1); exact ⟨by rw [aBest, if_neg hc], rfl, hM1, hF1⟩
      · try simp only [i01, Classical.not_not] at b18
        first
          | exact J21 _ hM1 hR1 hF1 ⟨b5, Or.inl b10⟩
          | exact J21 _ hM2 hR2 (hF1.trans hF2) ⟨b5, Or.inr b18⟩
end MBest
