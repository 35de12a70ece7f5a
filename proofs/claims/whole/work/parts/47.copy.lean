/-! copy -/
section Cpy
variable {Γ : GX} {h : Hp} {sz : Nat} {d : DT}
theorem c_copy (s i t j n : Int32) (hX : XW h sz d) (hd : okD d) : Rn Γ mX9_copy [.ref 4, .int s, .int i, .int t, .int j, .int n] h sz (qW h sz (dCopy d s i t j n) (aCopy d s i t j n)) := by
  refine x_enter 2 (by decide) rfl ?_
  obtain ⟨hA, hK, hR, hD⟩ := id hX
  obtain ⟨ss, h4⟩ := hK.w4
  have J17 : cS s ∧ cS t → Ex Γ mX9_copy (gx_Z Γ mX9_copy (qW h sz (dCopy d s i t j n) (aCopy d s i t j n))) 0 0 17 [.ref 4, .int s, .int i, .int t, .int j, .int n, .retAddr 0, .retAddr 0] [] h sz := by
    intro hc
    obtain ⟨k, hk, rfl⟩ := upto (n := 3) hc.1.1 hc.1.2 (by omega)
    obtain ⟨l, hl, rfl⟩ := upto (n := 3) hc.2.1 hc.2.2 (by omega)
    obtain ⟨a48, a49, a50⟩ := hA.sh (s := k) (by omega)
    obtain ⟨-, c49, c50⟩ := hA.sh (s := l) (by omega)
    have ok4 := hd.2.2.2 k (by omega)
    have ol4 := hd.2.2.2 l (by omega)
    have es : sN (nI k) = k := nI_clamp (by omega)
    have el : sN (nI l) = l := nI_clamp (by omega)
    have hk8 : (0 ≤ i ∧ 0 ≤ n ∧ n ≤ d_si d k ∧ i ≤ d_si d k - n) ↔ holP (cN (d_si d) k) i n := by
      have := hol_x (i := i) (n := n) (c := cN (d_si d) k) ok4.2.2
      rw [← ok4.2.1] at this; exact this
    have hl8 : (0 ≤ j ∧ 0 ≤ n ∧ n ≤ d_si d l ∧ j ≤ d_si d l - n) ↔ holP (cN (d_si d) l) j n := by
      have := hol_x (i := j) (n := n) (c := cN (d_si d) l) ol4.2.2
      rw [← ol4.2.1] at this; exact this
    rw [dCopy, aCopy, if_pos hc, if_pos hc, es, el]
    have J103 : holD d k l i j n → Ex Γ mX9_copy (gx_Z Γ mX9_copy (qW h sz (dSx d l (d_fo d l) (d_si d l) (va_cpy (d_it d k) (d_it d l) (sN i) (sN j) (sN n))) 1)) 0 0 103 [.ref 4, .int (nI k), .int i, .int (nI l), .int j, .int n, .ref (49 + 2 * k), .ref (49 + 2 * l)] [] h sz := by
      rintro ⟨⟨z1, z2, z3⟩, z4, -, z5⟩
      obtain ⟨a, ha, rfl⟩ := nI_of (Int32.not_lt.mpr z1)
      obtain ⟨b, hb, rfl⟩ := nI_of (Int32.not_lt.mpr z4)
      obtain ⟨c, hc, rfl⟩ := nI_of (Int32.not_lt.mpr z2)
      have ea : sN (nI a) = a := nI_clamp ha
      have eb : sN (nI b) = b := nI_clamp hb
      have ec : sN (nI c) = c := nI_clamp hc
      rw [ea, ec] at z3
      rw [eb, ec] at z5
      rw [ea, eb, ec]
      refine x_aload dX9_copy_103 rfl ?_
      refine x_get fX9_155 dX9_copy_105 (by first | assumption | rfl | exact up_same | exact (up_ne (by omega)).trans (by assumption) | exact (up_ne (by assumption)).trans (by assumption)) ?_
      refine x_iload dX9_copy_108 rfl ?_
      refine x_aload dX9_copy_109 rfl ?_
      refine x_get fX9_155 dX9_copy_111 (by first | assumption | rfl | exact up_same | exact (up_ne (by omega)).trans (by assumption) | exact (up_ne (by assumption)).trans (by assumption)) ?_
      refine x_iload dX9_copy_114 rfl ?_
      refine x_iload dX9_copy_116 rfl ?_
      refine x_copy lX9_310 dX9_copy_118 (by first | assumption | rfl | exact up_same | exact (up_ne (by omega)).trans (by assumption) | exact (up_ne (by assumption)).trans (by assumption)) (by first | assumption | rfl | exact up_same | exact (up_ne (by omega)).trans (by assumption) | exact (up_ne (by assumption)).trans (by assumption)) (n0 := 48) (n1 := 48) (f := d_it d k) (g := d_it d l) (sp := a) (dp := b) (n := c) ⟨⟨by omega, by omega⟩, by omega, by omega⟩ ⟨(Nat.le_of_ble_eq_true rfl), (Nat.le_of_ble_eq_true rfl)⟩ (Nat.le_of_ble_eq_true rfl) ?_
      refine x_k dX9_copy_121 ?_
      refine x_iret (ty := .int) dX9_copy_122 rfl rfl (Nat.zero_le _) (Nat.zero_le _) ?_
      exact ⟨rfl, Nat.le_refl _, hX.sht (by omega) (fun x x1 x2 => up_ne x2) ((up_ne (by omega)).trans c49) up_same, fun x hx => up_ne (by omega)⟩
    refine x_aload dX9_copy_17 rfl ?_
    refine x_get fX9_70 dX9_copy_18 (by first | assumption | rfl | exact up_same | exact (up_ne (by omega)).trans (by assumption) | exact (up_ne (by assumption)).trans (by assumption)) ?_
    refine x_iload dX9_copy_21 rfl ?_
    refine x_aaS (i := k) (q := 49 + 2 * k) dX9_copy_22 a48 ⟨by omega, rfl⟩ ?_
    refine x_astore dX9_copy_23 (Nat.le_of_ble_eq_true rfl) rfl ?_
    refine x_aload dX9_copy_25 rfl ?_
    refine x_get fX9_70 dX9_copy_26 (by first | assumption | rfl | exact up_same | exact (up_ne (by omega)).trans (by assumption) | exact (up_ne (by assumption)).trans (by assumption)) ?_
    refine x_iload dX9_copy_29 rfl ?_
    refine x_aaS (i := l) (q := 49 + 2 * l) dX9_copy_30 a48 ⟨by omega, rfl⟩ ?_
    refine x_astore dX9_copy_31 (Nat.le_of_ble_eq_true rfl) rfl ?_
    refine x_aload dX9_copy_33 rfl ?_
    refine x_V0i lX9_147 (Rm.of rfl) (cc1 := 0) (cn1 := 0) rfl rfl (Nat.le_of_ble_eq_true rfl) dX9_copy_35 (by first | assumption | rfl | exact up_same | exact (up_ne (by omega)).trans (by assumption) | exact (up_ne (by assumption)).trans (by assumption)) (r_isLost a49) ?_
    refine x_if_ne dX9_copy_38 (fun b38 => ?_) (fun b38 => ?_)
    · try simp only [i01, Classical.not_not] at b38
      refine x_aload dX9_copy_49 rfl ?_
      refine x_k dX9_copy_50 ?_
      refine x_V1q lX9_151 (Rm.of rfl) (cc1 := 0) (cn1 := 0) rfl rfl (Nat.le_of_ble_eq_true rfl) dX9_copy_51 (by first | assumption | rfl | exact up_same | exact (up_ne (by omega)).trans (by assumption) | exact (up_ne (by assumption)).trans (by assumption)) (c_found 1 hX) ?_
      rintro _ h2 _ hq
      have hq2 := hq
      obtain ⟨rfl, -⟩ := hq
      refine x_iret (ty := .int) dX9_copy_54 rfl rfl (Nat.zero_le _) (Nat.zero_le _) ?_
      have hz : d_fo d k = -1 ∨ d_fo d l = -1 := by
        first
          | exact Or.inr b46
          | exact Or.inl b38
      rw [if_pos hz, if_pos hz]; exact hq2
    · try simp only [i01, Classical.not_not] at b38
      refine x_aload dX9_copy_41 rfl ?_
      refine x_V0i lX9_147 (Rm.of rfl) (cc1 := 0) (cn1 := 0) rfl rfl (Nat.le_of_ble_eq_true rfl) dX9_copy_43 (by first | assumption | rfl | exact up_same | exact (up_ne (by omega)).trans (by assumption) | exact (up_ne (by assumption)).trans (by assumption)) (r_isLost c49) ?_
      refine x_if_eq dX9_copy_46 (fun b46 => ?_) (fun b46 => ?_)
      · try simp only [i01, Classical.not_not] at b46
        refine x_aload dX9_copy_55 rfl ?_
        refine x_get fX9_297 dX9_copy_57 (by first | assumption | rfl | exact up_same | exact (up_ne (by omega)).trans (by assumption) | exact (up_ne (by assumption)).trans (by assumption)) ?_
        refine x_aload dX9_copy_60 rfl ?_
        refine x_get fX9_297 dX9_copy_62 (by first | assumption | rfl | exact up_same | exact (up_ne (by omega)).trans (by assumption) | exact (up_ne (by assumption)).trans (by assumption)) ?_
        refine x_icmp_eq dX9_copy_65 (fun b65 => ?_) (fun b65 => ?_)
        · refine x_aload dX9_copy_74 rfl ?_
          refine x_iload dX9_copy_76 rfl ?_
          refine x_iload dX9_copy_77 rfl ?_
          refine x_V2i lX9_307 (Rm.of rfl) (cc1 := 0) (cn1 := 0) rfl rfl (Nat.le_of_ble_eq_true rfl) dX9_copy_79 (by first | assumption | rfl | exact up_same | exact (up_ne (by omega)).trans (by assumption) | exact (up_ne (by assumption)).trans (by assumption)) (r_holds i n a49) ?_
          refine x_if_eq dX9_copy_82 (fun b82 => ?_) (fun b82 => ?_)
          · try simp only [i01, Classical.not_not] at b82
            refine x_aload dX9_copy_97 rfl ?_
            refine x_k dX9_copy_98 ?_
            refine x_V1q lX9_151 (Rm.of rfl) (cc1 := 0) (cn1 := 0) rfl rfl (Nat.le_of_ble_eq_true rfl) dX9_copy_99 (by first | assumption | rfl | exact up_same | exact (up_ne (by omega)).trans (by assumption) | exact (up_ne (by assumption)).trans (by assumption)) (c_found 2 hX) ?_
            rintro _ h2 _ hq
            have hq2 := hq
            obtain ⟨rfl, -⟩ := hq
            refine x_iret (ty := .int) dX9_copy_102 rfl rfl (Nat.zero_le _) (Nat.zero_le _) ?_
            have hz : ¬ (d_fo d k = -1 ∨ d_fo d l = -1) := fun z => z.elim b38 b46
            have hy : ¬ holD d k l i j n := by
              rintro ⟨y1, y2⟩
              first
                | exact b94 (hl8.mpr y2)
                | exact b82 (hk8.mpr y1)
            rw [if_neg hz, if_neg hz, if_pos b65, if_pos b65, if_neg hy, if_neg hy]; exact hq2
          · try simp only [i01, Classical.not_not] at b82
            refine x_aload dX9_copy_85 rfl ?_
            refine x_iload dX9_copy_87 rfl ?_
            refine x_iload dX9_copy_89 rfl ?_
            refine x_V2i lX9_307 (Rm.of rfl) (cc1 := 0) (cn1 := 0) rfl rfl (Nat.le_of_ble_eq_true rfl) dX9_copy_91 (by first | assumption | rfl | exact up_same | exact (up_ne (by omega)).trans (by assumption) | exact (up_ne (by assumption)).trans (by assumption)) (r_holds j n c49) ?_
            refine x_if_ne dX9_copy_94 (fun b94 => ?_) (fun b94 => ?_)
            · try simp only [i01, Classical.not_not] at b94
              have hz : ¬ (d_fo d k = -1 ∨ d_fo d l = -1) := fun z => z.elim b38 b46
              have hy : holD d k l i j n := ⟨hk8.mp b82, hl8.mp b94⟩
              rw [if_neg hz, if_neg hz, if_pos b65, if_pos b65, if_pos hy, if_pos hy]; exact J103 hy
            · try simp only [i01, Classical.not_not] at b94
              refine x_aload dX9_copy_97 rfl ?_
              refine x_k dX9_copy_98 ?_
              refine x_V1q lX9_151 (Rm.of rfl) (cc1 := 0) (cn1 := 0) rfl rfl (Nat.le_of_ble_eq_true rfl) dX9_copy_99 (by first | assumption | rfl | exact up_same | exact (up_ne (by omega)).trans (by assumption) | exact (up_ne (by assumption)).trans (by assumption)) (c_found 2 hX) ?_
              rintro _ h2 _ hq
              have hq2 := hq
              obtain ⟨rfl, -⟩ := hq
              refine x_iret (ty := .int) dX9_copy_102 rfl rfl (Nat.zero_le _) (Nat.zero_le _) ?_
              have hz : ¬ (d_fo d k = -1 ∨ d_fo d l = -1) := fun z => z.elim b38 b46
              have hy : ¬ holD d k l i j n := by
                rintro ⟨y1, y2⟩
                first
                  | exact b94 (hl8.mpr y2)
                  | exact b82 (hk8.mpr y1)
              rw [if_neg hz, if_neg hz, if_pos b65, if_pos b65, if_neg hy, if_neg hy]; exact hq2
        · refine x_aload dX9_copy_68 rfl ?_
          refine x_k dX9_copy_69 ?_
          refine x_V1q lX9_151 (Rm.of rfl) (cc1 := 0) (cn1 := 0) rfl rfl (Nat.le_of_ble_eq_true rfl) dX9_copy_70 (by first | assumption | rfl | exact up_same | exact (up_ne (by omega)).trans (by assumption) | exact (up_ne (by assumption)).trans (by assumption)) (c_found 4 hX) ?_
          rintro _ h2 _ hq
          have hq2 := hq
          obtain ⟨rfl, -⟩ := hq
          refine x_iret (ty := .int) dX9_copy_73 rfl rfl (Nat.zero_le _) (Nat.zero_le _) ?_
          have hz : ¬ (d_fo d k = -1 ∨ d_fo d l = -1) := fun z => z.elim b38 b46
          rw [if_neg hz, if_neg hz, if_neg b65, if_neg b65]; exact hq2
      · try simp only [i01, Classical.not_not] at b46
        refine x_aload dX9_copy_49 rfl ?_
        refine x_k dX9_copy_50 ?_
        refine x_V1q lX9_151 (Rm.of rfl) (cc1 := 0) (cn1 := 0) rfl rfl (Nat.le_of_ble_eq_true rfl) dX9_copy_51 (by first | assumption | rfl | exact up_same | exact (up_ne (by omega)).trans (by assumption) | exact (up_ne (by assumption)).trans (by assumption)) (c_found 1 hX) ?_
        rintro _ h2 _ hq
        have hq2 := hq
        obtain ⟨rfl, -⟩ := hq
        refine x_iret (ty := .int) dX9_copy_54 rfl rfl (Nat.zero_le _) (Nat.zero_le _) ?_
        have hz : d_fo d k = -1 ∨ d_fo d l = -1 := by
          first
            | exact Or.inr b46
            | exact Or.inl b38
        rw [if_pos hz, if_pos hz]; exact hq2
  refine x_iload dX9_copy_0 rfl ?_
  refine x_S1i lX9_144 (Rm.of rfl) (cc1 := 0) (cn1 := 0) rfl rfl (Nat.le_of_ble_eq_true rfl) dX9_copy_1 (r_noSheet s) ?_
  refine x_if_ne dX9_copy_4 (fun b4 => ?_) (fun b4 => ?_)
  · try simp only [i01, Classical.not_not] at b4
    refine x_k dX9_copy_14 ?_
    refine x_iret (ty := .int) dX9_copy_16 rfl rfl (Nat.zero_le _) (Nat.zero_le _) ?_
    have hc : ¬ (cS s ∧ cS t) := by simp only [cS, Int32.lt_iff_toInt_lt, Int32.le_iff_toInt_le, n0t, n2t, n3t, n4t, n48] at *; omega
    rw [dCopy, aCopy, if_neg hc, if_neg hc]
    exact ⟨rfl, Nat.le_refl _, hX, fun _ _ => rfl⟩
  · try simp only [i01, Classical.not_not] at b4
    refine x_iload dX9_copy_7 rfl ?_
    refine x_S1i lX9_144 (Rm.of rfl) (cc1 := 0) (cn1 := 0) rfl rfl (Nat.le_of_ble_eq_true rfl) dX9_copy_8 (r_noSheet t) ?_
    refine x_if_eq dX9_copy_11 (fun b11 => ?_) (fun b11 => ?_)
    · try simp only [i01, Classical.not_not] at b11
      exact J17 (by simp only [cS, Int32.lt_iff_toInt_lt, Int32.le_iff_toInt_le, n0t, n2t, n3t, n4t, n48] at *; omega)
    · try simp only [i01, Classical.not_not] at b11
      refine x_k dX9_copy_14 ?_
      refine x_iret (ty := .int) dX9_copy_16 rfl rfl (Nat.zero_le _) (Nat.zero_le _) ?_
      have hc : ¬ (cS s ∧ cS t) := by simp only [cS, Int32.lt_iff_toInt_lt, Int32.le_iff_toInt_le, n0t, n2t, n3t, n4t, n48] at *; omega
      rw [dCopy, aCopy, if_neg hc, if_neg hc]
      exact ⟨rfl, Nat.le_refl _, hX, fun _ _ => rfl⟩
theorem m_copy (s i t j n : Int32) (hM : MW h d) (hd : okD d) : Rn Γ mX10_copy [.ref 57, .int s, .int i, .int t, .int j, .int n] h sz (qM h sz (dCopy d s i t j n) (aCopy d s i t j n)) := by
  refine x_enter 1 (by decide) rfl ?_
  obtain ⟨hs, pe, ll, th, fr, it, mv, a57, a80, a81, a82, a83, a84, am⟩ := hM.shs
  have J17 : cS s ∧ cS t → Ex Γ mX10_copy (gx_Z Γ mX10_copy (qM h sz (dCopy d s i t j n) (aCopy d s i t j n))) 0 0 17 [.ref 57, .int s, .int i, .int t, .int j, .int n, .retAddr 0] [] h sz := by
    intro hc
    obtain ⟨k, hk, rfl⟩ := upto (n := 3) hc.1.1 hc.1.2 (by omega)
    obtain ⟨l, hl, rfl⟩ := upto (n := 3) hc.2.1 hc.2.2 (by omega)
    have ok4 := hd.2.2.2 k (by omega)
    have ol4 := hd.2.2.2 l (by omega)
    have ek := am.1 k (by omega)
    have em := am.1 l (by omega)
    have es : sN (nI k) = k := nI_clamp (by omega)
    have el : sN (nI l) = l := nI_clamp (by omega)
    have hkz : th k = 0 ↔ d_fo d k = -1 := by rw [ek.1]; by_cases z : d_fo d k = -1; (rw [if_pos z]; exact ⟨fun _ => z, fun _ => rfl⟩); (rw [if_neg z]; exact ⟨fun y => absurd y (by decide), fun y => absurd y z⟩)
    have hlz : th l = 0 ↔ d_fo d l = -1 := by rw [em.1]; by_cases z : d_fo d l = -1; (rw [if_pos z]; exact ⟨fun _ => z, fun _ => rfl⟩); (rw [if_neg z]; exact ⟨fun y => absurd y (by decide), fun y => absurd y z⟩)
    rw [dCopy, aCopy, if_pos hc, if_pos hc, es, el]
    have J117 : holD d k l i j n → Ex Γ mX10_copy (gx_Z Γ mX10_copy (qM h sz (dSx d l (d_fo d l) (d_si d l) (va_cpy (d_it d k) (d_it d l) (sN i) (sN j) (sN n))) 1)) 0 0 117 [.ref 57, .int (nI k), .int i, .int (nI l), .int j, .int n, .retAddr 0] [] h sz := by
      rintro ⟨⟨z1, z2, z3⟩, z4, -, z5⟩
      obtain ⟨a, ha, rfl⟩ := nI_of (Int32.not_lt.mpr z1)
      obtain ⟨b, hb, rfl⟩ := nI_of (Int32.not_lt.mpr z4)
      obtain ⟨c, hc, rfl⟩ := nI_of (Int32.not_lt.mpr z2)
      have ea : sN (nI a) = a := nI_clamp ha
      have eb : sN (nI b) = b := nI_clamp hb
      have ec : sN (nI c) = c := nI_clamp hc
      rw [ea, ec] at z3
      rw [eb, ec] at z5
      rw [ea, eb, ec]
      have J157 : Ex Γ mX10_copy (gx_Z Γ mX10_copy (qM h sz (dSx d l (d_fo d l) (d_si d l) (va_cpy (d_it d k) (d_it d l) a b c)) 1)) 0 0 157 [.ref 57, .int (nI k), .int (nI a), .int (nI l), .int (nI b), .int (nI c), .int (nI 0)] [] (va_up h 84 (ia 48 (filG mv (fun p => it (48 * k + a + p)) c))) sz := by
        refine x_eq rfl rfl (show _ = va_up (va_up h 84 (ia 48 (filG mv (fun p => it (48 * k + a + p)) c))) 83 (ia 192 (blkG it (48 * l + b) (fun p => it (48 * k + a + p)) 0)) from by rw [blkG_0, up_id ((up_ne (by decide)).trans a83)]) (loopUp (P := fun p => Ex Γ mX10_copy _ 0 0 157 [.ref 57, .int (nI k), .int (nI a), .int (nI l), .int (nI b), .int (nI c), .int (nI p)] [] (va_up (va_up h 84 (ia 48 (filG mv (fun p => it (48 * k + a + p)) c))) 83 (ia 192 (blkG it (48 * l + b) (fun p => it (48 * k + a + p)) p))) sz) c ?_ (fun p hp ih => ?_) 0 (Nat.zero_le _))
        · refine x_iload dX10_copy_157 rfl ?_
          refine x_iload dX10_copy_159 rfl ?_
          refine x_icmp_ge dX10_copy_161 (fun b161 => ?_) (fun b161 => ?_)
          · refine x_k dX10_copy_192 ?_
            refine x_iret (ty := .int) dX10_copy_193 rfl rfl (Nat.zero_le _) (Nat.zero_le _) ?_
            refine ⟨rfl, rfl, hM.put (g := (upd (d_fo d) l (d_fo d l), upd (d_si d) l (d_si d l), fun t => if t = l then va_cpy (d_it d k) (d_it d l) a b c else d_it d t)) (fun j j1 j2 => by simp only [va_up]; (repeat' split) <;> first | rfl | omega) a57 a80 a81 (by rw [up_ne (by decide), up_ne (by decide), a82]; congr 4; funext j; simp only [upd]; split; (rename_i z; rw [z]); rfl) rfl rfl (am.to (s := l) (fun t ht e => ⟨rfl, rfl⟩) em.1 em.2 (fun t ht e i hi => if_neg (by omega)) (fun x hx => ?_)), (by intro k hk; simp only [va_up]; (repeat' split) <;> first | rfl | omega)⟩
            simp only [blkG, va_cpy]
            by_cases e : b ≤ x ∧ x < b + c
            · rw [if_pos (by omega), if_pos e, ← am.2 k (by omega) (a + (x - b)) (by omega)]
              congr 1; omega
            · rw [if_neg (by omega), if_neg e]; exact am.2 l (by omega) x hx
          · exact absurd (Int32.le_refl _) b161
        · refine x_iload dX10_copy_157 rfl ?_
          refine x_iload dX10_copy_159 rfl ?_
          refine x_icmp_ge dX10_copy_161 (fun b161 => ?_) (fun b161 => ?_)
          · exact absurd b161 (nI_ge hp (by omega))
          · refine x_aload dX10_copy_164 rfl ?_
            refine x_get fX10_86 dX10_copy_165 (by first | assumption | rfl | exact up_same | exact (up_ne (by omega)).trans (by assumption) | exact (up_ne (by assumption)).trans (by assumption)) ?_
            refine x_k dX10_copy_168 ?_
            refine x_iload dX10_copy_170 rfl ?_
            refine x_imul dX10_copy_171 ?_
            refine x_iload dX10_copy_172 rfl ?_
            refine x_iadd dX10_copy_174 ?_
            rw [ix48]
            refine x_iload dX10_copy_175 rfl ?_
            refine x_iadd dX10_copy_177 ?_
            rw [nI_add]
            refine x_aload dX10_copy_178 rfl ?_
            refine x_get fX10_89 dX10_copy_179 (by first | assumption | rfl | exact up_same | exact (up_ne (by omega)).trans (by assumption) | exact (up_ne (by assumption)).trans (by assumption)) ?_
            refine x_iload dX10_copy_182 rfl ?_
            refine x_ialdn dX10_copy_184 (by first | assumption | rfl | exact up_same | exact (up_ne (by omega)).trans (by assumption) | exact (up_ne (by assumption)).trans (by assumption)) ⟨by first | omega | decide, by decide⟩ ?_
            refine x_iastn dX10_copy_185 (by first | assumption | rfl | exact up_same | exact (up_ne (by omega)).trans (by assumption) | exact (up_ne (by assumption)).trans (by assumption)) ⟨by first | omega | decide, by decide⟩ ?_
            refine x_inc1 dX10_copy_186 rfl (Nat.le_of_ble_eq_true rfl) rfl ?_
            refine x_goto dX10_copy_189 ?_
            rw [up_up, blkG_s _ _ (fun p => it (48 * k + a + p)) p (by rw [filG_lt hp])]
            exact ih
      refine x_k dX10_copy_117 ?_
      refine x_istore dX10_copy_118 (Nat.le_of_ble_eq_true rfl) rfl ?_
      refine x_eq rfl rfl (show h = va_up h 84 (ia 48 (filG mv (fun p => it (48 * k + a + p)) 0)) by rw [filG_0, up_id a84]) (loopUp (P := fun p => Ex Γ mX10_copy _ 0 0 120 [.ref 57, .int (nI k), .int (nI a), .int (nI l), .int (nI b), .int (nI c), .int (nI p)] [] (va_up h 84 (ia 48 (filG mv (fun p => it (48 * k + a + p)) p))) sz) c ?_ (fun p hp ih => ?_) 0 (Nat.zero_le _))
      · refine x_iload dX10_copy_120 rfl ?_
        refine x_iload dX10_copy_122 rfl ?_
        refine x_icmp_ge dX10_copy_124 (fun b124 => ?_) (fun b124 => ?_)
        · refine x_k dX10_copy_154 ?_
          refine x_istore dX10_copy_155 (Nat.le_of_ble_eq_true rfl) rfl ?_
          exact J157
        · exact absurd (Int32.le_refl _) b124
      · refine x_iload dX10_copy_120 rfl ?_
        refine x_iload dX10_copy_122 rfl ?_
        refine x_icmp_ge dX10_copy_124 (fun b124 => ?_) (fun b124 => ?_)
        · exact absurd b124 (nI_ge hp (by omega))
        · refine x_aload dX10_copy_127 rfl ?_
          refine x_get fX10_89 dX10_copy_128 (by first | assumption | rfl | exact up_same | exact (up_ne (by omega)).trans (by assumption) | exact (up_ne (by assumption)).trans (by assumption)) ?_
          refine x_iload dX10_copy_131 rfl ?_
          refine x_aload dX10_copy_133 rfl ?_
          refine x_get fX10_86 dX10_copy_134 (by first | assumption | rfl | exact up_same | exact (up_ne (by omega)).trans (by assumption) | exact (up_ne (by assumption)).trans (by assumption)) ?_
          refine x_k dX10_copy_137 ?_
          refine x_iload dX10_copy_139 rfl ?_
          refine x_imul dX10_copy_140 ?_
          refine x_iload dX10_copy_141 rfl ?_
          refine x_iadd dX10_copy_142 ?_
          rw [ix48]
          refine x_iload dX10_copy_143 rfl ?_
          refine x_iadd dX10_copy_145 ?_
          rw [nI_add]
          refine x_ialdn dX10_copy_146 (by first | assumption | rfl | exact up_same | exact (up_ne (by omega)).trans (by assumption) | exact (up_ne (by assumption)).trans (by assumption)) ⟨by first | omega | decide, by decide⟩ ?_
          refine x_iastn dX10_copy_147 (by first | assumption | rfl | exact up_same | exact (up_ne (by omega)).trans (by assumption) | exact (up_ne (by assumption)).trans (by assumption)) ⟨by first | omega | decide, by decide⟩ ?_
          refine x_inc1 dX10_copy_148 rfl (Nat.le_of_ble_eq_true rfl) rfl ?_
          refine x_goto dX10_copy_151 ?_
          rw [up_up, filG_id _ (fun p => it (48 * k + a + p)) p rfl]
          exact ih
    have J111 : ¬ holD d k l i j n → Ex Γ mX10_copy (gx_Z Γ mX10_copy (qM h sz (dFi d 2) (-12))) 0 0 111 [.ref 57, .int (nI k), .int i, .int (nI l), .int j, .int n, .retAddr 0] [] h sz := by
      intro hy
      refine x_aload dX10_copy_111 rfl ?_
      refine x_k dX10_copy_112 ?_
      refine x_V1q lX10_146 (Rm.of rfl) (cc1 := 0) (cn1 := 0) rfl rfl (Nat.le_of_ble_eq_true rfl) dX10_copy_113 (by first | assumption | rfl | exact up_same | exact (up_ne (by omega)).trans (by assumption) | exact (up_ne (by assumption)).trans (by assumption)) (m_meets 2 hM) ?_
      rintro _ h2 _ hq
      have hq2 := hq
      obtain ⟨rfl, -⟩ := hq
      refine x_iret (ty := .int) dX10_copy_116 rfl rfl (Nat.zero_le _) (Nat.zero_le _) ?_
      exact hq2
    have J62 : Ex Γ mX10_copy (gx_Z Γ mX10_copy (qM h sz (if holD d k l i j n then dSx d l (d_fo d l) (d_si d l) (va_cpy (d_it d k) (d_it d l) (sN i) (sN j) (sN n)) else dFi d 2) (if holD d k l i j n then 1 else -12))) 0 0 62 [.ref 57, .int (nI k), .int i, .int (nI l), .int j, .int n, .retAddr 0] [] h sz := by
      refine x_iload dX10_copy_62 rfl ?_
      refine x_if_lt dX10_copy_63 (fun b63 => ?_) (fun b63 => ?_)
      · have hy : ¬ holD d k l i j n := by
          rintro ⟨y1, y2⟩
          first
            | exact b108 ((hol_lg ol4.2.1 ol4.2.2 b68 b73).mpr y2)
            | exact Int32.not_lt.mpr ((hol_lg ok4.2.1 ok4.2.2 b63 b73).mpr y1) b90
            | exact Int32.not_lt.mpr y1.2.1 b73
            | exact Int32.not_lt.mpr y2.1 b68
            | exact Int32.not_lt.mpr y1.1 b63
        rw [if_neg hy, if_neg hy]; exact J111 hy
      · refine x_iload dX10_copy_66 rfl ?_
        refine x_if_lt dX10_copy_68 (fun b68 => ?_) (fun b68 => ?_)
        · have hy : ¬ holD d k l i j n := by
            rintro ⟨y1, y2⟩
            first
              | exact b108 ((hol_lg ol4.2.1 ol4.2.2 b68 b73).mpr y2)
              | exact Int32.not_lt.mpr ((hol_lg ok4.2.1 ok4.2.2 b63 b73).mpr y1) b90
              | exact Int32.not_lt.mpr y1.2.1 b73
              | exact Int32.not_lt.mpr y2.1 b68
              | exact Int32.not_lt.mpr y1.1 b63
          rw [if_neg hy, if_neg hy]; exact J111 hy
        · refine x_iload dX10_copy_71 rfl ?_
          refine x_if_lt dX10_copy_73 (fun b73 => ?_) (fun b73 => ?_)
          · have hy : ¬ holD d k l i j n := by
              rintro ⟨y1, y2⟩
              first
                | exact b108 ((hol_lg ol4.2.1 ol4.2.2 b68 b73).mpr y2)
                | exact Int32.not_lt.mpr ((hol_lg ok4.2.1 ok4.2.2 b63 b73).mpr y1) b90
                | exact Int32.not_lt.mpr y1.2.1 b73
                | exact Int32.not_lt.mpr y2.1 b68
                | exact Int32.not_lt.mpr y1.1 b63
            rw [if_neg hy, if_neg hy]; exact J111 hy
          · refine x_iload dX10_copy_76 rfl ?_
            refine x_i2l dX10_copy_77 ?_
            refine x_iload dX10_copy_78 rfl ?_
            refine x_i2l dX10_copy_80 ?_
            refine x_ladd dX10_copy_81 ?_
            refine x_aload dX10_copy_82 rfl ?_
            refine x_get fX10_83 dX10_copy_83 (by first | assumption | rfl | exact up_same | exact (up_ne (by omega)).trans (by assumption) | exact (up_ne (by assumption)).trans (by assumption)) ?_
            refine x_iload dX10_copy_86 rfl ?_
            refine x_ialdn dX10_copy_87 (by first | assumption | rfl | exact up_same | exact (up_ne (by omega)).trans (by assumption) | exact (up_ne (by assumption)).trans (by assumption)) ⟨by first | omega | decide, by decide⟩ ?_
            refine x_i2l dX10_copy_88 ?_
            refine x_lcmp dX10_copy_89 ?_
            refine x_if_gt dX10_copy_90 (fun b90 => ?_) (fun b90 => ?_)
            · have hy : ¬ holD d k l i j n := by
                rintro ⟨y1, y2⟩
                first
                  | exact b108 ((hol_lg ol4.2.1 ol4.2.2 b68 b73).mpr y2)
                  | exact Int32.not_lt.mpr ((hol_lg ok4.2.1 ok4.2.2 b63 b73).mpr y1) b90
                  | exact Int32.not_lt.mpr y1.2.1 b73
                  | exact Int32.not_lt.mpr y2.1 b68
                  | exact Int32.not_lt.mpr y1.1 b63
              rw [if_neg hy, if_neg hy]; exact J111 hy
            · refine x_iload dX10_copy_93 rfl ?_
              refine x_i2l dX10_copy_95 ?_
              refine x_iload dX10_copy_96 rfl ?_
              refine x_i2l dX10_copy_98 ?_
              refine x_ladd dX10_copy_99 ?_
              refine x_aload dX10_copy_100 rfl ?_
              refine x_get fX10_83 dX10_copy_101 (by first | assumption | rfl | exact up_same | exact (up_ne (by omega)).trans (by assumption) | exact (up_ne (by assumption)).trans (by assumption)) ?_
              refine x_iload dX10_copy_104 rfl ?_
              refine x_ialdn dX10_copy_105 (by first | assumption | rfl | exact up_same | exact (up_ne (by omega)).trans (by assumption) | exact (up_ne (by assumption)).trans (by assumption)) ⟨by first | omega | decide, by decide⟩ ?_
              refine x_i2l dX10_copy_106 ?_
              refine x_lcmp dX10_copy_107 ?_
              refine x_if_le dX10_copy_108 (fun b108 => ?_) (fun b108 => ?_)
              · have hy : holD d k l i j n := ⟨(hol_lg ok4.2.1 ok4.2.2 b63 b73).mp (Int32.not_lt.mp b90), (hol_lg ol4.2.1 ol4.2.2 b68 b73).mp b108⟩
                rw [if_pos hy, if_pos hy]; exact J117 hy
              · have hy : ¬ holD d k l i j n := by
                  rintro ⟨y1, y2⟩
                  first
                    | exact b108 ((hol_lg ol4.2.1 ol4.2.2 b68 b73).mpr y2)
                    | exact Int32.not_lt.mpr ((hol_lg ok4.2.1 ok4.2.2 b63 b73).mpr y1) b90
                    | exact Int32.not_lt.mpr y1.2.1 b73
                    | exact Int32.not_lt.mpr y2.1 b68
                    | exact Int32.not_lt.mpr y1.1 b63
                rw [if_neg hy, if_neg hy]; exact J111 hy
    have J35 : (d_fo d k = -1 ∨ d_fo d l = -1) → Ex Γ mX10_copy (gx_Z Γ mX10_copy (qM h sz (dFi d 1) (-11))) 0 0 35 [.ref 57, .int (nI k), .int i, .int (nI l), .int j, .int n, .retAddr 0] [] h sz := by
      intro hy
      refine x_aload dX10_copy_35 rfl ?_
      refine x_k dX10_copy_36 ?_
      refine x_V1q lX10_146 (Rm.of rfl) (cc1 := 0) (cn1 := 0) rfl rfl (Nat.le_of_ble_eq_true rfl) dX10_copy_37 (by first | assumption | rfl | exact up_same | exact (up_ne (by omega)).trans (by assumption) | exact (up_ne (by assumption)).trans (by assumption)) (m_meets 1 hM) ?_
      rintro _ h2 _ hq
      have hq2 := hq
      obtain ⟨rfl, -⟩ := hq
      refine x_iret (ty := .int) dX10_copy_40 rfl rfl (Nat.zero_le _) (Nat.zero_le _) ?_
      exact hq2
    refine x_aload dX10_copy_17 rfl ?_
    refine x_get fX10_76 dX10_copy_18 (by first | assumption | rfl | exact up_same | exact (up_ne (by omega)).trans (by assumption) | exact (up_ne (by assumption)).trans (by assumption)) ?_
    refine x_iload dX10_copy_21 rfl ?_
    refine x_zaldn dX10_copy_22 (by first | assumption | rfl | exact up_same | exact (up_ne (by omega)).trans (by assumption) | exact (up_ne (by assumption)).trans (by assumption)) ⟨by first | omega | decide, by decide⟩ ?_
    refine x_if_eq dX10_copy_23 (fun b23 => ?_) (fun b23 => ?_)
    · have hz : d_fo d k = -1 ∨ d_fo d l = -1 := by
        first
          | exact Or.inr (hlz.mp (Classical.not_not.mp b32))
          | exact Or.inl (hkz.mp b23)
      rw [if_pos hz, if_pos hz]; exact J35 hz
    · refine x_aload dX10_copy_26 rfl ?_
      refine x_get fX10_76 dX10_copy_27 (by first | assumption | rfl | exact up_same | exact (up_ne (by omega)).trans (by assumption) | exact (up_ne (by assumption)).trans (by assumption)) ?_
      refine x_iload dX10_copy_30 rfl ?_
      refine x_zaldn dX10_copy_31 (by first | assumption | rfl | exact up_same | exact (up_ne (by omega)).trans (by assumption) | exact (up_ne (by assumption)).trans (by assumption)) ⟨by first | omega | decide, by decide⟩ ?_
      refine x_if_ne dX10_copy_32 (fun b32 => ?_) (fun b32 => ?_)
      · refine x_aload dX10_copy_41 rfl ?_
        refine x_get fX10_80 dX10_copy_42 (by first | assumption | rfl | exact up_same | exact (up_ne (by omega)).trans (by assumption) | exact (up_ne (by assumption)).trans (by assumption)) ?_
        refine x_iload dX10_copy_45 rfl ?_
        refine x_ialdn dX10_copy_46 (by first | assumption | rfl | exact up_same | exact (up_ne (by omega)).trans (by assumption) | exact (up_ne (by assumption)).trans (by assumption)) ⟨by first | omega | decide, by decide⟩ ?_
        refine x_aload dX10_copy_47 rfl ?_
        refine x_get fX10_80 dX10_copy_48 (by first | assumption | rfl | exact up_same | exact (up_ne (by omega)).trans (by assumption) | exact (up_ne (by assumption)).trans (by assumption)) ?_
        refine x_iload dX10_copy_51 rfl ?_
        refine x_ialdn dX10_copy_52 (by first | assumption | rfl | exact up_same | exact (up_ne (by omega)).trans (by assumption) | exact (up_ne (by assumption)).trans (by assumption)) ⟨by first | omega | decide, by decide⟩ ?_
        refine x_icmp_eq dX10_copy_53 (fun b53 => ?_) (fun b53 => ?_)
        · have y1 : d_fo d k ≠ -1 := fun z => b23 (hkz.mpr z)
          have y2 : d_fo d l ≠ -1 := fun z => b32 (hlz.mpr z)
          have hz : ¬ (d_fo d k = -1 ∨ d_fo d l = -1) := fun z => z.elim y1 y2
          rw [ek.2 y1, em.2 y2] at b53
          rw [if_neg hz, if_neg hz, if_pos b53, if_pos b53]; exact J62
        · refine x_aload dX10_copy_56 rfl ?_
          refine x_k dX10_copy_57 ?_
          refine x_V1q lX10_146 (Rm.of rfl) (cc1 := 0) (cn1 := 0) rfl rfl (Nat.le_of_ble_eq_true rfl) dX10_copy_58 (by first | assumption | rfl | exact up_same | exact (up_ne (by omega)).trans (by assumption) | exact (up_ne (by assumption)).trans (by assumption)) (m_meets 4 hM) ?_
          rintro _ h2 _ hq
          have hq2 := hq
          obtain ⟨rfl, -⟩ := hq
          refine x_iret (ty := .int) dX10_copy_61 rfl rfl (Nat.zero_le _) (Nat.zero_le _) ?_
          have y1 : d_fo d k ≠ -1 := fun z => b23 (hkz.mpr z)
          have y2 : d_fo d l ≠ -1 := fun z => b32 (hlz.mpr z)
          have hz : ¬ (d_fo d k = -1 ∨ d_fo d l = -1) := fun z => z.elim y1 y2
          rw [ek.2 y1, em.2 y2] at b53
          rw [if_neg hz, if_neg hz, if_neg b53, if_neg b53]; exact hq2
      · have hz : d_fo d k = -1 ∨ d_fo d l = -1 := by
          first
            | exact Or.inr (hlz.mp (Classical.not_not.mp b32))
            | exact Or.inl (hkz.mp b23)
        rw [if_pos hz, if_pos hz]; exact J35 hz
  refine x_iload dX10_copy_0 rfl ?_
  refine x_S1i lX10_143 (Rm.of rfl) (cc1 := 0) (cn1 := 0) rfl rfl (Nat.le_of_ble_eq_true rfl) dX10_copy_1 (r_isSheet s) ?_
  refine x_if_eq dX10_copy_4 (fun b4 => ?_) (fun b4 => ?_)
  · try simp only [i01, Classical.not_not] at b4
    refine x_k dX10_copy_14 ?_
    refine x_iret (ty := .int) dX10_copy_16 rfl rfl (Nat.zero_le _) (Nat.zero_le _) ?_
    have hc : ¬ (cS s ∧ cS t) := by
      rintro ⟨y1, y2⟩
      first
        | exact b11 y2
        | exact b4 y1
    rw [dCopy, aCopy, if_neg hc, if_neg hc]
    exact ⟨rfl, rfl, hM, fun _ _ => rfl⟩
  · try simp only [i01, Classical.not_not] at b4
    refine x_iload dX10_copy_7 rfl ?_
    refine x_S1i lX10_143 (Rm.of rfl) (cc1 := 0) (cn1 := 0) rfl rfl (Nat.le_of_ble_eq_true rfl) dX10_copy_8 (r_isSheet t) ?_
    refine x_if_ne dX10_copy_11 (fun b11 => ?_) (fun b11 => ?_)
    · try simp only [i01, Classical.not_not] at b11
      exact J17 ⟨b4, b11⟩
    · try simp only [i01, Classical.not_not] at b11
      refine x_k dX10_copy_14 ?_
      refine x_iret (ty := .int) dX10_copy_16 rfl rfl (Nat.zero_le _) (Nat.zero_le _) ?_
      have hc : ¬ (cS s ∧ cS t) := by
        rintro ⟨y1, y2⟩
        first
          | exact b11 y2
          | exact b4 y1
      rw [dCopy, aCopy, if_neg hc, if_neg hc]
      exact ⟨rfl, rfl, hM, fun _ _ => rfl⟩
end Cpy
