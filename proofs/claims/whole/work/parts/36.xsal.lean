/-! the class: law, sale, undo -/
theorem n7 : (7 : Int32).toInt = 7 := by decide
theorem n8 : (8 : Int32).toInt = 8 := by decide
theorem n0t : (0 : Int32).toInt = 0 := by decide
theorem tb_of {b : Bool} (h : ¬ b = false) : b = true := by
  cases b
  · exact absurd rfl h
  · rfl
section XSal
variable {Γ : GX} {h : Hp} {sz : Nat} {d d0 : DT}
theorem XA.of {h' : Hp} (hA : XA h d) (e : ∀ k, 5 ≤ k → k ≤ 56 → k ≠ 28 → k ≠ 37 → k ≠ 39 → h' k = h k) : XA h' d := by
  have hE := hA.E.of (fun k k1 k2 k3 k4 k5 => e k (by omega) k2 k3 k4 k5)
  obtain ⟨ow, pr, od, kd, sp, ins, ⟨a5, a6, a7, a8, a9⟩, ⟨a10, a11, a12, a13, a14, a15, a16⟩, -, -, -, -, a⟩ := hA
  refine ⟨ow, pr, od, kd, sp, ins, ⟨(e 5 (by decide) (by decide) (by decide) (by decide) (by decide)).trans a5, (e 6 (by decide) (by decide) (by decide) (by decide) (by decide)).trans a6, (e 7 (by decide) (by decide) (by decide) (by decide) (by decide)).trans a7, (e 8 (by decide) (by decide) (by decide) (by decide) (by decide)).trans a8, (e 9 (by decide) (by decide) (by decide) (by decide) (by decide)).trans a9⟩, ⟨(e 10 (by decide) (by decide) (by decide) (by decide) (by decide)).trans a10, (e 11 (by decide) (by decide) (by decide) (by decide) (by decide)).trans a11, (e 12 (by decide) (by decide) (by decide) (by decide) (by decide)).trans a12, (e 13 (by decide) (by decide) (by decide) (by decide) (by decide)).trans a13, (e 14 (by decide) (by decide) (by decide) (by decide) (by decide)).trans a14, (e 15 (by decide) (by decide) (by decide) (by decide) (by decide)).trans a15, (e 16 (by decide) (by decide) (by decide) (by decide) (by decide)).trans a16⟩, hE.1, hE.2.1, hE.2.2.1, hE.2.2.2, a⟩
theorem x_recountW (hA : XA h d) (hL : XL h d) (hR : XR h sz d0) (hD : XD h sz d0) : Rn Γ mX9_recount [.ref 4] h sz (fun r h' sz' => r = none ∧ sz = sz' ∧ XW h' sz d ∧ frX h h') := by
  obtain ⟨ss, so, dn, ln, f, g, kf, tf, l4, l20, l21, l22, l23, l24⟩ := hL
  refine (x_recount l4 hR hD).mono ?_
  rintro _ h1 _ ⟨rfl, rfl, g4, gR, ge⟩
  exact ⟨rfl, rfl, ⟨hA.of (fun k k1 k2 k3 k4 k5 => ge k (by omega) k3 k4 k5), ⟨0, so, dn, ln, f, g, kf, tf, g4, (ge 20 (by decide) (by decide) (by decide) (by decide)).trans l20, (ge 21 (by decide) (by decide) (by decide) (by decide)).trans l21, (ge 22 (by decide) (by decide) (by decide) (by decide)).trans l22, (ge 23 (by decide) (by decide) (by decide) (by decide)).trans l23, (ge 24 (by decide) (by decide) (by decide) (by decide)).trans l24, Or.inl rfl⟩, (gR d).1, (gR d).2⟩, fun k hk => ge k (by omega) (by omega) (by omega) (by omega)⟩
theorem ok_sale (a b : Int32) (hd : okD d) : okD (dSale d a b) := by
  rw [dSale]
  by_cases hc : cEight a b
  · rw [if_pos hc]
    by_cases hf : d_ns d < 12
    · rw [if_pos hf]
      obtain ⟨x, hx, rfl⟩ := upto (n := 7) hc.1.1 hc.1.2 (by omega)
      obtain ⟨y, hy, rfl⟩ := upto (n := 7) hc.2.1 hc.2.2 (by omega)
      refine ⟨hd.1, ⟨hd.2.1.1, (by show d_ns d + 1 ≤ 12; omega), fun i hi => ?_⟩, hd.2.2⟩
      have hi : i < d_ns d + 1 := hi
      show (upd (d_sh d) (d_ns d) (nI x) i = nI (cN (upd (d_sh d) (d_ns d) (nI x)) i) ∧ cN (upd (d_sh d) (d_ns d) (nI x)) i < 8) ∧ upd (d_sb d) (d_ns d) (nI y) i = nI (cN (upd (d_sb d) (d_ns d) (nI y)) i) ∧ cN (upd (d_sb d) (d_ns d) (nI y)) i < 8
      simp only [cN, upd]
      by_cases e : i = d_ns d
      · rw [if_pos e, if_pos e, nI_clamp (by omega), nI_clamp (by omega)]
        exact ⟨⟨rfl, by omega⟩, rfl, by omega⟩
      · rw [if_neg e, if_neg e]
        exact hd.2.1.2.2 i (by omega)
    · rw [if_neg hf]; exact hd
  · rw [if_neg hc]; exact hd
theorem ok_undo (hd : okD d) : okD (dUndo d) := by
  rw [dUndo]
  split
  · exact hd
  · have := hd.2.1.2.1
    exact ⟨hd.1, ⟨hd.2.1.1, (by show d_ns d - 1 ≤ 12; omega), fun i hi => hd.2.1.2.2 i (by have hi : i < d_ns d - 1 := hi; omega)⟩, hd.2.2⟩
theorem c_sale (a b : Int32) (hX : XW h sz d) (hd : okD d) : Rn Γ mX9_sale [.ref 4, .int a, .int b] h sz (qW h sz (dSale d a b) (aSale d a b)) := by
  refine x_enter 0 (by decide) rfl ?_
  obtain ⟨hA, hK, hR, hD⟩ := id hX
  obtain ⟨ow, pr, od, kd, sp, ins, a1, a2, ⟨a17, a18, a19⟩, a4, a5, a6, a7⟩ := id hA
  obtain ⟨ss, so, dn, ln, f, g, kf, tf, l4, l20, l21, l22, l23, l24⟩ := hK.L
  have hns := hd.2.1.2.1
  have J17 : cEight a b → Ex Γ mX9_sale (gx_Z Γ mX9_sale (qW h sz (dSale d a b) (aSale d a b))) 0 0 17 [.ref 4, .int a, .int b] [] h sz := by
    intro hc
    by_cases hf : d_ns d < 12
    · rw [dSale, aSale, if_pos hc, if_pos hc, if_pos hf, if_pos hf]
      refine x_aload dX9_sale_17 rfl ?_
      refine x_get fX9_28 dX9_sale_18 (by first | assumption | rfl) ?_
      refine x_iload dX9_sale_21 rfl ?_
      refine x_iload dX9_sale_22 rfl ?_
      refine x_V2i lX9_140 (Rm.of rfl) (cc1 := 0) (cn1 := 0) rfl rfl (Nat.le_of_ble_eq_true rfl) dX9_sale_23 (by first | assumption | rfl) (r_Stakes a17 a18 a19 hf) ?_
      refine x_if_ne dX9_sale_26 (fun b26 => ?_) (fun b26 => ?_)
      · try simp only [i01, Classical.not_not] at b26
        refine x_aload dX9_sale_32 rfl ?_
        refine x_V0q lX9_134 (Rm.of rfl) (cc1 := 0) (cn1 := 0) rfl rfl (Nat.le_of_ble_eq_true rfl) dX9_sale_33 (by first | assumption | rfl) (x_recountW (d := dLs d (d_L d) (d_ns d + 1) (upd (d_sh d) (d_ns d) a) (upd (d_sb d) (d_ns d) b)) (d0 := d) ⟨ow, pr, od, kd, sp, ins, a1, a2, ⟨rfl, rfl, rfl⟩, a4, a5, a6, a7⟩ ⟨ss, so, dn, ln, f, g, kf, tf, l4, l20, l21, l22, l23, l24⟩ (hR.of (fun k hk => by simp only [va_up]; (repeat' split) <;> first | rfl | omega)) (hD.of (fun k hk => by simp only [va_up]; (repeat' split) <;> first | rfl | omega))) ?_
        rintro _ h2 _ ⟨rfl, rfl, hX2, hF2⟩
        obtain ⟨ss2, u4⟩ := hX2.2.1.w4
        obtain ⟨⟨u17, -⟩, -⟩ := hX2.1.E
        refine x_aload dX9_sale_36 rfl ?_
        refine x_get fX9_28 dX9_sale_37 (by first | assumption | rfl) ?_
        refine x_get fX9_143 dX9_sale_40 (by first | assumption | rfl) ?_
        refine x_iret (ty := .int) dX9_sale_43 rfl rfl (Nat.zero_le _) (Nat.zero_le _) ?_
        exact ⟨rfl, Nat.le_refl _, hX2, fun k hk => (hF2 k hk).trans (by simp only [va_up]; (repeat' split) <;> first | rfl | omega)⟩
      · exact absurd b26 (by decide)
    · rw [dSale, aSale, if_pos hc, if_pos hc, if_neg hf, if_neg hf]
      have e12 : d_ns d = 12 := by omega
      rw [e12] at a17
      refine x_aload dX9_sale_17 rfl ?_
      refine x_get fX9_28 dX9_sale_18 (by first | assumption | rfl) ?_
      refine x_iload dX9_sale_21 rfl ?_
      refine x_iload dX9_sale_22 rfl ?_
      refine x_V2i lX9_140 (Rm.of rfl) (cc1 := 0) (cn1 := 0) rfl rfl (Nat.le_of_ble_eq_true rfl) dX9_sale_23 (by first | assumption | rfl) (r_Sfull a17) ?_
      refine x_if_ne dX9_sale_26 (fun b26 => ?_) (fun b26 => ?_)
      · exact absurd b26 (by decide)
      · try simp only [i01, Classical.not_not] at b26
        refine x_k dX9_sale_29 ?_
        refine x_iret (ty := .int) dX9_sale_31 rfl rfl (Nat.zero_le _) (Nat.zero_le _) ?_
        exact ⟨rfl, Nat.le_refl _, hX, fun _ _ => rfl⟩
  refine x_iload dX9_sale_0 rfl ?_
  refine x_S1i lX9_137 (Rm.of rfl) (cc1 := 0) (cn1 := 0) rfl rfl (Nat.le_of_ble_eq_true rfl) dX9_sale_1 (r_noNumber a) ?_
  refine x_if_ne dX9_sale_4 (fun b4 => ?_) (fun b4 => ?_)
  · try simp only [i01, Classical.not_not] at b4
    refine x_k dX9_sale_14 ?_
    refine x_iret (ty := .int) dX9_sale_16 rfl rfl (Nat.zero_le _) (Nat.zero_le _) ?_
    have hc : ¬ cEight a b := by simp only [cEight, Int32.lt_iff_toInt_lt, Int32.le_iff_toInt_le, n0t, n7, n8] at *; omega
    rw [dSale, aSale, if_neg hc, if_neg hc]
    exact ⟨rfl, Nat.le_refl _, hX, fun _ _ => rfl⟩
  · try simp only [i01, Classical.not_not] at b4
    refine x_iload dX9_sale_7 rfl ?_
    refine x_S1i lX9_137 (Rm.of rfl) (cc1 := 0) (cn1 := 0) rfl rfl (Nat.le_of_ble_eq_true rfl) dX9_sale_8 (r_noNumber b) ?_
    refine x_if_eq dX9_sale_11 (fun b11 => ?_) (fun b11 => ?_)
    · try simp only [i01, Classical.not_not] at b11
      exact J17 (by simp only [cEight, Int32.lt_iff_toInt_lt, Int32.le_iff_toInt_le, n0t, n7, n8] at *; omega)
    · try simp only [i01, Classical.not_not] at b11
      refine x_k dX9_sale_14 ?_
      refine x_iret (ty := .int) dX9_sale_16 rfl rfl (Nat.zero_le _) (Nat.zero_le _) ?_
      have hc : ¬ cEight a b := by simp only [cEight, Int32.lt_iff_toInt_lt, Int32.le_iff_toInt_le, n0t, n7, n8] at *; omega
      rw [dSale, aSale, if_neg hc, if_neg hc]
      exact ⟨rfl, Nat.le_refl _, hX, fun _ _ => rfl⟩
theorem c_undo (hX : XW h sz d) (hd : okD d) : Rn Γ mX9_undo [.ref 4] h sz (qW h sz (dUndo d) (aUndo d)) := by
  refine x_enter 0 (by decide) rfl ?_
  obtain ⟨hA, hK, hR, hD⟩ := id hX
  obtain ⟨ow, pr, od, kd, sp, ins, a1, a2, ⟨a17, a18, a19⟩, a4, a5, a6, a7⟩ := id hA
  obtain ⟨ss, so, dn, ln, f, g, kf, tf, l4, l20, l21, l22, l23, l24⟩ := hK.L
  have hns := hd.2.1.2.1
  have hz : nI (d_ns d) = 0 ↔ d_ns d = 0 := nI_eq (b := 0) (by omega) (by omega)
  have J13 : d_ns d ≠ 0 → Ex Γ mX9_undo (gx_Z Γ mX9_undo (qW h sz (dUndo d) (aUndo d))) 0 0 13 [.ref 4] [] h sz := by
    intro hc
    have en : nI (d_ns d) - 1 = nI (d_ns d - 1) := by
      obtain ⟨n, e⟩ : ∃ n, d_ns d = n + 1 := ⟨d_ns d - 1, by omega⟩
      rw [e, nI_pred]; rfl
    rw [dUndo, aUndo, if_neg hc, if_neg hc]
    refine x_aload dX9_undo_13 rfl ?_
    refine x_get fX9_28 dX9_undo_14 (by first | assumption | rfl) ?_
    refine x_dup dX9_undo_17 rfl ?_
    refine x_get fX9_143 dX9_undo_18 (by first | assumption | rfl) ?_
    refine x_k dX9_undo_21 ?_
    refine x_isub dX9_undo_22 ?_
    refine x_put fX9_143 tt3 gX9_143 dX9_undo_23 (by first | assumption | rfl) (Nat.le_of_ble_eq_true rfl) (w3_1 _) ?_
    refine x_eq rfl rfl (show _ = va_up h 17 (cSa (nI (d_L d)) (nI (d_ns d - 1))) by rw [← en] <;> rfl) ?_
    refine x_aload dX9_undo_26 rfl ?_
    refine x_V0q lX9_134 (Rm.of rfl) (cc1 := 0) (cn1 := 0) rfl rfl (Nat.le_of_ble_eq_true rfl) dX9_undo_27 (by first | assumption | rfl) (x_recountW (d := dLs d (d_L d) (d_ns d - 1) (d_sh d) (d_sb d)) (d0 := d) ⟨ow, pr, od, kd, sp, ins, a1, a2, ⟨rfl, a18, a19⟩, a4, a5, a6, a7⟩ ⟨ss, so, dn, ln, f, g, kf, tf, l4, l20, l21, l22, l23, l24⟩ (hR.of (fun k hk => by simp only [va_up]; (repeat' split) <;> first | rfl | omega)) (hD.of (fun k hk => by simp only [va_up]; (repeat' split) <;> first | rfl | omega))) ?_
    rintro _ h2 _ ⟨rfl, rfl, hX2, hF2⟩
    obtain ⟨ss2, u4⟩ := hX2.2.1.w4
    obtain ⟨⟨u17, -⟩, -⟩ := hX2.1.E
    refine x_aload dX9_undo_30 rfl ?_
    refine x_get fX9_28 dX9_undo_31 (by first | assumption | rfl) ?_
    refine x_get fX9_143 dX9_undo_34 (by first | assumption | rfl) ?_
    refine x_iret (ty := .int) dX9_undo_37 rfl rfl (Nat.zero_le _) (Nat.zero_le _) ?_
    exact ⟨rfl, Nat.le_refl _, hX2, fun k hk => (hF2 k hk).trans (by simp only [va_up]; (repeat' split) <;> first | rfl | omega)⟩
  refine x_aload dX9_undo_0 rfl ?_
  refine x_get fX9_28 dX9_undo_1 (by first | assumption | rfl) ?_
  refine x_get fX9_143 dX9_undo_4 (by first | assumption | rfl) ?_
  refine x_if_ne dX9_undo_7 (fun b7 => ?_) (fun b7 => ?_)
  · exact J13 (fun e => b7 (hz.mpr e))
  · refine x_k dX9_undo_10 ?_
    refine x_iret (ty := .int) dX9_undo_12 rfl rfl (Nat.zero_le _) (Nat.zero_le _) ?_
    have hc : d_ns d = 0 := by first | exact hz.mp b7 | exact hz.mp (Classical.not_not.mp b7)
    rw [dUndo, aUndo, if_pos hc, if_pos hc]
    exact ⟨rfl, Nat.le_refl _, hX, fun _ _ => rfl⟩
theorem ok_law (t v : Int32) (hd : okD d) : okD (dLaw d t v) := by
  rw [dLaw]
  by_cases hc : cLaw t v
  · rw [if_pos hc]
    obtain ⟨i, hi, rfl⟩ := upto (n := 2) hc.1.1 hc.1.2 (by omega)
    obtain ⟨j, hj, rfl⟩ := upto (n := 1) hc.2.1 hc.2.2 (by omega)
    have hm : nI j ∈ [(0 : Int32), 1] := by
      have : j = 0 ∨ j = 1 := by omega
      rcases this with rfl | rfl <;> decide
    rw [nI_clamp (by omega)]
    exact ⟨hd.1, ⟨(lawTo_lt _ hd.2.1.1 i (by omega) _ hm).1, hd.2.1.2⟩, hd.2.2⟩
  · rw [if_neg hc]; exact hd
theorem law_was : ∀ L < 8, ∀ i < 3, (nI L &&& 1 <<< (nI i &&& 31) = 0 ↔ L.testBit i = false) ∧ nI L ||| 1 <<< (nI i &&& 31) = nI (lawTo L i 1) ∧ nI L &&& (1 <<< (nI i &&& 31) ^^^ -1) = nI (lawTo L i 0) := by decide
theorem c_law (t v : Int32) (hX : XW h sz d) (hd : okD d) : Rn Γ mX9_law [.ref 4, .int t, .int v] h sz (qW h sz (dLaw d t v) (aLaw d t v)) := by
  refine x_enter 2 (by decide) rfl ?_
  obtain ⟨hA, hK, hR, hD⟩ := id hX
  obtain ⟨ow, pr, od, kd, sp, ins, a1, a2, ⟨a17, a18, a19⟩, a4, a5, a6, a7⟩ := id hA
  obtain ⟨ss, so, dn, ln, f, g, kf, tf, l4, l20, l21, l22, l23, l24⟩ := hK.L
  have J21 : cLaw t v → Ex Γ mX9_law (gx_Z Γ mX9_law (qW h sz (dLaw d t v) (aLaw d t v))) 0 0 21 [.ref 4, .int t, .int v, .retAddr 0, .retAddr 0] [] h sz := by
    intro hc
    obtain ⟨i, hi, rfl⟩ := upto (n := 2) hc.1.1 hc.1.2 (by omega)
    have hv : v = 0 ∨ v = 1 := by
      obtain ⟨j, hj, rfl⟩ := upto (n := 1) hc.2.1 hc.2.2 (by omega)
      have : j = 0 ∨ j = 1 := by omega
      rcases this with rfl | rfl
      · exact Or.inl rfl
      · exact Or.inr rfl
    obtain ⟨w1, w2, w3⟩ := law_was (d_L d) hd.2.1.1 i (by omega)
    rw [dLaw, aLaw, if_pos hc, if_pos hc, nI_clamp (by omega)]
    have J76 : Ex Γ mX9_law (gx_Z Γ mX9_law (qW h sz (dLs d (lawTo (d_L d) i v) (d_ns d) (d_sh d) (d_sb d)) (nI ((d_L d).testBit i).toNat))) 0 0 76 [.ref 4, .int (nI i), .int v, .int (1 <<< (nI i &&& 31)), .int (nI ((d_L d).testBit i).toNat)] [.int (nI (lawTo (d_L d) i v)), .ref 17] h sz := by
      refine x_put fX9_131 tt3 gX9_131 dX9_law_76 (by first | assumption | rfl) (Nat.le_of_ble_eq_true rfl) (w3_0 _) ?_
      refine x_aload dX9_law_79 rfl ?_
      refine x_V0q lX9_134 (Rm.of rfl) (cc1 := 0) (cn1 := 0) rfl rfl (Nat.le_of_ble_eq_true rfl) dX9_law_80 (by first | assumption | rfl) (x_recountW (d := dLs d (lawTo (d_L d) i v) (d_ns d) (d_sh d) (d_sb d)) (d0 := d) ⟨ow, pr, od, kd, sp, ins, a1, a2, ⟨rfl, a18, a19⟩, a4, a5, a6, a7⟩ ⟨ss, so, dn, ln, f, g, kf, tf, l4, l20, l21, l22, l23, l24⟩ (hR.of (fun k hk => by simp only [va_up]; (repeat' split) <;> first | rfl | omega)) (hD.of (fun k hk => by simp only [va_up]; (repeat' split) <;> first | rfl | omega))) ?_
      rintro _ h2 _ ⟨rfl, rfl, hX2, hF2⟩
      refine x_iload dX9_law_83 rfl ?_
      refine x_iret (ty := .int) dX9_law_85 rfl rfl (Nat.zero_le _) (Nat.zero_le _) ?_
      exact ⟨rfl, Nat.le_refl _, hX2, fun k hk => (hF2 k hk).trans (by simp only [va_up]; (repeat' split) <;> first | rfl | omega)⟩
    have J42 : Ex Γ mX9_law (gx_Z Γ mX9_law (qW h sz (dLs d (lawTo (d_L d) i v) (d_ns d) (d_sh d) (d_sb d)) (nI ((d_L d).testBit i).toNat))) 0 0 42 [.ref 4, .int (nI i), .int v, .int (1 <<< (nI i &&& 31)), .retAddr 0] [.int (nI ((d_L d).testBit i).toNat)] h sz := by
      rcases hv with rfl | rfl
      · rw [← w3] at J76
        refine x_istore dX9_law_42 (Nat.le_of_ble_eq_true rfl) rfl ?_
        refine x_aload dX9_law_44 rfl ?_
        refine x_get fX9_28 dX9_law_45 (by first | assumption | rfl) ?_
        refine x_iload dX9_law_48 rfl ?_
        refine x_k dX9_law_49 ?_
        refine x_icmp_ne dX9_law_50 (fun b50 => ?_) (fun b50 => ?_)
        · refine x_aload dX9_law_65 rfl ?_
          refine x_get fX9_28 dX9_law_66 (by first | assumption | rfl) ?_
          refine x_get fX9_131 dX9_law_69 (by first | assumption | rfl) ?_
          refine x_iload dX9_law_72 rfl ?_
          refine x_k dX9_law_73 ?_
          refine x_ixor dX9_law_74 ?_
          refine x_iand dX9_law_75 ?_
          exact J76
        · exact absurd b50 (by decide)
      · rw [← w2] at J76
        refine x_istore dX9_law_42 (Nat.le_of_ble_eq_true rfl) rfl ?_
        refine x_aload dX9_law_44 rfl ?_
        refine x_get fX9_28 dX9_law_45 (by first | assumption | rfl) ?_
        refine x_iload dX9_law_48 rfl ?_
        refine x_k dX9_law_49 ?_
        refine x_icmp_ne dX9_law_50 (fun b50 => ?_) (fun b50 => ?_)
        · exact absurd b50 (by decide)
        · refine x_aload dX9_law_53 rfl ?_
          refine x_get fX9_28 dX9_law_54 (by first | assumption | rfl) ?_
          refine x_get fX9_131 dX9_law_57 (by first | assumption | rfl) ?_
          refine x_iload dX9_law_60 rfl ?_
          refine x_ior dX9_law_61 ?_
          refine x_goto dX9_law_62 ?_
          exact J76
    refine x_k dX9_law_21 ?_
    refine x_iload dX9_law_22 rfl ?_
    refine x_ishl dX9_law_23 ?_
    refine x_istore dX9_law_24 (Nat.le_of_ble_eq_true rfl) rfl ?_
    refine x_aload dX9_law_25 rfl ?_
    refine x_get fX9_28 dX9_law_26 (by first | assumption | rfl) ?_
    refine x_get fX9_131 dX9_law_29 (by first | assumption | rfl) ?_
    refine x_iload dX9_law_32 rfl ?_
    refine x_iand dX9_law_33 ?_
    refine x_if_ne dX9_law_34 (fun b34 => ?_) (fun b34 => ?_)
    · refine x_k dX9_law_41 ?_
      first
        | exact x_eq rfl (by rw [w1.mp b34]; rfl) rfl J42
        | exact x_eq rfl (by rw [w1.mp (Classical.not_not.mp b34)]; rfl) rfl J42
        | exact x_eq rfl (by rw [tb_of (fun e => b34 (w1.mpr e))]; rfl) rfl J42
    · refine x_k dX9_law_37 ?_
      refine x_goto dX9_law_38 ?_
      first
        | exact x_eq rfl (by rw [w1.mp b34]; rfl) rfl J42
        | exact x_eq rfl (by rw [w1.mp (Classical.not_not.mp b34)]; rfl) rfl J42
        | exact x_eq rfl (by rw [tb_of (fun e => b34 (w1.mpr e))]; rfl) rfl J42
  refine x_iload dX9_law_0 rfl ?_
  refine x_if_lt dX9_law_1 (fun b1 => ?_) (fun b1 => ?_)
  · refine x_k dX9_law_18 ?_
    refine x_iret (ty := .int) dX9_law_20 rfl rfl (Nat.zero_le _) (Nat.zero_le _) ?_
    have hc : ¬ cLaw t v := by simp only [cLaw, Int32.lt_iff_toInt_lt, Int32.le_iff_toInt_le] at *; omega
    rw [dLaw, aLaw, if_neg hc, if_neg hc]
    exact ⟨rfl, Nat.le_refl _, hX, fun _ _ => rfl⟩
  · refine x_iload dX9_law_4 rfl ?_
    refine x_k dX9_law_5 ?_
    refine x_icmp_gt dX9_law_6 (fun b6 => ?_) (fun b6 => ?_)
    · refine x_k dX9_law_18 ?_
      refine x_iret (ty := .int) dX9_law_20 rfl rfl (Nat.zero_le _) (Nat.zero_le _) ?_
      have hc : ¬ cLaw t v := by simp only [cLaw, Int32.lt_iff_toInt_lt, Int32.le_iff_toInt_le] at *; omega
      rw [dLaw, aLaw, if_neg hc, if_neg hc]
      exact ⟨rfl, Nat.le_refl _, hX, fun _ _ => rfl⟩
    · refine x_iload dX9_law_9 rfl ?_
      refine x_if_lt dX9_law_10 (fun b10 => ?_) (fun b10 => ?_)
      · refine x_k dX9_law_18 ?_
        refine x_iret (ty := .int) dX9_law_20 rfl rfl (Nat.zero_le _) (Nat.zero_le _) ?_
        have hc : ¬ cLaw t v := by simp only [cLaw, Int32.lt_iff_toInt_lt, Int32.le_iff_toInt_le] at *; omega
        rw [dLaw, aLaw, if_neg hc, if_neg hc]
        exact ⟨rfl, Nat.le_refl _, hX, fun _ _ => rfl⟩
      · refine x_iload dX9_law_13 rfl ?_
        refine x_k dX9_law_14 ?_
        refine x_icmp_le dX9_law_15 (fun b15 => ?_) (fun b15 => ?_)
        · exact J21 (by simp only [cLaw, Int32.lt_iff_toInt_lt, Int32.le_iff_toInt_le] at *; omega)
        · refine x_k dX9_law_18 ?_
          refine x_iret (ty := .int) dX9_law_20 rfl rfl (Nat.zero_le _) (Nat.zero_le _) ?_
          have hc : ¬ cLaw t v := by simp only [cLaw, Int32.lt_iff_toInt_lt, Int32.le_iff_toInt_le] at *; omega
          rw [dLaw, aLaw, if_neg hc, if_neg hc]
          exact ⟨rfl, Nat.le_refl _, hX, fun _ _ => rfl⟩
end XSal
