/-! come, invite -/
def lkf (d : DT) (p g : Nat) : Nat → Int32 := fun q => if q ≠ p ∧ g.testBit q = true then d_l d (8 * p + q) else 0
def lkN (d : DT) (p host g : Nat) : Int32 := accF (d_l d (8 * p + host)) (lkf d p g) (d_N d)
def comB (d : DT) (host g p : Nat) : Bool := g.testBit p && decide (0 ≤ lkN d p host g)
def comN (d : DT) (host g : Nat) : Nat := msk (comB d host g) (d_N d)
theorem comN_lt {d : DT} (hd : okD d) (host g : Nat) : comN d host g < 256 := by
  have hP8 : d_N d ≤ 8 := (pN_ok hd.1.2.1).1
  have h1 := msk_lt (comB d host g) (d_N d)
  have h2 : 2 ^ d_N d ≤ 2 ^ 8 := Nat.pow_le_pow_right (by decide) hP8
  rw [comN]; omega
def allN (d : DT) : Nat := 2 ^ d_N d - 1
theorem allN_lt {d : DT} (hd : okD d) : allN d < 256 := by
  have hP8 : d_N d ≤ 8 := (pN_ok hd.1.2.1).1
  have h2 : 2 ^ d_N d ≤ 2 ^ 8 := Nat.pow_le_pow_right (by decide) hP8
  rw [allN]; omega
theorem allN_bit (d : DT) (q : Nat) : (allN d).testBit q = decide (q < d_N d) := by rw [allN, Nat.testBit_two_pow_sub_one]
theorem com_all (d : DT) (host g : Nat) : comN d host (g &&& allN d) = comN d host g := by
  have hb : ∀ q, q < d_N d → (g &&& allN d).testBit q = g.testBit q := fun q hq => by rw [Nat.testBit_and, allN_bit, decide_eq_true hq, Bool.and_true]
  have hl : ∀ p, lkN d p host (g &&& allN d) = lkN d p host g := fun p => accF_congr (fun q hq => by simp only [lkf, hb q hq])
  exact msk_congr (fun p hp => by rw [comB, comB, hb p hp, hl])
abbrev cCome (d : DT) (t g : Int32) : Prop := (0 ≤ t ∧ t < nI (d_N d)) ∧ (0 ≤ g ∧ g ≤ 255) ∧ ¬ (g >>> (t &&& 31)) &&& 1 = 1
def aCome (d : DT) (t g : Int32) : Int32 := if cCome d t g then nI (comN d t.toNatClampNeg g.toNatClampNeg) else -2
theorem n255 : (255 : Int32).toInt = 255 := by decide
section Come
variable {Γ : GX} {h : Hp} {sz : Nat} {d : DT}
theorem everyB {N : Nat} (hN : N ≤ 8) : (1 : Int32) <<< (nI N &&& 31) - 1 = nI (2 ^ N - 1) := by
  rw [shl1 (by omega), show (1 : Int32) = nI 1 from rfl, nI_sub (Nat.one_le_two_pow)]
theorem r_likingAt {p host g : Nat} (hA : XA h d) (hK : XK h d) (hd : okD d) (hp : p < 8) (hh : host < 8) (hg : g < 256) : Re Γ mX9_likingAt [.ref 4, .int (nI p), .int (nI host), .int (nI g)] h sz (some (.int (lkN d p host g))) h sz := by
  refine x_enter 2 (by decide) rfl ?_
  obtain ⟨ow, pr, od, kd, sp, ins, a1, ⟨a10, -⟩, a3, ⟨a25, a26, a27⟩, a5, a6, f1, f2, f3, f4⟩ := id hA
  obtain ⟨ss, h4⟩ := hK.w4
  have hP8 : d_N d ≤ 8 := (pN_ok hd.1.2.1).1
  refine x_aload dX9_likingAt_0 rfl ?_
  refine x_get fX9_42 dX9_likingAt_1 (by first | assumption | rfl | exact up_same | exact (up_ne (by omega)).trans (by assumption) | exact (up_ne (by assumption)).trans (by assumption)) ?_
  refine x_iload dX9_likingAt_4 rfl ?_
  refine x_iload dX9_likingAt_5 rfl ?_
  refine x_V2i lX9_393 (Rm.of rfl) (cc1 := 0) (cn1 := 0) rfl rfl (Nat.le_of_ble_eq_true rfl) dX9_likingAt_6 (by first | assumption | rfl | exact up_same | exact (up_ne (by omega)).trans (by assumption) | exact (up_ne (by assumption)).trans (by assumption)) (r_likingOf (q := p) (p := host) a25 a27 hp hh) ?_
  refine x_istore dX9_likingAt_9 (Nat.le_of_ble_eq_true rfl) rfl ?_
  refine x_k dX9_likingAt_11 ?_
  refine x_istore dX9_likingAt_12 (Nat.le_of_ble_eq_true rfl) rfl ?_
  refine x_eq rfl rfl rfl (loopUp (P := fun q => Ex Γ mX9_likingAt _ 0 0 14 [.ref 4, .int (nI p), .int (nI host), .int (nI g), .int (accF (d_l d (8 * p + host)) (lkf d p g) q), .int (nI q)] [] h sz) (d_N d) ?_ (fun q hq ih => ?_) 0 (Nat.zero_le _))
  · refine x_iload dX9_likingAt_14 rfl ?_
    refine x_aload dX9_likingAt_16 rfl ?_
    refine x_get fX9_21 dX9_likingAt_17 (by first | assumption | rfl | exact up_same | exact (up_ne (by omega)).trans (by assumption) | exact (up_ne (by assumption)).trans (by assumption)) ?_
    refine x_get fX9_200 dX9_likingAt_20 (by first | assumption | rfl | exact up_same | exact (up_ne (by omega)).trans (by assumption) | exact (up_ne (by assumption)).trans (by assumption)) ?_
    refine x_icmp_ge dX9_likingAt_23 (fun b23 => ?_) (fun b23 => ?_)
    · refine x_iload dX9_likingAt_63 rfl ?_
      refine x_iret (ty := .int) dX9_likingAt_65 rfl rfl (Nat.zero_le _) (Nat.zero_le _) ?_
      exact ⟨rfl, rfl, rfl⟩
    · exact absurd (Int32.le_refl _) b23
  · have e1 : nI q = nI p ↔ q = p := nI_eq (by omega) (by omega)
    have e2 := bitN1 (m := g) (k := q) (by omega) (by omega)
    rw [accF, lkf] at ih
    refine x_iload dX9_likingAt_14 rfl ?_
    refine x_aload dX9_likingAt_16 rfl ?_
    refine x_get fX9_21 dX9_likingAt_17 (by first | assumption | rfl | exact up_same | exact (up_ne (by omega)).trans (by assumption) | exact (up_ne (by assumption)).trans (by assumption)) ?_
    refine x_get fX9_200 dX9_likingAt_20 (by first | assumption | rfl | exact up_same | exact (up_ne (by omega)).trans (by assumption) | exact (up_ne (by assumption)).trans (by assumption)) ?_
    refine x_icmp_ge dX9_likingAt_23 (fun b23 => ?_) (fun b23 => ?_)
    · exact absurd b23 (nI_ge hq (by omega))
    · refine x_iload dX9_likingAt_26 rfl ?_
      refine x_iload dX9_likingAt_28 rfl ?_
      refine x_icmp_eq dX9_likingAt_29 (fun b29 => ?_) (fun b29 => ?_)
      · refine x_inc1 dX9_likingAt_57 rfl (Nat.le_of_ble_eq_true rfl) rfl ?_
        refine x_goto dX9_likingAt_60 ?_
        first
          | (have hz : q ≠ p ∧ g.testBit q = true := ⟨fun e => b29 (e1.mpr e), e2.mp (Classical.not_not.mp b39)⟩
             rw [if_pos hz] at ih; exact ih)
          | (have hz : ¬ (q ≠ p ∧ g.testBit q = true) := fun z => b39 (e2.mpr z.2)
             rw [if_neg hz, Int32.add_zero] at ih; exact ih)
          | (have hz : ¬ (q ≠ p ∧ g.testBit q = true) := fun z => z.1 (e1.mp b29)
             rw [if_neg hz, Int32.add_zero] at ih; exact ih)
      · refine x_iload dX9_likingAt_32 rfl ?_
        refine x_iload dX9_likingAt_33 rfl ?_
        refine x_ishr dX9_likingAt_35 ?_
        refine x_k dX9_likingAt_36 ?_
        refine x_iand dX9_likingAt_37 ?_
        refine x_k dX9_likingAt_38 ?_
        refine x_icmp_ne dX9_likingAt_39 (fun b39 => ?_) (fun b39 => ?_)
        · refine x_inc1 dX9_likingAt_57 rfl (Nat.le_of_ble_eq_true rfl) rfl ?_
          refine x_goto dX9_likingAt_60 ?_
          first
            | (have hz : q ≠ p ∧ g.testBit q = true := ⟨fun e => b29 (e1.mpr e), e2.mp (Classical.not_not.mp b39)⟩
               rw [if_pos hz] at ih; exact ih)
            | (have hz : ¬ (q ≠ p ∧ g.testBit q = true) := fun z => b39 (e2.mpr z.2)
               rw [if_neg hz, Int32.add_zero] at ih; exact ih)
            | (have hz : ¬ (q ≠ p ∧ g.testBit q = true) := fun z => z.1 (e1.mp b29)
               rw [if_neg hz, Int32.add_zero] at ih; exact ih)
        · refine x_iload dX9_likingAt_42 rfl ?_
          refine x_aload dX9_likingAt_44 rfl ?_
          refine x_get fX9_42 dX9_likingAt_45 (by first | assumption | rfl | exact up_same | exact (up_ne (by omega)).trans (by assumption) | exact (up_ne (by assumption)).trans (by assumption)) ?_
          refine x_iload dX9_likingAt_48 rfl ?_
          refine x_iload dX9_likingAt_49 rfl ?_
          refine x_V2i lX9_393 (Rm.of rfl) (cc1 := 0) (cn1 := 0) rfl rfl (Nat.le_of_ble_eq_true rfl) dX9_likingAt_51 (by first | assumption | rfl | exact up_same | exact (up_ne (by omega)).trans (by assumption) | exact (up_ne (by assumption)).trans (by assumption)) (r_likingOf (q := p) (p := q) a25 a27 hp (by omega)) ?_
          refine x_iadd dX9_likingAt_54 ?_
          refine x_istore dX9_likingAt_55 (Nat.le_of_ble_eq_true rfl) rfl ?_
          refine x_inc1 dX9_likingAt_57 rfl (Nat.le_of_ble_eq_true rfl) rfl ?_
          refine x_goto dX9_likingAt_60 ?_
          first
            | (have hz : q ≠ p ∧ g.testBit q = true := ⟨fun e => b29 (e1.mpr e), e2.mp (Classical.not_not.mp b39)⟩
               rw [if_pos hz] at ih; exact ih)
            | (have hz : ¬ (q ≠ p ∧ g.testBit q = true) := fun z => b39 (e2.mpr z.2)
               rw [if_neg hz, Int32.add_zero] at ih; exact ih)
            | (have hz : ¬ (q ≠ p ∧ g.testBit q = true) := fun z => z.1 (e1.mp b29)
               rw [if_neg hz, Int32.add_zero] at ih; exact ih)
theorem r_comers {host g : Nat} (hA : XA h d) (hK : XK h d) (hd : okD d) (hh : host < 8) (hg : g < 256) : Re Γ mX9_comers [.ref 4, .int (nI host), .int (nI g)] h sz (some (.int (nI (comN d host g)))) h sz := by
  refine x_enter 2 (by decide) rfl ?_
  obtain ⟨ow, pr, od, kd, sp, ins, a1, ⟨a10, -⟩, a3, ⟨a25, a26, a27⟩, a5, a6, f1, f2, f3, f4⟩ := id hA
  obtain ⟨ss, h4⟩ := hK.w4
  have hP8 : d_N d ≤ 8 := (pN_ok hd.1.2.1).1
  refine x_k dX9_comers_0 ?_
  refine x_istore dX9_comers_1 (Nat.le_of_ble_eq_true rfl) rfl ?_
  refine x_k dX9_comers_2 ?_
  refine x_istore dX9_comers_3 (Nat.le_of_ble_eq_true rfl) rfl ?_
  refine x_eq rfl rfl rfl (loopUp (P := fun p => Ex Γ mX9_comers _ 0 0 5 [.ref 4, .int (nI host), .int (nI g), .int (nI (msk (comB d host g) p)), .int (nI p)] [] h sz) (d_N d) ?_ (fun p hp ih => ?_) 0 (Nat.zero_le _))
  · refine x_iload dX9_comers_5 rfl ?_
    refine x_aload dX9_comers_7 rfl ?_
    refine x_get fX9_21 dX9_comers_8 (by first | assumption | rfl | exact up_same | exact (up_ne (by omega)).trans (by assumption) | exact (up_ne (by assumption)).trans (by assumption)) ?_
    refine x_get fX9_200 dX9_comers_11 (by first | assumption | rfl | exact up_same | exact (up_ne (by omega)).trans (by assumption) | exact (up_ne (by assumption)).trans (by assumption)) ?_
    refine x_icmp_ge dX9_comers_14 (fun b14 => ?_) (fun b14 => ?_)
    · refine x_iload dX9_comers_51 rfl ?_
      refine x_iret (ty := .int) dX9_comers_52 rfl rfl (Nat.zero_le _) (Nat.zero_le _) ?_
      exact ⟨rfl, rfl, rfl⟩
    · exact absurd (Int32.le_refl _) b14
  · have e2 := bitN1 (m := g) (k := p) (by omega) (by omega)
    rw [msk] at ih
    refine x_iload dX9_comers_5 rfl ?_
    refine x_aload dX9_comers_7 rfl ?_
    refine x_get fX9_21 dX9_comers_8 (by first | assumption | rfl | exact up_same | exact (up_ne (by omega)).trans (by assumption) | exact (up_ne (by assumption)).trans (by assumption)) ?_
    refine x_get fX9_200 dX9_comers_11 (by first | assumption | rfl | exact up_same | exact (up_ne (by omega)).trans (by assumption) | exact (up_ne (by assumption)).trans (by assumption)) ?_
    refine x_icmp_ge dX9_comers_14 (fun b14 => ?_) (fun b14 => ?_)
    · exact absurd b14 (nI_ge hp (by omega))
    · refine x_iload dX9_comers_17 rfl ?_
      refine x_iload dX9_comers_18 rfl ?_
      refine x_ishr dX9_comers_20 ?_
      refine x_k dX9_comers_21 ?_
      refine x_iand dX9_comers_22 ?_
      refine x_k dX9_comers_23 ?_
      refine x_icmp_ne dX9_comers_24 (fun b24 => ?_) (fun b24 => ?_)
      · refine x_inc1 dX9_comers_45 rfl (Nat.le_of_ble_eq_true rfl) rfl ?_
        refine x_goto dX9_comers_48 ?_
        first
          | (have hz : comB d host g p = true := by rw [comB, e2.mp (Classical.not_not.mp b24), Bool.true_and]; exact decide_eq_true (Int32.not_lt.mp b35)
             rw [if_pos hz] at ih; exact ih)
          | (have hz : ¬ comB d host g p = true := fun z => by
               rw [comB, Bool.and_eq_true] at z
               exact Int32.not_lt.mpr (of_decide_eq_true z.2) b35
             rw [if_neg hz, Nat.or_zero] at ih; exact ih)
          | (have hz : ¬ comB d host g p = true := fun z => by
               rw [comB, Bool.and_eq_true] at z
               exact b24 (e2.mpr z.1)
             rw [if_neg hz, Nat.or_zero] at ih; exact ih)
      · refine x_aload dX9_comers_27 rfl ?_
        refine x_iload dX9_comers_28 rfl ?_
        refine x_iload dX9_comers_30 rfl ?_
        refine x_iload dX9_comers_31 rfl ?_
        refine x_V3i lX9_390 (Rm.of rfl) (cc1 := 0) (cn1 := 0) rfl rfl (Nat.le_of_ble_eq_true rfl) dX9_comers_32 (by first | assumption | rfl | exact up_same | exact (up_ne (by omega)).trans (by assumption) | exact (up_ne (by assumption)).trans (by assumption)) (r_likingAt hA hK hd (by omega) hh hg) ?_
        refine x_if_lt dX9_comers_35 (fun b35 => ?_) (fun b35 => ?_)
        · refine x_inc1 dX9_comers_45 rfl (Nat.le_of_ble_eq_true rfl) rfl ?_
          refine x_goto dX9_comers_48 ?_
          first
            | (have hz : comB d host g p = true := by rw [comB, e2.mp (Classical.not_not.mp b24), Bool.true_and]; exact decide_eq_true (Int32.not_lt.mp b35)
               rw [if_pos hz] at ih; exact ih)
            | (have hz : ¬ comB d host g p = true := fun z => by
                 rw [comB, Bool.and_eq_true] at z
                 exact Int32.not_lt.mpr (of_decide_eq_true z.2) b35
               rw [if_neg hz, Nat.or_zero] at ih; exact ih)
            | (have hz : ¬ comB d host g p = true := fun z => by
                 rw [comB, Bool.and_eq_true] at z
                 exact b24 (e2.mpr z.1)
               rw [if_neg hz, Nat.or_zero] at ih; exact ih)
        · refine x_iload dX9_comers_38 rfl ?_
          refine x_k dX9_comers_39 ?_
          refine x_iload dX9_comers_40 rfl ?_
          refine x_ishl dX9_comers_42 ?_
          refine x_ior dX9_comers_43 ?_
          rw [orbit (by omega)]
          refine x_istore dX9_comers_44 (Nat.le_of_ble_eq_true rfl) rfl ?_
          refine x_inc1 dX9_comers_45 rfl (Nat.le_of_ble_eq_true rfl) rfl ?_
          refine x_goto dX9_comers_48 ?_
          first
            | (have hz : comB d host g p = true := by rw [comB, e2.mp (Classical.not_not.mp b24), Bool.true_and]; exact decide_eq_true (Int32.not_lt.mp b35)
               rw [if_pos hz] at ih; exact ih)
            | (have hz : ¬ comB d host g p = true := fun z => by
                 rw [comB, Bool.and_eq_true] at z
                 exact Int32.not_lt.mpr (of_decide_eq_true z.2) b35
               rw [if_neg hz, Nat.or_zero] at ih; exact ih)
            | (have hz : ¬ comB d host g p = true := fun z => by
                 rw [comB, Bool.and_eq_true] at z
                 exact b24 (e2.mpr z.1)
               rw [if_neg hz, Nat.or_zero] at ih; exact ih)
theorem c_come (t g : Int32) (hX : XW h sz d) (hd : okD d) : Rn Γ mX9_come [.ref 4, .int t, .int g] h sz (qW h sz d (aCome d t g)) := by
  refine x_enter 0 (by decide) rfl ?_
  obtain ⟨hA, hK, hR, hD⟩ := id hX
  obtain ⟨ow, pr, od, kd, sp, ins, a1, ⟨a10, -⟩, -⟩ := id hA
  obtain ⟨ss, h4⟩ := hK.w4
  have hP8 : d_N d ≤ 8 := (pN_ok hd.1.2.1).1
  have J31 : cCome d t g → Ex Γ mX9_come (gx_Z Γ mX9_come (qW h sz d (aCome d t g))) 0 0 31 [.ref 4, .int t, .int g] [] h sz := by
    intro hc
    obtain ⟨i, hi, rfl⟩ := below hc.1.1 hc.1.2 (by omega)
    obtain ⟨m, hm, rfl⟩ := upto (n := 255) hc.2.1.1 hc.2.1.2 (by omega)
    rw [aCome, if_pos hc, nI_clamp (by omega), nI_clamp (by omega), ← com_all]
    have hlt : m &&& allN d < 256 := Nat.lt_of_le_of_lt Nat.and_le_left (by omega)
    refine x_aload dX9_come_31 rfl ?_
    refine x_iload dX9_come_32 rfl ?_
    refine x_iload dX9_come_33 rfl ?_
    refine x_aload dX9_come_34 rfl ?_
    refine x_V0i lX9_261 (Rm.of rfl) (cc1 := 0) (cn1 := 0) rfl rfl (Nat.le_of_ble_eq_true rfl) dX9_come_35 (by first | assumption | rfl | exact up_same | exact (up_ne (by omega)).trans (by assumption) | exact (up_ne (by assumption)).trans (by assumption)) (r_everybody h4 a10) ?_
    refine x_iand dX9_come_38 ?_
    rw [everyB hP8, fa_and]
    refine x_V2i lX9_264 (Rm.of rfl) (cc1 := 0) (cn1 := 0) rfl rfl (Nat.le_of_ble_eq_true rfl) dX9_come_39 (by first | assumption | rfl | exact up_same | exact (up_ne (by omega)).trans (by assumption) | exact (up_ne (by assumption)).trans (by assumption)) (r_comers hA hK hd (by omega) hlt) ?_
    refine x_iret (ty := .int) dX9_come_42 rfl rfl (Nat.zero_le _) (Nat.zero_le _) ?_
    exact ⟨rfl, Nat.le_refl _, hX, fun _ _ => rfl⟩
  refine x_aload dX9_come_0 rfl ?_
  refine x_iload dX9_come_1 rfl ?_
  refine x_V1i lX9_115 (Rm.of rfl) (cc1 := 0) (cn1 := 0) rfl rfl (Nat.le_of_ble_eq_true rfl) dX9_come_2 (by first | assumption | rfl | exact up_same | exact (up_ne (by omega)).trans (by assumption) | exact (up_ne (by assumption)).trans (by assumption)) (r_nobody h4 a10 t) ?_
  refine x_if_ne dX9_come_5 (fun b5 => ?_) (fun b5 => ?_)
  · try simp only [i01, Classical.not_not] at b5
    refine x_k dX9_come_28 ?_
    refine x_iret (ty := .int) dX9_come_30 rfl rfl (Nat.zero_le _) (Nat.zero_le _) ?_
    have hc : ¬ cCome d t g := by
      rintro ⟨⟨z1, z2⟩, ⟨z3, z4⟩, z5⟩
      first
        | exact z5 (Classical.not_not.mp b25)
        | exact Int32.not_le.mpr b16 z4
        | exact Int32.not_le.mpr b9 z3
        | exact b5.elim (fun y => Int32.not_lt.mpr z1 y) (fun y => Int32.not_le.mpr z2 y)
    exact ⟨by rw [aCome, if_neg hc], Nat.le_refl _, hX, fun _ _ => rfl⟩
  · try simp only [i01, Classical.not_not] at b5
    refine x_iload dX9_come_8 rfl ?_
    refine x_if_lt dX9_come_9 (fun b9 => ?_) (fun b9 => ?_)
    · refine x_k dX9_come_28 ?_
      refine x_iret (ty := .int) dX9_come_30 rfl rfl (Nat.zero_le _) (Nat.zero_le _) ?_
      have hc : ¬ cCome d t g := by
        rintro ⟨⟨z1, z2⟩, ⟨z3, z4⟩, z5⟩
        first
          | exact z5 (Classical.not_not.mp b25)
          | exact Int32.not_le.mpr b16 z4
          | exact Int32.not_le.mpr b9 z3
          | exact b5.elim (fun y => Int32.not_lt.mpr z1 y) (fun y => Int32.not_le.mpr z2 y)
      exact ⟨by rw [aCome, if_neg hc], Nat.le_refl _, hX, fun _ _ => rfl⟩
    · refine x_iload dX9_come_12 rfl ?_
      refine x_k dX9_come_13 ?_
      refine x_icmp_gt dX9_come_16 (fun b16 => ?_) (fun b16 => ?_)
      · refine x_k dX9_come_28 ?_
        refine x_iret (ty := .int) dX9_come_30 rfl rfl (Nat.zero_le _) (Nat.zero_le _) ?_
        have hc : ¬ cCome d t g := by
          rintro ⟨⟨z1, z2⟩, ⟨z3, z4⟩, z5⟩
          first
            | exact z5 (Classical.not_not.mp b25)
            | exact Int32.not_le.mpr b16 z4
            | exact Int32.not_le.mpr b9 z3
            | exact b5.elim (fun y => Int32.not_lt.mpr z1 y) (fun y => Int32.not_le.mpr z2 y)
        exact ⟨by rw [aCome, if_neg hc], Nat.le_refl _, hX, fun _ _ => rfl⟩
      · refine x_iload dX9_come_19 rfl ?_
        refine x_iload dX9_come_20 rfl ?_
        refine x_ishr dX9_come_21 ?_
        refine x_k dX9_come_22 ?_
        refine x_iand dX9_come_23 ?_
        refine x_k dX9_come_24 ?_
        refine x_icmp_ne dX9_come_25 (fun b25 => ?_) (fun b25 => ?_)
        · exact J31 ⟨⟨Int32.not_lt.mp (fun y => b5 (Or.inl y)), Int32.not_le.mp (fun y => b5 (Or.inr y))⟩, ⟨Int32.not_lt.mp b9, Int32.not_lt.mp b16⟩, b25⟩
        · refine x_k dX9_come_28 ?_
          refine x_iret (ty := .int) dX9_come_30 rfl rfl (Nat.zero_le _) (Nat.zero_le _) ?_
          have hc : ¬ cCome d t g := by
            rintro ⟨⟨z1, z2⟩, ⟨z3, z4⟩, z5⟩
            first
              | exact z5 (Classical.not_not.mp b25)
              | exact Int32.not_le.mpr b16 z4
              | exact Int32.not_le.mpr b9 z3
              | exact b5.elim (fun y => Int32.not_lt.mpr z1 y) (fun y => Int32.not_le.mpr z2 y)
          exact ⟨by rw [aCome, if_neg hc], Nat.le_refl _, hX, fun _ _ => rfl⟩
theorem MW.w73 (hM : MW h d) : h 73 = ia 64 (d_l d) := by
  obtain ⟨hs, pe, ll, ty, tx, ow, pr, kd, pl, lw, wh, os, kp, tm, ls, lk, af, wt, be, th, fr, it, mv, -, -, ⟨-, a73, -⟩, -⟩ := hM
  exact a73
theorem m_comeOf {hs sa ll fa fi : Int32} {host g : Nat} (h57 : h 57 = cM hs (nI (d_N d)) sa ll fa fi) (h73 : h 73 = ia 64 (d_l d)) (hd : okD d) (hh : host < 8) (hg : g < 256) : Re Γ mX10_comeOf [.ref 57, .int (nI host), .int (nI g)] h sz (some (.int (nI (comN d host g)))) h sz := by
  refine x_enter 4 (by decide) rfl ?_
  have hP8 : d_N d ≤ 8 := (pN_ok hd.1.2.1).1
  have all : ∀ p, p ≤ d_N d → ∀ v w : Value, Ex Γ mX10_comeOf (gx_Z Γ mX10_comeOf (fun r' h' sz' => r' = some (.int (nI (comN d host g))) ∧ h' = h ∧ sz' = sz)) 0 0 5 [.ref 57, .int (nI host), .int (nI g), .int (nI (msk (comB d host g) p)), .int (nI p), v, w] [] h sz := by
    refine loopUp (d_N d) (fun v w => ?_) (fun p hp ih v w => ?_)
    · refine x_iload dX10_comeOf_5 rfl ?_
      refine x_aload dX10_comeOf_7 rfl ?_
      refine x_get fX10_104 dX10_comeOf_8 (by first | assumption | rfl | exact up_same | exact (up_ne (by omega)).trans (by assumption) | exact (up_ne (by assumption)).trans (by assumption)) ?_
      refine x_icmp_ge dX10_comeOf_11 (fun b11 => ?_) (fun b11 => ?_)
      · refine x_iload dX10_comeOf_115 rfl ?_
        refine x_iret (ty := .int) dX10_comeOf_116 rfl rfl (Nat.zero_le _) (Nat.zero_le _) ?_
        exact ⟨rfl, rfl, rfl⟩
      · exact absurd (Int32.le_refl _) b11
    · have e2 := bitN1 (m := g) (k := p) (by omega) (by omega)
      rw [msk] at ih
      have J93 : g.testBit p = true → ∀ w : Value, Ex Γ mX10_comeOf (gx_Z Γ mX10_comeOf (fun r' h' sz' => r' = some (.int (nI (comN d host g))) ∧ h' = h ∧ sz' = sz)) 0 0 93 [.ref 57, .int (nI host), .int (nI g), .int (nI (msk (comB d host g) p)), .int (nI p), .int (lkN d p host g), w] [] h sz := by
        intro hb w
        refine x_iload dX10_comeOf_93 rfl ?_
        refine x_iload dX10_comeOf_94 rfl ?_
        refine x_if_lt dX10_comeOf_96 (fun b96 => ?_) (fun b96 => ?_)
        · refine x_k dX10_comeOf_106 ?_
          refine x_ior dX10_comeOf_107 ?_
          first
            | rw [orbit (by omega)]
            | rw [Int32.or_zero]
          refine x_istore dX10_comeOf_108 (Nat.le_of_ble_eq_true rfl) rfl ?_
          refine x_inc1 dX10_comeOf_109 rfl (Nat.le_of_ble_eq_true rfl) rfl ?_
          refine x_goto dX10_comeOf_112 ?_
          first
            | (have hz : comB d host g p = true := by rw [comB, hb, Bool.true_and]; exact decide_eq_true (Int32.not_lt.mp b96)
               rw [if_pos hz] at ih; exact ih _ _)
            | (have hz : ¬ comB d host g p = true := fun z => by
                 rw [comB, Bool.and_eq_true] at z
                 exact Int32.not_lt.mpr (of_decide_eq_true z.2) b96
               rw [if_neg hz, Nat.or_zero] at ih; exact ih _ _)
        · refine x_k dX10_comeOf_99 ?_
          refine x_iload dX10_comeOf_100 rfl ?_
          refine x_ishl dX10_comeOf_102 ?_
          refine x_goto dX10_comeOf_103 ?_
          refine x_ior dX10_comeOf_107 ?_
          first
            | rw [orbit (by omega)]
            | rw [Int32.or_zero]
          refine x_istore dX10_comeOf_108 (Nat.le_of_ble_eq_true rfl) rfl ?_
          refine x_inc1 dX10_comeOf_109 rfl (Nat.le_of_ble_eq_true rfl) rfl ?_
          refine x_goto dX10_comeOf_112 ?_
          first
            | (have hz : comB d host g p = true := by rw [comB, hb, Bool.true_and]; exact decide_eq_true (Int32.not_lt.mp b96)
               rw [if_pos hz] at ih; exact ih _ _)
            | (have hz : ¬ comB d host g p = true := fun z => by
                 rw [comB, Bool.and_eq_true] at z
                 exact Int32.not_lt.mpr (of_decide_eq_true z.2) b96
               rw [if_neg hz, Nat.or_zero] at ih; exact ih _ _)
      have J40 : g.testBit p = true → Ex Γ mX10_comeOf (gx_Z Γ mX10_comeOf (fun r' h' sz' => r' = some (.int (nI (comN d host g))) ∧ h' = h ∧ sz' = sz)) 0 0 40 [.ref 57, .int (nI host), .int (nI g), .int (nI (msk (comB d host g) p)), .int (nI p), .int (d_l d (8 * p + host)), .int (nI 0)] [] h sz := by
        intro hb
        refine loopUp (P := fun q => Ex Γ mX10_comeOf _ 0 0 40 [.ref 57, .int (nI host), .int (nI g), .int (nI (msk (comB d host g) p)), .int (nI p), .int (accF (d_l d (8 * p + host)) (lkf d p g) q), .int (nI q)] [] h sz) (d_N d) ?_ (fun q hq ih2 => ?_) 0 (Nat.zero_le _)
        · refine x_iload dX10_comeOf_40 rfl ?_
          refine x_aload dX10_comeOf_42 rfl ?_
          refine x_get fX10_104 dX10_comeOf_43 (by first | assumption | rfl | exact up_same | exact (up_ne (by omega)).trans (by assumption) | exact (up_ne (by assumption)).trans (by assumption)) ?_
          refine x_icmp_ge dX10_comeOf_46 (fun b46 => ?_) (fun b46 => ?_)
          · exact J93 hb _
          · exact absurd (Int32.le_refl _) b46
        · have e1 : nI q = nI p ↔ q = p := nI_eq (by omega) (by omega)
          have e3 := bitN1 (m := g) (k := q) (by omega) (by omega)
          rw [accF, lkf] at ih2
          refine x_iload dX10_comeOf_40 rfl ?_
          refine x_aload dX10_comeOf_42 rfl ?_
          refine x_get fX10_104 dX10_comeOf_43 (by first | assumption | rfl | exact up_same | exact (up_ne (by omega)).trans (by assumption) | exact (up_ne (by assumption)).trans (by assumption)) ?_
          refine x_icmp_ge dX10_comeOf_46 (fun b46 => ?_) (fun b46 => ?_)
          · exact absurd b46 (nI_ge hq (by omega))
          · refine x_iload dX10_comeOf_49 rfl ?_
            refine x_iload dX10_comeOf_51 rfl ?_
            refine x_iload dX10_comeOf_53 rfl ?_
            refine x_icmp_eq dX10_comeOf_55 (fun b55 => ?_) (fun b55 => ?_)
            · refine x_k dX10_comeOf_83 ?_
              refine x_iadd dX10_comeOf_84 ?_
              refine x_istore dX10_comeOf_85 (Nat.le_of_ble_eq_true rfl) rfl ?_
              refine x_inc1 dX10_comeOf_87 rfl (Nat.le_of_ble_eq_true rfl) rfl ?_
              refine x_goto dX10_comeOf_90 ?_
              first
                | (have hz : q ≠ p ∧ g.testBit q = true := ⟨fun e => b55 (e1.mpr e), e3.mp b64⟩
                   rw [if_pos hz] at ih2; rw [ix8', nI_clamp (by omega)]; exact ih2)
                | (have hz : ¬ (q ≠ p ∧ g.testBit q = true) := fun z => b64 (e3.mpr z.2)
                   rw [if_neg hz] at ih2; exact ih2)
                | (have hz : ¬ (q ≠ p ∧ g.testBit q = true) := fun z => z.1 (e1.mp b55)
                   rw [if_neg hz] at ih2; exact ih2)
            · refine x_iload dX10_comeOf_58 rfl ?_
              refine x_iload dX10_comeOf_59 rfl ?_
              refine x_S2i lX10_149 (Rm.of rfl) (cc1 := 0) (cn1 := 0) rfl rfl (Nat.le_of_ble_eq_true rfl) dX10_comeOf_61 (r_isIn (nI g) (nI q)) ?_
              refine x_if_eq dX10_comeOf_64 (fun b64 => ?_) (fun b64 => ?_)
              · try simp only [i01, Classical.not_not] at b64
                refine x_k dX10_comeOf_83 ?_
                refine x_iadd dX10_comeOf_84 ?_
                refine x_istore dX10_comeOf_85 (Nat.le_of_ble_eq_true rfl) rfl ?_
                refine x_inc1 dX10_comeOf_87 rfl (Nat.le_of_ble_eq_true rfl) rfl ?_
                refine x_goto dX10_comeOf_90 ?_
                first
                  | (have hz : q ≠ p ∧ g.testBit q = true := ⟨fun e => b55 (e1.mpr e), e3.mp b64⟩
                     rw [if_pos hz] at ih2; rw [ix8', nI_clamp (by omega)]; exact ih2)
                  | (have hz : ¬ (q ≠ p ∧ g.testBit q = true) := fun z => b64 (e3.mpr z.2)
                     rw [if_neg hz] at ih2; exact ih2)
                  | (have hz : ¬ (q ≠ p ∧ g.testBit q = true) := fun z => z.1 (e1.mp b55)
                     rw [if_neg hz] at ih2; exact ih2)
              · try simp only [i01, Classical.not_not] at b64
                refine x_aload dX10_comeOf_67 rfl ?_
                refine x_get fX10_55 dX10_comeOf_68 (by first | assumption | rfl | exact up_same | exact (up_ne (by omega)).trans (by assumption) | exact (up_ne (by assumption)).trans (by assumption)) ?_
                refine x_k dX10_comeOf_71 ?_
                refine x_iload dX10_comeOf_73 rfl ?_
                refine x_imul dX10_comeOf_75 ?_
                refine x_iload dX10_comeOf_76 rfl ?_
                refine x_iadd dX10_comeOf_78 ?_
                refine x_iald dX10_comeOf_79 (by first | assumption | rfl | exact up_same | exact (up_ne (by omega)).trans (by assumption) | exact (up_ne (by assumption)).trans (by assumption)) (in8' (by omega) (by omega)) ?_
                refine x_goto dX10_comeOf_80 ?_
                refine x_iadd dX10_comeOf_84 ?_
                refine x_istore dX10_comeOf_85 (Nat.le_of_ble_eq_true rfl) rfl ?_
                refine x_inc1 dX10_comeOf_87 rfl (Nat.le_of_ble_eq_true rfl) rfl ?_
                refine x_goto dX10_comeOf_90 ?_
                first
                  | (have hz : q ≠ p ∧ g.testBit q = true := ⟨fun e => b55 (e1.mpr e), e3.mp b64⟩
                     rw [if_pos hz] at ih2; rw [ix8', nI_clamp (by omega)]; exact ih2)
                  | (have hz : ¬ (q ≠ p ∧ g.testBit q = true) := fun z => b64 (e3.mpr z.2)
                     rw [if_neg hz] at ih2; exact ih2)
                  | (have hz : ¬ (q ≠ p ∧ g.testBit q = true) := fun z => z.1 (e1.mp b55)
                     rw [if_neg hz] at ih2; exact ih2)
      refine x_iload dX10_comeOf_5 rfl ?_
      refine x_aload dX10_comeOf_7 rfl ?_
      refine x_get fX10_104 dX10_comeOf_8 (by first | assumption | rfl | exact up_same | exact (up_ne (by omega)).trans (by assumption) | exact (up_ne (by assumption)).trans (by assumption)) ?_
      refine x_icmp_ge dX10_comeOf_11 (fun b11 => ?_) (fun b11 => ?_)
      · exact absurd b11 (nI_ge hp (by omega))
      · refine x_iload dX10_comeOf_14 rfl ?_
        refine x_iload dX10_comeOf_15 rfl ?_
        refine x_S2i lX10_149 (Rm.of rfl) (cc1 := 0) (cn1 := 0) rfl rfl (Nat.le_of_ble_eq_true rfl) dX10_comeOf_17 (r_isIn (nI g) (nI p)) ?_
        refine x_if_eq dX10_comeOf_20 (fun b20 => ?_) (fun b20 => ?_)
        · try simp only [i01, Classical.not_not] at b20
          have hz : ¬ comB d host g p = true := fun z => by
            rw [comB, Bool.and_eq_true] at z
            exact b20 (e2.mpr z.1)
          rw [if_neg hz, Nat.or_zero] at ih
          refine x_inc1 dX10_comeOf_109 rfl (Nat.le_of_ble_eq_true rfl) rfl ?_
          refine x_goto dX10_comeOf_112 ?_
          exact ih _ _
        · try simp only [i01, Classical.not_not] at b20
          refine x_aload dX10_comeOf_23 rfl ?_
          refine x_get fX10_55 dX10_comeOf_24 (by first | assumption | rfl | exact up_same | exact (up_ne (by omega)).trans (by assumption) | exact (up_ne (by assumption)).trans (by assumption)) ?_
          refine x_k dX10_comeOf_27 ?_
          refine x_iload dX10_comeOf_29 rfl ?_
          refine x_imul dX10_comeOf_31 ?_
          refine x_iload dX10_comeOf_32 rfl ?_
          refine x_iadd dX10_comeOf_33 ?_
          refine x_iald dX10_comeOf_34 (by first | assumption | rfl | exact up_same | exact (up_ne (by omega)).trans (by assumption) | exact (up_ne (by assumption)).trans (by assumption)) (in8' (by omega) (by omega)) ?_
          rw [ix8', nI_clamp (by omega)]
          refine x_istore dX10_comeOf_35 (Nat.le_of_ble_eq_true rfl) rfl ?_
          refine x_k dX10_comeOf_37 ?_
          refine x_istore dX10_comeOf_38 (Nat.le_of_ble_eq_true rfl) rfl ?_
          exact J40 (e2.mp b20)
  refine x_k dX10_comeOf_0 ?_
  refine x_istore dX10_comeOf_1 (Nat.le_of_ble_eq_true rfl) rfl ?_
  refine x_k dX10_comeOf_2 ?_
  refine x_istore dX10_comeOf_3 (Nat.le_of_ble_eq_true rfl) rfl ?_
  exact all 0 (Nat.zero_le _) _ _
theorem m_come (t g : Int32) (hM : MW h d) (hd : okD d) : Rn Γ mX10_come [.ref 57, .int t, .int g] h sz (qM h sz d (aCome d t g)) := by
  refine x_enter 0 (by decide) rfl ?_
  obtain ⟨_, _, _, w57⟩ := hM.w57
  have hP8 : d_N d ≤ 8 := (pN_ok hd.1.2.1).1
  refine x_aload dX10_come_0 rfl ?_
  refine x_iload dX10_come_1 rfl ?_
  refine x_V1q lX10_128 (Rm.of rfl) (cc1 := 0) (cn1 := 0) rfl rfl (Nat.le_of_ble_eq_true rfl) dX10_come_2 (by first | assumption | rfl | exact up_same | exact (up_ne (by omega)).trans (by assumption) | exact (up_ne (by assumption)).trans (by assumption)) (m_isPerson t hM hd) ?_
  rintro _ h1 _ ⟨rfl, rfl, hM1, hR1, hF1⟩
  obtain ⟨ll, ow, pr, kd, pl, r57, -⟩ := id hR1
  refine x_if_eq dX10_come_5 (fun b5 => ?_) (fun b5 => ?_)
  · try simp only [i01, Classical.not_not] at b5
    refine x_k dX10_come_36 ?_
    refine x_iret (ty := .int) dX10_come_38 rfl rfl (Nat.zero_le _) (Nat.zero_le _) ?_
    first
      | (have hc : ¬ cCome d t g := fun z => z.2.2 b24); exact ⟨by rw [aCome, if_neg hc], rfl, hM1, hF1⟩
      | (have hc : ¬ cCome d t g := fun z => b16 z.2.1); exact ⟨by rw [aCome, if_neg hc], rfl, hM1, hF1⟩
      | (have hc : ¬ cCome d t g := fun z => b5 z.1); exact ⟨by rw [aCome, if_neg hc], rfl, hM1, hF1⟩
  · try simp only [i01, Classical.not_not] at b5
    refine x_iload dX10_come_8 rfl ?_
    refine x_k dX10_come_9 ?_
    refine x_k dX10_come_10 ?_
    refine x_S3i lX10_92 (Rm.of rfl) (cc1 := 0) (cn1 := 0) rfl rfl (Nat.le_of_ble_eq_true rfl) dX10_come_13 (r_in g 0 255) ?_
    refine x_if_eq dX10_come_16 (fun b16 => ?_) (fun b16 => ?_)
    · try simp only [i01, Classical.not_not] at b16
      refine x_k dX10_come_36 ?_
      refine x_iret (ty := .int) dX10_come_38 rfl rfl (Nat.zero_le _) (Nat.zero_le _) ?_
      first
        | (have hc : ¬ cCome d t g := fun z => z.2.2 b24); exact ⟨by rw [aCome, if_neg hc], rfl, hM1, hF1⟩
        | (have hc : ¬ cCome d t g := fun z => b16 z.2.1); exact ⟨by rw [aCome, if_neg hc], rfl, hM1, hF1⟩
        | (have hc : ¬ cCome d t g := fun z => b5 z.1); exact ⟨by rw [aCome, if_neg hc], rfl, hM1, hF1⟩
    · try simp only [i01, Classical.not_not] at b16
      refine x_iload dX10_come_19 rfl ?_
      refine x_iload dX10_come_20 rfl ?_
      refine x_S2i lX10_149 (Rm.of rfl) (cc1 := 0) (cn1 := 0) rfl rfl (Nat.le_of_ble_eq_true rfl) dX10_come_21 (r_isIn g t) ?_
      refine x_if_ne dX10_come_24 (fun b24 => ?_) (fun b24 => ?_)
      · try simp only [i01, Classical.not_not] at b24
        refine x_k dX10_come_36 ?_
        refine x_iret (ty := .int) dX10_come_38 rfl rfl (Nat.zero_le _) (Nat.zero_le _) ?_
        first
          | (have hc : ¬ cCome d t g := fun z => z.2.2 b24); exact ⟨by rw [aCome, if_neg hc], rfl, hM1, hF1⟩
          | (have hc : ¬ cCome d t g := fun z => b16 z.2.1); exact ⟨by rw [aCome, if_neg hc], rfl, hM1, hF1⟩
          | (have hc : ¬ cCome d t g := fun z => b5 z.1); exact ⟨by rw [aCome, if_neg hc], rfl, hM1, hF1⟩
      · try simp only [i01, Classical.not_not] at b24
        have hc : cCome d t g := ⟨b5, b16, b24⟩
        obtain ⟨i, hi, rfl⟩ := below b5.1 b5.2 (by omega)
        obtain ⟨m, hm, rfl⟩ := upto (n := 255) b16.1 b16.2 (by omega)
        refine x_aload dX10_come_27 rfl ?_
        refine x_iload dX10_come_28 rfl ?_
        refine x_iload dX10_come_29 rfl ?_
        refine x_V2i lX10_226 (Rm.of rfl) (cc1 := 0) (cn1 := 0) rfl rfl (Nat.le_of_ble_eq_true rfl) dX10_come_30 (by first | assumption | rfl | exact up_same | exact (up_ne (by omega)).trans (by assumption) | exact (up_ne (by assumption)).trans (by assumption)) (m_comeOf r57 hM1.w73 hd (by omega) (by omega)) ?_
        refine x_goto dX10_come_33 ?_
        refine x_iret (ty := .int) dX10_come_38 rfl rfl (Nat.zero_le _) (Nat.zero_le _) ?_
        exact ⟨by rw [aCome, if_pos hc, nI_clamp (by omega), nI_clamp (by omega)], rfl, hM1, hF1⟩
end Come
