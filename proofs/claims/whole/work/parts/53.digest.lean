/-! digest -/
def lacc (h0 : Int64) (f : Nat → Int32) : Nat → Int64
  | 0 => h0
  | n + 1 => 31 * lacc h0 f n + (f n).toInt64
noncomputable def hsF (d : DT) (l : Int64) (k : Nat) : Int64 := lacc (31 * lacc l (hoN d k) 3 + (nI ((d_run d (d_ns d)).1 k)).toInt64) (vlN d k) (d_N d)
noncomputable def psF (d : DT) (l : Int64) (p : Nat) : Int64 := 31 * (31 * (31 * (31 * (31 * lacc l (peN d p) 3 + (nI ((d_run d (d_ns d)).2.1 p)).toInt64) + (nI ((d_run d (d_ns d)).2.2.1 p)).toInt64) + (gnS d (d_run d (d_ns d)) p).toInt64) + (outN d p).toInt64) + (nI (comN d p (ndiff (allN d) (2 ^ p)))).toInt64
noncomputable def dg2 (d : DT) : Int64 := 31 * (31 * lacc 17 (fun w => aCount d (nI w)) 8 + (fauH (d_n0 d) (d_b0 d)).toInt64) + (fauP (d_n1 d) (d_b1 d)).toInt64
noncomputable def dgH (d : DT) : Nat → Int64
  | 0 => dg2 d
  | k + 1 => hsF d (dgH d k) k
noncomputable def dgP (d : DT) : Nat → Int64
  | 0 => dgH d (d_H d)
  | p + 1 => psF d (dgP d p) p
noncomputable def aDigest (d : DT) : Int64 := 31 * lacc (dgP d (d_N d)) (fun i => nI (d_run d (i + 1)).2.2.2) (d_ns d) + (aChanges d).toInt64
theorem inN {k n : Nat} (hk : k < n) (hn : n < 2 ^ 31) : (0 : Int32) ≤ nI k ∧ nI k < nI n := ⟨nI_pos' (by omega), (nI_ltI (by omega) hn).mpr hk⟩
theorem inL {k n : Nat} (hk : k ≤ n) (hn : n < 2 ^ 31) : (0 : Int32) ≤ nI k ∧ nI k ≤ nI n := ⟨nI_pos' (by omega), (nI_leI (by omega) hn).mpr hk⟩
theorem gP_ok {d : DT} (hd : okD d) {p : Nat} (hp : p < d_N d) : ndiff (allN d) (2 ^ p) < 256 := Nat.lt_of_le_of_lt (ndiff_le _ _) (allN_lt hd)
def qWL (h : Hp) (sz : Nat) (d : DT) (a : Int64) : QT := fun r h' sz' => r = some (.long a) ∧ sz ≤ sz' ∧ XW h' sz' d ∧ frX h h'
def qML (h : Hp) (sz : Nat) (d : DT) (a : Int64) : QT := fun r h' sz' => r = some (.long a) ∧ sz = sz' ∧ MW h' d ∧ frM h h'
section Dig
variable {Γ : GX} {h : Hp} {sz : Nat} {d : DT}
theorem aHouse_ok (hd : okD d) {k w : Nat} (hk : k < d_H d) (hw : w ≤ 2) : aHouse d (nI k) (nI w) = hoN d k w := by
  have hH8 : d_H d ≤ 8 := (hN_ok hd.1.1).1
  rw [aHouse, if_pos ⟨inN hk (by omega), inL (n := 2) hw (by omega)⟩, nI_clamp (by omega), nI_clamp (by omega)]
theorem aPerson_ok (hd : okD d) {k w : Nat} (hk : k < d_N d) (hw : w ≤ 2) : aPerson d (nI k) (nI w) = peN d k w := by
  have hP8 : d_N d ≤ 8 := (pN_ok hd.1.2.1).1
  rw [aPerson, if_pos ⟨inN hk (by omega), inL (n := 2) hw (by omega)⟩, nI_clamp (by omega), nI_clamp (by omega)]
theorem aWhose_ok (hd : okD d) {k : Nat} (hk : k < d_H d) : aWhose d (nI k) (nI (d_ns d)) = nI ((d_run d (d_ns d)).1 k) := by
  have hH8 : d_H d ≤ 8 := (hN_ok hd.1.1).1
  have hns := hd.2.1.2.1
  rw [aWhose, if_pos ⟨inN hk (by omega), inL (Nat.le_refl _) (by omega)⟩, nI_clamp (by omega), nI_clamp (by omega)]
theorem aKeeper_ok (hd : okD d) {k : Nat} (hk : k < d_N d) : aKeeper d (nI k) (nI (d_ns d)) = nI ((d_run d (d_ns d)).2.1 k) := by
  have hP8 : d_N d ≤ 8 := (pN_ok hd.1.2.1).1
  have hns := hd.2.1.2.1
  rw [aKeeper, if_pos ⟨inN hk (by omega), inL (Nat.le_refl _) (by omega)⟩, nI_clamp (by omega), nI_clamp (by omega)]
theorem aSold_ok (hd : okD d) {k : Nat} (hk : k < d_N d) : aSold d (nI k) (nI (d_ns d)) = nI ((d_run d (d_ns d)).2.2.1 k) := by
  have hP8 : d_N d ≤ 8 := (pN_ok hd.1.2.1).1
  have hns := hd.2.1.2.1
  rw [aSold, if_pos ⟨inN hk (by omega), inL (Nat.le_refl _) (by omega)⟩, nI_clamp (by omega), nI_clamp (by omega)]
theorem aGain_ok (hd : okD d) {k : Nat} (hk : k < d_N d) : aGain d (nI k) = gnS d (d_run d (d_ns d)) k := by
  have hP8 : d_N d ≤ 8 := (pN_ok hd.1.2.1).1
  rw [aGain, if_pos (inN hk (by omega)), nI_clamp (by omega)]
theorem aOut_ok (hd : okD d) {k : Nat} (hk : k < d_N d) : aOut d (nI k) = outN d k := by
  have hP8 : d_N d ≤ 8 := (pN_ok hd.1.2.1).1
  rw [aOut, if_pos (inN hk (by omega)), nI_clamp (by omega)]
theorem aValue_ok (hd : okD d) {k p : Nat} (hk : k < d_H d) (hp : p < d_N d) : aValue d (nI k) (nI p) = vlN d k p := by
  have hH8 : d_H d ≤ 8 := (hN_ok hd.1.1).1
  have hP8 : d_N d ≤ 8 := (pN_ok hd.1.2.1).1
  rw [aValue, if_pos ⟨inN hk (by omega), inN hp (by omega)⟩, nI_clamp (by omega), nI_clamp (by omega)]
theorem aLength_ok (hd : okD d) {k : Nat} (hk : k < d_ns d) : aLength d (nI k) = nI (d_run d (k + 1)).2.2.2 := by
  have hns := hd.2.1.2.1
  rw [aLength, if_pos (inN hk (by omega)), nI_clamp (by omega)]
theorem aCome_ok (hd : okD d) {p : Nat} (hp : p < d_N d) : aCome d (nI p) (nI (ndiff (allN d) (2 ^ p))) = nI (comN d p (ndiff (allN d) (2 ^ p))) := by
  have hP8 : d_N d ≤ 8 := (pN_ok hd.1.2.1).1
  have hg := gP_ok hd hp
  have hb : ¬ (nI (ndiff (allN d) (2 ^ p)) >>> (nI p &&& 31)) &&& 1 = 1 := by
    rw [bitN1 (by omega) (by omega), ndiff_bit, Nat.testBit_two_pow_self]; simp
  rw [aCome, if_pos ⟨inN hp (by omega), inL (n := 255) (by omega) (by omega), hb⟩, nI_clamp (by omega), nI_clamp (by omega)]
theorem c_withHouse (l : Int64) {k : Nat} (hX : XW h sz d) (hd : okD d) (hk : k < d_H d) : Rn Γ mX9_withHouse [.ref 4, .long l, .int (nI k)] h sz (qWL h sz d (hsF d l k)) := by
  refine x_enter 3 (by decide) rfl ?_
  have hH8 : d_H d ≤ 8 := (hN_ok hd.1.1).1
  have hP8 : d_N d ≤ 8 := (pN_ok hd.1.2.1).1
  have A60 : ∀ p, p ≤ d_N d → ∀ (h' : Hp) (sz' : Nat), sz ≤ sz' → XW h' sz' d → frX h h' → Ex Γ mX9_withHouse (gx_Z Γ mX9_withHouse (qWL h sz d (hsF d l k))) 0 0 60 [.ref 4, .long l, .retAddr 0, .int (nI k), .long (lacc (31 * lacc l (hoN d k) 3 + (nI ((d_run d (d_ns d)).1 k)).toInt64) (vlN d k) p), .retAddr 0, .int (nI p)] [] h' sz' := by
    refine loopUp (d_N d) (fun h' sz' hz hX' hF => ?_) (fun p hp ih h' sz' hz hX' hF => ?_)
    · obtain ⟨ow, pr, od, kd, sp, ins, a1, ⟨a10, -⟩, -⟩ := id hX'.1
      obtain ⟨ss, h4⟩ := hX'.2.1.w4
      refine x_iload dX9_withHouse_60 rfl ?_
      refine x_aload dX9_withHouse_62 rfl ?_
      refine x_get fX9_21 dX9_withHouse_63 (by first | assumption | rfl | exact up_same | exact (up_ne (by omega)).trans (by assumption) | exact (up_ne (by assumption)).trans (by assumption)) ?_
      refine x_get fX9_200 dX9_withHouse_66 (by first | assumption | rfl | exact up_same | exact (up_ne (by omega)).trans (by assumption) | exact (up_ne (by assumption)).trans (by assumption)) ?_
      refine x_icmp_ge dX9_withHouse_69 (fun b69 => ?_) (fun b69 => ?_)
      · refine x_lload dX9_withHouse_95 rfl ?_
        refine x_lret dX9_withHouse_97 rfl (Nat.zero_le _) (Nat.zero_le _) ?_
        exact ⟨rfl, hz, hX', hF⟩
      · exact absurd (Int32.le_refl _) b69
    · obtain ⟨ow, pr, od, kd, sp, ins, a1, ⟨a10, -⟩, -⟩ := id hX'.1
      obtain ⟨ss, h4⟩ := hX'.2.1.w4
      refine x_iload dX9_withHouse_60 rfl ?_
      refine x_aload dX9_withHouse_62 rfl ?_
      refine x_get fX9_21 dX9_withHouse_63 (by first | assumption | rfl | exact up_same | exact (up_ne (by omega)).trans (by assumption) | exact (up_ne (by assumption)).trans (by assumption)) ?_
      refine x_get fX9_200 dX9_withHouse_66 (by first | assumption | rfl | exact up_same | exact (up_ne (by omega)).trans (by assumption) | exact (up_ne (by assumption)).trans (by assumption)) ?_
      refine x_icmp_ge dX9_withHouse_69 (fun b69 => ?_) (fun b69 => ?_)
      · exact absurd b69 (nI_ge hp (by omega))
      · refine x_ldc2 kX9_324 dX9_withHouse_72 ?_
        refine x_lload dX9_withHouse_75 rfl ?_
        refine x_lmul dX9_withHouse_77 ?_
        refine x_aload dX9_withHouse_78 rfl ?_
        refine x_iload dX9_withHouse_79 rfl ?_
        refine x_iload dX9_withHouse_80 rfl ?_
        refine x_V2q lX9_351 (Rm.of rfl) (cc1 := 0) (cn1 := 0) rfl rfl (Nat.le_of_ble_eq_true rfl) dX9_withHouse_82 (by first | assumption | rfl | exact up_same | exact (up_ne (by omega)).trans (by assumption) | exact (up_ne (by assumption)).trans (by assumption)) (c_value (nI k) (nI p) hX' hd) ?_
        rintro _ h2 sz2 ⟨rfl, hz2, hX2, hF2⟩
        rw [aValue_ok hd hk hp]
        refine x_i2l dX9_withHouse_85 ?_
        refine x_ladd dX9_withHouse_86 ?_
        refine x_lstore dX9_withHouse_87 (Nat.le_of_ble_eq_true rfl) rfl ?_
        refine x_inc1 dX9_withHouse_89 rfl (Nat.le_of_ble_eq_true rfl) rfl ?_
        refine x_goto dX9_withHouse_92 ?_
        exact ih h2 sz2 (Nat.le_trans hz hz2) hX2 (hF.trans hF2)
  have A6 : ∀ w, w ≤ 3 → ∀ (h' : Hp) (sz' : Nat), sz ≤ sz' → XW h' sz' d → frX h h' → Ex Γ mX9_withHouse (gx_Z Γ mX9_withHouse (qWL h sz d (hsF d l k))) 0 0 6 [.ref 4, .long l, .retAddr 0, .int (nI k), .long (lacc l (hoN d k) w), .retAddr 0, .int (nI w)] [] h' sz' := by
    refine loopUp 3 (fun h' sz' hz hX' hF => ?_) (fun w hw ih h' sz' hz hX' hF => ?_)
    · obtain ⟨ow, pr, od, kd, sp, ins, a1, ⟨a10, -⟩, ⟨a17, -⟩, -⟩ := id hX'.1
      obtain ⟨ss, h4⟩ := hX'.2.1.w4
      refine x_iload dX9_withHouse_6 rfl ?_
      refine x_k dX9_withHouse_8 ?_
      refine x_icmp_gt dX9_withHouse_9 (fun b9 => ?_) (fun b9 => ?_)
      · refine x_ldc2 kX9_324 dX9_withHouse_35 ?_
        refine x_lload dX9_withHouse_38 rfl ?_
        refine x_lmul dX9_withHouse_40 ?_
        refine x_aload dX9_withHouse_41 rfl ?_
        refine x_iload dX9_withHouse_42 rfl ?_
        refine x_aload dX9_withHouse_43 rfl ?_
        refine x_get fX9_28 dX9_withHouse_44 (by first | assumption | rfl | exact up_same | exact (up_ne (by omega)).trans (by assumption) | exact (up_ne (by assumption)).trans (by assumption)) ?_
        refine x_get fX9_143 dX9_withHouse_47 (by first | assumption | rfl | exact up_same | exact (up_ne (by omega)).trans (by assumption) | exact (up_ne (by assumption)).trans (by assumption)) ?_
        refine x_V2q lX9_348 (Rm.of rfl) (cc1 := 0) (cn1 := 0) rfl rfl (Nat.le_of_ble_eq_true rfl) dX9_withHouse_50 (by first | assumption | rfl | exact up_same | exact (up_ne (by omega)).trans (by assumption) | exact (up_ne (by assumption)).trans (by assumption)) (c_whose (nI k) (nI (d_ns d)) hX'.1 hX'.2.1 hd) ?_
        rintro _ h2 sz2 hq
        obtain ⟨rfl, hz2, hX2, hF2⟩ := qX_W hX'.2.2.1 hX'.2.2.2 hq
        rw [aWhose_ok hd hk]
        refine x_i2l dX9_withHouse_53 ?_
        refine x_ladd dX9_withHouse_54 ?_
        refine x_lstore dX9_withHouse_55 (Nat.le_of_ble_eq_true rfl) rfl ?_
        refine x_k dX9_withHouse_57 ?_
        refine x_istore dX9_withHouse_58 (Nat.le_of_ble_eq_true rfl) rfl ?_
        exact A60 0 (Nat.zero_le _) h2 sz2 (Nat.le_trans hz hz2) hX2 (hF.trans hF2)
      · exact absurd (by decide) b9
    · obtain ⟨ow, pr, od, kd, sp, ins, a1, ⟨a10, -⟩, -⟩ := id hX'.1
      obtain ⟨ss, h4⟩ := hX'.2.1.w4
      refine x_iload dX9_withHouse_6 rfl ?_
      refine x_k dX9_withHouse_8 ?_
      refine x_icmp_gt dX9_withHouse_9 (fun b9 => ?_) (fun b9 => ?_)
      · exact absurd b9 (Int32.not_lt.mpr ((nI_leI (b := 2) (by omega) (by omega)).mpr (by omega)))
      · refine x_ldc2 kX9_324 dX9_withHouse_12 ?_
        refine x_lload dX9_withHouse_15 rfl ?_
        refine x_lmul dX9_withHouse_17 ?_
        refine x_aload dX9_withHouse_18 rfl ?_
        refine x_iload dX9_withHouse_19 rfl ?_
        refine x_iload dX9_withHouse_20 rfl ?_
        refine x_V2q lX9_345 (Rm.of rfl) (cc1 := 0) (cn1 := 0) rfl rfl (Nat.le_of_ble_eq_true rfl) dX9_withHouse_22 (by first | assumption | rfl | exact up_same | exact (up_ne (by omega)).trans (by assumption) | exact (up_ne (by assumption)).trans (by assumption)) (c_house (nI k) (nI w) hX' hd) ?_
        rintro _ h2 sz2 ⟨rfl, hz2, hX2, hF2⟩
        rw [aHouse_ok hd hk (by omega)]
        refine x_i2l dX9_withHouse_25 ?_
        refine x_ladd dX9_withHouse_26 ?_
        refine x_lstore dX9_withHouse_27 (Nat.le_of_ble_eq_true rfl) rfl ?_
        refine x_inc1 dX9_withHouse_29 rfl (Nat.le_of_ble_eq_true rfl) rfl ?_
        refine x_goto dX9_withHouse_32 ?_
        exact ih h2 sz2 (Nat.le_trans hz hz2) hX2 (hF.trans hF2)
  refine x_lload dX9_withHouse_0 rfl ?_
  refine x_lstore dX9_withHouse_1 (Nat.le_of_ble_eq_true rfl) rfl ?_
  refine x_k dX9_withHouse_3 ?_
  refine x_istore dX9_withHouse_4 (Nat.le_of_ble_eq_true rfl) rfl ?_
  exact A6 0 (Nat.zero_le _) h sz (Nat.le_refl _) hX (fun _ _ => rfl)
theorem c_withPerson (l : Int64) {k : Nat} (hX : XW h sz d) (hd : okD d) (hk : k < d_N d) : Rn Γ mX9_withPerson [.ref 4, .long l, .int (nI k)] h sz (qWL h sz d (psF d l k)) := by
  refine x_enter 3 (by decide) rfl ?_
  have hP8 : d_N d ≤ 8 := (pN_ok hd.1.2.1).1
  have A6 : ∀ w, w ≤ 3 → ∀ (h' : Hp) (sz' : Nat), sz ≤ sz' → XW h' sz' d → frX h h' → Ex Γ mX9_withPerson (gx_Z Γ mX9_withPerson (qWL h sz d (psF d l k))) 0 0 6 [.ref 4, .long l, .retAddr 0, .int (nI k), .long (lacc l (peN d k) w), .retAddr 0, .int (nI w)] [] h' sz' := by
    refine loopUp 3 (fun h' sz' hz hX' hF => ?_) (fun w hw ih h' sz' hz hX' hF => ?_)
    · obtain ⟨ow, pr, od, kd, sp, ins, a1, ⟨a10, -⟩, ⟨a17, -⟩, -⟩ := id hX'.1
      obtain ⟨ss, h4⟩ := hX'.2.1.w4
      refine x_iload dX9_withPerson_6 rfl ?_
      refine x_k dX9_withPerson_8 ?_
      refine x_icmp_gt dX9_withPerson_9 (fun b9 => ?_) (fun b9 => ?_)
      · refine x_ldc2 kX9_324 dX9_withPerson_35 ?_
        refine x_lload dX9_withPerson_38 rfl ?_
        refine x_lmul dX9_withPerson_40 ?_
        refine x_aload dX9_withPerson_41 rfl ?_
        refine x_iload dX9_withPerson_42 rfl ?_
        refine x_aload dX9_withPerson_43 rfl ?_
        refine x_get fX9_28 dX9_withPerson_44 (by first | assumption | rfl | exact up_same | exact (up_ne (by omega)).trans (by assumption) | exact (up_ne (by assumption)).trans (by assumption)) ?_
        refine x_get fX9_143 dX9_withPerson_47 (by first | assumption | rfl | exact up_same | exact (up_ne (by omega)).trans (by assumption) | exact (up_ne (by assumption)).trans (by assumption)) ?_
        refine x_V2q lX9_357 (Rm.of rfl) (cc1 := 0) (cn1 := 0) rfl rfl (Nat.le_of_ble_eq_true rfl) dX9_withPerson_50 (by first | assumption | rfl | exact up_same | exact (up_ne (by omega)).trans (by assumption) | exact (up_ne (by assumption)).trans (by assumption)) (c_keeper (nI k) (nI (d_ns d)) hX'.1 hX'.2.1 hd) ?_
        rintro _ h2 sz2 hq
        obtain ⟨rfl, hz2, hX2, hF2⟩ := qX_W hX'.2.2.1 hX'.2.2.2 hq
        rw [aKeeper_ok hd hk]
        obtain ⟨_, _, _, _, _, _, -, ⟨b10, -⟩, ⟨b17, -⟩, -⟩ := id hX2.1
        obtain ⟨ss2, g4⟩ := hX2.2.1.w4
        refine x_i2l dX9_withPerson_53 ?_
        refine x_ladd dX9_withPerson_54 ?_
        refine x_lstore dX9_withPerson_55 (Nat.le_of_ble_eq_true rfl) rfl ?_
        refine x_ldc2 kX9_324 dX9_withPerson_57 ?_
        refine x_lload dX9_withPerson_60 rfl ?_
        refine x_lmul dX9_withPerson_62 ?_
        refine x_aload dX9_withPerson_63 rfl ?_
        refine x_iload dX9_withPerson_64 rfl ?_
        refine x_aload dX9_withPerson_65 rfl ?_
        refine x_get fX9_28 dX9_withPerson_66 (by first | assumption | rfl | exact up_same | exact (up_ne (by omega)).trans (by assumption) | exact (up_ne (by assumption)).trans (by assumption)) ?_
        refine x_get fX9_143 dX9_withPerson_69 (by first | assumption | rfl | exact up_same | exact (up_ne (by omega)).trans (by assumption) | exact (up_ne (by assumption)).trans (by assumption)) ?_
        refine x_V2q lX9_359 (Rm.of rfl) (cc1 := 0) (cn1 := 0) rfl rfl (Nat.le_of_ble_eq_true rfl) dX9_withPerson_72 (by first | assumption | rfl | exact up_same | exact (up_ne (by omega)).trans (by assumption) | exact (up_ne (by assumption)).trans (by assumption)) (c_sold (nI k) (nI (d_ns d)) hX2.1 hX2.2.1 hd) ?_
        rintro _ h3 sz3 hq3
        obtain ⟨rfl, hz3, hX3, hF3⟩ := qX_W hX2.2.2.1 hX2.2.2.2 hq3
        rw [aSold_ok hd hk]
        obtain ⟨_, _, _, _, _, _, -, ⟨c10, -⟩, ⟨c17, -⟩, -⟩ := id hX3.1
        obtain ⟨ss3, i4⟩ := hX3.2.1.w4
        refine x_i2l dX9_withPerson_75 ?_
        refine x_ladd dX9_withPerson_76 ?_
        refine x_lstore dX9_withPerson_77 (Nat.le_of_ble_eq_true rfl) rfl ?_
        refine x_ldc2 kX9_324 dX9_withPerson_79 ?_
        refine x_lload dX9_withPerson_82 rfl ?_
        refine x_lmul dX9_withPerson_84 ?_
        refine x_aload dX9_withPerson_85 rfl ?_
        refine x_iload dX9_withPerson_86 rfl ?_
        refine x_V1q lX9_362 (Rm.of rfl) (cc1 := 0) (cn1 := 0) rfl rfl (Nat.le_of_ble_eq_true rfl) dX9_withPerson_87 (by first | assumption | rfl | exact up_same | exact (up_ne (by omega)).trans (by assumption) | exact (up_ne (by assumption)).trans (by assumption)) (c_gain (nI k) hX3.1 hX3.2.1 hd) ?_
        rintro _ h5 sz5 hq5
        obtain ⟨rfl, hz5, hX5, hF5⟩ := qX_W hX3.2.2.1 hX3.2.2.2 hq5
        rw [aGain_ok hd hk]
        obtain ⟨ss5, j4⟩ := hX5.2.1.w4
        refine x_i2l dX9_withPerson_90 ?_
        refine x_ladd dX9_withPerson_91 ?_
        refine x_lstore dX9_withPerson_92 (Nat.le_of_ble_eq_true rfl) rfl ?_
        refine x_ldc2 kX9_324 dX9_withPerson_94 ?_
        refine x_lload dX9_withPerson_97 rfl ?_
        refine x_lmul dX9_withPerson_99 ?_
        refine x_aload dX9_withPerson_100 rfl ?_
        refine x_iload dX9_withPerson_101 rfl ?_
        refine x_V1q lX9_365 (Rm.of rfl) (cc1 := 0) (cn1 := 0) rfl rfl (Nat.le_of_ble_eq_true rfl) dX9_withPerson_102 (by first | assumption | rfl | exact up_same | exact (up_ne (by omega)).trans (by assumption) | exact (up_ne (by assumption)).trans (by assumption)) (c_out (nI k) hX5 hd) ?_
        rintro _ h6 sz6 ⟨rfl, hz6, hX6, hF6⟩
        rw [aOut_ok hd hk]
        obtain ⟨_, _, _, _, _, _, -, ⟨d10, -⟩, -⟩ := id hX6.1
        obtain ⟨ss6, k4⟩ := hX6.2.1.w4
        refine x_i2l dX9_withPerson_105 ?_
        refine x_ladd dX9_withPerson_106 ?_
        refine x_lstore dX9_withPerson_107 (Nat.le_of_ble_eq_true rfl) rfl ?_
        refine x_ldc2 kX9_324 dX9_withPerson_109 ?_
        refine x_lload dX9_withPerson_112 rfl ?_
        refine x_lmul dX9_withPerson_114 ?_
        refine x_aload dX9_withPerson_115 rfl ?_
        refine x_iload dX9_withPerson_116 rfl ?_
        refine x_aload dX9_withPerson_117 rfl ?_
        refine x_V0i lX9_261 (Rm.of rfl) (cc1 := 0) (cn1 := 0) rfl rfl (Nat.le_of_ble_eq_true rfl) dX9_withPerson_118 (by first | assumption | rfl | exact up_same | exact (up_ne (by omega)).trans (by assumption) | exact (up_ne (by assumption)).trans (by assumption)) (r_everybody k4 d10) ?_
        refine x_k dX9_withPerson_121 ?_
        refine x_iload dX9_withPerson_122 rfl ?_
        refine x_ishl dX9_withPerson_123 ?_
        refine x_k dX9_withPerson_124 ?_
        refine x_ixor dX9_withPerson_125 ?_
        rw [everyB hP8, shl1 (by omega)]
        refine x_iand dX9_withPerson_126 ?_
        rw [fa_diff]
        refine x_V2q lX9_368 (Rm.of rfl) (cc1 := 0) (cn1 := 0) rfl rfl (Nat.le_of_ble_eq_true rfl) dX9_withPerson_127 (by first | assumption | rfl | exact up_same | exact (up_ne (by omega)).trans (by assumption) | exact (up_ne (by assumption)).trans (by assumption)) (c_come (nI k) (nI (ndiff (2 ^ d_N d - 1) (2 ^ k))) hX6 hd) ?_
        rintro _ h7 sz7 ⟨rfl, hz7, hX7, hF7⟩
        rw [show 2 ^ d_N d - 1 = allN d from rfl, aCome_ok hd hk]
        refine x_i2l dX9_withPerson_130 ?_
        refine x_ladd dX9_withPerson_131 ?_
        refine x_lret dX9_withPerson_132 rfl (Nat.zero_le _) (Nat.zero_le _) ?_
        exact ⟨rfl, by omega, hX7, (((((hF.trans hF2).trans hF3).trans hF5).trans hF6).trans hF7)⟩
      · exact absurd (by decide) b9
    · obtain ⟨ow, pr, od, kd, sp, ins, a1, ⟨a10, -⟩, -⟩ := id hX'.1
      obtain ⟨ss, h4⟩ := hX'.2.1.w4
      refine x_iload dX9_withPerson_6 rfl ?_
      refine x_k dX9_withPerson_8 ?_
      refine x_icmp_gt dX9_withPerson_9 (fun b9 => ?_) (fun b9 => ?_)
      · exact absurd b9 (Int32.not_lt.mpr ((nI_leI (b := 2) (by omega) (by omega)).mpr (by omega)))
      · refine x_ldc2 kX9_324 dX9_withPerson_12 ?_
        refine x_lload dX9_withPerson_15 rfl ?_
        refine x_lmul dX9_withPerson_17 ?_
        refine x_aload dX9_withPerson_18 rfl ?_
        refine x_iload dX9_withPerson_19 rfl ?_
        refine x_iload dX9_withPerson_20 rfl ?_
        refine x_V2q lX9_354 (Rm.of rfl) (cc1 := 0) (cn1 := 0) rfl rfl (Nat.le_of_ble_eq_true rfl) dX9_withPerson_22 (by first | assumption | rfl | exact up_same | exact (up_ne (by omega)).trans (by assumption) | exact (up_ne (by assumption)).trans (by assumption)) (c_person (nI k) (nI w) hX' hd) ?_
        rintro _ h2 sz2 ⟨rfl, hz2, hX2, hF2⟩
        rw [aPerson_ok hd hk (by omega)]
        refine x_i2l dX9_withPerson_25 ?_
        refine x_ladd dX9_withPerson_26 ?_
        refine x_lstore dX9_withPerson_27 (Nat.le_of_ble_eq_true rfl) rfl ?_
        refine x_inc1 dX9_withPerson_29 rfl (Nat.le_of_ble_eq_true rfl) rfl ?_
        refine x_goto dX9_withPerson_32 ?_
        exact ih h2 sz2 (Nat.le_trans hz hz2) hX2 (hF.trans hF2)
  refine x_lload dX9_withPerson_0 rfl ?_
  refine x_lstore dX9_withPerson_1 (Nat.le_of_ble_eq_true rfl) rfl ?_
  refine x_k dX9_withPerson_3 ?_
  refine x_istore dX9_withPerson_4 (Nat.le_of_ble_eq_true rfl) rfl ?_
  exact A6 0 (Nat.zero_le _) h sz (Nat.le_refl _) hX (fun _ _ => rfl)
theorem c_digest (hX : XW h sz d) (hd : okD d) : Rn Γ mX9_digest [.ref 4] h sz (qWL h sz d (aDigest d)) := by
  refine x_enter 3 (by decide) rfl ?_
  have hH8 : d_H d ≤ 8 := (hN_ok hd.1.1).1
  have hP8 : d_N d ≤ 8 := (pN_ok hd.1.2.1).1
  have hns := hd.2.1.2.1
  have A111 : ∀ i, i ≤ d_ns d → ∀ (h' : Hp) (sz' : Nat), sz ≤ sz' → XW h' sz' d → frX h h' → Ex Γ mX9_digest (gx_Z Γ mX9_digest (qWL h sz d (aDigest d))) 0 0 111 [.ref 4, .long (lacc (dgP d (d_N d)) (fun i => nI (d_run d (i + 1)).2.2.2) i), .retAddr 0, .int (nI i)] [] h' sz' := by
    refine loopUp (d_ns d) (fun h' sz' hz hX' hF => ?_) (fun i hi ih h' sz' hz hX' hF => ?_)
    · obtain ⟨ow, pr, od, kd, sp, ins, a1, ⟨a10, -⟩, ⟨a17, -⟩, -⟩ := id hX'.1
      obtain ⟨ss, h4⟩ := hX'.2.1.w4
      refine x_iload dX9_digest_111 rfl ?_
      refine x_aload dX9_digest_112 rfl ?_
      refine x_get fX9_28 dX9_digest_113 (by first | assumption | rfl | exact up_same | exact (up_ne (by omega)).trans (by assumption) | exact (up_ne (by assumption)).trans (by assumption)) ?_
      refine x_get fX9_143 dX9_digest_116 (by first | assumption | rfl | exact up_same | exact (up_ne (by omega)).trans (by assumption) | exact (up_ne (by assumption)).trans (by assumption)) ?_
      refine x_icmp_ge dX9_digest_119 (fun b119 => ?_) (fun b119 => ?_)
      · refine x_ldc2 kX9_324 dX9_digest_141 ?_
        refine x_lload dX9_digest_144 rfl ?_
        refine x_lmul dX9_digest_145 ?_
        refine x_aload dX9_digest_146 rfl ?_
        refine x_V0q lX9_342 (Rm.of rfl) (cc1 := 0) (cn1 := 0) rfl rfl (Nat.le_of_ble_eq_true rfl) dX9_digest_147 (by first | assumption | rfl | exact up_same | exact (up_ne (by omega)).trans (by assumption) | exact (up_ne (by assumption)).trans (by assumption)) (c_changes hX' hd) ?_
        rintro _ h2 sz2 ⟨rfl, hz2, hX2, hF2⟩
        refine x_i2l dX9_digest_150 ?_
        refine x_ladd dX9_digest_151 ?_
        refine x_lret dX9_digest_152 rfl (Nat.zero_le _) (Nat.zero_le _) ?_
        exact ⟨rfl, Nat.le_trans hz hz2, hX2, hF.trans hF2⟩
      · exact absurd (Int32.le_refl _) b119
    · obtain ⟨ow, pr, od, kd, sp, ins, a1, ⟨a10, -⟩, ⟨a17, -⟩, -⟩ := id hX'.1
      obtain ⟨ss, h4⟩ := hX'.2.1.w4
      refine x_iload dX9_digest_111 rfl ?_
      refine x_aload dX9_digest_112 rfl ?_
      refine x_get fX9_28 dX9_digest_113 (by first | assumption | rfl | exact up_same | exact (up_ne (by omega)).trans (by assumption) | exact (up_ne (by assumption)).trans (by assumption)) ?_
      refine x_get fX9_143 dX9_digest_116 (by first | assumption | rfl | exact up_same | exact (up_ne (by omega)).trans (by assumption) | exact (up_ne (by assumption)).trans (by assumption)) ?_
      refine x_icmp_ge dX9_digest_119 (fun b119 => ?_) (fun b119 => ?_)
      · exact absurd b119 (nI_ge hi (by omega))
      · refine x_ldc2 kX9_324 dX9_digest_122 ?_
        refine x_lload dX9_digest_125 rfl ?_
        refine x_lmul dX9_digest_126 ?_
        refine x_aload dX9_digest_127 rfl ?_
        refine x_iload dX9_digest_128 rfl ?_
        refine x_V1q lX9_339 (Rm.of rfl) (cc1 := 0) (cn1 := 0) rfl rfl (Nat.le_of_ble_eq_true rfl) dX9_digest_129 (by first | assumption | rfl | exact up_same | exact (up_ne (by omega)).trans (by assumption) | exact (up_ne (by assumption)).trans (by assumption)) (c_length (nI i) hX'.1 hX'.2.1 hd) ?_
        rintro _ h2 sz2 hq
        obtain ⟨rfl, hz2, hX2, hF2⟩ := qX_W hX'.2.2.1 hX'.2.2.2 hq
        rw [aLength_ok hd hi]
        refine x_i2l dX9_digest_132 ?_
        refine x_ladd dX9_digest_133 ?_
        refine x_lstore dX9_digest_134 (Nat.le_of_ble_eq_true rfl) rfl ?_
        refine x_inc1 dX9_digest_135 rfl (Nat.le_of_ble_eq_true rfl) rfl ?_
        refine x_goto dX9_digest_138 ?_
        exact ih h2 sz2 (Nat.le_trans hz hz2) hX2 (hF.trans hF2)
  have A85 : ∀ p, p ≤ d_N d → ∀ (h' : Hp) (sz' : Nat), sz ≤ sz' → XW h' sz' d → frX h h' → Ex Γ mX9_digest (gx_Z Γ mX9_digest (qWL h sz d (aDigest d))) 0 0 85 [.ref 4, .long (dgP d p), .retAddr 0, .int (nI p)] [] h' sz' := by
    refine loopUp (d_N d) (fun h' sz' hz hX' hF => ?_) (fun p hp ih h' sz' hz hX' hF => ?_)
    · obtain ⟨ow, pr, od, kd, sp, ins, a1, ⟨a10, -⟩, ⟨a17, -⟩, -⟩ := id hX'.1
      obtain ⟨ss, h4⟩ := hX'.2.1.w4
      refine x_iload dX9_digest_85 rfl ?_
      refine x_aload dX9_digest_86 rfl ?_
      refine x_get fX9_21 dX9_digest_87 (by first | assumption | rfl | exact up_same | exact (up_ne (by omega)).trans (by assumption) | exact (up_ne (by assumption)).trans (by assumption)) ?_
      refine x_get fX9_200 dX9_digest_90 (by first | assumption | rfl | exact up_same | exact (up_ne (by omega)).trans (by assumption) | exact (up_ne (by assumption)).trans (by assumption)) ?_
      refine x_icmp_ge dX9_digest_93 (fun b93 => ?_) (fun b93 => ?_)
      · refine x_k dX9_digest_109 ?_
        refine x_istore dX9_digest_110 (Nat.le_of_ble_eq_true rfl) rfl ?_
        exact A111 0 (Nat.zero_le _) h' sz' hz hX' hF
      · exact absurd (Int32.le_refl _) b93
    · obtain ⟨ow, pr, od, kd, sp, ins, a1, ⟨a10, -⟩, ⟨a17, -⟩, -⟩ := id hX'.1
      obtain ⟨ss, h4⟩ := hX'.2.1.w4
      refine x_iload dX9_digest_85 rfl ?_
      refine x_aload dX9_digest_86 rfl ?_
      refine x_get fX9_21 dX9_digest_87 (by first | assumption | rfl | exact up_same | exact (up_ne (by omega)).trans (by assumption) | exact (up_ne (by assumption)).trans (by assumption)) ?_
      refine x_get fX9_200 dX9_digest_90 (by first | assumption | rfl | exact up_same | exact (up_ne (by omega)).trans (by assumption) | exact (up_ne (by assumption)).trans (by assumption)) ?_
      refine x_icmp_ge dX9_digest_93 (fun b93 => ?_) (fun b93 => ?_)
      · exact absurd b93 (nI_ge hp (by omega))
      · refine x_aload dX9_digest_96 rfl ?_
        refine x_lload dX9_digest_97 rfl ?_
        refine x_iload dX9_digest_98 rfl ?_
        refine x_V2q lX9_336 (Rm.of rfl) (cc1 := 0) (cn1 := 0) rfl rfl (Nat.le_of_ble_eq_true rfl) dX9_digest_99 (by first | assumption | rfl | exact up_same | exact (up_ne (by omega)).trans (by assumption) | exact (up_ne (by assumption)).trans (by assumption)) (c_withPerson (dgP d p) hX' hd hp) ?_
        rintro _ h2 sz2 ⟨rfl, hz2, hX2, hF2⟩
        refine x_lstore dX9_digest_102 (Nat.le_of_ble_eq_true rfl) rfl ?_
        refine x_inc1 dX9_digest_103 rfl (Nat.le_of_ble_eq_true rfl) rfl ?_
        refine x_goto dX9_digest_106 ?_
        exact ih h2 sz2 (Nat.le_trans hz hz2) hX2 (hF.trans hF2)
  have A59 : ∀ p, p ≤ d_H d → ∀ (h' : Hp) (sz' : Nat), sz ≤ sz' → XW h' sz' d → frX h h' → Ex Γ mX9_digest (gx_Z Γ mX9_digest (qWL h sz d (aDigest d))) 0 0 59 [.ref 4, .long (dgH d p), .retAddr 0, .int (nI p)] [] h' sz' := by
    refine loopUp (d_H d) (fun h' sz' hz hX' hF => ?_) (fun p hp ih h' sz' hz hX' hF => ?_)
    · obtain ⟨ow, pr, od, kd, sp, ins, a1, ⟨a10, -⟩, ⟨a17, -⟩, -⟩ := id hX'.1
      obtain ⟨ss, h4⟩ := hX'.2.1.w4
      refine x_iload dX9_digest_59 rfl ?_
      refine x_aload dX9_digest_60 rfl ?_
      refine x_get fX9_21 dX9_digest_61 (by first | assumption | rfl | exact up_same | exact (up_ne (by omega)).trans (by assumption) | exact (up_ne (by assumption)).trans (by assumption)) ?_
      refine x_get fX9_197 dX9_digest_64 (by first | assumption | rfl | exact up_same | exact (up_ne (by omega)).trans (by assumption) | exact (up_ne (by assumption)).trans (by assumption)) ?_
      refine x_icmp_ge dX9_digest_67 (fun b67 => ?_) (fun b67 => ?_)
      · refine x_k dX9_digest_83 ?_
        refine x_istore dX9_digest_84 (Nat.le_of_ble_eq_true rfl) rfl ?_
        exact A85 0 (Nat.zero_le _) h' sz' hz hX' hF
      · exact absurd (Int32.le_refl _) b67
    · obtain ⟨ow, pr, od, kd, sp, ins, a1, ⟨a10, -⟩, ⟨a17, -⟩, -⟩ := id hX'.1
      obtain ⟨ss, h4⟩ := hX'.2.1.w4
      refine x_iload dX9_digest_59 rfl ?_
      refine x_aload dX9_digest_60 rfl ?_
      refine x_get fX9_21 dX9_digest_61 (by first | assumption | rfl | exact up_same | exact (up_ne (by omega)).trans (by assumption) | exact (up_ne (by assumption)).trans (by assumption)) ?_
      refine x_get fX9_197 dX9_digest_64 (by first | assumption | rfl | exact up_same | exact (up_ne (by omega)).trans (by assumption) | exact (up_ne (by assumption)).trans (by assumption)) ?_
      refine x_icmp_ge dX9_digest_67 (fun b67 => ?_) (fun b67 => ?_)
      · exact absurd b67 (nI_ge hp (by omega))
      · refine x_aload dX9_digest_70 rfl ?_
        refine x_lload dX9_digest_71 rfl ?_
        refine x_iload dX9_digest_72 rfl ?_
        refine x_V2q lX9_332 (Rm.of rfl) (cc1 := 0) (cn1 := 0) rfl rfl (Nat.le_of_ble_eq_true rfl) dX9_digest_73 (by first | assumption | rfl | exact up_same | exact (up_ne (by omega)).trans (by assumption) | exact (up_ne (by assumption)).trans (by assumption)) (c_withHouse (dgH d p) hX' hd hp) ?_
        rintro _ h2 sz2 ⟨rfl, hz2, hX2, hF2⟩
        refine x_lstore dX9_digest_76 (Nat.le_of_ble_eq_true rfl) rfl ?_
        refine x_inc1 dX9_digest_77 rfl (Nat.le_of_ble_eq_true rfl) rfl ?_
        refine x_goto dX9_digest_80 ?_
        exact ih h2 sz2 (Nat.le_trans hz hz2) hX2 (hF.trans hF2)
  have A6 : ∀ w, w ≤ 8 → ∀ (h' : Hp) (sz' : Nat), sz ≤ sz' → XW h' sz' d → frX h h' → Ex Γ mX9_digest (gx_Z Γ mX9_digest (qWL h sz d (aDigest d))) 0 0 6 [.ref 4, .long (lacc 17 (fun w => aCount d (nI w)) w), .retAddr 0, .int (nI w)] [] h' sz' := by
    refine loopUp 8 (fun h' sz' hz hX' hF => ?_) (fun w hw ih h' sz' hz hX' hF => ?_)
    · obtain ⟨ss, h4⟩ := hX'.2.1.w4
      refine x_iload dX9_digest_6 rfl ?_
      refine x_k dX9_digest_7 ?_
      refine x_icmp_gt dX9_digest_9 (fun b9 => ?_) (fun b9 => ?_)
      · refine x_ldc2 kX9_324 dX9_digest_31 ?_
        refine x_lload dX9_digest_34 rfl ?_
        refine x_lmul dX9_digest_35 ?_
        refine x_aload dX9_digest_36 rfl ?_
        refine x_k dX9_digest_37 ?_
        refine x_V1q lX9_329 (Rm.of rfl) (cc1 := 0) (cn1 := 0) rfl rfl (Nat.le_of_ble_eq_true rfl) dX9_digest_38 (by first | assumption | rfl | exact up_same | exact (up_ne (by omega)).trans (by assumption) | exact (up_ne (by assumption)).trans (by assumption)) (c_fault 0 hX' hd) ?_
        rintro _ h2 sz2 ⟨rfl, hz2, hX2, hF2⟩
        obtain ⟨ss2, g4⟩ := hX2.2.1.w4
        rw [show aFault d 0 = fauH (d_n0 d) (d_b0 d) from rfl]
        refine x_i2l dX9_digest_41 ?_
        refine x_ladd dX9_digest_42 ?_
        refine x_lstore dX9_digest_43 (Nat.le_of_ble_eq_true rfl) rfl ?_
        refine x_ldc2 kX9_324 dX9_digest_44 ?_
        refine x_lload dX9_digest_47 rfl ?_
        refine x_lmul dX9_digest_48 ?_
        refine x_aload dX9_digest_49 rfl ?_
        refine x_k dX9_digest_50 ?_
        refine x_V1q lX9_329 (Rm.of rfl) (cc1 := 0) (cn1 := 0) rfl rfl (Nat.le_of_ble_eq_true rfl) dX9_digest_51 (by first | assumption | rfl | exact up_same | exact (up_ne (by omega)).trans (by assumption) | exact (up_ne (by assumption)).trans (by assumption)) (c_fault 1 hX2 hd) ?_
        rintro _ h3 sz3 ⟨rfl, hz3, hX3, hF3⟩
        rw [show aFault d 1 = fauP (d_n1 d) (d_b1 d) from rfl]
        refine x_i2l dX9_digest_54 ?_
        refine x_ladd dX9_digest_55 ?_
        refine x_lstore dX9_digest_56 (Nat.le_of_ble_eq_true rfl) rfl ?_
        refine x_k dX9_digest_57 ?_
        refine x_istore dX9_digest_58 (Nat.le_of_ble_eq_true rfl) rfl ?_
        exact A59 0 (Nat.zero_le _) h3 sz3 (by omega) hX3 ((hF.trans hF2).trans hF3)
      · exact absurd (by decide) b9
    · obtain ⟨ss, h4⟩ := hX'.2.1.w4
      refine x_iload dX9_digest_6 rfl ?_
      refine x_k dX9_digest_7 ?_
      refine x_icmp_gt dX9_digest_9 (fun b9 => ?_) (fun b9 => ?_)
      · exact absurd b9 (Int32.not_lt.mpr ((nI_leI (b := 7) (by omega) (by omega)).mpr (by omega)))
      · refine x_ldc2 kX9_324 dX9_digest_12 ?_
        refine x_lload dX9_digest_15 rfl ?_
        refine x_lmul dX9_digest_16 ?_
        refine x_aload dX9_digest_17 rfl ?_
        refine x_iload dX9_digest_18 rfl ?_
        refine x_V1q lX9_326 (Rm.of rfl) (cc1 := 0) (cn1 := 0) rfl rfl (Nat.le_of_ble_eq_true rfl) dX9_digest_19 (by first | assumption | rfl | exact up_same | exact (up_ne (by omega)).trans (by assumption) | exact (up_ne (by assumption)).trans (by assumption)) (c_count (nI w) hX' hd) ?_
        rintro _ h2 sz2 ⟨rfl, hz2, hX2, hF2⟩
        refine x_i2l dX9_digest_22 ?_
        refine x_ladd dX9_digest_23 ?_
        refine x_lstore dX9_digest_24 (Nat.le_of_ble_eq_true rfl) rfl ?_
        refine x_inc1 dX9_digest_25 rfl (Nat.le_of_ble_eq_true rfl) rfl ?_
        refine x_goto dX9_digest_28 ?_
        exact ih h2 sz2 (Nat.le_trans hz hz2) hX2 (hF.trans hF2)
  refine x_ldc2 kX9_322 dX9_digest_0 ?_
  refine x_lstore dX9_digest_3 (Nat.le_of_ble_eq_true rfl) rfl ?_
  refine x_k dX9_digest_4 ?_
  refine x_istore dX9_digest_5 (Nat.le_of_ble_eq_true rfl) rfl ?_
  exact A6 0 (Nat.zero_le _) h sz (Nat.le_refl _) hX (fun _ _ => rfl)
end Dig
