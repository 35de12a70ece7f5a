/-! deeds: ways as numbers -/
theorem way_ext {x y : Nat} (hx : x < 4096) (hy : y < 4096) (h : ∀ i, i < 4 → wown x i = wown y i) : x = y := by
  have h0 := h 0 (by omega)
  have h1 := h 1 (by omega)
  have h2 := h 2 (by omega)
  have h3 := h 3 (by omega)
  simp only [wown, Nat.reducePow] at h0 h1 h2 h3
  omega
theorem wown_lt (w i : Nat) : wown w i < 8 := Nat.mod_lt _ (by decide)
theorem wayOf_dig {H : Nat} {own : Nat → Nat} (hH : H ≤ 4) (ho : ∀ j, j < H → own j < 8) : wayOf H own < 4096 ∧ ∀ i, i < 4 → wown (wayOf H own) i = if i < H then own i else 0 := by
  have hc : H = 0 ∨ H = 1 ∨ H = 2 ∨ H = 3 ∨ H = 4 := by omega
  rcases hc with rfl | rfl | rfl | rfl | rfl
  · refine ⟨by show 0 < 4096; decide, fun i hi => ?_⟩
    rw [if_neg (by omega), wown, wayOf, sumN, Nat.zero_div]
  · have a0 := ho 0 (by omega)
    refine ⟨by simp only [wayOf, sumN, Nat.reducePow]; omega, fun i hi => ?_⟩
    have : i = 0 ∨ i = 1 ∨ i = 2 ∨ i = 3 := by omega
    rcases this with rfl | rfl | rfl | rfl <;> (simp only [wown, wayOf, sumN, Nat.reducePow, Nat.reduceLT, if_true, if_false]; omega)
  · have a0 := ho 0 (by omega)
    have a1 := ho 1 (by omega)
    refine ⟨by simp only [wayOf, sumN, Nat.reducePow]; omega, fun i hi => ?_⟩
    have : i = 0 ∨ i = 1 ∨ i = 2 ∨ i = 3 := by omega
    rcases this with rfl | rfl | rfl | rfl <;> (simp only [wown, wayOf, sumN, Nat.reducePow, Nat.reduceLT, if_true, if_false]; omega)
  · have a0 := ho 0 (by omega)
    have a1 := ho 1 (by omega)
    have a2 := ho 2 (by omega)
    refine ⟨by simp only [wayOf, sumN, Nat.reducePow]; omega, fun i hi => ?_⟩
    have : i = 0 ∨ i = 1 ∨ i = 2 ∨ i = 3 := by omega
    rcases this with rfl | rfl | rfl | rfl <;> (simp only [wown, wayOf, sumN, Nat.reducePow, Nat.reduceLT, if_true, if_false]; omega)
  · have a0 := ho 0 (by omega)
    have a1 := ho 1 (by omega)
    have a2 := ho 2 (by omega)
    have a3 := ho 3 (by omega)
    refine ⟨by simp only [wayOf, sumN, Nat.reducePow]; omega, fun i hi => ?_⟩
    have : i = 0 ∨ i = 1 ∨ i = 2 ∨ i = 3 := by omega
    rcases this with rfl | rfl | rfl | rfl <;> (simp only [wown, wayOf, sumN, Nat.reducePow, Nat.reduceLT, if_true, if_false]; omega)
def setW (way j b : Nat) : Nat := ndiff way (7 * 8 ^ j) ||| b * 8 ^ j
theorem p8 (j : Nat) : (8 : Nat) ^ j = 2 ^ (3 * j) := by rw [Nat.pow_mul]
theorem wown_bit (w i k : Nat) : (wown w i).testBit k = (decide (k < 3) && w.testBit (3 * i + k)) := by
  rw [wown, p8, show (8 : Nat) = 2 ^ 3 from rfl, Nat.testBit_mod_two_pow, Nat.testBit_div_two_pow, Nat.add_comm]
theorem b8_bit {b k : Nat} (hb : b < 8) (hk : 3 ≤ k) : b.testBit k = false := Nat.testBit_lt_two_pow (Nat.lt_of_lt_of_le hb (show 2 ^ 3 ≤ 2 ^ k from Nat.pow_le_pow_right (by decide) hk))
theorem setW_dig {way j b : Nat} (hb : b < 8) (i : Nat) : wown (setW way j b) i = if i = j then b else wown way i := by
  apply Nat.eq_of_testBit_eq
  intro k
  rw [wown_bit, setW, Nat.testBit_or, ndiff_bit, p8, show (7 : Nat) = 2 ^ 3 - 1 from rfl, Nat.testBit_mul_two_pow, Nat.testBit_mul_two_pow, Nat.testBit_two_pow_sub_one]
  by_cases e : i = j
  · subst e
    rw [if_pos rfl]
    by_cases hk : k < 3
    · have h1 : 3 * i ≤ 3 * i + k := by omega
      have h2 : 3 * i + k - 3 * i = k := by omega
      simp [hk, h2]
    · have hf : b.testBit k = false := b8_bit hb (by omega)
      simp [hk, hf]
  · rw [if_neg e, wown_bit]
    by_cases hk : k < 3
    · rcases Nat.lt_or_ge i j with hij | hij
      · have h1 : ¬ 3 * j ≤ 3 * i + k := by omega
        simp [hk, h1]
      · have h1 : 3 * j ≤ 3 * i + k := by omega
        have h2 : ¬ 3 * i + k - 3 * j < 3 := by omega
        have h3 : b.testBit (3 * i + k - 3 * j) = false := b8_bit hb (by omega)
        simp [hk, h1, h2, h3]
    · simp [hk]
theorem setW_lt {way j b : Nat} (hw : way < 4096) (hj : j < 4) (hb : b < 8) : setW way j b < 4096 := by
  have h1 : ndiff way (7 * 8 ^ j) < 2 ^ 12 := Nat.lt_of_le_of_lt (ndiff_le _ _) hw
  have h2 : b * 8 ^ j < 2 ^ 12 := by
    have : j = 0 ∨ j = 1 ∨ j = 2 ∨ j = 3 := by omega
    rcases this with rfl | rfl | rfl | rfl <;> (simp only [Nat.reducePow]; omega)
  exact Nat.or_lt_two_pow h1 h2
theorem wayOf_set {own : Nat → Nat} {k : Nat} (hk : k < 4) (ho : ∀ j, j < k + 1 → own j < 8) : setW (wayOf k own) k (own k) = wayOf (k + 1) own := by
  obtain ⟨l1, d1⟩ := wayOf_dig (H := k) (own := own) (by omega) (fun j hj => ho j (by omega))
  obtain ⟨l2, d2⟩ := wayOf_dig (H := k + 1) (own := own) (by omega) ho
  have hb := ho k (by omega)
  refine way_ext (setW_lt l1 hk hb) l2 (fun i hi => ?_)
  rw [setW_dig hb, d2 i hi]
  by_cases e : i = k
  · subst e; rw [if_pos rfl, if_pos (by omega)]
  · rw [if_neg e, d1 i hi]
    by_cases z : i < k
    · rw [if_pos z, if_pos (by omega)]
    · rw [if_neg z, if_neg (by omega)]
theorem i16 {m : Nat} (hm : m ≤ 4096) : (nI m).toInt16.toInt32 = nI m := by
  apply Int32.toInt_inj.mp
  rw [Int16.toInt_toInt32, Int32.toInt_toInt16, nI_toInt (by omega)]
  apply Int.bmod_eq_of_le <;> omega
theorem i16m : ((-1 : Int32)).toInt16.toInt32 = -1 := by decide
section DeedsA
variable {Γ : GX} {h : Hp} {sz : Nat} {d : DT}
theorem sh7 {j : Nat} (hj : j < 4) : (7 : Int32) <<< ((nI j * 3) &&& 31) = nI (7 * 8 ^ j) := by
  have : ∀ j : Nat, j < 4 → (7 : Int32) <<< ((nI j * 3) &&& 31) = nI (7 * 8 ^ j) := by decide +kernel
  exact this j hj
theorem shb {j b : Nat} (hj : j < 4) (hb : b < 8) : nI b <<< ((nI j * 3) &&& 31) = nI (b * 8 ^ j) := by
  have : ∀ j : Nat, j < 4 → ∀ b : Nat, b < 8 → nI b <<< ((nI j * 3) &&& 31) = nI (b * 8 ^ j) := by decide +kernel
  exact this j hj b hb
theorem r_withOwner {way j b : Nat} (hj : j < 4) (hb : b < 8) : Re Γ mX0_withOwner [.int (nI way), .int (nI j), .int (nI b)] h sz (some (.int (nI (setW way j b)))) h sz := by
  refine x_enter 1 (by decide) rfl ?_
  refine x_iload dX0_withOwner_0 rfl ?_
  refine x_k dX0_withOwner_1 ?_
  refine x_imul dX0_withOwner_2 ?_
  refine x_istore dX0_withOwner_3 (Nat.le_of_ble_eq_true rfl) rfl ?_
  refine x_iload dX0_withOwner_4 rfl ?_
  refine x_k dX0_withOwner_5 ?_
  refine x_iload dX0_withOwner_7 rfl ?_
  refine x_ishl dX0_withOwner_8 ?_
  refine x_k dX0_withOwner_9 ?_
  refine x_ixor dX0_withOwner_10 ?_
  refine x_iand dX0_withOwner_11 ?_
  refine x_iload dX0_withOwner_12 rfl ?_
  refine x_iload dX0_withOwner_13 rfl ?_
  refine x_ishl dX0_withOwner_14 ?_
  refine x_ior dX0_withOwner_15 ?_
  refine x_iret (ty := .int) dX0_withOwner_16 rfl rfl (Nat.zero_le _) (Nat.zero_le _) ?_
  exact ⟨by rw [sh7 hj, shb hj hb, fa_diff, fa_or]; rfl, rfl, rfl⟩
def hnd (way T b : Nat) : Nat → Nat
  | 0 => way
  | k + 1 => if T.testBit k then setW (hnd way T b k) k b else hnd way T b k
theorem hnd_dig {way T b : Nat} (hw : way < 4096) (hb : b < 8) : ∀ k, k ≤ 4 → hnd way T b k < 4096 ∧ ∀ i, wown (hnd way T b k) i = if i < k ∧ T.testBit i = true then b else wown way i
  | 0, _ => ⟨hw, fun i => by rw [hnd, if_neg (by omega)]⟩
  | k + 1, hk => by
    obtain ⟨l, dg⟩ := hnd_dig hw hb k (by omega)
    rw [hnd]
    by_cases z : T.testBit k = true
    · rw [if_pos z]
      refine ⟨setW_lt l (by omega) hb, fun i => ?_⟩
      rw [setW_dig hb, dg i]
      by_cases e : i = k
      · subst e; rw [if_pos rfl, if_pos ⟨by omega, z⟩]
      · rw [if_neg e]
        by_cases y : i < k ∧ T.testBit i = true
        · rw [if_pos y, if_pos ⟨by omega, y.2⟩]
        · rw [if_neg y, if_neg (fun x => y ⟨by omega, x.2⟩)]
    · rw [if_neg z]
      refine ⟨l, fun i => ?_⟩
      rw [dg i]
      by_cases y : i < k ∧ T.testBit i = true
      · rw [if_pos y, if_pos ⟨by omega, y.2⟩]
      · rw [if_neg y, if_neg (fun x => y ⟨by
          by_cases e : i = k
          · subst e; exact absurd x.2 z
          · omega, x.2⟩)]
theorem r_handedOver {way T b : Nat} (hT : T < 256) (hb : b < 8) : Re Γ mX0_handedOver [.int (nI way), .int (nI T), .int (nI b)] h sz (some (.int (nI (hnd way T b 4)))) h sz := by
  refine x_enter 2 (by decide) rfl ?_
  refine x_iload dX0_handedOver_0 rfl ?_
  refine x_istore dX0_handedOver_1 (Nat.le_of_ble_eq_true rfl) rfl ?_
  refine x_k dX0_handedOver_2 ?_
  refine x_istore dX0_handedOver_3 (Nat.le_of_ble_eq_true rfl) rfl ?_
  refine x_eq rfl rfl rfl (loopUp (P := fun k => Ex Γ mX0_handedOver _ 0 0 5 [.int (nI way), .int (nI T), .int (nI b), .int (nI (hnd way T b k)), .int (nI k)] [] h sz) 4 ?_ (fun k hk ih => ?_) 0 (Nat.zero_le _))
  · refine x_iload dX0_handedOver_5 rfl ?_
    refine x_k dX0_handedOver_7 ?_
    refine x_icmp_ge dX0_handedOver_8 (fun b8 => ?_) (fun b8 => ?_)
    · refine x_iload dX0_handedOver_35 rfl ?_
      refine x_iret (ty := .int) dX0_handedOver_36 rfl rfl (Nat.zero_le _) (Nat.zero_le _) ?_
      exact ⟨rfl, rfl, rfl⟩
    · exact absurd (Int32.le_refl _) b8
  · have e1 := bitN1 (m := T) (k := k) (by omega) (by omega)
    have ein : hnd way T b (k + 1) = if T.testBit k then setW (hnd way T b k) k b else hnd way T b k := rfl
    rw [ein] at ih
    refine x_iload dX0_handedOver_5 rfl ?_
    refine x_k dX0_handedOver_7 ?_
    refine x_icmp_ge dX0_handedOver_8 (fun b8 => ?_) (fun b8 => ?_)
    · exact absurd b8 (nI_ge (b := 4) hk (by decide))
    · refine x_iload dX0_handedOver_11 rfl ?_
      refine x_iload dX0_handedOver_12 rfl ?_
      refine x_ishr dX0_handedOver_14 ?_
      refine x_k dX0_handedOver_15 ?_
      refine x_iand dX0_handedOver_16 ?_
      refine x_k dX0_handedOver_17 ?_
      refine x_icmp_ne dX0_handedOver_18 (fun b18 => ?_) (fun b18 => ?_)
      · refine x_inc1 dX0_handedOver_29 rfl (Nat.le_of_ble_eq_true rfl) rfl ?_
        refine x_goto dX0_handedOver_32 ?_
        first
          | (have hz : T.testBit k = true := e1.mp (Classical.not_not.mp b18)
             rw [if_pos hz] at ih; exact ih)
          | (have hz : ¬ T.testBit k = true := fun z => b18 (e1.mpr z)
             rw [if_neg hz] at ih; exact ih)
      · refine x_iload dX0_handedOver_21 rfl ?_
        refine x_iload dX0_handedOver_22 rfl ?_
        refine x_iload dX0_handedOver_24 rfl ?_
        refine x_S3i lX0_48 (Rm.of rfl) (cc1 := 0) (cn1 := 0) rfl rfl (Nat.le_of_ble_eq_true rfl) dX0_handedOver_25 (r_withOwner (way := hnd way T b k) hk hb) ?_
        refine x_istore dX0_handedOver_28 (Nat.le_of_ble_eq_true rfl) rfl ?_
        refine x_inc1 dX0_handedOver_29 rfl (Nat.le_of_ble_eq_true rfl) rfl ?_
        refine x_goto dX0_handedOver_32 ?_
        first
          | (have hz : T.testBit k = true := e1.mp (Classical.not_not.mp b18)
             rw [if_pos hz] at ih; exact ih)
          | (have hz : ¬ T.testBit k = true := fun z => b18 (e1.mpr z)
             rw [if_neg hz] at ih; exact ih)
/-- what a sale of house hs to b makes of a way -/
theorem hnd_hw (hd : okD d) (hH : d_H d ≤ 4) {way hs b : Nat} (hw : way < 4096) (hz : ∀ i, i < 4 → d_H d ≤ i → wown way i = 0) (hb : b < 8) (hhs : hs < d_H d) : hnd way (salT (d_H d) (d_N d) (posN (d_H d) (d_b1 d)) ((d_L d).testBit 0) ((d_L d).testBit 1) ((d_L d).testBit 2) (wown way) (fun _ => 0) b hs) b 4 = hndW d way hs b := by
  obtain ⟨l1, d1⟩ := hnd_dig (T := salT (d_H d) (d_N d) (posN (d_H d) (d_b1 d)) ((d_L d).testBit 0) ((d_L d).testBit 1) ((d_L d).testBit 2) (wown way) (fun _ => 0) b hs) hw hb 4 (by omega)
  obtain ⟨l2, d2⟩ := wayOf_dig (H := d_H d) (own := fun j => if (salT (d_H d) (d_N d) (posN (d_H d) (d_b1 d)) ((d_L d).testBit 0) ((d_L d).testBit 1) ((d_L d).testBit 2) (wown way) (fun _ => 0) b hs).testBit j then b else wown way j) hH (fun j hj => by
    split
    · exact hb
    · exact wown_lt _ _)
  rw [hndW]
  refine way_ext l1 l2 (fun i hi => ?_)
  rw [d1 i, d2 i hi]
  by_cases y : i < d_H d
  · rw [if_pos y]
    by_cases x : (salT (d_H d) (d_N d) (posN (d_H d) (d_b1 d)) ((d_L d).testBit 0) ((d_L d).testBit 1) ((d_L d).testBit 2) (wown way) (fun _ => 0) b hs).testBit i = true
    · rw [if_pos ⟨hi, x⟩, if_pos x]
    · rw [if_neg (fun q => x q.2), if_neg x]
  · rw [if_neg y, if_neg (fun q => y (salT_H hhs q.2)), hz i hi (by omega)]
/-- what holds of the search always -/
def QI (d : DT) (s : QS) : Prop := s.2.2 = cntB (fun w => decide (s.1 w ≠ -1)) 4096 ∧ (∀ i, i < s.2.2 → s.2.1 i < 4096 ∧ (∀ j, j < 4 → d_H d ≤ j → wown (s.2.1 i) j = 0) ∧ ∃ m, m ≤ i ∧ s.1 (s.2.1 i) = nI m)
theorem cnt_upd {b : Nat → Bool} {w : Nat} (hb : b w = false) : ∀ n, cntB (fun i => if i = w then true else b i) n = cntB b n + if w < n then 1 else 0
  | 0 => rfl
  | n + 1 => by
    rw [cnt_s, cnt_s, cnt_upd hb n]
    by_cases e : n = w
    · subst e; rw [if_pos rfl, if_neg (by omega), if_pos (by omega), hb]; rfl
    · rw [if_neg e]
      by_cases z : w < n
      · rw [if_pos z, if_pos (by omega)]; omega
      · rw [if_neg z, if_neg (by omega)]; omega
theorem cnt_full {b : Nat → Bool} : ∀ {n w : Nat}, w < n → b w = false → cntB b n < n
  | 0, _, h, _ => absurd h (by omega)
  | n + 1, w, h, hb => by
    rw [cnt_s]
    by_cases e : w = n
    · subst e; rw [hb]; have := cnt_le b w; show cntB b w + 0 < w + 1; omega
    · have := cnt_full (n := n) (w := w) (by omega) hb
      have h2 := Bool.toNat_le (b n)
      omega
theorem QI.lt {s : QS} (hq : QI d s) {w : Nat} (hw : w < 4096) (h : s.1 w = -1) : s.2.2 < 4096 := by
  rw [hq.1]; exact cnt_full hw (by simp [h])
theorem QI.le {s : QS} (hq : QI d s) : s.2.2 ≤ 4096 := by rw [hq.1]; exact cnt_le _ _
theorem QI.rc {s : QS} (hq : QI d s) {w m : Nat} (hw : w < 4096) (hz : ∀ j, j < 4 → d_H d ≤ j → wown w j = 0) (hm : m ≤ s.2.2) : QI d (rch s w (nI m)) := by
  rw [rch]
  by_cases y : s.1 w = -1 ∧ s.2.2 < 4096
  · rw [if_pos y]
    have hml : m ≤ 4096 := by omega
    refine ⟨?_, fun i hi => ?_⟩
    · show s.2.2 + 1 = cntB (fun v => decide (upd s.1 w (nI m) v ≠ -1)) 4096
      have e : (fun v => decide (upd s.1 w (nI m) v ≠ -1)) = fun i => if i = w then true else decide (s.1 i ≠ -1) := by
        funext v
        by_cases ev : v = w
        · subst ev; rw [upd_same, if_pos rfl]; exact decide_eq_true (nI_nm1 (by omega))
        · rw [upd_ne ev, if_neg ev]
      rw [e, cnt_upd (by simp [y.1]), if_pos hw, ← hq.1]
    · have hi : i < s.2.2 + 1 := hi
      show (if i = s.2.2 then w else s.2.1 i) < 4096 ∧ (∀ j, j < 4 → d_H d ≤ j → wown (if i = s.2.2 then w else s.2.1 i) j = 0) ∧ ∃ m', m' ≤ i ∧ upd s.1 w (nI m) (if i = s.2.2 then w else s.2.1 i) = nI m'
      by_cases e : i = s.2.2
      · rw [if_pos e]; exact ⟨hw, hz, m, by omega, upd_same⟩
      · rw [if_neg e]
        obtain ⟨q1, q2, m', q3, q4⟩ := hq.2 i (by omega)
        refine ⟨q1, q2, m', q3, ?_⟩
        rw [upd_ne (fun z => by rw [z, y.1] at q4; exact nI_nm1 (by omega) q4.symm)]
        exact q4
  · rw [if_neg y]; exact hq
end DeedsA
