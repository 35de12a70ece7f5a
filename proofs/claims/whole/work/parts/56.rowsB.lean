/-! rows: how one ends -/
theorem fa_lor (a b : Nat) : lN a ||| lN b = lN (a ||| b) := by
  apply Int64.toBitVec_inj.1
  show BitVec.ofNat 64 a ||| BitVec.ofNat 64 b = BitVec.ofNat 64 (a ||| b)
  apply BitVec.eq_of_getLsbD_eq
  intro i hi
  simp [hi]
theorem lshr_N {n k : Nat} {D : Int64} (hn : n < 2 ^ 62) (hD : (D.toBitVec.smod 64).toNat = k) : lN n >>> D = lN (n / 2 ^ k) := by
  apply Int64.toInt_inj.mp
  have h2 : n / 2 ^ k ≤ n := Nat.div_le_self _ _
  have e : (lN n >>> D).toInt = (lN n).toInt >>> k := by
    rw [← hD]
    show ((lN n).toBitVec.sshiftRight (D.toBitVec.smod 64).toNat).toInt = _
    rw [BitVec.toInt_sshiftRight]; rfl
  rw [e, lN, lN, lg_ofNat_toInt (by omega), lg_ofNat_toInt (by omega), Int.shiftRight_eq_div_pow]
  rfl
theorem nand3 (m : Nat) : nI m &&& 3 = nI (m % 4) := by rw [show (3 : Int32) = nI (2 ^ 2 - 1) from rfl, fa_and, Nat.and_two_pow_sub_one_eq_mod]
theorem nand127 (m : Nat) : nI m &&& 127 = nI (m % 128) := by rw [show (127 : Int32) = nI (2 ^ 7 - 1) from rfl, fa_and, Nat.and_two_pow_sub_one_eq_mod]
theorem kb_sh {p : Nat} (hp : p < 4) : ((((nI p * 2).toInt64 &&& 63 : Int64)).toBitVec.smod 64).toNat = 2 * p := by
  have : ∀ p : Nat, p < 4 → ((((nI p * 2).toInt64 &&& 63 : Int64)).toBitVec.smod 64).toNat = 2 * p := by decide +kernel
  exact this p hp
theorem pb_sh {p : Nat} (hp : p < 4) : ((((8 + nI p * 7).toInt64 &&& 63 : Int64)).toBitVec.smod 64).toNat = 8 + 7 * p := by
  have : ∀ p : Nat, p < 4 → ((((8 + nI p * 7).toInt64 &&& 63 : Int64)).toBitVec.smod 64).toNat = 8 + 7 * p := by decide +kernel
  exact this p hp
theorem kb_get {n p : Nat} (hn : n < 2 ^ 40) (hp : p < 4) : (lN n >>> ((nI p * 2).toInt64 &&& 63)).toInt32 &&& 3 = nI (n / 4 ^ p % 4) := by
  rw [lshr_N (by omega) (kb_sh hp), lN_i, nand3, Nat.pow_mul]
theorem pb_get {n p : Nat} (hn : n < 2 ^ 40) (hp : p < 4) : (lN n >>> ((8 + nI p * 7).toInt64 &&& 63)).toInt32 &&& 127 = nI (n / (256 * 128 ^ p) % 128) := by
  rw [lshr_N (by omega) (pb_sh hp), lN_i, nand127, Nat.pow_add, Nat.pow_mul]
theorem kb_put {k p : Nat} (hk : k < 4) (hp : p < 4) : (nI k).toInt64 <<< ((nI p * 2).toInt64 &&& 63) = lN (4 ^ p * k) := by
  have : ∀ p : Nat, p < 4 → ∀ k : Nat, k < 4 → (nI k).toInt64 <<< ((nI p * 2).toInt64 &&& 63) = lN (4 ^ p * k) := by decide +kernel
  exact this p hp k hk
theorem pb_put {c q : Nat} (hc : c ≤ 9) (hq : q < 4) : (nI c).toInt64 <<< ((8 + nI q * 7).toInt64 &&& 63) = lN (c * (256 * 128 ^ q)) := by
  have : ∀ q : Nat, q < 4 → ∀ c : Nat, c < 10 → (nI c).toInt64 <<< ((8 + nI q * 7).toInt64 &&& 63) = lN (c * (256 * 128 ^ q)) := by decide +kernel
  exact this q hq c (by omega)
def kS (kp : Nat → Nat) : Nat → Nat
  | 0 => 0
  | p + 1 => kS kp p + 4 ^ p * kp p
def pS (own pr : Nat → Nat) (N : Nat) : Nat → Nat
  | 0 => 0
  | j + 1 => pS own pr N j + if own j < N then pr j * (256 * 128 ^ own j) else 0
theorem kS_lt {kp : Nat → Nat} : ∀ {n : Nat}, (∀ p, p < n → kp p < 4) → kS kp n < 4 ^ n
  | 0, _ => by show 0 < 1; decide
  | n + 1, h => by
    have h1 := kS_lt (n := n) (fun p hp => h p (by omega))
    have h2 := h n (by omega)
    have h3 : 4 ^ n * kp n ≤ 4 ^ n * 3 := Nat.mul_le_mul_left _ (by omega)
    rw [kS, Nat.pow_succ]; omega
theorem kS_or {kp : Nat → Nat} {p : Nat} (h : ∀ q, q < p → kp q < 4) : lN (kS kp p) ||| lN (4 ^ p * kp p) = lN (kS kp (p + 1)) := by
  have h1 := kS_lt h
  rw [fa_lor, kS, Nat.or_comm]
  have e : (4 : Nat) ^ p = 2 ^ (2 * p) := by rw [Nat.pow_mul]
  rw [e] at h1 ⊢
  rw [← Nat.two_pow_add_eq_or_of_lt h1, Nat.add_comm]
theorem kS_dig {kp : Nat → Nat} {N : Nat} (hN : N ≤ 4) (h : ∀ p, p < N → kp p < 4) (m : Nat) : kS kp N < 256 ∧ ∀ p, p < N → (kS kp N + 256 * m) / 4 ^ p % 4 = kp p := by
  have hc : N = 0 ∨ N = 1 ∨ N = 2 ∨ N = 3 ∨ N = 4 := by omega
  rcases hc with rfl | rfl | rfl | rfl | rfl
  · exact ⟨by show 0 < 256; decide, fun p hp => absurd hp (by omega)⟩
  · have h0 := h 0 (by omega)
    refine ⟨by simp only [kS, Nat.reducePow]; omega, fun p hp => ?_⟩
    have : p = 0 := by omega
    subst this; simp only [kS, Nat.reducePow]; omega
  · have h0 := h 0 (by omega)
    have h1 := h 1 (by omega)
    refine ⟨by simp only [kS, Nat.reducePow]; omega, fun p hp => ?_⟩
    have : p = 0 ∨ p = 1 := by omega
    rcases this with rfl | rfl <;> (simp only [kS, Nat.reducePow]; omega)
  · have h0 := h 0 (by omega)
    have h1 := h 1 (by omega)
    have h2 := h 2 (by omega)
    refine ⟨by simp only [kS, Nat.reducePow]; omega, fun p hp => ?_⟩
    have : p = 0 ∨ p = 1 ∨ p = 2 := by omega
    rcases this with rfl | rfl | rfl <;> (simp only [kS, Nat.reducePow]; omega)
  · have h0 := h 0 (by omega)
    have h1 := h 1 (by omega)
    have h2 := h 2 (by omega)
    have h3 := h 3 (by omega)
    refine ⟨by simp only [kS, Nat.reducePow]; omega, fun p hp => ?_⟩
    have : p = 0 ∨ p = 1 ∨ p = 2 ∨ p = 3 := by omega
    rcases this with rfl | rfl | rfl | rfl <;> (simp only [kS, Nat.reducePow]; omega)
def qS (own pr : Nat → Nat) (N p H : Nat) : Nat := sumN (fun j => if own j = p ∧ p < N then pr j else 0) H
theorem qS_le {own pr : Nat → Nat} {N p : Nat} : ∀ {H : Nat}, (∀ j, j < H → pr j ≤ 9) → qS own pr N p H ≤ 9 * H
  | 0, _ => Nat.le_refl _
  | H + 1, h => by
    have h1 := qS_le (own := own) (N := N) (p := p) (H := H) (fun j hj => h j (by omega))
    have h2 := h H (by omega)
    rw [qS] at h1 ⊢
    rw [sumN]
    split <;> omega
theorem pS_eq {own pr : Nat → Nat} {N : Nat} (hN : N ≤ 4) : ∀ H, pS own pr N H = 256 * (qS own pr N 0 H + 128 * qS own pr N 1 H + 16384 * qS own pr N 2 H + 2097152 * qS own pr N 3 H)
  | 0 => rfl
  | H + 1 => by
    have ih := pS_eq (own := own) (pr := pr) hN H
    rw [pS, ih]
    simp only [qS, sumN]
    by_cases hz : own H < N
    · rw [if_pos hz]
      have hc : own H = 0 ∨ own H = 1 ∨ own H = 2 ∨ own H = 3 := by omega
      rcases hc with e | e | e | e
      · have h0 : 0 < N := by omega
        rw [e]; simp only [h0, Nat.reducePow, and_self, if_true, Nat.reduceEqDiff, false_and, if_false]; omega
      · have h0 : 1 < N := by omega
        rw [e]; simp only [h0, Nat.reducePow, and_self, if_true, Nat.reduceEqDiff, false_and, if_false]; omega
      · have h0 : 2 < N := by omega
        rw [e]; simp only [h0, Nat.reducePow, and_self, if_true, Nat.reduceEqDiff, false_and, if_false]; omega
      · have h0 : 3 < N := by omega
        rw [e]; simp only [h0, Nat.reducePow, and_self, if_true, Nat.reduceEqDiff, false_and, if_false]; omega
    · rw [if_neg hz]
      have z : ∀ p, ¬ (own H = p ∧ p < N) := fun p y => hz (by omega)
      rw [if_neg (z 0), if_neg (z 1), if_neg (z 2), if_neg (z 3)]
      omega
theorem sumN_congr {f g : Nat → Nat} : ∀ {n : Nat}, (∀ i, i < n → f i = g i) → sumN f n = sumN g n
  | 0, _ => rfl
  | n + 1, e => by rw [sumN, sumN, sumN_congr (fun i hi => e i (by omega)), e n (by omega)]
theorem end_OK {d : DT} (hd : okD d) (hN : d_N d ≤ 4) {s : SS} (hk : ∀ p, p < d_N d → s.2.1 p < 4) : endOK d s (lN (kS s.2.1 (d_N d) + pS s.1 (priN (d_b0 d)) (d_N d) (d_H d))) := by
  have hH8 : d_H d ≤ 8 := (hN_ok hd.1.1).1
  have hpr : ∀ j, j < d_H d → priN (d_b0 d) j ≤ 9 := fun j hj => (priN_ok hd.1.1 hj).2
  have e := pS_eq (own := s.1) (pr := priN (d_b0 d)) hN (d_H d)
  have hq := fun p => qS_le (own := s.1) (N := d_N d) (p := p) hpr
  have q0 := hq 0
  have q1 := hq 1
  have q2 := hq 2
  have q3 := hq 3
  have ep : ∀ p, p < d_N d → prcS d s.1 p = qS s.1 (priN (d_b0 d)) (d_N d) p (d_H d) := fun p hp => by
    rw [prcS, qS]; exact sumN_congr (fun j _ => by simp only [hp, and_true])
  generalize hQ0 : qS s.1 (priN (d_b0 d)) (d_N d) 0 (d_H d) = Q0 at *
  generalize hQ1 : qS s.1 (priN (d_b0 d)) (d_N d) 1 (d_H d) = Q1 at *
  generalize hQ2 : qS s.1 (priN (d_b0 d)) (d_N d) 2 (d_H d) = Q2 at *
  generalize hQ3 : qS s.1 (priN (d_b0 d)) (d_N d) 3 (d_H d) = Q3 at *
  obtain ⟨k1, k2⟩ := kS_dig hN hk (Q0 + 128 * Q1 + 16384 * Q2 + 2097152 * Q3)
  refine ⟨_, rfl, by rw [e]; omega, fun p hp => ⟨by rw [e]; exact k2 p hp, ?_⟩⟩
  rw [ep p hp, e]
  have hc : p = 0 ∨ p = 1 ∨ p = 2 ∨ p = 3 := by omega
  rcases hc with rfl | rfl | rfl | rfl
  · rw [hQ0]; simp only [Nat.reducePow, Nat.reduceMul]; omega
  · rw [hQ1]; simp only [Nat.reducePow, Nat.reduceMul]; omega
  · rw [hQ2]; simp only [Nat.reducePow, Nat.reduceMul]; omega
  · rw [hQ3]; simp only [Nat.reducePow, Nat.reduceMul]; omega
theorem runF_kp {H N : Nat} {pos : Nat → Nat} {w c o : Bool} {own sh sb : Nat → Nat} : ∀ (k p : Nat), p < N → (runF H N pos w c o own sh sb k).2.1 p < N
  | 0, p, hp => hp
  | k + 1, p, hp => by
    have ih := runF_kp (H := H) (pos := pos) (w := w) (c := c) (o := o) (own := own) (sh := sh) (sb := sb) k p hp
    rw [runF]
    unfold sal
    split
    · rename_i hc
      dsimp only; split
      · exact hc.2
      · exact ih
    · exact ih
section RowsB
variable {Γ : GX} {h : Hp} {sz : Nat} {d : DT}
theorem r_endOf {en : Value} {sp si fi rk wk rs fr wy so dn ln : Int32} {pr f g kf tf : Nat → Int32} {s : SS} (h28 : h 28 = cR en (nI (d_N d)) sp si fi rk wk rs fr wy) (h29 : h 29 = cK 30 31 32 33 so dn ln) (h30 : h 30 = ia 8 f) (h32 : h 32 = ia 8 kf) (h10 : h 10 = cSt (nI (d_H d)) (nI (d_N d))) (h12 : h 12 = ia 8 pr) (hpr : ∀ j, j < d_H d → pr j = nI (priN (d_b0 d) j)) (hs : skF (d_H d) s f g kf tf) (hk : ∀ p, p < d_N d → s.2.1 p < 4) (hd : okD d) (hN : d_N d ≤ 4) : Re Γ mX2_endOf [.ref 28, .ref 10] h sz (some (.long (lN (kS s.2.1 (d_N d) + pS s.1 (priN (d_b0 d)) (d_N d) (d_H d))))) h sz := by
  refine x_enter 3 (by decide) rfl ?_
  have hH8 : d_H d ≤ 8 := (hN_ok hd.1.1).1
  have A42 : Ex Γ mX2_endOf (gx_Z Γ mX2_endOf (fun r' h' sz' => r' = some (.long (lN (kS s.2.1 (d_N d) + pS s.1 (priN (d_b0 d)) (d_N d) (d_H d)))) ∧ h' = h ∧ sz' = sz)) 0 0 42 [.ref 28, .ref 10, .long (lN (kS s.2.1 (d_N d))), .retAddr 0, .int (nI 0)] [] h sz := by
    refine loopUp (P := fun j => Ex Γ mX2_endOf _ 0 0 42 [.ref 28, .ref 10, .long (lN (kS s.2.1 (d_N d) + pS s.1 (priN (d_b0 d)) (d_N d) j)), .retAddr 0, .int (nI j)] [] h sz) (d_H d) ?_ (fun j hj ih => ?_) 0 (Nat.zero_le _)
    · refine x_iload dX2_endOf_42 rfl ?_
      refine x_aload dX2_endOf_44 rfl ?_
      refine x_get fX2_106 dX2_endOf_45 (by first | assumption | rfl | exact up_same | exact (up_ne (by omega)).trans (by assumption) | exact (up_ne (by assumption)).trans (by assumption)) ?_
      refine x_icmp_ge dX2_endOf_48 (fun b48 => ?_) (fun b48 => ?_)
      · refine x_lload dX2_endOf_102 rfl ?_
        refine x_lret dX2_endOf_103 rfl (Nat.zero_le _) (Nat.zero_le _) ?_
        exact ⟨rfl, rfl, rfl⟩
      · exact absurd (Int32.le_refl _) b48
    · have ho := hs.1 j hj
      have el : nI (d_N d) ≤ nI (s.1 j) ↔ d_N d ≤ s.1 j := nI_leI (by omega) (by omega)
      have hp9 := (priN_ok hd.1.1 hj).2
      rw [pS] at ih
      refine x_iload dX2_endOf_42 rfl ?_
      refine x_aload dX2_endOf_44 rfl ?_
      refine x_get fX2_106 dX2_endOf_45 (by first | assumption | rfl | exact up_same | exact (up_ne (by omega)).trans (by assumption) | exact (up_ne (by assumption)).trans (by assumption)) ?_
      refine x_icmp_ge dX2_endOf_48 (fun b48 => ?_) (fun b48 => ?_)
      · exact absurd b48 (nI_ge hj (by omega))
      · refine x_aload dX2_endOf_51 rfl ?_
        refine x_get fX2_12 dX2_endOf_52 (by first | assumption | rfl | exact up_same | exact (up_ne (by omega)).trans (by assumption) | exact (up_ne (by assumption)).trans (by assumption)) ?_
        refine x_get fX2_112 dX2_endOf_55 (by first | assumption | rfl | exact up_same | exact (up_ne (by omega)).trans (by assumption) | exact (up_ne (by assumption)).trans (by assumption)) ?_
        refine x_iload dX2_endOf_58 rfl ?_
        refine x_ialdn dX2_endOf_60 (by first | assumption | rfl | exact up_same | exact (up_ne (by omega)).trans (by assumption) | exact (up_ne (by assumption)).trans (by assumption)) ⟨by first | omega | decide, by decide⟩ ?_
        rw [ho.1]
        refine x_aload dX2_endOf_61 rfl ?_
        refine x_get fX2_35 dX2_endOf_62 (by first | assumption | rfl | exact up_same | exact (up_ne (by omega)).trans (by assumption) | exact (up_ne (by assumption)).trans (by assumption)) ?_
        refine x_icmp_ge dX2_endOf_65 (fun b65 => ?_) (fun b65 => ?_)
        · refine x_inc1 dX2_endOf_96 rfl (Nat.le_of_ble_eq_true rfl) rfl ?_
          refine x_goto dX2_endOf_99 ?_
          first
            | (have hz : ¬ s.1 j < d_N d := Nat.not_lt.mpr (el.mp b65)
               rw [if_neg hz, Nat.add_zero] at ih; exact ih)
            | (have hz : s.1 j < d_N d := Nat.not_le.mp (fun z => b65 (el.mpr z))
               rw [if_pos hz, ← Nat.add_assoc] at ih; exact ih)
        · refine x_lload dX2_endOf_68 rfl ?_
          refine x_aload dX2_endOf_69 rfl ?_
          refine x_get fX2_115 dX2_endOf_70 (by first | assumption | rfl | exact up_same | exact (up_ne (by omega)).trans (by assumption) | exact (up_ne (by assumption)).trans (by assumption)) ?_
          refine x_iload dX2_endOf_73 rfl ?_
          refine x_ialdn dX2_endOf_75 (by first | assumption | rfl | exact up_same | exact (up_ne (by omega)).trans (by assumption) | exact (up_ne (by assumption)).trans (by assumption)) ⟨by first | omega | decide, by decide⟩ ?_
          rw [hpr j hj]
          refine x_i2l dX2_endOf_76 ?_
          refine x_k dX2_endOf_77 ?_
          refine x_aload dX2_endOf_79 rfl ?_
          refine x_get fX2_12 dX2_endOf_80 (by first | assumption | rfl | exact up_same | exact (up_ne (by omega)).trans (by assumption) | exact (up_ne (by assumption)).trans (by assumption)) ?_
          refine x_get fX2_112 dX2_endOf_83 (by first | assumption | rfl | exact up_same | exact (up_ne (by omega)).trans (by assumption) | exact (up_ne (by assumption)).trans (by assumption)) ?_
          refine x_iload dX2_endOf_86 rfl ?_
          refine x_ialdn dX2_endOf_88 (by first | assumption | rfl | exact up_same | exact (up_ne (by omega)).trans (by assumption) | exact (up_ne (by assumption)).trans (by assumption)) ⟨by first | omega | decide, by decide⟩ ?_
          rw [ho.1]
          refine x_k dX2_endOf_89 ?_
          refine x_imul dX2_endOf_91 ?_
          refine x_iadd dX2_endOf_92 ?_
          refine x_lshl dX2_endOf_93 ?_
          rw [pb_put hp9 (by have := Nat.not_le.mp (fun z => b65 (el.mpr z)); omega)]
          refine x_ladd dX2_endOf_94 ?_
          rw [lN_add]
          refine x_lstore dX2_endOf_95 (Nat.le_of_ble_eq_true rfl) rfl ?_
          refine x_inc1 dX2_endOf_96 rfl (Nat.le_of_ble_eq_true rfl) rfl ?_
          refine x_goto dX2_endOf_99 ?_
          first
            | (have hz : ¬ s.1 j < d_N d := Nat.not_lt.mpr (el.mp b65)
               rw [if_neg hz, Nat.add_zero] at ih; exact ih)
            | (have hz : s.1 j < d_N d := Nat.not_le.mp (fun z => b65 (el.mpr z))
               rw [if_pos hz, ← Nat.add_assoc] at ih; exact ih)
  refine x_lconst (v := 0) dX2_endOf_0 (by decide) ?_
  refine x_lstore dX2_endOf_1 (Nat.le_of_ble_eq_true rfl) rfl ?_
  refine x_k dX2_endOf_2 ?_
  refine x_istore dX2_endOf_3 (Nat.le_of_ble_eq_true rfl) rfl ?_
  refine x_eq rfl rfl rfl (loopUp (P := fun p => Ex Γ mX2_endOf _ 0 0 5 [.ref 28, .ref 10, .long (lN (kS s.2.1 p)), .retAddr 0, .int (nI p)] [] h sz) (d_N d) ?_ (fun p hp ih => ?_) 0 (Nat.zero_le _))
  · refine x_iload dX2_endOf_5 rfl ?_
    refine x_aload dX2_endOf_7 rfl ?_
    refine x_get fX2_35 dX2_endOf_8 (by first | assumption | rfl | exact up_same | exact (up_ne (by omega)).trans (by assumption) | exact (up_ne (by assumption)).trans (by assumption)) ?_
    refine x_icmp_ge dX2_endOf_11 (fun b11 => ?_) (fun b11 => ?_)
    · refine x_k dX2_endOf_39 ?_
      refine x_istore dX2_endOf_40 (Nat.le_of_ble_eq_true rfl) rfl ?_
      exact A42
    · exact absurd (Int32.le_refl _) b11
  · refine x_iload dX2_endOf_5 rfl ?_
    refine x_aload dX2_endOf_7 rfl ?_
    refine x_get fX2_35 dX2_endOf_8 (by first | assumption | rfl | exact up_same | exact (up_ne (by omega)).trans (by assumption) | exact (up_ne (by assumption)).trans (by assumption)) ?_
    refine x_icmp_ge dX2_endOf_11 (fun b11 => ?_) (fun b11 => ?_)
    · exact absurd b11 (nI_ge hp (by omega))
    · refine x_lload dX2_endOf_14 rfl ?_
      refine x_aload dX2_endOf_15 rfl ?_
      refine x_get fX2_12 dX2_endOf_16 (by first | assumption | rfl | exact up_same | exact (up_ne (by omega)).trans (by assumption) | exact (up_ne (by assumption)).trans (by assumption)) ?_
      refine x_get fX2_109 dX2_endOf_19 (by first | assumption | rfl | exact up_same | exact (up_ne (by omega)).trans (by assumption) | exact (up_ne (by assumption)).trans (by assumption)) ?_
      refine x_iload dX2_endOf_22 rfl ?_
      refine x_ialdn dX2_endOf_24 (by first | assumption | rfl | exact up_same | exact (up_ne (by omega)).trans (by assumption) | exact (up_ne (by assumption)).trans (by assumption)) ⟨by first | omega | decide, by decide⟩ ?_
      rw [(hs.2.2.1 p (by omega)).1]
      refine x_i2l dX2_endOf_25 ?_
      refine x_iload dX2_endOf_26 rfl ?_
      refine x_k dX2_endOf_28 ?_
      refine x_imul dX2_endOf_29 ?_
      refine x_lshl dX2_endOf_30 ?_
      rw [kb_put (hk p hp) (by omega)]
      refine x_lor dX2_endOf_31 ?_
      rw [kS_or (fun q hq => hk q (by omega))]
      refine x_lstore dX2_endOf_32 (Nat.le_of_ble_eq_true rfl) rfl ?_
      refine x_inc1 dX2_endOf_33 rfl (Nat.le_of_ble_eq_true rfl) rfl ?_
      refine x_goto dX2_endOf_36 ?_
      exact ih
theorem r_keeperBy {s : SS} {x : Int64} {p : Nat} (he : endOK d s x) (hN : d_N d ≤ 4) (hp : p < d_N d) : Re Γ mX2_keeperBy [.long x, .int (nI p)] h sz (some (.int (nI (s.2.1 p)))) h sz := by
  obtain ⟨n, rfl, hn, hk⟩ := he
  refine x_enter 0 (by decide) rfl ?_
  have e := kb_get hn (p := p) (by omega)
  rw [(hk p hp).1] at e
  refine x_lload dX2_keeperBy_0 rfl ?_
  refine x_iload dX2_keeperBy_1 rfl ?_
  refine x_k dX2_keeperBy_2 ?_
  refine x_imul dX2_keeperBy_3 ?_
  refine x_lshr dX2_keeperBy_4 ?_
  refine x_l2i dX2_keeperBy_5 ?_
  refine x_k dX2_keeperBy_6 ?_
  refine x_iand dX2_keeperBy_7 ?_
  refine x_iret (ty := .int) dX2_keeperBy_8 rfl rfl (Nat.zero_le _) (Nat.zero_le _) ?_
  exact ⟨by rw [← e]; rfl, rfl, rfl⟩
theorem rwN_le {d : DT} (hd : okD d) (hN : d_N d ≤ 4) : rwN d ≤ 6561 := by
  have hH8 : d_H d ≤ 8 := (hN_ok hd.1.1).1
  rw [rwN]
  exact Nat.le_trans (Nat.pow_le_pow_left (show d_H d + 1 ≤ 9 by omega) _) (Nat.le_trans (Nat.pow_le_pow_right (by decide) hN) (by decide))
theorem rwN_pos (d : DT) : 0 < rwN d := Nat.pow_pos (by omega)
theorem r_endAt {k : Nat} {pe sp fi rk wk rs fr wy : Int32} {e : Nat → Int64} {r : Nat} (h28 : h 28 = cR (.ref k) pe sp (nI (rwN d)) fi rk wk rs fr wy) (hk : h k = la 6561 e) (hd : okD d) (hN : d_N d ≤ 4) (hr : r < rwN d) : Re Γ mX2_endAt [.ref 28, .int (nI r)] h sz (some (.long (e r))) h sz := by
  refine x_enter 0 (by decide) rfl ?_
  have hle := rwN_le hd hN
  refine x_aload dX2_endAt_0 rfl ?_
  refine x_get fX2_31 dX2_endAt_1 (by first | assumption | rfl | exact up_same | exact (up_ne (by omega)).trans (by assumption) | exact (up_ne (by assumption)).trans (by assumption)) ?_
  refine x_ifnull dX2_endAt_4 ?_
  refine x_iload dX2_endAt_7 rfl ?_
  refine x_if_lt dX2_endAt_8 (fun b8 => ?_) (fun b8 => ?_)
  · exact absurd b8 (nI_pos (by omega))
  · refine x_iload dX2_endAt_11 rfl ?_
    refine x_aload dX2_endAt_12 rfl ?_
    refine x_get fX2_42 dX2_endAt_13 (by first | assumption | rfl | exact up_same | exact (up_ne (by omega)).trans (by assumption) | exact (up_ne (by assumption)).trans (by assumption)) ?_
    refine x_icmp_lt dX2_endAt_16 (fun b16 => ?_) (fun b16 => ?_)
    · refine x_aload dX2_endAt_23 rfl ?_
      refine x_get fX2_31 dX2_endAt_24 (by first | assumption | rfl | exact up_same | exact (up_ne (by omega)).trans (by assumption) | exact (up_ne (by assumption)).trans (by assumption)) ?_
      refine x_iload dX2_endAt_27 rfl ?_
      refine x_laldn dX2_endAt_28 (by first | assumption | rfl | exact up_same | exact (up_ne (by omega)).trans (by assumption) | exact (up_ne (by assumption)).trans (by assumption)) ⟨by first | omega | decide, by decide⟩ ?_
      refine x_lret dX2_endAt_29 rfl (Nat.zero_le _) (Nat.zero_le _) ?_
      exact ⟨rfl, rfl, rfl⟩
    · exact absurd (nI_lt hr (by omega)) b16
theorem r_gainByX {k : Nat} {sp fi rk wk rs fr wy : Int32} {e : Nat → Int64} {s : SS} {r p : Nat} (h28 : h 28 = cR (.ref k) (nI (d_N d)) sp (nI (rwN d)) fi rk wk rs fr wy) (hk : h k = la 6561 e) (h25 : h 25 = cTa) (h26 : h 26 = ia 64 (d_w d)) (he : endOK d s (e r)) (hd : okD d) (hN : d_N d ≤ 4) (hr : r < rwN d) (hp : p < d_N d) (hs : ∀ q, q < d_N d → s.2.1 q < 4) : Re Γ mX2_gainBy [.ref 28, .int (nI r), .int (nI p), .ref 25] h sz (some (.int (gnS d s p))) h sz := by
  refine x_enter 4 (by decide) rfl ?_
  have eg : gnS d s p = accF (nI (prcS d s.1 p)) (wcf d s p) (d_N d) := by rw [accF_a, gnS, wthS]; rfl
  rw [eg]
  obtain ⟨n, en, hn, hkk⟩ := id he
  have e1 := pb_get hn (p := p) (by omega)
  rw [(hkk p hp).2] at e1
  refine x_aload dX2_gainBy_0 rfl ?_
  refine x_iload dX2_gainBy_1 rfl ?_
  refine x_V1l lX2_118 (Rm.of rfl) (cc1 := 0) (cn1 := 0) rfl rfl (Nat.le_of_ble_eq_true rfl) dX2_gainBy_2 (by first | assumption | rfl | exact up_same | exact (up_ne (by omega)).trans (by assumption) | exact (up_ne (by assumption)).trans (by assumption)) (r_endAt h28 hk hd hN hr) ?_
  refine x_lstore dX2_gainBy_5 (Nat.le_of_ble_eq_true rfl) rfl ?_
  refine x_lload dX2_gainBy_7 rfl ?_
  refine x_k dX2_gainBy_9 ?_
  refine x_iload dX2_gainBy_11 rfl ?_
  refine x_k dX2_gainBy_12 ?_
  refine x_imul dX2_gainBy_14 ?_
  refine x_iadd dX2_gainBy_15 ?_
  refine x_lshr dX2_gainBy_16 ?_
  refine x_l2i dX2_gainBy_17 ?_
  refine x_k dX2_gainBy_18 ?_
  refine x_iand dX2_gainBy_20 ?_
  refine x_istore dX2_gainBy_21 (Nat.le_of_ble_eq_true rfl) rfl ?_
  refine x_k dX2_gainBy_23 ?_
  refine x_istore dX2_gainBy_24 (Nat.le_of_ble_eq_true rfl) rfl ?_
  refine x_eq (by rw [← e1, en]; rfl) rfl rfl (loopUp (P := fun q => Ex Γ mX2_gainBy _ 0 0 26 [.ref 28, .int (nI r), .int (nI p), .ref 25, .long (e r), .retAddr 0, .int (accF (nI (prcS d s.1 p)) (wcf d s p) q), .int (nI q)] [] h sz) (d_N d) ?_ (fun q hq ih => ?_) 0 (Nat.zero_le _))
  · refine x_iload dX2_gainBy_26 rfl ?_
    refine x_aload dX2_gainBy_28 rfl ?_
    refine x_get fX2_35 dX2_gainBy_29 (by first | assumption | rfl | exact up_same | exact (up_ne (by omega)).trans (by assumption) | exact (up_ne (by assumption)).trans (by assumption)) ?_
    refine x_icmp_ge dX2_gainBy_32 (fun b32 => ?_) (fun b32 => ?_)
    · refine x_iload dX2_gainBy_70 rfl ?_
      refine x_iret (ty := .int) dX2_gainBy_72 rfl rfl (Nat.zero_le _) (Nat.zero_le _) ?_
      exact ⟨rfl, rfl, rfl⟩
    · exact absurd (Int32.le_refl _) b32
  · have q1 : nI q = nI p ↔ q = p := nI_eq (by omega) (by omega)
    have q2 : nI (s.2.1 q) = nI p ↔ s.2.1 q = p := nI_eq (by have := hs q hq; omega) (by omega)
    rw [accF, wcf] at ih
    refine x_iload dX2_gainBy_26 rfl ?_
    refine x_aload dX2_gainBy_28 rfl ?_
    refine x_get fX2_35 dX2_gainBy_29 (by first | assumption | rfl | exact up_same | exact (up_ne (by omega)).trans (by assumption) | exact (up_ne (by assumption)).trans (by assumption)) ?_
    refine x_icmp_ge dX2_gainBy_32 (fun b32 => ?_) (fun b32 => ?_)
    · exact absurd b32 (nI_ge hq (by omega))
    · refine x_iload dX2_gainBy_35 rfl ?_
      refine x_iload dX2_gainBy_37 rfl ?_
      refine x_icmp_eq dX2_gainBy_38 (fun b38 => ?_) (fun b38 => ?_)
      · refine x_inc1 dX2_gainBy_64 rfl (Nat.le_of_ble_eq_true rfl) rfl ?_
        refine x_goto dX2_gainBy_67 ?_
        first
          | (have hz : q ≠ p ∧ s.2.1 q = p := ⟨fun z => b38 (q1.mpr z), q2.mp (Classical.not_not.mp b49)⟩
             rw [if_pos hz] at ih; exact ih)
          | (have hz : ¬ (q ≠ p ∧ s.2.1 q = p) := fun z => b49 (q2.mpr z.2)
             rw [if_neg hz, Int32.add_zero] at ih; exact ih)
          | (have hz : ¬ (q ≠ p ∧ s.2.1 q = p) := fun z => z.1 (q1.mp b38)
             rw [if_neg hz, Int32.add_zero] at ih; exact ih)
      · refine x_lload dX2_gainBy_41 rfl ?_
        refine x_iload dX2_gainBy_43 rfl ?_
        refine x_S2i lX2_122 (Rm.of rfl) (cc1 := 0) (cn1 := 0) rfl rfl (Nat.le_of_ble_eq_true rfl) dX2_gainBy_45 (r_keeperBy he hN hq) ?_
        refine x_iload dX2_gainBy_48 rfl ?_
        refine x_icmp_ne dX2_gainBy_49 (fun b49 => ?_) (fun b49 => ?_)
        · refine x_inc1 dX2_gainBy_64 rfl (Nat.le_of_ble_eq_true rfl) rfl ?_
          refine x_goto dX2_gainBy_67 ?_
          first
            | (have hz : q ≠ p ∧ s.2.1 q = p := ⟨fun z => b38 (q1.mpr z), q2.mp (Classical.not_not.mp b49)⟩
               rw [if_pos hz] at ih; exact ih)
            | (have hz : ¬ (q ≠ p ∧ s.2.1 q = p) := fun z => b49 (q2.mpr z.2)
               rw [if_neg hz, Int32.add_zero] at ih; exact ih)
            | (have hz : ¬ (q ≠ p ∧ s.2.1 q = p) := fun z => z.1 (q1.mp b38)
               rw [if_neg hz, Int32.add_zero] at ih; exact ih)
        · refine x_iload dX2_gainBy_52 rfl ?_
          refine x_aload dX2_gainBy_54 rfl ?_
          refine x_iload dX2_gainBy_55 rfl ?_
          refine x_iload dX2_gainBy_56 rfl ?_
          refine x_V2i lX2_126 (Rm.of rfl) (cc1 := 0) (cn1 := 0) rfl rfl (Nat.le_of_ble_eq_true rfl) dX2_gainBy_58 (by first | assumption | rfl | exact up_same | exact (up_ne (by omega)).trans (by assumption) | exact (up_ne (by assumption)).trans (by assumption)) (r_worthOf (q := p) (p := q) h25 h26 (by omega) (by omega)) ?_
          refine x_iadd dX2_gainBy_61 ?_
          refine x_istore dX2_gainBy_62 (Nat.le_of_ble_eq_true rfl) rfl ?_
          refine x_inc1 dX2_gainBy_64 rfl (Nat.le_of_ble_eq_true rfl) rfl ?_
          refine x_goto dX2_gainBy_67 ?_
          first
            | (have hz : q ≠ p ∧ s.2.1 q = p := ⟨fun z => b38 (q1.mpr z), q2.mp (Classical.not_not.mp b49)⟩
               rw [if_pos hz] at ih; exact ih)
            | (have hz : ¬ (q ≠ p ∧ s.2.1 q = p) := fun z => b49 (q2.mpr z.2)
               rw [if_neg hz, Int32.add_zero] at ih; exact ih)
            | (have hz : ¬ (q ≠ p ∧ s.2.1 q = p) := fun z => z.1 (q1.mp b38)
               rw [if_neg hz, Int32.add_zero] at ih; exact ih)
theorem r_spotBit {s : Nat} (hs : s < 9) : Re Γ mX2_spotBit [.int (nI s)] h sz (some (.int (nI (sptB s)))) h sz := by
  refine x_enter 0 (by decide) rfl ?_
  have ez : nI s = 0 ↔ s = 0 := nI_eq (b := 0) (by omega) (by omega)
  have hz : ∀ s : Nat, s < 9 → s ≠ 0 → (1 : Int32) <<< ((nI s - 1) &&& 31) = nI (sptB s) := by decide +kernel
  refine x_iload dX2_spotBit_0 rfl ?_
  refine x_if_ne dX2_spotBit_1 (fun b1 => ?_) (fun b1 => ?_)
  · refine x_k dX2_spotBit_10 ?_
    refine x_iload dX2_spotBit_11 rfl ?_
    refine x_k dX2_spotBit_12 ?_
    refine x_isub dX2_spotBit_13 ?_
    refine x_ishl dX2_spotBit_14 ?_
    refine x_iret (ty := .int) dX2_spotBit_15 rfl rfl (Nat.zero_le _) (Nat.zero_le _) ?_
    first
      | (have hy : s = 0 := ez.mp (Classical.not_not.mp b1)
         subst hy; exact ⟨rfl, rfl, rfl⟩)
      | exact ⟨by rw [hz s hs (fun y => b1 (ez.mpr y))], rfl, rfl⟩
  · refine x_k dX2_spotBit_4 ?_
    refine x_goto dX2_spotBit_7 ?_
    refine x_iret (ty := .int) dX2_spotBit_15 rfl rfl (Nat.zero_le _) (Nat.zero_le _) ?_
    first
      | (have hy : s = 0 := ez.mp (Classical.not_not.mp b1)
         subst hy; exact ⟨rfl, rfl, rfl⟩)
      | exact ⟨by rw [hz s hs (fun y => b1 (ez.mpr y))], rfl, rfl⟩
theorem r_spotIn {en : Value} {si fi rk wk rs fr wy : Int32} {st : Nat → Int32} {r p : Nat} (h28 : h 28 = cR en (nI (d_N d)) (nI (d_H d + 1)) si fi rk wk rs fr wy) (h36 : h 36 = ia 4 st) (hst : ∀ p, p < d_N d → st p = nI ((d_H d + 1) ^ (d_N d - 1 - p))) (hd : okD d) (hN : d_N d ≤ 4) (hr : r < rwN d) (hp : p < d_N d) : Re Γ mX2_spotIn [.ref 28, .int (nI r), .int (nI p)] h sz (some (.int (nI (rwP d r p)))) h sz := by
  refine x_enter 0 (by decide) rfl ?_
  have hH8 : d_H d ≤ 8 := (hN_ok hd.1.1).1
  have hle := rwN_le hd hN
  have hs0 : 0 < (d_H d + 1) ^ (d_N d - 1 - p) := Nat.pow_pos (by omega)
  have hs1 : (d_H d + 1) ^ (d_N d - 1 - p) ≤ rwN d := Nat.pow_le_pow_right (by omega) (by omega)
  have hdl : r / (d_H d + 1) ^ (d_N d - 1 - p) ≤ r := Nat.div_le_self _ _
  have e1 : nI ((d_H d + 1) ^ (d_N d - 1 - p)) < 1 ↔ (d_H d + 1) ^ (d_N d - 1 - p) < 1 := nI_ltI (b := 1) (by omega) (by omega)
  have e2 : 1 ≤ nI (d_H d + 1) ↔ 1 ≤ d_H d + 1 := nI_leI (a := 1) (by omega) (by omega)
  rw [rwP]
  generalize hg : (d_H d + 1) ^ (d_N d - 1 - p) = g at *
  refine x_iload dX2_spotIn_0 rfl ?_
  refine x_if_lt dX2_spotIn_1 (fun b1 => ?_) (fun b1 => ?_)
  · exact absurd b1 (nI_pos (by omega))
  · refine x_iload dX2_spotIn_4 rfl ?_
    refine x_if_lt dX2_spotIn_5 (fun b5 => ?_) (fun b5 => ?_)
    · exact absurd b5 (nI_pos (by omega))
    · refine x_iload dX2_spotIn_8 rfl ?_
      refine x_aload dX2_spotIn_9 rfl ?_
      refine x_get fX2_35 dX2_spotIn_10 (by first | assumption | rfl | exact up_same | exact (up_ne (by omega)).trans (by assumption) | exact (up_ne (by assumption)).trans (by assumption)) ?_
      refine x_icmp_ge dX2_spotIn_13 (fun b13 => ?_) (fun b13 => ?_)
      · exact absurd b13 (nI_ge hp (by omega))
      · refine x_aload dX2_spotIn_16 rfl ?_
        refine x_get fX2_25 dX2_spotIn_17 (by first | assumption | rfl | exact up_same | exact (up_ne (by omega)).trans (by assumption) | exact (up_ne (by assumption)).trans (by assumption)) ?_
        refine x_iload dX2_spotIn_20 rfl ?_
        refine x_ialdn dX2_spotIn_21 (by first | assumption | rfl | exact up_same | exact (up_ne (by omega)).trans (by assumption) | exact (up_ne (by assumption)).trans (by assumption)) ⟨by first | omega | decide, by decide⟩ ?_
        rw [hst p hp, hg]
        refine x_k dX2_spotIn_22 ?_
        refine x_icmp_lt dX2_spotIn_23 (fun b23 => ?_) (fun b23 => ?_)
        · exact absurd (e1.mp b23) (by omega)
        · refine x_aload dX2_spotIn_26 rfl ?_
          refine x_get fX2_39 dX2_spotIn_27 (by first | assumption | rfl | exact up_same | exact (up_ne (by omega)).trans (by assumption) | exact (up_ne (by assumption)).trans (by assumption)) ?_
          refine x_k dX2_spotIn_30 ?_
          refine x_icmp_ge dX2_spotIn_31 (fun b31 => ?_) (fun b31 => ?_)
          · refine x_iload dX2_spotIn_36 rfl ?_
            refine x_aload dX2_spotIn_37 rfl ?_
            refine x_get fX2_25 dX2_spotIn_38 (by first | assumption | rfl | exact up_same | exact (up_ne (by omega)).trans (by assumption) | exact (up_ne (by assumption)).trans (by assumption)) ?_
            refine x_iload dX2_spotIn_41 rfl ?_
            refine x_ialdn dX2_spotIn_42 (by first | assumption | rfl | exact up_same | exact (up_ne (by omega)).trans (by assumption) | exact (up_ne (by assumption)).trans (by assumption)) ⟨by first | omega | decide, by decide⟩ ?_
            rw [hst p hp, hg]
            refine x_idivn dX2_spotIn_43 (by omega) ⟨by omega, by omega⟩ ?_
            refine x_aload dX2_spotIn_44 rfl ?_
            refine x_get fX2_39 dX2_spotIn_45 (by first | assumption | rfl | exact up_same | exact (up_ne (by omega)).trans (by assumption) | exact (up_ne (by assumption)).trans (by assumption)) ?_
            refine x_iremn dX2_spotIn_48 (by omega) ⟨by omega, by omega⟩ ?_
            refine x_iret (ty := .int) dX2_spotIn_49 rfl rfl (Nat.zero_le _) (Nat.zero_le _) ?_
            exact ⟨rfl, rfl, rfl⟩
          · exact absurd (e2.mpr (by omega)) b31
end RowsB
