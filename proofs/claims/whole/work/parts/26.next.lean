/-- the cells of a stroke say s -/
def skF (H : Nat) (s : SS) (f g kf tf : Nat → Int32) : Prop := (∀ j, j < H → f j = nI (s.1 j) ∧ s.1 j < 8) ∧ (∀ p, p < 8 → g p = nI (msk (fun j => decide (s.1 j = p)) H)) ∧ (∀ p, p < 8 → kf p = nI (s.2.1 p) ∧ s.2.1 p < 8) ∧ ∀ p, p < 8 → tf p = nI (s.2.2.1 p)
def soN (tms : Nat → Nat) : Int32 := nI (msk (fun p => decide (tms p ≠ 0)) 8)
theorem sal_no {H N : Nat} {pos : Nat → Nat} {w c o : Bool} {s : SS} {hs b : Nat} (h : ¬ (hs < H ∧ b < N)) : sal H N pos w c o s hs b = (s.1, s.2.1, s.2.2.1, 0) := if_neg h
theorem soN_or {H N : Nat} {pos : Nat → Nat} {w c o : Bool} {s : SS} {hs b : Nat} (h : hs < H ∧ b < N) : soN s.2.2.1 ||| nI (msk (salS H N pos w c o s.1 s.2.2.1 b hs) 8) = soN (sal H N pos w c o s hs b).2.2.1 := by
  rw [soN, fa_or, soN]
  refine congrArg nI ?_
  apply Nat.eq_of_testBit_eq
  intro p
  rw [Nat.testBit_or, msk_bit, msk_bit, msk_bit, sal, if_pos h]
  dsimp only
  by_cases hp : p < 8
  · by_cases hq : salS H N pos w c o s.1 s.2.2.1 b hs p = true
    · simp [hp, hq]
    · simp [hp, hq]
  · simp [hp]
theorem skF_sal {H N : Nat} {pos : Nat → Nat} {w c o : Bool} {s : SS} {hs b : Nat} {f g kf tf : Nat → Int32} (h : hs < H ∧ b < N) (hN : N ≤ 8) (hk : skF H s f g kf tf) (hH : H ≤ 8) :
    skF H (sal H N pos w c o s hs b) (hoF f b (salT H N pos w c o s.1 s.2.2.1 b hs) 8) (upd (hoG g s.1 H (salT H N pos w c o s.1 s.2.2.1 b hs) 8) b (hoG g s.1 H (salT H N pos w c o s.1 s.2.2.1 b hs) 8 b ||| nI (salT H N pos w c o s.1 s.2.2.1 b hs))) (hoF kf b (msk (salS H N pos w c o s.1 s.2.2.1 b hs) 8) 8) (tmF tf (msk (salS H N pos w c o s.1 s.2.2.1 b hs) 8) 8) := by
  obtain ⟨k1, k2, k3, k4⟩ := hk
  have hb : b < 8 := by omega
  rw [sal, if_pos h]
  refine ⟨fun j hj => ?_, fun p hp => ?_, fun p hp => ?_, fun p hp => ?_⟩
  · dsimp only
    have h8 : j < 8 := by omega
    by_cases hq : (salT H N pos w c o s.1 s.2.2.1 b hs).testBit j = true
    · simp [hoF, h8, hq]; exact hb
    · simp [hoF, hq]; exact k1 j hj
  · dsimp only
    by_cases e : p = b
    · subst e
      simp only [upd, if_true, hoG, if_pos hp]
      rw [fa_or]
      refine congrArg nI ?_
      apply Nat.eq_of_testBit_eq
      intro j
      rw [Nat.testBit_or, msk_bit, msk_bit]
      by_cases hq : (salT H N pos w c o s.1 s.2.2.1 p hs).testBit j = true
      · have := salT_H h.1 hq
        simp [this, hq]
      · simp [hq]
    · simp only [upd, if_neg e, hoG, if_pos hp]
      refine congrArg nI (msk_congr (fun j hj => ?_))
      have h8 : j < 8 := by omega
      by_cases hq : (salT H N pos w c o s.1 s.2.2.1 b hs).testBit j = true
      · have : ¬ b = p := fun z => e z.symm
        simp [h8, this, hq]
      · simp [hq]
  · dsimp only
    rw [hoF, msk_bit]
    by_cases hq : salS H N pos w c o s.1 s.2.2.1 b hs p = true
    · simp [hp, hq]; exact hb
    · simp [hq]; exact k3 p hp
  · dsimp only
    rw [tmF, msk_bit]
    by_cases hq : salS H N pos w c o s.1 s.2.2.1 b hs p = true
    · simp [hp, hq]; rw [k4 p hp, nI_1]
    · simp [hq]; exact k4 p hp
theorem and255 {T S : Nat} (hT : T < 256) (hS : S < 256) : nI (T ||| S * 256) &&& 255 = nI T := by
  rw [show (255 : Int32) = nI (2 ^ 8 - 1) from rfl, fa_and, Nat.and_two_pow_sub_one_eq_mod]
  refine congrArg nI ?_
  apply Nat.eq_of_testBit_eq
  intro i
  rw [Nat.testBit_mod_two_pow, Nat.testBit_or, show S * 256 = 2 ^ 8 * S by omega, Nat.testBit_two_pow_mul]
  by_cases h : i < 8
  · have : ¬ 8 ≤ i := by omega
    simp [h, this]
  · have : T.testBit i = false := Nat.testBit_lt_two_pow (Nat.lt_of_lt_of_le hT (Nat.pow_le_pow_right (n := 2) (i := 8) (by decide) (by omega)))
    simp [h, this]
theorem shr8 {T S : Nat} (hT : T < 256) (hS : S < 256) : nI (T ||| S * 256) >>> ((8 : Int32) &&& 31) = nI S := by
  have hlt : T ||| S * 256 < 2 ^ 16 := Nat.or_lt_two_pow (n := 16) (by omega) (by omega)
  rw [show (8 : Int32) = nI 8 from rfl, shrN (k := 8) (by omega) (by decide)]
  refine congrArg nI ?_
  apply Nat.eq_of_testBit_eq
  intro i
  rw [Nat.testBit_div_two_pow, Nat.testBit_or, show S * 256 = 2 ^ 8 * S by omega, Nat.testBit_two_pow_mul]
  have : T.testBit (i + 8) = false := Nat.testBit_lt_two_pow (Nat.lt_of_lt_of_le hT (Nat.pow_le_pow_right (n := 2) (i := 8) (by decide) (by omega)))
  have h8 : 8 ≤ i + 8 := by omega
  simp [this, h8]
section Next
variable {Γ : GX} {h : Hp} {sz : Nat}
abbrev skH_20 (h : Hp) (f g kf tf : Nat → Int32) (so dn ln : Int32) : Hp := va_up (va_up (va_up (va_up (va_up h 21 (ia 8 f)) 22 (ia 8 g)) 23 (ia 8 kf)) 24 (ia 8 tf)) 20 (cK 21 22 23 24 so dn ln)
def qNx_20 (h : Hp) (sz H k : Nat) (s : SS) : QT := fun r h' sz' => r = none ∧ sz = sz' ∧ ∃ f g kf tf : Nat → Int32, skF H s f g kf tf ∧ h' = skH_20 h f g kf tf (soN s.2.2.1) (nI k) (nI s.2.2.2)
theorem r_next_20 {ln : Int32} {f g kf tf ins shF sbF : Nat → Int32} {H N L k ns : Nat} {s : SS} {pos sh sb : Nat → Nat} (hA : h 20 = cK 21 22 23 24 (soN s.2.2.1) (nI k) ln) (hB : h 21 = ia 8 f) (hC : h 22 = ia 8 g) (hD : h 23 = ia 8 kf) (hE : h 24 = ia 8 tf) (hI : h 16 = ia 9 ins) (h10 : h 10 = cSt (nI H) (nI N)) (h17 : h 17 = cSa (nI L) (nI ns)) (h18 : h 18 = ia 12 shF) (h19 : h 19 = ia 12 sbF) (hk : skF H s f g kf tf) (hins : ∀ z, z < 9 → ins z = nI (insM N pos z)) (hsh : ∀ i, i < ns → shF i = nI (sh i) ∧ sh i < 8 ∧ sbF i = nI (sb i) ∧ sb i < 8) (hkn : k < ns) (hns : ns ≤ 12) (hH : H ≤ 8) (hN : N ≤ 8) (hL : L < 8) :
    Rn Γ mX6_next [.ref 20, .ref 10, .ref 16, .ref 17] h sz (qNx_20 h sz H (k + 1) (sal H N pos (L.testBit 0) (L.testBit 1) (L.testBit 2) s (sh k) (sb k))) := by
  refine x_enter 3 (by decide) rfl ?_
  obtain ⟨s1, s2, s3, s4⟩ := hsh k hkn
  have el : nI (sh k) < nI H ↔ sh k < H := nI_ltI (by omega) (by omega)
  have el2 : nI (sb k) < nI N ↔ sb k < N := nI_ltI (by omega) (by omega)
  have gl : nI H ≤ nI (sh k) ↔ H ≤ sh k := nI_leI (by omega) (by omega)
  have gl2 : nI N ≤ nI (sb k) ↔ N ≤ sb k := nI_leI (by omega) (by omega)
  have hTl : salT H N pos (L.testBit 0) (L.testBit 1) (L.testBit 2) s.1 s.2.2.1 (sb k) (sh k) < 256 := clo_lt _ _
  have hSl : msk (salS H N pos (L.testBit 0) (L.testBit 1) (L.testBit 2) s.1 s.2.2.1 (sb k) (sh k)) 8 < 256 := msk_lt _ 8
  have hno : ¬ (sh k < H ∧ sb k < N) → qNx_20 h sz H (k + 1) (sal H N pos (L.testBit 0) (L.testBit 1) (L.testBit 2) s (sh k) (sb k)) none (va_up (va_up h 20 (cK 21 22 23 24 (soN s.2.2.1) (nI (k + 1)) ln)) 20 (cK 21 22 23 24 (soN s.2.2.1) (nI (k + 1)) 0)) sz := by
    intro q
    rw [sal_no q]
    exact ⟨rfl, rfl, f, g, kf, tf, hk, by rw [up_up, skH_20, up_id hB, up_id hC, up_id hD, up_id hE]; rfl⟩
  refine x_aload dX6_next_0 rfl ?_
  refine x_get fX6_28 dX6_next_1 (by first | assumption | rfl) ?_
  refine x_aload dX6_next_4 rfl ?_
  refine x_get fX6_55 dX6_next_5 (by first | assumption | rfl) ?_
  refine x_icmp_lt dX6_next_8 (fun b8 => ?_) (fun b8 => ?_)
  · refine x_aload dX6_next_12 rfl ?_
    refine x_get fX6_60 dX6_next_13 (by first | assumption | rfl) ?_
    refine x_aload dX6_next_16 rfl ?_
    refine x_get fX6_28 dX6_next_17 (by first | assumption | rfl) ?_
    refine x_ialdn dX6_next_20 (by first | assumption | rfl) ⟨by first | omega | decide, by decide⟩ ?_
    rw [s1]
    refine x_istore dX6_next_21 (Nat.le_of_ble_eq_true rfl) rfl ?_
    refine x_aload dX6_next_23 rfl ?_
    refine x_get fX6_63 dX6_next_24 (by first | assumption | rfl) ?_
    refine x_aload dX6_next_27 rfl ?_
    refine x_get fX6_28 dX6_next_28 (by first | assumption | rfl) ?_
    refine x_ialdn dX6_next_31 (by first | assumption | rfl) ⟨by first | omega | decide, by decide⟩ ?_
    rw [s3]
    refine x_istore dX6_next_32 (Nat.le_of_ble_eq_true rfl) rfl ?_
    refine x_aload dX6_next_34 rfl ?_
    refine x_dup dX6_next_35 rfl ?_
    refine x_get fX6_28 dX6_next_36 (by first | assumption | rfl) ?_
    refine x_k dX6_next_39 ?_
    refine x_iadd dX6_next_40 ?_
    rw [nI_1]
    refine x_put fX6_28 tt6 gX6_28 dX6_next_41 (by first | assumption | rfl) (Nat.le_of_ble_eq_true rfl) (w6_5 _) ?_
    refine x_aload dX6_next_44 rfl ?_
    refine x_k dX6_next_45 ?_
    refine x_put fX6_31 tt6 gX6_31 dX6_next_46 (by first | assumption | rfl) (Nat.le_of_ble_eq_true rfl) (w6_6 _) ?_
    refine x_iload dX6_next_49 rfl ?_
    refine x_aload dX6_next_51 rfl ?_
    refine x_get fX6_66 dX6_next_52 (by first | assumption | rfl) ?_
    refine x_icmp_ge dX6_next_55 (fun b55 => ?_) (fun b55 => ?_)
    · first
        | (refine x_vret dX6_next_105 rfl (Nat.zero_le _) (Nat.zero_le _) ?_
           exact hno (fun z => by rw [gl] at b55; omega))
        | (refine x_vret dX6_next_105 rfl (Nat.zero_le _) (Nat.zero_le _) ?_
           exact hno (fun z => by rw [gl2] at b64; omega))
        | (refine x_vret dX6_next_105 rfl (Nat.zero_le _) (Nat.zero_le _) ?_
           have hyes : sh k < H ∧ sb k < N := by rw [gl] at b55; rw [gl2] at b64; omega
           refine ⟨rfl, rfl, _, _, _, _, skF_sal (pos := pos) hyes hN hk hH, ?_⟩
           rw [← soN_or hyes, show (sal H N pos (L.testBit 0) (L.testBit 1) (L.testBit 2) s (sh k) (sb k)).2.2.2 = pop (salT H N pos (L.testBit 0) (L.testBit 1) (L.testBit 2) s.1 s.2.2.1 (sb k) (sh k)) by rw [sal, if_pos hyes]]
           exact (by funext j; simp only [va_up]; (repeat' split) <;> first | rfl | omega | simp_all))
    · refine x_iload dX6_next_58 rfl ?_
      refine x_aload dX6_next_60 rfl ?_
      refine x_get fX6_69 dX6_next_61 (by first | assumption | rfl) ?_
      refine x_icmp_ge dX6_next_64 (fun b64 => ?_) (fun b64 => ?_)
      · first
          | (refine x_vret dX6_next_105 rfl (Nat.zero_le _) (Nat.zero_le _) ?_
             exact hno (fun z => by rw [gl] at b55; omega))
          | (refine x_vret dX6_next_105 rfl (Nat.zero_le _) (Nat.zero_le _) ?_
             exact hno (fun z => by rw [gl2] at b64; omega))
          | (refine x_vret dX6_next_105 rfl (Nat.zero_le _) (Nat.zero_le _) ?_
             have hyes : sh k < H ∧ sb k < N := by rw [gl] at b55; rw [gl2] at b64; omega
             refine ⟨rfl, rfl, _, _, _, _, skF_sal (pos := pos) hyes hN hk hH, ?_⟩
             rw [← soN_or hyes, show (sal H N pos (L.testBit 0) (L.testBit 1) (L.testBit 2) s (sh k) (sb k)).2.2.2 = pop (salT H N pos (L.testBit 0) (L.testBit 1) (L.testBit 2) s.1 s.2.2.1 (sb k) (sh k)) by rw [sal, if_pos hyes]]
             exact (by funext j; simp only [va_up]; (repeat' split) <;> first | rfl | omega | simp_all))
      · refine x_aload dX6_next_67 rfl ?_
        refine x_iload dX6_next_68 rfl ?_
        refine x_iload dX6_next_70 rfl ?_
        refine x_aload dX6_next_72 rfl ?_
        refine x_aload dX6_next_73 rfl ?_
        refine x_get fX6_72 dX6_next_74 (by first | assumption | rfl) ?_
        refine x_V4i lX6_75 (Rm.of rfl) (cc1 := 0) (cn1 := 0) rfl rfl (Nat.le_of_ble_eq_true rfl) dX6_next_77 (by first | assumption | rfl) (r_goneWith_20 (tms := s.2.2.1) (own := s.1) (N := N) (H := H) (pos := pos) rfl hC hI hk.2.1 hins hH hN (fun j hj => (hk.1 j hj).2) hL s2 s4) ?_
        refine x_istore dX6_next_80 (Nat.le_of_ble_eq_true rfl) rfl ?_
        refine x_aload dX6_next_82 rfl ?_
        refine x_iload dX6_next_83 rfl ?_
        refine x_k dX6_next_85 ?_
        refine x_iand dX6_next_88 ?_
        rw [and255 hTl hSl]
        refine x_iload dX6_next_89 rfl ?_
        refine x_V2v lX6_79 (Rm.of rfl) (cc1 := 0) (cn1 := 0) rfl rfl (Nat.le_of_ble_eq_true rfl) dX6_next_91 (by first | assumption | rfl) (r_handOver_20 (own := s.1) (H := H) rfl hB hC hk.1 hk.2.1 hH hTl (fun j hj => salT_H (by rw [gl] at b55; omega) hj) s4) ?_
        refine x_aload dX6_next_94 rfl ?_
        refine x_iload dX6_next_95 rfl ?_
        refine x_k dX6_next_97 ?_
        refine x_ishr dX6_next_99 ?_
        rw [shr8 hTl hSl]
        refine x_iload dX6_next_100 rfl ?_
        refine x_V2v lX6_83 (Rm.of rfl) (cc1 := 0) (cn1 := 0) rfl rfl (Nat.le_of_ble_eq_true rfl) dX6_next_102 (by first | assumption | rfl) (r_keep_20 rfl hD hE hSl) ?_
        first
          | (refine x_vret dX6_next_105 rfl (Nat.zero_le _) (Nat.zero_le _) ?_
             exact hno (fun z => by rw [gl] at b55; omega))
          | (refine x_vret dX6_next_105 rfl (Nat.zero_le _) (Nat.zero_le _) ?_
             exact hno (fun z => by rw [gl2] at b64; omega))
          | (refine x_vret dX6_next_105 rfl (Nat.zero_le _) (Nat.zero_le _) ?_
             have hyes : sh k < H ∧ sb k < N := by rw [gl] at b55; rw [gl2] at b64; omega
             refine ⟨rfl, rfl, _, _, _, _, skF_sal (pos := pos) hyes hN hk hH, ?_⟩
             rw [← soN_or hyes, show (sal H N pos (L.testBit 0) (L.testBit 1) (L.testBit 2) s (sh k) (sb k)).2.2.2 = pop (salT H N pos (L.testBit 0) (L.testBit 1) (L.testBit 2) s.1 s.2.2.1 (sb k) (sh k)) by rw [sal, if_pos hyes]]
             exact (by funext j; simp only [va_up]; (repeat' split) <;> first | rfl | omega | simp_all))
  · exact absurd (nI_lt hkn (by omega)) b8
theorem r_begin_20 {so dn ln : Int32} {f g kf tf ow od : Nat → Int32} {H N : Nat} {own : Nat → Nat} (hA : h 20 = cK 21 22 23 24 so dn ln) (hB : h 21 = ia 8 f) (hC : h 22 = ia 8 g) (hD : h 23 = ia 8 kf) (hE : h 24 = ia 8 tf) (h10 : h 10 = cSt (nI H) (nI N)) (h11 : h 11 = ia 8 ow) (h13 : h 13 = ia 8 od) (hH : H ≤ 8) (how : ∀ j, j < H → ow j = nI (own j) ∧ own j < 8) (hod : ∀ p, p < 8 → od p = nI (msk (fun j => decide (own j = p)) H)) :
    Rn Γ mX6_begin [.ref 20, .ref 10] h sz (qNx_20 h sz H 0 (own, fun p => p, fun _ => 0, 0)) := by
  refine x_enter 0 (by decide) rfl ?_
  refine x_aload dX6_begin_0 rfl ?_
  refine x_get fX6_34 dX6_begin_1 (by first | assumption | rfl) ?_
  refine x_k dX6_begin_4 ?_
  refine x_aload dX6_begin_5 rfl ?_
  refine x_get fX6_9 dX6_begin_6 (by first | assumption | rfl) ?_
  refine x_k dX6_begin_9 ?_
  refine x_k dX6_begin_10 ?_
  refine x_copy lX6_37 dX6_begin_12 (by first | assumption | rfl) (by first | assumption | rfl) (n := 8) (sp := 0) (dp := 0) (by decide) ⟨(Nat.le_of_ble_eq_true rfl), (Nat.le_of_ble_eq_true rfl)⟩ (Nat.le_of_ble_eq_true rfl) ?_
  refine x_aload dX6_begin_15 rfl ?_
  refine x_get fX6_43 dX6_begin_16 (by first | assumption | rfl) ?_
  refine x_k dX6_begin_19 ?_
  refine x_aload dX6_begin_20 rfl ?_
  refine x_get fX6_15 dX6_begin_21 (by first | assumption | rfl) ?_
  refine x_k dX6_begin_24 ?_
  refine x_k dX6_begin_25 ?_
  refine x_copy lX6_37 dX6_begin_27 (by first | assumption | rfl) (by first | assumption | rfl) (n := 8) (sp := 0) (dp := 0) (by decide) ⟨(Nat.le_of_ble_eq_true rfl), (Nat.le_of_ble_eq_true rfl)⟩ (Nat.le_of_ble_eq_true rfl) ?_
  refine x_getsO fsX6_46 dX6_begin_30 ?_
  refine x_k dX6_begin_33 ?_
  refine x_aload dX6_begin_34 rfl ?_
  refine x_get fX6_18 dX6_begin_35 (by first | assumption | rfl) ?_
  refine x_k dX6_begin_38 ?_
  refine x_k dX6_begin_39 ?_
  refine x_copy1 lX6_37 dX6_begin_41 (by first | assumption | rfl) (Nat.le_of_ble_eq_true rfl) ⟨(Nat.le_of_ble_eq_true rfl), (Nat.le_of_ble_eq_true rfl)⟩ (Nat.le_of_ble_eq_true rfl) ?_
  refine x_aload dX6_begin_44 rfl ?_
  refine x_get fX6_21 dX6_begin_45 (by first | assumption | rfl) ?_
  refine x_k dX6_begin_48 ?_
  refine x_S2v lX6_49 (Rm.of rfl) (cc1 := 0) (cn1 := 0) rfl rfl (Nat.le_of_ble_eq_true rfl) dX6_begin_49 (r_fill_24 hE (by decide)) ?_
  refine x_aload dX6_begin_52 rfl ?_
  refine x_k dX6_begin_53 ?_
  refine x_put fX6_24 tt6 gX6_24 dX6_begin_54 (by first | assumption | rfl) (Nat.le_of_ble_eq_true rfl) (w6_4 _) ?_
  refine x_aload dX6_begin_57 rfl ?_
  refine x_k dX6_begin_58 ?_
  refine x_put fX6_28 tt6 gX6_28 dX6_begin_59 (by first | assumption | rfl) (Nat.le_of_ble_eq_true rfl) (w6_5 _) ?_
  refine x_aload dX6_begin_62 rfl ?_
  refine x_k dX6_begin_63 ?_
  refine x_put fX6_31 tt6 gX6_31 dX6_begin_64 (by first | assumption | rfl) (Nat.le_of_ble_eq_true rfl) (w6_6 _) ?_
  refine x_vret dX6_begin_67 rfl (Nat.zero_le _) (Nat.zero_le _) ?_
  refine ⟨rfl, rfl, va_cpy ow f 0 0 8, va_cpy od g 0 0 8, va_cpy (fun j => nI j) kf 0 0 8, filF tf 0 8, ⟨fun j hj => ?_, fun p hp => ?_, fun p hp => ?_, fun p hp => ?_⟩, ?_⟩
  rotate_left 4
  · have e : soN (fun _ => 0) = 0 := by decide +kernel
    rw [e]
    exact (by funext j; simp only [va_up]; (repeat' split) <;> first | rfl | omega | simp_all)
  · rw [va_cpy, if_pos (by omega)]; simp only [Nat.zero_add, Nat.sub_zero]; exact how j hj
  · rw [va_cpy, if_pos (by omega)]; simp only [Nat.zero_add, Nat.sub_zero]; exact hod p hp
  · rw [va_cpy, if_pos (by omega)]; simp only [Nat.zero_add, Nat.sub_zero]; exact ⟨trivial, hp⟩
  · rw [filF, if_pos hp]; rfl
abbrev skH_29 (h : Hp) (f g kf tf : Nat → Int32) (so dn ln : Int32) : Hp := va_up (va_up (va_up (va_up (va_up h 30 (ia 8 f)) 31 (ia 8 g)) 32 (ia 8 kf)) 33 (ia 8 tf)) 29 (cK 30 31 32 33 so dn ln)
def qNx_29 (h : Hp) (sz H k : Nat) (s : SS) : QT := fun r h' sz' => r = none ∧ sz = sz' ∧ ∃ f g kf tf : Nat → Int32, skF H s f g kf tf ∧ h' = skH_29 h f g kf tf (soN s.2.2.1) (nI k) (nI s.2.2.2)
theorem r_next_29 {ln : Int32} {f g kf tf ins shF sbF : Nat → Int32} {H N L k ns : Nat} {s : SS} {pos sh sb : Nat → Nat} (hA : h 29 = cK 30 31 32 33 (soN s.2.2.1) (nI k) ln) (hB : h 30 = ia 8 f) (hC : h 31 = ia 8 g) (hD : h 32 = ia 8 kf) (hE : h 33 = ia 8 tf) (hI : h 34 = ia 9 ins) (h10 : h 10 = cSt (nI H) (nI N)) (h17 : h 17 = cSa (nI L) (nI ns)) (h18 : h 18 = ia 12 shF) (h19 : h 19 = ia 12 sbF) (hk : skF H s f g kf tf) (hins : ∀ z, z < 9 → ins z = nI (insM N pos z)) (hsh : ∀ i, i < ns → shF i = nI (sh i) ∧ sh i < 8 ∧ sbF i = nI (sb i) ∧ sb i < 8) (hkn : k < ns) (hns : ns ≤ 12) (hH : H ≤ 8) (hN : N ≤ 8) (hL : L < 8) :
    Rn Γ mX6_next [.ref 29, .ref 10, .ref 34, .ref 17] h sz (qNx_29 h sz H (k + 1) (sal H N pos (L.testBit 0) (L.testBit 1) (L.testBit 2) s (sh k) (sb k))) := by
  refine x_enter 3 (by decide) rfl ?_
  obtain ⟨s1, s2, s3, s4⟩ := hsh k hkn
  have el : nI (sh k) < nI H ↔ sh k < H := nI_ltI (by omega) (by omega)
  have el2 : nI (sb k) < nI N ↔ sb k < N := nI_ltI (by omega) (by omega)
  have gl : nI H ≤ nI (sh k) ↔ H ≤ sh k := nI_leI (by omega) (by omega)
  have gl2 : nI N ≤ nI (sb k) ↔ N ≤ sb k := nI_leI (by omega) (by omega)
  have hTl : salT H N pos (L.testBit 0) (L.testBit 1) (L.testBit 2) s.1 s.2.2.1 (sb k) (sh k) < 256 := clo_lt _ _
  have hSl : msk (salS H N pos (L.testBit 0) (L.testBit 1) (L.testBit 2) s.1 s.2.2.1 (sb k) (sh k)) 8 < 256 := msk_lt _ 8
  have hno : ¬ (sh k < H ∧ sb k < N) → qNx_29 h sz H (k + 1) (sal H N pos (L.testBit 0) (L.testBit 1) (L.testBit 2) s (sh k) (sb k)) none (va_up (va_up h 29 (cK 30 31 32 33 (soN s.2.2.1) (nI (k + 1)) ln)) 29 (cK 30 31 32 33 (soN s.2.2.1) (nI (k + 1)) 0)) sz := by
    intro q
    rw [sal_no q]
    exact ⟨rfl, rfl, f, g, kf, tf, hk, by rw [up_up, skH_29, up_id hB, up_id hC, up_id hD, up_id hE]; rfl⟩
  refine x_aload dX6_next_0 rfl ?_
  refine x_get fX6_28 dX6_next_1 (by first | assumption | rfl) ?_
  refine x_aload dX6_next_4 rfl ?_
  refine x_get fX6_55 dX6_next_5 (by first | assumption | rfl) ?_
  refine x_icmp_lt dX6_next_8 (fun b8 => ?_) (fun b8 => ?_)
  · refine x_aload dX6_next_12 rfl ?_
    refine x_get fX6_60 dX6_next_13 (by first | assumption | rfl) ?_
    refine x_aload dX6_next_16 rfl ?_
    refine x_get fX6_28 dX6_next_17 (by first | assumption | rfl) ?_
    refine x_ialdn dX6_next_20 (by first | assumption | rfl) ⟨by first | omega | decide, by decide⟩ ?_
    rw [s1]
    refine x_istore dX6_next_21 (Nat.le_of_ble_eq_true rfl) rfl ?_
    refine x_aload dX6_next_23 rfl ?_
    refine x_get fX6_63 dX6_next_24 (by first | assumption | rfl) ?_
    refine x_aload dX6_next_27 rfl ?_
    refine x_get fX6_28 dX6_next_28 (by first | assumption | rfl) ?_
    refine x_ialdn dX6_next_31 (by first | assumption | rfl) ⟨by first | omega | decide, by decide⟩ ?_
    rw [s3]
    refine x_istore dX6_next_32 (Nat.le_of_ble_eq_true rfl) rfl ?_
    refine x_aload dX6_next_34 rfl ?_
    refine x_dup dX6_next_35 rfl ?_
    refine x_get fX6_28 dX6_next_36 (by first | assumption | rfl) ?_
    refine x_k dX6_next_39 ?_
    refine x_iadd dX6_next_40 ?_
    rw [nI_1]
    refine x_put fX6_28 tt6 gX6_28 dX6_next_41 (by first | assumption | rfl) (Nat.le_of_ble_eq_true rfl) (w6_5 _) ?_
    refine x_aload dX6_next_44 rfl ?_
    refine x_k dX6_next_45 ?_
    refine x_put fX6_31 tt6 gX6_31 dX6_next_46 (by first | assumption | rfl) (Nat.le_of_ble_eq_true rfl) (w6_6 _) ?_
    refine x_iload dX6_next_49 rfl ?_
    refine x_aload dX6_next_51 rfl ?_
    refine x_get fX6_66 dX6_next_52 (by first | assumption | rfl) ?_
    refine x_icmp_ge dX6_next_55 (fun b55 => ?_) (fun b55 => ?_)
    · first
        | (refine x_vret dX6_next_105 rfl (Nat.zero_le _) (Nat.zero_le _) ?_
           exact hno (fun z => by rw [gl] at b55; omega))
        | (refine x_vret dX6_next_105 rfl (Nat.zero_le _) (Nat.zero_le _) ?_
           exact hno (fun z => by rw [gl2] at b64; omega))
        | (refine x_vret dX6_next_105 rfl (Nat.zero_le _) (Nat.zero_le _) ?_
           have hyes : sh k < H ∧ sb k < N := by rw [gl] at b55; rw [gl2] at b64; omega
           refine ⟨rfl, rfl, _, _, _, _, skF_sal (pos := pos) hyes hN hk hH, ?_⟩
           rw [← soN_or hyes, show (sal H N pos (L.testBit 0) (L.testBit 1) (L.testBit 2) s (sh k) (sb k)).2.2.2 = pop (salT H N pos (L.testBit 0) (L.testBit 1) (L.testBit 2) s.1 s.2.2.1 (sb k) (sh k)) by rw [sal, if_pos hyes]]
           exact (by funext j; simp only [va_up]; (repeat' split) <;> first | rfl | omega | simp_all))
    · refine x_iload dX6_next_58 rfl ?_
      refine x_aload dX6_next_60 rfl ?_
      refine x_get fX6_69 dX6_next_61 (by first | assumption | rfl) ?_
      refine x_icmp_ge dX6_next_64 (fun b64 => ?_) (fun b64 => ?_)
      · first
          | (refine x_vret dX6_next_105 rfl (Nat.zero_le _) (Nat.zero_le _) ?_
             exact hno (fun z => by rw [gl] at b55; omega))
          | (refine x_vret dX6_next_105 rfl (Nat.zero_le _) (Nat.zero_le _) ?_
             exact hno (fun z => by rw [gl2] at b64; omega))
          | (refine x_vret dX6_next_105 rfl (Nat.zero_le _) (Nat.zero_le _) ?_
             have hyes : sh k < H ∧ sb k < N := by rw [gl] at b55; rw [gl2] at b64; omega
             refine ⟨rfl, rfl, _, _, _, _, skF_sal (pos := pos) hyes hN hk hH, ?_⟩
             rw [← soN_or hyes, show (sal H N pos (L.testBit 0) (L.testBit 1) (L.testBit 2) s (sh k) (sb k)).2.2.2 = pop (salT H N pos (L.testBit 0) (L.testBit 1) (L.testBit 2) s.1 s.2.2.1 (sb k) (sh k)) by rw [sal, if_pos hyes]]
             exact (by funext j; simp only [va_up]; (repeat' split) <;> first | rfl | omega | simp_all))
      · refine x_aload dX6_next_67 rfl ?_
        refine x_iload dX6_next_68 rfl ?_
        refine x_iload dX6_next_70 rfl ?_
        refine x_aload dX6_next_72 rfl ?_
        refine x_aload dX6_next_73 rfl ?_
        refine x_get fX6_72 dX6_next_74 (by first | assumption | rfl) ?_
        refine x_V4i lX6_75 (Rm.of rfl) (cc1 := 0) (cn1 := 0) rfl rfl (Nat.le_of_ble_eq_true rfl) dX6_next_77 (by first | assumption | rfl) (r_goneWith_29 (tms := s.2.2.1) (own := s.1) (N := N) (H := H) (pos := pos) rfl hC hI hk.2.1 hins hH hN (fun j hj => (hk.1 j hj).2) hL s2 s4) ?_
        refine x_istore dX6_next_80 (Nat.le_of_ble_eq_true rfl) rfl ?_
        refine x_aload dX6_next_82 rfl ?_
        refine x_iload dX6_next_83 rfl ?_
        refine x_k dX6_next_85 ?_
        refine x_iand dX6_next_88 ?_
        rw [and255 hTl hSl]
        refine x_iload dX6_next_89 rfl ?_
        refine x_V2v lX6_79 (Rm.of rfl) (cc1 := 0) (cn1 := 0) rfl rfl (Nat.le_of_ble_eq_true rfl) dX6_next_91 (by first | assumption | rfl) (r_handOver_29 (own := s.1) (H := H) rfl hB hC hk.1 hk.2.1 hH hTl (fun j hj => salT_H (by rw [gl] at b55; omega) hj) s4) ?_
        refine x_aload dX6_next_94 rfl ?_
        refine x_iload dX6_next_95 rfl ?_
        refine x_k dX6_next_97 ?_
        refine x_ishr dX6_next_99 ?_
        rw [shr8 hTl hSl]
        refine x_iload dX6_next_100 rfl ?_
        refine x_V2v lX6_83 (Rm.of rfl) (cc1 := 0) (cn1 := 0) rfl rfl (Nat.le_of_ble_eq_true rfl) dX6_next_102 (by first | assumption | rfl) (r_keep_29 rfl hD hE hSl) ?_
        first
          | (refine x_vret dX6_next_105 rfl (Nat.zero_le _) (Nat.zero_le _) ?_
             exact hno (fun z => by rw [gl] at b55; omega))
          | (refine x_vret dX6_next_105 rfl (Nat.zero_le _) (Nat.zero_le _) ?_
             exact hno (fun z => by rw [gl2] at b64; omega))
          | (refine x_vret dX6_next_105 rfl (Nat.zero_le _) (Nat.zero_le _) ?_
             have hyes : sh k < H ∧ sb k < N := by rw [gl] at b55; rw [gl2] at b64; omega
             refine ⟨rfl, rfl, _, _, _, _, skF_sal (pos := pos) hyes hN hk hH, ?_⟩
             rw [← soN_or hyes, show (sal H N pos (L.testBit 0) (L.testBit 1) (L.testBit 2) s (sh k) (sb k)).2.2.2 = pop (salT H N pos (L.testBit 0) (L.testBit 1) (L.testBit 2) s.1 s.2.2.1 (sb k) (sh k)) by rw [sal, if_pos hyes]]
             exact (by funext j; simp only [va_up]; (repeat' split) <;> first | rfl | omega | simp_all))
  · exact absurd (nI_lt hkn (by omega)) b8
theorem r_begin_29 {so dn ln : Int32} {f g kf tf ow od : Nat → Int32} {H N : Nat} {own : Nat → Nat} (hA : h 29 = cK 30 31 32 33 so dn ln) (hB : h 30 = ia 8 f) (hC : h 31 = ia 8 g) (hD : h 32 = ia 8 kf) (hE : h 33 = ia 8 tf) (h10 : h 10 = cSt (nI H) (nI N)) (h11 : h 11 = ia 8 ow) (h13 : h 13 = ia 8 od) (hH : H ≤ 8) (how : ∀ j, j < H → ow j = nI (own j) ∧ own j < 8) (hod : ∀ p, p < 8 → od p = nI (msk (fun j => decide (own j = p)) H)) :
    Rn Γ mX6_begin [.ref 29, .ref 10] h sz (qNx_29 h sz H 0 (own, fun p => p, fun _ => 0, 0)) := by
  refine x_enter 0 (by decide) rfl ?_
  refine x_aload dX6_begin_0 rfl ?_
  refine x_get fX6_34 dX6_begin_1 (by first | assumption | rfl) ?_
  refine x_k dX6_begin_4 ?_
  refine x_aload dX6_begin_5 rfl ?_
  refine x_get fX6_9 dX6_begin_6 (by first | assumption | rfl) ?_
  refine x_k dX6_begin_9 ?_
  refine x_k dX6_begin_10 ?_
  refine x_copy lX6_37 dX6_begin_12 (by first | assumption | rfl) (by first | assumption | rfl) (n := 8) (sp := 0) (dp := 0) (by decide) ⟨(Nat.le_of_ble_eq_true rfl), (Nat.le_of_ble_eq_true rfl)⟩ (Nat.le_of_ble_eq_true rfl) ?_
  refine x_aload dX6_begin_15 rfl ?_
  refine x_get fX6_43 dX6_begin_16 (by first | assumption | rfl) ?_
  refine x_k dX6_begin_19 ?_
  refine x_aload dX6_begin_20 rfl ?_
  refine x_get fX6_15 dX6_begin_21 (by first | assumption | rfl) ?_
  refine x_k dX6_begin_24 ?_
  refine x_k dX6_begin_25 ?_
  refine x_copy lX6_37 dX6_begin_27 (by first | assumption | rfl) (by first | assumption | rfl) (n := 8) (sp := 0) (dp := 0) (by decide) ⟨(Nat.le_of_ble_eq_true rfl), (Nat.le_of_ble_eq_true rfl)⟩ (Nat.le_of_ble_eq_true rfl) ?_
  refine x_getsO fsX6_46 dX6_begin_30 ?_
  refine x_k dX6_begin_33 ?_
  refine x_aload dX6_begin_34 rfl ?_
  refine x_get fX6_18 dX6_begin_35 (by first | assumption | rfl) ?_
  refine x_k dX6_begin_38 ?_
  refine x_k dX6_begin_39 ?_
  refine x_copy1 lX6_37 dX6_begin_41 (by first | assumption | rfl) (Nat.le_of_ble_eq_true rfl) ⟨(Nat.le_of_ble_eq_true rfl), (Nat.le_of_ble_eq_true rfl)⟩ (Nat.le_of_ble_eq_true rfl) ?_
  refine x_aload dX6_begin_44 rfl ?_
  refine x_get fX6_21 dX6_begin_45 (by first | assumption | rfl) ?_
  refine x_k dX6_begin_48 ?_
  refine x_S2v lX6_49 (Rm.of rfl) (cc1 := 0) (cn1 := 0) rfl rfl (Nat.le_of_ble_eq_true rfl) dX6_begin_49 (r_fill_33 hE (by decide)) ?_
  refine x_aload dX6_begin_52 rfl ?_
  refine x_k dX6_begin_53 ?_
  refine x_put fX6_24 tt6 gX6_24 dX6_begin_54 (by first | assumption | rfl) (Nat.le_of_ble_eq_true rfl) (w6_4 _) ?_
  refine x_aload dX6_begin_57 rfl ?_
  refine x_k dX6_begin_58 ?_
  refine x_put fX6_28 tt6 gX6_28 dX6_begin_59 (by first | assumption | rfl) (Nat.le_of_ble_eq_true rfl) (w6_5 _) ?_
  refine x_aload dX6_begin_62 rfl ?_
  refine x_k dX6_begin_63 ?_
  refine x_put fX6_31 tt6 gX6_31 dX6_begin_64 (by first | assumption | rfl) (Nat.le_of_ble_eq_true rfl) (w6_6 _) ?_
  refine x_vret dX6_begin_67 rfl (Nat.zero_le _) (Nat.zero_le _) ?_
  refine ⟨rfl, rfl, va_cpy ow f 0 0 8, va_cpy od g 0 0 8, va_cpy (fun j => nI j) kf 0 0 8, filF tf 0 8, ⟨fun j hj => ?_, fun p hp => ?_, fun p hp => ?_, fun p hp => ?_⟩, ?_⟩
  rotate_left 4
  · have e : soN (fun _ => 0) = 0 := by decide +kernel
    rw [e]
    exact (by funext j; simp only [va_up]; (repeat' split) <;> first | rfl | omega | simp_all)
  · rw [va_cpy, if_pos (by omega)]; simp only [Nat.zero_add, Nat.sub_zero]; exact how j hj
  · rw [va_cpy, if_pos (by omega)]; simp only [Nat.zero_add, Nat.sub_zero]; exact hod p hp
  · rw [va_cpy, if_pos (by omega)]; simp only [Nat.zero_add, Nat.sub_zero]; exact ⟨trivial, hp⟩
  · rw [filF, if_pos hp]; rfl
abbrev skH_40 (h : Hp) (f g kf tf : Nat → Int32) (so dn ln : Int32) : Hp := va_up (va_up (va_up (va_up (va_up h 41 (ia 8 f)) 42 (ia 8 g)) 43 (ia 8 kf)) 44 (ia 8 tf)) 40 (cK 41 42 43 44 so dn ln)
def qNx_40 (h : Hp) (sz H k : Nat) (s : SS) : QT := fun r h' sz' => r = none ∧ sz = sz' ∧ ∃ f g kf tf : Nat → Int32, skF H s f g kf tf ∧ h' = skH_40 h f g kf tf (soN s.2.2.1) (nI k) (nI s.2.2.2)
theorem r_next_40 {ln : Int32} {f g kf tf ins shF sbF : Nat → Int32} {H N L k ns : Nat} {s : SS} {pos sh sb : Nat → Nat} (hA : h 40 = cK 41 42 43 44 (soN s.2.2.1) (nI k) ln) (hB : h 41 = ia 8 f) (hC : h 42 = ia 8 g) (hD : h 43 = ia 8 kf) (hE : h 44 = ia 8 tf) (hI : h 16 = ia 9 ins) (h10 : h 10 = cSt (nI H) (nI N)) (h17 : h 17 = cSa (nI L) (nI ns)) (h18 : h 18 = ia 12 shF) (h19 : h 19 = ia 12 sbF) (hk : skF H s f g kf tf) (hins : ∀ z, z < 9 → ins z = nI (insM N pos z)) (hsh : ∀ i, i < ns → shF i = nI (sh i) ∧ sh i < 8 ∧ sbF i = nI (sb i) ∧ sb i < 8) (hkn : k < ns) (hns : ns ≤ 12) (hH : H ≤ 8) (hN : N ≤ 8) (hL : L < 8) :
    Rn Γ mX6_next [.ref 40, .ref 10, .ref 16, .ref 17] h sz (qNx_40 h sz H (k + 1) (sal H N pos (L.testBit 0) (L.testBit 1) (L.testBit 2) s (sh k) (sb k))) := by
  refine x_enter 3 (by decide) rfl ?_
  obtain ⟨s1, s2, s3, s4⟩ := hsh k hkn
  have el : nI (sh k) < nI H ↔ sh k < H := nI_ltI (by omega) (by omega)
  have el2 : nI (sb k) < nI N ↔ sb k < N := nI_ltI (by omega) (by omega)
  have gl : nI H ≤ nI (sh k) ↔ H ≤ sh k := nI_leI (by omega) (by omega)
  have gl2 : nI N ≤ nI (sb k) ↔ N ≤ sb k := nI_leI (by omega) (by omega)
  have hTl : salT H N pos (L.testBit 0) (L.testBit 1) (L.testBit 2) s.1 s.2.2.1 (sb k) (sh k) < 256 := clo_lt _ _
  have hSl : msk (salS H N pos (L.testBit 0) (L.testBit 1) (L.testBit 2) s.1 s.2.2.1 (sb k) (sh k)) 8 < 256 := msk_lt _ 8
  have hno : ¬ (sh k < H ∧ sb k < N) → qNx_40 h sz H (k + 1) (sal H N pos (L.testBit 0) (L.testBit 1) (L.testBit 2) s (sh k) (sb k)) none (va_up (va_up h 40 (cK 41 42 43 44 (soN s.2.2.1) (nI (k + 1)) ln)) 40 (cK 41 42 43 44 (soN s.2.2.1) (nI (k + 1)) 0)) sz := by
    intro q
    rw [sal_no q]
    exact ⟨rfl, rfl, f, g, kf, tf, hk, by rw [up_up, skH_40, up_id hB, up_id hC, up_id hD, up_id hE]; rfl⟩
  refine x_aload dX6_next_0 rfl ?_
  refine x_get fX6_28 dX6_next_1 (by first | assumption | rfl) ?_
  refine x_aload dX6_next_4 rfl ?_
  refine x_get fX6_55 dX6_next_5 (by first | assumption | rfl) ?_
  refine x_icmp_lt dX6_next_8 (fun b8 => ?_) (fun b8 => ?_)
  · refine x_aload dX6_next_12 rfl ?_
    refine x_get fX6_60 dX6_next_13 (by first | assumption | rfl) ?_
    refine x_aload dX6_next_16 rfl ?_
    refine x_get fX6_28 dX6_next_17 (by first | assumption | rfl) ?_
    refine x_ialdn dX6_next_20 (by first | assumption | rfl) ⟨by first | omega | decide, by decide⟩ ?_
    rw [s1]
    refine x_istore dX6_next_21 (Nat.le_of_ble_eq_true rfl) rfl ?_
    refine x_aload dX6_next_23 rfl ?_
    refine x_get fX6_63 dX6_next_24 (by first | assumption | rfl) ?_
    refine x_aload dX6_next_27 rfl ?_
    refine x_get fX6_28 dX6_next_28 (by first | assumption | rfl) ?_
    refine x_ialdn dX6_next_31 (by first | assumption | rfl) ⟨by first | omega | decide, by decide⟩ ?_
    rw [s3]
    refine x_istore dX6_next_32 (Nat.le_of_ble_eq_true rfl) rfl ?_
    refine x_aload dX6_next_34 rfl ?_
    refine x_dup dX6_next_35 rfl ?_
    refine x_get fX6_28 dX6_next_36 (by first | assumption | rfl) ?_
    refine x_k dX6_next_39 ?_
    refine x_iadd dX6_next_40 ?_
    rw [nI_1]
    refine x_put fX6_28 tt6 gX6_28 dX6_next_41 (by first | assumption | rfl) (Nat.le_of_ble_eq_true rfl) (w6_5 _) ?_
    refine x_aload dX6_next_44 rfl ?_
    refine x_k dX6_next_45 ?_
    refine x_put fX6_31 tt6 gX6_31 dX6_next_46 (by first | assumption | rfl) (Nat.le_of_ble_eq_true rfl) (w6_6 _) ?_
    refine x_iload dX6_next_49 rfl ?_
    refine x_aload dX6_next_51 rfl ?_
    refine x_get fX6_66 dX6_next_52 (by first | assumption | rfl) ?_
    refine x_icmp_ge dX6_next_55 (fun b55 => ?_) (fun b55 => ?_)
    · first
        | (refine x_vret dX6_next_105 rfl (Nat.zero_le _) (Nat.zero_le _) ?_
           exact hno (fun z => by rw [gl] at b55; omega))
        | (refine x_vret dX6_next_105 rfl (Nat.zero_le _) (Nat.zero_le _) ?_
           exact hno (fun z => by rw [gl2] at b64; omega))
        | (refine x_vret dX6_next_105 rfl (Nat.zero_le _) (Nat.zero_le _) ?_
           have hyes : sh k < H ∧ sb k < N := by rw [gl] at b55; rw [gl2] at b64; omega
           refine ⟨rfl, rfl, _, _, _, _, skF_sal (pos := pos) hyes hN hk hH, ?_⟩
           rw [← soN_or hyes, show (sal H N pos (L.testBit 0) (L.testBit 1) (L.testBit 2) s (sh k) (sb k)).2.2.2 = pop (salT H N pos (L.testBit 0) (L.testBit 1) (L.testBit 2) s.1 s.2.2.1 (sb k) (sh k)) by rw [sal, if_pos hyes]]
           exact (by funext j; simp only [va_up]; (repeat' split) <;> first | rfl | omega | simp_all))
    · refine x_iload dX6_next_58 rfl ?_
      refine x_aload dX6_next_60 rfl ?_
      refine x_get fX6_69 dX6_next_61 (by first | assumption | rfl) ?_
      refine x_icmp_ge dX6_next_64 (fun b64 => ?_) (fun b64 => ?_)
      · first
          | (refine x_vret dX6_next_105 rfl (Nat.zero_le _) (Nat.zero_le _) ?_
             exact hno (fun z => by rw [gl] at b55; omega))
          | (refine x_vret dX6_next_105 rfl (Nat.zero_le _) (Nat.zero_le _) ?_
             exact hno (fun z => by rw [gl2] at b64; omega))
          | (refine x_vret dX6_next_105 rfl (Nat.zero_le _) (Nat.zero_le _) ?_
             have hyes : sh k < H ∧ sb k < N := by rw [gl] at b55; rw [gl2] at b64; omega
             refine ⟨rfl, rfl, _, _, _, _, skF_sal (pos := pos) hyes hN hk hH, ?_⟩
             rw [← soN_or hyes, show (sal H N pos (L.testBit 0) (L.testBit 1) (L.testBit 2) s (sh k) (sb k)).2.2.2 = pop (salT H N pos (L.testBit 0) (L.testBit 1) (L.testBit 2) s.1 s.2.2.1 (sb k) (sh k)) by rw [sal, if_pos hyes]]
             exact (by funext j; simp only [va_up]; (repeat' split) <;> first | rfl | omega | simp_all))
      · refine x_aload dX6_next_67 rfl ?_
        refine x_iload dX6_next_68 rfl ?_
        refine x_iload dX6_next_70 rfl ?_
        refine x_aload dX6_next_72 rfl ?_
        refine x_aload dX6_next_73 rfl ?_
        refine x_get fX6_72 dX6_next_74 (by first | assumption | rfl) ?_
        refine x_V4i lX6_75 (Rm.of rfl) (cc1 := 0) (cn1 := 0) rfl rfl (Nat.le_of_ble_eq_true rfl) dX6_next_77 (by first | assumption | rfl) (r_goneWith_40 (tms := s.2.2.1) (own := s.1) (N := N) (H := H) (pos := pos) rfl hC hI hk.2.1 hins hH hN (fun j hj => (hk.1 j hj).2) hL s2 s4) ?_
        refine x_istore dX6_next_80 (Nat.le_of_ble_eq_true rfl) rfl ?_
        refine x_aload dX6_next_82 rfl ?_
        refine x_iload dX6_next_83 rfl ?_
        refine x_k dX6_next_85 ?_
        refine x_iand dX6_next_88 ?_
        rw [and255 hTl hSl]
        refine x_iload dX6_next_89 rfl ?_
        refine x_V2v lX6_79 (Rm.of rfl) (cc1 := 0) (cn1 := 0) rfl rfl (Nat.le_of_ble_eq_true rfl) dX6_next_91 (by first | assumption | rfl) (r_handOver_40 (own := s.1) (H := H) rfl hB hC hk.1 hk.2.1 hH hTl (fun j hj => salT_H (by rw [gl] at b55; omega) hj) s4) ?_
        refine x_aload dX6_next_94 rfl ?_
        refine x_iload dX6_next_95 rfl ?_
        refine x_k dX6_next_97 ?_
        refine x_ishr dX6_next_99 ?_
        rw [shr8 hTl hSl]
        refine x_iload dX6_next_100 rfl ?_
        refine x_V2v lX6_83 (Rm.of rfl) (cc1 := 0) (cn1 := 0) rfl rfl (Nat.le_of_ble_eq_true rfl) dX6_next_102 (by first | assumption | rfl) (r_keep_40 rfl hD hE hSl) ?_
        first
          | (refine x_vret dX6_next_105 rfl (Nat.zero_le _) (Nat.zero_le _) ?_
             exact hno (fun z => by rw [gl] at b55; omega))
          | (refine x_vret dX6_next_105 rfl (Nat.zero_le _) (Nat.zero_le _) ?_
             exact hno (fun z => by rw [gl2] at b64; omega))
          | (refine x_vret dX6_next_105 rfl (Nat.zero_le _) (Nat.zero_le _) ?_
             have hyes : sh k < H ∧ sb k < N := by rw [gl] at b55; rw [gl2] at b64; omega
             refine ⟨rfl, rfl, _, _, _, _, skF_sal (pos := pos) hyes hN hk hH, ?_⟩
             rw [← soN_or hyes, show (sal H N pos (L.testBit 0) (L.testBit 1) (L.testBit 2) s (sh k) (sb k)).2.2.2 = pop (salT H N pos (L.testBit 0) (L.testBit 1) (L.testBit 2) s.1 s.2.2.1 (sb k) (sh k)) by rw [sal, if_pos hyes]]
             exact (by funext j; simp only [va_up]; (repeat' split) <;> first | rfl | omega | simp_all))
  · exact absurd (nI_lt hkn (by omega)) b8
theorem r_begin_40 {so dn ln : Int32} {f g kf tf ow od : Nat → Int32} {H N : Nat} {own : Nat → Nat} (hA : h 40 = cK 41 42 43 44 so dn ln) (hB : h 41 = ia 8 f) (hC : h 42 = ia 8 g) (hD : h 43 = ia 8 kf) (hE : h 44 = ia 8 tf) (h10 : h 10 = cSt (nI H) (nI N)) (h11 : h 11 = ia 8 ow) (h13 : h 13 = ia 8 od) (hH : H ≤ 8) (how : ∀ j, j < H → ow j = nI (own j) ∧ own j < 8) (hod : ∀ p, p < 8 → od p = nI (msk (fun j => decide (own j = p)) H)) :
    Rn Γ mX6_begin [.ref 40, .ref 10] h sz (qNx_40 h sz H 0 (own, fun p => p, fun _ => 0, 0)) := by
  refine x_enter 0 (by decide) rfl ?_
  refine x_aload dX6_begin_0 rfl ?_
  refine x_get fX6_34 dX6_begin_1 (by first | assumption | rfl) ?_
  refine x_k dX6_begin_4 ?_
  refine x_aload dX6_begin_5 rfl ?_
  refine x_get fX6_9 dX6_begin_6 (by first | assumption | rfl) ?_
  refine x_k dX6_begin_9 ?_
  refine x_k dX6_begin_10 ?_
  refine x_copy lX6_37 dX6_begin_12 (by first | assumption | rfl) (by first | assumption | rfl) (n := 8) (sp := 0) (dp := 0) (by decide) ⟨(Nat.le_of_ble_eq_true rfl), (Nat.le_of_ble_eq_true rfl)⟩ (Nat.le_of_ble_eq_true rfl) ?_
  refine x_aload dX6_begin_15 rfl ?_
  refine x_get fX6_43 dX6_begin_16 (by first | assumption | rfl) ?_
  refine x_k dX6_begin_19 ?_
  refine x_aload dX6_begin_20 rfl ?_
  refine x_get fX6_15 dX6_begin_21 (by first | assumption | rfl) ?_
  refine x_k dX6_begin_24 ?_
  refine x_k dX6_begin_25 ?_
  refine x_copy lX6_37 dX6_begin_27 (by first | assumption | rfl) (by first | assumption | rfl) (n := 8) (sp := 0) (dp := 0) (by decide) ⟨(Nat.le_of_ble_eq_true rfl), (Nat.le_of_ble_eq_true rfl)⟩ (Nat.le_of_ble_eq_true rfl) ?_
  refine x_getsO fsX6_46 dX6_begin_30 ?_
  refine x_k dX6_begin_33 ?_
  refine x_aload dX6_begin_34 rfl ?_
  refine x_get fX6_18 dX6_begin_35 (by first | assumption | rfl) ?_
  refine x_k dX6_begin_38 ?_
  refine x_k dX6_begin_39 ?_
  refine x_copy1 lX6_37 dX6_begin_41 (by first | assumption | rfl) (Nat.le_of_ble_eq_true rfl) ⟨(Nat.le_of_ble_eq_true rfl), (Nat.le_of_ble_eq_true rfl)⟩ (Nat.le_of_ble_eq_true rfl) ?_
  refine x_aload dX6_begin_44 rfl ?_
  refine x_get fX6_21 dX6_begin_45 (by first | assumption | rfl) ?_
  refine x_k dX6_begin_48 ?_
  refine x_S2v lX6_49 (Rm.of rfl) (cc1 := 0) (cn1 := 0) rfl rfl (Nat.le_of_ble_eq_true rfl) dX6_begin_49 (r_fill_44 hE (by decide)) ?_
  refine x_aload dX6_begin_52 rfl ?_
  refine x_k dX6_begin_53 ?_
  refine x_put fX6_24 tt6 gX6_24 dX6_begin_54 (by first | assumption | rfl) (Nat.le_of_ble_eq_true rfl) (w6_4 _) ?_
  refine x_aload dX6_begin_57 rfl ?_
  refine x_k dX6_begin_58 ?_
  refine x_put fX6_28 tt6 gX6_28 dX6_begin_59 (by first | assumption | rfl) (Nat.le_of_ble_eq_true rfl) (w6_5 _) ?_
  refine x_aload dX6_begin_62 rfl ?_
  refine x_k dX6_begin_63 ?_
  refine x_put fX6_31 tt6 gX6_31 dX6_begin_64 (by first | assumption | rfl) (Nat.le_of_ble_eq_true rfl) (w6_6 _) ?_
  refine x_vret dX6_begin_67 rfl (Nat.zero_le _) (Nat.zero_le _) ?_
  refine ⟨rfl, rfl, va_cpy ow f 0 0 8, va_cpy od g 0 0 8, va_cpy (fun j => nI j) kf 0 0 8, filF tf 0 8, ⟨fun j hj => ?_, fun p hp => ?_, fun p hp => ?_, fun p hp => ?_⟩, ?_⟩
  rotate_left 4
  · have e : soN (fun _ => 0) = 0 := by decide +kernel
    rw [e]
    exact (by funext j; simp only [va_up]; (repeat' split) <;> first | rfl | omega | simp_all)
  · rw [va_cpy, if_pos (by omega)]; simp only [Nat.zero_add, Nat.sub_zero]; exact how j hj
  · rw [va_cpy, if_pos (by omega)]; simp only [Nat.zero_add, Nat.sub_zero]; exact hod p hp
  · rw [va_cpy, if_pos (by omega)]; simp only [Nat.zero_add, Nat.sub_zero]; exact ⟨trivial, hp⟩
  · rw [filF, if_pos hp]; rfl
end Next
