/-- what the reference's rows hold once both texts are read -/
def stF (n0 n1 : Nat) (b0 b1 : Nat → Int32) (ow pr kd pl : Nat → Int32) : Prop := (∀ i, i < hN n0 b0 → ow i = b0 (3 * i) - 48 ∧ pr i = b0 (3 * i + 1) - 48) ∧ ∀ i, i < pN n1 b1 → kd i = kI (b1 (2 * i)) ∧ pl i = spF (hN n0 b0) (b1 (2 * i + 1)) - 1
abbrev rdH (h : Hp) (H N : Nat) (sa ll fa fi : Int32) (ow pr kd pl : Nat → Int32) : Hp := va_up (va_up (va_up (va_up (va_up h 57 (cM (nI H) (nI N) sa ll fa fi)) 60 (ia 9 ow)) 61 (ia 9 pr)) 62 (ia 9 kd)) 63 (ia 9 pl)
def qRd (h : Hp) (sz : Nat) (sa ll fa fi : Int32) (n0 n1 : Nat) (b0 b1 : Nat → Int32) (r0 : Option Value) : QT := fun r h' sz' => r = r0 ∧ sz = sz' ∧ ∃ ow pr kd pl : Nat → Int32, stF n0 n1 b0 b1 ow pr kd pl ∧ h' = rdH h (hN n0 b0) (pN n1 b1) sa ll fa fi ow pr kd pl
theorem le_pred {t : Int32} {H : Nat} (hH : H ≤ 1000) : t ≤ nI H - 1 ↔ t < nI H := by
  rcases Nat.eq_zero_or_pos H with e | e
  · subst e
    rw [nI_0]
    simp only [Int32.lt_iff_toInt_lt, Int32.le_iff_toInt_le]
    have e0 : (0 : Int32).toInt = 0 := rfl
    have e1 : ((0 : Int32) - 1).toInt = -1 := rfl
    rw [e0, e1]; omega
  · obtain ⟨j, rfl⟩ : ∃ j, H = j + 1 := ⟨H - 1, by omega⟩
    rw [nI_pred]
    simp only [Int32.lt_iff_toInt_lt, Int32.le_iff_toInt_le]
    rw [nI_toInt (by omega), nI_toInt (by omega)]; omega
theorem bI_congr {c d : Prop} [Decidable c] [Decidable d] (e : c ↔ d) : bI c = bI d := by
  unfold bI
  by_cases h : c
  · rw [if_pos h, if_pos (e.mp h)]
  · rw [if_neg h, if_neg (fun q => h (e.mpr q))]
section Tell
variable {Γ : GX} {h : Hp} {sz : Nat} {hs pe sa ll fa fi : Int32}
theorem r_reads {n0 n1 : Nat} {ty tx ow0 pr0 kd0 pl0 b1 : Nat → Int32} (hbt : b1 = fun i => tx (30 + i)) (h57 : h 57 = cM hs pe sa ll fa fi) (h58 : h 58 = ia 2 ty) (h59 : h 59 = ia 60 tx) (h60 : h 60 = ia 9 ow0) (h61 : h 61 = ia 9 pr0) (h62 : h 62 = ia 9 kd0) (h63 : h 63 = ia 9 pl0) (hn0 : ty 0 = nI n0) (hn1 : ty 1 = nI n1) (hb0 : n0 ≤ 30) (hb1 : n1 ≤ 24) : Rn Γ mX10_reads [.ref 57] h sz (qRd h sz sa ll fa fi n0 n1 tx b1 none) := by
  refine x_enter 2 (by decide) rfl ?_
  have hH8 := hN_ok (b := tx) hb0
  have hP8 := pN_ok (b := b1) hb1
  refine x_aload dX10_reads_0 rfl ?_
  refine x_V0q lX10_107 (Rm.of rfl) (cc1 := 0) (cn1 := 0) rfl rfl (Nat.le_of_ble_eq_true rfl) dX10_reads_1 (by first | assumption | rfl) (r_readsHouses h57 h58 h59 h60 h61 hn0 hb0) ?_
  rintro _ _ _ ⟨rfl, rfl, ow, pr, rfl, hop⟩
  refine x_istore dX10_reads_4 (Nat.le_of_ble_eq_true rfl) rfl ?_
  refine x_aload dX10_reads_5 rfl ?_
  refine x_V0q lX10_111 (Rm.of rfl) (cc1 := 0) (cn1 := 0) rfl rfl (Nat.le_of_ble_eq_true rfl) dX10_reads_6 (by first | assumption | rfl) (r_readsPeople hbt rfl h58 h59 h62 h63 hn1 hb1) ?_
  rintro _ _ _ ⟨rfl, rfl, kd, pl, rfl, hkp⟩
  refine x_istore dX10_reads_9 (Nat.le_of_ble_eq_true rfl) rfl ?_
  refine x_k dX10_reads_10 ?_
  refine x_istore dX10_reads_11 (Nat.le_of_ble_eq_true rfl) rfl ?_
  have hz : ∀ g : Nat → Int32, va_up (va_up (va_up (va_up (va_up (va_up h 57 (cM (nI (hN n0 tx)) pe sa ll fa fi)) 60 (ia 9 ow)) 61 (ia 9 pr)) 57 (cM (nI (hN n0 tx)) (nI (pN n1 b1)) sa ll fa fi)) 62 (ia 9 kd)) 63 (ia 9 g) = rdH h (hN n0 tx) (pN n1 b1) sa ll fa fi ow pr kd g := fun g => (by funext j; simp only [va_up]; (repeat' split) <;> first | rfl | omega | simp_all)
  refine x_eq rfl rfl (show _ = rdH h (hN n0 tx) (pN n1 b1) sa ll fa fi ow pr kd (filG pl (fun i => spF (hN n0 tx) (b1 (2 * i + 1)) - 1) 0) by rw [filG_0]; exact hz pl) (loopUp (P := fun p => Ex Γ mX10_reads _ 0 0 12 [.ref 57, .int (fauP n1 b1), .int (nI p)] [] (rdH h (hN n0 tx) (pN n1 b1) sa ll fa fi ow pr kd (filG pl (fun i => spF (hN n0 tx) (b1 (2 * i + 1)) - 1) p)) sz) (pN n1 b1) ?_ (fun p hp ih => ?_) 0 (Nat.zero_le _))
  · refine x_iload dX10_reads_12 rfl ?_
    refine x_aload dX10_reads_13 rfl ?_
    refine x_get fX10_104 dX10_reads_14 (by first | assumption | rfl) ?_
    refine x_icmp_ge dX10_reads_17 (fun b17 => ?_) (fun b17 => ?_)
    · refine x_vret dX10_reads_55 rfl (Nat.zero_le _) (Nat.zero_le _) ?_
      exact ⟨rfl, rfl, ow, pr, kd, _, ⟨hop, fun i hi => ⟨(hkp i hi).1, filG_lt hi⟩⟩, rfl⟩
    · exact absurd (Int32.le_refl _) b17
  · have epl : filG pl (fun i => spF (hN n0 tx) (b1 (2 * i + 1)) - 1) p p = plR (b1 (2 * p + 1)) := by
      rw [filG, if_neg (Nat.lt_irrefl p)]; exact (hkp p hp).2
    have esp := plR_sp (H := hN n0 tx) ((hP8.2.2 p hp).2) (by omega) hH8.1
    have hp9 : p < 9 := by omega
    refine x_iload dX10_reads_12 rfl ?_
    refine x_aload dX10_reads_13 rfl ?_
    refine x_get fX10_104 dX10_reads_14 (by first | assumption | rfl) ?_
    refine x_icmp_ge dX10_reads_17 (fun b17 => ?_) (fun b17 => ?_)
    · exact absurd b17 (nI_ge hp (by omega))
    · refine x_aload dX10_reads_20 rfl ?_
      refine x_get fX10_25 dX10_reads_21 (by first | assumption | rfl) ?_
      refine x_iload dX10_reads_24 rfl ?_
      refine x_aload dX10_reads_25 rfl ?_
      refine x_get fX10_25 dX10_reads_26 (by first | assumption | rfl) ?_
      refine x_iload dX10_reads_29 rfl ?_
      refine x_ialdn dX10_reads_30 (by first | assumption | rfl) ⟨by first | omega | decide, by decide⟩ ?_
      refine x_aload dX10_reads_31 rfl ?_
      refine x_get fX10_96 dX10_reads_32 (by first | assumption | rfl) ?_
      refine x_icmp_ge dX10_reads_35 (fun b35 => ?_) (fun b35 => ?_)
      · refine x_k dX10_reads_47 ?_
        refine x_iastn dX10_reads_48 (by first | assumption | rfl) ⟨by first | omega | decide, by decide⟩ ?_
        refine x_inc1 dX10_reads_49 rfl (Nat.le_of_ble_eq_true rfl) rfl ?_
        refine x_goto dX10_reads_52 ?_
        rw [epl] at b35
        refine x_eq rfl rfl ?_ ih
        rw [up_up, filG_id]
        first | rw [← esp, if_pos (Int32.not_le.mp b35), epl] | rw [← esp, if_neg (Int32.not_lt.mpr b35)]
      · refine x_aload dX10_reads_38 rfl ?_
        refine x_get fX10_25 dX10_reads_39 (by first | assumption | rfl) ?_
        refine x_iload dX10_reads_42 rfl ?_
        refine x_ialdn dX10_reads_43 (by first | assumption | rfl) ⟨by first | omega | decide, by decide⟩ ?_
        refine x_goto dX10_reads_44 ?_
        refine x_iastn dX10_reads_48 (by first | assumption | rfl) ⟨by first | omega | decide, by decide⟩ ?_
        refine x_inc1 dX10_reads_49 rfl (Nat.le_of_ble_eq_true rfl) rfl ?_
        refine x_goto dX10_reads_52 ?_
        rw [epl] at b35
        refine x_eq rfl rfl ?_ ih
        rw [up_up, filG_id]
        first | rw [← esp, if_pos (Int32.not_le.mp b35), epl] | rw [← esp, if_neg (Int32.not_lt.mpr b35)]
theorem r_isHouse {n0 n1 : Nat} {ty tx ow0 pr0 kd0 pl0 b1 : Nat → Int32} (t : Int32) (hbt : b1 = fun i => tx (30 + i)) (h57 : h 57 = cM hs pe sa ll fa fi) (h58 : h 58 = ia 2 ty) (h59 : h 59 = ia 60 tx) (h60 : h 60 = ia 9 ow0) (h61 : h 61 = ia 9 pr0) (h62 : h 62 = ia 9 kd0) (h63 : h 63 = ia 9 pl0) (hn0 : ty 0 = nI n0) (hn1 : ty 1 = nI n1) (hb0 : n0 ≤ 30) (hb1 : n1 ≤ 24) : Rn Γ mX10_isHouse [.ref 57, .int t] h sz (qRd h sz sa ll fa fi n0 n1 tx b1 (some (.int (bI (0 ≤ t ∧ t < nI (hN n0 tx)))))) := by
  refine x_enter 0 (by decide) rfl ?_
  have hH8 := hN_ok (b := tx) hb0
  refine x_aload dX10_isHouse_0 rfl ?_
  refine x_V0q lX10_118 (Rm.of rfl) (cc1 := 0) (cn1 := 0) rfl rfl (Nat.le_of_ble_eq_true rfl) dX10_isHouse_1 (by first | assumption | rfl) (r_reads hbt h57 h58 h59 h60 h61 h62 h63 hn0 hn1 hb0 hb1) ?_
  rintro _ _ _ ⟨rfl, rfl, ow, pr, kd, pl, hst, rfl⟩
  refine x_iload dX10_isHouse_4 rfl ?_
  refine x_k dX10_isHouse_5 ?_
  refine x_aload dX10_isHouse_6 rfl ?_
  refine x_get fX10_96 dX10_isHouse_7 (by first | assumption | rfl) ?_
  refine x_k dX10_isHouse_10 ?_
  refine x_isub dX10_isHouse_11 ?_
  refine x_S3i lX10_92 (Rm.of rfl) (cc1 := 0) (cn1 := 0) rfl rfl (Nat.le_of_ble_eq_true rfl) dX10_isHouse_12 (r_in t 0 (nI (hN n0 tx) - 1)) ?_
  refine x_iret (ty := .boolean) dX10_isHouse_15 rfl (by first | rfl | exact nzb) (Nat.zero_le _) (Nat.zero_le _) ?_
  exact ⟨by congr 2; exact bI_congr (by rw [le_pred (by omega)]), rfl, ow, pr, kd, pl, hst, rfl⟩
theorem r_isPerson {n0 n1 : Nat} {ty tx ow0 pr0 kd0 pl0 b1 : Nat → Int32} (t : Int32) (hbt : b1 = fun i => tx (30 + i)) (h57 : h 57 = cM hs pe sa ll fa fi) (h58 : h 58 = ia 2 ty) (h59 : h 59 = ia 60 tx) (h60 : h 60 = ia 9 ow0) (h61 : h 61 = ia 9 pr0) (h62 : h 62 = ia 9 kd0) (h63 : h 63 = ia 9 pl0) (hn0 : ty 0 = nI n0) (hn1 : ty 1 = nI n1) (hb0 : n0 ≤ 30) (hb1 : n1 ≤ 24) : Rn Γ mX10_isPerson [.ref 57, .int t] h sz (qRd h sz sa ll fa fi n0 n1 tx b1 (some (.int (bI (0 ≤ t ∧ t < nI (pN n1 b1)))))) := by
  refine x_enter 0 (by decide) rfl ?_
  have hP8 := pN_ok (b := b1) hb1
  refine x_aload dX10_isPerson_0 rfl ?_
  refine x_V0q lX10_118 (Rm.of rfl) (cc1 := 0) (cn1 := 0) rfl rfl (Nat.le_of_ble_eq_true rfl) dX10_isPerson_1 (by first | assumption | rfl) (r_reads hbt h57 h58 h59 h60 h61 h62 h63 hn0 hn1 hb0 hb1) ?_
  rintro _ _ _ ⟨rfl, rfl, ow, pr, kd, pl, hst, rfl⟩
  refine x_iload dX10_isPerson_4 rfl ?_
  refine x_k dX10_isPerson_5 ?_
  refine x_aload dX10_isPerson_6 rfl ?_
  refine x_get fX10_104 dX10_isPerson_7 (by first | assumption | rfl) ?_
  refine x_k dX10_isPerson_10 ?_
  refine x_isub dX10_isPerson_11 ?_
  refine x_S3i lX10_92 (Rm.of rfl) (cc1 := 0) (cn1 := 0) rfl rfl (Nat.le_of_ble_eq_true rfl) dX10_isPerson_12 (r_in t 0 (nI (pN n1 b1) - 1)) ?_
  refine x_iret (ty := .boolean) dX10_isPerson_15 rfl (by first | rfl | exact nzb) (Nat.zero_le _) (Nat.zero_le _) ?_
  exact ⟨by congr 2; exact bI_congr (by rw [le_pred (by omega)]), rfl, ow, pr, kd, pl, hst, rfl⟩
/-- the cells of the street, as the class keeps them -/
abbrev tlH (h : Hp) (H N : Nat) (ow pr od kd sp ins : Nat → Int32) : Hp := va_up (va_up (va_up (va_up (va_up (va_up (va_up h 10 (cSt (nI H) (nI N))) 11 (ia 8 ow)) 12 (ia 8 pr)) 13 (ia 8 od)) 14 (ia 8 kd)) 15 (ia 8 sp)) 16 (ia 9 ins)
abbrev tl1 (h : Hp) (H N : Nat) (ow pr od ins : Nat → Int32) : Hp := va_up (va_up (va_up (va_up (va_up h 10 (cSt (nI H) (nI N))) 11 (ia 8 ow)) 12 (ia 8 pr)) 13 (ia 8 od)) 16 (ia 9 ins)
theorem tl1_11 (h : Hp) (H N : Nat) (ow pr od ins f : Nat → Int32) : va_up (tl1 h H N ow pr od ins) 11 (ia 8 f) = tl1 h H N f pr od ins := (by funext j; simp only [va_up]; (repeat' split) <;> first | rfl | omega | simp_all)
theorem tl1_12 (h : Hp) (H N : Nat) (ow pr od ins f : Nat → Int32) : va_up (tl1 h H N ow pr od ins) 12 (ia 8 f) = tl1 h H N ow f od ins := (by funext j; simp only [va_up]; (repeat' split) <;> first | rfl | omega | simp_all)
theorem tl1_13 (h : Hp) (H N : Nat) (ow pr od ins f : Nat → Int32) : va_up (tl1 h H N ow pr od ins) 13 (ia 8 f) = tl1 h H N ow pr f ins := (by funext j; simp only [va_up]; (repeat' split) <;> first | rfl | omega | simp_all)
theorem tlH_14 (h : Hp) (H N : Nat) (ow pr od kd sp ins f : Nat → Int32) : va_up (tlH h H N ow pr od kd sp ins) 14 (ia 8 f) = tlH h H N ow pr od f sp ins := (by funext j; simp only [va_up]; (repeat' split) <;> first | rfl | omega | simp_all)
theorem tlH_15 (h : Hp) (H N : Nat) (ow pr od kd sp ins f : Nat → Int32) : va_up (tlH h H N ow pr od kd sp ins) 15 (ia 8 f) = tlH h H N ow pr od kd f ins := (by funext j; simp only [va_up]; (repeat' split) <;> first | rfl | omega | simp_all)
theorem tlH_16 (h : Hp) (H N : Nat) (ow pr od kd sp ins f : Nat → Int32) : va_up (tlH h H N ow pr od kd sp ins) 16 (ia 9 f) = tlH h H N ow pr od kd sp f := (by funext j; simp only [va_up]; (repeat' split) <;> first | rfl | omega | simp_all)
theorem ix3 (p : Nat) : 3 * nI p = nI (3 * p) := by rw [show (3 : Int32) = nI 3 from rfl, pk_mul]
theorem ix2 (p : Nat) : 2 * nI p = nI (2 * p) := by rw [show (2 : Int32) = nI 2 from rfl, pk_mul]
theorem r_tell {n0 n1 : Nat} {b0 b1 ow0 pr0 od0 kd0 sp0 in0 : Nat → Int32} {H0 N0 : Int32} (h6 : h 6 = cT 7 (nI n0)) (h7 : h 7 = ia 30 b0) (h8 : h 8 = cT 9 (nI n1)) (h9 : h 9 = ia 24 b1) (h10 : h 10 = cSt H0 N0) (h11 : h 11 = ia 8 ow0) (h12 : h 12 = ia 8 pr0) (h13 : h 13 = ia 8 od0) (h14 : h 14 = ia 8 kd0) (h15 : h 15 = ia 8 sp0) (h16 : h 16 = ia 9 in0) (hb0 : n0 ≤ 30) (hb1 : n1 ≤ 24) (hbb : ∀ i, 0 ≤ b1 i ∧ b1 i ≤ 255) :
    Re Γ mX5_tell [.ref 10, .ref 6, .ref 8] h sz none (tlH h (hN n0 b0) (pN n1 b1) (filG ow0 (fun i => b0 (3 * i) - 48) (hN n0 b0)) (filG pr0 (fun i => b0 (3 * i + 1) - 48) (hN n0 b0)) (mskA (fun i => b0 (3 * i) - 48) od0 8 (hN n0 b0)) (filG kd0 (fun i => kI (b1 (2 * i))) (pN n1 b1)) (filG sp0 (fun i => spF (hN n0 b0) (b1 (2 * i + 1))) (pN n1 b1)) (mskA (fun i => spF (hN n0 b0) (b1 (2 * i + 1))) in0 9 (pN n1 b1))) sz := by
  refine x_enter 1 (by decide) rfl ?_
  have hH8 := hN_ok (b := b0) hb0
  have hP8 := pN_ok (b := b1) hb1
  have L2 : Ex Γ mX5_tell (gx_Z Γ mX5_tell (fun r' h' sz' => r' = none ∧ h' = (tlH h (hN n0 b0) (pN n1 b1) (filG ow0 (fun i => b0 (3 * i) - 48) (hN n0 b0)) (filG pr0 (fun i => b0 (3 * i + 1) - 48) (hN n0 b0)) (mskA (fun i => b0 (3 * i) - 48) od0 8 (hN n0 b0)) (filG kd0 (fun i => kI (b1 (2 * i))) (pN n1 b1)) (filG sp0 (fun i => spF (hN n0 b0) (b1 (2 * i + 1))) (pN n1 b1)) (mskA (fun i => spF (hN n0 b0) (b1 (2 * i + 1))) in0 9 (pN n1 b1))) ∧ sz' = sz)) 0 0 133 [.ref 10, .ref 6, .ref 8, .int (nI 0)] [] (tlH h (hN n0 b0) (pN n1 b1) (filG ow0 (fun i => b0 (3 * i) - 48) (hN n0 b0)) (filG pr0 (fun i => b0 (3 * i + 1) - 48) (hN n0 b0)) (mskA (fun i => b0 (3 * i) - 48) od0 8 (hN n0 b0)) (filG kd0 (fun i => kI (b1 (2 * i))) 0) (filG sp0 (fun i => spF (hN n0 b0) (b1 (2 * i + 1))) 0) (mskA (fun i => spF (hN n0 b0) (b1 (2 * i + 1))) in0 9 0)) sz := by
    refine (loopUp (P := fun p => Ex Γ mX5_tell _ 0 0 133 [.ref 10, .ref 6, .ref 8, .int (nI p)] [] (tlH h (hN n0 b0) (pN n1 b1) (filG ow0 (fun i => b0 (3 * i) - 48) (hN n0 b0)) (filG pr0 (fun i => b0 (3 * i + 1) - 48) (hN n0 b0)) (mskA (fun i => b0 (3 * i) - 48) od0 8 (hN n0 b0)) (filG kd0 (fun i => kI (b1 (2 * i))) p) (filG sp0 (fun i => spF (hN n0 b0) (b1 (2 * i + 1))) p) (mskA (fun i => spF (hN n0 b0) (b1 (2 * i + 1))) in0 9 p)) sz) (pN n1 b1) ?_ (fun p hp ih => ?_) 0 (Nat.zero_le _))
    · refine x_iload dX5_tell_133 rfl ?_
      refine x_aload dX5_tell_134 rfl ?_
      refine x_get fX5_15 dX5_tell_135 (by first | assumption | rfl) ?_
      refine x_icmp_ge dX5_tell_138 (fun b138 => ?_) (fun b138 => ?_)
      · refine x_vret dX5_tell_204 rfl (Nat.zero_le _) (Nat.zero_le _) ?_
        exact ⟨rfl, rfl, rfl⟩
      · exact absurd (Int32.le_refl _) b138
    · have e2 : (2 * nI p).toNatClampNeg = 2 * p := by rw [ix2, nI_clamp (by omega)]
      have e21 : (2 * nI p + 1).toNatClampNeg = 2 * p + 1 := by rw [ix2, nI_1, nI_clamp (by omega)]
      obtain ⟨q, hq, eq⟩ := spF_ok (hN n0 b0) hH8.1 (b1 (2 * p + 1))
      have es : filG sp0 (fun i => spF (hN n0 b0) (b1 (2 * i + 1))) (p + 1) p = nI q := by rw [filG_lt (Nat.lt_succ_self p)]; exact eq
      refine x_iload dX5_tell_133 rfl ?_
      refine x_aload dX5_tell_134 rfl ?_
      refine x_get fX5_15 dX5_tell_135 (by first | assumption | rfl) ?_
      refine x_icmp_ge dX5_tell_138 (fun b138 => ?_) (fun b138 => ?_)
      · exact absurd b138 (nI_ge hp (by omega))
      · refine x_aload dX5_tell_141 rfl ?_
        refine x_get fX5_28 dX5_tell_142 (by first | assumption | rfl) ?_
        refine x_iload dX5_tell_145 rfl ?_
        refine x_ldcS rfl dX5_tell_146 ?_
        refine x_aload dX5_tell_148 rfl ?_
        refine x_get fX5_42 dX5_tell_149 (by first | assumption | rfl) ?_
        refine x_k dX5_tell_152 ?_
        refine x_iload dX5_tell_153 rfl ?_
        refine x_imul dX5_tell_154 ?_
        refine x_iald dX5_tell_155 (by first | assumption | rfl) (by rw [ix2]; exact vp_in_nI (by omega) (by decide)) ?_
        rw [e2]
        refine x_i2c dX5_tell_156 ?_
        rw [toC (hbb _)]
        refine x_callT (as := [.int (b1 (2 * p))]) ltX5_54 (Rm.of rfl) (cc1 := 0) (cn1 := 0) rfl rfl (Nat.le_of_ble_eq_true rfl) dX5_tell_157 (r_indexOf (hbb _)) ?_
        refine x_iastn dX5_tell_160 (by first | assumption | rfl) ⟨by first | omega | decide, by decide⟩ ?_
        rw [filG_id _ (fun i => kI (b1 (2 * i))) _ rfl, tlH_14]
        refine x_aload dX5_tell_161 rfl ?_
        refine x_get fX5_31 dX5_tell_162 (by first | assumption | rfl) ?_
        refine x_iload dX5_tell_165 rfl ?_
        refine x_aload dX5_tell_166 rfl ?_
        refine x_aload dX5_tell_167 rfl ?_
        refine x_get fX5_42 dX5_tell_168 (by first | assumption | rfl) ?_
        refine x_k dX5_tell_171 ?_
        refine x_iload dX5_tell_172 rfl ?_
        refine x_imul dX5_tell_173 ?_
        refine x_k dX5_tell_174 ?_
        refine x_iadd dX5_tell_175 ?_
        refine x_iald dX5_tell_176 (by first | assumption | rfl) (by rw [ix2, nI_1]; exact vp_in_nI (by omega) (by decide)) ?_
        rw [e21]
        refine x_V1i lX5_73 (Rm.of rfl) (cc1 := 0) (cn1 := 0) rfl rfl (Nat.le_of_ble_eq_true rfl) dX5_tell_177 (by first | assumption | rfl) (r_spotOf rfl _ rfl) ?_
        refine x_iastn dX5_tell_180 (by first | assumption | rfl) ⟨by first | omega | decide, by decide⟩ ?_
        rw [filG_id _ (fun i => spF (hN n0 b0) (b1 (2 * i + 1))) _ rfl, tlH_15]
        refine x_aload dX5_tell_181 rfl ?_
        refine x_get fX5_34 dX5_tell_182 (by first | assumption | rfl) ?_
        refine x_aload dX5_tell_185 rfl ?_
        refine x_get fX5_31 dX5_tell_186 (by first | assumption | rfl) ?_
        refine x_iload dX5_tell_189 rfl ?_
        refine x_ialdn dX5_tell_190 (by first | assumption | rfl) ⟨by first | omega | decide, by decide⟩ ?_
        rw [es]
        refine x_dup2 dX5_tell_191 rfl rfl ?_
        refine x_ialdn dX5_tell_192 (by first | assumption | rfl) ⟨by first | omega | decide, by decide⟩ ?_
        refine x_k dX5_tell_193 ?_
        refine x_iload dX5_tell_194 rfl ?_
        refine x_ishl dX5_tell_195 ?_
        refine x_ior dX5_tell_196 ?_
        refine x_iastn dX5_tell_197 (by first | assumption | rfl) ⟨by first | omega | decide, by decide⟩ ?_
        refine x_inc1 dX5_tell_198 rfl (Nat.le_of_ble_eq_true rfl) rfl ?_
        refine x_goto dX5_tell_201 ?_
        rw [mskA_s (by omega) (by decide) eq (by omega), tlH_16]
        exact ih
  have J46 : ∀ H1 N1 : Int32, H1 = nI (hN n0 b0) → N1 = nI (pN n1 b1) → Ex Γ mX5_tell (gx_Z Γ mX5_tell (fun r' h' sz' => r' = none ∧ h' = (tlH h (hN n0 b0) (pN n1 b1) (filG ow0 (fun i => b0 (3 * i) - 48) (hN n0 b0)) (filG pr0 (fun i => b0 (3 * i + 1) - 48) (hN n0 b0)) (mskA (fun i => b0 (3 * i) - 48) od0 8 (hN n0 b0)) (filG kd0 (fun i => kI (b1 (2 * i))) (pN n1 b1)) (filG sp0 (fun i => spF (hN n0 b0) (b1 (2 * i + 1))) (pN n1 b1)) (mskA (fun i => spF (hN n0 b0) (b1 (2 * i + 1))) in0 9 (pN n1 b1))) ∧ sz' = sz)) 0 0 46 [.ref 10, .ref 6, .ref 8, .retAddr 0] [] (va_up h 10 (cSt H1 N1)) sz := by
    intro H1 N1 e1 e2
    subst e1; subst e2
    refine x_aload dX5_tell_46 rfl ?_
    refine x_get fX5_25 dX5_tell_47 (by first | assumption | rfl) ?_
    refine x_k dX5_tell_50 ?_
    refine x_S2v lX5_67 (Rm.of rfl) (cc1 := 0) (cn1 := 0) rfl rfl (Nat.le_of_ble_eq_true rfl) dX5_tell_51 (r_fill_13 h13 (by decide)) ?_
    refine x_aload dX5_tell_54 rfl ?_
    refine x_get fX5_34 dX5_tell_55 (by first | assumption | rfl) ?_
    refine x_k dX5_tell_58 ?_
    refine x_S2v lX5_67 (Rm.of rfl) (cc1 := 0) (cn1 := 0) rfl rfl (Nat.le_of_ble_eq_true rfl) dX5_tell_59 (r_fill_16 h16 (by decide)) ?_
    refine x_k dX5_tell_62 ?_
    refine x_istore dX5_tell_63 (Nat.le_of_ble_eq_true rfl) rfl ?_
    refine x_eq rfl rfl (show _ = tl1 h (hN n0 b0) (pN n1 b1) (filG ow0 (fun i => b0 (3 * i) - 48) 0) (filG pr0 (fun i => b0 (3 * i + 1) - 48) 0) (mskA (fun i => b0 (3 * i) - 48) od0 8 0) (filF in0 0 9) by rw [filG_0, filG_0, ← mskA_0]; exact (by funext j; simp only [va_up]; (repeat' split) <;> first | rfl | omega | simp_all)) (loopUp (P := fun p => Ex Γ mX5_tell _ 0 0 64 [.ref 10, .ref 6, .ref 8, .int (nI p)] [] (tl1 h (hN n0 b0) (pN n1 b1) (filG ow0 (fun i => b0 (3 * i) - 48) p) (filG pr0 (fun i => b0 (3 * i + 1) - 48) p) (mskA (fun i => b0 (3 * i) - 48) od0 8 p) (filF in0 0 9)) sz) (hN n0 b0) ?_ (fun p hp ih => ?_) 0 (Nat.zero_le _))
    · refine x_iload dX5_tell_64 rfl ?_
      refine x_aload dX5_tell_65 rfl ?_
      refine x_get fX5_9 dX5_tell_66 (by first | assumption | rfl) ?_
      refine x_icmp_ge dX5_tell_69 (fun b69 => ?_) (fun b69 => ?_)
      · refine x_k dX5_tell_131 ?_
        refine x_istore dX5_tell_132 (Nat.le_of_ble_eq_true rfl) rfl ?_
        exact x_eq rfl rfl (show _ = tlH h (hN n0 b0) (pN n1 b1) (filG ow0 (fun i => b0 (3 * i) - 48) (hN n0 b0)) (filG pr0 (fun i => b0 (3 * i + 1) - 48) (hN n0 b0)) (mskA (fun i => b0 (3 * i) - 48) od0 8 (hN n0 b0)) (filG kd0 (fun i => kI (b1 (2 * i))) 0) (filG sp0 (fun i => spF (hN n0 b0) (b1 (2 * i + 1))) 0) (mskA (fun i => spF (hN n0 b0) (b1 (2 * i + 1))) in0 9 0) by rw [filG_0 kd0, filG_0 sp0, ← mskA_0]; exact (by funext j; simp only [va_up]; (repeat' split) <;> first | rfl | omega | simp_all)) L2
      · exact absurd (Int32.le_refl _) b69
    · have e3 : (3 * nI p).toNatClampNeg = 3 * p := by rw [ix3, nI_clamp (by omega)]
      have e31 : (3 * nI p + 1).toNatClampNeg = 3 * p + 1 := by rw [ix3, nI_1, nI_clamp (by omega)]
      obtain ⟨q, hq, eq⟩ := badH_dig (hH8.2.2 p hp).1 (by omega)
      have es : filG ow0 (fun i => b0 (3 * i) - 48) (p + 1) p = nI q := by rw [filG_lt (Nat.lt_succ_self p)]; exact eq
      refine x_iload dX5_tell_64 rfl ?_
      refine x_aload dX5_tell_65 rfl ?_
      refine x_get fX5_9 dX5_tell_66 (by first | assumption | rfl) ?_
      refine x_icmp_ge dX5_tell_69 (fun b69 => ?_) (fun b69 => ?_)
      · exact absurd b69 (nI_ge hp (by omega))
      · refine x_aload dX5_tell_72 rfl ?_
        refine x_get fX5_18 dX5_tell_73 (by first | assumption | rfl) ?_
        refine x_iload dX5_tell_76 rfl ?_
        refine x_aload dX5_tell_77 rfl ?_
        refine x_get fX5_42 dX5_tell_78 (by first | assumption | rfl) ?_
        refine x_k dX5_tell_81 ?_
        refine x_iload dX5_tell_82 rfl ?_
        refine x_imul dX5_tell_83 ?_
        refine x_iald dX5_tell_84 (by first | assumption | rfl) (by rw [ix3]; exact vp_in_nI (by omega) (by decide)) ?_
        rw [e3]
        refine x_k dX5_tell_85 ?_
        refine x_isub dX5_tell_87 ?_
        refine x_iastn dX5_tell_88 (by first | assumption | rfl) ⟨by first | omega | decide, by decide⟩ ?_
        rw [filG_id _ (fun i => b0 (3 * i) - 48) _ rfl, tl1_11]
        refine x_aload dX5_tell_89 rfl ?_
        refine x_get fX5_22 dX5_tell_90 (by first | assumption | rfl) ?_
        refine x_iload dX5_tell_93 rfl ?_
        refine x_aload dX5_tell_94 rfl ?_
        refine x_get fX5_42 dX5_tell_95 (by first | assumption | rfl) ?_
        refine x_k dX5_tell_98 ?_
        refine x_iload dX5_tell_99 rfl ?_
        refine x_imul dX5_tell_100 ?_
        refine x_k dX5_tell_101 ?_
        refine x_iadd dX5_tell_102 ?_
        refine x_iald dX5_tell_103 (by first | assumption | rfl) (by rw [ix3, nI_1]; exact vp_in_nI (by omega) (by decide)) ?_
        rw [e31]
        refine x_k dX5_tell_104 ?_
        refine x_isub dX5_tell_106 ?_
        refine x_iastn dX5_tell_107 (by first | assumption | rfl) ⟨by first | omega | decide, by decide⟩ ?_
        rw [filG_id _ (fun i => b0 (3 * i + 1) - 48) _ rfl, tl1_12]
        refine x_aload dX5_tell_108 rfl ?_
        refine x_get fX5_25 dX5_tell_109 (by first | assumption | rfl) ?_
        refine x_aload dX5_tell_112 rfl ?_
        refine x_get fX5_18 dX5_tell_113 (by first | assumption | rfl) ?_
        refine x_iload dX5_tell_116 rfl ?_
        refine x_ialdn dX5_tell_117 (by first | assumption | rfl) ⟨by first | omega | decide, by decide⟩ ?_
        rw [es]
        refine x_dup2 dX5_tell_118 rfl rfl ?_
        refine x_ialdn dX5_tell_119 (by first | assumption | rfl) ⟨by first | omega | decide, by decide⟩ ?_
        refine x_k dX5_tell_120 ?_
        refine x_iload dX5_tell_121 rfl ?_
        refine x_ishl dX5_tell_122 ?_
        refine x_ior dX5_tell_123 ?_
        refine x_iastn dX5_tell_124 (by first | assumption | rfl) ⟨by first | omega | decide, by decide⟩ ?_
        refine x_inc1 dX5_tell_125 rfl (Nat.le_of_ble_eq_true rfl) rfl ?_
        refine x_goto dX5_tell_128 ?_
        rw [mskA_s (by omega) (by decide) eq (by omega), tl1_13]
        exact ih
  have J21 : ∀ H1 : Int32, H1 = nI (hN n0 b0) → Ex Γ mX5_tell (gx_Z Γ mX5_tell (fun r' h' sz' => r' = none ∧ h' = (tlH h (hN n0 b0) (pN n1 b1) (filG ow0 (fun i => b0 (3 * i) - 48) (hN n0 b0)) (filG pr0 (fun i => b0 (3 * i + 1) - 48) (hN n0 b0)) (mskA (fun i => b0 (3 * i) - 48) od0 8 (hN n0 b0)) (filG kd0 (fun i => kI (b1 (2 * i))) (pN n1 b1)) (filG sp0 (fun i => spF (hN n0 b0) (b1 (2 * i + 1))) (pN n1 b1)) (mskA (fun i => spF (hN n0 b0) (b1 (2 * i + 1))) in0 9 (pN n1 b1))) ∧ sz' = sz)) 0 0 21 [.ref 10, .ref 6, .ref 8, .retAddr 0] [.int H1, .ref 10] h sz := by
    intro H1 e1
    refine x_put fX5_9 tt5 gX5_9 dX5_tell_21 (by first | assumption | rfl) (Nat.le_of_ble_eq_true rfl) (w5_0 _) ?_
    refine x_aload dX5_tell_24 rfl ?_
    refine x_aload dX5_tell_25 rfl ?_
    refine x_S1i lX5_64 (Rm.of rfl) (cc1 := 0) (cn1 := 0) rfl rfl (Nat.le_of_ble_eq_true rfl) dX5_tell_26 (r_wrongPerson (n := n1) h8 h9 hb1 hbb) ?_
    refine x_k dX5_tell_29 ?_
    refine x_icmp_ne dX5_tell_30 (fun b30 => ?_) (fun b30 => ?_)
    · refine x_k dX5_tell_42 ?_
      skip
      refine x_put fX5_15 tt5 gX5_15 dX5_tell_43 (by first | assumption | rfl) (Nat.le_of_ble_eq_true rfl) (w5_1 _) ?_
      refine x_eq rfl rfl (by rw [up_up]; rfl) (J46 _ _ e1 (by first | (rw [pN, if_pos (Classical.not_not.mp b30)]) | (rw [pN, if_neg b30]; rfl)))
    · refine x_aload dX5_tell_33 rfl ?_
      refine x_get fX5_37 dX5_tell_34 (by first | assumption | rfl) ?_
      refine x_k dX5_tell_37 ?_
      refine x_idivn (d := 2) dX5_tell_38 (by omega) (by decide) ?_
      refine x_goto dX5_tell_39 ?_
      skip
      refine x_put fX5_15 tt5 gX5_15 dX5_tell_43 (by first | assumption | rfl) (Nat.le_of_ble_eq_true rfl) (w5_1 _) ?_
      refine x_eq rfl rfl (by rw [up_up]; rfl) (J46 _ _ e1 (by first | (rw [pN, if_pos (Classical.not_not.mp b30)]) | (rw [pN, if_neg b30]; rfl)))
  refine x_aload dX5_tell_0 rfl ?_
  refine x_aload dX5_tell_1 rfl ?_
  refine x_S1i lX5_60 (Rm.of rfl) (cc1 := 0) (cn1 := 0) rfl rfl (Nat.le_of_ble_eq_true rfl) dX5_tell_2 (r_wrongHouse (n := n0) h6 h7 hb0) ?_
  refine x_k dX5_tell_5 ?_
  refine x_icmp_ne dX5_tell_6 (fun b6 => ?_) (fun b6 => ?_)
  · refine x_k dX5_tell_20 ?_
    refine J21 _ (by first | (rw [hN, if_pos (Classical.not_not.mp b6)]) | (rw [hN, if_neg b6]; rfl))
  · refine x_aload dX5_tell_9 rfl ?_
    refine x_get fX5_37 dX5_tell_10 (by first | assumption | rfl) ?_
    refine x_k dX5_tell_13 ?_
    refine x_iadd dX5_tell_14 ?_
    rw [nI_1]
    refine x_k dX5_tell_15 ?_
    refine x_idivn (d := 3) dX5_tell_16 (by omega) (by decide) ?_
    refine x_goto dX5_tell_17 ?_
    refine J21 _ (by first | (rw [hN, if_pos (Classical.not_not.mp b6)]) | (rw [hN, if_neg b6]; rfl))
end Tell
