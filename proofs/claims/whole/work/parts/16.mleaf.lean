theorem nzb {c : Prop} [Decidable c] : narrow .boolean (.int (if c then 1 else 0)) = .int (if c then 1 else 0) := by
  by_cases h : c <;> simp [h, narrow]
theorem ix30 (q p : Nat) : 30 * nI q + nI p = nI (30 * q + p) := by
  rw [show (30 : Int32) = nI 30 from rfl, pk_mul, nI_add]
theorem ix48 (q p : Nat) : 48 * nI q + nI p = nI (48 * q + p) := by
  rw [show (48 : Int32) = nI 48 from rfl, pk_mul, nI_add]
theorem ix8' (q p : Nat) : 8 * nI q + nI p = nI (8 * q + p) := by
  rw [show (8 : Int32) = nI 8 from rfl, pk_mul, nI_add]
theorem in8' {q p : Nat} (hq : q < 8) (hp : p < 8) : vp_in (8 * nI q + nI p) 64 := by
  rw [ix8']; exact vp_in_nI (by omega) (by decide)
theorem in48 {q p : Nat} (hq : q < 4) (hp : p < 48) : vp_in (48 * nI q + nI p) 192 := by
  rw [ix48]; exact vp_in_nI (by omega) (by decide)
section MLeaf
variable {Γ : GX} {h : Hp} {sz : Nat} {hs pe sa ll fa fi : Int32}
theorem r_in (v lo hi : Int32) : Re Γ mX10_in [.int v, .int lo, .int hi] h sz (some (.int (bI (lo ≤ v ∧ v ≤ hi)))) h sz := by
  refine x_enter 0 (by decide) rfl ?_
  refine x_iload dX10_in_0 rfl ?_
  refine x_iload dX10_in_1 rfl ?_
  refine x_icmp_lt dX10_in_2 (fun b2 => ?_) (fun b2 => ?_)
  · refine x_k dX10_in_14 ?_
    refine x_iret (ty := .boolean) dX10_in_15 rfl (by first | rfl | exact nzb) (Nat.zero_le _) (Nat.zero_le _) ?_
    exact ⟨by simp only [Int32.lt_iff_toInt_lt, Int32.le_iff_toInt_le, bI] at *; congr 2; split <;> first | rfl | omega, rfl, rfl⟩
  · refine x_iload dX10_in_5 rfl ?_
    refine x_iload dX10_in_6 rfl ?_
    refine x_icmp_gt dX10_in_7 (fun b7 => ?_) (fun b7 => ?_)
    · refine x_k dX10_in_14 ?_
      refine x_iret (ty := .boolean) dX10_in_15 rfl (by first | rfl | exact nzb) (Nat.zero_le _) (Nat.zero_le _) ?_
      exact ⟨by simp only [Int32.lt_iff_toInt_lt, Int32.le_iff_toInt_le, bI] at *; congr 2; split <;> first | rfl | omega, rfl, rfl⟩
    · refine x_k dX10_in_10 ?_
      refine x_goto dX10_in_11 ?_
      refine x_iret (ty := .boolean) dX10_in_15 rfl (by first | rfl | exact nzb) (Nat.zero_le _) (Nat.zero_le _) ?_
      exact ⟨by simp only [Int32.lt_iff_toInt_lt, Int32.le_iff_toInt_le, bI] at *; congr 2; split <;> first | rfl | omega, rfl, rfl⟩
theorem r_isIn (v k : Int32) : Re Γ mX10_isIn [.int v, .int k] h sz (some (.int (bI ((v >>> (k &&& 31)) &&& 1 = 1)))) h sz := by
  refine x_enter 0 (by decide) rfl ?_
  refine x_iload dX10_isIn_0 rfl ?_
  refine x_iload dX10_isIn_1 rfl ?_
  refine x_ishr dX10_isIn_2 ?_
  refine x_k dX10_isIn_3 ?_
  refine x_iand dX10_isIn_4 ?_
  refine x_k dX10_isIn_5 ?_
  refine x_icmp_ne dX10_isIn_6 (fun b6 => ?_) (fun b6 => ?_)
  · refine x_k dX10_isIn_13 ?_
    refine x_iret (ty := .boolean) dX10_isIn_14 rfl (by first | rfl | exact nzb) (Nat.zero_le _) (Nat.zero_le _) ?_
    exact ⟨by simp_all, rfl, rfl⟩
  · refine x_k dX10_isIn_9 ?_
    refine x_goto dX10_isIn_10 ?_
    refine x_iret (ty := .boolean) dX10_isIn_14 rfl (by first | rfl | exact nzb) (Nat.zero_le _) (Nat.zero_le _) ?_
    exact ⟨by simp_all, rfl, rfl⟩
theorem r_ones (v : Int32) : Re Γ mX10_ones [.int v] h sz (some (.int (accF 0 (fun k => (v >>> (nI k &&& 31)) &&& 1) 9))) h sz := by
  refine x_enter 2 (by decide) rfl ?_
  refine x_k dX10_ones_0 ?_
  refine x_istore dX10_ones_1 (Nat.le_of_ble_eq_true rfl) rfl ?_
  refine x_k dX10_ones_2 ?_
  refine x_istore dX10_ones_3 (Nat.le_of_ble_eq_true rfl) rfl ?_
  refine x_eq rfl rfl rfl (loopUp (P := fun p => Ex Γ mX10_ones _ 0 0 4 [.int v, .int (accF 0 (fun k => (v >>> (nI k &&& 31)) &&& 1) p), .int (nI p)] [] h sz) 9 ?_ (fun p hp ih => ?_) 0 (Nat.zero_le _))
  · refine x_iload dX10_ones_4 rfl ?_
    refine x_k dX10_ones_5 ?_
    refine x_icmp_ge dX10_ones_7 (fun b7 => ?_) (fun b7 => ?_)
    · refine x_iload dX10_ones_24 rfl ?_
      refine x_iret (ty := .int) dX10_ones_25 rfl rfl (Nat.zero_le _) (Nat.zero_le _) ?_
      exact ⟨rfl, rfl, rfl⟩
    · exact absurd (by decide) b7
  · refine x_iload dX10_ones_4 rfl ?_
    refine x_k dX10_ones_5 ?_
    refine x_icmp_ge dX10_ones_7 (fun b7 => ?_) (fun b7 => ?_)
    · exact absurd b7 (nI_ge (b := 9) hp (by decide))
    · refine x_iload dX10_ones_10 rfl ?_
      refine x_iload dX10_ones_11 rfl ?_
      refine x_iload dX10_ones_12 rfl ?_
      refine x_ishr dX10_ones_13 ?_
      refine x_k dX10_ones_14 ?_
      refine x_iand dX10_ones_15 ?_
      refine x_iadd dX10_ones_16 ?_
      refine x_istore dX10_ones_17 (Nat.le_of_ble_eq_true rfl) rfl ?_
      refine x_inc1 dX10_ones_18 rfl (Nat.le_of_ble_eq_true rfl) rfl ?_
      refine x_goto dX10_ones_21 ?_
      exact ih
theorem r_isEight (v : Int32) : Re Γ mX10_isEight [.int v] h sz (some (.int (bI (0 ≤ v ∧ v ≤ 7)))) h sz := by
  refine x_enter 0 (by decide) rfl ?_
  refine x_iload dX10_isEight_0 rfl ?_
  refine x_k dX10_isEight_1 ?_
  refine x_k dX10_isEight_2 ?_
  refine x_S3i lX10_92 (Rm.of rfl) (cc1 := 0) (cn1 := 0) rfl rfl (Nat.le_of_ble_eq_true rfl) dX10_isEight_4 (r_in v 0 7) ?_
  refine x_iret (ty := .boolean) dX10_isEight_7 rfl (by first | rfl | exact nzb) (Nat.zero_le _) (Nat.zero_le _) ?_
  exact ⟨rfl, rfl, rfl⟩
theorem r_isSheet (v : Int32) : Re Γ mX10_isSheet [.int v] h sz (some (.int (bI (0 ≤ v ∧ v ≤ 3)))) h sz := by
  refine x_enter 0 (by decide) rfl ?_
  refine x_iload dX10_isSheet_0 rfl ?_
  refine x_k dX10_isSheet_1 ?_
  refine x_k dX10_isSheet_2 ?_
  refine x_S3i lX10_92 (Rm.of rfl) (cc1 := 0) (cn1 := 0) rfl rfl (Nat.le_of_ble_eq_true rfl) dX10_isSheet_3 (r_in v 0 3) ?_
  refine x_iret (ty := .boolean) dX10_isSheet_6 rfl (by first | rfl | exact nzb) (Nat.zero_le _) (Nat.zero_le _) ?_
  exact ⟨rfl, rfl, rfl⟩
theorem r_meets (h57 : h 57 = cM hs pe sa ll fa fi) (t : Int32) : Re Γ mX10_meets [.ref 57, .int t] h sz (some (.int (-10 - t))) (va_up h 57 (cM hs pe sa ll fa t)) sz := by
  refine x_enter 0 (by decide) rfl ?_
  refine x_aload dX10_meets_0 rfl ?_
  refine x_iload dX10_meets_1 rfl ?_
  refine x_put fX10_241 tt10 gX10_241 dX10_meets_2 (by first | assumption | rfl) (Nat.le_of_ble_eq_true rfl) (w10_32 _) ?_
  refine x_k dX10_meets_5 ?_
  refine x_iload dX10_meets_7 rfl ?_
  refine x_isub dX10_meets_8 ?_
  refine x_iret (ty := .int) dX10_meets_9 rfl rfl (Nat.zero_le _) (Nat.zero_le _) ?_
  exact ⟨rfl, rfl, rfl⟩
theorem r_Mtype_bad {t b : Int32} (hb : ¬ (0 ≤ t ∧ t ≤ 1) ∨ ¬ (0 ≤ b ∧ b ≤ 255)) : Re Γ mX10_type [.ref 57, .int t, .int b] h sz (some (.int (-2))) h sz := by
  refine x_enter 0 (by decide) rfl ?_
  refine x_iload dX10_type_0 rfl ?_
  refine x_k dX10_type_1 ?_
  refine x_k dX10_type_2 ?_
  refine x_S3i lX10_92 (Rm.of rfl) (cc1 := 0) (cn1 := 0) rfl rfl (Nat.le_of_ble_eq_true rfl) dX10_type_3 (r_in t 0 1) ?_
  refine x_if_eq dX10_type_6 (fun b6 => ?_) (fun b6 => ?_)
  · try simp only [i01, Classical.not_not] at b6
    refine x_k dX10_type_20 ?_
    refine x_iret (ty := .int) dX10_type_22 rfl rfl (Nat.zero_le _) (Nat.zero_le _) ?_
    exact ⟨rfl, rfl, rfl⟩
  · try simp only [i01, Classical.not_not] at b6
    refine x_iload dX10_type_9 rfl ?_
    refine x_k dX10_type_10 ?_
    refine x_k dX10_type_11 ?_
    refine x_S3i lX10_92 (Rm.of rfl) (cc1 := 0) (cn1 := 0) rfl rfl (Nat.le_of_ble_eq_true rfl) dX10_type_14 (r_in b 0 255) ?_
    refine x_if_ne dX10_type_17 (fun b17 => ?_) (fun b17 => ?_)
    · simp_all
    · try simp only [i01, Classical.not_not] at b17
      refine x_k dX10_type_20 ?_
      refine x_iret (ty := .int) dX10_type_22 rfl rfl (Nat.zero_le _) (Nat.zero_le _) ?_
      exact ⟨rfl, rfl, rfl⟩
theorem r_Mtype_full {t : Nat} {b : Int32} {ty : Nat → Int32} (h57 : h 57 = cM hs pe sa ll fa fi) (h58 : h 58 = ia 2 ty) (ht : t < 2) (hb : 0 ≤ b ∧ b ≤ 255) (hf : ty t = if t = 0 then 30 else 24) : Re Γ mX10_type [.ref 57, .int (nI t), .int b] h sz (some (.int (-4))) h sz := by
  refine x_enter 0 (by decide) rfl ?_
  have h01 : 0 ≤ nI t ∧ nI t ≤ 1 := ⟨nI_le (a := 0) (by omega) (by omega), nI_le (b := 1) (by omega) (by omega)⟩
  have e0 : nI t = 0 ↔ t = 0 := nI_eq (b := 0) (by omega) (by omega)
  refine x_iload dX10_type_0 rfl ?_
  refine x_k dX10_type_1 ?_
  refine x_k dX10_type_2 ?_
  refine x_S3i lX10_92 (Rm.of rfl) (cc1 := 0) (cn1 := 0) rfl rfl (Nat.le_of_ble_eq_true rfl) dX10_type_3 (r_in (nI t) 0 1) ?_
  refine x_if_eq dX10_type_6 (fun b6 => ?_) (fun b6 => ?_)
  · simp_all
  · try simp only [i01, Classical.not_not] at b6
    refine x_iload dX10_type_9 rfl ?_
    refine x_k dX10_type_10 ?_
    refine x_k dX10_type_11 ?_
    refine x_S3i lX10_92 (Rm.of rfl) (cc1 := 0) (cn1 := 0) rfl rfl (Nat.le_of_ble_eq_true rfl) dX10_type_14 (r_in b 0 255) ?_
    refine x_if_ne dX10_type_17 (fun b17 => ?_) (fun b17 => ?_)
    · try simp only [i01, Classical.not_not] at b17
      refine x_aload dX10_type_23 rfl ?_
      refine x_get fX10_7 dX10_type_24 (by first | assumption | rfl) ?_
      refine x_iload dX10_type_27 rfl ?_
      refine x_ialdn dX10_type_28 (by first | assumption | rfl) ⟨by first | omega | decide, by decide⟩ ?_
      refine x_iload dX10_type_29 rfl ?_
      refine x_if_ne dX10_type_30 (fun b30 => ?_) (fun b30 => ?_)
      · refine x_k dX10_type_38 ?_
        refine x_icmp_ne dX10_type_40 (fun b40 => ?_) (fun b40 => ?_)
        · simp_all
        · refine x_k dX10_type_43 ?_
          refine x_iret (ty := .int) dX10_type_45 rfl rfl (Nat.zero_le _) (Nat.zero_le _) ?_
          exact ⟨rfl, rfl, rfl⟩
      · refine x_k dX10_type_33 ?_
        refine x_goto dX10_type_35 ?_
        refine x_icmp_ne dX10_type_40 (fun b40 => ?_) (fun b40 => ?_)
        · simp_all
        · refine x_k dX10_type_43 ?_
          refine x_iret (ty := .int) dX10_type_45 rfl rfl (Nat.zero_le _) (Nat.zero_le _) ?_
          exact ⟨rfl, rfl, rfl⟩
    · simp_all
theorem r_Mtype_ok {t n : Nat} {b : Int32} {ty tx : Nat → Int32} (h57 : h 57 = cM hs pe sa ll fa fi) (h58 : h 58 = ia 2 ty) (h59 : h 59 = ia 60 tx) (ht : t < 2) (hb : 0 ≤ b ∧ b ≤ 255) (hn : ty t = nI n) (hf : n < if t = 0 then 30 else 24) : Re Γ mX10_type [.ref 57, .int (nI t), .int b] h sz (some (.int (nI (n + 1)))) (va_up (va_up h 59 (ia 60 (upd tx (30 * t + n) b))) 58 (ia 2 (upd ty t (nI (n + 1))))) sz := by
  refine x_enter 0 (by decide) rfl ?_
  have h01 : 0 ≤ nI t ∧ nI t ≤ 1 := ⟨nI_le (a := 0) (by omega) (by omega), nI_le (b := 1) (by omega) (by omega)⟩
  have e0 : nI t = 0 ↔ t = 0 := nI_eq (b := 0) (by omega) (by omega)
  have hn30 : n < 30 := by split at hf <;> omega
  have e1 : nI n ≠ 30 := fun e => by have := (nI_eq (b := 30) (by omega) (by decide)).mp e; omega
  have e2 : t ≠ 0 → nI n ≠ 24 := fun q e => by rw [if_neg q] at hf; have := (nI_eq (b := 24) (by omega) (by decide)).mp e; omega
  refine x_iload dX10_type_0 rfl ?_
  refine x_k dX10_type_1 ?_
  refine x_k dX10_type_2 ?_
  refine x_S3i lX10_92 (Rm.of rfl) (cc1 := 0) (cn1 := 0) rfl rfl (Nat.le_of_ble_eq_true rfl) dX10_type_3 (r_in (nI t) 0 1) ?_
  refine x_if_eq dX10_type_6 (fun b6 => ?_) (fun b6 => ?_)
  · simp_all
  · try simp only [i01, Classical.not_not] at b6
    refine x_iload dX10_type_9 rfl ?_
    refine x_k dX10_type_10 ?_
    refine x_k dX10_type_11 ?_
    refine x_S3i lX10_92 (Rm.of rfl) (cc1 := 0) (cn1 := 0) rfl rfl (Nat.le_of_ble_eq_true rfl) dX10_type_14 (r_in b 0 255) ?_
    refine x_if_ne dX10_type_17 (fun b17 => ?_) (fun b17 => ?_)
    · try simp only [i01, Classical.not_not] at b17
      refine x_aload dX10_type_23 rfl ?_
      refine x_get fX10_7 dX10_type_24 (by first | assumption | rfl) ?_
      refine x_iload dX10_type_27 rfl ?_
      refine x_ialdn dX10_type_28 (by first | assumption | rfl) ⟨by first | omega | decide, by decide⟩ ?_
      refine x_iload dX10_type_29 rfl ?_
      refine x_if_ne dX10_type_30 (fun b30 => ?_) (fun b30 => ?_)
      · refine x_k dX10_type_38 ?_
        refine x_icmp_ne dX10_type_40 (fun b40 => ?_) (fun b40 => ?_)
        · refine x_aload dX10_type_46 rfl ?_
          refine x_get fX10_13 dX10_type_47 (by first | assumption | rfl) ?_
          refine x_k dX10_type_50 ?_
          refine x_iload dX10_type_52 rfl ?_
          refine x_imul dX10_type_53 ?_
          refine x_aload dX10_type_54 rfl ?_
          refine x_get fX10_7 dX10_type_55 (by first | assumption | rfl) ?_
          refine x_iload dX10_type_58 rfl ?_
          refine x_ialdn dX10_type_59 (by first | assumption | rfl) ⟨by first | omega | decide, by decide⟩ ?_
          refine x_iadd dX10_type_60 ?_
          refine x_iload dX10_type_61 rfl ?_
          refine x_iast dX10_type_62 (by first | assumption | rfl) (by rw [hn, ix30]; exact vp_in_nI (by omega) (by decide)) ?_
          refine x_aload dX10_type_63 rfl ?_
          refine x_get fX10_7 dX10_type_64 (by first | assumption | rfl) ?_
          refine x_iload dX10_type_67 rfl ?_
          refine x_dup2 dX10_type_68 rfl rfl ?_
          refine x_ialdn dX10_type_69 (by first | assumption | rfl) ⟨by first | omega | decide, by decide⟩ ?_
          refine x_k dX10_type_70 ?_
          refine x_iadd dX10_type_71 ?_
          refine x_iastn dX10_type_72 (by first | assumption | rfl) ⟨by first | omega | decide, by decide⟩ ?_
          refine x_aload dX10_type_73 rfl ?_
          refine x_get fX10_7 dX10_type_74 (by first | assumption | rfl) ?_
          refine x_iload dX10_type_77 rfl ?_
          refine x_ialdn dX10_type_78 (by first | assumption | rfl) ⟨by first | omega | decide, by decide⟩ ?_
          refine x_iret (ty := .int) dX10_type_79 rfl rfl (Nat.zero_le _) (Nat.zero_le _) ?_
          exact ⟨by simp [upd, hn, nI_1], by rw [hn, ix30, nI_clamp (by omega), nI_1], rfl⟩
        · simp_all
      · refine x_k dX10_type_33 ?_
        refine x_goto dX10_type_35 ?_
        refine x_icmp_ne dX10_type_40 (fun b40 => ?_) (fun b40 => ?_)
        · refine x_aload dX10_type_46 rfl ?_
          refine x_get fX10_13 dX10_type_47 (by first | assumption | rfl) ?_
          refine x_k dX10_type_50 ?_
          refine x_iload dX10_type_52 rfl ?_
          refine x_imul dX10_type_53 ?_
          refine x_aload dX10_type_54 rfl ?_
          refine x_get fX10_7 dX10_type_55 (by first | assumption | rfl) ?_
          refine x_iload dX10_type_58 rfl ?_
          refine x_ialdn dX10_type_59 (by first | assumption | rfl) ⟨by first | omega | decide, by decide⟩ ?_
          refine x_iadd dX10_type_60 ?_
          refine x_iload dX10_type_61 rfl ?_
          refine x_iast dX10_type_62 (by first | assumption | rfl) (by rw [hn, ix30]; exact vp_in_nI (by omega) (by decide)) ?_
          refine x_aload dX10_type_63 rfl ?_
          refine x_get fX10_7 dX10_type_64 (by first | assumption | rfl) ?_
          refine x_iload dX10_type_67 rfl ?_
          refine x_dup2 dX10_type_68 rfl rfl ?_
          refine x_ialdn dX10_type_69 (by first | assumption | rfl) ⟨by first | omega | decide, by decide⟩ ?_
          refine x_k dX10_type_70 ?_
          refine x_iadd dX10_type_71 ?_
          refine x_iastn dX10_type_72 (by first | assumption | rfl) ⟨by first | omega | decide, by decide⟩ ?_
          refine x_aload dX10_type_73 rfl ?_
          refine x_get fX10_7 dX10_type_74 (by first | assumption | rfl) ?_
          refine x_iload dX10_type_77 rfl ?_
          refine x_ialdn dX10_type_78 (by first | assumption | rfl) ⟨by first | omega | decide, by decide⟩ ?_
          refine x_iret (ty := .int) dX10_type_79 rfl rfl (Nat.zero_le _) (Nat.zero_le _) ?_
          exact ⟨by simp [upd, hn, nI_1], by rw [hn, ix30, nI_clamp (by omega), nI_1], rfl⟩
        · simp_all
    · simp_all
theorem r_Mwipe_bad {t : Int32} (hb : ¬ (0 ≤ t ∧ t ≤ 1)) : Re Γ mX10_wipe [.ref 57, .int t] h sz (some (.int (-2))) h sz := by
  refine x_enter 1 (by decide) rfl ?_
  refine x_iload dX10_wipe_0 rfl ?_
  refine x_k dX10_wipe_1 ?_
  refine x_k dX10_wipe_2 ?_
  refine x_S3i lX10_92 (Rm.of rfl) (cc1 := 0) (cn1 := 0) rfl rfl (Nat.le_of_ble_eq_true rfl) dX10_wipe_3 (r_in t 0 1) ?_
  refine x_if_ne dX10_wipe_6 (fun b6 => ?_) (fun b6 => ?_)
  · simp_all
  · try simp only [i01, Classical.not_not] at b6
    refine x_k dX10_wipe_9 ?_
    refine x_iret (ty := .int) dX10_wipe_11 rfl rfl (Nat.zero_le _) (Nat.zero_le _) ?_
    exact ⟨rfl, rfl, rfl⟩
theorem r_Mwipe_ok {t : Nat} {ty : Nat → Int32} (h57 : h 57 = cM hs pe sa ll fa fi) (h58 : h 58 = ia 2 ty) (ht : t < 2) : Re Γ mX10_wipe [.ref 57, .int (nI t)] h sz (some (.int (ty t))) (va_up h 58 (ia 2 (upd ty t 0))) sz := by
  refine x_enter 1 (by decide) rfl ?_
  have h01 : 0 ≤ nI t ∧ nI t ≤ 1 := ⟨nI_le (a := 0) (by omega) (by omega), nI_le (b := 1) (by omega) (by omega)⟩
  refine x_iload dX10_wipe_0 rfl ?_
  refine x_k dX10_wipe_1 ?_
  refine x_k dX10_wipe_2 ?_
  refine x_S3i lX10_92 (Rm.of rfl) (cc1 := 0) (cn1 := 0) rfl rfl (Nat.le_of_ble_eq_true rfl) dX10_wipe_3 (r_in (nI t) 0 1) ?_
  refine x_if_ne dX10_wipe_6 (fun b6 => ?_) (fun b6 => ?_)
  · try simp only [i01, Classical.not_not] at b6
    refine x_aload dX10_wipe_12 rfl ?_
    refine x_get fX10_7 dX10_wipe_13 (by first | assumption | rfl) ?_
    refine x_iload dX10_wipe_16 rfl ?_
    refine x_ialdn dX10_wipe_17 (by first | assumption | rfl) ⟨by first | omega | decide, by decide⟩ ?_
    refine x_istore dX10_wipe_18 (Nat.le_of_ble_eq_true rfl) rfl ?_
    refine x_aload dX10_wipe_19 rfl ?_
    refine x_get fX10_7 dX10_wipe_20 (by first | assumption | rfl) ?_
    refine x_iload dX10_wipe_23 rfl ?_
    refine x_k dX10_wipe_24 ?_
    refine x_iastn dX10_wipe_25 (by first | assumption | rfl) ⟨by first | omega | decide, by decide⟩ ?_
    refine x_iload dX10_wipe_26 rfl ?_
    refine x_iret (ty := .int) dX10_wipe_27 rfl rfl (Nat.zero_le _) (Nat.zero_le _) ?_
    exact ⟨rfl, rfl, rfl⟩
  · simp_all
theorem r_byteAt {t k n : Nat} {ty tx : Nat → Int32} (h57 : h 57 = cM hs pe sa ll fa fi) (h58 : h 58 = ia 2 ty) (h59 : h 59 = ia 60 tx) (ht : t < 2) (hn : ty t = nI n) (hn2 : n ≤ 30) (hk : k < 100) : Re Γ mX10_byteAt [.ref 57, .int (nI t), .int (nI k)] h sz (some (.int (if k < n then tx (30 * t + k) else -1))) h sz := by
  refine x_enter 0 (by decide) rfl ?_
  have e : nI n ≤ nI k ↔ n ≤ k := nI_leI (by omega) (by omega)
  refine x_iload dX10_byteAt_0 rfl ?_
  refine x_aload dX10_byteAt_1 rfl ?_
  refine x_get fX10_7 dX10_byteAt_2 (by first | assumption | rfl) ?_
  refine x_iload dX10_byteAt_5 rfl ?_
  refine x_ialdn dX10_byteAt_6 (by first | assumption | rfl) ⟨by first | omega | decide, by decide⟩ ?_
  refine x_icmp_ge dX10_byteAt_7 (fun b7 => ?_) (fun b7 => ?_)
  · refine x_k dX10_byteAt_24 ?_
    refine x_iret (ty := .int) dX10_byteAt_25 rfl rfl (Nat.zero_le _) (Nat.zero_le _) ?_
    exact ⟨by first | (rw [hn, e] at b7; rw [ix30, nI_clamp (by omega), if_pos (by omega)]) | (rw [hn, e] at b7; rw [if_neg (by omega)]), rfl, rfl⟩
  · refine x_aload dX10_byteAt_10 rfl ?_
    refine x_get fX10_13 dX10_byteAt_11 (by first | assumption | rfl) ?_
    refine x_k dX10_byteAt_14 ?_
    refine x_iload dX10_byteAt_16 rfl ?_
    refine x_imul dX10_byteAt_17 ?_
    refine x_iload dX10_byteAt_18 rfl ?_
    refine x_iadd dX10_byteAt_19 ?_
    refine x_iald dX10_byteAt_20 (by first | assumption | rfl) (by rw [ix30]; rw [hn, e] at b7; exact vp_in_nI (by omega) (by decide)) ?_
    refine x_goto dX10_byteAt_21 ?_
    refine x_iret (ty := .int) dX10_byteAt_25 rfl rfl (Nat.zero_le _) (Nat.zero_le _) ?_
    exact ⟨by first | (rw [hn, e] at b7; rw [ix30, nI_clamp (by omega), if_pos (by omega)]) | (rw [hn, e] at b7; rw [if_neg (by omega)]), rfl, rfl⟩
theorem r_Mlaw_bad {t v : Int32} (hb : ¬ (0 ≤ t ∧ t ≤ 2) ∨ ¬ (0 ≤ v ∧ v ≤ 1)) : Re Γ mX10_law [.ref 57, .int t, .int v] h sz (some (.int (-2))) h sz := by
  refine x_enter 1 (by decide) rfl ?_
  refine x_iload dX10_law_0 rfl ?_
  refine x_k dX10_law_1 ?_
  refine x_k dX10_law_2 ?_
  refine x_S3i lX10_92 (Rm.of rfl) (cc1 := 0) (cn1 := 0) rfl rfl (Nat.le_of_ble_eq_true rfl) dX10_law_3 (r_in t 0 2) ?_
  refine x_if_eq dX10_law_6 (fun b6 => ?_) (fun b6 => ?_)
  · try simp only [i01, Classical.not_not] at b6
    refine x_k dX10_law_18 ?_
    refine x_iret (ty := .int) dX10_law_20 rfl rfl (Nat.zero_le _) (Nat.zero_le _) ?_
    exact ⟨rfl, rfl, rfl⟩
  · try simp only [i01, Classical.not_not] at b6
    refine x_iload dX10_law_9 rfl ?_
    refine x_k dX10_law_10 ?_
    refine x_k dX10_law_11 ?_
    refine x_S3i lX10_92 (Rm.of rfl) (cc1 := 0) (cn1 := 0) rfl rfl (Nat.le_of_ble_eq_true rfl) dX10_law_12 (r_in v 0 1) ?_
    refine x_if_ne dX10_law_15 (fun b15 => ?_) (fun b15 => ?_)
    · simp_all
    · try simp only [i01, Classical.not_not] at b15
      refine x_k dX10_law_18 ?_
      refine x_iret (ty := .int) dX10_law_20 rfl rfl (Nat.zero_le _) (Nat.zero_le _) ?_
      exact ⟨rfl, rfl, rfl⟩
theorem r_Mlaw_ok {t : Nat} {v : Int32} {lw : Nat → Int32} (h57 : h 57 = cM hs pe sa ll fa fi) (h64 : h 64 = ia 3 lw) (ht : t < 3) (hv : 0 ≤ v ∧ v ≤ 1) : Re Γ mX10_law [.ref 57, .int (nI t), .int v] h sz (some (.int (lw t))) (va_up h 64 (ia 3 (upd lw t v))) sz := by
  refine x_enter 1 (by decide) rfl ?_
  have h01 : 0 ≤ nI t ∧ nI t ≤ 2 := ⟨nI_le (a := 0) (by omega) (by omega), nI_le (b := 2) (by omega) (by omega)⟩
  refine x_iload dX10_law_0 rfl ?_
  refine x_k dX10_law_1 ?_
  refine x_k dX10_law_2 ?_
  refine x_S3i lX10_92 (Rm.of rfl) (cc1 := 0) (cn1 := 0) rfl rfl (Nat.le_of_ble_eq_true rfl) dX10_law_3 (r_in (nI t) 0 2) ?_
  refine x_if_eq dX10_law_6 (fun b6 => ?_) (fun b6 => ?_)
  · simp_all
  · try simp only [i01, Classical.not_not] at b6
    refine x_iload dX10_law_9 rfl ?_
    refine x_k dX10_law_10 ?_
    refine x_k dX10_law_11 ?_
    refine x_S3i lX10_92 (Rm.of rfl) (cc1 := 0) (cn1 := 0) rfl rfl (Nat.le_of_ble_eq_true rfl) dX10_law_12 (r_in v 0 1) ?_
    refine x_if_ne dX10_law_15 (fun b15 => ?_) (fun b15 => ?_)
    · try simp only [i01, Classical.not_not] at b15
      refine x_aload dX10_law_21 rfl ?_
      refine x_get fX10_28 dX10_law_22 (by first | assumption | rfl) ?_
      refine x_iload dX10_law_25 rfl ?_
      refine x_ialdn dX10_law_26 (by first | assumption | rfl) ⟨by first | omega | decide, by decide⟩ ?_
      refine x_istore dX10_law_27 (Nat.le_of_ble_eq_true rfl) rfl ?_
      refine x_aload dX10_law_28 rfl ?_
      refine x_get fX10_28 dX10_law_29 (by first | assumption | rfl) ?_
      refine x_iload dX10_law_32 rfl ?_
      refine x_iload dX10_law_33 rfl ?_
      refine x_iastn dX10_law_34 (by first | assumption | rfl) ⟨by first | omega | decide, by decide⟩ ?_
      refine x_iload dX10_law_35 rfl ?_
      refine x_iret (ty := .int) dX10_law_36 rfl rfl (Nat.zero_le _) (Nat.zero_le _) ?_
      exact ⟨rfl, rfl, rfl⟩
    · simp_all
theorem r_saleMore_bad {a b : Int32} (hb : ¬ (0 ≤ a ∧ a ≤ 7) ∨ ¬ (0 ≤ b ∧ b ≤ 7)) : Re Γ mX10_saleMore [.ref 57, .int a, .int b] h sz (some (.int (-2))) h sz := by
  refine x_enter 0 (by decide) rfl ?_
  refine x_iload dX10_saleMore_0 rfl ?_
  refine x_S1i lX10_134 (Rm.of rfl) (cc1 := 0) (cn1 := 0) rfl rfl (Nat.le_of_ble_eq_true rfl) dX10_saleMore_1 (r_isEight a) ?_
  refine x_if_eq dX10_saleMore_4 (fun b4 => ?_) (fun b4 => ?_)
  · try simp only [i01, Classical.not_not] at b4
    refine x_k dX10_saleMore_14 ?_
    refine x_iret (ty := .int) dX10_saleMore_16 rfl rfl (Nat.zero_le _) (Nat.zero_le _) ?_
    exact ⟨rfl, rfl, rfl⟩
  · try simp only [i01, Classical.not_not] at b4
    refine x_iload dX10_saleMore_7 rfl ?_
    refine x_S1i lX10_134 (Rm.of rfl) (cc1 := 0) (cn1 := 0) rfl rfl (Nat.le_of_ble_eq_true rfl) dX10_saleMore_8 (r_isEight b) ?_
    refine x_if_ne dX10_saleMore_11 (fun b11 => ?_) (fun b11 => ?_)
    · simp_all
    · try simp only [i01, Classical.not_not] at b11
      refine x_k dX10_saleMore_14 ?_
      refine x_iret (ty := .int) dX10_saleMore_16 rfl rfl (Nat.zero_le _) (Nat.zero_le _) ?_
      exact ⟨rfl, rfl, rfl⟩
theorem r_saleMore_full {a b : Int32} (h57 : h 57 = cM hs pe 12 ll fa fi) (ha : 0 ≤ a ∧ a ≤ 7) (hb : 0 ≤ b ∧ b ≤ 7) : Re Γ mX10_saleMore [.ref 57, .int a, .int b] h sz (some (.int (-4))) h sz := by
  refine x_enter 0 (by decide) rfl ?_
  refine x_iload dX10_saleMore_0 rfl ?_
  refine x_S1i lX10_134 (Rm.of rfl) (cc1 := 0) (cn1 := 0) rfl rfl (Nat.le_of_ble_eq_true rfl) dX10_saleMore_1 (r_isEight a) ?_
  refine x_if_eq dX10_saleMore_4 (fun b4 => ?_) (fun b4 => ?_)
  · simp_all
  · try simp only [i01, Classical.not_not] at b4
    refine x_iload dX10_saleMore_7 rfl ?_
    refine x_S1i lX10_134 (Rm.of rfl) (cc1 := 0) (cn1 := 0) rfl rfl (Nat.le_of_ble_eq_true rfl) dX10_saleMore_8 (r_isEight b) ?_
    refine x_if_ne dX10_saleMore_11 (fun b11 => ?_) (fun b11 => ?_)
    · try simp only [i01, Classical.not_not] at b11
      refine x_aload dX10_saleMore_17 rfl ?_
      refine x_get fX10_137 dX10_saleMore_18 (by first | assumption | rfl) ?_
      refine x_k dX10_saleMore_21 ?_
      refine x_icmp_ne dX10_saleMore_23 (fun b23 => ?_) (fun b23 => ?_)
      · exact absurd rfl b23
      · refine x_k dX10_saleMore_26 ?_
        refine x_iret (ty := .int) dX10_saleMore_28 rfl rfl (Nat.zero_le _) (Nat.zero_le _) ?_
        exact ⟨rfl, rfl, rfl⟩
    · simp_all
theorem r_saleMore_ok {n : Nat} {a b : Int32} {fh fb : Nat → Int32} (h57 : h 57 = cM hs pe (nI n) ll fa fi) (h65 : h 65 = ia 12 fh) (h66 : h 66 = ia 12 fb) (ha : 0 ≤ a ∧ a ≤ 7) (hb : 0 ≤ b ∧ b ≤ 7) (hn : n < 12) : Re Γ mX10_saleMore [.ref 57, .int a, .int b] h sz (some (.int (nI (n + 1)))) (va_up (va_up (va_up h 65 (ia 12 (upd fh n a))) 66 (ia 12 (upd fb n b))) 57 (cM hs pe (nI (n + 1)) ll fa fi)) sz := by
  refine x_enter 0 (by decide) rfl ?_
  refine x_iload dX10_saleMore_0 rfl ?_
  refine x_S1i lX10_134 (Rm.of rfl) (cc1 := 0) (cn1 := 0) rfl rfl (Nat.le_of_ble_eq_true rfl) dX10_saleMore_1 (r_isEight a) ?_
  refine x_if_eq dX10_saleMore_4 (fun b4 => ?_) (fun b4 => ?_)
  · simp_all
  · try simp only [i01, Classical.not_not] at b4
    refine x_iload dX10_saleMore_7 rfl ?_
    refine x_S1i lX10_134 (Rm.of rfl) (cc1 := 0) (cn1 := 0) rfl rfl (Nat.le_of_ble_eq_true rfl) dX10_saleMore_8 (r_isEight b) ?_
    refine x_if_ne dX10_saleMore_11 (fun b11 => ?_) (fun b11 => ?_)
    · try simp only [i01, Classical.not_not] at b11
      refine x_aload dX10_saleMore_17 rfl ?_
      refine x_get fX10_137 dX10_saleMore_18 (by first | assumption | rfl) ?_
      refine x_k dX10_saleMore_21 ?_
      refine x_icmp_ne dX10_saleMore_23 (fun b23 => ?_) (fun b23 => ?_)
      · refine x_aload dX10_saleMore_29 rfl ?_
        refine x_get fX10_31 dX10_saleMore_30 (by first | assumption | rfl) ?_
        refine x_aload dX10_saleMore_33 rfl ?_
        refine x_get fX10_137 dX10_saleMore_34 (by first | assumption | rfl) ?_
        refine x_iload dX10_saleMore_37 rfl ?_
        refine x_iastn dX10_saleMore_38 (by first | assumption | rfl) ⟨by first | omega | decide, by decide⟩ ?_
        refine x_aload dX10_saleMore_39 rfl ?_
        refine x_get fX10_34 dX10_saleMore_40 (by first | assumption | rfl) ?_
        refine x_aload dX10_saleMore_43 rfl ?_
        refine x_get fX10_137 dX10_saleMore_44 (by first | assumption | rfl) ?_
        refine x_iload dX10_saleMore_47 rfl ?_
        refine x_iastn dX10_saleMore_48 (by first | assumption | rfl) ⟨by first | omega | decide, by decide⟩ ?_
        refine x_aload dX10_saleMore_49 rfl ?_
        refine x_dup dX10_saleMore_50 rfl ?_
        refine x_get fX10_137 dX10_saleMore_51 (by first | assumption | rfl) ?_
        refine x_k dX10_saleMore_54 ?_
        refine x_iadd dX10_saleMore_55 ?_
        refine x_put fX10_137 tt10 gX10_137 dX10_saleMore_56 (by first | assumption | rfl) (Nat.le_of_ble_eq_true rfl) (w10_9 _) ?_
        refine x_aload dX10_saleMore_59 rfl ?_
        refine x_get fX10_137 dX10_saleMore_60 (by first | assumption | rfl) ?_
        refine x_iret (ty := .int) dX10_saleMore_63 rfl rfl (Nat.zero_le _) (Nat.zero_le _) ?_
        exact ⟨by rw [← nI_1], by rw [← nI_1]; rfl, rfl⟩
      · exact absurd (fun e => by have := (nI_eq (b := 12) (by omega) (by decide)).mp e; omega) b23
    · simp_all
theorem r_Mundo_no (h57 : h 57 = cM hs pe 0 ll fa fi) : Re Γ mX10_undo [.ref 57] h sz (some (.int (-3))) h sz := by
  refine x_enter 0 (by decide) rfl ?_
  refine x_aload dX10_undo_0 rfl ?_
  refine x_get fX10_137 dX10_undo_1 (by first | assumption | rfl) ?_
  refine x_if_ne dX10_undo_4 (fun b4 => ?_) (fun b4 => ?_)
  · exact absurd rfl b4
  · refine x_k dX10_undo_7 ?_
    refine x_iret (ty := .int) dX10_undo_9 rfl rfl (Nat.zero_le _) (Nat.zero_le _) ?_
    exact ⟨rfl, rfl, rfl⟩
theorem r_Mundo_ok {n : Nat} (h57 : h 57 = cM hs pe (nI (n + 1)) ll fa fi) (hn : n < 12) : Re Γ mX10_undo [.ref 57] h sz (some (.int (nI n))) (va_up h 57 (cM hs pe (nI n) ll fa fi)) sz := by
  refine x_enter 0 (by decide) rfl ?_
  refine x_aload dX10_undo_0 rfl ?_
  refine x_get fX10_137 dX10_undo_1 (by first | assumption | rfl) ?_
  refine x_if_ne dX10_undo_4 (fun b4 => ?_) (fun b4 => ?_)
  · refine x_aload dX10_undo_10 rfl ?_
    refine x_dup dX10_undo_11 rfl ?_
    refine x_get fX10_137 dX10_undo_12 (by first | assumption | rfl) ?_
    refine x_k dX10_undo_15 ?_
    refine x_isub dX10_undo_16 ?_
    refine x_put fX10_137 tt10 gX10_137 dX10_undo_17 (by first | assumption | rfl) (Nat.le_of_ble_eq_true rfl) (w10_9 _) ?_
    refine x_aload dX10_undo_20 rfl ?_
    refine x_get fX10_137 dX10_undo_21 (by first | assumption | rfl) ?_
    refine x_iret (ty := .int) dX10_undo_24 rfl rfl (Nat.zero_le _) (Nat.zero_le _) ?_
    exact ⟨by show some (Value.int (nI (n + 1) - 1)) = _; rw [nI_pred], by show va_up h 57 (cM hs pe (nI (n + 1) - 1) ll fa fi) = _; rw [nI_pred], rfl⟩
  · exact absurd (fun e => by have := (nI_eq (b := 0) (by omega) (by decide)).mp e; omega) b4
theorem r_Mworth_bad {a b v : Int32} (hb : ¬ ((0 ≤ a ∧ a ≤ 7) ∧ (0 ≤ b ∧ b ≤ 7) ∧ a ≠ b ∧ (-9 ≤ v ∧ v ≤ 9))) : Re Γ mX10_worth [.ref 57, .int a, .int b, .int v] h sz (some (.int (-100002))) h sz := by
  refine x_enter 1 (by decide) rfl ?_
  refine x_iload dX10_worth_0 rfl ?_
  refine x_S1i lX10_134 (Rm.of rfl) (cc1 := 0) (cn1 := 0) rfl rfl (Nat.le_of_ble_eq_true rfl) dX10_worth_1 (r_isEight a) ?_
  refine x_if_eq dX10_worth_4 (fun b4 => ?_) (fun b4 => ?_)
  · try simp only [i01, Classical.not_not] at b4
    refine x_ldc kX10_178 dX10_worth_30 ?_
    refine x_iret (ty := .int) dX10_worth_32 rfl rfl (Nat.zero_le _) (Nat.zero_le _) ?_
    exact ⟨rfl, rfl, rfl⟩
  · try simp only [i01, Classical.not_not] at b4
    refine x_iload dX10_worth_7 rfl ?_
    refine x_S1i lX10_134 (Rm.of rfl) (cc1 := 0) (cn1 := 0) rfl rfl (Nat.le_of_ble_eq_true rfl) dX10_worth_8 (r_isEight b) ?_
    refine x_if_eq dX10_worth_11 (fun b11 => ?_) (fun b11 => ?_)
    · try simp only [i01, Classical.not_not] at b11
      refine x_ldc kX10_178 dX10_worth_30 ?_
      refine x_iret (ty := .int) dX10_worth_32 rfl rfl (Nat.zero_le _) (Nat.zero_le _) ?_
      exact ⟨rfl, rfl, rfl⟩
    · try simp only [i01, Classical.not_not] at b11
      refine x_iload dX10_worth_14 rfl ?_
      refine x_iload dX10_worth_15 rfl ?_
      refine x_icmp_eq dX10_worth_16 (fun b16 => ?_) (fun b16 => ?_)
      · refine x_ldc kX10_178 dX10_worth_30 ?_
        refine x_iret (ty := .int) dX10_worth_32 rfl rfl (Nat.zero_le _) (Nat.zero_le _) ?_
        exact ⟨rfl, rfl, rfl⟩
      · refine x_iload dX10_worth_19 rfl ?_
        refine x_k dX10_worth_20 ?_
        refine x_k dX10_worth_22 ?_
        refine x_S3i lX10_92 (Rm.of rfl) (cc1 := 0) (cn1 := 0) rfl rfl (Nat.le_of_ble_eq_true rfl) dX10_worth_24 (r_in v (-9) 9) ?_
        refine x_if_ne dX10_worth_27 (fun b27 => ?_) (fun b27 => ?_)
        · simp_all
        · try simp only [i01, Classical.not_not] at b27
          refine x_ldc kX10_178 dX10_worth_30 ?_
          refine x_iret (ty := .int) dX10_worth_32 rfl rfl (Nat.zero_le _) (Nat.zero_le _) ?_
          exact ⟨rfl, rfl, rfl⟩
theorem r_Mworth_ok {q p : Nat} {v : Int32} {w : Nat → Int32} (h57 : h 57 = cM hs pe sa ll fa fi) (h0 : h 72 = ia 64 w) (hq : q < 8) (hp : p < 8) (hne : q ≠ p) (hv : -9 ≤ v ∧ v ≤ 9) : Re Γ mX10_worth [.ref 57, .int (nI q), .int (nI p), .int v] h sz (some (.int (w (8 * q + p)))) (va_up h 72 (ia 64 (upd w (8 * q + p) v))) sz := by
  refine x_enter 1 (by decide) rfl ?_
  have h1 : 0 ≤ nI q ∧ nI q ≤ 7 := ⟨nI_le (a := 0) (by omega) (by omega), nI_le (b := 7) (by omega) (by omega)⟩
  have h2 : 0 ≤ nI p ∧ nI p ≤ 7 := ⟨nI_le (a := 0) (by omega) (by omega), nI_le (b := 7) (by omega) (by omega)⟩
  have h3 : nI q ≠ nI p := fun e => hne ((nI_eq (by omega) (by omega)).mp e)
  refine x_iload dX10_worth_0 rfl ?_
  refine x_S1i lX10_134 (Rm.of rfl) (cc1 := 0) (cn1 := 0) rfl rfl (Nat.le_of_ble_eq_true rfl) dX10_worth_1 (r_isEight (nI q)) ?_
  refine x_if_eq dX10_worth_4 (fun b4 => ?_) (fun b4 => ?_)
  · simp_all
  · try simp only [i01, Classical.not_not] at b4
    refine x_iload dX10_worth_7 rfl ?_
    refine x_S1i lX10_134 (Rm.of rfl) (cc1 := 0) (cn1 := 0) rfl rfl (Nat.le_of_ble_eq_true rfl) dX10_worth_8 (r_isEight (nI p)) ?_
    refine x_if_eq dX10_worth_11 (fun b11 => ?_) (fun b11 => ?_)
    · simp_all
    · try simp only [i01, Classical.not_not] at b11
      refine x_iload dX10_worth_14 rfl ?_
      refine x_iload dX10_worth_15 rfl ?_
      refine x_icmp_eq dX10_worth_16 (fun b16 => ?_) (fun b16 => ?_)
      · exact absurd b16 h3
      · refine x_iload dX10_worth_19 rfl ?_
        refine x_k dX10_worth_20 ?_
        refine x_k dX10_worth_22 ?_
        refine x_S3i lX10_92 (Rm.of rfl) (cc1 := 0) (cn1 := 0) rfl rfl (Nat.le_of_ble_eq_true rfl) dX10_worth_24 (r_in v (-9) 9) ?_
        refine x_if_ne dX10_worth_27 (fun b27 => ?_) (fun b27 => ?_)
        · try simp only [i01, Classical.not_not] at b27
          refine x_aload dX10_worth_33 rfl ?_
          refine x_get fX10_52 dX10_worth_34 (by first | assumption | rfl) ?_
          refine x_k dX10_worth_37 ?_
          refine x_iload dX10_worth_39 rfl ?_
          refine x_imul dX10_worth_40 ?_
          refine x_iload dX10_worth_41 rfl ?_
          refine x_iadd dX10_worth_42 ?_
          refine x_iald dX10_worth_43 (by first | assumption | rfl) (in8' hq hp) ?_
          refine x_istore dX10_worth_44 (Nat.le_of_ble_eq_true rfl) rfl ?_
          refine x_aload dX10_worth_46 rfl ?_
          refine x_get fX10_52 dX10_worth_47 (by first | assumption | rfl) ?_
          refine x_k dX10_worth_50 ?_
          refine x_iload dX10_worth_52 rfl ?_
          refine x_imul dX10_worth_53 ?_
          refine x_iload dX10_worth_54 rfl ?_
          refine x_iadd dX10_worth_55 ?_
          refine x_iload dX10_worth_56 rfl ?_
          refine x_iast dX10_worth_57 (by first | assumption | rfl) (in8' hq hp) ?_
          refine x_iload dX10_worth_58 rfl ?_
          refine x_iret (ty := .int) dX10_worth_60 rfl rfl (Nat.zero_le _) (Nat.zero_le _) ?_
          exact ⟨by rw [ix8', nI_clamp (by omega)], by rw [ix8', nI_clamp (by omega)], rfl⟩
        · simp_all
theorem r_Mlike_bad {a b v : Int32} (hb : ¬ ((0 ≤ a ∧ a ≤ 7) ∧ (0 ≤ b ∧ b ≤ 7) ∧ a ≠ b ∧ (-9 ≤ v ∧ v ≤ 9))) : Re Γ mX10_like [.ref 57, .int a, .int b, .int v] h sz (some (.int (-100002))) h sz := by
  refine x_enter 1 (by decide) rfl ?_
  refine x_iload dX10_like_0 rfl ?_
  refine x_S1i lX10_134 (Rm.of rfl) (cc1 := 0) (cn1 := 0) rfl rfl (Nat.le_of_ble_eq_true rfl) dX10_like_1 (r_isEight a) ?_
  refine x_if_eq dX10_like_4 (fun b4 => ?_) (fun b4 => ?_)
  · try simp only [i01, Classical.not_not] at b4
    refine x_ldc kX10_178 dX10_like_30 ?_
    refine x_iret (ty := .int) dX10_like_32 rfl rfl (Nat.zero_le _) (Nat.zero_le _) ?_
    exact ⟨rfl, rfl, rfl⟩
  · try simp only [i01, Classical.not_not] at b4
    refine x_iload dX10_like_7 rfl ?_
    refine x_S1i lX10_134 (Rm.of rfl) (cc1 := 0) (cn1 := 0) rfl rfl (Nat.le_of_ble_eq_true rfl) dX10_like_8 (r_isEight b) ?_
    refine x_if_eq dX10_like_11 (fun b11 => ?_) (fun b11 => ?_)
    · try simp only [i01, Classical.not_not] at b11
      refine x_ldc kX10_178 dX10_like_30 ?_
      refine x_iret (ty := .int) dX10_like_32 rfl rfl (Nat.zero_le _) (Nat.zero_le _) ?_
      exact ⟨rfl, rfl, rfl⟩
    · try simp only [i01, Classical.not_not] at b11
      refine x_iload dX10_like_14 rfl ?_
      refine x_iload dX10_like_15 rfl ?_
      refine x_icmp_eq dX10_like_16 (fun b16 => ?_) (fun b16 => ?_)
      · refine x_ldc kX10_178 dX10_like_30 ?_
        refine x_iret (ty := .int) dX10_like_32 rfl rfl (Nat.zero_le _) (Nat.zero_le _) ?_
        exact ⟨rfl, rfl, rfl⟩
      · refine x_iload dX10_like_19 rfl ?_
        refine x_k dX10_like_20 ?_
        refine x_k dX10_like_22 ?_
        refine x_S3i lX10_92 (Rm.of rfl) (cc1 := 0) (cn1 := 0) rfl rfl (Nat.le_of_ble_eq_true rfl) dX10_like_24 (r_in v (-9) 9) ?_
        refine x_if_ne dX10_like_27 (fun b27 => ?_) (fun b27 => ?_)
        · simp_all
        · try simp only [i01, Classical.not_not] at b27
          refine x_ldc kX10_178 dX10_like_30 ?_
          refine x_iret (ty := .int) dX10_like_32 rfl rfl (Nat.zero_le _) (Nat.zero_le _) ?_
          exact ⟨rfl, rfl, rfl⟩
theorem r_Mlike_ok {q p : Nat} {v : Int32} {w : Nat → Int32} (h57 : h 57 = cM hs pe sa ll fa fi) (h0 : h 73 = ia 64 w) (hq : q < 8) (hp : p < 8) (hne : q ≠ p) (hv : -9 ≤ v ∧ v ≤ 9) : Re Γ mX10_like [.ref 57, .int (nI q), .int (nI p), .int v] h sz (some (.int (w (8 * q + p)))) (va_up h 73 (ia 64 (upd w (8 * q + p) v))) sz := by
  refine x_enter 1 (by decide) rfl ?_
  have h1 : 0 ≤ nI q ∧ nI q ≤ 7 := ⟨nI_le (a := 0) (by omega) (by omega), nI_le (b := 7) (by omega) (by omega)⟩
  have h2 : 0 ≤ nI p ∧ nI p ≤ 7 := ⟨nI_le (a := 0) (by omega) (by omega), nI_le (b := 7) (by omega) (by omega)⟩
  have h3 : nI q ≠ nI p := fun e => hne ((nI_eq (by omega) (by omega)).mp e)
  refine x_iload dX10_like_0 rfl ?_
  refine x_S1i lX10_134 (Rm.of rfl) (cc1 := 0) (cn1 := 0) rfl rfl (Nat.le_of_ble_eq_true rfl) dX10_like_1 (r_isEight (nI q)) ?_
  refine x_if_eq dX10_like_4 (fun b4 => ?_) (fun b4 => ?_)
  · simp_all
  · try simp only [i01, Classical.not_not] at b4
    refine x_iload dX10_like_7 rfl ?_
    refine x_S1i lX10_134 (Rm.of rfl) (cc1 := 0) (cn1 := 0) rfl rfl (Nat.le_of_ble_eq_true rfl) dX10_like_8 (r_isEight (nI p)) ?_
    refine x_if_eq dX10_like_11 (fun b11 => ?_) (fun b11 => ?_)
    · simp_all
    · try simp only [i01, Classical.not_not] at b11
      refine x_iload dX10_like_14 rfl ?_
      refine x_iload dX10_like_15 rfl ?_
      refine x_icmp_eq dX10_like_16 (fun b16 => ?_) (fun b16 => ?_)
      · exact absurd b16 h3
      · refine x_iload dX10_like_19 rfl ?_
        refine x_k dX10_like_20 ?_
        refine x_k dX10_like_22 ?_
        refine x_S3i lX10_92 (Rm.of rfl) (cc1 := 0) (cn1 := 0) rfl rfl (Nat.le_of_ble_eq_true rfl) dX10_like_24 (r_in v (-9) 9) ?_
        refine x_if_ne dX10_like_27 (fun b27 => ?_) (fun b27 => ?_)
        · try simp only [i01, Classical.not_not] at b27
          refine x_aload dX10_like_33 rfl ?_
          refine x_get fX10_55 dX10_like_34 (by first | assumption | rfl) ?_
          refine x_k dX10_like_37 ?_
          refine x_iload dX10_like_39 rfl ?_
          refine x_imul dX10_like_40 ?_
          refine x_iload dX10_like_41 rfl ?_
          refine x_iadd dX10_like_42 ?_
          refine x_iald dX10_like_43 (by first | assumption | rfl) (in8' hq hp) ?_
          refine x_istore dX10_like_44 (Nat.le_of_ble_eq_true rfl) rfl ?_
          refine x_aload dX10_like_46 rfl ?_
          refine x_get fX10_55 dX10_like_47 (by first | assumption | rfl) ?_
          refine x_k dX10_like_50 ?_
          refine x_iload dX10_like_52 rfl ?_
          refine x_imul dX10_like_53 ?_
          refine x_iload dX10_like_54 rfl ?_
          refine x_iadd dX10_like_55 ?_
          refine x_iload dX10_like_56 rfl ?_
          refine x_iast dX10_like_57 (by first | assumption | rfl) (in8' hq hp) ?_
          refine x_iload dX10_like_58 rfl ?_
          refine x_iret (ty := .int) dX10_like_60 rfl rfl (Nat.zero_le _) (Nat.zero_le _) ?_
          exact ⟨by rw [ix8', nI_clamp (by omega)], by rw [ix8', nI_clamp (by omega)], rfl⟩
        · simp_all
theorem r_Mfact_bad {a b : Int32} (hb : ¬ (0 ≤ a ∧ a ≤ 7) ∨ ¬ (0 ≤ b ∧ b ≤ 7)) : Re Γ mX10_fact [.ref 57, .int a, .int b] h sz (some (.int (-2))) h sz := by
  refine x_enter 0 (by decide) rfl ?_
  refine x_iload dX10_fact_0 rfl ?_
  refine x_S1i lX10_134 (Rm.of rfl) (cc1 := 0) (cn1 := 0) rfl rfl (Nat.le_of_ble_eq_true rfl) dX10_fact_1 (r_isEight a) ?_
  refine x_if_eq dX10_fact_4 (fun b4 => ?_) (fun b4 => ?_)
  · try simp only [i01, Classical.not_not] at b4
    refine x_k dX10_fact_14 ?_
    refine x_iret (ty := .int) dX10_fact_16 rfl rfl (Nat.zero_le _) (Nat.zero_le _) ?_
    exact ⟨rfl, rfl, rfl⟩
  · try simp only [i01, Classical.not_not] at b4
    refine x_iload dX10_fact_7 rfl ?_
    refine x_S1i lX10_134 (Rm.of rfl) (cc1 := 0) (cn1 := 0) rfl rfl (Nat.le_of_ble_eq_true rfl) dX10_fact_8 (r_isEight b) ?_
    refine x_if_ne dX10_fact_11 (fun b11 => ?_) (fun b11 => ?_)
    · simp_all
    · try simp only [i01, Classical.not_not] at b11
      refine x_k dX10_fact_14 ?_
      refine x_iret (ty := .int) dX10_fact_16 rfl rfl (Nat.zero_le _) (Nat.zero_le _) ?_
      exact ⟨rfl, rfl, rfl⟩
theorem r_Mfact_full {a b : Int32} (h57 : h 57 = cM hs pe sa ll 8 fi) (ha : 0 ≤ a ∧ a ≤ 7) (hb : 0 ≤ b ∧ b ≤ 7) : Re Γ mX10_fact [.ref 57, .int a, .int b] h sz (some (.int (-4))) h sz := by
  refine x_enter 0 (by decide) rfl ?_
  refine x_iload dX10_fact_0 rfl ?_
  refine x_S1i lX10_134 (Rm.of rfl) (cc1 := 0) (cn1 := 0) rfl rfl (Nat.le_of_ble_eq_true rfl) dX10_fact_1 (r_isEight a) ?_
  refine x_if_eq dX10_fact_4 (fun b4 => ?_) (fun b4 => ?_)
  · simp_all
  · try simp only [i01, Classical.not_not] at b4
    refine x_iload dX10_fact_7 rfl ?_
    refine x_S1i lX10_134 (Rm.of rfl) (cc1 := 0) (cn1 := 0) rfl rfl (Nat.le_of_ble_eq_true rfl) dX10_fact_8 (r_isEight b) ?_
    refine x_if_ne dX10_fact_11 (fun b11 => ?_) (fun b11 => ?_)
    · try simp only [i01, Classical.not_not] at b11
      refine x_aload dX10_fact_17 rfl ?_
      refine x_get fX10_235 dX10_fact_18 (by first | assumption | rfl) ?_
      refine x_k dX10_fact_21 ?_
      refine x_icmp_ne dX10_fact_23 (fun b23 => ?_) (fun b23 => ?_)
      · exact absurd rfl b23
      · refine x_k dX10_fact_26 ?_
        refine x_iret (ty := .int) dX10_fact_28 rfl rfl (Nat.zero_le _) (Nat.zero_le _) ?_
        exact ⟨rfl, rfl, rfl⟩
    · simp_all
theorem r_Mfact_ok {n : Nat} {a b : Int32} {fh fb : Nat → Int32} (h57 : h 57 = cM hs pe sa ll (nI n) fi) (h77 : h 77 = ia 8 fh) (h78 : h 78 = ia 8 fb) (ha : 0 ≤ a ∧ a ≤ 7) (hb : 0 ≤ b ∧ b ≤ 7) (hn : n < 8) : Re Γ mX10_fact [.ref 57, .int a, .int b] h sz (some (.int (nI (n + 1)))) (va_up (va_up (va_up h 77 (ia 8 (upd fh n a))) 78 (ia 8 (upd fb n b))) 57 (cM hs pe sa ll (nI (n + 1)) fi)) sz := by
  refine x_enter 0 (by decide) rfl ?_
  refine x_iload dX10_fact_0 rfl ?_
  refine x_S1i lX10_134 (Rm.of rfl) (cc1 := 0) (cn1 := 0) rfl rfl (Nat.le_of_ble_eq_true rfl) dX10_fact_1 (r_isEight a) ?_
  refine x_if_eq dX10_fact_4 (fun b4 => ?_) (fun b4 => ?_)
  · simp_all
  · try simp only [i01, Classical.not_not] at b4
    refine x_iload dX10_fact_7 rfl ?_
    refine x_S1i lX10_134 (Rm.of rfl) (cc1 := 0) (cn1 := 0) rfl rfl (Nat.le_of_ble_eq_true rfl) dX10_fact_8 (r_isEight b) ?_
    refine x_if_ne dX10_fact_11 (fun b11 => ?_) (fun b11 => ?_)
    · try simp only [i01, Classical.not_not] at b11
      refine x_aload dX10_fact_17 rfl ?_
      refine x_get fX10_235 dX10_fact_18 (by first | assumption | rfl) ?_
      refine x_k dX10_fact_21 ?_
      refine x_icmp_ne dX10_fact_23 (fun b23 => ?_) (fun b23 => ?_)
      · refine x_aload dX10_fact_29 rfl ?_
        refine x_get fX10_67 dX10_fact_30 (by first | assumption | rfl) ?_
        refine x_aload dX10_fact_33 rfl ?_
        refine x_get fX10_235 dX10_fact_34 (by first | assumption | rfl) ?_
        refine x_iload dX10_fact_37 rfl ?_
        refine x_iastn dX10_fact_38 (by first | assumption | rfl) ⟨by first | omega | decide, by decide⟩ ?_
        refine x_aload dX10_fact_39 rfl ?_
        refine x_get fX10_70 dX10_fact_40 (by first | assumption | rfl) ?_
        refine x_aload dX10_fact_43 rfl ?_
        refine x_get fX10_235 dX10_fact_44 (by first | assumption | rfl) ?_
        refine x_iload dX10_fact_47 rfl ?_
        refine x_iastn dX10_fact_48 (by first | assumption | rfl) ⟨by first | omega | decide, by decide⟩ ?_
        refine x_aload dX10_fact_49 rfl ?_
        refine x_dup dX10_fact_50 rfl ?_
        refine x_get fX10_235 dX10_fact_51 (by first | assumption | rfl) ?_
        refine x_k dX10_fact_54 ?_
        refine x_iadd dX10_fact_55 ?_
        refine x_put fX10_235 tt10 gX10_235 dX10_fact_56 (by first | assumption | rfl) (Nat.le_of_ble_eq_true rfl) (w10_23 _) ?_
        refine x_aload dX10_fact_59 rfl ?_
        refine x_get fX10_235 dX10_fact_60 (by first | assumption | rfl) ?_
        refine x_iret (ty := .int) dX10_fact_63 rfl rfl (Nat.zero_le _) (Nat.zero_le _) ?_
        exact ⟨by rw [← nI_1], by rw [← nI_1]; rfl, rfl⟩
      · exact absurd (fun e => by have := (nI_eq (b := 8) (by omega) (by decide)).mp e; omega) b23
    · simp_all
theorem r_Mforget (h57 : h 57 = cM hs pe sa ll fa fi) : Re Γ mX10_forget [.ref 57] h sz (some (.int fa)) (va_up h 57 (cM hs pe sa ll 0 fi)) sz := by
  refine x_enter 1 (by decide) rfl ?_
  refine x_aload dX10_forget_0 rfl ?_
  refine x_get fX10_235 dX10_forget_1 (by first | assumption | rfl) ?_
  refine x_istore dX10_forget_4 (Nat.le_of_ble_eq_true rfl) rfl ?_
  refine x_aload dX10_forget_5 rfl ?_
  refine x_k dX10_forget_6 ?_
  refine x_put fX10_235 tt10 gX10_235 dX10_forget_7 (by first | assumption | rfl) (Nat.le_of_ble_eq_true rfl) (w10_23 _) ?_
  refine x_iload dX10_forget_10 rfl ?_
  refine x_iret (ty := .int) dX10_forget_11 rfl rfl (Nat.zero_le _) (Nat.zero_le _) ?_
  exact ⟨rfl, rfl, rfl⟩
end MLeaf
