section Str
variable {Γ : GX} {h : Hp} {sz : Nat}
theorem r_isLatin1 : Re Γ mJ0_isLatin1_aae02 [.ref 2] h sz (some (.int 1)) h sz := by
  refine x_enterJ 0 (by decide +kernel) rfl ?_
  refine x_getsC fsJ0_38 dJ0_isLatin1_aae02_0 ?_
  refine x_if_eq dJ0_isLatin1_aae02_3 (fun b3 => ?_) (fun b3 => ?_)
  · exact absurd b3 (by decide)
  · refine x_aload dJ0_isLatin1_aae02_6 rfl ?_
    refine x_coder fsJ0_15 dJ0_isLatin1_aae02_7 ?_
    refine x_if_ne dJ0_isLatin1_aae02_10 (fun b10 => ?_) (fun b10 => ?_)
    · exact absurd rfl b10
    · refine x_k dJ0_isLatin1_aae02_13 ?_
      refine x_goto dJ0_isLatin1_aae02_14 ?_
      refine x_iret (ty := .boolean) dJ0_isLatin1_aae02_18 rfl (by first | rfl | exact nzb) (Nat.zero_le _) (Nat.zero_le _) ?_
      exact ⟨rfl, rfl, rfl⟩
theorem r_coder : Re Γ mJ0_coder_7d493 [.ref 2] h sz (some (.int 0)) h sz := by
  refine x_enterJ 0 (by decide +kernel) rfl ?_
  refine x_getsC fsJ0_38 dJ0_coder_7d493_0 ?_
  refine x_if_eq dJ0_coder_7d493_3 (fun b3 => ?_) (fun b3 => ?_)
  · exact absurd b3 (by decide)
  · refine x_aload dJ0_coder_7d493_6 rfl ?_
    refine x_coder fsJ0_15 dJ0_coder_7d493_7 ?_
    refine x_goto dJ0_coder_7d493_10 ?_
    refine x_iret (ty := .byte) dJ0_coder_7d493_14 rfl rfl (Nat.zero_le _) (Nat.zero_le _) ?_
    exact ⟨rfl, rfl, rfl⟩
theorem r_slength : Re Γ mJ0_length_8abf5 [.ref 2] h sz (some (.int 3)) h sz := by
  refine x_enterJ 0 (by decide +kernel) rfl ?_
  refine x_aload dJ0_length_8abf5_0 rfl ?_
  refine x_strval fsJ0_9 dJ0_length_8abf5_1 ?_
  refine x_alen3 dJ0_length_8abf5_4 ?_
  refine x_aload dJ0_length_8abf5_5 rfl ?_
  refine x_callT (as := []) ltJ0_335 (Rm.of rfl) (cc1 := 0) (cn1 := 0) rfl rfl (Nat.le_of_ble_eq_true rfl) dJ0_length_8abf5_6 (r_coder) ?_
  refine x_ishr dJ0_length_8abf5_9 ?_
  refine x_iret (ty := .int) dJ0_length_8abf5_10 rfl rfl (Nat.zero_le _) (Nat.zero_le _) ?_
  exact ⟨rfl, rfl, rfl⟩
theorem r_canEncode {x : Int32} (hx : 0 ≤ x ∧ x ≤ 255) : Re Γ mJ1_canEncode_9a6ad [.int x] h sz (some (.int 1)) h sz := by
  refine x_enterJ 0 (by decide +kernel) rfl ?_
  refine x_iload dJ1_canEncode_9a6ad_0 rfl ?_
  refine x_if_lt dJ1_canEncode_9a6ad_1 (fun b1 => ?_) (fun b1 => ?_)
  · exact absurd b1 (Int32.not_lt.mpr hx.1)
  · refine x_iload dJ1_canEncode_9a6ad_4 rfl ?_
    refine x_k dJ1_canEncode_9a6ad_5 ?_
    refine x_icmp_gt dJ1_canEncode_9a6ad_8 (fun b8 => ?_) (fun b8 => ?_)
    · exact absurd b8 (Int32.not_lt.mpr hx.2)
    · refine x_k dJ1_canEncode_9a6ad_11 ?_
      refine x_goto dJ1_canEncode_9a6ad_12 ?_
      refine x_iret (ty := .boolean) dJ1_canEncode_9a6ad_16 rfl (by first | rfl | exact nzb) (Nat.zero_le _) (Nat.zero_le _) ?_
      exact ⟨rfl, rfl, rfl⟩
def kI (x : Int32) : Int32 := if x = 111 then 0 else if x = 103 then 1 else if x = 108 then 2 else -1
theorem kI_b {x : Int32} (hx : 0 ≤ x ∧ x ≤ 255) : ∀ k : Nat, k < 3 → (oglB k = x.toInt8.toInt32 ↔ oglB k = x) := by
  obtain ⟨j, hj, rfl⟩ := nI_of2 (M := 255) (n := 255) rfl (Int32.not_lt.mpr hx.1) hx.2
  have : ∀ j : Nat, j < 256 → ∀ k : Nat, k < 3 → (oglB k = (nI j).toInt8.toInt32 ↔ oglB k = nI j) := by decide +kernel
  exact this j (by omega)
theorem r_indexOfChar {x : Int32} (hx : 0 ≤ x ∧ x ≤ 255) : Re Γ mJ1_indexOfChar_4cfef [.ref 3, .int x, .int 0, .int 3] h sz (some (.int (kI x))) h sz := by
  refine x_enterJ 2 (by decide +kernel) rfl ?_
  have hk := kI_b hx
  refine x_iload dJ1_indexOfChar_4cfef_0 rfl ?_
  refine x_i2b dJ1_indexOfChar_4cfef_1 ?_
  refine x_istore dJ1_indexOfChar_4cfef_2 (Nat.le_of_ble_eq_true rfl) rfl ?_
  refine x_iload dJ1_indexOfChar_4cfef_4 rfl ?_
  refine x_istore dJ1_indexOfChar_4cfef_5 (Nat.le_of_ble_eq_true rfl) rfl ?_
  have h0 : oglB 0 = 111 := rfl
  have h1 : oglB 1 = 103 := rfl
  have h2 : oglB 2 = 108 := rfl
  refine x_eq rfl rfl rfl (loopUp (P := fun p => (∀ j, j < p → oglB j ≠ x) → Ex Γ mJ1_indexOfChar_4cfef _ 0 0 7 [.ref 3, .int x, .int 0, .int 3, .int x.toInt8.toInt32, .int (nI p)] [] h sz) 3 ?_ (fun p hp ih => ?_) 0 (Nat.zero_le _) (fun j hj => absurd hj (Nat.not_lt_zero _)))
  · intro hno
    have q0 := hno 0 (by decide)
    have q1 := hno 1 (by decide)
    have q2 := hno 2 (by decide)
    refine x_iload dJ1_indexOfChar_4cfef_7 rfl ?_
    refine x_iload dJ1_indexOfChar_4cfef_9 rfl ?_
    refine x_icmp_ge dJ1_indexOfChar_4cfef_10 (fun b10 => ?_) (fun b10 => ?_)
    · refine x_k dJ1_indexOfChar_4cfef_31 ?_
      refine x_iret (ty := .int) dJ1_indexOfChar_4cfef_32 rfl rfl (Nat.zero_le _) (Nat.zero_le _) ?_
      exact ⟨by rw [kI, if_neg (by rw [← h0]; exact fun e => q0 e.symm), if_neg (by rw [← h1]; exact fun e => q1 e.symm), if_neg (by rw [← h2]; exact fun e => q2 e.symm)], rfl, rfl⟩
    · exact absurd (by decide) b10
  · intro hno
    refine x_iload dJ1_indexOfChar_4cfef_7 rfl ?_
    refine x_iload dJ1_indexOfChar_4cfef_9 rfl ?_
    refine x_icmp_ge dJ1_indexOfChar_4cfef_10 (fun b10 => ?_) (fun b10 => ?_)
    · exact absurd b10 (nI_ge (b := 3) hp (by decide))
    · refine x_aload dJ1_indexOfChar_4cfef_13 rfl ?_
      refine x_iload dJ1_indexOfChar_4cfef_14 rfl ?_
      refine x_bald3 dJ1_indexOfChar_4cfef_16 (by omega) ?_
      refine x_iload dJ1_indexOfChar_4cfef_17 rfl ?_
      refine x_icmp_ne dJ1_indexOfChar_4cfef_19 (fun b19 => ?_) (fun b19 => ?_)
      · refine x_inc1 dJ1_indexOfChar_4cfef_25 rfl (Nat.le_of_ble_eq_true rfl) rfl ?_
        refine x_goto dJ1_indexOfChar_4cfef_28 ?_
        exact ih (fun j hj => (Nat.lt_succ_iff_lt_or_eq.mp hj).elim (hno j) (fun q e => b19 ((hk p hp).mpr (q ▸ e))))
      · refine x_iload dJ1_indexOfChar_4cfef_22 rfl ?_
        refine x_iret (ty := .int) dJ1_indexOfChar_4cfef_24 rfl rfl (Nat.zero_le _) (Nat.zero_le _) ?_
        rw [Classical.not_not, hk p hp] at b19
        have hp3 : p = 0 ∨ p = 1 ∨ p = 2 := by omega
        rcases hp3 with rfl | rfl | rfl <;> rw [← b19] <;> exact ⟨rfl, rfl, rfl⟩
theorem x_mmax {M : MI} {Z : ZT} {cc cn pc pc' : Nat} {lv rest : List Value} {idx : Nat} {a b : Int32} (lk : Cond.methodLink M.1.cls idx Lib.Math.max.name ∈ gtbl) (hs : Cond.static Lib.Math.max.name ∈ gtbl) (hi : Cond.initialized "java/lang/Math" ∈ gtbl) (hc : Cond.code Lib.Math.max.name Lib.Math.max.code 2 (some .int) ∈ gtbl) (hR : 1 ≤ M.2.2.2.2.frames ∧ 21 ≤ M.2.2.2.2.locals) (hcc : cc ≤ M.2.2.2.2.cells) (hcn : cn ≤ M.2.2.2.2.slots) (hcat : (rest.map fun v => v.category).sum ≤ 8) (d : Dc M.2.1 pc (.invokestatic idx) 3 pc') (kk : Ex Γ M Z cc cn pc' lv (.int (if a < b then b else a) :: rest) h sz) : Ex Γ M Z cc cn pc lv (.int b :: .int a :: rest) h sz := by
  obtain ⟨d, rfl⟩ := d
  intro p e s m args below meth c F H locs ls hw hL hl
  have hts := F.2.2.2.2.2.1
  exact va_mmax F.1 F.2.1 (by rw [F.2.2.2.1]; exact hl.1.symm) F.2.2.2.2.1 (hts _ lk) (hts _ hs) (hts _ hi) (hts _ hc) hR.1 (by rw [cat_map]; omega) hcc hcn d (kk p e s m args below meth c F H locs ls hw hL hl)
theorem ms_max : Cond.static Lib.Math.max.name ∈ gtbl := gs2 156 rfl rfl
theorem mc_max : Cond.code Lib.Math.max.name Lib.Math.max.code 2 (some .int) ∈ gtbl := gt_at 463 (by decide +kernel) rfl
theorem lmJ1_38 : Cond.methodLink "java/lang/StringLatin1" 38 Lib.Math.min.name ∈ gtbl := gs2 158 rfl rfl
theorem lmJ1_92 : Cond.methodLink "java/lang/StringLatin1" 92 Lib.Math.max.name ∈ gtbl := gs2 155 rfl rfl
theorem r_Lindex {x : Int32} (hx : 0 ≤ x ∧ x ≤ 255) : Re Γ mJ1_indexOf_4cfef [.ref 3, .int x, .int 0, .int 3] h sz (some (.int (kI x))) h sz := by
  refine x_enterJ 0 (by decide +kernel) rfl ?_
  refine x_iload dJ1_indexOf_4cfef_0 rfl ?_
  refine x_S1i lJ1_88 (Rm.of rfl) (cc1 := 0) (cn1 := 0) rfl rfl (Nat.le_of_ble_eq_true rfl) dJ1_indexOf_4cfef_1 (r_canEncode hx) ?_
  refine x_if_ne dJ1_indexOf_4cfef_4 (fun b4 => ?_) (fun b4 => ?_)
  · try simp only [i01, Classical.not_not] at b4
    refine x_iload dJ1_indexOf_4cfef_9 rfl ?_
    refine x_k dJ1_indexOf_4cfef_10 ?_
    refine x_mmax lmJ1_92 ms_max mi_math mc_max ⟨(Nat.le_of_ble_eq_true rfl), (Nat.le_of_ble_eq_true rfl)⟩ (Nat.le_of_ble_eq_true rfl) (Nat.le_of_ble_eq_true rfl) (Nat.le_of_ble_eq_true rfl) dJ1_indexOf_4cfef_11 ?_
    refine x_istore dJ1_indexOf_4cfef_14 (Nat.le_of_ble_eq_true rfl) rfl ?_
    refine x_iload dJ1_indexOf_4cfef_15 rfl ?_
    refine x_aload dJ1_indexOf_4cfef_16 rfl ?_
    refine x_alen3 dJ1_indexOf_4cfef_17 ?_
    refine x_mmin lmJ1_38 ms_min mi_math mc_min ⟨(Nat.le_of_ble_eq_true rfl), (Nat.le_of_ble_eq_true rfl)⟩ (Nat.le_of_ble_eq_true rfl) (Nat.le_of_ble_eq_true rfl) (Nat.le_of_ble_eq_true rfl) dJ1_indexOf_4cfef_18 ?_
    refine x_istore dJ1_indexOf_4cfef_21 (Nat.le_of_ble_eq_true rfl) rfl ?_
    refine x_iload dJ1_indexOf_4cfef_22 rfl ?_
    refine x_iload dJ1_indexOf_4cfef_23 rfl ?_
    refine x_icmp_lt dJ1_indexOf_4cfef_24 (fun b24 => ?_) (fun b24 => ?_)
    · refine x_aload dJ1_indexOf_4cfef_29 rfl ?_
      refine x_iload dJ1_indexOf_4cfef_30 rfl ?_
      refine x_iload dJ1_indexOf_4cfef_31 rfl ?_
      refine x_iload dJ1_indexOf_4cfef_32 rfl ?_
      refine x_S4i lJ1_95 (Rm.of rfl) (cc1 := 0) (cn1 := 0) rfl rfl (Nat.le_of_ble_eq_true rfl) dJ1_indexOf_4cfef_33 (r_indexOfChar hx) ?_
      refine x_iret (ty := .int) dJ1_indexOf_4cfef_36 rfl rfl (Nat.zero_le _) (Nat.zero_le _) ?_
      exact ⟨rfl, rfl, rfl⟩
    · exact absurd (by decide) b24
  · exact absurd b4 (by decide)
theorem r_indexOf2 {x : Int32} (hx : 0 ≤ x ∧ x ≤ 255) : Re Γ mJ0_indexOf_7cf53 [.ref 2, .int x, .int 0] h sz (some (.int (kI x))) h sz := by
  refine x_enterJ 0 (by decide +kernel) rfl ?_
  refine x_aload dJ0_indexOf_7cf53_0 rfl ?_
  refine x_callT (as := []) ltJ0_492 (Rm.of rfl) (cc1 := 0) (cn1 := 0) rfl rfl (Nat.le_of_ble_eq_true rfl) dJ0_indexOf_7cf53_1 (r_isLatin1) ?_
  refine x_if_eq dJ0_indexOf_7cf53_4 (fun b4 => ?_) (fun b4 => ?_)
  · exact absurd b4 (by decide)
  · try simp only [i01, Classical.not_not] at b4
    refine x_aload dJ0_indexOf_7cf53_7 rfl ?_
    refine x_strval fsJ0_9 dJ0_indexOf_7cf53_8 ?_
    refine x_iload dJ0_indexOf_7cf53_11 rfl ?_
    refine x_iload dJ0_indexOf_7cf53_12 rfl ?_
    refine x_aload dJ0_indexOf_7cf53_13 rfl ?_
    refine x_callT (as := []) ltJ0_505 (Rm.of rfl) (cc1 := 0) (cn1 := 0) rfl rfl (Nat.le_of_ble_eq_true rfl) dJ0_indexOf_7cf53_14 (r_slength) ?_
    refine x_S4i lJ0_637 (Rm.of rfl) (cc1 := 0) (cn1 := 0) rfl rfl (Nat.le_of_ble_eq_true rfl) dJ0_indexOf_7cf53_17 (r_Lindex hx) ?_
    refine x_goto dJ0_indexOf_7cf53_20 ?_
    refine x_iret (ty := .int) dJ0_indexOf_7cf53_36 rfl rfl (Nat.zero_le _) (Nat.zero_le _) ?_
    exact ⟨rfl, rfl, rfl⟩
theorem r_indexOf {x : Int32} (hx : 0 ≤ x ∧ x ≤ 255) : Re Γ mJ0_indexOf_0f7a4 [.ref 2, .int x] h sz (some (.int (kI x))) h sz := by
  refine x_enterJ 0 (by decide +kernel) rfl ?_
  refine x_aload dJ0_indexOf_0f7a4_0 rfl ?_
  refine x_iload dJ0_indexOf_0f7a4_1 rfl ?_
  refine x_k dJ0_indexOf_0f7a4_2 ?_
  refine x_callT (as := [.int x, .int 0]) ltJ0_633 (Rm.of rfl) (cc1 := 0) (cn1 := 0) rfl rfl (Nat.le_of_ble_eq_true rfl) dJ0_indexOf_0f7a4_3 (r_indexOf2 hx) ?_
  refine x_iret (ty := .int) dJ0_indexOf_0f7a4_6 rfl rfl (Nat.zero_le _) (Nat.zero_le _) ?_
  exact ⟨rfl, rfl, rfl⟩
end Str
