/-! the law's loop -/
section Loop
variable {Γ : GX} {h : Hp} {sz : Nat} {d : DT}
theorem law_sw {Z : ZT} {cc cn i : Nat} (hJ : JW h sz d) (hi : i + 6 ≤ Γ.2.2.2.2.1) (hl : Γ.2.2.2.2.1 ≤ 3072) (hcc : cc + 414 ≤ 212196) (hcn : cn + 16384 ≤ 8465662) (K : ∀ (cc2 cn2 : Nat) (h2 : Hp) (sz2 : Nat) (d2 : DT), cc2 ≤ cc + 414 → cn2 ≤ cn + 16384 → JW h2 sz2 d2 → Ex Γ mL_law Z cc2 cn2 1288 [.ref 0, .ref 4, .ref 57, .int (nI i)] [] h2 sz2) : Ex Γ mL_law Z cc cn 27 [.ref 0, .ref 4, .ref 57, .int (nI i)] [] h sz := by
  refine x_aload dL_law_27 rfl ?_
  refine x_iload dL_law_28 rfl ?_
  refine x_sld dL_law_29 ⟨by omega, by omega⟩ ?_
  refine x_k dL_law_30 ?_
  refine x_iand dL_law_32 ?_
  generalize Γ.2.2.2.2.2 i &&& 63 = x
  by_cases ho : x.toInt < 0 ∨ 36 < x.toInt
  · exact x_swOut dL_law_33 ho (K _ _ _ _ _ (by omega) (by omega) hJ)
  · have h0 : (0 : Int32) ≤ x := by rw [Int32.le_iff_toInt_le, n0t]; omega
    have h1 : x ≤ nI 36 := by rw [Int32.le_iff_toInt_le, nI_toInt (by omega)]; omega
    obtain ⟨k, hk, rfl⟩ := upto (n := 36) h0 h1 (by omega)
    have hc : k = 0 ∨ k = 1 ∨ k = 2 ∨ k = 3 ∨ k = 4 ∨ k = 5 ∨ k = 6 ∨ k = 7 ∨ k = 8 ∨ k = 9 ∨ k = 10 ∨ k = 11 ∨ k = 12 ∨ k = 13 ∨ k = 14 ∨ k = 15 ∨ k = 16 ∨ k = 17 ∨ k = 18 ∨ k = 19 ∨ k = 20 ∨ k = 21 ∨ k = 22 ∨ k = 23 ∨ k = 24 ∨ k = 25 ∨ k = 26 ∨ k = 27 ∨ k = 28 ∨ k = 29 ∨ k = 30 ∨ k = 31 ∨ k = 32 ∨ k = 33 ∨ k = 34 ∨ k = 35 ∨ k = 36 := by omega
    rcases hc with rfl | rfl | rfl | rfl | rfl | rfl | rfl | rfl | rfl | rfl | rfl | rfl | rfl | rfl | rfl | rfl | rfl | rfl | rfl | rfl | rfl | rfl | rfl | rfl | rfl | rfl | rfl | rfl | rfl | rfl | rfl | rfl | rfl | rfl | rfl | rfl | rfl
    · exact x_swIn dL_law_33 (by decide) (by decide) rfl rfl (law_0 hJ hi hl hcc hcn K)
    · exact x_swIn dL_law_33 (by decide) (by decide) rfl rfl (law_1 hJ hi hl hcc hcn K)
    · exact x_swIn dL_law_33 (by decide) (by decide) rfl rfl (law_2 hJ hi hl hcc hcn K)
    · exact x_swIn dL_law_33 (by decide) (by decide) rfl rfl (law_3 hJ hi hl hcc hcn K)
    · exact x_swIn dL_law_33 (by decide) (by decide) rfl rfl (law_4 hJ hi hl hcc hcn K)
    · exact x_swIn dL_law_33 (by decide) (by decide) rfl rfl (law_5 hJ hi hl hcc hcn K)
    · exact x_swIn dL_law_33 (by decide) (by decide) rfl rfl (law_6 hJ hi hl hcc hcn K)
    · exact x_swIn dL_law_33 (by decide) (by decide) rfl rfl (law_7 hJ hi hl hcc hcn K)
    · exact x_swIn dL_law_33 (by decide) (by decide) rfl rfl (law_8 hJ hi hl hcc hcn K)
    · exact x_swIn dL_law_33 (by decide) (by decide) rfl rfl (law_9 hJ hi hl hcc hcn K)
    · exact x_swIn dL_law_33 (by decide) (by decide) rfl rfl (law_10 hJ hi hl hcc hcn K)
    · exact x_swIn dL_law_33 (by decide) (by decide) rfl rfl (law_11 hJ hi hl hcc hcn K)
    · exact x_swIn dL_law_33 (by decide) (by decide) rfl rfl (law_12 hJ hi hl hcc hcn K)
    · exact x_swIn dL_law_33 (by decide) (by decide) rfl rfl (law_13 hJ hi hl hcc hcn K)
    · exact x_swIn dL_law_33 (by decide) (by decide) rfl rfl (law_14 hJ hi hl hcc hcn K)
    · exact x_swIn dL_law_33 (by decide) (by decide) rfl rfl (law_15 hJ hi hl hcc hcn K)
    · exact x_swIn dL_law_33 (by decide) (by decide) rfl rfl (law_16 hJ hi hl hcc hcn K)
    · exact x_swIn dL_law_33 (by decide) (by decide) rfl rfl (law_17 hJ hi hl hcc hcn K)
    · exact x_swIn dL_law_33 (by decide) (by decide) rfl rfl (law_18 hJ hi hl hcc hcn K)
    · exact x_swIn dL_law_33 (by decide) (by decide) rfl rfl (law_19 hJ hi hl hcc hcn K)
    · exact x_swIn dL_law_33 (by decide) (by decide) rfl rfl (law_20 hJ hi hl hcc hcn K)
    · exact x_swIn dL_law_33 (by decide) (by decide) rfl rfl (law_21 hJ hi hl hcc hcn K)
    · exact x_swIn dL_law_33 (by decide) (by decide) rfl rfl (law_22 hJ hi hl hcc hcn K)
    · exact x_swIn dL_law_33 (by decide) (by decide) rfl rfl (law_23 hJ hi hl hcc hcn K)
    · exact x_swIn dL_law_33 (by decide) (by decide) rfl rfl (law_24 hJ hi hl hcc hcn K)
    · exact x_swIn dL_law_33 (by decide) (by decide) rfl rfl (law_25 hJ hi hl hcc hcn K)
    · exact x_swIn dL_law_33 (by decide) (by decide) rfl rfl (law_26 hJ hi hl hcc hcn K)
    · exact x_swIn dL_law_33 (by decide) (by decide) rfl rfl (law_27 hJ hi hl hcc hcn K)
    · exact x_swIn dL_law_33 (by decide) (by decide) rfl rfl (law_28 hJ hi hl hcc hcn K)
    · exact x_swIn dL_law_33 (by decide) (by decide) rfl rfl (law_29 hJ hi hl hcc hcn K)
    · exact x_swIn dL_law_33 (by decide) (by decide) rfl rfl (law_30 hJ hi hl hcc hcn K)
    · exact x_swIn dL_law_33 (by decide) (by decide) rfl rfl (law_31 hJ hi hl hcc hcn K)
    · exact x_swIn dL_law_33 (by decide) (by decide) rfl rfl (law_32 hJ hi hl hcc hcn K)
    · exact x_swIn dL_law_33 (by decide) (by decide) rfl rfl (law_33 hJ hi hl hcc hcn K)
    · exact x_swIn dL_law_33 (by decide) (by decide) rfl rfl (law_34 hJ hi hl hcc hcn K)
    · exact x_swIn dL_law_33 (by decide) (by decide) rfl rfl (law_35 hJ hi hl hcc hcn K)
    · exact x_swIn dL_law_33 (by decide) (by decide) rfl rfl (law_36 hJ hi hl hcc hcn K)
theorem end_lt {L i : Nat} (hL : L ≤ 3072) (hi : i ≤ 3072) : nI L - 6 < nI i ↔ L < i + 6 := by
  have e1 : (nI L - 6).toInt = (L : Int) - 6 := by
    by_cases z : 6 ≤ L
    · rw [show (6 : Int32) = nI 6 from rfl, nI_sub z, nI_toInt (by omega)]; omega
    · have : ∀ L : Nat, L < 6 → (nI L - 6).toInt = (L : Int) - 6 := by decide +kernel
      exact this L (by omega)
  rw [Int32.lt_iff_toInt_lt, e1, nI_toInt (by omega)]; omega
theorem law_loop {Z : ZT} (hR : ∀ (cc cn : Nat) (lv : List Value) (h : Hp) (sz : Nat), cc ≤ 212196 → cn ≤ 8465662 → Ex Γ mL_law Z cc cn 1295 lv [.int 1] h sz) (hl : Γ.2.2.2.2.1 ≤ 3072) : ∀ (n i cc cn : Nat) (h : Hp) (sz : Nat) (d : DT), JW h sz d → Γ.2.2.2.2.1 < i + 6 * n + 6 → i ≤ 3072 → cc + 414 * n ≤ 212196 → cn + 16384 * n ≤ 8465662 → Ex Γ mL_law Z cc cn 18 [.ref 0, .ref 4, .ref 57, .int (nI i)] [] h sz := by
  intro n
  induction n with
  | zero =>
    intro i cc cn h sz d hJ hn hi hcc hcn
    refine x_iload dL_law_18 rfl ?_
    refine x_aload dL_law_19 rfl ?_
    refine x_slen dL_law_20 ?_
    refine x_k dL_law_21 ?_
    refine x_isub dL_law_23 ?_
    refine x_icmp_gt dL_law_24 (fun b24 => ?_) (fun b24 => ?_)
    · refine x_k dL_law_1294 ?_
      exact hR _ _ _ _ _ (Nat.le_trans (Nat.le_add_right _ _) hcc) (Nat.le_trans (Nat.le_add_right _ _) hcn)
    · exact absurd ((end_lt hl hi).mpr (by omega)) b24
  | succ n ih =>
    intro i cc cn h sz d hJ hn hi hcc hcn
    refine x_iload dL_law_18 rfl ?_
    refine x_aload dL_law_19 rfl ?_
    refine x_slen dL_law_20 ?_
    refine x_k dL_law_21 ?_
    refine x_isub dL_law_23 ?_
    refine x_icmp_gt dL_law_24 (fun b24 => ?_) (fun b24 => ?_)
    · refine x_k dL_law_1294 ?_
      exact hR _ _ _ _ _ (Nat.le_trans (Nat.le_add_right _ _) hcc) (Nat.le_trans (Nat.le_add_right _ _) hcn)
    · have hi6 : i + 6 ≤ Γ.2.2.2.2.1 := by
        rcases Nat.lt_or_ge Γ.2.2.2.2.1 (i + 6) with z | z
        · exact absurd ((end_lt hl hi).mpr z) b24
        · exact z
      have q1 : cc + 414 ≤ 212196 := Nat.le_trans (Nat.add_le_add_left (Nat.le_mul_of_pos_right _ (Nat.succ_pos n)) _) hcc
      have q2 : cn + 16384 ≤ 8465662 := Nat.le_trans (Nat.add_le_add_left (Nat.le_mul_of_pos_right _ (Nat.succ_pos n)) _) hcn
      have hc2' : ∀ cc2, cc2 ≤ cc + 414 → cc2 + 414 * n ≤ 212196 := fun cc2 k1 => Nat.le_trans (Nat.add_le_add_right k1 _) (by rw [Nat.mul_succ] at hcc; rw [Nat.add_assoc, Nat.add_comm 414]; exact hcc)
      have hs2' : ∀ cn2, cn2 ≤ cn + 16384 → cn2 + 16384 * n ≤ 8465662 := fun cn2 k1 => Nat.le_trans (Nat.add_le_add_right k1 _) (by rw [Nat.mul_succ] at hcn; rw [Nat.add_assoc, Nat.add_comm 16384]; exact hcn)
      refine law_sw hJ hi6 hl q1 q2 (fun cc2 cn2 h2 sz2 d2 k1 k2 hJ2 => ?_)
      refine x_iinc (v := 6) dL_law_1288 rfl (by decide) (Nat.le_of_ble_eq_true rfl) rfl ?_
      refine x_goto dL_law_1291 ?_
      have e6 : nI i + 6 = nI (i + 6) := nI_add i 6
      have hi3 : i + 6 ≤ 3072 := Nat.le_trans hi6 hl
      have hn2 : Γ.2.2.2.2.1 < i + 6 + 6 * n + 6 := by omega
      have hc2 : cc2 + 414 * n ≤ 212196 := hc2' cc2 k1
      have hs2 : cn2 + 16384 * n ≤ 8465662 := hs2' cn2 k2
      have go := ih (i + 6) cc2 cn2 h2 sz2 d2 hJ2 hn2 hi3 hc2 hs2
      rw [← e6] at go
      exact go
end Loop
