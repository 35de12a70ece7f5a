/-! rest, of the class -/
abbrev strd (d : DT) (p : Nat) : Nat := (d_H d + 1) ^ (d_N d - 1 - p)
/-- where p goes to spot s from row r -/
abbrev rwS (d : DT) (r p s : Nat) : Nat := r - rwP d r p * strd d p + s * strd d p
noncomputable def wlkB (d : DT) (r p : Nat) : Bool := decide (∃ s, s < d_H d + 1 ∧ rwL d p r < rwL d p (rwS d r p s))
theorem rwP_le (d : DT) (r p : Nat) : rwP d r p * strd d p ≤ r := by
  rw [rwP]
  exact Nat.le_trans (Nat.mul_le_mul_right _ (Nat.mod_le _ _)) (Nat.div_mul_le_self _ _)
theorem rwS_lt {d : DT} {r p s : Nat} (hr : r < rwN d) (hp : p < d_N d) (hs : s < d_H d + 1) : rwS d r p s < rwN d := by
  -- r = a * (S * g) + m * g + l
  have hg : 0 < strd d p := Nat.pow_pos (by omega)
  have hN : rwN d = (d_H d + 1) ^ p * ((d_H d + 1) * strd d p) := by
    rw [rwN, strd, ← Nat.pow_succ', ← Nat.pow_add]
    congr 1; omega
  generalize hgg : strd d p = g at *
  generalize hSS : d_H d + 1 = S at *
  have e1 : rwP d r p = r / g % S := by rw [rwP, ← hgg, ← hSS]
  rw [rwS, e1, hgg]
  have hq : r / g = S * (r / g / S) + r / g % S := (Nat.div_add_mod _ _).symm
  have hr1 : g * (r / g) + r % g = r := Nat.div_add_mod r g
  have hl : r % g < g := Nat.mod_lt _ hg
  have ha : r / g / S < (d_H d + 1) ^ p := by
    rw [Nat.div_div_eq_div_mul]
    rw [hSS] at *
    refine Nat.div_lt_of_lt_mul ?_
    rw [Nat.mul_comm g S, Nat.mul_comm]
    rw [hN] at hr; exact hr
  rw [hSS] at ha
  generalize hA : r / g / S = a at *
  generalize hm : r / g % S = m at *
  generalize r % g = l at *
  have er : r = a * (S * g) + m * g + l := by
    rw [← hr1, hq, Nat.mul_add, Nat.mul_comm g m]
    congr 2
    rw [Nat.mul_comm S a, Nat.mul_comm g, Nat.mul_assoc]
  rw [hN]
  have h2 : r - m * g + s * g = a * (S * g) + (s * g + l) := by omega
  rw [h2]
  have h3 : s * g + l < S * g := by
    have : (s + 1) * g ≤ S * g := Nat.mul_le_mul_right _ (by omega)
    rw [Nat.add_mul, Nat.one_mul] at this; omega
  have h4 : (a + 1) * (S * g) ≤ S ^ p * (S * g) := Nat.mul_le_mul_right _ (by omega)
  rw [Nat.add_mul, Nat.one_mul] at h4
  omega
theorem rstB_eq (d : DT) (r p : Nat) : rstB d r p = if kinN (d_b1 d) p = 2 then decide (rwP d r p = posN (d_H d) (d_b1 d) p) else !wlkB d r p := by
  rw [rstB]
  by_cases z : kinN (d_b1 d) p = 2
  · rw [if_pos z, if_pos z]
  · rw [if_neg z, if_neg z, wlkB]
    by_cases y : ∃ s, s < d_H d + 1 ∧ rwL d p r < rwL d p (rwS d r p s)
    · rw [decide_eq_true y]
      obtain ⟨s, y1, y2⟩ := y
      exact decide_eq_false (fun x => x s y1 y2)
    · rw [decide_eq_false y]
      exact decide_eq_true (fun s y1 y2 => y ⟨s, y1, y2⟩)
abbrev cRest (d : DT) (w : Int32) : Prop := -2 ≤ w ∧ w < nI (d_N d)
noncomputable def rstN (d : DT) : Nat := cntB (rstR d) (rwN d)
noncomputable def rstA (d : DT) (w : Int32) : Int32 := if w = -2 then nI (rstN d) else if w = -1 then (if 0 < rstN d then 1 else 0) else if 0 < rstN d then nI (rwP d (fst1 (rstR d) (rwN d)) (sN w)) - 1 else -100003
noncomputable def aRest (d : DT) (w : Int32) : Int32 := if cRest d w then (if d_N d ≤ 4 then rstA d w else -100004) else -100002
theorem cnt_le (b : Nat → Bool) : ∀ n, cntB b n ≤ n
  | 0 => Nat.le_refl _
  | n + 1 => by
    have h1 := cnt_le b n
    have h2 := Bool.toNat_le (b n)
    rw [cntB] at h1 ⊢
    rw [sumN]; omega
theorem cnt_s (b : Nat → Bool) (n : Nat) : cntB b (n + 1) = cntB b n + (b n).toNat := rfl
theorem cnt_fst (b : Nat → Bool) : ∀ n, (cntB b n = 0 ↔ fst1 b n = n)
  | 0 => ⟨fun _ => rfl, fun _ => rfl⟩
  | n + 1 => by
    have ih := cnt_fst b n
    have hle := fst1_le b n
    rw [cnt_s, fst1]
    by_cases z : fst1 b n < n
    · rw [if_pos z]
      constructor
      · intro y; have := ih.mp (by omega); omega
      · intro y; omega
    · rw [if_neg z]
      have e0 : cntB b n = 0 := ih.mpr (by omega)
      rw [e0]
      cases hb : b n <;> simp
section Rest
variable {Γ : GX} {h : Hp} {sz : Nat} {d : DT}
theorem r_wouldWalk {k r p : Nat} {fi rk wk rs fr wy : Int32} {st : Nat → Int32} {e : Nat → Int64} (h28 : h 28 = cR (.ref k) (nI (d_N d)) (nI (d_H d + 1)) (nI (rwN d)) fi rk wk rs fr wy) (h36 : h 36 = ia 4 st) (hke : h k = la 6561 e) (h25 : h 25 = cTa) (h27 : h 27 = ia 64 (d_l d)) (hst : ∀ p, p < d_N d → st p = nI (strd d p)) (he : ∀ r, r < rwN d → endOK d (rwR d r) (e r)) (hd : okD d) (hN : d_N d ≤ 4) (hr : r < rwN d) (hp : p < d_N d) : Re Γ mX2_wouldWalk [.ref 28, .int (nI r), .int (nI p), .ref 25] h sz (some (.int (bI (wlkB d r p = true)))) h sz := by
  refine x_enter 5 (by decide) rfl ?_
  have hH8 : d_H d ≤ 8 := (hN_ok hd.1.1).1
  have hle := rwN_le hd hN
  have hk4 : ∀ r, (rwR d r).2.1 p < 8 := fun r => by have : (rwR d r).2.1 p < d_N d := runF_kp (d_ns d) p hp; omega
  have hb := rwP_le d r p
  have all : ∀ s, s ≤ d_H d + 1 → ∀ v u : Value, (∀ i, i < s → ¬ rwL d p r < rwL d p (rwS d r p i)) → Ex Γ mX2_wouldWalk (gx_Z Γ mX2_wouldWalk (fun r' h' sz' => r' = some (.int (bI (wlkB d r p = true))) ∧ h' = h ∧ sz' = sz)) 0 0 36 [.ref 28, .int (nI r), .int (nI p), .ref 25, .int (rwL d p r), .int (nI (r - rwP d r p * strd d p)), .int (nI s), v, u] [] h sz := by
    refine loopUp (d_H d + 1) (fun v u hno => ?_) (fun s hs ih v u hno => ?_)
    · have ez : ¬ wlkB d r p = true := fun z => by
        obtain ⟨i, z1, z2⟩ := of_decide_eq_true z
        exact hno i z1 z2
      refine x_iload dX2_wouldWalk_36 rfl ?_
      refine x_aload dX2_wouldWalk_38 rfl ?_
      refine x_get fX2_39 dX2_wouldWalk_39 (by first | assumption | rfl | exact up_same | exact (up_ne (by omega)).trans (by assumption) | exact (up_ne (by assumption)).trans (by assumption)) ?_
      refine x_icmp_ge dX2_wouldWalk_42 (fun b42 => ?_) (fun b42 => ?_)
      · refine x_k dX2_wouldWalk_87 ?_
        refine x_iret (ty := .boolean) dX2_wouldWalk_88 rfl (by first | rfl | exact nzb) (Nat.zero_le _) (Nat.zero_le _) ?_
        exact ⟨by rw [bI, if_neg ez], rfl, rfl⟩
      · exact absurd (Int32.le_refl _) b42
    · have hrs := rwS_lt (r := r) hr hp hs
      refine x_iload dX2_wouldWalk_36 rfl ?_
      refine x_aload dX2_wouldWalk_38 rfl ?_
      refine x_get fX2_39 dX2_wouldWalk_39 (by first | assumption | rfl | exact up_same | exact (up_ne (by omega)).trans (by assumption) | exact (up_ne (by assumption)).trans (by assumption)) ?_
      refine x_icmp_ge dX2_wouldWalk_42 (fun b42 => ?_) (fun b42 => ?_)
      · exact absurd b42 (nI_ge hs (by omega))
      · refine x_aload dX2_wouldWalk_45 rfl ?_
        refine x_iload dX2_wouldWalk_46 rfl ?_
        refine x_iload dX2_wouldWalk_48 rfl ?_
        refine x_aload dX2_wouldWalk_50 rfl ?_
        refine x_get fX2_25 dX2_wouldWalk_51 (by first | assumption | rfl | exact up_same | exact (up_ne (by omega)).trans (by assumption) | exact (up_ne (by assumption)).trans (by assumption)) ?_
        refine x_iload dX2_wouldWalk_54 rfl ?_
        refine x_ialdn dX2_wouldWalk_55 (by first | assumption | rfl | exact up_same | exact (up_ne (by omega)).trans (by assumption) | exact (up_ne (by assumption)).trans (by assumption)) ⟨by first | omega | decide, by decide⟩ ?_
        rw [hst p hp]
        refine x_imul dX2_wouldWalk_56 ?_
        rw [pk_mul]
        refine x_iadd dX2_wouldWalk_57 ?_
        rw [nI_add]
        refine x_V1l lX2_118 (Rm.of rfl) (cc1 := 0) (cn1 := 0) rfl rfl (Nat.le_of_ble_eq_true rfl) dX2_wouldWalk_58 (by first | assumption | rfl | exact up_same | exact (up_ne (by omega)).trans (by assumption) | exact (up_ne (by assumption)).trans (by assumption)) (r_endAt h28 hke hd hN hrs) ?_
        refine x_lstore dX2_wouldWalk_61 (Nat.le_of_ble_eq_true rfl) rfl ?_
        refine x_aload dX2_wouldWalk_63 rfl ?_
        refine x_iload dX2_wouldWalk_64 rfl ?_
        refine x_lload dX2_wouldWalk_65 rfl ?_
        refine x_iload dX2_wouldWalk_67 rfl ?_
        refine x_S2i lX2_122 (Rm.of rfl) (cc1 := 0) (cn1 := 0) rfl rfl (Nat.le_of_ble_eq_true rfl) dX2_wouldWalk_68 (r_keeperBy (he _ hrs) hN hp) ?_
        refine x_V2i lX2_153 (Rm.of rfl) (cc1 := 0) (cn1 := 0) rfl rfl (Nat.le_of_ble_eq_true rfl) dX2_wouldWalk_71 (by first | assumption | rfl | exact up_same | exact (up_ne (by omega)).trans (by assumption) | exact (up_ne (by assumption)).trans (by assumption)) (r_likingOf (q := p) (p := (rwR d (rwS d r p s)).2.1 p) h25 h27 (by omega) (hk4 _)) ?_
        refine x_iload dX2_wouldWalk_74 rfl ?_
        refine x_icmp_le dX2_wouldWalk_76 (fun b76 => ?_) (fun b76 => ?_)
        · refine x_inc1 dX2_wouldWalk_81 rfl (Nat.le_of_ble_eq_true rfl) rfl ?_
          refine x_goto dX2_wouldWalk_84 ?_
          refine ih _ _ (fun i hi => ?_)
          by_cases ei : i = s
          · subst ei; exact Int32.not_lt.mpr b76
          · exact hno i (by omega)
        · refine x_k dX2_wouldWalk_79 ?_
          refine x_iret (ty := .boolean) dX2_wouldWalk_80 rfl (by first | rfl | exact nzb) (Nat.zero_le _) (Nat.zero_le _) ?_
          have hz : wlkB d r p = true := decide_eq_true ⟨s, hs, Int32.not_le.mp b76⟩
          exact ⟨by rw [bI, if_pos hz], rfl, rfl⟩
  refine x_aload dX2_wouldWalk_0 rfl ?_
  refine x_iload dX2_wouldWalk_1 rfl ?_
  refine x_aload dX2_wouldWalk_2 rfl ?_
  refine x_iload dX2_wouldWalk_3 rfl ?_
  refine x_V1l lX2_118 (Rm.of rfl) (cc1 := 0) (cn1 := 0) rfl rfl (Nat.le_of_ble_eq_true rfl) dX2_wouldWalk_4 (by first | assumption | rfl | exact up_same | exact (up_ne (by omega)).trans (by assumption) | exact (up_ne (by assumption)).trans (by assumption)) (r_endAt h28 hke hd hN hr) ?_
  refine x_iload dX2_wouldWalk_7 rfl ?_
  refine x_S2i lX2_122 (Rm.of rfl) (cc1 := 0) (cn1 := 0) rfl rfl (Nat.le_of_ble_eq_true rfl) dX2_wouldWalk_8 (r_keeperBy (he r hr) hN hp) ?_
  refine x_V2i lX2_153 (Rm.of rfl) (cc1 := 0) (cn1 := 0) rfl rfl (Nat.le_of_ble_eq_true rfl) dX2_wouldWalk_11 (by first | assumption | rfl | exact up_same | exact (up_ne (by omega)).trans (by assumption) | exact (up_ne (by assumption)).trans (by assumption)) (r_likingOf (q := p) (p := (rwR d r).2.1 p) h25 h27 (by omega) (hk4 _)) ?_
  refine x_istore dX2_wouldWalk_14 (Nat.le_of_ble_eq_true rfl) rfl ?_
  refine x_iload dX2_wouldWalk_16 rfl ?_
  refine x_aload dX2_wouldWalk_17 rfl ?_
  refine x_iload dX2_wouldWalk_18 rfl ?_
  refine x_iload dX2_wouldWalk_19 rfl ?_
  refine x_V2i lX2_143 (Rm.of rfl) (cc1 := 0) (cn1 := 0) rfl rfl (Nat.le_of_ble_eq_true rfl) dX2_wouldWalk_20 (by first | assumption | rfl | exact up_same | exact (up_ne (by omega)).trans (by assumption) | exact (up_ne (by assumption)).trans (by assumption)) (r_spotIn h28 h36 hst hd hN hr hp) ?_
  refine x_aload dX2_wouldWalk_23 rfl ?_
  refine x_get fX2_25 dX2_wouldWalk_24 (by first | assumption | rfl | exact up_same | exact (up_ne (by omega)).trans (by assumption) | exact (up_ne (by assumption)).trans (by assumption)) ?_
  refine x_iload dX2_wouldWalk_27 rfl ?_
  refine x_ialdn dX2_wouldWalk_28 (by first | assumption | rfl | exact up_same | exact (up_ne (by omega)).trans (by assumption) | exact (up_ne (by assumption)).trans (by assumption)) ⟨by first | omega | decide, by decide⟩ ?_
  rw [hst p hp]
  refine x_imul dX2_wouldWalk_29 ?_
  rw [pk_mul]
  refine x_isub dX2_wouldWalk_30 ?_
  rw [nI_sub hb]
  refine x_istore dX2_wouldWalk_31 (Nat.le_of_ble_eq_true rfl) rfl ?_
  refine x_k dX2_wouldWalk_33 ?_
  refine x_istore dX2_wouldWalk_34 (Nat.le_of_ble_eq_true rfl) rfl ?_
  exact all 0 (Nat.zero_le _) _ _ (fun i hi => absurd hi (by omega))
theorem r_allRest {k r : Nat} {fi rk wk rs fr wy : Int32} {st kd sp : Nat → Int32} {e : Nat → Int64} (h28 : h 28 = cR (.ref k) (nI (d_N d)) (nI (d_H d + 1)) (nI (rwN d)) fi rk wk rs fr wy) (h36 : h 36 = ia 4 st) (hke : h k = la 6561 e) (h10 : h 10 = cSt (nI (d_H d)) (nI (d_N d))) (h14 : h 14 = ia 8 kd) (h15 : h 15 = ia 8 sp) (hks : ∀ p, p < d_N d → kd p = nI (kinN (d_b1 d) p) ∧ sp p = nI (posN (d_H d) (d_b1 d) p)) (h25 : h 25 = cTa) (h27 : h 27 = ia 64 (d_l d)) (hst : ∀ p, p < d_N d → st p = nI (strd d p)) (he : ∀ r, r < rwN d → endOK d (rwR d r) (e r)) (hd : okD d) (hN : d_N d ≤ 4) (hr : r < rwN d) : Re Γ mX2_allRest [.ref 28, .int (nI r), .ref 10, .ref 25] h sz (some (.int (bI (rstR d r = true)))) h sz := by
  refine x_enter 2 (by decide) rfl ?_
  have hH8 : d_H d ≤ 8 := (hN_ok hd.1.1).1
  have all : ∀ p, p ≤ d_N d → ∀ v : Value, (∀ i, i < p → rstB d r i = true) → Ex Γ mX2_allRest (gx_Z Γ mX2_allRest (fun r' h' sz' => r' = some (.int (bI (rstR d r = true))) ∧ h' = h ∧ sz' = sz)) 0 0 3 [.ref 28, .int (nI r), .ref 10, .ref 25, .int (nI p), v] [] h sz := by
    refine loopUp (d_N d) (fun v hall => ?_) (fun p hp ih v hall => ?_)
    · have ez : rstR d r = true := decide_eq_true hall
      refine x_iload dX2_allRest_3 rfl ?_
      refine x_aload dX2_allRest_5 rfl ?_
      refine x_get fX2_35 dX2_allRest_6 (by first | assumption | rfl | exact up_same | exact (up_ne (by omega)).trans (by assumption) | exact (up_ne (by assumption)).trans (by assumption)) ?_
      refine x_icmp_ge dX2_allRest_9 (fun b9 => ?_) (fun b9 => ?_)
      · refine x_k dX2_allRest_79 ?_
        refine x_iret (ty := .boolean) dX2_allRest_80 rfl (by first | rfl | exact nzb) (Nat.zero_le _) (Nat.zero_le _) ?_
        exact ⟨by rw [bI, if_pos ez], rfl, rfl⟩
      · exact absurd (Int32.le_refl _) b9
    · have hk2 := (kinN_ok hd.1.2.1 hp).2
      have ek2 : kd p = 2 ↔ kinN (d_b1 d) p = 2 := by rw [(hks p hp).1]; exact nI_eq (b := 2) (by omega) (by omega)
      have hpo := (posN_ok hH8 (d_b1 d) p).2
      have hrl := rwP_lt d r p
      have eps : nI (rwP d r p) = sp p ↔ rwP d r p = posN (d_H d) (d_b1 d) p := by rw [(hks p hp).2]; exact nI_eq (by omega) (by omega)
      have J64 : ∀ x : Int32, x = bI (rstB d r p = true) → Ex Γ mX2_allRest (gx_Z Γ mX2_allRest (fun r' h' sz' => r' = some (.int (bI (rstR d r = true))) ∧ h' = h ∧ sz' = sz)) 0 0 64 [.ref 28, .int (nI r), .ref 10, .ref 25, .int (nI p), v] [.int x] h sz := by
        intro x hx
        rw [hx]
        refine x_istore dX2_allRest_64 (Nat.le_of_ble_eq_true rfl) rfl ?_
        refine x_iload dX2_allRest_66 rfl ?_
        refine x_if_ne dX2_allRest_68 (fun b68 => ?_) (fun b68 => ?_)
        · refine x_inc1 dX2_allRest_73 rfl (Nat.le_of_ble_eq_true rfl) rfl ?_
          refine x_goto dX2_allRest_76 ?_
          have hz : rstB d r p = true := Classical.not_not.mp (fun z => b68 (i01.mpr z))
          refine ih _ (fun i hi => ?_)
          by_cases ei : i = p
          · subst ei; exact hz
          · exact hall i (by omega)
        · refine x_k dX2_allRest_71 ?_
          refine x_iret (ty := .boolean) dX2_allRest_72 rfl (by first | rfl | exact nzb) (Nat.zero_le _) (Nat.zero_le _) ?_
          have hz : ¬ rstB d r p = true := i01.mp (Classical.not_not.mp b68)
          have hy : ¬ rstR d r = true := fun z => hz (of_decide_eq_true z p hp)
          exact ⟨by rw [bI, if_neg hy], rfl, rfl⟩
      refine x_iload dX2_allRest_3 rfl ?_
      refine x_aload dX2_allRest_5 rfl ?_
      refine x_get fX2_35 dX2_allRest_6 (by first | assumption | rfl | exact up_same | exact (up_ne (by omega)).trans (by assumption) | exact (up_ne (by assumption)).trans (by assumption)) ?_
      refine x_icmp_ge dX2_allRest_9 (fun b9 => ?_) (fun b9 => ?_)
      · exact absurd b9 (nI_ge hp (by omega))
      · refine x_aload dX2_allRest_12 rfl ?_
        refine x_get fX2_140 dX2_allRest_13 (by first | assumption | rfl | exact up_same | exact (up_ne (by omega)).trans (by assumption) | exact (up_ne (by assumption)).trans (by assumption)) ?_
        refine x_iload dX2_allRest_16 rfl ?_
        refine x_ialdn dX2_allRest_18 (by first | assumption | rfl | exact up_same | exact (up_ne (by omega)).trans (by assumption) | exact (up_ne (by assumption)).trans (by assumption)) ⟨by first | omega | decide, by decide⟩ ?_
        refine x_k dX2_allRest_19 ?_
        refine x_icmp_ne dX2_allRest_20 (fun b20 => ?_) (fun b20 => ?_)
        · refine x_aload dX2_allRest_48 rfl ?_
          refine x_iload dX2_allRest_49 rfl ?_
          refine x_iload dX2_allRest_50 rfl ?_
          refine x_aload dX2_allRest_52 rfl ?_
          refine x_V3i lX2_149 (Rm.of rfl) (cc1 := 0) (cn1 := 0) rfl rfl (Nat.le_of_ble_eq_true rfl) dX2_allRest_53 (by first | assumption | rfl | exact up_same | exact (up_ne (by omega)).trans (by assumption) | exact (up_ne (by assumption)).trans (by assumption)) (r_wouldWalk h28 h36 hke h25 h27 hst he hd hN hr hp) ?_
          refine x_if_ne dX2_allRest_56 (fun b56 => ?_) (fun b56 => ?_)
          · try simp only [i01, Classical.not_not] at b56
            refine x_k dX2_allRest_63 ?_
            refine J64 _ ?_
            first
              | (have hz : kinN (d_b1 d) p = 2 := ek2.mp (Classical.not_not.mp b20)
                 have er : rstB d r p = decide (rwP d r p = posN (d_H d) (d_b1 d) p) := by rw [rstB_eq, if_pos hz]
                 first
                   | (have hy : rstB d r p = true := by rw [er]; exact decide_eq_true (eps.mp (Classical.not_not.mp b37))
                      exact (if_pos hy).symm)
                   | (have hy : ¬ rstB d r p = true := by rw [er]; exact fun x => b37 (eps.mpr (of_decide_eq_true x))
                      exact (if_neg hy).symm))
              | (have hz : ¬ kinN (d_b1 d) p = 2 := fun z => b20 (ek2.mpr z)
                 have er : rstB d r p = !wlkB d r p := by rw [rstB_eq, if_neg hz]
                 first
                   | (have hy : ¬ rstB d r p = true := by rw [er, b56]; decide
                      exact (if_neg hy).symm)
                   | (have hy : rstB d r p = true := by rw [er, Bool.eq_false_iff.mpr b56]; rfl
                      exact (if_pos hy).symm))
          · try simp only [i01, Classical.not_not] at b56
            refine x_k dX2_allRest_59 ?_
            refine x_goto dX2_allRest_60 ?_
            refine J64 _ ?_
            first
              | (have hz : kinN (d_b1 d) p = 2 := ek2.mp (Classical.not_not.mp b20)
                 have er : rstB d r p = decide (rwP d r p = posN (d_H d) (d_b1 d) p) := by rw [rstB_eq, if_pos hz]
                 first
                   | (have hy : rstB d r p = true := by rw [er]; exact decide_eq_true (eps.mp (Classical.not_not.mp b37))
                      exact (if_pos hy).symm)
                   | (have hy : ¬ rstB d r p = true := by rw [er]; exact fun x => b37 (eps.mpr (of_decide_eq_true x))
                      exact (if_neg hy).symm))
              | (have hz : ¬ kinN (d_b1 d) p = 2 := fun z => b20 (ek2.mpr z)
                 have er : rstB d r p = !wlkB d r p := by rw [rstB_eq, if_neg hz]
                 first
                   | (have hy : ¬ rstB d r p = true := by rw [er, b56]; decide
                      exact (if_neg hy).symm)
                   | (have hy : rstB d r p = true := by rw [er, Bool.eq_false_iff.mpr b56]; rfl
                      exact (if_pos hy).symm))
        · refine x_aload dX2_allRest_23 rfl ?_
          refine x_iload dX2_allRest_24 rfl ?_
          refine x_iload dX2_allRest_25 rfl ?_
          refine x_V2i lX2_143 (Rm.of rfl) (cc1 := 0) (cn1 := 0) rfl rfl (Nat.le_of_ble_eq_true rfl) dX2_allRest_27 (by first | assumption | rfl | exact up_same | exact (up_ne (by omega)).trans (by assumption) | exact (up_ne (by assumption)).trans (by assumption)) (r_spotIn h28 h36 hst hd hN hr hp) ?_
          refine x_aload dX2_allRest_30 rfl ?_
          refine x_get fX2_146 dX2_allRest_31 (by first | assumption | rfl | exact up_same | exact (up_ne (by omega)).trans (by assumption) | exact (up_ne (by assumption)).trans (by assumption)) ?_
          refine x_iload dX2_allRest_34 rfl ?_
          refine x_ialdn dX2_allRest_36 (by first | assumption | rfl | exact up_same | exact (up_ne (by omega)).trans (by assumption) | exact (up_ne (by assumption)).trans (by assumption)) ⟨by first | omega | decide, by decide⟩ ?_
          refine x_icmp_ne dX2_allRest_37 (fun b37 => ?_) (fun b37 => ?_)
          · refine x_k dX2_allRest_44 ?_
            refine x_goto dX2_allRest_45 ?_
            refine J64 _ ?_
            first
              | (have hz : kinN (d_b1 d) p = 2 := ek2.mp (Classical.not_not.mp b20)
                 have er : rstB d r p = decide (rwP d r p = posN (d_H d) (d_b1 d) p) := by rw [rstB_eq, if_pos hz]
                 first
                   | (have hy : rstB d r p = true := by rw [er]; exact decide_eq_true (eps.mp (Classical.not_not.mp b37))
                      exact (if_pos hy).symm)
                   | (have hy : ¬ rstB d r p = true := by rw [er]; exact fun x => b37 (eps.mpr (of_decide_eq_true x))
                      exact (if_neg hy).symm))
              | (have hz : ¬ kinN (d_b1 d) p = 2 := fun z => b20 (ek2.mpr z)
                 have er : rstB d r p = !wlkB d r p := by rw [rstB_eq, if_neg hz]
                 first
                   | (have hy : ¬ rstB d r p = true := by rw [er, b56]; decide
                      exact (if_neg hy).symm)
                   | (have hy : rstB d r p = true := by rw [er, Bool.eq_false_iff.mpr b56]; rfl
                      exact (if_pos hy).symm))
          · refine x_k dX2_allRest_40 ?_
            refine x_goto dX2_allRest_41 ?_
            refine J64 _ ?_
            first
              | (have hz : kinN (d_b1 d) p = 2 := ek2.mp (Classical.not_not.mp b20)
                 have er : rstB d r p = decide (rwP d r p = posN (d_H d) (d_b1 d) p) := by rw [rstB_eq, if_pos hz]
                 first
                   | (have hy : rstB d r p = true := by rw [er]; exact decide_eq_true (eps.mp (Classical.not_not.mp b37))
                      exact (if_pos hy).symm)
                   | (have hy : ¬ rstB d r p = true := by rw [er]; exact fun x => b37 (eps.mpr (of_decide_eq_true x))
                      exact (if_neg hy).symm))
              | (have hz : ¬ kinN (d_b1 d) p = 2 := fun z => b20 (ek2.mpr z)
                 have er : rstB d r p = !wlkB d r p := by rw [rstB_eq, if_neg hz]
                 first
                   | (have hy : ¬ rstB d r p = true := by rw [er, b56]; decide
                      exact (if_neg hy).symm)
                   | (have hy : rstB d r p = true := by rw [er, Bool.eq_false_iff.mpr b56]; rfl
                      exact (if_pos hy).symm))
  refine x_k dX2_allRest_0 ?_
  refine x_istore dX2_allRest_1 (Nat.le_of_ble_eq_true rfl) rfl ?_
  exact all 0 (Nat.zero_le _) _ (fun i hi => absurd hi (by omega))
end Rest
