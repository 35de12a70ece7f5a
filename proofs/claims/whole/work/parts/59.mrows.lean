/-! rows of the reference -/
/-- the reference stands at the end s -/
def MQw (h : Hp) (d : DT) (s : SS) : Prop := ∃ (ll : Int32) (os kp tm : Nat → Int32), h 57 = cM (nI (d_H d)) (nI (d_N d)) (nI (d_ns d)) ll (nI (d_nf d)) (d_fi d) ∧ h 68 = ia 9 os ∧ h 69 = ia 9 kp ∧ h 70 = ia 9 tm ∧ mkF (d_H d) s os kp tm
/-- all are placed as in a row -/
def MP (h : Hp) (d : DT) (r : Nat) : Prop := ∃ wh : Nat → Int32, h 67 = ia 9 wh ∧ ∀ p, p < d_N d → wh p = nI (rwP d r p) - 1
section MRow
variable {Γ : GX} {h : Hp} {sz : Nat} {d : DT}
theorem MW.wk67 {wh : Nat → Int32} (hM : MW h d) : MW (va_up h 67 (ia 9 wh)) d := by
  obtain ⟨hs, pe, ll, ty, tx, ow, pr, kd, pl, lw, wh0, os, kp, tm, ls, lk, af, wt, be, th, fr, it, mv, ⟨a57, a58, a59, a60, a61, a62, a63⟩, ⟨a64, a65, a66, a67, a68, a69, a70, a71⟩, ⟨a72, a73, a74, a75, a76, a77, a78, a79⟩, ⟨a80, a81, a82, a83, a84⟩, a5⟩ := hM
  exact ⟨hs, pe, ll, ty, tx, ow, pr, kd, pl, lw, wh, os, kp, tm, ls, lk, af, wt, be, th, fr, it, mv, ⟨a57, a58, a59, a60, a61, a62, a63⟩, ⟨a64, a65, a66, rfl, a68, a69, a70, a71⟩, ⟨a72, a73, a74, a75, a76, a77, a78, a79⟩, ⟨a80, a81, a82, a83, a84⟩, a5⟩
theorem MW.wk74 {lk : Nat → Int32} (hM : MW h d) : MW (va_up h 74 (ia 26244 lk)) d := by
  obtain ⟨hs, pe, ll, ty, tx, ow, pr, kd, pl, lw, wh, os, kp, tm, ls, lk0, af, wt, be, th, fr, it, mv, ⟨a57, a58, a59, a60, a61, a62, a63⟩, ⟨a64, a65, a66, a67, a68, a69, a70, a71⟩, ⟨a72, a73, a74, a75, a76, a77, a78, a79⟩, ⟨a80, a81, a82, a83, a84⟩, a5⟩ := hM
  exact ⟨hs, pe, ll, ty, tx, ow, pr, kd, pl, lw, wh, os, kp, tm, ls, lk, af, wt, be, th, fr, it, mv, ⟨a57, a58, a59, a60, a61, a62, a63⟩, ⟨a64, a65, a66, a67, a68, a69, a70, a71⟩, ⟨a72, a73, rfl, a75, a76, a77, a78, a79⟩, ⟨a80, a81, a82, a83, a84⟩, a5⟩
theorem MW.wk79 {be : Nat → Int32} (hM : MW h d) : MW (va_up h 79 (ia 9 be)) d := by
  obtain ⟨hs, pe, ll, ty, tx, ow, pr, kd, pl, lw, wh, os, kp, tm, ls, lk, af, wt, be0, th, fr, it, mv, ⟨a57, a58, a59, a60, a61, a62, a63⟩, ⟨a64, a65, a66, a67, a68, a69, a70, a71⟩, ⟨a72, a73, a74, a75, a76, a77, a78, a79⟩, ⟨a80, a81, a82, a83, a84⟩, a5⟩ := hM
  exact ⟨hs, pe, ll, ty, tx, ow, pr, kd, pl, lw, wh, os, kp, tm, ls, lk, af, wt, be, th, fr, it, mv, ⟨a57, a58, a59, a60, a61, a62, a63⟩, ⟨a64, a65, a66, a67, a68, a69, a70, a71⟩, ⟨a72, a73, a74, a75, a76, a77, a78, rfl⟩, ⟨a80, a81, a82, a83, a84⟩, a5⟩
theorem MR.of {h' : Hp} (hR : MR h d) (e : ∀ k, 57 ≤ k → k ≤ 63 → h' k = h k) : MR h' d := by
  obtain ⟨ll, ow, pr, kd, pl, r57, r60, r61, r62, r63, ro, rp⟩ := hR
  exact ⟨ll, ow, pr, kd, pl, (e 57 (by decide) (by decide)).trans r57, (e 60 (by decide) (by decide)).trans r60, (e 61 (by decide) (by decide)).trans r61, (e 62 (by decide) (by decide)).trans r62, (e 63 (by decide) (by decide)).trans r63, ro, rp⟩
theorem m_rows (hR : MR h d) (hd : okD d) (hN : d_N d ≤ 4) : Re Γ mX10_rows [.ref 57] h sz (some (.int (nI (rwN d)))) h sz := by
  obtain ⟨ll, ow, pr, kd, pl, r57, r60, r61, r62, r63, ro, rp⟩ := id hR
  refine x_enter 2 (by decide) rfl ?_
  refine x_k dX10_rows_0 ?_
  refine x_istore dX10_rows_1 (Nat.le_of_ble_eq_true rfl) rfl ?_
  refine x_k dX10_rows_2 ?_
  refine x_istore dX10_rows_3 (Nat.le_of_ble_eq_true rfl) rfl ?_
  refine x_eq rfl rfl rfl (loopUp (P := fun p => Ex Γ mX10_rows _ 0 0 4 [.ref 57, .int (nI ((d_H d + 1) ^ p)), .int (nI p)] [] h sz) (d_N d) ?_ (fun p hp ih => ?_) 0 (Nat.zero_le _))
  · refine x_iload dX10_rows_4 rfl ?_
    refine x_aload dX10_rows_5 rfl ?_
    refine x_get fX10_104 dX10_rows_6 (by first | assumption | rfl | exact up_same | exact (up_ne (by omega)).trans (by assumption) | exact (up_ne (by assumption)).trans (by assumption)) ?_
    refine x_icmp_ge dX10_rows_9 (fun b9 => ?_) (fun b9 => ?_)
    · refine x_iload dX10_rows_27 rfl ?_
      refine x_iret (ty := .int) dX10_rows_28 rfl rfl (Nat.zero_le _) (Nat.zero_le _) ?_
      exact ⟨rfl, rfl, rfl⟩
    · exact absurd (Int32.le_refl _) b9
  · rw [Nat.pow_succ] at ih
    refine x_iload dX10_rows_4 rfl ?_
    refine x_aload dX10_rows_5 rfl ?_
    refine x_get fX10_104 dX10_rows_6 (by first | assumption | rfl | exact up_same | exact (up_ne (by omega)).trans (by assumption) | exact (up_ne (by assumption)).trans (by assumption)) ?_
    refine x_icmp_ge dX10_rows_9 (fun b9 => ?_) (fun b9 => ?_)
    · exact absurd b9 (nI_ge hp (by omega))
    · refine x_iload dX10_rows_12 rfl ?_
      refine x_aload dX10_rows_13 rfl ?_
      refine x_get fX10_96 dX10_rows_14 (by first | assumption | rfl | exact up_same | exact (up_ne (by omega)).trans (by assumption) | exact (up_ne (by assumption)).trans (by assumption)) ?_
      refine x_k dX10_rows_17 ?_
      refine x_iadd dX10_rows_18 ?_
      rw [nI_1]
      refine x_imul dX10_rows_19 ?_
      rw [pk_mul]
      refine x_istore dX10_rows_20 (Nat.le_of_ble_eq_true rfl) rfl ?_
      refine x_inc1 dX10_rows_21 rfl (Nat.le_of_ble_eq_true rfl) rfl ?_
      refine x_goto dX10_rows_24 ?_
      exact ih
theorem m_places {r : Nat} (hM : MW h d) (hR : MR h d) (hd : okD d) (hN : d_N d ≤ 4) (hr : r < rwN d) : Rn Γ mX10_places [.ref 57, .int (nI r)] h sz (fun v h' sz' => v = none ∧ sz = sz' ∧ MW h' d ∧ MR h' d ∧ MP h' d r ∧ ∀ k, k ≠ 67 → h' k = h k) := by
  obtain ⟨ll, ow, pr, kd, pl, r57, r60, r61, r62, r63, ro, rp⟩ := id hR
  obtain ⟨_, _, _, _, _, _, _, _, _, _, wh, _, _, _, _, _, _, _, _, _, _, _, _, -, ⟨-, -, -, a67, -⟩, -⟩ := id hM
  have hH8 : d_H d ≤ 8 := (hN_ok hd.1.1).1
  have hle := rwN_le hd hN
  refine x_enter 2 (by decide) rfl ?_
  have all : ∀ k, k ≤ d_N d → ∀ wh : Nat → Int32, (∀ p, k ≤ p → p < d_N d → wh p = nI (rwP d r p) - 1) → Ex Γ mX10_places (gx_Z Γ mX10_places (fun v h' sz' => v = none ∧ sz = sz' ∧ MW h' d ∧ MR h' d ∧ MP h' d r ∧ ∀ k, k ≠ 67 → h' k = h k)) 0 0 9 [.ref 57, .int (nI r), .int (nI (r / (d_H d + 1) ^ (d_N d - k))), .int (nI k - 1)] [] (va_up h 67 (ia 9 wh)) sz := by
    intro k
    induction k with
    | zero =>
      intro hk wh hw
      refine x_iload dX10_places_9 rfl ?_
      refine x_if_lt dX10_places_10 (fun b10 => ?_) (fun b10 => ?_)
      · refine x_vret dX10_places_44 rfl (Nat.zero_le _) (Nat.zero_le _) ?_
        exact ⟨rfl, rfl, hM.wk67, hR.of (fun j h1 h2 => up_ne (by omega)), ⟨wh, rfl, fun p hp => hw p (Nat.zero_le _) hp⟩, fun j hj => up_ne hj⟩
      · exact absurd (by decide) b10
    | succ k ih =>
      intro hk wh hw
      rw [nI_m1]
      have hl : r / (d_H d + 1) ^ (d_N d - (k + 1)) ≤ r := Nat.div_le_self _ _
      have ek : r / (d_H d + 1) ^ (d_N d - (k + 1)) % (d_H d + 1) = rwP d r k := by rw [rwP, show d_N d - 1 - k = d_N d - (k + 1) by omega]
      have en : r / (d_H d + 1) ^ (d_N d - (k + 1)) / (d_H d + 1) = r / (d_H d + 1) ^ (d_N d - k) := by rw [Nat.div_div_eq_div_mul, show d_N d - k = d_N d - (k + 1) + 1 by omega, Nat.pow_succ]
      generalize hg : r / (d_H d + 1) ^ (d_N d - (k + 1)) = l at *
      have hw2 : ∀ p, k ≤ p → p < d_N d → upd wh k (nI (rwP d r k) - 1) p = nI (rwP d r p) - 1 := fun p h1 h2 => by
        by_cases e : p = k
        · subst e; rw [upd_same]
        · rw [upd_ne e]; exact hw p (by omega) h2
      refine x_iload dX10_places_9 rfl ?_
      refine x_if_lt dX10_places_10 (fun b10 => ?_) (fun b10 => ?_)
      · exact absurd b10 (nI_pos (by omega))
      · refine x_aload dX10_places_13 rfl ?_
        refine x_get fX10_37 dX10_places_14 (by first | assumption | rfl | exact up_same | exact (up_ne (by omega)).trans (by assumption) | exact (up_ne (by assumption)).trans (by assumption)) ?_
        refine x_iload dX10_places_17 rfl ?_
        refine x_iload dX10_places_18 rfl ?_
        refine x_aload dX10_places_19 rfl ?_
        refine x_get fX10_96 dX10_places_20 (by first | assumption | rfl | exact up_same | exact (up_ne (by omega)).trans (by assumption) | exact (up_ne (by assumption)).trans (by assumption)) ?_
        refine x_k dX10_places_23 ?_
        refine x_iadd dX10_places_24 ?_
        rw [nI_1]
        refine x_iremn dX10_places_25 (by omega) ⟨by omega, by omega⟩ ?_
        rw [ek]
        refine x_k dX10_places_26 ?_
        refine x_isub dX10_places_27 ?_
        refine x_iastn dX10_places_28 (by first | assumption | rfl | exact up_same | exact (up_ne (by omega)).trans (by assumption) | exact (up_ne (by assumption)).trans (by assumption)) ⟨by first | omega | decide, by decide⟩ ?_
        refine x_iload dX10_places_29 rfl ?_
        refine x_aload dX10_places_30 rfl ?_
        refine x_get fX10_96 dX10_places_31 (by first | assumption | rfl | exact up_same | exact (up_ne (by omega)).trans (by assumption) | exact (up_ne (by assumption)).trans (by assumption)) ?_
        refine x_k dX10_places_34 ?_
        refine x_iadd dX10_places_35 ?_
        rw [nI_1]
        refine x_idivn dX10_places_36 (by omega) ⟨by omega, by omega⟩ ?_
        rw [en]
        refine x_istore dX10_places_37 (Nat.le_of_ble_eq_true rfl) rfl ?_
        refine x_iinc (v := (-1)) dX10_places_38 rfl (by decide) (Nat.le_of_ble_eq_true rfl) rfl ?_
        refine x_goto dX10_places_41 ?_
        refine x_eq ?_ rfl ?_ (ih (by omega) _ hw2)
        · rw [← nI_add_m1]; rfl
        · rw [up_up]
  refine x_iload dX10_places_0 rfl ?_
  refine x_istore dX10_places_1 (Nat.le_of_ble_eq_true rfl) rfl ?_
  refine x_aload dX10_places_2 rfl ?_
  refine x_get fX10_104 dX10_places_3 (by first | assumption | rfl | exact up_same | exact (up_ne (by omega)).trans (by assumption) | exact (up_ne (by assumption)).trans (by assumption)) ?_
  refine x_k dX10_places_6 ?_
  refine x_isub dX10_places_7 ?_
  refine x_istore dX10_places_8 (Nat.le_of_ble_eq_true rfl) rfl ?_
  refine x_eq ?_ rfl (show h = va_up h 67 (ia 9 wh) by rw [up_id a67]) (all (d_N d) (Nat.le_refl _) wh (fun p h1 h2 => absurd h1 (by omega)))
  rw [Nat.sub_self, Nat.pow_zero, Nat.div_one]; rfl
theorem m_runRow {r : Nat} (hM : MW h d) (hR : MR h d) (hP : MP h d r) (hd : okD d) : Rn Γ mX10_runs [.ref 57, .int (nI (d_ns d))] h sz (fun v h' sz' => v = none ∧ sz = sz' ∧ MW h' d ∧ MR h' d ∧ MP h' d r ∧ MQw h' d (rwR d r) ∧ ∀ k, k ≠ 57 → (k < 68 ∨ 71 < k) → h' k = h k) := by
  have hH8 : d_H d ≤ 8 := (hN_ok hd.1.1).1
  have hP8 : d_N d ≤ 8 := (pN_ok hd.1.2.1).1
  obtain ⟨ll, ow, pr, kd, pl, r57, r60, r61, r62, r63, ro, rp⟩ := id hR
  obtain ⟨wh, p67, hwh⟩ := id hP
  obtain ⟨hs, pe, l2, ty, tx, ow2, pr2, kd2, pl2, lw, wh2, os, kp, tm, ls, lk, af, wt, be, th, fr, it, mv, ⟨-, a58, a59, -, -, -, -⟩, ⟨a64, a65, a66, a67, a68, a69, a70, a71⟩, a3, a4, a5, ⟨l0, l1, l3⟩, a7, a8⟩ := id hM
  refine (r_runs (H := d_H d) (N := d_N d) (pos := rwP d r) (own := ownN (d_b0 d)) (sh := cN (d_sh d)) (sb := cN (d_sb d)) (w := (d_L d).testBit 0) (c := (d_L d).testBit 1) (o := (d_L d).testBit 2) r57 r60 a64 a65 a66 p67 a68 a69 a70 a71 (by rw [l0]; exact law_w.1) (by rw [l1]; exact law_w.1) (by rw [l3]; exact law_w.2) (fun p hp => ⟨hwh p hp, by have := rwP_lt d r p; omega⟩) hH8 hP8 (fun j hj => ⟨(ro j hj).1, (ownN_ok hd.1.1 hj).2⟩) (fun i hi => ⟨(hd.2.1.2.2 i (by omega)).1.1, (hd.2.1.2.2 i (by omega)).1.2, (hd.2.1.2.2 i (by omega)).2.1, (hd.2.1.2.2 i (by omega)).2.2⟩) hd.2.1.2.1).mono ?_
  rintro _ _ _ ⟨rfl, rfl, os2, kp2, tm2, ls2, ll2, g1, g2, rfl⟩
  refine ⟨rfl, rfl, ⟨_, _, ll2, ty, tx, ow, pr, kd, pl, lw, wh, os2, kp2, tm2, ls2, lk, af, wt, be, th, fr, it, mv, ⟨rfl, a58, a59, r60, r61, r62, r63⟩, ⟨a64, a65, a66, p67, rfl, rfl, rfl, rfl⟩, a3, a4, a5, ⟨l0, l1, l3⟩, a7, a8⟩, ⟨ll2, ow, pr, kd, pl, rfl, r60, r61, r62, r63, ro, rp⟩, ⟨wh, p67, hwh⟩, ⟨ll2, os2, kp2, tm2, rfl, rfl, rfl, rfl, g1⟩, ?_⟩
  intro j h57 hj
  simp only [va_up]
  (repeat' split) <;> first | rfl | omega
end MRow
