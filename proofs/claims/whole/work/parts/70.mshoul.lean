/-! should, of the reference: its pieces -/
section MShA
variable {Γ : GX} {h : Hp} {sz : Nat} {d : DT}
theorem m_readsK (hM : MW h d) (hd : okD d) : Rn Γ mX10_reads [.ref 57] h sz (fun r h' sz' => r = none ∧ sz = sz' ∧ MW h' d ∧ MR h' d ∧ frM h h' ∧ ∀ k, 63 < k → h' k = h k) := by
  obtain ⟨hs, pe, ll, ty, tx, ow, pr, kd, pl, lw, wh, os, kp, tm, ls, lk, af, wt, be, th, fr, it, mv, ⟨a57, a58, a59, a60, a61, a62, a63⟩, a2, a3, a4, ⟨t0, t1, t2, t3⟩, a6, a7, a8⟩ := hM
  obtain ⟨⟨n0, n1, -, -⟩, -, -, -⟩ := hd
  have c0 : ∀ i, i < d_n0 d → tx i = d_b0 d i := fun i hi => t2 i (by omega)
  have c1 : ∀ i, i < d_n1 d → (fun i => tx (30 + i)) i = d_b1 d i := fun i hi => t3 i (by omega)
  refine (r_reads (b1 := fun i => tx (30 + i)) rfl a57 a58 a59 a60 a61 a62 a63 t0 t1 n0 n1).mono ?_
  rintro _ _ _ ⟨rfl, rfl, ow2, pr2, kd2, pl2, hst, rfl⟩
  have eH : hN (d_n0 d) tx = d_H d := hN_congr c0
  have eN : pN (d_n1 d) (fun i => tx (30 + i)) = d_N d := pN_congr c1
  obtain ⟨s1, s2⟩ := stF_congr n0 n1 c0 c1 hst
  have hH8 := (hN_ok (b := d_b0 d) n0).1
  refine ⟨rfl, rfl, ⟨_, _, _, ty, tx, ow2, pr2, kd2, pl2, lw, wh, os, kp, tm, ls, lk, af, wt, be, th, fr, it, mv, ⟨rfl, a58, a59, rfl, rfl, rfl, rfl⟩, a2, a3, a4, ⟨t0, t1, t2, t3⟩, a6, a7, a8⟩, ?_, ?_, ?_⟩
  · refine ⟨ll, ow2, pr2, kd2, pl2, ?_, rfl, rfl, rfl, rfl, fun j hj => ?_, fun p hp => ?_⟩
    · rw [← eH, ← eN]; rfl
    · have := s1 j hj
      rw [this.1, this.2]; exact ⟨(ownN_ok n0 hj).1, (priN_ok n0 hj).1⟩
    · have := s2 p hp
      rw [this.1, this.2]
      refine ⟨(kinN_ok n1 hp).1, ?_⟩
      have e := (posN_ok hH8 (d_b1 d) p).1
      rw [e]; rfl
  · exact (by intro k hk; simp only [va_up]; (repeat' split) <;> first | rfl | omega)
  · intro k hk
    simp only [va_up]
    (repeat' split) <;> first | rfl | omega
def MWh (h : Hp) (d : DT) : Prop := ∃ wh : Nat → Int32, h 67 = ia 9 wh ∧ ∀ p, p < d_N d → wh p = nI (posN (d_H d) (d_b1 d) p) - 1
theorem m_laysK {k : Nat} (hM : MW h d) (hd : okD d) (hk : k ≤ d_ns d) : Rn Γ mX10_lays [.ref 57, .int (nI k)] h sz (fun r h' sz' => r = none ∧ sz = sz' ∧ MW h' d ∧ MR h' d ∧ frM h h' ∧ MS h' d k ∧ MWh h' d ∧ ∀ k, 71 < k → h' k = h k) := by
  refine x_enter 1 (by decide) rfl ?_
  obtain ⟨_, _, _, w57⟩ := hM.w57
  have hH8 : d_H d ≤ 8 := (hN_ok hd.1.1).1
  have hP8 : d_N d ≤ 8 := (pN_ok hd.1.2.1).1
  refine x_aload dX10_lays_0 rfl ?_
  refine x_V0q lX10_118 (Rm.of rfl) (cc1 := 0) (cn1 := 0) rfl rfl (Nat.le_of_ble_eq_true rfl) dX10_lays_1 (by first | assumption | rfl | exact up_same | exact (up_ne (by omega)).trans (by assumption) | exact (up_ne (by assumption)).trans (by assumption) | exact (up_ne (by omega)).trans up_same | exact (up_ne (by omega)).trans ((up_ne (by omega)).trans (by assumption))) (m_readsK hM hd) ?_
  rintro _ h1 _ ⟨rfl, rfl, hM1, hR1, hF1, hG1⟩
  refine x_k dX10_lays_4 ?_
  refine x_istore dX10_lays_5 (Nat.le_of_ble_eq_true rfl) rfl ?_
  obtain ⟨ll, ow, pr, kd, pl, r57, r60, r61, r62, r63, ro, rp⟩ := id hR1
  obtain ⟨hs, pe, l2, ty, tx, ow2, pr2, kd2, pl2, lw, wh, os, kp, tm, ls, lk, af, wt, be, th, fr, it, mv, ⟨-, a58, a59, -, -, -, -⟩, ⟨a64, a65, a66, a67, a68, a69, a70, a71⟩, a3, a4, a5, ⟨l0, l1, l3⟩, a7, a8⟩ := hM1
  refine x_eq rfl rfl (show h1 = va_up h1 67 (ia 9 (filG wh pl 0)) by rw [filG_0, up_id a67]) (loopUp (P := fun p => Ex Γ mX10_lays _ 0 0 6 [.ref 57, .int (nI k), .int (nI p)] [] (va_up h1 67 (ia 9 (filG wh pl p))) sz) (d_N d) ?_ (fun p hp ih => ?_) 0 (Nat.zero_le _))
  · refine x_iload dX10_lays_6 rfl ?_
    refine x_aload dX10_lays_7 rfl ?_
    refine x_get fX10_104 dX10_lays_8 (by first | assumption | rfl | exact up_same | exact (up_ne (by omega)).trans (by assumption) | exact (up_ne (by assumption)).trans (by assumption) | exact (up_ne (by omega)).trans up_same | exact (up_ne (by omega)).trans ((up_ne (by omega)).trans (by assumption))) ?_
    refine x_icmp_ge dX10_lays_11 (fun b11 => ?_) (fun b11 => ?_)
    · refine x_aload dX10_lays_32 rfl ?_
      refine x_iload dX10_lays_33 rfl ?_
      refine x_V1q lX10_162 (Rm.of rfl) (cc1 := 0) (cn1 := 0) rfl rfl (Nat.le_of_ble_eq_true rfl) dX10_lays_34 (by first | assumption | rfl | exact up_same | exact (up_ne (by omega)).trans (by assumption) | exact (up_ne (by assumption)).trans (by assumption) | exact (up_ne (by omega)).trans up_same | exact (up_ne (by omega)).trans ((up_ne (by omega)).trans (by assumption))) (r_runs (H := d_H d) (N := d_N d) (pos := posN (d_H d) (d_b1 d)) (own := ownN (d_b0 d)) (sh := cN (d_sh d)) (sb := cN (d_sb d)) (w := (d_L d).testBit 0) (c := (d_L d).testBit 1) (o := (d_L d).testBit 2) r57 r60 a64 a65 a66 rfl a68 a69 a70 a71 (by rw [l0]; exact law_w.1) (by rw [l1]; exact law_w.1) (by rw [l3]; exact law_w.2) (fun p hp => ⟨by rw [filG_lt hp]; exact (rp p hp).2, by have := (posN_ok hH8 (d_b1 d) p).2; omega⟩) hH8 hP8 (fun j hj => ⟨(ro j hj).1, (ownN_ok hd.1.1 hj).2⟩) (fun i hi => ⟨(hd.2.1.2.2 i (by omega)).1.1, (hd.2.1.2.2 i (by omega)).1.2, (hd.2.1.2.2 i (by omega)).2.1, (hd.2.1.2.2 i (by omega)).2.2⟩) (by have := hd.2.1.2.1; omega)) ?_
      rintro _ _ _ ⟨rfl, rfl, os2, kp2, tm2, ls2, ll2, g1, g2, rfl⟩
      refine x_vret dX10_lays_37 rfl (Nat.zero_le _) (Nat.zero_le _) ?_
      refine ⟨rfl, rfl, ⟨_, _, ll2, ty, tx, ow, pr, kd, pl, lw, _, os2, kp2, tm2, ls2, lk, af, wt, be, th, fr, it, mv, ⟨rfl, a58, a59, r60, r61, r62, r63⟩, ⟨a64, a65, a66, rfl, rfl, rfl, rfl, rfl⟩, a3, a4, a5, ⟨l0, l1, l3⟩, a7, a8⟩, ⟨ll2, ow, pr, kd, pl, rfl, r60, r61, r62, r63, ro, rp⟩, hF1.trans (by intro k hk; simp only [va_up]; (repeat' split) <;> first | rfl | omega), ⟨ll2, os2, kp2, tm2, rfl, rfl, rfl, rfl, g1, g2⟩, ⟨_, rfl, fun p hp => by rw [filG_lt hp]; exact (rp p hp).2⟩, ?_⟩
      intro j hj
      refine Eq.trans ?_ (hG1 j (by omega))
      simp only [va_up]
      (repeat' split) <;> first | rfl | omega
    · exact absurd (Int32.le_refl _) b11
  · refine x_iload dX10_lays_6 rfl ?_
    refine x_aload dX10_lays_7 rfl ?_
    refine x_get fX10_104 dX10_lays_8 (by first | assumption | rfl | exact up_same | exact (up_ne (by omega)).trans (by assumption) | exact (up_ne (by assumption)).trans (by assumption) | exact (up_ne (by omega)).trans up_same | exact (up_ne (by omega)).trans ((up_ne (by omega)).trans (by assumption))) ?_
    refine x_icmp_ge dX10_lays_11 (fun b11 => ?_) (fun b11 => ?_)
    · exact absurd b11 (nI_ge hp (by omega))
    · refine x_aload dX10_lays_14 rfl ?_
      refine x_get fX10_37 dX10_lays_15 (by first | assumption | rfl | exact up_same | exact (up_ne (by omega)).trans (by assumption) | exact (up_ne (by assumption)).trans (by assumption) | exact (up_ne (by omega)).trans up_same | exact (up_ne (by omega)).trans ((up_ne (by omega)).trans (by assumption))) ?_
      refine x_iload dX10_lays_18 rfl ?_
      refine x_aload dX10_lays_19 rfl ?_
      refine x_get fX10_25 dX10_lays_20 (by first | assumption | rfl | exact up_same | exact (up_ne (by omega)).trans (by assumption) | exact (up_ne (by assumption)).trans (by assumption) | exact (up_ne (by omega)).trans up_same | exact (up_ne (by omega)).trans ((up_ne (by omega)).trans (by assumption))) ?_
      refine x_iload dX10_lays_23 rfl ?_
      refine x_ialdn dX10_lays_24 (by first | assumption | rfl | exact up_same | exact (up_ne (by omega)).trans (by assumption) | exact (up_ne (by assumption)).trans (by assumption) | exact (up_ne (by omega)).trans up_same | exact (up_ne (by omega)).trans ((up_ne (by omega)).trans (by assumption))) ⟨by first | omega | decide, by decide⟩ ?_
      refine x_iastn dX10_lays_25 (by first | assumption | rfl | exact up_same | exact (up_ne (by omega)).trans (by assumption) | exact (up_ne (by assumption)).trans (by assumption) | exact (up_ne (by omega)).trans up_same | exact (up_ne (by omega)).trans ((up_ne (by omega)).trans (by assumption))) ⟨by first | omega | decide, by decide⟩ ?_
      refine x_inc1 dX10_lays_26 rfl (Nat.le_of_ble_eq_true rfl) rfl ?_
      refine x_goto dX10_lays_29 ?_
      rw [up_up, filG_id _ pl _ rfl]
      exact ih
theorem way_s (own : Nat → Nat) (j : Nat) : wayOf (j + 1) own = wayOf j own + own j * 8 ^ j := rfl
theorem r_stateNow {H : Nat} {N sa' ll fa fi : Int32} {os : Nat → Int32} {own : Nat → Nat} (h57 : h 57 = cM (nI H) N sa' ll fa fi) (h68 : h 68 = ia 9 os) (hH : H ≤ 8) (ho : ∀ j, j < H → os j = nI (own j)) : Re Γ mX10_stateNow [.ref 57] h sz (some (.int (nI (wayOf H own)))) h sz := by
  refine x_enter 2 (by decide) rfl ?_
  have all : ∀ j, j ≤ H → ∀ x, x * 8 ^ j + wayOf j own = wayOf H own → Ex Γ mX10_stateNow (gx_Z Γ mX10_stateNow (fun r' h' sz' => r' = some (.int (nI (wayOf H own))) ∧ h' = h ∧ sz' = sz)) 0 0 9 [.ref 57, .int (nI x), .int (nI j - 1)] [] h sz := by
    intro j
    induction j with
    | zero =>
      intro hj x hx
      have ex : x = wayOf H own := by rw [← hx, Nat.pow_zero, Nat.mul_one]; rfl
      refine x_iload dX10_stateNow_9 rfl ?_
      refine x_if_lt dX10_stateNow_10 (fun b10 => ?_) (fun b10 => ?_)
      · refine x_iload dX10_stateNow_31 rfl ?_
        refine x_iret (ty := .int) dX10_stateNow_32 rfl rfl (Nat.zero_le _) (Nat.zero_le _) ?_
        exact ⟨by rw [ex], rfl, rfl⟩
      · exact absurd (by decide) b10
    | succ j ih =>
      intro hj x hx
      rw [nI_m1]
      have hx2 : (8 * x + own j) * 8 ^ j + wayOf j own = wayOf H own := by
        rw [← hx, way_s, Nat.pow_succ, Nat.add_mul, Nat.mul_comm 8 x, Nat.mul_assoc, Nat.mul_comm 8 (8 ^ j)]; omega
      refine x_iload dX10_stateNow_9 rfl ?_
      refine x_if_lt dX10_stateNow_10 (fun b10 => ?_) (fun b10 => ?_)
      · exact absurd b10 (nI_pos (by omega))
      · refine x_k dX10_stateNow_13 ?_
        refine x_iload dX10_stateNow_15 rfl ?_
        refine x_imul dX10_stateNow_16 ?_
        refine x_aload dX10_stateNow_17 rfl ?_
        refine x_get fX10_40 dX10_stateNow_18 (by first | assumption | rfl | exact up_same | exact (up_ne (by omega)).trans (by assumption) | exact (up_ne (by assumption)).trans (by assumption) | exact (up_ne (by omega)).trans up_same | exact (up_ne (by omega)).trans ((up_ne (by omega)).trans (by assumption))) ?_
        refine x_iload dX10_stateNow_21 rfl ?_
        refine x_ialdn dX10_stateNow_22 (by first | assumption | rfl | exact up_same | exact (up_ne (by omega)).trans (by assumption) | exact (up_ne (by assumption)).trans (by assumption) | exact (up_ne (by omega)).trans up_same | exact (up_ne (by omega)).trans ((up_ne (by omega)).trans (by assumption))) ⟨by first | omega | decide, by decide⟩ ?_
        refine x_iadd dX10_stateNow_23 ?_
        rw [ho j (by omega), show (8 : Int32) = nI 8 from rfl, pk_mul, nI_add]
        refine x_istore dX10_stateNow_24 (Nat.le_of_ble_eq_true rfl) rfl ?_
        refine x_iinc (v := (-1)) dX10_stateNow_25 rfl (by decide) (Nat.le_of_ble_eq_true rfl) rfl ?_
        refine x_goto dX10_stateNow_28 ?_
        refine x_eq ?_ rfl rfl (ih (by omega) (8 * x + own j) hx2)
        rw [← nI_add_m1]; rfl
  refine x_k dX10_stateNow_0 ?_
  refine x_istore dX10_stateNow_1 (Nat.le_of_ble_eq_true rfl) rfl ?_
  refine x_aload dX10_stateNow_2 rfl ?_
  refine x_get fX10_96 dX10_stateNow_3 (by first | assumption | rfl | exact up_same | exact (up_ne (by omega)).trans (by assumption) | exact (up_ne (by assumption)).trans (by assumption) | exact (up_ne (by omega)).trans up_same | exact (up_ne (by omega)).trans ((up_ne (by omega)).trans (by assumption))) ?_
  refine x_k dX10_stateNow_6 ?_
  refine x_isub dX10_stateNow_7 ?_
  refine x_istore dX10_stateNow_8 (Nat.le_of_ble_eq_true rfl) rfl ?_
  exact x_eq rfl rfl rfl (all H (Nat.le_refl _) 0 (by rw [Nat.zero_mul, Nat.zero_add]))
theorem r_ownsBy {H N way : Nat} {sa' ll fa fi : Int32} {own : Nat → Nat} {owr ow kp tm : Nat → Int32} (h57 : h 57 = cM (nI H) (nI N) sa' ll fa fi) (h60 : h 60 = ia 9 owr) (h68 : h 68 = ia 9 ow) (h69 : h 69 = ia 9 kp) (h70 : h 70 = ia 9 tm) (hH : H ≤ 8) (how : ∀ j, j < H → owr j = nI (own j) ∧ own j < 8) (hw : way < 4096) : Rn Γ mX10_ownsBy [.ref 57, .int (nI way)] h sz (fun r h' sz' => r = none ∧ sz = sz' ∧ ∃ ow2 kp2 tm2 : Nat → Int32, h' = va_up (va_up (va_up h 69 (ia 9 kp2)) 70 (ia 9 tm2)) 68 (ia 9 ow2) ∧ mkF H (wown way, fun p => p, fun _ => 0, 0) ow2 kp2 tm2) := by
  refine x_enter 2 (by decide) rfl ?_
  refine x_aload dX10_ownsBy_0 rfl ?_
  refine x_V0v lX10_153 (Rm.of rfl) (cc1 := 0) (cn1 := 0) rfl rfl (Nat.le_of_ble_eq_true rfl) dX10_ownsBy_1 (by first | assumption | rfl | exact up_same | exact (up_ne (by omega)).trans (by assumption) | exact (up_ne (by assumption)).trans (by assumption) | exact (up_ne (by omega)).trans up_same | exact (up_ne (by omega)).trans ((up_ne (by omega)).trans (by assumption))) (r_begins (own := own) h57 h60 h68 h69 h70 hH how) ?_
  refine x_iload dX10_ownsBy_4 rfl ?_
  refine x_istore dX10_ownsBy_5 (Nat.le_of_ble_eq_true rfl) rfl ?_
  refine x_k dX10_ownsBy_6 ?_
  refine x_istore dX10_ownsBy_7 (Nat.le_of_ble_eq_true rfl) rfl ?_
  have hdl : ∀ j, way / 8 ^ j < 4096 := fun j => Nat.lt_of_le_of_lt (Nat.div_le_self _ _) hw
  refine x_eq (show _ = [.ref 57, .int (nI way), .int (nI (way / 8 ^ 0)), .int (nI 0)] by rw [Nat.pow_zero, Nat.div_one]; rfl) rfl (show _ = va_up (va_up (va_up h 69 (ia 9 (filG kp (fun p => nI p) 9))) 70 (ia 9 (filF tm 0 9))) 68 (ia 9 (filG (filG ow owr H) (fun j => nI (wown way j)) 0)) by rw [filG_0]) (loopUp (P := fun j => Ex Γ mX10_ownsBy _ 0 0 8 [.ref 57, .int (nI way), .int (nI (way / 8 ^ j)), .int (nI j)] [] (va_up (va_up (va_up h 69 (ia 9 (filG kp (fun p => nI p) 9))) 70 (ia 9 (filF tm 0 9))) 68 (ia 9 (filG (filG ow owr H) (fun j => nI (wown way j)) j))) sz) H ?_ (fun j hj ih => ?_) 0 (Nat.zero_le _))
  · refine x_iload dX10_ownsBy_8 rfl ?_
    refine x_aload dX10_ownsBy_9 rfl ?_
    refine x_get fX10_96 dX10_ownsBy_10 (by first | assumption | rfl | exact up_same | exact (up_ne (by omega)).trans (by assumption) | exact (up_ne (by assumption)).trans (by assumption) | exact (up_ne (by omega)).trans up_same | exact (up_ne (by omega)).trans ((up_ne (by omega)).trans (by assumption))) ?_
    refine x_icmp_ge dX10_ownsBy_13 (fun b13 => ?_) (fun b13 => ?_)
    · refine x_vret dX10_ownsBy_37 rfl (Nat.zero_le _) (Nat.zero_le _) ?_
      exact ⟨rfl, rfl, _, _, _, rfl, fun j hj => ⟨filG_lt hj, wown_lt _ _⟩, fun p hp => ⟨filG_lt (by omega), hp⟩, fun p hp => if_pos (by omega)⟩
    · exact absurd (Int32.le_refl _) b13
  · have hj2 := hdl j
    have ed : way / 8 ^ (j + 1) = way / 8 ^ j / 8 := by rw [Nat.pow_succ, Nat.div_div_eq_div_mul]
    rw [ed] at ih
    refine x_iload dX10_ownsBy_8 rfl ?_
    refine x_aload dX10_ownsBy_9 rfl ?_
    refine x_get fX10_96 dX10_ownsBy_10 (by first | assumption | rfl | exact up_same | exact (up_ne (by omega)).trans (by assumption) | exact (up_ne (by assumption)).trans (by assumption) | exact (up_ne (by omega)).trans up_same | exact (up_ne (by omega)).trans ((up_ne (by omega)).trans (by assumption))) ?_
    refine x_icmp_ge dX10_ownsBy_13 (fun b13 => ?_) (fun b13 => ?_)
    · exact absurd b13 (nI_ge hj (by omega))
    · refine x_aload dX10_ownsBy_16 rfl ?_
      refine x_get fX10_40 dX10_ownsBy_17 (by first | assumption | rfl | exact up_same | exact (up_ne (by omega)).trans (by assumption) | exact (up_ne (by assumption)).trans (by assumption) | exact (up_ne (by omega)).trans up_same | exact (up_ne (by omega)).trans ((up_ne (by omega)).trans (by assumption))) ?_
      refine x_iload dX10_ownsBy_20 rfl ?_
      refine x_iload dX10_ownsBy_21 rfl ?_
      refine x_k dX10_ownsBy_22 ?_
      refine x_iremn (d := 8) dX10_ownsBy_24 (by omega) (by decide) ?_
      refine x_iastn dX10_ownsBy_25 (by first | assumption | rfl | exact up_same | exact (up_ne (by omega)).trans (by assumption) | exact (up_ne (by assumption)).trans (by assumption) | exact (up_ne (by omega)).trans up_same | exact (up_ne (by omega)).trans ((up_ne (by omega)).trans (by assumption))) ⟨by first | omega | decide, by decide⟩ ?_
      refine x_iload dX10_ownsBy_26 rfl ?_
      refine x_k dX10_ownsBy_27 ?_
      refine x_idivn (d := 8) dX10_ownsBy_29 (by omega) (by decide) ?_
      refine x_istore dX10_ownsBy_30 (Nat.le_of_ble_eq_true rfl) rfl ?_
      refine x_inc1 dX10_ownsBy_31 rfl (Nat.le_of_ble_eq_true rfl) rfl ?_
      refine x_goto dX10_ownsBy_34 ?_
      refine x_eq rfl rfl ?_ ih
      rw [up_up, filG_id (v := nI (way / 8 ^ j % 8)) _ (fun j => nI (wown way j)) _ rfl]
end MShA
