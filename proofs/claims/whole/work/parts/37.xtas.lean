/-! the class: worth, like, fact, forget -/
theorem nm9 : (-9 : Int32).toInt = -9 := by decide
theorem n9 : (9 : Int32).toInt = 9 := by decide
section XTas
variable {Γ : GX} {h : Hp} {sz : Nat} {d d0 : DT}
/-- the deeds ask for street, law only -/
theorem XD.to {d' : DT} (hD : XD h sz d) (e1 : d'.1 = d.1) (e2 : d'.2.1 = d.2.1) : XD h sz d' := by
  obtain ⟨x, y, z⟩ := d
  obtain ⟨x', y', z'⟩ := d'
  obtain rfl : x' = x := e1
  obtain rfl : y' = y := e2
  obtain ⟨fe, qu, wt, fi, so, dn, ln, f, g, kf, tf, a1, a2⟩ := hD
  refine ⟨fe, qu, wt, fi, so, dn, ln, f, g, kf, tf, a1, ?_⟩
  rcases a2 with b | ⟨b1, x, b2, b3, b4⟩
  · exact Or.inl b
  · have en : ∀ n, bfs (x', y', z') n = bfs (x', y', z) n := fun n => rfl
    exact Or.inr ⟨b1, x, b2, b3, fun i hi => by rw [en]; exact b4 i hi⟩
theorem XK.to {d' : DT} (hK : XK h d) (e1 : d'.1 = d.1) (e2 : d'.2.1 = d.2.1) (e3 : d_fi d' = d_fi d) : XK h d' := by
  obtain ⟨x, y, z⟩ := d
  obtain ⟨x', y', z'⟩ := d'
  obtain rfl : x' = x := e1
  obtain rfl : y' = y := e2
  obtain ⟨ss, so, dn, ln, f, g, kf, tf, l4, a⟩ := hK
  refine ⟨ss, so, dn, ln, f, g, kf, tf, ?_, a⟩
  rw [e3]; exact l4
theorem XK.of {h' : Hp} (hK : XK h d) (e : ∀ k, k = 4 ∨ (20 ≤ k ∧ k ≤ 24) → h' k = h k) : XK h' d := by
  obtain ⟨ss, so, dn, ln, f, g, kf, tf, l4, l20, l21, l22, l23, l24, a⟩ := hK
  exact ⟨ss, so, dn, ln, f, g, kf, tf, (e 4 (by decide)).trans l4, (e 20 (by decide)).trans l20, (e 21 (by decide)).trans l21, (e 22 (by decide)).trans l22, (e 23 (by decide)).trans l23, (e 24 (by decide)).trans l24, a⟩
theorem c_worth (a b v : Int32) (hX : XW h sz d) : Rn Γ mX9_worth [.ref 4, .int a, .int b, .int v] h sz (qW h sz (dWorth d a b v) (aWorth d a b v)) := by
  refine x_enter 0 (by decide) rfl ?_
  obtain ⟨hA, hK, hR, hD⟩ := id hX
  obtain ⟨ow, pr, od, kd, sp, ins, a1, a2, a3, ⟨a25, a26, a27⟩, a5, a6, a7⟩ := id hA
  obtain ⟨ss, h4⟩ := hK.w4
  have J12 : cTaste a b v → Ex Γ mX9_worth (gx_Z Γ mX9_worth (qW h sz (dWorth d a b v) (aWorth d a b v))) 0 0 12 [.ref 4, .int a, .int b, .int v] [] h sz := by
    intro hc
    obtain ⟨q, hq, rfl⟩ := upto (n := 7) hc.1.1 hc.1.2 (by omega)
    obtain ⟨p, hp, rfl⟩ := upto (n := 7) hc.2.1.1 hc.2.1.2 (by omega)
    rw [aWorth, dWorth, if_pos hc, if_pos hc, tix, nI_clamp (by omega), nI_clamp (by omega)]
    obtain ⟨en, pe, sp', si, fi, rk, wk, rs, fr, wy, so, dn, ln, f, g, kf, tf, is, ats, st, bk, cn, ⟨a28, a29, a30, a31, a32, a33⟩, ⟨a34, a35, a36, a37, a38⟩, r3⟩ := id hR
    refine x_aload dX9_worth_12 rfl ?_
    refine x_get fX9_49 dX9_worth_13 (by first | assumption | rfl) ?_
    refine x_V0v lX9_181 (Rm.of rfl) (cc1 := 0) (cn1 := 0) rfl rfl (Nat.le_of_ble_eq_true rfl) dX9_worth_16 (by first | assumption | rfl) (r_forgetBest a28 a37) ?_
    refine x_aload dX9_worth_19 rfl ?_
    refine x_get fX9_42 dX9_worth_20 (by first | assumption | rfl) ?_
    refine x_get fX9_184 dX9_worth_23 (by first | assumption | rfl) ?_
    refine x_iload dX9_worth_26 rfl ?_
    refine x_iload dX9_worth_27 rfl ?_
    refine x_iload dX9_worth_28 rfl ?_
    refine x_S4i lX9_187 (Rm.of rfl) (cc1 := 0) (cn1 := 0) rfl rfl (Nat.le_of_ble_eq_true rfl) dX9_worth_29 (r_swap_26 (q := q) (p := p) a26 (by omega) (by omega)) ?_
    refine x_iret (ty := .int) dX9_worth_32 rfl rfl (Nat.zero_le _) (Nat.zero_le _) ?_
    refine ⟨rfl, Nat.le_refl _, ⟨⟨ow, pr, od, kd, sp, ins, a1, a2, a3, ⟨a25, rfl, a27⟩, a5, a6, a7⟩, (hK.of (fun k hk => by simp only [va_up]; (repeat' split) <;> first | rfl | omega)).to rfl rfl rfl, ⟨en, pe, sp', si, fi, rk, wk, rs, fr, wy, so, dn, ln, f, g, kf, tf, is, ats, st, _, cn, ⟨a28, a29, a30, a31, a32, a33⟩, ⟨a34, a35, a36, rfl, a38⟩, ?_⟩, (hD.of (fun k hk => by simp only [va_up]; (repeat' split) <;> first | rfl | omega)).to rfl rfl⟩, fun k hk => by simp only [va_up]; (repeat' split) <;> first | rfl | omega⟩
    have e85 : ∀ k, 85 ≤ k → (va_up (va_up h 37 (ia 4 (filF bk (-1) 4))) 26 (ia 64 (upd (d_w d) (8 * q + p) v))) k = h k := fun k hk => by simp only [va_up]; rw [if_neg (by omega), if_neg (by omega)]
    have en_of : ∀ x, enOK h sz en x → enOK (va_up (va_up h 37 (ia 4 (filF bk (-1) 4))) 26 (ia 64 (upd (d_w d) (8 * q + p) v))) sz en x := fun x ⟨k, z1, z2, z3⟩ => ⟨k, z1, z2, (e85 k z2.1).trans z3⟩
    rcases r3 with ⟨b1, b2, b3, b4, b5⟩ | ⟨b1, x, b2, c1, c2, c3, c4⟩
    · refine Or.inl ⟨b1, b2, b3, fun p hp => if_pos hp, ?_⟩
      rcases b5 with b5 | ⟨x, b5⟩
      · exact Or.inl b5
      · exact Or.inr ⟨x, en_of x b5⟩
    · exact Or.inr ⟨b1, x, en_of x b2, c1, fun p hp => Or.inl (if_pos hp), c3, c4⟩
  refine x_iload dX9_worth_0 rfl ?_
  refine x_iload dX9_worth_1 rfl ?_
  refine x_iload dX9_worth_2 rfl ?_
  refine x_S3i lX9_176 (Rm.of rfl) (cc1 := 0) (cn1 := 0) rfl rfl (Nat.le_of_ble_eq_true rfl) dX9_worth_3 (r_noTaste a b v) ?_
  refine x_if_eq dX9_worth_6 (fun b6 => ?_) (fun b6 => ?_)
  · try simp only [i01, Classical.not_not] at b6
    exact J12 (by
      simp only [not_or] at b6
      refine ⟨?_, ?_, b6.2.2.1, ?_⟩
      all_goals simp only [Int32.lt_iff_toInt_lt, Int32.le_iff_toInt_le, n0t, n7, n8, n9, nm9] at *
      all_goals omega)
  · try simp only [i01, Classical.not_not] at b6
    refine x_ldc kX9_180 dX9_worth_9 ?_
    refine x_iret (ty := .int) dX9_worth_11 rfl rfl (Nat.zero_le _) (Nat.zero_le _) ?_
    have hc : ¬ cTaste a b v := by
      rintro ⟨⟨z1, z2⟩, ⟨z3, z4⟩, z5, z6, z7⟩
      simp only [Int32.lt_iff_toInt_lt, Int32.le_iff_toInt_le, n0t, n7, n8, n9, nm9] at *
      rcases b6 with y | y | y | y
      all_goals first | exact z5 y | omega
    rw [dWorth, aWorth, if_neg hc, if_neg hc]
    exact ⟨rfl, Nat.le_refl _, hX, fun _ _ => rfl⟩
theorem c_like (a b v : Int32) (hX : XW h sz d) : Rn Γ mX9_like [.ref 4, .int a, .int b, .int v] h sz (qW h sz (dLike d a b v) (aLike d a b v)) := by
  refine x_enter 0 (by decide) rfl ?_
  obtain ⟨hA, hK, hR, hD⟩ := id hX
  obtain ⟨ow, pr, od, kd, sp, ins, a1, a2, a3, ⟨a25, a26, a27⟩, a5, a6, a7⟩ := id hA
  obtain ⟨ss, h4⟩ := hK.w4
  have J12 : cTaste a b v → Ex Γ mX9_like (gx_Z Γ mX9_like (qW h sz (dLike d a b v) (aLike d a b v))) 0 0 12 [.ref 4, .int a, .int b, .int v] [] h sz := by
    intro hc
    obtain ⟨q, hq, rfl⟩ := upto (n := 7) hc.1.1 hc.1.2 (by omega)
    obtain ⟨p, hp, rfl⟩ := upto (n := 7) hc.2.1.1 hc.2.1.2 (by omega)
    rw [aLike, dLike, if_pos hc, if_pos hc, tix, nI_clamp (by omega), nI_clamp (by omega)]
    obtain ⟨en, pe, sp', si, fi, rk, wk, rs, fr, wy, so, dn, ln, f, g, kf, tf, is, ats, st, bk, cn, ⟨a28, a29, a30, a31, a32, a33⟩, ⟨a34, a35, a36, a37, a38⟩, r3⟩ := id hR
    refine x_aload dX9_like_12 rfl ?_
    refine x_get fX9_49 dX9_like_13 (by first | assumption | rfl) ?_
    refine x_V0v lX9_191 (Rm.of rfl) (cc1 := 0) (cn1 := 0) rfl rfl (Nat.le_of_ble_eq_true rfl) dX9_like_16 (by first | assumption | rfl) (r_forgetRest a28) ?_
    refine x_aload dX9_like_19 rfl ?_
    refine x_get fX9_42 dX9_like_20 (by first | assumption | rfl) ?_
    refine x_get fX9_194 dX9_like_23 (by first | assumption | rfl) ?_
    refine x_iload dX9_like_26 rfl ?_
    refine x_iload dX9_like_27 rfl ?_
    refine x_iload dX9_like_28 rfl ?_
    refine x_S4i lX9_187 (Rm.of rfl) (cc1 := 0) (cn1 := 0) rfl rfl (Nat.le_of_ble_eq_true rfl) dX9_like_29 (r_swap_27 (q := q) (p := p) a27 (by omega) (by omega)) ?_
    refine x_iret (ty := .int) dX9_like_32 rfl rfl (Nat.zero_le _) (Nat.zero_le _) ?_
    refine ⟨rfl, Nat.le_refl _, ⟨⟨ow, pr, od, kd, sp, ins, a1, a2, a3, ⟨a25, a26, rfl⟩, a5, a6, a7⟩, (hK.of (fun k hk => by simp only [va_up]; (repeat' split) <;> first | rfl | omega)).to rfl rfl rfl, ⟨en, pe, sp', si, fi, 0, wk, rs, fr, wy, so, dn, ln, f, g, kf, tf, is, ats, st, bk, cn, ⟨rfl, a29, a30, a31, a32, a33⟩, ⟨a34, a35, a36, a37, a38⟩, ?_⟩, (hD.of (fun k hk => by simp only [va_up]; (repeat' split) <;> first | rfl | omega)).to rfl rfl⟩, fun k hk => by simp only [va_up]; (repeat' split) <;> first | rfl | omega⟩
    have e85 : ∀ k, 85 ≤ k → (va_up (va_up h 28 (cR en pe sp' si fi 0 wk rs fr wy)) 27 (ia 64 (upd (d_l d) (8 * q + p) v))) k = h k := fun k hk => by simp only [va_up]; rw [if_neg (by omega), if_neg (by omega)]
    have en_of : ∀ x, enOK h sz en x → enOK (va_up (va_up h 28 (cR en pe sp' si fi 0 wk rs fr wy)) 27 (ia 64 (upd (d_l d) (8 * q + p) v))) sz en x := fun x ⟨k, z1, z2, z3⟩ => ⟨k, z1, z2, (e85 k z2.1).trans z3⟩
    rcases r3 with ⟨b1, b2, b3, b4, b5⟩ | ⟨b1, x, b2, c1, c2, c3, c4⟩
    · refine Or.inl ⟨b1, rfl, b3, b4, ?_⟩
      rcases b5 with b5 | ⟨x, b5⟩
      · exact Or.inl b5
      · exact Or.inr ⟨x, en_of x b5⟩
    · exact Or.inr ⟨b1, x, en_of x b2, c1, c2, Or.inl rfl, c4⟩
  refine x_iload dX9_like_0 rfl ?_
  refine x_iload dX9_like_1 rfl ?_
  refine x_iload dX9_like_2 rfl ?_
  refine x_S3i lX9_176 (Rm.of rfl) (cc1 := 0) (cn1 := 0) rfl rfl (Nat.le_of_ble_eq_true rfl) dX9_like_3 (r_noTaste a b v) ?_
  refine x_if_eq dX9_like_6 (fun b6 => ?_) (fun b6 => ?_)
  · try simp only [i01, Classical.not_not] at b6
    exact J12 (by
      simp only [not_or] at b6
      refine ⟨?_, ?_, b6.2.2.1, ?_⟩
      all_goals simp only [Int32.lt_iff_toInt_lt, Int32.le_iff_toInt_le, n0t, n7, n8, n9, nm9] at *
      all_goals omega)
  · try simp only [i01, Classical.not_not] at b6
    refine x_ldc kX9_180 dX9_like_9 ?_
    refine x_iret (ty := .int) dX9_like_11 rfl rfl (Nat.zero_le _) (Nat.zero_le _) ?_
    have hc : ¬ cTaste a b v := by
      rintro ⟨⟨z1, z2⟩, ⟨z3, z4⟩, z5, z6, z7⟩
      simp only [Int32.lt_iff_toInt_lt, Int32.le_iff_toInt_le, n0t, n7, n8, n9, nm9] at *
      rcases b6 with y | y | y | y
      all_goals first | exact z5 y | omega
    rw [dLike, aLike, if_neg hc, if_neg hc]
    exact ⟨rfl, Nat.le_refl _, hX, fun _ _ => rfl⟩
theorem XR.ways {h' : Hp} {en : Value} {d' : DT} (hR : XR h sz d) (a28 : ∃ pe sp si fi rk wk rs fr wy : Int32, h 28 = cR en pe sp si fi rk wk rs fr wy ∧ h' 28 = cR en pe sp si fi rk 0 rs fr wy) (e : ∀ k, (29 ≤ k ∧ k ≤ 38) ∨ 85 ≤ k → h' k = h k) (e1 : d'.1 = d.1) (e2 : d'.2.1 = d.2.1) (e3 : d'.2.2.1 = d.2.2.1) : XR h' sz d' := by
  obtain ⟨x, y, w, z⟩ := d
  obtain ⟨x', y', w', z'⟩ := d'
  obtain rfl : x' = x := e1
  obtain rfl : y' = y := e2
  obtain rfl : w' = w := e3
  obtain ⟨en, pe, sp, si, fi, rk, wk, rs, fr, wy, so, dn, ln, f, g, kf, tf, is, ats, st, bk, cn, ⟨b28, a29, a30, a31, a32, a33⟩, ⟨a34, a35, a36, a37, a38⟩, a3⟩ := hR
  obtain ⟨_, _, _, _, _, _, _, _, _, c28, d28⟩ := a28
  rw [b28] at c28
  cases c28
  have en_of : ∀ x, enOK h sz en x → enOK h' sz en x := fun x ⟨k, z1, z2, z3⟩ => ⟨k, z1, z2, (e k (Or.inr z2.1)).trans z3⟩
  refine ⟨en, pe, sp, si, fi, rk, 0, rs, fr, wy, so, dn, ln, f, g, kf, tf, is, ats, st, bk, cn, ⟨d28, (e 29 (by decide)).trans a29, (e 30 (by decide)).trans a30, (e 31 (by decide)).trans a31, (e 32 (by decide)).trans a32, (e 33 (by decide)).trans a33⟩, ⟨(e 34 (by decide)).trans a34, (e 35 (by decide)).trans a35, (e 36 (by decide)).trans a36, (e 37 (by decide)).trans a37, (e 38 (by decide)).trans a38⟩, ?_⟩
  rcases a3 with ⟨b1, b2, b3, b4, b5⟩ | ⟨b1, x, b2, c1, c2, c3, c4⟩
  · refine Or.inl ⟨b1, b2, rfl, b4, ?_⟩
    rcases b5 with b5 | ⟨x, b5⟩
    · exact Or.inl b5
    · exact Or.inr ⟨x, en_of x b5⟩
  · exact Or.inr ⟨b1, x, en_of x b2, c1, c2, c3, Or.inl rfl⟩
theorem XR.w28 (hR : XR h sz d) : ∃ (en : Value) (pe sp si fi rk wk rs fr wy : Int32), h 28 = cR en pe sp si fi rk wk rs fr wy := by
  obtain ⟨en, pe, sp, si, fi, rk, wk, rs, fr, wy, so, dn, ln, f, g, kf, tf, is, ats, st, bk, cn, ⟨b28, -⟩, -⟩ := hR
  exact ⟨en, pe, sp, si, fi, rk, wk, rs, fr, wy, b28⟩
theorem c_fact (a b : Int32) (hX : XW h sz d) (hd : okD d) : Rn Γ mX9_fact [.ref 4, .int a, .int b] h sz (qW h sz (dFact d a b) (aFact d a b)) := by
  refine x_enter 0 (by decide) rfl ?_
  obtain ⟨hA, hK, hR, hD⟩ := id hX
  obtain ⟨ow, pr, od, kd, sp, ins, a1, a2, a3, a4, ⟨a45, a46, a47⟩, a6, a7⟩ := id hA
  obtain ⟨ss, h4⟩ := hK.w4
  obtain ⟨en, pe, sp', si, fi, rk, wk, rs, fr, wy, h28⟩ := hR.w28
  have hnf := hd.2.2.1.1
  have J17 : cEight a b → Ex Γ mX9_fact (gx_Z Γ mX9_fact (qW h sz (dFact d a b) (aFact d a b))) 0 0 17 [.ref 4, .int a, .int b] [] h sz := by
    intro hc
    by_cases hf : d_nf d < 8
    · rw [dFact, aFact, if_pos hc, if_pos hc, if_pos hf, if_pos hf]
      refine x_aload dX9_fact_17 rfl ?_
      refine x_get fX9_63 dX9_fact_18 (by first | assumption | rfl) ?_
      refine x_iload dX9_fact_21 rfl ?_
      refine x_iload dX9_fact_22 rfl ?_
      refine x_V2i lX9_272 (Rm.of rfl) (cc1 := 0) (cn1 := 0) rfl rfl (Nat.le_of_ble_eq_true rfl) dX9_fact_23 (by first | assumption | rfl) (r_Ftakes a45 a46 a47 hf) ?_
      refine x_if_ne dX9_fact_26 (fun b26 => ?_) (fun b26 => ?_)
      · try simp only [i01, Classical.not_not] at b26
        refine x_aload dX9_fact_32 rfl ?_
        refine x_get fX9_49 dX9_fact_33 (by first | assumption | rfl) ?_
        refine x_V0v lX9_273 (Rm.of rfl) (cc1 := 0) (cn1 := 0) rfl rfl (Nat.le_of_ble_eq_true rfl) dX9_fact_36 (by first | assumption | rfl) (r_forgetWays h28) ?_
        refine x_aload dX9_fact_39 rfl ?_
        refine x_get fX9_63 dX9_fact_40 (by first | assumption | rfl) ?_
        refine x_get fX9_276 dX9_fact_43 (by first | assumption | rfl) ?_
        refine x_iret (ty := .int) dX9_fact_46 rfl rfl (Nat.zero_le _) (Nat.zero_le _) ?_
        exact ⟨rfl, Nat.le_refl _, ⟨⟨ow, pr, od, kd, sp, ins, a1, a2, a3, a4, ⟨rfl, rfl, rfl⟩, a6, a7⟩, (hK.of (fun k hk => by simp only [va_up]; (repeat' split) <;> first | rfl | omega)).to rfl rfl rfl, hR.ways ⟨_, _, _, _, _, _, _, _, _, h28, rfl⟩ (fun k hk => by simp only [va_up]; (repeat' split) <;> first | rfl | omega) rfl rfl rfl, (hD.of (fun k hk => by simp only [va_up]; (repeat' split) <;> first | rfl | omega)).to rfl rfl⟩, fun k hk => by simp only [va_up]; (repeat' split) <;> first | rfl | omega⟩
      · exact absurd b26 (by decide)
    · rw [dFact, aFact, if_pos hc, if_pos hc, if_neg hf, if_neg hf]
      have e8 : d_nf d = 8 := by omega
      rw [e8] at a45
      refine x_aload dX9_fact_17 rfl ?_
      refine x_get fX9_63 dX9_fact_18 (by first | assumption | rfl) ?_
      refine x_iload dX9_fact_21 rfl ?_
      refine x_iload dX9_fact_22 rfl ?_
      refine x_V2i lX9_272 (Rm.of rfl) (cc1 := 0) (cn1 := 0) rfl rfl (Nat.le_of_ble_eq_true rfl) dX9_fact_23 (by first | assumption | rfl) (r_Ffull a45) ?_
      refine x_if_ne dX9_fact_26 (fun b26 => ?_) (fun b26 => ?_)
      · exact absurd b26 (by decide)
      · try simp only [i01, Classical.not_not] at b26
        refine x_k dX9_fact_29 ?_
        refine x_iret (ty := .int) dX9_fact_31 rfl rfl (Nat.zero_le _) (Nat.zero_le _) ?_
        exact ⟨rfl, Nat.le_refl _, hX, fun _ _ => rfl⟩
  refine x_iload dX9_fact_0 rfl ?_
  refine x_S1i lX9_137 (Rm.of rfl) (cc1 := 0) (cn1 := 0) rfl rfl (Nat.le_of_ble_eq_true rfl) dX9_fact_1 (r_noNumber a) ?_
  refine x_if_ne dX9_fact_4 (fun b4 => ?_) (fun b4 => ?_)
  · try simp only [i01, Classical.not_not] at b4
    refine x_k dX9_fact_14 ?_
    refine x_iret (ty := .int) dX9_fact_16 rfl rfl (Nat.zero_le _) (Nat.zero_le _) ?_
    have hc : ¬ cEight a b := by simp only [cEight, Int32.lt_iff_toInt_lt, Int32.le_iff_toInt_le, n0t, n7, n8] at *; omega
    rw [dFact, aFact, if_neg hc, if_neg hc]
    exact ⟨rfl, Nat.le_refl _, hX, fun _ _ => rfl⟩
  · try simp only [i01, Classical.not_not] at b4
    refine x_iload dX9_fact_7 rfl ?_
    refine x_S1i lX9_137 (Rm.of rfl) (cc1 := 0) (cn1 := 0) rfl rfl (Nat.le_of_ble_eq_true rfl) dX9_fact_8 (r_noNumber b) ?_
    refine x_if_eq dX9_fact_11 (fun b11 => ?_) (fun b11 => ?_)
    · try simp only [i01, Classical.not_not] at b11
      exact J17 (by simp only [cEight, Int32.lt_iff_toInt_lt, Int32.le_iff_toInt_le, n0t, n7, n8] at *; omega)
    · try simp only [i01, Classical.not_not] at b11
      refine x_k dX9_fact_14 ?_
      refine x_iret (ty := .int) dX9_fact_16 rfl rfl (Nat.zero_le _) (Nat.zero_le _) ?_
      have hc : ¬ cEight a b := by simp only [cEight, Int32.lt_iff_toInt_lt, Int32.le_iff_toInt_le, n0t, n7, n8] at *; omega
      rw [dFact, aFact, if_neg hc, if_neg hc]
      exact ⟨rfl, Nat.le_refl _, hX, fun _ _ => rfl⟩
theorem c_forget (hX : XW h sz d) : Rn Γ mX9_forget [.ref 4] h sz (qW h sz (dForget d) (nI (d_nf d))) := by
  refine x_enter 1 (by decide) rfl ?_
  obtain ⟨hA, hK, hR, hD⟩ := id hX
  obtain ⟨ow, pr, od, kd, sp, ins, a1, a2, a3, a4, ⟨a45, a46, a47⟩, a6, a7⟩ := id hA
  obtain ⟨ss, h4⟩ := hK.w4
  obtain ⟨en, pe, sp', si, fi, rk, wk, rs, fr, wy, h28⟩ := hR.w28
  refine x_aload dX9_forget_0 rfl ?_
  refine x_get fX9_63 dX9_forget_1 (by first | assumption | rfl) ?_
  refine x_get fX9_276 dX9_forget_4 (by first | assumption | rfl) ?_
  refine x_istore dX9_forget_7 (Nat.le_of_ble_eq_true rfl) rfl ?_
  refine x_aload dX9_forget_8 rfl ?_
  refine x_get fX9_63 dX9_forget_9 (by first | assumption | rfl) ?_
  refine x_k dX9_forget_12 ?_
  refine x_put fX9_276 tt1 gX9_276 dX9_forget_13 (by first | assumption | rfl) (Nat.le_of_ble_eq_true rfl) (w1_0 _) ?_
  refine x_aload dX9_forget_16 rfl ?_
  refine x_get fX9_49 dX9_forget_17 (by first | assumption | rfl) ?_
  refine x_V0v lX9_273 (Rm.of rfl) (cc1 := 0) (cn1 := 0) rfl rfl (Nat.le_of_ble_eq_true rfl) dX9_forget_20 (by first | assumption | rfl) (r_forgetWays h28) ?_
  refine x_iload dX9_forget_23 rfl ?_
  refine x_iret (ty := .int) dX9_forget_24 rfl rfl (Nat.zero_le _) (Nat.zero_le _) ?_
  exact ⟨rfl, Nat.le_refl _, ⟨⟨ow, pr, od, kd, sp, ins, a1, a2, a3, a4, ⟨rfl, a46, a47⟩, a6, a7⟩, (hK.of (fun k hk => by simp only [va_up]; (repeat' split) <;> first | rfl | omega)).to rfl rfl rfl, hR.ways ⟨_, _, _, _, _, _, _, _, _, h28, rfl⟩ (fun k hk => by simp only [va_up]; (repeat' split) <;> first | rfl | omega) rfl rfl rfl, (hD.of (fun k hk => by simp only [va_up]; (repeat' split) <;> first | rfl | omega)).to rfl rfl⟩, fun k hk => by simp only [va_up]; (repeat' split) <;> first | rfl | omega⟩
end XTas
