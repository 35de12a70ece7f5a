section Leaf
variable {Γ : GX} {h : Hp} {sz : Nat}
def accF (a : Int32) (f : Nat → Int32) : Nat → Int32
  | 0 => a
  | n + 1 => accF a f n + f n
theorem ix8 (q p : Nat) : nI q * 8 + nI p = nI (8 * q + p) := by
  rw [show (8 : Int32) = nI 8 from rfl, pk_mul, nI_add, Nat.mul_comm]
theorem in8 {q p : Nat} (hq : q < 8) (hp : p < 8) : vp_in (nI q * 8 + nI p) 64 := by
  rw [ix8]; exact vp_in_nI (by omega) (by decide)
theorem r_noText (t : Int32) : Re Γ mX9_noText [.int t] h sz (some (.int (if t < 0 ∨ 1 < t then 1 else 0))) h sz := by
  refine x_enter 0 (by decide) rfl ?_
  refine x_iload dX9_noText_0 rfl ?_
  refine x_if_lt dX9_noText_1 (fun b1 => ?_) (fun b1 => ?_)
  · refine x_k dX9_noText_9 ?_
    refine x_goto dX9_noText_10 ?_
    refine x_iret (ty := .boolean) dX9_noText_14 rfl rfl (Nat.zero_le _) (Nat.zero_le _) ?_
    exact ⟨by simp [*], rfl, rfl⟩
  · refine x_iload dX9_noText_4 rfl ?_
    refine x_k dX9_noText_5 ?_
    refine x_icmp_le dX9_noText_6 (fun b6 => ?_) (fun b6 => ?_)
    · refine x_k dX9_noText_13 ?_
      refine x_iret (ty := .boolean) dX9_noText_14 rfl rfl (Nat.zero_le _) (Nat.zero_le _) ?_
      exact ⟨by simp [*], rfl, rfl⟩
    · refine x_k dX9_noText_9 ?_
      refine x_goto dX9_noText_10 ?_
      refine x_iret (ty := .boolean) dX9_noText_14 rfl rfl (Nat.zero_le _) (Nat.zero_le _) ?_
      exact ⟨by simp [*], rfl, rfl⟩
theorem r_worthOf {w : Nat → Int32} {lk : Value} {q p : Nat} (h25 : h 25 = ob 7 [.ref 26, lk]) (h26 : h 26 = ia 64 w) (hq : q < 8) (hp : p < 8) : Re Γ mX7_worthOf [.ref 25, .int (nI q), .int (nI p)] h sz (some (.int (w (8 * q + p)))) h sz := by
  refine x_enter 0 (by decide) rfl ?_
  refine x_aload dX7_worthOf_0 rfl ?_
  refine x_get fX7_9 dX7_worthOf_1 (by first | assumption | rfl) ?_
  refine x_iload dX7_worthOf_4 rfl ?_
  refine x_k dX7_worthOf_5 ?_
  refine x_imul dX7_worthOf_7 ?_
  refine x_iload dX7_worthOf_8 rfl ?_
  refine x_iadd dX7_worthOf_9 ?_
  refine x_iald dX7_worthOf_10 (by first | assumption | rfl) (in8 hq hp) ?_
  refine x_iret (ty := .int) dX7_worthOf_11 rfl rfl (Nat.zero_le _) (Nat.zero_le _) ?_
  exact ⟨by rw [ix8, nI_clamp (by omega)], rfl, rfl⟩
theorem r_valueTo {price spot worth : Nat → Int32} {n hs q : Nat} {ss lf : Int32} {ow od kd ins H : Value} {t0 s2 s3 r5 d6 f7 s8 lk : Value} (h4 : h 4 = ob 9 [t0, .ref 10, s2, s3, .ref 25, r5, d6, f7, s8, .int ss, .int lf]) (h10 : h 10 = ob 5 [H, .int (nI n), ow, .ref 12, od, kd, .ref 15, ins]) (h12 : h 12 = ia 8 price) (h15 : h 15 = ia 8 spot) (h25 : h 25 = ob 7 [.ref 26, lk]) (h26 : h 26 = ia 64 worth) (hn : n ≤ 8) (hh : hs < 8) (hq : q < 8) :
    Re Γ mX9_valueTo [.ref 4, .int (nI hs), .int (nI q)] h sz (some (.int (accF (price hs) (fun p => if p ≠ q ∧ spot p = nI (hs + 1) then worth (8 * q + p) else 0) n))) h sz := by
  refine x_enter 2 (by decide) rfl ?_
  have hi : vp_in (nI hs) 8 := vp_in_nI hh (by decide)
  have loop : ∀ (k p : Nat), p + k = n → Ex Γ mX9_valueTo (gx_Z Γ mX9_valueTo (fun r' h' sz' => r' = some (.int (accF (price hs) (fun p => if p ≠ q ∧ spot p = nI (hs + 1) then worth (8 * q + p) else 0) n)) ∧ h' = h ∧ sz' = sz)) 0 0 13 [.ref 4, .int (nI hs), .int (nI q), .int (accF (price hs) (fun p => if p ≠ q ∧ spot p = nI (hs + 1) then worth (8 * q + p) else 0) p), .int (nI p)] [] h sz := by
    intro k
    induction k with
    | zero =>
      intro p hp
      have hp : p = n := by omega
      subst hp
      refine x_iload dX9_valueTo_13 rfl ?_
      refine x_aload dX9_valueTo_15 rfl ?_
      refine x_get fX9_21 dX9_valueTo_16 (by first | assumption | rfl) ?_
      refine x_get fX9_200 dX9_valueTo_19 (by first | assumption | rfl) ?_
      refine x_icmp_ge dX9_valueTo_22 (fun b22 => ?_) (fun b22 => ?_)
      · refine x_iload dX9_valueTo_66 rfl ?_
        refine x_iret (ty := .int) dX9_valueTo_67 rfl rfl (Nat.zero_le _) (Nat.zero_le _) ?_
        exact ⟨rfl, rfl, rfl⟩
      · exact absurd (Int32.le_refl _) b22
    | succ k ih =>
      intro p hp
      have hlt : p < n := by omega
      have hip : vp_in (nI p) 8 := vp_in_nI (by omega) (by decide)
      refine x_iload dX9_valueTo_13 rfl ?_
      refine x_aload dX9_valueTo_15 rfl ?_
      refine x_get fX9_21 dX9_valueTo_16 (by first | assumption | rfl) ?_
      refine x_get fX9_200 dX9_valueTo_19 (by first | assumption | rfl) ?_
      refine x_icmp_ge dX9_valueTo_22 (fun b22 => ?_) (fun b22 => ?_)
      · exact absurd b22 (nI_ge hlt (by omega))
      · refine x_iload dX9_valueTo_25 rfl ?_
        refine x_iload dX9_valueTo_27 rfl ?_
        refine x_icmp_eq dX9_valueTo_28 (fun b28 => ?_) (fun b28 => ?_)
        · refine x_inc1 dX9_valueTo_60 rfl (Nat.le_of_ble_eq_true rfl) rfl ?_
          refine x_goto dX9_valueTo_63 ?_
          refine x_eq ?_ rfl rfl (ih (p + 1) (by omega))
          have e1 : nI p = nI q ↔ p = q := nI_eq (by omega) (by omega)
          try simp only [nI_1] at b44
          simp_all [lent, accF]
        · refine x_aload dX9_valueTo_31 rfl ?_
          refine x_get fX9_21 dX9_valueTo_32 (by first | assumption | rfl) ?_
          refine x_get fX9_121 dX9_valueTo_35 (by first | assumption | rfl) ?_
          refine x_iload dX9_valueTo_38 rfl ?_
          refine x_ialdn dX9_valueTo_40 (by first | assumption | rfl) ⟨by first | omega | decide, by decide⟩ ?_
          refine x_iload dX9_valueTo_41 rfl ?_
          refine x_k dX9_valueTo_42 ?_
          refine x_iadd dX9_valueTo_43 ?_
          refine x_icmp_ne dX9_valueTo_44 (fun b44 => ?_) (fun b44 => ?_)
          · refine x_inc1 dX9_valueTo_60 rfl (Nat.le_of_ble_eq_true rfl) rfl ?_
            refine x_goto dX9_valueTo_63 ?_
            refine x_eq ?_ rfl rfl (ih (p + 1) (by omega))
            have e1 : nI p = nI q ↔ p = q := nI_eq (by omega) (by omega)
            try simp only [nI_1] at b44
            simp_all [lent, accF]
          · refine x_iload dX9_valueTo_47 rfl ?_
            refine x_aload dX9_valueTo_48 rfl ?_
            refine x_get fX9_42 dX9_valueTo_49 (by first | assumption | rfl) ?_
            refine x_iload dX9_valueTo_52 rfl ?_
            refine x_iload dX9_valueTo_53 rfl ?_
            refine x_V2i lX9_203 (Rm.of rfl) (cc1 := 0) (cn1 := 0) rfl rfl (Nat.le_of_ble_eq_true rfl) dX9_valueTo_55 (by first | assumption | rfl) (r_worthOf h25 h26 hq (by omega)) ?_
            refine x_iadd dX9_valueTo_58 ?_
            refine x_istore dX9_valueTo_59 (Nat.le_of_ble_eq_true rfl) rfl ?_
            refine x_inc1 dX9_valueTo_60 rfl (Nat.le_of_ble_eq_true rfl) rfl ?_
            refine x_goto dX9_valueTo_63 ?_
            refine x_eq ?_ rfl rfl (ih (p + 1) (by omega))
            have e1 : nI p = nI q ↔ p = q := nI_eq (by omega) (by omega)
            try simp only [nI_1] at b44
            simp_all [lent, accF]
  refine x_aload dX9_valueTo_0 rfl ?_
  refine x_get fX9_21 dX9_valueTo_1 (by first | assumption | rfl) ?_
  refine x_get fX9_109 dX9_valueTo_4 (by first | assumption | rfl) ?_
  refine x_iload dX9_valueTo_7 rfl ?_
  refine x_ialdn dX9_valueTo_8 (by first | assumption | rfl) ⟨by first | omega | decide, by decide⟩ ?_
  refine x_istore dX9_valueTo_9 (Nat.le_of_ble_eq_true rfl) rfl ?_
  refine x_k dX9_valueTo_10 ?_
  refine x_istore dX9_valueTo_11 (Nat.le_of_ble_eq_true rfl) rfl ?_
  refine x_eq rfl rfl rfl (loop n 0 (by omega))
end Leaf
