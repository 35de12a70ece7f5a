/-! the class stands behind k sales -/
noncomputable abbrev beH (h : Hp) (d : DT) (k : Nat) (lf : Int32) (f g kf tf : Nat → Int32) : Hp := va_up (skH_20 h f g kf tf (soN (d_run d k).2.2.1) (nI k) (nI (d_run d k).2.2.2)) 4 (cX 1 lf)
def qBe (h : Hp) (sz : Nat) (d : DT) (k : Nat) (lf : Int32) : QT := fun r h' sz' => r = some (.ref 20) ∧ sz = sz' ∧ ∃ f g kf tf : Nat → Int32, skF (d_H d) (d_run d k) f g kf tf ∧ h' = beH h d k lf f g kf tf
/-- the stroke is what strokeStands says of it -/
def skOK (d : DT) (ss so dn ln : Int32) (f g kf tf : Nat → Int32) : Prop := ss = 0 ∨ (ss = 1 ∧ ∃ k0, k0 ≤ d_ns d ∧ dn = nI k0 ∧ so = soN (d_run d k0).2.2.1 ∧ ln = nI (d_run d k0).2.2.2 ∧ skF (d_H d) (d_run d k0) f g kf tf)
section Behind
variable {Γ : GX} {h : Hp} {sz : Nat} {d : DT}
theorem r_behind {ss lf so dn ln : Int32} {f g kf tf ow od ins : Nat → Int32} {k : Nat} (h4 : h 4 = cX ss lf) (h10 : h 10 = cSt (nI (d_H d)) (nI (d_N d))) (h11 : h 11 = ia 8 ow) (h13 : h 13 = ia 8 od) (h16 : h 16 = ia 9 ins) (h17 : h 17 = cSa (nI (d_L d)) (nI (d_ns d))) (h18 : h 18 = ia 12 (d_sh d)) (h19 : h 19 = ia 12 (d_sb d)) (h20 : h 20 = cK 21 22 23 24 so dn ln) (h21 : h 21 = ia 8 f) (h22 : h 22 = ia 8 g) (h23 : h 23 = ia 8 kf) (h24 : h 24 = ia 8 tf)
    (how : ∀ j, j < d_H d → ow j = nI (ownN (d_b0 d) j)) (hod : ∀ p, p < 8 → od p = nI (msk (fun j => decide (ownN (d_b0 d) j = p)) (d_H d))) (hins : ∀ z, z < 9 → ins z = nI (insM (d_N d) (posN (d_H d) (d_b1 d)) z)) (hsk : skOK d ss so dn ln f g kf tf) (hd : okD d) (hk : k ≤ d_ns d) : Rn Γ mX9_behind [.ref 4, .int (nI k)] h sz (qBe h sz d k lf) := by
  refine x_enter 1 (by decide) rfl ?_
  have hH8 : d_H d ≤ 8 := (hN_ok hd.1.1).1
  have hP8 : d_N d ≤ 8 := (pN_ok hd.1.2.1).1
  have hns := hd.2.1.2.1
  have J34 : ∀ k0, k0 ≤ k → ∀ f g kf tf : Nat → Int32, skF (d_H d) (d_run d k0) f g kf tf → Ex Γ mX9_behind (gx_Z Γ mX9_behind (qBe h sz d k lf)) 0 0 34 [.ref 4, .int (nI k), .retAddr 0] [] (beH h d k0 lf f g kf tf) sz := by
    intro k0 hk0 f g kf tf hs
    refine x_aload dX9_behind_34 rfl ?_
    refine x_get fX9_35 dX9_behind_35 (by first | assumption | rfl) ?_
    refine x_get fX9_379 dX9_behind_38 (by first | assumption | rfl) ?_
    refine x_istore dX9_behind_41 (Nat.le_of_ble_eq_true rfl) rfl ?_
    refine loopUp (P := fun i => ∀ f g kf tf : Nat → Int32, skF (d_H d) (d_run d i) f g kf tf → Ex Γ mX9_behind (gx_Z Γ mX9_behind (qBe h sz d k lf)) 0 0 42 [.ref 4, .int (nI k), .int (nI i)] [] (beH h d i lf f g kf tf) sz) k ?_ (fun i hi ih => ?_) k0 hk0 f g kf tf hs
    · intro f g kf tf hs
      refine x_iload dX9_behind_42 rfl ?_
      refine x_iload dX9_behind_43 rfl ?_
      refine x_icmp_ge dX9_behind_44 (fun b44 => ?_) (fun b44 => ?_)
      · refine x_aload dX9_behind_75 rfl ?_
        refine x_get fX9_35 dX9_behind_76 (by first | assumption | rfl) ?_
        refine x_aret dX9_behind_79 rfl (Nat.zero_le _) (Nat.zero_le _) ?_
        exact ⟨rfl, rfl, f, g, kf, tf, hs, rfl⟩
      · exact absurd (Int32.le_refl _) b44
    · intro f g kf tf hs
      refine x_iload dX9_behind_42 rfl ?_
      refine x_iload dX9_behind_43 rfl ?_
      refine x_icmp_ge dX9_behind_44 (fun b44 => ?_) (fun b44 => ?_)
      · exact absurd b44 (nI_ge hi (by omega))
      · refine x_aload dX9_behind_47 rfl ?_
        refine x_get fX9_35 dX9_behind_48 (by first | assumption | rfl) ?_
        refine x_aload dX9_behind_51 rfl ?_
        refine x_get fX9_21 dX9_behind_52 (by first | assumption | rfl) ?_
        refine x_aload dX9_behind_55 rfl ?_
        refine x_get fX9_21 dX9_behind_56 (by first | assumption | rfl) ?_
        refine x_get fX9_112 dX9_behind_59 (by first | assumption | rfl) ?_
        refine x_aload dX9_behind_62 rfl ?_
        refine x_get fX9_28 dX9_behind_63 (by first | assumption | rfl) ?_
        refine x_V3q lX9_386 (Rm.of rfl) (cc1 := 0) (cn1 := 0) rfl rfl (Nat.le_of_ble_eq_true rfl) dX9_behind_66 (by first | assumption | rfl) (r_next_20 (s := d_run d i) (pos := posN (d_H d) (d_b1 d)) (sh := cN (d_sh d)) (sb := cN (d_sb d)) (H := d_H d) (N := d_N d) (L := d_L d) (ns := d_ns d) rfl rfl rfl rfl rfl h16 h10 h17 h18 h19 hs hins (fun j hj => ⟨(hd.2.1.2.2 j hj).1.1, (hd.2.1.2.2 j hj).1.2, (hd.2.1.2.2 j hj).2.1, (hd.2.1.2.2 j hj).2.2⟩) (by omega) hns hH8 hP8 hd.2.1.1) ?_
        rintro _ _ _ ⟨rfl, rfl, f2, g2, kf2, tf2, hs2, rfl⟩
        refine x_inc1 dX9_behind_69 rfl (Nat.le_of_ble_eq_true rfl) rfl ?_
        refine x_goto dX9_behind_72 ?_
        refine x_eq rfl rfl ?_ (ih f2 g2 kf2 tf2 hs2)
        exact (by funext j; simp only [va_up]; (repeat' split) <;> first | rfl | omega | simp_all)
  have B18 : Ex Γ mX9_behind (gx_Z Γ mX9_behind (qBe h sz d k lf)) 0 0 18 [.ref 4, .int (nI k), .retAddr 0] [] h sz := by
    refine x_aload dX9_behind_18 rfl ?_
    refine x_get fX9_35 dX9_behind_19 (by first | assumption | rfl) ?_
    refine x_aload dX9_behind_22 rfl ?_
    refine x_get fX9_21 dX9_behind_23 (by first | assumption | rfl) ?_
    refine x_V1q lX9_382 (Rm.of rfl) (cc1 := 0) (cn1 := 0) rfl rfl (Nat.le_of_ble_eq_true rfl) dX9_behind_26 (by first | assumption | rfl) (r_begin_20 (own := ownN (d_b0 d)) (H := d_H d) (N := d_N d) h20 h21 h22 h23 h24 h10 h11 h13 hH8 (fun j hj => ⟨how j hj, (ownN_ok hd.1.1 hj).2⟩) hod) ?_
    rintro _ _ _ ⟨rfl, rfl, f2, g2, kf2, tf2, hs2, rfl⟩
    refine x_aload dX9_behind_29 rfl ?_
    refine x_k dX9_behind_30 ?_
    refine x_put fX9_74 tt9 gX9_74 dX9_behind_31 (by first | assumption | rfl) (Nat.le_of_ble_eq_true rfl) (by first | exact w9_90 | exact w9_91) ?_
    refine x_eq rfl rfl ?_ (J34 0 (Nat.zero_le _) f2 g2 kf2 tf2 hs2)
    exact (by funext j; simp only [va_up]; (repeat' split) <;> first | rfl | omega | simp_all)
  rcases hsk with e | ⟨e, k0, q0, q1, q2, q3, q4⟩
  · subst e
    refine x_aload dX9_behind_0 rfl ?_
    refine x_get fX9_74 dX9_behind_1 (by first | assumption | rfl) ?_
    refine x_if_eq dX9_behind_4 (fun b4 => ?_) (fun b4 => ?_)
    · exact B18
    · exact absurd rfl b4
  · subst e; subst q1; subst q2; subst q3
    have el : nI k0 ≤ nI k ↔ k0 ≤ k := nI_leI (by omega) (by omega)
    refine x_aload dX9_behind_0 rfl ?_
    refine x_get fX9_74 dX9_behind_1 (by first | assumption | rfl) ?_
    refine x_if_eq dX9_behind_4 (fun b4 => ?_) (fun b4 => ?_)
    · exact absurd b4 (by decide)
    · refine x_aload dX9_behind_7 rfl ?_
      refine x_get fX9_35 dX9_behind_8 (by first | assumption | rfl) ?_
      refine x_get fX9_379 dX9_behind_11 (by first | assumption | rfl) ?_
      refine x_iload dX9_behind_14 rfl ?_
      refine x_icmp_le dX9_behind_15 (fun b15 => ?_) (fun b15 => ?_)
      · refine x_eq rfl rfl ?_ (J34 k0 (el.mp b15) f g kf tf q4)
        exact (by rw [beH, skH_20, up_id h21, up_id h22, up_id h23, up_id h24, up_id h20, up_id h4])
      · exact B18
end Behind
