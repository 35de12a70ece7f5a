/-! the class's calls that change street, law and sales -/
def XT (h : Hp) (d : DT) : Prop := h 5 = cTx ∧ h 6 = cT 7 (nI (d_n0 d)) ∧ h 7 = ia 30 (d_b0 d) ∧ h 8 = cT 9 (nI (d_n1 d)) ∧ h 9 = ia 24 (d_b1 d)
def XS (h : Hp) : Prop := ∃ (H N : Int32) (ow pr od kd sp ins : Nat → Int32), h 10 = cSt H N ∧ h 11 = ia 8 ow ∧ h 12 = ia 8 pr ∧ h 13 = ia 8 od ∧ h 14 = ia 8 kd ∧ h 15 = ia 8 sp ∧ h 16 = ia 9 ins
def XE (h : Hp) (d : DT) : Prop := (h 17 = cSa (nI (d_L d)) (nI (d_ns d)) ∧ h 18 = ia 12 (d_sh d) ∧ h 19 = ia 12 (d_sb d)) ∧
  (h 25 = cTa ∧ h 26 = ia 64 (d_w d) ∧ h 27 = ia 64 (d_l d)) ∧
  (h 45 = cF (nI (d_nf d)) ∧ h 46 = ia 8 (d_fp d) ∧ h 47 = ia 8 (d_fk d)) ∧
  (h 48 = cShs ∧ (h 49 = cSh 50 (d_fo d 0) (d_si d 0) ∧ h 50 = ia 48 (d_it d 0)) ∧ (h 51 = cSh 52 (d_fo d 1) (d_si d 1) ∧ h 52 = ia 48 (d_it d 1)) ∧ (h 53 = cSh 54 (d_fo d 2) (d_si d 2) ∧ h 54 = ia 48 (d_it d 2)) ∧ h 55 = cSh 56 (d_fo d 3) (d_si d 3) ∧ h 56 = ia 48 (d_it d 3))
def XL (h : Hp) (d : DT) : Prop := ∃ (ss so dn ln : Int32) (f g kf tf : Nat → Int32), h 4 = cX ss (d_fi d) ∧ h 20 = cK 21 22 23 24 so dn ln ∧ h 21 = ia 8 f ∧ h 22 = ia 8 g ∧ h 23 = ia 8 kf ∧ h 24 = ia 8 tf
theorem x_aaT {Γ : GX} {M : MI} {Z : ZT} {cc cn pc pc' : Nat} {lv st : List Value} {h : Hp} {sz i q : Nat} (d : Dc M.2.1 pc .aaload 1 pc') (ha : h 5 = cTx) (hi : (i = 0 ∧ q = 6) ∨ (i = 1 ∧ q = 8)) (kk : Ex Γ M Z cc cn pc' lv (.ref q :: st) h sz) : Ex Γ M Z cc cn pc lv (.int (nI i) :: .ref 5 :: st) h sz := by
  rcases hi with ⟨rfl, rfl⟩ | ⟨rfl, rfl⟩
  · exact x_aald d ha (vp_in_nI (by decide) (by decide)) rfl kk
  · exact x_aald d ha (vp_in_nI (by decide) (by decide)) rfl kk
theorem x_aaS {Γ : GX} {M : MI} {Z : ZT} {cc cn pc pc' : Nat} {lv st : List Value} {h : Hp} {sz i q : Nat} (d : Dc M.2.1 pc .aaload 1 pc') (ha : h 48 = cShs) (hi : i < 4 ∧ q = 49 + 2 * i) (kk : Ex Γ M Z cc cn pc' lv (.ref q :: st) h sz) : Ex Γ M Z cc cn pc lv (.int (nI i) :: .ref 48 :: st) h sz := by
  obtain ⟨hi, rfl⟩ := hi
  have h4 : i = 0 ∨ i = 1 ∨ i = 2 ∨ i = 3 := by omega
  rcases h4 with rfl | rfl | rfl | rfl
  · exact x_aald d ha (vp_in_nI (by decide) (by decide)) rfl kk
  · exact x_aald d ha (vp_in_nI (by decide) (by decide)) rfl kk
  · exact x_aald d ha (vp_in_nI (by decide) (by decide)) rfl kk
  · exact x_aald d ha (vp_in_nI (by decide) (by decide)) rfl kk
theorem XE.of {h h' : Hp} {d : DT} (hE : XE h d) (e : ∀ k, 17 ≤ k → k ≤ 56 → k ≠ 28 → k ≠ 37 → k ≠ 39 → h' k = h k) : XE h' d := by
  obtain ⟨a1, a2, a3, a4⟩ := hE
  refine ⟨?_, ?_, ?_, ?_⟩
  · rw [e 17 (by decide) (by decide) (by decide) (by decide) (by decide), e 18 (by decide) (by decide) (by decide) (by decide) (by decide), e 19 (by decide) (by decide) (by decide) (by decide) (by decide)]; exact a1
  · rw [e 25 (by decide) (by decide) (by decide) (by decide) (by decide), e 26 (by decide) (by decide) (by decide) (by decide) (by decide), e 27 (by decide) (by decide) (by decide) (by decide) (by decide)]; exact a2
  · rw [e 45 (by decide) (by decide) (by decide) (by decide) (by decide), e 46 (by decide) (by decide) (by decide) (by decide) (by decide), e 47 (by decide) (by decide) (by decide) (by decide) (by decide)]; exact a3
  · rw [e 48 (by decide) (by decide) (by decide) (by decide) (by decide), e 49 (by decide) (by decide) (by decide) (by decide) (by decide), e 50 (by decide) (by decide) (by decide) (by decide) (by decide), e 51 (by decide) (by decide) (by decide) (by decide) (by decide), e 52 (by decide) (by decide) (by decide) (by decide) (by decide), e 53 (by decide) (by decide) (by decide) (by decide) (by decide), e 54 (by decide) (by decide) (by decide) (by decide) (by decide), e 55 (by decide) (by decide) (by decide) (by decide) (by decide), e 56 (by decide) (by decide) (by decide) (by decide) (by decide)]; exact a4
section XSet
variable {Γ : GX} {h : Hp} {sz : Nat} {d d0 : DT}
theorem XA.T (hA : XA h d) : XT h d := by
  obtain ⟨ow, pr, od, kd, sp, ins, a1, a2, a3, a4, a5, a6, a7⟩ := hA
  exact a1
theorem XA.S (hA : XA h d) : XS h := by
  obtain ⟨ow, pr, od, kd, sp, ins, a1, a2, a3, a4, a5, a6, a7⟩ := hA
  exact ⟨_, _, ow, pr, od, kd, sp, ins, a2⟩
theorem XA.E (hA : XA h d) : XE h d := by
  obtain ⟨ow, pr, od, kd, sp, ins, a1, a2, a3, a4, a5, a6, a7⟩ := hA
  exact ⟨a3, a4, a5, a6⟩
theorem XK.L (hK : XK h d) : XL h d := by
  obtain ⟨ss, so, dn, ln, f, g, kf, tf, a1, a2, a3, a4, a5, a6, a7⟩ := hK
  exact ⟨ss, so, dn, ln, f, g, kf, tf, a1, a2, a3, a4, a5, a6⟩
theorem XA.told {ow pr od kd sp ins : Nat → Int32} (hT : XT h d) (hE : XE h d) (hd : okD d) (s10 : h 10 = cSt (nI (d_H d)) (nI (d_N d))) (s11 : h 11 = ia 8 (filG ow (fun i => d_b0 d (3 * i) - 48) (d_H d))) (s12 : h 12 = ia 8 (filG pr (fun i => d_b0 d (3 * i + 1) - 48) (d_H d))) (s13 : h 13 = ia 8 (mskA (fun i => d_b0 d (3 * i) - 48) od 8 (d_H d))) (s14 : h 14 = ia 8 (filG kd (fun i => kI (d_b1 d (2 * i))) (d_N d))) (s15 : h 15 = ia 8 (filG sp (fun i => spF (d_H d) (d_b1 d (2 * i + 1))) (d_N d))) (s16 : h 16 = ia 9 (mskA (fun i => spF (d_H d) (d_b1 d (2 * i + 1))) ins 9 (d_N d))) : XA h d := by
  obtain ⟨⟨n0, n1, -, bb⟩, -⟩ := id hd
  have hH8 : d_H d ≤ 8 := (hN_ok (b := d_b0 d) n0).1
  obtain ⟨e1, e2, e3, e4⟩ := hE
  refine ⟨_, _, _, _, _, _, hT, ⟨s10, s11, s12, s13, s14, s15, s16⟩, e1, e2, e3, e4, fun j hj => ?_, fun q hq => ?_, fun p hp => ?_, fun s hs => ?_⟩
  · rw [filG_lt hj, filG_lt hj]; exact ⟨(ownN_ok n0 hj).1, (priN_ok n0 hj).1⟩
  · rw [mskA, if_pos hq]
    refine congrArg nI (msk_congr (fun i hi => ?_))
    have := ownN_ok n0 hi
    rw [this.1]
    exact decide_eq_decide.mpr (nI_eq (by omega) (by omega))
  · rw [filG_lt hp, filG_lt hp]; exact ⟨(kinN_ok n1 hp).1, (posN_ok hH8 (d_b1 d) p).1⟩
  · rw [mskA, if_pos hs, insM]
    refine congrArg nI (msk_congr (fun i hi => ?_))
    have := posN_ok hH8 (d_b1 d) i
    rw [this.1]
    exact decide_eq_decide.mpr (nI_eq (by omega) (by omega))
theorem x_retell (hT : XT h d) (hS : XS h) (hE : XE h d) (hL : XL h d) (hR : XR h sz d0) (hD : XD h sz d0) (hd : okD d) : Rn Γ mX9_retell [.ref 4] h sz (fun r h' sz' => r = none ∧ sz = sz' ∧ XW h' sz d ∧ frX h h') := by
  refine x_enter 0 (by decide) rfl ?_
  obtain ⟨t5, t6, t7, t8, t9⟩ := id hT
  obtain ⟨H, N, ow, pr, od, kd, sp, ins, s10, s11, s12, s13, s14, s15, s16⟩ := hS
  obtain ⟨ss, so, dn, ln, f, g, kf, tf, l4, l20, l21, l22, l23, l24⟩ := hL
  obtain ⟨⟨n0, n1, -, bb⟩, -⟩ := id hd
  have hH8 := (hN_ok (b := d_b0 d) n0).1
  refine x_aload dX9_retell_0 rfl ?_
  refine x_get fX9_21 dX9_retell_1 (by first | assumption | rfl) ?_
  refine x_aload dX9_retell_4 rfl ?_
  refine x_get fX9_12 dX9_retell_5 (by first | assumption | rfl) ?_
  refine x_k dX9_retell_8 ?_
  refine x_aaT (i := 0) (q := 6) dX9_retell_9 t5 (by decide) ?_
  refine x_aload dX9_retell_10 rfl ?_
  refine x_get fX9_12 dX9_retell_11 (by first | assumption | rfl) ?_
  refine x_k dX9_retell_14 ?_
  refine x_aaT (i := 1) (q := 8) dX9_retell_15 t5 (by decide) ?_
  refine x_V2v lX9_371 (Rm.of rfl) (cc1 := 0) (cn1 := 0) rfl rfl (Nat.le_of_ble_eq_true rfl) dX9_retell_16 (by first | assumption | rfl) (r_tell t6 t7 t8 t9 s10 s11 s12 s13 s14 s15 s16 n0 n1 bb) ?_
  refine x_aload dX9_retell_19 rfl ?_
  refine x_V0q lX9_134 (Rm.of rfl) (cc1 := 0) (cn1 := 0) rfl rfl (Nat.le_of_ble_eq_true rfl) dX9_retell_20 (by first | assumption | rfl) (x_recount (ss := ss) (lf := d_fi d) (d := d0) l4 (hR.of (fun k hk => by simp only [va_up]; (repeat' split) <;> first | rfl | omega)) (hD.of (fun k hk => by simp only [va_up]; (repeat' split) <;> first | rfl | omega))) ?_
  rintro _ h1 _ ⟨rfl, rfl, g4, gR, ge⟩
  refine x_vret dX9_retell_23 rfl (Nat.zero_le _) (Nat.zero_le _) ?_
  have hE1 : XE h1 d := hE.of (fun k k1 k2 k3 k4 k5 => (ge k (by omega) k3 k4 k5).trans (by simp only [va_up]; (repeat' split) <;> first | rfl | omega))
  have hT1 : XT h1 d := ⟨(ge 5 (by decide) (by decide) (by decide) (by decide)).trans t5, (ge 6 (by decide) (by decide) (by decide) (by decide)).trans t6, (ge 7 (by decide) (by decide) (by decide) (by decide)).trans t7, (ge 8 (by decide) (by decide) (by decide) (by decide)).trans t8, (ge 9 (by decide) (by decide) (by decide) (by decide)).trans t9⟩
  refine ⟨rfl, rfl, ⟨XA.told hT1 hE1 hd (ge 10 (by decide) (by decide) (by decide) (by decide)) (ge 11 (by decide) (by decide) (by decide) (by decide)) (ge 12 (by decide) (by decide) (by decide) (by decide)) (ge 13 (by decide) (by decide) (by decide) (by decide)) (ge 14 (by decide) (by decide) (by decide) (by decide)) (ge 15 (by decide) (by decide) (by decide) (by decide)) (ge 16 (by decide) (by decide) (by decide) (by decide)), ⟨0, so, dn, ln, f, g, kf, tf, g4, (ge 20 (by decide) (by decide) (by decide) (by decide)).trans l20, (ge 21 (by decide) (by decide) (by decide) (by decide)).trans l21, (ge 22 (by decide) (by decide) (by decide) (by decide)).trans l22, (ge 23 (by decide) (by decide) (by decide) (by decide)).trans l23, (ge 24 (by decide) (by decide) (by decide) (by decide)).trans l24, Or.inl rfl⟩, (gR d).1, (gR d).2⟩, fun k hk => (ge k (by omega) (by omega) (by omega) (by omega)).trans (by simp only [va_up]; (repeat' split) <;> first | rfl | omega)⟩
theorem upd_in {f : Nat → Int32} {n : Nat} {b : Int32} (hf : ∀ i, 0 ≤ f i ∧ f i ≤ 255) (hb : 0 ≤ b ∧ b ≤ 255) : ∀ i, 0 ≤ upd f n b i ∧ upd f n b i ≤ 255 := by
  intro i
  simp only [upd]
  split
  · exact hb
  · exact hf i
theorem ok_type (t b : Int32) (hd : okD d) : okD (dType d t b) := by
  obtain ⟨⟨n0, n1, b0, b1⟩, r⟩ := id hd
  rw [dType]
  (repeat' split) <;> first
    | exact hd
    | exact ⟨⟨by show d_n0 d + 1 ≤ 30; omega, n1, upd_in b0 (by assumption : cType t b).2, b1⟩, r⟩
    | exact ⟨⟨n0, by show d_n1 d + 1 ≤ 24; omega, b0, upd_in b1 (by assumption : cType t b).2⟩, r⟩
theorem ok_wipe (t : Int32) (hd : okD d) : okD (dWipe d t) := by
  obtain ⟨⟨n0, n1, b0, b1⟩, r⟩ := id hd
  rw [dWipe]
  (repeat' split) <;> first
    | exact hd
    | exact ⟨⟨Nat.zero_le _, n1, b0, b1⟩, r⟩
    | exact ⟨⟨n0, Nat.zero_le _, b0, b1⟩, r⟩
theorem c_type (t b : Int32) (hX : XW h sz d) (hd : okD d) : Rn Γ mX9_type [.ref 4, .int t, .int b] h sz (qW h sz (dType d t b) (aType d t b)) := by
  refine x_enter 0 (by decide) rfl ?_
  obtain ⟨hA, hK, hR, hD⟩ := id hX
  obtain ⟨t5, t6, t7, t8, t9⟩ := hA.T
  obtain ⟨ss, h4⟩ := hK.w4
  obtain ⟨⟨n0, n1, -, bb⟩, -⟩ := id hd
  have hd' := ok_type t b hd
  have J21 : cType t b → Ex Γ mX9_type (gx_Z Γ mX9_type (qW h sz (dType d t b) (aType d t b))) 0 0 21 [.ref 4, .int t, .int b] [] h sz := by
    intro hc
    obtain ⟨i, hi, rfl⟩ := upto (n := 1) hc.1.1 hc.1.2 (by omega)
    have h01 : i = 0 ∨ i = 1 := by omega
    obtain ⟨H0, N0, ow, pr, od, kd, sp, ins, s10, s11, s12, s13, s14, s15, s16⟩ := hA.S
    obtain ⟨e1, e2, e3, e4⟩ := hA.E
    obtain ⟨ss', so, dn, ln, f, g, kf, tf, l4, l20, l21, l22, l23, l24⟩ := hK.L
    rcases h01 with rfl | rfl
    · by_cases hf : d_n0 d < 30
      · have ed : dType d (nI 0) b = dT0 d (d_n0 d + 1) (upd (d_b0 d) (d_n0 d) b) := by rw [dType, if_pos hc, if_pos n00, if_pos hf]
        have ea : aType d (nI 0) b = nI (d_n0 d + 1) := by rw [aType, if_pos hc, if_pos n00, if_pos hf]
        rw [ed] at hd' ⊢
        rw [ea]
        refine x_aload dX9_type_21 rfl ?_
        refine x_get fX9_12 dX9_type_22 (by first | assumption | rfl) ?_
        refine x_iload dX9_type_25 rfl ?_
        refine x_aaT (i := 0) (q := 6) dX9_type_26 t5 (by decide) ?_
        refine x_iload dX9_type_27 rfl ?_
        refine x_V1i lX9_86 (Rm.of rfl) (cc1 := 0) (cn1 := 0) rfl rfl (Nat.le_of_ble_eq_true rfl) dX9_type_28 (by first | assumption | rfl) (r_Ttakes_6 t6 t7 hf (by decide)) ?_
        refine x_if_ne dX9_type_31 (fun b31 => ?_) (fun b31 => ?_)
        · try simp only [i01, Classical.not_not] at b31
          refine x_aload dX9_type_37 rfl ?_
          refine x_V0q lX9_89 (Rm.of rfl) (cc1 := 0) (cn1 := 0) rfl rfl (Nat.le_of_ble_eq_true rfl) dX9_type_38 (by first | assumption | rfl) (x_retell (d := dT0 d (d_n0 d + 1) (upd (d_b0 d) (d_n0 d) b)) (d0 := d) ⟨t5, rfl, rfl, t8, t9⟩ ⟨H0, N0, ow, pr, od, kd, sp, ins, s10, s11, s12, s13, s14, s15, s16⟩ ⟨e1, e2, e3, e4⟩ ⟨ss', so, dn, ln, f, g, kf, tf, l4, l20, l21, l22, l23, l24⟩ (hR.of (fun k hk => by simp only [va_up]; (repeat' split) <;> first | rfl | omega)) (hD.of (fun k hk => by simp only [va_up]; (repeat' split) <;> first | rfl | omega)) hd') ?_
          rintro _ h2 _ ⟨rfl, rfl, hX2, hF2⟩
          obtain ⟨u5, u6, u7, u8, u9⟩ := hX2.1.T
          obtain ⟨ss2, u4⟩ := hX2.2.1.w4
          refine x_aload dX9_type_41 rfl ?_
          refine x_get fX9_12 dX9_type_42 (by first | assumption | rfl) ?_
          refine x_iload dX9_type_45 rfl ?_
          refine x_aaT (i := 0) (q := 6) dX9_type_46 u5 (by decide) ?_
          refine x_get fX9_92 dX9_type_47 (by first | assumption | rfl) ?_
          refine x_iret (ty := .int) dX9_type_50 rfl rfl (Nat.zero_le _) (Nat.zero_le _) ?_
          exact ⟨rfl, Nat.le_refl _, hX2, fun k hk => (hF2 k hk).trans (by simp only [va_up]; (repeat' split) <;> first | rfl | omega)⟩
        · exact absurd b31 (by decide)
      · have ed : dType d (nI 0) b = d := by rw [dType, if_pos hc, if_pos n00, if_neg hf]
        have ea : aType d (nI 0) b = -4 := by rw [aType, if_pos hc, if_pos n00, if_neg hf]
        rw [ed, ea]
        refine x_aload dX9_type_21 rfl ?_
        refine x_get fX9_12 dX9_type_22 (by first | assumption | rfl) ?_
        refine x_iload dX9_type_25 rfl ?_
        refine x_aaT (i := 0) (q := 6) dX9_type_26 t5 (by decide) ?_
        refine x_iload dX9_type_27 rfl ?_
        refine x_V1i lX9_86 (Rm.of rfl) (cc1 := 0) (cn1 := 0) rfl rfl (Nat.le_of_ble_eq_true rfl) dX9_type_28 (by first | assumption | rfl) (r_Tfull_6 t6 t7 (by omega) (by omega)) ?_
        refine x_if_ne dX9_type_31 (fun b31 => ?_) (fun b31 => ?_)
        · exact absurd b31 (by decide)
        · try simp only [i01, Classical.not_not] at b31
          refine x_k dX9_type_34 ?_
          refine x_iret (ty := .int) dX9_type_36 rfl rfl (Nat.zero_le _) (Nat.zero_le _) ?_
          exact ⟨rfl, Nat.le_refl _, hX, fun _ _ => rfl⟩
    · by_cases hf : d_n1 d < 24
      · have ed : dType d (nI 1) b = dT1 d (d_n1 d + 1) (upd (d_b1 d) (d_n1 d) b) := by rw [dType, if_pos hc, if_neg n10, if_pos hf]
        have ea : aType d (nI 1) b = nI (d_n1 d + 1) := by rw [aType, if_pos hc, if_neg n10, if_pos hf]
        rw [ed] at hd' ⊢
        rw [ea]
        refine x_aload dX9_type_21 rfl ?_
        refine x_get fX9_12 dX9_type_22 (by first | assumption | rfl) ?_
        refine x_iload dX9_type_25 rfl ?_
        refine x_aaT (i := 1) (q := 8) dX9_type_26 t5 (by decide) ?_
        refine x_iload dX9_type_27 rfl ?_
        refine x_V1i lX9_86 (Rm.of rfl) (cc1 := 0) (cn1 := 0) rfl rfl (Nat.le_of_ble_eq_true rfl) dX9_type_28 (by first | assumption | rfl) (r_Ttakes_8 t8 t9 hf (by decide)) ?_
        refine x_if_ne dX9_type_31 (fun b31 => ?_) (fun b31 => ?_)
        · try simp only [i01, Classical.not_not] at b31
          refine x_aload dX9_type_37 rfl ?_
          refine x_V0q lX9_89 (Rm.of rfl) (cc1 := 0) (cn1 := 0) rfl rfl (Nat.le_of_ble_eq_true rfl) dX9_type_38 (by first | assumption | rfl) (x_retell (d := dT1 d (d_n1 d + 1) (upd (d_b1 d) (d_n1 d) b)) (d0 := d) ⟨t5, t6, t7, rfl, rfl⟩ ⟨H0, N0, ow, pr, od, kd, sp, ins, s10, s11, s12, s13, s14, s15, s16⟩ ⟨e1, e2, e3, e4⟩ ⟨ss', so, dn, ln, f, g, kf, tf, l4, l20, l21, l22, l23, l24⟩ (hR.of (fun k hk => by simp only [va_up]; (repeat' split) <;> first | rfl | omega)) (hD.of (fun k hk => by simp only [va_up]; (repeat' split) <;> first | rfl | omega)) hd') ?_
          rintro _ h2 _ ⟨rfl, rfl, hX2, hF2⟩
          obtain ⟨u5, u6, u7, u8, u9⟩ := hX2.1.T
          obtain ⟨ss2, u4⟩ := hX2.2.1.w4
          refine x_aload dX9_type_41 rfl ?_
          refine x_get fX9_12 dX9_type_42 (by first | assumption | rfl) ?_
          refine x_iload dX9_type_45 rfl ?_
          refine x_aaT (i := 1) (q := 8) dX9_type_46 u5 (by decide) ?_
          refine x_get fX9_92 dX9_type_47 (by first | assumption | rfl) ?_
          refine x_iret (ty := .int) dX9_type_50 rfl rfl (Nat.zero_le _) (Nat.zero_le _) ?_
          exact ⟨rfl, Nat.le_refl _, hX2, fun k hk => (hF2 k hk).trans (by simp only [va_up]; (repeat' split) <;> first | rfl | omega)⟩
        · exact absurd b31 (by decide)
      · have ed : dType d (nI 1) b = d := by rw [dType, if_pos hc, if_neg n10, if_neg hf]
        have ea : aType d (nI 1) b = -4 := by rw [aType, if_pos hc, if_neg n10, if_neg hf]
        rw [ed, ea]
        refine x_aload dX9_type_21 rfl ?_
        refine x_get fX9_12 dX9_type_22 (by first | assumption | rfl) ?_
        refine x_iload dX9_type_25 rfl ?_
        refine x_aaT (i := 1) (q := 8) dX9_type_26 t5 (by decide) ?_
        refine x_iload dX9_type_27 rfl ?_
        refine x_V1i lX9_86 (Rm.of rfl) (cc1 := 0) (cn1 := 0) rfl rfl (Nat.le_of_ble_eq_true rfl) dX9_type_28 (by first | assumption | rfl) (r_Tfull_8 t8 t9 (by omega) (by omega)) ?_
        refine x_if_ne dX9_type_31 (fun b31 => ?_) (fun b31 => ?_)
        · exact absurd b31 (by decide)
        · try simp only [i01, Classical.not_not] at b31
          refine x_k dX9_type_34 ?_
          refine x_iret (ty := .int) dX9_type_36 rfl rfl (Nat.zero_le _) (Nat.zero_le _) ?_
          exact ⟨rfl, Nat.le_refl _, hX, fun _ _ => rfl⟩
  refine x_iload dX9_type_0 rfl ?_
  refine x_S1i lX9_82 (Rm.of rfl) (cc1 := 0) (cn1 := 0) rfl rfl (Nat.le_of_ble_eq_true rfl) dX9_type_1 (r_noText t) ?_
  refine x_if_ne dX9_type_4 (fun b4 => ?_) (fun b4 => ?_)
  · try simp only [i01, Classical.not_not] at b4
    refine x_k dX9_type_18 ?_
    refine x_iret (ty := .int) dX9_type_20 rfl rfl (Nat.zero_le _) (Nat.zero_le _) ?_
    refine ⟨?_, Nat.le_refl _, ?_, fun _ _ => rfl⟩
    · rw [aType, if_neg]
      simp only [cType, Int32.lt_iff_toInt_lt, Int32.le_iff_toInt_le, not_or] at *
      omega
    · rw [dType, if_neg]
      · exact hX
      simp only [cType, Int32.lt_iff_toInt_lt, Int32.le_iff_toInt_le, not_or] at *
      omega
  · try simp only [i01, Classical.not_not] at b4
    refine x_iload dX9_type_7 rfl ?_
    refine x_if_lt dX9_type_8 (fun b8 => ?_) (fun b8 => ?_)
    · refine x_k dX9_type_18 ?_
      refine x_iret (ty := .int) dX9_type_20 rfl rfl (Nat.zero_le _) (Nat.zero_le _) ?_
      refine ⟨?_, Nat.le_refl _, ?_, fun _ _ => rfl⟩
      · rw [aType, if_neg]
        simp only [cType, Int32.lt_iff_toInt_lt, Int32.le_iff_toInt_le, not_or] at *
        omega
      · rw [dType, if_neg]
        · exact hX
        simp only [cType, Int32.lt_iff_toInt_lt, Int32.le_iff_toInt_le, not_or] at *
        omega
    · refine x_iload dX9_type_11 rfl ?_
      refine x_k dX9_type_12 ?_
      refine x_icmp_le dX9_type_15 (fun b15 => ?_) (fun b15 => ?_)
      · exact J21 (by simp only [cType, Int32.lt_iff_toInt_lt, Int32.le_iff_toInt_le, not_or] at *; omega)
      · refine x_k dX9_type_18 ?_
        refine x_iret (ty := .int) dX9_type_20 rfl rfl (Nat.zero_le _) (Nat.zero_le _) ?_
        refine ⟨?_, Nat.le_refl _, ?_, fun _ _ => rfl⟩
        · rw [aType, if_neg]
          simp only [cType, Int32.lt_iff_toInt_lt, Int32.le_iff_toInt_le, not_or] at *
          omega
        · rw [dType, if_neg]
          · exact hX
          simp only [cType, Int32.lt_iff_toInt_lt, Int32.le_iff_toInt_le, not_or] at *
          omega
theorem c_wipe (t : Int32) (hX : XW h sz d) (hd : okD d) : Rn Γ mX9_wipe [.ref 4, .int t] h sz (qW h sz (dWipe d t) (aWipe d t)) := by
  refine x_enter 1 (by decide) rfl ?_
  obtain ⟨hA, hK, hR, hD⟩ := id hX
  obtain ⟨t5, t6, t7, t8, t9⟩ := hA.T
  obtain ⟨ss, h4⟩ := hK.w4
  have hd' := ok_wipe t hd
  have J10 : cText t → Ex Γ mX9_wipe (gx_Z Γ mX9_wipe (qW h sz (dWipe d t) (aWipe d t))) 0 0 10 [.ref 4, .int t, .retAddr 0] [] h sz := by
    intro hc
    obtain ⟨i, hi, rfl⟩ := upto (n := 1) hc.1 hc.2 (by omega)
    have h01 : i = 0 ∨ i = 1 := by omega
    obtain ⟨H0, N0, ow, pr, od, kd, sp, ins, s10, s11, s12, s13, s14, s15, s16⟩ := hA.S
    obtain ⟨e1, e2, e3, e4⟩ := hA.E
    obtain ⟨ss', so, dn, ln, f, g, kf, tf, l4, l20, l21, l22, l23, l24⟩ := hK.L
    rcases h01 with rfl | rfl
    · have ed : dWipe d (nI 0) = dT0 d 0 (d_b0 d) := by rw [dWipe, if_pos hc, if_pos n00]
      have ea : aWipe d (nI 0) = nI (d_n0 d) := by rw [aWipe, if_pos hc, if_pos n00]
      rw [ed] at hd' ⊢
      rw [ea]
      refine x_aload dX9_wipe_10 rfl ?_
      refine x_get fX9_12 dX9_wipe_11 (by first | assumption | rfl) ?_
      refine x_iload dX9_wipe_14 rfl ?_
      refine x_aaT (i := 0) (q := 6) dX9_wipe_15 t5 (by decide) ?_
      refine x_get fX9_92 dX9_wipe_16 (by first | assumption | rfl) ?_
      refine x_istore dX9_wipe_19 (Nat.le_of_ble_eq_true rfl) rfl ?_
      refine x_aload dX9_wipe_20 rfl ?_
      refine x_get fX9_12 dX9_wipe_21 (by first | assumption | rfl) ?_
      refine x_iload dX9_wipe_24 rfl ?_
      refine x_aaT (i := 0) (q := 6) dX9_wipe_25 t5 (by decide) ?_
      refine x_k dX9_wipe_26 ?_
      refine x_put fX9_92 tt8 gX9_92 dX9_wipe_27 (by first | assumption | rfl) (Nat.le_of_ble_eq_true rfl) (w8_1 _) ?_
      refine x_aload dX9_wipe_30 rfl ?_
      refine x_V0q lX9_89 (Rm.of rfl) (cc1 := 0) (cn1 := 0) rfl rfl (Nat.le_of_ble_eq_true rfl) dX9_wipe_31 (by first | assumption | rfl) (x_retell (d := dT0 d 0 (d_b0 d)) (d0 := d) ⟨t5, rfl, t7, t8, t9⟩ ⟨H0, N0, ow, pr, od, kd, sp, ins, s10, s11, s12, s13, s14, s15, s16⟩ ⟨e1, e2, e3, e4⟩ ⟨ss', so, dn, ln, f, g, kf, tf, l4, l20, l21, l22, l23, l24⟩ (hR.of (fun k hk => by simp only [va_up]; (repeat' split) <;> first | rfl | omega)) (hD.of (fun k hk => by simp only [va_up]; (repeat' split) <;> first | rfl | omega)) hd') ?_
      rintro _ h2 _ ⟨rfl, rfl, hX2, hF2⟩
      refine x_iload dX9_wipe_34 rfl ?_
      refine x_iret (ty := .int) dX9_wipe_35 rfl rfl (Nat.zero_le _) (Nat.zero_le _) ?_
      exact ⟨rfl, Nat.le_refl _, hX2, fun k hk => (hF2 k hk).trans (by simp only [va_up]; (repeat' split) <;> first | rfl | omega)⟩
    · have ed : dWipe d (nI 1) = dT1 d 0 (d_b1 d) := by rw [dWipe, if_pos hc, if_neg n10]
      have ea : aWipe d (nI 1) = nI (d_n1 d) := by rw [aWipe, if_pos hc, if_neg n10]
      rw [ed] at hd' ⊢
      rw [ea]
      refine x_aload dX9_wipe_10 rfl ?_
      refine x_get fX9_12 dX9_wipe_11 (by first | assumption | rfl) ?_
      refine x_iload dX9_wipe_14 rfl ?_
      refine x_aaT (i := 1) (q := 8) dX9_wipe_15 t5 (by decide) ?_
      refine x_get fX9_92 dX9_wipe_16 (by first | assumption | rfl) ?_
      refine x_istore dX9_wipe_19 (Nat.le_of_ble_eq_true rfl) rfl ?_
      refine x_aload dX9_wipe_20 rfl ?_
      refine x_get fX9_12 dX9_wipe_21 (by first | assumption | rfl) ?_
      refine x_iload dX9_wipe_24 rfl ?_
      refine x_aaT (i := 1) (q := 8) dX9_wipe_25 t5 (by decide) ?_
      refine x_k dX9_wipe_26 ?_
      refine x_put fX9_92 tt8 gX9_92 dX9_wipe_27 (by first | assumption | rfl) (Nat.le_of_ble_eq_true rfl) (w8_1 _) ?_
      refine x_aload dX9_wipe_30 rfl ?_
      refine x_V0q lX9_89 (Rm.of rfl) (cc1 := 0) (cn1 := 0) rfl rfl (Nat.le_of_ble_eq_true rfl) dX9_wipe_31 (by first | assumption | rfl) (x_retell (d := dT1 d 0 (d_b1 d)) (d0 := d) ⟨t5, t6, t7, rfl, t9⟩ ⟨H0, N0, ow, pr, od, kd, sp, ins, s10, s11, s12, s13, s14, s15, s16⟩ ⟨e1, e2, e3, e4⟩ ⟨ss', so, dn, ln, f, g, kf, tf, l4, l20, l21, l22, l23, l24⟩ (hR.of (fun k hk => by simp only [va_up]; (repeat' split) <;> first | rfl | omega)) (hD.of (fun k hk => by simp only [va_up]; (repeat' split) <;> first | rfl | omega)) hd') ?_
      rintro _ h2 _ ⟨rfl, rfl, hX2, hF2⟩
      refine x_iload dX9_wipe_34 rfl ?_
      refine x_iret (ty := .int) dX9_wipe_35 rfl rfl (Nat.zero_le _) (Nat.zero_le _) ?_
      exact ⟨rfl, Nat.le_refl _, hX2, fun k hk => (hF2 k hk).trans (by simp only [va_up]; (repeat' split) <;> first | rfl | omega)⟩
  refine x_iload dX9_wipe_0 rfl ?_
  refine x_S1i lX9_82 (Rm.of rfl) (cc1 := 0) (cn1 := 0) rfl rfl (Nat.le_of_ble_eq_true rfl) dX9_wipe_1 (r_noText t) ?_
  refine x_if_eq dX9_wipe_4 (fun b4 => ?_) (fun b4 => ?_)
  · try simp only [i01, Classical.not_not] at b4
    exact J10 (by simp only [cText, Int32.lt_iff_toInt_lt, Int32.le_iff_toInt_le, not_or] at *; omega)
  · try simp only [i01, Classical.not_not] at b4
    refine x_k dX9_wipe_7 ?_
    refine x_iret (ty := .int) dX9_wipe_9 rfl rfl (Nat.zero_le _) (Nat.zero_le _) ?_
    refine ⟨?_, Nat.le_refl _, ?_, fun _ _ => rfl⟩
    · rw [aWipe, if_neg]
      simp only [cText, Int32.lt_iff_toInt_lt, Int32.le_iff_toInt_le, not_or] at *
      omega
    · rw [dWipe, if_neg]
      · exact hX
      simp only [cText, Int32.lt_iff_toInt_lt, Int32.le_iff_toInt_le, not_or] at *
      omega
end XSet
