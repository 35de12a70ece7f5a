/-! deeds: fill, fewestTo -/
/-- the deeds have been filled -/
def XDF (h : Hp) (sz : Nat) (d : DT) : Prop := ∃ (k l : Nat) (wt so dn ln : Int32) (f g kf tf ff qf : Nat → Int32),
  (h 39 = cD (.ref k) (.ref l) wt 1 ∧ h 40 = cK 41 42 43 44 so dn ln ∧ h 41 = ia 8 f ∧ h 42 = ia 8 g ∧ h 43 = ia 8 kf ∧ h 44 = ia 8 tf) ∧ k ≠ l ∧ (85 ≤ k ∧ k < sz) ∧ (85 ≤ l ∧ l < sz) ∧ h k = sa 4096 ff ∧ h l = sa 4096 qf ∧ DF d ff
theorem XDF.D {h : Hp} {sz : Nat} {d : DT} (hE : XDF h sz d) : XD h sz d := by
  obtain ⟨k, l, wt, so, dn, ln, f, g, kf, tf, ff, qf, a1, a2, a3, a4, a5, a6, a7⟩ := hE
  exact ⟨.ref k, .ref l, wt, 1, so, dn, ln, f, g, kf, tf, a1, Or.inr ⟨rfl, ff, ⟨k, l, qf, rfl, rfl, a2, a3, a4, a5, a6⟩, a7⟩⟩
/-- what filling leaves: all but the deeds' cells and their ways -/
def frD (h h' : Hp) (sz : Nat) : Prop := ∀ j, (j < 39 ∨ 44 < j) → j < sz → (85 ≤ j → ∀ e, h j ≠ sa 4096 e) → h' j = h j
theorem frD.lo {h h' : Hp} {sz : Nat} (a : frD h h' sz) (hsz : 85 ≤ sz) : ∀ j, (j < 39 ∨ (44 < j ∧ j < 85)) → h' j = h j := fun j hj => a j (by omega) (by omega) (fun z => absurd z (by omega))
theorem frD.X {h h' : Hp} {sz : Nat} (a : frD h h' sz) (hsz : 85 ≤ sz) : frX h h' := fun j hj => a.lo hsz j (by omega)
section DeedsC
variable {Γ : GX} {h : Hp} {sz : Nat} {d : DT}
def DL (h : Hp) (k l : Nat) (s : QS) (h' : Hp) : Prop := QC h' k l s ∧ (∃ (dn ln : Int32) (f g kf tf : Nat → Int32), h' 40 = cK 41 42 43 44 (soN (fun _ => 0)) dn ln ∧ h' 41 = ia 8 f ∧ h' 42 = ia 8 g ∧ h' 43 = ia 8 kf ∧ h' 44 = ia 8 tf) ∧ ∀ j, (j < 39 ∨ 44 < j) → j ≠ k → j ≠ l → h' j = h j
theorem bfs_to {i n : Nat} (hn : i ≤ n) (y : ¬ i < (bfs d i).2.2) : bfs d n = bfs d i := by
  have e := bfs_stop y (n - i)
  have e2 : i + (n - i) = n := by omega
  rw [e2] at e
  exact e
theorem x_dfillL_0 {Q : QT} {k l w3 : Nat} (hA : XA h d) (hd : okD d) (hH : d_H d ≤ 4) (hk : 85 ≤ k ∧ k < sz) (hl : 85 ≤ l ∧ l < sz) (hkl : k ≠ l) (hQ : ∀ h' : Hp, XDF h' sz d → (∀ j, (j < 39 ∨ 44 < j) → j ≠ k → j ≠ l → h' j = h j) → Q none h' sz) : ∀ i, i ≤ 4096 → ∀ h' : Hp, DL h k l (bfs d i) h' → Ex Γ mX0_fill (gx_Z Γ mX0_fill Q) 0 0 112 [.ref 39, .ref 10, .int (nI (d_L d)), .int (nI w3), .int (nI i)] [] h' sz := by
  obtain ⟨ow, pr, od, kd, sp, ins, a1, ⟨a10, a11, a12, a13, a14, a15, a16⟩, ⟨a17, a18, a19⟩, a4, a5, a6, f1, f2, f3, f4⟩ := id hA
  have hk1 := hk.1
  have hl1 := hl.1
  have fin : ∀ (i : Nat) (v : Value) (h' : Hp), DL h k l (bfs d i) h' → bfs d 4096 = bfs d i → Ex Γ mX0_fill (gx_Z Γ mX0_fill Q) 0 0 148 [.ref 39, .ref 10, .int (nI (d_L d)), .int (nI w3), v] [] h' sz := by
    intro i v h' hD eb
    obtain ⟨⟨q39, ff, qf, qk, ql, q1, q2⟩, ⟨dn, ln, f, g, kf, tf, q40, q41, q42, q43, q44⟩, hfr⟩ := hD
    refine x_aload dX0_fill_148 rfl ?_
    refine x_k dX0_fill_149 ?_
    refine x_put fX0_29 tt0 gX0_29 dX0_fill_150 (by first | assumption | rfl | exact up_same | exact (up_ne (by omega)).trans (by assumption) | exact (up_ne (by assumption)).trans (by assumption) | exact (up_ne (by omega)).trans up_same | exact (up_ne (by omega)).trans ((up_ne (by omega)).trans (by assumption))) (Nat.le_of_ble_eq_true rfl) (by first | exact w0_40 | exact w0_41) ?_
    refine x_vret dX0_fill_153 rfl (Nat.le_of_ble_eq_true rfl) (Nat.le_of_ble_eq_true rfl) ?_
    refine hQ _ ⟨k, l, nI (bfs d i).2.2, _, dn, ln, f, g, kf, tf, ff, qf, ⟨up_same, (up_ne (by decide)).trans q40, (up_ne (by decide)).trans q41, (up_ne (by decide)).trans q42, (up_ne (by decide)).trans q43, (up_ne (by decide)).trans q44⟩, hkl, hk, hl, (up_ne (by omega)).trans qk, (up_ne (by omega)).trans ql, hH, fun j hj => ?_⟩ (fun j hj jk jl => (up_ne (by omega)).trans (hfr j hj jk jl))
    rw [eb]; exact q1 j hj
  refine loopUp 4096 (fun h' hD => ?_) (fun i hi ih h' hD => ?_)
  · obtain ⟨⟨q39, -⟩, -⟩ := id hD
    refine x_iload dX0_fill_112 rfl ?_
    refine x_k dX0_fill_114 ?_
    refine x_icmp_ge dX0_fill_117 (fun b117 => ?_) (fun b117 => ?_)
    · exact fin 4096 _ h' hD rfl
    · exact absurd (Int32.le_refl _) b117
  · obtain ⟨hQC, ⟨dn, ln, f, g, kf, tf, q40, q41, q42, q43, q44⟩, hfr⟩ := id hD
    obtain ⟨q39, ff, qf, qk, ql, q1, q2⟩ := id hQC
    have hqi := QI.b hd hH i
    have hle := hqi.le
    have gl : nI (bfs d i).2.2 ≤ nI i ↔ (bfs d i).2.2 ≤ i := nI_leI (by omega) (by omega)
    have c10 := (hfr 10 (by omega) (by omega) (by omega)).trans a10
    have c16 := (hfr 16 (by omega) (by omega) (by omega)).trans a16
    by_cases y : i < (bfs d i).2.2
    · have eb : bfs d (i + 1) = sllH (hndW d) (d_N d) ((bfs d i).2.1 i) (bfs d i) (d_H d) := by
        have e : bfs d (i + 1) = if i < (bfs d i).2.2 then sllH (hndW d) (d_N d) ((bfs d i).2.1 i) (bfs d i) (d_H d) else bfs d i := rfl
        rw [e, if_pos y]
      obtain ⟨m, hsi, hm⟩ := hqi.SI y
      obtain ⟨w1, w2, -⟩ := hqi.2 i y
      have hm1 : m < 4096 := Nat.lt_of_lt_of_le hsi.2.2 hle
      refine x_iload dX0_fill_112 rfl ?_
      refine x_k dX0_fill_114 ?_
      refine x_icmp_ge dX0_fill_117 (fun b117 => ?_) (fun b117 => ?_)
      · exact absurd b117 (nI_ge (b := 4096) hi (by decide))
      · refine x_iload dX0_fill_120 rfl ?_
        refine x_aload dX0_fill_122 rfl ?_
        refine x_get fX0_25 dX0_fill_123 (by first | assumption | rfl | exact up_same | exact (up_ne (by omega)).trans (by assumption) | exact (up_ne (by assumption)).trans (by assumption) | exact (up_ne (by omega)).trans up_same | exact (up_ne (by omega)).trans ((up_ne (by omega)).trans (by assumption))) ?_
        refine x_icmp_ge dX0_fill_126 (fun b126 => ?_) (fun b126 => ?_)
        · exact absurd (gl.mp b126) (by omega)
        · refine x_aload dX0_fill_129 rfl ?_
          refine x_aload dX0_fill_130 rfl ?_
          refine x_get fX0_22 dX0_fill_131 (by first | assumption | rfl | exact up_same | exact (up_ne (by omega)).trans (by assumption) | exact (up_ne (by assumption)).trans (by assumption) | exact (up_ne (by omega)).trans up_same | exact (up_ne (by omega)).trans ((up_ne (by omega)).trans (by assumption))) ?_
          refine x_iload dX0_fill_134 rfl ?_
          refine x_saldn dX0_fill_136 (by first | assumption | rfl | exact up_same | exact (up_ne (by omega)).trans (by assumption) | exact (up_ne (by assumption)).trans (by assumption) | exact (up_ne (by omega)).trans up_same | exact (up_ne (by omega)).trans ((up_ne (by omega)).trans (by assumption))) ⟨by first | omega | decide, by decide⟩ ?_
          rw [q2 i y]
          refine x_aload dX0_fill_137 rfl ?_
          refine x_iload dX0_fill_138 rfl ?_
          refine x_V3q lX0_60 (Rm.of rfl) (cc1 := 0) (cn1 := 0) rfl rfl (Nat.le_of_ble_eq_true rfl) dX0_fill_139 (by first | assumption | rfl | exact up_same | exact (up_ne (by omega)).trans (by assumption) | exact (up_ne (by assumption)).trans (by assumption) | exact (up_ne (by omega)).trans up_same | exact (up_ne (by omega)).trans ((up_ne (by omega)).trans (by assumption))) (r_sellFrom hd hH hk1 hl1 hkl hQC hsi hm1 w1 w2 c10 c16 f4 q40 q42) ?_
          rintro _ h5 _ ⟨rfl, rfl, hq5, ⟨g5, e42⟩, f5⟩
          refine x_inc1 dX0_fill_142 rfl (Nat.le_of_ble_eq_true rfl) rfl ?_
          refine x_goto dX0_fill_145 ?_
          refine ih h5 ⟨by rw [eb]; exact hq5, ⟨dn, ln, f, g5, kf, tf, (f5 40 (by decide) (by decide) (by omega) (by omega)).trans q40, (f5 41 (by decide) (by decide) (by omega) (by omega)).trans q41, e42, (f5 43 (by decide) (by decide) (by omega) (by omega)).trans q43, (f5 44 (by decide) (by decide) (by omega) (by omega)).trans q44⟩, fun j hj jk jl => (f5 j (by omega) (by omega) jk jl).trans (hfr j hj jk jl)⟩
    · have hi' : i ≤ 4096 := Nat.le_of_lt hi
      have hy : (bfs d i).2.2 ≤ i := Nat.le_of_not_lt y
      refine x_iload dX0_fill_112 rfl ?_
      refine x_k dX0_fill_114 ?_
      refine x_icmp_ge dX0_fill_117 (fun b117 => ?_) (fun b117 => ?_)
      · exact absurd b117 (nI_ge (b := 4096) hi (by decide))
      · refine x_iload dX0_fill_120 rfl ?_
        refine x_aload dX0_fill_122 rfl ?_
        refine x_get fX0_25 dX0_fill_123 (by first | assumption | rfl | exact up_same | exact (up_ne (by omega)).trans (by assumption) | exact (up_ne (by assumption)).trans (by assumption) | exact (up_ne (by omega)).trans up_same | exact (up_ne (by omega)).trans ((up_ne (by omega)).trans (by assumption))) ?_
        refine x_icmp_ge dX0_fill_126 (fun b126 => ?_) (fun b126 => ?_)
        · exact fin i _ _ hD (bfs_to hi' y)
        · exact absurd (gl.mpr hy) b126
theorem x_dfillA_0 {Q : QT} {k l : Nat} {wt so dn ln : Int32} {f g kf tf ff qf : Nat → Int32} (hA : XA h d) (hd : okD d) (hH : d_H d ≤ 4) (a39 : h 39 = cD (.ref k) (.ref l) wt 0) (a40 : h 40 = cK 41 42 43 44 so dn ln) (a41 : h 41 = ia 8 f) (a42 : h 42 = ia 8 g) (a43 : h 43 = ia 8 kf) (a44 : h 44 = ia 8 tf) (hk : 85 ≤ k ∧ k < sz) (hl : 85 ≤ l ∧ l < sz) (hkl : k ≠ l) (hfk : h k = sa 4096 ff) (hfl : h l = sa 4096 qf) (hQ : ∀ h' : Hp, XDF h' sz d → (∀ j, (j < 39 ∨ 44 < j) → j ≠ k → j ≠ l → h' j = h j) → Q none h' sz) : Ex Γ mX0_fill (gx_Z Γ mX0_fill Q) 0 0 48 [.ref 39, .ref 10, .int (nI (d_L d)), .retAddr 0, .retAddr 0] [] h sz := by
  obtain ⟨ow, pr, od, kd, sp, ins, a1, ⟨a10, a11, a12, a13, a14, a15, a16⟩, ⟨a17, a18, a19⟩, a4, a5, a6, f1, f2, f3, f4⟩ := id hA
  have hk1 := hk.1
  have hl1 := hl.1
  have hw0 := wayOf_dig (H := d_H d) (own := ownN (d_b0 d)) hH (fun j hj => (ownN_ok hd.1.1 hj).2)
  have J66 : ∀ j, j ≤ d_H d → Ex Γ mX0_fill (gx_Z Γ mX0_fill Q) 0 0 66 [.ref 39, .ref 10, .int (nI (d_L d)), .int (nI (wayOf j (ownN (d_b0 d)))), .int (nI j)] [] (va_up (va_up h k (sa 4096 (filF ff (-1) 4096))) 39 (cD (.ref k) (.ref l) 0 0)) sz := by
    have e10 : (va_up (va_up h k (sa 4096 (filF ff (-1) 4096))) 39 (cD (.ref k) (.ref l) 0 0)) 10 = cSt (nI (d_H d)) (nI (d_N d)) := by rw [up_ne (by decide), up_ne (by omega)]; exact a10
    have e11 : (va_up (va_up h k (sa 4096 (filF ff (-1) 4096))) 39 (cD (.ref k) (.ref l) 0 0)) 11 = ia 8 ow := by rw [up_ne (by decide), up_ne (by omega)]; exact a11
    refine loopUp (d_H d) ?_ (fun j hj ih => ?_)
    · have hq0 : QC (va_up (va_up h k (sa 4096 (filF ff (-1) 4096))) 39 (cD (.ref k) (.ref l) 0 0)) k l (fun _ => -1, fun _ => 0, 0) := by
        refine ⟨up_same, filF ff (-1) 4096, qf, ?_, ?_, fun i hi => if_pos hi, fun i hi => absurd hi (Nat.not_lt_zero i)⟩
        · rw [up_ne (by omega), up_same]
        · rw [up_ne (by omega), up_ne (by omega)]; exact hfl
      refine x_iload dX0_fill_66 rfl ?_
      refine x_aload dX0_fill_68 rfl ?_
      refine x_get fX0_33 dX0_fill_69 (by first | assumption | rfl | exact up_same | exact (up_ne (by omega)).trans (by assumption) | exact (up_ne (by assumption)).trans (by assumption) | exact (up_ne (by omega)).trans up_same | exact (up_ne (by omega)).trans ((up_ne (by omega)).trans (by assumption))) ?_
      refine x_icmp_ge dX0_fill_72 (fun b72 => ?_) (fun b72 => ?_)
      · refine x_aload dX0_fill_95 rfl ?_
        refine x_iload dX0_fill_96 rfl ?_
        refine x_k dX0_fill_97 ?_
        refine x_V2q lX0_52 (Rm.of rfl) (cc1 := 0) (cn1 := 0) rfl rfl (Nat.le_of_ble_eq_true rfl) dX0_fill_98 (by first | assumption | rfl | exact up_same | exact (up_ne (by omega)).trans (by assumption) | exact (up_ne (by assumption)).trans (by assumption) | exact (up_ne (by omega)).trans up_same | exact (up_ne (by omega)).trans ((up_ne (by omega)).trans (by assumption))) (r_reach hk1 hl1 hkl hq0 (Nat.zero_le _) hw0.1 (by decide)) ?_
        rintro _ h5 _ ⟨rfl, rfl, hq5, f5⟩
        have p39' := hq5.1
        have g5 : ∀ j, j ≠ 39 → j ≠ k → j ≠ l → h5 j = h j := fun j j1 j2 j3 => by rw [f5 j j1 j2 j3, up_ne j1, up_ne j2]
        have p40' := (g5 40 (by decide) (by omega) (by omega)).trans a40
        refine x_aload dX0_fill_101 rfl ?_
        refine x_get fX0_12 dX0_fill_102 (by first | assumption | rfl | exact up_same | exact (up_ne (by omega)).trans (by assumption) | exact (up_ne (by assumption)).trans (by assumption) | exact (up_ne (by omega)).trans up_same | exact (up_ne (by omega)).trans ((up_ne (by omega)).trans (by assumption))) ?_
        refine x_aload dX0_fill_105 rfl ?_
        refine x_V1q lX0_56 (Rm.of rfl) (cc1 := 0) (cn1 := 0) rfl rfl (Nat.le_of_ble_eq_true rfl) dX0_fill_106 (by first | assumption | rfl | exact up_same | exact (up_ne (by omega)).trans (by assumption) | exact (up_ne (by assumption)).trans (by assumption) | exact (up_ne (by omega)).trans up_same | exact (up_ne (by omega)).trans ((up_ne (by omega)).trans (by assumption))) (r_begin_40 (own := ownN (d_b0 d)) (H := d_H d) (N := d_N d) ((g5 40 (by decide) (by omega) (by omega)).trans a40) ((g5 41 (by decide) (by omega) (by omega)).trans a41) ((g5 42 (by decide) (by omega) (by omega)).trans a42) ((g5 43 (by decide) (by omega) (by omega)).trans a43) ((g5 44 (by decide) (by omega) (by omega)).trans a44) ((g5 10 (by decide) (by omega) (by omega)).trans a10) ((g5 11 (by decide) (by omega) (by omega)).trans a11) ((g5 13 (by decide) (by omega) (by omega)).trans a13) (by omega) (fun j hj => ⟨(f1 j hj).1, (ownN_ok hd.1.1 hj).2⟩) f2) ?_
        rintro _ _ _ ⟨rfl, rfl, f6, g6, kf6, tf6, hs6, rfl⟩
        refine x_k dX0_fill_109 ?_
        refine x_istore dX0_fill_110 (Nat.le_of_ble_eq_true rfl) rfl ?_
        refine x_eq rfl rfl rfl (x_dfillL_0 hA hd hH hk hl hkl hQ 0 (Nat.zero_le _) _ ⟨?_, ⟨_, _, f6, g6, kf6, tf6, rfl, rfl, rfl, rfl, rfl⟩, fun j hj jk jl => ?_⟩)
        · obtain ⟨p39, gf, rf, pk, pl, p1, p2⟩ := hq5
          refine ⟨p39, gf, rf, ?_, ?_, p1, p2⟩
          · rw [skH_40, up_ne (by omega), up_ne (by omega), up_ne (by omega), up_ne (by omega), up_ne (by omega)]; exact pk
          · rw [skH_40, up_ne (by omega), up_ne (by omega), up_ne (by omega), up_ne (by omega), up_ne (by omega)]; exact pl
        · rw [skH_40, up_ne (by omega), up_ne (by omega), up_ne (by omega), up_ne (by omega), up_ne (by omega)]; exact g5 j (by omega) jk jl
      · exact absurd (Int32.le_refl _) b72
    · have eo := (ownN_ok hd.1.1 hj).2
      have ews := wayOf_set (own := ownN (d_b0 d)) (k := j) (by omega) (fun i hi => (ownN_ok hd.1.1 (Nat.lt_of_lt_of_le hi hj)).2)
      rw [← ews] at ih
      refine x_iload dX0_fill_66 rfl ?_
      refine x_aload dX0_fill_68 rfl ?_
      refine x_get fX0_33 dX0_fill_69 (by first | assumption | rfl | exact up_same | exact (up_ne (by omega)).trans (by assumption) | exact (up_ne (by assumption)).trans (by assumption) | exact (up_ne (by omega)).trans up_same | exact (up_ne (by omega)).trans ((up_ne (by omega)).trans (by assumption))) ?_
      refine x_icmp_ge dX0_fill_72 (fun b72 => ?_) (fun b72 => ?_)
      · exact absurd b72 (nI_ge hj (by omega))
      · refine x_iload dX0_fill_75 rfl ?_
        refine x_iload dX0_fill_76 rfl ?_
        refine x_aload dX0_fill_78 rfl ?_
        refine x_get fX0_44 dX0_fill_79 (by first | assumption | rfl | exact up_same | exact (up_ne (by omega)).trans (by assumption) | exact (up_ne (by assumption)).trans (by assumption) | exact (up_ne (by omega)).trans up_same | exact (up_ne (by omega)).trans ((up_ne (by omega)).trans (by assumption))) ?_
        refine x_iload dX0_fill_82 rfl ?_
        refine x_ialdn dX0_fill_84 (by first | assumption | rfl | exact up_same | exact (up_ne (by omega)).trans (by assumption) | exact (up_ne (by assumption)).trans (by assumption) | exact (up_ne (by omega)).trans up_same | exact (up_ne (by omega)).trans ((up_ne (by omega)).trans (by assumption))) ⟨by first | omega | decide, by decide⟩ ?_
        rw [(f1 j hj).1]
        refine x_S3i lX0_48 (Rm.of rfl) (cc1 := 0) (cn1 := 0) rfl rfl (Nat.le_of_ble_eq_true rfl) dX0_fill_85 (r_withOwner (way := wayOf j (ownN (d_b0 d))) (by omega) eo) ?_
        refine x_istore dX0_fill_88 (Nat.le_of_ble_eq_true rfl) rfl ?_
        refine x_inc1 dX0_fill_89 rfl (Nat.le_of_ble_eq_true rfl) rfl ?_
        refine x_goto dX0_fill_92 ?_
        exact ih
  refine x_aload dX0_fill_48 rfl ?_
  refine x_get fX0_18 dX0_fill_49 (by first | assumption | rfl | exact up_same | exact (up_ne (by omega)).trans (by assumption) | exact (up_ne (by assumption)).trans (by assumption) | exact (up_ne (by omega)).trans up_same | exact (up_ne (by omega)).trans ((up_ne (by omega)).trans (by assumption))) ?_
  refine x_k dX0_fill_52 ?_
  refine x_S2v lX0_38 (Rm.of rfl) (cc1 := 0) (cn1 := 0) rfl rfl (Nat.le_of_ble_eq_true rfl) dX0_fill_53 (r_fillH hfk (by decide) (by decide)) ?_
  refine x_aload dX0_fill_56 rfl ?_
  refine x_k dX0_fill_57 ?_
  refine x_put fX0_25 tt0 gX0_25 dX0_fill_58 (by first | assumption | rfl | exact up_same | exact (up_ne (by omega)).trans (by assumption) | exact (up_ne (by assumption)).trans (by assumption) | exact (up_ne (by omega)).trans up_same | exact (up_ne (by omega)).trans ((up_ne (by omega)).trans (by assumption))) (Nat.le_of_ble_eq_true rfl) (w0_3 _) ?_
  refine x_k dX0_fill_61 ?_
  refine x_istore dX0_fill_62 (Nat.le_of_ble_eq_true rfl) rfl ?_
  refine x_k dX0_fill_63 ?_
  refine x_istore dX0_fill_64 (Nat.le_of_ble_eq_true rfl) rfl ?_
  refine x_eq rfl rfl ?_ (J66 0 (Nat.zero_le _))
  rfl
theorem x_dfillL_2 {Q : QT} {k l w3 : Nat} (hA : XA h d) (hd : okD d) (hH : d_H d ≤ 4) (hk : 85 ≤ k ∧ k < sz) (hl : 85 ≤ l ∧ l < sz) (hkl : k ≠ l) (hQ : ∀ h' : Hp, XDF h' sz d → (∀ j, (j < 39 ∨ 44 < j) → j ≠ k → j ≠ l → h' j = h j) → Q none h' sz) : ∀ i, i ≤ 4096 → ∀ h' : Hp, DL h k l (bfs d i) h' → Ex Γ mX0_fill (gx_Z Γ mX0_fill Q) 2 8192 112 [.ref 39, .ref 10, .int (nI (d_L d)), .int (nI w3), .int (nI i)] [] h' sz := by
  obtain ⟨ow, pr, od, kd, sp, ins, a1, ⟨a10, a11, a12, a13, a14, a15, a16⟩, ⟨a17, a18, a19⟩, a4, a5, a6, f1, f2, f3, f4⟩ := id hA
  have hk1 := hk.1
  have hl1 := hl.1
  have fin : ∀ (i : Nat) (v : Value) (h' : Hp), DL h k l (bfs d i) h' → bfs d 4096 = bfs d i → Ex Γ mX0_fill (gx_Z Γ mX0_fill Q) 2 8192 148 [.ref 39, .ref 10, .int (nI (d_L d)), .int (nI w3), v] [] h' sz := by
    intro i v h' hD eb
    obtain ⟨⟨q39, ff, qf, qk, ql, q1, q2⟩, ⟨dn, ln, f, g, kf, tf, q40, q41, q42, q43, q44⟩, hfr⟩ := hD
    refine x_aload dX0_fill_148 rfl ?_
    refine x_k dX0_fill_149 ?_
    refine x_put fX0_29 tt0 gX0_29 dX0_fill_150 (by first | assumption | rfl | exact up_same | exact (up_ne (by omega)).trans (by assumption) | exact (up_ne (by assumption)).trans (by assumption) | exact (up_ne (by omega)).trans up_same | exact (up_ne (by omega)).trans ((up_ne (by omega)).trans (by assumption))) (Nat.le_of_ble_eq_true rfl) (by first | exact w0_40 | exact w0_41) ?_
    refine x_vret dX0_fill_153 rfl (Nat.le_of_ble_eq_true rfl) (Nat.le_of_ble_eq_true rfl) ?_
    refine hQ _ ⟨k, l, nI (bfs d i).2.2, _, dn, ln, f, g, kf, tf, ff, qf, ⟨up_same, (up_ne (by decide)).trans q40, (up_ne (by decide)).trans q41, (up_ne (by decide)).trans q42, (up_ne (by decide)).trans q43, (up_ne (by decide)).trans q44⟩, hkl, hk, hl, (up_ne (by omega)).trans qk, (up_ne (by omega)).trans ql, hH, fun j hj => ?_⟩ (fun j hj jk jl => (up_ne (by omega)).trans (hfr j hj jk jl))
    rw [eb]; exact q1 j hj
  refine loopUp 4096 (fun h' hD => ?_) (fun i hi ih h' hD => ?_)
  · obtain ⟨⟨q39, -⟩, -⟩ := id hD
    refine x_iload dX0_fill_112 rfl ?_
    refine x_k dX0_fill_114 ?_
    refine x_icmp_ge dX0_fill_117 (fun b117 => ?_) (fun b117 => ?_)
    · exact fin 4096 _ h' hD rfl
    · exact absurd (Int32.le_refl _) b117
  · obtain ⟨hQC, ⟨dn, ln, f, g, kf, tf, q40, q41, q42, q43, q44⟩, hfr⟩ := id hD
    obtain ⟨q39, ff, qf, qk, ql, q1, q2⟩ := id hQC
    have hqi := QI.b hd hH i
    have hle := hqi.le
    have gl : nI (bfs d i).2.2 ≤ nI i ↔ (bfs d i).2.2 ≤ i := nI_leI (by omega) (by omega)
    have c10 := (hfr 10 (by omega) (by omega) (by omega)).trans a10
    have c16 := (hfr 16 (by omega) (by omega) (by omega)).trans a16
    by_cases y : i < (bfs d i).2.2
    · have eb : bfs d (i + 1) = sllH (hndW d) (d_N d) ((bfs d i).2.1 i) (bfs d i) (d_H d) := by
        have e : bfs d (i + 1) = if i < (bfs d i).2.2 then sllH (hndW d) (d_N d) ((bfs d i).2.1 i) (bfs d i) (d_H d) else bfs d i := rfl
        rw [e, if_pos y]
      obtain ⟨m, hsi, hm⟩ := hqi.SI y
      obtain ⟨w1, w2, -⟩ := hqi.2 i y
      have hm1 : m < 4096 := Nat.lt_of_lt_of_le hsi.2.2 hle
      refine x_iload dX0_fill_112 rfl ?_
      refine x_k dX0_fill_114 ?_
      refine x_icmp_ge dX0_fill_117 (fun b117 => ?_) (fun b117 => ?_)
      · exact absurd b117 (nI_ge (b := 4096) hi (by decide))
      · refine x_iload dX0_fill_120 rfl ?_
        refine x_aload dX0_fill_122 rfl ?_
        refine x_get fX0_25 dX0_fill_123 (by first | assumption | rfl | exact up_same | exact (up_ne (by omega)).trans (by assumption) | exact (up_ne (by assumption)).trans (by assumption) | exact (up_ne (by omega)).trans up_same | exact (up_ne (by omega)).trans ((up_ne (by omega)).trans (by assumption))) ?_
        refine x_icmp_ge dX0_fill_126 (fun b126 => ?_) (fun b126 => ?_)
        · exact absurd (gl.mp b126) (by omega)
        · refine x_aload dX0_fill_129 rfl ?_
          refine x_aload dX0_fill_130 rfl ?_
          refine x_get fX0_22 dX0_fill_131 (by first | assumption | rfl | exact up_same | exact (up_ne (by omega)).trans (by assumption) | exact (up_ne (by assumption)).trans (by assumption) | exact (up_ne (by omega)).trans up_same | exact (up_ne (by omega)).trans ((up_ne (by omega)).trans (by assumption))) ?_
          refine x_iload dX0_fill_134 rfl ?_
          refine x_saldn dX0_fill_136 (by first | assumption | rfl | exact up_same | exact (up_ne (by omega)).trans (by assumption) | exact (up_ne (by assumption)).trans (by assumption) | exact (up_ne (by omega)).trans up_same | exact (up_ne (by omega)).trans ((up_ne (by omega)).trans (by assumption))) ⟨by first | omega | decide, by decide⟩ ?_
          rw [q2 i y]
          refine x_aload dX0_fill_137 rfl ?_
          refine x_iload dX0_fill_138 rfl ?_
          refine x_V3q lX0_60 (Rm.of rfl) (cc1 := 2) (cn1 := 8192) rfl rfl (Nat.le_of_ble_eq_true rfl) dX0_fill_139 (by first | assumption | rfl | exact up_same | exact (up_ne (by omega)).trans (by assumption) | exact (up_ne (by assumption)).trans (by assumption) | exact (up_ne (by omega)).trans up_same | exact (up_ne (by omega)).trans ((up_ne (by omega)).trans (by assumption))) (r_sellFrom hd hH hk1 hl1 hkl hQC hsi hm1 w1 w2 c10 c16 f4 q40 q42) ?_
          rintro _ h5 _ ⟨rfl, rfl, hq5, ⟨g5, e42⟩, f5⟩
          refine x_inc1 dX0_fill_142 rfl (Nat.le_of_ble_eq_true rfl) rfl ?_
          refine x_goto dX0_fill_145 ?_
          refine ih h5 ⟨by rw [eb]; exact hq5, ⟨dn, ln, f, g5, kf, tf, (f5 40 (by decide) (by decide) (by omega) (by omega)).trans q40, (f5 41 (by decide) (by decide) (by omega) (by omega)).trans q41, e42, (f5 43 (by decide) (by decide) (by omega) (by omega)).trans q43, (f5 44 (by decide) (by decide) (by omega) (by omega)).trans q44⟩, fun j hj jk jl => (f5 j (by omega) (by omega) jk jl).trans (hfr j hj jk jl)⟩
    · have hi' : i ≤ 4096 := Nat.le_of_lt hi
      have hy : (bfs d i).2.2 ≤ i := Nat.le_of_not_lt y
      refine x_iload dX0_fill_112 rfl ?_
      refine x_k dX0_fill_114 ?_
      refine x_icmp_ge dX0_fill_117 (fun b117 => ?_) (fun b117 => ?_)
      · exact absurd b117 (nI_ge (b := 4096) hi (by decide))
      · refine x_iload dX0_fill_120 rfl ?_
        refine x_aload dX0_fill_122 rfl ?_
        refine x_get fX0_25 dX0_fill_123 (by first | assumption | rfl | exact up_same | exact (up_ne (by omega)).trans (by assumption) | exact (up_ne (by assumption)).trans (by assumption) | exact (up_ne (by omega)).trans up_same | exact (up_ne (by omega)).trans ((up_ne (by omega)).trans (by assumption))) ?_
        refine x_icmp_ge dX0_fill_126 (fun b126 => ?_) (fun b126 => ?_)
        · exact fin i _ _ hD (bfs_to hi' y)
        · exact absurd (gl.mpr hy) b126
theorem x_dfillA_2 {Q : QT} {k l : Nat} {wt so dn ln : Int32} {f g kf tf ff qf : Nat → Int32} (hA : XA h d) (hd : okD d) (hH : d_H d ≤ 4) (a39 : h 39 = cD (.ref k) (.ref l) wt 0) (a40 : h 40 = cK 41 42 43 44 so dn ln) (a41 : h 41 = ia 8 f) (a42 : h 42 = ia 8 g) (a43 : h 43 = ia 8 kf) (a44 : h 44 = ia 8 tf) (hk : 85 ≤ k ∧ k < sz) (hl : 85 ≤ l ∧ l < sz) (hkl : k ≠ l) (hfk : h k = sa 4096 ff) (hfl : h l = sa 4096 qf) (hQ : ∀ h' : Hp, XDF h' sz d → (∀ j, (j < 39 ∨ 44 < j) → j ≠ k → j ≠ l → h' j = h j) → Q none h' sz) : Ex Γ mX0_fill (gx_Z Γ mX0_fill Q) 2 8192 48 [.ref 39, .ref 10, .int (nI (d_L d)), .retAddr 0, .retAddr 0] [] h sz := by
  obtain ⟨ow, pr, od, kd, sp, ins, a1, ⟨a10, a11, a12, a13, a14, a15, a16⟩, ⟨a17, a18, a19⟩, a4, a5, a6, f1, f2, f3, f4⟩ := id hA
  have hk1 := hk.1
  have hl1 := hl.1
  have hw0 := wayOf_dig (H := d_H d) (own := ownN (d_b0 d)) hH (fun j hj => (ownN_ok hd.1.1 hj).2)
  have J66 : ∀ j, j ≤ d_H d → Ex Γ mX0_fill (gx_Z Γ mX0_fill Q) 2 8192 66 [.ref 39, .ref 10, .int (nI (d_L d)), .int (nI (wayOf j (ownN (d_b0 d)))), .int (nI j)] [] (va_up (va_up h k (sa 4096 (filF ff (-1) 4096))) 39 (cD (.ref k) (.ref l) 0 0)) sz := by
    have e10 : (va_up (va_up h k (sa 4096 (filF ff (-1) 4096))) 39 (cD (.ref k) (.ref l) 0 0)) 10 = cSt (nI (d_H d)) (nI (d_N d)) := by rw [up_ne (by decide), up_ne (by omega)]; exact a10
    have e11 : (va_up (va_up h k (sa 4096 (filF ff (-1) 4096))) 39 (cD (.ref k) (.ref l) 0 0)) 11 = ia 8 ow := by rw [up_ne (by decide), up_ne (by omega)]; exact a11
    refine loopUp (d_H d) ?_ (fun j hj ih => ?_)
    · have hq0 : QC (va_up (va_up h k (sa 4096 (filF ff (-1) 4096))) 39 (cD (.ref k) (.ref l) 0 0)) k l (fun _ => -1, fun _ => 0, 0) := by
        refine ⟨up_same, filF ff (-1) 4096, qf, ?_, ?_, fun i hi => if_pos hi, fun i hi => absurd hi (Nat.not_lt_zero i)⟩
        · rw [up_ne (by omega), up_same]
        · rw [up_ne (by omega), up_ne (by omega)]; exact hfl
      refine x_iload dX0_fill_66 rfl ?_
      refine x_aload dX0_fill_68 rfl ?_
      refine x_get fX0_33 dX0_fill_69 (by first | assumption | rfl | exact up_same | exact (up_ne (by omega)).trans (by assumption) | exact (up_ne (by assumption)).trans (by assumption) | exact (up_ne (by omega)).trans up_same | exact (up_ne (by omega)).trans ((up_ne (by omega)).trans (by assumption))) ?_
      refine x_icmp_ge dX0_fill_72 (fun b72 => ?_) (fun b72 => ?_)
      · refine x_aload dX0_fill_95 rfl ?_
        refine x_iload dX0_fill_96 rfl ?_
        refine x_k dX0_fill_97 ?_
        refine x_V2q lX0_52 (Rm.of rfl) (cc1 := 2) (cn1 := 8192) rfl rfl (Nat.le_of_ble_eq_true rfl) dX0_fill_98 (by first | assumption | rfl | exact up_same | exact (up_ne (by omega)).trans (by assumption) | exact (up_ne (by assumption)).trans (by assumption) | exact (up_ne (by omega)).trans up_same | exact (up_ne (by omega)).trans ((up_ne (by omega)).trans (by assumption))) (r_reach hk1 hl1 hkl hq0 (Nat.zero_le _) hw0.1 (by decide)) ?_
        rintro _ h5 _ ⟨rfl, rfl, hq5, f5⟩
        have p39' := hq5.1
        have g5 : ∀ j, j ≠ 39 → j ≠ k → j ≠ l → h5 j = h j := fun j j1 j2 j3 => by rw [f5 j j1 j2 j3, up_ne j1, up_ne j2]
        have p40' := (g5 40 (by decide) (by omega) (by omega)).trans a40
        refine x_aload dX0_fill_101 rfl ?_
        refine x_get fX0_12 dX0_fill_102 (by first | assumption | rfl | exact up_same | exact (up_ne (by omega)).trans (by assumption) | exact (up_ne (by assumption)).trans (by assumption) | exact (up_ne (by omega)).trans up_same | exact (up_ne (by omega)).trans ((up_ne (by omega)).trans (by assumption))) ?_
        refine x_aload dX0_fill_105 rfl ?_
        refine x_V1q lX0_56 (Rm.of rfl) (cc1 := 2) (cn1 := 8192) rfl rfl (Nat.le_of_ble_eq_true rfl) dX0_fill_106 (by first | assumption | rfl | exact up_same | exact (up_ne (by omega)).trans (by assumption) | exact (up_ne (by assumption)).trans (by assumption) | exact (up_ne (by omega)).trans up_same | exact (up_ne (by omega)).trans ((up_ne (by omega)).trans (by assumption))) (r_begin_40 (own := ownN (d_b0 d)) (H := d_H d) (N := d_N d) ((g5 40 (by decide) (by omega) (by omega)).trans a40) ((g5 41 (by decide) (by omega) (by omega)).trans a41) ((g5 42 (by decide) (by omega) (by omega)).trans a42) ((g5 43 (by decide) (by omega) (by omega)).trans a43) ((g5 44 (by decide) (by omega) (by omega)).trans a44) ((g5 10 (by decide) (by omega) (by omega)).trans a10) ((g5 11 (by decide) (by omega) (by omega)).trans a11) ((g5 13 (by decide) (by omega) (by omega)).trans a13) (by omega) (fun j hj => ⟨(f1 j hj).1, (ownN_ok hd.1.1 hj).2⟩) f2) ?_
        rintro _ _ _ ⟨rfl, rfl, f6, g6, kf6, tf6, hs6, rfl⟩
        refine x_k dX0_fill_109 ?_
        refine x_istore dX0_fill_110 (Nat.le_of_ble_eq_true rfl) rfl ?_
        refine x_eq rfl rfl rfl (x_dfillL_2 hA hd hH hk hl hkl hQ 0 (Nat.zero_le _) _ ⟨?_, ⟨_, _, f6, g6, kf6, tf6, rfl, rfl, rfl, rfl, rfl⟩, fun j hj jk jl => ?_⟩)
        · obtain ⟨p39, gf, rf, pk, pl, p1, p2⟩ := hq5
          refine ⟨p39, gf, rf, ?_, ?_, p1, p2⟩
          · rw [skH_40, up_ne (by omega), up_ne (by omega), up_ne (by omega), up_ne (by omega), up_ne (by omega)]; exact pk
          · rw [skH_40, up_ne (by omega), up_ne (by omega), up_ne (by omega), up_ne (by omega), up_ne (by omega)]; exact pl
        · rw [skH_40, up_ne (by omega), up_ne (by omega), up_ne (by omega), up_ne (by omega), up_ne (by omega)]; exact g5 j (by omega) jk jl
      · exact absurd (Int32.le_refl _) b72
    · have eo := (ownN_ok hd.1.1 hj).2
      have ews := wayOf_set (own := ownN (d_b0 d)) (k := j) (by omega) (fun i hi => (ownN_ok hd.1.1 (Nat.lt_of_lt_of_le hi hj)).2)
      rw [← ews] at ih
      refine x_iload dX0_fill_66 rfl ?_
      refine x_aload dX0_fill_68 rfl ?_
      refine x_get fX0_33 dX0_fill_69 (by first | assumption | rfl | exact up_same | exact (up_ne (by omega)).trans (by assumption) | exact (up_ne (by assumption)).trans (by assumption) | exact (up_ne (by omega)).trans up_same | exact (up_ne (by omega)).trans ((up_ne (by omega)).trans (by assumption))) ?_
      refine x_icmp_ge dX0_fill_72 (fun b72 => ?_) (fun b72 => ?_)
      · exact absurd b72 (nI_ge hj (by omega))
      · refine x_iload dX0_fill_75 rfl ?_
        refine x_iload dX0_fill_76 rfl ?_
        refine x_aload dX0_fill_78 rfl ?_
        refine x_get fX0_44 dX0_fill_79 (by first | assumption | rfl | exact up_same | exact (up_ne (by omega)).trans (by assumption) | exact (up_ne (by assumption)).trans (by assumption) | exact (up_ne (by omega)).trans up_same | exact (up_ne (by omega)).trans ((up_ne (by omega)).trans (by assumption))) ?_
        refine x_iload dX0_fill_82 rfl ?_
        refine x_ialdn dX0_fill_84 (by first | assumption | rfl | exact up_same | exact (up_ne (by omega)).trans (by assumption) | exact (up_ne (by assumption)).trans (by assumption) | exact (up_ne (by omega)).trans up_same | exact (up_ne (by omega)).trans ((up_ne (by omega)).trans (by assumption))) ⟨by first | omega | decide, by decide⟩ ?_
        rw [(f1 j hj).1]
        refine x_S3i lX0_48 (Rm.of rfl) (cc1 := 2) (cn1 := 8192) rfl rfl (Nat.le_of_ble_eq_true rfl) dX0_fill_85 (r_withOwner (way := wayOf j (ownN (d_b0 d))) (by omega) eo) ?_
        refine x_istore dX0_fill_88 (Nat.le_of_ble_eq_true rfl) rfl ?_
        refine x_inc1 dX0_fill_89 rfl (Nat.le_of_ble_eq_true rfl) rfl ?_
        refine x_goto dX0_fill_92 ?_
        exact ih
  refine x_aload dX0_fill_48 rfl ?_
  refine x_get fX0_18 dX0_fill_49 (by first | assumption | rfl | exact up_same | exact (up_ne (by omega)).trans (by assumption) | exact (up_ne (by assumption)).trans (by assumption) | exact (up_ne (by omega)).trans up_same | exact (up_ne (by omega)).trans ((up_ne (by omega)).trans (by assumption))) ?_
  refine x_k dX0_fill_52 ?_
  refine x_S2v lX0_38 (Rm.of rfl) (cc1 := 2) (cn1 := 8192) rfl rfl (Nat.le_of_ble_eq_true rfl) dX0_fill_53 (r_fillH hfk (by decide) (by decide)) ?_
  refine x_aload dX0_fill_56 rfl ?_
  refine x_k dX0_fill_57 ?_
  refine x_put fX0_25 tt0 gX0_25 dX0_fill_58 (by first | assumption | rfl | exact up_same | exact (up_ne (by omega)).trans (by assumption) | exact (up_ne (by assumption)).trans (by assumption) | exact (up_ne (by omega)).trans up_same | exact (up_ne (by omega)).trans ((up_ne (by omega)).trans (by assumption))) (Nat.le_of_ble_eq_true rfl) (w0_3 _) ?_
  refine x_k dX0_fill_61 ?_
  refine x_istore dX0_fill_62 (Nat.le_of_ble_eq_true rfl) rfl ?_
  refine x_k dX0_fill_63 ?_
  refine x_istore dX0_fill_64 (Nat.le_of_ble_eq_true rfl) rfl ?_
  refine x_eq rfl rfl ?_ (J66 0 (Nat.zero_le _))
  rfl
theorem x_dfill (hA : XA h d) (hD : XD h sz d) (hd : okD d) (hH : d_H d ≤ 4) (hsz : 85 ≤ sz) : Rn Γ mX0_fill [.ref 39, .ref 10, .int (nI (d_L d))] h sz (fun r h' sz' => r = none ∧ sz ≤ sz' ∧ XDF h' sz' d ∧ frD h h' sz) := by
  obtain ⟨ow, pr, od, kd, sp, ins, a1, ⟨a10, -⟩, -⟩ := id hA
  obtain ⟨fe, qu, wt, fi, so, dn, ln, f, g, kf, tf, ⟨a39, a40, a41, a42, a43, a44⟩, a2⟩ := id hD
  refine x_enter 2 (by decide) rfl ?_
  have e4 : nI (d_H d) ≤ 4 ↔ d_H d ≤ 4 := nI_leI (b := 4) (by omega) (by omega)
  rcases a2 with ⟨b1, ⟨z1, z2⟩ | ⟨ff, k, l, qf, z1, z2, z3, z4, z5, z6, z7⟩⟩ | ⟨b1, ff, ⟨k, l, qf, z1, z2, z3, z4, z5, z6, z7⟩, b3⟩
  · subst b1; subst z1; subst z2
    have hA2 : XA (va_up (va_up (va_up (va_up h sz (sa 4096 (fun _ => 0))) 39 (cD (.ref sz) .null wt 0)) (sz + 1) (sa 4096 (fun _ => 0))) 39 (cD (.ref sz) (.ref (sz + 1)) wt 0)) d := hA.of (fun j j1 j2 j3 j4 j5 => by rw [up_ne (by omega), up_ne (by omega), up_ne (by omega), up_ne (by omega)])
    have w : ∀ {j : Nat} {c : Option HC}, h j = c → j < 85 → j ≠ 39 → (va_up (va_up (va_up (va_up h sz (sa 4096 (fun _ => 0))) 39 (cD (.ref sz) .null wt 0)) (sz + 1) (sa 4096 (fun _ => 0))) 39 (cD (.ref sz) (.ref (sz + 1)) wt 0)) j = c := fun {j c} hc hj h28 => by rw [up_ne h28, up_ne (by omega), up_ne h28, up_ne (by omega)]; exact hc
    refine x_aload dX0_fill_0 rfl ?_
    refine x_get fX0_29 dX0_fill_1 (by first | assumption | rfl | exact up_same | exact (up_ne (by omega)).trans (by assumption) | exact (up_ne (by assumption)).trans (by assumption) | exact (up_ne (by omega)).trans up_same | exact (up_ne (by omega)).trans ((up_ne (by omega)).trans (by assumption))) ?_
    refine x_if_ne dX0_fill_4 (fun b4 => ?_) (fun b4 => ?_)
    · exact absurd rfl b4
    · refine x_aload dX0_fill_7 rfl ?_
      refine x_get fX0_33 dX0_fill_8 (by first | assumption | rfl | exact up_same | exact (up_ne (by omega)).trans (by assumption) | exact (up_ne (by assumption)).trans (by assumption) | exact (up_ne (by omega)).trans up_same | exact (up_ne (by omega)).trans ((up_ne (by omega)).trans (by assumption))) ?_
      refine x_k dX0_fill_11 ?_
      refine x_icmp_le dX0_fill_12 (fun b12 => ?_) (fun b12 => ?_)
      · refine x_aload dX0_fill_16 rfl ?_
        refine x_get fX0_18 dX0_fill_17 (by first | assumption | rfl | exact up_same | exact (up_ne (by omega)).trans (by assumption) | exact (up_ne (by assumption)).trans (by assumption) | exact (up_ne (by omega)).trans up_same | exact (up_ne (by omega)).trans ((up_ne (by omega)).trans (by assumption))) ?_
        refine x_ifnullN dX0_fill_20 ?_
        refine x_aload dX0_fill_30 rfl ?_
        refine x_k dX0_fill_31 ?_
        refine x_newaS (N := 4096) dX0_fill_34 (by decide) (by decide) (Nat.le_of_ble_eq_true rfl) (Nat.le_of_ble_eq_true rfl) (Nat.le_of_ble_eq_true rfl) ?_
        refine x_put fX0_18 tt0 gX0_18 dX0_fill_36 (by first | assumption | rfl | exact up_same | exact (up_ne (by omega)).trans (by assumption) | exact (up_ne (by assumption)).trans (by assumption) | exact (up_ne (by omega)).trans up_same | exact (up_ne (by omega)).trans ((up_ne (by omega)).trans (by assumption))) (Nat.le_of_ble_eq_true rfl) (by first | exact w0_1 _ | exact w0_1n) ?_
        refine x_aload dX0_fill_39 rfl ?_
        refine x_k dX0_fill_40 ?_
        refine x_newaS (N := 4096) dX0_fill_43 (by decide) (by decide) (Nat.le_of_ble_eq_true rfl) (Nat.le_of_ble_eq_true rfl) (Nat.le_of_ble_eq_true rfl) ?_
        refine x_put fX0_22 tt0 gX0_22 dX0_fill_45 (by first | assumption | rfl | exact up_same | exact (up_ne (by omega)).trans (by assumption) | exact (up_ne (by assumption)).trans (by assumption) | exact (up_ne (by omega)).trans up_same | exact (up_ne (by omega)).trans ((up_ne (by omega)).trans (by assumption))) (Nat.le_of_ble_eq_true rfl) (by first | exact w0_2 _ | exact w0_2n) ?_
        refine x_eq rfl rfl rfl (x_dfillA_2 (sz := sz + 2) (k := sz) (l := sz + 1) hA2 hd hH rfl (w a40 (by decide) (by decide)) (w a41 (by decide) (by decide)) (w a42 (by decide) (by decide)) (w a43 (by decide) (by decide)) (w a44 (by decide) (by decide)) ⟨hsz, by omega⟩ ⟨by omega, by omega⟩ (by omega) ((up_ne (by omega)).trans ((up_ne (by omega)).trans ((up_ne (by omega)).trans up_same))) ((up_ne (by omega)).trans up_same) ?_)
        intro h2 hX2 hF2
        exact ⟨rfl, by omega, hX2, fun j hj hs _ => by rw [hF2 j hj (by omega) (by omega), up_ne (by omega), up_ne (by omega), up_ne (by omega), up_ne (by omega)]⟩
      · exact absurd (e4.mpr hH) b12
  · subst b1; subst z1; subst z2
    refine x_aload dX0_fill_0 rfl ?_
    refine x_get fX0_29 dX0_fill_1 (by first | assumption | rfl | exact up_same | exact (up_ne (by omega)).trans (by assumption) | exact (up_ne (by assumption)).trans (by assumption) | exact (up_ne (by omega)).trans up_same | exact (up_ne (by omega)).trans ((up_ne (by omega)).trans (by assumption))) ?_
    refine x_if_ne dX0_fill_4 (fun b4 => ?_) (fun b4 => ?_)
    · exact absurd rfl b4
    · refine x_aload dX0_fill_7 rfl ?_
      refine x_get fX0_33 dX0_fill_8 (by first | assumption | rfl | exact up_same | exact (up_ne (by omega)).trans (by assumption) | exact (up_ne (by assumption)).trans (by assumption) | exact (up_ne (by omega)).trans up_same | exact (up_ne (by omega)).trans ((up_ne (by omega)).trans (by assumption))) ?_
      refine x_k dX0_fill_11 ?_
      refine x_icmp_le dX0_fill_12 (fun b12 => ?_) (fun b12 => ?_)
      · refine x_aload dX0_fill_16 rfl ?_
        refine x_get fX0_18 dX0_fill_17 (by first | assumption | rfl | exact up_same | exact (up_ne (by omega)).trans (by assumption) | exact (up_ne (by assumption)).trans (by assumption) | exact (up_ne (by omega)).trans up_same | exact (up_ne (by omega)).trans ((up_ne (by omega)).trans (by assumption))) ?_
        refine x_ifnull dX0_fill_20 ?_
        refine x_aload dX0_fill_23 rfl ?_
        refine x_get fX0_22 dX0_fill_24 (by first | assumption | rfl | exact up_same | exact (up_ne (by omega)).trans (by assumption) | exact (up_ne (by assumption)).trans (by assumption) | exact (up_ne (by omega)).trans up_same | exact (up_ne (by omega)).trans ((up_ne (by omega)).trans (by assumption))) ?_
        refine x_ifnonnull dX0_fill_27 ?_
        refine x_eq rfl rfl rfl (x_dfillA_0 hA hd hH a39 a40 a41 a42 a43 a44 z4 z5 z3 z6 z7 ?_)
        intro h2 hX2 hF2
        exact ⟨rfl, Nat.le_refl _, hX2, fun j hj hs he => hF2 j hj (fun z => he (by rw [z]; exact z4.1) ff (by rw [z]; exact z6)) (fun z => he (by rw [z]; exact z5.1) qf (by rw [z]; exact z7))⟩
      · exact absurd (e4.mpr hH) b12
  · subst b1; subst z1; subst z2
    refine x_aload dX0_fill_0 rfl ?_
    refine x_get fX0_29 dX0_fill_1 (by first | assumption | rfl | exact up_same | exact (up_ne (by omega)).trans (by assumption) | exact (up_ne (by assumption)).trans (by assumption) | exact (up_ne (by omega)).trans up_same | exact (up_ne (by omega)).trans ((up_ne (by omega)).trans (by assumption))) ?_
    refine x_if_ne dX0_fill_4 (fun b4 => ?_) (fun b4 => ?_)
    · refine x_vret dX0_fill_15 rfl (Nat.le_of_ble_eq_true rfl) (Nat.le_of_ble_eq_true rfl) ?_
      exact ⟨rfl, Nat.le_refl _, ⟨k, l, wt, so, dn, ln, f, g, kf, tf, ff, qf, ⟨a39, a40, a41, a42, a43, a44⟩, z3, z4, z5, z6, z7, b3⟩, fun j hj hs he => rfl⟩
    · exact absurd (by decide) b4
theorem r_fewestTo {k l w : Nat} {wt fi : Int32} {ff : Nat → Int32} (h39 : h 39 = cD (.ref k) (.ref l) wt fi) (hk : h k = sa 4096 ff) (hw : w < 4096) : Re Γ mX0_fewestTo [.ref 39, .int (nI w)] h sz (some (.int (ff w))) h sz := by
  refine x_enter 0 (by decide) rfl ?_
  refine x_aload dX0_fewestTo_0 rfl ?_
  refine x_get fX0_18 dX0_fewestTo_1 (by first | assumption | rfl | exact up_same | exact (up_ne (by omega)).trans (by assumption) | exact (up_ne (by assumption)).trans (by assumption) | exact (up_ne (by omega)).trans up_same | exact (up_ne (by omega)).trans ((up_ne (by omega)).trans (by assumption))) ?_
  refine x_ifnull dX0_fewestTo_4 ?_
  refine x_iload dX0_fewestTo_7 rfl ?_
  refine x_if_lt dX0_fewestTo_8 (fun b8 => ?_) (fun b8 => ?_)
  · exact absurd b8 (by rw [Int32.lt_iff_toInt_lt, nI_toInt (by omega), n0t]; omega)
  · refine x_iload dX0_fewestTo_11 rfl ?_
    refine x_k dX0_fewestTo_12 ?_
    refine x_icmp_lt dX0_fewestTo_15 (fun b15 => ?_) (fun b15 => ?_)
    · refine x_aload dX0_fewestTo_22 rfl ?_
      refine x_get fX0_18 dX0_fewestTo_23 (by first | assumption | rfl | exact up_same | exact (up_ne (by omega)).trans (by assumption) | exact (up_ne (by assumption)).trans (by assumption) | exact (up_ne (by omega)).trans up_same | exact (up_ne (by omega)).trans ((up_ne (by omega)).trans (by assumption))) ?_
      refine x_iload dX0_fewestTo_26 rfl ?_
      refine x_saldn dX0_fewestTo_27 (by first | assumption | rfl | exact up_same | exact (up_ne (by omega)).trans (by assumption) | exact (up_ne (by assumption)).trans (by assumption) | exact (up_ne (by omega)).trans up_same | exact (up_ne (by omega)).trans ((up_ne (by omega)).trans (by assumption))) ⟨by first | omega | decide, by decide⟩ ?_
      refine x_iret (ty := .int) dX0_fewestTo_28 rfl rfl (Nat.zero_le _) (Nat.zero_le _) ?_
      exact ⟨rfl, rfl, rfl⟩
    · exact absurd (nI_lt (b := 4096) hw (by decide)) b15
theorem XA.ofD {h' : Hp} (hA : XA h d) (e : frD h h' sz) (hsz : 85 ≤ sz) : XA h' d := by
  have q := e.lo hsz
  obtain ⟨ow, pr, od, kd, sp, ins, ⟨a5, a6, a7, a8, a9⟩, ⟨a10, a11, a12, a13, a14, a15, a16⟩, ⟨a17, a18, a19⟩, ⟨a25, a26, a27⟩, ⟨a45, a46, a47⟩, ⟨a48, ⟨a49, a50⟩, ⟨a51, a52⟩, ⟨a53, a54⟩, a55, a56⟩, ar⟩ := hA
  have w : ∀ {j : Nat} {c : Option HC}, h j = c → (j < 39 ∨ (44 < j ∧ j < 85)) → h' j = c := fun {j c} hc hj => (q j hj).trans hc
  exact ⟨ow, pr, od, kd, sp, ins, ⟨w a5 (by decide), w a6 (by decide), w a7 (by decide), w a8 (by decide), w a9 (by decide)⟩, ⟨w a10 (by decide), w a11 (by decide), w a12 (by decide), w a13 (by decide), w a14 (by decide), w a15 (by decide), w a16 (by decide)⟩, ⟨w a17 (by decide), w a18 (by decide), w a19 (by decide)⟩, ⟨w a25 (by decide), w a26 (by decide), w a27 (by decide)⟩, ⟨w a45 (by decide), w a46 (by decide), w a47 (by decide)⟩, ⟨w a48 (by decide), ⟨w a49 (by decide), w a50 (by decide)⟩, ⟨w a51 (by decide), w a52 (by decide)⟩, ⟨w a53 (by decide), w a54 (by decide)⟩, w a55 (by decide), w a56 (by decide)⟩, ar⟩
theorem XK.ofD {h' : Hp} (hK : XK h d) (e : frD h h' sz) (hsz : 85 ≤ sz) : XK h' d := by
  obtain ⟨ss, so, dn, ln, f, g, kf, tf, l4, l20, l21, l22, l23, l24, a⟩ := hK
  have w : ∀ {j : Nat} {c : Option HC}, h j = c → j < 28 → h' j = c := fun {j c} hc hj => (e.lo hsz j (by omega)).trans hc
  exact ⟨ss, so, dn, ln, f, g, kf, tf, w l4 (by decide), w l20 (by decide), w l21 (by decide), w l22 (by decide), w l23 (by decide), w l24 (by decide), a⟩
theorem XR.ofD {h' : Hp} {sz' : Nat} (hR : XR h sz d) (e : frD h h' sz) (hsz : 85 ≤ sz) (hz : sz ≤ sz') : XR h' sz' d := by
  obtain ⟨en, pe, sp, si, fi, rk, wk, rs, fr, wy, so, dn, ln, f, g, kf, tf, is, ats, st, bk, cn, ⟨a28, a29, a30, a31, a32, a33⟩, ⟨a34, a35, a36, a37, a38⟩, a3⟩ := hR
  have en_of : ∀ x, enOK h sz en x → enOK h' sz' en x := fun x ⟨k, z1, z2, z3⟩ => ⟨k, z1, ⟨z2.1, Nat.lt_of_lt_of_le z2.2 hz⟩, (e k (Or.inr (Nat.lt_of_lt_of_le (by decide : 44 < 85) z2.1)) z2.2 (fun _ y => by rw [z3]; intro q; cases q)).trans z3⟩
  have w : ∀ {j : Nat} {c : Option HC}, h j = c → j < 39 → h' j = c := fun {j c} hc hj => (e.lo hsz j (Or.inl hj)).trans hc
  refine ⟨en, pe, sp, si, fi, rk, wk, rs, fr, wy, so, dn, ln, f, g, kf, tf, is, ats, st, bk, cn, ⟨w a28 (by decide), w a29 (by decide), w a30 (by decide), w a31 (by decide), w a32 (by decide), w a33 (by decide)⟩, ⟨w a34 (by decide), w a35 (by decide), w a36 (by decide), w a37 (by decide), w a38 (by decide)⟩, ?_⟩
  rcases a3 with ⟨b1, b2, b3, b4, b5⟩ | ⟨b1, x, b2, b3⟩
  · refine Or.inl ⟨b1, b2, b3, b4, ?_⟩
    rcases b5 with b5 | ⟨x, b5⟩
    · exact Or.inl b5
    · exact Or.inr ⟨x, en_of x b5⟩
  · exact Or.inr ⟨b1, x, en_of x b2, b3⟩
end DeedsC
