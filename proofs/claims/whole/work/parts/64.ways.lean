/-! were, bed, of the class -/
abbrev soP (d : DT) (r i : Nat) : Prop := cN (d_fp d) i < d_N d ∧ (rwR d r).2.1 (cN (d_fp d) i) = cN (d_fk d) i
noncomputable def wayN (d : DT) : Nat := cntB (wayR d) (rwN d)
noncomputable def aWere (d : DT) (w : Int32) : Int32 := if w = -1 ∨ (0 ≤ w ∧ w < nI (d_N d)) then (if d_N d ≤ 4 then (if w = -1 then nI (wayN d) else nI (canR d (sN w) (rwN d))) else -4) else -2
noncomputable def bedB (d : DT) (p : Nat) : Bool := decide (canR d p (rwN d) &&& sptB (posN (d_H d) (d_b1 d) p) = 0)
noncomputable def aBed (d : DT) : Int32 := if d_N d ≤ 4 then nI (msk (bedB d) (d_N d)) else -4
theorem sptB_lt {s : Nat} (hs : s < 9) : sptB s < 512 := by
  have : ∀ s : Nat, s < 9 → sptB s < 512 := by decide
  exact this s hs
theorem canF_lt {b : Nat → Bool} {s : Nat → Nat} (hs : ∀ r, s r < 9) : ∀ n, canF b s n < 512
  | 0 => by show 0 < 512; decide
  | n + 1 => by
    rw [canF]
    split
    · exact Nat.or_lt_two_pow (n := 9) (canF_lt hs n) (sptB_lt (hs n))
    · exact canF_lt hs n
theorem canR_lt {d : DT} (hd : okD d) (p n : Nat) : canR d p n < 512 := canF_lt (fun r => by have := rwP_lt d r p; have hH8 : d_H d ≤ 8 := (hN_ok hd.1.1).1; omega) n
theorem canR_s (d : DT) (p r : Nat) : canR d p (r + 1) = if wayR d r then canR d p r ||| sptB (rwP d r p) else canR d p r := rfl
section Ways
variable {Γ : GX} {h : Hp} {sz : Nat} {d : DT}
theorem r_allSo {k r : Nat} {sp si fi rk wk rs fr wy : Int32} {x : Int64} (h28 : h 28 = cR (.ref k) (nI (d_N d)) sp si fi rk wk rs fr wy) (h45 : h 45 = cF (nI (d_nf d))) (h46 : h 46 = ia 8 (d_fp d)) (h47 : h 47 = ia 8 (d_fk d)) (he : endOK d (rwR d r) x) (hd : okD d) (hN : d_N d ≤ 4) : Re Γ mX2_allSo [.ref 28, .long x, .ref 45] h sz (some (.int (bI (wayR d r = true)))) h sz := by
  refine x_enter 2 (by decide) rfl ?_
  have hnf := hd.2.2.1.1
  have all : ∀ i, i ≤ d_nf d → ∀ v : Value, (∀ j, j < i → soP d r j) → Ex Γ mX2_allSo (gx_Z Γ mX2_allSo (fun r' h' sz' => r' = some (.int (bI (wayR d r = true))) ∧ h' = h ∧ sz' = sz)) 0 0 3 [.ref 28, .long x, .retAddr 0, .ref 45, .int (nI i), v] [] h sz := by
    refine loopUp (d_nf d) (fun v hall => ?_) (fun i hi ih v hall => ?_)
    · have ez : wayR d r = true := decide_eq_true hall
      refine x_iload dX2_allSo_3 rfl ?_
      refine x_aload dX2_allSo_5 rfl ?_
      refine x_get fX2_164 dX2_allSo_6 (by first | assumption | rfl | exact up_same | exact (up_ne (by omega)).trans (by assumption) | exact (up_ne (by assumption)).trans (by assumption)) ?_
      refine x_icmp_ge dX2_allSo_9 (fun b9 => ?_) (fun b9 => ?_)
      · refine x_k dX2_allSo_54 ?_
        refine x_iret (ty := .boolean) dX2_allSo_55 rfl (by first | rfl | exact nzb) (Nat.zero_le _) (Nat.zero_le _) ?_
        exact ⟨by rw [bI, if_pos ez], rfl, rfl⟩
      · exact absurd (Int32.le_refl _) b9
    · obtain ⟨⟨p1, p2⟩, p3, p4⟩ := hd.2.2.1.2 i hi
      have el : nI (d_N d) ≤ nI (cN (d_fp d) i) ↔ d_N d ≤ cN (d_fp d) i := nI_leI (by omega) (by omega)
      have hno : ¬ soP d r i → ¬ wayR d r = true := fun z y => z (of_decide_eq_true y i hi)
      refine x_iload dX2_allSo_3 rfl ?_
      refine x_aload dX2_allSo_5 rfl ?_
      refine x_get fX2_164 dX2_allSo_6 (by first | assumption | rfl | exact up_same | exact (up_ne (by omega)).trans (by assumption) | exact (up_ne (by assumption)).trans (by assumption)) ?_
      refine x_icmp_ge dX2_allSo_9 (fun b9 => ?_) (fun b9 => ?_)
      · exact absurd b9 (nI_ge hi (by omega))
      · refine x_aload dX2_allSo_12 rfl ?_
        refine x_get fX2_167 dX2_allSo_13 (by first | assumption | rfl | exact up_same | exact (up_ne (by omega)).trans (by assumption) | exact (up_ne (by assumption)).trans (by assumption)) ?_
        refine x_iload dX2_allSo_16 rfl ?_
        refine x_ialdn dX2_allSo_18 (by first | assumption | rfl | exact up_same | exact (up_ne (by omega)).trans (by assumption) | exact (up_ne (by assumption)).trans (by assumption)) ⟨by first | omega | decide, by decide⟩ ?_
        rw [p1]
        refine x_istore dX2_allSo_19 (Nat.le_of_ble_eq_true rfl) rfl ?_
        refine x_iload dX2_allSo_21 rfl ?_
        refine x_aload dX2_allSo_23 rfl ?_
        refine x_get fX2_35 dX2_allSo_24 (by first | assumption | rfl | exact up_same | exact (up_ne (by omega)).trans (by assumption) | exact (up_ne (by assumption)).trans (by assumption)) ?_
        refine x_icmp_ge dX2_allSo_27 (fun b27 => ?_) (fun b27 => ?_)
        · refine x_k dX2_allSo_46 ?_
          refine x_iret (ty := .boolean) dX2_allSo_47 rfl (by first | rfl | exact nzb) (Nat.zero_le _) (Nat.zero_le _) ?_
          have hz : ¬ wayR d r = true := by
            first
              | exact hno (fun z => Nat.not_le.mpr z.1 (el.mp b27))
              | exact hno (fun z => b43 (ekk.mpr z.2))
          exact ⟨by rw [bI, if_neg hz], rfl, rfl⟩
        · refine x_lload dX2_allSo_30 rfl ?_
          refine x_iload dX2_allSo_31 rfl ?_
          have hlt : cN (d_fp d) i < d_N d := Nat.not_le.mp (fun z => b27 (el.mpr z))
          have hkp : (rwR d r).2.1 (cN (d_fp d) i) < d_N d := runF_kp (d_ns d) _ hlt
          have ekk : nI ((rwR d r).2.1 (cN (d_fp d) i)) = d_fk d i ↔ (rwR d r).2.1 (cN (d_fp d) i) = cN (d_fk d) i := by rw [p3]; exact nI_eq (by omega) (by omega)
          refine x_S2i lX2_122 (Rm.of rfl) (cc1 := 0) (cn1 := 0) rfl rfl (Nat.le_of_ble_eq_true rfl) dX2_allSo_33 (r_keeperBy he hN hlt) ?_
          refine x_aload dX2_allSo_36 rfl ?_
          refine x_get fX2_170 dX2_allSo_37 (by first | assumption | rfl | exact up_same | exact (up_ne (by omega)).trans (by assumption) | exact (up_ne (by assumption)).trans (by assumption)) ?_
          refine x_iload dX2_allSo_40 rfl ?_
          refine x_ialdn dX2_allSo_42 (by first | assumption | rfl | exact up_same | exact (up_ne (by omega)).trans (by assumption) | exact (up_ne (by assumption)).trans (by assumption)) ⟨by first | omega | decide, by decide⟩ ?_
          refine x_icmp_eq dX2_allSo_43 (fun b43 => ?_) (fun b43 => ?_)
          · refine x_inc1 dX2_allSo_48 rfl (Nat.le_of_ble_eq_true rfl) rfl ?_
            refine x_goto dX2_allSo_51 ?_
            refine ih _ (fun j hj => ?_)
            by_cases ej : j = i
            · subst ej; exact ⟨hlt, ekk.mp b43⟩
            · exact hall j (by omega)
          · refine x_k dX2_allSo_46 ?_
            refine x_iret (ty := .boolean) dX2_allSo_47 rfl (by first | rfl | exact nzb) (Nat.zero_le _) (Nat.zero_le _) ?_
            have hz : ¬ wayR d r = true := by
              first
                | exact hno (fun z => Nat.not_le.mpr z.1 (el.mp b27))
                | exact hno (fun z => b43 (ekk.mpr z.2))
            exact ⟨by rw [bI, if_neg hz], rfl, rfl⟩
  refine x_k dX2_allSo_0 ?_
  refine x_istore dX2_allSo_1 (Nat.le_of_ble_eq_true rfl) rfl ?_
  exact all 0 (Nat.zero_le _) _ (fun i hi => absurd hi (by omega))
theorem XA.ofW {h' : Hp} (hA : XA h d) (e : ∀ j, j ≠ 28 → j ≠ 38 → h' j = h j) : XA h' d := by
  obtain ⟨ow, pr, od, kd, sp, ins, ⟨a5, a6, a7, a8, a9⟩, ⟨a10, a11, a12, a13, a14, a15, a16⟩, ⟨a17, a18, a19⟩, ⟨a25, a26, a27⟩, ⟨a45, a46, a47⟩, ⟨a48, ⟨a49, a50⟩, ⟨a51, a52⟩, ⟨a53, a54⟩, a55, a56⟩, ar⟩ := hA
  have w : ∀ {j : Nat} {c : Option HC}, h j = c → (j ≠ 28 ∧ j ≠ 38) → h' j = c := fun {j c} hc hj => (e j hj.1 hj.2).trans hc
  exact ⟨ow, pr, od, kd, sp, ins, ⟨w a5 (by decide), w a6 (by decide), w a7 (by decide), w a8 (by decide), w a9 (by decide)⟩, ⟨w a10 (by decide), w a11 (by decide), w a12 (by decide), w a13 (by decide), w a14 (by decide), w a15 (by decide), w a16 (by decide)⟩, ⟨w a17 (by decide), w a18 (by decide), w a19 (by decide)⟩, ⟨w a25 (by decide), w a26 (by decide), w a27 (by decide)⟩, ⟨w a45 (by decide), w a46 (by decide), w a47 (by decide)⟩, ⟨w a48 (by decide), ⟨w a49 (by decide), w a50 (by decide)⟩, ⟨w a51 (by decide), w a52 (by decide)⟩, ⟨w a53 (by decide), w a54 (by decide)⟩, w a55 (by decide), w a56 (by decide)⟩, ar⟩
def qWy (h : Hp) (sz : Nat) (d : DT) : QT := fun r h' sz' => r = none ∧ sz = sz' ∧ XF h' sz d ∧ (∃ (k : Nat) (rk rs fr : Int32) (cn : Nat → Int32), h' 28 = cR (.ref k) (nI (d_N d)) (nI (d_H d + 1)) (nI (rwN d)) 1 rk 1 rs fr (nI (wayN d)) ∧ h' 38 = ia 4 cn ∧ ∀ p, p < d_N d → cn p = nI (canR d p (rwN d))) ∧ ∀ j, j ≠ 28 → j ≠ 38 → h' j = h j
theorem r_findWays (hF : XF h sz d) (hA : XA h d) (hd : okD d) : Rn Γ mX2_findWays [.ref 28, .ref 45] h sz (qWy h sz d) := by
  obtain ⟨k, rk, wk, rs, fr, wy, so, dn, ln, f, g, kf, tf, is, ats, st, bk, cn, e, ⟨a28, a29, a30, a31, a32, a33⟩, ⟨a34, a35, a36, a37, a38⟩, ⟨hk, hke⟩, hRF⟩ := id hF
  obtain ⟨⟨hN, -, -, -, hst, he⟩, hbk, c3, c4⟩ := id hRF
  obtain ⟨ow, pr, od, kd, sp, ins, a1, ⟨a10, a11, a12, a13, a14, a15, a16⟩, a17, ⟨a25, a26, a27⟩, ⟨a45, a46, a47⟩, a6, f1, f2, f3, f4⟩ := id hA
  have hle := rwN_le hd hN
  have hH8 : d_H d ≤ 8 := (hN_ok hd.1.1).1
  refine x_enter 2 (by decide) rfl ?_
  rcases c4 with z | ⟨z1, z2, z3⟩
  · subst z
    have all : ∀ r, r ≤ rwN d → ∀ (cn : Nat → Int32) (v : Value), (∀ p, p < d_N d → cn p = nI (canR d p r)) → Ex Γ mX2_findWays (gx_Z Γ mX2_findWays (qWy h sz d)) 0 0 23 [.ref 28, .ref 45, .int (nI r), v] [] (va_up (va_up h 28 (cR (.ref k) (nI (d_N d)) (nI (d_H d + 1)) (nI (rwN d)) 1 rk 0 rs fr (nI (cntB (wayR d) r)))) 38 (ia 4 cn)) sz := by
      refine loopUp (rwN d) (fun cn v hcn => ?_) (fun r hr ih cn v hcn => ?_)
      · refine x_iload dX2_findWays_23 rfl ?_
        refine x_aload dX2_findWays_24 rfl ?_
        refine x_get fX2_42 dX2_findWays_25 (by first | assumption | rfl | exact up_same | exact (up_ne (by omega)).trans (by assumption) | exact (up_ne (by assumption)).trans (by assumption)) ?_
        refine x_icmp_ge dX2_findWays_28 (fun b28 => ?_) (fun b28 => ?_)
        · refine x_aload dX2_findWays_94 rfl ?_
          refine x_k dX2_findWays_95 ?_
          refine x_put fX2_52 tt2 gX2_52 dX2_findWays_96 (by first | assumption | rfl | exact up_same | exact (up_ne (by omega)).trans (by assumption) | exact (up_ne (by assumption)).trans (by assumption)) (Nat.le_of_ble_eq_true rfl) (by first | exact w2_110 | exact w2_111) ?_
          refine x_vret dX2_findWays_99 rfl (Nat.zero_le _) (Nat.zero_le _) ?_
          refine ⟨rfl, rfl, ⟨k, rk, 1, rs, fr, nI (wayN d), so, dn, ln, f, g, kf, tf, is, ats, st, bk, cn, e, ⟨rfl, a29, a30, a31, a32, a33⟩, ⟨a34, a35, a36, a37, rfl⟩, ⟨hk, ?_⟩, ⟨hN, rfl, rfl, rfl, hst, he⟩, hbk, c3, Or.inr ⟨rfl, rfl, hcn⟩⟩, ⟨k, rk, rs, fr, cn, rfl, rfl, hcn⟩, fun j hj hj2 => ?_⟩
          · rw [up_ne (by omega), up_ne (by omega), up_ne (by omega)]; exact hke
          · rw [up_ne hj, up_ne hj2, up_ne hj]
        · exact absurd (Int32.le_refl _) b28
      · have hcl := cnt_le (wayR d) r
        have c1 : (va_up (va_up h 28 (cR (.ref k) (nI (d_N d)) (nI (d_H d + 1)) (nI (rwN d)) 1 rk 0 rs fr (nI (cntB (wayR d) r)))) 38 (ia 4 cn)) k = la 6561 e := (up_ne (by omega)).trans ((up_ne (by omega)).trans hke)
        rw [cnt_s] at ih
        have J56 : wayR d r = true → ∀ q, q ≤ d_N d → ∀ cn : Nat → Int32, (∀ p, p < q → cn p = nI (canR d p (r + 1))) → (∀ p, q ≤ p → p < d_N d → cn p = nI (canR d p r)) → Ex Γ mX2_findWays (gx_Z Γ mX2_findWays (qWy h sz d)) 0 0 56 [.ref 28, .ref 45, .int (nI r), .int (nI q)] [] (va_up (va_up h 28 (cR (.ref k) (nI (d_N d)) (nI (d_H d + 1)) (nI (rwN d)) 1 rk 0 rs fr (nI (cntB (wayR d) r + 1)))) 38 (ia 4 cn)) sz := by
          intro hz
          rw [hz] at ih
          refine loopUp (d_N d) (fun cn h1 h2 => ?_) (fun q hq ih2 cn h1 h2 => ?_)
          · refine x_iload dX2_findWays_56 rfl ?_
            refine x_aload dX2_findWays_57 rfl ?_
            refine x_get fX2_35 dX2_findWays_58 (by first | assumption | rfl | exact up_same | exact (up_ne (by omega)).trans (by assumption) | exact (up_ne (by assumption)).trans (by assumption)) ?_
            refine x_icmp_ge dX2_findWays_61 (fun b61 => ?_) (fun b61 => ?_)
            · refine x_inc1 dX2_findWays_88 rfl (Nat.le_of_ble_eq_true rfl) rfl ?_
              refine x_goto dX2_findWays_91 ?_
              exact ih cn _ h1
            · exact absurd (Int32.le_refl _) b61
          · have hpl := rwP_lt d r q
            refine x_iload dX2_findWays_56 rfl ?_
            refine x_aload dX2_findWays_57 rfl ?_
            refine x_get fX2_35 dX2_findWays_58 (by first | assumption | rfl | exact up_same | exact (up_ne (by omega)).trans (by assumption) | exact (up_ne (by assumption)).trans (by assumption)) ?_
            refine x_icmp_ge dX2_findWays_61 (fun b61 => ?_) (fun b61 => ?_)
            · exact absurd b61 (nI_ge hq (by omega))
            · refine x_aload dX2_findWays_64 rfl ?_
              refine x_get fX2_64 dX2_findWays_65 (by first | assumption | rfl | exact up_same | exact (up_ne (by omega)).trans (by assumption) | exact (up_ne (by assumption)).trans (by assumption)) ?_
              refine x_iload dX2_findWays_68 rfl ?_
              refine x_dup2 dX2_findWays_69 rfl rfl ?_
              refine x_ialdn dX2_findWays_70 (by first | assumption | rfl | exact up_same | exact (up_ne (by omega)).trans (by assumption) | exact (up_ne (by assumption)).trans (by assumption)) ⟨by first | omega | decide, by decide⟩ ?_
              rw [h2 q (Nat.le_refl _) hq]
              refine x_aload dX2_findWays_71 rfl ?_
              refine x_iload dX2_findWays_72 rfl ?_
              refine x_iload dX2_findWays_73 rfl ?_
              refine x_V2i lX2_143 (Rm.of rfl) (cc1 := 0) (cn1 := 0) rfl rfl (Nat.le_of_ble_eq_true rfl) dX2_findWays_74 (by first | assumption | rfl | exact up_same | exact (up_ne (by omega)).trans (by assumption) | exact (up_ne (by assumption)).trans (by assumption)) (r_spotIn rfl a36 hst hd hN hr hq) ?_
              refine x_S1i lX2_160 (Rm.of rfl) (cc1 := 0) (cn1 := 0) rfl rfl (Nat.le_of_ble_eq_true rfl) dX2_findWays_77 (r_spotBit (s := rwP d r q) (by omega)) ?_
              refine x_ior dX2_findWays_80 ?_
              rw [fa_or]
              refine x_iastn dX2_findWays_81 (by first | assumption | rfl | exact up_same | exact (up_ne (by omega)).trans (by assumption) | exact (up_ne (by assumption)).trans (by assumption)) ⟨by first | omega | decide, by decide⟩ ?_
              refine x_inc1 dX2_findWays_82 rfl (Nat.le_of_ble_eq_true rfl) rfl ?_
              refine x_goto dX2_findWays_85 ?_
              rw [up_up]
              refine ih2 _ (fun p hp => ?_) (fun p h3 h4 => ?_)
              · by_cases ep : p = q
                · subst ep; rw [upd_same, canR_s, if_pos hz]
                · rw [upd_ne ep]; exact h1 p (by omega)
              · rw [upd_ne (by omega)]; exact h2 p (by omega) h4
        refine x_iload dX2_findWays_23 rfl ?_
        refine x_aload dX2_findWays_24 rfl ?_
        refine x_get fX2_42 dX2_findWays_25 (by first | assumption | rfl | exact up_same | exact (up_ne (by omega)).trans (by assumption) | exact (up_ne (by assumption)).trans (by assumption)) ?_
        refine x_icmp_ge dX2_findWays_28 (fun b28 => ?_) (fun b28 => ?_)
        · exact absurd b28 (nI_ge hr (by omega))
        · refine x_aload dX2_findWays_31 rfl ?_
          refine x_aload dX2_findWays_32 rfl ?_
          refine x_iload dX2_findWays_33 rfl ?_
          refine x_V1l lX2_118 (Rm.of rfl) (cc1 := 0) (cn1 := 0) rfl rfl (Nat.le_of_ble_eq_true rfl) dX2_findWays_34 (by first | assumption | rfl | exact up_same | exact (up_ne (by omega)).trans (by assumption) | exact (up_ne (by assumption)).trans (by assumption)) (r_endAt (d := d) rfl c1 hd hN hr) ?_
          refine x_aload dX2_findWays_37 rfl ?_
          refine x_V2i lX2_156 (Rm.of rfl) (cc1 := 0) (cn1 := 0) rfl rfl (Nat.le_of_ble_eq_true rfl) dX2_findWays_38 (by first | assumption | rfl | exact up_same | exact (up_ne (by omega)).trans (by assumption) | exact (up_ne (by assumption)).trans (by assumption)) (r_allSo rfl a45 a46 a47 (he r hr) hd hN) ?_
          refine x_if_eq dX2_findWays_41 (fun b41 => ?_) (fun b41 => ?_)
          · try simp only [i01, Classical.not_not] at b41
            have hz : ¬ wayR d r = true := b41
            rw [Bool.eq_false_iff.mpr hz] at ih
            refine x_inc1 dX2_findWays_88 rfl (Nat.le_of_ble_eq_true rfl) rfl ?_
            refine x_goto dX2_findWays_91 ?_
            exact ih cn _ (fun p hp => by rw [hcn p hp, canR_s, if_neg hz])
          · try simp only [i01, Classical.not_not] at b41
            refine x_aload dX2_findWays_44 rfl ?_
            refine x_dup dX2_findWays_45 rfl ?_
            refine x_get fX2_61 dX2_findWays_46 (by first | assumption | rfl | exact up_same | exact (up_ne (by omega)).trans (by assumption) | exact (up_ne (by assumption)).trans (by assumption)) ?_
            refine x_k dX2_findWays_49 ?_
            refine x_iadd dX2_findWays_50 ?_
            refine x_put fX2_61 tt2 gX2_61 dX2_findWays_51 (by first | assumption | rfl | exact up_same | exact (up_ne (by omega)).trans (by assumption) | exact (up_ne (by assumption)).trans (by assumption)) (Nat.le_of_ble_eq_true rfl) (w2_14 _) ?_
            refine x_k dX2_findWays_54 ?_
            refine x_istore dX2_findWays_55 (Nat.le_of_ble_eq_true rfl) rfl ?_
            refine x_eq rfl rfl ?_ (J56 b41 0 (Nat.zero_le _) cn (fun p hp => absurd hp (by omega)) (fun p _ hp => hcn p hp))
            refine (up_swap (by decide)).trans ?_
            rw [up_up, ← nI_1 (cntB (wayR d) r)]; rfl
    refine x_aload dX2_findWays_0 rfl ?_
    refine x_get fX2_52 dX2_findWays_1 (by first | assumption | rfl | exact up_same | exact (up_ne (by omega)).trans (by assumption) | exact (up_ne (by assumption)).trans (by assumption)) ?_
    refine x_if_eq dX2_findWays_4 (fun b4 => ?_) (fun b4 => ?_)
    · refine x_aload dX2_findWays_8 rfl ?_
      refine x_k dX2_findWays_9 ?_
      refine x_put fX2_61 tt2 gX2_61 dX2_findWays_10 (by first | assumption | rfl | exact up_same | exact (up_ne (by omega)).trans (by assumption) | exact (up_ne (by assumption)).trans (by assumption)) (Nat.le_of_ble_eq_true rfl) (w2_14 _) ?_
      refine x_aload dX2_findWays_13 rfl ?_
      refine x_get fX2_64 dX2_findWays_14 (by first | assumption | rfl | exact up_same | exact (up_ne (by omega)).trans (by assumption) | exact (up_ne (by assumption)).trans (by assumption)) ?_
      refine x_k dX2_findWays_17 ?_
      refine x_S2v lX2_76 (Rm.of rfl) (cc1 := 0) (cn1 := 0) rfl rfl (Nat.le_of_ble_eq_true rfl) dX2_findWays_18 (r_fill_38 a38 (by decide)) ?_
      refine x_k dX2_findWays_21 ?_
      refine x_istore dX2_findWays_22 (Nat.le_of_ble_eq_true rfl) rfl ?_
      refine x_eq rfl rfl ?_ (all 0 (Nat.zero_le _) (filF cn 0 4) (.retAddr 0) (fun p hp => if_pos (by omega)))
      exact (by funext j; simp only [va_up]; (repeat' split) <;> first | rfl | omega | simp_all)
    · exact absurd rfl b4
  · subst z1; subst z2
    refine x_aload dX2_findWays_0 rfl ?_
    refine x_get fX2_52 dX2_findWays_1 (by first | assumption | rfl | exact up_same | exact (up_ne (by omega)).trans (by assumption) | exact (up_ne (by assumption)).trans (by assumption)) ?_
    refine x_if_eq dX2_findWays_4 (fun b4 => ?_) (fun b4 => ?_)
    · exact absurd b4 (by decide)
    · refine x_vret dX2_findWays_7 rfl (Nat.zero_le _) (Nat.zero_le _) ?_
      exact ⟨rfl, rfl, hF, ⟨k, rk, rs, fr, cn, a28, a38, z3⟩, fun _ _ _ => rfl⟩
theorem c_wereOk {w : Int32} (hX : XW h sz d) (hd : okD d) (hsz : 85 ≤ sz) (hN : d_N d ≤ 4) (hw : w = -1 ∨ (0 ≤ w ∧ w < nI (d_N d))) : Ex Γ mX9_were (gx_Z Γ mX9_were (qW h sz d (if w = -1 then nI (wayN d) else nI (canR d (sN w) (rwN d))))) 0 0 30 [.ref 4, .int w] [] h sz := by
  obtain ⟨hA, hK, hR, hD⟩ := id hX
  obtain ⟨ss, h4⟩ := hK.w4
  obtain ⟨_, _, _, _, _, _, _, _, _, _, a28⟩ := hR.w28
  refine x_aload dX9_were_30 rfl ?_
  refine x_get fX9_49 dX9_were_31 (by first | assumption | rfl | exact up_same | exact (up_ne (by omega)).trans (by assumption) | exact (up_ne (by assumption)).trans (by assumption)) ?_
  refine x_aload dX9_were_34 rfl ?_
  refine x_get fX9_21 dX9_were_35 (by first | assumption | rfl | exact up_same | exact (up_ne (by omega)).trans (by assumption) | exact (up_ne (by assumption)).trans (by assumption)) ?_
  refine x_aload dX9_were_38 rfl ?_
  refine x_get fX9_28 dX9_were_39 (by first | assumption | rfl | exact up_same | exact (up_ne (by omega)).trans (by assumption) | exact (up_ne (by assumption)).trans (by assumption)) ?_
  refine x_V2q lX9_207 (Rm.of rfl) (cc1 := 1) (cn1 := 6561) rfl rfl (Nat.le_of_ble_eq_true rfl) dX9_were_42 (by first | assumption | rfl | exact up_same | exact (up_ne (by omega)).trans (by assumption) | exact (up_ne (by assumption)).trans (by assumption)) (x_fill hA hR hd hN hsz) ?_
  rintro _ h1 sz1 ⟨rfl, hz1, hF1, hfr1⟩
  have hA1 := hA.ofR hfr1 hsz
  have hK1 := hK.ofR hfr1 hsz
  have hD1 := hD.ofR hfr1 hsz hz1
  obtain ⟨ss1, g4⟩ := hK1.w4
  obtain ⟨_, _, _, _, _, _, _, _, _, _, g28⟩ := hF1.R.w28
  refine x_aload dX9_were_45 rfl ?_
  refine x_get fX9_49 dX9_were_46 (by first | assumption | rfl | exact up_same | exact (up_ne (by omega)).trans (by assumption) | exact (up_ne (by assumption)).trans (by assumption)) ?_
  refine x_aload dX9_were_49 rfl ?_
  refine x_get fX9_63 dX9_were_50 (by first | assumption | rfl | exact up_same | exact (up_ne (by omega)).trans (by assumption) | exact (up_ne (by assumption)).trans (by assumption)) ?_
  refine x_V1q lX9_277 (Rm.of rfl) (cc1 := 1) (cn1 := 6561) rfl rfl (Nat.le_of_ble_eq_true rfl) dX9_were_53 (by first | assumption | rfl | exact up_same | exact (up_ne (by omega)).trans (by assumption) | exact (up_ne (by assumption)).trans (by assumption)) (r_findWays hF1 hA1 hd) ?_
  rintro _ h2 _ ⟨rfl, rfl, hF2, ⟨k, rk, rs, fr, cn, i28, i38, hcn⟩, hfr2⟩
  have hA2 : XA h2 d := hA1.ofW hfr2
  have hK2 : XK h2 d := hK1.of (fun k hk => hfr2 k (by omega) (by omega))
  have hD2 : XD h2 sz1 d := hD1.of (fun k hk => hfr2 k (by omega) (by omega))
  obtain ⟨ss2, i4⟩ := hK2.w4
  have fin : ∀ a, qW h sz d a (some (.int a)) h2 sz1 := fun a => ⟨rfl, hz1, ⟨hA2, hK2, hF2.R, hD2⟩, (hfr1.X hsz).trans (fun k hk => hfr2 k (by omega) (by omega))⟩
  refine x_iload dX9_were_56 rfl ?_
  refine x_k dX9_were_57 ?_
  refine x_icmp_ne dX9_were_58 (fun b58 => ?_) (fun b58 => ?_)
  · have hw1 : w ≠ -1 := b58
    obtain ⟨q, hq, rfl⟩ := below (hw.resolve_left hw1).1 (hw.resolve_left hw1).2 (by omega)
    have ea : (if nI q = -1 then nI (wayN d) else nI (canR d (sN (nI q)) (rwN d))) = cn q := by rw [if_neg hw1, sN, nI_clamp (by omega), hcn q hq]
    rw [ea]
    refine x_aload dX9_were_71 rfl ?_
    refine x_get fX9_49 dX9_were_72 (by first | assumption | rfl | exact up_same | exact (up_ne (by omega)).trans (by assumption) | exact (up_ne (by assumption)).trans (by assumption)) ?_
    refine x_get fX9_284 dX9_were_75 (by first | assumption | rfl | exact up_same | exact (up_ne (by omega)).trans (by assumption) | exact (up_ne (by assumption)).trans (by assumption)) ?_
    refine x_iload dX9_were_78 rfl ?_
    refine x_ialdn dX9_were_79 (by first | assumption | rfl | exact up_same | exact (up_ne (by omega)).trans (by assumption) | exact (up_ne (by assumption)).trans (by assumption)) ⟨by first | omega | decide, by decide⟩ ?_
    refine x_iret (ty := .int) dX9_were_80 rfl rfl (Nat.le_of_ble_eq_true rfl) (Nat.le_of_ble_eq_true rfl) ?_
    exact fin _
  · refine x_aload dX9_were_61 rfl ?_
    refine x_get fX9_49 dX9_were_62 (by first | assumption | rfl | exact up_same | exact (up_ne (by omega)).trans (by assumption) | exact (up_ne (by assumption)).trans (by assumption)) ?_
    refine x_get fX9_281 dX9_were_65 (by first | assumption | rfl | exact up_same | exact (up_ne (by omega)).trans (by assumption) | exact (up_ne (by assumption)).trans (by assumption)) ?_
    refine x_goto dX9_were_68 ?_
    refine x_iret (ty := .int) dX9_were_80 rfl rfl (Nat.le_of_ble_eq_true rfl) (Nat.le_of_ble_eq_true rfl) ?_
    rw [if_pos (Classical.not_not.mp b58)]; exact fin _
theorem c_were (w : Int32) (hX : XW h sz d) (hd : okD d) (hsz : 85 ≤ sz) : Rn Γ mX9_were [.ref 4, .int w] h sz (qW h sz d (aWere d w)) := by
  refine x_enter 0 (by decide) rfl ?_
  obtain ⟨hA, hK, hR, hD⟩ := id hX
  obtain ⟨ow, pr, od, kd, sp, ins, a1, ⟨a10, -⟩, -⟩ := id hA
  obtain ⟨ss, h4⟩ := hK.w4
  have hP8 : d_N d ≤ 8 := (pN_ok hd.1.2.1).1
  have e4 : nI (d_N d) ≤ 4 ↔ d_N d ≤ 4 := nI_leI (b := 4) (by omega) (by omega)
  have J16 : (w = -1 ∨ (0 ≤ w ∧ w < nI (d_N d))) → Ex Γ mX9_were (gx_Z Γ mX9_were (qW h sz d (aWere d w))) 0 0 16 [.ref 4, .int w] [] h sz := by
    intro hc
    rw [aWere, if_pos hc]
    refine x_aload dX9_were_16 rfl ?_
    refine x_get fX9_21 dX9_were_17 (by first | assumption | rfl | exact up_same | exact (up_ne (by omega)).trans (by assumption) | exact (up_ne (by assumption)).trans (by assumption)) ?_
    refine x_get fX9_200 dX9_were_20 (by first | assumption | rfl | exact up_same | exact (up_ne (by omega)).trans (by assumption) | exact (up_ne (by assumption)).trans (by assumption)) ?_
    refine x_k dX9_were_23 ?_
    refine x_icmp_le dX9_were_24 (fun b24 => ?_) (fun b24 => ?_)
    · rw [if_pos (e4.mp b24)]; exact c_wereOk hX hd hsz (e4.mp b24) hc
    · refine x_k dX9_were_27 ?_
      refine x_iret (ty := .int) dX9_were_29 rfl rfl (Nat.le_of_ble_eq_true rfl) (Nat.le_of_ble_eq_true rfl) ?_
      exact ⟨by rw [if_neg (fun z => b24 (e4.mpr z))], Nat.le_refl _, hX, fun _ _ => rfl⟩
  refine x_iload dX9_were_0 rfl ?_
  refine x_k dX9_were_1 ?_
  refine x_icmp_eq dX9_were_2 (fun b2 => ?_) (fun b2 => ?_)
  · first
      | exact J16 (Or.inl b2)
      | exact J16 (Or.inr ⟨Int32.not_lt.mp (fun y => b10 (Or.inl y)), Int32.not_le.mp (fun y => b10 (Or.inr y))⟩)
  · refine x_aload dX9_were_5 rfl ?_
    refine x_iload dX9_were_6 rfl ?_
    refine x_V1i lX9_115 (Rm.of rfl) (cc1 := 0) (cn1 := 0) rfl rfl (Nat.le_of_ble_eq_true rfl) dX9_were_7 (by first | assumption | rfl | exact up_same | exact (up_ne (by omega)).trans (by assumption) | exact (up_ne (by assumption)).trans (by assumption)) (r_nobody h4 a10 w) ?_
    refine x_if_eq dX9_were_10 (fun b10 => ?_) (fun b10 => ?_)
    · try simp only [i01, Classical.not_not] at b10
      first
        | exact J16 (Or.inl b2)
        | exact J16 (Or.inr ⟨Int32.not_lt.mp (fun y => b10 (Or.inl y)), Int32.not_le.mp (fun y => b10 (Or.inr y))⟩)
    · try simp only [i01, Classical.not_not] at b10
      refine x_k dX9_were_13 ?_
      refine x_iret (ty := .int) dX9_were_15 rfl rfl (Nat.le_of_ble_eq_true rfl) (Nat.le_of_ble_eq_true rfl) ?_
      have hc : ¬ (w = -1 ∨ (0 ≤ w ∧ w < nI (d_N d))) := fun z => z.elim b2 (fun y => b10.elim (fun x => Int32.not_lt.mpr y.1 x) (fun x => Int32.not_le.mpr y.2 x))
      exact ⟨by rw [aWere, if_neg hc], Nat.le_refl _, hX, fun _ _ => rfl⟩
theorem c_bed (hX : XW h sz d) (hd : okD d) (hsz : 85 ≤ sz) : Rn Γ mX9_bed [.ref 4] h sz (qW h sz d (aBed d)) := by
  refine x_enter 2 (by decide) rfl ?_
  obtain ⟨hA, hK, hR, hD⟩ := id hX
  obtain ⟨ow, pr, od, kd, sp, ins, a1, ⟨a10, -⟩, -⟩ := id hA
  obtain ⟨ss, h4⟩ := hK.w4
  have hP8 : d_N d ≤ 8 := (pN_ok hd.1.2.1).1
  have hH8 : d_H d ≤ 8 := (hN_ok hd.1.1).1
  have e4 : nI (d_N d) ≤ 4 ↔ d_N d ≤ 4 := nI_leI (b := 4) (by omega) (by omega)
  obtain ⟨_, _, _, _, _, _, _, _, _, _, a28⟩ := hR.w28
  rw [aBed]
  refine x_aload dX9_bed_0 rfl ?_
  refine x_get fX9_21 dX9_bed_1 (by first | assumption | rfl | exact up_same | exact (up_ne (by omega)).trans (by assumption) | exact (up_ne (by assumption)).trans (by assumption)) ?_
  refine x_get fX9_200 dX9_bed_4 (by first | assumption | rfl | exact up_same | exact (up_ne (by omega)).trans (by assumption) | exact (up_ne (by assumption)).trans (by assumption)) ?_
  refine x_k dX9_bed_7 ?_
  refine x_icmp_le dX9_bed_8 (fun b8 => ?_) (fun b8 => ?_)
  · have hN := e4.mp b8
    rw [if_pos hN]
    refine x_aload dX9_bed_14 rfl ?_
    refine x_get fX9_49 dX9_bed_15 (by first | assumption | rfl | exact up_same | exact (up_ne (by omega)).trans (by assumption) | exact (up_ne (by assumption)).trans (by assumption)) ?_
    refine x_aload dX9_bed_18 rfl ?_
    refine x_get fX9_21 dX9_bed_19 (by first | assumption | rfl | exact up_same | exact (up_ne (by omega)).trans (by assumption) | exact (up_ne (by assumption)).trans (by assumption)) ?_
    refine x_aload dX9_bed_22 rfl ?_
    refine x_get fX9_28 dX9_bed_23 (by first | assumption | rfl | exact up_same | exact (up_ne (by omega)).trans (by assumption) | exact (up_ne (by assumption)).trans (by assumption)) ?_
    refine x_V2q lX9_207 (Rm.of rfl) (cc1 := 1) (cn1 := 6561) rfl rfl (Nat.le_of_ble_eq_true rfl) dX9_bed_26 (by first | assumption | rfl | exact up_same | exact (up_ne (by omega)).trans (by assumption) | exact (up_ne (by assumption)).trans (by assumption)) (x_fill hA hR hd hN hsz) ?_
    rintro _ h1 sz1 ⟨rfl, hz1, hF1, hfr1⟩
    have hA1 := hA.ofR hfr1 hsz
    have hK1 := hK.ofR hfr1 hsz
    have hD1 := hD.ofR hfr1 hsz hz1
    obtain ⟨ss1, g4⟩ := hK1.w4
    obtain ⟨_, _, _, _, _, _, _, _, _, _, g28⟩ := hF1.R.w28
    refine x_aload dX9_bed_29 rfl ?_
    refine x_get fX9_49 dX9_bed_30 (by first | assumption | rfl | exact up_same | exact (up_ne (by omega)).trans (by assumption) | exact (up_ne (by assumption)).trans (by assumption)) ?_
    refine x_aload dX9_bed_33 rfl ?_
    refine x_get fX9_63 dX9_bed_34 (by first | assumption | rfl | exact up_same | exact (up_ne (by omega)).trans (by assumption) | exact (up_ne (by assumption)).trans (by assumption)) ?_
    refine x_V1q lX9_277 (Rm.of rfl) (cc1 := 1) (cn1 := 6561) rfl rfl (Nat.le_of_ble_eq_true rfl) dX9_bed_37 (by first | assumption | rfl | exact up_same | exact (up_ne (by omega)).trans (by assumption) | exact (up_ne (by assumption)).trans (by assumption)) (r_findWays hF1 hA1 hd) ?_
    rintro _ h2 _ ⟨rfl, rfl, hF2, ⟨k, rk, rs, fr, cn, i28, i38, hcn⟩, hfr2⟩
    have hA2 : XA h2 d := hA1.ofW hfr2
    have hK2 : XK h2 d := hK1.of (fun k hk => hfr2 k (by omega) (by omega))
    have hD2 : XD h2 sz1 d := hD1.of (fun k hk => hfr2 k (by omega) (by omega))
    obtain ⟨ss2, i4⟩ := hK2.w4
    obtain ⟨ow', pr', od', kd', sp', ins', -, ⟨i10, -, -, -, -, i15, -⟩, -, -, -, -, -, -, f3, -⟩ := id hA2
    refine x_k dX9_bed_40 ?_
    refine x_istore dX9_bed_41 (Nat.le_of_ble_eq_true rfl) rfl ?_
    refine x_k dX9_bed_42 ?_
    refine x_istore dX9_bed_43 (Nat.le_of_ble_eq_true rfl) rfl ?_
    refine x_eq rfl rfl rfl (loopUp (P := fun p => Ex Γ mX9_bed _ 1 6561 44 [.ref 4, .int (nI (msk (bedB d) p)), .int (nI p)] [] h2 sz1) (d_N d) ?_ (fun p hp ih => ?_) 0 (Nat.zero_le _))
    · refine x_iload dX9_bed_44 rfl ?_
      refine x_aload dX9_bed_45 rfl ?_
      refine x_get fX9_21 dX9_bed_46 (by first | assumption | rfl | exact up_same | exact (up_ne (by omega)).trans (by assumption) | exact (up_ne (by assumption)).trans (by assumption)) ?_
      refine x_get fX9_200 dX9_bed_49 (by first | assumption | rfl | exact up_same | exact (up_ne (by omega)).trans (by assumption) | exact (up_ne (by assumption)).trans (by assumption)) ?_
      refine x_icmp_ge dX9_bed_52 (fun b52 => ?_) (fun b52 => ?_)
      · refine x_iload dX9_bed_92 rfl ?_
        refine x_iret (ty := .int) dX9_bed_93 rfl rfl (Nat.le_of_ble_eq_true rfl) (Nat.le_of_ble_eq_true rfl) ?_
        exact ⟨rfl, hz1, ⟨hA2, hK2, hF2.R, hD2⟩, (hfr1.X hsz).trans (fun k hk => hfr2 k (by omega) (by omega))⟩
      · exact absurd (Int32.le_refl _) b52
    · have hps := (posN_ok hH8 (d_b1 d) p).2
      have hcl := canR_lt hd p (rwN d)
      have hal : canR d p (rwN d) &&& sptB (posN (d_H d) (d_b1 d) p) < 512 := Nat.lt_of_le_of_lt Nat.and_le_left hcl
      have ez : nI (canR d p (rwN d) &&& sptB (posN (d_H d) (d_b1 d) p)) = 0 ↔ canR d p (rwN d) &&& sptB (posN (d_H d) (d_b1 d) p) = 0 := nI_eq (b := 0) (by omega) (by omega)
      rw [msk] at ih
      refine x_iload dX9_bed_44 rfl ?_
      refine x_aload dX9_bed_45 rfl ?_
      refine x_get fX9_21 dX9_bed_46 (by first | assumption | rfl | exact up_same | exact (up_ne (by omega)).trans (by assumption) | exact (up_ne (by assumption)).trans (by assumption)) ?_
      refine x_get fX9_200 dX9_bed_49 (by first | assumption | rfl | exact up_same | exact (up_ne (by omega)).trans (by assumption) | exact (up_ne (by assumption)).trans (by assumption)) ?_
      refine x_icmp_ge dX9_bed_52 (fun b52 => ?_) (fun b52 => ?_)
      · exact absurd b52 (nI_ge hp (by omega))
      · refine x_aload dX9_bed_55 rfl ?_
        refine x_get fX9_49 dX9_bed_56 (by first | assumption | rfl | exact up_same | exact (up_ne (by omega)).trans (by assumption) | exact (up_ne (by assumption)).trans (by assumption)) ?_
        refine x_get fX9_284 dX9_bed_59 (by first | assumption | rfl | exact up_same | exact (up_ne (by omega)).trans (by assumption) | exact (up_ne (by assumption)).trans (by assumption)) ?_
        refine x_iload dX9_bed_62 rfl ?_
        refine x_ialdn dX9_bed_63 (by first | assumption | rfl | exact up_same | exact (up_ne (by omega)).trans (by assumption) | exact (up_ne (by assumption)).trans (by assumption)) ⟨by first | omega | decide, by decide⟩ ?_
        rw [hcn p hp]
        refine x_aload dX9_bed_64 rfl ?_
        refine x_get fX9_21 dX9_bed_65 (by first | assumption | rfl | exact up_same | exact (up_ne (by omega)).trans (by assumption) | exact (up_ne (by assumption)).trans (by assumption)) ?_
        refine x_get fX9_121 dX9_bed_68 (by first | assumption | rfl | exact up_same | exact (up_ne (by omega)).trans (by assumption) | exact (up_ne (by assumption)).trans (by assumption)) ?_
        refine x_iload dX9_bed_71 rfl ?_
        refine x_ialdn dX9_bed_72 (by first | assumption | rfl | exact up_same | exact (up_ne (by omega)).trans (by assumption) | exact (up_ne (by assumption)).trans (by assumption)) ⟨by first | omega | decide, by decide⟩ ?_
        rw [(f3 p hp).2]
        refine x_S1i lX9_287 (Rm.of rfl) (cc1 := 1) (cn1 := 6561) rfl rfl (Nat.le_of_ble_eq_true rfl) dX9_bed_73 (r_spotBit (s := posN (d_H d) (d_b1 d) p) (by omega)) ?_
        refine x_iand dX9_bed_76 ?_
        rw [fa_and]
        refine x_if_ne dX9_bed_77 (fun b77 => ?_) (fun b77 => ?_)
        · refine x_inc1 dX9_bed_86 rfl (Nat.le_of_ble_eq_true rfl) rfl ?_
          refine x_goto dX9_bed_89 ?_
          first
            | (have hz : bedB d p = true := decide_eq_true (ez.mp (Classical.not_not.mp b77))
               rw [if_pos hz] at ih; exact ih)
            | (have hz : ¬ bedB d p = true := fun z => b77 (ez.mpr (of_decide_eq_true z))
               rw [if_neg hz, Nat.or_zero] at ih; exact ih)
        · refine x_iload dX9_bed_80 rfl ?_
          refine x_k dX9_bed_81 ?_
          refine x_iload dX9_bed_82 rfl ?_
          refine x_ishl dX9_bed_83 ?_
          refine x_ior dX9_bed_84 ?_
          rw [orbit (by omega)]
          refine x_istore dX9_bed_85 (Nat.le_of_ble_eq_true rfl) rfl ?_
          refine x_inc1 dX9_bed_86 rfl (Nat.le_of_ble_eq_true rfl) rfl ?_
          refine x_goto dX9_bed_89 ?_
          first
            | (have hz : bedB d p = true := decide_eq_true (ez.mp (Classical.not_not.mp b77))
               rw [if_pos hz] at ih; exact ih)
            | (have hz : ¬ bedB d p = true := fun z => b77 (ez.mpr (of_decide_eq_true z))
               rw [if_neg hz, Nat.or_zero] at ih; exact ih)
  · refine x_k dX9_bed_11 ?_
    refine x_iret (ty := .int) dX9_bed_13 rfl rfl (Nat.le_of_ble_eq_true rfl) (Nat.le_of_ble_eq_true rfl) ?_
    exact ⟨by rw [if_neg (fun z => b8 (e4.mpr z))], Nat.le_refl _, hX, fun _ _ => rfl⟩
end Ways
