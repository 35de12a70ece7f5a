/-! rows: fill -/
def qFst (h : Hp) (sz H N : Nat) (en : Value) (fi rk wk rs fr wy : Int32) : QT := fun r h' sz' => r = none ∧ sz = sz' ∧ ∃ is ats st : Nat → Int32, h' = va_up (va_up (va_up (va_up h 28 (cR en (nI N) (nI (H + 1)) (nI ((H + 1) ^ N)) fi rk wk rs fr wy)) 36 (ia 4 st)) 35 (ia 4 ats)) 34 (ia 9 is) ∧ (∀ p, p < N → st p = nI ((H + 1) ^ (N - 1 - p))) ∧ (∀ p, p < N → ats p = nI 0) ∧ ∀ z, z < 9 → is z = nI (insM N (fun _ => 0) z)
/-- the rows have been filled: what XR says then -/
def XF (h : Hp) (sz : Nat) (d : DT) : Prop := ∃ (k : Nat) (rk wk rs fr wy so dn ln : Int32) (f g kf tf is ats st bk cn : Nat → Int32) (e : Nat → Int64),
  (h 28 = cR (.ref k) (nI (d_N d)) (nI (d_H d + 1)) (nI (rwN d)) 1 rk wk rs fr wy ∧ h 29 = cK 30 31 32 33 so dn ln ∧ h 30 = ia 8 f ∧ h 31 = ia 8 g ∧ h 32 = ia 8 kf ∧ h 33 = ia 8 tf) ∧
  (h 34 = ia 9 is ∧ h 35 = ia 4 ats ∧ h 36 = ia 4 st ∧ h 37 = ia 4 bk ∧ h 38 = ia 4 cn) ∧ ((85 ≤ k ∧ k < sz) ∧ h k = la 6561 e) ∧ RF d (nI (d_N d)) (nI (d_H d + 1)) (nI (rwN d)) rk wk rs fr wy st bk cn e
theorem XF.R {h : Hp} {sz : Nat} {d : DT} (hF : XF h sz d) : XR h sz d := by
  obtain ⟨k, rk, wk, rs, fr, wy, so, dn, ln, f, g, kf, tf, is, ats, st, bk, cn, e, a1, a2, a3, a4⟩ := hF
  exact ⟨.ref k, _, _, _, 1, rk, wk, rs, fr, wy, so, dn, ln, f, g, kf, tf, is, ats, st, bk, cn, a1, a2, Or.inr ⟨rfl, e, ⟨k, rfl, a3.1, a3.2⟩, a4⟩⟩
/-- what filling leaves: all but the rows' cells and the ends -/
def frR (h h' : Hp) (sz : Nat) : Prop := ∀ j, (j < 28 ∨ 38 < j) → j < sz → (85 ≤ j → ∀ e, h j ≠ la 6561 e) → h' j = h j
theorem frR.trans {h1 h2 h3 : Hp} {sz sz' : Nat} (a : frR h1 h2 sz) (hz : sz ≤ sz') (b : frR h2 h3 sz') : frR h1 h3 sz := fun j hj hs he => (b j hj (Nat.lt_of_lt_of_le hs hz) (fun h85 e => by rw [a j hj hs he]; exact he h85 e)).trans (a j hj hs he)
theorem frR.lo {h h' : Hp} {sz : Nat} (a : frR h h' sz) (hsz : 85 ≤ sz) : ∀ j, (j < 28 ∨ (38 < j ∧ j < 85)) → h' j = h j := fun j hj => a j (by omega) (by omega) (fun z => absurd z (by omega))
theorem frR.X {h h' : Hp} {sz : Nat} (a : frR h h' sz) (hsz : 85 ≤ sz) : frX h h' := fun j hj => a.lo hsz j (by omega)
section RowsC
variable {Γ : GX} {h : Hp} {sz : Nat} {d : DT}
theorem r_toFirst {H N : Nat} {en : Value} {pe sp si fi rk wk rs fr wy : Int32} {is ats st : Nat → Int32} (h28 : h 28 = cR en pe sp si fi rk wk rs fr wy) (h34 : h 34 = ia 9 is) (h35 : h 35 = ia 4 ats) (h36 : h 36 = ia 4 st) (h10 : h 10 = cSt (nI H) (nI N)) (hN : N ≤ 4) (hH : H ≤ 8) : Rn Γ mX2_toFirst [.ref 28, .ref 10] h sz (qFst h sz H N en fi rk wk rs fr wy) := by
  refine x_enter 1 (by decide) rfl ?_
  have all : ∀ k, k ≤ N → ∀ (st : Nat → Int32), (∀ p, k ≤ p → p < N → st p = nI ((H + 1) ^ (N - 1 - p))) → Ex Γ mX2_toFirst (gx_Z Γ mX2_toFirst (qFst h sz H N en fi rk wk rs fr wy)) 0 0 30 [.ref 28, .ref 10, .int (nI k - 1)] [] (va_up (va_up h 28 (cR en (nI N) (nI (H + 1)) (nI ((H + 1) ^ (N - k))) fi rk wk rs fr wy)) 36 (ia 4 st)) sz := by
    intro k
    induction k with
    | zero =>
      intro hk st hst
      refine x_iload dX2_toFirst_30 rfl ?_
      refine x_if_lt dX2_toFirst_31 (fun b31 => ?_) (fun b31 => ?_)
      · refine x_aload dX2_toFirst_63 rfl ?_
        refine x_get fX2_22 dX2_toFirst_64 (by first | assumption | rfl | exact up_same | exact (up_ne (by omega)).trans (by assumption) | exact (up_ne (by assumption)).trans (by assumption)) ?_
        refine x_k dX2_toFirst_67 ?_
        refine x_S2v lX2_76 (Rm.of rfl) (cc1 := 0) (cn1 := 0) rfl rfl (Nat.le_of_ble_eq_true rfl) dX2_toFirst_68 (r_fill_35 h35 (by decide)) ?_
        refine x_aload dX2_toFirst_71 rfl ?_
        refine x_get fX2_18 dX2_toFirst_72 (by first | assumption | rfl | exact up_same | exact (up_ne (by omega)).trans (by assumption) | exact (up_ne (by assumption)).trans (by assumption)) ?_
        refine x_k dX2_toFirst_75 ?_
        refine x_S2v lX2_76 (Rm.of rfl) (cc1 := 0) (cn1 := 0) rfl rfl (Nat.le_of_ble_eq_true rfl) dX2_toFirst_76 (r_fill_34 h34 (by decide)) ?_
        refine x_aload dX2_toFirst_79 rfl ?_
        refine x_get fX2_18 dX2_toFirst_80 (by first | assumption | rfl | exact up_same | exact (up_ne (by omega)).trans (by assumption) | exact (up_ne (by assumption)).trans (by assumption)) ?_
        refine x_k dX2_toFirst_83 ?_
        refine x_k dX2_toFirst_84 ?_
        refine x_aload dX2_toFirst_85 rfl ?_
        refine x_get fX2_35 dX2_toFirst_86 (by first | assumption | rfl | exact up_same | exact (up_ne (by omega)).trans (by assumption) | exact (up_ne (by assumption)).trans (by assumption)) ?_
        refine x_ishl dX2_toFirst_89 ?_
        refine x_k dX2_toFirst_90 ?_
        refine x_isub dX2_toFirst_91 ?_
        rw [everyB (by omega)]
        refine x_iastn dX2_toFirst_92 (by first | assumption | rfl | exact up_same | exact (up_ne (by omega)).trans (by assumption) | exact (up_ne (by assumption)).trans (by assumption)) ⟨by first | omega | decide, by decide⟩ ?_
        refine x_vret dX2_toFirst_93 rfl (Nat.zero_le _) (Nat.zero_le _) ?_
        exact ⟨rfl, rfl, _, _, st, (by funext j; simp only [va_up]; (repeat' split) <;> first | rfl | omega | simp_all), fun p hp => hst p (Nat.zero_le _) hp, fun p hp => if_pos (by omega), ins_zero⟩
      · exact absurd (by decide) b31
    | succ k ih =>
      intro hk st hst
      rw [nI_m1]
      have hst2 : ∀ p, k ≤ p → p < N → upd st k (nI ((H + 1) ^ (N - (k + 1)))) p = nI ((H + 1) ^ (N - 1 - p)) := fun p h1 h2 => by
        by_cases e : p = k
        · subst e; rw [upd_same, show N - (p + 1) = N - 1 - p by omega]
        · rw [upd_ne e]; exact hst p (by omega) h2
      have epw : (H + 1) ^ (N - (k + 1)) * (H + 1) = (H + 1) ^ (N - k) := by rw [show N - k = N - (k + 1) + 1 by omega, Nat.pow_succ]
      refine x_iload dX2_toFirst_30 rfl ?_
      refine x_if_lt dX2_toFirst_31 (fun b31 => ?_) (fun b31 => ?_)
      · exact absurd b31 (nI_pos (by omega))
      · refine x_aload dX2_toFirst_34 rfl ?_
        refine x_get fX2_25 dX2_toFirst_35 (by first | assumption | rfl | exact up_same | exact (up_ne (by omega)).trans (by assumption) | exact (up_ne (by assumption)).trans (by assumption)) ?_
        refine x_iload dX2_toFirst_38 rfl ?_
        refine x_aload dX2_toFirst_39 rfl ?_
        refine x_get fX2_42 dX2_toFirst_40 (by first | assumption | rfl | exact up_same | exact (up_ne (by omega)).trans (by assumption) | exact (up_ne (by assumption)).trans (by assumption)) ?_
        refine x_iastn dX2_toFirst_43 (by first | assumption | rfl | exact up_same | exact (up_ne (by omega)).trans (by assumption) | exact (up_ne (by assumption)).trans (by assumption)) ⟨by first | omega | decide, by decide⟩ ?_
        refine x_aload dX2_toFirst_44 rfl ?_
        refine x_dup dX2_toFirst_45 rfl ?_
        refine x_get fX2_42 dX2_toFirst_46 (by first | assumption | rfl | exact up_same | exact (up_ne (by omega)).trans (by assumption) | exact (up_ne (by assumption)).trans (by assumption)) ?_
        refine x_aload dX2_toFirst_49 rfl ?_
        refine x_get fX2_39 dX2_toFirst_50 (by first | assumption | rfl | exact up_same | exact (up_ne (by omega)).trans (by assumption) | exact (up_ne (by assumption)).trans (by assumption)) ?_
        refine x_imul dX2_toFirst_53 ?_
        rw [pk_mul, epw]
        refine x_put fX2_42 tt2 gX2_42 dX2_toFirst_54 (by first | assumption | rfl | exact up_same | exact (up_ne (by omega)).trans (by assumption) | exact (up_ne (by assumption)).trans (by assumption)) (Nat.le_of_ble_eq_true rfl) (w2_8 _) ?_
        refine x_iinc (v := (-1)) dX2_toFirst_57 rfl (by decide) (Nat.le_of_ble_eq_true rfl) rfl ?_
        refine x_goto dX2_toFirst_60 ?_
        refine x_eq ?_ rfl ?_ (ih (by omega) _ hst2)
        · rw [← nI_add_m1]; rfl
        · exact (by funext j; simp only [va_up]; (repeat' split) <;> first | rfl | omega | simp_all)
  refine x_aload dX2_toFirst_0 rfl ?_
  refine x_aload dX2_toFirst_1 rfl ?_
  refine x_get fX2_82 dX2_toFirst_2 (by first | assumption | rfl | exact up_same | exact (up_ne (by omega)).trans (by assumption) | exact (up_ne (by assumption)).trans (by assumption)) ?_
  refine x_put fX2_35 tt2 gX2_35 dX2_toFirst_5 (by first | assumption | rfl | exact up_same | exact (up_ne (by omega)).trans (by assumption) | exact (up_ne (by assumption)).trans (by assumption)) (Nat.le_of_ble_eq_true rfl) (w2_6 _) ?_
  refine x_aload dX2_toFirst_8 rfl ?_
  refine x_aload dX2_toFirst_9 rfl ?_
  refine x_get fX2_106 dX2_toFirst_10 (by first | assumption | rfl | exact up_same | exact (up_ne (by omega)).trans (by assumption) | exact (up_ne (by assumption)).trans (by assumption)) ?_
  refine x_k dX2_toFirst_13 ?_
  refine x_iadd dX2_toFirst_14 ?_
  rw [nI_1]
  refine x_put fX2_39 tt2 gX2_39 dX2_toFirst_15 (by first | assumption | rfl | exact up_same | exact (up_ne (by omega)).trans (by assumption) | exact (up_ne (by assumption)).trans (by assumption)) (Nat.le_of_ble_eq_true rfl) (w2_7 _) ?_
  refine x_aload dX2_toFirst_18 rfl ?_
  refine x_k dX2_toFirst_19 ?_
  refine x_put fX2_42 tt2 gX2_42 dX2_toFirst_20 (by first | assumption | rfl | exact up_same | exact (up_ne (by omega)).trans (by assumption) | exact (up_ne (by assumption)).trans (by assumption)) (Nat.le_of_ble_eq_true rfl) (w2_8 _) ?_
  refine x_aload dX2_toFirst_23 rfl ?_
  refine x_get fX2_35 dX2_toFirst_24 (by first | assumption | rfl | exact up_same | exact (up_ne (by omega)).trans (by assumption) | exact (up_ne (by assumption)).trans (by assumption)) ?_
  refine x_k dX2_toFirst_27 ?_
  refine x_isub dX2_toFirst_28 ?_
  refine x_istore dX2_toFirst_29 (Nat.le_of_ble_eq_true rfl) rfl ?_
  refine x_eq rfl rfl ?_ (all N (Nat.le_refl _) st (fun p h1 h2 => absurd h1 (by omega)))
  rw [Nat.sub_self, Nat.pow_zero]
  have e36 : va_up (va_up h 28 (cR en (nI N) (nI (H + 1)) (nI 1) fi rk wk rs fr wy)) 36 (ia 4 st) = va_up h 28 (cR en (nI N) (nI (H + 1)) (nI 1) fi rk wk rs fr wy) := up_id ((up_ne (by decide)).trans h36)
  rw [e36]
  exact (by funext j; simp only [va_up]; (repeat' split) <;> first | rfl | omega | simp_all)
theorem rwP_lt (d : DT) (r p : Nat) : rwP d r p < d_H d + 1 := Nat.mod_lt _ (by omega)
theorem rw_0 (d : DT) (p : Nat) : rwP d 0 p = 0 := by rw [rwP, Nat.zero_div, Nat.zero_mod]
theorem insM_congr {N : Nat} {pos pos' : Nat → Nat} (e : ∀ p, p < N → pos p = pos' p) (z : Nat) : insM N pos z = insM N pos' z := msk_congr (fun p hp => by rw [e p hp])
def FL (h : Hp) (d : DT) (k : Nat) (rs fr wy : Int32) (st bk cn : Nat → Int32) (r : Nat) (h' : Hp) : Prop :=
  h' 28 = cR (.ref k) (nI (d_N d)) (nI (d_H d + 1)) (nI (rwN d)) 0 0 0 rs fr wy ∧
  (∃ (so dn ln : Int32) (f g kf tf : Nat → Int32), h' 29 = cK 30 31 32 33 so dn ln ∧ h' 30 = ia 8 f ∧ h' 31 = ia 8 g ∧ h' 32 = ia 8 kf ∧ h' 33 = ia 8 tf) ∧
  (∃ is ats : Nat → Int32, h' 34 = ia 9 is ∧ h' 35 = ia 4 ats ∧ (∀ p, p < d_N d → ats p = nI (rwP d r p)) ∧ ∀ z, z < 9 → is z = nI (insM (d_N d) (rwP d r) z)) ∧
  (h' 36 = ia 4 st ∧ h' 37 = ia 4 bk ∧ h' 38 = ia 4 cn) ∧ (∃ e, h' k = la 6561 e ∧ ∀ j, j < r → endOK d (rwR d j) (e j)) ∧ ∀ j, (j < 28 ∨ 38 < j) → j ≠ k → h' j = h j
theorem FL_next {k r : Nat} {rs fr wy so ln : Int32} {dn : Int32} {st bk cn f g kf tf is2 ats2 : Nat → Int32} {h' : Hp} {e : Nat → Int64} {x : Int64} (hd : okD d) (hk : 85 ≤ k) (b28 : h' 28 = cR (.ref k) (nI (d_N d)) (nI (d_H d + 1)) (nI (rwN d)) 0 0 0 rs fr wy) (b36 : h' 36 = ia 4 st) (b37 : h' 37 = ia 4 bk) (b38 : h' 38 = ia 4 cn) (he : ∀ j, j < r → endOK d (rwR d j) (e j)) (hx : endOK d (rwR d r) x) (hfr : ∀ j, (j < 28 ∨ 38 < j) → j ≠ k → h' j = h j) (hat2 : ∀ p, p < d_N d → ats2 p = nI (nxtF (d_H d + 1) (rwP d r) (d_N d) p)) (hin2 : ∀ z, z < 9 → is2 z = nI (insM (d_N d) (nxtF (d_H d + 1) (rwP d r) (d_N d)) z)) : FL h d k rs fr wy st bk cn (r + 1) (va_up (va_up (va_up (skH_29 h' f g kf tf so dn ln) k (la 6561 (vp_updL e r x))) 34 (ia 9 is2)) 35 (ia 4 ats2)) := by
  have ed : ∀ p, p < d_N d → nxtF (d_H d + 1) (rwP d r) (d_N d) p = rwP d (r + 1) p := fun p hp => nxtF_dig (by omega) (d_N d) r (fun q _ => rfl) p hp
  have ev : ∀ j, j ≠ 34 → j ≠ 35 → j ≠ k → (j < 29 ∨ 33 < j) → (va_up (va_up (va_up (skH_29 h' f g kf tf so dn ln) k (la 6561 (vp_updL e r x))) 34 (ia 9 is2)) 35 (ia 4 ats2)) j = h' j := fun j j1 j2 j3 j4 => by
    rw [up_ne j2, up_ne j1, up_ne j3, skH_29, up_ne (by omega), up_ne (by omega), up_ne (by omega), up_ne (by omega), up_ne (by omega)]
  refine ⟨(ev 28 (by decide) (by decide) (by omega) (by decide)).trans b28, ⟨so, dn, ln, f, g, kf, tf, ?_, ?_, ?_, ?_, ?_⟩, ⟨is2, ats2, ?_, up_same, fun p hp => by rw [hat2 p hp, ed p hp], fun z hz => by rw [hin2 z hz, insM_congr ed]⟩, ⟨(ev 36 (by decide) (by decide) (by omega) (by decide)).trans b36, (ev 37 (by decide) (by decide) (by omega) (by decide)).trans b37, (ev 38 (by decide) (by decide) (by omega) (by decide)).trans b38⟩, ⟨vp_updL e r x, ?_, fun j hj => ?_⟩, fun j hj hjk => (ev j (by omega) (by omega) hjk (by omega)).trans (hfr j hj hjk)⟩
  · rw [up_ne (by decide), up_ne (by decide), up_ne (by omega), skH_29, up_same]
  · rw [up_ne (by decide), up_ne (by decide), up_ne (by omega), skH_29, up_ne (by decide), up_ne (by decide), up_ne (by decide), up_ne (by decide), up_same]
  · rw [up_ne (by decide), up_ne (by decide), up_ne (by omega), skH_29, up_ne (by decide), up_ne (by decide), up_ne (by decide), up_same]
  · rw [up_ne (by decide), up_ne (by decide), up_ne (by omega), skH_29, up_ne (by decide), up_ne (by decide), up_same]
  · rw [up_ne (by decide), up_ne (by decide), up_ne (by omega), skH_29, up_ne (by decide), up_same]
  · rw [up_ne (by decide), up_same]
  · rw [up_ne (by omega), up_ne (by omega), up_same]
  · by_cases ej : j = r
    · subst ej
      have : vp_updL e j x j = x := if_pos rfl
      rw [this]; exact hx
    · have : vp_updL e r x j = e j := if_neg ej
      rw [this]; exact he j (by omega)
noncomputable abbrev rrI (d : DT) (r i : Nat) : SS := runF (d_H d) (d_N d) (rwP d r) ((d_L d).testBit 0) ((d_L d).testBit 1) ((d_L d).testBit 2) (ownN (d_b0 d)) (cN (d_sh d)) (cN (d_sb d)) i
theorem x_fillE_0 {Q : QT} {k r : Nat} {rs fr wy : Int32} {f g kf tf is ats st bk cn pr : Nat → Int32} {h' : Hp} {e : Nat → Int64} (hd : okD d) (hN : d_N d ≤ 4) (hk : 85 ≤ k) (hr : r < rwN d) (hs : skF (d_H d) (rrI d r (d_ns d)) f g kf tf) (hpr : ∀ j, j < d_H d → pr j = nI (priN (d_b0 d) j)) (c10 : h' 10 = cSt (nI (d_H d)) (nI (d_N d))) (c12 : h' 12 = ia 8 pr) (b28 : h' 28 = cR (.ref k) (nI (d_N d)) (nI (d_H d + 1)) (nI (rwN d)) 0 0 0 rs fr wy) (b34 : h' 34 = ia 9 is) (b35 : h' 35 = ia 4 ats) (b36 : h' 36 = ia 4 st) (b37 : h' 37 = ia 4 bk) (b38 : h' 38 = ia 4 cn) (bke : h' k = la 6561 e) (he : ∀ j, j < r → endOK d (rwR d j) (e j)) (hat : ∀ p, p < d_N d → ats p = nI (rwP d r p)) (hin : ∀ z, z < 9 → is z = nI (insM (d_N d) (rwP d r) z)) (hfr : ∀ j, (j < 28 ∨ 38 < j) → j ≠ k → h' j = h j) (K : ∀ (h2 : Hp) (v : Value), FL h d k rs fr wy st bk cn (r + 1) h2 → Ex Γ mX2_fill (gx_Z Γ mX2_fill Q) 0 0 39 [.ref 28, .ref 10, .ref 17, .int (nI (r + 1)), v] [] h2 sz) : Ex Γ mX2_fill (gx_Z Γ mX2_fill Q) 0 0 86 [.ref 28, .ref 10, .ref 17, .int (nI r), .int (nI (d_ns d))] [] (skH_29 h' f g kf tf (soN (rrI d r (d_ns d)).2.2.1) (nI (d_ns d)) (nI (rrI d r (d_ns d)).2.2.2)) sz := by
  have hH8 : d_H d ≤ 8 := (hN_ok hd.1.1).1
  have hle := rwN_le hd hN
  have hpos : ∀ p, p < d_N d → rwP d r p < d_H d + 1 := fun p _ => rwP_lt d r p
  have hkp : ∀ p, p < d_N d → (rrI d r (d_ns d)).2.1 p < 4 := fun p hp => Nat.lt_of_lt_of_le (runF_kp (d_ns d) p hp) hN
  generalize hso : soN (rrI d r (d_ns d)).2.2.1 = so
  generalize hln : nI (rrI d r (d_ns d)).2.2.2 = ln
  have cke : (skH_29 h' f g kf tf so (nI (d_ns d)) ln) k = la 6561 e := by
    rw [skH_29, up_ne (by omega), up_ne (by omega), up_ne (by omega), up_ne (by omega), up_ne (by omega)]; exact bke
  refine x_aload dX2_fill_86 rfl ?_
  refine x_get fX2_31 dX2_fill_87 (by first | assumption | rfl | exact up_same | exact (up_ne (by omega)).trans (by assumption) | exact (up_ne (by assumption)).trans (by assumption)) ?_
  refine x_iload dX2_fill_90 rfl ?_
  refine x_aload dX2_fill_91 rfl ?_
  refine x_aload dX2_fill_92 rfl ?_
  refine x_V1l lX2_99 (Rm.of rfl) (cc1 := 0) (cn1 := 0) rfl rfl (Nat.le_of_ble_eq_true rfl) dX2_fill_93 (by first | assumption | rfl | exact up_same | exact (up_ne (by omega)).trans (by assumption) | exact (up_ne (by assumption)).trans (by assumption)) (r_endOf (s := rrI d r (d_ns d)) (g := g) (tf := tf) b28 rfl rfl rfl c10 c12 hpr hs hkp hd hN) ?_
  refine x_lastn dX2_fill_96 (by first | assumption | rfl | exact up_same | exact (up_ne (by omega)).trans (by assumption) | exact (up_ne (by assumption)).trans (by assumption)) ⟨by first | omega | decide, by decide⟩ ?_
  refine x_aload dX2_fill_97 rfl ?_
  refine x_V0q lX2_103 (Rm.of rfl) (cc1 := 0) (cn1 := 0) rfl rfl (Nat.le_of_ble_eq_true rfl) dX2_fill_98 (by first | assumption | rfl | exact up_same | exact (up_ne (by omega)).trans (by assumption) | exact (up_ne (by assumption)).trans (by assumption)) (r_toNext (N := d_N d) (S := d_H d + 1) (pos := rwP d r) ((up_ne (by omega)).trans b28) ((up_ne (by omega)).trans b34) ((up_ne (by omega)).trans b35) hN (by omega) (by omega) hat hpos hin) ?_
  rintro _ _ _ ⟨rfl, rfl, is2, ats2, rfl, hat2, hpos2, hin2⟩
  refine x_inc1 dX2_fill_101 rfl (Nat.le_of_ble_eq_true rfl) rfl ?_
  refine x_goto dX2_fill_104 ?_
  exact K _ _ (FL_next hd hk b28 b36 b37 b38 he (end_OK hd hN hkp) hfr hat2 hin2)
theorem x_fillR_0 {Q : QT} {k r : Nat} {rs fr wy : Int32} {st bk cn : Nat → Int32} {h' : Hp} {v : Value} (hA : XA h d) (hd : okD d) (hN : d_N d ≤ 4) (hk : 85 ≤ k) (hr : r < rwN d) (hF : FL h d k rs fr wy st bk cn r h') (K : ∀ (h2 : Hp) (v : Value), FL h d k rs fr wy st bk cn (r + 1) h2 → Ex Γ mX2_fill (gx_Z Γ mX2_fill Q) 0 0 39 [.ref 28, .ref 10, .ref 17, .int (nI (r + 1)), v] [] h2 sz) : Ex Γ mX2_fill (gx_Z Γ mX2_fill Q) 0 0 39 [.ref 28, .ref 10, .ref 17, .int (nI r), v] [] h' sz := by
  obtain ⟨ow, pr, od, kd, sp, ins, a1, ⟨a10, a11, a12, a13, a14, a15, a16⟩, ⟨a17, a18, a19⟩, a4, a5, a6, f1, f2, f3, f4⟩ := id hA
  have hH8 : d_H d ≤ 8 := (hN_ok hd.1.1).1
  have hns := hd.2.1.2.1
  have hle := rwN_le hd hN
  obtain ⟨b28, ⟨so, dn, ln, f, g, kf, tf, b29, b30, b31, b32, b33⟩, ⟨is, ats, b34, b35, hat, hin⟩, ⟨b36, b37, b38⟩, ⟨e, bke, he⟩, hfr⟩ := hF
  have c10 := (hfr 10 (by omega) (by omega)).trans a10
  have c11 := (hfr 11 (by omega) (by omega)).trans a11
  have c12 := (hfr 12 (by omega) (by omega)).trans a12
  have c13 := (hfr 13 (by omega) (by omega)).trans a13
  have c17 := (hfr 17 (by omega) (by omega)).trans a17
  have c18 := (hfr 18 (by omega) (by omega)).trans a18
  have c19 := (hfr 19 (by omega) (by omega)).trans a19
  clear a1 a10 a11 a12 a13 a14 a15 a16 a17 a18 a19 a4 a5 a6
  have J58 : ∀ i, i ≤ d_ns d → ∀ f g kf tf : Nat → Int32, skF (d_H d) (rrI d r i) f g kf tf → Ex Γ mX2_fill (gx_Z Γ mX2_fill Q) 0 0 58 [.ref 28, .ref 10, .ref 17, .int (nI r), .int (nI i)] [] (skH_29 h' f g kf tf (soN (rrI d r i).2.2.1) (nI i) (nI (rrI d r i).2.2.2)) sz := by
    refine loopUp (d_ns d) (fun f g kf tf hs => ?_) (fun i hi ih2 f g kf tf hs => ?_)
    · refine x_iload dX2_fill_58 rfl ?_
      refine x_aload dX2_fill_60 rfl ?_
      refine x_get fX2_92 dX2_fill_61 (by first | assumption | rfl | exact up_same | exact (up_ne (by omega)).trans (by assumption) | exact (up_ne (by assumption)).trans (by assumption)) ?_
      refine x_icmp_ge dX2_fill_64 (fun b64 => ?_) (fun b64 => ?_)
      · exact x_fillE_0 (pr := pr) hd hN hk hr hs (fun j hj => (f1 j hj).2) c10 c12 b28 b34 b35 b36 b37 b38 bke he hat hin hfr K
      · exact absurd (Int32.le_refl _) b64
    · refine x_iload dX2_fill_58 rfl ?_
      refine x_aload dX2_fill_60 rfl ?_
      refine x_get fX2_92 dX2_fill_61 (by first | assumption | rfl | exact up_same | exact (up_ne (by omega)).trans (by assumption) | exact (up_ne (by assumption)).trans (by assumption)) ?_
      refine x_icmp_ge dX2_fill_64 (fun b64 => ?_) (fun b64 => ?_)
      · exact absurd b64 (nI_ge hi (by omega))
      · refine x_aload dX2_fill_67 rfl ?_
        refine x_get fX2_12 dX2_fill_68 (by first | assumption | rfl | exact up_same | exact (up_ne (by omega)).trans (by assumption) | exact (up_ne (by assumption)).trans (by assumption)) ?_
        refine x_aload dX2_fill_71 rfl ?_
        refine x_aload dX2_fill_72 rfl ?_
        refine x_get fX2_18 dX2_fill_73 (by first | assumption | rfl | exact up_same | exact (up_ne (by omega)).trans (by assumption) | exact (up_ne (by assumption)).trans (by assumption)) ?_
        refine x_aload dX2_fill_76 rfl ?_
        refine x_V3q lX2_95 (Rm.of rfl) (cc1 := 0) (cn1 := 0) rfl rfl (Nat.le_of_ble_eq_true rfl) dX2_fill_77 (by first | assumption | rfl | exact up_same | exact (up_ne (by omega)).trans (by assumption) | exact (up_ne (by assumption)).trans (by assumption)) (r_next_29 (s := rrI d r i) (pos := rwP d r) (sh := cN (d_sh d)) (sb := cN (d_sb d)) (H := d_H d) (N := d_N d) (L := d_L d) (ns := d_ns d) rfl rfl rfl rfl rfl b34 c10 c17 c18 c19 hs hin (fun j hj => ⟨(hd.2.1.2.2 j hj).1.1, (hd.2.1.2.2 j hj).1.2, (hd.2.1.2.2 j hj).2.1, (hd.2.1.2.2 j hj).2.2⟩) (by omega) hns hH8 (by omega) hd.2.1.1) ?_
        rintro _ _ _ ⟨rfl, rfl, f3', g3, kf3, tf3, hs3, rfl⟩
        refine x_inc1 dX2_fill_80 rfl (Nat.le_of_ble_eq_true rfl) rfl ?_
        refine x_goto dX2_fill_83 ?_
        refine x_eq rfl rfl ?_ (ih2 f3' g3 kf3 tf3 hs3)
        exact (by funext j; simp only [va_up]; (repeat' split) <;> first | rfl | omega | simp_all)
  refine x_iload dX2_fill_39 rfl ?_
  refine x_aload dX2_fill_40 rfl ?_
  refine x_get fX2_42 dX2_fill_41 (by first | assumption | rfl | exact up_same | exact (up_ne (by omega)).trans (by assumption) | exact (up_ne (by assumption)).trans (by assumption)) ?_
  refine x_icmp_ge dX2_fill_44 (fun b44 => ?_) (fun b44 => ?_)
  · exact absurd b44 (nI_ge hr (by omega))
  · refine x_aload dX2_fill_47 rfl ?_
    refine x_get fX2_12 dX2_fill_48 (by first | assumption | rfl | exact up_same | exact (up_ne (by omega)).trans (by assumption) | exact (up_ne (by assumption)).trans (by assumption)) ?_
    refine x_aload dX2_fill_51 rfl ?_
    refine x_V1q lX2_89 (Rm.of rfl) (cc1 := 0) (cn1 := 0) rfl rfl (Nat.le_of_ble_eq_true rfl) dX2_fill_52 (by first | assumption | rfl | exact up_same | exact (up_ne (by omega)).trans (by assumption) | exact (up_ne (by assumption)).trans (by assumption)) (r_begin_29 (own := ownN (d_b0 d)) (H := d_H d) (N := d_N d) b29 b30 b31 b32 b33 c10 c11 c13 hH8 (fun j hj => ⟨(f1 j hj).1, (ownN_ok hd.1.1 hj).2⟩) f2) ?_
    rintro _ _ _ ⟨rfl, rfl, f2', g2, kf2, tf2, hs2, rfl⟩
    refine x_k dX2_fill_55 ?_
    refine x_istore dX2_fill_56 (Nat.le_of_ble_eq_true rfl) rfl ?_
    exact x_eq rfl rfl rfl (J58 0 (Nat.zero_le _) f2' g2 kf2 tf2 hs2)
theorem x_fillA_0 {Q : QT} {k : Nat} {pe sp' si rs fr wy so dn ln : Int32} {f g kf tf is ats st bk cn : Nat → Int32} {e0 : Nat → Int64} (hA : XA h d) (hd : okD d) (hN : d_N d ≤ 4) (a28 : h 28 = cR (.ref k) pe sp' si 0 0 0 rs fr wy) (a29 : h 29 = cK 30 31 32 33 so dn ln) (a30 : h 30 = ia 8 f) (a31 : h 31 = ia 8 g) (a32 : h 32 = ia 8 kf) (a33 : h 33 = ia 8 tf) (a34 : h 34 = ia 9 is) (a35 : h 35 = ia 4 ats) (a36 : h 36 = ia 4 st) (a37 : h 37 = ia 4 bk) (a38 : h 38 = ia 4 cn) (hbk : ∀ p, p < 4 → bk p = -1) (hk : 85 ≤ k ∧ k < sz) (hke : h k = la 6561 e0) (hQ : ∀ h' : Hp, XF h' sz d → (∀ j, (j < 28 ∨ 38 < j) → j ≠ k → h' j = h j) → Q none h' sz) : Ex Γ mX2_fill (gx_Z Γ mX2_fill Q) 0 0 32 [.ref 28, .ref 10, .ref 17, .retAddr 0, .retAddr 0] [] h sz := by
  obtain ⟨ow, pr, od, kd, sp, ins, a1, ⟨a10, -⟩, -⟩ := id hA
  have hH8 : d_H d ≤ 8 := (hN_ok hd.1.1).1
  have hle := rwN_le hd hN
  refine x_aload dX2_fill_32 rfl ?_
  refine x_aload dX2_fill_33 rfl ?_
  refine x_V1q lX2_85 (Rm.of rfl) (cc1 := 0) (cn1 := 0) rfl rfl (Nat.le_of_ble_eq_true rfl) dX2_fill_34 (by first | assumption | rfl | exact up_same | exact (up_ne (by omega)).trans (by assumption) | exact (up_ne (by assumption)).trans (by assumption)) (r_toFirst a28 a34 a35 a36 a10 hN hH8) ?_
  rintro _ _ _ ⟨rfl, rfl, is1, ats1, st1, rfl, hst1, hat1, hin1⟩
  refine x_k dX2_fill_37 ?_
  refine x_istore dX2_fill_38 (Nat.le_of_ble_eq_true rfl) rfl ?_
  have all : ∀ r, r ≤ rwN d → ∀ (h' : Hp) (v : Value), FL h d k rs fr wy st1 bk cn r h' → Ex Γ mX2_fill (gx_Z Γ mX2_fill Q) 0 0 39 [.ref 28, .ref 10, .ref 17, .int (nI r), v] [] h' sz := by
    refine loopUp (rwN d) (fun h' v hF => ?_) (fun r hr ih h' v hF => x_fillR_0 hA hd hN hk.1 hr hF ih)
    obtain ⟨b28, ⟨so, dn, ln, f, g, kf, tf, b29, b30, b31, b32, b33⟩, ⟨is, ats, b34, b35, hat, hin⟩, ⟨b36, b37, b38⟩, ⟨e, bke, he⟩, hfr⟩ := hF
    refine x_iload dX2_fill_39 rfl ?_
    refine x_aload dX2_fill_40 rfl ?_
    refine x_get fX2_42 dX2_fill_41 (by first | assumption | rfl | exact up_same | exact (up_ne (by omega)).trans (by assumption) | exact (up_ne (by assumption)).trans (by assumption)) ?_
    refine x_icmp_ge dX2_fill_44 (fun b44 => ?_) (fun b44 => ?_)
    · refine x_aload dX2_fill_107 rfl ?_
      refine x_k dX2_fill_108 ?_
      refine x_put fX2_45 tt2 gX2_45 dX2_fill_109 (by first | assumption | rfl | exact up_same | exact (up_ne (by omega)).trans (by assumption) | exact (up_ne (by assumption)).trans (by assumption)) (Nat.le_of_ble_eq_true rfl) (by first | exact w2_90 | exact w2_91) ?_
      refine x_vret dX2_fill_112 rfl (Nat.le_of_ble_eq_true rfl) (Nat.le_of_ble_eq_true rfl) ?_
      exact hQ _ ⟨k, 0, 0, rs, fr, wy, so, dn, ln, f, g, kf, tf, is, ats, st1, bk, cn, e, ⟨rfl, b29, b30, b31, b32, b33⟩, ⟨b34, b35, b36, b37, b38⟩, ⟨hk, (up_ne (by omega)).trans bke⟩, ⟨hN, rfl, rfl, rfl, hst1, he⟩, fun p hp => Or.inl (hbk p hp), Or.inl rfl, Or.inl rfl⟩ (fun j hj hjk => (up_ne (by omega)).trans (hfr j hj hjk))
    · exact absurd (Int32.le_refl _) b44
  refine all 0 (Nat.zero_le _) _ _ ⟨rfl, ⟨so, dn, ln, f, g, kf, tf, a29, a30, a31, a32, a33⟩, ⟨is1, ats1, rfl, rfl, fun p hp => by rw [hat1 p hp, rw_0], fun z hz => by rw [hin1 z hz, insM_congr (fun p _ => rw_0 d p)]⟩, ⟨rfl, a37, a38⟩, ⟨e0, ?_, fun j hj => absurd hj (by omega)⟩, fun j hj hjk => by rw [up_ne (by omega), up_ne (by omega), up_ne (by omega), up_ne (by omega)]⟩
  rw [up_ne (by omega), up_ne (by omega), up_ne (by omega), up_ne (by omega)]; exact hke
theorem x_fillE_1 {Q : QT} {k r : Nat} {rs fr wy : Int32} {f g kf tf is ats st bk cn pr : Nat → Int32} {h' : Hp} {e : Nat → Int64} (hd : okD d) (hN : d_N d ≤ 4) (hk : 85 ≤ k) (hr : r < rwN d) (hs : skF (d_H d) (rrI d r (d_ns d)) f g kf tf) (hpr : ∀ j, j < d_H d → pr j = nI (priN (d_b0 d) j)) (c10 : h' 10 = cSt (nI (d_H d)) (nI (d_N d))) (c12 : h' 12 = ia 8 pr) (b28 : h' 28 = cR (.ref k) (nI (d_N d)) (nI (d_H d + 1)) (nI (rwN d)) 0 0 0 rs fr wy) (b34 : h' 34 = ia 9 is) (b35 : h' 35 = ia 4 ats) (b36 : h' 36 = ia 4 st) (b37 : h' 37 = ia 4 bk) (b38 : h' 38 = ia 4 cn) (bke : h' k = la 6561 e) (he : ∀ j, j < r → endOK d (rwR d j) (e j)) (hat : ∀ p, p < d_N d → ats p = nI (rwP d r p)) (hin : ∀ z, z < 9 → is z = nI (insM (d_N d) (rwP d r) z)) (hfr : ∀ j, (j < 28 ∨ 38 < j) → j ≠ k → h' j = h j) (K : ∀ (h2 : Hp) (v : Value), FL h d k rs fr wy st bk cn (r + 1) h2 → Ex Γ mX2_fill (gx_Z Γ mX2_fill Q) 1 6561 39 [.ref 28, .ref 10, .ref 17, .int (nI (r + 1)), v] [] h2 sz) : Ex Γ mX2_fill (gx_Z Γ mX2_fill Q) 1 6561 86 [.ref 28, .ref 10, .ref 17, .int (nI r), .int (nI (d_ns d))] [] (skH_29 h' f g kf tf (soN (rrI d r (d_ns d)).2.2.1) (nI (d_ns d)) (nI (rrI d r (d_ns d)).2.2.2)) sz := by
  have hH8 : d_H d ≤ 8 := (hN_ok hd.1.1).1
  have hle := rwN_le hd hN
  have hpos : ∀ p, p < d_N d → rwP d r p < d_H d + 1 := fun p _ => rwP_lt d r p
  have hkp : ∀ p, p < d_N d → (rrI d r (d_ns d)).2.1 p < 4 := fun p hp => Nat.lt_of_lt_of_le (runF_kp (d_ns d) p hp) hN
  generalize hso : soN (rrI d r (d_ns d)).2.2.1 = so
  generalize hln : nI (rrI d r (d_ns d)).2.2.2 = ln
  have cke : (skH_29 h' f g kf tf so (nI (d_ns d)) ln) k = la 6561 e := by
    rw [skH_29, up_ne (by omega), up_ne (by omega), up_ne (by omega), up_ne (by omega), up_ne (by omega)]; exact bke
  refine x_aload dX2_fill_86 rfl ?_
  refine x_get fX2_31 dX2_fill_87 (by first | assumption | rfl | exact up_same | exact (up_ne (by omega)).trans (by assumption) | exact (up_ne (by assumption)).trans (by assumption)) ?_
  refine x_iload dX2_fill_90 rfl ?_
  refine x_aload dX2_fill_91 rfl ?_
  refine x_aload dX2_fill_92 rfl ?_
  refine x_V1l lX2_99 (Rm.of rfl) (cc1 := 1) (cn1 := 6561) rfl rfl (Nat.le_of_ble_eq_true rfl) dX2_fill_93 (by first | assumption | rfl | exact up_same | exact (up_ne (by omega)).trans (by assumption) | exact (up_ne (by assumption)).trans (by assumption)) (r_endOf (s := rrI d r (d_ns d)) (g := g) (tf := tf) b28 rfl rfl rfl c10 c12 hpr hs hkp hd hN) ?_
  refine x_lastn dX2_fill_96 (by first | assumption | rfl | exact up_same | exact (up_ne (by omega)).trans (by assumption) | exact (up_ne (by assumption)).trans (by assumption)) ⟨by first | omega | decide, by decide⟩ ?_
  refine x_aload dX2_fill_97 rfl ?_
  refine x_V0q lX2_103 (Rm.of rfl) (cc1 := 1) (cn1 := 6561) rfl rfl (Nat.le_of_ble_eq_true rfl) dX2_fill_98 (by first | assumption | rfl | exact up_same | exact (up_ne (by omega)).trans (by assumption) | exact (up_ne (by assumption)).trans (by assumption)) (r_toNext (N := d_N d) (S := d_H d + 1) (pos := rwP d r) ((up_ne (by omega)).trans b28) ((up_ne (by omega)).trans b34) ((up_ne (by omega)).trans b35) hN (by omega) (by omega) hat hpos hin) ?_
  rintro _ _ _ ⟨rfl, rfl, is2, ats2, rfl, hat2, hpos2, hin2⟩
  refine x_inc1 dX2_fill_101 rfl (Nat.le_of_ble_eq_true rfl) rfl ?_
  refine x_goto dX2_fill_104 ?_
  exact K _ _ (FL_next hd hk b28 b36 b37 b38 he (end_OK hd hN hkp) hfr hat2 hin2)
theorem x_fillR_1 {Q : QT} {k r : Nat} {rs fr wy : Int32} {st bk cn : Nat → Int32} {h' : Hp} {v : Value} (hA : XA h d) (hd : okD d) (hN : d_N d ≤ 4) (hk : 85 ≤ k) (hr : r < rwN d) (hF : FL h d k rs fr wy st bk cn r h') (K : ∀ (h2 : Hp) (v : Value), FL h d k rs fr wy st bk cn (r + 1) h2 → Ex Γ mX2_fill (gx_Z Γ mX2_fill Q) 1 6561 39 [.ref 28, .ref 10, .ref 17, .int (nI (r + 1)), v] [] h2 sz) : Ex Γ mX2_fill (gx_Z Γ mX2_fill Q) 1 6561 39 [.ref 28, .ref 10, .ref 17, .int (nI r), v] [] h' sz := by
  obtain ⟨ow, pr, od, kd, sp, ins, a1, ⟨a10, a11, a12, a13, a14, a15, a16⟩, ⟨a17, a18, a19⟩, a4, a5, a6, f1, f2, f3, f4⟩ := id hA
  have hH8 : d_H d ≤ 8 := (hN_ok hd.1.1).1
  have hns := hd.2.1.2.1
  have hle := rwN_le hd hN
  obtain ⟨b28, ⟨so, dn, ln, f, g, kf, tf, b29, b30, b31, b32, b33⟩, ⟨is, ats, b34, b35, hat, hin⟩, ⟨b36, b37, b38⟩, ⟨e, bke, he⟩, hfr⟩ := hF
  have c10 := (hfr 10 (by omega) (by omega)).trans a10
  have c11 := (hfr 11 (by omega) (by omega)).trans a11
  have c12 := (hfr 12 (by omega) (by omega)).trans a12
  have c13 := (hfr 13 (by omega) (by omega)).trans a13
  have c17 := (hfr 17 (by omega) (by omega)).trans a17
  have c18 := (hfr 18 (by omega) (by omega)).trans a18
  have c19 := (hfr 19 (by omega) (by omega)).trans a19
  clear a1 a10 a11 a12 a13 a14 a15 a16 a17 a18 a19 a4 a5 a6
  have J58 : ∀ i, i ≤ d_ns d → ∀ f g kf tf : Nat → Int32, skF (d_H d) (rrI d r i) f g kf tf → Ex Γ mX2_fill (gx_Z Γ mX2_fill Q) 1 6561 58 [.ref 28, .ref 10, .ref 17, .int (nI r), .int (nI i)] [] (skH_29 h' f g kf tf (soN (rrI d r i).2.2.1) (nI i) (nI (rrI d r i).2.2.2)) sz := by
    refine loopUp (d_ns d) (fun f g kf tf hs => ?_) (fun i hi ih2 f g kf tf hs => ?_)
    · refine x_iload dX2_fill_58 rfl ?_
      refine x_aload dX2_fill_60 rfl ?_
      refine x_get fX2_92 dX2_fill_61 (by first | assumption | rfl | exact up_same | exact (up_ne (by omega)).trans (by assumption) | exact (up_ne (by assumption)).trans (by assumption)) ?_
      refine x_icmp_ge dX2_fill_64 (fun b64 => ?_) (fun b64 => ?_)
      · exact x_fillE_1 (pr := pr) hd hN hk hr hs (fun j hj => (f1 j hj).2) c10 c12 b28 b34 b35 b36 b37 b38 bke he hat hin hfr K
      · exact absurd (Int32.le_refl _) b64
    · refine x_iload dX2_fill_58 rfl ?_
      refine x_aload dX2_fill_60 rfl ?_
      refine x_get fX2_92 dX2_fill_61 (by first | assumption | rfl | exact up_same | exact (up_ne (by omega)).trans (by assumption) | exact (up_ne (by assumption)).trans (by assumption)) ?_
      refine x_icmp_ge dX2_fill_64 (fun b64 => ?_) (fun b64 => ?_)
      · exact absurd b64 (nI_ge hi (by omega))
      · refine x_aload dX2_fill_67 rfl ?_
        refine x_get fX2_12 dX2_fill_68 (by first | assumption | rfl | exact up_same | exact (up_ne (by omega)).trans (by assumption) | exact (up_ne (by assumption)).trans (by assumption)) ?_
        refine x_aload dX2_fill_71 rfl ?_
        refine x_aload dX2_fill_72 rfl ?_
        refine x_get fX2_18 dX2_fill_73 (by first | assumption | rfl | exact up_same | exact (up_ne (by omega)).trans (by assumption) | exact (up_ne (by assumption)).trans (by assumption)) ?_
        refine x_aload dX2_fill_76 rfl ?_
        refine x_V3q lX2_95 (Rm.of rfl) (cc1 := 1) (cn1 := 6561) rfl rfl (Nat.le_of_ble_eq_true rfl) dX2_fill_77 (by first | assumption | rfl | exact up_same | exact (up_ne (by omega)).trans (by assumption) | exact (up_ne (by assumption)).trans (by assumption)) (r_next_29 (s := rrI d r i) (pos := rwP d r) (sh := cN (d_sh d)) (sb := cN (d_sb d)) (H := d_H d) (N := d_N d) (L := d_L d) (ns := d_ns d) rfl rfl rfl rfl rfl b34 c10 c17 c18 c19 hs hin (fun j hj => ⟨(hd.2.1.2.2 j hj).1.1, (hd.2.1.2.2 j hj).1.2, (hd.2.1.2.2 j hj).2.1, (hd.2.1.2.2 j hj).2.2⟩) (by omega) hns hH8 (by omega) hd.2.1.1) ?_
        rintro _ _ _ ⟨rfl, rfl, f3', g3, kf3, tf3, hs3, rfl⟩
        refine x_inc1 dX2_fill_80 rfl (Nat.le_of_ble_eq_true rfl) rfl ?_
        refine x_goto dX2_fill_83 ?_
        refine x_eq rfl rfl ?_ (ih2 f3' g3 kf3 tf3 hs3)
        exact (by funext j; simp only [va_up]; (repeat' split) <;> first | rfl | omega | simp_all)
  refine x_iload dX2_fill_39 rfl ?_
  refine x_aload dX2_fill_40 rfl ?_
  refine x_get fX2_42 dX2_fill_41 (by first | assumption | rfl | exact up_same | exact (up_ne (by omega)).trans (by assumption) | exact (up_ne (by assumption)).trans (by assumption)) ?_
  refine x_icmp_ge dX2_fill_44 (fun b44 => ?_) (fun b44 => ?_)
  · exact absurd b44 (nI_ge hr (by omega))
  · refine x_aload dX2_fill_47 rfl ?_
    refine x_get fX2_12 dX2_fill_48 (by first | assumption | rfl | exact up_same | exact (up_ne (by omega)).trans (by assumption) | exact (up_ne (by assumption)).trans (by assumption)) ?_
    refine x_aload dX2_fill_51 rfl ?_
    refine x_V1q lX2_89 (Rm.of rfl) (cc1 := 1) (cn1 := 6561) rfl rfl (Nat.le_of_ble_eq_true rfl) dX2_fill_52 (by first | assumption | rfl | exact up_same | exact (up_ne (by omega)).trans (by assumption) | exact (up_ne (by assumption)).trans (by assumption)) (r_begin_29 (own := ownN (d_b0 d)) (H := d_H d) (N := d_N d) b29 b30 b31 b32 b33 c10 c11 c13 hH8 (fun j hj => ⟨(f1 j hj).1, (ownN_ok hd.1.1 hj).2⟩) f2) ?_
    rintro _ _ _ ⟨rfl, rfl, f2', g2, kf2, tf2, hs2, rfl⟩
    refine x_k dX2_fill_55 ?_
    refine x_istore dX2_fill_56 (Nat.le_of_ble_eq_true rfl) rfl ?_
    exact x_eq rfl rfl rfl (J58 0 (Nat.zero_le _) f2' g2 kf2 tf2 hs2)
theorem x_fillA_1 {Q : QT} {k : Nat} {pe sp' si rs fr wy so dn ln : Int32} {f g kf tf is ats st bk cn : Nat → Int32} {e0 : Nat → Int64} (hA : XA h d) (hd : okD d) (hN : d_N d ≤ 4) (a28 : h 28 = cR (.ref k) pe sp' si 0 0 0 rs fr wy) (a29 : h 29 = cK 30 31 32 33 so dn ln) (a30 : h 30 = ia 8 f) (a31 : h 31 = ia 8 g) (a32 : h 32 = ia 8 kf) (a33 : h 33 = ia 8 tf) (a34 : h 34 = ia 9 is) (a35 : h 35 = ia 4 ats) (a36 : h 36 = ia 4 st) (a37 : h 37 = ia 4 bk) (a38 : h 38 = ia 4 cn) (hbk : ∀ p, p < 4 → bk p = -1) (hk : 85 ≤ k ∧ k < sz) (hke : h k = la 6561 e0) (hQ : ∀ h' : Hp, XF h' sz d → (∀ j, (j < 28 ∨ 38 < j) → j ≠ k → h' j = h j) → Q none h' sz) : Ex Γ mX2_fill (gx_Z Γ mX2_fill Q) 1 6561 32 [.ref 28, .ref 10, .ref 17, .retAddr 0, .retAddr 0] [] h sz := by
  obtain ⟨ow, pr, od, kd, sp, ins, a1, ⟨a10, -⟩, -⟩ := id hA
  have hH8 : d_H d ≤ 8 := (hN_ok hd.1.1).1
  have hle := rwN_le hd hN
  refine x_aload dX2_fill_32 rfl ?_
  refine x_aload dX2_fill_33 rfl ?_
  refine x_V1q lX2_85 (Rm.of rfl) (cc1 := 1) (cn1 := 6561) rfl rfl (Nat.le_of_ble_eq_true rfl) dX2_fill_34 (by first | assumption | rfl | exact up_same | exact (up_ne (by omega)).trans (by assumption) | exact (up_ne (by assumption)).trans (by assumption)) (r_toFirst a28 a34 a35 a36 a10 hN hH8) ?_
  rintro _ _ _ ⟨rfl, rfl, is1, ats1, st1, rfl, hst1, hat1, hin1⟩
  refine x_k dX2_fill_37 ?_
  refine x_istore dX2_fill_38 (Nat.le_of_ble_eq_true rfl) rfl ?_
  have all : ∀ r, r ≤ rwN d → ∀ (h' : Hp) (v : Value), FL h d k rs fr wy st1 bk cn r h' → Ex Γ mX2_fill (gx_Z Γ mX2_fill Q) 1 6561 39 [.ref 28, .ref 10, .ref 17, .int (nI r), v] [] h' sz := by
    refine loopUp (rwN d) (fun h' v hF => ?_) (fun r hr ih h' v hF => x_fillR_1 hA hd hN hk.1 hr hF ih)
    obtain ⟨b28, ⟨so, dn, ln, f, g, kf, tf, b29, b30, b31, b32, b33⟩, ⟨is, ats, b34, b35, hat, hin⟩, ⟨b36, b37, b38⟩, ⟨e, bke, he⟩, hfr⟩ := hF
    refine x_iload dX2_fill_39 rfl ?_
    refine x_aload dX2_fill_40 rfl ?_
    refine x_get fX2_42 dX2_fill_41 (by first | assumption | rfl | exact up_same | exact (up_ne (by omega)).trans (by assumption) | exact (up_ne (by assumption)).trans (by assumption)) ?_
    refine x_icmp_ge dX2_fill_44 (fun b44 => ?_) (fun b44 => ?_)
    · refine x_aload dX2_fill_107 rfl ?_
      refine x_k dX2_fill_108 ?_
      refine x_put fX2_45 tt2 gX2_45 dX2_fill_109 (by first | assumption | rfl | exact up_same | exact (up_ne (by omega)).trans (by assumption) | exact (up_ne (by assumption)).trans (by assumption)) (Nat.le_of_ble_eq_true rfl) (by first | exact w2_90 | exact w2_91) ?_
      refine x_vret dX2_fill_112 rfl (Nat.le_of_ble_eq_true rfl) (Nat.le_of_ble_eq_true rfl) ?_
      exact hQ _ ⟨k, 0, 0, rs, fr, wy, so, dn, ln, f, g, kf, tf, is, ats, st1, bk, cn, e, ⟨rfl, b29, b30, b31, b32, b33⟩, ⟨b34, b35, b36, b37, b38⟩, ⟨hk, (up_ne (by omega)).trans bke⟩, ⟨hN, rfl, rfl, rfl, hst1, he⟩, fun p hp => Or.inl (hbk p hp), Or.inl rfl, Or.inl rfl⟩ (fun j hj hjk => (up_ne (by omega)).trans (hfr j hj hjk))
    · exact absurd (Int32.le_refl _) b44
  refine all 0 (Nat.zero_le _) _ _ ⟨rfl, ⟨so, dn, ln, f, g, kf, tf, a29, a30, a31, a32, a33⟩, ⟨is1, ats1, rfl, rfl, fun p hp => by rw [hat1 p hp, rw_0], fun z hz => by rw [hin1 z hz, insM_congr (fun p _ => rw_0 d p)]⟩, ⟨rfl, a37, a38⟩, ⟨e0, ?_, fun j hj => absurd hj (by omega)⟩, fun j hj hjk => by rw [up_ne (by omega), up_ne (by omega), up_ne (by omega), up_ne (by omega)]⟩
  rw [up_ne (by omega), up_ne (by omega), up_ne (by omega), up_ne (by omega)]; exact hke
theorem XA.ofR {h' : Hp} (hA : XA h d) (e : frR h h' sz) (hsz : 85 ≤ sz) : XA h' d := by
  have q := e.lo hsz
  obtain ⟨ow, pr, od, kd, sp, ins, ⟨a5, a6, a7, a8, a9⟩, ⟨a10, a11, a12, a13, a14, a15, a16⟩, ⟨a17, a18, a19⟩, ⟨a25, a26, a27⟩, ⟨a45, a46, a47⟩, ⟨a48, ⟨a49, a50⟩, ⟨a51, a52⟩, ⟨a53, a54⟩, a55, a56⟩, ar⟩ := hA
  have w : ∀ {j : Nat} {c : Option HC}, h j = c → (j < 28 ∨ (38 < j ∧ j < 85)) → (∀ e, c ≠ la 6561 e) → h' j = c := fun {j c} hc hj _ => (q j hj).trans hc
  exact ⟨ow, pr, od, kd, sp, ins, ⟨w a5 (by decide) (fun e z => by cases z), w a6 (by decide) (fun e z => by cases z), w a7 (by decide) (fun e z => by cases z), w a8 (by decide) (fun e z => by cases z), w a9 (by decide) (fun e z => by cases z)⟩, ⟨w a10 (by decide) (fun e z => by cases z), w a11 (by decide) (fun e z => by cases z), w a12 (by decide) (fun e z => by cases z), w a13 (by decide) (fun e z => by cases z), w a14 (by decide) (fun e z => by cases z), w a15 (by decide) (fun e z => by cases z), w a16 (by decide) (fun e z => by cases z)⟩, ⟨w a17 (by decide) (fun e z => by cases z), w a18 (by decide) (fun e z => by cases z), w a19 (by decide) (fun e z => by cases z)⟩, ⟨w a25 (by decide) (fun e z => by cases z), w a26 (by decide) (fun e z => by cases z), w a27 (by decide) (fun e z => by cases z)⟩, ⟨w a45 (by decide) (fun e z => by cases z), w a46 (by decide) (fun e z => by cases z), w a47 (by decide) (fun e z => by cases z)⟩, ⟨w a48 (by decide) (fun e z => by cases z), ⟨w a49 (by decide) (fun e z => by cases z), w a50 (by decide) (fun e z => by cases z)⟩, ⟨w a51 (by decide) (fun e z => by cases z), w a52 (by decide) (fun e z => by cases z)⟩, ⟨w a53 (by decide) (fun e z => by cases z), w a54 (by decide) (fun e z => by cases z)⟩, w a55 (by decide) (fun e z => by cases z), w a56 (by decide) (fun e z => by cases z)⟩, ar⟩
theorem XK.ofR {h' : Hp} (hK : XK h d) (e : frR h h' sz) (hsz : 85 ≤ sz) : XK h' d := by
  obtain ⟨ss, so, dn, ln, f, g, kf, tf, l4, l20, l21, l22, l23, l24, a⟩ := hK
  have w : ∀ {j : Nat} {c : Option HC}, h j = c → j < 28 → (∀ e, c ≠ la 6561 e) → h' j = c := fun {j c} hc hj _ => (e.lo hsz j (Or.inl hj)).trans hc
  exact ⟨ss, so, dn, ln, f, g, kf, tf, w l4 (by decide) (fun e z => by cases z), w l20 (by decide) (fun e z => by cases z), w l21 (by decide) (fun e z => by cases z), w l22 (by decide) (fun e z => by cases z), w l23 (by decide) (fun e z => by cases z), w l24 (by decide) (fun e z => by cases z), a⟩
theorem XD.ofR {h' : Hp} {sz' : Nat} (hD : XD h sz d) (e : frR h h' sz) (hsz : 85 ≤ sz) (hz : sz ≤ sz') : XD h' sz' d := by
  obtain ⟨fe, qu, wt, fi, so, dn, ln, f, g, kf, tf, ⟨a39, a40, a41, a42, a43, a44⟩, a2⟩ := hD
  have w : ∀ {j : Nat} {c : Option HC}, h j = c → 38 < j → j < sz → (∀ e, c ≠ la 6561 e) → h' j = c := fun {j c} hc hj hs he => (e j (Or.inr hj) hs (fun _ e => by rw [hc]; exact he e)).trans hc
  have dq_of : ∀ x, dqOK h sz fe qu x → dqOK h' sz' fe qu x := by
    rintro x ⟨k, l, qf, z1, z2, z3, ⟨z4, z4'⟩, ⟨z5, z5'⟩, z6, z7⟩
    exact ⟨k, l, qf, z1, z2, z3, ⟨z4, Nat.lt_of_lt_of_le z4' hz⟩, ⟨z5, Nat.lt_of_lt_of_le z5' hz⟩, w z6 (Nat.lt_of_lt_of_le (by decide : 38 < 85) z4) z4' (fun e z => by cases z), w z7 (Nat.lt_of_lt_of_le (by decide : 38 < 85) z5) z5' (fun e z => by cases z)⟩
  refine ⟨fe, qu, wt, fi, so, dn, ln, f, g, kf, tf, ⟨w a39 (by decide) (by omega) (fun e z => by cases z), w a40 (by decide) (by omega) (fun e z => by cases z), w a41 (by decide) (by omega) (fun e z => by cases z), w a42 (by decide) (by omega) (fun e z => by cases z), w a43 (by decide) (by omega) (fun e z => by cases z), w a44 (by decide) (by omega) (fun e z => by cases z)⟩, ?_⟩
  rcases a2 with ⟨b1, b2⟩ | ⟨b1, x, b2, b3⟩
  · refine Or.inl ⟨b1, ?_⟩
    rcases b2 with b2 | ⟨x, b2⟩
    · exact Or.inl b2
    · exact Or.inr ⟨x, dq_of x b2⟩
  · exact Or.inr ⟨b1, x, dq_of x b2, b3⟩
theorem x_fill (hA : XA h d) (hR : XR h sz d) (hd : okD d) (hN : d_N d ≤ 4) (hsz : 85 ≤ sz) : Rn Γ mX2_fill [.ref 28, .ref 10, .ref 17] h sz (fun r h' sz' => r = none ∧ sz ≤ sz' ∧ XF h' sz' d ∧ frR h h' sz) := by
  obtain ⟨ow, pr, od, kd, sp, ins, a1, ⟨a10, -⟩, -⟩ := id hA
  obtain ⟨en, pe, sp', si, fi, rk, wk, rs, fr, wy, so, dn, ln, f, g, kf, tf, is, ats, st, bk, cn, ⟨a28, a29, a30, a31, a32, a33⟩, ⟨a34, a35, a36, a37, a38⟩, r3⟩ := id hR
  refine x_enter 2 (by decide) rfl ?_
  have e4 : nI (d_N d) ≤ 4 ↔ d_N d ≤ 4 := nI_leI (b := 4) (by omega) (by omega)
  rcases r3 with ⟨z1, z2, z3, z4, z5⟩ | ⟨z1, e, ⟨k, z2, z3, z4⟩, z5⟩
  · subst z1; subst z2; subst z3
    rcases z5 with z5 | ⟨e, k, z5, z6, z7⟩
    · subst z5
      have hA2 : XA (va_up (va_up h sz (la 6561 (fun _ => 0))) 28 (cR (.ref sz) pe sp' si 0 0 0 rs fr wy)) d := hA.of (fun j j1 j2 j3 j4 j5 => by rw [up_ne j3, up_ne (by omega)])
      have w : ∀ {j : Nat} {c : Option HC}, h j = c → j < 85 → j ≠ 28 → (va_up (va_up h sz (la 6561 (fun _ => 0))) 28 (cR (.ref sz) pe sp' si 0 0 0 rs fr wy)) j = c := fun {j c} hc hj h28 => by rw [up_ne h28, up_ne (by omega)]; exact hc
      refine x_aload dX2_fill_0 rfl ?_
      refine x_get fX2_45 dX2_fill_1 (by first | assumption | rfl | exact up_same | exact (up_ne (by omega)).trans (by assumption) | exact (up_ne (by assumption)).trans (by assumption)) ?_
      refine x_if_ne dX2_fill_4 (fun b4 => ?_) (fun b4 => ?_)
      · exact absurd rfl b4
      · refine x_aload dX2_fill_7 rfl ?_
        refine x_get fX2_82 dX2_fill_8 (by first | assumption | rfl | exact up_same | exact (up_ne (by omega)).trans (by assumption) | exact (up_ne (by assumption)).trans (by assumption)) ?_
        refine x_k dX2_fill_11 ?_
        refine x_icmp_le dX2_fill_12 (fun b12 => ?_) (fun b12 => ?_)
        · refine x_aload dX2_fill_16 rfl ?_
          refine x_get fX2_31 dX2_fill_17 (by first | assumption | rfl | exact up_same | exact (up_ne (by omega)).trans (by assumption) | exact (up_ne (by assumption)).trans (by assumption)) ?_
          refine x_ifnonnullN dX2_fill_20 ?_
          refine x_aload dX2_fill_23 rfl ?_
          refine x_k dX2_fill_24 ?_
          refine x_newaL (N := 6561) dX2_fill_27 (by decide) (by decide) (Nat.le_of_ble_eq_true rfl) (Nat.le_of_ble_eq_true rfl) (Nat.le_of_ble_eq_true rfl) ?_
          refine x_put fX2_31 tt2 gX2_31 dX2_fill_29 (by first | assumption | rfl | exact up_same | exact (up_ne (by omega)).trans (by assumption) | exact (up_ne (by assumption)).trans (by assumption)) (Nat.le_of_ble_eq_true rfl) (by first | exact w2_5 _ | exact w2_5n) ?_
          refine x_eq rfl rfl rfl (x_fillA_1 (sz := sz + 1) (k := sz) hA2 hd hN rfl (w a29 (by decide) (by decide)) (w a30 (by decide) (by decide)) (w a31 (by decide) (by decide)) (w a32 (by decide) (by decide)) (w a33 (by decide) (by decide)) (w a34 (by decide) (by decide)) (w a35 (by decide) (by decide)) (w a36 (by decide) (by decide)) (w a37 (by decide) (by decide)) (w a38 (by decide) (by decide)) z4 ⟨hsz, by omega⟩ ((up_ne (by omega)).trans up_same) ?_)
          intro h2 hX2 hF2
          exact ⟨rfl, by omega, hX2, fun j hj hs _ => by rw [hF2 j hj (by omega), up_ne (by omega), up_ne (by omega)]⟩
        · exact absurd (e4.mpr hN) b12
    · subst z5
      refine x_aload dX2_fill_0 rfl ?_
      refine x_get fX2_45 dX2_fill_1 (by first | assumption | rfl | exact up_same | exact (up_ne (by omega)).trans (by assumption) | exact (up_ne (by assumption)).trans (by assumption)) ?_
      refine x_if_ne dX2_fill_4 (fun b4 => ?_) (fun b4 => ?_)
      · exact absurd rfl b4
      · refine x_aload dX2_fill_7 rfl ?_
        refine x_get fX2_82 dX2_fill_8 (by first | assumption | rfl | exact up_same | exact (up_ne (by omega)).trans (by assumption) | exact (up_ne (by assumption)).trans (by assumption)) ?_
        refine x_k dX2_fill_11 ?_
        refine x_icmp_le dX2_fill_12 (fun b12 => ?_) (fun b12 => ?_)
        · refine x_aload dX2_fill_16 rfl ?_
          refine x_get fX2_31 dX2_fill_17 (by first | assumption | rfl | exact up_same | exact (up_ne (by omega)).trans (by assumption) | exact (up_ne (by assumption)).trans (by assumption)) ?_
          refine x_ifnonnull dX2_fill_20 ?_
          refine x_eq rfl rfl rfl (x_fillA_0 (k := k) hA hd hN a28 a29 a30 a31 a32 a33 a34 a35 a36 a37 a38 z4 z6 z7 ?_)
          intro h2 hX2 hF2
          exact ⟨rfl, Nat.le_refl _, hX2, fun j hj hs he => hF2 j hj (fun z => he (by rw [z]; exact z6.1) e (by rw [z]; exact z7))⟩
        · exact absurd (e4.mpr hN) b12
  · subst z1; subst z2
    refine x_aload dX2_fill_0 rfl ?_
    refine x_get fX2_45 dX2_fill_1 (by first | assumption | rfl | exact up_same | exact (up_ne (by omega)).trans (by assumption) | exact (up_ne (by assumption)).trans (by assumption)) ?_
    refine x_if_ne dX2_fill_4 (fun b4 => ?_) (fun b4 => ?_)
    · refine x_vret dX2_fill_15 rfl (Nat.le_of_ble_eq_true rfl) (Nat.le_of_ble_eq_true rfl) ?_
      obtain ⟨⟨y1, y2, y3, y4, y5⟩, y6⟩ := id z5
      subst y2; subst y3; subst y4
      exact ⟨rfl, Nat.le_refl _, ⟨k, rk, wk, rs, fr, wy, so, dn, ln, f, g, kf, tf, is, ats, st, bk, cn, e, ⟨a28, a29, a30, a31, a32, a33⟩, ⟨a34, a35, a36, a37, a38⟩, ⟨z3, z4⟩, z5⟩, fun j hj hs he => rfl⟩
    · exact absurd (by decide) b4
end RowsC
