/-! change of the reference; okD kept; sheets -/
section Chg2
variable {Γ : GX} {h : Hp} {sz : Nat} {d : DT}
theorem m_change (t u : Int32) (hM : MW h d) (hd : okD d) : Rn Γ mX10_change [.ref 57, .int t, .int u] h sz (qM h sz d (aChange d t u)) := by
  refine x_enter 0 (by decide) rfl ?_
  obtain ⟨_, _, _, w57⟩ := hM.w57
  have hH8 : d_H d ≤ 8 := (hN_ok hd.1.1).1
  have J26 : ∀ h2, MW h2 d → MR h2 d → frM h h2 → cCh d t u → Ex Γ mX10_change (gx_Z Γ mX10_change (qM h sz d (aChange d t u))) 0 0 26 [.ref 57, .int t, .int u] [] h2 sz := by
    intro h2 hM2 hR2 hF2 hc
    obtain ⟨_, _, _, v57⟩ := hM2.w57
    obtain ⟨i, hi, rfl⟩ := below hc.1.1 hc.1.2 (by omega)
    obtain ⟨j, hj, rfl⟩ := below hc.2.1.1 hc.2.1.2 (by omega)
    have ea : aChange d (nI i) (nI j) = bI (chP d i j) := by rw [aChange, if_pos hc, nI_clamp (by omega), nI_clamp (by omega)]
    rw [ea]
    refine x_aload dX10_change_26 rfl ?_
    refine x_iload dX10_change_27 rfl ?_
    refine x_iload dX10_change_28 rfl ?_
    refine x_V2i lX10_211 (Rm.of rfl) (cc1 := 0) (cn1 := 0) rfl rfl (Nat.le_of_ble_eq_true rfl) dX10_change_29 (by first | assumption | rfl | exact up_same | exact (up_ne (by omega)).trans (by assumption) | exact (up_ne (by assumption)).trans (by assumption)) (m_isChange hR2 hM2.w72 hd hi hj) ?_
    refine x_if_eq dX10_change_32 (fun b32 => ?_) (fun b32 => ?_)
    · try simp only [i01, Classical.not_not] at b32
      refine x_k dX10_change_39 ?_
      refine x_iret (ty := .int) dX10_change_40 rfl rfl (Nat.zero_le _) (Nat.zero_le _) ?_
      refine ⟨?_, rfl, hM2, hF2⟩
      first
        | exact congrArg (fun v => some (Value.int v)) (if_pos b32).symm
        | exact congrArg (fun v => some (Value.int v)) (if_neg b32).symm
    · try simp only [i01, Classical.not_not] at b32
      refine x_k dX10_change_35 ?_
      refine x_goto dX10_change_36 ?_
      refine x_iret (ty := .int) dX10_change_40 rfl rfl (Nat.zero_le _) (Nat.zero_le _) ?_
      refine ⟨?_, rfl, hM2, hF2⟩
      first
        | exact congrArg (fun v => some (Value.int v)) (if_pos b32).symm
        | exact congrArg (fun v => some (Value.int v)) (if_neg b32).symm
  refine x_aload dX10_change_0 rfl ?_
  refine x_iload dX10_change_1 rfl ?_
  refine x_V1q lX10_121 (Rm.of rfl) (cc1 := 0) (cn1 := 0) rfl rfl (Nat.le_of_ble_eq_true rfl) dX10_change_2 (by first | assumption | rfl | exact up_same | exact (up_ne (by omega)).trans (by assumption) | exact (up_ne (by assumption)).trans (by assumption)) (m_isHouse t hM hd) ?_
  rintro _ h1 _ ⟨rfl, rfl, hM1, hR1, hF1⟩
  obtain ⟨_, _, _, v57⟩ := hM1.w57
  refine x_if_eq dX10_change_5 (fun b5 => ?_) (fun b5 => ?_)
  · try simp only [i01, Classical.not_not] at b5
    refine x_k dX10_change_21 ?_
    refine x_goto dX10_change_23 ?_
    refine x_iret (ty := .int) dX10_change_40 rfl rfl (Nat.zero_le _) (Nat.zero_le _) ?_
    first
      | (have hc : ¬ cCh d t u := fun z => z.2.2 (Classical.not_not.mp b18)); exact ⟨by rw [aChange, if_neg hc], rfl, hM2, hF1.trans hF2⟩
      | (have hc : ¬ cCh d t u := fun z => z.2.2 b18); exact ⟨by rw [aChange, if_neg hc], rfl, hM2, hF1.trans hF2⟩
      | (have hc : ¬ cCh d t u := fun z => b13 z.2.1); exact ⟨by rw [aChange, if_neg hc], rfl, hM2, hF1.trans hF2⟩
      | (have hc : ¬ cCh d t u := fun z => b5 z.1); exact ⟨by rw [aChange, if_neg hc], rfl, hM1, hF1⟩
  · try simp only [i01, Classical.not_not] at b5
    refine x_aload dX10_change_8 rfl ?_
    refine x_iload dX10_change_9 rfl ?_
    refine x_V1q lX10_121 (Rm.of rfl) (cc1 := 0) (cn1 := 0) rfl rfl (Nat.le_of_ble_eq_true rfl) dX10_change_10 (by first | assumption | rfl | exact up_same | exact (up_ne (by omega)).trans (by assumption) | exact (up_ne (by assumption)).trans (by assumption)) (m_isHouse u hM1 hd) ?_
    rintro _ h2 _ ⟨rfl, rfl, hM2, hR2, hF2⟩
    obtain ⟨_, _, _, u57⟩ := hM2.w57
    refine x_if_eq dX10_change_13 (fun b13 => ?_) (fun b13 => ?_)
    · try simp only [i01, Classical.not_not] at b13
      refine x_k dX10_change_21 ?_
      refine x_goto dX10_change_23 ?_
      refine x_iret (ty := .int) dX10_change_40 rfl rfl (Nat.zero_le _) (Nat.zero_le _) ?_
      first
        | (have hc : ¬ cCh d t u := fun z => z.2.2 (Classical.not_not.mp b18)); exact ⟨by rw [aChange, if_neg hc], rfl, hM2, hF1.trans hF2⟩
        | (have hc : ¬ cCh d t u := fun z => z.2.2 b18); exact ⟨by rw [aChange, if_neg hc], rfl, hM2, hF1.trans hF2⟩
        | (have hc : ¬ cCh d t u := fun z => b13 z.2.1); exact ⟨by rw [aChange, if_neg hc], rfl, hM2, hF1.trans hF2⟩
        | (have hc : ¬ cCh d t u := fun z => b5 z.1); exact ⟨by rw [aChange, if_neg hc], rfl, hM1, hF1⟩
    · try simp only [i01, Classical.not_not] at b13
      refine x_iload dX10_change_16 rfl ?_
      refine x_iload dX10_change_17 rfl ?_
      refine x_icmp_ne dX10_change_18 (fun b18 => ?_) (fun b18 => ?_)
      · exact J26 _ hM2 hR2 (hF1.trans hF2) ⟨b5, b13, b18⟩
      · refine x_k dX10_change_21 ?_
        refine x_goto dX10_change_23 ?_
        refine x_iret (ty := .int) dX10_change_40 rfl rfl (Nat.zero_le _) (Nat.zero_le _) ?_
        first
          | (have hc : ¬ cCh d t u := fun z => z.2.2 (Classical.not_not.mp b18)); exact ⟨by rw [aChange, if_neg hc], rfl, hM2, hF1.trans hF2⟩
          | (have hc : ¬ cCh d t u := fun z => z.2.2 b18); exact ⟨by rw [aChange, if_neg hc], rfl, hM2, hF1.trans hF2⟩
          | (have hc : ¬ cCh d t u := fun z => b13 z.2.1); exact ⟨by rw [aChange, if_neg hc], rfl, hM2, hF1.trans hF2⟩
          | (have hc : ¬ cCh d t u := fun z => b5 z.1); exact ⟨by rw [aChange, if_neg hc], rfl, hM1, hF1⟩

theorem ok_worth (a b v : Int32) (hd : okD d) : okD (dWorth d a b v) := by
  rw [dWorth]; split <;> exact hd
theorem ok_like (a b v : Int32) (hd : okD d) : okD (dLike d a b v) := by
  rw [dLike]; split <;> exact hd
theorem ok_forget (hd : okD d) : okD (dForget d) := ⟨hd.1, hd.2.1, ⟨Nat.zero_le _, fun i hi => absurd hi (Nat.not_lt_zero i)⟩, hd.2.2.2⟩
theorem ok_fact (a b : Int32) (hd : okD d) : okD (dFact d a b) := by
  rw [dFact]
  by_cases hc : cEight a b
  · rw [if_pos hc]
    by_cases hf : d_nf d < 8
    · rw [if_pos hf]
      obtain ⟨x, hx, rfl⟩ := upto (n := 7) hc.1.1 hc.1.2 (by omega)
      obtain ⟨y, hy, rfl⟩ := upto (n := 7) hc.2.1 hc.2.2 (by omega)
      refine ⟨hd.1, hd.2.1, ⟨(by show d_nf d + 1 ≤ 8; omega), fun i hi => ?_⟩, hd.2.2.2⟩
      have hi : i < d_nf d + 1 := hi
      show (upd (d_fp d) (d_nf d) (nI x) i = nI (cN (upd (d_fp d) (d_nf d) (nI x)) i) ∧ cN (upd (d_fp d) (d_nf d) (nI x)) i < 8) ∧ upd (d_fk d) (d_nf d) (nI y) i = nI (cN (upd (d_fk d) (d_nf d) (nI y)) i) ∧ cN (upd (d_fk d) (d_nf d) (nI y)) i < 8
      simp only [cN, upd]
      by_cases e : i = d_nf d
      · rw [if_pos e, if_pos e, nI_clamp (by omega), nI_clamp (by omega)]
        exact ⟨⟨rfl, by omega⟩, rfl, by omega⟩
      · rw [if_neg e, if_neg e]
        exact hd.2.2.1.2 i (by omega)
    · rw [if_neg hf]; exact hd
  · rw [if_neg hc]; exact hd
end Chg2
def dSx (d : DT) (s : Nat) (fo si : Int32) (it : Nat → Int32) : DT := (d.1, d.2.1, d.2.2.1, d.2.2.2.1, (upd (d_fo d) s fo, upd (d_si d) s si, fun t => if t = s then it else d_it d t), d_fi d)
def dFi (d : DT) (x : Int32) : DT := (d.1, d.2.1, d.2.2.1, d.2.2.2.1, d.2.2.2.2.1, x)
def fndN (fo si f i : Int32) : Int32 := if fo = -1 then 1 else if f ≠ fo then 3 else if 0 ≤ i ∧ i < si then 0 else 2
def stV (fo v : Int32) : Int32 := if fo = 0 then v.toInt8.toInt32 else if fo = 1 then v.toInt16.toInt32 else v
section Sht
variable {Γ : GX} {h : Hp} {sz : Nat} {d : DT}
theorem r_fillS {A n : Nat} {f : Nat → Int32} {v : Int32} (h0 : h A = ia n f) (hn : n < 2 ^ 31) : Re Γ mJ7_fill_53178 [.ref A, .int v] h sz none (va_up h A (ia n (filF f v n))) sz := by
  refine x_enterJ 2 (by decide +kernel) rfl ?_
  refine x_k dJ7_fill_53178_0 ?_
  refine x_istore dJ7_fill_53178_1 (Nat.le_of_ble_eq_true rfl) rfl ?_
  refine x_aload dJ7_fill_53178_2 rfl ?_
  refine x_alen dJ7_fill_53178_3 (by first | assumption | rfl | exact up_same | exact (up_ne (by omega)).trans (by assumption) | exact (up_ne (by assumption)).trans (by assumption)) ?_
  refine x_istore dJ7_fill_53178_4 (Nat.le_of_ble_eq_true rfl) rfl ?_
  have e : h = va_up h A (ia n (filF f v 0)) := by rw [filF_0]; exact (up_id h0).symm
  refine x_eq rfl rfl e (loopUp (P := fun p => Ex Γ mJ7_fill_53178 _ 0 0 5 [.ref A, .int v, .int (nI p), .int (nI n)] [] (va_up h A (ia n (filF f v p))) sz) n ?_ (fun p hp ih => ?_) 0 (Nat.zero_le _))
  · refine x_iload dJ7_fill_53178_5 rfl ?_
    refine x_iload dJ7_fill_53178_6 rfl ?_
    refine x_icmp_ge dJ7_fill_53178_7 (fun b7 => ?_) (fun b7 => ?_)
    · refine x_vret dJ7_fill_53178_20 rfl (Nat.zero_le _) (Nat.zero_le _) ?_
      exact ⟨rfl, rfl, rfl⟩
    · exact absurd (Int32.le_refl _) b7
  · refine x_iload dJ7_fill_53178_5 rfl ?_
    refine x_iload dJ7_fill_53178_6 rfl ?_
    refine x_icmp_ge dJ7_fill_53178_7 (fun b7 => ?_) (fun b7 => ?_)
    · exact absurd b7 (nI_ge hp hn)
    · refine x_aload dJ7_fill_53178_10 rfl ?_
      refine x_iload dJ7_fill_53178_11 rfl ?_
      refine x_iload dJ7_fill_53178_12 rfl ?_
      refine x_iast dJ7_fill_53178_13 (by first | assumption | rfl | exact up_same | exact (up_ne (by omega)).trans (by assumption) | exact (up_ne (by assumption)).trans (by assumption)) (vp_in_nI hp hn) ?_
      refine x_inc1 dJ7_fill_53178_14 rfl (Nat.le_of_ble_eq_true rfl) rfl ?_
      refine x_goto dJ7_fill_53178_17 ?_
      refine x_eq rfl rfl ?_ ih
      rw [nI_clamp (by omega), up_up, filF_s]
theorem r_isLost {q b : Nat} {fo si : Int32} (hq : h q = cSh b fo si) : Re Γ mX4_isLost [.ref q] h sz (some (.int (bI (fo = -1)))) h sz := by
  refine x_enter 0 (by decide) rfl ?_
  refine x_aload dX4_isLost_0 rfl ?_
  refine x_get fX4_9 dX4_isLost_1 (by first | assumption | rfl | exact up_same | exact (up_ne (by omega)).trans (by assumption) | exact (up_ne (by assumption)).trans (by assumption)) ?_
  refine x_k dX4_isLost_4 ?_
  refine x_icmp_ne dX4_isLost_5 (fun b5 => ?_) (fun b5 => ?_)
  · refine x_k dX4_isLost_12 ?_
    refine x_iret (ty := .boolean) dX4_isLost_13 rfl (by first | rfl | exact nzb) (Nat.zero_le _) (Nat.zero_le _) ?_
    exact ⟨by simp_all, rfl, rfl⟩
  · refine x_k dX4_isLost_8 ?_
    refine x_goto dX4_isLost_9 ?_
    refine x_iret (ty := .boolean) dX4_isLost_13 rfl (by first | rfl | exact nzb) (Nat.zero_le _) (Nat.zero_le _) ?_
    exact ⟨by simp_all, rfl, rfl⟩
theorem r_findingAt {q b : Nat} {fo si : Int32} (f i : Int32) (hq : h q = cSh b fo si) : Re Γ mX4_findingAt [.ref q, .int f, .int i] h sz (some (.int (fndN fo si f i))) h sz := by
  refine x_enter 0 (by decide) rfl ?_
  refine x_aload dX4_findingAt_0 rfl ?_
  refine x_V0i lX4_28 (Rm.of rfl) (cc1 := 0) (cn1 := 0) rfl rfl (Nat.le_of_ble_eq_true rfl) dX4_findingAt_1 (by first | assumption | rfl | exact up_same | exact (up_ne (by omega)).trans (by assumption) | exact (up_ne (by assumption)).trans (by assumption)) (r_isLost hq) ?_
  refine x_if_eq dX4_findingAt_4 (fun b4 => ?_) (fun b4 => ?_)
  · try simp only [i01, Classical.not_not] at b4
    refine x_iload dX4_findingAt_9 rfl ?_
    refine x_aload dX4_findingAt_10 rfl ?_
    refine x_get fX4_9 dX4_findingAt_11 (by first | assumption | rfl | exact up_same | exact (up_ne (by omega)).trans (by assumption) | exact (up_ne (by assumption)).trans (by assumption)) ?_
    refine x_icmp_eq dX4_findingAt_14 (fun b14 => ?_) (fun b14 => ?_)
    · refine x_iload dX4_findingAt_19 rfl ?_
      refine x_if_lt dX4_findingAt_20 (fun b20 => ?_) (fun b20 => ?_)
      · refine x_k dX4_findingAt_31 ?_
        refine x_goto dX4_findingAt_32 ?_
        refine x_iret (ty := .int) dX4_findingAt_36 rfl rfl (Nat.zero_le _) (Nat.zero_le _) ?_
        refine ⟨?_, rfl, rfl⟩
        rw [fndN, if_neg b4, if_neg (not_not_intro b14)]
        congr 2
        simp only [Int32.lt_iff_toInt_lt, Int32.le_iff_toInt_le, n0t] at *
        split <;> first | rfl | omega
      · refine x_iload dX4_findingAt_23 rfl ?_
        refine x_aload dX4_findingAt_24 rfl ?_
        refine x_get fX4_15 dX4_findingAt_25 (by first | assumption | rfl | exact up_same | exact (up_ne (by omega)).trans (by assumption) | exact (up_ne (by assumption)).trans (by assumption)) ?_
        refine x_icmp_lt dX4_findingAt_28 (fun b28 => ?_) (fun b28 => ?_)
        · refine x_k dX4_findingAt_35 ?_
          refine x_iret (ty := .int) dX4_findingAt_36 rfl rfl (Nat.zero_le _) (Nat.zero_le _) ?_
          refine ⟨?_, rfl, rfl⟩
          rw [fndN, if_neg b4, if_neg (not_not_intro b14)]
          congr 2
          simp only [Int32.lt_iff_toInt_lt, Int32.le_iff_toInt_le, n0t] at *
          split <;> first | rfl | omega
        · refine x_k dX4_findingAt_31 ?_
          refine x_goto dX4_findingAt_32 ?_
          refine x_iret (ty := .int) dX4_findingAt_36 rfl rfl (Nat.zero_le _) (Nat.zero_le _) ?_
          refine ⟨?_, rfl, rfl⟩
          rw [fndN, if_neg b4, if_neg (not_not_intro b14)]
          congr 2
          simp only [Int32.lt_iff_toInt_lt, Int32.le_iff_toInt_le, n0t] at *
          split <;> first | rfl | omega
    · refine x_k dX4_findingAt_17 ?_
      refine x_iret (ty := .int) dX4_findingAt_18 rfl rfl (Nat.zero_le _) (Nat.zero_le _) ?_
      exact ⟨by rw [fndN, if_neg b4, if_pos b14], rfl, rfl⟩
  · try simp only [i01, Classical.not_not] at b4
    refine x_k dX4_findingAt_7 ?_
    refine x_iret (ty := .int) dX4_findingAt_8 rfl rfl (Nat.zero_le _) (Nat.zero_le _) ?_
    exact ⟨by rw [fndN, if_pos b4], rfl, rfl⟩
theorem r_renew {q b : Nat} {fo si f n : Int32} {it : Nat → Int32} (hq : h q = cSh b fo si) (hb : h b = ia 48 it) (hn : q ≠ b) : Re Γ mX4_renew [.ref q, .int f, .int n] h sz none (va_up (va_up h q (cSh b f n)) b (ia 48 (filF it 0 48))) sz := by
  refine x_enter 0 (by decide) rfl ?_
  have hn' : b ≠ q := Ne.symm hn
  refine x_aload dX4_renew_0 rfl ?_
  refine x_iload dX4_renew_1 rfl ?_
  refine x_put fX4_9 tt4 gX4_9 dX4_renew_2 (by first | assumption | rfl | exact up_same | exact (up_ne (by omega)).trans (by assumption) | exact (up_ne (by assumption)).trans (by assumption)) (Nat.le_of_ble_eq_true rfl) (w4_0 _) ?_
  refine x_aload dX4_renew_5 rfl ?_
  refine x_iload dX4_renew_6 rfl ?_
  refine x_put fX4_15 tt4 gX4_15 dX4_renew_7 (by first | assumption | rfl | exact up_same | exact (up_ne (by omega)).trans (by assumption) | exact (up_ne (by assumption)).trans (by assumption)) (Nat.le_of_ble_eq_true rfl) (w4_1 _) ?_
  refine x_aload dX4_renew_10 rfl ?_
  refine x_get fX4_18 dX4_renew_11 (by first | assumption | rfl | exact up_same | exact (up_ne (by omega)).trans (by assumption) | exact (up_ne (by assumption)).trans (by assumption)) ?_
  refine x_k dX4_renew_14 ?_
  refine x_S2v lX4_22 (Rm.of rfl) (cc1 := 0) (cn1 := 0) rfl rfl (Nat.le_of_ble_eq_true rfl) dX4_renew_15 (r_fillS (A := b) (n := 48) (f := it) (by rw [up_ne hn', up_ne hn']; exact hb) (by decide)) ?_
  refine x_vret dX4_renew_18 rfl (Nat.zero_le _) (Nat.zero_le _) ?_
  exact ⟨rfl, by rw [up_up]; rfl, rfl⟩
theorem r_store {q b i : Nat} {fo si v : Int32} {it : Nat → Int32} (hq : h q = cSh b fo si) (hb : h b = ia 48 it) (hi : i < 48) : Re Γ mX4_store [.ref q, .int (nI i), .int v] h sz none (va_up h b (ia 48 (upd it i (stV fo v)))) sz := by
  refine x_enter 0 (by decide) rfl ?_
  refine x_aload dX4_store_0 rfl ?_
  refine x_get fX4_9 dX4_store_1 (by first | assumption | rfl | exact up_same | exact (up_ne (by omega)).trans (by assumption) | exact (up_ne (by assumption)).trans (by assumption)) ?_
  refine x_if_ne dX4_store_4 (fun b4 => ?_) (fun b4 => ?_)
  · refine x_aload dX4_store_18 rfl ?_
    refine x_get fX4_9 dX4_store_19 (by first | assumption | rfl | exact up_same | exact (up_ne (by omega)).trans (by assumption) | exact (up_ne (by assumption)).trans (by assumption)) ?_
    refine x_k dX4_store_22 ?_
    refine x_icmp_ne dX4_store_23 (fun b23 => ?_) (fun b23 => ?_)
    · refine x_aload dX4_store_37 rfl ?_
      refine x_get fX4_18 dX4_store_38 (by first | assumption | rfl | exact up_same | exact (up_ne (by omega)).trans (by assumption) | exact (up_ne (by assumption)).trans (by assumption)) ?_
      refine x_iload dX4_store_41 rfl ?_
      refine x_iload dX4_store_42 rfl ?_
      refine x_iastn dX4_store_43 (by first | assumption | rfl | exact up_same | exact (up_ne (by omega)).trans (by assumption) | exact (up_ne (by assumption)).trans (by assumption)) ⟨by first | omega | decide, by decide⟩ ?_
      refine x_vret dX4_store_44 rfl (Nat.zero_le _) (Nat.zero_le _) ?_
      exact ⟨rfl, by simp_all [stV], rfl⟩
    · refine x_aload dX4_store_26 rfl ?_
      refine x_get fX4_18 dX4_store_27 (by first | assumption | rfl | exact up_same | exact (up_ne (by omega)).trans (by assumption) | exact (up_ne (by assumption)).trans (by assumption)) ?_
      refine x_iload dX4_store_30 rfl ?_
      refine x_iload dX4_store_31 rfl ?_
      refine x_i2s dX4_store_32 ?_
      refine x_iastn dX4_store_33 (by first | assumption | rfl | exact up_same | exact (up_ne (by omega)).trans (by assumption) | exact (up_ne (by assumption)).trans (by assumption)) ⟨by first | omega | decide, by decide⟩ ?_
      refine x_goto dX4_store_34 ?_
      refine x_vret dX4_store_44 rfl (Nat.zero_le _) (Nat.zero_le _) ?_
      exact ⟨rfl, by simp_all [stV], rfl⟩
  · refine x_aload dX4_store_7 rfl ?_
    refine x_get fX4_18 dX4_store_8 (by first | assumption | rfl | exact up_same | exact (up_ne (by omega)).trans (by assumption) | exact (up_ne (by assumption)).trans (by assumption)) ?_
    refine x_iload dX4_store_11 rfl ?_
    refine x_iload dX4_store_12 rfl ?_
    refine x_i2b dX4_store_13 ?_
    refine x_iastn dX4_store_14 (by first | assumption | rfl | exact up_same | exact (up_ne (by omega)).trans (by assumption) | exact (up_ne (by assumption)).trans (by assumption)) ⟨by first | omega | decide, by decide⟩ ?_
    refine x_goto dX4_store_15 ?_
    refine x_vret dX4_store_44 rfl (Nat.zero_le _) (Nat.zero_le _) ?_
    exact ⟨rfl, by simp_all [stV], rfl⟩
theorem r_holds {q b : Nat} {fo si : Int32} (i n : Int32) (hq : h q = cSh b fo si) : Re Γ mX4_holds [.ref q, .int i, .int n] h sz (some (.int (bI (0 ≤ i ∧ 0 ≤ n ∧ n ≤ si ∧ i ≤ si - n)))) h sz := by
  refine x_enter 0 (by decide) rfl ?_
  refine x_iload dX4_holds_0 rfl ?_
  refine x_if_lt dX4_holds_1 (fun b1 => ?_) (fun b1 => ?_)
  · refine x_k dX4_holds_30 ?_
    refine x_iret (ty := .boolean) dX4_holds_31 rfl (by first | rfl | exact nzb) (Nat.zero_le _) (Nat.zero_le _) ?_
    refine ⟨?_, rfl, rfl⟩
    congr 2
    simp only [Int32.lt_iff_toInt_lt, Int32.le_iff_toInt_le, n0t, bI] at *
    split <;> first | rfl | omega
  · refine x_iload dX4_holds_4 rfl ?_
    refine x_if_lt dX4_holds_5 (fun b5 => ?_) (fun b5 => ?_)
    · refine x_k dX4_holds_30 ?_
      refine x_iret (ty := .boolean) dX4_holds_31 rfl (by first | rfl | exact nzb) (Nat.zero_le _) (Nat.zero_le _) ?_
      refine ⟨?_, rfl, rfl⟩
      congr 2
      simp only [Int32.lt_iff_toInt_lt, Int32.le_iff_toInt_le, n0t, bI] at *
      split <;> first | rfl | omega
    · refine x_iload dX4_holds_8 rfl ?_
      refine x_aload dX4_holds_9 rfl ?_
      refine x_get fX4_15 dX4_holds_10 (by first | assumption | rfl | exact up_same | exact (up_ne (by omega)).trans (by assumption) | exact (up_ne (by assumption)).trans (by assumption)) ?_
      refine x_icmp_gt dX4_holds_13 (fun b13 => ?_) (fun b13 => ?_)
      · refine x_k dX4_holds_30 ?_
        refine x_iret (ty := .boolean) dX4_holds_31 rfl (by first | rfl | exact nzb) (Nat.zero_le _) (Nat.zero_le _) ?_
        refine ⟨?_, rfl, rfl⟩
        congr 2
        simp only [Int32.lt_iff_toInt_lt, Int32.le_iff_toInt_le, n0t, bI] at *
        split <;> first | rfl | omega
      · refine x_iload dX4_holds_16 rfl ?_
        refine x_aload dX4_holds_17 rfl ?_
        refine x_get fX4_15 dX4_holds_18 (by first | assumption | rfl | exact up_same | exact (up_ne (by omega)).trans (by assumption) | exact (up_ne (by assumption)).trans (by assumption)) ?_
        refine x_iload dX4_holds_21 rfl ?_
        refine x_isub dX4_holds_22 ?_
        refine x_icmp_gt dX4_holds_23 (fun b23 => ?_) (fun b23 => ?_)
        · refine x_k dX4_holds_30 ?_
          refine x_iret (ty := .boolean) dX4_holds_31 rfl (by first | rfl | exact nzb) (Nat.zero_le _) (Nat.zero_le _) ?_
          refine ⟨?_, rfl, rfl⟩
          congr 2
          simp only [Int32.lt_iff_toInt_lt, Int32.le_iff_toInt_le, n0t, bI] at *
          split <;> first | rfl | omega
        · refine x_k dX4_holds_26 ?_
          refine x_goto dX4_holds_27 ?_
          refine x_iret (ty := .boolean) dX4_holds_31 rfl (by first | rfl | exact nzb) (Nat.zero_le _) (Nat.zero_le _) ?_
          refine ⟨?_, rfl, rfl⟩
          congr 2
          simp only [Int32.lt_iff_toInt_lt, Int32.le_iff_toInt_le, n0t, bI] at *
          split <;> first | rfl | omega
theorem XA.sh {s : Nat} (hA : XA h d) (hs : s < 4) : h 48 = cShs ∧ h (49 + 2 * s) = cSh (50 + 2 * s) (d_fo d s) (d_si d s) ∧ h (50 + 2 * s) = ia 48 (d_it d s) := by
  obtain ⟨ow, pr, od, kd, sp, ins, a1, a2, a3, a4, a5, ⟨a48, ⟨a49, a50⟩, ⟨a51, a52⟩, ⟨a53, a54⟩, a55, a56⟩, a7⟩ := hA
  have h4 : s = 0 ∨ s = 1 ∨ s = 2 ∨ s = 3 := by omega
  rcases h4 with rfl | rfl | rfl | rfl
  · exact ⟨a48, a49, a50⟩
  · exact ⟨a48, a51, a52⟩
  · exact ⟨a48, a53, a54⟩
  · exact ⟨a48, a55, a56⟩
theorem XR.to {d' : DT} (hR : XR h sz d) (e1 : d'.1 = d.1) (e2 : d'.2.1 = d.2.1) (e3 : d'.2.2.1 = d.2.2.1) (e4 : d'.2.2.2.1 = d.2.2.2.1) : XR h sz d' := by
  obtain ⟨x, y, w, f, z⟩ := d
  obtain ⟨x', y', w', f', z'⟩ := d'
  obtain rfl : x' = x := e1
  obtain rfl : y' = y := e2
  obtain rfl : w' = w := e3
  obtain rfl : f' = f := e4
  obtain ⟨en, pe, sp, si, fi, rk, wk, rs, fr, wy, so, dn, ln, f, g, kf, tf, is, ats, st, bk, cn, a1, a2, a3⟩ := hR
  refine ⟨en, pe, sp, si, fi, rk, wk, rs, fr, wy, so, dn, ln, f, g, kf, tf, is, ats, st, bk, cn, a1, a2, ?_⟩
  rcases a3 with b | ⟨b1, x, b2, c1, c2, c3, c4⟩
  · exact Or.inl b
  · exact Or.inr ⟨b1, x, b2, c1, c2, c3, c4⟩
theorem XW.fi {h' : Hp} {x ss : Int32} (hX : XW h sz d) (e : ∀ k, k ≠ 4 → h' k = h k) (e1 : h 4 = cX ss (d_fi d)) (e2 : h' 4 = cX ss x) : XW h' sz (dFi d x) := by
  obtain ⟨hA, hK, hR, hD⟩ := hX
  refine ⟨?_, ?_, ?_, ?_⟩
  · exact hA.of (fun k k1 k2 k3 k4 k5 => e k (by omega))
  · obtain ⟨ss', so, dn, ln, f, g, kf, tf, l4, l20, l21, l22, l23, l24, a⟩ := hK
    rw [e1] at l4
    cases l4
    exact ⟨ss, so, dn, ln, f, g, kf, tf, e2, (e 20 (by decide)).trans l20, (e 21 (by decide)).trans l21, (e 22 (by decide)).trans l22, (e 23 (by decide)).trans l23, (e 24 (by decide)).trans l24, a⟩
  · exact (hR.of (fun k hk => e k (by omega))).to rfl rfl rfl rfl
  · exact (hD.of (fun k hk => e k (by omega))).to rfl rfl
theorem XW.sht {h' : Hp} {s : Nat} {fo si : Int32} {it : Nat → Int32} (hX : XW h sz d) (hs : s < 4) (e : ∀ k, k ≠ 49 + 2 * s → k ≠ 50 + 2 * s → h' k = h k) (e1 : h' (49 + 2 * s) = cSh (50 + 2 * s) fo si) (e2 : h' (50 + 2 * s) = ia 48 it) : XW h' sz (dSx d s fo si it) := by
  obtain ⟨hA, hK, hR, hD⟩ := hX
  have q : ∀ k, k < 49 ∨ 56 < k → h' k = h k := fun k hk => e k (by omega) (by omega)
  refine ⟨?_, ?_, ?_, ?_⟩
  · obtain ⟨ow, pr, od, kd, sp, ins, ⟨a5, a6, a7, a8, a9⟩, ⟨a10, a11, a12, a13, a14, a15, a16⟩, ⟨a17, a18, a19⟩, ⟨a25, a26, a27⟩, ⟨a45, a46, a47⟩, ⟨a48, ⟨a49, a50⟩, ⟨a51, a52⟩, ⟨a53, a54⟩, a55, a56⟩, ar⟩ := hA
    refine ⟨ow, pr, od, kd, sp, ins, ⟨(q 5 (by decide)).trans a5, (q 6 (by decide)).trans a6, (q 7 (by decide)).trans a7, (q 8 (by decide)).trans a8, (q 9 (by decide)).trans a9⟩, ⟨(q 10 (by decide)).trans a10, (q 11 (by decide)).trans a11, (q 12 (by decide)).trans a12, (q 13 (by decide)).trans a13, (q 14 (by decide)).trans a14, (q 15 (by decide)).trans a15, (q 16 (by decide)).trans a16⟩, ⟨(q 17 (by decide)).trans a17, (q 18 (by decide)).trans a18, (q 19 (by decide)).trans a19⟩, ⟨(q 25 (by decide)).trans a25, (q 26 (by decide)).trans a26, (q 27 (by decide)).trans a27⟩, ⟨(q 45 (by decide)).trans a45, (q 46 (by decide)).trans a46, (q 47 (by decide)).trans a47⟩, ⟨(q 48 (by decide)).trans a48, ?_⟩, ar⟩
    have h4 : s = 0 ∨ s = 1 ∨ s = 2 ∨ s = 3 := by omega
    rcases h4 with rfl | rfl | rfl | rfl
    · exact ⟨⟨e1, e2⟩, ⟨(e 51 (by decide) (by decide)).trans a51, (e 52 (by decide) (by decide)).trans a52⟩, ⟨(e 53 (by decide) (by decide)).trans a53, (e 54 (by decide) (by decide)).trans a54⟩, (e 55 (by decide) (by decide)).trans a55, (e 56 (by decide) (by decide)).trans a56⟩
    · exact ⟨⟨(e 49 (by decide) (by decide)).trans a49, (e 50 (by decide) (by decide)).trans a50⟩, ⟨e1, e2⟩, ⟨(e 53 (by decide) (by decide)).trans a53, (e 54 (by decide) (by decide)).trans a54⟩, (e 55 (by decide) (by decide)).trans a55, (e 56 (by decide) (by decide)).trans a56⟩
    · exact ⟨⟨(e 49 (by decide) (by decide)).trans a49, (e 50 (by decide) (by decide)).trans a50⟩, ⟨(e 51 (by decide) (by decide)).trans a51, (e 52 (by decide) (by decide)).trans a52⟩, ⟨e1, e2⟩, (e 55 (by decide) (by decide)).trans a55, (e 56 (by decide) (by decide)).trans a56⟩
    · exact ⟨⟨(e 49 (by decide) (by decide)).trans a49, (e 50 (by decide) (by decide)).trans a50⟩, ⟨(e 51 (by decide) (by decide)).trans a51, (e 52 (by decide) (by decide)).trans a52⟩, ⟨(e 53 (by decide) (by decide)).trans a53, (e 54 (by decide) (by decide)).trans a54⟩, e1, e2⟩
  · exact (hK.of (fun k hk => q k (by omega))).to rfl rfl rfl
  · exact (hR.of (fun k hk => q k (by omega))).to rfl rfl rfl rfl
  · exact (hD.of (fun k hk => q k (by omega))).to rfl rfl
theorem c_found (t : Int32) (hX : XW h sz d) : Rn Γ mX9_found [.ref 4, .int t] h sz (qW h sz (dFi d t) (-10 - t)) := by
  obtain ⟨ss, h4⟩ := hX.2.1.w4
  exact re_to (r_found h4 t) ⟨rfl, Nat.le_refl _, hX.fi (fun k hk => up_ne hk) h4 rfl, fun k hk => up_ne (by omega)⟩
end Sht
