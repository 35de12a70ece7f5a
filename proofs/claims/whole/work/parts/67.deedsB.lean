/-! deeds: reach, sellFrom -/
/-- what the cells of a search hold -/
def QC (h : Hp) (k l : Nat) (s : QS) : Prop := h 39 = cD (.ref k) (.ref l) (nI s.2.2) 0 ∧ ∃ ff qf : Nat → Int32, h k = sa 4096 ff ∧ h l = sa 4096 qf ∧ (∀ i, i < 4096 → ff i = s.1 i) ∧ ∀ i, i < s.2.2 → qf i = nI (s.2.1 i)
section DeedsB
variable {Γ : GX} {h : Hp} {sz : Nat} {d : DT}
theorem r_fillH {A n : Nat} {f : Nat → Int32} {v : Int32} (h0 : h A = sa n f) (hn : n < 2 ^ 31) (hv : v.toInt16.toInt32 = v) : Re Γ mJ7_fill_fb410 [.ref A, .int v] h sz none (va_up h A (sa n (filF f v n))) sz := by
  refine x_enterJ 2 (by decide +kernel) rfl ?_
  refine x_k dJ7_fill_fb410_0 ?_
  refine x_istore dJ7_fill_fb410_1 (Nat.le_of_ble_eq_true rfl) rfl ?_
  refine x_aload dJ7_fill_fb410_2 rfl ?_
  refine x_alen dJ7_fill_fb410_3 (by first | assumption | rfl | exact up_same | exact (up_ne (by omega)).trans (by assumption) | exact (up_ne (by assumption)).trans (by assumption) | exact (up_ne (by omega)).trans ((up_ne (by omega)).trans (by assumption))) ?_
  refine x_istore dJ7_fill_fb410_4 (Nat.le_of_ble_eq_true rfl) rfl ?_
  have e : h = va_up h A (sa n (filF f v 0)) := by rw [filF_0]; exact (up_id h0).symm
  refine x_eq rfl rfl e (loopUp (P := fun p => Ex Γ mJ7_fill_fb410 _ 0 0 5 [.ref A, .int v, .int (nI p), .int (nI n)] [] (va_up h A (sa n (filF f v p))) sz) n ?_ (fun p hp ih => ?_) 0 (Nat.zero_le _))
  · refine x_iload dJ7_fill_fb410_5 rfl ?_
    refine x_iload dJ7_fill_fb410_6 rfl ?_
    refine x_icmp_ge dJ7_fill_fb410_7 (fun b7 => ?_) (fun b7 => ?_)
    · refine x_vret dJ7_fill_fb410_20 rfl (Nat.zero_le _) (Nat.zero_le _) ?_
      exact ⟨rfl, rfl, rfl⟩
    · exact absurd (Int32.le_refl _) b7
  · refine x_iload dJ7_fill_fb410_5 rfl ?_
    refine x_iload dJ7_fill_fb410_6 rfl ?_
    refine x_icmp_ge dJ7_fill_fb410_7 (fun b7 => ?_) (fun b7 => ?_)
    · exact absurd b7 (nI_ge hp hn)
    · refine x_aload dJ7_fill_fb410_10 rfl ?_
      refine x_iload dJ7_fill_fb410_11 rfl ?_
      refine x_iload dJ7_fill_fb410_12 rfl ?_
      refine x_sast dJ7_fill_fb410_13 (by first | assumption | rfl | exact up_same | exact (up_ne (by omega)).trans (by assumption) | exact (up_ne (by assumption)).trans (by assumption) | exact (up_ne (by omega)).trans ((up_ne (by omega)).trans (by assumption))) (vp_in_nI hp hn) ?_
      refine x_inc1 dJ7_fill_fb410_14 rfl (Nat.le_of_ble_eq_true rfl) rfl ?_
      refine x_goto dJ7_fill_fb410_17 ?_
      refine x_eq rfl rfl ?_ ih
      rw [nI_clamp (by omega), up_up, hv, filF_s]
theorem r_reach {k l w : Nat} {s : QS} {st : Int32} (hk : 85 ≤ k) (hl : 85 ≤ l) (hkl : k ≠ l) (hq : QC h k l s) (hc : s.2.2 ≤ 4096) (hw : w < 4096) (hst : st.toInt16.toInt32 = st) : Rn Γ mX0_reach [.ref 39, .int (nI w), .int st] h sz (fun r h' sz' => r = none ∧ sz = sz' ∧ QC h' k l (rch s w st) ∧ ∀ j, j ≠ 39 → j ≠ k → j ≠ l → h' j = h j) := by
  obtain ⟨q39, ff, qf, qk, ql, q1, q2⟩ := id hq
  have gl : (4096 : Int32) ≤ nI s.2.2 ↔ 4096 ≤ s.2.2 := nI_leI (a := 4096) (by omega) (by omega)
  have e39l : l ≠ 39 := by omega
  have e39k : k ≠ 39 := by omega
  refine x_enter 0 (by decide) rfl ?_
  refine x_aload dX0_reach_0 rfl ?_
  refine x_get fX0_18 dX0_reach_1 (by first | assumption | rfl | exact up_same | exact (up_ne (by omega)).trans (by assumption) | exact (up_ne (by assumption)).trans (by assumption) | exact (up_ne (by omega)).trans ((up_ne (by omega)).trans (by assumption))) ?_
  refine x_iload dX0_reach_4 rfl ?_
  refine x_saldn dX0_reach_5 (by first | assumption | rfl | exact up_same | exact (up_ne (by omega)).trans (by assumption) | exact (up_ne (by assumption)).trans (by assumption) | exact (up_ne (by omega)).trans ((up_ne (by omega)).trans (by assumption))) ⟨by first | omega | decide, by decide⟩ ?_
  refine x_k dX0_reach_6 ?_
  refine x_icmp_ne dX0_reach_7 (fun b7 => ?_) (fun b7 => ?_)
  · first
      | (have hz : ¬ (s.1 w = -1 ∧ s.2.2 < 4096) := fun z => b7 (by rw [q1 w hw]; exact z.1)
         refine x_vret dX0_reach_49 rfl (Nat.zero_le _) (Nat.zero_le _) ?_
         refine ⟨rfl, rfl, ?_, fun j _ _ _ => rfl⟩
         rw [rch, if_neg hz]; exact hq)
      | (have hz : ¬ (s.1 w = -1 ∧ s.2.2 < 4096) := fun z => absurd (gl.mp b17) (by omega)
         refine x_vret dX0_reach_49 rfl (Nat.zero_le _) (Nat.zero_le _) ?_
         refine ⟨rfl, rfl, ?_, fun j _ _ _ => rfl⟩
         rw [rch, if_neg hz]; exact hq)
      | (have hz : s.1 w = -1 ∧ s.2.2 < 4096 := ⟨by rw [← q1 w hw]; exact Classical.not_not.mp b7, hlt⟩
         refine x_vret dX0_reach_49 rfl (Nat.zero_le _) (Nat.zero_le _) ?_
         rw [rch, if_pos hz]
         refine ⟨rfl, rfl, ⟨?_, upd ff w st, upd qf s.2.2 (nI w), ?_, ?_, fun i hi => ?_, fun i hi => ?_⟩, fun j j1 j2 j3 => ?_⟩
         · rw [up_same, nI_1]; rfl
         · rw [up_ne e39k, up_ne hkl, up_same]
         · rw [up_ne e39l, up_same]
         · show upd ff w st i = upd s.1 w st i
           by_cases e : i = w
           · rw [e, upd_same, upd_same]
           · rw [upd_ne e, upd_ne e]; exact q1 i hi
         · have hi : i < s.2.2 + 1 := hi
           show upd qf s.2.2 (nI w) i = nI (if i = s.2.2 then w else s.2.1 i)
           by_cases e : i = s.2.2
           · rw [if_pos e, e, upd_same]
           · rw [upd_ne e, if_neg e]; exact q2 i (by omega)
         · rw [up_ne j1, up_ne j3, up_ne j2])
  · refine x_aload dX0_reach_10 rfl ?_
    refine x_get fX0_25 dX0_reach_11 (by first | assumption | rfl | exact up_same | exact (up_ne (by omega)).trans (by assumption) | exact (up_ne (by assumption)).trans (by assumption) | exact (up_ne (by omega)).trans ((up_ne (by omega)).trans (by assumption))) ?_
    refine x_k dX0_reach_14 ?_
    refine x_icmp_ge dX0_reach_17 (fun b17 => ?_) (fun b17 => ?_)
    · first
        | (have hz : ¬ (s.1 w = -1 ∧ s.2.2 < 4096) := fun z => b7 (by rw [q1 w hw]; exact z.1)
           refine x_vret dX0_reach_49 rfl (Nat.zero_le _) (Nat.zero_le _) ?_
           refine ⟨rfl, rfl, ?_, fun j _ _ _ => rfl⟩
           rw [rch, if_neg hz]; exact hq)
        | (have hz : ¬ (s.1 w = -1 ∧ s.2.2 < 4096) := fun z => absurd (gl.mp b17) (by omega)
           refine x_vret dX0_reach_49 rfl (Nat.zero_le _) (Nat.zero_le _) ?_
           refine ⟨rfl, rfl, ?_, fun j _ _ _ => rfl⟩
           rw [rch, if_neg hz]; exact hq)
        | (have hz : s.1 w = -1 ∧ s.2.2 < 4096 := ⟨by rw [← q1 w hw]; exact Classical.not_not.mp b7, hlt⟩
           refine x_vret dX0_reach_49 rfl (Nat.zero_le _) (Nat.zero_le _) ?_
           rw [rch, if_pos hz]
           refine ⟨rfl, rfl, ⟨?_, upd ff w st, upd qf s.2.2 (nI w), ?_, ?_, fun i hi => ?_, fun i hi => ?_⟩, fun j j1 j2 j3 => ?_⟩
           · rw [up_same, nI_1]; rfl
           · rw [up_ne e39k, up_ne hkl, up_same]
           · rw [up_ne e39l, up_same]
           · show upd ff w st i = upd s.1 w st i
             by_cases e : i = w
             · rw [e, upd_same, upd_same]
             · rw [upd_ne e, upd_ne e]; exact q1 i hi
           · have hi : i < s.2.2 + 1 := hi
             show upd qf s.2.2 (nI w) i = nI (if i = s.2.2 then w else s.2.1 i)
             by_cases e : i = s.2.2
             · rw [if_pos e, e, upd_same]
             · rw [upd_ne e, if_neg e]; exact q2 i (by omega)
           · rw [up_ne j1, up_ne j3, up_ne j2])
    · refine x_aload dX0_reach_20 rfl ?_
      refine x_get fX0_18 dX0_reach_21 (by first | assumption | rfl | exact up_same | exact (up_ne (by omega)).trans (by assumption) | exact (up_ne (by assumption)).trans (by assumption) | exact (up_ne (by omega)).trans ((up_ne (by omega)).trans (by assumption))) ?_
      refine x_iload dX0_reach_24 rfl ?_
      refine x_iload dX0_reach_25 rfl ?_
      refine x_i2s dX0_reach_26 ?_
      refine x_sastn dX0_reach_27 (by first | assumption | rfl | exact up_same | exact (up_ne (by omega)).trans (by assumption) | exact (up_ne (by assumption)).trans (by assumption) | exact (up_ne (by omega)).trans ((up_ne (by omega)).trans (by assumption))) ⟨by first | omega | decide, by decide⟩ ?_
      rw [hst, hst]
      have hlt : s.2.2 < 4096 := by rw [gl] at b17; omega
      refine x_aload dX0_reach_28 rfl ?_
      refine x_get fX0_22 dX0_reach_29 (by first | assumption | rfl | exact up_same | exact (up_ne (by omega)).trans (by assumption) | exact (up_ne (by assumption)).trans (by assumption) | exact (up_ne (by omega)).trans ((up_ne (by omega)).trans (by assumption))) ?_
      refine x_aload dX0_reach_32 rfl ?_
      refine x_get fX0_25 dX0_reach_33 (by first | assumption | rfl | exact up_same | exact (up_ne (by omega)).trans (by assumption) | exact (up_ne (by assumption)).trans (by assumption) | exact (up_ne (by omega)).trans ((up_ne (by omega)).trans (by assumption))) ?_
      refine x_iload dX0_reach_36 rfl ?_
      refine x_i2s dX0_reach_37 ?_
      refine x_sastn dX0_reach_38 (by first | assumption | rfl | exact up_same | exact (up_ne (by omega)).trans (by assumption) | exact (up_ne (by assumption)).trans (by assumption) | exact (up_ne (by omega)).trans ((up_ne (by omega)).trans (by assumption))) ⟨by first | omega | decide, by decide⟩ ?_
      rw [i16 (m := w) (by omega), i16 (m := w) (by omega)]
      refine x_aload dX0_reach_39 rfl ?_
      refine x_dup dX0_reach_40 rfl ?_
      refine x_get fX0_25 dX0_reach_41 (by first | assumption | rfl | exact up_same | exact (up_ne (by omega)).trans (by assumption) | exact (up_ne (by assumption)).trans (by assumption) | exact (up_ne (by omega)).trans ((up_ne (by omega)).trans (by assumption))) ?_
      refine x_k dX0_reach_44 ?_
      refine x_iadd dX0_reach_45 ?_
      refine x_put fX0_25 tt0 gX0_25 dX0_reach_46 (by first | assumption | rfl | exact up_same | exact (up_ne (by omega)).trans (by assumption) | exact (up_ne (by assumption)).trans (by assumption) | exact (up_ne (by omega)).trans ((up_ne (by omega)).trans (by assumption))) (Nat.le_of_ble_eq_true rfl) (w0_3 _) ?_
      first
        | (have hz : ¬ (s.1 w = -1 ∧ s.2.2 < 4096) := fun z => b7 (by rw [q1 w hw]; exact z.1)
           refine x_vret dX0_reach_49 rfl (Nat.zero_le _) (Nat.zero_le _) ?_
           refine ⟨rfl, rfl, ?_, fun j _ _ _ => rfl⟩
           rw [rch, if_neg hz]; exact hq)
        | (have hz : ¬ (s.1 w = -1 ∧ s.2.2 < 4096) := fun z => absurd (gl.mp b17) (by omega)
           refine x_vret dX0_reach_49 rfl (Nat.zero_le _) (Nat.zero_le _) ?_
           refine ⟨rfl, rfl, ?_, fun j _ _ _ => rfl⟩
           rw [rch, if_neg hz]; exact hq)
        | (have hz : s.1 w = -1 ∧ s.2.2 < 4096 := ⟨by rw [← q1 w hw]; exact Classical.not_not.mp b7, hlt⟩
           refine x_vret dX0_reach_49 rfl (Nat.zero_le _) (Nat.zero_le _) ?_
           rw [rch, if_pos hz]
           refine ⟨rfl, rfl, ⟨?_, upd ff w st, upd qf s.2.2 (nI w), ?_, ?_, fun i hi => ?_, fun i hi => ?_⟩, fun j j1 j2 j3 => ?_⟩
           · rw [up_same, nI_1]; rfl
           · rw [up_ne e39k, up_ne hkl, up_same]
           · rw [up_ne e39l, up_same]
           · show upd ff w st i = upd s.1 w st i
             by_cases e : i = w
             · rw [e, upd_same, upd_same]
             · rw [upd_ne e, upd_ne e]; exact q1 i hi
           · have hi : i < s.2.2 + 1 := hi
             show upd qf s.2.2 (nI w) i = nI (if i = s.2.2 then w else s.2.1 i)
             by_cases e : i = s.2.2
             · rw [if_pos e, e, upd_same]
             · rw [upd_ne e, if_neg e]; exact q2 i (by omega)
           · rw [up_ne j1, up_ne j3, up_ne j2])
/-- the ways that a sale makes -/
theorem hw_ok (hd : okD d) (hH : d_H d ≤ 4) {way hs b : Nat} (hb : b < 8) : hndW d way hs b < 4096 ∧ ∀ j, j < 4 → d_H d ≤ j → wown (hndW d way hs b) j = 0 := by
  obtain ⟨l2, d2⟩ := wayOf_dig (H := d_H d) (own := fun j => if (salT (d_H d) (d_N d) (posN (d_H d) (d_b1 d)) ((d_L d).testBit 0) ((d_L d).testBit 1) ((d_L d).testBit 2) (wown way) (fun _ => 0) b hs).testBit j then b else wown way j) hH (fun j hj => by
    split
    · exact hb
    · exact wown_lt _ _)
  rw [hndW]
  exact ⟨l2, fun j hj h2 => by rw [d2 j hj, if_neg (by omega)]⟩
def SI (d : DT) (way m : Nat) (s : QS) : Prop := QI d s ∧ s.1 way = nI m ∧ m + 1 ≤ s.2.2
theorem rch_keep {s : QS} {v w m : Nat} {st : Int32} (hm : m < 2 ^ 31) (e : s.1 v = nI m) : (rch s w st).1 v = nI m := by
  rw [rch]
  by_cases y : s.1 w = -1 ∧ s.2.2 < 4096
  · rw [if_pos y]
    show upd s.1 w st v = nI m
    rw [upd_ne (fun z => by rw [z, y.1] at e; exact nI_nm1 hm e.symm)]; exact e
  · rw [if_neg y]; exact e
theorem rch_le (s : QS) (w : Nat) (st : Int32) : s.2.2 ≤ (rch s w st).2.2 := by
  rw [rch]
  by_cases y : s.1 w = -1 ∧ s.2.2 < 4096
  · rw [if_pos y]; exact Nat.le_succ _
  · rw [if_neg y]; exact Nat.le_refl _
theorem SI.rc {s : QS} {way m hs b : Nat} (hd : okD d) (hH : d_H d ≤ 4) (hs' : SI d way m s) (hb : b < 8) : SI d way m (rch s (hndW d way hs b) (s.1 way + 1)) := by
  obtain ⟨h1, h2, h3⟩ := hs'
  have hle := h1.le
  obtain ⟨w1, w2⟩ := hw_ok (way := way) (hs := hs) hd hH hb
  have e : s.1 way + 1 = nI (m + 1) := by rw [h2, nI_1]
  rw [e]
  exact ⟨h1.rc w1 w2 h3, rch_keep (by omega) h2, Nat.le_trans h3 (rch_le _ _ _)⟩
theorem SI.sB {s : QS} {way m hs : Nat} (hd : okD d) (hH : d_H d ≤ 4) (hs' : SI d way m s) : ∀ b, b ≤ 8 → SI d way m (sllB (hndW d) way hs s b)
  | 0, _ => hs'
  | b + 1, hb => SI.rc hd hH (SI.sB hd hH hs' b (by omega)) (by omega)
theorem SI.sH {s : QS} {way m : Nat} (hd : okD d) (hH : d_H d ≤ 4) (hN : d_N d ≤ 8) (hs' : SI d way m s) : ∀ k, SI d way m (sllH (hndW d) (d_N d) way s k)
  | 0 => hs'
  | k + 1 => SI.sB hd hH (SI.sH hd hH hN hs' k) (d_N d) hN
theorem QI.SI {s : QS} {i : Nat} (hq : QI d s) (hi : i < s.2.2) : ∃ m, SI d (s.2.1 i) m s ∧ m ≤ 4096 := by
  have hle := hq.le
  obtain ⟨q1, q2, m, q3, q4⟩ := hq.2 i hi
  exact ⟨m, ⟨hq, q4, by omega⟩, by omega⟩
theorem QI.b (hd : okD d) (hH : d_H d ≤ 4) : ∀ n, QI d (bfs d n)
  | 0 => by
    obtain ⟨l2, d2⟩ := wayOf_dig (H := d_H d) (own := ownN (d_b0 d)) hH (fun j hj => (ownN_ok hd.1.1 hj).2)
    have h0 : QI d (fun _ => -1, fun _ => 0, 0) := by
      refine ⟨?_, fun i hi => absurd hi (Nat.not_lt_zero i)⟩
      have : ∀ n, cntB (fun w => decide ((fun _ : Nat => (-1 : Int32)) w ≠ -1)) n = 0 := by
        intro n
        induction n with
        | zero => rfl
        | succ n ih => rw [cnt_s, ih]; rfl
      exact (this 4096).symm
    exact h0.rc (m := 0) l2 (fun j hj h2 => by rw [d2 j hj, if_neg (by omega)]) (Nat.zero_le _)
  | n + 1 => by
    have ih := QI.b hd hH n
    have e : bfs d (n + 1) = if n < (bfs d n).2.2 then sllH (hndW d) (d_N d) ((bfs d n).2.1 n) (bfs d n) (d_H d) else bfs d n := rfl
    rw [e]
    by_cases y : n < (bfs d n).2.2
    · rw [if_pos y]
      obtain ⟨m, hm, -⟩ := ih.SI y
      exact (hm.sH hd hH (pN_ok hd.1.2.1).1 (d_H d)).1
    · rw [if_neg y]; exact ih
theorem bfs_stop {i : Nat} (y : ¬ i < (bfs d i).2.2) : ∀ k, bfs d (i + k) = bfs d i
  | 0 => rfl
  | k + 1 => by
    have e : bfs d (i + k + 1) = if i + k < (bfs d (i + k)).2.2 then sllH (hndW d) (d_N d) ((bfs d (i + k)).2.1 (i + k)) (bfs d (i + k)) (d_H d) else bfs d (i + k) := rfl
    rw [← Nat.add_assoc, e, bfs_stop y k, if_neg (by omega)]
theorem shr7 {w k : Nat} (hw : w < 4096) (hk : k < 4) : (nI w >>> ((nI k * 3) &&& 31)) &&& 7 = nI (wown w k) := by
  have e3 : nI k * 3 = nI (3 * k) := by rw [show (3 : Int32) = nI 3 from rfl, pk_mul, Nat.mul_comm]
  rw [e3, shrN (by omega) (by omega), show (7 : Int32) = nI (2 ^ 3 - 1) from rfl, fa_and, Nat.and_two_pow_sub_one_eq_mod, wown, p8]
theorem r_sellFrom {k l way m : Nat} {s : QS} {dn ln : Int32} {g ins : Nat → Int32} (hd : okD d) (hH : d_H d ≤ 4) (hk : 85 ≤ k) (hl : 85 ≤ l) (hkl : k ≠ l) (hq : QC h k l s) (hs : SI d way m s) (hm : m < 4096) (hw : way < 4096) (hz : ∀ i, i < 4 → d_H d ≤ i → wown way i = 0) (h10 : h 10 = cSt (nI (d_H d)) (nI (d_N d))) (h16 : h 16 = ia 9 ins) (hins : ∀ z, z < 9 → ins z = nI (insM (d_N d) (posN (d_H d) (d_b1 d)) z)) (h40 : h 40 = cK 41 42 43 44 (soN (fun _ => 0)) dn ln) (h42 : h 42 = ia 8 g) : Rn Γ mX0_sellFrom [.ref 39, .int (nI way), .ref 10, .int (nI (d_L d))] h sz (fun r h' sz' => r = none ∧ sz = sz' ∧ QC h' k l (sllH (hndW d) (d_N d) way s (d_H d)) ∧ (∃ g', h' 42 = ia 8 g') ∧ ∀ j, j ≠ 39 → j ≠ 42 → j ≠ k → j ≠ l → h' j = h j) := by
  have hP8 : d_N d ≤ 8 := (pN_ok hd.1.2.1).1
  obtain ⟨q39, ff, qf, qk, ql, q1, q2⟩ := id hq
  have hL := hd.2.1.1
  refine x_enter 3 (by decide) rfl ?_
  have JB : ∀ (hs' : Nat), hs' < d_H d → ∀ (h2 : Hp) (gg : Nat → Int32) (v : Value), (∀ p, p < 8 → gg p = nI (msk (fun j => decide (wown way j = p)) (d_H d))) → (∀ j, j ≠ 39 → j ≠ 42 → j ≠ k → j ≠ l → h2 j = h j) → h2 42 = ia 8 gg → QC h2 k l (sllH (hndW d) (d_N d) way s hs') → (∀ (h3 : Hp) (v5 v6 : Value), (∀ j, j ≠ 39 → j ≠ 42 → j ≠ k → j ≠ l → h3 j = h j) → h3 42 = ia 8 gg → QC h3 k l (sllH (hndW d) (d_N d) way s (hs' + 1)) → Ex Γ mX0_sellFrom (gx_Z Γ mX0_sellFrom (fun r h' sz' => r = none ∧ sz = sz' ∧ QC h' k l (sllH (hndW d) (d_N d) way s (d_H d)) ∧ (∃ g', h' 42 = ia 8 g') ∧ ∀ j, j ≠ 39 → j ≠ 42 → j ≠ k → j ≠ l → h' j = h j)) 0 0 56 [.ref 39, .int (nI way), .ref 10, .int (nI (d_L d)), .int (nI (hs' + 1)), v5, v6] [] h3 sz) → ∀ b, b ≤ d_N d → ∀ (h4 : Hp) (v6 : Value), (∀ j, j ≠ 39 → j ≠ 42 → j ≠ k → j ≠ l → h4 j = h j) → h4 42 = ia 8 gg → QC h4 k l (sllB (hndW d) way hs' (sllH (hndW d) (d_N d) way s hs') b) → Ex Γ mX0_sellFrom (gx_Z Γ mX0_sellFrom (fun r h' sz' => r = none ∧ sz = sz' ∧ QC h' k l (sllH (hndW d) (d_N d) way s (d_H d)) ∧ (∃ g', h' 42 = ia 8 g') ∧ ∀ j, j ≠ 39 → j ≠ 42 → j ≠ k → j ≠ l → h' j = h j)) 0 0 68 [.ref 39, .int (nI way), .ref 10, .int (nI (d_L d)), .int (nI hs'), .int (nI b), v6] [] h4 sz := by
    intro hs' hhs h2 gg v hgg hfr2 h242 hq2 K
    refine loopUp (d_N d) (fun h4 v6 f4 h442 hq4 => ?_) (fun b hb ih h4 v6 f4 h442 hq4 => ?_)
    · have c10 := (f4 10 (by omega) (by omega) (by omega) (by omega)).trans h10
      refine x_iload dX0_sellFrom_68 rfl ?_
      refine x_aload dX0_sellFrom_70 rfl ?_
      refine x_get fX0_70 dX0_sellFrom_71 (by first | assumption | rfl | exact up_same | exact (up_ne (by omega)).trans (by assumption) | exact (up_ne (by assumption)).trans (by assumption) | exact (up_ne (by omega)).trans ((up_ne (by omega)).trans (by assumption))) ?_
      refine x_icmp_ge dX0_sellFrom_74 (fun b74 => ?_) (fun b74 => ?_)
      · refine x_inc1 dX0_sellFrom_125 rfl (Nat.le_of_ble_eq_true rfl) rfl ?_
        refine x_goto dX0_sellFrom_128 ?_
        exact K h4 _ _ f4 h442 hq4
      · exact absurd (Int32.le_refl _) b74
    · have c10 := (f4 10 (by omega) (by omega) (by omega) (by omega)).trans h10
      have c16 := (f4 16 (by omega) (by omega) (by omega) (by omega)).trans h16
      have c40 := (f4 40 (by omega) (by omega) (by omega) (by omega)).trans h40
      have si := SI.sB (hs := hs') hd hH (SI.sH hd hH hP8 hs hs') b (by omega)
      obtain ⟨p39, gf, rf, pk, pl, p1, p2⟩ := id hq4
      have hTl : salT (d_H d) (d_N d) (posN (d_H d) (d_b1 d)) ((d_L d).testBit 0) ((d_L d).testBit 1) ((d_L d).testBit 2) (wown way) (fun _ => 0) b hs' < 256 := clo_lt _ _
      have hSl : msk (salS (d_H d) (d_N d) (posN (d_H d) (d_b1 d)) ((d_L d).testBit 0) ((d_L d).testBit 1) ((d_L d).testBit 2) (wown way) (fun _ => 0) b hs') 8 < 256 := msk_lt _ 8
      have hst : ((sllB (hndW d) way hs' (sllH (hndW d) (d_N d) way s hs') b).1 way + 1).toInt16.toInt32 = (sllB (hndW d) way hs' (sllH (hndW d) (d_N d) way s hs') b).1 way + 1 := by
        rw [si.2.1, nI_1]; exact i16 (by omega)
      have hwo := hw_ok (d := d) (way := way) (hs := hs') (b := b) hd hH (by omega)
      have ehw := hnd_hw hd hH hw hz (b := b) (hs := hs') (by omega) hhs
      refine x_iload dX0_sellFrom_68 rfl ?_
      refine x_aload dX0_sellFrom_70 rfl ?_
      refine x_get fX0_70 dX0_sellFrom_71 (by first | assumption | rfl | exact up_same | exact (up_ne (by omega)).trans (by assumption) | exact (up_ne (by assumption)).trans (by assumption) | exact (up_ne (by omega)).trans ((up_ne (by omega)).trans (by assumption))) ?_
      refine x_icmp_ge dX0_sellFrom_74 (fun b74 => ?_) (fun b74 => ?_)
      · exact absurd b74 (nI_ge hb (by omega))
      · refine x_aload dX0_sellFrom_77 rfl ?_
        refine x_get fX0_12 dX0_sellFrom_78 (by first | assumption | rfl | exact up_same | exact (up_ne (by omega)).trans (by assumption) | exact (up_ne (by assumption)).trans (by assumption) | exact (up_ne (by omega)).trans ((up_ne (by omega)).trans (by assumption))) ?_
        refine x_iload dX0_sellFrom_81 rfl ?_
        refine x_iload dX0_sellFrom_83 rfl ?_
        refine x_aload dX0_sellFrom_85 rfl ?_
        refine x_get fX0_73 dX0_sellFrom_86 (by first | assumption | rfl | exact up_same | exact (up_ne (by omega)).trans (by assumption) | exact (up_ne (by assumption)).trans (by assumption) | exact (up_ne (by omega)).trans ((up_ne (by omega)).trans (by assumption))) ?_
        refine x_iload dX0_sellFrom_89 rfl ?_
        refine x_V4i lX0_76 (Rm.of rfl) (cc1 := 0) (cn1 := 0) rfl rfl (Nat.le_of_ble_eq_true rfl) dX0_sellFrom_90 (by first | assumption | rfl | exact up_same | exact (up_ne (by omega)).trans (by assumption) | exact (up_ne (by assumption)).trans (by assumption) | exact (up_ne (by omega)).trans ((up_ne (by omega)).trans (by assumption))) (r_goneWith_40 (tms := fun _ => 0) (own := wown way) (N := d_N d) (H := d_H d) (pos := posN (d_H d) (d_b1 d)) c40 h442 c16 hgg hins (by omega) hP8 (fun j hj => wown_lt _ _) hL (by omega) (by omega)) ?_
        refine x_k dX0_sellFrom_93 ?_
        refine x_iand dX0_sellFrom_96 ?_
        rw [and255 hTl hSl]
        refine x_istore dX0_sellFrom_97 (Nat.le_of_ble_eq_true rfl) rfl ?_
        refine x_aload dX0_sellFrom_99 rfl ?_
        refine x_iload dX0_sellFrom_100 rfl ?_
        refine x_iload dX0_sellFrom_101 rfl ?_
        refine x_iload dX0_sellFrom_103 rfl ?_
        refine x_S3i lX0_80 (Rm.of rfl) (cc1 := 0) (cn1 := 0) rfl rfl (Nat.le_of_ble_eq_true rfl) dX0_sellFrom_105 (r_handedOver hTl (by omega)) ?_
        refine x_aload dX0_sellFrom_108 rfl ?_
        refine x_get fX0_18 dX0_sellFrom_109 (by first | assumption | rfl | exact up_same | exact (up_ne (by omega)).trans (by assumption) | exact (up_ne (by assumption)).trans (by assumption) | exact (up_ne (by omega)).trans ((up_ne (by omega)).trans (by assumption))) ?_
        refine x_iload dX0_sellFrom_112 rfl ?_
        refine x_saldn dX0_sellFrom_113 (by first | assumption | rfl | exact up_same | exact (up_ne (by omega)).trans (by assumption) | exact (up_ne (by assumption)).trans (by assumption) | exact (up_ne (by omega)).trans ((up_ne (by omega)).trans (by assumption))) ⟨by first | omega | decide, by decide⟩ ?_
        rw [p1 way hw, ehw]
        refine x_k dX0_sellFrom_114 ?_
        refine x_iadd dX0_sellFrom_115 ?_
        refine x_V2q lX0_52 (Rm.of rfl) (cc1 := 0) (cn1 := 0) rfl rfl (Nat.le_of_ble_eq_true rfl) dX0_sellFrom_116 (by first | assumption | rfl | exact up_same | exact (up_ne (by omega)).trans (by assumption) | exact (up_ne (by assumption)).trans (by assumption) | exact (up_ne (by omega)).trans ((up_ne (by omega)).trans (by assumption))) (r_reach hk hl hkl hq4 si.1.le hwo.1 hst) ?_
        rintro _ h5 _ ⟨rfl, rfl, hq5, f5⟩
        refine x_inc1 dX0_sellFrom_119 rfl (Nat.le_of_ble_eq_true rfl) rfl ?_
        refine x_goto dX0_sellFrom_122 ?_
        exact ih h5 _ (fun j j1 j2 j3 j4 => (f5 j j1 j3 j4).trans (f4 j j1 j2 j3 j4)) ((f5 42 (by omega) (by omega) (by omega)).trans h442) hq5
  have JH : ∀ gg : Nat → Int32, (∀ p, p < 8 → gg p = nI (msk (fun j => decide (wown way j = p)) (d_H d))) → ∀ hs', hs' ≤ d_H d → ∀ (h3 : Hp) (v5 v6 : Value), (∀ j, j ≠ 39 → j ≠ 42 → j ≠ k → j ≠ l → h3 j = h j) → h3 42 = ia 8 gg → QC h3 k l (sllH (hndW d) (d_N d) way s hs') → Ex Γ mX0_sellFrom (gx_Z Γ mX0_sellFrom (fun r h' sz' => r = none ∧ sz = sz' ∧ QC h' k l (sllH (hndW d) (d_N d) way s (d_H d)) ∧ (∃ g', h' 42 = ia 8 g') ∧ ∀ j, j ≠ 39 → j ≠ 42 → j ≠ k → j ≠ l → h' j = h j)) 0 0 56 [.ref 39, .int (nI way), .ref 10, .int (nI (d_L d)), .int (nI hs'), v5, v6] [] h3 sz := by
    intro gg hgg
    refine loopUp (d_H d) (fun h3 v5 v6 f3 h342 hq3 => ?_) (fun hs' hhs ih h3 v5 v6 f3 h342 hq3 => ?_)
    · have c10 := (f3 10 (by omega) (by omega) (by omega) (by omega)).trans h10
      refine x_iload dX0_sellFrom_56 rfl ?_
      refine x_aload dX0_sellFrom_58 rfl ?_
      refine x_get fX0_33 dX0_sellFrom_59 (by first | assumption | rfl | exact up_same | exact (up_ne (by omega)).trans (by assumption) | exact (up_ne (by assumption)).trans (by assumption) | exact (up_ne (by omega)).trans ((up_ne (by omega)).trans (by assumption))) ?_
      refine x_icmp_ge dX0_sellFrom_62 (fun b62 => ?_) (fun b62 => ?_)
      · refine x_vret dX0_sellFrom_131 rfl (Nat.zero_le _) (Nat.zero_le _) ?_
        exact ⟨rfl, rfl, hq3, ⟨gg, h342⟩, f3⟩
      · exact absurd (Int32.le_refl _) b62
    · have c10 := (f3 10 (by omega) (by omega) (by omega) (by omega)).trans h10
      refine x_iload dX0_sellFrom_56 rfl ?_
      refine x_aload dX0_sellFrom_58 rfl ?_
      refine x_get fX0_33 dX0_sellFrom_59 (by first | assumption | rfl | exact up_same | exact (up_ne (by omega)).trans (by assumption) | exact (up_ne (by assumption)).trans (by assumption) | exact (up_ne (by omega)).trans ((up_ne (by omega)).trans (by assumption))) ?_
      refine x_icmp_ge dX0_sellFrom_62 (fun b62 => ?_) (fun b62 => ?_)
      · exact absurd b62 (nI_ge hhs (by omega))
      · refine x_k dX0_sellFrom_65 ?_
        refine x_istore dX0_sellFrom_66 (Nat.le_of_ble_eq_true rfl) rfl ?_
        exact x_eq rfl rfl rfl (JB hs' hhs h3 gg .null hgg f3 h342 hq3 ih 0 (Nat.zero_le _) h3 _ f3 h342 hq3)
  have JO : ∀ j, j ≤ d_H d → ∀ v5 v6 : Value, Ex Γ mX0_sellFrom (gx_Z Γ mX0_sellFrom (fun r h' sz' => r = none ∧ sz = sz' ∧ QC h' k l (sllH (hndW d) (d_N d) way s (d_H d)) ∧ (∃ g', h' 42 = ia 8 g') ∧ ∀ j, j ≠ 39 → j ≠ 42 → j ≠ k → j ≠ l → h' j = h j)) 0 0 14 [.ref 39, .int (nI way), .ref 10, .int (nI (d_L d)), .int (nI j), v5, v6] [] (va_up h 42 (ia 8 (mskA (fun i => nI (wown way i)) g 8 j))) sz := by
    refine loopUp (d_H d) (fun v5 v6 => ?_) (fun j hj ih v5 v6 => ?_)
    · refine x_iload dX0_sellFrom_14 rfl ?_
      refine x_aload dX0_sellFrom_16 rfl ?_
      refine x_get fX0_33 dX0_sellFrom_17 (by first | assumption | rfl | exact up_same | exact (up_ne (by omega)).trans (by assumption) | exact (up_ne (by assumption)).trans (by assumption) | exact (up_ne (by omega)).trans ((up_ne (by omega)).trans (by assumption))) ?_
      refine x_icmp_ge dX0_sellFrom_20 (fun b20 => ?_) (fun b20 => ?_)
      · refine x_k dX0_sellFrom_53 ?_
        refine x_istore dX0_sellFrom_54 (Nat.le_of_ble_eq_true rfl) rfl ?_
        refine x_eq rfl rfl rfl (JH (mskA (fun i => nI (wown way i)) g 8 (d_H d)) (fun p hp => ?_) 0 (Nat.zero_le _) _ _ _ (fun j j1 j2 j3 j4 => up_ne j2) up_same ⟨(up_ne (by omega)).trans q39, ff, qf, (up_ne (by omega)).trans qk, (up_ne (by omega)).trans ql, q1, q2⟩)
        rw [mskA, if_pos hp]
        refine congrArg nI (msk_congr (fun i hi => ?_))
        exact decide_eq_decide.mpr (nI_eq (Nat.lt_trans (wown_lt _ _) (by decide)) (by omega))
      · exact absurd (Int32.le_refl _) b20
    · have hwj : wown way j < 8 := wown_lt _ _
      refine x_iload dX0_sellFrom_14 rfl ?_
      refine x_aload dX0_sellFrom_16 rfl ?_
      refine x_get fX0_33 dX0_sellFrom_17 (by first | assumption | rfl | exact up_same | exact (up_ne (by omega)).trans (by assumption) | exact (up_ne (by assumption)).trans (by assumption) | exact (up_ne (by omega)).trans ((up_ne (by omega)).trans (by assumption))) ?_
      refine x_icmp_ge dX0_sellFrom_20 (fun b20 => ?_) (fun b20 => ?_)
      · exact absurd b20 (nI_ge hj (by omega))
      · refine x_aload dX0_sellFrom_23 rfl ?_
        refine x_get fX0_12 dX0_sellFrom_24 (by first | assumption | rfl | exact up_same | exact (up_ne (by omega)).trans (by assumption) | exact (up_ne (by assumption)).trans (by assumption) | exact (up_ne (by omega)).trans ((up_ne (by omega)).trans (by assumption))) ?_
        refine x_get fX0_64 dX0_sellFrom_27 (by first | assumption | rfl | exact up_same | exact (up_ne (by omega)).trans (by assumption) | exact (up_ne (by assumption)).trans (by assumption) | exact (up_ne (by omega)).trans ((up_ne (by omega)).trans (by assumption))) ?_
        refine x_iload dX0_sellFrom_30 rfl ?_
        refine x_iload dX0_sellFrom_31 rfl ?_
        refine x_k dX0_sellFrom_33 ?_
        refine x_imul dX0_sellFrom_34 ?_
        refine x_ishr dX0_sellFrom_35 ?_
        refine x_k dX0_sellFrom_36 ?_
        refine x_iand dX0_sellFrom_38 ?_
        rw [shr7 hw (by omega)]
        refine x_dup2 dX0_sellFrom_39 rfl rfl ?_
        refine x_ialdn dX0_sellFrom_40 (by first | assumption | rfl | exact up_same | exact (up_ne (by omega)).trans (by assumption) | exact (up_ne (by assumption)).trans (by assumption) | exact (up_ne (by omega)).trans ((up_ne (by omega)).trans (by assumption))) ⟨by first | omega | decide, by decide⟩ ?_
        refine x_k dX0_sellFrom_41 ?_
        refine x_iload dX0_sellFrom_42 rfl ?_
        refine x_ishl dX0_sellFrom_44 ?_
        refine x_ior dX0_sellFrom_45 ?_
        refine x_iastn dX0_sellFrom_46 (by first | assumption | rfl | exact up_same | exact (up_ne (by omega)).trans (by assumption) | exact (up_ne (by assumption)).trans (by assumption) | exact (up_ne (by omega)).trans ((up_ne (by omega)).trans (by assumption))) ⟨by first | omega | decide, by decide⟩ ?_
        refine x_inc1 dX0_sellFrom_47 rfl (Nat.le_of_ble_eq_true rfl) rfl ?_
        refine x_goto dX0_sellFrom_50 ?_
        refine x_eq rfl rfl ?_ (ih _ _)
        rw [up_up, mskA_s (g := fun i => nI (wown way i)) (q := wown way j) (k := j) (z := g) hwj (by decide) rfl (by omega)]
  refine x_aload dX0_sellFrom_0 rfl ?_
  refine x_get fX0_12 dX0_sellFrom_1 (by first | assumption | rfl | exact up_same | exact (up_ne (by omega)).trans (by assumption) | exact (up_ne (by assumption)).trans (by assumption) | exact (up_ne (by omega)).trans ((up_ne (by omega)).trans (by assumption))) ?_
  refine x_get fX0_64 dX0_sellFrom_4 (by first | assumption | rfl | exact up_same | exact (up_ne (by omega)).trans (by assumption) | exact (up_ne (by assumption)).trans (by assumption) | exact (up_ne (by omega)).trans ((up_ne (by omega)).trans (by assumption))) ?_
  refine x_k dX0_sellFrom_7 ?_
  refine x_S2v lX0_67 (Rm.of rfl) (cc1 := 0) (cn1 := 0) rfl rfl (Nat.le_of_ble_eq_true rfl) dX0_sellFrom_8 (r_fill_42 h42 (by decide)) ?_
  refine x_k dX0_sellFrom_11 ?_
  refine x_istore dX0_sellFrom_12 (Nat.le_of_ble_eq_true rfl) rfl ?_
  refine x_eq rfl rfl ?_ (JO 0 (Nat.zero_le _) _ _)
  rw [mskA_0]
end DeedsB
