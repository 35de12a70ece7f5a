/-! write, copy -/
theorem mmin_nI {a b : Nat} (ha : a < 2 ^ 31) (hb : b < 2 ^ 31) : (if nI b < nI a then nI b else nI a) = nI (min a b) := by
  have := nI_ltI hb ha
  by_cases z : b < a
  · rw [if_pos (this.mpr z), Nat.min_eq_right (by omega)]
  · rw [if_neg (fun y => z (this.mp y)), Nat.min_eq_left (by omega)]
def blkG (it : Nat → Int32) (b : Nat) (g : Nat → Int32) (p : Nat) : Nat → Int32 := fun x => if b ≤ x ∧ x < b + p then g (x - b) else it x
theorem blkG_0 (it : Nat → Int32) (b : Nat) (g : Nat → Int32) : blkG it b g 0 = it := by
  funext x; exact if_neg (by omega)
theorem blkG_s (it : Nat → Int32) (b : Nat) (g : Nat → Int32) (p : Nat) {v : Int32} (e : v = g p) : upd (blkG it b g p) (b + p) v = blkG it b g (p + 1) := by
  funext x
  simp only [upd, blkG]
  by_cases z : x = b + p
  · rw [if_pos z, if_pos (by omega), e, z, Nat.add_sub_cancel_left]
  · rw [if_neg z]
    by_cases y : b ≤ x ∧ x < b + p
    · rw [if_pos y, if_pos (by omega)]
    · rw [if_neg y, if_neg (by omega)]
noncomputable def wrF (d : DT) (s : Nat) : Nat → Int32 := fun i => stV (d_fo d s) (nI ((d_run d (d_ns d)).2.1 i))
def wrN (d : DT) (s : Nat) : Nat := min (cN (d_si d) s) (d_N d)
def aWrite (d : DT) (s : Int32) : Int32 := if cS s then (if d_fo d (sN s) = -1 then -11 else nI (wrN d (sN s))) else -2
noncomputable def dWrite (d : DT) (s : Int32) : DT := if cS s then (if d_fo d (sN s) = -1 then dFi d 1 else dSx d (sN s) (d_fo d (sN s)) (d_si d (sN s)) (filG (d_it d (sN s)) (wrF d (sN s)) (wrN d (sN s)))) else d
abbrev holP (c : Nat) (i n : Int32) : Prop := 0 ≤ i ∧ 0 ≤ n ∧ sN i + sN n ≤ c
abbrev holD (d : DT) (s t : Nat) (i j n : Int32) : Prop := holP (cN (d_si d) s) i n ∧ holP (cN (d_si d) t) j n
def aCopy (d : DT) (s i t j n : Int32) : Int32 := if cS s ∧ cS t then (if d_fo d (sN s) = -1 ∨ d_fo d (sN t) = -1 then -11 else if d_fo d (sN s) = d_fo d (sN t) then (if holD d (sN s) (sN t) i j n then 1 else -12) else -14) else -2
def dCopy (d : DT) (s i t j n : Int32) : DT := if cS s ∧ cS t then (if d_fo d (sN s) = -1 ∨ d_fo d (sN t) = -1 then dFi d 1 else if d_fo d (sN s) = d_fo d (sN t) then (if holD d (sN s) (sN t) i j n then dSx d (sN t) (d_fo d (sN t)) (d_si d (sN t)) (va_cpy (d_it d (sN s)) (d_it d (sN t)) (sN i) (sN j) (sN n)) else dFi d 2) else dFi d 4) else d
theorem hol_x {i n : Int32} {c : Nat} (hc : c ≤ 48) : (0 ≤ i ∧ 0 ≤ n ∧ n ≤ nI c ∧ i ≤ nI c - n) ↔ holP c i n := by
  by_cases hi : 0 ≤ i
  · by_cases hn : 0 ≤ n
    · obtain ⟨a, ha, rfl⟩ := nI_of (Int32.not_lt.mpr hi)
      obtain ⟨b, hb, rfl⟩ := nI_of (Int32.not_lt.mpr hn)
      have e1 : nI b ≤ nI c ↔ b ≤ c := nI_leI hb (by omega)
      have ea : sN (nI a) = a := nI_clamp ha
      have eb : sN (nI b) = b := nI_clamp hb
      by_cases z : b ≤ c
      · have e2 : nI c - nI b = nI (c - b) := by
          have := nI_add (c - b) b
          rw [Nat.sub_add_cancel z] at this
          rw [← this, Int32.add_sub_cancel]
        have e3 : nI a ≤ nI (c - b) ↔ a ≤ c - b := nI_leI ha (by omega)
        rw [e2, e1, e3, holP, ea, eb]
        constructor
        · rintro ⟨y1, y2, y3, y4⟩; exact ⟨y1, y2, by omega⟩
        · rintro ⟨y1, y2, y3⟩; exact ⟨y1, y2, z, by omega⟩
      · rw [holP, ea, eb]
        constructor
        · rintro ⟨y1, y2, y3, y4⟩; exact absurd (e1.mp y3) z
        · rintro ⟨y1, y2, y3⟩; omega
    · exact ⟨fun z => absurd z.2.1 hn, fun z => absurd z.2.1 hn⟩
  · exact ⟨fun z => absurd z.1 hi, fun z => absurd z.1 hi⟩
theorem hol_lg {i n si : Int32} {c : Nat} (e : si = nI c) (hc : c ≤ 48) (hi : ¬ i < 0) (hn : ¬ n < 0) : lg_cmp (i.toInt64 + n.toInt64) si.toInt64 ≤ 0 ↔ holP c i n := by
  obtain ⟨a, ha, rfl⟩ := nI_of hi
  obtain ⟨b, hb, rfl⟩ := nI_of hn
  have ea : sN (nI a) = a := nI_clamp ha
  have eb : sN (nI b) = b := nI_clamp hb
  rw [e, nI_l ha, nI_l hb, nI_l (by omega), lN_add, lg_cmp_le, Int64.le_iff_toInt_le, lN, lN, lg_ofNat_toInt (by omega), lg_ofNat_toInt (by omega), holP, ea, eb]
  constructor
  · intro z; exact ⟨Int32.not_lt.mp hi, Int32.not_lt.mp hn, by omega⟩
  · rintro ⟨_, _, z⟩; omega
section Sht5
variable {Γ : GX} {h : Hp} {sz : Nat} {d : DT}
theorem c_write (s : Int32) (hX : XW h sz d) (hd : okD d) : Rn Γ mX9_write [.ref 4, .int s] h sz (qW h sz (dWrite d s) (aWrite d s)) := by
  refine x_enter 4 (by decide) rfl ?_
  obtain ⟨hA, hK, hR, hD⟩ := id hX
  obtain ⟨ss, h4⟩ := hK.w4
  have hP8 : d_N d ≤ 8 := (pN_ok hd.1.2.1).1
  obtain ⟨ow, pr, od, kd, sp, ins, a1, ⟨a10, -⟩, ⟨a17, -⟩, -⟩ := id hA
  have J10 : cS s → Ex Γ mX9_write (gx_Z Γ mX9_write (qW h sz (dWrite d s) (aWrite d s))) 0 0 10 [.ref 4, .int s, .retAddr 0, .retAddr 0, .retAddr 0, .retAddr 0] [] h sz := by
    intro hc
    obtain ⟨k, hk, rfl⟩ := upto (n := 3) hc.1 hc.2 (by omega)
    obtain ⟨a48, a49, a50⟩ := hA.sh (s := k) (by omega)
    have ok4 := hd.2.2.2 k (by omega)
    have es : sN (nI k) = k := nI_clamp (by omega)
    rw [dWrite, aWrite, if_pos hc, if_pos hc, es]
    have hw : wrN d k ≤ 8 ∧ wrN d k ≤ 48 ∧ wrN d k ≤ d_N d := by rw [wrN]; omega
    have J30 : Ex Γ mX9_write (gx_Z Γ mX9_write (qW h sz (dSx d k (d_fo d k) (nI (cN (d_si d) k)) (filG (d_it d k) (wrF d k) (wrN d k))) (nI (wrN d k)))) 0 0 30 [.ref 4, .int (nI k), .ref (49 + 2 * k), .retAddr 0, .retAddr 0, .retAddr 0] [] h sz := by
      refine x_aload dX9_write_30 rfl ?_
      refine x_get fX9_154 dX9_write_31 (by first | assumption | rfl | exact up_same | exact (up_ne (by omega)).trans (by assumption) | exact (up_ne (by assumption)).trans (by assumption)) ?_
      refine x_aload dX9_write_34 rfl ?_
      refine x_get fX9_21 dX9_write_35 (by first | assumption | rfl | exact up_same | exact (up_ne (by omega)).trans (by assumption) | exact (up_ne (by assumption)).trans (by assumption)) ?_
      refine x_get fX9_200 dX9_write_38 (by first | assumption | rfl | exact up_same | exact (up_ne (by omega)).trans (by assumption) | exact (up_ne (by assumption)).trans (by assumption)) ?_
      refine x_mmin lmX9_237 ms_min mi_math mc_min ⟨(Nat.le_of_ble_eq_true rfl), (Nat.le_of_ble_eq_true rfl)⟩ (Nat.le_of_ble_eq_true rfl) (Nat.le_of_ble_eq_true rfl) (Nat.le_of_ble_eq_true rfl) dX9_write_41 ?_
      rw [ok4.2.1, mmin_nI (by omega) (by omega)]
      rw [show min (cN (d_si d) k) (d_N d) = wrN d k from rfl]
      refine x_istore dX9_write_44 (Nat.le_of_ble_eq_true rfl) rfl ?_
      refine x_aload dX9_write_45 rfl ?_
      refine x_aload dX9_write_46 rfl ?_
      refine x_get fX9_28 dX9_write_47 (by first | assumption | rfl | exact up_same | exact (up_ne (by omega)).trans (by assumption) | exact (up_ne (by assumption)).trans (by assumption)) ?_
      refine x_get fX9_143 dX9_write_50 (by first | assumption | rfl | exact up_same | exact (up_ne (by omega)).trans (by assumption) | exact (up_ne (by assumption)).trans (by assumption)) ?_
      refine x_V1q lX9_162 (Rm.of rfl) (cc1 := 0) (cn1 := 0) rfl rfl (Nat.le_of_ble_eq_true rfl) dX9_write_53 (by first | assumption | rfl | exact up_same | exact (up_ne (by omega)).trans (by assumption) | exact (up_ne (by assumption)).trans (by assumption)) (x_behind hA hK hd (Nat.le_refl _)) ?_
      rintro _ h2 _ ⟨rfl, rfl, hA2, hK2, hF2, f, g, kf, tf, hs, s20, s21, s22, s23, s24⟩
      refine x_astore dX9_write_56 (Nat.le_of_ble_eq_true rfl) rfl ?_
      refine x_k dX9_write_58 ?_
      refine x_istore dX9_write_59 (Nat.le_of_ble_eq_true rfl) rfl ?_
      have b49 : h2 (49 + 2 * k) = cSh (50 + 2 * k) (d_fo d k) (d_si d k) := (hF2 _ (by omega) (by omega)).trans a49
      have b50 : h2 (50 + 2 * k) = ia 48 (d_it d k) := (hF2 _ (by omega) (by omega)).trans a50
      refine x_eq rfl rfl (show h2 = va_up h2 (50 + 2 * k) (ia 48 (filG (d_it d k) (wrF d k) 0)) by rw [filG_0, up_id b50]) (loopUp (P := fun p => Ex Γ mX9_write _ 0 0 61 [.ref 4, .int (nI k), .ref (49 + 2 * k), .int (nI (wrN d k)), .ref 20, .int (nI p)] [] (va_up h2 (50 + 2 * k) (ia 48 (filG (d_it d k) (wrF d k) p))) sz) (wrN d k) ?_ (fun p hp ih => ?_) 0 (Nat.zero_le _))
      · refine x_iload dX9_write_61 rfl ?_
        refine x_iload dX9_write_63 rfl ?_
        refine x_icmp_ge dX9_write_64 (fun b64 => ?_) (fun b64 => ?_)
        · refine x_iload dX9_write_87 rfl ?_
          refine x_iret (ty := .int) dX9_write_88 rfl rfl (Nat.zero_le _) (Nat.zero_le _) ?_
          refine ⟨rfl, Nat.le_refl _, XW.sht (h := h2) ⟨hA2, hK2, hR.frS hF2, hD.frS hF2⟩ (by omega) (fun j j1 j2 => up_ne j2) ((up_ne (by omega)).trans ?_) up_same, fun j hj => (up_ne (by omega)).trans (hF2 j (by omega) (by omega))⟩
          rw [← ok4.2.1]; exact b49
        · exact absurd (Int32.le_refl _) b64
      · refine x_iload dX9_write_61 rfl ?_
        refine x_iload dX9_write_63 rfl ?_
        refine x_icmp_ge dX9_write_64 (fun b64 => ?_) (fun b64 => ?_)
        · exact absurd b64 (nI_ge hp (by omega))
        · refine x_aload dX9_write_67 rfl ?_
          refine x_iload dX9_write_68 rfl ?_
          refine x_aload dX9_write_70 rfl ?_
          refine x_get fX9_167 dX9_write_72 (by first | assumption | rfl | exact up_same | exact (up_ne (by omega)).trans (by assumption) | exact (up_ne (by assumption)).trans (by assumption)) ?_
          refine x_iload dX9_write_75 rfl ?_
          refine x_ialdn dX9_write_77 (by first | assumption | rfl | exact up_same | exact (up_ne (by omega)).trans (by assumption) | exact (up_ne (by assumption)).trans (by assumption)) ⟨by first | omega | decide, by decide⟩ ?_
          refine x_V2v lX9_303 (Rm.of rfl) (cc1 := 0) (cn1 := 0) rfl rfl (Nat.le_of_ble_eq_true rfl) dX9_write_78 (by first | assumption | rfl | exact up_same | exact (up_ne (by omega)).trans (by assumption) | exact (up_ne (by assumption)).trans (by assumption)) (r_store (q := 49 + 2 * k) (b := 50 + 2 * k) (i := p) (v := kf p) (it := filG (d_it d k) (wrF d k) p) ((up_ne (by omega)).trans b49) up_same (by omega)) ?_
          refine x_inc1 dX9_write_81 rfl (Nat.le_of_ble_eq_true rfl) rfl ?_
          refine x_goto dX9_write_84 ?_
          rw [up_up, filG_id _ (wrF d k) p (by rw [wrF, (hs.2.2.1 p (by omega)).1])]
          exact ih
    refine x_aload dX9_write_10 rfl ?_
    refine x_get fX9_70 dX9_write_11 (by first | assumption | rfl | exact up_same | exact (up_ne (by omega)).trans (by assumption) | exact (up_ne (by assumption)).trans (by assumption)) ?_
    refine x_iload dX9_write_14 rfl ?_
    refine x_aaS (i := k) (q := 49 + 2 * k) dX9_write_15 a48 ⟨by omega, rfl⟩ ?_
    refine x_astore dX9_write_16 (Nat.le_of_ble_eq_true rfl) rfl ?_
    refine x_aload dX9_write_17 rfl ?_
    refine x_V0i lX9_147 (Rm.of rfl) (cc1 := 0) (cn1 := 0) rfl rfl (Nat.le_of_ble_eq_true rfl) dX9_write_18 (by first | assumption | rfl | exact up_same | exact (up_ne (by omega)).trans (by assumption) | exact (up_ne (by assumption)).trans (by assumption)) (r_isLost a49) ?_
    refine x_if_eq dX9_write_21 (fun b21 => ?_) (fun b21 => ?_)
    · try simp only [i01, Classical.not_not] at b21
      rw [if_neg b21, if_neg b21, ok4.2.1]; exact J30
    · try simp only [i01, Classical.not_not] at b21
      refine x_aload dX9_write_24 rfl ?_
      refine x_k dX9_write_25 ?_
      refine x_V1q lX9_151 (Rm.of rfl) (cc1 := 0) (cn1 := 0) rfl rfl (Nat.le_of_ble_eq_true rfl) dX9_write_26 (by first | assumption | rfl | exact up_same | exact (up_ne (by omega)).trans (by assumption) | exact (up_ne (by assumption)).trans (by assumption)) (c_found 1 hX) ?_
      rintro _ h2 _ hq
      have hq2 := hq
      obtain ⟨rfl, -⟩ := hq
      refine x_iret (ty := .int) dX9_write_29 rfl rfl (Nat.zero_le _) (Nat.zero_le _) ?_
      rw [if_pos b21, if_pos b21]; exact hq2
  refine x_iload dX9_write_0 rfl ?_
  refine x_S1i lX9_144 (Rm.of rfl) (cc1 := 0) (cn1 := 0) rfl rfl (Nat.le_of_ble_eq_true rfl) dX9_write_1 (r_noSheet s) ?_
  refine x_if_eq dX9_write_4 (fun b4 => ?_) (fun b4 => ?_)
  · try simp only [i01, Classical.not_not] at b4
    exact J10 (by simp only [cS, Int32.lt_iff_toInt_lt, Int32.le_iff_toInt_le, n0t, n2t, n3t, n4t, n48] at *; omega)
  · try simp only [i01, Classical.not_not] at b4
    refine x_k dX9_write_7 ?_
    refine x_iret (ty := .int) dX9_write_9 rfl rfl (Nat.zero_le _) (Nat.zero_le _) ?_
    have hc : ¬ cS s := by simp only [cS, Int32.lt_iff_toInt_lt, Int32.le_iff_toInt_le, n0t, n2t, n3t, n4t, n48] at *; omega
    rw [dWrite, aWrite, if_neg hc, if_neg hc]
    exact ⟨rfl, Nat.le_refl _, hX, fun _ _ => rfl⟩
theorem m_write (s : Int32) (hM : MW h d) (hd : okD d) : Rn Γ mX10_write [.ref 57, .int s] h sz (qM h sz (dWrite d s) (aWrite d s)) := by
  refine x_enter 1 (by decide) rfl ?_
  obtain ⟨hs, pe, ll, th, fr, it, mv, a57, a80, a81, a82, a83, a84, am⟩ := hM.shs
  have hP8 : d_N d ≤ 8 := (pN_ok hd.1.2.1).1
  have J10 : cS s → Ex Γ mX10_write (gx_Z Γ mX10_write (qM h sz (dWrite d s) (aWrite d s))) 0 0 10 [.ref 57, .int s, .retAddr 0] [] h sz := by
    intro hc
    obtain ⟨k, hk, rfl⟩ := upto (n := 3) hc.1 hc.2 (by omega)
    have ok4 := hd.2.2.2 k (by omega)
    have ek := am.1 k (by omega)
    have es : sN (nI k) = k := nI_clamp (by omega)
    rw [dWrite, aWrite, if_pos hc, if_pos hc, es]
    have hw : wrN d k ≤ cN (d_si d) k ∧ wrN d k ≤ 48 ∧ wrN d k ≤ d_N d ∧ (wrN d k = cN (d_si d) k ∨ wrN d k = d_N d) := by rw [wrN]; omega
    have J25 : d_fo d k ≠ -1 → Ex Γ mX10_write (gx_Z Γ mX10_write (qM h sz (dSx d k (d_fo d k) (nI (cN (d_si d) k)) (filG (d_it d k) (wrF d k) (wrN d k))) (nI (wrN d k)))) 0 0 25 [.ref 57, .int (nI k), .retAddr 0] [] h sz := by
      intro hz
      refine x_aload dX10_write_25 rfl ?_
      refine x_aload dX10_write_26 rfl ?_
      refine x_get fX10_137 dX10_write_27 (by first | assumption | rfl | exact up_same | exact (up_ne (by omega)).trans (by assumption) | exact (up_ne (by assumption)).trans (by assumption)) ?_
      refine x_V1q lX10_166 (Rm.of rfl) (cc1 := 0) (cn1 := 0) rfl rfl (Nat.le_of_ble_eq_true rfl) dX10_write_30 (by first | assumption | rfl | exact up_same | exact (up_ne (by omega)).trans (by assumption) | exact (up_ne (by assumption)).trans (by assumption)) (m_lays hM hd (Nat.le_refl _)) ?_
      rintro _ h2 _ ⟨rfl, rfl, hM2, hR2, hF2, l2, os, kp, tm, s57, s68, s69, s70, hkk, -⟩
      refine x_k dX10_write_33 ?_
      refine x_istore dX10_write_34 (Nat.le_of_ble_eq_true rfl) rfl ?_
      obtain ⟨_, _, _, th, fr, it, mv, -, a80, a81, a82, a83, a84, am⟩ := hM2.shs
      have ek := am.1 k (by omega)
      have J71 : Ex Γ mX10_write (gx_Z Γ mX10_write (qM h sz (dSx d k (d_fo d k) (nI (cN (d_si d) k)) (filG (d_it d k) (wrF d k) (wrN d k))) (nI (wrN d k)))) 0 0 71 [.ref 57, .int (nI k), .int (nI (wrN d k))] [] (va_up h2 83 (ia 192 (blkG it (48 * k) (wrF d k) (wrN d k)))) sz := by
        refine x_iload dX10_write_71 rfl ?_
        refine x_iret (ty := .int) dX10_write_72 rfl rfl (Nat.zero_le _) (Nat.zero_le _) ?_
        refine ⟨rfl, rfl, hM2.put (g := (upd (d_fo d) k (d_fo d k), upd (d_si d) k (nI (cN (d_si d) k)), fun t => if t = k then filG (d_it d k) (wrF d k) (wrN d k) else d_it d t)) (fun j j1 j2 => by simp only [va_up]; (repeat' split) <;> first | rfl | omega) s57 a80 a81 (by rw [up_ne (by decide), a82, ← ok4.2.1]; congr 4; funext j; simp only [upd]; split; (rename_i z; rw [z]); rfl) rfl a84 (am.to (s := k) (fun t ht e => ⟨rfl, rfl⟩) ek.1 ek.2 (fun t ht e i hi => if_neg (by omega)) (fun i hi => ?_)), fun j hj => (up_ne (by omega)).trans (hF2 j hj)⟩
        simp only [blkG, filG]
        by_cases e : i < wrN d k
        · rw [if_pos (by omega), if_pos e, Nat.add_sub_cancel_left]
        · rw [if_neg (by omega), if_neg e]; exact am.2 k (by omega) i hi
      refine x_eq rfl rfl (show h2 = va_up h2 83 (ia 192 (blkG it (48 * k) (wrF d k) 0)) by rw [blkG_0, up_id a83]) (loopUp (P := fun p => Ex Γ mX10_write _ 0 0 35 [.ref 57, .int (nI k), .int (nI p)] [] (va_up h2 83 (ia 192 (blkG it (48 * k) (wrF d k) p))) sz) (wrN d k) ?_ (fun p hp ih => ?_) 0 (Nat.zero_le _))
      · have e1 : nI (cN (d_si d) k) ≤ nI (wrN d k) ↔ cN (d_si d) k ≤ wrN d k := nI_leI (by omega) (by omega)
        have e2 : nI (d_N d) ≤ nI (wrN d k) ↔ d_N d ≤ wrN d k := nI_leI (by omega) (by omega)
        refine x_iload dX10_write_35 rfl ?_
        refine x_aload dX10_write_36 rfl ?_
        refine x_get fX10_83 dX10_write_37 (by first | assumption | rfl | exact up_same | exact (up_ne (by omega)).trans (by assumption) | exact (up_ne (by assumption)).trans (by assumption)) ?_
        refine x_iload dX10_write_40 rfl ?_
        refine x_ialdn dX10_write_41 (by first | assumption | rfl | exact up_same | exact (up_ne (by omega)).trans (by assumption) | exact (up_ne (by assumption)).trans (by assumption)) ⟨by first | omega | decide, by decide⟩ ?_
        rw [ok4.2.1]
        refine x_icmp_ge dX10_write_42 (fun b42 => ?_) (fun b42 => ?_)
        · exact J71
        · refine x_iload dX10_write_45 rfl ?_
          refine x_aload dX10_write_46 rfl ?_
          refine x_get fX10_104 dX10_write_47 (by first | assumption | rfl | exact up_same | exact (up_ne (by omega)).trans (by assumption) | exact (up_ne (by assumption)).trans (by assumption)) ?_
          refine x_icmp_ge dX10_write_50 (fun b50 => ?_) (fun b50 => ?_)
          · exact J71
          · exact (hw.2.2.2.elim (fun e => b42 (e1.mpr (by omega))) (fun e => b50 (e2.mpr (by omega)))).elim
      · refine x_iload dX10_write_35 rfl ?_
        refine x_aload dX10_write_36 rfl ?_
        refine x_get fX10_83 dX10_write_37 (by first | assumption | rfl | exact up_same | exact (up_ne (by omega)).trans (by assumption) | exact (up_ne (by assumption)).trans (by assumption)) ?_
        refine x_iload dX10_write_40 rfl ?_
        refine x_ialdn dX10_write_41 (by first | assumption | rfl | exact up_same | exact (up_ne (by omega)).trans (by assumption) | exact (up_ne (by assumption)).trans (by assumption)) ⟨by first | omega | decide, by decide⟩ ?_
        rw [ok4.2.1]
        refine x_icmp_ge dX10_write_42 (fun b42 => ?_) (fun b42 => ?_)
        · exact absurd b42 (nI_ge (by omega) (by omega))
        · refine x_iload dX10_write_45 rfl ?_
          refine x_aload dX10_write_46 rfl ?_
          refine x_get fX10_104 dX10_write_47 (by first | assumption | rfl | exact up_same | exact (up_ne (by omega)).trans (by assumption) | exact (up_ne (by assumption)).trans (by assumption)) ?_
          refine x_icmp_ge dX10_write_50 (fun b50 => ?_) (fun b50 => ?_)
          · exact absurd b50 (nI_ge (by omega) (by omega))
          · refine x_aload dX10_write_53 rfl ?_
            refine x_iload dX10_write_54 rfl ?_
            refine x_iload dX10_write_55 rfl ?_
            refine x_aload dX10_write_56 rfl ?_
            refine x_get fX10_43 dX10_write_57 (by first | assumption | rfl | exact up_same | exact (up_ne (by omega)).trans (by assumption) | exact (up_ne (by assumption)).trans (by assumption)) ?_
            refine x_iload dX10_write_60 rfl ?_
            refine x_ialdn dX10_write_61 (by first | assumption | rfl | exact up_same | exact (up_ne (by omega)).trans (by assumption) | exact (up_ne (by assumption)).trans (by assumption)) ⟨by first | omega | decide, by decide⟩ ?_
            refine x_V3v lX10_248 (Rm.of rfl) (cc1 := 0) (cn1 := 0) rfl rfl (Nat.le_of_ble_eq_true rfl) dX10_write_62 (by first | assumption | rfl | exact up_same | exact (up_ne (by omega)).trans (by assumption) | exact (up_ne (by assumption)).trans (by assumption)) (r_keepS (s := k) (i := p) (kp p) s57 a81 rfl (by omega) (by omega)) ?_
            refine x_inc1 dX10_write_65 rfl (Nat.le_of_ble_eq_true rfl) rfl ?_
            refine x_goto dX10_write_68 ?_
            rw [up_up, blkG_s _ _ (wrF d k) p (by rw [wrF, (hkk.2.1 p (by omega)).1, ek.2 hz])]
            exact ih
    refine x_aload dX10_write_10 rfl ?_
    refine x_get fX10_76 dX10_write_11 (by first | assumption | rfl | exact up_same | exact (up_ne (by omega)).trans (by assumption) | exact (up_ne (by assumption)).trans (by assumption)) ?_
    refine x_iload dX10_write_14 rfl ?_
    refine x_zaldn dX10_write_15 (by first | assumption | rfl | exact up_same | exact (up_ne (by omega)).trans (by assumption) | exact (up_ne (by assumption)).trans (by assumption)) ⟨by first | omega | decide, by decide⟩ ?_
    refine x_if_ne dX10_write_16 (fun b16 => ?_) (fun b16 => ?_)
    · have hz : ¬ d_fo d k = -1 := fun z => by rw [ek.1, if_pos z] at b16; exact b16 rfl
      rw [if_neg hz, if_neg hz]
      rw [ok4.2.1]; exact J25 hz
    · refine x_aload dX10_write_19 rfl ?_
      refine x_k dX10_write_20 ?_
      refine x_V1q lX10_146 (Rm.of rfl) (cc1 := 0) (cn1 := 0) rfl rfl (Nat.le_of_ble_eq_true rfl) dX10_write_21 (by first | assumption | rfl | exact up_same | exact (up_ne (by omega)).trans (by assumption) | exact (up_ne (by assumption)).trans (by assumption)) (m_meets 1 hM) ?_
      rintro _ h2 _ hq
      have hq2 := hq
      obtain ⟨rfl, -⟩ := hq
      refine x_iret (ty := .int) dX10_write_24 rfl rfl (Nat.zero_le _) (Nat.zero_le _) ?_
      have hz : d_fo d k = -1 := Classical.byContradiction (fun z => b16 (by rw [ek.1, if_neg z]; decide))
      rw [if_pos hz, if_pos hz]; exact hq2
  refine x_iload dX10_write_0 rfl ?_
  refine x_S1i lX10_143 (Rm.of rfl) (cc1 := 0) (cn1 := 0) rfl rfl (Nat.le_of_ble_eq_true rfl) dX10_write_1 (r_isSheet s) ?_
  refine x_if_ne dX10_write_4 (fun b4 => ?_) (fun b4 => ?_)
  · try simp only [i01, Classical.not_not] at b4
    exact J10 b4
  · try simp only [i01, Classical.not_not] at b4
    refine x_k dX10_write_7 ?_
    refine x_iret (ty := .int) dX10_write_9 rfl rfl (Nat.zero_le _) (Nat.zero_le _) ?_
    rw [dWrite, aWrite, if_neg b4, if_neg b4]
    exact ⟨rfl, rfl, hM, fun _ _ => rfl⟩
theorem ok_same {s : Nat} (it : Nat → Int32) (hd : okD d) (hs : s < 4) : okD (dSx d s (d_fo d s) (d_si d s) it) := by
  rw [(hd.2.2.2 s hs).2.1]
  exact ok_sx _ hd (hd.2.2.2 s hs).1 (hd.2.2.2 s hs).2.2
theorem sN_lt {s : Int32} (hc : cS s) : sN s < 4 := by
  obtain ⟨k, hk, rfl⟩ := upto (n := 3) hc.1 hc.2 (by omega)
  rw [sN, nI_clamp (by omega)]; omega
theorem ok_write (s : Int32) (hd : okD d) : okD (dWrite d s) := by
  rw [dWrite]
  by_cases hc : cS s
  · rw [if_pos hc]
    by_cases hf : d_fo d (sN s) = -1
    · rw [if_pos hf]; exact ok_fi _ hd
    · rw [if_neg hf]; exact ok_same _ hd (sN_lt hc)
  · rw [if_neg hc]; exact hd
theorem ok_copy (s i t j n : Int32) (hd : okD d) : okD (dCopy d s i t j n) := by
  rw [dCopy]
  by_cases hc : cS s ∧ cS t
  · rw [if_pos hc]
    by_cases hf : d_fo d (sN s) = -1 ∨ d_fo d (sN t) = -1
    · rw [if_pos hf]; exact ok_fi _ hd
    · rw [if_neg hf]
      by_cases hg : d_fo d (sN s) = d_fo d (sN t)
      · rw [if_pos hg]
        by_cases hh : holD d (sN s) (sN t) i j n
        · rw [if_pos hh]; exact ok_same _ hd (sN_lt hc.2)
        · rw [if_neg hh]; exact ok_fi _ hd
      · rw [if_neg hg]; exact ok_fi _ hd
  · rw [if_neg hc]; exact hd
end Sht5
