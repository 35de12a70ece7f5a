/-! read, write -/
def rdD (d : DT) (s : Nat) : Nat → DT
  | 0 => d
  | n + 1 => dSale (rdD d s n) (d_it d s (2 * n)) (d_it d s (2 * n + 1))
def rdB (d : DT) (s n : Nat) : Bool := decide (¬ (2 * n + 1 < cN (d_si d) s ∧ 0 < aSale (rdD d s n) (d_it d s (2 * n)) (d_it d s (2 * n + 1))))
def rdK (d : DT) (s : Nat) : Nat := fst1 (rdB d s) 25
def aRead (d : DT) (s : Int32) : Int32 := if cS s then (if d_fo d (sN s) = -1 then -11 else nI (rdK d (sN s))) else -2
def dRead (d : DT) (s : Int32) : DT := if cS s then (if d_fo d (sN s) = -1 then dFi d 1 else rdD d (sN s) (rdK d (sN s))) else d
theorem dSale_sh (d : DT) (a b : Int32) : (dSale d a b).2.2 = d.2.2 := by
  rw [dSale]; (repeat' split) <;> rfl
theorem rdD_sh (d : DT) (s : Nat) : ∀ n, (rdD d s n).2.2 = d.2.2
  | 0 => rfl
  | n + 1 => by rw [rdD, dSale_sh, rdD_sh d s n]
theorem rdD_ok {d : DT} (hd : okD d) (s : Nat) : ∀ n, okD (rdD d s n)
  | 0 => hd
  | n + 1 => ok_sale _ _ (rdD_ok hd s n)
theorem aSale_np {d : DT} {a b : Int32} (hd : okD d) (e : ¬ 0 < aSale d a b) : aSale d a b < 0 ∧ dSale d a b = d := by
  have hns := hd.2.1.2.1
  rw [aSale] at e ⊢
  rw [dSale]
  split
  · rename_i z; rw [if_pos z] at e
    split
    · rename_i y; rw [if_pos y] at e
      exact absurd (nI_lt (a := 0) (b := d_ns d + 1) (by omega) (by omega)) e
    · exact ⟨by decide, rfl⟩
  · exact ⟨by decide, rfl⟩
theorem ix2' (n : Nat) : 2 * nI n = nI (2 * n) := by rw [show (2 : Int32) = nI 2 from rfl, pk_mul]
theorem rdK_at {d : DT} {s n : Nat} (h0 : ∀ i, i < n → rdB d s i = false) (h1 : rdB d s n = true) (hn : n ≤ 24) : rdK d s = n := fst1_at (by omega) h0 h1
section Sht4
variable {Γ : GX} {h : Hp} {sz : Nat} {d : DT}
theorem rd_lt {s : Nat} (hd : okD d) (hs : s < 4) {n : Nat} (e : 2 * n + 1 < cN (d_si d) s) : n < 24 := by
  have := (hd.2.2.2 s hs).2.2
  omega
theorem c_read (s : Int32) (hX : XW h sz d) (hd : okD d) : Rn Γ mX9_read [.ref 4, .int s] h sz (qW h sz (dRead d s) (aRead d s)) := by
  refine x_enter 3 (by decide) rfl ?_
  obtain ⟨ss, h4⟩ := hX.2.1.w4
  have J10 : cS s → Ex Γ mX9_read (gx_Z Γ mX9_read (qW h sz (dRead d s) (aRead d s))) 0 0 10 [.ref 4, .int s, .retAddr 0, .retAddr 0, .retAddr 0] [] h sz := by
    intro hc
    obtain ⟨k, hk, rfl⟩ := upto (n := 3) hc.1 hc.2 (by omega)
    obtain ⟨a48, a49, a50⟩ := hX.1.sh (s := k) (by omega)
    have ok4 := hd.2.2.2 k (by omega)
    rw [dRead, aRead, if_pos hc, if_pos hc, sN, nI_clamp (by omega)]
    have J81 : ∀ n (h' : Hp) (sz' : Nat) (v : Value), rdK d k = n → sz ≤ sz' → XW h' sz' (rdD d k n) → frX h h' → Ex Γ mX9_read (gx_Z Γ mX9_read (qW h sz (rdD d k (rdK d k)) (nI (rdK d k)))) 0 0 81 [.ref 4, .int (nI k), .ref (49 + 2 * k), .int (nI n), v] [] h' sz' := by
      intro n h' sz' v en hz hX' hF
      rw [en]
      refine x_iload dX9_read_81 rfl ?_
      refine x_iret (ty := .int) dX9_read_82 rfl rfl (Nat.zero_le _) (Nat.zero_le _) ?_
      exact ⟨rfl, hz, hX', hF⟩
    have J35 : Ex Γ mX9_read (gx_Z Γ mX9_read (qW h sz (rdD d k (rdK d k)) (nI (rdK d k)))) 0 0 35 [.ref 4, .int (nI k), .ref (49 + 2 * k), .int (nI 0), .int (nI (2 * 0))] [] h sz := by
      have step : ∀ n, n ≤ 24 → (∀ i, i < n → rdB d k i = false) → ((∀ i, i < n + 1 → rdB d k i = false) → n + 1 ≤ 24 → ∀ (h' : Hp) (sz' : Nat), sz ≤ sz' → XW h' sz' (rdD d k (n + 1)) → frX h h' → Ex Γ mX9_read (gx_Z Γ mX9_read (qW h sz (rdD d k (rdK d k)) (nI (rdK d k)))) 0 0 35 [.ref 4, .int (nI k), .ref (49 + 2 * k), .int (nI (n + 1)), .int (nI (2 * n + 2))] [] h' sz') → ∀ (h' : Hp) (sz' : Nat), sz ≤ sz' → XW h' sz' (rdD d k n) → frX h h' → Ex Γ mX9_read (gx_Z Γ mX9_read (qW h sz (rdD d k (rdK d k)) (nI (rdK d k)))) 0 0 35 [.ref 4, .int (nI k), .ref (49 + 2 * k), .int (nI n), .int (nI (2 * n))] [] h' sz' := by
        intro n hn h0 ih h' sz' hz hX' hF
        have e22 := rdD_sh d k n
        obtain ⟨b48, b49, b50⟩ := hX'.1.sh (s := k) (by omega)
        have e1 : d_fo (rdD d k n) k = d_fo d k := congrArg (fun x => x.2.2.1.1 k) e22
        have e2 : d_si (rdD d k n) k = d_si d k := congrArg (fun x => x.2.2.1.2.1 k) e22
        have e3 : d_it (rdD d k n) k = d_it d k := congrArg (fun x => x.2.2.1.2.2 k) e22
        rw [e1, e2, ok4.2.1] at b49
        rw [e3] at b50
        obtain ⟨ss', h4'⟩ := hX'.2.1.w4
        have el : nI (cN (d_si d) k) ≤ nI (2 * n + 1) ↔ cN (d_si d) k ≤ 2 * n + 1 := nI_leI (by omega) (by omega)
        refine x_iload dX9_read_35 rfl ?_
        refine x_k dX9_read_37 ?_
        refine x_iadd dX9_read_38 ?_
        rw [nI_1]
        refine x_aload dX9_read_39 rfl ?_
        refine x_get fX9_154 dX9_read_40 (by first | assumption | rfl | exact up_same | exact (up_ne (by omega)).trans (by assumption) | exact (up_ne (by assumption)).trans (by assumption)) ?_
        refine x_icmp_ge dX9_read_43 (fun b43 => ?_) (fun b43 => ?_)
        · refine J81 n _ _ _ (rdK_at h0 (decide_eq_true (fun z => absurd z.1 (Nat.not_lt.mpr (el.mp b43)))) hn) hz hX' hF
        · refine x_aload dX9_read_46 rfl ?_
          refine x_aload dX9_read_47 rfl ?_
          refine x_get fX9_155 dX9_read_48 (by first | assumption | rfl | exact up_same | exact (up_ne (by omega)).trans (by assumption) | exact (up_ne (by assumption)).trans (by assumption)) ?_
          refine x_iload dX9_read_51 rfl ?_
          have hlt : 2 * n + 1 < cN (d_si d) k := Nat.not_le.mp (fun z => b43 (el.mpr z))
          have hn24 := rd_lt hd (by omega) hlt
          refine x_ialdn dX9_read_53 (by first | assumption | rfl | exact up_same | exact (up_ne (by omega)).trans (by assumption) | exact (up_ne (by assumption)).trans (by assumption)) ⟨by first | omega | decide, by decide⟩ ?_
          refine x_aload dX9_read_54 rfl ?_
          refine x_get fX9_155 dX9_read_55 (by first | assumption | rfl | exact up_same | exact (up_ne (by omega)).trans (by assumption) | exact (up_ne (by assumption)).trans (by assumption)) ?_
          refine x_iload dX9_read_58 rfl ?_
          refine x_k dX9_read_60 ?_
          refine x_iadd dX9_read_61 ?_
          rw [nI_1]
          refine x_ialdn dX9_read_62 (by first | assumption | rfl | exact up_same | exact (up_ne (by omega)).trans (by assumption) | exact (up_ne (by assumption)).trans (by assumption)) ⟨by first | omega | decide, by decide⟩ ?_
          refine x_V2q lX9_158 (Rm.of rfl) (cc1 := 0) (cn1 := 0) rfl rfl (Nat.le_of_ble_eq_true rfl) dX9_read_63 (by first | assumption | rfl | exact up_same | exact (up_ne (by omega)).trans (by assumption) | exact (up_ne (by assumption)).trans (by assumption)) (c_sale (d_it d k (2 * n)) (d_it d k (2 * n + 1)) hX' (rdD_ok hd k n)) ?_
          rintro _ h2 sz2 ⟨rfl, hz2, hX2, hF2⟩
          refine x_if_ge dX9_read_66 (fun b66 => ?_) (fun b66 => ?_)
          · have hp : 0 < aSale (rdD d k n) (d_it d k (2 * n)) (d_it d k (2 * n + 1)) := Classical.byContradiction (fun z => Int32.not_le.mpr (aSale_np (rdD_ok hd k n) z).1 b66)
            refine x_inc1 dX9_read_72 rfl (Nat.le_of_ble_eq_true rfl) rfl ?_
            refine x_incn (m := 2) dX9_read_75 rfl (Nat.le_of_ble_eq_true rfl) rfl ?_
            refine x_goto dX9_read_78 ?_
            refine ih (fun i hi => ?_) (by omega) _ _ (Nat.le_trans hz hz2) hX2 (hF.trans hF2)
            by_cases e : i = n
            · subst e; exact decide_eq_false (fun z => z ⟨hlt, hp⟩)
            · exact h0 i (by omega)
          · have hnp := aSale_np (rdD_ok hd k n) (fun z => b66 (Int32.le_of_lt z))
            rw [hnp.2] at hX2
            refine x_goto dX9_read_69 ?_
            refine J81 n _ _ _ (rdK_at h0 (decide_eq_true (fun z => b66 (Int32.le_of_lt z.2))) hn) (Nat.le_trans hz hz2) hX2 (hF.trans hF2)
      have all : ∀ n, n ≤ 24 → (∀ i, i < n → rdB d k i = false) → ∀ (h' : Hp) (sz' : Nat), sz ≤ sz' → XW h' sz' (rdD d k n) → frX h h' → Ex Γ mX9_read (gx_Z Γ mX9_read (qW h sz (rdD d k (rdK d k)) (nI (rdK d k)))) 0 0 35 [.ref 4, .int (nI k), .ref (49 + 2 * k), .int (nI n), .int (nI (2 * n))] [] h' sz' := by
        refine loopUp 24 (fun h0 => step 24 (by omega) h0 (fun _ z => absurd z (by omega))) (fun n hn ih h0 => step n (by omega) h0 (fun z1 z2 => ih z1))
      exact all 0 (by omega) (fun i hi => absurd hi (by omega)) h sz (Nat.le_refl _) hX (fun _ _ => rfl)
    refine x_aload dX9_read_10 rfl ?_
    refine x_get fX9_70 dX9_read_11 (by first | assumption | rfl | exact up_same | exact (up_ne (by omega)).trans (by assumption) | exact (up_ne (by assumption)).trans (by assumption)) ?_
    refine x_iload dX9_read_14 rfl ?_
    refine x_aaS (i := k) (q := 49 + 2 * k) dX9_read_15 a48 ⟨by omega, rfl⟩ ?_
    refine x_astore dX9_read_16 (Nat.le_of_ble_eq_true rfl) rfl ?_
    refine x_aload dX9_read_17 rfl ?_
    refine x_V0i lX9_147 (Rm.of rfl) (cc1 := 0) (cn1 := 0) rfl rfl (Nat.le_of_ble_eq_true rfl) dX9_read_18 (by first | assumption | rfl | exact up_same | exact (up_ne (by omega)).trans (by assumption) | exact (up_ne (by assumption)).trans (by assumption)) (r_isLost a49) ?_
    refine x_if_eq dX9_read_21 (fun b21 => ?_) (fun b21 => ?_)
    · try simp only [i01, Classical.not_not] at b21
      refine x_k dX9_read_30 ?_
      refine x_istore dX9_read_31 (Nat.le_of_ble_eq_true rfl) rfl ?_
      refine x_k dX9_read_32 ?_
      refine x_istore dX9_read_33 (Nat.le_of_ble_eq_true rfl) rfl ?_
      rw [if_neg b21, if_neg b21]; exact J35
    · try simp only [i01, Classical.not_not] at b21
      refine x_aload dX9_read_24 rfl ?_
      refine x_k dX9_read_25 ?_
      refine x_V1q lX9_151 (Rm.of rfl) (cc1 := 0) (cn1 := 0) rfl rfl (Nat.le_of_ble_eq_true rfl) dX9_read_26 (by first | assumption | rfl | exact up_same | exact (up_ne (by omega)).trans (by assumption) | exact (up_ne (by assumption)).trans (by assumption)) (c_found 1 hX) ?_
      rintro _ h2 _ hq
      have hq2 := hq
      obtain ⟨rfl, -⟩ := hq
      refine x_iret (ty := .int) dX9_read_29 rfl rfl (Nat.zero_le _) (Nat.zero_le _) ?_
      rw [if_pos b21, if_pos b21]; exact hq2
  refine x_iload dX9_read_0 rfl ?_
  refine x_S1i lX9_144 (Rm.of rfl) (cc1 := 0) (cn1 := 0) rfl rfl (Nat.le_of_ble_eq_true rfl) dX9_read_1 (r_noSheet s) ?_
  refine x_if_eq dX9_read_4 (fun b4 => ?_) (fun b4 => ?_)
  · try simp only [i01, Classical.not_not] at b4
    exact J10 (by simp only [cS, Int32.lt_iff_toInt_lt, Int32.le_iff_toInt_le, n0t, n2t, n3t, n4t, n48] at *; omega)
  · try simp only [i01, Classical.not_not] at b4
    refine x_k dX9_read_7 ?_
    refine x_iret (ty := .int) dX9_read_9 rfl rfl (Nat.zero_le _) (Nat.zero_le _) ?_
    have hc : ¬ cS s := by simp only [cS, Int32.lt_iff_toInt_lt, Int32.le_iff_toInt_le, n0t, n2t, n3t, n4t, n48] at *; omega
    rw [dRead, aRead, if_neg hc, if_neg hc]
    exact ⟨rfl, Nat.le_refl _, hX, fun _ _ => rfl⟩
theorem m_sale (a b : Int32) (hM : MW h d) (hd : okD d) : Rn Γ mX10_sale [.ref 57, .int a, .int b] h sz (qM h sz (dSale d a b) (aSale d a b)) := by
  refine x_enter 0 (by decide) rfl ?_
  obtain ⟨_, _, _, w57⟩ := hM.w57
  refine x_aload dX10_sale_0 rfl ?_
  refine x_iload dX10_sale_1 rfl ?_
  refine x_iload dX10_sale_2 rfl ?_
  refine x_V2q lX10_140 (Rm.of rfl) (cc1 := 0) (cn1 := 0) rfl rfl (Nat.le_of_ble_eq_true rfl) dX10_sale_3 (by first | assumption | rfl | exact up_same | exact (up_ne (by omega)).trans (by assumption) | exact (up_ne (by assumption)).trans (by assumption)) (m_saleMore a b hM hd) ?_
  rintro _ h2 _ hq
  have hq2 := hq
  obtain ⟨rfl, -⟩ := hq
  refine x_iret (ty := .int) dX10_sale_6 rfl rfl (Nat.zero_le _) (Nat.zero_le _) ?_
  exact hq2
theorem m_read (s : Int32) (hM : MW h d) (hd : okD d) : Rn Γ mX10_read [.ref 57, .int s] h sz (qM h sz (dRead d s) (aRead d s)) := by
  refine x_enter 1 (by decide) rfl ?_
  obtain ⟨hs, pe, ll, th, fr, it, mv, a57, a80, a81, a82, a83, a84, am⟩ := hM.shs
  have J10 : cS s → Ex Γ mX10_read (gx_Z Γ mX10_read (qM h sz (dRead d s) (aRead d s))) 0 0 10 [.ref 57, .int s, .retAddr 0] [] h sz := by
    intro hc
    obtain ⟨k, hk, rfl⟩ := upto (n := 3) hc.1 hc.2 (by omega)
    have ok4 := hd.2.2.2 k (by omega)
    have ek := am.1 k (by omega)
    rw [dRead, aRead, if_pos hc, if_pos hc, sN, nI_clamp (by omega)]
    have J82 : ∀ n (h' : Hp), rdK d k = n → MW h' (rdD d k n) → frM h h' → Ex Γ mX10_read (gx_Z Γ mX10_read (qM h sz (rdD d k (rdK d k)) (nI (rdK d k)))) 0 0 82 [.ref 57, .int (nI k), .int (nI n)] [] h' sz := by
      intro n h' en hM' hF
      rw [en]
      refine x_iload dX10_read_82 rfl ?_
      refine x_iret (ty := .int) dX10_read_83 rfl rfl (Nat.zero_le _) (Nat.zero_le _) ?_
      exact ⟨rfl, rfl, hM', hF⟩
    have step : ∀ n, n ≤ 24 → (∀ i, i < n → rdB d k i = false) → ((∀ i, i < n + 1 → rdB d k i = false) → n + 1 ≤ 24 → ∀ (h' : Hp), MW h' (rdD d k (n + 1)) → frM h h' → Ex Γ mX10_read (gx_Z Γ mX10_read (qM h sz (rdD d k (rdK d k)) (nI (rdK d k)))) 0 0 27 [.ref 57, .int (nI k), .int (nI (n + 1))] [] h' sz) → ∀ (h' : Hp), MW h' (rdD d k n) → frM h h' → Ex Γ mX10_read (gx_Z Γ mX10_read (qM h sz (rdD d k (rdK d k)) (nI (rdK d k)))) 0 0 27 [.ref 57, .int (nI k), .int (nI n)] [] h' sz := by
      intro n hn h0 ih h' hM' hF
      have e22 := rdD_sh d k n
      have e2 : d_si (rdD d k n) k = d_si d k := congrArg (fun x => x.2.2.1.2.1 k) e22
      have e3 : d_it (rdD d k n) k = d_it d k := congrArg (fun x => x.2.2.1.2.2 k) e22
      obtain ⟨hs, pe, ll, th, fr, it, mv, b57, b80, b81, b82, b83, b84, bm⟩ := hM'.shs
      have el : nI (cN (d_si d) k) ≤ nI (2 * n + 1) ↔ cN (d_si d) k ≤ 2 * n + 1 := nI_leI (by omega) (by omega)
      refine x_k dX10_read_27 ?_
      refine x_iload dX10_read_28 rfl ?_
      refine x_imul dX10_read_29 ?_
      rw [ix2']
      refine x_k dX10_read_30 ?_
      refine x_iadd dX10_read_31 ?_
      rw [nI_1]
      refine x_aload dX10_read_32 rfl ?_
      refine x_get fX10_83 dX10_read_33 (by first | assumption | rfl | exact up_same | exact (up_ne (by omega)).trans (by assumption) | exact (up_ne (by assumption)).trans (by assumption)) ?_
      refine x_iload dX10_read_36 rfl ?_
      refine x_ialdn dX10_read_37 (by first | assumption | rfl | exact up_same | exact (up_ne (by omega)).trans (by assumption) | exact (up_ne (by assumption)).trans (by assumption)) ⟨by first | omega | decide, by decide⟩ ?_
      rw [e2, ok4.2.1]
      refine x_icmp_ge dX10_read_38 (fun b38 => ?_) (fun b38 => ?_)
      · first
          | exact J82 n _ (rdK_at h0 (decide_eq_true (fun z => absurd z.1 (Nat.not_lt.mpr (el.mp b38)))) hn) hM' hF
          | (have hnp := aSale_np (rdD_ok hd k n) (fun z => Int32.not_le.mpr z b73)
             rw [hnp.2] at hM2
             exact J82 n _ (rdK_at h0 (decide_eq_true (fun z => Int32.not_le.mpr z.2 b73)) hn) hM2 (hF.trans hF2))
      · have hlt : 2 * n + 1 < cN (d_si d) k := Nat.not_le.mp (fun z => b38 (el.mpr z))
        have hn24 := rd_lt hd (by omega) hlt
        refine x_aload dX10_read_41 rfl ?_
        refine x_aload dX10_read_42 rfl ?_
        refine x_get fX10_86 dX10_read_43 (by first | assumption | rfl | exact up_same | exact (up_ne (by omega)).trans (by assumption) | exact (up_ne (by assumption)).trans (by assumption)) ?_
        refine x_k dX10_read_46 ?_
        refine x_iload dX10_read_48 rfl ?_
        refine x_imul dX10_read_49 ?_
        refine x_k dX10_read_50 ?_
        refine x_iload dX10_read_51 rfl ?_
        refine x_imul dX10_read_52 ?_
        rw [ix2']
        refine x_iadd dX10_read_53 ?_
        refine x_iald dX10_read_54 (by first | assumption | rfl | exact up_same | exact (up_ne (by omega)).trans (by assumption) | exact (up_ne (by assumption)).trans (by assumption)) (in48 (by omega) (by omega)) ?_
        rw [ix48, nI_clamp (by omega), bm.2 k (by omega) (2 * n) (by omega), e3]
        refine x_aload dX10_read_55 rfl ?_
        refine x_get fX10_86 dX10_read_56 (by first | assumption | rfl | exact up_same | exact (up_ne (by omega)).trans (by assumption) | exact (up_ne (by assumption)).trans (by assumption)) ?_
        refine x_k dX10_read_59 ?_
        refine x_iload dX10_read_61 rfl ?_
        refine x_imul dX10_read_62 ?_
        refine x_k dX10_read_63 ?_
        refine x_iload dX10_read_64 rfl ?_
        refine x_imul dX10_read_65 ?_
        rw [ix2']
        refine x_iadd dX10_read_66 ?_
        rw [ix48]
        refine x_k dX10_read_67 ?_
        refine x_iadd dX10_read_68 ?_
        rw [nI_1]
        refine x_ialdn dX10_read_69 (by first | assumption | rfl | exact up_same | exact (up_ne (by omega)).trans (by assumption) | exact (up_ne (by assumption)).trans (by assumption)) ⟨by first | omega | decide, by decide⟩ ?_
        rw [Nat.add_assoc, bm.2 k (by omega) (2 * n + 1) (by omega), e3]
        refine x_V2q lX10_140 (Rm.of rfl) (cc1 := 0) (cn1 := 0) rfl rfl (Nat.le_of_ble_eq_true rfl) dX10_read_70 (by first | assumption | rfl | exact up_same | exact (up_ne (by omega)).trans (by assumption) | exact (up_ne (by assumption)).trans (by assumption)) (m_saleMore (d_it d k (2 * n)) (d_it d k (2 * n + 1)) hM' (rdD_ok hd k n)) ?_
        rintro _ h2 _ ⟨rfl, rfl, hM2, hF2⟩
        refine x_if_le dX10_read_73 (fun b73 => ?_) (fun b73 => ?_)
        · first
            | exact J82 n _ (rdK_at h0 (decide_eq_true (fun z => absurd z.1 (Nat.not_lt.mpr (el.mp b38)))) hn) hM' hF
            | (have hnp := aSale_np (rdD_ok hd k n) (fun z => Int32.not_le.mpr z b73)
               rw [hnp.2] at hM2
               exact J82 n _ (rdK_at h0 (decide_eq_true (fun z => Int32.not_le.mpr z.2 b73)) hn) hM2 (hF.trans hF2))
        · have hp : 0 < aSale (rdD d k n) (d_it d k (2 * n)) (d_it d k (2 * n + 1)) := Int32.not_le.mp b73
          refine x_inc1 dX10_read_76 rfl (Nat.le_of_ble_eq_true rfl) rfl ?_
          refine x_goto dX10_read_79 ?_
          refine ih (fun i hi => ?_) (by omega) _ hM2 (hF.trans hF2)
          by_cases e : i = n
          · subst e; exact decide_eq_false (fun z => z ⟨hlt, hp⟩)
          · exact h0 i (by omega)
    have all : ∀ n, n ≤ 24 → (∀ i, i < n → rdB d k i = false) → ∀ (h' : Hp), MW h' (rdD d k n) → frM h h' → Ex Γ mX10_read (gx_Z Γ mX10_read (qM h sz (rdD d k (rdK d k)) (nI (rdK d k)))) 0 0 27 [.ref 57, .int (nI k), .int (nI n)] [] h' sz := by
      refine loopUp 24 (fun h0 => step 24 (by omega) h0 (fun _ z => absurd z (by omega))) (fun n hn ih h0 => step n (by omega) h0 (fun z1 z2 => ih z1))
    refine x_aload dX10_read_10 rfl ?_
    refine x_get fX10_76 dX10_read_11 (by first | assumption | rfl | exact up_same | exact (up_ne (by omega)).trans (by assumption) | exact (up_ne (by assumption)).trans (by assumption)) ?_
    refine x_iload dX10_read_14 rfl ?_
    refine x_zaldn dX10_read_15 (by first | assumption | rfl | exact up_same | exact (up_ne (by omega)).trans (by assumption) | exact (up_ne (by assumption)).trans (by assumption)) ⟨by first | omega | decide, by decide⟩ ?_
    refine x_if_ne dX10_read_16 (fun b16 => ?_) (fun b16 => ?_)
    · refine x_k dX10_read_25 ?_
      refine x_istore dX10_read_26 (Nat.le_of_ble_eq_true rfl) rfl ?_
      have hz : ¬ d_fo d k = -1 := fun z => by rw [ek.1, if_pos z] at b16; exact b16 rfl
      rw [if_neg hz, if_neg hz]
      exact all 0 (by omega) (fun i hi => absurd hi (by omega)) h hM (fun _ _ => rfl)
    · refine x_aload dX10_read_19 rfl ?_
      refine x_k dX10_read_20 ?_
      refine x_V1q lX10_146 (Rm.of rfl) (cc1 := 0) (cn1 := 0) rfl rfl (Nat.le_of_ble_eq_true rfl) dX10_read_21 (by first | assumption | rfl | exact up_same | exact (up_ne (by omega)).trans (by assumption) | exact (up_ne (by assumption)).trans (by assumption)) (m_meets 1 hM) ?_
      rintro _ h2 _ hq
      have hq2 := hq
      obtain ⟨rfl, -⟩ := hq
      refine x_iret (ty := .int) dX10_read_24 rfl rfl (Nat.zero_le _) (Nat.zero_le _) ?_
      have hz : d_fo d k = -1 := Classical.byContradiction (fun z => b16 (by rw [ek.1, if_neg z]; decide))
      rw [if_pos hz, if_pos hz]; exact hq2
  refine x_iload dX10_read_0 rfl ?_
  refine x_S1i lX10_143 (Rm.of rfl) (cc1 := 0) (cn1 := 0) rfl rfl (Nat.le_of_ble_eq_true rfl) dX10_read_1 (r_isSheet s) ?_
  refine x_if_ne dX10_read_4 (fun b4 => ?_) (fun b4 => ?_)
  · try simp only [i01, Classical.not_not] at b4
    exact J10 b4
  · try simp only [i01, Classical.not_not] at b4
    refine x_k dX10_read_7 ?_
    refine x_iret (ty := .int) dX10_read_9 rfl rfl (Nat.zero_le _) (Nat.zero_le _) ?_
    rw [dRead, aRead, if_neg b4, if_neg b4]
    exact ⟨rfl, rfl, hM, fun _ _ => rfl⟩
theorem ok_read (s : Int32) (hd : okD d) : okD (dRead d s) := by
  rw [dRead]
  by_cases hc : cS s
  · rw [if_pos hc]
    by_cases hf : d_fo d (sN s) = -1
    · rw [if_pos hf]; exact ok_fi _ hd
    · rw [if_neg hf]; exact rdD_ok hd _ _
  · rw [if_neg hc]; exact hd
end Sht4
