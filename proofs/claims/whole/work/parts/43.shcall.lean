/-! sheet, lose, put, get -/
theorem n2t : (2 : Int32).toInt = 2 := by decide
theorem n3t : (3 : Int32).toInt = 3 := by decide
theorem n4t : (4 : Int32).toInt = 4 := by decide
theorem n48 : (48 : Int32).toInt = 48 := by decide
abbrev cS (s : Int32) : Prop := 0 ≤ s ∧ s ≤ 3
abbrev cSF (s f : Int32) : Prop := cS s ∧ 0 ≤ f ∧ f ≤ 2
abbrev cShe (s f n : Int32) : Prop := cSF s f ∧ n ≤ 48
abbrev sN (s : Int32) : Nat := s.toNatClampNeg
def aSheet (s f n : Int32) : Int32 := if cShe s f n then (if n < 0 then -15 else n) else -2
def dSheet (d : DT) (s f n : Int32) : DT := if cShe s f n then (if n < 0 then dFi d 5 else dSx d (sN s) f n (filF (d_it d (sN s)) 0 48)) else d
def aLose (d : DT) (s : Int32) : Int32 := if cS s then (if d_fo d (sN s) = -1 then -11 else d_si d (sN s)) else -2
def dLose (d : DT) (s : Int32) : DT := if cS s then (if d_fo d (sN s) = -1 then dFi d 1 else dSx d (sN s) (-1) (d_si d (sN s)) (d_it d (sN s))) else d
abbrev fndD (d : DT) (s : Nat) (f i : Int32) : Int32 := fndN (d_fo d s) (d_si d s) f i
def aPut (d : DT) (s f i : Int32) : Int32 := if cSF s f then (if fndD d (sN s) f i = 0 then 1 else -10 - fndD d (sN s) f i) else -2
def dPut (d : DT) (s f i v : Int32) : DT := if cSF s f then (if fndD d (sN s) f i = 0 then dSx d (sN s) (d_fo d (sN s)) (d_si d (sN s)) (upd (d_it d (sN s)) (sN i) (stV (d_fo d (sN s)) v)) else dFi d (fndD d (sN s) f i)) else d
def aGet (d : DT) (s f i : Int32) : Int32 := if cSF s f then (if fndD d (sN s) f i = 0 then d_it d (sN s) (sN i) else -2147483648) else -2147483648
def dGet (d : DT) (s f i : Int32) : DT := if cSF s f then (if fndD d (sN s) f i = 0 then d else dFi d (fndD d (sN s) f i)) else d
theorem fnd0 {fo si f i : Int32} (e : fndN fo si f i = 0) : fo ≠ -1 ∧ 0 ≤ i ∧ i < si := by
  rw [fndN] at e
  split at e
  · exact absurd e (by decide)
  · split at e
    · exact absurd e (by decide)
    · split at e
      · exact ⟨by assumption, by assumption⟩
      · exact absurd e (by decide)
section Sht2
variable {Γ : GX} {h : Hp} {sz : Nat} {d : DT}
theorem ok_fi (x : Int32) (hd : okD d) : okD (dFi d x) := hd
theorem ok_sx {s k : Nat} {fo : Int32} (it : Nat → Int32) (hd : okD d) (hf : fo = -1 ∨ fo = 0 ∨ fo = 1 ∨ fo = 2) (hk : k ≤ 48) : okD (dSx d s fo (nI k) it) := by
  refine ⟨hd.1, hd.2.1, hd.2.2.1, fun t ht => ?_⟩
  show (upd (d_fo d) s fo t = -1 ∨ upd (d_fo d) s fo t = 0 ∨ upd (d_fo d) s fo t = 1 ∨ upd (d_fo d) s fo t = 2) ∧ upd (d_si d) s (nI k) t = nI (cN (upd (d_si d) s (nI k)) t) ∧ cN (upd (d_si d) s (nI k)) t ≤ 48
  simp only [cN, upd]
  by_cases e : t = s
  · rw [if_pos e, if_pos e, nI_clamp (by omega)]
    exact ⟨hf, rfl, hk⟩
  · rw [if_neg e, if_neg e]
    exact hd.2.2.2 t ht
theorem form3 {f : Int32} (h0 : 0 ≤ f) (h2 : f ≤ 2) : f = -1 ∨ f = 0 ∨ f = 1 ∨ f = 2 := by
  obtain ⟨k, hk, rfl⟩ := upto (n := 2) h0 h2 (by omega)
  have : k = 0 ∨ k = 1 ∨ k = 2 := by omega
  rcases this with rfl | rfl | rfl <;> decide
theorem ok_sheet (s f n : Int32) (hd : okD d) : okD (dSheet d s f n) := by
  rw [dSheet]
  by_cases hc : cShe s f n
  · rw [if_pos hc]
    by_cases hn : n < 0
    · rw [if_pos hn]; exact ok_fi _ hd
    · rw [if_neg hn]
      obtain ⟨k, hk, rfl⟩ := upto (n := 48) (Int32.not_lt.mp hn) hc.2 (by omega)
      exact ok_sx _ hd (form3 hc.1.2.1 hc.1.2.2) hk
  · rw [if_neg hc]; exact hd
theorem ok_lose (s : Int32) (hd : okD d) : okD (dLose d s) := by
  rw [dLose]
  by_cases hc : cS s
  · rw [if_pos hc]
    split
    · exact ok_fi _ hd
    · obtain ⟨k, hk, rfl⟩ := upto (n := 3) hc.1 hc.2 (by omega)
      have e : sN (nI k) = k := nI_clamp (by omega)
      rw [e, (hd.2.2.2 k (by omega)).2.1]
      exact ok_sx _ hd (Or.inl rfl) (hd.2.2.2 k (by omega)).2.2
  · rw [if_neg hc]; exact hd
theorem ok_put (s f i v : Int32) (hd : okD d) : okD (dPut d s f i v) := by
  rw [dPut]
  by_cases hc : cSF s f
  · rw [if_pos hc]
    split
    · obtain ⟨k, hk, rfl⟩ := upto (n := 3) hc.1.1 hc.1.2 (by omega)
      have e : sN (nI k) = k := nI_clamp (by omega)
      rw [e, (hd.2.2.2 k (by omega)).2.1]
      exact ok_sx _ hd (hd.2.2.2 k (by omega)).1 (hd.2.2.2 k (by omega)).2.2
    · exact ok_fi _ hd
  · rw [if_neg hc]; exact hd
theorem ok_get (s f i : Int32) (hd : okD d) : okD (dGet d s f i) := by
  rw [dGet]
  by_cases hc : cSF s f
  · rw [if_pos hc]
    split
    · exact hd
    · exact ok_fi _ hd
  · rw [if_neg hc]; exact hd
theorem c_sheet (s f n : Int32) (hX : XW h sz d) : Rn Γ mX9_sheet [.ref 4, .int s, .int f, .int n] h sz (qW h sz (dSheet d s f n) (aSheet s f n)) := by
  refine x_enter 0 (by decide) rfl ?_
  obtain ⟨ss, h4⟩ := hX.2.1.w4
  have J23 : cShe s f n → Ex Γ mX9_sheet (gx_Z Γ mX9_sheet (qW h sz (dSheet d s f n) (aSheet s f n))) 0 0 23 [.ref 4, .int s, .int f, .int n] [] h sz := by
    intro hc
    obtain ⟨k, hk, rfl⟩ := upto (n := 3) hc.1.1.1 hc.1.1.2 (by omega)
    obtain ⟨a48, a49, a50⟩ := hX.1.sh (s := k) (by omega)
    rw [dSheet, aSheet, if_pos hc, if_pos hc, sN, nI_clamp (by omega)]
    refine x_iload dX9_sheet_23 rfl ?_
    refine x_if_ge dX9_sheet_24 (fun b24 => ?_) (fun b24 => ?_)
    · refine x_aload dX9_sheet_33 rfl ?_
      refine x_get fX9_70 dX9_sheet_34 (by first | assumption | rfl | exact up_same | exact (up_ne (by omega)).trans (by assumption) | exact (up_ne (by assumption)).trans (by assumption)) ?_
      refine x_iload dX9_sheet_37 rfl ?_
      refine x_aaS (i := k) (q := 49 + 2 * k) dX9_sheet_38 a48 ⟨by omega, rfl⟩ ?_
      refine x_iload dX9_sheet_39 rfl ?_
      refine x_iload dX9_sheet_40 rfl ?_
      refine x_V2v lX9_293 (Rm.of rfl) (cc1 := 0) (cn1 := 0) rfl rfl (Nat.le_of_ble_eq_true rfl) dX9_sheet_41 (by first | assumption | rfl | exact up_same | exact (up_ne (by omega)).trans (by assumption) | exact (up_ne (by assumption)).trans (by assumption)) (r_renew (f := f) (n := n) a49 a50 (by omega)) ?_
      refine x_iload dX9_sheet_44 rfl ?_
      refine x_iret (ty := .int) dX9_sheet_45 rfl rfl (Nat.zero_le _) (Nat.zero_le _) ?_
      rw [if_neg (Int32.not_lt.mpr b24), if_neg (Int32.not_lt.mpr b24)]; exact ⟨rfl, Nat.le_refl _, hX.sht (by omega) (fun j j1 j2 => by rw [up_ne j2, up_ne j1]) (by rw [up_ne (by omega), up_same]) up_same, fun j hj => by rw [up_ne (by omega), up_ne (by omega)]⟩
    · refine x_aload dX9_sheet_27 rfl ?_
      refine x_k dX9_sheet_28 ?_
      refine x_V1q lX9_151 (Rm.of rfl) (cc1 := 0) (cn1 := 0) rfl rfl (Nat.le_of_ble_eq_true rfl) dX9_sheet_29 (by first | assumption | rfl | exact up_same | exact (up_ne (by omega)).trans (by assumption) | exact (up_ne (by assumption)).trans (by assumption)) (c_found 5 hX) ?_
      rintro _ h2 _ hq
      have hq2 := hq
      obtain ⟨rfl, -⟩ := hq
      refine x_iret (ty := .int) dX9_sheet_32 rfl rfl (Nat.zero_le _) (Nat.zero_le _) ?_
      rw [if_pos (Int32.not_le.mp b24), if_pos (Int32.not_le.mp b24)]; exact hq2
  refine x_iload dX9_sheet_0 rfl ?_
  refine x_S1i lX9_144 (Rm.of rfl) (cc1 := 0) (cn1 := 0) rfl rfl (Nat.le_of_ble_eq_true rfl) dX9_sheet_1 (r_noSheet s) ?_
  refine x_if_ne dX9_sheet_4 (fun b4 => ?_) (fun b4 => ?_)
  · try simp only [i01, Classical.not_not] at b4
    refine x_k dX9_sheet_20 ?_
    refine x_iret (ty := .int) dX9_sheet_22 rfl rfl (Nat.zero_le _) (Nat.zero_le _) ?_
    have hc : ¬ cShe s f n := by simp only [cShe, cSF, cS, Int32.lt_iff_toInt_lt, Int32.le_iff_toInt_le, n0t, n2t, n3t, n4t, n48] at *; omega
    rw [dSheet, aSheet, if_neg hc, if_neg hc]
    exact ⟨rfl, Nat.le_refl _, hX, fun _ _ => rfl⟩
  · try simp only [i01, Classical.not_not] at b4
    refine x_iload dX9_sheet_7 rfl ?_
    refine x_S1i lX9_290 (Rm.of rfl) (cc1 := 0) (cn1 := 0) rfl rfl (Nat.le_of_ble_eq_true rfl) dX9_sheet_8 (r_noForm f) ?_
    refine x_if_ne dX9_sheet_11 (fun b11 => ?_) (fun b11 => ?_)
    · try simp only [i01, Classical.not_not] at b11
      refine x_k dX9_sheet_20 ?_
      refine x_iret (ty := .int) dX9_sheet_22 rfl rfl (Nat.zero_le _) (Nat.zero_le _) ?_
      have hc : ¬ cShe s f n := by simp only [cShe, cSF, cS, Int32.lt_iff_toInt_lt, Int32.le_iff_toInt_le, n0t, n2t, n3t, n4t, n48] at *; omega
      rw [dSheet, aSheet, if_neg hc, if_neg hc]
      exact ⟨rfl, Nat.le_refl _, hX, fun _ _ => rfl⟩
    · try simp only [i01, Classical.not_not] at b11
      refine x_iload dX9_sheet_14 rfl ?_
      refine x_k dX9_sheet_15 ?_
      refine x_icmp_le dX9_sheet_17 (fun b17 => ?_) (fun b17 => ?_)
      · exact J23 (by simp only [cShe, cSF, cS, Int32.lt_iff_toInt_lt, Int32.le_iff_toInt_le, n0t, n2t, n3t, n4t, n48] at *; omega)
      · refine x_k dX9_sheet_20 ?_
        refine x_iret (ty := .int) dX9_sheet_22 rfl rfl (Nat.zero_le _) (Nat.zero_le _) ?_
        have hc : ¬ cShe s f n := by simp only [cShe, cSF, cS, Int32.lt_iff_toInt_lt, Int32.le_iff_toInt_le, n0t, n2t, n3t, n4t, n48] at *; omega
        rw [dSheet, aSheet, if_neg hc, if_neg hc]
        exact ⟨rfl, Nat.le_refl _, hX, fun _ _ => rfl⟩
theorem c_lose (s : Int32) (hX : XW h sz d) : Rn Γ mX9_lose [.ref 4, .int s] h sz (qW h sz (dLose d s) (aLose d s)) := by
  refine x_enter 0 (by decide) rfl ?_
  obtain ⟨ss, h4⟩ := hX.2.1.w4
  have J10 : cS s → Ex Γ mX9_lose (gx_Z Γ mX9_lose (qW h sz (dLose d s) (aLose d s))) 0 0 10 [.ref 4, .int s] [] h sz := by
    intro hc
    obtain ⟨k, hk, rfl⟩ := upto (n := 3) hc.1 hc.2 (by omega)
    obtain ⟨a48, a49, a50⟩ := hX.1.sh (s := k) (by omega)
    rw [dLose, aLose, if_pos hc, if_pos hc, sN, nI_clamp (by omega)]
    refine x_aload dX9_lose_10 rfl ?_
    refine x_get fX9_70 dX9_lose_11 (by first | assumption | rfl | exact up_same | exact (up_ne (by omega)).trans (by assumption) | exact (up_ne (by assumption)).trans (by assumption)) ?_
    refine x_iload dX9_lose_14 rfl ?_
    refine x_aaS (i := k) (q := 49 + 2 * k) dX9_lose_15 a48 ⟨by omega, rfl⟩ ?_
    refine x_V0i lX9_147 (Rm.of rfl) (cc1 := 0) (cn1 := 0) rfl rfl (Nat.le_of_ble_eq_true rfl) dX9_lose_16 (by first | assumption | rfl | exact up_same | exact (up_ne (by omega)).trans (by assumption) | exact (up_ne (by assumption)).trans (by assumption)) (r_isLost a49) ?_
    refine x_if_eq dX9_lose_19 (fun b19 => ?_) (fun b19 => ?_)
    · try simp only [i01, Classical.not_not] at b19
      refine x_aload dX9_lose_28 rfl ?_
      refine x_get fX9_70 dX9_lose_29 (by first | assumption | rfl | exact up_same | exact (up_ne (by omega)).trans (by assumption) | exact (up_ne (by assumption)).trans (by assumption)) ?_
      refine x_iload dX9_lose_32 rfl ?_
      refine x_aaS (i := k) (q := 49 + 2 * k) dX9_lose_33 a48 ⟨by omega, rfl⟩ ?_
      refine x_k dX9_lose_34 ?_
      refine x_put fX9_297 tt4 gX9_297 dX9_lose_35 (by first | assumption | rfl | exact up_same | exact (up_ne (by omega)).trans (by assumption) | exact (up_ne (by assumption)).trans (by assumption)) (Nat.le_of_ble_eq_true rfl) (w4_0 _) ?_
      refine x_aload dX9_lose_38 rfl ?_
      refine x_get fX9_70 dX9_lose_39 (by first | assumption | rfl | exact up_same | exact (up_ne (by omega)).trans (by assumption) | exact (up_ne (by assumption)).trans (by assumption)) ?_
      refine x_iload dX9_lose_42 rfl ?_
      refine x_aaS (i := k) (q := 49 + 2 * k) dX9_lose_43 (by rw [up_ne (by omega)]; exact a48) ⟨by omega, rfl⟩ ?_
      refine x_get fX9_154 dX9_lose_44 (by first | assumption | rfl | exact up_same | exact (up_ne (by omega)).trans (by assumption) | exact (up_ne (by assumption)).trans (by assumption)) ?_
      refine x_iret (ty := .int) dX9_lose_47 rfl rfl (Nat.zero_le _) (Nat.zero_le _) ?_
      rw [if_neg b19, if_neg b19]; exact ⟨rfl, Nat.le_refl _, hX.sht (by omega) (fun j j1 j2 => by rw [up_ne j1]) up_same (by rw [up_ne (by omega)]; exact a50), fun j hj => by rw [up_ne (by omega)]⟩
    · try simp only [i01, Classical.not_not] at b19
      refine x_aload dX9_lose_22 rfl ?_
      refine x_k dX9_lose_23 ?_
      refine x_V1q lX9_151 (Rm.of rfl) (cc1 := 0) (cn1 := 0) rfl rfl (Nat.le_of_ble_eq_true rfl) dX9_lose_24 (by first | assumption | rfl | exact up_same | exact (up_ne (by omega)).trans (by assumption) | exact (up_ne (by assumption)).trans (by assumption)) (c_found 1 hX) ?_
      rintro _ h2 _ hq
      have hq2 := hq
      obtain ⟨rfl, -⟩ := hq
      refine x_iret (ty := .int) dX9_lose_27 rfl rfl (Nat.zero_le _) (Nat.zero_le _) ?_
      rw [if_pos b19, if_pos b19]; exact hq2
  refine x_iload dX9_lose_0 rfl ?_
  refine x_S1i lX9_144 (Rm.of rfl) (cc1 := 0) (cn1 := 0) rfl rfl (Nat.le_of_ble_eq_true rfl) dX9_lose_1 (r_noSheet s) ?_
  refine x_if_eq dX9_lose_4 (fun b4 => ?_) (fun b4 => ?_)
  · try simp only [i01, Classical.not_not] at b4
    exact J10 (by simp only [cS, Int32.lt_iff_toInt_lt, Int32.le_iff_toInt_le, n0t, n2t, n3t, n4t, n48] at *; omega)
  · try simp only [i01, Classical.not_not] at b4
    refine x_k dX9_lose_7 ?_
    refine x_iret (ty := .int) dX9_lose_9 rfl rfl (Nat.zero_le _) (Nat.zero_le _) ?_
    have hc : ¬ cS s := by simp only [cS, Int32.lt_iff_toInt_lt, Int32.le_iff_toInt_le, n0t, n2t, n3t, n4t, n48] at *; omega
    rw [dLose, aLose, if_neg hc, if_neg hc]
    exact ⟨rfl, Nat.le_refl _, hX, fun _ _ => rfl⟩
theorem c_put (s f i v : Int32) (hX : XW h sz d) (hd : okD d) : Rn Γ mX9_put [.ref 4, .int s, .int f, .int i, .int v] h sz (qW h sz (dPut d s f i v) (aPut d s f i)) := by
  refine x_enter 1 (by decide) rfl ?_
  obtain ⟨ss, h4⟩ := hX.2.1.w4
  have J17 : cSF s f → Ex Γ mX9_put (gx_Z Γ mX9_put (qW h sz (dPut d s f i v) (aPut d s f i))) 0 0 17 [.ref 4, .int s, .int f, .int i, .int v, .retAddr 0] [] h sz := by
    intro hc
    obtain ⟨k, hk, rfl⟩ := upto (n := 3) hc.1.1 hc.1.2 (by omega)
    obtain ⟨a48, a49, a50⟩ := hX.1.sh (s := k) (by omega)
    have es : sN (nI k) = k := nI_clamp (by omega)
    have ok4 := hd.2.2.2 k (by omega)
    rw [dPut, aPut, if_pos hc, if_pos hc, es]
    have J42 : fndD d k f i = 0 → Ex Γ mX9_put (gx_Z Γ mX9_put (qW h sz (dSx d k (d_fo d k) (d_si d k) (upd (d_it d k) (sN i) (stV (d_fo d k) v))) 1)) 0 0 42 [.ref 4, .int (nI k), .int f, .int i, .int v, .int (fndD d k f i)] [] h sz := by
      intro e0
      obtain ⟨z1, z2, z3⟩ := fnd0 e0
      rw [ok4.2.1] at z3
      obtain ⟨j, hj, rfl⟩ := below z2 z3 (by omega)
      have ej : sN (nI j) = j := nI_clamp (by omega)
      rw [ej]
      refine x_aload dX9_put_42 rfl ?_
      refine x_get fX9_70 dX9_put_43 (by first | assumption | rfl | exact up_same | exact (up_ne (by omega)).trans (by assumption) | exact (up_ne (by assumption)).trans (by assumption)) ?_
      refine x_iload dX9_put_46 rfl ?_
      refine x_aaS (i := k) (q := 49 + 2 * k) dX9_put_47 a48 ⟨by omega, rfl⟩ ?_
      refine x_iload dX9_put_48 rfl ?_
      refine x_iload dX9_put_49 rfl ?_
      refine x_V2v lX9_303 (Rm.of rfl) (cc1 := 0) (cn1 := 0) rfl rfl (Nat.le_of_ble_eq_true rfl) dX9_put_51 (by first | assumption | rfl | exact up_same | exact (up_ne (by omega)).trans (by assumption) | exact (up_ne (by assumption)).trans (by assumption)) (r_store (v := v) a49 a50 (by omega)) ?_
      refine x_k dX9_put_54 ?_
      refine x_iret (ty := .int) dX9_put_55 rfl rfl (Nat.zero_le _) (Nat.zero_le _) ?_
      exact ⟨rfl, Nat.le_refl _, hX.sht (by omega) (fun j j1 j2 => by rw [up_ne j2]) (by rw [up_ne (by omega)]; exact a49) up_same, fun j hj => by rw [up_ne (by omega)]⟩
    refine x_aload dX9_put_17 rfl ?_
    refine x_get fX9_70 dX9_put_18 (by first | assumption | rfl | exact up_same | exact (up_ne (by omega)).trans (by assumption) | exact (up_ne (by assumption)).trans (by assumption)) ?_
    refine x_iload dX9_put_21 rfl ?_
    refine x_aaS (i := k) (q := 49 + 2 * k) dX9_put_22 a48 ⟨by omega, rfl⟩ ?_
    refine x_iload dX9_put_23 rfl ?_
    refine x_iload dX9_put_24 rfl ?_
    refine x_V2i lX9_300 (Rm.of rfl) (cc1 := 0) (cn1 := 0) rfl rfl (Nat.le_of_ble_eq_true rfl) dX9_put_25 (by first | assumption | rfl | exact up_same | exact (up_ne (by omega)).trans (by assumption) | exact (up_ne (by assumption)).trans (by assumption)) (r_findingAt f i a49) ?_
    refine x_istore dX9_put_28 (Nat.le_of_ble_eq_true rfl) rfl ?_
    refine x_iload dX9_put_30 rfl ?_
    refine x_if_eq dX9_put_32 (fun b32 => ?_) (fun b32 => ?_)
    · rw [if_pos b32, if_pos b32]; exact J42 b32
    · refine x_aload dX9_put_35 rfl ?_
      refine x_iload dX9_put_36 rfl ?_
      refine x_V1q lX9_151 (Rm.of rfl) (cc1 := 0) (cn1 := 0) rfl rfl (Nat.le_of_ble_eq_true rfl) dX9_put_38 (by first | assumption | rfl | exact up_same | exact (up_ne (by omega)).trans (by assumption) | exact (up_ne (by assumption)).trans (by assumption)) (c_found (fndD d k f i) hX) ?_
      rintro _ h2 _ hq
      have hq2 := hq
      obtain ⟨rfl, -⟩ := hq
      refine x_iret (ty := .int) dX9_put_41 rfl rfl (Nat.zero_le _) (Nat.zero_le _) ?_
      rw [if_neg b32, if_neg b32]; exact hq2
  refine x_iload dX9_put_0 rfl ?_
  refine x_S1i lX9_144 (Rm.of rfl) (cc1 := 0) (cn1 := 0) rfl rfl (Nat.le_of_ble_eq_true rfl) dX9_put_1 (r_noSheet s) ?_
  refine x_if_ne dX9_put_4 (fun b4 => ?_) (fun b4 => ?_)
  · try simp only [i01, Classical.not_not] at b4
    refine x_k dX9_put_14 ?_
    refine x_iret (ty := .int) dX9_put_16 rfl rfl (Nat.zero_le _) (Nat.zero_le _) ?_
    have hc : ¬ cSF s f := by simp only [cSF, cS, Int32.lt_iff_toInt_lt, Int32.le_iff_toInt_le, n0t, n2t, n3t, n4t, n48] at *; omega
    rw [dPut, aPut, if_neg hc, if_neg hc]
    exact ⟨rfl, Nat.le_refl _, hX, fun _ _ => rfl⟩
  · try simp only [i01, Classical.not_not] at b4
    refine x_iload dX9_put_7 rfl ?_
    refine x_S1i lX9_290 (Rm.of rfl) (cc1 := 0) (cn1 := 0) rfl rfl (Nat.le_of_ble_eq_true rfl) dX9_put_8 (r_noForm f) ?_
    refine x_if_eq dX9_put_11 (fun b11 => ?_) (fun b11 => ?_)
    · try simp only [i01, Classical.not_not] at b11
      exact J17 (by simp only [cSF, cS, Int32.lt_iff_toInt_lt, Int32.le_iff_toInt_le, n0t, n2t, n3t, n4t, n48] at *; omega)
    · try simp only [i01, Classical.not_not] at b11
      refine x_k dX9_put_14 ?_
      refine x_iret (ty := .int) dX9_put_16 rfl rfl (Nat.zero_le _) (Nat.zero_le _) ?_
      have hc : ¬ cSF s f := by simp only [cSF, cS, Int32.lt_iff_toInt_lt, Int32.le_iff_toInt_le, n0t, n2t, n3t, n4t, n48] at *; omega
      rw [dPut, aPut, if_neg hc, if_neg hc]
      exact ⟨rfl, Nat.le_refl _, hX, fun _ _ => rfl⟩
theorem c_get (s f i : Int32) (hX : XW h sz d) (hd : okD d) : Rn Γ mX9_get [.ref 4, .int s, .int f, .int i] h sz (qW h sz (dGet d s f i) (aGet d s f i)) := by
  refine x_enter 1 (by decide) rfl ?_
  obtain ⟨ss, h4⟩ := hX.2.1.w4
  have J18 : cSF s f → Ex Γ mX9_get (gx_Z Γ mX9_get (qW h sz (dGet d s f i) (aGet d s f i))) 0 0 18 [.ref 4, .int s, .int f, .int i, .retAddr 0] [] h sz := by
    intro hc
    obtain ⟨k, hk, rfl⟩ := upto (n := 3) hc.1.1 hc.1.2 (by omega)
    obtain ⟨a48, a49, a50⟩ := hX.1.sh (s := k) (by omega)
    have es : sN (nI k) = k := nI_clamp (by omega)
    have ok4 := hd.2.2.2 k (by omega)
    rw [dGet, aGet, if_pos hc, if_pos hc, es]
    have J47 : fndD d k f i = 0 → Ex Γ mX9_get (gx_Z Γ mX9_get (qW h sz d (d_it d k (sN i)))) 0 0 47 [.ref 4, .int (nI k), .int f, .int i, .int (fndD d k f i)] [] h sz := by
      intro e0
      obtain ⟨z1, z2, z3⟩ := fnd0 e0
      rw [ok4.2.1] at z3
      obtain ⟨j, hj, rfl⟩ := below z2 z3 (by omega)
      have ej : sN (nI j) = j := nI_clamp (by omega)
      rw [ej]
      refine x_aload dX9_get_47 rfl ?_
      refine x_get fX9_70 dX9_get_48 (by first | assumption | rfl | exact up_same | exact (up_ne (by omega)).trans (by assumption) | exact (up_ne (by assumption)).trans (by assumption)) ?_
      refine x_iload dX9_get_51 rfl ?_
      refine x_aaS (i := k) (q := 49 + 2 * k) dX9_get_52 a48 ⟨by omega, rfl⟩ ?_
      refine x_get fX9_155 dX9_get_53 (by first | assumption | rfl | exact up_same | exact (up_ne (by omega)).trans (by assumption) | exact (up_ne (by assumption)).trans (by assumption)) ?_
      refine x_iload dX9_get_56 rfl ?_
      refine x_ialdn dX9_get_57 (by first | assumption | rfl | exact up_same | exact (up_ne (by omega)).trans (by assumption) | exact (up_ne (by assumption)).trans (by assumption)) ⟨by first | omega | decide, by decide⟩ ?_
      refine x_iret (ty := .int) dX9_get_58 rfl rfl (Nat.zero_le _) (Nat.zero_le _) ?_
      exact ⟨rfl, Nat.le_refl _, hX, fun _ _ => rfl⟩
    refine x_aload dX9_get_18 rfl ?_
    refine x_get fX9_70 dX9_get_19 (by first | assumption | rfl | exact up_same | exact (up_ne (by omega)).trans (by assumption) | exact (up_ne (by assumption)).trans (by assumption)) ?_
    refine x_iload dX9_get_22 rfl ?_
    refine x_aaS (i := k) (q := 49 + 2 * k) dX9_get_23 a48 ⟨by omega, rfl⟩ ?_
    refine x_iload dX9_get_24 rfl ?_
    refine x_iload dX9_get_25 rfl ?_
    refine x_V2i lX9_300 (Rm.of rfl) (cc1 := 0) (cn1 := 0) rfl rfl (Nat.le_of_ble_eq_true rfl) dX9_get_26 (by first | assumption | rfl | exact up_same | exact (up_ne (by omega)).trans (by assumption) | exact (up_ne (by assumption)).trans (by assumption)) (r_findingAt f i a49) ?_
    refine x_istore dX9_get_29 (Nat.le_of_ble_eq_true rfl) rfl ?_
    refine x_iload dX9_get_31 rfl ?_
    refine x_if_eq dX9_get_33 (fun b33 => ?_) (fun b33 => ?_)
    · rw [if_pos b33, if_pos b33]; exact J47 b33
    · refine x_aload dX9_get_36 rfl ?_
      refine x_iload dX9_get_37 rfl ?_
      refine x_V1q lX9_151 (Rm.of rfl) (cc1 := 0) (cn1 := 0) rfl rfl (Nat.le_of_ble_eq_true rfl) dX9_get_39 (by first | assumption | rfl | exact up_same | exact (up_ne (by omega)).trans (by assumption) | exact (up_ne (by assumption)).trans (by assumption)) (c_found (fndD d k f i) hX) ?_
      rintro _ h2 _ ⟨rfl, q2, q3, q4⟩
      refine x_pop dX9_get_42 rfl ?_
      refine x_ldcw kX9_306 dX9_get_43 ?_
      refine x_iret (ty := .int) dX9_get_46 rfl rfl (Nat.zero_le _) (Nat.zero_le _) ?_
      rw [if_neg b33, if_neg b33]; exact ⟨rfl, q2, q3, q4⟩
  refine x_iload dX9_get_0 rfl ?_
  refine x_S1i lX9_144 (Rm.of rfl) (cc1 := 0) (cn1 := 0) rfl rfl (Nat.le_of_ble_eq_true rfl) dX9_get_1 (r_noSheet s) ?_
  refine x_if_ne dX9_get_4 (fun b4 => ?_) (fun b4 => ?_)
  · try simp only [i01, Classical.not_not] at b4
    refine x_ldcw kX9_306 dX9_get_14 ?_
    refine x_iret (ty := .int) dX9_get_17 rfl rfl (Nat.zero_le _) (Nat.zero_le _) ?_
    have hc : ¬ cSF s f := by simp only [cSF, cS, Int32.lt_iff_toInt_lt, Int32.le_iff_toInt_le, n0t, n2t, n3t, n4t, n48] at *; omega
    rw [dGet, aGet, if_neg hc, if_neg hc]
    exact ⟨rfl, Nat.le_refl _, hX, fun _ _ => rfl⟩
  · try simp only [i01, Classical.not_not] at b4
    refine x_iload dX9_get_7 rfl ?_
    refine x_S1i lX9_290 (Rm.of rfl) (cc1 := 0) (cn1 := 0) rfl rfl (Nat.le_of_ble_eq_true rfl) dX9_get_8 (r_noForm f) ?_
    refine x_if_eq dX9_get_11 (fun b11 => ?_) (fun b11 => ?_)
    · try simp only [i01, Classical.not_not] at b11
      exact J18 (by simp only [cSF, cS, Int32.lt_iff_toInt_lt, Int32.le_iff_toInt_le, n0t, n2t, n3t, n4t, n48] at *; omega)
    · try simp only [i01, Classical.not_not] at b11
      refine x_ldcw kX9_306 dX9_get_14 ?_
      refine x_iret (ty := .int) dX9_get_17 rfl rfl (Nat.zero_le _) (Nat.zero_le _) ?_
      have hc : ¬ cSF s f := by simp only [cSF, cS, Int32.lt_iff_toInt_lt, Int32.le_iff_toInt_le, n0t, n2t, n3t, n4t, n48] at *; omega
      rw [dGet, aGet, if_neg hc, if_neg hc]
      exact ⟨rfl, Nat.le_refl _, hX, fun _ _ => rfl⟩
end Sht2
