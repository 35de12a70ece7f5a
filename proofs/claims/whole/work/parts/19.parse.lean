/-! the two texts: what they tell -/
def fitH (r : Nat) (x : Int32) : Bool := if r = 2 then decide (x = 59) else decide (48 ≤ x ∧ x ≤ (if r = 0 then 55 else 57))
def fitP (r : Nat) (x : Int32) : Bool := if r = 0 then decide (x = 111 ∨ x = 103 ∨ x = 108) else decide (x = 45 ∨ (48 ≤ x ∧ x ≤ 55))
def badH (b : Nat → Int32) (i : Nat) : Bool := decide (i = 24) || !fitH (i % 3) (b i)
def badP (b : Nat → Int32) (i : Nat) : Bool := decide (i = 16) || !fitP (i % 2) (b i)
def fst1 (p : Nat → Bool) : Nat → Nat
  | 0 => 0
  | n + 1 => if fst1 p n < n then fst1 p n else if p n then n else n + 1
theorem fst1_none {p : Nat → Bool} {n : Nat} (h : ∀ j, j < n → p j = false) : fst1 p n = n := by
  induction n with
  | zero => rfl
  | succ n ih => rw [fst1, ih (fun j hj => h j (by omega)), if_neg (Nat.lt_irrefl n), if_neg (by rw [h n (by omega)]; decide)]
theorem fst1_at {p : Nat → Bool} {n k : Nat} (hk : k < n) (h : ∀ j, j < k → p j = false) (hp : p k = true) : fst1 p n = k := by
  induction n with
  | zero => omega
  | succ n ih =>
    by_cases e : k = n
    · subst e
      rw [fst1, fst1_none h, if_neg (Nat.lt_irrefl _), if_pos hp]
    · rw [fst1, ih (by omega), if_pos (by omega)]
theorem fst1_all {p : Nat → Bool} {n : Nat} (h : ¬ fst1 p n < n) : ∀ j, j < n → p j = false := by
  induction n with
  | zero => intro j hj; omega
  | succ n ih =>
    rw [fst1] at h
    by_cases h1 : fst1 p n < n
    · rw [if_pos h1] at h; omega
    · rw [if_neg h1] at h
      intro j hj
      rcases Nat.lt_succ_iff_lt_or_eq.mp hj with q | q
      · exact ih h1 j q
      · subst q
        cases hb : p j with
        | false => rfl
        | true => rw [if_pos hb] at h; omega
def fauH (n : Nat) (b : Nat → Int32) : Int32 := if fst1 (badH b) n < n then nI (fst1 (badH b) n) else if n = 0 ∨ n % 3 = 2 then -1 else nI n
def fauP (n : Nat) (b : Nat → Int32) : Int32 := if fst1 (badP b) n < n then nI (fst1 (badP b) n) else if n % 2 = 0 then -1 else nI n
def hN (n : Nat) (b : Nat → Int32) : Nat := if fauH n b = -1 then (n + 1) / 3 else 0
def pN (n : Nat) (b : Nat → Int32) : Nat := if fauP n b = -1 then n / 2 else 0
theorem fauH_at {n k : Nat} {b : Nat → Int32} (hk : k < n) (h : ∀ j, j < k → badH b j = false) (hp : badH b k = true) : fauH n b = nI k := by
  rw [fauH, fst1_at hk h hp, if_pos hk]
theorem fauH_end {n : Nat} {b : Nat → Int32} (h : ∀ j, j < n → badH b j = false) : fauH n b = if n = 0 ∨ n % 3 = 2 then -1 else nI n := by
  rw [fauH, fst1_none h, if_neg (Nat.lt_irrefl _)]
theorem fauP_at {n k : Nat} {b : Nat → Int32} (hk : k < n) (h : ∀ j, j < k → badP b j = false) (hp : badP b k = true) : fauP n b = nI k := by
  rw [fauP, fst1_at hk h hp, if_pos hk]
theorem fauP_end {n : Nat} {b : Nat → Int32} (h : ∀ j, j < n → badP b j = false) : fauP n b = if n % 2 = 0 then -1 else nI n := by
  rw [fauP, fst1_none h, if_neg (Nat.lt_irrefl _)]
theorem nI_nm1 {k : Nat} (h : k < 2 ^ 31) : nI k ≠ -1 := fun e => by
  have := congrArg Int32.toInt e
  rw [nI_toInt h] at this
  have h2 : (-1 : Int32).toInt = -1 := rfl
  omega
theorem fst1_le (p : Nat → Bool) : ∀ n, fst1 p n ≤ n
  | 0 => Nat.le_refl 0
  | n + 1 => by
    have := fst1_le p n
    rw [fst1]; split
    · omega
    · split <;> omega
theorem fauH_ok {n : Nat} {b : Nat → Int32} (hn : n ≤ 30) (h : fauH n b = -1) : (∀ j, j < n → badH b j = false) ∧ (n = 0 ∨ n % 3 = 2) := by
  have hle := fst1_le (badH b) n
  rw [fauH] at h
  split at h
  · exact absurd h (nI_nm1 (by omega))
  · rename_i h1
    refine ⟨fst1_all h1, ?_⟩
    split at h
    · assumption
    · exact absurd h (nI_nm1 (by omega))
theorem fauP_ok {n : Nat} {b : Nat → Int32} (hn : n ≤ 30) (h : fauP n b = -1) : (∀ j, j < n → badP b j = false) ∧ n % 2 = 0 := by
  have hle := fst1_le (badP b) n
  rw [fauP] at h
  split at h
  · exact absurd h (nI_nm1 (by omega))
  · rename_i h1
    refine ⟨fst1_all h1, ?_⟩
    split at h
    · assumption
    · exact absurd h (nI_nm1 (by omega))
theorem remN {a d : Nat} (ha : a < 2 ^ 31) (hd : 0 < d ∧ d < 2 ^ 31) : nI a - nI a / nI d * nI d = nI (a % d) := pk_rem ha hd.1 hd.2
section Parse
variable {Γ : GX} {h : Hp} {sz : Nat}
theorem x_iremn {M : MI} {Z : ZT} {cc cn pc pc' : Nat} {lv rest : List Value} {a d : Nat} (dd : Dc M.2.1 pc .irem 1 pc') (ha : a < 2 ^ 31) (hd : 0 < d ∧ d < 2 ^ 31) (k : Ex Γ M Z cc cn pc' lv (.int (nI (a % d)) :: rest) h sz) : Ex Γ M Z cc cn pc lv (.int (nI d) :: .int (nI a) :: rest) h sz := by
  rw [← remN ha hd] at k
  exact x_irem dd (nI_ne0 hd.1 hd.2) k
theorem x_idivn {M : MI} {Z : ZT} {cc cn pc pc' : Nat} {lv rest : List Value} {a d : Nat} (dd : Dc M.2.1 pc .idiv 1 pc') (ha : a < 2 ^ 31) (hd : 0 < d ∧ d < 2 ^ 31) (k : Ex Γ M Z cc cn pc' lv (.int (nI (a / d)) :: rest) h sz) : Ex Γ M Z cc cn pc lv (.int (nI d) :: .int (nI a) :: rest) h sz := by
  rw [← pk_div ha hd.1 hd.2] at k
  exact x_idiv dd (nI_ne0 hd.1 hd.2) k
theorem r_fitsHouse {r : Nat} (x : Int32) (hr : r < 3) : Re Γ mX5_fitsHouse [.int (nI r), .int x] h sz (some (.int (bI (fitH r x = true)))) h sz := by
  refine x_enter 0 (by decide) rfl ?_
  have e2 : nI r = 2 ↔ r = 2 := nI_eq (b := 2) (by omega) (by decide)
  have e0 : nI r = 0 ↔ r = 0 := nI_eq (b := 0) (by omega) (by decide)
  refine x_iload dX5_fitsHouse_0 rfl ?_
  refine x_k dX5_fitsHouse_1 ?_
  refine x_icmp_ne dX5_fitsHouse_2 (fun b2 => ?_) (fun b2 => ?_)
  · refine x_iload dX5_fitsHouse_17 rfl ?_
    refine x_k dX5_fitsHouse_18 ?_
    refine x_icmp_lt dX5_fitsHouse_20 (fun b20 => ?_) (fun b20 => ?_)
    · refine x_k dX5_fitsHouse_42 ?_
      refine x_iret (ty := .boolean) dX5_fitsHouse_43 rfl (by first | rfl | exact nzb) (Nat.zero_le _) (Nat.zero_le _) ?_
      exact ⟨by simp_all [fitH] <;> (intro q; exact absurd q (Int32.not_le.mpr (by assumption))), rfl, rfl⟩
    · refine x_iload dX5_fitsHouse_23 rfl ?_
      refine x_iload dX5_fitsHouse_24 rfl ?_
      refine x_if_ne dX5_fitsHouse_25 (fun b25 => ?_) (fun b25 => ?_)
      · refine x_k dX5_fitsHouse_33 ?_
        refine x_icmp_gt dX5_fitsHouse_35 (fun b35 => ?_) (fun b35 => ?_)
        · refine x_k dX5_fitsHouse_42 ?_
          refine x_iret (ty := .boolean) dX5_fitsHouse_43 rfl (by first | rfl | exact nzb) (Nat.zero_le _) (Nat.zero_le _) ?_
          exact ⟨by simp_all [fitH] <;> (intro q; exact absurd q (Int32.not_le.mpr (by assumption))), rfl, rfl⟩
        · refine x_k dX5_fitsHouse_38 ?_
          refine x_goto dX5_fitsHouse_39 ?_
          refine x_iret (ty := .boolean) dX5_fitsHouse_43 rfl (by first | rfl | exact nzb) (Nat.zero_le _) (Nat.zero_le _) ?_
          exact ⟨by simp_all [fitH] <;> (intro q; exact absurd q (Int32.not_le.mpr (by assumption))), rfl, rfl⟩
      · refine x_k dX5_fitsHouse_28 ?_
        refine x_goto dX5_fitsHouse_30 ?_
        refine x_icmp_gt dX5_fitsHouse_35 (fun b35 => ?_) (fun b35 => ?_)
        · refine x_k dX5_fitsHouse_42 ?_
          refine x_iret (ty := .boolean) dX5_fitsHouse_43 rfl (by first | rfl | exact nzb) (Nat.zero_le _) (Nat.zero_le _) ?_
          exact ⟨by simp_all [fitH] <;> (intro q; exact absurd q (Int32.not_le.mpr (by assumption))), rfl, rfl⟩
        · refine x_k dX5_fitsHouse_38 ?_
          refine x_goto dX5_fitsHouse_39 ?_
          refine x_iret (ty := .boolean) dX5_fitsHouse_43 rfl (by first | rfl | exact nzb) (Nat.zero_le _) (Nat.zero_le _) ?_
          exact ⟨by simp_all [fitH] <;> (intro q; exact absurd q (Int32.not_le.mpr (by assumption))), rfl, rfl⟩
  · refine x_iload dX5_fitsHouse_5 rfl ?_
    refine x_k dX5_fitsHouse_6 ?_
    refine x_icmp_ne dX5_fitsHouse_8 (fun b8 => ?_) (fun b8 => ?_)
    · refine x_k dX5_fitsHouse_15 ?_
      refine x_iret (ty := .boolean) dX5_fitsHouse_16 rfl (by first | rfl | exact nzb) (Nat.zero_le _) (Nat.zero_le _) ?_
      exact ⟨by simp_all [fitH] <;> (intro q; exact absurd q (Int32.not_le.mpr (by assumption))), rfl, rfl⟩
    · refine x_k dX5_fitsHouse_11 ?_
      refine x_goto dX5_fitsHouse_12 ?_
      refine x_iret (ty := .boolean) dX5_fitsHouse_16 rfl (by first | rfl | exact nzb) (Nat.zero_le _) (Nat.zero_le _) ?_
      exact ⟨by simp_all [fitH] <;> (intro q; exact absurd q (Int32.not_le.mpr (by assumption))), rfl, rfl⟩
theorem r_wrongHouse {n : Nat} {b : Nat → Int32} (h6 : h 6 = cT 7 (nI n)) (h7 : h 7 = ia 30 b) (hn : n ≤ 30) : Re Γ mX5_wrongHouse [.ref 6] h sz (some (.int (fauH n b))) h sz := by
  refine x_enter 1 (by decide) rfl ?_
  refine x_k dX5_wrongHouse_0 ?_
  refine x_istore dX5_wrongHouse_1 (Nat.le_of_ble_eq_true rfl) rfl ?_
  refine x_eq rfl rfl rfl (loopUp (P := fun p => (∀ j, j < p → badH b j = false) → Ex Γ mX5_wrongHouse _ 0 0 2 [.ref 6, .int (nI p)] [] h sz) n ?_ (fun p hp ih => ?_) 0 (Nat.zero_le _) (fun j hj => absurd hj (Nat.not_lt_zero _)))
  · intro hno
    have e0 : nI n = 0 ↔ n = 0 := nI_eq (b := 0) (by omega) (by decide)
    have e2 : nI (n % 3) = 2 ↔ n % 3 = 2 := nI_eq (b := 2) (by omega) (by decide)
    refine x_iload dX5_wrongHouse_2 rfl ?_
    refine x_aload dX5_wrongHouse_3 rfl ?_
    refine x_get fX5_37 dX5_wrongHouse_4 (by first | assumption | rfl) ?_
    refine x_icmp_ge dX5_wrongHouse_7 (fun b7 => ?_) (fun b7 => ?_)
    · refine x_aload dX5_wrongHouse_39 rfl ?_
      refine x_get fX5_37 dX5_wrongHouse_40 (by first | assumption | rfl) ?_
      refine x_if_eq dX5_wrongHouse_43 (fun b43 => ?_) (fun b43 => ?_)
      · refine x_k dX5_wrongHouse_56 ?_
        refine x_goto dX5_wrongHouse_57 ?_
        refine x_iret (ty := .int) dX5_wrongHouse_64 rfl rfl (Nat.zero_le _) (Nat.zero_le _) ?_
        exact ⟨by rw [fauH_end hno]; simp_all, rfl, rfl⟩
      · refine x_aload dX5_wrongHouse_46 rfl ?_
        refine x_get fX5_37 dX5_wrongHouse_47 (by first | assumption | rfl) ?_
        refine x_k dX5_wrongHouse_50 ?_
        refine x_iremn (d := 3) dX5_wrongHouse_51 (by omega) (by decide) ?_
        refine x_k dX5_wrongHouse_52 ?_
        refine x_icmp_ne dX5_wrongHouse_53 (fun b53 => ?_) (fun b53 => ?_)
        · refine x_aload dX5_wrongHouse_60 rfl ?_
          refine x_get fX5_37 dX5_wrongHouse_61 (by first | assumption | rfl) ?_
          refine x_iret (ty := .int) dX5_wrongHouse_64 rfl rfl (Nat.zero_le _) (Nat.zero_le _) ?_
          exact ⟨by rw [fauH_end hno]; simp_all, rfl, rfl⟩
        · refine x_k dX5_wrongHouse_56 ?_
          refine x_goto dX5_wrongHouse_57 ?_
          refine x_iret (ty := .int) dX5_wrongHouse_64 rfl rfl (Nat.zero_le _) (Nat.zero_le _) ?_
          exact ⟨by rw [fauH_end hno]; simp_all, rfl, rfl⟩
    · exact absurd (Int32.le_refl _) b7
  · intro hno
    have e24 : nI p = 24 ↔ p = 24 := nI_eq (b := 24) (by omega) (by decide)
    refine x_iload dX5_wrongHouse_2 rfl ?_
    refine x_aload dX5_wrongHouse_3 rfl ?_
    refine x_get fX5_37 dX5_wrongHouse_4 (by first | assumption | rfl) ?_
    refine x_icmp_ge dX5_wrongHouse_7 (fun b7 => ?_) (fun b7 => ?_)
    · exact absurd b7 (nI_ge hp (by omega))
    · refine x_iload dX5_wrongHouse_10 rfl ?_
      refine x_k dX5_wrongHouse_11 ?_
      refine x_icmp_eq dX5_wrongHouse_13 (fun b13 => ?_) (fun b13 => ?_)
      · refine x_iload dX5_wrongHouse_31 rfl ?_
        refine x_iret (ty := .int) dX5_wrongHouse_32 rfl rfl (Nat.zero_le _) (Nat.zero_le _) ?_
        exact ⟨by rw [fauH_at hp hno (by simp_all [badH])], rfl, rfl⟩
      · refine x_iload dX5_wrongHouse_16 rfl ?_
        refine x_k dX5_wrongHouse_17 ?_
        refine x_iremn (d := 3) dX5_wrongHouse_18 (by omega) (by decide) ?_
        refine x_aload dX5_wrongHouse_19 rfl ?_
        refine x_get fX5_42 dX5_wrongHouse_20 (by first | assumption | rfl) ?_
        refine x_iload dX5_wrongHouse_23 rfl ?_
        refine x_ialdn dX5_wrongHouse_24 (by first | assumption | rfl) ⟨by first | omega | decide, by decide⟩ ?_
        refine x_S2i lX5_45 (Rm.of rfl) (cc1 := 0) (cn1 := 0) rfl rfl (Nat.le_of_ble_eq_true rfl) dX5_wrongHouse_25 (r_fitsHouse (b p) (by omega)) ?_
        refine x_if_ne dX5_wrongHouse_28 (fun b28 => ?_) (fun b28 => ?_)
        · try simp only [i01, Classical.not_not] at b28
          refine x_inc1 dX5_wrongHouse_33 rfl (Nat.le_of_ble_eq_true rfl) rfl ?_
          refine x_goto dX5_wrongHouse_36 ?_
          exact ih (fun j hj => (Nat.lt_succ_iff_lt_or_eq.mp hj).elim (hno j) (fun q => by subst q; simp_all [badH]))
        · try simp only [i01, Classical.not_not] at b28
          refine x_iload dX5_wrongHouse_31 rfl ?_
          refine x_iret (ty := .int) dX5_wrongHouse_32 rfl rfl (Nat.zero_le _) (Nat.zero_le _) ?_
          exact ⟨by rw [fauH_at hp hno (by simp_all [badH])], rfl, rfl⟩
theorem toC {x : Int32} (hx : 0 ≤ x ∧ x ≤ 255) : x.toUInt32.toUInt16.toUInt32.toInt32 = x := by
  obtain ⟨j, hj, rfl⟩ := nI_of2 (M := 255) (n := 255) rfl (Int32.not_lt.mpr hx.1) hx.2
  have : ∀ j : Nat, j < 256 → (nI j).toUInt32.toUInt16.toUInt32.toInt32 = nI j := by decide +kernel
  exact this j (by omega)
theorem kI_neg (x : Int32) : kI x < 0 ↔ ¬ (x = 111 ∨ x = 103 ∨ x = 108) := by
  unfold kI
  by_cases h1 : x = 111
  · simp [h1]
  · by_cases h2 : x = 103
    · simp [h2]
    · by_cases h3 : x = 108
      · simp [h3]
      · simp [h1, h2, h3]
theorem r_fitsPerson {r : Nat} {x : Int32} (hr : r < 2) (hx : 0 ≤ x ∧ x ≤ 255) : Re Γ mX5_fitsPerson [.int (nI r), .int x] h sz (some (.int (bI (fitP r x = true)))) h sz := by
  refine x_enter 0 (by decide) rfl ?_
  have e0 : nI r = 0 ↔ r = 0 := nI_eq (b := 0) (by omega) (by decide)
  have ek := kI_neg x
  refine x_iload dX5_fitsPerson_0 rfl ?_
  refine x_if_ne dX5_fitsPerson_1 (fun b1 => ?_) (fun b1 => ?_)
  · refine x_iload dX5_fitsPerson_20 rfl ?_
    refine x_k dX5_fitsPerson_21 ?_
    refine x_icmp_eq dX5_fitsPerson_23 (fun b23 => ?_) (fun b23 => ?_)
    · refine x_k dX5_fitsPerson_38 ?_
      refine x_goto dX5_fitsPerson_39 ?_
      refine x_iret (ty := .boolean) dX5_fitsPerson_43 rfl (by first | rfl | exact nzb) (Nat.zero_le _) (Nat.zero_le _) ?_
      exact ⟨by simp_all [fitP] <;> (intro q; exact absurd q (Int32.not_le.mpr (by assumption))), rfl, rfl⟩
    · refine x_iload dX5_fitsPerson_26 rfl ?_
      refine x_k dX5_fitsPerson_27 ?_
      refine x_icmp_lt dX5_fitsPerson_29 (fun b29 => ?_) (fun b29 => ?_)
      · refine x_k dX5_fitsPerson_42 ?_
        refine x_iret (ty := .boolean) dX5_fitsPerson_43 rfl (by first | rfl | exact nzb) (Nat.zero_le _) (Nat.zero_le _) ?_
        exact ⟨by simp_all [fitP] <;> (intro q; exact absurd q (Int32.not_le.mpr (by assumption))), rfl, rfl⟩
      · refine x_iload dX5_fitsPerson_32 rfl ?_
        refine x_k dX5_fitsPerson_33 ?_
        refine x_icmp_gt dX5_fitsPerson_35 (fun b35 => ?_) (fun b35 => ?_)
        · refine x_k dX5_fitsPerson_42 ?_
          refine x_iret (ty := .boolean) dX5_fitsPerson_43 rfl (by first | rfl | exact nzb) (Nat.zero_le _) (Nat.zero_le _) ?_
          exact ⟨by simp_all [fitP] <;> (intro q; exact absurd q (Int32.not_le.mpr (by assumption))), rfl, rfl⟩
        · refine x_k dX5_fitsPerson_38 ?_
          refine x_goto dX5_fitsPerson_39 ?_
          refine x_iret (ty := .boolean) dX5_fitsPerson_43 rfl (by first | rfl | exact nzb) (Nat.zero_le _) (Nat.zero_le _) ?_
          exact ⟨by simp_all [fitP] <;> (intro q; exact absurd q (Int32.not_le.mpr (by assumption))), rfl, rfl⟩
  · refine x_ldcS rfl dX5_fitsPerson_4 ?_
    refine x_iload dX5_fitsPerson_6 rfl ?_
    refine x_i2c dX5_fitsPerson_7 ?_
    rw [toC hx]
    refine x_callT (as := [.int x]) ltX5_54 (Rm.of rfl) (cc1 := 0) (cn1 := 0) rfl rfl (Nat.le_of_ble_eq_true rfl) dX5_fitsPerson_8 (r_indexOf hx) ?_
    refine x_if_lt dX5_fitsPerson_11 (fun b11 => ?_) (fun b11 => ?_)
    · try simp only [i01, Classical.not_not] at b11
      refine x_k dX5_fitsPerson_18 ?_
      refine x_iret (ty := .boolean) dX5_fitsPerson_19 rfl (by first | rfl | exact nzb) (Nat.zero_le _) (Nat.zero_le _) ?_
      exact ⟨by simp_all [fitP] <;> (intro q; exact absurd q (Int32.not_le.mpr (by assumption))), rfl, rfl⟩
    · try simp only [i01, Classical.not_not] at b11
      refine x_k dX5_fitsPerson_14 ?_
      refine x_goto dX5_fitsPerson_15 ?_
      refine x_iret (ty := .boolean) dX5_fitsPerson_19 rfl (by first | rfl | exact nzb) (Nat.zero_le _) (Nat.zero_le _) ?_
      exact ⟨by simp_all [fitP] <;> (intro q; exact absurd q (Int32.not_le.mpr (by assumption))), rfl, rfl⟩
theorem r_wrongPerson {n : Nat} {b : Nat → Int32} (h8 : h 8 = cT 9 (nI n)) (h9 : h 9 = ia 24 b) (hn : n ≤ 24) (hb : ∀ i, 0 ≤ b i ∧ b i ≤ 255) : Re Γ mX5_wrongPerson [.ref 8] h sz (some (.int (fauP n b))) h sz := by
  refine x_enter 1 (by decide) rfl ?_
  refine x_k dX5_wrongPerson_0 ?_
  refine x_istore dX5_wrongPerson_1 (Nat.le_of_ble_eq_true rfl) rfl ?_
  refine x_eq rfl rfl rfl (loopUp (P := fun p => (∀ j, j < p → badP b j = false) → Ex Γ mX5_wrongPerson _ 0 0 2 [.ref 8, .int (nI p)] [] h sz) n ?_ (fun p hp ih => ?_) 0 (Nat.zero_le _) (fun j hj => absurd hj (Nat.not_lt_zero _)))
  · intro hno
    have e2 : nI (n % 2) = 0 ↔ n % 2 = 0 := nI_eq (b := 0) (by omega) (by decide)
    refine x_iload dX5_wrongPerson_2 rfl ?_
    refine x_aload dX5_wrongPerson_3 rfl ?_
    refine x_get fX5_37 dX5_wrongPerson_4 (by first | assumption | rfl) ?_
    refine x_icmp_ge dX5_wrongPerson_7 (fun b7 => ?_) (fun b7 => ?_)
    · refine x_aload dX5_wrongPerson_39 rfl ?_
      refine x_get fX5_37 dX5_wrongPerson_40 (by first | assumption | rfl) ?_
      refine x_k dX5_wrongPerson_43 ?_
      refine x_iremn (d := 2) dX5_wrongPerson_44 (by omega) (by decide) ?_
      refine x_if_ne dX5_wrongPerson_45 (fun b45 => ?_) (fun b45 => ?_)
      · refine x_aload dX5_wrongPerson_52 rfl ?_
        refine x_get fX5_37 dX5_wrongPerson_53 (by first | assumption | rfl) ?_
        refine x_iret (ty := .int) dX5_wrongPerson_56 rfl rfl (Nat.zero_le _) (Nat.zero_le _) ?_
        exact ⟨by rw [fauP_end hno]; simp_all, rfl, rfl⟩
      · refine x_k dX5_wrongPerson_48 ?_
        refine x_goto dX5_wrongPerson_49 ?_
        refine x_iret (ty := .int) dX5_wrongPerson_56 rfl rfl (Nat.zero_le _) (Nat.zero_le _) ?_
        exact ⟨by rw [fauP_end hno]; simp_all, rfl, rfl⟩
    · exact absurd (Int32.le_refl _) b7
  · intro hno
    have e24 : nI p = 16 ↔ p = 16 := nI_eq (b := 16) (by omega) (by decide)
    refine x_iload dX5_wrongPerson_2 rfl ?_
    refine x_aload dX5_wrongPerson_3 rfl ?_
    refine x_get fX5_37 dX5_wrongPerson_4 (by first | assumption | rfl) ?_
    refine x_icmp_ge dX5_wrongPerson_7 (fun b7 => ?_) (fun b7 => ?_)
    · exact absurd b7 (nI_ge hp (by omega))
    · refine x_iload dX5_wrongPerson_10 rfl ?_
      refine x_k dX5_wrongPerson_11 ?_
      refine x_icmp_eq dX5_wrongPerson_13 (fun b13 => ?_) (fun b13 => ?_)
      · refine x_iload dX5_wrongPerson_31 rfl ?_
        refine x_iret (ty := .int) dX5_wrongPerson_32 rfl rfl (Nat.zero_le _) (Nat.zero_le _) ?_
        exact ⟨by rw [fauP_at hp hno (by simp_all [badP])], rfl, rfl⟩
      · refine x_iload dX5_wrongPerson_16 rfl ?_
        refine x_k dX5_wrongPerson_17 ?_
        refine x_iremn (d := 2) dX5_wrongPerson_18 (by omega) (by decide) ?_
        refine x_aload dX5_wrongPerson_19 rfl ?_
        refine x_get fX5_42 dX5_wrongPerson_20 (by first | assumption | rfl) ?_
        refine x_iload dX5_wrongPerson_23 rfl ?_
        refine x_ialdn dX5_wrongPerson_24 (by first | assumption | rfl) ⟨by first | omega | decide, by decide⟩ ?_
        refine x_S2i lX5_49 (Rm.of rfl) (cc1 := 0) (cn1 := 0) rfl rfl (Nat.le_of_ble_eq_true rfl) dX5_wrongPerson_25 (r_fitsPerson (by omega) (hb p)) ?_
        refine x_if_ne dX5_wrongPerson_28 (fun b28 => ?_) (fun b28 => ?_)
        · try simp only [i01, Classical.not_not] at b28
          refine x_inc1 dX5_wrongPerson_33 rfl (Nat.le_of_ble_eq_true rfl) rfl ?_
          refine x_goto dX5_wrongPerson_36 ?_
          exact ih (fun j hj => (Nat.lt_succ_iff_lt_or_eq.mp hj).elim (hno j) (fun q => by subst q; simp_all [badP]))
        · try simp only [i01, Classical.not_not] at b28
          refine x_iload dX5_wrongPerson_31 rfl ?_
          refine x_iret (ty := .int) dX5_wrongPerson_32 rfl rfl (Nat.zero_le _) (Nat.zero_le _) ?_
          exact ⟨by rw [fauP_at hp hno (by simp_all [badP])], rfl, rfl⟩
/-- the SPOT of one who is told to be at x: 0 the street, else a house's number and one -/
def spF (H : Nat) (x : Int32) : Int32 := if 0 ≤ x - 48 ∧ x - 48 < nI H then x - 48 + 1 else 0
theorem r_spotOf {H N : Int32} {Hn : Nat} (h10 : h 10 = cSt H N) (x : Int32) (hH : H = nI Hn) : Re Γ mX5_spotOf [.ref 10, .int x] h sz (some (.int (spF Hn x))) h sz := by
  refine x_enter 1 (by decide) rfl ?_
  subst hH
  refine x_iload dX5_spotOf_0 rfl ?_
  refine x_k dX5_spotOf_1 ?_
  refine x_isub dX5_spotOf_3 ?_
  refine x_istore dX5_spotOf_4 (Nat.le_of_ble_eq_true rfl) rfl ?_
  refine x_iload dX5_spotOf_5 rfl ?_
  refine x_if_lt dX5_spotOf_6 (fun b6 => ?_) (fun b6 => ?_)
  · refine x_k dX5_spotOf_23 ?_
    refine x_iret (ty := .int) dX5_spotOf_24 rfl rfl (Nat.zero_le _) (Nat.zero_le _) ?_
    exact ⟨by simp only [Int32.lt_iff_toInt_lt, Int32.le_iff_toInt_le, spF] at *; congr 2; split <;> first | rfl | omega, rfl, rfl⟩
  · refine x_iload dX5_spotOf_9 rfl ?_
    refine x_aload dX5_spotOf_10 rfl ?_
    refine x_get fX5_9 dX5_spotOf_11 (by first | assumption | rfl) ?_
    refine x_icmp_ge dX5_spotOf_14 (fun b14 => ?_) (fun b14 => ?_)
    · refine x_k dX5_spotOf_23 ?_
      refine x_iret (ty := .int) dX5_spotOf_24 rfl rfl (Nat.zero_le _) (Nat.zero_le _) ?_
      exact ⟨by simp only [Int32.lt_iff_toInt_lt, Int32.le_iff_toInt_le, spF] at *; congr 2; split <;> first | rfl | omega, rfl, rfl⟩
    · refine x_iload dX5_spotOf_17 rfl ?_
      refine x_k dX5_spotOf_18 ?_
      refine x_iadd dX5_spotOf_19 ?_
      refine x_goto dX5_spotOf_20 ?_
      refine x_iret (ty := .int) dX5_spotOf_24 rfl rfl (Nat.zero_le _) (Nat.zero_le _) ?_
      exact ⟨by simp only [Int32.lt_iff_toInt_lt, Int32.le_iff_toInt_le, spF] at *; congr 2; split <;> first | rfl | omega, rfl, rfl⟩
end Parse
