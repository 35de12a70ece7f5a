/-! the cells of the system -/
abbrev cX (ss lf : Int32) : Option HC := ob 9 [.ref 5, .ref 10, .ref 17, .ref 20, .ref 25, .ref 28, .ref 39, .ref 45, .ref 48, .int ss, .int lf]
abbrev cTx : Option HC := some (.inl (.object "SoldWithIt$Text", 2, .inr (.inr (.inr (.inr (va_up (va_up (fun _ => none) 0 (some 6)) 1 (some 8)))))))
abbrev cShs : Option HC := some (.inl (.object "SoldWithIt$Sheet", 4, .inr (.inr (.inr (.inr (va_up (va_up (va_up (va_up (fun _ => none) 0 (some 49)) 1 (some 51)) 2 (some 53)) 3 (some 55)))))))
abbrev cT (b : Nat) (n : Int32) : Option HC := ob 8 [.ref b, .int n]
abbrev cSt (H N : Int32) : Option HC := ob 5 [.int H, .int N, .ref 11, .ref 12, .ref 13, .ref 14, .ref 15, .ref 16]
abbrev cSa (lw n : Int32) : Option HC := ob 3 [.int lw, .int n, .ref 18, .ref 19]
abbrev cTa : Option HC := ob 7 [.ref 26, .ref 27]
abbrev cR (en : Value) (pe sp si fi rk wk rs fr wy : Int32) : Option HC := ob 2 [.ref 29, .ref 34, .ref 35, .ref 36, .ref 37, en, .int pe, .int sp, .int si, .int fi, .int rk, .int wk, .int rs, .int fr, .int wy, .ref 38]
abbrev cD (fe qu : Value) (wt fi : Int32) : Option HC := ob 0 [.ref 40, fe, qu, .int wt, .int fi]
abbrev cF (n : Int32) : Option HC := ob 1 [.int n, .ref 46, .ref 47]
abbrev cSh (b : Nat) (fo si : Int32) : Option HC := ob 4 [.int fo, .int si, .ref b]
abbrev cK (a b c d : Nat) (so dn ll : Int32) : Option HC := ob 6 [.ref a, .ref b, .ref c, .ref d, .int so, .int dn, .int ll]
abbrev cM (hs pe sa ll fa fi : Int32) : Option HC := ob 10 [.ref 58, .ref 59, .int hs, .ref 60, .ref 61, .int pe, .ref 62, .ref 63, .ref 64, .int sa, .ref 65, .ref 66, .ref 67, .ref 68, .ref 69, .ref 70, .ref 71, .int ll, .ref 72, .ref 73, .ref 74, .ref 75, .ref 76, .int fa, .ref 77, .ref 78, .ref 79, .ref 80, .ref 81, .ref 82, .ref 83, .ref 84, .int fi]
abbrev bI (c : Prop) [Decidable c] : Int32 := if c then 1 else 0
theorem i01 {c : Prop} [Decidable c] : (if c then (1 : Int32) else 0) = 0 ↔ ¬ c := by
  by_cases h : c <;> simp [h]
theorem loopUp {P : Nat → Prop} (n : Nat) (hx : P n) (hs : ∀ p, p < n → P (p + 1) → P p) : ∀ p, p ≤ n → P p := by
  intro p hp
  obtain ⟨k, hk⟩ : ∃ k, p + k = n := ⟨n - p, by omega⟩
  induction k generalizing p with
  | zero => have : p = n := by omega
            subst this; exact hx
  | succ k ih => exact hs p (by omega) (ih (p + 1) (by omega) (by omega))
/-- a row filled from 0 to k -/
def filF (f : Nat → Int32) (v : Int32) (k : Nat) : Nat → Int32 := fun j => if j < k then v else f j
theorem filF_0 (f : Nat → Int32) (v : Int32) : filF f v 0 = f := by funext j; simp [filF]
theorem filF_s (f : Nat → Int32) (v : Int32) (k : Nat) : upd (filF f v k) k v = filF f v (k + 1) := by
  funext j
  by_cases h : j = k
  · subst h; simp [filF, upd]
  · by_cases h2 : j < k
    · simp [filF, upd, h, h2, Nat.lt_succ_of_lt h2]
    · have : ¬ j < k + 1 := by omega
      simp [filF, upd, h, h2, this]
section Leaf2
variable {Γ : GX} {h : Hp} {sz : Nat}
theorem r_fill_13 {n : Nat} {f : Nat → Int32} {v : Int32} (h0 : h 13 = ia n f) (hn : n < 2 ^ 31) : Re Γ mJ7_fill_53178 [.ref 13, .int v] h sz none (va_up h 13 (ia n (filF f v n))) sz := by
  refine x_enterJ 2 (by decide +kernel) rfl ?_
  refine x_k dJ7_fill_53178_0 ?_
  refine x_istore dJ7_fill_53178_1 (Nat.le_of_ble_eq_true rfl) rfl ?_
  refine x_aload dJ7_fill_53178_2 rfl ?_
  refine x_alen dJ7_fill_53178_3 (by first | assumption | rfl) ?_
  refine x_istore dJ7_fill_53178_4 (Nat.le_of_ble_eq_true rfl) rfl ?_
  have e : h = va_up h 13 (ia n (filF f v 0)) := by rw [filF_0]; exact (up_id h0).symm
  refine x_eq rfl rfl e (loopUp (P := fun p => Ex Γ mJ7_fill_53178 _ 0 0 5 [.ref 13, .int v, .int (nI p), .int (nI n)] [] (va_up h 13 (ia n (filF f v p))) sz) n ?_ (fun p hp ih => ?_) 0 (Nat.zero_le _))
  · refine x_iload dJ7_fill_53178_5 rfl ?_
    refine x_iload dJ7_fill_53178_6 rfl ?_
    refine x_icmp_ge dJ7_fill_53178_7 (fun b7 => ?_) (fun b7 => ?_)
    · refine x_vret dJ7_fill_53178_20 rfl (Nat.zero_le _) (Nat.zero_le _) ?_
      exact ⟨rfl, rfl, rfl⟩
    · exact absurd (Int32.le_refl _) b7
  · refine x_iload dJ7_fill_53178_5 rfl ?_
    refine x_iload dJ7_fill_53178_6 rfl ?_
    refine x_icmp_ge dJ7_fill_53178_7 (fun b7 => ?_) (fun b7 => ?_)
    · exact absurd b7 (nI_ge hp hn)
    · refine x_aload dJ7_fill_53178_10 rfl ?_
      refine x_iload dJ7_fill_53178_11 rfl ?_
      refine x_iload dJ7_fill_53178_12 rfl ?_
      refine x_iast dJ7_fill_53178_13 (by first | assumption | rfl) (vp_in_nI hp hn) ?_
      refine x_inc1 dJ7_fill_53178_14 rfl (Nat.le_of_ble_eq_true rfl) rfl ?_
      refine x_goto dJ7_fill_53178_17 ?_
      refine x_eq rfl rfl ?_ ih
      rw [nI_clamp (by omega), up_up, filF_s]
theorem r_fill_16 {n : Nat} {f : Nat → Int32} {v : Int32} (h0 : h 16 = ia n f) (hn : n < 2 ^ 31) : Re Γ mJ7_fill_53178 [.ref 16, .int v] h sz none (va_up h 16 (ia n (filF f v n))) sz := by
  refine x_enterJ 2 (by decide +kernel) rfl ?_
  refine x_k dJ7_fill_53178_0 ?_
  refine x_istore dJ7_fill_53178_1 (Nat.le_of_ble_eq_true rfl) rfl ?_
  refine x_aload dJ7_fill_53178_2 rfl ?_
  refine x_alen dJ7_fill_53178_3 (by first | assumption | rfl) ?_
  refine x_istore dJ7_fill_53178_4 (Nat.le_of_ble_eq_true rfl) rfl ?_
  have e : h = va_up h 16 (ia n (filF f v 0)) := by rw [filF_0]; exact (up_id h0).symm
  refine x_eq rfl rfl e (loopUp (P := fun p => Ex Γ mJ7_fill_53178 _ 0 0 5 [.ref 16, .int v, .int (nI p), .int (nI n)] [] (va_up h 16 (ia n (filF f v p))) sz) n ?_ (fun p hp ih => ?_) 0 (Nat.zero_le _))
  · refine x_iload dJ7_fill_53178_5 rfl ?_
    refine x_iload dJ7_fill_53178_6 rfl ?_
    refine x_icmp_ge dJ7_fill_53178_7 (fun b7 => ?_) (fun b7 => ?_)
    · refine x_vret dJ7_fill_53178_20 rfl (Nat.zero_le _) (Nat.zero_le _) ?_
      exact ⟨rfl, rfl, rfl⟩
    · exact absurd (Int32.le_refl _) b7
  · refine x_iload dJ7_fill_53178_5 rfl ?_
    refine x_iload dJ7_fill_53178_6 rfl ?_
    refine x_icmp_ge dJ7_fill_53178_7 (fun b7 => ?_) (fun b7 => ?_)
    · exact absurd b7 (nI_ge hp hn)
    · refine x_aload dJ7_fill_53178_10 rfl ?_
      refine x_iload dJ7_fill_53178_11 rfl ?_
      refine x_iload dJ7_fill_53178_12 rfl ?_
      refine x_iast dJ7_fill_53178_13 (by first | assumption | rfl) (vp_in_nI hp hn) ?_
      refine x_inc1 dJ7_fill_53178_14 rfl (Nat.le_of_ble_eq_true rfl) rfl ?_
      refine x_goto dJ7_fill_53178_17 ?_
      refine x_eq rfl rfl ?_ ih
      rw [nI_clamp (by omega), up_up, filF_s]
theorem r_fill_24 {n : Nat} {f : Nat → Int32} {v : Int32} (h0 : h 24 = ia n f) (hn : n < 2 ^ 31) : Re Γ mJ7_fill_53178 [.ref 24, .int v] h sz none (va_up h 24 (ia n (filF f v n))) sz := by
  refine x_enterJ 2 (by decide +kernel) rfl ?_
  refine x_k dJ7_fill_53178_0 ?_
  refine x_istore dJ7_fill_53178_1 (Nat.le_of_ble_eq_true rfl) rfl ?_
  refine x_aload dJ7_fill_53178_2 rfl ?_
  refine x_alen dJ7_fill_53178_3 (by first | assumption | rfl) ?_
  refine x_istore dJ7_fill_53178_4 (Nat.le_of_ble_eq_true rfl) rfl ?_
  have e : h = va_up h 24 (ia n (filF f v 0)) := by rw [filF_0]; exact (up_id h0).symm
  refine x_eq rfl rfl e (loopUp (P := fun p => Ex Γ mJ7_fill_53178 _ 0 0 5 [.ref 24, .int v, .int (nI p), .int (nI n)] [] (va_up h 24 (ia n (filF f v p))) sz) n ?_ (fun p hp ih => ?_) 0 (Nat.zero_le _))
  · refine x_iload dJ7_fill_53178_5 rfl ?_
    refine x_iload dJ7_fill_53178_6 rfl ?_
    refine x_icmp_ge dJ7_fill_53178_7 (fun b7 => ?_) (fun b7 => ?_)
    · refine x_vret dJ7_fill_53178_20 rfl (Nat.zero_le _) (Nat.zero_le _) ?_
      exact ⟨rfl, rfl, rfl⟩
    · exact absurd (Int32.le_refl _) b7
  · refine x_iload dJ7_fill_53178_5 rfl ?_
    refine x_iload dJ7_fill_53178_6 rfl ?_
    refine x_icmp_ge dJ7_fill_53178_7 (fun b7 => ?_) (fun b7 => ?_)
    · exact absurd b7 (nI_ge hp hn)
    · refine x_aload dJ7_fill_53178_10 rfl ?_
      refine x_iload dJ7_fill_53178_11 rfl ?_
      refine x_iload dJ7_fill_53178_12 rfl ?_
      refine x_iast dJ7_fill_53178_13 (by first | assumption | rfl) (vp_in_nI hp hn) ?_
      refine x_inc1 dJ7_fill_53178_14 rfl (Nat.le_of_ble_eq_true rfl) rfl ?_
      refine x_goto dJ7_fill_53178_17 ?_
      refine x_eq rfl rfl ?_ ih
      rw [nI_clamp (by omega), up_up, filF_s]
theorem r_fill_33 {n : Nat} {f : Nat → Int32} {v : Int32} (h0 : h 33 = ia n f) (hn : n < 2 ^ 31) : Re Γ mJ7_fill_53178 [.ref 33, .int v] h sz none (va_up h 33 (ia n (filF f v n))) sz := by
  refine x_enterJ 2 (by decide +kernel) rfl ?_
  refine x_k dJ7_fill_53178_0 ?_
  refine x_istore dJ7_fill_53178_1 (Nat.le_of_ble_eq_true rfl) rfl ?_
  refine x_aload dJ7_fill_53178_2 rfl ?_
  refine x_alen dJ7_fill_53178_3 (by first | assumption | rfl) ?_
  refine x_istore dJ7_fill_53178_4 (Nat.le_of_ble_eq_true rfl) rfl ?_
  have e : h = va_up h 33 (ia n (filF f v 0)) := by rw [filF_0]; exact (up_id h0).symm
  refine x_eq rfl rfl e (loopUp (P := fun p => Ex Γ mJ7_fill_53178 _ 0 0 5 [.ref 33, .int v, .int (nI p), .int (nI n)] [] (va_up h 33 (ia n (filF f v p))) sz) n ?_ (fun p hp ih => ?_) 0 (Nat.zero_le _))
  · refine x_iload dJ7_fill_53178_5 rfl ?_
    refine x_iload dJ7_fill_53178_6 rfl ?_
    refine x_icmp_ge dJ7_fill_53178_7 (fun b7 => ?_) (fun b7 => ?_)
    · refine x_vret dJ7_fill_53178_20 rfl (Nat.zero_le _) (Nat.zero_le _) ?_
      exact ⟨rfl, rfl, rfl⟩
    · exact absurd (Int32.le_refl _) b7
  · refine x_iload dJ7_fill_53178_5 rfl ?_
    refine x_iload dJ7_fill_53178_6 rfl ?_
    refine x_icmp_ge dJ7_fill_53178_7 (fun b7 => ?_) (fun b7 => ?_)
    · exact absurd b7 (nI_ge hp hn)
    · refine x_aload dJ7_fill_53178_10 rfl ?_
      refine x_iload dJ7_fill_53178_11 rfl ?_
      refine x_iload dJ7_fill_53178_12 rfl ?_
      refine x_iast dJ7_fill_53178_13 (by first | assumption | rfl) (vp_in_nI hp hn) ?_
      refine x_inc1 dJ7_fill_53178_14 rfl (Nat.le_of_ble_eq_true rfl) rfl ?_
      refine x_goto dJ7_fill_53178_17 ?_
      refine x_eq rfl rfl ?_ ih
      rw [nI_clamp (by omega), up_up, filF_s]
theorem r_fill_50 {n : Nat} {f : Nat → Int32} {v : Int32} (h0 : h 50 = ia n f) (hn : n < 2 ^ 31) : Re Γ mJ7_fill_53178 [.ref 50, .int v] h sz none (va_up h 50 (ia n (filF f v n))) sz := by
  refine x_enterJ 2 (by decide +kernel) rfl ?_
  refine x_k dJ7_fill_53178_0 ?_
  refine x_istore dJ7_fill_53178_1 (Nat.le_of_ble_eq_true rfl) rfl ?_
  refine x_aload dJ7_fill_53178_2 rfl ?_
  refine x_alen dJ7_fill_53178_3 (by first | assumption | rfl) ?_
  refine x_istore dJ7_fill_53178_4 (Nat.le_of_ble_eq_true rfl) rfl ?_
  have e : h = va_up h 50 (ia n (filF f v 0)) := by rw [filF_0]; exact (up_id h0).symm
  refine x_eq rfl rfl e (loopUp (P := fun p => Ex Γ mJ7_fill_53178 _ 0 0 5 [.ref 50, .int v, .int (nI p), .int (nI n)] [] (va_up h 50 (ia n (filF f v p))) sz) n ?_ (fun p hp ih => ?_) 0 (Nat.zero_le _))
  · refine x_iload dJ7_fill_53178_5 rfl ?_
    refine x_iload dJ7_fill_53178_6 rfl ?_
    refine x_icmp_ge dJ7_fill_53178_7 (fun b7 => ?_) (fun b7 => ?_)
    · refine x_vret dJ7_fill_53178_20 rfl (Nat.zero_le _) (Nat.zero_le _) ?_
      exact ⟨rfl, rfl, rfl⟩
    · exact absurd (Int32.le_refl _) b7
  · refine x_iload dJ7_fill_53178_5 rfl ?_
    refine x_iload dJ7_fill_53178_6 rfl ?_
    refine x_icmp_ge dJ7_fill_53178_7 (fun b7 => ?_) (fun b7 => ?_)
    · exact absurd b7 (nI_ge hp hn)
    · refine x_aload dJ7_fill_53178_10 rfl ?_
      refine x_iload dJ7_fill_53178_11 rfl ?_
      refine x_iload dJ7_fill_53178_12 rfl ?_
      refine x_iast dJ7_fill_53178_13 (by first | assumption | rfl) (vp_in_nI hp hn) ?_
      refine x_inc1 dJ7_fill_53178_14 rfl (Nat.le_of_ble_eq_true rfl) rfl ?_
      refine x_goto dJ7_fill_53178_17 ?_
      refine x_eq rfl rfl ?_ ih
      rw [nI_clamp (by omega), up_up, filF_s]
theorem r_fill_52 {n : Nat} {f : Nat → Int32} {v : Int32} (h0 : h 52 = ia n f) (hn : n < 2 ^ 31) : Re Γ mJ7_fill_53178 [.ref 52, .int v] h sz none (va_up h 52 (ia n (filF f v n))) sz := by
  refine x_enterJ 2 (by decide +kernel) rfl ?_
  refine x_k dJ7_fill_53178_0 ?_
  refine x_istore dJ7_fill_53178_1 (Nat.le_of_ble_eq_true rfl) rfl ?_
  refine x_aload dJ7_fill_53178_2 rfl ?_
  refine x_alen dJ7_fill_53178_3 (by first | assumption | rfl) ?_
  refine x_istore dJ7_fill_53178_4 (Nat.le_of_ble_eq_true rfl) rfl ?_
  have e : h = va_up h 52 (ia n (filF f v 0)) := by rw [filF_0]; exact (up_id h0).symm
  refine x_eq rfl rfl e (loopUp (P := fun p => Ex Γ mJ7_fill_53178 _ 0 0 5 [.ref 52, .int v, .int (nI p), .int (nI n)] [] (va_up h 52 (ia n (filF f v p))) sz) n ?_ (fun p hp ih => ?_) 0 (Nat.zero_le _))
  · refine x_iload dJ7_fill_53178_5 rfl ?_
    refine x_iload dJ7_fill_53178_6 rfl ?_
    refine x_icmp_ge dJ7_fill_53178_7 (fun b7 => ?_) (fun b7 => ?_)
    · refine x_vret dJ7_fill_53178_20 rfl (Nat.zero_le _) (Nat.zero_le _) ?_
      exact ⟨rfl, rfl, rfl⟩
    · exact absurd (Int32.le_refl _) b7
  · refine x_iload dJ7_fill_53178_5 rfl ?_
    refine x_iload dJ7_fill_53178_6 rfl ?_
    refine x_icmp_ge dJ7_fill_53178_7 (fun b7 => ?_) (fun b7 => ?_)
    · exact absurd b7 (nI_ge hp hn)
    · refine x_aload dJ7_fill_53178_10 rfl ?_
      refine x_iload dJ7_fill_53178_11 rfl ?_
      refine x_iload dJ7_fill_53178_12 rfl ?_
      refine x_iast dJ7_fill_53178_13 (by first | assumption | rfl) (vp_in_nI hp hn) ?_
      refine x_inc1 dJ7_fill_53178_14 rfl (Nat.le_of_ble_eq_true rfl) rfl ?_
      refine x_goto dJ7_fill_53178_17 ?_
      refine x_eq rfl rfl ?_ ih
      rw [nI_clamp (by omega), up_up, filF_s]
theorem r_fill_54 {n : Nat} {f : Nat → Int32} {v : Int32} (h0 : h 54 = ia n f) (hn : n < 2 ^ 31) : Re Γ mJ7_fill_53178 [.ref 54, .int v] h sz none (va_up h 54 (ia n (filF f v n))) sz := by
  refine x_enterJ 2 (by decide +kernel) rfl ?_
  refine x_k dJ7_fill_53178_0 ?_
  refine x_istore dJ7_fill_53178_1 (Nat.le_of_ble_eq_true rfl) rfl ?_
  refine x_aload dJ7_fill_53178_2 rfl ?_
  refine x_alen dJ7_fill_53178_3 (by first | assumption | rfl) ?_
  refine x_istore dJ7_fill_53178_4 (Nat.le_of_ble_eq_true rfl) rfl ?_
  have e : h = va_up h 54 (ia n (filF f v 0)) := by rw [filF_0]; exact (up_id h0).symm
  refine x_eq rfl rfl e (loopUp (P := fun p => Ex Γ mJ7_fill_53178 _ 0 0 5 [.ref 54, .int v, .int (nI p), .int (nI n)] [] (va_up h 54 (ia n (filF f v p))) sz) n ?_ (fun p hp ih => ?_) 0 (Nat.zero_le _))
  · refine x_iload dJ7_fill_53178_5 rfl ?_
    refine x_iload dJ7_fill_53178_6 rfl ?_
    refine x_icmp_ge dJ7_fill_53178_7 (fun b7 => ?_) (fun b7 => ?_)
    · refine x_vret dJ7_fill_53178_20 rfl (Nat.zero_le _) (Nat.zero_le _) ?_
      exact ⟨rfl, rfl, rfl⟩
    · exact absurd (Int32.le_refl _) b7
  · refine x_iload dJ7_fill_53178_5 rfl ?_
    refine x_iload dJ7_fill_53178_6 rfl ?_
    refine x_icmp_ge dJ7_fill_53178_7 (fun b7 => ?_) (fun b7 => ?_)
    · exact absurd b7 (nI_ge hp hn)
    · refine x_aload dJ7_fill_53178_10 rfl ?_
      refine x_iload dJ7_fill_53178_11 rfl ?_
      refine x_iload dJ7_fill_53178_12 rfl ?_
      refine x_iast dJ7_fill_53178_13 (by first | assumption | rfl) (vp_in_nI hp hn) ?_
      refine x_inc1 dJ7_fill_53178_14 rfl (Nat.le_of_ble_eq_true rfl) rfl ?_
      refine x_goto dJ7_fill_53178_17 ?_
      refine x_eq rfl rfl ?_ ih
      rw [nI_clamp (by omega), up_up, filF_s]
theorem r_fill_56 {n : Nat} {f : Nat → Int32} {v : Int32} (h0 : h 56 = ia n f) (hn : n < 2 ^ 31) : Re Γ mJ7_fill_53178 [.ref 56, .int v] h sz none (va_up h 56 (ia n (filF f v n))) sz := by
  refine x_enterJ 2 (by decide +kernel) rfl ?_
  refine x_k dJ7_fill_53178_0 ?_
  refine x_istore dJ7_fill_53178_1 (Nat.le_of_ble_eq_true rfl) rfl ?_
  refine x_aload dJ7_fill_53178_2 rfl ?_
  refine x_alen dJ7_fill_53178_3 (by first | assumption | rfl) ?_
  refine x_istore dJ7_fill_53178_4 (Nat.le_of_ble_eq_true rfl) rfl ?_
  have e : h = va_up h 56 (ia n (filF f v 0)) := by rw [filF_0]; exact (up_id h0).symm
  refine x_eq rfl rfl e (loopUp (P := fun p => Ex Γ mJ7_fill_53178 _ 0 0 5 [.ref 56, .int v, .int (nI p), .int (nI n)] [] (va_up h 56 (ia n (filF f v p))) sz) n ?_ (fun p hp ih => ?_) 0 (Nat.zero_le _))
  · refine x_iload dJ7_fill_53178_5 rfl ?_
    refine x_iload dJ7_fill_53178_6 rfl ?_
    refine x_icmp_ge dJ7_fill_53178_7 (fun b7 => ?_) (fun b7 => ?_)
    · refine x_vret dJ7_fill_53178_20 rfl (Nat.zero_le _) (Nat.zero_le _) ?_
      exact ⟨rfl, rfl, rfl⟩
    · exact absurd (Int32.le_refl _) b7
  · refine x_iload dJ7_fill_53178_5 rfl ?_
    refine x_iload dJ7_fill_53178_6 rfl ?_
    refine x_icmp_ge dJ7_fill_53178_7 (fun b7 => ?_) (fun b7 => ?_)
    · exact absurd b7 (nI_ge hp hn)
    · refine x_aload dJ7_fill_53178_10 rfl ?_
      refine x_iload dJ7_fill_53178_11 rfl ?_
      refine x_iload dJ7_fill_53178_12 rfl ?_
      refine x_iast dJ7_fill_53178_13 (by first | assumption | rfl) (vp_in_nI hp hn) ?_
      refine x_inc1 dJ7_fill_53178_14 rfl (Nat.le_of_ble_eq_true rfl) rfl ?_
      refine x_goto dJ7_fill_53178_17 ?_
      refine x_eq rfl rfl ?_ ih
      rw [nI_clamp (by omega), up_up, filF_s]
theorem r_fill_37 {n : Nat} {f : Nat → Int32} {v : Int32} (h0 : h 37 = ia n f) (hn : n < 2 ^ 31) : Re Γ mJ7_fill_53178 [.ref 37, .int v] h sz none (va_up h 37 (ia n (filF f v n))) sz := by
  refine x_enterJ 2 (by decide +kernel) rfl ?_
  refine x_k dJ7_fill_53178_0 ?_
  refine x_istore dJ7_fill_53178_1 (Nat.le_of_ble_eq_true rfl) rfl ?_
  refine x_aload dJ7_fill_53178_2 rfl ?_
  refine x_alen dJ7_fill_53178_3 (by first | assumption | rfl) ?_
  refine x_istore dJ7_fill_53178_4 (Nat.le_of_ble_eq_true rfl) rfl ?_
  have e : h = va_up h 37 (ia n (filF f v 0)) := by rw [filF_0]; exact (up_id h0).symm
  refine x_eq rfl rfl e (loopUp (P := fun p => Ex Γ mJ7_fill_53178 _ 0 0 5 [.ref 37, .int v, .int (nI p), .int (nI n)] [] (va_up h 37 (ia n (filF f v p))) sz) n ?_ (fun p hp ih => ?_) 0 (Nat.zero_le _))
  · refine x_iload dJ7_fill_53178_5 rfl ?_
    refine x_iload dJ7_fill_53178_6 rfl ?_
    refine x_icmp_ge dJ7_fill_53178_7 (fun b7 => ?_) (fun b7 => ?_)
    · refine x_vret dJ7_fill_53178_20 rfl (Nat.zero_le _) (Nat.zero_le _) ?_
      exact ⟨rfl, rfl, rfl⟩
    · exact absurd (Int32.le_refl _) b7
  · refine x_iload dJ7_fill_53178_5 rfl ?_
    refine x_iload dJ7_fill_53178_6 rfl ?_
    refine x_icmp_ge dJ7_fill_53178_7 (fun b7 => ?_) (fun b7 => ?_)
    · exact absurd b7 (nI_ge hp hn)
    · refine x_aload dJ7_fill_53178_10 rfl ?_
      refine x_iload dJ7_fill_53178_11 rfl ?_
      refine x_iload dJ7_fill_53178_12 rfl ?_
      refine x_iast dJ7_fill_53178_13 (by first | assumption | rfl) (vp_in_nI hp hn) ?_
      refine x_inc1 dJ7_fill_53178_14 rfl (Nat.le_of_ble_eq_true rfl) rfl ?_
      refine x_goto dJ7_fill_53178_17 ?_
      refine x_eq rfl rfl ?_ ih
      rw [nI_clamp (by omega), up_up, filF_s]
theorem r_fill_38 {n : Nat} {f : Nat → Int32} {v : Int32} (h0 : h 38 = ia n f) (hn : n < 2 ^ 31) : Re Γ mJ7_fill_53178 [.ref 38, .int v] h sz none (va_up h 38 (ia n (filF f v n))) sz := by
  refine x_enterJ 2 (by decide +kernel) rfl ?_
  refine x_k dJ7_fill_53178_0 ?_
  refine x_istore dJ7_fill_53178_1 (Nat.le_of_ble_eq_true rfl) rfl ?_
  refine x_aload dJ7_fill_53178_2 rfl ?_
  refine x_alen dJ7_fill_53178_3 (by first | assumption | rfl) ?_
  refine x_istore dJ7_fill_53178_4 (Nat.le_of_ble_eq_true rfl) rfl ?_
  have e : h = va_up h 38 (ia n (filF f v 0)) := by rw [filF_0]; exact (up_id h0).symm
  refine x_eq rfl rfl e (loopUp (P := fun p => Ex Γ mJ7_fill_53178 _ 0 0 5 [.ref 38, .int v, .int (nI p), .int (nI n)] [] (va_up h 38 (ia n (filF f v p))) sz) n ?_ (fun p hp ih => ?_) 0 (Nat.zero_le _))
  · refine x_iload dJ7_fill_53178_5 rfl ?_
    refine x_iload dJ7_fill_53178_6 rfl ?_
    refine x_icmp_ge dJ7_fill_53178_7 (fun b7 => ?_) (fun b7 => ?_)
    · refine x_vret dJ7_fill_53178_20 rfl (Nat.zero_le _) (Nat.zero_le _) ?_
      exact ⟨rfl, rfl, rfl⟩
    · exact absurd (Int32.le_refl _) b7
  · refine x_iload dJ7_fill_53178_5 rfl ?_
    refine x_iload dJ7_fill_53178_6 rfl ?_
    refine x_icmp_ge dJ7_fill_53178_7 (fun b7 => ?_) (fun b7 => ?_)
    · exact absurd b7 (nI_ge hp hn)
    · refine x_aload dJ7_fill_53178_10 rfl ?_
      refine x_iload dJ7_fill_53178_11 rfl ?_
      refine x_iload dJ7_fill_53178_12 rfl ?_
      refine x_iast dJ7_fill_53178_13 (by first | assumption | rfl) (vp_in_nI hp hn) ?_
      refine x_inc1 dJ7_fill_53178_14 rfl (Nat.le_of_ble_eq_true rfl) rfl ?_
      refine x_goto dJ7_fill_53178_17 ?_
      refine x_eq rfl rfl ?_ ih
      rw [nI_clamp (by omega), up_up, filF_s]
theorem r_fill_42 {n : Nat} {f : Nat → Int32} {v : Int32} (h0 : h 42 = ia n f) (hn : n < 2 ^ 31) : Re Γ mJ7_fill_53178 [.ref 42, .int v] h sz none (va_up h 42 (ia n (filF f v n))) sz := by
  refine x_enterJ 2 (by decide +kernel) rfl ?_
  refine x_k dJ7_fill_53178_0 ?_
  refine x_istore dJ7_fill_53178_1 (Nat.le_of_ble_eq_true rfl) rfl ?_
  refine x_aload dJ7_fill_53178_2 rfl ?_
  refine x_alen dJ7_fill_53178_3 (by first | assumption | rfl) ?_
  refine x_istore dJ7_fill_53178_4 (Nat.le_of_ble_eq_true rfl) rfl ?_
  have e : h = va_up h 42 (ia n (filF f v 0)) := by rw [filF_0]; exact (up_id h0).symm
  refine x_eq rfl rfl e (loopUp (P := fun p => Ex Γ mJ7_fill_53178 _ 0 0 5 [.ref 42, .int v, .int (nI p), .int (nI n)] [] (va_up h 42 (ia n (filF f v p))) sz) n ?_ (fun p hp ih => ?_) 0 (Nat.zero_le _))
  · refine x_iload dJ7_fill_53178_5 rfl ?_
    refine x_iload dJ7_fill_53178_6 rfl ?_
    refine x_icmp_ge dJ7_fill_53178_7 (fun b7 => ?_) (fun b7 => ?_)
    · refine x_vret dJ7_fill_53178_20 rfl (Nat.zero_le _) (Nat.zero_le _) ?_
      exact ⟨rfl, rfl, rfl⟩
    · exact absurd (Int32.le_refl _) b7
  · refine x_iload dJ7_fill_53178_5 rfl ?_
    refine x_iload dJ7_fill_53178_6 rfl ?_
    refine x_icmp_ge dJ7_fill_53178_7 (fun b7 => ?_) (fun b7 => ?_)
    · exact absurd b7 (nI_ge hp hn)
    · refine x_aload dJ7_fill_53178_10 rfl ?_
      refine x_iload dJ7_fill_53178_11 rfl ?_
      refine x_iload dJ7_fill_53178_12 rfl ?_
      refine x_iast dJ7_fill_53178_13 (by first | assumption | rfl) (vp_in_nI hp hn) ?_
      refine x_inc1 dJ7_fill_53178_14 rfl (Nat.le_of_ble_eq_true rfl) rfl ?_
      refine x_goto dJ7_fill_53178_17 ?_
      refine x_eq rfl rfl ?_ ih
      rw [nI_clamp (by omega), up_up, filF_s]
theorem r_fill_34 {n : Nat} {f : Nat → Int32} {v : Int32} (h0 : h 34 = ia n f) (hn : n < 2 ^ 31) : Re Γ mJ7_fill_53178 [.ref 34, .int v] h sz none (va_up h 34 (ia n (filF f v n))) sz := by
  refine x_enterJ 2 (by decide +kernel) rfl ?_
  refine x_k dJ7_fill_53178_0 ?_
  refine x_istore dJ7_fill_53178_1 (Nat.le_of_ble_eq_true rfl) rfl ?_
  refine x_aload dJ7_fill_53178_2 rfl ?_
  refine x_alen dJ7_fill_53178_3 (by first | assumption | rfl) ?_
  refine x_istore dJ7_fill_53178_4 (Nat.le_of_ble_eq_true rfl) rfl ?_
  have e : h = va_up h 34 (ia n (filF f v 0)) := by rw [filF_0]; exact (up_id h0).symm
  refine x_eq rfl rfl e (loopUp (P := fun p => Ex Γ mJ7_fill_53178 _ 0 0 5 [.ref 34, .int v, .int (nI p), .int (nI n)] [] (va_up h 34 (ia n (filF f v p))) sz) n ?_ (fun p hp ih => ?_) 0 (Nat.zero_le _))
  · refine x_iload dJ7_fill_53178_5 rfl ?_
    refine x_iload dJ7_fill_53178_6 rfl ?_
    refine x_icmp_ge dJ7_fill_53178_7 (fun b7 => ?_) (fun b7 => ?_)
    · refine x_vret dJ7_fill_53178_20 rfl (Nat.zero_le _) (Nat.zero_le _) ?_
      exact ⟨rfl, rfl, rfl⟩
    · exact absurd (Int32.le_refl _) b7
  · refine x_iload dJ7_fill_53178_5 rfl ?_
    refine x_iload dJ7_fill_53178_6 rfl ?_
    refine x_icmp_ge dJ7_fill_53178_7 (fun b7 => ?_) (fun b7 => ?_)
    · exact absurd b7 (nI_ge hp hn)
    · refine x_aload dJ7_fill_53178_10 rfl ?_
      refine x_iload dJ7_fill_53178_11 rfl ?_
      refine x_iload dJ7_fill_53178_12 rfl ?_
      refine x_iast dJ7_fill_53178_13 (by first | assumption | rfl) (vp_in_nI hp hn) ?_
      refine x_inc1 dJ7_fill_53178_14 rfl (Nat.le_of_ble_eq_true rfl) rfl ?_
      refine x_goto dJ7_fill_53178_17 ?_
      refine x_eq rfl rfl ?_ ih
      rw [nI_clamp (by omega), up_up, filF_s]
theorem r_fill_35 {n : Nat} {f : Nat → Int32} {v : Int32} (h0 : h 35 = ia n f) (hn : n < 2 ^ 31) : Re Γ mJ7_fill_53178 [.ref 35, .int v] h sz none (va_up h 35 (ia n (filF f v n))) sz := by
  refine x_enterJ 2 (by decide +kernel) rfl ?_
  refine x_k dJ7_fill_53178_0 ?_
  refine x_istore dJ7_fill_53178_1 (Nat.le_of_ble_eq_true rfl) rfl ?_
  refine x_aload dJ7_fill_53178_2 rfl ?_
  refine x_alen dJ7_fill_53178_3 (by first | assumption | rfl) ?_
  refine x_istore dJ7_fill_53178_4 (Nat.le_of_ble_eq_true rfl) rfl ?_
  have e : h = va_up h 35 (ia n (filF f v 0)) := by rw [filF_0]; exact (up_id h0).symm
  refine x_eq rfl rfl e (loopUp (P := fun p => Ex Γ mJ7_fill_53178 _ 0 0 5 [.ref 35, .int v, .int (nI p), .int (nI n)] [] (va_up h 35 (ia n (filF f v p))) sz) n ?_ (fun p hp ih => ?_) 0 (Nat.zero_le _))
  · refine x_iload dJ7_fill_53178_5 rfl ?_
    refine x_iload dJ7_fill_53178_6 rfl ?_
    refine x_icmp_ge dJ7_fill_53178_7 (fun b7 => ?_) (fun b7 => ?_)
    · refine x_vret dJ7_fill_53178_20 rfl (Nat.zero_le _) (Nat.zero_le _) ?_
      exact ⟨rfl, rfl, rfl⟩
    · exact absurd (Int32.le_refl _) b7
  · refine x_iload dJ7_fill_53178_5 rfl ?_
    refine x_iload dJ7_fill_53178_6 rfl ?_
    refine x_icmp_ge dJ7_fill_53178_7 (fun b7 => ?_) (fun b7 => ?_)
    · exact absurd b7 (nI_ge hp hn)
    · refine x_aload dJ7_fill_53178_10 rfl ?_
      refine x_iload dJ7_fill_53178_11 rfl ?_
      refine x_iload dJ7_fill_53178_12 rfl ?_
      refine x_iast dJ7_fill_53178_13 (by first | assumption | rfl) (vp_in_nI hp hn) ?_
      refine x_inc1 dJ7_fill_53178_14 rfl (Nat.le_of_ble_eq_true rfl) rfl ?_
      refine x_goto dJ7_fill_53178_17 ?_
      refine x_eq rfl rfl ?_ ih
      rw [nI_clamp (by omega), up_up, filF_s]
theorem r_fill_44 {n : Nat} {f : Nat → Int32} {v : Int32} (h0 : h 44 = ia n f) (hn : n < 2 ^ 31) : Re Γ mJ7_fill_53178 [.ref 44, .int v] h sz none (va_up h 44 (ia n (filF f v n))) sz := by
  refine x_enterJ 2 (by decide +kernel) rfl ?_
  refine x_k dJ7_fill_53178_0 ?_
  refine x_istore dJ7_fill_53178_1 (Nat.le_of_ble_eq_true rfl) rfl ?_
  refine x_aload dJ7_fill_53178_2 rfl ?_
  refine x_alen dJ7_fill_53178_3 (by first | assumption | rfl) ?_
  refine x_istore dJ7_fill_53178_4 (Nat.le_of_ble_eq_true rfl) rfl ?_
  have e : h = va_up h 44 (ia n (filF f v 0)) := by rw [filF_0]; exact (up_id h0).symm
  refine x_eq rfl rfl e (loopUp (P := fun p => Ex Γ mJ7_fill_53178 _ 0 0 5 [.ref 44, .int v, .int (nI p), .int (nI n)] [] (va_up h 44 (ia n (filF f v p))) sz) n ?_ (fun p hp ih => ?_) 0 (Nat.zero_le _))
  · refine x_iload dJ7_fill_53178_5 rfl ?_
    refine x_iload dJ7_fill_53178_6 rfl ?_
    refine x_icmp_ge dJ7_fill_53178_7 (fun b7 => ?_) (fun b7 => ?_)
    · refine x_vret dJ7_fill_53178_20 rfl (Nat.zero_le _) (Nat.zero_le _) ?_
      exact ⟨rfl, rfl, rfl⟩
    · exact absurd (Int32.le_refl _) b7
  · refine x_iload dJ7_fill_53178_5 rfl ?_
    refine x_iload dJ7_fill_53178_6 rfl ?_
    refine x_icmp_ge dJ7_fill_53178_7 (fun b7 => ?_) (fun b7 => ?_)
    · exact absurd b7 (nI_ge hp hn)
    · refine x_aload dJ7_fill_53178_10 rfl ?_
      refine x_iload dJ7_fill_53178_11 rfl ?_
      refine x_iload dJ7_fill_53178_12 rfl ?_
      refine x_iast dJ7_fill_53178_13 (by first | assumption | rfl) (vp_in_nI hp hn) ?_
      refine x_inc1 dJ7_fill_53178_14 rfl (Nat.le_of_ble_eq_true rfl) rfl ?_
      refine x_goto dJ7_fill_53178_17 ?_
      refine x_eq rfl rfl ?_ ih
      rw [nI_clamp (by omega), up_up, filF_s]
theorem r_noNumber (t : Int32) : Re Γ mX9_noNumber [.int t] h sz (some (.int (bI (t < 0 ∨ 8 ≤ t)))) h sz := by
  refine x_enter 0 (by decide) rfl ?_
  refine x_iload dX9_noNumber_0 rfl ?_
  refine x_if_lt dX9_noNumber_1 (fun b1 => ?_) (fun b1 => ?_)
  · refine x_k dX9_noNumber_10 ?_
    refine x_goto dX9_noNumber_11 ?_
    refine x_iret (ty := .boolean) dX9_noNumber_15 rfl (by first | rfl | exact nzb) (Nat.zero_le _) (Nat.zero_le _) ?_
    exact ⟨by simp [*], rfl, rfl⟩
  · refine x_iload dX9_noNumber_4 rfl ?_
    refine x_k dX9_noNumber_5 ?_
    refine x_icmp_lt dX9_noNumber_7 (fun b7 => ?_) (fun b7 => ?_)
    · refine x_k dX9_noNumber_14 ?_
      refine x_iret (ty := .boolean) dX9_noNumber_15 rfl (by first | rfl | exact nzb) (Nat.zero_le _) (Nat.zero_le _) ?_
      exact ⟨by simp [*], rfl, rfl⟩
    · refine x_k dX9_noNumber_10 ?_
      refine x_goto dX9_noNumber_11 ?_
      refine x_iret (ty := .boolean) dX9_noNumber_15 rfl (by first | rfl | exact nzb) (Nat.zero_le _) (Nat.zero_le _) ?_
      exact ⟨by simp [*], rfl, rfl⟩
theorem r_noSheet (t : Int32) : Re Γ mX9_noSheet [.int t] h sz (some (.int (bI (t < 0 ∨ 4 ≤ t)))) h sz := by
  refine x_enter 0 (by decide) rfl ?_
  refine x_iload dX9_noSheet_0 rfl ?_
  refine x_if_lt dX9_noSheet_1 (fun b1 => ?_) (fun b1 => ?_)
  · refine x_k dX9_noSheet_9 ?_
    refine x_goto dX9_noSheet_10 ?_
    refine x_iret (ty := .boolean) dX9_noSheet_14 rfl (by first | rfl | exact nzb) (Nat.zero_le _) (Nat.zero_le _) ?_
    exact ⟨by simp [*], rfl, rfl⟩
  · refine x_iload dX9_noSheet_4 rfl ?_
    refine x_k dX9_noSheet_5 ?_
    refine x_icmp_lt dX9_noSheet_6 (fun b6 => ?_) (fun b6 => ?_)
    · refine x_k dX9_noSheet_13 ?_
      refine x_iret (ty := .boolean) dX9_noSheet_14 rfl (by first | rfl | exact nzb) (Nat.zero_le _) (Nat.zero_le _) ?_
      exact ⟨by simp [*], rfl, rfl⟩
    · refine x_k dX9_noSheet_9 ?_
      refine x_goto dX9_noSheet_10 ?_
      refine x_iret (ty := .boolean) dX9_noSheet_14 rfl (by first | rfl | exact nzb) (Nat.zero_le _) (Nat.zero_le _) ?_
      exact ⟨by simp [*], rfl, rfl⟩
theorem r_noForm (t : Int32) : Re Γ mX9_noForm [.int t] h sz (some (.int (bI (t < 0 ∨ 2 < t)))) h sz := by
  refine x_enter 0 (by decide) rfl ?_
  refine x_iload dX9_noForm_0 rfl ?_
  refine x_if_lt dX9_noForm_1 (fun b1 => ?_) (fun b1 => ?_)
  · refine x_k dX9_noForm_9 ?_
    refine x_goto dX9_noForm_10 ?_
    refine x_iret (ty := .boolean) dX9_noForm_14 rfl (by first | rfl | exact nzb) (Nat.zero_le _) (Nat.zero_le _) ?_
    exact ⟨by simp [*], rfl, rfl⟩
  · refine x_iload dX9_noForm_4 rfl ?_
    refine x_k dX9_noForm_5 ?_
    refine x_icmp_le dX9_noForm_6 (fun b6 => ?_) (fun b6 => ?_)
    · refine x_k dX9_noForm_13 ?_
      refine x_iret (ty := .boolean) dX9_noForm_14 rfl (by first | rfl | exact nzb) (Nat.zero_le _) (Nat.zero_le _) ?_
      exact ⟨by simp [*], rfl, rfl⟩
    · refine x_k dX9_noForm_9 ?_
      refine x_goto dX9_noForm_10 ?_
      refine x_iret (ty := .boolean) dX9_noForm_14 rfl (by first | rfl | exact nzb) (Nat.zero_le _) (Nat.zero_le _) ?_
      exact ⟨by simp [*], rfl, rfl⟩
theorem r_noTaste (a b v : Int32) : Re Γ mX9_noTaste [.int a, .int b, .int v] h sz (some (.int (bI ((a < 0 ∨ 8 ≤ a) ∨ (b < 0 ∨ 8 ≤ b) ∨ a = b ∨ v < -9 ∨ 9 < v)))) h sz := by
  refine x_enter 0 (by decide) rfl ?_
  refine x_iload dX9_noTaste_0 rfl ?_
  refine x_S1i lX9_137 (Rm.of rfl) (cc1 := 0) (cn1 := 0) rfl rfl (Nat.le_of_ble_eq_true rfl) dX9_noTaste_1 (r_noNumber a) ?_
  refine x_if_ne dX9_noTaste_4 (fun b4 => ?_) (fun b4 => ?_)
  · try simp only [i01, Classical.not_not] at b4
    refine x_k dX9_noTaste_31 ?_
    refine x_goto dX9_noTaste_32 ?_
    refine x_iret (ty := .boolean) dX9_noTaste_36 rfl (by first | rfl | exact nzb) (Nat.zero_le _) (Nat.zero_le _) ?_
    exact ⟨by simp_all, rfl, rfl⟩
  · try simp only [i01, Classical.not_not] at b4
    refine x_iload dX9_noTaste_7 rfl ?_
    refine x_S1i lX9_137 (Rm.of rfl) (cc1 := 0) (cn1 := 0) rfl rfl (Nat.le_of_ble_eq_true rfl) dX9_noTaste_8 (r_noNumber b) ?_
    refine x_if_ne dX9_noTaste_11 (fun b11 => ?_) (fun b11 => ?_)
    · try simp only [i01, Classical.not_not] at b11
      refine x_k dX9_noTaste_31 ?_
      refine x_goto dX9_noTaste_32 ?_
      refine x_iret (ty := .boolean) dX9_noTaste_36 rfl (by first | rfl | exact nzb) (Nat.zero_le _) (Nat.zero_le _) ?_
      exact ⟨by simp_all, rfl, rfl⟩
    · try simp only [i01, Classical.not_not] at b11
      refine x_iload dX9_noTaste_14 rfl ?_
      refine x_iload dX9_noTaste_15 rfl ?_
      refine x_icmp_eq dX9_noTaste_16 (fun b16 => ?_) (fun b16 => ?_)
      · refine x_k dX9_noTaste_31 ?_
        refine x_goto dX9_noTaste_32 ?_
        refine x_iret (ty := .boolean) dX9_noTaste_36 rfl (by first | rfl | exact nzb) (Nat.zero_le _) (Nat.zero_le _) ?_
        exact ⟨by simp_all, rfl, rfl⟩
      · refine x_iload dX9_noTaste_19 rfl ?_
        refine x_k dX9_noTaste_20 ?_
        refine x_icmp_lt dX9_noTaste_22 (fun b22 => ?_) (fun b22 => ?_)
        · refine x_k dX9_noTaste_31 ?_
          refine x_goto dX9_noTaste_32 ?_
          refine x_iret (ty := .boolean) dX9_noTaste_36 rfl (by first | rfl | exact nzb) (Nat.zero_le _) (Nat.zero_le _) ?_
          exact ⟨by simp_all, rfl, rfl⟩
        · refine x_iload dX9_noTaste_25 rfl ?_
          refine x_k dX9_noTaste_26 ?_
          refine x_icmp_le dX9_noTaste_28 (fun b28 => ?_) (fun b28 => ?_)
          · refine x_k dX9_noTaste_35 ?_
            refine x_iret (ty := .boolean) dX9_noTaste_36 rfl (by first | rfl | exact nzb) (Nat.zero_le _) (Nat.zero_le _) ?_
            exact ⟨by simp_all, rfl, rfl⟩
          · refine x_k dX9_noTaste_31 ?_
            refine x_goto dX9_noTaste_32 ?_
            refine x_iret (ty := .boolean) dX9_noTaste_36 rfl (by first | rfl | exact nzb) (Nat.zero_le _) (Nat.zero_le _) ?_
            exact ⟨by simp_all, rfl, rfl⟩
theorem r_houseAt (t : Int32) : Re Γ mX9_houseAt [.int t] h sz (some (.int (t - 1))) h sz := by
  refine x_enter 0 (by decide) rfl ?_
  refine x_iload dX9_houseAt_0 rfl ?_
  refine x_if_ne dX9_houseAt_1 (fun b1 => ?_) (fun b1 => ?_)
  · refine x_iload dX9_houseAt_8 rfl ?_
    refine x_k dX9_houseAt_9 ?_
    refine x_isub dX9_houseAt_10 ?_
    refine x_iret (ty := .int) dX9_houseAt_11 rfl rfl (Nat.zero_le _) (Nat.zero_le _) ?_
    exact ⟨by simp_all, rfl, rfl⟩
  · refine x_k dX9_houseAt_4 ?_
    refine x_goto dX9_houseAt_5 ?_
    refine x_iret (ty := .int) dX9_houseAt_11 rfl rfl (Nat.zero_le _) (Nat.zero_le _) ?_
    exact ⟨by simp_all, rfl, rfl⟩
theorem r_noHouse {ss lf H N : Int32} (h4 : h 4 = cX ss lf) (h10 : h 10 = cSt H N) (t : Int32) : Re Γ mX9_noHouse [.ref 4, .int t] h sz (some (.int (bI (t < 0 ∨ H ≤ t)))) h sz := by
  refine x_enter 0 (by decide) rfl ?_
  refine x_iload dX9_noHouse_0 rfl ?_
  refine x_if_lt dX9_noHouse_1 (fun b1 => ?_) (fun b1 => ?_)
  · refine x_k dX9_noHouse_15 ?_
    refine x_goto dX9_noHouse_16 ?_
    refine x_iret (ty := .boolean) dX9_noHouse_20 rfl (by first | rfl | exact nzb) (Nat.zero_le _) (Nat.zero_le _) ?_
    exact ⟨by simp_all, rfl, rfl⟩
  · refine x_iload dX9_noHouse_4 rfl ?_
    refine x_aload dX9_noHouse_5 rfl ?_
    refine x_get fX9_21 dX9_noHouse_6 (by first | assumption | rfl) ?_
    refine x_get fX9_197 dX9_noHouse_9 (by first | assumption | rfl) ?_
    refine x_icmp_lt dX9_noHouse_12 (fun b12 => ?_) (fun b12 => ?_)
    · refine x_k dX9_noHouse_19 ?_
      refine x_iret (ty := .boolean) dX9_noHouse_20 rfl (by first | rfl | exact nzb) (Nat.zero_le _) (Nat.zero_le _) ?_
      exact ⟨by simp_all, rfl, rfl⟩
    · refine x_k dX9_noHouse_15 ?_
      refine x_goto dX9_noHouse_16 ?_
      refine x_iret (ty := .boolean) dX9_noHouse_20 rfl (by first | rfl | exact nzb) (Nat.zero_le _) (Nat.zero_le _) ?_
      exact ⟨by simp_all, rfl, rfl⟩
theorem r_nobody {ss lf H N : Int32} (h4 : h 4 = cX ss lf) (h10 : h 10 = cSt H N) (t : Int32) : Re Γ mX9_nobody [.ref 4, .int t] h sz (some (.int (bI (t < 0 ∨ N ≤ t)))) h sz := by
  refine x_enter 0 (by decide) rfl ?_
  refine x_iload dX9_nobody_0 rfl ?_
  refine x_if_lt dX9_nobody_1 (fun b1 => ?_) (fun b1 => ?_)
  · refine x_k dX9_nobody_15 ?_
    refine x_goto dX9_nobody_16 ?_
    refine x_iret (ty := .boolean) dX9_nobody_20 rfl (by first | rfl | exact nzb) (Nat.zero_le _) (Nat.zero_le _) ?_
    exact ⟨by simp_all, rfl, rfl⟩
  · refine x_iload dX9_nobody_4 rfl ?_
    refine x_aload dX9_nobody_5 rfl ?_
    refine x_get fX9_21 dX9_nobody_6 (by first | assumption | rfl) ?_
    refine x_get fX9_200 dX9_nobody_9 (by first | assumption | rfl) ?_
    refine x_icmp_lt dX9_nobody_12 (fun b12 => ?_) (fun b12 => ?_)
    · refine x_k dX9_nobody_19 ?_
      refine x_iret (ty := .boolean) dX9_nobody_20 rfl (by first | rfl | exact nzb) (Nat.zero_le _) (Nat.zero_le _) ?_
      exact ⟨by simp_all, rfl, rfl⟩
    · refine x_k dX9_nobody_15 ?_
      refine x_goto dX9_nobody_16 ?_
      refine x_iret (ty := .boolean) dX9_nobody_20 rfl (by first | rfl | exact nzb) (Nat.zero_le _) (Nat.zero_le _) ?_
      exact ⟨by simp_all, rfl, rfl⟩
theorem r_everybody {ss lf H N : Int32} (h4 : h 4 = cX ss lf) (h10 : h 10 = cSt H N) : Re Γ mX9_everybody [.ref 4] h sz (some (.int (1 <<< (N &&& 31) - 1))) h sz := by
  refine x_enter 0 (by decide) rfl ?_
  refine x_k dX9_everybody_0 ?_
  refine x_aload dX9_everybody_1 rfl ?_
  refine x_get fX9_21 dX9_everybody_2 (by first | assumption | rfl) ?_
  refine x_get fX9_200 dX9_everybody_5 (by first | assumption | rfl) ?_
  refine x_ishl dX9_everybody_8 ?_
  refine x_k dX9_everybody_9 ?_
  refine x_isub dX9_everybody_10 ?_
  refine x_iret (ty := .int) dX9_everybody_11 rfl rfl (Nat.zero_le _) (Nat.zero_le _) ?_
  exact ⟨rfl, rfl, rfl⟩
theorem r_found {ss lf : Int32} (h4 : h 4 = cX ss lf) (t : Int32) : Re Γ mX9_found [.ref 4, .int t] h sz (some (.int (-10 - t))) (va_up h 4 (cX ss t)) sz := by
  refine x_enter 0 (by decide) rfl ?_
  refine x_aload dX9_found_0 rfl ?_
  refine x_iload dX9_found_1 rfl ?_
  refine x_put fX9_78 tt9 gX9_78 dX9_found_2 (by first | assumption | rfl) (Nat.le_of_ble_eq_true rfl) (w9_10 _) ?_
  refine x_k dX9_found_5 ?_
  refine x_iload dX9_found_7 rfl ?_
  refine x_isub dX9_found_8 ?_
  refine x_iret (ty := .int) dX9_found_9 rfl rfl (Nat.zero_le _) (Nat.zero_le _) ?_
  exact ⟨rfl, rfl, rfl⟩
theorem r_Ttakes_6 {n L : Nat} {f : Nat → Int32} {b : Int32} (hA : h 6 = cT 7 (nI n)) (hB : h 7 = ia L f) (hn : n < L) (hL : L < 100) : Re Γ mX8_takes [.ref 6, .int b] h sz (some (.int 1)) (va_up (va_up h 7 (ia L (upd f n b))) 6 (cT 7 (nI (n + 1)))) sz := by
  refine x_enter 0 (by decide) rfl ?_
  refine x_aload dX8_takes_0 rfl ?_
  refine x_get fX8_7 dX8_takes_1 (by first | assumption | rfl) ?_
  refine x_aload dX8_takes_4 rfl ?_
  refine x_get fX8_13 dX8_takes_5 (by first | assumption | rfl) ?_
  refine x_alen dX8_takes_8 (by first | assumption | rfl) ?_
  refine x_icmp_lt dX8_takes_9 (fun b9 => ?_) (fun b9 => ?_)
  · refine x_aload dX8_takes_14 rfl ?_
    refine x_get fX8_13 dX8_takes_15 (by first | assumption | rfl) ?_
    refine x_aload dX8_takes_18 rfl ?_
    refine x_get fX8_7 dX8_takes_19 (by first | assumption | rfl) ?_
    refine x_iload dX8_takes_22 rfl ?_
    refine x_iast dX8_takes_23 (by first | assumption | rfl) (vp_in_nI hn (by omega)) ?_
    refine x_aload dX8_takes_24 rfl ?_
    refine x_dup dX8_takes_25 rfl ?_
    refine x_get fX8_7 dX8_takes_26 (by first | assumption | rfl) ?_
    refine x_k dX8_takes_29 ?_
    refine x_iadd dX8_takes_30 ?_
    refine x_put fX8_7 tt8 gX8_7 dX8_takes_31 (by first | assumption | rfl) (Nat.le_of_ble_eq_true rfl) (w8_1 _) ?_
    refine x_k dX8_takes_34 ?_
    refine x_iret (ty := .boolean) dX8_takes_35 rfl (by first | rfl | exact nzb) (Nat.zero_le _) (Nat.zero_le _) ?_
    exact ⟨rfl, by rw [nI_clamp (by omega), nI_1]; rfl, rfl⟩
  · exact absurd (nI_lt hn (by omega)) b9
theorem r_Tfull_6 {n L : Nat} {f : Nat → Int32} {b : Int32} (hA : h 6 = cT 7 (nI n)) (hB : h 7 = ia L f) (hn : L ≤ n) (hL : n < 100) : Re Γ mX8_takes [.ref 6, .int b] h sz (some (.int 0)) h sz := by
  refine x_enter 0 (by decide) rfl ?_
  refine x_aload dX8_takes_0 rfl ?_
  refine x_get fX8_7 dX8_takes_1 (by first | assumption | rfl) ?_
  refine x_aload dX8_takes_4 rfl ?_
  refine x_get fX8_13 dX8_takes_5 (by first | assumption | rfl) ?_
  refine x_alen dX8_takes_8 (by first | assumption | rfl) ?_
  refine x_icmp_lt dX8_takes_9 (fun b9 => ?_) (fun b9 => ?_)
  · exact absurd b9 (nI_nlt hn (by omega))
  · refine x_k dX8_takes_12 ?_
    refine x_iret (ty := .boolean) dX8_takes_13 rfl (by first | rfl | exact nzb) (Nat.zero_le _) (Nat.zero_le _) ?_
    exact ⟨rfl, rfl, rfl⟩
theorem r_Ttakes_8 {n L : Nat} {f : Nat → Int32} {b : Int32} (hA : h 8 = cT 9 (nI n)) (hB : h 9 = ia L f) (hn : n < L) (hL : L < 100) : Re Γ mX8_takes [.ref 8, .int b] h sz (some (.int 1)) (va_up (va_up h 9 (ia L (upd f n b))) 8 (cT 9 (nI (n + 1)))) sz := by
  refine x_enter 0 (by decide) rfl ?_
  refine x_aload dX8_takes_0 rfl ?_
  refine x_get fX8_7 dX8_takes_1 (by first | assumption | rfl) ?_
  refine x_aload dX8_takes_4 rfl ?_
  refine x_get fX8_13 dX8_takes_5 (by first | assumption | rfl) ?_
  refine x_alen dX8_takes_8 (by first | assumption | rfl) ?_
  refine x_icmp_lt dX8_takes_9 (fun b9 => ?_) (fun b9 => ?_)
  · refine x_aload dX8_takes_14 rfl ?_
    refine x_get fX8_13 dX8_takes_15 (by first | assumption | rfl) ?_
    refine x_aload dX8_takes_18 rfl ?_
    refine x_get fX8_7 dX8_takes_19 (by first | assumption | rfl) ?_
    refine x_iload dX8_takes_22 rfl ?_
    refine x_iast dX8_takes_23 (by first | assumption | rfl) (vp_in_nI hn (by omega)) ?_
    refine x_aload dX8_takes_24 rfl ?_
    refine x_dup dX8_takes_25 rfl ?_
    refine x_get fX8_7 dX8_takes_26 (by first | assumption | rfl) ?_
    refine x_k dX8_takes_29 ?_
    refine x_iadd dX8_takes_30 ?_
    refine x_put fX8_7 tt8 gX8_7 dX8_takes_31 (by first | assumption | rfl) (Nat.le_of_ble_eq_true rfl) (w8_1 _) ?_
    refine x_k dX8_takes_34 ?_
    refine x_iret (ty := .boolean) dX8_takes_35 rfl (by first | rfl | exact nzb) (Nat.zero_le _) (Nat.zero_le _) ?_
    exact ⟨rfl, by rw [nI_clamp (by omega), nI_1]; rfl, rfl⟩
  · exact absurd (nI_lt hn (by omega)) b9
theorem r_Tfull_8 {n L : Nat} {f : Nat → Int32} {b : Int32} (hA : h 8 = cT 9 (nI n)) (hB : h 9 = ia L f) (hn : L ≤ n) (hL : n < 100) : Re Γ mX8_takes [.ref 8, .int b] h sz (some (.int 0)) h sz := by
  refine x_enter 0 (by decide) rfl ?_
  refine x_aload dX8_takes_0 rfl ?_
  refine x_get fX8_7 dX8_takes_1 (by first | assumption | rfl) ?_
  refine x_aload dX8_takes_4 rfl ?_
  refine x_get fX8_13 dX8_takes_5 (by first | assumption | rfl) ?_
  refine x_alen dX8_takes_8 (by first | assumption | rfl) ?_
  refine x_icmp_lt dX8_takes_9 (fun b9 => ?_) (fun b9 => ?_)
  · exact absurd b9 (nI_nlt hn (by omega))
  · refine x_k dX8_takes_12 ?_
    refine x_iret (ty := .boolean) dX8_takes_13 rfl (by first | rfl | exact nzb) (Nat.zero_le _) (Nat.zero_le _) ?_
    exact ⟨rfl, rfl, rfl⟩
theorem r_Stakes {n : Nat} {lw a b : Int32} {fh fb : Nat → Int32} (h17 : h 17 = cSa lw (nI n)) (h18 : h 18 = ia 12 fh) (h19 : h 19 = ia 12 fb) (hn : n < 12) : Re Γ mX3_takes [.ref 17, .int a, .int b] h sz (some (.int 1)) (va_up (va_up (va_up h 18 (ia 12 (upd fh n a))) 19 (ia 12 (upd fb n b))) 17 (cSa lw (nI (n + 1)))) sz := by
  refine x_enter 0 (by decide) rfl ?_
  refine x_aload dX3_takes_0 rfl ?_
  refine x_get fX3_15 dX3_takes_1 (by first | assumption | rfl) ?_
  refine x_k dX3_takes_4 ?_
  refine x_icmp_lt dX3_takes_6 (fun b6 => ?_) (fun b6 => ?_)
  · refine x_aload dX3_takes_11 rfl ?_
    refine x_get fX3_18 dX3_takes_12 (by first | assumption | rfl) ?_
    refine x_aload dX3_takes_15 rfl ?_
    refine x_get fX3_15 dX3_takes_16 (by first | assumption | rfl) ?_
    refine x_iload dX3_takes_19 rfl ?_
    refine x_iastn dX3_takes_20 (by first | assumption | rfl) ⟨by first | omega | decide, by decide⟩ ?_
    refine x_aload dX3_takes_21 rfl ?_
    refine x_get fX3_22 dX3_takes_22 (by first | assumption | rfl) ?_
    refine x_aload dX3_takes_25 rfl ?_
    refine x_get fX3_15 dX3_takes_26 (by first | assumption | rfl) ?_
    refine x_iload dX3_takes_29 rfl ?_
    refine x_iastn dX3_takes_30 (by first | assumption | rfl) ⟨by first | omega | decide, by decide⟩ ?_
    refine x_aload dX3_takes_31 rfl ?_
    refine x_dup dX3_takes_32 rfl ?_
    refine x_get fX3_15 dX3_takes_33 (by first | assumption | rfl) ?_
    refine x_k dX3_takes_36 ?_
    refine x_iadd dX3_takes_37 ?_
    refine x_put fX3_15 tt3 gX3_15 dX3_takes_38 (by first | assumption | rfl) (Nat.le_of_ble_eq_true rfl) (w3_1 _) ?_
    refine x_k dX3_takes_41 ?_
    refine x_iret (ty := .boolean) dX3_takes_42 rfl (by first | rfl | exact nzb) (Nat.zero_le _) (Nat.zero_le _) ?_
    exact ⟨rfl, by rw [nI_1]; rfl, rfl⟩
  · exact absurd (nI_lt (b := 12) hn (by omega)) b6
theorem r_Sfull {lw a b : Int32} (h17 : h 17 = cSa lw 12) : Re Γ mX3_takes [.ref 17, .int a, .int b] h sz (some (.int 0)) h sz := by
  refine x_enter 0 (by decide) rfl ?_
  refine x_aload dX3_takes_0 rfl ?_
  refine x_get fX3_15 dX3_takes_1 (by first | assumption | rfl) ?_
  refine x_k dX3_takes_4 ?_
  refine x_icmp_lt dX3_takes_6 (fun b6 => ?_) (fun b6 => ?_)
  · exact absurd b6 (by decide)
  · refine x_k dX3_takes_9 ?_
    refine x_iret (ty := .boolean) dX3_takes_10 rfl (by first | rfl | exact nzb) (Nat.zero_le _) (Nat.zero_le _) ?_
    exact ⟨rfl, rfl, rfl⟩
theorem r_Ftakes {n : Nat} {a b : Int32} {fh fb : Nat → Int32} (h45 : h 45 = cF (nI n)) (h46 : h 46 = ia 8 fh) (h47 : h 47 = ia 8 fb) (hn : n < 8) : Re Γ mX1_takes [.ref 45, .int a, .int b] h sz (some (.int 1)) (va_up (va_up (va_up h 46 (ia 8 (upd fh n a))) 47 (ia 8 (upd fb n b))) 45 (cF (nI (n + 1)))) sz := by
  refine x_enter 0 (by decide) rfl ?_
  refine x_aload dX1_takes_0 rfl ?_
  refine x_get fX1_9 dX1_takes_1 (by first | assumption | rfl) ?_
  refine x_k dX1_takes_4 ?_
  refine x_icmp_lt dX1_takes_6 (fun b6 => ?_) (fun b6 => ?_)
  · refine x_aload dX1_takes_11 rfl ?_
    refine x_get fX1_15 dX1_takes_12 (by first | assumption | rfl) ?_
    refine x_aload dX1_takes_15 rfl ?_
    refine x_get fX1_9 dX1_takes_16 (by first | assumption | rfl) ?_
    refine x_iload dX1_takes_19 rfl ?_
    refine x_iastn dX1_takes_20 (by first | assumption | rfl) ⟨by first | omega | decide, by decide⟩ ?_
    refine x_aload dX1_takes_21 rfl ?_
    refine x_get fX1_19 dX1_takes_22 (by first | assumption | rfl) ?_
    refine x_aload dX1_takes_25 rfl ?_
    refine x_get fX1_9 dX1_takes_26 (by first | assumption | rfl) ?_
    refine x_iload dX1_takes_29 rfl ?_
    refine x_iastn dX1_takes_30 (by first | assumption | rfl) ⟨by first | omega | decide, by decide⟩ ?_
    refine x_aload dX1_takes_31 rfl ?_
    refine x_dup dX1_takes_32 rfl ?_
    refine x_get fX1_9 dX1_takes_33 (by first | assumption | rfl) ?_
    refine x_k dX1_takes_36 ?_
    refine x_iadd dX1_takes_37 ?_
    refine x_put fX1_9 tt1 gX1_9 dX1_takes_38 (by first | assumption | rfl) (Nat.le_of_ble_eq_true rfl) (w1_0 _) ?_
    refine x_k dX1_takes_41 ?_
    refine x_iret (ty := .boolean) dX1_takes_42 rfl (by first | rfl | exact nzb) (Nat.zero_le _) (Nat.zero_le _) ?_
    exact ⟨rfl, by rw [nI_1]; rfl, rfl⟩
  · exact absurd (nI_lt (b := 8) hn (by omega)) b6
theorem r_Ffull {a b : Int32} (h45 : h 45 = cF 8) : Re Γ mX1_takes [.ref 45, .int a, .int b] h sz (some (.int 0)) h sz := by
  refine x_enter 0 (by decide) rfl ?_
  refine x_aload dX1_takes_0 rfl ?_
  refine x_get fX1_9 dX1_takes_1 (by first | assumption | rfl) ?_
  refine x_k dX1_takes_4 ?_
  refine x_icmp_lt dX1_takes_6 (fun b6 => ?_) (fun b6 => ?_)
  · exact absurd b6 (by decide)
  · refine x_k dX1_takes_9 ?_
    refine x_iret (ty := .boolean) dX1_takes_10 rfl (by first | rfl | exact nzb) (Nat.zero_le _) (Nat.zero_le _) ?_
    exact ⟨rfl, rfl, rfl⟩
theorem r_swap_26 {w : Nat → Int32} {q p : Nat} {v : Int32} (h0 : h 26 = ia 64 w) (hq : q < 8) (hp : p < 8) : Re Γ mX7_swap [.ref 26, .int (nI q), .int (nI p), .int v] h sz (some (.int (w (8 * q + p)))) (va_up h 26 (ia 64 (upd w (8 * q + p) v))) sz := by
  refine x_enter 1 (by decide) rfl ?_
  refine x_aload dX7_swap_0 rfl ?_
  refine x_iload dX7_swap_1 rfl ?_
  refine x_k dX7_swap_2 ?_
  refine x_imul dX7_swap_4 ?_
  refine x_iload dX7_swap_5 rfl ?_
  refine x_iadd dX7_swap_6 ?_
  refine x_iald dX7_swap_7 (by first | assumption | rfl) (in8 hq hp) ?_
  refine x_istore dX7_swap_8 (Nat.le_of_ble_eq_true rfl) rfl ?_
  refine x_aload dX7_swap_10 rfl ?_
  refine x_iload dX7_swap_11 rfl ?_
  refine x_k dX7_swap_12 ?_
  refine x_imul dX7_swap_14 ?_
  refine x_iload dX7_swap_15 rfl ?_
  refine x_iadd dX7_swap_16 ?_
  refine x_iload dX7_swap_17 rfl ?_
  refine x_iast dX7_swap_18 (by first | assumption | rfl) (in8 hq hp) ?_
  refine x_iload dX7_swap_19 rfl ?_
  refine x_iret (ty := .int) dX7_swap_21 rfl rfl (Nat.zero_le _) (Nat.zero_le _) ?_
  exact ⟨by rw [ix8, nI_clamp (by omega)], by rw [ix8, nI_clamp (by omega)], rfl⟩
theorem r_swap_27 {w : Nat → Int32} {q p : Nat} {v : Int32} (h0 : h 27 = ia 64 w) (hq : q < 8) (hp : p < 8) : Re Γ mX7_swap [.ref 27, .int (nI q), .int (nI p), .int v] h sz (some (.int (w (8 * q + p)))) (va_up h 27 (ia 64 (upd w (8 * q + p) v))) sz := by
  refine x_enter 1 (by decide) rfl ?_
  refine x_aload dX7_swap_0 rfl ?_
  refine x_iload dX7_swap_1 rfl ?_
  refine x_k dX7_swap_2 ?_
  refine x_imul dX7_swap_4 ?_
  refine x_iload dX7_swap_5 rfl ?_
  refine x_iadd dX7_swap_6 ?_
  refine x_iald dX7_swap_7 (by first | assumption | rfl) (in8 hq hp) ?_
  refine x_istore dX7_swap_8 (Nat.le_of_ble_eq_true rfl) rfl ?_
  refine x_aload dX7_swap_10 rfl ?_
  refine x_iload dX7_swap_11 rfl ?_
  refine x_k dX7_swap_12 ?_
  refine x_imul dX7_swap_14 ?_
  refine x_iload dX7_swap_15 rfl ?_
  refine x_iadd dX7_swap_16 ?_
  refine x_iload dX7_swap_17 rfl ?_
  refine x_iast dX7_swap_18 (by first | assumption | rfl) (in8 hq hp) ?_
  refine x_iload dX7_swap_19 rfl ?_
  refine x_iret (ty := .int) dX7_swap_21 rfl rfl (Nat.zero_le _) (Nat.zero_le _) ?_
  exact ⟨by rw [ix8, nI_clamp (by omega)], by rw [ix8, nI_clamp (by omega)], rfl⟩
theorem r_likingOf {w : Nat → Int32} {q p : Nat} (h25 : h 25 = cTa) (h27 : h 27 = ia 64 w) (hq : q < 8) (hp : p < 8) : Re Γ mX7_likingOf [.ref 25, .int (nI q), .int (nI p)] h sz (some (.int (w (8 * q + p)))) h sz := by
  refine x_enter 0 (by decide) rfl ?_
  refine x_aload dX7_likingOf_0 rfl ?_
  refine x_get fX7_15 dX7_likingOf_1 (by first | assumption | rfl) ?_
  refine x_iload dX7_likingOf_4 rfl ?_
  refine x_k dX7_likingOf_5 ?_
  refine x_imul dX7_likingOf_7 ?_
  refine x_iload dX7_likingOf_8 rfl ?_
  refine x_iadd dX7_likingOf_9 ?_
  refine x_iald dX7_likingOf_10 (by first | assumption | rfl) (in8 hq hp) ?_
  refine x_iret (ty := .int) dX7_likingOf_11 rfl rfl (Nat.zero_le _) (Nat.zero_le _) ?_
  exact ⟨by rw [ix8, nI_clamp (by omega)], rfl, rfl⟩
theorem r_forgetRest {en : Value} {pe sp si fi rk wk rs fr wy : Int32} (h28 : h 28 = cR en pe sp si fi rk wk rs fr wy) : Re Γ mX2_forgetRest [.ref 28] h sz none (va_up h 28 (cR en pe sp si fi 0 wk rs fr wy)) sz := by
  refine x_enter 0 (by decide) rfl ?_
  refine x_aload dX2_forgetRest_0 rfl ?_
  refine x_k dX2_forgetRest_1 ?_
  refine x_put fX2_49 tt2 gX2_49 dX2_forgetRest_2 (by first | assumption | rfl) (Nat.le_of_ble_eq_true rfl) (by first | exact w2_100 | exact w2_101) ?_
  refine x_vret dX2_forgetRest_5 rfl (Nat.zero_le _) (Nat.zero_le _) ?_
  exact ⟨rfl, rfl, rfl⟩
theorem r_forgetWays {en : Value} {pe sp si fi rk wk rs fr wy : Int32} (h28 : h 28 = cR en pe sp si fi rk wk rs fr wy) : Re Γ mX2_forgetWays [.ref 28] h sz none (va_up h 28 (cR en pe sp si fi rk 0 rs fr wy)) sz := by
  refine x_enter 0 (by decide) rfl ?_
  refine x_aload dX2_forgetWays_0 rfl ?_
  refine x_k dX2_forgetWays_1 ?_
  refine x_put fX2_52 tt2 gX2_52 dX2_forgetWays_2 (by first | assumption | rfl) (Nat.le_of_ble_eq_true rfl) (by first | exact w2_110 | exact w2_111) ?_
  refine x_vret dX2_forgetWays_5 rfl (Nat.zero_le _) (Nat.zero_le _) ?_
  exact ⟨rfl, rfl, rfl⟩
theorem r_forgetBest {en : Value} {pe sp si fi rk wk rs fr wy : Int32} {f : Nat → Int32} (h28 : h 28 = cR en pe sp si fi rk wk rs fr wy) (h37 : h 37 = ia 4 f) : Re Γ mX2_forgetBest [.ref 28] h sz none (va_up h 37 (ia 4 (filF f (-1) 4))) sz := by
  refine x_enter 0 (by decide) rfl ?_
  refine x_aload dX2_forgetBest_0 rfl ?_
  refine x_get fX2_28 dX2_forgetBest_1 (by first | assumption | rfl) ?_
  refine x_k dX2_forgetBest_4 ?_
  refine x_S2v lX2_76 (Rm.of rfl) (cc1 := 0) (cn1 := 0) rfl rfl (Nat.le_of_ble_eq_true rfl) dX2_forgetBest_5 (r_fill_37 h37 (by decide)) ?_
  refine x_vret dX2_forgetBest_8 rfl (Nat.zero_le _) (Nat.zero_le _) ?_
  exact ⟨rfl, rfl, rfl⟩
theorem r_RforgetAll {en : Value} {pe sp si fi rk wk rs fr wy : Int32} {f : Nat → Int32} (h28 : h 28 = cR en pe sp si fi rk wk rs fr wy) (h37 : h 37 = ia 4 f) : Re Γ mX2_forgetAll [.ref 28] h sz none (va_up (va_up h 28 (cR en pe sp si 0 0 0 rs fr wy)) 37 (ia 4 (filF f (-1) 4))) sz := by
  refine x_enter 0 (by decide) rfl ?_
  refine x_aload dX2_forgetAll_0 rfl ?_
  refine x_k dX2_forgetAll_1 ?_
  refine x_put fX2_45 tt2 gX2_45 dX2_forgetAll_2 (by first | assumption | rfl) (Nat.le_of_ble_eq_true rfl) (by first | exact w2_90 | exact w2_91) ?_
  refine x_aload dX2_forgetAll_5 rfl ?_
  refine x_V0v lX2_67 (Rm.of rfl) (cc1 := 0) (cn1 := 0) rfl rfl (Nat.le_of_ble_eq_true rfl) dX2_forgetAll_6 (by first | assumption | rfl) (r_forgetBest (f := f) rfl h37) ?_
  refine x_aload dX2_forgetAll_9 rfl ?_
  refine x_V0v lX2_70 (Rm.of rfl) (cc1 := 0) (cn1 := 0) rfl rfl (Nat.le_of_ble_eq_true rfl) dX2_forgetAll_10 (by first | assumption | rfl) (r_forgetRest rfl) ?_
  refine x_aload dX2_forgetAll_13 rfl ?_
  refine x_V0v lX2_73 (Rm.of rfl) (cc1 := 0) (cn1 := 0) rfl rfl (Nat.le_of_ble_eq_true rfl) dX2_forgetAll_14 (by first | assumption | rfl) (r_forgetWays rfl) ?_
  refine x_vret dX2_forgetAll_17 rfl (Nat.zero_le _) (Nat.zero_le _) ?_
  exact ⟨rfl, (by funext j; simp only [va_up]; (repeat' split) <;> first | rfl | omega | simp_all), rfl⟩
theorem r_DforgetAll {fe qu : Value} {wt fi : Int32} (h39 : h 39 = cD fe qu wt fi) : Re Γ mX0_forgetAll [.ref 39] h sz none (va_up h 39 (cD fe qu wt 0)) sz := by
  refine x_enter 0 (by decide) rfl ?_
  refine x_aload dX0_forgetAll_0 rfl ?_
  refine x_k dX0_forgetAll_1 ?_
  refine x_put fX0_29 tt0 gX0_29 dX0_forgetAll_2 (by first | assumption | rfl) (Nat.le_of_ble_eq_true rfl) (by first | exact w0_40 | exact w0_41) ?_
  refine x_vret dX0_forgetAll_5 rfl (Nat.zero_le _) (Nat.zero_le _) ?_
  exact ⟨rfl, rfl, rfl⟩
theorem r_recount {ss lf : Int32} {en : Value} {pe sp si fi rk wk rs fr wy : Int32} {f : Nat → Int32} {fe qu : Value} {wt fd : Int32} (h4 : h 4 = cX ss lf) (h28 : h 28 = cR en pe sp si fi rk wk rs fr wy) (h37 : h 37 = ia 4 f) (h39 : h 39 = cD fe qu wt fd) : Re Γ mX9_recount [.ref 4] h sz none (va_up (va_up (va_up (va_up h 4 (cX 0 lf)) 28 (cR en pe sp si 0 0 0 rs fr wy)) 37 (ia 4 (filF f (-1) 4))) 39 (cD fe qu wt 0)) sz := by
  refine x_enter 0 (by decide) rfl ?_
  refine x_aload dX9_recount_0 rfl ?_
  refine x_k dX9_recount_1 ?_
  refine x_put fX9_74 tt9 gX9_74 dX9_recount_2 (by first | assumption | rfl) (Nat.le_of_ble_eq_true rfl) (by first | exact w9_90 | exact w9_91) ?_
  refine x_aload dX9_recount_5 rfl ?_
  refine x_get fX9_49 dX9_recount_6 (by first | assumption | rfl) ?_
  refine x_V0v lX9_375 (Rm.of rfl) (cc1 := 0) (cn1 := 0) rfl rfl (Nat.le_of_ble_eq_true rfl) dX9_recount_9 (by first | assumption | rfl) (r_RforgetAll h28 h37) ?_
  refine x_aload dX9_recount_12 rfl ?_
  refine x_get fX9_56 dX9_recount_13 (by first | assumption | rfl) ?_
  refine x_V0v lX9_378 (Rm.of rfl) (cc1 := 0) (cn1 := 0) rfl rfl (Nat.le_of_ble_eq_true rfl) dX9_recount_16 (by first | assumption | rfl) (r_DforgetAll h39) ?_
  refine x_vret dX9_recount_19 rfl (Nat.zero_le _) (Nat.zero_le _) ?_
  exact ⟨rfl, rfl, rfl⟩
end Leaf2
