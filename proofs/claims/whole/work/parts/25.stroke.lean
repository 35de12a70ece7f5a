/-! the class's stroke: one sale behind the other -/
def hoF (f : Nat → Int32) (b T k : Nat) : Nat → Int32 := fun j => if j < k ∧ T.testBit j = true then nI b else f j
def hoG (g : Nat → Int32) (own : Nat → Nat) (H T k : Nat) : Nat → Int32 := fun p => if p < 8 then nI (msk (fun j => decide (own j = p) && !(decide (j < k) && T.testBit j)) H) else g p
theorem hoF_0 (f : Nat → Int32) (b T : Nat) : hoF f b T 0 = f := by funext j; simp [hoF]
theorem hoG_0 {g : Nat → Int32} {own : Nat → Nat} {H : Nat} (T : Nat) (hg : ∀ p, p < 8 → g p = nI (msk (fun j => decide (own j = p)) H)) : hoG g own H T 0 = g := by
  funext p
  unfold hoG
  split
  · rename_i hp
    rw [hg p hp]
    refine congrArg nI (msk_congr (fun j _ => by simp))
  · rfl
theorem hoF_y {f : Nat → Int32} {b T k : Nat} (h : T.testBit k = true) : upd (hoF f b T k) k (nI b) = hoF f b T (k + 1) := by
  funext j
  by_cases e : j = k
  · subst e; simp [upd, hoF, h]
  · have : j < k + 1 ↔ j < k := by omega
    simp [upd, hoF, e, this]
theorem hoF_n {f : Nat → Int32} {b T k : Nat} (h : T.testBit k = false) : hoF f b T (k + 1) = hoF f b T k := by
  funext j
  by_cases e : j = k
  · subst e; simp [hoF, h]
  · have : j < k + 1 ↔ j < k := by omega
    simp [hoF, this]
theorem hoG_n {g : Nat → Int32} {own : Nat → Nat} {H T k : Nat} (h : T.testBit k = false) : hoG g own H T (k + 1) = hoG g own H T k := by
  funext p
  unfold hoG
  split
  · refine congrArg nI (msk_congr (fun j _ => ?_))
    by_cases e : j = k
    · subst e; simp [h]
    · have : j < k + 1 ↔ j < k := by omega
      simp [this]
  · rfl
theorem hoG_y {g : Nat → Int32} {own : Nat → Nat} {H T k : Nat} (h : T.testBit k = true) (hk : k < 8) (hq : own k < 8) : upd (hoG g own H T k) (own k) (hoG g own H T k (own k) &&& (((1 : Int32) <<< (nI k &&& 31)) ^^^ (-1))) = hoG g own H T (k + 1) := by
  funext p
  by_cases e : p = own k
  · subst e
    simp only [upd, if_true, hoG, if_pos hq]
    rw [shl1 (by omega), fa_diff]
    refine congrArg nI ?_
    apply Nat.eq_of_testBit_eq
    intro j
    rw [ndiff_bit, msk_bit, msk_bit, pow_bit]
    by_cases z : j = k
    · subst z; simp [h]
    · have z2 : ¬ k = j := fun q => z q.symm
      have : j < k + 1 ↔ j < k := by omega
      simp [z2, this]
  · simp only [upd, if_neg e, hoG]
    split
    · refine congrArg nI (msk_congr (fun j _ => ?_))
      by_cases z : j = k
      · subst z
        have : ¬ own j = p := fun q => e q.symm
        simp [this]
      · have : j < k + 1 ↔ j < k := by omega
        simp [this]
    · rfl
theorem hi0 {T p : Nat} (h : T / 2 ^ p = 0) (j : Nat) (hj : p ≤ j) : T.testBit j = false := by
  have hlt : T < 2 ^ p := by
    rcases Nat.lt_or_ge T (2 ^ p) with q | q
    · exact q
    · have := Nat.div_pos q (Nat.two_pow_pos p); omega
  exact Nat.testBit_lt_two_pow (Nat.lt_of_lt_of_le hlt (Nat.pow_le_pow_right (n := 2) (by decide) hj))
theorem hoF_end {f : Nat → Int32} {b T p : Nat} (h : T / 2 ^ p = 0) (hp : p ≤ 8) : hoF f b T p = hoF f b T 8 := by
  funext j
  by_cases q : j < p
  · have : j < 8 := by omega
    simp [hoF, q, this]
  · simp [hoF, q, hi0 h j (by omega)]
theorem hoG_end {g : Nat → Int32} {own : Nat → Nat} {H T p : Nat} (h : T / 2 ^ p = 0) (hp : p ≤ 8) : hoG g own H T p = hoG g own H T 8 := by
  funext z
  unfold hoG
  split
  · refine congrArg nI (msk_congr (fun j _ => ?_))
    by_cases q : j < p
    · have : j < 8 := by omega
      simp [q, this]
    · simp [q, hi0 h j (by omega)]
  · rfl
theorem kpT_0 (f : Nat → Int32) (T : Nat) : (fun j => if j < 0 ∧ T.testBit j = true then f j + 1 else f j) = f := by funext j; simp
def tmF (f : Nat → Int32) (T k : Nat) : Nat → Int32 := fun j => if j < k ∧ T.testBit j = true then f j + 1 else f j
theorem tmF_0 (f : Nat → Int32) (T : Nat) : tmF f T 0 = f := by funext j; simp [tmF]
theorem tmF_y {f : Nat → Int32} {T k : Nat} (h : T.testBit k = true) : upd (tmF f T k) k (tmF f T k k + 1) = tmF f T (k + 1) := by
  funext j
  by_cases e : j = k
  · subst e; simp [upd, tmF, h]
  · have : j < k + 1 ↔ j < k := by omega
    simp [upd, tmF, e, this]
theorem tmF_n {f : Nat → Int32} {T k : Nat} (h : T.testBit k = false) : tmF f T (k + 1) = tmF f T k := by
  funext j
  by_cases e : j = k
  · subst e; simp [tmF, h]
  · have : j < k + 1 ↔ j < k := by omega
    simp [tmF, this]
theorem tmF_end {f : Nat → Int32} {T p : Nat} (h : T / 2 ^ p = 0) (hp : p ≤ 8) : tmF f T p = tmF f T 8 := by
  funext j
  by_cases q : j < p
  · have : j < 8 := by omega
    simp [tmF, q, this]
  · simp [tmF, q, hi0 h j (by omega)]
section Stroke
variable {Γ : GX} {h : Hp} {sz : Nat}
theorem r_handOver_20 {so dn ln : Int32} {f g : Nat → Int32} {H T b : Nat} {own : Nat → Nat} (hA : h 20 = cK 21 22 23 24 so dn ln) (hB : h 21 = ia 8 f) (hC : h 22 = ia 8 g) (hf : ∀ j, j < H → f j = nI (own j) ∧ own j < 8) (hg : ∀ p, p < 8 → g p = nI (msk (fun j => decide (own j = p)) H)) (hH : H ≤ 8) (hT : T < 256) (hTH : ∀ j, T.testBit j = true → j < H) (hb : b < 8) :
    Re Γ mX6_handOver [.ref 20, .int (nI T), .int (nI b)] h sz none (va_up (va_up (va_up h 21 (ia 8 (hoF f b T 8))) 22 (ia 8 (upd (hoG g own H T 8) b (hoG g own H T 8 b ||| nI T)))) 20 (cK 21 22 23 24 so dn (nI (pop T)))) sz := by
  refine x_enter 1 (by decide) rfl ?_
  have J55 : ∀ v3 : Value, Ex Γ mX6_handOver (gx_Z Γ mX6_handOver (fun r' h' sz' => r' = none ∧ h' = (va_up (va_up (va_up h 21 (ia 8 (hoF f b T 8))) 22 (ia 8 (upd (hoG g own H T 8) b (hoG g own H T 8 b ||| nI T)))) 20 (cK 21 22 23 24 so dn (nI (pop T)))) ∧ sz' = sz)) 0 0 55 [.ref 20, .int (nI T), .int (nI b), v3] [] (va_up (va_up h 21 (ia 8 (hoF f b T 8))) 22 (ia 8 (hoG g own H T 8))) sz := by
    intro v3
    refine x_aload dX6_handOver_55 rfl ?_
    refine x_get fX6_15 dX6_handOver_56 (by first | assumption | rfl) ?_
    refine x_iload dX6_handOver_59 rfl ?_
    refine x_dup2 dX6_handOver_60 rfl rfl ?_
    refine x_ialdn dX6_handOver_61 (by first | assumption | rfl) ⟨by first | omega | decide, by decide⟩ ?_
    refine x_iload dX6_handOver_62 rfl ?_
    refine x_ior dX6_handOver_63 ?_
    refine x_iastn dX6_handOver_64 (by first | assumption | rfl) ⟨by first | omega | decide, by decide⟩ ?_
    refine x_aload dX6_handOver_65 rfl ?_
    refine x_iload dX6_handOver_66 rfl ?_
    refine x_S1i lX6_86 (Rm.of rfl) (cc1 := 0) (cn1 := 0) rfl rfl (Nat.le_of_ble_eq_true rfl) dX6_handOver_67 (r_bitCount hT) ?_
    refine x_put fX6_31 tt6 gX6_31 dX6_handOver_70 (by first | assumption | rfl) (Nat.le_of_ble_eq_true rfl) (w6_6 _) ?_
    refine x_vret dX6_handOver_73 rfl (Nat.zero_le _) (Nat.zero_le _) ?_
    exact ⟨rfl, by rw [up_up]; rfl, rfl⟩
  refine x_k dX6_handOver_0 ?_
  refine x_istore dX6_handOver_1 (Nat.le_of_ble_eq_true rfl) rfl ?_
  refine x_eq rfl rfl (show _ = va_up (va_up h 21 (ia 8 (hoF f b T 0))) 22 (ia 8 (hoG g own H T 0)) by rw [hoF_0, hoG_0 T hg, up_id hB, up_id hC]) (loopUp (P := fun p => Ex Γ mX6_handOver _ 0 0 2 [.ref 20, .int (nI T), .int (nI b), .int (nI p)] [] (va_up (va_up h 21 (ia 8 (hoF f b T p))) 22 (ia 8 (hoG g own H T p))) sz) 8 ?_ (fun p hp ih => ?_) 0 (Nat.zero_le _))
  · refine x_iload dX6_handOver_2 rfl ?_
    refine x_k dX6_handOver_3 ?_
    refine x_icmp_ge dX6_handOver_5 (fun b5 => ?_) (fun b5 => ?_)
    · exact J55 _
    · exact absurd (by decide) b5
  · have eb := bitN1 (m := T) (k := p) (by omega) (by omega)
    have es := shrN (m := T) (k := p) (by omega) (by omega)
    have ez : nI (T / 2 ^ p) = 0 ↔ T / 2 ^ p = 0 := nI_eq (b := 0) (Nat.lt_of_le_of_lt (Nat.div_le_self _ _) (by omega)) (by decide)
    have hfp : T.testBit p = true → hoF f b T p p = nI (own p) ∧ own p < 8 := fun q => ⟨by rw [hoF, if_neg (fun z => Nat.lt_irrefl p z.1)]; exact (hf p (hTH p q)).1, (hf p (hTH p q)).2⟩
    refine x_iload dX6_handOver_2 rfl ?_
    refine x_k dX6_handOver_3 ?_
    refine x_icmp_ge dX6_handOver_5 (fun b5 => ?_) (fun b5 => ?_)
    · exact absurd b5 (nI_ge (b := 8) hp (by decide))
    · refine x_iload dX6_handOver_8 rfl ?_
      refine x_iload dX6_handOver_9 rfl ?_
      refine x_ishr dX6_handOver_10 ?_
      refine x_if_eq dX6_handOver_11 (fun b11 => ?_) (fun b11 => ?_)
      · rw [es, ez] at b11
        rw [hoF_end b11 (by omega), hoG_end b11 (by omega)]
        exact J55 _
      · refine x_iload dX6_handOver_14 rfl ?_
        refine x_iload dX6_handOver_15 rfl ?_
        refine x_ishr dX6_handOver_16 ?_
        refine x_k dX6_handOver_17 ?_
        refine x_iand dX6_handOver_18 ?_
        refine x_k dX6_handOver_19 ?_
        refine x_icmp_ne dX6_handOver_20 (fun b20 => ?_) (fun b20 => ?_)
        · refine x_inc1 dX6_handOver_49 rfl (Nat.le_of_ble_eq_true rfl) rfl ?_
          refine x_goto dX6_handOver_52 ?_
          first
            | (refine x_eq rfl rfl ?_ ih
               rw [up_swap (by decide), up_up, hoF_y b20])
            | (rw [eb] at b20
               have hbf : T.testBit p = false := by cases q : T.testBit p with | false => rfl | true => exact absurd q b20
               refine x_eq rfl rfl ?_ ih
               rw [hoF_n hbf, hoG_n hbf])
        · rw [Classical.not_not, eb] at b20
          obtain ⟨hfp1, hfp2⟩ := hfp b20
          refine x_aload dX6_handOver_23 rfl ?_
          refine x_get fX6_15 dX6_handOver_24 (by first | assumption | rfl) ?_
          refine x_aload dX6_handOver_27 rfl ?_
          refine x_get fX6_9 dX6_handOver_28 (by first | assumption | rfl) ?_
          refine x_iload dX6_handOver_31 rfl ?_
          refine x_ialdn dX6_handOver_32 (by first | assumption | rfl) ⟨by first | omega | decide, by decide⟩ ?_
          rw [hfp1]
          refine x_dup2 dX6_handOver_33 rfl rfl ?_
          refine x_ialdn dX6_handOver_34 (by first | assumption | rfl) ⟨by first | omega | decide, by decide⟩ ?_
          refine x_k dX6_handOver_35 ?_
          refine x_iload dX6_handOver_36 rfl ?_
          refine x_ishl dX6_handOver_37 ?_
          refine x_k dX6_handOver_38 ?_
          refine x_ixor dX6_handOver_39 ?_
          refine x_iand dX6_handOver_40 ?_
          refine x_iastn dX6_handOver_41 (by first | assumption | rfl) ⟨by first | omega | decide, by decide⟩ ?_
          rw [up_up, hoG_y b20 hp hfp2]
          refine x_aload dX6_handOver_42 rfl ?_
          refine x_get fX6_9 dX6_handOver_43 (by first | assumption | rfl) ?_
          refine x_iload dX6_handOver_46 rfl ?_
          refine x_iload dX6_handOver_47 rfl ?_
          refine x_iastn dX6_handOver_48 (by first | assumption | rfl) ⟨by first | omega | decide, by decide⟩ ?_
          refine x_inc1 dX6_handOver_49 rfl (Nat.le_of_ble_eq_true rfl) rfl ?_
          refine x_goto dX6_handOver_52 ?_
          first
            | (refine x_eq rfl rfl ?_ ih
               rw [up_swap (by decide), up_up, hoF_y b20])
            | (rw [eb] at b20
               have hbf : T.testBit p = false := by cases q : T.testBit p with | false => rfl | true => exact absurd q b20
               refine x_eq rfl rfl ?_ ih
               rw [hoF_n hbf, hoG_n hbf])
theorem r_keep_20 {so dn ln : Int32} {kf tf : Nat → Int32} {T b : Nat} (hA : h 20 = cK 21 22 23 24 so dn ln) (hD : h 23 = ia 8 kf) (hE : h 24 = ia 8 tf) (hT : T < 256) :
    Re Γ mX6_keep [.ref 20, .int (nI T), .int (nI b)] h sz none (va_up (va_up (va_up h 23 (ia 8 (hoF kf b T 8))) 24 (ia 8 (tmF tf T 8))) 20 (cK 21 22 23 24 (so ||| nI T) dn ln)) sz := by
  refine x_enter 1 (by decide) rfl ?_
  have J46 : ∀ v3 : Value, Ex Γ mX6_keep (gx_Z Γ mX6_keep (fun r' h' sz' => r' = none ∧ h' = (va_up (va_up (va_up h 23 (ia 8 (hoF kf b T 8))) 24 (ia 8 (tmF tf T 8))) 20 (cK 21 22 23 24 (so ||| nI T) dn ln)) ∧ sz' = sz)) 0 0 46 [.ref 20, .int (nI T), .int (nI b), v3] [] (va_up (va_up h 23 (ia 8 (hoF kf b T 8))) 24 (ia 8 (tmF tf T 8))) sz := by
    intro v3
    refine x_aload dX6_keep_46 rfl ?_
    refine x_dup dX6_keep_47 rfl ?_
    refine x_get fX6_24 dX6_keep_48 (by first | assumption | rfl) ?_
    refine x_iload dX6_keep_51 rfl ?_
    refine x_ior dX6_keep_52 ?_
    refine x_put fX6_24 tt6 gX6_24 dX6_keep_53 (by first | assumption | rfl) (Nat.le_of_ble_eq_true rfl) (w6_4 _) ?_
    refine x_vret dX6_keep_56 rfl (Nat.zero_le _) (Nat.zero_le _) ?_
    exact ⟨rfl, rfl, rfl⟩
  refine x_k dX6_keep_0 ?_
  refine x_istore dX6_keep_1 (Nat.le_of_ble_eq_true rfl) rfl ?_
  refine x_eq rfl rfl (show _ = va_up (va_up h 23 (ia 8 (hoF kf b T 0))) 24 (ia 8 (tmF tf T 0)) by rw [hoF_0, tmF_0, up_id hD, up_id hE]) (loopUp (P := fun p => Ex Γ mX6_keep _ 0 0 2 [.ref 20, .int (nI T), .int (nI b), .int (nI p)] [] (va_up (va_up h 23 (ia 8 (hoF kf b T p))) 24 (ia 8 (tmF tf T p))) sz) 8 ?_ (fun p hp ih => ?_) 0 (Nat.zero_le _))
  · refine x_iload dX6_keep_2 rfl ?_
    refine x_k dX6_keep_3 ?_
    refine x_icmp_ge dX6_keep_5 (fun b5 => ?_) (fun b5 => ?_)
    · exact J46 _
    · exact absurd (by decide) b5
  · have eb := bitN1 (m := T) (k := p) (by omega) (by omega)
    have es := shrN (m := T) (k := p) (by omega) (by omega)
    have ez : nI (T / 2 ^ p) = 0 ↔ T / 2 ^ p = 0 := nI_eq (b := 0) (Nat.lt_of_le_of_lt (Nat.div_le_self _ _) (by omega)) (by decide)
    refine x_iload dX6_keep_2 rfl ?_
    refine x_k dX6_keep_3 ?_
    refine x_icmp_ge dX6_keep_5 (fun b5 => ?_) (fun b5 => ?_)
    · exact absurd b5 (nI_ge (b := 8) hp (by decide))
    · refine x_iload dX6_keep_8 rfl ?_
      refine x_iload dX6_keep_9 rfl ?_
      refine x_ishr dX6_keep_10 ?_
      refine x_if_eq dX6_keep_11 (fun b11 => ?_) (fun b11 => ?_)
      · rw [es, ez] at b11
        rw [hoF_end b11 (by omega), tmF_end b11 (by omega)]
        exact J46 _
      · refine x_iload dX6_keep_14 rfl ?_
        refine x_iload dX6_keep_15 rfl ?_
        refine x_ishr dX6_keep_16 ?_
        refine x_k dX6_keep_17 ?_
        refine x_iand dX6_keep_18 ?_
        refine x_k dX6_keep_19 ?_
        refine x_icmp_ne dX6_keep_20 (fun b20 => ?_) (fun b20 => ?_)
        · refine x_inc1 dX6_keep_40 rfl (Nat.le_of_ble_eq_true rfl) rfl ?_
          refine x_goto dX6_keep_43 ?_
          first
            | (refine x_eq rfl rfl ?_ ih
               rw [tmF_y b20, hoF_y b20]; exact (by funext j; simp only [va_up]; (repeat' split) <;> first | rfl | omega | simp_all))
            | (refine x_eq rfl rfl ?_ ih
               rw [← hoF_y b20, ← tmF_y b20]; exact (by funext j; simp only [va_up]; (repeat' split) <;> first | rfl | omega | simp_all))
            | (rw [eb] at b20
               have hbf : T.testBit p = false := by cases q : T.testBit p with | false => rfl | true => exact absurd q b20
               refine x_eq rfl rfl ?_ ih
               rw [hoF_n hbf, tmF_n hbf])
        · rw [Classical.not_not, eb] at b20
          refine x_aload dX6_keep_23 rfl ?_
          refine x_get fX6_18 dX6_keep_24 (by first | assumption | rfl) ?_
          refine x_iload dX6_keep_27 rfl ?_
          refine x_iload dX6_keep_28 rfl ?_
          refine x_iastn dX6_keep_29 (by first | assumption | rfl) ⟨by first | omega | decide, by decide⟩ ?_
          refine x_aload dX6_keep_30 rfl ?_
          refine x_get fX6_21 dX6_keep_31 (by first | assumption | rfl) ?_
          refine x_iload dX6_keep_34 rfl ?_
          refine x_dup2 dX6_keep_35 rfl rfl ?_
          refine x_ialdn dX6_keep_36 (by first | assumption | rfl) ⟨by first | omega | decide, by decide⟩ ?_
          refine x_k dX6_keep_37 ?_
          refine x_iadd dX6_keep_38 ?_
          refine x_iastn dX6_keep_39 (by first | assumption | rfl) ⟨by first | omega | decide, by decide⟩ ?_
          refine x_inc1 dX6_keep_40 rfl (Nat.le_of_ble_eq_true rfl) rfl ?_
          refine x_goto dX6_keep_43 ?_
          first
            | (refine x_eq rfl rfl ?_ ih
               rw [tmF_y b20, hoF_y b20]; exact (by funext j; simp only [va_up]; (repeat' split) <;> first | rfl | omega | simp_all))
            | (refine x_eq rfl rfl ?_ ih
               rw [← hoF_y b20, ← tmF_y b20]; exact (by funext j; simp only [va_up]; (repeat' split) <;> first | rfl | omega | simp_all))
            | (rw [eb] at b20
               have hbf : T.testBit p = false := by cases q : T.testBit p with | false => rfl | true => exact absurd q b20
               refine x_eq rfl rfl ?_ ih
               rw [hoF_n hbf, tmF_n hbf])
theorem r_handOver_29 {so dn ln : Int32} {f g : Nat → Int32} {H T b : Nat} {own : Nat → Nat} (hA : h 29 = cK 30 31 32 33 so dn ln) (hB : h 30 = ia 8 f) (hC : h 31 = ia 8 g) (hf : ∀ j, j < H → f j = nI (own j) ∧ own j < 8) (hg : ∀ p, p < 8 → g p = nI (msk (fun j => decide (own j = p)) H)) (hH : H ≤ 8) (hT : T < 256) (hTH : ∀ j, T.testBit j = true → j < H) (hb : b < 8) :
    Re Γ mX6_handOver [.ref 29, .int (nI T), .int (nI b)] h sz none (va_up (va_up (va_up h 30 (ia 8 (hoF f b T 8))) 31 (ia 8 (upd (hoG g own H T 8) b (hoG g own H T 8 b ||| nI T)))) 29 (cK 30 31 32 33 so dn (nI (pop T)))) sz := by
  refine x_enter 1 (by decide) rfl ?_
  have J55 : ∀ v3 : Value, Ex Γ mX6_handOver (gx_Z Γ mX6_handOver (fun r' h' sz' => r' = none ∧ h' = (va_up (va_up (va_up h 30 (ia 8 (hoF f b T 8))) 31 (ia 8 (upd (hoG g own H T 8) b (hoG g own H T 8 b ||| nI T)))) 29 (cK 30 31 32 33 so dn (nI (pop T)))) ∧ sz' = sz)) 0 0 55 [.ref 29, .int (nI T), .int (nI b), v3] [] (va_up (va_up h 30 (ia 8 (hoF f b T 8))) 31 (ia 8 (hoG g own H T 8))) sz := by
    intro v3
    refine x_aload dX6_handOver_55 rfl ?_
    refine x_get fX6_15 dX6_handOver_56 (by first | assumption | rfl) ?_
    refine x_iload dX6_handOver_59 rfl ?_
    refine x_dup2 dX6_handOver_60 rfl rfl ?_
    refine x_ialdn dX6_handOver_61 (by first | assumption | rfl) ⟨by first | omega | decide, by decide⟩ ?_
    refine x_iload dX6_handOver_62 rfl ?_
    refine x_ior dX6_handOver_63 ?_
    refine x_iastn dX6_handOver_64 (by first | assumption | rfl) ⟨by first | omega | decide, by decide⟩ ?_
    refine x_aload dX6_handOver_65 rfl ?_
    refine x_iload dX6_handOver_66 rfl ?_
    refine x_S1i lX6_86 (Rm.of rfl) (cc1 := 0) (cn1 := 0) rfl rfl (Nat.le_of_ble_eq_true rfl) dX6_handOver_67 (r_bitCount hT) ?_
    refine x_put fX6_31 tt6 gX6_31 dX6_handOver_70 (by first | assumption | rfl) (Nat.le_of_ble_eq_true rfl) (w6_6 _) ?_
    refine x_vret dX6_handOver_73 rfl (Nat.zero_le _) (Nat.zero_le _) ?_
    exact ⟨rfl, by rw [up_up]; rfl, rfl⟩
  refine x_k dX6_handOver_0 ?_
  refine x_istore dX6_handOver_1 (Nat.le_of_ble_eq_true rfl) rfl ?_
  refine x_eq rfl rfl (show _ = va_up (va_up h 30 (ia 8 (hoF f b T 0))) 31 (ia 8 (hoG g own H T 0)) by rw [hoF_0, hoG_0 T hg, up_id hB, up_id hC]) (loopUp (P := fun p => Ex Γ mX6_handOver _ 0 0 2 [.ref 29, .int (nI T), .int (nI b), .int (nI p)] [] (va_up (va_up h 30 (ia 8 (hoF f b T p))) 31 (ia 8 (hoG g own H T p))) sz) 8 ?_ (fun p hp ih => ?_) 0 (Nat.zero_le _))
  · refine x_iload dX6_handOver_2 rfl ?_
    refine x_k dX6_handOver_3 ?_
    refine x_icmp_ge dX6_handOver_5 (fun b5 => ?_) (fun b5 => ?_)
    · exact J55 _
    · exact absurd (by decide) b5
  · have eb := bitN1 (m := T) (k := p) (by omega) (by omega)
    have es := shrN (m := T) (k := p) (by omega) (by omega)
    have ez : nI (T / 2 ^ p) = 0 ↔ T / 2 ^ p = 0 := nI_eq (b := 0) (Nat.lt_of_le_of_lt (Nat.div_le_self _ _) (by omega)) (by decide)
    have hfp : T.testBit p = true → hoF f b T p p = nI (own p) ∧ own p < 8 := fun q => ⟨by rw [hoF, if_neg (fun z => Nat.lt_irrefl p z.1)]; exact (hf p (hTH p q)).1, (hf p (hTH p q)).2⟩
    refine x_iload dX6_handOver_2 rfl ?_
    refine x_k dX6_handOver_3 ?_
    refine x_icmp_ge dX6_handOver_5 (fun b5 => ?_) (fun b5 => ?_)
    · exact absurd b5 (nI_ge (b := 8) hp (by decide))
    · refine x_iload dX6_handOver_8 rfl ?_
      refine x_iload dX6_handOver_9 rfl ?_
      refine x_ishr dX6_handOver_10 ?_
      refine x_if_eq dX6_handOver_11 (fun b11 => ?_) (fun b11 => ?_)
      · rw [es, ez] at b11
        rw [hoF_end b11 (by omega), hoG_end b11 (by omega)]
        exact J55 _
      · refine x_iload dX6_handOver_14 rfl ?_
        refine x_iload dX6_handOver_15 rfl ?_
        refine x_ishr dX6_handOver_16 ?_
        refine x_k dX6_handOver_17 ?_
        refine x_iand dX6_handOver_18 ?_
        refine x_k dX6_handOver_19 ?_
        refine x_icmp_ne dX6_handOver_20 (fun b20 => ?_) (fun b20 => ?_)
        · refine x_inc1 dX6_handOver_49 rfl (Nat.le_of_ble_eq_true rfl) rfl ?_
          refine x_goto dX6_handOver_52 ?_
          first
            | (refine x_eq rfl rfl ?_ ih
               rw [up_swap (by decide), up_up, hoF_y b20])
            | (rw [eb] at b20
               have hbf : T.testBit p = false := by cases q : T.testBit p with | false => rfl | true => exact absurd q b20
               refine x_eq rfl rfl ?_ ih
               rw [hoF_n hbf, hoG_n hbf])
        · rw [Classical.not_not, eb] at b20
          obtain ⟨hfp1, hfp2⟩ := hfp b20
          refine x_aload dX6_handOver_23 rfl ?_
          refine x_get fX6_15 dX6_handOver_24 (by first | assumption | rfl) ?_
          refine x_aload dX6_handOver_27 rfl ?_
          refine x_get fX6_9 dX6_handOver_28 (by first | assumption | rfl) ?_
          refine x_iload dX6_handOver_31 rfl ?_
          refine x_ialdn dX6_handOver_32 (by first | assumption | rfl) ⟨by first | omega | decide, by decide⟩ ?_
          rw [hfp1]
          refine x_dup2 dX6_handOver_33 rfl rfl ?_
          refine x_ialdn dX6_handOver_34 (by first | assumption | rfl) ⟨by first | omega | decide, by decide⟩ ?_
          refine x_k dX6_handOver_35 ?_
          refine x_iload dX6_handOver_36 rfl ?_
          refine x_ishl dX6_handOver_37 ?_
          refine x_k dX6_handOver_38 ?_
          refine x_ixor dX6_handOver_39 ?_
          refine x_iand dX6_handOver_40 ?_
          refine x_iastn dX6_handOver_41 (by first | assumption | rfl) ⟨by first | omega | decide, by decide⟩ ?_
          rw [up_up, hoG_y b20 hp hfp2]
          refine x_aload dX6_handOver_42 rfl ?_
          refine x_get fX6_9 dX6_handOver_43 (by first | assumption | rfl) ?_
          refine x_iload dX6_handOver_46 rfl ?_
          refine x_iload dX6_handOver_47 rfl ?_
          refine x_iastn dX6_handOver_48 (by first | assumption | rfl) ⟨by first | omega | decide, by decide⟩ ?_
          refine x_inc1 dX6_handOver_49 rfl (Nat.le_of_ble_eq_true rfl) rfl ?_
          refine x_goto dX6_handOver_52 ?_
          first
            | (refine x_eq rfl rfl ?_ ih
               rw [up_swap (by decide), up_up, hoF_y b20])
            | (rw [eb] at b20
               have hbf : T.testBit p = false := by cases q : T.testBit p with | false => rfl | true => exact absurd q b20
               refine x_eq rfl rfl ?_ ih
               rw [hoF_n hbf, hoG_n hbf])
theorem r_keep_29 {so dn ln : Int32} {kf tf : Nat → Int32} {T b : Nat} (hA : h 29 = cK 30 31 32 33 so dn ln) (hD : h 32 = ia 8 kf) (hE : h 33 = ia 8 tf) (hT : T < 256) :
    Re Γ mX6_keep [.ref 29, .int (nI T), .int (nI b)] h sz none (va_up (va_up (va_up h 32 (ia 8 (hoF kf b T 8))) 33 (ia 8 (tmF tf T 8))) 29 (cK 30 31 32 33 (so ||| nI T) dn ln)) sz := by
  refine x_enter 1 (by decide) rfl ?_
  have J46 : ∀ v3 : Value, Ex Γ mX6_keep (gx_Z Γ mX6_keep (fun r' h' sz' => r' = none ∧ h' = (va_up (va_up (va_up h 32 (ia 8 (hoF kf b T 8))) 33 (ia 8 (tmF tf T 8))) 29 (cK 30 31 32 33 (so ||| nI T) dn ln)) ∧ sz' = sz)) 0 0 46 [.ref 29, .int (nI T), .int (nI b), v3] [] (va_up (va_up h 32 (ia 8 (hoF kf b T 8))) 33 (ia 8 (tmF tf T 8))) sz := by
    intro v3
    refine x_aload dX6_keep_46 rfl ?_
    refine x_dup dX6_keep_47 rfl ?_
    refine x_get fX6_24 dX6_keep_48 (by first | assumption | rfl) ?_
    refine x_iload dX6_keep_51 rfl ?_
    refine x_ior dX6_keep_52 ?_
    refine x_put fX6_24 tt6 gX6_24 dX6_keep_53 (by first | assumption | rfl) (Nat.le_of_ble_eq_true rfl) (w6_4 _) ?_
    refine x_vret dX6_keep_56 rfl (Nat.zero_le _) (Nat.zero_le _) ?_
    exact ⟨rfl, rfl, rfl⟩
  refine x_k dX6_keep_0 ?_
  refine x_istore dX6_keep_1 (Nat.le_of_ble_eq_true rfl) rfl ?_
  refine x_eq rfl rfl (show _ = va_up (va_up h 32 (ia 8 (hoF kf b T 0))) 33 (ia 8 (tmF tf T 0)) by rw [hoF_0, tmF_0, up_id hD, up_id hE]) (loopUp (P := fun p => Ex Γ mX6_keep _ 0 0 2 [.ref 29, .int (nI T), .int (nI b), .int (nI p)] [] (va_up (va_up h 32 (ia 8 (hoF kf b T p))) 33 (ia 8 (tmF tf T p))) sz) 8 ?_ (fun p hp ih => ?_) 0 (Nat.zero_le _))
  · refine x_iload dX6_keep_2 rfl ?_
    refine x_k dX6_keep_3 ?_
    refine x_icmp_ge dX6_keep_5 (fun b5 => ?_) (fun b5 => ?_)
    · exact J46 _
    · exact absurd (by decide) b5
  · have eb := bitN1 (m := T) (k := p) (by omega) (by omega)
    have es := shrN (m := T) (k := p) (by omega) (by omega)
    have ez : nI (T / 2 ^ p) = 0 ↔ T / 2 ^ p = 0 := nI_eq (b := 0) (Nat.lt_of_le_of_lt (Nat.div_le_self _ _) (by omega)) (by decide)
    refine x_iload dX6_keep_2 rfl ?_
    refine x_k dX6_keep_3 ?_
    refine x_icmp_ge dX6_keep_5 (fun b5 => ?_) (fun b5 => ?_)
    · exact absurd b5 (nI_ge (b := 8) hp (by decide))
    · refine x_iload dX6_keep_8 rfl ?_
      refine x_iload dX6_keep_9 rfl ?_
      refine x_ishr dX6_keep_10 ?_
      refine x_if_eq dX6_keep_11 (fun b11 => ?_) (fun b11 => ?_)
      · rw [es, ez] at b11
        rw [hoF_end b11 (by omega), tmF_end b11 (by omega)]
        exact J46 _
      · refine x_iload dX6_keep_14 rfl ?_
        refine x_iload dX6_keep_15 rfl ?_
        refine x_ishr dX6_keep_16 ?_
        refine x_k dX6_keep_17 ?_
        refine x_iand dX6_keep_18 ?_
        refine x_k dX6_keep_19 ?_
        refine x_icmp_ne dX6_keep_20 (fun b20 => ?_) (fun b20 => ?_)
        · refine x_inc1 dX6_keep_40 rfl (Nat.le_of_ble_eq_true rfl) rfl ?_
          refine x_goto dX6_keep_43 ?_
          first
            | (refine x_eq rfl rfl ?_ ih
               rw [tmF_y b20, hoF_y b20]; exact (by funext j; simp only [va_up]; (repeat' split) <;> first | rfl | omega | simp_all))
            | (refine x_eq rfl rfl ?_ ih
               rw [← hoF_y b20, ← tmF_y b20]; exact (by funext j; simp only [va_up]; (repeat' split) <;> first | rfl | omega | simp_all))
            | (rw [eb] at b20
               have hbf : T.testBit p = false := by cases q : T.testBit p with | false => rfl | true => exact absurd q b20
               refine x_eq rfl rfl ?_ ih
               rw [hoF_n hbf, tmF_n hbf])
        · rw [Classical.not_not, eb] at b20
          refine x_aload dX6_keep_23 rfl ?_
          refine x_get fX6_18 dX6_keep_24 (by first | assumption | rfl) ?_
          refine x_iload dX6_keep_27 rfl ?_
          refine x_iload dX6_keep_28 rfl ?_
          refine x_iastn dX6_keep_29 (by first | assumption | rfl) ⟨by first | omega | decide, by decide⟩ ?_
          refine x_aload dX6_keep_30 rfl ?_
          refine x_get fX6_21 dX6_keep_31 (by first | assumption | rfl) ?_
          refine x_iload dX6_keep_34 rfl ?_
          refine x_dup2 dX6_keep_35 rfl rfl ?_
          refine x_ialdn dX6_keep_36 (by first | assumption | rfl) ⟨by first | omega | decide, by decide⟩ ?_
          refine x_k dX6_keep_37 ?_
          refine x_iadd dX6_keep_38 ?_
          refine x_iastn dX6_keep_39 (by first | assumption | rfl) ⟨by first | omega | decide, by decide⟩ ?_
          refine x_inc1 dX6_keep_40 rfl (Nat.le_of_ble_eq_true rfl) rfl ?_
          refine x_goto dX6_keep_43 ?_
          first
            | (refine x_eq rfl rfl ?_ ih
               rw [tmF_y b20, hoF_y b20]; exact (by funext j; simp only [va_up]; (repeat' split) <;> first | rfl | omega | simp_all))
            | (refine x_eq rfl rfl ?_ ih
               rw [← hoF_y b20, ← tmF_y b20]; exact (by funext j; simp only [va_up]; (repeat' split) <;> first | rfl | omega | simp_all))
            | (rw [eb] at b20
               have hbf : T.testBit p = false := by cases q : T.testBit p with | false => rfl | true => exact absurd q b20
               refine x_eq rfl rfl ?_ ih
               rw [hoF_n hbf, tmF_n hbf])
theorem r_handOver_40 {so dn ln : Int32} {f g : Nat → Int32} {H T b : Nat} {own : Nat → Nat} (hA : h 40 = cK 41 42 43 44 so dn ln) (hB : h 41 = ia 8 f) (hC : h 42 = ia 8 g) (hf : ∀ j, j < H → f j = nI (own j) ∧ own j < 8) (hg : ∀ p, p < 8 → g p = nI (msk (fun j => decide (own j = p)) H)) (hH : H ≤ 8) (hT : T < 256) (hTH : ∀ j, T.testBit j = true → j < H) (hb : b < 8) :
    Re Γ mX6_handOver [.ref 40, .int (nI T), .int (nI b)] h sz none (va_up (va_up (va_up h 41 (ia 8 (hoF f b T 8))) 42 (ia 8 (upd (hoG g own H T 8) b (hoG g own H T 8 b ||| nI T)))) 40 (cK 41 42 43 44 so dn (nI (pop T)))) sz := by
  refine x_enter 1 (by decide) rfl ?_
  have J55 : ∀ v3 : Value, Ex Γ mX6_handOver (gx_Z Γ mX6_handOver (fun r' h' sz' => r' = none ∧ h' = (va_up (va_up (va_up h 41 (ia 8 (hoF f b T 8))) 42 (ia 8 (upd (hoG g own H T 8) b (hoG g own H T 8 b ||| nI T)))) 40 (cK 41 42 43 44 so dn (nI (pop T)))) ∧ sz' = sz)) 0 0 55 [.ref 40, .int (nI T), .int (nI b), v3] [] (va_up (va_up h 41 (ia 8 (hoF f b T 8))) 42 (ia 8 (hoG g own H T 8))) sz := by
    intro v3
    refine x_aload dX6_handOver_55 rfl ?_
    refine x_get fX6_15 dX6_handOver_56 (by first | assumption | rfl) ?_
    refine x_iload dX6_handOver_59 rfl ?_
    refine x_dup2 dX6_handOver_60 rfl rfl ?_
    refine x_ialdn dX6_handOver_61 (by first | assumption | rfl) ⟨by first | omega | decide, by decide⟩ ?_
    refine x_iload dX6_handOver_62 rfl ?_
    refine x_ior dX6_handOver_63 ?_
    refine x_iastn dX6_handOver_64 (by first | assumption | rfl) ⟨by first | omega | decide, by decide⟩ ?_
    refine x_aload dX6_handOver_65 rfl ?_
    refine x_iload dX6_handOver_66 rfl ?_
    refine x_S1i lX6_86 (Rm.of rfl) (cc1 := 0) (cn1 := 0) rfl rfl (Nat.le_of_ble_eq_true rfl) dX6_handOver_67 (r_bitCount hT) ?_
    refine x_put fX6_31 tt6 gX6_31 dX6_handOver_70 (by first | assumption | rfl) (Nat.le_of_ble_eq_true rfl) (w6_6 _) ?_
    refine x_vret dX6_handOver_73 rfl (Nat.zero_le _) (Nat.zero_le _) ?_
    exact ⟨rfl, by rw [up_up]; rfl, rfl⟩
  refine x_k dX6_handOver_0 ?_
  refine x_istore dX6_handOver_1 (Nat.le_of_ble_eq_true rfl) rfl ?_
  refine x_eq rfl rfl (show _ = va_up (va_up h 41 (ia 8 (hoF f b T 0))) 42 (ia 8 (hoG g own H T 0)) by rw [hoF_0, hoG_0 T hg, up_id hB, up_id hC]) (loopUp (P := fun p => Ex Γ mX6_handOver _ 0 0 2 [.ref 40, .int (nI T), .int (nI b), .int (nI p)] [] (va_up (va_up h 41 (ia 8 (hoF f b T p))) 42 (ia 8 (hoG g own H T p))) sz) 8 ?_ (fun p hp ih => ?_) 0 (Nat.zero_le _))
  · refine x_iload dX6_handOver_2 rfl ?_
    refine x_k dX6_handOver_3 ?_
    refine x_icmp_ge dX6_handOver_5 (fun b5 => ?_) (fun b5 => ?_)
    · exact J55 _
    · exact absurd (by decide) b5
  · have eb := bitN1 (m := T) (k := p) (by omega) (by omega)
    have es := shrN (m := T) (k := p) (by omega) (by omega)
    have ez : nI (T / 2 ^ p) = 0 ↔ T / 2 ^ p = 0 := nI_eq (b := 0) (Nat.lt_of_le_of_lt (Nat.div_le_self _ _) (by omega)) (by decide)
    have hfp : T.testBit p = true → hoF f b T p p = nI (own p) ∧ own p < 8 := fun q => ⟨by rw [hoF, if_neg (fun z => Nat.lt_irrefl p z.1)]; exact (hf p (hTH p q)).1, (hf p (hTH p q)).2⟩
    refine x_iload dX6_handOver_2 rfl ?_
    refine x_k dX6_handOver_3 ?_
    refine x_icmp_ge dX6_handOver_5 (fun b5 => ?_) (fun b5 => ?_)
    · exact absurd b5 (nI_ge (b := 8) hp (by decide))
    · refine x_iload dX6_handOver_8 rfl ?_
      refine x_iload dX6_handOver_9 rfl ?_
      refine x_ishr dX6_handOver_10 ?_
      refine x_if_eq dX6_handOver_11 (fun b11 => ?_) (fun b11 => ?_)
      · rw [es, ez] at b11
        rw [hoF_end b11 (by omega), hoG_end b11 (by omega)]
        exact J55 _
      · refine x_iload dX6_handOver_14 rfl ?_
        refine x_iload dX6_handOver_15 rfl ?_
        refine x_ishr dX6_handOver_16 ?_
        refine x_k dX6_handOver_17 ?_
        refine x_iand dX6_handOver_18 ?_
        refine x_k dX6_handOver_19 ?_
        refine x_icmp_ne dX6_handOver_20 (fun b20 => ?_) (fun b20 => ?_)
        · refine x_inc1 dX6_handOver_49 rfl (Nat.le_of_ble_eq_true rfl) rfl ?_
          refine x_goto dX6_handOver_52 ?_
          first
            | (refine x_eq rfl rfl ?_ ih
               rw [up_swap (by decide), up_up, hoF_y b20])
            | (rw [eb] at b20
               have hbf : T.testBit p = false := by cases q : T.testBit p with | false => rfl | true => exact absurd q b20
               refine x_eq rfl rfl ?_ ih
               rw [hoF_n hbf, hoG_n hbf])
        · rw [Classical.not_not, eb] at b20
          obtain ⟨hfp1, hfp2⟩ := hfp b20
          refine x_aload dX6_handOver_23 rfl ?_
          refine x_get fX6_15 dX6_handOver_24 (by first | assumption | rfl) ?_
          refine x_aload dX6_handOver_27 rfl ?_
          refine x_get fX6_9 dX6_handOver_28 (by first | assumption | rfl) ?_
          refine x_iload dX6_handOver_31 rfl ?_
          refine x_ialdn dX6_handOver_32 (by first | assumption | rfl) ⟨by first | omega | decide, by decide⟩ ?_
          rw [hfp1]
          refine x_dup2 dX6_handOver_33 rfl rfl ?_
          refine x_ialdn dX6_handOver_34 (by first | assumption | rfl) ⟨by first | omega | decide, by decide⟩ ?_
          refine x_k dX6_handOver_35 ?_
          refine x_iload dX6_handOver_36 rfl ?_
          refine x_ishl dX6_handOver_37 ?_
          refine x_k dX6_handOver_38 ?_
          refine x_ixor dX6_handOver_39 ?_
          refine x_iand dX6_handOver_40 ?_
          refine x_iastn dX6_handOver_41 (by first | assumption | rfl) ⟨by first | omega | decide, by decide⟩ ?_
          rw [up_up, hoG_y b20 hp hfp2]
          refine x_aload dX6_handOver_42 rfl ?_
          refine x_get fX6_9 dX6_handOver_43 (by first | assumption | rfl) ?_
          refine x_iload dX6_handOver_46 rfl ?_
          refine x_iload dX6_handOver_47 rfl ?_
          refine x_iastn dX6_handOver_48 (by first | assumption | rfl) ⟨by first | omega | decide, by decide⟩ ?_
          refine x_inc1 dX6_handOver_49 rfl (Nat.le_of_ble_eq_true rfl) rfl ?_
          refine x_goto dX6_handOver_52 ?_
          first
            | (refine x_eq rfl rfl ?_ ih
               rw [up_swap (by decide), up_up, hoF_y b20])
            | (rw [eb] at b20
               have hbf : T.testBit p = false := by cases q : T.testBit p with | false => rfl | true => exact absurd q b20
               refine x_eq rfl rfl ?_ ih
               rw [hoF_n hbf, hoG_n hbf])
theorem r_keep_40 {so dn ln : Int32} {kf tf : Nat → Int32} {T b : Nat} (hA : h 40 = cK 41 42 43 44 so dn ln) (hD : h 43 = ia 8 kf) (hE : h 44 = ia 8 tf) (hT : T < 256) :
    Re Γ mX6_keep [.ref 40, .int (nI T), .int (nI b)] h sz none (va_up (va_up (va_up h 43 (ia 8 (hoF kf b T 8))) 44 (ia 8 (tmF tf T 8))) 40 (cK 41 42 43 44 (so ||| nI T) dn ln)) sz := by
  refine x_enter 1 (by decide) rfl ?_
  have J46 : ∀ v3 : Value, Ex Γ mX6_keep (gx_Z Γ mX6_keep (fun r' h' sz' => r' = none ∧ h' = (va_up (va_up (va_up h 43 (ia 8 (hoF kf b T 8))) 44 (ia 8 (tmF tf T 8))) 40 (cK 41 42 43 44 (so ||| nI T) dn ln)) ∧ sz' = sz)) 0 0 46 [.ref 40, .int (nI T), .int (nI b), v3] [] (va_up (va_up h 43 (ia 8 (hoF kf b T 8))) 44 (ia 8 (tmF tf T 8))) sz := by
    intro v3
    refine x_aload dX6_keep_46 rfl ?_
    refine x_dup dX6_keep_47 rfl ?_
    refine x_get fX6_24 dX6_keep_48 (by first | assumption | rfl) ?_
    refine x_iload dX6_keep_51 rfl ?_
    refine x_ior dX6_keep_52 ?_
    refine x_put fX6_24 tt6 gX6_24 dX6_keep_53 (by first | assumption | rfl) (Nat.le_of_ble_eq_true rfl) (w6_4 _) ?_
    refine x_vret dX6_keep_56 rfl (Nat.zero_le _) (Nat.zero_le _) ?_
    exact ⟨rfl, rfl, rfl⟩
  refine x_k dX6_keep_0 ?_
  refine x_istore dX6_keep_1 (Nat.le_of_ble_eq_true rfl) rfl ?_
  refine x_eq rfl rfl (show _ = va_up (va_up h 43 (ia 8 (hoF kf b T 0))) 44 (ia 8 (tmF tf T 0)) by rw [hoF_0, tmF_0, up_id hD, up_id hE]) (loopUp (P := fun p => Ex Γ mX6_keep _ 0 0 2 [.ref 40, .int (nI T), .int (nI b), .int (nI p)] [] (va_up (va_up h 43 (ia 8 (hoF kf b T p))) 44 (ia 8 (tmF tf T p))) sz) 8 ?_ (fun p hp ih => ?_) 0 (Nat.zero_le _))
  · refine x_iload dX6_keep_2 rfl ?_
    refine x_k dX6_keep_3 ?_
    refine x_icmp_ge dX6_keep_5 (fun b5 => ?_) (fun b5 => ?_)
    · exact J46 _
    · exact absurd (by decide) b5
  · have eb := bitN1 (m := T) (k := p) (by omega) (by omega)
    have es := shrN (m := T) (k := p) (by omega) (by omega)
    have ez : nI (T / 2 ^ p) = 0 ↔ T / 2 ^ p = 0 := nI_eq (b := 0) (Nat.lt_of_le_of_lt (Nat.div_le_self _ _) (by omega)) (by decide)
    refine x_iload dX6_keep_2 rfl ?_
    refine x_k dX6_keep_3 ?_
    refine x_icmp_ge dX6_keep_5 (fun b5 => ?_) (fun b5 => ?_)
    · exact absurd b5 (nI_ge (b := 8) hp (by decide))
    · refine x_iload dX6_keep_8 rfl ?_
      refine x_iload dX6_keep_9 rfl ?_
      refine x_ishr dX6_keep_10 ?_
      refine x_if_eq dX6_keep_11 (fun b11 => ?_) (fun b11 => ?_)
      · rw [es, ez] at b11
        rw [hoF_end b11 (by omega), tmF_end b11 (by omega)]
        exact J46 _
      · refine x_iload dX6_keep_14 rfl ?_
        refine x_iload dX6_keep_15 rfl ?_
        refine x_ishr dX6_keep_16 ?_
        refine x_k dX6_keep_17 ?_
        refine x_iand dX6_keep_18 ?_
        refine x_k dX6_keep_19 ?_
        refine x_icmp_ne dX6_keep_20 (fun b20 => ?_) (fun b20 => ?_)
        · refine x_inc1 dX6_keep_40 rfl (Nat.le_of_ble_eq_true rfl) rfl ?_
          refine x_goto dX6_keep_43 ?_
          first
            | (refine x_eq rfl rfl ?_ ih
               rw [tmF_y b20, hoF_y b20]; exact (by funext j; simp only [va_up]; (repeat' split) <;> first | rfl | omega | simp_all))
            | (refine x_eq rfl rfl ?_ ih
               rw [← hoF_y b20, ← tmF_y b20]; exact (by funext j; simp only [va_up]; (repeat' split) <;> first | rfl | omega | simp_all))
            | (rw [eb] at b20
               have hbf : T.testBit p = false := by cases q : T.testBit p with | false => rfl | true => exact absurd q b20
               refine x_eq rfl rfl ?_ ih
               rw [hoF_n hbf, tmF_n hbf])
        · rw [Classical.not_not, eb] at b20
          refine x_aload dX6_keep_23 rfl ?_
          refine x_get fX6_18 dX6_keep_24 (by first | assumption | rfl) ?_
          refine x_iload dX6_keep_27 rfl ?_
          refine x_iload dX6_keep_28 rfl ?_
          refine x_iastn dX6_keep_29 (by first | assumption | rfl) ⟨by first | omega | decide, by decide⟩ ?_
          refine x_aload dX6_keep_30 rfl ?_
          refine x_get fX6_21 dX6_keep_31 (by first | assumption | rfl) ?_
          refine x_iload dX6_keep_34 rfl ?_
          refine x_dup2 dX6_keep_35 rfl rfl ?_
          refine x_ialdn dX6_keep_36 (by first | assumption | rfl) ⟨by first | omega | decide, by decide⟩ ?_
          refine x_k dX6_keep_37 ?_
          refine x_iadd dX6_keep_38 ?_
          refine x_iastn dX6_keep_39 (by first | assumption | rfl) ⟨by first | omega | decide, by decide⟩ ?_
          refine x_inc1 dX6_keep_40 rfl (Nat.le_of_ble_eq_true rfl) rfl ?_
          refine x_goto dX6_keep_43 ?_
          first
            | (refine x_eq rfl rfl ?_ ih
               rw [tmF_y b20, hoF_y b20]; exact (by funext j; simp only [va_up]; (repeat' split) <;> first | rfl | omega | simp_all))
            | (refine x_eq rfl rfl ?_ ih
               rw [← hoF_y b20, ← tmF_y b20]; exact (by funext j; simp only [va_up]; (repeat' split) <;> first | rfl | omega | simp_all))
            | (rw [eb] at b20
               have hbf : T.testBit p = false := by cases q : T.testBit p with | false => rfl | true => exact absurd q b20
               refine x_eq rfl rfl ?_ ih
               rw [hoF_n hbf, tmF_n hbf])
end Stroke
