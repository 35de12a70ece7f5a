/-! the class's way through a sale: sets as bits -/
def gwI (H N : Nat) (pos : Nat → Nat) (c o : Bool) (own tms : Nat → Nat) (b hs : Nat) (T W S turn : Nat) : Prop :=
  T < 256 ∧ W < 256 ∧ S < 256 ∧ (∀ j, W.testBit j = true → T.testBit j = true) ∧ T.testBit hs = true ∧
  (∀ j, T.testBit j = true → ∀ Q : Nat → Prop, Q hs → (∀ a b', Q a → edg H N pos true c o own tms b a b' = true → Q b') → Q j) ∧
  (∀ a j, T.testBit a = true → W.testBit a = false → edg H N pos true c o own tms b a j = true → T.testBit j = true) ∧
  (∀ p, S.testBit p = (decide (p < N) && mayB o tms b p && decide (pos p ≠ 0) && (T.testBit (pos p - 1) && !W.testBit (pos p - 1)))) ∧
  pop (ndiff T W) = turn
theorem ndiff_lt {a b : Nat} (h : a < 256) : ndiff a b < 256 := by
  refine Nat.lt_pow_two_of_testBit (n := 8) _ (fun i hi => ?_)
  rw [ndiff_bit]
  have : a.testBit i = false := Nat.testBit_lt_two_pow (Nat.lt_of_lt_of_le h (Nat.pow_le_pow_right (n := 2) (by decide) hi))
  rw [this]; rfl
theorem or_lt {a b : Nat} (h : a < 256) (h2 : b < 256) : a ||| b < 256 := Nat.or_lt_two_pow (n := 8) h h2
theorem pow_bit (f i : Nat) : (2 ^ f).testBit i = decide (f = i) := by rw [Nat.testBit_two_pow]
/-- who is at spot s -/
def insM (N : Nat) (pos : Nat → Nat) (s : Nat) : Nat := msk (fun p => decide (pos p = s)) N
def sldM (N : Nat) (pos : Nat → Nat) (o : Bool) (tms : Nat → Nat) (b f : Nat) : Nat := msk (fun p => (insM N pos (f + 1)).testBit p && mayB o tms b p) 8
theorem sldM_bit {N : Nat} {pos : Nat → Nat} {o : Bool} {tms : Nat → Nat} {b f p : Nat} (hN : N ≤ 8) : (sldM N pos o tms b f).testBit p = (decide (p < N) && decide (pos p = f + 1) && mayB o tms b p) := by
  rw [sldM, msk_bit, insM, msk_bit]
  by_cases h : p < N
  · have : p < 8 := by omega
    simp [h, this]
  · simp [h]
/-- whose are the houses of those in P -/
def ownM (H : Nat) (own : Nat → Nat) (P : Nat) : Nat := msk (fun j => decide (j < H) && P.testBit (own j)) 8
theorem gw_step {H N : Nat} {pos : Nat → Nat} {c o : Bool} {own tms : Nat → Nat} {b hs T W S turn f : Nat} (hH : H ≤ 8) (hN : N ≤ 8) (I : gwI H N pos c o own tms b hs T W S turn) (hf : W.testBit f = true) (th : Nat) (hth : th < 256) (hd : ∀ j, th.testBit j = (c && (ownM H own (sldM N pos o tms b f)).testBit j && !T.testBit j)) :
    gwI H N pos c o own tms b hs (T ||| th) (ndiff W (2 ^ f) ||| th) (S ||| sldM N pos o tms b f) (turn + 1) := by
  obtain ⟨i1, i2, i3, i4, i5, i6, i7, i8, i9⟩ := I
  have hf8 := bit_lt i2 hf
  have hTf := i4 f hf
  have hthf : th.testBit f = false := by rw [hd, hTf]; simp
  have hth2 : ∀ j, th.testBit j = true → c = true ∧ j < H ∧ own j < N ∧ pos (own j) = f + 1 ∧ mayB o tms b (own j) = true ∧ T.testBit j = false := by
    intro j hj
    rw [hd, ownM, msk_bit, sldM_bit hN] at hj
    simp only [Bool.and_eq_true, decide_eq_true_eq, Bool.not_eq_true'] at hj
    exact ⟨hj.1.1, hj.1.2.2.1, hj.1.2.2.2.1.1, hj.1.2.2.2.1.2, hj.1.2.2.2.2, hj.2⟩
  refine ⟨or_lt i1 hth, or_lt (ndiff_lt i2) hth, or_lt i3 (msk_lt _ 8), fun j hj => ?_, ?_, fun j hj Q q1 q2 => ?_, fun a j ha hw he => ?_, fun p => ?_, ?_⟩
  · rw [Nat.testBit_or, ndiff_bit, Bool.or_eq_true, Bool.and_eq_true] at hj
    rw [Nat.testBit_or, Bool.or_eq_true]
    rcases hj with q | q
    · exact Or.inl (i4 j q.1)
    · exact Or.inr q
  · rw [Nat.testBit_or, i5, Bool.true_or]
  · rw [Nat.testBit_or, Bool.or_eq_true] at hj
    rcases hj with q | q
    · exact i6 j q Q q1 q2
    · obtain ⟨g1, g2, g3, g4, g5, g6⟩ := hth2 j q
      refine q2 f j (i6 f hTf Q q1 q2) ?_
      simp [edg, g1, g2, g3, g4, g5]
  · rw [Nat.testBit_or, ndiff_bit, Bool.or_eq_false_iff, pow_bit] at hw
    rw [Nat.testBit_or, Bool.or_eq_true]
    rw [Nat.testBit_or, hw.2, Bool.or_false] at ha
    by_cases e : f = a
    · subst e
      cases hT : T.testBit j with
      | true => exact Or.inl rfl
      | false =>
        right
        rw [hd, ownM, msk_bit, sldM_bit hN, hT]
        simp only [edg, Bool.and_eq_true, decide_eq_true_eq, Bool.true_and] at he
        have : j < 8 := by omega
        simp [he, this]
    · left
      have hw1 := hw.1
      simp [e] at hw1
      exact i7 a j ha hw1 he
  · rw [Nat.testBit_or, i8, sldM_bit hN, Nat.testBit_or, Nat.testBit_or, ndiff_bit, pow_bit]
    by_cases e : pos p = f + 1
    · have e2 : pos p - 1 = f := by omega
      have e3 : pos p ≠ 0 := by omega
      rw [e2, hTf, hf, hthf]
      simp [e, e3]
    · by_cases e0 : pos p = 0
      · simp [e0]
      · have e4 : f ≠ pos p - 1 := by omega
        cases hc : th.testBit (pos p - 1) with
        | true =>
          have := (hth2 _ hc).2.2.2.2.2
          simp [e, e0, e4, this]
        | false => simp [e, e0, e4]
  · have e : ndiff (T ||| th) (ndiff W (2 ^ f) ||| th) = ndiff T W ||| 2 ^ f := by
      apply Nat.eq_of_testBit_eq
      intro j
      rw [ndiff_bit, Nat.testBit_or, Nat.testBit_or, ndiff_bit, Nat.testBit_or, ndiff_bit, pow_bit]
      by_cases e : f = j
      · subst e
        rw [hTf, hf, hthf]; simp
      · cases hc : th.testBit j with
        | true =>
          have := (hth2 j hc).2.2.2.2.2
          simp [e, this]
        | false => simp [e]
    rw [e, pop_add (ndiff_lt i1) hf8 (by rw [ndiff_bit, hTf, hf]; rfl), i9]
theorem gw_end {H N : Nat} {pos : Nat → Nat} {c o : Bool} {own tms : Nat → Nat} {b hs T W S turn : Nat} (I : gwI H N pos c o own tms b hs T W S turn) (hW : W = 0) (hN : N ≤ 8) : T = salT H N pos true c o own tms b hs ∧ S = msk (salS H N pos true c o own tms b hs) 8 := by
  obtain ⟨i1, i2, i3, i4, i5, i6, i7, i8, i9⟩ := I
  subst hW
  have e : T = salT H N pos true c o own tms b hs := clo_eq i1 i5 (fun a b h1 h2 => i7 a b h1 (Nat.zero_testBit a) h2) i6
  refine ⟨e, ?_⟩
  apply Nat.eq_of_testBit_eq
  intro p
  rw [i8, msk_bit, salS, ← e]
  by_cases h : p < 8
  · simp [h]
  · have : ¬ p < N := by omega
    simp [h, this]
theorem gw_8 {H N : Nat} {pos : Nat → Nat} {c o : Bool} {own tms : Nat → Nat} {b hs T W S : Nat} (I : gwI H N pos c o own tms b hs T W S 8) : W = 0 := by
  obtain ⟨i1, i2, i3, i4, i5, i6, i7, i8, i9⟩ := I
  have e := pop_8 (ndiff_lt i1) i9
  apply Nat.eq_of_testBit_eq
  intro j
  rw [Nat.zero_testBit]
  cases hw : W.testBit j with
  | false => rfl
  | true =>
    have h1 := congrArg (fun z => z.testBit j) e
    simp only [ndiff_bit, hw, Bool.not_true, Bool.and_false] at h1
    have h2 : (255 : Nat).testBit j = true := by
      have : ∀ j : Nat, j < 8 → (255 : Nat).testBit j = true := by decide
      exact this j (bit_lt i2 hw)
    rw [h2] at h1
    cases h1
theorem gw_0 {H N : Nat} {pos : Nat → Nat} {c o : Bool} {own tms : Nat → Nat} {b hs : Nat} (hhs : hs < 8) : gwI H N pos c o own tms b hs (2 ^ hs) (2 ^ hs) 0 0 := by
  have hlt : (2 : Nat) ^ hs < 256 := Nat.pow_lt_pow_right (n := 8) (by decide) hhs
  refine ⟨hlt, hlt, by decide, fun _ h => h, by rw [pow_bit]; simp, fun j hj Q q1 _ => ?_, fun a j h1 h2 _ => ?_, fun p => ?_, ?_⟩
  · rw [pow_bit, decide_eq_true_eq] at hj
    subst hj; exact q1
  · rw [h1] at h2; cases h2
  · rw [Nat.zero_testBit]
    cases (2 ^ hs).testBit (pos p - 1) <;> simp
  · have : ndiff (2 ^ hs) (2 ^ hs) = 0 := by
      apply Nat.eq_of_testBit_eq
      intro j
      rw [ndiff_bit, Nat.zero_testBit]
      cases (2 ^ hs).testBit j <;> rfl
    rw [this]; rfl
theorem ownM_lt (H : Nat) (own : Nat → Nat) (P : Nat) : ownM H own P < 256 := msk_lt _ 8
section Gone
variable {Γ : GX} {h : Hp} {sz : Nat}
theorem r_ownedBy_20 {so dn ln : Int32} {g : Nat → Int32} {H P : Nat} {own : Nat → Nat} (hA : h 20 = cK 21 22 23 24 so dn ln) (hC : h 22 = ia 8 g) (hg : ∀ p, p < 8 → g p = nI (msk (fun j => decide (own j = p)) H)) (hP : P < 256) (hH : H ≤ 8) (hown : ∀ j, j < H → own j < 8) : Re Γ mX6_ownedBy [.ref 20, .int (nI P)] h sz (some (.int (nI (ownM H own P)))) h sz := by
  refine x_enter 2 (by decide) rfl ?_
  refine x_k dX6_ownedBy_0 ?_
  refine x_istore dX6_ownedBy_1 (Nat.le_of_ble_eq_true rfl) rfl ?_
  refine x_k dX6_ownedBy_2 ?_
  refine x_istore dX6_ownedBy_3 (Nat.le_of_ble_eq_true rfl) rfl ?_
  refine x_eq (show _ = [Value.ref 20, .int (nI P), .int (nI (msk (fun j => decide (j < H) && decide (own j < 0) && P.testBit (own j)) 8)), .int (nI 0)] by rw [show msk (fun j => decide (j < H) && decide (own j < 0) && P.testBit (own j)) 8 = 0 by apply Nat.eq_of_testBit_eq; intro i; rw [msk_bit, Nat.zero_testBit]; simp]; rfl) rfl rfl (loopUp (P := fun p => Ex Γ mX6_ownedBy _ 0 0 4 [.ref 20, .int (nI P), .int (nI (msk (fun j => decide (j < H) && decide (own j < p) && P.testBit (own j)) 8)), .int (nI p)] [] h sz) 8 ?_ (fun p hp ih => ?_) 0 (Nat.zero_le _))
  · have e : msk (fun j => decide (j < H) && decide (own j < 8) && P.testBit (own j)) 8 = ownM H own P := msk_congr (fun j _ => by
      by_cases q : j < H
      · simp [q, hown j q]
      · simp [q])
    rw [e]
    refine x_iload dX6_ownedBy_4 rfl ?_
    refine x_k dX6_ownedBy_5 ?_
    refine x_icmp_ge dX6_ownedBy_7 (fun b7 => ?_) (fun b7 => ?_)
    · refine x_iload dX6_ownedBy_40 rfl ?_
      refine x_iret (ty := .int) dX6_ownedBy_41 rfl rfl (Nat.zero_le _) (Nat.zero_le _) ?_
      exact ⟨rfl, rfl, rfl⟩
    · exact absurd (by decide) b7
  · have eb := bitN1 (m := P) (k := p) (by omega) (by omega)
    have es := shrN (m := P) (k := p) (by omega) (by omega)
    have ez : nI (P / 2 ^ p) = 0 ↔ P / 2 ^ p = 0 := nI_eq (b := 0) (Nat.lt_of_le_of_lt (Nat.div_le_self _ _) (by omega)) (by decide)
    refine x_iload dX6_ownedBy_4 rfl ?_
    refine x_k dX6_ownedBy_5 ?_
    refine x_icmp_ge dX6_ownedBy_7 (fun b7 => ?_) (fun b7 => ?_)
    · exact absurd b7 (nI_ge (b := 8) hp (by decide))
    · refine x_iload dX6_ownedBy_10 rfl ?_
      refine x_iload dX6_ownedBy_11 rfl ?_
      refine x_ishr dX6_ownedBy_12 ?_
      refine x_if_eq dX6_ownedBy_13 (fun b13 => ?_) (fun b13 => ?_)
      · refine x_iload dX6_ownedBy_40 rfl ?_
        refine x_iret (ty := .int) dX6_ownedBy_41 rfl rfl (Nat.zero_le _) (Nat.zero_le _) ?_
        rw [es, ez] at b13
        have hlt : P < 2 ^ p := by
          rcases Nat.lt_or_ge P (2 ^ p) with q | q
          · exact q
          · have := Nat.div_pos q (Nat.two_pow_pos p); omega
        refine ⟨?_, rfl, rfl⟩
        congr 3
        refine msk_congr (fun j _ => ?_)
        by_cases q : own j < p
        · simp [q]
        · have : P.testBit (own j) = false := Nat.testBit_lt_two_pow (Nat.lt_of_lt_of_le hlt (Nat.pow_le_pow_right (n := 2) (by decide) (by omega)))
          simp [this]
      · refine x_iload dX6_ownedBy_16 rfl ?_
        refine x_iload dX6_ownedBy_17 rfl ?_
        refine x_ishr dX6_ownedBy_18 ?_
        refine x_k dX6_ownedBy_19 ?_
        refine x_iand dX6_ownedBy_20 ?_
        refine x_k dX6_ownedBy_21 ?_
        refine x_icmp_ne dX6_ownedBy_22 (fun b22 => ?_) (fun b22 => ?_)
        · refine x_inc1 dX6_ownedBy_34 rfl (Nat.le_of_ble_eq_true rfl) rfl ?_
          refine x_goto dX6_ownedBy_37 ?_
          rw [eb] at b22
          refine x_eq ?_ rfl rfl ih
          simp only [lent, List.set]
          congr 4
          refine congrArg nI ?_
          apply Nat.eq_of_testBit_eq
          intro j
          simp only [Nat.testBit_or, msk_bit]
          by_cases q : own j = p
          · simp_all; try omega
          · have q2 : own j < p + 1 ↔ own j < p := by omega
            simp [q, q2]
        · refine x_iload dX6_ownedBy_25 rfl ?_
          refine x_aload dX6_ownedBy_26 rfl ?_
          refine x_get fX6_15 dX6_ownedBy_27 (by first | assumption | rfl) ?_
          refine x_iload dX6_ownedBy_30 rfl ?_
          refine x_ialdn dX6_ownedBy_31 (by first | assumption | rfl) ⟨by first | omega | decide, by decide⟩ ?_
          refine x_ior dX6_ownedBy_32 ?_
          rw [hg p hp, fa_or]
          refine x_istore dX6_ownedBy_33 (Nat.le_of_ble_eq_true rfl) rfl ?_
          refine x_inc1 dX6_ownedBy_34 rfl (Nat.le_of_ble_eq_true rfl) rfl ?_
          refine x_goto dX6_ownedBy_37 ?_
          rw [eb] at b22
          refine x_eq ?_ rfl rfl ih
          simp only [lent, List.set]
          congr 4
          refine congrArg nI ?_
          apply Nat.eq_of_testBit_eq
          intro j
          simp only [Nat.testBit_or, msk_bit]
          by_cases q : own j = p
          · simp_all; try omega
          · have q2 : own j < p + 1 ↔ own j < p := by omega
            simp [q, q2]
theorem r_ownedBy_29 {so dn ln : Int32} {g : Nat → Int32} {H P : Nat} {own : Nat → Nat} (hA : h 29 = cK 30 31 32 33 so dn ln) (hC : h 31 = ia 8 g) (hg : ∀ p, p < 8 → g p = nI (msk (fun j => decide (own j = p)) H)) (hP : P < 256) (hH : H ≤ 8) (hown : ∀ j, j < H → own j < 8) : Re Γ mX6_ownedBy [.ref 29, .int (nI P)] h sz (some (.int (nI (ownM H own P)))) h sz := by
  refine x_enter 2 (by decide) rfl ?_
  refine x_k dX6_ownedBy_0 ?_
  refine x_istore dX6_ownedBy_1 (Nat.le_of_ble_eq_true rfl) rfl ?_
  refine x_k dX6_ownedBy_2 ?_
  refine x_istore dX6_ownedBy_3 (Nat.le_of_ble_eq_true rfl) rfl ?_
  refine x_eq (show _ = [Value.ref 29, .int (nI P), .int (nI (msk (fun j => decide (j < H) && decide (own j < 0) && P.testBit (own j)) 8)), .int (nI 0)] by rw [show msk (fun j => decide (j < H) && decide (own j < 0) && P.testBit (own j)) 8 = 0 by apply Nat.eq_of_testBit_eq; intro i; rw [msk_bit, Nat.zero_testBit]; simp]; rfl) rfl rfl (loopUp (P := fun p => Ex Γ mX6_ownedBy _ 0 0 4 [.ref 29, .int (nI P), .int (nI (msk (fun j => decide (j < H) && decide (own j < p) && P.testBit (own j)) 8)), .int (nI p)] [] h sz) 8 ?_ (fun p hp ih => ?_) 0 (Nat.zero_le _))
  · have e : msk (fun j => decide (j < H) && decide (own j < 8) && P.testBit (own j)) 8 = ownM H own P := msk_congr (fun j _ => by
      by_cases q : j < H
      · simp [q, hown j q]
      · simp [q])
    rw [e]
    refine x_iload dX6_ownedBy_4 rfl ?_
    refine x_k dX6_ownedBy_5 ?_
    refine x_icmp_ge dX6_ownedBy_7 (fun b7 => ?_) (fun b7 => ?_)
    · refine x_iload dX6_ownedBy_40 rfl ?_
      refine x_iret (ty := .int) dX6_ownedBy_41 rfl rfl (Nat.zero_le _) (Nat.zero_le _) ?_
      exact ⟨rfl, rfl, rfl⟩
    · exact absurd (by decide) b7
  · have eb := bitN1 (m := P) (k := p) (by omega) (by omega)
    have es := shrN (m := P) (k := p) (by omega) (by omega)
    have ez : nI (P / 2 ^ p) = 0 ↔ P / 2 ^ p = 0 := nI_eq (b := 0) (Nat.lt_of_le_of_lt (Nat.div_le_self _ _) (by omega)) (by decide)
    refine x_iload dX6_ownedBy_4 rfl ?_
    refine x_k dX6_ownedBy_5 ?_
    refine x_icmp_ge dX6_ownedBy_7 (fun b7 => ?_) (fun b7 => ?_)
    · exact absurd b7 (nI_ge (b := 8) hp (by decide))
    · refine x_iload dX6_ownedBy_10 rfl ?_
      refine x_iload dX6_ownedBy_11 rfl ?_
      refine x_ishr dX6_ownedBy_12 ?_
      refine x_if_eq dX6_ownedBy_13 (fun b13 => ?_) (fun b13 => ?_)
      · refine x_iload dX6_ownedBy_40 rfl ?_
        refine x_iret (ty := .int) dX6_ownedBy_41 rfl rfl (Nat.zero_le _) (Nat.zero_le _) ?_
        rw [es, ez] at b13
        have hlt : P < 2 ^ p := by
          rcases Nat.lt_or_ge P (2 ^ p) with q | q
          · exact q
          · have := Nat.div_pos q (Nat.two_pow_pos p); omega
        refine ⟨?_, rfl, rfl⟩
        congr 3
        refine msk_congr (fun j _ => ?_)
        by_cases q : own j < p
        · simp [q]
        · have : P.testBit (own j) = false := Nat.testBit_lt_two_pow (Nat.lt_of_lt_of_le hlt (Nat.pow_le_pow_right (n := 2) (by decide) (by omega)))
          simp [this]
      · refine x_iload dX6_ownedBy_16 rfl ?_
        refine x_iload dX6_ownedBy_17 rfl ?_
        refine x_ishr dX6_ownedBy_18 ?_
        refine x_k dX6_ownedBy_19 ?_
        refine x_iand dX6_ownedBy_20 ?_
        refine x_k dX6_ownedBy_21 ?_
        refine x_icmp_ne dX6_ownedBy_22 (fun b22 => ?_) (fun b22 => ?_)
        · refine x_inc1 dX6_ownedBy_34 rfl (Nat.le_of_ble_eq_true rfl) rfl ?_
          refine x_goto dX6_ownedBy_37 ?_
          rw [eb] at b22
          refine x_eq ?_ rfl rfl ih
          simp only [lent, List.set]
          congr 4
          refine congrArg nI ?_
          apply Nat.eq_of_testBit_eq
          intro j
          simp only [Nat.testBit_or, msk_bit]
          by_cases q : own j = p
          · simp_all; try omega
          · have q2 : own j < p + 1 ↔ own j < p := by omega
            simp [q, q2]
        · refine x_iload dX6_ownedBy_25 rfl ?_
          refine x_aload dX6_ownedBy_26 rfl ?_
          refine x_get fX6_15 dX6_ownedBy_27 (by first | assumption | rfl) ?_
          refine x_iload dX6_ownedBy_30 rfl ?_
          refine x_ialdn dX6_ownedBy_31 (by first | assumption | rfl) ⟨by first | omega | decide, by decide⟩ ?_
          refine x_ior dX6_ownedBy_32 ?_
          rw [hg p hp, fa_or]
          refine x_istore dX6_ownedBy_33 (Nat.le_of_ble_eq_true rfl) rfl ?_
          refine x_inc1 dX6_ownedBy_34 rfl (Nat.le_of_ble_eq_true rfl) rfl ?_
          refine x_goto dX6_ownedBy_37 ?_
          rw [eb] at b22
          refine x_eq ?_ rfl rfl ih
          simp only [lent, List.set]
          congr 4
          refine congrArg nI ?_
          apply Nat.eq_of_testBit_eq
          intro j
          simp only [Nat.testBit_or, msk_bit]
          by_cases q : own j = p
          · simp_all; try omega
          · have q2 : own j < p + 1 ↔ own j < p := by omega
            simp [q, q2]
theorem r_ownedBy_40 {so dn ln : Int32} {g : Nat → Int32} {H P : Nat} {own : Nat → Nat} (hA : h 40 = cK 41 42 43 44 so dn ln) (hC : h 42 = ia 8 g) (hg : ∀ p, p < 8 → g p = nI (msk (fun j => decide (own j = p)) H)) (hP : P < 256) (hH : H ≤ 8) (hown : ∀ j, j < H → own j < 8) : Re Γ mX6_ownedBy [.ref 40, .int (nI P)] h sz (some (.int (nI (ownM H own P)))) h sz := by
  refine x_enter 2 (by decide) rfl ?_
  refine x_k dX6_ownedBy_0 ?_
  refine x_istore dX6_ownedBy_1 (Nat.le_of_ble_eq_true rfl) rfl ?_
  refine x_k dX6_ownedBy_2 ?_
  refine x_istore dX6_ownedBy_3 (Nat.le_of_ble_eq_true rfl) rfl ?_
  refine x_eq (show _ = [Value.ref 40, .int (nI P), .int (nI (msk (fun j => decide (j < H) && decide (own j < 0) && P.testBit (own j)) 8)), .int (nI 0)] by rw [show msk (fun j => decide (j < H) && decide (own j < 0) && P.testBit (own j)) 8 = 0 by apply Nat.eq_of_testBit_eq; intro i; rw [msk_bit, Nat.zero_testBit]; simp]; rfl) rfl rfl (loopUp (P := fun p => Ex Γ mX6_ownedBy _ 0 0 4 [.ref 40, .int (nI P), .int (nI (msk (fun j => decide (j < H) && decide (own j < p) && P.testBit (own j)) 8)), .int (nI p)] [] h sz) 8 ?_ (fun p hp ih => ?_) 0 (Nat.zero_le _))
  · have e : msk (fun j => decide (j < H) && decide (own j < 8) && P.testBit (own j)) 8 = ownM H own P := msk_congr (fun j _ => by
      by_cases q : j < H
      · simp [q, hown j q]
      · simp [q])
    rw [e]
    refine x_iload dX6_ownedBy_4 rfl ?_
    refine x_k dX6_ownedBy_5 ?_
    refine x_icmp_ge dX6_ownedBy_7 (fun b7 => ?_) (fun b7 => ?_)
    · refine x_iload dX6_ownedBy_40 rfl ?_
      refine x_iret (ty := .int) dX6_ownedBy_41 rfl rfl (Nat.zero_le _) (Nat.zero_le _) ?_
      exact ⟨rfl, rfl, rfl⟩
    · exact absurd (by decide) b7
  · have eb := bitN1 (m := P) (k := p) (by omega) (by omega)
    have es := shrN (m := P) (k := p) (by omega) (by omega)
    have ez : nI (P / 2 ^ p) = 0 ↔ P / 2 ^ p = 0 := nI_eq (b := 0) (Nat.lt_of_le_of_lt (Nat.div_le_self _ _) (by omega)) (by decide)
    refine x_iload dX6_ownedBy_4 rfl ?_
    refine x_k dX6_ownedBy_5 ?_
    refine x_icmp_ge dX6_ownedBy_7 (fun b7 => ?_) (fun b7 => ?_)
    · exact absurd b7 (nI_ge (b := 8) hp (by decide))
    · refine x_iload dX6_ownedBy_10 rfl ?_
      refine x_iload dX6_ownedBy_11 rfl ?_
      refine x_ishr dX6_ownedBy_12 ?_
      refine x_if_eq dX6_ownedBy_13 (fun b13 => ?_) (fun b13 => ?_)
      · refine x_iload dX6_ownedBy_40 rfl ?_
        refine x_iret (ty := .int) dX6_ownedBy_41 rfl rfl (Nat.zero_le _) (Nat.zero_le _) ?_
        rw [es, ez] at b13
        have hlt : P < 2 ^ p := by
          rcases Nat.lt_or_ge P (2 ^ p) with q | q
          · exact q
          · have := Nat.div_pos q (Nat.two_pow_pos p); omega
        refine ⟨?_, rfl, rfl⟩
        congr 3
        refine msk_congr (fun j _ => ?_)
        by_cases q : own j < p
        · simp [q]
        · have : P.testBit (own j) = false := Nat.testBit_lt_two_pow (Nat.lt_of_lt_of_le hlt (Nat.pow_le_pow_right (n := 2) (by decide) (by omega)))
          simp [this]
      · refine x_iload dX6_ownedBy_16 rfl ?_
        refine x_iload dX6_ownedBy_17 rfl ?_
        refine x_ishr dX6_ownedBy_18 ?_
        refine x_k dX6_ownedBy_19 ?_
        refine x_iand dX6_ownedBy_20 ?_
        refine x_k dX6_ownedBy_21 ?_
        refine x_icmp_ne dX6_ownedBy_22 (fun b22 => ?_) (fun b22 => ?_)
        · refine x_inc1 dX6_ownedBy_34 rfl (Nat.le_of_ble_eq_true rfl) rfl ?_
          refine x_goto dX6_ownedBy_37 ?_
          rw [eb] at b22
          refine x_eq ?_ rfl rfl ih
          simp only [lent, List.set]
          congr 4
          refine congrArg nI ?_
          apply Nat.eq_of_testBit_eq
          intro j
          simp only [Nat.testBit_or, msk_bit]
          by_cases q : own j = p
          · simp_all; try omega
          · have q2 : own j < p + 1 ↔ own j < p := by omega
            simp [q, q2]
        · refine x_iload dX6_ownedBy_25 rfl ?_
          refine x_aload dX6_ownedBy_26 rfl ?_
          refine x_get fX6_15 dX6_ownedBy_27 (by first | assumption | rfl) ?_
          refine x_iload dX6_ownedBy_30 rfl ?_
          refine x_ialdn dX6_ownedBy_31 (by first | assumption | rfl) ⟨by first | omega | decide, by decide⟩ ?_
          refine x_ior dX6_ownedBy_32 ?_
          rw [hg p hp, fa_or]
          refine x_istore dX6_ownedBy_33 (Nat.le_of_ble_eq_true rfl) rfl ?_
          refine x_inc1 dX6_ownedBy_34 rfl (Nat.le_of_ble_eq_true rfl) rfl ?_
          refine x_goto dX6_ownedBy_37 ?_
          rw [eb] at b22
          refine x_eq ?_ rfl rfl ih
          simp only [lent, List.set]
          congr 4
          refine congrArg nI ?_
          apply Nat.eq_of_testBit_eq
          intro j
          simp only [Nat.testBit_or, msk_bit]
          by_cases q : own j = p
          · simp_all; try omega
          · have q2 : own j < p + 1 ↔ own j < p := by omega
            simp [q, q2]
theorem law3 {L : Nat} (h : L < 8) : (nI L &&& 1 = 0 ↔ L.testBit 0 = false) ∧ (nI L &&& 2 = 0 ↔ L.testBit 1 = false) ∧ (nI L &&& 4 = 0 ↔ L.testBit 2 = false) := by
  have : ∀ L : Nat, L < 8 → (nI L &&& 1 = 0 ↔ L.testBit 0 = false) ∧ (nI L &&& 2 = 0 ↔ L.testBit 1 = false) ∧ (nI L &&& 4 = 0 ↔ L.testBit 2 = false) := by decide +kernel
  exact this L h
theorem may_0 {N : Nat} {pos tms : Nat → Nat} {b f : Nat} (hN : N ≤ 8) (hb : b < 8) : nI (insM N pos (f + 1)) &&& (((1 : Int32) <<< (nI b &&& 31)) ^^^ (-1)) = nI (sldM N pos false tms b f) := by
  rw [shl1 (by omega), fa_diff]
  refine congrArg nI ?_
  apply Nat.eq_of_testBit_eq
  intro p
  rw [ndiff_bit, sldM_bit hN, insM, msk_bit, pow_bit, mayB]
  by_cases e : p = b
  · subst e; simp
  · have : ¬ b = p := fun q => e q.symm
    simp [e, this]
theorem may_1 {N : Nat} {pos tms : Nat → Nat} {b f : Nat} (hN : N ≤ 8) (hb : b < 8) : nI (insM N pos (f + 1)) &&& ((((1 : Int32) <<< (nI b &&& 31)) ^^^ (-1)) &&& (nI (msk (fun p => decide (tms p ≠ 0)) 8) ^^^ (-1))) = nI (sldM N pos true tms b f) := by
  rw [← Int32.and_assoc, shl1 (by omega), fa_diff, fa_diff]
  refine congrArg nI ?_
  apply Nat.eq_of_testBit_eq
  intro p
  rw [ndiff_bit, ndiff_bit, sldM_bit hN, insM, msk_bit, pow_bit, msk_bit, mayB]
  by_cases hp : p < N
  · have h8 : p < 8 := by omega
    by_cases e : p = b
    · subst e; simp
    · have : ¬ b = p := fun q => e q.symm
      by_cases z : tms p = 0
      · simp [e, this, z, h8]
      · simp [e, this, z, h8]
  · simp [hp]
theorem shl8 {S : Nat} (h : S < 256) : nI S <<< ((8 : Int32) &&& 31) = nI (S * 256) := pk_shlN _ 8 (by decide +kernel) (by omega)
theorem r_goneWith_20 {dn ln : Int32} {g ins : Nat → Int32} {H N L hs b : Nat} {pos own tms : Nat → Nat} (hA : h 20 = cK 21 22 23 24 (nI (msk (fun p => decide (tms p ≠ 0)) 8)) dn ln) (hC : h 22 = ia 8 g) (hI : h 16 = ia 9 ins) (hg : ∀ p, p < 8 → g p = nI (msk (fun j => decide (own j = p)) H)) (hins : ∀ s, s < 9 → ins s = nI (insM N pos s)) (hH : H ≤ 8) (hN : N ≤ 8) (hown : ∀ j, j < H → own j < 8) (hL : L < 8) (hhs : hs < 8) (hb : b < 8) :
    Re Γ mX6_goneWith [.ref 20, .int (nI hs), .int (nI b), .ref 16, .int (nI L)] h sz (some (.int (nI (salT H N pos (L.testBit 0) (L.testBit 1) (L.testBit 2) own tms b hs ||| msk (salS H N pos (L.testBit 0) (L.testBit 1) (L.testBit 2) own tms b hs) 8 * 256)))) h sz := by
  refine x_enter 8 (by decide) rfl ?_
  obtain ⟨l0, l1, l2⟩ := law3 hL
  have J147 : ∀ (T S : Nat) (may x8 : Int32) (v9 v10 v11 v12 : Value), T = salT H N pos (L.testBit 0) (L.testBit 1) (L.testBit 2) own tms b hs → S = msk (salS H N pos (L.testBit 0) (L.testBit 1) (L.testBit 2) own tms b hs) 8 → Ex Γ mX6_goneWith (gx_Z Γ mX6_goneWith (fun r' h' sz' => r' = some (.int (nI (salT H N pos (L.testBit 0) (L.testBit 1) (L.testBit 2) own tms b hs ||| msk (salS H N pos (L.testBit 0) (L.testBit 1) (L.testBit 2) own tms b hs) 8 * 256))) ∧ h' = h ∧ sz' = sz)) 0 0 147 [.ref 20, .int (nI hs), .int (nI b), .ref 16, .int (nI L), .int (nI T), .int may, .int (nI S), .int x8, v9, v10, v11, v12] [] h sz := by
    intro T S may x8 v9 v10 v11 v12 eT eS
    refine x_iload dX6_goneWith_147 rfl ?_
    refine x_iload dX6_goneWith_149 rfl ?_
    refine x_k dX6_goneWith_151 ?_
    refine x_ishl dX6_goneWith_153 ?_
    refine x_ior dX6_goneWith_154 ?_
    refine x_iret (ty := .int) dX6_goneWith_155 rfl rfl (Nat.zero_le _) (Nat.zero_le _) ?_
    exact ⟨by rw [shl8 (by rw [eS]; exact msk_lt _ 8), fa_or, eT, eS], rfl, rfl⟩
  have J50 : ∀ may : Int32, L.testBit 0 = true → (∀ f, f < 8 → nI (insM N pos (f + 1)) &&& may = nI (sldM N pos (L.testBit 2) tms b f)) → Ex Γ mX6_goneWith (gx_Z Γ mX6_goneWith (fun r' h' sz' => r' = some (.int (nI (salT H N pos (L.testBit 0) (L.testBit 1) (L.testBit 2) own tms b hs ||| msk (salS H N pos (L.testBit 0) (L.testBit 1) (L.testBit 2) own tms b hs) 8 * 256))) ∧ h' = h ∧ sz' = sz)) 0 0 50 [.ref 20, .int (nI hs), .int (nI b), .ref 16, .int (nI L), .int (nI (2 ^ hs)), .int may, .int (nI 0), .int (nI (2 ^ hs)), .int (nI 0), .retAddr 0, .retAddr 0, .retAddr 0] [] h sz := by
    intro may hw hmay
    refine loopUp (P := fun turn => ∀ (T W S : Nat) (v10 v11 v12 : Value), gwI H N pos (L.testBit 1) (L.testBit 2) own tms b hs T W S turn → Ex Γ mX6_goneWith _ 0 0 50 [.ref 20, .int (nI hs), .int (nI b), .ref 16, .int (nI L), .int (nI T), .int may, .int (nI S), .int (nI W), .int (nI turn), v10, v11, v12] [] h sz) 8 ?_ (fun turn ht ih => ?_) 0 (Nat.zero_le _) _ _ _ _ _ _ (gw_0 hhs)
    · intro T W S v10 v11 v12 hI8
      obtain ⟨eT, eS⟩ := gw_end hI8 (gw_8 hI8) hN
      rw [← hw] at eT eS
      refine x_iload dX6_goneWith_50 rfl ?_
      refine x_k dX6_goneWith_52 ?_
      refine x_icmp_ge dX6_goneWith_54 (fun b54 => ?_) (fun b54 => ?_)
      · exact J147 T S _ _ _ _ _ _ eT eS
      · exact absurd (by decide) b54
    · intro T W S v10 v11 v12 hIt
      have hW256 := hIt.2.1
      have ez : nI W = 0 ↔ W = 0 := nI_eq (b := 0) (by omega) (by decide)
      refine x_iload dX6_goneWith_50 rfl ?_
      refine x_k dX6_goneWith_52 ?_
      refine x_icmp_ge dX6_goneWith_54 (fun b54 => ?_) (fun b54 => ?_)
      · exact absurd b54 (nI_ge (b := 8) ht (by decide))
      · refine x_iload dX6_goneWith_57 rfl ?_
        refine x_if_eq dX6_goneWith_59 (fun b59 => ?_) (fun b59 => ?_)
        · obtain ⟨eT, eS⟩ := gw_end hIt (ez.mp b59) hN
          rw [← hw] at eT eS
          exact J147 T S _ _ _ _ _ _ eT eS
        · obtain ⟨f, hf8, hf, hlo, hcl⟩ := low hW256 (fun e => b59 (ez.mpr e))
          have hpw : (2 : Nat) ^ f ≤ 128 := Nat.pow_le_pow_right (n := 2) (j := 7) (by decide) (by omega)
          have ef1 : (nI f + 1).toNatClampNeg = f + 1 := by rw [nI_1, nI_clamp (by omega)]
          have hs256 : sldM N pos (L.testBit 2) tms b f < 256 := msk_lt _ 8
          have es0 : nI (sldM N pos (L.testBit 2) tms b f) = 0 ↔ sldM N pos (L.testBit 2) tms b f = 0 := nI_eq (b := 0) (by omega) (by decide)
          have hst0 : (L.testBit 1 = true → sldM N pos (L.testBit 2) tms b f = 0) → gwI H N pos (L.testBit 1) (L.testBit 2) own tms b hs T (ndiff W (2 ^ f)) (S ||| sldM N pos (L.testBit 2) tms b f) (turn + 1) := by
            intro q
            have := gw_step hH hN hIt hf 0 (by decide) (fun j => by
              rw [Nat.zero_testBit]
              cases hc : L.testBit 1 with
              | false => rfl
              | true => rw [q hc, ownM, msk_bit]; simp)
            rw [Nat.or_zero, Nat.or_zero] at this
            exact this
          refine x_iload dX6_goneWith_62 rfl ?_
          refine x_iload dX6_goneWith_64 rfl ?_
          refine x_ineg dX6_goneWith_66 ?_
          refine x_iand dX6_goneWith_67 ?_
          refine x_k dX6_goneWith_68 ?_
          refine x_isub dX6_goneWith_69 ?_
          rw [hlo]
          refine x_S1i lX6_86 (Rm.of rfl) (cc1 := 0) (cn1 := 0) rfl rfl (Nat.le_of_ble_eq_true rfl) dX6_goneWith_70 (r_bitCount (n := 2 ^ f - 1) (by omega)) ?_
          rw [pop_ones hf8]
          refine x_istore dX6_goneWith_73 (Nat.le_of_ble_eq_true rfl) rfl ?_
          refine x_iload dX6_goneWith_75 rfl ?_
          refine x_iload dX6_goneWith_77 rfl ?_
          refine x_k dX6_goneWith_79 ?_
          refine x_isub dX6_goneWith_80 ?_
          refine x_iand dX6_goneWith_81 ?_
          rw [hcl]
          refine x_istore dX6_goneWith_82 (Nat.le_of_ble_eq_true rfl) rfl ?_
          refine x_aload dX6_goneWith_84 rfl ?_
          refine x_iload dX6_goneWith_85 rfl ?_
          refine x_k dX6_goneWith_87 ?_
          refine x_iadd dX6_goneWith_88 ?_
          refine x_iald dX6_goneWith_89 (by first | assumption | rfl) (by rw [nI_1]; exact vp_in_nI (by omega) (by decide)) ?_
          rw [ef1, hins (f + 1) (by omega)]
          refine x_iload dX6_goneWith_90 rfl ?_
          refine x_iand dX6_goneWith_92 ?_
          rw [hmay f hf8]
          refine x_istore dX6_goneWith_93 (Nat.le_of_ble_eq_true rfl) rfl ?_
          refine x_iload dX6_goneWith_95 rfl ?_
          refine x_iload dX6_goneWith_97 rfl ?_
          refine x_ior dX6_goneWith_99 ?_
          rw [fa_or]
          refine x_istore dX6_goneWith_100 (Nat.le_of_ble_eq_true rfl) rfl ?_
          refine x_iload dX6_goneWith_102 rfl ?_
          refine x_if_eq dX6_goneWith_104 (fun b104 => ?_) (fun b104 => ?_)
          · refine x_inc1 dX6_goneWith_141 rfl (Nat.le_of_ble_eq_true rfl) rfl ?_
            refine x_goto dX6_goneWith_144 ?_
            first
              | exact ih _ _ _ _ _ _ (hst0 (fun _ => es0.mp b104))
              | exact ih _ _ _ _ _ _ (hst0 (fun q => absurd (l1.mp b111) (by rw [q]; decide)))
              | (refine ih _ _ _ _ _ _ (gw_step hH hN hIt hf _ (ndiff_lt (ownM_lt _ _ _)) (fun j => ?_))
                 have hc : L.testBit 1 = true := by
                   cases q : L.testBit 1 with
                   | true => rfl
                   | false => exact absurd (l1.mpr q) b111
                 rw [ndiff_bit, hc, Bool.true_and])
          · refine x_iload dX6_goneWith_107 rfl ?_
            refine x_k dX6_goneWith_109 ?_
            refine x_iand dX6_goneWith_110 ?_
            refine x_if_eq dX6_goneWith_111 (fun b111 => ?_) (fun b111 => ?_)
            · refine x_inc1 dX6_goneWith_141 rfl (Nat.le_of_ble_eq_true rfl) rfl ?_
              refine x_goto dX6_goneWith_144 ?_
              first
                | exact ih _ _ _ _ _ _ (hst0 (fun _ => es0.mp b104))
                | exact ih _ _ _ _ _ _ (hst0 (fun q => absurd (l1.mp b111) (by rw [q]; decide)))
                | (refine ih _ _ _ _ _ _ (gw_step hH hN hIt hf _ (ndiff_lt (ownM_lt _ _ _)) (fun j => ?_))
                   have hc : L.testBit 1 = true := by
                     cases q : L.testBit 1 with
                     | true => rfl
                     | false => exact absurd (l1.mpr q) b111
                   rw [ndiff_bit, hc, Bool.true_and])
            · refine x_aload dX6_goneWith_114 rfl ?_
              refine x_iload dX6_goneWith_115 rfl ?_
              refine x_V1i lX6_92 (Rm.of rfl) (cc1 := 0) (cn1 := 0) rfl rfl (Nat.le_of_ble_eq_true rfl) dX6_goneWith_117 (by first | assumption | rfl) (r_ownedBy_20 hA hC hg hs256 hH hown) ?_
              refine x_iload dX6_goneWith_120 rfl ?_
              refine x_k dX6_goneWith_122 ?_
              refine x_ixor dX6_goneWith_123 ?_
              refine x_iand dX6_goneWith_124 ?_
              rw [fa_diff]
              refine x_istore dX6_goneWith_125 (Nat.le_of_ble_eq_true rfl) rfl ?_
              refine x_iload dX6_goneWith_127 rfl ?_
              refine x_iload dX6_goneWith_129 rfl ?_
              refine x_ior dX6_goneWith_131 ?_
              rw [fa_or]
              refine x_istore dX6_goneWith_132 (Nat.le_of_ble_eq_true rfl) rfl ?_
              refine x_iload dX6_goneWith_134 rfl ?_
              refine x_iload dX6_goneWith_136 rfl ?_
              refine x_ior dX6_goneWith_138 ?_
              rw [fa_or]
              refine x_istore dX6_goneWith_139 (Nat.le_of_ble_eq_true rfl) rfl ?_
              refine x_inc1 dX6_goneWith_141 rfl (Nat.le_of_ble_eq_true rfl) rfl ?_
              refine x_goto dX6_goneWith_144 ?_
              first
                | exact ih _ _ _ _ _ _ (hst0 (fun _ => es0.mp b104))
                | exact ih _ _ _ _ _ _ (hst0 (fun q => absurd (l1.mp b111) (by rw [q]; decide)))
                | (refine ih _ _ _ _ _ _ (gw_step hH hN hIt hf _ (ndiff_lt (ownM_lt _ _ _)) (fun j => ?_))
                   have hc : L.testBit 1 = true := by
                     cases q : L.testBit 1 with
                     | true => rfl
                     | false => exact absurd (l1.mpr q) b111
                   rw [ndiff_bit, hc, Bool.true_and])
  refine x_k dX6_goneWith_0 ?_
  refine x_iload dX6_goneWith_1 rfl ?_
  refine x_ishl dX6_goneWith_2 ?_
  refine x_istore dX6_goneWith_3 (Nat.le_of_ble_eq_true rfl) rfl ?_
  rw [shl1 (by omega)]
  refine x_iload dX6_goneWith_5 rfl ?_
  refine x_k dX6_goneWith_7 ?_
  refine x_iand dX6_goneWith_8 ?_
  refine x_if_ne dX6_goneWith_9 (fun b9 => ?_) (fun b9 => ?_)
  · refine x_k dX6_goneWith_15 ?_
    refine x_iload dX6_goneWith_16 rfl ?_
    refine x_ishl dX6_goneWith_17 ?_
    refine x_k dX6_goneWith_18 ?_
    refine x_ixor dX6_goneWith_19 ?_
    refine x_istore dX6_goneWith_20 (Nat.le_of_ble_eq_true rfl) rfl ?_
    refine x_iload dX6_goneWith_22 rfl ?_
    refine x_k dX6_goneWith_24 ?_
    refine x_iand dX6_goneWith_25 ?_
    refine x_if_eq dX6_goneWith_26 (fun b26 => ?_) (fun b26 => ?_)
    · refine x_k dX6_goneWith_40 ?_
      refine x_istore dX6_goneWith_41 (Nat.le_of_ble_eq_true rfl) rfl ?_
      refine x_iload dX6_goneWith_43 rfl ?_
      refine x_istore dX6_goneWith_45 (Nat.le_of_ble_eq_true rfl) rfl ?_
      refine x_k dX6_goneWith_47 ?_
      refine x_istore dX6_goneWith_48 (Nat.le_of_ble_eq_true rfl) rfl ?_
      have hw : L.testBit 0 = true := by
        cases q : L.testBit 0 with
        | true => rfl
        | false => exact absurd (l0.mpr q) b9
      first
        | exact J50 _ hw (fun f hf => by rw [l2.mp b26]; exact may_0 hN hb)
        | (have ho : L.testBit 2 = true := by
             cases q : L.testBit 2 with
             | true => rfl
             | false => exact absurd (l2.mpr q) b26
           exact J50 _ hw (fun f hf => by rw [ho]; exact may_1 hN hb))
    · refine x_iload dX6_goneWith_29 rfl ?_
      refine x_aload dX6_goneWith_31 rfl ?_
      refine x_get fX6_24 dX6_goneWith_32 (by first | assumption | rfl) ?_
      refine x_k dX6_goneWith_35 ?_
      refine x_ixor dX6_goneWith_36 ?_
      refine x_iand dX6_goneWith_37 ?_
      refine x_istore dX6_goneWith_38 (Nat.le_of_ble_eq_true rfl) rfl ?_
      refine x_k dX6_goneWith_40 ?_
      refine x_istore dX6_goneWith_41 (Nat.le_of_ble_eq_true rfl) rfl ?_
      refine x_iload dX6_goneWith_43 rfl ?_
      refine x_istore dX6_goneWith_45 (Nat.le_of_ble_eq_true rfl) rfl ?_
      refine x_k dX6_goneWith_47 ?_
      refine x_istore dX6_goneWith_48 (Nat.le_of_ble_eq_true rfl) rfl ?_
      have hw : L.testBit 0 = true := by
        cases q : L.testBit 0 with
        | true => rfl
        | false => exact absurd (l0.mpr q) b9
      first
        | exact J50 _ hw (fun f hf => by rw [l2.mp b26]; exact may_0 hN hb)
        | (have ho : L.testBit 2 = true := by
             cases q : L.testBit 2 with
             | true => rfl
             | false => exact absurd (l2.mpr q) b26
           exact J50 _ hw (fun f hf => by rw [ho]; exact may_1 hN hb))
  · refine x_iload dX6_goneWith_12 rfl ?_
    refine x_iret (ty := .int) dX6_goneWith_14 rfl rfl (Nat.zero_le _) (Nat.zero_le _) ?_
    have hw := l0.mp (Classical.not_not.mp b9)
    have eT : 2 ^ hs = salT H N pos (L.testBit 0) (L.testBit 1) (L.testBit 2) own tms b hs := by
      refine clo_eq (Nat.pow_lt_pow_right (n := 8) (by decide) hhs) (by rw [pow_bit]; simp) (fun a j _ q => ?_) (fun j hj Q q1 _ => ?_)
      · rw [edg, hw] at q; simp at q
      · rw [pow_bit, decide_eq_true_eq] at hj; subst hj; exact q1
    have eS : msk (salS H N pos (L.testBit 0) (L.testBit 1) (L.testBit 2) own tms b hs) 8 = 0 := by
      apply Nat.eq_of_testBit_eq
      intro p
      rw [msk_bit, salS, hw, Nat.zero_testBit]; simp
    exact ⟨by rw [← eT, eS, Nat.zero_mul, Nat.or_zero], rfl, rfl⟩
theorem r_goneWith_29 {dn ln : Int32} {g ins : Nat → Int32} {H N L hs b : Nat} {pos own tms : Nat → Nat} (hA : h 29 = cK 30 31 32 33 (nI (msk (fun p => decide (tms p ≠ 0)) 8)) dn ln) (hC : h 31 = ia 8 g) (hI : h 34 = ia 9 ins) (hg : ∀ p, p < 8 → g p = nI (msk (fun j => decide (own j = p)) H)) (hins : ∀ s, s < 9 → ins s = nI (insM N pos s)) (hH : H ≤ 8) (hN : N ≤ 8) (hown : ∀ j, j < H → own j < 8) (hL : L < 8) (hhs : hs < 8) (hb : b < 8) :
    Re Γ mX6_goneWith [.ref 29, .int (nI hs), .int (nI b), .ref 34, .int (nI L)] h sz (some (.int (nI (salT H N pos (L.testBit 0) (L.testBit 1) (L.testBit 2) own tms b hs ||| msk (salS H N pos (L.testBit 0) (L.testBit 1) (L.testBit 2) own tms b hs) 8 * 256)))) h sz := by
  refine x_enter 8 (by decide) rfl ?_
  obtain ⟨l0, l1, l2⟩ := law3 hL
  have J147 : ∀ (T S : Nat) (may x8 : Int32) (v9 v10 v11 v12 : Value), T = salT H N pos (L.testBit 0) (L.testBit 1) (L.testBit 2) own tms b hs → S = msk (salS H N pos (L.testBit 0) (L.testBit 1) (L.testBit 2) own tms b hs) 8 → Ex Γ mX6_goneWith (gx_Z Γ mX6_goneWith (fun r' h' sz' => r' = some (.int (nI (salT H N pos (L.testBit 0) (L.testBit 1) (L.testBit 2) own tms b hs ||| msk (salS H N pos (L.testBit 0) (L.testBit 1) (L.testBit 2) own tms b hs) 8 * 256))) ∧ h' = h ∧ sz' = sz)) 0 0 147 [.ref 29, .int (nI hs), .int (nI b), .ref 34, .int (nI L), .int (nI T), .int may, .int (nI S), .int x8, v9, v10, v11, v12] [] h sz := by
    intro T S may x8 v9 v10 v11 v12 eT eS
    refine x_iload dX6_goneWith_147 rfl ?_
    refine x_iload dX6_goneWith_149 rfl ?_
    refine x_k dX6_goneWith_151 ?_
    refine x_ishl dX6_goneWith_153 ?_
    refine x_ior dX6_goneWith_154 ?_
    refine x_iret (ty := .int) dX6_goneWith_155 rfl rfl (Nat.zero_le _) (Nat.zero_le _) ?_
    exact ⟨by rw [shl8 (by rw [eS]; exact msk_lt _ 8), fa_or, eT, eS], rfl, rfl⟩
  have J50 : ∀ may : Int32, L.testBit 0 = true → (∀ f, f < 8 → nI (insM N pos (f + 1)) &&& may = nI (sldM N pos (L.testBit 2) tms b f)) → Ex Γ mX6_goneWith (gx_Z Γ mX6_goneWith (fun r' h' sz' => r' = some (.int (nI (salT H N pos (L.testBit 0) (L.testBit 1) (L.testBit 2) own tms b hs ||| msk (salS H N pos (L.testBit 0) (L.testBit 1) (L.testBit 2) own tms b hs) 8 * 256))) ∧ h' = h ∧ sz' = sz)) 0 0 50 [.ref 29, .int (nI hs), .int (nI b), .ref 34, .int (nI L), .int (nI (2 ^ hs)), .int may, .int (nI 0), .int (nI (2 ^ hs)), .int (nI 0), .retAddr 0, .retAddr 0, .retAddr 0] [] h sz := by
    intro may hw hmay
    refine loopUp (P := fun turn => ∀ (T W S : Nat) (v10 v11 v12 : Value), gwI H N pos (L.testBit 1) (L.testBit 2) own tms b hs T W S turn → Ex Γ mX6_goneWith _ 0 0 50 [.ref 29, .int (nI hs), .int (nI b), .ref 34, .int (nI L), .int (nI T), .int may, .int (nI S), .int (nI W), .int (nI turn), v10, v11, v12] [] h sz) 8 ?_ (fun turn ht ih => ?_) 0 (Nat.zero_le _) _ _ _ _ _ _ (gw_0 hhs)
    · intro T W S v10 v11 v12 hI8
      obtain ⟨eT, eS⟩ := gw_end hI8 (gw_8 hI8) hN
      rw [← hw] at eT eS
      refine x_iload dX6_goneWith_50 rfl ?_
      refine x_k dX6_goneWith_52 ?_
      refine x_icmp_ge dX6_goneWith_54 (fun b54 => ?_) (fun b54 => ?_)
      · exact J147 T S _ _ _ _ _ _ eT eS
      · exact absurd (by decide) b54
    · intro T W S v10 v11 v12 hIt
      have hW256 := hIt.2.1
      have ez : nI W = 0 ↔ W = 0 := nI_eq (b := 0) (by omega) (by decide)
      refine x_iload dX6_goneWith_50 rfl ?_
      refine x_k dX6_goneWith_52 ?_
      refine x_icmp_ge dX6_goneWith_54 (fun b54 => ?_) (fun b54 => ?_)
      · exact absurd b54 (nI_ge (b := 8) ht (by decide))
      · refine x_iload dX6_goneWith_57 rfl ?_
        refine x_if_eq dX6_goneWith_59 (fun b59 => ?_) (fun b59 => ?_)
        · obtain ⟨eT, eS⟩ := gw_end hIt (ez.mp b59) hN
          rw [← hw] at eT eS
          exact J147 T S _ _ _ _ _ _ eT eS
        · obtain ⟨f, hf8, hf, hlo, hcl⟩ := low hW256 (fun e => b59 (ez.mpr e))
          have hpw : (2 : Nat) ^ f ≤ 128 := Nat.pow_le_pow_right (n := 2) (j := 7) (by decide) (by omega)
          have ef1 : (nI f + 1).toNatClampNeg = f + 1 := by rw [nI_1, nI_clamp (by omega)]
          have hs256 : sldM N pos (L.testBit 2) tms b f < 256 := msk_lt _ 8
          have es0 : nI (sldM N pos (L.testBit 2) tms b f) = 0 ↔ sldM N pos (L.testBit 2) tms b f = 0 := nI_eq (b := 0) (by omega) (by decide)
          have hst0 : (L.testBit 1 = true → sldM N pos (L.testBit 2) tms b f = 0) → gwI H N pos (L.testBit 1) (L.testBit 2) own tms b hs T (ndiff W (2 ^ f)) (S ||| sldM N pos (L.testBit 2) tms b f) (turn + 1) := by
            intro q
            have := gw_step hH hN hIt hf 0 (by decide) (fun j => by
              rw [Nat.zero_testBit]
              cases hc : L.testBit 1 with
              | false => rfl
              | true => rw [q hc, ownM, msk_bit]; simp)
            rw [Nat.or_zero, Nat.or_zero] at this
            exact this
          refine x_iload dX6_goneWith_62 rfl ?_
          refine x_iload dX6_goneWith_64 rfl ?_
          refine x_ineg dX6_goneWith_66 ?_
          refine x_iand dX6_goneWith_67 ?_
          refine x_k dX6_goneWith_68 ?_
          refine x_isub dX6_goneWith_69 ?_
          rw [hlo]
          refine x_S1i lX6_86 (Rm.of rfl) (cc1 := 0) (cn1 := 0) rfl rfl (Nat.le_of_ble_eq_true rfl) dX6_goneWith_70 (r_bitCount (n := 2 ^ f - 1) (by omega)) ?_
          rw [pop_ones hf8]
          refine x_istore dX6_goneWith_73 (Nat.le_of_ble_eq_true rfl) rfl ?_
          refine x_iload dX6_goneWith_75 rfl ?_
          refine x_iload dX6_goneWith_77 rfl ?_
          refine x_k dX6_goneWith_79 ?_
          refine x_isub dX6_goneWith_80 ?_
          refine x_iand dX6_goneWith_81 ?_
          rw [hcl]
          refine x_istore dX6_goneWith_82 (Nat.le_of_ble_eq_true rfl) rfl ?_
          refine x_aload dX6_goneWith_84 rfl ?_
          refine x_iload dX6_goneWith_85 rfl ?_
          refine x_k dX6_goneWith_87 ?_
          refine x_iadd dX6_goneWith_88 ?_
          refine x_iald dX6_goneWith_89 (by first | assumption | rfl) (by rw [nI_1]; exact vp_in_nI (by omega) (by decide)) ?_
          rw [ef1, hins (f + 1) (by omega)]
          refine x_iload dX6_goneWith_90 rfl ?_
          refine x_iand dX6_goneWith_92 ?_
          rw [hmay f hf8]
          refine x_istore dX6_goneWith_93 (Nat.le_of_ble_eq_true rfl) rfl ?_
          refine x_iload dX6_goneWith_95 rfl ?_
          refine x_iload dX6_goneWith_97 rfl ?_
          refine x_ior dX6_goneWith_99 ?_
          rw [fa_or]
          refine x_istore dX6_goneWith_100 (Nat.le_of_ble_eq_true rfl) rfl ?_
          refine x_iload dX6_goneWith_102 rfl ?_
          refine x_if_eq dX6_goneWith_104 (fun b104 => ?_) (fun b104 => ?_)
          · refine x_inc1 dX6_goneWith_141 rfl (Nat.le_of_ble_eq_true rfl) rfl ?_
            refine x_goto dX6_goneWith_144 ?_
            first
              | exact ih _ _ _ _ _ _ (hst0 (fun _ => es0.mp b104))
              | exact ih _ _ _ _ _ _ (hst0 (fun q => absurd (l1.mp b111) (by rw [q]; decide)))
              | (refine ih _ _ _ _ _ _ (gw_step hH hN hIt hf _ (ndiff_lt (ownM_lt _ _ _)) (fun j => ?_))
                 have hc : L.testBit 1 = true := by
                   cases q : L.testBit 1 with
                   | true => rfl
                   | false => exact absurd (l1.mpr q) b111
                 rw [ndiff_bit, hc, Bool.true_and])
          · refine x_iload dX6_goneWith_107 rfl ?_
            refine x_k dX6_goneWith_109 ?_
            refine x_iand dX6_goneWith_110 ?_
            refine x_if_eq dX6_goneWith_111 (fun b111 => ?_) (fun b111 => ?_)
            · refine x_inc1 dX6_goneWith_141 rfl (Nat.le_of_ble_eq_true rfl) rfl ?_
              refine x_goto dX6_goneWith_144 ?_
              first
                | exact ih _ _ _ _ _ _ (hst0 (fun _ => es0.mp b104))
                | exact ih _ _ _ _ _ _ (hst0 (fun q => absurd (l1.mp b111) (by rw [q]; decide)))
                | (refine ih _ _ _ _ _ _ (gw_step hH hN hIt hf _ (ndiff_lt (ownM_lt _ _ _)) (fun j => ?_))
                   have hc : L.testBit 1 = true := by
                     cases q : L.testBit 1 with
                     | true => rfl
                     | false => exact absurd (l1.mpr q) b111
                   rw [ndiff_bit, hc, Bool.true_and])
            · refine x_aload dX6_goneWith_114 rfl ?_
              refine x_iload dX6_goneWith_115 rfl ?_
              refine x_V1i lX6_92 (Rm.of rfl) (cc1 := 0) (cn1 := 0) rfl rfl (Nat.le_of_ble_eq_true rfl) dX6_goneWith_117 (by first | assumption | rfl) (r_ownedBy_29 hA hC hg hs256 hH hown) ?_
              refine x_iload dX6_goneWith_120 rfl ?_
              refine x_k dX6_goneWith_122 ?_
              refine x_ixor dX6_goneWith_123 ?_
              refine x_iand dX6_goneWith_124 ?_
              rw [fa_diff]
              refine x_istore dX6_goneWith_125 (Nat.le_of_ble_eq_true rfl) rfl ?_
              refine x_iload dX6_goneWith_127 rfl ?_
              refine x_iload dX6_goneWith_129 rfl ?_
              refine x_ior dX6_goneWith_131 ?_
              rw [fa_or]
              refine x_istore dX6_goneWith_132 (Nat.le_of_ble_eq_true rfl) rfl ?_
              refine x_iload dX6_goneWith_134 rfl ?_
              refine x_iload dX6_goneWith_136 rfl ?_
              refine x_ior dX6_goneWith_138 ?_
              rw [fa_or]
              refine x_istore dX6_goneWith_139 (Nat.le_of_ble_eq_true rfl) rfl ?_
              refine x_inc1 dX6_goneWith_141 rfl (Nat.le_of_ble_eq_true rfl) rfl ?_
              refine x_goto dX6_goneWith_144 ?_
              first
                | exact ih _ _ _ _ _ _ (hst0 (fun _ => es0.mp b104))
                | exact ih _ _ _ _ _ _ (hst0 (fun q => absurd (l1.mp b111) (by rw [q]; decide)))
                | (refine ih _ _ _ _ _ _ (gw_step hH hN hIt hf _ (ndiff_lt (ownM_lt _ _ _)) (fun j => ?_))
                   have hc : L.testBit 1 = true := by
                     cases q : L.testBit 1 with
                     | true => rfl
                     | false => exact absurd (l1.mpr q) b111
                   rw [ndiff_bit, hc, Bool.true_and])
  refine x_k dX6_goneWith_0 ?_
  refine x_iload dX6_goneWith_1 rfl ?_
  refine x_ishl dX6_goneWith_2 ?_
  refine x_istore dX6_goneWith_3 (Nat.le_of_ble_eq_true rfl) rfl ?_
  rw [shl1 (by omega)]
  refine x_iload dX6_goneWith_5 rfl ?_
  refine x_k dX6_goneWith_7 ?_
  refine x_iand dX6_goneWith_8 ?_
  refine x_if_ne dX6_goneWith_9 (fun b9 => ?_) (fun b9 => ?_)
  · refine x_k dX6_goneWith_15 ?_
    refine x_iload dX6_goneWith_16 rfl ?_
    refine x_ishl dX6_goneWith_17 ?_
    refine x_k dX6_goneWith_18 ?_
    refine x_ixor dX6_goneWith_19 ?_
    refine x_istore dX6_goneWith_20 (Nat.le_of_ble_eq_true rfl) rfl ?_
    refine x_iload dX6_goneWith_22 rfl ?_
    refine x_k dX6_goneWith_24 ?_
    refine x_iand dX6_goneWith_25 ?_
    refine x_if_eq dX6_goneWith_26 (fun b26 => ?_) (fun b26 => ?_)
    · refine x_k dX6_goneWith_40 ?_
      refine x_istore dX6_goneWith_41 (Nat.le_of_ble_eq_true rfl) rfl ?_
      refine x_iload dX6_goneWith_43 rfl ?_
      refine x_istore dX6_goneWith_45 (Nat.le_of_ble_eq_true rfl) rfl ?_
      refine x_k dX6_goneWith_47 ?_
      refine x_istore dX6_goneWith_48 (Nat.le_of_ble_eq_true rfl) rfl ?_
      have hw : L.testBit 0 = true := by
        cases q : L.testBit 0 with
        | true => rfl
        | false => exact absurd (l0.mpr q) b9
      first
        | exact J50 _ hw (fun f hf => by rw [l2.mp b26]; exact may_0 hN hb)
        | (have ho : L.testBit 2 = true := by
             cases q : L.testBit 2 with
             | true => rfl
             | false => exact absurd (l2.mpr q) b26
           exact J50 _ hw (fun f hf => by rw [ho]; exact may_1 hN hb))
    · refine x_iload dX6_goneWith_29 rfl ?_
      refine x_aload dX6_goneWith_31 rfl ?_
      refine x_get fX6_24 dX6_goneWith_32 (by first | assumption | rfl) ?_
      refine x_k dX6_goneWith_35 ?_
      refine x_ixor dX6_goneWith_36 ?_
      refine x_iand dX6_goneWith_37 ?_
      refine x_istore dX6_goneWith_38 (Nat.le_of_ble_eq_true rfl) rfl ?_
      refine x_k dX6_goneWith_40 ?_
      refine x_istore dX6_goneWith_41 (Nat.le_of_ble_eq_true rfl) rfl ?_
      refine x_iload dX6_goneWith_43 rfl ?_
      refine x_istore dX6_goneWith_45 (Nat.le_of_ble_eq_true rfl) rfl ?_
      refine x_k dX6_goneWith_47 ?_
      refine x_istore dX6_goneWith_48 (Nat.le_of_ble_eq_true rfl) rfl ?_
      have hw : L.testBit 0 = true := by
        cases q : L.testBit 0 with
        | true => rfl
        | false => exact absurd (l0.mpr q) b9
      first
        | exact J50 _ hw (fun f hf => by rw [l2.mp b26]; exact may_0 hN hb)
        | (have ho : L.testBit 2 = true := by
             cases q : L.testBit 2 with
             | true => rfl
             | false => exact absurd (l2.mpr q) b26
           exact J50 _ hw (fun f hf => by rw [ho]; exact may_1 hN hb))
  · refine x_iload dX6_goneWith_12 rfl ?_
    refine x_iret (ty := .int) dX6_goneWith_14 rfl rfl (Nat.zero_le _) (Nat.zero_le _) ?_
    have hw := l0.mp (Classical.not_not.mp b9)
    have eT : 2 ^ hs = salT H N pos (L.testBit 0) (L.testBit 1) (L.testBit 2) own tms b hs := by
      refine clo_eq (Nat.pow_lt_pow_right (n := 8) (by decide) hhs) (by rw [pow_bit]; simp) (fun a j _ q => ?_) (fun j hj Q q1 _ => ?_)
      · rw [edg, hw] at q; simp at q
      · rw [pow_bit, decide_eq_true_eq] at hj; subst hj; exact q1
    have eS : msk (salS H N pos (L.testBit 0) (L.testBit 1) (L.testBit 2) own tms b hs) 8 = 0 := by
      apply Nat.eq_of_testBit_eq
      intro p
      rw [msk_bit, salS, hw, Nat.zero_testBit]; simp
    exact ⟨by rw [← eT, eS, Nat.zero_mul, Nat.or_zero], rfl, rfl⟩
theorem r_goneWith_40 {dn ln : Int32} {g ins : Nat → Int32} {H N L hs b : Nat} {pos own tms : Nat → Nat} (hA : h 40 = cK 41 42 43 44 (nI (msk (fun p => decide (tms p ≠ 0)) 8)) dn ln) (hC : h 42 = ia 8 g) (hI : h 16 = ia 9 ins) (hg : ∀ p, p < 8 → g p = nI (msk (fun j => decide (own j = p)) H)) (hins : ∀ s, s < 9 → ins s = nI (insM N pos s)) (hH : H ≤ 8) (hN : N ≤ 8) (hown : ∀ j, j < H → own j < 8) (hL : L < 8) (hhs : hs < 8) (hb : b < 8) :
    Re Γ mX6_goneWith [.ref 40, .int (nI hs), .int (nI b), .ref 16, .int (nI L)] h sz (some (.int (nI (salT H N pos (L.testBit 0) (L.testBit 1) (L.testBit 2) own tms b hs ||| msk (salS H N pos (L.testBit 0) (L.testBit 1) (L.testBit 2) own tms b hs) 8 * 256)))) h sz := by
  refine x_enter 8 (by decide) rfl ?_
  obtain ⟨l0, l1, l2⟩ := law3 hL
  have J147 : ∀ (T S : Nat) (may x8 : Int32) (v9 v10 v11 v12 : Value), T = salT H N pos (L.testBit 0) (L.testBit 1) (L.testBit 2) own tms b hs → S = msk (salS H N pos (L.testBit 0) (L.testBit 1) (L.testBit 2) own tms b hs) 8 → Ex Γ mX6_goneWith (gx_Z Γ mX6_goneWith (fun r' h' sz' => r' = some (.int (nI (salT H N pos (L.testBit 0) (L.testBit 1) (L.testBit 2) own tms b hs ||| msk (salS H N pos (L.testBit 0) (L.testBit 1) (L.testBit 2) own tms b hs) 8 * 256))) ∧ h' = h ∧ sz' = sz)) 0 0 147 [.ref 40, .int (nI hs), .int (nI b), .ref 16, .int (nI L), .int (nI T), .int may, .int (nI S), .int x8, v9, v10, v11, v12] [] h sz := by
    intro T S may x8 v9 v10 v11 v12 eT eS
    refine x_iload dX6_goneWith_147 rfl ?_
    refine x_iload dX6_goneWith_149 rfl ?_
    refine x_k dX6_goneWith_151 ?_
    refine x_ishl dX6_goneWith_153 ?_
    refine x_ior dX6_goneWith_154 ?_
    refine x_iret (ty := .int) dX6_goneWith_155 rfl rfl (Nat.zero_le _) (Nat.zero_le _) ?_
    exact ⟨by rw [shl8 (by rw [eS]; exact msk_lt _ 8), fa_or, eT, eS], rfl, rfl⟩
  have J50 : ∀ may : Int32, L.testBit 0 = true → (∀ f, f < 8 → nI (insM N pos (f + 1)) &&& may = nI (sldM N pos (L.testBit 2) tms b f)) → Ex Γ mX6_goneWith (gx_Z Γ mX6_goneWith (fun r' h' sz' => r' = some (.int (nI (salT H N pos (L.testBit 0) (L.testBit 1) (L.testBit 2) own tms b hs ||| msk (salS H N pos (L.testBit 0) (L.testBit 1) (L.testBit 2) own tms b hs) 8 * 256))) ∧ h' = h ∧ sz' = sz)) 0 0 50 [.ref 40, .int (nI hs), .int (nI b), .ref 16, .int (nI L), .int (nI (2 ^ hs)), .int may, .int (nI 0), .int (nI (2 ^ hs)), .int (nI 0), .retAddr 0, .retAddr 0, .retAddr 0] [] h sz := by
    intro may hw hmay
    refine loopUp (P := fun turn => ∀ (T W S : Nat) (v10 v11 v12 : Value), gwI H N pos (L.testBit 1) (L.testBit 2) own tms b hs T W S turn → Ex Γ mX6_goneWith _ 0 0 50 [.ref 40, .int (nI hs), .int (nI b), .ref 16, .int (nI L), .int (nI T), .int may, .int (nI S), .int (nI W), .int (nI turn), v10, v11, v12] [] h sz) 8 ?_ (fun turn ht ih => ?_) 0 (Nat.zero_le _) _ _ _ _ _ _ (gw_0 hhs)
    · intro T W S v10 v11 v12 hI8
      obtain ⟨eT, eS⟩ := gw_end hI8 (gw_8 hI8) hN
      rw [← hw] at eT eS
      refine x_iload dX6_goneWith_50 rfl ?_
      refine x_k dX6_goneWith_52 ?_
      refine x_icmp_ge dX6_goneWith_54 (fun b54 => ?_) (fun b54 => ?_)
      · exact J147 T S _ _ _ _ _ _ eT eS
      · exact absurd (by decide) b54
    · intro T W S v10 v11 v12 hIt
      have hW256 := hIt.2.1
      have ez : nI W = 0 ↔ W = 0 := nI_eq (b := 0) (by omega) (by decide)
      refine x_iload dX6_goneWith_50 rfl ?_
      refine x_k dX6_goneWith_52 ?_
      refine x_icmp_ge dX6_goneWith_54 (fun b54 => ?_) (fun b54 => ?_)
      · exact absurd b54 (nI_ge (b := 8) ht (by decide))
      · refine x_iload dX6_goneWith_57 rfl ?_
        refine x_if_eq dX6_goneWith_59 (fun b59 => ?_) (fun b59 => ?_)
        · obtain ⟨eT, eS⟩ := gw_end hIt (ez.mp b59) hN
          rw [← hw] at eT eS
          exact J147 T S _ _ _ _ _ _ eT eS
        · obtain ⟨f, hf8, hf, hlo, hcl⟩ := low hW256 (fun e => b59 (ez.mpr e))
          have hpw : (2 : Nat) ^ f ≤ 128 := Nat.pow_le_pow_right (n := 2) (j := 7) (by decide) (by omega)
          have ef1 : (nI f + 1).toNatClampNeg = f + 1 := by rw [nI_1, nI_clamp (by omega)]
          have hs256 : sldM N pos (L.testBit 2) tms b f < 256 := msk_lt _ 8
          have es0 : nI (sldM N pos (L.testBit 2) tms b f) = 0 ↔ sldM N pos (L.testBit 2) tms b f = 0 := nI_eq (b := 0) (by omega) (by decide)
          have hst0 : (L.testBit 1 = true → sldM N pos (L.testBit 2) tms b f = 0) → gwI H N pos (L.testBit 1) (L.testBit 2) own tms b hs T (ndiff W (2 ^ f)) (S ||| sldM N pos (L.testBit 2) tms b f) (turn + 1) := by
            intro q
            have := gw_step hH hN hIt hf 0 (by decide) (fun j => by
              rw [Nat.zero_testBit]
              cases hc : L.testBit 1 with
              | false => rfl
              | true => rw [q hc, ownM, msk_bit]; simp)
            rw [Nat.or_zero, Nat.or_zero] at this
            exact this
          refine x_iload dX6_goneWith_62 rfl ?_
          refine x_iload dX6_goneWith_64 rfl ?_
          refine x_ineg dX6_goneWith_66 ?_
          refine x_iand dX6_goneWith_67 ?_
          refine x_k dX6_goneWith_68 ?_
          refine x_isub dX6_goneWith_69 ?_
          rw [hlo]
          refine x_S1i lX6_86 (Rm.of rfl) (cc1 := 0) (cn1 := 0) rfl rfl (Nat.le_of_ble_eq_true rfl) dX6_goneWith_70 (r_bitCount (n := 2 ^ f - 1) (by omega)) ?_
          rw [pop_ones hf8]
          refine x_istore dX6_goneWith_73 (Nat.le_of_ble_eq_true rfl) rfl ?_
          refine x_iload dX6_goneWith_75 rfl ?_
          refine x_iload dX6_goneWith_77 rfl ?_
          refine x_k dX6_goneWith_79 ?_
          refine x_isub dX6_goneWith_80 ?_
          refine x_iand dX6_goneWith_81 ?_
          rw [hcl]
          refine x_istore dX6_goneWith_82 (Nat.le_of_ble_eq_true rfl) rfl ?_
          refine x_aload dX6_goneWith_84 rfl ?_
          refine x_iload dX6_goneWith_85 rfl ?_
          refine x_k dX6_goneWith_87 ?_
          refine x_iadd dX6_goneWith_88 ?_
          refine x_iald dX6_goneWith_89 (by first | assumption | rfl) (by rw [nI_1]; exact vp_in_nI (by omega) (by decide)) ?_
          rw [ef1, hins (f + 1) (by omega)]
          refine x_iload dX6_goneWith_90 rfl ?_
          refine x_iand dX6_goneWith_92 ?_
          rw [hmay f hf8]
          refine x_istore dX6_goneWith_93 (Nat.le_of_ble_eq_true rfl) rfl ?_
          refine x_iload dX6_goneWith_95 rfl ?_
          refine x_iload dX6_goneWith_97 rfl ?_
          refine x_ior dX6_goneWith_99 ?_
          rw [fa_or]
          refine x_istore dX6_goneWith_100 (Nat.le_of_ble_eq_true rfl) rfl ?_
          refine x_iload dX6_goneWith_102 rfl ?_
          refine x_if_eq dX6_goneWith_104 (fun b104 => ?_) (fun b104 => ?_)
          · refine x_inc1 dX6_goneWith_141 rfl (Nat.le_of_ble_eq_true rfl) rfl ?_
            refine x_goto dX6_goneWith_144 ?_
            first
              | exact ih _ _ _ _ _ _ (hst0 (fun _ => es0.mp b104))
              | exact ih _ _ _ _ _ _ (hst0 (fun q => absurd (l1.mp b111) (by rw [q]; decide)))
              | (refine ih _ _ _ _ _ _ (gw_step hH hN hIt hf _ (ndiff_lt (ownM_lt _ _ _)) (fun j => ?_))
                 have hc : L.testBit 1 = true := by
                   cases q : L.testBit 1 with
                   | true => rfl
                   | false => exact absurd (l1.mpr q) b111
                 rw [ndiff_bit, hc, Bool.true_and])
          · refine x_iload dX6_goneWith_107 rfl ?_
            refine x_k dX6_goneWith_109 ?_
            refine x_iand dX6_goneWith_110 ?_
            refine x_if_eq dX6_goneWith_111 (fun b111 => ?_) (fun b111 => ?_)
            · refine x_inc1 dX6_goneWith_141 rfl (Nat.le_of_ble_eq_true rfl) rfl ?_
              refine x_goto dX6_goneWith_144 ?_
              first
                | exact ih _ _ _ _ _ _ (hst0 (fun _ => es0.mp b104))
                | exact ih _ _ _ _ _ _ (hst0 (fun q => absurd (l1.mp b111) (by rw [q]; decide)))
                | (refine ih _ _ _ _ _ _ (gw_step hH hN hIt hf _ (ndiff_lt (ownM_lt _ _ _)) (fun j => ?_))
                   have hc : L.testBit 1 = true := by
                     cases q : L.testBit 1 with
                     | true => rfl
                     | false => exact absurd (l1.mpr q) b111
                   rw [ndiff_bit, hc, Bool.true_and])
            · refine x_aload dX6_goneWith_114 rfl ?_
              refine x_iload dX6_goneWith_115 rfl ?_
              refine x_V1i lX6_92 (Rm.of rfl) (cc1 := 0) (cn1 := 0) rfl rfl (Nat.le_of_ble_eq_true rfl) dX6_goneWith_117 (by first | assumption | rfl) (r_ownedBy_40 hA hC hg hs256 hH hown) ?_
              refine x_iload dX6_goneWith_120 rfl ?_
              refine x_k dX6_goneWith_122 ?_
              refine x_ixor dX6_goneWith_123 ?_
              refine x_iand dX6_goneWith_124 ?_
              rw [fa_diff]
              refine x_istore dX6_goneWith_125 (Nat.le_of_ble_eq_true rfl) rfl ?_
              refine x_iload dX6_goneWith_127 rfl ?_
              refine x_iload dX6_goneWith_129 rfl ?_
              refine x_ior dX6_goneWith_131 ?_
              rw [fa_or]
              refine x_istore dX6_goneWith_132 (Nat.le_of_ble_eq_true rfl) rfl ?_
              refine x_iload dX6_goneWith_134 rfl ?_
              refine x_iload dX6_goneWith_136 rfl ?_
              refine x_ior dX6_goneWith_138 ?_
              rw [fa_or]
              refine x_istore dX6_goneWith_139 (Nat.le_of_ble_eq_true rfl) rfl ?_
              refine x_inc1 dX6_goneWith_141 rfl (Nat.le_of_ble_eq_true rfl) rfl ?_
              refine x_goto dX6_goneWith_144 ?_
              first
                | exact ih _ _ _ _ _ _ (hst0 (fun _ => es0.mp b104))
                | exact ih _ _ _ _ _ _ (hst0 (fun q => absurd (l1.mp b111) (by rw [q]; decide)))
                | (refine ih _ _ _ _ _ _ (gw_step hH hN hIt hf _ (ndiff_lt (ownM_lt _ _ _)) (fun j => ?_))
                   have hc : L.testBit 1 = true := by
                     cases q : L.testBit 1 with
                     | true => rfl
                     | false => exact absurd (l1.mpr q) b111
                   rw [ndiff_bit, hc, Bool.true_and])
  refine x_k dX6_goneWith_0 ?_
  refine x_iload dX6_goneWith_1 rfl ?_
  refine x_ishl dX6_goneWith_2 ?_
  refine x_istore dX6_goneWith_3 (Nat.le_of_ble_eq_true rfl) rfl ?_
  rw [shl1 (by omega)]
  refine x_iload dX6_goneWith_5 rfl ?_
  refine x_k dX6_goneWith_7 ?_
  refine x_iand dX6_goneWith_8 ?_
  refine x_if_ne dX6_goneWith_9 (fun b9 => ?_) (fun b9 => ?_)
  · refine x_k dX6_goneWith_15 ?_
    refine x_iload dX6_goneWith_16 rfl ?_
    refine x_ishl dX6_goneWith_17 ?_
    refine x_k dX6_goneWith_18 ?_
    refine x_ixor dX6_goneWith_19 ?_
    refine x_istore dX6_goneWith_20 (Nat.le_of_ble_eq_true rfl) rfl ?_
    refine x_iload dX6_goneWith_22 rfl ?_
    refine x_k dX6_goneWith_24 ?_
    refine x_iand dX6_goneWith_25 ?_
    refine x_if_eq dX6_goneWith_26 (fun b26 => ?_) (fun b26 => ?_)
    · refine x_k dX6_goneWith_40 ?_
      refine x_istore dX6_goneWith_41 (Nat.le_of_ble_eq_true rfl) rfl ?_
      refine x_iload dX6_goneWith_43 rfl ?_
      refine x_istore dX6_goneWith_45 (Nat.le_of_ble_eq_true rfl) rfl ?_
      refine x_k dX6_goneWith_47 ?_
      refine x_istore dX6_goneWith_48 (Nat.le_of_ble_eq_true rfl) rfl ?_
      have hw : L.testBit 0 = true := by
        cases q : L.testBit 0 with
        | true => rfl
        | false => exact absurd (l0.mpr q) b9
      first
        | exact J50 _ hw (fun f hf => by rw [l2.mp b26]; exact may_0 hN hb)
        | (have ho : L.testBit 2 = true := by
             cases q : L.testBit 2 with
             | true => rfl
             | false => exact absurd (l2.mpr q) b26
           exact J50 _ hw (fun f hf => by rw [ho]; exact may_1 hN hb))
    · refine x_iload dX6_goneWith_29 rfl ?_
      refine x_aload dX6_goneWith_31 rfl ?_
      refine x_get fX6_24 dX6_goneWith_32 (by first | assumption | rfl) ?_
      refine x_k dX6_goneWith_35 ?_
      refine x_ixor dX6_goneWith_36 ?_
      refine x_iand dX6_goneWith_37 ?_
      refine x_istore dX6_goneWith_38 (Nat.le_of_ble_eq_true rfl) rfl ?_
      refine x_k dX6_goneWith_40 ?_
      refine x_istore dX6_goneWith_41 (Nat.le_of_ble_eq_true rfl) rfl ?_
      refine x_iload dX6_goneWith_43 rfl ?_
      refine x_istore dX6_goneWith_45 (Nat.le_of_ble_eq_true rfl) rfl ?_
      refine x_k dX6_goneWith_47 ?_
      refine x_istore dX6_goneWith_48 (Nat.le_of_ble_eq_true rfl) rfl ?_
      have hw : L.testBit 0 = true := by
        cases q : L.testBit 0 with
        | true => rfl
        | false => exact absurd (l0.mpr q) b9
      first
        | exact J50 _ hw (fun f hf => by rw [l2.mp b26]; exact may_0 hN hb)
        | (have ho : L.testBit 2 = true := by
             cases q : L.testBit 2 with
             | true => rfl
             | false => exact absurd (l2.mpr q) b26
           exact J50 _ hw (fun f hf => by rw [ho]; exact may_1 hN hb))
  · refine x_iload dX6_goneWith_12 rfl ?_
    refine x_iret (ty := .int) dX6_goneWith_14 rfl rfl (Nat.zero_le _) (Nat.zero_le _) ?_
    have hw := l0.mp (Classical.not_not.mp b9)
    have eT : 2 ^ hs = salT H N pos (L.testBit 0) (L.testBit 1) (L.testBit 2) own tms b hs := by
      refine clo_eq (Nat.pow_lt_pow_right (n := 8) (by decide) hhs) (by rw [pow_bit]; simp) (fun a j _ q => ?_) (fun j hj Q q1 _ => ?_)
      · rw [edg, hw] at q; simp at q
      · rw [pow_bit, decide_eq_true_eq] at hj; subst hj; exact q1
    have eS : msk (salS H N pos (L.testBit 0) (L.testBit 1) (L.testBit 2) own tms b hs) 8 = 0 := by
      apply Nat.eq_of_testBit_eq
      intro p
      rw [msk_bit, salS, hw, Nat.zero_testBit]; simp
    exact ⟨by rw [← eT, eS, Nat.zero_mul, Nat.or_zero], rfl, rfl⟩
end Gone
