/-! a sale, as mathematics -/
/-- the least set that holds h0 and is closed under e, as bits -/
noncomputable def clo (e : Nat → Nat → Bool) (h0 : Nat) : Nat := msk (fun j => @decide (∀ S : Nat → Prop, S h0 → (∀ a b, S a → e a b = true → S b) → S j) (Classical.propDecidable _)) 8
theorem clo_lt (e : Nat → Nat → Bool) (h0 : Nat) : clo e h0 < 256 := msk_lt _ 8
theorem bit_lt {T i : Nat} (hT : T < 256) (h : T.testBit i = true) : i < 8 := by
  rcases Nat.lt_or_ge i 8 with q | q
  · exact q
  · have : T < 2 ^ i := Nat.lt_of_lt_of_le hT (by exact Nat.pow_le_pow_right (n := 2) (by decide) q)
    rw [Nat.testBit_lt_two_pow this] at h
    cases h
theorem clo_eq {e : Nat → Nat → Bool} {h0 T : Nat} (hT : T < 256) (hb : T.testBit h0 = true) (hc : ∀ a b, T.testBit a = true → e a b = true → T.testBit b = true) (hm : ∀ j, T.testBit j = true → ∀ S : Nat → Prop, S h0 → (∀ a b, S a → e a b = true → S b) → S j) : T = clo e h0 := by
  apply Nat.eq_of_testBit_eq
  intro j
  rw [clo, msk_bit]
  by_cases hj : j < 8
  · have hd : decide (j < 8) = true := decide_eq_true hj
    rw [hd, Bool.true_and]
    cases ht : T.testBit j with
    | true => exact (@decide_eq_true _ (Classical.propDecidable _) (hm j ht)).symm
    | false =>
      refine (@decide_eq_false _ (Classical.propDecidable _) (fun q => ?_)).symm
      have := q (fun j => T.testBit j = true) hb hc
      rw [ht] at this
      cases this
  · have hd : decide (j < 8) = false := decide_eq_false hj
    rw [hd, Bool.false_and]
    cases ht : T.testBit j with
    | true => exact absurd (bit_lt hT ht) hj
    | false => rfl
theorem clo_in (e : Nat → Nat → Bool) {h0 : Nat} (h : h0 < 8) : (clo e h0).testBit h0 = true := by
  rw [clo, msk_bit, decide_eq_true h, Bool.true_and]
  exact @decide_eq_true _ (Classical.propDecidable _) (fun S h1 _ => h1)
theorem clo_sub {e : Nat → Nat → Bool} {h0 j : Nat} (S : Nat → Prop) (h1 : S h0) (h2 : ∀ a b, S a → e a b = true → S b) (h : (clo e h0).testBit j = true) : S j := by
  rw [clo, msk_bit, Bool.and_eq_true] at h
  exact @of_decide_eq_true _ (Classical.propDecidable _) h.2 S h1 h2
def pop (n : Nat) : Nat := (n.testBit 0).toNat + (n.testBit 1).toNat + (n.testBit 2).toNat + (n.testBit 3).toNat + (n.testBit 4).toNat + (n.testBit 5).toNat + (n.testBit 6).toNat + (n.testBit 7).toNat
theorem pop_le (n : Nat) : pop n ≤ 8 := by
  unfold pop
  have h := fun i => Bool.toNat_le (n.testBit i)
  have := h 0; have := h 1; have := h 2; have := h 3; have := h 4; have := h 5; have := h 6; have := h 7
  omega
theorem pop_8 {n : Nat} (hn : n < 256) (h : pop n = 8) : n = 255 := by
  have : ∀ n : Nat, n < 256 → pop n = 8 → n = 255 := by decide +kernel
  exact this n hn h
theorem pop_add {n f : Nat} (hn : n < 256) (hf : f < 8) (h : n.testBit f = false) : pop (n ||| 2 ^ f) = pop n + 1 := by
  have : ∀ f : Nat, f < 8 → ∀ n : Nat, n < 256 → n.testBit f = false → pop (n ||| 2 ^ f) = pop n + 1 := by decide +kernel
  exact this f hf n hn h
theorem pop_ones {f : Nat} (hf : f < 8) : pop (2 ^ f - 1) = f := by
  have : ∀ f : Nat, f < 8 → pop (2 ^ f - 1) = f := by decide +kernel
  exact this f hf
/-- the lowest of the bits of W -/
theorem low {W : Nat} (hW : W < 256) (h0 : W ≠ 0) : ∃ f, f < 8 ∧ W.testBit f = true ∧ (nI W &&& (-nI W)) - 1 = nI (2 ^ f - 1) ∧ nI W &&& (nI W - 1) = nI (ndiff W (2 ^ f)) := by
  have : ∀ W : Nat, W < 256 → W ≠ 0 → ∃ f, f < 8 ∧ W.testBit f = true ∧ (nI W &&& (-nI W)) - 1 = nI (2 ^ f - 1) ∧ nI W &&& (nI W - 1) = nI (ndiff W (2 ^ f)) := by decide +kernel
  exact this W hW h0
section Sale
variable (H N : Nat) (pos : Nat → Nat) (w c o : Bool) (own tms : Nat → Nat) (b : Nat)
/-- one who may be sold to b -/
def mayB (p : Nat) : Bool := decide (p ≠ b) && (!o || decide (tms p = 0))
/-- with house a goes house j -/
def edg (a j : Nat) : Bool := w && c && decide (j < H) && decide (own j < N) && decide (pos (own j) = a + 1) && mayB o tms b (own j)
noncomputable def salT (hs : Nat) : Nat := clo (edg H N pos w c o own tms b) hs
noncomputable def salS (hs p : Nat) : Bool := w && decide (p < N) && mayB o tms b p && decide (pos p ≠ 0) && (salT H N pos w c o own tms b hs).testBit (pos p - 1)
end Sale
/-- own, keeper, how often sold, length -/
abbrev SS : Type := (Nat → Nat) × (Nat → Nat) × (Nat → Nat) × Nat
noncomputable def sal (H N : Nat) (pos : Nat → Nat) (w c o : Bool) (s : SS) (hs b : Nat) : SS := if hs < H ∧ b < N then
  (fun j => if (salT H N pos w c o s.1 s.2.2.1 b hs).testBit j then b else s.1 j, fun p => if salS H N pos w c o s.1 s.2.2.1 b hs p then b else s.2.1 p, fun p => s.2.2.1 p + (salS H N pos w c o s.1 s.2.2.1 b hs p).toNat, pop (salT H N pos w c o s.1 s.2.2.1 b hs)) else (s.1, s.2.1, s.2.2.1, 0)
noncomputable def runF (H N : Nat) (pos : Nat → Nat) (w c o : Bool) (own : Nat → Nat) (sh sb : Nat → Nat) : Nat → SS
  | 0 => (own, fun p => p, fun _ => 0, 0)
  | k + 1 => sal H N pos w c o (runF H N pos w c o own sh sb k) (sh k) (sb k)
theorem salT_H {H N : Nat} {pos : Nat → Nat} {w c o : Bool} {own tms : Nat → Nat} {b hs j : Nat} (h : hs < H) (hj : (salT H N pos w c o own tms b hs).testBit j = true) : j < H := by
  refine clo_sub (fun j => j < H) h (fun a b _ q => ?_) hj
  simp only [edg, Bool.and_eq_true, decide_eq_true_eq] at q
  exact q.1.1.1.2
theorem sal_bound {H N : Nat} {pos : Nat → Nat} {w c o : Bool} {s : SS} {hs b : Nat} (hb : b < 8) (h1 : ∀ j, j < H → s.1 j < 8) (h2 : ∀ p, p < 8 → s.2.1 p < 8) : (∀ j, j < H → (sal H N pos w c o s hs b).1 j < 8) ∧ (∀ p, p < 8 → (sal H N pos w c o s hs b).2.1 p < 8) := by
  unfold sal
  split
  · refine ⟨fun j hj => ?_, fun p hp => ?_⟩
    · dsimp only; split
      · exact hb
      · exact h1 j hj
    · dsimp only; split
      · exact hb
      · exact h2 p hp
  · exact ⟨h1, h2⟩
theorem sal_tms {H N : Nat} {pos : Nat → Nat} {w c o : Bool} {s : SS} {hs b p : Nat} : (sal H N pos w c o s hs b).2.2.1 p ≤ s.2.2.1 p + 1 := by
  unfold sal
  split
  · dsimp only
    have := Bool.toNat_le (salS H N pos w c o s.1 s.2.2.1 b hs p)
    omega
  · dsimp only; omega
section Bits2
variable {Γ : GX} {h : Hp} {sz : Nat}
def bcE (x : Int32) : Int32 :=
  let a := x - ((x.toUInt32 >>> ((1 : Int32).toUInt32 &&& Int32.toUInt32 31)).toInt32 &&& 1431655765)
  let b := (a &&& 858993459) + ((a.toUInt32 >>> ((2 : Int32).toUInt32 &&& Int32.toUInt32 31)).toInt32 &&& 858993459)
  let c := (b + (b.toUInt32 >>> ((4 : Int32).toUInt32 &&& Int32.toUInt32 31)).toInt32) &&& 252645135
  let d := c + (c.toUInt32 >>> ((8 : Int32).toUInt32 &&& Int32.toUInt32 31)).toInt32
  let e := d + (d.toUInt32 >>> ((16 : Int32).toUInt32 &&& Int32.toUInt32 31)).toInt32
  e &&& 63
theorem bcE_pop {n : Nat} (hn : n < 256) : bcE (nI n) = nI (pop n) := by
  have : ∀ n : Nat, n < 256 → bcE (nI n) = nI (pop n) := by decide +kernel
  exact this n hn
theorem r_bitCount {n : Nat} (hn : n < 256) : Re Γ mJ6_bitCount_0f7a4 [.int (nI n)] h sz (some (.int (nI (pop n)))) h sz := by
  refine x_enterJ 0 (by decide +kernel) rfl ?_
  refine x_iload dJ6_bitCount_0f7a4_0 rfl ?_
  refine x_iload dJ6_bitCount_0f7a4_1 rfl ?_
  refine x_k dJ6_bitCount_0f7a4_2 ?_
  refine x_iushr dJ6_bitCount_0f7a4_3 ?_
  refine x_ldcw kJ6_265 dJ6_bitCount_0f7a4_4 ?_
  refine x_iand dJ6_bitCount_0f7a4_7 ?_
  refine x_isub dJ6_bitCount_0f7a4_8 ?_
  refine x_istore dJ6_bitCount_0f7a4_9 (Nat.le_of_ble_eq_true rfl) rfl ?_
  refine x_iload dJ6_bitCount_0f7a4_10 rfl ?_
  refine x_ldcw kJ6_266 dJ6_bitCount_0f7a4_11 ?_
  refine x_iand dJ6_bitCount_0f7a4_14 ?_
  refine x_iload dJ6_bitCount_0f7a4_15 rfl ?_
  refine x_k dJ6_bitCount_0f7a4_16 ?_
  refine x_iushr dJ6_bitCount_0f7a4_17 ?_
  refine x_ldcw kJ6_266 dJ6_bitCount_0f7a4_18 ?_
  refine x_iand dJ6_bitCount_0f7a4_21 ?_
  refine x_iadd dJ6_bitCount_0f7a4_22 ?_
  refine x_istore dJ6_bitCount_0f7a4_23 (Nat.le_of_ble_eq_true rfl) rfl ?_
  refine x_iload dJ6_bitCount_0f7a4_24 rfl ?_
  refine x_iload dJ6_bitCount_0f7a4_25 rfl ?_
  refine x_k dJ6_bitCount_0f7a4_26 ?_
  refine x_iushr dJ6_bitCount_0f7a4_27 ?_
  refine x_iadd dJ6_bitCount_0f7a4_28 ?_
  refine x_ldcw kJ6_267 dJ6_bitCount_0f7a4_29 ?_
  refine x_iand dJ6_bitCount_0f7a4_32 ?_
  refine x_istore dJ6_bitCount_0f7a4_33 (Nat.le_of_ble_eq_true rfl) rfl ?_
  refine x_iload dJ6_bitCount_0f7a4_34 rfl ?_
  refine x_iload dJ6_bitCount_0f7a4_35 rfl ?_
  refine x_k dJ6_bitCount_0f7a4_36 ?_
  refine x_iushr dJ6_bitCount_0f7a4_38 ?_
  refine x_iadd dJ6_bitCount_0f7a4_39 ?_
  refine x_istore dJ6_bitCount_0f7a4_40 (Nat.le_of_ble_eq_true rfl) rfl ?_
  refine x_iload dJ6_bitCount_0f7a4_41 rfl ?_
  refine x_iload dJ6_bitCount_0f7a4_42 rfl ?_
  refine x_k dJ6_bitCount_0f7a4_43 ?_
  refine x_iushr dJ6_bitCount_0f7a4_45 ?_
  refine x_iadd dJ6_bitCount_0f7a4_46 ?_
  refine x_istore dJ6_bitCount_0f7a4_47 (Nat.le_of_ble_eq_true rfl) rfl ?_
  refine x_iload dJ6_bitCount_0f7a4_48 rfl ?_
  refine x_k dJ6_bitCount_0f7a4_49 ?_
  refine x_iand dJ6_bitCount_0f7a4_51 ?_
  refine x_iret (ty := .int) dJ6_bitCount_0f7a4_52 rfl rfl (Nat.zero_le _) (Nat.zero_le _) ?_
  exact ⟨by rw [← bcE_pop hn]; rfl, rfl, rfl⟩
end Bits2
