/-! bits -/
theorem fa_and (a b : Nat) : nI a &&& nI b = nI (a &&& b) := by
  apply Int32.toBitVec_inj.1
  show BitVec.ofNat 32 a &&& BitVec.ofNat 32 b = BitVec.ofNat 32 (a &&& b)
  apply BitVec.eq_of_getLsbD_eq
  intro i hi
  simp [hi]
theorem fa_or (a b : Nat) : nI a ||| nI b = nI (a ||| b) := by
  apply Int32.toBitVec_inj.1
  show BitVec.ofNat 32 a ||| BitVec.ofNat 32 b = BitVec.ofNat 32 (a ||| b)
  apply BitVec.eq_of_getLsbD_eq
  intro i hi
  simp [hi]
def ndiff (a b : Nat) : Nat := a ^^^ (a &&& b)
theorem ndiff_bit (a b i : Nat) : (ndiff a b).testBit i = (a.testBit i && !b.testBit i) := by
  rw [ndiff, Nat.testBit_xor, Nat.testBit_and]
  cases a.testBit i <;> cases b.testBit i <;> rfl
theorem fa_diff (a b : Nat) : nI a &&& (nI b ^^^ (-1)) = nI (ndiff a b) := by
  apply Int32.toBitVec_inj.1
  show BitVec.ofNat 32 a &&& (BitVec.ofNat 32 b ^^^ BitVec.allOnes 32) = BitVec.ofNat 32 (ndiff a b)
  apply BitVec.eq_of_getLsbD_eq
  intro i hi
  simp only [BitVec.getLsbD_and, BitVec.getLsbD_xor, BitVec.getLsbD_allOnes, BitVec.getLsbD_ofNat, ndiff_bit, hi, decide_true, Bool.true_and]
  cases a.testBit i <;> cases b.testBit i <;> rfl
def msk (p : Nat → Bool) : Nat → Nat
  | 0 => 0
  | n + 1 => msk p n ||| (if p n then 2 ^ n else 0)
theorem msk_bit (p : Nat → Bool) : ∀ (n i : Nat), (msk p n).testBit i = (decide (i < n) && p i)
  | 0, i => by simp [msk]
  | n + 1, i => by
    rw [msk, Nat.testBit_or, msk_bit p n i]
    by_cases h : i = n
    · subst h
      cases hp : p i <;> simp [hp, Nat.testBit_two_pow]
    · have h2 : (if p n then 2 ^ n else 0 : Nat).testBit i = false := by
        split
        · rw [Nat.testBit_two_pow]; simp; omega
        · simp
      rw [h2, Bool.or_false]
      congr 1
      exact decide_eq_decide.mpr (by omega)
theorem msk_lt (p : Nat → Bool) (n : Nat) : msk p n < 2 ^ n := by
  apply Nat.lt_pow_two_of_testBit
  intro i hi
  rw [msk_bit]
  simp; intro h; omega
theorem msk_congr {p q : Nat → Bool} {n : Nat} (h : ∀ i, i < n → p i = q i) : msk p n = msk q n := by
  apply Nat.eq_of_testBit_eq
  intro i
  rw [msk_bit, msk_bit]
  by_cases hi : i < n
  · simp [hi, h i hi]
  · simp [hi]
theorem shl1 {k : Nat} (hk : k < 31) : (1 : Int32) <<< (nI k &&& 31) = nI (2 ^ k) := by
  have : ∀ k : Nat, k < 31 → (1 : Int32) <<< (nI k &&& 31) = nI (2 ^ k) := by decide +kernel
  exact this k hk
theorem nand31 {k : Nat} (hk : k < 32) : nI k &&& 31 = nI k := by
  have : ∀ k : Nat, k < 32 → nI k &&& 31 = nI k := by decide +kernel
  exact this k hk
theorem smod32 {k : Nat} (hk : k < 32) : ((nI k &&& 31).toBitVec.smod 32).toNat = k := by
  have : ∀ k : Nat, k < 32 → ((nI k &&& 31).toBitVec.smod 32).toNat = k := by decide +kernel
  exact this k hk
theorem shrN {m k : Nat} (hm : m < 2 ^ 31) (hk : k < 32) : nI m >>> (nI k &&& 31) = nI (m / 2 ^ k) := pk_shrN hm _ k (smod32 hk)
theorem bitN {m k : Nat} (hm : m < 2 ^ 31) (hk : k < 32) : (nI m >>> (nI k &&& 31)) &&& 1 = nI (if m.testBit k then 1 else 0) := by
  rw [shrN hm hk, show (1 : Int32) = nI 1 from rfl, fa_and]
  congr 1
  rw [Nat.testBit_eq_decide_div_mod_eq, show (1 : Nat) = 2 ^ 1 - 1 from rfl, Nat.and_two_pow_sub_one_eq_mod]
  have : m / 2 ^ k % 2 = 0 ∨ m / 2 ^ k % 2 = 1 := by omega
  rcases this with h | h <;> simp [h]
theorem bitN1 {m k : Nat} (hm : m < 2 ^ 31) (hk : k < 32) : (nI m >>> (nI k &&& 31)) &&& 1 = 1 ↔ m.testBit k = true := by
  rw [bitN hm hk]
  cases m.testBit k <;> simp <;> decide
theorem bitN0 {m k : Nat} (hm : m < 2 ^ 31) (hk : k < 32) : (nI m >>> (nI k &&& 31)) &&& 1 = 0 ↔ m.testBit k = false := by
  rw [bitN hm hk]
  cases m.testBit k <;> simp <;> decide
theorem orbit {m k : Nat} (hk : k < 31) : nI m ||| (1 : Int32) <<< (nI k &&& 31) = nI (m ||| 2 ^ k) := by
  rw [shl1 hk, fa_or]
def filG (f g : Nat → Int32) (k : Nat) : Nat → Int32 := fun j => if j < k then g j else f j
theorem filG_0 (f g : Nat → Int32) : filG f g 0 = f := by funext j; simp [filG]
theorem filG_s (f g : Nat → Int32) (k : Nat) : upd (filG f g k) k (g k) = filG f g (k + 1) := by
  funext j
  by_cases h : j = k
  · subst h; simp [filG, upd]
  · by_cases h2 : j < k
    · simp [filG, upd, h, h2, Nat.lt_succ_of_lt h2]
    · have : ¬ j < k + 1 := by omega
      simp [filG, upd, h, h2, this]
theorem filG_lt {f g : Nat → Int32} {k j : Nat} (h : j < k) : filG f g k j = g j := if_pos h
/-- the masks of those i below k whose g is j, for j below m -/
def mskA (g : Nat → Int32) (z : Nat → Int32) (m k : Nat) : Nat → Int32 := fun j => if j < m then nI (msk (fun i => decide (g i = nI j)) k) else z j
theorem mskA_0 (g z : Nat → Int32) (m : Nat) : filF z 0 m = mskA g z m 0 := by
  funext j
  by_cases h : j < m <;> simp [filF, mskA, h, msk, nI_0]
theorem mskA_s {g z : Nat → Int32} {m k q : Nat} (hq : q < m) (hm : m < 2 ^ 31) (hg : g k = nI q) (hk : k < 31) : upd (mskA g z m k) q (mskA g z m k q ||| (1 : Int32) <<< (nI k &&& 31)) = mskA g z m (k + 1) := by
  funext j
  by_cases h : j = q
  · subst h
    simp only [upd, if_pos rfl, mskA, if_pos hq, if_true]
    rw [orbit hk, msk, hg, if_pos (by simp)]
  · rw [upd, if_neg h]
    by_cases hj : j < m
    · simp only [mskA, if_pos hj]
      rw [msk, hg, if_neg, Nat.or_zero]
      simp only [decide_eq_true_eq]
      intro e
      exact h ((nI_eq (by omega) (by omega)).mp e).symm
    · simp only [mskA, if_neg hj]
theorem dig48 {x M : Int32} {n : Nat} (hM : M.toInt = n) (hn : n < 1000) (h1 : 48 ≤ x) (h2 : x ≤ M) : ∃ q : Nat, q + 48 ≤ n ∧ x - 48 = nI q := by
  have h0 : ¬ x < 0 := fun h => by
    have a1 := Int32.lt_iff_toInt_lt.mp h
    have a2 := Int32.le_iff_toInt_le.mp h1
    have e48 : (48 : Int32).toInt = 48 := rfl
    have e0 : (0 : Int32).toInt = 0 := rfl
    rw [e48] at a2; rw [e0] at a1; omega
  obtain ⟨j, hj, e⟩ := nI_of2 hM h0 h2
  subst e
  have h3 : 48 ≤ j := (nI_leI (a := 48) (by decide) (by omega)).mp h1
  exact ⟨j - 48, by omega, by rw [show (48 : Int32) = nI 48 from rfl, pk_sub h3]⟩
theorem badH_dig {b : Nat → Int32} {i : Nat} (h : badH b i = false) (h3 : i % 3 = 0) : ∃ q : Nat, q < 8 ∧ b i - 48 = nI q := by
  simp only [badH, fitH, Bool.or_eq_false_iff, Bool.not_eq_false', h3] at h
  have h2 := h.2
  simp at h2
  obtain ⟨q, hq, e⟩ := dig48 (M := 55) (n := 55) rfl (by decide) h2.1 h2.2
  exact ⟨q, by omega, e⟩
theorem badH_fig {b : Nat → Int32} {i : Nat} (h : badH b i = false) (h3 : i % 3 = 1) : ∃ q : Nat, q ≤ 9 ∧ b i - 48 = nI q := by
  simp only [badH, fitH, Bool.or_eq_false_iff, Bool.not_eq_false', h3] at h
  have h2 := h.2
  simp at h2
  obtain ⟨q, hq, e⟩ := dig48 (M := 57) (n := 57) rfl (by decide) h2.1 h2.2
  exact ⟨q, by omega, e⟩
theorem hN_ok {n : Nat} {b : Nat → Int32} (hn : n ≤ 30) : hN n b ≤ 8 ∧ 3 * hN n b ≤ n + 1 ∧ ∀ i, i < hN n b → badH b (3 * i) = false ∧ badH b (3 * i + 1) = false := by
  unfold hN
  split
  · rename_i h
    obtain ⟨h1, h2⟩ := fauH_ok hn h
    have h24 : n ≤ 24 := by
      rcases Nat.lt_or_ge 24 n with q | q
      · have := h1 24 q
        simp [badH] at this
      · exact q
    refine ⟨by omega, by omega, fun i hi => ⟨h1 _ (by omega), h1 _ (by omega)⟩⟩
  · exact ⟨by omega, by omega, fun i hi => by omega⟩
theorem pN_ok {n : Nat} {b : Nat → Int32} (hn : n ≤ 24) : pN n b ≤ 8 ∧ 2 * pN n b ≤ n ∧ ∀ i, i < pN n b → badP b (2 * i) = false ∧ badP b (2 * i + 1) = false := by
  unfold pN
  split
  · rename_i h
    obtain ⟨h1, h2⟩ := fauP_ok (by omega) h
    have h24 : n ≤ 16 := by
      rcases Nat.lt_or_ge 16 n with q | q
      · have := h1 16 q
        simp [badP] at this
      · exact q
    refine ⟨by omega, by omega, fun i hi => ⟨h1 _ (by omega), h1 _ (by omega)⟩⟩
  · exact ⟨by omega, by omega, fun i hi => by omega⟩
theorem spF_ok (H : Nat) (hH : H ≤ 8) (x : Int32) : ∃ q : Nat, q ≤ H ∧ spF H x = nI q := by
  unfold spF
  split
  · rename_i h
    obtain ⟨j, hj, e⟩ := nI_of (x := x - 48) (Int32.not_lt.mpr h.1)
    have h2 := h.2
    rw [e] at h2
    have : j < H := (nI_ltI hj (by omega)).mp h2
    exact ⟨j + 1, by omega, by rw [e, nI_1]⟩
  · exact ⟨0, by omega, rfl⟩
theorem kI_ok {b : Nat → Int32} {i : Nat} (h : badP b i = false) (h3 : i % 2 = 0) : ∃ q : Nat, q ≤ 2 ∧ kI (b i) = nI q := by
  simp only [badP, fitP, Bool.or_eq_false_iff, Bool.not_eq_false', h3] at h
  have h2 := h.2
  simp at h2
  rcases h2 with e | e | e <;> rw [e]
  · exact ⟨0, by omega, rfl⟩
  · exact ⟨1, by omega, rfl⟩
  · exact ⟨2, by omega, rfl⟩
