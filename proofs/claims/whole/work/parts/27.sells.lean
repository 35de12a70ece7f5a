/-! the reference's way through a sale: a list that grows -/
def seI (H N : Nat) (pos : Nat → Nat) (w c o : Bool) (own tms : Nat → Nat) (b hs T n : Nat) (l : Nat → Nat) : Prop :=
  T < 256 ∧ pop T = n ∧ (∀ i, i < n → T.testBit (l i) = true) ∧ (∀ j, T.testBit j = true → ∃ i, i < n ∧ l i = j) ∧ (∀ i i', i < n → i' < n → l i = l i' → i = i') ∧ (∀ j, T.testBit j = true → j < H) ∧ T.testBit hs = true ∧
  (∀ j, T.testBit j = true → ∀ Q : Nat → Prop, Q hs → (∀ a b', Q a → edg H N pos w c o own tms b a b' = true → Q b') → Q j)
theorem seI_0 {H N : Nat} {pos : Nat → Nat} {w c o : Bool} {own tms : Nat → Nat} {b hs : Nat} (h : hs < H) (hH : H ≤ 8) : seI H N pos w c o own tms b hs (2 ^ hs) 1 (fun _ => hs) := by
  have h8 : hs < 8 := by omega
  refine ⟨Nat.pow_lt_pow_right (n := 8) (by decide) h8, ?_, fun i _ => by rw [pow_bit]; simp, fun j hj => ⟨0, by decide, ?_⟩, fun i i' h1 h2 _ => by omega, fun j hj => ?_, by rw [pow_bit]; simp, fun j hj Q q1 _ => ?_⟩
  · have : ∀ f : Nat, f < 8 → pop (2 ^ f) = 1 := by decide +kernel
    exact this hs h8
  · rw [pow_bit, decide_eq_true_eq] at hj; exact hj
  · rw [pow_bit, decide_eq_true_eq] at hj; omega
  · rw [pow_bit, decide_eq_true_eq] at hj; subst hj; exact q1
theorem seI_add {H N : Nat} {pos : Nat → Nat} {w c o : Bool} {own tms : Nat → Nat} {b hs T n j a : Nat} {l : Nat → Nat} (I : seI H N pos w c o own tms b hs T n l) (hH : H ≤ 8) (hj : j < H) (hT : T.testBit j = false) (ha : T.testBit a = true) (he : edg H N pos w c o own tms b a j = true) : seI H N pos w c o own tms b hs (T ||| 2 ^ j) (n + 1) (fun i => if i = n then j else l i) := by
  obtain ⟨i1, i2, i3, i4, i5, i6, i7, i8⟩ := I
  have hj8 : j < 8 := by omega
  have hlt : (2 : Nat) ^ j < 256 := Nat.pow_lt_pow_right (n := 8) (by decide) hj8
  refine ⟨or_lt i1 hlt, by rw [pop_add i1 hj8 hT, i2], fun i hi => ?_, fun z hz => ?_, fun i i' h1 h2 e => ?_, fun z hz => ?_, by rw [Nat.testBit_or, i7, Bool.true_or], fun z hz Q q1 q2 => ?_⟩
  · rw [Nat.testBit_or, pow_bit]
    dsimp only
    split
    · simp
    · rw [i3 i (by omega)]; rfl
  · rw [Nat.testBit_or, pow_bit, Bool.or_eq_true, decide_eq_true_eq] at hz
    rcases hz with q | q
    · obtain ⟨i, hi, e⟩ := i4 z q
      exact ⟨i, by omega, by dsimp only; rw [if_neg (by omega)]; exact e⟩
    · exact ⟨n, by omega, by dsimp only; rw [if_pos rfl]; exact q⟩
  · dsimp only at e
    by_cases z1 : i = n
    · by_cases z2 : i' = n
      · omega
      · rw [if_pos z1, if_neg z2] at e
        have := i3 i' (by omega)
        rw [← e, hT] at this; cases this
    · by_cases z2 : i' = n
      · rw [if_neg z1, if_pos z2] at e
        have := i3 i (by omega)
        rw [e, hT] at this; cases this
      · rw [if_neg z1, if_neg z2] at e
        exact i5 i i' (by omega) (by omega) e
  · rw [Nat.testBit_or, pow_bit, Bool.or_eq_true, decide_eq_true_eq] at hz
    rcases hz with q | q
    · exact i6 z q
    · omega
  · rw [Nat.testBit_or, pow_bit, Bool.or_eq_true, decide_eq_true_eq] at hz
    rcases hz with q | q
    · exact i8 z q Q q1 q2
    · subst q; exact q2 a j (i8 a ha Q q1 q2) he
/-- the rows of the reference say s -/
def mkF (H : Nat) (s : SS) (ow kp tm : Nat → Int32) : Prop := (∀ j, j < H → ow j = nI (s.1 j) ∧ s.1 j < 8) ∧ (∀ p, p < 8 → kp p = nI (s.2.1 p) ∧ s.2.1 p < 8) ∧ ∀ p, p < 8 → tm p = nI (s.2.2.1 p)
abbrev seH (h : Hp) (ow kp tm ls : Nat → Int32) : Hp := va_up (va_up (va_up (va_up h 68 (ia 9 ow)) 69 (ia 9 kp)) 70 (ia 9 tm)) 71 (ia 9 ls)
theorem seH_68 (h : Hp) (ow kp tm ls f : Nat → Int32) : va_up (seH h ow kp tm ls) 68 (ia 9 f) = seH h f kp tm ls := (by funext j; simp only [va_up]; (repeat' split) <;> first | rfl | omega | simp_all)
theorem seH_69 (h : Hp) (ow kp tm ls f : Nat → Int32) : va_up (seH h ow kp tm ls) 69 (ia 9 f) = seH h ow f tm ls := (by funext j; simp only [va_up]; (repeat' split) <;> first | rfl | omega | simp_all)
theorem seH_70 (h : Hp) (ow kp tm ls f : Nat → Int32) : va_up (seH h ow kp tm ls) 70 (ia 9 f) = seH h ow kp f ls := (by funext j; simp only [va_up]; (repeat' split) <;> first | rfl | omega | simp_all)
theorem seH_71 (h : Hp) (ow kp tm ls f : Nat → Int32) : va_up (seH h ow kp tm ls) 71 (ia 9 f) = seH h ow kp tm f := (by funext j; simp only [va_up]; (repeat' split) <;> first | rfl | omega | simp_all)
def qSe (h : Hp) (sz H : Nat) (s : SS) : QT := fun r h' sz' => r = some (.int (nI s.2.2.2)) ∧ sz = sz' ∧ ∃ ow kp tm ls : Nat → Int32, mkF H s ow kp tm ∧ h' = seH h ow kp tm ls
/-- who is sold so far: those in the houses of D, and in house a those below p -/
def spP (N : Nat) (pos : Nat → Nat) (w o : Bool) (tms : Nat → Nat) (b D a p q : Nat) : Bool := w && decide (q < N) && mayB o tms b q && decide (pos q ≠ 0) && (D.testBit (pos q - 1) || (decide (pos q - 1 = a) && decide (q < p)))
theorem whEq {x a : Nat} (hx : x ≤ 8) (ha : a < 8) : nI x - 1 = nI a ↔ x = a + 1 := by
  have : ∀ x : Nat, x ≤ 8 → ∀ a : Nat, a < 8 → (nI x - 1 = nI a ↔ x = a + 1) := by decide +kernel
  exact this x hx a ha
theorem spP_no {N : Nat} {pos : Nat → Nat} {w o : Bool} {tms : Nat → Nat} {b D a p : Nat} (h : ¬ (w = true ∧ pos p = a + 1 ∧ mayB o tms b p = true)) (hD : D.testBit a = false) : spP N pos w o tms b D a (p + 1) = spP N pos w o tms b D a p := by
  funext q
  unfold spP
  by_cases e : q = p
  · subst e
    by_cases z : pos q = a + 1
    · have h2 : ¬ (w = true ∧ mayB o tms b q = true) := fun y => h ⟨y.1, z, y.2⟩
      cases hw : w with
      | false => simp
      | true =>
        have h3 : mayB o tms b q = false := by
          cases hm : mayB o tms b q with
          | false => rfl
          | true => exact absurd ⟨hw, hm⟩ h2
        simp [h3]
    · by_cases z0 : pos q = 0
      · simp [z0]
      · have : ¬ pos q - 1 = a := by omega
        simp [this]
  · have : q < p + 1 ↔ q < p := by omega
    simp [this]
theorem spP_yes {N : Nat} {pos : Nat → Nat} {w o : Bool} {tms : Nat → Nat} {b D a p : Nat} (h1 : w = true) (h2 : pos p = a + 1) (h3 : mayB o tms b p = true) (hp : p < N) : spP N pos w o tms b D a (p + 1) p = true := by
  simp [spP, h1, h2, h3, hp]
theorem spP_at {N : Nat} {pos : Nat → Nat} {w o : Bool} {tms : Nat → Nat} {b D a p : Nat} (h2 : pos p = a + 1) (hD : D.testBit a = false) : spP N pos w o tms b D a p p = false := by
  simp [spP, h2, hD]
theorem spP_ne {N : Nat} {pos : Nat → Nat} {w o : Bool} {tms : Nat → Nat} {b D a p q : Nat} (e : q ≠ p) : spP N pos w o tms b D a (p + 1) q = spP N pos w o tms b D a p q := by
  unfold spP
  have : q < p + 1 ↔ q < p := by omega
  simp [this]
theorem spP_0 {N : Nat} {pos : Nat → Nat} {w o : Bool} {tms : Nat → Nat} {b D a q : Nat} : spP N pos w o tms b D a 0 q = (w && decide (q < N) && mayB o tms b q && decide (pos q ≠ 0) && D.testBit (pos q - 1)) := by
  simp [spP]
theorem spP_N {N : Nat} {pos : Nat → Nat} {w o : Bool} {tms : Nat → Nat} {b D a q : Nat} : spP N pos w o tms b D a N q = (w && decide (q < N) && mayB o tms b q && decide (pos q ≠ 0) && (D ||| 2 ^ a).testBit (pos q - 1)) := by
  rw [spP, Nat.testBit_or, pow_bit]
  by_cases h : q < N
  · by_cases e : pos q - 1 = a
    · simp [h, e]
    · have : ¬ a = pos q - 1 := fun z => e z.symm
      simp [h, e, this]
  · simp [h]
section Sells
variable {Γ : GX} {h : Hp} {sz : Nat} {sa ll fa fi : Int32}
theorem r_sells {H N hs b : Nat} {pos : Nat → Nat} {w c o : Bool} {s : SS} {wh ow kp tm ls lw : Nat → Int32} (h57 : h 57 = cM (nI H) (nI N) sa ll fa fi) (h64 : h 64 = ia 3 lw) (h67 : h 67 = ia 9 wh) (h68 : h 68 = ia 9 ow) (h69 : h 69 = ia 9 kp) (h70 : h 70 = ia 9 tm) (h71 : h 71 = ia 9 ls) (hw : lw 0 = 1 ↔ w = true) (hc : lw 1 = 1 ↔ c = true) (ho : lw 2 = 0 ↔ o = false) (hwh : ∀ p, p < N → wh p = nI (pos p) - 1 ∧ pos p ≤ 8) (hk : mkF H s ow kp tm) (hH : H ≤ 8) (hN : N ≤ 8) (hhs : hs < 8) (hb : b < 8) (hbt : ∀ p, p < 8 → s.2.2.1 p ≤ 1000) : Rn Γ mX10_sells [.ref 57, .int (nI hs), .int (nI b)] h sz (qSe h sz H (sal H N pos w c o s hs b)) := by
  refine x_enter 7 (by decide) rfl ?_
  obtain ⟨k1, k2, k3⟩ := hk
  have gl : nI H ≤ nI hs ↔ H ≤ hs := nI_leI (by omega) (by omega)
  have gl2 : nI b < nI N ↔ b < N := nI_ltI (by omega) (by omega)
  have hid : h = seH h ow kp tm ls := by rw [seH, up_id h68, up_id h69, up_id h70, up_id h71]
  have fin : hs < H ∧ b < N → ∀ (n T D : Nat) (l : Nat → Nat) (lF owF kpF tmF : Nat → Int32), seI H N pos w c o s.1 s.2.2.1 b hs T n l → (∀ j, D.testBit j = true ↔ ∃ i, i < n ∧ l i = j) → (∀ a j, D.testBit a = true → edg H N pos w c o s.1 s.2.2.1 b a j = true → T.testBit j = true) → (∀ j, j < H → owF j = nI (if D.testBit j then b else s.1 j)) → (∀ p, p < 8 → kpF p = nI (if (w && decide (p < N) && mayB o s.2.2.1 b p && decide (pos p ≠ 0) && D.testBit (pos p - 1)) then b else s.2.1 p)) → (∀ p, p < 8 → tmF p = nI (s.2.2.1 p + (w && decide (p < N) && mayB o s.2.2.1 b p && decide (pos p ≠ 0) && D.testBit (pos p - 1)).toNat)) → qSe h sz H (sal H N pos w c o s hs b) (some (.int (nI n))) (seH h owF kpF tmF lF) sz := by
    intro hy n T D l lF owF kpF tmF I f3 f4 f5 f6 f7
    have eDT : D = T := by
      apply Nat.eq_of_testBit_eq
      intro j
      cases q : T.testBit j with
      | true => exact (f3 j).mpr (I.2.2.2.1 j q)
      | false =>
        cases q2 : D.testBit j with
        | false => rfl
        | true =>
          obtain ⟨i, hi, e⟩ := (f3 j).mp q2
          have := I.2.2.1 i hi
          rw [e, q] at this; cases this
    subst eDT
    have eT : D = salT H N pos w c o s.1 s.2.2.1 b hs := clo_eq I.1 I.2.2.2.2.2.2.1 f4 I.2.2.2.2.2.2.2
    have en : n = pop D := I.2.1.symm
    have eS : ∀ p, salS H N pos w c o s.1 s.2.2.1 b hs p = (w && decide (p < N) && mayB o s.2.2.1 b p && decide (pos p ≠ 0) && D.testBit (pos p - 1)) := fun p => by rw [salS, ← eT]
    rw [sal, if_pos hy]
    refine ⟨by rw [en, eT], rfl, owF, kpF, tmF, lF, ⟨fun j hj => ?_, fun p hp => ?_, fun p hp => ?_⟩, rfl⟩
    · dsimp only
      rw [← eT]
      refine ⟨f5 j hj, ?_⟩
      split
      · exact hb
      · exact (k1 j hj).2
    · dsimp only
      simp only [eS]
      refine ⟨f6 p hp, ?_⟩
      split
      · exact hb
      · exact (k2 p hp).2
    · dsimp only
      simp only [eS]
      exact f7 p hp
  have main : hs < H → b < N → Ex Γ mX10_sells (gx_Z Γ mX10_sells (qSe h sz H (sal H N pos w c o s hs b))) 0 0 35 [.ref 57, .int (nI hs), .int (nI b), .int (nI 1), .int (nI (2 ^ hs)), .int (nI 0), .retAddr 0, .retAddr 0, .retAddr 0, .retAddr 0] [] (seH h ow kp tm (upd ls 0 (nI hs))) sz := by
    intro hh hbN
    have fin := fin ⟨hh, hbN⟩
    refine loopUp (P := fun k => ∀ (n T D : Nat) (l : Nat → Nat) (lF owF kpF tmF : Nat → Int32) (v6 v7 v8 v9 : Value), k ≤ n → seI H N pos w c o s.1 s.2.2.1 b hs T n l → (∀ i, i < n → lF i = nI (l i)) → D < 256 → (∀ j, D.testBit j = true ↔ ∃ i, i < k ∧ l i = j) → (∀ a j, D.testBit a = true → edg H N pos w c o s.1 s.2.2.1 b a j = true → T.testBit j = true) → (∀ j, j < H → owF j = nI (if D.testBit j then b else s.1 j)) → (∀ p, p < 8 → kpF p = nI (if (w && decide (p < N) && mayB o s.2.2.1 b p && decide (pos p ≠ 0) && D.testBit (pos p - 1)) then b else s.2.1 p)) → (∀ p, p < 8 → tmF p = nI (s.2.2.1 p + (w && decide (p < N) && mayB o s.2.2.1 b p && decide (pos p ≠ 0) && D.testBit (pos p - 1)).toNat)) → Ex Γ mX10_sells _ 0 0 35 [.ref 57, .int (nI hs), .int (nI b), .int (nI n), .int (nI T), .int (nI k), v6, v7, v8, v9] [] (seH h owF kpF tmF lF) sz) 8 ?_ (fun k hk8 ih => ?_) 0 (Nat.zero_le _) 1 (2 ^ hs) 0 (fun _ => hs) _ ow kp tm _ _ _ _ (by decide) (seI_0 hh hH) (fun i hi => by have : i = 0 := (by omega); subst this; simp [upd]) (by decide) (fun j => by simp) (fun a j q => by simp at q) (fun j hj => by simp; exact (k1 j hj).1) (fun p hp => by simp; exact (k2 p hp).1) (fun p hp => by simp; exact k3 p hp)
    · intro n T D l lF owF kpF tmF v6 v7 v8 v9 hkn I f1 f2 f3 f4 f5 f6 f7
      have hn8 := pop_le T
      have hn : n = 8 := by have := I.2.1; omega
      subst hn
      refine x_iload dX10_sells_35 rfl ?_
      refine x_iload dX10_sells_37 rfl ?_
      refine x_icmp_ge dX10_sells_38 (fun b38 => ?_) (fun b38 => ?_)
      · refine x_iload dX10_sells_230 rfl ?_
        refine x_iret (ty := .int) dX10_sells_231 rfl rfl (Nat.zero_le _) (Nat.zero_le _) ?_
        exact fin 8 T D l lF owF kpF tmF I f3 f4 f5 f6 f7
      · exact absurd (by decide) b38
    · intro n T D l lF owF kpF tmF v6 v7 v8 v9 hkn I f1 f2 f3 f4 f5 f6 f7
      have hn8 : n ≤ 8 := by have := pop_le T; have := I.2.1; omega
      have el : nI n ≤ nI k ↔ n ≤ k := nI_leI (by omega) (by omega)
      by_cases hkn2 : n ≤ k
      · have hn : n = k := by omega
        subst hn
        refine x_iload dX10_sells_35 rfl ?_
        refine x_iload dX10_sells_37 rfl ?_
        refine x_icmp_ge dX10_sells_38 (fun b38 => ?_) (fun b38 => ?_)
        · refine x_iload dX10_sells_230 rfl ?_
          refine x_iret (ty := .int) dX10_sells_231 rfl rfl (Nat.zero_le _) (Nat.zero_le _) ?_
          exact fin n T D l lF owF kpF tmF I f3 f4 f5 f6 f7
        · exact absurd (Int32.le_refl _) b38
      · have hkn3 : k < n := by omega
        obtain ⟨a, ea⟩ : ∃ a, a = l k := ⟨_, rfl⟩
        have haT : T.testBit a = true := by rw [ea]; exact I.2.2.1 k hkn3
        have haH : a < H := I.2.2.2.2.2.1 a haT
        have hDa : D.testBit a = false := by
          cases q : D.testBit a with
          | false => rfl
          | true =>
            obtain ⟨i, hi, e⟩ := (f3 a).mp q
            have := I.2.2.2.2.1 i k (by omega) hkn3 (by rw [e, ea])
            omega
        have f5b : ∀ j, j < H → upd owF a (nI b) j = nI (if (D ||| 2 ^ a).testBit j then b else s.1 j) := by
          intro j hj
          rw [Nat.testBit_or, pow_bit]
          by_cases e : j = a
          · subst e; simp [upd]
          · have : ¬ a = j := fun z => e z.symm
            simp [upd, e, this]; exact f5 j hj
        have PP : ∀ p, p ≤ N → ∀ (n T : Nat) (l : Nat → Nat) (lF kpF tmF : Nat → Int32) (v8 v9 : Value), k < n → seI H N pos w c o s.1 s.2.2.1 b hs T n l → (∀ i, i < n → lF i = nI (l i)) → (∀ j, D.testBit j = true ↔ ∃ i, i < k ∧ l i = j) → l k = a → T.testBit a = true → (∀ a' j, D.testBit a' = true → edg H N pos w c o s.1 s.2.2.1 b a' j = true → T.testBit j = true) → (∀ j, edg H N pos w c o s.1 s.2.2.1 b a j = true → s.1 j < p → T.testBit j = true) → (∀ q, q < 8 → kpF q = nI (if spP N pos w o s.2.2.1 b D a p q then b else s.2.1 q)) → (∀ q, q < 8 → tmF q = nI (s.2.2.1 q + (spP N pos w o s.2.2.1 b D a p q).toNat)) → Ex Γ mX10_sells (gx_Z Γ mX10_sells (qSe h sz H (sal H N pos w c o s hs b))) 0 0 61 [.ref 57, .int (nI hs), .int (nI b), .int (nI n), .int (nI T), .int (nI k), .int (nI a), .int (nI p), v8, v9] [] (seH h (upd owF a (nI b)) kpF tmF lF) sz := by
          refine loopUp (P := fun p => ∀ (n T : Nat) (l : Nat → Nat) (lF kpF tmF : Nat → Int32) (v8 v9 : Value), k < n → seI H N pos w c o s.1 s.2.2.1 b hs T n l → (∀ i, i < n → lF i = nI (l i)) → (∀ j, D.testBit j = true ↔ ∃ i, i < k ∧ l i = j) → l k = a → T.testBit a = true → (∀ a' j, D.testBit a' = true → edg H N pos w c o s.1 s.2.2.1 b a' j = true → T.testBit j = true) → (∀ j, edg H N pos w c o s.1 s.2.2.1 b a j = true → s.1 j < p → T.testBit j = true) → (∀ q, q < 8 → kpF q = nI (if spP N pos w o s.2.2.1 b D a p q then b else s.2.1 q)) → (∀ q, q < 8 → tmF q = nI (s.2.2.1 q + (spP N pos w o s.2.2.1 b D a p q).toNat)) → Ex Γ mX10_sells (gx_Z Γ mX10_sells (qSe h sz H (sal H N pos w c o s hs b))) 0 0 61 [.ref 57, .int (nI hs), .int (nI b), .int (nI n), .int (nI T), .int (nI k), .int (nI a), .int (nI p), v8, v9] [] (seH h (upd owF a (nI b)) kpF tmF lF) sz) N ?_ (fun p hp ihp => ?_)
          · intro n T l lF kpF tmF v8 v9 g0 g1 g2 g3 g4 g5 g6 g7 g8 g9
            refine x_iload dX10_sells_61 rfl ?_
            refine x_aload dX10_sells_63 rfl ?_
            refine x_get fX10_104 dX10_sells_64 (by first | assumption | rfl) ?_
            refine x_icmp_ge dX10_sells_67 (fun b67 => ?_) (fun b67 => ?_)
            · refine x_inc1 dX10_sells_224 rfl (Nat.le_of_ble_eq_true rfl) rfl ?_
              refine x_goto dX10_sells_227 ?_
              refine ih n T (D ||| 2 ^ a) l lF _ kpF tmF _ _ _ _ g0 g1 g2 (or_lt f2 (Nat.pow_lt_pow_right (n := 8) (by decide) (by omega))) (fun j => ?_) (fun a' j q1 q2 => ?_) f5b (fun q hq => ?_) (fun q hq => ?_)
              · rw [Nat.testBit_or, pow_bit, Bool.or_eq_true, decide_eq_true_eq, g3]
                constructor
                · rintro (⟨i, hi, e⟩ | e)
                  · exact ⟨i, by omega, e⟩
                  · exact ⟨k, by omega, by rw [g4]; exact e⟩
                · rintro ⟨i, hi, e⟩
                  by_cases z : i = k
                  · right; rw [← g4, ← z]; exact e
                  · left; exact ⟨i, by omega, e⟩
              · rw [Nat.testBit_or, pow_bit, Bool.or_eq_true, decide_eq_true_eq] at q1
                rcases q1 with q1 | q1
                · exact g6 a' j q1 q2
                · subst q1
                  refine g7 j q2 ?_
                  simp only [edg, Bool.and_eq_true, decide_eq_true_eq] at q2
                  exact q2.1.1.2
              · rw [g8 q hq, spP_N]
              · rw [g9 q hq, spP_N]
            · exact absurd (Int32.le_refl _) b67
          · intro n T l lF kpF tmF v8 v9 g0 g1 g2 g3 g4 g5 g6 g7 g8 g9
            have hp8 : p < 8 := by omega
            obtain ⟨wp1, wp2⟩ := hwh p hp
            have ewh := whEq wp2 (show a < 8 by omega)
            have epb : nI p = nI b ↔ p = b := nI_eq (by omega) (by omega)
            have hn9 : n ≤ 8 := by have := pop_le T; have := g1.2.1; omega
            have J0 : ¬ (w = true ∧ pos p = a + 1 ∧ mayB o s.2.2.1 b p = true) → Ex Γ mX10_sells (gx_Z Γ mX10_sells (qSe h sz H (sal H N pos w c o s hs b))) 0 0 122 [.ref 57, .int (nI hs), .int (nI b), .int (nI n), .int (nI T), .int (nI k), .int (nI a), .int (nI p), v8, v9] [.int 0] (seH h (upd owF a (nI b)) kpF tmF lF) sz := by
              intro hnot
              refine x_istore dX10_sells_122 (Nat.le_of_ble_eq_true rfl) rfl ?_
              refine x_iload dX10_sells_124 rfl ?_
              refine x_if_eq dX10_sells_126 (fun b126 => ?_) (fun b126 => ?_)
              · refine x_inc1 dX10_sells_218 rfl (Nat.le_of_ble_eq_true rfl) rfl ?_
                refine x_goto dX10_sells_221 ?_
                exact ihp n T l lF kpF tmF _ _ g0 g1 g2 g3 g4 g5 g6 (fun j e hlt => by
                  by_cases z : s.1 j = p
                  · exfalso
                    simp only [edg, Bool.and_eq_true, decide_eq_true_eq] at e
                    rw [z] at e
                    exact hnot ⟨e.1.1.1.1.1, e.1.2, e.2⟩
                  · exact g7 j e (by omega)) (fun q hq => by rw [spP_no hnot hDa]; exact g8 q hq) (fun q hq => by rw [spP_no hnot hDa]; exact g9 q hq)
              · exact absurd rfl b126
            have J1 : w = true → pos p = a + 1 → mayB o s.2.2.1 b p = true → Ex Γ mX10_sells (gx_Z Γ mX10_sells (qSe h sz H (sal H N pos w c o s hs b))) 0 0 122 [.ref 57, .int (nI hs), .int (nI b), .int (nI n), .int (nI T), .int (nI k), .int (nI a), .int (nI p), v8, v9] [.int 1] (seH h (upd owF a (nI b)) kpF tmF lF) sz := by
              intro y1 y2 y3
              have hpb : p ≠ b := by
                simp only [mayB, Bool.and_eq_true, decide_eq_true_eq] at y3
                exact y3.1
              have g8b : ∀ q, q < 8 → upd kpF p (nI b) q = nI (if spP N pos w o s.2.2.1 b D a (p + 1) q then b else s.2.1 q) := by
                intro q hq
                by_cases e : q = p
                · subst e; simp [upd, spP_yes y1 y2 y3 hp]
                · rw [upd, if_neg e, g8 q hq, spP_ne e]
              have g9b : ∀ q, q < 8 → upd tmF p (tmF p + 1) q = nI (s.2.2.1 q + (spP N pos w o s.2.2.1 b D a (p + 1) q).toNat) := by
                intro q hq
                by_cases e : q = p
                · subst e
                  simp only [upd, if_true]
                  rw [g9 q hq, spP_yes y1 y2 y3 hp, spP_at y2 hDa, nI_1]; rfl
                · rw [upd, if_neg e, g9 q hq, spP_ne e]
              have JJ : ∀ j, j ≤ H → ∀ (n T : Nat) (l : Nat → Nat) (lF : Nat → Int32), k < n → seI H N pos w c o s.1 s.2.2.1 b hs T n l → (∀ i, i < n → lF i = nI (l i)) → (∀ j, D.testBit j = true ↔ ∃ i, i < k ∧ l i = j) → l k = a → T.testBit a = true → (∀ a' j, D.testBit a' = true → edg H N pos w c o s.1 s.2.2.1 b a' j = true → T.testBit j = true) → (∀ j, edg H N pos w c o s.1 s.2.2.1 b a j = true → s.1 j < p → T.testBit j = true) → (∀ j', j' < j → s.1 j' = p → c = true → T.testBit j' = true) → (∀ j', D.testBit j' = true → T.testBit j' = true) → Ex Γ mX10_sells (gx_Z Γ mX10_sells (qSe h sz H (sal H N pos w c o s hs b))) 0 0 151 [.ref 57, .int (nI hs), .int (nI b), .int (nI n), .int (nI T), .int (nI k), .int (nI a), .int (nI p), .int 1, .int (nI j)] [] (seH h (upd owF a (nI b)) (upd kpF p (nI b)) (upd tmF p (tmF p + 1)) lF) sz := by
                have done : ∀ (v9 : Value) (n T : Nat) (l : Nat → Nat) (lF : Nat → Int32), k < n → seI H N pos w c o s.1 s.2.2.1 b hs T n l → (∀ i, i < n → lF i = nI (l i)) → (∀ j, D.testBit j = true ↔ ∃ i, i < k ∧ l i = j) → l k = a → T.testBit a = true → (∀ a' j, D.testBit a' = true → edg H N pos w c o s.1 s.2.2.1 b a' j = true → T.testBit j = true) → (∀ j, edg H N pos w c o s.1 s.2.2.1 b a j = true → s.1 j < p → T.testBit j = true) → (∀ j', j' < H → s.1 j' = p → c = true → T.testBit j' = true) → Ex Γ mX10_sells (gx_Z Γ mX10_sells (qSe h sz H (sal H N pos w c o s hs b))) 0 0 218 [.ref 57, .int (nI hs), .int (nI b), .int (nI n), .int (nI T), .int (nI k), .int (nI a), .int (nI p), .int 1, v9] [] (seH h (upd owF a (nI b)) (upd kpF p (nI b)) (upd tmF p (tmF p + 1)) lF) sz := by
                  intro v9 n T l lF z0 z1 z2 z3 z4 z5 z6 z7 z8
                  refine x_inc1 dX10_sells_218 rfl (Nat.le_of_ble_eq_true rfl) rfl ?_
                  refine x_goto dX10_sells_221 ?_
                  exact ihp n T l lF _ _ _ _ z0 z1 z2 z3 z4 z5 z6 (fun j e hlt => by
                    by_cases z : s.1 j = p
                    · simp only [edg, Bool.and_eq_true, decide_eq_true_eq] at e
                      exact z8 j e.1.1.1.2 z e.1.1.1.1.2
                    · exact z7 j e (by omega)) g8b g9b
                refine loopUp (P := fun j => ∀ (n T : Nat) (l : Nat → Nat) (lF : Nat → Int32), k < n → seI H N pos w c o s.1 s.2.2.1 b hs T n l → (∀ i, i < n → lF i = nI (l i)) → (∀ j, D.testBit j = true ↔ ∃ i, i < k ∧ l i = j) → l k = a → T.testBit a = true → (∀ a' j, D.testBit a' = true → edg H N pos w c o s.1 s.2.2.1 b a' j = true → T.testBit j = true) → (∀ j, edg H N pos w c o s.1 s.2.2.1 b a j = true → s.1 j < p → T.testBit j = true) → (∀ j', j' < j → s.1 j' = p → c = true → T.testBit j' = true) → (∀ j', D.testBit j' = true → T.testBit j' = true) → Ex Γ mX10_sells (gx_Z Γ mX10_sells (qSe h sz H (sal H N pos w c o s hs b))) 0 0 151 [.ref 57, .int (nI hs), .int (nI b), .int (nI n), .int (nI T), .int (nI k), .int (nI a), .int (nI p), .int 1, .int (nI j)] [] (seH h (upd owF a (nI b)) (upd kpF p (nI b)) (upd tmF p (tmF p + 1)) lF) sz) H ?_ (fun j hj ihj => ?_)
                · intro n T l lF z0 z1 z2 z3 z4 z5 z6 z7 z8 z9
                  refine x_iload dX10_sells_151 rfl ?_
                  refine x_aload dX10_sells_153 rfl ?_
                  refine x_get fX10_96 dX10_sells_154 (by first | assumption | rfl) ?_
                  refine x_icmp_ge dX10_sells_157 (fun b157 => ?_) (fun b157 => ?_)
                  · exact done _ n T l lF z0 z1 z2 z3 z4 z5 z6 z7 z8
                  · exact absurd (Int32.le_refl _) b157
                · intro n T l lF z0 z1 z2 z3 z4 z5 z6 z7 z8 z9
                  have zn : n ≤ 8 := by have := pop_le T; have := z1.2.1; omega
                  have hT256 := z1.1
                  have eo : upd owF a (nI b) j = nI p ↔ ((D ||| 2 ^ a).testBit j = false ∧ s.1 j = p) := by
                    rw [f5b j hj]
                    cases q : (D ||| 2 ^ a).testBit j with
                    | true => simp; intro e; exact hpb ((nI_eq (by omega) (by omega)).mp e).symm
                    | false => simp; exact nI_eq (by have := (k1 j hj).2; omega) (by omega)
                  have hD' : (D ||| 2 ^ a).testBit j = true → T.testBit j = true := by
                    rw [Nat.testBit_or, pow_bit, Bool.or_eq_true, decide_eq_true_eq]
                    rintro (q | q)
                    · exact z9 j q
                    · rw [← q]; exact z5
                  have eb := bitN1 (m := T) (k := j) (by omega) (by omega)
                  have nxt : (s.1 j = p → c = true → T.testBit j = true) → ∀ j', j' < j + 1 → s.1 j' = p → c = true → T.testBit j' = true := by
                    intro q j' h1 h2 h3
                    by_cases e : j' = j
                    · subst e; exact q h2 h3
                    · exact z8 j' (by omega) h2 h3
                  refine x_iload dX10_sells_151 rfl ?_
                  refine x_aload dX10_sells_153 rfl ?_
                  refine x_get fX10_96 dX10_sells_154 (by first | assumption | rfl) ?_
                  refine x_icmp_ge dX10_sells_157 (fun b157 => ?_) (fun b157 => ?_)
                  · exact absurd b157 (nI_ge hj (by omega))
                  · refine x_aload dX10_sells_160 rfl ?_
                    refine x_get fX10_28 dX10_sells_161 (by first | assumption | rfl) ?_
                    refine x_k dX10_sells_164 ?_
                    refine x_ialdn (k := 1) dX10_sells_165 (by first | assumption | rfl) ⟨by first | omega | decide, by decide⟩ ?_
                    refine x_k dX10_sells_166 ?_
                    refine x_icmp_ne dX10_sells_167 (fun b167 => ?_) (fun b167 => ?_)
                    · exact done _ n T l lF z0 z1 z2 z3 z4 z5 z6 z7 (fun j' _ _ h3 => absurd (hc.mpr h3) b167)
                    · refine x_aload dX10_sells_170 rfl ?_
                      refine x_get fX10_40 dX10_sells_171 (by first | assumption | rfl) ?_
                      refine x_iload dX10_sells_174 rfl ?_
                      refine x_ialdn dX10_sells_176 (by first | assumption | rfl) ⟨by first | omega | decide, by decide⟩ ?_
                      refine x_iload dX10_sells_177 rfl ?_
                      refine x_icmp_ne dX10_sells_179 (fun b179 => ?_) (fun b179 => ?_)
                      · refine x_inc1 dX10_sells_212 rfl (Nat.le_of_ble_eq_true rfl) rfl ?_
                        refine x_goto dX10_sells_215 ?_
                        first
                          | exact ihj n T l lF z0 z1 z2 z3 z4 z5 z6 z7 (nxt (fun h2 _ => (Bool.eq_false_or_eq_true ((D ||| 2 ^ a).testBit j)).elim hD' (fun q => absurd (And.intro q h2) (fun z => b179 (eo.mpr z))))) z9
                          | exact ihj n T l lF z0 z1 z2 z3 z4 z5 z6 z7 (nxt (fun _ _ => eb.mp b189)) z9
                          | (rw [Classical.not_not, eo] at b179
                             have hTj : T.testBit j = false := by
                               cases q : T.testBit j with
                               | false => rfl
                               | true => exact absurd (eb.mpr q) b189
                             have hc1 : c = true := hc.mp (Classical.not_not.mp b167)
                             have he : edg H N pos w c o s.1 s.2.2.1 b a j = true := by
                               simp [edg, y1, hc1, hj, b179.2, y2, y3, hp]
                             have or1 : ∀ z, T.testBit z = true → (T ||| 2 ^ j).testBit z = true := fun z q => by rw [Nat.testBit_or, q, Bool.true_or]
                             refine ihj (n + 1) (T ||| 2 ^ j) (fun i => if i = n then j else l i) _ (by omega) (seI_add z1 hH hj hTj z5 he) (fun i hi => ?_) (fun z => ?_) (by rw [if_neg (by omega)]; exact z4) (or1 a z5) (fun a' z q1 q2 => or1 z (z6 a' z q1 q2)) (fun z q1 q2 => or1 z (z7 z q1 q2)) (fun j' h1 h2 h3 => ?_) (fun z q => or1 z (z9 z q))
                             · by_cases e : i = n
                               · subst e; simp [upd]
                               · rw [upd, if_neg e, if_neg e]; exact z2 i (by omega)
                             · rw [z3]
                               constructor
                               · rintro ⟨i, hi, e⟩
                                 exact ⟨i, hi, by rw [if_neg (by omega)]; exact e⟩
                               · rintro ⟨i, hi, e⟩
                                 rw [if_neg (by omega)] at e
                                 exact ⟨i, hi, e⟩
                             · by_cases e : j' = j
                               · subst e; rw [Nat.testBit_or, pow_bit]; simp
                               · exact or1 j' (z8 j' (by omega) h2 h3))
                      · refine x_iload dX10_sells_182 rfl ?_
                        refine x_iload dX10_sells_184 rfl ?_
                        refine x_S2i lX10_149 (Rm.of rfl) (cc1 := 0) (cn1 := 0) rfl rfl (Nat.le_of_ble_eq_true rfl) dX10_sells_186 (r_isIn _ _) ?_
                        refine x_if_ne dX10_sells_189 (fun b189 => ?_) (fun b189 => ?_)
                        · try simp only [i01, Classical.not_not] at b189
                          refine x_inc1 dX10_sells_212 rfl (Nat.le_of_ble_eq_true rfl) rfl ?_
                          refine x_goto dX10_sells_215 ?_
                          first
                            | exact ihj n T l lF z0 z1 z2 z3 z4 z5 z6 z7 (nxt (fun h2 _ => (Bool.eq_false_or_eq_true ((D ||| 2 ^ a).testBit j)).elim hD' (fun q => absurd (And.intro q h2) (fun z => b179 (eo.mpr z))))) z9
                            | exact ihj n T l lF z0 z1 z2 z3 z4 z5 z6 z7 (nxt (fun _ _ => eb.mp b189)) z9
                            | (rw [Classical.not_not, eo] at b179
                               have hTj : T.testBit j = false := by
                                 cases q : T.testBit j with
                                 | false => rfl
                                 | true => exact absurd (eb.mpr q) b189
                               have hc1 : c = true := hc.mp (Classical.not_not.mp b167)
                               have he : edg H N pos w c o s.1 s.2.2.1 b a j = true := by
                                 simp [edg, y1, hc1, hj, b179.2, y2, y3, hp]
                               have or1 : ∀ z, T.testBit z = true → (T ||| 2 ^ j).testBit z = true := fun z q => by rw [Nat.testBit_or, q, Bool.true_or]
                               refine ihj (n + 1) (T ||| 2 ^ j) (fun i => if i = n then j else l i) _ (by omega) (seI_add z1 hH hj hTj z5 he) (fun i hi => ?_) (fun z => ?_) (by rw [if_neg (by omega)]; exact z4) (or1 a z5) (fun a' z q1 q2 => or1 z (z6 a' z q1 q2)) (fun z q1 q2 => or1 z (z7 z q1 q2)) (fun j' h1 h2 h3 => ?_) (fun z q => or1 z (z9 z q))
                               · by_cases e : i = n
                                 · subst e; simp [upd]
                                 · rw [upd, if_neg e, if_neg e]; exact z2 i (by omega)
                               · rw [z3]
                                 constructor
                                 · rintro ⟨i, hi, e⟩
                                   exact ⟨i, hi, by rw [if_neg (by omega)]; exact e⟩
                                 · rintro ⟨i, hi, e⟩
                                   rw [if_neg (by omega)] at e
                                   exact ⟨i, hi, e⟩
                               · by_cases e : j' = j
                                 · subst e; rw [Nat.testBit_or, pow_bit]; simp
                                 · exact or1 j' (z8 j' (by omega) h2 h3))
                        · try simp only [i01, Classical.not_not] at b189
                          refine x_iload dX10_sells_192 rfl ?_
                          refine x_k dX10_sells_194 ?_
                          refine x_iload dX10_sells_195 rfl ?_
                          refine x_ishl dX10_sells_197 ?_
                          skip
                          refine x_ior dX10_sells_198 ?_
                          rw [orbit (by omega)]
                          refine x_istore dX10_sells_199 (Nat.le_of_ble_eq_true rfl) rfl ?_
                          refine x_aload dX10_sells_201 rfl ?_
                          refine x_get fX10_49 dX10_sells_202 (by first | assumption | rfl) ?_
                          refine x_iload dX10_sells_205 rfl ?_
                          refine x_iload dX10_sells_206 rfl ?_
                          refine x_iastn dX10_sells_208 (by first | assumption | rfl) ⟨by first | omega | decide, by decide⟩ ?_
                          rw [seH_71]
                          refine x_inc1 dX10_sells_209 rfl (Nat.le_of_ble_eq_true rfl) rfl ?_
                          refine x_inc1 dX10_sells_212 rfl (Nat.le_of_ble_eq_true rfl) rfl ?_
                          refine x_goto dX10_sells_215 ?_
                          first
                            | exact ihj n T l lF z0 z1 z2 z3 z4 z5 z6 z7 (nxt (fun h2 _ => (Bool.eq_false_or_eq_true ((D ||| 2 ^ a).testBit j)).elim hD' (fun q => absurd (And.intro q h2) (fun z => b179 (eo.mpr z))))) z9
                            | exact ihj n T l lF z0 z1 z2 z3 z4 z5 z6 z7 (nxt (fun _ _ => eb.mp b189)) z9
                            | (rw [Classical.not_not, eo] at b179
                               have hTj : T.testBit j = false := by
                                 cases q : T.testBit j with
                                 | false => rfl
                                 | true => exact absurd (eb.mpr q) b189
                               have hc1 : c = true := hc.mp (Classical.not_not.mp b167)
                               have he : edg H N pos w c o s.1 s.2.2.1 b a j = true := by
                                 simp [edg, y1, hc1, hj, b179.2, y2, y3, hp]
                               have or1 : ∀ z, T.testBit z = true → (T ||| 2 ^ j).testBit z = true := fun z q => by rw [Nat.testBit_or, q, Bool.true_or]
                               refine ihj (n + 1) (T ||| 2 ^ j) (fun i => if i = n then j else l i) _ (by omega) (seI_add z1 hH hj hTj z5 he) (fun i hi => ?_) (fun z => ?_) (by rw [if_neg (by omega)]; exact z4) (or1 a z5) (fun a' z q1 q2 => or1 z (z6 a' z q1 q2)) (fun z q1 q2 => or1 z (z7 z q1 q2)) (fun j' h1 h2 h3 => ?_) (fun z q => or1 z (z9 z q))
                               · by_cases e : i = n
                                 · subst e; simp [upd]
                                 · rw [upd, if_neg e, if_neg e]; exact z2 i (by omega)
                               · rw [z3]
                                 constructor
                                 · rintro ⟨i, hi, e⟩
                                   exact ⟨i, hi, by rw [if_neg (by omega)]; exact e⟩
                                 · rintro ⟨i, hi, e⟩
                                   rw [if_neg (by omega)] at e
                                   exact ⟨i, hi, e⟩
                               · by_cases e : j' = j
                                 · subst e; rw [Nat.testBit_or, pow_bit]; simp
                                 · exact or1 j' (z8 j' (by omega) h2 h3))
              refine x_istore dX10_sells_122 (Nat.le_of_ble_eq_true rfl) rfl ?_
              refine x_iload dX10_sells_124 rfl ?_
              refine x_if_eq dX10_sells_126 (fun b126 => ?_) (fun b126 => ?_)
              · exact absurd b126 (by decide)
              · refine x_aload dX10_sells_129 rfl ?_
                refine x_get fX10_43 dX10_sells_130 (by first | assumption | rfl) ?_
                refine x_iload dX10_sells_133 rfl ?_
                refine x_iload dX10_sells_135 rfl ?_
                refine x_iastn dX10_sells_136 (by first | assumption | rfl) ⟨by first | omega | decide, by decide⟩ ?_
                rw [seH_69]
                refine x_aload dX10_sells_137 rfl ?_
                refine x_get fX10_46 dX10_sells_138 (by first | assumption | rfl) ?_
                refine x_iload dX10_sells_141 rfl ?_
                refine x_dup2 dX10_sells_143 rfl rfl ?_
                refine x_ialdn dX10_sells_144 (by first | assumption | rfl) ⟨by first | omega | decide, by decide⟩ ?_
                refine x_k dX10_sells_145 ?_
                refine x_iadd dX10_sells_146 ?_
                refine x_iastn dX10_sells_147 (by first | assumption | rfl) ⟨by first | omega | decide, by decide⟩ ?_
                rw [seH_70]
                refine x_k dX10_sells_148 ?_
                refine x_istore dX10_sells_149 (Nat.le_of_ble_eq_true rfl) rfl ?_
                exact JJ 0 (Nat.zero_le _) n T l lF g0 g1 g2 g3 g4 g5 g6 g7 (fun j' h1 => absurd h1 (Nat.not_lt_zero _)) (fun j' q => by
                  obtain ⟨i, hi, e⟩ := (g3 j').mp q
                  rw [← e]; exact g1.2.2.1 i (by omega))
            have htm : pos p = a + 1 → tmF p = nI (s.2.2.1 p) := fun q => by rw [g9 p hp8, spP_at q hDa]; rfl
            have etz : nI (s.2.2.1 p) = 0 ↔ s.2.2.1 p = 0 := nI_eq (b := 0) (by have := hbt p hp8; omega) (by decide)
            refine x_iload dX10_sells_61 rfl ?_
            refine x_aload dX10_sells_63 rfl ?_
            refine x_get fX10_104 dX10_sells_64 (by first | assumption | rfl) ?_
            refine x_icmp_ge dX10_sells_67 (fun b67 => ?_) (fun b67 => ?_)
            · exact absurd b67 (nI_ge hp (by omega))
            · refine x_aload dX10_sells_70 rfl ?_
              refine x_get fX10_28 dX10_sells_71 (by first | assumption | rfl) ?_
              refine x_k dX10_sells_74 ?_
              refine x_ialdn (k := 0) dX10_sells_75 (by first | assumption | rfl) ⟨by first | omega | decide, by decide⟩ ?_
              refine x_k dX10_sells_76 ?_
              refine x_icmp_ne dX10_sells_77 (fun b77 => ?_) (fun b77 => ?_)
              · refine x_k dX10_sells_121 ?_
                first
                  | exact J0 (fun z => b77 (hw.mpr z.1))
                  | exact J0 (fun z => b89 (by rw [wp1]; exact ewh.mpr z.2.1))
                  | exact J0 (fun z => by
                      have := z.2.2
                      simp only [mayB, Bool.and_eq_true, decide_eq_true_eq] at this
                      exact this.1 (epb.mp b95))
                  | exact J0 (fun z => by
                      have h1 := z.2.2
                      rw [htm z.2.1, etz] at b114
                      have h2 : o = true := by
                        cases q : o with
                        | true => rfl
                        | false => exact absurd (ho.mpr q) b104
                      simp only [mayB, h2, Bool.and_eq_true, decide_eq_true_eq, Bool.not_true, Bool.false_or] at h1
                      exact b114 h1.2)
                  | (rw [Classical.not_not, wp1, ewh] at b89
                     refine J1 (hw.mp (Classical.not_not.mp b77)) b89 ?_
                     rw [epb] at b95
                     have h2 : o = false := ho.mp b104
                     simp [mayB, h2, b95])
                  | (rw [Classical.not_not, wp1, ewh] at b89
                     refine J1 (hw.mp (Classical.not_not.mp b77)) b89 ?_
                     rw [epb] at b95
                     rw [htm b89, etz, Classical.not_not] at b114
                     simp [mayB, b95, b114])
              · refine x_aload dX10_sells_80 rfl ?_
                refine x_get fX10_37 dX10_sells_81 (by first | assumption | rfl) ?_
                refine x_iload dX10_sells_84 rfl ?_
                refine x_ialdn dX10_sells_86 (by first | assumption | rfl) ⟨by first | omega | decide, by decide⟩ ?_
                refine x_iload dX10_sells_87 rfl ?_
                refine x_icmp_ne dX10_sells_89 (fun b89 => ?_) (fun b89 => ?_)
                · refine x_k dX10_sells_121 ?_
                  first
                    | exact J0 (fun z => b77 (hw.mpr z.1))
                    | exact J0 (fun z => b89 (by rw [wp1]; exact ewh.mpr z.2.1))
                    | exact J0 (fun z => by
                        have := z.2.2
                        simp only [mayB, Bool.and_eq_true, decide_eq_true_eq] at this
                        exact this.1 (epb.mp b95))
                    | exact J0 (fun z => by
                        have h1 := z.2.2
                        rw [htm z.2.1, etz] at b114
                        have h2 : o = true := by
                          cases q : o with
                          | true => rfl
                          | false => exact absurd (ho.mpr q) b104
                        simp only [mayB, h2, Bool.and_eq_true, decide_eq_true_eq, Bool.not_true, Bool.false_or] at h1
                        exact b114 h1.2)
                    | (rw [Classical.not_not, wp1, ewh] at b89
                       refine J1 (hw.mp (Classical.not_not.mp b77)) b89 ?_
                       rw [epb] at b95
                       have h2 : o = false := ho.mp b104
                       simp [mayB, h2, b95])
                    | (rw [Classical.not_not, wp1, ewh] at b89
                       refine J1 (hw.mp (Classical.not_not.mp b77)) b89 ?_
                       rw [epb] at b95
                       rw [htm b89, etz, Classical.not_not] at b114
                       simp [mayB, b95, b114])
                · refine x_iload dX10_sells_92 rfl ?_
                  refine x_iload dX10_sells_94 rfl ?_
                  refine x_icmp_eq dX10_sells_95 (fun b95 => ?_) (fun b95 => ?_)
                  · refine x_k dX10_sells_121 ?_
                    first
                      | exact J0 (fun z => b77 (hw.mpr z.1))
                      | exact J0 (fun z => b89 (by rw [wp1]; exact ewh.mpr z.2.1))
                      | exact J0 (fun z => by
                          have := z.2.2
                          simp only [mayB, Bool.and_eq_true, decide_eq_true_eq] at this
                          exact this.1 (epb.mp b95))
                      | exact J0 (fun z => by
                          have h1 := z.2.2
                          rw [htm z.2.1, etz] at b114
                          have h2 : o = true := by
                            cases q : o with
                            | true => rfl
                            | false => exact absurd (ho.mpr q) b104
                          simp only [mayB, h2, Bool.and_eq_true, decide_eq_true_eq, Bool.not_true, Bool.false_or] at h1
                          exact b114 h1.2)
                      | (rw [Classical.not_not, wp1, ewh] at b89
                         refine J1 (hw.mp (Classical.not_not.mp b77)) b89 ?_
                         rw [epb] at b95
                         have h2 : o = false := ho.mp b104
                         simp [mayB, h2, b95])
                      | (rw [Classical.not_not, wp1, ewh] at b89
                         refine J1 (hw.mp (Classical.not_not.mp b77)) b89 ?_
                         rw [epb] at b95
                         rw [htm b89, etz, Classical.not_not] at b114
                         simp [mayB, b95, b114])
                  · refine x_aload dX10_sells_98 rfl ?_
                    refine x_get fX10_28 dX10_sells_99 (by first | assumption | rfl) ?_
                    refine x_k dX10_sells_102 ?_
                    refine x_ialdn (k := 2) dX10_sells_103 (by first | assumption | rfl) ⟨by first | omega | decide, by decide⟩ ?_
                    refine x_if_eq dX10_sells_104 (fun b104 => ?_) (fun b104 => ?_)
                    · refine x_k dX10_sells_117 ?_
                      refine x_goto dX10_sells_118 ?_
                      first
                        | exact J0 (fun z => b77 (hw.mpr z.1))
                        | exact J0 (fun z => b89 (by rw [wp1]; exact ewh.mpr z.2.1))
                        | exact J0 (fun z => by
                            have := z.2.2
                            simp only [mayB, Bool.and_eq_true, decide_eq_true_eq] at this
                            exact this.1 (epb.mp b95))
                        | exact J0 (fun z => by
                            have h1 := z.2.2
                            rw [htm z.2.1, etz] at b114
                            have h2 : o = true := by
                              cases q : o with
                              | true => rfl
                              | false => exact absurd (ho.mpr q) b104
                            simp only [mayB, h2, Bool.and_eq_true, decide_eq_true_eq, Bool.not_true, Bool.false_or] at h1
                            exact b114 h1.2)
                        | (rw [Classical.not_not, wp1, ewh] at b89
                           refine J1 (hw.mp (Classical.not_not.mp b77)) b89 ?_
                           rw [epb] at b95
                           have h2 : o = false := ho.mp b104
                           simp [mayB, h2, b95])
                        | (rw [Classical.not_not, wp1, ewh] at b89
                           refine J1 (hw.mp (Classical.not_not.mp b77)) b89 ?_
                           rw [epb] at b95
                           rw [htm b89, etz, Classical.not_not] at b114
                           simp [mayB, b95, b114])
                    · refine x_aload dX10_sells_107 rfl ?_
                      refine x_get fX10_46 dX10_sells_108 (by first | assumption | rfl) ?_
                      refine x_iload dX10_sells_111 rfl ?_
                      refine x_ialdn dX10_sells_113 (by first | assumption | rfl) ⟨by first | omega | decide, by decide⟩ ?_
                      refine x_if_ne dX10_sells_114 (fun b114 => ?_) (fun b114 => ?_)
                      · refine x_k dX10_sells_121 ?_
                        first
                          | exact J0 (fun z => b77 (hw.mpr z.1))
                          | exact J0 (fun z => b89 (by rw [wp1]; exact ewh.mpr z.2.1))
                          | exact J0 (fun z => by
                              have := z.2.2
                              simp only [mayB, Bool.and_eq_true, decide_eq_true_eq] at this
                              exact this.1 (epb.mp b95))
                          | exact J0 (fun z => by
                              have h1 := z.2.2
                              rw [htm z.2.1, etz] at b114
                              have h2 : o = true := by
                                cases q : o with
                                | true => rfl
                                | false => exact absurd (ho.mpr q) b104
                              simp only [mayB, h2, Bool.and_eq_true, decide_eq_true_eq, Bool.not_true, Bool.false_or] at h1
                              exact b114 h1.2)
                          | (rw [Classical.not_not, wp1, ewh] at b89
                             refine J1 (hw.mp (Classical.not_not.mp b77)) b89 ?_
                             rw [epb] at b95
                             have h2 : o = false := ho.mp b104
                             simp [mayB, h2, b95])
                          | (rw [Classical.not_not, wp1, ewh] at b89
                             refine J1 (hw.mp (Classical.not_not.mp b77)) b89 ?_
                             rw [epb] at b95
                             rw [htm b89, etz, Classical.not_not] at b114
                             simp [mayB, b95, b114])
                      · refine x_k dX10_sells_117 ?_
                        refine x_goto dX10_sells_118 ?_
                        first
                          | exact J0 (fun z => b77 (hw.mpr z.1))
                          | exact J0 (fun z => b89 (by rw [wp1]; exact ewh.mpr z.2.1))
                          | exact J0 (fun z => by
                              have := z.2.2
                              simp only [mayB, Bool.and_eq_true, decide_eq_true_eq] at this
                              exact this.1 (epb.mp b95))
                          | exact J0 (fun z => by
                              have h1 := z.2.2
                              rw [htm z.2.1, etz] at b114
                              have h2 : o = true := by
                                cases q : o with
                                | true => rfl
                                | false => exact absurd (ho.mpr q) b104
                              simp only [mayB, h2, Bool.and_eq_true, decide_eq_true_eq, Bool.not_true, Bool.false_or] at h1
                              exact b114 h1.2)
                          | (rw [Classical.not_not, wp1, ewh] at b89
                             refine J1 (hw.mp (Classical.not_not.mp b77)) b89 ?_
                             rw [epb] at b95
                             have h2 : o = false := ho.mp b104
                             simp [mayB, h2, b95])
                          | (rw [Classical.not_not, wp1, ewh] at b89
                             refine J1 (hw.mp (Classical.not_not.mp b77)) b89 ?_
                             rw [epb] at b95
                             rw [htm b89, etz, Classical.not_not] at b114
                             simp [mayB, b95, b114])
        have el2 : lF k = nI a := by rw [f1 k hkn3, ea]
        have ha9 : a < 9 := by omega
        refine x_iload dX10_sells_35 rfl ?_
        refine x_iload dX10_sells_37 rfl ?_
        refine x_icmp_ge dX10_sells_38 (fun b38 => ?_) (fun b38 => ?_)
        · exact absurd (el.mp b38) hkn2
        · refine x_aload dX10_sells_41 rfl ?_
          refine x_get fX10_49 dX10_sells_42 (by first | assumption | rfl) ?_
          refine x_iload dX10_sells_45 rfl ?_
          refine x_ialdn dX10_sells_47 (by first | assumption | rfl) ⟨by first | omega | decide, by decide⟩ ?_
          rw [el2]
          refine x_istore dX10_sells_48 (Nat.le_of_ble_eq_true rfl) rfl ?_
          refine x_aload dX10_sells_50 rfl ?_
          refine x_get fX10_40 dX10_sells_51 (by first | assumption | rfl) ?_
          refine x_iload dX10_sells_54 rfl ?_
          refine x_iload dX10_sells_56 rfl ?_
          refine x_iastn dX10_sells_57 (by first | assumption | rfl) ⟨by first | omega | decide, by decide⟩ ?_
          rw [seH_68]
          refine x_k dX10_sells_58 ?_
          refine x_istore dX10_sells_59 (Nat.le_of_ble_eq_true rfl) rfl ?_
          exact PP 0 (Nat.zero_le _) n T l lF kpF tmF _ _ hkn3 I f1 f3 ea.symm haT f4 (fun j _ h1 => absurd h1 (Nat.not_lt_zero _)) (fun q hq => by rw [f6 q hq, spP_0]) (fun q hq => by rw [f7 q hq, spP_0])
  refine x_iload dX10_sells_0 rfl ?_
  refine x_aload dX10_sells_1 rfl ?_
  refine x_get fX10_96 dX10_sells_2 (by first | assumption | rfl) ?_
  refine x_icmp_ge dX10_sells_5 (fun b5 => ?_) (fun b5 => ?_)
  · refine x_k dX10_sells_16 ?_
    refine x_iret (ty := .int) dX10_sells_17 rfl rfl (Nat.zero_le _) (Nat.zero_le _) ?_
    have hno : ¬ (hs < H ∧ b < N) := by
      first | (rw [gl] at b5; omega) | (rw [gl2] at b13; omega)
    rw [sal_no hno]
    exact ⟨rfl, rfl, ow, kp, tm, ls, ⟨k1, k2, k3⟩, hid⟩
  · refine x_iload dX10_sells_8 rfl ?_
    refine x_aload dX10_sells_9 rfl ?_
    refine x_get fX10_104 dX10_sells_10 (by first | assumption | rfl) ?_
    refine x_icmp_lt dX10_sells_13 (fun b13 => ?_) (fun b13 => ?_)
    · refine x_k dX10_sells_18 ?_
      refine x_istore dX10_sells_19 (Nat.le_of_ble_eq_true rfl) rfl ?_
      refine x_k dX10_sells_20 ?_
      refine x_iload dX10_sells_21 rfl ?_
      refine x_ishl dX10_sells_22 ?_
      rw [shl1 (by omega)]
      refine x_istore dX10_sells_23 (Nat.le_of_ble_eq_true rfl) rfl ?_
      refine x_aload dX10_sells_25 rfl ?_
      refine x_get fX10_49 dX10_sells_26 (by first | assumption | rfl) ?_
      refine x_k dX10_sells_29 ?_
      refine x_iload dX10_sells_30 rfl ?_
      refine x_iast dX10_sells_31 (by first | assumption | rfl) (by unfold vp_in; decide) ?_
      refine x_k dX10_sells_32 ?_
      refine x_istore dX10_sells_33 (Nat.le_of_ble_eq_true rfl) rfl ?_
      rw [gl] at b5
      rw [gl2] at b13
      refine x_eq rfl rfl ?_ (main (by omega) b13)
      rw [seH, up_id h68, up_id h69, up_id h70]; rfl
    · refine x_k dX10_sells_16 ?_
      refine x_iret (ty := .int) dX10_sells_17 rfl rfl (Nat.zero_le _) (Nat.zero_le _) ?_
      have hno : ¬ (hs < H ∧ b < N) := by
        first | (rw [gl] at b5; omega) | (rw [gl2] at b13; omega)
      rw [sal_no hno]
      exact ⟨rfl, rfl, ow, kp, tm, ls, ⟨k1, k2, k3⟩, hid⟩
end Sells
