/-! rows: the places one by one -/
def updN (f : Nat → Nat) (k v : Nat) : Nat → Nat := fun j => if j = k then v else f j
def stp (S x : Nat) : Nat := if x + 1 < S then x + 1 else 0
def nxtF (S : Nat) (pos : Nat → Nat) : Nat → Nat → Nat
  | 0 => pos
  | k + 1 => if stp S (pos k) = 0 then nxtF S (updN pos k 0) k else updN pos k (stp S (pos k))
theorem stp_lt {S x : Nat} (hS : 0 < S) : stp S x < S := by rw [stp]; split <;> omega
theorem nxtF_lt {S : Nat} (hS : 0 < S) : ∀ (k : Nat) {pos : Nat → Nat} {N : Nat}, (∀ p, p < N → pos p < S) → ∀ p, p < N → nxtF S pos k p < S
  | 0, pos, N, h, p, hp => h p hp
  | k + 1, pos, N, h, p, hp => by
    have hu : ∀ v, v < S → ∀ p, p < N → updN pos k v p < S := fun v hv p hp => by
      rw [updN]; split
      · exact hv
      · exact h p hp
    rw [nxtF]
    split
    · exact nxtF_lt hS k (hu 0 hS) p hp
    · exact hu _ (stp_lt hS) p hp
theorem nxtF_ge (S : Nat) : ∀ (k : Nat) (pos : Nat → Nat) (p : Nat), k ≤ p → nxtF S pos k p = pos p
  | 0, pos, p, _ => rfl
  | k + 1, pos, p, h => by
    rw [nxtF]
    split
    · rw [nxtF_ge S k _ p (by omega), updN, if_neg (by omega)]
    · rw [updN, if_neg (by omega)]
/-- the digits of r + 1 -/
theorem nxtF_dig {S : Nat} (hS : 0 < S) : ∀ (k r : Nat) {pos : Nat → Nat}, (∀ p, p < k → pos p = r / S ^ (k - 1 - p) % S) → ∀ p, p < k → nxtF S pos k p = (r + 1) / S ^ (k - 1 - p) % S
  | 0, r, pos, h, p, hp => absurd hp (by omega)
  | k + 1, r, pos, h, p, hp => by
    have hk : pos k = r % S := by rw [h k (by omega), show k + 1 - 1 - k = 0 by omega, Nat.pow_zero, Nat.div_one]
    have hr : S * (r / S) + r % S = r := Nat.div_add_mod r S
    have hm : r % S < S := Nat.mod_lt _ hS
    rw [nxtF, hk]
    by_cases hz : r % S + 1 < S
    · have e1 : stp S (r % S) = r % S + 1 := if_pos hz
      rw [e1, if_neg (by omega)]
      have er : r + 1 = S * (r / S) + (r % S + 1) := by omega
      have ed : (r + 1) / S = r / S := by rw [er, Nat.mul_add_div hS, Nat.div_eq_of_lt hz]; omega
      by_cases e : p = k
      · subst e
        rw [updN, if_pos rfl, show p + 1 - 1 - p = 0 by omega, Nat.pow_zero, Nat.div_one, er, Nat.mul_add_mod, Nat.mod_eq_of_lt hz]
      · rw [updN, if_neg e, h p hp, show k + 1 - 1 - p = (k - 1 - p) + 1 by omega, Nat.pow_succ, Nat.mul_comm, ← Nat.div_div_eq_div_mul, ← Nat.div_div_eq_div_mul, ed]
    · have e1 : stp S (r % S) = 0 := if_neg hz
      rw [e1, if_pos rfl]
      have er : r + 1 = S * (r / S + 1) + 0 := by rw [Nat.mul_add]; omega
      have ed : (r + 1) / S = r / S + 1 := by rw [er, Nat.mul_add_div hS, Nat.zero_div, Nat.add_zero]
      by_cases e : p = k
      · subst e
        rw [nxtF_ge S p _ p (Nat.le_refl _), updN, if_pos rfl, show p + 1 - 1 - p = 0 by omega, Nat.pow_zero, Nat.div_one, er, Nat.mul_add_mod, Nat.zero_mod]
      · have ih := nxtF_dig hS k (r / S) (pos := updN pos k 0) (fun q hq => by
          rw [updN, if_neg (by omega), h q (by omega), show k + 1 - 1 - q = (k - 1 - q) + 1 by omega, Nat.pow_succ, Nat.mul_comm, ← Nat.div_div_eq_div_mul]) p (by omega)
        rw [ih, show k + 1 - 1 - p = (k - 1 - p) + 1 by omega, Nat.pow_succ, Nat.mul_comm, ← Nat.div_div_eq_div_mul, ed]
theorem upd_same {f : Nat → Int32} {k : Nat} {v : Int32} : upd f k v k = v := if_pos rfl
theorem upd_ne {f : Nat → Int32} {k j : Nat} {v : Int32} (h : j ≠ k) : upd f k v j = f j := if_neg h
theorem ins_upd {N k v : Nat} {pos : Nat → Nat} {is : Nat → Int32} (hk : k < N) (hN : N ≤ 8) (hp : pos k < 9) (hin : ∀ z, z < 9 → is z = nI (insM N pos z)) : ∀ z, z < 9 → upd (upd is (pos k) (nI (ndiff (insM N pos (pos k)) (2 ^ k)))) v (upd is (pos k) (nI (ndiff (insM N pos (pos k)) (2 ^ k))) v ||| (1 : Int32) <<< (nI k &&& 31)) z = nI (insM N (updN pos k v) z) := by
  intro z hz
  have m1 : ∀ z, z < 9 → ∃ M, upd is (pos k) (nI (ndiff (insM N pos (pos k)) (2 ^ k))) z = nI M ∧ ∀ i, M.testBit i = (decide (i < N) && decide (i ≠ k) && decide (pos i = z)) := by
    intro z hz
    by_cases e : z = pos k
    · refine ⟨ndiff (insM N pos (pos k)) (2 ^ k), by rw [e]; exact upd_same, fun i => ?_⟩
      rw [ndiff_bit, insM, msk_bit, Nat.testBit_two_pow, e]
      by_cases ei : i = k
      · subst ei; simp
      · have : ¬ k = i := fun q => ei q.symm
        simp [ei, this]
    · refine ⟨insM N pos z, by rw [upd_ne e]; exact hin z hz, fun i => ?_⟩
      rw [insM, msk_bit]
      by_cases ei : i = k
      · subst ei
        have : ¬ pos i = z := fun q => e q.symm
        simp [this]
      · simp [ei]
  obtain ⟨M, e1, e2⟩ := m1 z hz
  by_cases e : z = v
  · subst e
    rw [upd_same, e1, orbit (by omega)]
    refine congrArg nI (Nat.eq_of_testBit_eq (fun i => ?_))
    rw [Nat.testBit_or, e2, insM, msk_bit, Nat.testBit_two_pow, updN]
    by_cases ei : i = k
    · subst ei; simp [hk]
    · have : ¬ k = i := fun q => ei q.symm
      simp [ei, this]
  · rw [upd_ne e, e1]
    refine congrArg nI (Nat.eq_of_testBit_eq (fun i => ?_))
    rw [e2, insM, msk_bit, updN]
    by_cases ei : i = k
    · subst ei
      have : ¬ v = z := fun q => e q.symm
      simp [this]
    · simp [ei]
theorem ins_zero {N : Nat} {is : Nat → Int32} : ∀ z, z < 9 → upd (filF is 0 9) 0 (nI (2 ^ N - 1)) z = nI (insM N (fun _ => 0) z) := by
  intro z hz
  by_cases e : z = 0
  · subst e
    rw [upd_same]
    refine congrArg nI (Nat.eq_of_testBit_eq (fun i => ?_))
    rw [Nat.testBit_two_pow_sub_one, insM, msk_bit]; simp
  · rw [upd_ne e, filF, if_pos hz]
    refine congrArg nI (a₁ := 0) (Nat.eq_of_testBit_eq (fun i => ?_))
    have : ¬ 0 = z := fun q => e q.symm
    rw [insM, msk_bit]; simp [this]
theorem nI_add_m1 (k : Nat) : nI k + (-1) = nI k - 1 := (Int32.sub_eq_add_neg (a := nI k) (b := 1)).symm
section RowsA
variable {Γ : GX} {h : Hp} {sz : Nat}
def qNx (h : Hp) (sz N S : Nat) (pos : Nat → Nat) : QT := fun r h' sz' => r = none ∧ sz = sz' ∧ ∃ is ats : Nat → Int32, h' = va_up (va_up h 34 (ia 9 is)) 35 (ia 4 ats) ∧ (∀ p, p < N → ats p = nI (pos p)) ∧ (∀ p, p < N → pos p < S) ∧ ∀ z, z < 9 → is z = nI (insM N pos z)
theorem r_toNext {N S : Nat} {en : Value} {si fi rk wk rs fr wy : Int32} {is ats : Nat → Int32} {pos : Nat → Nat} (h28 : h 28 = cR en (nI N) (nI S) si fi rk wk rs fr wy) (h34 : h 34 = ia 9 is) (h35 : h 35 = ia 4 ats) (hN : N ≤ 4) (hS : 0 < S) (hS9 : S ≤ 9) (hat : ∀ p, p < N → ats p = nI (pos p)) (hpos : ∀ p, p < N → pos p < S) (hin : ∀ z, z < 9 → is z = nI (insM N pos z)) : Rn Γ mX2_toNext [.ref 28] h sz (qNx h sz N S (nxtF S pos N)) := by
  refine x_enter 1 (by decide) rfl ?_
  have all : ∀ k, k ≤ N → ∀ (pos : Nat → Nat) (is ats : Nat → Int32), (∀ p, p < N → ats p = nI (pos p)) → (∀ p, p < N → pos p < S) → (∀ z, z < 9 → is z = nI (insM N pos z)) → Ex Γ mX2_toNext (gx_Z Γ mX2_toNext (qNx h sz N S (nxtF S pos k))) 0 0 7 [.ref 28, .int (nI k - 1)] [] (va_up (va_up h 34 (ia 9 is)) 35 (ia 4 ats)) sz := by
    intro k
    induction k with
    | zero =>
      intro hk pos is ats hat hpos hin
      refine x_iload dX2_toNext_7 rfl ?_
      refine x_if_lt dX2_toNext_8 (fun b8 => ?_) (fun b8 => ?_)
      · refine x_vret dX2_toNext_96 rfl (Nat.zero_le _) (Nat.zero_le _) ?_
        exact ⟨rfl, rfl, is, ats, rfl, hat, hpos, hin⟩
      · exact absurd (by decide) b8
    | succ k ih =>
      intro hk pos is ats hat hpos hin
      have hpk := hpos k (by omega)
      rw [nI_m1]
      have J62 : ∀ v, v = stp S (pos k) → v < S → Ex Γ mX2_toNext (gx_Z Γ mX2_toNext (qNx h sz N S (nxtF S pos (k + 1)))) 0 0 62 [.ref 28, .int (nI k)] [.int (nI v), .int (nI k), .ref 35] (va_up (va_up h 34 (ia 9 (upd is (pos k) (nI (ndiff (insM N pos (pos k)) (2 ^ k)))))) 35 (ia 4 ats)) sz := by
        intro v hv hvS
        have hin2 := ins_upd (v := v) (k := k) (by omega) (by omega) (by omega) hin
        have hat2 : ∀ p, p < N → upd ats k (nI v) p = nI (updN pos k v p) := fun p hp => by
          rw [updN]; by_cases e : p = k
          · subst e; rw [upd_same, if_pos rfl]
          · rw [upd_ne e, if_neg e]; exact hat p hp
        have hpos2 : ∀ p, p < N → updN pos k v p < S := fun p hp => by
          rw [updN]; split
          · exact hvS
          · exact hpos p hp
        have ez : nI v = 0 ↔ v = 0 := nI_eq (b := 0) (by omega) (by omega)
        refine x_iastn dX2_toNext_62 (by first | assumption | rfl | exact up_same | exact (up_ne (by omega)).trans (by assumption) | exact (up_ne (by assumption)).trans (by assumption)) ⟨by first | omega | decide, by decide⟩ ?_
        refine x_aload dX2_toNext_63 rfl ?_
        refine x_get fX2_18 dX2_toNext_64 (by first | assumption | rfl | exact up_same | exact (up_ne (by omega)).trans (by assumption) | exact (up_ne (by assumption)).trans (by assumption)) ?_
        refine x_aload dX2_toNext_67 rfl ?_
        refine x_get fX2_22 dX2_toNext_68 (by first | assumption | rfl | exact up_same | exact (up_ne (by omega)).trans (by assumption) | exact (up_ne (by assumption)).trans (by assumption)) ?_
        refine x_iload dX2_toNext_71 rfl ?_
        refine x_ialdn dX2_toNext_72 (by first | assumption | rfl | exact up_same | exact (up_ne (by omega)).trans (by assumption) | exact (up_ne (by assumption)).trans (by assumption)) ⟨by first | omega | decide, by decide⟩ ?_
        rw [upd_same]
        refine x_dup2 dX2_toNext_73 rfl rfl ?_
        refine x_ialdn dX2_toNext_74 (by first | assumption | rfl | exact up_same | exact (up_ne (by omega)).trans (by assumption) | exact (up_ne (by assumption)).trans (by assumption)) ⟨by first | omega | decide, by decide⟩ ?_
        refine x_k dX2_toNext_75 ?_
        refine x_iload dX2_toNext_76 rfl ?_
        refine x_ishl dX2_toNext_77 ?_
        refine x_ior dX2_toNext_78 ?_
        refine x_iastn dX2_toNext_79 (by first | assumption | rfl | exact up_same | exact (up_ne (by omega)).trans (by assumption) | exact (up_ne (by assumption)).trans (by assumption)) ⟨by first | omega | decide, by decide⟩ ?_
        refine x_aload dX2_toNext_80 rfl ?_
        refine x_get fX2_22 dX2_toNext_81 (by first | assumption | rfl | exact up_same | exact (up_ne (by omega)).trans (by assumption) | exact (up_ne (by assumption)).trans (by assumption)) ?_
        refine x_iload dX2_toNext_84 rfl ?_
        refine x_ialdn dX2_toNext_85 (by first | assumption | rfl | exact up_same | exact (up_ne (by omega)).trans (by assumption) | exact (up_ne (by assumption)).trans (by assumption)) ⟨by first | omega | decide, by decide⟩ ?_
        rw [upd_same]
        refine x_if_eq dX2_toNext_86 (fun b86 => ?_) (fun b86 => ?_)
        · refine x_iinc (v := (-1)) dX2_toNext_90 rfl (by decide) (Nat.le_of_ble_eq_true rfl) rfl ?_
          refine x_goto dX2_toNext_93 ?_
          have hz : v = 0 := ez.mp b86
          have en : nxtF S pos (k + 1) = nxtF S (updN pos k v) k := by rw [nxtF, ← hv, if_pos hz, hz]
          rw [en]
          refine x_eq ?_ rfl ?_ (ih (by omega) (updN pos k v) _ _ hat2 hpos2 hin2)
          · rw [← nI_add_m1]; rfl
          · exact (by funext j; simp only [va_up]; (repeat' split) <;> first | rfl | omega | simp_all)
        · refine x_vret dX2_toNext_89 rfl (Nat.zero_le _) (Nat.zero_le _) ?_
          have hz : ¬ v = 0 := fun z => b86 (ez.mpr z)
          have en : nxtF S pos (k + 1) = updN pos k v := by rw [nxtF, ← hv, if_neg hz]
          rw [en]
          exact ⟨rfl, rfl, _, _, (by funext j; simp only [va_up]; (repeat' split) <;> first | rfl | omega | simp_all), hat2, hpos2, hin2⟩
      refine x_iload dX2_toNext_7 rfl ?_
      refine x_if_lt dX2_toNext_8 (fun b8 => ?_) (fun b8 => ?_)
      · exact absurd b8 (nI_pos (by omega))
      · refine x_aload dX2_toNext_11 rfl ?_
        refine x_get fX2_18 dX2_toNext_12 (by first | assumption | rfl | exact up_same | exact (up_ne (by omega)).trans (by assumption) | exact (up_ne (by assumption)).trans (by assumption)) ?_
        refine x_aload dX2_toNext_15 rfl ?_
        refine x_get fX2_22 dX2_toNext_16 (by first | assumption | rfl | exact up_same | exact (up_ne (by omega)).trans (by assumption) | exact (up_ne (by assumption)).trans (by assumption)) ?_
        refine x_iload dX2_toNext_19 rfl ?_
        refine x_ialdn dX2_toNext_20 (by first | assumption | rfl | exact up_same | exact (up_ne (by omega)).trans (by assumption) | exact (up_ne (by assumption)).trans (by assumption)) ⟨by first | omega | decide, by decide⟩ ?_
        rw [hat k (by omega)]
        refine x_dup2 dX2_toNext_21 rfl rfl ?_
        refine x_ialdn dX2_toNext_22 (by first | assumption | rfl | exact up_same | exact (up_ne (by omega)).trans (by assumption) | exact (up_ne (by assumption)).trans (by assumption)) ⟨by first | omega | decide, by decide⟩ ?_
        rw [hin (pos k) (by omega)]
        refine x_k dX2_toNext_23 ?_
        refine x_iload dX2_toNext_24 rfl ?_
        refine x_ishl dX2_toNext_25 ?_
        refine x_k dX2_toNext_26 ?_
        refine x_ixor dX2_toNext_27 ?_
        refine x_iand dX2_toNext_28 ?_
        rw [shl1 (by omega), fa_diff]
        refine x_iastn dX2_toNext_29 (by first | assumption | rfl | exact up_same | exact (up_ne (by omega)).trans (by assumption) | exact (up_ne (by assumption)).trans (by assumption)) ⟨by first | omega | decide, by decide⟩ ?_
        refine x_aload dX2_toNext_30 rfl ?_
        refine x_get fX2_22 dX2_toNext_31 (by first | assumption | rfl | exact up_same | exact (up_ne (by omega)).trans (by assumption) | exact (up_ne (by assumption)).trans (by assumption)) ?_
        refine x_iload dX2_toNext_34 rfl ?_
        refine x_aload dX2_toNext_35 rfl ?_
        refine x_get fX2_22 dX2_toNext_36 (by first | assumption | rfl | exact up_same | exact (up_ne (by omega)).trans (by assumption) | exact (up_ne (by assumption)).trans (by assumption)) ?_
        refine x_iload dX2_toNext_39 rfl ?_
        refine x_ialdn dX2_toNext_40 (by first | assumption | rfl | exact up_same | exact (up_ne (by omega)).trans (by assumption) | exact (up_ne (by assumption)).trans (by assumption)) ⟨by first | omega | decide, by decide⟩ ?_
        rw [hat k (by omega)]
        refine x_k dX2_toNext_41 ?_
        refine x_iadd dX2_toNext_42 ?_
        refine x_aload dX2_toNext_43 rfl ?_
        refine x_get fX2_39 dX2_toNext_44 (by first | assumption | rfl | exact up_same | exact (up_ne (by omega)).trans (by assumption) | exact (up_ne (by assumption)).trans (by assumption)) ?_
        rw [nI_1]
        refine x_icmp_ge dX2_toNext_47 (fun b47 => ?_) (fun b47 => ?_)
        · refine x_k dX2_toNext_61 ?_
          first
            | (have hz : stp S (pos k) = 0 := if_neg (fun y => Int32.not_le.mpr ((nI_ltI (by omega) (by omega)).mpr y) b47)
               exact x_eq rfl rfl (by funext j; simp only [va_up]; (repeat' split) <;> first | rfl | omega | simp_all) (J62 0 hz.symm hS))
            | (have hlt : pos k + 1 < S := Classical.byContradiction (fun y => b47 ((nI_leI (by omega) (by omega)).mpr (by omega)))
               have hz : stp S (pos k) = pos k + 1 := if_pos hlt
               exact x_eq rfl rfl (by funext j; simp only [va_up]; (repeat' split) <;> first | rfl | omega | simp_all) (J62 (pos k + 1) hz.symm hlt))
        · refine x_aload dX2_toNext_50 rfl ?_
          refine x_get fX2_22 dX2_toNext_51 (by first | assumption | rfl | exact up_same | exact (up_ne (by omega)).trans (by assumption) | exact (up_ne (by assumption)).trans (by assumption)) ?_
          refine x_iload dX2_toNext_54 rfl ?_
          refine x_ialdn dX2_toNext_55 (by first | assumption | rfl | exact up_same | exact (up_ne (by omega)).trans (by assumption) | exact (up_ne (by assumption)).trans (by assumption)) ⟨by first | omega | decide, by decide⟩ ?_
          rw [hat k (by omega)]
          refine x_k dX2_toNext_56 ?_
          refine x_iadd dX2_toNext_57 ?_
          rw [nI_1]
          refine x_goto dX2_toNext_58 ?_
          first
            | (have hz : stp S (pos k) = 0 := if_neg (fun y => Int32.not_le.mpr ((nI_ltI (by omega) (by omega)).mpr y) b47)
               exact x_eq rfl rfl (by funext j; simp only [va_up]; (repeat' split) <;> first | rfl | omega | simp_all) (J62 0 hz.symm hS))
            | (have hlt : pos k + 1 < S := Classical.byContradiction (fun y => b47 ((nI_leI (by omega) (by omega)).mpr (by omega)))
               have hz : stp S (pos k) = pos k + 1 := if_pos hlt
               exact x_eq rfl rfl (by funext j; simp only [va_up]; (repeat' split) <;> first | rfl | omega | simp_all) (J62 (pos k + 1) hz.symm hlt))
  refine x_aload dX2_toNext_0 rfl ?_
  refine x_get fX2_35 dX2_toNext_1 (by first | assumption | rfl | exact up_same | exact (up_ne (by omega)).trans (by assumption) | exact (up_ne (by assumption)).trans (by assumption)) ?_
  refine x_k dX2_toNext_4 ?_
  refine x_isub dX2_toNext_5 ?_
  refine x_istore dX2_toNext_6 (Nat.le_of_ble_eq_true rfl) rfl ?_
  exact x_eq rfl rfl (by rw [up_id h34, up_id h35]) (all N (Nat.le_refl _) pos is ats hat hpos hin)
end RowsA
