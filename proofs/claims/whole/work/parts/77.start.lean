/-! the law's start -/
section Start7
variable {Γ : GX}
/-- the data at the start -/
def dS : DT := ((0, 0, fun _ => 0, fun _ => 0), (7, 0, fun _ => 0, fun _ => 0), (fun _ => 0, fun _ => 0), (0, fun _ => 0, fun _ => 0), (fun _ => -1, fun _ => 0, fun _ _ => 0), 0)
theorem okD_S : okD dS := by
  refine ⟨⟨Nat.zero_le _, Nat.zero_le _, fun i => ⟨?_, ?_⟩, fun i => ⟨?_, ?_⟩⟩, ⟨?_, Nat.zero_le _, fun i hi => absurd hi (Nat.not_lt_zero i)⟩, ⟨Nat.zero_le _, fun i hi => absurd hi (Nat.not_lt_zero i)⟩, fun s _ => ⟨Or.inl rfl, ?_, ?_⟩⟩
  · show (0 : Int32) ≤ 0; decide
  · show (0 : Int32) ≤ 255; decide
  · show (0 : Int32) ≤ 0; decide
  · show (0 : Int32) ≤ 255; decide
  · show 7 < 8; decide
  · show (0 : Int32) = nI (0 : Int32).toNatClampNeg; decide
  · show (0 : Int32).toNatClampNeg ≤ 48; decide
theorem okL_S : okL dS := fun p _ => rfl
theorem dS_H : d_H dS = 0 := by decide
theorem dS_N : d_N dS = 0 := by decide
theorem lt4 {P : Nat → Prop} (h0 : P 0) (h1 : P 1) (h2 : P 2) (h3 : P 3) : ∀ p, p < 4 → P p := by
  intro p hp
  have : p = 0 ∨ p = 1 ∨ p = 2 ∨ p = 3 := by omega
  rcases this with rfl | rfl | rfl | rfl <;> assumption
set_option maxRecDepth 20000 in
theorem law_go {Z : ZT} (hR : ∀ (cc cn : Nat) (lv : List Value) (h : Hp) (sz : Nat), cc ≤ 212196 → cn ≤ 8465662 → Ex Γ mL_law Z cc cn 1295 lv [.int 1] h sz) (hl : Γ.2.2.2.2.1 ≤ 3072) : Ex Γ mL_law Z 0 0 0 [.ref 0, .retAddr 0, .retAddr 0, .retAddr 0] [] (fun _ => none) 4 := by
  refine x_new nL_7 dL_law_0 (Nat.le_of_ble_eq_true rfl) (Nat.le_of_ble_eq_true rfl) ?_
  refine x_dup dL_law_3 rfl ?_
  refine x_I0v lL_9 (Rm.of rfl) (cc1 := 53) (cn1 := 682) rfl rfl (Nat.le_of_ble_eq_true rfl) dL_law_4 ((r_X9_init_4 rfl)) ?_
  refine x_astore dL_law_7 (Nat.le_of_ble_eq_true rfl) rfl ?_
  refine x_new nL_10 dL_law_8 (Nat.le_of_ble_eq_true rfl) (Nat.le_of_ble_eq_true rfl) ?_
  refine x_dup dL_law_11 rfl ?_
  refine x_I0v lL_12 (Rm.of rfl) (cc1 := 81) (cn1 := 35726) rfl rfl (Nat.le_of_ble_eq_true rfl) dL_law_12 ((r_X10_init_57 rfl)) ?_
  refine x_astore dL_law_15 (Nat.le_of_ble_eq_true rfl) rfl ?_
  refine x_k dL_law_16 ?_
  refine x_istore dL_law_17 (Nat.le_of_ble_eq_true rfl) rfl ?_
  refine law_loop hR hl 512 0 _ _ _ _ dS ?_ ?_ (Nat.zero_le _) (Nat.le_of_ble_eq_true rfl) (Nat.le_of_ble_eq_true rfl)
  · refine ⟨⟨?_, ?_, ?_, ?_⟩, ?_, okD_S, okL_S, Nat.le_refl _⟩
    · refine ⟨fun _ => 0, fun _ => 0, fun _ => 0, fun _ => 0, fun _ => 0, fun _ => 0, ⟨rfl, rfl, rfl, rfl, rfl⟩, ⟨rfl, rfl, rfl, rfl, rfl, rfl, rfl⟩, ⟨rfl, rfl, rfl⟩, ⟨rfl, rfl, rfl⟩, ⟨rfl, rfl, rfl⟩, ⟨rfl, ⟨rfl, rfl⟩, ⟨rfl, rfl⟩, ⟨rfl, rfl⟩, rfl, rfl⟩, ?_, ?_, ?_, ?_⟩
      · intro j hj; rw [dS_H] at hj; exact absurd hj (Nat.not_lt_zero _)
      · intro q _; rw [dS_H]; rfl
      · intro p hp; rw [dS_N] at hp; exact absurd hp (Nat.not_lt_zero _)
      · intro s _; rw [dS_N]; rfl
    · exact ⟨0, 0, 0, 0, fun _ => 0, fun _ => 0, fun _ => 0, fun _ => 0, rfl, rfl, rfl, rfl, rfl, rfl, Or.inl rfl⟩
    · exact ⟨.null, 0, 1, 1, 0, 0, 0, 0, -1, 0, 0, 0, 0, fun _ => 0, fun _ => 0, fun _ => 0, fun _ => 0, fun _ => 0, fun _ => 0, _, _, fun _ => 0, ⟨rfl, rfl, rfl, rfl, rfl, rfl⟩, ⟨rfl, rfl, rfl, rfl, rfl⟩, Or.inl ⟨rfl, rfl, rfl, lt4 rfl rfl rfl rfl, Or.inl rfl⟩⟩
    · exact ⟨.null, .null, 0, 0, 0, 0, 0, fun _ => 0, fun _ => 0, fun _ => 0, fun _ => 0, ⟨rfl, rfl, rfl, rfl, rfl, rfl⟩, Or.inl ⟨rfl, Or.inl ⟨rfl, rfl⟩⟩⟩
    · refine ⟨0, 0, 0, fun _ => 0, fun _ => 0, fun _ => 0, fun _ => 0, fun _ => 0, fun _ => 0, _, fun _ => 0, fun _ => 0, fun _ => 0, fun _ => 0, fun _ => 0, fun _ => 0, fun _ => 0, fun _ => 0, fun _ => 0, fun _ => 0, fun _ => 0, fun _ => 0, fun _ => 0, ⟨rfl, rfl, rfl, rfl, rfl, rfl, rfl⟩, ⟨rfl, rfl, rfl, rfl, rfl, rfl, rfl, rfl⟩, ⟨rfl, rfl, rfl, rfl, rfl, rfl, rfl, rfl⟩, ⟨rfl, rfl, rfl, rfl, rfl⟩, ⟨rfl, rfl, fun _ _ => rfl, fun _ _ => rfl⟩, ⟨?_, ?_, ?_⟩, fun s _ => ⟨?_, fun c => absurd rfl c⟩, fun _ _ _ _ => rfl⟩
      · rfl
      · rfl
      · rfl
      · exact (if_pos rfl).symm
  · show _ < 0 + 6 * 512 + 6
    omega
end Start7
