/-! changes -/
theorem accF_add (f g : Nat → Int32) : ∀ n, accF 0 (fun i => f i + g i) n = accF 0 f n + accF 0 g n
  | 0 => rfl
  | n + 1 => by rw [accF, accF, accF, accF_add f g n, Int32.add_assoc, Int32.add_assoc, ← Int32.add_assoc (accF 0 g n), ← Int32.add_assoc (f n), Int32.add_comm (accF 0 g n)]
theorem accF_zero {f : Nat → Int32} {n : Nat} (e : ∀ i, i < n → f i = 0) : accF 0 f n = 0 := by
  induction n with
  | zero => rfl
  | succ n ih => rw [accF, ih (fun i hi => e i (by omega)), e n (by omega)]; rfl
def chR (c : Nat → Nat → Int32) (H : Nat) : Int32 := accF 0 (fun a => accF 0 (c a) a) H
def chX (c : Nat → Nat → Int32) (a n : Nat) : Int32 := accF 0 (fun b => if a < b then c a b else 0) n
theorem chX_R (c : Nat → Nat → Int32) (hs : ∀ a b, c a b = c b a) : ∀ H, accF 0 (fun a => chX c a H) H = chR c H
  | 0 => rfl
  | H + 1 => by
    have e1 : ∀ a, a < H → chX c a (H + 1) = chX c a H + c H a := fun a ha => by rw [chX, accF, if_pos ha, hs a H, chX]
    have e2 : chX c H (H + 1) = 0 := accF_zero (fun b hb => if_neg (by omega))
    rw [accF, accF_congr e1, accF_add, chX_R c hs H, e2, Int32.add_zero, chR, chR, accF]
def chC (d : DT) (a b : Nat) : Int32 := bI (chP d a b)
theorem chC_s (d : DT) (a b : Nat) : chC d a b = chC d b a := bI_congr ⟨fun ⟨x, y, z⟩ => ⟨Ne.symm x, z, y⟩, fun ⟨x, y, z⟩ => ⟨Ne.symm x, z, y⟩⟩
def aChanges (d : DT) : Int32 := chR (chC d) (d_H d)
section Chs
variable {Γ : GX} {h : Hp} {sz : Nat} {d : DT}
theorem c_changes (hX : XW h sz d) (hd : okD d) : Rn Γ mX9_changes [.ref 4] h sz (qW h sz d (aChanges d)) := by
  refine x_enter 3 (by decide) rfl ?_
  have hH8 : d_H d ≤ 8 := (hN_ok hd.1.1).1
  rw [aChanges, ← chX_R (chC d) (chC_s d)]
  have inner : ∀ a S, a < d_H d → (∀ (h' : Hp) (sz' : Nat), sz ≤ sz' → XW h' sz' d → frX h h' → Ex Γ mX9_changes (gx_Z Γ mX9_changes (qW h sz d (accF 0 (fun a => chX (chC d) a (d_H d)) (d_H d)))) 0 0 45 [.ref 4, .int (S + chX (chC d) a (d_H d)), .int (nI a), .int (nI (d_H d))] [] h' sz') → ∀ b, b ≤ d_H d → ∀ (h' : Hp) (sz' : Nat), a < b → sz ≤ sz' → XW h' sz' d → frX h h' → Ex Γ mX9_changes (gx_Z Γ mX9_changes (qW h sz d (accF 0 (fun a => chX (chC d) a (d_H d)) (d_H d)))) 0 0 19 [.ref 4, .int (S + chX (chC d) a b), .int (nI a), .int (nI b)] [] h' sz' := by
    intro a S ha K
    refine loopUp (d_H d) (fun h' sz' hab hz hX' hF => ?_) (fun b hb ih h' sz' hab hz hX' hF => ?_)
    · obtain ⟨ow, pr, od, kd, sp, ins, a1, ⟨a10, -⟩, -⟩ := id hX'.1
      obtain ⟨ss, h4⟩ := hX'.2.1.w4
      refine x_iload dX9_changes_19 rfl ?_
      refine x_aload dX9_changes_20 rfl ?_
      refine x_get fX9_21 dX9_changes_21 (by first | assumption | rfl | exact up_same | exact (up_ne (by omega)).trans (by assumption) | exact (up_ne (by assumption)).trans (by assumption)) ?_
      refine x_get fX9_197 dX9_changes_24 (by first | assumption | rfl | exact up_same | exact (up_ne (by omega)).trans (by assumption) | exact (up_ne (by assumption)).trans (by assumption)) ?_
      refine x_icmp_ge dX9_changes_27 (fun b27 => ?_) (fun b27 => ?_)
      · exact K h' sz' hz hX' hF
      · exact absurd (Int32.le_refl _) b27
    · obtain ⟨ow, pr, od, kd, sp, ins, a1, ⟨a10, -⟩, -⟩ := id hX'.1
      obtain ⟨ss, h4⟩ := hX'.2.1.w4
      have ea : aChange d (nI a) (nI b) = chC d a b := by
        have z1 : (0 : Int32) ≤ nI a ∧ nI a < nI (d_H d) := ⟨nI_pos' (by omega), (nI_ltI (by omega) (by omega)).mpr ha⟩
        have z2 : (0 : Int32) ≤ nI b ∧ nI b < nI (d_H d) := ⟨nI_pos' (by omega), (nI_ltI (by omega) (by omega)).mpr hb⟩
        have z3 : nI a ≠ nI b := fun e => by have := (nI_eq (by omega) (by omega)).mp e; omega
        rw [aChange, if_pos ⟨z1, z2, z3⟩, nI_clamp (by omega), nI_clamp (by omega)]; rfl
      have eb : S + chX (chC d) a b + chC d a b = S + chX (chC d) a (b + 1) := by
        rw [chX, chX, accF, if_pos hab, Int32.add_assoc]
      refine x_iload dX9_changes_19 rfl ?_
      refine x_aload dX9_changes_20 rfl ?_
      refine x_get fX9_21 dX9_changes_21 (by first | assumption | rfl | exact up_same | exact (up_ne (by omega)).trans (by assumption) | exact (up_ne (by assumption)).trans (by assumption)) ?_
      refine x_get fX9_197 dX9_changes_24 (by first | assumption | rfl | exact up_same | exact (up_ne (by omega)).trans (by assumption) | exact (up_ne (by assumption)).trans (by assumption)) ?_
      refine x_icmp_ge dX9_changes_27 (fun b27 => ?_) (fun b27 => ?_)
      · exact absurd b27 (nI_ge hb (by omega))
      · refine x_iload dX9_changes_30 rfl ?_
        refine x_aload dX9_changes_31 rfl ?_
        refine x_iload dX9_changes_32 rfl ?_
        refine x_iload dX9_changes_33 rfl ?_
        refine x_V2q lX9_248 (Rm.of rfl) (cc1 := 0) (cn1 := 0) rfl rfl (Nat.le_of_ble_eq_true rfl) dX9_changes_34 (by first | assumption | rfl | exact up_same | exact (up_ne (by omega)).trans (by assumption) | exact (up_ne (by assumption)).trans (by assumption)) (c_change (nI a) (nI b) hX' hd) ?_
        rintro _ h2 sz2 ⟨rfl, hz2, hX2, hF2⟩
        rw [ea]
        refine x_iadd dX9_changes_37 ?_
        rw [eb]
        refine x_istore dX9_changes_38 (Nat.le_of_ble_eq_true rfl) rfl ?_
        refine x_inc1 dX9_changes_39 rfl (Nat.le_of_ble_eq_true rfl) rfl ?_
        refine x_goto dX9_changes_42 ?_
        exact ih h2 sz2 (by omega) (Nat.le_trans hz hz2) hX2 (hF.trans hF2)
  have outer : ∀ a, a ≤ d_H d → ∀ (h' : Hp) (sz' : Nat) (v : Value), sz ≤ sz' → XW h' sz' d → frX h h' → Ex Γ mX9_changes (gx_Z Γ mX9_changes (qW h sz d (accF 0 (fun a => chX (chC d) a (d_H d)) (d_H d)))) 0 0 4 [.ref 4, .int (accF 0 (fun a => chX (chC d) a (d_H d)) a), .int (nI a), v] [] h' sz' := by
    refine loopUp (d_H d) (fun h' sz' v hz hX' hF => ?_) (fun a ha ih h' sz' v hz hX' hF => ?_)
    · obtain ⟨ow, pr, od, kd, sp, ins, a1, ⟨a10, -⟩, -⟩ := id hX'.1
      obtain ⟨ss, h4⟩ := hX'.2.1.w4
      refine x_iload dX9_changes_4 rfl ?_
      refine x_aload dX9_changes_5 rfl ?_
      refine x_get fX9_21 dX9_changes_6 (by first | assumption | rfl | exact up_same | exact (up_ne (by omega)).trans (by assumption) | exact (up_ne (by assumption)).trans (by assumption)) ?_
      refine x_get fX9_197 dX9_changes_9 (by first | assumption | rfl | exact up_same | exact (up_ne (by omega)).trans (by assumption) | exact (up_ne (by assumption)).trans (by assumption)) ?_
      refine x_icmp_ge dX9_changes_12 (fun b12 => ?_) (fun b12 => ?_)
      · refine x_iload dX9_changes_51 rfl ?_
        refine x_iret (ty := .int) dX9_changes_52 rfl rfl (Nat.zero_le _) (Nat.zero_le _) ?_
        exact ⟨rfl, hz, hX', hF⟩
      · exact absurd (Int32.le_refl _) b12
    · obtain ⟨ow, pr, od, kd, sp, ins, a1, ⟨a10, -⟩, -⟩ := id hX'.1
      obtain ⟨ss, h4⟩ := hX'.2.1.w4
      refine x_iload dX9_changes_4 rfl ?_
      refine x_aload dX9_changes_5 rfl ?_
      refine x_get fX9_21 dX9_changes_6 (by first | assumption | rfl | exact up_same | exact (up_ne (by omega)).trans (by assumption) | exact (up_ne (by assumption)).trans (by assumption)) ?_
      refine x_get fX9_197 dX9_changes_9 (by first | assumption | rfl | exact up_same | exact (up_ne (by omega)).trans (by assumption) | exact (up_ne (by assumption)).trans (by assumption)) ?_
      refine x_icmp_ge dX9_changes_12 (fun b12 => ?_) (fun b12 => ?_)
      · exact absurd b12 (nI_ge ha (by omega))
      · refine x_iload dX9_changes_15 rfl ?_
        refine x_k dX9_changes_16 ?_
        refine x_iadd dX9_changes_17 ?_
        rw [nI_1]
        refine x_istore dX9_changes_18 (Nat.le_of_ble_eq_true rfl) rfl ?_
        refine x_eq ?_ rfl rfl (inner a (accF 0 (fun a => chX (chC d) a (d_H d)) a) ha (fun h2 sz2 hz2 hX2 hF2 => ?_) (a + 1) (by omega) h' sz' (by omega) hz hX' hF)
        · have e0 : chX (chC d) a (a + 1) = 0 := accF_zero (fun b hb => if_neg (by omega))
          rw [e0, Int32.add_zero]; rfl
        · rw [accF] at ih
          refine x_inc1 dX9_changes_45 rfl (Nat.le_of_ble_eq_true rfl) rfl ?_
          refine x_goto dX9_changes_48 ?_
          exact ih h2 sz2 _ hz2 hX2 hF2
  refine x_k dX9_changes_0 ?_
  refine x_istore dX9_changes_1 (Nat.le_of_ble_eq_true rfl) rfl ?_
  refine x_k dX9_changes_2 ?_
  refine x_istore dX9_changes_3 (Nat.le_of_ble_eq_true rfl) rfl ?_
  exact outer 0 (Nat.zero_le _) h sz _ (Nat.le_refl _) hX (fun _ _ => rfl)
theorem m_changesNow (hM : MW h d) (hd : okD d) : Rn Γ mX10_changesNow [.ref 57] h sz (qM h sz d (aChanges d)) := by
  refine x_enter 3 (by decide) rfl ?_
  obtain ⟨_, _, _, w57⟩ := hM.w57
  have hH8 : d_H d ≤ 8 := (hN_ok hd.1.1).1
  rw [aChanges, chR]
  refine x_aload dX10_changesNow_0 rfl ?_
  refine x_V0q lX10_118 (Rm.of rfl) (cc1 := 0) (cn1 := 0) rfl rfl (Nat.le_of_ble_eq_true rfl) dX10_changesNow_1 (by first | assumption | rfl | exact up_same | exact (up_ne (by omega)).trans (by assumption) | exact (up_ne (by assumption)).trans (by assumption)) (m_reads hM hd) ?_
  rintro _ h1 _ ⟨rfl, rfl, hM1, hR1, hF1⟩
  refine x_k dX10_changesNow_4 ?_
  refine x_istore dX10_changesNow_5 (Nat.le_of_ble_eq_true rfl) rfl ?_
  refine x_k dX10_changesNow_6 ?_
  refine x_istore dX10_changesNow_7 (Nat.le_of_ble_eq_true rfl) rfl ?_
  obtain ⟨ll, ow, pr, kd, pl, r57, r60, r61, r62, r63, ro, rp⟩ := id hR1
  have outer : ∀ a, a ≤ d_H d → ∀ (v : Value), Ex Γ mX10_changesNow (gx_Z Γ mX10_changesNow (qM h sz d (accF 0 (fun a => accF 0 (chC d a) a) (d_H d)))) 0 0 8 [.ref 57, .int (accF 0 (fun a => accF 0 (chC d a) a) a), .int (nI a), v] [] h1 sz := by
    refine loopUp (d_H d) (fun v => ?_) (fun a ha ih v => ?_)
    · refine x_iload dX10_changesNow_8 rfl ?_
      refine x_aload dX10_changesNow_9 rfl ?_
      refine x_get fX10_96 dX10_changesNow_10 (by first | assumption | rfl | exact up_same | exact (up_ne (by omega)).trans (by assumption) | exact (up_ne (by assumption)).trans (by assumption)) ?_
      refine x_icmp_ge dX10_changesNow_13 (fun b13 => ?_) (fun b13 => ?_)
      · refine x_iload dX10_changesNow_52 rfl ?_
        refine x_iret (ty := .int) dX10_changesNow_53 rfl rfl (Nat.zero_le _) (Nat.zero_le _) ?_
        exact ⟨rfl, rfl, hM1, hF1⟩
      · exact absurd (Int32.le_refl _) b13
    · rw [accF] at ih
      refine x_iload dX10_changesNow_8 rfl ?_
      refine x_aload dX10_changesNow_9 rfl ?_
      refine x_get fX10_96 dX10_changesNow_10 (by first | assumption | rfl | exact up_same | exact (up_ne (by omega)).trans (by assumption) | exact (up_ne (by assumption)).trans (by assumption)) ?_
      refine x_icmp_ge dX10_changesNow_13 (fun b13 => ?_) (fun b13 => ?_)
      · exact absurd b13 (nI_ge ha (by omega))
      · refine x_k dX10_changesNow_16 ?_
        refine x_istore dX10_changesNow_17 (Nat.le_of_ble_eq_true rfl) rfl ?_
        
        refine x_eq ?_ rfl rfl (loopUp (P := fun b => Ex Γ mX10_changesNow _ 0 0 18 [.ref 57, .int (accF 0 (fun a => accF 0 (chC d a) a) a + accF 0 (chC d a) b), .int (nI a), .int (nI b)] [] h1 sz) a ?_ (fun b hb ihb => ?_) 0 (Nat.zero_le _))
        · rw [accF, Int32.add_zero]; rfl
        · refine x_iload dX10_changesNow_18 rfl ?_
          refine x_iload dX10_changesNow_19 rfl ?_
          refine x_icmp_ge dX10_changesNow_20 (fun b20 => ?_) (fun b20 => ?_)
          · refine x_inc1 dX10_changesNow_46 rfl (Nat.le_of_ble_eq_true rfl) rfl ?_
            refine x_goto dX10_changesNow_49 ?_
            exact ih _
          · exact absurd (Int32.le_refl _) b20
        · rw [accF, ← Int32.add_assoc] at ihb
          have ec : chC d a b = bI (chP d a b) := rfl
          refine x_iload dX10_changesNow_18 rfl ?_
          refine x_iload dX10_changesNow_19 rfl ?_
          refine x_icmp_ge dX10_changesNow_20 (fun b20 => ?_) (fun b20 => ?_)
          · exact absurd b20 (nI_ge hb (by omega))
          · refine x_iload dX10_changesNow_23 rfl ?_
            refine x_aload dX10_changesNow_24 rfl ?_
            refine x_iload dX10_changesNow_25 rfl ?_
            refine x_iload dX10_changesNow_26 rfl ?_
            refine x_V2i lX10_211 (Rm.of rfl) (cc1 := 0) (cn1 := 0) rfl rfl (Nat.le_of_ble_eq_true rfl) dX10_changesNow_27 (by first | assumption | rfl | exact up_same | exact (up_ne (by omega)).trans (by assumption) | exact (up_ne (by assumption)).trans (by assumption)) (m_isChange hR1 hM1.w72 hd ha (by omega)) ?_
            refine x_if_eq dX10_changesNow_30 (fun b30 => ?_) (fun b30 => ?_)
            · try simp only [i01, Classical.not_not] at b30
              refine x_k dX10_changesNow_37 ?_
              refine x_iadd dX10_changesNow_38 ?_
              refine x_istore dX10_changesNow_39 (Nat.le_of_ble_eq_true rfl) rfl ?_
              refine x_inc1 dX10_changesNow_40 rfl (Nat.le_of_ble_eq_true rfl) rfl ?_
              refine x_goto dX10_changesNow_43 ?_
              first
                | (have e1 : chC d a b = 1 := by rw [ec]; exact if_pos b30
                   rw [e1] at ihb; exact ihb)
                | (have e1 : chC d a b = 0 := by rw [ec]; exact if_neg b30
                   rw [e1] at ihb; exact ihb)
            · try simp only [i01, Classical.not_not] at b30
              refine x_k dX10_changesNow_33 ?_
              refine x_goto dX10_changesNow_34 ?_
              refine x_iadd dX10_changesNow_38 ?_
              refine x_istore dX10_changesNow_39 (Nat.le_of_ble_eq_true rfl) rfl ?_
              refine x_inc1 dX10_changesNow_40 rfl (Nat.le_of_ble_eq_true rfl) rfl ?_
              refine x_goto dX10_changesNow_43 ?_
              first
                | (have e1 : chC d a b = 1 := by rw [ec]; exact if_pos b30
                   rw [e1] at ihb; exact ihb)
                | (have e1 : chC d a b = 0 := by rw [ec]; exact if_neg b30
                   rw [e1] at ihb; exact ihb)
  exact outer 0 (Nat.zero_le _) _
theorem m_changes (hM : MW h d) (hd : okD d) : Rn Γ mX10_changes [.ref 57] h sz (qM h sz d (aChanges d)) := by
  refine x_enter 0 (by decide) rfl ?_
  obtain ⟨_, _, _, w57⟩ := hM.w57
  refine x_aload dX10_changes_0 rfl ?_
  refine x_V0q lX10_214 (Rm.of rfl) (cc1 := 0) (cn1 := 0) rfl rfl (Nat.le_of_ble_eq_true rfl) dX10_changes_1 (by first | assumption | rfl | exact up_same | exact (up_ne (by omega)).trans (by assumption) | exact (up_ne (by assumption)).trans (by assumption)) (m_changesNow hM hd) ?_
  rintro _ h2 _ hq
  have hq2 := hq
  obtain ⟨rfl, -⟩ := hq
  refine x_iret (ty := .int) dX10_changes_4 rfl rfl (Nat.zero_le _) (Nat.zero_le _) ?_
  exact hq2
end Chs
