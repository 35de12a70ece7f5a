/-! invite -/
theorem ndiff0 {a b : Nat} : ndiff a b = 0 ↔ b &&& a = a := by
  constructor
  · intro z
    apply Nat.eq_of_testBit_eq
    intro i
    have := congrArg (fun x => x.testBit i) z
    simp only [ndiff_bit, Nat.zero_testBit] at this
    rw [Nat.testBit_and]
    cases ha : a.testBit i <;> cases hb : b.testBit i <;> simp_all
  · intro z
    apply Nat.eq_of_testBit_eq
    intro i
    have := congrArg (fun x => x.testBit i) z
    simp only [Nat.testBit_and] at this
    rw [ndiff_bit, Nat.zero_testBit]
    cases ha : a.testBit i <;> cases hb : b.testBit i <;> simp_all
theorem ndiff_le (a b : Nat) : ndiff a b ≤ a := by
  have e : ndiff a b = ndiff a b &&& a := by
    apply Nat.eq_of_testBit_eq
    intro i
    rw [Nat.testBit_and, ndiff_bit]
    cases a.testBit i <;> cases b.testBit i <;> rfl
  rw [e]; exact Nat.and_le_right
theorem ndiff_nI {w x : Nat} (hw : w < 2 ^ 31) : nI (ndiff w x) = 0 ↔ x &&& w = w := by
  have h1 := ndiff_le w x
  have h2 : nI (ndiff w x) = nI 0 ↔ ndiff w x = 0 := nI_eq (by omega) (by omega)
  exact h2.trans ndiff0
theorem wall {w : Int32} {N : Nat} (hN : N ≤ 8) : w &&& (nI (2 ^ N - 1) ^^^ (-1)) = 0 ↔ 0 ≤ w ∧ w ≤ nI (2 ^ N - 1) := by
  have h2 : 2 ^ N ≤ 2 ^ 8 := Nat.pow_le_pow_right (by decide) hN
  have h1 : 0 < 2 ^ N := Nat.two_pow_pos N
  constructor
  · intro z
    have e : w = nI (w.toBitVec.toNat &&& (2 ^ N - 1)) := by
      apply Int32.toBitVec_inj.1
      show w.toBitVec = BitVec.ofNat 32 (w.toBitVec.toNat &&& (2 ^ N - 1))
      apply BitVec.eq_of_getLsbD_eq
      intro i hi
      have z1 := congrArg (fun x => x.toBitVec.getLsbD i) z
      have z2 : (w.toBitVec &&& (BitVec.ofNat 32 (2 ^ N - 1) ^^^ BitVec.allOnes 32)).getLsbD i = (0#32).getLsbD i := z1
      simp only [BitVec.getLsbD_and, BitVec.getLsbD_xor, BitVec.getLsbD_allOnes, BitVec.getLsbD_ofNat, hi, decide_true, Bool.true_and, Nat.testBit_two_pow_sub_one, BitVec.getLsbD_zero] at z2
      simp only [BitVec.getLsbD_ofNat, hi, decide_true, Bool.true_and, Nat.testBit_and, Nat.testBit_two_pow_sub_one, BitVec.testBit_toNat]
      cases hb : w.toBitVec.getLsbD i with
      | false => rfl
      | true =>
        rw [hb] at z2
        by_cases hiN : i < N
        · simp [hiN]
        · simp [hiN] at z2
    have hle : w.toBitVec.toNat &&& (2 ^ N - 1) ≤ 2 ^ N - 1 := Nat.and_le_right
    rw [e]
    exact ⟨nI_pos' (by omega), (nI_leI (by omega) (by omega)).mpr hle⟩
  · rintro ⟨z1, z2⟩
    obtain ⟨m, hm, rfl⟩ := upto z1 z2 (by omega)
    rw [fa_diff]
    have : ndiff m (2 ^ N - 1) = 0 := ndiff0.mpr (by rw [Nat.and_comm, Nat.and_two_pow_sub_one_of_lt_two_pow (by omega)])
    rw [this]; rfl
abbrev okW (n b : Nat) : Prop := b = 256 ∨ pop n < pop b
abbrev okF (host w n : Nat) : Prop := n &&& w = w ∧ n.testBit host = false
abbrev okI (d : DT) (host w n b : Nat) : Prop := okF host w n ∧ okW n b ∧ comN d host n &&& w = w
def invB (d : DT) (host w : Nat) : Nat → Nat
  | 0 => 256
  | n + 1 => if okI d host w n (invB d host w n) then n else invB d host w n
def bv (b : Nat) : Int32 := if b = 256 then -1 else nI b
theorem bv_lt {b : Nat} (hb : b < 256) : bv b = nI b := if_neg (by omega)
theorem bv_m1 {b : Nat} (hb : b ≤ 256) : bv b = -1 ↔ b = 256 := by
  by_cases z : b = 256
  · exact ⟨fun _ => z, fun _ => if_pos z⟩
  · rw [bv, if_neg z]; exact ⟨fun y => absurd y (nI_nm1 (by omega)), fun y => absurd y z⟩
theorem invB_le (d : DT) (host w : Nat) : ∀ n, n ≤ 256 → invB d host w n ≤ 256
  | 0, _ => Nat.le_refl _
  | n + 1, h => by
    rw [invB]
    split
    · omega
    · exact invB_le d host w n (by omega)
theorem invB_low (d : DT) (host w : Nat) : ∀ n, n ≤ w → invB d host w n = 256
  | 0, _ => rfl
  | n + 1, h => by
    rw [invB, invB_low d host w n (by omega), if_neg]
    rintro ⟨⟨z, -⟩, -⟩
    have : n &&& w ≤ n := Nat.and_le_left
    omega
theorem ones_pop {b : Nat} (hb : b < 256) : accF 0 (fun k => (nI b >>> (nI k &&& 31)) &&& 1) 9 = nI (pop b) := by
  have : ∀ b : Nat, b < 256 → accF 0 (fun k => (nI b >>> (nI k &&& 31)) &&& 1) 9 = nI (pop b) := by decide +kernel
  exact this b hb
theorem ones_bv {b : Nat} (hb : b < 256) : accF 0 (fun k => (bv b >>> (nI k &&& 31)) &&& 1) 9 = nI (pop b) := by
  rw [bv_lt hb]; exact ones_pop hb
abbrev cInv (d : DT) (t w : Int32) : Prop := (0 ≤ t ∧ t < nI (d_N d)) ∧ (0 ≤ w ∧ w ≤ nI (allN d)) ∧ ¬ (w >>> (t &&& 31)) &&& 1 = 1
def aInvite (d : DT) (t w : Int32) : Int32 := if cInv d t w then bv (invB d t.toNatClampNeg w.toNatClampNeg (allN d + 1)) else -2
section Inv
variable {Γ : GX} {h : Hp} {sz : Nat} {d : DT}
theorem r_bitCountV {b : Nat} (hb : b < 256) : Re Γ mJ6_bitCount_0f7a4 [.int (bv b)] h sz (some (.int (nI (pop b)))) h sz := by
  rw [bv_lt hb]; exact r_bitCount hb
theorem c_invOk {host w : Nat} (hX : XW h sz d) (hd : okD d) (hh : host < 8) (hw : w ≤ allN d) : Ex Γ mX9_invite (gx_Z Γ mX9_invite (qW h sz d (bv (invB d host w (allN d + 1))))) 0 0 31 [.ref 4, .int (nI host), .int (nI w), .retAddr 0, .retAddr 0, .retAddr 0, .retAddr 0, .retAddr 0] [] h sz := by
  obtain ⟨hA, hK, hR, hD⟩ := id hX
  obtain ⟨ow, pr, od, kd, sp, ins, a1, ⟨a10, -⟩, -⟩ := id hA
  obtain ⟨ss, h4⟩ := hK.w4
  have hP8 : d_N d ≤ 8 := (pN_ok hd.1.2.1).1
  have hal := allN_lt hd
  have all : ∀ n, n ≤ allN d + 1 → ∀ v u : Value, Ex Γ mX9_invite (gx_Z Γ mX9_invite (qW h sz d (bv (invB d host w (allN d + 1))))) 0 0 42 [.ref 4, .int (nI host), .int (nI w), .int (bv (invB d host w n)), .int (nI (allN d)), .int (nI n), v, u] [] h sz := by
    refine loopUp (allN d + 1) (fun v u => ?_) (fun n hn ih v u => ?_)
    · refine x_iload dX9_invite_42 rfl ?_
      refine x_iload dX9_invite_44 rfl ?_
      refine x_icmp_gt dX9_invite_46 (fun b46 => ?_) (fun b46 => ?_)
      · refine x_iload dX9_invite_129 rfl ?_
        refine x_iret (ty := .int) dX9_invite_130 rfl rfl (Nat.zero_le _) (Nat.zero_le _) ?_
        exact ⟨rfl, Nat.le_refl _, hX, fun _ _ => rfl⟩
      · exact absurd (nI_lt (by omega) (by omega)) b46
    · have hb := invB_le d host w n (by omega)
      have ein : invB d host w (n + 1) = if okI d host w n (invB d host w n) then n else invB d host w n := rfl
      rw [ein] at ih
      clear ein
      generalize eb : invB d host w n = b at *
      have hcl := comN_lt hd host n
      have ec : nI (comN d host n &&& w) = nI w ↔ comN d host n &&& w = w := nI_eq (Nat.lt_of_le_of_lt Nat.and_le_right (by omega)) (by omega)
      have ef : nI (n &&& w) = nI w ↔ n &&& w = w := nI_eq (Nat.lt_of_le_of_lt Nat.and_le_right (by omega)) (by omega)
      have eh := bitN0 (m := n) (k := host) (by omega) (by omega)
      have J97 : Ex Γ mX9_invite (gx_Z Γ mX9_invite (qW h sz d (bv (invB d host w (allN d + 1))))) 0 0 97 [.ref 4, .int (nI host), .int (nI w), .int (bv b), .int (nI (allN d)), .int (nI n), .int (bI (okF host w n)), .int (bI (okW n b))] [] h sz := by
        refine x_iload dX9_invite_97 rfl ?_
        refine x_if_eq dX9_invite_99 (fun b99 => ?_) (fun b99 => ?_)
        · refine x_inc1 dX9_invite_123 rfl (Nat.le_of_ble_eq_true rfl) rfl ?_
          refine x_goto dX9_invite_126 ?_
          first
            | (have hz : okI d host w n b := ⟨Classical.not_not.mp (fun z => b99 (i01.mpr z)), Classical.not_not.mp (fun z => b104 (i01.mpr z)), ec.mp (Classical.not_not.mp b117)⟩
               rw [if_pos hz, bv_lt (b := n) (by omega)] at ih; exact ih _ _)
            | (have hz : ¬ okI d host w n b := fun z => b117 (ec.mpr z.2.2)
               rw [if_neg hz] at ih; exact ih _ _)
            | (have hz : ¬ okI d host w n b := fun z => i01.mp b104 z.2.1
               rw [if_neg hz] at ih; exact ih _ _)
            | (have hz : ¬ okI d host w n b := fun z => i01.mp b99 z.1
               rw [if_neg hz] at ih; exact ih _ _)
        · refine x_iload dX9_invite_102 rfl ?_
          refine x_if_eq dX9_invite_104 (fun b104 => ?_) (fun b104 => ?_)
          · refine x_inc1 dX9_invite_123 rfl (Nat.le_of_ble_eq_true rfl) rfl ?_
            refine x_goto dX9_invite_126 ?_
            first
              | (have hz : okI d host w n b := ⟨Classical.not_not.mp (fun z => b99 (i01.mpr z)), Classical.not_not.mp (fun z => b104 (i01.mpr z)), ec.mp (Classical.not_not.mp b117)⟩
                 rw [if_pos hz, bv_lt (b := n) (by omega)] at ih; exact ih _ _)
              | (have hz : ¬ okI d host w n b := fun z => b117 (ec.mpr z.2.2)
                 rw [if_neg hz] at ih; exact ih _ _)
              | (have hz : ¬ okI d host w n b := fun z => i01.mp b104 z.2.1
                 rw [if_neg hz] at ih; exact ih _ _)
              | (have hz : ¬ okI d host w n b := fun z => i01.mp b99 z.1
                 rw [if_neg hz] at ih; exact ih _ _)
          · refine x_aload dX9_invite_107 rfl ?_
            refine x_iload dX9_invite_108 rfl ?_
            refine x_iload dX9_invite_109 rfl ?_
            refine x_V2i lX9_264 (Rm.of rfl) (cc1 := 0) (cn1 := 0) rfl rfl (Nat.le_of_ble_eq_true rfl) dX9_invite_111 (by first | assumption | rfl | exact up_same | exact (up_ne (by omega)).trans (by assumption) | exact (up_ne (by assumption)).trans (by assumption)) (r_comers hA hK hd hh (by omega)) ?_
            refine x_iload dX9_invite_114 rfl ?_
            refine x_iand dX9_invite_115 ?_
            rw [fa_and]
            refine x_iload dX9_invite_116 rfl ?_
            refine x_icmp_ne dX9_invite_117 (fun b117 => ?_) (fun b117 => ?_)
            · refine x_inc1 dX9_invite_123 rfl (Nat.le_of_ble_eq_true rfl) rfl ?_
              refine x_goto dX9_invite_126 ?_
              first
                | (have hz : okI d host w n b := ⟨Classical.not_not.mp (fun z => b99 (i01.mpr z)), Classical.not_not.mp (fun z => b104 (i01.mpr z)), ec.mp (Classical.not_not.mp b117)⟩
                   rw [if_pos hz, bv_lt (b := n) (by omega)] at ih; exact ih _ _)
                | (have hz : ¬ okI d host w n b := fun z => b117 (ec.mpr z.2.2)
                   rw [if_neg hz] at ih; exact ih _ _)
                | (have hz : ¬ okI d host w n b := fun z => i01.mp b104 z.2.1
                   rw [if_neg hz] at ih; exact ih _ _)
                | (have hz : ¬ okI d host w n b := fun z => i01.mp b99 z.1
                   rw [if_neg hz] at ih; exact ih _ _)
            · refine x_iload dX9_invite_120 rfl ?_
              refine x_istore dX9_invite_122 (Nat.le_of_ble_eq_true rfl) rfl ?_
              refine x_inc1 dX9_invite_123 rfl (Nat.le_of_ble_eq_true rfl) rfl ?_
              refine x_goto dX9_invite_126 ?_
              first
                | (have hz : okI d host w n b := ⟨Classical.not_not.mp (fun z => b99 (i01.mpr z)), Classical.not_not.mp (fun z => b104 (i01.mpr z)), ec.mp (Classical.not_not.mp b117)⟩
                   rw [if_pos hz, bv_lt (b := n) (by omega)] at ih; exact ih _ _)
                | (have hz : ¬ okI d host w n b := fun z => b117 (ec.mpr z.2.2)
                   rw [if_neg hz] at ih; exact ih _ _)
                | (have hz : ¬ okI d host w n b := fun z => i01.mp b104 z.2.1
                   rw [if_neg hz] at ih; exact ih _ _)
                | (have hz : ¬ okI d host w n b := fun z => i01.mp b99 z.1
                   rw [if_neg hz] at ih; exact ih _ _)
      have J95 : ∀ x : Int32, x = bI (okW n b) → Ex Γ mX9_invite (gx_Z Γ mX9_invite (qW h sz d (bv (invB d host w (allN d + 1))))) 0 0 95 [.ref 4, .int (nI host), .int (nI w), .int (bv b), .int (nI (allN d)), .int (nI n), .int (bI (okF host w n)), u] [.int x] h sz := by
        intro x hx
        rw [hx]
        refine x_istore dX9_invite_95 (Nat.le_of_ble_eq_true rfl) rfl ?_
        exact J97
      have J71 : ∀ x : Int32, x = bI (okF host w n) → Ex Γ mX9_invite (gx_Z Γ mX9_invite (qW h sz d (bv (invB d host w (allN d + 1))))) 0 0 71 [.ref 4, .int (nI host), .int (nI w), .int (bv b), .int (nI (allN d)), .int (nI n), v, u] [.int x] h sz := by
        intro x hx
        rw [hx]
        by_cases hz : b = 256
        · have hm : bv b = -1 := (bv_m1 hb).mpr hz
          refine x_istore dX9_invite_71 (Nat.le_of_ble_eq_true rfl) rfl ?_
          refine x_iload dX9_invite_73 rfl ?_
          refine x_k dX9_invite_74 ?_
          refine x_icmp_eq dX9_invite_75 (fun b75 => ?_) (fun b75 => ?_)
          · refine x_k dX9_invite_90 ?_
            refine x_goto dX9_invite_91 ?_
            exact J95 _ (if_pos (Or.inl hz)).symm
          · exact absurd hm b75
        · have hm : ¬ bv b = -1 := fun z => hz ((bv_m1 hb).mp z)
          have p1 := pop_le n
          have p2 := pop_le b
          have el : nI (pop b) ≤ nI (pop n) ↔ pop b ≤ pop n := nI_leI (by omega) (by omega)
          refine x_istore dX9_invite_71 (Nat.le_of_ble_eq_true rfl) rfl ?_
          refine x_iload dX9_invite_73 rfl ?_
          refine x_k dX9_invite_74 ?_
          refine x_icmp_eq dX9_invite_75 (fun b75 => ?_) (fun b75 => ?_)
          · exact absurd b75 hm
          · refine x_iload dX9_invite_78 rfl ?_
            refine x_S1i lX9_267 (Rm.of rfl) (cc1 := 0) (cn1 := 0) rfl rfl (Nat.le_of_ble_eq_true rfl) dX9_invite_80 (r_bitCount (n := n) (by omega)) ?_
            refine x_iload dX9_invite_83 rfl ?_
            refine x_S1i lX9_267 (Rm.of rfl) (cc1 := 0) (cn1 := 0) rfl rfl (Nat.le_of_ble_eq_true rfl) dX9_invite_84 (r_bitCountV (b := b) (by omega)) ?_
            refine x_icmp_ge dX9_invite_87 (fun b87 => ?_) (fun b87 => ?_)
            · refine x_k dX9_invite_94 ?_
              refine J95 _ ?_
              first
                | exact (if_neg (fun z => z.elim hz (fun y => absurd (el.mp b87) (by omega)))).symm
                | exact (if_pos (Or.inr (Nat.not_le.mp (fun z => b87 (el.mpr z))))).symm
            · refine x_k dX9_invite_90 ?_
              refine x_goto dX9_invite_91 ?_
              refine J95 _ ?_
              first
                | exact (if_neg (fun z => z.elim hz (fun y => absurd (el.mp b87) (by omega)))).symm
                | exact (if_pos (Or.inr (Nat.not_le.mp (fun z => b87 (el.mpr z))))).symm
      refine x_iload dX9_invite_42 rfl ?_
      refine x_iload dX9_invite_44 rfl ?_
      refine x_icmp_gt dX9_invite_46 (fun b46 => ?_) (fun b46 => ?_)
      · exact absurd b46 (Int32.not_lt.mpr ((nI_leI (by omega) (by omega)).mpr (by omega)))
      · refine x_iload dX9_invite_49 rfl ?_
        refine x_iload dX9_invite_51 rfl ?_
        refine x_iand dX9_invite_52 ?_
        rw [fa_and]
        refine x_iload dX9_invite_53 rfl ?_
        refine x_icmp_ne dX9_invite_54 (fun b54 => ?_) (fun b54 => ?_)
        · refine x_k dX9_invite_70 ?_
          refine J71 _ ?_
          first
            | exact (if_pos ⟨ef.mp (Classical.not_not.mp b54), eh.mp (Classical.not_not.mp b63)⟩).symm
            | exact (if_neg (fun z => b63 (eh.mpr z.2))).symm
            | exact (if_neg (fun z => b54 (ef.mpr z.1))).symm
        · refine x_iload dX9_invite_57 rfl ?_
          refine x_iload dX9_invite_59 rfl ?_
          refine x_ishr dX9_invite_60 ?_
          refine x_k dX9_invite_61 ?_
          refine x_iand dX9_invite_62 ?_
          refine x_if_ne dX9_invite_63 (fun b63 => ?_) (fun b63 => ?_)
          · refine x_k dX9_invite_70 ?_
            refine J71 _ ?_
            first
              | exact (if_pos ⟨ef.mp (Classical.not_not.mp b54), eh.mp (Classical.not_not.mp b63)⟩).symm
              | exact (if_neg (fun z => b63 (eh.mpr z.2))).symm
              | exact (if_neg (fun z => b54 (ef.mpr z.1))).symm
          · refine x_k dX9_invite_66 ?_
            refine x_goto dX9_invite_67 ?_
            refine J71 _ ?_
            first
              | exact (if_pos ⟨ef.mp (Classical.not_not.mp b54), eh.mp (Classical.not_not.mp b63)⟩).symm
              | exact (if_neg (fun z => b63 (eh.mpr z.2))).symm
              | exact (if_neg (fun z => b54 (ef.mpr z.1))).symm
  refine x_k dX9_invite_31 ?_
  refine x_istore dX9_invite_32 (Nat.le_of_ble_eq_true rfl) rfl ?_
  refine x_aload dX9_invite_33 rfl ?_
  refine x_V0i lX9_261 (Rm.of rfl) (cc1 := 0) (cn1 := 0) rfl rfl (Nat.le_of_ble_eq_true rfl) dX9_invite_34 (by first | assumption | rfl | exact up_same | exact (up_ne (by omega)).trans (by assumption) | exact (up_ne (by assumption)).trans (by assumption)) (r_everybody h4 a10) ?_
  rw [everyB hP8]
  refine x_istore dX9_invite_37 (Nat.le_of_ble_eq_true rfl) rfl ?_
  refine x_iload dX9_invite_39 rfl ?_
  refine x_istore dX9_invite_40 (Nat.le_of_ble_eq_true rfl) rfl ?_
  refine x_eq ?_ rfl rfl (all w (by omega) (.retAddr 0) (.retAddr 0))
  rw [invB_low d host w w (Nat.le_refl _)]; rfl
theorem c_invite (t w : Int32) (hX : XW h sz d) (hd : okD d) : Rn Γ mX9_invite [.ref 4, .int t, .int w] h sz (qW h sz d (aInvite d t w)) := by
  refine x_enter 5 (by decide) rfl ?_
  obtain ⟨hA, hK, hR, hD⟩ := id hX
  obtain ⟨ow, pr, od, kd, sp, ins, a1, ⟨a10, -⟩, -⟩ := id hA
  obtain ⟨ss, h4⟩ := hK.w4
  have hP8 : d_N d ≤ 8 := (pN_ok hd.1.2.1).1
  have hal := allN_lt hd
  have ew : w &&& (nI (2 ^ d_N d - 1) ^^^ (-1)) = 0 ↔ 0 ≤ w ∧ w ≤ nI (allN d) := wall hP8
  have J31 : cInv d t w → Ex Γ mX9_invite (gx_Z Γ mX9_invite (qW h sz d (aInvite d t w))) 0 0 31 [.ref 4, .int t, .int w, .retAddr 0, .retAddr 0, .retAddr 0, .retAddr 0, .retAddr 0] [] h sz := by
    intro hc
    obtain ⟨i, hi, rfl⟩ := below hc.1.1 hc.1.2 (by omega)
    obtain ⟨m, hm, rfl⟩ := upto hc.2.1.1 hc.2.1.2 (by omega)
    rw [aInvite, if_pos hc, nI_clamp (by omega), nI_clamp (by omega)]
    exact c_invOk hX hd (by omega) hm
  refine x_aload dX9_invite_0 rfl ?_
  refine x_iload dX9_invite_1 rfl ?_
  refine x_V1i lX9_115 (Rm.of rfl) (cc1 := 0) (cn1 := 0) rfl rfl (Nat.le_of_ble_eq_true rfl) dX9_invite_2 (by first | assumption | rfl | exact up_same | exact (up_ne (by omega)).trans (by assumption) | exact (up_ne (by assumption)).trans (by assumption)) (r_nobody h4 a10 t) ?_
  refine x_if_ne dX9_invite_5 (fun b5 => ?_) (fun b5 => ?_)
  · try simp only [i01, Classical.not_not] at b5
    refine x_k dX9_invite_28 ?_
    refine x_iret (ty := .int) dX9_invite_30 rfl rfl (Nat.zero_le _) (Nat.zero_le _) ?_
    have hc : ¬ cInv d t w := by
      rintro ⟨⟨z1, z2⟩, z4, z5⟩
      first
        | exact z5 (Classical.not_not.mp b25)
        | exact b16 (ew.mpr z4)
        | exact b5.elim (fun y => Int32.not_lt.mpr z1 y) (fun y => Int32.not_le.mpr z2 y)
    exact ⟨by rw [aInvite, if_neg hc], Nat.le_refl _, hX, fun _ _ => rfl⟩
  · try simp only [i01, Classical.not_not] at b5
    refine x_iload dX9_invite_8 rfl ?_
    refine x_aload dX9_invite_9 rfl ?_
    refine x_V0i lX9_261 (Rm.of rfl) (cc1 := 0) (cn1 := 0) rfl rfl (Nat.le_of_ble_eq_true rfl) dX9_invite_10 (by first | assumption | rfl | exact up_same | exact (up_ne (by omega)).trans (by assumption) | exact (up_ne (by assumption)).trans (by assumption)) (r_everybody h4 a10) ?_
    rw [everyB hP8]
    refine x_k dX9_invite_13 ?_
    refine x_ixor dX9_invite_14 ?_
    refine x_iand dX9_invite_15 ?_
    refine x_if_ne dX9_invite_16 (fun b16 => ?_) (fun b16 => ?_)
    · refine x_k dX9_invite_28 ?_
      refine x_iret (ty := .int) dX9_invite_30 rfl rfl (Nat.zero_le _) (Nat.zero_le _) ?_
      have hc : ¬ cInv d t w := by
        rintro ⟨⟨z1, z2⟩, z4, z5⟩
        first
          | exact z5 (Classical.not_not.mp b25)
          | exact b16 (ew.mpr z4)
          | exact b5.elim (fun y => Int32.not_lt.mpr z1 y) (fun y => Int32.not_le.mpr z2 y)
      exact ⟨by rw [aInvite, if_neg hc], Nat.le_refl _, hX, fun _ _ => rfl⟩
    · refine x_iload dX9_invite_19 rfl ?_
      refine x_iload dX9_invite_20 rfl ?_
      refine x_ishr dX9_invite_21 ?_
      refine x_k dX9_invite_22 ?_
      refine x_iand dX9_invite_23 ?_
      refine x_k dX9_invite_24 ?_
      refine x_icmp_ne dX9_invite_25 (fun b25 => ?_) (fun b25 => ?_)
      · exact J31 ⟨⟨Int32.not_lt.mp (fun y => b5 (Or.inl y)), Int32.not_le.mp (fun y => b5 (Or.inr y))⟩, ew.mp (Classical.not_not.mp b16), b25⟩
      · refine x_k dX9_invite_28 ?_
        refine x_iret (ty := .int) dX9_invite_30 rfl rfl (Nat.zero_le _) (Nat.zero_le _) ?_
        have hc : ¬ cInv d t w := by
          rintro ⟨⟨z1, z2⟩, z4, z5⟩
          first
            | exact z5 (Classical.not_not.mp b25)
            | exact b16 (ew.mpr z4)
            | exact b5.elim (fun y => Int32.not_lt.mpr z1 y) (fun y => Int32.not_le.mpr z2 y)
        exact ⟨by rw [aInvite, if_neg hc], Nat.le_refl _, hX, fun _ _ => rfl⟩
theorem m_inviteOf {hs sa ll fa fi : Int32} {host w : Nat} (h57 : h 57 = cM hs (nI (d_N d)) sa ll fa fi) (h73 : h 73 = ia 64 (d_l d)) (hd : okD d) (hh : host < 8) (hw : w ≤ allN d) : Re Γ mX10_inviteOf [.ref 57, .int (nI host), .int (nI w)] h sz (some (.int (bv (invB d host w (allN d + 1))))) h sz := by
  refine x_enter 3 (by decide) rfl ?_
  have hP8 : d_N d ≤ 8 := (pN_ok hd.1.2.1).1
  have hal := allN_lt hd
  have hpw : 2 ^ d_N d = allN d + 1 := by have := Nat.two_pow_pos (d_N d); rw [allN]; omega
  have all : ∀ n, n ≤ allN d + 1 → ∀ v : Value, Ex Γ mX10_inviteOf (gx_Z Γ mX10_inviteOf (fun r' h' sz' => r' = some (.int (bv (invB d host w (allN d + 1)))) ∧ h' = h ∧ sz' = sz)) 0 0 5 [.ref 57, .int (nI host), .int (nI w), .int (bv (invB d host w n)), .int (nI n), v] [] h sz := by
    refine loopUp (allN d + 1) (fun v => ?_) (fun n hn ih v => ?_)
    · refine x_iload dX10_inviteOf_5 rfl ?_
      refine x_k dX10_inviteOf_7 ?_
      refine x_aload dX10_inviteOf_8 rfl ?_
      refine x_get fX10_104 dX10_inviteOf_9 (by first | assumption | rfl | exact up_same | exact (up_ne (by omega)).trans (by assumption) | exact (up_ne (by assumption)).trans (by assumption)) ?_
      refine x_ishl dX10_inviteOf_12 ?_
      rw [shl1 (by omega), hpw]
      refine x_icmp_ge dX10_inviteOf_13 (fun b13 => ?_) (fun b13 => ?_)
      · refine x_iload dX10_inviteOf_90 rfl ?_
        refine x_iret (ty := .int) dX10_inviteOf_91 rfl rfl (Nat.zero_le _) (Nat.zero_le _) ?_
        exact ⟨rfl, rfl, rfl⟩
      · exact absurd (Int32.le_refl _) b13
    · have hb := invB_le d host w n (by omega)
      have ein : invB d host w (n + 1) = if okI d host w n (invB d host w n) then n else invB d host w n := rfl
      rw [ein] at ih
      clear ein
      generalize eb : invB d host w n = b at *
      have hcl := comN_lt hd host n
      have nd : ∀ x, x ≤ 256 → (nI (ndiff w x) = 0 ↔ x &&& w = w) := fun x _ => ndiff_nI (by omega)
      have ndn := nd n (by omega)
      have eh := bitN1 (m := n) (k := host) (by omega) (by omega)
      have J56 : ∀ x : Int32, x = bI (okF host w n ∧ okW n b) → Ex Γ mX10_inviteOf (gx_Z Γ mX10_inviteOf (fun r' h' sz' => r' = some (.int (bv (invB d host w (allN d + 1)))) ∧ h' = h ∧ sz' = sz)) 0 0 56 [.ref 57, .int (nI host), .int (nI w), .int (bv b), .int (nI n), v] [.int x] h sz := by
        intro x hx
        rw [hx]
        refine x_istore dX10_inviteOf_56 (Nat.le_of_ble_eq_true rfl) rfl ?_
        refine x_iload dX10_inviteOf_58 rfl ?_
        refine x_if_eq dX10_inviteOf_60 (fun b60 => ?_) (fun b60 => ?_)
        · refine x_iload dX10_inviteOf_82 rfl ?_
          refine x_istore dX10_inviteOf_83 (Nat.le_of_ble_eq_true rfl) rfl ?_
          refine x_inc1 dX10_inviteOf_84 rfl (Nat.le_of_ble_eq_true rfl) rfl ?_
          refine x_goto dX10_inviteOf_87 ?_
          first
            | (have hz : okI d host w n b := ⟨(Classical.not_not.mp (fun z => b60 (i01.mpr z))).1, (Classical.not_not.mp (fun z => b60 (i01.mpr z))).2, (nd _ (by omega)).mp (Classical.not_not.mp b74)⟩
               rw [if_pos hz, bv_lt (b := n) (by omega)] at ih; exact ih _)
            | (have hz : ¬ okI d host w n b := fun z => b74 ((nd _ (by omega)).mpr z.2.2)
               rw [if_neg hz] at ih; exact ih _)
            | (have hz : ¬ okI d host w n b := fun z => i01.mp b60 ⟨z.1, z.2.1⟩
               rw [if_neg hz] at ih; exact ih _)
        · refine x_iload dX10_inviteOf_63 rfl ?_
          refine x_aload dX10_inviteOf_64 rfl ?_
          refine x_iload dX10_inviteOf_65 rfl ?_
          refine x_iload dX10_inviteOf_66 rfl ?_
          refine x_V2i lX10_226 (Rm.of rfl) (cc1 := 0) (cn1 := 0) rfl rfl (Nat.le_of_ble_eq_true rfl) dX10_inviteOf_68 (by first | assumption | rfl | exact up_same | exact (up_ne (by omega)).trans (by assumption) | exact (up_ne (by assumption)).trans (by assumption)) (m_comeOf h57 h73 hd hh (by omega)) ?_
          refine x_k dX10_inviteOf_71 ?_
          refine x_ixor dX10_inviteOf_72 ?_
          refine x_iand dX10_inviteOf_73 ?_
          rw [fa_diff]
          refine x_if_ne dX10_inviteOf_74 (fun b74 => ?_) (fun b74 => ?_)
          · refine x_iload dX10_inviteOf_82 rfl ?_
            refine x_istore dX10_inviteOf_83 (Nat.le_of_ble_eq_true rfl) rfl ?_
            refine x_inc1 dX10_inviteOf_84 rfl (Nat.le_of_ble_eq_true rfl) rfl ?_
            refine x_goto dX10_inviteOf_87 ?_
            first
              | (have hz : okI d host w n b := ⟨(Classical.not_not.mp (fun z => b60 (i01.mpr z))).1, (Classical.not_not.mp (fun z => b60 (i01.mpr z))).2, (nd _ (by omega)).mp (Classical.not_not.mp b74)⟩
                 rw [if_pos hz, bv_lt (b := n) (by omega)] at ih; exact ih _)
              | (have hz : ¬ okI d host w n b := fun z => b74 ((nd _ (by omega)).mpr z.2.2)
                 rw [if_neg hz] at ih; exact ih _)
              | (have hz : ¬ okI d host w n b := fun z => i01.mp b60 ⟨z.1, z.2.1⟩
                 rw [if_neg hz] at ih; exact ih _)
          · refine x_iload dX10_inviteOf_77 rfl ?_
            refine x_goto dX10_inviteOf_79 ?_
            refine x_istore dX10_inviteOf_83 (Nat.le_of_ble_eq_true rfl) rfl ?_
            refine x_inc1 dX10_inviteOf_84 rfl (Nat.le_of_ble_eq_true rfl) rfl ?_
            refine x_goto dX10_inviteOf_87 ?_
            first
              | (have hz : okI d host w n b := ⟨(Classical.not_not.mp (fun z => b60 (i01.mpr z))).1, (Classical.not_not.mp (fun z => b60 (i01.mpr z))).2, (nd _ (by omega)).mp (Classical.not_not.mp b74)⟩
                 rw [if_pos hz, bv_lt (b := n) (by omega)] at ih; exact ih _)
              | (have hz : ¬ okI d host w n b := fun z => b74 ((nd _ (by omega)).mpr z.2.2)
                 rw [if_neg hz] at ih; exact ih _)
              | (have hz : ¬ okI d host w n b := fun z => i01.mp b60 ⟨z.1, z.2.1⟩
                 rw [if_neg hz] at ih; exact ih _)
      have hf : n.testBit host = false ↔ ¬ (nI n >>> (nI host &&& 31)) &&& 1 = 1 := by rw [eh, Bool.not_eq_true]
      by_cases hz : b = 256
      · have hm : bv b = -1 := (bv_m1 hb).mpr hz
        refine x_iload dX10_inviteOf_5 rfl ?_
        refine x_k dX10_inviteOf_7 ?_
        refine x_aload dX10_inviteOf_8 rfl ?_
        refine x_get fX10_104 dX10_inviteOf_9 (by first | assumption | rfl | exact up_same | exact (up_ne (by omega)).trans (by assumption) | exact (up_ne (by assumption)).trans (by assumption)) ?_
        refine x_ishl dX10_inviteOf_12 ?_
        rw [shl1 (by omega), hpw]
        refine x_icmp_ge dX10_inviteOf_13 (fun b13 => ?_) (fun b13 => ?_)
        · exact absurd b13 (nI_ge hn (by omega))
        · refine x_iload dX10_inviteOf_16 rfl ?_
          refine x_iload dX10_inviteOf_18 rfl ?_
          refine x_S2i lX10_149 (Rm.of rfl) (cc1 := 0) (cn1 := 0) rfl rfl (Nat.le_of_ble_eq_true rfl) dX10_inviteOf_19 (r_isIn (nI n) (nI host)) ?_
          refine x_if_ne dX10_inviteOf_22 (fun b22 => ?_) (fun b22 => ?_)
          · try simp only [i01, Classical.not_not] at b22
            refine x_k dX10_inviteOf_55 ?_
            refine J56 _ ?_
            first
              | (have hy : ¬ (okF host w n ∧ okW n b) := fun z => hf.mp z.1.2 b22
                 exact (if_neg hy).symm)
              | (have hy : ¬ (okF host w n ∧ okW n b) := fun z => b31 (ndn.mpr z.1.1)
                 exact (if_neg hy).symm)
              | (have hy : okF host w n ∧ okW n b := ⟨⟨ndn.mp (Classical.not_not.mp b31), hf.mpr b22⟩, Or.inl hz⟩
                 exact (if_pos hy).symm)
          · try simp only [i01, Classical.not_not] at b22
            refine x_iload dX10_inviteOf_25 rfl ?_
            refine x_iload dX10_inviteOf_26 rfl ?_
            refine x_k dX10_inviteOf_28 ?_
            refine x_ixor dX10_inviteOf_29 ?_
            refine x_iand dX10_inviteOf_30 ?_
            rw [fa_diff]
            refine x_if_ne dX10_inviteOf_31 (fun b31 => ?_) (fun b31 => ?_)
            · refine x_k dX10_inviteOf_55 ?_
              refine J56 _ ?_
              first
                | (have hy : ¬ (okF host w n ∧ okW n b) := fun z => hf.mp z.1.2 b22
                   exact (if_neg hy).symm)
                | (have hy : ¬ (okF host w n ∧ okW n b) := fun z => b31 (ndn.mpr z.1.1)
                   exact (if_neg hy).symm)
                | (have hy : okF host w n ∧ okW n b := ⟨⟨ndn.mp (Classical.not_not.mp b31), hf.mpr b22⟩, Or.inl hz⟩
                   exact (if_pos hy).symm)
            · refine x_iload dX10_inviteOf_34 rfl ?_
              refine x_k dX10_inviteOf_35 ?_
              refine x_icmp_eq dX10_inviteOf_36 (fun b36 => ?_) (fun b36 => ?_)
              · refine x_k dX10_inviteOf_51 ?_
                refine x_goto dX10_inviteOf_52 ?_
                refine J56 _ ?_
                first
                  | (have hy : ¬ (okF host w n ∧ okW n b) := fun z => hf.mp z.1.2 b22
                     exact (if_neg hy).symm)
                  | (have hy : ¬ (okF host w n ∧ okW n b) := fun z => b31 (ndn.mpr z.1.1)
                     exact (if_neg hy).symm)
                  | (have hy : okF host w n ∧ okW n b := ⟨⟨ndn.mp (Classical.not_not.mp b31), hf.mpr b22⟩, Or.inl hz⟩
                     exact (if_pos hy).symm)
              · exact absurd hm b36
      · have hm : ¬ bv b = -1 := fun z => hz ((bv_m1 hb).mp z)
        have p1 := pop_le n
        have p2 := pop_le b
        have el : nI (pop b) ≤ nI (pop n) ↔ pop b ≤ pop n := nI_leI (by omega) (by omega)
        refine x_iload dX10_inviteOf_5 rfl ?_
        refine x_k dX10_inviteOf_7 ?_
        refine x_aload dX10_inviteOf_8 rfl ?_
        refine x_get fX10_104 dX10_inviteOf_9 (by first | assumption | rfl | exact up_same | exact (up_ne (by omega)).trans (by assumption) | exact (up_ne (by assumption)).trans (by assumption)) ?_
        refine x_ishl dX10_inviteOf_12 ?_
        rw [shl1 (by omega), hpw]
        refine x_icmp_ge dX10_inviteOf_13 (fun b13 => ?_) (fun b13 => ?_)
        · exact absurd b13 (nI_ge hn (by omega))
        · refine x_iload dX10_inviteOf_16 rfl ?_
          refine x_iload dX10_inviteOf_18 rfl ?_
          refine x_S2i lX10_149 (Rm.of rfl) (cc1 := 0) (cn1 := 0) rfl rfl (Nat.le_of_ble_eq_true rfl) dX10_inviteOf_19 (r_isIn (nI n) (nI host)) ?_
          refine x_if_ne dX10_inviteOf_22 (fun b22 => ?_) (fun b22 => ?_)
          · try simp only [i01, Classical.not_not] at b22
            refine x_k dX10_inviteOf_55 ?_
            refine J56 _ ?_
            first
              | (have hy : ¬ (okF host w n ∧ okW n b) := fun z => hf.mp z.1.2 b22
                 exact (if_neg hy).symm)
              | (have hy : ¬ (okF host w n ∧ okW n b) := fun z => b31 (ndn.mpr z.1.1)
                 exact (if_neg hy).symm)
              | (have hy : okF host w n ∧ okW n b := ⟨⟨ndn.mp (Classical.not_not.mp b31), hf.mpr b22⟩, Or.inr (Nat.not_le.mp (fun z => b48 (el.mpr z)))⟩
                 exact (if_pos hy).symm)
              | (have hy : ¬ (okF host w n ∧ okW n b) := fun z => z.2.elim hz (fun y => Nat.not_le.mpr y (el.mp b48))
                 exact (if_neg hy).symm)
          · try simp only [i01, Classical.not_not] at b22
            refine x_iload dX10_inviteOf_25 rfl ?_
            refine x_iload dX10_inviteOf_26 rfl ?_
            refine x_k dX10_inviteOf_28 ?_
            refine x_ixor dX10_inviteOf_29 ?_
            refine x_iand dX10_inviteOf_30 ?_
            rw [fa_diff]
            refine x_if_ne dX10_inviteOf_31 (fun b31 => ?_) (fun b31 => ?_)
            · refine x_k dX10_inviteOf_55 ?_
              refine J56 _ ?_
              first
                | (have hy : ¬ (okF host w n ∧ okW n b) := fun z => hf.mp z.1.2 b22
                   exact (if_neg hy).symm)
                | (have hy : ¬ (okF host w n ∧ okW n b) := fun z => b31 (ndn.mpr z.1.1)
                   exact (if_neg hy).symm)
                | (have hy : okF host w n ∧ okW n b := ⟨⟨ndn.mp (Classical.not_not.mp b31), hf.mpr b22⟩, Or.inr (Nat.not_le.mp (fun z => b48 (el.mpr z)))⟩
                   exact (if_pos hy).symm)
                | (have hy : ¬ (okF host w n ∧ okW n b) := fun z => z.2.elim hz (fun y => Nat.not_le.mpr y (el.mp b48))
                   exact (if_neg hy).symm)
            · refine x_iload dX10_inviteOf_34 rfl ?_
              refine x_k dX10_inviteOf_35 ?_
              refine x_icmp_eq dX10_inviteOf_36 (fun b36 => ?_) (fun b36 => ?_)
              · exact absurd b36 hm
              · refine x_iload dX10_inviteOf_39 rfl ?_
                refine x_S1i lX10_229 (Rm.of rfl) (cc1 := 0) (cn1 := 0) rfl rfl (Nat.le_of_ble_eq_true rfl) dX10_inviteOf_41 (r_ones (nI n)) ?_
                refine x_iload dX10_inviteOf_44 rfl ?_
                refine x_S1i lX10_229 (Rm.of rfl) (cc1 := 0) (cn1 := 0) rfl rfl (Nat.le_of_ble_eq_true rfl) dX10_inviteOf_45 (r_ones (bv b)) ?_
                rw [ones_pop (by omega), ones_bv (by omega)]
                refine x_icmp_ge dX10_inviteOf_48 (fun b48 => ?_) (fun b48 => ?_)
                · refine x_k dX10_inviteOf_55 ?_
                  refine J56 _ ?_
                  first
                    | (have hy : ¬ (okF host w n ∧ okW n b) := fun z => hf.mp z.1.2 b22
                       exact (if_neg hy).symm)
                    | (have hy : ¬ (okF host w n ∧ okW n b) := fun z => b31 (ndn.mpr z.1.1)
                       exact (if_neg hy).symm)
                    | (have hy : okF host w n ∧ okW n b := ⟨⟨ndn.mp (Classical.not_not.mp b31), hf.mpr b22⟩, Or.inr (Nat.not_le.mp (fun z => b48 (el.mpr z)))⟩
                       exact (if_pos hy).symm)
                    | (have hy : ¬ (okF host w n ∧ okW n b) := fun z => z.2.elim hz (fun y => Nat.not_le.mpr y (el.mp b48))
                       exact (if_neg hy).symm)
                · refine x_k dX10_inviteOf_51 ?_
                  refine x_goto dX10_inviteOf_52 ?_
                  refine J56 _ ?_
                  first
                    | (have hy : ¬ (okF host w n ∧ okW n b) := fun z => hf.mp z.1.2 b22
                       exact (if_neg hy).symm)
                    | (have hy : ¬ (okF host w n ∧ okW n b) := fun z => b31 (ndn.mpr z.1.1)
                       exact (if_neg hy).symm)
                    | (have hy : okF host w n ∧ okW n b := ⟨⟨ndn.mp (Classical.not_not.mp b31), hf.mpr b22⟩, Or.inr (Nat.not_le.mp (fun z => b48 (el.mpr z)))⟩
                       exact (if_pos hy).symm)
                    | (have hy : ¬ (okF host w n ∧ okW n b) := fun z => z.2.elim hz (fun y => Nat.not_le.mpr y (el.mp b48))
                       exact (if_neg hy).symm)
  refine x_k dX10_inviteOf_0 ?_
  refine x_istore dX10_inviteOf_1 (Nat.le_of_ble_eq_true rfl) rfl ?_
  refine x_k dX10_inviteOf_2 ?_
  refine x_istore dX10_inviteOf_3 (Nat.le_of_ble_eq_true rfl) rfl ?_
  exact all 0 (by omega) _
theorem m_invite (t w : Int32) (hM : MW h d) (hd : okD d) : Rn Γ mX10_invite [.ref 57, .int t, .int w] h sz (qM h sz d (aInvite d t w)) := by
  refine x_enter 0 (by decide) rfl ?_
  obtain ⟨_, _, _, w57⟩ := hM.w57
  have hP8 : d_N d ≤ 8 := (pN_ok hd.1.2.1).1
  have hal := allN_lt hd
  refine x_aload dX10_invite_0 rfl ?_
  refine x_iload dX10_invite_1 rfl ?_
  refine x_V1q lX10_128 (Rm.of rfl) (cc1 := 0) (cn1 := 0) rfl rfl (Nat.le_of_ble_eq_true rfl) dX10_invite_2 (by first | assumption | rfl | exact up_same | exact (up_ne (by omega)).trans (by assumption) | exact (up_ne (by assumption)).trans (by assumption)) (m_isPerson t hM hd) ?_
  rintro _ h1 _ ⟨rfl, rfl, hM1, hR1, hF1⟩
  obtain ⟨ll, ow, pr, kd, pl, r57, -⟩ := id hR1
  refine x_if_eq dX10_invite_5 (fun b5 => ?_) (fun b5 => ?_)
  · try simp only [i01, Classical.not_not] at b5
    refine x_k dX10_invite_41 ?_
    refine x_iret (ty := .int) dX10_invite_43 rfl rfl (Nat.zero_le _) (Nat.zero_le _) ?_
    first
      | (have hc : ¬ cInv d t w := fun z => z.2.2 b29); exact ⟨by rw [aInvite, if_neg hc], rfl, hM1, hF1⟩
      | (have hc : ¬ cInv d t w := fun z => b21 z.2.1); exact ⟨by rw [aInvite, if_neg hc], rfl, hM1, hF1⟩
      | (have hc : ¬ cInv d t w := fun z => b5 z.1); exact ⟨by rw [aInvite, if_neg hc], rfl, hM1, hF1⟩
  · try simp only [i01, Classical.not_not] at b5
    refine x_iload dX10_invite_8 rfl ?_
    refine x_k dX10_invite_9 ?_
    refine x_k dX10_invite_10 ?_
    refine x_aload dX10_invite_11 rfl ?_
    refine x_get fX10_104 dX10_invite_12 (by first | assumption | rfl | exact up_same | exact (up_ne (by omega)).trans (by assumption) | exact (up_ne (by assumption)).trans (by assumption)) ?_
    refine x_ishl dX10_invite_15 ?_
    refine x_k dX10_invite_16 ?_
    refine x_isub dX10_invite_17 ?_
    rw [everyB hP8]
    refine x_S3i lX10_92 (Rm.of rfl) (cc1 := 0) (cn1 := 0) rfl rfl (Nat.le_of_ble_eq_true rfl) dX10_invite_18 (r_in w 0 (nI (allN d))) ?_
    refine x_if_eq dX10_invite_21 (fun b21 => ?_) (fun b21 => ?_)
    · try simp only [i01, Classical.not_not] at b21
      refine x_k dX10_invite_41 ?_
      refine x_iret (ty := .int) dX10_invite_43 rfl rfl (Nat.zero_le _) (Nat.zero_le _) ?_
      first
        | (have hc : ¬ cInv d t w := fun z => z.2.2 b29); exact ⟨by rw [aInvite, if_neg hc], rfl, hM1, hF1⟩
        | (have hc : ¬ cInv d t w := fun z => b21 z.2.1); exact ⟨by rw [aInvite, if_neg hc], rfl, hM1, hF1⟩
        | (have hc : ¬ cInv d t w := fun z => b5 z.1); exact ⟨by rw [aInvite, if_neg hc], rfl, hM1, hF1⟩
    · try simp only [i01, Classical.not_not] at b21
      refine x_iload dX10_invite_24 rfl ?_
      refine x_iload dX10_invite_25 rfl ?_
      refine x_S2i lX10_149 (Rm.of rfl) (cc1 := 0) (cn1 := 0) rfl rfl (Nat.le_of_ble_eq_true rfl) dX10_invite_26 (r_isIn w t) ?_
      refine x_if_ne dX10_invite_29 (fun b29 => ?_) (fun b29 => ?_)
      · try simp only [i01, Classical.not_not] at b29
        refine x_k dX10_invite_41 ?_
        refine x_iret (ty := .int) dX10_invite_43 rfl rfl (Nat.zero_le _) (Nat.zero_le _) ?_
        first
          | (have hc : ¬ cInv d t w := fun z => z.2.2 b29); exact ⟨by rw [aInvite, if_neg hc], rfl, hM1, hF1⟩
          | (have hc : ¬ cInv d t w := fun z => b21 z.2.1); exact ⟨by rw [aInvite, if_neg hc], rfl, hM1, hF1⟩
          | (have hc : ¬ cInv d t w := fun z => b5 z.1); exact ⟨by rw [aInvite, if_neg hc], rfl, hM1, hF1⟩
      · try simp only [i01, Classical.not_not] at b29
        have hc : cInv d t w := ⟨b5, b21, b29⟩
        obtain ⟨i, hi, rfl⟩ := below b5.1 b5.2 (by omega)
        obtain ⟨m, hm, rfl⟩ := upto b21.1 b21.2 (by omega)
        refine x_aload dX10_invite_32 rfl ?_
        refine x_iload dX10_invite_33 rfl ?_
        refine x_iload dX10_invite_34 rfl ?_
        refine x_V2i lX10_232 (Rm.of rfl) (cc1 := 0) (cn1 := 0) rfl rfl (Nat.le_of_ble_eq_true rfl) dX10_invite_35 (by first | assumption | rfl | exact up_same | exact (up_ne (by omega)).trans (by assumption) | exact (up_ne (by assumption)).trans (by assumption)) (m_inviteOf r57 hM1.w73 hd (by omega) hm) ?_
        refine x_goto dX10_invite_38 ?_
        refine x_iret (ty := .int) dX10_invite_43 rfl rfl (Nat.zero_le _) (Nat.zero_le _) ?_
        exact ⟨by rw [aInvite, if_pos hc, nI_clamp (by omega), nI_clamp (by omega)], rfl, hM1, hF1⟩
end Inv
