/-! the data that both sides hold, and the reference's world -/
abbrev DT : Type := (Nat × Nat × (Nat → Int32) × (Nat → Int32)) × (Nat × Nat × (Nat → Int32) × (Nat → Int32)) × ((Nat → Int32) × (Nat → Int32)) × (Nat × (Nat → Int32) × (Nat → Int32)) × ((Nat → Int32) × (Nat → Int32) × (Nat → Nat → Int32)) × Int32
abbrev d_n0 (d : DT) : Nat := d.1.1
abbrev d_n1 (d : DT) : Nat := d.1.2.1
abbrev d_b0 (d : DT) : Nat → Int32 := d.1.2.2.1
abbrev d_b1 (d : DT) : Nat → Int32 := d.1.2.2.2
abbrev d_L (d : DT) : Nat := d.2.1.1
abbrev d_ns (d : DT) : Nat := d.2.1.2.1
abbrev d_sh (d : DT) : Nat → Int32 := d.2.1.2.2.1
abbrev d_sb (d : DT) : Nat → Int32 := d.2.1.2.2.2
abbrev d_w (d : DT) : Nat → Int32 := d.2.2.1.1
abbrev d_l (d : DT) : Nat → Int32 := d.2.2.1.2
abbrev d_nf (d : DT) : Nat := d.2.2.2.1.1
abbrev d_fp (d : DT) : Nat → Int32 := d.2.2.2.1.2.1
abbrev d_fk (d : DT) : Nat → Int32 := d.2.2.2.1.2.2
abbrev d_fo (d : DT) : Nat → Int32 := d.2.2.2.2.1.1
abbrev d_si (d : DT) : Nat → Int32 := d.2.2.2.2.1.2.1
abbrev d_it (d : DT) : Nat → Nat → Int32 := d.2.2.2.2.1.2.2
abbrev d_fi (d : DT) : Int32 := d.2.2.2.2.2
def d_H (d : DT) : Nat := hN (d_n0 d) (d_b0 d)
def d_N (d : DT) : Nat := pN (d_n1 d) (d_b1 d)
def ownN (b0 : Nat → Int32) (j : Nat) : Nat := (b0 (3 * j) - 48).toNatClampNeg
def priN (b0 : Nat → Int32) (j : Nat) : Nat := (b0 (3 * j + 1) - 48).toNatClampNeg
def posN (H : Nat) (b1 : Nat → Int32) (p : Nat) : Nat := (spF H (b1 (2 * p + 1))).toNatClampNeg
def kinN (b1 : Nat → Int32) (p : Nat) : Nat := (kI (b1 (2 * p))).toNatClampNeg
def cN (f : Nat → Int32) (i : Nat) : Nat := (f i).toNatClampNeg
noncomputable def d_run (d : DT) (k : Nat) : SS := runF (d_H d) (d_N d) (posN (d_H d) (d_b1 d)) ((d_L d).testBit 0) ((d_L d).testBit 1) ((d_L d).testBit 2) (ownN (d_b0 d)) (cN (d_sh d)) (cN (d_sb d)) k
/-- what holds of the data always -/
def okD (d : DT) : Prop := (d_n0 d ≤ 30 ∧ d_n1 d ≤ 24 ∧ (∀ i, 0 ≤ d_b0 d i ∧ d_b0 d i ≤ 255) ∧ (∀ i, 0 ≤ d_b1 d i ∧ d_b1 d i ≤ 255)) ∧ (d_L d < 8 ∧ d_ns d ≤ 12 ∧ ∀ i, i < d_ns d → (d_sh d i = nI (cN (d_sh d) i) ∧ cN (d_sh d) i < 8) ∧ d_sb d i = nI (cN (d_sb d) i) ∧ cN (d_sb d) i < 8) ∧ (d_nf d ≤ 8 ∧ ∀ i, i < d_nf d → (d_fp d i = nI (cN (d_fp d) i) ∧ cN (d_fp d) i < 8) ∧ d_fk d i = nI (cN (d_fk d) i) ∧ cN (d_fk d) i < 8) ∧ ∀ s, s < 4 → (d_fo d s = -1 ∨ d_fo d s = 0 ∨ d_fo d s = 1 ∨ d_fo d s = 2) ∧ d_si d s = nI (cN (d_si d) s) ∧ cN (d_si d) s ≤ 48
theorem ownN_ok {n : Nat} {b : Nat → Int32} (hn : n ≤ 30) {j : Nat} (hj : j < hN n b) : b (3 * j) - 48 = nI (ownN b j) ∧ ownN b j < 8 := by
  obtain ⟨q, hq, e⟩ := badH_dig ((hN_ok hn).2.2 j hj).1 (by omega)
  have : ownN b j = q := by rw [ownN, e, nI_clamp (by omega)]
  rw [this]; exact ⟨e, hq⟩
theorem priN_ok {n : Nat} {b : Nat → Int32} (hn : n ≤ 30) {j : Nat} (hj : j < hN n b) : b (3 * j + 1) - 48 = nI (priN b j) ∧ priN b j ≤ 9 := by
  obtain ⟨q, hq, e⟩ := badH_fig ((hN_ok hn).2.2 j hj).2 (by omega)
  have : priN b j = q := by rw [priN, e, nI_clamp (by omega)]
  rw [this]; exact ⟨e, hq⟩
theorem posN_ok {H : Nat} (hH : H ≤ 8) (b : Nat → Int32) (p : Nat) : spF H (b (2 * p + 1)) = nI (posN H b p) ∧ posN H b p ≤ H := by
  obtain ⟨q, hq, e⟩ := spF_ok H hH (b (2 * p + 1))
  have : posN H b p = q := by rw [posN, e, nI_clamp (by omega)]
  rw [this]; exact ⟨e, hq⟩
theorem kinN_ok {n : Nat} {b : Nat → Int32} (hn : n ≤ 24) {p : Nat} (hp : p < pN n b) : kI (b (2 * p)) = nI (kinN b p) ∧ kinN b p ≤ 2 := by
  obtain ⟨q, hq, e⟩ := kI_ok ((pN_ok hn).2.2 p hp).1 (by omega)
  have : kinN b p = q := by rw [kinN, e, nI_clamp (by omega)]
  rw [this]; exact ⟨e, hq⟩
theorem fst1_congr {p q : Nat → Bool} : ∀ {n : Nat}, (∀ i, i < n → p i = q i) → fst1 p n = fst1 q n
  | 0, _ => rfl
  | n + 1, h => by rw [fst1, fst1, fst1_congr (fun i hi => h i (by omega)), h n (by omega)]
theorem fauH_congr {n : Nat} {b c : Nat → Int32} (h : ∀ i, i < n → b i = c i) : fauH n b = fauH n c := by
  have e : fst1 (badH b) n = fst1 (badH c) n := fst1_congr (fun i hi => by rw [badH, badH, h i hi])
  rw [fauH, fauH, e]
theorem fauP_congr {n : Nat} {b c : Nat → Int32} (h : ∀ i, i < n → b i = c i) : fauP n b = fauP n c := by
  have e : fst1 (badP b) n = fst1 (badP c) n := fst1_congr (fun i hi => by rw [badP, badP, h i hi])
  rw [fauP, fauP, e]
theorem hN_congr {n : Nat} {b c : Nat → Int32} (h : ∀ i, i < n → b i = c i) : hN n b = hN n c := by rw [hN, hN, fauH_congr h]
theorem pN_congr {n : Nat} {b c : Nat → Int32} (h : ∀ i, i < n → b i = c i) : pN n b = pN n c := by rw [pN, pN, fauP_congr h]
theorem stF_congr {n0 n1 : Nat} {b0 c0 b1 c1 ow pr kd pl : Nat → Int32} (hn0 : n0 ≤ 30) (hn1 : n1 ≤ 24) (h0 : ∀ i, i < n0 → b0 i = c0 i) (h1 : ∀ i, i < n1 → b1 i = c1 i) (h : stF n0 n1 b0 b1 ow pr kd pl) : stF n0 n1 c0 c1 ow pr kd pl := by
  obtain ⟨s1, s2⟩ := h
  have hH := hN_ok (b := b0) hn0
  have hP := pN_ok (b := b1) hn1
  refine ⟨fun i hi => ?_, fun i hi => ?_⟩
  · rw [← hN_congr h0] at hi
    rw [← h0 _ (by omega), ← h0 _ (by omega)]; exact s1 i hi
  · rw [← pN_congr h1] at hi
    rw [← h1 _ (by omega), ← h1 _ (by omega), ← hN_congr h0]; exact s2 i hi
abbrev za (n : Nat) (f : Nat → Int32) : Option HC := some (.inl (.boolean, n, .inl f))
/-- the reference's cells; the rows it works in hold anything -/
def MW (h : Hp) (d : DT) : Prop := ∃ (hs pe ll : Int32) (ty tx ow pr kd pl lw wh os kp tm ls lk af wt be th fr it mv : Nat → Int32),
  (h 57 = cM hs pe (nI (d_ns d)) ll (nI (d_nf d)) (d_fi d) ∧ h 58 = ia 2 ty ∧ h 59 = ia 60 tx ∧ h 60 = ia 9 ow ∧ h 61 = ia 9 pr ∧ h 62 = ia 9 kd ∧ h 63 = ia 9 pl) ∧
  (h 64 = ia 3 lw ∧ h 65 = ia 12 (d_sh d) ∧ h 66 = ia 12 (d_sb d) ∧ h 67 = ia 9 wh ∧ h 68 = ia 9 os ∧ h 69 = ia 9 kp ∧ h 70 = ia 9 tm ∧ h 71 = ia 9 ls) ∧
  (h 72 = ia 64 (d_w d) ∧ h 73 = ia 64 (d_l d) ∧ h 74 = ia 26244 lk ∧ h 75 = ia 4096 af ∧ h 76 = ia 4096 wt ∧ h 77 = ia 8 (d_fp d) ∧ h 78 = ia 8 (d_fk d) ∧ h 79 = ia 9 be) ∧
  (h 80 = za 4 th ∧ h 81 = ia 4 fr ∧ h 82 = ia 4 (d_si d) ∧ h 83 = ia 192 it ∧ h 84 = ia 48 mv) ∧
  (ty 0 = nI (d_n0 d) ∧ ty 1 = nI (d_n1 d) ∧ (∀ i, i < 30 → tx i = d_b0 d i) ∧ ∀ i, i < 24 → tx (30 + i) = d_b1 d i) ∧
  (lw 0 = nI ((d_L d).testBit 0).toNat ∧ lw 1 = nI ((d_L d).testBit 1).toNat ∧ lw 2 = nI ((d_L d).testBit 2).toNat) ∧
  (∀ s, s < 4 → (th s = if d_fo d s = -1 then 0 else 1) ∧ (d_fo d s ≠ -1 → fr s = d_fo d s)) ∧ ∀ s, s < 4 → ∀ i, i < 48 → it (48 * s + i) = d_it d s i
/-- nothing else than the reference's cells has changed -/
def frM (h h' : Hp) : Prop := ∀ k, (k < 57 ∨ 85 ≤ k) → h' k = h k
/-- the reference has read the texts -/
def MR (h : Hp) (d : DT) : Prop := ∃ (ll : Int32) (ow pr kd pl : Nat → Int32), h 57 = cM (nI (d_H d)) (nI (d_N d)) (nI (d_ns d)) ll (nI (d_nf d)) (d_fi d) ∧ h 60 = ia 9 ow ∧ h 61 = ia 9 pr ∧ h 62 = ia 9 kd ∧ h 63 = ia 9 pl ∧ (∀ j, j < d_H d → ow j = nI (ownN (d_b0 d) j) ∧ pr j = nI (priN (d_b0 d) j)) ∧ ∀ p, p < d_N d → kd p = nI (kinN (d_b1 d) p) ∧ pl p = nI (posN (d_H d) (d_b1 d) p) - 1
section MWs
variable {Γ : GX} {h : Hp} {sz : Nat} {d : DT}
theorem m_reads (hM : MW h d) (hd : okD d) : Rn Γ mX10_reads [.ref 57] h sz (fun r h' sz' => r = none ∧ sz = sz' ∧ MW h' d ∧ MR h' d ∧ frM h h') := by
  obtain ⟨hs, pe, ll, ty, tx, ow, pr, kd, pl, lw, wh, os, kp, tm, ls, lk, af, wt, be, th, fr, it, mv, ⟨a57, a58, a59, a60, a61, a62, a63⟩, a2, a3, a4, ⟨t0, t1, t2, t3⟩, a6, a7, a8⟩ := hM
  obtain ⟨⟨n0, n1, -, -⟩, -, -, -⟩ := hd
  have c0 : ∀ i, i < d_n0 d → tx i = d_b0 d i := fun i hi => t2 i (by omega)
  have c1 : ∀ i, i < d_n1 d → (fun i => tx (30 + i)) i = d_b1 d i := fun i hi => t3 i (by omega)
  refine (r_reads (b1 := fun i => tx (30 + i)) rfl a57 a58 a59 a60 a61 a62 a63 t0 t1 n0 n1).mono ?_
  rintro _ _ _ ⟨rfl, rfl, ow2, pr2, kd2, pl2, hst, rfl⟩
  have eH : hN (d_n0 d) tx = d_H d := hN_congr c0
  have eN : pN (d_n1 d) (fun i => tx (30 + i)) = d_N d := pN_congr c1
  obtain ⟨s1, s2⟩ := stF_congr n0 n1 c0 c1 hst
  have hH8 := (hN_ok (b := d_b0 d) n0).1
  refine ⟨rfl, rfl, ⟨_, _, _, ty, tx, ow2, pr2, kd2, pl2, lw, wh, os, kp, tm, ls, lk, af, wt, be, th, fr, it, mv, ⟨rfl, a58, a59, rfl, rfl, rfl, rfl⟩, a2, a3, a4, ⟨t0, t1, t2, t3⟩, a6, a7, a8⟩, ?_, ?_⟩
  · refine ⟨ll, ow2, pr2, kd2, pl2, ?_, rfl, rfl, rfl, rfl, fun j hj => ?_, fun p hp => ?_⟩
    · rw [← eH, ← eN]; rfl
    · have := s1 j hj
      rw [this.1, this.2]; exact ⟨(ownN_ok n0 hj).1, (priN_ok n0 hj).1⟩
    · have := s2 p hp
      rw [this.1, this.2]
      refine ⟨(kinN_ok n1 hp).1, ?_⟩
      have e := (posN_ok hH8 (d_b1 d) p).1
      rw [e]; rfl
  · exact (by intro k hk; simp only [va_up]; (repeat' split) <;> first | rfl | omega)
theorem MW.w57 (hM : MW h d) : ∃ hs pe ll : Int32, h 57 = cM hs pe (nI (d_ns d)) ll (nI (d_nf d)) (d_fi d) := by
  obtain ⟨hs, pe, ll, ty, tx, ow, pr, kd, pl, lw, wh, os, kp, tm, ls, lk, af, wt, be, th, fr, it, mv, ⟨a57, -⟩, -⟩ := hM
  exact ⟨hs, pe, ll, a57⟩
theorem frM.trans {h1 h2 h3 : Hp} (a : frM h1 h2) (b : frM h2 h3) : frM h1 h3 := fun k hk => (b k hk).trans (a k hk)
theorem m_isHouse (t : Int32) (hM : MW h d) (hd : okD d) : Rn Γ mX10_isHouse [.ref 57, .int t] h sz (fun r h' sz' => r = some (.int (bI (0 ≤ t ∧ t < nI (d_H d)))) ∧ sz = sz' ∧ MW h' d ∧ MR h' d ∧ frM h h') := by
  refine x_enter 0 (by decide) rfl ?_
  obtain ⟨_, _, _, w57⟩ := hM.w57
  have hH8 : d_H d ≤ 8 := (hN_ok hd.1.1).1
  refine x_aload dX10_isHouse_0 rfl ?_
  refine x_V0q lX10_118 (Rm.of rfl) (cc1 := 0) (cn1 := 0) rfl rfl (Nat.le_of_ble_eq_true rfl) dX10_isHouse_1 (by first | assumption | rfl) (m_reads hM hd) ?_
  rintro _ h1 _ ⟨rfl, rfl, hM1, hR1, hF1⟩
  obtain ⟨ll, ow, pr, kd, pl, r57, -⟩ := id hR1
  refine x_iload dX10_isHouse_4 rfl ?_
  refine x_k dX10_isHouse_5 ?_
  refine x_aload dX10_isHouse_6 rfl ?_
  refine x_get fX10_96 dX10_isHouse_7 (by first | assumption | rfl) ?_
  refine x_k dX10_isHouse_10 ?_
  refine x_isub dX10_isHouse_11 ?_
  refine x_S3i lX10_92 (Rm.of rfl) (cc1 := 0) (cn1 := 0) rfl rfl (Nat.le_of_ble_eq_true rfl) dX10_isHouse_12 (r_in t 0 (nI (d_H d) - 1)) ?_
  refine x_iret (ty := .boolean) dX10_isHouse_15 rfl (by first | rfl | exact nzb) (Nat.zero_le _) (Nat.zero_le _) ?_
  exact ⟨by congr 2; exact bI_congr (by rw [le_pred (by omega)]), rfl, hM1, hR1, hF1⟩
theorem m_isPerson (t : Int32) (hM : MW h d) (hd : okD d) : Rn Γ mX10_isPerson [.ref 57, .int t] h sz (fun r h' sz' => r = some (.int (bI (0 ≤ t ∧ t < nI (d_N d)))) ∧ sz = sz' ∧ MW h' d ∧ MR h' d ∧ frM h h') := by
  refine x_enter 0 (by decide) rfl ?_
  obtain ⟨_, _, _, w57⟩ := hM.w57
  have hP8 : d_N d ≤ 8 := (pN_ok hd.1.2.1).1
  refine x_aload dX10_isPerson_0 rfl ?_
  refine x_V0q lX10_118 (Rm.of rfl) (cc1 := 0) (cn1 := 0) rfl rfl (Nat.le_of_ble_eq_true rfl) dX10_isPerson_1 (by first | assumption | rfl) (m_reads hM hd) ?_
  rintro _ h1 _ ⟨rfl, rfl, hM1, hR1, hF1⟩
  obtain ⟨ll, ow, pr, kd, pl, r57, -⟩ := id hR1
  refine x_iload dX10_isPerson_4 rfl ?_
  refine x_k dX10_isPerson_5 ?_
  refine x_aload dX10_isPerson_6 rfl ?_
  refine x_get fX10_104 dX10_isPerson_7 (by first | assumption | rfl) ?_
  refine x_k dX10_isPerson_10 ?_
  refine x_isub dX10_isPerson_11 ?_
  refine x_S3i lX10_92 (Rm.of rfl) (cc1 := 0) (cn1 := 0) rfl rfl (Nat.le_of_ble_eq_true rfl) dX10_isPerson_12 (r_in t 0 (nI (d_N d) - 1)) ?_
  refine x_iret (ty := .boolean) dX10_isPerson_15 rfl (by first | rfl | exact nzb) (Nat.zero_le _) (Nat.zero_le _) ?_
  exact ⟨by congr 2; exact bI_congr (by rw [le_pred (by omega)]), rfl, hM1, hR1, hF1⟩
/-- the reference stands behind k sales -/
def MS (h : Hp) (d : DT) (k : Nat) : Prop := ∃ (ll : Int32) (os kp tm : Nat → Int32), h 57 = cM (nI (d_H d)) (nI (d_N d)) (nI (d_ns d)) ll (nI (d_nf d)) (d_fi d) ∧ h 68 = ia 9 os ∧ h 69 = ia 9 kp ∧ h 70 = ia 9 tm ∧ mkF (d_H d) (d_run d k) os kp tm ∧ (0 < k → ll = nI (d_run d k).2.2.2)
theorem law_w {L : Nat} {i : Nat} : (nI (L.testBit i).toNat = 1 ↔ L.testBit i = true) ∧ (nI (L.testBit i).toNat = 0 ↔ L.testBit i = false) := by
  cases L.testBit i <;> exact ⟨by decide, by decide⟩
theorem m_lays {k : Nat} (hM : MW h d) (hd : okD d) (hk : k ≤ d_ns d) : Rn Γ mX10_lays [.ref 57, .int (nI k)] h sz (fun r h' sz' => r = none ∧ sz = sz' ∧ MW h' d ∧ MR h' d ∧ frM h h' ∧ MS h' d k) := by
  refine x_enter 1 (by decide) rfl ?_
  obtain ⟨_, _, _, w57⟩ := hM.w57
  have hH8 : d_H d ≤ 8 := (hN_ok hd.1.1).1
  have hP8 : d_N d ≤ 8 := (pN_ok hd.1.2.1).1
  refine x_aload dX10_lays_0 rfl ?_
  refine x_V0q lX10_118 (Rm.of rfl) (cc1 := 0) (cn1 := 0) rfl rfl (Nat.le_of_ble_eq_true rfl) dX10_lays_1 (by first | assumption | rfl) (m_reads hM hd) ?_
  rintro _ h1 _ ⟨rfl, rfl, hM1, hR1, hF1⟩
  refine x_k dX10_lays_4 ?_
  refine x_istore dX10_lays_5 (Nat.le_of_ble_eq_true rfl) rfl ?_
  obtain ⟨ll, ow, pr, kd, pl, r57, r60, r61, r62, r63, ro, rp⟩ := id hR1
  obtain ⟨hs, pe, l2, ty, tx, ow2, pr2, kd2, pl2, lw, wh, os, kp, tm, ls, lk, af, wt, be, th, fr, it, mv, ⟨-, a58, a59, -, -, -, -⟩, ⟨a64, a65, a66, a67, a68, a69, a70, a71⟩, a3, a4, a5, ⟨l0, l1, l3⟩, a7, a8⟩ := hM1
  refine x_eq rfl rfl (show h1 = va_up h1 67 (ia 9 (filG wh pl 0)) by rw [filG_0, up_id a67]) (loopUp (P := fun p => Ex Γ mX10_lays _ 0 0 6 [.ref 57, .int (nI k), .int (nI p)] [] (va_up h1 67 (ia 9 (filG wh pl p))) sz) (d_N d) ?_ (fun p hp ih => ?_) 0 (Nat.zero_le _))
  · refine x_iload dX10_lays_6 rfl ?_
    refine x_aload dX10_lays_7 rfl ?_
    refine x_get fX10_104 dX10_lays_8 (by first | assumption | rfl) ?_
    refine x_icmp_ge dX10_lays_11 (fun b11 => ?_) (fun b11 => ?_)
    · refine x_aload dX10_lays_32 rfl ?_
      refine x_iload dX10_lays_33 rfl ?_
      refine x_V1q lX10_162 (Rm.of rfl) (cc1 := 0) (cn1 := 0) rfl rfl (Nat.le_of_ble_eq_true rfl) dX10_lays_34 (by first | assumption | rfl) (r_runs (H := d_H d) (N := d_N d) (pos := posN (d_H d) (d_b1 d)) (own := ownN (d_b0 d)) (sh := cN (d_sh d)) (sb := cN (d_sb d)) (w := (d_L d).testBit 0) (c := (d_L d).testBit 1) (o := (d_L d).testBit 2) r57 r60 a64 a65 a66 rfl a68 a69 a70 a71 (by rw [l0]; exact law_w.1) (by rw [l1]; exact law_w.1) (by rw [l3]; exact law_w.2) (fun p hp => ⟨by rw [filG_lt hp]; exact (rp p hp).2, by have := (posN_ok hH8 (d_b1 d) p).2; omega⟩) hH8 hP8 (fun j hj => ⟨(ro j hj).1, (ownN_ok hd.1.1 hj).2⟩) (fun i hi => ⟨(hd.2.1.2.2 i (by omega)).1.1, (hd.2.1.2.2 i (by omega)).1.2, (hd.2.1.2.2 i (by omega)).2.1, (hd.2.1.2.2 i (by omega)).2.2⟩) (by have := hd.2.1.2.1; omega)) ?_
      rintro _ _ _ ⟨rfl, rfl, os2, kp2, tm2, ls2, ll2, g1, g2, rfl⟩
      refine x_vret dX10_lays_37 rfl (Nat.zero_le _) (Nat.zero_le _) ?_
      refine ⟨rfl, rfl, ⟨_, _, ll2, ty, tx, ow, pr, kd, pl, lw, _, os2, kp2, tm2, ls2, lk, af, wt, be, th, fr, it, mv, ⟨rfl, a58, a59, r60, r61, r62, r63⟩, ⟨a64, a65, a66, rfl, rfl, rfl, rfl, rfl⟩, a3, a4, a5, ⟨l0, l1, l3⟩, a7, a8⟩, ⟨ll2, ow, pr, kd, pl, rfl, r60, r61, r62, r63, ro, rp⟩, hF1.trans (by intro k hk; simp only [va_up]; (repeat' split) <;> first | rfl | omega), ll2, os2, kp2, tm2, rfl, rfl, rfl, rfl, g1, g2⟩
    · exact absurd (Int32.le_refl _) b11
  · refine x_iload dX10_lays_6 rfl ?_
    refine x_aload dX10_lays_7 rfl ?_
    refine x_get fX10_104 dX10_lays_8 (by first | assumption | rfl) ?_
    refine x_icmp_ge dX10_lays_11 (fun b11 => ?_) (fun b11 => ?_)
    · exact absurd b11 (nI_ge hp (by omega))
    · refine x_aload dX10_lays_14 rfl ?_
      refine x_get fX10_37 dX10_lays_15 (by first | assumption | rfl) ?_
      refine x_iload dX10_lays_18 rfl ?_
      refine x_aload dX10_lays_19 rfl ?_
      refine x_get fX10_25 dX10_lays_20 (by first | assumption | rfl) ?_
      refine x_iload dX10_lays_23 rfl ?_
      refine x_ialdn dX10_lays_24 (by first | assumption | rfl) ⟨by first | omega | decide, by decide⟩ ?_
      refine x_iastn dX10_lays_25 (by first | assumption | rfl) ⟨by first | omega | decide, by decide⟩ ?_
      refine x_inc1 dX10_lays_26 rfl (Nat.le_of_ble_eq_true rfl) rfl ?_
      refine x_goto dX10_lays_29 ?_
      rw [up_up, filG_id _ pl _ rfl]
      exact ih
end MWs
