/-! were, bed, of the reference -/
theorem spt_sh {s : Nat} (hs : s < 9) (h0 : s ≠ 0) : (1 : Int32) <<< ((nI s - 1) &&& 31) = nI (sptB s) := by
  have : ∀ s : Nat, s < 9 → s ≠ 0 → (1 : Int32) <<< ((nI s - 1) &&& 31) = nI (sptB s) := by decide +kernel
  exact this s hs h0
theorem spt_8 : (1 : Int32) <<< ((8 : Int32) &&& 31) = nI (sptB 0) := by decide
theorem pm1s {s : Nat} (hs : s < 9) : nI s - 1 = -1 ↔ s = 0 := by
  have : ∀ s : Nat, s < 9 → (nI s - 1 = -1 ↔ s = 0) := by decide +kernel
  exact this s hs
section MWays
variable {Γ : GX} {h : Hp} {sz : Nat} {d : DT}
theorem MW.w79 (hM : MW h d) : ∃ be, h 79 = ia 9 be := by
  obtain ⟨hs, pe, ll, ty, tx, ow, pr, kd, pl, lw, wh, os, kp, tm, ls, lk, af, wt, be, th, fr, it, mv, -, -, ⟨-, -, -, -, -, -, -, a79⟩, -⟩ := hM
  exact ⟨be, a79⟩
theorem MW.w77 (hM : MW h d) : h 77 = ia 8 (d_fp d) ∧ h 78 = ia 8 (d_fk d) := by
  obtain ⟨hs, pe, ll, ty, tx, ow, pr, kd, pl, lw, wh, os, kp, tm, ls, lk, af, wt, be, th, fr, it, mv, -, -, ⟨-, -, -, -, -, a77, a78, -⟩, -⟩ := hM
  exact ⟨a77, a78⟩
/-- where all can have been, in the rows below r -/
def beOK (d : DT) (be : Nat → Int32) (r : Nat) : Prop := ∀ p, p < d_N d → be p = nI (canR d p r)
def qWN (h : Hp) (sz : Nat) (d : DT) : QT := fun r h' sz' => r = some (.int (if d_N d ≤ 4 then nI (wayN d) else -4)) ∧ sz = sz' ∧ MW h' d ∧ MR h' d ∧ frM h h' ∧ (d_N d ≤ 4 → ∃ be, h' 79 = ia 9 be ∧ beOK d be (rwN d))
theorem m_wayRow {Q : QT} {r : Nat} {n0 : Int32} {be : Nat → Int32} {h2 : Hp} (hd : okD d) (hN : d_N d ≤ 4) (hr : r < rwN d) (hM2 : MW h2 d) (hR2 : MR h2 d) (hP2 : MP h2 d r) (hQ2 : MQw h2 d (rwR d r)) (h79 : h2 79 = ia 9 be) (hbe : beOK d be r) (hF2 : frM h h2) (K : ∀ (h3 : Hp) (be : Nat → Int32) (v u : Value), MW h3 d → MR h3 d → frM h h3 → h3 79 = ia 9 be → beOK d be (r + 1) → Ex Γ mX10_waysNow (gx_Z Γ mX10_waysNow Q) 0 0 219 [.ref 57, .int (n0 + nI (wayR d r).toNat), .int (nI (rwN d)), .int (nI r), v, u] [] h3 sz) : Ex Γ mX10_waysNow (gx_Z Γ mX10_waysNow Q) 0 0 71 [.ref 57, .int n0, .int (nI (rwN d)), .int (nI r), .int 1, .int (nI 0)] [] h2 sz := by
  obtain ⟨l2, os, kp, tm, s57, s68, s69, s70, hk⟩ := id hQ2
  obtain ⟨wh, p67, hwh⟩ := id hP2
  obtain ⟨a77, a78⟩ := hM2.w77
  have hH8 : d_H d ≤ 8 := (hN_ok hd.1.1).1
  have hnf := hd.2.2.1.1
  have A164 : Ex Γ mX10_waysNow (gx_Z Γ mX10_waysNow Q) 0 0 164 [.ref 57, .int (n0 + nI (wayR d r).toNat), .int (nI (rwN d)), .int (nI r), .int (bI (wayR d r = true)), .int (nI 0)] [] h2 sz := by
    by_cases hz : wayR d r = true
    · have ex : bI (wayR d r = true) = 1 := if_pos hz
      rw [ex]
      have all : ∀ q, q ≤ d_N d → ∀ be : Nat → Int32, (∀ p, p < q → be p = nI (canR d p (r + 1))) → (∀ p, q ≤ p → p < d_N d → be p = nI (canR d p r)) → Ex Γ mX10_waysNow (gx_Z Γ mX10_waysNow Q) 0 0 164 [.ref 57, .int (n0 + nI (wayR d r).toNat), .int (nI (rwN d)), .int (nI r), .int 1, .int (nI q)] [] (va_up h2 79 (ia 9 be)) sz := by
        refine loopUp (d_N d) (fun be h1 h3 => ?_) (fun q hq ih be h1 h3 => ?_)
        · refine x_iload dX10_waysNow_164 rfl ?_
          refine x_aload dX10_waysNow_166 rfl ?_
          refine x_get fX10_104 dX10_waysNow_167 (by first | assumption | rfl | exact up_same | exact (up_ne (by omega)).trans (by assumption) | exact (up_ne (by assumption)).trans (by assumption)) ?_
          refine x_icmp_ge dX10_waysNow_170 (fun b170 => ?_) (fun b170 => ?_)
          · exact K _ be _ _ hM2.wk79 (hR2.of (fun j j1 j2 => up_ne (by omega))) (hF2.trans (fun j hj => up_ne (by omega))) up_same h1
          · exact absurd (Int32.le_refl _) b170
        · have hpl := rwP_lt d r q
          have ew := hwh q hq
          have ep := pm1s (s := rwP d r q) (by omega)
          have h1' : ∀ p, p < q + 1 → upd be q (nI (canR d q r ||| sptB (rwP d r q))) p = nI (canR d p (r + 1)) := fun p hp => by
            by_cases epq : p = q
            · subst epq; rw [upd_same, canR_s, if_pos hz]
            · rw [upd_ne epq]; exact h1 p (by omega)
          have h3' : ∀ p, q + 1 ≤ p → p < d_N d → upd be q (nI (canR d q r ||| sptB (rwP d r q))) p = nI (canR d p r) := fun p y1 y2 => by
            rw [upd_ne (by omega)]; exact h3 p (by omega) y2
          refine x_iload dX10_waysNow_164 rfl ?_
          refine x_aload dX10_waysNow_166 rfl ?_
          refine x_get fX10_104 dX10_waysNow_167 (by first | assumption | rfl | exact up_same | exact (up_ne (by omega)).trans (by assumption) | exact (up_ne (by assumption)).trans (by assumption)) ?_
          refine x_icmp_ge dX10_waysNow_170 (fun b170 => ?_) (fun b170 => ?_)
          · exact absurd b170 (nI_ge hq (by omega))
          · refine x_iload dX10_waysNow_173 rfl ?_
            refine x_if_eq dX10_waysNow_175 (fun b175 => ?_) (fun b175 => ?_)
            · exact absurd b175 (by decide)
            · refine x_aload dX10_waysNow_178 rfl ?_
              refine x_get fX10_73 dX10_waysNow_179 (by first | assumption | rfl | exact up_same | exact (up_ne (by omega)).trans (by assumption) | exact (up_ne (by assumption)).trans (by assumption)) ?_
              refine x_iload dX10_waysNow_182 rfl ?_
              refine x_dup2 dX10_waysNow_184 rfl rfl ?_
              refine x_ialdn dX10_waysNow_185 (by first | assumption | rfl | exact up_same | exact (up_ne (by omega)).trans (by assumption) | exact (up_ne (by assumption)).trans (by assumption)) ⟨by first | omega | decide, by decide⟩ ?_
              rw [h3 q (Nat.le_refl _) hq]
              refine x_k dX10_waysNow_186 ?_
              refine x_aload dX10_waysNow_187 rfl ?_
              refine x_get fX10_37 dX10_waysNow_188 (by first | assumption | rfl | exact up_same | exact (up_ne (by omega)).trans (by assumption) | exact (up_ne (by assumption)).trans (by assumption)) ?_
              refine x_iload dX10_waysNow_191 rfl ?_
              refine x_ialdn dX10_waysNow_193 (by first | assumption | rfl | exact up_same | exact (up_ne (by omega)).trans (by assumption) | exact (up_ne (by assumption)).trans (by assumption)) ⟨by first | omega | decide, by decide⟩ ?_
              rw [ew]
              refine x_k dX10_waysNow_194 ?_
              refine x_icmp_ne dX10_waysNow_195 (fun b195 => ?_) (fun b195 => ?_)
              · refine x_aload dX10_waysNow_203 rfl ?_
                refine x_get fX10_37 dX10_waysNow_204 (by first | assumption | rfl | exact up_same | exact (up_ne (by omega)).trans (by assumption) | exact (up_ne (by assumption)).trans (by assumption)) ?_
                refine x_iload dX10_waysNow_207 rfl ?_
                refine x_ialdn dX10_waysNow_209 (by first | assumption | rfl | exact up_same | exact (up_ne (by omega)).trans (by assumption) | exact (up_ne (by assumption)).trans (by assumption)) ⟨by first | omega | decide, by decide⟩ ?_
                first
                  | rw [ew]
                  | skip
                refine x_ishl dX10_waysNow_210 ?_
                first
                  | (have hy : rwP d r q = 0 := ep.mp (Classical.not_not.mp b195)
                     have e8 : (1 : Int32) <<< ((8 : Int32) &&& 31) = nI (sptB (rwP d r q)) := by rw [hy]; exact spt_8
                     rw [e8])
                  | (have hy : rwP d r q ≠ 0 := fun y => b195 (ep.mpr y)
                     rw [spt_sh (by omega) hy])
                refine x_ior dX10_waysNow_211 ?_
                rw [fa_or]
                refine x_iastn dX10_waysNow_212 (by first | assumption | rfl | exact up_same | exact (up_ne (by omega)).trans (by assumption) | exact (up_ne (by assumption)).trans (by assumption)) ⟨by first | omega | decide, by decide⟩ ?_
                refine x_inc1 dX10_waysNow_213 rfl (Nat.le_of_ble_eq_true rfl) rfl ?_
                refine x_goto dX10_waysNow_216 ?_
                rw [up_up]; exact ih _ h1' h3'
              · refine x_k dX10_waysNow_198 ?_
                refine x_goto dX10_waysNow_200 ?_
                first
                  | rw [ew]
                  | skip
                refine x_ishl dX10_waysNow_210 ?_
                first
                  | (have hy : rwP d r q = 0 := ep.mp (Classical.not_not.mp b195)
                     have e8 : (1 : Int32) <<< ((8 : Int32) &&& 31) = nI (sptB (rwP d r q)) := by rw [hy]; exact spt_8
                     rw [e8])
                  | (have hy : rwP d r q ≠ 0 := fun y => b195 (ep.mpr y)
                     rw [spt_sh (by omega) hy])
                refine x_ior dX10_waysNow_211 ?_
                rw [fa_or]
                refine x_iastn dX10_waysNow_212 (by first | assumption | rfl | exact up_same | exact (up_ne (by omega)).trans (by assumption) | exact (up_ne (by assumption)).trans (by assumption)) ⟨by first | omega | decide, by decide⟩ ?_
                refine x_inc1 dX10_waysNow_213 rfl (Nat.le_of_ble_eq_true rfl) rfl ?_
                refine x_goto dX10_waysNow_216 ?_
                rw [up_up]; exact ih _ h1' h3'
      exact x_eq rfl rfl (by rw [up_id h79]) (all 0 (Nat.zero_le _) be (fun p hp => absurd hp (by omega)) (fun p _ hp => hbe p hp))
    · have ex : bI (wayR d r = true) = 0 := if_neg hz
      rw [ex]
      have hbe2 : beOK d be (r + 1) := fun p hp => by rw [hbe p hp, canR_s, if_neg hz]
      refine x_iload dX10_waysNow_164 rfl ?_
      refine x_aload dX10_waysNow_166 rfl ?_
      refine x_get fX10_104 dX10_waysNow_167 (by first | assumption | rfl | exact up_same | exact (up_ne (by omega)).trans (by assumption) | exact (up_ne (by assumption)).trans (by assumption)) ?_
      refine x_icmp_ge dX10_waysNow_170 (fun b170 => ?_) (fun b170 => ?_)
      · exact K h2 be _ _ hM2 hR2 hF2 h79 hbe2
        first
          | exact K h2 be _ _ hM2 hR2 hF2 h79 hbe2
          | done
      · refine x_iload dX10_waysNow_173 rfl ?_
        refine x_if_eq dX10_waysNow_175 (fun b175 => ?_) (fun b175 => ?_)
        · first
            | exact K h2 be _ _ hM2 hR2 hF2 h79 hbe2
            | done
        · exact absurd rfl b175
  have A71 : ∀ i, i ≤ d_nf d → Ex Γ mX10_waysNow (gx_Z Γ mX10_waysNow Q) 0 0 71 [.ref 57, .int n0, .int (nI (rwN d)), .int (nI r), .int (bI (∀ j, j < i → soP d r j)), .int (nI i)] [] h2 sz := by
    refine loopUp (d_nf d) ?_ (fun i hi ih => ?_)
    · have ew : bI (∀ j, j < d_nf d → soP d r j) = bI (wayR d r = true) := bI_congr decide_eq_true_iff.symm
      rw [ew]
      have en : ∀ x : Int32, x = nI (wayR d r).toNat → Ex Γ mX10_waysNow (gx_Z Γ mX10_waysNow Q) 0 0 159 [.ref 57, .int n0, .int (nI (rwN d)), .int (nI r), .int (bI (wayR d r = true)), .int (nI (d_nf d))] [.int x, .int n0] h2 sz := by
        intro x hx
        rw [hx]
        refine x_iadd dX10_waysNow_159 ?_
        refine x_istore dX10_waysNow_160 (Nat.le_of_ble_eq_true rfl) rfl ?_
        refine x_k dX10_waysNow_161 ?_
        refine x_istore dX10_waysNow_162 (Nat.le_of_ble_eq_true rfl) rfl ?_
        exact A164
      refine x_iload dX10_waysNow_71 rfl ?_
      refine x_aload dX10_waysNow_73 rfl ?_
      refine x_get fX10_235 dX10_waysNow_74 (by first | assumption | rfl | exact up_same | exact (up_ne (by omega)).trans (by assumption) | exact (up_ne (by assumption)).trans (by assumption)) ?_
      refine x_icmp_ge dX10_waysNow_77 (fun b77 => ?_) (fun b77 => ?_)
      · refine x_iload dX10_waysNow_148 rfl ?_
        refine x_iload dX10_waysNow_149 rfl ?_
        refine x_if_eq dX10_waysNow_151 (fun b151 => ?_) (fun b151 => ?_)
        · refine x_k dX10_waysNow_158 ?_
          refine en _ ?_
          first
            | (have hz : ¬ wayR d r = true := i01.mp b151
               rw [Bool.eq_false_iff.mpr hz]; rfl)
            | (have hz : wayR d r = true := Classical.not_not.mp (fun y => b151 (i01.mpr y))
               rw [hz]; rfl)
        · refine x_k dX10_waysNow_154 ?_
          refine x_goto dX10_waysNow_155 ?_
          refine en _ ?_
          first
            | (have hz : ¬ wayR d r = true := i01.mp b151
               rw [Bool.eq_false_iff.mpr hz]; rfl)
            | (have hz : wayR d r = true := Classical.not_not.mp (fun y => b151 (i01.mpr y))
               rw [hz]; rfl)
      · exact absurd (Int32.le_refl _) b77
    · obtain ⟨⟨p1, p2⟩, p3, p4⟩ := hd.2.2.1.2 i hi
      have el : nI (d_N d) ≤ nI (cN (d_fp d) i) ↔ d_N d ≤ cN (d_fp d) i := nI_leI (by omega) (by omega)
      have el2 : nI (d_N d) ≤ nI (cN (d_fk d) i) ↔ d_N d ≤ cN (d_fk d) i := nI_leI (by omega) (by omega)
      have hkq := hk.2.1 (cN (d_fp d) i) p2
      have ekk : nI ((rwR d r).2.1 (cN (d_fp d) i)) = nI (cN (d_fk d) i) ↔ (rwR d r).2.1 (cN (d_fp d) i) = cN (d_fk d) i := nI_eq (by omega) (by omega)
      have hkp : cN (d_fp d) i < d_N d → (rwR d r).2.1 (cN (d_fp d) i) < d_N d := fun y => runF_kp (d_ns d) _ y
      have alls : (∀ j, j < i + 1 → soP d r j) ↔ (∀ j, j < i → soP d r j) ∧ soP d r i := by
        constructor
        · intro y; exact ⟨fun j hj => y j (by omega), y i (by omega)⟩
        · rintro ⟨y1, y2⟩ j hj
          by_cases ej : j = i
          · subst ej; exact y2
          · exact y1 j (by omega)
      have J140 : ∀ x : Int32, x = bI (∀ j, j < i + 1 → soP d r j) → Ex Γ mX10_waysNow (gx_Z Γ mX10_waysNow Q) 0 0 140 [.ref 57, .int n0, .int (nI (rwN d)), .int (nI r), .int (bI (∀ j, j < i → soP d r j)), .int (nI i)] [.int x] h2 sz := by
        intro x hx
        rw [hx]
        refine x_istore dX10_waysNow_140 (Nat.le_of_ble_eq_true rfl) rfl ?_
        refine x_inc1 dX10_waysNow_142 rfl (Nat.le_of_ble_eq_true rfl) rfl ?_
        refine x_goto dX10_waysNow_145 ?_
        exact ih
      refine x_iload dX10_waysNow_71 rfl ?_
      refine x_aload dX10_waysNow_73 rfl ?_
      refine x_get fX10_235 dX10_waysNow_74 (by first | assumption | rfl | exact up_same | exact (up_ne (by omega)).trans (by assumption) | exact (up_ne (by assumption)).trans (by assumption)) ?_
      refine x_icmp_ge dX10_waysNow_77 (fun b77 => ?_) (fun b77 => ?_)
      · exact absurd b77 (nI_ge hi (by omega))
      · refine x_iload dX10_waysNow_80 rfl ?_
        refine x_if_eq dX10_waysNow_82 (fun b82 => ?_) (fun b82 => ?_)
        · refine x_k dX10_waysNow_139 ?_
          refine J140 _ ?_
          first
            | (have hz : ¬ (∀ j, j < i → soP d r j) := i01.mp b82
               exact (if_neg (fun y => hz (alls.mp y).1)).symm)
            | (have hz : ∀ j, j < i → soP d r j := Classical.not_not.mp (fun y => b82 (i01.mpr y))
               first
                 | (have hy : d_N d ≤ cN (d_fp d) i := el.mp b96
                    exact (if_neg (fun y => Nat.not_le.mpr (alls.mp y).2.1 hy)).symm)
                 | (have hy : cN (d_fp d) i < d_N d := Nat.not_le.mp (fun y => b96 (el.mpr y))
                    first
                      | (have hx : d_N d ≤ cN (d_fk d) i := el2.mp b110
                         exact (if_neg (fun y => by have h1 := (alls.mp y).2.2; have h2 := hkp hy; omega)).symm)
                      | (have hx : (rwR d r).2.1 (cN (d_fp d) i) = cN (d_fk d) i := ekk.mp (Classical.not_not.mp b132)
                         exact (if_pos (alls.mpr ⟨hz, hy, hx⟩)).symm)
                      | (have hx : ¬ (rwR d r).2.1 (cN (d_fp d) i) = cN (d_fk d) i := fun y => b132 (ekk.mpr y)
                         exact (if_neg (fun y => hx (alls.mp y).2.2)).symm)))
        · refine x_aload dX10_waysNow_85 rfl ?_
          refine x_get fX10_67 dX10_waysNow_86 (by first | assumption | rfl | exact up_same | exact (up_ne (by omega)).trans (by assumption) | exact (up_ne (by assumption)).trans (by assumption)) ?_
          refine x_iload dX10_waysNow_89 rfl ?_
          refine x_ialdn dX10_waysNow_91 (by first | assumption | rfl | exact up_same | exact (up_ne (by omega)).trans (by assumption) | exact (up_ne (by assumption)).trans (by assumption)) ⟨by first | omega | decide, by decide⟩ ?_
          rw [p1]
          refine x_aload dX10_waysNow_92 rfl ?_
          refine x_get fX10_104 dX10_waysNow_93 (by first | assumption | rfl | exact up_same | exact (up_ne (by omega)).trans (by assumption) | exact (up_ne (by assumption)).trans (by assumption)) ?_
          refine x_icmp_ge dX10_waysNow_96 (fun b96 => ?_) (fun b96 => ?_)
          · refine x_k dX10_waysNow_139 ?_
            refine J140 _ ?_
            first
              | (have hz : ¬ (∀ j, j < i → soP d r j) := i01.mp b82
                 exact (if_neg (fun y => hz (alls.mp y).1)).symm)
              | (have hz : ∀ j, j < i → soP d r j := Classical.not_not.mp (fun y => b82 (i01.mpr y))
                 first
                   | (have hy : d_N d ≤ cN (d_fp d) i := el.mp b96
                      exact (if_neg (fun y => Nat.not_le.mpr (alls.mp y).2.1 hy)).symm)
                   | (have hy : cN (d_fp d) i < d_N d := Nat.not_le.mp (fun y => b96 (el.mpr y))
                      first
                        | (have hx : d_N d ≤ cN (d_fk d) i := el2.mp b110
                           exact (if_neg (fun y => by have h1 := (alls.mp y).2.2; have h2 := hkp hy; omega)).symm)
                        | (have hx : (rwR d r).2.1 (cN (d_fp d) i) = cN (d_fk d) i := ekk.mp (Classical.not_not.mp b132)
                           exact (if_pos (alls.mpr ⟨hz, hy, hx⟩)).symm)
                        | (have hx : ¬ (rwR d r).2.1 (cN (d_fp d) i) = cN (d_fk d) i := fun y => b132 (ekk.mpr y)
                           exact (if_neg (fun y => hx (alls.mp y).2.2)).symm)))
          · refine x_aload dX10_waysNow_99 rfl ?_
            refine x_get fX10_70 dX10_waysNow_100 (by first | assumption | rfl | exact up_same | exact (up_ne (by omega)).trans (by assumption) | exact (up_ne (by assumption)).trans (by assumption)) ?_
            refine x_iload dX10_waysNow_103 rfl ?_
            refine x_ialdn dX10_waysNow_105 (by first | assumption | rfl | exact up_same | exact (up_ne (by omega)).trans (by assumption) | exact (up_ne (by assumption)).trans (by assumption)) ⟨by first | omega | decide, by decide⟩ ?_
            rw [p3]
            refine x_aload dX10_waysNow_106 rfl ?_
            refine x_get fX10_104 dX10_waysNow_107 (by first | assumption | rfl | exact up_same | exact (up_ne (by omega)).trans (by assumption) | exact (up_ne (by assumption)).trans (by assumption)) ?_
            refine x_icmp_ge dX10_waysNow_110 (fun b110 => ?_) (fun b110 => ?_)
            · refine x_k dX10_waysNow_139 ?_
              refine J140 _ ?_
              first
                | (have hz : ¬ (∀ j, j < i → soP d r j) := i01.mp b82
                   exact (if_neg (fun y => hz (alls.mp y).1)).symm)
                | (have hz : ∀ j, j < i → soP d r j := Classical.not_not.mp (fun y => b82 (i01.mpr y))
                   first
                     | (have hy : d_N d ≤ cN (d_fp d) i := el.mp b96
                        exact (if_neg (fun y => Nat.not_le.mpr (alls.mp y).2.1 hy)).symm)
                     | (have hy : cN (d_fp d) i < d_N d := Nat.not_le.mp (fun y => b96 (el.mpr y))
                        first
                          | (have hx : d_N d ≤ cN (d_fk d) i := el2.mp b110
                             exact (if_neg (fun y => by have h1 := (alls.mp y).2.2; have h2 := hkp hy; omega)).symm)
                          | (have hx : (rwR d r).2.1 (cN (d_fp d) i) = cN (d_fk d) i := ekk.mp (Classical.not_not.mp b132)
                             exact (if_pos (alls.mpr ⟨hz, hy, hx⟩)).symm)
                          | (have hx : ¬ (rwR d r).2.1 (cN (d_fp d) i) = cN (d_fk d) i := fun y => b132 (ekk.mpr y)
                             exact (if_neg (fun y => hx (alls.mp y).2.2)).symm)))
            · refine x_aload dX10_waysNow_113 rfl ?_
              refine x_get fX10_43 dX10_waysNow_114 (by first | assumption | rfl | exact up_same | exact (up_ne (by omega)).trans (by assumption) | exact (up_ne (by assumption)).trans (by assumption)) ?_
              refine x_aload dX10_waysNow_117 rfl ?_
              refine x_get fX10_67 dX10_waysNow_118 (by first | assumption | rfl | exact up_same | exact (up_ne (by omega)).trans (by assumption) | exact (up_ne (by assumption)).trans (by assumption)) ?_
              refine x_iload dX10_waysNow_121 rfl ?_
              refine x_ialdn dX10_waysNow_123 (by first | assumption | rfl | exact up_same | exact (up_ne (by omega)).trans (by assumption) | exact (up_ne (by assumption)).trans (by assumption)) ⟨by first | omega | decide, by decide⟩ ?_
              rw [p1]
              refine x_ialdn dX10_waysNow_124 (by first | assumption | rfl | exact up_same | exact (up_ne (by omega)).trans (by assumption) | exact (up_ne (by assumption)).trans (by assumption)) ⟨by first | omega | decide, by decide⟩ ?_
              rw [hkq.1]
              refine x_aload dX10_waysNow_125 rfl ?_
              refine x_get fX10_70 dX10_waysNow_126 (by first | assumption | rfl | exact up_same | exact (up_ne (by omega)).trans (by assumption) | exact (up_ne (by assumption)).trans (by assumption)) ?_
              refine x_iload dX10_waysNow_129 rfl ?_
              refine x_ialdn dX10_waysNow_131 (by first | assumption | rfl | exact up_same | exact (up_ne (by omega)).trans (by assumption) | exact (up_ne (by assumption)).trans (by assumption)) ⟨by first | omega | decide, by decide⟩ ?_
              rw [p3]
              refine x_icmp_ne dX10_waysNow_132 (fun b132 => ?_) (fun b132 => ?_)
              · refine x_k dX10_waysNow_139 ?_
                refine J140 _ ?_
                first
                  | (have hz : ¬ (∀ j, j < i → soP d r j) := i01.mp b82
                     exact (if_neg (fun y => hz (alls.mp y).1)).symm)
                  | (have hz : ∀ j, j < i → soP d r j := Classical.not_not.mp (fun y => b82 (i01.mpr y))
                     first
                       | (have hy : d_N d ≤ cN (d_fp d) i := el.mp b96
                          exact (if_neg (fun y => Nat.not_le.mpr (alls.mp y).2.1 hy)).symm)
                       | (have hy : cN (d_fp d) i < d_N d := Nat.not_le.mp (fun y => b96 (el.mpr y))
                          first
                            | (have hx : d_N d ≤ cN (d_fk d) i := el2.mp b110
                               exact (if_neg (fun y => by have h1 := (alls.mp y).2.2; have h2 := hkp hy; omega)).symm)
                            | (have hx : (rwR d r).2.1 (cN (d_fp d) i) = cN (d_fk d) i := ekk.mp (Classical.not_not.mp b132)
                               exact (if_pos (alls.mpr ⟨hz, hy, hx⟩)).symm)
                            | (have hx : ¬ (rwR d r).2.1 (cN (d_fp d) i) = cN (d_fk d) i := fun y => b132 (ekk.mpr y)
                               exact (if_neg (fun y => hx (alls.mp y).2.2)).symm)))
              · refine x_k dX10_waysNow_135 ?_
                refine x_goto dX10_waysNow_136 ?_
                refine J140 _ ?_
                first
                  | (have hz : ¬ (∀ j, j < i → soP d r j) := i01.mp b82
                     exact (if_neg (fun y => hz (alls.mp y).1)).symm)
                  | (have hz : ∀ j, j < i → soP d r j := Classical.not_not.mp (fun y => b82 (i01.mpr y))
                     first
                       | (have hy : d_N d ≤ cN (d_fp d) i := el.mp b96
                          exact (if_neg (fun y => Nat.not_le.mpr (alls.mp y).2.1 hy)).symm)
                       | (have hy : cN (d_fp d) i < d_N d := Nat.not_le.mp (fun y => b96 (el.mpr y))
                          first
                            | (have hx : d_N d ≤ cN (d_fk d) i := el2.mp b110
                               exact (if_neg (fun y => by have h1 := (alls.mp y).2.2; have h2 := hkp hy; omega)).symm)
                            | (have hx : (rwR d r).2.1 (cN (d_fp d) i) = cN (d_fk d) i := ekk.mp (Classical.not_not.mp b132)
                               exact (if_pos (alls.mpr ⟨hz, hy, hx⟩)).symm)
                            | (have hx : ¬ (rwR d r).2.1 (cN (d_fp d) i) = cN (d_fk d) i := fun y => b132 (ekk.mpr y)
                               exact (if_neg (fun y => hx (alls.mp y).2.2)).symm)))
  have e0 : ∀ n, n = 0 → bI (∀ j, j < n → soP d r j) = 1 := fun n hn => if_pos (fun i hi => absurd hi (by omega))
  have := A71 0 (Nat.zero_le _)
  rw [e0 0 rfl] at this
  exact this
theorem m_waysNow (hM : MW h d) (hd : okD d) : Rn Γ mX10_waysNow [.ref 57] h sz (qWN h sz d) := by
  refine x_enter 5 (by decide) rfl ?_
  obtain ⟨_, _, _, w57⟩ := hM.w57
  have hP8 : d_N d ≤ 8 := (pN_ok hd.1.2.1).1
  have e4 : nI (d_N d) ≤ 4 ↔ d_N d ≤ 4 := nI_leI (b := 4) (by omega) (by omega)
  have J15 : d_N d ≤ 4 → ∀ h1, MW h1 d → MR h1 d → frM h h1 → Ex Γ mX10_waysNow (gx_Z Γ mX10_waysNow (qWN h sz d)) 0 0 15 [.ref 57, .retAddr 0, .retAddr 0, .retAddr 0, .retAddr 0, .retAddr 0] [] h1 sz := by
    intro hN h1 hM1 hR1 hF1
    have hle := rwN_le hd hN
    have A47 : ∀ r, r ≤ rwN d → ∀ (h' : Hp) (be : Nat → Int32) (v u : Value), MW h' d → MR h' d → frM h h' → h' 79 = ia 9 be → beOK d be r → Ex Γ mX10_waysNow (gx_Z Γ mX10_waysNow (qWN h sz d)) 0 0 47 [.ref 57, .int (nI (cntB (wayR d) r)), .int (nI (rwN d)), .int (nI r), v, u] [] h' sz := by
      refine loopUp (rwN d) (fun h' be v u hM' hR' hF' h79 hbe => ?_) (fun r hr ih h' be v u hM' hR' hF' h79 hbe => ?_)
      · refine x_iload dX10_waysNow_47 rfl ?_
        refine x_iload dX10_waysNow_48 rfl ?_
        refine x_icmp_ge dX10_waysNow_49 (fun b49 => ?_) (fun b49 => ?_)
        · refine x_iload dX10_waysNow_225 rfl ?_
          refine x_iret (ty := .int) dX10_waysNow_226 rfl rfl (Nat.zero_le _) (Nat.zero_le _) ?_
          exact ⟨by rw [if_pos hN]; rfl, rfl, hM', hR', hF', fun _ => ⟨be, h79, hbe⟩⟩
        · exact absurd (Int32.le_refl _) b49
      · obtain ⟨ll, ow, pr, kd, pl, r57, -⟩ := id hR'
        rw [cnt_s] at ih
        refine x_iload dX10_waysNow_47 rfl ?_
        refine x_iload dX10_waysNow_48 rfl ?_
        refine x_icmp_ge dX10_waysNow_49 (fun b49 => ?_) (fun b49 => ?_)
        · exact absurd b49 (nI_ge hr (by omega))
        · refine x_aload dX10_waysNow_52 rfl ?_
          refine x_iload dX10_waysNow_53 rfl ?_
          refine x_V1q lX10_189 (Rm.of rfl) (cc1 := 0) (cn1 := 0) rfl rfl (Nat.le_of_ble_eq_true rfl) dX10_waysNow_54 (by first | assumption | rfl | exact up_same | exact (up_ne (by omega)).trans (by assumption) | exact (up_ne (by assumption)).trans (by assumption)) (m_places hM' hR' hd hN hr) ?_
          rintro _ h1 _ ⟨rfl, rfl, hM1, hR1, hP1, hf1⟩
          obtain ⟨l1, _, _, _, _, u57, -⟩ := id hR1
          refine x_aload dX10_waysNow_57 rfl ?_
          refine x_aload dX10_waysNow_58 rfl ?_
          refine x_get fX10_137 dX10_waysNow_59 (by first | assumption | rfl | exact up_same | exact (up_ne (by omega)).trans (by assumption) | exact (up_ne (by assumption)).trans (by assumption)) ?_
          refine x_V1q lX10_162 (Rm.of rfl) (cc1 := 0) (cn1 := 0) rfl rfl (Nat.le_of_ble_eq_true rfl) dX10_waysNow_62 (by first | assumption | rfl | exact up_same | exact (up_ne (by omega)).trans (by assumption) | exact (up_ne (by assumption)).trans (by assumption)) (m_runRow hM1 hR1 hP1 hd) ?_
          rintro _ h2 _ ⟨rfl, rfl, hM2, hR2, hP2, hQ2, hf2⟩
          refine x_k dX10_waysNow_65 ?_
          refine x_istore dX10_waysNow_66 (Nat.le_of_ble_eq_true rfl) rfl ?_
          refine x_k dX10_waysNow_68 ?_
          refine x_istore dX10_waysNow_69 (Nat.le_of_ble_eq_true rfl) rfl ?_
          refine m_wayRow (h := h) hd hN hr hM2 hR2 hP2 hQ2 ((hf2 79 (by decide) (by decide)).trans ((hf1 79 (by decide)).trans h79)) hbe (hF'.trans (fun k hk => (hf2 k (by omega) (by omega)).trans (hf1 k (by omega)))) (fun h3 be3 v3 u3 hM3 hR3 hF3 g79 hbe3 => ?_)
          rw [nI_add]
          refine x_inc1 dX10_waysNow_219 rfl (Nat.le_of_ble_eq_true rfl) rfl ?_
          refine x_goto dX10_waysNow_222 ?_
          exact ih h3 be3 v3 u3 hM3 hR3 hF3 g79 hbe3
    obtain ⟨be, g79⟩ := hM1.w79
    obtain ⟨ll, ow, pr, kd, pl, r57, -⟩ := id hR1
    have A38 : Ex Γ mX10_waysNow (gx_Z Γ mX10_waysNow (qWN h sz d)) 0 0 38 [.ref 57, .int (nI (d_N d)), .retAddr 0, .retAddr 0, .retAddr 0, .retAddr 0] [] (va_up h1 79 (ia 9 (filF be 0 (d_N d)))) sz := by
      have hR2 : MR (va_up h1 79 (ia 9 (filF be 0 (d_N d)))) d := hR1.of (fun j j1 j2 => up_ne (by omega))
      refine x_k dX10_waysNow_38 ?_
      refine x_istore dX10_waysNow_39 (Nat.le_of_ble_eq_true rfl) rfl ?_
      refine x_aload dX10_waysNow_40 rfl ?_
      refine x_V0i lX10_186 (Rm.of rfl) (cc1 := 0) (cn1 := 0) rfl rfl (Nat.le_of_ble_eq_true rfl) dX10_waysNow_41 (by first | assumption | rfl | exact up_same | exact (up_ne (by omega)).trans (by assumption) | exact (up_ne (by assumption)).trans (by assumption)) (m_rows hR2 hd hN) ?_
      refine x_istore dX10_waysNow_44 (Nat.le_of_ble_eq_true rfl) rfl ?_
      refine x_k dX10_waysNow_45 ?_
      refine x_istore dX10_waysNow_46 (Nat.le_of_ble_eq_true rfl) rfl ?_
      exact A47 0 (Nat.zero_le _) _ _ _ _ hM1.wk79 hR2 (hF1.trans (fun j hj => up_ne (by omega))) up_same (fun p hp => if_pos hp)
    refine x_k dX10_waysNow_15 ?_
    refine x_istore dX10_waysNow_16 (Nat.le_of_ble_eq_true rfl) rfl ?_
    refine x_eq rfl rfl (show h1 = va_up h1 79 (ia 9 (filF be 0 0)) by rw [filF_0, up_id g79]) (loopUp (P := fun p => Ex Γ mX10_waysNow _ 0 0 17 [.ref 57, .int (nI p), .retAddr 0, .retAddr 0, .retAddr 0, .retAddr 0] [] (va_up h1 79 (ia 9 (filF be 0 p))) sz) (d_N d) ?_ (fun p hp ih => ?_) 0 (Nat.zero_le _))
    · refine x_iload dX10_waysNow_17 rfl ?_
      refine x_aload dX10_waysNow_18 rfl ?_
      refine x_get fX10_104 dX10_waysNow_19 (by first | assumption | rfl | exact up_same | exact (up_ne (by omega)).trans (by assumption) | exact (up_ne (by assumption)).trans (by assumption)) ?_
      refine x_icmp_ge dX10_waysNow_22 (fun b22 => ?_) (fun b22 => ?_)
      · exact A38
      · exact absurd (Int32.le_refl _) b22
    · refine x_iload dX10_waysNow_17 rfl ?_
      refine x_aload dX10_waysNow_18 rfl ?_
      refine x_get fX10_104 dX10_waysNow_19 (by first | assumption | rfl | exact up_same | exact (up_ne (by omega)).trans (by assumption) | exact (up_ne (by assumption)).trans (by assumption)) ?_
      refine x_icmp_ge dX10_waysNow_22 (fun b22 => ?_) (fun b22 => ?_)
      · exact absurd b22 (nI_ge hp (by omega))
      · refine x_aload dX10_waysNow_25 rfl ?_
        refine x_get fX10_73 dX10_waysNow_26 (by first | assumption | rfl | exact up_same | exact (up_ne (by omega)).trans (by assumption) | exact (up_ne (by assumption)).trans (by assumption)) ?_
        refine x_iload dX10_waysNow_29 rfl ?_
        refine x_k dX10_waysNow_30 ?_
        refine x_iastn dX10_waysNow_31 (by first | assumption | rfl | exact up_same | exact (up_ne (by omega)).trans (by assumption) | exact (up_ne (by assumption)).trans (by assumption)) ⟨by first | omega | decide, by decide⟩ ?_
        refine x_inc1 dX10_waysNow_32 rfl (Nat.le_of_ble_eq_true rfl) rfl ?_
        refine x_goto dX10_waysNow_35 ?_
        rw [up_up, filF_s]; exact ih
  refine x_aload dX10_waysNow_0 rfl ?_
  refine x_V0q lX10_118 (Rm.of rfl) (cc1 := 0) (cn1 := 0) rfl rfl (Nat.le_of_ble_eq_true rfl) dX10_waysNow_1 (by first | assumption | rfl | exact up_same | exact (up_ne (by omega)).trans (by assumption) | exact (up_ne (by assumption)).trans (by assumption)) (m_reads hM hd) ?_
  rintro _ h1 _ ⟨rfl, rfl, hM1, hR1, hF1⟩
  obtain ⟨ll, ow, pr, kd, pl, r57, -⟩ := id hR1
  refine x_aload dX10_waysNow_4 rfl ?_
  refine x_get fX10_104 dX10_waysNow_5 (by first | assumption | rfl | exact up_same | exact (up_ne (by omega)).trans (by assumption) | exact (up_ne (by assumption)).trans (by assumption)) ?_
  refine x_k dX10_waysNow_8 ?_
  refine x_icmp_le dX10_waysNow_9 (fun b9 => ?_) (fun b9 => ?_)
  · exact J15 (e4.mp b9) h1 hM1 hR1 hF1
  · refine x_k dX10_waysNow_12 ?_
    refine x_iret (ty := .int) dX10_waysNow_14 rfl rfl (Nat.zero_le _) (Nat.zero_le _) ?_
    exact ⟨by rw [if_neg (fun z => b9 (e4.mpr z))], rfl, hM1, hR1, hF1, fun z => absurd (e4.mpr z) b9⟩
theorem m_were (w : Int32) (hM : MW h d) (hd : okD d) : Rn Γ mX10_were [.ref 57, .int w] h sz (qM h sz d (aWere d w)) := by
  refine x_enter 1 (by decide) rfl ?_
  obtain ⟨_, _, _, w57⟩ := hM.w57
  have hP8 : d_N d ≤ 8 := (pN_ok hd.1.2.1).1
  have J16 : ∀ h1, MW h1 d → frM h h1 → (w = -1 ∨ (0 ≤ w ∧ w < nI (d_N d))) → Ex Γ mX10_were (gx_Z Γ mX10_were (qM h sz d (aWere d w))) 0 0 16 [.ref 57, .int w, .retAddr 0] [] h1 sz := by
    intro h1 hM1 hF1 hc
    obtain ⟨_, _, _, v57⟩ := hM1.w57
    rw [aWere, if_pos hc]
    by_cases hN : d_N d ≤ 4
    · have hle := rwN_le hd hN
      have hwl : wayN d ≤ rwN d := cnt_le _ _
      have hne : ¬ nI (wayN d) = -4 := fun z => by
        have h0 := nI_pos' (n := wayN d) (by omega)
        rw [z] at h0; exact absurd h0 (by decide)
      rw [if_pos hN]
      refine x_aload dX10_were_16 rfl ?_
      refine x_V0q lX10_238 (Rm.of rfl) (cc1 := 0) (cn1 := 0) rfl rfl (Nat.le_of_ble_eq_true rfl) dX10_were_17 (by first | assumption | rfl | exact up_same | exact (up_ne (by omega)).trans (by assumption) | exact (up_ne (by assumption)).trans (by assumption)) (m_waysNow hM1 hd) ?_
      rintro _ h2 _ ⟨rfl, rfl, hM2, hR2, hF2, hbe⟩
      rw [if_pos hN]
      obtain ⟨be, g79, hbe⟩ := hbe hN
      obtain ⟨ll, ow, pr, kd, pl, r57, -⟩ := id hR2
      refine x_istore dX10_were_20 (Nat.le_of_ble_eq_true rfl) rfl ?_
      refine x_iload dX10_were_21 rfl ?_
      refine x_k dX10_were_22 ?_
      refine x_icmp_eq dX10_were_24 (fun b24 => ?_) (fun b24 => ?_)
      · exact absurd b24 hne
      · refine x_iload dX10_were_27 rfl ?_
        refine x_k dX10_were_28 ?_
        refine x_icmp_ne dX10_were_29 (fun b29 => ?_) (fun b29 => ?_)
        · have hw1 : w ≠ -1 := b29
          obtain ⟨q, hq, rfl⟩ := below (hc.resolve_left hw1).1 (hc.resolve_left hw1).2 (by omega)
          refine x_aload dX10_were_36 rfl ?_
          refine x_get fX10_73 dX10_were_37 (by first | assumption | rfl | exact up_same | exact (up_ne (by omega)).trans (by assumption) | exact (up_ne (by assumption)).trans (by assumption)) ?_
          refine x_iload dX10_were_40 rfl ?_
          refine x_ialdn dX10_were_41 (by first | assumption | rfl | exact up_same | exact (up_ne (by omega)).trans (by assumption) | exact (up_ne (by assumption)).trans (by assumption)) ⟨by first | omega | decide, by decide⟩ ?_
          refine x_iret (ty := .int) dX10_were_42 rfl rfl (Nat.zero_le _) (Nat.zero_le _) ?_
          exact ⟨by rw [if_neg hw1, sN, nI_clamp (by omega), hbe q hq], rfl, hM2, hF1.trans hF2⟩
        · refine x_iload dX10_were_32 rfl ?_
          refine x_goto dX10_were_33 ?_
          refine x_iret (ty := .int) dX10_were_42 rfl rfl (Nat.zero_le _) (Nat.zero_le _) ?_
          exact ⟨by rw [if_pos (Classical.not_not.mp b29)], rfl, hM2, hF1.trans hF2⟩
    · rw [if_neg hN]
      refine x_aload dX10_were_16 rfl ?_
      refine x_V0q lX10_238 (Rm.of rfl) (cc1 := 0) (cn1 := 0) rfl rfl (Nat.le_of_ble_eq_true rfl) dX10_were_17 (by first | assumption | rfl | exact up_same | exact (up_ne (by omega)).trans (by assumption) | exact (up_ne (by assumption)).trans (by assumption)) (m_waysNow hM1 hd) ?_
      rintro _ h2 _ ⟨rfl, rfl, hM2, hR2, hF2, hbe⟩
      rw [if_neg hN]
      refine x_istore dX10_were_20 (Nat.le_of_ble_eq_true rfl) rfl ?_
      refine x_iload dX10_were_21 rfl ?_
      refine x_k dX10_were_22 ?_
      refine x_icmp_eq dX10_were_24 (fun b24 => ?_) (fun b24 => ?_)
      · refine x_iload dX10_were_32 rfl ?_
        refine x_goto dX10_were_33 ?_
        refine x_iret (ty := .int) dX10_were_42 rfl rfl (Nat.zero_le _) (Nat.zero_le _) ?_
        exact ⟨rfl, rfl, hM2, hF1.trans hF2⟩
      · exact absurd rfl b24
  refine x_iload dX10_were_0 rfl ?_
  refine x_k dX10_were_1 ?_
  refine x_icmp_eq dX10_were_2 (fun b2 => ?_) (fun b2 => ?_)
  · first
      | exact J16 _ hM (fun _ _ => rfl) (Or.inl b2)
      | exact J16 _ hM1 hF1 (Or.inr b10)
  · refine x_aload dX10_were_5 rfl ?_
    refine x_iload dX10_were_6 rfl ?_
    refine x_V1q lX10_128 (Rm.of rfl) (cc1 := 0) (cn1 := 0) rfl rfl (Nat.le_of_ble_eq_true rfl) dX10_were_7 (by first | assumption | rfl | exact up_same | exact (up_ne (by omega)).trans (by assumption) | exact (up_ne (by assumption)).trans (by assumption)) (m_isPerson w hM hd) ?_
    rintro _ h1 _ ⟨rfl, rfl, hM1, hR1, hF1⟩
    obtain ⟨_, _, _, v57⟩ := hM1.w57
    refine x_if_ne dX10_were_10 (fun b10 => ?_) (fun b10 => ?_)
    · try simp only [i01, Classical.not_not] at b10
      first
        | exact J16 _ hM (fun _ _ => rfl) (Or.inl b2)
        | exact J16 _ hM1 hF1 (Or.inr b10)
    · try simp only [i01, Classical.not_not] at b10
      refine x_k dX10_were_13 ?_
      refine x_iret (ty := .int) dX10_were_15 rfl rfl (Nat.zero_le _) (Nat.zero_le _) ?_
      have hc : ¬ (w = -1 ∨ (0 ≤ w ∧ w < nI (d_N d))) := fun z => z.elim b2 b10
      exact ⟨by rw [aWere, if_neg hc], rfl, hM1, hF1⟩
theorem spt_and {c s : Nat} (hs : s < 9) : c &&& sptB s = 0 ↔ c.testBit (if s = 0 then 8 else s - 1) = false := by
  have e : sptB s = 2 ^ (if s = 0 then 8 else s - 1) := by
    by_cases z : s = 0
    · subst z; rfl
    · rw [sptB, if_neg z, if_neg z]
  rw [e]
  constructor
  · intro z
    have := congrArg (fun x => x.testBit (if s = 0 then 8 else s - 1)) z
    simp only [Nat.testBit_and, Nat.testBit_two_pow_self, Bool.and_true, Nat.zero_testBit] at this
    exact this
  · intro z
    apply Nat.eq_of_testBit_eq
    intro i
    rw [Nat.testBit_and, Nat.testBit_two_pow, Nat.zero_testBit]
    by_cases y : (if s = 0 then 8 else s - 1) = i
    · rw [← y, z]; rfl
    · simp [y]
theorem m_bed (hM : MW h d) (hd : okD d) : Rn Γ mX10_bed [.ref 57] h sz (qM h sz d (aBed d)) := by
  refine x_enter 2 (by decide) rfl ?_
  obtain ⟨_, _, _, w57⟩ := hM.w57
  have hP8 : d_N d ≤ 8 := (pN_ok hd.1.2.1).1
  have hH8 : d_H d ≤ 8 := (hN_ok hd.1.1).1
  rw [aBed]
  by_cases hN : d_N d ≤ 4
  · have hle := rwN_le hd hN
    have hwl : wayN d ≤ rwN d := cnt_le _ _
    have hne : ¬ nI (wayN d) = -4 := fun z => by
      have h0 := nI_pos' (n := wayN d) (by omega)
      rw [z] at h0; exact absurd h0 (by decide)
    rw [if_pos hN]
    refine x_aload dX10_bed_0 rfl ?_
    refine x_V0q lX10_238 (Rm.of rfl) (cc1 := 0) (cn1 := 0) rfl rfl (Nat.le_of_ble_eq_true rfl) dX10_bed_1 (by first | assumption | rfl | exact up_same | exact (up_ne (by omega)).trans (by assumption) | exact (up_ne (by assumption)).trans (by assumption)) (m_waysNow hM hd) ?_
    rintro _ h2 _ ⟨rfl, rfl, hM2, hR2, hF2, hbe⟩
    rw [if_pos hN]
    obtain ⟨be, g79, hbe⟩ := hbe hN
    obtain ⟨ll, ow, pr, kd, pl, r57, r60, r61, r62, r63, ro, rp⟩ := id hR2
    refine x_k dX10_bed_4 ?_
    refine x_icmp_ne dX10_bed_6 (fun b6 => ?_) (fun b6 => ?_)
    · refine x_k dX10_bed_12 ?_
      refine x_istore dX10_bed_13 (Nat.le_of_ble_eq_true rfl) rfl ?_
      refine x_k dX10_bed_14 ?_
      refine x_istore dX10_bed_15 (Nat.le_of_ble_eq_true rfl) rfl ?_
      refine x_eq rfl rfl rfl (loopUp (P := fun p => Ex Γ mX10_bed (gx_Z Γ mX10_bed (qM h sz d (nI (msk (bedB d) (d_N d))))) 0 0 16 [.ref 57, .int (nI (msk (bedB d) p)), .int (nI p)] [] h2 sz) (d_N d) ?_ (fun p hp ih => ?_) 0 (Nat.zero_le _))
      · refine x_iload dX10_bed_16 rfl ?_
        refine x_aload dX10_bed_17 rfl ?_
        refine x_get fX10_104 dX10_bed_18 (by first | assumption | rfl | exact up_same | exact (up_ne (by omega)).trans (by assumption) | exact (up_ne (by assumption)).trans (by assumption)) ?_
        refine x_icmp_ge dX10_bed_21 (fun b21 => ?_) (fun b21 => ?_)
        · refine x_iload dX10_bed_73 rfl ?_
          refine x_iret (ty := .int) dX10_bed_74 rfl rfl (Nat.zero_le _) (Nat.zero_le _) ?_
          exact ⟨rfl, rfl, hM2, hF2⟩
        · exact absurd (Int32.le_refl _) b21
      · have hps := (posN_ok hH8 (d_b1 d) p).2
        have hcl := canR_lt hd p (rwN d)
        have ew := (rp p hp).2
        have ep := pm1s (s := posN (d_H d) (d_b1 d) p) (by omega)
        have esa := spt_and (c := canR d p (rwN d)) (s := posN (d_H d) (d_b1 d) p) (by omega)
        rw [msk] at ih
        have J52 : ∀ q, q < 9 → q = (if posN (d_H d) (d_b1 d) p = 0 then 8 else posN (d_H d) (d_b1 d) p - 1) → Ex Γ mX10_bed (gx_Z Γ mX10_bed (qM h sz d (nI (msk (bedB d) (d_N d))))) 0 0 52 [.ref 57, .int (nI (msk (bedB d) p)), .int (nI p)] [.int (nI q), .int (nI (canR d p (rwN d))), .int (nI (msk (bedB d) p))] h2 sz := by
          intro q hq8 hq
          rw [← hq] at esa
          have eb := bitN1 (m := canR d p (rwN d)) (k := q) (by omega) (by omega)
          refine x_S2i lX10_149 (Rm.of rfl) (cc1 := 0) (cn1 := 0) rfl rfl (Nat.le_of_ble_eq_true rfl) dX10_bed_52 (r_isIn (nI (canR d p (rwN d))) (nI q)) ?_
          refine x_if_eq dX10_bed_55 (fun b55 => ?_) (fun b55 => ?_)
          · try simp only [i01, Classical.not_not] at b55
            refine x_k dX10_bed_62 ?_
            refine x_iload dX10_bed_63 rfl ?_
            refine x_ishl dX10_bed_64 ?_
            refine x_ior dX10_bed_65 ?_
            first
              | rw [orbit (by omega)]
              | rw [Int32.or_zero]
            refine x_istore dX10_bed_66 (Nat.le_of_ble_eq_true rfl) rfl ?_
            refine x_inc1 dX10_bed_67 rfl (Nat.le_of_ble_eq_true rfl) rfl ?_
            refine x_goto dX10_bed_70 ?_
            first
              | (have hz : bedB d p = true := decide_eq_true (esa.mpr (Bool.eq_false_iff.mpr (fun y => b55 (eb.mpr y))))
                 rw [if_pos hz] at ih; exact ih)
              | (have hz : ¬ bedB d p = true := fun z => by
                   have h1 := esa.mp (of_decide_eq_true z)
                   rw [eb.mp b55] at h1; cases h1
                 rw [if_neg hz, Nat.or_zero] at ih; exact ih)
          · try simp only [i01, Classical.not_not] at b55
            refine x_k dX10_bed_58 ?_
            refine x_goto dX10_bed_59 ?_
            refine x_ior dX10_bed_65 ?_
            first
              | rw [orbit (by omega)]
              | rw [Int32.or_zero]
            refine x_istore dX10_bed_66 (Nat.le_of_ble_eq_true rfl) rfl ?_
            refine x_inc1 dX10_bed_67 rfl (Nat.le_of_ble_eq_true rfl) rfl ?_
            refine x_goto dX10_bed_70 ?_
            first
              | (have hz : bedB d p = true := decide_eq_true (esa.mpr (Bool.eq_false_iff.mpr (fun y => b55 (eb.mpr y))))
                 rw [if_pos hz] at ih; exact ih)
              | (have hz : ¬ bedB d p = true := fun z => by
                   have h1 := esa.mp (of_decide_eq_true z)
                   rw [eb.mp b55] at h1; cases h1
                 rw [if_neg hz, Nat.or_zero] at ih; exact ih)
        refine x_iload dX10_bed_16 rfl ?_
        refine x_aload dX10_bed_17 rfl ?_
        refine x_get fX10_104 dX10_bed_18 (by first | assumption | rfl | exact up_same | exact (up_ne (by omega)).trans (by assumption) | exact (up_ne (by assumption)).trans (by assumption)) ?_
        refine x_icmp_ge dX10_bed_21 (fun b21 => ?_) (fun b21 => ?_)
        · exact absurd b21 (nI_ge hp (by omega))
        · refine x_iload dX10_bed_24 rfl ?_
          refine x_aload dX10_bed_25 rfl ?_
          refine x_get fX10_73 dX10_bed_26 (by first | assumption | rfl | exact up_same | exact (up_ne (by omega)).trans (by assumption) | exact (up_ne (by assumption)).trans (by assumption)) ?_
          refine x_iload dX10_bed_29 rfl ?_
          refine x_ialdn dX10_bed_30 (by first | assumption | rfl | exact up_same | exact (up_ne (by omega)).trans (by assumption) | exact (up_ne (by assumption)).trans (by assumption)) ⟨by first | omega | decide, by decide⟩ ?_
          rw [hbe p hp]
          refine x_aload dX10_bed_31 rfl ?_
          refine x_get fX10_25 dX10_bed_32 (by first | assumption | rfl | exact up_same | exact (up_ne (by omega)).trans (by assumption) | exact (up_ne (by assumption)).trans (by assumption)) ?_
          refine x_iload dX10_bed_35 rfl ?_
          refine x_ialdn dX10_bed_36 (by first | assumption | rfl | exact up_same | exact (up_ne (by omega)).trans (by assumption) | exact (up_ne (by assumption)).trans (by assumption)) ⟨by first | omega | decide, by decide⟩ ?_
          rw [ew]
          refine x_k dX10_bed_37 ?_
          refine x_icmp_ne dX10_bed_38 (fun b38 => ?_) (fun b38 => ?_)
          · refine x_aload dX10_bed_46 rfl ?_
            refine x_get fX10_25 dX10_bed_47 (by first | assumption | rfl | exact up_same | exact (up_ne (by omega)).trans (by assumption) | exact (up_ne (by assumption)).trans (by assumption)) ?_
            refine x_iload dX10_bed_50 rfl ?_
            refine x_ialdn dX10_bed_51 (by first | assumption | rfl | exact up_same | exact (up_ne (by omega)).trans (by assumption) | exact (up_ne (by assumption)).trans (by assumption)) ⟨by first | omega | decide, by decide⟩ ?_
            first
              | (have hz : posN (d_H d) (d_b1 d) p = 0 := ep.mp (Classical.not_not.mp b38)
                 exact J52 8 (by omega) (by rw [if_pos hz]))
              | (have hz : ¬ posN (d_H d) (d_b1 d) p = 0 := fun y => b38 (ep.mpr y)
                 obtain ⟨a, ea⟩ : ∃ a, posN (d_H d) (d_b1 d) p = a + 1 := ⟨posN (d_H d) (d_b1 d) p - 1, by omega⟩
                 rw [ew, ea, nI_m1]
                 exact J52 a (by omega) (by rw [if_neg hz, ea, Nat.add_sub_cancel]))
          · refine x_k dX10_bed_41 ?_
            refine x_goto dX10_bed_43 ?_
            first
              | (have hz : posN (d_H d) (d_b1 d) p = 0 := ep.mp (Classical.not_not.mp b38)
                 exact J52 8 (by omega) (by rw [if_pos hz]))
              | (have hz : ¬ posN (d_H d) (d_b1 d) p = 0 := fun y => b38 (ep.mpr y)
                 obtain ⟨a, ea⟩ : ∃ a, posN (d_H d) (d_b1 d) p = a + 1 := ⟨posN (d_H d) (d_b1 d) p - 1, by omega⟩
                 rw [ew, ea, nI_m1]
                 exact J52 a (by omega) (by rw [if_neg hz, ea, Nat.add_sub_cancel]))
    · exact (b6 hne).elim
  · rw [if_neg hN]
    refine x_aload dX10_bed_0 rfl ?_
    refine x_V0q lX10_238 (Rm.of rfl) (cc1 := 0) (cn1 := 0) rfl rfl (Nat.le_of_ble_eq_true rfl) dX10_bed_1 (by first | assumption | rfl | exact up_same | exact (up_ne (by omega)).trans (by assumption) | exact (up_ne (by assumption)).trans (by assumption)) (m_waysNow hM hd) ?_
    rintro _ h2 _ ⟨rfl, rfl, hM2, hR2, hF2, hbe⟩
    rw [if_neg hN]
    refine x_k dX10_bed_4 ?_
    refine x_icmp_ne dX10_bed_6 (fun b6 => ?_) (fun b6 => ?_)
    · exact absurd rfl b6
    · refine x_k dX10_bed_9 ?_
      refine x_iret (ty := .int) dX10_bed_11 rfl rfl (Nat.zero_le _) (Nat.zero_le _) ?_
      exact ⟨rfl, rfl, hM2, hF2⟩
end MWays
