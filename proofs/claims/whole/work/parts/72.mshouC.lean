/-! should, of the reference: the loops -/
section MShC
variable {Γ : GX} {h : Hp} {sz : Nat} {d : DT}
theorem m_codes {Q : QT} {h0 : Hp} {way m i du k : Nat} {s : QS} {x3 : Int32} (hd : okD d) (hH : d_H d ≤ 4) (hw : way < 4096) (hs : SI d way m s) (hm : m < 4096) (K : ∀ (h2 : Hp) (v7 v8 v9 : Value), RL h0 d (sllH (hndW d) (d_N d) way s (d_H d)) h2 → Ex Γ mX10_shouldOf (gx_Z Γ mX10_shouldOf Q) 0 0 142 [.ref 57, .int (nI k), .int (nI du), .int x3, .int (nI (sllH (hndW d) (d_N d) way s (d_H d)).2.2), .int (nI (i + 1)), .int (nI way), v7, v8, v9] [] h2 sz) : ∀ c, c ≤ 8 * d_H d → ∀ (h : Hp) (v8 v9 : Value), RL h0 d (cod (hndW d) (d_N d) way s c) h → Ex Γ mX10_shouldOf (gx_Z Γ mX10_shouldOf Q) 0 0 161 [.ref 57, .int (nI k), .int (nI du), .int x3, .int (nI (cod (hndW d) (d_N d) way s c).2.2), .int (nI i), .int (nI way), .int (nI c), v8, v9] [] h sz := by
  have hP8 : d_N d ≤ 8 := (pN_ok hd.1.2.1).1
  have e8 : (8 : Int32) * nI (d_H d) = nI (8 * d_H d) := by rw [show (8 : Int32) = nI 8 from rfl, pk_mul]
  rw [← cod_H] at K
  refine loopUp (8 * d_H d) (fun h v8 v9 hL => ?_) (fun c hc ih h v8 v9 hL => ?_)
  · obtain ⟨hM, ⟨ll, ow, pr, kd, pl, r57, -⟩, -⟩ := id hL
    refine x_iload dX10_shouldOf_161 rfl ?_
    refine x_k dX10_shouldOf_163 ?_
    refine x_aload dX10_shouldOf_165 rfl ?_
    refine x_get fX10_96 dX10_shouldOf_166 (by first | assumption | rfl | exact up_same | exact (up_ne (by omega)).trans (by assumption) | exact (up_ne (by assumption)).trans (by assumption) | exact (up_ne (by omega)).trans up_same | exact (up_ne (by omega)).trans ((up_ne (by omega)).trans (by assumption))) ?_
    refine x_imul dX10_shouldOf_169 ?_
    rw [e8]
    refine x_icmp_ge dX10_shouldOf_170 (fun b170 => ?_) (fun b170 => ?_)
    · refine x_inc1 dX10_shouldOf_258 rfl (Nat.le_of_ble_eq_true rfl) rfl ?_
      refine x_goto dX10_shouldOf_261 ?_
      exact K _ _ _ _ hL
    · exact absurd (Int32.le_refl _) b170
  · obtain ⟨hM, ⟨ll, ow, pr, kd, pl, r57, -⟩, -⟩ := id hL
    have hc32 : c < 2 ^ 31 := by omega
    have gl : nI (d_N d) ≤ nI (c % 8) ↔ d_N d ≤ c % 8 := nI_leI (by omega) (by omega)
    have es := cod_s (hw := hndW d) (way := way) (s := s) hP8 c
    have hsi := SI.cod hd hH hP8 hs c
    have J252 : ∀ (h2 : Hp) (v8 v9 : Value), RL h0 d (cod (hndW d) (d_N d) way s (c + 1)) h2 → Ex Γ mX10_shouldOf (gx_Z Γ mX10_shouldOf Q) 0 0 252 [.ref 57, .int (nI k), .int (nI du), .int x3, .int (nI (cod (hndW d) (d_N d) way s (c + 1)).2.2), .int (nI i), .int (nI way), .int (nI c), v8, v9] [] h2 sz := by
      intro h2 v8 v9 hL2
      refine x_inc1 dX10_shouldOf_252 rfl (Nat.le_of_ble_eq_true rfl) rfl ?_
      refine x_goto dX10_shouldOf_255 ?_
      exact ih _ _ _ hL2
    refine x_iload dX10_shouldOf_161 rfl ?_
    refine x_k dX10_shouldOf_163 ?_
    refine x_aload dX10_shouldOf_165 rfl ?_
    refine x_get fX10_96 dX10_shouldOf_166 (by first | assumption | rfl | exact up_same | exact (up_ne (by omega)).trans (by assumption) | exact (up_ne (by assumption)).trans (by assumption) | exact (up_ne (by omega)).trans up_same | exact (up_ne (by omega)).trans ((up_ne (by omega)).trans (by assumption))) ?_
    refine x_imul dX10_shouldOf_169 ?_
    rw [e8]
    refine x_icmp_ge dX10_shouldOf_170 (fun b170 => ?_) (fun b170 => ?_)
    · exact absurd b170 (nI_ge hc (by omega))
    · refine x_iload dX10_shouldOf_173 rfl ?_
      refine x_k dX10_shouldOf_175 ?_
      refine x_iremn (d := 8) dX10_shouldOf_177 (by omega) (by decide) ?_
      refine x_aload dX10_shouldOf_178 rfl ?_
      refine x_get fX10_104 dX10_shouldOf_179 (by first | assumption | rfl | exact up_same | exact (up_ne (by omega)).trans (by assumption) | exact (up_ne (by assumption)).trans (by assumption) | exact (up_ne (by omega)).trans up_same | exact (up_ne (by omega)).trans ((up_ne (by omega)).trans (by assumption))) ?_
      refine x_icmp_ge dX10_shouldOf_182 (fun b182 => ?_) (fun b182 => ?_)
      · have hz : ¬ c % 8 < d_N d := by have := gl.mp b182; omega
        rw [if_neg hz] at es
        rw [es] at J252
        exact J252 _ _ _ hL
      · have hz : c % 8 < d_N d := by rw [gl] at b182; omega
        rw [if_pos hz] at es
        rw [es] at J252
        exact m_code hd hH hw hsi hm hc hz hL J252
theorem m_search {h0 : Hp} {du k : Nat} {a x3 : Int32} (hd : okD d) (hH : d_H d ≤ 4) (hdu : du < 4096) (ha : ∀ n, n = 4096 → (bfs d n).1 du = a) : ∀ i, i ≤ 4096 → ∀ (h : Hp) (v6 v7 v8 v9 : Value), RL h0 d (bfs d i) h → Ex Γ mX10_shouldOf (gx_Z Γ mX10_shouldOf (qM h0 sz d a)) 0 0 142 [.ref 57, .int (nI k), .int (nI du), .int x3, .int (nI (bfs d i).2.2), .int (nI i), v6, v7, v8, v9] [] h sz := by
  have fin : ∀ (i : Nat) (h : Hp) (v4 v5 v6 v7 v8 v9 : Value), RL h0 d (bfs d i) h → (bfs d i).1 du = a → Ex Γ mX10_shouldOf (gx_Z Γ mX10_shouldOf (qM h0 sz d a)) 0 0 264 [.ref 57, .int (nI k), .int (nI du), .int x3, v4, v5, v6, v7, v8, v9] [] h sz := by
    intro i h v4 v5 v6 v7 v8 v9 hL ea
    obtain ⟨hM, ⟨ll, ow, pr, kd, pl, r57, -⟩, -, ⟨af, wt, a75, a76, f75, f76⟩, hfr⟩ := id hL
    refine x_aload dX10_shouldOf_264 rfl ?_
    refine x_get fX10_61 dX10_shouldOf_265 (by first | assumption | rfl | exact up_same | exact (up_ne (by omega)).trans (by assumption) | exact (up_ne (by assumption)).trans (by assumption) | exact (up_ne (by omega)).trans up_same | exact (up_ne (by omega)).trans ((up_ne (by omega)).trans (by assumption))) ?_
    refine x_iload dX10_shouldOf_268 rfl ?_
    refine x_ialdn dX10_shouldOf_269 (by first | assumption | rfl | exact up_same | exact (up_ne (by omega)).trans (by assumption) | exact (up_ne (by assumption)).trans (by assumption) | exact (up_ne (by omega)).trans up_same | exact (up_ne (by omega)).trans ((up_ne (by omega)).trans (by assumption))) ⟨by first | omega | decide, by decide⟩ ?_
    refine x_iret (ty := .int) dX10_shouldOf_270 rfl rfl (Nat.zero_le _) (Nat.zero_le _) ?_
    exact ⟨by rw [f75 _ hdu, ea], rfl, hM, hfr⟩
  refine loopUp 4096 (fun h v6 v7 v8 v9 hL => ?_) (fun i hi ih h v6 v7 v8 v9 hL => ?_)
  · generalize hn : 4096 = n at hL ⊢
    have hle := (QI.b hd hH n).le
    have gl : nI (bfs d n).2.2 ≤ nI n ↔ (bfs d n).2.2 ≤ n := nI_leI (by omega) (by omega)
    refine x_iload dX10_shouldOf_142 rfl ?_
    refine x_iload dX10_shouldOf_144 rfl ?_
    refine x_icmp_ge dX10_shouldOf_146 (fun b146 => ?_) (fun b146 => ?_)
    · exact fin n _ _ _ _ _ _ _ hL (ha n hn.symm)
    · exact absurd (gl.mpr (by omega)) b146
  · have hqi := QI.b hd hH i
    have hle := hqi.le
    have gl : nI (bfs d i).2.2 ≤ nI i ↔ (bfs d i).2.2 ≤ i := nI_leI (by omega) (by omega)
    obtain ⟨hM, ⟨ll, ow, pr, kd, pl, r57, -⟩, -, ⟨af, wt, a75, a76, f75, f76⟩, hfr⟩ := id hL
    by_cases y : i < (bfs d i).2.2
    · have eb : bfs d (i + 1) = sllH (hndW d) (d_N d) ((bfs d i).2.1 i) (bfs d i) (d_H d) := by
        have e : bfs d (i + 1) = if i < (bfs d i).2.2 then sllH (hndW d) (d_N d) ((bfs d i).2.1 i) (bfs d i) (d_H d) else bfs d i := rfl
        rw [e, if_pos y]
      rw [eb] at ih
      obtain ⟨m, hsi, -⟩ := hqi.SI y
      obtain ⟨w1, w2, -⟩ := hqi.2 i y
      have hm1 : m < 4096 := Nat.lt_of_lt_of_le hsi.2.2 hle
      have c0 := cod_0 (hndW d) (d_N d) ((bfs d i).2.1 i) (bfs d i)
      have go := m_codes (Γ := Γ) (Q := qM h0 sz d a) (sz := sz) (h0 := h0) (du := du) (k := k) (x3 := x3) (i := i) hd hH w1 hsi hm1 (fun h2 v7 v8 v9 hL2 => ih h2 _ v7 v8 v9 hL2) 0 (Nat.zero_le _)
      rw [c0] at go
      refine x_iload dX10_shouldOf_142 rfl ?_
      refine x_iload dX10_shouldOf_144 rfl ?_
      refine x_icmp_ge dX10_shouldOf_146 (fun b146 => ?_) (fun b146 => ?_)
      · exact absurd (gl.mp b146) (by omega)
      · refine x_aload dX10_shouldOf_149 rfl ?_
        refine x_get fX10_64 dX10_shouldOf_150 (by first | assumption | rfl | exact up_same | exact (up_ne (by omega)).trans (by assumption) | exact (up_ne (by assumption)).trans (by assumption) | exact (up_ne (by omega)).trans up_same | exact (up_ne (by omega)).trans ((up_ne (by omega)).trans (by assumption))) ?_
        refine x_iload dX10_shouldOf_153 rfl ?_
        refine x_ialdn dX10_shouldOf_155 (by first | assumption | rfl | exact up_same | exact (up_ne (by omega)).trans (by assumption) | exact (up_ne (by assumption)).trans (by assumption) | exact (up_ne (by omega)).trans up_same | exact (up_ne (by omega)).trans ((up_ne (by omega)).trans (by assumption))) ⟨by first | omega | decide, by decide⟩ ?_
        rw [f76 i y]
        refine x_istore dX10_shouldOf_156 (Nat.le_of_ble_eq_true rfl) rfl ?_
        refine x_k dX10_shouldOf_158 ?_
        refine x_istore dX10_shouldOf_159 (Nat.le_of_ble_eq_true rfl) rfl ?_
        exact go _ _ _ hL
    · have hy : (bfs d i).2.2 ≤ i := Nat.le_of_not_lt y
      have ea : (bfs d i).1 du = a := by
        rw [← ha _ rfl, bfs_to (n := 4096) (Nat.le_of_lt hi) y]
      refine x_iload dX10_shouldOf_142 rfl ?_
      refine x_iload dX10_shouldOf_144 rfl ?_
      refine x_icmp_ge dX10_shouldOf_146 (fun b146 => ?_) (fun b146 => ?_)
      · exact fin i _ _ _ _ _ _ _ hL ea
      · exact absurd (gl.mpr hy) b146
end MShC
