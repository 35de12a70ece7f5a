/-! should, of the reference -/
def cod (hw : Nat → Nat → Nat → Nat) (N way : Nat) (s : QS) (c : Nat) : QS := sllB hw way (c / 8) (sllH hw N way s (c / 8)) (min (c % 8) N)
theorem sllB_s (hw : Nat → Nat → Nat → Nat) (way hs : Nat) (s : QS) (b : Nat) : sllB hw way hs s (b + 1) = rch (sllB hw way hs s b) (hw way hs b) ((sllB hw way hs s b).1 way + 1) := rfl
theorem cod_s {hw : Nat → Nat → Nat → Nat} {N way : Nat} {s : QS} (hN : N ≤ 8) (c : Nat) : cod hw N way s (c + 1) = if c % 8 < N then rch (cod hw N way s c) (hw way (c / 8) (c % 8)) ((cod hw N way s c).1 way + 1) else cod hw N way s c := by
  by_cases e : c % 8 = 7
  · have e1 : (c + 1) / 8 = c / 8 + 1 := by omega
    have e2 : (c + 1) % 8 = 0 := by omega
    have l : cod hw N way s (c + 1) = sllB hw way (c / 8) (sllH hw N way s (c / 8)) N := by
      rw [cod, e1, e2, Nat.zero_min, sllB, sllH]
    rw [l, cod]
    generalize sllH hw N way s (c / 8) = X
    by_cases z : c % 8 < N
    · have hn : N = c % 8 + 1 := by omega
      rw [if_pos z, Nat.min_eq_left (by omega)]
      generalize c % 8 = r at hn
      rw [hn, sllB_s]
    · rw [if_neg z, Nat.min_eq_right (by omega)]
  · have e1 : (c + 1) / 8 = c / 8 := by omega
    have e2 : (c + 1) % 8 = c % 8 + 1 := by omega
    rw [cod, e1, e2, cod]
    generalize sllH hw N way s (c / 8) = X
    by_cases z : c % 8 < N
    · rw [if_pos z, Nat.min_eq_left (by omega), Nat.min_eq_left (by omega), sllB_s]
    · rw [if_neg z, Nat.min_eq_right (by omega), Nat.min_eq_right (by omega)]
theorem cod_0 (hw : Nat → Nat → Nat → Nat) (N way : Nat) (s : QS) : cod hw N way s 0 = s := by rw [cod, Nat.zero_mod, Nat.zero_min, sllB, Nat.zero_div, sllH]
theorem cod_H (hw : Nat → Nat → Nat → Nat) (N way : Nat) (s : QS) (H : Nat) : cod hw N way s (8 * H) = sllH hw N way s H := by
  rw [cod, Nat.mul_mod_right, Nat.zero_min, Nat.mul_div_cancel_left _ (by decide), sllB]
theorem SI.cod {d : DT} {s : QS} {way m : Nat} (hd : okD d) (hH : d_H d ≤ 4) (hN : d_N d ≤ 8) (hs' : SI d way m s) (c : Nat) : SI d way m (cod (hndW d) (d_N d) way s c) := SI.sB hd hH (SI.sH hd hH hN hs' _) _ (by omega)
/-- what the reference's cells hold in the search -/
def RL (h0 : Hp) (d : DT) (s : QS) (h : Hp) : Prop := MW h d ∧ MR h d ∧ MWh h d ∧ (∃ af wt : Nat → Int32, h 75 = ia 4096 af ∧ h 76 = ia 4096 wt ∧ (∀ i, i < 4096 → af i = s.1 i) ∧ ∀ i, i < s.2.2 → wt i = nI (s.2.1 i)) ∧ frM h0 h
section MShB
variable {Γ : GX} {h : Hp} {sz : Nat} {d : DT}
theorem MW.wrk {h' : Hp} {os kp tm ls af wt : Nat → Int32} (hM : MW h d) (e : ∀ k, 57 ≤ k → k ≤ 84 → (k < 68 ∨ (71 < k ∧ k < 75) ∨ 76 < k) → h' k = h k) (e68 : h' 68 = ia 9 os) (e69 : h' 69 = ia 9 kp) (e70 : h' 70 = ia 9 tm) (e71 : h' 71 = ia 9 ls) (e75 : h' 75 = ia 4096 af) (e76 : h' 76 = ia 4096 wt) : MW h' d := by
  obtain ⟨hs, pe, ll, ty, tx, ow, pr, kd, pl, lw, wh, os0, kp0, tm0, ls0, lk, af0, wt0, be, th, fr, it, mv, ⟨a57, a58, a59, a60, a61, a62, a63⟩, ⟨a64, a65, a66, a67, a68, a69, a70, a71⟩, ⟨a72, a73, a74, a75, a76, a77, a78, a79⟩, ⟨a80, a81, a82, a83, a84⟩, a5⟩ := hM
  have w : ∀ {j : Nat} {c : Option HC}, h j = c → (57 ≤ j ∧ j ≤ 84 ∧ (j < 68 ∨ (71 < j ∧ j < 75) ∨ 76 < j)) → h' j = c := fun {j c} hc hj => (e j hj.1 hj.2.1 hj.2.2).trans hc
  exact ⟨hs, pe, ll, ty, tx, ow, pr, kd, pl, lw, wh, os, kp, tm, ls, lk, af, wt, be, th, fr, it, mv, ⟨w a57 (by decide), w a58 (by decide), w a59 (by decide), w a60 (by decide), w a61 (by decide), w a62 (by decide), w a63 (by decide)⟩, ⟨w a64 (by decide), w a65 (by decide), w a66 (by decide), w a67 (by decide), e68, e69, e70, e71⟩, ⟨w a72 (by decide), w a73 (by decide), w a74 (by decide), e75, e76, w a77 (by decide), w a78 (by decide), w a79 (by decide)⟩, ⟨w a80 (by decide), w a81 (by decide), w a82 (by decide), w a83 (by decide), w a84 (by decide)⟩, a5⟩
theorem MWh.of {h' : Hp} (hW : MWh h d) (e : h' 67 = h 67) : MWh h' d := by
  obtain ⟨wh, a, b⟩ := hW
  exact ⟨wh, e.trans a, b⟩
/-- one code: a sale from a way -/
theorem m_code {Q : QT} {h0 : Hp} {way m c i du k : Nat} {s : QS} {x3 : Int32} {v8 v9 : Value} (hd : okD d) (hH : d_H d ≤ 4) (hw : way < 4096) (hs : SI d way m s) (hm : m < 4096) (hc : c < 8 * d_H d) (hb : c % 8 < d_N d) (hL : RL h0 d s h) (K : ∀ (h2 : Hp) (v8 v9 : Value), RL h0 d (rch s (hndW d way (c / 8) (c % 8)) (s.1 way + 1)) h2 → Ex Γ mX10_shouldOf (gx_Z Γ mX10_shouldOf Q) 0 0 252 [.ref 57, .int (nI k), .int (nI du), .int x3, .int (nI (rch s (hndW d way (c / 8) (c % 8)) (s.1 way + 1)).2.2), .int (nI i), .int (nI way), .int (nI c), v8, v9] [] h2 sz) : Ex Γ mX10_shouldOf (gx_Z Γ mX10_shouldOf Q) 0 0 185 [.ref 57, .int (nI k), .int (nI du), .int x3, .int (nI s.2.2), .int (nI i), .int (nI way), .int (nI c), v8, v9] [] h sz := by
  have hP8 : d_N d ≤ 8 := (pN_ok hd.1.2.1).1
  have hH8 : d_H d ≤ 8 := by omega
  have hc32 : c < 2 ^ 31 := by omega
  have hhs : c / 8 < d_H d := by omega
  have hb8 : c % 8 < 8 := by omega
  obtain ⟨hM, hR, ⟨wh, p67, hwh⟩, ⟨af, wt, a75, a76, f75, f76⟩, hfr⟩ := id hL
  obtain ⟨ll, ow, pr, kd, pl, r57, r60, r61, r62, r63, ro, rp⟩ := id hR
  obtain ⟨hs', pe, l2, ty, tx, ow2, pr2, kd2, pl2, lw, wh2, os, kp, tm, ls, lk, af2, wt2, be, th, fr, it, mv, -, ⟨a64, a65, a66, a67, a68, a69, a70, a71⟩, -, -, -, ⟨l0, l1, l3⟩, -, -⟩ := id hM
  have hle := hs.1.le
  obtain ⟨w1, w2⟩ := hw_ok (d := d) (way := way) (hs := c / 8) (b := c % 8) hd hH hb8
  refine x_aload dX10_shouldOf_185 rfl ?_
  refine x_iload dX10_shouldOf_186 rfl ?_
  refine x_V1q lX10_220 (Rm.of rfl) (cc1 := 0) (cn1 := 0) rfl rfl (Nat.le_of_ble_eq_true rfl) dX10_shouldOf_188 (by first | assumption | rfl | exact up_same | exact (up_ne (by omega)).trans (by assumption) | exact (up_ne (by assumption)).trans (by assumption) | exact (up_ne (by omega)).trans up_same | exact (up_ne (by omega)).trans ((up_ne (by omega)).trans (by assumption))) (r_ownsBy (own := ownN (d_b0 d)) r57 r60 a68 a69 a70 hH8 (fun j hj => ⟨(ro j hj).1, (ownN_ok hd.1.1 hj).2⟩) hw) ?_
  rintro _ _ _ ⟨rfl, rfl, ow3, kp3, tm3, rfl, hk3⟩
  refine x_aload dX10_shouldOf_191 rfl ?_
  refine x_iload dX10_shouldOf_192 rfl ?_
  refine x_k dX10_shouldOf_194 ?_
  refine x_idivn (d := 8) dX10_shouldOf_196 (by omega) (by decide) ?_
  refine x_iload dX10_shouldOf_197 rfl ?_
  refine x_k dX10_shouldOf_199 ?_
  refine x_iremn (d := 8) dX10_shouldOf_201 (by omega) (by decide) ?_
  refine x_V2q lX10_156 (Rm.of rfl) (cc1 := 0) (cn1 := 0) rfl rfl (Nat.le_of_ble_eq_true rfl) dX10_shouldOf_202 (by first | assumption | rfl | exact up_same | exact (up_ne (by omega)).trans (by assumption) | exact (up_ne (by assumption)).trans (by assumption) | exact (up_ne (by omega)).trans up_same | exact (up_ne (by omega)).trans ((up_ne (by omega)).trans (by assumption))) (r_sells (s := (wown way, fun p => p, fun _ => 0, 0)) (pos := posN (d_H d) (d_b1 d)) (w := (d_L d).testBit 0) (c := (d_L d).testBit 1) (o := (d_L d).testBit 2) (H := d_H d) (N := d_N d) r57 a64 p67 rfl rfl rfl a71 (by rw [l0]; exact law_w.1) (by rw [l1]; exact law_w.1) (by rw [l3]; exact law_w.2) (fun p hp => ⟨hwh p hp, by have := (posN_ok hH8 (d_b1 d) p).2; omega⟩) hk3 hH8 hP8 (by omega) hb8 (fun p hp => by show 0 ≤ 1000; omega)) ?_
  rintro _ _ _ ⟨rfl, rfl, ow4, kp4, tm4, ls4, hk4, rfl⟩
  have ho4 : ∀ j, j < d_H d → ow4 j = nI ((fun j => if (salT (d_H d) (d_N d) (posN (d_H d) (d_b1 d)) ((d_L d).testBit 0) ((d_L d).testBit 1) ((d_L d).testBit 2) (wown way) (fun _ => 0) (c % 8) (c / 8)).testBit j then c % 8 else wown way j) j) := fun j hj => by
    have e := (hk4.1 j hj).1
    rw [sal, if_pos ⟨hhs, hb⟩] at e
    exact e
  refine x_istore dX10_shouldOf_205 (Nat.le_of_ble_eq_true rfl) rfl ?_
  refine x_aload dX10_shouldOf_207 rfl ?_
  refine x_V0i lX10_217 (Rm.of rfl) (cc1 := 0) (cn1 := 0) rfl rfl (Nat.le_of_ble_eq_true rfl) dX10_shouldOf_208 (by first | assumption | rfl | exact up_same | exact (up_ne (by omega)).trans (by assumption) | exact (up_ne (by assumption)).trans (by assumption) | exact (up_ne (by omega)).trans up_same | exact (up_ne (by omega)).trans ((up_ne (by omega)).trans (by assumption))) (r_stateNow r57 rfl hH8 ho4) ?_
  rw [← hndW]
  refine x_istore dX10_shouldOf_211 (Nat.le_of_ble_eq_true rfl) rfl ?_
  refine x_aload dX10_shouldOf_213 rfl ?_
  refine x_get fX10_61 dX10_shouldOf_214 (by first | assumption | rfl | exact up_same | exact (up_ne (by omega)).trans (by assumption) | exact (up_ne (by assumption)).trans (by assumption) | exact (up_ne (by omega)).trans up_same | exact (up_ne (by omega)).trans ((up_ne (by omega)).trans (by assumption))) ?_
  refine x_iload dX10_shouldOf_217 rfl ?_
  refine x_ialdn dX10_shouldOf_219 (by first | assumption | rfl | exact up_same | exact (up_ne (by omega)).trans (by assumption) | exact (up_ne (by assumption)).trans (by assumption) | exact (up_ne (by omega)).trans up_same | exact (up_ne (by omega)).trans ((up_ne (by omega)).trans (by assumption))) ⟨by first | omega | decide, by decide⟩ ?_
  refine x_k dX10_shouldOf_220 ?_
  refine x_icmp_ne dX10_shouldOf_221 (fun b221 => ?_) (fun b221 => ?_)
  · first
      | (have hz : ¬ (s.1 (hndW d way (c / 8) (c % 8)) = -1 ∧ s.2.2 < 4096) := fun z => b221 (by rw [f75 _ w1]; exact z.1)
         have er : rch s (hndW d way (c / 8) (c % 8)) (s.1 way + 1) = s := by rw [rch, if_neg hz]
         rw [er] at K
         exact K _ _ _ ⟨hM.wrk (fun j h1 h2 h3 => by simp only [seH, va_up]; (repeat' split) <;> first | rfl | omega) rfl rfl rfl rfl a75 a76, hR.of (fun j h1 h2 => by simp only [seH, va_up]; (repeat' split) <;> first | rfl | omega), ⟨wh, p67, hwh⟩, ⟨af, wt, a75, a76, f75, f76⟩, hfr.trans (by intro k hk; simp only [va_up]; (repeat' split) <;> first | rfl | omega)⟩)
      | (have hz : s.1 (hndW d way (c / 8) (c % 8)) = -1 := by rw [← f75 _ w1]; exact Classical.not_not.mp b221
         have hlt := hs.1.lt w1 hz
         have er : rch s (hndW d way (c / 8) (c % 8)) (s.1 way + 1) = (upd s.1 (hndW d way (c / 8) (c % 8)) (s.1 way + 1), fun j => if j = s.2.2 then hndW d way (c / 8) (c % 8) else s.2.1 j, s.2.2 + 1) := by rw [rch, if_pos ⟨hz, hlt⟩]
         rw [er] at K
         refine K _ _ _ ⟨hM.wrk (fun j h1 h2 h3 => by simp only [seH, va_up]; (repeat' split) <;> first | rfl | omega) rfl rfl rfl rfl rfl rfl, hR.of (fun j h1 h2 => by simp only [seH, va_up]; (repeat' split) <;> first | rfl | omega), ⟨wh, p67, hwh⟩, ⟨_, _, rfl, rfl, fun j hj => ?_, fun j hj => ?_⟩, hfr.trans (by intro k hk; simp only [va_up]; (repeat' split) <;> first | rfl | omega)⟩
         · show upd af (hndW d way (c / 8) (c % 8)) (af way + 1) j = upd s.1 (hndW d way (c / 8) (c % 8)) (s.1 way + 1) j
           rw [f75 way hw]
           by_cases e : j = hndW d way (c / 8) (c % 8)
           · rw [e, upd_same, upd_same]
           · rw [upd_ne e, upd_ne e]; exact f75 j hj
         · have hj : j < s.2.2 + 1 := hj
           show upd wt s.2.2 (nI (hndW d way (c / 8) (c % 8))) j = nI (if j = s.2.2 then hndW d way (c / 8) (c % 8) else s.2.1 j)
           by_cases e : j = s.2.2
           · rw [if_pos e, e, upd_same]
           · rw [upd_ne e, if_neg e]; exact f76 j (by omega))
  · have hlt0 : s.2.2 < 4096 := hs.1.lt w1 (by rw [← f75 _ w1]; exact Classical.not_not.mp b221)
    refine x_aload dX10_shouldOf_224 rfl ?_
    refine x_get fX10_61 dX10_shouldOf_225 (by first | assumption | rfl | exact up_same | exact (up_ne (by omega)).trans (by assumption) | exact (up_ne (by assumption)).trans (by assumption) | exact (up_ne (by omega)).trans up_same | exact (up_ne (by omega)).trans ((up_ne (by omega)).trans (by assumption))) ?_
    refine x_iload dX10_shouldOf_228 rfl ?_
    refine x_aload dX10_shouldOf_230 rfl ?_
    refine x_get fX10_61 dX10_shouldOf_231 (by first | assumption | rfl | exact up_same | exact (up_ne (by omega)).trans (by assumption) | exact (up_ne (by assumption)).trans (by assumption) | exact (up_ne (by omega)).trans up_same | exact (up_ne (by omega)).trans ((up_ne (by omega)).trans (by assumption))) ?_
    refine x_iload dX10_shouldOf_234 rfl ?_
    refine x_ialdn dX10_shouldOf_236 (by first | assumption | rfl | exact up_same | exact (up_ne (by omega)).trans (by assumption) | exact (up_ne (by assumption)).trans (by assumption) | exact (up_ne (by omega)).trans up_same | exact (up_ne (by omega)).trans ((up_ne (by omega)).trans (by assumption))) ⟨by first | omega | decide, by decide⟩ ?_
    refine x_k dX10_shouldOf_237 ?_
    refine x_iadd dX10_shouldOf_238 ?_
    refine x_iastn dX10_shouldOf_239 (by first | assumption | rfl | exact up_same | exact (up_ne (by omega)).trans (by assumption) | exact (up_ne (by assumption)).trans (by assumption) | exact (up_ne (by omega)).trans up_same | exact (up_ne (by omega)).trans ((up_ne (by omega)).trans (by assumption))) ⟨by first | omega | decide, by decide⟩ ?_
    refine x_aload dX10_shouldOf_240 rfl ?_
    refine x_get fX10_64 dX10_shouldOf_241 (by first | assumption | rfl | exact up_same | exact (up_ne (by omega)).trans (by assumption) | exact (up_ne (by assumption)).trans (by assumption) | exact (up_ne (by omega)).trans up_same | exact (up_ne (by omega)).trans ((up_ne (by omega)).trans (by assumption))) ?_
    refine x_iload dX10_shouldOf_244 rfl ?_
    refine x_iload dX10_shouldOf_246 rfl ?_
    refine x_iastn dX10_shouldOf_248 (by first | assumption | rfl | exact up_same | exact (up_ne (by omega)).trans (by assumption) | exact (up_ne (by assumption)).trans (by assumption) | exact (up_ne (by omega)).trans up_same | exact (up_ne (by omega)).trans ((up_ne (by omega)).trans (by assumption))) ⟨by first | omega | decide, by decide⟩ ?_
    refine x_inc1 dX10_shouldOf_249 rfl (Nat.le_of_ble_eq_true rfl) rfl ?_
    first
      | (have hz : ¬ (s.1 (hndW d way (c / 8) (c % 8)) = -1 ∧ s.2.2 < 4096) := fun z => b221 (by rw [f75 _ w1]; exact z.1)
         have er : rch s (hndW d way (c / 8) (c % 8)) (s.1 way + 1) = s := by rw [rch, if_neg hz]
         rw [er] at K
         exact K _ _ _ ⟨hM.wrk (fun j h1 h2 h3 => by simp only [seH, va_up]; (repeat' split) <;> first | rfl | omega) rfl rfl rfl rfl a75 a76, hR.of (fun j h1 h2 => by simp only [seH, va_up]; (repeat' split) <;> first | rfl | omega), ⟨wh, p67, hwh⟩, ⟨af, wt, a75, a76, f75, f76⟩, hfr.trans (by intro k hk; simp only [va_up]; (repeat' split) <;> first | rfl | omega)⟩)
      | (have hz : s.1 (hndW d way (c / 8) (c % 8)) = -1 := by rw [← f75 _ w1]; exact Classical.not_not.mp b221
         have hlt := hs.1.lt w1 hz
         have er : rch s (hndW d way (c / 8) (c % 8)) (s.1 way + 1) = (upd s.1 (hndW d way (c / 8) (c % 8)) (s.1 way + 1), fun j => if j = s.2.2 then hndW d way (c / 8) (c % 8) else s.2.1 j, s.2.2 + 1) := by rw [rch, if_pos ⟨hz, hlt⟩]
         rw [er] at K
         refine K _ _ _ ⟨hM.wrk (fun j h1 h2 h3 => by simp only [seH, va_up]; (repeat' split) <;> first | rfl | omega) rfl rfl rfl rfl rfl rfl, hR.of (fun j h1 h2 => by simp only [seH, va_up]; (repeat' split) <;> first | rfl | omega), ⟨wh, p67, hwh⟩, ⟨_, _, rfl, rfl, fun j hj => ?_, fun j hj => ?_⟩, hfr.trans (by intro k hk; simp only [va_up]; (repeat' split) <;> first | rfl | omega)⟩
         · show upd af (hndW d way (c / 8) (c % 8)) (af way + 1) j = upd s.1 (hndW d way (c / 8) (c % 8)) (s.1 way + 1) j
           rw [f75 way hw]
           by_cases e : j = hndW d way (c / 8) (c % 8)
           · rw [e, upd_same, upd_same]
           · rw [upd_ne e, upd_ne e]; exact f75 j hj
         · have hj : j < s.2.2 + 1 := hj
           show upd wt s.2.2 (nI (hndW d way (c / 8) (c % 8))) j = nI (if j = s.2.2 then hndW d way (c / 8) (c % 8) else s.2.1 j)
           by_cases e : j = s.2.2
           · rw [if_pos e, e, upd_same]
           · rw [upd_ne e, if_neg e]; exact f76 j (by omega))
end MShB
