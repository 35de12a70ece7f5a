/-! the calls that change the data: the new data, the answer, and the reference -/
abbrev cType (t b : Int32) : Prop := (0 ≤ t ∧ t ≤ 1) ∧ 0 ≤ b ∧ b ≤ 255
def aType (d : DT) (t b : Int32) : Int32 := if cType t b then (if t = 0 then (if d_n0 d < 30 then nI (d_n0 d + 1) else -4) else if d_n1 d < 24 then nI (d_n1 d + 1) else -4) else -2
def dT0 (d : DT) (n : Nat) (b : Nat → Int32) : DT := ((n, d.1.2.1, b, d.1.2.2.2), d.2)
def dT1 (d : DT) (n : Nat) (b : Nat → Int32) : DT := ((d.1.1, n, d.1.2.2.1, b), d.2)
def dType (d : DT) (t b : Int32) : DT := if cType t b then (if t = 0 then (if d_n0 d < 30 then dT0 d (d_n0 d + 1) (upd (d_b0 d) (d_n0 d) b) else d) else if d_n1 d < 24 then dT1 d (d_n1 d + 1) (upd (d_b1 d) (d_n1 d) b) else d) else d
abbrev cText (t : Int32) : Prop := 0 ≤ t ∧ t ≤ 1
def aWipe (d : DT) (t : Int32) : Int32 := if cText t then (if t = 0 then nI (d_n0 d) else nI (d_n1 d)) else -2
def dWipe (d : DT) (t : Int32) : DT := if cText t then (if t = 0 then dT0 d 0 (d_b0 d) else dT1 d 0 (d_b1 d)) else d
abbrev cLaw (t v : Int32) : Prop := (0 ≤ t ∧ t ≤ 2) ∧ 0 ≤ v ∧ v ≤ 1
def lawTo (L i : Nat) (v : Int32) : Nat := if v = 1 then L ||| 1 <<< i else L &&& (7 ^^^ 1 <<< i)
theorem lawTo_lt : ∀ L < 8, ∀ i < 3, ∀ v ∈ [(0 : Int32), 1], lawTo L i v < 8 ∧ ∀ j < 3, (lawTo L i v).testBit j = if j = i then decide (v = 1) else L.testBit j := by decide
def dLs (d : DT) (L ns : Nat) (sh sb : Nat → Int32) : DT := (d.1, (L, ns, sh, sb), d.2.2)
def aLaw (d : DT) (t v : Int32) : Int32 := if cLaw t v then nI ((d_L d).testBit t.toNatClampNeg).toNat else -2
def dLaw (d : DT) (t v : Int32) : DT := if cLaw t v then dLs d (lawTo (d_L d) t.toNatClampNeg v) (d_ns d) (d_sh d) (d_sb d) else d
abbrev cEight (a b : Int32) : Prop := (0 ≤ a ∧ a ≤ 7) ∧ 0 ≤ b ∧ b ≤ 7
def aSale (d : DT) (a b : Int32) : Int32 := if cEight a b then (if d_ns d < 12 then nI (d_ns d + 1) else -4) else -2
def dSale (d : DT) (a b : Int32) : DT := if cEight a b then (if d_ns d < 12 then dLs d (d_L d) (d_ns d + 1) (upd (d_sh d) (d_ns d) a) (upd (d_sb d) (d_ns d) b) else d) else d
def aUndo (d : DT) : Int32 := if d_ns d = 0 then -3 else nI (d_ns d - 1)
def dUndo (d : DT) : DT := if d_ns d = 0 then d else dLs d (d_L d) (d_ns d - 1) (d_sh d) (d_sb d)
abbrev cTaste (a b v : Int32) : Prop := (0 ≤ a ∧ a ≤ 7) ∧ (0 ≤ b ∧ b ≤ 7) ∧ a ≠ b ∧ -9 ≤ v ∧ v ≤ 9
def dWl (d : DT) (w l : Nat → Int32) : DT := (d.1, d.2.1, (w, l), d.2.2.2)
abbrev tix (a b : Int32) : Nat := 8 * a.toNatClampNeg + b.toNatClampNeg
def aWorth (d : DT) (a b v : Int32) : Int32 := if cTaste a b v then d_w d (tix a b) else -100002
def dWorth (d : DT) (a b v : Int32) : DT := if cTaste a b v then dWl d (upd (d_w d) (tix a b) v) (d_l d) else d
def aLike (d : DT) (a b v : Int32) : Int32 := if cTaste a b v then d_l d (tix a b) else -100002
def dLike (d : DT) (a b v : Int32) : DT := if cTaste a b v then dWl d (d_w d) (upd (d_l d) (tix a b) v) else d
def dFc (d : DT) (n : Nat) (p k : Nat → Int32) : DT := (d.1, d.2.1, d.2.2.1, (n, p, k), d.2.2.2.2)
def aFact (d : DT) (a b : Int32) : Int32 := if cEight a b then (if d_nf d < 8 then nI (d_nf d + 1) else -4) else -2
def dFact (d : DT) (a b : Int32) : DT := if cEight a b then (if d_nf d < 8 then dFc d (d_nf d + 1) (upd (d_fp d) (d_nf d) a) (upd (d_fk d) (d_nf d) b) else d) else d
def dForget (d : DT) : DT := dFc d 0 (d_fp d) (d_fk d)
theorem n00 : nI 0 = 0 := rfl
theorem n10 : nI 1 ≠ 0 := by decide
theorem re_to {Γ : GX} {M : MI} {as : List Value} {h h1 : Hp} {sz sz1 : Nat} {r : Option Value} {Q : QT} (c : Re Γ M as h sz r h1 sz1) (q : Q r h1 sz1) : Rn Γ M as h sz Q := Rn.mono c (fun _ _ _ ⟨e1, e2, e3⟩ => by rw [e1, e2, e3]; exact q)
section MSet
variable {Γ : GX} {h : Hp} {sz : Nat} {d : DT}
theorem m_type (t b : Int32) (hM : MW h d) (hd : okD d) : Rn Γ mX10_type [.ref 57, .int t, .int b] h sz (qM h sz (dType d t b) (aType d t b)) := by
  obtain ⟨hs, pe, ll, ty, tx, ow, pr, kd, pl, lw, wh, os, kp, tm, ls, lk, af, wt, be, th, fr, it, mv, ⟨a57, a58, a59, a60, a61, a62, a63⟩, a2, a3, a4, ⟨t0, t1, t2, t3⟩, a6, a7, a8⟩ := id hM
  obtain ⟨⟨n0, n1, -, -⟩, -⟩ := hd
  by_cases hc : cType t b
  · obtain ⟨i, hi, rfl⟩ := upto (n := 1) hc.1.1 hc.1.2 (by omega)
    have h01 : i = 0 ∨ i = 1 := by omega
    rcases h01 with rfl | rfl
    · by_cases hf : d_n0 d < 30
      · rw [aType, dType, if_pos hc, if_pos hc, if_pos n00, if_pos n00, if_pos hf, if_pos hf]
        refine re_to (r_Mtype_ok a57 a58 a59 (by omega) hc.2 t0 hf) ⟨rfl, rfl, ⟨hs, pe, ll, _, _, ow, pr, kd, pl, lw, wh, os, kp, tm, ls, lk, af, wt, be, th, fr, it, mv, ⟨a57, rfl, rfl, a60, a61, a62, a63⟩, a2, a3, a4, ⟨rfl, t1, fun i hi => ?_, fun i hi => ?_⟩, a6, a7, a8⟩, (by intro k hk; simp only [va_up]; (repeat' split) <;> first | rfl | omega)⟩
        · show upd tx (30 * 0 + d_n0 d) b i = upd (d_b0 d) (d_n0 d) b i
          simp only [upd, Nat.mul_zero, Nat.zero_add]; rw [t2 i hi]
        · show upd tx (30 * 0 + d_n0 d) b (30 + i) = d_b1 d i
          simp only [upd, Nat.mul_zero, Nat.zero_add]; rw [if_neg (by omega), t3 i hi]
      · rw [aType, dType, if_pos hc, if_pos hc, if_pos n00, if_pos n00, if_neg hf, if_neg hf]
        exact re_to (r_Mtype_full a57 a58 (by omega) hc.2 (by rw [t0, show d_n0 d = 30 by omega]; rfl)) ⟨rfl, rfl, hM, fun _ _ => rfl⟩
    · by_cases hf : d_n1 d < 24
      · rw [aType, dType, if_pos hc, if_pos hc, if_neg n10, if_neg n10, if_pos hf, if_pos hf]
        refine re_to (r_Mtype_ok a57 a58 a59 (by omega) hc.2 t1 hf) ⟨rfl, rfl, ⟨hs, pe, ll, _, _, ow, pr, kd, pl, lw, wh, os, kp, tm, ls, lk, af, wt, be, th, fr, it, mv, ⟨a57, rfl, rfl, a60, a61, a62, a63⟩, a2, a3, a4, ⟨t0, rfl, fun i hi => ?_, fun i hi => ?_⟩, a6, a7, a8⟩, (by intro k hk; simp only [va_up]; (repeat' split) <;> first | rfl | omega)⟩
        · show upd tx (30 * 1 + d_n1 d) b i = d_b0 d i
          simp only [upd]; rw [if_neg (by omega), t2 i hi]
        · show upd tx (30 * 1 + d_n1 d) b (30 + i) = upd (d_b1 d) (d_n1 d) b i
          simp only [upd]; rw [t3 i hi]
          by_cases e : i = d_n1 d
          · rw [if_pos (by omega), if_pos e]
          · rw [if_neg (by omega), if_neg e]
      · rw [aType, dType, if_pos hc, if_pos hc, if_neg n10, if_neg n10, if_neg hf, if_neg hf]
        exact re_to (r_Mtype_full a57 a58 (by omega) hc.2 (by rw [t1, show d_n1 d = 24 by omega]; rfl)) ⟨rfl, rfl, hM, fun _ _ => rfl⟩
  · rw [aType, dType, if_neg hc, if_neg hc]
    exact re_to (r_Mtype_bad (by by_cases z : 0 ≤ t ∧ t ≤ 1; exact Or.inr (fun y => hc ⟨z, y⟩); exact Or.inl z)) ⟨rfl, rfl, hM, fun _ _ => rfl⟩
theorem m_wipe (t : Int32) (hM : MW h d) : Rn Γ mX10_wipe [.ref 57, .int t] h sz (qM h sz (dWipe d t) (aWipe d t)) := by
  obtain ⟨hs, pe, ll, ty, tx, ow, pr, kd, pl, lw, wh, os, kp, tm, ls, lk, af, wt, be, th, fr, it, mv, ⟨a57, a58, a59, a60, a61, a62, a63⟩, a2, a3, a4, ⟨t0, t1, t2, t3⟩, a6, a7, a8⟩ := id hM
  by_cases hc : cText t
  · obtain ⟨i, hi, rfl⟩ := upto (n := 1) hc.1 hc.2 (by omega)
    have h01 : i = 0 ∨ i = 1 := by omega
    rcases h01 with rfl | rfl
    · rw [aWipe, dWipe, if_pos hc, if_pos hc, if_pos n00, if_pos n00]
      exact re_to (r_Mwipe_ok a57 a58 (by omega)) ⟨by rw [t0], rfl, ⟨hs, pe, ll, _, tx, ow, pr, kd, pl, lw, wh, os, kp, tm, ls, lk, af, wt, be, th, fr, it, mv, ⟨a57, rfl, a59, a60, a61, a62, a63⟩, a2, a3, a4, ⟨rfl, t1, t2, t3⟩, a6, a7, a8⟩, (by intro k hk; simp only [va_up]; (repeat' split) <;> first | rfl | omega)⟩
    · rw [aWipe, dWipe, if_pos hc, if_pos hc, if_neg n10, if_neg n10]
      exact re_to (r_Mwipe_ok a57 a58 (by omega)) ⟨by rw [t1], rfl, ⟨hs, pe, ll, _, tx, ow, pr, kd, pl, lw, wh, os, kp, tm, ls, lk, af, wt, be, th, fr, it, mv, ⟨a57, rfl, a59, a60, a61, a62, a63⟩, a2, a3, a4, ⟨t0, rfl, t2, t3⟩, a6, a7, a8⟩, (by intro k hk; simp only [va_up]; (repeat' split) <;> first | rfl | omega)⟩
  · rw [aWipe, dWipe, if_neg hc, if_neg hc]
    exact re_to (r_Mwipe_bad hc) ⟨rfl, rfl, hM, fun _ _ => rfl⟩
theorem m_law (t v : Int32) (hM : MW h d) (hd : okD d) : Rn Γ mX10_law [.ref 57, .int t, .int v] h sz (qM h sz (dLaw d t v) (aLaw d t v)) := by
  obtain ⟨hs, pe, ll, ty, tx, ow, pr, kd, pl, lw, wh, os, kp, tm, ls, lk, af, wt, be, th, fr, it, mv, ⟨a57, a1⟩, ⟨a64, a2⟩, a3, a4, a5, ⟨l0, l1, l2⟩, a7, a8⟩ := id hM
  by_cases hc : cLaw t v
  · obtain ⟨i, hi, rfl⟩ := upto (n := 2) hc.1.1 hc.1.2 (by omega)
    have hv : v = 0 ∨ v = 1 := by
      obtain ⟨j, hj, rfl⟩ := upto (n := 1) hc.2.1 hc.2.2 (by omega)
      have : j = 0 ∨ j = 1 := by omega
      rcases this with rfl | rfl
      · exact Or.inl rfl
      · exact Or.inr rfl
    have hm : v ∈ [(0 : Int32), 1] := by rcases hv with rfl | rfl <;> decide
    have hl := (lawTo_lt _ hd.2.1.1 i (by omega) v hm).2
    have hw : ∀ j, j < 3 → lw j = nI ((d_L d).testBit j).toNat := by
      intro j hj
      have : j = 0 ∨ j = 1 ∨ j = 2 := by omega
      rcases this with rfl | rfl | rfl
      · exact l0
      · exact l1
      · exact l2
    rw [aLaw, dLaw, if_pos hc, if_pos hc, nI_clamp (by omega)]
    have key : ∀ j, j < 3 → upd lw i v j = nI ((lawTo (d_L d) i v).testBit j).toNat := by
      intro j hj
      rw [hl j hj]
      simp only [upd]
      by_cases e : j = i
      · rw [if_pos e, if_pos e]; rcases hv with rfl | rfl <;> rfl
      · rw [if_neg e, if_neg e]; exact hw j hj
    exact re_to (r_Mlaw_ok a57 a64 (by omega) hc.2) ⟨by rw [hw i (by omega)], rfl, ⟨hs, pe, ll, ty, tx, ow, pr, kd, pl, _, wh, os, kp, tm, ls, lk, af, wt, be, th, fr, it, mv, ⟨a57, a1⟩, ⟨rfl, a2⟩, a3, a4, a5, ⟨key 0 (by omega), key 1 (by omega), key 2 (by omega)⟩, a7, a8⟩, (by intro k hk; simp only [va_up]; (repeat' split) <;> first | rfl | omega)⟩
  · rw [aLaw, dLaw, if_neg hc, if_neg hc]
    exact re_to (r_Mlaw_bad (by by_cases z : 0 ≤ t ∧ t ≤ 2; exact Or.inr (fun y => hc ⟨z, y⟩); exact Or.inl z)) ⟨rfl, rfl, hM, fun _ _ => rfl⟩
theorem m_saleMore (a b : Int32) (hM : MW h d) (hd : okD d) : Rn Γ mX10_saleMore [.ref 57, .int a, .int b] h sz (qM h sz (dSale d a b) (aSale d a b)) := by
  obtain ⟨hs, pe, ll, ty, tx, ow, pr, kd, pl, lw, wh, os, kp, tm, ls, lk, af, wt, be, th, fr, it, mv, ⟨a57, a1⟩, ⟨a64, a65, a66, a2⟩, a3, a4, a5, a6, a7, a8⟩ := id hM
  have hns := hd.2.1.2.1
  by_cases hc : cEight a b
  · by_cases hf : d_ns d < 12
    · rw [aSale, dSale, if_pos hc, if_pos hc, if_pos hf, if_pos hf]
      exact re_to (r_saleMore_ok a57 a65 a66 hc.1 hc.2 hf) ⟨rfl, rfl, ⟨hs, pe, ll, ty, tx, ow, pr, kd, pl, lw, wh, os, kp, tm, ls, lk, af, wt, be, th, fr, it, mv, ⟨rfl, a1⟩, ⟨a64, rfl, rfl, a2⟩, a3, a4, a5, a6, a7, a8⟩, (by intro k hk; simp only [va_up]; (repeat' split) <;> first | rfl | omega)⟩
    · rw [aSale, dSale, if_pos hc, if_pos hc, if_neg hf, if_neg hf]
      exact re_to (r_saleMore_full (by rw [a57, show d_ns d = 12 by omega]; rfl) hc.1 hc.2) ⟨rfl, rfl, hM, fun _ _ => rfl⟩
  · rw [aSale, dSale, if_neg hc, if_neg hc]
    exact re_to (r_saleMore_bad (by by_cases z : 0 ≤ a ∧ a ≤ 7; exact Or.inr (fun y => hc ⟨z, y⟩); exact Or.inl z)) ⟨rfl, rfl, hM, fun _ _ => rfl⟩
theorem m_undo (hM : MW h d) (hd : okD d) : Rn Γ mX10_undo [.ref 57] h sz (qM h sz (dUndo d) (aUndo d)) := by
  obtain ⟨hs, pe, ll, ty, tx, ow, pr, kd, pl, lw, wh, os, kp, tm, ls, lk, af, wt, be, th, fr, it, mv, ⟨a57, a1⟩, a2, a3, a4, a5, a6, a7, a8⟩ := id hM
  have hns := hd.2.1.2.1
  by_cases hc : d_ns d = 0
  · rw [aUndo, dUndo, if_pos hc, if_pos hc]
    exact re_to (r_Mundo_no (by rw [a57, hc]; rfl)) ⟨rfl, rfl, hM, fun _ _ => rfl⟩
  · rw [aUndo, dUndo, if_neg hc, if_neg hc]
    have e57 : h 57 = cM hs pe (nI (d_ns d - 1 + 1)) ll (nI (d_nf d)) (d_fi d) := by rw [a57, show d_ns d - 1 + 1 = d_ns d by omega]
    exact re_to (r_Mundo_ok e57 (by omega)) ⟨rfl, rfl, ⟨hs, pe, ll, ty, tx, ow, pr, kd, pl, lw, wh, os, kp, tm, ls, lk, af, wt, be, th, fr, it, mv, ⟨rfl, a1⟩, a2, a3, a4, a5, a6, a7, a8⟩, (by intro k hk; simp only [va_up]; (repeat' split) <;> first | rfl | omega)⟩
theorem m_worth (a b v : Int32) (hM : MW h d) : Rn Γ mX10_worth [.ref 57, .int a, .int b, .int v] h sz (qM h sz (dWorth d a b v) (aWorth d a b v)) := by
  obtain ⟨hs, pe, ll, ty, tx, ow, pr, kd, pl, lw, wh, os, kp, tm, ls, lk, af, wt, be, th, fr, it, mv, ⟨a57, a1⟩, a2, ⟨a72, a73, a3⟩, a4, a5, a6, a7, a8⟩ := id hM
  by_cases hc : cTaste a b v
  · obtain ⟨q, hq, rfl⟩ := upto (n := 7) hc.1.1 hc.1.2 (by omega)
    obtain ⟨p, hp, rfl⟩ := upto (n := 7) hc.2.1.1 hc.2.1.2 (by omega)
    rw [aWorth, dWorth, if_pos hc, if_pos hc, tix, nI_clamp (by omega), nI_clamp (by omega)]
    exact re_to (r_Mworth_ok a57 a72 (by omega) (by omega) (fun e => hc.2.2.1 (by rw [e])) hc.2.2.2) ⟨rfl, rfl, ⟨hs, pe, ll, ty, tx, ow, pr, kd, pl, lw, wh, os, kp, tm, ls, lk, af, wt, be, th, fr, it, mv, ⟨a57, a1⟩, a2, ⟨rfl, a73, a3⟩, a4, a5, a6, a7, a8⟩, (by intro k hk; simp only [va_up]; (repeat' split) <;> first | rfl | omega)⟩
  · rw [aWorth, dWorth, if_neg hc, if_neg hc]
    exact re_to (r_Mworth_bad hc) ⟨rfl, rfl, hM, fun _ _ => rfl⟩
theorem m_like (a b v : Int32) (hM : MW h d) : Rn Γ mX10_like [.ref 57, .int a, .int b, .int v] h sz (qM h sz (dLike d a b v) (aLike d a b v)) := by
  obtain ⟨hs, pe, ll, ty, tx, ow, pr, kd, pl, lw, wh, os, kp, tm, ls, lk, af, wt, be, th, fr, it, mv, ⟨a57, a1⟩, a2, ⟨a72, a73, a3⟩, a4, a5, a6, a7, a8⟩ := id hM
  by_cases hc : cTaste a b v
  · obtain ⟨q, hq, rfl⟩ := upto (n := 7) hc.1.1 hc.1.2 (by omega)
    obtain ⟨p, hp, rfl⟩ := upto (n := 7) hc.2.1.1 hc.2.1.2 (by omega)
    rw [aLike, dLike, if_pos hc, if_pos hc, tix, nI_clamp (by omega), nI_clamp (by omega)]
    exact re_to (r_Mlike_ok a57 a73 (by omega) (by omega) (fun e => hc.2.2.1 (by rw [e])) hc.2.2.2) ⟨rfl, rfl, ⟨hs, pe, ll, ty, tx, ow, pr, kd, pl, lw, wh, os, kp, tm, ls, lk, af, wt, be, th, fr, it, mv, ⟨a57, a1⟩, a2, ⟨a72, rfl, a3⟩, a4, a5, a6, a7, a8⟩, (by intro k hk; simp only [va_up]; (repeat' split) <;> first | rfl | omega)⟩
  · rw [aLike, dLike, if_neg hc, if_neg hc]
    exact re_to (r_Mlike_bad hc) ⟨rfl, rfl, hM, fun _ _ => rfl⟩
theorem m_fact (a b : Int32) (hM : MW h d) (hd : okD d) : Rn Γ mX10_fact [.ref 57, .int a, .int b] h sz (qM h sz (dFact d a b) (aFact d a b)) := by
  obtain ⟨hs, pe, ll, ty, tx, ow, pr, kd, pl, lw, wh, os, kp, tm, ls, lk, af, wt, be, th, fr, it, mv, ⟨a57, a1⟩, a2, ⟨a72, a73, a74, a75, a76, a77, a78, a3⟩, a4, a5, a6, a7, a8⟩ := id hM
  have hnf := hd.2.2.1.1
  by_cases hc : cEight a b
  · by_cases hf : d_nf d < 8
    · rw [aFact, dFact, if_pos hc, if_pos hc, if_pos hf, if_pos hf]
      exact re_to (r_Mfact_ok a57 a77 a78 hc.1 hc.2 hf) ⟨rfl, rfl, ⟨hs, pe, ll, ty, tx, ow, pr, kd, pl, lw, wh, os, kp, tm, ls, lk, af, wt, be, th, fr, it, mv, ⟨rfl, a1⟩, a2, ⟨a72, a73, a74, a75, a76, rfl, rfl, a3⟩, a4, a5, a6, a7, a8⟩, (by intro k hk; simp only [va_up]; (repeat' split) <;> first | rfl | omega)⟩
    · rw [aFact, dFact, if_pos hc, if_pos hc, if_neg hf, if_neg hf]
      exact re_to (r_Mfact_full (by rw [a57, show d_nf d = 8 by omega]; rfl) hc.1 hc.2) ⟨rfl, rfl, hM, fun _ _ => rfl⟩
  · rw [aFact, dFact, if_neg hc, if_neg hc]
    exact re_to (r_Mfact_bad (by by_cases z : 0 ≤ a ∧ a ≤ 7; exact Or.inr (fun y => hc ⟨z, y⟩); exact Or.inl z)) ⟨rfl, rfl, hM, fun _ _ => rfl⟩
theorem m_forget (hM : MW h d) : Rn Γ mX10_forget [.ref 57] h sz (qM h sz (dForget d) (nI (d_nf d))) := by
  obtain ⟨hs, pe, ll, ty, tx, ow, pr, kd, pl, lw, wh, os, kp, tm, ls, lk, af, wt, be, th, fr, it, mv, ⟨a57, a1⟩, a2, a3, a4, a5, a6, a7, a8⟩ := id hM
  exact re_to (r_Mforget a57) ⟨rfl, rfl, ⟨hs, pe, ll, ty, tx, ow, pr, kd, pl, lw, wh, os, kp, tm, ls, lk, af, wt, be, th, fr, it, mv, ⟨rfl, a1⟩, a2, a3, a4, a5, a6, a7, a8⟩, (by intro k hk; simp only [va_up]; (repeat' split) <;> first | rfl | omega)⟩
end MSet
