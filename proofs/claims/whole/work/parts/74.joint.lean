/-! both sides together -/
section Joint
variable {Γ : GX} {h : Hp} {sz : Nat} {d : DT}
theorem MW.of {h' : Hp} (hM : MW h d) (e : ∀ k, 57 ≤ k → k ≤ 84 → h' k = h k) : MW h' d := by
  obtain ⟨hs, pe, ll, ty, tx, ow, pr, kd, pl, lw, wh, os, kp, tm, ls, lk, af, wt, be, th, fr, it, mv, ⟨a57, a58, a59, a60, a61, a62, a63⟩, ⟨a64, a65, a66, a67, a68, a69, a70, a71⟩, ⟨a72, a73, a74, a75, a76, a77, a78, a79⟩, ⟨a80, a81, a82, a83, a84⟩, a5⟩ := hM
  have w : ∀ {j : Nat} {c : Option HC}, h j = c → (57 ≤ j ∧ j ≤ 84) → h' j = c := fun {j c} hc hj => (e j hj.1 hj.2).trans hc
  exact ⟨hs, pe, ll, ty, tx, ow, pr, kd, pl, lw, wh, os, kp, tm, ls, lk, af, wt, be, th, fr, it, mv, ⟨w a57 (by decide), w a58 (by decide), w a59 (by decide), w a60 (by decide), w a61 (by decide), w a62 (by decide), w a63 (by decide)⟩, ⟨w a64 (by decide), w a65 (by decide), w a66 (by decide), w a67 (by decide), w a68 (by decide), w a69 (by decide), w a70 (by decide), w a71 (by decide)⟩, ⟨w a72 (by decide), w a73 (by decide), w a74 (by decide), w a75 (by decide), w a76 (by decide), w a77 (by decide), w a78 (by decide), w a79 (by decide)⟩, ⟨w a80 (by decide), w a81 (by decide), w a82 (by decide), w a83 (by decide), w a84 (by decide)⟩, a5⟩
theorem XW.of {h' : Hp} (hX : XW h sz d) (e : frM h h') : XW h' sz d :=
  ⟨hX.1.of (fun k _ k2 _ _ _ => e k (Or.inl (by omega))), hX.2.1.of (fun k hk => e k (Or.inl (by omega))), hX.2.2.1.of (fun k hk => e k (by omega)), hX.2.2.2.of (fun k hk => e k (by omega))⟩
/-- what holds between two calls -/
def JW (h : Hp) (sz : Nat) (d : DT) : Prop := XW h sz d ∧ MW h d ∧ okD d ∧ okL d ∧ 85 ≤ sz
theorem JW.x4 (hJ : JW h sz d) : ∃ fs, h 4 = some (.inr (9, fs)) := by
  obtain ⟨ss, h4⟩ := hJ.1.2.1.w4
  exact ⟨_, h4⟩
theorem JW.m57 (hJ : JW h sz d) : ∃ fs, h 57 = some (.inr (10, fs)) := by
  obtain ⟨_, _, _, h57⟩ := hJ.2.1.w57
  exact ⟨_, h57⟩
/-- after the class's call -/
theorem JW.cls {d' : DT} {h1 : Hp} {sz1 : Nat} (hJ : JW h sz d) (hz : sz ≤ sz1) (hX : XW h1 sz1 d') (hf : frX h h1) : MW h1 d ∧ 85 ≤ sz1 ∧ ∃ fs, h1 57 = some (.inr (10, fs)) := by
  have hM : MW h1 d := hJ.2.1.of (fun k k1 k2 => hf k (Or.inr ⟨k1, k2⟩))
  obtain ⟨_, _, _, h57⟩ := hM.w57
  exact ⟨hM, Nat.le_trans hJ.2.2.2.2 hz, _, h57⟩
/-- after the reference's call -/
theorem JW.ref {d' : DT} {h1 h2 : Hp} {sz1 : Nat} (hX : XW h1 sz1 d') (hz : 85 ≤ sz1) (hM : MW h2 d') (hf : frM h1 h2) (hd : okD d') (hl : okL d') : JW h2 sz1 d' := ⟨hX.of hf, hM, hd, hl, hz⟩
end Joint
