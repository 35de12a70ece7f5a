/-! what the class keeps of rows and of deeds; its world; recount -/
abbrev la (n : Nat) (f : Nat → Int64) : Option HC := some (.inl (.long, n, .inr (.inl f)))
abbrev sa (n : Nat) (f : Nat → Int32) : Option HC := some (.inl (.short, n, .inl f))
/-- row r: where each is, how it ends -/
def rwN (d : DT) : Nat := (d_H d + 1) ^ d_N d
def rwP (d : DT) (r p : Nat) : Nat := r / (d_H d + 1) ^ (d_N d - 1 - p) % (d_H d + 1)
noncomputable def rwR (d : DT) (r : Nat) : SS := runF (d_H d) (d_N d) (rwP d r) ((d_L d).testBit 0) ((d_L d).testBit 1) ((d_L d).testBit 2) (ownN (d_b0 d)) (cN (d_sh d)) (cN (d_sb d)) (d_ns d)
def sumN (f : Nat → Nat) : Nat → Nat
  | 0 => 0
  | n + 1 => sumN f n + f n
/-- the prices of what one owns -/
def prcS (d : DT) (own : Nat → Nat) (p : Nat) : Nat := sumN (fun j => if own j = p then priN (d_b0 d) j else 0) (d_H d)
/-- what those that one keeps are worth to one -/
def wthS (d : DT) (kp : Nat → Nat) (p : Nat) : Int32 := accF 0 (fun q => if q ≠ p ∧ kp q = p then d_w d (8 * p + q) else 0) (d_N d)
def gnS (d : DT) (s : SS) (p : Nat) : Int32 := nI (prcS d s.1 p) + wthS d s.2.1 p
noncomputable def rwG (d : DT) (p r : Nat) : Int32 := gnS d (rwR d r) p
/-- the first of the greatest -/
def bst (g : Nat → Int32) : Nat → Nat
  | 0 => 0
  | n + 1 => if g (bst g n) < g n then n else bst g n
noncomputable def bestR (d : DT) (p : Nat) : Nat := bst (rwG d p) (rwN d)
noncomputable def rwL (d : DT) (p r : Nat) : Int32 := d_l d (8 * p + (rwR d r).2.1 p)
noncomputable def rstB (d : DT) (r p : Nat) : Bool := if kinN (d_b1 d) p = 2 then decide (rwP d r p = posN (d_H d) (d_b1 d) p) else decide (∀ s, s < d_H d + 1 → ¬ rwL d p r < rwL d p (r - rwP d r p * (d_H d + 1) ^ (d_N d - 1 - p) + s * (d_H d + 1) ^ (d_N d - 1 - p)))
noncomputable def rstR (d : DT) (r : Nat) : Bool := decide (∀ p, p < d_N d → rstB d r p = true)
noncomputable def wayR (d : DT) (r : Nat) : Bool := decide (∀ i, i < d_nf d → cN (d_fp d) i < d_N d ∧ (rwR d r).2.1 (cN (d_fp d) i) = cN (d_fk d) i)
def cntB (b : Nat → Bool) (n : Nat) : Nat := sumN (fun r => (b r).toNat) n
def frsB (b : Nat → Bool) (n : Nat) : Int32 := if fst1 b n < n then nI (fst1 b n) else -1
def sptB (s : Nat) : Nat := if s = 0 then 256 else 2 ^ (s - 1)
def canF (b : Nat → Bool) (s : Nat → Nat) : Nat → Nat
  | 0 => 0
  | r + 1 => if b r then canF b s r ||| sptB (s r) else canF b s r
noncomputable def canR (d : DT) (p n : Nat) : Nat := canF (wayR d) (fun r => rwP d r p) n
def endOK (d : DT) (s : SS) (x : Int64) : Prop := ∃ n : Nat, x = Int64.ofNat n ∧ n < 2 ^ 40 ∧ ∀ p, p < d_N d → n / 4 ^ p % 4 = s.2.1 p ∧ n / (256 * 128 ^ p) % 128 = prcS d s.1 p
/-- the rows are filled, and what is known of them is so -/
def RF (d : DT) (pe sp si rk wk rs fr wy : Int32) (st bk cn : Nat → Int32) (e : Nat → Int64) : Prop :=
  (d_N d ≤ 4 ∧ pe = nI (d_N d) ∧ sp = nI (d_H d + 1) ∧ si = nI (rwN d) ∧ (∀ p, p < d_N d → st p = nI ((d_H d + 1) ^ (d_N d - 1 - p))) ∧ ∀ r, r < rwN d → endOK d (rwR d r) (e r)) ∧
  (∀ p, p < 4 → bk p = -1 ∨ (p < d_N d ∧ bk p = nI (bestR d p))) ∧
  (rk = 0 ∨ (rk = 1 ∧ rs = nI (cntB (rstR d) (rwN d)) ∧ fr = frsB (rstR d) (rwN d))) ∧
  (wk = 0 ∨ (wk = 1 ∧ wy = nI (cntB (wayR d) (rwN d)) ∧ ∀ p, p < d_N d → cn p = nI (canR d p (rwN d))))
def enOK (h : Hp) (sz : Nat) (en : Value) (e : Nat → Int64) : Prop := ∃ k, en = .ref k ∧ (85 ≤ k ∧ k < sz) ∧ h k = la 6561 e
def XR (h : Hp) (sz : Nat) (d : DT) : Prop := ∃ (en : Value) (pe sp si fi rk wk rs fr wy so dn ln : Int32) (f g kf tf is ats st bk cn : Nat → Int32),
  (h 28 = cR en pe sp si fi rk wk rs fr wy ∧ h 29 = cK 30 31 32 33 so dn ln ∧ h 30 = ia 8 f ∧ h 31 = ia 8 g ∧ h 32 = ia 8 kf ∧ h 33 = ia 8 tf) ∧
  (h 34 = ia 9 is ∧ h 35 = ia 4 ats ∧ h 36 = ia 4 st ∧ h 37 = ia 4 bk ∧ h 38 = ia 4 cn) ∧
  ((fi = 0 ∧ rk = 0 ∧ wk = 0 ∧ (∀ p, p < 4 → bk p = -1) ∧ (en = .null ∨ ∃ e, enOK h sz en e)) ∨ (fi = 1 ∧ ∃ e, enOK h sz en e ∧ RF d pe sp si rk wk rs fr wy st bk cn e))
/-- a search of deeds: the fewest, the queue, how many wait -/
abbrev QS : Type := (Nat → Int32) × (Nat → Nat) × Nat
def rch (s : QS) (way : Nat) (st : Int32) : QS := if s.1 way = -1 ∧ s.2.2 < 4096 then (upd s.1 way st, fun j => if j = s.2.2 then way else s.2.1 j, s.2.2 + 1) else s
def wown (way j : Nat) : Nat := way / 8 ^ j % 8
def wayOf (H : Nat) (own : Nat → Nat) : Nat := sumN (fun j => own j * 8 ^ j) H
noncomputable def hndW (d : DT) (way hs b : Nat) : Nat := wayOf (d_H d) (fun j => if (salT (d_H d) (d_N d) (posN (d_H d) (d_b1 d)) ((d_L d).testBit 0) ((d_L d).testBit 1) ((d_L d).testBit 2) (wown way) (fun _ => 0) b hs).testBit j then b else wown way j)
def sllB (hw : Nat → Nat → Nat → Nat) (way hs : Nat) (s : QS) : Nat → QS
  | 0 => s
  | b + 1 => rch (sllB hw way hs s b) (hw way hs b) ((sllB hw way hs s b).1 way + 1)
def sllH (hw : Nat → Nat → Nat → Nat) (N way : Nat) (s : QS) : Nat → QS
  | 0 => s
  | k + 1 => sllB hw way k (sllH hw N way s k) N
def bfsG (hw : Nat → Nat → Nat → Nat) (H N w0 : Nat) : Nat → QS
  | 0 => rch (fun _ => -1, fun _ => 0, 0) w0 0
  | i + 1 => if i < (bfsG hw H N w0 i).2.2 then sllH hw N ((bfsG hw H N w0 i).2.1 i) (bfsG hw H N w0 i) H else bfsG hw H N w0 i
noncomputable def bfs (d : DT) (n : Nat) : QS := bfsG (hndW d) (d_H d) (d_N d) (wayOf (d_H d) (ownN (d_b0 d))) n
def DF (d : DT) (ff : Nat → Int32) : Prop := d_H d ≤ 4 ∧ ∀ i, i < 4096 → ff i = (bfs d 4096).1 i
def dqOK (h : Hp) (sz : Nat) (fe qu : Value) (ff : Nat → Int32) : Prop := ∃ k l qf, fe = .ref k ∧ qu = .ref l ∧ k ≠ l ∧ (85 ≤ k ∧ k < sz) ∧ (85 ≤ l ∧ l < sz) ∧ h k = sa 4096 ff ∧ h l = sa 4096 qf
def XD (h : Hp) (sz : Nat) (d : DT) : Prop := ∃ (fe qu : Value) (wt fi so dn ln : Int32) (f g kf tf : Nat → Int32),
  (h 39 = cD fe qu wt fi ∧ h 40 = cK 41 42 43 44 so dn ln ∧ h 41 = ia 8 f ∧ h 42 = ia 8 g ∧ h 43 = ia 8 kf ∧ h 44 = ia 8 tf) ∧
  ((fi = 0 ∧ ((fe = .null ∧ qu = .null) ∨ ∃ ff, dqOK h sz fe qu ff)) ∨ (fi = 1 ∧ ∃ ff, dqOK h sz fe qu ff ∧ DF d ff))
def XW (h : Hp) (sz : Nat) (d : DT) : Prop := XA h d ∧ XK h d ∧ XR h sz d ∧ XD h sz d
/-- the reference's cells and the old ones are as they were -/
def frX (h h' : Hp) : Prop := ∀ k, (k < 4 ∨ (57 ≤ k ∧ k ≤ 84)) → h' k = h k
theorem frX.trans {h1 h2 h3 : Hp} (a : frX h1 h2) (b : frX h2 h3) : frX h1 h3 := fun k hk => (b k hk).trans (a k hk)
def qW (h : Hp) (sz : Nat) (d : DT) (a : Int32) : QT := fun r h' sz' => r = some (.int a) ∧ sz ≤ sz' ∧ XW h' sz' d ∧ frX h h'
section Cache
variable {Γ : GX} {h : Hp} {sz : Nat} {d : DT}
/-- what a change of other cells leaves -/
theorem XR.of {h' : Hp} (hR : XR h sz d) (e : ∀ k, (28 ≤ k ∧ k ≤ 38) ∨ 85 ≤ k → h' k = h k) : XR h' sz d := by
  obtain ⟨en, pe, sp, si, fi, rk, wk, rs, fr, wy, so, dn, ln, f, g, kf, tf, is, ats, st, bk, cn, a1, a2, a3⟩ := hR
  have en_of : ∀ x, enOK h sz en x → enOK h' sz en x := fun x ⟨k, z1, z2, z3⟩ => ⟨k, z1, z2, by rw [e k (Or.inr z2.1)]; exact z3⟩
  refine ⟨en, pe, sp, si, fi, rk, wk, rs, fr, wy, so, dn, ln, f, g, kf, tf, is, ats, st, bk, cn, ?_, ?_, ?_⟩
  · rw [e 28 (by decide), e 29 (by decide), e 30 (by decide), e 31 (by decide), e 32 (by decide), e 33 (by decide)]; exact a1
  · rw [e 34 (by decide), e 35 (by decide), e 36 (by decide), e 37 (by decide), e 38 (by decide)]; exact a2
  · rcases a3 with ⟨b1, b2, b3, b4, b5⟩ | ⟨b1, x, b2, b3⟩
    · refine Or.inl ⟨b1, b2, b3, b4, ?_⟩
      rcases b5 with b5 | ⟨x, b5⟩
      · exact Or.inl b5
      · exact Or.inr ⟨x, en_of x b5⟩
    · exact Or.inr ⟨b1, x, en_of x b2, b3⟩
theorem XD.of {h' : Hp} (hD : XD h sz d) (e : ∀ k, (39 ≤ k ∧ k ≤ 44) ∨ 85 ≤ k → h' k = h k) : XD h' sz d := by
  obtain ⟨fe, qu, wt, fi, so, dn, ln, f, g, kf, tf, a1, a2⟩ := hD
  have dq_of : ∀ x, dqOK h sz fe qu x → dqOK h' sz fe qu x := fun x ⟨k, l, qf, z1, z2, z3, z4, z5, z6, z7⟩ => ⟨k, l, qf, z1, z2, z3, z4, z5, by rw [e k (Or.inr z4.1)]; exact z6, by rw [e l (Or.inr z5.1)]; exact z7⟩
  refine ⟨fe, qu, wt, fi, so, dn, ln, f, g, kf, tf, ?_, ?_⟩
  · rw [e 39 (by decide), e 40 (by decide), e 41 (by decide), e 42 (by decide), e 43 (by decide), e 44 (by decide)]; exact a1
  · rcases a2 with ⟨b1, b2⟩ | ⟨b1, x, b2, b3⟩
    · refine Or.inl ⟨b1, ?_⟩
      rcases b2 with b2 | ⟨x, b2⟩
      · exact Or.inl b2
      · exact Or.inr ⟨x, dq_of x b2⟩
    · exact Or.inr ⟨b1, x, dq_of x b2, b3⟩
theorem x_recount {ss lf : Int32} (h4 : h 4 = cX ss lf) (hR : XR h sz d) (hD : XD h sz d) : Rn Γ mX9_recount [.ref 4] h sz (fun r h' sz' => r = none ∧ sz = sz' ∧ h' 4 = cX 0 lf ∧ (∀ d', XR h' sz d' ∧ XD h' sz d') ∧ ∀ k, k ≠ 4 → k ≠ 28 → k ≠ 37 → k ≠ 39 → h' k = h k) := by
  obtain ⟨en, pe, sp, si, fi, rk, wk, rs, fr, wy, so, dn, ln, f, g, kf, tf, is, ats, st, bk, cn, ⟨a28, a29, a30, a31, a32, a33⟩, ⟨a34, a35, a36, a37, a38⟩, a3⟩ := hR
  obtain ⟨fe, qu, wt, fd, so', dn', ln', f', g', kf', tf', ⟨a39, a40, a41, a42, a43, a44⟩, a5⟩ := hD
  have ev : ∀ k, k ≠ 4 → k ≠ 28 → k ≠ 37 → k ≠ 39 → (va_up (va_up (va_up (va_up h 4 (cX 0 lf)) 28 (cR en pe sp si 0 0 0 rs fr wy)) 37 (ia 4 (filF bk (-1) 4))) 39 (cD fe qu wt 0)) k = h k := by
    intro k k1 k2 k3 k4
    simp only [va_up]
    rw [if_neg k4, if_neg k3, if_neg k2, if_neg k1]
  have e85 := fun k (hk : 85 ≤ k) => ev k (by omega) (by omega) (by omega) (by omega)
  refine re_to (r_recount h4 a28 a37 a39) ⟨rfl, rfl, rfl, fun d' => ⟨⟨en, pe, sp, si, 0, 0, 0, rs, fr, wy, so, dn, ln, f, g, kf, tf, is, ats, st, _, cn, ⟨rfl, a29, a30, a31, a32, a33⟩, ⟨a34, a35, a36, rfl, a38⟩, Or.inl ⟨rfl, rfl, rfl, fun p hp => if_pos hp, ?_⟩⟩, ⟨fe, qu, wt, 0, so', dn', ln', f', g', kf', tf', ⟨rfl, a40, a41, a42, a43, a44⟩, Or.inl ⟨rfl, ?_⟩⟩⟩, ev⟩
  · have en_of : ∀ x, enOK h sz en x → enOK _ sz en x := fun x ⟨k, z1, z2, z3⟩ => ⟨k, z1, z2, (e85 k z2.1).trans z3⟩
    rcases a3 with ⟨-, -, -, -, b5 | ⟨x, b5⟩⟩ | ⟨-, x, b5, -⟩
    · exact Or.inl b5
    · exact Or.inr ⟨x, en_of x b5⟩
    · exact Or.inr ⟨x, en_of x b5⟩
  · have dq_of : ∀ x, dqOK h sz fe qu x → dqOK _ sz fe qu x := fun x ⟨k, l, qf, z1, z2, z3, z4, z5, z6, z7⟩ => ⟨k, l, qf, z1, z2, z3, z4, z5, (e85 k z4.1).trans z6, (e85 l z5.1).trans z7⟩
    rcases a5 with ⟨-, b5 | ⟨x, b5⟩⟩ | ⟨-, x, b5, -⟩
    · exact Or.inl b5
    · exact Or.inr ⟨x, dq_of x b5⟩
    · exact Or.inr ⟨x, dq_of x b5⟩
end Cache
