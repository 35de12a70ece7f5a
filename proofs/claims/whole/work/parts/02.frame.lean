/-! THE FRAME: an abstract heap (cells by numbers), the judgement Ex at an instruction, the judgement Rn of a method; a row an instruction. -/
abbrev HC : Type := (FieldType × vp_A) ⊕ (Nat × List Value)
abbrev Hp : Type := Nat → Option HC
/-- launch; class numbers and places of fields; the first new address; the addresses of the four old cells; the script -/
abbrev GX : Type := Launch × va_G × Nat × (Nat → Nat) × Nat × (Nat → Int32)
def gx_ad (Γ : GX) : Nat → Nat
  | 0 => Γ.2.2.2.1 0
  | 1 => Γ.2.2.2.1 1
  | 2 => Γ.2.2.2.1 2
  | 3 => Γ.2.2.2.1 3
  | k + 4 => Γ.2.2.1 + k
def gx_v (Γ : GX) (v : Value) : Value := match v with
  | .ref k => .ref (gx_ad Γ k)
  | .int x => .int x
  | .long x => .long x
  | .float x => .float x
  | .double x => .double x
  | .null => .null
  | .retAddr x => .retAddr x
def gx_a (Γ : GX) (a : vp_A) : vp_A := (a.1, match a.2 with
  | .inr (.inr (.inr (.inr f))) => .inr (.inr (.inr (.inr (fun j => (f j).map (gx_ad Γ)))))
  | .inl f => .inl f
  | .inr (.inl f) => .inr (.inl f)
  | .inr (.inr (.inl f)) => .inr (.inr (.inl f))
  | .inr (.inr (.inr (.inl f))) => .inr (.inr (.inr (.inl f))))
def gx_A (Γ : GX) : Nat → Prop := fun q => Γ.2.2.1 ≤ q
/-- cell number k of the heap H is c -/
def gx_c (Γ : GX) (U : State) (H : Heap) (k : Nat) (c : HC) : Prop := match c with
  | .inl a => ∃ cA : ClassId, ArrOfT U cA a.1 ∧ va_RA U cA a.1 ∧ H[gx_ad Γ k]? = some (vp_cell cA (gx_a Γ a.2))
  | .inr o => ∃ r : vw_C, kls[o.1]? = some r ∧ t_OB (gx_ad Γ k) (Γ.2.1.1 o.1) r.2.2 (Γ.2.1.2 o.1) H (vp_V (o.2.map (gx_v Γ)))
/-- what stands in the tables alone: the text "ogl" -/
def gx_s (Γ : GX) (U : State) : Prop := vk_R "SoldWithIt$Street" 52 "ogl" (gx_ad Γ 2) U ∧ (∀ q ∈ nlk, va_Nw (.methodLinkNest q.1 q.2.1 q.2.2.1 q.2.2.2) U) ∧ va_AO "SoldWithIt$Text" U ∧ va_AO "SoldWithIt$Sheet" U
/-- the old cells: the script, ONESELF, the text "ogl" and its bytes -/
def gx_x (Γ : GX) (U : State) (H : Heap) : Prop :=
  (va_X (gx_ad Γ 0) Γ.2.2.2.2.1 Γ.2.2.2.2.2 U H ∧ gx_ad Γ 0 < Γ.2.2.1) ∧
  va_Z "SoldWithIt$Stroke" "ONESELF" "[I" (.ref (gx_ad Γ 1)) (gx_A Γ) U H ∧ va_T .int (gx_ad Γ 1) 8 (fun j => .int (nI j)) (gx_A Γ) U H ∧
  va_Z "java/lang/String" "COMPACT_STRINGS" "Z" (.int 1) (gx_A Γ) U H ∧ va_O "java/lang/String" (gx_ad Γ 2) (gx_A Γ) U H ∧
  va_OF "java/lang/String" "coder" "B" (.int 0) (gx_ad Γ 2) (gx_A Γ) U H ∧ va_OF "java/lang/String" "value" "[B" (.ref (gx_ad Γ 3)) (gx_ad Γ 2) (gx_A Γ) U H ∧
  va_T .byte (gx_ad Γ 3) 3 (fun j => .int (if j = 0 then 111 else if j = 1 then 103 else 108)) (gx_A Γ) U H
/-- the world: sz numbers are taken -/
def gx_W (Γ : GX) (U : State) (H : Heap) (h : Hp) (sz : Nat) : Prop :=
  va_K Γ.2.1 kls [] U ∧ H.size + 4 = Γ.2.2.1 + sz ∧ Γ.2.2.1 ≤ H.size ∧ (∀ k c, h k = some c → 4 ≤ k ∧ k < sz ∧ gx_c Γ U H k c) ∧ gx_x Γ U H
theorem gx_x.moved {Γ : GX} {u U : State} {H : Heap} (hvm : u.vm.Alike U.vm) (h : gx_x Γ u H) : gx_x Γ U H := by
  obtain ⟨⟨h0, h00⟩, h1, h2, h3, h4, h5, h6, h7⟩ := h
  exact ⟨⟨h0.moved hvm, h00⟩, h1.moved hvm, h2.moved hvm, h3.moved hvm, h4.moved hvm, h5.moved hvm, h6.moved hvm, h7.moved hvm⟩
theorem gx_x.kept {Γ : GX} {U : State} {H H1 : Heap} (h : gx_x Γ U H) (hq : ∀ a : Nat, a < H.size → a < Γ.2.2.1 → H1[a]? = H[a]?) : gx_x Γ U H1 := by
  have hk : ∀ a : Nat, a < H.size → ¬ gx_A Γ a → H1[a]? = H[a]? := fun a h1 h2 => hq a h1 (Nat.not_le.mp h2)
  obtain ⟨⟨⟨scr, z1, z2⟩, h00⟩, h1, h2, h3, h4, h5, h6, h7⟩ := h
  refine ⟨⟨⟨scr, ?_, z2⟩, h00⟩, h1.kept hk, h2.kept hk, h3.kept hk, h4.kept hk, h5.kept hk, h6.kept hk, h7.kept hk⟩
  rw [hq _ (Array.getElem?_eq_some_iff.mp z1).1 h00]; exact z1
theorem gx_c.moved {Γ : GX} {u U : State} {H : Heap} {k : Nat} {c : HC} (hvm : u.vm.Alike U.vm) (h : gx_c Γ u H k c) : gx_c Γ U H k c := by
  cases c with
  | inl a =>
    obtain ⟨cA, h1, h2, h3⟩ := h
    exact ⟨cA, arrOfT_moved hvm h1, h2.moved hvm, h3⟩
  | inr o => exact h
theorem gx_c.kept {Γ : GX} {U : State} {H H1 : Heap} {k : Nat} {c : HC} (h : gx_c Γ U H k c) (hq : H1[gx_ad Γ k]? = H[gx_ad Γ k]?) : gx_c Γ U H1 k c := by
  cases c with
  | inl a =>
    obtain ⟨cA, h1, h2, h3⟩ := h
    exact ⟨cA, h1, h2, by rw [hq]; exact h3⟩
  | inr o =>
    obtain ⟨r, h1, h2⟩ := h
    exact ⟨r, h1, h2.kept hq⟩
theorem gx_W.moved {Γ : GX} {u U : State} {H : Heap} {h : Hp} {sz : Nat} (hvm : u.vm.Alike U.vm) (w : gx_W Γ u H h sz) : gx_W Γ U H h sz :=
  ⟨w.1.moved hvm, w.2.1, w.2.2.1, fun k c hc => ⟨(w.2.2.2.1 k c hc).1, (w.2.2.2.1 k c hc).2.1, (w.2.2.2.1 k c hc).2.2.moved hvm⟩, w.2.2.2.2.moved hvm⟩
theorem gx_ad4 (Γ : GX) {k : Nat} (h : 4 ≤ k) : gx_ad Γ k = Γ.2.2.1 + (k - 4) := by
  obtain ⟨j, rfl⟩ : ∃ j, k = j + 4 := ⟨k - 4, by omega⟩
  rw [show j + 4 - 4 = j by omega]; rfl
/-- a cell is written: the rest stays -/
theorem gx_W.set {Γ : GX} {U : State} {H H1 : Heap} {h : Hp} {sz k : Nat} {c c0 : HC} (w : gx_W Γ U H h sz) (h0 : h k = some c0) (hz : H1.size = H.size) (ho : ∀ q, q ≠ gx_ad Γ k → H1[q]? = H[q]?) (hc : gx_c Γ U H1 k c) : gx_W Γ U H1 (va_up h k (some c)) sz := by
  obtain ⟨w1, w2, w2', w3, w4⟩ := w
  obtain ⟨h4, hk, -⟩ := w3 k c0 h0
  refine ⟨w1, by rw [hz]; exact w2, by rw [hz]; exact w2', fun j c' hj => ?_, w4.kept fun a _ ha => ho a ?_⟩
  · by_cases e : j = k
    · subst e
      rw [show va_up h j (some c) j = some c from if_pos rfl] at hj
      cases hj
      exact ⟨h4, hk, hc⟩
    · rw [show va_up h k (some c) j = h j from if_neg e] at hj
      obtain ⟨j4, jz, jc⟩ := w3 j c' hj
      exact ⟨j4, jz, jc.kept (ho _ (by rw [gx_ad4 Γ j4, gx_ad4 Γ h4]; omega))⟩
  · rw [gx_ad4 Γ h4]; omega
/-- a cell more -/
theorem gx_W.push {Γ : GX} {U : State} {H H1 : Heap} {h : Hp} {sz : Nat} {c : HC} (w : gx_W Γ U H h sz) (hz : H1.size = H.size + 1) (ho : ∀ q, q < H.size → H1[q]? = H[q]?) (hc : gx_c Γ U H1 sz c) : gx_W Γ U H1 (va_up h sz (some c)) (sz + 1) := by
  obtain ⟨w1, w2, w2', w3, w4⟩ := w
  refine ⟨w1, by rw [hz]; omega, by omega, fun j c' hj => ?_, w4.kept fun a ha _ => ho a ha⟩
  by_cases e : j = sz
  · subst e
    rw [show va_up h j (some c) j = some c from if_pos rfl] at hj
    cases hj
    exact ⟨by omega, by omega, hc⟩
  · rw [show va_up h sz (some c) j = h j from if_neg e] at hj
    obtain ⟨j4, jz, jc⟩ := w3 j c' hj
    exact ⟨j4, by omega, jc.kept (ho _ (by rw [gx_ad4 Γ j4]; omega))⟩
theorem gx_W.next {Γ : GX} {U : State} {H : Heap} {h : Hp} {sz : Nat} (w : gx_W Γ U H h sz) : gx_ad Γ sz = H.size ∧ 4 ≤ sz := by
  have h4 : 4 ≤ sz := by have := w.2.1; have := w.2.2.1; omega
  exact ⟨by rw [gx_ad4 Γ h4]; have := w.2.1; omega, h4⟩
/-- local variables: a place that nothing is known of holds a retAddr -/
def gx_l (Γ : GX) (ls : Array Slot) (nL : Nat) (lv : List Value) : Prop := ls.size = nL ∧ lv_wf ls ∧ ∀ (i : Nat) (v : Value), lv[i]? = some v → (∀ z, v ≠ .retAddr z) → ls[i]? = some (.val (gx_v Γ v))
/-- the machine stands in the method M -/
def gx_F (Γ : GX) (M : MI) (p : Program) (s : State) (m : MethodId) (args : Array Value) (meth : Method) (c : Code) : Prop :=
  p.tables.exec = Jvm.exec ∧ c.code = M.2.1 ∧ meth.sig.returnType = M.2.2.2.1 ∧ c.maxLocals = M.2.2.1 ∧ s.vm.findClass M.1.cls = some m.cls ∧ (∀ w ∈ gtbl, w.before args s = true) ∧ meth.locks = false ∧ meth.name = M.1.name ∧ gx_s Γ s
abbrev ZT : Type := Array Value → State → List Frame → State → Prop
/-- at instruction pc of M, locals lv, operands st, heap h: the machine comes to Z; cc cells of cn slots were made since M began -/
def Ex (Γ : GX) (M : MI) (Z : ZT) (cc cn pc : Nat) (lv st : List Value) (h : Hp) (sz : Nat) : Prop :=
  ∀ (p : Program) (e : Env) (s : State) (m : MethodId) (args : Array Value) (below : List Frame) (meth : Method) (c : Code), gx_F Γ M p s m args meth c →
  ∀ (H : Heap) (locs : List Loc) (ls : Array Slot), gx_W Γ s H h sz → (∀ q ∈ locs, Γ.2.2.1 ≤ q.base) → gx_l Γ ls M.2.2.1 lv →
    W p Γ.1 e M.2.2.2.2 s m args below meth c H locs cc cn (Z args s below) (F0 m pc ls (st.map (gx_v Γ)))
abbrev QT : Type := Option Value → Hp → Nat → Prop
def gx_P (Γ : GX) (as : List Value) (h : Hp) (sz : Nat) : Array Value → State → Prop := fun v U => v = (as.map (gx_v Γ)).toArray ∧ gx_W Γ U U.heap h sz ∧ gx_s Γ U
def gx_Q (Γ : GX) (Q : QT) : Array Value → State → Outcome → State → Prop := fun _ _ o t => ∃ (r : Option Value) (h : Hp) (sz : Nat), o = .returned (r.map (gx_v Γ)) ∧ Q r h sz ∧ gx_W Γ t t.heap h sz
abbrev gx_ws (M : MI) : List Cond := Cond.code M.1 M.2.1 M.2.2.1 M.2.2.2.1 :: gtbl
def gx_Z (Γ : GX) (M : MI) (Q : QT) : ZT := fun args s below => MQ below (gx_Q Γ Q) args s M.2.2.2.2.cells M.2.2.2.2.slots (gx_A Γ)
/-- M at the arguments as in the heap h returns, with Q -/
def Rn (Γ : GX) (M : MI) (as : List Value) (h : Hp) (sz : Nat) (Q : QT) : Prop := Met Γ.1 M.1 (gx_ws M) M.2.2.2.2 (gx_P Γ as h sz) (gx_Q Γ Q) M.2.2.2.2.cells M.2.2.2.2.slots (gx_A Γ)
/-- a decoded instruction, and what follows it -/
def Dc (c : ByteArray) (pc : Nat) (i : Instr) (n pc' : Nat) : Prop := decode c pc = .ok (i, n) ∧ pc + n = pc'
def Dj (c : ByteArray) (pc : Nat) (i : Instr) (off : Int) (n pc' tgt : Nat) : Prop := decode c pc = .ok (i, n) ∧ pc + n = pc' ∧ (pc : Int) + off = (tgt : Int)
