theorem arr_I : Cond.arrayClass (newarray.typeOf .int) ∈ gtbl := gt_at 112 (by decide +kernel) rfl
theorem arr_L : Cond.arrayClass (newarray.typeOf .long) ∈ gtbl := gt_at 741 (by decide +kernel) rfl
theorem arr_S : Cond.arrayClass (newarray.typeOf .short) ∈ gtbl := gt_at 826 (by decide +kernel) rfl
theorem arr_Z : Cond.arrayClass (newarray.typeOf .boolean) ∈ gtbl := gt_at 1074 (by decide +kernel) rfl
section Heap1
variable {Γ : GX} {M : MI} {Z : ZT} {cc cn pc pc' tgt : Nat} {lv st : List Value} {h : Hp} {sz : Nat}
/-- field k of class ci, as the class own links it by its entry idx -/
def Fl (own : String) (idx ci k : Nat) : Prop := ∃ (C : String) (T : u_T) (N : Nat), kls[ci]? = some (C, T, N) ∧ k < N ∧ (∀ w ∈ u_ws C T N, w ∈ gtbl) ∧ Cond.fieldLink own idx (T k).1 (T k).2.1 (T k).2.2.1 ∈ gtbl
theorem vp_V_map (Γ : GX) (fs : List Value) (k : Nat) : vp_V (fs.map (gx_v Γ)) k = gx_v Γ (fs.getD k .null) := by
  simp only [vp_V, List.getD_eq_getElem?_getD, List.getElem?_map]
  cases fs[k]? <;> rfl
theorem x_get {idx ci k a : Nat} {fs : List Value} (f : Fl M.1.cls idx ci k) (d : Dc M.2.1 pc (.getfield idx) 3 pc') (ha : h a = some (.inr (ci, fs))) (kk : Ex Γ M Z cc cn pc' lv (fs.getD k .null :: st) h sz) : Ex Γ M Z cc cn pc lv (.ref a :: st) h sz := by
  obtain ⟨d, rfl⟩ := d
  obtain ⟨C, T, N, hc, hk, hin, hlk⟩ := f
  intro p e s m args below meth c F H locs ls hw hL hl
  obtain ⟨-, -, r, h1, h2⟩ := hw.2.2.2.1 a _ ha
  have hr : r = (C, T, N) := Option.some.inj (h1.symm.trans hc)
  subst hr
  obtain ⟨cell, q1, q2, q3, q4⟩ := h2
  obtain ⟨hS, hfc, kC, hkC, hkind⟩ := hw.1.1 ci _ hc
  obtain ⟨cf, kf, fi, f, hi, hsl⟩ := hS k hk
  refine W.getf F.1 F.2.1 F.2.2.2.2.1 (F.2.2.2.2.2.1 _ hlk) hi (u_facts hfc hkC (u_lays F.2.2.2.2.2.1 hin hk) hi).1 q1 (by rw [q3]; exact fun h => by cases h) (v := gx_v Γ (fs.getD k .null)) ?_ rfl rfl d (kk p e s m args below meth c F H locs ls hw hL hl)
  rw [hsl, q4 k hk, vp_V_map]
/-- what may stand in field k of class ci -/
def Fw (ci k : Nat) (v : Value) : Prop := ∃ (C : String) (T : u_T) (N : Nat) (ty : FieldType), kls[ci]? = some (C, T, N) ∧ parseFieldDescriptor (T k).2.2.1 = some ty ∧ narrow ty v = v ∧ fits ty v = true
def Tt (ci : Nat) : Prop := ∃ (C : String) (T : u_T) (N : Nat) (ty0 : Nat → FieldType), kls[ci]? = some (C, T, N) ∧ (∀ k, k < N → parseFieldDescriptor (T k).2.2.1 = some (ty0 k)) ∧ (∀ a, a < N → ∀ b, b < N → a ≠ b → (T a).2.1 ≠ (T b).2.1) ∧ (∀ w ∈ u_ws C T N, w ∈ gtbl)
def Ff (ci k : Nat) (own : String) (fin : Bool) : Prop := ∃ (C : String) (T : u_T) (N : Nat), kls[ci]? = some (C, T, N) ∧ (T k).2.2.2 = fin ∧ (fin = true → (T k).1 = own)
theorem narrow_gx {Γ : GX} {ty : FieldType} {v : Value} (h1 : narrow ty v = v) (h2 : fits ty v = true) : narrow ty (gx_v Γ v) = gx_v Γ v ∧ fits ty (gx_v Γ v) = true := by
  cases v <;> first | exact ⟨h1, h2⟩ | (cases ty <;> first | exact ⟨rfl, h2⟩ | exact ⟨rfl, rfl⟩ | (simp [fits] at h2))
theorem vp_V_set (Γ : GX) (fs : List Value) {k : Nat} (hk : k < fs.length) (v : Value) (j : Nat) : updV (vp_V (fs.map (gx_v Γ))) k (gx_v Γ v) j = vp_V ((fs.set k v).map (gx_v Γ)) j := by
  rw [List.map_set]
  exact vp_updV_set (by rw [List.length_map]; exact hk) (gx_v Γ v) j
theorem locs_add {Γ : GX} {locs : List Loc} {a q : Nat} (hL : ∀ q ∈ locs, Γ.2.2.1 ≤ q.base) (h4 : 4 ≤ a) : ∀ l ∈ locs ++ [⟨gx_ad Γ a, q⟩], Γ.2.2.1 ≤ l.base := by
  intro l hl
  rcases List.mem_append.mp hl with h | h
  · exact hL l h
  · cases List.mem_singleton.mp h
    show Γ.2.2.1 ≤ gx_ad Γ a
    rw [gx_ad4 Γ h4]; omega
theorem x_put {idx ci k a : Nat} {fs : List Value} {v : Value} (f : Fl M.1.cls idx ci k) (t : Tt ci) (g : Ff ci k M.1.cls false) (d : Dc M.2.1 pc (.putfield idx) 3 pc') (ha : h a = some (.inr (ci, fs))) (hk2 : k < fs.length) (hv : Fw ci k v)
    (kk : Ex Γ M Z cc cn pc' lv st (va_up h a (some (.inr (ci, fs.set k v)))) sz) : Ex Γ M Z cc cn pc lv (v :: .ref a :: st) h sz := by
  obtain ⟨d, rfl⟩ := d
  obtain ⟨C, T, N, hc, hk, hin, hlk⟩ := f
  obtain ⟨C1, T1, N1, ty0, hc1, hty, hnm, -⟩ := t
  have e1 := hc.symm.trans hc1
  cases e1
  obtain ⟨C1, T1, N1, hc1, hfin, hdecl⟩ := g
  have e1 := hc.symm.trans hc1
  cases e1
  obtain ⟨C1, T1, N1, ty, hc1, hd, hn, hfit⟩ := hv
  have e1 := hc.symm.trans hc1
  cases e1
  obtain ⟨hn, hfit⟩ := narrow_gx (Γ := Γ) hn hfit
  intro p e s m args below meth c F H locs ls hw hL hl
  obtain ⟨h4, -, r, h1, cell, q1, q2, q3, q4⟩ := hw.2.2.2.1 a _ ha
  have hr : r = (C, T, N) := Option.some.inj (h1.symm.trans hc)
  subst hr
  have hap := va_apart (own := M.1.cls) (cl := kls) (D := Γ.2.1) F.2.2.2.2.2.1 hin ty0 hty hnm hw.1 hc
  obtain ⟨hS, hfc, kC, hkC, hkind⟩ := hw.1.1 ci _ hc
  obtain ⟨cf, kf, fi, f, hi, hsl⟩ := hS k hk
  have hlay := F.2.2.2.2.2.1 _ (hin _ (u_in_lay hk))
  unfold u_lay at hlay
  have hst := (u_facts hfc hkC (u_lays F.2.2.2.2.2.1 hin hk) hi).1
  rw [if_neg (by rw [hfin]; decide)] at hlay
  have h6 := u_store hfc hkC hkind hlay hi hd hn hfit
  refine W.putK F.1 F.2.1 (f := f) ⟨F.2.2.2.2.1, F.2.2.2.2.2.1 _ hlk, ⟨_, _, _, hi⟩, hst⟩ (by rw [q2]; exact h6) q1 q3 (by rw [hsl]; exact k2_hasslot (q4 k hk)) rfl rfl d fun H' e1 e2 e3 => ?_
  rw [hsl] at e1 ⊢
  exact kk p e s m args below meth c F H' _ ls (hw.set ha e2 e3 ⟨_, hc, t_OB.to (V := updV (vp_V (fs.map (gx_v Γ))) k (gx_v Γ v)) ⟨_, e1, q2, q3, t_set q4 hap hk (gx_v Γ v)⟩ (fun j _ => vp_V_set Γ fs hk2 v j)⟩) (locs_add hL h4) hl
theorem x_putF {idx ci k a : Nat} {fs : List Value} {v : Value} (f : Fl M.1.cls idx ci k) (t : Tt ci) (g : Ff ci k M.1.cls true) (hinit : M.1.name = "<init>") (d : Dc M.2.1 pc (.putfield idx) 3 pc') (ha : h a = some (.inr (ci, fs))) (hk2 : k < fs.length) (hv : Fw ci k v)
    (kk : Ex Γ M Z cc cn pc' lv st (va_up h a (some (.inr (ci, fs.set k v)))) sz) : Ex Γ M Z cc cn pc lv (v :: .ref a :: st) h sz := by
  obtain ⟨d, rfl⟩ := d
  obtain ⟨C, T, N, hc, hk, hin, hlk⟩ := f
  obtain ⟨C1, T1, N1, ty0, hc1, hty, hnm, -⟩ := t
  have e1 := hc.symm.trans hc1
  cases e1
  obtain ⟨C1, T1, N1, hc1, hfin, hdecl⟩ := g
  have e1 := hc.symm.trans hc1
  cases e1
  obtain ⟨C1, T1, N1, ty, hc1, hd, hn, hfit⟩ := hv
  have e1 := hc.symm.trans hc1
  cases e1
  obtain ⟨hn, hfit⟩ := narrow_gx (Γ := Γ) hn hfit
  intro p e s m args below meth c F H locs ls hw hL hl
  obtain ⟨h4, -, r, h1, cell, q1, q2, q3, q4⟩ := hw.2.2.2.1 a _ ha
  have hr : r = (C, T, N) := Option.some.inj (h1.symm.trans hc)
  subst hr
  have hap := va_apart (own := M.1.cls) (cl := kls) (D := Γ.2.1) F.2.2.2.2.2.1 hin ty0 hty hnm hw.1 hc
  obtain ⟨hS, hfc, kC, hkC, hkind⟩ := hw.1.1 ci _ hc
  obtain ⟨cf, kf, fi, f, hi, hsl⟩ := hS k hk
  have hlay := F.2.2.2.2.2.1 _ (hin _ (u_in_lay hk))
  unfold u_lay at hlay
  have hst := (u_facts hfc hkC (u_lays F.2.2.2.2.2.1 hin hk) hi).1
  rw [if_pos hfin] at hlay
  have hcf : m.cls = cf := by
    obtain ⟨_, _, c', _, _, _, -, -, hf', -, -, -, hown2, -⟩ := Cond.laysFinal_spec hlay
    have e1 : c' = cf := by have := hi.symm.trans hf'; simp at this; exact this.1.symm
    rw [hdecl rfl] at hown2
    rw [← e1]; exact Option.some.inj (F.2.2.2.2.1.symm.trans hown2)
  have h6 := u_fits hfc hkC hkind (Or.inr hlay) hi hd hn hfit
  refine W.putFinK F.1 F.2.1 F.2.2.2.2.1 (F.2.2.2.2.2.1 _ hlk) hi hst hcf (F.2.2.2.2.2.2.2.1.trans hinit) (by rw [q2]; exact h6) q1 q3 (by rw [hsl]; exact k2_hasslot (q4 k hk)) rfl rfl d fun H' e1 e2 e3 => ?_
  rw [hsl] at e1 ⊢
  exact kk p e s m args below meth c F H' _ ls (hw.set ha e2 e3 ⟨_, hc, t_OB.to (V := updV (vp_V (fs.map (gx_v Γ))) k (gx_v Γ v)) ⟨_, e1, q2, q3, t_set q4 hap hk (gx_v Γ v)⟩ (fun j _ => vp_V_set Γ fs hk2 v j)⟩) (locs_add hL h4) hl
theorem x_iald {a n : Nat} {f : Nat → Int32} {i : Int32} (d : Dc M.2.1 pc .iaload 1 pc') (ha : h a = some (.inl (.int, n, .inl f))) (hi : vp_in i n) (kk : Ex Γ M Z cc cn pc' lv (.int (f i.toNatClampNeg) :: st) h sz) : Ex Γ M Z cc cn pc lv (.int i :: .ref a :: st) h sz := by
  obtain ⟨d, rfl⟩ := d
  intro p e s m args below meth c F H locs ls hw hL hl
  obtain ⟨-, -, cA, h1, h2, h3⟩ := hw.2.2.2.1 a _ ha
  have hlt : i.toNatClampNeg < n := Nat.not_le.mp fun q => hi (Or.inr q)
  exact W.iald (v := .int (f i.toNatClampNeg)) F.1 F.2.1 h3 (h1 n (fun j => .int (f j))) (fun q => by cases q) (by show ¬ (i < 0 ∨ (arrV _ _ _).slots.size ≤ _); rw [arrV_size]; exact hi) (by show (arrV cA n _).slots[_]? = _; rw [arrV_read _ _ hlt]) rfl rfl d (kk p e s m args below meth c F H locs ls hw hL hl)
theorem x_sald {a n : Nat} {f : Nat → Int32} {i : Int32} (d : Dc M.2.1 pc .saload 1 pc') (ha : h a = some (.inl (.short, n, .inl f))) (hi : vp_in i n) (kk : Ex Γ M Z cc cn pc' lv (.int (f i.toNatClampNeg) :: st) h sz) : Ex Γ M Z cc cn pc lv (.int i :: .ref a :: st) h sz := by
  obtain ⟨d, rfl⟩ := d
  intro p e s m args below meth c F H locs ls hw hL hl
  obtain ⟨-, -, cA, h1, h2, h3⟩ := hw.2.2.2.1 a _ ha
  have hlt : i.toNatClampNeg < n := Nat.not_le.mp fun q => hi (Or.inr q)
  exact W.sald (v := .int (f i.toNatClampNeg)) F.1 F.2.1 h3 (h1 n (fun j => .int (f j))) (fun q => by cases q) (by show ¬ (i < 0 ∨ (arrV _ _ _).slots.size ≤ _); rw [arrV_size]; exact hi) (by show (arrV cA n _).slots[_]? = _; rw [arrV_read _ _ hlt]) rfl rfl d (kk p e s m args below meth c F H locs ls hw hL hl)
theorem x_zald {a n : Nat} {f : Nat → Int32} {i : Int32} (d : Dc M.2.1 pc .baload 1 pc') (ha : h a = some (.inl (.boolean, n, .inl f))) (hi : vp_in i n) (kk : Ex Γ M Z cc cn pc' lv (.int (f i.toNatClampNeg) :: st) h sz) : Ex Γ M Z cc cn pc lv (.int i :: .ref a :: st) h sz := by
  obtain ⟨d, rfl⟩ := d
  intro p e s m args below meth c F H locs ls hw hL hl
  obtain ⟨-, -, cA, h1, h2, h3⟩ := hw.2.2.2.1 a _ ha
  have hlt : i.toNatClampNeg < n := Nat.not_le.mp fun q => hi (Or.inr q)
  exact W.zald (v := .int (f i.toNatClampNeg)) F.1 F.2.1 h3 (h1 n (fun j => .int (f j))) (fun q => by cases q) (by show ¬ (i < 0 ∨ (arrV _ _ _).slots.size ≤ _); rw [arrV_size]; exact hi) (by show (arrV cA n _).slots[_]? = _; rw [arrV_read _ _ hlt]) rfl rfl d (kk p e s m args below meth c F H locs ls hw hL hl)
theorem x_bald {a n : Nat} {f : Nat → Int32} {i : Int32} (d : Dc M.2.1 pc .baload 1 pc') (ha : h a = some (.inl (.byte, n, .inl f))) (hi : vp_in i n) (kk : Ex Γ M Z cc cn pc' lv (.int (f i.toNatClampNeg) :: st) h sz) : Ex Γ M Z cc cn pc lv (.int i :: .ref a :: st) h sz := by
  obtain ⟨d, rfl⟩ := d
  intro p e s m args below meth c F H locs ls hw hL hl
  obtain ⟨-, -, cA, h1, h2, h3⟩ := hw.2.2.2.1 a _ ha
  have hlt : i.toNatClampNeg < n := Nat.not_le.mp fun q => hi (Or.inr q)
  exact W.bald (v := .int (f i.toNatClampNeg)) F.1 F.2.1 h3 (h1 n (fun j => .int (f j))) (fun q => by cases q) (by show ¬ (i < 0 ∨ (arrV _ _ _).slots.size ≤ _); rw [arrV_size]; exact hi) (by show (arrV cA n _).slots[_]? = _; rw [arrV_read _ _ hlt]) rfl rfl d (kk p e s m args below meth c F H locs ls hw hL hl)
theorem x_lald {a n : Nat} {f : Nat → Int64} {i : Int32} (d : Dc M.2.1 pc .laload 1 pc') (ha : h a = some (.inl (.long, n, .inr (.inl f)))) (hi : vp_in i n) (kk : Ex Γ M Z cc cn pc' lv (.long (f i.toNatClampNeg) :: st) h sz) : Ex Γ M Z cc cn pc lv (.int i :: .ref a :: st) h sz := by
  obtain ⟨d, rfl⟩ := d
  intro p e s m args below meth c F H locs ls hw hL hl
  obtain ⟨-, -, cA, h1, h2, h3⟩ := hw.2.2.2.1 a _ ha
  have hlt : i.toNatClampNeg < n := Nat.not_le.mp fun q => hi (Or.inr q)
  exact W.lald (v := .long (f i.toNatClampNeg)) F.1 F.2.1 h3 (h1 n (fun j => .long (f j))) (fun q => by cases q) (by show ¬ (i < 0 ∨ (arrV _ _ _).slots.size ≤ _); rw [arrV_size]; exact hi) (by show (arrV cA n _).slots[_]? = _; rw [arrV_read _ _ hlt]) rfl rfl d (kk p e s m args below meth c F H locs ls hw hL hl)
theorem x_iast {a n : Nat} {f : Nat → Int32} {i : Int32} {x : Int32} (d : Dc M.2.1 pc .iastore 1 pc') (ha : h a = some (.inl (.int, n, .inl f))) (hi : vp_in i n) (kk : Ex Γ M Z cc cn pc' lv st (va_up h a (some (.inl (.int, n, .inl (upd f i.toNatClampNeg (x)))))) sz) : Ex Γ M Z cc cn pc lv (.int x :: .int i :: .ref a :: st) h sz := by
  obtain ⟨d, rfl⟩ := d
  intro p e s m args below meth c F H locs ls hw hL hl
  obtain ⟨h4, -, cA, h1, h2, h3⟩ := hw.2.2.2.1 a _ ha
  refine W.iast F.1 F.2.1 h3 (h1 n (fun j => .int (f j))) (fun q => by cases q) (by show ¬ (i < 0 ∨ (arrV _ _ _).slots.size ≤ _); rw [arrV_size]; exact hi) rfl rfl d fun H1 e1 z oq => ?_
  refine kk p e s m args below meth c F H1 _ ls (hw.set ha z oq ⟨cA, h1, h2, ?_⟩) (locs_add hL h4) hl
  show H1[gx_ad Γ a]? = some (vp_cell _ _)
  rw [e1]
  show some ((vp_cell cA (n, .inl f)).setSlot _ _) = some (vp_cell cA (n, .inl (upd f i.toNatClampNeg (x))))
  rw [vp_cell_i, vp_cell_i, arrV_store]
  congr 2
  funext q
  by_cases hq : q = i.toNatClampNeg
  · subst hq
    simp [updV, upd, vp_updL, narrow]
  · simp [updV, upd, vp_updL, hq]
theorem x_sast {a n : Nat} {f : Nat → Int32} {i : Int32} {x : Int32} (d : Dc M.2.1 pc .sastore 1 pc') (ha : h a = some (.inl (.short, n, .inl f))) (hi : vp_in i n) (kk : Ex Γ M Z cc cn pc' lv st (va_up h a (some (.inl (.short, n, .inl (upd f i.toNatClampNeg (x.toInt16.toInt32)))))) sz) : Ex Γ M Z cc cn pc lv (.int x :: .int i :: .ref a :: st) h sz := by
  obtain ⟨d, rfl⟩ := d
  intro p e s m args below meth c F H locs ls hw hL hl
  obtain ⟨h4, -, cA, h1, h2, h3⟩ := hw.2.2.2.1 a _ ha
  refine W.sast F.1 F.2.1 h3 (h1 n (fun j => .int (f j))) (fun q => by cases q) (by show ¬ (i < 0 ∨ (arrV _ _ _).slots.size ≤ _); rw [arrV_size]; exact hi) rfl rfl d fun H1 e1 z oq => ?_
  refine kk p e s m args below meth c F H1 _ ls (hw.set ha z oq ⟨cA, h1, h2, ?_⟩) (locs_add hL h4) hl
  show H1[gx_ad Γ a]? = some (vp_cell _ _)
  rw [e1]
  show some ((vp_cell cA (n, .inl f)).setSlot _ _) = some (vp_cell cA (n, .inl (upd f i.toNatClampNeg (x.toInt16.toInt32))))
  rw [vp_cell_i, vp_cell_i, arrV_store]
  congr 2
  funext q
  by_cases hq : q = i.toNatClampNeg
  · subst hq
    simp [updV, upd, vp_updL, narrow]
  · simp [updV, upd, vp_updL, hq]
theorem x_zast {a n : Nat} {f : Nat → Int32} {i : Int32} {x : Int32} (d : Dc M.2.1 pc .bastore 1 pc') (ha : h a = some (.inl (.boolean, n, .inl f))) (hi : vp_in i n) (kk : Ex Γ M Z cc cn pc' lv st (va_up h a (some (.inl (.boolean, n, .inl (upd f i.toNatClampNeg (x &&& 1)))))) sz) : Ex Γ M Z cc cn pc lv (.int x :: .int i :: .ref a :: st) h sz := by
  obtain ⟨d, rfl⟩ := d
  intro p e s m args below meth c F H locs ls hw hL hl
  obtain ⟨h4, -, cA, h1, h2, h3⟩ := hw.2.2.2.1 a _ ha
  refine W.zast F.1 F.2.1 h3 (h1 n (fun j => .int (f j))) (fun q => by cases q) (by show ¬ (i < 0 ∨ (arrV _ _ _).slots.size ≤ _); rw [arrV_size]; exact hi) rfl rfl d fun H1 e1 z oq => ?_
  refine kk p e s m args below meth c F H1 _ ls (hw.set ha z oq ⟨cA, h1, h2, ?_⟩) (locs_add hL h4) hl
  show H1[gx_ad Γ a]? = some (vp_cell _ _)
  rw [e1]
  show some ((vp_cell cA (n, .inl f)).setSlot _ _) = some (vp_cell cA (n, .inl (upd f i.toNatClampNeg (x &&& 1))))
  rw [vp_cell_i, vp_cell_i, arrV_store]
  congr 2
  funext q
  by_cases hq : q = i.toNatClampNeg
  · subst hq
    simp [updV, upd, vp_updL, narrow]
  · simp [updV, upd, vp_updL, hq]
theorem x_last {a n : Nat} {f : Nat → Int64} {i : Int32} {x : Int64} (d : Dc M.2.1 pc .lastore 1 pc') (ha : h a = some (.inl (.long, n, .inr (.inl f)))) (hi : vp_in i n) (kk : Ex Γ M Z cc cn pc' lv st (va_up h a (some (.inl (.long, n, .inr (.inl (vp_updL f i.toNatClampNeg x)))))) sz) : Ex Γ M Z cc cn pc lv (.long x :: .int i :: .ref a :: st) h sz := by
  obtain ⟨d, rfl⟩ := d
  intro p e s m args below meth c F H locs ls hw hL hl
  obtain ⟨h4, -, cA, h1, h2, h3⟩ := hw.2.2.2.1 a _ ha
  refine W.last F.1 F.2.1 h3 (h1 n (fun j => .long (f j))) (fun q => by cases q) (by show ¬ (i < 0 ∨ (arrV _ _ _).slots.size ≤ _); rw [arrV_size]; exact hi) rfl rfl d fun H1 e1 z oq => ?_
  refine kk p e s m args below meth c F H1 _ ls (hw.set ha z oq ⟨cA, h1, h2, ?_⟩) (locs_add hL h4) hl
  show H1[gx_ad Γ a]? = some (vp_cell _ _)
  rw [e1]
  show some ((vp_cell cA (n, .inr (.inl f))).setSlot _ _) = some (vp_cell cA (n, .inr (.inl (vp_updL f i.toNatClampNeg x))))
  rw [vp_cell_l, vp_cell_l, arrV_store]
  congr 2
  funext q
  by_cases hq : q = i.toNatClampNeg
  · subst hq
    simp [updV, upd, vp_updL, narrow]
  · simp [updV, upd, vp_updL, hq]
theorem x_alen {a n : Nat} {ty : FieldType} {z : (Nat → Int32) ⊕ (Nat → Int64) ⊕ (Nat → UInt32) ⊕ (Nat → UInt64) ⊕ (Nat → Option Nat)} (d : Dc M.2.1 pc .arraylength 1 pc') (ha : h a = some (.inl (ty, n, z))) (kk : Ex Γ M Z cc cn pc' lv (.int (nI n) :: st) h sz) : Ex Γ M Z cc cn pc lv (.ref a :: st) h sz := by
  obtain ⟨d, rfl⟩ := d
  intro p e s m args below meth c F H locs ls hw hL hl
  obtain ⟨-, -, cA, h1, h2, h3⟩ := hw.2.2.2.1 a _ ha
  have k := kk p e s m args below meth c F H locs ls hw hL hl
  rcases z with f | f | f | f | f
  all_goals
    refine W.alen (n := nI n) F.1 F.2.1 h3 (h1 n _) ?_ rfl rfl d k
    show (arrV _ _ _).slots.size.toInt32 = nI n
    rw [arrV_size]; rfl
theorem x_aald {a n : Nat} {C : String} {f : Nat → Option Nat} {i : Int32} {q : Nat} (d : Dc M.2.1 pc .aaload 1 pc') (ha : h a = some (.inl (.object C, n, .inr (.inr (.inr (.inr f)))))) (hi : vp_in i n) (hq : f i.toNatClampNeg = some q) (kk : Ex Γ M Z cc cn pc' lv (.ref q :: st) h sz) : Ex Γ M Z cc cn pc lv (.int i :: .ref a :: st) h sz := by
  obtain ⟨d, rfl⟩ := d
  intro p e s m args below meth c F H locs ls hw hL hl
  obtain ⟨-, -, cA, h1, h2, h3⟩ := hw.2.2.2.1 a _ ha
  have hlt : i.toNatClampNeg < n := Nat.not_le.mp fun q => hi (Or.inr q)
  refine W.aald (v := .ref (gx_ad Γ q)) F.1 F.2.1 h3 (h1 n (fun j => va_rf ((f j).map (gx_ad Γ)))) rfl (fun q => by cases q) (by show ¬ (i < 0 ∨ (arrV _ _ _).slots.size ≤ _); rw [arrV_size]; exact hi) ?_ rfl rfl d (kk p e s m args below meth c F H locs ls hw hL hl)
  show (arrV cA n (fun j => va_rf ((f j).map (gx_ad Γ)))).slots[_]? = _
  rw [arrV_read _ _ hlt]
  show some (va_rf ((f i.toNatClampNeg).map (gx_ad Γ))) = _
  rw [hq]; rfl
theorem x_aast {a n v ci : Nat} {C : String} {T : u_T} {N : Nat} {fs : List Value} {f : Nat → Option Nat} {i : Int32} (d : Dc M.2.1 pc .aastore 1 pc') (ha : h a = some (.inl (.object C, n, .inr (.inr (.inr (.inr f)))))) (hi : vp_in i n) (hv : h v = some (.inr (ci, fs))) (hc : kls[ci]? = some (C, T, N))
    (kk : Ex Γ M Z cc cn pc' lv st (va_up h a (some (.inl (.object C, n, .inr (.inr (.inr (.inr (va_up f i.toNatClampNeg (some v))))))))) sz) : Ex Γ M Z cc cn pc lv (.ref v :: .int i :: .ref a :: st) h sz := by
  obtain ⟨d, rfl⟩ := d
  intro p e s m args below meth c F H locs ls hw hL hl
  obtain ⟨h4, -, cA, h1, h2, h3⟩ := hw.2.2.2.1 a _ ha
  obtain ⟨-, -, r, hr, cellV, g1, g2, g3, -⟩ := hw.2.2.2.1 v _ hv
  have hlt : i.toNatClampNeg < n := Nat.not_le.mp fun q => hi (Or.inr q)
  have h0 : ¬ i < 0 := fun q => hi (Or.inl q)
  have hcls := (hw.1.1 ci _ hc).2
  obtain ⟨kA, comp, k1, k2, k3, k4⟩ := h2
  have hcomp : comp = Γ.2.1.1 ci := Option.some.inj (k3.symm.trans hcls.1)
  subst hcomp
  obtain ⟨kC, hkC, -⟩ := hcls.2
  refine W.aast F.1 F.2.1 h3 (fun q h => by cases h) (fun h => by cases h) k1 k2 rfl hkC ⟨h0, by show _ < (arrV _ _ _).slots.size; rw [arrV_size]; exact hlt⟩ g1 (fun q h => by rw [g3] at h; cases h) (by rw [g2]; exact hkC) (by rw [g2]; exact va_assign hcls) rfl rfl d fun H1 e1 z oq => ?_
  refine kk p e s m args below meth c F H1 _ ls (hw.set ha z oq ⟨cA, h1, ⟨kA, _, k1, k2, k3, k4⟩, ?_⟩) (locs_add hL h4) hl
  show H1[gx_ad Γ a]? = some (vp_cell _ _)
  rw [e1]
  show some ((vp_cell cA (n, .inr (.inr (.inr (.inr (fun j => (f j).map (gx_ad Γ))))))).setSlot _ _) = some (vp_cell cA (n, .inr (.inr (.inr (.inr (fun j => (va_up f i.toNatClampNeg (some v) j).map (gx_ad Γ)))))))
  rw [vp_cell_q, vp_cell_q, arrV_store]
  congr 2
  funext q
  by_cases hq : q = i.toNatClampNeg
  · subst hq
    simp [updV, va_up, va_rf]
  · simp [updV, va_up, hq]
/-- a class that can be made -/
def Nw (own : String) (idx ci : Nat) (fs : List Value) : Prop := ∃ (C : String) (T : u_T) (N : Nat) (ty : Nat → FieldType), kls[ci]? = some (C, T, N) ∧ (∀ w ∈ u_ws C T N, w ∈ gtbl) ∧ (∀ k, k < N → parseFieldDescriptor (T k).2.2.1 = some (ty k)) ∧ Cond.classLink own idx C ∈ gtbl ∧ Cond.instantiable C N ∈ gtbl ∧ Cond.initialized C ∈ gtbl ∧ (∀ j, j < N → defaultValue (ty j) = fs.getD j .null) ∧ fs.length = N ∧ (∀ v ∈ fs, ∀ k, v ≠ .ref k)
theorem x_new {idx ci : Nat} {fs : List Value} (f : Nw M.1.cls idx ci fs) (d : Dc M.2.1 pc (.new idx) 3 pc') (h1 : cc + 1 ≤ M.2.2.2.2.cells) (h2 : cn + fs.length ≤ M.2.2.2.2.slots)
    (kk : Ex Γ M Z (cc + 1) (cn + fs.length) pc' lv (.ref sz :: st) (va_up h sz (some (.inr (ci, fs)))) (sz + 1)) : Ex Γ M Z cc cn pc lv st h sz := by
  obtain ⟨d, rfl⟩ := d
  obtain ⟨C, T, N, ty, hc, hin, hty, c1, c2, c3, hdf, hlen, hnr⟩ := f
  subst hlen
  intro p e s m args below meth c F H locs ls hw hL hl
  have hKn := hw.1.1 ci _ hc
  obtain ⟨hnx, h4⟩ := hw.next
  refine W.newcK F.1 F.2.1 F.2.2.2.2.1 (F.2.2.2.2.2.1 _ c1) (F.2.2.2.2.2.1 _ c2) (F.2.2.2.2.2.1 _ c3) rfl d h1 h2 hKn.2.1 hnx.symm fun H1 kC hkC e1 z1 o1 => ?_
  rw [hnx] at z1 o1
  refine kk p e s m args below meth c F H1 locs ls (hw.push z1 o1 ⟨_, hc, (u_born ty F.2.2.2.2.2.1 hin hKn hkC e1 hty).to fun j hj => ?_⟩) hL hl
  rw [vp_V_map, hdf j hj]
  have hm : ∀ v : Value, (∀ k, v ≠ .ref k) → gx_v Γ v = v := fun v hv => by cases v <;> first | rfl | exact absurd rfl (hv _)
  rw [hm]
  have hj2 : fs[j]? = some (fs.getD j .null) := by rw [List.getD_eq_getElem?_getD, List.getElem?_eq_getElem hj]; rfl
  exact hnr _ (List.mem_of_getElem? hj2)
theorem x_anew {idx : Nat} {C : String} {n : Int32} {N : Nat} (hC : C = "SoldWithIt$Text" ∨ C = "SoldWithIt$Sheet") (hlk : Cond.classLink M.1.cls idx C ∈ gtbl) (d : Dc M.2.1 pc (.anewarray idx) 3 pc') (hn : ¬ n < 0) (hN : n.toNatClampNeg = N) (hb : N * 4 ≤ 536870912) (h1 : cc + 1 ≤ M.2.2.2.2.cells) (h2 : cn + N ≤ M.2.2.2.2.slots)
    (kk : Ex Γ M Z (cc + 1) (cn + N) pc' lv (.ref sz :: st) (va_up h sz (some (.inl (.object C, N, .inr (.inr (.inr (.inr (fun _ => none)))))))) (sz + 1)) : Ex Γ M Z cc cn pc lv (.int n :: st) h sz := by
  obtain ⟨d, rfl⟩ := d
  subst hN
  intro p e s m args below meth c F H locs ls hw hL hl
  obtain ⟨hnx, h4⟩ := hw.next
  have hAO : va_AO C s := by
    rcases hC with rfl | rfl
    · exact F.2.2.2.2.2.2.2.2.2.2.1
    · exact F.2.2.2.2.2.2.2.2.2.2.2
  refine W.anew F.1 F.2.1 F.2.2.2.2.1 (F.2.2.2.2.2.1 _ hlk) (va_AO.use hAO) rfl d rfl hn hb h1 h2 fun cA kA comp f1 f2 f3 f4 => ?_
  generalize hH1 : H.push ({ cls := cA, slots := Array.replicate n.toNatClampNeg .null, vm := .none } : Cell) = H1
  have z1 : H1.size = H.size + 1 := by rw [← hH1, Array.size_push]
  have e1 : H1[H.size]? = some (arrV cA n.toNatClampNeg (fun _ => .null)) := by rw [← hH1, Array.getElem?_push_size, ← arrV_new]
  have o1 : ∀ q : Nat, q < H.size → H1[q]? = H[q]? := fun q hq => by rw [← hH1, Array.getElem?_push, if_neg (Nat.ne_of_lt hq)]
  have hAr : ArrOfT s cA (.object C) := fun N z => ⟨(fun k h => by cases h), kA, f2, comp, f3⟩
  have k := kk p e s m args below meth c F H1 locs ls (hw.push z1 o1 ⟨cA, hAr, ⟨kA, comp, f2, f3, f4, f1⟩, by rw [hnx]; exact e1⟩) hL hl
  rw [show (Value.ref sz :: st).map (gx_v Γ) = .ref H.size :: st.map (gx_v Γ) from by rw [← hnx]; rfl] at k
  exact k
theorem x_newaI {n : Int32} {N : Nat} (d : Dc M.2.1 pc (.newarray .int) 2 pc') (hn : ¬ n < 0) (hN : n.toNatClampNeg = N) (hb : N * 8 ≤ 536870912) (h1 : cc + 1 ≤ M.2.2.2.2.cells) (h2 : cn + N ≤ M.2.2.2.2.slots)
    (kk : Ex Γ M Z (cc + 1) (cn + N) pc' lv (.ref sz :: st) (va_up h sz (some (.inl (.int, N, .inl (fun _ => 0))))) (sz + 1)) : Ex Γ M Z cc cn pc lv (.int n :: st) h sz := by
  obtain ⟨d, rfl⟩ := d
  subst hN
  intro p e s m args below meth c F H locs ls hw hL hl
  obtain ⟨hnx, h4⟩ := hw.next
  refine va_newaK F.1 F.2.1 (atype := .int) (F.2.2.2.2.2.1 _ arr_I) rfl d rfl hn rfl (Nat.le_trans (Nat.mul_le_mul_left _ (by decide)) hb) h1 h2 hnx.symm fun H1 cA e1 z1 o1 hAr hNm => ?_
  rw [hnx] at z1 o1
  refine kk p e s m args below meth c F H1 locs ls (hw.push z1 o1 ⟨cA, hAr, hNm, ?_⟩) hL hl
  exact e1
theorem x_newaL {n : Int32} {N : Nat} (d : Dc M.2.1 pc (.newarray .long) 2 pc') (hn : ¬ n < 0) (hN : n.toNatClampNeg = N) (hb : N * 8 ≤ 536870912) (h1 : cc + 1 ≤ M.2.2.2.2.cells) (h2 : cn + N ≤ M.2.2.2.2.slots)
    (kk : Ex Γ M Z (cc + 1) (cn + N) pc' lv (.ref sz :: st) (va_up h sz (some (.inl (.long, N, .inr (.inl (fun _ => 0)))))) (sz + 1)) : Ex Γ M Z cc cn pc lv (.int n :: st) h sz := by
  obtain ⟨d, rfl⟩ := d
  subst hN
  intro p e s m args below meth c F H locs ls hw hL hl
  obtain ⟨hnx, h4⟩ := hw.next
  refine va_newaK F.1 F.2.1 (atype := .long) (F.2.2.2.2.2.1 _ arr_L) rfl d rfl hn rfl (Nat.le_trans (Nat.mul_le_mul_left _ (by decide)) hb) h1 h2 hnx.symm fun H1 cA e1 z1 o1 hAr hNm => ?_
  rw [hnx] at z1 o1
  refine kk p e s m args below meth c F H1 locs ls (hw.push z1 o1 ⟨cA, hAr, hNm, ?_⟩) hL hl
  exact e1
theorem x_newaS {n : Int32} {N : Nat} (d : Dc M.2.1 pc (.newarray .short) 2 pc') (hn : ¬ n < 0) (hN : n.toNatClampNeg = N) (hb : N * 8 ≤ 536870912) (h1 : cc + 1 ≤ M.2.2.2.2.cells) (h2 : cn + N ≤ M.2.2.2.2.slots)
    (kk : Ex Γ M Z (cc + 1) (cn + N) pc' lv (.ref sz :: st) (va_up h sz (some (.inl (.short, N, .inl (fun _ => 0))))) (sz + 1)) : Ex Γ M Z cc cn pc lv (.int n :: st) h sz := by
  obtain ⟨d, rfl⟩ := d
  subst hN
  intro p e s m args below meth c F H locs ls hw hL hl
  obtain ⟨hnx, h4⟩ := hw.next
  refine va_newaK F.1 F.2.1 (atype := .short) (F.2.2.2.2.2.1 _ arr_S) rfl d rfl hn rfl (Nat.le_trans (Nat.mul_le_mul_left _ (by decide)) hb) h1 h2 hnx.symm fun H1 cA e1 z1 o1 hAr hNm => ?_
  rw [hnx] at z1 o1
  refine kk p e s m args below meth c F H1 locs ls (hw.push z1 o1 ⟨cA, hAr, hNm, ?_⟩) hL hl
  exact e1
theorem x_newaZ {n : Int32} {N : Nat} (d : Dc M.2.1 pc (.newarray .boolean) 2 pc') (hn : ¬ n < 0) (hN : n.toNatClampNeg = N) (hb : N * 8 ≤ 536870912) (h1 : cc + 1 ≤ M.2.2.2.2.cells) (h2 : cn + N ≤ M.2.2.2.2.slots)
    (kk : Ex Γ M Z (cc + 1) (cn + N) pc' lv (.ref sz :: st) (va_up h sz (some (.inl (.boolean, N, .inl (fun _ => 0))))) (sz + 1)) : Ex Γ M Z cc cn pc lv (.int n :: st) h sz := by
  obtain ⟨d, rfl⟩ := d
  subst hN
  intro p e s m args below meth c F H locs ls hw hL hl
  obtain ⟨hnx, h4⟩ := hw.next
  refine va_newaK F.1 F.2.1 (atype := .boolean) (F.2.2.2.2.2.1 _ arr_Z) rfl d rfl hn rfl (Nat.le_trans (Nat.mul_le_mul_left _ (by decide)) hb) h1 h2 hnx.symm fun H1 cA e1 z1 o1 hAr hNm => ?_
  rw [hnx] at z1 o1
  refine kk p e s m args below meth c F H1 locs ls (hw.push z1 o1 ⟨cA, hAr, hNm, ?_⟩) hL hl
  exact e1
end Heap1
