section Heap1
variable {Γ : GX} {M : MI} {Z : ZT} {cc cn pc pc' tgt : Nat} {lv st : List Value} {h : Hp} {sz : Nat}
/-- field k of class ci, as the class own links it by its entry idx -/
def Fl (own : String) (idx ci k : Nat) : Prop := ∃ (C : String) (T : u_T) (N : Nat), kls[ci]? = some (C, T, N) ∧ k < N ∧ (∀ w ∈ u_ws C T N, w ∈ gtbl) ∧ Cond.fieldLink own idx (T k).1 (T k).2.1 (T k).2.2.1 ∈ gtbl
theorem vp_V_map (Γ : GX) (fs : List Value) (k : Nat) : vp_V (fs.map (gx_v Γ)) k = gx_v Γ (fs.getD k .null) := by
  simp only [vp_V, List.getD_eq_getElem?_getD, List.getElem?_map]
  cases fs[k]? <;> rfl
theorem x_get {idx ci k a : Nat} {fs : List Value} (f : Fl M.1.cls idx ci k) (d : Dc M.2.1 pc (.getfield idx) 3 pc') (ha : h a = some (.inr (ci, fs))) (kk : Ex Γ M Z cc cn pc' lv (fs.getD k .null :: st) h sz) : Ex Γ M Z cc cn pc lv (.ref a :: st) h sz := by
  obtain ⟨d, rfl⟩ := d
  obtain ⟨C, T, N, hc, hk, hin, hlk⟩ := f
  intro p e s m args below meth c F H locs ls hw hL hl
  obtain ⟨-, -, r, h1, h2⟩ := hw.2.2.2.1 a _ ha
  have hr : r = (C, T, N) := Option.some.inj (h1.symm.trans hc)
  subst hr
  obtain ⟨cell, q1, q2, q3, q4⟩ := h2
  obtain ⟨hS, hfc, kC, hkC, hkind⟩ := hw.1.1 ci _ hc
  obtain ⟨cf, kf, fi, f, hi, hsl⟩ := hS k hk
  refine W.getf F.1 F.2.1 F.2.2.2.2.1 (F.2.2.2.2.2.1 _ hlk) hi (u_facts hfc hkC (u_lays F.2.2.2.2.2.1 hin hk) hi).1 q1 (by rw [q3]; exact fun h => by cases h) (v := gx_v Γ (fs.getD k .null)) ?_ rfl rfl d (kk p e s m args below meth c F H locs ls hw hL hl)
  rw [hsl, q4 k hk, vp_V_map]
/-- what may stand in a field -/
def Fv (ci k : Nat) (v : Value) : Prop := ∃ (C : String) (T : u_T) (N : Nat) (ty : FieldType), kls[ci]? = some (C, T, N) ∧ parseFieldDescriptor (T k).2.2.1 = some ty ∧ narrow ty v = v ∧ fits ty v = true
def Tt (ci : Nat) : Prop := ∃ (C : String) (T : u_T) (N : Nat) (ty0 : Nat → FieldType), kls[ci]? = some (C, T, N) ∧ (∀ k, k < N → parseFieldDescriptor (T k).2.2.1 = some (ty0 k)) ∧ (∀ a, a < N → ∀ b, b < N → a ≠ b → (T a).2.1 ≠ (T b).2.1) ∧ (∀ w ∈ u_ws C T N, w ∈ gtbl)
def Ff (ci k : Nat) (own : String) (fin : Bool) : Prop := ∃ (C : String) (T : u_T) (N : Nat), kls[ci]? = some (C, T, N) ∧ (T k).2.2.2 = fin ∧ (fin = true → (T k).1 = own)
theorem narrow_gx {Γ : GX} {ty : FieldType} {v : Value} (h1 : narrow ty v = v) (h2 : fits ty v = true) : narrow ty (gx_v Γ v) = gx_v Γ v ∧ fits ty (gx_v Γ v) = true := by
  cases v <;> first | exact ⟨h1, h2⟩ | (cases ty <;> first | exact ⟨rfl, h2⟩ | exact ⟨rfl, rfl⟩ | (simp [fits] at h2))
theorem vp_V_set (Γ : GX) (fs : List Value) {k : Nat} (hk : k < fs.length) (v : Value) (j : Nat) : updV (vp_V (fs.map (gx_v Γ))) k (gx_v Γ v) j = vp_V ((fs.set k v).map (gx_v Γ)) j := by
  rw [List.map_set]
  exact vp_updV_set (by rw [List.length_map]; exact hk) (gx_v Γ v) j
theorem x_put {idx ci k a : Nat} {fs : List Value} {v : Value} (f : Fl M.1.cls idx ci k) (t : Tt ci) (g : Ff ci k M.1.cls false) (d : Dc M.2.1 pc (.putfield idx) 3 pc') (ha : h a = some (.inr (ci, fs))) (hk2 : k < fs.length) (hv : Fv ci k v)
    (kk : Ex Γ M Z cc cn pc' lv st (va_up h a (some (.inr (ci, fs.set k v)))) sz) : Ex Γ M Z cc cn pc lv (v :: .ref a :: st) h sz := by
  obtain ⟨d, rfl⟩ := d
  obtain ⟨C, T, N, hc, hk, hin, hlk⟩ := f
  obtain ⟨C1, T1, N1, ty0, hc1, hty, hnm, -⟩ := t
  have e1 := hc.symm.trans hc1
  cases e1
  obtain ⟨C1, T1, N1, hc1, hfin, -⟩ := g
  have e1 := hc.symm.trans hc1
  cases e1
  obtain ⟨C1, T1, N1, ty, hc1, hd, hn, hfit⟩ := hv
  have e1 := hc.symm.trans hc1
  cases e1
  obtain ⟨hn, hfit⟩ := narrow_gx (Γ := Γ) hn hfit
  intro p e s m args below meth c F H locs ls hw hL hl
  obtain ⟨h4, -, r, h1, h2⟩ := hw.2.2.2.1 a _ ha
  have hr : r = (C, T, N) := Option.some.inj (h1.symm.trans hc)
  subst hr
  refine va_put (D := Γ.2.1) (cl := kls) (tys := []) (ws := [(gx_ad Γ a, .inr (ci, fs.map (gx_v Γ)))]) (A := fun q => q = gx_ad Γ a ∨ Γ.2.2.1 ≤ q) (H0 := H) (v := gx_v Γ v) (ty := ty) (fs := fs.map (gx_v Γ)) F.1 F.2.1 F.2.2.2.2.2.1 hin ty0 hty hnm F.2.2.2.2.1 hw.1 (fun j q hq => ?_) ⟨fun i j p q hp hq _ => ?_, fun j q hq => ?_⟩ ⟨Nat.le_refl _, fun _ _ _ => rfl, fun q hq => Or.inr (hL q hq)⟩ 0 rfl hc k hk (F.2.2.2.2.2.1 _ hlk) (fun _ h9 => h9) hfin hd hn hfit (by rw [List.length_map]; exact hk2) d (fun H1 locs1 hP hD hS => ?_)
  · have hj : j = 0 := by have := (List.getElem?_eq_some_iff.mp hq).1; simpa using this
    subst hj
    cases hq
    exact ⟨_, h1, h2⟩
  · have hi : i = 0 := by have := (List.getElem?_eq_some_iff.mp hp).1; simpa using this
    have hj : j = 0 := by have := (List.getElem?_eq_some_iff.mp hq).1; simpa using this
    rw [hi, hj]
  · have hj : j = 0 := by have := (List.getElem?_eq_some_iff.mp hq).1; simpa using this
    subst hj
    cases hq
    exact Or.inl rfl
  · sorry
end Heap1
