/-- M at as in h returns r, and the heap is h1 -/
def Re (Γ : GX) (M : MI) (as : List Value) (h : Hp) (sz : Nat) (r : Option Value) (h1 : Hp) (sz1 : Nat) : Prop := Rn Γ M as h sz (fun r' h' sz' => r' = r ∧ h' = h1 ∧ sz' = sz1)
section Vars
variable {Γ : GX} {M M' : MI} {Z : ZT} {Q : QT} {cc cn cc1 cn1 pc pc' : Nat} {lv rest : List Value} {h h1 : Hp} {sz sz1 : Nat}
theorem x_iushr {a b : Int32} (d : Dc M.2.1 pc .iushr 1 pc') (k : Ex Γ M Z cc cn pc' lv (.int (a.toUInt32 >>> (b.toUInt32 &&& Int32.toUInt32 31)).toInt32 :: rest) h sz) : Ex Γ M Z cc cn pc lv (.int b :: .int a :: rest) h sz := by
  obtain ⟨d, rfl⟩ := d
  intro p e s m args below meth c F H locs ls hw hL hl
  exact lv_iushr F.1 F.2.1 d (by first | rfl | skip) (k p e s m args below meth c F H locs ls hw hL hl)
theorem x_eq {lv' st st' : List Value} (e1 : lv = lv') (e2 : st = st') (e3 : h = h1) (k : Ex Γ M Z cc cn pc lv' st' h1 sz) : Ex Γ M Z cc cn pc lv st h sz := by
  subst e1; subst e2; subst e3; exact k
theorem x_V0i {idx a ci : Nat} {fs : List Value} {x : Int32} (lk : LkV M.1.cls idx M' 0 ci) (hR : Rm M M' cc cn) (e1 : cc + M'.2.2.2.2.cells = cc1) (e2 : cn + M'.2.2.2.2.slots = cn1) (hcat : (rest.map fun v => v.category).sum ≤ 8) (d : Dc M.2.1 pc (.invokevirtual idx) 3 pc') (ha : h a = some (.inr (ci, fs))) (run : Re Γ M' [.ref a] h sz (some (.int x)) h1 sz1) (kk : Ex Γ M Z cc1 cn1 pc' lv (.int x :: rest) h1 sz1) : Ex Γ M Z cc cn pc lv (.ref a :: rest) h sz := by
  subst e1; subst e2
  exact x_callV (as := []) lk hR hcat d ha run (by rintro _ _ _ ⟨rfl, rfl, rfl⟩; exact kk)
theorem x_V0l {idx a ci : Nat} {fs : List Value} {x : Int64} (lk : LkV M.1.cls idx M' 0 ci) (hR : Rm M M' cc cn) (e1 : cc + M'.2.2.2.2.cells = cc1) (e2 : cn + M'.2.2.2.2.slots = cn1) (hcat : (rest.map fun v => v.category).sum ≤ 8) (d : Dc M.2.1 pc (.invokevirtual idx) 3 pc') (ha : h a = some (.inr (ci, fs))) (run : Re Γ M' [.ref a] h sz (some (.long x)) h1 sz1) (kk : Ex Γ M Z cc1 cn1 pc' lv (.long x :: rest) h1 sz1) : Ex Γ M Z cc cn pc lv (.ref a :: rest) h sz := by
  subst e1; subst e2
  exact x_callV (as := []) lk hR hcat d ha run (by rintro _ _ _ ⟨rfl, rfl, rfl⟩; exact kk)
theorem x_V0a {idx a ci : Nat} {fs : List Value} {x : Nat} (lk : LkV M.1.cls idx M' 0 ci) (hR : Rm M M' cc cn) (e1 : cc + M'.2.2.2.2.cells = cc1) (e2 : cn + M'.2.2.2.2.slots = cn1) (hcat : (rest.map fun v => v.category).sum ≤ 8) (d : Dc M.2.1 pc (.invokevirtual idx) 3 pc') (ha : h a = some (.inr (ci, fs))) (run : Re Γ M' [.ref a] h sz (some (.ref x)) h1 sz1) (kk : Ex Γ M Z cc1 cn1 pc' lv (.ref x :: rest) h1 sz1) : Ex Γ M Z cc cn pc lv (.ref a :: rest) h sz := by
  subst e1; subst e2
  exact x_callV (as := []) lk hR hcat d ha run (by rintro _ _ _ ⟨rfl, rfl, rfl⟩; exact kk)
theorem x_V0v {idx a ci : Nat} {fs : List Value} (lk : LkV M.1.cls idx M' 0 ci) (hR : Rm M M' cc cn) (e1 : cc + M'.2.2.2.2.cells = cc1) (e2 : cn + M'.2.2.2.2.slots = cn1) (hcat : (rest.map fun v => v.category).sum ≤ 8) (d : Dc M.2.1 pc (.invokevirtual idx) 3 pc') (ha : h a = some (.inr (ci, fs))) (run : Re Γ M' [.ref a] h sz (none) h1 sz1) (kk : Ex Γ M Z cc1 cn1 pc' lv (rest) h1 sz1) : Ex Γ M Z cc cn pc lv (.ref a :: rest) h sz := by
  subst e1; subst e2
  exact x_callV (as := []) lk hR hcat d ha run (by rintro _ _ _ ⟨rfl, rfl, rfl⟩; exact kk)
theorem x_V0q {idx a ci : Nat} {fs : List Value} (lk : LkV M.1.cls idx M' 0 ci) (hR : Rm M M' cc cn) (e1 : cc + M'.2.2.2.2.cells = cc1) (e2 : cn + M'.2.2.2.2.slots = cn1) (hcat : (rest.map fun v => v.category).sum ≤ 8) (d : Dc M.2.1 pc (.invokevirtual idx) 3 pc') (ha : h a = some (.inr (ci, fs))) (run : Rn Γ M' [.ref a] h sz Q) (kk : ∀ (r : Option Value) (h' : Hp) (sz' : Nat), Q r h' sz' → Ex Γ M Z cc1 cn1 pc' lv (r.toList ++ rest) h' sz') : Ex Γ M Z cc cn pc lv (.ref a :: rest) h sz := by
  subst e1; subst e2
  exact x_callV (as := []) lk hR hcat d ha run kk
theorem x_V1i {idx a ci : Nat} {fs : List Value} {v1 : Value} {x : Int32} (lk : LkV M.1.cls idx M' 1 ci) (hR : Rm M M' cc cn) (e1 : cc + M'.2.2.2.2.cells = cc1) (e2 : cn + M'.2.2.2.2.slots = cn1) (hcat : (rest.map fun v => v.category).sum ≤ 8) (d : Dc M.2.1 pc (.invokevirtual idx) 3 pc') (ha : h a = some (.inr (ci, fs))) (run : Re Γ M' [.ref a, v1] h sz (some (.int x)) h1 sz1) (kk : Ex Γ M Z cc1 cn1 pc' lv (.int x :: rest) h1 sz1) : Ex Γ M Z cc cn pc lv (v1 :: .ref a :: rest) h sz := by
  subst e1; subst e2
  exact x_callV (as := [v1]) lk hR hcat d ha run (by rintro _ _ _ ⟨rfl, rfl, rfl⟩; exact kk)
theorem x_V1l {idx a ci : Nat} {fs : List Value} {v1 : Value} {x : Int64} (lk : LkV M.1.cls idx M' 1 ci) (hR : Rm M M' cc cn) (e1 : cc + M'.2.2.2.2.cells = cc1) (e2 : cn + M'.2.2.2.2.slots = cn1) (hcat : (rest.map fun v => v.category).sum ≤ 8) (d : Dc M.2.1 pc (.invokevirtual idx) 3 pc') (ha : h a = some (.inr (ci, fs))) (run : Re Γ M' [.ref a, v1] h sz (some (.long x)) h1 sz1) (kk : Ex Γ M Z cc1 cn1 pc' lv (.long x :: rest) h1 sz1) : Ex Γ M Z cc cn pc lv (v1 :: .ref a :: rest) h sz := by
  subst e1; subst e2
  exact x_callV (as := [v1]) lk hR hcat d ha run (by rintro _ _ _ ⟨rfl, rfl, rfl⟩; exact kk)
theorem x_V1a {idx a ci : Nat} {fs : List Value} {v1 : Value} {x : Nat} (lk : LkV M.1.cls idx M' 1 ci) (hR : Rm M M' cc cn) (e1 : cc + M'.2.2.2.2.cells = cc1) (e2 : cn + M'.2.2.2.2.slots = cn1) (hcat : (rest.map fun v => v.category).sum ≤ 8) (d : Dc M.2.1 pc (.invokevirtual idx) 3 pc') (ha : h a = some (.inr (ci, fs))) (run : Re Γ M' [.ref a, v1] h sz (some (.ref x)) h1 sz1) (kk : Ex Γ M Z cc1 cn1 pc' lv (.ref x :: rest) h1 sz1) : Ex Γ M Z cc cn pc lv (v1 :: .ref a :: rest) h sz := by
  subst e1; subst e2
  exact x_callV (as := [v1]) lk hR hcat d ha run (by rintro _ _ _ ⟨rfl, rfl, rfl⟩; exact kk)
theorem x_V1v {idx a ci : Nat} {fs : List Value} {v1 : Value} (lk : LkV M.1.cls idx M' 1 ci) (hR : Rm M M' cc cn) (e1 : cc + M'.2.2.2.2.cells = cc1) (e2 : cn + M'.2.2.2.2.slots = cn1) (hcat : (rest.map fun v => v.category).sum ≤ 8) (d : Dc M.2.1 pc (.invokevirtual idx) 3 pc') (ha : h a = some (.inr (ci, fs))) (run : Re Γ M' [.ref a, v1] h sz (none) h1 sz1) (kk : Ex Γ M Z cc1 cn1 pc' lv (rest) h1 sz1) : Ex Γ M Z cc cn pc lv (v1 :: .ref a :: rest) h sz := by
  subst e1; subst e2
  exact x_callV (as := [v1]) lk hR hcat d ha run (by rintro _ _ _ ⟨rfl, rfl, rfl⟩; exact kk)
theorem x_V1q {idx a ci : Nat} {fs : List Value} {v1 : Value} (lk : LkV M.1.cls idx M' 1 ci) (hR : Rm M M' cc cn) (e1 : cc + M'.2.2.2.2.cells = cc1) (e2 : cn + M'.2.2.2.2.slots = cn1) (hcat : (rest.map fun v => v.category).sum ≤ 8) (d : Dc M.2.1 pc (.invokevirtual idx) 3 pc') (ha : h a = some (.inr (ci, fs))) (run : Rn Γ M' [.ref a, v1] h sz Q) (kk : ∀ (r : Option Value) (h' : Hp) (sz' : Nat), Q r h' sz' → Ex Γ M Z cc1 cn1 pc' lv (r.toList ++ rest) h' sz') : Ex Γ M Z cc cn pc lv (v1 :: .ref a :: rest) h sz := by
  subst e1; subst e2
  exact x_callV (as := [v1]) lk hR hcat d ha run kk
theorem x_V2i {idx a ci : Nat} {fs : List Value} {v1 v2 : Value} {x : Int32} (lk : LkV M.1.cls idx M' 2 ci) (hR : Rm M M' cc cn) (e1 : cc + M'.2.2.2.2.cells = cc1) (e2 : cn + M'.2.2.2.2.slots = cn1) (hcat : (rest.map fun v => v.category).sum ≤ 8) (d : Dc M.2.1 pc (.invokevirtual idx) 3 pc') (ha : h a = some (.inr (ci, fs))) (run : Re Γ M' [.ref a, v1, v2] h sz (some (.int x)) h1 sz1) (kk : Ex Γ M Z cc1 cn1 pc' lv (.int x :: rest) h1 sz1) : Ex Γ M Z cc cn pc lv (v2 :: v1 :: .ref a :: rest) h sz := by
  subst e1; subst e2
  exact x_callV (as := [v1, v2]) lk hR hcat d ha run (by rintro _ _ _ ⟨rfl, rfl, rfl⟩; exact kk)
theorem x_V2l {idx a ci : Nat} {fs : List Value} {v1 v2 : Value} {x : Int64} (lk : LkV M.1.cls idx M' 2 ci) (hR : Rm M M' cc cn) (e1 : cc + M'.2.2.2.2.cells = cc1) (e2 : cn + M'.2.2.2.2.slots = cn1) (hcat : (rest.map fun v => v.category).sum ≤ 8) (d : Dc M.2.1 pc (.invokevirtual idx) 3 pc') (ha : h a = some (.inr (ci, fs))) (run : Re Γ M' [.ref a, v1, v2] h sz (some (.long x)) h1 sz1) (kk : Ex Γ M Z cc1 cn1 pc' lv (.long x :: rest) h1 sz1) : Ex Γ M Z cc cn pc lv (v2 :: v1 :: .ref a :: rest) h sz := by
  subst e1; subst e2
  exact x_callV (as := [v1, v2]) lk hR hcat d ha run (by rintro _ _ _ ⟨rfl, rfl, rfl⟩; exact kk)
theorem x_V2a {idx a ci : Nat} {fs : List Value} {v1 v2 : Value} {x : Nat} (lk : LkV M.1.cls idx M' 2 ci) (hR : Rm M M' cc cn) (e1 : cc + M'.2.2.2.2.cells = cc1) (e2 : cn + M'.2.2.2.2.slots = cn1) (hcat : (rest.map fun v => v.category).sum ≤ 8) (d : Dc M.2.1 pc (.invokevirtual idx) 3 pc') (ha : h a = some (.inr (ci, fs))) (run : Re Γ M' [.ref a, v1, v2] h sz (some (.ref x)) h1 sz1) (kk : Ex Γ M Z cc1 cn1 pc' lv (.ref x :: rest) h1 sz1) : Ex Γ M Z cc cn pc lv (v2 :: v1 :: .ref a :: rest) h sz := by
  subst e1; subst e2
  exact x_callV (as := [v1, v2]) lk hR hcat d ha run (by rintro _ _ _ ⟨rfl, rfl, rfl⟩; exact kk)
theorem x_V2v {idx a ci : Nat} {fs : List Value} {v1 v2 : Value} (lk : LkV M.1.cls idx M' 2 ci) (hR : Rm M M' cc cn) (e1 : cc + M'.2.2.2.2.cells = cc1) (e2 : cn + M'.2.2.2.2.slots = cn1) (hcat : (rest.map fun v => v.category).sum ≤ 8) (d : Dc M.2.1 pc (.invokevirtual idx) 3 pc') (ha : h a = some (.inr (ci, fs))) (run : Re Γ M' [.ref a, v1, v2] h sz (none) h1 sz1) (kk : Ex Γ M Z cc1 cn1 pc' lv (rest) h1 sz1) : Ex Γ M Z cc cn pc lv (v2 :: v1 :: .ref a :: rest) h sz := by
  subst e1; subst e2
  exact x_callV (as := [v1, v2]) lk hR hcat d ha run (by rintro _ _ _ ⟨rfl, rfl, rfl⟩; exact kk)
theorem x_V2q {idx a ci : Nat} {fs : List Value} {v1 v2 : Value} (lk : LkV M.1.cls idx M' 2 ci) (hR : Rm M M' cc cn) (e1 : cc + M'.2.2.2.2.cells = cc1) (e2 : cn + M'.2.2.2.2.slots = cn1) (hcat : (rest.map fun v => v.category).sum ≤ 8) (d : Dc M.2.1 pc (.invokevirtual idx) 3 pc') (ha : h a = some (.inr (ci, fs))) (run : Rn Γ M' [.ref a, v1, v2] h sz Q) (kk : ∀ (r : Option Value) (h' : Hp) (sz' : Nat), Q r h' sz' → Ex Γ M Z cc1 cn1 pc' lv (r.toList ++ rest) h' sz') : Ex Γ M Z cc cn pc lv (v2 :: v1 :: .ref a :: rest) h sz := by
  subst e1; subst e2
  exact x_callV (as := [v1, v2]) lk hR hcat d ha run kk
theorem x_V3i {idx a ci : Nat} {fs : List Value} {v1 v2 v3 : Value} {x : Int32} (lk : LkV M.1.cls idx M' 3 ci) (hR : Rm M M' cc cn) (e1 : cc + M'.2.2.2.2.cells = cc1) (e2 : cn + M'.2.2.2.2.slots = cn1) (hcat : (rest.map fun v => v.category).sum ≤ 8) (d : Dc M.2.1 pc (.invokevirtual idx) 3 pc') (ha : h a = some (.inr (ci, fs))) (run : Re Γ M' [.ref a, v1, v2, v3] h sz (some (.int x)) h1 sz1) (kk : Ex Γ M Z cc1 cn1 pc' lv (.int x :: rest) h1 sz1) : Ex Γ M Z cc cn pc lv (v3 :: v2 :: v1 :: .ref a :: rest) h sz := by
  subst e1; subst e2
  exact x_callV (as := [v1, v2, v3]) lk hR hcat d ha run (by rintro _ _ _ ⟨rfl, rfl, rfl⟩; exact kk)
theorem x_V3l {idx a ci : Nat} {fs : List Value} {v1 v2 v3 : Value} {x : Int64} (lk : LkV M.1.cls idx M' 3 ci) (hR : Rm M M' cc cn) (e1 : cc + M'.2.2.2.2.cells = cc1) (e2 : cn + M'.2.2.2.2.slots = cn1) (hcat : (rest.map fun v => v.category).sum ≤ 8) (d : Dc M.2.1 pc (.invokevirtual idx) 3 pc') (ha : h a = some (.inr (ci, fs))) (run : Re Γ M' [.ref a, v1, v2, v3] h sz (some (.long x)) h1 sz1) (kk : Ex Γ M Z cc1 cn1 pc' lv (.long x :: rest) h1 sz1) : Ex Γ M Z cc cn pc lv (v3 :: v2 :: v1 :: .ref a :: rest) h sz := by
  subst e1; subst e2
  exact x_callV (as := [v1, v2, v3]) lk hR hcat d ha run (by rintro _ _ _ ⟨rfl, rfl, rfl⟩; exact kk)
theorem x_V3a {idx a ci : Nat} {fs : List Value} {v1 v2 v3 : Value} {x : Nat} (lk : LkV M.1.cls idx M' 3 ci) (hR : Rm M M' cc cn) (e1 : cc + M'.2.2.2.2.cells = cc1) (e2 : cn + M'.2.2.2.2.slots = cn1) (hcat : (rest.map fun v => v.category).sum ≤ 8) (d : Dc M.2.1 pc (.invokevirtual idx) 3 pc') (ha : h a = some (.inr (ci, fs))) (run : Re Γ M' [.ref a, v1, v2, v3] h sz (some (.ref x)) h1 sz1) (kk : Ex Γ M Z cc1 cn1 pc' lv (.ref x :: rest) h1 sz1) : Ex Γ M Z cc cn pc lv (v3 :: v2 :: v1 :: .ref a :: rest) h sz := by
  subst e1; subst e2
  exact x_callV (as := [v1, v2, v3]) lk hR hcat d ha run (by rintro _ _ _ ⟨rfl, rfl, rfl⟩; exact kk)
theorem x_V3v {idx a ci : Nat} {fs : List Value} {v1 v2 v3 : Value} (lk : LkV M.1.cls idx M' 3 ci) (hR : Rm M M' cc cn) (e1 : cc + M'.2.2.2.2.cells = cc1) (e2 : cn + M'.2.2.2.2.slots = cn1) (hcat : (rest.map fun v => v.category).sum ≤ 8) (d : Dc M.2.1 pc (.invokevirtual idx) 3 pc') (ha : h a = some (.inr (ci, fs))) (run : Re Γ M' [.ref a, v1, v2, v3] h sz (none) h1 sz1) (kk : Ex Γ M Z cc1 cn1 pc' lv (rest) h1 sz1) : Ex Γ M Z cc cn pc lv (v3 :: v2 :: v1 :: .ref a :: rest) h sz := by
  subst e1; subst e2
  exact x_callV (as := [v1, v2, v3]) lk hR hcat d ha run (by rintro _ _ _ ⟨rfl, rfl, rfl⟩; exact kk)
theorem x_V3q {idx a ci : Nat} {fs : List Value} {v1 v2 v3 : Value} (lk : LkV M.1.cls idx M' 3 ci) (hR : Rm M M' cc cn) (e1 : cc + M'.2.2.2.2.cells = cc1) (e2 : cn + M'.2.2.2.2.slots = cn1) (hcat : (rest.map fun v => v.category).sum ≤ 8) (d : Dc M.2.1 pc (.invokevirtual idx) 3 pc') (ha : h a = some (.inr (ci, fs))) (run : Rn Γ M' [.ref a, v1, v2, v3] h sz Q) (kk : ∀ (r : Option Value) (h' : Hp) (sz' : Nat), Q r h' sz' → Ex Γ M Z cc1 cn1 pc' lv (r.toList ++ rest) h' sz') : Ex Γ M Z cc cn pc lv (v3 :: v2 :: v1 :: .ref a :: rest) h sz := by
  subst e1; subst e2
  exact x_callV (as := [v1, v2, v3]) lk hR hcat d ha run kk
theorem x_V4i {idx a ci : Nat} {fs : List Value} {v1 v2 v3 v4 : Value} {x : Int32} (lk : LkV M.1.cls idx M' 4 ci) (hR : Rm M M' cc cn) (e1 : cc + M'.2.2.2.2.cells = cc1) (e2 : cn + M'.2.2.2.2.slots = cn1) (hcat : (rest.map fun v => v.category).sum ≤ 8) (d : Dc M.2.1 pc (.invokevirtual idx) 3 pc') (ha : h a = some (.inr (ci, fs))) (run : Re Γ M' [.ref a, v1, v2, v3, v4] h sz (some (.int x)) h1 sz1) (kk : Ex Γ M Z cc1 cn1 pc' lv (.int x :: rest) h1 sz1) : Ex Γ M Z cc cn pc lv (v4 :: v3 :: v2 :: v1 :: .ref a :: rest) h sz := by
  subst e1; subst e2
  exact x_callV (as := [v1, v2, v3, v4]) lk hR hcat d ha run (by rintro _ _ _ ⟨rfl, rfl, rfl⟩; exact kk)
theorem x_V4l {idx a ci : Nat} {fs : List Value} {v1 v2 v3 v4 : Value} {x : Int64} (lk : LkV M.1.cls idx M' 4 ci) (hR : Rm M M' cc cn) (e1 : cc + M'.2.2.2.2.cells = cc1) (e2 : cn + M'.2.2.2.2.slots = cn1) (hcat : (rest.map fun v => v.category).sum ≤ 8) (d : Dc M.2.1 pc (.invokevirtual idx) 3 pc') (ha : h a = some (.inr (ci, fs))) (run : Re Γ M' [.ref a, v1, v2, v3, v4] h sz (some (.long x)) h1 sz1) (kk : Ex Γ M Z cc1 cn1 pc' lv (.long x :: rest) h1 sz1) : Ex Γ M Z cc cn pc lv (v4 :: v3 :: v2 :: v1 :: .ref a :: rest) h sz := by
  subst e1; subst e2
  exact x_callV (as := [v1, v2, v3, v4]) lk hR hcat d ha run (by rintro _ _ _ ⟨rfl, rfl, rfl⟩; exact kk)
theorem x_V4a {idx a ci : Nat} {fs : List Value} {v1 v2 v3 v4 : Value} {x : Nat} (lk : LkV M.1.cls idx M' 4 ci) (hR : Rm M M' cc cn) (e1 : cc + M'.2.2.2.2.cells = cc1) (e2 : cn + M'.2.2.2.2.slots = cn1) (hcat : (rest.map fun v => v.category).sum ≤ 8) (d : Dc M.2.1 pc (.invokevirtual idx) 3 pc') (ha : h a = some (.inr (ci, fs))) (run : Re Γ M' [.ref a, v1, v2, v3, v4] h sz (some (.ref x)) h1 sz1) (kk : Ex Γ M Z cc1 cn1 pc' lv (.ref x :: rest) h1 sz1) : Ex Γ M Z cc cn pc lv (v4 :: v3 :: v2 :: v1 :: .ref a :: rest) h sz := by
  subst e1; subst e2
  exact x_callV (as := [v1, v2, v3, v4]) lk hR hcat d ha run (by rintro _ _ _ ⟨rfl, rfl, rfl⟩; exact kk)
theorem x_V4v {idx a ci : Nat} {fs : List Value} {v1 v2 v3 v4 : Value} (lk : LkV M.1.cls idx M' 4 ci) (hR : Rm M M' cc cn) (e1 : cc + M'.2.2.2.2.cells = cc1) (e2 : cn + M'.2.2.2.2.slots = cn1) (hcat : (rest.map fun v => v.category).sum ≤ 8) (d : Dc M.2.1 pc (.invokevirtual idx) 3 pc') (ha : h a = some (.inr (ci, fs))) (run : Re Γ M' [.ref a, v1, v2, v3, v4] h sz (none) h1 sz1) (kk : Ex Γ M Z cc1 cn1 pc' lv (rest) h1 sz1) : Ex Γ M Z cc cn pc lv (v4 :: v3 :: v2 :: v1 :: .ref a :: rest) h sz := by
  subst e1; subst e2
  exact x_callV (as := [v1, v2, v3, v4]) lk hR hcat d ha run (by rintro _ _ _ ⟨rfl, rfl, rfl⟩; exact kk)
theorem x_V4q {idx a ci : Nat} {fs : List Value} {v1 v2 v3 v4 : Value} (lk : LkV M.1.cls idx M' 4 ci) (hR : Rm M M' cc cn) (e1 : cc + M'.2.2.2.2.cells = cc1) (e2 : cn + M'.2.2.2.2.slots = cn1) (hcat : (rest.map fun v => v.category).sum ≤ 8) (d : Dc M.2.1 pc (.invokevirtual idx) 3 pc') (ha : h a = some (.inr (ci, fs))) (run : Rn Γ M' [.ref a, v1, v2, v3, v4] h sz Q) (kk : ∀ (r : Option Value) (h' : Hp) (sz' : Nat), Q r h' sz' → Ex Γ M Z cc1 cn1 pc' lv (r.toList ++ rest) h' sz') : Ex Γ M Z cc cn pc lv (v4 :: v3 :: v2 :: v1 :: .ref a :: rest) h sz := by
  subst e1; subst e2
  exact x_callV (as := [v1, v2, v3, v4]) lk hR hcat d ha run kk
theorem x_V5i {idx a ci : Nat} {fs : List Value} {v1 v2 v3 v4 v5 : Value} {x : Int32} (lk : LkV M.1.cls idx M' 5 ci) (hR : Rm M M' cc cn) (e1 : cc + M'.2.2.2.2.cells = cc1) (e2 : cn + M'.2.2.2.2.slots = cn1) (hcat : (rest.map fun v => v.category).sum ≤ 8) (d : Dc M.2.1 pc (.invokevirtual idx) 3 pc') (ha : h a = some (.inr (ci, fs))) (run : Re Γ M' [.ref a, v1, v2, v3, v4, v5] h sz (some (.int x)) h1 sz1) (kk : Ex Γ M Z cc1 cn1 pc' lv (.int x :: rest) h1 sz1) : Ex Γ M Z cc cn pc lv (v5 :: v4 :: v3 :: v2 :: v1 :: .ref a :: rest) h sz := by
  subst e1; subst e2
  exact x_callV (as := [v1, v2, v3, v4, v5]) lk hR hcat d ha run (by rintro _ _ _ ⟨rfl, rfl, rfl⟩; exact kk)
theorem x_V5l {idx a ci : Nat} {fs : List Value} {v1 v2 v3 v4 v5 : Value} {x : Int64} (lk : LkV M.1.cls idx M' 5 ci) (hR : Rm M M' cc cn) (e1 : cc + M'.2.2.2.2.cells = cc1) (e2 : cn + M'.2.2.2.2.slots = cn1) (hcat : (rest.map fun v => v.category).sum ≤ 8) (d : Dc M.2.1 pc (.invokevirtual idx) 3 pc') (ha : h a = some (.inr (ci, fs))) (run : Re Γ M' [.ref a, v1, v2, v3, v4, v5] h sz (some (.long x)) h1 sz1) (kk : Ex Γ M Z cc1 cn1 pc' lv (.long x :: rest) h1 sz1) : Ex Γ M Z cc cn pc lv (v5 :: v4 :: v3 :: v2 :: v1 :: .ref a :: rest) h sz := by
  subst e1; subst e2
  exact x_callV (as := [v1, v2, v3, v4, v5]) lk hR hcat d ha run (by rintro _ _ _ ⟨rfl, rfl, rfl⟩; exact kk)
theorem x_V5a {idx a ci : Nat} {fs : List Value} {v1 v2 v3 v4 v5 : Value} {x : Nat} (lk : LkV M.1.cls idx M' 5 ci) (hR : Rm M M' cc cn) (e1 : cc + M'.2.2.2.2.cells = cc1) (e2 : cn + M'.2.2.2.2.slots = cn1) (hcat : (rest.map fun v => v.category).sum ≤ 8) (d : Dc M.2.1 pc (.invokevirtual idx) 3 pc') (ha : h a = some (.inr (ci, fs))) (run : Re Γ M' [.ref a, v1, v2, v3, v4, v5] h sz (some (.ref x)) h1 sz1) (kk : Ex Γ M Z cc1 cn1 pc' lv (.ref x :: rest) h1 sz1) : Ex Γ M Z cc cn pc lv (v5 :: v4 :: v3 :: v2 :: v1 :: .ref a :: rest) h sz := by
  subst e1; subst e2
  exact x_callV (as := [v1, v2, v3, v4, v5]) lk hR hcat d ha run (by rintro _ _ _ ⟨rfl, rfl, rfl⟩; exact kk)
theorem x_V5v {idx a ci : Nat} {fs : List Value} {v1 v2 v3 v4 v5 : Value} (lk : LkV M.1.cls idx M' 5 ci) (hR : Rm M M' cc cn) (e1 : cc + M'.2.2.2.2.cells = cc1) (e2 : cn + M'.2.2.2.2.slots = cn1) (hcat : (rest.map fun v => v.category).sum ≤ 8) (d : Dc M.2.1 pc (.invokevirtual idx) 3 pc') (ha : h a = some (.inr (ci, fs))) (run : Re Γ M' [.ref a, v1, v2, v3, v4, v5] h sz (none) h1 sz1) (kk : Ex Γ M Z cc1 cn1 pc' lv (rest) h1 sz1) : Ex Γ M Z cc cn pc lv (v5 :: v4 :: v3 :: v2 :: v1 :: .ref a :: rest) h sz := by
  subst e1; subst e2
  exact x_callV (as := [v1, v2, v3, v4, v5]) lk hR hcat d ha run (by rintro _ _ _ ⟨rfl, rfl, rfl⟩; exact kk)
theorem x_V5q {idx a ci : Nat} {fs : List Value} {v1 v2 v3 v4 v5 : Value} (lk : LkV M.1.cls idx M' 5 ci) (hR : Rm M M' cc cn) (e1 : cc + M'.2.2.2.2.cells = cc1) (e2 : cn + M'.2.2.2.2.slots = cn1) (hcat : (rest.map fun v => v.category).sum ≤ 8) (d : Dc M.2.1 pc (.invokevirtual idx) 3 pc') (ha : h a = some (.inr (ci, fs))) (run : Rn Γ M' [.ref a, v1, v2, v3, v4, v5] h sz Q) (kk : ∀ (r : Option Value) (h' : Hp) (sz' : Nat), Q r h' sz' → Ex Γ M Z cc1 cn1 pc' lv (r.toList ++ rest) h' sz') : Ex Γ M Z cc cn pc lv (v5 :: v4 :: v3 :: v2 :: v1 :: .ref a :: rest) h sz := by
  subst e1; subst e2
  exact x_callV (as := [v1, v2, v3, v4, v5]) lk hR hcat d ha run kk
theorem x_S1i {idx : Nat} {v1 : Value} {x : Int32} (lk : LkS M.1.cls idx M' 1) (hR : Rm M M' cc cn) (e1 : cc + M'.2.2.2.2.cells = cc1) (e2 : cn + M'.2.2.2.2.slots = cn1) (hcat : (rest.map fun v => v.category).sum ≤ 8) (d : Dc M.2.1 pc (.invokestatic idx) 3 pc') (run : Re Γ M' [v1] h sz (some (.int x)) h1 sz1) (kk : Ex Γ M Z cc1 cn1 pc' lv (.int x :: rest) h1 sz1) : Ex Γ M Z cc cn pc lv (v1 :: rest) h sz := by
  subst e1; subst e2
  exact x_callS (as := [v1]) lk hR hcat d run (by rintro _ _ _ ⟨rfl, rfl, rfl⟩; exact kk)
theorem x_S1v {idx : Nat} {v1 : Value} (lk : LkS M.1.cls idx M' 1) (hR : Rm M M' cc cn) (e1 : cc + M'.2.2.2.2.cells = cc1) (e2 : cn + M'.2.2.2.2.slots = cn1) (hcat : (rest.map fun v => v.category).sum ≤ 8) (d : Dc M.2.1 pc (.invokestatic idx) 3 pc') (run : Re Γ M' [v1] h sz (none) h1 sz1) (kk : Ex Γ M Z cc1 cn1 pc' lv (rest) h1 sz1) : Ex Γ M Z cc cn pc lv (v1 :: rest) h sz := by
  subst e1; subst e2
  exact x_callS (as := [v1]) lk hR hcat d run (by rintro _ _ _ ⟨rfl, rfl, rfl⟩; exact kk)
theorem x_S1q {idx : Nat} {v1 : Value} (lk : LkS M.1.cls idx M' 1) (hR : Rm M M' cc cn) (e1 : cc + M'.2.2.2.2.cells = cc1) (e2 : cn + M'.2.2.2.2.slots = cn1) (hcat : (rest.map fun v => v.category).sum ≤ 8) (d : Dc M.2.1 pc (.invokestatic idx) 3 pc') (run : Rn Γ M' [v1] h sz Q) (kk : ∀ (r : Option Value) (h' : Hp) (sz' : Nat), Q r h' sz' → Ex Γ M Z cc1 cn1 pc' lv (r.toList ++ rest) h' sz') : Ex Γ M Z cc cn pc lv (v1 :: rest) h sz := by
  subst e1; subst e2
  exact x_callS (as := [v1]) lk hR hcat d run kk
theorem x_S2i {idx : Nat} {v1 v2 : Value} {x : Int32} (lk : LkS M.1.cls idx M' 2) (hR : Rm M M' cc cn) (e1 : cc + M'.2.2.2.2.cells = cc1) (e2 : cn + M'.2.2.2.2.slots = cn1) (hcat : (rest.map fun v => v.category).sum ≤ 8) (d : Dc M.2.1 pc (.invokestatic idx) 3 pc') (run : Re Γ M' [v1, v2] h sz (some (.int x)) h1 sz1) (kk : Ex Γ M Z cc1 cn1 pc' lv (.int x :: rest) h1 sz1) : Ex Γ M Z cc cn pc lv (v2 :: v1 :: rest) h sz := by
  subst e1; subst e2
  exact x_callS (as := [v1, v2]) lk hR hcat d run (by rintro _ _ _ ⟨rfl, rfl, rfl⟩; exact kk)
theorem x_S2v {idx : Nat} {v1 v2 : Value} (lk : LkS M.1.cls idx M' 2) (hR : Rm M M' cc cn) (e1 : cc + M'.2.2.2.2.cells = cc1) (e2 : cn + M'.2.2.2.2.slots = cn1) (hcat : (rest.map fun v => v.category).sum ≤ 8) (d : Dc M.2.1 pc (.invokestatic idx) 3 pc') (run : Re Γ M' [v1, v2] h sz (none) h1 sz1) (kk : Ex Γ M Z cc1 cn1 pc' lv (rest) h1 sz1) : Ex Γ M Z cc cn pc lv (v2 :: v1 :: rest) h sz := by
  subst e1; subst e2
  exact x_callS (as := [v1, v2]) lk hR hcat d run (by rintro _ _ _ ⟨rfl, rfl, rfl⟩; exact kk)
theorem x_S2q {idx : Nat} {v1 v2 : Value} (lk : LkS M.1.cls idx M' 2) (hR : Rm M M' cc cn) (e1 : cc + M'.2.2.2.2.cells = cc1) (e2 : cn + M'.2.2.2.2.slots = cn1) (hcat : (rest.map fun v => v.category).sum ≤ 8) (d : Dc M.2.1 pc (.invokestatic idx) 3 pc') (run : Rn Γ M' [v1, v2] h sz Q) (kk : ∀ (r : Option Value) (h' : Hp) (sz' : Nat), Q r h' sz' → Ex Γ M Z cc1 cn1 pc' lv (r.toList ++ rest) h' sz') : Ex Γ M Z cc cn pc lv (v2 :: v1 :: rest) h sz := by
  subst e1; subst e2
  exact x_callS (as := [v1, v2]) lk hR hcat d run kk
theorem x_S3i {idx : Nat} {v1 v2 v3 : Value} {x : Int32} (lk : LkS M.1.cls idx M' 3) (hR : Rm M M' cc cn) (e1 : cc + M'.2.2.2.2.cells = cc1) (e2 : cn + M'.2.2.2.2.slots = cn1) (hcat : (rest.map fun v => v.category).sum ≤ 8) (d : Dc M.2.1 pc (.invokestatic idx) 3 pc') (run : Re Γ M' [v1, v2, v3] h sz (some (.int x)) h1 sz1) (kk : Ex Γ M Z cc1 cn1 pc' lv (.int x :: rest) h1 sz1) : Ex Γ M Z cc cn pc lv (v3 :: v2 :: v1 :: rest) h sz := by
  subst e1; subst e2
  exact x_callS (as := [v1, v2, v3]) lk hR hcat d run (by rintro _ _ _ ⟨rfl, rfl, rfl⟩; exact kk)
theorem x_S3v {idx : Nat} {v1 v2 v3 : Value} (lk : LkS M.1.cls idx M' 3) (hR : Rm M M' cc cn) (e1 : cc + M'.2.2.2.2.cells = cc1) (e2 : cn + M'.2.2.2.2.slots = cn1) (hcat : (rest.map fun v => v.category).sum ≤ 8) (d : Dc M.2.1 pc (.invokestatic idx) 3 pc') (run : Re Γ M' [v1, v2, v3] h sz (none) h1 sz1) (kk : Ex Γ M Z cc1 cn1 pc' lv (rest) h1 sz1) : Ex Γ M Z cc cn pc lv (v3 :: v2 :: v1 :: rest) h sz := by
  subst e1; subst e2
  exact x_callS (as := [v1, v2, v3]) lk hR hcat d run (by rintro _ _ _ ⟨rfl, rfl, rfl⟩; exact kk)
theorem x_S3q {idx : Nat} {v1 v2 v3 : Value} (lk : LkS M.1.cls idx M' 3) (hR : Rm M M' cc cn) (e1 : cc + M'.2.2.2.2.cells = cc1) (e2 : cn + M'.2.2.2.2.slots = cn1) (hcat : (rest.map fun v => v.category).sum ≤ 8) (d : Dc M.2.1 pc (.invokestatic idx) 3 pc') (run : Rn Γ M' [v1, v2, v3] h sz Q) (kk : ∀ (r : Option Value) (h' : Hp) (sz' : Nat), Q r h' sz' → Ex Γ M Z cc1 cn1 pc' lv (r.toList ++ rest) h' sz') : Ex Γ M Z cc cn pc lv (v3 :: v2 :: v1 :: rest) h sz := by
  subst e1; subst e2
  exact x_callS (as := [v1, v2, v3]) lk hR hcat d run kk
theorem x_S4i {idx : Nat} {v1 v2 v3 v4 : Value} {x : Int32} (lk : LkS M.1.cls idx M' 4) (hR : Rm M M' cc cn) (e1 : cc + M'.2.2.2.2.cells = cc1) (e2 : cn + M'.2.2.2.2.slots = cn1) (hcat : (rest.map fun v => v.category).sum ≤ 8) (d : Dc M.2.1 pc (.invokestatic idx) 3 pc') (run : Re Γ M' [v1, v2, v3, v4] h sz (some (.int x)) h1 sz1) (kk : Ex Γ M Z cc1 cn1 pc' lv (.int x :: rest) h1 sz1) : Ex Γ M Z cc cn pc lv (v4 :: v3 :: v2 :: v1 :: rest) h sz := by
  subst e1; subst e2
  exact x_callS (as := [v1, v2, v3, v4]) lk hR hcat d run (by rintro _ _ _ ⟨rfl, rfl, rfl⟩; exact kk)
theorem x_S4v {idx : Nat} {v1 v2 v3 v4 : Value} (lk : LkS M.1.cls idx M' 4) (hR : Rm M M' cc cn) (e1 : cc + M'.2.2.2.2.cells = cc1) (e2 : cn + M'.2.2.2.2.slots = cn1) (hcat : (rest.map fun v => v.category).sum ≤ 8) (d : Dc M.2.1 pc (.invokestatic idx) 3 pc') (run : Re Γ M' [v1, v2, v3, v4] h sz (none) h1 sz1) (kk : Ex Γ M Z cc1 cn1 pc' lv (rest) h1 sz1) : Ex Γ M Z cc cn pc lv (v4 :: v3 :: v2 :: v1 :: rest) h sz := by
  subst e1; subst e2
  exact x_callS (as := [v1, v2, v3, v4]) lk hR hcat d run (by rintro _ _ _ ⟨rfl, rfl, rfl⟩; exact kk)
theorem x_S4q {idx : Nat} {v1 v2 v3 v4 : Value} (lk : LkS M.1.cls idx M' 4) (hR : Rm M M' cc cn) (e1 : cc + M'.2.2.2.2.cells = cc1) (e2 : cn + M'.2.2.2.2.slots = cn1) (hcat : (rest.map fun v => v.category).sum ≤ 8) (d : Dc M.2.1 pc (.invokestatic idx) 3 pc') (run : Rn Γ M' [v1, v2, v3, v4] h sz Q) (kk : ∀ (r : Option Value) (h' : Hp) (sz' : Nat), Q r h' sz' → Ex Γ M Z cc1 cn1 pc' lv (r.toList ++ rest) h' sz') : Ex Γ M Z cc cn pc lv (v4 :: v3 :: v2 :: v1 :: rest) h sz := by
  subst e1; subst e2
  exact x_callS (as := [v1, v2, v3, v4]) lk hR hcat d run kk
theorem x_S5i {idx : Nat} {v1 v2 v3 v4 v5 : Value} {x : Int32} (lk : LkS M.1.cls idx M' 5) (hR : Rm M M' cc cn) (e1 : cc + M'.2.2.2.2.cells = cc1) (e2 : cn + M'.2.2.2.2.slots = cn1) (hcat : (rest.map fun v => v.category).sum ≤ 8) (d : Dc M.2.1 pc (.invokestatic idx) 3 pc') (run : Re Γ M' [v1, v2, v3, v4, v5] h sz (some (.int x)) h1 sz1) (kk : Ex Γ M Z cc1 cn1 pc' lv (.int x :: rest) h1 sz1) : Ex Γ M Z cc cn pc lv (v5 :: v4 :: v3 :: v2 :: v1 :: rest) h sz := by
  subst e1; subst e2
  exact x_callS (as := [v1, v2, v3, v4, v5]) lk hR hcat d run (by rintro _ _ _ ⟨rfl, rfl, rfl⟩; exact kk)
theorem x_S5v {idx : Nat} {v1 v2 v3 v4 v5 : Value} (lk : LkS M.1.cls idx M' 5) (hR : Rm M M' cc cn) (e1 : cc + M'.2.2.2.2.cells = cc1) (e2 : cn + M'.2.2.2.2.slots = cn1) (hcat : (rest.map fun v => v.category).sum ≤ 8) (d : Dc M.2.1 pc (.invokestatic idx) 3 pc') (run : Re Γ M' [v1, v2, v3, v4, v5] h sz (none) h1 sz1) (kk : Ex Γ M Z cc1 cn1 pc' lv (rest) h1 sz1) : Ex Γ M Z cc cn pc lv (v5 :: v4 :: v3 :: v2 :: v1 :: rest) h sz := by
  subst e1; subst e2
  exact x_callS (as := [v1, v2, v3, v4, v5]) lk hR hcat d run (by rintro _ _ _ ⟨rfl, rfl, rfl⟩; exact kk)
theorem x_S5q {idx : Nat} {v1 v2 v3 v4 v5 : Value} (lk : LkS M.1.cls idx M' 5) (hR : Rm M M' cc cn) (e1 : cc + M'.2.2.2.2.cells = cc1) (e2 : cn + M'.2.2.2.2.slots = cn1) (hcat : (rest.map fun v => v.category).sum ≤ 8) (d : Dc M.2.1 pc (.invokestatic idx) 3 pc') (run : Rn Γ M' [v1, v2, v3, v4, v5] h sz Q) (kk : ∀ (r : Option Value) (h' : Hp) (sz' : Nat), Q r h' sz' → Ex Γ M Z cc1 cn1 pc' lv (r.toList ++ rest) h' sz') : Ex Γ M Z cc cn pc lv (v5 :: v4 :: v3 :: v2 :: v1 :: rest) h sz := by
  subst e1; subst e2
  exact x_callS (as := [v1, v2, v3, v4, v5]) lk hR hcat d run kk
theorem x_I0v {idx a : Nat} (lk : LkI M.1.cls idx M' 0) (hR : Rm M M' cc cn) (e1 : cc + M'.2.2.2.2.cells = cc1) (e2 : cn + M'.2.2.2.2.slots = cn1) (hcat : (rest.map fun v => v.category).sum ≤ 8) (d : Dc M.2.1 pc (.invokespecial idx) 3 pc') (run : Re Γ M' [.ref a] h sz (none) h1 sz1) (kk : Ex Γ M Z cc1 cn1 pc' lv (rest) h1 sz1) : Ex Γ M Z cc cn pc lv (.ref a :: rest) h sz := by
  subst e1; subst e2
  exact x_callI (as := []) lk hR hcat d run (by rintro _ _ _ ⟨rfl, rfl, rfl⟩; exact kk)
theorem x_I0q {idx a : Nat} (lk : LkI M.1.cls idx M' 0) (hR : Rm M M' cc cn) (e1 : cc + M'.2.2.2.2.cells = cc1) (e2 : cn + M'.2.2.2.2.slots = cn1) (hcat : (rest.map fun v => v.category).sum ≤ 8) (d : Dc M.2.1 pc (.invokespecial idx) 3 pc') (run : Rn Γ M' [.ref a] h sz Q) (kk : ∀ (r : Option Value) (h' : Hp) (sz' : Nat), Q r h' sz' → Ex Γ M Z cc1 cn1 pc' lv (r.toList ++ rest) h' sz') : Ex Γ M Z cc cn pc lv (.ref a :: rest) h sz := by
  subst e1; subst e2
  exact x_callI (as := []) lk hR hcat d run kk
theorem x_I1v {idx a : Nat} {v1 : Value} (lk : LkI M.1.cls idx M' 1) (hR : Rm M M' cc cn) (e1 : cc + M'.2.2.2.2.cells = cc1) (e2 : cn + M'.2.2.2.2.slots = cn1) (hcat : (rest.map fun v => v.category).sum ≤ 8) (d : Dc M.2.1 pc (.invokespecial idx) 3 pc') (run : Re Γ M' [.ref a, v1] h sz (none) h1 sz1) (kk : Ex Γ M Z cc1 cn1 pc' lv (rest) h1 sz1) : Ex Γ M Z cc cn pc lv (v1 :: .ref a :: rest) h sz := by
  subst e1; subst e2
  exact x_callI (as := [v1]) lk hR hcat d run (by rintro _ _ _ ⟨rfl, rfl, rfl⟩; exact kk)
theorem x_I1q {idx a : Nat} {v1 : Value} (lk : LkI M.1.cls idx M' 1) (hR : Rm M M' cc cn) (e1 : cc + M'.2.2.2.2.cells = cc1) (e2 : cn + M'.2.2.2.2.slots = cn1) (hcat : (rest.map fun v => v.category).sum ≤ 8) (d : Dc M.2.1 pc (.invokespecial idx) 3 pc') (run : Rn Γ M' [.ref a, v1] h sz Q) (kk : ∀ (r : Option Value) (h' : Hp) (sz' : Nat), Q r h' sz' → Ex Γ M Z cc1 cn1 pc' lv (r.toList ++ rest) h' sz') : Ex Γ M Z cc cn pc lv (v1 :: .ref a :: rest) h sz := by
  subst e1; subst e2
  exact x_callI (as := [v1]) lk hR hcat d run kk
theorem x_I2v {idx a : Nat} {v1 v2 : Value} (lk : LkI M.1.cls idx M' 2) (hR : Rm M M' cc cn) (e1 : cc + M'.2.2.2.2.cells = cc1) (e2 : cn + M'.2.2.2.2.slots = cn1) (hcat : (rest.map fun v => v.category).sum ≤ 8) (d : Dc M.2.1 pc (.invokespecial idx) 3 pc') (run : Re Γ M' [.ref a, v1, v2] h sz (none) h1 sz1) (kk : Ex Γ M Z cc1 cn1 pc' lv (rest) h1 sz1) : Ex Γ M Z cc cn pc lv (v2 :: v1 :: .ref a :: rest) h sz := by
  subst e1; subst e2
  exact x_callI (as := [v1, v2]) lk hR hcat d run (by rintro _ _ _ ⟨rfl, rfl, rfl⟩; exact kk)
theorem x_I2q {idx a : Nat} {v1 v2 : Value} (lk : LkI M.1.cls idx M' 2) (hR : Rm M M' cc cn) (e1 : cc + M'.2.2.2.2.cells = cc1) (e2 : cn + M'.2.2.2.2.slots = cn1) (hcat : (rest.map fun v => v.category).sum ≤ 8) (d : Dc M.2.1 pc (.invokespecial idx) 3 pc') (run : Rn Γ M' [.ref a, v1, v2] h sz Q) (kk : ∀ (r : Option Value) (h' : Hp) (sz' : Nat), Q r h' sz' → Ex Γ M Z cc1 cn1 pc' lv (r.toList ++ rest) h' sz') : Ex Γ M Z cc cn pc lv (v2 :: v1 :: .ref a :: rest) h sz := by
  subst e1; subst e2
  exact x_callI (as := [v1, v2]) lk hR hcat d run kk
theorem x_N0v {idx a : Nat} (lk : LkN M.1.cls idx M' 0) (hR : Rm M M' cc cn) (e1 : cc + M'.2.2.2.2.cells = cc1) (e2 : cn + M'.2.2.2.2.slots = cn1) (hcat : (rest.map fun v => v.category).sum ≤ 8) (d : Dc M.2.1 pc (.invokespecial idx) 3 pc') (run : Re Γ M' [.ref a] h sz (none) h1 sz1) (kk : Ex Γ M Z cc1 cn1 pc' lv (rest) h1 sz1) : Ex Γ M Z cc cn pc lv (.ref a :: rest) h sz := by
  subst e1; subst e2
  exact x_callN (as := []) lk hR hcat d run (by rintro _ _ _ ⟨rfl, rfl, rfl⟩; exact kk)
theorem x_N0q {idx a : Nat} (lk : LkN M.1.cls idx M' 0) (hR : Rm M M' cc cn) (e1 : cc + M'.2.2.2.2.cells = cc1) (e2 : cn + M'.2.2.2.2.slots = cn1) (hcat : (rest.map fun v => v.category).sum ≤ 8) (d : Dc M.2.1 pc (.invokespecial idx) 3 pc') (run : Rn Γ M' [.ref a] h sz Q) (kk : ∀ (r : Option Value) (h' : Hp) (sz' : Nat), Q r h' sz' → Ex Γ M Z cc1 cn1 pc' lv (r.toList ++ rest) h' sz') : Ex Γ M Z cc cn pc lv (.ref a :: rest) h sz := by
  subst e1; subst e2
  exact x_callN (as := []) lk hR hcat d run kk
theorem x_N1v {idx a : Nat} {v1 : Value} (lk : LkN M.1.cls idx M' 1) (hR : Rm M M' cc cn) (e1 : cc + M'.2.2.2.2.cells = cc1) (e2 : cn + M'.2.2.2.2.slots = cn1) (hcat : (rest.map fun v => v.category).sum ≤ 8) (d : Dc M.2.1 pc (.invokespecial idx) 3 pc') (run : Re Γ M' [.ref a, v1] h sz (none) h1 sz1) (kk : Ex Γ M Z cc1 cn1 pc' lv (rest) h1 sz1) : Ex Γ M Z cc cn pc lv (v1 :: .ref a :: rest) h sz := by
  subst e1; subst e2
  exact x_callN (as := [v1]) lk hR hcat d run (by rintro _ _ _ ⟨rfl, rfl, rfl⟩; exact kk)
theorem x_N1q {idx a : Nat} {v1 : Value} (lk : LkN M.1.cls idx M' 1) (hR : Rm M M' cc cn) (e1 : cc + M'.2.2.2.2.cells = cc1) (e2 : cn + M'.2.2.2.2.slots = cn1) (hcat : (rest.map fun v => v.category).sum ≤ 8) (d : Dc M.2.1 pc (.invokespecial idx) 3 pc') (run : Rn Γ M' [.ref a, v1] h sz Q) (kk : ∀ (r : Option Value) (h' : Hp) (sz' : Nat), Q r h' sz' → Ex Γ M Z cc1 cn1 pc' lv (r.toList ++ rest) h' sz') : Ex Γ M Z cc cn pc lv (v1 :: .ref a :: rest) h sz := by
  subst e1; subst e2
  exact x_callN (as := [v1]) lk hR hcat d run kk
theorem x_N2v {idx a : Nat} {v1 v2 : Value} (lk : LkN M.1.cls idx M' 2) (hR : Rm M M' cc cn) (e1 : cc + M'.2.2.2.2.cells = cc1) (e2 : cn + M'.2.2.2.2.slots = cn1) (hcat : (rest.map fun v => v.category).sum ≤ 8) (d : Dc M.2.1 pc (.invokespecial idx) 3 pc') (run : Re Γ M' [.ref a, v1, v2] h sz (none) h1 sz1) (kk : Ex Γ M Z cc1 cn1 pc' lv (rest) h1 sz1) : Ex Γ M Z cc cn pc lv (v2 :: v1 :: .ref a :: rest) h sz := by
  subst e1; subst e2
  exact x_callN (as := [v1, v2]) lk hR hcat d run (by rintro _ _ _ ⟨rfl, rfl, rfl⟩; exact kk)
theorem x_N2q {idx a : Nat} {v1 v2 : Value} (lk : LkN M.1.cls idx M' 2) (hR : Rm M M' cc cn) (e1 : cc + M'.2.2.2.2.cells = cc1) (e2 : cn + M'.2.2.2.2.slots = cn1) (hcat : (rest.map fun v => v.category).sum ≤ 8) (d : Dc M.2.1 pc (.invokespecial idx) 3 pc') (run : Rn Γ M' [.ref a, v1, v2] h sz Q) (kk : ∀ (r : Option Value) (h' : Hp) (sz' : Nat), Q r h' sz' → Ex Γ M Z cc1 cn1 pc' lv (r.toList ++ rest) h' sz') : Ex Γ M Z cc cn pc lv (v2 :: v1 :: .ref a :: rest) h sz := by
  subst e1; subst e2
  exact x_callN (as := [v1, v2]) lk hR hcat d run kk
theorem x_enterJ {Q : QT} {as : List Value} (pad : Nat) (hy : plainFor M.1 = true) (hlen : (lent as).length + pad = M.2.2.1) (hex : Ex Γ M (gx_Z Γ M Q) 0 0 0 (lent as ++ List.replicate pad (.retAddr 0)) [] h sz) : Rn Γ M as h sz Q := by
  refine va_MetF (cc := M.2.1) (maxL := M.2.2.1) (ret := M.2.2.2.1) hy rfl ?_
  intro p e s m args below meth c s₁ B hml hv
  obtain ⟨rfl, hw, hs⟩ := hv
  have hts := atoms_spec (ws := gx_ws M) B.pre
  have hl := lv_entry (as.map (gx_v Γ)) (n := M.2.2.1) (by rw [lg_sl_len]; omega)
  rw [lg_entry_eq]
  refine hex p e s m _ below meth c ⟨B.exec, B.bytes, B.returns, hml, findClass_of_methodNamed B.named, fun w hw => hts w (List.mem_cons_of_mem _ hw), B.notSynchronized, (name_of_methodNamed B.named B.method).1, hs⟩ s.heap [] _ hw (fun q hq => by cases hq) ⟨hl.1, hl.2.1, fun i v hi hr => ?_⟩
  by_cases hlt : i < (lent as).length
  · rw [List.getElem?_append_left hlt] at hi
    have := lent_in Γ as 0 i v hi hr
    rw [Nat.zero_add] at this
    exact hl.2.2 _ this
  · rw [List.getElem?_append_right (by omega)] at hi
    rw [List.getElem?_replicate] at hi
    split at hi
    · cases hi; exact absurd rfl (hr 0)
    · cases hi
theorem x_inc1 {i : Nat} {p : Nat} {st : List Value} (d : Dc M.2.1 pc (.iinc i 1) 3 pc') (hi : lv[i]? = some (.int (nI p))) (hn : i < M.2.2.1) (hc : lcat lv i = true) (k : Ex Γ M Z cc cn pc' (lv.set i (.int (nI (p + 1)))) st h sz) : Ex Γ M Z cc cn pc lv st h sz := by
  rw [← nI_1] at k
  exact x_iinc (v := 1) d hi (by decide) hn hc k
theorem x_ialdn {a n k : Nat} {f : Nat → Int32} (d : Dc M.2.1 pc .iaload 1 pc') (ha : h a = some (.inl (.int, n, .inl f))) (hk : k < n ∧ n < 2 ^ 31) (kk : Ex Γ M Z cc cn pc' lv (.int (f k) :: rest) h sz) : Ex Γ M Z cc cn pc lv (.int (nI k) :: .ref a :: rest) h sz :=
  x_iald d ha (vp_in_nI hk.1 hk.2) (by rw [nI_clamp (Nat.lt_trans hk.1 hk.2)]; exact kk)
theorem x_saldn {a n k : Nat} {f : Nat → Int32} (d : Dc M.2.1 pc .saload 1 pc') (ha : h a = some (.inl (.short, n, .inl f))) (hk : k < n ∧ n < 2 ^ 31) (kk : Ex Γ M Z cc cn pc' lv (.int (f k) :: rest) h sz) : Ex Γ M Z cc cn pc lv (.int (nI k) :: .ref a :: rest) h sz :=
  x_sald d ha (vp_in_nI hk.1 hk.2) (by rw [nI_clamp (Nat.lt_trans hk.1 hk.2)]; exact kk)
theorem x_zaldn {a n k : Nat} {f : Nat → Int32} (d : Dc M.2.1 pc .baload 1 pc') (ha : h a = some (.inl (.boolean, n, .inl f))) (hk : k < n ∧ n < 2 ^ 31) (kk : Ex Γ M Z cc cn pc' lv (.int (f k) :: rest) h sz) : Ex Γ M Z cc cn pc lv (.int (nI k) :: .ref a :: rest) h sz :=
  x_zald d ha (vp_in_nI hk.1 hk.2) (by rw [nI_clamp (Nat.lt_trans hk.1 hk.2)]; exact kk)
theorem x_laldn {a n k : Nat} {f : Nat → Int64} (d : Dc M.2.1 pc .laload 1 pc') (ha : h a = some (.inl (.long, n, .inr (.inl f)))) (hk : k < n ∧ n < 2 ^ 31) (kk : Ex Γ M Z cc cn pc' lv (.long (f k) :: rest) h sz) : Ex Γ M Z cc cn pc lv (.int (nI k) :: .ref a :: rest) h sz :=
  x_lald d ha (vp_in_nI hk.1 hk.2) (by rw [nI_clamp (Nat.lt_trans hk.1 hk.2)]; exact kk)
theorem x_iastn {a n k : Nat} {f : Nat → Int32} {x : Int32} (d : Dc M.2.1 pc .iastore 1 pc') (ha : h a = some (.inl (.int, n, .inl f))) (hk : k < n ∧ n < 2 ^ 31) (kk : Ex Γ M Z cc cn pc' lv rest (va_up h a (some (.inl (.int, n, .inl (upd f k (x)))))) sz) : Ex Γ M Z cc cn pc lv (.int x :: .int (nI k) :: .ref a :: rest) h sz :=
  x_iast d ha (vp_in_nI hk.1 hk.2) (by rw [nI_clamp (Nat.lt_trans hk.1 hk.2)]; exact kk)
theorem x_sastn {a n k : Nat} {f : Nat → Int32} {x : Int32} (d : Dc M.2.1 pc .sastore 1 pc') (ha : h a = some (.inl (.short, n, .inl f))) (hk : k < n ∧ n < 2 ^ 31) (kk : Ex Γ M Z cc cn pc' lv rest (va_up h a (some (.inl (.short, n, .inl (upd f k (x.toInt16.toInt32)))))) sz) : Ex Γ M Z cc cn pc lv (.int x :: .int (nI k) :: .ref a :: rest) h sz :=
  x_sast d ha (vp_in_nI hk.1 hk.2) (by rw [nI_clamp (Nat.lt_trans hk.1 hk.2)]; exact kk)
theorem x_zastn {a n k : Nat} {f : Nat → Int32} {x : Int32} (d : Dc M.2.1 pc .bastore 1 pc') (ha : h a = some (.inl (.boolean, n, .inl f))) (hk : k < n ∧ n < 2 ^ 31) (kk : Ex Γ M Z cc cn pc' lv rest (va_up h a (some (.inl (.boolean, n, .inl (upd f k (x &&& 1)))))) sz) : Ex Γ M Z cc cn pc lv (.int x :: .int (nI k) :: .ref a :: rest) h sz :=
  x_zast d ha (vp_in_nI hk.1 hk.2) (by rw [nI_clamp (Nat.lt_trans hk.1 hk.2)]; exact kk)
theorem x_lastn {a n k : Nat} {f : Nat → Int64} {x : Int64} (d : Dc M.2.1 pc .lastore 1 pc') (ha : h a = some (.inl (.long, n, .inr (.inl f)))) (hk : k < n ∧ n < 2 ^ 31) (kk : Ex Γ M Z cc cn pc' lv rest (va_up h a (some (.inl (.long, n, .inr (.inl (vp_updL f k x)))))) sz) : Ex Γ M Z cc cn pc lv (.long x :: .int (nI k) :: .ref a :: rest) h sz :=
  x_last d ha (vp_in_nI hk.1 hk.2) (by rw [nI_clamp (Nat.lt_trans hk.1 hk.2)]; exact kk)
theorem x_mmin {idx : Nat} {a b : Int32} (lk : Cond.methodLink M.1.cls idx Lib.Math.min.name ∈ gtbl) (hs : Cond.static Lib.Math.min.name ∈ gtbl) (hi : Cond.initialized "java/lang/Math" ∈ gtbl) (hc : Cond.code Lib.Math.min.name Lib.Math.min.code 2 (some .int) ∈ gtbl) (hR : 1 ≤ M.2.2.2.2.frames ∧ 21 ≤ M.2.2.2.2.locals) (hcc : cc ≤ M.2.2.2.2.cells) (hcn : cn ≤ M.2.2.2.2.slots) (hcat : (rest.map fun v => v.category).sum ≤ 8) (d : Dc M.2.1 pc (.invokestatic idx) 3 pc') (kk : Ex Γ M Z cc cn pc' lv (.int (if b < a then b else a) :: rest) h sz) : Ex Γ M Z cc cn pc lv (.int b :: .int a :: rest) h sz := by
  obtain ⟨d, rfl⟩ := d
  intro p e s m args below meth c F H locs ls hw hL hl
  have hts := F.2.2.2.2.2.1
  exact va_mmin F.1 F.2.1 (by rw [F.2.2.2.1]; exact hl.1.symm) F.2.2.2.2.1 (hts _ lk) (hts _ hs) (hts _ hi) (hts _ hc) hR.1 (by rw [cat_map]; omega) hcc hcn d (kk p e s m args below meth c F H locs ls hw hL hl)
theorem x_mabs {idx : Nat} {a b : Int32} (lk : Cond.methodLink M.1.cls idx Lib.Math.abs.name ∈ gtbl) (hs : Cond.static Lib.Math.abs.name ∈ gtbl) (hi : Cond.initialized "java/lang/Math" ∈ gtbl) (hc : Cond.code Lib.Math.abs.name Lib.Math.abs.code 1 (some .int) ∈ gtbl) (hR : 1 ≤ M.2.2.2.2.frames ∧ 21 ≤ M.2.2.2.2.locals) (hcc : cc ≤ M.2.2.2.2.cells) (hcn : cn ≤ M.2.2.2.2.slots) (hcat : (rest.map fun v => v.category).sum ≤ 8) (d : Dc M.2.1 pc (.invokestatic idx) 3 pc') (kk : Ex Γ M Z cc cn pc' lv (.int (if 0 ≤ a then a else 0 - a) :: rest) h sz) : Ex Γ M Z cc cn pc lv (.int a :: rest) h sz := by
  obtain ⟨d, rfl⟩ := d
  intro p e s m args below meth c F H locs ls hw hL hl
  have hts := F.2.2.2.2.2.1
  exact va_mabs F.1 F.2.1 (by rw [F.2.2.2.1]; exact hl.1.symm) F.2.2.2.2.1 (hts _ lk) (hts _ hs) (hts _ hi) (hts _ hc) hR.1 (by rw [cat_map]; omega) hcc hcn d (kk p e s m args below meth c F H locs ls hw hL hl)
end Vars
abbrev ia (n : Nat) (f : Nat → Int32) : Option HC := some (.inl (.int, n, .inl f))
abbrev ob (ci : Nat) (fs : List Value) : Option HC := some (.inr (ci, fs))
theorem up_same {h : Hp} {k : Nat} {c : Option HC} : va_up h k c k = c := if_pos rfl
theorem up_ne {h : Hp} {k j : Nat} {c : Option HC} (e : j ≠ k) : va_up h k c j = h j := if_neg e
theorem up_id {h : Hp} {k : Nat} {c : Option HC} (e : h k = c) : va_up h k c = h := by
  funext j
  by_cases q : j = k
  · subst q; rw [up_same, e]
  · rw [up_ne q]
theorem up_up {h : Hp} {k : Nat} {c c' : Option HC} : va_up (va_up h k c) k c' = va_up h k c' := by
  funext j
  by_cases q : j = k
  · subst q; rw [up_same, up_same]
  · rw [up_ne q, up_ne q, up_ne q]
theorem up_swap {h : Hp} {k j : Nat} {c c' : Option HC} (e : k ≠ j) : va_up (va_up h k c) j c' = va_up (va_up h j c') k c := by
  funext i
  by_cases q : i = k
  · subst q; rw [up_ne e, up_same, up_same]
  · by_cases q2 : i = j
    · subst q2; rw [up_same, up_ne q, up_same]
    · rw [up_ne q2, up_ne q, up_ne q, up_ne q2]
theorem Fw.i {ci k : Nat} {C : String} {T : u_T} {N : Nat} {x : Int32} (hc : kls[ci]? = some (C, T, N)) (ht : parseFieldDescriptor (T k).2.2.1 = some .int) : Fw ci k (.int x) := ⟨C, T, N, .int, hc, ht, rfl, rfl⟩
theorem Fw.z0 {ci k : Nat} {C : String} {T : u_T} {N : Nat} (hc : kls[ci]? = some (C, T, N)) (ht : parseFieldDescriptor (T k).2.2.1 = some .boolean) : Fw ci k (.int 0) := ⟨C, T, N, .boolean, hc, ht, rfl, rfl⟩
theorem Fw.z1 {ci k : Nat} {C : String} {T : u_T} {N : Nat} (hc : kls[ci]? = some (C, T, N)) (ht : parseFieldDescriptor (T k).2.2.1 = some .boolean) : Fw ci k (.int 1) := ⟨C, T, N, .boolean, hc, ht, rfl, rfl⟩
theorem Fw.r {ci k a : Nat} {C : String} {T : u_T} {N : Nat} {ty : FieldType} (hc : kls[ci]? = some (C, T, N)) (ht : parseFieldDescriptor (T k).2.2.1 = some ty) (hn : ty.isReference = true) : Fw ci k (.ref a) := by
  refine ⟨C, T, N, ty, hc, ht, ?_, ?_⟩ <;> cases ty <;> first | rfl | (simp [FieldType.isReference] at hn)
theorem w9_0 (a : Nat) : Fw 9 0 (.ref a) := Fw.r (ty := .array (.object "SoldWithIt$Text")) rfl (by decide +kernel) rfl
theorem w9_0n : Fw 9 0 .null := ⟨_, _, _, .array (.object "SoldWithIt$Text"), rfl, by decide +kernel, rfl, rfl⟩
theorem w9_1 (a : Nat) : Fw 9 1 (.ref a) := Fw.r (ty := .object "SoldWithIt$Street") rfl (by decide +kernel) rfl
theorem w9_1n : Fw 9 1 .null := ⟨_, _, _, .object "SoldWithIt$Street", rfl, by decide +kernel, rfl, rfl⟩
theorem w9_2 (a : Nat) : Fw 9 2 (.ref a) := Fw.r (ty := .object "SoldWithIt$Sales") rfl (by decide +kernel) rfl
theorem w9_2n : Fw 9 2 .null := ⟨_, _, _, .object "SoldWithIt$Sales", rfl, by decide +kernel, rfl, rfl⟩
theorem w9_3 (a : Nat) : Fw 9 3 (.ref a) := Fw.r (ty := .object "SoldWithIt$Stroke") rfl (by decide +kernel) rfl
theorem w9_3n : Fw 9 3 .null := ⟨_, _, _, .object "SoldWithIt$Stroke", rfl, by decide +kernel, rfl, rfl⟩
theorem w9_4 (a : Nat) : Fw 9 4 (.ref a) := Fw.r (ty := .object "SoldWithIt$Tastes") rfl (by decide +kernel) rfl
theorem w9_4n : Fw 9 4 .null := ⟨_, _, _, .object "SoldWithIt$Tastes", rfl, by decide +kernel, rfl, rfl⟩
theorem w9_5 (a : Nat) : Fw 9 5 (.ref a) := Fw.r (ty := .object "SoldWithIt$Rows") rfl (by decide +kernel) rfl
theorem w9_5n : Fw 9 5 .null := ⟨_, _, _, .object "SoldWithIt$Rows", rfl, by decide +kernel, rfl, rfl⟩
theorem w9_6 (a : Nat) : Fw 9 6 (.ref a) := Fw.r (ty := .object "SoldWithIt$Deeds") rfl (by decide +kernel) rfl
theorem w9_6n : Fw 9 6 .null := ⟨_, _, _, .object "SoldWithIt$Deeds", rfl, by decide +kernel, rfl, rfl⟩
theorem w9_7 (a : Nat) : Fw 9 7 (.ref a) := Fw.r (ty := .object "SoldWithIt$Facts") rfl (by decide +kernel) rfl
theorem w9_7n : Fw 9 7 .null := ⟨_, _, _, .object "SoldWithIt$Facts", rfl, by decide +kernel, rfl, rfl⟩
theorem w9_8 (a : Nat) : Fw 9 8 (.ref a) := Fw.r (ty := .array (.object "SoldWithIt$Sheet")) rfl (by decide +kernel) rfl
theorem w9_8n : Fw 9 8 .null := ⟨_, _, _, .array (.object "SoldWithIt$Sheet"), rfl, by decide +kernel, rfl, rfl⟩
theorem w9_90 : Fw 9 9 (.int 0) := Fw.z0 rfl (by decide +kernel)
theorem w9_91 : Fw 9 9 (.int 1) := Fw.z1 rfl (by decide +kernel)
theorem w9_10 (x : Int32) : Fw 9 10 (.int x) := Fw.i rfl (by decide +kernel)
theorem w8_1 (x : Int32) : Fw 8 1 (.int x) := Fw.i rfl (by decide +kernel)
theorem w3_0 (x : Int32) : Fw 3 0 (.int x) := Fw.i rfl (by decide +kernel)
theorem w3_1 (x : Int32) : Fw 3 1 (.int x) := Fw.i rfl (by decide +kernel)
theorem w1_0 (x : Int32) : Fw 1 0 (.int x) := Fw.i rfl (by decide +kernel)
theorem w4_0 (x : Int32) : Fw 4 0 (.int x) := Fw.i rfl (by decide +kernel)
theorem w0_0 (a : Nat) : Fw 0 0 (.ref a) := Fw.r (ty := .object "SoldWithIt$Stroke") rfl (by decide +kernel) rfl
theorem w0_0n : Fw 0 0 .null := ⟨_, _, _, .object "SoldWithIt$Stroke", rfl, by decide +kernel, rfl, rfl⟩
theorem w0_1 (a : Nat) : Fw 0 1 (.ref a) := Fw.r (ty := .array .short) rfl (by decide +kernel) rfl
theorem w0_1n : Fw 0 1 .null := ⟨_, _, _, .array .short, rfl, by decide +kernel, rfl, rfl⟩
theorem w0_2 (a : Nat) : Fw 0 2 (.ref a) := Fw.r (ty := .array .short) rfl (by decide +kernel) rfl
theorem w0_2n : Fw 0 2 .null := ⟨_, _, _, .array .short, rfl, by decide +kernel, rfl, rfl⟩
theorem w0_3 (x : Int32) : Fw 0 3 (.int x) := Fw.i rfl (by decide +kernel)
theorem w0_40 : Fw 0 4 (.int 0) := Fw.z0 rfl (by decide +kernel)
theorem w0_41 : Fw 0 4 (.int 1) := Fw.z1 rfl (by decide +kernel)
theorem w1_1 (a : Nat) : Fw 1 1 (.ref a) := Fw.r (ty := .array .int) rfl (by decide +kernel) rfl
theorem w1_1n : Fw 1 1 .null := ⟨_, _, _, .array .int, rfl, by decide +kernel, rfl, rfl⟩
theorem w1_2 (a : Nat) : Fw 1 2 (.ref a) := Fw.r (ty := .array .int) rfl (by decide +kernel) rfl
theorem w1_2n : Fw 1 2 .null := ⟨_, _, _, .array .int, rfl, by decide +kernel, rfl, rfl⟩
theorem w2_0 (a : Nat) : Fw 2 0 (.ref a) := Fw.r (ty := .object "SoldWithIt$Stroke") rfl (by decide +kernel) rfl
theorem w2_0n : Fw 2 0 .null := ⟨_, _, _, .object "SoldWithIt$Stroke", rfl, by decide +kernel, rfl, rfl⟩
theorem w2_1 (a : Nat) : Fw 2 1 (.ref a) := Fw.r (ty := .array .int) rfl (by decide +kernel) rfl
theorem w2_1n : Fw 2 1 .null := ⟨_, _, _, .array .int, rfl, by decide +kernel, rfl, rfl⟩
theorem w2_2 (a : Nat) : Fw 2 2 (.ref a) := Fw.r (ty := .array .int) rfl (by decide +kernel) rfl
theorem w2_2n : Fw 2 2 .null := ⟨_, _, _, .array .int, rfl, by decide +kernel, rfl, rfl⟩
theorem w2_3 (a : Nat) : Fw 2 3 (.ref a) := Fw.r (ty := .array .int) rfl (by decide +kernel) rfl
theorem w2_3n : Fw 2 3 .null := ⟨_, _, _, .array .int, rfl, by decide +kernel, rfl, rfl⟩
theorem w2_4 (a : Nat) : Fw 2 4 (.ref a) := Fw.r (ty := .array .int) rfl (by decide +kernel) rfl
theorem w2_4n : Fw 2 4 .null := ⟨_, _, _, .array .int, rfl, by decide +kernel, rfl, rfl⟩
theorem w2_5 (a : Nat) : Fw 2 5 (.ref a) := Fw.r (ty := .array .long) rfl (by decide +kernel) rfl
theorem w2_5n : Fw 2 5 .null := ⟨_, _, _, .array .long, rfl, by decide +kernel, rfl, rfl⟩
theorem w2_6 (x : Int32) : Fw 2 6 (.int x) := Fw.i rfl (by decide +kernel)
theorem w2_7 (x : Int32) : Fw 2 7 (.int x) := Fw.i rfl (by decide +kernel)
theorem w2_8 (x : Int32) : Fw 2 8 (.int x) := Fw.i rfl (by decide +kernel)
theorem w2_90 : Fw 2 9 (.int 0) := Fw.z0 rfl (by decide +kernel)
theorem w2_91 : Fw 2 9 (.int 1) := Fw.z1 rfl (by decide +kernel)
theorem w2_100 : Fw 2 10 (.int 0) := Fw.z0 rfl (by decide +kernel)
theorem w2_101 : Fw 2 10 (.int 1) := Fw.z1 rfl (by decide +kernel)
theorem w2_110 : Fw 2 11 (.int 0) := Fw.z0 rfl (by decide +kernel)
theorem w2_111 : Fw 2 11 (.int 1) := Fw.z1 rfl (by decide +kernel)
theorem w2_12 (x : Int32) : Fw 2 12 (.int x) := Fw.i rfl (by decide +kernel)
theorem w2_13 (x : Int32) : Fw 2 13 (.int x) := Fw.i rfl (by decide +kernel)
theorem w2_14 (x : Int32) : Fw 2 14 (.int x) := Fw.i rfl (by decide +kernel)
theorem w2_15 (a : Nat) : Fw 2 15 (.ref a) := Fw.r (ty := .array .int) rfl (by decide +kernel) rfl
theorem w2_15n : Fw 2 15 .null := ⟨_, _, _, .array .int, rfl, by decide +kernel, rfl, rfl⟩
theorem w3_2 (a : Nat) : Fw 3 2 (.ref a) := Fw.r (ty := .array .int) rfl (by decide +kernel) rfl
theorem w3_2n : Fw 3 2 .null := ⟨_, _, _, .array .int, rfl, by decide +kernel, rfl, rfl⟩
theorem w3_3 (a : Nat) : Fw 3 3 (.ref a) := Fw.r (ty := .array .int) rfl (by decide +kernel) rfl
theorem w3_3n : Fw 3 3 .null := ⟨_, _, _, .array .int, rfl, by decide +kernel, rfl, rfl⟩
theorem w4_1 (x : Int32) : Fw 4 1 (.int x) := Fw.i rfl (by decide +kernel)
theorem w4_2 (a : Nat) : Fw 4 2 (.ref a) := Fw.r (ty := .array .int) rfl (by decide +kernel) rfl
theorem w4_2n : Fw 4 2 .null := ⟨_, _, _, .array .int, rfl, by decide +kernel, rfl, rfl⟩
theorem w5_0 (x : Int32) : Fw 5 0 (.int x) := Fw.i rfl (by decide +kernel)
theorem w5_1 (x : Int32) : Fw 5 1 (.int x) := Fw.i rfl (by decide +kernel)
theorem w5_2 (a : Nat) : Fw 5 2 (.ref a) := Fw.r (ty := .array .int) rfl (by decide +kernel) rfl
theorem w5_2n : Fw 5 2 .null := ⟨_, _, _, .array .int, rfl, by decide +kernel, rfl, rfl⟩
theorem w5_3 (a : Nat) : Fw 5 3 (.ref a) := Fw.r (ty := .array .int) rfl (by decide +kernel) rfl
theorem w5_3n : Fw 5 3 .null := ⟨_, _, _, .array .int, rfl, by decide +kernel, rfl, rfl⟩
theorem w5_4 (a : Nat) : Fw 5 4 (.ref a) := Fw.r (ty := .array .int) rfl (by decide +kernel) rfl
theorem w5_4n : Fw 5 4 .null := ⟨_, _, _, .array .int, rfl, by decide +kernel, rfl, rfl⟩
theorem w5_5 (a : Nat) : Fw 5 5 (.ref a) := Fw.r (ty := .array .int) rfl (by decide +kernel) rfl
theorem w5_5n : Fw 5 5 .null := ⟨_, _, _, .array .int, rfl, by decide +kernel, rfl, rfl⟩
theorem w5_6 (a : Nat) : Fw 5 6 (.ref a) := Fw.r (ty := .array .int) rfl (by decide +kernel) rfl
theorem w5_6n : Fw 5 6 .null := ⟨_, _, _, .array .int, rfl, by decide +kernel, rfl, rfl⟩
theorem w5_7 (a : Nat) : Fw 5 7 (.ref a) := Fw.r (ty := .array .int) rfl (by decide +kernel) rfl
theorem w5_7n : Fw 5 7 .null := ⟨_, _, _, .array .int, rfl, by decide +kernel, rfl, rfl⟩
theorem w6_0 (a : Nat) : Fw 6 0 (.ref a) := Fw.r (ty := .array .int) rfl (by decide +kernel) rfl
theorem w6_0n : Fw 6 0 .null := ⟨_, _, _, .array .int, rfl, by decide +kernel, rfl, rfl⟩
theorem w6_1 (a : Nat) : Fw 6 1 (.ref a) := Fw.r (ty := .array .int) rfl (by decide +kernel) rfl
theorem w6_1n : Fw 6 1 .null := ⟨_, _, _, .array .int, rfl, by decide +kernel, rfl, rfl⟩
theorem w6_2 (a : Nat) : Fw 6 2 (.ref a) := Fw.r (ty := .array .int) rfl (by decide +kernel) rfl
theorem w6_2n : Fw 6 2 .null := ⟨_, _, _, .array .int, rfl, by decide +kernel, rfl, rfl⟩
theorem w6_3 (a : Nat) : Fw 6 3 (.ref a) := Fw.r (ty := .array .int) rfl (by decide +kernel) rfl
theorem w6_3n : Fw 6 3 .null := ⟨_, _, _, .array .int, rfl, by decide +kernel, rfl, rfl⟩
theorem w6_4 (x : Int32) : Fw 6 4 (.int x) := Fw.i rfl (by decide +kernel)
theorem w6_5 (x : Int32) : Fw 6 5 (.int x) := Fw.i rfl (by decide +kernel)
theorem w6_6 (x : Int32) : Fw 6 6 (.int x) := Fw.i rfl (by decide +kernel)
theorem w7_0 (a : Nat) : Fw 7 0 (.ref a) := Fw.r (ty := .array .int) rfl (by decide +kernel) rfl
theorem w7_0n : Fw 7 0 .null := ⟨_, _, _, .array .int, rfl, by decide +kernel, rfl, rfl⟩
theorem w7_1 (a : Nat) : Fw 7 1 (.ref a) := Fw.r (ty := .array .int) rfl (by decide +kernel) rfl
theorem w7_1n : Fw 7 1 .null := ⟨_, _, _, .array .int, rfl, by decide +kernel, rfl, rfl⟩
theorem w8_0 (a : Nat) : Fw 8 0 (.ref a) := Fw.r (ty := .array .int) rfl (by decide +kernel) rfl
theorem w8_0n : Fw 8 0 .null := ⟨_, _, _, .array .int, rfl, by decide +kernel, rfl, rfl⟩
theorem w10_0 (a : Nat) : Fw 10 0 (.ref a) := Fw.r (ty := .array .int) rfl (by decide +kernel) rfl
theorem w10_0n : Fw 10 0 .null := ⟨_, _, _, .array .int, rfl, by decide +kernel, rfl, rfl⟩
theorem w10_1 (a : Nat) : Fw 10 1 (.ref a) := Fw.r (ty := .array .int) rfl (by decide +kernel) rfl
theorem w10_1n : Fw 10 1 .null := ⟨_, _, _, .array .int, rfl, by decide +kernel, rfl, rfl⟩
theorem w10_3 (a : Nat) : Fw 10 3 (.ref a) := Fw.r (ty := .array .int) rfl (by decide +kernel) rfl
theorem w10_3n : Fw 10 3 .null := ⟨_, _, _, .array .int, rfl, by decide +kernel, rfl, rfl⟩
theorem w10_4 (a : Nat) : Fw 10 4 (.ref a) := Fw.r (ty := .array .int) rfl (by decide +kernel) rfl
theorem w10_4n : Fw 10 4 .null := ⟨_, _, _, .array .int, rfl, by decide +kernel, rfl, rfl⟩
theorem w10_6 (a : Nat) : Fw 10 6 (.ref a) := Fw.r (ty := .array .int) rfl (by decide +kernel) rfl
theorem w10_6n : Fw 10 6 .null := ⟨_, _, _, .array .int, rfl, by decide +kernel, rfl, rfl⟩
theorem w10_7 (a : Nat) : Fw 10 7 (.ref a) := Fw.r (ty := .array .int) rfl (by decide +kernel) rfl
theorem w10_7n : Fw 10 7 .null := ⟨_, _, _, .array .int, rfl, by decide +kernel, rfl, rfl⟩
theorem w10_8 (a : Nat) : Fw 10 8 (.ref a) := Fw.r (ty := .array .int) rfl (by decide +kernel) rfl
theorem w10_8n : Fw 10 8 .null := ⟨_, _, _, .array .int, rfl, by decide +kernel, rfl, rfl⟩
theorem w10_10 (a : Nat) : Fw 10 10 (.ref a) := Fw.r (ty := .array .int) rfl (by decide +kernel) rfl
theorem w10_10n : Fw 10 10 .null := ⟨_, _, _, .array .int, rfl, by decide +kernel, rfl, rfl⟩
theorem w10_11 (a : Nat) : Fw 10 11 (.ref a) := Fw.r (ty := .array .int) rfl (by decide +kernel) rfl
theorem w10_11n : Fw 10 11 .null := ⟨_, _, _, .array .int, rfl, by decide +kernel, rfl, rfl⟩
theorem w10_12 (a : Nat) : Fw 10 12 (.ref a) := Fw.r (ty := .array .int) rfl (by decide +kernel) rfl
theorem w10_12n : Fw 10 12 .null := ⟨_, _, _, .array .int, rfl, by decide +kernel, rfl, rfl⟩
theorem w10_13 (a : Nat) : Fw 10 13 (.ref a) := Fw.r (ty := .array .int) rfl (by decide +kernel) rfl
theorem w10_13n : Fw 10 13 .null := ⟨_, _, _, .array .int, rfl, by decide +kernel, rfl, rfl⟩
theorem w10_14 (a : Nat) : Fw 10 14 (.ref a) := Fw.r (ty := .array .int) rfl (by decide +kernel) rfl
theorem w10_14n : Fw 10 14 .null := ⟨_, _, _, .array .int, rfl, by decide +kernel, rfl, rfl⟩
theorem w10_15 (a : Nat) : Fw 10 15 (.ref a) := Fw.r (ty := .array .int) rfl (by decide +kernel) rfl
theorem w10_15n : Fw 10 15 .null := ⟨_, _, _, .array .int, rfl, by decide +kernel, rfl, rfl⟩
theorem w10_16 (a : Nat) : Fw 10 16 (.ref a) := Fw.r (ty := .array .int) rfl (by decide +kernel) rfl
theorem w10_16n : Fw 10 16 .null := ⟨_, _, _, .array .int, rfl, by decide +kernel, rfl, rfl⟩
theorem w10_18 (a : Nat) : Fw 10 18 (.ref a) := Fw.r (ty := .array .int) rfl (by decide +kernel) rfl
theorem w10_18n : Fw 10 18 .null := ⟨_, _, _, .array .int, rfl, by decide +kernel, rfl, rfl⟩
theorem w10_19 (a : Nat) : Fw 10 19 (.ref a) := Fw.r (ty := .array .int) rfl (by decide +kernel) rfl
theorem w10_19n : Fw 10 19 .null := ⟨_, _, _, .array .int, rfl, by decide +kernel, rfl, rfl⟩
theorem w10_20 (a : Nat) : Fw 10 20 (.ref a) := Fw.r (ty := .array .int) rfl (by decide +kernel) rfl
theorem w10_20n : Fw 10 20 .null := ⟨_, _, _, .array .int, rfl, by decide +kernel, rfl, rfl⟩
theorem w10_21 (a : Nat) : Fw 10 21 (.ref a) := Fw.r (ty := .array .int) rfl (by decide +kernel) rfl
theorem w10_21n : Fw 10 21 .null := ⟨_, _, _, .array .int, rfl, by decide +kernel, rfl, rfl⟩
theorem w10_22 (a : Nat) : Fw 10 22 (.ref a) := Fw.r (ty := .array .int) rfl (by decide +kernel) rfl
theorem w10_22n : Fw 10 22 .null := ⟨_, _, _, .array .int, rfl, by decide +kernel, rfl, rfl⟩
theorem w10_24 (a : Nat) : Fw 10 24 (.ref a) := Fw.r (ty := .array .int) rfl (by decide +kernel) rfl
theorem w10_24n : Fw 10 24 .null := ⟨_, _, _, .array .int, rfl, by decide +kernel, rfl, rfl⟩
theorem w10_25 (a : Nat) : Fw 10 25 (.ref a) := Fw.r (ty := .array .int) rfl (by decide +kernel) rfl
theorem w10_25n : Fw 10 25 .null := ⟨_, _, _, .array .int, rfl, by decide +kernel, rfl, rfl⟩
theorem w10_26 (a : Nat) : Fw 10 26 (.ref a) := Fw.r (ty := .array .int) rfl (by decide +kernel) rfl
theorem w10_26n : Fw 10 26 .null := ⟨_, _, _, .array .int, rfl, by decide +kernel, rfl, rfl⟩
theorem w10_27 (a : Nat) : Fw 10 27 (.ref a) := Fw.r (ty := .array .boolean) rfl (by decide +kernel) rfl
theorem w10_27n : Fw 10 27 .null := ⟨_, _, _, .array .boolean, rfl, by decide +kernel, rfl, rfl⟩
theorem w10_28 (a : Nat) : Fw 10 28 (.ref a) := Fw.r (ty := .array .int) rfl (by decide +kernel) rfl
theorem w10_28n : Fw 10 28 .null := ⟨_, _, _, .array .int, rfl, by decide +kernel, rfl, rfl⟩
theorem w10_29 (a : Nat) : Fw 10 29 (.ref a) := Fw.r (ty := .array .int) rfl (by decide +kernel) rfl
theorem w10_29n : Fw 10 29 .null := ⟨_, _, _, .array .int, rfl, by decide +kernel, rfl, rfl⟩
theorem w10_30 (a : Nat) : Fw 10 30 (.ref a) := Fw.r (ty := .array .int) rfl (by decide +kernel) rfl
theorem w10_30n : Fw 10 30 .null := ⟨_, _, _, .array .int, rfl, by decide +kernel, rfl, rfl⟩
theorem w10_31 (a : Nat) : Fw 10 31 (.ref a) := Fw.r (ty := .array .int) rfl (by decide +kernel) rfl
theorem w10_31n : Fw 10 31 .null := ⟨_, _, _, .array .int, rfl, by decide +kernel, rfl, rfl⟩
theorem w10_2 (x : Int32) : Fw 10 2 (.int x) := Fw.i rfl (by decide +kernel)
theorem w10_5 (x : Int32) : Fw 10 5 (.int x) := Fw.i rfl (by decide +kernel)
theorem w10_9 (x : Int32) : Fw 10 9 (.int x) := Fw.i rfl (by decide +kernel)
theorem w10_17 (x : Int32) : Fw 10 17 (.int x) := Fw.i rfl (by decide +kernel)
theorem w10_23 (x : Int32) : Fw 10 23 (.int x) := Fw.i rfl (by decide +kernel)
theorem w10_32 (x : Int32) : Fw 10 32 (.int x) := Fw.i rfl (by decide +kernel)
theorem ms_min : Cond.static Lib.Math.min.name ∈ gtbl := gs2 159 rfl rfl
theorem mc_min : Cond.code Lib.Math.min.name Lib.Math.min.code 2 (some .int) ∈ gtbl := gt_at 466 (by decide +kernel) rfl
theorem ms_abs : Cond.static Lib.Math.abs.name ∈ gtbl := gs3 228 rfl rfl
theorem mc_abs : Cond.code Lib.Math.abs.name Lib.Math.abs.code 1 (some .int) ∈ gtbl := gt_at 775 (by decide +kernel) rfl
theorem mi_math : Cond.initialized "java/lang/Math" ∈ gtbl := gs1 14 rfl rfl
theorem lmX9_237 : Cond.methodLink "SoldWithIt" 237 Lib.Math.min.name ∈ gtbl := gs3 226 rfl rfl
theorem lmX9_242 : Cond.methodLink "SoldWithIt" 242 Lib.Math.abs.name ∈ gtbl := gs3 227 rfl rfl
