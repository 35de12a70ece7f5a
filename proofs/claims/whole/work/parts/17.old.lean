/-! rows for the old cells: the text "ogl" (number 2, its bytes 3), ONESELF (1), the script (0); arraycopy -/
section Old
variable {Γ : GX} {M M' : MI} {Z : ZT} {cc cn cc1 cn1 pc pc' : Nat} {lv rest : List Value} {h h1 : Hp} {sz sz1 : Nat}
theorem x_ldcS (hM : M.1.cls = "SoldWithIt$Street") (d : Dc M.2.1 pc (.ldc 52) 2 pc') (kk : Ex Γ M Z cc cn pc' lv (.ref 2 :: rest) h sz) : Ex Γ M Z cc cn pc lv rest h sz := by
  obtain ⟨d, rfl⟩ := d
  intro p e s m args below meth c F H locs ls hw hL hl
  exact va_ldcS F.1 F.2.1 (by rw [← hM]; exact F.2.2.2.2.1) F.2.2.2.2.2.2.2.2.1 d (kk p e s m args below meth c F H locs ls hw hL hl)
theorem x_getsC {idx : Nat} (hlk : Cond.fieldLink M.1.cls idx "java/lang/String" "COMPACT_STRINGS" "Z" ∈ gtbl) (d : Dc M.2.1 pc (.getstatic idx) 3 pc') (kk : Ex Γ M Z cc cn pc' lv (.int 1 :: rest) h sz) : Ex Γ M Z cc cn pc lv rest h sz := by
  obtain ⟨d, rfl⟩ := d
  intro p e s m args below meth c F H locs ls hw hL hl
  obtain ⟨cf, kf, fi, f, a, cell, h1, h2, h3, h4, h5, h6, h7, h8⟩ := hw.2.2.2.2.2.2.2.1
  exact W.gets F.1 F.2.1 F.2.2.2.2.1 (F.2.2.2.2.2.1 _ hlk) h1 h2 h3 h4 h5 (fun e => by rw [e] at h6; cases h6) h7 rfl d (kk p e s m args below meth c F H locs ls hw hL hl)
theorem x_getsO {idx : Nat} (hlk : Cond.fieldLink M.1.cls idx "SoldWithIt$Stroke" "ONESELF" "[I" ∈ gtbl) (d : Dc M.2.1 pc (.getstatic idx) 3 pc') (kk : Ex Γ M Z cc cn pc' lv (.ref 1 :: rest) h sz) : Ex Γ M Z cc cn pc lv rest h sz := by
  obtain ⟨d, rfl⟩ := d
  intro p e s m args below meth c F H locs ls hw hL hl
  obtain ⟨cf, kf, fi, f, a, cell, h1, h2, h3, h4, h5, h6, h7, h8⟩ := hw.2.2.2.2.2.1
  exact W.gets F.1 F.2.1 F.2.2.2.2.1 (F.2.2.2.2.2.1 _ hlk) h1 h2 h3 h4 h5 (fun e => by rw [e] at h6; cases h6) h7 rfl d (kk p e s m args below meth c F H locs ls hw hL hl)
theorem x_coder {idx : Nat} (hlk : Cond.fieldLink M.1.cls idx "java/lang/String" "coder" "B" ∈ gtbl) (d : Dc M.2.1 pc (.getfield idx) 3 pc') (kk : Ex Γ M Z cc cn pc' lv (.int 0 :: rest) h sz) : Ex Γ M Z cc cn pc lv (.ref 2 :: rest) h sz := by
  obtain ⟨d, rfl⟩ := d
  intro p e s m args below meth c F H locs ls hw hL hl
  obtain ⟨cf, k, fi, f, cell, h1, h2, h3, h4, h5, h6⟩ := hw.2.2.2.2.2.2.2.2.2.1
  exact W.getf F.1 F.2.1 F.2.2.2.2.1 (F.2.2.2.2.2.1 _ hlk) h1 h2 h3 h4 h5 rfl rfl d (kk p e s m args below meth c F H locs ls hw hL hl)
theorem x_strval {idx : Nat} (hlk : Cond.fieldLink M.1.cls idx "java/lang/String" "value" "[B" ∈ gtbl) (d : Dc M.2.1 pc (.getfield idx) 3 pc') (kk : Ex Γ M Z cc cn pc' lv (.ref 3 :: rest) h sz) : Ex Γ M Z cc cn pc lv (.ref 2 :: rest) h sz := by
  obtain ⟨d, rfl⟩ := d
  intro p e s m args below meth c F H locs ls hw hL hl
  obtain ⟨cf, k, fi, f, cell, h1, h2, h3, h4, h5, h6⟩ := hw.2.2.2.2.2.2.2.2.2.2.1
  exact W.getf F.1 F.2.1 F.2.2.2.2.1 (F.2.2.2.2.2.1 _ hlk) h1 h2 h3 h4 h5 rfl rfl d (kk p e s m args below meth c F H locs ls hw hL hl)
def oglB (j : Nat) : Int32 := if j = 0 then 111 else if j = 1 then 103 else 108
theorem x_bald3 {k : Nat} (d : Dc M.2.1 pc .baload 1 pc') (hk : k < 3) (kk : Ex Γ M Z cc cn pc' lv (.int (oglB k) :: rest) h sz) : Ex Γ M Z cc cn pc lv (.int (nI k) :: .ref 3 :: rest) h sz := by
  obtain ⟨d, rfl⟩ := d
  intro p e s m args below meth c F H locs ls hw hL hl
  obtain ⟨cell, h1, h2, h3, h4, h5, h6, h7⟩ := hw.2.2.2.2.2.2.2.2.2.2.2
  refine W.bald (v := .int (oglB k)) F.1 F.2.1 h1 h2 h3 ?_ ?_ rfl rfl d (kk p e s m args below meth c F H locs ls hw hL hl)
  · intro q
    rcases q with q | q
    · exact nI_pos (by omega) q
    · rw [nI_clamp (by omega)] at q; omega
  · rw [nI_clamp (by omega), h6 k hk]; rfl
theorem x_alen3 (d : Dc M.2.1 pc .arraylength 1 pc') (kk : Ex Γ M Z cc cn pc' lv (.int 3 :: rest) h sz) : Ex Γ M Z cc cn pc lv (.ref 3 :: rest) h sz := by
  obtain ⟨d, rfl⟩ := d
  intro p e s m args below meth c F H locs ls hw hL hl
  obtain ⟨cell, h1, h2, h3, h4, h5, h6, h7⟩ := hw.2.2.2.2.2.2.2.2.2.2.2
  exact W.alen (n := 3) F.1 F.2.1 h1 h2 h5 rfl rfl d (kk p e s m args below meth c F H locs ls hw hL hl)
def LkT (own : String) (idx : Nat) (M' : MI) (n : Nat) : Prop := Cond.methodLink own idx M'.1 ∈ gtbl ∧ Cond.instanceMethod M'.1 ∈ gtbl ∧ Cond.selects M'.1.cls M'.1 M'.1 ∈ gtbl ∧ M'.1.cls = "java/lang/String" ∧ Cl M' n
/-- a method of the text "ogl" -/
theorem x_callT {idx : Nat} {as : List Value} {x : Int32} (lk : LkT M.1.cls idx M' as.length) (hR : Rm M M' cc cn) (e1 : cc + M'.2.2.2.2.cells = cc1) (e2 : cn + M'.2.2.2.2.slots = cn1) (hcat : (rest.map fun v => v.category).sum ≤ 8) (d : Dc M.2.1 pc (.invokevirtual idx) 3 pc') (run : Re Γ M' (.ref 2 :: as) h sz (some (.int x)) h1 sz1)
    (kk : Ex Γ M Z cc1 cn1 pc' lv (.int x :: rest) h1 sz1) : Ex Γ M Z cc cn pc lv (as.reverse ++ .ref 2 :: rest) h sz := by
  subst e1; subst e2
  obtain ⟨d, rfl⟩ := d
  obtain ⟨l1, l2, l2', hcl, l3, l4, l5⟩ := lk
  intro p e s m args below meth c F H locs ls hw hL hl
  have hts := F.2.2.2.2.2.1
  have cw : CallB M.2.2.2.2 s args M.1.cls idx M'.1 M'.2.1 M'.2.2.1 M'.2.2.2.1 (gx_ws M') M'.2.2.2.2 M'.2.2.2.2.cells M'.2.2.2.2.slots as.length := callB_of as.length hts (gx_good l3) rfl rfl rfl (hts _ l4) (hts _ l1) l5 hR.1
  obtain ⟨cell, q1, q2, q3, -⟩ := hw.2.2.2.2.2.2.2.2.1
  have rr := va_runV (C := M'.1.cls) (b := gx_ad Γ 2) (As := as.map (gx_v Γ)) (g := F0 m pc ls ((as.map (gx_v Γ)).reverse ++ .ref (gx_ad Γ 2) :: rest.map (gx_v Γ))) (locs := locs) (cells := cc) (slots := cn) (below := below) (meth := meth) (e := e) (rest := rest.map (gx_v Γ)) ⟨F.1, F.2.1, F.2.2.2.1, F.2.2.2.2.1, hts⟩ run ⟨cw, hts _ l2, hts _ l2'⟩ ⟨gx_P.blind _, ⟨cell, q1, q2, by rw [hcl]; exact q3⟩, fun U hU hW => gx_P.at (.ref 2 :: as) hw F.2.2.2.2.2.2.2.2 hU hW⟩ rfl (by rw [List.length_map]) hl.1 rfl (lv_room (by rw [cat_map]; exact hcat)) d hR.2
  rw [map_rev]
  refine gx_back rr hL fun r h' sz' H1 locs1 hq hw1 hL1 => ?_
  obtain ⟨rfl, rfl, rfl⟩ := hq
  exact kk p e s m args below meth c F H1 locs1 ls hw1 hL1 hl
theorem cp_s : Cond.static arraycopyName ∈ gtbl := gs3 83 rfl rfl
theorem cp_n : Cond.native arraycopyName ∈ gtbl := gs3 84 rfl rfl
theorem cp_i : Cond.initialized "java/lang/System" ∈ gtbl := gs1 19 rfl rfl
theorem gx_cpy {p : Program} {e : Env} {s : State} {m : MethodId} {args : Array Value} {below : List Frame} {meth : Method} {c : Code} {H : Heap} {locs : List Loc} {ls : Array Slot} {idx : Nat} {b0 : Nat} {scr : Cell} {n0 a n1 : Nat} {f g : Nat → Int32} {sp dp n : Nat} (F : gx_F Γ M p s m args meth c) (hw : gx_W Γ s H h sz) (hL : ∀ q ∈ locs, Γ.2.2.1 ≤ q.base) (hl : gx_l Γ ls M.2.2.1 lv) (lk : Cond.methodLink M.1.cls idx arraycopyName ∈ gtbl) (d : decode M.2.1 pc = .ok (.invokestatic idx, 3))
    (hc0 : H[b0]? = some scr) (hs2 : s.isArrayOf scr .int) (hs3 : scr.vm ≠ .unknown) (hs4 : n0 ≤ scr.slots.size) (hs5 : ∀ j : Nat, j < n0 → scr.slots[j]? = some (.int (f j))) (ha : h a = ia n1 g) (h4 : sp + n ≤ n0) (h5 : dp + n ≤ n1) (hb : sp + n < 2 ^ 31 ∧ dp + n < 2 ^ 31) (hR : 1 ≤ M.2.2.2.2.frames ∧ 30 ≤ M.2.2.2.2.locals) (hcat : (rest.map fun v => v.category).sum ≤ 8)
    (kk : Ex Γ M Z cc cn (pc + 3) lv rest (va_up h a (ia n1 (va_cpy f g sp dp n))) sz) : W p Γ.1 e M.2.2.2.2 s m args below meth c H locs cc cn (Z args s below) (F0 m pc ls (.int (nI n) :: .int (nI dp) :: .ref (gx_ad Γ a) :: .int (nI sp) :: .ref b0 :: rest.map (gx_v Γ))) := by
  intro T hT X
  have hts := F.2.2.2.2.2.1
  obtain ⟨a4, -, c1, r1, r2, hc1⟩ := hw.2.2.2.1 a _ ha
  have hc1 : H[gx_ad Γ a]? = some (vp_cell c1 (n1, .inl g)) := hc1
  obtain ⟨hs6, k0, hk0, cm0, hkk0⟩ := hs2
  obtain ⟨-, k1, hk1, cm1, hkk1⟩ := r1 n1 (fun j => .int (g j))
  have ps : (nI sp).toNatClampNeg = sp := nI_clamp (by omega)
  have pd : (nI dp).toNatClampNeg = dp := nI_clamp (by omega)
  have pn : (nI n).toNatClampNeg = n := nI_clamp (by omega)
  obtain ⟨vm', X', step⟩ := X.arraycopy F.1 F.2.2.2.2.1 (hts _ lk) (hts _ cp_n) (hts _ cp_s) (hts _ cp_i) (src := b0) (dst := gx_ad Γ a) (cs := scr) (cd := vp_cell c1 (n1, .inl g)) (srcPos := nI sp) (destPos := nI dp) (n := nI n) (by rw [hT]; exact hc0) (by rw [hT]; exact hc1)
    hs6 (fun _ h => by cases h) hs3 (fun h => by cases h) hk0 hk1 hkk0 hkk1 (by simp [refKind]) (nI_pos (by omega)) (nI_pos (by omega)) (nI_pos (by omega))
    (by rw [nI_toInt (by omega), nI_toInt (by omega)]; omega)
    (by rw [nI_toInt (by omega), nI_toInt (by omega)]; show ¬ _ > ((arrV c1 n1 (fun j => .int (g j))).slots.size : Int); rw [arrV_size]; omega)
    (fun vm₁ _ i hi => by
      rw [pn] at hi
      have e : scr.slots.getD ((nI sp).toNatClampNeg + i) .null = .int (f (sp + i)) := by
        rw [ps, Array.getD_eq_getD_getElem?, hs5 _ (by omega)]
        rfl
      refine ⟨?_, ?_⟩
      · rw [e]; rfl
      · rw [e]
        exact trivial)
    (g := F0 m pc ls (.int (nI n) :: .int (nI dp) :: .ref (gx_ad Γ a) :: .int (nI sp) :: .ref b0 :: rest.map (gx_v Γ))) rfl (by rw [F.2.2.2.1]; exact hl.1) (rest := rest.map (gx_v Γ)) rfl (by rw [F.2.1]; exact d) hR.1 (by show 2 * 0 + _ + _ ≤ _; rw [cat_map]; have : nativeFrameWords "java/lang/System" "arraycopy" 5 + 11 ≤ 22 := (by decide +kernel); omega)
  have e1 : copied scr (vp_cell c1 (n1, .inl g)) (nI sp) (nI dp) (nI n) = vp_cell c1 (n1, .inl (va_cpy f g sp dp n)) := by
    have := va_copiedX (fun z => .int z) scr c1 (n1 := n1) (sp := (nI sp).toNatClampNeg) (dp := (nI dp).toNatClampNeg) (n := (nI n).toNatClampNeg) f g hs5 (by rw [ps, pn]; exact h4)
    rw [ps, pd, pn] at this
    show Cell.storeRun _ _ _ = _
    rw [ps, pd, pn]
    exact this
  rw [e1] at X' step
  have hl2 : gx_ad Γ a < H.size := (Array.getElem?_eq_some_iff.mp hc1).1
  have hheap : ((T.setVm vm').setCell (gx_ad Γ a) (vp_cell c1 (n1, .inl (va_cpy f g sp dp n)))).heap = H.setIfInBounds (gx_ad Γ a) (vp_cell c1 (n1, .inl (va_cpy f g sp dp n))) := by rw [← hT]; rfl
  have oq : ∀ q : Nat, q ≠ gx_ad Γ a → (H.setIfInBounds (gx_ad Γ a) (vp_cell c1 (n1, .inl (va_cpy f g sp dp n))))[q]? = H[q]? := fun q hq => by simp [Array.getElem?_setIfInBounds, Ne.symm hq]
  obtain ⟨t, a1, b1⟩ := kk p e s m args below meth c F _ _ ls (hw.set ha (by simp) oq ⟨c1, r1, r2, show (H.setIfInBounds (gx_ad Γ a) _)[gx_ad Γ a]? = some _ by simp [Array.getElem?_setIfInBounds, hl2]; rfl⟩) (fun q hq => by
      rcases List.mem_append.mp hq with h | h
      · exact hL q h
      · obtain ⟨z, -, hz⟩ := List.mem_map.mp h
        rw [← hz]
        show Γ.2.2.1 ≤ gx_ad Γ a
        rw [gx_ad4 Γ a4]; omega) hl _ hheap X'
  exact ⟨t, step t a1, b1⟩
theorem x_copy {idx a b n0 n1 sp dp n : Nat} {f g : Nat → Int32} (lk : Cond.methodLink M.1.cls idx arraycopyName ∈ gtbl) (d : Dc M.2.1 pc (.invokestatic idx) 3 pc') (hb : h b = ia n0 f) (ha : h a = ia n1 g) (hk : (sp + n ≤ n0 ∧ dp + n ≤ n1) ∧ (sp + n < 2 ^ 31 ∧ dp + n < 2 ^ 31)) (hR : 1 ≤ M.2.2.2.2.frames ∧ 30 ≤ M.2.2.2.2.locals) (hcat : (rest.map fun v => v.category).sum ≤ 8)
    (kk : Ex Γ M Z cc cn pc' lv rest (va_up h a (ia n1 (va_cpy f g sp dp n))) sz) : Ex Γ M Z cc cn pc lv (.int (nI n) :: .int (nI dp) :: .ref a :: .int (nI sp) :: .ref b :: rest) h sz := by
  obtain ⟨d, rfl⟩ := d
  intro p e s m args below meth c F H locs ls hw hL hl
  obtain ⟨-, -, c0, q1, q2, q3⟩ := hw.2.2.2.1 b _ hb
  have q3 : H[gx_ad Γ b]? = some (arrV c0 n0 (fun j => .int (f j))) := q3
  exact gx_cpy F hw hL hl lk d q3 (q1 n0 _) (fun h => by cases h) (by rw [arrV_size]; exact Nat.le_refl _) (fun j hj => by rw [arrV_read _ _ hj]) ha hk.1.1 hk.1.2 hk.2 hR hcat kk
theorem x_copy1 {idx a n1 : Nat} {g : Nat → Int32} (lk : Cond.methodLink M.1.cls idx arraycopyName ∈ gtbl) (d : Dc M.2.1 pc (.invokestatic idx) 3 pc') (ha : h a = ia n1 g) (hk : 8 ≤ n1) (hR : 1 ≤ M.2.2.2.2.frames ∧ 30 ≤ M.2.2.2.2.locals) (hcat : (rest.map fun v => v.category).sum ≤ 8)
    (kk : Ex Γ M Z cc cn pc' lv rest (va_up h a (ia n1 (va_cpy (fun j => nI j) g 0 0 8))) sz) : Ex Γ M Z cc cn pc lv (.int 8 :: .int 0 :: .ref a :: .int 0 :: .ref 1 :: rest) h sz := by
  obtain ⟨d, rfl⟩ := d
  intro p e s m args below meth c F H locs ls hw hL hl
  obtain ⟨cell, q1, q2, q3, q4, q5, q6, q7⟩ := hw.2.2.2.2.2.2.1
  exact gx_cpy (n := 8) (dp := 0) (sp := 0) F hw hL hl lk d q1 q2 q3 q4 q6 ha (by omega) (by omega) (by omega) hR hcat kk
theorem x_sld {k : Nat} (d : Dc M.2.1 pc .iaload 1 pc') (hk : k < Γ.2.2.2.2.1 ∧ k < 2 ^ 31) (kk : Ex Γ M Z cc cn pc' lv (.int (Γ.2.2.2.2.2 k) :: rest) h sz) : Ex Γ M Z cc cn pc lv (.int (nI k) :: .ref 0 :: rest) h sz := by
  obtain ⟨d, rfl⟩ := d
  intro p e s m args below meth c F H locs ls hw hL hl
  obtain ⟨⟨cell, q1, q2, q3, q4, q5⟩, -⟩ := hw.2.2.2.2.1
  refine W.iald (v := .int (Γ.2.2.2.2.2 k)) F.1 F.2.1 q1 q2 q3 ?_ ?_ rfl rfl d (kk p e s m args below meth c F H locs ls hw hL hl)
  · intro q
    rcases q with q | q
    · exact nI_pos hk.2 q
    · rw [nI_clamp hk.2, q4] at q; omega
  · rw [nI_clamp hk.2, q5 k hk.1]
theorem x_slen (d : Dc M.2.1 pc .arraylength 1 pc') (kk : Ex Γ M Z cc cn pc' lv (.int (nI Γ.2.2.2.2.1) :: rest) h sz) : Ex Γ M Z cc cn pc lv (.ref 0 :: rest) h sz := by
  obtain ⟨d, rfl⟩ := d
  intro p e s m args below meth c F H locs ls hw hL hl
  obtain ⟨⟨cell, q1, q2, q3, q4, q5⟩, -⟩ := hw.2.2.2.2.1
  exact W.alen (n := nI Γ.2.2.2.2.1) F.1 F.2.1 q1 q2 (by rw [q4]; rfl) rfl rfl d (kk p e s m args below meth c F H locs ls hw hL hl)
end Old
theorem ltX5_54 : LkT "SoldWithIt$Street" 54 mJ0_indexOf_0f7a4 1 := ⟨gs2 127 rfl rfl, gs2 128 rfl rfl, gs2 129 rfl rfl, rfl, cJ0_indexOf_0f7a4⟩
theorem ltJ0_335 : LkT "java/lang/String" 335 mJ0_coder_7d493 0 := ⟨gs2 145 rfl rfl, gs2 146 rfl rfl, gs2 147 rfl rfl, rfl, cJ0_coder_7d493⟩
theorem ltJ0_492 : LkT "java/lang/String" 492 mJ0_isLatin1_aae02 0 := ⟨gs2 135 rfl rfl, gs2 136 rfl rfl, gs2 137 rfl rfl, rfl, cJ0_isLatin1_aae02⟩
theorem ltJ0_505 : LkT "java/lang/String" 505 mJ0_length_8abf5 0 := ⟨gs2 141 rfl rfl, gs2 142 rfl rfl, gs2 143 rfl rfl, rfl, cJ0_length_8abf5⟩
theorem ltJ0_633 : LkT "java/lang/String" 633 mJ0_indexOf_7cf53 2 := ⟨gs2 131 rfl rfl, gs2 132 rfl rfl, gs2 133 rfl rfl, rfl, cJ0_indexOf_7cf53⟩
theorem fsX6_46 : Cond.fieldLink "SoldWithIt$Stroke" 46 "SoldWithIt$Stroke" "ONESELF" "[I" ∈ gtbl := gs3 85 rfl rfl
theorem fsJ0_9 : Cond.fieldLink "java/lang/String" 9 "java/lang/String" "value" "[B" ∈ gtbl := gs6 136 rfl rfl
theorem fsJ0_15 : Cond.fieldLink "java/lang/String" 15 "java/lang/String" "coder" "B" ∈ gtbl := gs6 135 rfl rfl
theorem fsJ0_38 : Cond.fieldLink "java/lang/String" 38 "java/lang/String" "COMPACT_STRINGS" "Z" ∈ gtbl := gs2 139 rfl rfl
