theorem obj_i : Cond.instanceMethod objectInit ∈ gtbl := gt_at 93 (by decide +kernel) rfl
theorem obj_c : Cond.code objectInit ⟨#[0xb1]⟩ 1 none ∈ gtbl := gt_at 94 (by decide +kernel) rfl
section Calls1
variable {Γ : GX} {M M' : MI} {Z : ZT} {Q : QT} {cc cn pc pc' tgt : Nat} {lv st : List Value} {h : Hp} {sz : Nat}
theorem gx_s.warm {s U : State} (hW : s.WarmedH U.vm) (h : gx_s Γ s) : gx_s Γ U := ⟨h.1.warm hW, fun q hq => (h.2.1 q hq).warmM hW, h.2.2.1.moved hW.alike, h.2.2.2.moved hW.alike⟩
theorem gx_s.same {u U : State} (hv : u.vm = U.vm) (h : gx_s Γ u) : gx_s Γ U := ⟨h.1.same hv.symm, fun q hq => va_Nw.same rfl hv (h.2.1 q hq), h.2.2.1.moved (hv ▸ Vm.Alike.refl u.vm), h.2.2.2.moved (hv ▸ Vm.Alike.refl u.vm)⟩
theorem gx_P.blind (as : List Value) : FrameBlind (gx_P Γ as h sz) := by
  intro a U g mk hp
  obtain ⟨h1, h2, h3⟩ := hp
  exact ⟨h1, gx_W.moved (u := U) (U := U.calling g mk a) (Vm.Alike.refl U.vm) h2, gx_s.same (u := U) rfl h3⟩
theorem gx_P.at {s U : State} {H : Heap} (as : List Value) (hw : gx_W Γ s H h sz) (hs : gx_s Γ s) (hU : U.heap = H) (hW : s.WarmedH U.vm) : gx_P Γ as h sz (as.map (gx_v Γ)).toArray U := ⟨rfl, by rw [hU]; exact hw.moved hW.alike, hs.warm hW⟩
/-- behind a call -/
theorem gx_back {p : Program} {l : Launch} {e : Env} {R : Room} {s : State} {m : MethodId} {args : Array Value} {below : List Frame} {meth : Method} {c : Code} {H : Heap} {locs : List Loc} {cells slots mc ms : Nat} {Q2 : State → Prop} {ls : Array Slot} {st0 rest : List Value} {a : Array Value}
    (hr : va_Run p l e R s m args below meth c H locs cells slots mc ms (F0 m pc ls st0) rest (gx_Q Γ Q a) (gx_A Γ)) (hL : ∀ q ∈ locs, Γ.2.2.1 ≤ q.base)
    (kk : ∀ (r : Option Value) (h' : Hp) (sz' : Nat) (H1 : Heap) (locs1 : List Loc), Q r h' sz' → gx_W Γ s H1 h' sz' → (∀ q ∈ locs1, Γ.2.2.1 ≤ q.base) → W p l e R s m args below meth c H1 locs1 (cells + mc) (slots + ms) Q2 (F0 m (pc + 3) ls ((r.map (gx_v Γ)).toList ++ rest))) : W p l e R s m args below meth c H locs cells slots Q2 (F0 m pc ls st0) := by
  intro T hT X
  obtain ⟨v, st₀, t, T', L, h0, X', hL', e1, e2, ⟨r, h', sz', hv, hq, hw⟩, st⟩ := hr T hT X
  cases hv
  have hA : s.vm.Alike t.vm := by rw [← e2]; exact X'.warmed.alike
  obtain ⟨t2, a1, b1⟩ := kk r h' sz' T'.heap (locs ++ L) hq (by rw [e1]; exact hw.moved hA.symm) (fun q hq => by
    rcases List.mem_append.mp hq with h | h
    · exact hL q h
    · exact hL' q h) T' rfl X'
  exact ⟨t2, st t2 a1, b1⟩
/-- a method that may be called: its code, its class, how many it takes -/
def Cl (M' : MI) (n : Nat) : Prop := Cond.code M'.1 M'.2.1 M'.2.2.1 M'.2.2.2.1 ∈ gtbl ∧ Cond.initialized M'.1.cls ∈ gtbl ∧ (M'.1.cls ≠ "java/lang/invoke/MethodHandle" ∧ M'.1.cls ≠ "java/lang/invoke/VarHandle" ∧ (parseMethodDescriptor M'.1.desc).map (fun d => d.parameters.length) = some n)
def Rm (M M' : MI) (cc cn : Nat) : Prop := (M'.2.2.2.2.frames + 1 ≤ M.2.2.2.2.frames ∧ 8 + (M'.2.2.1 + 11) + M'.2.2.2.2.locals ≤ M.2.2.2.2.locals) ∧ (cc + M'.2.2.2.2.cells ≤ M.2.2.2.2.cells ∧ cn + M'.2.2.2.2.slots ≤ M.2.2.2.2.slots)
theorem gx_good (hc : Cond.code M'.1 M'.2.1 M'.2.2.1 M'.2.2.2.1 ∈ gtbl) : GoodIn gtbl (gx_ws M') := by
  intro w hw
  have h1 : w ∈ gtbl := by
    rcases List.mem_cons.mp hw with e | e
    · rw [e]; exact hc
    · exact e
  exact ⟨h1, good_of_word (List.mem_filter.mp h1).2⟩
theorem map_rev {as : List Value} {rest : List Value} (Γ : GX) : (as.reverse ++ rest).map (gx_v Γ) = (as.map (gx_v Γ)).reverse ++ rest.map (gx_v Γ) := by
  rw [List.map_append, List.map_reverse]
theorem cat_map (Γ : GX) (rest : List Value) : ((rest.map (gx_v Γ)).map fun v => v.category) = rest.map fun v => v.category := by
  rw [List.map_map]
  exact List.map_congr_left fun v _ => gx_v_cat Γ v
def LkS (own : String) (idx : Nat) (M' : MI) (n : Nat) : Prop := Cond.methodLink own idx M'.1 ∈ gtbl ∧ Cond.static M'.1 ∈ gtbl ∧ Cl M' n
theorem x_callS {idx : Nat} {as rest : List Value} (lk : LkS M.1.cls idx M' as.length) (hR : Rm M M' cc cn) (hcat : (rest.map fun v => v.category).sum ≤ 8) (d : Dc M.2.1 pc (.invokestatic idx) 3 pc') (run : Rn Γ M' as h sz Q)
    (kk : ∀ (r : Option Value) (h' : Hp) (sz' : Nat), Q r h' sz' → Ex Γ M Z (cc + M'.2.2.2.2.cells) (cn + M'.2.2.2.2.slots) pc' lv (r.toList ++ rest) h' sz') : Ex Γ M Z cc cn pc lv (as.reverse ++ rest) h sz := by
  obtain ⟨d, rfl⟩ := d
  obtain ⟨l1, l2, l3, l4, l5⟩ := lk
  intro p e s m args below meth c F H locs ls hw hL hl
  have hts := F.2.2.2.2.2.1
  have cw : CallB M.2.2.2.2 s args M.1.cls idx M'.1 M'.2.1 M'.2.2.1 M'.2.2.2.1 (gx_ws M') M'.2.2.2.2 M'.2.2.2.2.cells M'.2.2.2.2.slots as.length := callB_of as.length hts (gx_good l3) rfl rfl rfl (hts _ l4) (hts _ l1) l5 hR.1
  have rr := va_runS (g := F0 m pc ls ((as.map (gx_v Γ)).reverse ++ rest.map (gx_v Γ))) (locs := locs) (cells := cc) (slots := cn) (below := below) (meth := meth) (e := e) (rest := rest.map (gx_v Γ)) ⟨F.1, F.2.1, F.2.2.2.1, F.2.2.2.2.1, hts⟩ run ⟨cw, hts _ l2⟩ ⟨gx_P.blind as, fun U hU hW => gx_P.at as hw F.2.2.2.2.2.2.2.2 hU hW⟩ rfl (by rw [List.length_map]) hl.1 rfl (lv_room (by rw [cat_map]; exact hcat)) d hR.2
  rw [map_rev]
  refine gx_back rr hL fun r h' sz' H1 locs1 hq hw1 hL1 => ?_
  have k := kk r h' sz' hq p e s m args below meth c F H1 locs1 ls hw1 hL1 hl
  rw [List.map_append] at k
  cases r <;> exact k
def LkV (own : String) (idx : Nat) (M' : MI) (n ci : Nat) : Prop := Cond.methodLink own idx M'.1 ∈ gtbl ∧ Cond.instanceMethod M'.1 ∈ gtbl ∧ Cond.selects M'.1.cls M'.1 M'.1 ∈ gtbl ∧ (∃ (T : u_T) (N : Nat), kls[ci]? = some (M'.1.cls, T, N)) ∧ Cl M' n
theorem x_callV {idx a ci : Nat} {fs as rest : List Value} (lk : LkV M.1.cls idx M' as.length ci) (hR : Rm M M' cc cn) (hcat : (rest.map fun v => v.category).sum ≤ 8) (d : Dc M.2.1 pc (.invokevirtual idx) 3 pc') (ha : h a = some (.inr (ci, fs))) (run : Rn Γ M' (.ref a :: as) h sz Q)
    (kk : ∀ (r : Option Value) (h' : Hp) (sz' : Nat), Q r h' sz' → Ex Γ M Z (cc + M'.2.2.2.2.cells) (cn + M'.2.2.2.2.slots) pc' lv (r.toList ++ rest) h' sz') : Ex Γ M Z cc cn pc lv (as.reverse ++ .ref a :: rest) h sz := by
  obtain ⟨d, rfl⟩ := d
  obtain ⟨l1, l2, l2', ⟨T0, N0, hc⟩, l3, l4, l5⟩ := lk
  intro p e s m args below meth c F H locs ls hw hL hl
  have hts := F.2.2.2.2.2.1
  have cw : CallB M.2.2.2.2 s args M.1.cls idx M'.1 M'.2.1 M'.2.2.1 M'.2.2.2.1 (gx_ws M') M'.2.2.2.2 M'.2.2.2.2.cells M'.2.2.2.2.slots as.length := callB_of as.length hts (gx_good l3) rfl rfl rfl (hts _ l4) (hts _ l1) l5 hR.1
  obtain ⟨-, -, r0, h1, cell, q1, q2, q3, q4⟩ := hw.2.2.2.1 a _ ha
  have rr := va_runV (C := M'.1.cls) (b := gx_ad Γ a) (As := as.map (gx_v Γ)) (g := F0 m pc ls ((as.map (gx_v Γ)).reverse ++ .ref (gx_ad Γ a) :: rest.map (gx_v Γ))) (locs := locs) (cells := cc) (slots := cn) (below := below) (meth := meth) (e := e) (rest := rest.map (gx_v Γ)) ⟨F.1, F.2.1, F.2.2.2.1, F.2.2.2.2.1, hts⟩ run ⟨cw, hts _ l2, hts _ l2'⟩ ⟨gx_P.blind _, ⟨cell, q1, by rw [q3]; rfl, by rw [q2]; exact (hw.1.1 ci _ hc).2.1⟩, fun U hU hW => gx_P.at (.ref a :: as) hw F.2.2.2.2.2.2.2.2 hU hW⟩ rfl (by rw [List.length_map]) hl.1 rfl (lv_room (by rw [cat_map]; exact hcat)) d hR.2
  rw [map_rev]
  refine gx_back rr hL fun r h' sz' H1 locs1 hq hw1 hL1 => ?_
  have k := kk r h' sz' hq p e s m args below meth c F H1 locs1 ls hw1 hL1 hl
  rw [List.map_append] at k
  cases r <;> exact k
def LkI (own : String) (idx : Nat) (M' : MI) (n : Nat) : Prop := Cond.methodLink own idx M'.1 ∈ gtbl ∧ Cond.instanceMethod M'.1 ∈ gtbl ∧ M'.1.name = "<init>" ∧ M'.2.2.2.1 = none ∧ Cl M' n
theorem x_callI {idx a : Nat} {as rest : List Value} (lk : LkI M.1.cls idx M' as.length) (hR : Rm M M' cc cn) (hcat : (rest.map fun v => v.category).sum ≤ 8) (d : Dc M.2.1 pc (.invokespecial idx) 3 pc') (run : Rn Γ M' (.ref a :: as) h sz Q)
    (kk : ∀ (r : Option Value) (h' : Hp) (sz' : Nat), Q r h' sz' → Ex Γ M Z (cc + M'.2.2.2.2.cells) (cn + M'.2.2.2.2.slots) pc' lv (r.toList ++ rest) h' sz') : Ex Γ M Z cc cn pc lv (as.reverse ++ .ref a :: rest) h sz := by
  obtain ⟨d, rfl⟩ := d
  obtain ⟨l1, l2, l2', l6, l3, l4, l5⟩ := lk
  intro p e s m args below meth c F H locs ls hw hL hl
  have hts := F.2.2.2.2.2.1
  have cw : CallB M.2.2.2.2 s args M.1.cls idx M'.1 M'.2.1 M'.2.2.1 none (gx_ws M') M'.2.2.2.2 M'.2.2.2.2.cells M'.2.2.2.2.slots as.length := l6 ▸ callB_of as.length hts (gx_good l3) rfl rfl rfl (hts _ l4) (hts _ l1) l5 hR.1
  have rr := va_runI (b := gx_ad Γ a) (As := as.map (gx_v Γ)) (g := F0 m pc ls ((as.map (gx_v Γ)).reverse ++ .ref (gx_ad Γ a) :: rest.map (gx_v Γ))) (locs := locs) (cells := cc) (slots := cn) (below := below) (meth := meth) (e := e) (rest := rest.map (gx_v Γ)) ⟨F.1, F.2.1, F.2.2.2.1, F.2.2.2.2.1, hts⟩ run ⟨cw, l2', hts _ l2⟩ ⟨gx_P.blind _, fun U hU hW => gx_P.at (.ref a :: as) hw F.2.2.2.2.2.2.2.2 hU hW⟩ rfl (by rw [List.length_map]) hl.1 rfl (lv_room (by rw [cat_map]; exact hcat)) d hR.2
  rw [map_rev]
  refine gx_back rr hL fun r h' sz' H1 locs1 hq hw1 hL1 => ?_
  have k := kk r h' sz' hq p e s m args below meth c F H1 locs1 ls hw1 hL1 hl
  rw [List.map_append] at k
  cases r <;> exact k
def LkN (own : String) (idx : Nat) (M' : MI) (n : Nat) : Prop := (own, idx, M'.1, "SoldWithIt") ∈ nlk ∧ Cond.instanceMethod M'.1 ∈ gtbl ∧ M'.1.name = "<init>" ∧ M'.2.2.2.1 = none ∧ Cl M' n
theorem x_callN {idx a : Nat} {as rest : List Value} (lk : LkN M.1.cls idx M' as.length) (hR : Rm M M' cc cn) (hcat : (rest.map fun v => v.category).sum ≤ 8) (d : Dc M.2.1 pc (.invokespecial idx) 3 pc') (run : Rn Γ M' (.ref a :: as) h sz Q)
    (kk : ∀ (r : Option Value) (h' : Hp) (sz' : Nat), Q r h' sz' → Ex Γ M Z (cc + M'.2.2.2.2.cells) (cn + M'.2.2.2.2.slots) pc' lv (r.toList ++ rest) h' sz') : Ex Γ M Z cc cn pc lv (as.reverse ++ .ref a :: rest) h sz := by
  obtain ⟨d, rfl⟩ := d
  obtain ⟨l1, l2, l2', l6, l3, l4, l5⟩ := lk
  intro p e s m args below meth c F H locs ls hw hL hl
  have hts := F.2.2.2.2.2.1
  have cw : va_CN M.2.2.2.2 s args M.1.cls idx M'.1 "SoldWithIt" M'.2.1 M'.2.2.1 none (gx_ws M') M'.2.2.2.2 M'.2.2.2.2.cells M'.2.2.2.2.slots as.length := l6 ▸ va_cnB as.length hts (gx_good l3) rfl rfl rfl (F.2.2.2.2.2.2.2.2.2.1 _ l1) (hts _ l4) l5 hR.1
  have rr := va_runIN (b := gx_ad Γ a) (As := as.map (gx_v Γ)) (g := F0 m pc ls ((as.map (gx_v Γ)).reverse ++ .ref (gx_ad Γ a) :: rest.map (gx_v Γ))) (locs := locs) (cells := cc) (slots := cn) (below := below) (meth := meth) (e := e) (rest := rest.map (gx_v Γ)) ⟨F.1, F.2.1, F.2.2.2.1, F.2.2.2.2.1, hts⟩ run ⟨cw, l2', hts _ l2⟩ ⟨gx_P.blind _, fun U hU hW => gx_P.at (.ref a :: as) hw F.2.2.2.2.2.2.2.2 hU hW⟩ rfl (by rw [List.length_map]) hl.1 rfl (lv_room (by rw [cat_map]; exact hcat)) d hR.2
  rw [map_rev]
  refine gx_back rr hL fun r h' sz' H1 locs1 hq hw1 hL1 => ?_
  have k := kk r h' sz' hq p e s m args below meth c F H1 locs1 ls hw1 hL1 hl
  rw [List.map_append] at k
  cases r <;> exact k
theorem x_objInit {idx a : Nat} (lk : Cond.methodLink M.1.cls idx objectInit ∈ gtbl) (d : Dc M.2.1 pc (.invokespecial idx) 3 pc') (hcat : (st.map fun v => v.category).sum ≤ 8) (hR : 1 ≤ M.2.2.2.2.frames ∧ 20 ≤ M.2.2.2.2.locals) (kk : Ex Γ M Z cc cn pc' lv st h sz) : Ex Γ M Z cc cn pc lv (.ref a :: st) h sz := by
  obtain ⟨d, rfl⟩ := d
  intro p e s m args below meth c F H locs ls hw hL hl
  have hts := F.2.2.2.2.2.1
  refine W.objInit F.1 F.2.1 F.2.2.2.2.1 (hts _ lk) (hts _ obj_i) (hts _ obj_c) rfl (by rw [F.2.2.2.1]; exact hl.1) rfl d hR.1 ?_ (kk p e s m args below meth c F H locs ls hw hL hl)
  have := lv_room (m := m) (pc := pc) (ls := ls) (rest := []) (st := st.map (gx_v Γ)) (by rw [cat_map]; exact hcat)
  show 2 * 0 + _ + 12 ≤ _
  have h2 : 2 * 0 + ((st.map (gx_v Γ)).map fun v => v.category).sum ≤ 8 := this
  omega
end Calls1
section Ends1
variable {Γ : GX} {M : MI} {Q : QT} {cc cn pc pc' : Nat} {lv : List Value} {h : Hp} {sz : Nat}
theorem x_iret {v : Int32} {ty : FieldType} (d : Dc M.2.1 pc .ireturn 1 pc') (hr : M.2.2.2.1 = some ty) (hn : narrow ty (.int v) = .int v) (h1 : cc ≤ M.2.2.2.2.cells) (h2 : cn ≤ M.2.2.2.2.slots) (hq : Q (some (.int v)) h sz) : Ex Γ M (gx_Z Γ M Q) cc cn pc lv [.int v] h sz := by
  obtain ⟨d, rfl⟩ := d
  intro p e s m args below meth c F H locs ls hw hL hl
  have hlocks := F.2.2.2.2.2.2.1
  refine W.widen h1 h2 (W.zret F.1 F.2.1 (F.2.2.1.trans hr) hn (fun t ht hW => ⟨some (.int v), h, sz, rfl, hq, by rw [ht]; exact hw.moved hW.alike⟩) hL d)
theorem x_lret {v : Int64} (d : Dc M.2.1 pc .lreturn 1 pc') (hr : M.2.2.2.1 = some .long) (h1 : cc ≤ M.2.2.2.2.cells) (h2 : cn ≤ M.2.2.2.2.slots) (hq : Q (some (.long v)) h sz) : Ex Γ M (gx_Z Γ M Q) cc cn pc lv [.long v] h sz := by
  obtain ⟨d, rfl⟩ := d
  intro p e s m args below meth c F H locs ls hw hL hl
  have hlocks := F.2.2.2.2.2.2.1
  refine W.widen h1 h2 (W.lret F.1 F.2.1 (F.2.2.1.trans hr) (fun t ht hW => ⟨some (.long v), h, sz, rfl, hq, by rw [ht]; exact hw.moved hW.alike⟩) hL d)
theorem x_aret {a : Nat} {C : String} (d : Dc M.2.1 pc .areturn 1 pc') (hr : M.2.2.2.1 = some (.object C)) (h1 : cc ≤ M.2.2.2.2.cells) (h2 : cn ≤ M.2.2.2.2.slots) (hq : Q (some (.ref a)) h sz) : Ex Γ M (gx_Z Γ M Q) cc cn pc lv [.ref a] h sz := by
  obtain ⟨d, rfl⟩ := d
  intro p e s m args below meth c F H locs ls hw hL hl
  have hlocks := F.2.2.2.2.2.2.1
  refine W.widen h1 h2 (W.aret F.1 F.2.1 (F.2.2.1.trans hr) (Or.inl ⟨C, rfl⟩) (Or.inr ⟨_, rfl⟩) (fun t ht hW => ⟨some (.ref a), h, sz, rfl, hq, by rw [ht]; exact hw.moved hW.alike⟩) hL d)
theorem x_vret (d : Dc M.2.1 pc .return_ 1 pc') (hr : M.2.2.2.1 = none) (h1 : cc ≤ M.2.2.2.2.cells) (h2 : cn ≤ M.2.2.2.2.slots) (hq : Q none h sz) : Ex Γ M (gx_Z Γ M Q) cc cn pc lv [] h sz := by
  obtain ⟨d, rfl⟩ := d
  intro p e s m args below meth c F H locs ls hw hL hl
  have hlocks := F.2.2.2.2.2.2.1
  refine W.widen h1 h2 (W.vret F.1 F.2.1 (F.2.2.1.trans hr) (fun t ht hW => ⟨none, h, sz, rfl, hq, by rw [ht]; exact hw.moved hW.alike⟩) hL d)
/-- the locals at a method's entry -/
def lent : List Value → List Value
  | [] => []
  | v :: vs => if v.category = 2 then v :: .retAddr 0 :: lent vs else v :: lent vs
theorem lent_in (Γ : GX) : ∀ (as : List Value) (b i : Nat) (v : Value), (lent as)[i]? = some v → (∀ z, v ≠ .retAddr z) → (b + i, gx_v Γ v) ∈ lv_args b (as.map (gx_v Γ))
  | [], b, i, v, h, hr => by simp [lent] at h
  | a :: as, b, i, v, h, hr => by
    rw [List.map_cons, lv_args, gx_v_cat]
    by_cases hc : a.category = 2
    · rw [lent, if_pos hc] at h
      rw [if_pos hc]
      match i with
      | 0 => simp at h; subst h; exact List.mem_cons_self
      | 1 => simp at h; subst h; exact absurd rfl (hr 0)
      | i + 2 =>
        have := lent_in Γ as (b + 2) i v (by simpa using h) hr
        rw [show b + (i + 2) = b + 2 + i by omega]
        exact List.mem_cons_of_mem _ this
    · rw [lent, if_neg hc] at h
      rw [if_neg hc]
      match i with
      | 0 => simp at h; subst h; exact List.mem_cons_self
      | i + 1 =>
        have := lent_in Γ as (b + 1) i v (by simpa using h) hr
        rw [show b + (i + 1) = b + 1 + i by omega]
        exact List.mem_cons_of_mem _ this
theorem lg_sl_len (Γ : GX) : ∀ as : List Value, (lg_sl (as.map (gx_v Γ))).length = (lent as).length
  | [] => rfl
  | a :: as => by
    have ih := lg_sl_len Γ as
    simp only [lg_sl] at ih
    simp only [lg_sl, lent, List.map_cons, List.flatMap_cons, List.length_append, gx_v_cat]
    split <;> simp_all <;> omega
/-- from the entry's instruction to the method's contract; pad: as many unknown places as there are locals beyond the arguments -/
theorem x_enter {as : List Value} (pad : Nat) (hy : plainName M.1.cls = true) (hlen : (lent as).length + pad = M.2.2.1) (hex : Ex Γ M (gx_Z Γ M Q) 0 0 0 (lent as ++ List.replicate pad (.retAddr 0)) [] h sz) : Rn Γ M as h sz Q := by
  refine Met.ofW (cc := M.2.1) (maxL := M.2.2.1) (ret := M.2.2.2.1) hy rfl ?_
  intro p e s m args below meth c s₁ B hml hv
  obtain ⟨rfl, hw, hs⟩ := hv
  have hts := atoms_spec (ws := gx_ws M) B.pre
  have hl := lv_entry (as.map (gx_v Γ)) (n := M.2.2.1) (by rw [lg_sl_len]; omega)
  rw [lg_entry_eq]
  refine hex p e s m _ below meth c ⟨B.exec, B.bytes, B.returns, hml, findClass_of_methodNamed B.named, fun w hw => hts w (List.mem_cons_of_mem _ hw), B.notSynchronized, (name_of_methodNamed B.named B.method).1, hs⟩ s.heap [] _ hw (fun q hq => by cases hq) ⟨hl.1, hl.2.1, fun i v hi hr => ?_⟩
  by_cases hlt : i < (lent as).length
  · rw [List.getElem?_append_left hlt] at hi
    have := lent_in Γ as 0 i v hi hr
    rw [Nat.zero_add] at this
    exact hl.2.2 _ this
  · rw [List.getElem?_append_right (by omega)] at hi
    rw [List.getElem?_replicate] at hi
    split at hi
    · cases hi; exact absurd rfl (hr 0)
    · cases hi
theorem Rn.mono {as : List Value} {Q' : QT} (h0 : Rn Γ M as h sz Q) (hq : ∀ r h' sz', Q r h' sz' → Q' r h' sz') : Rn Γ M as h sz Q' := by
  intro p e h1 h2 h3 s m args below hf hS hP hK
  obtain ⟨n, o, a, b, c, ⟨r, h', sz', e1, e2, e3⟩, d⟩ := h0 p e h1 h2 h3 s m args below hf hS hP hK
  exact ⟨n, o, a, b, c, ⟨r, h', sz', e1, hq _ _ _ e2, e3⟩, d⟩
theorem Rm.of {M M' : MI} {cc cn : Nat} (h : (Nat.ble (M'.2.2.2.2.frames + 1) M.2.2.2.2.frames && (Nat.ble (8 + (M'.2.2.1 + 11) + M'.2.2.2.2.locals) M.2.2.2.2.locals && (Nat.ble (cc + M'.2.2.2.2.cells) M.2.2.2.2.cells && Nat.ble (cn + M'.2.2.2.2.slots) M.2.2.2.2.slots))) = true) : Rm M M' cc cn := by
  simp only [Bool.and_eq_true] at h
  exact ⟨⟨Nat.le_of_ble_eq_true h.1, Nat.le_of_ble_eq_true h.2.1⟩, Nat.le_of_ble_eq_true h.2.2.1, Nat.le_of_ble_eq_true h.2.2.2⟩
end Ends1
