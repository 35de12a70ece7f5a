section Rows
variable {Γ : GX} {M : MI} {Z : ZT} {cc cn pc pc' tgt : Nat} {lv st : List Value} {h : Hp} {sz : Nat}
def Dk (c : ByteArray) (pc : Nat) (v : Int32) (pc' : Nat) : Prop := ∃ (n : Int) (b : Nat), ((decode c pc = .ok (.iconst n, 1) ∧ Int32.ofInt n = v ∧ b = 1) ∨ (decode c pc = .ok (.bipush n, 2) ∧ (Int8.ofInt n).toInt32 = v ∧ b = 2) ∨ (decode c pc = .ok (.sipush n, 3) ∧ (Int16.ofInt n).toInt32 = v ∧ b = 3)) ∧ pc + b = pc'
theorem x_k {v : Int32} (d : Dk M.2.1 pc v pc') (k : Ex Γ M Z cc cn pc' lv (.int v :: st) h sz) : Ex Γ M Z cc cn pc lv st h sz := by
  obtain ⟨n, b, d, rfl⟩ := d
  intro p e s m args below meth c F H locs ls hw hL hl
  rcases d with ⟨d, hv, rfl⟩ | ⟨d, hv, rfl⟩ | ⟨d, hv, rfl⟩
  · exact lv_iconst F.1 F.2.1 d hv (k p e s m args below meth c F H locs ls hw hL hl)
  · exact lv_bipush F.1 F.2.1 d hv (k p e s m args below meth c F H locs ls hw hL hl)
  · exact lv_sipush F.1 F.2.1 d hv (k p e s m args below meth c F H locs ls hw hL hl)
theorem x_lconst {n : Fin 2} {v : Int64} (d : Dc M.2.1 pc (.lconst n) 1 pc') (hv : Int64.ofNat n.val = v) (k : Ex Γ M Z cc cn pc' lv (.long v :: st) h sz) : Ex Γ M Z cc cn pc lv st h sz := by
  obtain ⟨d, rfl⟩ := d
  intro p e s m args below meth c F H locs ls hw hL hl
  exact lv_lconst F.1 F.2.1 d (by first | exact hv | simpa using hv) (k p e s m args below meth c F H locs ls hw hL hl)
theorem x_ldc {idx : Nat} {v : Int32} (hc : Cond.constant M.1.cls idx v ∈ gtbl) (d : Dc M.2.1 pc (.ldc idx) 2 pc') (k : Ex Γ M Z cc cn pc' lv (.int v :: st) h sz) : Ex Γ M Z cc cn pc lv st h sz := by
  obtain ⟨d, rfl⟩ := d
  intro p e s m args below meth c F H locs ls hw hL hl
  exact lv_ldc F.1 F.2.1 F.2.2.2.2.1 (F.2.2.2.2.2.1 _ hc) d (k p e s m args below meth c F H locs ls hw hL hl)
theorem x_ldcw {idx : Nat} {v : Int32} (hc : Cond.constant M.1.cls idx v ∈ gtbl) (d : Dc M.2.1 pc (.ldc_w idx) 3 pc') (k : Ex Γ M Z cc cn pc' lv (.int v :: st) h sz) : Ex Γ M Z cc cn pc lv st h sz := by
  obtain ⟨d, rfl⟩ := d
  intro p e s m args below meth c F H locs ls hw hL hl
  exact lv_ldcw F.1 F.2.1 F.2.2.2.2.1 (F.2.2.2.2.2.1 _ hc) d (k p e s m args below meth c F H locs ls hw hL hl)
theorem x_ldc2 {idx : Nat} {v : Int64} (hc : Cond.constantLong M.1.cls idx v ∈ gtbl) (d : Dc M.2.1 pc (.ldc2_w idx) 3 pc') (k : Ex Γ M Z cc cn pc' lv (.long v :: st) h sz) : Ex Γ M Z cc cn pc lv st h sz := by
  obtain ⟨d, rfl⟩ := d
  intro p e s m args below meth c F H locs ls hw hL hl
  exact lv_ldc2 F.1 F.2.1 F.2.2.2.2.1 (F.2.2.2.2.2.1 _ hc) d (k p e s m args below meth c F H locs ls hw hL hl)
theorem x_null (d : Dc M.2.1 pc .aconst_null 1 pc') (k : Ex Γ M Z cc cn pc' lv (.null :: st) h sz) : Ex Γ M Z cc cn pc lv st h sz := by
  obtain ⟨d, rfl⟩ := d
  intro p e s m args below meth c F H locs ls hw hL hl
  exact lv_null F.1 F.2.1 d (k p e s m args below meth c F H locs ls hw hL hl)

def lcat (lv : List Value) (i : Nat) : Bool := match i with
  | 0 => true
  | j + 1 => match lv[j]? with
    | some (.long _) => false
    | some (.double _) => false
    | _ => true
def lpr1 (Γ : GX) (j : Nat) (v : Option Value) : Option (Nat × Value) := match v with
  | none => none
  | some (.retAddr _) => none
  | some v => some (j, gx_v Γ v)
def lprs (Γ : GX) (lv : List Value) : List (Nat × Value) := (List.range lv.length).filterMap (fun j => lpr1 Γ j lv[j]?)
theorem gx_v_cat (Γ : GX) (v : Value) : (gx_v Γ v).category = v.category := by cases v <;> rfl
theorem lprs_mem {Γ : GX} {lv : List Value} {j : Nat} {v : Value} (h : lv[j]? = some v) (hr : ∀ z, v ≠ .retAddr z) : (j, gx_v Γ v) ∈ lprs Γ lv := by
  refine List.mem_filterMap.mpr ⟨j, List.mem_range.mpr (List.getElem?_eq_some_iff.mp h).1, ?_⟩
  rw [h]
  cases v <;> first | rfl | exact absurd rfl (hr _)
theorem lprs_has {Γ : GX} {ls : Array Slot} {nL : Nat} {lv : List Value} (hl : gx_l Γ ls nL lv) : lv_has ls nL (lprs Γ lv) := by
  refine ⟨hl.1, hl.2.1, fun q hq => ?_⟩
  obtain ⟨j, -, hj⟩ := List.mem_filterMap.mp hq
  cases hv : lv[j]? with
  | none => rw [hv] at hj; simp [lpr1] at hj
  | some v =>
    rw [hv] at hj
    have h3 := hl.2.2 j v hv
    cases v <;> simp [lpr1] at hj <;> subst hj <;> exact h3 (fun z e => by cases e)
theorem gx_l.st1 {Γ : GX} {ls : Array Slot} {nL : Nat} {lv : List Value} {i : Nat} {v : Value} {ls' : Array Slot} (hc : lcat lv i = true) (h' : lv_has ls' nL ((i, gx_v Γ v) :: (lprs Γ lv).filter (fun q => !(q.1 == i) && !(q.1 + 1 == i && q.2.category == 2)))) : gx_l Γ ls' nL (lv.set i v) := by
  refine ⟨h'.1, h'.2.1, fun j w hj hr => ?_⟩
  by_cases e : i = j
  · subst e
    by_cases hlen : i < lv.length
    · rw [List.getElem?_set_self hlen] at hj
      cases hj
      exact h'.2.2 (i, gx_v Γ v) List.mem_cons_self
    · rw [List.getElem?_eq_none (by rw [List.length_set]; omega)] at hj
      cases hj
  · rw [List.getElem?_set_ne e] at hj
    refine h'.2.2 (j, gx_v Γ w) (List.mem_cons_of_mem _ (List.mem_filter.mpr ⟨lprs_mem hj hr, ?_⟩))
    simp only [Bool.and_eq_true, Bool.not_eq_true', beq_eq_false_iff_ne, ne_eq, Bool.and_eq_false_iff]
    refine ⟨fun e2 => e e2.symm, ?_⟩
    by_cases e3 : j + 1 = i
    · right
      subst e3
      simp only [lcat, hj] at hc
      rw [gx_v_cat]
      cases w <;> first | (simp at hc; done) | (simp [Value.category])
    · left
      exact e3
theorem gx_l.st2 {Γ : GX} {ls : Array Slot} {nL : Nat} {lv : List Value} {i : Nat} {v : Value} {ls' : Array Slot} (hc : lcat lv i = true) (h' : lv_has ls' nL ((i, gx_v Γ v) :: (lprs Γ lv).filter (fun q => !(q.1 == i) && (!(q.1 == i + 1) && !(q.1 + 1 == i && q.2.category == 2))))) : gx_l Γ ls' nL ((lv.set i v).set (i + 1) (.retAddr 0)) := by
  refine ⟨h'.1, h'.2.1, fun j w hj hr => ?_⟩
  by_cases e1 : i + 1 = j
  · subst e1
    by_cases hlen : i + 1 < (lv.set i v).length
    · rw [List.getElem?_set_self hlen] at hj
      cases hj
      exact absurd rfl (hr 0)
    · rw [List.getElem?_eq_none (by rw [List.length_set]; omega)] at hj
      cases hj
  rw [List.getElem?_set_ne e1] at hj
  by_cases e : i = j
  · subst e
    by_cases hlen : i < lv.length
    · rw [List.getElem?_set_self hlen] at hj
      cases hj
      exact h'.2.2 (i, gx_v Γ v) List.mem_cons_self
    · rw [List.getElem?_eq_none (by rw [List.length_set]; omega)] at hj
      cases hj
  · rw [List.getElem?_set_ne e] at hj
    refine h'.2.2 (j, gx_v Γ w) (List.mem_cons_of_mem _ (List.mem_filter.mpr ⟨lprs_mem hj hr, ?_⟩))
    simp only [Bool.and_eq_true, Bool.not_eq_true', beq_eq_false_iff_ne, ne_eq, Bool.and_eq_false_iff]
    refine ⟨fun e2 => e e2.symm, fun e2 => e1 e2.symm, ?_⟩
    by_cases e3 : j + 1 = i
    · right
      subst e3
      simp only [lcat, hj] at hc
      rw [gx_v_cat]
      cases w <;> first | (simp at hc; done) | (simp [Value.category])
    · left
      exact e3

def Diload (c : ByteArray) (pc i pc' : Nat) : Prop := (∃ k : Fin 4, decode c pc = .ok (.iload_n k, 1) ∧ (k : Nat) = i ∧ pc + 1 = pc') ∨ (decode c pc = .ok (.iload i, 2) ∧ pc + 2 = pc')
theorem x_iload {i : Nat} {x : Int32} (d : Diload M.2.1 pc i pc') (hi : lv[i]? = some (.int x)) (k : Ex Γ M Z cc cn pc' lv (.int x :: st) h sz) : Ex Γ M Z cc cn pc lv st h sz := by
  intro p e s m args below meth c F H locs ls hw hL hl
  rcases d with ⟨q, d, hq, rfl⟩ | ⟨d, rfl⟩
  · exact lv_iload_n F.1 F.2.1 d hq (hl.2.2 i _ hi (fun z e => by cases e)) (k p e s m args below meth c F H locs ls hw hL hl)
  · exact lv_iload F.1 F.2.1 d (hl.2.2 i _ hi (fun z e => by cases e)) (k p e s m args below meth c F H locs ls hw hL hl)
def Dlload (c : ByteArray) (pc i pc' : Nat) : Prop := (∃ k : Fin 4, decode c pc = .ok (.lload_n k, 1) ∧ (k : Nat) = i ∧ pc + 1 = pc') ∨ (decode c pc = .ok (.lload i, 2) ∧ pc + 2 = pc')
theorem x_lload {i : Nat} {x : Int64} (d : Dlload M.2.1 pc i pc') (hi : lv[i]? = some (.long x)) (k : Ex Γ M Z cc cn pc' lv (.long x :: st) h sz) : Ex Γ M Z cc cn pc lv st h sz := by
  intro p e s m args below meth c F H locs ls hw hL hl
  rcases d with ⟨q, d, hq, rfl⟩ | ⟨d, rfl⟩
  · exact lv_lload_n F.1 F.2.1 d hq (hl.2.2 i _ hi (fun z e => by cases e)) (k p e s m args below meth c F H locs ls hw hL hl)
  · exact lv_lload F.1 F.2.1 d (hl.2.2 i _ hi (fun z e => by cases e)) (k p e s m args below meth c F H locs ls hw hL hl)
def Daload (c : ByteArray) (pc i pc' : Nat) : Prop := (∃ k : Fin 4, decode c pc = .ok (.aload_n k, 1) ∧ (k : Nat) = i ∧ pc + 1 = pc') ∨ (decode c pc = .ok (.aload i, 2) ∧ pc + 2 = pc')
theorem x_aload {i : Nat} {x : Nat} (d : Daload M.2.1 pc i pc') (hi : lv[i]? = some (.ref x)) (k : Ex Γ M Z cc cn pc' lv (.ref x :: st) h sz) : Ex Γ M Z cc cn pc lv st h sz := by
  intro p e s m args below meth c F H locs ls hw hL hl
  rcases d with ⟨q, d, hq, rfl⟩ | ⟨d, rfl⟩
  · exact lv_aload_n F.1 F.2.1 d hq (hl.2.2 i _ hi (fun z e => by cases e)) (k p e s m args below meth c F H locs ls hw hL hl)
  · exact lv_aload F.1 F.2.1 d (hl.2.2 i _ hi (fun z e => by cases e)) (k p e s m args below meth c F H locs ls hw hL hl)
def Distore (c : ByteArray) (pc i pc' : Nat) : Prop := (∃ k : Fin 4, decode c pc = .ok (.istore_n k, 1) ∧ (k : Nat) = i ∧ pc + 1 = pc') ∨ (decode c pc = .ok (.istore i, 2) ∧ pc + 2 = pc')
theorem x_istore {i : Nat} {x : Int32} (d : Distore M.2.1 pc i pc') (hn : i < M.2.2.1) (hc : lcat lv i = true) (k : Ex Γ M Z cc cn pc' (lv.set i (.int x)) st h sz) : Ex Γ M Z cc cn pc lv (.int x :: st) h sz := by
  intro p e s m args below meth c F H locs ls hw hL hl
  rcases d with ⟨q, d, hq, rfl⟩ | ⟨d, rfl⟩
  · exact lv_istore_n F.1 F.2.1 d hq (lprs_has hl) hn rfl (fun ls' h' => k p e s m args below meth c F H locs ls' hw hL (gx_l.st1 (ls := ls) (v := .int x) hc h'))
  · exact lv_istore F.1 F.2.1 d (lprs_has hl) hn rfl (fun ls' h' => k p e s m args below meth c F H locs ls' hw hL (gx_l.st1 (ls := ls) (v := .int x) hc h'))
def Dlstore (c : ByteArray) (pc i pc' : Nat) : Prop := (∃ k : Fin 4, decode c pc = .ok (.lstore_n k, 1) ∧ (k : Nat) = i ∧ pc + 1 = pc') ∨ (decode c pc = .ok (.lstore i, 2) ∧ pc + 2 = pc')
theorem x_lstore {i : Nat} {x : Int64} (d : Dlstore M.2.1 pc i pc') (hn : i + 1 < M.2.2.1) (hc : lcat lv i = true) (k : Ex Γ M Z cc cn pc' ((lv.set i (.long x)).set (i + 1) (.retAddr 0)) st h sz) : Ex Γ M Z cc cn pc lv (.long x :: st) h sz := by
  intro p e s m args below meth c F H locs ls hw hL hl
  rcases d with ⟨q, d, hq, rfl⟩ | ⟨d, rfl⟩
  · exact lv_lstore_n F.1 F.2.1 d hq (lprs_has hl) hn rfl (fun ls' h' => k p e s m args below meth c F H locs ls' hw hL (gx_l.st2 (ls := ls) (v := .long x) hc h'))
  · exact lv_lstore F.1 F.2.1 d (lprs_has hl) hn rfl (fun ls' h' => k p e s m args below meth c F H locs ls' hw hL (gx_l.st2 (ls := ls) (v := .long x) hc h'))
def Dastore (c : ByteArray) (pc i pc' : Nat) : Prop := (∃ k : Fin 4, decode c pc = .ok (.astore_n k, 1) ∧ (k : Nat) = i ∧ pc + 1 = pc') ∨ (decode c pc = .ok (.astore i, 2) ∧ pc + 2 = pc')
theorem x_astore {i : Nat} {x : Nat} (d : Dastore M.2.1 pc i pc') (hn : i < M.2.2.1) (hc : lcat lv i = true) (k : Ex Γ M Z cc cn pc' (lv.set i (.ref x)) st h sz) : Ex Γ M Z cc cn pc lv (.ref x :: st) h sz := by
  intro p e s m args below meth c F H locs ls hw hL hl
  rcases d with ⟨q, d, hq, rfl⟩ | ⟨d, rfl⟩
  · exact lv_astore_n F.1 F.2.1 d hq (lprs_has hl) hn rfl (fun ls' h' => k p e s m args below meth c F H locs ls' hw hL (gx_l.st1 (ls := ls) (v := .ref x) hc h'))
  · exact lv_astore F.1 F.2.1 d (lprs_has hl) hn rfl (fun ls' h' => k p e s m args below meth c F H locs ls' hw hL (gx_l.st1 (ls := ls) (v := .ref x) hc h'))
theorem x_iinc {i : Nat} {n : Int} {x v : Int32} (d : Dc M.2.1 pc (.iinc i n) 3 pc') (hi : lv[i]? = some (.int x)) (hv : Int32.ofInt n = v) (hn : i < M.2.2.1) (hc : lcat lv i = true) (k : Ex Γ M Z cc cn pc' (lv.set i (.int (x + v))) st h sz) : Ex Γ M Z cc cn pc lv st h sz := by
  obtain ⟨d, rfl⟩ := d
  subst hv
  intro p e s m args below meth c F H locs ls hw hL hl
  obtain ⟨q, hq⟩ := List.getElem?_of_mem (lprs_mem (Γ := Γ) hi (fun z e => by cases e))
  exact lv_iinc F.1 F.2.1 d (lprs_has hl) hq rfl hn rfl (fun ls' h' => k p e s m args below meth c F H locs ls' hw hL (gx_l.st1 (ls := ls) (v := .int (x + Int32.ofInt n)) hc h'))
theorem x_iadd {a b : Int32} (d : Dc M.2.1 pc .iadd 1 pc')  (k : Ex Γ M Z cc cn pc' lv (.int (a + b) :: st) h sz) : Ex Γ M Z cc cn pc lv (.int b :: .int a :: st) h sz := by
  obtain ⟨d, rfl⟩ := d
  intro p e s m args below meth c F H locs ls hw hL hl
  exact lv_iadd F.1 F.2.1 d  (k p e s m args below meth c F H locs ls hw hL hl)
theorem x_isub {a b : Int32} (d : Dc M.2.1 pc .isub 1 pc')  (k : Ex Γ M Z cc cn pc' lv (.int (a - b) :: st) h sz) : Ex Γ M Z cc cn pc lv (.int b :: .int a :: st) h sz := by
  obtain ⟨d, rfl⟩ := d
  intro p e s m args below meth c F H locs ls hw hL hl
  exact lv_isub F.1 F.2.1 d  (k p e s m args below meth c F H locs ls hw hL hl)
theorem x_imul {a b : Int32} (d : Dc M.2.1 pc .imul 1 pc')  (k : Ex Γ M Z cc cn pc' lv (.int (a * b) :: st) h sz) : Ex Γ M Z cc cn pc lv (.int b :: .int a :: st) h sz := by
  obtain ⟨d, rfl⟩ := d
  intro p e s m args below meth c F H locs ls hw hL hl
  exact lv_imul F.1 F.2.1 d  (k p e s m args below meth c F H locs ls hw hL hl)
theorem x_iand {a b : Int32} (d : Dc M.2.1 pc .iand 1 pc')  (k : Ex Γ M Z cc cn pc' lv (.int (a &&& b) :: st) h sz) : Ex Γ M Z cc cn pc lv (.int b :: .int a :: st) h sz := by
  obtain ⟨d, rfl⟩ := d
  intro p e s m args below meth c F H locs ls hw hL hl
  exact lv_iand F.1 F.2.1 d  (k p e s m args below meth c F H locs ls hw hL hl)
theorem x_ior {a b : Int32} (d : Dc M.2.1 pc .ior 1 pc')  (k : Ex Γ M Z cc cn pc' lv (.int (a ||| b) :: st) h sz) : Ex Γ M Z cc cn pc lv (.int b :: .int a :: st) h sz := by
  obtain ⟨d, rfl⟩ := d
  intro p e s m args below meth c F H locs ls hw hL hl
  exact lv_ior F.1 F.2.1 d  (k p e s m args below meth c F H locs ls hw hL hl)
theorem x_ixor {a b : Int32} (d : Dc M.2.1 pc .ixor 1 pc')  (k : Ex Γ M Z cc cn pc' lv (.int (a ^^^ b) :: st) h sz) : Ex Γ M Z cc cn pc lv (.int b :: .int a :: st) h sz := by
  obtain ⟨d, rfl⟩ := d
  intro p e s m args below meth c F H locs ls hw hL hl
  exact lv_ixor F.1 F.2.1 d  (k p e s m args below meth c F H locs ls hw hL hl)
theorem x_ishl {a b : Int32} (d : Dc M.2.1 pc .ishl 1 pc')  (k : Ex Γ M Z cc cn pc' lv (.int (a <<< (b &&& 31)) :: st) h sz) : Ex Γ M Z cc cn pc lv (.int b :: .int a :: st) h sz := by
  obtain ⟨d, rfl⟩ := d
  intro p e s m args below meth c F H locs ls hw hL hl
  exact lv_ishl F.1 F.2.1 d  (k p e s m args below meth c F H locs ls hw hL hl)
theorem x_ishr {a b : Int32} (d : Dc M.2.1 pc .ishr 1 pc')  (k : Ex Γ M Z cc cn pc' lv (.int (a >>> (b &&& 31)) :: st) h sz) : Ex Γ M Z cc cn pc lv (.int b :: .int a :: st) h sz := by
  obtain ⟨d, rfl⟩ := d
  intro p e s m args below meth c F H locs ls hw hL hl
  exact lv_ishr F.1 F.2.1 d  (k p e s m args below meth c F H locs ls hw hL hl)
theorem x_idiv {a b : Int32} (d : Dc M.2.1 pc .idiv 1 pc') (hne : ¬ b = 0) (k : Ex Γ M Z cc cn pc' lv (.int (a / b) :: st) h sz) : Ex Γ M Z cc cn pc lv (.int b :: .int a :: st) h sz := by
  obtain ⟨d, rfl⟩ := d
  intro p e s m args below meth c F H locs ls hw hL hl
  exact lv_idiv F.1 F.2.1 d hne (k p e s m args below meth c F H locs ls hw hL hl)
theorem x_irem {a b : Int32} (d : Dc M.2.1 pc .irem 1 pc') (hne : ¬ b = 0) (k : Ex Γ M Z cc cn pc' lv (.int (a - a / b * b) :: st) h sz) : Ex Γ M Z cc cn pc lv (.int b :: .int a :: st) h sz := by
  obtain ⟨d, rfl⟩ := d
  intro p e s m args below meth c F H locs ls hw hL hl
  exact lv_irem F.1 F.2.1 d hne (k p e s m args below meth c F H locs ls hw hL hl)
theorem x_ineg {a : Int32} (d : Dc M.2.1 pc .ineg 1 pc')  (k : Ex Γ M Z cc cn pc' lv (.int (-a) :: st) h sz) : Ex Γ M Z cc cn pc lv (.int a :: st) h sz := by
  obtain ⟨d, rfl⟩ := d
  intro p e s m args below meth c F H locs ls hw hL hl
  exact lv_ineg F.1 F.2.1 d  (k p e s m args below meth c F H locs ls hw hL hl)
theorem x_ladd {a b : Int64} (d : Dc M.2.1 pc .ladd 1 pc')  (k : Ex Γ M Z cc cn pc' lv (.long (a + b) :: st) h sz) : Ex Γ M Z cc cn pc lv (.long b :: .long a :: st) h sz := by
  obtain ⟨d, rfl⟩ := d
  intro p e s m args below meth c F H locs ls hw hL hl
  exact lv_ladd F.1 F.2.1 d  (k p e s m args below meth c F H locs ls hw hL hl)
theorem x_lmul {a b : Int64} (d : Dc M.2.1 pc .lmul 1 pc')  (k : Ex Γ M Z cc cn pc' lv (.long (a * b) :: st) h sz) : Ex Γ M Z cc cn pc lv (.long b :: .long a :: st) h sz := by
  obtain ⟨d, rfl⟩ := d
  intro p e s m args below meth c F H locs ls hw hL hl
  exact lv_lmul F.1 F.2.1 d  (k p e s m args below meth c F H locs ls hw hL hl)
theorem x_lor {a b : Int64} (d : Dc M.2.1 pc .lor 1 pc')  (k : Ex Γ M Z cc cn pc' lv (.long (a ||| b) :: st) h sz) : Ex Γ M Z cc cn pc lv (.long b :: .long a :: st) h sz := by
  obtain ⟨d, rfl⟩ := d
  intro p e s m args below meth c F H locs ls hw hL hl
  exact lv_lor F.1 F.2.1 d  (k p e s m args below meth c F H locs ls hw hL hl)
theorem x_lshl {a : Int64} {b : Int32} (d : Dc M.2.1 pc .lshl 1 pc')  (k : Ex Γ M Z cc cn pc' lv (.long (a <<< (b.toInt64 &&& 63)) :: st) h sz) : Ex Γ M Z cc cn pc lv (.int b :: .long a :: st) h sz := by
  obtain ⟨d, rfl⟩ := d
  intro p e s m args below meth c F H locs ls hw hL hl
  exact lv_lshl F.1 F.2.1 d rfl (k p e s m args below meth c F H locs ls hw hL hl)
theorem x_lshr {a : Int64} {b : Int32} (d : Dc M.2.1 pc .lshr 1 pc')  (k : Ex Γ M Z cc cn pc' lv (.long (a >>> (b.toInt64 &&& 63)) :: st) h sz) : Ex Γ M Z cc cn pc lv (.int b :: .long a :: st) h sz := by
  obtain ⟨d, rfl⟩ := d
  intro p e s m args below meth c F H locs ls hw hL hl
  exact lv_lshr F.1 F.2.1 d rfl (k p e s m args below meth c F H locs ls hw hL hl)
theorem x_i2l {a : Int32} (d : Dc M.2.1 pc .i2l 1 pc')  (k : Ex Γ M Z cc cn pc' lv (.long a.toInt64 :: st) h sz) : Ex Γ M Z cc cn pc lv (.int a :: st) h sz := by
  obtain ⟨d, rfl⟩ := d
  intro p e s m args below meth c F H locs ls hw hL hl
  exact lv_i2l F.1 F.2.1 d rfl (k p e s m args below meth c F H locs ls hw hL hl)
theorem x_l2i {a : Int64} (d : Dc M.2.1 pc .l2i 1 pc')  (k : Ex Γ M Z cc cn pc' lv (.int a.toInt32 :: st) h sz) : Ex Γ M Z cc cn pc lv (.long a :: st) h sz := by
  obtain ⟨d, rfl⟩ := d
  intro p e s m args below meth c F H locs ls hw hL hl
  exact lv_l2i F.1 F.2.1 d rfl (k p e s m args below meth c F H locs ls hw hL hl)
theorem x_i2b {a : Int32} (d : Dc M.2.1 pc .i2b 1 pc')  (k : Ex Γ M Z cc cn pc' lv (.int a.toInt8.toInt32 :: st) h sz) : Ex Γ M Z cc cn pc lv (.int a :: st) h sz := by
  obtain ⟨d, rfl⟩ := d
  intro p e s m args below meth c F H locs ls hw hL hl
  exact lv_i2b F.1 F.2.1 d rfl (k p e s m args below meth c F H locs ls hw hL hl)
theorem x_i2s {a : Int32} (d : Dc M.2.1 pc .i2s 1 pc')  (k : Ex Γ M Z cc cn pc' lv (.int a.toInt16.toInt32 :: st) h sz) : Ex Γ M Z cc cn pc lv (.int a :: st) h sz := by
  obtain ⟨d, rfl⟩ := d
  intro p e s m args below meth c F H locs ls hw hL hl
  exact lv_i2s F.1 F.2.1 d rfl (k p e s m args below meth c F H locs ls hw hL hl)
theorem x_i2c {a : Int32} (d : Dc M.2.1 pc .i2c 1 pc')  (k : Ex Γ M Z cc cn pc' lv (.int a.toUInt32.toUInt16.toUInt32.toInt32 :: st) h sz) : Ex Γ M Z cc cn pc lv (.int a :: st) h sz := by
  obtain ⟨d, rfl⟩ := d
  intro p e s m args below meth c F H locs ls hw hL hl
  exact lv_i2c F.1 F.2.1 d rfl (k p e s m args below meth c F H locs ls hw hL hl)
theorem x_lcmp {a b : Int64} (d : Dc M.2.1 pc .lcmp 1 pc')  (k : Ex Γ M Z cc cn pc' lv (.int (lg_cmp a b) :: st) h sz) : Ex Γ M Z cc cn pc lv (.long b :: .long a :: st) h sz := by
  obtain ⟨d, rfl⟩ := d
  intro p e s m args below meth c F H locs ls hw hL hl
  exact W.lcmp F.1 F.2.1 d  (k p e s m args below meth c F H locs ls hw hL hl)
theorem x_dup {v : Value} (d : Dc M.2.1 pc .dup 1 pc') (hv : v.category = 1) (k : Ex Γ M Z cc cn pc' lv (v :: v :: st) h sz) : Ex Γ M Z cc cn pc lv (v :: st) h sz := by
  obtain ⟨d, rfl⟩ := d
  intro p e s m args below meth c F H locs ls hw hL hl
  exact lv_dup F.1 F.2.1 d ((gx_v_cat Γ v).trans hv) (k p e s m args below meth c F H locs ls hw hL hl)
theorem x_pop {v : Value} (d : Dc M.2.1 pc .pop 1 pc') (hv : v.category = 1) (k : Ex Γ M Z cc cn pc' lv (st) h sz) : Ex Γ M Z cc cn pc lv (v :: st) h sz := by
  obtain ⟨d, rfl⟩ := d
  intro p e s m args below meth c F H locs ls hw hL hl
  exact lv_pop F.1 F.2.1 d ((gx_v_cat Γ v).trans hv) (k p e s m args below meth c F H locs ls hw hL hl)
theorem x_dup2 {v w : Value} (d : Dc M.2.1 pc .dup2 1 pc') (hv : v.category = 1) (hw2 : w.category = 1) (k : Ex Γ M Z cc cn pc' lv (v :: w :: v :: w :: st) h sz) : Ex Γ M Z cc cn pc lv (v :: w :: st) h sz := by
  obtain ⟨d, rfl⟩ := d
  intro p e s m args below meth c F H locs ls hw hL hl
  exact lv_dup2_11 F.1 F.2.1 d ((gx_v_cat Γ v).trans hv) ((gx_v_cat Γ w).trans hw2) (k p e s m args below meth c F H locs ls hw hL hl)
theorem x_icmp_eq {a b : Int32} {off : Int} (d : Dj M.2.1 pc (.if_icmp .eq off) off 3 pc' tgt) (kt : a = b → Ex Γ M Z cc cn tgt lv st h sz) (kf : ¬ (a = b) → Ex Γ M Z cc cn pc' lv st h sz) : Ex Γ M Z cc cn pc lv (.int b :: .int a :: st) h sz := by
  obtain ⟨d, rfl, ht⟩ := d
  intro p e s m args below meth c F H locs ls hw hL hl
  exact lv_icmp_eq F.1 F.2.1 d ht (fun q => kt (by first | exact q | exact fun z => q z | simpa using q) p e s m args below meth c F H locs ls hw hL hl) (fun q => kf (by first | exact q | simpa using q) p e s m args below meth c F H locs ls hw hL hl)
theorem x_if_eq {a : Int32} {off : Int} (d : Dj M.2.1 pc (.ifCond .eq off) off 3 pc' tgt) (kt : a = 0 → Ex Γ M Z cc cn tgt lv st h sz) (kf : ¬ (a = 0) → Ex Γ M Z cc cn pc' lv st h sz) : Ex Γ M Z cc cn pc lv (.int a :: st) h sz := by
  obtain ⟨d, rfl, ht⟩ := d
  intro p e s m args below meth c F H locs ls hw hL hl
  exact lv_if_eq F.1 F.2.1 d ht (fun q => kt (by first | exact q | exact fun z => q z | simpa using q) p e s m args below meth c F H locs ls hw hL hl) (fun q => kf (by first | exact q | simpa using q) p e s m args below meth c F H locs ls hw hL hl)
theorem x_icmp_ne {a b : Int32} {off : Int} (d : Dj M.2.1 pc (.if_icmp .ne off) off 3 pc' tgt) (kt : ¬ a = b → Ex Γ M Z cc cn tgt lv st h sz) (kf : ¬ (¬ a = b) → Ex Γ M Z cc cn pc' lv st h sz) : Ex Γ M Z cc cn pc lv (.int b :: .int a :: st) h sz := by
  obtain ⟨d, rfl, ht⟩ := d
  intro p e s m args below meth c F H locs ls hw hL hl
  exact lv_icmp_ne F.1 F.2.1 d ht (fun q => kt (by first | exact q | exact fun z => q z | simpa using q) p e s m args below meth c F H locs ls hw hL hl) (fun q => kf (by first | exact q | simpa using q) p e s m args below meth c F H locs ls hw hL hl)
theorem x_if_ne {a : Int32} {off : Int} (d : Dj M.2.1 pc (.ifCond .ne off) off 3 pc' tgt) (kt : ¬ a = 0 → Ex Γ M Z cc cn tgt lv st h sz) (kf : ¬ (¬ a = 0) → Ex Γ M Z cc cn pc' lv st h sz) : Ex Γ M Z cc cn pc lv (.int a :: st) h sz := by
  obtain ⟨d, rfl, ht⟩ := d
  intro p e s m args below meth c F H locs ls hw hL hl
  exact lv_if_ne F.1 F.2.1 d ht (fun q => kt (by first | exact q | exact fun z => q z | simpa using q) p e s m args below meth c F H locs ls hw hL hl) (fun q => kf (by first | exact q | simpa using q) p e s m args below meth c F H locs ls hw hL hl)
theorem x_icmp_lt {a b : Int32} {off : Int} (d : Dj M.2.1 pc (.if_icmp .lt off) off 3 pc' tgt) (kt : a < b → Ex Γ M Z cc cn tgt lv st h sz) (kf : ¬ (a < b) → Ex Γ M Z cc cn pc' lv st h sz) : Ex Γ M Z cc cn pc lv (.int b :: .int a :: st) h sz := by
  obtain ⟨d, rfl, ht⟩ := d
  intro p e s m args below meth c F H locs ls hw hL hl
  exact lv_icmp_lt F.1 F.2.1 d ht (fun q => kt (by first | exact q | exact fun z => q z | simpa using q) p e s m args below meth c F H locs ls hw hL hl) (fun q => kf (by first | exact q | simpa using q) p e s m args below meth c F H locs ls hw hL hl)
theorem x_if_lt {a : Int32} {off : Int} (d : Dj M.2.1 pc (.ifCond .lt off) off 3 pc' tgt) (kt : a < 0 → Ex Γ M Z cc cn tgt lv st h sz) (kf : ¬ (a < 0) → Ex Γ M Z cc cn pc' lv st h sz) : Ex Γ M Z cc cn pc lv (.int a :: st) h sz := by
  obtain ⟨d, rfl, ht⟩ := d
  intro p e s m args below meth c F H locs ls hw hL hl
  exact lv_if_lt F.1 F.2.1 d ht (fun q => kt (by first | exact q | exact fun z => q z | simpa using q) p e s m args below meth c F H locs ls hw hL hl) (fun q => kf (by first | exact q | simpa using q) p e s m args below meth c F H locs ls hw hL hl)
theorem x_icmp_ge {a b : Int32} {off : Int} (d : Dj M.2.1 pc (.if_icmp .ge off) off 3 pc' tgt) (kt : b ≤ a → Ex Γ M Z cc cn tgt lv st h sz) (kf : ¬ (b ≤ a) → Ex Γ M Z cc cn pc' lv st h sz) : Ex Γ M Z cc cn pc lv (.int b :: .int a :: st) h sz := by
  obtain ⟨d, rfl, ht⟩ := d
  intro p e s m args below meth c F H locs ls hw hL hl
  exact lv_icmp_ge F.1 F.2.1 d ht (fun q => kt (by first | exact q | exact fun z => q z | simpa using q) p e s m args below meth c F H locs ls hw hL hl) (fun q => kf (by first | exact q | simpa using q) p e s m args below meth c F H locs ls hw hL hl)
theorem x_if_ge {a : Int32} {off : Int} (d : Dj M.2.1 pc (.ifCond .ge off) off 3 pc' tgt) (kt : 0 ≤ a → Ex Γ M Z cc cn tgt lv st h sz) (kf : ¬ (0 ≤ a) → Ex Γ M Z cc cn pc' lv st h sz) : Ex Γ M Z cc cn pc lv (.int a :: st) h sz := by
  obtain ⟨d, rfl, ht⟩ := d
  intro p e s m args below meth c F H locs ls hw hL hl
  exact lv_if_ge F.1 F.2.1 d ht (fun q => kt (by first | exact q | exact fun z => q z | simpa using q) p e s m args below meth c F H locs ls hw hL hl) (fun q => kf (by first | exact q | simpa using q) p e s m args below meth c F H locs ls hw hL hl)
theorem x_icmp_gt {a b : Int32} {off : Int} (d : Dj M.2.1 pc (.if_icmp .gt off) off 3 pc' tgt) (kt : b < a → Ex Γ M Z cc cn tgt lv st h sz) (kf : ¬ (b < a) → Ex Γ M Z cc cn pc' lv st h sz) : Ex Γ M Z cc cn pc lv (.int b :: .int a :: st) h sz := by
  obtain ⟨d, rfl, ht⟩ := d
  intro p e s m args below meth c F H locs ls hw hL hl
  exact lv_icmp_gt F.1 F.2.1 d ht (fun q => kt (by first | exact q | exact fun z => q z | simpa using q) p e s m args below meth c F H locs ls hw hL hl) (fun q => kf (by first | exact q | simpa using q) p e s m args below meth c F H locs ls hw hL hl)
theorem x_if_gt {a : Int32} {off : Int} (d : Dj M.2.1 pc (.ifCond .gt off) off 3 pc' tgt) (kt : 0 < a → Ex Γ M Z cc cn tgt lv st h sz) (kf : ¬ (0 < a) → Ex Γ M Z cc cn pc' lv st h sz) : Ex Γ M Z cc cn pc lv (.int a :: st) h sz := by
  obtain ⟨d, rfl, ht⟩ := d
  intro p e s m args below meth c F H locs ls hw hL hl
  exact lv_if_gt F.1 F.2.1 d ht (fun q => kt (by first | exact q | exact fun z => q z | simpa using q) p e s m args below meth c F H locs ls hw hL hl) (fun q => kf (by first | exact q | simpa using q) p e s m args below meth c F H locs ls hw hL hl)
theorem x_icmp_le {a b : Int32} {off : Int} (d : Dj M.2.1 pc (.if_icmp .le off) off 3 pc' tgt) (kt : a ≤ b → Ex Γ M Z cc cn tgt lv st h sz) (kf : ¬ (a ≤ b) → Ex Γ M Z cc cn pc' lv st h sz) : Ex Γ M Z cc cn pc lv (.int b :: .int a :: st) h sz := by
  obtain ⟨d, rfl, ht⟩ := d
  intro p e s m args below meth c F H locs ls hw hL hl
  exact lv_icmp_le F.1 F.2.1 d ht (fun q => kt (by first | exact q | exact fun z => q z | simpa using q) p e s m args below meth c F H locs ls hw hL hl) (fun q => kf (by first | exact q | simpa using q) p e s m args below meth c F H locs ls hw hL hl)
theorem x_if_le {a : Int32} {off : Int} (d : Dj M.2.1 pc (.ifCond .le off) off 3 pc' tgt) (kt : a ≤ 0 → Ex Γ M Z cc cn tgt lv st h sz) (kf : ¬ (a ≤ 0) → Ex Γ M Z cc cn pc' lv st h sz) : Ex Γ M Z cc cn pc lv (.int a :: st) h sz := by
  obtain ⟨d, rfl, ht⟩ := d
  intro p e s m args below meth c F H locs ls hw hL hl
  exact lv_if_le F.1 F.2.1 d ht (fun q => kt (by first | exact q | exact fun z => q z | simpa using q) p e s m args below meth c F H locs ls hw hL hl) (fun q => kf (by first | exact q | simpa using q) p e s m args below meth c F H locs ls hw hL hl)
theorem x_goto {off : Int} (d : Dj M.2.1 pc (.goto off) off 3 pc' tgt) (k : Ex Γ M Z cc cn tgt lv st h sz) : Ex Γ M Z cc cn pc lv st h sz := by
  obtain ⟨d, rfl, ht⟩ := d
  intro p e s m args below meth c F H locs ls hw hL hl
  exact lv_goto F.1 F.2.1 d ht (k p e s m args below meth c F H locs ls hw hL hl)
theorem x_ifnull {off : Int} {q : Nat} (d : Dj M.2.1 pc (.ifnull off) off 3 pc' tgt) (k : Ex Γ M Z cc cn pc' lv st h sz) : Ex Γ M Z cc cn pc lv (.ref q :: st) h sz := by
  obtain ⟨d, rfl, ht⟩ := d
  intro p e s m args below meth c F H locs ls hw hL hl
  exact lv_ifnull F.1 F.2.1 d (k p e s m args below meth c F H locs ls hw hL hl)
theorem x_ifnonnull {off : Int} {q : Nat} (d : Dj M.2.1 pc (.ifnonnull off) off 3 pc' tgt) (k : Ex Γ M Z cc cn tgt lv st h sz) : Ex Γ M Z cc cn pc lv (.ref q :: st) h sz := by
  obtain ⟨d, rfl, ht⟩ := d
  intro p e s m args below meth c F H locs ls hw hL hl
  exact lv_ifnonnull F.1 F.2.1 d ht (k p e s m args below meth c F H locs ls hw hL hl)
theorem x_ifnullN {off : Int} (d : Dj M.2.1 pc (.ifnull off) off 3 pc' tgt) (k : Ex Γ M Z cc cn tgt lv st h sz) : Ex Γ M Z cc cn pc lv (.null :: st) h sz := by
  obtain ⟨d, rfl, ht⟩ := d
  intro p e s m args below meth c F H locs ls hw hL hl
  exact lv_ifnullN F.1 F.2.1 d ht (k p e s m args below meth c F H locs ls hw hL hl)
theorem x_ifnonnullN {off : Int} (d : Dj M.2.1 pc (.ifnonnull off) off 3 pc' tgt) (k : Ex Γ M Z cc cn pc' lv st h sz) : Ex Γ M Z cc cn pc lv (.null :: st) h sz := by
  obtain ⟨d, rfl, ht⟩ := d
  intro p e s m args below meth c F H locs ls hw hL hl
  exact lv_ifnonnullN F.1 F.2.1 d (k p e s m args below meth c F H locs ls hw hL hl)
theorem x_swOut {dflt lo hi : Int} {offs : Array Int} {len : Nat} {x : Int32} (d : Dj M.2.1 pc (.tableswitch dflt lo hi offs) dflt len pc' tgt) (hx : x.toInt < lo ∨ hi < x.toInt) (k : Ex Γ M Z cc cn tgt lv st h sz) : Ex Γ M Z cc cn pc lv (.int x :: st) h sz := by
  obtain ⟨d, rfl, ht⟩ := d
  intro p e s m args below meth c F H locs ls hw hL hl
  exact lv_tableOut F.1 F.2.1 d hx ht (k p e s m args below meth c F H locs ls hw hL hl)
theorem x_swIn {dflt lo hi off : Int} {offs : Array Int} {len : Nat} {x : Int32} {tgt2 : Nat} (d : Dj M.2.1 pc (.tableswitch dflt lo hi offs) dflt len pc' tgt2) (h1 : ¬ x.toInt < lo) (h2 : ¬ hi < x.toInt) (ho : offs[(x.toInt - lo).toNat]? = some off) (ht : (pc : Int) + off = (tgt : Int)) (k : Ex Γ M Z cc cn tgt lv st h sz) : Ex Γ M Z cc cn pc lv (.int x :: st) h sz := by
  obtain ⟨d, rfl, -⟩ := d
  intro p e s m args below meth c F H locs ls hw hL hl
  exact lv_tableIn F.1 F.2.1 d h1 h2 ho ht (k p e s m args below meth c F H locs ls hw hL hl)
end Rows
