/-! THE CLAIM OUT OF ONE WALK OF THE LAW'S BODY. Your part is whole_start (and what it stands on); all else here is the same for every law, but numbers. -/
def R_law : String := "SoldWithItLaw"
def lw_P (b : Addr) (xs : List Int32) (args : Array Value) (s : State) : Prop := args = #[.ref b] ∧ s.IntsAt b xs ∧ xs.length ≤ 3072 ∧ (Jvm.Cond.and given_1 narrow_1).before args s = true
def lw_Q (_ : Array Value) (s : State) (o : Outcome) (t : State) : Prop := o = .returned (some (.int 1)) ∧ Framed s o t [] 212196 8465662
def lw_Z (below : List Frame) (a : Array Value) (s : State) : State → Prop := fun t => ∃ o, t.status = .running ∧ Ended t below o ∧ lw_Q a s o t
/-- the law's own end, with 1 on the stack, nothing written that was there before, its room as the claim has it -/
theorem lw_ret {p : Program} {l : Launch} {e : Env} {s : State} {m : MethodId} {below : List Frame} {meth : Method} {c : Code} {b : Nat} (hx : p.tables.exec = Jvm.exec) (hb : c.code = code) (hr : meth.sig.returnType = ret) (hlocks : meth.locks = false) {pc : Nat} {H : Heap} {ls : Array Slot} (hdg : decode code pc = .ok (.ireturn, 1)) : W p l e room_1 s m #[Value.ref b] below meth c H [] 212196 8465662 (lw_Z below #[Value.ref b] s) (F0 m pc ls [.int 1]) := by
  intro T hT X
  obtain ⟨fs, hret, hrun, hended, hW, hframe⟩ := X.leave (v := some (.int 1)) (hlocks := hlocks) (fun h => by rw [hr] at h; cases h)
  have hmeth' : T.vm.method? m = some meth := X.method'
  refine ⟨T.setFrames fs, ?_, .returned (some (.int 1)), hrun, hended, rfl, ⟨_, rfl⟩, hW, hframe⟩
  jvm_step X.here [X.here.top, hx, hb, hdg, hmeth', hr, ret, narrow_b1]
  (try refine ⟨rfl, ?_⟩); (try refine ⟨rfl, ?_⟩)
  first | (intro acts; rw [hret _ acts rfl rfl rfl]) | rw [hret _ _ rfl rfl rfl]
  exact Steps.refl _
/-- what holds at the law's entry: the machine, the code, the tables' words (any of lw_tbl by 'hts w (by decide +kernel)'), the script of L ints xs at the cell b, what the Statement gives of the start (any of its parts by flat_of_before) -/
def lw_At (p : Program) (s : State) (m : MethodId) (meth : Method) (c : Code) (b L : Nat) (xs : Nat → Int32) : Prop :=
  p.tables.exec = Jvm.exec ∧ c.code = code ∧ meth.sig.returnType = ret ∧ c.maxLocals = 4 ∧ s.vm.findClass R_law = some m.cls ∧ (∀ w ∈ lw_tbl, w.before #[Value.ref b] s = true) ∧ va_X b L xs s s.heap ∧ b < s.heap.size ∧ meth.locks = false ∧ (Jvm.Cond.and given_1 narrow_1).before #[Value.ref b] s = true ∧ meth.name = x.name
/-- its class number and its places, of a class that can be made -/
theorem kn_of {s : State} {args : Array Value} (hg : ∀ w ∈ gtbl, w.before args s = true) {own : String} {idx ci : Nat} {fs : List Value} (f : Nw own idx ci fs) : ∃ y : ClassId × (Nat → Nat), ∀ q, kls[ci]? = some q → u_Kn s q.1 q.2.1 q.2.2 y.1 y.2 := by
  obtain ⟨C, T, N, ty, hc, hin, hty, c1, c2, c3, hdf, hlen, hnr⟩ := f
  obtain ⟨cC, iS, hk⟩ := u_known (C := C) (T := T) (N := N) (n := N) hg hin (hg _ c2)
  exact ⟨(cC, iS), fun q hq => by rw [hc] at hq; cases hq; exact hk⟩
theorem kn_all {s : State} {args : Array Value} (hg : ∀ w ∈ gtbl, w.before args s = true) : ∃ G : va_G, va_K G kls [] s := by
  have h : ∀ k : Nat, ∃ y : ClassId × (Nat → Nat), ∀ q, kls[k]? = some q → u_Kn s q.1 q.2.1 q.2.2 y.1 y.2 := by
    intro k
    match k with
    | 0 => exact kn_of hg nX9_53
    | 1 => exact kn_of hg nX9_60
    | 2 => exact kn_of hg nX9_46
    | 3 => exact kn_of hg nX9_25
    | 4 => exact kn_of hg nX9_67
    | 5 => exact kn_of hg nX9_18
    | 6 => exact kn_of hg nX9_32
    | 7 => exact kn_of hg nX9_39
    | 8 => exact kn_of hg nX9_7
    | 9 => exact kn_of hg nL_7
    | 10 => exact kn_of hg nL_10
    | k + 11 =>
      obtain ⟨y, -⟩ := kn_of hg nX9_53
      exact ⟨y, fun q hq => by simp [kls] at hq⟩
  obtain ⟨f, hf⟩ := Classical.axiomOfChoice h
  exact ⟨(fun k => (f k).1, fun k => (f k).2), fun k q hq => hf k q hq, fun k q hq => by simp at hq⟩
/-- the table of words, by place -/
theorem at_tbl {w : Cond} (i : Nat) (h : lw_tbl[i]? = some w) : w ∈ lw_tbl := List.mem_of_getElem? h
def ZL (B b : Nat) : ZT := fun args s below t => s.heap.size = B → args = #[.ref b] → lw_Z below args s t
theorem x_lwret {Γ : GX} {b cc cn : Nat} {lv : List Value} {h : Hp} {sz : Nat} (h1 : cc ≤ 212196) (h2 : cn ≤ 8465662) : Ex Γ mL_law (ZL Γ.2.2.1 b) cc cn 1295 lv [.int 1] h sz := by
  intro p e s m args below meth c F H locs ls hw hL hl
  by_cases hc : s.heap.size = Γ.2.2.1 ∧ args = #[.ref b]
  · obtain ⟨e1, rfl⟩ := hc
    have k := lw_ret (p := p) (l := Γ.1) (e := e) (s := s) (m := m) (below := below) (meth := meth) (c := c) (b := b) F.1 F.2.1 F.2.2.1 F.2.2.2.2.2.2.1 (pc := 1295) (H := H) (ls := ls) dL_law_1295.1
    have k2 := W.widen h1 h2 (va_forget (locs := locs) (fun q hq => by rw [e1]; exact hL q hq) k)
    intro T hT X
    obtain ⟨t, a1, a2⟩ := k2 T hT X
    exact ⟨t, a1, fun _ _ => a2⟩
  · intro T hT X
    exact ⟨_, Steps.refl _, fun e1 e2 => absurd ⟨e1, e2⟩ hc⟩
theorem lt8 {P : Nat → Prop} (h0 : P 0) (h1 : P 1) (h2 : P 2) (h3 : P 3) (h4 : P 4) (h5 : P 5) (h6 : P 6) (h7 : P 7) : ∀ p, p < 8 → P p := by
  intro p hp
  have : p = 0 ∨ p = 1 ∨ p = 2 ∨ p = 3 ∨ p = 4 ∨ p = 5 ∨ p = 6 ∨ p = 7 := by omega
  rcases this with rfl | rfl | rfl | rfl | rfl | rfl | rfl | rfl <;> assumption
theorem lt3 {P : Nat → Prop} (h0 : P 0) (h1 : P 1) (h2 : P 2) : ∀ p, p < 3 → P p := by
  intro p hp
  have : p = 0 ∨ p = 1 ∨ p = 2 := by omega
  rcases this with rfl | rfl | rfl <;> assumption
abbrev tOS : Term := Term.static "SoldWithIt$Stroke" "ONESELF" "[I"
abbrev tOG : Term := Term.string "SoldWithIt$Street" 52
abbrev tOV : Term := Term.field tOG "java/lang/String" "value" "[B"
/-- ONESELF at the start -/
theorem st_one {s : State} {b : Nat} {A : Nat → Prop} (hts : ∀ w ∈ lw_tbl, w.before #[Value.ref b] s = true) (hs : ∀ c ∈ flatC (Jvm.Cond.and given_1 narrow_1), c.before #[Value.ref b] s = true) (hA : ∀ a : Nat, a < s.heap.size → ¬ A a) : ∃ t : Nat, va_Z "SoldWithIt$Stroke" "ONESELF" "[I" (.ref t) A s s.heap ∧ va_T .int t 8 (fun j => .int (nI j)) A s s.heap := by
  obtain ⟨t, ht, hT⟩ := va_Tof (args := #[Value.ref b]) (tm := tOS) (ty := .int) (N := 8) (f := fun j => .int (nI j)) (A := A) (by decide) (hs (Cond.arrayOf tOS .int) (by decide +kernel)) (va_eqt (z := 8) (hs (Cond.eq (.length tOS) (.int 8)) (by decide +kernel)))
    (lt8 (va_eqt (z := 0) (hs (Cond.eq (.elem tOS (.int 0)) (.int 0)) (by decide +kernel))) (va_eqt (z := 1) (hs (Cond.eq (.elem tOS (.int 1)) (.int 1)) (by decide +kernel))) (va_eqt (z := 2) (hs (Cond.eq (.elem tOS (.int 2)) (.int 2)) (by decide +kernel))) (va_eqt (z := 3) (hs (Cond.eq (.elem tOS (.int 3)) (.int 3)) (by decide +kernel))) (va_eqt (z := 4) (hs (Cond.eq (.elem tOS (.int 4)) (.int 4)) (by decide +kernel))) (va_eqt (z := 5) (hs (Cond.eq (.elem tOS (.int 5)) (.int 5)) (by decide +kernel))) (va_eqt (z := 6) (hs (Cond.eq (.elem tOS (.int 6)) (.int 6)) (by decide +kernel))) (va_eqt (z := 7) (hs (Cond.eq (.elem tOS (.int 7)) (.int 7)) (by decide +kernel)))) hA
  exact ⟨t, va_Zof (hts _ (at_tbl 632 (by decide +kernel))) (hts _ (at_tbl 71 (by decide +kernel))) ht hA, hT⟩
/-- the text "ogl" at the start -/
theorem st_ogl {s : State} {b : Nat} {A : Nat → Prop} (hs : ∀ c ∈ flatC (Jvm.Cond.and given_1 narrow_1), c.before #[Value.ref b] s = true) (hA : ∀ a : Nat, a < s.heap.size → ¬ A a) : ∃ a v : Nat, tOG.eval #[Value.ref b] s none [] s = some (.ref a) ∧ va_O "java/lang/String" a A s s.heap ∧ va_OF "java/lang/String" "coder" "B" (.int 0) a A s s.heap ∧ va_OF "java/lang/String" "value" "[B" (.ref v) a A s s.heap ∧ va_T .byte v 3 (fun j => .int (if j = 0 then 111 else if j = 1 then 103 else 108)) A s s.heap := by
  have hex : (Cond.exactly tOG "java/lang/String").before #[Value.ref b] s = true := hs _ (by decide +kernel)
  obtain ⟨a, c, cA, kA, q1, q2, q3, q4, q5, q6, -⟩ := Cond.exactly_spec (args := #[Value.ref b]) (first := s) (o := none) (s := s) (idx := []) (t := tOG) (cls := "java/lang/String") hex
  obtain ⟨t, ht, hT⟩ := va_Tof (args := #[Value.ref b]) (tm := tOV) (ty := .byte) (N := 3) (f := fun j => .int (if j = 0 then 111 else if j = 1 then 103 else 108)) (A := A) (by decide) (hs (Cond.arrayOf tOV .byte) (by decide +kernel)) (va_eqt (z := 3) (hs (Cond.eq (.length tOV) (.int 3)) (by decide +kernel)))
    (lt3 (va_eqt (z := 111) (hs (Cond.eq (.elem tOV (.int 0)) (.int 111)) (by decide +kernel))) (va_eqt (z := 103) (hs (Cond.eq (.elem tOV (.int 1)) (.int 103)) (by decide +kernel))) (va_eqt (z := 108) (hs (Cond.eq (.elem tOV (.int 2)) (.int 108)) (by decide +kernel)))) hA
  exact ⟨a, t, q1, va_Oof hex q1 hA, vk_OFof q1 (va_eqt (hs (Cond.eq (.field tOG "java/lang/String" "coder" "B") (.int 0)) (by decide +kernel))) hA, vk_OFof q1 ht hA, hT⟩
/-- from the entry the law comes to its end with true -/
theorem whole_start {p : Program} {e : Env} {s : State} {m : MethodId} {below : List Frame} {meth : Method} {c : Code} (l : Launch) (hflags : l.flags = flags0) {b L : Nat} {xs : Nat → Int32} (hL : L ≤ 3072) (C0 : lw_At p s m meth c b L xs) : W p l e room_1 s m #[Value.ref b] below meth c s.heap [] 0 0 (lw_Z below #[Value.ref b] s) (entryFrame m ([Value.ref b] : List Value).toArray 4) := by
  obtain ⟨hx, hb, hr, hml, hown, hts, hX, hbl, hlocks, hgv, hname⟩ := C0
  have hA : ∀ a : Nat, a < s.heap.size → ¬ (fun q : Nat => s.heap.size ≤ q) a := fun a h => Nat.not_le.mpr h
  have hs := flat_of_before _ hgv
  have hg : ∀ w ∈ gtbl, w.before #[Value.ref b] s = true := fun w hw => hts w (List.mem_filter.mp hw).1
  obtain ⟨G, hK⟩ := kn_all hg
  obtain ⟨t1, hZ1, hT1⟩ := st_one hts hs hA
  obtain ⟨a, v, q1, hO, hC, hV, hT2⟩ := st_ogl hs hA
  have hZ2 : va_Z "java/lang/String" "COMPACT_STRINGS" "Z" (.int 1) (fun q : Nat => s.heap.size ≤ q) s s.heap := va_Zof (hts _ (at_tbl 446 (by decide +kernel))) (hts _ (at_tbl 78 (by decide +kernel))) (va_eqi (hs (Cond.eq (.static "java/lang/String" "COMPACT_STRINGS" "Z") (.int 1)) (by decide +kernel))) hA
  let Γ : GX := (l, G, s.heap.size, (fun k => if k = 0 then b else if k = 1 then t1 else if k = 2 then a else v), L, xs)
  have hS : gx_s Γ s := ⟨vk_R.of (A := #[Value.ref b]) (hts _ (at_tbl 432 (by decide +kernel))) q1, fun q hq => va_Nw.of rfl (hts _ (nlk_in q hq)), va_AO.of (hts _ (at_tbl 96 (by decide +kernel))), va_AO.of (hts _ (at_tbl 348 (by decide +kernel)))⟩
  have hW : gx_W Γ s s.heap (fun _ => none) 4 := ⟨hK, rfl, Nat.le_refl _, (fun k c hc => by cases hc), ⟨hX, hbl⟩, hZ1, hT1, hZ2, hO, hC, hV, hT2⟩
  have hF : gx_F Γ mL_law p s m #[Value.ref b] meth c := ⟨hx, hb, hr, hml, hown, hg, hlocks, hname, hS⟩
  have hl := lv_entry (([.ref 0] : List Value).map (gx_v Γ)) (n := 4) (Nat.le_of_ble_eq_true rfl)
  have k := law_go (Γ := Γ) (Z := ZL s.heap.size b) (fun cc cn lv h sz h1 h2 => x_lwret (Γ := Γ) h1 h2) hL p e s m #[Value.ref b] below meth c hF s.heap [] _ hW (fun q hq => by cases hq) ⟨hl.1, hl.2.1, fun i w hi hr => ?_⟩
  · rw [lg_entry_eq]
    intro T hT X
    obtain ⟨t, a1, a2⟩ := k T hT X
    exact ⟨t, a1, a2 rfl rfl⟩
  · match i with
    | 0 =>
      cases hi
      exact hl.2.2 (0, gx_v Γ (.ref 0)) (lent_in Γ [.ref 0] 0 0 (.ref 0) rfl hr)
    | 1 => cases hi; exact absurd rfl (hr 0)
    | 2 => cases hi; exact absurd rfl (hr 0)
    | 3 => cases hi; exact absurd rfl (hr 0)
    | i + 4 => simp at hi
set_option maxHeartbeats 4000000 in
theorem lw_walk (l : Launch) (hflags : l.flags = flags0) (b : Addr) (xs : List Int32) : MetFree l x (headSpec (Jvm.Cond.code x code maxLocals ret :: tables_1) room_1) (lw_P b xs) (fun _ _ _ _ _ => True) lw_Q := by
  refine MetFree.of_bodyS (code := code) (maxLocals := maxLocals) (ret := ret) (by decide) ?_ ?_
  · intro args s m h hn
    obtain ⟨meth, c, h1, h2, h3, h4, h5, h6, -, -⟩ := Cond.code_spec hn (atoms_spec (ws := Jvm.Cond.code x code maxLocals ret :: tables_1) h _ List.mem_cons_self)
    exact ⟨meth, c, h1, h2, h3, h4, h5, h6⟩
  · intro p e s m args below meth c s₁ B hml0 hP _
    obtain ⟨rfl, hx, hbd, hgv⟩ := hP
    obtain ⟨scr, harrAt, hlist, hof, hsmall⟩ := hx
    obtain ⟨hcb, hkn, -, -⟩ := State.arrayAt?_spec harrAt
    have hown : s.vm.findClass R_law = some m.cls := findClass_of_methodNamed B.named
    have hts0 : ∀ c ∈ (Jvm.Cond.code x code maxLocals ret :: tables_1), c.before #[Value.ref b] s = true := atoms_spec (ws := Jvm.Cond.code x code maxLocals ret :: tables_1) B.pre
    have hts : ∀ w ∈ lw_tbl, w.before #[Value.ref b] s = true := k2_hts_sels lw_privs (fun w hw => hts0 w (List.mem_cons_of_mem _ hw)) lw_privs_ok
    have hml : c.maxLocals = 4 := B.maxLocals_eq (hts0 _ List.mem_cons_self)
    have X₀ : Stand p l e room_1 s m #[Value.ref b] below meth c s₁ [] 0 0 := Stand.of_body B
    have hh0 : s₁.heap = s.heap := by rw [B.state]; rfl
    have hsz : scr.slots.size = xs.length := by rw [← Array.length_toList, hlist, List.length_map]
    have hval : ∀ j : Nat, j < xs.length → scr.slots[j]? = some (.int (xs.getD j 0)) := fun j hj => by
      rw [← Array.getElem?_toList, hlist]
      simp [hj]
    have hbl : b < s.heap.size := (Array.getElem?_eq_some_iff.mp hcb).1
    have hX : va_X b xs.length (fun j => xs.getD j 0) s s.heap := ⟨scr, hcb, hof, hkn, hsz, hval⟩
    have K : W p l e room_1 s m #[Value.ref b] below meth c s₁.heap [] 0 0 (lw_Z below #[Value.ref b] s) (entryFrame m ([Value.ref b] : List Value).toArray 4) := by
      rw [hh0]
      exact whole_start l hflags hbd ⟨B.exec, B.bytes, B.returns, hml, hown, hts, hX, hbl, B.notSynchronized, hgv, (name_of_methodNamed B.named B.method).1⟩
    obtain ⟨t, a1, o, b1, b2, b3⟩ := K s₁ rfl X₀
    exact ⟨t, o, a1, b1, b2, b3⟩
theorem lw_pre_spec {args : Array Value} {s : State} (h : (Jvm.Cond.and given_1 narrow_1).before args s = true) (hr : rest_1_c.before args s = true) : ∃ (b : Addr) (xs : List Int32), lw_P b xs args s := by
  have hs := flat_of_before _ h
  have hq := flat_of_before _ hr
  have hc : (Cond.count 1).before args s = true := hs _ (by decide +kernel)
  have harr : (Cond.arrayOf (.arg 0) .int).before args s = true := hs _ (by decide +kernel)
  have hle : (Cond.le (.length (.arg 0)) (.int 3072)).before args s = true := hs _ (by decide +kernel)
  have hlen : (Cond.isInt (.length (.arg 0))).before args s = true := hq _ (by decide +kernel)
  have hall : (Cond.all (.arg 0) (.isInt (.elem (.arg 0) (.index 0)))).before args s = true := hq _ (by decide +kernel)
  obtain ⟨b, xs, hb, hx⟩ := State.ints_of_pre rfl harr hlen hall
  have hsm : xs.length < 2 ^ 31 := hx.choose_spec.2.2.2
  have hev : (Term.length (.arg 0)).eval args s none [] s = some (.int xs.length.toInt32) := hx.length_eval hb
  have hv := Cond.le_ints hev (show (Term.int 3072).eval args s none [] s = some (.int 3072) from rfl)
  have hd : xs.length.toInt32 ≤ 3072 := by
    simpa [Cond.before, Cond.holds, hv] using hle
  have hN : xs.length ≤ 3072 := (Int32.ofNat_le_ofNat hsm (by decide)).mp (show Int32.ofNat xs.length ≤ Int32.ofNat 3072 from hd)
  exact ⟨b, xs, Cond.one_arg hc (show args[0]? = some (.ref b) from hb), hx, hN, h⟩
theorem lw_comes (l : Launch) (hflags : l.flags = flags0) : Comes l x (Jvm.Cond.code x code maxLocals ret :: tables_1) room_1 (fun tb e args s => Calls_1 tb e args s ∧ rest_1 tb e args s ∧ Pre_1 tb e args s)
    (fun _ _ args s o t => lw_Q args s o t) := by
  intro p e ha hc hk s m args below hf hfit hheap happ hpre
  obtain ⟨b, xs, hP⟩ := lw_pre_spec hpre.2.2 hpre.2.1
  obtain ⟨k, o, h1, h2, h3, hQ⟩ := lw_walk l hflags b xs p e ha hc hk s m args below hf ((Spec.applies_iff_loose hf).mp happ).1 hP trivial
  exact ⟨k, o, h1, h2, h3, hQ⟩
theorem lw_frame {s t : State} {o : Outcome} {args : Array Value} (h : Framed s o t [] 212196 8465662) :
    Framed s o t (fieldLocs frame_1_writes args s ++ arrayLocs frame_1_arrays args s ++ staticLocs frame_1_statics s) 212196 8465662 := h
theorem lw_limb (L : Cond) (hL : ∀ (args : Array Value) (s t : State), L.after args s (.returned (some (.int 1))) t = true) :
    ArmFor flags0 classFile x code maxLocals ret World_1 tables_1 room_1 Calls_1 rest_1 Pre_1
      (fun tb e a s o t => postC L tb e a s o t ∧ Framed s o t (fieldLocs frame_1_writes a s ++ arrayLocs frame_1_arrays a s ++ staticLocs frame_1_statics s) 212196 8465662) := by
  intro l hflags _ _ p e ha hc hk s m args below hf hfit hheap happ hpre
  obtain ⟨k, o, h1, h2, h3, rfl, hF⟩ := lw_comes l hflags p e ha hc hk s m args below hf hfit hheap happ hpre
  exact ⟨k, _, h1, h2, h3, hL args s _, lw_frame hF⟩
theorem i_vc : Claimed_1_1 ∧ Claimed_1_2 := ⟨lw_limb limb_1_1 (fun args s t => by simp [limb_1_1, Cond.after, Cond.holds, Cond.value]), lw_limb limb_1_2 (fun args s t => Cond.after_iff.mpr (by
  first | (rw [show limb_1_2 = Cond.eq .result (.int 1) from rfl, Cond.eq_ints (x := 1) (y := 1) rfl rfl]; simp; done) | (simp [limb_1_2, Cond.value, Term.eval]; done)))⟩
