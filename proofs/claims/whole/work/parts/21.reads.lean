theorem fauH_stop {n i : Nat} {b : Nat → Int32} (hn : n ≤ 30) (hi : i ≤ n) (h : ∀ j, j < i → badH b j = false) (hb : i < n → badH b i = true) (he : i = n → n ≠ 0 ∧ n % 3 ≠ 2) : fauH n b = nI i ∧ hN n b = 0 := by
  have e : fauH n b = nI i := by
    by_cases q : i < n
    · exact fauH_at q h (hb q)
    · have q : i = n := by omega
      subst q
      rw [fauH_end h, if_neg]
      intro z
      rcases z with z | z
      · exact (he rfl).1 z
      · exact (he rfl).2 z
  exact ⟨e, by rw [hN, e, if_neg (nI_nm1 (by omega))]⟩
theorem fauP_stop {n i : Nat} {b : Nat → Int32} (hn : n ≤ 30) (hi : i ≤ n) (h : ∀ j, j < i → badP b j = false) (hb : i < n → badP b i = true) (he : i = n → n % 2 ≠ 0) : fauP n b = nI i ∧ pN n b = 0 := by
  have e : fauP n b = nI i := by
    by_cases q : i < n
    · exact fauP_at q h (hb q)
    · have q : i = n := by omega
      subst q
      rw [fauP_end h, if_neg (he rfl)]
  exact ⟨e, by rw [pN, e, if_neg (nI_nm1 (by omega))]⟩
def byt (n : Nat) (f : Nat → Int32) (k : Nat) : Int32 := if k < n then f k else -1
theorem byt_0 {n : Nat} {b : Nat → Int32} {i : Nat} (h3 : i % 3 = 0) (h24 : i ≠ 24) : (48 ≤ byt n b i ∧ byt n b i ≤ 55) ↔ (i < n ∧ badH b i = false) := by
  unfold byt
  by_cases h : i < n
  · simp [h, badH, fitH, h3, h24]
  · simp [h]
theorem byt_1 {n : Nat} {b : Nat → Int32} {i : Nat} (h3 : i % 3 = 1) : (48 ≤ byt n b i ∧ byt n b i ≤ 57) ↔ (i < n ∧ badH b i = false) := by
  have h24 : i ≠ 24 := by omega
  unfold byt
  by_cases h : i < n
  · simp [h, badH, fitH, h3, h24]
  · simp [h]
theorem byt_2 {n : Nat} {b : Nat → Int32} {i : Nat} (h3 : i % 3 = 2) : byt n b i = 59 ↔ (i < n ∧ badH b i = false) := by
  have h24 : i ≠ 24 := by omega
  unfold byt
  by_cases h : i < n
  · simp [h, badH, fitH, h3, h24]
  · simp [h]
theorem byt_k {n : Nat} {b : Nat → Int32} {i : Nat} (h3 : i % 2 = 0) (h24 : i ≠ 16) (hi : i < n) : (b i = 111 ∨ b i = 103 ∨ b i = 108) ↔ badP b i = false := by
  simp [badP, fitP, h3, h24]
  rw [Decidable.or_iff_not_imp_left, Decidable.or_iff_not_imp_left]
theorem byt_w {n : Nat} {b : Nat → Int32} {i : Nat} (h3 : i % 2 = 1) : (byt n b i = 45 ∨ (48 ≤ byt n b i ∧ byt n b i ≤ 55)) ↔ (i < n ∧ badP b i = false) := by
  have h24 : i ≠ 16 := by omega
  unfold byt
  by_cases h : i < n
  · simp [h, badP, fitP, h3, h24]
    rw [Decidable.or_iff_not_imp_left]
  · simp [h]
theorem filG_id (f g : Nat → Int32) (k : Nat) {v : Int32} (h : v = g k) : upd (filG f g k) k v = filG f g (k + 1) := by rw [h, filG_s]
/-- where one is, as the reference has it before the houses are counted -/
def plR (x : Int32) : Int32 := if x = 45 then -1 else x - 48
theorem plR_sp {b : Nat → Int32} {i H : Nat} (h : badP b i = false) (h3 : i % 2 = 1) (hH : H ≤ 8) : (if plR (b i) < nI H then plR (b i) else -1) = spF H (b i) - 1 := by
  have h24 : i ≠ 16 := by omega
  simp [badP, fitP, h3, h24] at h
  unfold plR spF
  by_cases e : b i = 45
  · rw [e]
    have h1 : ¬ (0 ≤ (45 : Int32) - 48 ∧ (45 : Int32) - 48 < nI H) := fun q => absurd q.1 (by decide)
    rw [if_neg h1]
    have h2 : (if (45 : Int32) = 45 then (-1 : Int32) else 45 - 48) = -1 := rfl
    rw [h2]
    split <;> rfl
  · have h2 := h e
    obtain ⟨q, hq, eq⟩ := dig48 (M := 55) (n := 55) rfl (by decide) h2.1 h2.2
    rw [if_neg e, eq]
    by_cases z : nI q < nI H
    · rw [if_pos z, if_pos ⟨nI_pos' (by omega), z⟩, nI_1, nI_pred]
    · rw [if_neg z, if_neg (fun w => z w.2)]; rfl
section Reads
variable {Γ : GX} {h : Hp} {sz : Nat} {hs pe sa ll fa fi : Int32}
theorem x_incn {M : MI} {Z : ZT} {cc cn pc pc' : Nat} {lv st : List Value} {i p m : Nat} (d : Dc M.2.1 pc (.iinc i (m : Int)) 3 pc') (hi : lv[i]? = some (.int (nI p))) (hn : i < M.2.2.1) (hc : lcat lv i = true) (k : Ex Γ M Z cc cn pc' (lv.set i (.int (nI (p + m)))) st h sz) : Ex Γ M Z cc cn pc lv st h sz := by
  rw [← nI_add] at k
  exact x_iinc (v := nI m) d hi (by rfl) hn hc k
theorem r_byte0 {k n : Nat} {ty tx : Nat → Int32} (h57 : h 57 = cM hs pe sa ll fa fi) (h58 : h 58 = ia 2 ty) (h59 : h 59 = ia 60 tx) (hn : ty 0 = nI n) (hn2 : n ≤ 30) (hk : k < 100) : Re Γ mX10_byteAt [.ref 57, .int 0, .int (nI k)] h sz (some (.int (byt n tx k))) h sz := by
  have := r_byteAt (Γ := Γ) (sz := sz) (t := 0) h57 h58 h59 (by decide) hn hn2 hk
  simp only [Nat.mul_zero, Nat.zero_add] at this
  exact this
theorem r_byte1 {k n : Nat} {ty tx : Nat → Int32} (h57 : h 57 = cM hs pe sa ll fa fi) (h58 : h 58 = ia 2 ty) (h59 : h 59 = ia 60 tx) (hn : ty 1 = nI n) (hn2 : n ≤ 30) (hk : k < 100) : Re Γ mX10_byteAt [.ref 57, .int 1, .int (nI k)] h sz (some (.int (byt n (fun i => tx (30 + i)) k))) h sz := by
  have := r_byteAt (Γ := Γ) (sz := sz) (t := 1) h57 h58 h59 (by decide) hn hn2 hk
  exact this
def qRH (h : Hp) (sz : Nat) (pe sa ll fa fi : Int32) (n : Nat) (tx : Nat → Int32) : QT := fun r h' sz' => r = some (.int (fauH n tx)) ∧ sz = sz' ∧ ∃ ow pr : Nat → Int32, h' = va_up (va_up (va_up h 57 (cM (nI (hN n tx)) pe sa ll fa fi)) 60 (ia 9 ow)) 61 (ia 9 pr) ∧ ∀ i, i < hN n tx → ow i = tx (3 * i) - 48 ∧ pr i = tx (3 * i + 1) - 48
theorem r_readsHouses {n : Nat} {ty tx ow0 pr0 : Nat → Int32} (h57 : h 57 = cM hs pe sa ll fa fi) (h58 : h 58 = ia 2 ty) (h59 : h 59 = ia 60 tx) (h60 : h 60 = ia 9 ow0) (h61 : h 61 = ia 9 pr0) (hn : ty 0 = nI n) (hn2 : n ≤ 30) : Rn Γ mX10_readsHouses [.ref 57] h sz (qRH h sz pe sa ll fa fi n tx) := by
  refine x_enter 2 (by decide) rfl ?_
  refine x_aload dX10_readsHouses_0 rfl ?_
  refine x_k dX10_readsHouses_1 ?_
  refine x_put fX10_96 tt10 gX10_96 dX10_readsHouses_2 (by first | assumption | rfl) (Nat.le_of_ble_eq_true rfl) (w10_2 _) ?_
  refine x_k dX10_readsHouses_5 ?_
  refine x_istore dX10_readsHouses_6 (Nat.le_of_ble_eq_true rfl) rfl ?_
  refine x_k dX10_readsHouses_7 ?_
  refine x_istore dX10_readsHouses_8 (Nat.le_of_ble_eq_true rfl) rfl ?_
  have hz : va_up h 57 (cM 0 pe sa ll fa fi) = va_up (va_up (va_up h 57 (cM 0 pe sa ll fa fi)) 60 (ia 9 (filG ow0 (fun i => tx (3 * i) - 48) 0))) 61 (ia 9 (filG pr0 (fun i => tx (3 * i + 1) - 48) 0)) := by
    rw [filG_0, filG_0]; exact (by funext j; simp only [va_up]; (repeat' split) <;> first | rfl | omega | simp_all)
  have hstop : ∀ (i k : Nat), i ≤ n → (∀ j, j < i → badH tx j = false) → (i < n → badH tx i = true) → (i = n → n ≠ 0 ∧ n % 3 ≠ 2) → qRH h sz pe sa ll fa fi n tx (some (.int (nI i))) (va_up (va_up (va_up h 57 (cM 0 pe sa ll fa fi)) 60 (ia 9 (filG ow0 (fun i => tx (3 * i) - 48) k))) 61 (ia 9 (filG pr0 (fun i => tx (3 * i + 1) - 48) k))) sz := by
    intro i k h1 h2 h3 h4
    obtain ⟨e1, e2⟩ := fauH_stop hn2 h1 h2 h3 h4
    exact ⟨by rw [e1], rfl, _, _, by rw [e2]; rfl, fun i hi => by omega⟩
  refine x_eq rfl rfl hz (loopUp (P := fun k => 3 * k ≤ n → (∀ j, j < 3 * k → badH tx j = false) → Ex Γ mX10_readsHouses _ 0 0 9 [.ref 57, .int (nI k), .int (nI (3 * k))] [] (va_up (va_up (va_up h 57 (cM 0 pe sa ll fa fi)) 60 (ia 9 (filG ow0 (fun i => tx (3 * i) - 48) k))) 61 (ia 9 (filG pr0 (fun i => tx (3 * i + 1) - 48) k))) sz) 8 ?_ (fun k hk ih => ?_) 0 (Nat.zero_le _) (Nat.zero_le _) (fun j hj => absurd hj (Nat.not_lt_zero _)))
  · intro hle hno
    refine x_iload dX10_readsHouses_9 rfl ?_
    refine x_aload dX10_readsHouses_10 rfl ?_
    refine x_get fX10_7 dX10_readsHouses_11 (by first | assumption | rfl) ?_
    refine x_k dX10_readsHouses_14 ?_
    refine x_ialdn (k := 0) dX10_readsHouses_15 (by first | assumption | rfl) ⟨by first | omega | decide, by decide⟩ ?_
    refine x_icmp_lt dX10_readsHouses_16 (fun b16 => ?_) (fun b16 => ?_)
    · refine x_iload dX10_readsHouses_23 rfl ?_
      refine x_k dX10_readsHouses_24 ?_
      refine x_icmp_eq dX10_readsHouses_26 (fun b26 => ?_) (fun b26 => ?_)
      · refine x_iload dX10_readsHouses_45 rfl ?_
        refine x_iret (ty := .int) dX10_readsHouses_46 rfl rfl (Nat.zero_le _) (Nat.zero_le _) ?_
        exact hstop 24 8 hle hno (fun _ => by simp [badH]) (fun e => by omega)
      · exact absurd rfl b26
    · refine x_iload dX10_readsHouses_19 rfl ?_
      refine x_if_le dX10_readsHouses_20 (fun b20 => ?_) (fun b20 => ?_)
      · exact absurd b20 (by decide)
      · refine x_iload dX10_readsHouses_23 rfl ?_
        refine x_k dX10_readsHouses_24 ?_
        refine x_icmp_eq dX10_readsHouses_26 (fun b26 => ?_) (fun b26 => ?_)
        · refine x_iload dX10_readsHouses_45 rfl ?_
          refine x_iret (ty := .int) dX10_readsHouses_46 rfl rfl (Nat.zero_le _) (Nat.zero_le _) ?_
          exact hstop 24 8 hle hno (fun _ => by simp [badH]) (fun e => by omega)
        · exact absurd rfl b26
  · intro hle hno
    have e8 : nI k = 8 ↔ k = 8 := nI_eq (b := 8) (by omega) (by decide)
    have el : nI (3 * k) < nI n ↔ 3 * k < n := nI_ltI (by omega) (by omega)
    have ez : nI (3 * k) ≤ 0 ↔ 3 * k ≤ 0 := nI_leI (b := 0) (by omega) (by decide)
    have q0 := byt_0 (n := n) (b := tx) (i := 3 * k) (by omega) (by omega)
    have q1 := byt_1 (n := n) (b := tx) (i := 3 * k + 1) (by omega)
    have q2 := byt_2 (n := n) (b := tx) (i := 3 * k + 2) (by omega)
    have en : nI (3 * k + 2) = nI n ↔ 3 * k + 2 = n := nI_eq (by omega) (by omega)
    have hpos : nI (3 * k) < nI n ∨ ¬ nI (3 * k) ≤ 0 → n ≠ 0 := by rw [el, ez]; omega
    refine x_iload dX10_readsHouses_9 rfl ?_
    refine x_aload dX10_readsHouses_10 rfl ?_
    refine x_get fX10_7 dX10_readsHouses_11 (by first | assumption | rfl) ?_
    refine x_k dX10_readsHouses_14 ?_
    refine x_ialdn (k := 0) dX10_readsHouses_15 (by first | assumption | rfl) ⟨by first | omega | decide, by decide⟩ ?_
    refine x_icmp_lt dX10_readsHouses_16 (fun b16 => ?_) (fun b16 => ?_)
    · refine x_iload dX10_readsHouses_23 rfl ?_
      refine x_k dX10_readsHouses_24 ?_
      refine x_icmp_eq dX10_readsHouses_26 (fun b26 => ?_) (fun b26 => ?_)
      · exact absurd (e8.mp b26) (by omega)
      · refine x_aload dX10_readsHouses_29 rfl ?_
        refine x_k dX10_readsHouses_30 ?_
        refine x_iload dX10_readsHouses_31 rfl ?_
        refine x_V2i lX10_100 (Rm.of rfl) (cc1 := 0) (cn1 := 0) rfl rfl (Nat.le_of_ble_eq_true rfl) dX10_readsHouses_32 (by first | assumption | rfl) (r_byte0 rfl h58 h59 hn hn2 (by omega)) ?_
        refine x_k dX10_readsHouses_35 ?_
        refine x_k dX10_readsHouses_37 ?_
        refine x_S3i lX10_92 (Rm.of rfl) (cc1 := 0) (cn1 := 0) rfl rfl (Nat.le_of_ble_eq_true rfl) dX10_readsHouses_39 (r_in _ _ _) ?_
        refine x_if_ne dX10_readsHouses_42 (fun b42 => ?_) (fun b42 => ?_)
        · try simp only [i01, Classical.not_not] at b42
          refine x_aload dX10_readsHouses_47 rfl ?_
          refine x_k dX10_readsHouses_48 ?_
          refine x_iload dX10_readsHouses_49 rfl ?_
          refine x_k dX10_readsHouses_50 ?_
          refine x_iadd dX10_readsHouses_51 ?_
          refine x_V2i lX10_100 (Rm.of rfl) (cc1 := 0) (cn1 := 0) rfl rfl (Nat.le_of_ble_eq_true rfl) dX10_readsHouses_52 (by first | assumption | rfl) (by rw [nI_1]; exact r_byte0 rfl h58 h59 hn hn2 (by omega)) ?_
          refine x_k dX10_readsHouses_55 ?_
          refine x_k dX10_readsHouses_57 ?_
          refine x_S3i lX10_92 (Rm.of rfl) (cc1 := 0) (cn1 := 0) rfl rfl (Nat.le_of_ble_eq_true rfl) dX10_readsHouses_59 (r_in _ _ _) ?_
          refine x_if_ne dX10_readsHouses_62 (fun b62 => ?_) (fun b62 => ?_)
          · try simp only [i01, Classical.not_not] at b62
            refine x_aload dX10_readsHouses_69 rfl ?_
            refine x_get fX10_16 dX10_readsHouses_70 (by first | assumption | rfl) ?_
            refine x_iload dX10_readsHouses_73 rfl ?_
            refine x_aload dX10_readsHouses_74 rfl ?_
            refine x_k dX10_readsHouses_75 ?_
            refine x_iload dX10_readsHouses_76 rfl ?_
            refine x_V2i lX10_100 (Rm.of rfl) (cc1 := 0) (cn1 := 0) rfl rfl (Nat.le_of_ble_eq_true rfl) dX10_readsHouses_77 (by first | assumption | rfl) (r_byte0 rfl h58 h59 hn hn2 (by omega)) ?_
            refine x_k dX10_readsHouses_80 ?_
            refine x_isub dX10_readsHouses_82 ?_
            refine x_iastn dX10_readsHouses_83 (by first | assumption | rfl) ⟨by first | omega | decide, by decide⟩ ?_
            refine x_aload dX10_readsHouses_84 rfl ?_
            refine x_get fX10_19 dX10_readsHouses_85 (by first | assumption | rfl) ?_
            refine x_iload dX10_readsHouses_88 rfl ?_
            refine x_aload dX10_readsHouses_89 rfl ?_
            refine x_k dX10_readsHouses_90 ?_
            refine x_iload dX10_readsHouses_91 rfl ?_
            refine x_k dX10_readsHouses_92 ?_
            refine x_iadd dX10_readsHouses_93 ?_
            refine x_V2i lX10_100 (Rm.of rfl) (cc1 := 0) (cn1 := 0) rfl rfl (Nat.le_of_ble_eq_true rfl) dX10_readsHouses_94 (by first | assumption | rfl) (by rw [nI_1]; exact r_byte0 rfl h58 h59 hn hn2 (by omega)) ?_
            refine x_k dX10_readsHouses_97 ?_
            refine x_isub dX10_readsHouses_99 ?_
            refine x_iastn dX10_readsHouses_100 (by first | assumption | rfl) ⟨by first | omega | decide, by decide⟩ ?_
            refine x_inc1 dX10_readsHouses_101 rfl (Nat.le_of_ble_eq_true rfl) rfl ?_
            refine x_incn (m := 2) dX10_readsHouses_104 rfl (Nat.le_of_ble_eq_true rfl) rfl ?_
            rw [q0] at b42
            rw [q1] at b62
            have v0 : byt n tx (3 * k) - 48 = tx (3 * k) - 48 := by rw [byt, if_pos b42.1]
            have v1 : byt n tx (3 * k + 1) - 48 = tx (3 * k + 1) - 48 := by rw [byt, if_pos b62.1]
            refine x_eq rfl rfl (show _ = va_up (va_up (va_up h 57 (cM 0 pe sa ll fa fi)) 60 (ia 9 (filG ow0 (fun i => tx (3 * i) - 48) (k + 1)))) 61 (ia 9 (filG pr0 (fun i => tx (3 * i + 1) - 48) (k + 1))) by rw [filG_id _ (fun i => tx (3 * i) - 48) _ v0, filG_id _ (fun i => tx (3 * i + 1) - 48) _ v1]; exact (by funext j; simp only [va_up]; (repeat' split) <;> first | rfl | omega | simp_all)) ?_
            refine x_iload dX10_readsHouses_107 rfl ?_
            refine x_aload dX10_readsHouses_108 rfl ?_
            refine x_get fX10_7 dX10_readsHouses_109 (by first | assumption | rfl) ?_
            refine x_k dX10_readsHouses_112 ?_
            refine x_ialdn (k := 0) dX10_readsHouses_113 (by first | assumption | rfl) ⟨by first | omega | decide, by decide⟩ ?_
            refine x_icmp_ne dX10_readsHouses_114 (fun b114 => ?_) (fun b114 => ?_)
            · refine x_aload dX10_readsHouses_124 rfl ?_
              refine x_k dX10_readsHouses_125 ?_
              refine x_iload dX10_readsHouses_126 rfl ?_
              refine x_V2i lX10_100 (Rm.of rfl) (cc1 := 0) (cn1 := 0) rfl rfl (Nat.le_of_ble_eq_true rfl) dX10_readsHouses_127 (by first | assumption | rfl) (r_byte0 rfl h58 h59 hn hn2 (by omega)) ?_
              refine x_k dX10_readsHouses_130 ?_
              refine x_icmp_eq dX10_readsHouses_132 (fun b132 => ?_) (fun b132 => ?_)
              · refine x_inc1 dX10_readsHouses_137 rfl (Nat.le_of_ble_eq_true rfl) rfl ?_
                refine x_goto dX10_readsHouses_140 ?_
                rw [hn, en] at b114
                rw [q2] at b132
                refine x_eq rfl rfl rfl (ih (by omega) (fun j hj => by
                  have hj3 : j < 3 * k ∨ j = 3 * k ∨ j = 3 * k + 1 ∨ j = 3 * k + 2 := by omega
                  rcases hj3 with q | q | q | q
                  · exact hno j q
                  · rw [q]; exact b42.2
                  · rw [q]; exact b62.2
                  · rw [q]; exact b132.2))
              · refine x_iload dX10_readsHouses_135 rfl ?_
                refine x_iret (ty := .int) dX10_readsHouses_136 rfl rfl (Nat.zero_le _) (Nat.zero_le _) ?_
                rw [hn, en] at b114
                rw [q2] at b132
                exact hstop (3 * k + 2) (k + 1) (by omega) (fun j hj => by
                  have hj3 : j < 3 * k ∨ j = 3 * k ∨ j = 3 * k + 1 := by omega
                  rcases hj3 with q | q | q
                  · exact hno j q
                  · rw [q]; exact b42.2
                  · rw [q]; exact b62.2) (fun q => by cases hb : badH tx (3 * k + 2) with | false => exact absurd ⟨q, hb⟩ b132 | true => rfl) (fun e => absurd e b114)
            · refine x_aload dX10_readsHouses_117 rfl ?_
              refine x_iload dX10_readsHouses_118 rfl ?_
              refine x_put fX10_96 tt10 gX10_96 dX10_readsHouses_119 (by first | assumption | rfl) (Nat.le_of_ble_eq_true rfl) (w10_2 _) ?_
              refine x_k dX10_readsHouses_122 ?_
              refine x_iret (ty := .int) dX10_readsHouses_123 rfl rfl (Nat.zero_le _) (Nat.zero_le _) ?_
              rw [Classical.not_not, hn, en] at b114
              have hall : ∀ j, j < n → badH tx j = false := fun j hj => by
                have hj3 : j < 3 * k ∨ j = 3 * k ∨ j = 3 * k + 1 := by omega
                rcases hj3 with q | q | q
                · exact hno j q
                · rw [q]; exact b42.2
                · rw [q]; exact b62.2
              have ef : fauH n tx = -1 := by rw [fauH_end hall, if_pos (Or.inr (by omega))]
              have eh : hN n tx = k + 1 := by rw [hN, if_pos ef]; omega
              exact ⟨by rw [ef], rfl, _, _, by rw [eh]; exact (by funext j; simp only [va_up]; (repeat' split) <;> first | rfl | omega | simp_all), fun i hi => by rw [eh] at hi; exact ⟨filG_lt hi, filG_lt hi⟩⟩
          · try simp only [i01, Classical.not_not] at b62
            refine x_iload dX10_readsHouses_65 rfl ?_
            refine x_k dX10_readsHouses_66 ?_
            refine x_iadd dX10_readsHouses_67 ?_
            refine x_iret (ty := .int) dX10_readsHouses_68 rfl rfl (Nat.zero_le _) (Nat.zero_le _) ?_
            rw [q0] at b42
            rw [q1] at b62
            rw [nI_1]
            exact hstop (3 * k + 1) k (by omega) (fun j hj => (Nat.lt_succ_iff_lt_or_eq.mp hj).elim (hno j) (fun q => by rw [q]; exact b42.2)) (fun q => by cases hb : badH tx (3 * k + 1) with | false => exact absurd ⟨q, hb⟩ b62 | true => rfl) (fun e => ⟨by omega, by omega⟩)
        · try simp only [i01, Classical.not_not] at b42
          refine x_iload dX10_readsHouses_45 rfl ?_
          refine x_iret (ty := .int) dX10_readsHouses_46 rfl rfl (Nat.zero_le _) (Nat.zero_le _) ?_
          rw [q0] at b42
          exact hstop (3 * k) k hle hno (fun q => by cases hb : badH tx (3 * k) with | false => exact absurd ⟨q, hb⟩ b42 | true => rfl) (fun e => ⟨hpos (by rw [hn] at b16; first | exact Or.inl b16 | exact Or.inr b20), by omega⟩)
    · refine x_iload dX10_readsHouses_19 rfl ?_
      refine x_if_le dX10_readsHouses_20 (fun b20 => ?_) (fun b20 => ?_)
      · refine x_k dX10_readsHouses_143 ?_
        refine x_iret (ty := .int) dX10_readsHouses_144 rfl rfl (Nat.zero_le _) (Nat.zero_le _) ?_
        have h0 : k = 0 := by rw [ez] at b20; omega
        have h1 : n = 0 := by rw [hn, el] at b16; omega
        subst h0; subst h1
        exact ⟨rfl, rfl, _, _, rfl, fun i hi => absurd hi (Nat.not_lt_zero _)⟩
      · refine x_iload dX10_readsHouses_23 rfl ?_
        refine x_k dX10_readsHouses_24 ?_
        refine x_icmp_eq dX10_readsHouses_26 (fun b26 => ?_) (fun b26 => ?_)
        · exact absurd (e8.mp b26) (by omega)
        · refine x_aload dX10_readsHouses_29 rfl ?_
          refine x_k dX10_readsHouses_30 ?_
          refine x_iload dX10_readsHouses_31 rfl ?_
          refine x_V2i lX10_100 (Rm.of rfl) (cc1 := 0) (cn1 := 0) rfl rfl (Nat.le_of_ble_eq_true rfl) dX10_readsHouses_32 (by first | assumption | rfl) (r_byte0 rfl h58 h59 hn hn2 (by omega)) ?_
          refine x_k dX10_readsHouses_35 ?_
          refine x_k dX10_readsHouses_37 ?_
          refine x_S3i lX10_92 (Rm.of rfl) (cc1 := 0) (cn1 := 0) rfl rfl (Nat.le_of_ble_eq_true rfl) dX10_readsHouses_39 (r_in _ _ _) ?_
          refine x_if_ne dX10_readsHouses_42 (fun b42 => ?_) (fun b42 => ?_)
          · try simp only [i01, Classical.not_not] at b42
            refine x_aload dX10_readsHouses_47 rfl ?_
            refine x_k dX10_readsHouses_48 ?_
            refine x_iload dX10_readsHouses_49 rfl ?_
            refine x_k dX10_readsHouses_50 ?_
            refine x_iadd dX10_readsHouses_51 ?_
            refine x_V2i lX10_100 (Rm.of rfl) (cc1 := 0) (cn1 := 0) rfl rfl (Nat.le_of_ble_eq_true rfl) dX10_readsHouses_52 (by first | assumption | rfl) (by rw [nI_1]; exact r_byte0 rfl h58 h59 hn hn2 (by omega)) ?_
            refine x_k dX10_readsHouses_55 ?_
            refine x_k dX10_readsHouses_57 ?_
            refine x_S3i lX10_92 (Rm.of rfl) (cc1 := 0) (cn1 := 0) rfl rfl (Nat.le_of_ble_eq_true rfl) dX10_readsHouses_59 (r_in _ _ _) ?_
            refine x_if_ne dX10_readsHouses_62 (fun b62 => ?_) (fun b62 => ?_)
            · try simp only [i01, Classical.not_not] at b62
              refine x_aload dX10_readsHouses_69 rfl ?_
              refine x_get fX10_16 dX10_readsHouses_70 (by first | assumption | rfl) ?_
              refine x_iload dX10_readsHouses_73 rfl ?_
              refine x_aload dX10_readsHouses_74 rfl ?_
              refine x_k dX10_readsHouses_75 ?_
              refine x_iload dX10_readsHouses_76 rfl ?_
              refine x_V2i lX10_100 (Rm.of rfl) (cc1 := 0) (cn1 := 0) rfl rfl (Nat.le_of_ble_eq_true rfl) dX10_readsHouses_77 (by first | assumption | rfl) (r_byte0 rfl h58 h59 hn hn2 (by omega)) ?_
              refine x_k dX10_readsHouses_80 ?_
              refine x_isub dX10_readsHouses_82 ?_
              refine x_iastn dX10_readsHouses_83 (by first | assumption | rfl) ⟨by first | omega | decide, by decide⟩ ?_
              refine x_aload dX10_readsHouses_84 rfl ?_
              refine x_get fX10_19 dX10_readsHouses_85 (by first | assumption | rfl) ?_
              refine x_iload dX10_readsHouses_88 rfl ?_
              refine x_aload dX10_readsHouses_89 rfl ?_
              refine x_k dX10_readsHouses_90 ?_
              refine x_iload dX10_readsHouses_91 rfl ?_
              refine x_k dX10_readsHouses_92 ?_
              refine x_iadd dX10_readsHouses_93 ?_
              refine x_V2i lX10_100 (Rm.of rfl) (cc1 := 0) (cn1 := 0) rfl rfl (Nat.le_of_ble_eq_true rfl) dX10_readsHouses_94 (by first | assumption | rfl) (by rw [nI_1]; exact r_byte0 rfl h58 h59 hn hn2 (by omega)) ?_
              refine x_k dX10_readsHouses_97 ?_
              refine x_isub dX10_readsHouses_99 ?_
              refine x_iastn dX10_readsHouses_100 (by first | assumption | rfl) ⟨by first | omega | decide, by decide⟩ ?_
              refine x_inc1 dX10_readsHouses_101 rfl (Nat.le_of_ble_eq_true rfl) rfl ?_
              refine x_incn (m := 2) dX10_readsHouses_104 rfl (Nat.le_of_ble_eq_true rfl) rfl ?_
              rw [q0] at b42
              rw [q1] at b62
              have v0 : byt n tx (3 * k) - 48 = tx (3 * k) - 48 := by rw [byt, if_pos b42.1]
              have v1 : byt n tx (3 * k + 1) - 48 = tx (3 * k + 1) - 48 := by rw [byt, if_pos b62.1]
              refine x_eq rfl rfl (show _ = va_up (va_up (va_up h 57 (cM 0 pe sa ll fa fi)) 60 (ia 9 (filG ow0 (fun i => tx (3 * i) - 48) (k + 1)))) 61 (ia 9 (filG pr0 (fun i => tx (3 * i + 1) - 48) (k + 1))) by rw [filG_id _ (fun i => tx (3 * i) - 48) _ v0, filG_id _ (fun i => tx (3 * i + 1) - 48) _ v1]; exact (by funext j; simp only [va_up]; (repeat' split) <;> first | rfl | omega | simp_all)) ?_
              refine x_iload dX10_readsHouses_107 rfl ?_
              refine x_aload dX10_readsHouses_108 rfl ?_
              refine x_get fX10_7 dX10_readsHouses_109 (by first | assumption | rfl) ?_
              refine x_k dX10_readsHouses_112 ?_
              refine x_ialdn (k := 0) dX10_readsHouses_113 (by first | assumption | rfl) ⟨by first | omega | decide, by decide⟩ ?_
              refine x_icmp_ne dX10_readsHouses_114 (fun b114 => ?_) (fun b114 => ?_)
              · refine x_aload dX10_readsHouses_124 rfl ?_
                refine x_k dX10_readsHouses_125 ?_
                refine x_iload dX10_readsHouses_126 rfl ?_
                refine x_V2i lX10_100 (Rm.of rfl) (cc1 := 0) (cn1 := 0) rfl rfl (Nat.le_of_ble_eq_true rfl) dX10_readsHouses_127 (by first | assumption | rfl) (r_byte0 rfl h58 h59 hn hn2 (by omega)) ?_
                refine x_k dX10_readsHouses_130 ?_
                refine x_icmp_eq dX10_readsHouses_132 (fun b132 => ?_) (fun b132 => ?_)
                · refine x_inc1 dX10_readsHouses_137 rfl (Nat.le_of_ble_eq_true rfl) rfl ?_
                  refine x_goto dX10_readsHouses_140 ?_
                  rw [hn, en] at b114
                  rw [q2] at b132
                  refine x_eq rfl rfl rfl (ih (by omega) (fun j hj => by
                    have hj3 : j < 3 * k ∨ j = 3 * k ∨ j = 3 * k + 1 ∨ j = 3 * k + 2 := by omega
                    rcases hj3 with q | q | q | q
                    · exact hno j q
                    · rw [q]; exact b42.2
                    · rw [q]; exact b62.2
                    · rw [q]; exact b132.2))
                · refine x_iload dX10_readsHouses_135 rfl ?_
                  refine x_iret (ty := .int) dX10_readsHouses_136 rfl rfl (Nat.zero_le _) (Nat.zero_le _) ?_
                  rw [hn, en] at b114
                  rw [q2] at b132
                  exact hstop (3 * k + 2) (k + 1) (by omega) (fun j hj => by
                    have hj3 : j < 3 * k ∨ j = 3 * k ∨ j = 3 * k + 1 := by omega
                    rcases hj3 with q | q | q
                    · exact hno j q
                    · rw [q]; exact b42.2
                    · rw [q]; exact b62.2) (fun q => by cases hb : badH tx (3 * k + 2) with | false => exact absurd ⟨q, hb⟩ b132 | true => rfl) (fun e => absurd e b114)
              · refine x_aload dX10_readsHouses_117 rfl ?_
                refine x_iload dX10_readsHouses_118 rfl ?_
                refine x_put fX10_96 tt10 gX10_96 dX10_readsHouses_119 (by first | assumption | rfl) (Nat.le_of_ble_eq_true rfl) (w10_2 _) ?_
                refine x_k dX10_readsHouses_122 ?_
                refine x_iret (ty := .int) dX10_readsHouses_123 rfl rfl (Nat.zero_le _) (Nat.zero_le _) ?_
                rw [Classical.not_not, hn, en] at b114
                have hall : ∀ j, j < n → badH tx j = false := fun j hj => by
                  have hj3 : j < 3 * k ∨ j = 3 * k ∨ j = 3 * k + 1 := by omega
                  rcases hj3 with q | q | q
                  · exact hno j q
                  · rw [q]; exact b42.2
                  · rw [q]; exact b62.2
                have ef : fauH n tx = -1 := by rw [fauH_end hall, if_pos (Or.inr (by omega))]
                have eh : hN n tx = k + 1 := by rw [hN, if_pos ef]; omega
                exact ⟨by rw [ef], rfl, _, _, by rw [eh]; exact (by funext j; simp only [va_up]; (repeat' split) <;> first | rfl | omega | simp_all), fun i hi => by rw [eh] at hi; exact ⟨filG_lt hi, filG_lt hi⟩⟩
            · try simp only [i01, Classical.not_not] at b62
              refine x_iload dX10_readsHouses_65 rfl ?_
              refine x_k dX10_readsHouses_66 ?_
              refine x_iadd dX10_readsHouses_67 ?_
              refine x_iret (ty := .int) dX10_readsHouses_68 rfl rfl (Nat.zero_le _) (Nat.zero_le _) ?_
              rw [q0] at b42
              rw [q1] at b62
              rw [nI_1]
              exact hstop (3 * k + 1) k (by omega) (fun j hj => (Nat.lt_succ_iff_lt_or_eq.mp hj).elim (hno j) (fun q => by rw [q]; exact b42.2)) (fun q => by cases hb : badH tx (3 * k + 1) with | false => exact absurd ⟨q, hb⟩ b62 | true => rfl) (fun e => ⟨by omega, by omega⟩)
          · try simp only [i01, Classical.not_not] at b42
            refine x_iload dX10_readsHouses_45 rfl ?_
            refine x_iret (ty := .int) dX10_readsHouses_46 rfl rfl (Nat.zero_le _) (Nat.zero_le _) ?_
            rw [q0] at b42
            exact hstop (3 * k) k hle hno (fun q => by cases hb : badH tx (3 * k) with | false => exact absurd ⟨q, hb⟩ b42 | true => rfl) (fun e => ⟨hpos (by rw [hn] at b16; first | exact Or.inl b16 | exact Or.inr b20), by omega⟩)
def qRP (h : Hp) (sz : Nat) (hs sa ll fa fi : Int32) (n : Nat) (b : Nat → Int32) : QT := fun r h' sz' => r = some (.int (fauP n b)) ∧ sz = sz' ∧ ∃ kd pl : Nat → Int32, h' = va_up (va_up (va_up h 57 (cM hs (nI (pN n b)) sa ll fa fi)) 62 (ia 9 kd)) 63 (ia 9 pl) ∧ ∀ i, i < pN n b → kd i = kI (b (2 * i)) ∧ pl i = plR (b (2 * i + 1))
theorem r_readsPeople {n : Nat} {ty tx kd0 pl0 b : Nat → Int32} (hbt : b = fun i => tx (30 + i)) (h57 : h 57 = cM hs pe sa ll fa fi) (h58 : h 58 = ia 2 ty) (h59 : h 59 = ia 60 tx) (h62 : h 62 = ia 9 kd0) (h63 : h 63 = ia 9 pl0) (hn : ty 1 = nI n) (hn2 : n ≤ 24) : Rn Γ mX10_readsPeople [.ref 57] h sz (qRP h sz hs sa ll fa fi n b) := by
  refine x_enter 4 (by decide) rfl ?_
  refine x_aload dX10_readsPeople_0 rfl ?_
  refine x_k dX10_readsPeople_1 ?_
  refine x_put fX10_104 tt10 gX10_104 dX10_readsPeople_2 (by first | assumption | rfl) (Nat.le_of_ble_eq_true rfl) (w10_5 _) ?_
  refine x_k dX10_readsPeople_5 ?_
  refine x_istore dX10_readsPeople_6 (Nat.le_of_ble_eq_true rfl) rfl ?_
  refine x_k dX10_readsPeople_7 ?_
  refine x_istore dX10_readsPeople_8 (Nat.le_of_ble_eq_true rfl) rfl ?_
  have hz : va_up h 57 (cM hs 0 sa ll fa fi) = va_up (va_up (va_up h 57 (cM hs 0 sa ll fa fi)) 62 (ia 9 (filG kd0 (fun i => kI (b (2 * i))) 0))) 63 (ia 9 (filG pl0 (fun i => plR (b (2 * i + 1))) 0)) := by
    rw [filG_0, filG_0]; exact (by funext j; simp only [va_up]; (repeat' split) <;> first | rfl | omega | simp_all)
  have hbyte : ∀ (k : Nat) (h' : Hp) (f g : Nat → Int32), k < 100 → h' = va_up (va_up (va_up h 57 (cM hs 0 sa ll fa fi)) 62 (ia 9 f)) 63 (ia 9 g) → Re Γ mX10_byteAt [.ref 57, .int 1, .int (nI k)] h' sz (some (.int (byt n b k))) h' sz := by
    intro k h' f g hk e
    subst e; subst hbt
    exact r_byte1 rfl h58 h59 hn (by omega) hk
  have hstop : ∀ (i k : Nat), i ≤ n → (∀ j, j < i → badP b j = false) → (i < n → badP b i = true) → (i = n → n % 2 ≠ 0) → qRP h sz hs sa ll fa fi n b (some (.int (nI i))) (va_up (va_up (va_up h 57 (cM hs 0 sa ll fa fi)) 62 (ia 9 (filG kd0 (fun i => kI (b (2 * i))) k))) 63 (ia 9 (filG pl0 (fun i => plR (b (2 * i + 1))) k))) sz := by
    intro i k h1 h2 h3 h4
    obtain ⟨e1, e2⟩ := fauP_stop (by omega) h1 h2 h3 h4
    exact ⟨by rw [e1], rfl, _, _, by rw [e2]; rfl, fun i hi => by omega⟩
  have hend : ∀ k : Nat, n = 2 * k → (∀ j, j < n → badP b j = false) → qRP h sz hs sa ll fa fi n b (some (.int (-1))) (va_up (va_up (va_up (va_up h 57 (cM hs 0 sa ll fa fi)) 62 (ia 9 (filG kd0 (fun i => kI (b (2 * i))) k))) 63 (ia 9 (filG pl0 (fun i => plR (b (2 * i + 1))) k))) 57 (cM hs (nI k) sa ll fa fi)) sz := by
    intro k e hall
    have ef : fauP n b = -1 := by rw [fauP_end hall, if_pos (by omega)]
    have eh : pN n b = k := by rw [pN, if_pos ef]; omega
    exact ⟨by rw [ef], rfl, _, _, by rw [eh]; exact (by funext j; simp only [va_up]; (repeat' split) <;> first | rfl | omega | simp_all), fun i hi => by rw [eh] at hi; exact ⟨filG_lt hi, filG_lt hi⟩⟩
  refine x_eq rfl rfl hz (loopUp (P := fun k => ∀ v3 v4 : Value, 2 * k ≤ n → (∀ j, j < 2 * k → badP b j = false) → Ex Γ mX10_readsPeople _ 0 0 9 [.ref 57, .int (nI k), .int (nI (2 * k)), v3, v4] [] (va_up (va_up (va_up h 57 (cM hs 0 sa ll fa fi)) 62 (ia 9 (filG kd0 (fun i => kI (b (2 * i))) k))) 63 (ia 9 (filG pl0 (fun i => plR (b (2 * i + 1))) k))) sz) 8 ?_ (fun k hk ih => ?_) 0 (Nat.zero_le _) _ _ (Nat.zero_le _) (fun j hj => absurd hj (Nat.not_lt_zero _)))
  · intro v3 v4 hle hno
    have el : nI n ≤ 16 ↔ n ≤ 16 := nI_leI (b := 16) (by omega) (by decide)
    refine x_iload dX10_readsPeople_9 rfl ?_
    refine x_aload dX10_readsPeople_10 rfl ?_
    refine x_get fX10_7 dX10_readsPeople_11 (by first | assumption | rfl) ?_
    refine x_k dX10_readsPeople_14 ?_
    refine x_ialdn (k := 1) dX10_readsPeople_15 (by first | assumption | rfl) ⟨by first | omega | decide, by decide⟩ ?_
    refine x_icmp_ge dX10_readsPeople_16 (fun b16 => ?_) (fun b16 => ?_)
    · refine x_aload dX10_readsPeople_143 rfl ?_
      refine x_iload dX10_readsPeople_144 rfl ?_
      refine x_put fX10_104 tt10 gX10_104 dX10_readsPeople_145 (by first | assumption | rfl) (Nat.le_of_ble_eq_true rfl) (w10_5 _) ?_
      refine x_k dX10_readsPeople_148 ?_
      refine x_iret (ty := .int) dX10_readsPeople_149 rfl rfl (Nat.zero_le _) (Nat.zero_le _) ?_
      rw [hn] at b16
      have hn16 : n = 16 := by have := el.mp b16; omega
      exact hend 8 hn16 (fun j hj => hno j (by omega))
    · refine x_aload dX10_readsPeople_19 rfl ?_
      refine x_k dX10_readsPeople_20 ?_
      refine x_iload dX10_readsPeople_21 rfl ?_
      refine x_V2i lX10_100 (Rm.of rfl) (cc1 := 0) (cn1 := 0) rfl rfl (Nat.le_of_ble_eq_true rfl) dX10_readsPeople_22 (by first | assumption | rfl) (hbyte 16 _ _ _ (by decide) rfl) ?_
      refine x_istore dX10_readsPeople_25 (Nat.le_of_ble_eq_true rfl) rfl ?_
      refine x_iload dX10_readsPeople_26 rfl ?_
      refine x_k dX10_readsPeople_27 ?_
      refine x_icmp_eq dX10_readsPeople_29 (fun b29 => ?_) (fun b29 => ?_)
      · refine x_iload dX10_readsPeople_50 rfl ?_
        refine x_iret (ty := .int) dX10_readsPeople_51 rfl rfl (Nat.zero_le _) (Nat.zero_le _) ?_
        rw [hn] at b16
        exact hstop 16 8 hle hno (fun _ => by simp [badP]) (fun e => absurd (el.mpr (by omega)) b16)
      · exact absurd rfl b29
  · intro v3 v4 hle hno
    have e8 : nI k = 8 ↔ k = 8 := nI_eq (b := 8) (by omega) (by decide)
    have el : nI n ≤ nI (2 * k) ↔ n ≤ 2 * k := nI_leI (by omega) (by omega)
    have q1 := byt_w (n := n) (b := b) (i := 2 * k + 1) (by omega)
    have J133 : badP b (2 * k) = false → (2 * k + 1 < n ∧ badP b (2 * k + 1) = false) → ∀ v x3 x4 : Int32, v = plR (b (2 * k + 1)) → Ex Γ mX10_readsPeople (gx_Z Γ mX10_readsPeople (qRP h sz hs sa ll fa fi n b)) 0 0 133 [.ref 57, .int (nI k), .int (nI (2 * k)), .int x3, .int x4] [.int v, .int (nI k), .ref 63] (va_up (va_up (va_up h 57 (cM hs 0 sa ll fa fi)) 62 (ia 9 (filG kd0 (fun i => kI (b (2 * i))) (k + 1)))) 63 (ia 9 (filG pl0 (fun i => plR (b (2 * i + 1))) k))) sz := by
      intro g0 g1 v x3 x4 hv
      refine x_iastn dX10_readsPeople_133 (by first | assumption | rfl) ⟨by first | omega | decide, by decide⟩ ?_
      refine x_inc1 dX10_readsPeople_134 rfl (Nat.le_of_ble_eq_true rfl) rfl ?_
      refine x_incn (m := 2) dX10_readsPeople_137 rfl (Nat.le_of_ble_eq_true rfl) rfl ?_
      refine x_goto dX10_readsPeople_140 ?_
      refine x_eq rfl rfl (by rw [up_up, filG_id _ (fun i => plR (b (2 * i + 1))) _ hv]) (ih _ _ (by omega) (fun j hj => by
        have hj3 : j < 2 * k ∨ j = 2 * k ∨ j = 2 * k + 1 := by omega
        rcases hj3 with q | q | q
        · exact hno j q
        · rw [q]; exact g0
        · rw [q]; exact g1.2))
    have J111 : badP b (2 * k) = false → (2 * k + 1 < n ∧ badP b (2 * k + 1) = false) → ∀ v x3 : Int32, v = kI (b (2 * k)) → Ex Γ mX10_readsPeople (gx_Z Γ mX10_readsPeople (qRP h sz hs sa ll fa fi n b)) 0 0 111 [.ref 57, .int (nI k), .int (nI (2 * k)), .int x3, .int (b (2 * k + 1))] [.int v, .int (nI k), .ref 62] (va_up (va_up (va_up h 57 (cM hs 0 sa ll fa fi)) 62 (ia 9 (filG kd0 (fun i => kI (b (2 * i))) k))) 63 (ia 9 (filG pl0 (fun i => plR (b (2 * i + 1))) k))) sz := by
      intro g0 g1 v x3 hv
      refine x_iastn dX10_readsPeople_111 (by first | assumption | rfl) ⟨by first | omega | decide, by decide⟩ ?_
      refine x_eq rfl rfl (show _ = va_up (va_up (va_up h 57 (cM hs 0 sa ll fa fi)) 62 (ia 9 (filG kd0 (fun i => kI (b (2 * i))) (k + 1)))) 63 (ia 9 (filG pl0 (fun i => plR (b (2 * i + 1))) k)) by rw [filG_id _ (fun i => kI (b (2 * i))) _ hv]; exact (by funext j; simp only [va_up]; (repeat' split) <;> first | rfl | omega | simp_all)) ?_
      refine x_aload dX10_readsPeople_112 rfl ?_
      refine x_get fX10_25 dX10_readsPeople_113 (by first | assumption | rfl) ?_
      refine x_iload dX10_readsPeople_116 rfl ?_
      refine x_iload dX10_readsPeople_117 rfl ?_
      refine x_k dX10_readsPeople_119 ?_
      refine x_icmp_ne dX10_readsPeople_121 (fun b121 => ?_) (fun b121 => ?_)
      · refine x_iload dX10_readsPeople_128 rfl ?_
        refine x_k dX10_readsPeople_130 ?_
        refine x_isub dX10_readsPeople_132 ?_
        exact J133 g0 g1 _ _ _ (by first | (rw [plR, if_pos (Classical.not_not.mp b121)]) | (rw [plR, if_neg b121]))
      · refine x_k dX10_readsPeople_124 ?_
        refine x_goto dX10_readsPeople_125 ?_
        exact J133 g0 g1 _ _ _ (by first | (rw [plR, if_pos (Classical.not_not.mp b121)]) | (rw [plR, if_neg b121]))
    have J85 : badP b (2 * k) = false → (2 * k + 1 < n ∧ badP b (2 * k + 1) = false) → Ex Γ mX10_readsPeople (gx_Z Γ mX10_readsPeople (qRP h sz hs sa ll fa fi n b)) 0 0 85 [.ref 57, .int (nI k), .int (nI (2 * k)), .int (b (2 * k)), .int (b (2 * k + 1))] [] (va_up (va_up (va_up h 57 (cM hs 0 sa ll fa fi)) 62 (ia 9 (filG kd0 (fun i => kI (b (2 * i))) k))) 63 (ia 9 (filG pl0 (fun i => plR (b (2 * i + 1))) k))) sz := by
      intro g0 g1
      have q0 := (byt_k (b := b) (i := 2 * k) (n := n) (by omega) (by omega) (by omega)).mpr g0
      refine x_aload dX10_readsPeople_85 rfl ?_
      refine x_get fX10_22 dX10_readsPeople_86 (by first | assumption | rfl) ?_
      refine x_iload dX10_readsPeople_89 rfl ?_
      refine x_iload dX10_readsPeople_90 rfl ?_
      refine x_k dX10_readsPeople_91 ?_
      refine x_icmp_ne dX10_readsPeople_93 (fun b93 => ?_) (fun b93 => ?_)
      · refine x_iload dX10_readsPeople_100 rfl ?_
        refine x_k dX10_readsPeople_101 ?_
        refine x_icmp_ne dX10_readsPeople_103 (fun b103 => ?_) (fun b103 => ?_)
        · refine x_k dX10_readsPeople_110 ?_
          exact J111 g0 g1 _ _ (by first | (rw [kI, if_pos (Classical.not_not.mp b93)]) | (rw [kI, if_neg b93, if_pos (Classical.not_not.mp b103)]) | (rw [kI, if_neg b93, if_neg b103, if_pos ((q0.resolve_left b93).resolve_left b103)]))
        · refine x_k dX10_readsPeople_106 ?_
          refine x_goto dX10_readsPeople_107 ?_
          exact J111 g0 g1 _ _ (by first | (rw [kI, if_pos (Classical.not_not.mp b93)]) | (rw [kI, if_neg b93, if_pos (Classical.not_not.mp b103)]) | (rw [kI, if_neg b93, if_neg b103, if_pos ((q0.resolve_left b93).resolve_left b103)]))
      · refine x_k dX10_readsPeople_96 ?_
        refine x_goto dX10_readsPeople_97 ?_
        exact J111 g0 g1 _ _ (by first | (rw [kI, if_pos (Classical.not_not.mp b93)]) | (rw [kI, if_neg b93, if_pos (Classical.not_not.mp b103)]) | (rw [kI, if_neg b93, if_neg b103, if_pos ((q0.resolve_left b93).resolve_left b103)]))
    have J52 : badP b (2 * k) = false → 2 * k < n → ∀ v4 : Value, Ex Γ mX10_readsPeople (gx_Z Γ mX10_readsPeople (qRP h sz hs sa ll fa fi n b)) 0 0 52 [.ref 57, .int (nI k), .int (nI (2 * k)), .int (b (2 * k)), v4] [] (va_up (va_up (va_up h 57 (cM hs 0 sa ll fa fi)) 62 (ia 9 (filG kd0 (fun i => kI (b (2 * i))) k))) 63 (ia 9 (filG pl0 (fun i => plR (b (2 * i + 1))) k))) sz := by
      intro g0 hlt v4
      refine x_aload dX10_readsPeople_52 rfl ?_
      refine x_k dX10_readsPeople_53 ?_
      refine x_iload dX10_readsPeople_54 rfl ?_
      refine x_k dX10_readsPeople_55 ?_
      refine x_iadd dX10_readsPeople_56 ?_
      refine x_V2i lX10_100 (Rm.of rfl) (cc1 := 0) (cn1 := 0) rfl rfl (Nat.le_of_ble_eq_true rfl) dX10_readsPeople_57 (by first | assumption | rfl) (by rw [nI_1]; exact hbyte (2 * k + 1) _ _ _ (by omega) rfl) ?_
      refine x_istore dX10_readsPeople_60 (Nat.le_of_ble_eq_true rfl) rfl ?_
      refine x_iload dX10_readsPeople_62 rfl ?_
      refine x_k dX10_readsPeople_64 ?_
      refine x_icmp_eq dX10_readsPeople_66 (fun b66 => ?_) (fun b66 => ?_)
      · have g1 : 2 * k + 1 < n ∧ badP b (2 * k + 1) = false := q1.mp (by first | exact Or.inl b66 | exact Or.inr b78)
        have eb1 : byt n b (2 * k + 1) = b (2 * k + 1) := if_pos g1.1
        rw [eb1]
        exact J85 g0 g1
      · refine x_iload dX10_readsPeople_69 rfl ?_
        refine x_k dX10_readsPeople_71 ?_
        refine x_k dX10_readsPeople_73 ?_
        refine x_S3i lX10_92 (Rm.of rfl) (cc1 := 0) (cn1 := 0) rfl rfl (Nat.le_of_ble_eq_true rfl) dX10_readsPeople_75 (r_in _ _ _) ?_
        refine x_if_ne dX10_readsPeople_78 (fun b78 => ?_) (fun b78 => ?_)
        · try simp only [i01, Classical.not_not] at b78
          have g1 : 2 * k + 1 < n ∧ badP b (2 * k + 1) = false := q1.mp (by first | exact Or.inl b66 | exact Or.inr b78)
          have eb1 : byt n b (2 * k + 1) = b (2 * k + 1) := if_pos g1.1
          rw [eb1]
          exact J85 g0 g1
        · try simp only [i01, Classical.not_not] at b78
          refine x_iload dX10_readsPeople_81 rfl ?_
          refine x_k dX10_readsPeople_82 ?_
          refine x_iadd dX10_readsPeople_83 ?_
          refine x_iret (ty := .int) dX10_readsPeople_84 rfl rfl (Nat.zero_le _) (Nat.zero_le _) ?_
          rw [nI_1]
          exact hstop (2 * k + 1) k (by omega) (fun j hj => (Nat.lt_succ_iff_lt_or_eq.mp hj).elim (hno j) (fun q => by rw [q]; exact g0)) (fun q => by cases hb : badP b (2 * k + 1) with | false => exact absurd (q1.mpr ⟨q, hb⟩) (fun z => z.elim b66 b78) | true => rfl) (fun e => by omega)
    refine x_iload dX10_readsPeople_9 rfl ?_
    refine x_aload dX10_readsPeople_10 rfl ?_
    refine x_get fX10_7 dX10_readsPeople_11 (by first | assumption | rfl) ?_
    refine x_k dX10_readsPeople_14 ?_
    refine x_ialdn (k := 1) dX10_readsPeople_15 (by first | assumption | rfl) ⟨by first | omega | decide, by decide⟩ ?_
    refine x_icmp_ge dX10_readsPeople_16 (fun b16 => ?_) (fun b16 => ?_)
    · refine x_aload dX10_readsPeople_143 rfl ?_
      refine x_iload dX10_readsPeople_144 rfl ?_
      refine x_put fX10_104 tt10 gX10_104 dX10_readsPeople_145 (by first | assumption | rfl) (Nat.le_of_ble_eq_true rfl) (w10_5 _) ?_
      refine x_k dX10_readsPeople_148 ?_
      refine x_iret (ty := .int) dX10_readsPeople_149 rfl rfl (Nat.zero_le _) (Nat.zero_le _) ?_
      rw [hn, el] at b16
      exact hend k (by omega) (fun j hj => hno j (by omega))
    · refine x_aload dX10_readsPeople_19 rfl ?_
      refine x_k dX10_readsPeople_20 ?_
      refine x_iload dX10_readsPeople_21 rfl ?_
      refine x_V2i lX10_100 (Rm.of rfl) (cc1 := 0) (cn1 := 0) rfl rfl (Nat.le_of_ble_eq_true rfl) dX10_readsPeople_22 (by first | assumption | rfl) (hbyte (2 * k) _ _ _ (by omega) rfl) ?_
      rw [hn, el] at b16
      have hlt : 2 * k < n := by omega
      have q0 := byt_k (b := b) (i := 2 * k) (by omega) (by omega) hlt
      rw [show byt n b (2 * k) = b (2 * k) from if_pos hlt]
      refine x_istore dX10_readsPeople_25 (Nat.le_of_ble_eq_true rfl) rfl ?_
      refine x_iload dX10_readsPeople_26 rfl ?_
      refine x_k dX10_readsPeople_27 ?_
      refine x_icmp_eq dX10_readsPeople_29 (fun b29 => ?_) (fun b29 => ?_)
      · exact absurd (e8.mp b29) (by omega)
      · refine x_iload dX10_readsPeople_32 rfl ?_
        refine x_k dX10_readsPeople_33 ?_
        refine x_icmp_eq dX10_readsPeople_35 (fun b35 => ?_) (fun b35 => ?_)
        · exact J52 (q0.mp (by first | exact Or.inl b35 | exact Or.inr (Or.inl b41) | exact Or.inr (Or.inr b47))) hlt _
        · refine x_iload dX10_readsPeople_38 rfl ?_
          refine x_k dX10_readsPeople_39 ?_
          refine x_icmp_eq dX10_readsPeople_41 (fun b41 => ?_) (fun b41 => ?_)
          · exact J52 (q0.mp (by first | exact Or.inl b35 | exact Or.inr (Or.inl b41) | exact Or.inr (Or.inr b47))) hlt _
          · refine x_iload dX10_readsPeople_44 rfl ?_
            refine x_k dX10_readsPeople_45 ?_
            refine x_icmp_eq dX10_readsPeople_47 (fun b47 => ?_) (fun b47 => ?_)
            · exact J52 (q0.mp (by first | exact Or.inl b35 | exact Or.inr (Or.inl b41) | exact Or.inr (Or.inr b47))) hlt _
            · refine x_iload dX10_readsPeople_50 rfl ?_
              refine x_iret (ty := .int) dX10_readsPeople_51 rfl rfl (Nat.zero_le _) (Nat.zero_le _) ?_
              exact hstop (2 * k) k hle hno (fun _ => by cases hb : badP b (2 * k) with | false => exact absurd (q0.mpr hb) (fun z => z.elim b35 (fun z => z.elim b41 b47)) | true => rfl) (fun e => by omega)
end Reads
