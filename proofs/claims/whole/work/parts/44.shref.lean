/-! sheet, lose, put, get of the reference -/
section Sht3
variable {Γ : GX} {h : Hp} {sz : Nat} {d : DT}
/-- the reference's sheets -/
def MSh (d : DT) (th fr it : Nat → Int32) : Prop := (∀ s, s < 4 → (th s = if d_fo d s = -1 then 0 else 1) ∧ (d_fo d s ≠ -1 → fr s = d_fo d s)) ∧ ∀ s, s < 4 → ∀ i, i < 48 → it (48 * s + i) = d_it d s i
theorem MW.shs (hM : MW h d) : ∃ (hs pe ll : Int32) (th fr it mv : Nat → Int32), h 57 = cM hs pe (nI (d_ns d)) ll (nI (d_nf d)) (d_fi d) ∧ h 80 = za 4 th ∧ h 81 = ia 4 fr ∧ h 82 = ia 4 (d_si d) ∧ h 83 = ia 192 it ∧ h 84 = ia 48 mv ∧ MSh d th fr it := by
  obtain ⟨hs, pe, ll, ty, tx, ow, pr, kd, pl, lw, wh, os, kp, tm, ls, lk, af, wt, be, th, fr, it, mv, ⟨a57, a1⟩, a2, a3, ⟨a80, a81, a82, a83, a84⟩, a5, a6, a7, a8⟩ := hM
  exact ⟨hs, pe, ll, th, fr, it, mv, a57, a80, a81, a82, a83, a84, a7, a8⟩
theorem MW.put {h' : Hp} {hs pe ll x : Int32} {g : (Nat → Int32) × (Nat → Int32) × (Nat → Nat → Int32)} {th fr it mv : Nat → Int32} (hM : MW h d) (e : ∀ k, 58 ≤ k → k < 80 → h' k = h k) (e57 : h' 57 = cM hs pe (nI (d_ns d)) ll (nI (d_nf d)) x) (e80 : h' 80 = za 4 th) (e81 : h' 81 = ia 4 fr) (e82 : h' 82 = ia 4 g.2.1) (e83 : h' 83 = ia 192 it) (e84 : h' 84 = ia 48 mv) (hs' : MSh (d.1, d.2.1, d.2.2.1, d.2.2.2.1, g, x) th fr it) : MW h' (d.1, d.2.1, d.2.2.1, d.2.2.2.1, g, x) := by
  obtain ⟨_, _, _, ty, tx, ow, pr, kd, pl, lw, wh, os, kp, tm, ls, lk, af, wt, be, _, _, _, _, ⟨-, a58, a59, a60, a61, a62, a63⟩, ⟨a64, a65, a66, a67, a68, a69, a70, a71⟩, ⟨a72, a73, a74, a75, a76, a77, a78, a79⟩, -, a5, a6, -, -⟩ := hM
  exact ⟨hs, pe, ll, ty, tx, ow, pr, kd, pl, lw, wh, os, kp, tm, ls, lk, af, wt, be, th, fr, it, mv, ⟨e57, (e 58 (by decide) (by decide)).trans a58, (e 59 (by decide) (by decide)).trans a59, (e 60 (by decide) (by decide)).trans a60, (e 61 (by decide) (by decide)).trans a61, (e 62 (by decide) (by decide)).trans a62, (e 63 (by decide) (by decide)).trans a63⟩, ⟨(e 64 (by decide) (by decide)).trans a64, (e 65 (by decide) (by decide)).trans a65, (e 66 (by decide) (by decide)).trans a66, (e 67 (by decide) (by decide)).trans a67, (e 68 (by decide) (by decide)).trans a68, (e 69 (by decide) (by decide)).trans a69, (e 70 (by decide) (by decide)).trans a70, (e 71 (by decide) (by decide)).trans a71⟩, ⟨(e 72 (by decide) (by decide)).trans a72, (e 73 (by decide) (by decide)).trans a73, (e 74 (by decide) (by decide)).trans a74, (e 75 (by decide) (by decide)).trans a75, (e 76 (by decide) (by decide)).trans a76, (e 77 (by decide) (by decide)).trans a77, (e 78 (by decide) (by decide)).trans a78, (e 79 (by decide) (by decide)).trans a79⟩, ⟨e80, e81, e82, e83, e84⟩, a5, a6, hs'.1, hs'.2⟩
theorem MSh.to {th fr it th' fr' it' : Nat → Int32} {s : Nat} {fo si : Int32} {itd : Nat → Int32} (hm : MSh d th fr it) (c1 : ∀ t, t < 4 → t ≠ s → th' t = th t ∧ fr' t = fr t) (c2 : th' s = if fo = -1 then 0 else 1) (c3 : fo ≠ -1 → fr' s = fo) (c4 : ∀ t, t < 4 → t ≠ s → ∀ i, i < 48 → it' (48 * t + i) = it (48 * t + i)) (c5 : ∀ i, i < 48 → it' (48 * s + i) = itd i) : MSh (dSx d s fo si itd) th' fr' it' := by
  refine ⟨fun t ht => ?_, fun t ht i hi => ?_⟩
  · show (th' t = if upd (d_fo d) s fo t = -1 then 0 else 1) ∧ (upd (d_fo d) s fo t ≠ -1 → fr' t = upd (d_fo d) s fo t)
    by_cases e : t = s
    · subst e
      have eu : upd (d_fo d) t fo t = fo := if_pos rfl
      rw [eu]; exact ⟨c2, c3⟩
    · have eu : upd (d_fo d) s fo t = d_fo d t := if_neg e
      rw [eu, (c1 t ht e).1, (c1 t ht e).2]; exact hm.1 t ht
  · show it' (48 * t + i) = (if t = s then itd else d_it d t) i
    by_cases e : t = s
    · subst e; rw [if_pos rfl]; exact c5 i hi
    · rw [if_neg e, c4 t ht e i hi]; exact hm.2 t ht i hi
theorem fnd_le {fo si f i : Int32} (e : fndN fo si f i ≤ 0) : fndN fo si f i = 0 := by
  rw [fndN] at e ⊢
  split
  · rename_i z; rw [if_pos z] at e; exact absurd e (by decide)
  · rename_i z; rw [if_neg z] at e
    split
    · rename_i y; rw [if_pos y] at e; exact absurd e (by decide)
    · rename_i y; rw [if_neg y] at e
      split
      · rfl
      · rename_i x; rw [if_neg x] at e; exact absurd e (by decide)
theorem m_meets (t : Int32) (hM : MW h d) : Rn Γ mX10_meets [.ref 57, .int t] h sz (qM h sz (dFi d t) (-10 - t)) := by
  obtain ⟨hs, pe, ll, th, fr, it, mv, a57, a80, a81, a82, a83, a84, am⟩ := hM.shs
  exact re_to (r_meets a57 t) ⟨rfl, rfl, hM.put (g := d.2.2.2.2.1) (fun k k1 k2 => up_ne (by omega)) rfl a80 a81 a82 a83 a84 am, (by intro k hk; simp only [va_up]; (repeat' split) <;> first | rfl | omega)⟩
theorem r_lacks {hs pe sa ll fa fi : Int32} {th fr si : Nat → Int32} {s n : Nat} {fo : Int32} (f i : Int32) (h57 : h 57 = cM hs pe sa ll fa fi) (h80 : h 80 = za 4 th) (h81 : h 81 = ia 4 fr) (h82 : h 82 = ia 4 si) (hs' : s < 4) (e1 : th s = if fo = -1 then 0 else 1) (e2 : fo ≠ -1 → fr s = fo) (e3 : si s = nI n) (hn : n ≤ 48) : Re Γ mX10_lacks [.ref 57, .int (nI s), .int f, .int i] h sz (some (.int (fndN fo (si s) f i))) h sz := by
  refine x_enter 0 (by decide) rfl ?_
  have ht : th s = 0 ↔ fo = -1 := by rw [e1]; by_cases z : fo = -1; (rw [if_pos z]; exact ⟨fun _ => z, fun _ => rfl⟩); (rw [if_neg z]; exact ⟨fun y => absurd y (by decide), fun y => absurd y z⟩)
  rw [e3]
  refine x_aload dX10_lacks_0 rfl ?_
  refine x_get fX10_76 dX10_lacks_1 (by first | assumption | rfl | exact up_same | exact (up_ne (by omega)).trans (by assumption) | exact (up_ne (by assumption)).trans (by assumption)) ?_
  refine x_iload dX10_lacks_4 rfl ?_
  refine x_zaldn dX10_lacks_5 (by first | assumption | rfl | exact up_same | exact (up_ne (by omega)).trans (by assumption) | exact (up_ne (by assumption)).trans (by assumption)) ⟨by first | omega | decide, by decide⟩ ?_
  refine x_if_ne dX10_lacks_6 (fun b6 => ?_) (fun b6 => ?_)
  · refine x_aload dX10_lacks_13 rfl ?_
    refine x_get fX10_80 dX10_lacks_14 (by first | assumption | rfl | exact up_same | exact (up_ne (by omega)).trans (by assumption) | exact (up_ne (by assumption)).trans (by assumption)) ?_
    refine x_iload dX10_lacks_17 rfl ?_
    refine x_ialdn dX10_lacks_18 (by first | assumption | rfl | exact up_same | exact (up_ne (by omega)).trans (by assumption) | exact (up_ne (by assumption)).trans (by assumption)) ⟨by first | omega | decide, by decide⟩ ?_
    refine x_iload dX10_lacks_19 rfl ?_
    refine x_icmp_eq dX10_lacks_20 (fun b20 => ?_) (fun b20 => ?_)
    · refine x_iload dX10_lacks_27 rfl ?_
      refine x_k dX10_lacks_28 ?_
      refine x_aload dX10_lacks_29 rfl ?_
      refine x_get fX10_83 dX10_lacks_30 (by first | assumption | rfl | exact up_same | exact (up_ne (by omega)).trans (by assumption) | exact (up_ne (by assumption)).trans (by assumption)) ?_
      refine x_iload dX10_lacks_33 rfl ?_
      refine x_ialdn dX10_lacks_34 (by first | assumption | rfl | exact up_same | exact (up_ne (by omega)).trans (by assumption) | exact (up_ne (by assumption)).trans (by assumption)) ⟨by first | omega | decide, by decide⟩ ?_
      refine x_k dX10_lacks_35 ?_
      refine x_isub dX10_lacks_36 ?_
      rw [e3]
      refine x_S3i lX10_92 (Rm.of rfl) (cc1 := 0) (cn1 := 0) rfl rfl (Nat.le_of_ble_eq_true rfl) dX10_lacks_37 (r_in i 0 (nI n - 1)) ?_
      refine x_if_eq dX10_lacks_40 (fun b40 => ?_) (fun b40 => ?_)
      · try simp only [i01, Classical.not_not] at b40
        refine x_k dX10_lacks_47 ?_
        refine x_iret (ty := .int) dX10_lacks_48 rfl rfl (Nat.zero_le _) (Nat.zero_le _) ?_
        refine ⟨?_, rfl, rfl⟩
        rw [fndN]
        first
          | (have hz : fo = -1 := ht.mp (Classical.not_not.mp b6); rw [if_pos hz]; done)
          | (have hz : fo ≠ -1 := fun e => b6 (ht.mpr e)
             rw [e2 hz] at b20
             rw [if_neg hz]
             first
               | (have hy : f ≠ fo := fun e => b20 e.symm; rw [if_pos hy]; done)
               | (have hy : ¬ f ≠ fo := fun e => e b20.symm
                  rw [if_neg hy]
                  rw [le_pred (by omega)] at b40
                  first
                    | (rw [if_pos b40]; done)
                    | (rw [if_neg b40]; done)))
      · try simp only [i01, Classical.not_not] at b40
        refine x_k dX10_lacks_43 ?_
        refine x_goto dX10_lacks_44 ?_
        refine x_iret (ty := .int) dX10_lacks_48 rfl rfl (Nat.zero_le _) (Nat.zero_le _) ?_
        refine ⟨?_, rfl, rfl⟩
        rw [fndN]
        first
          | (have hz : fo = -1 := ht.mp (Classical.not_not.mp b6); rw [if_pos hz]; done)
          | (have hz : fo ≠ -1 := fun e => b6 (ht.mpr e)
             rw [e2 hz] at b20
             rw [if_neg hz]
             first
               | (have hy : f ≠ fo := fun e => b20 e.symm; rw [if_pos hy]; done)
               | (have hy : ¬ f ≠ fo := fun e => e b20.symm
                  rw [if_neg hy]
                  rw [le_pred (by omega)] at b40
                  first
                    | (rw [if_pos b40]; done)
                    | (rw [if_neg b40]; done)))
    · refine x_k dX10_lacks_23 ?_
      refine x_goto dX10_lacks_24 ?_
      refine x_iret (ty := .int) dX10_lacks_48 rfl rfl (Nat.zero_le _) (Nat.zero_le _) ?_
      refine ⟨?_, rfl, rfl⟩
      rw [fndN]
      first
        | (have hz : fo = -1 := ht.mp (Classical.not_not.mp b6); rw [if_pos hz]; done)
        | (have hz : fo ≠ -1 := fun e => b6 (ht.mpr e)
           rw [e2 hz] at b20
           rw [if_neg hz]
           first
             | (have hy : f ≠ fo := fun e => b20 e.symm; rw [if_pos hy]; done)
             | (have hy : ¬ f ≠ fo := fun e => e b20.symm
                rw [if_neg hy]
                rw [le_pred (by omega)] at b40
                first
                  | (rw [if_pos b40]; done)
                  | (rw [if_neg b40]; done)))
  · refine x_k dX10_lacks_9 ?_
    refine x_goto dX10_lacks_10 ?_
    refine x_iret (ty := .int) dX10_lacks_48 rfl rfl (Nat.zero_le _) (Nat.zero_le _) ?_
    refine ⟨?_, rfl, rfl⟩
    rw [fndN]
    first
      | (have hz : fo = -1 := ht.mp (Classical.not_not.mp b6); rw [if_pos hz]; done)
      | (have hz : fo ≠ -1 := fun e => b6 (ht.mpr e)
         rw [e2 hz] at b20
         rw [if_neg hz]
         first
           | (have hy : f ≠ fo := fun e => b20 e.symm; rw [if_pos hy]; done)
           | (have hy : ¬ f ≠ fo := fun e => e b20.symm
              rw [if_neg hy]
              rw [le_pred (by omega)] at b40
              first
                | (rw [if_pos b40]; done)
                | (rw [if_neg b40]; done)))
theorem r_keepS {hs pe sa ll fa fi : Int32} {fr it : Nat → Int32} {s i : Nat} (v : Int32) (h57 : h 57 = cM hs pe sa ll fa fi) (h81 : h 81 = ia 4 fr) (h83 : h 83 = ia 192 it) (hs' : s < 4) (hi : i < 48) : Re Γ mX10_keep [.ref 57, .int (nI s), .int (nI i), .int v] h sz none (va_up h 83 (ia 192 (upd it (48 * s + i) (stV (fr s) v)))) sz := by
  refine x_enter 0 (by decide) rfl ?_
  refine x_aload dX10_keep_0 rfl ?_
  refine x_get fX10_86 dX10_keep_1 (by first | assumption | rfl | exact up_same | exact (up_ne (by omega)).trans (by assumption) | exact (up_ne (by assumption)).trans (by assumption)) ?_
  refine x_k dX10_keep_4 ?_
  refine x_iload dX10_keep_6 rfl ?_
  refine x_imul dX10_keep_7 ?_
  refine x_iload dX10_keep_8 rfl ?_
  refine x_iadd dX10_keep_9 ?_
  refine x_aload dX10_keep_10 rfl ?_
  refine x_get fX10_80 dX10_keep_11 (by first | assumption | rfl | exact up_same | exact (up_ne (by omega)).trans (by assumption) | exact (up_ne (by assumption)).trans (by assumption)) ?_
  refine x_iload dX10_keep_14 rfl ?_
  refine x_ialdn dX10_keep_15 (by first | assumption | rfl | exact up_same | exact (up_ne (by omega)).trans (by assumption) | exact (up_ne (by assumption)).trans (by assumption)) ⟨by first | omega | decide, by decide⟩ ?_
  refine x_if_ne dX10_keep_16 (fun b16 => ?_) (fun b16 => ?_)
  · refine x_aload dX10_keep_24 rfl ?_
    refine x_get fX10_80 dX10_keep_25 (by first | assumption | rfl | exact up_same | exact (up_ne (by omega)).trans (by assumption) | exact (up_ne (by assumption)).trans (by assumption)) ?_
    refine x_iload dX10_keep_28 rfl ?_
    refine x_ialdn dX10_keep_29 (by first | assumption | rfl | exact up_same | exact (up_ne (by omega)).trans (by assumption) | exact (up_ne (by assumption)).trans (by assumption)) ⟨by first | omega | decide, by decide⟩ ?_
    refine x_k dX10_keep_30 ?_
    refine x_icmp_ne dX10_keep_31 (fun b31 => ?_) (fun b31 => ?_)
    · refine x_iload dX10_keep_39 rfl ?_
      refine x_iast dX10_keep_40 (by first | assumption | rfl | exact up_same | exact (up_ne (by omega)).trans (by assumption) | exact (up_ne (by assumption)).trans (by assumption)) (in48 hs' hi) ?_
      refine x_vret dX10_keep_41 rfl (Nat.zero_le _) (Nat.zero_le _) ?_
      exact ⟨rfl, by rw [ix48, nI_clamp (by omega)]; simp_all [stV], rfl⟩
    · refine x_iload dX10_keep_34 rfl ?_
      refine x_i2s dX10_keep_35 ?_
      refine x_goto dX10_keep_36 ?_
      refine x_iast dX10_keep_40 (by first | assumption | rfl | exact up_same | exact (up_ne (by omega)).trans (by assumption) | exact (up_ne (by assumption)).trans (by assumption)) (in48 hs' hi) ?_
      refine x_vret dX10_keep_41 rfl (Nat.zero_le _) (Nat.zero_le _) ?_
      exact ⟨rfl, by rw [ix48, nI_clamp (by omega)]; simp_all [stV], rfl⟩
  · refine x_iload dX10_keep_19 rfl ?_
    refine x_i2b dX10_keep_20 ?_
    refine x_goto dX10_keep_21 ?_
    refine x_iast dX10_keep_40 (by first | assumption | rfl | exact up_same | exact (up_ne (by omega)).trans (by assumption) | exact (up_ne (by assumption)).trans (by assumption)) (in48 hs' hi) ?_
    refine x_vret dX10_keep_41 rfl (Nat.zero_le _) (Nat.zero_le _) ?_
    exact ⟨rfl, by rw [ix48, nI_clamp (by omega)]; simp_all [stV], rfl⟩
theorem m_sheet (s f n : Int32) (hM : MW h d) : Rn Γ mX10_sheet [.ref 57, .int s, .int f, .int n] h sz (qM h sz (dSheet d s f n) (aSheet s f n)) := by
  refine x_enter 1 (by decide) rfl ?_
  obtain ⟨hs, pe, ll, th, fr, it, mv, a57, a80, a81, a82, a83, a84, am⟩ := hM.shs
  have J25 : cShe s f n → Ex Γ mX10_sheet (gx_Z Γ mX10_sheet (qM h sz (dSheet d s f n) (aSheet s f n))) 0 0 25 [.ref 57, .int s, .int f, .int n, .retAddr 0] [] h sz := by
    intro hc
    obtain ⟨k, hk, rfl⟩ := upto (n := 3) hc.1.1.1 hc.1.1.2 (by omega)
    rw [dSheet, aSheet, if_pos hc, if_pos hc, sN, nI_clamp (by omega)]
    refine x_iload dX10_sheet_25 rfl ?_
    refine x_if_ge dX10_sheet_26 (fun b26 => ?_) (fun b26 => ?_)
    · refine x_aload dX10_sheet_35 rfl ?_
      refine x_get fX10_76 dX10_sheet_36 (by first | assumption | rfl | exact up_same | exact (up_ne (by omega)).trans (by assumption) | exact (up_ne (by assumption)).trans (by assumption)) ?_
      refine x_iload dX10_sheet_39 rfl ?_
      refine x_k dX10_sheet_40 ?_
      refine x_zastn dX10_sheet_41 (by first | assumption | rfl | exact up_same | exact (up_ne (by omega)).trans (by assumption) | exact (up_ne (by assumption)).trans (by assumption)) ⟨by first | omega | decide, by decide⟩ ?_
      refine x_aload dX10_sheet_42 rfl ?_
      refine x_get fX10_80 dX10_sheet_43 (by first | assumption | rfl | exact up_same | exact (up_ne (by omega)).trans (by assumption) | exact (up_ne (by assumption)).trans (by assumption)) ?_
      refine x_iload dX10_sheet_46 rfl ?_
      refine x_iload dX10_sheet_47 rfl ?_
      refine x_iastn dX10_sheet_48 (by first | assumption | rfl | exact up_same | exact (up_ne (by omega)).trans (by assumption) | exact (up_ne (by assumption)).trans (by assumption)) ⟨by first | omega | decide, by decide⟩ ?_
      refine x_aload dX10_sheet_49 rfl ?_
      refine x_get fX10_83 dX10_sheet_50 (by first | assumption | rfl | exact up_same | exact (up_ne (by omega)).trans (by assumption) | exact (up_ne (by assumption)).trans (by assumption)) ?_
      refine x_iload dX10_sheet_53 rfl ?_
      refine x_iload dX10_sheet_54 rfl ?_
      refine x_iastn dX10_sheet_55 (by first | assumption | rfl | exact up_same | exact (up_ne (by omega)).trans (by assumption) | exact (up_ne (by assumption)).trans (by assumption)) ⟨by first | omega | decide, by decide⟩ ?_
      refine x_k dX10_sheet_56 ?_
      refine x_istore dX10_sheet_57 (Nat.le_of_ble_eq_true rfl) rfl ?_
      rw [if_neg (Int32.not_lt.mpr b26), if_neg (Int32.not_lt.mpr b26)]
      refine x_eq rfl rfl (show _ = va_up (va_up (va_up (va_up h 80 (za 4 (upd th k 1))) 81 (ia 4 (upd fr k f))) 82 (ia 4 (upd (d_si d) k n))) 83 (ia 192 (fun j => if 48 * k ≤ j ∧ j < 48 * k + 0 then 0 else it j)) from ?_) (loopUp (P := fun p => Ex Γ mX10_sheet _ 0 0 59 [.ref 57, .int (nI k), .int f, .int n, .int (nI p)] [] (va_up (va_up (va_up (va_up h 80 (za 4 (upd th k 1))) 81 (ia 4 (upd fr k f))) 82 (ia 4 (upd (d_si d) k n))) 83 (ia 192 (fun j => if 48 * k ≤ j ∧ j < 48 * k + p then 0 else it j))) sz) 48 ?_ (fun p hp ih => ?_) 0 (Nat.zero_le _))
      · have e0 : (fun j => if 48 * k ≤ j ∧ j < 48 * k + 0 then 0 else it j) = it := by funext j; exact if_neg (by omega)
        rw [e0]
        exact (up_id (by rw [up_ne (by decide), up_ne (by decide), up_ne (by decide)]; exact a83)).symm
      · refine x_iload dX10_sheet_59 rfl ?_
        refine x_k dX10_sheet_61 ?_
        refine x_icmp_ge dX10_sheet_63 (fun b63 => ?_) (fun b63 => ?_)
        · refine x_iload dX10_sheet_85 rfl ?_
          refine x_iret (ty := .int) dX10_sheet_86 rfl rfl (Nat.zero_le _) (Nat.zero_le _) ?_
          refine ⟨rfl, rfl, hM.put (g := (upd (d_fo d) k f, upd (d_si d) k n, fun t => if t = k then filF (d_it d k) 0 48 else d_it d t)) (fun j j1 j2 => by simp only [va_up]; (repeat' split) <;> first | rfl | omega) a57 rfl rfl rfl rfl a84 (am.to (s := k) (fun t ht e => ⟨if_neg e, if_neg e⟩) ?_ (fun _ => if_pos rfl) (fun t ht e i hi => if_neg (by omega)) (fun i hi => ?_)), (by intro k hk; simp only [va_up]; (repeat' split) <;> first | rfl | omega)⟩
          · show (if k = k then 1 else th k) = _
            rw [if_pos rfl, if_neg (fun e => by rw [e] at hc; exact absurd hc.1.2.1 (by decide))]
          · show (if 48 * k ≤ 48 * k + i ∧ 48 * k + i < 48 * k + 48 then 0 else it (48 * k + i)) = if i < 48 then 0 else d_it d k i
            rw [if_pos (by omega), if_pos hi]
        · exact absurd (Int32.le_refl _) b63
      · refine x_iload dX10_sheet_59 rfl ?_
        refine x_k dX10_sheet_61 ?_
        refine x_icmp_ge dX10_sheet_63 (fun b63 => ?_) (fun b63 => ?_)
        · exact absurd b63 (nI_ge (b := 48) hp (by decide))
        · refine x_aload dX10_sheet_66 rfl ?_
          refine x_get fX10_86 dX10_sheet_67 (by first | assumption | rfl | exact up_same | exact (up_ne (by omega)).trans (by assumption) | exact (up_ne (by assumption)).trans (by assumption)) ?_
          refine x_k dX10_sheet_70 ?_
          refine x_iload dX10_sheet_72 rfl ?_
          refine x_imul dX10_sheet_73 ?_
          refine x_iload dX10_sheet_74 rfl ?_
          refine x_iadd dX10_sheet_76 ?_
          refine x_k dX10_sheet_77 ?_
          refine x_iast dX10_sheet_78 (by first | assumption | rfl | exact up_same | exact (up_ne (by omega)).trans (by assumption) | exact (up_ne (by assumption)).trans (by assumption)) (in48 (by omega) (by omega)) ?_
          refine x_inc1 dX10_sheet_79 rfl (Nat.le_of_ble_eq_true rfl) rfl ?_
          refine x_goto dX10_sheet_82 ?_
          refine x_eq rfl rfl ?_ ih
          rw [ix48, nI_clamp (by omega), up_up]
          refine congrArg (fun g => va_up _ 83 (ia 192 g)) ?_
          funext j
          simp only [upd]
          (repeat' split) <;> first | rfl | omega
    · refine x_aload dX10_sheet_29 rfl ?_
      refine x_k dX10_sheet_30 ?_
      refine x_V1q lX10_146 (Rm.of rfl) (cc1 := 0) (cn1 := 0) rfl rfl (Nat.le_of_ble_eq_true rfl) dX10_sheet_31 (by first | assumption | rfl | exact up_same | exact (up_ne (by omega)).trans (by assumption) | exact (up_ne (by assumption)).trans (by assumption)) (m_meets 5 hM) ?_
      rintro _ h2 _ hq
      have hq2 := hq
      obtain ⟨rfl, -⟩ := hq
      refine x_iret (ty := .int) dX10_sheet_34 rfl rfl (Nat.zero_le _) (Nat.zero_le _) ?_
      rw [if_pos (Int32.not_le.mp b26), if_pos (Int32.not_le.mp b26)]; exact hq2
  refine x_iload dX10_sheet_0 rfl ?_
  refine x_S1i lX10_143 (Rm.of rfl) (cc1 := 0) (cn1 := 0) rfl rfl (Nat.le_of_ble_eq_true rfl) dX10_sheet_1 (r_isSheet s) ?_
  refine x_if_eq dX10_sheet_4 (fun b4 => ?_) (fun b4 => ?_)
  · try simp only [i01, Classical.not_not] at b4
    refine x_k dX10_sheet_22 ?_
    refine x_iret (ty := .int) dX10_sheet_24 rfl rfl (Nat.zero_le _) (Nat.zero_le _) ?_
    have hc : ¬ cShe s f n := by
      rintro ⟨⟨y1, y2⟩, y3⟩
      first
        | exact b19 y3
        | exact b13 y2
        | exact b4 y1
    rw [dSheet, aSheet, if_neg hc, if_neg hc]
    exact ⟨rfl, rfl, hM, fun _ _ => rfl⟩
  · try simp only [i01, Classical.not_not] at b4
    refine x_iload dX10_sheet_7 rfl ?_
    refine x_k dX10_sheet_8 ?_
    refine x_k dX10_sheet_9 ?_
    refine x_S3i lX10_92 (Rm.of rfl) (cc1 := 0) (cn1 := 0) rfl rfl (Nat.le_of_ble_eq_true rfl) dX10_sheet_10 (r_in f 0 2) ?_
    refine x_if_eq dX10_sheet_13 (fun b13 => ?_) (fun b13 => ?_)
    · try simp only [i01, Classical.not_not] at b13
      refine x_k dX10_sheet_22 ?_
      refine x_iret (ty := .int) dX10_sheet_24 rfl rfl (Nat.zero_le _) (Nat.zero_le _) ?_
      have hc : ¬ cShe s f n := by
        rintro ⟨⟨y1, y2⟩, y3⟩
        first
          | exact b19 y3
          | exact b13 y2
          | exact b4 y1
      rw [dSheet, aSheet, if_neg hc, if_neg hc]
      exact ⟨rfl, rfl, hM, fun _ _ => rfl⟩
    · try simp only [i01, Classical.not_not] at b13
      refine x_iload dX10_sheet_16 rfl ?_
      refine x_k dX10_sheet_17 ?_
      refine x_icmp_le dX10_sheet_19 (fun b19 => ?_) (fun b19 => ?_)
      · exact J25 ⟨⟨b4, b13⟩, b19⟩
      · refine x_k dX10_sheet_22 ?_
        refine x_iret (ty := .int) dX10_sheet_24 rfl rfl (Nat.zero_le _) (Nat.zero_le _) ?_
        have hc : ¬ cShe s f n := by
          rintro ⟨⟨y1, y2⟩, y3⟩
          first
            | exact b19 y3
            | exact b13 y2
            | exact b4 y1
        rw [dSheet, aSheet, if_neg hc, if_neg hc]
        exact ⟨rfl, rfl, hM, fun _ _ => rfl⟩
theorem m_lose (s : Int32) (hM : MW h d) : Rn Γ mX10_lose [.ref 57, .int s] h sz (qM h sz (dLose d s) (aLose d s)) := by
  refine x_enter 0 (by decide) rfl ?_
  obtain ⟨hs, pe, ll, th, fr, it, mv, a57, a80, a81, a82, a83, a84, am⟩ := hM.shs
  have J10 : cS s → Ex Γ mX10_lose (gx_Z Γ mX10_lose (qM h sz (dLose d s) (aLose d s))) 0 0 10 [.ref 57, .int s] [] h sz := by
    intro hc
    obtain ⟨k, hk, rfl⟩ := upto (n := 3) hc.1 hc.2 (by omega)
    have ek := am.1 k (by omega)
    rw [dLose, aLose, if_pos hc, if_pos hc, sN, nI_clamp (by omega)]
    refine x_aload dX10_lose_10 rfl ?_
    refine x_get fX10_76 dX10_lose_11 (by first | assumption | rfl | exact up_same | exact (up_ne (by omega)).trans (by assumption) | exact (up_ne (by assumption)).trans (by assumption)) ?_
    refine x_iload dX10_lose_14 rfl ?_
    refine x_zaldn dX10_lose_15 (by first | assumption | rfl | exact up_same | exact (up_ne (by omega)).trans (by assumption) | exact (up_ne (by assumption)).trans (by assumption)) ⟨by first | omega | decide, by decide⟩ ?_
    refine x_if_ne dX10_lose_16 (fun b16 => ?_) (fun b16 => ?_)
    · refine x_aload dX10_lose_25 rfl ?_
      refine x_get fX10_76 dX10_lose_26 (by first | assumption | rfl | exact up_same | exact (up_ne (by omega)).trans (by assumption) | exact (up_ne (by assumption)).trans (by assumption)) ?_
      refine x_iload dX10_lose_29 rfl ?_
      refine x_k dX10_lose_30 ?_
      refine x_zastn dX10_lose_31 (by first | assumption | rfl | exact up_same | exact (up_ne (by omega)).trans (by assumption) | exact (up_ne (by assumption)).trans (by assumption)) ⟨by first | omega | decide, by decide⟩ ?_
      refine x_aload dX10_lose_32 rfl ?_
      refine x_get fX10_83 dX10_lose_33 (by first | assumption | rfl | exact up_same | exact (up_ne (by omega)).trans (by assumption) | exact (up_ne (by assumption)).trans (by assumption)) ?_
      refine x_iload dX10_lose_36 rfl ?_
      refine x_ialdn dX10_lose_37 (by first | assumption | rfl | exact up_same | exact (up_ne (by omega)).trans (by assumption) | exact (up_ne (by assumption)).trans (by assumption)) ⟨by first | omega | decide, by decide⟩ ?_
      refine x_iret (ty := .int) dX10_lose_38 rfl rfl (Nat.zero_le _) (Nat.zero_le _) ?_
      have hz : ¬ d_fo d k = -1 := fun z => by rw [ek.1, if_pos z] at b16; exact b16 rfl
      rw [if_neg hz, if_neg hz]
      exact ⟨rfl, rfl, hM.put (g := (upd (d_fo d) k (-1), upd (d_si d) k (d_si d k), fun t => if t = k then d_it d k else d_it d t)) (fun j j1 j2 => by simp only [va_up]; (repeat' split) <;> first | rfl | omega) a57 rfl a81 (by rw [up_ne (by decide), a82]; congr 4; funext j; simp only [upd]; split; (rename_i z; rw [z]); rfl) a83 a84 (am.to (s := k) (fun t ht e => ⟨if_neg e, rfl⟩) (if_pos rfl) (fun z => absurd rfl z) (fun t ht e i hi => rfl) (fun i hi => am.2 k (by omega) i hi)), (by intro k hk; simp only [va_up]; (repeat' split) <;> first | rfl | omega)⟩
    · refine x_aload dX10_lose_19 rfl ?_
      refine x_k dX10_lose_20 ?_
      refine x_V1q lX10_146 (Rm.of rfl) (cc1 := 0) (cn1 := 0) rfl rfl (Nat.le_of_ble_eq_true rfl) dX10_lose_21 (by first | assumption | rfl | exact up_same | exact (up_ne (by omega)).trans (by assumption) | exact (up_ne (by assumption)).trans (by assumption)) (m_meets 1 hM) ?_
      rintro _ h2 _ hq
      have hq2 := hq
      obtain ⟨rfl, -⟩ := hq
      refine x_iret (ty := .int) dX10_lose_24 rfl rfl (Nat.zero_le _) (Nat.zero_le _) ?_
      have hz : d_fo d k = -1 := Classical.byContradiction (fun z => b16 (by rw [ek.1, if_neg z]; decide))
      rw [if_pos hz, if_pos hz]; exact hq2
  refine x_iload dX10_lose_0 rfl ?_
  refine x_S1i lX10_143 (Rm.of rfl) (cc1 := 0) (cn1 := 0) rfl rfl (Nat.le_of_ble_eq_true rfl) dX10_lose_1 (r_isSheet s) ?_
  refine x_if_ne dX10_lose_4 (fun b4 => ?_) (fun b4 => ?_)
  · try simp only [i01, Classical.not_not] at b4
    exact J10 b4
  · try simp only [i01, Classical.not_not] at b4
    refine x_k dX10_lose_7 ?_
    refine x_iret (ty := .int) dX10_lose_9 rfl rfl (Nat.zero_le _) (Nat.zero_le _) ?_
    rw [dLose, aLose, if_neg b4, if_neg b4]
    exact ⟨rfl, rfl, hM, fun _ _ => rfl⟩
theorem m_put (s f i v : Int32) (hM : MW h d) (hd : okD d) : Rn Γ mX10_put [.ref 57, .int s, .int f, .int i, .int v] h sz (qM h sz (dPut d s f i v) (aPut d s f i)) := by
  refine x_enter 1 (by decide) rfl ?_
  obtain ⟨hs, pe, ll, th, fr, it, mv, a57, a80, a81, a82, a83, a84, am⟩ := hM.shs
  have J19 : cSF s f → Ex Γ mX10_put (gx_Z Γ mX10_put (qM h sz (dPut d s f i v) (aPut d s f i))) 0 0 19 [.ref 57, .int s, .int f, .int i, .int v, .retAddr 0] [] h sz := by
    intro hc
    obtain ⟨k, hk, rfl⟩ := upto (n := 3) hc.1.1 hc.1.2 (by omega)
    have es : sN (nI k) = k := nI_clamp (by omega)
    have ok4 := hd.2.2.2 k (by omega)
    have ek := am.1 k (by omega)
    rw [dPut, aPut, if_pos hc, if_pos hc, es]
    have J40 : fndD d k f i = 0 → Ex Γ mX10_put (gx_Z Γ mX10_put (qM h sz (dSx d k (d_fo d k) (d_si d k) (upd (d_it d k) (sN i) (stV (d_fo d k) v))) 1)) 0 0 40 [.ref 57, .int (nI k), .int f, .int i, .int v, .int (fndD d k f i)] [] h sz := by
      intro e0
      obtain ⟨z1, z2, z3⟩ := fnd0 e0
      rw [ok4.2.1] at z3
      obtain ⟨j, hj, rfl⟩ := below z2 z3 (by omega)
      have ej : sN (nI j) = j := nI_clamp (by omega)
      rw [ej]
      refine x_aload dX10_put_40 rfl ?_
      refine x_iload dX10_put_41 rfl ?_
      refine x_iload dX10_put_42 rfl ?_
      refine x_iload dX10_put_43 rfl ?_
      refine x_V3v lX10_248 (Rm.of rfl) (cc1 := 0) (cn1 := 0) rfl rfl (Nat.le_of_ble_eq_true rfl) dX10_put_45 (by first | assumption | rfl | exact up_same | exact (up_ne (by omega)).trans (by assumption) | exact (up_ne (by assumption)).trans (by assumption)) (r_keepS (s := k) (i := j) v a57 a81 a83 (by omega) (by omega)) ?_
      refine x_k dX10_put_48 ?_
      refine x_iret (ty := .int) dX10_put_49 rfl rfl (Nat.zero_le _) (Nat.zero_le _) ?_
      refine ⟨rfl, rfl, hM.put (g := (upd (d_fo d) k (d_fo d k), upd (d_si d) k (d_si d k), fun t => if t = k then upd (d_it d k) j (stV (d_fo d k) v) else d_it d t)) (fun j j1 j2 => by simp only [va_up]; (repeat' split) <;> first | rfl | omega) a57 a80 a81 (by rw [up_ne (by decide), a82]; congr 4; funext j; simp only [upd]; split; (rename_i z; rw [z]); rfl) rfl a84 (am.to (s := k) (fun t ht e => ⟨rfl, rfl⟩) ek.1 ek.2 (fun t ht e i hi => if_neg (by omega)) (fun i hi => ?_)), (by intro k hk; simp only [va_up]; (repeat' split) <;> first | rfl | omega)⟩
      simp only [upd]
      rw [ek.2 z1, am.2 k (by omega) i hi]
      by_cases e : i = j
      · rw [if_pos (by omega), if_pos e]
      · rw [if_neg (by omega), if_neg e]
    refine x_aload dX10_put_19 rfl ?_
    refine x_iload dX10_put_20 rfl ?_
    refine x_iload dX10_put_21 rfl ?_
    refine x_iload dX10_put_22 rfl ?_
    refine x_V3i lX10_244 (Rm.of rfl) (cc1 := 0) (cn1 := 0) rfl rfl (Nat.le_of_ble_eq_true rfl) dX10_put_23 (by first | assumption | rfl | exact up_same | exact (up_ne (by omega)).trans (by assumption) | exact (up_ne (by assumption)).trans (by assumption)) (r_lacks (n := cN (d_si d) k) (fo := d_fo d k) f i a57 a80 a81 a82 (by omega) ek.1 ek.2 ok4.2.1 ok4.2.2) ?_
    refine x_istore dX10_put_26 (Nat.le_of_ble_eq_true rfl) rfl ?_
    refine x_iload dX10_put_28 rfl ?_
    refine x_if_le dX10_put_30 (fun b30 => ?_) (fun b30 => ?_)
    · have hz : fndD d k f i = 0 := fnd_le b30
      rw [if_pos hz, if_pos hz]; exact J40 hz
    · refine x_aload dX10_put_33 rfl ?_
      refine x_iload dX10_put_34 rfl ?_
      refine x_V1q lX10_146 (Rm.of rfl) (cc1 := 0) (cn1 := 0) rfl rfl (Nat.le_of_ble_eq_true rfl) dX10_put_36 (by first | assumption | rfl | exact up_same | exact (up_ne (by omega)).trans (by assumption) | exact (up_ne (by assumption)).trans (by assumption)) (m_meets (fndD d k f i) hM) ?_
      rintro _ h2 _ hq
      have hq2 := hq
      obtain ⟨rfl, -⟩ := hq
      refine x_iret (ty := .int) dX10_put_39 rfl rfl (Nat.zero_le _) (Nat.zero_le _) ?_
      have hz : ¬ fndD d k f i = 0 := fun z => b30 (by show fndD d k f i ≤ 0; rw [z]; exact Int32.le_refl _)
      rw [if_neg hz, if_neg hz]; exact hq2
  refine x_iload dX10_put_0 rfl ?_
  refine x_S1i lX10_143 (Rm.of rfl) (cc1 := 0) (cn1 := 0) rfl rfl (Nat.le_of_ble_eq_true rfl) dX10_put_1 (r_isSheet s) ?_
  refine x_if_eq dX10_put_4 (fun b4 => ?_) (fun b4 => ?_)
  · try simp only [i01, Classical.not_not] at b4
    refine x_k dX10_put_16 ?_
    refine x_iret (ty := .int) dX10_put_18 rfl rfl (Nat.zero_le _) (Nat.zero_le _) ?_
    have hc : ¬ cSF s f := by
      rintro ⟨y1, y2⟩
      first
        | exact b13 y2
        | exact b4 y1
    rw [dPut, aPut, if_neg hc, if_neg hc]
    exact ⟨rfl, rfl, hM, fun _ _ => rfl⟩
  · try simp only [i01, Classical.not_not] at b4
    refine x_iload dX10_put_7 rfl ?_
    refine x_k dX10_put_8 ?_
    refine x_k dX10_put_9 ?_
    refine x_S3i lX10_92 (Rm.of rfl) (cc1 := 0) (cn1 := 0) rfl rfl (Nat.le_of_ble_eq_true rfl) dX10_put_10 (r_in f 0 2) ?_
    refine x_if_ne dX10_put_13 (fun b13 => ?_) (fun b13 => ?_)
    · try simp only [i01, Classical.not_not] at b13
      exact J19 ⟨b4, b13⟩
    · try simp only [i01, Classical.not_not] at b13
      refine x_k dX10_put_16 ?_
      refine x_iret (ty := .int) dX10_put_18 rfl rfl (Nat.zero_le _) (Nat.zero_le _) ?_
      have hc : ¬ cSF s f := by
        rintro ⟨y1, y2⟩
        first
          | exact b13 y2
          | exact b4 y1
      rw [dPut, aPut, if_neg hc, if_neg hc]
      exact ⟨rfl, rfl, hM, fun _ _ => rfl⟩
theorem m_get (s f i : Int32) (hM : MW h d) (hd : okD d) : Rn Γ mX10_get [.ref 57, .int s, .int f, .int i] h sz (qM h sz (dGet d s f i) (aGet d s f i)) := by
  refine x_enter 1 (by decide) rfl ?_
  obtain ⟨hs, pe, ll, th, fr, it, mv, a57, a80, a81, a82, a83, a84, am⟩ := hM.shs
  have J19 : cSF s f → Ex Γ mX10_get (gx_Z Γ mX10_get (qM h sz (dGet d s f i) (aGet d s f i))) 0 0 19 [.ref 57, .int s, .int f, .int i, .retAddr 0] [] h sz := by
    intro hc
    obtain ⟨k, hk, rfl⟩ := upto (n := 3) hc.1.1 hc.1.2 (by omega)
    have es : sN (nI k) = k := nI_clamp (by omega)
    have ok4 := hd.2.2.2 k (by omega)
    have ek := am.1 k (by omega)
    rw [dGet, aGet, if_pos hc, if_pos hc, es]
    have J42 : fndD d k f i = 0 → Ex Γ mX10_get (gx_Z Γ mX10_get (qM h sz d (d_it d k (sN i)))) 0 0 42 [.ref 57, .int (nI k), .int f, .int i, .int (fndD d k f i)] [] h sz := by
      intro e0
      obtain ⟨z1, z2, z3⟩ := fnd0 e0
      rw [ok4.2.1] at z3
      obtain ⟨j, hj, rfl⟩ := below z2 z3 (by omega)
      have ej : sN (nI j) = j := nI_clamp (by omega)
      rw [ej]
      refine x_aload dX10_get_42 rfl ?_
      refine x_get fX10_86 dX10_get_43 (by first | assumption | rfl | exact up_same | exact (up_ne (by omega)).trans (by assumption) | exact (up_ne (by assumption)).trans (by assumption)) ?_
      refine x_k dX10_get_46 ?_
      refine x_iload dX10_get_48 rfl ?_
      refine x_imul dX10_get_49 ?_
      refine x_iload dX10_get_50 rfl ?_
      refine x_iadd dX10_get_51 ?_
      refine x_iald dX10_get_52 (by first | assumption | rfl | exact up_same | exact (up_ne (by omega)).trans (by assumption) | exact (up_ne (by assumption)).trans (by assumption)) (in48 (by omega) (by omega)) ?_
      refine x_iret (ty := .int) dX10_get_53 rfl rfl (Nat.zero_le _) (Nat.zero_le _) ?_
      exact ⟨by rw [ix48, nI_clamp (by omega), am.2 k (by omega) j (by omega)], rfl, hM, fun _ _ => rfl⟩
    refine x_aload dX10_get_19 rfl ?_
    refine x_iload dX10_get_20 rfl ?_
    refine x_iload dX10_get_21 rfl ?_
    refine x_iload dX10_get_22 rfl ?_
    refine x_V3i lX10_244 (Rm.of rfl) (cc1 := 0) (cn1 := 0) rfl rfl (Nat.le_of_ble_eq_true rfl) dX10_get_23 (by first | assumption | rfl | exact up_same | exact (up_ne (by omega)).trans (by assumption) | exact (up_ne (by assumption)).trans (by assumption)) (r_lacks (n := cN (d_si d) k) (fo := d_fo d k) f i a57 a80 a81 a82 (by omega) ek.1 ek.2 ok4.2.1 ok4.2.2) ?_
    refine x_istore dX10_get_26 (Nat.le_of_ble_eq_true rfl) rfl ?_
    refine x_iload dX10_get_28 rfl ?_
    refine x_if_le dX10_get_30 (fun b30 => ?_) (fun b30 => ?_)
    · have hz : fndD d k f i = 0 := fnd_le b30
      rw [if_pos hz, if_pos hz]; exact J42 hz
    · refine x_aload dX10_get_33 rfl ?_
      refine x_iload dX10_get_34 rfl ?_
      refine x_put fX10_241 tt10 gX10_241 dX10_get_36 (by first | assumption | rfl | exact up_same | exact (up_ne (by omega)).trans (by assumption) | exact (up_ne (by assumption)).trans (by assumption)) (Nat.le_of_ble_eq_true rfl) (w10_32 _) ?_
      refine x_ldc kX10_252 dX10_get_39 ?_
      refine x_iret (ty := .int) dX10_get_41 rfl rfl (Nat.zero_le _) (Nat.zero_le _) ?_
      have hz : ¬ fndD d k f i = 0 := fun z => b30 (by show fndD d k f i ≤ 0; rw [z]; exact Int32.le_refl _)
      rw [if_neg hz, if_neg hz]
      exact ⟨rfl, rfl, hM.put (g := d.2.2.2.2.1) (fun k k1 k2 => up_ne (by omega)) rfl a80 a81 a82 a83 a84 am, (by intro k hk; simp only [va_up]; (repeat' split) <;> first | rfl | omega)⟩
  refine x_iload dX10_get_0 rfl ?_
  refine x_S1i lX10_143 (Rm.of rfl) (cc1 := 0) (cn1 := 0) rfl rfl (Nat.le_of_ble_eq_true rfl) dX10_get_1 (r_isSheet s) ?_
  refine x_if_eq dX10_get_4 (fun b4 => ?_) (fun b4 => ?_)
  · try simp only [i01, Classical.not_not] at b4
    refine x_ldc kX10_252 dX10_get_16 ?_
    refine x_iret (ty := .int) dX10_get_18 rfl rfl (Nat.zero_le _) (Nat.zero_le _) ?_
    have hc : ¬ cSF s f := by
      rintro ⟨y1, y2⟩
      first
        | exact b13 y2
        | exact b4 y1
    rw [dGet, aGet, if_neg hc, if_neg hc]
    exact ⟨rfl, rfl, hM, fun _ _ => rfl⟩
  · try simp only [i01, Classical.not_not] at b4
    refine x_iload dX10_get_7 rfl ?_
    refine x_k dX10_get_8 ?_
    refine x_k dX10_get_9 ?_
    refine x_S3i lX10_92 (Rm.of rfl) (cc1 := 0) (cn1 := 0) rfl rfl (Nat.le_of_ble_eq_true rfl) dX10_get_10 (r_in f 0 2) ?_
    refine x_if_ne dX10_get_13 (fun b13 => ?_) (fun b13 => ?_)
    · try simp only [i01, Classical.not_not] at b13
      exact J19 ⟨b4, b13⟩
    · try simp only [i01, Classical.not_not] at b13
      refine x_ldc kX10_252 dX10_get_16 ?_
      refine x_iret (ty := .int) dX10_get_18 rfl rfl (Nat.zero_le _) (Nat.zero_le _) ?_
      have hc : ¬ cSF s f := by
        rintro ⟨y1, y2⟩
        first
          | exact b13 y2
          | exact b4 y1
      rw [dGet, aGet, if_neg hc, if_neg hc]
      exact ⟨rfl, rfl, hM, fun _ _ => rfl⟩
end Sht3
