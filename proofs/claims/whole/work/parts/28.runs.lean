theorem runF_tms {H N : Nat} {pos : Nat → Nat} {w c o : Bool} {own sh sb : Nat → Nat} : ∀ (k p : Nat), (runF H N pos w c o own sh sb k).2.2.1 p ≤ k
  | 0, p => Nat.le_refl 0
  | k + 1, p => by
    rw [runF]
    exact Nat.le_trans sal_tms (Nat.succ_le_succ (runF_tms k p))
abbrev ruH (h : Hp) (H N : Nat) (sa ll fa fi : Int32) (ow kp tm ls : Nat → Int32) : Hp := va_up (seH h ow kp tm ls) 57 (cM (nI H) (nI N) sa ll fa fi)
def qRu (h : Hp) (sz H N : Nat) (sa fa fi : Int32) (many : Nat) (s : SS) : QT := fun r h' sz' => r = none ∧ sz = sz' ∧ ∃ (ow kp tm ls : Nat → Int32) (ll : Int32), mkF H s ow kp tm ∧ (0 < many → ll = nI s.2.2.2) ∧ h' = ruH h H N sa ll fa fi ow kp tm ls
section Runs
variable {Γ : GX} {h : Hp} {sz : Nat} {sa ll fa fi : Int32}
theorem r_begins {H N : Nat} {own : Nat → Nat} {owr ow kp tm : Nat → Int32} (h57 : h 57 = cM (nI H) (nI N) sa ll fa fi) (h60 : h 60 = ia 9 owr) (h68 : h 68 = ia 9 ow) (h69 : h 69 = ia 9 kp) (h70 : h 70 = ia 9 tm) (hH : H ≤ 8) (how : ∀ j, j < H → owr j = nI (own j) ∧ own j < 8) : Re Γ mX10_begins [.ref 57] h sz none (va_up (va_up (va_up h 69 (ia 9 (filG kp (fun p => nI p) 9))) 70 (ia 9 (filF tm 0 9))) 68 (ia 9 (filG ow owr H))) sz := by
  refine x_enter 1 (by decide) rfl ?_
  have L2 : Ex Γ mX10_begins (gx_Z Γ mX10_begins (fun r' h' sz' => r' = none ∧ h' = (va_up (va_up (va_up h 69 (ia 9 (filG kp (fun p => nI p) 9))) 70 (ia 9 (filF tm 0 9))) 68 (ia 9 (filG ow owr H))) ∧ sz' = sz)) 0 0 30 [.ref 57, .int (nI 0)] [] (va_up (va_up (va_up h 69 (ia 9 (filG kp (fun p => nI p) 9))) 70 (ia 9 (filF tm 0 9))) 68 (ia 9 (filG ow owr 0))) sz := by
    refine loopUp (P := fun p => Ex Γ mX10_begins _ 0 0 30 [.ref 57, .int (nI p)] [] (va_up (va_up (va_up h 69 (ia 9 (filG kp (fun p => nI p) 9))) 70 (ia 9 (filF tm 0 9))) 68 (ia 9 (filG ow owr p))) sz) H ?_ (fun p hp ih => ?_) 0 (Nat.zero_le _)
    · refine x_iload dX10_begins_30 rfl ?_
      refine x_aload dX10_begins_31 rfl ?_
      refine x_get fX10_96 dX10_begins_32 (by first | assumption | rfl) ?_
      refine x_icmp_ge dX10_begins_35 (fun b35 => ?_) (fun b35 => ?_)
      · refine x_vret dX10_begins_56 rfl (Nat.zero_le _) (Nat.zero_le _) ?_
        exact ⟨rfl, rfl, rfl⟩
      · exact absurd (Int32.le_refl _) b35
    · refine x_iload dX10_begins_30 rfl ?_
      refine x_aload dX10_begins_31 rfl ?_
      refine x_get fX10_96 dX10_begins_32 (by first | assumption | rfl) ?_
      refine x_icmp_ge dX10_begins_35 (fun b35 => ?_) (fun b35 => ?_)
      · exact absurd b35 (nI_ge hp (by omega))
      · refine x_aload dX10_begins_38 rfl ?_
        refine x_get fX10_40 dX10_begins_39 (by first | assumption | rfl) ?_
        refine x_iload dX10_begins_42 rfl ?_
        refine x_aload dX10_begins_43 rfl ?_
        refine x_get fX10_16 dX10_begins_44 (by first | assumption | rfl) ?_
        refine x_iload dX10_begins_47 rfl ?_
        refine x_ialdn dX10_begins_48 (by first | assumption | rfl) ⟨by first | omega | decide, by decide⟩ ?_
        refine x_iastn dX10_begins_49 (by first | assumption | rfl) ⟨by first | omega | decide, by decide⟩ ?_
        refine x_inc1 dX10_begins_50 rfl (Nat.le_of_ble_eq_true rfl) rfl ?_
        refine x_goto dX10_begins_53 ?_
        rw [up_up, filG_id _ owr _ rfl]
        exact ih
  refine x_k dX10_begins_0 ?_
  refine x_istore dX10_begins_1 (Nat.le_of_ble_eq_true rfl) rfl ?_
  refine x_eq rfl rfl (show _ = va_up (va_up h 69 (ia 9 (filG kp (fun p => nI p) 0))) 70 (ia 9 (filF tm 0 0)) by rw [filG_0, filF_0, up_id h69, up_id h70]) (loopUp (P := fun p => Ex Γ mX10_begins _ 0 0 2 [.ref 57, .int (nI p)] [] (va_up (va_up h 69 (ia 9 (filG kp (fun p => nI p) p))) 70 (ia 9 (filF tm 0 p))) sz) 9 ?_ (fun p hp ih => ?_) 0 (Nat.zero_le _))
  · refine x_iload dX10_begins_2 rfl ?_
    refine x_k dX10_begins_3 ?_
    refine x_icmp_ge dX10_begins_5 (fun b5 => ?_) (fun b5 => ?_)
    · refine x_k dX10_begins_28 ?_
      refine x_istore dX10_begins_29 (Nat.le_of_ble_eq_true rfl) rfl ?_
      refine x_eq rfl rfl ?_ L2
      rw [filG_0 ow]
      exact (by funext j; simp only [va_up]; (repeat' split) <;> first | rfl | omega | simp_all)
    · exact absurd (by decide) b5
  · refine x_iload dX10_begins_2 rfl ?_
    refine x_k dX10_begins_3 ?_
    refine x_icmp_ge dX10_begins_5 (fun b5 => ?_) (fun b5 => ?_)
    · exact absurd b5 (nI_ge (b := 9) hp (by decide))
    · refine x_aload dX10_begins_8 rfl ?_
      refine x_get fX10_43 dX10_begins_9 (by first | assumption | rfl) ?_
      refine x_iload dX10_begins_12 rfl ?_
      refine x_iload dX10_begins_13 rfl ?_
      refine x_iastn dX10_begins_14 (by first | assumption | rfl) ⟨by first | omega | decide, by decide⟩ ?_
      refine x_aload dX10_begins_15 rfl ?_
      refine x_get fX10_46 dX10_begins_16 (by first | assumption | rfl) ?_
      refine x_iload dX10_begins_19 rfl ?_
      refine x_k dX10_begins_20 ?_
      refine x_iastn dX10_begins_21 (by first | assumption | rfl) ⟨by first | omega | decide, by decide⟩ ?_
      refine x_inc1 dX10_begins_22 rfl (Nat.le_of_ble_eq_true rfl) rfl ?_
      refine x_goto dX10_begins_25 ?_
      refine x_eq rfl rfl ?_ ih
      rw [filG_id _ (fun p => nI p) _ rfl, filF_s]
      exact (by funext j; simp only [va_up]; (repeat' split) <;> first | rfl | omega | simp_all)
theorem r_runs {H N many : Nat} {pos own sh sb : Nat → Nat} {w c o : Bool} {owr wh ow kp tm ls lw shF sbF : Nat → Int32} (h57 : h 57 = cM (nI H) (nI N) sa ll fa fi) (h60 : h 60 = ia 9 owr) (h64 : h 64 = ia 3 lw) (h65 : h 65 = ia 12 shF) (h66 : h 66 = ia 12 sbF) (h67 : h 67 = ia 9 wh) (h68 : h 68 = ia 9 ow) (h69 : h 69 = ia 9 kp) (h70 : h 70 = ia 9 tm) (h71 : h 71 = ia 9 ls) (hw : lw 0 = 1 ↔ w = true) (hc : lw 1 = 1 ↔ c = true) (ho : lw 2 = 0 ↔ o = false) (hwh : ∀ p, p < N → wh p = nI (pos p) - 1 ∧ pos p ≤ 8) (hH : H ≤ 8) (hN : N ≤ 8) (how : ∀ j, j < H → owr j = nI (own j) ∧ own j < 8) (hsh : ∀ i, i < many → shF i = nI (sh i) ∧ sh i < 8 ∧ sbF i = nI (sb i) ∧ sb i < 8) (hm : many ≤ 12) : Rn Γ mX10_runs [.ref 57, .int (nI many)] h sz (qRu h sz H N sa fa fi many (runF H N pos w c o own sh sb many)) := by
  refine x_enter 1 (by decide) rfl ?_
  refine x_aload dX10_runs_0 rfl ?_
  refine x_V0v lX10_153 (Rm.of rfl) (cc1 := 0) (cn1 := 0) rfl rfl (Nat.le_of_ble_eq_true rfl) dX10_runs_1 (by first | assumption | rfl) (r_begins (own := own) h57 h60 h68 h69 h70 hH how) ?_
  refine x_k dX10_runs_4 ?_
  refine x_istore dX10_runs_5 (Nat.le_of_ble_eq_true rfl) rfl ?_
  have e0 : va_up (va_up (va_up h 69 (ia 9 (filG kp (fun p => nI p) 9))) 70 (ia 9 (filF tm 0 9))) 68 (ia 9 (filG ow owr H)) = ruH h H N sa ll fa fi (filG ow owr H) (filG kp (fun p => nI p) 9) (filF tm 0 9) ls := by
    exact (by funext j; simp only [va_up]; (repeat' split) <;> first | rfl | omega | simp_all)
  have k0 : mkF H (runF H N pos w c o own sh sb 0) (filG ow owr H) (filG kp (fun p => nI p) 9) (filF tm 0 9) := ⟨fun j hj => by rw [filG_lt hj]; exact how j hj, fun p hp => ⟨filG_lt (by omega), hp⟩, fun p hp => by rw [filF, if_pos (by omega)]; rfl⟩
  refine x_eq rfl rfl e0 (loopUp (P := fun k => ∀ (ow kp tm ls : Nat → Int32) (ll : Int32), mkF H (runF H N pos w c o own sh sb k) ow kp tm → (0 < k → ll = nI (runF H N pos w c o own sh sb k).2.2.2) → Ex Γ mX10_runs _ 0 0 6 [.ref 57, .int (nI many), .int (nI k)] [] (ruH h H N sa ll fa fi ow kp tm ls) sz) many ?_ (fun k hk ih => ?_) 0 (Nat.zero_le _) _ _ _ _ _ k0 (fun q => absurd q (Nat.lt_irrefl 0)))
  · intro ow kp tm ls ll g1 g2
    refine x_iload dX10_runs_6 rfl ?_
    refine x_iload dX10_runs_7 rfl ?_
    refine x_icmp_ge dX10_runs_8 (fun b8 => ?_) (fun b8 => ?_)
    · refine x_vret dX10_runs_37 rfl (Nat.zero_le _) (Nat.zero_le _) ?_
      exact ⟨rfl, rfl, ow, kp, tm, ls, ll, g1, g2, rfl⟩
    · exact absurd (Int32.le_refl _) b8
  · intro ow kp tm ls ll g1 g2
    obtain ⟨s1, s2, s3, s4⟩ := hsh k hk
    refine x_iload dX10_runs_6 rfl ?_
    refine x_iload dX10_runs_7 rfl ?_
    refine x_icmp_ge dX10_runs_8 (fun b8 => ?_) (fun b8 => ?_)
    · exact absurd b8 (nI_ge hk (by omega))
    · refine x_aload dX10_runs_11 rfl ?_
      refine x_aload dX10_runs_12 rfl ?_
      refine x_aload dX10_runs_13 rfl ?_
      refine x_get fX10_31 dX10_runs_14 (by first | assumption | rfl) ?_
      refine x_iload dX10_runs_17 rfl ?_
      refine x_ialdn dX10_runs_18 (by first | assumption | rfl) ⟨by first | omega | decide, by decide⟩ ?_
      refine x_aload dX10_runs_19 rfl ?_
      refine x_get fX10_34 dX10_runs_20 (by first | assumption | rfl) ?_
      refine x_iload dX10_runs_23 rfl ?_
      refine x_ialdn dX10_runs_24 (by first | assumption | rfl) ⟨by first | omega | decide, by decide⟩ ?_
      rw [s1, s3]
      refine x_V2q lX10_156 (Rm.of rfl) (cc1 := 0) (cn1 := 0) rfl rfl (Nat.le_of_ble_eq_true rfl) dX10_runs_25 (by first | assumption | rfl) (r_sells (pos := pos) rfl h64 h67 rfl rfl rfl rfl hw hc ho hwh g1 hH hN s2 s4 (fun p _ => Nat.le_trans (runF_tms k p) (by omega))) ?_
      rintro _ _ _ ⟨rfl, rfl, ow2, kp2, tm2, ls2, g3, rfl⟩
      refine x_put fX10_159 tt10 gX10_159 dX10_runs_28 (by first | assumption | rfl) (Nat.le_of_ble_eq_true rfl) (w10_17 _) ?_
      refine x_inc1 dX10_runs_31 rfl (Nat.le_of_ble_eq_true rfl) rfl ?_
      refine x_goto dX10_runs_34 ?_
      refine x_eq rfl rfl ?_ (ih ow2 kp2 tm2 ls2 _ g3 (fun _ => rfl))
      exact (by funext j; simp only [va_up]; (repeat' split) <;> first | rfl | omega | simp_all)
end Runs
