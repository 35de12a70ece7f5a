set_option maxRecDepth 20000 in
theorem r_X8_init_6 {Γ : GX} {h : Hp} (h0 : h 6 = ob 8 [.null, .int 0]) : Re Γ mX8_init [.ref 6, .int 30] h 7 none (va_up (va_up (va_up h 6 (ob 8 [.null, .int 0])) 7 (some (.inl (.int, 30, .inl (fun _ => 0))))) 6 (ob 8 [.ref 7, .int 0])) 8 := by
  refine x_enter 0 (by decide) rfl ?_
  refine x_aload dX8_init_0 rfl ?_
  refine x_objInit lX8_1 dX8_init_1 (Nat.le_of_ble_eq_true rfl) ⟨(Nat.le_of_ble_eq_true rfl), (Nat.le_of_ble_eq_true rfl)⟩ ?_
  refine x_aload dX8_init_4 rfl ?_
  refine x_k dX8_init_5 ?_
  refine x_put fX8_7 tt8 gX8_7 dX8_init_6 (by first | rfl | assumption) (Nat.le_of_ble_eq_true rfl) (w8_1 _) ?_
  refine x_aload dX8_init_9 rfl ?_
  refine x_iload dX8_init_10 rfl ?_
  refine x_newaI (N := 30) dX8_init_11 (by decide) (by decide) (Nat.le_of_ble_eq_true rfl) (Nat.le_of_ble_eq_true rfl) (Nat.le_of_ble_eq_true rfl) ?_
  refine x_putF fX8_13 tt8 gX8_13 rfl dX8_init_13 (by first | rfl | assumption) (Nat.le_of_ble_eq_true rfl) (by first | exact w8_0 _ | exact w8_0n) ?_
  refine x_vret dX8_init_16 rfl (Nat.le_of_ble_eq_true rfl) (Nat.le_of_ble_eq_true rfl) ?_
  exact ⟨rfl, rfl, rfl⟩
set_option maxRecDepth 20000 in
theorem r_X8_init_8 {Γ : GX} {h : Hp} (h0 : h 8 = ob 8 [.null, .int 0]) : Re Γ mX8_init [.ref 8, .int 24] h 9 none (va_up (va_up (va_up h 8 (ob 8 [.null, .int 0])) 9 (some (.inl (.int, 24, .inl (fun _ => 0))))) 8 (ob 8 [.ref 9, .int 0])) 10 := by
  refine x_enter 0 (by decide) rfl ?_
  refine x_aload dX8_init_0 rfl ?_
  refine x_objInit lX8_1 dX8_init_1 (Nat.le_of_ble_eq_true rfl) ⟨(Nat.le_of_ble_eq_true rfl), (Nat.le_of_ble_eq_true rfl)⟩ ?_
  refine x_aload dX8_init_4 rfl ?_
  refine x_k dX8_init_5 ?_
  refine x_put fX8_7 tt8 gX8_7 dX8_init_6 (by first | rfl | assumption) (Nat.le_of_ble_eq_true rfl) (w8_1 _) ?_
  refine x_aload dX8_init_9 rfl ?_
  refine x_iload dX8_init_10 rfl ?_
  refine x_newaI (N := 24) dX8_init_11 (by decide) (by decide) (Nat.le_of_ble_eq_true rfl) (Nat.le_of_ble_eq_true rfl) (Nat.le_of_ble_eq_true rfl) ?_
  refine x_putF fX8_13 tt8 gX8_13 rfl dX8_init_13 (by first | rfl | assumption) (Nat.le_of_ble_eq_true rfl) (by first | exact w8_0 _ | exact w8_0n) ?_
  refine x_vret dX8_init_16 rfl (Nat.le_of_ble_eq_true rfl) (Nat.le_of_ble_eq_true rfl) ?_
  exact ⟨rfl, rfl, rfl⟩
set_option maxRecDepth 20000 in
theorem r_X5_init_10 {Γ : GX} {h : Hp} (h0 : h 10 = ob 5 [.int 0, .int 0, .null, .null, .null, .null, .null, .null]) : Re Γ mX5_init [.ref 10] h 11 none (va_up (va_up (va_up (va_up (va_up (va_up (va_up (va_up (va_up (va_up (va_up (va_up (va_up (va_up h 10 (ob 5 [.int 0, .int 0, .null, .null, .null, .null, .null, .null])) 10 (ob 5 [.int 0, .int 0, .null, .null, .null, .null, .null, .null])) 11 (some (.inl (.int, 8, .inl (fun _ => 0))))) 10 (ob 5 [.int 0, .int 0, .ref 11, .null, .null, .null, .null, .null])) 12 (some (.inl (.int, 8, .inl (fun _ => 0))))) 10 (ob 5 [.int 0, .int 0, .ref 11, .ref 12, .null, .null, .null, .null])) 13 (some (.inl (.int, 8, .inl (fun _ => 0))))) 10 (ob 5 [.int 0, .int 0, .ref 11, .ref 12, .ref 13, .null, .null, .null])) 14 (some (.inl (.int, 8, .inl (fun _ => 0))))) 10 (ob 5 [.int 0, .int 0, .ref 11, .ref 12, .ref 13, .ref 14, .null, .null])) 15 (some (.inl (.int, 8, .inl (fun _ => 0))))) 10 (ob 5 [.int 0, .int 0, .ref 11, .ref 12, .ref 13, .ref 14, .ref 15, .null])) 16 (some (.inl (.int, 9, .inl (fun _ => 0))))) 10 (ob 5 [.int 0, .int 0, .ref 11, .ref 12, .ref 13, .ref 14, .ref 15, .ref 16])) 17 := by
  refine x_enter 0 (by decide) rfl ?_
  refine x_aload dX5_init_0 rfl ?_
  refine x_objInit lX5_3 dX5_init_1 (Nat.le_of_ble_eq_true rfl) ⟨(Nat.le_of_ble_eq_true rfl), (Nat.le_of_ble_eq_true rfl)⟩ ?_
  refine x_aload dX5_init_4 rfl ?_
  refine x_k dX5_init_5 ?_
  refine x_put fX5_9 tt5 gX5_9 dX5_init_6 (by first | rfl | assumption) (Nat.le_of_ble_eq_true rfl) (w5_0 _) ?_
  refine x_aload dX5_init_9 rfl ?_
  refine x_k dX5_init_10 ?_
  refine x_put fX5_15 tt5 gX5_15 dX5_init_11 (by first | rfl | assumption) (Nat.le_of_ble_eq_true rfl) (w5_1 _) ?_
  refine x_aload dX5_init_14 rfl ?_
  refine x_k dX5_init_15 ?_
  refine x_newaI (N := 8) dX5_init_17 (by decide) (by decide) (Nat.le_of_ble_eq_true rfl) (Nat.le_of_ble_eq_true rfl) (Nat.le_of_ble_eq_true rfl) ?_
  refine x_putF fX5_18 tt5 gX5_18 rfl dX5_init_19 (by first | rfl | assumption) (Nat.le_of_ble_eq_true rfl) (by first | exact w5_2 _ | exact w5_2n) ?_
  refine x_aload dX5_init_22 rfl ?_
  refine x_k dX5_init_23 ?_
  refine x_newaI (N := 8) dX5_init_25 (by decide) (by decide) (Nat.le_of_ble_eq_true rfl) (Nat.le_of_ble_eq_true rfl) (Nat.le_of_ble_eq_true rfl) ?_
  refine x_putF fX5_22 tt5 gX5_22 rfl dX5_init_27 (by first | rfl | assumption) (Nat.le_of_ble_eq_true rfl) (by first | exact w5_3 _ | exact w5_3n) ?_
  refine x_aload dX5_init_30 rfl ?_
  refine x_k dX5_init_31 ?_
  refine x_newaI (N := 8) dX5_init_33 (by decide) (by decide) (Nat.le_of_ble_eq_true rfl) (Nat.le_of_ble_eq_true rfl) (Nat.le_of_ble_eq_true rfl) ?_
  refine x_putF fX5_25 tt5 gX5_25 rfl dX5_init_35 (by first | rfl | assumption) (Nat.le_of_ble_eq_true rfl) (by first | exact w5_4 _ | exact w5_4n) ?_
  refine x_aload dX5_init_38 rfl ?_
  refine x_k dX5_init_39 ?_
  refine x_newaI (N := 8) dX5_init_41 (by decide) (by decide) (Nat.le_of_ble_eq_true rfl) (Nat.le_of_ble_eq_true rfl) (Nat.le_of_ble_eq_true rfl) ?_
  refine x_putF fX5_28 tt5 gX5_28 rfl dX5_init_43 (by first | rfl | assumption) (Nat.le_of_ble_eq_true rfl) (by first | exact w5_5 _ | exact w5_5n) ?_
  refine x_aload dX5_init_46 rfl ?_
  refine x_k dX5_init_47 ?_
  refine x_newaI (N := 8) dX5_init_49 (by decide) (by decide) (Nat.le_of_ble_eq_true rfl) (Nat.le_of_ble_eq_true rfl) (Nat.le_of_ble_eq_true rfl) ?_
  refine x_putF fX5_31 tt5 gX5_31 rfl dX5_init_51 (by first | rfl | assumption) (Nat.le_of_ble_eq_true rfl) (by first | exact w5_6 _ | exact w5_6n) ?_
  refine x_aload dX5_init_54 rfl ?_
  refine x_k dX5_init_55 ?_
  refine x_newaI (N := 9) dX5_init_57 (by decide) (by decide) (Nat.le_of_ble_eq_true rfl) (Nat.le_of_ble_eq_true rfl) (Nat.le_of_ble_eq_true rfl) ?_
  refine x_putF fX5_34 tt5 gX5_34 rfl dX5_init_59 (by first | rfl | assumption) (Nat.le_of_ble_eq_true rfl) (by first | exact w5_7 _ | exact w5_7n) ?_
  refine x_vret dX5_init_62 rfl (Nat.le_of_ble_eq_true rfl) (Nat.le_of_ble_eq_true rfl) ?_
  exact ⟨rfl, rfl, rfl⟩
set_option maxRecDepth 20000 in
theorem r_X3_init_17 {Γ : GX} {h : Hp} (h0 : h 17 = ob 3 [.int 0, .int 0, .null, .null]) : Re Γ mX3_init [.ref 17] h 18 none (va_up (va_up (va_up (va_up (va_up (va_up h 17 (ob 3 [.int 7, .int 0, .null, .null])) 17 (ob 3 [.int 7, .int 0, .null, .null])) 18 (some (.inl (.int, 12, .inl (fun _ => 0))))) 17 (ob 3 [.int 7, .int 0, .ref 18, .null])) 19 (some (.inl (.int, 12, .inl (fun _ => 0))))) 17 (ob 3 [.int 7, .int 0, .ref 18, .ref 19])) 20 := by
  refine x_enter 0 (by decide) rfl ?_
  refine x_aload dX3_init_0 rfl ?_
  refine x_objInit lX3_3 dX3_init_1 (Nat.le_of_ble_eq_true rfl) ⟨(Nat.le_of_ble_eq_true rfl), (Nat.le_of_ble_eq_true rfl)⟩ ?_
  refine x_aload dX3_init_4 rfl ?_
  refine x_k dX3_init_5 ?_
  refine x_put fX3_9 tt3 gX3_9 dX3_init_7 (by first | rfl | assumption) (Nat.le_of_ble_eq_true rfl) (w3_0 _) ?_
  refine x_aload dX3_init_10 rfl ?_
  refine x_k dX3_init_11 ?_
  refine x_put fX3_15 tt3 gX3_15 dX3_init_12 (by first | rfl | assumption) (Nat.le_of_ble_eq_true rfl) (w3_1 _) ?_
  refine x_aload dX3_init_15 rfl ?_
  refine x_k dX3_init_16 ?_
  refine x_newaI (N := 12) dX3_init_18 (by decide) (by decide) (Nat.le_of_ble_eq_true rfl) (Nat.le_of_ble_eq_true rfl) (Nat.le_of_ble_eq_true rfl) ?_
  refine x_putF fX3_18 tt3 gX3_18 rfl dX3_init_20 (by first | rfl | assumption) (Nat.le_of_ble_eq_true rfl) (by first | exact w3_2 _ | exact w3_2n) ?_
  refine x_aload dX3_init_23 rfl ?_
  refine x_k dX3_init_24 ?_
  refine x_newaI (N := 12) dX3_init_26 (by decide) (by decide) (Nat.le_of_ble_eq_true rfl) (Nat.le_of_ble_eq_true rfl) (Nat.le_of_ble_eq_true rfl) ?_
  refine x_putF fX3_22 tt3 gX3_22 rfl dX3_init_28 (by first | rfl | assumption) (Nat.le_of_ble_eq_true rfl) (by first | exact w3_3 _ | exact w3_3n) ?_
  refine x_vret dX3_init_31 rfl (Nat.le_of_ble_eq_true rfl) (Nat.le_of_ble_eq_true rfl) ?_
  exact ⟨rfl, rfl, rfl⟩
set_option maxRecDepth 20000 in
theorem r_X6_init_20 {Γ : GX} {h : Hp} (h0 : h 20 = ob 6 [.null, .null, .null, .null, .int 0, .int 0, .int 0]) : Re Γ mX6_init [.ref 20] h 21 none (va_up (va_up (va_up (va_up (va_up (va_up (va_up (va_up (va_up (va_up (va_up h 21 (some (.inl (.int, 8, .inl (fun _ => 0))))) 20 (ob 6 [.ref 21, .null, .null, .null, .int 0, .int 0, .int 0])) 22 (some (.inl (.int, 8, .inl (fun _ => 0))))) 20 (ob 6 [.ref 21, .ref 22, .null, .null, .int 0, .int 0, .int 0])) 23 (some (.inl (.int, 8, .inl (fun _ => 0))))) 20 (ob 6 [.ref 21, .ref 22, .ref 23, .null, .int 0, .int 0, .int 0])) 24 (some (.inl (.int, 8, .inl (fun _ => 0))))) 20 (ob 6 [.ref 21, .ref 22, .ref 23, .ref 24, .int 0, .int 0, .int 0])) 20 (ob 6 [.ref 21, .ref 22, .ref 23, .ref 24, .int 0, .int 0, .int 0])) 20 (ob 6 [.ref 21, .ref 22, .ref 23, .ref 24, .int 0, .int 0, .int 0])) 20 (ob 6 [.ref 21, .ref 22, .ref 23, .ref 24, .int 0, .int 0, .int 0])) 25 := by
  refine x_enter 0 (by decide) rfl ?_
  refine x_aload dX6_init_0 rfl ?_
  refine x_objInit lX6_3 dX6_init_1 (Nat.le_of_ble_eq_true rfl) ⟨(Nat.le_of_ble_eq_true rfl), (Nat.le_of_ble_eq_true rfl)⟩ ?_
  refine x_aload dX6_init_4 rfl ?_
  refine x_k dX6_init_5 ?_
  refine x_newaI (N := 8) dX6_init_7 (by decide) (by decide) (Nat.le_of_ble_eq_true rfl) (Nat.le_of_ble_eq_true rfl) (Nat.le_of_ble_eq_true rfl) ?_
  refine x_putF fX6_9 tt6 gX6_9 rfl dX6_init_9 (by first | rfl | assumption) (Nat.le_of_ble_eq_true rfl) (by first | exact w6_0 _ | exact w6_0n) ?_
  refine x_aload dX6_init_12 rfl ?_
  refine x_k dX6_init_13 ?_
  refine x_newaI (N := 8) dX6_init_15 (by decide) (by decide) (Nat.le_of_ble_eq_true rfl) (Nat.le_of_ble_eq_true rfl) (Nat.le_of_ble_eq_true rfl) ?_
  refine x_putF fX6_15 tt6 gX6_15 rfl dX6_init_17 (by first | rfl | assumption) (Nat.le_of_ble_eq_true rfl) (by first | exact w6_1 _ | exact w6_1n) ?_
  refine x_aload dX6_init_20 rfl ?_
  refine x_k dX6_init_21 ?_
  refine x_newaI (N := 8) dX6_init_23 (by decide) (by decide) (Nat.le_of_ble_eq_true rfl) (Nat.le_of_ble_eq_true rfl) (Nat.le_of_ble_eq_true rfl) ?_
  refine x_putF fX6_18 tt6 gX6_18 rfl dX6_init_25 (by first | rfl | assumption) (Nat.le_of_ble_eq_true rfl) (by first | exact w6_2 _ | exact w6_2n) ?_
  refine x_aload dX6_init_28 rfl ?_
  refine x_k dX6_init_29 ?_
  refine x_newaI (N := 8) dX6_init_31 (by decide) (by decide) (Nat.le_of_ble_eq_true rfl) (Nat.le_of_ble_eq_true rfl) (Nat.le_of_ble_eq_true rfl) ?_
  refine x_putF fX6_21 tt6 gX6_21 rfl dX6_init_33 (by first | rfl | assumption) (Nat.le_of_ble_eq_true rfl) (by first | exact w6_3 _ | exact w6_3n) ?_
  refine x_aload dX6_init_36 rfl ?_
  refine x_k dX6_init_37 ?_
  refine x_put fX6_24 tt6 gX6_24 dX6_init_38 (by first | rfl | assumption) (Nat.le_of_ble_eq_true rfl) (w6_4 _) ?_
  refine x_aload dX6_init_41 rfl ?_
  refine x_k dX6_init_42 ?_
  refine x_put fX6_28 tt6 gX6_28 dX6_init_43 (by first | rfl | assumption) (Nat.le_of_ble_eq_true rfl) (w6_5 _) ?_
  refine x_aload dX6_init_46 rfl ?_
  refine x_k dX6_init_47 ?_
  refine x_put fX6_31 tt6 gX6_31 dX6_init_48 (by first | rfl | assumption) (Nat.le_of_ble_eq_true rfl) (w6_6 _) ?_
  refine x_vret dX6_init_51 rfl (Nat.le_of_ble_eq_true rfl) (Nat.le_of_ble_eq_true rfl) ?_
  exact ⟨rfl, rfl, rfl⟩
set_option maxRecDepth 20000 in
theorem r_X7_init_25 {Γ : GX} {h : Hp} (h0 : h 25 = ob 7 [.null, .null]) : Re Γ mX7_init [.ref 25] h 26 none (va_up (va_up (va_up (va_up h 26 (some (.inl (.int, 64, .inl (fun _ => 0))))) 25 (ob 7 [.ref 26, .null])) 27 (some (.inl (.int, 64, .inl (fun _ => 0))))) 25 (ob 7 [.ref 26, .ref 27])) 28 := by
  refine x_enter 0 (by decide) rfl ?_
  refine x_aload dX7_init_0 rfl ?_
  refine x_objInit lX7_3 dX7_init_1 (Nat.le_of_ble_eq_true rfl) ⟨(Nat.le_of_ble_eq_true rfl), (Nat.le_of_ble_eq_true rfl)⟩ ?_
  refine x_aload dX7_init_4 rfl ?_
  refine x_k dX7_init_5 ?_
  refine x_newaI (N := 64) dX7_init_7 (by decide) (by decide) (Nat.le_of_ble_eq_true rfl) (Nat.le_of_ble_eq_true rfl) (Nat.le_of_ble_eq_true rfl) ?_
  refine x_putF fX7_9 tt7 gX7_9 rfl dX7_init_9 (by first | rfl | assumption) (Nat.le_of_ble_eq_true rfl) (by first | exact w7_0 _ | exact w7_0n) ?_
  refine x_aload dX7_init_12 rfl ?_
  refine x_k dX7_init_13 ?_
  refine x_newaI (N := 64) dX7_init_15 (by decide) (by decide) (Nat.le_of_ble_eq_true rfl) (Nat.le_of_ble_eq_true rfl) (Nat.le_of_ble_eq_true rfl) ?_
  refine x_putF fX7_15 tt7 gX7_15 rfl dX7_init_17 (by first | rfl | assumption) (Nat.le_of_ble_eq_true rfl) (by first | exact w7_1 _ | exact w7_1n) ?_
  refine x_vret dX7_init_20 rfl (Nat.le_of_ble_eq_true rfl) (Nat.le_of_ble_eq_true rfl) ?_
  exact ⟨rfl, rfl, rfl⟩
set_option maxRecDepth 20000 in
theorem r_X6_init_29 {Γ : GX} {h : Hp} (h0 : h 29 = ob 6 [.null, .null, .null, .null, .int 0, .int 0, .int 0]) : Re Γ mX6_init [.ref 29] h 30 none (va_up (va_up (va_up (va_up (va_up (va_up (va_up (va_up (va_up (va_up (va_up h 30 (some (.inl (.int, 8, .inl (fun _ => 0))))) 29 (ob 6 [.ref 30, .null, .null, .null, .int 0, .int 0, .int 0])) 31 (some (.inl (.int, 8, .inl (fun _ => 0))))) 29 (ob 6 [.ref 30, .ref 31, .null, .null, .int 0, .int 0, .int 0])) 32 (some (.inl (.int, 8, .inl (fun _ => 0))))) 29 (ob 6 [.ref 30, .ref 31, .ref 32, .null, .int 0, .int 0, .int 0])) 33 (some (.inl (.int, 8, .inl (fun _ => 0))))) 29 (ob 6 [.ref 30, .ref 31, .ref 32, .ref 33, .int 0, .int 0, .int 0])) 29 (ob 6 [.ref 30, .ref 31, .ref 32, .ref 33, .int 0, .int 0, .int 0])) 29 (ob 6 [.ref 30, .ref 31, .ref 32, .ref 33, .int 0, .int 0, .int 0])) 29 (ob 6 [.ref 30, .ref 31, .ref 32, .ref 33, .int 0, .int 0, .int 0])) 34 := by
  refine x_enter 0 (by decide) rfl ?_
  refine x_aload dX6_init_0 rfl ?_
  refine x_objInit lX6_3 dX6_init_1 (Nat.le_of_ble_eq_true rfl) ⟨(Nat.le_of_ble_eq_true rfl), (Nat.le_of_ble_eq_true rfl)⟩ ?_
  refine x_aload dX6_init_4 rfl ?_
  refine x_k dX6_init_5 ?_
  refine x_newaI (N := 8) dX6_init_7 (by decide) (by decide) (Nat.le_of_ble_eq_true rfl) (Nat.le_of_ble_eq_true rfl) (Nat.le_of_ble_eq_true rfl) ?_
  refine x_putF fX6_9 tt6 gX6_9 rfl dX6_init_9 (by first | rfl | assumption) (Nat.le_of_ble_eq_true rfl) (by first | exact w6_0 _ | exact w6_0n) ?_
  refine x_aload dX6_init_12 rfl ?_
  refine x_k dX6_init_13 ?_
  refine x_newaI (N := 8) dX6_init_15 (by decide) (by decide) (Nat.le_of_ble_eq_true rfl) (Nat.le_of_ble_eq_true rfl) (Nat.le_of_ble_eq_true rfl) ?_
  refine x_putF fX6_15 tt6 gX6_15 rfl dX6_init_17 (by first | rfl | assumption) (Nat.le_of_ble_eq_true rfl) (by first | exact w6_1 _ | exact w6_1n) ?_
  refine x_aload dX6_init_20 rfl ?_
  refine x_k dX6_init_21 ?_
  refine x_newaI (N := 8) dX6_init_23 (by decide) (by decide) (Nat.le_of_ble_eq_true rfl) (Nat.le_of_ble_eq_true rfl) (Nat.le_of_ble_eq_true rfl) ?_
  refine x_putF fX6_18 tt6 gX6_18 rfl dX6_init_25 (by first | rfl | assumption) (Nat.le_of_ble_eq_true rfl) (by first | exact w6_2 _ | exact w6_2n) ?_
  refine x_aload dX6_init_28 rfl ?_
  refine x_k dX6_init_29 ?_
  refine x_newaI (N := 8) dX6_init_31 (by decide) (by decide) (Nat.le_of_ble_eq_true rfl) (Nat.le_of_ble_eq_true rfl) (Nat.le_of_ble_eq_true rfl) ?_
  refine x_putF fX6_21 tt6 gX6_21 rfl dX6_init_33 (by first | rfl | assumption) (Nat.le_of_ble_eq_true rfl) (by first | exact w6_3 _ | exact w6_3n) ?_
  refine x_aload dX6_init_36 rfl ?_
  refine x_k dX6_init_37 ?_
  refine x_put fX6_24 tt6 gX6_24 dX6_init_38 (by first | rfl | assumption) (Nat.le_of_ble_eq_true rfl) (w6_4 _) ?_
  refine x_aload dX6_init_41 rfl ?_
  refine x_k dX6_init_42 ?_
  refine x_put fX6_28 tt6 gX6_28 dX6_init_43 (by first | rfl | assumption) (Nat.le_of_ble_eq_true rfl) (w6_5 _) ?_
  refine x_aload dX6_init_46 rfl ?_
  refine x_k dX6_init_47 ?_
  refine x_put fX6_31 tt6 gX6_31 dX6_init_48 (by first | rfl | assumption) (Nat.le_of_ble_eq_true rfl) (w6_6 _) ?_
  refine x_vret dX6_init_51 rfl (Nat.le_of_ble_eq_true rfl) (Nat.le_of_ble_eq_true rfl) ?_
  exact ⟨rfl, rfl, rfl⟩
set_option maxRecDepth 20000 in
theorem r_X2_init_28 {Γ : GX} {h : Hp} (h0 : h 28 = ob 2 [.null, .null, .null, .null, .null, .null, .int 0, .int 0, .int 0, .int 0, .int 0, .int 0, .int 0, .int 0, .int 0, .null]) : Re Γ mX2_init [.ref 28] h 29 none (va_up (va_up (va_up (va_up (va_up (va_up (va_up (va_up (va_up (va_up (va_up (va_up (va_up (va_up (va_up (va_up (va_up (va_up (va_up (va_up (va_up (va_up (va_up (va_up (va_up (va_up (va_up (va_up (va_up (va_up (va_up (va_up (va_up (va_up (va_up (va_up (va_up (va_up (va_up (va_up (va_up h 29 (ob 6 [.null, .null, .null, .null, .int 0, .int 0, .int 0])) 30 (some (.inl (.int, 8, .inl (fun _ => 0))))) 29 (ob 6 [.ref 30, .null, .null, .null, .int 0, .int 0, .int 0])) 31 (some (.inl (.int, 8, .inl (fun _ => 0))))) 29 (ob 6 [.ref 30, .ref 31, .null, .null, .int 0, .int 0, .int 0])) 32 (some (.inl (.int, 8, .inl (fun _ => 0))))) 29 (ob 6 [.ref 30, .ref 31, .ref 32, .null, .int 0, .int 0, .int 0])) 33 (some (.inl (.int, 8, .inl (fun _ => 0))))) 29 (ob 6 [.ref 30, .ref 31, .ref 32, .ref 33, .int 0, .int 0, .int 0])) 29 (ob 6 [.ref 30, .ref 31, .ref 32, .ref 33, .int 0, .int 0, .int 0])) 29 (ob 6 [.ref 30, .ref 31, .ref 32, .ref 33, .int 0, .int 0, .int 0])) 29 (ob 6 [.ref 30, .ref 31, .ref 32, .ref 33, .int 0, .int 0, .int 0])) 28 (ob 2 [.ref 29, .null, .null, .null, .null, .null, .int 0, .int 0, .int 0, .int 0, .int 0, .int 0, .int 0, .int 0, .int 0, .null])) 34 (some (.inl (.int, 9, .inl (fun _ => 0))))) 28 (ob 2 [.ref 29, .ref 34, .null, .null, .null, .null, .int 0, .int 0, .int 0, .int 0, .int 0, .int 0, .int 0, .int 0, .int 0, .null])) 35 (some (.inl (.int, 4, .inl (fun _ => 0))))) 28 (ob 2 [.ref 29, .ref 34, .ref 35, .null, .null, .null, .int 0, .int 0, .int 0, .int 0, .int 0, .int 0, .int 0, .int 0, .int 0, .null])) 36 (some (.inl (.int, 4, .inl (fun _ => 0))))) 36 (some (.inl (.int, 4, .inl (upd (fun _ => 0) 0 1))))) 36 (some (.inl (.int, 4, .inl (upd (upd (fun _ => 0) 0 1) 1 1))))) 36 (some (.inl (.int, 4, .inl (upd (upd (upd (fun _ => 0) 0 1) 1 1) 2 1))))) 36 (some (.inl (.int, 4, .inl (upd (upd (upd (upd (fun _ => 0) 0 1) 1 1) 2 1) 3 1))))) 28 (ob 2 [.ref 29, .ref 34, .ref 35, .ref 36, .null, .null, .int 0, .int 0, .int 0, .int 0, .int 0, .int 0, .int 0, .int 0, .int 0, .null])) 37 (some (.inl (.int, 4, .inl (fun _ => 0))))) 37 (some (.inl (.int, 4, .inl (upd (fun _ => 0) 0 (-1)))))) 37 (some (.inl (.int, 4, .inl (upd (upd (fun _ => 0) 0 (-1)) 1 (-1)))))) 37 (some (.inl (.int, 4, .inl (upd (upd (upd (fun _ => 0) 0 (-1)) 1 (-1)) 2 (-1)))))) 37 (some (.inl (.int, 4, .inl (upd (upd (upd (upd (fun _ => 0) 0 (-1)) 1 (-1)) 2 (-1)) 3 (-1)))))) 28 (ob 2 [.ref 29, .ref 34, .ref 35, .ref 36, .ref 37, .null, .int 0, .int 0, .int 0, .int 0, .int 0, .int 0, .int 0, .int 0, .int 0, .null])) 28 (ob 2 [.ref 29, .ref 34, .ref 35, .ref 36, .ref 37, .null, .int 0, .int 0, .int 0, .int 0, .int 0, .int 0, .int 0, .int 0, .int 0, .null])) 28 (ob 2 [.ref 29, .ref 34, .ref 35, .ref 36, .ref 37, .null, .int 0, .int 0, .int 0, .int 0, .int 0, .int 0, .int 0, .int 0, .int 0, .null])) 28 (ob 2 [.ref 29, .ref 34, .ref 35, .ref 36, .ref 37, .null, .int 0, .int 1, .int 0, .int 0, .int 0, .int 0, .int 0, .int 0, .int 0, .null])) 28 (ob 2 [.ref 29, .ref 34, .ref 35, .ref 36, .ref 37, .null, .int 0, .int 1, .int 1, .int 0, .int 0, .int 0, .int 0, .int 0, .int 0, .null])) 28 (ob 2 [.ref 29, .ref 34, .ref 35, .ref 36, .ref 37, .null, .int 0, .int 1, .int 1, .int 0, .int 0, .int 0, .int 0, .int 0, .int 0, .null])) 28 (ob 2 [.ref 29, .ref 34, .ref 35, .ref 36, .ref 37, .null, .int 0, .int 1, .int 1, .int 0, .int 0, .int 0, .int 0, .int 0, .int 0, .null])) 28 (ob 2 [.ref 29, .ref 34, .ref 35, .ref 36, .ref 37, .null, .int 0, .int 1, .int 1, .int 0, .int 0, .int 0, .int 0, .int 0, .int 0, .null])) 28 (ob 2 [.ref 29, .ref 34, .ref 35, .ref 36, .ref 37, .null, .int 0, .int 1, .int 1, .int 0, .int 0, .int 0, .int 0, .int 0, .int 0, .null])) 28 (ob 2 [.ref 29, .ref 34, .ref 35, .ref 36, .ref 37, .null, .int 0, .int 1, .int 1, .int 0, .int 0, .int 0, .int 0, .int (-1), .int 0, .null])) 28 (ob 2 [.ref 29, .ref 34, .ref 35, .ref 36, .ref 37, .null, .int 0, .int 1, .int 1, .int 0, .int 0, .int 0, .int 0, .int (-1), .int 0, .null])) 38 (some (.inl (.int, 4, .inl (fun _ => 0))))) 28 (ob 2 [.ref 29, .ref 34, .ref 35, .ref 36, .ref 37, .null, .int 0, .int 1, .int 1, .int 0, .int 0, .int 0, .int 0, .int (-1), .int 0, .ref 38])) 39 := by
  refine x_enter 0 (by decide) rfl ?_
  refine x_aload dX2_init_0 rfl ?_
  refine x_objInit lX2_3 dX2_init_1 (Nat.le_of_ble_eq_true rfl) ⟨(Nat.le_of_ble_eq_true rfl), (Nat.le_of_ble_eq_true rfl)⟩ ?_
  refine x_aload dX2_init_4 rfl ?_
  refine x_new nX2_9 dX2_init_5 (Nat.le_of_ble_eq_true rfl) (Nat.le_of_ble_eq_true rfl) ?_
  refine x_dup dX2_init_8 rfl ?_
  refine x_N0v lX2_11 (Rm.of rfl) (cc1 := 5) (cn1 := 39) rfl rfl (Nat.le_of_ble_eq_true rfl) dX2_init_9 (r_X6_init_29 rfl) ?_
  refine x_putF fX2_12 tt2 gX2_12 rfl dX2_init_12 (by first | rfl | assumption) (Nat.le_of_ble_eq_true rfl) (by first | exact w2_0 _ | exact w2_0n) ?_
  refine x_aload dX2_init_15 rfl ?_
  refine x_k dX2_init_16 ?_
  refine x_newaI (N := 9) dX2_init_18 (by decide) (by decide) (Nat.le_of_ble_eq_true rfl) (Nat.le_of_ble_eq_true rfl) (Nat.le_of_ble_eq_true rfl) ?_
  refine x_putF fX2_18 tt2 gX2_18 rfl dX2_init_20 (by first | rfl | assumption) (Nat.le_of_ble_eq_true rfl) (by first | exact w2_1 _ | exact w2_1n) ?_
  refine x_aload dX2_init_23 rfl ?_
  refine x_k dX2_init_24 ?_
  refine x_newaI (N := 4) dX2_init_25 (by decide) (by decide) (Nat.le_of_ble_eq_true rfl) (Nat.le_of_ble_eq_true rfl) (Nat.le_of_ble_eq_true rfl) ?_
  refine x_putF fX2_22 tt2 gX2_22 rfl dX2_init_27 (by first | rfl | assumption) (Nat.le_of_ble_eq_true rfl) (by first | exact w2_2 _ | exact w2_2n) ?_
  refine x_aload dX2_init_30 rfl ?_
  refine x_k dX2_init_31 ?_
  refine x_newaI (N := 4) dX2_init_32 (by decide) (by decide) (Nat.le_of_ble_eq_true rfl) (Nat.le_of_ble_eq_true rfl) (Nat.le_of_ble_eq_true rfl) ?_
  refine x_dup dX2_init_34 rfl ?_
  refine x_k dX2_init_35 ?_
  refine x_k dX2_init_36 ?_
  refine x_iast dX2_init_37 (by first | rfl | assumption) (by unfold vp_in; decide) ?_
  refine x_dup dX2_init_38 rfl ?_
  refine x_k dX2_init_39 ?_
  refine x_k dX2_init_40 ?_
  refine x_iast dX2_init_41 (by first | rfl | assumption) (by unfold vp_in; decide) ?_
  refine x_dup dX2_init_42 rfl ?_
  refine x_k dX2_init_43 ?_
  refine x_k dX2_init_44 ?_
  refine x_iast dX2_init_45 (by first | rfl | assumption) (by unfold vp_in; decide) ?_
  refine x_dup dX2_init_46 rfl ?_
  refine x_k dX2_init_47 ?_
  refine x_k dX2_init_48 ?_
  refine x_iast dX2_init_49 (by first | rfl | assumption) (by unfold vp_in; decide) ?_
  refine x_putF fX2_25 tt2 gX2_25 rfl dX2_init_50 (by first | rfl | assumption) (Nat.le_of_ble_eq_true rfl) (by first | exact w2_3 _ | exact w2_3n) ?_
  refine x_aload dX2_init_53 rfl ?_
  refine x_k dX2_init_54 ?_
  refine x_newaI (N := 4) dX2_init_55 (by decide) (by decide) (Nat.le_of_ble_eq_true rfl) (Nat.le_of_ble_eq_true rfl) (Nat.le_of_ble_eq_true rfl) ?_
  refine x_dup dX2_init_57 rfl ?_
  refine x_k dX2_init_58 ?_
  refine x_k dX2_init_59 ?_
  refine x_iast dX2_init_60 (by first | rfl | assumption) (by unfold vp_in; decide) ?_
  refine x_dup dX2_init_61 rfl ?_
  refine x_k dX2_init_62 ?_
  refine x_k dX2_init_63 ?_
  refine x_iast dX2_init_64 (by first | rfl | assumption) (by unfold vp_in; decide) ?_
  refine x_dup dX2_init_65 rfl ?_
  refine x_k dX2_init_66 ?_
  refine x_k dX2_init_67 ?_
  refine x_iast dX2_init_68 (by first | rfl | assumption) (by unfold vp_in; decide) ?_
  refine x_dup dX2_init_69 rfl ?_
  refine x_k dX2_init_70 ?_
  refine x_k dX2_init_71 ?_
  refine x_iast dX2_init_72 (by first | rfl | assumption) (by unfold vp_in; decide) ?_
  refine x_putF fX2_28 tt2 gX2_28 rfl dX2_init_73 (by first | rfl | assumption) (Nat.le_of_ble_eq_true rfl) (by first | exact w2_4 _ | exact w2_4n) ?_
  refine x_aload dX2_init_76 rfl ?_
  refine x_null dX2_init_77 ?_
  refine x_put fX2_31 tt2 gX2_31 dX2_init_78 (by first | rfl | assumption) (Nat.le_of_ble_eq_true rfl) (by first | exact w2_5 _ | exact w2_5n) ?_
  refine x_aload dX2_init_81 rfl ?_
  refine x_k dX2_init_82 ?_
  refine x_put fX2_35 tt2 gX2_35 dX2_init_83 (by first | rfl | assumption) (Nat.le_of_ble_eq_true rfl) (w2_6 _) ?_
  refine x_aload dX2_init_86 rfl ?_
  refine x_k dX2_init_87 ?_
  refine x_put fX2_39 tt2 gX2_39 dX2_init_88 (by first | rfl | assumption) (Nat.le_of_ble_eq_true rfl) (w2_7 _) ?_
  refine x_aload dX2_init_91 rfl ?_
  refine x_k dX2_init_92 ?_
  refine x_put fX2_42 tt2 gX2_42 dX2_init_93 (by first | rfl | assumption) (Nat.le_of_ble_eq_true rfl) (w2_8 _) ?_
  refine x_aload dX2_init_96 rfl ?_
  refine x_k dX2_init_97 ?_
  refine x_put fX2_45 tt2 gX2_45 dX2_init_98 (by first | rfl | assumption) (Nat.le_of_ble_eq_true rfl) (by first | exact w2_90 | exact w2_91) ?_
  refine x_aload dX2_init_101 rfl ?_
  refine x_k dX2_init_102 ?_
  refine x_put fX2_49 tt2 gX2_49 dX2_init_103 (by first | rfl | assumption) (Nat.le_of_ble_eq_true rfl) (by first | exact w2_100 | exact w2_101) ?_
  refine x_aload dX2_init_106 rfl ?_
  refine x_k dX2_init_107 ?_
  refine x_put fX2_52 tt2 gX2_52 dX2_init_108 (by first | rfl | assumption) (Nat.le_of_ble_eq_true rfl) (by first | exact w2_110 | exact w2_111) ?_
  refine x_aload dX2_init_111 rfl ?_
  refine x_k dX2_init_112 ?_
  refine x_put fX2_55 tt2 gX2_55 dX2_init_113 (by first | rfl | assumption) (Nat.le_of_ble_eq_true rfl) (w2_12 _) ?_
  refine x_aload dX2_init_116 rfl ?_
  refine x_k dX2_init_117 ?_
  refine x_put fX2_58 tt2 gX2_58 dX2_init_118 (by first | rfl | assumption) (Nat.le_of_ble_eq_true rfl) (w2_13 _) ?_
  refine x_aload dX2_init_121 rfl ?_
  refine x_k dX2_init_122 ?_
  refine x_put fX2_61 tt2 gX2_61 dX2_init_123 (by first | rfl | assumption) (Nat.le_of_ble_eq_true rfl) (w2_14 _) ?_
  refine x_aload dX2_init_126 rfl ?_
  refine x_k dX2_init_127 ?_
  refine x_newaI (N := 4) dX2_init_128 (by decide) (by decide) (Nat.le_of_ble_eq_true rfl) (Nat.le_of_ble_eq_true rfl) (Nat.le_of_ble_eq_true rfl) ?_
  refine x_putF fX2_64 tt2 gX2_64 rfl dX2_init_130 (by first | rfl | assumption) (Nat.le_of_ble_eq_true rfl) (by first | exact w2_15 _ | exact w2_15n) ?_
  refine x_vret dX2_init_133 rfl (Nat.le_of_ble_eq_true rfl) (Nat.le_of_ble_eq_true rfl) ?_
  exact ⟨rfl, rfl, rfl⟩
set_option maxRecDepth 20000 in
theorem r_X6_init_40 {Γ : GX} {h : Hp} (h0 : h 40 = ob 6 [.null, .null, .null, .null, .int 0, .int 0, .int 0]) : Re Γ mX6_init [.ref 40] h 41 none (va_up (va_up (va_up (va_up (va_up (va_up (va_up (va_up (va_up (va_up (va_up h 41 (some (.inl (.int, 8, .inl (fun _ => 0))))) 40 (ob 6 [.ref 41, .null, .null, .null, .int 0, .int 0, .int 0])) 42 (some (.inl (.int, 8, .inl (fun _ => 0))))) 40 (ob 6 [.ref 41, .ref 42, .null, .null, .int 0, .int 0, .int 0])) 43 (some (.inl (.int, 8, .inl (fun _ => 0))))) 40 (ob 6 [.ref 41, .ref 42, .ref 43, .null, .int 0, .int 0, .int 0])) 44 (some (.inl (.int, 8, .inl (fun _ => 0))))) 40 (ob 6 [.ref 41, .ref 42, .ref 43, .ref 44, .int 0, .int 0, .int 0])) 40 (ob 6 [.ref 41, .ref 42, .ref 43, .ref 44, .int 0, .int 0, .int 0])) 40 (ob 6 [.ref 41, .ref 42, .ref 43, .ref 44, .int 0, .int 0, .int 0])) 40 (ob 6 [.ref 41, .ref 42, .ref 43, .ref 44, .int 0, .int 0, .int 0])) 45 := by
  refine x_enter 0 (by decide) rfl ?_
  refine x_aload dX6_init_0 rfl ?_
  refine x_objInit lX6_3 dX6_init_1 (Nat.le_of_ble_eq_true rfl) ⟨(Nat.le_of_ble_eq_true rfl), (Nat.le_of_ble_eq_true rfl)⟩ ?_
  refine x_aload dX6_init_4 rfl ?_
  refine x_k dX6_init_5 ?_
  refine x_newaI (N := 8) dX6_init_7 (by decide) (by decide) (Nat.le_of_ble_eq_true rfl) (Nat.le_of_ble_eq_true rfl) (Nat.le_of_ble_eq_true rfl) ?_
  refine x_putF fX6_9 tt6 gX6_9 rfl dX6_init_9 (by first | rfl | assumption) (Nat.le_of_ble_eq_true rfl) (by first | exact w6_0 _ | exact w6_0n) ?_
  refine x_aload dX6_init_12 rfl ?_
  refine x_k dX6_init_13 ?_
  refine x_newaI (N := 8) dX6_init_15 (by decide) (by decide) (Nat.le_of_ble_eq_true rfl) (Nat.le_of_ble_eq_true rfl) (Nat.le_of_ble_eq_true rfl) ?_
  refine x_putF fX6_15 tt6 gX6_15 rfl dX6_init_17 (by first | rfl | assumption) (Nat.le_of_ble_eq_true rfl) (by first | exact w6_1 _ | exact w6_1n) ?_
  refine x_aload dX6_init_20 rfl ?_
  refine x_k dX6_init_21 ?_
  refine x_newaI (N := 8) dX6_init_23 (by decide) (by decide) (Nat.le_of_ble_eq_true rfl) (Nat.le_of_ble_eq_true rfl) (Nat.le_of_ble_eq_true rfl) ?_
  refine x_putF fX6_18 tt6 gX6_18 rfl dX6_init_25 (by first | rfl | assumption) (Nat.le_of_ble_eq_true rfl) (by first | exact w6_2 _ | exact w6_2n) ?_
  refine x_aload dX6_init_28 rfl ?_
  refine x_k dX6_init_29 ?_
  refine x_newaI (N := 8) dX6_init_31 (by decide) (by decide) (Nat.le_of_ble_eq_true rfl) (Nat.le_of_ble_eq_true rfl) (Nat.le_of_ble_eq_true rfl) ?_
  refine x_putF fX6_21 tt6 gX6_21 rfl dX6_init_33 (by first | rfl | assumption) (Nat.le_of_ble_eq_true rfl) (by first | exact w6_3 _ | exact w6_3n) ?_
  refine x_aload dX6_init_36 rfl ?_
  refine x_k dX6_init_37 ?_
  refine x_put fX6_24 tt6 gX6_24 dX6_init_38 (by first | rfl | assumption) (Nat.le_of_ble_eq_true rfl) (w6_4 _) ?_
  refine x_aload dX6_init_41 rfl ?_
  refine x_k dX6_init_42 ?_
  refine x_put fX6_28 tt6 gX6_28 dX6_init_43 (by first | rfl | assumption) (Nat.le_of_ble_eq_true rfl) (w6_5 _) ?_
  refine x_aload dX6_init_46 rfl ?_
  refine x_k dX6_init_47 ?_
  refine x_put fX6_31 tt6 gX6_31 dX6_init_48 (by first | rfl | assumption) (Nat.le_of_ble_eq_true rfl) (w6_6 _) ?_
  refine x_vret dX6_init_51 rfl (Nat.le_of_ble_eq_true rfl) (Nat.le_of_ble_eq_true rfl) ?_
  exact ⟨rfl, rfl, rfl⟩
set_option maxRecDepth 20000 in
theorem r_X0_init_39 {Γ : GX} {h : Hp} (h0 : h 39 = ob 0 [.null, .null, .null, .int 0, .int 0]) : Re Γ mX0_init [.ref 39] h 40 none (va_up (va_up (va_up (va_up (va_up (va_up (va_up (va_up (va_up (va_up (va_up (va_up (va_up (va_up (va_up (va_up (va_up h 40 (ob 6 [.null, .null, .null, .null, .int 0, .int 0, .int 0])) 41 (some (.inl (.int, 8, .inl (fun _ => 0))))) 40 (ob 6 [.ref 41, .null, .null, .null, .int 0, .int 0, .int 0])) 42 (some (.inl (.int, 8, .inl (fun _ => 0))))) 40 (ob 6 [.ref 41, .ref 42, .null, .null, .int 0, .int 0, .int 0])) 43 (some (.inl (.int, 8, .inl (fun _ => 0))))) 40 (ob 6 [.ref 41, .ref 42, .ref 43, .null, .int 0, .int 0, .int 0])) 44 (some (.inl (.int, 8, .inl (fun _ => 0))))) 40 (ob 6 [.ref 41, .ref 42, .ref 43, .ref 44, .int 0, .int 0, .int 0])) 40 (ob 6 [.ref 41, .ref 42, .ref 43, .ref 44, .int 0, .int 0, .int 0])) 40 (ob 6 [.ref 41, .ref 42, .ref 43, .ref 44, .int 0, .int 0, .int 0])) 40 (ob 6 [.ref 41, .ref 42, .ref 43, .ref 44, .int 0, .int 0, .int 0])) 39 (ob 0 [.ref 40, .null, .null, .int 0, .int 0])) 39 (ob 0 [.ref 40, .null, .null, .int 0, .int 0])) 39 (ob 0 [.ref 40, .null, .null, .int 0, .int 0])) 39 (ob 0 [.ref 40, .null, .null, .int 0, .int 0])) 39 (ob 0 [.ref 40, .null, .null, .int 0, .int 0])) 45 := by
  refine x_enter 0 (by decide) rfl ?_
  refine x_aload dX0_init_0 rfl ?_
  refine x_objInit lX0_3 dX0_init_1 (Nat.le_of_ble_eq_true rfl) ⟨(Nat.le_of_ble_eq_true rfl), (Nat.le_of_ble_eq_true rfl)⟩ ?_
  refine x_aload dX0_init_4 rfl ?_
  refine x_new nX0_9 dX0_init_5 (Nat.le_of_ble_eq_true rfl) (Nat.le_of_ble_eq_true rfl) ?_
  refine x_dup dX0_init_8 rfl ?_
  refine x_N0v lX0_11 (Rm.of rfl) (cc1 := 5) (cn1 := 39) rfl rfl (Nat.le_of_ble_eq_true rfl) dX0_init_9 (r_X6_init_40 rfl) ?_
  refine x_putF fX0_12 tt0 gX0_12 rfl dX0_init_12 (by first | rfl | assumption) (Nat.le_of_ble_eq_true rfl) (by first | exact w0_0 _ | exact w0_0n) ?_
  refine x_aload dX0_init_15 rfl ?_
  refine x_null dX0_init_16 ?_
  refine x_put fX0_18 tt0 gX0_18 dX0_init_17 (by first | rfl | assumption) (Nat.le_of_ble_eq_true rfl) (by first | exact w0_1 _ | exact w0_1n) ?_
  refine x_aload dX0_init_20 rfl ?_
  refine x_null dX0_init_21 ?_
  refine x_put fX0_22 tt0 gX0_22 dX0_init_22 (by first | rfl | assumption) (Nat.le_of_ble_eq_true rfl) (by first | exact w0_2 _ | exact w0_2n) ?_
  refine x_aload dX0_init_25 rfl ?_
  refine x_k dX0_init_26 ?_
  refine x_put fX0_25 tt0 gX0_25 dX0_init_27 (by first | rfl | assumption) (Nat.le_of_ble_eq_true rfl) (w0_3 _) ?_
  refine x_aload dX0_init_30 rfl ?_
  refine x_k dX0_init_31 ?_
  refine x_put fX0_29 tt0 gX0_29 dX0_init_32 (by first | rfl | assumption) (Nat.le_of_ble_eq_true rfl) (by first | exact w0_40 | exact w0_41) ?_
  refine x_vret dX0_init_35 rfl (Nat.le_of_ble_eq_true rfl) (Nat.le_of_ble_eq_true rfl) ?_
  exact ⟨rfl, rfl, rfl⟩
set_option maxRecDepth 20000 in
theorem r_X1_init_45 {Γ : GX} {h : Hp} (h0 : h 45 = ob 1 [.int 0, .null, .null]) : Re Γ mX1_init [.ref 45] h 46 none (va_up (va_up (va_up (va_up (va_up h 45 (ob 1 [.int 0, .null, .null])) 46 (some (.inl (.int, 8, .inl (fun _ => 0))))) 45 (ob 1 [.int 0, .ref 46, .null])) 47 (some (.inl (.int, 8, .inl (fun _ => 0))))) 45 (ob 1 [.int 0, .ref 46, .ref 47])) 48 := by
  refine x_enter 0 (by decide) rfl ?_
  refine x_aload dX1_init_0 rfl ?_
  refine x_objInit lX1_3 dX1_init_1 (Nat.le_of_ble_eq_true rfl) ⟨(Nat.le_of_ble_eq_true rfl), (Nat.le_of_ble_eq_true rfl)⟩ ?_
  refine x_aload dX1_init_4 rfl ?_
  refine x_k dX1_init_5 ?_
  refine x_put fX1_9 tt1 gX1_9 dX1_init_6 (by first | rfl | assumption) (Nat.le_of_ble_eq_true rfl) (w1_0 _) ?_
  refine x_aload dX1_init_9 rfl ?_
  refine x_k dX1_init_10 ?_
  refine x_newaI (N := 8) dX1_init_12 (by decide) (by decide) (Nat.le_of_ble_eq_true rfl) (Nat.le_of_ble_eq_true rfl) (Nat.le_of_ble_eq_true rfl) ?_
  refine x_putF fX1_15 tt1 gX1_15 rfl dX1_init_14 (by first | rfl | assumption) (Nat.le_of_ble_eq_true rfl) (by first | exact w1_1 _ | exact w1_1n) ?_
  refine x_aload dX1_init_17 rfl ?_
  refine x_k dX1_init_18 ?_
  refine x_newaI (N := 8) dX1_init_20 (by decide) (by decide) (Nat.le_of_ble_eq_true rfl) (Nat.le_of_ble_eq_true rfl) (Nat.le_of_ble_eq_true rfl) ?_
  refine x_putF fX1_19 tt1 gX1_19 rfl dX1_init_22 (by first | rfl | assumption) (Nat.le_of_ble_eq_true rfl) (by first | exact w1_2 _ | exact w1_2n) ?_
  refine x_vret dX1_init_25 rfl (Nat.le_of_ble_eq_true rfl) (Nat.le_of_ble_eq_true rfl) ?_
  exact ⟨rfl, rfl, rfl⟩
set_option maxRecDepth 20000 in
theorem r_X4_init_49 {Γ : GX} {h : Hp} (h0 : h 49 = ob 4 [.int 0, .int 0, .null]) : Re Γ mX4_init [.ref 49] h 50 none (va_up (va_up (va_up (va_up h 49 (ob 4 [.int (-1), .int 0, .null])) 49 (ob 4 [.int (-1), .int 0, .null])) 50 (some (.inl (.int, 48, .inl (fun _ => 0))))) 49 (ob 4 [.int (-1), .int 0, .ref 50])) 51 := by
  refine x_enter 0 (by decide) rfl ?_
  refine x_aload dX4_init_0 rfl ?_
  refine x_objInit lX4_3 dX4_init_1 (Nat.le_of_ble_eq_true rfl) ⟨(Nat.le_of_ble_eq_true rfl), (Nat.le_of_ble_eq_true rfl)⟩ ?_
  refine x_aload dX4_init_4 rfl ?_
  refine x_k dX4_init_5 ?_
  refine x_put fX4_9 tt4 gX4_9 dX4_init_6 (by first | rfl | assumption) (Nat.le_of_ble_eq_true rfl) (w4_0 _) ?_
  refine x_aload dX4_init_9 rfl ?_
  refine x_k dX4_init_10 ?_
  refine x_put fX4_15 tt4 gX4_15 dX4_init_11 (by first | rfl | assumption) (Nat.le_of_ble_eq_true rfl) (w4_1 _) ?_
  refine x_aload dX4_init_14 rfl ?_
  refine x_k dX4_init_15 ?_
  refine x_newaI (N := 48) dX4_init_17 (by decide) (by decide) (Nat.le_of_ble_eq_true rfl) (Nat.le_of_ble_eq_true rfl) (Nat.le_of_ble_eq_true rfl) ?_
  refine x_putF fX4_18 tt4 gX4_18 rfl dX4_init_19 (by first | rfl | assumption) (Nat.le_of_ble_eq_true rfl) (by first | exact w4_2 _ | exact w4_2n) ?_
  refine x_vret dX4_init_22 rfl (Nat.le_of_ble_eq_true rfl) (Nat.le_of_ble_eq_true rfl) ?_
  exact ⟨rfl, rfl, rfl⟩
set_option maxRecDepth 20000 in
theorem r_X4_init_51 {Γ : GX} {h : Hp} (h0 : h 51 = ob 4 [.int 0, .int 0, .null]) : Re Γ mX4_init [.ref 51] h 52 none (va_up (va_up (va_up (va_up h 51 (ob 4 [.int (-1), .int 0, .null])) 51 (ob 4 [.int (-1), .int 0, .null])) 52 (some (.inl (.int, 48, .inl (fun _ => 0))))) 51 (ob 4 [.int (-1), .int 0, .ref 52])) 53 := by
  refine x_enter 0 (by decide) rfl ?_
  refine x_aload dX4_init_0 rfl ?_
  refine x_objInit lX4_3 dX4_init_1 (Nat.le_of_ble_eq_true rfl) ⟨(Nat.le_of_ble_eq_true rfl), (Nat.le_of_ble_eq_true rfl)⟩ ?_
  refine x_aload dX4_init_4 rfl ?_
  refine x_k dX4_init_5 ?_
  refine x_put fX4_9 tt4 gX4_9 dX4_init_6 (by first | rfl | assumption) (Nat.le_of_ble_eq_true rfl) (w4_0 _) ?_
  refine x_aload dX4_init_9 rfl ?_
  refine x_k dX4_init_10 ?_
  refine x_put fX4_15 tt4 gX4_15 dX4_init_11 (by first | rfl | assumption) (Nat.le_of_ble_eq_true rfl) (w4_1 _) ?_
  refine x_aload dX4_init_14 rfl ?_
  refine x_k dX4_init_15 ?_
  refine x_newaI (N := 48) dX4_init_17 (by decide) (by decide) (Nat.le_of_ble_eq_true rfl) (Nat.le_of_ble_eq_true rfl) (Nat.le_of_ble_eq_true rfl) ?_
  refine x_putF fX4_18 tt4 gX4_18 rfl dX4_init_19 (by first | rfl | assumption) (Nat.le_of_ble_eq_true rfl) (by first | exact w4_2 _ | exact w4_2n) ?_
  refine x_vret dX4_init_22 rfl (Nat.le_of_ble_eq_true rfl) (Nat.le_of_ble_eq_true rfl) ?_
  exact ⟨rfl, rfl, rfl⟩
set_option maxRecDepth 20000 in
theorem r_X4_init_53 {Γ : GX} {h : Hp} (h0 : h 53 = ob 4 [.int 0, .int 0, .null]) : Re Γ mX4_init [.ref 53] h 54 none (va_up (va_up (va_up (va_up h 53 (ob 4 [.int (-1), .int 0, .null])) 53 (ob 4 [.int (-1), .int 0, .null])) 54 (some (.inl (.int, 48, .inl (fun _ => 0))))) 53 (ob 4 [.int (-1), .int 0, .ref 54])) 55 := by
  refine x_enter 0 (by decide) rfl ?_
  refine x_aload dX4_init_0 rfl ?_
  refine x_objInit lX4_3 dX4_init_1 (Nat.le_of_ble_eq_true rfl) ⟨(Nat.le_of_ble_eq_true rfl), (Nat.le_of_ble_eq_true rfl)⟩ ?_
  refine x_aload dX4_init_4 rfl ?_
  refine x_k dX4_init_5 ?_
  refine x_put fX4_9 tt4 gX4_9 dX4_init_6 (by first | rfl | assumption) (Nat.le_of_ble_eq_true rfl) (w4_0 _) ?_
  refine x_aload dX4_init_9 rfl ?_
  refine x_k dX4_init_10 ?_
  refine x_put fX4_15 tt4 gX4_15 dX4_init_11 (by first | rfl | assumption) (Nat.le_of_ble_eq_true rfl) (w4_1 _) ?_
  refine x_aload dX4_init_14 rfl ?_
  refine x_k dX4_init_15 ?_
  refine x_newaI (N := 48) dX4_init_17 (by decide) (by decide) (Nat.le_of_ble_eq_true rfl) (Nat.le_of_ble_eq_true rfl) (Nat.le_of_ble_eq_true rfl) ?_
  refine x_putF fX4_18 tt4 gX4_18 rfl dX4_init_19 (by first | rfl | assumption) (Nat.le_of_ble_eq_true rfl) (by first | exact w4_2 _ | exact w4_2n) ?_
  refine x_vret dX4_init_22 rfl (Nat.le_of_ble_eq_true rfl) (Nat.le_of_ble_eq_true rfl) ?_
  exact ⟨rfl, rfl, rfl⟩
set_option maxRecDepth 20000 in
theorem r_X4_init_55 {Γ : GX} {h : Hp} (h0 : h 55 = ob 4 [.int 0, .int 0, .null]) : Re Γ mX4_init [.ref 55] h 56 none (va_up (va_up (va_up (va_up h 55 (ob 4 [.int (-1), .int 0, .null])) 55 (ob 4 [.int (-1), .int 0, .null])) 56 (some (.inl (.int, 48, .inl (fun _ => 0))))) 55 (ob 4 [.int (-1), .int 0, .ref 56])) 57 := by
  refine x_enter 0 (by decide) rfl ?_
  refine x_aload dX4_init_0 rfl ?_
  refine x_objInit lX4_3 dX4_init_1 (Nat.le_of_ble_eq_true rfl) ⟨(Nat.le_of_ble_eq_true rfl), (Nat.le_of_ble_eq_true rfl)⟩ ?_
  refine x_aload dX4_init_4 rfl ?_
  refine x_k dX4_init_5 ?_
  refine x_put fX4_9 tt4 gX4_9 dX4_init_6 (by first | rfl | assumption) (Nat.le_of_ble_eq_true rfl) (w4_0 _) ?_
  refine x_aload dX4_init_9 rfl ?_
  refine x_k dX4_init_10 ?_
  refine x_put fX4_15 tt4 gX4_15 dX4_init_11 (by first | rfl | assumption) (Nat.le_of_ble_eq_true rfl) (w4_1 _) ?_
  refine x_aload dX4_init_14 rfl ?_
  refine x_k dX4_init_15 ?_
  refine x_newaI (N := 48) dX4_init_17 (by decide) (by decide) (Nat.le_of_ble_eq_true rfl) (Nat.le_of_ble_eq_true rfl) (Nat.le_of_ble_eq_true rfl) ?_
  refine x_putF fX4_18 tt4 gX4_18 rfl dX4_init_19 (by first | rfl | assumption) (Nat.le_of_ble_eq_true rfl) (by first | exact w4_2 _ | exact w4_2n) ?_
  refine x_vret dX4_init_22 rfl (Nat.le_of_ble_eq_true rfl) (Nat.le_of_ble_eq_true rfl) ?_
  exact ⟨rfl, rfl, rfl⟩
set_option maxRecDepth 20000 in
theorem r_X9_init_4 {Γ : GX} {h : Hp} (h0 : h 4 = ob 9 [.null, .null, .null, .null, .null, .null, .null, .null, .null, .int 0, .int 0]) : Re Γ mX9_init [.ref 4] h 5 none (va_up (va_up (va_up (va_up (va_up (va_up (va_up (va_up (va_up (va_up (va_up (va_up (va_up (va_up (va_up (va_up (va_up (va_up (va_up (va_up (va_up (va_up (va_up (va_up (va_up (va_up (va_up (va_up (va_up (va_up (va_up (va_up (va_up (va_up (va_up (va_up (va_up (va_up (va_up (va_up (va_up (va_up (va_up (va_up (va_up (va_up (va_up (va_up (va_up (va_up (va_up (va_up (va_up (va_up (va_up (va_up (va_up (va_up (va_up (va_up (va_up (va_up (va_up (va_up (va_up (va_up (va_up (va_up (va_up (va_up (va_up (va_up (va_up (va_up (va_up (va_up (va_up (va_up (va_up (va_up (va_up (va_up (va_up (va_up (va_up (va_up (va_up (va_up (va_up (va_up (va_up (va_up (va_up (va_up (va_up (va_up (va_up (va_up (va_up (va_up (va_up (va_up (va_up (va_up (va_up (va_up (va_up (va_up (va_up (va_up (va_up (va_up (va_up (va_up (va_up (va_up (va_up (va_up (va_up (va_up (va_up (va_up (va_up (va_up (va_up (va_up (va_up (va_up (va_up (va_up (va_up (va_up (va_up (va_up (va_up (va_up (va_up (va_up (va_up (va_up (va_up (va_up (va_up (va_up (va_up (va_up (va_up (va_up (va_up (va_up (va_up (va_up h 5 (some (.inl (.object "SoldWithIt$Text", 2, .inr (.inr (.inr (.inr (fun _ => none)))))))) 6 (ob 8 [.null, .int 0])) 6 (ob 8 [.null, .int 0])) 7 (some (.inl (.int, 30, .inl (fun _ => 0))))) 6 (ob 8 [.ref 7, .int 0])) 5 (some (.inl (.object "SoldWithIt$Text", 2, .inr (.inr (.inr (.inr (va_up (fun _ => none) 0 (some 6))))))))) 8 (ob 8 [.null, .int 0])) 8 (ob 8 [.null, .int 0])) 9 (some (.inl (.int, 24, .inl (fun _ => 0))))) 8 (ob 8 [.ref 9, .int 0])) 5 (some (.inl (.object "SoldWithIt$Text", 2, .inr (.inr (.inr (.inr (va_up (va_up (fun _ => none) 0 (some 6)) 1 (some 8))))))))) 4 (ob 9 [.ref 5, .null, .null, .null, .null, .null, .null, .null, .null, .int 0, .int 0])) 10 (ob 5 [.int 0, .int 0, .null, .null, .null, .null, .null, .null])) 10 (ob 5 [.int 0, .int 0, .null, .null, .null, .null, .null, .null])) 10 (ob 5 [.int 0, .int 0, .null, .null, .null, .null, .null, .null])) 11 (some (.inl (.int, 8, .inl (fun _ => 0))))) 10 (ob 5 [.int 0, .int 0, .ref 11, .null, .null, .null, .null, .null])) 12 (some (.inl (.int, 8, .inl (fun _ => 0))))) 10 (ob 5 [.int 0, .int 0, .ref 11, .ref 12, .null, .null, .null, .null])) 13 (some (.inl (.int, 8, .inl (fun _ => 0))))) 10 (ob 5 [.int 0, .int 0, .ref 11, .ref 12, .ref 13, .null, .null, .null])) 14 (some (.inl (.int, 8, .inl (fun _ => 0))))) 10 (ob 5 [.int 0, .int 0, .ref 11, .ref 12, .ref 13, .ref 14, .null, .null])) 15 (some (.inl (.int, 8, .inl (fun _ => 0))))) 10 (ob 5 [.int 0, .int 0, .ref 11, .ref 12, .ref 13, .ref 14, .ref 15, .null])) 16 (some (.inl (.int, 9, .inl (fun _ => 0))))) 10 (ob 5 [.int 0, .int 0, .ref 11, .ref 12, .ref 13, .ref 14, .ref 15, .ref 16])) 4 (ob 9 [.ref 5, .ref 10, .null, .null, .null, .null, .null, .null, .null, .int 0, .int 0])) 17 (ob 3 [.int 0, .int 0, .null, .null])) 17 (ob 3 [.int 7, .int 0, .null, .null])) 17 (ob 3 [.int 7, .int 0, .null, .null])) 18 (some (.inl (.int, 12, .inl (fun _ => 0))))) 17 (ob 3 [.int 7, .int 0, .ref 18, .null])) 19 (some (.inl (.int, 12, .inl (fun _ => 0))))) 17 (ob 3 [.int 7, .int 0, .ref 18, .ref 19])) 4 (ob 9 [.ref 5, .ref 10, .ref 17, .null, .null, .null, .null, .null, .null, .int 0, .int 0])) 20 (ob 6 [.null, .null, .null, .null, .int 0, .int 0, .int 0])) 21 (some (.inl (.int, 8, .inl (fun _ => 0))))) 20 (ob 6 [.ref 21, .null, .null, .null, .int 0, .int 0, .int 0])) 22 (some (.inl (.int, 8, .inl (fun _ => 0))))) 20 (ob 6 [.ref 21, .ref 22, .null, .null, .int 0, .int 0, .int 0])) 23 (some (.inl (.int, 8, .inl (fun _ => 0))))) 20 (ob 6 [.ref 21, .ref 22, .ref 23, .null, .int 0, .int 0, .int 0])) 24 (some (.inl (.int, 8, .inl (fun _ => 0))))) 20 (ob 6 [.ref 21, .ref 22, .ref 23, .ref 24, .int 0, .int 0, .int 0])) 20 (ob 6 [.ref 21, .ref 22, .ref 23, .ref 24, .int 0, .int 0, .int 0])) 20 (ob 6 [.ref 21, .ref 22, .ref 23, .ref 24, .int 0, .int 0, .int 0])) 20 (ob 6 [.ref 21, .ref 22, .ref 23, .ref 24, .int 0, .int 0, .int 0])) 4 (ob 9 [.ref 5, .ref 10, .ref 17, .ref 20, .null, .null, .null, .null, .null, .int 0, .int 0])) 25 (ob 7 [.null, .null])) 26 (some (.inl (.int, 64, .inl (fun _ => 0))))) 25 (ob 7 [.ref 26, .null])) 27 (some (.inl (.int, 64, .inl (fun _ => 0))))) 25 (ob 7 [.ref 26, .ref 27])) 4 (ob 9 [.ref 5, .ref 10, .ref 17, .ref 20, .ref 25, .null, .null, .null, .null, .int 0, .int 0])) 28 (ob 2 [.null, .null, .null, .null, .null, .null, .int 0, .int 0, .int 0, .int 0, .int 0, .int 0, .int 0, .int 0, .int 0, .null])) 29 (ob 6 [.null, .null, .null, .null, .int 0, .int 0, .int 0])) 30 (some (.inl (.int, 8, .inl (fun _ => 0))))) 29 (ob 6 [.ref 30, .null, .null, .null, .int 0, .int 0, .int 0])) 31 (some (.inl (.int, 8, .inl (fun _ => 0))))) 29 (ob 6 [.ref 30, .ref 31, .null, .null, .int 0, .int 0, .int 0])) 32 (some (.inl (.int, 8, .inl (fun _ => 0))))) 29 (ob 6 [.ref 30, .ref 31, .ref 32, .null, .int 0, .int 0, .int 0])) 33 (some (.inl (.int, 8, .inl (fun _ => 0))))) 29 (ob 6 [.ref 30, .ref 31, .ref 32, .ref 33, .int 0, .int 0, .int 0])) 29 (ob 6 [.ref 30, .ref 31, .ref 32, .ref 33, .int 0, .int 0, .int 0])) 29 (ob 6 [.ref 30, .ref 31, .ref 32, .ref 33, .int 0, .int 0, .int 0])) 29 (ob 6 [.ref 30, .ref 31, .ref 32, .ref 33, .int 0, .int 0, .int 0])) 28 (ob 2 [.ref 29, .null, .null, .null, .null, .null, .int 0, .int 0, .int 0, .int 0, .int 0, .int 0, .int 0, .int 0, .int 0, .null])) 34 (some (.inl (.int, 9, .inl (fun _ => 0))))) 28 (ob 2 [.ref 29, .ref 34, .null, .null, .null, .null, .int 0, .int 0, .int 0, .int 0, .int 0, .int 0, .int 0, .int 0, .int 0, .null])) 35 (some (.inl (.int, 4, .inl (fun _ => 0))))) 28 (ob 2 [.ref 29, .ref 34, .ref 35, .null, .null, .null, .int 0, .int 0, .int 0, .int 0, .int 0, .int 0, .int 0, .int 0, .int 0, .null])) 36 (some (.inl (.int, 4, .inl (fun _ => 0))))) 36 (some (.inl (.int, 4, .inl (upd (fun _ => 0) 0 1))))) 36 (some (.inl (.int, 4, .inl (upd (upd (fun _ => 0) 0 1) 1 1))))) 36 (some (.inl (.int, 4, .inl (upd (upd (upd (fun _ => 0) 0 1) 1 1) 2 1))))) 36 (some (.inl (.int, 4, .inl (upd (upd (upd (upd (fun _ => 0) 0 1) 1 1) 2 1) 3 1))))) 28 (ob 2 [.ref 29, .ref 34, .ref 35, .ref 36, .null, .null, .int 0, .int 0, .int 0, .int 0, .int 0, .int 0, .int 0, .int 0, .int 0, .null])) 37 (some (.inl (.int, 4, .inl (fun _ => 0))))) 37 (some (.inl (.int, 4, .inl (upd (fun _ => 0) 0 (-1)))))) 37 (some (.inl (.int, 4, .inl (upd (upd (fun _ => 0) 0 (-1)) 1 (-1)))))) 37 (some (.inl (.int, 4, .inl (upd (upd (upd (fun _ => 0) 0 (-1)) 1 (-1)) 2 (-1)))))) 37 (some (.inl (.int, 4, .inl (upd (upd (upd (upd (fun _ => 0) 0 (-1)) 1 (-1)) 2 (-1)) 3 (-1)))))) 28 (ob 2 [.ref 29, .ref 34, .ref 35, .ref 36, .ref 37, .null, .int 0, .int 0, .int 0, .int 0, .int 0, .int 0, .int 0, .int 0, .int 0, .null])) 28 (ob 2 [.ref 29, .ref 34, .ref 35, .ref 36, .ref 37, .null, .int 0, .int 0, .int 0, .int 0, .int 0, .int 0, .int 0, .int 0, .int 0, .null])) 28 (ob 2 [.ref 29, .ref 34, .ref 35, .ref 36, .ref 37, .null, .int 0, .int 0, .int 0, .int 0, .int 0, .int 0, .int 0, .int 0, .int 0, .null])) 28 (ob 2 [.ref 29, .ref 34, .ref 35, .ref 36, .ref 37, .null, .int 0, .int 1, .int 0, .int 0, .int 0, .int 0, .int 0, .int 0, .int 0, .null])) 28 (ob 2 [.ref 29, .ref 34, .ref 35, .ref 36, .ref 37, .null, .int 0, .int 1, .int 1, .int 0, .int 0, .int 0, .int 0, .int 0, .int 0, .null])) 28 (ob 2 [.ref 29, .ref 34, .ref 35, .ref 36, .ref 37, .null, .int 0, .int 1, .int 1, .int 0, .int 0, .int 0, .int 0, .int 0, .int 0, .null])) 28 (ob 2 [.ref 29, .ref 34, .ref 35, .ref 36, .ref 37, .null, .int 0, .int 1, .int 1, .int 0, .int 0, .int 0, .int 0, .int 0, .int 0, .null])) 28 (ob 2 [.ref 29, .ref 34, .ref 35, .ref 36, .ref 37, .null, .int 0, .int 1, .int 1, .int 0, .int 0, .int 0, .int 0, .int 0, .int 0, .null])) 28 (ob 2 [.ref 29, .ref 34, .ref 35, .ref 36, .ref 37, .null, .int 0, .int 1, .int 1, .int 0, .int 0, .int 0, .int 0, .int 0, .int 0, .null])) 28 (ob 2 [.ref 29, .ref 34, .ref 35, .ref 36, .ref 37, .null, .int 0, .int 1, .int 1, .int 0, .int 0, .int 0, .int 0, .int (-1), .int 0, .null])) 28 (ob 2 [.ref 29, .ref 34, .ref 35, .ref 36, .ref 37, .null, .int 0, .int 1, .int 1, .int 0, .int 0, .int 0, .int 0, .int (-1), .int 0, .null])) 38 (some (.inl (.int, 4, .inl (fun _ => 0))))) 28 (ob 2 [.ref 29, .ref 34, .ref 35, .ref 36, .ref 37, .null, .int 0, .int 1, .int 1, .int 0, .int 0, .int 0, .int 0, .int (-1), .int 0, .ref 38])) 4 (ob 9 [.ref 5, .ref 10, .ref 17, .ref 20, .ref 25, .ref 28, .null, .null, .null, .int 0, .int 0])) 39 (ob 0 [.null, .null, .null, .int 0, .int 0])) 40 (ob 6 [.null, .null, .null, .null, .int 0, .int 0, .int 0])) 41 (some (.inl (.int, 8, .inl (fun _ => 0))))) 40 (ob 6 [.ref 41, .null, .null, .null, .int 0, .int 0, .int 0])) 42 (some (.inl (.int, 8, .inl (fun _ => 0))))) 40 (ob 6 [.ref 41, .ref 42, .null, .null, .int 0, .int 0, .int 0])) 43 (some (.inl (.int, 8, .inl (fun _ => 0))))) 40 (ob 6 [.ref 41, .ref 42, .ref 43, .null, .int 0, .int 0, .int 0])) 44 (some (.inl (.int, 8, .inl (fun _ => 0))))) 40 (ob 6 [.ref 41, .ref 42, .ref 43, .ref 44, .int 0, .int 0, .int 0])) 40 (ob 6 [.ref 41, .ref 42, .ref 43, .ref 44, .int 0, .int 0, .int 0])) 40 (ob 6 [.ref 41, .ref 42, .ref 43, .ref 44, .int 0, .int 0, .int 0])) 40 (ob 6 [.ref 41, .ref 42, .ref 43, .ref 44, .int 0, .int 0, .int 0])) 39 (ob 0 [.ref 40, .null, .null, .int 0, .int 0])) 39 (ob 0 [.ref 40, .null, .null, .int 0, .int 0])) 39 (ob 0 [.ref 40, .null, .null, .int 0, .int 0])) 39 (ob 0 [.ref 40, .null, .null, .int 0, .int 0])) 39 (ob 0 [.ref 40, .null, .null, .int 0, .int 0])) 4 (ob 9 [.ref 5, .ref 10, .ref 17, .ref 20, .ref 25, .ref 28, .ref 39, .null, .null, .int 0, .int 0])) 45 (ob 1 [.int 0, .null, .null])) 45 (ob 1 [.int 0, .null, .null])) 46 (some (.inl (.int, 8, .inl (fun _ => 0))))) 45 (ob 1 [.int 0, .ref 46, .null])) 47 (some (.inl (.int, 8, .inl (fun _ => 0))))) 45 (ob 1 [.int 0, .ref 46, .ref 47])) 4 (ob 9 [.ref 5, .ref 10, .ref 17, .ref 20, .ref 25, .ref 28, .ref 39, .ref 45, .null, .int 0, .int 0])) 48 (some (.inl (.object "SoldWithIt$Sheet", 4, .inr (.inr (.inr (.inr (fun _ => none)))))))) 49 (ob 4 [.int 0, .int 0, .null])) 49 (ob 4 [.int (-1), .int 0, .null])) 49 (ob 4 [.int (-1), .int 0, .null])) 50 (some (.inl (.int, 48, .inl (fun _ => 0))))) 49 (ob 4 [.int (-1), .int 0, .ref 50])) 48 (some (.inl (.object "SoldWithIt$Sheet", 4, .inr (.inr (.inr (.inr (va_up (fun _ => none) 0 (some 49))))))))) 51 (ob 4 [.int 0, .int 0, .null])) 51 (ob 4 [.int (-1), .int 0, .null])) 51 (ob 4 [.int (-1), .int 0, .null])) 52 (some (.inl (.int, 48, .inl (fun _ => 0))))) 51 (ob 4 [.int (-1), .int 0, .ref 52])) 48 (some (.inl (.object "SoldWithIt$Sheet", 4, .inr (.inr (.inr (.inr (va_up (va_up (fun _ => none) 0 (some 49)) 1 (some 51))))))))) 53 (ob 4 [.int 0, .int 0, .null])) 53 (ob 4 [.int (-1), .int 0, .null])) 53 (ob 4 [.int (-1), .int 0, .null])) 54 (some (.inl (.int, 48, .inl (fun _ => 0))))) 53 (ob 4 [.int (-1), .int 0, .ref 54])) 48 (some (.inl (.object "SoldWithIt$Sheet", 4, .inr (.inr (.inr (.inr (va_up (va_up (va_up (fun _ => none) 0 (some 49)) 1 (some 51)) 2 (some 53))))))))) 55 (ob 4 [.int 0, .int 0, .null])) 55 (ob 4 [.int (-1), .int 0, .null])) 55 (ob 4 [.int (-1), .int 0, .null])) 56 (some (.inl (.int, 48, .inl (fun _ => 0))))) 55 (ob 4 [.int (-1), .int 0, .ref 56])) 48 (some (.inl (.object "SoldWithIt$Sheet", 4, .inr (.inr (.inr (.inr (va_up (va_up (va_up (va_up (fun _ => none) 0 (some 49)) 1 (some 51)) 2 (some 53)) 3 (some 55))))))))) 4 (ob 9 [.ref 5, .ref 10, .ref 17, .ref 20, .ref 25, .ref 28, .ref 39, .ref 45, .ref 48, .int 0, .int 0])) 4 (ob 9 [.ref 5, .ref 10, .ref 17, .ref 20, .ref 25, .ref 28, .ref 39, .ref 45, .ref 48, .int 0, .int 0])) 4 (ob 9 [.ref 5, .ref 10, .ref 17, .ref 20, .ref 25, .ref 28, .ref 39, .ref 45, .ref 48, .int 0, .int 0])) 57 := by
  refine x_enter 0 (by decide) rfl ?_
  refine x_aload dX9_init_0 rfl ?_
  refine x_objInit lX9_1 dX9_init_1 (Nat.le_of_ble_eq_true rfl) ⟨(Nat.le_of_ble_eq_true rfl), (Nat.le_of_ble_eq_true rfl)⟩ ?_
  refine x_aload dX9_init_4 rfl ?_
  refine x_k dX9_init_5 ?_
  refine x_anew (N := 2) (by first | exact Or.inl rfl | exact Or.inr rfl) naX9_7 dX9_init_6 (by decide) (by decide) (Nat.le_of_ble_eq_true rfl) (Nat.le_of_ble_eq_true rfl) (Nat.le_of_ble_eq_true rfl) ?_
  refine x_dup dX9_init_9 rfl ?_
  refine x_k dX9_init_10 ?_
  refine x_new nX9_7 dX9_init_11 (Nat.le_of_ble_eq_true rfl) (Nat.le_of_ble_eq_true rfl) ?_
  refine x_dup dX9_init_14 rfl ?_
  refine x_k dX9_init_15 ?_
  refine x_I1v lX9_9 (Rm.of rfl) (cc1 := 3) (cn1 := 34) rfl rfl (Nat.le_of_ble_eq_true rfl) dX9_init_17 (r_X8_init_6 rfl) ?_
  refine x_aast dX9_init_20 (by first | rfl | assumption) (by unfold vp_in; decide) (by first | rfl | assumption) rfl ?_
  refine x_dup dX9_init_21 rfl ?_
  refine x_k dX9_init_22 ?_
  refine x_new nX9_7 dX9_init_23 (Nat.le_of_ble_eq_true rfl) (Nat.le_of_ble_eq_true rfl) ?_
  refine x_dup dX9_init_26 rfl ?_
  refine x_k dX9_init_27 ?_
  refine x_I1v lX9_9 (Rm.of rfl) (cc1 := 5) (cn1 := 66) rfl rfl (Nat.le_of_ble_eq_true rfl) dX9_init_29 (r_X8_init_8 rfl) ?_
  refine x_aast dX9_init_32 (by first | rfl | assumption) (by unfold vp_in; decide) (by first | rfl | assumption) rfl ?_
  refine x_putF fX9_12 tt9 gX9_12 rfl dX9_init_33 (by first | rfl | assumption) (Nat.le_of_ble_eq_true rfl) (by first | exact w9_0 _ | exact w9_0n) ?_
  refine x_aload dX9_init_36 rfl ?_
  refine x_new nX9_18 dX9_init_37 (Nat.le_of_ble_eq_true rfl) (Nat.le_of_ble_eq_true rfl) ?_
  refine x_dup dX9_init_40 rfl ?_
  refine x_N0v lX9_20 (Rm.of rfl) (cc1 := 12) (cn1 := 123) rfl rfl (Nat.le_of_ble_eq_true rfl) dX9_init_41 (r_X5_init_10 rfl) ?_
  refine x_putF fX9_21 tt9 gX9_21 rfl dX9_init_44 (by first | rfl | assumption) (Nat.le_of_ble_eq_true rfl) (by first | exact w9_1 _ | exact w9_1n) ?_
  refine x_aload dX9_init_47 rfl ?_
  refine x_new nX9_25 dX9_init_48 (Nat.le_of_ble_eq_true rfl) (Nat.le_of_ble_eq_true rfl) ?_
  refine x_dup dX9_init_51 rfl ?_
  refine x_N0v lX9_27 (Rm.of rfl) (cc1 := 15) (cn1 := 151) rfl rfl (Nat.le_of_ble_eq_true rfl) dX9_init_52 (r_X3_init_17 rfl) ?_
  refine x_putF fX9_28 tt9 gX9_28 rfl dX9_init_55 (by first | rfl | assumption) (Nat.le_of_ble_eq_true rfl) (by first | exact w9_2 _ | exact w9_2n) ?_
  refine x_aload dX9_init_58 rfl ?_
  refine x_new nX9_32 dX9_init_59 (Nat.le_of_ble_eq_true rfl) (Nat.le_of_ble_eq_true rfl) ?_
  refine x_dup dX9_init_62 rfl ?_
  refine x_N0v lX9_34 (Rm.of rfl) (cc1 := 20) (cn1 := 190) rfl rfl (Nat.le_of_ble_eq_true rfl) dX9_init_63 (r_X6_init_20 rfl) ?_
  refine x_putF fX9_35 tt9 gX9_35 rfl dX9_init_66 (by first | rfl | assumption) (Nat.le_of_ble_eq_true rfl) (by first | exact w9_3 _ | exact w9_3n) ?_
  refine x_aload dX9_init_69 rfl ?_
  refine x_new nX9_39 dX9_init_70 (Nat.le_of_ble_eq_true rfl) (Nat.le_of_ble_eq_true rfl) ?_
  refine x_dup dX9_init_73 rfl ?_
  refine x_N0v lX9_41 (Rm.of rfl) (cc1 := 23) (cn1 := 320) rfl rfl (Nat.le_of_ble_eq_true rfl) dX9_init_74 (r_X7_init_25 rfl) ?_
  refine x_putF fX9_42 tt9 gX9_42 rfl dX9_init_77 (by first | rfl | assumption) (Nat.le_of_ble_eq_true rfl) (by first | exact w9_4 _ | exact w9_4n) ?_
  refine x_aload dX9_init_80 rfl ?_
  refine x_new nX9_46 dX9_init_81 (Nat.le_of_ble_eq_true rfl) (Nat.le_of_ble_eq_true rfl) ?_
  refine x_dup dX9_init_84 rfl ?_
  refine x_N0v lX9_48 (Rm.of rfl) (cc1 := 34) (cn1 := 400) rfl rfl (Nat.le_of_ble_eq_true rfl) dX9_init_85 (r_X2_init_28 rfl) ?_
  refine x_putF fX9_49 tt9 gX9_49 rfl dX9_init_88 (by first | rfl | assumption) (Nat.le_of_ble_eq_true rfl) (by first | exact w9_5 _ | exact w9_5n) ?_
  refine x_aload dX9_init_91 rfl ?_
  refine x_new nX9_53 dX9_init_92 (Nat.le_of_ble_eq_true rfl) (Nat.le_of_ble_eq_true rfl) ?_
  refine x_dup dX9_init_95 rfl ?_
  refine x_N0v lX9_55 (Rm.of rfl) (cc1 := 40) (cn1 := 444) rfl rfl (Nat.le_of_ble_eq_true rfl) dX9_init_96 (r_X0_init_39 rfl) ?_
  refine x_putF fX9_56 tt9 gX9_56 rfl dX9_init_99 (by first | rfl | assumption) (Nat.le_of_ble_eq_true rfl) (by first | exact w9_6 _ | exact w9_6n) ?_
  refine x_aload dX9_init_102 rfl ?_
  refine x_new nX9_60 dX9_init_103 (Nat.le_of_ble_eq_true rfl) (Nat.le_of_ble_eq_true rfl) ?_
  refine x_dup dX9_init_106 rfl ?_
  refine x_N0v lX9_62 (Rm.of rfl) (cc1 := 43) (cn1 := 463) rfl rfl (Nat.le_of_ble_eq_true rfl) dX9_init_107 (r_X1_init_45 rfl) ?_
  refine x_putF fX9_63 tt9 gX9_63 rfl dX9_init_110 (by first | rfl | assumption) (Nat.le_of_ble_eq_true rfl) (by first | exact w9_7 _ | exact w9_7n) ?_
  refine x_aload dX9_init_113 rfl ?_
  refine x_k dX9_init_114 ?_
  refine x_anew (N := 4) (by first | exact Or.inl rfl | exact Or.inr rfl) naX9_67 dX9_init_115 (by decide) (by decide) (Nat.le_of_ble_eq_true rfl) (Nat.le_of_ble_eq_true rfl) (Nat.le_of_ble_eq_true rfl) ?_
  refine x_dup dX9_init_118 rfl ?_
  refine x_k dX9_init_119 ?_
  refine x_new nX9_67 dX9_init_120 (Nat.le_of_ble_eq_true rfl) (Nat.le_of_ble_eq_true rfl) ?_
  refine x_dup dX9_init_123 rfl ?_
  refine x_N0v lX9_69 (Rm.of rfl) (cc1 := 46) (cn1 := 518) rfl rfl (Nat.le_of_ble_eq_true rfl) dX9_init_124 (r_X4_init_49 rfl) ?_
  refine x_aast dX9_init_127 (by first | rfl | assumption) (by unfold vp_in; decide) (by first | rfl | assumption) rfl ?_
  refine x_dup dX9_init_128 rfl ?_
  refine x_k dX9_init_129 ?_
  refine x_new nX9_67 dX9_init_130 (Nat.le_of_ble_eq_true rfl) (Nat.le_of_ble_eq_true rfl) ?_
  refine x_dup dX9_init_133 rfl ?_
  refine x_N0v lX9_69 (Rm.of rfl) (cc1 := 48) (cn1 := 569) rfl rfl (Nat.le_of_ble_eq_true rfl) dX9_init_134 (r_X4_init_51 rfl) ?_
  refine x_aast dX9_init_137 (by first | rfl | assumption) (by unfold vp_in; decide) (by first | rfl | assumption) rfl ?_
  refine x_dup dX9_init_138 rfl ?_
  refine x_k dX9_init_139 ?_
  refine x_new nX9_67 dX9_init_140 (Nat.le_of_ble_eq_true rfl) (Nat.le_of_ble_eq_true rfl) ?_
  refine x_dup dX9_init_143 rfl ?_
  refine x_N0v lX9_69 (Rm.of rfl) (cc1 := 50) (cn1 := 620) rfl rfl (Nat.le_of_ble_eq_true rfl) dX9_init_144 (r_X4_init_53 rfl) ?_
  refine x_aast dX9_init_147 (by first | rfl | assumption) (by unfold vp_in; decide) (by first | rfl | assumption) rfl ?_
  refine x_dup dX9_init_148 rfl ?_
  refine x_k dX9_init_149 ?_
  refine x_new nX9_67 dX9_init_150 (Nat.le_of_ble_eq_true rfl) (Nat.le_of_ble_eq_true rfl) ?_
  refine x_dup dX9_init_153 rfl ?_
  refine x_N0v lX9_69 (Rm.of rfl) (cc1 := 52) (cn1 := 671) rfl rfl (Nat.le_of_ble_eq_true rfl) dX9_init_154 (r_X4_init_55 rfl) ?_
  refine x_aast dX9_init_157 (by first | rfl | assumption) (by unfold vp_in; decide) (by first | rfl | assumption) rfl ?_
  refine x_putF fX9_70 tt9 gX9_70 rfl dX9_init_158 (by first | rfl | assumption) (Nat.le_of_ble_eq_true rfl) (by first | exact w9_8 _ | exact w9_8n) ?_
  refine x_aload dX9_init_161 rfl ?_
  refine x_k dX9_init_162 ?_
  refine x_put fX9_74 tt9 gX9_74 dX9_init_163 (by first | rfl | assumption) (Nat.le_of_ble_eq_true rfl) (by first | exact w9_90 | exact w9_91) ?_
  refine x_aload dX9_init_166 rfl ?_
  refine x_k dX9_init_167 ?_
  refine x_put fX9_78 tt9 gX9_78 dX9_init_168 (by first | rfl | assumption) (Nat.le_of_ble_eq_true rfl) (w9_10 _) ?_
  refine x_vret dX9_init_171 rfl (Nat.le_of_ble_eq_true rfl) (Nat.le_of_ble_eq_true rfl) ?_
  exact ⟨rfl, rfl, rfl⟩
set_option maxRecDepth 20000 in
theorem r_X10_init_57 {Γ : GX} {h : Hp} (h0 : h 57 = ob 10 [.null, .null, .int 0, .null, .null, .int 0, .null, .null, .null, .int 0, .null, .null, .null, .null, .null, .null, .null, .int 0, .null, .null, .null, .null, .null, .int 0, .null, .null, .null, .null, .null, .null, .null, .null, .int 0]) : Re Γ mX10_init [.ref 57] h 58 none (va_up (va_up (va_up (va_up (va_up (va_up (va_up (va_up (va_up (va_up (va_up (va_up (va_up (va_up (va_up (va_up (va_up (va_up (va_up (va_up (va_up (va_up (va_up (va_up (va_up (va_up (va_up (va_up (va_up (va_up (va_up (va_up (va_up (va_up (va_up (va_up (va_up (va_up (va_up (va_up (va_up (va_up (va_up (va_up (va_up (va_up (va_up (va_up (va_up (va_up (va_up (va_up (va_up (va_up (va_up (va_up (va_up h 58 (some (.inl (.int, 2, .inl (fun _ => 0))))) 57 (ob 10 [.ref 58, .null, .int 0, .null, .null, .int 0, .null, .null, .null, .int 0, .null, .null, .null, .null, .null, .null, .null, .int 0, .null, .null, .null, .null, .null, .int 0, .null, .null, .null, .null, .null, .null, .null, .null, .int 0])) 59 (some (.inl (.int, 60, .inl (fun _ => 0))))) 57 (ob 10 [.ref 58, .ref 59, .int 0, .null, .null, .int 0, .null, .null, .null, .int 0, .null, .null, .null, .null, .null, .null, .null, .int 0, .null, .null, .null, .null, .null, .int 0, .null, .null, .null, .null, .null, .null, .null, .null, .int 0])) 60 (some (.inl (.int, 9, .inl (fun _ => 0))))) 57 (ob 10 [.ref 58, .ref 59, .int 0, .ref 60, .null, .int 0, .null, .null, .null, .int 0, .null, .null, .null, .null, .null, .null, .null, .int 0, .null, .null, .null, .null, .null, .int 0, .null, .null, .null, .null, .null, .null, .null, .null, .int 0])) 61 (some (.inl (.int, 9, .inl (fun _ => 0))))) 57 (ob 10 [.ref 58, .ref 59, .int 0, .ref 60, .ref 61, .int 0, .null, .null, .null, .int 0, .null, .null, .null, .null, .null, .null, .null, .int 0, .null, .null, .null, .null, .null, .int 0, .null, .null, .null, .null, .null, .null, .null, .null, .int 0])) 62 (some (.inl (.int, 9, .inl (fun _ => 0))))) 57 (ob 10 [.ref 58, .ref 59, .int 0, .ref 60, .ref 61, .int 0, .ref 62, .null, .null, .int 0, .null, .null, .null, .null, .null, .null, .null, .int 0, .null, .null, .null, .null, .null, .int 0, .null, .null, .null, .null, .null, .null, .null, .null, .int 0])) 63 (some (.inl (.int, 9, .inl (fun _ => 0))))) 57 (ob 10 [.ref 58, .ref 59, .int 0, .ref 60, .ref 61, .int 0, .ref 62, .ref 63, .null, .int 0, .null, .null, .null, .null, .null, .null, .null, .int 0, .null, .null, .null, .null, .null, .int 0, .null, .null, .null, .null, .null, .null, .null, .null, .int 0])) 64 (some (.inl (.int, 3, .inl (fun _ => 0))))) 57 (ob 10 [.ref 58, .ref 59, .int 0, .ref 60, .ref 61, .int 0, .ref 62, .ref 63, .ref 64, .int 0, .null, .null, .null, .null, .null, .null, .null, .int 0, .null, .null, .null, .null, .null, .int 0, .null, .null, .null, .null, .null, .null, .null, .null, .int 0])) 65 (some (.inl (.int, 12, .inl (fun _ => 0))))) 57 (ob 10 [.ref 58, .ref 59, .int 0, .ref 60, .ref 61, .int 0, .ref 62, .ref 63, .ref 64, .int 0, .ref 65, .null, .null, .null, .null, .null, .null, .int 0, .null, .null, .null, .null, .null, .int 0, .null, .null, .null, .null, .null, .null, .null, .null, .int 0])) 66 (some (.inl (.int, 12, .inl (fun _ => 0))))) 57 (ob 10 [.ref 58, .ref 59, .int 0, .ref 60, .ref 61, .int 0, .ref 62, .ref 63, .ref 64, .int 0, .ref 65, .ref 66, .null, .null, .null, .null, .null, .int 0, .null, .null, .null, .null, .null, .int 0, .null, .null, .null, .null, .null, .null, .null, .null, .int 0])) 67 (some (.inl (.int, 9, .inl (fun _ => 0))))) 57 (ob 10 [.ref 58, .ref 59, .int 0, .ref 60, .ref 61, .int 0, .ref 62, .ref 63, .ref 64, .int 0, .ref 65, .ref 66, .ref 67, .null, .null, .null, .null, .int 0, .null, .null, .null, .null, .null, .int 0, .null, .null, .null, .null, .null, .null, .null, .null, .int 0])) 68 (some (.inl (.int, 9, .inl (fun _ => 0))))) 57 (ob 10 [.ref 58, .ref 59, .int 0, .ref 60, .ref 61, .int 0, .ref 62, .ref 63, .ref 64, .int 0, .ref 65, .ref 66, .ref 67, .ref 68, .null, .null, .null, .int 0, .null, .null, .null, .null, .null, .int 0, .null, .null, .null, .null, .null, .null, .null, .null, .int 0])) 69 (some (.inl (.int, 9, .inl (fun _ => 0))))) 57 (ob 10 [.ref 58, .ref 59, .int 0, .ref 60, .ref 61, .int 0, .ref 62, .ref 63, .ref 64, .int 0, .ref 65, .ref 66, .ref 67, .ref 68, .ref 69, .null, .null, .int 0, .null, .null, .null, .null, .null, .int 0, .null, .null, .null, .null, .null, .null, .null, .null, .int 0])) 70 (some (.inl (.int, 9, .inl (fun _ => 0))))) 57 (ob 10 [.ref 58, .ref 59, .int 0, .ref 60, .ref 61, .int 0, .ref 62, .ref 63, .ref 64, .int 0, .ref 65, .ref 66, .ref 67, .ref 68, .ref 69, .ref 70, .null, .int 0, .null, .null, .null, .null, .null, .int 0, .null, .null, .null, .null, .null, .null, .null, .null, .int 0])) 71 (some (.inl (.int, 9, .inl (fun _ => 0))))) 57 (ob 10 [.ref 58, .ref 59, .int 0, .ref 60, .ref 61, .int 0, .ref 62, .ref 63, .ref 64, .int 0, .ref 65, .ref 66, .ref 67, .ref 68, .ref 69, .ref 70, .ref 71, .int 0, .null, .null, .null, .null, .null, .int 0, .null, .null, .null, .null, .null, .null, .null, .null, .int 0])) 72 (some (.inl (.int, 64, .inl (fun _ => 0))))) 57 (ob 10 [.ref 58, .ref 59, .int 0, .ref 60, .ref 61, .int 0, .ref 62, .ref 63, .ref 64, .int 0, .ref 65, .ref 66, .ref 67, .ref 68, .ref 69, .ref 70, .ref 71, .int 0, .ref 72, .null, .null, .null, .null, .int 0, .null, .null, .null, .null, .null, .null, .null, .null, .int 0])) 73 (some (.inl (.int, 64, .inl (fun _ => 0))))) 57 (ob 10 [.ref 58, .ref 59, .int 0, .ref 60, .ref 61, .int 0, .ref 62, .ref 63, .ref 64, .int 0, .ref 65, .ref 66, .ref 67, .ref 68, .ref 69, .ref 70, .ref 71, .int 0, .ref 72, .ref 73, .null, .null, .null, .int 0, .null, .null, .null, .null, .null, .null, .null, .null, .int 0])) 74 (some (.inl (.int, 26244, .inl (fun _ => 0))))) 57 (ob 10 [.ref 58, .ref 59, .int 0, .ref 60, .ref 61, .int 0, .ref 62, .ref 63, .ref 64, .int 0, .ref 65, .ref 66, .ref 67, .ref 68, .ref 69, .ref 70, .ref 71, .int 0, .ref 72, .ref 73, .ref 74, .null, .null, .int 0, .null, .null, .null, .null, .null, .null, .null, .null, .int 0])) 75 (some (.inl (.int, 4096, .inl (fun _ => 0))))) 57 (ob 10 [.ref 58, .ref 59, .int 0, .ref 60, .ref 61, .int 0, .ref 62, .ref 63, .ref 64, .int 0, .ref 65, .ref 66, .ref 67, .ref 68, .ref 69, .ref 70, .ref 71, .int 0, .ref 72, .ref 73, .ref 74, .ref 75, .null, .int 0, .null, .null, .null, .null, .null, .null, .null, .null, .int 0])) 76 (some (.inl (.int, 4096, .inl (fun _ => 0))))) 57 (ob 10 [.ref 58, .ref 59, .int 0, .ref 60, .ref 61, .int 0, .ref 62, .ref 63, .ref 64, .int 0, .ref 65, .ref 66, .ref 67, .ref 68, .ref 69, .ref 70, .ref 71, .int 0, .ref 72, .ref 73, .ref 74, .ref 75, .ref 76, .int 0, .null, .null, .null, .null, .null, .null, .null, .null, .int 0])) 77 (some (.inl (.int, 8, .inl (fun _ => 0))))) 57 (ob 10 [.ref 58, .ref 59, .int 0, .ref 60, .ref 61, .int 0, .ref 62, .ref 63, .ref 64, .int 0, .ref 65, .ref 66, .ref 67, .ref 68, .ref 69, .ref 70, .ref 71, .int 0, .ref 72, .ref 73, .ref 74, .ref 75, .ref 76, .int 0, .ref 77, .null, .null, .null, .null, .null, .null, .null, .int 0])) 78 (some (.inl (.int, 8, .inl (fun _ => 0))))) 57 (ob 10 [.ref 58, .ref 59, .int 0, .ref 60, .ref 61, .int 0, .ref 62, .ref 63, .ref 64, .int 0, .ref 65, .ref 66, .ref 67, .ref 68, .ref 69, .ref 70, .ref 71, .int 0, .ref 72, .ref 73, .ref 74, .ref 75, .ref 76, .int 0, .ref 77, .ref 78, .null, .null, .null, .null, .null, .null, .int 0])) 79 (some (.inl (.int, 9, .inl (fun _ => 0))))) 57 (ob 10 [.ref 58, .ref 59, .int 0, .ref 60, .ref 61, .int 0, .ref 62, .ref 63, .ref 64, .int 0, .ref 65, .ref 66, .ref 67, .ref 68, .ref 69, .ref 70, .ref 71, .int 0, .ref 72, .ref 73, .ref 74, .ref 75, .ref 76, .int 0, .ref 77, .ref 78, .ref 79, .null, .null, .null, .null, .null, .int 0])) 80 (some (.inl (.boolean, 4, .inl (fun _ => 0))))) 57 (ob 10 [.ref 58, .ref 59, .int 0, .ref 60, .ref 61, .int 0, .ref 62, .ref 63, .ref 64, .int 0, .ref 65, .ref 66, .ref 67, .ref 68, .ref 69, .ref 70, .ref 71, .int 0, .ref 72, .ref 73, .ref 74, .ref 75, .ref 76, .int 0, .ref 77, .ref 78, .ref 79, .ref 80, .null, .null, .null, .null, .int 0])) 81 (some (.inl (.int, 4, .inl (fun _ => 0))))) 57 (ob 10 [.ref 58, .ref 59, .int 0, .ref 60, .ref 61, .int 0, .ref 62, .ref 63, .ref 64, .int 0, .ref 65, .ref 66, .ref 67, .ref 68, .ref 69, .ref 70, .ref 71, .int 0, .ref 72, .ref 73, .ref 74, .ref 75, .ref 76, .int 0, .ref 77, .ref 78, .ref 79, .ref 80, .ref 81, .null, .null, .null, .int 0])) 82 (some (.inl (.int, 4, .inl (fun _ => 0))))) 57 (ob 10 [.ref 58, .ref 59, .int 0, .ref 60, .ref 61, .int 0, .ref 62, .ref 63, .ref 64, .int 0, .ref 65, .ref 66, .ref 67, .ref 68, .ref 69, .ref 70, .ref 71, .int 0, .ref 72, .ref 73, .ref 74, .ref 75, .ref 76, .int 0, .ref 77, .ref 78, .ref 79, .ref 80, .ref 81, .ref 82, .null, .null, .int 0])) 83 (some (.inl (.int, 192, .inl (fun _ => 0))))) 57 (ob 10 [.ref 58, .ref 59, .int 0, .ref 60, .ref 61, .int 0, .ref 62, .ref 63, .ref 64, .int 0, .ref 65, .ref 66, .ref 67, .ref 68, .ref 69, .ref 70, .ref 71, .int 0, .ref 72, .ref 73, .ref 74, .ref 75, .ref 76, .int 0, .ref 77, .ref 78, .ref 79, .ref 80, .ref 81, .ref 82, .ref 83, .null, .int 0])) 84 (some (.inl (.int, 48, .inl (fun _ => 0))))) 57 (ob 10 [.ref 58, .ref 59, .int 0, .ref 60, .ref 61, .int 0, .ref 62, .ref 63, .ref 64, .int 0, .ref 65, .ref 66, .ref 67, .ref 68, .ref 69, .ref 70, .ref 71, .int 0, .ref 72, .ref 73, .ref 74, .ref 75, .ref 76, .int 0, .ref 77, .ref 78, .ref 79, .ref 80, .ref 81, .ref 82, .ref 83, .ref 84, .int 0])) 64 (some (.inl (.int, 3, .inl (upd (fun _ => 0) 0 1))))) 64 (some (.inl (.int, 3, .inl (upd (upd (fun _ => 0) 0 1) 1 1))))) 64 (some (.inl (.int, 3, .inl (upd (upd (upd (fun _ => 0) 0 1) 1 1) 2 1))))) 85 := by
  refine x_enter 1 (by decide) rfl ?_
  refine x_aload dX10_init_0 rfl ?_
  refine x_objInit lX10_1 dX10_init_1 (Nat.le_of_ble_eq_true rfl) ⟨(Nat.le_of_ble_eq_true rfl), (Nat.le_of_ble_eq_true rfl)⟩ ?_
  refine x_aload dX10_init_4 rfl ?_
  refine x_k dX10_init_5 ?_
  refine x_newaI (N := 2) dX10_init_6 (by decide) (by decide) (Nat.le_of_ble_eq_true rfl) (Nat.le_of_ble_eq_true rfl) (Nat.le_of_ble_eq_true rfl) ?_
  refine x_putF fX10_7 tt10 gX10_7 rfl dX10_init_8 (by first | rfl | assumption) (Nat.le_of_ble_eq_true rfl) (by first | exact w10_0 _ | exact w10_0n) ?_
  refine x_aload dX10_init_11 rfl ?_
  refine x_k dX10_init_12 ?_
  refine x_newaI (N := 60) dX10_init_14 (by decide) (by decide) (Nat.le_of_ble_eq_true rfl) (Nat.le_of_ble_eq_true rfl) (Nat.le_of_ble_eq_true rfl) ?_
  refine x_putF fX10_13 tt10 gX10_13 rfl dX10_init_16 (by first | rfl | assumption) (Nat.le_of_ble_eq_true rfl) (by first | exact w10_1 _ | exact w10_1n) ?_
  refine x_aload dX10_init_19 rfl ?_
  refine x_k dX10_init_20 ?_
  refine x_newaI (N := 9) dX10_init_22 (by decide) (by decide) (Nat.le_of_ble_eq_true rfl) (Nat.le_of_ble_eq_true rfl) (Nat.le_of_ble_eq_true rfl) ?_
  refine x_putF fX10_16 tt10 gX10_16 rfl dX10_init_24 (by first | rfl | assumption) (Nat.le_of_ble_eq_true rfl) (by first | exact w10_3 _ | exact w10_3n) ?_
  refine x_aload dX10_init_27 rfl ?_
  refine x_k dX10_init_28 ?_
  refine x_newaI (N := 9) dX10_init_30 (by decide) (by decide) (Nat.le_of_ble_eq_true rfl) (Nat.le_of_ble_eq_true rfl) (Nat.le_of_ble_eq_true rfl) ?_
  refine x_putF fX10_19 tt10 gX10_19 rfl dX10_init_32 (by first | rfl | assumption) (Nat.le_of_ble_eq_true rfl) (by first | exact w10_4 _ | exact w10_4n) ?_
  refine x_aload dX10_init_35 rfl ?_
  refine x_k dX10_init_36 ?_
  refine x_newaI (N := 9) dX10_init_38 (by decide) (by decide) (Nat.le_of_ble_eq_true rfl) (Nat.le_of_ble_eq_true rfl) (Nat.le_of_ble_eq_true rfl) ?_
  refine x_putF fX10_22 tt10 gX10_22 rfl dX10_init_40 (by first | rfl | assumption) (Nat.le_of_ble_eq_true rfl) (by first | exact w10_6 _ | exact w10_6n) ?_
  refine x_aload dX10_init_43 rfl ?_
  refine x_k dX10_init_44 ?_
  refine x_newaI (N := 9) dX10_init_46 (by decide) (by decide) (Nat.le_of_ble_eq_true rfl) (Nat.le_of_ble_eq_true rfl) (Nat.le_of_ble_eq_true rfl) ?_
  refine x_putF fX10_25 tt10 gX10_25 rfl dX10_init_48 (by first | rfl | assumption) (Nat.le_of_ble_eq_true rfl) (by first | exact w10_7 _ | exact w10_7n) ?_
  refine x_aload dX10_init_51 rfl ?_
  refine x_k dX10_init_52 ?_
  refine x_newaI (N := 3) dX10_init_53 (by decide) (by decide) (Nat.le_of_ble_eq_true rfl) (Nat.le_of_ble_eq_true rfl) (Nat.le_of_ble_eq_true rfl) ?_
  refine x_putF fX10_28 tt10 gX10_28 rfl dX10_init_55 (by first | rfl | assumption) (Nat.le_of_ble_eq_true rfl) (by first | exact w10_8 _ | exact w10_8n) ?_
  refine x_aload dX10_init_58 rfl ?_
  refine x_k dX10_init_59 ?_
  refine x_newaI (N := 12) dX10_init_61 (by decide) (by decide) (Nat.le_of_ble_eq_true rfl) (Nat.le_of_ble_eq_true rfl) (Nat.le_of_ble_eq_true rfl) ?_
  refine x_putF fX10_31 tt10 gX10_31 rfl dX10_init_63 (by first | rfl | assumption) (Nat.le_of_ble_eq_true rfl) (by first | exact w10_10 _ | exact w10_10n) ?_
  refine x_aload dX10_init_66 rfl ?_
  refine x_k dX10_init_67 ?_
  refine x_newaI (N := 12) dX10_init_69 (by decide) (by decide) (Nat.le_of_ble_eq_true rfl) (Nat.le_of_ble_eq_true rfl) (Nat.le_of_ble_eq_true rfl) ?_
  refine x_putF fX10_34 tt10 gX10_34 rfl dX10_init_71 (by first | rfl | assumption) (Nat.le_of_ble_eq_true rfl) (by first | exact w10_11 _ | exact w10_11n) ?_
  refine x_aload dX10_init_74 rfl ?_
  refine x_k dX10_init_75 ?_
  refine x_newaI (N := 9) dX10_init_77 (by decide) (by decide) (Nat.le_of_ble_eq_true rfl) (Nat.le_of_ble_eq_true rfl) (Nat.le_of_ble_eq_true rfl) ?_
  refine x_putF fX10_37 tt10 gX10_37 rfl dX10_init_79 (by first | rfl | assumption) (Nat.le_of_ble_eq_true rfl) (by first | exact w10_12 _ | exact w10_12n) ?_
  refine x_aload dX10_init_82 rfl ?_
  refine x_k dX10_init_83 ?_
  refine x_newaI (N := 9) dX10_init_85 (by decide) (by decide) (Nat.le_of_ble_eq_true rfl) (Nat.le_of_ble_eq_true rfl) (Nat.le_of_ble_eq_true rfl) ?_
  refine x_putF fX10_40 tt10 gX10_40 rfl dX10_init_87 (by first | rfl | assumption) (Nat.le_of_ble_eq_true rfl) (by first | exact w10_13 _ | exact w10_13n) ?_
  refine x_aload dX10_init_90 rfl ?_
  refine x_k dX10_init_91 ?_
  refine x_newaI (N := 9) dX10_init_93 (by decide) (by decide) (Nat.le_of_ble_eq_true rfl) (Nat.le_of_ble_eq_true rfl) (Nat.le_of_ble_eq_true rfl) ?_
  refine x_putF fX10_43 tt10 gX10_43 rfl dX10_init_95 (by first | rfl | assumption) (Nat.le_of_ble_eq_true rfl) (by first | exact w10_14 _ | exact w10_14n) ?_
  refine x_aload dX10_init_98 rfl ?_
  refine x_k dX10_init_99 ?_
  refine x_newaI (N := 9) dX10_init_101 (by decide) (by decide) (Nat.le_of_ble_eq_true rfl) (Nat.le_of_ble_eq_true rfl) (Nat.le_of_ble_eq_true rfl) ?_
  refine x_putF fX10_46 tt10 gX10_46 rfl dX10_init_103 (by first | rfl | assumption) (Nat.le_of_ble_eq_true rfl) (by first | exact w10_15 _ | exact w10_15n) ?_
  refine x_aload dX10_init_106 rfl ?_
  refine x_k dX10_init_107 ?_
  refine x_newaI (N := 9) dX10_init_109 (by decide) (by decide) (Nat.le_of_ble_eq_true rfl) (Nat.le_of_ble_eq_true rfl) (Nat.le_of_ble_eq_true rfl) ?_
  refine x_putF fX10_49 tt10 gX10_49 rfl dX10_init_111 (by first | rfl | assumption) (Nat.le_of_ble_eq_true rfl) (by first | exact w10_16 _ | exact w10_16n) ?_
  refine x_aload dX10_init_114 rfl ?_
  refine x_k dX10_init_115 ?_
  refine x_newaI (N := 64) dX10_init_117 (by decide) (by decide) (Nat.le_of_ble_eq_true rfl) (Nat.le_of_ble_eq_true rfl) (Nat.le_of_ble_eq_true rfl) ?_
  refine x_putF fX10_52 tt10 gX10_52 rfl dX10_init_119 (by first | rfl | assumption) (Nat.le_of_ble_eq_true rfl) (by first | exact w10_18 _ | exact w10_18n) ?_
  refine x_aload dX10_init_122 rfl ?_
  refine x_k dX10_init_123 ?_
  refine x_newaI (N := 64) dX10_init_125 (by decide) (by decide) (Nat.le_of_ble_eq_true rfl) (Nat.le_of_ble_eq_true rfl) (Nat.le_of_ble_eq_true rfl) ?_
  refine x_putF fX10_55 tt10 gX10_55 rfl dX10_init_127 (by first | rfl | assumption) (Nat.le_of_ble_eq_true rfl) (by first | exact w10_19 _ | exact w10_19n) ?_
  refine x_aload dX10_init_130 rfl ?_
  refine x_k dX10_init_131 ?_
  refine x_newaI (N := 26244) dX10_init_134 (by decide) (by decide) (Nat.le_of_ble_eq_true rfl) (Nat.le_of_ble_eq_true rfl) (Nat.le_of_ble_eq_true rfl) ?_
  refine x_putF fX10_58 tt10 gX10_58 rfl dX10_init_136 (by first | rfl | assumption) (Nat.le_of_ble_eq_true rfl) (by first | exact w10_20 _ | exact w10_20n) ?_
  refine x_aload dX10_init_139 rfl ?_
  refine x_k dX10_init_140 ?_
  refine x_newaI (N := 4096) dX10_init_143 (by decide) (by decide) (Nat.le_of_ble_eq_true rfl) (Nat.le_of_ble_eq_true rfl) (Nat.le_of_ble_eq_true rfl) ?_
  refine x_putF fX10_61 tt10 gX10_61 rfl dX10_init_145 (by first | rfl | assumption) (Nat.le_of_ble_eq_true rfl) (by first | exact w10_21 _ | exact w10_21n) ?_
  refine x_aload dX10_init_148 rfl ?_
  refine x_k dX10_init_149 ?_
  refine x_newaI (N := 4096) dX10_init_152 (by decide) (by decide) (Nat.le_of_ble_eq_true rfl) (Nat.le_of_ble_eq_true rfl) (Nat.le_of_ble_eq_true rfl) ?_
  refine x_putF fX10_64 tt10 gX10_64 rfl dX10_init_154 (by first | rfl | assumption) (Nat.le_of_ble_eq_true rfl) (by first | exact w10_22 _ | exact w10_22n) ?_
  refine x_aload dX10_init_157 rfl ?_
  refine x_k dX10_init_158 ?_
  refine x_newaI (N := 8) dX10_init_160 (by decide) (by decide) (Nat.le_of_ble_eq_true rfl) (Nat.le_of_ble_eq_true rfl) (Nat.le_of_ble_eq_true rfl) ?_
  refine x_putF fX10_67 tt10 gX10_67 rfl dX10_init_162 (by first | rfl | assumption) (Nat.le_of_ble_eq_true rfl) (by first | exact w10_24 _ | exact w10_24n) ?_
  refine x_aload dX10_init_165 rfl ?_
  refine x_k dX10_init_166 ?_
  refine x_newaI (N := 8) dX10_init_168 (by decide) (by decide) (Nat.le_of_ble_eq_true rfl) (Nat.le_of_ble_eq_true rfl) (Nat.le_of_ble_eq_true rfl) ?_
  refine x_putF fX10_70 tt10 gX10_70 rfl dX10_init_170 (by first | rfl | assumption) (Nat.le_of_ble_eq_true rfl) (by first | exact w10_25 _ | exact w10_25n) ?_
  refine x_aload dX10_init_173 rfl ?_
  refine x_k dX10_init_174 ?_
  refine x_newaI (N := 9) dX10_init_176 (by decide) (by decide) (Nat.le_of_ble_eq_true rfl) (Nat.le_of_ble_eq_true rfl) (Nat.le_of_ble_eq_true rfl) ?_
  refine x_putF fX10_73 tt10 gX10_73 rfl dX10_init_178 (by first | rfl | assumption) (Nat.le_of_ble_eq_true rfl) (by first | exact w10_26 _ | exact w10_26n) ?_
  refine x_aload dX10_init_181 rfl ?_
  refine x_k dX10_init_182 ?_
  refine x_newaZ (N := 4) dX10_init_183 (by decide) (by decide) (Nat.le_of_ble_eq_true rfl) (Nat.le_of_ble_eq_true rfl) (Nat.le_of_ble_eq_true rfl) ?_
  refine x_putF fX10_76 tt10 gX10_76 rfl dX10_init_185 (by first | rfl | assumption) (Nat.le_of_ble_eq_true rfl) (by first | exact w10_27 _ | exact w10_27n) ?_
  refine x_aload dX10_init_188 rfl ?_
  refine x_k dX10_init_189 ?_
  refine x_newaI (N := 4) dX10_init_190 (by decide) (by decide) (Nat.le_of_ble_eq_true rfl) (Nat.le_of_ble_eq_true rfl) (Nat.le_of_ble_eq_true rfl) ?_
  refine x_putF fX10_80 tt10 gX10_80 rfl dX10_init_192 (by first | rfl | assumption) (Nat.le_of_ble_eq_true rfl) (by first | exact w10_28 _ | exact w10_28n) ?_
  refine x_aload dX10_init_195 rfl ?_
  refine x_k dX10_init_196 ?_
  refine x_newaI (N := 4) dX10_init_197 (by decide) (by decide) (Nat.le_of_ble_eq_true rfl) (Nat.le_of_ble_eq_true rfl) (Nat.le_of_ble_eq_true rfl) ?_
  refine x_putF fX10_83 tt10 gX10_83 rfl dX10_init_199 (by first | rfl | assumption) (Nat.le_of_ble_eq_true rfl) (by first | exact w10_29 _ | exact w10_29n) ?_
  refine x_aload dX10_init_202 rfl ?_
  refine x_k dX10_init_203 ?_
  refine x_newaI (N := 192) dX10_init_206 (by decide) (by decide) (Nat.le_of_ble_eq_true rfl) (Nat.le_of_ble_eq_true rfl) (Nat.le_of_ble_eq_true rfl) ?_
  refine x_putF fX10_86 tt10 gX10_86 rfl dX10_init_208 (by first | rfl | assumption) (Nat.le_of_ble_eq_true rfl) (by first | exact w10_30 _ | exact w10_30n) ?_
  refine x_aload dX10_init_211 rfl ?_
  refine x_k dX10_init_212 ?_
  refine x_newaI (N := 48) dX10_init_214 (by decide) (by decide) (Nat.le_of_ble_eq_true rfl) (Nat.le_of_ble_eq_true rfl) (Nat.le_of_ble_eq_true rfl) ?_
  refine x_putF fX10_89 tt10 gX10_89 rfl dX10_init_216 (by first | rfl | assumption) (Nat.le_of_ble_eq_true rfl) (by first | exact w10_31 _ | exact w10_31n) ?_
  refine x_k dX10_init_219 ?_
  refine x_istore dX10_init_220 (Nat.le_of_ble_eq_true rfl) rfl ?_
  refine x_iload dX10_init_221 rfl ?_
  refine x_k dX10_init_222 ?_
  refine x_icmp_ge dX10_init_223 (fun b => ?_) (fun b => ?_)
  · exact absurd b (by decide)
  refine x_aload dX10_init_226 rfl ?_
  refine x_get fX10_28 dX10_init_227 (by first | rfl | assumption) ?_
  refine x_iload dX10_init_230 rfl ?_
  refine x_k dX10_init_231 ?_
  refine x_iast dX10_init_232 (by first | rfl | assumption) (by unfold vp_in; decide) ?_
  refine x_iinc (v := 1) dX10_init_233 rfl (by decide) (Nat.le_of_ble_eq_true rfl) rfl ?_
  refine x_goto dX10_init_236 ?_
  refine x_iload dX10_init_221 rfl ?_
  refine x_k dX10_init_222 ?_
  refine x_icmp_ge dX10_init_223 (fun b => ?_) (fun b => ?_)
  · exact absurd b (by decide)
  refine x_aload dX10_init_226 rfl ?_
  refine x_get fX10_28 dX10_init_227 (by first | rfl | assumption) ?_
  refine x_iload dX10_init_230 rfl ?_
  refine x_k dX10_init_231 ?_
  refine x_iast dX10_init_232 (by first | rfl | assumption) (by unfold vp_in; decide) ?_
  refine x_iinc (v := 1) dX10_init_233 rfl (by decide) (Nat.le_of_ble_eq_true rfl) rfl ?_
  refine x_goto dX10_init_236 ?_
  refine x_iload dX10_init_221 rfl ?_
  refine x_k dX10_init_222 ?_
  refine x_icmp_ge dX10_init_223 (fun b => ?_) (fun b => ?_)
  · exact absurd b (by decide)
  refine x_aload dX10_init_226 rfl ?_
  refine x_get fX10_28 dX10_init_227 (by first | rfl | assumption) ?_
  refine x_iload dX10_init_230 rfl ?_
  refine x_k dX10_init_231 ?_
  refine x_iast dX10_init_232 (by first | rfl | assumption) (by unfold vp_in; decide) ?_
  refine x_iinc (v := 1) dX10_init_233 rfl (by decide) (Nat.le_of_ble_eq_true rfl) rfl ?_
  refine x_goto dX10_init_236 ?_
  refine x_iload dX10_init_221 rfl ?_
  refine x_k dX10_init_222 ?_
  refine x_icmp_ge dX10_init_223 (fun b => ?_) (fun b => ?_)
  rotate_left
  · exact absurd (by decide) b
  refine x_vret dX10_init_239 rfl (Nat.le_of_ble_eq_true rfl) (Nat.le_of_ble_eq_true rfl) ?_
  exact ⟨rfl, rfl, rfl⟩
