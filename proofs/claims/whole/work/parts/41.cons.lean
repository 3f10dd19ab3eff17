theorem nd_X0 : ∀ j, j < 20 → defaultValue (tyX0 j) = vp_V [.int 0, .int 0, .int 0, .int 0, .int 0, .int 0, .int 0, .int 0, .int 0, .int 0, .int 0, .null, .null, .null, .null, .null, .null, .null, .null, .null] j := fun j hj => match j, hj with
  | 0, _ => rfl
  | 1, _ => rfl
  | 2, _ => rfl
  | 3, _ => rfl
  | 4, _ => rfl
  | 5, _ => rfl
  | 6, _ => rfl
  | 7, _ => rfl
  | 8, _ => rfl
  | 9, _ => rfl
  | 10, _ => rfl
  | 11, _ => rfl
  | 12, _ => rfl
  | 13, _ => rfl
  | 14, _ => rfl
  | 15, _ => rfl
  | 16, _ => rfl
  | 17, _ => rfl
  | 18, _ => rfl
  | 19, _ => rfl
  | n + 20, h => absurd h (by omega)
theorem nd_X2 : ∀ j, j < 9 → defaultValue (tyX2 j) = vp_V [.int 0, .null, .null, .null, .null, .int 0, .int 0, .null, .null] j := fun j hj => match j, hj with
  | 0, _ => rfl
  | 1, _ => rfl
  | 2, _ => rfl
  | 3, _ => rfl
  | 4, _ => rfl
  | 5, _ => rfl
  | 6, _ => rfl
  | 7, _ => rfl
  | 8, _ => rfl
  | n + 9, h => absurd h (by omega)
theorem nd_X4 : ∀ j, j < 4 → defaultValue (tyX4 j) = vp_V [.int 0, .null, .null, .null] j := fun j hj => match j, hj with
  | 0, _ => rfl
  | 1, _ => rfl
  | 2, _ => rfl
  | 3, _ => rfl
  | n + 4, h => absurd h (by omega)
theorem nd_X5 : ∀ j, j < 5 → defaultValue (tyX5 j) = vp_V [.int 0, .null, .null, .null, .null] j := fun j hj => match j, hj with
  | 0, _ => rfl
  | 1, _ => rfl
  | 2, _ => rfl
  | 3, _ => rfl
  | 4, _ => rfl
  | n + 5, h => absurd h (by omega)
theorem nd_X1 : ∀ j, j < 3 → defaultValue (tyX1 j) = vp_V [.int 0, .null, .null] j := fun j hj => match j, hj with
  | 0, _ => rfl
  | 1, _ => rfl
  | 2, _ => rfl
  | n + 3, h => absurd h (by omega)
theorem nd_X3 : ∀ j, j < 1 → defaultValue (tyX3 j) = vp_V [.null] j := fun j hj => match j, hj with
  | 0, _ => rfl
  | n + 1, h => absurd h (by omega)
theorem nd_X8 : ∀ j, j < 6 → defaultValue (tyX8 j) = vp_V [.null, .int 0, .null, .null, .null, .int 0] j := fun j hj => match j, hj with
  | 0, _ => rfl
  | 1, _ => rfl
  | 2, _ => rfl
  | 3, _ => rfl
  | 4, _ => rfl
  | 5, _ => rfl
  | n + 6, h => absurd h (by omega)
theorem nd_X7 : ∀ j, j < 5 → defaultValue (tyX7 j) = vp_V [.int 0, .int 0, .int 0, .int 0, .null] j := fun j hj => match j, hj with
  | 0, _ => rfl
  | 1, _ => rfl
  | 2, _ => rfl
  | 3, _ => rfl
  | 4, _ => rfl
  | n + 5, h => absurd h (by omega)
theorem nd_X9 : ∀ j, j < 6 → defaultValue (tyX9 j) = vp_V [.null, .null, .null, .null, .null, .null] j := fun j hj => match j, hj with
  | 0, _ => rfl
  | 1, _ => rfl
  | 2, _ => rfl
  | 3, _ => rfl
  | 4, _ => rfl
  | 5, _ => rfl
  | n + 6, h => absurd h (by omega)
theorem nd_X6 : ∀ j, j < 9 → defaultValue (tyX6 j) = vp_V [.int 0, .int 0, .null, .null, .null, .null, .int 0, .int 0, .int 0] j := fun j hj => match j, hj with
  | 0, _ => rfl
  | 1, _ => rfl
  | 2, _ => rfl
  | 3, _ => rfl
  | 4, _ => rfl
  | 5, _ => rfl
  | 6, _ => rfl
  | 7, _ => rfl
  | 8, _ => rfl
  | n + 9, h => absurd h (by omega)
theorem nd_X10 : ∀ j, j < 13 → defaultValue (tyX10 j) = vp_V [.null, .null, .null, .int 0, .null, .int 0, .int 0, .null, .null, .null, .null, .null, .null] j := fun j hj => match j, hj with
  | 0, _ => rfl
  | 1, _ => rfl
  | 2, _ => rfl
  | 3, _ => rfl
  | 4, _ => rfl
  | 5, _ => rfl
  | 6, _ => rfl
  | 7, _ => rfl
  | 8, _ => rfl
  | 9, _ => rfl
  | 10, _ => rfl
  | 11, _ => rfl
  | 12, _ => rfl
  | n + 13, h => absurd h (by omega)
theorem nd_X11 : ∀ j, j < 56 → defaultValue (tyX11 j) = vp_V [.int 0, .null, .null, .int 0, .null, .int 0, .int 0, .int 0, .int 0, .int 0, .int 0, .int 0, .null, .null, .int 0, .int 0, .int 0, .int 0, .int 0, .null, .null, .null, .null, .null, .null, .null, .null, .int 0, .int 0, .int 0, .null, .int 0, .int 0, .int 0, .int 0, .int 0, .int 0, .null, .int 0, .null, .null, .null, .int 0, .int 0, .int 0, .int 0, .null, .null, .int 0, .null, .null, .null, .int 0, .int 0, .int 0, .null] j := fun j hj => match j, hj with
  | 0, _ => rfl
  | 1, _ => rfl
  | 2, _ => rfl
  | 3, _ => rfl
  | 4, _ => rfl
  | 5, _ => rfl
  | 6, _ => rfl
  | 7, _ => rfl
  | 8, _ => rfl
  | 9, _ => rfl
  | 10, _ => rfl
  | 11, _ => rfl
  | 12, _ => rfl
  | 13, _ => rfl
  | 14, _ => rfl
  | 15, _ => rfl
  | 16, _ => rfl
  | 17, _ => rfl
  | 18, _ => rfl
  | 19, _ => rfl
  | 20, _ => rfl
  | 21, _ => rfl
  | 22, _ => rfl
  | 23, _ => rfl
  | 24, _ => rfl
  | 25, _ => rfl
  | 26, _ => rfl
  | 27, _ => rfl
  | 28, _ => rfl
  | 29, _ => rfl
  | 30, _ => rfl
  | 31, _ => rfl
  | 32, _ => rfl
  | 33, _ => rfl
  | 34, _ => rfl
  | 35, _ => rfl
  | 36, _ => rfl
  | 37, _ => rfl
  | 38, _ => rfl
  | 39, _ => rfl
  | 40, _ => rfl
  | 41, _ => rfl
  | 42, _ => rfl
  | 43, _ => rfl
  | 44, _ => rfl
  | 45, _ => rfl
  | 46, _ => rfl
  | 47, _ => rfl
  | 48, _ => rfl
  | 49, _ => rfl
  | 50, _ => rfl
  | 51, _ => rfl
  | 52, _ => rfl
  | 53, _ => rfl
  | 54, _ => rfl
  | 55, _ => rfl
  | n + 56, h => absurd h (by omega)
def n_X0 (G : qG) (b n : Nat)  : List va_E := [.inr (0, [.int 0, .int 0, .int 0, .int 0, .int (9 : Int32), .int (4 : Int32), .int 0, .int 0, .int 0, .int 0, .int 0, .ref (b + (n + 1)), .ref (b + (n + 2)), .ref (b + (n + 3)), .ref (b + (n + 4)), .ref (b + (n + 5)), .ref (b + (n + 6)), .ref (b + (n + 7)), .ref (b + (n + 8)), .ref (b + (n + 9))]), .inl (G.2.1, 5, .inl (fun _ => 0)), .inl (G.2.1, 5, .inl (fun _ => 0)), .inl (G.2.1, 5, .inl (fun _ => 0)), .inl (G.2.1, 14, .inl (fun _ => 0)), .inl (G.2.1, 14, .inl (fun _ => 0)), .inl (G.2.1, 14, .inl (fun _ => 0)), .inl (G.2.1, 14, .inl (fun _ => 0)), .inl (G.2.1, 10, .inl (fun _ => 0)), .inl (G.2.1, 50, .inl (fun _ => 0))]
theorem n_X0_len (G : qG) (b n : Nat)  : (n_X0 G b n ).length = 10 := rfl
def n_v0 (b n : Nat) : List Value := [.int 0, .int 0, .int 0, .int 0, .int (9 : Int32), .int (4 : Int32), .int 0, .int 0, .int 0, .int 0, .int 0, .ref (b + (n + 1)), .ref (b + (n + 2)), .ref (b + (n + 3)), .ref (b + (n + 4)), .ref (b + (n + 5)), .ref (b + (n + 6)), .ref (b + (n + 7)), .ref (b + (n + 8)), .ref (b + (n + 9))]
theorem mf_nX0 : n_Mf yX0_init cX0_init 1 0 := ⟨t_37, t_3, t_38, rfl, by decide +kernel, by decide⟩
set_option maxRecDepth 100000 in
set_option maxHeartbeats 16000000 in
theorem nc_X0 (l : Launch) (G : qG) (b : Nat) (P : List va_E) (n : Nat)  (hn : P.length = n) : NC l yX0_init cX0_init 1 1 9 131 G b [.ref (b + n)] (P ++ [.inr (0, [.int 0, .int 0, .int 0, .int 0, .int 0, .int 0, .int 0, .int 0, .int 0, .int 0, .int 0, .null, .null, .null, .null, .null, .null, .null, .null, .null])]) (P ++ n_X0 G b n ) := by
  subst hn
  refine NC.of_SN (own := RX0) rfl rfl (by decide) (Nat.le_of_ble_eq_true rfl) [(0, .ref (b + (P.length + 0)))] rfl ?_
  refine sn_aload_n 0 dX0_init_0 rfl rfl ?_
  refine sn_obj dX0_init_1 t_39 t_26 t_27 (by decide) ?_
  refine sn_aload_n 0 dX0_init_4 rfl rfl ?_
  refine sn_bipush (9 : Int32) dX0_init_5 (by decide) ?_
  refine sn_put q_cl0 (i := 0) 4 (ty := .int) (X1 := [.inr (0, [.int 0, .int 0, .int 0, .int 0, .int (9 : Int32), .int 0, .int 0, .int 0, .int 0, .int 0, .int 0, .null, .null, .null, .null, .null, .null, .null, .null, .null])]) rfl rfl dX0_init_7 t_53 (by decide) (by decide +kernel) rfl rfl (Nat.le_of_ble_eq_true rfl) rfl ?_
  refine sn_aload_n 0 dX0_init_10 rfl rfl ?_
  refine sn_iconst (4 : Int32) dX0_init_11 (by decide) ?_
  refine sn_put q_cl0 (i := 0) 5 (ty := .int) (X1 := [.inr (0, [.int 0, .int 0, .int 0, .int 0, .int (9 : Int32), .int (4 : Int32), .int 0, .int 0, .int 0, .int 0, .int 0, .null, .null, .null, .null, .null, .null, .null, .null, .null])]) rfl rfl dX0_init_12 t_55 (by decide) (by decide +kernel) rfl rfl (Nat.le_of_ble_eq_true rfl) rfl ?_
  refine sn_aload_n 0 dX0_init_15 rfl rfl ?_
  refine sn_iconst (5 : Int32) dX0_init_16 (by decide) ?_
  refine sn_newi (N := 5) 1 rfl dX0_init_17 t_144 (by decide) (by decide) (by decide) (Nat.le_of_ble_eq_true rfl) (Nat.le_of_ble_eq_true rfl) ?_
  refine SN.eq (X1 := [.inr (0, [.int 0, .int 0, .int 0, .int 0, .int (9 : Int32), .int (4 : Int32), .int 0, .int 0, .int 0, .int 0, .int 0, .null, .null, .null, .null, .null, .null, .null, .null, .null]), .inl (G.2.1, 5, .inl (fun _ => 0))]) rfl ?_
  refine sn_put q_cl0 (i := 0) 11 (ty := (.array .int)) (X1 := [.inr (0, [.int 0, .int 0, .int 0, .int 0, .int (9 : Int32), .int (4 : Int32), .int 0, .int 0, .int 0, .int 0, .int 0, .ref (b + (P.length + 1)), .null, .null, .null, .null, .null, .null, .null, .null]), .inl (G.2.1, 5, .inl (fun _ => 0))]) rfl rfl dX0_init_19 t_72 (by decide) (by decide +kernel) rfl rfl (Nat.le_of_ble_eq_true rfl) rfl ?_
  refine sn_aload_n 0 dX0_init_22 rfl rfl ?_
  refine sn_iconst (5 : Int32) dX0_init_23 (by decide) ?_
  refine sn_newi (N := 5) 2 rfl dX0_init_24 t_144 (by decide) (by decide) (by decide) (Nat.le_of_ble_eq_true rfl) (Nat.le_of_ble_eq_true rfl) ?_
  refine SN.eq (X1 := [.inr (0, [.int 0, .int 0, .int 0, .int 0, .int (9 : Int32), .int (4 : Int32), .int 0, .int 0, .int 0, .int 0, .int 0, .ref (b + (P.length + 1)), .null, .null, .null, .null, .null, .null, .null, .null]), .inl (G.2.1, 5, .inl (fun _ => 0)), .inl (G.2.1, 5, .inl (fun _ => 0))]) rfl ?_
  refine sn_put q_cl0 (i := 0) 12 (ty := (.array .int)) (X1 := [.inr (0, [.int 0, .int 0, .int 0, .int 0, .int (9 : Int32), .int (4 : Int32), .int 0, .int 0, .int 0, .int 0, .int 0, .ref (b + (P.length + 1)), .ref (b + (P.length + 2)), .null, .null, .null, .null, .null, .null, .null]), .inl (G.2.1, 5, .inl (fun _ => 0)), .inl (G.2.1, 5, .inl (fun _ => 0))]) rfl rfl dX0_init_26 t_75 (by decide) (by decide +kernel) rfl rfl (Nat.le_of_ble_eq_true rfl) rfl ?_
  refine sn_aload_n 0 dX0_init_29 rfl rfl ?_
  refine sn_iconst (5 : Int32) dX0_init_30 (by decide) ?_
  refine sn_newi (N := 5) 3 rfl dX0_init_31 t_144 (by decide) (by decide) (by decide) (Nat.le_of_ble_eq_true rfl) (Nat.le_of_ble_eq_true rfl) ?_
  refine SN.eq (X1 := [.inr (0, [.int 0, .int 0, .int 0, .int 0, .int (9 : Int32), .int (4 : Int32), .int 0, .int 0, .int 0, .int 0, .int 0, .ref (b + (P.length + 1)), .ref (b + (P.length + 2)), .null, .null, .null, .null, .null, .null, .null]), .inl (G.2.1, 5, .inl (fun _ => 0)), .inl (G.2.1, 5, .inl (fun _ => 0)), .inl (G.2.1, 5, .inl (fun _ => 0))]) rfl ?_
  refine sn_put q_cl0 (i := 0) 13 (ty := (.array .int)) (X1 := [.inr (0, [.int 0, .int 0, .int 0, .int 0, .int (9 : Int32), .int (4 : Int32), .int 0, .int 0, .int 0, .int 0, .int 0, .ref (b + (P.length + 1)), .ref (b + (P.length + 2)), .ref (b + (P.length + 3)), .null, .null, .null, .null, .null, .null]), .inl (G.2.1, 5, .inl (fun _ => 0)), .inl (G.2.1, 5, .inl (fun _ => 0)), .inl (G.2.1, 5, .inl (fun _ => 0))]) rfl rfl dX0_init_33 t_78 (by decide) (by decide +kernel) rfl rfl (Nat.le_of_ble_eq_true rfl) rfl ?_
  refine sn_aload_n 0 dX0_init_36 rfl rfl ?_
  refine sn_bipush (14 : Int32) dX0_init_37 (by decide) ?_
  refine sn_newi (N := 14) 4 rfl dX0_init_39 t_144 (by decide) (by decide) (by decide) (Nat.le_of_ble_eq_true rfl) (Nat.le_of_ble_eq_true rfl) ?_
  refine SN.eq (X1 := [.inr (0, [.int 0, .int 0, .int 0, .int 0, .int (9 : Int32), .int (4 : Int32), .int 0, .int 0, .int 0, .int 0, .int 0, .ref (b + (P.length + 1)), .ref (b + (P.length + 2)), .ref (b + (P.length + 3)), .null, .null, .null, .null, .null, .null]), .inl (G.2.1, 5, .inl (fun _ => 0)), .inl (G.2.1, 5, .inl (fun _ => 0)), .inl (G.2.1, 5, .inl (fun _ => 0)), .inl (G.2.1, 14, .inl (fun _ => 0))]) rfl ?_
  refine sn_put q_cl0 (i := 0) 14 (ty := (.array .int)) (X1 := [.inr (0, [.int 0, .int 0, .int 0, .int 0, .int (9 : Int32), .int (4 : Int32), .int 0, .int 0, .int 0, .int 0, .int 0, .ref (b + (P.length + 1)), .ref (b + (P.length + 2)), .ref (b + (P.length + 3)), .ref (b + (P.length + 4)), .null, .null, .null, .null, .null]), .inl (G.2.1, 5, .inl (fun _ => 0)), .inl (G.2.1, 5, .inl (fun _ => 0)), .inl (G.2.1, 5, .inl (fun _ => 0)), .inl (G.2.1, 14, .inl (fun _ => 0))]) rfl rfl dX0_init_41 t_82 (by decide) (by decide +kernel) rfl rfl (Nat.le_of_ble_eq_true rfl) rfl ?_
  refine sn_aload_n 0 dX0_init_44 rfl rfl ?_
  refine sn_bipush (14 : Int32) dX0_init_45 (by decide) ?_
  refine sn_newi (N := 14) 5 rfl dX0_init_47 t_144 (by decide) (by decide) (by decide) (Nat.le_of_ble_eq_true rfl) (Nat.le_of_ble_eq_true rfl) ?_
  refine SN.eq (X1 := [.inr (0, [.int 0, .int 0, .int 0, .int 0, .int (9 : Int32), .int (4 : Int32), .int 0, .int 0, .int 0, .int 0, .int 0, .ref (b + (P.length + 1)), .ref (b + (P.length + 2)), .ref (b + (P.length + 3)), .ref (b + (P.length + 4)), .null, .null, .null, .null, .null]), .inl (G.2.1, 5, .inl (fun _ => 0)), .inl (G.2.1, 5, .inl (fun _ => 0)), .inl (G.2.1, 5, .inl (fun _ => 0)), .inl (G.2.1, 14, .inl (fun _ => 0)), .inl (G.2.1, 14, .inl (fun _ => 0))]) rfl ?_
  refine sn_put q_cl0 (i := 0) 15 (ty := (.array .int)) (X1 := [.inr (0, [.int 0, .int 0, .int 0, .int 0, .int (9 : Int32), .int (4 : Int32), .int 0, .int 0, .int 0, .int 0, .int 0, .ref (b + (P.length + 1)), .ref (b + (P.length + 2)), .ref (b + (P.length + 3)), .ref (b + (P.length + 4)), .ref (b + (P.length + 5)), .null, .null, .null, .null]), .inl (G.2.1, 5, .inl (fun _ => 0)), .inl (G.2.1, 5, .inl (fun _ => 0)), .inl (G.2.1, 5, .inl (fun _ => 0)), .inl (G.2.1, 14, .inl (fun _ => 0)), .inl (G.2.1, 14, .inl (fun _ => 0))]) rfl rfl dX0_init_49 t_86 (by decide) (by decide +kernel) rfl rfl (Nat.le_of_ble_eq_true rfl) rfl ?_
  refine sn_aload_n 0 dX0_init_52 rfl rfl ?_
  refine sn_bipush (14 : Int32) dX0_init_53 (by decide) ?_
  refine sn_newi (N := 14) 6 rfl dX0_init_55 t_144 (by decide) (by decide) (by decide) (Nat.le_of_ble_eq_true rfl) (Nat.le_of_ble_eq_true rfl) ?_
  refine SN.eq (X1 := [.inr (0, [.int 0, .int 0, .int 0, .int 0, .int (9 : Int32), .int (4 : Int32), .int 0, .int 0, .int 0, .int 0, .int 0, .ref (b + (P.length + 1)), .ref (b + (P.length + 2)), .ref (b + (P.length + 3)), .ref (b + (P.length + 4)), .ref (b + (P.length + 5)), .null, .null, .null, .null]), .inl (G.2.1, 5, .inl (fun _ => 0)), .inl (G.2.1, 5, .inl (fun _ => 0)), .inl (G.2.1, 5, .inl (fun _ => 0)), .inl (G.2.1, 14, .inl (fun _ => 0)), .inl (G.2.1, 14, .inl (fun _ => 0)), .inl (G.2.1, 14, .inl (fun _ => 0))]) rfl ?_
  refine sn_put q_cl0 (i := 0) 16 (ty := (.array .int)) (X1 := [.inr (0, [.int 0, .int 0, .int 0, .int 0, .int (9 : Int32), .int (4 : Int32), .int 0, .int 0, .int 0, .int 0, .int 0, .ref (b + (P.length + 1)), .ref (b + (P.length + 2)), .ref (b + (P.length + 3)), .ref (b + (P.length + 4)), .ref (b + (P.length + 5)), .ref (b + (P.length + 6)), .null, .null, .null]), .inl (G.2.1, 5, .inl (fun _ => 0)), .inl (G.2.1, 5, .inl (fun _ => 0)), .inl (G.2.1, 5, .inl (fun _ => 0)), .inl (G.2.1, 14, .inl (fun _ => 0)), .inl (G.2.1, 14, .inl (fun _ => 0)), .inl (G.2.1, 14, .inl (fun _ => 0))]) rfl rfl dX0_init_57 t_89 (by decide) (by decide +kernel) rfl rfl (Nat.le_of_ble_eq_true rfl) rfl ?_
  refine sn_aload_n 0 dX0_init_60 rfl rfl ?_
  refine sn_bipush (14 : Int32) dX0_init_61 (by decide) ?_
  refine sn_newi (N := 14) 7 rfl dX0_init_63 t_144 (by decide) (by decide) (by decide) (Nat.le_of_ble_eq_true rfl) (Nat.le_of_ble_eq_true rfl) ?_
  refine SN.eq (X1 := [.inr (0, [.int 0, .int 0, .int 0, .int 0, .int (9 : Int32), .int (4 : Int32), .int 0, .int 0, .int 0, .int 0, .int 0, .ref (b + (P.length + 1)), .ref (b + (P.length + 2)), .ref (b + (P.length + 3)), .ref (b + (P.length + 4)), .ref (b + (P.length + 5)), .ref (b + (P.length + 6)), .null, .null, .null]), .inl (G.2.1, 5, .inl (fun _ => 0)), .inl (G.2.1, 5, .inl (fun _ => 0)), .inl (G.2.1, 5, .inl (fun _ => 0)), .inl (G.2.1, 14, .inl (fun _ => 0)), .inl (G.2.1, 14, .inl (fun _ => 0)), .inl (G.2.1, 14, .inl (fun _ => 0)), .inl (G.2.1, 14, .inl (fun _ => 0))]) rfl ?_
  refine sn_put q_cl0 (i := 0) 17 (ty := (.array .int)) (X1 := [.inr (0, [.int 0, .int 0, .int 0, .int 0, .int (9 : Int32), .int (4 : Int32), .int 0, .int 0, .int 0, .int 0, .int 0, .ref (b + (P.length + 1)), .ref (b + (P.length + 2)), .ref (b + (P.length + 3)), .ref (b + (P.length + 4)), .ref (b + (P.length + 5)), .ref (b + (P.length + 6)), .ref (b + (P.length + 7)), .null, .null]), .inl (G.2.1, 5, .inl (fun _ => 0)), .inl (G.2.1, 5, .inl (fun _ => 0)), .inl (G.2.1, 5, .inl (fun _ => 0)), .inl (G.2.1, 14, .inl (fun _ => 0)), .inl (G.2.1, 14, .inl (fun _ => 0)), .inl (G.2.1, 14, .inl (fun _ => 0)), .inl (G.2.1, 14, .inl (fun _ => 0))]) rfl rfl dX0_init_65 t_92 (by decide) (by decide +kernel) rfl rfl (Nat.le_of_ble_eq_true rfl) rfl ?_
  refine sn_aload_n 0 dX0_init_68 rfl rfl ?_
  refine sn_bipush (10 : Int32) dX0_init_69 (by decide) ?_
  refine sn_newi (N := 10) 8 rfl dX0_init_71 t_144 (by decide) (by decide) (by decide) (Nat.le_of_ble_eq_true rfl) (Nat.le_of_ble_eq_true rfl) ?_
  refine SN.eq (X1 := [.inr (0, [.int 0, .int 0, .int 0, .int 0, .int (9 : Int32), .int (4 : Int32), .int 0, .int 0, .int 0, .int 0, .int 0, .ref (b + (P.length + 1)), .ref (b + (P.length + 2)), .ref (b + (P.length + 3)), .ref (b + (P.length + 4)), .ref (b + (P.length + 5)), .ref (b + (P.length + 6)), .ref (b + (P.length + 7)), .null, .null]), .inl (G.2.1, 5, .inl (fun _ => 0)), .inl (G.2.1, 5, .inl (fun _ => 0)), .inl (G.2.1, 5, .inl (fun _ => 0)), .inl (G.2.1, 14, .inl (fun _ => 0)), .inl (G.2.1, 14, .inl (fun _ => 0)), .inl (G.2.1, 14, .inl (fun _ => 0)), .inl (G.2.1, 14, .inl (fun _ => 0)), .inl (G.2.1, 10, .inl (fun _ => 0))]) rfl ?_
  refine sn_put q_cl0 (i := 0) 18 (ty := (.array .int)) (X1 := [.inr (0, [.int 0, .int 0, .int 0, .int 0, .int (9 : Int32), .int (4 : Int32), .int 0, .int 0, .int 0, .int 0, .int 0, .ref (b + (P.length + 1)), .ref (b + (P.length + 2)), .ref (b + (P.length + 3)), .ref (b + (P.length + 4)), .ref (b + (P.length + 5)), .ref (b + (P.length + 6)), .ref (b + (P.length + 7)), .ref (b + (P.length + 8)), .null]), .inl (G.2.1, 5, .inl (fun _ => 0)), .inl (G.2.1, 5, .inl (fun _ => 0)), .inl (G.2.1, 5, .inl (fun _ => 0)), .inl (G.2.1, 14, .inl (fun _ => 0)), .inl (G.2.1, 14, .inl (fun _ => 0)), .inl (G.2.1, 14, .inl (fun _ => 0)), .inl (G.2.1, 14, .inl (fun _ => 0)), .inl (G.2.1, 10, .inl (fun _ => 0))]) rfl rfl dX0_init_73 t_96 (by decide) (by decide +kernel) rfl rfl (Nat.le_of_ble_eq_true rfl) rfl ?_
  refine sn_aload_n 0 dX0_init_76 rfl rfl ?_
  refine sn_bipush (50 : Int32) dX0_init_77 (by decide) ?_
  refine sn_newi (N := 50) 9 rfl dX0_init_79 t_144 (by decide) (by decide) (by decide) (Nat.le_of_ble_eq_true rfl) (Nat.le_of_ble_eq_true rfl) ?_
  refine SN.eq (X1 := [.inr (0, [.int 0, .int 0, .int 0, .int 0, .int (9 : Int32), .int (4 : Int32), .int 0, .int 0, .int 0, .int 0, .int 0, .ref (b + (P.length + 1)), .ref (b + (P.length + 2)), .ref (b + (P.length + 3)), .ref (b + (P.length + 4)), .ref (b + (P.length + 5)), .ref (b + (P.length + 6)), .ref (b + (P.length + 7)), .ref (b + (P.length + 8)), .null]), .inl (G.2.1, 5, .inl (fun _ => 0)), .inl (G.2.1, 5, .inl (fun _ => 0)), .inl (G.2.1, 5, .inl (fun _ => 0)), .inl (G.2.1, 14, .inl (fun _ => 0)), .inl (G.2.1, 14, .inl (fun _ => 0)), .inl (G.2.1, 14, .inl (fun _ => 0)), .inl (G.2.1, 14, .inl (fun _ => 0)), .inl (G.2.1, 10, .inl (fun _ => 0)), .inl (G.2.1, 50, .inl (fun _ => 0))]) rfl ?_
  refine sn_put q_cl0 (i := 0) 19 (ty := (.array .int)) (X1 := [.inr (0, [.int 0, .int 0, .int 0, .int 0, .int (9 : Int32), .int (4 : Int32), .int 0, .int 0, .int 0, .int 0, .int 0, .ref (b + (P.length + 1)), .ref (b + (P.length + 2)), .ref (b + (P.length + 3)), .ref (b + (P.length + 4)), .ref (b + (P.length + 5)), .ref (b + (P.length + 6)), .ref (b + (P.length + 7)), .ref (b + (P.length + 8)), .ref (b + (P.length + 9))]), .inl (G.2.1, 5, .inl (fun _ => 0)), .inl (G.2.1, 5, .inl (fun _ => 0)), .inl (G.2.1, 5, .inl (fun _ => 0)), .inl (G.2.1, 14, .inl (fun _ => 0)), .inl (G.2.1, 14, .inl (fun _ => 0)), .inl (G.2.1, 14, .inl (fun _ => 0)), .inl (G.2.1, 14, .inl (fun _ => 0)), .inl (G.2.1, 10, .inl (fun _ => 0)), .inl (G.2.1, 50, .inl (fun _ => 0))]) rfl rfl dX0_init_81 t_100 (by decide) (by decide +kernel) rfl rfl (Nat.le_of_ble_eq_true rfl) rfl ?_
  exact sn_vret dX0_init_84
def n_X2 (G : qG) (b n : Nat)  : List va_E := [.inr (2, [.int 0, .ref (b + (n + 1)), .ref (b + (n + 2)), .ref (b + (n + 3)), .ref (b + (n + 4)), .int 0, .int 0, .ref (b + (n + 5)), .ref (b + (n + 6))]), .inl (G.2.1, 16, .inl (fun _ => 0)), .inl (G.2.1, 17, .inl (fun _ => 0)), .inl (G.2.1, 16, .inl (fun _ => 0)), .inl (G.2.1, 400, .inl (fun _ => 0)), .inl (G.2.1, 32, .inl (fun _ => 0)), .inl (G.2.1, 9, .inl (fun _ => 0))]
theorem n_X2_len (G : qG) (b n : Nat)  : (n_X2 G b n ).length = 7 := rfl
theorem mf_nX2 : n_Mf yX2_init cX2_init 1 0 := ⟨t_148, t_4, t_149, rfl, by decide +kernel, by decide⟩
set_option maxRecDepth 100000 in
set_option maxHeartbeats 16000000 in
theorem nc_X2 (l : Launch) (G : qG) (b : Nat) (P : List va_E) (n : Nat)  (hn : P.length = n) : NC l yX2_init cX2_init 1 1 6 490 G b [.ref (b + n)] (P ++ [.inr (2, [.int 0, .null, .null, .null, .null, .int 0, .int 0, .null, .null])]) (P ++ n_X2 G b n ) := by
  subst hn
  refine NC.of_SN (own := RX2) rfl rfl (by decide) (Nat.le_of_ble_eq_true rfl) [(0, .ref (b + (P.length + 0)))] rfl ?_
  refine sn_aload_n 0 dX2_init_0 rfl rfl ?_
  refine sn_obj dX2_init_1 t_150 t_26 t_27 (by decide) ?_
  refine sn_aload_n 0 dX2_init_4 rfl rfl ?_
  refine sn_bipush (16 : Int32) dX2_init_5 (by decide) ?_
  refine sn_newi (N := 16) 1 rfl dX2_init_7 t_144 (by decide) (by decide) (by decide) (Nat.le_of_ble_eq_true rfl) (Nat.le_of_ble_eq_true rfl) ?_
  refine SN.eq (X1 := [.inr (2, [.int 0, .null, .null, .null, .null, .int 0, .int 0, .null, .null]), .inl (G.2.1, 16, .inl (fun _ => 0))]) rfl ?_
  refine sn_put q_cl2 (i := 0) 1 (ty := (.array .int)) (X1 := [.inr (2, [.int 0, .ref (b + (P.length + 1)), .null, .null, .null, .int 0, .int 0, .null, .null]), .inl (G.2.1, 16, .inl (fun _ => 0))]) rfl rfl dX2_init_9 t_154 (by decide) (by decide +kernel) rfl rfl (Nat.le_of_ble_eq_true rfl) rfl ?_
  refine sn_aload_n 0 dX2_init_12 rfl rfl ?_
  refine sn_bipush (17 : Int32) dX2_init_13 (by decide) ?_
  refine sn_newi (N := 17) 2 rfl dX2_init_15 t_144 (by decide) (by decide) (by decide) (Nat.le_of_ble_eq_true rfl) (Nat.le_of_ble_eq_true rfl) ?_
  refine SN.eq (X1 := [.inr (2, [.int 0, .ref (b + (P.length + 1)), .null, .null, .null, .int 0, .int 0, .null, .null]), .inl (G.2.1, 16, .inl (fun _ => 0)), .inl (G.2.1, 17, .inl (fun _ => 0))]) rfl ?_
  refine sn_put q_cl2 (i := 0) 2 (ty := (.array .int)) (X1 := [.inr (2, [.int 0, .ref (b + (P.length + 1)), .ref (b + (P.length + 2)), .null, .null, .int 0, .int 0, .null, .null]), .inl (G.2.1, 16, .inl (fun _ => 0)), .inl (G.2.1, 17, .inl (fun _ => 0))]) rfl rfl dX2_init_17 t_156 (by decide) (by decide +kernel) rfl rfl (Nat.le_of_ble_eq_true rfl) rfl ?_
  refine sn_aload_n 0 dX2_init_20 rfl rfl ?_
  refine sn_bipush (16 : Int32) dX2_init_21 (by decide) ?_
  refine sn_newi (N := 16) 3 rfl dX2_init_23 t_144 (by decide) (by decide) (by decide) (Nat.le_of_ble_eq_true rfl) (Nat.le_of_ble_eq_true rfl) ?_
  refine SN.eq (X1 := [.inr (2, [.int 0, .ref (b + (P.length + 1)), .ref (b + (P.length + 2)), .null, .null, .int 0, .int 0, .null, .null]), .inl (G.2.1, 16, .inl (fun _ => 0)), .inl (G.2.1, 17, .inl (fun _ => 0)), .inl (G.2.1, 16, .inl (fun _ => 0))]) rfl ?_
  refine sn_put q_cl2 (i := 0) 3 (ty := (.array .int)) (X1 := [.inr (2, [.int 0, .ref (b + (P.length + 1)), .ref (b + (P.length + 2)), .ref (b + (P.length + 3)), .null, .int 0, .int 0, .null, .null]), .inl (G.2.1, 16, .inl (fun _ => 0)), .inl (G.2.1, 17, .inl (fun _ => 0)), .inl (G.2.1, 16, .inl (fun _ => 0))]) rfl rfl dX2_init_25 t_158 (by decide) (by decide +kernel) rfl rfl (Nat.le_of_ble_eq_true rfl) rfl ?_
  refine sn_aload_n 0 dX2_init_28 rfl rfl ?_
  refine sn_sipush (400 : Int32) dX2_init_29 (by decide) ?_
  refine sn_newi (N := 400) 4 rfl dX2_init_32 t_144 (by decide) (by decide) (by decide) (Nat.le_of_ble_eq_true rfl) (Nat.le_of_ble_eq_true rfl) ?_
  refine SN.eq (X1 := [.inr (2, [.int 0, .ref (b + (P.length + 1)), .ref (b + (P.length + 2)), .ref (b + (P.length + 3)), .null, .int 0, .int 0, .null, .null]), .inl (G.2.1, 16, .inl (fun _ => 0)), .inl (G.2.1, 17, .inl (fun _ => 0)), .inl (G.2.1, 16, .inl (fun _ => 0)), .inl (G.2.1, 400, .inl (fun _ => 0))]) rfl ?_
  refine sn_put q_cl2 (i := 0) 4 (ty := (.array .int)) (X1 := [.inr (2, [.int 0, .ref (b + (P.length + 1)), .ref (b + (P.length + 2)), .ref (b + (P.length + 3)), .ref (b + (P.length + 4)), .int 0, .int 0, .null, .null]), .inl (G.2.1, 16, .inl (fun _ => 0)), .inl (G.2.1, 17, .inl (fun _ => 0)), .inl (G.2.1, 16, .inl (fun _ => 0)), .inl (G.2.1, 400, .inl (fun _ => 0))]) rfl rfl dX2_init_34 t_160 (by decide) (by decide +kernel) rfl rfl (Nat.le_of_ble_eq_true rfl) rfl ?_
  refine sn_aload_n 0 dX2_init_37 rfl rfl ?_
  refine sn_bipush (32 : Int32) dX2_init_38 (by decide) ?_
  refine sn_newi (N := 32) 5 rfl dX2_init_40 t_144 (by decide) (by decide) (by decide) (Nat.le_of_ble_eq_true rfl) (Nat.le_of_ble_eq_true rfl) ?_
  refine SN.eq (X1 := [.inr (2, [.int 0, .ref (b + (P.length + 1)), .ref (b + (P.length + 2)), .ref (b + (P.length + 3)), .ref (b + (P.length + 4)), .int 0, .int 0, .null, .null]), .inl (G.2.1, 16, .inl (fun _ => 0)), .inl (G.2.1, 17, .inl (fun _ => 0)), .inl (G.2.1, 16, .inl (fun _ => 0)), .inl (G.2.1, 400, .inl (fun _ => 0)), .inl (G.2.1, 32, .inl (fun _ => 0))]) rfl ?_
  refine sn_put q_cl2 (i := 0) 7 (ty := (.array .int)) (X1 := [.inr (2, [.int 0, .ref (b + (P.length + 1)), .ref (b + (P.length + 2)), .ref (b + (P.length + 3)), .ref (b + (P.length + 4)), .int 0, .int 0, .ref (b + (P.length + 5)), .null]), .inl (G.2.1, 16, .inl (fun _ => 0)), .inl (G.2.1, 17, .inl (fun _ => 0)), .inl (G.2.1, 16, .inl (fun _ => 0)), .inl (G.2.1, 400, .inl (fun _ => 0)), .inl (G.2.1, 32, .inl (fun _ => 0))]) rfl rfl dX2_init_42 t_166 (by decide) (by decide +kernel) rfl rfl (Nat.le_of_ble_eq_true rfl) rfl ?_
  refine sn_aload_n 0 dX2_init_45 rfl rfl ?_
  refine sn_bipush (9 : Int32) dX2_init_46 (by decide) ?_
  refine sn_newi (N := 9) 6 rfl dX2_init_48 t_144 (by decide) (by decide) (by decide) (Nat.le_of_ble_eq_true rfl) (Nat.le_of_ble_eq_true rfl) ?_
  refine SN.eq (X1 := [.inr (2, [.int 0, .ref (b + (P.length + 1)), .ref (b + (P.length + 2)), .ref (b + (P.length + 3)), .ref (b + (P.length + 4)), .int 0, .int 0, .ref (b + (P.length + 5)), .null]), .inl (G.2.1, 16, .inl (fun _ => 0)), .inl (G.2.1, 17, .inl (fun _ => 0)), .inl (G.2.1, 16, .inl (fun _ => 0)), .inl (G.2.1, 400, .inl (fun _ => 0)), .inl (G.2.1, 32, .inl (fun _ => 0)), .inl (G.2.1, 9, .inl (fun _ => 0))]) rfl ?_
  refine sn_put q_cl2 (i := 0) 8 (ty := (.array .int)) (X1 := [.inr (2, [.int 0, .ref (b + (P.length + 1)), .ref (b + (P.length + 2)), .ref (b + (P.length + 3)), .ref (b + (P.length + 4)), .int 0, .int 0, .ref (b + (P.length + 5)), .ref (b + (P.length + 6))]), .inl (G.2.1, 16, .inl (fun _ => 0)), .inl (G.2.1, 17, .inl (fun _ => 0)), .inl (G.2.1, 16, .inl (fun _ => 0)), .inl (G.2.1, 400, .inl (fun _ => 0)), .inl (G.2.1, 32, .inl (fun _ => 0)), .inl (G.2.1, 9, .inl (fun _ => 0))]) rfl rfl dX2_init_50 t_167 (by decide) (by decide +kernel) rfl rfl (Nat.le_of_ble_eq_true rfl) rfl ?_
  exact sn_vret dX2_init_53
def n_X4 (G : qG) (b n : Nat)  : List va_E := [.inr (4, [.int 0, .ref (b + (n + 1)), .ref (b + (n + 2)), .ref (b + (n + 3))]), .inl (G.2.1, 10, .inl (fun _ => 0)), .inl (G.2.1, 80, .inl (fun _ => 0)), .inl (G.2.1, 10, .inl (fun _ => 0))]
theorem n_X4_len (G : qG) (b n : Nat)  : (n_X4 G b n ).length = 4 := rfl
theorem mf_nX4 : n_Mf yX4_init cX4_init 1 0 := ⟨t_190, t_5, t_191, rfl, by decide +kernel, by decide⟩
set_option maxRecDepth 100000 in
set_option maxHeartbeats 16000000 in
theorem nc_X4 (l : Launch) (G : qG) (b : Nat) (P : List va_E) (n : Nat)  (hn : P.length = n) : NC l yX4_init cX4_init 1 1 3 100 G b [.ref (b + n)] (P ++ [.inr (4, [.int 0, .null, .null, .null])]) (P ++ n_X4 G b n ) := by
  subst hn
  refine NC.of_SN (own := RX4) rfl rfl (by decide) (Nat.le_of_ble_eq_true rfl) [(0, .ref (b + (P.length + 0)))] rfl ?_
  refine sn_aload_n 0 dX4_init_0 rfl rfl ?_
  refine sn_obj dX4_init_1 t_192 t_26 t_27 (by decide) ?_
  refine sn_aload_n 0 dX4_init_4 rfl rfl ?_
  refine sn_bipush (10 : Int32) dX4_init_5 (by decide) ?_
  refine sn_newi (N := 10) 1 rfl dX4_init_7 t_144 (by decide) (by decide) (by decide) (Nat.le_of_ble_eq_true rfl) (Nat.le_of_ble_eq_true rfl) ?_
  refine SN.eq (X1 := [.inr (4, [.int 0, .null, .null, .null]), .inl (G.2.1, 10, .inl (fun _ => 0))]) rfl ?_
  refine sn_put q_cl4 (i := 0) 1 (ty := (.array .int)) (X1 := [.inr (4, [.int 0, .ref (b + (P.length + 1)), .null, .null]), .inl (G.2.1, 10, .inl (fun _ => 0))]) rfl rfl dX4_init_9 t_196 (by decide) (by decide +kernel) rfl rfl (Nat.le_of_ble_eq_true rfl) rfl ?_
  refine sn_aload_n 0 dX4_init_12 rfl rfl ?_
  refine sn_bipush (80 : Int32) dX4_init_13 (by decide) ?_
  refine sn_newi (N := 80) 2 rfl dX4_init_15 t_144 (by decide) (by decide) (by decide) (Nat.le_of_ble_eq_true rfl) (Nat.le_of_ble_eq_true rfl) ?_
  refine SN.eq (X1 := [.inr (4, [.int 0, .ref (b + (P.length + 1)), .null, .null]), .inl (G.2.1, 10, .inl (fun _ => 0)), .inl (G.2.1, 80, .inl (fun _ => 0))]) rfl ?_
  refine sn_put q_cl4 (i := 0) 2 (ty := (.array .int)) (X1 := [.inr (4, [.int 0, .ref (b + (P.length + 1)), .ref (b + (P.length + 2)), .null]), .inl (G.2.1, 10, .inl (fun _ => 0)), .inl (G.2.1, 80, .inl (fun _ => 0))]) rfl rfl dX4_init_17 t_199 (by decide) (by decide +kernel) rfl rfl (Nat.le_of_ble_eq_true rfl) rfl ?_
  refine sn_aload_n 0 dX4_init_20 rfl rfl ?_
  refine sn_bipush (10 : Int32) dX4_init_21 (by decide) ?_
  refine sn_newi (N := 10) 3 rfl dX4_init_23 t_144 (by decide) (by decide) (by decide) (Nat.le_of_ble_eq_true rfl) (Nat.le_of_ble_eq_true rfl) ?_
  refine SN.eq (X1 := [.inr (4, [.int 0, .ref (b + (P.length + 1)), .ref (b + (P.length + 2)), .null]), .inl (G.2.1, 10, .inl (fun _ => 0)), .inl (G.2.1, 80, .inl (fun _ => 0)), .inl (G.2.1, 10, .inl (fun _ => 0))]) rfl ?_
  refine sn_put q_cl4 (i := 0) 3 (ty := (.array .int)) (X1 := [.inr (4, [.int 0, .ref (b + (P.length + 1)), .ref (b + (P.length + 2)), .ref (b + (P.length + 3))]), .inl (G.2.1, 10, .inl (fun _ => 0)), .inl (G.2.1, 80, .inl (fun _ => 0)), .inl (G.2.1, 10, .inl (fun _ => 0))]) rfl rfl dX4_init_25 t_200 (by decide) (by decide +kernel) rfl rfl (Nat.le_of_ble_eq_true rfl) rfl ?_
  exact sn_vret dX4_init_28
def n_X5 (G : qG) (b n : Nat)  : List va_E := [.inr (5, [.int 0, .ref (b + (n + 1)), .ref (b + (n + 2)), .ref (b + (n + 3)), .ref (b + (n + 4))]), .inl (G.2.1, 16, .inl (fun _ => 0)), .inl (G.2.1, 16, .inl (fun _ => 0)), .inl (G.2.1, 16, .inl (fun _ => 0)), .inl (G.2.1, 16, .inl (fun _ => 0))]
theorem n_X5_len (G : qG) (b n : Nat)  : (n_X5 G b n ).length = 5 := rfl
theorem mf_nX5 : n_Mf yX5_init cX5_init 1 0 := ⟨t_214, t_6, t_215, rfl, by decide +kernel, by decide⟩
set_option maxRecDepth 100000 in
set_option maxHeartbeats 16000000 in
theorem nc_X5 (l : Launch) (G : qG) (b : Nat) (P : List va_E) (n : Nat)  (hn : P.length = n) : NC l yX5_init cX5_init 1 1 4 64 G b [.ref (b + n)] (P ++ [.inr (5, [.int 0, .null, .null, .null, .null])]) (P ++ n_X5 G b n ) := by
  subst hn
  refine NC.of_SN (own := RX5) rfl rfl (by decide) (Nat.le_of_ble_eq_true rfl) [(0, .ref (b + (P.length + 0)))] rfl ?_
  refine sn_aload_n 0 dX5_init_0 rfl rfl ?_
  refine sn_obj dX5_init_1 t_216 t_26 t_27 (by decide) ?_
  refine sn_aload_n 0 dX5_init_4 rfl rfl ?_
  refine sn_bipush (16 : Int32) dX5_init_5 (by decide) ?_
  refine sn_newi (N := 16) 1 rfl dX5_init_7 t_144 (by decide) (by decide) (by decide) (Nat.le_of_ble_eq_true rfl) (Nat.le_of_ble_eq_true rfl) ?_
  refine SN.eq (X1 := [.inr (5, [.int 0, .null, .null, .null, .null]), .inl (G.2.1, 16, .inl (fun _ => 0))]) rfl ?_
  refine sn_put q_cl5 (i := 0) 1 (ty := (.array .int)) (X1 := [.inr (5, [.int 0, .ref (b + (P.length + 1)), .null, .null, .null]), .inl (G.2.1, 16, .inl (fun _ => 0))]) rfl rfl dX5_init_9 t_221 (by decide) (by decide +kernel) rfl rfl (Nat.le_of_ble_eq_true rfl) rfl ?_
  refine sn_aload_n 0 dX5_init_12 rfl rfl ?_
  refine sn_bipush (16 : Int32) dX5_init_13 (by decide) ?_
  refine sn_newi (N := 16) 2 rfl dX5_init_15 t_144 (by decide) (by decide) (by decide) (Nat.le_of_ble_eq_true rfl) (Nat.le_of_ble_eq_true rfl) ?_
  refine SN.eq (X1 := [.inr (5, [.int 0, .ref (b + (P.length + 1)), .null, .null, .null]), .inl (G.2.1, 16, .inl (fun _ => 0)), .inl (G.2.1, 16, .inl (fun _ => 0))]) rfl ?_
  refine sn_put q_cl5 (i := 0) 2 (ty := (.array .int)) (X1 := [.inr (5, [.int 0, .ref (b + (P.length + 1)), .ref (b + (P.length + 2)), .null, .null]), .inl (G.2.1, 16, .inl (fun _ => 0)), .inl (G.2.1, 16, .inl (fun _ => 0))]) rfl rfl dX5_init_17 t_224 (by decide) (by decide +kernel) rfl rfl (Nat.le_of_ble_eq_true rfl) rfl ?_
  refine sn_aload_n 0 dX5_init_20 rfl rfl ?_
  refine sn_bipush (16 : Int32) dX5_init_21 (by decide) ?_
  refine sn_newi (N := 16) 3 rfl dX5_init_23 t_144 (by decide) (by decide) (by decide) (Nat.le_of_ble_eq_true rfl) (Nat.le_of_ble_eq_true rfl) ?_
  refine SN.eq (X1 := [.inr (5, [.int 0, .ref (b + (P.length + 1)), .ref (b + (P.length + 2)), .null, .null]), .inl (G.2.1, 16, .inl (fun _ => 0)), .inl (G.2.1, 16, .inl (fun _ => 0)), .inl (G.2.1, 16, .inl (fun _ => 0))]) rfl ?_
  refine sn_put q_cl5 (i := 0) 3 (ty := (.array .int)) (X1 := [.inr (5, [.int 0, .ref (b + (P.length + 1)), .ref (b + (P.length + 2)), .ref (b + (P.length + 3)), .null]), .inl (G.2.1, 16, .inl (fun _ => 0)), .inl (G.2.1, 16, .inl (fun _ => 0)), .inl (G.2.1, 16, .inl (fun _ => 0))]) rfl rfl dX5_init_25 t_227 (by decide) (by decide +kernel) rfl rfl (Nat.le_of_ble_eq_true rfl) rfl ?_
  refine sn_aload_n 0 dX5_init_28 rfl rfl ?_
  refine sn_bipush (16 : Int32) dX5_init_29 (by decide) ?_
  refine sn_newi (N := 16) 4 rfl dX5_init_31 t_144 (by decide) (by decide) (by decide) (Nat.le_of_ble_eq_true rfl) (Nat.le_of_ble_eq_true rfl) ?_
  refine SN.eq (X1 := [.inr (5, [.int 0, .ref (b + (P.length + 1)), .ref (b + (P.length + 2)), .ref (b + (P.length + 3)), .null]), .inl (G.2.1, 16, .inl (fun _ => 0)), .inl (G.2.1, 16, .inl (fun _ => 0)), .inl (G.2.1, 16, .inl (fun _ => 0)), .inl (G.2.1, 16, .inl (fun _ => 0))]) rfl ?_
  refine sn_put q_cl5 (i := 0) 4 (ty := (.array .int)) (X1 := [.inr (5, [.int 0, .ref (b + (P.length + 1)), .ref (b + (P.length + 2)), .ref (b + (P.length + 3)), .ref (b + (P.length + 4))]), .inl (G.2.1, 16, .inl (fun _ => 0)), .inl (G.2.1, 16, .inl (fun _ => 0)), .inl (G.2.1, 16, .inl (fun _ => 0)), .inl (G.2.1, 16, .inl (fun _ => 0))]) rfl rfl dX5_init_33 t_230 (by decide) (by decide +kernel) rfl rfl (Nat.le_of_ble_eq_true rfl) rfl ?_
  exact sn_vret dX5_init_36
def n_X1 (G : qG) (b n : Nat)  : List va_E := [.inr (1, [.int 0, .ref (b + (n + 1)), .ref (b + (n + 2))]), .inl (G.2.1, 8, .inl (fun _ => 0)), .inl (G.2.1, 8, .inl (fun _ => 0))]
theorem n_X1_len (G : qG) (b n : Nat)  : (n_X1 G b n ).length = 3 := rfl
theorem mf_nX1 : n_Mf yX1_init cX1_init 1 0 := ⟨t_247, t_7, t_248, rfl, by decide +kernel, by decide⟩
set_option maxRecDepth 100000 in
set_option maxHeartbeats 16000000 in
theorem nc_X1 (l : Launch) (G : qG) (b : Nat) (P : List va_E) (n : Nat)  (hn : P.length = n) : NC l yX1_init cX1_init 1 1 2 16 G b [.ref (b + n)] (P ++ [.inr (1, [.int 0, .null, .null])]) (P ++ n_X1 G b n ) := by
  subst hn
  refine NC.of_SN (own := RX1) rfl rfl (by decide) (Nat.le_of_ble_eq_true rfl) [(0, .ref (b + (P.length + 0)))] rfl ?_
  refine sn_aload_n 0 dX1_init_0 rfl rfl ?_
  refine sn_obj dX1_init_1 t_249 t_26 t_27 (by decide) ?_
  refine sn_aload_n 0 dX1_init_4 rfl rfl ?_
  refine sn_bipush (8 : Int32) dX1_init_5 (by decide) ?_
  refine sn_newi (N := 8) 1 rfl dX1_init_7 t_144 (by decide) (by decide) (by decide) (Nat.le_of_ble_eq_true rfl) (Nat.le_of_ble_eq_true rfl) ?_
  refine SN.eq (X1 := [.inr (1, [.int 0, .null, .null]), .inl (G.2.1, 8, .inl (fun _ => 0))]) rfl ?_
  refine sn_put q_cl1 (i := 0) 1 (ty := (.array .int)) (X1 := [.inr (1, [.int 0, .ref (b + (P.length + 1)), .null]), .inl (G.2.1, 8, .inl (fun _ => 0))]) rfl rfl dX1_init_9 t_252 (by decide) (by decide +kernel) rfl rfl (Nat.le_of_ble_eq_true rfl) rfl ?_
  refine sn_aload_n 0 dX1_init_12 rfl rfl ?_
  refine sn_bipush (8 : Int32) dX1_init_13 (by decide) ?_
  refine sn_newi (N := 8) 2 rfl dX1_init_15 t_144 (by decide) (by decide) (by decide) (Nat.le_of_ble_eq_true rfl) (Nat.le_of_ble_eq_true rfl) ?_
  refine SN.eq (X1 := [.inr (1, [.int 0, .ref (b + (P.length + 1)), .null]), .inl (G.2.1, 8, .inl (fun _ => 0)), .inl (G.2.1, 8, .inl (fun _ => 0))]) rfl ?_
  refine sn_put q_cl1 (i := 0) 2 (ty := (.array .int)) (X1 := [.inr (1, [.int 0, .ref (b + (P.length + 1)), .ref (b + (P.length + 2))]), .inl (G.2.1, 8, .inl (fun _ => 0)), .inl (G.2.1, 8, .inl (fun _ => 0))]) rfl rfl dX1_init_17 t_253 (by decide) (by decide +kernel) rfl rfl (Nat.le_of_ble_eq_true rfl) rfl ?_
  exact sn_vret dX1_init_20
def n_X3 (G : qG) (b n : Nat)  : List va_E := [.inr (3, [.ref (b + (n + 1))]), .inl (G.2.1, 600, .inl (fun _ => 0))]
theorem n_X3_len (G : qG) (b n : Nat)  : (n_X3 G b n ).length = 2 := rfl
theorem mf_nX3 : n_Mf yX3_init cX3_init 1 0 := ⟨t_264, t_8, t_265, rfl, by decide +kernel, by decide⟩
set_option maxRecDepth 100000 in
set_option maxHeartbeats 16000000 in
theorem nc_X3 (l : Launch) (G : qG) (b : Nat) (P : List va_E) (n : Nat)  (hn : P.length = n) : NC l yX3_init cX3_init 1 1 1 600 G b [.ref (b + n)] (P ++ [.inr (3, [.null])]) (P ++ n_X3 G b n ) := by
  subst hn
  refine NC.of_SN (own := RX3) rfl rfl (by decide) (Nat.le_of_ble_eq_true rfl) [(0, .ref (b + (P.length + 0)))] rfl ?_
  refine sn_aload_n 0 dX3_init_0 rfl rfl ?_
  refine sn_obj dX3_init_1 t_266 t_26 t_27 (by decide) ?_
  refine sn_aload_n 0 dX3_init_4 rfl rfl ?_
  refine sn_sipush (600 : Int32) dX3_init_5 (by decide) ?_
  refine sn_newi (N := 600) 1 rfl dX3_init_8 t_144 (by decide) (by decide) (by decide) (Nat.le_of_ble_eq_true rfl) (Nat.le_of_ble_eq_true rfl) ?_
  refine SN.eq (X1 := [.inr (3, [.null]), .inl (G.2.1, 600, .inl (fun _ => 0))]) rfl ?_
  refine sn_put q_cl3 (i := 0) 0 (ty := (.array .int)) (X1 := [.inr (3, [.ref (b + (P.length + 1))]), .inl (G.2.1, 600, .inl (fun _ => 0))]) rfl rfl dX3_init_10 t_267 (by decide) (by decide +kernel) rfl rfl (Nat.le_of_ble_eq_true rfl) rfl ?_
  exact sn_vret dX3_init_13
def n_X8 (G : qG) (b n : Nat)  : List va_E := [.inr (8, [.ref (b + (n + 1)), .int 0, .ref (b + (n + 2)), .ref (b + (n + 3)), .ref (b + (n + 4)), .int 0]), .inl (G.2.1, 400, .inl (fun _ => 0)), .inl (G.2.1, 401, .inl (fun _ => 0)), .inl (G.2.1, 401, .inl (fun _ => 0)), .inl (G.2.1, 401, .inl (fun _ => 0))]
theorem n_X8_len (G : qG) (b n : Nat)  : (n_X8 G b n ).length = 5 := rfl
theorem mf_nX8 : n_Mf yX8_init cX8_init 1 0 := ⟨t_312, t_10, t_313, rfl, by decide +kernel, by decide⟩
set_option maxRecDepth 100000 in
set_option maxHeartbeats 16000000 in
theorem nc_X8 (l : Launch) (G : qG) (b : Nat) (P : List va_E) (n : Nat)  (hn : P.length = n) : NC l yX8_init cX8_init 1 1 4 1603 G b [.ref (b + n)] (P ++ [.inr (8, [.null, .int 0, .null, .null, .null, .int 0])]) (P ++ n_X8 G b n ) := by
  subst hn
  refine NC.of_SN (own := RX8) rfl rfl (by decide) (Nat.le_of_ble_eq_true rfl) [(0, .ref (b + (P.length + 0)))] rfl ?_
  refine sn_aload_n 0 dX8_init_0 rfl rfl ?_
  refine sn_obj dX8_init_1 t_314 t_26 t_27 (by decide) ?_
  refine sn_aload_n 0 dX8_init_4 rfl rfl ?_
  refine sn_sipush (400 : Int32) dX8_init_5 (by decide) ?_
  refine sn_newi (N := 400) 1 rfl dX8_init_8 t_144 (by decide) (by decide) (by decide) (Nat.le_of_ble_eq_true rfl) (Nat.le_of_ble_eq_true rfl) ?_
  refine SN.eq (X1 := [.inr (8, [.null, .int 0, .null, .null, .null, .int 0]), .inl (G.2.1, 400, .inl (fun _ => 0))]) rfl ?_
  refine sn_put q_cl8 (i := 0) 0 (ty := (.array .int)) (X1 := [.inr (8, [.ref (b + (P.length + 1)), .int 0, .null, .null, .null, .int 0]), .inl (G.2.1, 400, .inl (fun _ => 0))]) rfl rfl dX8_init_10 t_315 (by decide) (by decide +kernel) rfl rfl (Nat.le_of_ble_eq_true rfl) rfl ?_
  refine sn_aload_n 0 dX8_init_13 rfl rfl ?_
  refine sn_sipush (401 : Int32) dX8_init_14 (by decide) ?_
  refine sn_newi (N := 401) 2 rfl dX8_init_17 t_144 (by decide) (by decide) (by decide) (Nat.le_of_ble_eq_true rfl) (Nat.le_of_ble_eq_true rfl) ?_
  refine SN.eq (X1 := [.inr (8, [.ref (b + (P.length + 1)), .int 0, .null, .null, .null, .int 0]), .inl (G.2.1, 400, .inl (fun _ => 0)), .inl (G.2.1, 401, .inl (fun _ => 0))]) rfl ?_
  refine sn_put q_cl8 (i := 0) 2 (ty := (.array .int)) (X1 := [.inr (8, [.ref (b + (P.length + 1)), .int 0, .ref (b + (P.length + 2)), .null, .null, .int 0]), .inl (G.2.1, 400, .inl (fun _ => 0)), .inl (G.2.1, 401, .inl (fun _ => 0))]) rfl rfl dX8_init_19 t_319 (by decide) (by decide +kernel) rfl rfl (Nat.le_of_ble_eq_true rfl) rfl ?_
  refine sn_aload_n 0 dX8_init_22 rfl rfl ?_
  refine sn_sipush (401 : Int32) dX8_init_23 (by decide) ?_
  refine sn_newi (N := 401) 3 rfl dX8_init_26 t_144 (by decide) (by decide) (by decide) (Nat.le_of_ble_eq_true rfl) (Nat.le_of_ble_eq_true rfl) ?_
  refine SN.eq (X1 := [.inr (8, [.ref (b + (P.length + 1)), .int 0, .ref (b + (P.length + 2)), .null, .null, .int 0]), .inl (G.2.1, 400, .inl (fun _ => 0)), .inl (G.2.1, 401, .inl (fun _ => 0)), .inl (G.2.1, 401, .inl (fun _ => 0))]) rfl ?_
  refine sn_put q_cl8 (i := 0) 3 (ty := (.array .int)) (X1 := [.inr (8, [.ref (b + (P.length + 1)), .int 0, .ref (b + (P.length + 2)), .ref (b + (P.length + 3)), .null, .int 0]), .inl (G.2.1, 400, .inl (fun _ => 0)), .inl (G.2.1, 401, .inl (fun _ => 0)), .inl (G.2.1, 401, .inl (fun _ => 0))]) rfl rfl dX8_init_28 t_321 (by decide) (by decide +kernel) rfl rfl (Nat.le_of_ble_eq_true rfl) rfl ?_
  refine sn_aload_n 0 dX8_init_31 rfl rfl ?_
  refine sn_sipush (401 : Int32) dX8_init_32 (by decide) ?_
  refine sn_newi (N := 401) 4 rfl dX8_init_35 t_144 (by decide) (by decide) (by decide) (Nat.le_of_ble_eq_true rfl) (Nat.le_of_ble_eq_true rfl) ?_
  refine SN.eq (X1 := [.inr (8, [.ref (b + (P.length + 1)), .int 0, .ref (b + (P.length + 2)), .ref (b + (P.length + 3)), .null, .int 0]), .inl (G.2.1, 400, .inl (fun _ => 0)), .inl (G.2.1, 401, .inl (fun _ => 0)), .inl (G.2.1, 401, .inl (fun _ => 0)), .inl (G.2.1, 401, .inl (fun _ => 0))]) rfl ?_
  refine sn_put q_cl8 (i := 0) 4 (ty := (.array .int)) (X1 := [.inr (8, [.ref (b + (P.length + 1)), .int 0, .ref (b + (P.length + 2)), .ref (b + (P.length + 3)), .ref (b + (P.length + 4)), .int 0]), .inl (G.2.1, 400, .inl (fun _ => 0)), .inl (G.2.1, 401, .inl (fun _ => 0)), .inl (G.2.1, 401, .inl (fun _ => 0)), .inl (G.2.1, 401, .inl (fun _ => 0))]) rfl rfl dX8_init_37 t_323 (by decide) (by decide +kernel) rfl rfl (Nat.le_of_ble_eq_true rfl) rfl ?_
  exact sn_vret dX8_init_40
def n_X7 (G : qG) (b n : Nat) (x1 : Int32) : List va_E := [.inr (7, [.int x1, .int 0, .int 0, .int 0, .ref (b + (n + 1))]), .inl (G.2.1, 5, .inl (fun _ => 0))]
theorem n_X7_len (G : qG) (b n : Nat) (x1 : Int32) : (n_X7 G b n x1).length = 2 := rfl
theorem mf_nX7 : n_Mf yX7_init cX7_init 2 1 := ⟨t_380, t_11, t_381, rfl, by decide +kernel, by decide⟩
set_option maxRecDepth 100000 in
set_option maxHeartbeats 16000000 in
theorem nc_X7 (l : Launch) (G : qG) (b : Nat) (P : List va_E) (n : Nat) (x1 : Int32) (hn : P.length = n) (hx : x1 = 0 ∨ x1 = 1) : NC l yX7_init cX7_init 2 1 1 5 G b [.ref (b + n), .int x1] (P ++ [.inr (7, [.int 0, .int 0, .int 0, .int 0, .null])]) (P ++ n_X7 G b n x1) := by
  subst hn
  refine NC.of_SN (own := RX7) rfl rfl (by decide) (Nat.le_of_ble_eq_true rfl) [(0, .ref (b + (P.length + 0))), (1, .int x1)] rfl ?_
  refine sn_aload_n 0 dX7_init_0 rfl rfl ?_
  refine sn_obj dX7_init_1 t_382 t_26 t_27 (by decide) ?_
  refine sn_aload_n 0 dX7_init_4 rfl rfl ?_
  refine sn_iconst (5 : Int32) dX7_init_5 (by decide) ?_
  refine sn_newi (N := 5) 1 rfl dX7_init_6 t_144 (by decide) (by decide) (by decide) (Nat.le_of_ble_eq_true rfl) (Nat.le_of_ble_eq_true rfl) ?_
  refine SN.eq (X1 := [.inr (7, [.int 0, .int 0, .int 0, .int 0, .null]), .inl (G.2.1, 5, .inl (fun _ => 0))]) rfl ?_
  refine sn_put q_cl7 (i := 0) 4 (ty := (.array .int)) (X1 := [.inr (7, [.int 0, .int 0, .int 0, .int 0, .ref (b + (P.length + 1))]), .inl (G.2.1, 5, .inl (fun _ => 0))]) rfl rfl dX7_init_8 t_390 (by decide) (by decide +kernel) rfl rfl (Nat.le_of_ble_eq_true rfl) rfl ?_
  refine sn_aload_n 0 dX7_init_11 rfl rfl ?_
  refine sn_iload_n 1 dX7_init_12 rfl rfl ?_
  refine sn_put q_cl7 (i := 0) 0 (ty := .boolean) (X1 := [.inr (7, [.int x1, .int 0, .int 0, .int 0, .ref (b + (P.length + 1))]), .inl (G.2.1, 5, .inl (fun _ => 0))]) (by rcases hx with rfl | rfl <;> rfl) (by rcases hx with rfl | rfl <;> rfl) dX7_init_13 t_383 (by decide) (by decide +kernel) rfl rfl (Nat.le_of_ble_eq_true rfl) rfl ?_
  exact sn_vret dX7_init_16
def n_X9 (G : qG) (b n : Nat)  : List va_E := (((((([.inr (9, [.ref (b + (n + 1)), .ref (b + (n + 11)), .ref (b + (n + 18)), .ref (b + (n + 22)), .ref (b + (n + 27)), .ref (b + (n + 30))])] ++ n_X0 G b (n + 1)) ++ n_X2 G b (n + 11)) ++ n_X4 G b (n + 18)) ++ n_X5 G b (n + 22)) ++ n_X1 G b (n + 27)) ++ n_X3 G b (n + 30))
theorem n_X9_len (G : qG) (b n : Nat)  : (n_X9 G b n ).length = 32 := by unfold n_X9; exact (by simp only [List.length_append, List.length_cons, List.length_nil, n_X0_len, n_X1_len, n_X2_len, n_X3_len, n_X4_len, n_X5_len])
theorem mf_nX9 : n_Mf yX9_init cX9_init 1 0 := ⟨t_31, t_2, t_32, rfl, by decide +kernel, by decide⟩
set_option maxRecDepth 100000 in
set_option maxHeartbeats 16000000 in
theorem nc_X9 (l : Launch) (G : qG) (b : Nat) (P : List va_E) (n : Nat)  (hn : P.length = n) : NC l yX9_init cX9_init 1 2 31 1443 G b [.ref (b + n)] (P ++ [.inr (9, [.null, .null, .null, .null, .null, .null])]) (P ++ n_X9 G b n ) := by
  subst hn
  refine NC.of_SN (own := RX9) rfl rfl (by decide) (Nat.le_of_ble_eq_true rfl) [(0, .ref (b + (P.length + 0)))] rfl ?_
  refine sn_aload_n 0 dX9_init_0 rfl rfl ?_
  refine sn_obj dX9_init_1 t_33 t_26 t_27 (by decide) ?_
  refine sn_aload_n 0 dX9_init_4 rfl rfl ?_
  refine sn_new 1 rfl q_cl0 (fs := [.int 0, .int 0, .int 0, .int 0, .int 0, .int 0, .int 0, .int 0, .int 0, .int 0, .int 0, .null, .null, .null, .null, .null, .null, .null, .null, .null]) dX9_init_5 t_34 t_35 t_3 nd_X0 (Nat.le_of_ble_eq_true rfl) (Nat.le_of_ble_eq_true rfl) ?_
  refine sn_dup dX9_init_8 rfl ?_
  refine sn_callN (X0 := [.inr (9, [.null, .null, .null, .null, .null, .null])]) (X1 := n_X0 G b (P.length + 1)) (As := []) (host := "BallotFruit") 1 rfl rfl rfl dX9_init_9 (by decide +kernel) mf_nX0 (by decide) (Nat.le_of_ble_eq_true rfl) (Nat.le_of_ble_eq_true rfl) (Nat.le_of_ble_eq_true rfl) (fun l => nc_X0 l G b _ _ (by rw [List.length_append]; exact congrArg (P.length + ·) rfl)) ?_
  refine sn_put q_cl9 (i := 0) 0 (ty := (.object "BallotFruit$Commune")) (X1 := ([.inr (9, [.ref (b + (P.length + 1)), .null, .null, .null, .null, .null])] ++ n_X0 G b (P.length + 1))) rfl rfl dX9_init_12 t_272 (by decide) (by decide +kernel) rfl rfl (Nat.le_of_ble_eq_true rfl) rfl ?_
  refine sn_aload_n 0 dX9_init_15 rfl rfl ?_
  refine sn_new 11 (by simp only [List.length_append, List.length_cons, List.length_nil, n_X0_len]) q_cl2 (fs := [.int 0, .null, .null, .null, .null, .int 0, .int 0, .null, .null]) dX9_init_16 t_145 t_146 t_4 nd_X2 (Nat.le_of_ble_eq_true rfl) (Nat.le_of_ble_eq_true rfl) ?_
  refine sn_dup dX9_init_19 rfl ?_
  refine sn_callN (X0 := ([.inr (9, [.ref (b + (P.length + 1)), .null, .null, .null, .null, .null])] ++ n_X0 G b (P.length + 1))) (X1 := n_X2 G b (P.length + 11)) (As := []) (host := "BallotFruit") 11 (by simp only [List.length_append, List.length_cons, List.length_nil, n_X0_len]) rfl rfl dX9_init_20 (by decide +kernel) mf_nX2 (by decide) (Nat.le_of_ble_eq_true rfl) (Nat.le_of_ble_eq_true rfl) (Nat.le_of_ble_eq_true rfl) (fun l => nc_X2 l G b _ _ (by rw [List.length_append]; exact congrArg (P.length + ·) (by simp only [List.length_append, List.length_cons, List.length_nil, n_X0_len]))) ?_
  refine sn_put q_cl9 (i := 0) 1 (ty := (.object "BallotFruit$Law")) (X1 := (([.inr (9, [.ref (b + (P.length + 1)), .ref (b + (P.length + 11)), .null, .null, .null, .null])] ++ n_X0 G b (P.length + 1)) ++ n_X2 G b (P.length + 11))) rfl rfl dX9_init_23 t_274 (by decide) (by decide +kernel) rfl rfl (Nat.le_of_ble_eq_true rfl) rfl ?_
  refine sn_aload_n 0 dX9_init_26 rfl rfl ?_
  refine sn_new 18 (by simp only [List.length_append, List.length_cons, List.length_nil, n_X0_len, n_X2_len]) q_cl4 (fs := [.int 0, .null, .null, .null]) dX9_init_27 t_187 t_188 t_5 nd_X4 (Nat.le_of_ble_eq_true rfl) (Nat.le_of_ble_eq_true rfl) ?_
  refine sn_dup dX9_init_30 rfl ?_
  refine sn_callN (X0 := (([.inr (9, [.ref (b + (P.length + 1)), .ref (b + (P.length + 11)), .null, .null, .null, .null])] ++ n_X0 G b (P.length + 1)) ++ n_X2 G b (P.length + 11))) (X1 := n_X4 G b (P.length + 18)) (As := []) (host := "BallotFruit") 18 (by simp only [List.length_append, List.length_cons, List.length_nil, n_X0_len, n_X2_len]) rfl rfl dX9_init_31 (by decide +kernel) mf_nX4 (by decide) (Nat.le_of_ble_eq_true rfl) (Nat.le_of_ble_eq_true rfl) (Nat.le_of_ble_eq_true rfl) (fun l => nc_X4 l G b _ _ (by rw [List.length_append]; exact congrArg (P.length + ·) (by simp only [List.length_append, List.length_cons, List.length_nil, n_X0_len, n_X2_len]))) ?_
  refine sn_put q_cl9 (i := 0) 2 (ty := (.object "BallotFruit$Paths")) (X1 := ((([.inr (9, [.ref (b + (P.length + 1)), .ref (b + (P.length + 11)), .ref (b + (P.length + 18)), .null, .null, .null])] ++ n_X0 G b (P.length + 1)) ++ n_X2 G b (P.length + 11)) ++ n_X4 G b (P.length + 18))) rfl rfl dX9_init_34 t_277 (by decide) (by decide +kernel) rfl rfl (Nat.le_of_ble_eq_true rfl) rfl ?_
  refine sn_aload_n 0 dX9_init_37 rfl rfl ?_
  refine sn_new 22 (by simp only [List.length_append, List.length_cons, List.length_nil, n_X0_len, n_X2_len, n_X4_len]) q_cl5 (fs := [.int 0, .null, .null, .null, .null]) dX9_init_38 t_211 t_212 t_6 nd_X5 (Nat.le_of_ble_eq_true rfl) (Nat.le_of_ble_eq_true rfl) ?_
  refine sn_dup dX9_init_41 rfl ?_
  refine sn_callN (X0 := ((([.inr (9, [.ref (b + (P.length + 1)), .ref (b + (P.length + 11)), .ref (b + (P.length + 18)), .null, .null, .null])] ++ n_X0 G b (P.length + 1)) ++ n_X2 G b (P.length + 11)) ++ n_X4 G b (P.length + 18))) (X1 := n_X5 G b (P.length + 22)) (As := []) (host := "BallotFruit") 22 (by simp only [List.length_append, List.length_cons, List.length_nil, n_X0_len, n_X2_len, n_X4_len]) rfl rfl dX9_init_42 (by decide +kernel) mf_nX5 (by decide) (Nat.le_of_ble_eq_true rfl) (Nat.le_of_ble_eq_true rfl) (Nat.le_of_ble_eq_true rfl) (fun l => nc_X5 l G b _ _ (by rw [List.length_append]; exact congrArg (P.length + ·) (by simp only [List.length_append, List.length_cons, List.length_nil, n_X0_len, n_X2_len, n_X4_len]))) ?_
  refine sn_put q_cl9 (i := 0) 3 (ty := (.object "BallotFruit$Plan")) (X1 := (((([.inr (9, [.ref (b + (P.length + 1)), .ref (b + (P.length + 11)), .ref (b + (P.length + 18)), .ref (b + (P.length + 22)), .null, .null])] ++ n_X0 G b (P.length + 1)) ++ n_X2 G b (P.length + 11)) ++ n_X4 G b (P.length + 18)) ++ n_X5 G b (P.length + 22))) rfl rfl dX9_init_45 t_280 (by decide) (by decide +kernel) rfl rfl (Nat.le_of_ble_eq_true rfl) rfl ?_
  refine sn_aload_n 0 dX9_init_48 rfl rfl ?_
  refine sn_new 27 (by simp only [List.length_append, List.length_cons, List.length_nil, n_X0_len, n_X2_len, n_X4_len, n_X5_len]) q_cl1 (fs := [.int 0, .null, .null]) dX9_init_49 t_244 t_245 t_7 nd_X1 (Nat.le_of_ble_eq_true rfl) (Nat.le_of_ble_eq_true rfl) ?_
  refine sn_dup dX9_init_52 rfl ?_
  refine sn_callN (X0 := (((([.inr (9, [.ref (b + (P.length + 1)), .ref (b + (P.length + 11)), .ref (b + (P.length + 18)), .ref (b + (P.length + 22)), .null, .null])] ++ n_X0 G b (P.length + 1)) ++ n_X2 G b (P.length + 11)) ++ n_X4 G b (P.length + 18)) ++ n_X5 G b (P.length + 22))) (X1 := n_X1 G b (P.length + 27)) (As := []) (host := "BallotFruit") 27 (by simp only [List.length_append, List.length_cons, List.length_nil, n_X0_len, n_X2_len, n_X4_len, n_X5_len]) rfl rfl dX9_init_53 (by decide +kernel) mf_nX1 (by decide) (Nat.le_of_ble_eq_true rfl) (Nat.le_of_ble_eq_true rfl) (Nat.le_of_ble_eq_true rfl) (fun l => nc_X1 l G b _ _ (by rw [List.length_append]; exact congrArg (P.length + ·) (by simp only [List.length_append, List.length_cons, List.length_nil, n_X0_len, n_X2_len, n_X4_len, n_X5_len]))) ?_
  refine sn_put q_cl9 (i := 0) 4 (ty := (.object "BallotFruit$Cores")) (X1 := ((((([.inr (9, [.ref (b + (P.length + 1)), .ref (b + (P.length + 11)), .ref (b + (P.length + 18)), .ref (b + (P.length + 22)), .ref (b + (P.length + 27)), .null])] ++ n_X0 G b (P.length + 1)) ++ n_X2 G b (P.length + 11)) ++ n_X4 G b (P.length + 18)) ++ n_X5 G b (P.length + 22)) ++ n_X1 G b (P.length + 27))) rfl rfl dX9_init_56 t_283 (by decide) (by decide +kernel) rfl rfl (Nat.le_of_ble_eq_true rfl) rfl ?_
  refine sn_aload_n 0 dX9_init_59 rfl rfl ?_
  refine sn_new 30 (by simp only [List.length_append, List.length_cons, List.length_nil, n_X0_len, n_X1_len, n_X2_len, n_X4_len, n_X5_len]) q_cl3 (fs := [.null]) dX9_init_60 t_261 t_262 t_8 nd_X3 (Nat.le_of_ble_eq_true rfl) (Nat.le_of_ble_eq_true rfl) ?_
  refine sn_dup dX9_init_63 rfl ?_
  refine sn_callN (X0 := ((((([.inr (9, [.ref (b + (P.length + 1)), .ref (b + (P.length + 11)), .ref (b + (P.length + 18)), .ref (b + (P.length + 22)), .ref (b + (P.length + 27)), .null])] ++ n_X0 G b (P.length + 1)) ++ n_X2 G b (P.length + 11)) ++ n_X4 G b (P.length + 18)) ++ n_X5 G b (P.length + 22)) ++ n_X1 G b (P.length + 27))) (X1 := n_X3 G b (P.length + 30)) (As := []) (host := "BallotFruit") 30 (by simp only [List.length_append, List.length_cons, List.length_nil, n_X0_len, n_X1_len, n_X2_len, n_X4_len, n_X5_len]) rfl rfl dX9_init_64 (by decide +kernel) mf_nX3 (by decide) (Nat.le_of_ble_eq_true rfl) (Nat.le_of_ble_eq_true rfl) (Nat.le_of_ble_eq_true rfl) (fun l => nc_X3 l G b _ _ (by rw [List.length_append]; exact congrArg (P.length + ·) (by simp only [List.length_append, List.length_cons, List.length_nil, n_X0_len, n_X1_len, n_X2_len, n_X4_len, n_X5_len]))) ?_
  refine sn_put q_cl9 (i := 0) 5 (ty := (.object "BallotFruit$Pages")) (X1 := (((((([.inr (9, [.ref (b + (P.length + 1)), .ref (b + (P.length + 11)), .ref (b + (P.length + 18)), .ref (b + (P.length + 22)), .ref (b + (P.length + 27)), .ref (b + (P.length + 30))])] ++ n_X0 G b (P.length + 1)) ++ n_X2 G b (P.length + 11)) ++ n_X4 G b (P.length + 18)) ++ n_X5 G b (P.length + 22)) ++ n_X1 G b (P.length + 27)) ++ n_X3 G b (P.length + 30))) rfl rfl dX9_init_67 t_285 (by decide) (by decide +kernel) rfl rfl (Nat.le_of_ble_eq_true rfl) rfl ?_
  exact sn_vret dX9_init_70
def n_X6 (G : qG) (b n : Nat)  : List va_E := (((([.inr (6, [.int 0, .int (-1 : Int32), .ref (b + (n + 1)), .ref (b + (n + 6)), .ref (b + (n + 13)), .ref (b + (n + 17)), .int 0, .int 0, .int 0])] ++ n_X8 G b (n + 1)) ++ n_X2 G b (n + 6)) ++ n_X4 G b (n + 13)) ++ n_X5 G b (n + 17))
theorem n_X6_len (G : qG) (b n : Nat)  : (n_X6 G b n ).length = 22 := by unfold n_X6; exact (by simp only [List.length_append, List.length_cons, List.length_nil, n_X2_len, n_X4_len, n_X5_len, n_X8_len])
theorem mf_nX6 : n_Mf yX6_init cX6_init 1 0 := ⟨t_306, t_9, t_307, rfl, by decide +kernel, by decide⟩
set_option maxRecDepth 100000 in
set_option maxHeartbeats 16000000 in
theorem nc_X6 (l : Launch) (G : qG) (b : Nat) (P : List va_E) (n : Nat)  (hn : P.length = n) : NC l yX6_init cX6_init 1 2 21 2281 G b [.ref (b + n)] (P ++ [.inr (6, [.int 0, .int 0, .null, .null, .null, .null, .int 0, .int 0, .int 0])]) (P ++ n_X6 G b n ) := by
  subst hn
  refine NC.of_SN (own := RX6) rfl rfl (by decide) (Nat.le_of_ble_eq_true rfl) [(0, .ref (b + (P.length + 0)))] rfl ?_
  refine sn_aload_n 0 dX6_init_0 rfl rfl ?_
  refine sn_obj dX6_init_1 t_308 t_26 t_27 (by decide) ?_
  refine sn_aload_n 0 dX6_init_4 rfl rfl ?_
  refine sn_iconst (-1 : Int32) dX6_init_5 (by decide) ?_
  refine sn_put q_cl6 (i := 0) 1 (ty := .int) (X1 := [.inr (6, [.int 0, .int (-1 : Int32), .null, .null, .null, .null, .int 0, .int 0, .int 0])]) rfl rfl dX6_init_6 t_348 (by decide) (by decide +kernel) rfl rfl (Nat.le_of_ble_eq_true rfl) rfl ?_
  refine sn_aload_n 0 dX6_init_9 rfl rfl ?_
  refine sn_new 1 rfl q_cl8 (fs := [.null, .int 0, .null, .null, .null, .int 0]) dX6_init_10 t_309 t_310 t_10 nd_X8 (Nat.le_of_ble_eq_true rfl) (Nat.le_of_ble_eq_true rfl) ?_
  refine sn_dup dX6_init_13 rfl ?_
  refine sn_callN (X0 := [.inr (6, [.int 0, .int (-1 : Int32), .null, .null, .null, .null, .int 0, .int 0, .int 0])]) (X1 := n_X8 G b (P.length + 1)) (As := []) (host := "BallotFruit") 1 rfl rfl rfl dX6_init_14 (by decide +kernel) mf_nX8 (by decide) (Nat.le_of_ble_eq_true rfl) (Nat.le_of_ble_eq_true rfl) (Nat.le_of_ble_eq_true rfl) (fun l => nc_X8 l G b _ _ (by rw [List.length_append]; exact congrArg (P.length + ·) rfl)) ?_
  refine sn_put q_cl6 (i := 0) 2 (ty := (.object "BallotFruit$Tape")) (X1 := ([.inr (6, [.int 0, .int (-1 : Int32), .ref (b + (P.length + 1)), .null, .null, .null, .int 0, .int 0, .int 0])] ++ n_X8 G b (P.length + 1))) rfl rfl dX6_init_17 t_350 (by decide) (by decide +kernel) rfl rfl (Nat.le_of_ble_eq_true rfl) rfl ?_
  refine sn_aload_n 0 dX6_init_20 rfl rfl ?_
  refine sn_new 6 (by simp only [List.length_append, List.length_cons, List.length_nil, n_X8_len]) q_cl2 (fs := [.int 0, .null, .null, .null, .null, .int 0, .int 0, .null, .null]) dX6_init_21 t_340 t_146 t_4 nd_X2 (Nat.le_of_ble_eq_true rfl) (Nat.le_of_ble_eq_true rfl) ?_
  refine sn_dup dX6_init_24 rfl ?_
  refine sn_callN (X0 := ([.inr (6, [.int 0, .int (-1 : Int32), .ref (b + (P.length + 1)), .null, .null, .null, .int 0, .int 0, .int 0])] ++ n_X8 G b (P.length + 1))) (X1 := n_X2 G b (P.length + 6)) (As := []) (host := "BallotFruit") 6 (by simp only [List.length_append, List.length_cons, List.length_nil, n_X8_len]) rfl rfl dX6_init_25 (by decide +kernel) mf_nX2 (by decide) (Nat.le_of_ble_eq_true rfl) (Nat.le_of_ble_eq_true rfl) (Nat.le_of_ble_eq_true rfl) (fun l => nc_X2 l G b _ _ (by rw [List.length_append]; exact congrArg (P.length + ·) (by simp only [List.length_append, List.length_cons, List.length_nil, n_X8_len]))) ?_
  refine sn_put q_cl6 (i := 0) 3 (ty := (.object "BallotFruit$Law")) (X1 := (([.inr (6, [.int 0, .int (-1 : Int32), .ref (b + (P.length + 1)), .ref (b + (P.length + 6)), .null, .null, .int 0, .int 0, .int 0])] ++ n_X8 G b (P.length + 1)) ++ n_X2 G b (P.length + 6))) rfl rfl dX6_init_28 t_352 (by decide) (by decide +kernel) rfl rfl (Nat.le_of_ble_eq_true rfl) rfl ?_
  refine sn_aload_n 0 dX6_init_31 rfl rfl ?_
  refine sn_new 13 (by simp only [List.length_append, List.length_cons, List.length_nil, n_X2_len, n_X8_len]) q_cl4 (fs := [.int 0, .null, .null, .null]) dX6_init_32 t_342 t_188 t_5 nd_X4 (Nat.le_of_ble_eq_true rfl) (Nat.le_of_ble_eq_true rfl) ?_
  refine sn_dup dX6_init_35 rfl ?_
  refine sn_callN (X0 := (([.inr (6, [.int 0, .int (-1 : Int32), .ref (b + (P.length + 1)), .ref (b + (P.length + 6)), .null, .null, .int 0, .int 0, .int 0])] ++ n_X8 G b (P.length + 1)) ++ n_X2 G b (P.length + 6))) (X1 := n_X4 G b (P.length + 13)) (As := []) (host := "BallotFruit") 13 (by simp only [List.length_append, List.length_cons, List.length_nil, n_X2_len, n_X8_len]) rfl rfl dX6_init_36 (by decide +kernel) mf_nX4 (by decide) (Nat.le_of_ble_eq_true rfl) (Nat.le_of_ble_eq_true rfl) (Nat.le_of_ble_eq_true rfl) (fun l => nc_X4 l G b _ _ (by rw [List.length_append]; exact congrArg (P.length + ·) (by simp only [List.length_append, List.length_cons, List.length_nil, n_X2_len, n_X8_len]))) ?_
  refine sn_put q_cl6 (i := 0) 4 (ty := (.object "BallotFruit$Paths")) (X1 := ((([.inr (6, [.int 0, .int (-1 : Int32), .ref (b + (P.length + 1)), .ref (b + (P.length + 6)), .ref (b + (P.length + 13)), .null, .int 0, .int 0, .int 0])] ++ n_X8 G b (P.length + 1)) ++ n_X2 G b (P.length + 6)) ++ n_X4 G b (P.length + 13))) rfl rfl dX6_init_39 t_353 (by decide) (by decide +kernel) rfl rfl (Nat.le_of_ble_eq_true rfl) rfl ?_
  refine sn_aload_n 0 dX6_init_42 rfl rfl ?_
  refine sn_new 17 (by simp only [List.length_append, List.length_cons, List.length_nil, n_X2_len, n_X4_len, n_X8_len]) q_cl5 (fs := [.int 0, .null, .null, .null, .null]) dX6_init_43 t_344 t_212 t_6 nd_X5 (Nat.le_of_ble_eq_true rfl) (Nat.le_of_ble_eq_true rfl) ?_
  refine sn_dup dX6_init_46 rfl ?_
  refine sn_callN (X0 := ((([.inr (6, [.int 0, .int (-1 : Int32), .ref (b + (P.length + 1)), .ref (b + (P.length + 6)), .ref (b + (P.length + 13)), .null, .int 0, .int 0, .int 0])] ++ n_X8 G b (P.length + 1)) ++ n_X2 G b (P.length + 6)) ++ n_X4 G b (P.length + 13))) (X1 := n_X5 G b (P.length + 17)) (As := []) (host := "BallotFruit") 17 (by simp only [List.length_append, List.length_cons, List.length_nil, n_X2_len, n_X4_len, n_X8_len]) rfl rfl dX6_init_47 (by decide +kernel) mf_nX5 (by decide) (Nat.le_of_ble_eq_true rfl) (Nat.le_of_ble_eq_true rfl) (Nat.le_of_ble_eq_true rfl) (fun l => nc_X5 l G b _ _ (by rw [List.length_append]; exact congrArg (P.length + ·) (by simp only [List.length_append, List.length_cons, List.length_nil, n_X2_len, n_X4_len, n_X8_len]))) ?_
  refine sn_put q_cl6 (i := 0) 5 (ty := (.object "BallotFruit$Plan")) (X1 := (((([.inr (6, [.int 0, .int (-1 : Int32), .ref (b + (P.length + 1)), .ref (b + (P.length + 6)), .ref (b + (P.length + 13)), .ref (b + (P.length + 17)), .int 0, .int 0, .int 0])] ++ n_X8 G b (P.length + 1)) ++ n_X2 G b (P.length + 6)) ++ n_X4 G b (P.length + 13)) ++ n_X5 G b (P.length + 17))) rfl rfl dX6_init_50 t_354 (by decide) (by decide +kernel) rfl rfl (Nat.le_of_ble_eq_true rfl) rfl ?_
  exact sn_vret dX6_init_53
