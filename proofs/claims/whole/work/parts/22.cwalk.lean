set_option maxRecDepth 100000 in
theorem c_X10_forget (l : Launch) {ι : qI} {b : Nat}   (u : qS) (h0 : is_X10 ι) : CN l yX10_forget cX10_forget 1 none 1 ι b [.ref (b + 0)] u (m_X10_forget  u) := by
  refine CN.of_SW (own := RX10) rfl (by decide) (Nat.le_of_ble_eq_true rfl) [(0, .ref (b + 0))] rfl ?_
  unfold m_X10_forget
  refine sw_aload_n 0 dX10_forget_0 rfl rfl ?_
  refine sw_iconst (0 : Int32) dX10_forget_1 (by decide) ?_
  refine sw_puti q_cl10 5 dX10_forget_2 t_409 (by decide) (by decide +kernel) rfl h0.1 rfl (fun u_1 => ?_)
  exact sw_vret dX10_forget_5
set_option maxRecDepth 100000 in
theorem c_X10_state (l : Launch) {ι : qI} {b : Nat}  (x1 : Int32) (u : qS) (h0 : is_X10 ι) : CN l yX10_state cX10_state 3 (some .int) 2 ι b [.ref (b + 0), .int x1] u (m_X10_state x1 u) := by
  refine CN.of_SW (own := RX10) rfl (by decide) (Nat.le_of_ble_eq_true rfl) [(0, .ref (b + 0)), (1, .int x1)] rfl ?_
  unfold m_X10_state
  refine sw_aload_n 0 dX10_state_0 rfl rfl ?_
  refine sw_getr q_cl10 1 (r := 2) dX10_state_1 t_405 (by decide) h0.1 rfl ?_
  refine sw_geti q_cl0 1 dX10_state_4 t_45 (by decide) h0.2.2.1.1 rfl ?_
  refine SW.name (fun y2 => ?_)
  refine sw_istore_n (lv' := [(2, .int y2), (0, .ref (b + 0)), (1, .int x1)]) dX10_state_7 rfl (by decide) rfl ?_
  refine sw_aload_n 1 dX10_state_8 rfl rfl ?_
  refine sw_getr q_cl10 1 (r := 2) dX10_state_9 t_405 (by decide) h0.1 rfl ?_
  refine sw_iload_n 2 dX10_state_12 rfl rfl ?_
  refine sw_puti q_cl0 1 dX10_state_13 t_45 (by decide) (by decide +kernel) rfl h0.2.2.1.1 rfl (fun u_1 => ?_)
  refine sw_aload_n 1 dX10_state_16 rfl rfl ?_
  refine sw_callVv (As := []) (k := 0) rfl dX10_state_17 t_449 mf_X10_forget h0.1 q_cl10 (by decide) (Nat.le_of_ble_eq_true rfl) (fun l => c_X10_forget l  u_1 h0) (fun _ u_2 => ?_)
  refine sw_iload_n 0 dX10_state_20 rfl rfl ?_
  exact sw_iret dX10_state_21
set_option maxRecDepth 100000 in
theorem c_X10_isWithin (l : Launch) {ι : qI} {b : Nat}  (x0 : Int32) (x1 : Int32) (x2 : Int32) (u : qS)  : CN l yX10_isWithin cX10_isWithin 3 (some .boolean) 1 ι b [.int x0, .int x1, .int x2] u (m_X10_isWithin x0 x1 x2 u) := by
  refine CN.of_SW (own := RX10) rfl (by decide) (Nat.le_of_ble_eq_true rfl) [(0, .int x0), (1, .int x1), (2, .int x2)] rfl ?_
  unfold m_X10_isWithin
  refine sw_iload_n 0 dX10_isWithin_0 rfl rfl ?_
  refine sw_iload_n 1 dX10_isWithin_1 rfl rfl ?_
  refine sw_icmp_lt 14 dX10_isWithin_2 (by decide) ?_ ?_
  · refine sw_iconst (0 : Int32) dX10_isWithin_14 (by decide) ?_
    exact sw_zret0 dX10_isWithin_15
  · refine sw_iload_n 0 dX10_isWithin_5 rfl rfl ?_
    refine sw_iload_n 2 dX10_isWithin_6 rfl rfl ?_
    refine sw_icmp_gt 14 dX10_isWithin_7 (by decide) ?_ ?_
    · refine sw_iconst (0 : Int32) dX10_isWithin_14 (by decide) ?_
      exact sw_zret0 dX10_isWithin_15
    · refine sw_iconst (1 : Int32) dX10_isWithin_10 (by decide) ?_
      refine sw_goto 15 dX10_isWithin_11 (by decide) ?_
      exact sw_zret1 dX10_isWithin_15
set_option maxRecDepth 100000 in
theorem c_X0_addParty (l : Launch) {ι : qI} {b : Nat} (k : Nat) (x1 : Int32) (u : qS) (h0 : is_X0 ι k) : CN l yX0_addParty cX0_addParty 3 (some .int) 1 ι b [.ref (b + k), .int x1] u (m_X0_addParty k x1 u) := by
  refine CN.of_SW (own := RX0) rfl (by decide) (Nat.le_of_ble_eq_true rfl) [(0, .ref (b + k)), (1, .int x1)] rfl ?_
  unfold m_X0_addParty
  refine sw_aload_n 0 dX0_addParty_0 rfl rfl ?_
  refine sw_geti q_cl0 7 dX0_addParty_1 t_60 (by decide) h0.1 rfl ?_
  refine SW.name (fun y2 => ?_)
  refine sw_istore_n (lv' := [(2, .int y2), (0, .ref (b + k)), (1, .int x1)]) dX0_addParty_4 rfl (by decide) rfl ?_
  refine sw_aload_n 1 dX0_addParty_5 rfl rfl ?_
  refine sw_getr q_cl0 11 (r := (k + 1)) dX0_addParty_6 t_72 (by decide) h0.1 rfl ?_
  refine sw_iload_n 0 dX0_addParty_9 rfl rfl ?_
  refine sw_iload_n 2 dX0_addParty_10 rfl rfl ?_
  refine sw_iast dX0_addParty_11 h0.2.1 (fun u_1 => ?_)
  refine sw_aload_n 1 dX0_addParty_12 rfl rfl ?_
  refine sw_getr q_cl0 12 (r := (k + 2)) dX0_addParty_13 t_75 (by decide) h0.1 rfl ?_
  refine sw_iload_n 0 dX0_addParty_16 rfl rfl ?_
  refine sw_iconst (0 : Int32) dX0_addParty_17 (by decide) ?_
  refine sw_iast dX0_addParty_18 h0.2.2.1 (fun u_2 => ?_)
  refine sw_aload_n 1 dX0_addParty_19 rfl rfl ?_
  refine sw_getr q_cl0 13 (r := (k + 3)) dX0_addParty_20 t_78 (by decide) h0.1 rfl ?_
  refine sw_iload_n 0 dX0_addParty_23 rfl rfl ?_
  refine sw_iconst (0 : Int32) dX0_addParty_24 (by decide) ?_
  refine sw_iast dX0_addParty_25 h0.2.2.2.1 (fun u_3 => ?_)
  refine sw_aload_n 1 dX0_addParty_26 rfl rfl ?_
  refine sw_dup dX0_addParty_27 rfl ?_
  refine sw_geti q_cl0 7 dX0_addParty_28 t_60 (by decide) h0.1 rfl ?_
  refine sw_iconst (1 : Int32) dX0_addParty_31 (by decide) ?_
  refine sw_iadd dX0_addParty_32 ?_
  refine sw_puti q_cl0 7 dX0_addParty_33 t_60 (by decide) (by decide +kernel) rfl h0.1 rfl (fun u_4 => ?_)
  refine sw_iload_n 0 dX0_addParty_36 rfl rfl ?_
  exact sw_iret dX0_addParty_37
set_option maxRecDepth 100000 in
theorem c_X10_party (l : Launch) {ι : qI} {b : Nat}  (x1 : Int32) (u : qS) (h0 : is_X10 ι) : CN l yX10_party cX10_party 2 (some .int) 2 ι b [.ref (b + 0), .int x1] u (m_X10_party x1 u) := by
  refine CN.of_SW (own := RX10) rfl (by decide) (Nat.le_of_ble_eq_true rfl) [(0, .ref (b + 0)), (1, .int x1)] rfl ?_
  unfold m_X10_party
  refine sw_iload_n 1 dX10_party_0 rfl rfl ?_
  refine sw_iconst (0 : Int32) dX10_party_1 (by decide) ?_
  refine sw_sipush (999 : Int32) dX10_party_2 (by decide) ?_
  refine sw_callSi (As := [.int x1, .int (0 : Int32), .int (999 : Int32)]) rfl dX10_party_5 t_457 mf_X10_isWithin (by decide) (Nat.le_of_ble_eq_true rfl) (fun l => c_X10_isWithin l x1 (0 : Int32) (999 : Int32) u ) (fun r u_1 => ?_)
  refine sw_if_eq 22 dX10_party_8 (by decide) ?_ ?_
  · refine sw_iconst (-1 : Int32) dX10_party_22 (by decide) ?_
    exact sw_iret dX10_party_23
  · refine sw_aload_n 0 dX10_party_11 rfl rfl ?_
    refine sw_getr q_cl10 1 (r := 2) dX10_party_12 t_405 (by decide) h0.1 rfl ?_
    refine sw_geti q_cl0 7 dX10_party_15 t_61 (by decide) h0.2.2.1.1 rfl ?_
    refine sw_iconst (5 : Int32) dX10_party_18 (by decide) ?_
    refine sw_icmp_lt 24 dX10_party_19 (by decide) ?_ ?_
    · refine sw_aload_n 0 dX10_party_24 rfl rfl ?_
      refine sw_callVv (As := []) (k := 0) rfl dX10_party_25 t_449 mf_X10_forget h0.1 q_cl10 (by decide) (Nat.le_of_ble_eq_true rfl) (fun l => c_X10_forget l  u_1 h0) (fun _ u_2 => ?_)
      refine sw_aload_n 0 dX10_party_28 rfl rfl ?_
      refine sw_getr q_cl10 1 (r := 2) dX10_party_29 t_405 (by decide) h0.1 rfl ?_
      refine sw_iload_n 1 dX10_party_32 rfl rfl ?_
      refine sw_callVi (As := [.int x1]) (k := 2) rfl dX10_party_33 t_460 mf_X0_addParty h0.2.2.1.1 q_cl0 (by decide) (Nat.le_of_ble_eq_true rfl) (fun l => c_X0_addParty l 2 x1 u_2 h0.2.2.1) (fun r_3 u_4 => ?_)
      exact sw_iret dX10_party_36
    · refine sw_iconst (-1 : Int32) dX10_party_22 (by decide) ?_
      exact sw_iret dX10_party_23
set_option maxRecDepth 100000 in
theorem w_X0_addEater_L14 {ι : qI} {b : Nat} (k : Nat) (h0 : is_X0 ι k) (x2 : Int32) {K36 : qS → qR} (hK36 : ∀  (u : qS), SW RX0 cX0_addEater 4 (some .int) 1 ι b 36 [(0, .ref (b + k)), (2, .int x2)] [] u (K36  u)) (fu : Nat) (x3 : Int32) (u : qS) : SW RX0 cX0_addEater 4 (some .int) 1 ι b 14 [(0, .ref (b + k)), (2, .int x2), (3, .int x3)] [] u (q_it1 (m_X0_addEater_L14 k x2 K36) fu x3 u) := by
  refine SW.it1 (fun x3 => [(0, .ref (b + k)), (2, .int x2), (3, .int x3)]) (fun self ih x3 u => ?_) fu x3 u
  unfold m_X0_addEater_L14
  refine sw_iload_n 2 dX0_addEater_14 rfl rfl ?_
  refine sw_iconst (5 : Int32) dX0_addEater_15 (by decide) ?_
  refine sw_icmp_ge 36 dX0_addEater_16 (by decide) ?_ ?_
  · exact SW.sub [0, 1] rfl (hK36  u)
  · refine sw_aload_n 0 dX0_addEater_19 rfl rfl ?_
    refine sw_getr q_cl0 19 (r := (k + 9)) dX0_addEater_20 t_100 (by decide) h0.1 rfl ?_
    refine sw_iload_n 1 dX0_addEater_23 rfl rfl ?_
    refine sw_iconst (5 : Int32) dX0_addEater_24 (by decide) ?_
    refine sw_imul dX0_addEater_25 ?_
    refine sw_iload_n 2 dX0_addEater_26 rfl rfl ?_
    refine sw_iadd dX0_addEater_27 ?_
    refine sw_iconst (5 : Int32) dX0_addEater_28 (by decide) ?_
    refine sw_iast dX0_addEater_29 h0.2.2.2.2.2.2.2.2.2 (fun u_2 => ?_)
    refine sw_iinc (lv' := [(3, .int (x3 + (1 : Int32))), (0, .ref (b + k)), (2, .int x2)]) 2 dX0_addEater_30 rfl (congrArg (x3 + ·) (by decide)) (by decide) rfl ?_
    refine sw_goto 14 dX0_addEater_33 (by decide) ?_
    exact SW.sub [1, 2, 0] rfl (ih (x3 + (1 : Int32)) u_2)
set_option maxRecDepth 100000 in
theorem c_X0_addEater (l : Launch) {ι : qI} {b : Nat} (k : Nat) (x1 : Int32) (u : qS) (h0 : is_X0 ι k) : CN l yX0_addEater cX0_addEater 4 (some .int) 1 ι b [.ref (b + k), .int x1] u (m_X0_addEater k x1 u) := by
  refine CN.of_SW (own := RX0) rfl (by decide) (Nat.le_of_ble_eq_true rfl) [(0, .ref (b + k)), (1, .int x1)] rfl ?_
  unfold m_X0_addEater
  refine sw_aload_n 0 dX0_addEater_0 rfl rfl ?_
  refine sw_geti q_cl0 9 dX0_addEater_1 t_67 (by decide) h0.1 rfl ?_
  refine SW.name (fun y2 => ?_)
  refine sw_istore_n (lv' := [(2, .int y2), (0, .ref (b + k)), (1, .int x1)]) dX0_addEater_4 rfl (by decide) rfl ?_
  refine sw_aload_n 1 dX0_addEater_5 rfl rfl ?_
  refine sw_getr q_cl0 18 (r := (k + 8)) dX0_addEater_6 t_96 (by decide) h0.1 rfl ?_
  refine sw_iload_n 0 dX0_addEater_9 rfl rfl ?_
  refine sw_iload_n 2 dX0_addEater_10 rfl rfl ?_
  refine sw_iast dX0_addEater_11 h0.2.2.2.2.2.2.2.2.1 (fun u_1 => ?_)
  refine sw_iconst (0 : Int32) dX0_addEater_12 (by decide) ?_
  refine sw_istore_n (lv' := [(3, .int (0 : Int32)), (2, .int y2), (0, .ref (b + k)), (1, .int x1)]) dX0_addEater_13 rfl (by decide) rfl ?_
  refine SW.sub (lv' := [(0, .ref (b + k)), (2, .int y2), (3, .int (0 : Int32))]) [2, 1, 0] rfl ?_
  refine w_X0_addEater_L14 k h0 y2 (fun u_3 => ?_) q_F (0 : Int32) u_1
  refine sw_aload_n 0 dX0_addEater_36 rfl rfl ?_
  refine sw_dup dX0_addEater_37 rfl ?_
  refine sw_geti q_cl0 9 dX0_addEater_38 t_67 (by decide) h0.1 rfl ?_
  refine sw_iconst (1 : Int32) dX0_addEater_41 (by decide) ?_
  refine sw_iadd dX0_addEater_42 ?_
  refine sw_puti q_cl0 9 dX0_addEater_43 t_67 (by decide) (by decide +kernel) rfl h0.1 rfl (fun u_4 => ?_)
  refine sw_iload_n 1 dX0_addEater_46 rfl rfl ?_
  exact sw_iret dX0_addEater_47
set_option maxRecDepth 100000 in
theorem c_X10_eater (l : Launch) {ι : qI} {b : Nat}  (x1 : Int32) (u : qS) (h0 : is_X10 ι) : CN l yX10_eater cX10_eater 2 (some .int) 2 ι b [.ref (b + 0), .int x1] u (m_X10_eater x1 u) := by
  refine CN.of_SW (own := RX10) rfl (by decide) (Nat.le_of_ble_eq_true rfl) [(0, .ref (b + 0)), (1, .int x1)] rfl ?_
  unfold m_X10_eater
  refine sw_iload_n 1 dX10_eater_0 rfl rfl ?_
  refine sw_iconst (0 : Int32) dX10_eater_1 (by decide) ?_
  refine sw_bipush (20 : Int32) dX10_eater_2 (by decide) ?_
  refine sw_callSi (As := [.int x1, .int (0 : Int32), .int (20 : Int32)]) rfl dX10_eater_4 t_457 mf_X10_isWithin (by decide) (Nat.le_of_ble_eq_true rfl) (fun l => c_X10_isWithin l x1 (0 : Int32) (20 : Int32) u ) (fun r u_1 => ?_)
  refine sw_if_eq 22 dX10_eater_7 (by decide) ?_ ?_
  · refine sw_iconst (-1 : Int32) dX10_eater_22 (by decide) ?_
    exact sw_iret dX10_eater_23
  · refine sw_aload_n 0 dX10_eater_10 rfl rfl ?_
    refine sw_getr q_cl10 1 (r := 2) dX10_eater_11 t_405 (by decide) h0.1 rfl ?_
    refine sw_geti q_cl0 9 dX10_eater_14 t_68 (by decide) h0.2.2.1.1 rfl ?_
    refine sw_bipush (10 : Int32) dX10_eater_17 (by decide) ?_
    refine sw_icmp_lt 24 dX10_eater_19 (by decide) ?_ ?_
    · refine sw_aload_n 0 dX10_eater_24 rfl rfl ?_
      refine sw_callVv (As := []) (k := 0) rfl dX10_eater_25 t_449 mf_X10_forget h0.1 q_cl10 (by decide) (Nat.le_of_ble_eq_true rfl) (fun l => c_X10_forget l  u_1 h0) (fun _ u_2 => ?_)
      refine sw_aload_n 0 dX10_eater_28 rfl rfl ?_
      refine sw_getr q_cl10 1 (r := 2) dX10_eater_29 t_405 (by decide) h0.1 rfl ?_
      refine sw_iload_n 1 dX10_eater_32 rfl rfl ?_
      refine sw_callVi (As := [.int x1]) (k := 2) rfl dX10_eater_33 t_468 mf_X0_addEater h0.2.2.1.1 q_cl0 (by decide) (Nat.le_of_ble_eq_true rfl) (fun l => c_X0_addEater l 2 x1 u_2 h0.2.2.1) (fun r_3 u_4 => ?_)
      exact sw_iret dX10_eater_36
    · refine sw_iconst (-1 : Int32) dX10_eater_22 (by decide) ?_
      exact sw_iret dX10_eater_23
set_option maxRecDepth 100000 in
theorem c_X0_isEater (l : Launch) {ι : qI} {b : Nat} (k : Nat) (x1 : Int32) (u : qS) (h0 : is_X0 ι k) : CN l yX0_isEater cX0_isEater 2 (some .boolean) 1 ι b [.ref (b + k), .int x1] u (m_X0_isEater k x1 u) := by
  refine CN.of_SW (own := RX0) rfl (by decide) (Nat.le_of_ble_eq_true rfl) [(0, .ref (b + k)), (1, .int x1)] rfl ?_
  unfold m_X0_isEater
  refine sw_iload_n 1 dX0_isEater_0 rfl rfl ?_
  refine sw_if_lt 16 dX0_isEater_1 (by decide) ?_ ?_
  · refine sw_iconst (0 : Int32) dX0_isEater_16 (by decide) ?_
    exact sw_zret0 dX0_isEater_17
  · refine sw_iload_n 1 dX0_isEater_4 rfl rfl ?_
    refine sw_aload_n 0 dX0_isEater_5 rfl rfl ?_
    refine sw_geti q_cl0 9 dX0_isEater_6 t_67 (by decide) h0.1 rfl ?_
    refine sw_icmp_ge 16 dX0_isEater_9 (by decide) ?_ ?_
    · refine sw_iconst (0 : Int32) dX0_isEater_16 (by decide) ?_
      exact sw_zret0 dX0_isEater_17
    · refine sw_iconst (1 : Int32) dX0_isEater_12 (by decide) ?_
      refine sw_goto 17 dX0_isEater_13 (by decide) ?_
      exact sw_zret1 dX0_isEater_17
set_option maxRecDepth 100000 in
theorem c_X0_isParty (l : Launch) {ι : qI} {b : Nat} (k : Nat) (x1 : Int32) (u : qS) (h0 : is_X0 ι k) : CN l yX0_isParty cX0_isParty 2 (some .boolean) 1 ι b [.ref (b + k), .int x1] u (m_X0_isParty k x1 u) := by
  refine CN.of_SW (own := RX0) rfl (by decide) (Nat.le_of_ble_eq_true rfl) [(0, .ref (b + k)), (1, .int x1)] rfl ?_
  unfold m_X0_isParty
  refine sw_iload_n 1 dX0_isParty_0 rfl rfl ?_
  refine sw_if_lt 16 dX0_isParty_1 (by decide) ?_ ?_
  · refine sw_iconst (0 : Int32) dX0_isParty_16 (by decide) ?_
    exact sw_zret0 dX0_isParty_17
  · refine sw_iload_n 1 dX0_isParty_4 rfl rfl ?_
    refine sw_aload_n 0 dX0_isParty_5 rfl rfl ?_
    refine sw_geti q_cl0 7 dX0_isParty_6 t_60 (by decide) h0.1 rfl ?_
    refine sw_icmp_ge 16 dX0_isParty_9 (by decide) ?_ ?_
    · refine sw_iconst (0 : Int32) dX0_isParty_16 (by decide) ?_
      exact sw_zret0 dX0_isParty_17
    · refine sw_iconst (1 : Int32) dX0_isParty_12 (by decide) ?_
      refine sw_goto 17 dX0_isParty_13 (by decide) ?_
      exact sw_zret1 dX0_isParty_17
set_option maxRecDepth 100000 in
theorem c_X10_taste (l : Launch) {ι : qI} {b : Nat}  (x1 : Int32) (x2 : Int32) (x3 : Int32) (u : qS) (h0 : is_X10 ι) : CN l yX10_taste cX10_taste 4 (some .boolean) 2 ι b [.ref (b + 0), .int x1, .int x2, .int x3] u (m_X10_taste x1 x2 x3 u) := by
  refine CN.of_SW (own := RX10) rfl (by decide) (Nat.le_of_ble_eq_true rfl) [(0, .ref (b + 0)), (1, .int x1), (2, .int x2), (3, .int x3)] rfl ?_
  unfold m_X10_taste
  refine sw_aload_n 0 dX10_taste_0 rfl rfl ?_
  refine sw_getr q_cl10 1 (r := 2) dX10_taste_1 t_405 (by decide) h0.1 rfl ?_
  refine sw_iload_n 1 dX10_taste_4 rfl rfl ?_
  refine sw_callVi (As := [.int x1]) (k := 2) rfl dX10_taste_5 t_476 mf_X0_isEater h0.2.2.1.1 q_cl0 (by decide) (Nat.le_of_ble_eq_true rfl) (fun l => c_X0_isEater l 2 x1 u h0.2.2.1) (fun r u_1 => ?_)
  refine sw_if_eq 32 dX10_taste_8 (by decide) ?_ ?_
  · refine sw_iconst (0 : Int32) dX10_taste_32 (by decide) ?_
    exact sw_zret0 dX10_taste_33
  · refine sw_aload_n 0 dX10_taste_11 rfl rfl ?_
    refine sw_getr q_cl10 1 (r := 2) dX10_taste_12 t_405 (by decide) h0.1 rfl ?_
    refine sw_iload_n 2 dX10_taste_15 rfl rfl ?_
    refine sw_callVi (As := [.int x2]) (k := 2) rfl dX10_taste_16 t_480 mf_X0_isParty h0.2.2.1.1 q_cl0 (by decide) (Nat.le_of_ble_eq_true rfl) (fun l => c_X0_isParty l 2 x2 u_1 h0.2.2.1) (fun r_2 u_3 => ?_)
    refine sw_if_eq 32 dX10_taste_19 (by decide) ?_ ?_
    · refine sw_iconst (0 : Int32) dX10_taste_32 (by decide) ?_
      exact sw_zret0 dX10_taste_33
    · refine sw_iload_n 3 dX10_taste_22 rfl rfl ?_
      refine sw_iconst (0 : Int32) dX10_taste_23 (by decide) ?_
      refine sw_bipush (9 : Int32) dX10_taste_24 (by decide) ?_
      refine sw_callSi (As := [.int x3, .int (0 : Int32), .int (9 : Int32)]) rfl dX10_taste_26 t_457 mf_X10_isWithin (by decide) (Nat.le_of_ble_eq_true rfl) (fun l => c_X10_isWithin l x3 (0 : Int32) (9 : Int32) u_3 ) (fun r_4 u_5 => ?_)
      refine sw_if_ne 34 dX10_taste_29 (by decide) ?_ ?_
      · refine sw_iconst (0 : Int32) dX10_taste_32 (by decide) ?_
        exact sw_zret0 dX10_taste_33
      · refine sw_aload_n 0 dX10_taste_34 rfl rfl ?_
        refine sw_getr q_cl10 1 (r := 2) dX10_taste_35 t_405 (by decide) h0.1 rfl ?_
        refine sw_getr q_cl0 19 (r := 11) dX10_taste_38 t_101 (by decide) h0.2.2.1.1 rfl ?_
        refine sw_iload_n 1 dX10_taste_41 rfl rfl ?_
        refine sw_iconst (5 : Int32) dX10_taste_42 (by decide) ?_
        refine sw_imul dX10_taste_43 ?_
        refine sw_iload_n 2 dX10_taste_44 rfl rfl ?_
        refine sw_iadd dX10_taste_45 ?_
        refine sw_iload_n 3 dX10_taste_46 rfl rfl ?_
        refine sw_iast dX10_taste_47 h0.2.2.1.2.2.2.2.2.2.2.2.2 (fun u_6 => ?_)
        refine sw_aload_n 0 dX10_taste_48 rfl rfl ?_
        refine sw_callVv (As := []) (k := 0) rfl dX10_taste_49 t_449 mf_X10_forget h0.1 q_cl10 (by decide) (Nat.le_of_ble_eq_true rfl) (fun l => c_X10_forget l  u_6 h0) (fun _ u_7 => ?_)
        refine sw_iconst (1 : Int32) dX10_taste_52 (by decide) ?_
        exact sw_zret1 dX10_taste_53
set_option maxRecDepth 100000 in
theorem c_X0_setRule (l : Launch) {ι : qI} {b : Nat} (k : Nat) (x1 : Int32) (x2 : Int32) (u : qS) (h0 : is_X0 ι k) : CN l yX0_setRule cX0_setRule 3 (some .boolean) 2 ι b [.ref (b + k), .int x1, .int x2] u (m_X0_setRule k x1 x2 u) := by
  refine CN.of_SW (own := RX0) rfl (by decide) (Nat.le_of_ble_eq_true rfl) [(0, .ref (b + k)), (1, .int x1), (2, .int x2)] rfl ?_
  unfold m_X0_setRule
  refine sw_iload_n 1 dX0_setRule_0 rfl rfl ?_
  refine SW.jn0 23 ([(0, .ref (b + k)), (1, .int x1), (2, .int x2)]) ([]) (fun  u_1 => ?_) (fun J23 hJ23 => ?_)
  · refine sw_iload_n 1 dX0_setRule_23 rfl rfl ?_
    refine sw_iconst (1 : Int32) dX0_setRule_24 (by decide) ?_
    refine SW.jn0 47 ([(0, .ref (b + k)), (1, .int x1), (2, .int x2)]) ([]) (fun  u_2 => ?_) (fun J47 hJ47 => ?_)
    · refine sw_iload_n 1 dX0_setRule_47 rfl rfl ?_
      refine sw_iconst (2 : Int32) dX0_setRule_48 (by decide) ?_
      refine SW.jn0 70 ([(0, .ref (b + k)), (1, .int x1), (2, .int x2)]) ([]) (fun  u_3 => ?_) (fun J70 hJ70 => ?_)
      · refine sw_iload_n 1 dX0_setRule_70 rfl rfl ?_
        refine sw_iconst (3 : Int32) dX0_setRule_71 (by decide) ?_
        refine sw_icmp_ne 93 dX0_setRule_72 (by decide) ?_ ?_
        · refine sw_iload_n 2 dX0_setRule_75 rfl rfl ?_
          refine sw_iconst (1 : Int32) dX0_setRule_76 (by decide) ?_
          refine sw_bipush (52 : Int32) dX0_setRule_77 (by decide) ?_
          refine sw_callNi (As := [.int x2, .int (1 : Int32), .int (52 : Int32)]) (host := "BallotFruit") rfl dX0_setRule_79 (by decide +kernel) mf_X10_isWithin (by decide) (Nat.le_of_ble_eq_true rfl) (fun l => c_X10_isWithin l x2 (1 : Int32) (52 : Int32) u_3 ) (fun r u_4 => ?_)
          refine sw_if_eq 93 dX0_setRule_82 (by decide) ?_ ?_
          · refine sw_iconst (0 : Int32) dX0_setRule_93 (by decide) ?_
            exact sw_zret0 dX0_setRule_94
          · refine sw_aload_n 0 dX0_setRule_85 rfl rfl ?_
            refine sw_iload_n 2 dX0_setRule_86 rfl rfl ?_
            refine sw_puti q_cl0 5 dX0_setRule_87 t_55 (by decide) (by decide +kernel) rfl h0.1 rfl (fun u_5 => ?_)
            refine sw_goto 95 dX0_setRule_90 (by decide) ?_
            refine sw_iconst (1 : Int32) dX0_setRule_95 (by decide) ?_
            exact sw_zret1 dX0_setRule_96
        · refine sw_iconst (0 : Int32) dX0_setRule_93 (by decide) ?_
          exact sw_zret0 dX0_setRule_94
      · refine sw_icmp_ne 70 dX0_setRule_49 (by decide) ?_ ?_
        · refine sw_iload_n 2 dX0_setRule_52 rfl rfl ?_
          refine sw_iconst (1 : Int32) dX0_setRule_53 (by decide) ?_
          refine sw_bipush (99 : Int32) dX0_setRule_54 (by decide) ?_
          refine sw_callNi (As := [.int x2, .int (1 : Int32), .int (99 : Int32)]) (host := "BallotFruit") rfl dX0_setRule_56 (by decide +kernel) mf_X10_isWithin (by decide) (Nat.le_of_ble_eq_true rfl) (fun l => c_X10_isWithin l x2 (1 : Int32) (99 : Int32) u_2 ) (fun r_6 u_7 => ?_)
          refine sw_if_eq 70 dX0_setRule_59 (by decide) ?_ ?_
          · exact SW.sub [0, 1, 2] rfl (hJ70  u_7)
          · refine sw_aload_n 0 dX0_setRule_62 rfl rfl ?_
            refine sw_iload_n 2 dX0_setRule_63 rfl rfl ?_
            refine sw_puti q_cl0 4 dX0_setRule_64 t_53 (by decide) (by decide +kernel) rfl h0.1 rfl (fun u_8 => ?_)
            refine sw_goto 95 dX0_setRule_67 (by decide) ?_
            refine sw_iconst (1 : Int32) dX0_setRule_95 (by decide) ?_
            exact sw_zret1 dX0_setRule_96
        · exact SW.sub [0, 1, 2] rfl (hJ70  u_2)
    · refine sw_icmp_ne 47 dX0_setRule_25 (by decide) ?_ ?_
      · refine sw_iload_n 2 dX0_setRule_28 rfl rfl ?_
        refine sw_iconst (0 : Int32) dX0_setRule_29 (by decide) ?_
        refine sw_sipush (1000 : Int32) dX0_setRule_30 (by decide) ?_
        refine sw_callNi (As := [.int x2, .int (0 : Int32), .int (1000 : Int32)]) (host := "BallotFruit") rfl dX0_setRule_33 (by decide +kernel) mf_X10_isWithin (by decide) (Nat.le_of_ble_eq_true rfl) (fun l => c_X10_isWithin l x2 (0 : Int32) (1000 : Int32) u_1 ) (fun r_9 u_10 => ?_)
        refine sw_if_eq 47 dX0_setRule_36 (by decide) ?_ ?_
        · exact SW.sub [0, 1, 2] rfl (hJ47  u_10)
        · refine sw_aload_n 0 dX0_setRule_39 rfl rfl ?_
          refine sw_iload_n 2 dX0_setRule_40 rfl rfl ?_
          refine sw_puti q_cl0 3 dX0_setRule_41 t_50 (by decide) (by decide +kernel) rfl h0.1 rfl (fun u_11 => ?_)
          refine sw_goto 95 dX0_setRule_44 (by decide) ?_
          refine sw_iconst (1 : Int32) dX0_setRule_95 (by decide) ?_
          exact sw_zret1 dX0_setRule_96
      · exact SW.sub [0, 1, 2] rfl (hJ47  u_1)
  · refine sw_if_ne 23 dX0_setRule_1 (by decide) ?_ ?_
    · refine sw_iload_n 2 dX0_setRule_4 rfl rfl ?_
      refine sw_iconst (0 : Int32) dX0_setRule_5 (by decide) ?_
      refine sw_sipush (1000 : Int32) dX0_setRule_6 (by decide) ?_
      refine sw_callNi (As := [.int x2, .int (0 : Int32), .int (1000 : Int32)]) (host := "BallotFruit") rfl dX0_setRule_9 (by decide +kernel) mf_X10_isWithin (by decide) (Nat.le_of_ble_eq_true rfl) (fun l => c_X10_isWithin l x2 (0 : Int32) (1000 : Int32) u ) (fun r_12 u_13 => ?_)
      refine sw_if_eq 23 dX0_setRule_12 (by decide) ?_ ?_
      · exact SW.sub [0, 1, 2] rfl (hJ23  u_13)
      · refine sw_aload_n 0 dX0_setRule_15 rfl rfl ?_
        refine sw_iload_n 2 dX0_setRule_16 rfl rfl ?_
        refine sw_puti q_cl0 2 dX0_setRule_17 t_47 (by decide) (by decide +kernel) rfl h0.1 rfl (fun u_14 => ?_)
        refine sw_goto 95 dX0_setRule_20 (by decide) ?_
        refine sw_iconst (1 : Int32) dX0_setRule_95 (by decide) ?_
        exact sw_zret1 dX0_setRule_96
    · exact SW.sub [0, 1, 2] rfl (hJ23  u)
set_option maxRecDepth 100000 in
theorem c_X0_isTree (l : Launch) {ι : qI} {b : Nat} (k : Nat) (x1 : Int32) (u : qS) (h0 : is_X0 ι k) : CN l yX0_isTree cX0_isTree 2 (some .boolean) 1 ι b [.ref (b + k), .int x1] u (m_X0_isTree k x1 u) := by
  refine CN.of_SW (own := RX0) rfl (by decide) (Nat.le_of_ble_eq_true rfl) [(0, .ref (b + k)), (1, .int x1)] rfl ?_
  unfold m_X0_isTree
  refine sw_iload_n 1 dX0_isTree_0 rfl rfl ?_
  refine sw_if_lt 16 dX0_isTree_1 (by decide) ?_ ?_
  · refine sw_iconst (0 : Int32) dX0_isTree_16 (by decide) ?_
    exact sw_zret0 dX0_isTree_17
  · refine sw_iload_n 1 dX0_isTree_4 rfl rfl ?_
    refine sw_aload_n 0 dX0_isTree_5 rfl rfl ?_
    refine sw_geti q_cl0 8 dX0_isTree_6 t_64 (by decide) h0.1 rfl ?_
    refine sw_icmp_ge 16 dX0_isTree_9 (by decide) ?_ ?_
    · refine sw_iconst (0 : Int32) dX0_isTree_16 (by decide) ?_
      exact sw_zret0 dX0_isTree_17
    · refine sw_iconst (1 : Int32) dX0_isTree_12 (by decide) ?_
      refine sw_goto 17 dX0_isTree_13 (by decide) ?_
      exact sw_zret1 dX0_isTree_17
set_option maxRecDepth 100000 in
theorem c_X0_setValue (l : Launch) {ι : qI} {b : Nat} (k : Nat) (x1 : Int32) (x2 : Int32) (x3 : Int32) (u : qS) (h0 : is_X0 ι k) : CN l yX0_setValue cX0_setValue 4 (some .boolean) 2 ι b [.ref (b + k), .int x1, .int x2, .int x3] u (m_X0_setValue k x1 x2 x3 u) := by
  refine CN.of_SW (own := RX0) rfl (by decide) (Nat.le_of_ble_eq_true rfl) [(0, .ref (b + k)), (1, .int x1), (2, .int x2), (3, .int x3)] rfl ?_
  unfold m_X0_setValue
  refine sw_iload_n 1 dX0_setValue_0 rfl rfl ?_
  refine sw_iconst (4 : Int32) dX0_setValue_1 (by decide) ?_
  refine SW.jn0 33 ([(0, .ref (b + k)), (1, .int x1), (2, .int x2), (3, .int x3)]) ([]) (fun  u_1 => ?_) (fun J33 hJ33 => ?_)
  · refine sw_iload_n 1 dX0_setValue_33 rfl rfl ?_
    refine sw_iconst (5 : Int32) dX0_setValue_34 (by decide) ?_
    refine SW.jn0 66 ([(0, .ref (b + k)), (1, .int x1), (2, .int x2), (3, .int x3)]) ([]) (fun  u_2 => ?_) (fun J66 hJ66 => ?_)
    · refine sw_iload_n 1 dX0_setValue_66 rfl rfl ?_
      refine sw_bipush (6 : Int32) dX0_setValue_67 (by decide) ?_
      refine SW.jn0 101 ([(0, .ref (b + k)), (1, .int x1), (2, .int x2), (3, .int x3)]) ([]) (fun  u_3 => ?_) (fun J101 hJ101 => ?_)
      · refine sw_iload_n 1 dX0_setValue_101 rfl rfl ?_
        refine sw_bipush (7 : Int32) dX0_setValue_102 (by decide) ?_
        refine sw_icmp_ne 136 dX0_setValue_104 (by decide) ?_ ?_
        · refine sw_aload_n 0 dX0_setValue_107 rfl rfl ?_
          refine sw_iload_n 2 dX0_setValue_108 rfl rfl ?_
          refine sw_callVi (As := [.int x2]) (k := k) rfl dX0_setValue_109 t_502 mf_X0_isParty h0.1 q_cl0 (by decide) (Nat.le_of_ble_eq_true rfl) (fun l => c_X0_isParty l k x2 u_3 h0) (fun r u_4 => ?_)
          refine sw_if_eq 136 dX0_setValue_112 (by decide) ?_ ?_
          · refine sw_iconst (0 : Int32) dX0_setValue_136 (by decide) ?_
            exact sw_zret0 dX0_setValue_137
          · refine sw_iload_n 3 dX0_setValue_115 rfl rfl ?_
            refine sw_iconst (0 : Int32) dX0_setValue_116 (by decide) ?_
            refine sw_sipush (9999 : Int32) dX0_setValue_117 (by decide) ?_
            refine sw_callNi (As := [.int x3, .int (0 : Int32), .int (9999 : Int32)]) (host := "BallotFruit") rfl dX0_setValue_120 (by decide +kernel) mf_X10_isWithin (by decide) (Nat.le_of_ble_eq_true rfl) (fun l => c_X10_isWithin l x3 (0 : Int32) (9999 : Int32) u_4 ) (fun r_5 u_6 => ?_)
            refine sw_if_eq 136 dX0_setValue_123 (by decide) ?_ ?_
            · refine sw_iconst (0 : Int32) dX0_setValue_136 (by decide) ?_
              exact sw_zret0 dX0_setValue_137
            · refine sw_aload_n 0 dX0_setValue_126 rfl rfl ?_
              refine sw_getr q_cl0 12 (r := (k + 2)) dX0_setValue_127 t_75 (by decide) h0.1 rfl ?_
              refine sw_iload_n 2 dX0_setValue_130 rfl rfl ?_
              refine sw_iload_n 3 dX0_setValue_131 rfl rfl ?_
              refine sw_iast dX0_setValue_132 h0.2.2.1 (fun u_7 => ?_)
              refine sw_goto 138 dX0_setValue_133 (by decide) ?_
              refine sw_iconst (1 : Int32) dX0_setValue_138 (by decide) ?_
              exact sw_zret1 dX0_setValue_139
        · refine sw_iconst (0 : Int32) dX0_setValue_136 (by decide) ?_
          exact sw_zret0 dX0_setValue_137
      · refine sw_icmp_ne 101 dX0_setValue_69 (by decide) ?_ ?_
        · refine sw_aload_n 0 dX0_setValue_72 rfl rfl ?_
          refine sw_iload_n 2 dX0_setValue_73 rfl rfl ?_
          refine sw_callVi (As := [.int x2]) (k := k) rfl dX0_setValue_74 t_502 mf_X0_isParty h0.1 q_cl0 (by decide) (Nat.le_of_ble_eq_true rfl) (fun l => c_X0_isParty l k x2 u_2 h0) (fun r_8 u_9 => ?_)
          refine sw_if_eq 101 dX0_setValue_77 (by decide) ?_ ?_
          · exact SW.sub [0, 1, 2, 3] rfl (hJ101  u_9)
          · refine sw_iload_n 3 dX0_setValue_80 rfl rfl ?_
            refine sw_iconst (0 : Int32) dX0_setValue_81 (by decide) ?_
            refine sw_sipush (999 : Int32) dX0_setValue_82 (by decide) ?_
            refine sw_callNi (As := [.int x3, .int (0 : Int32), .int (999 : Int32)]) (host := "BallotFruit") rfl dX0_setValue_85 (by decide +kernel) mf_X10_isWithin (by decide) (Nat.le_of_ble_eq_true rfl) (fun l => c_X10_isWithin l x3 (0 : Int32) (999 : Int32) u_9 ) (fun r_10 u_11 => ?_)
            refine sw_if_eq 101 dX0_setValue_88 (by decide) ?_ ?_
            · exact SW.sub [0, 1, 2, 3] rfl (hJ101  u_11)
            · refine sw_aload_n 0 dX0_setValue_91 rfl rfl ?_
              refine sw_getr q_cl0 11 (r := (k + 1)) dX0_setValue_92 t_72 (by decide) h0.1 rfl ?_
              refine sw_iload_n 2 dX0_setValue_95 rfl rfl ?_
              refine sw_iload_n 3 dX0_setValue_96 rfl rfl ?_
              refine sw_iast dX0_setValue_97 h0.2.1 (fun u_12 => ?_)
              refine sw_goto 138 dX0_setValue_98 (by decide) ?_
              refine sw_iconst (1 : Int32) dX0_setValue_138 (by decide) ?_
              exact sw_zret1 dX0_setValue_139
        · exact SW.sub [0, 1, 2, 3] rfl (hJ101  u_2)
    · refine sw_icmp_ne 66 dX0_setValue_35 (by decide) ?_ ?_
      · refine sw_aload_n 0 dX0_setValue_38 rfl rfl ?_
        refine sw_iload_n 2 dX0_setValue_39 rfl rfl ?_
        refine sw_callVi (As := [.int x2]) (k := k) rfl dX0_setValue_40 t_501 mf_X0_isEater h0.1 q_cl0 (by decide) (Nat.le_of_ble_eq_true rfl) (fun l => c_X0_isEater l k x2 u_1 h0) (fun r_13 u_14 => ?_)
        refine sw_if_eq 66 dX0_setValue_43 (by decide) ?_ ?_
        · exact SW.sub [0, 1, 2, 3] rfl (hJ66  u_14)
        · refine sw_iload_n 3 dX0_setValue_46 rfl rfl ?_
          refine sw_iconst (0 : Int32) dX0_setValue_47 (by decide) ?_
          refine sw_bipush (20 : Int32) dX0_setValue_48 (by decide) ?_
          refine sw_callNi (As := [.int x3, .int (0 : Int32), .int (20 : Int32)]) (host := "BallotFruit") rfl dX0_setValue_50 (by decide +kernel) mf_X10_isWithin (by decide) (Nat.le_of_ble_eq_true rfl) (fun l => c_X10_isWithin l x3 (0 : Int32) (20 : Int32) u_14 ) (fun r_15 u_16 => ?_)
          refine sw_if_eq 66 dX0_setValue_53 (by decide) ?_ ?_
          · exact SW.sub [0, 1, 2, 3] rfl (hJ66  u_16)
          · refine sw_aload_n 0 dX0_setValue_56 rfl rfl ?_
            refine sw_getr q_cl0 18 (r := (k + 8)) dX0_setValue_57 t_96 (by decide) h0.1 rfl ?_
            refine sw_iload_n 2 dX0_setValue_60 rfl rfl ?_
            refine sw_iload_n 3 dX0_setValue_61 rfl rfl ?_
            refine sw_iast dX0_setValue_62 h0.2.2.2.2.2.2.2.2.1 (fun u_17 => ?_)
            refine sw_goto 138 dX0_setValue_63 (by decide) ?_
            refine sw_iconst (1 : Int32) dX0_setValue_138 (by decide) ?_
            exact sw_zret1 dX0_setValue_139
      · exact SW.sub [0, 1, 2, 3] rfl (hJ66  u_1)
  · refine sw_icmp_ne 33 dX0_setValue_2 (by decide) ?_ ?_
    · refine sw_aload_n 0 dX0_setValue_5 rfl rfl ?_
      refine sw_iload_n 2 dX0_setValue_6 rfl rfl ?_
      refine sw_callVi (As := [.int x2]) (k := k) rfl dX0_setValue_7 t_497 mf_X0_isTree h0.1 q_cl0 (by decide) (Nat.le_of_ble_eq_true rfl) (fun l => c_X0_isTree l k x2 u h0) (fun r_18 u_19 => ?_)
      refine sw_if_eq 33 dX0_setValue_10 (by decide) ?_ ?_
      · exact SW.sub [0, 1, 2, 3] rfl (hJ33  u_19)
      · refine sw_iload_n 3 dX0_setValue_13 rfl rfl ?_
        refine sw_iconst (0 : Int32) dX0_setValue_14 (by decide) ?_
        refine sw_bipush (99 : Int32) dX0_setValue_15 (by decide) ?_
        refine sw_callNi (As := [.int x3, .int (0 : Int32), .int (99 : Int32)]) (host := "BallotFruit") rfl dX0_setValue_17 (by decide +kernel) mf_X10_isWithin (by decide) (Nat.le_of_ble_eq_true rfl) (fun l => c_X10_isWithin l x3 (0 : Int32) (99 : Int32) u_19 ) (fun r_20 u_21 => ?_)
        refine sw_if_eq 33 dX0_setValue_20 (by decide) ?_ ?_
        · exact SW.sub [0, 1, 2, 3] rfl (hJ33  u_21)
        · refine sw_aload_n 0 dX0_setValue_23 rfl rfl ?_
          refine sw_getr q_cl0 17 (r := (k + 7)) dX0_setValue_24 t_92 (by decide) h0.1 rfl ?_
          refine sw_iload_n 2 dX0_setValue_27 rfl rfl ?_
          refine sw_iload_n 3 dX0_setValue_28 rfl rfl ?_
          refine sw_iast dX0_setValue_29 h0.2.2.2.2.2.2.2.1 (fun u_22 => ?_)
          refine sw_goto 138 dX0_setValue_30 (by decide) ?_
          refine sw_iconst (1 : Int32) dX0_setValue_138 (by decide) ?_
          exact sw_zret1 dX0_setValue_139
    · exact SW.sub [0, 1, 2, 3] rfl (hJ33  u)
set_option maxRecDepth 100000 in
theorem c_X10_set (l : Launch) {ι : qI} {b : Nat}  (x1 : Int32) (x2 : Int32) (x3 : Int32) (u : qS) (h0 : is_X10 ι) : CN l yX10_set cX10_set 5 (some .boolean) 3 ι b [.ref (b + 0), .int x1, .int x2, .int x3] u (m_X10_set x1 x2 x3 u) := by
  refine CN.of_SW (own := RX10) rfl (by decide) (Nat.le_of_ble_eq_true rfl) [(0, .ref (b + 0)), (1, .int x1), (2, .int x2), (3, .int x3)] rfl ?_
  unfold m_X10_set
  refine sw_iload_n 1 dX10_set_0 rfl rfl ?_
  refine sw_iconst (4 : Int32) dX10_set_1 (by decide) ?_
  refine SW.jn1 27 (fun s0 => [(0, .ref (b + 0))]) (fun s0 => [.int s0]) (fun s0 u_1 => ?_) (fun J27 hJ27 => ?_)
  · refine sw_istore (lv' := [(4, .int s0), (0, .ref (b + 0))]) dX10_set_27 (by decide) rfl ?_
    refine sw_iload 0 dX10_set_29 rfl ?_
    refine sw_if_eq 38 dX10_set_31 (by decide) ?_ ?_
    · refine sw_iload 0 dX10_set_38 rfl ?_
      exact sw_zret dX10_set_40
    · refine sw_aload_n 1 dX10_set_34 rfl rfl ?_
      refine sw_callVv (As := []) (k := 0) rfl dX10_set_35 t_449 mf_X10_forget h0.1 q_cl10 (by decide) (Nat.le_of_ble_eq_true rfl) (fun l => c_X10_forget l  u_1 h0) (fun _ u_2 => ?_)
      refine sw_iload 0 dX10_set_38 rfl ?_
      exact sw_zret dX10_set_40
  · refine sw_icmp_ge 17 dX10_set_2 (by decide) ?_ ?_
    · refine sw_aload_n 0 dX10_set_17 rfl rfl ?_
      refine sw_getr q_cl10 1 (r := 2) dX10_set_18 t_405 (by decide) h0.1 rfl ?_
      refine sw_iload_n 1 dX10_set_21 rfl rfl ?_
      refine sw_iload_n 2 dX10_set_22 rfl rfl ?_
      refine sw_iload_n 3 dX10_set_23 rfl rfl ?_
      refine sw_callVi (As := [.int x1, .int x2, .int x3]) (k := 2) rfl dX10_set_24 t_493 mf_X0_setValue h0.2.2.1.1 q_cl0 (by decide) (Nat.le_of_ble_eq_true rfl) (fun l => c_X0_setValue l 2 x1 x2 x3 u h0.2.2.1) (fun r u_3 => ?_)
      exact SW.sub [0] rfl (hJ27 r u_3)
    · refine sw_aload_n 0 dX10_set_5 rfl rfl ?_
      refine sw_getr q_cl10 1 (r := 2) dX10_set_6 t_405 (by decide) h0.1 rfl ?_
      refine sw_iload_n 1 dX10_set_9 rfl rfl ?_
      refine sw_iload_n 3 dX10_set_10 rfl rfl ?_
      refine sw_callVi (As := [.int x1, .int x3]) (k := 2) rfl dX10_set_11 t_488 mf_X0_setRule h0.2.2.1.1 q_cl0 (by decide) (Nat.le_of_ble_eq_true rfl) (fun l => c_X0_setRule l 2 x1 x3 u h0.2.2.1) (fun r_4 u_5 => ?_)
      refine sw_goto 27 dX10_set_14 (by decide) ?_
      exact SW.sub [0] rfl (hJ27 r_4 u_5)
set_option maxRecDepth 100000 in
theorem c_X10_isPlace (l : Launch) {ι : qI} {b : Nat}  (x0 : Int32) (u : qS)  : CN l yX10_isPlace cX10_isPlace 1 (some .boolean) 1 ι b [.int x0] u (m_X10_isPlace x0 u) := by
  refine CN.of_SW (own := RX10) rfl (by decide) (Nat.le_of_ble_eq_true rfl) [(0, .int x0)] rfl ?_
  unfold m_X10_isPlace
  refine sw_iload_n 0 dX10_isPlace_0 rfl rfl ?_
  refine sw_if_lt 14 dX10_isPlace_1 (by decide) ?_ ?_
  · refine sw_iconst (0 : Int32) dX10_isPlace_14 (by decide) ?_
    exact sw_zret0 dX10_isPlace_15
  · refine sw_iload_n 0 dX10_isPlace_4 rfl rfl ?_
    refine sw_bipush (10 : Int32) dX10_isPlace_5 (by decide) ?_
    refine sw_icmp_ge 14 dX10_isPlace_7 (by decide) ?_ ?_
    · refine sw_iconst (0 : Int32) dX10_isPlace_14 (by decide) ?_
      exact sw_zret0 dX10_isPlace_15
    · refine sw_iconst (1 : Int32) dX10_isPlace_10 (by decide) ?_
      refine sw_goto 15 dX10_isPlace_11 (by decide) ?_
      exact sw_zret1 dX10_isPlace_15
set_option maxRecDepth 100000 in
theorem c_X0_copyFrom (l : Launch) {ι : qI} {b : Nat} (k : Nat) (k1 : Nat)  (u : qS) (h0 : is_X0 ι k) (h1 : is_X0 ι k1) : CN l yX0_copyFrom cX0_copyFrom 2 none 1 ι b [.ref (b + k), .ref (b + k1)] u (m_X0_copyFrom k k1 u) := by
  refine CN.of_SW (own := RX0) rfl (by decide) (Nat.le_of_ble_eq_true rfl) [(0, .ref (b + k)), (1, .ref (b + k1))] rfl ?_
  unfold m_X0_copyFrom
  refine sw_aload_n 0 dX0_copyFrom_0 rfl rfl ?_
  refine sw_aload_n 1 dX0_copyFrom_1 rfl rfl ?_
  refine sw_geti q_cl0 0 dX0_copyFrom_2 t_40 (by decide) h1.1 rfl ?_
  refine sw_puti q_cl0 0 dX0_copyFrom_5 t_40 (by decide) (by decide +kernel) rfl h0.1 rfl (fun u_1 => ?_)
  refine sw_aload_n 0 dX0_copyFrom_8 rfl rfl ?_
  refine sw_aload_n 1 dX0_copyFrom_9 rfl rfl ?_
  refine sw_geti q_cl0 1 dX0_copyFrom_10 t_46 (by decide) h1.1 rfl ?_
  refine sw_puti q_cl0 1 dX0_copyFrom_13 t_46 (by decide) (by decide +kernel) rfl h0.1 rfl (fun u_2 => ?_)
  refine sw_aload_n 0 dX0_copyFrom_16 rfl rfl ?_
  refine sw_aload_n 1 dX0_copyFrom_17 rfl rfl ?_
  refine sw_geti q_cl0 2 dX0_copyFrom_18 t_47 (by decide) h1.1 rfl ?_
  refine sw_puti q_cl0 2 dX0_copyFrom_21 t_47 (by decide) (by decide +kernel) rfl h0.1 rfl (fun u_3 => ?_)
  refine sw_aload_n 0 dX0_copyFrom_24 rfl rfl ?_
  refine sw_aload_n 1 dX0_copyFrom_25 rfl rfl ?_
  refine sw_geti q_cl0 3 dX0_copyFrom_26 t_50 (by decide) h1.1 rfl ?_
  refine sw_puti q_cl0 3 dX0_copyFrom_29 t_50 (by decide) (by decide +kernel) rfl h0.1 rfl (fun u_4 => ?_)
  refine sw_aload_n 0 dX0_copyFrom_32 rfl rfl ?_
  refine sw_aload_n 1 dX0_copyFrom_33 rfl rfl ?_
  refine sw_geti q_cl0 4 dX0_copyFrom_34 t_53 (by decide) h1.1 rfl ?_
  refine sw_puti q_cl0 4 dX0_copyFrom_37 t_53 (by decide) (by decide +kernel) rfl h0.1 rfl (fun u_5 => ?_)
  refine sw_aload_n 0 dX0_copyFrom_40 rfl rfl ?_
  refine sw_aload_n 1 dX0_copyFrom_41 rfl rfl ?_
  refine sw_geti q_cl0 5 dX0_copyFrom_42 t_55 (by decide) h1.1 rfl ?_
  refine sw_puti q_cl0 5 dX0_copyFrom_45 t_55 (by decide) (by decide +kernel) rfl h0.1 rfl (fun u_6 => ?_)
  refine sw_aload_n 0 dX0_copyFrom_48 rfl rfl ?_
  refine sw_aload_n 1 dX0_copyFrom_49 rfl rfl ?_
  refine sw_geti q_cl0 6 dX0_copyFrom_50 t_58 (by decide) h1.1 rfl ?_
  refine sw_puti q_cl0 6 dX0_copyFrom_53 t_58 (by decide) (by decide +kernel) rfl h0.1 rfl (fun u_7 => ?_)
  refine sw_aload_n 0 dX0_copyFrom_56 rfl rfl ?_
  refine sw_aload_n 1 dX0_copyFrom_57 rfl rfl ?_
  refine sw_geti q_cl0 7 dX0_copyFrom_58 t_60 (by decide) h1.1 rfl ?_
  refine sw_puti q_cl0 7 dX0_copyFrom_61 t_60 (by decide) (by decide +kernel) rfl h0.1 rfl (fun u_8 => ?_)
  refine sw_aload_n 0 dX0_copyFrom_64 rfl rfl ?_
  refine sw_aload_n 1 dX0_copyFrom_65 rfl rfl ?_
  refine sw_geti q_cl0 8 dX0_copyFrom_66 t_64 (by decide) h1.1 rfl ?_
  refine sw_puti q_cl0 8 dX0_copyFrom_69 t_64 (by decide) (by decide +kernel) rfl h0.1 rfl (fun u_9 => ?_)
  refine sw_aload_n 0 dX0_copyFrom_72 rfl rfl ?_
  refine sw_aload_n 1 dX0_copyFrom_73 rfl rfl ?_
  refine sw_geti q_cl0 9 dX0_copyFrom_74 t_67 (by decide) h1.1 rfl ?_
  refine sw_puti q_cl0 9 dX0_copyFrom_77 t_67 (by decide) (by decide +kernel) rfl h0.1 rfl (fun u_10 => ?_)
  refine sw_aload_n 0 dX0_copyFrom_80 rfl rfl ?_
  refine sw_aload_n 1 dX0_copyFrom_81 rfl rfl ?_
  refine sw_geti q_cl0 10 dX0_copyFrom_82 t_69 (by decide) h1.1 rfl ?_
  refine sw_puti q_cl0 10 dX0_copyFrom_85 t_69 (by decide) (by decide +kernel) rfl h0.1 rfl (fun u_11 => ?_)
  refine sw_aload_n 1 dX0_copyFrom_88 rfl rfl ?_
  refine sw_getr q_cl0 11 (r := (k1 + 1)) dX0_copyFrom_89 t_72 (by decide) h1.1 rfl ?_
  refine sw_iconst (0 : Int32) dX0_copyFrom_92 (by decide) ?_
  refine sw_aload_n 0 dX0_copyFrom_93 rfl rfl ?_
  refine sw_getr q_cl0 11 (r := (k + 1)) dX0_copyFrom_94 t_72 (by decide) h0.1 rfl ?_
  refine sw_iconst (0 : Int32) dX0_copyFrom_97 (by decide) ?_
  refine sw_iconst (5 : Int32) dX0_copyFrom_98 (by decide) ?_
  refine sw_copy dX0_copyFrom_99 t_518 t_520 t_519 t_13 h1.2.1 h0.2.1 (by decide) (by decide) (by decide) (by decide +kernel) (fun u_12 => ?_)
  refine sw_aload_n 1 dX0_copyFrom_102 rfl rfl ?_
  refine sw_getr q_cl0 12 (r := (k1 + 2)) dX0_copyFrom_103 t_75 (by decide) h1.1 rfl ?_
  refine sw_iconst (0 : Int32) dX0_copyFrom_106 (by decide) ?_
  refine sw_aload_n 0 dX0_copyFrom_107 rfl rfl ?_
  refine sw_getr q_cl0 12 (r := (k + 2)) dX0_copyFrom_108 t_75 (by decide) h0.1 rfl ?_
  refine sw_iconst (0 : Int32) dX0_copyFrom_111 (by decide) ?_
  refine sw_iconst (5 : Int32) dX0_copyFrom_112 (by decide) ?_
  refine sw_copy dX0_copyFrom_113 t_518 t_520 t_519 t_13 h1.2.2.1 h0.2.2.1 (by decide) (by decide) (by decide) (by decide +kernel) (fun u_13 => ?_)
  refine sw_aload_n 1 dX0_copyFrom_116 rfl rfl ?_
  refine sw_getr q_cl0 13 (r := (k1 + 3)) dX0_copyFrom_117 t_78 (by decide) h1.1 rfl ?_
  refine sw_iconst (0 : Int32) dX0_copyFrom_120 (by decide) ?_
  refine sw_aload_n 0 dX0_copyFrom_121 rfl rfl ?_
  refine sw_getr q_cl0 13 (r := (k + 3)) dX0_copyFrom_122 t_78 (by decide) h0.1 rfl ?_
  refine sw_iconst (0 : Int32) dX0_copyFrom_125 (by decide) ?_
  refine sw_iconst (5 : Int32) dX0_copyFrom_126 (by decide) ?_
  refine sw_copy dX0_copyFrom_127 t_518 t_520 t_519 t_13 h1.2.2.2.1 h0.2.2.2.1 (by decide) (by decide) (by decide) (by decide +kernel) (fun u_14 => ?_)
  refine sw_aload_n 1 dX0_copyFrom_130 rfl rfl ?_
  refine sw_getr q_cl0 14 (r := (k1 + 4)) dX0_copyFrom_131 t_82 (by decide) h1.1 rfl ?_
  refine sw_iconst (0 : Int32) dX0_copyFrom_134 (by decide) ?_
  refine sw_aload_n 0 dX0_copyFrom_135 rfl rfl ?_
  refine sw_getr q_cl0 14 (r := (k + 4)) dX0_copyFrom_136 t_82 (by decide) h0.1 rfl ?_
  refine sw_iconst (0 : Int32) dX0_copyFrom_139 (by decide) ?_
  refine sw_bipush (14 : Int32) dX0_copyFrom_140 (by decide) ?_
  refine sw_copy dX0_copyFrom_142 t_518 t_520 t_519 t_13 h1.2.2.2.2.1 h0.2.2.2.2.1 (by decide) (by decide) (by decide) (by decide +kernel) (fun u_15 => ?_)
  refine sw_aload_n 1 dX0_copyFrom_145 rfl rfl ?_
  refine sw_getr q_cl0 15 (r := (k1 + 5)) dX0_copyFrom_146 t_86 (by decide) h1.1 rfl ?_
  refine sw_iconst (0 : Int32) dX0_copyFrom_149 (by decide) ?_
  refine sw_aload_n 0 dX0_copyFrom_150 rfl rfl ?_
  refine sw_getr q_cl0 15 (r := (k + 5)) dX0_copyFrom_151 t_86 (by decide) h0.1 rfl ?_
  refine sw_iconst (0 : Int32) dX0_copyFrom_154 (by decide) ?_
  refine sw_bipush (14 : Int32) dX0_copyFrom_155 (by decide) ?_
  refine sw_copy dX0_copyFrom_157 t_518 t_520 t_519 t_13 h1.2.2.2.2.2.1 h0.2.2.2.2.2.1 (by decide) (by decide) (by decide) (by decide +kernel) (fun u_16 => ?_)
  refine sw_aload_n 1 dX0_copyFrom_160 rfl rfl ?_
  refine sw_getr q_cl0 16 (r := (k1 + 6)) dX0_copyFrom_161 t_89 (by decide) h1.1 rfl ?_
  refine sw_iconst (0 : Int32) dX0_copyFrom_164 (by decide) ?_
  refine sw_aload_n 0 dX0_copyFrom_165 rfl rfl ?_
  refine sw_getr q_cl0 16 (r := (k + 6)) dX0_copyFrom_166 t_89 (by decide) h0.1 rfl ?_
  refine sw_iconst (0 : Int32) dX0_copyFrom_169 (by decide) ?_
  refine sw_bipush (14 : Int32) dX0_copyFrom_170 (by decide) ?_
  refine sw_copy dX0_copyFrom_172 t_518 t_520 t_519 t_13 h1.2.2.2.2.2.2.1 h0.2.2.2.2.2.2.1 (by decide) (by decide) (by decide) (by decide +kernel) (fun u_17 => ?_)
  refine sw_aload_n 1 dX0_copyFrom_175 rfl rfl ?_
  refine sw_getr q_cl0 17 (r := (k1 + 7)) dX0_copyFrom_176 t_92 (by decide) h1.1 rfl ?_
  refine sw_iconst (0 : Int32) dX0_copyFrom_179 (by decide) ?_
  refine sw_aload_n 0 dX0_copyFrom_180 rfl rfl ?_
  refine sw_getr q_cl0 17 (r := (k + 7)) dX0_copyFrom_181 t_92 (by decide) h0.1 rfl ?_
  refine sw_iconst (0 : Int32) dX0_copyFrom_184 (by decide) ?_
  refine sw_bipush (14 : Int32) dX0_copyFrom_185 (by decide) ?_
  refine sw_copy dX0_copyFrom_187 t_518 t_520 t_519 t_13 h1.2.2.2.2.2.2.2.1 h0.2.2.2.2.2.2.2.1 (by decide) (by decide) (by decide) (by decide +kernel) (fun u_18 => ?_)
  refine sw_aload_n 1 dX0_copyFrom_190 rfl rfl ?_
  refine sw_getr q_cl0 18 (r := (k1 + 8)) dX0_copyFrom_191 t_96 (by decide) h1.1 rfl ?_
  refine sw_iconst (0 : Int32) dX0_copyFrom_194 (by decide) ?_
  refine sw_aload_n 0 dX0_copyFrom_195 rfl rfl ?_
  refine sw_getr q_cl0 18 (r := (k + 8)) dX0_copyFrom_196 t_96 (by decide) h0.1 rfl ?_
  refine sw_iconst (0 : Int32) dX0_copyFrom_199 (by decide) ?_
  refine sw_bipush (10 : Int32) dX0_copyFrom_200 (by decide) ?_
  refine sw_copy dX0_copyFrom_202 t_518 t_520 t_519 t_13 h1.2.2.2.2.2.2.2.2.1 h0.2.2.2.2.2.2.2.2.1 (by decide) (by decide) (by decide) (by decide +kernel) (fun u_19 => ?_)
  refine sw_aload_n 1 dX0_copyFrom_205 rfl rfl ?_
  refine sw_getr q_cl0 19 (r := (k1 + 9)) dX0_copyFrom_206 t_100 (by decide) h1.1 rfl ?_
  refine sw_iconst (0 : Int32) dX0_copyFrom_209 (by decide) ?_
  refine sw_aload_n 0 dX0_copyFrom_210 rfl rfl ?_
  refine sw_getr q_cl0 19 (r := (k + 9)) dX0_copyFrom_211 t_100 (by decide) h0.1 rfl ?_
  refine sw_iconst (0 : Int32) dX0_copyFrom_214 (by decide) ?_
  refine sw_bipush (50 : Int32) dX0_copyFrom_215 (by decide) ?_
  refine sw_copy dX0_copyFrom_217 t_518 t_520 t_519 t_13 h1.2.2.2.2.2.2.2.2.2 h0.2.2.2.2.2.2.2.2.2 (by decide) (by decide) (by decide) (by decide +kernel) (fun u_20 => ?_)
  exact sw_vret dX0_copyFrom_220
set_option maxRecDepth 100000 in
theorem c_X10_keep (l : Launch) {ι : qI} {b : Nat}   (u : qS) (h0 : is_X10 ι) : CN l yX10_keep cX10_keep 1 none 2 ι b [.ref (b + 0)] u (m_X10_keep  u) := by
  refine CN.of_SW (own := RX10) rfl (by decide) (Nat.le_of_ble_eq_true rfl) [(0, .ref (b + 0))] rfl ?_
  unfold m_X10_keep
  refine sw_aload_n 0 dX10_keep_0 rfl rfl ?_
  refine sw_getr q_cl10 4 (r := 65) dX10_keep_1 t_408 (by decide) h0.1 rfl ?_
  refine sw_aload_n 0 dX10_keep_4 rfl rfl ?_
  refine sw_geti q_cl10 6 dX10_keep_5 t_410 (by decide) h0.1 rfl ?_
  refine sw_aald dX10_keep_8 h0.2.2.2.2.1 (fun j hj => ?_)
  refine sw_aload_n 0 dX10_keep_9 rfl rfl ?_
  refine sw_getr q_cl10 1 (r := 2) dX10_keep_10 t_405 (by decide) h0.1 rfl ?_
  refine sw_callVv (As := [.ref (b + 2)]) (k := (q_kp j)) rfl dX10_keep_13 t_514 mf_X0_copyFrom (h0.2.2.2.2.2.2.2.2.2.2.2.1 j hj).1 q_cl0 (by decide) (Nat.le_of_ble_eq_true rfl) (fun l => c_X0_copyFrom l (q_kp j) 2 u (h0.2.2.2.2.2.2.2.2.2.2.2.1 j hj) h0.2.2.1) (fun _ u_1 => ?_)
  refine sw_aload_n 0 dX10_keep_16 rfl rfl ?_
  refine sw_aload_n 0 dX10_keep_17 rfl rfl ?_
  refine sw_geti q_cl10 6 dX10_keep_18 t_410 (by decide) h0.1 rfl ?_
  refine sw_iconst (5 : Int32) dX10_keep_21 (by decide) ?_
  refine SW.jn1 35 (fun s0 => [(0, .ref (b + 0))]) (fun s0 => [.int s0, .ref (b + 0)]) (fun s0 u_2 => ?_) (fun J35 hJ35 => ?_)
  · refine sw_puti q_cl10 6 dX10_keep_35 t_410 (by decide) (by decide +kernel) rfl h0.1 rfl (fun u_3 => ?_)
    refine sw_aload_n 0 dX10_keep_38 rfl rfl ?_
    refine sw_bipush (6 : Int32) dX10_keep_39 (by decide) ?_
    refine sw_aload_n 0 dX10_keep_41 rfl rfl ?_
    refine sw_geti q_cl10 5 dX10_keep_42 t_409 (by decide) h0.1 rfl ?_
    refine sw_iconst (1 : Int32) dX10_keep_45 (by decide) ?_
    refine sw_iadd dX10_keep_46 ?_
    refine sw_qmin dX10_keep_47 t_521 t_522 t_14 t_523 (by decide) (Nat.le_of_ble_eq_true rfl) ?_
    refine sw_puti q_cl10 5 dX10_keep_50 t_409 (by decide) (by decide +kernel) rfl h0.1 rfl (fun u_4 => ?_)
    exact sw_vret dX10_keep_53
  · refine sw_icmp_ge 34 dX10_keep_22 (by decide) ?_ ?_
    · refine sw_iconst (0 : Int32) dX10_keep_34 (by decide) ?_
      exact SW.sub [0] rfl (hJ35 (0 : Int32) u_1)
    · refine sw_aload_n 0 dX10_keep_25 rfl rfl ?_
      refine sw_geti q_cl10 6 dX10_keep_26 t_410 (by decide) h0.1 rfl ?_
      refine sw_iconst (1 : Int32) dX10_keep_29 (by decide) ?_
      refine sw_iadd dX10_keep_30 ?_
      refine sw_goto 35 dX10_keep_31 (by decide) ?_
      exact SW.sub [0] rfl (hJ35 ((u_1.1 0 6) + (1 : Int32)) u_1)
set_option maxRecDepth 100000 in
theorem c_X0_addTree (l : Launch) {ι : qI} {b : Nat} (k : Nat) (x1 : Int32) (x2 : Int32) (x3 : Int32) (u : qS) (h0 : is_X0 ι k) : CN l yX0_addTree cX0_addTree 5 (some .int) 1 ι b [.ref (b + k), .int x1, .int x2, .int x3] u (m_X0_addTree k x1 x2 x3 u) := by
  refine CN.of_SW (own := RX0) rfl (by decide) (Nat.le_of_ble_eq_true rfl) [(0, .ref (b + k)), (1, .int x1), (2, .int x2), (3, .int x3)] rfl ?_
  unfold m_X0_addTree
  refine sw_aload_n 0 dX0_addTree_0 rfl rfl ?_
  refine sw_geti q_cl0 8 dX0_addTree_1 t_64 (by decide) h0.1 rfl ?_
  refine SW.name (fun y4 => ?_)
  refine sw_istore (lv' := [(4, .int y4), (0, .ref (b + k)), (1, .int x1), (2, .int x2), (3, .int x3)]) dX0_addTree_4 (by decide) rfl ?_
  refine sw_aload_n 1 dX0_addTree_6 rfl rfl ?_
  refine sw_getr q_cl0 14 (r := (k + 4)) dX0_addTree_7 t_82 (by decide) h0.1 rfl ?_
  refine sw_iload 0 dX0_addTree_10 rfl ?_
  refine sw_iload_n 2 dX0_addTree_12 rfl rfl ?_
  refine sw_iast dX0_addTree_13 h0.2.2.2.2.1 (fun u_1 => ?_)
  refine sw_aload_n 1 dX0_addTree_14 rfl rfl ?_
  refine sw_getr q_cl0 15 (r := (k + 5)) dX0_addTree_15 t_86 (by decide) h0.1 rfl ?_
  refine sw_iload 0 dX0_addTree_18 rfl ?_
  refine sw_iload_n 3 dX0_addTree_20 rfl rfl ?_
  refine sw_iast dX0_addTree_21 h0.2.2.2.2.2.1 (fun u_2 => ?_)
  refine sw_aload_n 1 dX0_addTree_22 rfl rfl ?_
  refine sw_getr q_cl0 16 (r := (k + 6)) dX0_addTree_23 t_89 (by decide) h0.1 rfl ?_
  refine sw_iload 0 dX0_addTree_26 rfl ?_
  refine sw_iload_n 4 dX0_addTree_28 rfl rfl ?_
  refine sw_iast dX0_addTree_29 h0.2.2.2.2.2.2.1 (fun u_3 => ?_)
  refine sw_aload_n 1 dX0_addTree_30 rfl rfl ?_
  refine sw_getr q_cl0 17 (r := (k + 7)) dX0_addTree_31 t_92 (by decide) h0.1 rfl ?_
  refine sw_iload 0 dX0_addTree_34 rfl ?_
  refine sw_iconst (0 : Int32) dX0_addTree_36 (by decide) ?_
  refine sw_iast dX0_addTree_37 h0.2.2.2.2.2.2.2.1 (fun u_4 => ?_)
  refine sw_aload_n 1 dX0_addTree_38 rfl rfl ?_
  refine sw_dup dX0_addTree_39 rfl ?_
  refine sw_geti q_cl0 8 dX0_addTree_40 t_64 (by decide) h0.1 rfl ?_
  refine sw_iconst (1 : Int32) dX0_addTree_43 (by decide) ?_
  refine sw_iadd dX0_addTree_44 ?_
  refine sw_puti q_cl0 8 dX0_addTree_45 t_64 (by decide) (by decide +kernel) rfl h0.1 rfl (fun u_5 => ?_)
  refine sw_iload 0 dX0_addTree_48 rfl ?_
  exact sw_iret dX0_addTree_50
set_option maxRecDepth 100000 in
theorem c_X3_write (l : Launch) {ι : qI} {b : Nat} (k : Nat) (k1 : Nat) (x2 : Int32) (x3 : Int32) (x4 : Int32) (u : qS) (h0 : is_X3 ι k) (h1 : is_X0 ι k1) : CN l yX3_write cX3_write 6 none 1 ι b [.ref (b + k), .ref (b + k1), .int x2, .int x3, .int x4] u (m_X3_write k k1 x2 x3 x4 u) := by
  refine CN.of_SW (own := RX3) rfl (by decide) (Nat.le_of_ble_eq_true rfl) [(0, .ref (b + k)), (1, .ref (b + k1)), (2, .int x2), (3, .int x3), (4, .int x4)] rfl ?_
  unfold m_X3_write
  refine sw_aload_n 1 dX3_write_0 rfl rfl ?_
  refine sw_geti q_cl0 10 dX3_write_1 t_70 (by decide) h1.1 rfl ?_
  refine sw_sipush (150 : Int32) dX3_write_4 (by decide) ?_
  refine sw_icmp_lt 11 dX3_write_7 (by decide) ?_ ?_
  · refine sw_aload_n 1 dX3_write_11 rfl rfl ?_
    refine sw_geti q_cl0 10 dX3_write_12 t_70 (by decide) h1.1 rfl ?_
    refine sw_iconst (4 : Int32) dX3_write_15 (by decide) ?_
    refine sw_imul dX3_write_16 ?_
    refine SW.name (fun y5 => ?_)
    refine sw_istore (lv' := [(5, .int y5), (0, .ref (b + k)), (1, .ref (b + k1)), (2, .int x2), (3, .int x3), (4, .int x4)]) dX3_write_17 (by decide) rfl ?_
    refine sw_aload_n 1 dX3_write_19 rfl rfl ?_
    refine sw_getr q_cl3 0 (r := (k + 1)) dX3_write_20 t_267 (by decide) h0.1 rfl ?_
    refine sw_iload 0 dX3_write_23 rfl ?_
    refine sw_aload_n 2 dX3_write_25 rfl rfl ?_
    refine sw_geti q_cl0 0 dX3_write_26 t_42 (by decide) h1.1 rfl ?_
    refine sw_iast dX3_write_29 h0.2 (fun u_1 => ?_)
    refine sw_aload_n 1 dX3_write_30 rfl rfl ?_
    refine sw_getr q_cl3 0 (r := (k + 1)) dX3_write_31 t_267 (by decide) h0.1 rfl ?_
    refine sw_iload 0 dX3_write_34 rfl ?_
    refine sw_iconst (1 : Int32) dX3_write_36 (by decide) ?_
    refine sw_iadd dX3_write_37 ?_
    refine sw_iload_n 3 dX3_write_38 rfl rfl ?_
    refine sw_iast dX3_write_39 h0.2 (fun u_2 => ?_)
    refine sw_aload_n 1 dX3_write_40 rfl rfl ?_
    refine sw_getr q_cl3 0 (r := (k + 1)) dX3_write_41 t_267 (by decide) h0.1 rfl ?_
    refine sw_iload 0 dX3_write_44 rfl ?_
    refine sw_iconst (2 : Int32) dX3_write_46 (by decide) ?_
    refine sw_iadd dX3_write_47 ?_
    refine sw_iload_n 4 dX3_write_48 rfl rfl ?_
    refine sw_iast dX3_write_49 h0.2 (fun u_3 => ?_)
    refine sw_aload_n 1 dX3_write_50 rfl rfl ?_
    refine sw_getr q_cl3 0 (r := (k + 1)) dX3_write_51 t_267 (by decide) h0.1 rfl ?_
    refine sw_iload 0 dX3_write_54 rfl ?_
    refine sw_iconst (3 : Int32) dX3_write_56 (by decide) ?_
    refine sw_iadd dX3_write_57 ?_
    refine sw_iload 5 dX3_write_58 rfl ?_
    refine sw_iast dX3_write_60 h0.2 (fun u_4 => ?_)
    refine sw_aload_n 2 dX3_write_61 rfl rfl ?_
    refine sw_dup dX3_write_62 rfl ?_
    refine sw_geti q_cl0 10 dX3_write_63 t_70 (by decide) h1.1 rfl ?_
    refine sw_iconst (1 : Int32) dX3_write_66 (by decide) ?_
    refine sw_iadd dX3_write_67 ?_
    refine sw_puti q_cl0 10 dX3_write_68 t_70 (by decide) (by decide +kernel) rfl h1.1 rfl (fun u_5 => ?_)
    exact sw_vret dX3_write_71
  · exact sw_vret dX3_write_10
set_option maxRecDepth 100000 in
theorem c_X10_plant (l : Launch) {ι : qI} {b : Nat}  (x1 : Int32) (x2 : Int32) (x3 : Int32) (u : qS) (h0 : is_X10 ι) : CN l yX10_plant cX10_plant 6 (some .int) 3 ι b [.ref (b + 0), .int x1, .int x2, .int x3] u (m_X10_plant x1 x2 x3 u) := by
  refine CN.of_SW (own := RX10) rfl (by decide) (Nat.le_of_ble_eq_true rfl) [(0, .ref (b + 0)), (1, .int x1), (2, .int x2), (3, .int x3)] rfl ?_
  unfold m_X10_plant
  refine sw_aload_n 0 dX10_plant_0 rfl rfl ?_
  refine sw_getr q_cl10 1 (r := 2) dX10_plant_1 t_405 (by decide) h0.1 rfl ?_
  refine sw_iload_n 1 dX10_plant_4 rfl rfl ?_
  refine sw_callVi (As := [.int x1]) (k := 2) rfl dX10_plant_5 t_480 mf_X0_isParty h0.2.2.1.1 q_cl0 (by decide) (Nat.le_of_ble_eq_true rfl) (fun l => c_X0_isParty l 2 x1 u h0.2.2.1) (fun r u_1 => ?_)
  refine SW.jn1 33 (fun s0 => [(0, .ref (b + 0)), (1, .int x1), (2, .int x2), (3, .int x3)]) (fun s0 => [.int s0]) (fun s0 u_2 => ?_) (fun J33 hJ33 => ?_)
  · refine sw_istore (lv' := [(4, .int s0), (0, .ref (b + 0)), (1, .int x1), (2, .int x2), (3, .int x3)]) dX10_plant_33 (by decide) rfl ?_
    refine sw_iload 0 dX10_plant_35 rfl ?_
    refine sw_if_eq 52 dX10_plant_37 (by decide) ?_ ?_
    · refine sw_iconst (-1 : Int32) dX10_plant_52 (by decide) ?_
      exact sw_iret dX10_plant_53
    · refine sw_aload_n 1 dX10_plant_40 rfl rfl ?_
      refine sw_getr q_cl10 1 (r := 2) dX10_plant_41 t_405 (by decide) h0.1 rfl ?_
      refine sw_geti q_cl0 8 dX10_plant_44 t_65 (by decide) h0.2.2.1.1 rfl ?_
      refine sw_bipush (14 : Int32) dX10_plant_47 (by decide) ?_
      refine sw_icmp_lt 54 dX10_plant_49 (by decide) ?_ ?_
      · refine sw_aload_n 1 dX10_plant_54 rfl rfl ?_
        refine sw_callVv (As := []) (k := 0) rfl dX10_plant_55 t_510 mf_X10_keep h0.1 q_cl10 (by decide) (Nat.le_of_ble_eq_true rfl) (fun l => c_X10_keep l  u_2 h0) (fun _ u_3 => ?_)
        refine sw_aload_n 1 dX10_plant_58 rfl rfl ?_
        refine sw_getr q_cl10 1 (r := 2) dX10_plant_59 t_405 (by decide) h0.1 rfl ?_
        refine sw_iload_n 2 dX10_plant_62 rfl rfl ?_
        refine sw_iload_n 3 dX10_plant_63 rfl rfl ?_
        refine sw_iload_n 4 dX10_plant_64 rfl rfl ?_
        refine sw_callVi (As := [.int x1, .int x2, .int x3]) (k := 2) rfl dX10_plant_65 t_524 mf_X0_addTree h0.2.2.1.1 q_cl0 (by decide) (Nat.le_of_ble_eq_true rfl) (fun l => c_X0_addTree l 2 x1 x2 x3 u_3 h0.2.2.1) (fun r_4 u_5 => ?_)
        refine sw_istore (lv' := [(5, .int r_4), (4, .int s0), (0, .ref (b + 0)), (1, .int x1), (2, .int x2), (3, .int x3)]) dX10_plant_68 (by decide) rfl ?_
        refine sw_aload_n 2 dX10_plant_70 rfl rfl ?_
        refine sw_getr q_cl10 0 (r := 1) dX10_plant_71 t_404 (by decide) h0.1 rfl ?_
        refine sw_getr q_cl9 5 (r := 31) dX10_plant_74 t_287 (by decide) h0.2.1.1 rfl ?_
        refine sw_aload_n 2 dX10_plant_77 rfl rfl ?_
        refine sw_getr q_cl10 1 (r := 2) dX10_plant_78 t_405 (by decide) h0.1 rfl ?_
        refine sw_iconst (0 : Int32) dX10_plant_81 (by decide) ?_
        refine sw_iload 0 dX10_plant_82 rfl ?_
        refine sw_iconst (0 : Int32) dX10_plant_84 (by decide) ?_
        refine sw_callVv (As := [.ref (b + 2), .int (0 : Int32), .int r_4, .int (0 : Int32)]) (k := 31) rfl dX10_plant_85 t_528 mf_X3_write h0.2.1.2.2.2.2.2.2.1 q_cl3 (by decide) (Nat.le_of_ble_eq_true rfl) (fun l => c_X3_write l 31 2 (0 : Int32) r_4 (0 : Int32) u_5 h0.2.1.2.2.2.2.2.2 h0.2.2.1) (fun _ u_6 => ?_)
        refine sw_iload 0 dX10_plant_88 rfl ?_
        exact sw_iret dX10_plant_90
      · refine sw_iconst (-1 : Int32) dX10_plant_52 (by decide) ?_
        exact sw_iret dX10_plant_53
  · refine SW.jn0 32 ([(0, .ref (b + 0)), (1, .int x1), (2, .int x2), (3, .int x3)]) ([]) (fun  u_7 => ?_) (fun J32 hJ32 => ?_)
    · refine sw_iconst (0 : Int32) dX10_plant_32 (by decide) ?_
      exact SW.sub [0, 1, 2, 3] rfl (hJ33 (0 : Int32) u_7)
    · refine sw_if_eq 32 dX10_plant_8 (by decide) ?_ ?_
      · exact SW.sub [0, 1, 2, 3] rfl (hJ32  u_1)
      · refine sw_iload_n 2 dX10_plant_11 rfl rfl ?_
        refine sw_callSi (As := [.int x2]) rfl dX10_plant_12 t_507 mf_X10_isPlace (by decide) (Nat.le_of_ble_eq_true rfl) (fun l => c_X10_isPlace l x2 u_1 ) (fun r_8 u_9 => ?_)
        refine sw_if_eq 32 dX10_plant_15 (by decide) ?_ ?_
        · exact SW.sub [0, 1, 2, 3] rfl (hJ32  u_9)
        · refine sw_iload_n 3 dX10_plant_18 rfl rfl ?_
          refine sw_iconst (0 : Int32) dX10_plant_19 (by decide) ?_
          refine sw_bipush (99 : Int32) dX10_plant_20 (by decide) ?_
          refine sw_callSi (As := [.int x3, .int (0 : Int32), .int (99 : Int32)]) rfl dX10_plant_22 t_457 mf_X10_isWithin (by decide) (Nat.le_of_ble_eq_true rfl) (fun l => c_X10_isWithin l x3 (0 : Int32) (99 : Int32) u_9 ) (fun r_10 u_11 => ?_)
          refine sw_if_eq 32 dX10_plant_25 (by decide) ?_ ?_
          · exact SW.sub [0, 1, 2, 3] rfl (hJ32  u_11)
          · refine sw_iconst (1 : Int32) dX10_plant_28 (by decide) ?_
            refine sw_goto 33 dX10_plant_29 (by decide) ?_
            exact SW.sub [0, 1, 2, 3] rfl (hJ33 (1 : Int32) u_11)
set_option maxRecDepth 100000 in
theorem c_X0_isFenced (l : Launch) {ι : qI} {b : Nat} (k : Nat) (x1 : Int32) (u : qS) (h0 : is_X0 ι k) : CN l yX0_isFenced cX0_isFenced 2 (some .boolean) 1 ι b [.ref (b + k), .int x1] u (m_X0_isFenced k x1 u) := by
  refine CN.of_SW (own := RX0) rfl (by decide) (Nat.le_of_ble_eq_true rfl) [(0, .ref (b + k)), (1, .int x1)] rfl ?_
  unfold m_X0_isFenced
  refine sw_aload_n 0 dX0_isFenced_0 rfl rfl ?_
  refine sw_geti q_cl0 6 dX0_isFenced_1 t_58 (by decide) h0.1 rfl ?_
  refine sw_iload_n 1 dX0_isFenced_4 rfl rfl ?_
  refine sw_ishr dX0_isFenced_5 ?_
  refine sw_iconst (1 : Int32) dX0_isFenced_6 (by decide) ?_
  refine sw_iand dX0_isFenced_7 ?_
  refine sw_iconst (1 : Int32) dX0_isFenced_8 (by decide) ?_
  refine sw_icmp_ne 16 dX0_isFenced_9 (by decide) ?_ ?_
  · refine sw_iconst (1 : Int32) dX0_isFenced_12 (by decide) ?_
    refine sw_goto 17 dX0_isFenced_13 (by decide) ?_
    exact sw_zret1 dX0_isFenced_17
  · refine sw_iconst (0 : Int32) dX0_isFenced_16 (by decide) ?_
    exact sw_zret0 dX0_isFenced_17
set_option maxRecDepth 100000 in
theorem c_X0_turnFence (l : Launch) {ι : qI} {b : Nat} (k : Nat) (x1 : Int32) (u : qS) (h0 : is_X0 ι k) : CN l yX0_turnFence cX0_turnFence 2 none 1 ι b [.ref (b + k), .int x1] u (m_X0_turnFence k x1 u) := by
  refine CN.of_SW (own := RX0) rfl (by decide) (Nat.le_of_ble_eq_true rfl) [(0, .ref (b + k)), (1, .int x1)] rfl ?_
  unfold m_X0_turnFence
  refine sw_aload_n 0 dX0_turnFence_0 rfl rfl ?_
  refine sw_dup dX0_turnFence_1 rfl ?_
  refine sw_geti q_cl0 6 dX0_turnFence_2 t_58 (by decide) h0.1 rfl ?_
  refine sw_iconst (1 : Int32) dX0_turnFence_5 (by decide) ?_
  refine sw_iload_n 1 dX0_turnFence_6 rfl rfl ?_
  refine sw_ishl dX0_turnFence_7 ?_
  refine sw_ixor dX0_turnFence_8 ?_
  refine sw_puti q_cl0 6 dX0_turnFence_9 t_58 (by decide) (by decide +kernel) rfl h0.1 rfl (fun u_1 => ?_)
  exact sw_vret dX0_turnFence_12
set_option maxRecDepth 100000 in
theorem c_X10_fence (l : Launch) {ι : qI} {b : Nat}  (x1 : Int32) (x2 : Int32) (u : qS) (h0 : is_X10 ι) : CN l yX10_fence cX10_fence 3 (some .boolean) 3 ι b [.ref (b + 0), .int x1, .int x2] u (m_X10_fence x1 x2 u) := by
  refine CN.of_SW (own := RX10) rfl (by decide) (Nat.le_of_ble_eq_true rfl) [(0, .ref (b + 0)), (1, .int x1), (2, .int x2)] rfl ?_
  unfold m_X10_fence
  refine sw_iload_n 1 dX10_fence_0 rfl rfl ?_
  refine sw_callSi (As := [.int x1]) rfl dX10_fence_1 t_507 mf_X10_isPlace (by decide) (Nat.le_of_ble_eq_true rfl) (fun l => c_X10_isPlace l x1 u ) (fun r u_1 => ?_)
  refine sw_if_eq 19 dX10_fence_4 (by decide) ?_ ?_
  · refine sw_iconst (0 : Int32) dX10_fence_19 (by decide) ?_
    exact sw_zret0 dX10_fence_20
  · refine sw_aload_n 0 dX10_fence_7 rfl rfl ?_
    refine sw_getr q_cl10 1 (r := 2) dX10_fence_8 t_405 (by decide) h0.1 rfl ?_
    refine sw_iload_n 1 dX10_fence_11 rfl rfl ?_
    refine sw_callVi (As := [.int x1]) (k := 2) rfl dX10_fence_12 t_536 mf_X0_isFenced h0.2.2.1.1 q_cl0 (by decide) (Nat.le_of_ble_eq_true rfl) (fun l => c_X0_isFenced l 2 x1 u_1 h0.2.2.1) (fun r_2 u_3 => ?_)
    refine sw_iload_n 2 dX10_fence_15 rfl rfl ?_
    refine sw_icmp_ne 21 dX10_fence_16 (by decide) ?_ ?_
    · refine sw_iconst (0 : Int32) dX10_fence_19 (by decide) ?_
      exact sw_zret0 dX10_fence_20
    · refine sw_aload_n 0 dX10_fence_21 rfl rfl ?_
      refine sw_callVv (As := []) (k := 0) rfl dX10_fence_22 t_510 mf_X10_keep h0.1 q_cl10 (by decide) (Nat.le_of_ble_eq_true rfl) (fun l => c_X10_keep l  u_3 h0) (fun _ u_4 => ?_)
      refine sw_aload_n 0 dX10_fence_25 rfl rfl ?_
      refine sw_getr q_cl10 1 (r := 2) dX10_fence_26 t_405 (by decide) h0.1 rfl ?_
      refine sw_iload_n 1 dX10_fence_29 rfl rfl ?_
      refine sw_callVv (As := [.int x1]) (k := 2) rfl dX10_fence_30 t_540 mf_X0_turnFence h0.2.2.1.1 q_cl0 (by decide) (Nat.le_of_ble_eq_true rfl) (fun l => c_X0_turnFence l 2 x1 u_4 h0.2.2.1) (fun _ u_5 => ?_)
      refine sw_aload_n 0 dX10_fence_33 rfl rfl ?_
      refine sw_getr q_cl10 0 (r := 1) dX10_fence_34 t_404 (by decide) h0.1 rfl ?_
      refine sw_getr q_cl9 5 (r := 31) dX10_fence_37 t_287 (by decide) h0.2.1.1 rfl ?_
      refine sw_aload_n 0 dX10_fence_40 rfl rfl ?_
      refine sw_getr q_cl10 1 (r := 2) dX10_fence_41 t_405 (by decide) h0.1 rfl ?_
      refine sw_iload_n 2 dX10_fence_44 rfl rfl ?_
      refine SW.jn1 53 (fun s0 => [(1, .int x1)]) (fun s0 => [.int s0, .ref (b + 2), .ref (b + 31)]) (fun s0 u_6 => ?_) (fun J53 hJ53 => ?_)
      · refine sw_iload_n 0 dX10_fence_53 rfl rfl ?_
        refine sw_iconst (0 : Int32) dX10_fence_54 (by decide) ?_
        refine sw_callVv (As := [.ref (b + 2), .int s0, .int x1, .int (0 : Int32)]) (k := 31) rfl dX10_fence_55 t_528 mf_X3_write h0.2.1.2.2.2.2.2.2.1 q_cl3 (by decide) (Nat.le_of_ble_eq_true rfl) (fun l => c_X3_write l 31 2 s0 x1 (0 : Int32) u_6 h0.2.1.2.2.2.2.2.2 h0.2.2.1) (fun _ u_7 => ?_)
        refine sw_iconst (1 : Int32) dX10_fence_58 (by decide) ?_
        exact sw_zret1 dX10_fence_59
      · refine sw_if_eq 52 dX10_fence_45 (by decide) ?_ ?_
        · refine sw_iconst (2 : Int32) dX10_fence_52 (by decide) ?_
          exact SW.sub [1] rfl (hJ53 (2 : Int32) u_5)
        · refine sw_iconst (1 : Int32) dX10_fence_48 (by decide) ?_
          refine sw_goto 53 dX10_fence_49 (by decide) ?_
          exact SW.sub [1] rfl (hJ53 (1 : Int32) u_5)
set_option maxRecDepth 100000 in
theorem w_X0_cook_L5 {ι : qI} {b : Nat} (k : Nat) (h0 : is_X0 ι k) (x1 : Int32) (x2 : Int32) {K68 : Int32 → qS → qR} (hK68 : ∀ (e3 : Int32) (u : qS), SW RX0 cX0_cook 6 (some .int) 1 ι b 68 [(0, .ref (b + k)), (1, .int x1), (3, .int e3)] [] u (K68 e3 u)) (fu : Nat) (x3 : Int32) (x4 : Int32) (u : qS) : SW RX0 cX0_cook 6 (some .int) 1 ι b 5 [(0, .ref (b + k)), (1, .int x1), (2, .int x2), (3, .int x3), (4, .int x4)] [] u (q_it2 (m_X0_cook_L5 k x1 x2 K68) fu x3 x4 u) := by
  refine SW.it2 (fun x3 x4 => [(0, .ref (b + k)), (1, .int x1), (2, .int x2), (3, .int x3), (4, .int x4)]) (fun self ih x3 x4 u => ?_) fu x3 x4 u
  unfold m_X0_cook_L5
  refine sw_iload 4 dX0_cook_5 rfl ?_
  refine sw_aload_n 0 dX0_cook_7 rfl rfl ?_
  refine sw_geti q_cl0 8 dX0_cook_8 t_64 (by decide) h0.1 rfl ?_
  refine sw_icmp_ge 68 dX0_cook_11 (by decide) ?_ ?_
  · exact SW.sub [0, 1, 3] rfl (hK68 x3 u)
  · refine sw_iload_n 3 dX0_cook_14 rfl rfl ?_
    refine sw_iload_n 2 dX0_cook_15 rfl rfl ?_
    refine sw_icmp_ge 68 dX0_cook_16 (by decide) ?_ ?_
    · exact SW.sub [0, 1, 3] rfl (hK68 x3 u)
    · refine sw_aload_n 0 dX0_cook_19 rfl rfl ?_
      refine sw_getr q_cl0 14 (r := (k + 4)) dX0_cook_20 t_82 (by decide) h0.1 rfl ?_
      refine sw_iload 4 dX0_cook_23 rfl ?_
      refine sw_iald dX0_cook_25 h0.2.2.2.2.1 (fun a => ?_)
      refine sw_iload_n 1 dX0_cook_26 rfl rfl ?_
      refine SW.jn1 62 (fun x3_1 => [(0, .ref (b + k)), (1, .int x1), (2, .int x2), (3, .int x3_1), (4, .int x4)]) (fun x3_1 => []) (fun x3_1 u_2 => ?_) (fun J62 hJ62 => ?_)
      · refine sw_iinc (lv' := [(4, .int (x4 + (1 : Int32))), (0, .ref (b + k)), (1, .int x1), (2, .int x2), (3, .int x3_1)]) 4 dX0_cook_62 rfl (congrArg (x4 + ·) (by decide)) (by decide) rfl ?_
        refine sw_goto 5 dX0_cook_65 (by decide) ?_
        exact SW.sub [1, 2, 3, 4, 0] rfl (ih x3_1 (x4 + (1 : Int32)) u_2)
      · refine sw_icmp_ne 62 dX0_cook_27 (by decide) ?_ ?_
        · refine sw_iload_n 2 dX0_cook_30 rfl rfl ?_
          refine sw_iload_n 3 dX0_cook_31 rfl rfl ?_
          refine sw_isub dX0_cook_32 ?_
          refine sw_aload_n 0 dX0_cook_33 rfl rfl ?_
          refine sw_getr q_cl0 17 (r := (k + 7)) dX0_cook_34 t_92 (by decide) h0.1 rfl ?_
          refine sw_iload 4 dX0_cook_37 rfl ?_
          refine sw_iald dX0_cook_39 h0.2.2.2.2.2.2.2.1 (fun a_3 => ?_)
          refine sw_qmin dX0_cook_40 t_552 t_522 t_14 t_523 (by decide) (Nat.le_of_ble_eq_true rfl) ?_
          refine SW.name (fun y5 => ?_)
          refine sw_istore (lv' := [(5, .int y5), (0, .ref (b + k)), (1, .int x1), (2, .int x2), (3, .int x3), (4, .int x4)]) dX0_cook_43 (by decide) rfl ?_
          refine sw_aload_n 1 dX0_cook_45 rfl rfl ?_
          refine sw_getr q_cl0 17 (r := (k + 7)) dX0_cook_46 t_92 (by decide) h0.1 rfl ?_
          refine sw_iload 5 dX0_cook_49 rfl ?_
          refine sw_dup2 dX0_cook_51 rfl rfl ?_
          refine sw_iald dX0_cook_52 h0.2.2.2.2.2.2.2.1 (fun a_4 => ?_)
          refine sw_iload 0 dX0_cook_53 rfl ?_
          refine sw_isub dX0_cook_55 ?_
          refine sw_iast dX0_cook_56 h0.2.2.2.2.2.2.2.1 (fun u_5 => ?_)
          refine sw_iload_n 4 dX0_cook_57 rfl rfl ?_
          refine sw_iload 0 dX0_cook_58 rfl ?_
          refine sw_iadd dX0_cook_60 ?_
          refine SW.name (fun y3 => ?_)
          refine sw_istore_n (lv' := [(3, .int y3), (5, .int y5), (0, .ref (b + k)), (1, .int x1), (2, .int x2), (4, .int x4)]) dX0_cook_61 rfl (by decide) rfl ?_
          exact SW.sub [2, 3, 4, 0, 5] rfl (hJ62 y3 u_5)
        · exact SW.sub [0, 1, 2, 3, 4] rfl (hJ62 x3 u)
set_option maxRecDepth 100000 in
theorem c_X0_cook (l : Launch) {ι : qI} {b : Nat} (k : Nat) (x1 : Int32) (x2 : Int32) (u : qS) (h0 : is_X0 ι k) : CN l yX0_cook cX0_cook 6 (some .int) 1 ι b [.ref (b + k), .int x1, .int x2] u (m_X0_cook k x1 x2 u) := by
  refine CN.of_SW (own := RX0) rfl (by decide) (Nat.le_of_ble_eq_true rfl) [(0, .ref (b + k)), (1, .int x1), (2, .int x2)] rfl ?_
  unfold m_X0_cook
  refine sw_iconst (0 : Int32) dX0_cook_0 (by decide) ?_
  refine sw_istore_n (lv' := [(3, .int (0 : Int32)), (0, .ref (b + k)), (1, .int x1), (2, .int x2)]) dX0_cook_1 rfl (by decide) rfl ?_
  refine sw_iconst (0 : Int32) dX0_cook_2 (by decide) ?_
  refine sw_istore (lv' := [(4, .int (0 : Int32)), (3, .int (0 : Int32)), (0, .ref (b + k)), (1, .int x1), (2, .int x2)]) dX0_cook_3 (by decide) rfl ?_
  refine SW.sub (lv' := [(0, .ref (b + k)), (1, .int x1), (2, .int x2), (3, .int (0 : Int32)), (4, .int (0 : Int32))]) [2, 3, 4, 1, 0] rfl ?_
  refine w_X0_cook_L5 k h0 x1 x2 (fun x3 u_6 => ?_) q_F (0 : Int32) (0 : Int32) u
  refine sw_aload_n 0 dX0_cook_68 rfl rfl ?_
  refine sw_getr q_cl0 11 (r := (k + 1)) dX0_cook_69 t_72 (by decide) h0.1 rfl ?_
  refine sw_iload_n 1 dX0_cook_72 rfl rfl ?_
  refine sw_sipush (999 : Int32) dX0_cook_73 (by decide) ?_
  refine sw_aload_n 0 dX0_cook_76 rfl rfl ?_
  refine sw_getr q_cl0 11 (r := (k + 1)) dX0_cook_77 t_72 (by decide) h0.1 rfl ?_
  refine sw_iload_n 1 dX0_cook_80 rfl rfl ?_
  refine sw_iald dX0_cook_81 h0.2.1 (fun a => ?_)
  refine sw_iload_n 2 dX0_cook_82 rfl rfl ?_
  refine sw_iadd dX0_cook_83 ?_
  refine sw_qmin dX0_cook_84 t_552 t_522 t_14 t_523 (by decide) (Nat.le_of_ble_eq_true rfl) ?_
  refine sw_iast dX0_cook_87 h0.2.1 (fun u_7 => ?_)
  refine sw_iload_n 2 dX0_cook_88 rfl rfl ?_
  exact sw_iret dX0_cook_89
set_option maxRecDepth 100000 in
theorem c_X10_boil (l : Launch) {ι : qI} {b : Nat}  (x1 : Int32) (x2 : Int32) (u : qS) (h0 : is_X10 ι) : CN l yX10_boil cX10_boil 4 (some .int) 3 ι b [.ref (b + 0), .int x1, .int x2] u (m_X10_boil x1 x2 u) := by
  refine CN.of_SW (own := RX10) rfl (by decide) (Nat.le_of_ble_eq_true rfl) [(0, .ref (b + 0)), (1, .int x1), (2, .int x2)] rfl ?_
  unfold m_X10_boil
  refine sw_aload_n 0 dX10_boil_0 rfl rfl ?_
  refine sw_getr q_cl10 1 (r := 2) dX10_boil_1 t_405 (by decide) h0.1 rfl ?_
  refine sw_iload_n 1 dX10_boil_4 rfl rfl ?_
  refine sw_callVi (As := [.int x1]) (k := 2) rfl dX10_boil_5 t_480 mf_X0_isParty h0.2.2.1.1 q_cl0 (by decide) (Nat.le_of_ble_eq_true rfl) (fun l => c_X0_isParty l 2 x1 u h0.2.2.1) (fun r u_1 => ?_)
  refine sw_if_eq 21 dX10_boil_8 (by decide) ?_ ?_
  · refine sw_iconst (-1 : Int32) dX10_boil_21 (by decide) ?_
    exact sw_iret dX10_boil_22
  · refine sw_iload_n 2 dX10_boil_11 rfl rfl ?_
    refine sw_iconst (1 : Int32) dX10_boil_12 (by decide) ?_
    refine sw_bipush (99 : Int32) dX10_boil_13 (by decide) ?_
    refine sw_callSi (As := [.int x2, .int (1 : Int32), .int (99 : Int32)]) rfl dX10_boil_15 t_457 mf_X10_isWithin (by decide) (Nat.le_of_ble_eq_true rfl) (fun l => c_X10_isWithin l x2 (1 : Int32) (99 : Int32) u_1 ) (fun r_2 u_3 => ?_)
    refine sw_if_ne 23 dX10_boil_18 (by decide) ?_ ?_
    · refine sw_iconst (-1 : Int32) dX10_boil_21 (by decide) ?_
      exact sw_iret dX10_boil_22
    · refine sw_aload_n 0 dX10_boil_23 rfl rfl ?_
      refine sw_callVv (As := []) (k := 0) rfl dX10_boil_24 t_510 mf_X10_keep h0.1 q_cl10 (by decide) (Nat.le_of_ble_eq_true rfl) (fun l => c_X10_keep l  u_3 h0) (fun _ u_4 => ?_)
      refine sw_aload_n 0 dX10_boil_27 rfl rfl ?_
      refine sw_getr q_cl10 1 (r := 2) dX10_boil_28 t_405 (by decide) h0.1 rfl ?_
      refine sw_iload_n 1 dX10_boil_31 rfl rfl ?_
      refine sw_iload_n 2 dX10_boil_32 rfl rfl ?_
      refine sw_callVi (As := [.int x1, .int x2]) (k := 2) rfl dX10_boil_33 t_548 mf_X0_cook h0.2.2.1.1 q_cl0 (by decide) (Nat.le_of_ble_eq_true rfl) (fun l => c_X0_cook l 2 x1 x2 u_4 h0.2.2.1) (fun r_5 u_6 => ?_)
      refine sw_istore_n (lv' := [(3, .int r_5), (0, .ref (b + 0)), (1, .int x1), (2, .int x2)]) dX10_boil_36 rfl (by decide) rfl ?_
      refine sw_aload_n 1 dX10_boil_37 rfl rfl ?_
      refine sw_getr q_cl10 0 (r := 1) dX10_boil_38 t_404 (by decide) h0.1 rfl ?_
      refine sw_getr q_cl9 5 (r := 31) dX10_boil_41 t_287 (by decide) h0.2.1.1 rfl ?_
      refine sw_aload_n 1 dX10_boil_44 rfl rfl ?_
      refine sw_getr q_cl10 1 (r := 2) dX10_boil_45 t_405 (by decide) h0.1 rfl ?_
      refine sw_iconst (3 : Int32) dX10_boil_48 (by decide) ?_
      refine sw_iload_n 2 dX10_boil_49 rfl rfl ?_
      refine sw_iload_n 0 dX10_boil_50 rfl rfl ?_
      refine sw_callVv (As := [.ref (b + 2), .int (3 : Int32), .int x1, .int r_5]) (k := 31) rfl dX10_boil_51 t_528 mf_X3_write h0.2.1.2.2.2.2.2.2.1 q_cl3 (by decide) (Nat.le_of_ble_eq_true rfl) (fun l => c_X3_write l 31 2 (3 : Int32) x1 r_5 u_6 h0.2.1.2.2.2.2.2.2 h0.2.2.1) (fun _ u_7 => ?_)
      refine sw_iload_n 0 dX10_boil_54 rfl rfl ?_
      exact sw_iret dX10_boil_55
set_option maxRecDepth 100000 in
theorem w_X7_begin_L17 {ι : qI} {b : Nat} (k : Nat) (h0 : is_X7 ι k)  {K35 : qS → qR} (hK35 : ∀  (u : qS), SW RX7 cX7_begin 2 none 1 ι b 35 [] [] u (K35  u)) (fu : Nat) (x1 : Int32) (u : qS) : SW RX7 cX7_begin 2 none 1 ι b 17 [(0, .ref (b + k)), (1, .int x1)] [] u (q_it1 (m_X7_begin_L17 k K35) fu x1 u) := by
  refine SW.it1 (fun x1 => [(0, .ref (b + k)), (1, .int x1)]) (fun self ih x1 u => ?_) fu x1 u
  unfold m_X7_begin_L17
  refine sw_iload_n 1 dX7_begin_17 rfl rfl ?_
  refine sw_iconst (5 : Int32) dX7_begin_18 (by decide) ?_
  refine sw_icmp_ge 35 dX7_begin_19 (by decide) ?_ ?_
  · exact SW.sub [] rfl (hK35  u)
  · refine sw_aload_n 0 dX7_begin_22 rfl rfl ?_
    refine sw_getr q_cl7 4 (r := (k + 1)) dX7_begin_23 t_390 (by decide) h0.1 rfl ?_
    refine sw_iload_n 1 dX7_begin_26 rfl rfl ?_
    refine sw_iconst (0 : Int32) dX7_begin_27 (by decide) ?_
    refine sw_iast dX7_begin_28 h0.2 (fun u_4 => ?_)
    refine sw_iinc (lv' := [(1, .int (x1 + (1 : Int32))), (0, .ref (b + k))]) 1 dX7_begin_29 rfl (congrArg (x1 + ·) (by decide)) (by decide) rfl ?_
    refine sw_goto 17 dX7_begin_32 (by decide) ?_
    exact SW.sub [1, 0] rfl (ih (x1 + (1 : Int32)) u_4)
set_option maxRecDepth 100000 in
theorem c_X7_begin (l : Launch) {ι : qI} {b : Nat} (k : Nat)  (u : qS) (h0 : is_X7 ι k) : CN l yX7_begin cX7_begin 2 none 1 ι b [.ref (b + k)] u (m_X7_begin k u) := by
  refine CN.of_SW (own := RX7) rfl (by decide) (Nat.le_of_ble_eq_true rfl) [(0, .ref (b + k))] rfl ?_
  unfold m_X7_begin
  refine sw_aload_n 0 dX7_begin_0 rfl rfl ?_
  refine sw_iconst (0 : Int32) dX7_begin_1 (by decide) ?_
  refine sw_puti q_cl7 1 dX7_begin_2 t_384 (by decide) (by decide +kernel) rfl h0.1 rfl (fun u_1 => ?_)
  refine sw_aload_n 0 dX7_begin_5 rfl rfl ?_
  refine sw_iconst (-1 : Int32) dX7_begin_6 (by decide) ?_
  refine sw_puti q_cl7 2 dX7_begin_7 t_386 (by decide) (by decide +kernel) rfl h0.1 rfl (fun u_2 => ?_)
  refine sw_aload_n 0 dX7_begin_10 rfl rfl ?_
  refine sw_iconst (-1 : Int32) dX7_begin_11 (by decide) ?_
  refine sw_puti q_cl7 3 dX7_begin_12 t_388 (by decide) (by decide +kernel) rfl h0.1 rfl (fun u_3 => ?_)
  refine sw_iconst (0 : Int32) dX7_begin_15 (by decide) ?_
  refine sw_istore_n (lv' := [(1, .int (0 : Int32)), (0, .ref (b + k))]) dX7_begin_16 rfl (by decide) rfl ?_
  refine SW.sub (lv' := [(0, .ref (b + k)), (1, .int (0 : Int32))]) [1, 0] rfl ?_
  refine w_X7_begin_L17 k h0 (fun u_5 => ?_) q_F (0 : Int32) u_3
  exact sw_vret dX7_begin_35
set_option maxRecDepth 100000 in
theorem c_X7_note (l : Launch) {ι : qI} {b : Nat} (k : Nat) (k2 : Nat) (x3 : Int32) (x4 : Int32) (x5 : Int32) (u : qS) (h0 : is_X7 ι k) (h1 : is_X9 ι 1) (h2 : is_X0 ι k2) : CN l yX7_note cX7_note 6 none 2 ι b [.ref (b + k), .ref (b + 1), .ref (b + k2), .int x3, .int x4, .int x5] u (m_X7_note k k2 x3 x4 x5 u) := by
  refine CN.of_SW (own := RX7) rfl (by decide) (Nat.le_of_ble_eq_true rfl) [(0, .ref (b + k)), (1, .ref (b + 1)), (2, .ref (b + k2)), (3, .int x3), (4, .int x4), (5, .int x5)] rfl ?_
  unfold m_X7_note
  refine sw_aload_n 0 dX7_note_0 rfl rfl ?_
  refine sw_geti q_cl7 0 dX7_note_1 t_383 (by decide) h0.1 rfl ?_
  refine sw_if_eq 20 dX7_note_4 (by decide) ?_ ?_
  · exact sw_vret dX7_note_20
  · refine sw_aload_n 1 dX7_note_7 rfl rfl ?_
    refine sw_getr q_cl9 5 (r := 31) dX7_note_8 t_286 (by decide) h1.1 rfl ?_
    refine sw_aload_n 2 dX7_note_11 rfl rfl ?_
    refine sw_iload_n 3 dX7_note_12 rfl rfl ?_
    refine sw_iload 4 dX7_note_13 rfl ?_
    refine sw_iload 5 dX7_note_15 rfl ?_
    refine sw_callVv (As := [.ref (b + k2), .int x3, .int x4, .int x5]) (k := 31) rfl dX7_note_17 t_578 mf_X3_write h1.2.2.2.2.2.2.1 q_cl3 (by decide) (Nat.le_of_ble_eq_true rfl) (fun l => c_X3_write l 31 k2 x3 x4 x5 u h1.2.2.2.2.2.2 h2) (fun _ u_1 => ?_)
    exact sw_vret dX7_note_20
set_option maxRecDepth 100000 in
theorem c_X7_act (l : Launch) {ι : qI} {b : Nat} (k : Nat) (k2 : Nat) (x3 : Int32) (u : qS) (h0 : is_X7 ι k) (h1 : is_X9 ι 1) (h2 : is_X0 ι k2) : CN l yX7_act cX7_act 7 none 3 ι b [.ref (b + k), .ref (b + 1), .ref (b + k2), .int x3] u (m_X7_act k k2 x3 u) := by
  refine CN.of_SW (own := RX7) rfl (by decide) (Nat.le_of_ble_eq_true rfl) [(0, .ref (b + k)), (1, .ref (b + 1)), (2, .ref (b + k2)), (3, .int x3)] rfl ?_
  unfold m_X7_act
  refine sw_aload_n 1 dX7_act_0 rfl rfl ?_
  refine sw_getr q_cl9 3 (r := 23) dX7_act_1 t_281 (by decide) h1.1 rfl ?_
  refine sw_getr q_cl5 2 (r := 25) dX7_act_4 t_225 (by decide) h1.2.2.2.2.1.1 rfl ?_
  refine sw_iload_n 3 dX7_act_7 rfl rfl ?_
  refine sw_iald dX7_act_8 h1.2.2.2.2.1.2.2.1 (fun a => ?_)
  refine sw_istore (lv' := [(4, .int a), (0, .ref (b + k)), (1, .ref (b + 1)), (2, .ref (b + k2)), (3, .int x3)]) dX7_act_9 (by decide) rfl ?_
  refine sw_aload_n 2 dX7_act_11 rfl rfl ?_
  refine sw_getr q_cl9 3 (r := 23) dX7_act_12 t_281 (by decide) h1.1 rfl ?_
  refine sw_getr q_cl5 3 (r := 26) dX7_act_15 t_228 (by decide) h1.2.2.2.2.1.1 rfl ?_
  refine sw_iload_n 4 dX7_act_18 rfl rfl ?_
  refine sw_iald dX7_act_19 h1.2.2.2.2.1.2.2.2.1 (fun a_1 => ?_)
  refine sw_istore (lv' := [(5, .int a_1), (4, .int a), (0, .ref (b + k)), (1, .ref (b + 1)), (2, .ref (b + k2)), (3, .int x3)]) dX7_act_20 (by decide) rfl ?_
  refine sw_aload_n 3 dX7_act_22 rfl rfl ?_
  refine sw_getr q_cl9 3 (r := 23) dX7_act_23 t_281 (by decide) h1.1 rfl ?_
  refine sw_getr q_cl5 4 (r := 27) dX7_act_26 t_231 (by decide) h1.2.2.2.2.1.1 rfl ?_
  refine sw_iload_n 5 dX7_act_29 rfl rfl ?_
  refine sw_iald dX7_act_30 h1.2.2.2.2.1.2.2.2.2 (fun a_2 => ?_)
  refine sw_istore (lv' := [(6, .int a_2), (5, .int a_1), (4, .int a), (0, .ref (b + k)), (1, .ref (b + 1)), (2, .ref (b + k2)), (3, .int x3)]) dX7_act_31 (by decide) rfl ?_
  refine sw_iload 2 dX7_act_33 rfl ?_
  refine sw_sipush (257 : Int32) dX7_act_35 (by decide) ?_
  refine sw_icmp_ne 70 dX7_act_38 (by decide) ?_ ?_
  · refine sw_aload_n 5 dX7_act_41 rfl rfl ?_
    refine sw_geti q_cl0 8 dX7_act_42 t_63 (by decide) h2.1 rfl ?_
    refine sw_bipush (14 : Int32) dX7_act_45 (by decide) ?_
    refine sw_icmp_ge 180 dX7_act_47 (by decide) ?_ ?_
    · exact sw_vret dX7_act_180
    · refine sw_aload_n 3 dX7_act_50 rfl rfl ?_
      refine sw_aload_n 4 dX7_act_51 rfl rfl ?_
      refine sw_aload_n 5 dX7_act_52 rfl rfl ?_
      refine sw_iconst (0 : Int32) dX7_act_53 (by decide) ?_
      refine sw_aload_n 5 dX7_act_54 rfl rfl ?_
      refine sw_iload 1 dX7_act_55 rfl ?_
      refine sw_iload 0 dX7_act_57 rfl ?_
      refine sw_iconst (0 : Int32) dX7_act_59 (by decide) ?_
      refine sw_callVi (As := [.int a_1, .int a_2, .int (0 : Int32)]) (k := k2) rfl dX7_act_60 t_573 mf_X0_addTree h2.1 q_cl0 (by decide) (Nat.le_of_ble_eq_true rfl) (fun l => c_X0_addTree l k2 a_1 a_2 (0 : Int32) u h2) (fun r_14 u_15 => ?_)
      refine sw_iconst (0 : Int32) dX7_act_63 (by decide) ?_
      refine sw_callVv (As := [.ref (b + 1), .ref (b + k2), .int (0 : Int32), .int r_14, .int (0 : Int32)]) (k := k) rfl dX7_act_64 t_574 mf_X7_note h0.1 q_cl7 (by decide) (Nat.le_of_ble_eq_true rfl) (fun l => c_X7_note l k k2 (0 : Int32) r_14 (0 : Int32) u_15 h0 h1 h2) (fun _ u_16 => ?_)
      refine sw_goto 180 dX7_act_67 (by decide) ?_
      exact sw_vret dX7_act_180
  · refine sw_iload 2 dX7_act_70 rfl ?_
    refine sw_sipush (261 : Int32) dX7_act_72 (by decide) ?_
    refine sw_icmp_ne 98 dX7_act_75 (by decide) ?_ ?_
    · refine sw_aload_n 3 dX7_act_78 rfl rfl ?_
      refine sw_aload_n 4 dX7_act_79 rfl rfl ?_
      refine sw_aload_n 5 dX7_act_80 rfl rfl ?_
      refine sw_iconst (3 : Int32) dX7_act_81 (by decide) ?_
      refine sw_iload 1 dX7_act_82 rfl ?_
      refine sw_aload_n 5 dX7_act_84 rfl rfl ?_
      refine sw_iload 1 dX7_act_85 rfl ?_
      refine sw_iload 0 dX7_act_87 rfl ?_
      refine sw_callVi (As := [.int a_1, .int a_2]) (k := k2) rfl dX7_act_89 t_579 mf_X0_cook h2.1 q_cl0 (by decide) (Nat.le_of_ble_eq_true rfl) (fun l => c_X0_cook l k2 a_1 a_2 u h2) (fun r_11 u_12 => ?_)
      refine sw_callVv (As := [.ref (b + 1), .ref (b + k2), .int (3 : Int32), .int a_1, .int r_11]) (k := k) rfl dX7_act_92 t_574 mf_X7_note h0.1 q_cl7 (by decide) (Nat.le_of_ble_eq_true rfl) (fun l => c_X7_note l k k2 (3 : Int32) a_1 r_11 u_12 h0 h1 h2) (fun _ u_13 => ?_)
      refine sw_goto 180 dX7_act_95 (by decide) ?_
      exact sw_vret dX7_act_180
    · refine sw_iload 2 dX7_act_98 rfl ?_
      refine sw_sipush (262 : Int32) dX7_act_100 (by decide) ?_
      refine sw_icmp_ne 130 dX7_act_103 (by decide) ?_ ?_
      · refine sw_aload_n 5 dX7_act_106 rfl rfl ?_
        refine sw_getr q_cl0 18 (r := (k2 + 8)) dX7_act_107 t_98 (by decide) h2.1 rfl ?_
        refine sw_iload 1 dX7_act_110 rfl ?_
        refine sw_bipush (20 : Int32) dX7_act_112 (by decide) ?_
        refine sw_iconst (2 : Int32) dX7_act_114 (by decide) ?_
        refine sw_aload_n 5 dX7_act_115 rfl rfl ?_
        refine sw_getr q_cl0 18 (r := (k2 + 8)) dX7_act_116 t_98 (by decide) h2.1 rfl ?_
        refine sw_iload 1 dX7_act_119 rfl ?_
        refine sw_iald dX7_act_121 h2.2.2.2.2.2.2.2.2.1 (fun a_9 => ?_)
        refine sw_imul dX7_act_122 ?_
        refine sw_qmin dX7_act_123 t_580 t_522 t_14 t_523 (by decide) (Nat.le_of_ble_eq_true rfl) ?_
        refine sw_iast dX7_act_126 h2.2.2.2.2.2.2.2.2.1 (fun u_10 => ?_)
        refine sw_goto 180 dX7_act_127 (by decide) ?_
        exact sw_vret dX7_act_180
      · refine sw_aload_n 5 dX7_act_130 rfl rfl ?_
        refine sw_iload 1 dX7_act_131 rfl ?_
        refine sw_callVi (As := [.int a_1]) (k := k2) rfl dX7_act_133 t_581 mf_X0_isFenced h2.1 q_cl0 (by decide) (Nat.le_of_ble_eq_true rfl) (fun l => c_X0_isFenced l k2 a_1 u h2) (fun r u_3 => ?_)
        refine sw_iload 2 dX7_act_136 rfl ?_
        refine sw_sipush (259 : Int32) dX7_act_138 (by decide) ?_
        refine SW.jn1 149 (fun s0 => [(0, .ref (b + k)), (1, .ref (b + 1)), (2, .ref (b + k2)), (4, .int a), (5, .int a_1)]) (fun s0 => [.int s0, .int r]) (fun s0 u_4 => ?_) (fun J149 hJ149 => ?_)
        · refine sw_icmp_eq 180 dX7_act_149 (by decide) ?_ ?_
          · exact sw_vret dX7_act_180
          · refine sw_aload_n 2 dX7_act_152 rfl rfl ?_
            refine sw_iload 4 dX7_act_153 rfl ?_
            refine sw_callVv (As := [.int a_1]) (k := k2) rfl dX7_act_155 t_582 mf_X0_turnFence h2.1 q_cl0 (by decide) (Nat.le_of_ble_eq_true rfl) (fun l => c_X0_turnFence l k2 a_1 u_4 h2) (fun _ u_5 => ?_)
            refine sw_aload_n 0 dX7_act_158 rfl rfl ?_
            refine sw_aload_n 1 dX7_act_159 rfl rfl ?_
            refine sw_aload_n 2 dX7_act_160 rfl rfl ?_
            refine sw_iload 3 dX7_act_161 rfl ?_
            refine sw_sipush (259 : Int32) dX7_act_163 (by decide) ?_
            refine SW.jn1 174 (fun s0_6 => [(5, .int a_1)]) (fun s0_6 => [.int s0_6, .ref (b + k2), .ref (b + 1), .ref (b + k)]) (fun s0_6 u_7 => ?_) (fun J174 hJ174 => ?_)
            · refine sw_iload 0 dX7_act_174 rfl ?_
              refine sw_iconst (0 : Int32) dX7_act_176 (by decide) ?_
              refine sw_callVv (As := [.ref (b + 1), .ref (b + k2), .int s0_6, .int a_1, .int (0 : Int32)]) (k := k) rfl dX7_act_177 t_574 mf_X7_note h0.1 q_cl7 (by decide) (Nat.le_of_ble_eq_true rfl) (fun l => c_X7_note l k k2 s0_6 a_1 (0 : Int32) u_7 h0 h1 h2) (fun _ u_8 => ?_)
              exact sw_vret dX7_act_180
            · refine sw_icmp_ne 173 dX7_act_166 (by decide) ?_ ?_
              · refine sw_iconst (1 : Int32) dX7_act_169 (by decide) ?_
                refine sw_goto 174 dX7_act_170 (by decide) ?_
                exact SW.sub [4] rfl (hJ174 (1 : Int32) u_5)
              · refine sw_iconst (2 : Int32) dX7_act_173 (by decide) ?_
                exact SW.sub [4] rfl (hJ174 (2 : Int32) u_5)
        · refine sw_icmp_ne 148 dX7_act_141 (by decide) ?_ ?_
          · refine sw_iconst (1 : Int32) dX7_act_144 (by decide) ?_
            refine sw_goto 149 dX7_act_145 (by decide) ?_
            exact SW.sub [3, 4, 5, 2, 1] rfl (hJ149 (1 : Int32) u_3)
          · refine sw_iconst (0 : Int32) dX7_act_148 (by decide) ?_
            exact SW.sub [3, 4, 5, 2, 1] rfl (hJ149 (0 : Int32) u_3)
set_option maxRecDepth 100000 in
theorem w_X7_follow_L2 {ι : qI} {b : Nat} (k : Nat) (k2 : Nat) (h0 : is_X7 ι k) (h1 : is_X9 ι 1) (h2 : is_X0 ι k2)  {K42 : qS → qR} (hK42 : ∀  (u : qS), SW RX7 cX7_follow 4 none 4 ι b 42 [] [] u (K42  u)) (fu : Nat) (x3 : Int32) (u : qS) : SW RX7 cX7_follow 4 none 4 ι b 2 [(0, .ref (b + k)), (1, .ref (b + 1)), (2, .ref (b + k2)), (3, .int x3)] [] u (q_it1 (m_X7_follow_L2 k k2 K42) fu x3 u) := by
  refine SW.it1 (fun x3 => [(0, .ref (b + k)), (1, .ref (b + 1)), (2, .ref (b + k2)), (3, .int x3)]) (fun self ih x3 u => ?_) fu x3 u
  unfold m_X7_follow_L2
  refine sw_iload_n 3 dX7_follow_2 rfl rfl ?_
  refine sw_aload_n 1 dX7_follow_3 rfl rfl ?_
  refine sw_getr q_cl9 3 (r := 23) dX7_follow_4 t_281 (by decide) h1.1 rfl ?_
  refine sw_geti q_cl5 0 dX7_follow_7 t_218 (by decide) h1.2.2.2.2.1.1 rfl ?_
  refine sw_icmp_ge 42 dX7_follow_10 (by decide) ?_ ?_
  · exact SW.sub [] rfl (hK42  u)
  · refine sw_aload_n 1 dX7_follow_13 rfl rfl ?_
    refine sw_getr q_cl9 3 (r := 23) dX7_follow_14 t_281 (by decide) h1.1 rfl ?_
    refine sw_getr q_cl5 1 (r := 24) dX7_follow_17 t_222 (by decide) h1.2.2.2.2.1.1 rfl ?_
    refine sw_iload_n 3 dX7_follow_20 rfl rfl ?_
    refine sw_iald dX7_follow_21 h1.2.2.2.2.1.2.1 (fun a => ?_)
    refine sw_aload_n 2 dX7_follow_22 rfl rfl ?_
    refine sw_geti q_cl0 0 dX7_follow_23 t_41 (by decide) h2.1 rfl ?_
    refine SW.jn0 36 ([(0, .ref (b + k)), (1, .ref (b + 1)), (2, .ref (b + k2)), (3, .int x3)]) ([]) (fun  u_1 => ?_) (fun J36 hJ36 => ?_)
    · refine sw_iinc (lv' := [(3, .int (x3 + (1 : Int32))), (0, .ref (b + k)), (1, .ref (b + 1)), (2, .ref (b + k2))]) 3 dX7_follow_36 rfl (congrArg (x3 + ·) (by decide)) (by decide) rfl ?_
      refine sw_goto 2 dX7_follow_39 (by decide) ?_
      exact SW.sub [1, 2, 3, 0] rfl (ih (x3 + (1 : Int32)) u_1)
    · refine sw_icmp_ne 36 dX7_follow_26 (by decide) ?_ ?_
      · refine sw_aload_n 0 dX7_follow_29 rfl rfl ?_
        refine sw_aload_n 1 dX7_follow_30 rfl rfl ?_
        refine sw_aload_n 2 dX7_follow_31 rfl rfl ?_
        refine sw_iload_n 3 dX7_follow_32 rfl rfl ?_
        refine sw_callVv (As := [.ref (b + 1), .ref (b + k2), .int x3]) (k := k) rfl dX7_follow_33 t_569 mf_X7_act h0.1 q_cl7 (by decide) (Nat.le_of_ble_eq_true rfl) (fun l => c_X7_act l k k2 x3 u h0 h1 h2) (fun _ u_2 => ?_)
        exact SW.sub [0, 1, 2, 3] rfl (hJ36  u_2)
      · exact SW.sub [0, 1, 2, 3] rfl (hJ36  u)
set_option maxRecDepth 100000 in
theorem c_X7_follow (l : Launch) {ι : qI} {b : Nat} (k : Nat) (k2 : Nat)  (u : qS) (h0 : is_X7 ι k) (h1 : is_X9 ι 1) (h2 : is_X0 ι k2) : CN l yX7_follow cX7_follow 4 none 4 ι b [.ref (b + k), .ref (b + 1), .ref (b + k2)] u (m_X7_follow k k2 u) := by
  refine CN.of_SW (own := RX7) rfl (by decide) (Nat.le_of_ble_eq_true rfl) [(0, .ref (b + k)), (1, .ref (b + 1)), (2, .ref (b + k2))] rfl ?_
  unfold m_X7_follow
  refine sw_iconst (0 : Int32) dX7_follow_0 (by decide) ?_
  refine sw_istore_n (lv' := [(3, .int (0 : Int32)), (0, .ref (b + k)), (1, .ref (b + 1)), (2, .ref (b + k2))]) dX7_follow_1 rfl (by decide) rfl ?_
  refine SW.sub (lv' := [(0, .ref (b + k)), (1, .ref (b + 1)), (2, .ref (b + k2)), (3, .int (0 : Int32))]) [1, 2, 3, 0] rfl ?_
  refine w_X7_follow_L2 k k2 h0 h1 h2 (fun u_3 => ?_) q_F (0 : Int32) u
  exact sw_vret dX7_follow_42
set_option maxRecDepth 100000 in
theorem w_X2_ask_L2 {ι : qI} {b : Nat} (k : Nat) (k1 : Nat) (h0 : is_X2 ι k) (h1 : is_X0 ι k1) (x2 : Int32) {K21 : qS → qR} (hK21 : ∀  (u : qS), SW RX2 cX2_ask 4 none 2 ι b 21 [(0, .ref (b + k)), (1, .ref (b + k1)), (2, .int x2)] [] u (K21  u)) (fu : Nat) (x3 : Int32) (u : qS) : SW RX2 cX2_ask 4 none 2 ι b 2 [(0, .ref (b + k)), (1, .ref (b + k1)), (2, .int x2), (3, .int x3)] [] u (q_it1 (m_X2_ask_L2 k k1 x2 K21) fu x3 u) := by
  refine SW.it1 (fun x3 => [(0, .ref (b + k)), (1, .ref (b + k1)), (2, .int x2), (3, .int x3)]) (fun self ih x3 u => ?_) fu x3 u
  unfold m_X2_ask_L2
  refine sw_iload_n 3 dX2_ask_2 rfl rfl ?_
  refine sw_bipush (9 : Int32) dX2_ask_3 (by decide) ?_
  refine sw_icmp_ge 21 dX2_ask_5 (by decide) ?_ ?_
  · exact SW.sub [0, 1, 2] rfl (hK21  u)
  · refine sw_aload_n 0 dX2_ask_8 rfl rfl ?_
    refine sw_getr q_cl2 8 (r := (k + 6)) dX2_ask_9 t_167 (by decide) h0.1 rfl ?_
    refine sw_iload_n 3 dX2_ask_12 rfl rfl ?_
    refine sw_iconst (0 : Int32) dX2_ask_13 (by decide) ?_
    refine sw_iast dX2_ask_14 h0.2.2.2.2.2.2 (fun u_1 => ?_)
    refine sw_iinc (lv' := [(3, .int (x3 + (1 : Int32))), (0, .ref (b + k)), (1, .ref (b + k1)), (2, .int x2)]) 3 dX2_ask_15 rfl (congrArg (x3 + ·) (by decide)) (by decide) rfl ?_
    refine sw_goto 2 dX2_ask_18 (by decide) ?_
    exact SW.sub [1, 2, 3, 0] rfl (ih (x3 + (1 : Int32)) u_1)
set_option maxRecDepth 100000 in
theorem c_X2_ask (l : Launch) {ι : qI} {b : Nat} (k : Nat) (k1 : Nat) (x2 : Int32) (u : qS) (h0 : is_X2 ι k) (h1 : is_X0 ι k1) : CN l yX2_ask cX2_ask 4 none 2 ι b [.ref (b + k), .ref (b + k1), .int x2] u (m_X2_ask k k1 x2 u) := by
  refine CN.of_SW (own := RX2) rfl (by decide) (Nat.le_of_ble_eq_true rfl) [(0, .ref (b + k)), (1, .ref (b + k1)), (2, .int x2)] rfl ?_
  unfold m_X2_ask
  refine sw_iconst (0 : Int32) dX2_ask_0 (by decide) ?_
  refine sw_istore_n (lv' := [(3, .int (0 : Int32)), (0, .ref (b + k)), (1, .ref (b + k1)), (2, .int x2)]) dX2_ask_1 rfl (by decide) rfl ?_
  refine SW.sub (lv' := [(0, .ref (b + k)), (1, .ref (b + k1)), (2, .int x2), (3, .int (0 : Int32))]) [1, 2, 3, 0] rfl ?_
  refine w_X2_ask_L2 k k1 h0 h1 x2 (fun u_2 => ?_) q_F (0 : Int32) u
  refine sw_aload_n 0 dX2_ask_21 rfl rfl ?_
  refine sw_getr q_cl2 8 (r := (k + 6)) dX2_ask_22 t_167 (by decide) h0.1 rfl ?_
  refine sw_iconst (0 : Int32) dX2_ask_25 (by decide) ?_
  refine sw_aload_n 1 dX2_ask_26 rfl rfl ?_
  refine sw_geti q_cl0 0 dX2_ask_27 t_43 (by decide) h1.1 rfl ?_
  refine sw_bipush (52 : Int32) dX2_ask_30 (by decide) ?_
  refine sw_qrmc dX2_ask_32 (by decide) ?_
  refine sw_iast dX2_ask_33 h0.2.2.2.2.2.2 (fun u_3 => ?_)
  refine sw_aload_n 1 dX2_ask_34 rfl rfl ?_
  refine sw_iload_n 2 dX2_ask_35 rfl rfl ?_
  refine sw_callVi (As := [.int x2]) (k := k1) rfl dX2_ask_36 t_591 mf_X0_isParty h1.1 q_cl0 (by decide) (Nat.le_of_ble_eq_true rfl) (fun l => c_X0_isParty l k1 x2 u_3 h1) (fun r u_4 => ?_)
  refine sw_if_eq 62 dX2_ask_39 (by decide) ?_ ?_
  · exact sw_vret dX2_ask_62
  · refine sw_aload_n 0 dX2_ask_42 rfl rfl ?_
    refine sw_getr q_cl2 8 (r := (k + 6)) dX2_ask_43 t_167 (by decide) h0.1 rfl ?_
    refine sw_iconst (1 : Int32) dX2_ask_46 (by decide) ?_
    refine sw_iload_n 2 dX2_ask_47 rfl rfl ?_
    refine sw_iast dX2_ask_48 h0.2.2.2.2.2.2 (fun u_5 => ?_)
    refine sw_aload_n 0 dX2_ask_49 rfl rfl ?_
    refine sw_getr q_cl2 8 (r := (k + 6)) dX2_ask_50 t_167 (by decide) h0.1 rfl ?_
    refine sw_bipush (8 : Int32) dX2_ask_53 (by decide) ?_
    refine sw_aload_n 1 dX2_ask_55 rfl rfl ?_
    refine sw_getr q_cl0 13 (r := (k1 + 3)) dX2_ask_56 t_79 (by decide) h1.1 rfl ?_
    refine sw_iload_n 2 dX2_ask_59 rfl rfl ?_
    refine sw_iald dX2_ask_60 h1.2.2.2.1 (fun a => ?_)
    refine sw_iast dX2_ask_61 h0.2.2.2.2.2.2 (fun u_6 => ?_)
    exact sw_vret dX2_ask_62
set_option maxRecDepth 100000 in
theorem c_X2_askTree (l : Launch) {ι : qI} {b : Nat} (k : Nat) (k1 : Nat) (x2 : Int32) (u : qS) (h0 : is_X2 ι k) (h1 : is_X0 ι k1) : CN l yX2_askTree cX2_askTree 3 none 1 ι b [.ref (b + k), .ref (b + k1), .int x2] u (m_X2_askTree k k1 x2 u) := by
  refine CN.of_SW (own := RX2) rfl (by decide) (Nat.le_of_ble_eq_true rfl) [(0, .ref (b + k)), (1, .ref (b + k1)), (2, .int x2)] rfl ?_
  unfold m_X2_askTree
  refine sw_aload_n 0 dX2_askTree_0 rfl rfl ?_
  refine sw_getr q_cl2 8 (r := (k + 6)) dX2_askTree_1 t_167 (by decide) h0.1 rfl ?_
  refine sw_iconst (2 : Int32) dX2_askTree_4 (by decide) ?_
  refine sw_aload_n 1 dX2_askTree_5 rfl rfl ?_
  refine sw_getr q_cl0 15 (r := (k1 + 5)) dX2_askTree_6 t_87 (by decide) h1.1 rfl ?_
  refine sw_iload_n 2 dX2_askTree_9 rfl rfl ?_
  refine sw_iald dX2_askTree_10 h1.2.2.2.2.2.1 (fun a => ?_)
  refine sw_iast dX2_askTree_11 h0.2.2.2.2.2.2 (fun u_1 => ?_)
  refine sw_aload_n 0 dX2_askTree_12 rfl rfl ?_
  refine sw_getr q_cl2 8 (r := (k + 6)) dX2_askTree_13 t_167 (by decide) h0.1 rfl ?_
  refine sw_iconst (3 : Int32) dX2_askTree_16 (by decide) ?_
  refine sw_aload_n 1 dX2_askTree_17 rfl rfl ?_
  refine sw_getr q_cl0 16 (r := (k1 + 6)) dX2_askTree_18 t_90 (by decide) h1.1 rfl ?_
  refine sw_iload_n 2 dX2_askTree_21 rfl rfl ?_
  refine sw_iald dX2_askTree_22 h1.2.2.2.2.2.2.1 (fun a_2 => ?_)
  refine sw_iast dX2_askTree_23 h0.2.2.2.2.2.2 (fun u_3 => ?_)
  refine sw_aload_n 0 dX2_askTree_24 rfl rfl ?_
  refine sw_getr q_cl2 8 (r := (k + 6)) dX2_askTree_25 t_167 (by decide) h0.1 rfl ?_
  refine sw_iconst (4 : Int32) dX2_askTree_28 (by decide) ?_
  refine sw_aload_n 1 dX2_askTree_29 rfl rfl ?_
  refine sw_getr q_cl0 17 (r := (k1 + 7)) dX2_askTree_30 t_94 (by decide) h1.1 rfl ?_
  refine sw_iload_n 2 dX2_askTree_33 rfl rfl ?_
  refine sw_iald dX2_askTree_34 h1.2.2.2.2.2.2.2.1 (fun a_4 => ?_)
  refine sw_iast dX2_askTree_35 h0.2.2.2.2.2.2 (fun u_5 => ?_)
  exact sw_vret dX2_askTree_36
set_option maxRecDepth 100000 in
theorem w_X2_value_L5 {ι : qI} {b : Nat} (k : Nat) (h0 : is_X2 ι k) (x2 : Int32) {K348 : Int32 → qS → qR} (hK348 : ∀ (e3 : Int32) (u : qS), SW RX2 cX2_value 9 (some .int) 1 ι b 348 [(0, .ref (b + k)), (3, .int e3)] [] u (K348 e3 u)) (fu : Nat) (x3 : Int32) (x4 : Int32) (u : qS) : SW RX2 cX2_value 9 (some .int) 1 ι b 5 [(0, .ref (b + k)), (2, .int x2), (3, .int x3), (4, .int x4)] [] u (q_it2 (m_X2_value_L5 k x2 K348) fu x3 x4 u) := by
  refine SW.it2 (fun x3 x4 => [(0, .ref (b + k)), (2, .int x2), (3, .int x3), (4, .int x4)]) (fun self ih x3 x4 u => ?_) fu x3 x4 u
  unfold m_X2_value_L5
  refine sw_iload 3 dX2_value_5 rfl ?_
  refine sw_iload_n 1 dX2_value_7 rfl rfl ?_
  refine sw_icmp_ge 348 dX2_value_8 (by decide) ?_ ?_
  · exact SW.sub [0, 2] rfl (hK348 x3 u)
  · refine sw_aload_n 0 dX2_value_11 rfl rfl ?_
    refine sw_getr q_cl2 4 (r := (k + 4)) dX2_value_12 t_160 (by decide) h0.1 rfl ?_
    refine sw_iload 3 dX2_value_15 rfl ?_
    refine sw_iald dX2_value_17 h0.2.2.2.2.1 (fun a => ?_)
    refine sw_bipush (15 : Int32) dX2_value_18 (by decide) ?_
    refine sw_iand dX2_value_20 ?_
    refine SW.name (fun y5 => ?_)
    refine sw_istore (lv' := [(5, .int y5), (0, .ref (b + k)), (2, .int x2), (3, .int x3), (4, .int x4)]) dX2_value_21 (by decide) rfl ?_
    refine sw_aload_n 1 dX2_value_23 rfl rfl ?_
    refine sw_getr q_cl2 4 (r := (k + 4)) dX2_value_24 t_160 (by decide) h0.1 rfl ?_
    refine sw_iload 4 dX2_value_27 rfl ?_
    refine sw_iald dX2_value_29 h0.2.2.2.2.1 (fun a_1 => ?_)
    refine sw_iconst (4 : Int32) dX2_value_30 (by decide) ?_
    refine sw_ishr dX2_value_31 ?_
    refine SW.name (fun y6 => ?_)
    refine sw_istore (lv' := [(6, .int y6), (5, .int y5), (0, .ref (b + k)), (2, .int x2), (3, .int x3), (4, .int x4)]) dX2_value_32 (by decide) rfl ?_
    refine sw_iload 1 dX2_value_34 rfl ?_
    refine SW.jn1 342 (fun x3_2 => [(0, .ref (b + k)), (2, .int x2), (3, .int x3_2), (4, .int x4)]) (fun x3_2 => []) (fun x3_2 u_3 => ?_) (fun J342 hJ342 => ?_)
    · refine sw_iinc (lv' := [(4, .int (x4 + (1 : Int32))), (0, .ref (b + k)), (2, .int x2), (3, .int x3_2)]) 3 dX2_value_342 rfl (congrArg (x4 + ·) (by decide)) (by decide) rfl ?_
      refine sw_goto 5 dX2_value_345 (by decide) ?_
      exact SW.sub [1, 2, 3, 0] rfl (ih x3_2 (x4 + (1 : Int32)) u_3)
    · refine SW.jn0 45 ([(0, .ref (b + k)), (2, .int x2), (3, .int x3), (4, .int x4), (5, .int y5), (6, .int y6)]) ([]) (fun  u_4 => ?_) (fun J45 hJ45 => ?_)
      · refine sw_iload_n 2 dX2_value_45 rfl rfl ?_
        refine sw_bipush (31 : Int32) dX2_value_46 (by decide) ?_
        refine sw_icmp_ge 342 dX2_value_48 (by decide) ?_ ?_
        · exact SW.sub [0, 1, 2, 3] rfl (hJ342 x3 u_4)
        · refine sw_iinc (lv' := [(3, .int (x3 + (1 : Int32))), (0, .ref (b + k)), (2, .int x2), (4, .int x4), (5, .int y5), (6, .int y6)]) 2 dX2_value_51 rfl (congrArg (x3 + ·) (by decide)) (by decide) rfl ?_
          refine sw_aload_n 1 dX2_value_54 rfl rfl ?_
          refine sw_getr q_cl2 7 (r := (k + 5)) dX2_value_55 t_166 (by decide) h0.1 rfl ?_
          refine sw_iload_n 0 dX2_value_58 rfl rfl ?_
          refine sw_iload 4 dX2_value_59 rfl ?_
          refine SW.jn1 76 (fun s0 => [(0, .ref (b + k)), (2, .int x2), (3, .int (x3 + (1 : Int32))), (4, .int x4)]) (fun s0 => [.int s0, .int (x3 + (1 : Int32)), .ref (b + (k + 5))]) (fun s0 u_5 => ?_) (fun J76 hJ76 => ?_)
          · refine sw_iast dX2_value_76 h0.2.2.2.2.2.1 (fun u_6 => ?_)
            refine sw_goto 342 dX2_value_77 (by decide) ?_
            exact SW.sub [0, 1, 2, 3] rfl (hJ342 (x3 + (1 : Int32)) u_6)
          · refine sw_if_ne 69 dX2_value_61 (by decide) ?_ ?_
            · refine sw_iload 5 dX2_value_64 rfl ?_
              refine sw_goto 76 dX2_value_66 (by decide) ?_
              exact SW.sub [1, 2, 0, 3] rfl (hJ76 y6 u_4)
            · refine sw_aload_n 1 dX2_value_69 rfl rfl ?_
              refine sw_getr q_cl2 8 (r := (k + 6)) dX2_value_70 t_167 (by decide) h0.1 rfl ?_
              refine sw_iload 5 dX2_value_73 rfl ?_
              refine sw_iald dX2_value_75 h0.2.2.2.2.2.2 (fun a_7 => ?_)
              exact SW.sub [1, 2, 0, 3] rfl (hJ76 a_7 u_4)
      · refine sw_if_eq 45 dX2_value_36 (by decide) ?_ ?_
        · exact SW.sub [2, 3, 4, 5, 1, 0] rfl (hJ45  u)
        · refine sw_iload 1 dX2_value_39 rfl ?_
          refine sw_iconst (1 : Int32) dX2_value_41 (by decide) ?_
          refine sw_icmp_ne 80 dX2_value_42 (by decide) ?_ ?_
          · exact SW.sub [2, 3, 4, 5, 1, 0] rfl (hJ45  u)
          · refine sw_iload 1 dX2_value_80 rfl ?_
            refine sw_iconst (2 : Int32) dX2_value_82 (by decide) ?_
            refine sw_icmp_ne 109 dX2_value_83 (by decide) ?_ ?_
            · refine sw_iload_n 4 dX2_value_86 rfl rfl ?_
              refine sw_if_lt 342 dX2_value_87 (by decide) ?_ ?_
              · exact SW.sub [2, 3, 4, 5] rfl (hJ342 x3 u)
              · refine sw_iload 0 dX2_value_90 rfl ?_
                refine sw_if_eq 342 dX2_value_92 (by decide) ?_ ?_
                · exact SW.sub [2, 3, 4, 5] rfl (hJ342 x3 u)
                · refine sw_aload_n 2 dX2_value_95 rfl rfl ?_
                  refine sw_getr q_cl2 7 (r := (k + 5)) dX2_value_96 t_166 (by decide) h0.1 rfl ?_
                  refine sw_iload_n 4 dX2_value_99 rfl rfl ?_
                  refine sw_dup2 dX2_value_100 rfl rfl ?_
                  refine sw_iald dX2_value_101 h0.2.2.2.2.2.1 (fun a_28 => ?_)
                  refine sw_iload 0 dX2_value_102 rfl ?_
                  refine sw_idiv dX2_value_104 (fun a_29 => ?_)
                  refine sw_iast dX2_value_105 h0.2.2.2.2.2.1 (fun u_30 => ?_)
                  refine sw_goto 342 dX2_value_106 (by decide) ?_
                  exact SW.sub [2, 3, 4, 5] rfl (hJ342 x3 u_30)
            · refine sw_iload 1 dX2_value_109 rfl ?_
              refine sw_iconst (3 : Int32) dX2_value_111 (by decide) ?_
              refine sw_icmp_ne 142 dX2_value_112 (by decide) ?_ ?_
              · refine sw_iload_n 4 dX2_value_115 rfl rfl ?_
                refine sw_if_lt 342 dX2_value_116 (by decide) ?_ ?_
                · exact SW.sub [2, 3, 4, 5] rfl (hJ342 x3 u)
                · refine sw_aload_n 2 dX2_value_119 rfl rfl ?_
                  refine sw_getr q_cl2 7 (r := (k + 5)) dX2_value_120 t_166 (by decide) h0.1 rfl ?_
                  refine sw_iload_n 4 dX2_value_123 rfl rfl ?_
                  refine sw_aload_n 2 dX2_value_124 rfl rfl ?_
                  refine sw_getr q_cl2 7 (r := (k + 5)) dX2_value_125 t_166 (by decide) h0.1 rfl ?_
                  refine sw_iload_n 4 dX2_value_128 rfl rfl ?_
                  refine sw_iald dX2_value_129 h0.2.2.2.2.2.1 (fun a_24 => ?_)
                  refine SW.jn1 138 (fun s0_25 => [(0, .ref (b + k)), (2, .int x2), (3, .int x3), (4, .int x4)]) (fun s0_25 => [.int s0_25, .int x3, .ref (b + (k + 5))]) (fun s0_25 u_26 => ?_) (fun J138 hJ138 => ?_)
                  · refine sw_iast dX2_value_138 h0.2.2.2.2.2.1 (fun u_27 => ?_)
                    refine sw_goto 342 dX2_value_139 (by decide) ?_
                    exact SW.sub [0, 1, 2, 3] rfl (hJ342 x3 u_27)
                  · refine sw_if_ne 137 dX2_value_130 (by decide) ?_ ?_
                    · refine sw_iconst (1 : Int32) dX2_value_133 (by decide) ?_
                      refine sw_goto 138 dX2_value_134 (by decide) ?_
                      exact SW.sub [2, 3, 4, 5] rfl (hJ138 (1 : Int32) u)
                    · refine sw_iconst (0 : Int32) dX2_value_137 (by decide) ?_
                      exact SW.sub [2, 3, 4, 5] rfl (hJ138 (0 : Int32) u)
              · refine sw_iload_n 4 dX2_value_142 rfl rfl ?_
                refine sw_iconst (1 : Int32) dX2_value_143 (by decide) ?_
                refine sw_icmp_lt 342 dX2_value_144 (by decide) ?_ ?_
                · exact SW.sub [2, 3, 4, 5] rfl (hJ342 x3 u)
                · refine sw_aload_n 2 dX2_value_147 rfl rfl ?_
                  refine sw_getr q_cl2 7 (r := (k + 5)) dX2_value_148 t_166 (by decide) h0.1 rfl ?_
                  refine sw_iload_n 4 dX2_value_151 rfl rfl ?_
                  refine sw_iald dX2_value_152 h0.2.2.2.2.2.1 (fun a_8 => ?_)
                  refine sw_istore (lv' := [(7, .int a_8), (6, .int y6), (5, .int y5), (0, .ref (b + k)), (2, .int x2), (3, .int x3), (4, .int x4)]) dX2_value_153 (by decide) rfl ?_
                  refine sw_iinc (lv' := [(3, .int (x3 + (-1 : Int32))), (7, .int a_8), (6, .int y6), (5, .int y5), (0, .ref (b + k)), (2, .int x2), (4, .int x4)]) 5 dX2_value_155 rfl (congrArg (x3 + ·) (by decide)) (by decide) rfl ?_
                  refine sw_aload_n 4 dX2_value_158 rfl rfl ?_
                  refine sw_getr q_cl2 7 (r := (k + 5)) dX2_value_159 t_166 (by decide) h0.1 rfl ?_
                  refine sw_iload_n 0 dX2_value_162 rfl rfl ?_
                  refine sw_iald dX2_value_163 h0.2.2.2.2.2.1 (fun a_9 => ?_)
                  refine sw_istore (lv' := [(8, .int a_9), (3, .int (x3 + (-1 : Int32))), (7, .int a_8), (6, .int y6), (5, .int y5), (0, .ref (b + k)), (2, .int x2), (4, .int x4)]) dX2_value_164 (by decide) rfl ?_
                  refine sw_iload 4 dX2_value_166 rfl ?_
                  refine SW.case (fun hc4 => ?_) (fun hc4 => ?_)
                  · refine sw_tabIn 212 dX2_value_168 hc4 (by decide) (by decide) rfl (by decide) ?_
                    refine sw_aload_n 5 dX2_value_212 rfl rfl ?_
                    refine sw_getr q_cl2 7 (r := (k + 5)) dX2_value_213 t_166 (by decide) h0.1 rfl ?_
                    refine sw_iload_n 1 dX2_value_216 rfl rfl ?_
                    refine sw_iload 0 dX2_value_217 rfl ?_
                    refine sw_iload 2 dX2_value_219 rfl ?_
                    refine sw_imul dX2_value_221 ?_
                    refine sw_iast dX2_value_222 h0.2.2.2.2.2.1 (fun u_10 => ?_)
                    refine sw_goto 342 dX2_value_223 (by decide) ?_
                    exact SW.sub [5, 6, 1, 7] rfl (hJ342 (x3 + (-1 : Int32)) u_10)
                  refine SW.case (fun hc5 => ?_) (fun hc5 => ?_)
                  · refine sw_tabIn 226 dX2_value_168 hc5 (by decide) (by decide) rfl (by decide) ?_
                    refine sw_aload_n 5 dX2_value_226 rfl rfl ?_
                    refine sw_getr q_cl2 7 (r := (k + 5)) dX2_value_227 t_166 (by decide) h0.1 rfl ?_
                    refine sw_iload_n 1 dX2_value_230 rfl rfl ?_
                    refine sw_iload 0 dX2_value_231 rfl ?_
                    refine sw_iload 2 dX2_value_233 rfl ?_
                    refine sw_iadd dX2_value_235 ?_
                    refine sw_iast dX2_value_236 h0.2.2.2.2.2.1 (fun u_11 => ?_)
                    refine sw_goto 342 dX2_value_237 (by decide) ?_
                    exact SW.sub [5, 6, 1, 7] rfl (hJ342 (x3 + (-1 : Int32)) u_11)
                  refine SW.case (fun hc6 => ?_) (fun hc6 => ?_)
                  · refine sw_tabIn 240 dX2_value_168 hc6 (by decide) (by decide) rfl (by decide) ?_
                    refine sw_aload_n 5 dX2_value_240 rfl rfl ?_
                    refine sw_getr q_cl2 7 (r := (k + 5)) dX2_value_241 t_166 (by decide) h0.1 rfl ?_
                    refine sw_iload_n 1 dX2_value_244 rfl rfl ?_
                    refine sw_iload 0 dX2_value_245 rfl ?_
                    refine sw_iload 2 dX2_value_247 rfl ?_
                    refine sw_isub dX2_value_249 ?_
                    refine sw_iast dX2_value_250 h0.2.2.2.2.2.1 (fun u_12 => ?_)
                    refine sw_goto 342 dX2_value_251 (by decide) ?_
                    exact SW.sub [5, 6, 1, 7] rfl (hJ342 (x3 + (-1 : Int32)) u_12)
                  refine SW.case (fun hc7 => ?_) (fun hc7 => ?_)
                  · refine sw_tabIn 254 dX2_value_168 hc7 (by decide) (by decide) rfl (by decide) ?_
                    refine sw_aload_n 5 dX2_value_254 rfl rfl ?_
                    refine sw_getr q_cl2 7 (r := (k + 5)) dX2_value_255 t_166 (by decide) h0.1 rfl ?_
                    refine sw_iload_n 1 dX2_value_258 rfl rfl ?_
                    refine sw_iload 0 dX2_value_259 rfl ?_
                    refine sw_iload 2 dX2_value_261 rfl ?_
                    refine SW.jn1 271 (fun s0_13 => [(0, .ref (b + k)), (2, .int x2), (3, .int (x3 + (-1 : Int32))), (4, .int x4)]) (fun s0_13 => [.int s0_13, .int (x3 + (-1 : Int32)), .ref (b + (k + 5))]) (fun s0_13 u_14 => ?_) (fun J271 hJ271 => ?_)
                    · refine sw_iast dX2_value_271 h0.2.2.2.2.2.1 (fun u_15 => ?_)
                      refine sw_goto 342 dX2_value_272 (by decide) ?_
                      exact SW.sub [0, 1, 2, 3] rfl (hJ342 (x3 + (-1 : Int32)) u_15)
                    · refine sw_icmp_ge 270 dX2_value_263 (by decide) ?_ ?_
                      · refine sw_iconst (0 : Int32) dX2_value_270 (by decide) ?_
                        exact SW.sub [5, 6, 1, 7] rfl (hJ271 (0 : Int32) u)
                      · refine sw_iconst (1 : Int32) dX2_value_266 (by decide) ?_
                        refine sw_goto 271 dX2_value_267 (by decide) ?_
                        exact SW.sub [5, 6, 1, 7] rfl (hJ271 (1 : Int32) u)
                  refine SW.case (fun hc8 => ?_) (fun hc8 => ?_)
                  · refine sw_tabIn 275 dX2_value_168 hc8 (by decide) (by decide) rfl (by decide) ?_
                    refine sw_aload_n 5 dX2_value_275 rfl rfl ?_
                    refine sw_getr q_cl2 7 (r := (k + 5)) dX2_value_276 t_166 (by decide) h0.1 rfl ?_
                    refine sw_iload_n 1 dX2_value_279 rfl rfl ?_
                    refine sw_iload 0 dX2_value_280 rfl ?_
                    refine sw_iload 2 dX2_value_282 rfl ?_
                    refine SW.jn1 292 (fun s0_16 => [(0, .ref (b + k)), (2, .int x2), (3, .int (x3 + (-1 : Int32))), (4, .int x4)]) (fun s0_16 => [.int s0_16, .int (x3 + (-1 : Int32)), .ref (b + (k + 5))]) (fun s0_16 u_17 => ?_) (fun J292 hJ292 => ?_)
                    · refine sw_iast dX2_value_292 h0.2.2.2.2.2.1 (fun u_18 => ?_)
                      refine sw_goto 342 dX2_value_293 (by decide) ?_
                      exact SW.sub [0, 1, 2, 3] rfl (hJ342 (x3 + (-1 : Int32)) u_18)
                    · refine sw_icmp_ne 291 dX2_value_284 (by decide) ?_ ?_
                      · refine sw_iconst (1 : Int32) dX2_value_287 (by decide) ?_
                        refine sw_goto 292 dX2_value_288 (by decide) ?_
                        exact SW.sub [5, 6, 1, 7] rfl (hJ292 (1 : Int32) u)
                      · refine sw_iconst (0 : Int32) dX2_value_291 (by decide) ?_
                        exact SW.sub [5, 6, 1, 7] rfl (hJ292 (0 : Int32) u)
                  refine SW.case (fun hc9 => ?_) (fun hc9 => ?_)
                  · refine sw_tabIn 296 dX2_value_168 hc9 (by decide) (by decide) rfl (by decide) ?_
                    refine sw_aload_n 5 dX2_value_296 rfl rfl ?_
                    refine sw_getr q_cl2 7 (r := (k + 5)) dX2_value_297 t_166 (by decide) h0.1 rfl ?_
                    refine sw_iload_n 1 dX2_value_300 rfl rfl ?_
                    refine sw_iload 0 dX2_value_301 rfl ?_
                    refine sw_iload 2 dX2_value_303 rfl ?_
                    refine SW.jn1 313 (fun s0_19 => [(0, .ref (b + k)), (2, .int x2), (3, .int (x3 + (-1 : Int32))), (4, .int x4)]) (fun s0_19 => [.int s0_19, .int (x3 + (-1 : Int32)), .ref (b + (k + 5))]) (fun s0_19 u_20 => ?_) (fun J313 hJ313 => ?_)
                    · refine sw_iast dX2_value_313 h0.2.2.2.2.2.1 (fun u_21 => ?_)
                      refine sw_goto 342 dX2_value_314 (by decide) ?_
                      exact SW.sub [0, 1, 2, 3] rfl (hJ342 (x3 + (-1 : Int32)) u_21)
                    · refine sw_icmp_le 312 dX2_value_305 (by decide) ?_ ?_
                      · refine sw_iconst (0 : Int32) dX2_value_312 (by decide) ?_
                        exact SW.sub [5, 6, 1, 7] rfl (hJ313 (0 : Int32) u)
                      · refine sw_iconst (1 : Int32) dX2_value_308 (by decide) ?_
                        refine sw_goto 313 dX2_value_309 (by decide) ?_
                        exact SW.sub [5, 6, 1, 7] rfl (hJ313 (1 : Int32) u)
                  refine SW.case (fun hc10 => ?_) (fun hc10 => ?_)
                  · refine sw_tabIn 317 dX2_value_168 hc10 (by decide) (by decide) rfl (by decide) ?_
                    refine sw_aload_n 5 dX2_value_317 rfl rfl ?_
                    refine sw_getr q_cl2 7 (r := (k + 5)) dX2_value_318 t_166 (by decide) h0.1 rfl ?_
                    refine sw_iload_n 1 dX2_value_321 rfl rfl ?_
                    refine sw_iload 0 dX2_value_322 rfl ?_
                    refine sw_iload 2 dX2_value_324 rfl ?_
                    refine sw_iand dX2_value_326 ?_
                    refine sw_iast dX2_value_327 h0.2.2.2.2.2.1 (fun u_22 => ?_)
                    refine sw_goto 342 dX2_value_328 (by decide) ?_
                    exact SW.sub [5, 6, 1, 7] rfl (hJ342 (x3 + (-1 : Int32)) u_22)
                  refine sw_tabOut 331 dX2_value_168 (by omega) (by decide) ?_
                  refine sw_aload_n 5 dX2_value_331 rfl rfl ?_
                  refine sw_getr q_cl2 7 (r := (k + 5)) dX2_value_332 t_166 (by decide) h0.1 rfl ?_
                  refine sw_iload_n 1 dX2_value_335 rfl rfl ?_
                  refine sw_iload 0 dX2_value_336 rfl ?_
                  refine sw_iload 2 dX2_value_338 rfl ?_
                  refine sw_ior dX2_value_340 ?_
                  refine sw_iast dX2_value_341 h0.2.2.2.2.2.1 (fun u_23 => ?_)
                  exact SW.sub [5, 6, 1, 7] rfl (hJ342 (x3 + (-1 : Int32)) u_23)
set_option maxRecDepth 100000 in
theorem c_X2_value (l : Launch) {ι : qI} {b : Nat} (k : Nat) (x1 : Int32) (x2 : Int32) (u : qS) (h0 : is_X2 ι k) : CN l yX2_value cX2_value 9 (some .int) 1 ι b [.ref (b + k), .int x1, .int x2] u (m_X2_value k x1 x2 u) := by
  refine CN.of_SW (own := RX2) rfl (by decide) (Nat.le_of_ble_eq_true rfl) [(0, .ref (b + k)), (1, .int x1), (2, .int x2)] rfl ?_
  unfold m_X2_value
  refine sw_iconst (-1 : Int32) dX2_value_0 (by decide) ?_
  refine sw_istore_n (lv' := [(3, .int (-1 : Int32)), (0, .ref (b + k)), (1, .int x1), (2, .int x2)]) dX2_value_1 rfl (by decide) rfl ?_
  refine sw_iload_n 2 dX2_value_2 rfl rfl ?_
  refine sw_istore (lv' := [(4, .int x1), (3, .int (-1 : Int32)), (0, .ref (b + k)), (1, .int x1), (2, .int x2)]) dX2_value_3 (by decide) rfl ?_
  refine SW.sub (lv' := [(0, .ref (b + k)), (2, .int x2), (3, .int (-1 : Int32)), (4, .int x1)]) [2, 4, 1, 0] rfl ?_
  refine w_X2_value_L5 k h0 x2 (fun x3 u_31 => ?_) q_F (-1 : Int32) x1 u
  refine sw_iload_n 1 dX2_value_348 rfl rfl ?_
  refine sw_if_lt 361 dX2_value_349 (by decide) ?_ ?_
  · refine sw_iconst (0 : Int32) dX2_value_361 (by decide) ?_
    exact sw_iret dX2_value_362
  · refine sw_aload_n 0 dX2_value_352 rfl rfl ?_
    refine sw_getr q_cl2 7 (r := (k + 5)) dX2_value_353 t_166 (by decide) h0.1 rfl ?_
    refine sw_iload_n 1 dX2_value_356 rfl rfl ?_
    refine sw_iald dX2_value_357 h0.2.2.2.2.2.1 (fun a => ?_)
    refine sw_goto 362 dX2_value_358 (by decide) ?_
    exact sw_iret dX2_value_362
set_option maxRecDepth 100000 in
theorem w_X2_tell_L2 {ι : qI} {b : Nat} (k : Nat) (h0 : is_X2 ι k) (x1 : Int32) (x2 : Int32) {K58 : Int32 → qS → qR} {K81 : qS → qR} (hK58 : ∀ (e3 : Int32) (u : qS), SW RX2 cX2_tell 4 (some .int) 2 ι b 58 [(0, .ref (b + k)), (3, .int e3)] [] u (K58 e3 u)) (hK81 : ∀  (u : qS), SW RX2 cX2_tell 4 (some .int) 2 ι b 81 [(2, .int x2)] [] u (K81  u)) (fu : Nat) (x3 : Int32) (u : qS) : SW RX2 cX2_tell 4 (some .int) 2 ι b 2 [(0, .ref (b + k)), (1, .int x1), (2, .int x2), (3, .int x3)] [] u (q_it1 (m_X2_tell_L2 k x1 x2 K58 K81) fu x3 u) := by
  refine SW.it1 (fun x3 => [(0, .ref (b + k)), (1, .int x1), (2, .int x2), (3, .int x3)]) (fun self ih x3 u => ?_) fu x3 u
  unfold m_X2_tell_L2
  refine sw_iload_n 3 dX2_tell_2 rfl rfl ?_
  refine sw_aload_n 0 dX2_tell_3 rfl rfl ?_
  refine sw_geti q_cl2 0 dX2_tell_4 t_151 (by decide) h0.1 rfl ?_
  refine sw_icmp_ge 81 dX2_tell_7 (by decide) ?_ ?_
  · exact SW.sub [2] rfl (hK81  u)
  · refine sw_aload_n 0 dX2_tell_10 rfl rfl ?_
    refine sw_getr q_cl2 1 (r := (k + 1)) dX2_tell_11 t_154 (by decide) h0.1 rfl ?_
    refine sw_iload_n 3 dX2_tell_14 rfl rfl ?_
    refine sw_iald dX2_tell_15 h0.2.1 (fun a => ?_)
    refine sw_iload_n 1 dX2_tell_16 rfl rfl ?_
    refine SW.jn0 75 ([(0, .ref (b + k)), (1, .int x1), (2, .int x2), (3, .int x3)]) ([]) (fun  u_1 => ?_) (fun J75 hJ75 => ?_)
    · refine sw_iinc (lv' := [(3, .int (x3 + (1 : Int32))), (0, .ref (b + k)), (1, .int x1), (2, .int x2)]) 3 dX2_tell_75 rfl (congrArg (x3 + ·) (by decide)) (by decide) rfl ?_
      refine sw_goto 2 dX2_tell_78 (by decide) ?_
      exact SW.sub [1, 2, 3, 0] rfl (ih (x3 + (1 : Int32)) u_1)
    · refine sw_icmp_ne 75 dX2_tell_17 (by decide) ?_ ?_
      · refine sw_aload_n 0 dX2_tell_20 rfl rfl ?_
        refine sw_getr q_cl2 3 (r := (k + 3)) dX2_tell_21 t_158 (by decide) h0.1 rfl ?_
        refine sw_iload_n 3 dX2_tell_24 rfl rfl ?_
        refine sw_iald dX2_tell_25 h0.2.2.2.1 (fun a_2 => ?_)
        refine sw_aload_n 0 dX2_tell_26 rfl rfl ?_
        refine sw_getr q_cl2 2 (r := (k + 2)) dX2_tell_27 t_156 (by decide) h0.1 rfl ?_
        refine sw_iload_n 3 dX2_tell_30 rfl rfl ?_
        refine sw_iconst (1 : Int32) dX2_tell_31 (by decide) ?_
        refine sw_iadd dX2_tell_32 ?_
        refine sw_iald dX2_tell_33 h0.2.2.1 (fun a_3 => ?_)
        refine sw_icmp_eq 58 dX2_tell_34 (by decide) ?_ ?_
        · exact SW.sub [0, 3] rfl (hK58 x3 u)
        · refine sw_aload_n 0 dX2_tell_37 rfl rfl ?_
          refine sw_aload_n 0 dX2_tell_38 rfl rfl ?_
          refine sw_getr q_cl2 3 (r := (k + 3)) dX2_tell_39 t_158 (by decide) h0.1 rfl ?_
          refine sw_iload_n 3 dX2_tell_42 rfl rfl ?_
          refine sw_iald dX2_tell_43 h0.2.2.2.1 (fun a_4 => ?_)
          refine sw_aload_n 0 dX2_tell_44 rfl rfl ?_
          refine sw_getr q_cl2 2 (r := (k + 2)) dX2_tell_45 t_156 (by decide) h0.1 rfl ?_
          refine sw_iload_n 3 dX2_tell_48 rfl rfl ?_
          refine sw_iconst (1 : Int32) dX2_tell_49 (by decide) ?_
          refine sw_iadd dX2_tell_50 ?_
          refine sw_iald dX2_tell_51 h0.2.2.1 (fun a_5 => ?_)
          refine sw_callVi (As := [.int a_4, .int a_5]) (k := k) rfl dX2_tell_52 t_600 mf_X2_value h0.1 q_cl2 (by decide) (Nat.le_of_ble_eq_true rfl) (fun l => c_X2_value l k a_4 a_5 u h0) (fun r u_6 => ?_)
          refine sw_if_eq 75 dX2_tell_55 (by decide) ?_ ?_
          · exact SW.sub [0, 1, 2, 3] rfl (hJ75  u_6)
          · exact SW.sub [0, 3] rfl (hK58 x3 u_6)
      · exact SW.sub [0, 1, 2, 3] rfl (hJ75  u)
set_option maxRecDepth 100000 in
theorem c_X2_tell (l : Launch) {ι : qI} {b : Nat} (k : Nat) (x1 : Int32) (x2 : Int32) (u : qS) (h0 : is_X2 ι k) : CN l yX2_tell cX2_tell 4 (some .int) 2 ι b [.ref (b + k), .int x1, .int x2] u (m_X2_tell k x1 x2 u) := by
  refine CN.of_SW (own := RX2) rfl (by decide) (Nat.le_of_ble_eq_true rfl) [(0, .ref (b + k)), (1, .int x1), (2, .int x2)] rfl ?_
  unfold m_X2_tell
  refine sw_iconst (0 : Int32) dX2_tell_0 (by decide) ?_
  refine sw_istore_n (lv' := [(3, .int (0 : Int32)), (0, .ref (b + k)), (1, .int x1), (2, .int x2)]) dX2_tell_1 rfl (by decide) rfl ?_
  refine SW.sub (lv' := [(0, .ref (b + k)), (1, .int x1), (2, .int x2), (3, .int (0 : Int32))]) [1, 2, 3, 0] rfl ?_
  refine w_X2_tell_L2 k h0 x1 x2 (fun x3 u_7 => ?_) (fun u_10 => ?_) q_F (0 : Int32) u
  · refine sw_aload_n 0 dX2_tell_58 rfl rfl ?_
    refine sw_aload_n 0 dX2_tell_59 rfl rfl ?_
    refine sw_getr q_cl2 2 (r := (k + 2)) dX2_tell_60 t_156 (by decide) h0.1 rfl ?_
    refine sw_iload_n 1 dX2_tell_63 rfl rfl ?_
    refine sw_iald dX2_tell_64 h0.2.2.1 (fun a => ?_)
    refine sw_aload_n 0 dX2_tell_65 rfl rfl ?_
    refine sw_getr q_cl2 3 (r := (k + 3)) dX2_tell_66 t_158 (by decide) h0.1 rfl ?_
    refine sw_iload_n 1 dX2_tell_69 rfl rfl ?_
    refine sw_iald dX2_tell_70 h0.2.2.2.1 (fun a_8 => ?_)
    refine sw_callVi (As := [.int a, .int a_8]) (k := k) rfl dX2_tell_71 t_600 mf_X2_value h0.1 q_cl2 (by decide) (Nat.le_of_ble_eq_true rfl) (fun l => c_X2_value l k a a_8 u_7 h0) (fun r u_9 => ?_)
    exact sw_iret dX2_tell_74
  · refine sw_iload_n 0 dX2_tell_81 rfl rfl ?_
    exact sw_iret dX2_tell_82
set_option maxRecDepth 100000 in
theorem c_X2_hold (l : Launch) {ι : qI} {b : Nat}  (x0 : Int32) (x1 : Int32) (u : qS)  : CN l yX2_hold cX2_hold 2 (some .int) 1 ι b [.int x0, .int x1] u (m_X2_hold x0 x1 u) := by
  refine CN.of_SW (own := RX2) rfl (by decide) (Nat.le_of_ble_eq_true rfl) [(0, .int x0), (1, .int x1)] rfl ?_
  unfold m_X2_hold
  refine sw_iconst (0 : Int32) dX2_hold_0 (by decide) ?_
  refine sw_iload_n 1 dX2_hold_1 rfl rfl ?_
  refine sw_iload_n 0 dX2_hold_2 rfl rfl ?_
  refine sw_qmin dX2_hold_3 t_607 t_522 t_14 t_523 (by decide) (Nat.le_of_ble_eq_true rfl) ?_
  refine sw_qmax dX2_hold_6 t_608 t_609 t_14 t_610 (by decide) (Nat.le_of_ble_eq_true rfl) ?_
  exact sw_iret dX2_hold_9
set_option maxRecDepth 100000 in
theorem c_X2_bears (l : Launch) {ι : qI} {b : Nat} (k : Nat) (k1 : Nat) (x2 : Int32) (u : qS) (h0 : is_X2 ι k) (h1 : is_X0 ι k1) : CN l yX2_bears cX2_bears 3 (some .int) 3 ι b [.ref (b + k), .ref (b + k1), .int x2] u (m_X2_bears k k1 x2 u) := by
  refine CN.of_SW (own := RX2) rfl (by decide) (Nat.le_of_ble_eq_true rfl) [(0, .ref (b + k)), (1, .ref (b + k1)), (2, .int x2)] rfl ?_
  unfold m_X2_bears
  refine sw_aload_n 0 dX2_bears_0 rfl rfl ?_
  refine sw_aload_n 1 dX2_bears_1 rfl rfl ?_
  refine sw_aload_n 1 dX2_bears_2 rfl rfl ?_
  refine sw_getr q_cl0 14 (r := (k1 + 4)) dX2_bears_3 t_83 (by decide) h1.1 rfl ?_
  refine sw_iload_n 2 dX2_bears_6 rfl rfl ?_
  refine sw_iald dX2_bears_7 h1.2.2.2.2.1 (fun a => ?_)
  refine sw_callVv (As := [.ref (b + k1), .int a]) (k := k) rfl dX2_bears_8 t_587 mf_X2_ask h0.1 q_cl2 (by decide) (Nat.le_of_ble_eq_true rfl) (fun l => c_X2_ask l k k1 a u h0 h1) (fun _ u_1 => ?_)
  refine sw_aload_n 0 dX2_bears_11 rfl rfl ?_
  refine sw_aload_n 1 dX2_bears_12 rfl rfl ?_
  refine sw_iload_n 2 dX2_bears_13 rfl rfl ?_
  refine sw_callVv (As := [.ref (b + k1), .int x2]) (k := k) rfl dX2_bears_14 t_592 mf_X2_askTree h0.1 q_cl2 (by decide) (Nat.le_of_ble_eq_true rfl) (fun l => c_X2_askTree l k k1 x2 u_1 h0 h1) (fun _ u_2 => ?_)
  refine sw_aload_n 0 dX2_bears_17 rfl rfl ?_
  refine sw_iconst (0 : Int32) dX2_bears_18 (by decide) ?_
  refine sw_aload_n 1 dX2_bears_19 rfl rfl ?_
  refine sw_getr q_cl0 16 (r := (k1 + 6)) dX2_bears_20 t_90 (by decide) h1.1 rfl ?_
  refine sw_iload_n 2 dX2_bears_23 rfl rfl ?_
  refine sw_iald dX2_bears_24 h1.2.2.2.2.2.2.1 (fun a_3 => ?_)
  refine sw_iconst (5 : Int32) dX2_bears_25 (by decide) ?_
  refine sw_idivc dX2_bears_26 (by decide) ?_
  refine sw_callVi (As := [.int (0 : Int32), .int (a_3 / (5 : Int32))]) (k := k) rfl dX2_bears_27 t_596 mf_X2_tell h0.1 q_cl2 (by decide) (Nat.le_of_ble_eq_true rfl) (fun l => c_X2_tell l k (0 : Int32) (a_3 / (5 : Int32)) u_2 h0) (fun r u_4 => ?_)
  refine sw_bipush (99 : Int32) dX2_bears_30 (by decide) ?_
  refine sw_callSi (As := [.int r, .int (99 : Int32)]) rfl dX2_bears_32 t_604 mf_X2_hold (by decide) (Nat.le_of_ble_eq_true rfl) (fun l => c_X2_hold l r (99 : Int32) u_4 ) (fun r_5 u_6 => ?_)
  exact sw_iret dX2_bears_35
set_option maxRecDepth 100000 in
theorem c_X2_wants (l : Launch) {ι : qI} {b : Nat} (k : Nat) (k1 : Nat) (x2 : Int32) (u : qS) (h0 : is_X2 ι k) (h1 : is_X0 ι k1) : CN l yX2_wants cX2_wants 3 (some .int) 3 ι b [.ref (b + k), .ref (b + k1), .int x2] u (m_X2_wants k k1 x2 u) := by
  refine CN.of_SW (own := RX2) rfl (by decide) (Nat.le_of_ble_eq_true rfl) [(0, .ref (b + k)), (1, .ref (b + k1)), (2, .int x2)] rfl ?_
  unfold m_X2_wants
  refine sw_aload_n 0 dX2_wants_0 rfl rfl ?_
  refine sw_aload_n 1 dX2_wants_1 rfl rfl ?_
  refine sw_iconst (-1 : Int32) dX2_wants_2 (by decide) ?_
  refine sw_callVv (As := [.ref (b + k1), .int (-1 : Int32)]) (k := k) rfl dX2_wants_3 t_587 mf_X2_ask h0.1 q_cl2 (by decide) (Nat.le_of_ble_eq_true rfl) (fun l => c_X2_ask l k k1 (-1 : Int32) u h0 h1) (fun _ u_1 => ?_)
  refine sw_aload_n 0 dX2_wants_6 rfl rfl ?_
  refine sw_getr q_cl2 8 (r := (k + 6)) dX2_wants_7 t_167 (by decide) h0.1 rfl ?_
  refine sw_iconst (5 : Int32) dX2_wants_10 (by decide) ?_
  refine sw_aload_n 1 dX2_wants_11 rfl rfl ?_
  refine sw_getr q_cl0 18 (r := (k1 + 8)) dX2_wants_12 t_97 (by decide) h1.1 rfl ?_
  refine sw_iload_n 2 dX2_wants_15 rfl rfl ?_
  refine sw_iald dX2_wants_16 h1.2.2.2.2.2.2.2.2.1 (fun a => ?_)
  refine sw_iast dX2_wants_17 h0.2.2.2.2.2.2 (fun u_2 => ?_)
  refine sw_aload_n 0 dX2_wants_18 rfl rfl ?_
  refine sw_iconst (1 : Int32) dX2_wants_19 (by decide) ?_
  refine sw_aload_n 1 dX2_wants_20 rfl rfl ?_
  refine sw_getr q_cl0 18 (r := (k1 + 8)) dX2_wants_21 t_97 (by decide) h1.1 rfl ?_
  refine sw_iload_n 2 dX2_wants_24 rfl rfl ?_
  refine sw_iald dX2_wants_25 h1.2.2.2.2.2.2.2.2.1 (fun a_3 => ?_)
  refine sw_callVi (As := [.int (1 : Int32), .int a_3]) (k := k) rfl dX2_wants_26 t_596 mf_X2_tell h0.1 q_cl2 (by decide) (Nat.le_of_ble_eq_true rfl) (fun l => c_X2_tell l k (1 : Int32) a_3 u_2 h0) (fun r u_4 => ?_)
  refine sw_bipush (20 : Int32) dX2_wants_29 (by decide) ?_
  refine sw_callSi (As := [.int r, .int (20 : Int32)]) rfl dX2_wants_31 t_604 mf_X2_hold (by decide) (Nat.le_of_ble_eq_true rfl) (fun l => c_X2_hold l r (20 : Int32) u_4 ) (fun r_5 u_6 => ?_)
  exact sw_iret dX2_wants_34
set_option maxRecDepth 100000 in
theorem c_X4_step (l : Launch) {ι : qI} {b : Nat} (k : Nat) (x1 : Int32) (x2 : Int32) (u : qS) (h0 : is_X4 ι k) : CN l yX4_step cX4_step 3 (some .int) 1 ι b [.ref (b + k), .int x1, .int x2] u (m_X4_step k x1 x2 u) := by
  refine CN.of_SW (own := RX4) rfl (by decide) (Nat.le_of_ble_eq_true rfl) [(0, .ref (b + k)), (1, .int x1), (2, .int x2)] rfl ?_
  unfold m_X4_step
  refine sw_iload_n 2 dX4_step_0 rfl rfl ?_
  refine sw_if_lt 28 dX4_step_1 (by decide) ?_ ?_
  · refine sw_iconst (-1 : Int32) dX4_step_28 (by decide) ?_
    exact sw_iret dX4_step_29
  · refine sw_iload_n 2 dX4_step_4 rfl rfl ?_
    refine sw_aload_n 0 dX4_step_5 rfl rfl ?_
    refine sw_getr q_cl4 1 (r := (k + 1)) dX4_step_6 t_196 (by decide) h0.1 rfl ?_
    refine sw_iload_n 1 dX4_step_9 rfl rfl ?_
    refine sw_iald dX4_step_10 h0.2.1 (fun a => ?_)
    refine sw_icmp_ge 28 dX4_step_11 (by decide) ?_ ?_
    · refine sw_iconst (-1 : Int32) dX4_step_28 (by decide) ?_
      exact sw_iret dX4_step_29
    · refine sw_aload_n 0 dX4_step_14 rfl rfl ?_
      refine sw_getr q_cl4 2 (r := (k + 2)) dX4_step_15 t_199 (by decide) h0.1 rfl ?_
      refine sw_iload_n 1 dX4_step_18 rfl rfl ?_
      refine sw_bipush (8 : Int32) dX4_step_19 (by decide) ?_
      refine sw_imul dX4_step_21 ?_
      refine sw_iload_n 2 dX4_step_22 rfl rfl ?_
      refine sw_iadd dX4_step_23 ?_
      refine sw_iald dX4_step_24 h0.2.2.1 (fun a_1 => ?_)
      refine sw_goto 29 dX4_step_25 (by decide) ?_
      exact sw_iret dX4_step_29
set_option maxRecDepth 100000 in
theorem c_X0_tasteFor (l : Launch) {ι : qI} {b : Nat} (k : Nat) (x1 : Int32) (x2 : Int32) (u : qS) (h0 : is_X0 ι k) : CN l yX0_tasteFor cX0_tasteFor 3 (some .int) 1 ι b [.ref (b + k), .int x1, .int x2] u (m_X0_tasteFor k x1 x2 u) := by
  refine CN.of_SW (own := RX0) rfl (by decide) (Nat.le_of_ble_eq_true rfl) [(0, .ref (b + k)), (1, .int x1), (2, .int x2)] rfl ?_
  unfold m_X0_tasteFor
  refine sw_aload_n 0 dX0_tasteFor_0 rfl rfl ?_
  refine sw_getr q_cl0 19 (r := (k + 9)) dX0_tasteFor_1 t_100 (by decide) h0.1 rfl ?_
  refine sw_iload_n 1 dX0_tasteFor_4 rfl rfl ?_
  refine sw_iconst (5 : Int32) dX0_tasteFor_5 (by decide) ?_
  refine sw_imul dX0_tasteFor_6 ?_
  refine sw_iload_n 2 dX0_tasteFor_7 rfl rfl ?_
  refine sw_iadd dX0_tasteFor_8 ?_
  refine sw_iald dX0_tasteFor_9 h0.2.2.2.2.2.2.2.2.2 (fun a => ?_)
  exact sw_iret dX0_tasteFor_10
set_option maxRecDepth 100000 in
theorem w_X0_treeFor_L8 {ι : qI} {b : Nat} (k : Nat) (h0 : is_X0 ι k) (x1 : Int32) (x2 : Int32) {K78 : Int32 → qS → qR} (hK78 : ∀ (e3 : Int32) (u : qS), SW RX0 cX0_treeFor 6 (some .int) 2 ι b 78 [(3, .int e3)] [] u (K78 e3 u)) (fu : Nat) (x3 : Int32) (x4 : Int32) (x5 : Int32) (u : qS) : SW RX0 cX0_treeFor 6 (some .int) 2 ι b 8 [(0, .ref (b + k)), (1, .int x1), (2, .int x2), (3, .int x3), (4, .int x4), (5, .int x5)] [] u (q_it3 (m_X0_treeFor_L8 k x1 x2 K78) fu x3 x4 x5 u) := by
  refine SW.it3 (fun x3 x4 x5 => [(0, .ref (b + k)), (1, .int x1), (2, .int x2), (3, .int x3), (4, .int x4), (5, .int x5)]) (fun self ih x3 x4 x5 u => ?_) fu x3 x4 x5 u
  unfold m_X0_treeFor_L8
  refine sw_iload 5 dX0_treeFor_8 rfl ?_
  refine sw_aload_n 0 dX0_treeFor_10 rfl rfl ?_
  refine sw_geti q_cl0 8 dX0_treeFor_11 t_64 (by decide) h0.1 rfl ?_
  refine sw_icmp_ge 78 dX0_treeFor_14 (by decide) ?_ ?_
  · exact SW.sub [3] rfl (hK78 x3 u)
  · refine sw_aload_n 0 dX0_treeFor_17 rfl rfl ?_
    refine sw_getr q_cl0 15 (r := (k + 5)) dX0_treeFor_18 t_86 (by decide) h0.1 rfl ?_
    refine sw_iload 5 dX0_treeFor_21 rfl ?_
    refine sw_iald dX0_treeFor_23 h0.2.2.2.2.2.1 (fun a => ?_)
    refine sw_iload_n 2 dX0_treeFor_24 rfl rfl ?_
    refine SW.jn2 72 (fun x3_1 x4_2 => [(0, .ref (b + k)), (1, .int x1), (2, .int x2), (3, .int x3_1), (4, .int x4_2), (5, .int x5)]) (fun x3_1 x4_2 => []) (fun x3_1 x4_2 u_3 => ?_) (fun J72 hJ72 => ?_)
    · refine sw_iinc (lv' := [(5, .int (x5 + (1 : Int32))), (0, .ref (b + k)), (1, .int x1), (2, .int x2), (3, .int x3_1), (4, .int x4_2)]) 5 dX0_treeFor_72 rfl (congrArg (x5 + ·) (by decide)) (by decide) rfl ?_
      refine sw_goto 8 dX0_treeFor_75 (by decide) ?_
      exact SW.sub [1, 2, 3, 4, 5, 0] rfl (ih x3_1 x4_2 (x5 + (1 : Int32)) u_3)
    · refine sw_icmp_ne 72 dX0_treeFor_25 (by decide) ?_ ?_
      · refine sw_aload_n 0 dX0_treeFor_28 rfl rfl ?_
        refine sw_getr q_cl0 17 (r := (k + 7)) dX0_treeFor_29 t_92 (by decide) h0.1 rfl ?_
        refine sw_iload 5 dX0_treeFor_32 rfl ?_
        refine sw_iald dX0_treeFor_34 h0.2.2.2.2.2.2.2.1 (fun a_4 => ?_)
        refine sw_if_le 72 dX0_treeFor_35 (by decide) ?_ ?_
        · exact SW.sub [0, 1, 2, 3, 4, 5] rfl (hJ72 x3 x4 u)
        · refine sw_aload_n 0 dX0_treeFor_38 rfl rfl ?_
          refine sw_iload_n 1 dX0_treeFor_39 rfl rfl ?_
          refine sw_aload_n 0 dX0_treeFor_40 rfl rfl ?_
          refine sw_getr q_cl0 14 (r := (k + 4)) dX0_treeFor_41 t_82 (by decide) h0.1 rfl ?_
          refine sw_iload 5 dX0_treeFor_44 rfl ?_
          refine sw_iald dX0_treeFor_46 h0.2.2.2.2.1 (fun a_5 => ?_)
          refine sw_callVi (As := [.int x1, .int a_5]) (k := k) rfl dX0_treeFor_47 t_631 mf_X0_tasteFor h0.1 q_cl0 (by decide) (Nat.le_of_ble_eq_true rfl) (fun l => c_X0_tasteFor l k x1 a_5 u h0) (fun r u_6 => ?_)
          refine sw_iload 4 dX0_treeFor_50 rfl ?_
          refine sw_icmp_le 72 dX0_treeFor_52 (by decide) ?_ ?_
          · exact SW.sub [0, 1, 2, 3, 4, 5] rfl (hJ72 x3 x4 u_6)
          · refine sw_iload 5 dX0_treeFor_55 rfl ?_
            refine sw_istore_n (lv' := [(3, .int x5), (0, .ref (b + k)), (1, .int x1), (2, .int x2), (4, .int x4), (5, .int x5)]) dX0_treeFor_57 rfl (by decide) rfl ?_
            refine sw_aload_n 1 dX0_treeFor_58 rfl rfl ?_
            refine sw_iload_n 2 dX0_treeFor_59 rfl rfl ?_
            refine sw_aload_n 1 dX0_treeFor_60 rfl rfl ?_
            refine sw_getr q_cl0 14 (r := (k + 4)) dX0_treeFor_61 t_82 (by decide) h0.1 rfl ?_
            refine sw_iload 5 dX0_treeFor_64 rfl ?_
            refine sw_iald dX0_treeFor_66 h0.2.2.2.2.1 (fun a_7 => ?_)
            refine sw_callVi (As := [.int x1, .int a_7]) (k := k) rfl dX0_treeFor_67 t_631 mf_X0_tasteFor h0.1 q_cl0 (by decide) (Nat.le_of_ble_eq_true rfl) (fun l => c_X0_tasteFor l k x1 a_7 u_6 h0) (fun r_8 u_9 => ?_)
            refine sw_istore (lv' := [(4, .int r_8), (3, .int x5), (0, .ref (b + k)), (1, .int x1), (2, .int x2), (5, .int x5)]) dX0_treeFor_70 (by decide) rfl ?_
            exact SW.sub [2, 3, 4, 1, 0, 5] rfl (hJ72 x5 r_8 u_9)
      · exact SW.sub [0, 1, 2, 3, 4, 5] rfl (hJ72 x3 x4 u)
set_option maxRecDepth 100000 in
theorem c_X0_treeFor (l : Launch) {ι : qI} {b : Nat} (k : Nat) (x1 : Int32) (x2 : Int32) (u : qS) (h0 : is_X0 ι k) : CN l yX0_treeFor cX0_treeFor 6 (some .int) 2 ι b [.ref (b + k), .int x1, .int x2] u (m_X0_treeFor k x1 x2 u) := by
  refine CN.of_SW (own := RX0) rfl (by decide) (Nat.le_of_ble_eq_true rfl) [(0, .ref (b + k)), (1, .int x1), (2, .int x2)] rfl ?_
  unfold m_X0_treeFor
  refine sw_iconst (-1 : Int32) dX0_treeFor_0 (by decide) ?_
  refine sw_istore_n (lv' := [(3, .int (-1 : Int32)), (0, .ref (b + k)), (1, .int x1), (2, .int x2)]) dX0_treeFor_1 rfl (by decide) rfl ?_
  refine sw_iconst (0 : Int32) dX0_treeFor_2 (by decide) ?_
  refine sw_istore (lv' := [(4, .int (0 : Int32)), (3, .int (-1 : Int32)), (0, .ref (b + k)), (1, .int x1), (2, .int x2)]) dX0_treeFor_3 (by decide) rfl ?_
  refine sw_iconst (0 : Int32) dX0_treeFor_5 (by decide) ?_
  refine sw_istore (lv' := [(5, .int (0 : Int32)), (4, .int (0 : Int32)), (3, .int (-1 : Int32)), (0, .ref (b + k)), (1, .int x1), (2, .int x2)]) dX0_treeFor_6 (by decide) rfl ?_
  refine SW.sub (lv' := [(0, .ref (b + k)), (1, .int x1), (2, .int x2), (3, .int (-1 : Int32)), (4, .int (0 : Int32)), (5, .int (0 : Int32))]) [3, 4, 5, 2, 1, 0] rfl ?_
  refine w_X0_treeFor_L8 k h0 x1 x2 (fun x3 u_10 => ?_) q_F (-1 : Int32) (0 : Int32) (0 : Int32) u
  refine sw_iload_n 0 dX0_treeFor_78 rfl rfl ?_
  exact sw_iret dX0_treeFor_79
set_option maxRecDepth 100000 in
theorem c_X2_counts (l : Launch) {ι : qI} {b : Nat} (k : Nat) (k1 : Nat) (x2 : Int32) (x3 : Int32) (x4 : Int32) (u : qS) (h0 : is_X2 ι k) (h1 : is_X0 ι k1) : CN l yX2_counts cX2_counts 5 (some .int) 3 ι b [.ref (b + k), .ref (b + k1), .int x2, .int x3, .int x4] u (m_X2_counts k k1 x2 x3 x4 u) := by
  refine CN.of_SW (own := RX2) rfl (by decide) (Nat.le_of_ble_eq_true rfl) [(0, .ref (b + k)), (1, .ref (b + k1)), (2, .int x2), (3, .int x3), (4, .int x4)] rfl ?_
  unfold m_X2_counts
  refine sw_aload_n 0 dX2_counts_0 rfl rfl ?_
  refine sw_aload_n 1 dX2_counts_1 rfl rfl ?_
  refine sw_iload_n 3 dX2_counts_2 rfl rfl ?_
  refine sw_callVv (As := [.ref (b + k1), .int x3]) (k := k) rfl dX2_counts_3 t_587 mf_X2_ask h0.1 q_cl2 (by decide) (Nat.le_of_ble_eq_true rfl) (fun l => c_X2_ask l k k1 x3 u h0 h1) (fun _ u_1 => ?_)
  refine sw_aload_n 0 dX2_counts_6 rfl rfl ?_
  refine sw_getr q_cl2 8 (r := (k + 6)) dX2_counts_7 t_167 (by decide) h0.1 rfl ?_
  refine sw_iconst (5 : Int32) dX2_counts_10 (by decide) ?_
  refine sw_aload_n 1 dX2_counts_11 rfl rfl ?_
  refine sw_getr q_cl0 18 (r := (k1 + 8)) dX2_counts_12 t_97 (by decide) h1.1 rfl ?_
  refine sw_iload_n 2 dX2_counts_15 rfl rfl ?_
  refine sw_iald dX2_counts_16 h1.2.2.2.2.2.2.2.2.1 (fun a => ?_)
  refine sw_iast dX2_counts_17 h0.2.2.2.2.2.2 (fun u_2 => ?_)
  refine sw_aload_n 0 dX2_counts_18 rfl rfl ?_
  refine sw_getr q_cl2 8 (r := (k + 6)) dX2_counts_19 t_167 (by decide) h0.1 rfl ?_
  refine sw_bipush (6 : Int32) dX2_counts_22 (by decide) ?_
  refine sw_aload_n 1 dX2_counts_24 rfl rfl ?_
  refine sw_iload_n 2 dX2_counts_25 rfl rfl ?_
  refine sw_iload_n 3 dX2_counts_26 rfl rfl ?_
  refine sw_callVi (As := [.int x2, .int x3]) (k := k1) rfl dX2_counts_27 t_639 mf_X0_tasteFor h1.1 q_cl0 (by decide) (Nat.le_of_ble_eq_true rfl) (fun l => c_X0_tasteFor l k1 x2 x3 u_2 h1) (fun r u_3 => ?_)
  refine sw_iast dX2_counts_30 h0.2.2.2.2.2.2 (fun u_4 => ?_)
  refine sw_iload 4 dX2_counts_31 rfl ?_
  refine sw_iconst (-1 : Int32) dX2_counts_33 (by decide) ?_
  refine SW.jn0 55 ([(0, .ref (b + k))]) ([]) (fun  u_5 => ?_) (fun J55 hJ55 => ?_)
  · refine sw_aload_n 0 dX2_counts_55 rfl rfl ?_
    refine sw_iconst (2 : Int32) dX2_counts_56 (by decide) ?_
    refine sw_iconst (1 : Int32) dX2_counts_57 (by decide) ?_
    refine sw_callVi (As := [.int (2 : Int32), .int (1 : Int32)]) (k := k) rfl dX2_counts_58 t_596 mf_X2_tell h0.1 q_cl2 (by decide) (Nat.le_of_ble_eq_true rfl) (fun l => c_X2_tell l k (2 : Int32) (1 : Int32) u_5 h0) (fun r_6 u_7 => ?_)
    refine sw_bipush (9 : Int32) dX2_counts_61 (by decide) ?_
    refine sw_callSi (As := [.int r_6, .int (9 : Int32)]) rfl dX2_counts_63 t_604 mf_X2_hold (by decide) (Nat.le_of_ble_eq_true rfl) (fun l => c_X2_hold l r_6 (9 : Int32) u_7 ) (fun r_8 u_9 => ?_)
    exact sw_iret dX2_counts_66
  · refine sw_icmp_ne 48 dX2_counts_34 (by decide) ?_ ?_
    · refine sw_aload_n 0 dX2_counts_37 rfl rfl ?_
      refine sw_getr q_cl2 8 (r := (k + 6)) dX2_counts_38 t_167 (by decide) h0.1 rfl ?_
      refine sw_bipush (7 : Int32) dX2_counts_41 (by decide) ?_
      refine sw_iconst (1 : Int32) dX2_counts_43 (by decide) ?_
      refine sw_iast dX2_counts_44 h0.2.2.2.2.2.2 (fun u_11 => ?_)
      refine sw_goto 55 dX2_counts_45 (by decide) ?_
      exact SW.sub [0] rfl (hJ55  u_11)
    · refine sw_aload_n 0 dX2_counts_48 rfl rfl ?_
      refine sw_aload_n 1 dX2_counts_49 rfl rfl ?_
      refine sw_iload 4 dX2_counts_50 rfl ?_
      refine sw_callVv (As := [.ref (b + k1), .int x4]) (k := k) rfl dX2_counts_52 t_592 mf_X2_askTree h0.1 q_cl2 (by decide) (Nat.le_of_ble_eq_true rfl) (fun l => c_X2_askTree l k k1 x4 u_4 h0 h1) (fun _ u_10 => ?_)
      exact SW.sub [0] rfl (hJ55  u_10)
set_option maxRecDepth 100000 in
theorem c_X7_count (l : Launch) {ι : qI} {b : Nat} (k : Nat) (k1 : Nat) (x2 : Int32) (x3 : Int32) (u : qS) (h0 : is_X7 ι k) (h1 : is_X0 ι k1) : CN l yX7_count cX7_count 5 none 1 ι b [.ref (b + k), .ref (b + k1), .int x2, .int x3] u (m_X7_count k k1 x2 x3 u) := by
  refine CN.of_SW (own := RX7) rfl (by decide) (Nat.le_of_ble_eq_true rfl) [(0, .ref (b + k)), (1, .ref (b + k1)), (2, .int x2), (3, .int x3)] rfl ?_
  unfold m_X7_count
  refine sw_iload_n 3 dX7_count_0 rfl rfl ?_
  refine sw_sipush (9999 : Int32) dX7_count_1 (by decide) ?_
  refine sw_aload_n 1 dX7_count_4 rfl rfl ?_
  refine sw_getr q_cl0 12 (r := (k1 + 2)) dX7_count_5 t_76 (by decide) h1.1 rfl ?_
  refine sw_iload_n 2 dX7_count_8 rfl rfl ?_
  refine sw_iald dX7_count_9 h1.2.2.1 (fun a => ?_)
  refine sw_isub dX7_count_10 ?_
  refine sw_qmin dX7_count_11 t_580 t_522 t_14 t_523 (by decide) (Nat.le_of_ble_eq_true rfl) ?_
  refine SW.name (fun y4 => ?_)
  refine sw_istore (lv' := [(4, .int y4), (0, .ref (b + k)), (1, .ref (b + k1)), (2, .int x2), (3, .int x3)]) dX7_count_14 (by decide) rfl ?_
  refine sw_aload_n 2 dX7_count_16 rfl rfl ?_
  refine sw_getr q_cl0 12 (r := (k1 + 2)) dX7_count_17 t_76 (by decide) h1.1 rfl ?_
  refine sw_iload_n 3 dX7_count_20 rfl rfl ?_
  refine sw_dup2 dX7_count_21 rfl rfl ?_
  refine sw_iald dX7_count_22 h1.2.2.1 (fun a_1 => ?_)
  refine sw_iload 0 dX7_count_23 rfl ?_
  refine sw_iadd dX7_count_25 ?_
  refine sw_iast dX7_count_26 h1.2.2.1 (fun u_2 => ?_)
  refine sw_aload_n 1 dX7_count_27 rfl rfl ?_
  refine sw_getr q_cl7 4 (r := (k + 1)) dX7_count_28 t_390 (by decide) h0.1 rfl ?_
  refine sw_iload_n 3 dX7_count_31 rfl rfl ?_
  refine sw_dup2 dX7_count_32 rfl rfl ?_
  refine sw_iald dX7_count_33 h0.2 (fun a_3 => ?_)
  refine sw_iload 0 dX7_count_34 rfl ?_
  refine sw_iadd dX7_count_36 ?_
  refine sw_iast dX7_count_37 h0.2 (fun u_4 => ?_)
  exact sw_vret dX7_count_38
set_option maxRecDepth 100000 in
theorem c_X0_drawOfThousand (l : Launch) {ι : qI} {b : Nat} (k : Nat)  (u : qS) (h0 : is_X0 ι k) : CN l yX0_drawOfThousand cX0_drawOfThousand 1 (some .int) 1 ι b [.ref (b + k)] u (m_X0_drawOfThousand k u) := by
  refine CN.of_SW (own := RX0) rfl (by decide) (Nat.le_of_ble_eq_true rfl) [(0, .ref (b + k))] rfl ?_
  unfold m_X0_drawOfThousand
  refine sw_aload_n 0 dX0_drawOfThousand_0 rfl rfl ?_
  refine sw_ldc dX0_drawOfThousand_1 t_648 ?_
  refine sw_aload_n 0 dX0_drawOfThousand_3 rfl rfl ?_
  refine sw_geti q_cl0 1 dX0_drawOfThousand_4 t_46 (by decide) h0.1 rfl ?_
  refine sw_imul dX0_drawOfThousand_7 ?_
  refine sw_ldc dX0_drawOfThousand_8 t_649 ?_
  refine sw_iadd dX0_drawOfThousand_10 ?_
  refine sw_puti q_cl0 1 dX0_drawOfThousand_11 t_46 (by decide) (by decide +kernel) rfl h0.1 rfl (fun u_1 => ?_)
  refine sw_aload_n 0 dX0_drawOfThousand_14 rfl rfl ?_
  refine sw_geti q_cl0 1 dX0_drawOfThousand_15 t_46 (by decide) h0.1 rfl ?_
  refine sw_bipush (8 : Int32) dX0_drawOfThousand_18 (by decide) ?_
  refine sw_qushr dX0_drawOfThousand_20 ?_
  refine sw_sipush (1000 : Int32) dX0_drawOfThousand_21 (by decide) ?_
  refine sw_qrmc dX0_drawOfThousand_24 (by decide) ?_
  exact sw_iret dX0_drawOfThousand_25
set_option maxRecDepth 100000 in
theorem w_X7_pick_L58 {ι : qI} {b : Nat} (k : Nat) (k2 : Nat) (h0 : is_X7 ι k) (h1 : is_X9 ι 1) (h2 : is_X0 ι k2) (x3 : Int32) (x4 : Int32) (x7 : Int32) (x8 : Int32) (x9 : Int32) {K147 : qS → qR} {K189 : Int32 → qS → qR} (hK147 : ∀  (u : qS), SW RX7 cX7_pick 12 (some .int) 4 ι b 147 [(0, .ref (b + k)), (1, .ref (b + 1)), (2, .ref (b + k2)), (3, .int x3), (9, .int x9)] [] u (K147  u)) (hK189 : ∀ (e6 : Int32) (u : qS), SW RX7 cX7_pick 12 (some .int) 4 ι b 189 [(0, .ref (b + k)), (1, .ref (b + 1)), (2, .ref (b + k2)), (3, .int x3), (4, .int x4), (6, .int e6), (7, .int x7)] [] u (K189 e6 u)) (fu : Nat) (x6 : Int32) (x10 : Int32) (x11 : Int32) (u : qS) : SW RX7 cX7_pick 12 (some .int) 4 ι b 58 [(0, .ref (b + k)), (1, .ref (b + 1)), (2, .ref (b + k2)), (3, .int x3), (4, .int x4), (6, .int x6), (7, .int x7), (8, .int x8), (9, .int x9), (10, .int x10), (11, .int x11)] [] u (q_it3 (m_X7_pick_L58 k k2 x3 x4 x7 x8 x9 K147 K189) fu x6 x10 x11 u) := by
  refine SW.it3 (fun x6 x10 x11 => [(0, .ref (b + k)), (1, .ref (b + 1)), (2, .ref (b + k2)), (3, .int x3), (4, .int x4), (6, .int x6), (7, .int x7), (8, .int x8), (9, .int x9), (10, .int x10), (11, .int x11)]) (fun self ih x6 x10 x11 u => ?_) fu x6 x10 x11 u
  unfold m_X7_pick_L58
  refine sw_iload 10 dX7_pick_58 rfl ?_
  refine sw_if_le 189 dX7_pick_60 (by decide) ?_ ?_
  · exact SW.sub [0, 1, 2, 3, 4, 5, 6] rfl (hK189 x6 u)
  · refine sw_iload 5 dX7_pick_63 rfl ?_
    refine sw_if_le 189 dX7_pick_65 (by decide) ?_ ?_
    · exact SW.sub [0, 1, 2, 3, 4, 5, 6] rfl (hK189 x6 u)
    · refine sw_iload 9 dX7_pick_68 rfl ?_
      refine sw_iconst (-1 : Int32) dX7_pick_70 (by decide) ?_
      refine SW.jn1 99 (fun x10_3 => [(0, .ref (b + k)), (1, .ref (b + 1)), (2, .ref (b + k2)), (3, .int x3), (4, .int x4), (6, .int x6), (7, .int x7), (8, .int x8), (9, .int x9), (10, .int x10_3), (11, .int x11)]) (fun x10_3 => []) (fun x10_3 u_4 => ?_) (fun J99 hJ99 => ?_)
      · refine sw_aload_n 0 dX7_pick_99 rfl rfl ?_
        refine sw_aload_n 2 dX7_pick_100 rfl rfl ?_
        refine sw_iload 8 dX7_pick_101 rfl ?_
        refine sw_iload 9 dX7_pick_103 rfl ?_
        refine sw_callVv (As := [.ref (b + k2), .int x9, .int x10_3]) (k := k) rfl dX7_pick_105 t_640 mf_X7_count h0.1 q_cl7 (by decide) (Nat.le_of_ble_eq_true rfl) (fun l => c_X7_count l k k2 x9 x10_3 u_4 h0 h2) (fun _ u_5 => ?_)
        refine sw_aload_n 2 dX7_pick_108 rfl rfl ?_
        refine sw_getr q_cl0 17 (r := (k2 + 7)) dX7_pick_109 t_93 (by decide) h2.1 rfl ?_
        refine sw_iload 7 dX7_pick_112 rfl ?_
        refine sw_dup2 dX7_pick_114 rfl rfl ?_
        refine sw_iald dX7_pick_115 h2.2.2.2.2.2.2.2.1 (fun a => ?_)
        refine sw_iconst (1 : Int32) dX7_pick_116 (by decide) ?_
        refine sw_isub dX7_pick_117 ?_
        refine sw_iast dX7_pick_118 h2.2.2.2.2.2.2.2.1 (fun u_6 => ?_)
        refine sw_iinc (lv' := [(6, .int (x6 + (-1 : Int32))), (0, .ref (b + k)), (1, .ref (b + 1)), (2, .ref (b + k2)), (3, .int x3), (4, .int x4), (7, .int x7), (8, .int x8), (9, .int x9), (10, .int x10_3), (11, .int x11)]) 5 dX7_pick_119 rfl (congrArg (x6 + ·) (by decide)) (by decide) rfl ?_
        refine sw_aload_n 1 dX7_pick_122 rfl rfl ?_
        refine sw_geti q_cl7 0 dX7_pick_123 t_383 (by decide) h0.1 rfl ?_
        refine SW.jn0 183 ([(0, .ref (b + k)), (1, .ref (b + 1)), (2, .ref (b + k2)), (3, .int x3), (4, .int x4), (6, .int (x6 + (-1 : Int32))), (7, .int x7), (8, .int x8), (9, .int x9), (10, .int x10_3), (11, .int x11)]) ([]) (fun  u_7 => ?_) (fun J183 hJ183 => ?_)
        · refine sw_iinc (lv' := [(11, .int (x11 + (-1 : Int32))), (0, .ref (b + k)), (1, .ref (b + 1)), (2, .ref (b + k2)), (3, .int x3), (4, .int x4), (6, .int (x6 + (-1 : Int32))), (7, .int x7), (8, .int x8), (9, .int x9), (10, .int x10_3)]) 10 dX7_pick_183 rfl (congrArg (x11 + ·) (by decide)) (by decide) rfl ?_
          refine sw_goto 58 dX7_pick_186 (by decide) ?_
          exact SW.sub [1, 2, 3, 4, 5, 6, 7, 8, 9, 10, 0] rfl (ih (x6 + (-1 : Int32)) x10_3 (x11 + (-1 : Int32)) u_7)
        · refine sw_if_eq 183 dX7_pick_126 (by decide) ?_ ?_
          · exact SW.sub [1, 2, 3, 4, 5, 0, 6, 7, 8, 9, 10] rfl (hJ183  u_6)
          · refine sw_aload_n 3 dX7_pick_129 rfl rfl ?_
            refine sw_geti q_cl0 2 dX7_pick_130 t_48 (by decide) h2.1 rfl ?_
            refine sw_if_le 183 dX7_pick_133 (by decide) ?_ ?_
            · exact SW.sub [1, 2, 3, 4, 5, 0, 6, 7, 8, 9, 10] rfl (hJ183  u_6)
            · refine sw_aload_n 3 dX7_pick_136 rfl rfl ?_
              refine sw_callVi (As := []) (k := k2) rfl dX7_pick_137 t_644 mf_X0_drawOfThousand h2.1 q_cl0 (by decide) (Nat.le_of_ble_eq_true rfl) (fun l => c_X0_drawOfThousand l k2 u_6 h2) (fun r u_8 => ?_)
              refine sw_aload_n 3 dX7_pick_140 rfl rfl ?_
              refine sw_geti q_cl0 2 dX7_pick_141 t_48 (by decide) h2.1 rfl ?_
              refine sw_icmp_ge 183 dX7_pick_144 (by decide) ?_ ?_
              · exact SW.sub [1, 2, 3, 4, 5, 0, 6, 7, 8, 9, 10] rfl (hJ183  u_8)
              · exact SW.sub [1, 2, 3, 4, 8] rfl (hK147  u_8)
      · refine SW.jn0 84 ([(0, .ref (b + k)), (1, .ref (b + 1)), (2, .ref (b + k2)), (3, .int x3), (4, .int x4), (6, .int x6), (7, .int x7), (8, .int x8), (9, .int x9), (11, .int x11)]) ([]) (fun  u_9 => ?_) (fun J84 hJ84 => ?_)
        · refine sw_aload_n 1 dX7_pick_84 rfl rfl ?_
          refine sw_getr q_cl9 1 (r := 12) dX7_pick_85 t_275 (by decide) h1.1 rfl ?_
          refine sw_aload_n 2 dX7_pick_88 rfl rfl ?_
          refine sw_iload_n 3 dX7_pick_89 rfl rfl ?_
          refine sw_iload 8 dX7_pick_90 rfl ?_
          refine sw_iload 7 dX7_pick_92 rfl ?_
          refine sw_callVi (As := [.ref (b + k2), .int x3, .int x9, .int x8]) (k := 12) rfl dX7_pick_94 t_635 mf_X2_counts h1.2.2.1.1 q_cl2 (by decide) (Nat.le_of_ble_eq_true rfl) (fun l => c_X2_counts l 12 k2 x3 x9 x8 u_9 h1.2.2.1 h2) (fun r_10 u_11 => ?_)
          refine sw_istore (lv' := [(10, .int r_10), (0, .ref (b + k)), (1, .ref (b + 1)), (2, .ref (b + k2)), (3, .int x3), (4, .int x4), (6, .int x6), (7, .int x7), (8, .int x8), (9, .int x9), (11, .int x11)]) dX7_pick_97 (by decide) rfl ?_
          exact SW.sub [1, 2, 3, 4, 5, 6, 7, 8, 9, 0, 10] rfl (hJ99 r_10 u_11)
        · refine sw_icmp_eq 84 dX7_pick_71 (by decide) ?_ ?_
          · exact SW.sub [0, 1, 2, 3, 4, 5, 6, 7, 8, 10] rfl (hJ84  u)
          · refine sw_aload_n 1 dX7_pick_74 rfl rfl ?_
            refine sw_getr q_cl9 1 (r := 12) dX7_pick_75 t_275 (by decide) h1.1 rfl ?_
            refine sw_geti q_cl2 6 dX7_pick_78 t_164 (by decide) h1.2.2.1.1 rfl ?_
            refine sw_if_eq 99 dX7_pick_81 (by decide) ?_ ?_
            · exact SW.sub [0, 1, 2, 3, 4, 5, 6, 7, 8, 9, 10] rfl (hJ99 x10 u)
            · exact SW.sub [0, 1, 2, 3, 4, 5, 6, 7, 8, 10] rfl (hJ84  u)
set_option maxRecDepth 100000 in
theorem w_X7_pick_L7 {ι : qI} {b : Nat} (k : Nat) (k2 : Nat) (h0 : is_X7 ι k) (h1 : is_X9 ι 1) (h2 : is_X0 ι k2) (x3 : Int32) (x4 : Int32) {K34 : Int32 → qS → qR} {K147 : Int32 → qS → qR} {K195 : Int32 → qS → qR} (hK34 : ∀ (e6 : Int32) (u : qS), SW RX7 cX7_pick 12 (some .int) 4 ι b 34 [(6, .int e6)] [] u (K34 e6 u)) (hK147 : ∀ (e9 : Int32) (u : qS), SW RX7 cX7_pick 12 (some .int) 4 ι b 147 [(0, .ref (b + k)), (1, .ref (b + 1)), (2, .ref (b + k2)), (3, .int x3), (9, .int e9)] [] u (K147 e9 u)) (hK195 : ∀ (e6 : Int32) (u : qS), SW RX7 cX7_pick 12 (some .int) 4 ι b 195 [(6, .int e6)] [] u (K195 e6 u)) (fu : Nat) (x6 : Int32) (x7 : Int32) (u : qS) : SW RX7 cX7_pick 12 (some .int) 4 ι b 7 [(0, .ref (b + k)), (1, .ref (b + 1)), (2, .ref (b + k2)), (3, .int x3), (4, .int x4), (6, .int x6), (7, .int x7)] [] u (q_it2 (m_X7_pick_L7 k k2 x3 x4 K34 K147 K195) fu x6 x7 u) := by
  refine SW.it2 (fun x6 x7 => [(0, .ref (b + k)), (1, .ref (b + 1)), (2, .ref (b + k2)), (3, .int x3), (4, .int x4), (6, .int x6), (7, .int x7)]) (fun self ih x6 x7 u => ?_) fu x6 x7 u
  unfold m_X7_pick_L7
  refine sw_iload 6 dX7_pick_7 rfl ?_
  refine sw_bipush (14 : Int32) dX7_pick_9 (by decide) ?_
  refine sw_icmp_ge 195 dX7_pick_11 (by decide) ?_ ?_
  · exact SW.sub [5] rfl (hK195 x6 u)
  · refine sw_iload 5 dX7_pick_14 rfl ?_
    refine sw_if_le 195 dX7_pick_16 (by decide) ?_ ?_
    · exact SW.sub [5] rfl (hK195 x6 u)
    · refine sw_aload_n 2 dX7_pick_19 rfl rfl ?_
      refine sw_iload_n 3 dX7_pick_20 rfl rfl ?_
      refine sw_iload 4 dX7_pick_21 rfl ?_
      refine sw_callVi (As := [.int x3, .int x4]) (k := k2) rfl dX7_pick_23 t_627 mf_X0_treeFor h2.1 q_cl0 (by decide) (Nat.le_of_ble_eq_true rfl) (fun l => c_X0_treeFor l k2 x3 x4 u h2) (fun r u_1 => ?_)
      refine sw_istore (lv' := [(8, .int r), (0, .ref (b + k)), (1, .ref (b + 1)), (2, .ref (b + k2)), (3, .int x3), (4, .int x4), (6, .int x6), (7, .int x7)]) dX7_pick_26 (by decide) rfl ?_
      refine sw_iload 0 dX7_pick_28 rfl ?_
      refine sw_iconst (-1 : Int32) dX7_pick_30 (by decide) ?_
      refine sw_icmp_ne 37 dX7_pick_31 (by decide) ?_ ?_
      · exact SW.sub [6] rfl (hK34 x6 u_1)
      · refine sw_aload_n 3 dX7_pick_37 rfl rfl ?_
        refine sw_getr q_cl0 14 (r := (k2 + 4)) dX7_pick_38 t_84 (by decide) h2.1 rfl ?_
        refine sw_iload 0 dX7_pick_41 rfl ?_
        refine sw_iald dX7_pick_43 h2.2.2.2.2.1 (fun a => ?_)
        refine sw_istore (lv' := [(9, .int a), (8, .int r), (0, .ref (b + k)), (1, .ref (b + 1)), (2, .ref (b + k2)), (3, .int x3), (4, .int x4), (6, .int x6), (7, .int x7)]) dX7_pick_44 (by decide) rfl ?_
        refine sw_iconst (-1 : Int32) dX7_pick_46 (by decide) ?_
        refine sw_istore (lv' := [(10, .int (-1 : Int32)), (9, .int a), (8, .int r), (0, .ref (b + k)), (1, .ref (b + 1)), (2, .ref (b + k2)), (3, .int x3), (4, .int x4), (6, .int x6), (7, .int x7)]) dX7_pick_47 (by decide) rfl ?_
        refine sw_aload_n 5 dX7_pick_49 rfl rfl ?_
        refine sw_getr q_cl0 17 (r := (k2 + 7)) dX7_pick_50 t_93 (by decide) h2.1 rfl ?_
        refine sw_iload 2 dX7_pick_53 rfl ?_
        refine sw_iald dX7_pick_55 h2.2.2.2.2.2.2.2.1 (fun a_2 => ?_)
        refine sw_istore (lv' := [(11, .int a_2), (10, .int (-1 : Int32)), (9, .int a), (8, .int r), (0, .ref (b + k)), (1, .ref (b + 1)), (2, .ref (b + k2)), (3, .int x3), (4, .int x4), (6, .int x6), (7, .int x7)]) dX7_pick_56 (by decide) rfl ?_
        refine SW.sub (lv' := [(0, .ref (b + k)), (1, .ref (b + 1)), (2, .ref (b + k2)), (3, .int x3), (4, .int x4), (6, .int x6), (7, .int x7), (8, .int r), (9, .int a), (10, .int (-1 : Int32)), (11, .int a_2)]) [4, 5, 6, 7, 8, 9, 10, 3, 2, 1, 0] rfl ?_
        refine w_X7_pick_L58 k k2 h0 h1 h2 x3 x4 x7 r a (fun u_12 => ?_) (fun x6_13 u_14 => ?_) q_F x6 (-1 : Int32) a_2 u_1
        · exact SW.sub [0, 1, 2, 3, 4] rfl (hK147 a u_12)
        · refine sw_iinc (lv' := [(7, .int (x7 + (1 : Int32))), (0, .ref (b + k)), (1, .ref (b + 1)), (2, .ref (b + k2)), (3, .int x3), (4, .int x4), (6, .int x6_13)]) 6 dX7_pick_189 rfl (congrArg (x7 + ·) (by decide)) (by decide) rfl ?_
          refine sw_goto 7 dX7_pick_192 (by decide) ?_
          exact SW.sub [1, 2, 3, 4, 5, 6, 0] rfl (ih x6_13 (x7 + (1 : Int32)) u_14)
set_option maxRecDepth 100000 in
theorem c_X7_pick (l : Launch) {ι : qI} {b : Nat} (k : Nat) (k2 : Nat) (x3 : Int32) (x4 : Int32) (x5 : Int32) (u : qS) (h0 : is_X7 ι k) (h1 : is_X9 ι 1) (h2 : is_X0 ι k2) : CN l yX7_pick cX7_pick 12 (some .int) 4 ι b [.ref (b + k), .ref (b + 1), .ref (b + k2), .int x3, .int x4, .int x5] u (m_X7_pick k k2 x3 x4 x5 u) := by
  refine CN.of_SW (own := RX7) rfl (by decide) (Nat.le_of_ble_eq_true rfl) [(0, .ref (b + k)), (1, .ref (b + 1)), (2, .ref (b + k2)), (3, .int x3), (4, .int x4), (5, .int x5)] rfl ?_
  unfold m_X7_pick
  refine sw_iload 5 dX7_pick_0 rfl ?_
  refine sw_istore (lv' := [(6, .int x5), (0, .ref (b + k)), (1, .ref (b + 1)), (2, .ref (b + k2)), (3, .int x3), (4, .int x4), (5, .int x5)]) dX7_pick_2 (by decide) rfl ?_
  refine sw_iconst (0 : Int32) dX7_pick_4 (by decide) ?_
  refine sw_istore (lv' := [(7, .int (0 : Int32)), (6, .int x5), (0, .ref (b + k)), (1, .ref (b + 1)), (2, .ref (b + k2)), (3, .int x3), (4, .int x4), (5, .int x5)]) dX7_pick_5 (by decide) rfl ?_
  refine SW.sub (lv' := [(0, .ref (b + k)), (1, .ref (b + 1)), (2, .ref (b + k2)), (3, .int x3), (4, .int x4), (6, .int x5), (7, .int (0 : Int32))]) [2, 3, 4, 5, 6, 1, 0] rfl ?_
  refine w_X7_pick_L7 k k2 h0 h1 h2 x3 x4 (fun x6 u_15 => ?_) (fun x9 u_16 => ?_) (fun x6_20 u_21 => ?_) q_F x5 (0 : Int32) u
  · refine sw_iload 0 dX7_pick_34 rfl ?_
    exact sw_iret dX7_pick_36
  · refine sw_aload_n 2 dX7_pick_147 rfl rfl ?_
    refine sw_getr q_cl0 19 (r := (k2 + 9)) dX7_pick_148 t_102 (by decide) h2.1 rfl ?_
    refine sw_iload_n 3 dX7_pick_151 rfl rfl ?_
    refine sw_iconst (5 : Int32) dX7_pick_152 (by decide) ?_
    refine sw_imul dX7_pick_153 ?_
    refine sw_iload 4 dX7_pick_154 rfl ?_
    refine sw_iadd dX7_pick_156 ?_
    refine sw_iconst (0 : Int32) dX7_pick_157 (by decide) ?_
    refine sw_aload_n 2 dX7_pick_158 rfl rfl ?_
    refine sw_iload_n 3 dX7_pick_159 rfl rfl ?_
    refine sw_iload 4 dX7_pick_160 rfl ?_
    refine sw_callVi (As := [.int x3, .int x9]) (k := k2) rfl dX7_pick_162 t_650 mf_X0_tasteFor h2.1 q_cl0 (by decide) (Nat.le_of_ble_eq_true rfl) (fun l => c_X0_tasteFor l k2 x3 x9 u_16 h2) (fun r u_17 => ?_)
    refine sw_iconst (2 : Int32) dX7_pick_165 (by decide) ?_
    refine sw_isub dX7_pick_166 ?_
    refine sw_qmax dX7_pick_167 t_651 t_609 t_14 t_610 (by decide) (Nat.le_of_ble_eq_true rfl) ?_
    refine sw_iast dX7_pick_170 h2.2.2.2.2.2.2.2.2.2 (fun u_18 => ?_)
    refine sw_aload_n 0 dX7_pick_171 rfl rfl ?_
    refine sw_aload_n 1 dX7_pick_172 rfl rfl ?_
    refine sw_aload_n 2 dX7_pick_173 rfl rfl ?_
    refine sw_iconst (4 : Int32) dX7_pick_174 (by decide) ?_
    refine sw_iload_n 3 dX7_pick_175 rfl rfl ?_
    refine sw_iload 4 dX7_pick_176 rfl ?_
    refine sw_callVv (As := [.ref (b + 1), .ref (b + k2), .int (4 : Int32), .int x3, .int x9]) (k := k) rfl dX7_pick_178 t_574 mf_X7_note h0.1 q_cl7 (by decide) (Nat.le_of_ble_eq_true rfl) (fun l => c_X7_note l k k2 (4 : Int32) x3 x9 u_18 h0 h1 h2) (fun _ u_19 => ?_)
    refine sw_iconst (0 : Int32) dX7_pick_181 (by decide) ?_
    exact sw_iret dX7_pick_182
  · refine sw_iload 0 dX7_pick_195 rfl ?_
    exact sw_iret dX7_pick_197
set_option maxRecDepth 100000 in
theorem w_X0_jamFor_L7 {ι : qI} {b : Nat} (k : Nat) (h0 : is_X0 ι k) (x1 : Int32) {K54 : Int32 → qS → qR} (hK54 : ∀ (e2 : Int32) (u : qS), SW RX0 cX0_jamFor 5 (some .int) 2 ι b 54 [(2, .int e2)] [] u (K54 e2 u)) (fu : Nat) (x2 : Int32) (x3 : Int32) (x4 : Int32) (u : qS) : SW RX0 cX0_jamFor 5 (some .int) 2 ι b 7 [(0, .ref (b + k)), (1, .int x1), (2, .int x2), (3, .int x3), (4, .int x4)] [] u (q_it3 (m_X0_jamFor_L7 k x1 K54) fu x2 x3 x4 u) := by
  refine SW.it3 (fun x2 x3 x4 => [(0, .ref (b + k)), (1, .int x1), (2, .int x2), (3, .int x3), (4, .int x4)]) (fun self ih x2 x3 x4 u => ?_) fu x2 x3 x4 u
  unfold m_X0_jamFor_L7
  refine sw_iload 4 dX0_jamFor_7 rfl ?_
  refine sw_aload_n 0 dX0_jamFor_9 rfl rfl ?_
  refine sw_geti q_cl0 7 dX0_jamFor_10 t_60 (by decide) h0.1 rfl ?_
  refine sw_icmp_ge 54 dX0_jamFor_13 (by decide) ?_ ?_
  · exact SW.sub [2] rfl (hK54 x2 u)
  · refine sw_aload_n 0 dX0_jamFor_16 rfl rfl ?_
    refine sw_getr q_cl0 11 (r := (k + 1)) dX0_jamFor_17 t_72 (by decide) h0.1 rfl ?_
    refine sw_iload 4 dX0_jamFor_20 rfl ?_
    refine sw_iald dX0_jamFor_22 h0.2.1 (fun a => ?_)
    refine SW.jn2 48 (fun x2_1 x3_2 => [(0, .ref (b + k)), (1, .int x1), (2, .int x2_1), (3, .int x3_2), (4, .int x4)]) (fun x2_1 x3_2 => []) (fun x2_1 x3_2 u_3 => ?_) (fun J48 hJ48 => ?_)
    · refine sw_iinc (lv' := [(4, .int (x4 + (1 : Int32))), (0, .ref (b + k)), (1, .int x1), (2, .int x2_1), (3, .int x3_2)]) 4 dX0_jamFor_48 rfl (congrArg (x4 + ·) (by decide)) (by decide) rfl ?_
      refine sw_goto 7 dX0_jamFor_51 (by decide) ?_
      exact SW.sub [1, 2, 3, 4, 0] rfl (ih x2_1 x3_2 (x4 + (1 : Int32)) u_3)
    · refine sw_if_le 48 dX0_jamFor_23 (by decide) ?_ ?_
      · exact SW.sub [0, 1, 2, 3, 4] rfl (hJ48 x2 x3 u)
      · refine sw_aload_n 0 dX0_jamFor_26 rfl rfl ?_
        refine sw_iload_n 1 dX0_jamFor_27 rfl rfl ?_
        refine sw_iload 4 dX0_jamFor_28 rfl ?_
        refine sw_callVi (As := [.int x1, .int x4]) (k := k) rfl dX0_jamFor_30 t_631 mf_X0_tasteFor h0.1 q_cl0 (by decide) (Nat.le_of_ble_eq_true rfl) (fun l => c_X0_tasteFor l k x1 x4 u h0) (fun r u_4 => ?_)
        refine sw_iload_n 3 dX0_jamFor_33 rfl rfl ?_
        refine sw_icmp_le 48 dX0_jamFor_34 (by decide) ?_ ?_
        · exact SW.sub [0, 1, 2, 3, 4] rfl (hJ48 x2 x3 u_4)
        · refine sw_iload 4 dX0_jamFor_37 rfl ?_
          refine sw_istore_n (lv' := [(2, .int x4), (0, .ref (b + k)), (1, .int x1), (3, .int x3), (4, .int x4)]) dX0_jamFor_39 rfl (by decide) rfl ?_
          refine sw_aload_n 1 dX0_jamFor_40 rfl rfl ?_
          refine sw_iload_n 2 dX0_jamFor_41 rfl rfl ?_
          refine sw_iload 4 dX0_jamFor_42 rfl ?_
          refine sw_callVi (As := [.int x1, .int x4]) (k := k) rfl dX0_jamFor_44 t_631 mf_X0_tasteFor h0.1 q_cl0 (by decide) (Nat.le_of_ble_eq_true rfl) (fun l => c_X0_tasteFor l k x1 x4 u_4 h0) (fun r_5 u_6 => ?_)
          refine sw_istore_n (lv' := [(3, .int r_5), (2, .int x4), (0, .ref (b + k)), (1, .int x1), (4, .int x4)]) dX0_jamFor_47 rfl (by decide) rfl ?_
          exact SW.sub [2, 3, 1, 0, 4] rfl (hJ48 x4 r_5 u_6)
set_option maxRecDepth 100000 in
theorem c_X0_jamFor (l : Launch) {ι : qI} {b : Nat} (k : Nat) (x1 : Int32) (u : qS) (h0 : is_X0 ι k) : CN l yX0_jamFor cX0_jamFor 5 (some .int) 2 ι b [.ref (b + k), .int x1] u (m_X0_jamFor k x1 u) := by
  refine CN.of_SW (own := RX0) rfl (by decide) (Nat.le_of_ble_eq_true rfl) [(0, .ref (b + k)), (1, .int x1)] rfl ?_
  unfold m_X0_jamFor
  refine sw_iconst (-1 : Int32) dX0_jamFor_0 (by decide) ?_
  refine sw_istore_n (lv' := [(2, .int (-1 : Int32)), (0, .ref (b + k)), (1, .int x1)]) dX0_jamFor_1 rfl (by decide) rfl ?_
  refine sw_iconst (0 : Int32) dX0_jamFor_2 (by decide) ?_
  refine sw_istore_n (lv' := [(3, .int (0 : Int32)), (2, .int (-1 : Int32)), (0, .ref (b + k)), (1, .int x1)]) dX0_jamFor_3 rfl (by decide) rfl ?_
  refine sw_iconst (0 : Int32) dX0_jamFor_4 (by decide) ?_
  refine sw_istore (lv' := [(4, .int (0 : Int32)), (3, .int (0 : Int32)), (2, .int (-1 : Int32)), (0, .ref (b + k)), (1, .int x1)]) dX0_jamFor_5 (by decide) rfl ?_
  refine SW.sub (lv' := [(0, .ref (b + k)), (1, .int x1), (2, .int (-1 : Int32)), (3, .int (0 : Int32)), (4, .int (0 : Int32))]) [3, 4, 2, 1, 0] rfl ?_
  refine w_X0_jamFor_L7 k h0 x1 (fun x2 u_7 => ?_) q_F (-1 : Int32) (0 : Int32) (0 : Int32) u
  refine sw_iload_n 0 dX0_jamFor_54 rfl rfl ?_
  exact sw_iret dX0_jamFor_55
set_option maxRecDepth 100000 in
theorem w_X7_spoon_L7 {ι : qI} {b : Nat} (k : Nat) (k2 : Nat) (h0 : is_X7 ι k) (h1 : is_X9 ι 1) (h2 : is_X0 ι k2) (x3 : Int32) {K31 : Int32 → qS → qR} {K99 : Int32 → qS → qR} (hK31 : ∀ (e5 : Int32) (u : qS), SW RX7 cX7_spoon 10 (some .int) 4 ι b 31 [(5, .int e5)] [] u (K31 e5 u)) (hK99 : ∀ (e5 : Int32) (u : qS), SW RX7 cX7_spoon 10 (some .int) 4 ι b 99 [(5, .int e5)] [] u (K99 e5 u)) (fu : Nat) (x5 : Int32) (x6 : Int32) (u : qS) : SW RX7 cX7_spoon 10 (some .int) 4 ι b 7 [(0, .ref (b + k)), (1, .ref (b + 1)), (2, .ref (b + k2)), (3, .int x3), (5, .int x5), (6, .int x6)] [] u (q_it2 (m_X7_spoon_L7 k k2 x3 K31 K99) fu x5 x6 u) := by
  refine SW.it2 (fun x5 x6 => [(0, .ref (b + k)), (1, .ref (b + 1)), (2, .ref (b + k2)), (3, .int x3), (5, .int x5), (6, .int x6)]) (fun self ih x5 x6 u => ?_) fu x5 x6 u
  unfold m_X7_spoon_L7
  refine sw_iload 5 dX7_spoon_7 rfl ?_
  refine sw_iconst (5 : Int32) dX7_spoon_9 (by decide) ?_
  refine sw_icmp_ge 99 dX7_spoon_10 (by decide) ?_ ?_
  · exact SW.sub [4] rfl (hK99 x5 u)
  · refine sw_iload 4 dX7_spoon_13 rfl ?_
    refine sw_if_le 99 dX7_spoon_15 (by decide) ?_ ?_
    · exact SW.sub [4] rfl (hK99 x5 u)
    · refine sw_aload_n 2 dX7_spoon_18 rfl rfl ?_
      refine sw_iload_n 3 dX7_spoon_19 rfl rfl ?_
      refine sw_callVi (As := [.int x3]) (k := k2) rfl dX7_spoon_20 t_656 mf_X0_jamFor h2.1 q_cl0 (by decide) (Nat.le_of_ble_eq_true rfl) (fun l => c_X0_jamFor l k2 x3 u h2) (fun r u_1 => ?_)
      refine sw_istore (lv' := [(7, .int r), (0, .ref (b + k)), (1, .ref (b + 1)), (2, .ref (b + k2)), (3, .int x3), (5, .int x5), (6, .int x6)]) dX7_spoon_23 (by decide) rfl ?_
      refine sw_iload 0 dX7_spoon_25 rfl ?_
      refine sw_iconst (-1 : Int32) dX7_spoon_27 (by decide) ?_
      refine sw_icmp_ne 34 dX7_spoon_28 (by decide) ?_ ?_
      · exact SW.sub [5] rfl (hK31 x5 u_1)
      · refine sw_aload_n 2 dX7_spoon_34 rfl rfl ?_
        refine sw_getr q_cl9 1 (r := 12) dX7_spoon_35 t_275 (by decide) h1.1 rfl ?_
        refine sw_aload_n 3 dX7_spoon_38 rfl rfl ?_
        refine sw_iload_n 4 dX7_spoon_39 rfl rfl ?_
        refine sw_iload 0 dX7_spoon_40 rfl ?_
        refine sw_iconst (-1 : Int32) dX7_spoon_42 (by decide) ?_
        refine sw_callVi (As := [.ref (b + k2), .int x3, .int r, .int (-1 : Int32)]) (k := 12) rfl dX7_spoon_43 t_635 mf_X2_counts h1.2.2.1.1 q_cl2 (by decide) (Nat.le_of_ble_eq_true rfl) (fun l => c_X2_counts l 12 k2 x3 r (-1 : Int32) u_1 h1.2.2.1 h2) (fun r_2 u_3 => ?_)
        refine sw_istore (lv' := [(8, .int r_2), (7, .int r), (0, .ref (b + k)), (1, .ref (b + 1)), (2, .ref (b + k2)), (3, .int x3), (5, .int x5), (6, .int x6)]) dX7_spoon_46 (by decide) rfl ?_
        refine sw_iload 6 dX7_spoon_48 rfl ?_
        refine sw_aload_n 4 dX7_spoon_50 rfl rfl ?_
        refine sw_getr q_cl0 11 (r := (k2 + 1)) dX7_spoon_51 t_73 (by decide) h2.1 rfl ?_
        refine sw_iload 1 dX7_spoon_54 rfl ?_
        refine sw_iald dX7_spoon_56 h2.2.1 (fun a => ?_)
        refine sw_qmin dX7_spoon_57 t_580 t_522 t_14 t_523 (by decide) (Nat.le_of_ble_eq_true rfl) ?_
        refine SW.name (fun y9 => ?_)
        refine sw_istore (lv' := [(9, .int y9), (8, .int r_2), (7, .int r), (0, .ref (b + k)), (1, .ref (b + 1)), (2, .ref (b + k2)), (3, .int x3), (5, .int x5), (6, .int x6)]) dX7_spoon_60 (by decide) rfl ?_
        refine sw_aload_n 3 dX7_spoon_62 rfl rfl ?_
        refine sw_aload_n 5 dX7_spoon_63 rfl rfl ?_
        refine sw_iload 2 dX7_spoon_64 rfl ?_
        refine sw_iload 1 dX7_spoon_66 rfl ?_
        refine sw_iload 0 dX7_spoon_68 rfl ?_
        refine sw_imul dX7_spoon_70 ?_
        refine sw_callVv (As := [.ref (b + k2), .int r, .int (r_2 * y9)]) (k := k) rfl dX7_spoon_71 t_640 mf_X7_count h0.1 q_cl7 (by decide) (Nat.le_of_ble_eq_true rfl) (fun l => c_X7_count l k k2 r (r_2 * y9) u_3 h0 h2) (fun _ u_4 => ?_)
        refine sw_aload_n 5 dX7_spoon_74 rfl rfl ?_
        refine sw_getr q_cl0 11 (r := (k2 + 1)) dX7_spoon_75 t_73 (by decide) h2.1 rfl ?_
        refine sw_iload 2 dX7_spoon_78 rfl ?_
        refine sw_dup2 dX7_spoon_80 rfl rfl ?_
        refine sw_iald dX7_spoon_81 h2.2.1 (fun a_5 => ?_)
        refine sw_iload 0 dX7_spoon_82 rfl ?_
        refine sw_isub dX7_spoon_84 ?_
        refine sw_iast dX7_spoon_85 h2.2.1 (fun u_6 => ?_)
        refine sw_iload 7 dX7_spoon_86 rfl ?_
        refine sw_iload 0 dX7_spoon_88 rfl ?_
        refine sw_isub dX7_spoon_90 ?_
        refine SW.name (fun y5 => ?_)
        refine sw_istore (lv' := [(5, .int y5), (9, .int y9), (8, .int r_2), (7, .int r), (0, .ref (b + k)), (1, .ref (b + 1)), (2, .ref (b + k2)), (3, .int x3), (6, .int x6)]) dX7_spoon_91 (by decide) rfl ?_
        refine sw_iinc (lv' := [(6, .int (x6 + (1 : Int32))), (5, .int y5), (9, .int y9), (8, .int r_2), (7, .int r), (0, .ref (b + k)), (1, .ref (b + 1)), (2, .ref (b + k2)), (3, .int x3)]) 8 dX7_spoon_93 rfl (congrArg (x6 + ·) (by decide)) (by decide) rfl ?_
        refine sw_goto 7 dX7_spoon_96 (by decide) ?_
        exact SW.sub [5, 6, 7, 8, 1, 0] rfl (ih y5 (x6 + (1 : Int32)) u_6)
set_option maxRecDepth 100000 in
theorem c_X7_spoon (l : Launch) {ι : qI} {b : Nat} (k : Nat) (k2 : Nat) (x3 : Int32) (x4 : Int32) (u : qS) (h0 : is_X7 ι k) (h1 : is_X9 ι 1) (h2 : is_X0 ι k2) : CN l yX7_spoon cX7_spoon 10 (some .int) 4 ι b [.ref (b + k), .ref (b + 1), .ref (b + k2), .int x3, .int x4] u (m_X7_spoon k k2 x3 x4 u) := by
  refine CN.of_SW (own := RX7) rfl (by decide) (Nat.le_of_ble_eq_true rfl) [(0, .ref (b + k)), (1, .ref (b + 1)), (2, .ref (b + k2)), (3, .int x3), (4, .int x4)] rfl ?_
  unfold m_X7_spoon
  refine sw_iload 4 dX7_spoon_0 rfl ?_
  refine sw_istore (lv' := [(5, .int x4), (0, .ref (b + k)), (1, .ref (b + 1)), (2, .ref (b + k2)), (3, .int x3), (4, .int x4)]) dX7_spoon_2 (by decide) rfl ?_
  refine sw_iconst (0 : Int32) dX7_spoon_4 (by decide) ?_
  refine sw_istore (lv' := [(6, .int (0 : Int32)), (5, .int x4), (0, .ref (b + k)), (1, .ref (b + 1)), (2, .ref (b + k2)), (3, .int x3), (4, .int x4)]) dX7_spoon_5 (by decide) rfl ?_
  refine SW.sub (lv' := [(0, .ref (b + k)), (1, .ref (b + 1)), (2, .ref (b + k2)), (3, .int x3), (5, .int x4), (6, .int (0 : Int32))]) [2, 3, 4, 5, 1, 0] rfl ?_
  refine w_X7_spoon_L7 k k2 h0 h1 h2 x3 (fun x5 u_7 => ?_) (fun x5_8 u_9 => ?_) q_F x4 (0 : Int32) u
  · refine sw_iload 0 dX7_spoon_31 rfl ?_
    exact sw_iret dX7_spoon_33
  · refine sw_iload 0 dX7_spoon_99 rfl ?_
    exact sw_iret dX7_spoon_101
set_option maxRecDepth 100000 in
theorem w_X7_eat_L14 {ι : qI} {b : Nat} (k : Nat) (k2 : Nat) (h0 : is_X7 ι k) (h1 : is_X9 ι 1) (h2 : is_X0 ι k2) (x3 : Int32) {K73 : Int32 → qS → qR} (hK73 : ∀ (e4 : Int32) (u : qS), SW RX7 cX7_eat 7 none 5 ι b 73 [(0, .ref (b + k)), (1, .ref (b + 1)), (2, .ref (b + k2)), (3, .int x3), (4, .int e4)] [] u (K73 e4 u)) (fu : Nat) (x4 : Int32) (x5 : Int32) (u : qS) : SW RX7 cX7_eat 7 none 5 ι b 14 [(0, .ref (b + k)), (1, .ref (b + 1)), (2, .ref (b + k2)), (3, .int x3), (4, .int x4), (5, .int x5)] [] u (q_it2 (m_X7_eat_L14 k k2 x3 K73) fu x4 x5 u) := by
  refine SW.it2 (fun x4 x5 => [(0, .ref (b + k)), (1, .ref (b + 1)), (2, .ref (b + k2)), (3, .int x3), (4, .int x4), (5, .int x5)]) (fun self ih x4 x5 u => ?_) fu x4 x5 u
  unfold m_X7_eat_L14
  refine sw_iload 5 dX7_eat_14 rfl ?_
  refine sw_aload_n 1 dX7_eat_16 rfl rfl ?_
  refine sw_getr q_cl9 2 (r := 19) dX7_eat_17 t_278 (by decide) h1.1 rfl ?_
  refine sw_getr q_cl4 1 (r := 20) dX7_eat_20 t_197 (by decide) h1.2.2.2.1.1 rfl ?_
  refine sw_iload_n 3 dX7_eat_23 rfl rfl ?_
  refine sw_iald dX7_eat_24 h1.2.2.2.1.2.1 (fun a => ?_)
  refine sw_icmp_ge 73 dX7_eat_25 (by decide) ?_ ?_
  · exact SW.sub [0, 1, 2, 3, 4] rfl (hK73 x4 u)
  · refine sw_iload 4 dX7_eat_28 rfl ?_
    refine sw_if_le 73 dX7_eat_30 (by decide) ?_ ?_
    · exact SW.sub [0, 1, 2, 3, 4] rfl (hK73 x4 u)
    · refine sw_aload_n 1 dX7_eat_33 rfl rfl ?_
      refine sw_getr q_cl9 2 (r := 19) dX7_eat_34 t_278 (by decide) h1.1 rfl ?_
      refine sw_iload_n 3 dX7_eat_37 rfl rfl ?_
      refine sw_iload 5 dX7_eat_38 rfl ?_
      refine sw_callVi (As := [.int x3, .int x5]) (k := 19) rfl dX7_eat_40 t_619 mf_X4_step h1.2.2.2.1.1 q_cl4 (by decide) (Nat.le_of_ble_eq_true rfl) (fun l => c_X4_step l 19 x3 x5 u h1.2.2.2.1) (fun r u_2 => ?_)
      refine sw_istore (lv' := [(6, .int r), (0, .ref (b + k)), (1, .ref (b + 1)), (2, .ref (b + k2)), (3, .int x3), (4, .int x4), (5, .int x5)]) dX7_eat_43 (by decide) rfl ?_
      refine sw_aload_n 3 dX7_eat_45 rfl rfl ?_
      refine sw_iload 0 dX7_eat_46 rfl ?_
      refine sw_callVi (As := [.int r]) (k := k2) rfl dX7_eat_48 t_581 mf_X0_isFenced h2.1 q_cl0 (by decide) (Nat.le_of_ble_eq_true rfl) (fun l => c_X0_isFenced l k2 r u_2 h2) (fun r_3 u_4 => ?_)
      refine SW.jn1 67 (fun x4_5 => [(0, .ref (b + k)), (1, .ref (b + 1)), (2, .ref (b + k2)), (3, .int x3), (4, .int x4_5), (5, .int x5)]) (fun x4_5 => []) (fun x4_5 u_6 => ?_) (fun J67 hJ67 => ?_)
      · refine sw_iinc (lv' := [(5, .int (x5 + (1 : Int32))), (0, .ref (b + k)), (1, .ref (b + 1)), (2, .ref (b + k2)), (3, .int x3), (4, .int x4_5)]) 5 dX7_eat_67 rfl (congrArg (x5 + ·) (by decide)) (by decide) rfl ?_
        refine sw_goto 14 dX7_eat_70 (by decide) ?_
        exact SW.sub [1, 2, 3, 4, 5, 0] rfl (ih x4_5 (x5 + (1 : Int32)) u_6)
      · refine sw_if_ne 67 dX7_eat_51 (by decide) ?_ ?_
        · refine sw_aload_n 1 dX7_eat_54 rfl rfl ?_
          refine sw_aload_n 2 dX7_eat_55 rfl rfl ?_
          refine sw_aload_n 3 dX7_eat_56 rfl rfl ?_
          refine sw_iload_n 4 dX7_eat_57 rfl rfl ?_
          refine sw_iload 0 dX7_eat_58 rfl ?_
          refine sw_iload 5 dX7_eat_60 rfl ?_
          refine sw_callVi (As := [.ref (b + 1), .ref (b + k2), .int x3, .int r, .int x4]) (k := k) rfl dX7_eat_62 t_623 mf_X7_pick h0.1 q_cl7 (by decide) (Nat.le_of_ble_eq_true rfl) (fun l => c_X7_pick l k k2 x3 r x4 u_4 h0 h1 h2) (fun r_7 u_8 => ?_)
          refine sw_istore (lv' := [(4, .int r_7), (6, .int r), (0, .ref (b + k)), (1, .ref (b + 1)), (2, .ref (b + k2)), (3, .int x3), (5, .int x5)]) dX7_eat_65 (by decide) rfl ?_
          exact SW.sub [2, 3, 4, 5, 0, 6] rfl (hJ67 r_7 u_8)
        · exact SW.sub [1, 2, 3, 4, 5, 6] rfl (hJ67 x4 u_4)
set_option maxRecDepth 100000 in
theorem c_X7_eat (l : Launch) {ι : qI} {b : Nat} (k : Nat) (k2 : Nat) (x3 : Int32) (u : qS) (h0 : is_X7 ι k) (h1 : is_X9 ι 1) (h2 : is_X0 ι k2) : CN l yX7_eat cX7_eat 7 none 5 ι b [.ref (b + k), .ref (b + 1), .ref (b + k2), .int x3] u (m_X7_eat k k2 x3 u) := by
  refine CN.of_SW (own := RX7) rfl (by decide) (Nat.le_of_ble_eq_true rfl) [(0, .ref (b + k)), (1, .ref (b + 1)), (2, .ref (b + k2)), (3, .int x3)] rfl ?_
  unfold m_X7_eat
  refine sw_aload_n 1 dX7_eat_0 rfl rfl ?_
  refine sw_getr q_cl9 1 (r := 12) dX7_eat_1 t_275 (by decide) h1.1 rfl ?_
  refine sw_aload_n 2 dX7_eat_4 rfl rfl ?_
  refine sw_iload_n 3 dX7_eat_5 rfl rfl ?_
  refine sw_callVi (As := [.ref (b + k2), .int x3]) (k := 12) rfl dX7_eat_6 t_615 mf_X2_wants h1.2.2.1.1 q_cl2 (by decide) (Nat.le_of_ble_eq_true rfl) (fun l => c_X2_wants l 12 k2 x3 u h1.2.2.1 h2) (fun r u_1 => ?_)
  refine sw_istore (lv' := [(4, .int r), (0, .ref (b + k)), (1, .ref (b + 1)), (2, .ref (b + k2)), (3, .int x3)]) dX7_eat_9 (by decide) rfl ?_
  refine sw_iconst (0 : Int32) dX7_eat_11 (by decide) ?_
  refine sw_istore (lv' := [(5, .int (0 : Int32)), (4, .int r), (0, .ref (b + k)), (1, .ref (b + 1)), (2, .ref (b + k2)), (3, .int x3)]) dX7_eat_12 (by decide) rfl ?_
  refine SW.sub (lv' := [(0, .ref (b + k)), (1, .ref (b + 1)), (2, .ref (b + k2)), (3, .int x3), (4, .int r), (5, .int (0 : Int32))]) [2, 3, 4, 5, 1, 0] rfl ?_
  refine w_X7_eat_L14 k k2 h0 h1 h2 x3 (fun x4 u_9 => ?_) q_F r (0 : Int32) u_1
  refine sw_aload_n 0 dX7_eat_73 rfl rfl ?_
  refine sw_aload_n 1 dX7_eat_74 rfl rfl ?_
  refine sw_aload_n 2 dX7_eat_75 rfl rfl ?_
  refine sw_iload_n 3 dX7_eat_76 rfl rfl ?_
  refine sw_iload 4 dX7_eat_77 rfl ?_
  refine sw_callVi (As := [.ref (b + 1), .ref (b + k2), .int x3, .int x4]) (k := k) rfl dX7_eat_79 t_652 mf_X7_spoon h0.1 q_cl7 (by decide) (Nat.le_of_ble_eq_true rfl) (fun l => c_X7_spoon l k k2 x3 x4 u_9 h0 h1 h2) (fun r_10 u_11 => ?_)
  refine sw_istore (lv' := [(4, .int r_10), (0, .ref (b + k)), (1, .ref (b + 1)), (2, .ref (b + k2)), (3, .int x3)]) dX7_eat_82 (by decide) rfl ?_
  refine sw_iload 0 dX7_eat_84 rfl ?_
  refine sw_if_le 130 dX7_eat_86 (by decide) ?_ ?_
  · exact sw_vret dX7_eat_130
  · refine sw_aload_n 1 dX7_eat_89 rfl rfl ?_
    refine sw_aload_n 2 dX7_eat_90 rfl rfl ?_
    refine sw_aload_n 3 dX7_eat_91 rfl rfl ?_
    refine sw_iconst (5 : Int32) dX7_eat_92 (by decide) ?_
    refine sw_iload_n 4 dX7_eat_93 rfl rfl ?_
    refine sw_iload 0 dX7_eat_94 rfl ?_
    refine sw_callVv (As := [.ref (b + 1), .ref (b + k2), .int (5 : Int32), .int x3, .int r_10]) (k := k) rfl dX7_eat_96 t_574 mf_X7_note h0.1 q_cl7 (by decide) (Nat.le_of_ble_eq_true rfl) (fun l => c_X7_note l k k2 (5 : Int32) x3 r_10 u_11 h0 h1 h2) (fun _ u_12 => ?_)
    refine sw_aload_n 1 dX7_eat_99 rfl rfl ?_
    refine sw_dup dX7_eat_100 rfl ?_
    refine sw_geti q_cl7 1 dX7_eat_101 t_384 (by decide) h0.1 rfl ?_
    refine sw_iconst (1 : Int32) dX7_eat_104 (by decide) ?_
    refine sw_iadd dX7_eat_105 ?_
    refine sw_puti q_cl7 1 dX7_eat_106 t_384 (by decide) (by decide +kernel) rfl h0.1 rfl (fun u_13 => ?_)
    refine sw_aload_n 1 dX7_eat_109 rfl rfl ?_
    refine sw_geti q_cl7 2 dX7_eat_110 t_386 (by decide) h0.1 rfl ?_
    refine sw_iconst (-1 : Int32) dX7_eat_113 (by decide) ?_
    refine sw_icmp_ne 130 dX7_eat_114 (by decide) ?_ ?_
    · refine sw_aload_n 1 dX7_eat_117 rfl rfl ?_
      refine sw_iload_n 4 dX7_eat_118 rfl rfl ?_
      refine sw_puti q_cl7 2 dX7_eat_119 t_386 (by decide) (by decide +kernel) rfl h0.1 rfl (fun u_14 => ?_)
      refine sw_aload_n 1 dX7_eat_122 rfl rfl ?_
      refine sw_aload_n 3 dX7_eat_123 rfl rfl ?_
      refine sw_geti q_cl0 0 dX7_eat_124 t_41 (by decide) h2.1 rfl ?_
      refine sw_puti q_cl7 3 dX7_eat_127 t_388 (by decide) (by decide +kernel) rfl h0.1 rfl (fun u_15 => ?_)
      exact sw_vret dX7_eat_130
    · exact sw_vret dX7_eat_130
set_option maxRecDepth 100000 in
theorem w_X7_sting_L2 {ι : qI} {b : Nat} (k : Nat) (k2 : Nat) (h0 : is_X7 ι k) (h1 : is_X9 ι 1) (h2 : is_X0 ι k2)  {K71 : qS → qR} (hK71 : ∀  (u : qS), SW RX7 cX7_sting 5 none 3 ι b 71 [] [] u (K71  u)) (fu : Nat) (x3 : Int32) (u : qS) : SW RX7 cX7_sting 5 none 3 ι b 2 [(0, .ref (b + k)), (1, .ref (b + 1)), (2, .ref (b + k2)), (3, .int x3)] [] u (q_it1 (m_X7_sting_L2 k k2 K71) fu x3 u) := by
  refine SW.it1 (fun x3 => [(0, .ref (b + k)), (1, .ref (b + 1)), (2, .ref (b + k2)), (3, .int x3)]) (fun self ih x3 u => ?_) fu x3 u
  unfold m_X7_sting_L2
  refine sw_iload_n 3 dX7_sting_2 rfl rfl ?_
  refine sw_aload_n 2 dX7_sting_3 rfl rfl ?_
  refine sw_geti q_cl0 8 dX7_sting_4 t_63 (by decide) h2.1 rfl ?_
  refine sw_icmp_ge 71 dX7_sting_7 (by decide) ?_ ?_
  · exact SW.sub [] rfl (hK71  u)
  · refine sw_aload_n 2 dX7_sting_10 rfl rfl ?_
    refine sw_getr q_cl0 17 (r := (k2 + 7)) dX7_sting_11 t_93 (by decide) h2.1 rfl ?_
    refine sw_iload_n 3 dX7_sting_14 rfl rfl ?_
    refine sw_iald dX7_sting_15 h2.2.2.2.2.2.2.2.1 (fun a => ?_)
    refine sw_bipush (10 : Int32) dX7_sting_16 (by decide) ?_
    refine SW.jn0 65 ([(0, .ref (b + k)), (1, .ref (b + 1)), (2, .ref (b + k2)), (3, .int x3)]) ([]) (fun  u_1 => ?_) (fun J65 hJ65 => ?_)
    · refine sw_iinc (lv' := [(3, .int (x3 + (1 : Int32))), (0, .ref (b + k)), (1, .ref (b + 1)), (2, .ref (b + k2))]) 3 dX7_sting_65 rfl (congrArg (x3 + ·) (by decide)) (by decide) rfl ?_
      refine sw_goto 2 dX7_sting_68 (by decide) ?_
      exact SW.sub [1, 2, 3, 0] rfl (ih (x3 + (1 : Int32)) u_1)
    · refine sw_icmp_lt 65 dX7_sting_18 (by decide) ?_ ?_
      · exact SW.sub [0, 1, 2, 3] rfl (hJ65  u)
      · refine sw_aload_n 2 dX7_sting_21 rfl rfl ?_
        refine sw_callVi (As := []) (k := k2) rfl dX7_sting_22 t_644 mf_X0_drawOfThousand h2.1 q_cl0 (by decide) (Nat.le_of_ble_eq_true rfl) (fun l => c_X0_drawOfThousand l k2 u h2) (fun r u_2 => ?_)
        refine sw_aload_n 2 dX7_sting_25 rfl rfl ?_
        refine sw_geti q_cl0 3 dX7_sting_26 t_51 (by decide) h2.1 rfl ?_
        refine sw_icmp_ge 65 dX7_sting_29 (by decide) ?_ ?_
        · exact SW.sub [0, 1, 2, 3] rfl (hJ65  u_2)
        · refine sw_aload_n 2 dX7_sting_32 rfl rfl ?_
          refine sw_getr q_cl0 17 (r := (k2 + 7)) dX7_sting_33 t_93 (by decide) h2.1 rfl ?_
          refine sw_iload_n 3 dX7_sting_36 rfl rfl ?_
          refine sw_iald dX7_sting_37 h2.2.2.2.2.2.2.2.1 (fun a_3 => ?_)
          refine sw_bipush (10 : Int32) dX7_sting_38 (by decide) ?_
          refine sw_idivc dX7_sting_40 (by decide) ?_
          refine SW.name (fun y4 => ?_)
          refine sw_istore (lv' := [(4, .int y4), (0, .ref (b + k)), (1, .ref (b + 1)), (2, .ref (b + k2)), (3, .int x3)]) dX7_sting_41 (by decide) rfl ?_
          refine sw_aload_n 3 dX7_sting_43 rfl rfl ?_
          refine sw_getr q_cl0 17 (r := (k2 + 7)) dX7_sting_44 t_93 (by decide) h2.1 rfl ?_
          refine sw_iload_n 4 dX7_sting_47 rfl rfl ?_
          refine sw_dup2 dX7_sting_48 rfl rfl ?_
          refine sw_iald dX7_sting_49 h2.2.2.2.2.2.2.2.1 (fun a_4 => ?_)
          refine sw_iload 0 dX7_sting_50 rfl ?_
          refine sw_isub dX7_sting_52 ?_
          refine sw_iast dX7_sting_53 h2.2.2.2.2.2.2.2.1 (fun u_5 => ?_)
          refine sw_aload_n 1 dX7_sting_54 rfl rfl ?_
          refine sw_aload_n 2 dX7_sting_55 rfl rfl ?_
          refine sw_aload_n 3 dX7_sting_56 rfl rfl ?_
          refine sw_bipush (6 : Int32) dX7_sting_57 (by decide) ?_
          refine sw_iload_n 4 dX7_sting_59 rfl rfl ?_
          refine sw_iload 0 dX7_sting_60 rfl ?_
          refine sw_callVv (As := [.ref (b + 1), .ref (b + k2), .int (6 : Int32), .int x3, .int y4]) (k := k) rfl dX7_sting_62 t_574 mf_X7_note h0.1 q_cl7 (by decide) (Nat.le_of_ble_eq_true rfl) (fun l => c_X7_note l k k2 (6 : Int32) x3 y4 u_5 h0 h1 h2) (fun _ u_6 => ?_)
          exact SW.sub [1, 2, 3, 4] rfl (hJ65  u_6)
set_option maxRecDepth 100000 in
theorem c_X7_sting (l : Launch) {ι : qI} {b : Nat} (k : Nat) (k2 : Nat)  (u : qS) (h0 : is_X7 ι k) (h1 : is_X9 ι 1) (h2 : is_X0 ι k2) : CN l yX7_sting cX7_sting 5 none 3 ι b [.ref (b + k), .ref (b + 1), .ref (b + k2)] u (m_X7_sting k k2 u) := by
  refine CN.of_SW (own := RX7) rfl (by decide) (Nat.le_of_ble_eq_true rfl) [(0, .ref (b + k)), (1, .ref (b + 1)), (2, .ref (b + k2))] rfl ?_
  unfold m_X7_sting
  refine sw_iconst (0 : Int32) dX7_sting_0 (by decide) ?_
  refine sw_istore_n (lv' := [(3, .int (0 : Int32)), (0, .ref (b + k)), (1, .ref (b + 1)), (2, .ref (b + k2))]) dX7_sting_1 rfl (by decide) rfl ?_
  refine SW.sub (lv' := [(0, .ref (b + k)), (1, .ref (b + 1)), (2, .ref (b + k2)), (3, .int (0 : Int32))]) [1, 2, 3, 0] rfl ?_
  refine w_X7_sting_L2 k k2 h0 h1 h2 (fun u_7 => ?_) q_F (0 : Int32) u
  exact sw_vret dX7_sting_71
set_option maxRecDepth 100000 in
theorem w_X0_greatestRemainder_L8 {ι : qI} {b : Nat} (k : Nat) (h0 : is_X0 ι k) (x1 : Int32) (x2 : Int32) {K98 : Int32 → qS → qR} (hK98 : ∀ (e3 : Int32) (u : qS), SW RX0 cX0_greatestRemainder 7 (some .int) 1 ι b 98 [(3, .int e3)] [] u (K98 e3 u)) (fu : Nat) (x3 : Int32) (x4 : Int32) (x5 : Int32) (u : qS) : SW RX0 cX0_greatestRemainder 7 (some .int) 1 ι b 8 [(0, .ref (b + k)), (1, .int x1), (2, .int x2), (3, .int x3), (4, .int x4), (5, .int x5)] [] u (q_it3 (m_X0_greatestRemainder_L8 k x1 x2 K98) fu x3 x4 x5 u) := by
  refine SW.it3 (fun x3 x4 x5 => [(0, .ref (b + k)), (1, .int x1), (2, .int x2), (3, .int x3), (4, .int x4), (5, .int x5)]) (fun self ih x3 x4 x5 u => ?_) fu x3 x4 x5 u
  unfold m_X0_greatestRemainder_L8
  refine sw_iload 5 dX0_greatestRemainder_8 rfl ?_
  refine sw_aload_n 0 dX0_greatestRemainder_10 rfl rfl ?_
  refine sw_geti q_cl0 7 dX0_greatestRemainder_11 t_60 (by decide) h0.1 rfl ?_
  refine sw_icmp_ge 98 dX0_greatestRemainder_14 (by decide) ?_ ?_
  · exact SW.sub [3] rfl (hK98 x3 u)
  · refine sw_iload_n 2 dX0_greatestRemainder_17 rfl rfl ?_
    refine sw_iload 5 dX0_greatestRemainder_18 rfl ?_
    refine sw_ishr dX0_greatestRemainder_20 ?_
    refine sw_iconst (1 : Int32) dX0_greatestRemainder_21 (by decide) ?_
    refine sw_iand dX0_greatestRemainder_22 ?_
    refine SW.jn2 92 (fun x3_1 x4_2 => [(0, .ref (b + k)), (1, .int x1), (2, .int x2), (3, .int x3_1), (4, .int x4_2), (5, .int x5)]) (fun x3_1 x4_2 => []) (fun x3_1 x4_2 u_3 => ?_) (fun J92 hJ92 => ?_)
    · refine sw_iinc (lv' := [(5, .int (x5 + (1 : Int32))), (0, .ref (b + k)), (1, .int x1), (2, .int x2), (3, .int x3_1), (4, .int x4_2)]) 5 dX0_greatestRemainder_92 rfl (congrArg (x5 + ·) (by decide)) (by decide) rfl ?_
      refine sw_goto 8 dX0_greatestRemainder_95 (by decide) ?_
      exact SW.sub [1, 2, 3, 4, 5, 0] rfl (ih x3_1 x4_2 (x5 + (1 : Int32)) u_3)
    · refine sw_if_ne 92 dX0_greatestRemainder_23 (by decide) ?_ ?_
      · refine sw_iload_n 1 dX0_greatestRemainder_26 rfl rfl ?_
        refine SW.jn1 48 (fun s0 => [(0, .ref (b + k)), (1, .int x1), (2, .int x2), (3, .int x3), (4, .int x4), (5, .int x5)]) (fun s0 => [.int s0]) (fun s0 u_4 => ?_) (fun J48 hJ48 => ?_)
        · refine sw_istore (lv' := [(6, .int s0), (0, .ref (b + k)), (1, .int x1), (2, .int x2), (3, .int x3), (4, .int x4), (5, .int x5)]) dX0_greatestRemainder_48 (by decide) rfl ?_
          refine sw_iload_n 4 dX0_greatestRemainder_50 rfl rfl ?_
          refine sw_iconst (-1 : Int32) dX0_greatestRemainder_51 (by decide) ?_
          refine SW.jn0 85 ([(0, .ref (b + k)), (1, .int x1), (2, .int x2), (5, .int x5), (6, .int s0)]) ([]) (fun  u_5 => ?_) (fun J85 hJ85 => ?_)
          · refine sw_iload 3 dX0_greatestRemainder_85 rfl ?_
            refine sw_istore_n (lv' := [(3, .int x5), (0, .ref (b + k)), (1, .int x1), (2, .int x2), (5, .int x5), (6, .int s0)]) dX0_greatestRemainder_87 rfl (by decide) rfl ?_
            refine sw_iload 5 dX0_greatestRemainder_88 rfl ?_
            refine sw_istore (lv' := [(4, .int s0), (3, .int x5), (0, .ref (b + k)), (1, .int x1), (2, .int x2), (5, .int x5), (6, .int s0)]) dX0_greatestRemainder_90 (by decide) rfl ?_
            exact SW.sub [2, 3, 4, 1, 0, 5] rfl (hJ92 x5 s0 u_5)
          · refine sw_icmp_eq 85 dX0_greatestRemainder_52 (by decide) ?_ ?_
            · exact SW.sub [1, 2, 3, 6, 0] rfl (hJ85  u_4)
            · refine sw_iload 0 dX0_greatestRemainder_55 rfl ?_
              refine sw_iload 5 dX0_greatestRemainder_57 rfl ?_
              refine sw_icmp_gt 85 dX0_greatestRemainder_59 (by decide) ?_ ?_
              · exact SW.sub [1, 2, 3, 6, 0] rfl (hJ85  u_4)
              · refine sw_iload 0 dX0_greatestRemainder_62 rfl ?_
                refine sw_iload 5 dX0_greatestRemainder_64 rfl ?_
                refine sw_icmp_ne 92 dX0_greatestRemainder_66 (by decide) ?_ ?_
                · refine sw_aload_n 1 dX0_greatestRemainder_69 rfl rfl ?_
                  refine sw_getr q_cl0 13 (r := (k + 3)) dX0_greatestRemainder_70 t_78 (by decide) h0.1 rfl ?_
                  refine sw_iload 6 dX0_greatestRemainder_73 rfl ?_
                  refine sw_iald dX0_greatestRemainder_75 h0.2.2.2.1 (fun a => ?_)
                  refine sw_aload_n 1 dX0_greatestRemainder_76 rfl rfl ?_
                  refine sw_getr q_cl0 13 (r := (k + 3)) dX0_greatestRemainder_77 t_78 (by decide) h0.1 rfl ?_
                  refine sw_iload_n 4 dX0_greatestRemainder_80 rfl rfl ?_
                  refine sw_iald dX0_greatestRemainder_81 h0.2.2.2.1 (fun a_6 => ?_)
                  refine sw_icmp_le 92 dX0_greatestRemainder_82 (by decide) ?_ ?_
                  · exact SW.sub [1, 2, 3, 4, 5, 6] rfl (hJ92 x3 x4 u_4)
                  · exact SW.sub [1, 2, 3, 6, 0] rfl (hJ85  u_4)
                · exact SW.sub [1, 2, 3, 4, 5, 6] rfl (hJ92 x3 x4 u_4)
        · refine sw_if_le 47 dX0_greatestRemainder_27 (by decide) ?_ ?_
          · refine sw_iconst (0 : Int32) dX0_greatestRemainder_47 (by decide) ?_
            exact SW.sub [0, 1, 2, 3, 4, 5] rfl (hJ48 (0 : Int32) u)
          · refine sw_aload_n 0 dX0_greatestRemainder_30 rfl rfl ?_
            refine sw_getr q_cl0 12 (r := (k + 2)) dX0_greatestRemainder_31 t_75 (by decide) h0.1 rfl ?_
            refine sw_iload 5 dX0_greatestRemainder_34 rfl ?_
            refine sw_iald dX0_greatestRemainder_36 h0.2.2.1 (fun a_7 => ?_)
            refine sw_aload_n 0 dX0_greatestRemainder_37 rfl rfl ?_
            refine sw_geti q_cl0 4 dX0_greatestRemainder_38 t_53 (by decide) h0.1 rfl ?_
            refine sw_imul dX0_greatestRemainder_41 ?_
            refine sw_iload_n 1 dX0_greatestRemainder_42 rfl rfl ?_
            refine sw_irem dX0_greatestRemainder_43 (fun a_8 => ?_)
            refine sw_goto 48 dX0_greatestRemainder_44 (by decide) ?_
            exact SW.sub [0, 1, 2, 3, 4, 5] rfl (hJ48 a_8 u)
      · exact SW.sub [0, 1, 2, 3, 4, 5] rfl (hJ92 x3 x4 u)
set_option maxRecDepth 100000 in
theorem c_X0_greatestRemainder (l : Launch) {ι : qI} {b : Nat} (k : Nat) (x1 : Int32) (x2 : Int32) (u : qS) (h0 : is_X0 ι k) : CN l yX0_greatestRemainder cX0_greatestRemainder 7 (some .int) 1 ι b [.ref (b + k), .int x1, .int x2] u (m_X0_greatestRemainder k x1 x2 u) := by
  refine CN.of_SW (own := RX0) rfl (by decide) (Nat.le_of_ble_eq_true rfl) [(0, .ref (b + k)), (1, .int x1), (2, .int x2)] rfl ?_
  unfold m_X0_greatestRemainder
  refine sw_iconst (-1 : Int32) dX0_greatestRemainder_0 (by decide) ?_
  refine sw_istore_n (lv' := [(3, .int (-1 : Int32)), (0, .ref (b + k)), (1, .int x1), (2, .int x2)]) dX0_greatestRemainder_1 rfl (by decide) rfl ?_
  refine sw_iconst (-1 : Int32) dX0_greatestRemainder_2 (by decide) ?_
  refine sw_istore (lv' := [(4, .int (-1 : Int32)), (3, .int (-1 : Int32)), (0, .ref (b + k)), (1, .int x1), (2, .int x2)]) dX0_greatestRemainder_3 (by decide) rfl ?_
  refine sw_iconst (0 : Int32) dX0_greatestRemainder_5 (by decide) ?_
  refine sw_istore (lv' := [(5, .int (0 : Int32)), (4, .int (-1 : Int32)), (3, .int (-1 : Int32)), (0, .ref (b + k)), (1, .int x1), (2, .int x2)]) dX0_greatestRemainder_6 (by decide) rfl ?_
  refine SW.sub (lv' := [(0, .ref (b + k)), (1, .int x1), (2, .int x2), (3, .int (-1 : Int32)), (4, .int (-1 : Int32)), (5, .int (0 : Int32))]) [3, 4, 5, 2, 1, 0] rfl ?_
  refine w_X0_greatestRemainder_L8 k h0 x1 x2 (fun x3 u_9 => ?_) q_F (-1 : Int32) (-1 : Int32) (0 : Int32) u
  refine sw_iload_n 0 dX0_greatestRemainder_98 rfl rfl ?_
  exact sw_iret dX0_greatestRemainder_99
set_option maxRecDepth 100000 in
theorem w_X0_seatAnew_L4 {ι : qI} {b : Nat} (k : Nat) (h0 : is_X0 ι k)  {K27 : Int32 → qS → qR} (hK27 : ∀ (e1 : Int32) (u : qS), SW RX0 cX0_seatAnew 6 none 2 ι b 27 [(0, .ref (b + k)), (1, .int e1)] [] u (K27 e1 u)) (fu : Nat) (x1 : Int32) (x2 : Int32) (u : qS) : SW RX0 cX0_seatAnew 6 none 2 ι b 4 [(0, .ref (b + k)), (1, .int x1), (2, .int x2)] [] u (q_it2 (m_X0_seatAnew_L4 k K27) fu x1 x2 u) := by
  refine SW.it2 (fun x1 x2 => [(0, .ref (b + k)), (1, .int x1), (2, .int x2)]) (fun self ih x1 x2 u => ?_) fu x1 x2 u
  unfold m_X0_seatAnew_L4
  refine sw_iload_n 2 dX0_seatAnew_4 rfl rfl ?_
  refine sw_aload_n 0 dX0_seatAnew_5 rfl rfl ?_
  refine sw_geti q_cl0 7 dX0_seatAnew_6 t_60 (by decide) h0.1 rfl ?_
  refine sw_icmp_ge 27 dX0_seatAnew_9 (by decide) ?_ ?_
  · exact SW.sub [0, 1] rfl (hK27 x1 u)
  · refine sw_iload_n 1 dX0_seatAnew_12 rfl rfl ?_
    refine sw_aload_n 0 dX0_seatAnew_13 rfl rfl ?_
    refine sw_getr q_cl0 12 (r := (k + 2)) dX0_seatAnew_14 t_75 (by decide) h0.1 rfl ?_
    refine sw_iload_n 2 dX0_seatAnew_17 rfl rfl ?_
    refine sw_iald dX0_seatAnew_18 h0.2.2.1 (fun a => ?_)
    refine sw_iadd dX0_seatAnew_19 ?_
    refine SW.name (fun y1 => ?_)
    refine sw_istore_n (lv' := [(1, .int y1), (0, .ref (b + k)), (2, .int x2)]) dX0_seatAnew_20 rfl (by decide) rfl ?_
    refine sw_iinc (lv' := [(2, .int (x2 + (1 : Int32))), (1, .int y1), (0, .ref (b + k))]) 2 dX0_seatAnew_21 rfl (congrArg (x2 + ·) (by decide)) (by decide) rfl ?_
    refine sw_goto 4 dX0_seatAnew_24 (by decide) ?_
    exact SW.sub [2, 1, 0] rfl (ih y1 (x2 + (1 : Int32)) u)
set_option maxRecDepth 100000 in
theorem w_X0_seatAnew_L39 {ι : qI} {b : Nat} (k : Nat) (h0 : is_X0 ι k) (x1 : Int32) {K81 : Int32 → qS → qR} (hK81 : ∀ (e2 : Int32) (u : qS), SW RX0 cX0_seatAnew 6 none 2 ι b 81 [(0, .ref (b + k)), (1, .int x1), (2, .int e2)] [] u (K81 e2 u)) (fu : Nat) (x2 : Int32) (x3 : Int32) (u : qS) : SW RX0 cX0_seatAnew 6 none 2 ι b 39 [(0, .ref (b + k)), (1, .int x1), (2, .int x2), (3, .int x3)] [] u (q_it2 (m_X0_seatAnew_L39 k x1 K81) fu x2 x3 u) := by
  refine SW.it2 (fun x2 x3 => [(0, .ref (b + k)), (1, .int x1), (2, .int x2), (3, .int x3)]) (fun self ih x2 x3 u => ?_) fu x2 x3 u
  unfold m_X0_seatAnew_L39
  refine sw_iload_n 3 dX0_seatAnew_39 rfl rfl ?_
  refine sw_aload_n 0 dX0_seatAnew_40 rfl rfl ?_
  refine sw_geti q_cl0 7 dX0_seatAnew_41 t_60 (by decide) h0.1 rfl ?_
  refine sw_icmp_ge 81 dX0_seatAnew_44 (by decide) ?_ ?_
  · exact SW.sub [0, 1, 2] rfl (hK81 x2 u)
  · refine sw_aload_n 0 dX0_seatAnew_47 rfl rfl ?_
    refine sw_getr q_cl0 13 (r := (k + 3)) dX0_seatAnew_48 t_78 (by decide) h0.1 rfl ?_
    refine sw_iload_n 3 dX0_seatAnew_51 rfl rfl ?_
    refine sw_aload_n 0 dX0_seatAnew_52 rfl rfl ?_
    refine sw_getr q_cl0 12 (r := (k + 2)) dX0_seatAnew_53 t_75 (by decide) h0.1 rfl ?_
    refine sw_iload_n 3 dX0_seatAnew_56 rfl rfl ?_
    refine sw_iald dX0_seatAnew_57 h0.2.2.1 (fun a => ?_)
    refine sw_aload_n 0 dX0_seatAnew_58 rfl rfl ?_
    refine sw_geti q_cl0 4 dX0_seatAnew_59 t_53 (by decide) h0.1 rfl ?_
    refine sw_imul dX0_seatAnew_62 ?_
    refine sw_iload_n 1 dX0_seatAnew_63 rfl rfl ?_
    refine sw_idiv dX0_seatAnew_64 (fun a_2 => ?_)
    refine sw_iast dX0_seatAnew_65 h0.2.2.2.1 (fun u_3 => ?_)
    refine sw_iload_n 2 dX0_seatAnew_66 rfl rfl ?_
    refine sw_aload_n 0 dX0_seatAnew_67 rfl rfl ?_
    refine sw_getr q_cl0 13 (r := (k + 3)) dX0_seatAnew_68 t_78 (by decide) h0.1 rfl ?_
    refine sw_iload_n 3 dX0_seatAnew_71 rfl rfl ?_
    refine sw_iald dX0_seatAnew_72 h0.2.2.2.1 (fun a_4 => ?_)
    refine sw_isub dX0_seatAnew_73 ?_
    refine SW.name (fun y2 => ?_)
    refine sw_istore_n (lv' := [(2, .int y2), (0, .ref (b + k)), (1, .int x1), (3, .int x3)]) dX0_seatAnew_74 rfl (by decide) rfl ?_
    refine sw_iinc (lv' := [(3, .int (x3 + (1 : Int32))), (2, .int y2), (0, .ref (b + k)), (1, .int x1)]) 3 dX0_seatAnew_75 rfl (congrArg (x3 + ·) (by decide)) (by decide) rfl ?_
    refine sw_goto 39 dX0_seatAnew_78 (by decide) ?_
    exact SW.sub [2, 3, 1, 0] rfl (ih y2 (x3 + (1 : Int32)) u_3)
set_option maxRecDepth 100000 in
theorem w_X0_seatAnew_L86 {ι : qI} {b : Nat} (k : Nat) (h0 : is_X0 ι k) (x1 : Int32) (x2 : Int32) {K130 : qS → qR} (hK130 : ∀  (u : qS), SW RX0 cX0_seatAnew 6 none 2 ι b 130 [] [] u (K130  u)) (fu : Nat) (x3 : Int32) (x4 : Int32) (u : qS) : SW RX0 cX0_seatAnew 6 none 2 ι b 86 [(0, .ref (b + k)), (1, .int x1), (2, .int x2), (3, .int x3), (4, .int x4)] [] u (q_it2 (m_X0_seatAnew_L86 k x1 x2 K130) fu x3 x4 u) := by
  refine SW.it2 (fun x3 x4 => [(0, .ref (b + k)), (1, .int x1), (2, .int x2), (3, .int x3), (4, .int x4)]) (fun self ih x3 x4 u => ?_) fu x3 x4 u
  unfold m_X0_seatAnew_L86
  refine sw_iload 4 dX0_seatAnew_86 rfl ?_
  refine sw_iload_n 2 dX0_seatAnew_88 rfl rfl ?_
  refine sw_icmp_ge 130 dX0_seatAnew_89 (by decide) ?_ ?_
  · exact SW.sub [] rfl (hK130  u)
  · refine sw_aload_n 0 dX0_seatAnew_92 rfl rfl ?_
    refine sw_iload_n 1 dX0_seatAnew_93 rfl rfl ?_
    refine sw_iload_n 3 dX0_seatAnew_94 rfl rfl ?_
    refine sw_callVi (As := [.int x1, .int x3]) (k := k) rfl dX0_seatAnew_95 t_672 mf_X0_greatestRemainder h0.1 q_cl0 (by decide) (Nat.le_of_ble_eq_true rfl) (fun l => c_X0_greatestRemainder l k x1 x3 u h0) (fun r u_6 => ?_)
    refine sw_istore (lv' := [(5, .int r), (0, .ref (b + k)), (1, .int x1), (2, .int x2), (3, .int x3), (4, .int x4)]) dX0_seatAnew_98 (by decide) rfl ?_
    refine sw_iload 0 dX0_seatAnew_100 rfl ?_
    refine sw_iconst (-1 : Int32) dX0_seatAnew_102 (by decide) ?_
    refine SW.jn1 124 (fun x3_7 => [(0, .ref (b + k)), (1, .int x1), (2, .int x2), (3, .int x3_7), (4, .int x4)]) (fun x3_7 => []) (fun x3_7 u_8 => ?_) (fun J124 hJ124 => ?_)
    · refine sw_iinc (lv' := [(4, .int (x4 + (1 : Int32))), (0, .ref (b + k)), (1, .int x1), (2, .int x2), (3, .int x3_7)]) 4 dX0_seatAnew_124 rfl (congrArg (x4 + ·) (by decide)) (by decide) rfl ?_
      refine sw_goto 86 dX0_seatAnew_127 (by decide) ?_
      exact SW.sub [1, 2, 3, 4, 0] rfl (ih x3_7 (x4 + (1 : Int32)) u_8)
    · refine sw_icmp_eq 124 dX0_seatAnew_103 (by decide) ?_ ?_
      · exact SW.sub [1, 2, 3, 4, 5] rfl (hJ124 x3 u_6)
      · refine sw_aload_n 1 dX0_seatAnew_106 rfl rfl ?_
        refine sw_getr q_cl0 13 (r := (k + 3)) dX0_seatAnew_107 t_78 (by decide) h0.1 rfl ?_
        refine sw_iload 0 dX0_seatAnew_110 rfl ?_
        refine sw_dup2 dX0_seatAnew_112 rfl rfl ?_
        refine sw_iald dX0_seatAnew_113 h0.2.2.2.1 (fun a => ?_)
        refine sw_iconst (1 : Int32) dX0_seatAnew_114 (by decide) ?_
        refine sw_iadd dX0_seatAnew_115 ?_
        refine sw_iast dX0_seatAnew_116 h0.2.2.2.1 (fun u_9 => ?_)
        refine sw_iload_n 4 dX0_seatAnew_117 rfl rfl ?_
        refine sw_iconst (1 : Int32) dX0_seatAnew_118 (by decide) ?_
        refine sw_iload 0 dX0_seatAnew_119 rfl ?_
        refine sw_ishl dX0_seatAnew_121 ?_
        refine sw_ior dX0_seatAnew_122 ?_
        refine SW.name (fun y3 => ?_)
        refine sw_istore_n (lv' := [(3, .int y3), (5, .int r), (0, .ref (b + k)), (1, .int x1), (2, .int x2), (4, .int x4)]) dX0_seatAnew_123 rfl (by decide) rfl ?_
        exact SW.sub [2, 3, 4, 0, 5] rfl (hJ124 y3 u_9)
set_option maxRecDepth 100000 in
theorem c_X0_seatAnew (l : Launch) {ι : qI} {b : Nat} (k : Nat)  (u : qS) (h0 : is_X0 ι k) : CN l yX0_seatAnew cX0_seatAnew 6 none 2 ι b [.ref (b + k)] u (m_X0_seatAnew k u) := by
  refine CN.of_SW (own := RX0) rfl (by decide) (Nat.le_of_ble_eq_true rfl) [(0, .ref (b + k))] rfl ?_
  unfold m_X0_seatAnew
  refine sw_iconst (0 : Int32) dX0_seatAnew_0 (by decide) ?_
  refine sw_istore_n (lv' := [(1, .int (0 : Int32)), (0, .ref (b + k))]) dX0_seatAnew_1 rfl (by decide) rfl ?_
  refine sw_iconst (0 : Int32) dX0_seatAnew_2 (by decide) ?_
  refine sw_istore_n (lv' := [(2, .int (0 : Int32)), (1, .int (0 : Int32)), (0, .ref (b + k))]) dX0_seatAnew_3 rfl (by decide) rfl ?_
  refine SW.sub (lv' := [(0, .ref (b + k)), (1, .int (0 : Int32)), (2, .int (0 : Int32))]) [2, 1, 0] rfl ?_
  refine w_X0_seatAnew_L4 k h0 (fun x1 u_1 => ?_) q_F (0 : Int32) (0 : Int32) u
  refine sw_iload_n 1 dX0_seatAnew_27 rfl rfl ?_
  refine sw_if_gt 32 dX0_seatAnew_28 (by decide) ?_ ?_
  · refine sw_aload_n 0 dX0_seatAnew_32 rfl rfl ?_
    refine sw_geti q_cl0 4 dX0_seatAnew_33 t_53 (by decide) h0.1 rfl ?_
    refine SW.name (fun y2 => ?_)
    refine sw_istore_n (lv' := [(2, .int y2), (0, .ref (b + k)), (1, .int x1)]) dX0_seatAnew_36 rfl (by decide) rfl ?_
    refine sw_iconst (0 : Int32) dX0_seatAnew_37 (by decide) ?_
    refine sw_istore_n (lv' := [(3, .int (0 : Int32)), (2, .int y2), (0, .ref (b + k)), (1, .int x1)]) dX0_seatAnew_38 rfl (by decide) rfl ?_
    refine SW.sub (lv' := [(0, .ref (b + k)), (1, .int x1), (2, .int y2), (3, .int (0 : Int32))]) [2, 3, 1, 0] rfl ?_
    refine w_X0_seatAnew_L39 k h0 x1 (fun x2 u_5 => ?_) q_F y2 (0 : Int32) u_1
    refine sw_iconst (0 : Int32) dX0_seatAnew_81 (by decide) ?_
    refine sw_istore_n (lv' := [(3, .int (0 : Int32)), (0, .ref (b + k)), (1, .int x1), (2, .int x2)]) dX0_seatAnew_82 rfl (by decide) rfl ?_
    refine sw_iconst (0 : Int32) dX0_seatAnew_83 (by decide) ?_
    refine sw_istore (lv' := [(4, .int (0 : Int32)), (3, .int (0 : Int32)), (0, .ref (b + k)), (1, .int x1), (2, .int x2)]) dX0_seatAnew_84 (by decide) rfl ?_
    refine SW.sub (lv' := [(0, .ref (b + k)), (1, .int x1), (2, .int x2), (3, .int (0 : Int32)), (4, .int (0 : Int32))]) [2, 3, 4, 1, 0] rfl ?_
    refine w_X0_seatAnew_L86 k h0 x1 x2 (fun u_10 => ?_) q_F (0 : Int32) (0 : Int32) u_5
    exact sw_vret dX0_seatAnew_130
  · exact sw_vret dX0_seatAnew_31
set_option maxRecDepth 100000 in
theorem w_X0_partyWithMostSeats_L4 {ι : qI} {b : Nat} (k : Nat) (h0 : is_X0 ι k)  {K40 : Int32 → qS → qR} (hK40 : ∀ (e1 : Int32) (u : qS), SW RX0 cX0_partyWithMostSeats 3 (some .int) 1 ι b 40 [(1, .int e1)] [] u (K40 e1 u)) (fu : Nat) (x1 : Int32) (x2 : Int32) (u : qS) : SW RX0 cX0_partyWithMostSeats 3 (some .int) 1 ι b 4 [(0, .ref (b + k)), (1, .int x1), (2, .int x2)] [] u (q_it2 (m_X0_partyWithMostSeats_L4 k K40) fu x1 x2 u) := by
  refine SW.it2 (fun x1 x2 => [(0, .ref (b + k)), (1, .int x1), (2, .int x2)]) (fun self ih x1 x2 u => ?_) fu x1 x2 u
  unfold m_X0_partyWithMostSeats_L4
  refine sw_iload_n 2 dX0_partyWithMostSeats_4 rfl rfl ?_
  refine sw_aload_n 0 dX0_partyWithMostSeats_5 rfl rfl ?_
  refine sw_geti q_cl0 7 dX0_partyWithMostSeats_6 t_60 (by decide) h0.1 rfl ?_
  refine sw_icmp_ge 40 dX0_partyWithMostSeats_9 (by decide) ?_ ?_
  · exact SW.sub [1] rfl (hK40 x1 u)
  · refine sw_iload_n 1 dX0_partyWithMostSeats_12 rfl rfl ?_
    refine sw_iconst (-1 : Int32) dX0_partyWithMostSeats_13 (by decide) ?_
    refine SW.jn1 34 (fun x1_1 => [(0, .ref (b + k)), (1, .int x1_1), (2, .int x2)]) (fun x1_1 => []) (fun x1_1 u_2 => ?_) (fun J34 hJ34 => ?_)
    · refine sw_iinc (lv' := [(2, .int (x2 + (1 : Int32))), (0, .ref (b + k)), (1, .int x1_1)]) 2 dX0_partyWithMostSeats_34 rfl (congrArg (x2 + ·) (by decide)) (by decide) rfl ?_
      refine sw_goto 4 dX0_partyWithMostSeats_37 (by decide) ?_
      exact SW.sub [1, 2, 0] rfl (ih x1_1 (x2 + (1 : Int32)) u_2)
    · refine SW.jn0 32 ([(0, .ref (b + k)), (2, .int x2)]) ([]) (fun  u_3 => ?_) (fun J32 hJ32 => ?_)
      · refine sw_iload_n 1 dX0_partyWithMostSeats_32 rfl rfl ?_
        refine sw_istore_n (lv' := [(1, .int x2), (0, .ref (b + k)), (2, .int x2)]) dX0_partyWithMostSeats_33 rfl (by decide) rfl ?_
        exact SW.sub [1, 0, 2] rfl (hJ34 x2 u_3)
      · refine sw_icmp_eq 32 dX0_partyWithMostSeats_14 (by decide) ?_ ?_
        · exact SW.sub [0, 2] rfl (hJ32  u)
        · refine sw_aload_n 0 dX0_partyWithMostSeats_17 rfl rfl ?_
          refine sw_getr q_cl0 13 (r := (k + 3)) dX0_partyWithMostSeats_18 t_78 (by decide) h0.1 rfl ?_
          refine sw_iload_n 2 dX0_partyWithMostSeats_21 rfl rfl ?_
          refine sw_iald dX0_partyWithMostSeats_22 h0.2.2.2.1 (fun a => ?_)
          refine sw_aload_n 0 dX0_partyWithMostSeats_23 rfl rfl ?_
          refine sw_getr q_cl0 13 (r := (k + 3)) dX0_partyWithMostSeats_24 t_78 (by decide) h0.1 rfl ?_
          refine sw_iload_n 1 dX0_partyWithMostSeats_27 rfl rfl ?_
          refine sw_iald dX0_partyWithMostSeats_28 h0.2.2.2.1 (fun a_4 => ?_)
          refine sw_icmp_le 34 dX0_partyWithMostSeats_29 (by decide) ?_ ?_
          · exact SW.sub [0, 1, 2] rfl (hJ34 x1 u)
          · exact SW.sub [0, 2] rfl (hJ32  u)
set_option maxRecDepth 100000 in
theorem c_X0_partyWithMostSeats (l : Launch) {ι : qI} {b : Nat} (k : Nat)  (u : qS) (h0 : is_X0 ι k) : CN l yX0_partyWithMostSeats cX0_partyWithMostSeats 3 (some .int) 1 ι b [.ref (b + k)] u (m_X0_partyWithMostSeats k u) := by
  refine CN.of_SW (own := RX0) rfl (by decide) (Nat.le_of_ble_eq_true rfl) [(0, .ref (b + k))] rfl ?_
  unfold m_X0_partyWithMostSeats
  refine sw_iconst (-1 : Int32) dX0_partyWithMostSeats_0 (by decide) ?_
  refine sw_istore_n (lv' := [(1, .int (-1 : Int32)), (0, .ref (b + k))]) dX0_partyWithMostSeats_1 rfl (by decide) rfl ?_
  refine sw_iconst (0 : Int32) dX0_partyWithMostSeats_2 (by decide) ?_
  refine sw_istore_n (lv' := [(2, .int (0 : Int32)), (1, .int (-1 : Int32)), (0, .ref (b + k))]) dX0_partyWithMostSeats_3 rfl (by decide) rfl ?_
  refine SW.sub (lv' := [(0, .ref (b + k)), (1, .int (-1 : Int32)), (2, .int (0 : Int32))]) [2, 1, 0] rfl ?_
  refine w_X0_partyWithMostSeats_L4 k h0 (fun x1 u_5 => ?_) q_F (-1 : Int32) (0 : Int32) u
  refine sw_iload_n 0 dX0_partyWithMostSeats_40 rfl rfl ?_
  exact sw_iret dX0_partyWithMostSeats_41
set_option maxRecDepth 100000 in
theorem w_X7_vote_L6 {ι : qI} {b : Nat} (k : Nat) (k2 : Nat) (h0 : is_X7 ι k) (h1 : is_X9 ι 1) (h2 : is_X0 ι k2)  {K27 : qS → qR} (hK27 : ∀  (u : qS), SW RX7 cX7_vote 4 none 3 ι b 27 [(0, .ref (b + k)), (1, .ref (b + 1)), (2, .ref (b + k2))] [] u (K27  u)) (fu : Nat) (x3 : Int32) (u : qS) : SW RX7 cX7_vote 4 none 3 ι b 6 [(0, .ref (b + k)), (1, .ref (b + 1)), (2, .ref (b + k2)), (3, .int x3)] [] u (q_it1 (m_X7_vote_L6 k k2 K27) fu x3 u) := by
  refine SW.it1 (fun x3 => [(0, .ref (b + k)), (1, .ref (b + 1)), (2, .ref (b + k2)), (3, .int x3)]) (fun self ih x3 u => ?_) fu x3 u
  unfold m_X7_vote_L6
  refine sw_iload_n 3 dX7_vote_6 rfl rfl ?_
  refine sw_aload_n 2 dX7_vote_7 rfl rfl ?_
  refine sw_geti q_cl0 7 dX7_vote_8 t_62 (by decide) h2.1 rfl ?_
  refine sw_icmp_ge 27 dX7_vote_11 (by decide) ?_ ?_
  · exact SW.sub [0, 1, 2] rfl (hK27  u)
  · refine sw_aload_n 2 dX7_vote_14 rfl rfl ?_
    refine sw_getr q_cl0 12 (r := (k2 + 2)) dX7_vote_15 t_76 (by decide) h2.1 rfl ?_
    refine sw_iload_n 3 dX7_vote_18 rfl rfl ?_
    refine sw_iconst (0 : Int32) dX7_vote_19 (by decide) ?_
    refine sw_iast dX7_vote_20 h2.2.2.1 (fun u_2 => ?_)
    refine sw_iinc (lv' := [(3, .int (x3 + (1 : Int32))), (0, .ref (b + k)), (1, .ref (b + 1)), (2, .ref (b + k2))]) 3 dX7_vote_21 rfl (congrArg (x3 + ·) (by decide)) (by decide) rfl ?_
    refine sw_goto 6 dX7_vote_24 (by decide) ?_
    exact SW.sub [1, 2, 3, 0] rfl (ih (x3 + (1 : Int32)) u_2)
set_option maxRecDepth 100000 in
theorem c_X7_vote (l : Launch) {ι : qI} {b : Nat} (k : Nat) (k2 : Nat)  (u : qS) (h0 : is_X7 ι k) (h1 : is_X9 ι 1) (h2 : is_X0 ι k2) : CN l yX7_vote cX7_vote 4 none 3 ι b [.ref (b + k), .ref (b + 1), .ref (b + k2)] u (m_X7_vote k k2 u) := by
  refine CN.of_SW (own := RX7) rfl (by decide) (Nat.le_of_ble_eq_true rfl) [(0, .ref (b + k)), (1, .ref (b + 1)), (2, .ref (b + k2))] rfl ?_
  unfold m_X7_vote
  refine sw_aload_n 2 dX7_vote_0 rfl rfl ?_
  refine sw_callVv (As := []) (k := k2) rfl dX7_vote_1 t_668 mf_X0_seatAnew h2.1 q_cl0 (by decide) (Nat.le_of_ble_eq_true rfl) (fun l => c_X0_seatAnew l k2 u h2) (fun _ u_1 => ?_)
  refine sw_iconst (0 : Int32) dX7_vote_4 (by decide) ?_
  refine sw_istore_n (lv' := [(3, .int (0 : Int32)), (0, .ref (b + k)), (1, .ref (b + 1)), (2, .ref (b + k2))]) dX7_vote_5 rfl (by decide) rfl ?_
  refine SW.sub (lv' := [(0, .ref (b + k)), (1, .ref (b + 1)), (2, .ref (b + k2)), (3, .int (0 : Int32))]) [1, 2, 3, 0] rfl ?_
  refine w_X7_vote_L6 k k2 h0 h1 h2 (fun u_3 => ?_) q_F (0 : Int32) u_1
  refine sw_aload_n 2 dX7_vote_27 rfl rfl ?_
  refine sw_callVi (As := []) (k := k2) rfl dX7_vote_28 t_676 mf_X0_partyWithMostSeats h2.1 q_cl0 (by decide) (Nat.le_of_ble_eq_true rfl) (fun l => c_X0_partyWithMostSeats l k2 u_3 h2) (fun r u_4 => ?_)
  refine sw_istore_n (lv' := [(3, .int r), (0, .ref (b + k)), (1, .ref (b + 1)), (2, .ref (b + k2))]) dX7_vote_31 rfl (by decide) rfl ?_
  refine sw_aload_n 1 dX7_vote_32 rfl rfl ?_
  refine sw_aload_n 2 dX7_vote_33 rfl rfl ?_
  refine sw_aload_n 3 dX7_vote_34 rfl rfl ?_
  refine sw_bipush (7 : Int32) dX7_vote_35 (by decide) ?_
  refine sw_iload_n 0 dX7_vote_37 rfl rfl ?_
  refine sw_iload_n 0 dX7_vote_38 rfl rfl ?_
  refine sw_iconst (-1 : Int32) dX7_vote_39 (by decide) ?_
  refine SW.jn1 53 (fun s0 => []) (fun s0 => [.int s0, .int r, .int (7 : Int32), .ref (b + k2), .ref (b + 1), .ref (b + k)]) (fun s0 u_5 => ?_) (fun J53 hJ53 => ?_)
  · refine sw_callVv (As := [.ref (b + 1), .ref (b + k2), .int (7 : Int32), .int r, .int s0]) (k := k) rfl dX7_vote_53 t_574 mf_X7_note h0.1 q_cl7 (by decide) (Nat.le_of_ble_eq_true rfl) (fun l => c_X7_note l k k2 (7 : Int32) r s0 u_5 h0 h1 h2) (fun _ u_6 => ?_)
    exact sw_vret dX7_vote_56
  · refine sw_icmp_ne 47 dX7_vote_40 (by decide) ?_ ?_
    · refine sw_iconst (0 : Int32) dX7_vote_43 (by decide) ?_
      refine sw_goto 53 dX7_vote_44 (by decide) ?_
      exact SW.sub [] rfl (hJ53 (0 : Int32) u_4)
    · refine sw_aload_n 3 dX7_vote_47 rfl rfl ?_
      refine sw_getr q_cl0 13 (r := (k2 + 3)) dX7_vote_48 t_80 (by decide) h2.1 rfl ?_
      refine sw_iload_n 0 dX7_vote_51 rfl rfl ?_
      refine sw_iald dX7_vote_52 h2.2.2.2.1 (fun a => ?_)
      exact SW.sub [] rfl (hJ53 a u_4)
set_option maxRecDepth 100000 in
theorem w_X0_growOlder_L2 {ι : qI} {b : Nat} (k : Nat) (h0 : is_X0 ι k)  {K35 : qS → qR} (hK35 : ∀  (u : qS), SW RX0 cX0_growOlder 2 none 1 ι b 35 [] [] u (K35  u)) (fu : Nat) (x1 : Int32) (u : qS) : SW RX0 cX0_growOlder 2 none 1 ι b 2 [(0, .ref (b + k)), (1, .int x1)] [] u (q_it1 (m_X0_growOlder_L2 k K35) fu x1 u) := by
  refine SW.it1 (fun x1 => [(0, .ref (b + k)), (1, .int x1)]) (fun self ih x1 u => ?_) fu x1 u
  unfold m_X0_growOlder_L2
  refine sw_iload_n 1 dX0_growOlder_2 rfl rfl ?_
  refine sw_aload_n 0 dX0_growOlder_3 rfl rfl ?_
  refine sw_geti q_cl0 8 dX0_growOlder_4 t_64 (by decide) h0.1 rfl ?_
  refine sw_icmp_ge 35 dX0_growOlder_7 (by decide) ?_ ?_
  · exact SW.sub [] rfl (hK35  u)
  · refine sw_aload_n 0 dX0_growOlder_10 rfl rfl ?_
    refine sw_getr q_cl0 16 (r := (k + 6)) dX0_growOlder_11 t_89 (by decide) h0.1 rfl ?_
    refine sw_iload_n 1 dX0_growOlder_14 rfl rfl ?_
    refine sw_bipush (99 : Int32) dX0_growOlder_15 (by decide) ?_
    refine sw_aload_n 0 dX0_growOlder_17 rfl rfl ?_
    refine sw_getr q_cl0 16 (r := (k + 6)) dX0_growOlder_18 t_89 (by decide) h0.1 rfl ?_
    refine sw_iload_n 1 dX0_growOlder_21 rfl rfl ?_
    refine sw_iald dX0_growOlder_22 h0.2.2.2.2.2.2.1 (fun a => ?_)
    refine sw_iconst (1 : Int32) dX0_growOlder_23 (by decide) ?_
    refine sw_iadd dX0_growOlder_24 ?_
    refine sw_qmin dX0_growOlder_25 t_552 t_522 t_14 t_523 (by decide) (Nat.le_of_ble_eq_true rfl) ?_
    refine sw_iast dX0_growOlder_28 h0.2.2.2.2.2.2.1 (fun u_1 => ?_)
    refine sw_iinc (lv' := [(1, .int (x1 + (1 : Int32))), (0, .ref (b + k))]) 1 dX0_growOlder_29 rfl (congrArg (x1 + ·) (by decide)) (by decide) rfl ?_
    refine sw_goto 2 dX0_growOlder_32 (by decide) ?_
    exact SW.sub [1, 0] rfl (ih (x1 + (1 : Int32)) u_1)
set_option maxRecDepth 100000 in
theorem c_X0_growOlder (l : Launch) {ι : qI} {b : Nat} (k : Nat)  (u : qS) (h0 : is_X0 ι k) : CN l yX0_growOlder cX0_growOlder 2 none 1 ι b [.ref (b + k)] u (m_X0_growOlder k u) := by
  refine CN.of_SW (own := RX0) rfl (by decide) (Nat.le_of_ble_eq_true rfl) [(0, .ref (b + k))] rfl ?_
  unfold m_X0_growOlder
  refine sw_iconst (0 : Int32) dX0_growOlder_0 (by decide) ?_
  refine sw_istore_n (lv' := [(1, .int (0 : Int32)), (0, .ref (b + k))]) dX0_growOlder_1 rfl (by decide) rfl ?_
  refine SW.sub (lv' := [(0, .ref (b + k)), (1, .int (0 : Int32))]) [1, 0] rfl ?_
  refine w_X0_growOlder_L2 k h0 (fun u_2 => ?_) q_F (0 : Int32) u
  exact sw_vret dX0_growOlder_35
set_option maxRecDepth 100000 in
theorem w_X7_pass_L22 {ι : qI} {b : Nat} (k : Nat) (k2 : Nat) (h0 : is_X7 ι k) (h1 : is_X9 ι 1) (h2 : is_X0 ι k2) (x3 : Int32) (x4 : Int32) {K67 : qS → qR} (hK67 : ∀  (u : qS), SW RX7 cX7_pass 6 none 6 ι b 67 [(0, .ref (b + k)), (1, .ref (b + 1)), (2, .ref (b + k2)), (3, .int x3), (4, .int x4)] [] u (K67  u)) (fu : Nat) (x5 : Int32) (u : qS) : SW RX7 cX7_pass 6 none 6 ι b 22 [(0, .ref (b + k)), (1, .ref (b + 1)), (2, .ref (b + k2)), (3, .int x3), (4, .int x4), (5, .int x5)] [] u (q_it1 (m_X7_pass_L22 k k2 x3 x4 K67) fu x5 u) := by
  refine SW.it1 (fun x5 => [(0, .ref (b + k)), (1, .ref (b + 1)), (2, .ref (b + k2)), (3, .int x3), (4, .int x4), (5, .int x5)]) (fun self ih x5 u => ?_) fu x5 u
  unfold m_X7_pass_L22
  refine sw_iload 5 dX7_pass_22 rfl ?_
  refine sw_aload_n 2 dX7_pass_24 rfl rfl ?_
  refine sw_geti q_cl0 8 dX7_pass_25 t_63 (by decide) h2.1 rfl ?_
  refine sw_icmp_ge 67 dX7_pass_28 (by decide) ?_ ?_
  · exact SW.sub [0, 1, 2, 3, 4] rfl (hK67  u)
  · refine sw_aload_n 2 dX7_pass_31 rfl rfl ?_
    refine sw_getr q_cl0 17 (r := (k2 + 7)) dX7_pass_32 t_93 (by decide) h2.1 rfl ?_
    refine sw_iload 5 dX7_pass_35 rfl ?_
    refine sw_bipush (99 : Int32) dX7_pass_37 (by decide) ?_
    refine sw_aload_n 2 dX7_pass_39 rfl rfl ?_
    refine sw_getr q_cl0 17 (r := (k2 + 7)) dX7_pass_40 t_93 (by decide) h2.1 rfl ?_
    refine sw_iload 5 dX7_pass_43 rfl ?_
    refine sw_iald dX7_pass_45 h2.2.2.2.2.2.2.2.1 (fun a => ?_)
    refine sw_aload_n 1 dX7_pass_46 rfl rfl ?_
    refine sw_getr q_cl9 1 (r := 12) dX7_pass_47 t_275 (by decide) h1.1 rfl ?_
    refine sw_aload_n 2 dX7_pass_50 rfl rfl ?_
    refine sw_iload 5 dX7_pass_51 rfl ?_
    refine sw_callVi (As := [.ref (b + k2), .int x5]) (k := 12) rfl dX7_pass_53 t_583 mf_X2_bears h1.2.2.1.1 q_cl2 (by decide) (Nat.le_of_ble_eq_true rfl) (fun l => c_X2_bears l 12 k2 x5 u h1.2.2.1 h2) (fun r u_3 => ?_)
    refine sw_iadd dX7_pass_56 ?_
    refine sw_qmin dX7_pass_57 t_580 t_522 t_14 t_523 (by decide) (Nat.le_of_ble_eq_true rfl) ?_
    refine sw_iast dX7_pass_60 h2.2.2.2.2.2.2.2.1 (fun u_4 => ?_)
    refine sw_iinc (lv' := [(5, .int (x5 + (1 : Int32))), (0, .ref (b + k)), (1, .ref (b + 1)), (2, .ref (b + k2)), (3, .int x3), (4, .int x4)]) 5 dX7_pass_61 rfl (congrArg (x5 + ·) (by decide)) (by decide) rfl ?_
    refine sw_goto 22 dX7_pass_64 (by decide) ?_
    exact SW.sub [1, 2, 3, 4, 5, 0] rfl (ih (x5 + (1 : Int32)) u_4)
set_option maxRecDepth 100000 in
theorem w_X7_pass_L70 {ι : qI} {b : Nat} (k : Nat) (k2 : Nat) (h0 : is_X7 ι k) (h1 : is_X9 ι 1) (h2 : is_X0 ι k2) (x3 : Int32) (x4 : Int32) {K93 : qS → qR} (hK93 : ∀  (u : qS), SW RX7 cX7_pass 6 none 6 ι b 93 [(0, .ref (b + k)), (1, .ref (b + 1)), (2, .ref (b + k2)), (3, .int x3), (4, .int x4)] [] u (K93  u)) (fu : Nat) (x5 : Int32) (u : qS) : SW RX7 cX7_pass 6 none 6 ι b 70 [(0, .ref (b + k)), (1, .ref (b + 1)), (2, .ref (b + k2)), (3, .int x3), (4, .int x4), (5, .int x5)] [] u (q_it1 (m_X7_pass_L70 k k2 x3 x4 K93) fu x5 u) := by
  refine SW.it1 (fun x5 => [(0, .ref (b + k)), (1, .ref (b + 1)), (2, .ref (b + k2)), (3, .int x3), (4, .int x4), (5, .int x5)]) (fun self ih x5 u => ?_) fu x5 u
  unfold m_X7_pass_L70
  refine sw_iload 5 dX7_pass_70 rfl ?_
  refine sw_aload_n 2 dX7_pass_72 rfl rfl ?_
  refine sw_geti q_cl0 9 dX7_pass_73 t_66 (by decide) h2.1 rfl ?_
  refine sw_icmp_ge 93 dX7_pass_76 (by decide) ?_ ?_
  · exact SW.sub [0, 1, 2, 3, 4] rfl (hK93  u)
  · refine sw_aload_n 0 dX7_pass_79 rfl rfl ?_
    refine sw_aload_n 1 dX7_pass_80 rfl rfl ?_
    refine sw_aload_n 2 dX7_pass_81 rfl rfl ?_
    refine sw_iload 5 dX7_pass_82 rfl ?_
    refine sw_callVv (As := [.ref (b + 1), .ref (b + k2), .int x5]) (k := k) rfl dX7_pass_84 t_611 mf_X7_eat h0.1 q_cl7 (by decide) (Nat.le_of_ble_eq_true rfl) (fun l => c_X7_eat l k k2 x5 u h0 h1 h2) (fun _ u_6 => ?_)
    refine sw_iinc (lv' := [(5, .int (x5 + (1 : Int32))), (0, .ref (b + k)), (1, .ref (b + 1)), (2, .ref (b + k2)), (3, .int x3), (4, .int x4)]) 5 dX7_pass_87 rfl (congrArg (x5 + ·) (by decide)) (by decide) rfl ?_
    refine sw_goto 70 dX7_pass_90 (by decide) ?_
    exact SW.sub [1, 2, 3, 4, 5, 0] rfl (ih (x5 + (1 : Int32)) u_6)
set_option maxRecDepth 100000 in
theorem w_X7_pass_L7 {ι : qI} {b : Nat} (k : Nat) (k2 : Nat) (h0 : is_X7 ι k) (h1 : is_X9 ι 1) (h2 : is_X0 ι k2) (x3 : Int32) {K170 : qS → qR} (hK170 : ∀  (u : qS), SW RX7 cX7_pass 6 none 6 ι b 170 [] [] u (K170  u)) (fu : Nat) (x4 : Int32) (u : qS) : SW RX7 cX7_pass 6 none 6 ι b 7 [(0, .ref (b + k)), (1, .ref (b + 1)), (2, .ref (b + k2)), (3, .int x3), (4, .int x4)] [] u (q_it1 (m_X7_pass_L7 k k2 x3 K170) fu x4 u) := by
  refine SW.it1 (fun x4 => [(0, .ref (b + k)), (1, .ref (b + 1)), (2, .ref (b + k2)), (3, .int x3), (4, .int x4)]) (fun self ih x4 u => ?_) fu x4 u
  unfold m_X7_pass_L7
  refine sw_iload 4 dX7_pass_7 rfl ?_
  refine sw_iload_n 3 dX7_pass_9 rfl rfl ?_
  refine sw_icmp_ge 170 dX7_pass_10 (by decide) ?_ ?_
  · exact SW.sub [] rfl (hK170  u)
  · refine sw_aload_n 0 dX7_pass_13 rfl rfl ?_
    refine sw_aload_n 1 dX7_pass_14 rfl rfl ?_
    refine sw_aload_n 2 dX7_pass_15 rfl rfl ?_
    refine sw_callVv (As := [.ref (b + 1), .ref (b + k2)]) (k := k) rfl dX7_pass_16 t_565 mf_X7_follow h0.1 q_cl7 (by decide) (Nat.le_of_ble_eq_true rfl) (fun l => c_X7_follow l k k2 u h0 h1 h2) (fun _ u_2 => ?_)
    refine sw_iconst (0 : Int32) dX7_pass_19 (by decide) ?_
    refine sw_istore (lv' := [(5, .int (0 : Int32)), (0, .ref (b + k)), (1, .ref (b + 1)), (2, .ref (b + k2)), (3, .int x3), (4, .int x4)]) dX7_pass_20 (by decide) rfl ?_
    refine SW.sub (lv' := [(0, .ref (b + k)), (1, .ref (b + 1)), (2, .ref (b + k2)), (3, .int x3), (4, .int x4), (5, .int (0 : Int32))]) [1, 2, 3, 4, 5, 0] rfl ?_
    refine w_X7_pass_L22 k k2 h0 h1 h2 x3 x4 (fun u_5 => ?_) q_F (0 : Int32) u_2
    refine sw_iconst (0 : Int32) dX7_pass_67 (by decide) ?_
    refine sw_istore (lv' := [(5, .int (0 : Int32)), (0, .ref (b + k)), (1, .ref (b + 1)), (2, .ref (b + k2)), (3, .int x3), (4, .int x4)]) dX7_pass_68 (by decide) rfl ?_
    refine SW.sub (lv' := [(0, .ref (b + k)), (1, .ref (b + 1)), (2, .ref (b + k2)), (3, .int x3), (4, .int x4), (5, .int (0 : Int32))]) [1, 2, 3, 4, 5, 0] rfl ?_
    refine w_X7_pass_L70 k k2 h0 h1 h2 x3 x4 (fun u_7 => ?_) q_F (0 : Int32) u_5
    refine sw_aload_n 0 dX7_pass_93 rfl rfl ?_
    refine sw_geti q_cl7 0 dX7_pass_94 t_383 (by decide) h0.1 rfl ?_
    refine SW.jn0 113 ([(0, .ref (b + k)), (1, .ref (b + 1)), (2, .ref (b + k2)), (3, .int x3), (4, .int x4)]) ([]) (fun  u_8 => ?_) (fun J113 hJ113 => ?_)
    · refine sw_aload_n 2 dX7_pass_113 rfl rfl ?_
      refine sw_geti q_cl0 5 dX7_pass_114 t_56 (by decide) h2.1 rfl ?_
      refine SW.jn0 140 ([(0, .ref (b + k)), (1, .ref (b + 1)), (2, .ref (b + k2)), (3, .int x3), (4, .int x4)]) ([]) (fun  u_9 => ?_) (fun J140 hJ140 => ?_)
      · refine sw_aload_n 2 dX7_pass_140 rfl rfl ?_
        refine sw_dup dX7_pass_141 rfl ?_
        refine sw_geti q_cl0 0 dX7_pass_142 t_41 (by decide) h2.1 rfl ?_
        refine sw_iconst (1 : Int32) dX7_pass_145 (by decide) ?_
        refine sw_iadd dX7_pass_146 ?_
        refine sw_puti q_cl0 0 dX7_pass_147 t_41 (by decide) (by decide +kernel) rfl h2.1 rfl (fun u_10 => ?_)
        refine sw_aload_n 2 dX7_pass_150 rfl rfl ?_
        refine sw_geti q_cl0 0 dX7_pass_151 t_41 (by decide) h2.1 rfl ?_
        refine sw_bipush (52 : Int32) dX7_pass_154 (by decide) ?_
        refine sw_qrmc dX7_pass_156 (by decide) ?_
        refine SW.jn0 164 ([(0, .ref (b + k)), (1, .ref (b + 1)), (2, .ref (b + k2)), (3, .int x3), (4, .int x4)]) ([]) (fun  u_11 => ?_) (fun J164 hJ164 => ?_)
        · refine sw_iinc (lv' := [(4, .int (x4 + (1 : Int32))), (0, .ref (b + k)), (1, .ref (b + 1)), (2, .ref (b + k2)), (3, .int x3)]) 4 dX7_pass_164 rfl (congrArg (x4 + ·) (by decide)) (by decide) rfl ?_
          refine sw_goto 7 dX7_pass_167 (by decide) ?_
          exact SW.sub [1, 2, 3, 4, 0] rfl (ih (x4 + (1 : Int32)) u_11)
        · refine sw_if_ne 164 dX7_pass_157 (by decide) ?_ ?_
          · refine sw_aload_n 2 dX7_pass_160 rfl rfl ?_
            refine sw_callVv (As := []) (k := k2) rfl dX7_pass_161 t_680 mf_X0_growOlder h2.1 q_cl0 (by decide) (Nat.le_of_ble_eq_true rfl) (fun l => c_X0_growOlder l k2 u_10 h2) (fun _ u_12 => ?_)
            exact SW.sub [0, 1, 2, 3, 4] rfl (hJ164  u_12)
          · exact SW.sub [0, 1, 2, 3, 4] rfl (hJ164  u_10)
      · refine sw_if_le 140 dX7_pass_117 (by decide) ?_ ?_
        · exact SW.sub [0, 1, 2, 3, 4] rfl (hJ140  u_8)
        · refine sw_aload_n 2 dX7_pass_120 rfl rfl ?_
          refine sw_geti q_cl0 0 dX7_pass_121 t_41 (by decide) h2.1 rfl ?_
          refine sw_iconst (1 : Int32) dX7_pass_124 (by decide) ?_
          refine sw_iadd dX7_pass_125 ?_
          refine sw_aload_n 2 dX7_pass_126 rfl rfl ?_
          refine sw_geti q_cl0 5 dX7_pass_127 t_56 (by decide) h2.1 rfl ?_
          refine sw_irem dX7_pass_130 (fun a => ?_)
          refine sw_if_ne 140 dX7_pass_131 (by decide) ?_ ?_
          · refine sw_aload_n 0 dX7_pass_134 rfl rfl ?_
            refine sw_aload_n 1 dX7_pass_135 rfl rfl ?_
            refine sw_aload_n 2 dX7_pass_136 rfl rfl ?_
            refine sw_callVv (As := [.ref (b + 1), .ref (b + k2)]) (k := k) rfl dX7_pass_137 t_664 mf_X7_vote h0.1 q_cl7 (by decide) (Nat.le_of_ble_eq_true rfl) (fun l => c_X7_vote l k k2 u_8 h0 h1 h2) (fun _ u_13 => ?_)
            exact SW.sub [0, 1, 2, 3, 4] rfl (hJ140  u_13)
          · exact SW.sub [0, 1, 2, 3, 4] rfl (hJ140  u_8)
    · refine sw_if_eq 113 dX7_pass_97 (by decide) ?_ ?_
      · exact SW.sub [0, 1, 2, 3, 4] rfl (hJ113  u_7)
      · refine sw_aload_n 2 dX7_pass_100 rfl rfl ?_
        refine sw_geti q_cl0 3 dX7_pass_101 t_51 (by decide) h2.1 rfl ?_
        refine sw_if_le 113 dX7_pass_104 (by decide) ?_ ?_
        · exact SW.sub [0, 1, 2, 3, 4] rfl (hJ113  u_7)
        · refine sw_aload_n 0 dX7_pass_107 rfl rfl ?_
          refine sw_aload_n 1 dX7_pass_108 rfl rfl ?_
          refine sw_aload_n 2 dX7_pass_109 rfl rfl ?_
          refine sw_callVv (As := [.ref (b + 1), .ref (b + k2)]) (k := k) rfl dX7_pass_110 t_660 mf_X7_sting h0.1 q_cl7 (by decide) (Nat.le_of_ble_eq_true rfl) (fun l => c_X7_sting l k k2 u_7 h0 h1 h2) (fun _ u_14 => ?_)
          exact SW.sub [0, 1, 2, 3, 4] rfl (hJ113  u_14)
set_option maxRecDepth 100000 in
theorem c_X7_pass (l : Launch) {ι : qI} {b : Nat} (k : Nat) (k2 : Nat) (x3 : Int32) (u : qS) (h0 : is_X7 ι k) (h1 : is_X9 ι 1) (h2 : is_X0 ι k2) : CN l yX7_pass cX7_pass 6 none 6 ι b [.ref (b + k), .ref (b + 1), .ref (b + k2), .int x3] u (m_X7_pass k k2 x3 u) := by
  refine CN.of_SW (own := RX7) rfl (by decide) (Nat.le_of_ble_eq_true rfl) [(0, .ref (b + k)), (1, .ref (b + 1)), (2, .ref (b + k2)), (3, .int x3)] rfl ?_
  unfold m_X7_pass
  refine sw_aload_n 0 dX7_pass_0 rfl rfl ?_
  refine sw_callVv (As := []) (k := k) rfl dX7_pass_1 t_561 mf_X7_begin h0.1 q_cl7 (by decide) (Nat.le_of_ble_eq_true rfl) (fun l => c_X7_begin l k u h0) (fun _ u_1 => ?_)
  refine sw_iconst (0 : Int32) dX7_pass_4 (by decide) ?_
  refine sw_istore (lv' := [(4, .int (0 : Int32)), (0, .ref (b + k)), (1, .ref (b + 1)), (2, .ref (b + k2)), (3, .int x3)]) dX7_pass_5 (by decide) rfl ?_
  refine SW.sub (lv' := [(0, .ref (b + k)), (1, .ref (b + 1)), (2, .ref (b + k2)), (3, .int x3), (4, .int (0 : Int32))]) [1, 2, 3, 4, 0] rfl ?_
  refine w_X7_pass_L7 k k2 h0 h1 h2 x3 (fun u_15 => ?_) q_F (0 : Int32) u_1
  exact sw_vret dX7_pass_170
set_option maxRecDepth 100000 in
theorem w_X10_weeks_L31 {ι : qI} {b : Nat}  (h0 : is_X10 ι) (x1 : Int32) {K72 : Int32 → qS → qR} (hK72 : ∀ (e2 : Int32) (u : qS), SW RX10 cX10_weeks 4 (some .int) 7 ι b 72 [(2, .int e2)] [] u (K72 e2 u)) (fu : Nat) (x2 : Int32) (x3 : Int32) (u : qS) : SW RX10 cX10_weeks 4 (some .int) 7 ι b 31 [(0, .ref (b + 0)), (1, .int x1), (2, .int x2), (3, .int x3)] [] u (q_it2 (m_X10_weeks_L31 x1 K72) fu x2 x3 u) := by
  refine SW.it2 (fun x2 x3 => [(0, .ref (b + 0)), (1, .int x1), (2, .int x2), (3, .int x3)]) (fun self ih x2 x3 u => ?_) fu x2 x3 u
  unfold m_X10_weeks_L31
  refine sw_iload_n 3 dX10_weeks_31 rfl rfl ?_
  refine sw_iload_n 1 dX10_weeks_32 rfl rfl ?_
  refine sw_icmp_ge 72 dX10_weeks_33 (by decide) ?_ ?_
  · exact SW.sub [2] rfl (hK72 x2 u)
  · refine sw_aload_n 0 dX10_weeks_36 rfl rfl ?_
    refine sw_callVv (As := []) (k := 0) rfl dX10_weeks_37 t_510 mf_X10_keep h0.1 q_cl10 (by decide) (Nat.le_of_ble_eq_true rfl) (fun l => c_X10_keep l  u h0) (fun _ u_2 => ?_)
    refine sw_aload_n 0 dX10_weeks_40 rfl rfl ?_
    refine sw_getr q_cl10 9 (r := 88) dX10_weeks_41 t_413 (by decide) h0.1 rfl ?_
    refine sw_aload_n 0 dX10_weeks_44 rfl rfl ?_
    refine sw_getr q_cl10 0 (r := 1) dX10_weeks_45 t_404 (by decide) h0.1 rfl ?_
    refine sw_aload_n 0 dX10_weeks_48 rfl rfl ?_
    refine sw_getr q_cl10 1 (r := 2) dX10_weeks_49 t_405 (by decide) h0.1 rfl ?_
    refine sw_iconst (1 : Int32) dX10_weeks_52 (by decide) ?_
    refine sw_callVv (As := [.ref (b + 1), .ref (b + 2), .int (1 : Int32)]) (k := 88) rfl dX10_weeks_53 t_557 mf_X7_pass h0.2.2.2.2.2.2.2.1.1 q_cl7 (by decide) (Nat.le_of_ble_eq_true rfl) (fun l => c_X7_pass l 88 2 (1 : Int32) u_2 h0.2.2.2.2.2.2.2.1 h0.2.1 h0.2.2.1) (fun _ u_3 => ?_)
    refine sw_iload_n 2 dX10_weeks_56 rfl rfl ?_
    refine sw_aload_n 0 dX10_weeks_57 rfl rfl ?_
    refine sw_getr q_cl10 9 (r := 88) dX10_weeks_58 t_413 (by decide) h0.1 rfl ?_
    refine sw_geti q_cl7 1 dX10_weeks_61 t_385 (by decide) h0.2.2.2.2.2.2.2.1.1 rfl ?_
    refine sw_iadd dX10_weeks_64 ?_
    refine SW.name (fun y2 => ?_)
    refine sw_istore_n (lv' := [(2, .int y2), (0, .ref (b + 0)), (1, .int x1), (3, .int x3)]) dX10_weeks_65 rfl (by decide) rfl ?_
    refine sw_iinc (lv' := [(3, .int (x3 + (1 : Int32))), (2, .int y2), (0, .ref (b + 0)), (1, .int x1)]) 3 dX10_weeks_66 rfl (congrArg (x3 + ·) (by decide)) (by decide) rfl ?_
    refine sw_goto 31 dX10_weeks_69 (by decide) ?_
    exact SW.sub [2, 3, 1, 0] rfl (ih y2 (x3 + (1 : Int32)) u_3)
set_option maxRecDepth 100000 in
theorem c_X10_weeks (l : Launch) {ι : qI} {b : Nat}  (x1 : Int32) (u : qS) (h0 : is_X10 ι) : CN l yX10_weeks cX10_weeks 4 (some .int) 7 ι b [.ref (b + 0), .int x1] u (m_X10_weeks x1 u) := by
  refine CN.of_SW (own := RX10) rfl (by decide) (Nat.le_of_ble_eq_true rfl) [(0, .ref (b + 0)), (1, .int x1)] rfl ?_
  unfold m_X10_weeks
  refine sw_iload_n 1 dX10_weeks_0 rfl rfl ?_
  refine sw_iconst (1 : Int32) dX10_weeks_1 (by decide) ?_
  refine sw_bipush (60 : Int32) dX10_weeks_2 (by decide) ?_
  refine sw_callSi (As := [.int x1, .int (1 : Int32), .int (60 : Int32)]) rfl dX10_weeks_4 t_457 mf_X10_isWithin (by decide) (Nat.le_of_ble_eq_true rfl) (fun l => c_X10_isWithin l x1 (1 : Int32) (60 : Int32) u ) (fun r u_1 => ?_)
  refine sw_if_eq 25 dX10_weeks_7 (by decide) ?_ ?_
  · refine sw_iconst (-1 : Int32) dX10_weeks_25 (by decide) ?_
    exact sw_iret dX10_weeks_26
  · refine sw_aload_n 0 dX10_weeks_10 rfl rfl ?_
    refine sw_getr q_cl10 1 (r := 2) dX10_weeks_11 t_405 (by decide) h0.1 rfl ?_
    refine sw_geti q_cl0 0 dX10_weeks_14 t_44 (by decide) h0.2.2.1.1 rfl ?_
    refine sw_iload_n 1 dX10_weeks_17 rfl rfl ?_
    refine sw_iadd dX10_weeks_18 ?_
    refine sw_sipush (9999 : Int32) dX10_weeks_19 (by decide) ?_
    refine sw_icmp_le 27 dX10_weeks_22 (by decide) ?_ ?_
    · refine sw_iconst (0 : Int32) dX10_weeks_27 (by decide) ?_
      refine sw_istore_n (lv' := [(2, .int (0 : Int32)), (0, .ref (b + 0)), (1, .int x1)]) dX10_weeks_28 rfl (by decide) rfl ?_
      refine sw_iconst (0 : Int32) dX10_weeks_29 (by decide) ?_
      refine sw_istore_n (lv' := [(3, .int (0 : Int32)), (2, .int (0 : Int32)), (0, .ref (b + 0)), (1, .int x1)]) dX10_weeks_30 rfl (by decide) rfl ?_
      refine SW.sub (lv' := [(0, .ref (b + 0)), (1, .int x1), (2, .int (0 : Int32)), (3, .int (0 : Int32))]) [2, 3, 1, 0] rfl ?_
      refine w_X10_weeks_L31 h0 x1 (fun x2 u_4 => ?_) q_F (0 : Int32) (0 : Int32) u_1
      refine sw_iload_n 0 dX10_weeks_72 rfl rfl ?_
      exact sw_iret dX10_weeks_73
    · refine sw_iconst (-1 : Int32) dX10_weeks_25 (by decide) ?_
      exact sw_iret dX10_weeks_26
set_option maxRecDepth 100000 in
theorem w_X8_addFour_L3 {ι : qI} {b : Nat} (k : Nat) (h0 : is_X8 ι k) (x1 : Int32) {K49 : qS → qR} (hK49 : ∀  (u : qS), SW RX8 cX8_addFour 3 none 1 ι b 49 [] [] u (K49  u)) (fu : Nat) (x2 : Int32) (u : qS) : SW RX8 cX8_addFour 3 none 1 ι b 3 [(0, .ref (b + k)), (1, .int x1), (2, .int x2)] [] u (q_it1 (m_X8_addFour_L3 k x1 K49) fu x2 u) := by
  refine SW.it1 (fun x2 => [(0, .ref (b + k)), (1, .int x1), (2, .int x2)]) (fun self ih x2 u => ?_) fu x2 u
  unfold m_X8_addFour_L3
  refine sw_iload_n 2 dX8_addFour_3 rfl rfl ?_
  refine sw_if_lt 49 dX8_addFour_4 (by decide) ?_ ?_
  · exact SW.sub [] rfl (hK49  u)
  · refine sw_aload_n 0 dX8_addFour_7 rfl rfl ?_
    refine sw_geti q_cl8 1 dX8_addFour_8 t_316 (by decide) h0.1 rfl ?_
    refine sw_sipush (400 : Int32) dX8_addFour_11 (by decide) ?_
    refine sw_icmp_ge 49 dX8_addFour_14 (by decide) ?_ ?_
    · exact SW.sub [] rfl (hK49  u)
    · refine sw_aload_n 0 dX8_addFour_17 rfl rfl ?_
      refine sw_getr q_cl8 0 (r := (k + 1)) dX8_addFour_18 t_315 (by decide) h0.1 rfl ?_
      refine sw_aload_n 0 dX8_addFour_21 rfl rfl ?_
      refine sw_geti q_cl8 1 dX8_addFour_22 t_316 (by decide) h0.1 rfl ?_
      refine sw_iload_n 1 dX8_addFour_25 rfl rfl ?_
      refine sw_iload_n 2 dX8_addFour_26 rfl rfl ?_
      refine sw_qushr dX8_addFour_27 ?_
      refine sw_sipush (255 : Int32) dX8_addFour_28 (by decide) ?_
      refine sw_iand dX8_addFour_31 ?_
      refine sw_iast dX8_addFour_32 h0.2.1 (fun u_1 => ?_)
      refine sw_aload_n 0 dX8_addFour_33 rfl rfl ?_
      refine sw_dup dX8_addFour_34 rfl ?_
      refine sw_geti q_cl8 1 dX8_addFour_35 t_316 (by decide) h0.1 rfl ?_
      refine sw_iconst (1 : Int32) dX8_addFour_38 (by decide) ?_
      refine sw_iadd dX8_addFour_39 ?_
      refine sw_puti q_cl8 1 dX8_addFour_40 t_316 (by decide) (by decide +kernel) rfl h0.1 rfl (fun u_2 => ?_)
      refine sw_iinc (lv' := [(2, .int (x2 + (-8 : Int32))), (0, .ref (b + k)), (1, .int x1)]) 2 dX8_addFour_43 rfl (congrArg (x2 + ·) (by decide)) (by decide) rfl ?_
      refine sw_goto 3 dX8_addFour_46 (by decide) ?_
      exact SW.sub [1, 2, 0] rfl (ih (x2 + (-8 : Int32)) u_2)
set_option maxRecDepth 100000 in
theorem c_X8_addFour (l : Launch) {ι : qI} {b : Nat} (k : Nat) (x1 : Int32) (u : qS) (h0 : is_X8 ι k) : CN l yX8_addFour cX8_addFour 3 none 1 ι b [.ref (b + k), .int x1] u (m_X8_addFour k x1 u) := by
  refine CN.of_SW (own := RX8) rfl (by decide) (Nat.le_of_ble_eq_true rfl) [(0, .ref (b + k)), (1, .int x1)] rfl ?_
  unfold m_X8_addFour
  refine sw_bipush (24 : Int32) dX8_addFour_0 (by decide) ?_
  refine sw_istore_n (lv' := [(2, .int (24 : Int32)), (0, .ref (b + k)), (1, .int x1)]) dX8_addFour_2 rfl (by decide) rfl ?_
  refine SW.sub (lv' := [(0, .ref (b + k)), (1, .int x1), (2, .int (24 : Int32))]) [1, 2, 0] rfl ?_
  refine w_X8_addFour_L3 k h0 x1 (fun u_3 => ?_) q_F (24 : Int32) u
  exact sw_vret dX8_addFour_49
set_option maxRecDepth 100000 in
theorem c_X10_feed (l : Launch) {ι : qI} {b : Nat}  (x1 : Int32) (x2 : Int32) (x3 : Int32) (x4 : Int32) (x5 : Int32) (u : qS) (h0 : is_X10 ι) : CN l yX10_feed cX10_feed 6 (some .int) 2 ι b [.ref (b + 0), .int x1, .int x2, .int x3, .int x4, .int x5] u (m_X10_feed x1 x2 x3 x4 x5 u) := by
  refine CN.of_SW (own := RX10) rfl (by decide) (Nat.le_of_ble_eq_true rfl) [(0, .ref (b + 0)), (1, .int x1), (2, .int x2), (3, .int x3), (4, .int x4), (5, .int x5)] rfl ?_
  unfold m_X10_feed
  refine sw_aload_n 0 dX10_feed_0 rfl rfl ?_
  refine sw_getr q_cl10 8 (r := 67) dX10_feed_1 t_412 (by decide) h0.1 rfl ?_
  refine sw_geti q_cl8 1 dX10_feed_4 t_317 (by decide) h0.2.2.2.2.2.2.1.1 rfl ?_
  refine sw_bipush (20 : Int32) dX10_feed_7 (by decide) ?_
  refine sw_iadd dX10_feed_9 ?_
  refine sw_sipush (400 : Int32) dX10_feed_10 (by decide) ?_
  refine sw_icmp_le 18 dX10_feed_13 (by decide) ?_ ?_
  · refine sw_aload_n 0 dX10_feed_18 rfl rfl ?_
    refine sw_getr q_cl10 8 (r := 67) dX10_feed_19 t_412 (by decide) h0.1 rfl ?_
    refine sw_iload_n 1 dX10_feed_22 rfl rfl ?_
    refine sw_callVv (As := [.int x1]) (k := 67) rfl dX10_feed_23 t_688 mf_X8_addFour h0.2.2.2.2.2.2.1.1 q_cl8 (by decide) (Nat.le_of_ble_eq_true rfl) (fun l => c_X8_addFour l 67 x1 u h0.2.2.2.2.2.2.1) (fun _ u_1 => ?_)
    refine sw_aload_n 0 dX10_feed_26 rfl rfl ?_
    refine sw_getr q_cl10 8 (r := 67) dX10_feed_27 t_412 (by decide) h0.1 rfl ?_
    refine sw_iload_n 2 dX10_feed_30 rfl rfl ?_
    refine sw_callVv (As := [.int x2]) (k := 67) rfl dX10_feed_31 t_688 mf_X8_addFour h0.2.2.2.2.2.2.1.1 q_cl8 (by decide) (Nat.le_of_ble_eq_true rfl) (fun l => c_X8_addFour l 67 x2 u_1 h0.2.2.2.2.2.2.1) (fun _ u_2 => ?_)
    refine sw_aload_n 0 dX10_feed_34 rfl rfl ?_
    refine sw_getr q_cl10 8 (r := 67) dX10_feed_35 t_412 (by decide) h0.1 rfl ?_
    refine sw_iload_n 3 dX10_feed_38 rfl rfl ?_
    refine sw_callVv (As := [.int x3]) (k := 67) rfl dX10_feed_39 t_688 mf_X8_addFour h0.2.2.2.2.2.2.1.1 q_cl8 (by decide) (Nat.le_of_ble_eq_true rfl) (fun l => c_X8_addFour l 67 x3 u_2 h0.2.2.2.2.2.2.1) (fun _ u_3 => ?_)
    refine sw_aload_n 0 dX10_feed_42 rfl rfl ?_
    refine sw_getr q_cl10 8 (r := 67) dX10_feed_43 t_412 (by decide) h0.1 rfl ?_
    refine sw_iload 4 dX10_feed_46 rfl ?_
    refine sw_callVv (As := [.int x4]) (k := 67) rfl dX10_feed_48 t_688 mf_X8_addFour h0.2.2.2.2.2.2.1.1 q_cl8 (by decide) (Nat.le_of_ble_eq_true rfl) (fun l => c_X8_addFour l 67 x4 u_3 h0.2.2.2.2.2.2.1) (fun _ u_4 => ?_)
    refine sw_aload_n 0 dX10_feed_51 rfl rfl ?_
    refine sw_getr q_cl10 8 (r := 67) dX10_feed_52 t_412 (by decide) h0.1 rfl ?_
    refine sw_iload 5 dX10_feed_55 rfl ?_
    refine sw_callVv (As := [.int x5]) (k := 67) rfl dX10_feed_57 t_688 mf_X8_addFour h0.2.2.2.2.2.2.1.1 q_cl8 (by decide) (Nat.le_of_ble_eq_true rfl) (fun l => c_X8_addFour l 67 x5 u_4 h0.2.2.2.2.2.2.1) (fun _ u_5 => ?_)
    refine sw_aload_n 0 dX10_feed_60 rfl rfl ?_
    refine sw_getr q_cl10 8 (r := 67) dX10_feed_61 t_412 (by decide) h0.1 rfl ?_
    refine sw_geti q_cl8 1 dX10_feed_64 t_317 (by decide) h0.2.2.2.2.2.2.1.1 rfl ?_
    exact sw_iret dX10_feed_67
  · refine sw_iconst (-1 : Int32) dX10_feed_16 (by decide) ?_
    exact sw_iret dX10_feed_17
set_option maxRecDepth 100000 in
theorem c_X10_end (l : Launch) {ι : qI} {b : Nat}  (x1 : Int32) (u : qS) (h0 : is_X10 ι) : CN l yX10_end cX10_end 2 (some .boolean) 2 ι b [.ref (b + 0), .int x1] u (m_X10_end x1 u) := by
  refine CN.of_SW (own := RX10) rfl (by decide) (Nat.le_of_ble_eq_true rfl) [(0, .ref (b + 0)), (1, .int x1)] rfl ?_
  unfold m_X10_end
  refine sw_iload_n 1 dX10_end_0 rfl rfl ?_
  refine sw_iconst (0 : Int32) dX10_end_1 (by decide) ?_
  refine sw_aload_n 0 dX10_end_2 rfl rfl ?_
  refine sw_getr q_cl10 8 (r := 67) dX10_end_3 t_412 (by decide) h0.1 rfl ?_
  refine sw_geti q_cl8 1 dX10_end_6 t_317 (by decide) h0.2.2.2.2.2.2.1.1 rfl ?_
  refine sw_callSi (As := [.int x1, .int (0 : Int32), .int (u.1 67 1)]) rfl dX10_end_9 t_457 mf_X10_isWithin (by decide) (Nat.le_of_ble_eq_true rfl) (fun l => c_X10_isWithin l x1 (0 : Int32) (u.1 67 1) u ) (fun r u_1 => ?_)
  refine sw_if_ne 17 dX10_end_12 (by decide) ?_ ?_
  · refine sw_iconst (0 : Int32) dX10_end_15 (by decide) ?_
    exact sw_zret0 dX10_end_16
  · refine sw_aload_n 0 dX10_end_17 rfl rfl ?_
    refine sw_getr q_cl10 8 (r := 67) dX10_end_18 t_412 (by decide) h0.1 rfl ?_
    refine sw_iload_n 1 dX10_end_21 rfl rfl ?_
    refine sw_puti q_cl8 1 dX10_end_22 t_317 (by decide) (by decide +kernel) rfl h0.2.2.2.2.2.2.1.1 rfl (fun u_2 => ?_)
    refine sw_iconst (1 : Int32) dX10_end_25 (by decide) ?_
    exact sw_zret1 dX10_end_26
set_option maxRecDepth 100000 in
theorem c_X6_begin (l : Launch) {ι : qI} {b : Nat} (k : Nat) (x1 : Int32) (x2 : Int32) (u : qS) (h0 : is_X6 ι k) : CN l yX6_begin cX6_begin 3 none 1 ι b [.ref (b + k), .int x1, .int x2] u (m_X6_begin k x1 x2 u) := by
  refine CN.of_SW (own := RX6) rfl (by decide) (Nat.le_of_ble_eq_true rfl) [(0, .ref (b + k)), (1, .int x1), (2, .int x2)] rfl ?_
  unfold m_X6_begin
  refine sw_aload_n 0 dX6_begin_0 rfl rfl ?_
  refine sw_iload_n 1 dX6_begin_1 rfl rfl ?_
  refine sw_puti q_cl6 7 dX6_begin_2 t_356 (by decide) (by decide +kernel) rfl h0.1 rfl (fun u_1 => ?_)
  refine sw_aload_n 0 dX6_begin_5 rfl rfl ?_
  refine sw_iload_n 2 dX6_begin_6 rfl rfl ?_
  refine sw_puti q_cl6 8 dX6_begin_7 t_357 (by decide) (by decide +kernel) rfl h0.1 rfl (fun u_2 => ?_)
  refine sw_aload_n 0 dX6_begin_10 rfl rfl ?_
  refine sw_iconst (0 : Int32) dX6_begin_11 (by decide) ?_
  refine sw_puti q_cl6 0 dX6_begin_12 t_346 (by decide) (by decide +kernel) rfl h0.1 rfl (fun u_3 => ?_)
  refine sw_aload_n 0 dX6_begin_15 rfl rfl ?_
  refine sw_iconst (-1 : Int32) dX6_begin_16 (by decide) ?_
  refine sw_puti q_cl6 1 dX6_begin_17 t_348 (by decide) (by decide +kernel) rfl h0.1 rfl (fun u_4 => ?_)
  refine sw_aload_n 0 dX6_begin_20 rfl rfl ?_
  refine sw_iconst (0 : Int32) dX6_begin_21 (by decide) ?_
  refine sw_puti q_cl6 6 dX6_begin_22 t_355 (by decide) (by decide +kernel) rfl h0.1 rfl (fun u_5 => ?_)
  exact sw_vret dX6_begin_25
set_option maxRecDepth 100000 in
theorem c_X8_isLetter (l : Launch) {ι : qI} {b : Nat}  (x0 : Int32) (u : qS)  : CN l yX8_isLetter cX8_isLetter 1 (some .boolean) 1 ι b [.int x0] u (m_X8_isLetter x0 u) := by
  refine CN.of_SW (own := RX8) rfl (by decide) (Nat.le_of_ble_eq_true rfl) [(0, .int x0)] rfl ?_
  unfold m_X8_isLetter
  refine sw_iload_n 0 dX8_isLetter_0 rfl rfl ?_
  refine sw_bipush (97 : Int32) dX8_isLetter_1 (by decide) ?_
  refine SW.jn0 24 ([]) ([]) (fun  u_1 => ?_) (fun J24 hJ24 => ?_)
  · refine sw_iconst (1 : Int32) dX8_isLetter_24 (by decide) ?_
    refine sw_goto 29 dX8_isLetter_25 (by decide) ?_
    exact sw_zret1 dX8_isLetter_29
  · refine SW.jn0 12 ([(0, .int x0)]) ([]) (fun  u_2 => ?_) (fun J12 hJ12 => ?_)
    · refine sw_iload_n 0 dX8_isLetter_12 rfl rfl ?_
      refine sw_bipush (65 : Int32) dX8_isLetter_13 (by decide) ?_
      refine sw_icmp_lt 28 dX8_isLetter_15 (by decide) ?_ ?_
      · refine sw_iconst (0 : Int32) dX8_isLetter_28 (by decide) ?_
        exact sw_zret0 dX8_isLetter_29
      · refine sw_iload_n 0 dX8_isLetter_18 rfl rfl ?_
        refine sw_bipush (90 : Int32) dX8_isLetter_19 (by decide) ?_
        refine sw_icmp_gt 28 dX8_isLetter_21 (by decide) ?_ ?_
        · refine sw_iconst (0 : Int32) dX8_isLetter_28 (by decide) ?_
          exact sw_zret0 dX8_isLetter_29
        · exact SW.sub [] rfl (hJ24  u_2)
    · refine sw_icmp_lt 12 dX8_isLetter_3 (by decide) ?_ ?_
      · exact SW.sub [0] rfl (hJ12  u)
      · refine sw_iload_n 0 dX8_isLetter_6 rfl rfl ?_
        refine sw_bipush (122 : Int32) dX8_isLetter_7 (by decide) ?_
        refine sw_icmp_le 24 dX8_isLetter_9 (by decide) ?_ ?_
        · exact SW.sub [] rfl (hJ24  u)
        · exact SW.sub [0] rfl (hJ12  u)
set_option maxRecDepth 100000 in
theorem w_X8_word_L12 {ι : qI} {b : Nat} (k : Nat) (si : Nat) (h0 : is_X8 ι k) (hsi : si < q_sn) (x2 : Int32) (x3 : Int32) {K83 : Int32 → qS → qR} {K105 : qS → qR} (hK83 : ∀ (e4 : Int32) (u : qS), SW RX8 cX8_word 9 (some .int) 5 ι b 83 [(4, .int e4)] [] u (K83 e4 u)) (hK105 : ∀  (u : qS), SW RX8 cX8_word 9 (some .int) 5 ι b 105 [] [] u (K105  u)) (fu : Nat) (x4 : Int32) (x5 : Int32) (x6 : Int32) (x7 : Int32) (u : qS) : SW RX8 cX8_word 9 (some .int) 5 ι b 12 [(0, .ref (b + k)), (1, .ref (ι.2.1 si)), (2, .int x2), (3, .int x3), (4, .int x4), (5, .int x5), (6, .int x6), (7, .int x7)] [] u (q_it4 (m_X8_word_L12 k si x2 x3 K83 K105) fu x4 x5 x6 x7 u) := by
  refine SW.it4 (fun x4 x5 x6 x7 => [(0, .ref (b + k)), (1, .ref (ι.2.1 si)), (2, .int x2), (3, .int x3), (4, .int x4), (5, .int x5), (6, .int x6), (7, .int x7)]) (fun self ih x4 x5 x6 x7 u => ?_) fu x4 x5 x6 x7 u
  unfold m_X8_word_L12
  refine sw_iload 7 dX8_word_12 rfl ?_
  refine sw_aload_n 1 dX8_word_14 rfl rfl ?_
  refine sw_slen hsi dX8_word_15 t_720 (by decide) (Nat.le_of_ble_eq_true rfl) ?_
  refine sw_icmp_ge 105 dX8_word_18 (by decide) ?_ ?_
  · exact SW.sub [] rfl (hK105  u)
  · refine sw_aload_n 1 dX8_word_21 rfl rfl ?_
    refine sw_iload 7 dX8_word_22 rfl ?_
    refine sw_schr hsi dX8_word_24 t_730 (by decide) (Nat.le_of_ble_eq_true rfl) (fun a => ?_)
    refine sw_istore (lv' := [(8, .int a), (0, .ref (b + k)), (1, .ref (ι.2.1 si)), (2, .int x2), (3, .int x3), (4, .int x4), (5, .int x5), (6, .int x6), (7, .int x7)]) dX8_word_27 (by decide) rfl ?_
    refine sw_iload 0 dX8_word_29 rfl ?_
    refine sw_bipush (32 : Int32) dX8_word_31 (by decide) ?_
    refine SW.jn3 99 (fun x4_1 x5_2 x6_3 => [(0, .ref (b + k)), (1, .ref (ι.2.1 si)), (2, .int x2), (3, .int x3), (4, .int x4_1), (5, .int x5_2), (6, .int x6_3), (7, .int x7)]) (fun x4_1 x5_2 x6_3 => []) (fun x4_1 x5_2 x6_3 u_4 => ?_) (fun J99 hJ99 => ?_)
    · refine sw_iinc (lv' := [(7, .int (x7 + (1 : Int32))), (0, .ref (b + k)), (1, .ref (ι.2.1 si)), (2, .int x2), (3, .int x3), (4, .int x4_1), (5, .int x5_2), (6, .int x6_3)]) 7 dX8_word_99 rfl (congrArg (x7 + ·) (by decide)) (by decide) rfl ?_
      refine sw_goto 12 dX8_word_102 (by decide) ?_
      exact SW.sub [1, 2, 3, 4, 5, 6, 7, 0] rfl (ih x4_1 x5_2 x6_3 (x7 + (1 : Int32)) u_4)
    · refine sw_icmp_eq 72 dX8_word_33 (by decide) ?_ ?_
      · refine sw_iload 7 dX8_word_72 rfl ?_
        refine SW.jn0 90 ([(0, .ref (b + k)), (1, .ref (ι.2.1 si)), (2, .int x2), (3, .int x3), (4, .int x4), (7, .int x7)]) ([]) (fun  u_5 => ?_) (fun J90 hJ90 => ?_)
        · refine sw_iinc (lv' := [(4, .int (x4 + (1 : Int32))), (0, .ref (b + k)), (1, .ref (ι.2.1 si)), (2, .int x2), (3, .int x3), (7, .int x7)]) 4 dX8_word_90 rfl (congrArg (x4 + ·) (by decide)) (by decide) rfl ?_
          refine sw_iload_n 3 dX8_word_93 rfl rfl ?_
          refine sw_istore (lv' := [(5, .int x2), (4, .int (x4 + (1 : Int32))), (0, .ref (b + k)), (1, .ref (ι.2.1 si)), (2, .int x2), (3, .int x3), (7, .int x7)]) dX8_word_94 (by decide) rfl ?_
          refine sw_iconst (1 : Int32) dX8_word_96 (by decide) ?_
          refine sw_istore (lv' := [(6, .int (1 : Int32)), (5, .int x2), (4, .int (x4 + (1 : Int32))), (0, .ref (b + k)), (1, .ref (ι.2.1 si)), (2, .int x2), (3, .int x3), (7, .int x7)]) dX8_word_97 (by decide) rfl ?_
          exact SW.sub [3, 4, 5, 6, 2, 1, 0, 7] rfl (hJ99 (x4 + (1 : Int32)) x2 (1 : Int32) u_5)
        · refine sw_if_eq 90 dX8_word_74 (by decide) ?_ ?_
          · exact SW.sub [1, 2, 3, 4, 5, 8] rfl (hJ90  u)
          · refine sw_iload 6 dX8_word_77 rfl ?_
            refine sw_iload_n 4 dX8_word_79 rfl rfl ?_
            refine sw_icmp_ne 90 dX8_word_80 (by decide) ?_ ?_
            · exact SW.sub [5] rfl (hK83 x4 u)
            · exact SW.sub [1, 2, 3, 4, 5, 8] rfl (hJ90  u)
      · refine sw_iload 7 dX8_word_36 rfl ?_
        refine SW.jn1 64 (fun s0 => [(0, .ref (b + k)), (1, .ref (ι.2.1 si)), (2, .int x2), (3, .int x3), (4, .int x4), (5, .int x5), (7, .int x7)]) (fun s0 => [.int s0]) (fun s0 u_6 => ?_) (fun J64 hJ64 => ?_)
        · refine sw_istore (lv' := [(6, .int s0), (0, .ref (b + k)), (1, .ref (ι.2.1 si)), (2, .int x2), (3, .int x3), (4, .int x4), (5, .int x5), (7, .int x7)]) dX8_word_64 (by decide) rfl ?_
          refine sw_iinc (lv' := [(5, .int (x5 + (1 : Int32))), (6, .int s0), (0, .ref (b + k)), (1, .ref (ι.2.1 si)), (2, .int x2), (3, .int x3), (4, .int x4), (7, .int x7)]) 6 dX8_word_66 rfl (congrArg (x5 + ·) (by decide)) (by decide) rfl ?_
          refine sw_goto 99 dX8_word_69 (by decide) ?_
          exact SW.sub [2, 3, 4, 5, 6, 0, 1, 7] rfl (hJ99 x4 (x5 + (1 : Int32)) s0 u_6)
        · refine SW.jn0 63 ([(0, .ref (b + k)), (1, .ref (ι.2.1 si)), (2, .int x2), (3, .int x3), (4, .int x4), (5, .int x5), (7, .int x7)]) ([]) (fun  u_7 => ?_) (fun J63 hJ63 => ?_)
          · refine sw_iconst (0 : Int32) dX8_word_63 (by decide) ?_
            exact SW.sub [0, 1, 2, 3, 4, 5, 6] rfl (hJ64 (0 : Int32) u_7)
          · refine sw_if_eq 63 dX8_word_38 (by decide) ?_ ?_
            · exact SW.sub [1, 2, 3, 4, 5, 6, 8] rfl (hJ63  u)
            · refine sw_iload 6 dX8_word_41 rfl ?_
              refine sw_iload_n 4 dX8_word_43 rfl rfl ?_
              refine sw_icmp_ge 63 dX8_word_44 (by decide) ?_ ?_
              · exact SW.sub [1, 2, 3, 4, 5, 6, 8] rfl (hJ63  u)
              · refine sw_aload_n 1 dX8_word_47 rfl rfl ?_
                refine sw_getr q_cl8 0 (r := (k + 1)) dX8_word_48 t_315 (by decide) h0.1 rfl ?_
                refine sw_iload 6 dX8_word_51 rfl ?_
                refine sw_iald dX8_word_53 h0.2.1 (fun a_8 => ?_)
                refine sw_iload 0 dX8_word_54 rfl ?_
                refine sw_icmp_ne 63 dX8_word_56 (by decide) ?_ ?_
                · refine sw_iconst (1 : Int32) dX8_word_59 (by decide) ?_
                  refine sw_goto 64 dX8_word_60 (by decide) ?_
                  exact SW.sub [1, 2, 3, 4, 5, 6, 8] rfl (hJ64 (1 : Int32) u)
                · exact SW.sub [1, 2, 3, 4, 5, 6, 8] rfl (hJ63  u)
set_option maxRecDepth 100000 in
theorem c_X8_word (l : Launch) {ι : qI} {b : Nat} (k : Nat) (si : Nat) (x2 : Int32) (x3 : Int32) (u : qS) (h0 : is_X8 ι k) (hsi : si < q_sn) : CN l yX8_word cX8_word 9 (some .int) 5 ι b [.ref (b + k), .ref (ι.2.1 si), .int x2, .int x3] u (m_X8_word k si x2 x3 u) := by
  refine CN.of_SW (own := RX8) rfl (by decide) (Nat.le_of_ble_eq_true rfl) [(0, .ref (b + k)), (1, .ref (ι.2.1 si)), (2, .int x2), (3, .int x3)] rfl ?_
  unfold m_X8_word
  refine sw_iconst (0 : Int32) dX8_word_0 (by decide) ?_
  refine sw_istore (lv' := [(4, .int (0 : Int32)), (0, .ref (b + k)), (1, .ref (ι.2.1 si)), (2, .int x2), (3, .int x3)]) dX8_word_1 (by decide) rfl ?_
  refine sw_iload_n 3 dX8_word_3 rfl rfl ?_
  refine sw_istore (lv' := [(5, .int x2), (4, .int (0 : Int32)), (0, .ref (b + k)), (1, .ref (ι.2.1 si)), (2, .int x2), (3, .int x3)]) dX8_word_4 (by decide) rfl ?_
  refine sw_iconst (1 : Int32) dX8_word_6 (by decide) ?_
  refine sw_istore (lv' := [(6, .int (1 : Int32)), (5, .int x2), (4, .int (0 : Int32)), (0, .ref (b + k)), (1, .ref (ι.2.1 si)), (2, .int x2), (3, .int x3)]) dX8_word_7 (by decide) rfl ?_
  refine sw_iconst (0 : Int32) dX8_word_9 (by decide) ?_
  refine sw_istore (lv' := [(7, .int (0 : Int32)), (6, .int (1 : Int32)), (5, .int x2), (4, .int (0 : Int32)), (0, .ref (b + k)), (1, .ref (ι.2.1 si)), (2, .int x2), (3, .int x3)]) dX8_word_10 (by decide) rfl ?_
  refine SW.sub (lv' := [(0, .ref (b + k)), (1, .ref (ι.2.1 si)), (2, .int x2), (3, .int x3), (4, .int (0 : Int32)), (5, .int x2), (6, .int (1 : Int32)), (7, .int (0 : Int32))]) [4, 5, 6, 7, 3, 2, 1, 0] rfl ?_
  refine w_X8_word_L12 k si h0 hsi x2 x3 (fun x4 u_9 => ?_) (fun u_10 => ?_) q_F (0 : Int32) x2 (1 : Int32) (0 : Int32) u
  · refine sw_sipush (256 : Int32) dX8_word_83 (by decide) ?_
    refine sw_iload 0 dX8_word_86 rfl ?_
    refine sw_iadd dX8_word_88 ?_
    exact sw_iret dX8_word_89
  · refine sw_iconst (2 : Int32) dX8_word_105 (by decide) ?_
    exact sw_iret dX8_word_106
set_option maxRecDepth 100000 in
theorem c_X8_addToken (l : Launch) {ι : qI} {b : Nat} (k : Nat) (x1 : Int32) (x2 : Int32) (x3 : Int32) (u : qS) (h0 : is_X8 ι k) : CN l yX8_addToken cX8_addToken 4 none 1 ι b [.ref (b + k), .int x1, .int x2, .int x3] u (m_X8_addToken k x1 x2 x3 u) := by
  refine CN.of_SW (own := RX8) rfl (by decide) (Nat.le_of_ble_eq_true rfl) [(0, .ref (b + k)), (1, .int x1), (2, .int x2), (3, .int x3)] rfl ?_
  unfold m_X8_addToken
  refine sw_aload_n 0 dX8_addToken_0 rfl rfl ?_
  refine sw_geti q_cl8 5 dX8_addToken_1 t_325 (by decide) h0.1 rfl ?_
  refine sw_sipush (400 : Int32) dX8_addToken_4 (by decide) ?_
  refine sw_icmp_gt 50 dX8_addToken_7 (by decide) ?_ ?_
  · exact sw_vret dX8_addToken_50
  · refine sw_aload_n 0 dX8_addToken_10 rfl rfl ?_
    refine sw_getr q_cl8 2 (r := (k + 2)) dX8_addToken_11 t_319 (by decide) h0.1 rfl ?_
    refine sw_aload_n 0 dX8_addToken_14 rfl rfl ?_
    refine sw_geti q_cl8 5 dX8_addToken_15 t_325 (by decide) h0.1 rfl ?_
    refine sw_iload_n 1 dX8_addToken_18 rfl rfl ?_
    refine sw_iast dX8_addToken_19 h0.2.2.1 (fun u_1 => ?_)
    refine sw_aload_n 0 dX8_addToken_20 rfl rfl ?_
    refine sw_getr q_cl8 3 (r := (k + 3)) dX8_addToken_21 t_321 (by decide) h0.1 rfl ?_
    refine sw_aload_n 0 dX8_addToken_24 rfl rfl ?_
    refine sw_geti q_cl8 5 dX8_addToken_25 t_325 (by decide) h0.1 rfl ?_
    refine sw_iload_n 2 dX8_addToken_28 rfl rfl ?_
    refine sw_iast dX8_addToken_29 h0.2.2.2.1 (fun u_2 => ?_)
    refine sw_aload_n 0 dX8_addToken_30 rfl rfl ?_
    refine sw_getr q_cl8 4 (r := (k + 4)) dX8_addToken_31 t_323 (by decide) h0.1 rfl ?_
    refine sw_aload_n 0 dX8_addToken_34 rfl rfl ?_
    refine sw_geti q_cl8 5 dX8_addToken_35 t_325 (by decide) h0.1 rfl ?_
    refine sw_iload_n 3 dX8_addToken_38 rfl rfl ?_
    refine sw_iast dX8_addToken_39 h0.2.2.2.2 (fun u_3 => ?_)
    refine sw_aload_n 0 dX8_addToken_40 rfl rfl ?_
    refine sw_dup dX8_addToken_41 rfl ?_
    refine sw_geti q_cl8 5 dX8_addToken_42 t_325 (by decide) h0.1 rfl ?_
    refine sw_iconst (1 : Int32) dX8_addToken_45 (by decide) ?_
    refine sw_iadd dX8_addToken_46 ?_
    refine sw_puti q_cl8 5 dX8_addToken_47 t_325 (by decide) (by decide +kernel) rfl h0.1 rfl (fun u_4 => ?_)
    exact sw_vret dX8_addToken_50
set_option maxRecDepth 100000 in
theorem c_X8_isDigit (l : Launch) {ι : qI} {b : Nat}  (x0 : Int32) (u : qS)  : CN l yX8_isDigit cX8_isDigit 1 (some .boolean) 1 ι b [.int x0] u (m_X8_isDigit x0 u) := by
  refine CN.of_SW (own := RX8) rfl (by decide) (Nat.le_of_ble_eq_true rfl) [(0, .int x0)] rfl ?_
  unfold m_X8_isDigit
  refine sw_iload_n 0 dX8_isDigit_0 rfl rfl ?_
  refine sw_bipush (48 : Int32) dX8_isDigit_1 (by decide) ?_
  refine sw_icmp_lt 16 dX8_isDigit_3 (by decide) ?_ ?_
  · refine sw_iconst (0 : Int32) dX8_isDigit_16 (by decide) ?_
    exact sw_zret0 dX8_isDigit_17
  · refine sw_iload_n 0 dX8_isDigit_6 rfl rfl ?_
    refine sw_bipush (57 : Int32) dX8_isDigit_7 (by decide) ?_
    refine sw_icmp_gt 16 dX8_isDigit_9 (by decide) ?_ ?_
    · refine sw_iconst (0 : Int32) dX8_isDigit_16 (by decide) ?_
      exact sw_zret0 dX8_isDigit_17
    · refine sw_iconst (1 : Int32) dX8_isDigit_12 (by decide) ?_
      refine sw_goto 17 dX8_isDigit_13 (by decide) ?_
      exact sw_zret1 dX8_isDigit_17
set_option maxRecDepth 100000 in
theorem w_X8_number_L5 {ι : qI} {b : Nat} (k : Nat) (h0 : is_X8 ι k) (x2 : Int32) {K33 : Int32 → qS → qR} (hK33 : ∀ (e3 : Int32) (u : qS), SW RX8 cX8_number 5 (some .int) 1 ι b 33 [(3, .int e3)] [] u (K33 e3 u)) (fu : Nat) (x3 : Int32) (x4 : Int32) (u : qS) : SW RX8 cX8_number 5 (some .int) 1 ι b 5 [(0, .ref (b + k)), (2, .int x2), (3, .int x3), (4, .int x4)] [] u (q_it2 (m_X8_number_L5 k x2 K33) fu x3 x4 u) := by
  refine SW.it2 (fun x3 x4 => [(0, .ref (b + k)), (2, .int x2), (3, .int x3), (4, .int x4)]) (fun self ih x3 x4 u => ?_) fu x3 x4 u
  unfold m_X8_number_L5
  refine sw_iload 3 dX8_number_5 rfl ?_
  refine sw_iload_n 1 dX8_number_7 rfl rfl ?_
  refine sw_icmp_ge 33 dX8_number_8 (by decide) ?_ ?_
  · exact SW.sub [2] rfl (hK33 x3 u)
  · refine sw_bipush (10 : Int32) dX8_number_11 (by decide) ?_
    refine sw_iload_n 2 dX8_number_13 rfl rfl ?_
    refine sw_imul dX8_number_14 ?_
    refine sw_aload_n 0 dX8_number_15 rfl rfl ?_
    refine sw_getr q_cl8 0 (r := (k + 1)) dX8_number_16 t_315 (by decide) h0.1 rfl ?_
    refine sw_iload 3 dX8_number_19 rfl ?_
    refine sw_iald dX8_number_21 h0.2.1 (fun a => ?_)
    refine sw_iadd dX8_number_22 ?_
    refine sw_bipush (48 : Int32) dX8_number_23 (by decide) ?_
    refine sw_isub dX8_number_25 ?_
    refine SW.name (fun y3 => ?_)
    refine sw_istore_n (lv' := [(3, .int y3), (0, .ref (b + k)), (2, .int x2), (4, .int x4)]) dX8_number_26 rfl (by decide) rfl ?_
    refine sw_iinc (lv' := [(4, .int (x4 + (1 : Int32))), (3, .int y3), (0, .ref (b + k)), (2, .int x2)]) 3 dX8_number_27 rfl (congrArg (x4 + ·) (by decide)) (by decide) rfl ?_
    refine sw_goto 5 dX8_number_30 (by decide) ?_
    exact SW.sub [2, 3, 1, 0] rfl (ih y3 (x4 + (1 : Int32)) u)
set_option maxRecDepth 100000 in
theorem c_X8_number (l : Launch) {ι : qI} {b : Nat} (k : Nat) (x1 : Int32) (x2 : Int32) (u : qS) (h0 : is_X8 ι k) : CN l yX8_number cX8_number 5 (some .int) 1 ι b [.ref (b + k), .int x1, .int x2] u (m_X8_number k x1 x2 u) := by
  refine CN.of_SW (own := RX8) rfl (by decide) (Nat.le_of_ble_eq_true rfl) [(0, .ref (b + k)), (1, .int x1), (2, .int x2)] rfl ?_
  unfold m_X8_number
  refine sw_iconst (0 : Int32) dX8_number_0 (by decide) ?_
  refine sw_istore_n (lv' := [(3, .int (0 : Int32)), (0, .ref (b + k)), (1, .int x1), (2, .int x2)]) dX8_number_1 rfl (by decide) rfl ?_
  refine sw_iload_n 2 dX8_number_2 rfl rfl ?_
  refine sw_istore (lv' := [(4, .int x1), (3, .int (0 : Int32)), (0, .ref (b + k)), (1, .int x1), (2, .int x2)]) dX8_number_3 (by decide) rfl ?_
  refine SW.sub (lv' := [(0, .ref (b + k)), (2, .int x2), (3, .int (0 : Int32)), (4, .int x1)]) [2, 4, 1, 0] rfl ?_
  refine w_X8_number_L5 k h0 x2 (fun x3 u_1 => ?_) q_F (0 : Int32) x1 u
  refine sw_iload_n 0 dX8_number_33 rfl rfl ?_
  exact sw_iret dX8_number_34
set_option maxRecDepth 100000 in
theorem c_X8_isSign (l : Launch) {ι : qI} {b : Nat}  (x0 : Int32) (u : qS)  : CN l yX8_isSign cX8_isSign 1 (some .boolean) 1 ι b [.int x0] u (m_X8_isSign x0 u) := by
  refine CN.of_SW (own := RX8) rfl (by decide) (Nat.le_of_ble_eq_true rfl) [(0, .int x0)] rfl ?_
  unfold m_X8_isSign
  refine sw_iload_n 0 dX8_isSign_0 rfl rfl ?_
  refine sw_bipush (40 : Int32) dX8_isSign_1 (by decide) ?_
  refine SW.jn0 36 ([]) ([]) (fun  u_1 => ?_) (fun J36 hJ36 => ?_)
  · refine sw_iconst (1 : Int32) dX8_isSign_36 (by decide) ?_
    refine sw_goto 41 dX8_isSign_37 (by decide) ?_
    exact sw_zret1 dX8_isSign_41
  · refine SW.jn0 12 ([(0, .int x0)]) ([]) (fun  u_2 => ?_) (fun J12 hJ12 => ?_)
    · refine sw_iload_n 0 dX8_isSign_12 rfl rfl ?_
      refine sw_bipush (45 : Int32) dX8_isSign_13 (by decide) ?_
      refine sw_icmp_eq 36 dX8_isSign_15 (by decide) ?_ ?_
      · exact SW.sub [] rfl (hJ36  u_2)
      · refine sw_iload_n 0 dX8_isSign_18 rfl rfl ?_
        refine sw_bipush (47 : Int32) dX8_isSign_19 (by decide) ?_
        refine sw_icmp_eq 36 dX8_isSign_21 (by decide) ?_ ?_
        · exact SW.sub [] rfl (hJ36  u_2)
        · refine sw_iload_n 0 dX8_isSign_24 rfl rfl ?_
          refine sw_bipush (59 : Int32) dX8_isSign_25 (by decide) ?_
          refine sw_icmp_lt 40 dX8_isSign_27 (by decide) ?_ ?_
          · refine sw_iconst (0 : Int32) dX8_isSign_40 (by decide) ?_
            exact sw_zret0 dX8_isSign_41
          · refine sw_iload_n 0 dX8_isSign_30 rfl rfl ?_
            refine sw_bipush (62 : Int32) dX8_isSign_31 (by decide) ?_
            refine sw_icmp_gt 40 dX8_isSign_33 (by decide) ?_ ?_
            · refine sw_iconst (0 : Int32) dX8_isSign_40 (by decide) ?_
              exact sw_zret0 dX8_isSign_41
            · exact SW.sub [] rfl (hJ36  u_2)
    · refine sw_icmp_lt 12 dX8_isSign_3 (by decide) ?_ ?_
      · exact SW.sub [0] rfl (hJ12  u)
      · refine sw_iload_n 0 dX8_isSign_6 rfl rfl ?_
        refine sw_bipush (43 : Int32) dX8_isSign_7 (by decide) ?_
        refine sw_icmp_le 36 dX8_isSign_9 (by decide) ?_ ?_
        · exact SW.sub [] rfl (hJ36  u)
        · exact SW.sub [0] rfl (hJ12  u)
set_option maxRecDepth 100000 in
theorem w_X8_cut_L87 {ι : qI} {b : Nat} (k : Nat) (si : Nat) (h0 : is_X8 ι k) (hsi : si < q_sn) (x3 : Int32) {K113 : Int32 → qS → qR} (hK113 : ∀ (e2 : Int32) (u : qS), SW RX8 cX8_cut 5 none 6 ι b 113 [(0, .ref (b + k)), (1, .ref (ι.2.1 si)), (2, .int e2), (3, .int x3)] [] u (K113 e2 u)) (fu : Nat) (x2 : Int32) (u : qS) : SW RX8 cX8_cut 5 none 6 ι b 87 [(0, .ref (b + k)), (1, .ref (ι.2.1 si)), (2, .int x2), (3, .int x3)] [] u (q_it1 (m_X8_cut_L87 k si x3 K113) fu x2 u) := by
  refine SW.it1 (fun x2 => [(0, .ref (b + k)), (1, .ref (ι.2.1 si)), (2, .int x2), (3, .int x3)]) (fun self ih x2 u => ?_) fu x2 u
  unfold m_X8_cut_L87
  refine sw_iload_n 2 dX8_cut_87 rfl rfl ?_
  refine sw_aload_n 0 dX8_cut_88 rfl rfl ?_
  refine sw_geti q_cl8 1 dX8_cut_89 t_316 (by decide) h0.1 rfl ?_
  refine sw_icmp_ge 113 dX8_cut_92 (by decide) ?_ ?_
  · exact SW.sub [0, 1, 2, 3] rfl (hK113 x2 u)
  · refine sw_aload_n 0 dX8_cut_95 rfl rfl ?_
    refine sw_getr q_cl8 0 (r := (k + 1)) dX8_cut_96 t_315 (by decide) h0.1 rfl ?_
    refine sw_iload_n 2 dX8_cut_99 rfl rfl ?_
    refine sw_iald dX8_cut_100 h0.2.1 (fun a => ?_)
    refine sw_callSi (As := [.int a]) rfl dX8_cut_101 t_772 mf_X8_isDigit (by decide) (Nat.le_of_ble_eq_true rfl) (fun l => c_X8_isDigit l a u ) (fun r u_10 => ?_)
    refine sw_if_eq 113 dX8_cut_104 (by decide) ?_ ?_
    · exact SW.sub [0, 1, 2, 3] rfl (hK113 x2 u_10)
    · refine sw_iinc (lv' := [(2, .int (x2 + (1 : Int32))), (0, .ref (b + k)), (1, .ref (ι.2.1 si)), (3, .int x3)]) 2 dX8_cut_107 rfl (congrArg (x2 + ·) (by decide)) (by decide) rfl ?_
      refine sw_goto 87 dX8_cut_110 (by decide) ?_
      exact SW.sub [1, 2, 0, 3] rfl (ih (x2 + (1 : Int32)) u_10)
set_option maxRecDepth 100000 in
theorem w_X8_cut_L37 {ι : qI} {b : Nat} (k : Nat) (si : Nat) (h0 : is_X8 ι k) (hsi : si < q_sn) (x3 : Int32) {K63 : Int32 → qS → qR} (hK63 : ∀ (e2 : Int32) (u : qS), SW RX8 cX8_cut 5 none 6 ι b 63 [(0, .ref (b + k)), (1, .ref (ι.2.1 si)), (2, .int e2), (3, .int x3)] [] u (K63 e2 u)) (fu : Nat) (x2 : Int32) (u : qS) : SW RX8 cX8_cut 5 none 6 ι b 37 [(0, .ref (b + k)), (1, .ref (ι.2.1 si)), (2, .int x2), (3, .int x3)] [] u (q_it1 (m_X8_cut_L37 k si x3 K63) fu x2 u) := by
  refine SW.it1 (fun x2 => [(0, .ref (b + k)), (1, .ref (ι.2.1 si)), (2, .int x2), (3, .int x3)]) (fun self ih x2 u => ?_) fu x2 u
  unfold m_X8_cut_L37
  refine sw_iload_n 2 dX8_cut_37 rfl rfl ?_
  refine sw_aload_n 0 dX8_cut_38 rfl rfl ?_
  refine sw_geti q_cl8 1 dX8_cut_39 t_316 (by decide) h0.1 rfl ?_
  refine sw_icmp_ge 63 dX8_cut_42 (by decide) ?_ ?_
  · exact SW.sub [0, 1, 2, 3] rfl (hK63 x2 u)
  · refine sw_aload_n 0 dX8_cut_45 rfl rfl ?_
    refine sw_getr q_cl8 0 (r := (k + 1)) dX8_cut_46 t_315 (by decide) h0.1 rfl ?_
    refine sw_iload_n 2 dX8_cut_49 rfl rfl ?_
    refine sw_iald dX8_cut_50 h0.2.1 (fun a => ?_)
    refine sw_callSi (As := [.int a]) rfl dX8_cut_51 t_713 mf_X8_isLetter (by decide) (Nat.le_of_ble_eq_true rfl) (fun l => c_X8_isLetter l a u ) (fun r u_18 => ?_)
    refine sw_if_eq 63 dX8_cut_54 (by decide) ?_ ?_
    · exact SW.sub [0, 1, 2, 3] rfl (hK63 x2 u_18)
    · refine sw_iinc (lv' := [(2, .int (x2 + (1 : Int32))), (0, .ref (b + k)), (1, .ref (ι.2.1 si)), (3, .int x3)]) 2 dX8_cut_57 rfl (congrArg (x2 + ·) (by decide)) (by decide) rfl ?_
      refine sw_goto 37 dX8_cut_60 (by decide) ?_
      exact SW.sub [1, 2, 0, 3] rfl (ih (x2 + (1 : Int32)) u_18)
set_option maxRecDepth 100000 in
theorem w_X8_cut_L9 {ι : qI} {b : Nat} (k : Nat) (si : Nat) (h0 : is_X8 ι k) (hsi : si < q_sn)  {K178 : qS → qR} (hK178 : ∀  (u : qS), SW RX8 cX8_cut 5 none 6 ι b 178 [(0, .ref (b + k))] [] u (K178  u)) (fu : Nat) (x3 : Int32) (u : qS) : SW RX8 cX8_cut 5 none 6 ι b 9 [(0, .ref (b + k)), (1, .ref (ι.2.1 si)), (3, .int x3)] [] u (q_it1 (m_X8_cut_L9 k si K178) fu x3 u) := by
  refine SW.it1 (fun x3 => [(0, .ref (b + k)), (1, .ref (ι.2.1 si)), (3, .int x3)]) (fun self ih x3 u => ?_) fu x3 u
  unfold m_X8_cut_L9
  refine sw_iload_n 2 dX8_cut_9 rfl rfl ?_
  refine sw_aload_n 0 dX8_cut_10 rfl rfl ?_
  refine sw_geti q_cl8 1 dX8_cut_11 t_316 (by decide) h0.1 rfl ?_
  refine sw_icmp_ge 178 dX8_cut_14 (by decide) ?_ ?_
  · exact SW.sub [0] rfl (hK178  u)
  · refine sw_aload_n 0 dX8_cut_17 rfl rfl ?_
    refine sw_getr q_cl8 0 (r := (k + 1)) dX8_cut_18 t_315 (by decide) h0.1 rfl ?_
    refine sw_iload_n 2 dX8_cut_21 rfl rfl ?_
    refine sw_iald dX8_cut_22 h0.2.1 (fun a => ?_)
    refine sw_istore (lv' := [(4, .int a), (0, .ref (b + k)), (1, .ref (ι.2.1 si)), (3, .int x3)]) dX8_cut_23 (by decide) rfl ?_
    refine sw_iload_n 3 dX8_cut_25 rfl rfl ?_
    refine sw_iconst (1 : Int32) dX8_cut_26 (by decide) ?_
    refine sw_iadd dX8_cut_27 ?_
    refine SW.name (fun y2 => ?_)
    refine sw_istore_n (lv' := [(2, .int y2), (4, .int a), (0, .ref (b + k)), (1, .ref (ι.2.1 si)), (3, .int x3)]) dX8_cut_28 rfl (by decide) rfl ?_
    refine sw_iload 1 dX8_cut_29 rfl ?_
    refine sw_callSi (As := [.int a]) rfl dX8_cut_31 t_713 mf_X8_isLetter (by decide) (Nat.le_of_ble_eq_true rfl) (fun l => c_X8_isLetter l a u ) (fun r u_2 => ?_)
    refine SW.jn1 173 (fun x2 => [(0, .ref (b + k)), (1, .ref (ι.2.1 si)), (2, .int x2)]) (fun x2 => []) (fun x2 u_3 => ?_) (fun J173 hJ173 => ?_)
    · refine sw_iload_n 2 dX8_cut_173 rfl rfl ?_
      refine sw_istore_n (lv' := [(3, .int x2), (0, .ref (b + k)), (1, .ref (ι.2.1 si)), (2, .int x2)]) dX8_cut_174 rfl (by decide) rfl ?_
      refine sw_goto 9 dX8_cut_175 (by decide) ?_
      exact SW.sub [1, 2, 0] rfl (ih x2 u_3)
    · refine sw_if_eq 79 dX8_cut_34 (by decide) ?_ ?_
      · refine sw_iload 1 dX8_cut_79 rfl ?_
        refine sw_callSi (As := [.int a]) rfl dX8_cut_81 t_772 mf_X8_isDigit (by decide) (Nat.le_of_ble_eq_true rfl) (fun l => c_X8_isDigit l a u_2 ) (fun r_4 u_5 => ?_)
        refine sw_if_eq 139 dX8_cut_84 (by decide) ?_ ?_
        · refine sw_iload 1 dX8_cut_139 rfl ?_
          refine sw_bipush (32 : Int32) dX8_cut_141 (by decide) ?_
          refine sw_icmp_eq 173 dX8_cut_143 (by decide) ?_ ?_
          · exact SW.sub [2, 3, 0] rfl (hJ173 y2 u_5)
          · refine sw_iload 1 dX8_cut_146 rfl ?_
            refine sw_bipush (10 : Int32) dX8_cut_148 (by decide) ?_
            refine sw_icmp_eq 173 dX8_cut_150 (by decide) ?_ ?_
            · exact SW.sub [2, 3, 0] rfl (hJ173 y2 u_5)
            · refine sw_aload_n 2 dX8_cut_153 rfl rfl ?_
              refine sw_iload 1 dX8_cut_154 rfl ?_
              refine sw_callSi (As := [.int a]) rfl dX8_cut_156 t_779 mf_X8_isSign (by decide) (Nat.le_of_ble_eq_true rfl) (fun l => c_X8_isSign l a u_5 ) (fun r_6 u_7 => ?_)
              refine SW.jn1 168 (fun s0 => [(0, .ref (b + k)), (1, .ref (ι.2.1 si)), (2, .int y2), (3, .int x3)]) (fun s0 => [.int s0, .ref (b + k)]) (fun s0 u_8 => ?_) (fun J168 hJ168 => ?_)
              · refine sw_iload_n 3 dX8_cut_168 rfl rfl ?_
                refine sw_iconst (0 : Int32) dX8_cut_169 (by decide) ?_
                refine sw_callVv (As := [.int s0, .int x3, .int (0 : Int32)]) (k := k) rfl dX8_cut_170 t_768 mf_X8_addToken h0.1 q_cl8 (by decide) (Nat.le_of_ble_eq_true rfl) (fun l => c_X8_addToken l k s0 x3 (0 : Int32) u_8 h0) (fun _ u_9 => ?_)
                exact SW.sub [0, 1, 2] rfl (hJ173 y2 u_9)
              · refine sw_if_eq 167 dX8_cut_159 (by decide) ?_ ?_
                · refine sw_iconst (2 : Int32) dX8_cut_167 (by decide) ?_
                  exact SW.sub [2, 3, 0, 4] rfl (hJ168 (2 : Int32) u_7)
                · refine sw_iload 1 dX8_cut_162 rfl ?_
                  refine sw_goto 168 dX8_cut_164 (by decide) ?_
                  exact SW.sub [2, 3, 0, 4] rfl (hJ168 a u_7)
        · refine SW.sub (lv' := [(0, .ref (b + k)), (1, .ref (ι.2.1 si)), (2, .int y2), (3, .int x3)]) [2, 3, 0, 4] rfl ?_
          refine w_X8_cut_L87 k si h0 hsi x3 (fun x2_11 u_12 => ?_) q_F y2 u_5
          refine sw_aload_n 0 dX8_cut_113 rfl rfl ?_
          refine sw_iload_n 2 dX8_cut_114 rfl rfl ?_
          refine sw_iload_n 3 dX8_cut_115 rfl rfl ?_
          refine sw_isub dX8_cut_116 ?_
          refine sw_iconst (4 : Int32) dX8_cut_117 (by decide) ?_
          refine SW.jn1 126 (fun s0_13 => [(0, .ref (b + k)), (1, .ref (ι.2.1 si)), (2, .int x2_11), (3, .int x3)]) (fun s0_13 => [.int s0_13, .ref (b + k)]) (fun s0_13 u_14 => ?_) (fun J126 hJ126 => ?_)
          · refine sw_iload_n 3 dX8_cut_126 rfl rfl ?_
            refine sw_aload_n 0 dX8_cut_127 rfl rfl ?_
            refine sw_iload_n 3 dX8_cut_128 rfl rfl ?_
            refine sw_iload_n 2 dX8_cut_129 rfl rfl ?_
            refine sw_callVi (As := [.int x3, .int x2_11]) (k := k) rfl dX8_cut_130 t_775 mf_X8_number h0.1 q_cl8 (by decide) (Nat.le_of_ble_eq_true rfl) (fun l => c_X8_number l k x3 x2_11 u_14 h0) (fun r_15 u_16 => ?_)
            refine sw_callVv (As := [.int s0_13, .int x3, .int r_15]) (k := k) rfl dX8_cut_133 t_768 mf_X8_addToken h0.1 q_cl8 (by decide) (Nat.le_of_ble_eq_true rfl) (fun l => c_X8_addToken l k s0_13 x3 r_15 u_16 h0) (fun _ u_17 => ?_)
            refine sw_goto 173 dX8_cut_136 (by decide) ?_
            exact SW.sub [0, 1, 2] rfl (hJ173 x2_11 u_17)
          · refine sw_icmp_gt 125 dX8_cut_118 (by decide) ?_ ?_
            · refine sw_iconst (2 : Int32) dX8_cut_125 (by decide) ?_
              exact SW.sub [0, 1, 2, 3] rfl (hJ126 (2 : Int32) u_12)
            · refine sw_iconst (1 : Int32) dX8_cut_121 (by decide) ?_
              refine sw_goto 126 dX8_cut_122 (by decide) ?_
              exact SW.sub [0, 1, 2, 3] rfl (hJ126 (1 : Int32) u_12)
      · refine SW.sub (lv' := [(0, .ref (b + k)), (1, .ref (ι.2.1 si)), (2, .int y2), (3, .int x3)]) [2, 3, 0, 4] rfl ?_
        refine w_X8_cut_L37 k si h0 hsi x3 (fun x2_19 u_20 => ?_) q_F y2 u_2
        refine sw_aload_n 0 dX8_cut_63 rfl rfl ?_
        refine sw_aload_n 0 dX8_cut_64 rfl rfl ?_
        refine sw_aload_n 1 dX8_cut_65 rfl rfl ?_
        refine sw_iload_n 3 dX8_cut_66 rfl rfl ?_
        refine sw_iload_n 2 dX8_cut_67 rfl rfl ?_
        refine sw_callVi (As := [.ref (ι.2.1 si), .int x3, .int x2_19]) (k := k) rfl dX8_cut_68 t_716 mf_X8_word h0.1 q_cl8 (by decide) (Nat.le_of_ble_eq_true rfl) (fun l => c_X8_word l k si x3 x2_19 u_20 h0 hsi) (fun r_21 u_22 => ?_)
        refine sw_iload_n 3 dX8_cut_71 rfl rfl ?_
        refine sw_iconst (0 : Int32) dX8_cut_72 (by decide) ?_
        refine sw_callVv (As := [.int r_21, .int x3, .int (0 : Int32)]) (k := k) rfl dX8_cut_73 t_768 mf_X8_addToken h0.1 q_cl8 (by decide) (Nat.le_of_ble_eq_true rfl) (fun l => c_X8_addToken l k r_21 x3 (0 : Int32) u_22 h0) (fun _ u_23 => ?_)
        refine sw_goto 173 dX8_cut_76 (by decide) ?_
        exact SW.sub [0, 1, 2] rfl (hJ173 x2_19 u_23)
set_option maxRecDepth 100000 in
theorem c_X8_cut (l : Launch) {ι : qI} {b : Nat} (k : Nat) (si : Nat)  (u : qS) (h0 : is_X8 ι k) (hsi : si < q_sn) : CN l yX8_cut cX8_cut 5 none 6 ι b [.ref (b + k), .ref (ι.2.1 si)] u (m_X8_cut k si u) := by
  refine CN.of_SW (own := RX8) rfl (by decide) (Nat.le_of_ble_eq_true rfl) [(0, .ref (b + k)), (1, .ref (ι.2.1 si))] rfl ?_
  unfold m_X8_cut
  refine sw_aload_n 0 dX8_cut_0 rfl rfl ?_
  refine sw_iconst (0 : Int32) dX8_cut_1 (by decide) ?_
  refine sw_puti q_cl8 5 dX8_cut_2 t_325 (by decide) (by decide +kernel) rfl h0.1 rfl (fun u_1 => ?_)
  refine sw_iconst (0 : Int32) dX8_cut_5 (by decide) ?_
  refine sw_istore_n (lv' := [(2, .int (0 : Int32)), (0, .ref (b + k)), (1, .ref (ι.2.1 si))]) dX8_cut_6 rfl (by decide) rfl ?_
  refine sw_iconst (0 : Int32) dX8_cut_7 (by decide) ?_
  refine sw_istore_n (lv' := [(3, .int (0 : Int32)), (2, .int (0 : Int32)), (0, .ref (b + k)), (1, .ref (ι.2.1 si))]) dX8_cut_8 rfl (by decide) rfl ?_
  refine SW.sub (lv' := [(0, .ref (b + k)), (1, .ref (ι.2.1 si)), (3, .int (0 : Int32))]) [2, 3, 0] rfl ?_
  refine w_X8_cut_L9 k si h0 hsi (fun u_24 => ?_) q_F (0 : Int32) u_1
  refine sw_aload_n 0 dX8_cut_178 rfl rfl ?_
  refine sw_iconst (0 : Int32) dX8_cut_179 (by decide) ?_
  refine sw_aload_n 0 dX8_cut_180 rfl rfl ?_
  refine sw_geti q_cl8 1 dX8_cut_181 t_316 (by decide) h0.1 rfl ?_
  refine sw_iconst (0 : Int32) dX8_cut_184 (by decide) ?_
  refine sw_callVv (As := [.int (0 : Int32), .int (u_24.1 k 1), .int (0 : Int32)]) (k := k) rfl dX8_cut_185 t_768 mf_X8_addToken h0.1 q_cl8 (by decide) (Nat.le_of_ble_eq_true rfl) (fun l => c_X8_addToken l k (0 : Int32) (u_24.1 k 1) (0 : Int32) u_24 h0) (fun _ u_25 => ?_)
  exact sw_vret dX8_cut_188
set_option maxRecDepth 100000 in
theorem c_X2_clear (l : Launch) {ι : qI} {b : Nat} (k : Nat)  (u : qS) (h0 : is_X2 ι k) : CN l yX2_clear cX2_clear 1 none 1 ι b [.ref (b + k)] u (m_X2_clear k u) := by
  refine CN.of_SW (own := RX2) rfl (by decide) (Nat.le_of_ble_eq_true rfl) [(0, .ref (b + k))] rfl ?_
  unfold m_X2_clear
  refine sw_aload_n 0 dX2_clear_0 rfl rfl ?_
  refine sw_iconst (0 : Int32) dX2_clear_1 (by decide) ?_
  refine sw_puti q_cl2 0 dX2_clear_2 t_151 (by decide) (by decide +kernel) rfl h0.1 rfl (fun u_1 => ?_)
  refine sw_aload_n 0 dX2_clear_5 rfl rfl ?_
  refine sw_iconst (0 : Int32) dX2_clear_6 (by decide) ?_
  refine sw_puti q_cl2 5 dX2_clear_7 t_161 (by decide) (by decide +kernel) rfl h0.1 rfl (fun u_2 => ?_)
  refine sw_aload_n 0 dX2_clear_10 rfl rfl ?_
  refine sw_iconst (0 : Int32) dX2_clear_11 (by decide) ?_
  refine sw_putz q_cl2 6 dX2_clear_12 t_163 (by decide) (by decide +kernel) rfl h0.1 rfl (fun u_3 => ?_)
  exact sw_vret dX2_clear_15
set_option maxRecDepth 100000 in
theorem c_X6_kind (l : Launch) {ι : qI} {b : Nat} (k : Nat)  (u : qS) (h0 : is_X6 ι k) : CN l yX6_kind cX6_kind 1 (some .int) 1 ι b [.ref (b + k)] u (m_X6_kind k u) := by
  refine CN.of_SW (own := RX6) rfl (by decide) (Nat.le_of_ble_eq_true rfl) [(0, .ref (b + k))] rfl ?_
  unfold m_X6_kind
  refine sw_aload_n 0 dX6_kind_0 rfl rfl ?_
  refine sw_geti q_cl6 6 dX6_kind_1 t_355 (by decide) h0.1 rfl ?_
  refine sw_if_lt 36 dX6_kind_4 (by decide) ?_ ?_
  · refine sw_iconst (0 : Int32) dX6_kind_36 (by decide) ?_
    exact sw_iret dX6_kind_37
  · refine sw_aload_n 0 dX6_kind_7 rfl rfl ?_
    refine sw_geti q_cl6 6 dX6_kind_8 t_355 (by decide) h0.1 rfl ?_
    refine sw_aload_n 0 dX6_kind_11 rfl rfl ?_
    refine sw_getr q_cl6 2 (r := (k + 1)) dX6_kind_12 t_350 (by decide) h0.1 rfl ?_
    refine sw_geti q_cl8 5 dX6_kind_15 t_326 (by decide) h0.2.1.1 rfl ?_
    refine sw_icmp_ge 36 dX6_kind_18 (by decide) ?_ ?_
    · refine sw_iconst (0 : Int32) dX6_kind_36 (by decide) ?_
      exact sw_iret dX6_kind_37
    · refine sw_aload_n 0 dX6_kind_21 rfl rfl ?_
      refine sw_getr q_cl6 2 (r := (k + 1)) dX6_kind_22 t_350 (by decide) h0.1 rfl ?_
      refine sw_getr q_cl8 2 (r := (k + 3)) dX6_kind_25 t_320 (by decide) h0.2.1.1 rfl ?_
      refine sw_aload_n 0 dX6_kind_28 rfl rfl ?_
      refine sw_geti q_cl6 6 dX6_kind_29 t_355 (by decide) h0.1 rfl ?_
      refine sw_iald dX6_kind_32 h0.2.1.2.2.1 (fun a => ?_)
      refine sw_goto 37 dX6_kind_33 (by decide) ?_
      exact sw_iret dX6_kind_37
set_option maxRecDepth 100000 in
theorem c_X6_fail (l : Launch) {ι : qI} {b : Nat} (k : Nat) (x1 : Int32) (u : qS) (h0 : is_X6 ι k) : CN l yX6_fail cX6_fail 2 (some .boolean) 1 ι b [.ref (b + k), .int x1] u (m_X6_fail k x1 u) := by
  refine CN.of_SW (own := RX6) rfl (by decide) (Nat.le_of_ble_eq_true rfl) [(0, .ref (b + k)), (1, .int x1)] rfl ?_
  unfold m_X6_fail
  refine sw_aload_n 0 dX6_fail_0 rfl rfl ?_
  refine sw_iload_n 1 dX6_fail_1 rfl rfl ?_
  refine sw_puti q_cl6 0 dX6_fail_2 t_346 (by decide) (by decide +kernel) rfl h0.1 rfl (fun u_1 => ?_)
  refine sw_aload_n 0 dX6_fail_5 rfl rfl ?_
  refine sw_aload_n 0 dX6_fail_6 rfl rfl ?_
  refine sw_geti q_cl6 6 dX6_fail_7 t_355 (by decide) h0.1 rfl ?_
  refine SW.jn1 49 (fun s0 => []) (fun s0 => [.int s0, .ref (b + k)]) (fun s0 u_2 => ?_) (fun J49 hJ49 => ?_)
  · refine sw_puti q_cl6 1 dX6_fail_49 t_348 (by decide) (by decide +kernel) rfl h0.1 rfl (fun u_3 => ?_)
    refine sw_iconst (0 : Int32) dX6_fail_52 (by decide) ?_
    exact sw_zret0 dX6_fail_53
  · refine SW.jn0 42 ([(0, .ref (b + k))]) ([.ref (b + k)]) (fun  u_4 => ?_) (fun J42 hJ42 => ?_)
    · refine sw_aload_n 0 dX6_fail_42 rfl rfl ?_
      refine sw_getr q_cl6 2 (r := (k + 1)) dX6_fail_43 t_350 (by decide) h0.1 rfl ?_
      refine sw_geti q_cl8 1 dX6_fail_46 t_318 (by decide) h0.2.1.1 rfl ?_
      exact SW.sub [] rfl (hJ49 (u_4.1 (k + 1) 1) u_4)
    · refine sw_if_lt 42 dX6_fail_10 (by decide) ?_ ?_
      · exact SW.sub [0] rfl (hJ42  u_1)
      · refine sw_aload_n 0 dX6_fail_13 rfl rfl ?_
        refine sw_geti q_cl6 6 dX6_fail_14 t_355 (by decide) h0.1 rfl ?_
        refine sw_aload_n 0 dX6_fail_17 rfl rfl ?_
        refine sw_getr q_cl6 2 (r := (k + 1)) dX6_fail_18 t_350 (by decide) h0.1 rfl ?_
        refine sw_geti q_cl8 5 dX6_fail_21 t_326 (by decide) h0.2.1.1 rfl ?_
        refine sw_icmp_ge 42 dX6_fail_24 (by decide) ?_ ?_
        · exact SW.sub [0] rfl (hJ42  u_1)
        · refine sw_aload_n 0 dX6_fail_27 rfl rfl ?_
          refine sw_getr q_cl6 2 (r := (k + 1)) dX6_fail_28 t_350 (by decide) h0.1 rfl ?_
          refine sw_getr q_cl8 3 (r := (k + 4)) dX6_fail_31 t_322 (by decide) h0.2.1.1 rfl ?_
          refine sw_aload_n 0 dX6_fail_34 rfl rfl ?_
          refine sw_geti q_cl6 6 dX6_fail_35 t_355 (by decide) h0.1 rfl ?_
          refine sw_iald dX6_fail_38 h0.2.1.2.2.2.1 (fun a => ?_)
          refine sw_goto 49 dX6_fail_39 (by decide) ?_
          exact SW.sub [] rfl (hJ49 a u_1)
set_option maxRecDepth 100000 in
theorem c_X2_emit (l : Launch) {ι : qI} {b : Nat} (k : Nat) (x1 : Int32) (x2 : Int32) (u : qS) (h0 : is_X2 ι k) : CN l yX2_emit cX2_emit 3 none 1 ι b [.ref (b + k), .int x1, .int x2] u (m_X2_emit k x1 x2 u) := by
  refine CN.of_SW (own := RX2) rfl (by decide) (Nat.le_of_ble_eq_true rfl) [(0, .ref (b + k)), (1, .int x1), (2, .int x2)] rfl ?_
  unfold m_X2_emit
  refine sw_aload_n 0 dX2_emit_0 rfl rfl ?_
  refine sw_geti q_cl2 5 dX2_emit_1 t_161 (by decide) h0.1 rfl ?_
  refine sw_sipush (400 : Int32) dX2_emit_4 (by decide) ?_
  refine sw_icmp_ge 34 dX2_emit_7 (by decide) ?_ ?_
  · exact sw_vret dX2_emit_34
  · refine sw_aload_n 0 dX2_emit_10 rfl rfl ?_
    refine sw_getr q_cl2 4 (r := (k + 4)) dX2_emit_11 t_160 (by decide) h0.1 rfl ?_
    refine sw_aload_n 0 dX2_emit_14 rfl rfl ?_
    refine sw_geti q_cl2 5 dX2_emit_15 t_161 (by decide) h0.1 rfl ?_
    refine sw_iload_n 2 dX2_emit_18 rfl rfl ?_
    refine sw_iconst (4 : Int32) dX2_emit_19 (by decide) ?_
    refine sw_ishl dX2_emit_20 ?_
    refine sw_iload_n 1 dX2_emit_21 rfl rfl ?_
    refine sw_ior dX2_emit_22 ?_
    refine sw_iast dX2_emit_23 h0.2.2.2.2.1 (fun u_1 => ?_)
    refine sw_aload_n 0 dX2_emit_24 rfl rfl ?_
    refine sw_dup dX2_emit_25 rfl ?_
    refine sw_geti q_cl2 5 dX2_emit_26 t_161 (by decide) h0.1 rfl ?_
    refine sw_iconst (1 : Int32) dX2_emit_29 (by decide) ?_
    refine sw_iadd dX2_emit_30 ?_
    refine sw_puti q_cl2 5 dX2_emit_31 t_161 (by decide) (by decide +kernel) rfl h0.1 rfl (fun u_2 => ?_)
    exact sw_vret dX2_emit_34
set_option maxRecDepth 100000 in
theorem c_X6_operand (l : Launch) {ι : qI} {b : Nat} (k : Nat)  (u : qS) (h0 : is_X6 ι k) : CN l yX6_operand cX6_operand 3 (some .boolean) 2 ι b [.ref (b + k)] u (m_X6_operand k u) := by
  refine CN.of_SW (own := RX6) rfl (by decide) (Nat.le_of_ble_eq_true rfl) [(0, .ref (b + k))] rfl ?_
  unfold m_X6_operand
  refine sw_aload_n 0 dX6_operand_0 rfl rfl ?_
  refine sw_callVi (As := []) (k := k) rfl dX6_operand_1 t_786 mf_X6_kind h0.1 q_cl6 (by decide) (Nat.le_of_ble_eq_true rfl) (fun l => c_X6_kind l k u h0) (fun r u_1 => ?_)
  refine sw_istore_n (lv' := [(1, .int r), (0, .ref (b + k))]) dX6_operand_4 rfl (by decide) rfl ?_
  refine sw_iload_n 0 dX6_operand_5 rfl rfl ?_
  refine sw_iconst (1 : Int32) dX6_operand_6 (by decide) ?_
  refine SW.jn0 142 ([(0, .ref (b + k))]) ([]) (fun  u_2 => ?_) (fun J142 hJ142 => ?_)
  · refine sw_aload_n 0 dX6_operand_142 rfl rfl ?_
    refine sw_dup dX6_operand_143 rfl ?_
    refine sw_geti q_cl6 6 dX6_operand_144 t_355 (by decide) h0.1 rfl ?_
    refine sw_iconst (1 : Int32) dX6_operand_147 (by decide) ?_
    refine sw_iadd dX6_operand_148 ?_
    refine sw_puti q_cl6 6 dX6_operand_149 t_355 (by decide) (by decide +kernel) rfl h0.1 rfl (fun u_3 => ?_)
    refine sw_iconst (1 : Int32) dX6_operand_152 (by decide) ?_
    exact sw_zret1 dX6_operand_153
  · refine sw_icmp_ne 33 dX6_operand_7 (by decide) ?_ ?_
    · refine sw_aload_n 1 dX6_operand_10 rfl rfl ?_
      refine sw_getr q_cl6 3 (r := (k + 6)) dX6_operand_11 t_352 (by decide) h0.1 rfl ?_
      refine sw_iconst (0 : Int32) dX6_operand_14 (by decide) ?_
      refine sw_aload_n 1 dX6_operand_15 rfl rfl ?_
      refine sw_getr q_cl6 2 (r := (k + 1)) dX6_operand_16 t_350 (by decide) h0.1 rfl ?_
      refine sw_getr q_cl8 4 (r := (k + 5)) dX6_operand_19 t_324 (by decide) h0.2.1.1 rfl ?_
      refine sw_aload_n 1 dX6_operand_22 rfl rfl ?_
      refine sw_geti q_cl6 6 dX6_operand_23 t_355 (by decide) h0.1 rfl ?_
      refine sw_iald dX6_operand_26 h0.2.1.2.2.2.2 (fun a_18 => ?_)
      refine sw_callVv (As := [.int (0 : Int32), .int a_18]) (k := (k + 6)) rfl dX6_operand_27 t_807 mf_X2_emit h0.2.2.1.1 q_cl2 (by decide) (Nat.le_of_ble_eq_true rfl) (fun l => c_X2_emit l (k + 6) (0 : Int32) a_18 u_1 h0.2.2.1) (fun _ u_19 => ?_)
      refine sw_goto 142 dX6_operand_30 (by decide) ?_
      exact SW.sub [1] rfl (hJ142  u_19)
    · refine sw_iload_n 0 dX6_operand_33 rfl rfl ?_
      refine sw_sipush (263 : Int32) dX6_operand_34 (by decide) ?_
      refine sw_sipush (271 : Int32) dX6_operand_37 (by decide) ?_
      refine sw_callNi (As := [.int r, .int (263 : Int32), .int (271 : Int32)]) (host := "BallotFruit") rfl dX6_operand_40 (by decide +kernel) mf_X10_isWithin (by decide) (Nat.le_of_ble_eq_true rfl) (fun l => c_X10_isWithin l r (263 : Int32) (271 : Int32) u_1 ) (fun r_4 u_5 => ?_)
      refine sw_if_eq 136 dX6_operand_43 (by decide) ?_ ?_
      · refine sw_aload_n 1 dX6_operand_136 rfl rfl ?_
        refine sw_iconst (1 : Int32) dX6_operand_137 (by decide) ?_
        refine sw_callVi (As := [.int (1 : Int32)]) (k := k) rfl dX6_operand_138 t_795 mf_X6_fail h0.1 q_cl6 (by decide) (Nat.le_of_ble_eq_true rfl) (fun l => c_X6_fail l k (1 : Int32) u_5 h0) (fun r_6 u_7 => ?_)
        exact sw_zret dX6_operand_141
      · refine sw_aload_n 1 dX6_operand_46 rfl rfl ?_
        refine sw_getr q_cl6 3 (r := (k + 6)) dX6_operand_47 t_352 (by decide) h0.1 rfl ?_
        refine sw_iconst (1 : Int32) dX6_operand_50 (by decide) ?_
        refine sw_iload_n 0 dX6_operand_51 rfl rfl ?_
        refine sw_sipush (263 : Int32) dX6_operand_52 (by decide) ?_
        refine sw_isub dX6_operand_55 ?_
        refine sw_callVv (As := [.int (1 : Int32), .int (r - (263 : Int32))]) (k := (k + 6)) rfl dX6_operand_56 t_807 mf_X2_emit h0.2.2.1.1 q_cl2 (by decide) (Nat.le_of_ble_eq_true rfl) (fun l => c_X2_emit l (k + 6) (1 : Int32) (r - (263 : Int32)) u_5 h0.2.2.1) (fun _ u_8 => ?_)
        refine sw_aload_n 1 dX6_operand_59 rfl rfl ?_
        refine sw_getr q_cl6 3 (r := (k + 6)) dX6_operand_60 t_352 (by decide) h0.1 rfl ?_
        refine sw_geti q_cl2 0 dX6_operand_63 t_152 (by decide) h0.2.2.1.1 rfl ?_
        refine sw_iconst (0 : Int32) dX6_operand_66 (by decide) ?_
        refine sw_bipush (15 : Int32) dX6_operand_67 (by decide) ?_
        refine sw_callNi (As := [.int (u_8.1 (k + 6) 0), .int (0 : Int32), .int (15 : Int32)]) (host := "BallotFruit") rfl dX6_operand_69 (by decide +kernel) mf_X10_isWithin (by decide) (Nat.le_of_ble_eq_true rfl) (fun l => c_X10_isWithin l (u_8.1 (k + 6) 0) (0 : Int32) (15 : Int32) u_8 ) (fun r_9 u_10 => ?_)
        refine SW.jn1 99 (fun s0 => [(0, .ref (b + k)), (1, .int r)]) (fun s0 => [.int s0]) (fun s0 u_11 => ?_) (fun J99 hJ99 => ?_)
        · refine sw_istore_n (lv' := [(2, .int s0), (0, .ref (b + k)), (1, .int r)]) dX6_operand_99 rfl (by decide) rfl ?_
          refine sw_aload_n 1 dX6_operand_100 rfl rfl ?_
          refine sw_getr q_cl6 3 (r := (k + 6)) dX6_operand_101 t_352 (by decide) h0.1 rfl ?_
          refine sw_aload_n 1 dX6_operand_104 rfl rfl ?_
          refine sw_getr q_cl6 3 (r := (k + 6)) dX6_operand_105 t_352 (by decide) h0.1 rfl ?_
          refine sw_geti q_cl2 6 dX6_operand_108 t_165 (by decide) h0.2.2.1.1 rfl ?_
          refine SW.jn1 130 (fun s0_12 => [(0, .ref (b + k))]) (fun s0_12 => [.int s0_12, .ref (b + (k + 6))]) (fun s0_12 u_13 => ?_) (fun J130 hJ130 => ?_)
          · refine sw_putz q_cl2 6 dX6_operand_130 t_165 (by decide) (by decide +kernel) rfl h0.2.2.1.1 rfl (fun u_14 => ?_)
            refine sw_goto 142 dX6_operand_133 (by decide) ?_
            exact SW.sub [0] rfl (hJ142  u_14)
          · refine SW.jn0 125 ([(0, .ref (b + k))]) ([.ref (b + (k + 6))]) (fun  u_15 => ?_) (fun J125 hJ125 => ?_)
            · refine sw_iconst (1 : Int32) dX6_operand_125 (by decide) ?_
              refine sw_goto 130 dX6_operand_126 (by decide) ?_
              exact SW.sub [0] rfl (hJ130 (1 : Int32) u_15)
            · refine sw_if_ne 125 dX6_operand_111 (by decide) ?_ ?_
              · refine sw_iload_n 0 dX6_operand_114 rfl rfl ?_
                refine SW.jn0 129 ([(0, .ref (b + k))]) ([.ref (b + (k + 6))]) (fun  u_16 => ?_) (fun J129 hJ129 => ?_)
                · refine sw_iconst (0 : Int32) dX6_operand_129 (by decide) ?_
                  exact SW.sub [0] rfl (hJ130 (0 : Int32) u_16)
                · refine sw_if_eq 129 dX6_operand_115 (by decide) ?_ ?_
                  · exact SW.sub [1] rfl (hJ129  u_11)
                  · refine sw_iload_n 2 dX6_operand_118 rfl rfl ?_
                    refine sw_sipush (267 : Int32) dX6_operand_119 (by decide) ?_
                    refine sw_icmp_ne 129 dX6_operand_122 (by decide) ?_ ?_
                    · exact SW.sub [1] rfl (hJ125  u_11)
                    · exact SW.sub [1] rfl (hJ129  u_11)
              · exact SW.sub [1] rfl (hJ125  u_11)
        · refine SW.jn0 98 ([(0, .ref (b + k)), (1, .int r)]) ([]) (fun  u_17 => ?_) (fun J98 hJ98 => ?_)
          · refine sw_iconst (0 : Int32) dX6_operand_98 (by decide) ?_
            exact SW.sub [0, 1] rfl (hJ99 (0 : Int32) u_17)
          · refine sw_if_eq 98 dX6_operand_72 (by decide) ?_ ?_
            · exact SW.sub [1, 0] rfl (hJ98  u_10)
            · refine sw_aload_n 1 dX6_operand_75 rfl rfl ?_
              refine sw_getr q_cl6 3 (r := (k + 6)) dX6_operand_76 t_352 (by decide) h0.1 rfl ?_
              refine sw_getr q_cl2 1 (r := (k + 7)) dX6_operand_79 t_155 (by decide) h0.2.2.1.1 rfl ?_
              refine sw_aload_n 1 dX6_operand_82 rfl rfl ?_
              refine sw_getr q_cl6 3 (r := (k + 6)) dX6_operand_83 t_352 (by decide) h0.1 rfl ?_
              refine sw_geti q_cl2 0 dX6_operand_86 t_152 (by decide) h0.2.2.1.1 rfl ?_
              refine sw_iald dX6_operand_89 h0.2.2.1.2.1 (fun a => ?_)
              refine sw_iconst (2 : Int32) dX6_operand_90 (by decide) ?_
              refine sw_icmp_ne 98 dX6_operand_91 (by decide) ?_ ?_
              · refine sw_iconst (1 : Int32) dX6_operand_94 (by decide) ?_
                refine sw_goto 99 dX6_operand_95 (by decide) ?_
                exact SW.sub [1, 0] rfl (hJ99 (1 : Int32) u_10)
              · exact SW.sub [1, 0] rfl (hJ98  u_10)
set_option maxRecDepth 100000 in
theorem c_X6_number (l : Launch) {ι : qI} {b : Nat} (k : Nat) (x1 : Int32) (x2 : Int32) (u : qS) (h0 : is_X6 ι k) : CN l yX6_number cX6_number 4 (some .int) 2 ι b [.ref (b + k), .int x1, .int x2] u (m_X6_number k x1 x2 u) := by
  refine CN.of_SW (own := RX6) rfl (by decide) (Nat.le_of_ble_eq_true rfl) [(0, .ref (b + k)), (1, .int x1), (2, .int x2)] rfl ?_
  unfold m_X6_number
  refine sw_aload_n 0 dX6_number_0 rfl rfl ?_
  refine sw_callVi (As := []) (k := k) rfl dX6_number_1 t_786 mf_X6_kind h0.1 q_cl6 (by decide) (Nat.le_of_ble_eq_true rfl) (fun l => c_X6_kind l k u h0) (fun r u_1 => ?_)
  refine sw_iconst (1 : Int32) dX6_number_4 (by decide) ?_
  refine sw_icmp_eq 16 dX6_number_5 (by decide) ?_ ?_
  · refine sw_aload_n 0 dX6_number_16 rfl rfl ?_
    refine sw_getr q_cl6 2 (r := (k + 1)) dX6_number_17 t_350 (by decide) h0.1 rfl ?_
    refine sw_getr q_cl8 4 (r := (k + 5)) dX6_number_20 t_324 (by decide) h0.2.1.1 rfl ?_
    refine sw_aload_n 0 dX6_number_23 rfl rfl ?_
    refine sw_geti q_cl6 6 dX6_number_24 t_355 (by decide) h0.1 rfl ?_
    refine sw_iald dX6_number_27 h0.2.1.2.2.2.2 (fun a => ?_)
    refine sw_istore_n (lv' := [(3, .int a), (0, .ref (b + k)), (1, .int x1), (2, .int x2)]) dX6_number_28 rfl (by decide) rfl ?_
    refine sw_iload_n 0 dX6_number_29 rfl rfl ?_
    refine sw_iload_n 2 dX6_number_30 rfl rfl ?_
    refine sw_iload_n 3 dX6_number_31 rfl rfl ?_
    refine sw_callNi (As := [.int a, .int x1, .int x2]) (host := "BallotFruit") rfl dX6_number_32 (by decide +kernel) mf_X10_isWithin (by decide) (Nat.le_of_ble_eq_true rfl) (fun l => c_X10_isWithin l a x1 x2 u_1 ) (fun r_2 u_3 => ?_)
    refine sw_if_ne 46 dX6_number_35 (by decide) ?_ ?_
    · refine sw_aload_n 1 dX6_number_38 rfl rfl ?_
      refine sw_iconst (2 : Int32) dX6_number_39 (by decide) ?_
      refine sw_callVi (As := [.int (2 : Int32)]) (k := k) rfl dX6_number_40 t_795 mf_X6_fail h0.1 q_cl6 (by decide) (Nat.le_of_ble_eq_true rfl) (fun l => c_X6_fail l k (2 : Int32) u_3 h0) (fun r_5 u_6 => ?_)
      refine sw_pop dX6_number_43 rfl ?_
      refine sw_iconst (-1 : Int32) dX6_number_44 (by decide) ?_
      exact sw_iret dX6_number_45
    · refine sw_aload_n 1 dX6_number_46 rfl rfl ?_
      refine sw_dup dX6_number_47 rfl ?_
      refine sw_geti q_cl6 6 dX6_number_48 t_355 (by decide) h0.1 rfl ?_
      refine sw_iconst (1 : Int32) dX6_number_51 (by decide) ?_
      refine sw_iadd dX6_number_52 ?_
      refine sw_puti q_cl6 6 dX6_number_53 t_355 (by decide) (by decide +kernel) rfl h0.1 rfl (fun u_4 => ?_)
      refine sw_iload_n 0 dX6_number_56 rfl rfl ?_
      exact sw_iret dX6_number_57
  · refine sw_aload_n 0 dX6_number_8 rfl rfl ?_
    refine sw_iconst (1 : Int32) dX6_number_9 (by decide) ?_
    refine sw_callVi (As := [.int (1 : Int32)]) (k := k) rfl dX6_number_10 t_795 mf_X6_fail h0.1 q_cl6 (by decide) (Nat.le_of_ble_eq_true rfl) (fun l => c_X6_fail l k (1 : Int32) u_1 h0) (fun r_7 u_8 => ?_)
    refine sw_pop dX6_number_13 rfl ?_
    refine sw_iconst (-1 : Int32) dX6_number_14 (by decide) ?_
    exact sw_iret dX6_number_15
set_option maxRecDepth 100000 in
theorem w_X6_sum_L16 {ι : qI} {b : Nat} (k : Nat) (h0 : is_X6 ι k)  {K125 : qS → qR} {K184 : Int32 → qS → qR} (hK125 : ∀  (u : qS), SW RX6 cX6_sum 4 (some .boolean) 3 ι b 125 [] [] u (K125  u)) (hK184 : ∀ (e1 : Int32) (u : qS), SW RX6 cX6_sum 4 (some .boolean) 3 ι b 184 [(0, .ref (b + k)), (1, .int e1)] [] u (K184 e1 u)) (fu : Nat) (x1 : Int32) (x2 : Int32) (u : qS) : SW RX6 cX6_sum 4 (some .boolean) 3 ι b 16 [(0, .ref (b + k)), (1, .int x1), (2, .int x2)] [] u (q_it2 (m_X6_sum_L16 k K125 K184) fu x1 x2 u) := by
  refine SW.it2 (fun x1 x2 => [(0, .ref (b + k)), (1, .int x1), (2, .int x2)]) (fun self ih x1 x2 u => ?_) fu x1 x2 u
  unfold m_X6_sum_L16
  refine sw_aload_n 0 dX6_sum_16 rfl rfl ?_
  refine sw_geti q_cl6 6 dX6_sum_17 t_355 (by decide) h0.1 rfl ?_
  refine sw_aload_n 0 dX6_sum_20 rfl rfl ?_
  refine sw_getr q_cl6 2 (r := (k + 1)) dX6_sum_21 t_350 (by decide) h0.1 rfl ?_
  refine sw_geti q_cl8 5 dX6_sum_24 t_326 (by decide) h0.2.1.1 rfl ?_
  refine sw_icmp_ge 184 dX6_sum_27 (by decide) ?_ ?_
  · exact SW.sub [0, 1] rfl (hK184 x1 u)
  · refine sw_iload_n 2 dX6_sum_30 rfl rfl ?_
    refine sw_bipush (42 : Int32) dX6_sum_31 (by decide) ?_
    refine SW.jn0 54 ([(0, .ref (b + k)), (1, .int x1), (2, .int x2)]) ([]) (fun  u_4 => ?_) (fun J54 hJ54 => ?_)
    · refine sw_aload_n 0 dX6_sum_54 rfl rfl ?_
      refine sw_dup dX6_sum_55 rfl ?_
      refine sw_geti q_cl6 6 dX6_sum_56 t_355 (by decide) h0.1 rfl ?_
      refine sw_iconst (1 : Int32) dX6_sum_59 (by decide) ?_
      refine sw_iadd dX6_sum_60 ?_
      refine sw_puti q_cl6 6 dX6_sum_61 t_355 (by decide) (by decide +kernel) rfl h0.1 rfl (fun u_5 => ?_)
      refine sw_iload_n 1 dX6_sum_64 rfl rfl ?_
      refine sw_iconst (-1 : Int32) dX6_sum_65 (by decide) ?_
      refine SW.jn0 90 ([(0, .ref (b + k)), (1, .int x1), (2, .int x2)]) ([]) (fun  u_6 => ?_) (fun J90 hJ90 => ?_)
      · refine sw_iload_n 2 dX6_sum_90 rfl rfl ?_
        refine sw_bipush (47 : Int32) dX6_sum_91 (by decide) ?_
        refine SW.jn1 108 (fun s0 => [(0, .ref (b + k)), (1, .int x1), (2, .int x2)]) (fun s0 => [.int s0]) (fun s0 u_7 => ?_) (fun J108 hJ108 => ?_)
        · refine sw_istore_n (lv' := [(3, .int s0), (0, .ref (b + k)), (1, .int x1), (2, .int x2)]) dX6_sum_108 rfl (by decide) rfl ?_
          refine sw_iload_n 0 dX6_sum_109 rfl rfl ?_
          refine sw_iconst (-1 : Int32) dX6_sum_110 (by decide) ?_
          refine sw_icmp_eq 125 dX6_sum_111 (by decide) ?_ ?_
          · exact SW.sub [] rfl (hK125  u_7)
          · refine sw_iload_n 0 dX6_sum_114 rfl rfl ?_
            refine SW.jn0 127 ([(0, .ref (b + k)), (1, .int x1), (2, .int x2), (3, .int s0)]) ([]) (fun  u_8 => ?_) (fun J127 hJ127 => ?_)
            · refine sw_iload_n 2 dX6_sum_127 rfl rfl ?_
              refine sw_bipush (47 : Int32) dX6_sum_128 (by decide) ?_
              refine SW.jn1 176 (fun x1_9 => [(0, .ref (b + k)), (1, .int x1_9)]) (fun x1_9 => []) (fun x1_9 u_10 => ?_) (fun J176 hJ176 => ?_)
              · refine sw_aload_n 0 dX6_sum_176 rfl rfl ?_
                refine sw_callVi (As := []) (k := k) rfl dX6_sum_177 t_786 mf_X6_kind h0.1 q_cl6 (by decide) (Nat.le_of_ble_eq_true rfl) (fun l => c_X6_kind l k u_10 h0) (fun r u_11 => ?_)
                refine sw_istore_n (lv' := [(2, .int r), (0, .ref (b + k)), (1, .int x1_9)]) dX6_sum_180 rfl (by decide) rfl ?_
                refine sw_goto 16 dX6_sum_181 (by decide) ?_
                exact SW.sub [1, 2, 0] rfl (ih x1_9 r u_11)
              · refine sw_icmp_ne 145 dX6_sum_130 (by decide) ?_ ?_
                · refine sw_aload_n 0 dX6_sum_133 rfl rfl ?_
                  refine sw_getr q_cl6 3 (r := (k + 6)) dX6_sum_134 t_352 (by decide) h0.1 rfl ?_
                  refine sw_iconst (2 : Int32) dX6_sum_137 (by decide) ?_
                  refine sw_iload_n 3 dX6_sum_138 rfl rfl ?_
                  refine sw_callVv (As := [.int (2 : Int32), .int s0]) (k := (k + 6)) rfl dX6_sum_139 t_807 mf_X2_emit h0.2.2.1.1 q_cl2 (by decide) (Nat.le_of_ble_eq_true rfl) (fun l => c_X2_emit l (k + 6) (2 : Int32) s0 u_8 h0.2.2.1) (fun _ u_15 => ?_)
                  refine sw_goto 176 dX6_sum_142 (by decide) ?_
                  exact SW.sub [0, 1] rfl (hJ176 x1 u_15)
                · refine sw_iload_n 2 dX6_sum_145 rfl rfl ?_
                  refine sw_bipush (42 : Int32) dX6_sum_146 (by decide) ?_
                  refine sw_icmp_ne 163 dX6_sum_148 (by decide) ?_ ?_
                  · refine sw_aload_n 0 dX6_sum_151 rfl rfl ?_
                    refine sw_getr q_cl6 3 (r := (k + 6)) dX6_sum_152 t_352 (by decide) h0.1 rfl ?_
                    refine sw_iconst (4 : Int32) dX6_sum_155 (by decide) ?_
                    refine sw_iconst (0 : Int32) dX6_sum_156 (by decide) ?_
                    refine sw_callVv (As := [.int (4 : Int32), .int (0 : Int32)]) (k := (k + 6)) rfl dX6_sum_157 t_807 mf_X2_emit h0.2.2.1.1 q_cl2 (by decide) (Nat.le_of_ble_eq_true rfl) (fun l => c_X2_emit l (k + 6) (4 : Int32) (0 : Int32) u_8 h0.2.2.1) (fun _ u_14 => ?_)
                    refine sw_goto 176 dX6_sum_160 (by decide) ?_
                    exact SW.sub [0, 1] rfl (hJ176 x1 u_14)
                  · refine sw_iload_n 2 dX6_sum_163 rfl rfl ?_
                    refine sw_bipush (43 : Int32) dX6_sum_164 (by decide) ?_
                    refine SW.jn1 175 (fun s0_12 => [(0, .ref (b + k))]) (fun s0_12 => [.int s0_12]) (fun s0_12 u_13 => ?_) (fun J175 hJ175 => ?_)
                    · refine sw_istore_n (lv' := [(1, .int s0_12), (0, .ref (b + k))]) dX6_sum_175 rfl (by decide) rfl ?_
                      exact SW.sub [1, 0] rfl (hJ176 s0_12 u_13)
                    · refine sw_icmp_ne 173 dX6_sum_166 (by decide) ?_ ?_
                      · refine sw_iconst (5 : Int32) dX6_sum_169 (by decide) ?_
                        refine sw_goto 175 dX6_sum_170 (by decide) ?_
                        exact SW.sub [0] rfl (hJ175 (5 : Int32) u_8)
                      · refine sw_bipush (6 : Int32) dX6_sum_173 (by decide) ?_
                        exact SW.sub [0] rfl (hJ175 (6 : Int32) u_8)
            · refine sw_if_ne 127 dX6_sum_115 (by decide) ?_ ?_
              · refine sw_aload_n 1 dX6_sum_118 rfl rfl ?_
                refine sw_callVi (As := []) (k := k) rfl dX6_sum_119 t_803 mf_X6_operand h0.1 q_cl6 (by decide) (Nat.le_of_ble_eq_true rfl) (fun l => c_X6_operand l k u_7 h0) (fun r_16 u_17 => ?_)
                refine sw_if_ne 127 dX6_sum_122 (by decide) ?_ ?_
                · exact SW.sub [] rfl (hK125  u_17)
                · exact SW.sub [1, 2, 3, 0] rfl (hJ127  u_17)
              · exact SW.sub [1, 2, 3, 0] rfl (hJ127  u_7)
        · refine sw_icmp_ne 107 dX6_sum_93 (by decide) ?_ ?_
          · refine sw_aload_n 0 dX6_sum_96 rfl rfl ?_
            refine sw_iconst (1 : Int32) dX6_sum_97 (by decide) ?_
            refine sw_sipush (9999 : Int32) dX6_sum_98 (by decide) ?_
            refine sw_callVi (As := [.int (1 : Int32), .int (9999 : Int32)]) (k := k) rfl dX6_sum_101 t_811 mf_X6_number h0.1 q_cl6 (by decide) (Nat.le_of_ble_eq_true rfl) (fun l => c_X6_number l k (1 : Int32) (9999 : Int32) u_6 h0) (fun r_18 u_19 => ?_)
            refine sw_goto 108 dX6_sum_104 (by decide) ?_
            exact SW.sub [0, 1, 2] rfl (hJ108 r_18 u_19)
          · refine sw_iconst (0 : Int32) dX6_sum_107 (by decide) ?_
            exact SW.sub [0, 1, 2] rfl (hJ108 (0 : Int32) u_6)
      · refine sw_icmp_eq 90 dX6_sum_66 (by decide) ?_ ?_
        · exact SW.sub [0, 1, 2] rfl (hJ90  u_5)
        · refine sw_iload_n 2 dX6_sum_69 rfl rfl ?_
          refine sw_bipush (43 : Int32) dX6_sum_70 (by decide) ?_
          refine SW.jn0 81 ([(0, .ref (b + k)), (1, .int x1), (2, .int x2)]) ([]) (fun  u_20 => ?_) (fun J81 hJ81 => ?_)
          · refine sw_aload_n 0 dX6_sum_81 rfl rfl ?_
            refine sw_getr q_cl6 3 (r := (k + 6)) dX6_sum_82 t_352 (by decide) h0.1 rfl ?_
            refine sw_iload_n 1 dX6_sum_85 rfl rfl ?_
            refine sw_iconst (0 : Int32) dX6_sum_86 (by decide) ?_
            refine sw_callVv (As := [.int x1, .int (0 : Int32)]) (k := (k + 6)) rfl dX6_sum_87 t_807 mf_X2_emit h0.2.2.1.1 q_cl2 (by decide) (Nat.le_of_ble_eq_true rfl) (fun l => c_X2_emit l (k + 6) x1 (0 : Int32) u_20 h0.2.2.1) (fun _ u_21 => ?_)
            exact SW.sub [0, 1, 2] rfl (hJ90  u_21)
          · refine sw_icmp_eq 81 dX6_sum_72 (by decide) ?_ ?_
            · exact SW.sub [0, 1, 2] rfl (hJ81  u_5)
            · refine sw_iload_n 2 dX6_sum_75 rfl rfl ?_
              refine sw_bipush (45 : Int32) dX6_sum_76 (by decide) ?_
              refine sw_icmp_ne 90 dX6_sum_78 (by decide) ?_ ?_
              · exact SW.sub [0, 1, 2] rfl (hJ81  u_5)
              · exact SW.sub [0, 1, 2] rfl (hJ90  u_5)
    · refine sw_icmp_eq 54 dX6_sum_33 (by decide) ?_ ?_
      · exact SW.sub [0, 1, 2] rfl (hJ54  u)
      · refine sw_iload_n 2 dX6_sum_36 rfl rfl ?_
        refine sw_bipush (47 : Int32) dX6_sum_37 (by decide) ?_
        refine sw_icmp_eq 54 dX6_sum_39 (by decide) ?_ ?_
        · exact SW.sub [0, 1, 2] rfl (hJ54  u)
        · refine sw_iload_n 2 dX6_sum_42 rfl rfl ?_
          refine sw_bipush (43 : Int32) dX6_sum_43 (by decide) ?_
          refine sw_icmp_eq 54 dX6_sum_45 (by decide) ?_ ?_
          · exact SW.sub [0, 1, 2] rfl (hJ54  u)
          · refine sw_iload_n 2 dX6_sum_48 rfl rfl ?_
            refine sw_bipush (45 : Int32) dX6_sum_49 (by decide) ?_
            refine sw_icmp_ne 184 dX6_sum_51 (by decide) ?_ ?_
            · exact SW.sub [0, 1, 2] rfl (hJ54  u)
            · exact SW.sub [0, 1] rfl (hK184 x1 u)
set_option maxRecDepth 100000 in
theorem c_X6_sum (l : Launch) {ι : qI} {b : Nat} (k : Nat)  (u : qS) (h0 : is_X6 ι k) : CN l yX6_sum cX6_sum 4 (some .boolean) 3 ι b [.ref (b + k)] u (m_X6_sum k u) := by
  refine CN.of_SW (own := RX6) rfl (by decide) (Nat.le_of_ble_eq_true rfl) [(0, .ref (b + k))] rfl ?_
  unfold m_X6_sum
  refine sw_iconst (-1 : Int32) dX6_sum_0 (by decide) ?_
  refine sw_istore_n (lv' := [(1, .int (-1 : Int32)), (0, .ref (b + k))]) dX6_sum_1 rfl (by decide) rfl ?_
  refine sw_aload_n 1 dX6_sum_2 rfl rfl ?_
  refine sw_callVi (As := []) (k := k) rfl dX6_sum_3 t_803 mf_X6_operand h0.1 q_cl6 (by decide) (Nat.le_of_ble_eq_true rfl) (fun l => c_X6_operand l k u h0) (fun r u_1 => ?_)
  refine sw_if_ne 11 dX6_sum_6 (by decide) ?_ ?_
  · refine sw_iconst (0 : Int32) dX6_sum_9 (by decide) ?_
    exact sw_zret0 dX6_sum_10
  · refine sw_aload_n 1 dX6_sum_11 rfl rfl ?_
    refine sw_callVi (As := []) (k := k) rfl dX6_sum_12 t_786 mf_X6_kind h0.1 q_cl6 (by decide) (Nat.le_of_ble_eq_true rfl) (fun l => c_X6_kind l k u_1 h0) (fun r_2 u_3 => ?_)
    refine sw_istore_n (lv' := [(2, .int r_2), (1, .int (-1 : Int32)), (0, .ref (b + k))]) dX6_sum_15 rfl (by decide) rfl ?_
    refine SW.sub (lv' := [(0, .ref (b + k)), (1, .int (-1 : Int32)), (2, .int r_2)]) [2, 1, 0] rfl ?_
    refine w_X6_sum_L16 k h0 (fun u_22 => ?_) (fun x1 u_23 => ?_) q_F (-1 : Int32) r_2 u_3
    · refine sw_iconst (0 : Int32) dX6_sum_125 (by decide) ?_
      exact sw_zret0 dX6_sum_126
    · refine sw_iload_n 1 dX6_sum_184 rfl rfl ?_
      refine sw_iconst (-1 : Int32) dX6_sum_185 (by decide) ?_
      refine sw_icmp_eq 198 dX6_sum_186 (by decide) ?_ ?_
      · refine sw_iconst (1 : Int32) dX6_sum_198 (by decide) ?_
        exact sw_zret1 dX6_sum_199
      · refine sw_aload_n 0 dX6_sum_189 rfl rfl ?_
        refine sw_getr q_cl6 3 (r := (k + 6)) dX6_sum_190 t_352 (by decide) h0.1 rfl ?_
        refine sw_iload_n 1 dX6_sum_193 rfl rfl ?_
        refine sw_iconst (0 : Int32) dX6_sum_194 (by decide) ?_
        refine sw_callVv (As := [.int x1, .int (0 : Int32)]) (k := (k + 6)) rfl dX6_sum_195 t_807 mf_X2_emit h0.2.2.1.1 q_cl2 (by decide) (Nat.le_of_ble_eq_true rfl) (fun l => c_X2_emit l (k + 6) x1 (0 : Int32) u_23 h0.2.2.1) (fun _ u_24 => ?_)
        refine sw_iconst (1 : Int32) dX6_sum_198 (by decide) ?_
        exact sw_zret1 dX6_sum_199
set_option maxRecDepth 100000 in
theorem c_X6_takes (l : Launch) {ι : qI} {b : Nat} (k : Nat) (x1 : Int32) (u : qS) (h0 : is_X6 ι k) : CN l yX6_takes cX6_takes 2 (some .boolean) 2 ι b [.ref (b + k), .int x1] u (m_X6_takes k x1 u) := by
  refine CN.of_SW (own := RX6) rfl (by decide) (Nat.le_of_ble_eq_true rfl) [(0, .ref (b + k)), (1, .int x1)] rfl ?_
  unfold m_X6_takes
  refine sw_aload_n 0 dX6_takes_0 rfl rfl ?_
  refine sw_callVi (As := []) (k := k) rfl dX6_takes_1 t_786 mf_X6_kind h0.1 q_cl6 (by decide) (Nat.le_of_ble_eq_true rfl) (fun l => c_X6_kind l k u h0) (fun r u_1 => ?_)
  refine sw_iload_n 1 dX6_takes_4 rfl rfl ?_
  refine sw_icmp_eq 14 dX6_takes_5 (by decide) ?_ ?_
  · refine sw_aload_n 0 dX6_takes_14 rfl rfl ?_
    refine sw_dup dX6_takes_15 rfl ?_
    refine sw_geti q_cl6 6 dX6_takes_16 t_355 (by decide) h0.1 rfl ?_
    refine sw_iconst (1 : Int32) dX6_takes_19 (by decide) ?_
    refine sw_iadd dX6_takes_20 ?_
    refine sw_puti q_cl6 6 dX6_takes_21 t_355 (by decide) (by decide +kernel) rfl h0.1 rfl (fun u_2 => ?_)
    refine sw_iconst (1 : Int32) dX6_takes_24 (by decide) ?_
    exact sw_zret1 dX6_takes_25
  · refine sw_aload_n 0 dX6_takes_8 rfl rfl ?_
    refine sw_iconst (1 : Int32) dX6_takes_9 (by decide) ?_
    refine sw_callVi (As := [.int (1 : Int32)]) (k := k) rfl dX6_takes_10 t_795 mf_X6_fail h0.1 q_cl6 (by decide) (Nat.le_of_ble_eq_true rfl) (fun l => c_X6_fail l k (1 : Int32) u_1 h0) (fun r_3 u_4 => ?_)
    exact sw_zret dX6_takes_13
set_option maxRecDepth 100000 in
theorem w_X6_condition_L12 {ι : qI} {b : Nat} (k : Nat) (fr : Nat) (C S : Int32 → qS → qR) (hC : ∀ (l : Launch) (x : Int32) (u : qS), CN l yX6_condition cX6_condition 4 (some .boolean) (3 + fr) ι b [.ref (b + k), .int x] u (C x u)) (hS : ∀ (l : Launch) (x : Int32) (u : qS), CN l yX6_single cX6_single 4 (some .boolean) (3 + fr) ι b [.ref (b + k), .int x] u (S x u)) (h0 : is_X6 ι k) (x1 : Int32) {K112 : qS → qR} {K131 : Int32 → qS → qR} (hK112 : ∀  (u : qS), SW RX6 cX6_condition 4 (some .boolean) (3 + (fr + 1)) ι b 112 [] [] u (K112  u)) (hK131 : ∀ (e2 : Int32) (u : qS), SW RX6 cX6_condition 4 (some .boolean) (3 + (fr + 1)) ι b 131 [(0, .ref (b + k)), (2, .int e2)] [] u (K131 e2 u)) (fu : Nat) (x2 : Int32) (u : qS) : SW RX6 cX6_condition 4 (some .boolean) (3 + (fr + 1)) ι b 12 [(0, .ref (b + k)), (1, .int x1), (2, .int x2)] [] u (q_it1 (m_X6_condition_L12 k C S x1 K112 K131) fu x2 u) := by
  refine SW.it1 (fun x2 => [(0, .ref (b + k)), (1, .int x1), (2, .int x2)]) (fun self ih x2 u => ?_) fu x2 u
  unfold m_X6_condition_L12
  refine sw_aload_n 0 dX6_condition_12 rfl rfl ?_
  refine sw_geti q_cl6 6 dX6_condition_13 t_355 (by decide) h0.1 rfl ?_
  refine sw_aload_n 0 dX6_condition_16 rfl rfl ?_
  refine sw_getr q_cl6 2 (r := (k + 1)) dX6_condition_17 t_350 (by decide) h0.1 rfl ?_
  refine sw_geti q_cl8 5 dX6_condition_20 t_326 (by decide) h0.2.1.1 rfl ?_
  refine sw_icmp_ge 131 dX6_condition_23 (by decide) ?_ ?_
  · exact SW.sub [0, 2] rfl (hK131 x2 u)
  · refine sw_aload_n 0 dX6_condition_26 rfl rfl ?_
    refine sw_callVi (As := []) (k := k) rfl dX6_condition_27 t_786 mf_X6_kind h0.1 q_cl6 (by omega) (Nat.le_of_ble_eq_true rfl) (fun l => c_X6_kind l k u h0) (fun r u_2 => ?_)
    refine sw_sipush (260 : Int32) dX6_condition_30 (by decide) ?_
    refine SW.jn0 46 ([(0, .ref (b + k)), (1, .int x1), (2, .int x2)]) ([]) (fun  u_3 => ?_) (fun J46 hJ46 => ?_)
    · refine sw_aload_n 0 dX6_condition_46 rfl rfl ?_
      refine sw_callVi (As := []) (k := k) rfl dX6_condition_47 t_786 mf_X6_kind h0.1 q_cl6 (by omega) (Nat.le_of_ble_eq_true rfl) (fun l => c_X6_kind l k u_3 h0) (fun r_4 u_5 => ?_)
      refine sw_sipush (260 : Int32) dX6_condition_50 (by decide) ?_
      refine SW.jn1 61 (fun s0 => [(0, .ref (b + k)), (1, .int x1), (2, .int x2)]) (fun s0 => [.int s0]) (fun s0 u_6 => ?_) (fun J61 hJ61 => ?_)
      · refine sw_istore_n (lv' := [(3, .int s0), (0, .ref (b + k)), (1, .int x1), (2, .int x2)]) dX6_condition_61 rfl (by decide) rfl ?_
        refine sw_aload_n 1 dX6_condition_62 rfl rfl ?_
        refine sw_dup dX6_condition_63 rfl ?_
        refine sw_geti q_cl6 6 dX6_condition_64 t_355 (by decide) h0.1 rfl ?_
        refine sw_iconst (1 : Int32) dX6_condition_67 (by decide) ?_
        refine sw_iadd dX6_condition_68 ?_
        refine sw_puti q_cl6 6 dX6_condition_69 t_355 (by decide) (by decide +kernel) rfl h0.1 rfl (fun u_7 => ?_)
        refine sw_iload_n 0 dX6_condition_72 rfl rfl ?_
        refine SW.jn0 90 ([(0, .ref (b + k)), (1, .int x1), (2, .int x2), (3, .int s0)]) ([]) (fun  u_8 => ?_) (fun J90 hJ90 => ?_)
        · refine sw_iload_n 2 dX6_condition_90 rfl rfl ?_
          refine SW.jn1 103 (fun s0_9 => [(0, .ref (b + k)), (1, .int x1), (3, .int s0)]) (fun s0_9 => [.int s0_9]) (fun s0_9 u_10 => ?_) (fun J103 hJ103 => ?_)
          · refine sw_istore_n (lv' := [(2, .int s0_9), (0, .ref (b + k)), (1, .int x1), (3, .int s0)]) dX6_condition_103 rfl (by decide) rfl ?_
            refine sw_aload_n 1 dX6_condition_104 rfl rfl ?_
            refine sw_iload_n 2 dX6_condition_105 rfl rfl ?_
            refine sw_callVi (As := [.int x1]) (k := k) rfl dX6_condition_106 t_819 mf_X6_single h0.1 q_cl6 (by omega) (Nat.le_of_ble_eq_true rfl) (fun l => hS l x1 u_10) (fun r_11 u_12 => ?_)
            refine sw_if_ne 114 dX6_condition_109 (by decide) ?_ ?_
            · exact SW.sub [] rfl (hK112  u_12)
            · refine sw_iload_n 3 dX6_condition_114 rfl rfl ?_
              refine SW.jn0 128 ([(0, .ref (b + k)), (1, .int x1), (2, .int s0_9)]) ([]) (fun  u_13 => ?_) (fun J128 hJ128 => ?_)
              · refine sw_goto 12 dX6_condition_128 (by decide) ?_
                exact SW.sub [0, 1, 2] rfl (ih s0_9 u_13)
              · refine sw_if_ne 128 dX6_condition_115 (by decide) ?_ ?_
                · refine sw_aload_n 1 dX6_condition_118 rfl rfl ?_
                  refine sw_getr q_cl6 3 (r := (k + 6)) dX6_condition_119 t_352 (by decide) h0.1 rfl ?_
                  refine sw_bipush (10 : Int32) dX6_condition_122 (by decide) ?_
                  refine sw_iconst (0 : Int32) dX6_condition_124 (by decide) ?_
                  refine sw_callVv (As := [.int (10 : Int32), .int (0 : Int32)]) (k := (k + 6)) rfl dX6_condition_125 t_807 mf_X2_emit h0.2.2.1.1 q_cl2 (by omega) (Nat.le_of_ble_eq_true rfl) (fun l => c_X2_emit l (k + 6) (10 : Int32) (0 : Int32) u_12 h0.2.2.1) (fun _ u_14 => ?_)
                  exact SW.sub [1, 2, 0] rfl (hJ128  u_14)
                · exact SW.sub [1, 2, 0] rfl (hJ128  u_12)
          · refine SW.jn0 98 ([(0, .ref (b + k)), (1, .int x1), (3, .int s0)]) ([]) (fun  u_15 => ?_) (fun J98 hJ98 => ?_)
            · refine sw_iconst (1 : Int32) dX6_condition_98 (by decide) ?_
              refine sw_goto 103 dX6_condition_99 (by decide) ?_
              exact SW.sub [0, 1, 2] rfl (hJ103 (1 : Int32) u_15)
            · refine sw_if_ne 98 dX6_condition_91 (by decide) ?_ ?_
              · refine sw_iload_n 3 dX6_condition_94 rfl rfl ?_
                refine sw_if_eq 102 dX6_condition_95 (by decide) ?_ ?_
                · refine sw_iconst (0 : Int32) dX6_condition_102 (by decide) ?_
                  exact SW.sub [0, 1, 3] rfl (hJ103 (0 : Int32) u_8)
                · exact SW.sub [0, 1, 3] rfl (hJ98  u_8)
              · exact SW.sub [0, 1, 3] rfl (hJ98  u_8)
        · refine sw_if_eq 90 dX6_condition_73 (by decide) ?_ ?_
          · exact SW.sub [1, 2, 3, 0] rfl (hJ90  u_7)
          · refine sw_iload_n 3 dX6_condition_76 rfl rfl ?_
            refine sw_if_eq 90 dX6_condition_77 (by decide) ?_ ?_
            · exact SW.sub [1, 2, 3, 0] rfl (hJ90  u_7)
            · refine sw_aload_n 1 dX6_condition_80 rfl rfl ?_
              refine sw_getr q_cl6 3 (r := (k + 6)) dX6_condition_81 t_352 (by decide) h0.1 rfl ?_
              refine sw_bipush (11 : Int32) dX6_condition_84 (by decide) ?_
              refine sw_iconst (0 : Int32) dX6_condition_86 (by decide) ?_
              refine sw_callVv (As := [.int (11 : Int32), .int (0 : Int32)]) (k := (k + 6)) rfl dX6_condition_87 t_807 mf_X2_emit h0.2.2.1.1 q_cl2 (by omega) (Nat.le_of_ble_eq_true rfl) (fun l => c_X2_emit l (k + 6) (11 : Int32) (0 : Int32) u_7 h0.2.2.1) (fun _ u_16 => ?_)
              exact SW.sub [1, 2, 3, 0] rfl (hJ90  u_16)
      · refine sw_icmp_ne 60 dX6_condition_53 (by decide) ?_ ?_
        · refine sw_iconst (1 : Int32) dX6_condition_56 (by decide) ?_
          refine sw_goto 61 dX6_condition_57 (by decide) ?_
          exact SW.sub [0, 1, 2] rfl (hJ61 (1 : Int32) u_5)
        · refine sw_iconst (0 : Int32) dX6_condition_60 (by decide) ?_
          exact SW.sub [0, 1, 2] rfl (hJ61 (0 : Int32) u_5)
    · refine sw_icmp_eq 46 dX6_condition_33 (by decide) ?_ ?_
      · exact SW.sub [0, 1, 2] rfl (hJ46  u_2)
      · refine sw_aload_n 0 dX6_condition_36 rfl rfl ?_
        refine sw_callVi (As := []) (k := k) rfl dX6_condition_37 t_786 mf_X6_kind h0.1 q_cl6 (by omega) (Nat.le_of_ble_eq_true rfl) (fun l => c_X6_kind l k u_2 h0) (fun r_17 u_18 => ?_)
        refine sw_sipush (261 : Int32) dX6_condition_40 (by decide) ?_
        refine sw_icmp_ne 131 dX6_condition_43 (by decide) ?_ ?_
        · exact SW.sub [0, 1, 2] rfl (hJ46  u_18)
        · exact SW.sub [0, 2] rfl (hK131 x2 u_18)
set_option maxRecDepth 100000 in
theorem c_X6_condition_b (l : Launch) {ι : qI} {b : Nat} (k : Nat) (fr : Nat) (C S : Int32 → qS → qR) (hC : ∀ (l : Launch) (x : Int32) (u : qS), CN l yX6_condition cX6_condition 4 (some .boolean) (3 + fr) ι b [.ref (b + k), .int x] u (C x u)) (hS : ∀ (l : Launch) (x : Int32) (u : qS), CN l yX6_single cX6_single 4 (some .boolean) (3 + fr) ι b [.ref (b + k), .int x] u (S x u)) (x1 : Int32) (u : qS) (h0 : is_X6 ι k) : CN l yX6_condition cX6_condition 4 (some .boolean) (3 + (fr + 1)) ι b [.ref (b + k), .int x1] u (b_X6_condition k C S x1 u) := by
  refine CN.of_SW (own := RX6) rfl (by decide) (Nat.le_of_ble_eq_true rfl) [(0, .ref (b + k)), (1, .int x1)] rfl ?_
  unfold b_X6_condition
  refine sw_iconst (0 : Int32) dX6_condition_0 (by decide) ?_
  refine sw_istore_n (lv' := [(2, .int (0 : Int32)), (0, .ref (b + k)), (1, .int x1)]) dX6_condition_1 rfl (by decide) rfl ?_
  refine sw_aload_n 1 dX6_condition_2 rfl rfl ?_
  refine sw_iload_n 2 dX6_condition_3 rfl rfl ?_
  refine sw_callVi (As := [.int x1]) (k := k) rfl dX6_condition_4 t_819 mf_X6_single h0.1 q_cl6 (by omega) (Nat.le_of_ble_eq_true rfl) (fun l => hS l x1 u) (fun r u_1 => ?_)
  refine sw_if_ne 12 dX6_condition_7 (by decide) ?_ ?_
  · refine sw_iconst (0 : Int32) dX6_condition_10 (by decide) ?_
    exact sw_zret0 dX6_condition_11
  · refine SW.sub (lv' := [(0, .ref (b + k)), (1, .int x1), (2, .int (0 : Int32))]) [1, 2, 0] rfl ?_
    refine w_X6_condition_L12 k fr C S hC hS h0 x1 (fun u_19 => ?_) (fun x2 u_20 => ?_) q_F (0 : Int32) u_1
    · refine sw_iconst (0 : Int32) dX6_condition_112 (by decide) ?_
      exact sw_zret0 dX6_condition_113
    · refine sw_iload_n 1 dX6_condition_131 rfl rfl ?_
      refine sw_if_eq 145 dX6_condition_132 (by decide) ?_ ?_
      · refine sw_iconst (1 : Int32) dX6_condition_145 (by decide) ?_
        exact sw_zret1 dX6_condition_146
      · refine sw_aload_n 0 dX6_condition_135 rfl rfl ?_
        refine sw_getr q_cl6 3 (r := (k + 6)) dX6_condition_136 t_352 (by decide) h0.1 rfl ?_
        refine sw_bipush (11 : Int32) dX6_condition_139 (by decide) ?_
        refine sw_iconst (0 : Int32) dX6_condition_141 (by decide) ?_
        refine sw_callVv (As := [.int (11 : Int32), .int (0 : Int32)]) (k := (k + 6)) rfl dX6_condition_142 t_807 mf_X2_emit h0.2.2.1.1 q_cl2 (by omega) (Nat.le_of_ble_eq_true rfl) (fun l => c_X2_emit l (k + 6) (11 : Int32) (0 : Int32) u_20 h0.2.2.1) (fun _ u_21 => ?_)
        refine sw_iconst (1 : Int32) dX6_condition_145 (by decide) ?_
        exact sw_zret1 dX6_condition_146
set_option maxRecDepth 100000 in
theorem c_X6_single_b (l : Launch) {ι : qI} {b : Nat} (k : Nat) (fr : Nat) (C S : Int32 → qS → qR) (hC : ∀ (l : Launch) (x : Int32) (u : qS), CN l yX6_condition cX6_condition 4 (some .boolean) (3 + fr) ι b [.ref (b + k), .int x] u (C x u)) (hS : ∀ (l : Launch) (x : Int32) (u : qS), CN l yX6_single cX6_single 4 (some .boolean) (3 + fr) ι b [.ref (b + k), .int x] u (S x u)) (x1 : Int32) (u : qS) (h0 : is_X6 ι k) : CN l yX6_single cX6_single 4 (some .boolean) (3 + (fr + 1)) ι b [.ref (b + k), .int x1] u (b_X6_single k C S x1 u) := by
  refine CN.of_SW (own := RX6) rfl (by decide) (Nat.le_of_ble_eq_true rfl) [(0, .ref (b + k)), (1, .int x1)] rfl ?_
  unfold b_X6_single
  refine sw_aload_n 0 dX6_single_0 rfl rfl ?_
  refine sw_callVi (As := []) (k := k) rfl dX6_single_1 t_786 mf_X6_kind h0.1 q_cl6 (by omega) (Nat.le_of_ble_eq_true rfl) (fun l => c_X6_kind l k u h0) (fun r u_1 => ?_)
  refine sw_istore_n (lv' := [(2, .int r), (0, .ref (b + k)), (1, .int x1)]) dX6_single_4 rfl (by decide) rfl ?_
  refine sw_iload_n 0 dX6_single_5 rfl rfl ?_
  refine sw_sipush (262 : Int32) dX6_single_6 (by decide) ?_
  refine SW.jn0 18 ([(0, .ref (b + k)), (1, .int x1), (2, .int r)]) ([]) (fun  u_2 => ?_) (fun J18 hJ18 => ?_)
  · refine sw_iload_n 1 dX6_single_18 rfl rfl ?_
    refine sw_bipush (8 : Int32) dX6_single_19 (by decide) ?_
    refine sw_icmp_lt 30 dX6_single_21 (by decide) ?_ ?_
    · refine sw_aload_n 0 dX6_single_30 rfl rfl ?_
      refine sw_dup dX6_single_31 rfl ?_
      refine sw_geti q_cl6 6 dX6_single_32 t_355 (by decide) h0.1 rfl ?_
      refine sw_iconst (1 : Int32) dX6_single_35 (by decide) ?_
      refine sw_iadd dX6_single_36 ?_
      refine sw_puti q_cl6 6 dX6_single_37 t_355 (by decide) (by decide +kernel) rfl h0.1 rfl (fun u_3 => ?_)
      refine sw_iload_n 2 dX6_single_40 rfl rfl ?_
      refine sw_bipush (40 : Int32) dX6_single_41 (by decide) ?_
      refine sw_icmp_ne 71 dX6_single_43 (by decide) ?_ ?_
      · refine sw_aload_n 0 dX6_single_46 rfl rfl ?_
        refine sw_iload_n 1 dX6_single_47 rfl rfl ?_
        refine sw_iconst (1 : Int32) dX6_single_48 (by decide) ?_
        refine sw_iadd dX6_single_49 ?_
        refine sw_callVi (As := [.int (x1 + (1 : Int32))]) (k := k) rfl dX6_single_50 t_815 mf_X6_condition h0.1 q_cl6 (by omega) (Nat.le_of_ble_eq_true rfl) (fun l => hC l (x1 + (1 : Int32)) u_3) (fun r_7 u_8 => ?_)
        refine sw_if_eq 69 dX6_single_53 (by decide) ?_ ?_
        · refine sw_iconst (0 : Int32) dX6_single_69 (by decide) ?_
          exact sw_zret0 dX6_single_70
        · refine sw_aload_n 0 dX6_single_56 rfl rfl ?_
          refine sw_bipush (41 : Int32) dX6_single_57 (by decide) ?_
          refine sw_callVi (As := [.int (41 : Int32)]) (k := k) rfl dX6_single_59 t_823 mf_X6_takes h0.1 q_cl6 (by omega) (Nat.le_of_ble_eq_true rfl) (fun l => c_X6_takes l k (41 : Int32) u_8 h0) (fun r_9 u_10 => ?_)
          refine sw_if_eq 69 dX6_single_62 (by decide) ?_ ?_
          · refine sw_iconst (0 : Int32) dX6_single_69 (by decide) ?_
            exact sw_zret0 dX6_single_70
          · refine sw_iconst (1 : Int32) dX6_single_65 (by decide) ?_
            refine sw_goto 70 dX6_single_66 (by decide) ?_
            exact sw_zret1 dX6_single_70
      · refine sw_aload_n 0 dX6_single_71 rfl rfl ?_
        refine sw_iload_n 1 dX6_single_72 rfl rfl ?_
        refine sw_iconst (1 : Int32) dX6_single_73 (by decide) ?_
        refine sw_iadd dX6_single_74 ?_
        refine sw_callVi (As := [.int (x1 + (1 : Int32))]) (k := k) rfl dX6_single_75 t_819 mf_X6_single h0.1 q_cl6 (by omega) (Nat.le_of_ble_eq_true rfl) (fun l => hS l (x1 + (1 : Int32)) u_3) (fun r_4 u_5 => ?_)
        refine sw_if_ne 83 dX6_single_78 (by decide) ?_ ?_
        · refine sw_iconst (0 : Int32) dX6_single_81 (by decide) ?_
          exact sw_zret0 dX6_single_82
        · refine sw_aload_n 0 dX6_single_83 rfl rfl ?_
          refine sw_getr q_cl6 3 (r := (k + 6)) dX6_single_84 t_352 (by decide) h0.1 rfl ?_
          refine sw_iconst (3 : Int32) dX6_single_87 (by decide) ?_
          refine sw_iconst (0 : Int32) dX6_single_88 (by decide) ?_
          refine sw_callVv (As := [.int (3 : Int32), .int (0 : Int32)]) (k := (k + 6)) rfl dX6_single_89 t_807 mf_X2_emit h0.2.2.1.1 q_cl2 (by omega) (Nat.le_of_ble_eq_true rfl) (fun l => c_X2_emit l (k + 6) (3 : Int32) (0 : Int32) u_5 h0.2.2.1) (fun _ u_6 => ?_)
          refine sw_iconst (1 : Int32) dX6_single_92 (by decide) ?_
          exact sw_zret1 dX6_single_93
    · refine sw_aload_n 0 dX6_single_24 rfl rfl ?_
      refine sw_iconst (3 : Int32) dX6_single_25 (by decide) ?_
      refine sw_callVi (As := [.int (3 : Int32)]) (k := k) rfl dX6_single_26 t_795 mf_X6_fail h0.1 q_cl6 (by omega) (Nat.le_of_ble_eq_true rfl) (fun l => c_X6_fail l k (3 : Int32) u_2 h0) (fun r_11 u_12 => ?_)
      exact sw_zret dX6_single_29
  · refine sw_icmp_eq 18 dX6_single_9 (by decide) ?_ ?_
    · exact SW.sub [1, 2, 0] rfl (hJ18  u_1)
    · refine sw_iload_n 0 dX6_single_12 rfl rfl ?_
      refine sw_bipush (40 : Int32) dX6_single_13 (by decide) ?_
      refine sw_icmp_ne 94 dX6_single_15 (by decide) ?_ ?_
      · exact SW.sub [1, 2, 0] rfl (hJ18  u_1)
      · refine sw_aload_n 1 dX6_single_94 rfl rfl ?_
        refine sw_callVi (As := []) (k := k) rfl dX6_single_95 t_799 mf_X6_sum h0.1 q_cl6 (by omega) (Nat.le_of_ble_eq_true rfl) (fun l => c_X6_sum l k u_1 h0) (fun r_13 u_14 => ?_)
        refine sw_if_ne 103 dX6_single_98 (by decide) ?_ ?_
        · refine sw_iconst (0 : Int32) dX6_single_101 (by decide) ?_
          exact sw_zret0 dX6_single_102
        · refine sw_aload_n 1 dX6_single_103 rfl rfl ?_
          refine sw_callVi (As := []) (k := k) rfl dX6_single_104 t_786 mf_X6_kind h0.1 q_cl6 (by omega) (Nat.le_of_ble_eq_true rfl) (fun l => c_X6_kind l k u_14 h0) (fun r_15 u_16 => ?_)
          refine sw_istore_n (lv' := [(3, .int r_15), (2, .int r), (0, .ref (b + k)), (1, .int x1)]) dX6_single_107 rfl (by decide) rfl ?_
          refine sw_iload_n 0 dX6_single_108 rfl rfl ?_
          refine sw_bipush (60 : Int32) dX6_single_109 (by decide) ?_
          refine SW.jn0 132 ([(0, .ref (b + k)), (3, .int r_15)]) ([]) (fun  u_17 => ?_) (fun J132 hJ132 => ?_)
          · refine sw_aload_n 0 dX6_single_132 rfl rfl ?_
            refine sw_dup dX6_single_133 rfl ?_
            refine sw_geti q_cl6 6 dX6_single_134 t_355 (by decide) h0.1 rfl ?_
            refine sw_iconst (1 : Int32) dX6_single_137 (by decide) ?_
            refine sw_iadd dX6_single_138 ?_
            refine sw_puti q_cl6 6 dX6_single_139 t_355 (by decide) (by decide +kernel) rfl h0.1 rfl (fun u_18 => ?_)
            refine sw_aload_n 0 dX6_single_142 rfl rfl ?_
            refine sw_callVi (As := []) (k := k) rfl dX6_single_143 t_799 mf_X6_sum h0.1 q_cl6 (by omega) (Nat.le_of_ble_eq_true rfl) (fun l => c_X6_sum l k u_18 h0) (fun r_19 u_20 => ?_)
            refine sw_if_ne 151 dX6_single_146 (by decide) ?_ ?_
            · refine sw_iconst (0 : Int32) dX6_single_149 (by decide) ?_
              exact sw_zret0 dX6_single_150
            · refine sw_aload_n 0 dX6_single_151 rfl rfl ?_
              refine sw_getr q_cl6 3 (r := (k + 6)) dX6_single_152 t_352 (by decide) h0.1 rfl ?_
              refine sw_iload_n 1 dX6_single_155 rfl rfl ?_
              refine sw_bipush (60 : Int32) dX6_single_156 (by decide) ?_
              refine SW.jn1 179 (fun s0 => []) (fun s0 => [.int s0, .ref (b + (k + 6))]) (fun s0 u_21 => ?_) (fun J179 hJ179 => ?_)
              · refine sw_iconst (0 : Int32) dX6_single_179 (by decide) ?_
                refine sw_callVv (As := [.int s0, .int (0 : Int32)]) (k := (k + 6)) rfl dX6_single_180 t_807 mf_X2_emit h0.2.2.1.1 q_cl2 (by omega) (Nat.le_of_ble_eq_true rfl) (fun l => c_X2_emit l (k + 6) s0 (0 : Int32) u_21 h0.2.2.1) (fun _ u_22 => ?_)
                refine sw_iconst (1 : Int32) dX6_single_183 (by decide) ?_
                exact sw_zret1 dX6_single_184
              · refine sw_icmp_ne 166 dX6_single_158 (by decide) ?_ ?_
                · refine sw_bipush (7 : Int32) dX6_single_161 (by decide) ?_
                  refine sw_goto 179 dX6_single_163 (by decide) ?_
                  exact SW.sub [] rfl (hJ179 (7 : Int32) u_20)
                · refine sw_iload_n 1 dX6_single_166 rfl rfl ?_
                  refine sw_bipush (61 : Int32) dX6_single_167 (by decide) ?_
                  refine sw_icmp_ne 177 dX6_single_169 (by decide) ?_ ?_
                  · refine sw_bipush (8 : Int32) dX6_single_172 (by decide) ?_
                    refine sw_goto 179 dX6_single_174 (by decide) ?_
                    exact SW.sub [] rfl (hJ179 (8 : Int32) u_20)
                  · refine sw_bipush (9 : Int32) dX6_single_177 (by decide) ?_
                    exact SW.sub [] rfl (hJ179 (9 : Int32) u_20)
          · refine sw_icmp_eq 132 dX6_single_111 (by decide) ?_ ?_
            · exact SW.sub [2, 0] rfl (hJ132  u_16)
            · refine sw_iload_n 0 dX6_single_114 rfl rfl ?_
              refine sw_bipush (61 : Int32) dX6_single_115 (by decide) ?_
              refine sw_icmp_eq 132 dX6_single_117 (by decide) ?_ ?_
              · exact SW.sub [2, 0] rfl (hJ132  u_16)
              · refine sw_iload_n 0 dX6_single_120 rfl rfl ?_
                refine sw_bipush (62 : Int32) dX6_single_121 (by decide) ?_
                refine sw_icmp_eq 132 dX6_single_123 (by decide) ?_ ?_
                · exact SW.sub [2, 0] rfl (hJ132  u_16)
                · refine sw_aload_n 2 dX6_single_126 rfl rfl ?_
                  refine sw_iconst (1 : Int32) dX6_single_127 (by decide) ?_
                  refine sw_callVi (As := [.int (1 : Int32)]) (k := k) rfl dX6_single_128 t_795 mf_X6_fail h0.1 q_cl6 (by omega) (Nat.le_of_ble_eq_true rfl) (fun l => c_X6_fail l k (1 : Int32) u_16 h0) (fun r_23 u_24 => ?_)
                  exact sw_zret dX6_single_131
theorem c_X6_rec {ι : qI} {b : Nat} (k : Nat) (h0 : is_X6 ι k) (f : Nat) : (∀ (l : Launch) (x : Int32) (u : qS), CN l yX6_condition cX6_condition 4 (some .boolean) (3 + f) ι b [.ref (b + k), .int x] u ((m_X6_rec k f).1 x u)) ∧ (∀ (l : Launch) (x : Int32) (u : qS), CN l yX6_single cX6_single 4 (some .boolean) (3 + f) ι b [.ref (b + k), .int x] u ((m_X6_rec k f).2 x u)) := by
  induction f with
  | zero => exact ⟨fun _ _ _ h => absurd rfl h, fun _ _ _ h => absurd rfl h⟩
  | succ f ih => exact ⟨fun l x u => c_X6_condition_b l k f _ _ ih.1 ih.2 x u h0, fun l x u => c_X6_single_b l k f _ _ ih.1 ih.2 x u h0⟩
theorem c_X6_condition (l : Launch) {ι : qI} {b : Nat} (k : Nat) (x1 : Int32) (u : qS) (h0 : is_X6 ι k) : CN l yX6_condition cX6_condition 4 (some .boolean) 23 ι b [.ref (b + k), .int x1] u (m_X6_condition k x1 u) := (c_X6_rec k h0 20).1 l x1 u
theorem c_X6_single (l : Launch) {ι : qI} {b : Nat} (k : Nat) (x1 : Int32) (u : qS) (h0 : is_X6 ι k) : CN l yX6_single cX6_single 4 (some .boolean) 23 ι b [.ref (b + k), .int x1] u (m_X6_single k x1 u) := (c_X6_rec k h0 20).2 l x1 u
set_option maxRecDepth 100000 in
theorem c_X6_lawLine (l : Launch) {ι : qI} {b : Nat} (k : Nat) (x1 : Int32) (u : qS) (h0 : is_X6 ι k) : CN l yX6_lawLine cX6_lawLine 3 (some .boolean) 24 ι b [.ref (b + k), .int x1] u (m_X6_lawLine k x1 u) := by
  refine CN.of_SW (own := RX6) rfl (by decide) (Nat.le_of_ble_eq_true rfl) [(0, .ref (b + k)), (1, .int x1)] rfl ?_
  unfold m_X6_lawLine
  refine sw_aload_n 0 dX6_lawLine_0 rfl rfl ?_
  refine sw_callVi (As := []) (k := k) rfl dX6_lawLine_1 t_786 mf_X6_kind h0.1 q_cl6 (by decide) (Nat.le_of_ble_eq_true rfl) (fun l => c_X6_kind l k u h0) (fun r u_1 => ?_)
  refine sw_istore_n (lv' := [(2, .int r), (0, .ref (b + k)), (1, .int x1)]) dX6_lawLine_4 rfl (by decide) rfl ?_
  refine sw_iload_n 0 dX6_lawLine_5 rfl rfl ?_
  refine sw_sipush (256 : Int32) dX6_lawLine_6 (by decide) ?_
  refine sw_sipush (258 : Int32) dX6_lawLine_9 (by decide) ?_
  refine sw_callNi (As := [.int r, .int (256 : Int32), .int (258 : Int32)]) (host := "BallotFruit") rfl dX6_lawLine_12 (by decide +kernel) mf_X10_isWithin (by decide) (Nat.le_of_ble_eq_true rfl) (fun l => c_X10_isWithin l r (256 : Int32) (258 : Int32) u_1 ) (fun r_2 u_3 => ?_)
  refine sw_if_ne 24 dX6_lawLine_15 (by decide) ?_ ?_
  · refine sw_aload_n 1 dX6_lawLine_18 rfl rfl ?_
    refine sw_iconst (1 : Int32) dX6_lawLine_19 (by decide) ?_
    refine sw_callVi (As := [.int (1 : Int32)]) (k := k) rfl dX6_lawLine_20 t_795 mf_X6_fail h0.1 q_cl6 (by decide) (Nat.le_of_ble_eq_true rfl) (fun l => c_X6_fail l k (1 : Int32) u_3 h0) (fun r_21 u_22 => ?_)
    exact sw_zret dX6_lawLine_23
  · refine sw_iload_n 2 dX6_lawLine_24 rfl rfl ?_
    refine sw_bipush (16 : Int32) dX6_lawLine_25 (by decide) ?_
    refine sw_icmp_lt 36 dX6_lawLine_27 (by decide) ?_ ?_
    · refine sw_aload_n 1 dX6_lawLine_36 rfl rfl ?_
      refine sw_dup dX6_lawLine_37 rfl ?_
      refine sw_geti q_cl6 6 dX6_lawLine_38 t_355 (by decide) h0.1 rfl ?_
      refine sw_iconst (1 : Int32) dX6_lawLine_41 (by decide) ?_
      refine sw_iadd dX6_lawLine_42 ?_
      refine sw_puti q_cl6 6 dX6_lawLine_43 t_355 (by decide) (by decide +kernel) rfl h0.1 rfl (fun u_4 => ?_)
      refine sw_aload_n 1 dX6_lawLine_46 rfl rfl ?_
      refine sw_getr q_cl6 3 (r := (k + 6)) dX6_lawLine_47 t_352 (by decide) h0.1 rfl ?_
      refine sw_getr q_cl2 1 (r := (k + 7)) dX6_lawLine_50 t_155 (by decide) h0.2.2.1.1 rfl ?_
      refine sw_iload_n 2 dX6_lawLine_53 rfl rfl ?_
      refine sw_iload_n 0 dX6_lawLine_54 rfl rfl ?_
      refine sw_sipush (256 : Int32) dX6_lawLine_55 (by decide) ?_
      refine sw_isub dX6_lawLine_58 ?_
      refine sw_iast dX6_lawLine_59 h0.2.2.1.2.1 (fun u_5 => ?_)
      refine sw_aload_n 1 dX6_lawLine_60 rfl rfl ?_
      refine sw_getr q_cl6 3 (r := (k + 6)) dX6_lawLine_61 t_352 (by decide) h0.1 rfl ?_
      refine sw_getr q_cl2 2 (r := (k + 8)) dX6_lawLine_64 t_157 (by decide) h0.2.2.1.1 rfl ?_
      refine sw_iload_n 2 dX6_lawLine_67 rfl rfl ?_
      refine sw_aload_n 1 dX6_lawLine_68 rfl rfl ?_
      refine sw_getr q_cl6 3 (r := (k + 6)) dX6_lawLine_69 t_352 (by decide) h0.1 rfl ?_
      refine sw_geti q_cl2 5 dX6_lawLine_72 t_162 (by decide) h0.2.2.1.1 rfl ?_
      refine sw_iast dX6_lawLine_75 h0.2.2.1.2.2.1 (fun u_6 => ?_)
      refine sw_aload_n 1 dX6_lawLine_76 rfl rfl ?_
      refine sw_callVi (As := []) (k := k) rfl dX6_lawLine_77 t_799 mf_X6_sum h0.1 q_cl6 (by decide) (Nat.le_of_ble_eq_true rfl) (fun l => c_X6_sum l k u_6 h0) (fun r_7 u_8 => ?_)
      refine sw_if_ne 85 dX6_lawLine_80 (by decide) ?_ ?_
      · refine sw_iconst (0 : Int32) dX6_lawLine_83 (by decide) ?_
        exact sw_zret0 dX6_lawLine_84
      · refine sw_aload_n 1 dX6_lawLine_85 rfl rfl ?_
        refine sw_getr q_cl6 3 (r := (k + 6)) dX6_lawLine_86 t_352 (by decide) h0.1 rfl ?_
        refine sw_getr q_cl2 3 (r := (k + 9)) dX6_lawLine_89 t_159 (by decide) h0.2.2.1.1 rfl ?_
        refine sw_iload_n 2 dX6_lawLine_92 rfl rfl ?_
        refine sw_aload_n 1 dX6_lawLine_93 rfl rfl ?_
        refine sw_getr q_cl6 3 (r := (k + 6)) dX6_lawLine_94 t_352 (by decide) h0.1 rfl ?_
        refine sw_geti q_cl2 5 dX6_lawLine_97 t_162 (by decide) h0.2.2.1.1 rfl ?_
        refine sw_iast dX6_lawLine_100 h0.2.2.1.2.2.2.1 (fun u_9 => ?_)
        refine sw_aload_n 1 dX6_lawLine_101 rfl rfl ?_
        refine sw_callVi (As := []) (k := k) rfl dX6_lawLine_102 t_786 mf_X6_kind h0.1 q_cl6 (by decide) (Nat.le_of_ble_eq_true rfl) (fun l => c_X6_kind l k u_9 h0) (fun r_10 u_11 => ?_)
        refine sw_sipush (259 : Int32) dX6_lawLine_105 (by decide) ?_
        refine SW.jn0 131 ([(0, .ref (b + k))]) ([]) (fun  u_12 => ?_) (fun J131 hJ131 => ?_)
        · refine sw_aload_n 0 dX6_lawLine_131 rfl rfl ?_
          refine sw_getr q_cl6 3 (r := (k + 6)) dX6_lawLine_132 t_352 (by decide) h0.1 rfl ?_
          refine sw_dup dX6_lawLine_135 rfl ?_
          refine sw_geti q_cl2 0 dX6_lawLine_136 t_152 (by decide) h0.2.2.1.1 rfl ?_
          refine sw_iconst (1 : Int32) dX6_lawLine_139 (by decide) ?_
          refine sw_iadd dX6_lawLine_140 ?_
          refine sw_puti q_cl2 0 dX6_lawLine_141 t_152 (by decide) (by decide +kernel) rfl h0.2.2.1.1 rfl (fun u_13 => ?_)
          refine sw_aload_n 0 dX6_lawLine_144 rfl rfl ?_
          refine sw_bipush (59 : Int32) dX6_lawLine_145 (by decide) ?_
          refine sw_callVi (As := [.int (59 : Int32)]) (k := k) rfl dX6_lawLine_147 t_823 mf_X6_takes h0.1 q_cl6 (by decide) (Nat.le_of_ble_eq_true rfl) (fun l => c_X6_takes l k (59 : Int32) u_13 h0) (fun r_14 u_15 => ?_)
          exact sw_zret dX6_lawLine_150
        · refine sw_icmp_ne 131 dX6_lawLine_108 (by decide) ?_ ?_
          · refine sw_aload_n 1 dX6_lawLine_111 rfl rfl ?_
            refine sw_dup dX6_lawLine_112 rfl ?_
            refine sw_geti q_cl6 6 dX6_lawLine_113 t_355 (by decide) h0.1 rfl ?_
            refine sw_iconst (1 : Int32) dX6_lawLine_116 (by decide) ?_
            refine sw_iadd dX6_lawLine_117 ?_
            refine sw_puti q_cl6 6 dX6_lawLine_118 t_355 (by decide) (by decide +kernel) rfl h0.1 rfl (fun u_16 => ?_)
            refine sw_aload_n 1 dX6_lawLine_121 rfl rfl ?_
            refine sw_iconst (0 : Int32) dX6_lawLine_122 (by decide) ?_
            refine sw_callVi (As := [.int (0 : Int32)]) (k := k) rfl dX6_lawLine_123 t_815 mf_X6_condition h0.1 q_cl6 (by decide) (Nat.le_of_ble_eq_true rfl) (fun l => c_X6_condition l k (0 : Int32) u_16 h0) (fun r_17 u_18 => ?_)
            refine sw_if_ne 131 dX6_lawLine_126 (by decide) ?_ ?_
            · refine sw_iconst (0 : Int32) dX6_lawLine_129 (by decide) ?_
              exact sw_zret0 dX6_lawLine_130
            · exact SW.sub [1] rfl (hJ131  u_18)
          · exact SW.sub [1] rfl (hJ131  u_11)
    · refine sw_aload_n 1 dX6_lawLine_30 rfl rfl ?_
      refine sw_iconst (3 : Int32) dX6_lawLine_31 (by decide) ?_
      refine sw_callVi (As := [.int (3 : Int32)]) (k := k) rfl dX6_lawLine_32 t_795 mf_X6_fail h0.1 q_cl6 (by decide) (Nat.le_of_ble_eq_true rfl) (fun l => c_X6_fail l k (3 : Int32) u_3 h0) (fun r_19 u_20 => ?_)
      exact sw_zret dX6_lawLine_35
set_option maxRecDepth 100000 in
theorem c_X2_copyFrom (l : Launch) {ι : qI} {b : Nat} (k : Nat) (k1 : Nat)  (u : qS) (h0 : is_X2 ι k) (h1 : is_X2 ι k1) : CN l yX2_copyFrom cX2_copyFrom 2 none 1 ι b [.ref (b + k), .ref (b + k1)] u (m_X2_copyFrom k k1 u) := by
  refine CN.of_SW (own := RX2) rfl (by decide) (Nat.le_of_ble_eq_true rfl) [(0, .ref (b + k)), (1, .ref (b + k1))] rfl ?_
  unfold m_X2_copyFrom
  refine sw_aload_n 0 dX2_copyFrom_0 rfl rfl ?_
  refine sw_aload_n 1 dX2_copyFrom_1 rfl rfl ?_
  refine sw_geti q_cl2 0 dX2_copyFrom_2 t_151 (by decide) h1.1 rfl ?_
  refine sw_puti q_cl2 0 dX2_copyFrom_5 t_151 (by decide) (by decide +kernel) rfl h0.1 rfl (fun u_1 => ?_)
  refine sw_aload_n 0 dX2_copyFrom_8 rfl rfl ?_
  refine sw_aload_n 1 dX2_copyFrom_9 rfl rfl ?_
  refine sw_geti q_cl2 5 dX2_copyFrom_10 t_161 (by decide) h1.1 rfl ?_
  refine sw_puti q_cl2 5 dX2_copyFrom_13 t_161 (by decide) (by decide +kernel) rfl h0.1 rfl (fun u_2 => ?_)
  refine sw_aload_n 0 dX2_copyFrom_16 rfl rfl ?_
  refine sw_aload_n 1 dX2_copyFrom_17 rfl rfl ?_
  refine sw_geti q_cl2 6 dX2_copyFrom_18 t_163 (by decide) h1.1 rfl ?_
  refine sw_putz q_cl2 6 dX2_copyFrom_21 t_163 (by decide) (by decide +kernel) rfl h0.1 rfl (fun u_3 => ?_)
  refine sw_aload_n 1 dX2_copyFrom_24 rfl rfl ?_
  refine sw_getr q_cl2 1 (r := (k1 + 1)) dX2_copyFrom_25 t_154 (by decide) h1.1 rfl ?_
  refine sw_iconst (0 : Int32) dX2_copyFrom_28 (by decide) ?_
  refine sw_aload_n 0 dX2_copyFrom_29 rfl rfl ?_
  refine sw_getr q_cl2 1 (r := (k + 1)) dX2_copyFrom_30 t_154 (by decide) h0.1 rfl ?_
  refine sw_iconst (0 : Int32) dX2_copyFrom_33 (by decide) ?_
  refine sw_bipush (16 : Int32) dX2_copyFrom_34 (by decide) ?_
  refine sw_copy dX2_copyFrom_36 t_831 t_520 t_519 t_13 h1.2.1 h0.2.1 (by decide) (by decide) (by decide) (by decide +kernel) (fun u_4 => ?_)
  refine sw_aload_n 1 dX2_copyFrom_39 rfl rfl ?_
  refine sw_getr q_cl2 2 (r := (k1 + 2)) dX2_copyFrom_40 t_156 (by decide) h1.1 rfl ?_
  refine sw_iconst (0 : Int32) dX2_copyFrom_43 (by decide) ?_
  refine sw_aload_n 0 dX2_copyFrom_44 rfl rfl ?_
  refine sw_getr q_cl2 2 (r := (k + 2)) dX2_copyFrom_45 t_156 (by decide) h0.1 rfl ?_
  refine sw_iconst (0 : Int32) dX2_copyFrom_48 (by decide) ?_
  refine sw_bipush (17 : Int32) dX2_copyFrom_49 (by decide) ?_
  refine sw_copy dX2_copyFrom_51 t_831 t_520 t_519 t_13 h1.2.2.1 h0.2.2.1 (by decide) (by decide) (by decide) (by decide +kernel) (fun u_5 => ?_)
  refine sw_aload_n 1 dX2_copyFrom_54 rfl rfl ?_
  refine sw_getr q_cl2 3 (r := (k1 + 3)) dX2_copyFrom_55 t_158 (by decide) h1.1 rfl ?_
  refine sw_iconst (0 : Int32) dX2_copyFrom_58 (by decide) ?_
  refine sw_aload_n 0 dX2_copyFrom_59 rfl rfl ?_
  refine sw_getr q_cl2 3 (r := (k + 3)) dX2_copyFrom_60 t_158 (by decide) h0.1 rfl ?_
  refine sw_iconst (0 : Int32) dX2_copyFrom_63 (by decide) ?_
  refine sw_bipush (16 : Int32) dX2_copyFrom_64 (by decide) ?_
  refine sw_copy dX2_copyFrom_66 t_831 t_520 t_519 t_13 h1.2.2.2.1 h0.2.2.2.1 (by decide) (by decide) (by decide) (by decide +kernel) (fun u_6 => ?_)
  refine sw_aload_n 1 dX2_copyFrom_69 rfl rfl ?_
  refine sw_getr q_cl2 4 (r := (k1 + 4)) dX2_copyFrom_70 t_160 (by decide) h1.1 rfl ?_
  refine sw_iconst (0 : Int32) dX2_copyFrom_73 (by decide) ?_
  refine sw_aload_n 0 dX2_copyFrom_74 rfl rfl ?_
  refine sw_getr q_cl2 4 (r := (k + 4)) dX2_copyFrom_75 t_160 (by decide) h0.1 rfl ?_
  refine sw_iconst (0 : Int32) dX2_copyFrom_78 (by decide) ?_
  refine sw_sipush (400 : Int32) dX2_copyFrom_79 (by decide) ?_
  refine sw_copy dX2_copyFrom_82 t_831 t_520 t_519 t_13 h1.2.2.2.2.1 h0.2.2.2.2.1 (by decide) (by decide) (by decide) (by decide +kernel) (fun u_7 => ?_)
  exact sw_vret dX2_copyFrom_85
set_option maxRecDepth 100000 in
theorem w_X6_readLaw_L18 {ι : qI} {b : Nat} (k : Nat) (k1 : Nat) (h0 : is_X6 ι k) (h1 : is_X2 ι k1)  {K39 : qS → qR} {K47 : qS → qR} (hK39 : ∀  (u : qS), SW RX6 cX6_readLaw 3 (some .int) 25 ι b 39 [] [] u (K39  u)) (hK47 : ∀  (u : qS), SW RX6 cX6_readLaw 3 (some .int) 25 ι b 47 [(0, .ref (b + k)), (1, .ref (b + k1))] [] u (K47  u)) (fu : Nat) (x2 : Int32) (u : qS) : SW RX6 cX6_readLaw 3 (some .int) 25 ι b 18 [(0, .ref (b + k)), (1, .ref (b + k1)), (2, .int x2)] [] u (q_it1 (m_X6_readLaw_L18 k k1 K39 K47) fu x2 u) := by
  refine SW.it1 (fun x2 => [(0, .ref (b + k)), (1, .ref (b + k1)), (2, .int x2)]) (fun self ih x2 u => ?_) fu x2 u
  unfold m_X6_readLaw_L18
  refine sw_iload_n 2 dX6_readLaw_18 rfl rfl ?_
  refine sw_bipush (16 : Int32) dX6_readLaw_19 (by decide) ?_
  refine sw_icmp_gt 47 dX6_readLaw_21 (by decide) ?_ ?_
  · exact SW.sub [0, 1] rfl (hK47  u)
  · refine sw_aload_n 0 dX6_readLaw_24 rfl rfl ?_
    refine sw_callVi (As := []) (k := k) rfl dX6_readLaw_25 t_786 mf_X6_kind h0.1 q_cl6 (by decide) (Nat.le_of_ble_eq_true rfl) (fun l => c_X6_kind l k u h0) (fun r u_3 => ?_)
    refine sw_if_eq 47 dX6_readLaw_28 (by decide) ?_ ?_
    · exact SW.sub [0, 1] rfl (hK47  u_3)
    · refine sw_aload_n 0 dX6_readLaw_31 rfl rfl ?_
      refine sw_iload_n 2 dX6_readLaw_32 rfl rfl ?_
      refine sw_callVi (As := [.int x2]) (k := k) rfl dX6_readLaw_33 t_790 mf_X6_lawLine h0.1 q_cl6 (by decide) (Nat.le_of_ble_eq_true rfl) (fun l => c_X6_lawLine l k x2 u_3 h0) (fun r_4 u_5 => ?_)
      refine sw_if_ne 41 dX6_readLaw_36 (by decide) ?_ ?_
      · exact SW.sub [] rfl (hK39  u_5)
      · refine sw_iinc (lv' := [(2, .int (x2 + (1 : Int32))), (0, .ref (b + k)), (1, .ref (b + k1))]) 2 dX6_readLaw_41 rfl (congrArg (x2 + ·) (by decide)) (by decide) rfl ?_
        refine sw_goto 18 dX6_readLaw_44 (by decide) ?_
        exact SW.sub [1, 2, 0] rfl (ih (x2 + (1 : Int32)) u_5)
set_option maxRecDepth 100000 in
theorem c_X6_readLaw (l : Launch) {ι : qI} {b : Nat} (k : Nat) (k1 : Nat)  (u : qS) (h0 : is_X6 ι k) (h1 : is_X2 ι k1) : CN l yX6_readLaw cX6_readLaw 3 (some .int) 25 ι b [.ref (b + k), .ref (b + k1)] u (m_X6_readLaw k k1 u) := by
  refine CN.of_SW (own := RX6) rfl (by decide) (Nat.le_of_ble_eq_true rfl) [(0, .ref (b + k)), (1, .ref (b + k1))] rfl ?_
  unfold m_X6_readLaw
  refine sw_aload_n 0 dX6_readLaw_0 rfl rfl ?_
  refine sw_getr q_cl6 2 (r := (k + 1)) dX6_readLaw_1 t_350 (by decide) h0.1 rfl ?_
  refine sw_ldcS (i := 0) (by decide) rfl rfl dX6_readLaw_4 ?_
  refine sw_callVv (As := [.ref (ι.2.1 0)]) (k := (k + 1)) rfl dX6_readLaw_6 t_709 mf_X8_cut h0.2.1.1 q_cl8 (by decide) (Nat.le_of_ble_eq_true rfl) (fun l => c_X8_cut l (k + 1) 0 u h0.2.1 (by decide)) (fun _ u_1 => ?_)
  refine sw_aload_n 0 dX6_readLaw_9 rfl rfl ?_
  refine sw_getr q_cl6 3 (r := (k + 6)) dX6_readLaw_10 t_352 (by decide) h0.1 rfl ?_
  refine sw_callVv (As := []) (k := (k + 6)) rfl dX6_readLaw_13 t_782 mf_X2_clear h0.2.2.1.1 q_cl2 (by decide) (Nat.le_of_ble_eq_true rfl) (fun l => c_X2_clear l (k + 6) u_1 h0.2.2.1) (fun _ u_2 => ?_)
  refine sw_iconst (0 : Int32) dX6_readLaw_16 (by decide) ?_
  refine sw_istore_n (lv' := [(2, .int (0 : Int32)), (0, .ref (b + k)), (1, .ref (b + k1))]) dX6_readLaw_17 rfl (by decide) rfl ?_
  refine SW.sub (lv' := [(0, .ref (b + k)), (1, .ref (b + k1)), (2, .int (0 : Int32))]) [1, 2, 0] rfl ?_
  refine w_X6_readLaw_L18 k k1 h0 h1 (fun u_6 => ?_) (fun u_7 => ?_) q_F (0 : Int32) u_2
  · refine sw_iconst (-1 : Int32) dX6_readLaw_39 (by decide) ?_
    exact sw_iret dX6_readLaw_40
  · refine sw_aload_n 0 dX6_readLaw_47 rfl rfl ?_
    refine sw_getr q_cl6 3 (r := (k + 6)) dX6_readLaw_48 t_352 (by decide) h0.1 rfl ?_
    refine sw_getr q_cl2 2 (r := (k + 8)) dX6_readLaw_51 t_157 (by decide) h0.2.2.1.1 rfl ?_
    refine sw_aload_n 0 dX6_readLaw_54 rfl rfl ?_
    refine sw_getr q_cl6 3 (r := (k + 6)) dX6_readLaw_55 t_352 (by decide) h0.1 rfl ?_
    refine sw_geti q_cl2 0 dX6_readLaw_58 t_152 (by decide) h0.2.2.1.1 rfl ?_
    refine sw_aload_n 0 dX6_readLaw_61 rfl rfl ?_
    refine sw_getr q_cl6 3 (r := (k + 6)) dX6_readLaw_62 t_352 (by decide) h0.1 rfl ?_
    refine sw_geti q_cl2 5 dX6_readLaw_65 t_162 (by decide) h0.2.2.1.1 rfl ?_
    refine sw_iast dX6_readLaw_68 h0.2.2.1.2.2.1 (fun u_8 => ?_)
    refine sw_aload_n 1 dX6_readLaw_69 rfl rfl ?_
    refine sw_aload_n 0 dX6_readLaw_70 rfl rfl ?_
    refine sw_getr q_cl6 3 (r := (k + 6)) dX6_readLaw_71 t_352 (by decide) h0.1 rfl ?_
    refine sw_callVv (As := [.ref (b + (k + 6))]) (k := k1) rfl dX6_readLaw_74 t_827 mf_X2_copyFrom h1.1 q_cl2 (by decide) (Nat.le_of_ble_eq_true rfl) (fun l => c_X2_copyFrom l k1 (k + 6) u_8 h1 h0.2.2.1) (fun _ u_9 => ?_)
    refine sw_aload_n 0 dX6_readLaw_77 rfl rfl ?_
    refine sw_getr q_cl6 3 (r := (k + 6)) dX6_readLaw_78 t_352 (by decide) h0.1 rfl ?_
    refine sw_geti q_cl2 0 dX6_readLaw_81 t_152 (by decide) h0.2.2.1.1 rfl ?_
    exact sw_iret dX6_readLaw_84
set_option maxRecDepth 100000 in
theorem c_X4_clearPath (l : Launch) {ι : qI} {b : Nat} (k : Nat) (x1 : Int32) (u : qS) (h0 : is_X4 ι k) : CN l yX4_clearPath cX4_clearPath 2 none 1 ι b [.ref (b + k), .int x1] u (m_X4_clearPath k x1 u) := by
  refine CN.of_SW (own := RX4) rfl (by decide) (Nat.le_of_ble_eq_true rfl) [(0, .ref (b + k)), (1, .int x1)] rfl ?_
  unfold m_X4_clearPath
  refine sw_aload_n 0 dX4_clearPath_0 rfl rfl ?_
  refine sw_getr q_cl4 1 (r := (k + 1)) dX4_clearPath_1 t_196 (by decide) h0.1 rfl ?_
  refine sw_iload_n 1 dX4_clearPath_4 rfl rfl ?_
  refine sw_iconst (0 : Int32) dX4_clearPath_5 (by decide) ?_
  refine sw_iast dX4_clearPath_6 h0.2.1 (fun u_1 => ?_)
  refine sw_aload_n 0 dX4_clearPath_7 rfl rfl ?_
  refine sw_getr q_cl4 3 (r := (k + 3)) dX4_clearPath_8 t_200 (by decide) h0.1 rfl ?_
  refine sw_iload_n 1 dX4_clearPath_11 rfl rfl ?_
  refine sw_iconst (0 : Int32) dX4_clearPath_12 (by decide) ?_
  refine sw_iast dX4_clearPath_13 h0.2.2.2 (fun u_2 => ?_)
  exact sw_vret dX4_clearPath_14
set_option maxRecDepth 100000 in
theorem w_X4_clear_L7 {ι : qI} {b : Nat} (k : Nat) (h0 : is_X4 ι k)  {K24 : qS → qR} (hK24 : ∀  (u : qS), SW RX4 cX4_clear 2 none 2 ι b 24 [] [] u (K24  u)) (fu : Nat) (x1 : Int32) (u : qS) : SW RX4 cX4_clear 2 none 2 ι b 7 [(0, .ref (b + k)), (1, .int x1)] [] u (q_it1 (m_X4_clear_L7 k K24) fu x1 u) := by
  refine SW.it1 (fun x1 => [(0, .ref (b + k)), (1, .int x1)]) (fun self ih x1 u => ?_) fu x1 u
  unfold m_X4_clear_L7
  refine sw_iload_n 1 dX4_clear_7 rfl rfl ?_
  refine sw_bipush (10 : Int32) dX4_clear_8 (by decide) ?_
  refine sw_icmp_ge 24 dX4_clear_10 (by decide) ?_ ?_
  · exact SW.sub [] rfl (hK24  u)
  · refine sw_aload_n 0 dX4_clear_13 rfl rfl ?_
    refine sw_iload_n 1 dX4_clear_14 rfl rfl ?_
    refine sw_callVv (As := [.int x1]) (k := k) rfl dX4_clear_15 t_841 mf_X4_clearPath h0.1 q_cl4 (by decide) (Nat.le_of_ble_eq_true rfl) (fun l => c_X4_clearPath l k x1 u h0) (fun _ u_2 => ?_)
    refine sw_iinc (lv' := [(1, .int (x1 + (1 : Int32))), (0, .ref (b + k))]) 1 dX4_clear_18 rfl (congrArg (x1 + ·) (by decide)) (by decide) rfl ?_
    refine sw_goto 7 dX4_clear_21 (by decide) ?_
    exact SW.sub [1, 0] rfl (ih (x1 + (1 : Int32)) u_2)
set_option maxRecDepth 100000 in
theorem c_X4_clear (l : Launch) {ι : qI} {b : Nat} (k : Nat)  (u : qS) (h0 : is_X4 ι k) : CN l yX4_clear cX4_clear 2 none 2 ι b [.ref (b + k)] u (m_X4_clear k u) := by
  refine CN.of_SW (own := RX4) rfl (by decide) (Nat.le_of_ble_eq_true rfl) [(0, .ref (b + k))] rfl ?_
  unfold m_X4_clear
  refine sw_aload_n 0 dX4_clear_0 rfl rfl ?_
  refine sw_iconst (0 : Int32) dX4_clear_1 (by decide) ?_
  refine sw_puti q_cl4 0 dX4_clear_2 t_193 (by decide) (by decide +kernel) rfl h0.1 rfl (fun u_1 => ?_)
  refine sw_iconst (0 : Int32) dX4_clear_5 (by decide) ?_
  refine sw_istore_n (lv' := [(1, .int (0 : Int32)), (0, .ref (b + k))]) dX4_clear_6 rfl (by decide) rfl ?_
  refine SW.sub (lv' := [(0, .ref (b + k)), (1, .int (0 : Int32))]) [1, 0] rfl ?_
  refine w_X4_clear_L7 k h0 (fun u_3 => ?_) q_F (0 : Int32) u_1
  exact sw_vret dX4_clear_24
set_option maxRecDepth 100000 in
theorem c_X6_begins (l : Launch) {ι : qI} {b : Nat} (k : Nat) (x1 : Int32) (x2 : Int32) (u : qS) (h0 : is_X6 ι k) : CN l yX6_begins cX6_begins 3 (some .boolean) 3 ι b [.ref (b + k), .int x1, .int x2] u (m_X6_begins k x1 x2 u) := by
  refine CN.of_SW (own := RX6) rfl (by decide) (Nat.le_of_ble_eq_true rfl) [(0, .ref (b + k)), (1, .int x1), (2, .int x2)] rfl ?_
  unfold m_X6_begins
  refine sw_aload_n 0 dX6_begins_0 rfl rfl ?_
  refine sw_callVi (As := []) (k := k) rfl dX6_begins_1 t_786 mf_X6_kind h0.1 q_cl6 (by decide) (Nat.le_of_ble_eq_true rfl) (fun l => c_X6_kind l k u h0) (fun r u_1 => ?_)
  refine sw_iload_n 1 dX6_begins_4 rfl rfl ?_
  refine SW.jn0 20 ([(0, .ref (b + k)), (1, .int x1)]) ([]) (fun  u_2 => ?_) (fun J20 hJ20 => ?_)
  · refine sw_aload_n 0 dX6_begins_20 rfl rfl ?_
    refine sw_iload_n 1 dX6_begins_21 rfl rfl ?_
    refine sw_callVi (As := [.int x1]) (k := k) rfl dX6_begins_22 t_823 mf_X6_takes h0.1 q_cl6 (by decide) (Nat.le_of_ble_eq_true rfl) (fun l => c_X6_takes l k x1 u_2 h0) (fun r_3 u_4 => ?_)
    exact sw_zret dX6_begins_25
  · refine sw_icmp_ne 20 dX6_begins_5 (by decide) ?_ ?_
    · refine sw_iload_n 2 dX6_begins_8 rfl rfl ?_
      refine sw_bipush (16 : Int32) dX6_begins_9 (by decide) ?_
      refine sw_icmp_lt 20 dX6_begins_11 (by decide) ?_ ?_
      · exact SW.sub [0, 1] rfl (hJ20  u_1)
      · refine sw_aload_n 0 dX6_begins_14 rfl rfl ?_
        refine sw_iconst (3 : Int32) dX6_begins_15 (by decide) ?_
        refine sw_callVi (As := [.int (3 : Int32)]) (k := k) rfl dX6_begins_16 t_795 mf_X6_fail h0.1 q_cl6 (by decide) (Nat.le_of_ble_eq_true rfl) (fun l => c_X6_fail l k (3 : Int32) u_1 h0) (fun r_5 u_6 => ?_)
        exact sw_zret dX6_begins_19
    · exact SW.sub [0, 1] rfl (hJ20  u_1)
set_option maxRecDepth 100000 in
theorem c_X4_addStep (l : Launch) {ι : qI} {b : Nat} (k : Nat) (x1 : Int32) (x2 : Int32) (u : qS) (h0 : is_X4 ι k) : CN l yX4_addStep cX4_addStep 3 none 1 ι b [.ref (b + k), .int x1, .int x2] u (m_X4_addStep k x1 x2 u) := by
  refine CN.of_SW (own := RX4) rfl (by decide) (Nat.le_of_ble_eq_true rfl) [(0, .ref (b + k)), (1, .int x1), (2, .int x2)] rfl ?_
  unfold m_X4_addStep
  refine sw_aload_n 0 dX4_addStep_0 rfl rfl ?_
  refine sw_getr q_cl4 1 (r := (k + 1)) dX4_addStep_1 t_196 (by decide) h0.1 rfl ?_
  refine sw_iload_n 1 dX4_addStep_4 rfl rfl ?_
  refine sw_iald dX4_addStep_5 h0.2.1 (fun a => ?_)
  refine sw_bipush (8 : Int32) dX4_addStep_6 (by decide) ?_
  refine sw_icmp_ge 50 dX4_addStep_8 (by decide) ?_ ?_
  · exact sw_vret dX4_addStep_50
  · refine sw_aload_n 0 dX4_addStep_11 rfl rfl ?_
    refine sw_getr q_cl4 2 (r := (k + 2)) dX4_addStep_12 t_199 (by decide) h0.1 rfl ?_
    refine sw_iload_n 1 dX4_addStep_15 rfl rfl ?_
    refine sw_bipush (8 : Int32) dX4_addStep_16 (by decide) ?_
    refine sw_imul dX4_addStep_18 ?_
    refine sw_aload_n 0 dX4_addStep_19 rfl rfl ?_
    refine sw_getr q_cl4 1 (r := (k + 1)) dX4_addStep_20 t_196 (by decide) h0.1 rfl ?_
    refine sw_iload_n 1 dX4_addStep_23 rfl rfl ?_
    refine sw_iald dX4_addStep_24 h0.2.1 (fun a_1 => ?_)
    refine sw_iadd dX4_addStep_25 ?_
    refine sw_iload_n 2 dX4_addStep_26 rfl rfl ?_
    refine sw_iast dX4_addStep_27 h0.2.2.1 (fun u_2 => ?_)
    refine sw_aload_n 0 dX4_addStep_28 rfl rfl ?_
    refine sw_getr q_cl4 1 (r := (k + 1)) dX4_addStep_29 t_196 (by decide) h0.1 rfl ?_
    refine sw_iload_n 1 dX4_addStep_32 rfl rfl ?_
    refine sw_dup2 dX4_addStep_33 rfl rfl ?_
    refine sw_iald dX4_addStep_34 h0.2.1 (fun a_3 => ?_)
    refine sw_iconst (1 : Int32) dX4_addStep_35 (by decide) ?_
    refine sw_iadd dX4_addStep_36 ?_
    refine sw_iast dX4_addStep_37 h0.2.1 (fun u_4 => ?_)
    refine sw_aload_n 0 dX4_addStep_38 rfl rfl ?_
    refine sw_getr q_cl4 3 (r := (k + 3)) dX4_addStep_39 t_200 (by decide) h0.1 rfl ?_
    refine sw_iload_n 1 dX4_addStep_42 rfl rfl ?_
    refine sw_dup2 dX4_addStep_43 rfl rfl ?_
    refine sw_iald dX4_addStep_44 h0.2.2.2 (fun a_5 => ?_)
    refine sw_iconst (1 : Int32) dX4_addStep_45 (by decide) ?_
    refine sw_iload_n 2 dX4_addStep_46 rfl rfl ?_
    refine sw_ishl dX4_addStep_47 ?_
    refine sw_ior dX4_addStep_48 ?_
    refine sw_iast dX4_addStep_49 h0.2.2.2 (fun u_6 => ?_)
    exact sw_vret dX4_addStep_50
set_option maxRecDepth 100000 in
theorem w_X6_pathLine_L52 {ι : qI} {b : Nat} (k : Nat) (h0 : is_X6 ι k) (x2 : Int32) {K85 : qS → qR} {K93 : qS → qR} {K125 : qS → qR} (hK85 : ∀  (u : qS), SW RX6 cX6_pathLine 5 (some .boolean) 4 ι b 85 [] [] u (K85  u)) (hK93 : ∀  (u : qS), SW RX6 cX6_pathLine 5 (some .boolean) 4 ι b 93 [(0, .ref (b + k))] [] u (K93  u)) (hK125 : ∀  (u : qS), SW RX6 cX6_pathLine 5 (some .boolean) 4 ι b 125 [(0, .ref (b + k))] [] u (K125  u)) (fu : Nat) (x3 : Int32) (u : qS) : SW RX6 cX6_pathLine 5 (some .boolean) 4 ι b 52 [(0, .ref (b + k)), (2, .int x2), (3, .int x3)] [] u (q_it1 (m_X6_pathLine_L52 k x2 K85 K93 K125) fu x3 u) := by
  refine SW.it1 (fun x3 => [(0, .ref (b + k)), (2, .int x2), (3, .int x3)]) (fun self ih x3 u => ?_) fu x3 u
  unfold m_X6_pathLine_L52
  refine sw_iload_n 2 dX6_pathLine_52 rfl rfl ?_
  refine sw_bipush (8 : Int32) dX6_pathLine_53 (by decide) ?_
  refine sw_icmp_gt 125 dX6_pathLine_55 (by decide) ?_ ?_
  · exact SW.sub [0] rfl (hK125  u)
  · refine sw_iload_n 2 dX6_pathLine_58 rfl rfl ?_
    refine SW.jn0 70 ([(0, .ref (b + k)), (2, .int x2), (3, .int x3)]) ([]) (fun  u_7 => ?_) (fun J70 hJ70 => ?_)
    · refine sw_aload_n 0 dX6_pathLine_70 rfl rfl ?_
      refine sw_iconst (0 : Int32) dX6_pathLine_71 (by decide) ?_
      refine sw_bipush (9 : Int32) dX6_pathLine_72 (by decide) ?_
      refine sw_callVi (As := [.int (0 : Int32), .int (9 : Int32)]) (k := k) rfl dX6_pathLine_74 t_811 mf_X6_number h0.1 q_cl6 (by decide) (Nat.le_of_ble_eq_true rfl) (fun l => c_X6_number l k (0 : Int32) (9 : Int32) u_7 h0) (fun r u_8 => ?_)
      refine sw_istore (lv' := [(4, .int r), (0, .ref (b + k)), (2, .int x2), (3, .int x3)]) dX6_pathLine_77 (by decide) rfl ?_
      refine sw_iload 0 dX6_pathLine_79 rfl ?_
      refine sw_iconst (-1 : Int32) dX6_pathLine_81 (by decide) ?_
      refine sw_icmp_ne 87 dX6_pathLine_82 (by decide) ?_ ?_
      · exact SW.sub [] rfl (hK85  u_8)
      · refine sw_iload_n 3 dX6_pathLine_87 rfl rfl ?_
        refine sw_bipush (8 : Int32) dX6_pathLine_88 (by decide) ?_
        refine sw_icmp_ne 109 dX6_pathLine_90 (by decide) ?_ ?_
        · exact SW.sub [1] rfl (hK93  u_8)
        · refine sw_aload_n 1 dX6_pathLine_109 rfl rfl ?_
          refine sw_getr q_cl6 4 (r := (k + 13)) dX6_pathLine_110 t_353 (by decide) h0.1 rfl ?_
          refine sw_iload_n 2 dX6_pathLine_113 rfl rfl ?_
          refine sw_iload 0 dX6_pathLine_114 rfl ?_
          refine sw_callVv (As := [.int x2, .int r]) (k := (k + 13)) rfl dX6_pathLine_116 t_854 mf_X4_addStep h0.2.2.2.1.1 q_cl4 (by decide) (Nat.le_of_ble_eq_true rfl) (fun l => c_X4_addStep l (k + 13) x2 r u_8 h0.2.2.2.1) (fun _ u_9 => ?_)
          refine sw_iinc (lv' := [(3, .int (x3 + (1 : Int32))), (4, .int r), (0, .ref (b + k)), (2, .int x2)]) 3 dX6_pathLine_119 rfl (congrArg (x3 + ·) (by decide)) (by decide) rfl ?_
          refine sw_goto 52 dX6_pathLine_122 (by decide) ?_
          exact SW.sub [2, 3, 0] rfl (ih (x3 + (1 : Int32)) u_9)
    · refine sw_if_eq 70 dX6_pathLine_59 (by decide) ?_ ?_
      · exact SW.sub [0, 1, 2] rfl (hJ70  u)
      · refine sw_aload_n 0 dX6_pathLine_62 rfl rfl ?_
        refine sw_callVi (As := []) (k := k) rfl dX6_pathLine_63 t_786 mf_X6_kind h0.1 q_cl6 (by decide) (Nat.le_of_ble_eq_true rfl) (fun l => c_X6_kind l k u h0) (fun r_10 u_11 => ?_)
        refine sw_iconst (1 : Int32) dX6_pathLine_66 (by decide) ?_
        refine sw_icmp_ne 125 dX6_pathLine_67 (by decide) ?_ ?_
        · exact SW.sub [0, 1, 2] rfl (hJ70  u_11)
        · exact SW.sub [0] rfl (hK125  u_11)
set_option maxRecDepth 100000 in
theorem c_X6_pathLine (l : Launch) {ι : qI} {b : Nat} (k : Nat) (x1 : Int32) (u : qS) (h0 : is_X6 ι k) : CN l yX6_pathLine cX6_pathLine 5 (some .boolean) 4 ι b [.ref (b + k), .int x1] u (m_X6_pathLine k x1 u) := by
  refine CN.of_SW (own := RX6) rfl (by decide) (Nat.le_of_ble_eq_true rfl) [(0, .ref (b + k)), (1, .int x1)] rfl ?_
  unfold m_X6_pathLine
  refine sw_aload_n 0 dX6_pathLine_0 rfl rfl ?_
  refine sw_sipush (256 : Int32) dX6_pathLine_1 (by decide) ?_
  refine sw_iload_n 1 dX6_pathLine_4 rfl rfl ?_
  refine sw_callVi (As := [.int (256 : Int32), .int x1]) (k := k) rfl dX6_pathLine_5 t_849 mf_X6_begins h0.1 q_cl6 (by decide) (Nat.le_of_ble_eq_true rfl) (fun l => c_X6_begins l k (256 : Int32) x1 u h0) (fun r u_1 => ?_)
  refine sw_if_ne 13 dX6_pathLine_8 (by decide) ?_ ?_
  · refine sw_iconst (0 : Int32) dX6_pathLine_11 (by decide) ?_
    exact sw_zret0 dX6_pathLine_12
  · refine sw_aload_n 0 dX6_pathLine_13 rfl rfl ?_
    refine sw_iconst (0 : Int32) dX6_pathLine_14 (by decide) ?_
    refine sw_aload_n 0 dX6_pathLine_15 rfl rfl ?_
    refine sw_geti q_cl6 8 dX6_pathLine_16 t_357 (by decide) h0.1 rfl ?_
    refine sw_iconst (1 : Int32) dX6_pathLine_19 (by decide) ?_
    refine sw_isub dX6_pathLine_20 ?_
    refine sw_callVi (As := [.int (0 : Int32), .int ((u_1.1 k 8) - (1 : Int32))]) (k := k) rfl dX6_pathLine_21 t_811 mf_X6_number h0.1 q_cl6 (by decide) (Nat.le_of_ble_eq_true rfl) (fun l => c_X6_number l k (0 : Int32) ((u_1.1 k 8) - (1 : Int32)) u_1 h0) (fun r_2 u_3 => ?_)
    refine sw_istore_n (lv' := [(2, .int r_2), (0, .ref (b + k)), (1, .int x1)]) dX6_pathLine_24 rfl (by decide) rfl ?_
    refine sw_iload_n 0 dX6_pathLine_25 rfl rfl ?_
    refine sw_iconst (-1 : Int32) dX6_pathLine_26 (by decide) ?_
    refine sw_icmp_eq 40 dX6_pathLine_27 (by decide) ?_ ?_
    · refine sw_iconst (0 : Int32) dX6_pathLine_40 (by decide) ?_
      exact sw_zret0 dX6_pathLine_41
    · refine sw_aload_n 1 dX6_pathLine_30 rfl rfl ?_
      refine sw_sipush (257 : Int32) dX6_pathLine_31 (by decide) ?_
      refine sw_callVi (As := [.int (257 : Int32)]) (k := k) rfl dX6_pathLine_34 t_823 mf_X6_takes h0.1 q_cl6 (by decide) (Nat.le_of_ble_eq_true rfl) (fun l => c_X6_takes l k (257 : Int32) u_3 h0) (fun r_4 u_5 => ?_)
      refine sw_if_ne 42 dX6_pathLine_37 (by decide) ?_ ?_
      · refine sw_iconst (0 : Int32) dX6_pathLine_40 (by decide) ?_
        exact sw_zret0 dX6_pathLine_41
      · refine sw_aload_n 1 dX6_pathLine_42 rfl rfl ?_
        refine sw_getr q_cl6 4 (r := (k + 13)) dX6_pathLine_43 t_353 (by decide) h0.1 rfl ?_
        refine sw_iload_n 0 dX6_pathLine_46 rfl rfl ?_
        refine sw_callVv (As := [.int r_2]) (k := (k + 13)) rfl dX6_pathLine_47 t_853 mf_X4_clearPath h0.2.2.2.1.1 q_cl4 (by decide) (Nat.le_of_ble_eq_true rfl) (fun l => c_X4_clearPath l (k + 13) r_2 u_5 h0.2.2.2.1) (fun _ u_6 => ?_)
        refine sw_iconst (0 : Int32) dX6_pathLine_50 (by decide) ?_
        refine sw_istore_n (lv' := [(3, .int (0 : Int32)), (2, .int r_2), (0, .ref (b + k)), (1, .int x1)]) dX6_pathLine_51 rfl (by decide) rfl ?_
        refine SW.sub (lv' := [(0, .ref (b + k)), (2, .int r_2), (3, .int (0 : Int32))]) [2, 1, 0] rfl ?_
        refine w_X6_pathLine_L52 k h0 r_2 (fun u_12 => ?_) (fun u_13 => ?_) (fun u_17 => ?_) q_F (0 : Int32) u_6
        · refine sw_iconst (0 : Int32) dX6_pathLine_85 (by decide) ?_
          exact sw_zret0 dX6_pathLine_86
        · refine sw_aload_n 0 dX6_pathLine_93 rfl rfl ?_
          refine sw_dup dX6_pathLine_94 rfl ?_
          refine sw_geti q_cl6 6 dX6_pathLine_95 t_355 (by decide) h0.1 rfl ?_
          refine sw_iconst (1 : Int32) dX6_pathLine_98 (by decide) ?_
          refine sw_isub dX6_pathLine_99 ?_
          refine sw_puti q_cl6 6 dX6_pathLine_100 t_355 (by decide) (by decide +kernel) rfl h0.1 rfl (fun u_14 => ?_)
          refine sw_aload_n 0 dX6_pathLine_103 rfl rfl ?_
          refine sw_iconst (3 : Int32) dX6_pathLine_104 (by decide) ?_
          refine sw_callVi (As := [.int (3 : Int32)]) (k := k) rfl dX6_pathLine_105 t_795 mf_X6_fail h0.1 q_cl6 (by decide) (Nat.le_of_ble_eq_true rfl) (fun l => c_X6_fail l k (3 : Int32) u_14 h0) (fun r_15 u_16 => ?_)
          exact sw_zret dX6_pathLine_108
        · refine sw_aload_n 0 dX6_pathLine_125 rfl rfl ?_
          refine sw_getr q_cl6 4 (r := (k + 13)) dX6_pathLine_126 t_353 (by decide) h0.1 rfl ?_
          refine sw_dup dX6_pathLine_129 rfl ?_
          refine sw_geti q_cl4 0 dX6_pathLine_130 t_194 (by decide) h0.2.2.2.1.1 rfl ?_
          refine sw_iconst (1 : Int32) dX6_pathLine_133 (by decide) ?_
          refine sw_iadd dX6_pathLine_134 ?_
          refine sw_puti q_cl4 0 dX6_pathLine_135 t_194 (by decide) (by decide +kernel) rfl h0.2.2.2.1.1 rfl (fun u_18 => ?_)
          refine sw_aload_n 0 dX6_pathLine_138 rfl rfl ?_
          refine sw_bipush (59 : Int32) dX6_pathLine_139 (by decide) ?_
          refine sw_callVi (As := [.int (59 : Int32)]) (k := k) rfl dX6_pathLine_141 t_823 mf_X6_takes h0.1 q_cl6 (by decide) (Nat.le_of_ble_eq_true rfl) (fun l => c_X6_takes l k (59 : Int32) u_18 h0) (fun r_19 u_20 => ?_)
          exact sw_zret dX6_pathLine_144
set_option maxRecDepth 100000 in
theorem c_X4_copyFrom (l : Launch) {ι : qI} {b : Nat} (k : Nat) (k1 : Nat)  (u : qS) (h0 : is_X4 ι k) (h1 : is_X4 ι k1) : CN l yX4_copyFrom cX4_copyFrom 2 none 1 ι b [.ref (b + k), .ref (b + k1)] u (m_X4_copyFrom k k1 u) := by
  refine CN.of_SW (own := RX4) rfl (by decide) (Nat.le_of_ble_eq_true rfl) [(0, .ref (b + k)), (1, .ref (b + k1))] rfl ?_
  unfold m_X4_copyFrom
  refine sw_aload_n 0 dX4_copyFrom_0 rfl rfl ?_
  refine sw_aload_n 1 dX4_copyFrom_1 rfl rfl ?_
  refine sw_geti q_cl4 0 dX4_copyFrom_2 t_193 (by decide) h1.1 rfl ?_
  refine sw_puti q_cl4 0 dX4_copyFrom_5 t_193 (by decide) (by decide +kernel) rfl h0.1 rfl (fun u_1 => ?_)
  refine sw_aload_n 1 dX4_copyFrom_8 rfl rfl ?_
  refine sw_getr q_cl4 3 (r := (k1 + 3)) dX4_copyFrom_9 t_200 (by decide) h1.1 rfl ?_
  refine sw_iconst (0 : Int32) dX4_copyFrom_12 (by decide) ?_
  refine sw_aload_n 0 dX4_copyFrom_13 rfl rfl ?_
  refine sw_getr q_cl4 3 (r := (k + 3)) dX4_copyFrom_14 t_200 (by decide) h0.1 rfl ?_
  refine sw_iconst (0 : Int32) dX4_copyFrom_17 (by decide) ?_
  refine sw_bipush (10 : Int32) dX4_copyFrom_18 (by decide) ?_
  refine sw_copy dX4_copyFrom_20 t_862 t_520 t_519 t_13 h1.2.2.2 h0.2.2.2 (by decide) (by decide) (by decide) (by decide +kernel) (fun u_2 => ?_)
  refine sw_aload_n 1 dX4_copyFrom_23 rfl rfl ?_
  refine sw_getr q_cl4 1 (r := (k1 + 1)) dX4_copyFrom_24 t_196 (by decide) h1.1 rfl ?_
  refine sw_iconst (0 : Int32) dX4_copyFrom_27 (by decide) ?_
  refine sw_aload_n 0 dX4_copyFrom_28 rfl rfl ?_
  refine sw_getr q_cl4 1 (r := (k + 1)) dX4_copyFrom_29 t_196 (by decide) h0.1 rfl ?_
  refine sw_iconst (0 : Int32) dX4_copyFrom_32 (by decide) ?_
  refine sw_bipush (10 : Int32) dX4_copyFrom_33 (by decide) ?_
  refine sw_copy dX4_copyFrom_35 t_862 t_520 t_519 t_13 h1.2.1 h0.2.1 (by decide) (by decide) (by decide) (by decide +kernel) (fun u_3 => ?_)
  refine sw_aload_n 1 dX4_copyFrom_38 rfl rfl ?_
  refine sw_getr q_cl4 2 (r := (k1 + 2)) dX4_copyFrom_39 t_199 (by decide) h1.1 rfl ?_
  refine sw_iconst (0 : Int32) dX4_copyFrom_42 (by decide) ?_
  refine sw_aload_n 0 dX4_copyFrom_43 rfl rfl ?_
  refine sw_getr q_cl4 2 (r := (k + 2)) dX4_copyFrom_44 t_199 (by decide) h0.1 rfl ?_
  refine sw_iconst (0 : Int32) dX4_copyFrom_47 (by decide) ?_
  refine sw_bipush (80 : Int32) dX4_copyFrom_48 (by decide) ?_
  refine sw_copy dX4_copyFrom_50 t_862 t_520 t_519 t_13 h1.2.2.1 h0.2.2.1 (by decide) (by decide) (by decide) (by decide +kernel) (fun u_4 => ?_)
  exact sw_vret dX4_copyFrom_53
set_option maxRecDepth 100000 in
theorem w_X6_readPaths_L18 {ι : qI} {b : Nat} (k : Nat) (k1 : Nat) (h0 : is_X6 ι k) (h1 : is_X4 ι k1)  {K39 : qS → qR} {K47 : qS → qR} (hK39 : ∀  (u : qS), SW RX6 cX6_readPaths 3 (some .int) 7 ι b 39 [] [] u (K39  u)) (hK47 : ∀  (u : qS), SW RX6 cX6_readPaths 3 (some .int) 7 ι b 47 [(0, .ref (b + k)), (1, .ref (b + k1))] [] u (K47  u)) (fu : Nat) (x2 : Int32) (u : qS) : SW RX6 cX6_readPaths 3 (some .int) 7 ι b 18 [(0, .ref (b + k)), (1, .ref (b + k1)), (2, .int x2)] [] u (q_it1 (m_X6_readPaths_L18 k k1 K39 K47) fu x2 u) := by
  refine SW.it1 (fun x2 => [(0, .ref (b + k)), (1, .ref (b + k1)), (2, .int x2)]) (fun self ih x2 u => ?_) fu x2 u
  unfold m_X6_readPaths_L18
  refine sw_iload_n 2 dX6_readPaths_18 rfl rfl ?_
  refine sw_bipush (16 : Int32) dX6_readPaths_19 (by decide) ?_
  refine sw_icmp_gt 47 dX6_readPaths_21 (by decide) ?_ ?_
  · exact SW.sub [0, 1] rfl (hK47  u)
  · refine sw_aload_n 0 dX6_readPaths_24 rfl rfl ?_
    refine sw_callVi (As := []) (k := k) rfl dX6_readPaths_25 t_786 mf_X6_kind h0.1 q_cl6 (by decide) (Nat.le_of_ble_eq_true rfl) (fun l => c_X6_kind l k u h0) (fun r u_3 => ?_)
    refine sw_if_eq 47 dX6_readPaths_28 (by decide) ?_ ?_
    · exact SW.sub [0, 1] rfl (hK47  u_3)
    · refine sw_aload_n 0 dX6_readPaths_31 rfl rfl ?_
      refine sw_iload_n 2 dX6_readPaths_32 rfl rfl ?_
      refine sw_callVi (As := [.int x2]) (k := k) rfl dX6_readPaths_33 t_845 mf_X6_pathLine h0.1 q_cl6 (by decide) (Nat.le_of_ble_eq_true rfl) (fun l => c_X6_pathLine l k x2 u_3 h0) (fun r_4 u_5 => ?_)
      refine sw_if_ne 41 dX6_readPaths_36 (by decide) ?_ ?_
      · exact SW.sub [] rfl (hK39  u_5)
      · refine sw_iinc (lv' := [(2, .int (x2 + (1 : Int32))), (0, .ref (b + k)), (1, .ref (b + k1))]) 2 dX6_readPaths_41 rfl (congrArg (x2 + ·) (by decide)) (by decide) rfl ?_
        refine sw_goto 18 dX6_readPaths_44 (by decide) ?_
        exact SW.sub [1, 2, 0] rfl (ih (x2 + (1 : Int32)) u_5)
set_option maxRecDepth 100000 in
theorem c_X6_readPaths (l : Launch) {ι : qI} {b : Nat} (k : Nat) (k1 : Nat)  (u : qS) (h0 : is_X6 ι k) (h1 : is_X4 ι k1) : CN l yX6_readPaths cX6_readPaths 3 (some .int) 7 ι b [.ref (b + k), .ref (b + k1)] u (m_X6_readPaths k k1 u) := by
  refine CN.of_SW (own := RX6) rfl (by decide) (Nat.le_of_ble_eq_true rfl) [(0, .ref (b + k)), (1, .ref (b + k1))] rfl ?_
  unfold m_X6_readPaths
  refine sw_aload_n 0 dX6_readPaths_0 rfl rfl ?_
  refine sw_getr q_cl6 2 (r := (k + 1)) dX6_readPaths_1 t_350 (by decide) h0.1 rfl ?_
  refine sw_ldcS (i := 1) (by decide) rfl rfl dX6_readPaths_4 ?_
  refine sw_callVv (As := [.ref (ι.2.1 1)]) (k := (k + 1)) rfl dX6_readPaths_6 t_709 mf_X8_cut h0.2.1.1 q_cl8 (by decide) (Nat.le_of_ble_eq_true rfl) (fun l => c_X8_cut l (k + 1) 1 u h0.2.1 (by decide)) (fun _ u_1 => ?_)
  refine sw_aload_n 0 dX6_readPaths_9 rfl rfl ?_
  refine sw_getr q_cl6 4 (r := (k + 13)) dX6_readPaths_10 t_353 (by decide) h0.1 rfl ?_
  refine sw_callVv (As := []) (k := (k + 13)) rfl dX6_readPaths_13 t_837 mf_X4_clear h0.2.2.2.1.1 q_cl4 (by decide) (Nat.le_of_ble_eq_true rfl) (fun l => c_X4_clear l (k + 13) u_1 h0.2.2.2.1) (fun _ u_2 => ?_)
  refine sw_iconst (0 : Int32) dX6_readPaths_16 (by decide) ?_
  refine sw_istore_n (lv' := [(2, .int (0 : Int32)), (0, .ref (b + k)), (1, .ref (b + k1))]) dX6_readPaths_17 rfl (by decide) rfl ?_
  refine SW.sub (lv' := [(0, .ref (b + k)), (1, .ref (b + k1)), (2, .int (0 : Int32))]) [1, 2, 0] rfl ?_
  refine w_X6_readPaths_L18 k k1 h0 h1 (fun u_6 => ?_) (fun u_7 => ?_) q_F (0 : Int32) u_2
  · refine sw_iconst (-1 : Int32) dX6_readPaths_39 (by decide) ?_
    exact sw_iret dX6_readPaths_40
  · refine sw_aload_n 1 dX6_readPaths_47 rfl rfl ?_
    refine sw_aload_n 0 dX6_readPaths_48 rfl rfl ?_
    refine sw_getr q_cl6 4 (r := (k + 13)) dX6_readPaths_49 t_353 (by decide) h0.1 rfl ?_
    refine sw_callVv (As := [.ref (b + (k + 13))]) (k := k1) rfl dX6_readPaths_52 t_858 mf_X4_copyFrom h1.1 q_cl4 (by decide) (Nat.le_of_ble_eq_true rfl) (fun l => c_X4_copyFrom l k1 (k + 13) u_7 h1 h0.2.2.2.1) (fun _ u_8 => ?_)
    refine sw_aload_n 0 dX6_readPaths_55 rfl rfl ?_
    refine sw_getr q_cl6 4 (r := (k + 13)) dX6_readPaths_56 t_353 (by decide) h0.1 rfl ?_
    refine sw_geti q_cl4 0 dX6_readPaths_59 t_194 (by decide) h0.2.2.2.1.1 rfl ?_
    exact sw_iret dX6_readPaths_62
set_option maxRecDepth 100000 in
theorem c_X6_planLine (l : Launch) {ι : qI} {b : Nat} (k : Nat) (x1 : Int32) (u : qS) (h0 : is_X6 ι k) : CN l yX6_planLine cX6_planLine 5 (some .boolean) 4 ι b [.ref (b + k), .int x1] u (m_X6_planLine k x1 u) := by
  refine CN.of_SW (own := RX6) rfl (by decide) (Nat.le_of_ble_eq_true rfl) [(0, .ref (b + k)), (1, .int x1)] rfl ?_
  unfold m_X6_planLine
  refine sw_aload_n 0 dX6_planLine_0 rfl rfl ?_
  refine sw_sipush (256 : Int32) dX6_planLine_1 (by decide) ?_
  refine sw_iload_n 1 dX6_planLine_4 rfl rfl ?_
  refine sw_callVi (As := [.int (256 : Int32), .int x1]) (k := k) rfl dX6_planLine_5 t_849 mf_X6_begins h0.1 q_cl6 (by decide) (Nat.le_of_ble_eq_true rfl) (fun l => c_X6_begins l k (256 : Int32) x1 u h0) (fun r u_1 => ?_)
  refine sw_if_ne 13 dX6_planLine_8 (by decide) ?_ ?_
  · refine sw_iconst (0 : Int32) dX6_planLine_11 (by decide) ?_
    exact sw_zret0 dX6_planLine_12
  · refine sw_aload_n 0 dX6_planLine_13 rfl rfl ?_
    refine sw_getr q_cl6 5 (r := (k + 17)) dX6_planLine_14 t_354 (by decide) h0.1 rfl ?_
    refine sw_getr q_cl5 1 (r := (k + 18)) dX6_planLine_17 t_223 (by decide) h0.2.2.2.2.1 rfl ?_
    refine sw_iload_n 1 dX6_planLine_20 rfl rfl ?_
    refine sw_aload_n 0 dX6_planLine_21 rfl rfl ?_
    refine sw_iconst (0 : Int32) dX6_planLine_22 (by decide) ?_
    refine sw_sipush (999 : Int32) dX6_planLine_23 (by decide) ?_
    refine sw_callVi (As := [.int (0 : Int32), .int (999 : Int32)]) (k := k) rfl dX6_planLine_26 t_811 mf_X6_number h0.1 q_cl6 (by decide) (Nat.le_of_ble_eq_true rfl) (fun l => c_X6_number l k (0 : Int32) (999 : Int32) u_1 h0) (fun r_2 u_3 => ?_)
    refine sw_iast dX6_planLine_29 h0.2.2.2.2.2.1 (fun u_4 => ?_)
    refine sw_aload_n 0 dX6_planLine_30 rfl rfl ?_
    refine sw_getr q_cl6 5 (r := (k + 17)) dX6_planLine_31 t_354 (by decide) h0.1 rfl ?_
    refine sw_getr q_cl5 1 (r := (k + 18)) dX6_planLine_34 t_223 (by decide) h0.2.2.2.2.1 rfl ?_
    refine sw_iload_n 1 dX6_planLine_37 rfl rfl ?_
    refine sw_iald dX6_planLine_38 h0.2.2.2.2.2.1 (fun a => ?_)
    refine sw_iconst (-1 : Int32) dX6_planLine_39 (by decide) ?_
    refine sw_icmp_ne 45 dX6_planLine_40 (by decide) ?_ ?_
    · refine sw_iconst (0 : Int32) dX6_planLine_43 (by decide) ?_
      exact sw_zret0 dX6_planLine_44
    · refine sw_aload_n 0 dX6_planLine_45 rfl rfl ?_
      refine sw_callVi (As := []) (k := k) rfl dX6_planLine_46 t_786 mf_X6_kind h0.1 q_cl6 (by decide) (Nat.le_of_ble_eq_true rfl) (fun l => c_X6_kind l k u_4 h0) (fun r_5 u_6 => ?_)
      refine sw_istore_n (lv' := [(2, .int r_5), (0, .ref (b + k)), (1, .int x1)]) dX6_planLine_49 rfl (by decide) rfl ?_
      refine sw_iload_n 0 dX6_planLine_50 rfl rfl ?_
      refine sw_sipush (257 : Int32) dX6_planLine_51 (by decide) ?_
      refine sw_sipush (262 : Int32) dX6_planLine_54 (by decide) ?_
      refine sw_callNi (As := [.int r_5, .int (257 : Int32), .int (262 : Int32)]) (host := "BallotFruit") rfl dX6_planLine_57 (by decide +kernel) mf_X10_isWithin (by decide) (Nat.le_of_ble_eq_true rfl) (fun l => c_X10_isWithin l r_5 (257 : Int32) (262 : Int32) u_6 ) (fun r_7 u_8 => ?_)
      refine SW.jn0 70 ([(0, .ref (b + k))]) ([]) (fun  u_9 => ?_) (fun J70 hJ70 => ?_)
      · refine sw_aload_n 0 dX6_planLine_70 rfl rfl ?_
        refine sw_iconst (1 : Int32) dX6_planLine_71 (by decide) ?_
        refine sw_callVi (As := [.int (1 : Int32)]) (k := k) rfl dX6_planLine_72 t_795 mf_X6_fail h0.1 q_cl6 (by decide) (Nat.le_of_ble_eq_true rfl) (fun l => c_X6_fail l k (1 : Int32) u_9 h0) (fun r_10 u_11 => ?_)
        exact sw_zret dX6_planLine_75
      · refine sw_if_eq 70 dX6_planLine_60 (by decide) ?_ ?_
        · exact SW.sub [1] rfl (hJ70  u_8)
        · refine sw_iload_n 0 dX6_planLine_63 rfl rfl ?_
          refine sw_sipush (258 : Int32) dX6_planLine_64 (by decide) ?_
          refine sw_icmp_ne 76 dX6_planLine_67 (by decide) ?_ ?_
          · exact SW.sub [1] rfl (hJ70  u_8)
          · refine sw_aload_n 1 dX6_planLine_76 rfl rfl ?_
            refine sw_dup dX6_planLine_77 rfl ?_
            refine sw_geti q_cl6 6 dX6_planLine_78 t_355 (by decide) h0.1 rfl ?_
            refine sw_iconst (1 : Int32) dX6_planLine_81 (by decide) ?_
            refine sw_iadd dX6_planLine_82 ?_
            refine sw_puti q_cl6 6 dX6_planLine_83 t_355 (by decide) (by decide +kernel) rfl h0.1 rfl (fun u_12 => ?_)
            refine sw_iload_n 0 dX6_planLine_86 rfl rfl ?_
            refine sw_sipush (257 : Int32) dX6_planLine_87 (by decide) ?_
            refine SW.jn1 105 (fun s0 => [(0, .ref (b + k)), (1, .int x1), (2, .int r_5)]) (fun s0 => [.int s0]) (fun s0 u_13 => ?_) (fun J105 hJ105 => ?_)
            · refine sw_istore_n (lv' := [(3, .int s0), (0, .ref (b + k)), (1, .int x1), (2, .int r_5)]) dX6_planLine_105 rfl (by decide) rfl ?_
              refine sw_iload_n 0 dX6_planLine_106 rfl rfl ?_
              refine SW.jn1 137 (fun s0_14 => [(0, .ref (b + k)), (1, .int x1), (2, .int r_5), (3, .int s0)]) (fun s0_14 => [.int s0_14]) (fun s0_14 u_15 => ?_) (fun J137 hJ137 => ?_)
              · refine sw_istore (lv' := [(4, .int s0_14), (0, .ref (b + k)), (1, .int x1), (2, .int r_5), (3, .int s0)]) dX6_planLine_137 (by decide) rfl ?_
                refine sw_aload_n 1 dX6_planLine_139 rfl rfl ?_
                refine sw_getr q_cl6 5 (r := (k + 17)) dX6_planLine_140 t_354 (by decide) h0.1 rfl ?_
                refine sw_getr q_cl5 2 (r := (k + 19)) dX6_planLine_143 t_226 (by decide) h0.2.2.2.2.1 rfl ?_
                refine sw_iload_n 2 dX6_planLine_146 rfl rfl ?_
                refine sw_iload_n 3 dX6_planLine_147 rfl rfl ?_
                refine sw_iast dX6_planLine_148 h0.2.2.2.2.2.2.1 (fun u_16 => ?_)
                refine sw_aload_n 1 dX6_planLine_149 rfl rfl ?_
                refine sw_getr q_cl6 5 (r := (k + 17)) dX6_planLine_150 t_354 (by decide) h0.1 rfl ?_
                refine sw_getr q_cl5 3 (r := (k + 20)) dX6_planLine_153 t_229 (by decide) h0.2.2.2.2.1 rfl ?_
                refine sw_iload_n 2 dX6_planLine_156 rfl rfl ?_
                refine sw_aload_n 1 dX6_planLine_157 rfl rfl ?_
                refine sw_iconst (0 : Int32) dX6_planLine_158 (by decide) ?_
                refine sw_iload 0 dX6_planLine_159 rfl ?_
                refine sw_callVi (As := [.int (0 : Int32), .int s0_14]) (k := k) rfl dX6_planLine_161 t_811 mf_X6_number h0.1 q_cl6 (by decide) (Nat.le_of_ble_eq_true rfl) (fun l => c_X6_number l k (0 : Int32) s0_14 u_16 h0) (fun r_17 u_18 => ?_)
                refine sw_iast dX6_planLine_164 h0.2.2.2.2.2.2.2.1 (fun u_19 => ?_)
                refine sw_aload_n 1 dX6_planLine_165 rfl rfl ?_
                refine sw_getr q_cl6 5 (r := (k + 17)) dX6_planLine_166 t_354 (by decide) h0.1 rfl ?_
                refine sw_getr q_cl5 3 (r := (k + 20)) dX6_planLine_169 t_229 (by decide) h0.2.2.2.2.1 rfl ?_
                refine sw_iload_n 2 dX6_planLine_172 rfl rfl ?_
                refine sw_iald dX6_planLine_173 h0.2.2.2.2.2.2.2.1 (fun a_20 => ?_)
                refine sw_iconst (-1 : Int32) dX6_planLine_174 (by decide) ?_
                refine sw_icmp_eq 195 dX6_planLine_175 (by decide) ?_ ?_
                · refine sw_iconst (0 : Int32) dX6_planLine_195 (by decide) ?_
                  exact sw_zret0 dX6_planLine_196
                · refine sw_iload_n 3 dX6_planLine_178 rfl rfl ?_
                  refine sw_sipush (257 : Int32) dX6_planLine_179 (by decide) ?_
                  refine SW.jn0 197 ([(0, .ref (b + k)), (1, .int x1), (2, .int r_5), (3, .int s0)]) ([]) (fun  u_21 => ?_) (fun J197 hJ197 => ?_)
                  · refine sw_aload_n 0 dX6_planLine_197 rfl rfl ?_
                    refine sw_getr q_cl6 5 (r := (k + 17)) dX6_planLine_198 t_354 (by decide) h0.1 rfl ?_
                    refine sw_getr q_cl5 4 (r := (k + 21)) dX6_planLine_201 t_232 (by decide) h0.2.2.2.2.1 rfl ?_
                    refine sw_iload_n 1 dX6_planLine_204 rfl rfl ?_
                    refine sw_iconst (0 : Int32) dX6_planLine_205 (by decide) ?_
                    refine sw_iast dX6_planLine_206 h0.2.2.2.2.2.2.2.2 (fun u_22 => ?_)
                    refine sw_iload_n 3 dX6_planLine_207 rfl rfl ?_
                    refine SW.jn0 244 ([(0, .ref (b + k)), (1, .int x1)]) ([]) (fun  u_23 => ?_) (fun J244 hJ244 => ?_)
                    · refine sw_aload_n 0 dX6_planLine_244 rfl rfl ?_
                      refine sw_getr q_cl6 5 (r := (k + 17)) dX6_planLine_245 t_354 (by decide) h0.1 rfl ?_
                      refine sw_dup dX6_planLine_248 rfl ?_
                      refine sw_geti q_cl5 0 dX6_planLine_249 t_219 (by decide) h0.2.2.2.2.1 rfl ?_
                      refine sw_iconst (1 : Int32) dX6_planLine_252 (by decide) ?_
                      refine sw_iadd dX6_planLine_253 ?_
                      refine sw_puti q_cl5 0 dX6_planLine_254 t_219 (by decide) (by decide +kernel) rfl h0.2.2.2.2.1 rfl (fun u_24 => ?_)
                      refine sw_aload_n 0 dX6_planLine_257 rfl rfl ?_
                      refine sw_getr q_cl6 5 (r := (k + 17)) dX6_planLine_258 t_354 (by decide) h0.1 rfl ?_
                      refine sw_getr q_cl5 4 (r := (k + 21)) dX6_planLine_261 t_232 (by decide) h0.2.2.2.2.1 rfl ?_
                      refine sw_iload_n 1 dX6_planLine_264 rfl rfl ?_
                      refine sw_iald dX6_planLine_265 h0.2.2.2.2.2.2.2.2 (fun a_25 => ?_)
                      refine sw_iconst (-1 : Int32) dX6_planLine_266 (by decide) ?_
                      refine sw_icmp_eq 283 dX6_planLine_267 (by decide) ?_ ?_
                      · refine sw_iconst (0 : Int32) dX6_planLine_283 (by decide) ?_
                        exact sw_zret0 dX6_planLine_284
                      · refine sw_aload_n 0 dX6_planLine_270 rfl rfl ?_
                        refine sw_bipush (59 : Int32) dX6_planLine_271 (by decide) ?_
                        refine sw_callVi (As := [.int (59 : Int32)]) (k := k) rfl dX6_planLine_273 t_823 mf_X6_takes h0.1 q_cl6 (by decide) (Nat.le_of_ble_eq_true rfl) (fun l => c_X6_takes l k (59 : Int32) u_24 h0) (fun r_26 u_27 => ?_)
                        refine sw_if_eq 283 dX6_planLine_276 (by decide) ?_ ?_
                        · refine sw_iconst (0 : Int32) dX6_planLine_283 (by decide) ?_
                          exact sw_zret0 dX6_planLine_284
                        · refine sw_iconst (1 : Int32) dX6_planLine_279 (by decide) ?_
                          refine sw_goto 284 dX6_planLine_280 (by decide) ?_
                          exact sw_zret1 dX6_planLine_284
                    · refine sw_if_eq 244 dX6_planLine_208 (by decide) ?_ ?_
                      · exact SW.sub [0, 1] rfl (hJ244  u_22)
                      · refine sw_aload_n 0 dX6_planLine_211 rfl rfl ?_
                        refine sw_getr q_cl6 5 (r := (k + 17)) dX6_planLine_212 t_354 (by decide) h0.1 rfl ?_
                        refine sw_getr q_cl5 4 (r := (k + 21)) dX6_planLine_215 t_232 (by decide) h0.2.2.2.2.1 rfl ?_
                        refine sw_iload_n 1 dX6_planLine_218 rfl rfl ?_
                        refine sw_iload_n 2 dX6_planLine_219 rfl rfl ?_
                        refine sw_sipush (257 : Int32) dX6_planLine_220 (by decide) ?_
                        refine SW.jn1 243 (fun s0_28 => [(0, .ref (b + k)), (1, .int x1)]) (fun s0_28 => [.int s0_28, .int x1, .ref (b + (k + 21))]) (fun s0_28 u_29 => ?_) (fun J243 hJ243 => ?_)
                        · refine sw_iast dX6_planLine_243 h0.2.2.2.2.2.2.2.2 (fun u_30 => ?_)
                          exact SW.sub [0, 1] rfl (hJ244  u_30)
                        · refine sw_icmp_ne 236 dX6_planLine_223 (by decide) ?_ ?_
                          · refine sw_aload_n 0 dX6_planLine_226 rfl rfl ?_
                            refine sw_iconst (0 : Int32) dX6_planLine_227 (by decide) ?_
                            refine sw_bipush (9 : Int32) dX6_planLine_228 (by decide) ?_
                            refine sw_callVi (As := [.int (0 : Int32), .int (9 : Int32)]) (k := k) rfl dX6_planLine_230 t_811 mf_X6_number h0.1 q_cl6 (by decide) (Nat.le_of_ble_eq_true rfl) (fun l => c_X6_number l k (0 : Int32) (9 : Int32) u_22 h0) (fun r_33 u_34 => ?_)
                            refine sw_goto 243 dX6_planLine_233 (by decide) ?_
                            exact SW.sub [0, 1] rfl (hJ243 r_33 u_34)
                          · refine sw_aload_n 0 dX6_planLine_236 rfl rfl ?_
                            refine sw_iconst (1 : Int32) dX6_planLine_237 (by decide) ?_
                            refine sw_bipush (99 : Int32) dX6_planLine_238 (by decide) ?_
                            refine sw_callVi (As := [.int (1 : Int32), .int (99 : Int32)]) (k := k) rfl dX6_planLine_240 t_811 mf_X6_number h0.1 q_cl6 (by decide) (Nat.le_of_ble_eq_true rfl) (fun l => c_X6_number l k (1 : Int32) (99 : Int32) u_22 h0) (fun r_31 u_32 => ?_)
                            exact SW.sub [0, 1] rfl (hJ243 r_31 u_32)
                  · refine sw_icmp_ne 197 dX6_planLine_182 (by decide) ?_ ?_
                    · refine sw_aload_n 1 dX6_planLine_185 rfl rfl ?_
                      refine sw_sipush (258 : Int32) dX6_planLine_186 (by decide) ?_
                      refine sw_callVi (As := [.int (258 : Int32)]) (k := k) rfl dX6_planLine_189 t_823 mf_X6_takes h0.1 q_cl6 (by decide) (Nat.le_of_ble_eq_true rfl) (fun l => c_X6_takes l k (258 : Int32) u_19 h0) (fun r_35 u_36 => ?_)
                      refine sw_if_ne 197 dX6_planLine_192 (by decide) ?_ ?_
                      · refine sw_iconst (0 : Int32) dX6_planLine_195 (by decide) ?_
                        exact sw_zret0 dX6_planLine_196
                      · exact SW.sub [1, 2, 3, 4] rfl (hJ197  u_36)
                    · exact SW.sub [1, 2, 3, 4] rfl (hJ197  u_19)
              · refine sw_if_eq 119 dX6_planLine_107 (by decide) ?_ ?_
                · refine sw_iload_n 3 dX6_planLine_119 rfl rfl ?_
                  refine sw_sipush (262 : Int32) dX6_planLine_120 (by decide) ?_
                  refine sw_icmp_ne 135 dX6_planLine_123 (by decide) ?_ ?_
                  · refine sw_aload_n 1 dX6_planLine_126 rfl rfl ?_
                    refine sw_geti q_cl6 8 dX6_planLine_127 t_357 (by decide) h0.1 rfl ?_
                    refine sw_iconst (1 : Int32) dX6_planLine_130 (by decide) ?_
                    refine sw_isub dX6_planLine_131 ?_
                    refine sw_goto 137 dX6_planLine_132 (by decide) ?_
                    exact SW.sub [1, 2, 3, 0] rfl (hJ137 ((u_13.1 k 8) - (1 : Int32)) u_13)
                  · refine sw_bipush (9 : Int32) dX6_planLine_135 (by decide) ?_
                    exact SW.sub [1, 2, 3, 0] rfl (hJ137 (9 : Int32) u_13)
                · refine sw_aload_n 1 dX6_planLine_110 rfl rfl ?_
                  refine sw_geti q_cl6 7 dX6_planLine_111 t_356 (by decide) h0.1 rfl ?_
                  refine sw_iconst (1 : Int32) dX6_planLine_114 (by decide) ?_
                  refine sw_isub dX6_planLine_115 ?_
                  refine sw_goto 137 dX6_planLine_116 (by decide) ?_
                  exact SW.sub [1, 2, 3, 0] rfl (hJ137 ((u_13.1 k 7) - (1 : Int32)) u_13)
            · refine SW.jn0 100 ([(0, .ref (b + k)), (1, .int x1), (2, .int r_5)]) ([]) (fun  u_37 => ?_) (fun J100 hJ100 => ?_)
              · refine sw_iconst (1 : Int32) dX6_planLine_100 (by decide) ?_
                refine sw_goto 105 dX6_planLine_101 (by decide) ?_
                exact SW.sub [0, 1, 2] rfl (hJ105 (1 : Int32) u_37)
              · refine sw_icmp_eq 100 dX6_planLine_90 (by decide) ?_ ?_
                · exact SW.sub [1, 2, 0] rfl (hJ100  u_12)
                · refine sw_iload_n 0 dX6_planLine_93 rfl rfl ?_
                  refine sw_sipush (261 : Int32) dX6_planLine_94 (by decide) ?_
                  refine sw_icmp_ne 104 dX6_planLine_97 (by decide) ?_ ?_
                  · exact SW.sub [1, 2, 0] rfl (hJ100  u_12)
                  · refine sw_iconst (0 : Int32) dX6_planLine_104 (by decide) ?_
                    exact SW.sub [1, 2, 0] rfl (hJ105 (0 : Int32) u_12)
set_option maxRecDepth 100000 in
theorem c_X5_copyFrom (l : Launch) {ι : qI} {b : Nat} (k : Nat) (k1 : Nat)  (u : qS) (h0 : is_X5 ι k) (h1 : is_X5 ι k1) : CN l yX5_copyFrom cX5_copyFrom 2 none 1 ι b [.ref (b + k), .ref (b + k1)] u (m_X5_copyFrom k k1 u) := by
  refine CN.of_SW (own := RX5) rfl (by decide) (Nat.le_of_ble_eq_true rfl) [(0, .ref (b + k)), (1, .ref (b + k1))] rfl ?_
  unfold m_X5_copyFrom
  refine sw_aload_n 0 dX5_copyFrom_0 rfl rfl ?_
  refine sw_aload_n 1 dX5_copyFrom_1 rfl rfl ?_
  refine sw_geti q_cl5 0 dX5_copyFrom_2 t_217 (by decide) h1.1 rfl ?_
  refine sw_puti q_cl5 0 dX5_copyFrom_5 t_217 (by decide) (by decide +kernel) rfl h0.1 rfl (fun u_1 => ?_)
  refine sw_aload_n 1 dX5_copyFrom_8 rfl rfl ?_
  refine sw_getr q_cl5 1 (r := (k1 + 1)) dX5_copyFrom_9 t_221 (by decide) h1.1 rfl ?_
  refine sw_iconst (0 : Int32) dX5_copyFrom_12 (by decide) ?_
  refine sw_aload_n 0 dX5_copyFrom_13 rfl rfl ?_
  refine sw_getr q_cl5 1 (r := (k + 1)) dX5_copyFrom_14 t_221 (by decide) h0.1 rfl ?_
  refine sw_iconst (0 : Int32) dX5_copyFrom_17 (by decide) ?_
  refine sw_bipush (16 : Int32) dX5_copyFrom_18 (by decide) ?_
  refine sw_copy dX5_copyFrom_20 t_876 t_520 t_519 t_13 h1.2.1 h0.2.1 (by decide) (by decide) (by decide) (by decide +kernel) (fun u_2 => ?_)
  refine sw_aload_n 1 dX5_copyFrom_23 rfl rfl ?_
  refine sw_getr q_cl5 2 (r := (k1 + 2)) dX5_copyFrom_24 t_224 (by decide) h1.1 rfl ?_
  refine sw_iconst (0 : Int32) dX5_copyFrom_27 (by decide) ?_
  refine sw_aload_n 0 dX5_copyFrom_28 rfl rfl ?_
  refine sw_getr q_cl5 2 (r := (k + 2)) dX5_copyFrom_29 t_224 (by decide) h0.1 rfl ?_
  refine sw_iconst (0 : Int32) dX5_copyFrom_32 (by decide) ?_
  refine sw_bipush (16 : Int32) dX5_copyFrom_33 (by decide) ?_
  refine sw_copy dX5_copyFrom_35 t_876 t_520 t_519 t_13 h1.2.2.1 h0.2.2.1 (by decide) (by decide) (by decide) (by decide +kernel) (fun u_3 => ?_)
  refine sw_aload_n 1 dX5_copyFrom_38 rfl rfl ?_
  refine sw_getr q_cl5 3 (r := (k1 + 3)) dX5_copyFrom_39 t_227 (by decide) h1.1 rfl ?_
  refine sw_iconst (0 : Int32) dX5_copyFrom_42 (by decide) ?_
  refine sw_aload_n 0 dX5_copyFrom_43 rfl rfl ?_
  refine sw_getr q_cl5 3 (r := (k + 3)) dX5_copyFrom_44 t_227 (by decide) h0.1 rfl ?_
  refine sw_iconst (0 : Int32) dX5_copyFrom_47 (by decide) ?_
  refine sw_bipush (16 : Int32) dX5_copyFrom_48 (by decide) ?_
  refine sw_copy dX5_copyFrom_50 t_876 t_520 t_519 t_13 h1.2.2.2.1 h0.2.2.2.1 (by decide) (by decide) (by decide) (by decide +kernel) (fun u_4 => ?_)
  refine sw_aload_n 1 dX5_copyFrom_53 rfl rfl ?_
  refine sw_getr q_cl5 4 (r := (k1 + 4)) dX5_copyFrom_54 t_230 (by decide) h1.1 rfl ?_
  refine sw_iconst (0 : Int32) dX5_copyFrom_57 (by decide) ?_
  refine sw_aload_n 0 dX5_copyFrom_58 rfl rfl ?_
  refine sw_getr q_cl5 4 (r := (k + 4)) dX5_copyFrom_59 t_230 (by decide) h0.1 rfl ?_
  refine sw_iconst (0 : Int32) dX5_copyFrom_62 (by decide) ?_
  refine sw_bipush (16 : Int32) dX5_copyFrom_63 (by decide) ?_
  refine sw_copy dX5_copyFrom_65 t_876 t_520 t_519 t_13 h1.2.2.2.2 h0.2.2.2.2 (by decide) (by decide) (by decide) (by decide +kernel) (fun u_5 => ?_)
  exact sw_vret dX5_copyFrom_68
set_option maxRecDepth 100000 in
theorem w_X6_readPlan_L19 {ι : qI} {b : Nat} (k : Nat) (k1 : Nat) (h0 : is_X6 ι k) (h1 : is_X5 ι k1)  {K40 : qS → qR} {K48 : qS → qR} (hK40 : ∀  (u : qS), SW RX6 cX6_readPlan 3 (some .int) 7 ι b 40 [] [] u (K40  u)) (hK48 : ∀  (u : qS), SW RX6 cX6_readPlan 3 (some .int) 7 ι b 48 [(0, .ref (b + k)), (1, .ref (b + k1))] [] u (K48  u)) (fu : Nat) (x2 : Int32) (u : qS) : SW RX6 cX6_readPlan 3 (some .int) 7 ι b 19 [(0, .ref (b + k)), (1, .ref (b + k1)), (2, .int x2)] [] u (q_it1 (m_X6_readPlan_L19 k k1 K40 K48) fu x2 u) := by
  refine SW.it1 (fun x2 => [(0, .ref (b + k)), (1, .ref (b + k1)), (2, .int x2)]) (fun self ih x2 u => ?_) fu x2 u
  unfold m_X6_readPlan_L19
  refine sw_iload_n 2 dX6_readPlan_19 rfl rfl ?_
  refine sw_bipush (16 : Int32) dX6_readPlan_20 (by decide) ?_
  refine sw_icmp_gt 48 dX6_readPlan_22 (by decide) ?_ ?_
  · exact SW.sub [0, 1] rfl (hK48  u)
  · refine sw_aload_n 0 dX6_readPlan_25 rfl rfl ?_
    refine sw_callVi (As := []) (k := k) rfl dX6_readPlan_26 t_786 mf_X6_kind h0.1 q_cl6 (by decide) (Nat.le_of_ble_eq_true rfl) (fun l => c_X6_kind l k u h0) (fun r u_3 => ?_)
    refine sw_if_eq 48 dX6_readPlan_29 (by decide) ?_ ?_
    · exact SW.sub [0, 1] rfl (hK48  u_3)
    · refine sw_aload_n 0 dX6_readPlan_32 rfl rfl ?_
      refine sw_iload_n 2 dX6_readPlan_33 rfl rfl ?_
      refine sw_callVi (As := [.int x2]) (k := k) rfl dX6_readPlan_34 t_868 mf_X6_planLine h0.1 q_cl6 (by decide) (Nat.le_of_ble_eq_true rfl) (fun l => c_X6_planLine l k x2 u_3 h0) (fun r_4 u_5 => ?_)
      refine sw_if_ne 42 dX6_readPlan_37 (by decide) ?_ ?_
      · exact SW.sub [] rfl (hK40  u_5)
      · refine sw_iinc (lv' := [(2, .int (x2 + (1 : Int32))), (0, .ref (b + k)), (1, .ref (b + k1))]) 2 dX6_readPlan_42 rfl (congrArg (x2 + ·) (by decide)) (by decide) rfl ?_
        refine sw_goto 19 dX6_readPlan_45 (by decide) ?_
        exact SW.sub [1, 2, 0] rfl (ih (x2 + (1 : Int32)) u_5)
set_option maxRecDepth 100000 in
theorem c_X6_readPlan (l : Launch) {ι : qI} {b : Nat} (k : Nat) (k1 : Nat)  (u : qS) (h0 : is_X6 ι k) (h1 : is_X5 ι k1) : CN l yX6_readPlan cX6_readPlan 3 (some .int) 7 ι b [.ref (b + k), .ref (b + k1)] u (m_X6_readPlan k k1 u) := by
  refine CN.of_SW (own := RX6) rfl (by decide) (Nat.le_of_ble_eq_true rfl) [(0, .ref (b + k)), (1, .ref (b + k1))] rfl ?_
  unfold m_X6_readPlan
  refine sw_aload_n 0 dX6_readPlan_0 rfl rfl ?_
  refine sw_getr q_cl6 2 (r := (k + 1)) dX6_readPlan_1 t_350 (by decide) h0.1 rfl ?_
  refine sw_ldcS (i := 2) (by decide) rfl rfl dX6_readPlan_4 ?_
  refine sw_callVv (As := [.ref (ι.2.1 2)]) (k := (k + 1)) rfl dX6_readPlan_6 t_709 mf_X8_cut h0.2.1.1 q_cl8 (by decide) (Nat.le_of_ble_eq_true rfl) (fun l => c_X8_cut l (k + 1) 2 u h0.2.1 (by decide)) (fun _ u_1 => ?_)
  refine sw_aload_n 0 dX6_readPlan_9 rfl rfl ?_
  refine sw_getr q_cl6 5 (r := (k + 17)) dX6_readPlan_10 t_354 (by decide) h0.1 rfl ?_
  refine sw_iconst (0 : Int32) dX6_readPlan_13 (by decide) ?_
  refine sw_puti q_cl5 0 dX6_readPlan_14 t_219 (by decide) (by decide +kernel) rfl h0.2.2.2.2.1 rfl (fun u_2 => ?_)
  refine sw_iconst (0 : Int32) dX6_readPlan_17 (by decide) ?_
  refine sw_istore_n (lv' := [(2, .int (0 : Int32)), (0, .ref (b + k)), (1, .ref (b + k1))]) dX6_readPlan_18 rfl (by decide) rfl ?_
  refine SW.sub (lv' := [(0, .ref (b + k)), (1, .ref (b + k1)), (2, .int (0 : Int32))]) [1, 2, 0] rfl ?_
  refine w_X6_readPlan_L19 k k1 h0 h1 (fun u_6 => ?_) (fun u_7 => ?_) q_F (0 : Int32) u_2
  · refine sw_iconst (-1 : Int32) dX6_readPlan_40 (by decide) ?_
    exact sw_iret dX6_readPlan_41
  · refine sw_aload_n 1 dX6_readPlan_48 rfl rfl ?_
    refine sw_aload_n 0 dX6_readPlan_49 rfl rfl ?_
    refine sw_getr q_cl6 5 (r := (k + 17)) dX6_readPlan_50 t_354 (by decide) h0.1 rfl ?_
    refine sw_callVv (As := [.ref (b + (k + 17))]) (k := k1) rfl dX6_readPlan_53 t_872 mf_X5_copyFrom h1.1 q_cl5 (by decide) (Nat.le_of_ble_eq_true rfl) (fun l => c_X5_copyFrom l k1 (k + 17) u_7 h1 h0.2.2.2.2) (fun _ u_8 => ?_)
    refine sw_aload_n 0 dX6_readPlan_56 rfl rfl ?_
    refine sw_getr q_cl6 5 (r := (k + 17)) dX6_readPlan_57 t_354 (by decide) h0.1 rfl ?_
    refine sw_geti q_cl5 0 dX6_readPlan_60 t_219 (by decide) h0.2.2.2.2.1 rfl ?_
    exact sw_iret dX6_readPlan_63
set_option maxRecDepth 100000 in
theorem c_X10_text (l : Launch) {ι : qI} {b : Nat}  (x1 : Int32) (u : qS) (h0 : is_X10 ι) : CN l yX10_text cX10_text 3 (some .int) 26 ι b [.ref (b + 0), .int x1] u (m_X10_text x1 u) := by
  refine CN.of_SW (own := RX10) rfl (by decide) (Nat.le_of_ble_eq_true rfl) [(0, .ref (b + 0)), (1, .int x1)] rfl ?_
  unfold m_X10_text
  refine sw_aload_n 0 dX10_text_0 rfl rfl ?_
  refine sw_getr q_cl10 7 (r := 66) dX10_text_1 t_411 (by decide) h0.1 rfl ?_
  refine sw_aload_n 0 dX10_text_4 rfl rfl ?_
  refine sw_getr q_cl10 1 (r := 2) dX10_text_5 t_405 (by decide) h0.1 rfl ?_
  refine sw_geti q_cl0 7 dX10_text_8 t_61 (by decide) h0.2.2.1.1 rfl ?_
  refine sw_aload_n 0 dX10_text_11 rfl rfl ?_
  refine sw_getr q_cl10 1 (r := 2) dX10_text_12 t_405 (by decide) h0.1 rfl ?_
  refine sw_geti q_cl0 9 dX10_text_15 t_68 (by decide) h0.2.2.1.1 rfl ?_
  refine sw_callVv (As := [.int (u.1 2 7), .int (u.1 2 9)]) (k := 66) rfl dX10_text_18 t_700 mf_X6_begin h0.2.2.2.2.2.1.1 q_cl6 (by decide) (Nat.le_of_ble_eq_true rfl) (fun l => c_X6_begin l 66 (u.1 2 7) (u.1 2 9) u h0.2.2.2.2.2.1) (fun _ u_1 => ?_)
  refine sw_iconst (-1 : Int32) dX10_text_21 (by decide) ?_
  refine sw_istore_n (lv' := [(2, .int (-1 : Int32)), (0, .ref (b + 0)), (1, .int x1)]) dX10_text_22 rfl (by decide) rfl ?_
  refine sw_iload_n 2 dX10_text_23 rfl rfl ?_
  refine SW.jn1 106 (fun x2 => [(0, .ref (b + 0)), (1, .int x1), (2, .int x2)]) (fun x2 => []) (fun x2 u_2 => ?_) (fun J106 hJ106 => ?_)
  · refine sw_aload_n 0 dX10_text_106 rfl rfl ?_
    refine sw_getr q_cl10 8 (r := 67) dX10_text_107 t_412 (by decide) h0.1 rfl ?_
    refine sw_iconst (0 : Int32) dX10_text_110 (by decide) ?_
    refine sw_puti q_cl8 1 dX10_text_111 t_317 (by decide) (by decide +kernel) rfl h0.2.2.2.2.2.2.1.1 rfl (fun u_3 => ?_)
    refine sw_iload_n 2 dX10_text_114 rfl rfl ?_
    refine sw_iconst (-1 : Int32) dX10_text_115 (by decide) ?_
    refine sw_icmp_eq 127 dX10_text_116 (by decide) ?_ ?_
    · refine sw_iload_n 2 dX10_text_127 rfl rfl ?_
      exact sw_iret dX10_text_128
    · refine sw_iload_n 1 dX10_text_119 rfl rfl ?_
      refine sw_if_eq 127 dX10_text_120 (by decide) ?_ ?_
      · refine sw_iload_n 2 dX10_text_127 rfl rfl ?_
        exact sw_iret dX10_text_128
      · refine sw_aload_n 0 dX10_text_123 rfl rfl ?_
        refine sw_callVv (As := []) (k := 0) rfl dX10_text_124 t_449 mf_X10_forget h0.1 q_cl10 (by decide) (Nat.le_of_ble_eq_true rfl) (fun l => c_X10_forget l  u_3 h0) (fun _ u_4 => ?_)
        refine sw_iload_n 2 dX10_text_127 rfl rfl ?_
        exact sw_iret dX10_text_128
  · refine SW.case (fun hc0 => ?_) (fun hc0 => ?_)
    · refine sw_tabIn 52 dX10_text_24 hc0 (by decide) (by decide) rfl (by decide) ?_
      refine sw_aload_n 1 dX10_text_52 rfl rfl ?_
      refine sw_getr q_cl10 7 (r := 66) dX10_text_53 t_411 (by decide) h0.1 rfl ?_
      refine sw_aload_n 1 dX10_text_56 rfl rfl ?_
      refine sw_getr q_cl10 0 (r := 1) dX10_text_57 t_404 (by decide) h0.1 rfl ?_
      refine sw_getr q_cl9 1 (r := 12) dX10_text_60 t_276 (by decide) h0.2.1.1 rfl ?_
      refine sw_callVi (As := [.ref (b + 12)]) (k := 66) rfl dX10_text_63 t_704 mf_X6_readLaw h0.2.2.2.2.2.1.1 q_cl6 (by decide) (Nat.le_of_ble_eq_true rfl) (fun l => c_X6_readLaw l 66 12 u_1 h0.2.2.2.2.2.1 h0.2.1.2.2.1) (fun r u_5 => ?_)
      refine sw_istore_n (lv' := [(2, .int r), (0, .ref (b + 0)), (1, .int x1)]) dX10_text_66 rfl (by decide) rfl ?_
      refine sw_goto 106 dX10_text_67 (by decide) ?_
      exact SW.sub [1, 2, 0] rfl (hJ106 r u_5)
    refine SW.case (fun hc1 => ?_) (fun hc1 => ?_)
    · refine sw_tabIn 70 dX10_text_24 hc1 (by decide) (by decide) rfl (by decide) ?_
      refine sw_aload_n 1 dX10_text_70 rfl rfl ?_
      refine sw_getr q_cl10 7 (r := 66) dX10_text_71 t_411 (by decide) h0.1 rfl ?_
      refine sw_aload_n 1 dX10_text_74 rfl rfl ?_
      refine sw_getr q_cl10 0 (r := 1) dX10_text_75 t_404 (by decide) h0.1 rfl ?_
      refine sw_getr q_cl9 2 (r := 19) dX10_text_78 t_279 (by decide) h0.2.1.1 rfl ?_
      refine sw_callVi (As := [.ref (b + 19)]) (k := 66) rfl dX10_text_81 t_832 mf_X6_readPaths h0.2.2.2.2.2.1.1 q_cl6 (by decide) (Nat.le_of_ble_eq_true rfl) (fun l => c_X6_readPaths l 66 19 u_1 h0.2.2.2.2.2.1 h0.2.1.2.2.2.1) (fun r_6 u_7 => ?_)
      refine sw_istore_n (lv' := [(2, .int r_6), (0, .ref (b + 0)), (1, .int x1)]) dX10_text_84 rfl (by decide) rfl ?_
      refine sw_goto 106 dX10_text_85 (by decide) ?_
      exact SW.sub [1, 2, 0] rfl (hJ106 r_6 u_7)
    refine SW.case (fun hc2 => ?_) (fun hc2 => ?_)
    · refine sw_tabIn 88 dX10_text_24 hc2 (by decide) (by decide) rfl (by decide) ?_
      refine sw_aload_n 1 dX10_text_88 rfl rfl ?_
      refine sw_getr q_cl10 7 (r := 66) dX10_text_89 t_411 (by decide) h0.1 rfl ?_
      refine sw_aload_n 1 dX10_text_92 rfl rfl ?_
      refine sw_getr q_cl10 0 (r := 1) dX10_text_93 t_404 (by decide) h0.1 rfl ?_
      refine sw_getr q_cl9 3 (r := 23) dX10_text_96 t_282 (by decide) h0.2.1.1 rfl ?_
      refine sw_callVi (As := [.ref (b + 23)]) (k := 66) rfl dX10_text_99 t_863 mf_X6_readPlan h0.2.2.2.2.2.1.1 q_cl6 (by decide) (Nat.le_of_ble_eq_true rfl) (fun l => c_X6_readPlan l 66 23 u_1 h0.2.2.2.2.2.1 h0.2.1.2.2.2.2.1) (fun r_8 u_9 => ?_)
      refine sw_istore_n (lv' := [(2, .int r_8), (0, .ref (b + 0)), (1, .int x1)]) dX10_text_102 rfl (by decide) rfl ?_
      refine sw_goto 106 dX10_text_103 (by decide) ?_
      exact SW.sub [1, 2, 0] rfl (hJ106 r_8 u_9)
    refine sw_tabOut 106 dX10_text_24 (by omega) (by decide) ?_
    exact SW.sub [1, 2, 0] rfl (hJ106 (-1 : Int32) u_1)
set_option maxRecDepth 100000 in
theorem c_X10_fault (l : Launch) {ι : qI} {b : Nat}  (x1 : Int32) (u : qS) (h0 : is_X10 ι) : CN l yX10_fault cX10_fault 2 (some .int) 1 ι b [.ref (b + 0), .int x1] u (m_X10_fault x1 u) := by
  refine CN.of_SW (own := RX10) rfl (by decide) (Nat.le_of_ble_eq_true rfl) [(0, .ref (b + 0)), (1, .int x1)] rfl ?_
  unfold m_X10_fault
  refine sw_iload_n 1 dX10_fault_0 rfl rfl ?_
  refine sw_if_ne 12 dX10_fault_1 (by decide) ?_ ?_
  · refine sw_aload_n 0 dX10_fault_4 rfl rfl ?_
    refine sw_getr q_cl10 7 (r := 66) dX10_fault_5 t_411 (by decide) h0.1 rfl ?_
    refine sw_geti q_cl6 0 dX10_fault_8 t_347 (by decide) h0.2.2.2.2.2.1.1 rfl ?_
    exact sw_iret dX10_fault_11
  · refine sw_iload_n 1 dX10_fault_12 rfl rfl ?_
    refine sw_iconst (1 : Int32) dX10_fault_13 (by decide) ?_
    refine sw_icmp_ne 27 dX10_fault_14 (by decide) ?_ ?_
    · refine sw_aload_n 0 dX10_fault_17 rfl rfl ?_
      refine sw_getr q_cl10 7 (r := 66) dX10_fault_18 t_411 (by decide) h0.1 rfl ?_
      refine sw_geti q_cl6 1 dX10_fault_21 t_349 (by decide) h0.2.2.2.2.2.1.1 rfl ?_
      refine sw_goto 28 dX10_fault_24 (by decide) ?_
      exact sw_iret dX10_fault_28
    · refine sw_iconst (-1 : Int32) dX10_fault_27 (by decide) ?_
      exact sw_iret dX10_fault_28
set_option maxRecDepth 100000 in
theorem w_X0_hangingOf_L4 {ι : qI} {b : Nat} (k : Nat) (h0 : is_X0 ι k) (x1 : Int32) {K37 : Int32 → qS → qR} (hK37 : ∀ (e2 : Int32) (u : qS), SW RX0 cX0_hangingOf 4 (some .int) 1 ι b 37 [(2, .int e2)] [] u (K37 e2 u)) (fu : Nat) (x2 : Int32) (x3 : Int32) (u : qS) : SW RX0 cX0_hangingOf 4 (some .int) 1 ι b 4 [(0, .ref (b + k)), (1, .int x1), (2, .int x2), (3, .int x3)] [] u (q_it2 (m_X0_hangingOf_L4 k x1 K37) fu x2 x3 u) := by
  refine SW.it2 (fun x2 x3 => [(0, .ref (b + k)), (1, .int x1), (2, .int x2), (3, .int x3)]) (fun self ih x2 x3 u => ?_) fu x2 x3 u
  unfold m_X0_hangingOf_L4
  refine sw_iload_n 3 dX0_hangingOf_4 rfl rfl ?_
  refine sw_aload_n 0 dX0_hangingOf_5 rfl rfl ?_
  refine sw_geti q_cl0 8 dX0_hangingOf_6 t_64 (by decide) h0.1 rfl ?_
  refine sw_icmp_ge 37 dX0_hangingOf_9 (by decide) ?_ ?_
  · exact SW.sub [2] rfl (hK37 x2 u)
  · refine sw_aload_n 0 dX0_hangingOf_12 rfl rfl ?_
    refine sw_getr q_cl0 14 (r := (k + 4)) dX0_hangingOf_13 t_82 (by decide) h0.1 rfl ?_
    refine sw_iload_n 3 dX0_hangingOf_16 rfl rfl ?_
    refine sw_iald dX0_hangingOf_17 h0.2.2.2.2.1 (fun a => ?_)
    refine sw_iload_n 1 dX0_hangingOf_18 rfl rfl ?_
    refine SW.jn1 31 (fun x2_1 => [(0, .ref (b + k)), (1, .int x1), (2, .int x2_1), (3, .int x3)]) (fun x2_1 => []) (fun x2_1 u_2 => ?_) (fun J31 hJ31 => ?_)
    · refine sw_iinc (lv' := [(3, .int (x3 + (1 : Int32))), (0, .ref (b + k)), (1, .int x1), (2, .int x2_1)]) 3 dX0_hangingOf_31 rfl (congrArg (x3 + ·) (by decide)) (by decide) rfl ?_
      refine sw_goto 4 dX0_hangingOf_34 (by decide) ?_
      exact SW.sub [1, 2, 3, 0] rfl (ih x2_1 (x3 + (1 : Int32)) u_2)
    · refine sw_icmp_ne 31 dX0_hangingOf_19 (by decide) ?_ ?_
      · refine sw_iload_n 2 dX0_hangingOf_22 rfl rfl ?_
        refine sw_aload_n 0 dX0_hangingOf_23 rfl rfl ?_
        refine sw_getr q_cl0 17 (r := (k + 7)) dX0_hangingOf_24 t_92 (by decide) h0.1 rfl ?_
        refine sw_iload_n 3 dX0_hangingOf_27 rfl rfl ?_
        refine sw_iald dX0_hangingOf_28 h0.2.2.2.2.2.2.2.1 (fun a_3 => ?_)
        refine sw_iadd dX0_hangingOf_29 ?_
        refine SW.name (fun y2 => ?_)
        refine sw_istore_n (lv' := [(2, .int y2), (0, .ref (b + k)), (1, .int x1), (3, .int x3)]) dX0_hangingOf_30 rfl (by decide) rfl ?_
        exact SW.sub [1, 2, 0, 3] rfl (hJ31 y2 u)
      · exact SW.sub [0, 1, 2, 3] rfl (hJ31 x2 u)
set_option maxRecDepth 100000 in
theorem c_X0_hangingOf (l : Launch) {ι : qI} {b : Nat} (k : Nat) (x1 : Int32) (u : qS) (h0 : is_X0 ι k) : CN l yX0_hangingOf cX0_hangingOf 4 (some .int) 1 ι b [.ref (b + k), .int x1] u (m_X0_hangingOf k x1 u) := by
  refine CN.of_SW (own := RX0) rfl (by decide) (Nat.le_of_ble_eq_true rfl) [(0, .ref (b + k)), (1, .int x1)] rfl ?_
  unfold m_X0_hangingOf
  refine sw_iconst (0 : Int32) dX0_hangingOf_0 (by decide) ?_
  refine sw_istore_n (lv' := [(2, .int (0 : Int32)), (0, .ref (b + k)), (1, .int x1)]) dX0_hangingOf_1 rfl (by decide) rfl ?_
  refine sw_iconst (0 : Int32) dX0_hangingOf_2 (by decide) ?_
  refine sw_istore_n (lv' := [(3, .int (0 : Int32)), (2, .int (0 : Int32)), (0, .ref (b + k)), (1, .int x1)]) dX0_hangingOf_3 rfl (by decide) rfl ?_
  refine SW.sub (lv' := [(0, .ref (b + k)), (1, .int x1), (2, .int (0 : Int32)), (3, .int (0 : Int32))]) [2, 3, 1, 0] rfl ?_
  refine w_X0_hangingOf_L4 k h0 x1 (fun x2 u_4 => ?_) q_F (0 : Int32) (0 : Int32) u
  refine sw_iload_n 0 dX0_hangingOf_37 rfl rfl ?_
  exact sw_iret dX0_hangingOf_38
set_option maxRecDepth 100000 in
theorem c_X10_of (l : Launch) {ι : qI} {b : Nat}  (x1 : Int32) (x2 : Int32) (u : qS) (h0 : is_X10 ι) : CN l yX10_of cX10_of 3 (some .int) 2 ι b [.ref (b + 0), .int x1, .int x2] u (m_X10_of x1 x2 u) := by
  refine CN.of_SW (own := RX10) rfl (by decide) (Nat.le_of_ble_eq_true rfl) [(0, .ref (b + 0)), (1, .int x1), (2, .int x2)] rfl ?_
  unfold m_X10_of
  refine sw_aload_n 0 dX10_of_0 rfl rfl ?_
  refine sw_getr q_cl10 1 (r := 2) dX10_of_1 t_405 (by decide) h0.1 rfl ?_
  refine sw_iload_n 1 dX10_of_4 rfl rfl ?_
  refine sw_callVi (As := [.int x1]) (k := 2) rfl dX10_of_5 t_480 mf_X0_isParty h0.2.2.1.1 q_cl0 (by decide) (Nat.le_of_ble_eq_true rfl) (fun l => c_X0_isParty l 2 x1 u h0.2.2.1) (fun r u_1 => ?_)
  refine sw_if_ne 13 dX10_of_8 (by decide) ?_ ?_
  · refine sw_iconst (-1 : Int32) dX10_of_11 (by decide) ?_
    exact sw_iret dX10_of_12
  · refine sw_iload_n 2 dX10_of_13 rfl rfl ?_
    refine SW.case (fun hc0 => ?_) (fun hc0 => ?_)
    · refine sw_tabIn 44 dX10_of_14 hc0 (by decide) (by decide) rfl (by decide) ?_
      refine sw_aload_n 0 dX10_of_44 rfl rfl ?_
      refine sw_getr q_cl10 1 (r := 2) dX10_of_45 t_405 (by decide) h0.1 rfl ?_
      refine sw_getr q_cl0 11 (r := 3) dX10_of_48 t_74 (by decide) h0.2.2.1.1 rfl ?_
      refine sw_iload_n 1 dX10_of_51 rfl rfl ?_
      refine sw_iald dX10_of_52 h0.2.2.1.2.1 (fun a => ?_)
      exact sw_iret dX10_of_53
    refine SW.case (fun hc1 => ?_) (fun hc1 => ?_)
    · refine sw_tabIn 54 dX10_of_14 hc1 (by decide) (by decide) rfl (by decide) ?_
      refine sw_aload_n 0 dX10_of_54 rfl rfl ?_
      refine sw_getr q_cl10 1 (r := 2) dX10_of_55 t_405 (by decide) h0.1 rfl ?_
      refine sw_getr q_cl0 12 (r := 4) dX10_of_58 t_77 (by decide) h0.2.2.1.1 rfl ?_
      refine sw_iload_n 1 dX10_of_61 rfl rfl ?_
      refine sw_iald dX10_of_62 h0.2.2.1.2.2.1 (fun a_2 => ?_)
      exact sw_iret dX10_of_63
    refine SW.case (fun hc2 => ?_) (fun hc2 => ?_)
    · refine sw_tabIn 64 dX10_of_14 hc2 (by decide) (by decide) rfl (by decide) ?_
      refine sw_aload_n 0 dX10_of_64 rfl rfl ?_
      refine sw_getr q_cl10 1 (r := 2) dX10_of_65 t_405 (by decide) h0.1 rfl ?_
      refine sw_getr q_cl0 13 (r := 5) dX10_of_68 t_81 (by decide) h0.2.2.1.1 rfl ?_
      refine sw_iload_n 1 dX10_of_71 rfl rfl ?_
      refine sw_iald dX10_of_72 h0.2.2.1.2.2.2.1 (fun a_3 => ?_)
      exact sw_iret dX10_of_73
    refine SW.case (fun hc3 => ?_) (fun hc3 => ?_)
    · refine sw_tabIn 74 dX10_of_14 hc3 (by decide) (by decide) rfl (by decide) ?_
      refine sw_aload_n 0 dX10_of_74 rfl rfl ?_
      refine sw_getr q_cl10 1 (r := 2) dX10_of_75 t_405 (by decide) h0.1 rfl ?_
      refine sw_iload_n 1 dX10_of_78 rfl rfl ?_
      refine sw_callVi (As := [.int x1]) (k := 2) rfl dX10_of_79 t_886 mf_X0_hangingOf h0.2.2.1.1 q_cl0 (by decide) (Nat.le_of_ble_eq_true rfl) (fun l => c_X0_hangingOf l 2 x1 u_1 h0.2.2.1) (fun r_4 u_5 => ?_)
      exact sw_iret dX10_of_82
    refine sw_tabOut 83 dX10_of_14 (by omega) (by decide) ?_
    refine sw_iconst (-1 : Int32) dX10_of_83 (by decide) ?_
    exact sw_iret dX10_of_84
set_option maxRecDepth 100000 in
theorem c_X10_tree (l : Launch) {ι : qI} {b : Nat}  (x1 : Int32) (x2 : Int32) (u : qS) (h0 : is_X10 ι) : CN l yX10_tree cX10_tree 3 (some .int) 4 ι b [.ref (b + 0), .int x1, .int x2] u (m_X10_tree x1 x2 u) := by
  refine CN.of_SW (own := RX10) rfl (by decide) (Nat.le_of_ble_eq_true rfl) [(0, .ref (b + 0)), (1, .int x1), (2, .int x2)] rfl ?_
  unfold m_X10_tree
  refine sw_aload_n 0 dX10_tree_0 rfl rfl ?_
  refine sw_getr q_cl10 1 (r := 2) dX10_tree_1 t_405 (by decide) h0.1 rfl ?_
  refine sw_iload_n 1 dX10_tree_4 rfl rfl ?_
  refine sw_callVi (As := [.int x1]) (k := 2) rfl dX10_tree_5 t_894 mf_X0_isTree h0.2.2.1.1 q_cl0 (by decide) (Nat.le_of_ble_eq_true rfl) (fun l => c_X0_isTree l 2 x1 u h0.2.2.1) (fun r u_1 => ?_)
  refine sw_if_ne 13 dX10_tree_8 (by decide) ?_ ?_
  · refine sw_iconst (-1 : Int32) dX10_tree_11 (by decide) ?_
    exact sw_iret dX10_tree_12
  · refine sw_iload_n 2 dX10_tree_13 rfl rfl ?_
    refine SW.case (fun hc0 => ?_) (fun hc0 => ?_)
    · refine sw_tabIn 48 dX10_tree_14 hc0 (by decide) (by decide) rfl (by decide) ?_
      refine sw_aload_n 0 dX10_tree_48 rfl rfl ?_
      refine sw_getr q_cl10 1 (r := 2) dX10_tree_49 t_405 (by decide) h0.1 rfl ?_
      refine sw_getr q_cl0 14 (r := 6) dX10_tree_52 t_85 (by decide) h0.2.2.1.1 rfl ?_
      refine sw_iload_n 1 dX10_tree_55 rfl rfl ?_
      refine sw_iald dX10_tree_56 h0.2.2.1.2.2.2.2.1 (fun a => ?_)
      exact sw_iret dX10_tree_57
    refine SW.case (fun hc1 => ?_) (fun hc1 => ?_)
    · refine sw_tabIn 58 dX10_tree_14 hc1 (by decide) (by decide) rfl (by decide) ?_
      refine sw_aload_n 0 dX10_tree_58 rfl rfl ?_
      refine sw_getr q_cl10 1 (r := 2) dX10_tree_59 t_405 (by decide) h0.1 rfl ?_
      refine sw_getr q_cl0 15 (r := 7) dX10_tree_62 t_88 (by decide) h0.2.2.1.1 rfl ?_
      refine sw_iload_n 1 dX10_tree_65 rfl rfl ?_
      refine sw_iald dX10_tree_66 h0.2.2.1.2.2.2.2.2.1 (fun a_2 => ?_)
      exact sw_iret dX10_tree_67
    refine SW.case (fun hc2 => ?_) (fun hc2 => ?_)
    · refine sw_tabIn 68 dX10_tree_14 hc2 (by decide) (by decide) rfl (by decide) ?_
      refine sw_aload_n 0 dX10_tree_68 rfl rfl ?_
      refine sw_getr q_cl10 1 (r := 2) dX10_tree_69 t_405 (by decide) h0.1 rfl ?_
      refine sw_getr q_cl0 16 (r := 8) dX10_tree_72 t_91 (by decide) h0.2.2.1.1 rfl ?_
      refine sw_iload_n 1 dX10_tree_75 rfl rfl ?_
      refine sw_iald dX10_tree_76 h0.2.2.1.2.2.2.2.2.2.1 (fun a_3 => ?_)
      exact sw_iret dX10_tree_77
    refine SW.case (fun hc3 => ?_) (fun hc3 => ?_)
    · refine sw_tabIn 78 dX10_tree_14 hc3 (by decide) (by decide) rfl (by decide) ?_
      refine sw_aload_n 0 dX10_tree_78 rfl rfl ?_
      refine sw_getr q_cl10 1 (r := 2) dX10_tree_79 t_405 (by decide) h0.1 rfl ?_
      refine sw_getr q_cl0 17 (r := 9) dX10_tree_82 t_95 (by decide) h0.2.2.1.1 rfl ?_
      refine sw_iload_n 1 dX10_tree_85 rfl rfl ?_
      refine sw_iald dX10_tree_86 h0.2.2.1.2.2.2.2.2.2.2.1 (fun a_4 => ?_)
      exact sw_iret dX10_tree_87
    refine SW.case (fun hc4 => ?_) (fun hc4 => ?_)
    · refine sw_tabIn 88 dX10_tree_14 hc4 (by decide) (by decide) rfl (by decide) ?_
      refine sw_aload_n 0 dX10_tree_88 rfl rfl ?_
      refine sw_getr q_cl10 0 (r := 1) dX10_tree_89 t_404 (by decide) h0.1 rfl ?_
      refine sw_getr q_cl9 1 (r := 12) dX10_tree_92 t_276 (by decide) h0.2.1.1 rfl ?_
      refine sw_aload_n 0 dX10_tree_95 rfl rfl ?_
      refine sw_getr q_cl10 1 (r := 2) dX10_tree_96 t_405 (by decide) h0.1 rfl ?_
      refine sw_iload_n 1 dX10_tree_99 rfl rfl ?_
      refine sw_callVi (As := [.ref (b + 2), .int x1]) (k := 12) rfl dX10_tree_100 t_895 mf_X2_bears h0.2.1.2.2.1.1 q_cl2 (by decide) (Nat.le_of_ble_eq_true rfl) (fun l => c_X2_bears l 12 2 x1 u_1 h0.2.1.2.2.1 h0.2.2.1) (fun r_5 u_6 => ?_)
      exact sw_iret dX10_tree_103
    refine sw_tabOut 104 dX10_tree_14 (by omega) (by decide) ?_
    refine sw_iconst (-1 : Int32) dX10_tree_104 (by decide) ?_
    exact sw_iret dX10_tree_105
set_option maxRecDepth 100000 in
theorem c_X10_who (l : Launch) {ι : qI} {b : Nat}  (x1 : Int32) (x2 : Int32) (u : qS) (h0 : is_X10 ι) : CN l yX10_who cX10_who 3 (some .int) 4 ι b [.ref (b + 0), .int x1, .int x2] u (m_X10_who x1 x2 u) := by
  refine CN.of_SW (own := RX10) rfl (by decide) (Nat.le_of_ble_eq_true rfl) [(0, .ref (b + 0)), (1, .int x1), (2, .int x2)] rfl ?_
  unfold m_X10_who
  refine sw_aload_n 0 dX10_who_0 rfl rfl ?_
  refine sw_getr q_cl10 1 (r := 2) dX10_who_1 t_405 (by decide) h0.1 rfl ?_
  refine sw_iload_n 1 dX10_who_4 rfl rfl ?_
  refine sw_callVi (As := [.int x1]) (k := 2) rfl dX10_who_5 t_476 mf_X0_isEater h0.2.2.1.1 q_cl0 (by decide) (Nat.le_of_ble_eq_true rfl) (fun l => c_X0_isEater l 2 x1 u h0.2.2.1) (fun r u_1 => ?_)
  refine sw_if_ne 13 dX10_who_8 (by decide) ?_ ?_
  · refine sw_iconst (-1 : Int32) dX10_who_11 (by decide) ?_
    exact sw_iret dX10_who_12
  · refine sw_iload_n 2 dX10_who_13 rfl rfl ?_
    refine SW.case (fun hc0 => ?_) (fun hc0 => ?_)
    · refine sw_tabIn 40 dX10_who_14 hc0 (by decide) (by decide) rfl (by decide) ?_
      refine sw_aload_n 0 dX10_who_40 rfl rfl ?_
      refine sw_getr q_cl10 1 (r := 2) dX10_who_41 t_405 (by decide) h0.1 rfl ?_
      refine sw_getr q_cl0 18 (r := 10) dX10_who_44 t_99 (by decide) h0.2.2.1.1 rfl ?_
      refine sw_iload_n 1 dX10_who_47 rfl rfl ?_
      refine sw_iald dX10_who_48 h0.2.2.1.2.2.2.2.2.2.2.2.1 (fun a => ?_)
      exact sw_iret dX10_who_49
    refine SW.case (fun hc1 => ?_) (fun hc1 => ?_)
    · refine sw_tabIn 50 dX10_who_14 hc1 (by decide) (by decide) rfl (by decide) ?_
      refine sw_aload_n 0 dX10_who_50 rfl rfl ?_
      refine sw_getr q_cl10 0 (r := 1) dX10_who_51 t_404 (by decide) h0.1 rfl ?_
      refine sw_getr q_cl9 1 (r := 12) dX10_who_54 t_276 (by decide) h0.2.1.1 rfl ?_
      refine sw_aload_n 0 dX10_who_57 rfl rfl ?_
      refine sw_getr q_cl10 1 (r := 2) dX10_who_58 t_405 (by decide) h0.1 rfl ?_
      refine sw_iload_n 1 dX10_who_61 rfl rfl ?_
      refine sw_callVi (As := [.ref (b + 2), .int x1]) (k := 12) rfl dX10_who_62 t_900 mf_X2_wants h0.2.1.2.2.1.1 q_cl2 (by decide) (Nat.le_of_ble_eq_true rfl) (fun l => c_X2_wants l 12 2 x1 u_1 h0.2.1.2.2.1 h0.2.2.1) (fun r_2 u_3 => ?_)
      exact sw_iret dX10_who_65
    refine SW.case (fun hc2 => ?_) (fun hc2 => ?_)
    · refine sw_tabIn 66 dX10_who_14 hc2 (by decide) (by decide) rfl (by decide) ?_
      refine sw_aload_n 0 dX10_who_66 rfl rfl ?_
      refine sw_getr q_cl10 0 (r := 1) dX10_who_67 t_404 (by decide) h0.1 rfl ?_
      refine sw_getr q_cl9 2 (r := 19) dX10_who_70 t_279 (by decide) h0.2.1.1 rfl ?_
      refine sw_getr q_cl4 1 (r := 20) dX10_who_73 t_198 (by decide) h0.2.1.2.2.2.1.1 rfl ?_
      refine sw_iload_n 1 dX10_who_76 rfl rfl ?_
      refine sw_iald dX10_who_77 h0.2.1.2.2.2.1.2.1 (fun a_4 => ?_)
      exact sw_iret dX10_who_78
    refine sw_tabOut 79 dX10_who_14 (by omega) (by decide) ?_
    refine sw_iload_n 2 dX10_who_79 rfl rfl ?_
    refine sw_bipush (10 : Int32) dX10_who_80 (by decide) ?_
    refine sw_bipush (17 : Int32) dX10_who_82 (by decide) ?_
    refine sw_callSi (As := [.int x2, .int (10 : Int32), .int (17 : Int32)]) rfl dX10_who_84 t_457 mf_X10_isWithin (by decide) (Nat.le_of_ble_eq_true rfl) (fun l => c_X10_isWithin l x2 (10 : Int32) (17 : Int32) u_1 ) (fun r_5 u_6 => ?_)
    refine sw_if_eq 106 dX10_who_87 (by decide) ?_ ?_
    · refine sw_iload_n 2 dX10_who_106 rfl rfl ?_
      refine sw_bipush (20 : Int32) dX10_who_107 (by decide) ?_
      refine sw_bipush (24 : Int32) dX10_who_109 (by decide) ?_
      refine sw_callSi (As := [.int x2, .int (20 : Int32), .int (24 : Int32)]) rfl dX10_who_111 t_457 mf_X10_isWithin (by decide) (Nat.le_of_ble_eq_true rfl) (fun l => c_X10_isWithin l x2 (20 : Int32) (24 : Int32) u_6 ) (fun r_7 u_8 => ?_)
      refine sw_if_eq 144 dX10_who_114 (by decide) ?_ ?_
      · refine sw_iconst (-1 : Int32) dX10_who_144 (by decide) ?_
        exact sw_iret dX10_who_145
      · refine sw_aload_n 0 dX10_who_117 rfl rfl ?_
        refine sw_getr q_cl10 1 (r := 2) dX10_who_118 t_405 (by decide) h0.1 rfl ?_
        refine sw_iload_n 2 dX10_who_121 rfl rfl ?_
        refine sw_bipush (20 : Int32) dX10_who_122 (by decide) ?_
        refine sw_isub dX10_who_124 ?_
        refine sw_callVi (As := [.int (x2 - (20 : Int32))]) (k := 2) rfl dX10_who_125 t_480 mf_X0_isParty h0.2.2.1.1 q_cl0 (by decide) (Nat.le_of_ble_eq_true rfl) (fun l => c_X0_isParty l 2 (x2 - (20 : Int32)) u_8 h0.2.2.1) (fun r_9 u_10 => ?_)
        refine sw_if_eq 144 dX10_who_128 (by decide) ?_ ?_
        · refine sw_iconst (-1 : Int32) dX10_who_144 (by decide) ?_
          exact sw_iret dX10_who_145
        · refine sw_aload_n 0 dX10_who_131 rfl rfl ?_
          refine sw_getr q_cl10 1 (r := 2) dX10_who_132 t_405 (by decide) h0.1 rfl ?_
          refine sw_iload_n 1 dX10_who_135 rfl rfl ?_
          refine sw_iload_n 2 dX10_who_136 rfl rfl ?_
          refine sw_bipush (20 : Int32) dX10_who_137 (by decide) ?_
          refine sw_isub dX10_who_139 ?_
          refine sw_callVi (As := [.int x1, .int (x2 - (20 : Int32))]) (k := 2) rfl dX10_who_140 t_902 mf_X0_tasteFor h0.2.2.1.1 q_cl0 (by decide) (Nat.le_of_ble_eq_true rfl) (fun l => c_X0_tasteFor l 2 x1 (x2 - (20 : Int32)) u_10 h0.2.2.1) (fun r_11 u_12 => ?_)
          exact sw_iret dX10_who_143
    · refine sw_aload_n 0 dX10_who_90 rfl rfl ?_
      refine sw_getr q_cl10 0 (r := 1) dX10_who_91 t_404 (by decide) h0.1 rfl ?_
      refine sw_getr q_cl9 2 (r := 19) dX10_who_94 t_279 (by decide) h0.2.1.1 rfl ?_
      refine sw_iload_n 1 dX10_who_97 rfl rfl ?_
      refine sw_iload_n 2 dX10_who_98 rfl rfl ?_
      refine sw_bipush (10 : Int32) dX10_who_99 (by decide) ?_
      refine sw_isub dX10_who_101 ?_
      refine sw_callVi (As := [.int x1, .int (x2 - (10 : Int32))]) (k := 19) rfl dX10_who_102 t_901 mf_X4_step h0.2.1.2.2.2.1.1 q_cl4 (by decide) (Nat.le_of_ble_eq_true rfl) (fun l => c_X4_step l 19 x1 (x2 - (10 : Int32)) u_6 h0.2.1.2.2.2.1) (fun r_13 u_14 => ?_)
      exact sw_iret dX10_who_105
set_option maxRecDepth 100000 in
theorem c_X10_at (l : Launch) {ι : qI} {b : Nat}  (x1 : Int32) (u : qS) (h0 : is_X10 ι) : CN l yX10_at cX10_at 2 (some .int) 2 ι b [.ref (b + 0), .int x1] u (m_X10_at x1 u) := by
  refine CN.of_SW (own := RX10) rfl (by decide) (Nat.le_of_ble_eq_true rfl) [(0, .ref (b + 0)), (1, .int x1)] rfl ?_
  unfold m_X10_at
  refine sw_iload_n 1 dX10_at_0 rfl rfl ?_
  refine sw_callSi (As := [.int x1]) rfl dX10_at_1 t_507 mf_X10_isPlace (by decide) (Nat.le_of_ble_eq_true rfl) (fun l => c_X10_isPlace l x1 u ) (fun r u_1 => ?_)
  refine sw_if_ne 9 dX10_at_4 (by decide) ?_ ?_
  · refine sw_iconst (-1 : Int32) dX10_at_7 (by decide) ?_
    exact sw_iret dX10_at_8
  · refine sw_aload_n 0 dX10_at_9 rfl rfl ?_
    refine sw_getr q_cl10 1 (r := 2) dX10_at_10 t_405 (by decide) h0.1 rfl ?_
    refine sw_iload_n 1 dX10_at_13 rfl rfl ?_
    refine sw_callVi (As := [.int x1]) (k := 2) rfl dX10_at_14 t_536 mf_X0_isFenced h0.2.2.1.1 q_cl0 (by decide) (Nat.le_of_ble_eq_true rfl) (fun l => c_X0_isFenced l 2 x1 u_1 h0.2.2.1) (fun r_2 u_3 => ?_)
    refine sw_if_eq 24 dX10_at_17 (by decide) ?_ ?_
    · refine sw_iconst (0 : Int32) dX10_at_24 (by decide) ?_
      exact sw_iret dX10_at_25
    · refine sw_iconst (1 : Int32) dX10_at_20 (by decide) ?_
      refine sw_goto 25 dX10_at_21 (by decide) ?_
      exact sw_iret dX10_at_25
set_option maxRecDepth 100000 in
theorem c_X10_book (l : Launch) {ι : qI} {b : Nat}  (x1 : Int32) (x2 : Int32) (u : qS) (h0 : is_X10 ι) : CN l yX10_book cX10_book 3 (some .int) 2 ι b [.ref (b + 0), .int x1, .int x2] u (m_X10_book x1 x2 u) := by
  refine CN.of_SW (own := RX10) rfl (by decide) (Nat.le_of_ble_eq_true rfl) [(0, .ref (b + 0)), (1, .int x1), (2, .int x2)] rfl ?_
  unfold m_X10_book
  refine sw_iload_n 1 dX10_book_0 rfl rfl ?_
  refine sw_iconst (0 : Int32) dX10_book_1 (by decide) ?_
  refine sw_aload_n 0 dX10_book_2 rfl rfl ?_
  refine sw_getr q_cl10 1 (r := 2) dX10_book_3 t_405 (by decide) h0.1 rfl ?_
  refine sw_geti q_cl0 10 dX10_book_6 t_71 (by decide) h0.2.2.1.1 rfl ?_
  refine sw_iconst (1 : Int32) dX10_book_9 (by decide) ?_
  refine sw_isub dX10_book_10 ?_
  refine sw_callSi (As := [.int x1, .int (0 : Int32), .int ((u.1 2 10) - (1 : Int32))]) rfl dX10_book_11 t_457 mf_X10_isWithin (by decide) (Nat.le_of_ble_eq_true rfl) (fun l => c_X10_isWithin l x1 (0 : Int32) ((u.1 2 10) - (1 : Int32)) u ) (fun r u_1 => ?_)
  refine sw_if_eq 26 dX10_book_14 (by decide) ?_ ?_
  · refine sw_iconst (-1 : Int32) dX10_book_26 (by decide) ?_
    exact sw_iret dX10_book_27
  · refine sw_iload_n 2 dX10_book_17 rfl rfl ?_
    refine sw_iconst (0 : Int32) dX10_book_18 (by decide) ?_
    refine sw_iconst (3 : Int32) dX10_book_19 (by decide) ?_
    refine sw_callSi (As := [.int x2, .int (0 : Int32), .int (3 : Int32)]) rfl dX10_book_20 t_457 mf_X10_isWithin (by decide) (Nat.le_of_ble_eq_true rfl) (fun l => c_X10_isWithin l x2 (0 : Int32) (3 : Int32) u_1 ) (fun r_2 u_3 => ?_)
    refine sw_if_ne 28 dX10_book_23 (by decide) ?_ ?_
    · refine sw_iconst (-1 : Int32) dX10_book_26 (by decide) ?_
      exact sw_iret dX10_book_27
    · refine sw_aload_n 0 dX10_book_28 rfl rfl ?_
      refine sw_getr q_cl10 0 (r := 1) dX10_book_29 t_404 (by decide) h0.1 rfl ?_
      refine sw_getr q_cl9 5 (r := 31) dX10_book_32 t_287 (by decide) h0.2.1.1 rfl ?_
      refine sw_getr q_cl3 0 (r := 32) dX10_book_35 t_268 (by decide) h0.2.1.2.2.2.2.2.2.1 rfl ?_
      refine sw_iload_n 1 dX10_book_38 rfl rfl ?_
      refine sw_iconst (4 : Int32) dX10_book_39 (by decide) ?_
      refine sw_imul dX10_book_40 ?_
      refine sw_iload_n 2 dX10_book_41 rfl rfl ?_
      refine sw_iadd dX10_book_42 ?_
      refine sw_iald dX10_book_43 h0.2.1.2.2.2.2.2.2.2 (fun a => ?_)
      exact sw_iret dX10_book_44
set_option maxRecDepth 100000 in
theorem c_X10_goes (l : Launch) {ι : qI} {b : Nat}  (x1 : Int32) (x2 : Int32) (x3 : Int32) (u : qS) (h0 : is_X10 ι) : CN l yX10_goes cX10_goes 5 (some .int) 7 ι b [.ref (b + 0), .int x1, .int x2, .int x3] u (m_X10_goes x1 x2 x3 u) := by
  refine CN.of_SW (own := RX10) rfl (by decide) (Nat.le_of_ble_eq_true rfl) [(0, .ref (b + 0)), (1, .int x1), (2, .int x2), (3, .int x3)] rfl ?_
  unfold m_X10_goes
  refine sw_iload_n 1 dX10_goes_0 rfl rfl ?_
  refine sw_iconst (1 : Int32) dX10_goes_1 (by decide) ?_
  refine sw_bipush (60 : Int32) dX10_goes_2 (by decide) ?_
  refine sw_callSi (As := [.int x1, .int (1 : Int32), .int (60 : Int32)]) rfl dX10_goes_4 t_457 mf_X10_isWithin (by decide) (Nat.le_of_ble_eq_true rfl) (fun l => c_X10_isWithin l x1 (1 : Int32) (60 : Int32) u ) (fun r u_1 => ?_)
  refine SW.jn1 24 (fun s0 => [(0, .ref (b + 0)), (1, .int x1), (2, .int x2), (3, .int x3)]) (fun s0 => [.int s0]) (fun s0 u_2 => ?_) (fun J24 hJ24 => ?_)
  · refine sw_istore (lv' := [(4, .int s0), (0, .ref (b + 0)), (1, .int x1), (2, .int x2), (3, .int x3)]) dX10_goes_24 (by decide) rfl ?_
    refine sw_iload 0 dX10_goes_26 rfl ?_
    refine sw_if_eq 47 dX10_goes_28 (by decide) ?_ ?_
    · refine sw_bipush (-2 : Int32) dX10_goes_47 (by decide) ?_
      exact sw_iret dX10_goes_49
    · refine sw_iload_n 4 dX10_goes_31 rfl rfl ?_
      refine sw_iconst (2 : Int32) dX10_goes_32 (by decide) ?_
      refine SW.jn0 50 ([(0, .ref (b + 0)), (1, .int x1), (2, .int x2), (3, .int x3)]) ([]) (fun  u_3 => ?_) (fun J50 hJ50 => ?_)
      · refine sw_aload_n 0 dX10_goes_50 rfl rfl ?_
        refine sw_getr q_cl10 11 (r := 92) dX10_goes_51 t_415 (by decide) h0.1 rfl ?_
        refine sw_aload_n 0 dX10_goes_54 rfl rfl ?_
        refine sw_getr q_cl10 1 (r := 2) dX10_goes_55 t_405 (by decide) h0.1 rfl ?_
        refine sw_callVv (As := [.ref (b + 2)]) (k := 92) rfl dX10_goes_58 t_514 mf_X0_copyFrom h0.2.2.2.2.2.2.2.2.2.1.1 q_cl0 (by decide) (Nat.le_of_ble_eq_true rfl) (fun l => c_X0_copyFrom l 92 2 u_3 h0.2.2.2.2.2.2.2.2.2.1 h0.2.2.1) (fun _ u_4 => ?_)
        refine sw_aload_n 0 dX10_goes_61 rfl rfl ?_
        refine sw_getr q_cl10 10 (r := 90) dX10_goes_62 t_414 (by decide) h0.1 rfl ?_
        refine sw_aload_n 0 dX10_goes_65 rfl rfl ?_
        refine sw_getr q_cl10 0 (r := 1) dX10_goes_66 t_404 (by decide) h0.1 rfl ?_
        refine sw_aload_n 0 dX10_goes_69 rfl rfl ?_
        refine sw_getr q_cl10 11 (r := 92) dX10_goes_70 t_415 (by decide) h0.1 rfl ?_
        refine sw_iload_n 1 dX10_goes_73 rfl rfl ?_
        refine sw_callVv (As := [.ref (b + 1), .ref (b + 92), .int x1]) (k := 90) rfl dX10_goes_74 t_557 mf_X7_pass h0.2.2.2.2.2.2.2.2.1.1 q_cl7 (by decide) (Nat.le_of_ble_eq_true rfl) (fun l => c_X7_pass l 90 92 x1 u_4 h0.2.2.2.2.2.2.2.2.1 h0.2.1 h0.2.2.2.2.2.2.2.2.2.1) (fun _ u_5 => ?_)
        refine sw_iload_n 3 dX10_goes_77 rfl rfl ?_
        refine SW.case (fun hc0 => ?_) (fun hc0 => ?_)
        · refine sw_tabIn 104 dX10_goes_78 hc0 (by decide) (by decide) rfl (by decide) ?_
          refine sw_aload_n 0 dX10_goes_104 rfl rfl ?_
          refine sw_getr q_cl10 11 (r := 92) dX10_goes_105 t_415 (by decide) h0.1 rfl ?_
          refine sw_getr q_cl0 13 (r := 95) dX10_goes_108 t_81 (by decide) h0.2.2.2.2.2.2.2.2.2.1.1 rfl ?_
          refine sw_iload_n 2 dX10_goes_111 rfl rfl ?_
          refine sw_iald dX10_goes_112 h0.2.2.2.2.2.2.2.2.2.1.2.2.2.1 (fun a => ?_)
          exact sw_iret dX10_goes_113
        refine SW.case (fun hc1 => ?_) (fun hc1 => ?_)
        · refine sw_tabIn 114 dX10_goes_78 hc1 (by decide) (by decide) rfl (by decide) ?_
          refine sw_aload_n 0 dX10_goes_114 rfl rfl ?_
          refine sw_getr q_cl10 11 (r := 92) dX10_goes_115 t_415 (by decide) h0.1 rfl ?_
          refine sw_getr q_cl0 12 (r := 94) dX10_goes_118 t_77 (by decide) h0.2.2.2.2.2.2.2.2.2.1.1 rfl ?_
          refine sw_iload_n 2 dX10_goes_121 rfl rfl ?_
          refine sw_iald dX10_goes_122 h0.2.2.2.2.2.2.2.2.2.1.2.2.1 (fun a_6 => ?_)
          exact sw_iret dX10_goes_123
        refine SW.case (fun hc2 => ?_) (fun hc2 => ?_)
        · refine sw_tabIn 124 dX10_goes_78 hc2 (by decide) (by decide) rfl (by decide) ?_
          refine sw_aload_n 0 dX10_goes_124 rfl rfl ?_
          refine sw_getr q_cl10 10 (r := 90) dX10_goes_125 t_414 (by decide) h0.1 rfl ?_
          refine sw_geti q_cl7 2 dX10_goes_128 t_387 (by decide) h0.2.2.2.2.2.2.2.2.1.1 rfl ?_
          exact sw_iret dX10_goes_131
        refine sw_tabOut 132 dX10_goes_78 (by omega) (by decide) ?_
        refine sw_aload_n 0 dX10_goes_132 rfl rfl ?_
        refine sw_getr q_cl10 10 (r := 90) dX10_goes_133 t_414 (by decide) h0.1 rfl ?_
        refine sw_geti q_cl7 3 dX10_goes_136 t_389 (by decide) h0.2.2.2.2.2.2.2.2.1.1 rfl ?_
        exact sw_iret dX10_goes_139
      · refine sw_icmp_ge 50 dX10_goes_33 (by decide) ?_ ?_
        · exact SW.sub [1, 2, 3, 4] rfl (hJ50  u_2)
        · refine sw_aload_n 1 dX10_goes_36 rfl rfl ?_
          refine sw_getr q_cl10 1 (r := 2) dX10_goes_37 t_405 (by decide) h0.1 rfl ?_
          refine sw_iload_n 3 dX10_goes_40 rfl rfl ?_
          refine sw_callVi (As := [.int x2]) (k := 2) rfl dX10_goes_41 t_480 mf_X0_isParty h0.2.2.1.1 q_cl0 (by decide) (Nat.le_of_ble_eq_true rfl) (fun l => c_X0_isParty l 2 x2 u_2 h0.2.2.1) (fun r_7 u_8 => ?_)
          refine sw_if_ne 50 dX10_goes_44 (by decide) ?_ ?_
          · refine sw_bipush (-2 : Int32) dX10_goes_47 (by decide) ?_
            exact sw_iret dX10_goes_49
          · exact SW.sub [1, 2, 3, 4] rfl (hJ50  u_8)
  · refine SW.jn0 23 ([(0, .ref (b + 0)), (1, .int x1), (2, .int x2), (3, .int x3)]) ([]) (fun  u_9 => ?_) (fun J23 hJ23 => ?_)
    · refine sw_iconst (0 : Int32) dX10_goes_23 (by decide) ?_
      exact SW.sub [0, 1, 2, 3] rfl (hJ24 (0 : Int32) u_9)
    · refine sw_if_eq 23 dX10_goes_7 (by decide) ?_ ?_
      · exact SW.sub [0, 1, 2, 3] rfl (hJ23  u_1)
      · refine sw_iload_n 3 dX10_goes_10 rfl rfl ?_
        refine sw_iconst (0 : Int32) dX10_goes_11 (by decide) ?_
        refine sw_iconst (3 : Int32) dX10_goes_12 (by decide) ?_
        refine sw_callSi (As := [.int x3, .int (0 : Int32), .int (3 : Int32)]) rfl dX10_goes_13 t_457 mf_X10_isWithin (by decide) (Nat.le_of_ble_eq_true rfl) (fun l => c_X10_isWithin l x3 (0 : Int32) (3 : Int32) u_1 ) (fun r_10 u_11 => ?_)
        refine sw_if_eq 23 dX10_goes_16 (by decide) ?_ ?_
        · exact SW.sub [0, 1, 2, 3] rfl (hJ23  u_11)
        · refine sw_iconst (1 : Int32) dX10_goes_19 (by decide) ?_
          refine sw_goto 24 dX10_goes_20 (by decide) ?_
          exact SW.sub [0, 1, 2, 3] rfl (hJ24 (1 : Int32) u_11)
set_option maxRecDepth 100000 in
theorem c_X10_falls (l : Launch) {ι : qI} {b : Nat}  (x1 : Int32) (u : qS) (h0 : is_X10 ι) : CN l yX10_falls cX10_falls 2 (some .int) 3 ι b [.ref (b + 0), .int x1] u (m_X10_falls x1 u) := by
  refine CN.of_SW (own := RX10) rfl (by decide) (Nat.le_of_ble_eq_true rfl) [(0, .ref (b + 0)), (1, .int x1)] rfl ?_
  unfold m_X10_falls
  refine sw_aload_n 0 dX10_falls_0 rfl rfl ?_
  refine sw_getr q_cl10 1 (r := 2) dX10_falls_1 t_405 (by decide) h0.1 rfl ?_
  refine sw_iload_n 1 dX10_falls_4 rfl rfl ?_
  refine sw_callVi (As := [.int x1]) (k := 2) rfl dX10_falls_5 t_480 mf_X0_isParty h0.2.2.1.1 q_cl0 (by decide) (Nat.le_of_ble_eq_true rfl) (fun l => c_X0_isParty l 2 x1 u h0.2.2.1) (fun r u_1 => ?_)
  refine sw_if_ne 13 dX10_falls_8 (by decide) ?_ ?_
  · refine sw_iconst (-1 : Int32) dX10_falls_11 (by decide) ?_
    exact sw_iret dX10_falls_12
  · refine sw_aload_n 0 dX10_falls_13 rfl rfl ?_
    refine sw_getr q_cl10 11 (r := 92) dX10_falls_14 t_415 (by decide) h0.1 rfl ?_
    refine sw_aload_n 0 dX10_falls_17 rfl rfl ?_
    refine sw_getr q_cl10 1 (r := 2) dX10_falls_18 t_405 (by decide) h0.1 rfl ?_
    refine sw_callVv (As := [.ref (b + 2)]) (k := 92) rfl dX10_falls_21 t_514 mf_X0_copyFrom h0.2.2.2.2.2.2.2.2.2.1.1 q_cl0 (by decide) (Nat.le_of_ble_eq_true rfl) (fun l => c_X0_copyFrom l 92 2 u_1 h0.2.2.2.2.2.2.2.2.2.1 h0.2.2.1) (fun _ u_2 => ?_)
    refine sw_aload_n 0 dX10_falls_24 rfl rfl ?_
    refine sw_getr q_cl10 11 (r := 92) dX10_falls_25 t_415 (by decide) h0.1 rfl ?_
    refine sw_callVv (As := []) (k := 92) rfl dX10_falls_28 t_919 mf_X0_seatAnew h0.2.2.2.2.2.2.2.2.2.1.1 q_cl0 (by decide) (Nat.le_of_ble_eq_true rfl) (fun l => c_X0_seatAnew l 92 u_2 h0.2.2.2.2.2.2.2.2.2.1) (fun _ u_3 => ?_)
    refine sw_aload_n 0 dX10_falls_31 rfl rfl ?_
    refine sw_getr q_cl10 11 (r := 92) dX10_falls_32 t_415 (by decide) h0.1 rfl ?_
    refine sw_getr q_cl0 13 (r := 95) dX10_falls_35 t_81 (by decide) h0.2.2.2.2.2.2.2.2.2.1.1 rfl ?_
    refine sw_iload_n 1 dX10_falls_38 rfl rfl ?_
    refine sw_iald dX10_falls_39 h0.2.2.2.2.2.2.2.2.2.1.2.2.2.1 (fun a => ?_)
    exact sw_iret dX10_falls_40
set_option maxRecDepth 100000 in
theorem w_X10_brings_L65 {ι : qI} {b : Nat}  (h0 : is_X10 ι) (x1 : Int32) (x2 : Int32) (x3 : Int32) {K147 : Int32 → Int32 → qS → qR} (hK147 : ∀ (e5 : Int32) (e6 : Int32) (u : qS), SW RX10 cX10_brings 8 (some .int) 7 ι b 147 [(3, .int x3), (5, .int e5), (6, .int e6)] [] u (K147 e5 e6 u)) (fu : Nat) (x5 : Int32) (x6 : Int32) (x7 : Int32) (u : qS) : SW RX10 cX10_brings 8 (some .int) 7 ι b 65 [(0, .ref (b + 0)), (1, .int x1), (2, .int x2), (3, .int x3), (5, .int x5), (6, .int x6), (7, .int x7)] [] u (q_it3 (m_X10_brings_L65 x1 x2 x3 K147) fu x5 x6 x7 u) := by
  refine SW.it3 (fun x5 x6 x7 => [(0, .ref (b + 0)), (1, .int x1), (2, .int x2), (3, .int x3), (5, .int x5), (6, .int x6), (7, .int x7)]) (fun self ih x5 x6 x7 u => ?_) fu x5 x6 x7 u
  unfold m_X10_brings_L65
  refine sw_iload 6 dX10_brings_65 rfl ?_
  refine sw_bipush (10 : Int32) dX10_brings_67 (by decide) ?_
  refine sw_icmp_ge 147 dX10_brings_69 (by decide) ?_ ?_
  · exact SW.sub [3, 4, 5] rfl (hK147 x5 x6 u)
  · refine sw_aload_n 0 dX10_brings_72 rfl rfl ?_
    refine sw_getr q_cl10 11 (r := 92) dX10_brings_73 t_415 (by decide) h0.1 rfl ?_
    refine sw_aload_n 0 dX10_brings_76 rfl rfl ?_
    refine sw_getr q_cl10 1 (r := 2) dX10_brings_77 t_405 (by decide) h0.1 rfl ?_
    refine sw_callVv (As := [.ref (b + 2)]) (k := 92) rfl dX10_brings_80 t_514 mf_X0_copyFrom h0.2.2.2.2.2.2.2.2.2.1.1 q_cl0 (by decide) (Nat.le_of_ble_eq_true rfl) (fun l => c_X0_copyFrom l 92 2 u h0.2.2.2.2.2.2.2.2.2.1 h0.2.2.1) (fun _ u_3 => ?_)
    refine sw_aload_n 0 dX10_brings_83 rfl rfl ?_
    refine sw_getr q_cl10 11 (r := 92) dX10_brings_84 t_415 (by decide) h0.1 rfl ?_
    refine sw_iload_n 1 dX10_brings_87 rfl rfl ?_
    refine sw_iload 6 dX10_brings_88 rfl ?_
    refine sw_bipush (10 : Int32) dX10_brings_90 (by decide) ?_
    refine sw_callVi (As := [.int x1, .int x7, .int (10 : Int32)]) (k := 92) rfl dX10_brings_92 t_524 mf_X0_addTree h0.2.2.2.2.2.2.2.2.2.1.1 q_cl0 (by decide) (Nat.le_of_ble_eq_true rfl) (fun l => c_X0_addTree l 92 x1 x7 (10 : Int32) u_3 h0.2.2.2.2.2.2.2.2.2.1) (fun r u_4 => ?_)
    refine sw_pop dX10_brings_95 rfl ?_
    refine sw_aload_n 0 dX10_brings_96 rfl rfl ?_
    refine sw_getr q_cl10 10 (r := 90) dX10_brings_97 t_414 (by decide) h0.1 rfl ?_
    refine sw_aload_n 0 dX10_brings_100 rfl rfl ?_
    refine sw_getr q_cl10 0 (r := 1) dX10_brings_101 t_404 (by decide) h0.1 rfl ?_
    refine sw_aload_n 0 dX10_brings_104 rfl rfl ?_
    refine sw_getr q_cl10 11 (r := 92) dX10_brings_105 t_415 (by decide) h0.1 rfl ?_
    refine sw_iload_n 2 dX10_brings_108 rfl rfl ?_
    refine sw_callVv (As := [.ref (b + 1), .ref (b + 92), .int x2]) (k := 90) rfl dX10_brings_109 t_557 mf_X7_pass h0.2.2.2.2.2.2.2.2.1.1 q_cl7 (by decide) (Nat.le_of_ble_eq_true rfl) (fun l => c_X7_pass l 90 92 x2 u_4 h0.2.2.2.2.2.2.2.2.1 h0.2.1 h0.2.2.2.2.2.2.2.2.2.1) (fun _ u_5 => ?_)
    refine sw_aload_n 0 dX10_brings_112 rfl rfl ?_
    refine sw_getr q_cl10 10 (r := 90) dX10_brings_113 t_414 (by decide) h0.1 rfl ?_
    refine sw_getr q_cl7 4 (r := 91) dX10_brings_116 t_391 (by decide) h0.2.2.2.2.2.2.2.2.1.1 rfl ?_
    refine sw_iload_n 1 dX10_brings_119 rfl rfl ?_
    refine sw_iald dX10_brings_120 h0.2.2.2.2.2.2.2.2.1.2 (fun a => ?_)
    refine sw_iload 5 dX10_brings_121 rfl ?_
    refine SW.jn2 141 (fun x5_6 x6_7 => [(0, .ref (b + 0)), (1, .int x1), (2, .int x2), (3, .int x3), (5, .int x5_6), (6, .int x6_7), (7, .int x7)]) (fun x5_6 x6_7 => []) (fun x5_6 x6_7 u_8 => ?_) (fun J141 hJ141 => ?_)
    · refine sw_iinc (lv' := [(7, .int (x7 + (1 : Int32))), (0, .ref (b + 0)), (1, .int x1), (2, .int x2), (3, .int x3), (5, .int x5_6), (6, .int x6_7)]) 6 dX10_brings_141 rfl (congrArg (x7 + ·) (by decide)) (by decide) rfl ?_
      refine sw_goto 65 dX10_brings_144 (by decide) ?_
      exact SW.sub [1, 2, 3, 4, 5, 6, 0] rfl (ih x5_6 x6_7 (x7 + (1 : Int32)) u_8)
    · refine sw_icmp_le 141 dX10_brings_123 (by decide) ?_ ?_
      · exact SW.sub [0, 1, 2, 3, 4, 5, 6] rfl (hJ141 x5 x6 u_5)
      · refine sw_iload 6 dX10_brings_126 rfl ?_
        refine sw_istore (lv' := [(5, .int x7), (0, .ref (b + 0)), (1, .int x1), (2, .int x2), (3, .int x3), (6, .int x6), (7, .int x7)]) dX10_brings_128 (by decide) rfl ?_
        refine sw_aload_n 1 dX10_brings_130 rfl rfl ?_
        refine sw_getr q_cl10 10 (r := 90) dX10_brings_131 t_414 (by decide) h0.1 rfl ?_
        refine sw_getr q_cl7 4 (r := 91) dX10_brings_134 t_391 (by decide) h0.2.2.2.2.2.2.2.2.1.1 rfl ?_
        refine sw_iload_n 2 dX10_brings_137 rfl rfl ?_
        refine sw_iald dX10_brings_138 h0.2.2.2.2.2.2.2.2.1.2 (fun a_9 => ?_)
        refine sw_istore (lv' := [(6, .int a_9), (5, .int x7), (0, .ref (b + 0)), (1, .int x1), (2, .int x2), (3, .int x3), (7, .int x7)]) dX10_brings_139 (by decide) rfl ?_
        exact SW.sub [2, 3, 4, 5, 1, 0, 6] rfl (hJ141 x7 a_9 u_5)
set_option maxRecDepth 100000 in
theorem c_X10_brings (l : Launch) {ι : qI} {b : Nat}  (x1 : Int32) (x2 : Int32) (x3 : Int32) (u : qS) (h0 : is_X10 ι) : CN l yX10_brings cX10_brings 8 (some .int) 7 ι b [.ref (b + 0), .int x1, .int x2, .int x3] u (m_X10_brings x1 x2 x3 u) := by
  refine CN.of_SW (own := RX10) rfl (by decide) (Nat.le_of_ble_eq_true rfl) [(0, .ref (b + 0)), (1, .int x1), (2, .int x2), (3, .int x3)] rfl ?_
  unfold m_X10_brings
  refine sw_aload_n 0 dX10_brings_0 rfl rfl ?_
  refine sw_getr q_cl10 1 (r := 2) dX10_brings_1 t_405 (by decide) h0.1 rfl ?_
  refine sw_iload_n 1 dX10_brings_4 rfl rfl ?_
  refine sw_callVi (As := [.int x1]) (k := 2) rfl dX10_brings_5 t_480 mf_X0_isParty h0.2.2.1.1 q_cl0 (by decide) (Nat.le_of_ble_eq_true rfl) (fun l => c_X0_isParty l 2 x1 u h0.2.2.1) (fun r u_1 => ?_)
  refine SW.jn1 35 (fun s0 => [(0, .ref (b + 0)), (1, .int x1), (2, .int x2), (3, .int x3)]) (fun s0 => [.int s0]) (fun s0 u_2 => ?_) (fun J35 hJ35 => ?_)
  · refine sw_istore (lv' := [(4, .int s0), (0, .ref (b + 0)), (1, .int x1), (2, .int x2), (3, .int x3)]) dX10_brings_35 (by decide) rfl ?_
    refine sw_iload 0 dX10_brings_37 rfl ?_
    refine sw_if_eq 54 dX10_brings_39 (by decide) ?_ ?_
    · refine sw_iconst (-1 : Int32) dX10_brings_54 (by decide) ?_
      exact sw_iret dX10_brings_55
    · refine sw_aload_n 1 dX10_brings_42 rfl rfl ?_
      refine sw_getr q_cl10 1 (r := 2) dX10_brings_43 t_405 (by decide) h0.1 rfl ?_
      refine sw_geti q_cl0 8 dX10_brings_46 t_65 (by decide) h0.2.2.1.1 rfl ?_
      refine sw_bipush (14 : Int32) dX10_brings_49 (by decide) ?_
      refine sw_icmp_lt 56 dX10_brings_51 (by decide) ?_ ?_
      · refine sw_iconst (-1 : Int32) dX10_brings_56 (by decide) ?_
        refine sw_istore (lv' := [(5, .int (-1 : Int32)), (4, .int s0), (0, .ref (b + 0)), (1, .int x1), (2, .int x2), (3, .int x3)]) dX10_brings_57 (by decide) rfl ?_
        refine sw_iconst (-1 : Int32) dX10_brings_59 (by decide) ?_
        refine sw_istore (lv' := [(6, .int (-1 : Int32)), (5, .int (-1 : Int32)), (4, .int s0), (0, .ref (b + 0)), (1, .int x1), (2, .int x2), (3, .int x3)]) dX10_brings_60 (by decide) rfl ?_
        refine sw_iconst (0 : Int32) dX10_brings_62 (by decide) ?_
        refine sw_istore (lv' := [(7, .int (0 : Int32)), (6, .int (-1 : Int32)), (5, .int (-1 : Int32)), (4, .int s0), (0, .ref (b + 0)), (1, .int x1), (2, .int x2), (3, .int x3)]) dX10_brings_63 (by decide) rfl ?_
        refine SW.sub (lv' := [(0, .ref (b + 0)), (1, .int x1), (2, .int x2), (3, .int x3), (5, .int (-1 : Int32)), (6, .int (-1 : Int32)), (7, .int (0 : Int32))]) [4, 5, 6, 7, 2, 1, 0] rfl ?_
        refine w_X10_brings_L65 h0 x1 x2 x3 (fun x5 x6 u_10 => ?_) q_F (-1 : Int32) (-1 : Int32) (0 : Int32) u_2
        refine sw_iload_n 0 dX10_brings_147 rfl rfl ?_
        refine sw_if_ne 156 dX10_brings_148 (by decide) ?_ ?_
        · refine sw_iload 1 dX10_brings_151 rfl ?_
          refine sw_goto 158 dX10_brings_153 (by decide) ?_
          exact sw_iret dX10_brings_158
        · refine sw_iload 2 dX10_brings_156 rfl ?_
          exact sw_iret dX10_brings_158
      · refine sw_iconst (-1 : Int32) dX10_brings_54 (by decide) ?_
        exact sw_iret dX10_brings_55
  · refine SW.jn0 34 ([(0, .ref (b + 0)), (1, .int x1), (2, .int x2), (3, .int x3)]) ([]) (fun  u_11 => ?_) (fun J34 hJ34 => ?_)
    · refine sw_iconst (0 : Int32) dX10_brings_34 (by decide) ?_
      exact SW.sub [0, 1, 2, 3] rfl (hJ35 (0 : Int32) u_11)
    · refine sw_if_eq 34 dX10_brings_8 (by decide) ?_ ?_
      · exact SW.sub [0, 1, 2, 3] rfl (hJ34  u_1)
      · refine sw_iload_n 2 dX10_brings_11 rfl rfl ?_
        refine sw_iconst (1 : Int32) dX10_brings_12 (by decide) ?_
        refine sw_bipush (20 : Int32) dX10_brings_13 (by decide) ?_
        refine sw_callSi (As := [.int x2, .int (1 : Int32), .int (20 : Int32)]) rfl dX10_brings_15 t_457 mf_X10_isWithin (by decide) (Nat.le_of_ble_eq_true rfl) (fun l => c_X10_isWithin l x2 (1 : Int32) (20 : Int32) u_1 ) (fun r_12 u_13 => ?_)
        refine sw_if_eq 34 dX10_brings_18 (by decide) ?_ ?_
        · exact SW.sub [0, 1, 2, 3] rfl (hJ34  u_13)
        · refine sw_iload_n 3 dX10_brings_21 rfl rfl ?_
          refine sw_iconst (0 : Int32) dX10_brings_22 (by decide) ?_
          refine sw_iconst (1 : Int32) dX10_brings_23 (by decide) ?_
          refine sw_callSi (As := [.int x3, .int (0 : Int32), .int (1 : Int32)]) rfl dX10_brings_24 t_457 mf_X10_isWithin (by decide) (Nat.le_of_ble_eq_true rfl) (fun l => c_X10_isWithin l x3 (0 : Int32) (1 : Int32) u_13 ) (fun r_14 u_15 => ?_)
          refine sw_if_eq 34 dX10_brings_27 (by decide) ?_ ?_
          · exact SW.sub [0, 1, 2, 3] rfl (hJ34  u_15)
          · refine sw_iconst (1 : Int32) dX10_brings_30 (by decide) ?_
            refine sw_goto 35 dX10_brings_31 (by decide) ?_
            exact SW.sub [0, 1, 2, 3] rfl (hJ35 (1 : Int32) u_15)
set_option maxRecDepth 100000 in
theorem w_X10_weeksToLastSeating_L2 {ι : qI} {b : Nat}  (h0 : is_X10 ι)  {K36 : Int32 → qS → qR} {K44 : qS → qR} (hK36 : ∀ (e2 : Int32) (u : qS), SW RX10 cX10_weeksToLastSeating 3 (some .int) 1 ι b 36 [(2, .int e2)] [] u (K36 e2 u)) (hK44 : ∀  (u : qS), SW RX10 cX10_weeksToLastSeating 3 (some .int) 1 ι b 44 [] [] u (K44  u)) (fu : Nat) (x2 : Int32) (u : qS) : SW RX10 cX10_weeksToLastSeating 3 (some .int) 1 ι b 2 [(0, .ref (b + 0)), (2, .int x2)] [] u (q_it1 (m_X10_weeksToLastSeating_L2 K36 K44) fu x2 u) := by
  refine SW.it1 (fun x2 => [(0, .ref (b + 0)), (2, .int x2)]) (fun self ih x2 u => ?_) fu x2 u
  unfold m_X10_weeksToLastSeating_L2
  refine sw_iload_n 1 dX10_weeksToLastSeating_2 rfl rfl ?_
  refine sw_if_le 44 dX10_weeksToLastSeating_3 (by decide) ?_ ?_
  · exact SW.sub [] rfl (hK44  u)
  · refine sw_aload_n 0 dX10_weeksToLastSeating_6 rfl rfl ?_
    refine sw_getr q_cl10 1 (r := 2) dX10_weeksToLastSeating_7 t_405 (by decide) h0.1 rfl ?_
    refine sw_geti q_cl0 5 dX10_weeksToLastSeating_10 t_57 (by decide) h0.2.2.1.1 rfl ?_
    refine SW.jn0 38 ([(0, .ref (b + 0)), (2, .int x2)]) ([]) (fun  u_1 => ?_) (fun J38 hJ38 => ?_)
    · refine sw_iinc (lv' := [(2, .int (x2 + (-1 : Int32))), (0, .ref (b + 0))]) 1 dX10_weeksToLastSeating_38 rfl (congrArg (x2 + ·) (by decide)) (by decide) rfl ?_
      refine sw_goto 2 dX10_weeksToLastSeating_41 (by decide) ?_
      exact SW.sub [1, 0] rfl (ih (x2 + (-1 : Int32)) u_1)
    · refine sw_if_le 38 dX10_weeksToLastSeating_13 (by decide) ?_ ?_
      · exact SW.sub [0, 1] rfl (hJ38  u)
      · refine sw_aload_n 0 dX10_weeksToLastSeating_16 rfl rfl ?_
        refine sw_getr q_cl10 1 (r := 2) dX10_weeksToLastSeating_17 t_405 (by decide) h0.1 rfl ?_
        refine sw_geti q_cl0 0 dX10_weeksToLastSeating_20 t_44 (by decide) h0.2.2.1.1 rfl ?_
        refine sw_iload_n 1 dX10_weeksToLastSeating_23 rfl rfl ?_
        refine sw_iadd dX10_weeksToLastSeating_24 ?_
        refine sw_aload_n 0 dX10_weeksToLastSeating_25 rfl rfl ?_
        refine sw_getr q_cl10 1 (r := 2) dX10_weeksToLastSeating_26 t_405 (by decide) h0.1 rfl ?_
        refine sw_geti q_cl0 5 dX10_weeksToLastSeating_29 t_57 (by decide) h0.2.2.1.1 rfl ?_
        refine sw_irem dX10_weeksToLastSeating_32 (fun a => ?_)
        refine sw_if_ne 38 dX10_weeksToLastSeating_33 (by decide) ?_ ?_
        · exact SW.sub [1] rfl (hK36 x2 u)
        · exact SW.sub [0, 1] rfl (hJ38  u)
set_option maxRecDepth 100000 in
theorem c_X10_weeksToLastSeating (l : Launch) {ι : qI} {b : Nat}  (x1 : Int32) (u : qS) (h0 : is_X10 ι) : CN l yX10_weeksToLastSeating cX10_weeksToLastSeating 3 (some .int) 1 ι b [.ref (b + 0), .int x1] u (m_X10_weeksToLastSeating x1 u) := by
  refine CN.of_SW (own := RX10) rfl (by decide) (Nat.le_of_ble_eq_true rfl) [(0, .ref (b + 0)), (1, .int x1)] rfl ?_
  unfold m_X10_weeksToLastSeating
  refine sw_iload_n 1 dX10_weeksToLastSeating_0 rfl rfl ?_
  refine sw_istore_n (lv' := [(2, .int x1), (0, .ref (b + 0)), (1, .int x1)]) dX10_weeksToLastSeating_1 rfl (by decide) rfl ?_
  refine SW.sub (lv' := [(0, .ref (b + 0)), (2, .int x1)]) [1, 0] rfl ?_
  refine w_X10_weeksToLastSeating_L2 h0 (fun x2 u_2 => ?_) (fun u_3 => ?_) q_F x1 u
  · refine sw_iload_n 0 dX10_weeksToLastSeating_36 rfl rfl ?_
    exact sw_iret dX10_weeksToLastSeating_37
  · refine sw_iconst (0 : Int32) dX10_weeksToLastSeating_44 (by decide) ?_
    exact sw_iret dX10_weeksToLastSeating_45
set_option maxRecDepth 100000 in
theorem c_X10_firstPartyBehind (l : Launch) {ι : qI} {b : Nat}  (x1 : Int32) (x2 : Int32) (x3 : Int32) (u : qS) (h0 : is_X10 ι) : CN l yX10_firstPartyBehind cX10_firstPartyBehind 4 (some .int) 7 ι b [.ref (b + 0), .int x1, .int x2, .int x3] u (m_X10_firstPartyBehind x1 x2 x3 u) := by
  refine CN.of_SW (own := RX10) rfl (by decide) (Nat.le_of_ble_eq_true rfl) [(0, .ref (b + 0)), (1, .int x1), (2, .int x2), (3, .int x3)] rfl ?_
  unfold m_X10_firstPartyBehind
  refine sw_aload_n 0 dX10_firstPartyBehind_0 rfl rfl ?_
  refine sw_getr q_cl10 11 (r := 92) dX10_firstPartyBehind_1 t_415 (by decide) h0.1 rfl ?_
  refine sw_aload_n 0 dX10_firstPartyBehind_4 rfl rfl ?_
  refine sw_getr q_cl10 1 (r := 2) dX10_firstPartyBehind_5 t_405 (by decide) h0.1 rfl ?_
  refine sw_callVv (As := [.ref (b + 2)]) (k := 92) rfl dX10_firstPartyBehind_8 t_514 mf_X0_copyFrom h0.2.2.2.2.2.2.2.2.2.1.1 q_cl0 (by decide) (Nat.le_of_ble_eq_true rfl) (fun l => c_X0_copyFrom l 92 2 u h0.2.2.2.2.2.2.2.2.2.1 h0.2.2.1) (fun _ u_1 => ?_)
  refine sw_aload_n 0 dX10_firstPartyBehind_11 rfl rfl ?_
  refine sw_getr q_cl10 11 (r := 92) dX10_firstPartyBehind_12 t_415 (by decide) h0.1 rfl ?_
  refine sw_getr q_cl0 17 (r := 99) dX10_firstPartyBehind_15 t_95 (by decide) h0.2.2.2.2.2.2.2.2.2.1.1 rfl ?_
  refine sw_iload_n 1 dX10_firstPartyBehind_18 rfl rfl ?_
  refine sw_dup2 dX10_firstPartyBehind_19 rfl rfl ?_
  refine sw_iald dX10_firstPartyBehind_20 h0.2.2.2.2.2.2.2.2.2.1.2.2.2.2.2.2.2.1 (fun a => ?_)
  refine sw_iload_n 2 dX10_firstPartyBehind_21 rfl rfl ?_
  refine sw_isub dX10_firstPartyBehind_22 ?_
  refine sw_iast dX10_firstPartyBehind_23 h0.2.2.2.2.2.2.2.2.2.1.2.2.2.2.2.2.2.1 (fun u_2 => ?_)
  refine sw_aload_n 0 dX10_firstPartyBehind_24 rfl rfl ?_
  refine sw_getr q_cl10 10 (r := 90) dX10_firstPartyBehind_25 t_414 (by decide) h0.1 rfl ?_
  refine sw_aload_n 0 dX10_firstPartyBehind_28 rfl rfl ?_
  refine sw_getr q_cl10 0 (r := 1) dX10_firstPartyBehind_29 t_404 (by decide) h0.1 rfl ?_
  refine sw_aload_n 0 dX10_firstPartyBehind_32 rfl rfl ?_
  refine sw_getr q_cl10 11 (r := 92) dX10_firstPartyBehind_33 t_415 (by decide) h0.1 rfl ?_
  refine sw_iload_n 3 dX10_firstPartyBehind_36 rfl rfl ?_
  refine sw_callVv (As := [.ref (b + 1), .ref (b + 92), .int x3]) (k := 90) rfl dX10_firstPartyBehind_37 t_557 mf_X7_pass h0.2.2.2.2.2.2.2.2.1.1 q_cl7 (by decide) (Nat.le_of_ble_eq_true rfl) (fun l => c_X7_pass l 90 92 x3 u_2 h0.2.2.2.2.2.2.2.2.1 h0.2.1 h0.2.2.2.2.2.2.2.2.2.1) (fun _ u_3 => ?_)
  refine sw_aload_n 0 dX10_firstPartyBehind_40 rfl rfl ?_
  refine sw_getr q_cl10 11 (r := 92) dX10_firstPartyBehind_41 t_415 (by decide) h0.1 rfl ?_
  refine sw_callVi (As := []) (k := 92) rfl dX10_firstPartyBehind_44 t_936 mf_X0_partyWithMostSeats h0.2.2.2.2.2.2.2.2.2.1.1 q_cl0 (by decide) (Nat.le_of_ble_eq_true rfl) (fun l => c_X0_partyWithMostSeats l 92 u_3 h0.2.2.2.2.2.2.2.2.2.1) (fun r u_4 => ?_)
  exact sw_iret dX10_firstPartyBehind_47
set_option maxRecDepth 100000 in
theorem w_X10_swings_L47 {ι : qI} {b : Nat}  (h0 : is_X10 ι) (x1 : Int32) (x3 : Int32) (x4 : Int32) {K74 : Int32 → qS → qR} {K83 : qS → qR} (hK74 : ∀ (e5 : Int32) (u : qS), SW RX10 cX10_swings 6 (some .int) 8 ι b 74 [(5, .int e5)] [] u (K74 e5 u)) (hK83 : ∀  (u : qS), SW RX10 cX10_swings 6 (some .int) 8 ι b 83 [] [] u (K83  u)) (fu : Nat) (x5 : Int32) (u : qS) : SW RX10 cX10_swings 6 (some .int) 8 ι b 47 [(0, .ref (b + 0)), (1, .int x1), (3, .int x3), (4, .int x4), (5, .int x5)] [] u (q_it1 (m_X10_swings_L47 x1 x3 x4 K74 K83) fu x5 u) := by
  refine SW.it1 (fun x5 => [(0, .ref (b + 0)), (1, .int x1), (3, .int x3), (4, .int x4), (5, .int x5)]) (fun self ih x5 u => ?_) fu x5 u
  unfold m_X10_swings_L47
  refine sw_iload 4 dX10_swings_47 rfl ?_
  refine sw_aload_n 0 dX10_swings_49 rfl rfl ?_
  refine sw_getr q_cl10 1 (r := 2) dX10_swings_50 t_405 (by decide) h0.1 rfl ?_
  refine sw_getr q_cl0 17 (r := 9) dX10_swings_53 t_95 (by decide) h0.2.2.1.1 rfl ?_
  refine sw_iload_n 1 dX10_swings_56 rfl rfl ?_
  refine sw_iald dX10_swings_57 h0.2.2.1.2.2.2.2.2.2.2.1 (fun a => ?_)
  refine sw_icmp_gt 83 dX10_swings_58 (by decide) ?_ ?_
  · exact SW.sub [] rfl (hK83  u)
  · refine sw_aload_n 0 dX10_swings_61 rfl rfl ?_
    refine sw_iload_n 1 dX10_swings_62 rfl rfl ?_
    refine sw_iload 4 dX10_swings_63 rfl ?_
    refine sw_iload_n 2 dX10_swings_65 rfl rfl ?_
    refine sw_callVi (As := [.int x1, .int x5, .int x3]) (k := 0) rfl dX10_swings_66 t_932 mf_X10_firstPartyBehind h0.1 q_cl10 (by decide) (Nat.le_of_ble_eq_true rfl) (fun l => c_X10_firstPartyBehind l x1 x5 x3 u h0) (fun r u_8 => ?_)
    refine sw_iload 3 dX10_swings_69 rfl ?_
    refine sw_icmp_eq 77 dX10_swings_71 (by decide) ?_ ?_
    · refine sw_iinc (lv' := [(5, .int (x5 + (1 : Int32))), (0, .ref (b + 0)), (1, .int x1), (3, .int x3), (4, .int x4)]) 4 dX10_swings_77 rfl (congrArg (x5 + ·) (by decide)) (by decide) rfl ?_
      refine sw_goto 47 dX10_swings_80 (by decide) ?_
      exact SW.sub [1, 2, 3, 4, 0] rfl (ih (x5 + (1 : Int32)) u_8)
    · exact SW.sub [4] rfl (hK74 x5 u_8)
set_option maxRecDepth 100000 in
theorem c_X10_swings (l : Launch) {ι : qI} {b : Nat}  (x1 : Int32) (x2 : Int32) (u : qS) (h0 : is_X10 ι) : CN l yX10_swings cX10_swings 6 (some .int) 8 ι b [.ref (b + 0), .int x1, .int x2] u (m_X10_swings x1 x2 u) := by
  refine CN.of_SW (own := RX10) rfl (by decide) (Nat.le_of_ble_eq_true rfl) [(0, .ref (b + 0)), (1, .int x1), (2, .int x2)] rfl ?_
  unfold m_X10_swings
  refine sw_aload_n 0 dX10_swings_0 rfl rfl ?_
  refine sw_getr q_cl10 1 (r := 2) dX10_swings_1 t_405 (by decide) h0.1 rfl ?_
  refine sw_iload_n 1 dX10_swings_4 rfl rfl ?_
  refine sw_callVi (As := [.int x1]) (k := 2) rfl dX10_swings_5 t_894 mf_X0_isTree h0.2.2.1.1 q_cl0 (by decide) (Nat.le_of_ble_eq_true rfl) (fun l => c_X0_isTree l 2 x1 u h0.2.2.1) (fun r u_1 => ?_)
  refine sw_if_eq 21 dX10_swings_8 (by decide) ?_ ?_
  · refine sw_iconst (-1 : Int32) dX10_swings_21 (by decide) ?_
    exact sw_iret dX10_swings_22
  · refine sw_iload_n 2 dX10_swings_11 rfl rfl ?_
    refine sw_iconst (1 : Int32) dX10_swings_12 (by decide) ?_
    refine sw_bipush (20 : Int32) dX10_swings_13 (by decide) ?_
    refine sw_callSi (As := [.int x2, .int (1 : Int32), .int (20 : Int32)]) rfl dX10_swings_15 t_457 mf_X10_isWithin (by decide) (Nat.le_of_ble_eq_true rfl) (fun l => c_X10_isWithin l x2 (1 : Int32) (20 : Int32) u_1 ) (fun r_2 u_3 => ?_)
    refine sw_if_ne 23 dX10_swings_18 (by decide) ?_ ?_
    · refine sw_iconst (-1 : Int32) dX10_swings_21 (by decide) ?_
      exact sw_iret dX10_swings_22
    · refine sw_aload_n 0 dX10_swings_23 rfl rfl ?_
      refine sw_iload_n 2 dX10_swings_24 rfl rfl ?_
      refine sw_callVi (As := [.int x2]) (k := 0) rfl dX10_swings_25 t_928 mf_X10_weeksToLastSeating h0.1 q_cl10 (by decide) (Nat.le_of_ble_eq_true rfl) (fun l => c_X10_weeksToLastSeating l x2 u_3 h0) (fun r_4 u_5 => ?_)
      refine sw_istore_n (lv' := [(3, .int r_4), (0, .ref (b + 0)), (1, .int x1), (2, .int x2)]) dX10_swings_28 rfl (by decide) rfl ?_
      refine sw_iload_n 0 dX10_swings_29 rfl rfl ?_
      refine sw_if_ne 35 dX10_swings_30 (by decide) ?_ ?_
      · refine sw_iconst (-1 : Int32) dX10_swings_33 (by decide) ?_
        exact sw_iret dX10_swings_34
      · refine sw_aload_n 1 dX10_swings_35 rfl rfl ?_
        refine sw_iload_n 2 dX10_swings_36 rfl rfl ?_
        refine sw_iconst (0 : Int32) dX10_swings_37 (by decide) ?_
        refine sw_iload_n 0 dX10_swings_38 rfl rfl ?_
        refine sw_callVi (As := [.int x1, .int (0 : Int32), .int r_4]) (k := 0) rfl dX10_swings_39 t_932 mf_X10_firstPartyBehind h0.1 q_cl10 (by decide) (Nat.le_of_ble_eq_true rfl) (fun l => c_X10_firstPartyBehind l x1 (0 : Int32) r_4 u_5 h0) (fun r_6 u_7 => ?_)
        refine sw_istore (lv' := [(4, .int r_6), (3, .int r_4), (0, .ref (b + 0)), (1, .int x1), (2, .int x2)]) dX10_swings_42 (by decide) rfl ?_
        refine sw_iconst (1 : Int32) dX10_swings_44 (by decide) ?_
        refine sw_istore (lv' := [(5, .int (1 : Int32)), (4, .int r_6), (3, .int r_4), (0, .ref (b + 0)), (1, .int x1), (2, .int x2)]) dX10_swings_45 (by decide) rfl ?_
        refine SW.sub (lv' := [(0, .ref (b + 0)), (1, .int x1), (3, .int r_4), (4, .int r_6), (5, .int (1 : Int32))]) [3, 4, 2, 1, 0] rfl ?_
        refine w_X10_swings_L47 h0 x1 r_4 r_6 (fun x5 u_9 => ?_) (fun u_10 => ?_) q_F (1 : Int32) u_7
        · refine sw_iload 0 dX10_swings_74 rfl ?_
          exact sw_iret dX10_swings_76
        · refine sw_iconst (-1 : Int32) dX10_swings_83 (by decide) ?_
          exact sw_iret dX10_swings_84
set_option maxRecDepth 100000 in
theorem c_J6_bitCount_0f7a4 (l : Launch) {ι : qI} {b : Nat}  (x0 : Int32) (u : qS)  : CN l yJ6_bitCount_0f7a4 cJ6_bitCount_0f7a4 1 (some .int) 1 ι b [.int x0] u (m_J6_bitCount_0f7a4 x0 u) := by
  refine CN.of_SW (own := RJ6) rfl (by decide) (Nat.le_of_ble_eq_true rfl) [(0, .int x0)] rfl ?_
  unfold m_J6_bitCount_0f7a4
  refine sw_iload_n 0 dJ6_bitCount_0f7a4_0 rfl rfl ?_
  refine sw_iload_n 0 dJ6_bitCount_0f7a4_1 rfl rfl ?_
  refine sw_iconst (1 : Int32) dJ6_bitCount_0f7a4_2 (by decide) ?_
  refine sw_qushr dJ6_bitCount_0f7a4_3 ?_
  refine sw_ldcw dJ6_bitCount_0f7a4_4 t_944 ?_
  refine sw_iand dJ6_bitCount_0f7a4_7 ?_
  refine sw_isub dJ6_bitCount_0f7a4_8 ?_
  refine SW.name (fun y0 => ?_)
  refine sw_istore_n (lv' := [(0, .int y0)]) dJ6_bitCount_0f7a4_9 rfl (by decide) rfl ?_
  refine sw_iload_n 0 dJ6_bitCount_0f7a4_10 rfl rfl ?_
  refine sw_ldcw dJ6_bitCount_0f7a4_11 t_945 ?_
  refine sw_iand dJ6_bitCount_0f7a4_14 ?_
  refine sw_iload_n 0 dJ6_bitCount_0f7a4_15 rfl rfl ?_
  refine sw_iconst (2 : Int32) dJ6_bitCount_0f7a4_16 (by decide) ?_
  refine sw_qushr dJ6_bitCount_0f7a4_17 ?_
  refine sw_ldcw dJ6_bitCount_0f7a4_18 t_945 ?_
  refine sw_iand dJ6_bitCount_0f7a4_21 ?_
  refine sw_iadd dJ6_bitCount_0f7a4_22 ?_
  refine SW.name (fun y0_1 => ?_)
  refine sw_istore_n (lv' := [(0, .int y0_1)]) dJ6_bitCount_0f7a4_23 rfl (by decide) rfl ?_
  refine sw_iload_n 0 dJ6_bitCount_0f7a4_24 rfl rfl ?_
  refine sw_iload_n 0 dJ6_bitCount_0f7a4_25 rfl rfl ?_
  refine sw_iconst (4 : Int32) dJ6_bitCount_0f7a4_26 (by decide) ?_
  refine sw_qushr dJ6_bitCount_0f7a4_27 ?_
  refine sw_iadd dJ6_bitCount_0f7a4_28 ?_
  refine sw_ldcw dJ6_bitCount_0f7a4_29 t_946 ?_
  refine sw_iand dJ6_bitCount_0f7a4_32 ?_
  refine SW.name (fun y0_2 => ?_)
  refine sw_istore_n (lv' := [(0, .int y0_2)]) dJ6_bitCount_0f7a4_33 rfl (by decide) rfl ?_
  refine sw_iload_n 0 dJ6_bitCount_0f7a4_34 rfl rfl ?_
  refine sw_iload_n 0 dJ6_bitCount_0f7a4_35 rfl rfl ?_
  refine sw_bipush (8 : Int32) dJ6_bitCount_0f7a4_36 (by decide) ?_
  refine sw_qushr dJ6_bitCount_0f7a4_38 ?_
  refine sw_iadd dJ6_bitCount_0f7a4_39 ?_
  refine SW.name (fun y0_3 => ?_)
  refine sw_istore_n (lv' := [(0, .int y0_3)]) dJ6_bitCount_0f7a4_40 rfl (by decide) rfl ?_
  refine sw_iload_n 0 dJ6_bitCount_0f7a4_41 rfl rfl ?_
  refine sw_iload_n 0 dJ6_bitCount_0f7a4_42 rfl rfl ?_
  refine sw_bipush (16 : Int32) dJ6_bitCount_0f7a4_43 (by decide) ?_
  refine sw_qushr dJ6_bitCount_0f7a4_45 ?_
  refine sw_iadd dJ6_bitCount_0f7a4_46 ?_
  refine SW.name (fun y0_4 => ?_)
  refine sw_istore_n (lv' := [(0, .int y0_4)]) dJ6_bitCount_0f7a4_47 rfl (by decide) rfl ?_
  refine sw_iload_n 0 dJ6_bitCount_0f7a4_48 rfl rfl ?_
  refine sw_bipush (63 : Int32) dJ6_bitCount_0f7a4_49 (by decide) ?_
  refine sw_iand dJ6_bitCount_0f7a4_51 ?_
  exact sw_iret dJ6_bitCount_0f7a4_52
set_option maxRecDepth 100000 in
theorem w_X10_isEachFedAt_L2 {ι : qI} {b : Nat}  (h0 : is_X10 ι) (x1 : Int32) {K36 : qS → qR} {K44 : qS → qR} (hK36 : ∀  (u : qS), SW RX10 cX10_isEachFedAt 4 (some .boolean) 1 ι b 36 [] [] u (K36  u)) (hK44 : ∀  (u : qS), SW RX10 cX10_isEachFedAt 4 (some .boolean) 1 ι b 44 [] [] u (K44  u)) (fu : Nat) (x2 : Int32) (u : qS) : SW RX10 cX10_isEachFedAt 4 (some .boolean) 1 ι b 2 [(0, .ref (b + 0)), (1, .int x1), (2, .int x2)] [] u (q_it1 (m_X10_isEachFedAt_L2 x1 K36 K44) fu x2 u) := by
  refine SW.it1 (fun x2 => [(0, .ref (b + 0)), (1, .int x1), (2, .int x2)]) (fun self ih x2 u => ?_) fu x2 u
  unfold m_X10_isEachFedAt_L2
  refine sw_iload_n 2 dX10_isEachFedAt_2 rfl rfl ?_
  refine sw_aload_n 0 dX10_isEachFedAt_3 rfl rfl ?_
  refine sw_getr q_cl10 1 (r := 2) dX10_isEachFedAt_4 t_405 (by decide) h0.1 rfl ?_
  refine sw_geti q_cl0 9 dX10_isEachFedAt_7 t_68 (by decide) h0.2.2.1.1 rfl ?_
  refine sw_icmp_ge 44 dX10_isEachFedAt_10 (by decide) ?_ ?_
  · exact SW.sub [] rfl (hK44  u)
  · refine sw_aload_n 0 dX10_isEachFedAt_13 rfl rfl ?_
    refine sw_getr q_cl10 0 (r := 1) dX10_isEachFedAt_14 t_404 (by decide) h0.1 rfl ?_
    refine sw_getr q_cl9 2 (r := 19) dX10_isEachFedAt_17 t_279 (by decide) h0.2.1.1 rfl ?_
    refine sw_getr q_cl4 3 (r := 22) dX10_isEachFedAt_20 t_201 (by decide) h0.2.1.2.2.2.1.1 rfl ?_
    refine sw_iload_n 2 dX10_isEachFedAt_23 rfl rfl ?_
    refine sw_iald dX10_isEachFedAt_24 h0.2.1.2.2.2.1.2.2.2 (fun a => ?_)
    refine sw_istore_n (lv' := [(3, .int a), (0, .ref (b + 0)), (1, .int x1), (2, .int x2)]) dX10_isEachFedAt_25 rfl (by decide) rfl ?_
    refine sw_iload_n 0 dX10_isEachFedAt_26 rfl rfl ?_
    refine SW.jn0 38 ([(0, .ref (b + 0)), (1, .int x1), (2, .int x2)]) ([]) (fun  u_1 => ?_) (fun J38 hJ38 => ?_)
    · refine sw_iinc (lv' := [(2, .int (x2 + (1 : Int32))), (0, .ref (b + 0)), (1, .int x1)]) 2 dX10_isEachFedAt_38 rfl (congrArg (x2 + ·) (by decide)) (by decide) rfl ?_
      refine sw_goto 2 dX10_isEachFedAt_41 (by decide) ?_
      exact SW.sub [1, 2, 0] rfl (ih (x2 + (1 : Int32)) u_1)
    · refine sw_if_eq 38 dX10_isEachFedAt_27 (by decide) ?_ ?_
      · exact SW.sub [1, 2, 3] rfl (hJ38  u)
      · refine sw_iload_n 0 dX10_isEachFedAt_30 rfl rfl ?_
        refine sw_iload_n 2 dX10_isEachFedAt_31 rfl rfl ?_
        refine sw_iand dX10_isEachFedAt_32 ?_
        refine sw_if_ne 38 dX10_isEachFedAt_33 (by decide) ?_ ?_
        · exact SW.sub [] rfl (hK36  u)
        · exact SW.sub [1, 2, 3] rfl (hJ38  u)
set_option maxRecDepth 100000 in
theorem c_X10_isEachFedAt (l : Launch) {ι : qI} {b : Nat}  (x1 : Int32) (u : qS) (h0 : is_X10 ι) : CN l yX10_isEachFedAt cX10_isEachFedAt 4 (some .boolean) 1 ι b [.ref (b + 0), .int x1] u (m_X10_isEachFedAt x1 u) := by
  refine CN.of_SW (own := RX10) rfl (by decide) (Nat.le_of_ble_eq_true rfl) [(0, .ref (b + 0)), (1, .int x1)] rfl ?_
  unfold m_X10_isEachFedAt
  refine sw_iconst (0 : Int32) dX10_isEachFedAt_0 (by decide) ?_
  refine sw_istore_n (lv' := [(2, .int (0 : Int32)), (0, .ref (b + 0)), (1, .int x1)]) dX10_isEachFedAt_1 rfl (by decide) rfl ?_
  refine SW.sub (lv' := [(0, .ref (b + 0)), (1, .int x1), (2, .int (0 : Int32))]) [1, 2, 0] rfl ?_
  refine w_X10_isEachFedAt_L2 h0 x1 (fun u_2 => ?_) (fun u_3 => ?_) q_F (0 : Int32) u
  · refine sw_iconst (0 : Int32) dX10_isEachFedAt_36 (by decide) ?_
    exact sw_zret0 dX10_isEachFedAt_37
  · refine sw_iconst (1 : Int32) dX10_isEachFedAt_44 (by decide) ?_
    exact sw_zret1 dX10_isEachFedAt_45
set_option maxRecDepth 100000 in
theorem w_X10_feeds_L19 {ι : qI} {b : Nat}  (h0 : is_X10 ι) (x1 : Int32) {K50 : Int32 → qS → qR} (hK50 : ∀ (e2 : Int32) (u : qS), SW RX10 cX10_feeds 4 (some .int) 2 ι b 50 [(1, .int x1), (2, .int e2)] [] u (K50 e2 u)) (fu : Nat) (x2 : Int32) (x3 : Int32) (u : qS) : SW RX10 cX10_feeds 4 (some .int) 2 ι b 19 [(0, .ref (b + 0)), (1, .int x1), (2, .int x2), (3, .int x3)] [] u (q_it2 (m_X10_feeds_L19 x1 K50) fu x2 x3 u) := by
  refine SW.it2 (fun x2 x3 => [(0, .ref (b + 0)), (1, .int x1), (2, .int x2), (3, .int x3)]) (fun self ih x2 x3 u => ?_) fu x2 x3 u
  unfold m_X10_feeds_L19
  refine sw_iload_n 3 dX10_feeds_19 rfl rfl ?_
  refine sw_if_lt 50 dX10_feeds_20 (by decide) ?_ ?_
  · exact SW.sub [1, 2] rfl (hK50 x2 u)
  · refine sw_iload_n 3 dX10_feeds_23 rfl rfl ?_
    refine sw_callSi (As := [.int x3]) rfl dX10_feeds_24 t_941 mf_J6_bitCount_0f7a4 (by decide) (Nat.le_of_ble_eq_true rfl) (fun l => c_J6_bitCount_0f7a4 l x3 u ) (fun r u_2 => ?_)
    refine sw_iload_n 2 dX10_feeds_27 rfl rfl ?_
    refine sw_callSi (As := [.int x2]) rfl dX10_feeds_28 t_941 mf_J6_bitCount_0f7a4 (by decide) (Nat.le_of_ble_eq_true rfl) (fun l => c_J6_bitCount_0f7a4 l x2 u_2 ) (fun r_3 u_4 => ?_)
    refine SW.jn1 44 (fun x2_5 => [(0, .ref (b + 0)), (1, .int x1), (2, .int x2_5), (3, .int x3)]) (fun x2_5 => []) (fun x2_5 u_6 => ?_) (fun J44 hJ44 => ?_)
    · refine sw_iinc (lv' := [(3, .int (x3 + (-1 : Int32))), (0, .ref (b + 0)), (1, .int x1), (2, .int x2_5)]) 3 dX10_feeds_44 rfl (congrArg (x3 + ·) (by decide)) (by decide) rfl ?_
      refine sw_goto 19 dX10_feeds_47 (by decide) ?_
      exact SW.sub [1, 2, 3, 0] rfl (ih x2_5 (x3 + (-1 : Int32)) u_6)
    · refine sw_icmp_gt 44 dX10_feeds_31 (by decide) ?_ ?_
      · exact SW.sub [0, 1, 2, 3] rfl (hJ44 x2 u_4)
      · refine sw_aload_n 0 dX10_feeds_34 rfl rfl ?_
        refine sw_iload_n 3 dX10_feeds_35 rfl rfl ?_
        refine sw_callVi (As := [.int x3]) (k := 0) rfl dX10_feeds_36 t_947 mf_X10_isEachFedAt h0.1 q_cl10 (by decide) (Nat.le_of_ble_eq_true rfl) (fun l => c_X10_isEachFedAt l x3 u_4 h0) (fun r_7 u_8 => ?_)
        refine sw_if_eq 44 dX10_feeds_39 (by decide) ?_ ?_
        · exact SW.sub [0, 1, 2, 3] rfl (hJ44 x2 u_8)
        · refine sw_iload_n 3 dX10_feeds_42 rfl rfl ?_
          refine sw_istore_n (lv' := [(2, .int x3), (0, .ref (b + 0)), (1, .int x1), (3, .int x3)]) dX10_feeds_43 rfl (by decide) rfl ?_
          exact SW.sub [1, 2, 0, 3] rfl (hJ44 x3 u_8)
set_option maxRecDepth 100000 in
theorem c_X10_feeds (l : Launch) {ι : qI} {b : Nat}  (x1 : Int32) (u : qS) (h0 : is_X10 ι) : CN l yX10_feeds cX10_feeds 4 (some .int) 2 ι b [.ref (b + 0), .int x1] u (m_X10_feeds x1 u) := by
  refine CN.of_SW (own := RX10) rfl (by decide) (Nat.le_of_ble_eq_true rfl) [(0, .ref (b + 0)), (1, .int x1)] rfl ?_
  unfold m_X10_feeds
  refine sw_iload_n 1 dX10_feeds_0 rfl rfl ?_
  refine sw_iconst (0 : Int32) dX10_feeds_1 (by decide) ?_
  refine sw_iconst (1 : Int32) dX10_feeds_2 (by decide) ?_
  refine sw_callSi (As := [.int x1, .int (0 : Int32), .int (1 : Int32)]) rfl dX10_feeds_3 t_457 mf_X10_isWithin (by decide) (Nat.le_of_ble_eq_true rfl) (fun l => c_X10_isWithin l x1 (0 : Int32) (1 : Int32) u ) (fun r u_1 => ?_)
  refine sw_if_ne 11 dX10_feeds_6 (by decide) ?_ ?_
  · refine sw_iconst (-1 : Int32) dX10_feeds_9 (by decide) ?_
    exact sw_iret dX10_feeds_10
  · refine sw_sipush (1023 : Int32) dX10_feeds_11 (by decide) ?_
    refine sw_istore_n (lv' := [(2, .int (1023 : Int32)), (0, .ref (b + 0)), (1, .int x1)]) dX10_feeds_14 rfl (by decide) rfl ?_
    refine sw_sipush (1023 : Int32) dX10_feeds_15 (by decide) ?_
    refine sw_istore_n (lv' := [(3, .int (1023 : Int32)), (2, .int (1023 : Int32)), (0, .ref (b + 0)), (1, .int x1)]) dX10_feeds_18 rfl (by decide) rfl ?_
    refine SW.sub (lv' := [(0, .ref (b + 0)), (1, .int x1), (2, .int (1023 : Int32)), (3, .int (1023 : Int32))]) [2, 3, 1, 0] rfl ?_
    refine w_X10_feeds_L19 h0 x1 (fun x2 u_9 => ?_) q_F (1023 : Int32) (1023 : Int32) u_1
    refine sw_iload_n 0 dX10_feeds_50 rfl rfl ?_
    refine sw_if_ne 61 dX10_feeds_51 (by decide) ?_ ?_
    · refine sw_iload_n 1 dX10_feeds_54 rfl rfl ?_
      refine sw_callSi (As := [.int x2]) rfl dX10_feeds_55 t_941 mf_J6_bitCount_0f7a4 (by decide) (Nat.le_of_ble_eq_true rfl) (fun l => c_J6_bitCount_0f7a4 l x2 u_9 ) (fun r_10 u_11 => ?_)
      refine sw_goto 62 dX10_feeds_58 (by decide) ?_
      exact sw_iret dX10_feeds_62
    · refine sw_iload_n 1 dX10_feeds_61 rfl rfl ?_
      exact sw_iret dX10_feeds_62
set_option maxRecDepth 100000 in
theorem c_X1_add (l : Launch) {ι : qI} {b : Nat} (k : Nat) (x1 : Int32) (x2 : Int32) (u : qS) (h0 : is_X1 ι k) : CN l yX1_add cX1_add 3 (some .int) 1 ι b [.ref (b + k), .int x1, .int x2] u (m_X1_add k x1 x2 u) := by
  refine CN.of_SW (own := RX1) rfl (by decide) (Nat.le_of_ble_eq_true rfl) [(0, .ref (b + k)), (1, .int x1), (2, .int x2)] rfl ?_
  unfold m_X1_add
  refine sw_aload_n 0 dX1_add_0 rfl rfl ?_
  refine sw_geti q_cl1 0 dX1_add_1 t_250 (by decide) h0.1 rfl ?_
  refine sw_bipush (8 : Int32) dX1_add_4 (by decide) ?_
  refine sw_icmp_ge 39 dX1_add_6 (by decide) ?_ ?_
  · refine sw_aload_n 0 dX1_add_39 rfl rfl ?_
    refine sw_geti q_cl1 0 dX1_add_40 t_250 (by decide) h0.1 rfl ?_
    exact sw_iret dX1_add_43
  · refine sw_aload_n 0 dX1_add_9 rfl rfl ?_
    refine sw_getr q_cl1 1 (r := (k + 1)) dX1_add_10 t_252 (by decide) h0.1 rfl ?_
    refine sw_aload_n 0 dX1_add_13 rfl rfl ?_
    refine sw_geti q_cl1 0 dX1_add_14 t_250 (by decide) h0.1 rfl ?_
    refine sw_iload_n 1 dX1_add_17 rfl rfl ?_
    refine sw_iast dX1_add_18 h0.2.1 (fun u_1 => ?_)
    refine sw_aload_n 0 dX1_add_19 rfl rfl ?_
    refine sw_getr q_cl1 2 (r := (k + 2)) dX1_add_20 t_253 (by decide) h0.1 rfl ?_
    refine sw_aload_n 0 dX1_add_23 rfl rfl ?_
    refine sw_geti q_cl1 0 dX1_add_24 t_250 (by decide) h0.1 rfl ?_
    refine sw_iload_n 2 dX1_add_27 rfl rfl ?_
    refine sw_iast dX1_add_28 h0.2.2 (fun u_2 => ?_)
    refine sw_aload_n 0 dX1_add_29 rfl rfl ?_
    refine sw_dup dX1_add_30 rfl ?_
    refine sw_geti q_cl1 0 dX1_add_31 t_250 (by decide) h0.1 rfl ?_
    refine sw_iconst (1 : Int32) dX1_add_34 (by decide) ?_
    refine sw_iadd dX1_add_35 ?_
    refine sw_puti q_cl1 0 dX1_add_36 t_250 (by decide) (by decide +kernel) rfl h0.1 rfl (fun u_3 => ?_)
    refine sw_aload_n 0 dX1_add_39 rfl rfl ?_
    refine sw_geti q_cl1 0 dX1_add_40 t_250 (by decide) h0.1 rfl ?_
    exact sw_iret dX1_add_43
set_option maxRecDepth 100000 in
theorem c_X10_core (l : Launch) {ι : qI} {b : Nat}  (x1 : Int32) (x2 : Int32) (u : qS) (h0 : is_X10 ι) : CN l yX10_core cX10_core 3 (some .int) 2 ι b [.ref (b + 0), .int x1, .int x2] u (m_X10_core x1 x2 u) := by
  refine CN.of_SW (own := RX10) rfl (by decide) (Nat.le_of_ble_eq_true rfl) [(0, .ref (b + 0)), (1, .int x1), (2, .int x2)] rfl ?_
  unfold m_X10_core
  refine sw_iload_n 1 dX10_core_0 rfl rfl ?_
  refine sw_iconst (-1 : Int32) dX10_core_1 (by decide) ?_
  refine sw_icmp_ne 18 dX10_core_2 (by decide) ?_ ?_
  · refine sw_aload_n 0 dX10_core_5 rfl rfl ?_
    refine sw_getr q_cl10 0 (r := 1) dX10_core_6 t_404 (by decide) h0.1 rfl ?_
    refine sw_getr q_cl9 4 (r := 28) dX10_core_9 t_284 (by decide) h0.2.1.1 rfl ?_
    refine sw_iconst (0 : Int32) dX10_core_12 (by decide) ?_
    refine sw_puti q_cl1 0 dX10_core_13 t_251 (by decide) (by decide +kernel) rfl h0.2.1.2.2.2.2.2.1.1 rfl (fun u_6 => ?_)
    refine sw_iconst (0 : Int32) dX10_core_16 (by decide) ?_
    exact sw_iret dX10_core_17
  · refine sw_aload_n 0 dX10_core_18 rfl rfl ?_
    refine sw_getr q_cl10 1 (r := 2) dX10_core_19 t_405 (by decide) h0.1 rfl ?_
    refine sw_iload_n 1 dX10_core_22 rfl rfl ?_
    refine sw_callVi (As := [.int x1]) (k := 2) rfl dX10_core_23 t_480 mf_X0_isParty h0.2.2.1.1 q_cl0 (by decide) (Nat.le_of_ble_eq_true rfl) (fun l => c_X0_isParty l 2 x1 u h0.2.2.1) (fun r u_1 => ?_)
    refine sw_if_eq 51 dX10_core_26 (by decide) ?_ ?_
    · refine sw_iconst (-1 : Int32) dX10_core_51 (by decide) ?_
      exact sw_iret dX10_core_52
    · refine sw_iload_n 2 dX10_core_29 rfl rfl ?_
      refine sw_callSi (As := [.int x2]) rfl dX10_core_30 t_507 mf_X10_isPlace (by decide) (Nat.le_of_ble_eq_true rfl) (fun l => c_X10_isPlace l x2 u_1 ) (fun r_2 u_3 => ?_)
      refine sw_if_eq 51 dX10_core_33 (by decide) ?_ ?_
      · refine sw_iconst (-1 : Int32) dX10_core_51 (by decide) ?_
        exact sw_iret dX10_core_52
      · refine sw_aload_n 0 dX10_core_36 rfl rfl ?_
        refine sw_getr q_cl10 0 (r := 1) dX10_core_37 t_404 (by decide) h0.1 rfl ?_
        refine sw_getr q_cl9 4 (r := 28) dX10_core_40 t_284 (by decide) h0.2.1.1 rfl ?_
        refine sw_geti q_cl1 0 dX10_core_43 t_251 (by decide) h0.2.1.2.2.2.2.2.1.1 rfl ?_
        refine sw_bipush (8 : Int32) dX10_core_46 (by decide) ?_
        refine sw_icmp_lt 53 dX10_core_48 (by decide) ?_ ?_
        · refine sw_aload_n 0 dX10_core_53 rfl rfl ?_
          refine sw_getr q_cl10 0 (r := 1) dX10_core_54 t_404 (by decide) h0.1 rfl ?_
          refine sw_getr q_cl9 4 (r := 28) dX10_core_57 t_284 (by decide) h0.2.1.1 rfl ?_
          refine sw_iload_n 1 dX10_core_60 rfl rfl ?_
          refine sw_iload_n 2 dX10_core_61 rfl rfl ?_
          refine sw_callVi (As := [.int x1, .int x2]) (k := 28) rfl dX10_core_62 t_955 mf_X1_add h0.2.1.2.2.2.2.2.1.1 q_cl1 (by decide) (Nat.le_of_ble_eq_true rfl) (fun l => c_X1_add l 28 x1 x2 u_3 h0.2.1.2.2.2.2.2.1) (fun r_4 u_5 => ?_)
          exact sw_iret dX10_core_65
        · refine sw_iconst (-1 : Int32) dX10_core_51 (by decide) ?_
          exact sw_iret dX10_core_52
set_option maxRecDepth 100000 in
theorem w_X1_canBeOf_L3 {ι : qI} {b : Nat} (k : Nat) (k1 : Nat) (h0 : is_X1 ι k) (h1 : is_X0 ι k1) (x2 : Int32) (x3 : Int32) {K41 : qS → qR} {K49 : qS → qR} (hK41 : ∀  (u : qS), SW RX1 cX1_canBeOf 5 (some .boolean) 2 ι b 41 [] [] u (K41  u)) (hK49 : ∀  (u : qS), SW RX1 cX1_canBeOf 5 (some .boolean) 2 ι b 49 [] [] u (K49  u)) (fu : Nat) (x4 : Int32) (u : qS) : SW RX1 cX1_canBeOf 5 (some .boolean) 2 ι b 3 [(0, .ref (b + k)), (1, .ref (b + k1)), (2, .int x2), (3, .int x3), (4, .int x4)] [] u (q_it1 (m_X1_canBeOf_L3 k k1 x2 x3 K41 K49) fu x4 u) := by
  refine SW.it1 (fun x4 => [(0, .ref (b + k)), (1, .ref (b + k1)), (2, .int x2), (3, .int x3), (4, .int x4)]) (fun self ih x4 u => ?_) fu x4 u
  unfold m_X1_canBeOf_L3
  refine sw_iload 4 dX1_canBeOf_3 rfl ?_
  refine sw_aload_n 0 dX1_canBeOf_5 rfl rfl ?_
  refine sw_geti q_cl1 0 dX1_canBeOf_6 t_250 (by decide) h0.1 rfl ?_
  refine sw_icmp_ge 49 dX1_canBeOf_9 (by decide) ?_ ?_
  · exact SW.sub [] rfl (hK49  u)
  · refine sw_iload_n 3 dX1_canBeOf_12 rfl rfl ?_
    refine sw_aload_n 0 dX1_canBeOf_13 rfl rfl ?_
    refine sw_getr q_cl1 2 (r := (k + 2)) dX1_canBeOf_14 t_253 (by decide) h0.1 rfl ?_
    refine sw_iload 4 dX1_canBeOf_17 rfl ?_
    refine sw_iald dX1_canBeOf_19 h0.2.2 (fun a => ?_)
    refine sw_ishr dX1_canBeOf_20 ?_
    refine sw_iconst (1 : Int32) dX1_canBeOf_21 (by decide) ?_
    refine sw_iand dX1_canBeOf_22 ?_
    refine sw_if_eq 41 dX1_canBeOf_23 (by decide) ?_ ?_
    · exact SW.sub [] rfl (hK41  u)
    · refine sw_aload_n 1 dX1_canBeOf_26 rfl rfl ?_
      refine sw_iload_n 2 dX1_canBeOf_27 rfl rfl ?_
      refine sw_aload_n 0 dX1_canBeOf_28 rfl rfl ?_
      refine sw_getr q_cl1 1 (r := (k + 1)) dX1_canBeOf_29 t_252 (by decide) h0.1 rfl ?_
      refine sw_iload 4 dX1_canBeOf_32 rfl ?_
      refine sw_iald dX1_canBeOf_34 h0.2.1 (fun a_1 => ?_)
      refine sw_callVi (As := [.int x2, .int a_1]) (k := k1) rfl dX1_canBeOf_35 t_967 mf_X0_tasteFor h1.1 q_cl0 (by decide) (Nat.le_of_ble_eq_true rfl) (fun l => c_X0_tasteFor l k1 x2 a_1 u h1) (fun r u_2 => ?_)
      refine sw_if_ne 43 dX1_canBeOf_38 (by decide) ?_ ?_
      · exact SW.sub [] rfl (hK41  u_2)
      · refine sw_iinc (lv' := [(4, .int (x4 + (1 : Int32))), (0, .ref (b + k)), (1, .ref (b + k1)), (2, .int x2), (3, .int x3)]) 4 dX1_canBeOf_43 rfl (congrArg (x4 + ·) (by decide)) (by decide) rfl ?_
        refine sw_goto 3 dX1_canBeOf_46 (by decide) ?_
        exact SW.sub [1, 2, 3, 4, 0] rfl (ih (x4 + (1 : Int32)) u_2)
set_option maxRecDepth 100000 in
theorem c_X1_canBeOf (l : Launch) {ι : qI} {b : Nat} (k : Nat) (k1 : Nat) (x2 : Int32) (x3 : Int32) (u : qS) (h0 : is_X1 ι k) (h1 : is_X0 ι k1) : CN l yX1_canBeOf cX1_canBeOf 5 (some .boolean) 2 ι b [.ref (b + k), .ref (b + k1), .int x2, .int x3] u (m_X1_canBeOf k k1 x2 x3 u) := by
  refine CN.of_SW (own := RX1) rfl (by decide) (Nat.le_of_ble_eq_true rfl) [(0, .ref (b + k)), (1, .ref (b + k1)), (2, .int x2), (3, .int x3)] rfl ?_
  unfold m_X1_canBeOf
  refine sw_iconst (0 : Int32) dX1_canBeOf_0 (by decide) ?_
  refine sw_istore (lv' := [(4, .int (0 : Int32)), (0, .ref (b + k)), (1, .ref (b + k1)), (2, .int x2), (3, .int x3)]) dX1_canBeOf_1 (by decide) rfl ?_
  refine SW.sub (lv' := [(0, .ref (b + k)), (1, .ref (b + k1)), (2, .int x2), (3, .int x3), (4, .int (0 : Int32))]) [1, 2, 3, 4, 0] rfl ?_
  refine w_X1_canBeOf_L3 k k1 h0 h1 x2 x3 (fun u_3 => ?_) (fun u_4 => ?_) q_F (0 : Int32) u
  · refine sw_iconst (0 : Int32) dX1_canBeOf_41 (by decide) ?_
    exact sw_zret0 dX1_canBeOf_42
  · refine sw_iconst (1 : Int32) dX1_canBeOf_49 (by decide) ?_
    exact sw_zret1 dX1_canBeOf_50
set_option maxRecDepth 100000 in
theorem w_X10_askNext_L40 {ι : qI} {b : Nat}  (h0 : is_X10 ι) (x1 : Int32) (x2 : Int32) (x3 : Int32) (x4 : Int32) (x5 : Int32) {K86 : Int32 → qS → qR} (hK86 : ∀ (e6 : Int32) (u : qS), SW RX10 cX10_askNext 8 (some .int) 2 ι b 86 [(0, .ref (b + 0)), (1, .int x1), (2, .int x2), (3, .int x3), (4, .int x4), (5, .int x5), (6, .int e6)] [] u (K86 e6 u)) (fu : Nat) (x6 : Int32) (x7 : Int32) (u : qS) : SW RX10 cX10_askNext 8 (some .int) 2 ι b 40 [(0, .ref (b + 0)), (1, .int x1), (2, .int x2), (3, .int x3), (4, .int x4), (5, .int x5), (6, .int x6), (7, .int x7)] [] u (q_it2 (m_X10_askNext_L40 x1 x2 x3 x4 x5 K86) fu x6 x7 u) := by
  refine SW.it2 (fun x6 x7 => [(0, .ref (b + 0)), (1, .int x1), (2, .int x2), (3, .int x3), (4, .int x4), (5, .int x5), (6, .int x6), (7, .int x7)]) (fun self ih x6 x7 u => ?_) fu x6 x7 u
  unfold m_X10_askNext_L40
  refine sw_iload 7 dX10_askNext_40 rfl ?_
  refine sw_aload_n 0 dX10_askNext_42 rfl rfl ?_
  refine sw_getr q_cl10 1 (r := 2) dX10_askNext_43 t_405 (by decide) h0.1 rfl ?_
  refine sw_geti q_cl0 9 dX10_askNext_46 t_68 (by decide) h0.2.2.1.1 rfl ?_
  refine sw_icmp_ge 86 dX10_askNext_49 (by decide) ?_ ?_
  · exact SW.sub [0, 1, 2, 3, 4, 5, 6] rfl (hK86 x6 u)
  · refine sw_iload_n 1 dX10_askNext_52 rfl rfl ?_
    refine sw_iload 7 dX10_askNext_53 rfl ?_
    refine sw_ishr dX10_askNext_55 ?_
    refine sw_iconst (1 : Int32) dX10_askNext_56 (by decide) ?_
    refine sw_iand dX10_askNext_57 ?_
    refine sw_iconst (1 : Int32) dX10_askNext_58 (by decide) ?_
    refine SW.jn1 80 (fun x6_2 => [(0, .ref (b + 0)), (1, .int x1), (2, .int x2), (3, .int x3), (4, .int x4), (5, .int x5), (6, .int x6_2), (7, .int x7)]) (fun x6_2 => []) (fun x6_2 u_3 => ?_) (fun J80 hJ80 => ?_)
    · refine sw_iinc (lv' := [(7, .int (x7 + (1 : Int32))), (0, .ref (b + 0)), (1, .int x1), (2, .int x2), (3, .int x3), (4, .int x4), (5, .int x5), (6, .int x6_2)]) 7 dX10_askNext_80 rfl (congrArg (x7 + ·) (by decide)) (by decide) rfl ?_
      refine sw_goto 40 dX10_askNext_83 (by decide) ?_
      exact SW.sub [1, 2, 3, 4, 5, 6, 7, 0] rfl (ih x6_2 (x7 + (1 : Int32)) u_3)
    · refine sw_icmp_ne 80 dX10_askNext_59 (by decide) ?_ ?_
      · refine sw_aload_n 0 dX10_askNext_62 rfl rfl ?_
        refine sw_getr q_cl10 1 (r := 2) dX10_askNext_63 t_405 (by decide) h0.1 rfl ?_
        refine sw_iload 7 dX10_askNext_66 rfl ?_
        refine sw_iload 5 dX10_askNext_68 rfl ?_
        refine sw_callVi (As := [.int x7, .int x5]) (k := 2) rfl dX10_askNext_70 t_902 mf_X0_tasteFor h0.2.2.1.1 q_cl0 (by decide) (Nat.le_of_ble_eq_true rfl) (fun l => c_X0_tasteFor l 2 x7 x5 u h0.2.2.1) (fun r u_4 => ?_)
        refine sw_iconst (5 : Int32) dX10_askNext_73 (by decide) ?_
        refine sw_icmp_lt 80 dX10_askNext_74 (by decide) ?_ ?_
        · exact SW.sub [0, 1, 2, 3, 4, 5, 6, 7] rfl (hJ80 x6 u_4)
        · refine sw_iinc (lv' := [(6, .int (x6 + (1 : Int32))), (0, .ref (b + 0)), (1, .int x1), (2, .int x2), (3, .int x3), (4, .int x4), (5, .int x5), (7, .int x7)]) 6 dX10_askNext_77 rfl (congrArg (x6 + ·) (by decide)) (by decide) rfl ?_
          exact SW.sub [1, 2, 3, 4, 5, 6, 0, 7] rfl (hJ80 (x6 + (1 : Int32)) u_4)
      · exact SW.sub [0, 1, 2, 3, 4, 5, 6, 7] rfl (hJ80 x6 u)
set_option maxRecDepth 100000 in
theorem w_X10_askNext_L22 {ι : qI} {b : Nat}  (h0 : is_X10 ι) (x1 : Int32) (x2 : Int32) {K117 : Int32 → qS → qR} (hK117 : ∀ (e3 : Int32) (u : qS), SW RX10 cX10_askNext 8 (some .int) 2 ι b 117 [(3, .int e3)] [] u (K117 e3 u)) (fu : Nat) (x3 : Int32) (x4 : Int32) (x5 : Int32) (u : qS) : SW RX10 cX10_askNext 8 (some .int) 2 ι b 22 [(0, .ref (b + 0)), (1, .int x1), (2, .int x2), (3, .int x3), (4, .int x4), (5, .int x5)] [] u (q_it3 (m_X10_askNext_L22 x1 x2 K117) fu x3 x4 x5 u) := by
  refine SW.it3 (fun x3 x4 x5 => [(0, .ref (b + 0)), (1, .int x1), (2, .int x2), (3, .int x3), (4, .int x4), (5, .int x5)]) (fun self ih x3 x4 x5 u => ?_) fu x3 x4 x5 u
  unfold m_X10_askNext_L22
  refine sw_iload 5 dX10_askNext_22 rfl ?_
  refine sw_aload_n 0 dX10_askNext_24 rfl rfl ?_
  refine sw_getr q_cl10 1 (r := 2) dX10_askNext_25 t_405 (by decide) h0.1 rfl ?_
  refine sw_geti q_cl0 7 dX10_askNext_28 t_61 (by decide) h0.2.2.1.1 rfl ?_
  refine sw_icmp_ge 117 dX10_askNext_31 (by decide) ?_ ?_
  · exact SW.sub [3] rfl (hK117 x3 u)
  · refine sw_iconst (0 : Int32) dX10_askNext_34 (by decide) ?_
    refine sw_istore (lv' := [(6, .int (0 : Int32)), (0, .ref (b + 0)), (1, .int x1), (2, .int x2), (3, .int x3), (4, .int x4), (5, .int x5)]) dX10_askNext_35 (by decide) rfl ?_
    refine sw_iconst (0 : Int32) dX10_askNext_37 (by decide) ?_
    refine sw_istore (lv' := [(7, .int (0 : Int32)), (6, .int (0 : Int32)), (0, .ref (b + 0)), (1, .int x1), (2, .int x2), (3, .int x3), (4, .int x4), (5, .int x5)]) dX10_askNext_38 (by decide) rfl ?_
    refine SW.sub (lv' := [(0, .ref (b + 0)), (1, .int x1), (2, .int x2), (3, .int x3), (4, .int x4), (5, .int x5), (6, .int (0 : Int32)), (7, .int (0 : Int32))]) [2, 3, 4, 5, 6, 7, 1, 0] rfl ?_
    refine w_X10_askNext_L40 h0 x1 x2 x3 x4 x5 (fun x6 u_5 => ?_) q_F (0 : Int32) (0 : Int32) u
    refine sw_iload 6 dX10_askNext_86 rfl ?_
    refine sw_iload_n 2 dX10_askNext_88 rfl rfl ?_
    refine sw_iload 6 dX10_askNext_89 rfl ?_
    refine sw_isub dX10_askNext_91 ?_
    refine sw_qmax dX10_askNext_92 t_972 t_609 t_14 t_610 (by decide) (Nat.le_of_ble_eq_true rfl) ?_
    refine SW.name (fun y7 => ?_)
    refine sw_istore (lv' := [(7, .int y7), (0, .ref (b + 0)), (1, .int x1), (2, .int x2), (3, .int x3), (4, .int x4), (5, .int x5), (6, .int x6)]) dX10_askNext_95 (by decide) rfl ?_
    refine sw_iload 0 dX10_askNext_97 rfl ?_
    refine sw_iload 5 dX10_askNext_99 rfl ?_
    refine SW.jn2 111 (fun x3_6 x4_7 => [(0, .ref (b + 0)), (1, .int x1), (2, .int x2), (3, .int x3_6), (4, .int x4_7), (5, .int x5)]) (fun x3_6 x4_7 => []) (fun x3_6 x4_7 u_8 => ?_) (fun J111 hJ111 => ?_)
    · refine sw_iinc (lv' := [(5, .int (x5 + (1 : Int32))), (0, .ref (b + 0)), (1, .int x1), (2, .int x2), (3, .int x3_6), (4, .int x4_7)]) 5 dX10_askNext_111 rfl (congrArg (x5 + ·) (by decide)) (by decide) rfl ?_
      refine sw_goto 22 dX10_askNext_114 (by decide) ?_
      exact SW.sub [1, 2, 3, 4, 5, 0] rfl (ih x3_6 x4_7 (x5 + (1 : Int32)) u_8)
    · refine sw_icmp_ge 111 dX10_askNext_101 (by decide) ?_ ?_
      · exact SW.sub [1, 2, 3, 4, 5, 6] rfl (hJ111 x3 x4 u_5)
      · refine sw_iload 6 dX10_askNext_104 rfl ?_
        refine sw_istore_n (lv' := [(3, .int x5), (7, .int y7), (0, .ref (b + 0)), (1, .int x1), (2, .int x2), (4, .int x4), (5, .int x5), (6, .int x6)]) dX10_askNext_106 rfl (by decide) rfl ?_
        refine sw_iload 1 dX10_askNext_107 rfl ?_
        refine sw_istore (lv' := [(4, .int y7), (3, .int x5), (7, .int y7), (0, .ref (b + 0)), (1, .int x1), (2, .int x2), (5, .int x5), (6, .int x6)]) dX10_askNext_109 (by decide) rfl ?_
        exact SW.sub [3, 4, 5, 1, 0, 6] rfl (hJ111 x5 y7 u_5)
set_option maxRecDepth 100000 in
theorem c_X10_askNext (l : Launch) {ι : qI} {b : Nat}  (x1 : Int32) (u : qS) (h0 : is_X10 ι) : CN l yX10_askNext cX10_askNext 8 (some .int) 2 ι b [.ref (b + 0), .int x1] u (m_X10_askNext x1 u) := by
  refine CN.of_SW (own := RX10) rfl (by decide) (Nat.le_of_ble_eq_true rfl) [(0, .ref (b + 0)), (1, .int x1)] rfl ?_
  unfold m_X10_askNext
  refine sw_iload_n 1 dX10_askNext_0 rfl rfl ?_
  refine sw_callSi (As := [.int x1]) rfl dX10_askNext_1 t_941 mf_J6_bitCount_0f7a4 (by decide) (Nat.le_of_ble_eq_true rfl) (fun l => c_J6_bitCount_0f7a4 l x1 u ) (fun r u_1 => ?_)
  refine sw_istore_n (lv' := [(2, .int r), (0, .ref (b + 0)), (1, .int x1)]) dX10_askNext_4 rfl (by decide) rfl ?_
  refine sw_iload_n 0 dX10_askNext_5 rfl rfl ?_
  refine sw_iconst (2 : Int32) dX10_askNext_6 (by decide) ?_
  refine sw_icmp_ge 12 dX10_askNext_7 (by decide) ?_ ?_
  · refine sw_iconst (-1 : Int32) dX10_askNext_12 (by decide) ?_
    refine sw_istore_n (lv' := [(3, .int (-1 : Int32)), (2, .int r), (0, .ref (b + 0)), (1, .int x1)]) dX10_askNext_13 rfl (by decide) rfl ?_
    refine sw_iload_n 1 dX10_askNext_14 rfl rfl ?_
    refine sw_iconst (1 : Int32) dX10_askNext_15 (by decide) ?_
    refine sw_iadd dX10_askNext_16 ?_
    refine SW.name (fun y4 => ?_)
    refine sw_istore (lv' := [(4, .int y4), (3, .int (-1 : Int32)), (2, .int r), (0, .ref (b + 0)), (1, .int x1)]) dX10_askNext_17 (by decide) rfl ?_
    refine sw_iconst (0 : Int32) dX10_askNext_19 (by decide) ?_
    refine sw_istore (lv' := [(5, .int (0 : Int32)), (4, .int y4), (3, .int (-1 : Int32)), (2, .int r), (0, .ref (b + 0)), (1, .int x1)]) dX10_askNext_20 (by decide) rfl ?_
    refine SW.sub (lv' := [(0, .ref (b + 0)), (1, .int x1), (2, .int r), (3, .int (-1 : Int32)), (4, .int y4), (5, .int (0 : Int32))]) [4, 5, 3, 2, 1, 0] rfl ?_
    refine w_X10_askNext_L22 h0 x1 r (fun x3 u_9 => ?_) q_F (-1 : Int32) y4 (0 : Int32) u_1
    refine sw_iload_n 0 dX10_askNext_117 rfl rfl ?_
    exact sw_iret dX10_askNext_118
  · refine sw_iconst (-1 : Int32) dX10_askNext_10 (by decide) ?_
    exact sw_iret dX10_askNext_11
set_option maxRecDepth 100000 in
theorem w_X10_whose_L15 {ι : qI} {b : Nat}  (h0 : is_X10 ι) (x1 : Int32) {K68 : Int32 → qS → qR} (hK68 : ∀ (e2 : Int32) (u : qS), SW RX10 cX10_whose 4 (some .int) 3 ι b 68 [(0, .ref (b + 0)), (1, .int x1), (2, .int e2)] [] u (K68 e2 u)) (fu : Nat) (x2 : Int32) (x3 : Int32) (u : qS) : SW RX10 cX10_whose 4 (some .int) 3 ι b 15 [(0, .ref (b + 0)), (1, .int x1), (2, .int x2), (3, .int x3)] [] u (q_it2 (m_X10_whose_L15 x1 K68) fu x2 x3 u) := by
  refine SW.it2 (fun x2 x3 => [(0, .ref (b + 0)), (1, .int x1), (2, .int x2), (3, .int x3)]) (fun self ih x2 x3 u => ?_) fu x2 x3 u
  unfold m_X10_whose_L15
  refine sw_iload_n 3 dX10_whose_15 rfl rfl ?_
  refine sw_aload_n 0 dX10_whose_16 rfl rfl ?_
  refine sw_getr q_cl10 1 (r := 2) dX10_whose_17 t_405 (by decide) h0.1 rfl ?_
  refine sw_geti q_cl0 9 dX10_whose_20 t_68 (by decide) h0.2.2.1.1 rfl ?_
  refine sw_icmp_ge 68 dX10_whose_23 (by decide) ?_ ?_
  · exact SW.sub [0, 1, 2] rfl (hK68 x2 u)
  · refine sw_aload_n 0 dX10_whose_26 rfl rfl ?_
    refine sw_getr q_cl10 0 (r := 1) dX10_whose_27 t_404 (by decide) h0.1 rfl ?_
    refine sw_getr q_cl9 4 (r := 28) dX10_whose_30 t_284 (by decide) h0.2.1.1 rfl ?_
    refine sw_aload_n 0 dX10_whose_33 rfl rfl ?_
    refine sw_getr q_cl10 1 (r := 2) dX10_whose_34 t_405 (by decide) h0.1 rfl ?_
    refine sw_iload_n 3 dX10_whose_37 rfl rfl ?_
    refine sw_aload_n 0 dX10_whose_38 rfl rfl ?_
    refine sw_getr q_cl10 0 (r := 1) dX10_whose_39 t_404 (by decide) h0.1 rfl ?_
    refine sw_getr q_cl9 2 (r := 19) dX10_whose_42 t_279 (by decide) h0.2.1.1 rfl ?_
    refine sw_getr q_cl4 3 (r := 22) dX10_whose_45 t_201 (by decide) h0.2.1.2.2.2.1.1 rfl ?_
    refine sw_iload_n 3 dX10_whose_48 rfl rfl ?_
    refine sw_iald dX10_whose_49 h0.2.1.2.2.2.1.2.2.2 (fun a => ?_)
    refine sw_callVi (As := [.ref (b + 2), .int x3, .int a]) (k := 28) rfl dX10_whose_50 t_963 mf_X1_canBeOf h0.2.1.2.2.2.2.2.1.1 q_cl1 (by decide) (Nat.le_of_ble_eq_true rfl) (fun l => c_X1_canBeOf l 28 2 x3 a u h0.2.1.2.2.2.2.2.1 h0.2.2.1) (fun r u_2 => ?_)
    refine SW.jn1 62 (fun x2_3 => [(0, .ref (b + 0)), (1, .int x1), (2, .int x2_3), (3, .int x3)]) (fun x2_3 => []) (fun x2_3 u_4 => ?_) (fun J62 hJ62 => ?_)
    · refine sw_iinc (lv' := [(3, .int (x3 + (1 : Int32))), (0, .ref (b + 0)), (1, .int x1), (2, .int x2_3)]) 3 dX10_whose_62 rfl (congrArg (x3 + ·) (by decide)) (by decide) rfl ?_
      refine sw_goto 15 dX10_whose_65 (by decide) ?_
      exact SW.sub [1, 2, 3, 0] rfl (ih x2_3 (x3 + (1 : Int32)) u_4)
    · refine sw_if_eq 62 dX10_whose_53 (by decide) ?_ ?_
      · exact SW.sub [0, 1, 2, 3] rfl (hJ62 x2 u_2)
      · refine sw_iload_n 2 dX10_whose_56 rfl rfl ?_
        refine sw_iconst (1 : Int32) dX10_whose_57 (by decide) ?_
        refine sw_iload_n 3 dX10_whose_58 rfl rfl ?_
        refine sw_ishl dX10_whose_59 ?_
        refine sw_ior dX10_whose_60 ?_
        refine SW.name (fun y2 => ?_)
        refine sw_istore_n (lv' := [(2, .int y2), (0, .ref (b + 0)), (1, .int x1), (3, .int x3)]) dX10_whose_61 rfl (by decide) rfl ?_
        exact SW.sub [1, 2, 0, 3] rfl (hJ62 y2 u_2)
set_option maxRecDepth 100000 in
theorem c_X10_whose (l : Launch) {ι : qI} {b : Nat}  (x1 : Int32) (u : qS) (h0 : is_X10 ι) : CN l yX10_whose cX10_whose 4 (some .int) 3 ι b [.ref (b + 0), .int x1] u (m_X10_whose x1 u) := by
  refine CN.of_SW (own := RX10) rfl (by decide) (Nat.le_of_ble_eq_true rfl) [(0, .ref (b + 0)), (1, .int x1)] rfl ?_
  unfold m_X10_whose
  refine sw_iload_n 1 dX10_whose_0 rfl rfl ?_
  refine sw_iconst (0 : Int32) dX10_whose_1 (by decide) ?_
  refine sw_iconst (1 : Int32) dX10_whose_2 (by decide) ?_
  refine sw_callSi (As := [.int x1, .int (0 : Int32), .int (1 : Int32)]) rfl dX10_whose_3 t_457 mf_X10_isWithin (by decide) (Nat.le_of_ble_eq_true rfl) (fun l => c_X10_isWithin l x1 (0 : Int32) (1 : Int32) u ) (fun r u_1 => ?_)
  refine sw_if_ne 11 dX10_whose_6 (by decide) ?_ ?_
  · refine sw_iconst (-1 : Int32) dX10_whose_9 (by decide) ?_
    exact sw_iret dX10_whose_10
  · refine sw_iconst (0 : Int32) dX10_whose_11 (by decide) ?_
    refine sw_istore_n (lv' := [(2, .int (0 : Int32)), (0, .ref (b + 0)), (1, .int x1)]) dX10_whose_12 rfl (by decide) rfl ?_
    refine sw_iconst (0 : Int32) dX10_whose_13 (by decide) ?_
    refine sw_istore_n (lv' := [(3, .int (0 : Int32)), (2, .int (0 : Int32)), (0, .ref (b + 0)), (1, .int x1)]) dX10_whose_14 rfl (by decide) rfl ?_
    refine SW.sub (lv' := [(0, .ref (b + 0)), (1, .int x1), (2, .int (0 : Int32)), (3, .int (0 : Int32))]) [2, 3, 1, 0] rfl ?_
    refine w_X10_whose_L15 h0 x1 (fun x2 u_5 => ?_) q_F (0 : Int32) (0 : Int32) u_1
    refine sw_iload_n 1 dX10_whose_68 rfl rfl ?_
    refine sw_if_ne 76 dX10_whose_69 (by decide) ?_ ?_
    · refine sw_iload_n 2 dX10_whose_72 rfl rfl ?_
      refine sw_goto 81 dX10_whose_73 (by decide) ?_
      exact sw_iret dX10_whose_81
    · refine sw_aload_n 0 dX10_whose_76 rfl rfl ?_
      refine sw_iload_n 2 dX10_whose_77 rfl rfl ?_
      refine sw_callVi (As := [.int x2]) (k := 0) rfl dX10_whose_78 t_968 mf_X10_askNext h0.1 q_cl10 (by decide) (Nat.le_of_ble_eq_true rfl) (fun l => c_X10_askNext l x2 u_5 h0) (fun r_6 u_7 => ?_)
      exact sw_iret dX10_whose_81
set_option maxRecDepth 100000 in
theorem w_X10_leaveUpTo_L12 {ι : qI} {b : Nat}  (h0 : is_X10 ι) (x1 : Int32) (x3 : Int32) {K44 : Int64 → qS → qR} (hK44 : ∀ (e4 : Int64) (u : qS), SW RX10 cX10_leaveUpTo 7 none 1 ι b 44 [(0, .ref (b + 0)), (1, .int x1), (3, .int x3), (4, .long e4)] [] u (K44 e4 u)) (fu : Nat) (x4 : Int64) (x6 : Int32) (u : qS) : SW RX10 cX10_leaveUpTo 7 none 1 ι b 12 [(0, .ref (b + 0)), (1, .int x1), (3, .int x3), (4, .long x4), (6, .int x6)] [] u (q_it2 (m_X10_leaveUpTo_L12 x1 x3 K44) fu x4 x6 u) := by
  refine SW.it2 (fun x4 x6 => [(0, .ref (b + 0)), (1, .int x1), (3, .int x3), (4, .long x4), (6, .int x6)]) (fun self ih x4 x6 u => ?_) fu x4 x6 u
  unfold m_X10_leaveUpTo_L12
  refine sw_iload 4 dX10_leaveUpTo_12 rfl ?_
  refine sw_iload_n 1 dX10_leaveUpTo_14 rfl rfl ?_
  refine sw_icmp_gt 44 dX10_leaveUpTo_15 (by decide) ?_ ?_
  · exact SW.sub [0, 1, 2, 3] rfl (hK44 x4 u)
  · refine sw_iload 4 dX10_leaveUpTo_18 rfl ?_
    refine sw_iload_n 2 dX10_leaveUpTo_20 rfl rfl ?_
    refine sw_icmp_gt 44 dX10_leaveUpTo_21 (by decide) ?_ ?_
    · exact SW.sub [0, 1, 2, 3] rfl (hK44 x4 u)
    · refine sw_lload 3 dX10_leaveUpTo_24 rfl ?_
      refine sw_aload_n 0 dX10_leaveUpTo_26 rfl rfl ?_
      refine sw_getr q_cl10 12 (r := 102) dX10_leaveUpTo_27 t_416 (by decide) h0.1 rfl ?_
      refine sw_iload_n 2 dX10_leaveUpTo_30 rfl rfl ?_
      refine sw_iload 4 dX10_leaveUpTo_31 rfl ?_
      refine sw_isub dX10_leaveUpTo_33 ?_
      refine sw_lald dX10_leaveUpTo_34 h0.2.2.2.2.2.2.2.2.2.2.1 h0.2.2.2.2.2.2.2.2.2.2.2.2 (fun a => ?_)
      refine sw_ladd dX10_leaveUpTo_35 ?_
      refine SW.nameL (fun y4 => ?_)
      refine sw_lstore (lv' := [(4, .long y4), (0, .ref (b + 0)), (1, .int x1), (3, .int x3), (6, .int x6)]) dX10_leaveUpTo_36 (by decide) rfl ?_
      refine sw_iinc (lv' := [(6, .int (x6 + (1 : Int32))), (4, .long y4), (0, .ref (b + 0)), (1, .int x1), (3, .int x3)]) 4 dX10_leaveUpTo_38 rfl (congrArg (x6 + ·) (by decide)) (by decide) rfl ?_
      refine sw_goto 12 dX10_leaveUpTo_41 (by decide) ?_
      exact SW.sub [2, 3, 4, 1, 0] rfl (ih y4 (x6 + (1 : Int32)) u)
set_option maxRecDepth 100000 in
theorem w_X10_leaveUpTo_L2 {ι : qI} {b : Nat}  (h0 : is_X10 ι) (x1 : Int32) {K62 : qS → qR} (hK62 : ∀  (u : qS), SW RX10 cX10_leaveUpTo 7 none 1 ι b 62 [] [] u (K62  u)) (fu : Nat) (x3 : Int32) (u : qS) : SW RX10 cX10_leaveUpTo 7 none 1 ι b 2 [(0, .ref (b + 0)), (1, .int x1), (3, .int x3)] [] u (q_it1 (m_X10_leaveUpTo_L2 x1 K62) fu x3 u) := by
  refine SW.it1 (fun x3 => [(0, .ref (b + 0)), (1, .int x1), (3, .int x3)]) (fun self ih x3 u => ?_) fu x3 u
  unfold m_X10_leaveUpTo_L2
  refine sw_iload_n 2 dX10_leaveUpTo_2 rfl rfl ?_
  refine sw_if_lt 62 dX10_leaveUpTo_3 (by decide) ?_ ?_
  · exact SW.sub [] rfl (hK62  u)
  · refine sw_lconst (0 : Int64) dX10_leaveUpTo_6 (by decide) ?_
    refine sw_lstore (lv' := [(4, .long (0 : Int64)), (0, .ref (b + 0)), (1, .int x1), (3, .int x3)]) dX10_leaveUpTo_7 (by decide) rfl ?_
    refine sw_iconst (0 : Int32) dX10_leaveUpTo_9 (by decide) ?_
    refine sw_istore (lv' := [(6, .int (0 : Int32)), (4, .long (0 : Int64)), (0, .ref (b + 0)), (1, .int x1), (3, .int x3)]) dX10_leaveUpTo_10 (by decide) rfl ?_
    refine SW.sub (lv' := [(0, .ref (b + 0)), (1, .int x1), (3, .int x3), (4, .long (0 : Int64)), (6, .int (0 : Int32))]) [2, 3, 4, 1, 0] rfl ?_
    refine w_X10_leaveUpTo_L12 h0 x1 x3 (fun x4 u_1 => ?_) q_F (0 : Int64) (0 : Int32) u
    refine sw_aload_n 0 dX10_leaveUpTo_44 rfl rfl ?_
    refine sw_getr q_cl10 12 (r := 102) dX10_leaveUpTo_45 t_416 (by decide) h0.1 rfl ?_
    refine sw_iload_n 2 dX10_leaveUpTo_48 rfl rfl ?_
    refine sw_lload 3 dX10_leaveUpTo_49 rfl ?_
    refine sw_ldc2 dX10_leaveUpTo_51 t_981 ?_
    refine sw_qlrm dX10_leaveUpTo_54 (by decide) ?_
    refine sw_last dX10_leaveUpTo_55 h0.2.2.2.2.2.2.2.2.2.2.1 h0.2.2.2.2.2.2.2.2.2.2.2.2 q_onel (fun u_2 => ?_)
    refine sw_iinc (lv' := [(3, .int (x3 + (-1 : Int32))), (0, .ref (b + 0)), (1, .int x1), (4, .long x4)]) 2 dX10_leaveUpTo_56 rfl (congrArg (x3 + ·) (by decide)) (by decide) rfl ?_
    refine sw_goto 2 dX10_leaveUpTo_59 (by decide) ?_
    exact SW.sub [1, 2, 0] rfl (ih (x3 + (-1 : Int32)) u_2)
set_option maxRecDepth 100000 in
theorem c_X10_leaveUpTo (l : Launch) {ι : qI} {b : Nat}  (x1 : Int32) (x2 : Int32) (u : qS) (h0 : is_X10 ι) : CN l yX10_leaveUpTo cX10_leaveUpTo 7 none 1 ι b [.ref (b + 0), .int x1, .int x2] u (m_X10_leaveUpTo x1 x2 u) := by
  refine CN.of_SW (own := RX10) rfl (by decide) (Nat.le_of_ble_eq_true rfl) [(0, .ref (b + 0)), (1, .int x1), (2, .int x2)] rfl ?_
  unfold m_X10_leaveUpTo
  refine sw_iload_n 2 dX10_leaveUpTo_0 rfl rfl ?_
  refine sw_istore_n (lv' := [(3, .int x2), (0, .ref (b + 0)), (1, .int x1), (2, .int x2)]) dX10_leaveUpTo_1 rfl (by decide) rfl ?_
  refine SW.sub (lv' := [(0, .ref (b + 0)), (1, .int x1), (3, .int x2)]) [1, 2, 0] rfl ?_
  refine w_X10_leaveUpTo_L2 h0 x1 (fun u_3 => ?_) q_F x2 u
  exact sw_vret dX10_leaveUpTo_62
set_option maxRecDepth 100000 in
theorem w_X10_left_L21 {ι : qI} {b : Nat}  (h0 : is_X10 ι) (x1 : Int32) {K39 : qS → qR} (hK39 : ∀  (u : qS), SW RX10 cX10_left 3 (some .int) 4 ι b 39 [(0, .ref (b + 0)), (1, .int x1)] [] u (K39  u)) (fu : Nat) (x2 : Int32) (u : qS) : SW RX10 cX10_left 3 (some .int) 4 ι b 21 [(0, .ref (b + 0)), (1, .int x1), (2, .int x2)] [] u (q_it1 (m_X10_left_L21 x1 K39) fu x2 u) := by
  refine SW.it1 (fun x2 => [(0, .ref (b + 0)), (1, .int x1), (2, .int x2)]) (fun self ih x2 u => ?_) fu x2 u
  unfold m_X10_left_L21
  refine sw_iload_n 2 dX10_left_21 rfl rfl ?_
  refine sw_iload_n 1 dX10_left_22 rfl rfl ?_
  refine sw_icmp_gt 39 dX10_left_23 (by decide) ?_ ?_
  · exact SW.sub [0, 1] rfl (hK39  u)
  · refine sw_aload_n 0 dX10_left_26 rfl rfl ?_
    refine sw_getr q_cl10 12 (r := 102) dX10_left_27 t_416 (by decide) h0.1 rfl ?_
    refine sw_iload_n 2 dX10_left_30 rfl rfl ?_
    refine sw_lconst (0 : Int64) dX10_left_31 (by decide) ?_
    refine sw_last dX10_left_32 h0.2.2.2.2.2.2.2.2.2.2.1 h0.2.2.2.2.2.2.2.2.2.2.2.2 q_onel (fun u_3 => ?_)
    refine sw_iinc (lv' := [(2, .int (x2 + (1 : Int32))), (0, .ref (b + 0)), (1, .int x1)]) 2 dX10_left_33 rfl (congrArg (x2 + ·) (by decide)) (by decide) rfl ?_
    refine sw_goto 21 dX10_left_36 (by decide) ?_
    exact SW.sub [1, 2, 0] rfl (ih (x2 + (1 : Int32)) u_3)
set_option maxRecDepth 100000 in
theorem w_X10_left_L41 {ι : qI} {b : Nat}  (h0 : is_X10 ι) (x1 : Int32) {K78 : qS → qR} (hK78 : ∀  (u : qS), SW RX10 cX10_left 3 (some .int) 4 ι b 78 [(0, .ref (b + 0)), (1, .int x1)] [] u (K78  u)) (fu : Nat) (x2 : Int32) (u : qS) : SW RX10 cX10_left 3 (some .int) 4 ι b 41 [(0, .ref (b + 0)), (1, .int x1), (2, .int x2)] [] u (q_it1 (m_X10_left_L41 x1 K78) fu x2 u) := by
  refine SW.it1 (fun x2 => [(0, .ref (b + 0)), (1, .int x1), (2, .int x2)]) (fun self ih x2 u => ?_) fu x2 u
  unfold m_X10_left_L41
  refine sw_iload_n 2 dX10_left_41 rfl rfl ?_
  refine sw_aload_n 0 dX10_left_42 rfl rfl ?_
  refine sw_getr q_cl10 1 (r := 2) dX10_left_43 t_405 (by decide) h0.1 rfl ?_
  refine sw_geti q_cl0 9 dX10_left_46 t_68 (by decide) h0.2.2.1.1 rfl ?_
  refine sw_icmp_ge 78 dX10_left_49 (by decide) ?_ ?_
  · exact SW.sub [0, 1] rfl (hK78  u)
  · refine sw_aload_n 0 dX10_left_52 rfl rfl ?_
    refine sw_aload_n 0 dX10_left_53 rfl rfl ?_
    refine sw_getr q_cl10 0 (r := 1) dX10_left_54 t_404 (by decide) h0.1 rfl ?_
    refine sw_getr q_cl9 1 (r := 12) dX10_left_57 t_276 (by decide) h0.2.1.1 rfl ?_
    refine sw_aload_n 0 dX10_left_60 rfl rfl ?_
    refine sw_getr q_cl10 1 (r := 2) dX10_left_61 t_405 (by decide) h0.1 rfl ?_
    refine sw_iload_n 2 dX10_left_64 rfl rfl ?_
    refine sw_callVi (As := [.ref (b + 2), .int x2]) (k := 12) rfl dX10_left_65 t_900 mf_X2_wants h0.2.1.2.2.1.1 q_cl2 (by decide) (Nat.le_of_ble_eq_true rfl) (fun l => c_X2_wants l 12 2 x2 u h0.2.1.2.2.1 h0.2.2.1) (fun r u_5 => ?_)
    refine sw_iload_n 1 dX10_left_68 rfl rfl ?_
    refine sw_callVv (As := [.int r, .int x1]) (k := 0) rfl dX10_left_69 t_977 mf_X10_leaveUpTo h0.1 q_cl10 (by decide) (Nat.le_of_ble_eq_true rfl) (fun l => c_X10_leaveUpTo l r x1 u_5 h0) (fun _ u_6 => ?_)
    refine sw_iinc (lv' := [(2, .int (x2 + (1 : Int32))), (0, .ref (b + 0)), (1, .int x1)]) 2 dX10_left_72 rfl (congrArg (x2 + ·) (by decide)) (by decide) rfl ?_
    refine sw_goto 41 dX10_left_75 (by decide) ?_
    exact SW.sub [1, 2, 0] rfl (ih (x2 + (1 : Int32)) u_6)
set_option maxRecDepth 100000 in
theorem c_X10_left (l : Launch) {ι : qI} {b : Nat}  (x1 : Int32) (u : qS) (h0 : is_X10 ι) : CN l yX10_left cX10_left 3 (some .int) 4 ι b [.ref (b + 0), .int x1] u (m_X10_left x1 u) := by
  refine CN.of_SW (own := RX10) rfl (by decide) (Nat.le_of_ble_eq_true rfl) [(0, .ref (b + 0)), (1, .int x1)] rfl ?_
  unfold m_X10_left
  refine sw_iload_n 1 dX10_left_0 rfl rfl ?_
  refine sw_iconst (0 : Int32) dX10_left_1 (by decide) ?_
  refine sw_bipush (99 : Int32) dX10_left_2 (by decide) ?_
  refine sw_callSi (As := [.int x1, .int (0 : Int32), .int (99 : Int32)]) rfl dX10_left_4 t_457 mf_X10_isWithin (by decide) (Nat.le_of_ble_eq_true rfl) (fun l => c_X10_isWithin l x1 (0 : Int32) (99 : Int32) u ) (fun r u_1 => ?_)
  refine sw_if_ne 12 dX10_left_7 (by decide) ?_ ?_
  · refine sw_iconst (-1 : Int32) dX10_left_10 (by decide) ?_
    exact sw_iret dX10_left_11
  · refine sw_aload_n 0 dX10_left_12 rfl rfl ?_
    refine sw_getr q_cl10 12 (r := 102) dX10_left_13 t_416 (by decide) h0.1 rfl ?_
    refine sw_iconst (0 : Int32) dX10_left_16 (by decide) ?_
    refine sw_lconst (1 : Int64) dX10_left_17 (by decide) ?_
    refine sw_last dX10_left_18 h0.2.2.2.2.2.2.2.2.2.2.1 h0.2.2.2.2.2.2.2.2.2.2.2.2 q_onel (fun u_2 => ?_)
    refine sw_iconst (1 : Int32) dX10_left_19 (by decide) ?_
    refine sw_istore_n (lv' := [(2, .int (1 : Int32)), (0, .ref (b + 0)), (1, .int x1)]) dX10_left_20 rfl (by decide) rfl ?_
    refine SW.sub (lv' := [(0, .ref (b + 0)), (1, .int x1), (2, .int (1 : Int32))]) [1, 2, 0] rfl ?_
    refine w_X10_left_L21 h0 x1 (fun u_4 => ?_) q_F (1 : Int32) u_2
    refine sw_iconst (0 : Int32) dX10_left_39 (by decide) ?_
    refine sw_istore_n (lv' := [(2, .int (0 : Int32)), (0, .ref (b + 0)), (1, .int x1)]) dX10_left_40 rfl (by decide) rfl ?_
    refine SW.sub (lv' := [(0, .ref (b + 0)), (1, .int x1), (2, .int (0 : Int32))]) [1, 2, 0] rfl ?_
    refine w_X10_left_L41 h0 x1 (fun u_7 => ?_) q_F (0 : Int32) u_4
    refine sw_aload_n 0 dX10_left_78 rfl rfl ?_
    refine sw_getr q_cl10 12 (r := 102) dX10_left_79 t_416 (by decide) h0.1 rfl ?_
    refine sw_iload_n 1 dX10_left_82 rfl rfl ?_
    refine sw_lald dX10_left_83 h0.2.2.2.2.2.2.2.2.2.2.1 h0.2.2.2.2.2.2.2.2.2.2.2.2 (fun a => ?_)
    refine sw_l2i dX10_left_84 ?_
    exact sw_iret dX10_left_85
set_option maxRecDepth 100000 in
theorem w_X0_seatsOf_L4 {ι : qI} {b : Nat} (k : Nat) (h0 : is_X0 ι k) (x1 : Int32) {K36 : Int32 → qS → qR} (hK36 : ∀ (e2 : Int32) (u : qS), SW RX0 cX0_seatsOf 4 (some .int) 1 ι b 36 [(2, .int e2)] [] u (K36 e2 u)) (fu : Nat) (x2 : Int32) (x3 : Int32) (u : qS) : SW RX0 cX0_seatsOf 4 (some .int) 1 ι b 4 [(0, .ref (b + k)), (1, .int x1), (2, .int x2), (3, .int x3)] [] u (q_it2 (m_X0_seatsOf_L4 k x1 K36) fu x2 x3 u) := by
  refine SW.it2 (fun x2 x3 => [(0, .ref (b + k)), (1, .int x1), (2, .int x2), (3, .int x3)]) (fun self ih x2 x3 u => ?_) fu x2 x3 u
  unfold m_X0_seatsOf_L4
  refine sw_iload_n 3 dX0_seatsOf_4 rfl rfl ?_
  refine sw_aload_n 0 dX0_seatsOf_5 rfl rfl ?_
  refine sw_geti q_cl0 7 dX0_seatsOf_6 t_60 (by decide) h0.1 rfl ?_
  refine sw_icmp_ge 36 dX0_seatsOf_9 (by decide) ?_ ?_
  · exact SW.sub [2] rfl (hK36 x2 u)
  · refine sw_iload_n 1 dX0_seatsOf_12 rfl rfl ?_
    refine sw_iload_n 3 dX0_seatsOf_13 rfl rfl ?_
    refine sw_ishr dX0_seatsOf_14 ?_
    refine sw_iconst (1 : Int32) dX0_seatsOf_15 (by decide) ?_
    refine sw_iand dX0_seatsOf_16 ?_
    refine sw_iconst (1 : Int32) dX0_seatsOf_17 (by decide) ?_
    refine SW.jn1 30 (fun x2_1 => [(0, .ref (b + k)), (1, .int x1), (2, .int x2_1), (3, .int x3)]) (fun x2_1 => []) (fun x2_1 u_2 => ?_) (fun J30 hJ30 => ?_)
    · refine sw_iinc (lv' := [(3, .int (x3 + (1 : Int32))), (0, .ref (b + k)), (1, .int x1), (2, .int x2_1)]) 3 dX0_seatsOf_30 rfl (congrArg (x3 + ·) (by decide)) (by decide) rfl ?_
      refine sw_goto 4 dX0_seatsOf_33 (by decide) ?_
      exact SW.sub [1, 2, 3, 0] rfl (ih x2_1 (x3 + (1 : Int32)) u_2)
    · refine sw_icmp_ne 30 dX0_seatsOf_18 (by decide) ?_ ?_
      · refine sw_iload_n 2 dX0_seatsOf_21 rfl rfl ?_
        refine sw_aload_n 0 dX0_seatsOf_22 rfl rfl ?_
        refine sw_getr q_cl0 13 (r := (k + 3)) dX0_seatsOf_23 t_78 (by decide) h0.1 rfl ?_
        refine sw_iload_n 3 dX0_seatsOf_26 rfl rfl ?_
        refine sw_iald dX0_seatsOf_27 h0.2.2.2.1 (fun a => ?_)
        refine sw_iadd dX0_seatsOf_28 ?_
        refine SW.name (fun y2 => ?_)
        refine sw_istore_n (lv' := [(2, .int y2), (0, .ref (b + k)), (1, .int x1), (3, .int x3)]) dX0_seatsOf_29 rfl (by decide) rfl ?_
        exact SW.sub [1, 2, 0, 3] rfl (hJ30 y2 u)
      · exact SW.sub [0, 1, 2, 3] rfl (hJ30 x2 u)
set_option maxRecDepth 100000 in
theorem c_X0_seatsOf (l : Launch) {ι : qI} {b : Nat} (k : Nat) (x1 : Int32) (u : qS) (h0 : is_X0 ι k) : CN l yX0_seatsOf cX0_seatsOf 4 (some .int) 1 ι b [.ref (b + k), .int x1] u (m_X0_seatsOf k x1 u) := by
  refine CN.of_SW (own := RX0) rfl (by decide) (Nat.le_of_ble_eq_true rfl) [(0, .ref (b + k)), (1, .int x1)] rfl ?_
  unfold m_X0_seatsOf
  refine sw_iconst (0 : Int32) dX0_seatsOf_0 (by decide) ?_
  refine sw_istore_n (lv' := [(2, .int (0 : Int32)), (0, .ref (b + k)), (1, .int x1)]) dX0_seatsOf_1 rfl (by decide) rfl ?_
  refine sw_iconst (0 : Int32) dX0_seatsOf_2 (by decide) ?_
  refine sw_istore_n (lv' := [(3, .int (0 : Int32)), (2, .int (0 : Int32)), (0, .ref (b + k)), (1, .int x1)]) dX0_seatsOf_3 rfl (by decide) rfl ?_
  refine SW.sub (lv' := [(0, .ref (b + k)), (1, .int x1), (2, .int (0 : Int32)), (3, .int (0 : Int32))]) [2, 3, 1, 0] rfl ?_
  refine w_X0_seatsOf_L4 k h0 x1 (fun x2 u_3 => ?_) q_F (0 : Int32) (0 : Int32) u
  refine sw_iload_n 0 dX0_seatsOf_36 rfl rfl ?_
  exact sw_iret dX0_seatsOf_37
set_option maxRecDepth 100000 in
theorem w_X10_rules_L40 {ι : qI} {b : Nat}  (h0 : is_X10 ι) (x1 : Int32) (x2 : Int32) {K93 : Int32 → qS → qR} (hK93 : ∀ (e3 : Int32) (u : qS), SW RX10 cX10_rules 6 (some .int) 2 ι b 93 [(1, .int x1), (3, .int e3)] [] u (K93 e3 u)) (fu : Nat) (x3 : Int32) (x4 : Int32) (u : qS) : SW RX10 cX10_rules 6 (some .int) 2 ι b 40 [(0, .ref (b + 0)), (1, .int x1), (2, .int x2), (3, .int x3), (4, .int x4)] [] u (q_it2 (m_X10_rules_L40 x1 x2 K93) fu x3 x4 u) := by
  refine SW.it2 (fun x3 x4 => [(0, .ref (b + 0)), (1, .int x1), (2, .int x2), (3, .int x3), (4, .int x4)]) (fun self ih x3 x4 u => ?_) fu x3 x4 u
  unfold m_X10_rules_L40
  refine sw_iload 4 dX10_rules_40 rfl ?_
  refine sw_if_le 93 dX10_rules_42 (by decide) ?_ ?_
  · exact SW.sub [1, 3] rfl (hK93 x3 u)
  · refine sw_iconst (2 : Int32) dX10_rules_45 (by decide) ?_
    refine sw_aload_n 0 dX10_rules_46 rfl rfl ?_
    refine sw_getr q_cl10 1 (r := 2) dX10_rules_47 t_405 (by decide) h0.1 rfl ?_
    refine sw_iload 4 dX10_rules_50 rfl ?_
    refine sw_callVi (As := [.int x4]) (k := 2) rfl dX10_rules_52 t_986 mf_X0_seatsOf h0.2.2.1.1 q_cl0 (by decide) (Nat.le_of_ble_eq_true rfl) (fun l => c_X0_seatsOf l 2 x4 u h0.2.2.1) (fun r u_4 => ?_)
    refine sw_imul dX10_rules_55 ?_
    refine sw_iload_n 2 dX10_rules_56 rfl rfl ?_
    refine SW.jn1 65 (fun s0 => [(0, .ref (b + 0)), (1, .int x1), (2, .int x2), (3, .int x3), (4, .int x4)]) (fun s0 => [.int s0]) (fun s0 u_5 => ?_) (fun J65 hJ65 => ?_)
    · refine sw_istore (lv' := [(5, .int s0), (0, .ref (b + 0)), (1, .int x1), (2, .int x2), (3, .int x3), (4, .int x4)]) dX10_rules_65 (by decide) rfl ?_
      refine sw_iload 0 dX10_rules_67 rfl ?_
      refine SW.jn1 87 (fun x3_6 => [(0, .ref (b + 0)), (1, .int x1), (2, .int x2), (3, .int x3_6), (4, .int x4)]) (fun x3_6 => []) (fun x3_6 u_7 => ?_) (fun J87 hJ87 => ?_)
      · refine sw_iinc (lv' := [(4, .int (x4 + (-1 : Int32))), (0, .ref (b + 0)), (1, .int x1), (2, .int x2), (3, .int x3_6)]) 4 dX10_rules_87 rfl (congrArg (x4 + ·) (by decide)) (by decide) rfl ?_
        refine sw_goto 40 dX10_rules_90 (by decide) ?_
        exact SW.sub [1, 2, 3, 4, 0] rfl (ih x3_6 (x4 + (-1 : Int32)) u_7)
      · refine sw_if_eq 87 dX10_rules_69 (by decide) ?_ ?_
        · exact SW.sub [1, 2, 3, 4, 5] rfl (hJ87 x3 u_5)
        · refine sw_iload 5 dX10_rules_72 rfl ?_
          refine sw_callSi (As := [.int x4]) rfl dX10_rules_74 t_941 mf_J6_bitCount_0f7a4 (by decide) (Nat.le_of_ble_eq_true rfl) (fun l => c_J6_bitCount_0f7a4 l x4 u_5 ) (fun r_8 u_9 => ?_)
          refine sw_iload_n 4 dX10_rules_77 rfl rfl ?_
          refine sw_callSi (As := [.int x3]) rfl dX10_rules_78 t_941 mf_J6_bitCount_0f7a4 (by decide) (Nat.le_of_ble_eq_true rfl) (fun l => c_J6_bitCount_0f7a4 l x3 u_9 ) (fun r_10 u_11 => ?_)
          refine sw_icmp_gt 87 dX10_rules_81 (by decide) ?_ ?_
          · exact SW.sub [1, 2, 3, 4, 5] rfl (hJ87 x3 u_11)
          · refine sw_iload 5 dX10_rules_84 rfl ?_
            refine sw_istore_n (lv' := [(3, .int x4), (5, .int s0), (0, .ref (b + 0)), (1, .int x1), (2, .int x2), (4, .int x4)]) dX10_rules_86 rfl (by decide) rfl ?_
            exact SW.sub [2, 3, 4, 0, 5] rfl (hJ87 x4 u_11)
    · refine sw_icmp_le 64 dX10_rules_57 (by decide) ?_ ?_
      · refine sw_iconst (0 : Int32) dX10_rules_64 (by decide) ?_
        exact SW.sub [0, 1, 2, 3, 4] rfl (hJ65 (0 : Int32) u_4)
      · refine sw_iconst (1 : Int32) dX10_rules_60 (by decide) ?_
        refine sw_goto 65 dX10_rules_61 (by decide) ?_
        exact SW.sub [0, 1, 2, 3, 4] rfl (hJ65 (1 : Int32) u_4)
set_option maxRecDepth 100000 in
theorem c_X10_rules (l : Launch) {ι : qI} {b : Nat}  (x1 : Int32) (u : qS) (h0 : is_X10 ι) : CN l yX10_rules cX10_rules 6 (some .int) 2 ι b [.ref (b + 0), .int x1] u (m_X10_rules x1 u) := by
  refine CN.of_SW (own := RX10) rfl (by decide) (Nat.le_of_ble_eq_true rfl) [(0, .ref (b + 0)), (1, .int x1)] rfl ?_
  unfold m_X10_rules
  refine sw_aload_n 0 dX10_rules_0 rfl rfl ?_
  refine sw_getr q_cl10 1 (r := 2) dX10_rules_1 t_405 (by decide) h0.1 rfl ?_
  refine sw_bipush (31 : Int32) dX10_rules_4 (by decide) ?_
  refine sw_callVi (As := [.int (31 : Int32)]) (k := 2) rfl dX10_rules_6 t_986 mf_X0_seatsOf h0.2.2.1.1 q_cl0 (by decide) (Nat.le_of_ble_eq_true rfl) (fun l => c_X0_seatsOf l 2 (31 : Int32) u h0.2.2.1) (fun r u_1 => ?_)
  refine sw_istore_n (lv' := [(2, .int r), (0, .ref (b + 0)), (1, .int x1)]) dX10_rules_9 rfl (by decide) rfl ?_
  refine sw_iload_n 2 dX10_rules_10 rfl rfl ?_
  refine sw_iconst (0 : Int32) dX10_rules_11 (by decide) ?_
  refine sw_iconst (1 : Int32) dX10_rules_12 (by decide) ?_
  refine sw_callSi (As := [.int x1, .int (0 : Int32), .int (1 : Int32)]) rfl dX10_rules_13 t_457 mf_X10_isWithin (by decide) (Nat.le_of_ble_eq_true rfl) (fun l => c_X10_isWithin l x1 (0 : Int32) (1 : Int32) u_1 ) (fun r_2 u_3 => ?_)
  refine sw_if_eq 23 dX10_rules_16 (by decide) ?_ ?_
  · refine sw_iconst (-1 : Int32) dX10_rules_23 (by decide) ?_
    exact sw_iret dX10_rules_24
  · refine sw_iload_n 0 dX10_rules_19 rfl rfl ?_
    refine sw_if_ne 25 dX10_rules_20 (by decide) ?_ ?_
    · refine sw_iconst (-1 : Int32) dX10_rules_23 (by decide) ?_
      exact sw_iret dX10_rules_24
    · refine sw_iconst (1 : Int32) dX10_rules_25 (by decide) ?_
      refine sw_aload_n 1 dX10_rules_26 rfl rfl ?_
      refine sw_getr q_cl10 1 (r := 2) dX10_rules_27 t_405 (by decide) h0.1 rfl ?_
      refine sw_geti q_cl0 7 dX10_rules_30 t_61 (by decide) h0.2.2.1.1 rfl ?_
      refine sw_ishl dX10_rules_33 ?_
      refine sw_iconst (1 : Int32) dX10_rules_34 (by decide) ?_
      refine sw_isub dX10_rules_35 ?_
      refine SW.name (fun y3 => ?_)
      refine sw_istore_n (lv' := [(3, .int y3), (2, .int r), (0, .ref (b + 0)), (1, .int x1)]) dX10_rules_36 rfl (by decide) rfl ?_
      refine sw_iload_n 0 dX10_rules_37 rfl rfl ?_
      refine sw_istore (lv' := [(4, .int y3), (3, .int y3), (2, .int r), (0, .ref (b + 0)), (1, .int x1)]) dX10_rules_38 (by decide) rfl ?_
      refine SW.sub (lv' := [(0, .ref (b + 0)), (1, .int x1), (2, .int r), (3, .int y3), (4, .int y3)]) [3, 4, 2, 1, 0] rfl ?_
      refine w_X10_rules_L40 h0 x1 r (fun x3 u_12 => ?_) q_F y3 y3 u_3
      refine sw_iload_n 0 dX10_rules_93 rfl rfl ?_
      refine sw_if_ne 104 dX10_rules_94 (by decide) ?_ ?_
      · refine sw_iload_n 1 dX10_rules_97 rfl rfl ?_
        refine sw_callSi (As := [.int x3]) rfl dX10_rules_98 t_941 mf_J6_bitCount_0f7a4 (by decide) (Nat.le_of_ble_eq_true rfl) (fun l => c_J6_bitCount_0f7a4 l x3 u_12 ) (fun r_13 u_14 => ?_)
        refine sw_goto 105 dX10_rules_101 (by decide) ?_
        exact sw_iret dX10_rules_105
      · refine sw_iload_n 1 dX10_rules_104 rfl rfl ?_
        exact sw_iret dX10_rules_105
set_option maxRecDepth 100000 in
theorem w_X10_weighs_L39 {ι : qI} {b : Nat}  (h0 : is_X10 ι) (x1 : Int32) (x2 : Int32) (x3 : Int32) {K112 : Int32 → qS → qR} (hK112 : ∀ (e4 : Int32) (u : qS), SW RX10 cX10_weighs 8 (some .int) 2 ι b 112 [(4, .int e4)] [] u (K112 e4 u)) (fu : Nat) (x4 : Int32) (x5 : Int32) (u : qS) : SW RX10 cX10_weighs 8 (some .int) 2 ι b 39 [(0, .ref (b + 0)), (1, .int x1), (2, .int x2), (3, .int x3), (4, .int x4), (5, .int x5)] [] u (q_it2 (m_X10_weighs_L39 x1 x2 x3 K112) fu x4 x5 u) := by
  refine SW.it2 (fun x4 x5 => [(0, .ref (b + 0)), (1, .int x1), (2, .int x2), (3, .int x3), (4, .int x4), (5, .int x5)]) (fun self ih x4 x5 u => ?_) fu x4 x5 u
  unfold m_X10_weighs_L39
  refine sw_iload 5 dX10_weighs_39 rfl ?_
  refine sw_iconst (1 : Int32) dX10_weighs_41 (by decide) ?_
  refine sw_aload_n 0 dX10_weighs_42 rfl rfl ?_
  refine sw_getr q_cl10 1 (r := 2) dX10_weighs_43 t_405 (by decide) h0.1 rfl ?_
  refine sw_geti q_cl0 7 dX10_weighs_46 t_61 (by decide) h0.2.2.1.1 rfl ?_
  refine sw_ishl dX10_weighs_49 ?_
  refine sw_icmp_ge 112 dX10_weighs_50 (by decide) ?_ ?_
  · exact SW.sub [4] rfl (hK112 x4 u)
  · refine sw_aload_n 0 dX10_weighs_53 rfl rfl ?_
    refine sw_getr q_cl10 1 (r := 2) dX10_weighs_54 t_405 (by decide) h0.1 rfl ?_
    refine sw_iload 5 dX10_weighs_57 rfl ?_
    refine sw_callVi (As := [.int x5]) (k := 2) rfl dX10_weighs_59 t_986 mf_X0_seatsOf h0.2.2.1.1 q_cl0 (by decide) (Nat.le_of_ble_eq_true rfl) (fun l => c_X0_seatsOf l 2 x5 u h0.2.2.1) (fun r u_4 => ?_)
    refine sw_istore (lv' := [(6, .int r), (0, .ref (b + 0)), (1, .int x1), (2, .int x2), (3, .int x3), (4, .int x4), (5, .int x5)]) dX10_weighs_62 (by decide) rfl ?_
    refine sw_iload 6 dX10_weighs_64 rfl ?_
    refine sw_iload_n 2 dX10_weighs_66 rfl rfl ?_
    refine sw_ishr dX10_weighs_67 ?_
    refine sw_iconst (1 : Int32) dX10_weighs_68 (by decide) ?_
    refine sw_iand dX10_weighs_69 ?_
    refine SW.jn1 78 (fun s0 => [(0, .ref (b + 0)), (1, .int x1), (2, .int x2), (3, .int x3), (4, .int x4), (5, .int x5), (6, .int r)]) (fun s0 => [.int s0]) (fun s0 u_5 => ?_) (fun J78 hJ78 => ?_)
    · refine sw_istore (lv' := [(7, .int s0), (0, .ref (b + 0)), (1, .int x1), (2, .int x2), (3, .int x3), (4, .int x4), (5, .int x5), (6, .int r)]) dX10_weighs_78 (by decide) rfl ?_
      refine sw_iload 0 dX10_weighs_80 rfl ?_
      refine SW.jn1 106 (fun x4_6 => [(0, .ref (b + 0)), (1, .int x1), (2, .int x2), (3, .int x3), (4, .int x4_6), (5, .int x5)]) (fun x4_6 => []) (fun x4_6 u_7 => ?_) (fun J106 hJ106 => ?_)
      · refine sw_iinc (lv' := [(5, .int (x5 + (1 : Int32))), (0, .ref (b + 0)), (1, .int x1), (2, .int x2), (3, .int x3), (4, .int x4_6)]) 5 dX10_weighs_106 rfl (congrArg (x5 + ·) (by decide)) (by decide) rfl ?_
        refine sw_goto 39 dX10_weighs_109 (by decide) ?_
        exact SW.sub [1, 2, 3, 4, 5, 0] rfl (ih x4_6 (x5 + (1 : Int32)) u_7)
      · refine sw_if_eq 106 dX10_weighs_82 (by decide) ?_ ?_
        · exact SW.sub [1, 2, 3, 4, 5, 6] rfl (hJ106 x4 u_5)
        · refine sw_iconst (2 : Int32) dX10_weighs_85 (by decide) ?_
          refine sw_iload 7 dX10_weighs_86 rfl ?_
          refine sw_imul dX10_weighs_88 ?_
          refine sw_iload_n 3 dX10_weighs_89 rfl rfl ?_
          refine sw_icmp_gt 106 dX10_weighs_90 (by decide) ?_ ?_
          · exact SW.sub [1, 2, 3, 4, 5, 6] rfl (hJ106 x4 u_5)
          · refine sw_iconst (2 : Int32) dX10_weighs_93 (by decide) ?_
            refine sw_iload 7 dX10_weighs_94 rfl ?_
            refine sw_iload_n 4 dX10_weighs_96 rfl rfl ?_
            refine sw_iadd dX10_weighs_97 ?_
            refine sw_imul dX10_weighs_98 ?_
            refine sw_iload_n 3 dX10_weighs_99 rfl rfl ?_
            refine sw_icmp_le 106 dX10_weighs_100 (by decide) ?_ ?_
            · exact SW.sub [1, 2, 3, 4, 5, 6] rfl (hJ106 x4 u_5)
            · refine sw_iinc (lv' := [(4, .int (x4 + (1 : Int32))), (7, .int s0), (0, .ref (b + 0)), (1, .int x1), (2, .int x2), (3, .int x3), (5, .int x5), (6, .int r)]) 5 dX10_weighs_103 rfl (congrArg (x4 + ·) (by decide)) (by decide) rfl ?_
              exact SW.sub [2, 3, 4, 5, 0, 6] rfl (hJ106 (x4 + (1 : Int32)) u_5)
    · refine sw_if_ne 77 dX10_weighs_70 (by decide) ?_ ?_
      · refine sw_iconst (1 : Int32) dX10_weighs_73 (by decide) ?_
        refine sw_goto 78 dX10_weighs_74 (by decide) ?_
        exact SW.sub [1, 2, 3, 4, 5, 6, 0] rfl (hJ78 (1 : Int32) u_4)
      · refine sw_iconst (0 : Int32) dX10_weighs_77 (by decide) ?_
        exact SW.sub [1, 2, 3, 4, 5, 6, 0] rfl (hJ78 (0 : Int32) u_4)
set_option maxRecDepth 100000 in
theorem c_X10_weighs (l : Launch) {ι : qI} {b : Nat}  (x1 : Int32) (u : qS) (h0 : is_X10 ι) : CN l yX10_weighs cX10_weighs 8 (some .int) 2 ι b [.ref (b + 0), .int x1] u (m_X10_weighs x1 u) := by
  refine CN.of_SW (own := RX10) rfl (by decide) (Nat.le_of_ble_eq_true rfl) [(0, .ref (b + 0)), (1, .int x1)] rfl ?_
  unfold m_X10_weighs
  refine sw_aload_n 0 dX10_weighs_0 rfl rfl ?_
  refine sw_getr q_cl10 1 (r := 2) dX10_weighs_1 t_405 (by decide) h0.1 rfl ?_
  refine sw_iload_n 1 dX10_weighs_4 rfl rfl ?_
  refine sw_callVi (As := [.int x1]) (k := 2) rfl dX10_weighs_5 t_480 mf_X0_isParty h0.2.2.1.1 q_cl0 (by decide) (Nat.le_of_ble_eq_true rfl) (fun l => c_X0_isParty l 2 x1 u h0.2.2.1) (fun r u_1 => ?_)
  refine sw_if_ne 13 dX10_weighs_8 (by decide) ?_ ?_
  · refine sw_iconst (-1 : Int32) dX10_weighs_11 (by decide) ?_
    exact sw_iret dX10_weighs_12
  · refine sw_aload_n 0 dX10_weighs_13 rfl rfl ?_
    refine sw_getr q_cl10 1 (r := 2) dX10_weighs_14 t_405 (by decide) h0.1 rfl ?_
    refine sw_bipush (31 : Int32) dX10_weighs_17 (by decide) ?_
    refine sw_callVi (As := [.int (31 : Int32)]) (k := 2) rfl dX10_weighs_19 t_986 mf_X0_seatsOf h0.2.2.1.1 q_cl0 (by decide) (Nat.le_of_ble_eq_true rfl) (fun l => c_X0_seatsOf l 2 (31 : Int32) u_1 h0.2.2.1) (fun r_2 u_3 => ?_)
    refine sw_istore_n (lv' := [(2, .int r_2), (0, .ref (b + 0)), (1, .int x1)]) dX10_weighs_22 rfl (by decide) rfl ?_
    refine sw_aload_n 1 dX10_weighs_23 rfl rfl ?_
    refine sw_getr q_cl10 1 (r := 2) dX10_weighs_24 t_405 (by decide) h0.1 rfl ?_
    refine sw_getr q_cl0 13 (r := 5) dX10_weighs_27 t_81 (by decide) h0.2.2.1.1 rfl ?_
    refine sw_iload_n 2 dX10_weighs_30 rfl rfl ?_
    refine sw_iald dX10_weighs_31 h0.2.2.1.2.2.2.1 (fun a => ?_)
    refine sw_istore_n (lv' := [(3, .int a), (2, .int r_2), (0, .ref (b + 0)), (1, .int x1)]) dX10_weighs_32 rfl (by decide) rfl ?_
    refine sw_iconst (0 : Int32) dX10_weighs_33 (by decide) ?_
    refine sw_istore (lv' := [(4, .int (0 : Int32)), (3, .int a), (2, .int r_2), (0, .ref (b + 0)), (1, .int x1)]) dX10_weighs_34 (by decide) rfl ?_
    refine sw_iconst (0 : Int32) dX10_weighs_36 (by decide) ?_
    refine sw_istore (lv' := [(5, .int (0 : Int32)), (4, .int (0 : Int32)), (3, .int a), (2, .int r_2), (0, .ref (b + 0)), (1, .int x1)]) dX10_weighs_37 (by decide) rfl ?_
    refine SW.sub (lv' := [(0, .ref (b + 0)), (1, .int x1), (2, .int r_2), (3, .int a), (4, .int (0 : Int32)), (5, .int (0 : Int32))]) [4, 5, 3, 2, 1, 0] rfl ?_
    refine w_X10_weighs_L39 h0 x1 r_2 a (fun x4 u_8 => ?_) q_F (0 : Int32) (0 : Int32) u_3
    refine sw_iload 0 dX10_weighs_112 rfl ?_
    exact sw_iret dX10_weighs_114
set_option maxRecDepth 100000 in
theorem w_X10_lasts_L17 {ι : qI} {b : Nat}  (h0 : is_X10 ι) (x1 : Int32) {K64 : Int32 → qS → qR} (hK64 : ∀ (e2 : Int32) (u : qS), SW RX10 cX10_lasts 4 (some .int) 4 ι b 64 [(0, .ref (b + 0)), (1, .int x1), (2, .int e2)] [] u (K64 e2 u)) (fu : Nat) (x2 : Int32) (x3 : Int32) (u : qS) : SW RX10 cX10_lasts 4 (some .int) 4 ι b 17 [(0, .ref (b + 0)), (1, .int x1), (2, .int x2), (3, .int x3)] [] u (q_it2 (m_X10_lasts_L17 x1 K64) fu x2 x3 u) := by
  refine SW.it2 (fun x2 x3 => [(0, .ref (b + 0)), (1, .int x1), (2, .int x2), (3, .int x3)]) (fun self ih x2 x3 u => ?_) fu x2 x3 u
  unfold m_X10_lasts_L17
  refine sw_iload_n 3 dX10_lasts_17 rfl rfl ?_
  refine sw_aload_n 0 dX10_lasts_18 rfl rfl ?_
  refine sw_getr q_cl10 1 (r := 2) dX10_lasts_19 t_405 (by decide) h0.1 rfl ?_
  refine sw_geti q_cl0 9 dX10_lasts_22 t_68 (by decide) h0.2.2.1.1 rfl ?_
  refine sw_icmp_ge 64 dX10_lasts_25 (by decide) ?_ ?_
  · exact SW.sub [0, 1, 2] rfl (hK64 x2 u)
  · refine sw_aload_n 0 dX10_lasts_28 rfl rfl ?_
    refine sw_getr q_cl10 1 (r := 2) dX10_lasts_29 t_405 (by decide) h0.1 rfl ?_
    refine sw_iload_n 3 dX10_lasts_32 rfl rfl ?_
    refine sw_iload_n 1 dX10_lasts_33 rfl rfl ?_
    refine sw_callVi (As := [.int x3, .int x1]) (k := 2) rfl dX10_lasts_34 t_902 mf_X0_tasteFor h0.2.2.1.1 q_cl0 (by decide) (Nat.le_of_ble_eq_true rfl) (fun l => c_X0_tasteFor l 2 x3 x1 u h0.2.2.1) (fun r u_2 => ?_)
    refine SW.jn1 58 (fun x2_3 => [(0, .ref (b + 0)), (1, .int x1), (2, .int x2_3), (3, .int x3)]) (fun x2_3 => []) (fun x2_3 u_4 => ?_) (fun J58 hJ58 => ?_)
    · refine sw_iinc (lv' := [(3, .int (x3 + (1 : Int32))), (0, .ref (b + 0)), (1, .int x1), (2, .int x2_3)]) 3 dX10_lasts_58 rfl (congrArg (x3 + ·) (by decide)) (by decide) rfl ?_
      refine sw_goto 17 dX10_lasts_61 (by decide) ?_
      exact SW.sub [1, 2, 3, 0] rfl (ih x2_3 (x3 + (1 : Int32)) u_4)
    · refine sw_if_le 58 dX10_lasts_37 (by decide) ?_ ?_
      · exact SW.sub [0, 1, 2, 3] rfl (hJ58 x2 u_2)
      · refine sw_iload_n 2 dX10_lasts_40 rfl rfl ?_
        refine sw_aload_n 0 dX10_lasts_41 rfl rfl ?_
        refine sw_getr q_cl10 0 (r := 1) dX10_lasts_42 t_404 (by decide) h0.1 rfl ?_
        refine sw_getr q_cl9 1 (r := 12) dX10_lasts_45 t_276 (by decide) h0.2.1.1 rfl ?_
        refine sw_aload_n 0 dX10_lasts_48 rfl rfl ?_
        refine sw_getr q_cl10 1 (r := 2) dX10_lasts_49 t_405 (by decide) h0.1 rfl ?_
        refine sw_iload_n 3 dX10_lasts_52 rfl rfl ?_
        refine sw_callVi (As := [.ref (b + 2), .int x3]) (k := 12) rfl dX10_lasts_53 t_900 mf_X2_wants h0.2.1.2.2.1.1 q_cl2 (by decide) (Nat.le_of_ble_eq_true rfl) (fun l => c_X2_wants l 12 2 x3 u_2 h0.2.1.2.2.1 h0.2.2.1) (fun r_5 u_6 => ?_)
        refine sw_iadd dX10_lasts_56 ?_
        refine SW.name (fun y2 => ?_)
        refine sw_istore_n (lv' := [(2, .int y2), (0, .ref (b + 0)), (1, .int x1), (3, .int x3)]) dX10_lasts_57 rfl (by decide) rfl ?_
        exact SW.sub [1, 2, 0, 3] rfl (hJ58 y2 u_6)
set_option maxRecDepth 100000 in
theorem c_X10_lasts (l : Launch) {ι : qI} {b : Nat}  (x1 : Int32) (u : qS) (h0 : is_X10 ι) : CN l yX10_lasts cX10_lasts 4 (some .int) 4 ι b [.ref (b + 0), .int x1] u (m_X10_lasts x1 u) := by
  refine CN.of_SW (own := RX10) rfl (by decide) (Nat.le_of_ble_eq_true rfl) [(0, .ref (b + 0)), (1, .int x1)] rfl ?_
  unfold m_X10_lasts
  refine sw_aload_n 0 dX10_lasts_0 rfl rfl ?_
  refine sw_getr q_cl10 1 (r := 2) dX10_lasts_1 t_405 (by decide) h0.1 rfl ?_
  refine sw_iload_n 1 dX10_lasts_4 rfl rfl ?_
  refine sw_callVi (As := [.int x1]) (k := 2) rfl dX10_lasts_5 t_480 mf_X0_isParty h0.2.2.1.1 q_cl0 (by decide) (Nat.le_of_ble_eq_true rfl) (fun l => c_X0_isParty l 2 x1 u h0.2.2.1) (fun r u_1 => ?_)
  refine sw_if_ne 13 dX10_lasts_8 (by decide) ?_ ?_
  · refine sw_iconst (-1 : Int32) dX10_lasts_11 (by decide) ?_
    exact sw_iret dX10_lasts_12
  · refine sw_iconst (0 : Int32) dX10_lasts_13 (by decide) ?_
    refine sw_istore_n (lv' := [(2, .int (0 : Int32)), (0, .ref (b + 0)), (1, .int x1)]) dX10_lasts_14 rfl (by decide) rfl ?_
    refine sw_iconst (0 : Int32) dX10_lasts_15 (by decide) ?_
    refine sw_istore_n (lv' := [(3, .int (0 : Int32)), (2, .int (0 : Int32)), (0, .ref (b + 0)), (1, .int x1)]) dX10_lasts_16 rfl (by decide) rfl ?_
    refine SW.sub (lv' := [(0, .ref (b + 0)), (1, .int x1), (2, .int (0 : Int32)), (3, .int (0 : Int32))]) [2, 3, 1, 0] rfl ?_
    refine w_X10_lasts_L17 h0 x1 (fun x2 u_7 => ?_) q_F (0 : Int32) (0 : Int32) u_1
    refine sw_iload_n 2 dX10_lasts_64 rfl rfl ?_
    refine sw_if_le 86 dX10_lasts_65 (by decide) ?_ ?_
    · refine sw_iconst (-1 : Int32) dX10_lasts_86 (by decide) ?_
      exact sw_iret dX10_lasts_87
    · refine sw_aload_n 0 dX10_lasts_68 rfl rfl ?_
      refine sw_getr q_cl10 1 (r := 2) dX10_lasts_69 t_405 (by decide) h0.1 rfl ?_
      refine sw_getr q_cl0 11 (r := 3) dX10_lasts_72 t_74 (by decide) h0.2.2.1.1 rfl ?_
      refine sw_iload_n 1 dX10_lasts_75 rfl rfl ?_
      refine sw_iald dX10_lasts_76 h0.2.2.1.2.1 (fun a => ?_)
      refine sw_iload_n 2 dX10_lasts_77 rfl rfl ?_
      refine sw_iadd dX10_lasts_78 ?_
      refine sw_iconst (1 : Int32) dX10_lasts_79 (by decide) ?_
      refine sw_isub dX10_lasts_80 ?_
      refine sw_iload_n 2 dX10_lasts_81 rfl rfl ?_
      refine sw_idiv dX10_lasts_82 (fun a_8 => ?_)
      refine sw_goto 87 dX10_lasts_83 (by decide) ?_
      exact sw_iret dX10_lasts_87
set_option maxRecDepth 100000 in
theorem c_X10_meets (l : Launch) {ι : qI} {b : Nat}  (x1 : Int32) (x2 : Int32) (u : qS) (h0 : is_X10 ι) : CN l yX10_meets cX10_meets 3 (some .int) 2 ι b [.ref (b + 0), .int x1, .int x2] u (m_X10_meets x1 x2 u) := by
  refine CN.of_SW (own := RX10) rfl (by decide) (Nat.le_of_ble_eq_true rfl) [(0, .ref (b + 0)), (1, .int x1), (2, .int x2)] rfl ?_
  unfold m_X10_meets
  refine sw_aload_n 0 dX10_meets_0 rfl rfl ?_
  refine sw_getr q_cl10 1 (r := 2) dX10_meets_1 t_405 (by decide) h0.1 rfl ?_
  refine sw_iload_n 1 dX10_meets_4 rfl rfl ?_
  refine sw_callVi (As := [.int x1]) (k := 2) rfl dX10_meets_5 t_476 mf_X0_isEater h0.2.2.1.1 q_cl0 (by decide) (Nat.le_of_ble_eq_true rfl) (fun l => c_X0_isEater l 2 x1 u h0.2.2.1) (fun r u_1 => ?_)
  refine sw_if_eq 22 dX10_meets_8 (by decide) ?_ ?_
  · refine sw_iconst (-1 : Int32) dX10_meets_22 (by decide) ?_
    exact sw_iret dX10_meets_23
  · refine sw_aload_n 0 dX10_meets_11 rfl rfl ?_
    refine sw_getr q_cl10 1 (r := 2) dX10_meets_12 t_405 (by decide) h0.1 rfl ?_
    refine sw_iload_n 2 dX10_meets_15 rfl rfl ?_
    refine sw_callVi (As := [.int x2]) (k := 2) rfl dX10_meets_16 t_476 mf_X0_isEater h0.2.2.1.1 q_cl0 (by decide) (Nat.le_of_ble_eq_true rfl) (fun l => c_X0_isEater l 2 x2 u_1 h0.2.2.1) (fun r_2 u_3 => ?_)
    refine sw_if_ne 24 dX10_meets_19 (by decide) ?_ ?_
    · refine sw_iconst (-1 : Int32) dX10_meets_22 (by decide) ?_
      exact sw_iret dX10_meets_23
    · refine sw_aload_n 0 dX10_meets_24 rfl rfl ?_
      refine sw_getr q_cl10 0 (r := 1) dX10_meets_25 t_404 (by decide) h0.1 rfl ?_
      refine sw_getr q_cl9 2 (r := 19) dX10_meets_28 t_279 (by decide) h0.2.1.1 rfl ?_
      refine sw_getr q_cl4 3 (r := 22) dX10_meets_31 t_201 (by decide) h0.2.1.2.2.2.1.1 rfl ?_
      refine sw_iload_n 1 dX10_meets_34 rfl rfl ?_
      refine sw_iald dX10_meets_35 h0.2.1.2.2.2.1.2.2.2 (fun a => ?_)
      refine sw_aload_n 0 dX10_meets_36 rfl rfl ?_
      refine sw_getr q_cl10 0 (r := 1) dX10_meets_37 t_404 (by decide) h0.1 rfl ?_
      refine sw_getr q_cl9 2 (r := 19) dX10_meets_40 t_279 (by decide) h0.2.1.1 rfl ?_
      refine sw_getr q_cl4 3 (r := 22) dX10_meets_43 t_201 (by decide) h0.2.1.2.2.2.1.1 rfl ?_
      refine sw_iload_n 2 dX10_meets_46 rfl rfl ?_
      refine sw_iald dX10_meets_47 h0.2.1.2.2.2.1.2.2.2 (fun a_4 => ?_)
      refine sw_iand dX10_meets_48 ?_
      exact sw_iret dX10_meets_49
set_option maxRecDepth 100000 in
theorem w_X10_goodPick_L8 {ι : qI} {b : Nat}   (x0 : Int32) (x2 : Int32) {K27 : Int32 → qS → qR} {K35 : qS → qR} (hK27 : ∀ (e3 : Int32) (u : qS), SW RX10 cX10_goodPick 4 (some .int) 1 ι b 27 [(3, .int e3)] [] u (K27 e3 u)) (hK35 : ∀  (u : qS), SW RX10 cX10_goodPick 4 (some .int) 1 ι b 35 [] [] u (K35  u)) (fu : Nat) (x3 : Int32) (u : qS) : SW RX10 cX10_goodPick 4 (some .int) 1 ι b 8 [(0, .int x0), (2, .int x2), (3, .int x3)] [] u (q_it1 (m_X10_goodPick_L8 x0 x2 K27 K35) fu x3 u) := by
  refine SW.it1 (fun x3 => [(0, .int x0), (2, .int x2), (3, .int x3)]) (fun self ih x3 u => ?_) fu x3 u
  unfold m_X10_goodPick_L8
  refine sw_iload_n 2 dX10_goodPick_8 rfl rfl ?_
  refine sw_iconst (3 : Int32) dX10_goodPick_9 (by decide) ?_
  refine sw_icmp_gt 35 dX10_goodPick_10 (by decide) ?_ ?_
  · exact SW.sub [] rfl (hK35  u)
  · refine sw_iload_n 2 dX10_goodPick_13 rfl rfl ?_
    refine sw_iload_n 0 dX10_goodPick_14 rfl rfl ?_
    refine sw_icmp_gt 35 dX10_goodPick_15 (by decide) ?_ ?_
    · exact SW.sub [] rfl (hK35  u)
    · refine sw_iload_n 0 dX10_goodPick_18 rfl rfl ?_
      refine sw_iload_n 2 dX10_goodPick_19 rfl rfl ?_
      refine sw_isub dX10_goodPick_20 ?_
      refine sw_iconst (3 : Int32) dX10_goodPick_21 (by decide) ?_
      refine sw_iand dX10_goodPick_22 ?_
      refine sw_iload_n 1 dX10_goodPick_23 rfl rfl ?_
      refine sw_icmp_ne 29 dX10_goodPick_24 (by decide) ?_ ?_
      · exact SW.sub [2] rfl (hK27 x3 u)
      · refine sw_iinc (lv' := [(3, .int (x3 + (1 : Int32))), (0, .int x0), (2, .int x2)]) 2 dX10_goodPick_29 rfl (congrArg (x3 + ·) (by decide)) (by decide) rfl ?_
        refine sw_goto 8 dX10_goodPick_32 (by decide) ?_
        exact SW.sub [1, 2, 0] rfl (ih (x3 + (1 : Int32)) u)
set_option maxRecDepth 100000 in
theorem c_X10_goodPick (l : Launch) {ι : qI} {b : Nat}  (x0 : Int32) (x1 : Int32) (u : qS)  : CN l yX10_goodPick cX10_goodPick 4 (some .int) 1 ι b [.int x0, .int x1] u (m_X10_goodPick x0 x1 u) := by
  refine CN.of_SW (own := RX10) rfl (by decide) (Nat.le_of_ble_eq_true rfl) [(0, .int x0), (1, .int x1)] rfl ?_
  unfold m_X10_goodPick
  refine sw_iload_n 0 dX10_goodPick_0 rfl rfl ?_
  refine sw_iconst (3 : Int32) dX10_goodPick_1 (by decide) ?_
  refine sw_iand dX10_goodPick_2 ?_
  refine sw_iload_n 1 dX10_goodPick_3 rfl rfl ?_
  refine sw_ixor dX10_goodPick_4 ?_
  refine SW.name (fun y2 => ?_)
  refine sw_istore_n (lv' := [(2, .int y2), (0, .int x0), (1, .int x1)]) dX10_goodPick_5 rfl (by decide) rfl ?_
  refine sw_iconst (1 : Int32) dX10_goodPick_6 (by decide) ?_
  refine sw_istore_n (lv' := [(3, .int (1 : Int32)), (2, .int y2), (0, .int x0), (1, .int x1)]) dX10_goodPick_7 rfl (by decide) rfl ?_
  refine SW.sub (lv' := [(0, .int x0), (2, .int y2), (3, .int (1 : Int32))]) [2, 1, 0] rfl ?_
  refine w_X10_goodPick_L8 x0 y2 (fun x3 u_1 => ?_) (fun u_2 => ?_) q_F (1 : Int32) u
  · refine sw_iload_n 0 dX10_goodPick_27 rfl rfl ?_
    exact sw_iret dX10_goodPick_28
  · refine sw_iconst (-1 : Int32) dX10_goodPick_35 (by decide) ?_
    exact sw_iret dX10_goodPick_36
set_option maxRecDepth 100000 in
theorem w_X10_game_L15 {ι : qI} {b : Nat}  (h0 : is_X10 ι) (x1 : Int32) {K46 : Int32 → qS → qR} (hK46 : ∀ (e2 : Int32) (u : qS), SW RX10 cX10_game 5 (some .int) 2 ι b 46 [(0, .ref (b + 0)), (1, .int x1), (2, .int e2)] [] u (K46 e2 u)) (fu : Nat) (x2 : Int32) (x3 : Int32) (u : qS) : SW RX10 cX10_game 5 (some .int) 2 ι b 15 [(0, .ref (b + 0)), (1, .int x1), (2, .int x2), (3, .int x3)] [] u (q_it2 (m_X10_game_L15 x1 K46) fu x2 x3 u) := by
  refine SW.it2 (fun x2 x3 => [(0, .ref (b + 0)), (1, .int x1), (2, .int x2), (3, .int x3)]) (fun self ih x2 x3 u => ?_) fu x2 x3 u
  unfold m_X10_game_L15
  refine sw_iload_n 3 dX10_game_15 rfl rfl ?_
  refine sw_aload_n 0 dX10_game_16 rfl rfl ?_
  refine sw_getr q_cl10 1 (r := 2) dX10_game_17 t_405 (by decide) h0.1 rfl ?_
  refine sw_geti q_cl0 8 dX10_game_20 t_65 (by decide) h0.2.2.1.1 rfl ?_
  refine sw_icmp_ge 46 dX10_game_23 (by decide) ?_ ?_
  · exact SW.sub [0, 1, 2] rfl (hK46 x2 u)
  · refine sw_iload_n 2 dX10_game_26 rfl rfl ?_
    refine sw_aload_n 0 dX10_game_27 rfl rfl ?_
    refine sw_getr q_cl10 1 (r := 2) dX10_game_28 t_405 (by decide) h0.1 rfl ?_
    refine sw_getr q_cl0 17 (r := 9) dX10_game_31 t_95 (by decide) h0.2.2.1.1 rfl ?_
    refine sw_iload_n 3 dX10_game_34 rfl rfl ?_
    refine sw_iald dX10_game_35 h0.2.2.1.2.2.2.2.2.2.2.1 (fun a => ?_)
    refine sw_iconst (3 : Int32) dX10_game_36 (by decide) ?_
    refine sw_iand dX10_game_37 ?_
    refine sw_ixor dX10_game_38 ?_
    refine SW.name (fun y2 => ?_)
    refine sw_istore_n (lv' := [(2, .int y2), (0, .ref (b + 0)), (1, .int x1), (3, .int x3)]) dX10_game_39 rfl (by decide) rfl ?_
    refine sw_iinc (lv' := [(3, .int (x3 + (1 : Int32))), (2, .int y2), (0, .ref (b + 0)), (1, .int x1)]) 3 dX10_game_40 rfl (congrArg (x3 + ·) (by decide)) (by decide) rfl ?_
    refine sw_goto 15 dX10_game_43 (by decide) ?_
    exact SW.sub [2, 3, 1, 0] rfl (ih y2 (x3 + (1 : Int32)) u)
set_option maxRecDepth 100000 in
theorem w_X10_game_L48 {ι : qI} {b : Nat}  (h0 : is_X10 ι) (x1 : Int32) (x2 : Int32) {K84 : Int32 → Int32 → qS → qR} {K101 : qS → qR} (hK84 : ∀ (e3 : Int32) (e4 : Int32) (u : qS), SW RX10 cX10_game 5 (some .int) 2 ι b 84 [(1, .int x1), (3, .int e3), (4, .int e4)] [] u (K84 e3 e4 u)) (hK101 : ∀  (u : qS), SW RX10 cX10_game 5 (some .int) 2 ι b 101 [] [] u (K101  u)) (fu : Nat) (x3 : Int32) (u : qS) : SW RX10 cX10_game 5 (some .int) 2 ι b 48 [(0, .ref (b + 0)), (1, .int x1), (2, .int x2), (3, .int x3)] [] u (q_it1 (m_X10_game_L48 x1 x2 K84 K101) fu x3 u) := by
  refine SW.it1 (fun x3 => [(0, .ref (b + 0)), (1, .int x1), (2, .int x2), (3, .int x3)]) (fun self ih x3 u => ?_) fu x3 u
  unfold m_X10_game_L48
  refine sw_iload_n 3 dX10_game_48 rfl rfl ?_
  refine sw_aload_n 0 dX10_game_49 rfl rfl ?_
  refine sw_getr q_cl10 1 (r := 2) dX10_game_50 t_405 (by decide) h0.1 rfl ?_
  refine sw_geti q_cl0 8 dX10_game_53 t_65 (by decide) h0.2.2.1.1 rfl ?_
  refine sw_icmp_ge 101 dX10_game_56 (by decide) ?_ ?_
  · exact SW.sub [] rfl (hK101  u)
  · refine sw_iload_n 2 dX10_game_59 rfl rfl ?_
    refine sw_if_eq 101 dX10_game_60 (by decide) ?_ ?_
    · exact SW.sub [] rfl (hK101  u)
    · refine sw_aload_n 0 dX10_game_63 rfl rfl ?_
      refine sw_getr q_cl10 1 (r := 2) dX10_game_64 t_405 (by decide) h0.1 rfl ?_
      refine sw_getr q_cl0 17 (r := 9) dX10_game_67 t_95 (by decide) h0.2.2.1.1 rfl ?_
      refine sw_iload_n 3 dX10_game_70 rfl rfl ?_
      refine sw_iald dX10_game_71 h0.2.2.1.2.2.2.2.2.2.2.1 (fun a => ?_)
      refine sw_iload_n 2 dX10_game_72 rfl rfl ?_
      refine sw_callSi (As := [.int a, .int x2]) rfl dX10_game_73 t_1006 mf_X10_goodPick (by decide) (Nat.le_of_ble_eq_true rfl) (fun l => c_X10_goodPick l a x2 u ) (fun r u_3 => ?_)
      refine sw_istore (lv' := [(4, .int r), (0, .ref (b + 0)), (1, .int x1), (2, .int x2), (3, .int x3)]) dX10_game_76 (by decide) rfl ?_
      refine sw_iload 0 dX10_game_78 rfl ?_
      refine sw_iconst (-1 : Int32) dX10_game_80 (by decide) ?_
      refine sw_icmp_eq 95 dX10_game_81 (by decide) ?_ ?_
      · refine sw_iinc (lv' := [(3, .int (x3 + (1 : Int32))), (4, .int r), (0, .ref (b + 0)), (1, .int x1), (2, .int x2)]) 4 dX10_game_95 rfl (congrArg (x3 + ·) (by decide)) (by decide) rfl ?_
        refine sw_goto 48 dX10_game_98 (by decide) ?_
        exact SW.sub [2, 3, 4, 0] rfl (ih (x3 + (1 : Int32)) u_3)
      · exact SW.sub [2, 4, 0] rfl (hK84 x3 r u_3)
set_option maxRecDepth 100000 in
theorem c_X10_game (l : Launch) {ι : qI} {b : Nat}  (x1 : Int32) (u : qS) (h0 : is_X10 ι) : CN l yX10_game cX10_game 5 (some .int) 2 ι b [.ref (b + 0), .int x1] u (m_X10_game x1 u) := by
  refine CN.of_SW (own := RX10) rfl (by decide) (Nat.le_of_ble_eq_true rfl) [(0, .ref (b + 0)), (1, .int x1)] rfl ?_
  unfold m_X10_game
  refine sw_iload_n 1 dX10_game_0 rfl rfl ?_
  refine sw_iconst (0 : Int32) dX10_game_1 (by decide) ?_
  refine sw_iconst (1 : Int32) dX10_game_2 (by decide) ?_
  refine sw_callSi (As := [.int x1, .int (0 : Int32), .int (1 : Int32)]) rfl dX10_game_3 t_457 mf_X10_isWithin (by decide) (Nat.le_of_ble_eq_true rfl) (fun l => c_X10_isWithin l x1 (0 : Int32) (1 : Int32) u ) (fun r u_1 => ?_)
  refine sw_if_ne 11 dX10_game_6 (by decide) ?_ ?_
  · refine sw_iconst (-1 : Int32) dX10_game_9 (by decide) ?_
    exact sw_iret dX10_game_10
  · refine sw_iconst (0 : Int32) dX10_game_11 (by decide) ?_
    refine sw_istore_n (lv' := [(2, .int (0 : Int32)), (0, .ref (b + 0)), (1, .int x1)]) dX10_game_12 rfl (by decide) rfl ?_
    refine sw_iconst (0 : Int32) dX10_game_13 (by decide) ?_
    refine sw_istore_n (lv' := [(3, .int (0 : Int32)), (2, .int (0 : Int32)), (0, .ref (b + 0)), (1, .int x1)]) dX10_game_14 rfl (by decide) rfl ?_
    refine SW.sub (lv' := [(0, .ref (b + 0)), (1, .int x1), (2, .int (0 : Int32)), (3, .int (0 : Int32))]) [2, 3, 1, 0] rfl ?_
    refine w_X10_game_L15 h0 x1 (fun x2 u_2 => ?_) q_F (0 : Int32) (0 : Int32) u_1
    refine sw_iconst (0 : Int32) dX10_game_46 (by decide) ?_
    refine sw_istore_n (lv' := [(3, .int (0 : Int32)), (0, .ref (b + 0)), (1, .int x1), (2, .int x2)]) dX10_game_47 rfl (by decide) rfl ?_
    refine SW.sub (lv' := [(0, .ref (b + 0)), (1, .int x1), (2, .int x2), (3, .int (0 : Int32))]) [1, 2, 3, 0] rfl ?_
    refine w_X10_game_L48 h0 x1 x2 (fun x3 x4 u_4 => ?_) (fun u_5 => ?_) q_F (0 : Int32) u_2
    · refine sw_iload_n 0 dX10_game_84 rfl rfl ?_
      refine sw_if_ne 92 dX10_game_85 (by decide) ?_ ?_
      · refine sw_iload_n 1 dX10_game_88 rfl rfl ?_
        refine sw_goto 94 dX10_game_89 (by decide) ?_
        exact sw_iret dX10_game_94
      · refine sw_iload 2 dX10_game_92 rfl ?_
        exact sw_iret dX10_game_94
    · refine sw_iconst (-1 : Int32) dX10_game_101 (by decide) ?_
      exact sw_iret dX10_game_102
set_option maxRecDepth 100000 in
theorem c_X10_undo (l : Launch) {ι : qI} {b : Nat}   (u : qS) (h0 : is_X10 ι) : CN l yX10_undo cX10_undo 1 (some .boolean) 2 ι b [.ref (b + 0)] u (m_X10_undo  u) := by
  refine CN.of_SW (own := RX10) rfl (by decide) (Nat.le_of_ble_eq_true rfl) [(0, .ref (b + 0))] rfl ?_
  unfold m_X10_undo
  refine sw_aload_n 0 dX10_undo_0 rfl rfl ?_
  refine sw_geti q_cl10 5 dX10_undo_1 t_409 (by decide) h0.1 rfl ?_
  refine sw_if_ne 9 dX10_undo_4 (by decide) ?_ ?_
  · refine sw_iconst (0 : Int32) dX10_undo_7 (by decide) ?_
    exact sw_zret0 dX10_undo_8
  · refine sw_aload_n 0 dX10_undo_9 rfl rfl ?_
    refine sw_aload_n 0 dX10_undo_10 rfl rfl ?_
    refine sw_geti q_cl10 6 dX10_undo_11 t_410 (by decide) h0.1 rfl ?_
    refine SW.jn1 27 (fun s0 => [(0, .ref (b + 0))]) (fun s0 => [.int s0, .ref (b + 0)]) (fun s0 u_1 => ?_) (fun J27 hJ27 => ?_)
    · refine sw_puti q_cl10 6 dX10_undo_27 t_410 (by decide) (by decide +kernel) rfl h0.1 rfl (fun u_2 => ?_)
      refine sw_aload_n 0 dX10_undo_30 rfl rfl ?_
      refine sw_dup dX10_undo_31 rfl ?_
      refine sw_geti q_cl10 5 dX10_undo_32 t_409 (by decide) h0.1 rfl ?_
      refine sw_iconst (1 : Int32) dX10_undo_35 (by decide) ?_
      refine sw_isub dX10_undo_36 ?_
      refine sw_puti q_cl10 5 dX10_undo_37 t_409 (by decide) (by decide +kernel) rfl h0.1 rfl (fun u_3 => ?_)
      refine sw_aload_n 0 dX10_undo_40 rfl rfl ?_
      refine sw_getr q_cl10 1 (r := 2) dX10_undo_41 t_405 (by decide) h0.1 rfl ?_
      refine sw_aload_n 0 dX10_undo_44 rfl rfl ?_
      refine sw_getr q_cl10 4 (r := 65) dX10_undo_45 t_408 (by decide) h0.1 rfl ?_
      refine sw_aload_n 0 dX10_undo_48 rfl rfl ?_
      refine sw_geti q_cl10 6 dX10_undo_49 t_410 (by decide) h0.1 rfl ?_
      refine sw_aald dX10_undo_52 h0.2.2.2.2.1 (fun j hj => ?_)
      refine sw_callVv (As := [.ref (b + (q_kp j))]) (k := 2) rfl dX10_undo_53 t_514 mf_X0_copyFrom h0.2.2.1.1 q_cl0 (by decide) (Nat.le_of_ble_eq_true rfl) (fun l => c_X0_copyFrom l 2 (q_kp j) u_3 h0.2.2.1 (h0.2.2.2.2.2.2.2.2.2.2.2.1 j hj)) (fun _ u_4 => ?_)
      refine sw_iconst (1 : Int32) dX10_undo_56 (by decide) ?_
      exact sw_zret1 dX10_undo_57
    · refine sw_if_le 26 dX10_undo_14 (by decide) ?_ ?_
      · refine sw_iconst (5 : Int32) dX10_undo_26 (by decide) ?_
        exact SW.sub [0] rfl (hJ27 (5 : Int32) u)
      · refine sw_aload_n 0 dX10_undo_17 rfl rfl ?_
        refine sw_geti q_cl10 6 dX10_undo_18 t_410 (by decide) h0.1 rfl ?_
        refine sw_iconst (1 : Int32) dX10_undo_21 (by decide) ?_
        refine sw_isub dX10_undo_22 ?_
        refine sw_goto 27 dX10_undo_23 (by decide) ?_
        exact SW.sub [0] rfl (hJ27 ((u.1 0 6) - (1 : Int32)) u)
set_option maxRecDepth 100000 in
theorem c_X1_copyFrom (l : Launch) {ι : qI} {b : Nat} (k : Nat) (k1 : Nat)  (u : qS) (h0 : is_X1 ι k) (h1 : is_X1 ι k1) : CN l yX1_copyFrom cX1_copyFrom 2 none 1 ι b [.ref (b + k), .ref (b + k1)] u (m_X1_copyFrom k k1 u) := by
  refine CN.of_SW (own := RX1) rfl (by decide) (Nat.le_of_ble_eq_true rfl) [(0, .ref (b + k)), (1, .ref (b + k1))] rfl ?_
  unfold m_X1_copyFrom
  refine sw_aload_n 0 dX1_copyFrom_0 rfl rfl ?_
  refine sw_aload_n 1 dX1_copyFrom_1 rfl rfl ?_
  refine sw_geti q_cl1 0 dX1_copyFrom_2 t_250 (by decide) h1.1 rfl ?_
  refine sw_puti q_cl1 0 dX1_copyFrom_5 t_250 (by decide) (by decide +kernel) rfl h0.1 rfl (fun u_1 => ?_)
  refine sw_aload_n 1 dX1_copyFrom_8 rfl rfl ?_
  refine sw_getr q_cl1 1 (r := (k1 + 1)) dX1_copyFrom_9 t_252 (by decide) h1.1 rfl ?_
  refine sw_iconst (0 : Int32) dX1_copyFrom_12 (by decide) ?_
  refine sw_aload_n 0 dX1_copyFrom_13 rfl rfl ?_
  refine sw_getr q_cl1 1 (r := (k + 1)) dX1_copyFrom_14 t_252 (by decide) h0.1 rfl ?_
  refine sw_iconst (0 : Int32) dX1_copyFrom_17 (by decide) ?_
  refine sw_bipush (8 : Int32) dX1_copyFrom_18 (by decide) ?_
  refine sw_copy dX1_copyFrom_20 t_1029 t_520 t_519 t_13 h1.2.1 h0.2.1 (by decide) (by decide) (by decide) (by decide +kernel) (fun u_2 => ?_)
  refine sw_aload_n 1 dX1_copyFrom_23 rfl rfl ?_
  refine sw_getr q_cl1 2 (r := (k1 + 2)) dX1_copyFrom_24 t_253 (by decide) h1.1 rfl ?_
  refine sw_iconst (0 : Int32) dX1_copyFrom_27 (by decide) ?_
  refine sw_aload_n 0 dX1_copyFrom_28 rfl rfl ?_
  refine sw_getr q_cl1 2 (r := (k + 2)) dX1_copyFrom_29 t_253 (by decide) h0.1 rfl ?_
  refine sw_iconst (0 : Int32) dX1_copyFrom_32 (by decide) ?_
  refine sw_bipush (8 : Int32) dX1_copyFrom_33 (by decide) ?_
  refine sw_copy dX1_copyFrom_35 t_1029 t_520 t_519 t_13 h1.2.2 h0.2.2 (by decide) (by decide) (by decide) (by decide +kernel) (fun u_3 => ?_)
  exact sw_vret dX1_copyFrom_38
set_option maxRecDepth 100000 in
theorem c_X3_copyFrom (l : Launch) {ι : qI} {b : Nat} (k : Nat) (k1 : Nat)  (u : qS) (h0 : is_X3 ι k) (h1 : is_X3 ι k1) : CN l yX3_copyFrom cX3_copyFrom 2 none 1 ι b [.ref (b + k), .ref (b + k1)] u (m_X3_copyFrom k k1 u) := by
  refine CN.of_SW (own := RX3) rfl (by decide) (Nat.le_of_ble_eq_true rfl) [(0, .ref (b + k)), (1, .ref (b + k1))] rfl ?_
  unfold m_X3_copyFrom
  refine sw_aload_n 1 dX3_copyFrom_0 rfl rfl ?_
  refine sw_getr q_cl3 0 (r := (k1 + 1)) dX3_copyFrom_1 t_267 (by decide) h1.1 rfl ?_
  refine sw_iconst (0 : Int32) dX3_copyFrom_4 (by decide) ?_
  refine sw_aload_n 0 dX3_copyFrom_5 rfl rfl ?_
  refine sw_getr q_cl3 0 (r := (k + 1)) dX3_copyFrom_6 t_267 (by decide) h0.1 rfl ?_
  refine sw_iconst (0 : Int32) dX3_copyFrom_9 (by decide) ?_
  refine sw_sipush (600 : Int32) dX3_copyFrom_10 (by decide) ?_
  refine sw_copy dX3_copyFrom_13 t_1034 t_520 t_519 t_13 h1.2 h0.2 (by decide) (by decide) (by decide) (by decide +kernel) (fun u_1 => ?_)
  exact sw_vret dX3_copyFrom_16
set_option maxRecDepth 100000 in
theorem c_X9_copyFrom (l : Launch) {ι : qI} {b : Nat} (k : Nat) (k1 : Nat)  (u : qS) (h0 : is_X9 ι k) (h1 : is_X9 ι k1) : CN l yX9_copyFrom cX9_copyFrom 2 none 2 ι b [.ref (b + k), .ref (b + k1)] u (m_X9_copyFrom k k1 u) := by
  refine CN.of_SW (own := RX9) rfl (by decide) (Nat.le_of_ble_eq_true rfl) [(0, .ref (b + k)), (1, .ref (b + k1))] rfl ?_
  unfold m_X9_copyFrom
  refine sw_aload_n 0 dX9_copyFrom_0 rfl rfl ?_
  refine sw_getr q_cl9 0 (r := (k + 1)) dX9_copyFrom_1 t_272 (by decide) h0.1 rfl ?_
  refine sw_aload_n 1 dX9_copyFrom_4 rfl rfl ?_
  refine sw_getr q_cl9 0 (r := (k1 + 1)) dX9_copyFrom_5 t_272 (by decide) h1.1 rfl ?_
  refine sw_callVv (As := [.ref (b + (k1 + 1))]) (k := (k + 1)) rfl dX9_copyFrom_8 t_1021 mf_X0_copyFrom h0.2.1.1 q_cl0 (by decide) (Nat.le_of_ble_eq_true rfl) (fun l => c_X0_copyFrom l (k + 1) (k1 + 1) u h0.2.1 h1.2.1) (fun _ u_1 => ?_)
  refine sw_aload_n 0 dX9_copyFrom_11 rfl rfl ?_
  refine sw_getr q_cl9 1 (r := (k + 11)) dX9_copyFrom_12 t_274 (by decide) h0.1 rfl ?_
  refine sw_aload_n 1 dX9_copyFrom_15 rfl rfl ?_
  refine sw_getr q_cl9 1 (r := (k1 + 11)) dX9_copyFrom_16 t_274 (by decide) h1.1 rfl ?_
  refine sw_callVv (As := [.ref (b + (k1 + 11))]) (k := (k + 11)) rfl dX9_copyFrom_19 t_1022 mf_X2_copyFrom h0.2.2.1.1 q_cl2 (by decide) (Nat.le_of_ble_eq_true rfl) (fun l => c_X2_copyFrom l (k + 11) (k1 + 11) u_1 h0.2.2.1 h1.2.2.1) (fun _ u_2 => ?_)
  refine sw_aload_n 0 dX9_copyFrom_22 rfl rfl ?_
  refine sw_getr q_cl9 2 (r := (k + 18)) dX9_copyFrom_23 t_277 (by decide) h0.1 rfl ?_
  refine sw_aload_n 1 dX9_copyFrom_26 rfl rfl ?_
  refine sw_getr q_cl9 2 (r := (k1 + 18)) dX9_copyFrom_27 t_277 (by decide) h1.1 rfl ?_
  refine sw_callVv (As := [.ref (b + (k1 + 18))]) (k := (k + 18)) rfl dX9_copyFrom_30 t_1023 mf_X4_copyFrom h0.2.2.2.1.1 q_cl4 (by decide) (Nat.le_of_ble_eq_true rfl) (fun l => c_X4_copyFrom l (k + 18) (k1 + 18) u_2 h0.2.2.2.1 h1.2.2.2.1) (fun _ u_3 => ?_)
  refine sw_aload_n 0 dX9_copyFrom_33 rfl rfl ?_
  refine sw_getr q_cl9 3 (r := (k + 22)) dX9_copyFrom_34 t_280 (by decide) h0.1 rfl ?_
  refine sw_aload_n 1 dX9_copyFrom_37 rfl rfl ?_
  refine sw_getr q_cl9 3 (r := (k1 + 22)) dX9_copyFrom_38 t_280 (by decide) h1.1 rfl ?_
  refine sw_callVv (As := [.ref (b + (k1 + 22))]) (k := (k + 22)) rfl dX9_copyFrom_41 t_1024 mf_X5_copyFrom h0.2.2.2.2.1.1 q_cl5 (by decide) (Nat.le_of_ble_eq_true rfl) (fun l => c_X5_copyFrom l (k + 22) (k1 + 22) u_3 h0.2.2.2.2.1 h1.2.2.2.2.1) (fun _ u_4 => ?_)
  refine sw_aload_n 0 dX9_copyFrom_44 rfl rfl ?_
  refine sw_getr q_cl9 4 (r := (k + 27)) dX9_copyFrom_45 t_283 (by decide) h0.1 rfl ?_
  refine sw_aload_n 1 dX9_copyFrom_48 rfl rfl ?_
  refine sw_getr q_cl9 4 (r := (k1 + 27)) dX9_copyFrom_49 t_283 (by decide) h1.1 rfl ?_
  refine sw_callVv (As := [.ref (b + (k1 + 27))]) (k := (k + 27)) rfl dX9_copyFrom_52 t_1025 mf_X1_copyFrom h0.2.2.2.2.2.1.1 q_cl1 (by decide) (Nat.le_of_ble_eq_true rfl) (fun l => c_X1_copyFrom l (k + 27) (k1 + 27) u_4 h0.2.2.2.2.2.1 h1.2.2.2.2.2.1) (fun _ u_5 => ?_)
  refine sw_aload_n 0 dX9_copyFrom_55 rfl rfl ?_
  refine sw_getr q_cl9 5 (r := (k + 30)) dX9_copyFrom_56 t_285 (by decide) h0.1 rfl ?_
  refine sw_aload_n 1 dX9_copyFrom_59 rfl rfl ?_
  refine sw_getr q_cl9 5 (r := (k1 + 30)) dX9_copyFrom_60 t_285 (by decide) h1.1 rfl ?_
  refine sw_callVv (As := [.ref (b + (k1 + 30))]) (k := (k + 30)) rfl dX9_copyFrom_63 t_1030 mf_X3_copyFrom h0.2.2.2.2.2.2.1 q_cl3 (by decide) (Nat.le_of_ble_eq_true rfl) (fun l => c_X3_copyFrom l (k + 30) (k1 + 30) u_5 h0.2.2.2.2.2.2 h1.2.2.2.2.2.2) (fun _ u_6 => ?_)
  exact sw_vret dX9_copyFrom_66
set_option maxRecDepth 100000 in
theorem c_X10_image (l : Launch) {ι : qI} {b : Nat}  (x1 : Int32) (u : qS) (h0 : is_X10 ι) : CN l yX10_image cX10_image 2 (some .boolean) 3 ι b [.ref (b + 0), .int x1] u (m_X10_image x1 u) := by
  refine CN.of_SW (own := RX10) rfl (by decide) (Nat.le_of_ble_eq_true rfl) [(0, .ref (b + 0)), (1, .int x1)] rfl ?_
  unfold m_X10_image
  refine sw_iload_n 1 dX10_image_0 rfl rfl ?_
  refine sw_if_eq 22 dX10_image_1 (by decide) ?_ ?_
  · refine sw_aload_n 0 dX10_image_22 rfl rfl ?_
    refine sw_geti q_cl10 3 dX10_image_23 t_407 (by decide) h0.1 rfl ?_
    refine sw_if_ne 31 dX10_image_26 (by decide) ?_ ?_
    · refine sw_iconst (0 : Int32) dX10_image_29 (by decide) ?_
      exact sw_zret0 dX10_image_30
    · refine sw_aload_n 0 dX10_image_31 rfl rfl ?_
      refine sw_getr q_cl10 0 (r := 1) dX10_image_32 t_404 (by decide) h0.1 rfl ?_
      refine sw_aload_n 0 dX10_image_35 rfl rfl ?_
      refine sw_getr q_cl10 2 (r := 33) dX10_image_36 t_406 (by decide) h0.1 rfl ?_
      refine sw_callVv (As := [.ref (b + 33)]) (k := 1) rfl dX10_image_39 t_1017 mf_X9_copyFrom h0.2.1.1 q_cl9 (by decide) (Nat.le_of_ble_eq_true rfl) (fun l => c_X9_copyFrom l 1 33 u h0.2.1 h0.2.2.2.1) (fun _ u_1 => ?_)
      refine sw_aload_n 0 dX10_image_42 rfl rfl ?_
      refine sw_callVv (As := []) (k := 0) rfl dX10_image_43 t_449 mf_X10_forget h0.1 q_cl10 (by decide) (Nat.le_of_ble_eq_true rfl) (fun l => c_X10_forget l  u_1 h0) (fun _ u_2 => ?_)
      refine sw_iconst (1 : Int32) dX10_image_46 (by decide) ?_
      exact sw_zret1 dX10_image_47
  · refine sw_aload_n 0 dX10_image_4 rfl rfl ?_
    refine sw_getr q_cl10 2 (r := 33) dX10_image_5 t_406 (by decide) h0.1 rfl ?_
    refine sw_aload_n 0 dX10_image_8 rfl rfl ?_
    refine sw_getr q_cl10 0 (r := 1) dX10_image_9 t_404 (by decide) h0.1 rfl ?_
    refine sw_callVv (As := [.ref (b + 1)]) (k := 33) rfl dX10_image_12 t_1017 mf_X9_copyFrom h0.2.2.2.1.1 q_cl9 (by decide) (Nat.le_of_ble_eq_true rfl) (fun l => c_X9_copyFrom l 33 1 u h0.2.2.2.1 h0.2.1) (fun _ u_3 => ?_)
    refine sw_aload_n 0 dX10_image_15 rfl rfl ?_
    refine sw_iconst (1 : Int32) dX10_image_16 (by decide) ?_
    refine sw_putz q_cl10 3 dX10_image_17 t_407 (by decide) (by decide +kernel) rfl h0.1 rfl (fun u_4 => ?_)
    refine sw_iconst (1 : Int32) dX10_image_20 (by decide) ?_
    exact sw_zret1 dX10_image_21
set_option maxRecDepth 100000 in
theorem c_X10_look (l : Launch) {ι : qI} {b : Nat}  (x1 : Int32) (u : qS) (h0 : is_X10 ι) : CN l yX10_look cX10_look 2 (some .int) 1 ι b [.ref (b + 0), .int x1] u (m_X10_look x1 u) := by
  refine CN.of_SW (own := RX10) rfl (by decide) (Nat.le_of_ble_eq_true rfl) [(0, .ref (b + 0)), (1, .int x1)] rfl ?_
  unfold m_X10_look
  refine sw_iload_n 1 dX10_look_0 rfl rfl ?_
  refine SW.case (fun hc0 => ?_) (fun hc0 => ?_)
  · refine sw_tabIn 80 dX10_look_1 hc0 (by decide) (by decide) rfl (by decide) ?_
    refine sw_aload_n 0 dX10_look_80 rfl rfl ?_
    refine sw_getr q_cl10 1 (r := 2) dX10_look_81 t_405 (by decide) h0.1 rfl ?_
    refine sw_geti q_cl0 7 dX10_look_84 t_61 (by decide) h0.2.2.1.1 rfl ?_
    exact sw_iret dX10_look_87
  refine SW.case (fun hc1 => ?_) (fun hc1 => ?_)
  · refine sw_tabIn 88 dX10_look_1 hc1 (by decide) (by decide) rfl (by decide) ?_
    refine sw_aload_n 0 dX10_look_88 rfl rfl ?_
    refine sw_getr q_cl10 1 (r := 2) dX10_look_89 t_405 (by decide) h0.1 rfl ?_
    refine sw_geti q_cl0 8 dX10_look_92 t_65 (by decide) h0.2.2.1.1 rfl ?_
    exact sw_iret dX10_look_95
  refine SW.case (fun hc2 => ?_) (fun hc2 => ?_)
  · refine sw_tabIn 96 dX10_look_1 hc2 (by decide) (by decide) rfl (by decide) ?_
    refine sw_aload_n 0 dX10_look_96 rfl rfl ?_
    refine sw_getr q_cl10 1 (r := 2) dX10_look_97 t_405 (by decide) h0.1 rfl ?_
    refine sw_geti q_cl0 9 dX10_look_100 t_68 (by decide) h0.2.2.1.1 rfl ?_
    exact sw_iret dX10_look_103
  refine SW.case (fun hc3 => ?_) (fun hc3 => ?_)
  · refine sw_tabIn 104 dX10_look_1 hc3 (by decide) (by decide) rfl (by decide) ?_
    refine sw_aload_n 0 dX10_look_104 rfl rfl ?_
    refine sw_getr q_cl10 1 (r := 2) dX10_look_105 t_405 (by decide) h0.1 rfl ?_
    refine sw_geti q_cl0 0 dX10_look_108 t_44 (by decide) h0.2.2.1.1 rfl ?_
    exact sw_iret dX10_look_111
  refine SW.case (fun hc4 => ?_) (fun hc4 => ?_)
  · refine sw_tabIn 112 dX10_look_1 hc4 (by decide) (by decide) rfl (by decide) ?_
    refine sw_aload_n 0 dX10_look_112 rfl rfl ?_
    refine sw_getr q_cl10 1 (r := 2) dX10_look_113 t_405 (by decide) h0.1 rfl ?_
    refine sw_geti q_cl0 2 dX10_look_116 t_49 (by decide) h0.2.2.1.1 rfl ?_
    exact sw_iret dX10_look_119
  refine SW.case (fun hc5 => ?_) (fun hc5 => ?_)
  · refine sw_tabIn 120 dX10_look_1 hc5 (by decide) (by decide) rfl (by decide) ?_
    refine sw_aload_n 0 dX10_look_120 rfl rfl ?_
    refine sw_getr q_cl10 1 (r := 2) dX10_look_121 t_405 (by decide) h0.1 rfl ?_
    refine sw_geti q_cl0 3 dX10_look_124 t_52 (by decide) h0.2.2.1.1 rfl ?_
    exact sw_iret dX10_look_127
  refine SW.case (fun hc6 => ?_) (fun hc6 => ?_)
  · refine sw_tabIn 128 dX10_look_1 hc6 (by decide) (by decide) rfl (by decide) ?_
    refine sw_aload_n 0 dX10_look_128 rfl rfl ?_
    refine sw_getr q_cl10 1 (r := 2) dX10_look_129 t_405 (by decide) h0.1 rfl ?_
    refine sw_geti q_cl0 4 dX10_look_132 t_54 (by decide) h0.2.2.1.1 rfl ?_
    exact sw_iret dX10_look_135
  refine SW.case (fun hc7 => ?_) (fun hc7 => ?_)
  · refine sw_tabIn 136 dX10_look_1 hc7 (by decide) (by decide) rfl (by decide) ?_
    refine sw_aload_n 0 dX10_look_136 rfl rfl ?_
    refine sw_getr q_cl10 1 (r := 2) dX10_look_137 t_405 (by decide) h0.1 rfl ?_
    refine sw_geti q_cl0 5 dX10_look_140 t_57 (by decide) h0.2.2.1.1 rfl ?_
    exact sw_iret dX10_look_143
  refine SW.case (fun hc8 => ?_) (fun hc8 => ?_)
  · refine sw_tabIn 144 dX10_look_1 hc8 (by decide) (by decide) rfl (by decide) ?_
    refine sw_aload_n 0 dX10_look_144 rfl rfl ?_
    refine sw_getr q_cl10 1 (r := 2) dX10_look_145 t_405 (by decide) h0.1 rfl ?_
    refine sw_geti q_cl0 10 dX10_look_148 t_71 (by decide) h0.2.2.1.1 rfl ?_
    exact sw_iret dX10_look_151
  refine SW.case (fun hc9 => ?_) (fun hc9 => ?_)
  · refine sw_tabIn 152 dX10_look_1 hc9 (by decide) (by decide) rfl (by decide) ?_
    refine sw_aload_n 0 dX10_look_152 rfl rfl ?_
    refine sw_getr q_cl10 1 (r := 2) dX10_look_153 t_405 (by decide) h0.1 rfl ?_
    refine sw_geti q_cl0 1 dX10_look_156 t_45 (by decide) h0.2.2.1.1 rfl ?_
    exact sw_iret dX10_look_159
  refine SW.case (fun hc10 => ?_) (fun hc10 => ?_)
  · refine sw_tabIn 160 dX10_look_1 hc10 (by decide) (by decide) rfl (by decide) ?_
    refine sw_aload_n 0 dX10_look_160 rfl rfl ?_
    refine sw_getr q_cl10 0 (r := 1) dX10_look_161 t_404 (by decide) h0.1 rfl ?_
    refine sw_getr q_cl9 1 (r := 12) dX10_look_164 t_276 (by decide) h0.2.1.1 rfl ?_
    refine sw_geti q_cl2 0 dX10_look_167 t_153 (by decide) h0.2.1.2.2.1.1 rfl ?_
    exact sw_iret dX10_look_170
  refine SW.case (fun hc11 => ?_) (fun hc11 => ?_)
  · refine sw_tabIn 171 dX10_look_1 hc11 (by decide) (by decide) rfl (by decide) ?_
    refine sw_aload_n 0 dX10_look_171 rfl rfl ?_
    refine sw_getr q_cl10 0 (r := 1) dX10_look_172 t_404 (by decide) h0.1 rfl ?_
    refine sw_getr q_cl9 2 (r := 19) dX10_look_175 t_279 (by decide) h0.2.1.1 rfl ?_
    refine sw_geti q_cl4 0 dX10_look_178 t_195 (by decide) h0.2.1.2.2.2.1.1 rfl ?_
    exact sw_iret dX10_look_181
  refine SW.case (fun hc12 => ?_) (fun hc12 => ?_)
  · refine sw_tabIn 182 dX10_look_1 hc12 (by decide) (by decide) rfl (by decide) ?_
    refine sw_aload_n 0 dX10_look_182 rfl rfl ?_
    refine sw_getr q_cl10 0 (r := 1) dX10_look_183 t_404 (by decide) h0.1 rfl ?_
    refine sw_getr q_cl9 3 (r := 23) dX10_look_186 t_282 (by decide) h0.2.1.1 rfl ?_
    refine sw_geti q_cl5 0 dX10_look_189 t_220 (by decide) h0.2.1.2.2.2.2.1.1 rfl ?_
    exact sw_iret dX10_look_192
  refine SW.case (fun hc13 => ?_) (fun hc13 => ?_)
  · refine sw_tabIn 193 dX10_look_1 hc13 (by decide) (by decide) rfl (by decide) ?_
    refine sw_aload_n 0 dX10_look_193 rfl rfl ?_
    refine sw_getr q_cl10 0 (r := 1) dX10_look_194 t_404 (by decide) h0.1 rfl ?_
    refine sw_getr q_cl9 4 (r := 28) dX10_look_197 t_284 (by decide) h0.2.1.1 rfl ?_
    refine sw_geti q_cl1 0 dX10_look_200 t_251 (by decide) h0.2.1.2.2.2.2.2.1.1 rfl ?_
    exact sw_iret dX10_look_203
  refine SW.case (fun hc14 => ?_) (fun hc14 => ?_)
  · refine sw_tabIn 204 dX10_look_1 hc14 (by decide) (by decide) rfl (by decide) ?_
    refine sw_aload_n 0 dX10_look_204 rfl rfl ?_
    refine sw_geti q_cl10 5 dX10_look_205 t_409 (by decide) h0.1 rfl ?_
    exact sw_iret dX10_look_208
  refine SW.case (fun hc15 => ?_) (fun hc15 => ?_)
  · refine sw_tabIn 209 dX10_look_1 hc15 (by decide) (by decide) rfl (by decide) ?_
    refine sw_aload_n 0 dX10_look_209 rfl rfl ?_
    refine sw_getr q_cl10 1 (r := 2) dX10_look_210 t_405 (by decide) h0.1 rfl ?_
    refine sw_geti q_cl0 6 dX10_look_213 t_59 (by decide) h0.2.2.1.1 rfl ?_
    exact sw_iret dX10_look_216
  refine sw_tabOut 217 dX10_look_1 (by omega) (by decide) ?_
  refine sw_iconst (-1 : Int32) dX10_look_217 (by decide) ?_
  exact sw_iret dX10_look_218
