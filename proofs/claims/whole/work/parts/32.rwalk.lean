set_option maxRecDepth 100000 in
theorem c_X11_isIn (l : Launch) {ι : qI} {b : Nat}  (x1 : Int32) (x2 : Int32) (x3 : Int32) (u : qS) (h0 : is_X11 ι) : CN l yX11_isIn cX11_isIn 4 (some .boolean) 1 ι b [.ref (b + 163), .int x1, .int x2, .int x3] u (m_X11_isIn x1 x2 x3 u) := by
  refine CN.of_SW (own := RX11) rfl (by decide) (Nat.le_of_ble_eq_true rfl) [(0, .ref (b + 163)), (1, .int x1), (2, .int x2), (3, .int x3)] rfl ?_
  unfold m_X11_isIn
  refine sw_iload_n 1 dX11_isIn_0 rfl rfl ?_
  refine sw_iload_n 2 dX11_isIn_1 rfl rfl ?_
  refine sw_icmp_lt 14 dX11_isIn_2 (by decide) ?_ ?_
  · refine sw_iconst (0 : Int32) dX11_isIn_14 (by decide) ?_
    exact sw_zret0 dX11_isIn_15
  · refine sw_iload_n 1 dX11_isIn_5 rfl rfl ?_
    refine sw_iload_n 3 dX11_isIn_6 rfl rfl ?_
    refine sw_icmp_gt 14 dX11_isIn_7 (by decide) ?_ ?_
    · refine sw_iconst (0 : Int32) dX11_isIn_14 (by decide) ?_
      exact sw_zret0 dX11_isIn_15
    · refine sw_iconst (1 : Int32) dX11_isIn_10 (by decide) ?_
      refine sw_goto 15 dX11_isIn_11 (by decide) ?_
      exact sw_zret1 dX11_isIn_15
set_option maxRecDepth 100000 in
theorem c_X11_held (l : Launch) {ι : qI} {b : Nat}  (x1 : Int32) (x2 : Int32) (x3 : Int32) (u : qS) (h0 : is_X11 ι) : CN l yX11_held cX11_held 4 (some .int) 1 ι b [.ref (b + 163), .int x1, .int x2, .int x3] u (m_X11_held x1 x2 x3 u) := by
  refine CN.of_SW (own := RX11) rfl (by decide) (Nat.le_of_ble_eq_true rfl) [(0, .ref (b + 163)), (1, .int x1), (2, .int x2), (3, .int x3)] rfl ?_
  unfold m_X11_held
  refine sw_iload_n 1 dX11_held_0 rfl rfl ?_
  refine sw_iload_n 2 dX11_held_1 rfl rfl ?_
  refine sw_icmp_ge 9 dX11_held_2 (by decide) ?_ ?_
  · refine sw_iload_n 1 dX11_held_9 rfl rfl ?_
    refine sw_iload_n 3 dX11_held_10 rfl rfl ?_
    refine sw_icmp_le 18 dX11_held_11 (by decide) ?_ ?_
    · refine sw_iload_n 1 dX11_held_18 rfl rfl ?_
      exact sw_iret dX11_held_19
    · refine sw_iload_n 3 dX11_held_14 rfl rfl ?_
      refine sw_goto 19 dX11_held_15 (by decide) ?_
      exact sw_iret dX11_held_19
  · refine sw_iload_n 2 dX11_held_5 rfl rfl ?_
    refine sw_goto 19 dX11_held_6 (by decide) ?_
    exact sw_iret dX11_held_19
set_option maxRecDepth 100000 in
theorem c_X11_greater (l : Launch) {ι : qI} {b : Nat}  (x1 : Int32) (x2 : Int32) (u : qS) (h0 : is_X11 ι) : CN l yX11_greater cX11_greater 3 (some .int) 1 ι b [.ref (b + 163), .int x1, .int x2] u (m_X11_greater x1 x2 u) := by
  refine CN.of_SW (own := RX11) rfl (by decide) (Nat.le_of_ble_eq_true rfl) [(0, .ref (b + 163)), (1, .int x1), (2, .int x2)] rfl ?_
  unfold m_X11_greater
  refine sw_iload_n 1 dX11_greater_0 rfl rfl ?_
  refine sw_iload_n 2 dX11_greater_1 rfl rfl ?_
  refine sw_icmp_le 9 dX11_greater_2 (by decide) ?_ ?_
  · refine sw_iload_n 2 dX11_greater_9 rfl rfl ?_
    exact sw_iret dX11_greater_10
  · refine sw_iload_n 1 dX11_greater_5 rfl rfl ?_
    refine sw_goto 10 dX11_greater_6 (by decide) ?_
    exact sw_iret dX11_greater_10
set_option maxRecDepth 100000 in
theorem c_X11_lesser (l : Launch) {ι : qI} {b : Nat}  (x1 : Int32) (x2 : Int32) (u : qS) (h0 : is_X11 ι) : CN l yX11_lesser cX11_lesser 3 (some .int) 1 ι b [.ref (b + 163), .int x1, .int x2] u (m_X11_lesser x1 x2 u) := by
  refine CN.of_SW (own := RX11) rfl (by decide) (Nat.le_of_ble_eq_true rfl) [(0, .ref (b + 163)), (1, .int x1), (2, .int x2)] rfl ?_
  unfold m_X11_lesser
  refine sw_iload_n 1 dX11_lesser_0 rfl rfl ?_
  refine sw_iload_n 2 dX11_lesser_1 rfl rfl ?_
  refine sw_icmp_ge 9 dX11_lesser_2 (by decide) ?_ ?_
  · refine sw_iload_n 2 dX11_lesser_9 rfl rfl ?_
    exact sw_iret dX11_lesser_10
  · refine sw_iload_n 1 dX11_lesser_5 rfl rfl ?_
    refine sw_goto 10 dX11_lesser_6 (by decide) ?_
    exact sw_iret dX11_lesser_10
set_option maxRecDepth 100000 in
theorem w_X11_onesOf_L4 {ι : qI} {b : Nat}  (h0 : is_X11 ι)  {K21 : Int32 → qS → qR} (hK21 : ∀ (e2 : Int32) (u : qS), SW RX11 cX11_onesOf 4 (some .int) 1 ι b 21 [(2, .int e2)] [] u (K21 e2 u)) (fu : Nat) (x2 : Int32) (x3 : Int32) (u : qS) : SW RX11 cX11_onesOf 4 (some .int) 1 ι b 4 [(2, .int x2), (3, .int x3)] [] u (q_it2 (m_X11_onesOf_L4 K21) fu x2 x3 u) := by
  refine SW.it2 (fun x2 x3 => [(2, .int x2), (3, .int x3)]) (fun self ih x2 x3 u => ?_) fu x2 x3 u
  unfold m_X11_onesOf_L4
  refine sw_iload_n 1 dX11_onesOf_4 rfl rfl ?_
  refine sw_if_eq 21 dX11_onesOf_5 (by decide) ?_ ?_
  · exact SW.sub [0] rfl (hK21 x2 u)
  · refine sw_iload_n 0 dX11_onesOf_8 rfl rfl ?_
    refine sw_iconst (1 : Int32) dX11_onesOf_9 (by decide) ?_
    refine sw_iadd dX11_onesOf_10 ?_
    refine SW.name (fun y2 => ?_)
    refine sw_istore_n (lv' := [(2, .int y2), (3, .int x3)]) dX11_onesOf_11 rfl (by decide) rfl ?_
    refine sw_iload_n 1 dX11_onesOf_12 rfl rfl ?_
    refine sw_iload_n 1 dX11_onesOf_13 rfl rfl ?_
    refine sw_iconst (1 : Int32) dX11_onesOf_14 (by decide) ?_
    refine sw_isub dX11_onesOf_15 ?_
    refine sw_iand dX11_onesOf_16 ?_
    refine SW.name (fun y3 => ?_)
    refine sw_istore_n (lv' := [(3, .int y3), (2, .int y2)]) dX11_onesOf_17 rfl (by decide) rfl ?_
    refine sw_goto 4 dX11_onesOf_18 (by decide) ?_
    exact SW.sub [1, 0] rfl (ih y2 y3 u)
set_option maxRecDepth 100000 in
theorem c_X11_onesOf (l : Launch) {ι : qI} {b : Nat}  (x1 : Int32) (u : qS) (h0 : is_X11 ι) : CN l yX11_onesOf cX11_onesOf 4 (some .int) 1 ι b [.ref (b + 163), .int x1] u (m_X11_onesOf x1 u) := by
  refine CN.of_SW (own := RX11) rfl (by decide) (Nat.le_of_ble_eq_true rfl) [(0, .ref (b + 163)), (1, .int x1)] rfl ?_
  unfold m_X11_onesOf
  refine sw_iconst (0 : Int32) dX11_onesOf_0 (by decide) ?_
  refine sw_istore_n (lv' := [(2, .int (0 : Int32)), (0, .ref (b + 163)), (1, .int x1)]) dX11_onesOf_1 rfl (by decide) rfl ?_
  refine sw_iload_n 2 dX11_onesOf_2 rfl rfl ?_
  refine sw_istore_n (lv' := [(3, .int x1), (2, .int (0 : Int32)), (0, .ref (b + 163)), (1, .int x1)]) dX11_onesOf_3 rfl (by decide) rfl ?_
  refine SW.sub (lv' := [(2, .int (0 : Int32)), (3, .int x1)]) [1, 0] rfl ?_
  refine w_X11_onesOf_L4 h0 (fun x2 u_1 => ?_) q_F (0 : Int32) x1 u
  refine sw_iload_n 0 dX11_onesOf_21 rfl rfl ?_
  exact sw_iret dX11_onesOf_22
set_option maxRecDepth 100000 in
theorem c_X11_has (l : Launch) {ι : qI} {b : Nat}  (x1 : Int32) (x2 : Int32) (u : qS) (h0 : is_X11 ι) : CN l yX11_has cX11_has 3 (some .boolean) 1 ι b [.ref (b + 163), .int x1, .int x2] u (m_X11_has x1 x2 u) := by
  refine CN.of_SW (own := RX11) rfl (by decide) (Nat.le_of_ble_eq_true rfl) [(0, .ref (b + 163)), (1, .int x1), (2, .int x2)] rfl ?_
  unfold m_X11_has
  refine sw_iload_n 1 dX11_has_0 rfl rfl ?_
  refine sw_iload_n 2 dX11_has_1 rfl rfl ?_
  refine sw_ishr dX11_has_2 ?_
  refine sw_iconst (1 : Int32) dX11_has_3 (by decide) ?_
  refine sw_iand dX11_has_4 ?_
  refine sw_iconst (1 : Int32) dX11_has_5 (by decide) ?_
  refine sw_icmp_ne 13 dX11_has_6 (by decide) ?_ ?_
  · refine sw_iconst (1 : Int32) dX11_has_9 (by decide) ?_
    refine sw_goto 14 dX11_has_10 (by decide) ?_
    exact sw_zret1 dX11_has_14
  · refine sw_iconst (0 : Int32) dX11_has_13 (by decide) ?_
    exact sw_zret0 dX11_has_14
set_option maxRecDepth 100000 in
theorem w_X11_keepsAhead_L57 {ι : qI} {b : Nat}  (h0 : is_X11 ι)  {K91 : qS → qR} (hK91 : ∀  (u : qS), SW RX11 cX11_keepsAhead 2 none 1 ι b 91 [(0, .ref (b + 163))] [] u (K91  u)) (fu : Nat) (x1 : Int32) (u : qS) : SW RX11 cX11_keepsAhead 2 none 1 ι b 57 [(0, .ref (b + 163)), (1, .int x1)] [] u (q_it1 (m_X11_keepsAhead_L57 K91) fu x1 u) := by
  refine SW.it1 (fun x1 => [(0, .ref (b + 163)), (1, .int x1)]) (fun self ih x1 u => ?_) fu x1 u
  unfold m_X11_keepsAhead_L57
  refine sw_iload_n 1 dX11_keepsAhead_57 rfl rfl ?_
  refine sw_sipush (136 : Int32) dX11_keepsAhead_58 (by decide) ?_
  refine sw_icmp_ge 91 dX11_keepsAhead_61 (by decide) ?_ ?_
  · exact SW.sub [0] rfl (hK91  u)
  · refine sw_aload_n 0 dX11_keepsAhead_64 rfl rfl ?_
    refine sw_getr q_cl11 2 (r := 165) dX11_keepsAhead_65 t_1047 (by decide) h0.1 rfl ?_
    refine sw_sipush (136 : Int32) dX11_keepsAhead_68 (by decide) ?_
    refine sw_aload_n 0 dX11_keepsAhead_71 rfl rfl ?_
    refine sw_geti q_cl11 3 dX11_keepsAhead_72 t_1048 (by decide) h0.1 rfl ?_
    refine sw_imul dX11_keepsAhead_75 ?_
    refine sw_iload_n 1 dX11_keepsAhead_76 rfl rfl ?_
    refine sw_iadd dX11_keepsAhead_77 ?_
    refine sw_aload_n 0 dX11_keepsAhead_78 rfl rfl ?_
    refine sw_getr q_cl11 1 (r := 164) dX11_keepsAhead_79 t_1046 (by decide) h0.1 rfl ?_
    refine sw_iload_n 1 dX11_keepsAhead_82 rfl rfl ?_
    refine sw_iald dX11_keepsAhead_83 h0.2.1 (fun a => ?_)
    refine sw_iast dX11_keepsAhead_84 h0.2.2.1 (fun u_2 => ?_)
    refine sw_iinc (lv' := [(1, .int (x1 + (1 : Int32))), (0, .ref (b + 163))]) 1 dX11_keepsAhead_85 rfl (congrArg (x1 + ·) (by decide)) (by decide) rfl ?_
    refine sw_goto 57 dX11_keepsAhead_88 (by decide) ?_
    exact SW.sub [1, 0] rfl (ih (x1 + (1 : Int32)) u_2)
set_option maxRecDepth 100000 in
theorem w_X11_keepsAhead_L21 {ι : qI} {b : Nat}  (h0 : is_X11 ι)  {K55 : qS → qR} (hK55 : ∀  (u : qS), SW RX11 cX11_keepsAhead 2 none 1 ι b 55 [(0, .ref (b + 163))] [] u (K55  u)) (fu : Nat) (x1 : Int32) (u : qS) : SW RX11 cX11_keepsAhead 2 none 1 ι b 21 [(0, .ref (b + 163)), (1, .int x1)] [] u (q_it1 (m_X11_keepsAhead_L21 K55) fu x1 u) := by
  refine SW.it1 (fun x1 => [(0, .ref (b + 163)), (1, .int x1)]) (fun self ih x1 u => ?_) fu x1 u
  unfold m_X11_keepsAhead_L21
  refine sw_iload_n 1 dX11_keepsAhead_21 rfl rfl ?_
  refine sw_sipush (136 : Int32) dX11_keepsAhead_22 (by decide) ?_
  refine sw_aload_n 0 dX11_keepsAhead_25 rfl rfl ?_
  refine sw_geti q_cl11 3 dX11_keepsAhead_26 t_1048 (by decide) h0.1 rfl ?_
  refine sw_imul dX11_keepsAhead_29 ?_
  refine sw_icmp_ge 55 dX11_keepsAhead_30 (by decide) ?_ ?_
  · exact SW.sub [0] rfl (hK55  u)
  · refine sw_aload_n 0 dX11_keepsAhead_33 rfl rfl ?_
    refine sw_getr q_cl11 2 (r := 165) dX11_keepsAhead_34 t_1047 (by decide) h0.1 rfl ?_
    refine sw_iload_n 1 dX11_keepsAhead_37 rfl rfl ?_
    refine sw_aload_n 0 dX11_keepsAhead_38 rfl rfl ?_
    refine sw_getr q_cl11 2 (r := 165) dX11_keepsAhead_39 t_1047 (by decide) h0.1 rfl ?_
    refine sw_iload_n 1 dX11_keepsAhead_42 rfl rfl ?_
    refine sw_sipush (136 : Int32) dX11_keepsAhead_43 (by decide) ?_
    refine sw_iadd dX11_keepsAhead_46 ?_
    refine sw_iald dX11_keepsAhead_47 h0.2.2.1 (fun a => ?_)
    refine sw_iast dX11_keepsAhead_48 h0.2.2.1 (fun u_6 => ?_)
    refine sw_iinc (lv' := [(1, .int (x1 + (1 : Int32))), (0, .ref (b + 163))]) 1 dX11_keepsAhead_49 rfl (congrArg (x1 + ·) (by decide)) (by decide) rfl ?_
    refine sw_goto 21 dX11_keepsAhead_52 (by decide) ?_
    exact SW.sub [1, 0] rfl (ih (x1 + (1 : Int32)) u_6)
set_option maxRecDepth 100000 in
theorem c_X11_keepsAhead (l : Launch) {ι : qI} {b : Nat}   (u : qS) (h0 : is_X11 ι) : CN l yX11_keepsAhead cX11_keepsAhead 2 none 1 ι b [.ref (b + 163)] u (m_X11_keepsAhead  u) := by
  refine CN.of_SW (own := RX11) rfl (by decide) (Nat.le_of_ble_eq_true rfl) [(0, .ref (b + 163))] rfl ?_
  unfold m_X11_keepsAhead
  refine sw_aload_n 0 dX11_keepsAhead_0 rfl rfl ?_
  refine sw_geti q_cl11 3 dX11_keepsAhead_1 t_1048 (by decide) h0.1 rfl ?_
  refine sw_bipush (6 : Int32) dX11_keepsAhead_4 (by decide) ?_
  refine SW.jn0 55 ([(0, .ref (b + 163))]) ([]) (fun  u_1 => ?_) (fun J55 hJ55 => ?_)
  · refine sw_iconst (0 : Int32) dX11_keepsAhead_55 (by decide) ?_
    refine sw_istore_n (lv' := [(1, .int (0 : Int32)), (0, .ref (b + 163))]) dX11_keepsAhead_56 rfl (by decide) rfl ?_
    refine SW.sub (lv' := [(0, .ref (b + 163)), (1, .int (0 : Int32))]) [1, 0] rfl ?_
    refine w_X11_keepsAhead_L57 h0 (fun u_3 => ?_) q_F (0 : Int32) u_1
    refine sw_aload_n 0 dX11_keepsAhead_91 rfl rfl ?_
    refine sw_aload_n 0 dX11_keepsAhead_92 rfl rfl ?_
    refine sw_geti q_cl11 3 dX11_keepsAhead_93 t_1048 (by decide) h0.1 rfl ?_
    refine sw_iconst (1 : Int32) dX11_keepsAhead_96 (by decide) ?_
    refine sw_iadd dX11_keepsAhead_97 ?_
    refine sw_puti q_cl11 3 dX11_keepsAhead_98 t_1048 (by decide) (by decide +kernel) rfl h0.1 rfl (fun u_4 => ?_)
    exact sw_vret dX11_keepsAhead_101
  · refine sw_icmp_ne 55 dX11_keepsAhead_6 (by decide) ?_ ?_
    · refine sw_aload_n 0 dX11_keepsAhead_9 rfl rfl ?_
      refine sw_aload_n 0 dX11_keepsAhead_10 rfl rfl ?_
      refine sw_geti q_cl11 3 dX11_keepsAhead_11 t_1048 (by decide) h0.1 rfl ?_
      refine sw_iconst (1 : Int32) dX11_keepsAhead_14 (by decide) ?_
      refine sw_isub dX11_keepsAhead_15 ?_
      refine sw_puti q_cl11 3 dX11_keepsAhead_16 t_1048 (by decide) (by decide +kernel) rfl h0.1 rfl (fun u_5 => ?_)
      refine sw_iconst (0 : Int32) dX11_keepsAhead_19 (by decide) ?_
      refine sw_istore_n (lv' := [(1, .int (0 : Int32)), (0, .ref (b + 163))]) dX11_keepsAhead_20 rfl (by decide) rfl ?_
      refine SW.sub (lv' := [(0, .ref (b + 163)), (1, .int (0 : Int32))]) [1, 0] rfl ?_
      refine w_X11_keepsAhead_L21 h0 (fun u_7 => ?_) q_F (0 : Int32) u_5
      exact SW.sub [0] rfl (hJ55  u_7)
    · exact SW.sub [0] rfl (hJ55  u)
set_option maxRecDepth 100000 in
theorem w_X11_undo_L26 {ι : qI} {b : Nat}  (h0 : is_X11 ι)  {K60 : qS → qR} (hK60 : ∀  (u : qS), SW RX11 cX11_undo 2 (some .boolean) 1 ι b 60 [] [] u (K60  u)) (fu : Nat) (x1 : Int32) (u : qS) : SW RX11 cX11_undo 2 (some .boolean) 1 ι b 26 [(0, .ref (b + 163)), (1, .int x1)] [] u (q_it1 (m_X11_undo_L26 K60) fu x1 u) := by
  refine SW.it1 (fun x1 => [(0, .ref (b + 163)), (1, .int x1)]) (fun self ih x1 u => ?_) fu x1 u
  unfold m_X11_undo_L26
  refine sw_iload_n 1 dX11_undo_26 rfl rfl ?_
  refine sw_sipush (136 : Int32) dX11_undo_27 (by decide) ?_
  refine sw_icmp_ge 60 dX11_undo_30 (by decide) ?_ ?_
  · exact SW.sub [] rfl (hK60  u)
  · refine sw_aload_n 0 dX11_undo_33 rfl rfl ?_
    refine sw_getr q_cl11 1 (r := 164) dX11_undo_34 t_1046 (by decide) h0.1 rfl ?_
    refine sw_iload_n 1 dX11_undo_37 rfl rfl ?_
    refine sw_aload_n 0 dX11_undo_38 rfl rfl ?_
    refine sw_getr q_cl11 2 (r := 165) dX11_undo_39 t_1047 (by decide) h0.1 rfl ?_
    refine sw_sipush (136 : Int32) dX11_undo_42 (by decide) ?_
    refine sw_aload_n 0 dX11_undo_45 rfl rfl ?_
    refine sw_geti q_cl11 3 dX11_undo_46 t_1048 (by decide) h0.1 rfl ?_
    refine sw_imul dX11_undo_49 ?_
    refine sw_iload_n 1 dX11_undo_50 rfl rfl ?_
    refine sw_iadd dX11_undo_51 ?_
    refine sw_iald dX11_undo_52 h0.2.2.1 (fun a => ?_)
    refine sw_iast dX11_undo_53 h0.2.1 (fun u_3 => ?_)
    refine sw_iinc (lv' := [(1, .int (x1 + (1 : Int32))), (0, .ref (b + 163))]) 1 dX11_undo_54 rfl (congrArg (x1 + ·) (by decide)) (by decide) rfl ?_
    refine sw_goto 26 dX11_undo_57 (by decide) ?_
    exact SW.sub [1, 0] rfl (ih (x1 + (1 : Int32)) u_3)
set_option maxRecDepth 100000 in
theorem c_X11_undo (l : Launch) {ι : qI} {b : Nat}   (u : qS) (h0 : is_X11 ι) : CN l yX11_undo cX11_undo 2 (some .boolean) 1 ι b [.ref (b + 163)] u (m_X11_undo  u) := by
  refine CN.of_SW (own := RX11) rfl (by decide) (Nat.le_of_ble_eq_true rfl) [(0, .ref (b + 163))] rfl ?_
  unfold m_X11_undo
  refine sw_aload_n 0 dX11_undo_0 rfl rfl ?_
  refine sw_iconst (0 : Int32) dX11_undo_1 (by decide) ?_
  refine sw_puti q_cl11 0 dX11_undo_2 t_1045 (by decide) (by decide +kernel) rfl h0.1 rfl (fun u_1 => ?_)
  refine sw_aload_n 0 dX11_undo_5 rfl rfl ?_
  refine sw_geti q_cl11 3 dX11_undo_6 t_1048 (by decide) h0.1 rfl ?_
  refine sw_if_ne 14 dX11_undo_9 (by decide) ?_ ?_
  · refine sw_iconst (0 : Int32) dX11_undo_12 (by decide) ?_
    exact sw_zret0 dX11_undo_13
  · refine sw_aload_n 0 dX11_undo_14 rfl rfl ?_
    refine sw_aload_n 0 dX11_undo_15 rfl rfl ?_
    refine sw_geti q_cl11 3 dX11_undo_16 t_1048 (by decide) h0.1 rfl ?_
    refine sw_iconst (1 : Int32) dX11_undo_19 (by decide) ?_
    refine sw_isub dX11_undo_20 ?_
    refine sw_puti q_cl11 3 dX11_undo_21 t_1048 (by decide) (by decide +kernel) rfl h0.1 rfl (fun u_2 => ?_)
    refine sw_iconst (0 : Int32) dX11_undo_24 (by decide) ?_
    refine sw_istore_n (lv' := [(1, .int (0 : Int32)), (0, .ref (b + 163))]) dX11_undo_25 rfl (by decide) rfl ?_
    refine SW.sub (lv' := [(0, .ref (b + 163)), (1, .int (0 : Int32))]) [1, 0] rfl ?_
    refine w_X11_undo_L26 h0 (fun u_4 => ?_) q_F (0 : Int32) u_2
    refine sw_iconst (1 : Int32) dX11_undo_60 (by decide) ?_
    exact sw_zret1 dX11_undo_61
set_option maxRecDepth 100000 in
theorem w_X11_thinks_L2 {ι : qI} {b : Nat}  (h0 : is_X11 ι)  {K27 : qS → qR} (hK27 : ∀  (u : qS), SW RX11 cX11_thinks 2 none 1 ι b 27 [(0, .ref (b + 163))] [] u (K27  u)) (fu : Nat) (x1 : Int32) (u : qS) : SW RX11 cX11_thinks 2 none 1 ι b 2 [(0, .ref (b + 163)), (1, .int x1)] [] u (q_it1 (m_X11_thinks_L2 K27) fu x1 u) := by
  refine SW.it1 (fun x1 => [(0, .ref (b + 163)), (1, .int x1)]) (fun self ih x1 u => ?_) fu x1 u
  unfold m_X11_thinks_L2
  refine sw_iload_n 1 dX11_thinks_2 rfl rfl ?_
  refine sw_sipush (136 : Int32) dX11_thinks_3 (by decide) ?_
  refine sw_icmp_ge 27 dX11_thinks_6 (by decide) ?_ ?_
  · exact SW.sub [0] rfl (hK27  u)
  · refine sw_aload_n 0 dX11_thinks_9 rfl rfl ?_
    refine sw_getr q_cl11 4 (r := 166) dX11_thinks_10 t_1049 (by decide) h0.1 rfl ?_
    refine sw_iload_n 1 dX11_thinks_13 rfl rfl ?_
    refine sw_aload_n 0 dX11_thinks_14 rfl rfl ?_
    refine sw_getr q_cl11 1 (r := 164) dX11_thinks_15 t_1046 (by decide) h0.1 rfl ?_
    refine sw_iload_n 1 dX11_thinks_18 rfl rfl ?_
    refine sw_iald dX11_thinks_19 h0.2.1 (fun a => ?_)
    refine sw_iast dX11_thinks_20 h0.2.2.2.1 (fun u_1 => ?_)
    refine sw_iinc (lv' := [(1, .int (x1 + (1 : Int32))), (0, .ref (b + 163))]) 1 dX11_thinks_21 rfl (congrArg (x1 + ·) (by decide)) (by decide) rfl ?_
    refine sw_goto 2 dX11_thinks_24 (by decide) ?_
    exact SW.sub [1, 0] rfl (ih (x1 + (1 : Int32)) u_1)
set_option maxRecDepth 100000 in
theorem c_X11_thinks (l : Launch) {ι : qI} {b : Nat}   (u : qS) (h0 : is_X11 ι) : CN l yX11_thinks cX11_thinks 2 none 1 ι b [.ref (b + 163)] u (m_X11_thinks  u) := by
  refine CN.of_SW (own := RX11) rfl (by decide) (Nat.le_of_ble_eq_true rfl) [(0, .ref (b + 163))] rfl ?_
  unfold m_X11_thinks
  refine sw_iconst (0 : Int32) dX11_thinks_0 (by decide) ?_
  refine sw_istore_n (lv' := [(1, .int (0 : Int32)), (0, .ref (b + 163))]) dX11_thinks_1 rfl (by decide) rfl ?_
  refine SW.sub (lv' := [(0, .ref (b + 163)), (1, .int (0 : Int32))]) [1, 0] rfl ?_
  refine w_X11_thinks_L2 h0 (fun u_2 => ?_) q_F (0 : Int32) u
  refine sw_aload_n 0 dX11_thinks_27 rfl rfl ?_
  refine sw_iconst (1 : Int32) dX11_thinks_28 (by decide) ?_
  refine sw_putz q_cl11 5 dX11_thinks_29 t_1050 (by decide) (by decide +kernel) rfl h0.1 rfl (fun u_3 => ?_)
  refine sw_aload_n 0 dX11_thinks_32 rfl rfl ?_
  refine sw_iconst (0 : Int32) dX11_thinks_33 (by decide) ?_
  refine sw_puti q_cl11 42 dX11_thinks_34 t_1087 (by decide) (by decide +kernel) rfl h0.1 rfl (fun u_4 => ?_)
  refine sw_aload_n 0 dX11_thinks_37 rfl rfl ?_
  refine sw_iconst (-1 : Int32) dX11_thinks_38 (by decide) ?_
  refine sw_puti q_cl11 44 dX11_thinks_39 t_1089 (by decide) (by decide +kernel) rfl h0.1 rfl (fun u_5 => ?_)
  refine sw_aload_n 0 dX11_thinks_42 rfl rfl ?_
  refine sw_iconst (-1 : Int32) dX11_thinks_43 (by decide) ?_
  refine sw_puti q_cl11 45 dX11_thinks_44 t_1090 (by decide) (by decide +kernel) rfl h0.1 rfl (fun u_6 => ?_)
  exact sw_vret dX11_thinks_47
set_option maxRecDepth 100000 in
theorem w_X11_thinksAnew_L2 {ι : qI} {b : Nat}  (h0 : is_X11 ι)  {K27 : qS → qR} (hK27 : ∀  (u : qS), SW RX11 cX11_thinksAnew 2 none 1 ι b 27 [] [] u (K27  u)) (fu : Nat) (x1 : Int32) (u : qS) : SW RX11 cX11_thinksAnew 2 none 1 ι b 2 [(0, .ref (b + 163)), (1, .int x1)] [] u (q_it1 (m_X11_thinksAnew_L2 K27) fu x1 u) := by
  refine SW.it1 (fun x1 => [(0, .ref (b + 163)), (1, .int x1)]) (fun self ih x1 u => ?_) fu x1 u
  unfold m_X11_thinksAnew_L2
  refine sw_iload_n 1 dX11_thinksAnew_2 rfl rfl ?_
  refine sw_sipush (136 : Int32) dX11_thinksAnew_3 (by decide) ?_
  refine sw_icmp_ge 27 dX11_thinksAnew_6 (by decide) ?_ ?_
  · exact SW.sub [] rfl (hK27  u)
  · refine sw_aload_n 0 dX11_thinksAnew_9 rfl rfl ?_
    refine sw_getr q_cl11 1 (r := 164) dX11_thinksAnew_10 t_1046 (by decide) h0.1 rfl ?_
    refine sw_iload_n 1 dX11_thinksAnew_13 rfl rfl ?_
    refine sw_aload_n 0 dX11_thinksAnew_14 rfl rfl ?_
    refine sw_getr q_cl11 4 (r := 166) dX11_thinksAnew_15 t_1049 (by decide) h0.1 rfl ?_
    refine sw_iload_n 1 dX11_thinksAnew_18 rfl rfl ?_
    refine sw_iald dX11_thinksAnew_19 h0.2.2.2.1 (fun a => ?_)
    refine sw_iast dX11_thinksAnew_20 h0.2.1 (fun u_1 => ?_)
    refine sw_iinc (lv' := [(1, .int (x1 + (1 : Int32))), (0, .ref (b + 163))]) 1 dX11_thinksAnew_21 rfl (congrArg (x1 + ·) (by decide)) (by decide) rfl ?_
    refine sw_goto 2 dX11_thinksAnew_24 (by decide) ?_
    exact SW.sub [1, 0] rfl (ih (x1 + (1 : Int32)) u_1)
set_option maxRecDepth 100000 in
theorem c_X11_thinksAnew (l : Launch) {ι : qI} {b : Nat}   (u : qS) (h0 : is_X11 ι) : CN l yX11_thinksAnew cX11_thinksAnew 2 none 1 ι b [.ref (b + 163)] u (m_X11_thinksAnew  u) := by
  refine CN.of_SW (own := RX11) rfl (by decide) (Nat.le_of_ble_eq_true rfl) [(0, .ref (b + 163))] rfl ?_
  unfold m_X11_thinksAnew
  refine sw_iconst (0 : Int32) dX11_thinksAnew_0 (by decide) ?_
  refine sw_istore_n (lv' := [(1, .int (0 : Int32)), (0, .ref (b + 163))]) dX11_thinksAnew_1 rfl (by decide) rfl ?_
  refine SW.sub (lv' := [(0, .ref (b + 163)), (1, .int (0 : Int32))]) [1, 0] rfl ?_
  refine w_X11_thinksAnew_L2 h0 (fun u_2 => ?_) q_F (0 : Int32) u
  exact sw_vret dX11_thinksAnew_27
set_option maxRecDepth 100000 in
theorem c_X11_endsThought (l : Launch) {ι : qI} {b : Nat}   (u : qS) (h0 : is_X11 ι) : CN l yX11_endsThought cX11_endsThought 1 none 2 ι b [.ref (b + 163)] u (m_X11_endsThought  u) := by
  refine CN.of_SW (own := RX11) rfl (by decide) (Nat.le_of_ble_eq_true rfl) [(0, .ref (b + 163))] rfl ?_
  unfold m_X11_endsThought
  refine sw_aload_n 0 dX11_endsThought_0 rfl rfl ?_
  refine sw_callVv (As := []) (k := 163) rfl dX11_endsThought_1 t_1608 mf_X11_thinksAnew h0.1 q_cl11 (by decide) (Nat.le_of_ble_eq_true rfl) (fun l => c_X11_thinksAnew l  u h0) (fun _ u_1 => ?_)
  refine sw_aload_n 0 dX11_endsThought_4 rfl rfl ?_
  refine sw_iconst (0 : Int32) dX11_endsThought_5 (by decide) ?_
  refine sw_putz q_cl11 5 dX11_endsThought_6 t_1050 (by decide) (by decide +kernel) rfl h0.1 rfl (fun u_2 => ?_)
  exact sw_vret dX11_endsThought_9
set_option maxRecDepth 100000 in
theorem c_X11_state (l : Launch) {ι : qI} {b : Nat}  (x1 : Int32) (u : qS) (h0 : is_X11 ι) : CN l yX11_state cX11_state 3 (some .int) 1 ι b [.ref (b + 163), .int x1] u (m_X11_state x1 u) := by
  refine CN.of_SW (own := RX11) rfl (by decide) (Nat.le_of_ble_eq_true rfl) [(0, .ref (b + 163)), (1, .int x1)] rfl ?_
  unfold m_X11_state
  refine sw_aload_n 0 dX11_state_0 rfl rfl ?_
  refine sw_iconst (0 : Int32) dX11_state_1 (by decide) ?_
  refine sw_puti q_cl11 0 dX11_state_2 t_1045 (by decide) (by decide +kernel) rfl h0.1 rfl (fun u_1 => ?_)
  refine sw_aload_n 0 dX11_state_5 rfl rfl ?_
  refine sw_getr q_cl11 1 (r := 164) dX11_state_6 t_1046 (by decide) h0.1 rfl ?_
  refine sw_iconst (1 : Int32) dX11_state_9 (by decide) ?_
  refine sw_iald dX11_state_10 h0.2.1 (fun a => ?_)
  refine sw_istore_n (lv' := [(2, .int a), (0, .ref (b + 163)), (1, .int x1)]) dX11_state_11 rfl (by decide) rfl ?_
  refine sw_aload_n 1 dX11_state_12 rfl rfl ?_
  refine sw_getr q_cl11 1 (r := 164) dX11_state_13 t_1046 (by decide) h0.1 rfl ?_
  refine sw_iconst (1 : Int32) dX11_state_16 (by decide) ?_
  refine sw_iload_n 2 dX11_state_17 rfl rfl ?_
  refine sw_iast dX11_state_18 h0.2.1 (fun u_2 => ?_)
  refine sw_aload_n 1 dX11_state_19 rfl rfl ?_
  refine sw_iconst (0 : Int32) dX11_state_20 (by decide) ?_
  refine sw_puti q_cl11 3 dX11_state_21 t_1048 (by decide) (by decide +kernel) rfl h0.1 rfl (fun u_3 => ?_)
  refine sw_iload_n 0 dX11_state_24 rfl rfl ?_
  exact sw_iret dX11_state_25
set_option maxRecDepth 100000 in
theorem c_X11_draw (l : Launch) {ι : qI} {b : Nat}  (x1 : Int32) (u : qS) (h0 : is_X11 ι) : CN l yX11_draw cX11_draw 2 (some .int) 1 ι b [.ref (b + 163), .int x1] u (m_X11_draw x1 u) := by
  refine CN.of_SW (own := RX11) rfl (by decide) (Nat.le_of_ble_eq_true rfl) [(0, .ref (b + 163)), (1, .int x1)] rfl ?_
  unfold m_X11_draw
  refine sw_aload_n 0 dX11_draw_0 rfl rfl ?_
  refine sw_getr q_cl11 1 (r := 164) dX11_draw_1 t_1046 (by decide) h0.1 rfl ?_
  refine sw_iconst (1 : Int32) dX11_draw_4 (by decide) ?_
  refine sw_ldc dX11_draw_5 t_1534 ?_
  refine sw_aload_n 0 dX11_draw_7 rfl rfl ?_
  refine sw_getr q_cl11 1 (r := 164) dX11_draw_8 t_1046 (by decide) h0.1 rfl ?_
  refine sw_iconst (1 : Int32) dX11_draw_11 (by decide) ?_
  refine sw_iald dX11_draw_12 h0.2.1 (fun a => ?_)
  refine sw_imul dX11_draw_13 ?_
  refine sw_ldc dX11_draw_14 t_1535 ?_
  refine sw_iadd dX11_draw_16 ?_
  refine sw_iast dX11_draw_17 h0.2.1 (fun u_1 => ?_)
  refine sw_aload_n 0 dX11_draw_18 rfl rfl ?_
  refine sw_getr q_cl11 1 (r := 164) dX11_draw_19 t_1046 (by decide) h0.1 rfl ?_
  refine sw_iconst (1 : Int32) dX11_draw_22 (by decide) ?_
  refine sw_iald dX11_draw_23 h0.2.1 (fun a_2 => ?_)
  refine sw_bipush (8 : Int32) dX11_draw_24 (by decide) ?_
  refine sw_qushr dX11_draw_26 ?_
  refine sw_iload_n 1 dX11_draw_27 rfl rfl ?_
  refine sw_irem dX11_draw_28 (fun a_3 => ?_)
  exact sw_iret dX11_draw_29
set_option maxRecDepth 100000 in
theorem c_X11_chairs (l : Launch) {ι : qI} {b : Nat}   (u : qS) (h0 : is_X11 ι) : CN l yX11_chairs cX11_chairs 1 (some .int) 1 ι b [.ref (b + 163)] u (m_X11_chairs  u) := by
  refine CN.of_SW (own := RX11) rfl (by decide) (Nat.le_of_ble_eq_true rfl) [(0, .ref (b + 163))] rfl ?_
  unfold m_X11_chairs
  refine sw_aload_n 0 dX11_chairs_0 rfl rfl ?_
  refine sw_geti q_cl11 10 dX11_chairs_1 t_1055 (by decide) h0.1 rfl ?_
  refine sw_bipush (9 : Int32) dX11_chairs_4 (by decide) ?_
  refine sw_iadd dX11_chairs_6 ?_
  exact sw_iret dX11_chairs_7
set_option maxRecDepth 100000 in
theorem c_X11_every (l : Launch) {ι : qI} {b : Nat}   (u : qS) (h0 : is_X11 ι) : CN l yX11_every cX11_every 1 (some .int) 1 ι b [.ref (b + 163)] u (m_X11_every  u) := by
  refine CN.of_SW (own := RX11) rfl (by decide) (Nat.le_of_ble_eq_true rfl) [(0, .ref (b + 163))] rfl ?_
  unfold m_X11_every
  refine sw_aload_n 0 dX11_every_0 rfl rfl ?_
  refine sw_geti q_cl11 11 dX11_every_1 t_1056 (by decide) h0.1 rfl ?_
  refine sw_iconst (4 : Int32) dX11_every_4 (by decide) ?_
  refine sw_iadd dX11_every_5 ?_
  exact sw_iret dX11_every_6
set_option maxRecDepth 100000 in
theorem c_X11_isParty (l : Launch) {ι : qI} {b : Nat}  (x1 : Int32) (u : qS) (h0 : is_X11 ι) : CN l yX11_isParty cX11_isParty 2 (some .boolean) 1 ι b [.ref (b + 163), .int x1] u (m_X11_isParty x1 u) := by
  refine CN.of_SW (own := RX11) rfl (by decide) (Nat.le_of_ble_eq_true rfl) [(0, .ref (b + 163)), (1, .int x1)] rfl ?_
  unfold m_X11_isParty
  refine sw_iload_n 1 dX11_isParty_0 rfl rfl ?_
  refine sw_if_lt 16 dX11_isParty_1 (by decide) ?_ ?_
  · refine sw_iconst (0 : Int32) dX11_isParty_16 (by decide) ?_
    exact sw_zret0 dX11_isParty_17
  · refine sw_iload_n 1 dX11_isParty_4 rfl rfl ?_
    refine sw_aload_n 0 dX11_isParty_5 rfl rfl ?_
    refine sw_geti q_cl11 6 dX11_isParty_6 t_1051 (by decide) h0.1 rfl ?_
    refine sw_icmp_ge 16 dX11_isParty_9 (by decide) ?_ ?_
    · refine sw_iconst (0 : Int32) dX11_isParty_16 (by decide) ?_
      exact sw_zret0 dX11_isParty_17
    · refine sw_iconst (1 : Int32) dX11_isParty_12 (by decide) ?_
      refine sw_goto 17 dX11_isParty_13 (by decide) ?_
      exact sw_zret1 dX11_isParty_17
set_option maxRecDepth 100000 in
theorem c_X11_isEater (l : Launch) {ι : qI} {b : Nat}  (x1 : Int32) (u : qS) (h0 : is_X11 ι) : CN l yX11_isEater cX11_isEater 2 (some .boolean) 1 ι b [.ref (b + 163), .int x1] u (m_X11_isEater x1 u) := by
  refine CN.of_SW (own := RX11) rfl (by decide) (Nat.le_of_ble_eq_true rfl) [(0, .ref (b + 163)), (1, .int x1)] rfl ?_
  unfold m_X11_isEater
  refine sw_iload_n 1 dX11_isEater_0 rfl rfl ?_
  refine sw_if_lt 16 dX11_isEater_1 (by decide) ?_ ?_
  · refine sw_iconst (0 : Int32) dX11_isEater_16 (by decide) ?_
    exact sw_zret0 dX11_isEater_17
  · refine sw_iload_n 1 dX11_isEater_4 rfl rfl ?_
    refine sw_aload_n 0 dX11_isEater_5 rfl rfl ?_
    refine sw_geti q_cl11 7 dX11_isEater_6 t_1052 (by decide) h0.1 rfl ?_
    refine sw_icmp_ge 16 dX11_isEater_9 (by decide) ?_ ?_
    · refine sw_iconst (0 : Int32) dX11_isEater_16 (by decide) ?_
      exact sw_zret0 dX11_isEater_17
    · refine sw_iconst (1 : Int32) dX11_isEater_12 (by decide) ?_
      refine sw_goto 17 dX11_isEater_13 (by decide) ?_
      exact sw_zret1 dX11_isEater_17
set_option maxRecDepth 100000 in
theorem c_X11_isPlace (l : Launch) {ι : qI} {b : Nat}  (x1 : Int32) (u : qS) (h0 : is_X11 ι) : CN l yX11_isPlace cX11_isPlace 2 (some .boolean) 1 ι b [.ref (b + 163), .int x1] u (m_X11_isPlace x1 u) := by
  refine CN.of_SW (own := RX11) rfl (by decide) (Nat.le_of_ble_eq_true rfl) [(0, .ref (b + 163)), (1, .int x1)] rfl ?_
  unfold m_X11_isPlace
  refine sw_iload_n 1 dX11_isPlace_0 rfl rfl ?_
  refine sw_if_lt 14 dX11_isPlace_1 (by decide) ?_ ?_
  · refine sw_iconst (0 : Int32) dX11_isPlace_14 (by decide) ?_
    exact sw_zret0 dX11_isPlace_15
  · refine sw_iload_n 1 dX11_isPlace_4 rfl rfl ?_
    refine sw_bipush (10 : Int32) dX11_isPlace_5 (by decide) ?_
    refine sw_icmp_ge 14 dX11_isPlace_7 (by decide) ?_ ?_
    · refine sw_iconst (0 : Int32) dX11_isPlace_14 (by decide) ?_
      exact sw_zret0 dX11_isPlace_15
    · refine sw_iconst (1 : Int32) dX11_isPlace_10 (by decide) ?_
      refine sw_goto 15 dX11_isPlace_11 (by decide) ?_
      exact sw_zret1 dX11_isPlace_15
set_option maxRecDepth 100000 in
theorem c_X11_isTree (l : Launch) {ι : qI} {b : Nat}  (x1 : Int32) (u : qS) (h0 : is_X11 ι) : CN l yX11_isTree cX11_isTree 2 (some .boolean) 1 ι b [.ref (b + 163), .int x1] u (m_X11_isTree x1 u) := by
  refine CN.of_SW (own := RX11) rfl (by decide) (Nat.le_of_ble_eq_true rfl) [(0, .ref (b + 163)), (1, .int x1)] rfl ?_
  unfold m_X11_isTree
  refine sw_iload_n 1 dX11_isTree_0 rfl rfl ?_
  refine sw_if_lt 18 dX11_isTree_1 (by decide) ?_ ?_
  · refine sw_iconst (0 : Int32) dX11_isTree_18 (by decide) ?_
    exact sw_zret0 dX11_isTree_19
  · refine sw_iload_n 1 dX11_isTree_4 rfl rfl ?_
    refine sw_aload_n 0 dX11_isTree_5 rfl rfl ?_
    refine sw_getr q_cl11 1 (r := 164) dX11_isTree_6 t_1046 (by decide) h0.1 rfl ?_
    refine sw_iconst (4 : Int32) dX11_isTree_9 (by decide) ?_
    refine sw_iald dX11_isTree_10 h0.2.1 (fun a => ?_)
    refine sw_icmp_ge 18 dX11_isTree_11 (by decide) ?_ ?_
    · refine sw_iconst (0 : Int32) dX11_isTree_18 (by decide) ?_
      exact sw_zret0 dX11_isTree_19
    · refine sw_iconst (1 : Int32) dX11_isTree_14 (by decide) ?_
      refine sw_goto 19 dX11_isTree_15 (by decide) ?_
      exact sw_zret1 dX11_isTree_19
set_option maxRecDepth 100000 in
theorem c_X11_tasteOf (l : Launch) {ι : qI} {b : Nat}  (x1 : Int32) (x2 : Int32) (u : qS) (h0 : is_X11 ι) : CN l yX11_tasteOf cX11_tasteOf 3 (some .int) 1 ι b [.ref (b + 163), .int x1, .int x2] u (m_X11_tasteOf x1 x2 u) := by
  refine CN.of_SW (own := RX11) rfl (by decide) (Nat.le_of_ble_eq_true rfl) [(0, .ref (b + 163)), (1, .int x1), (2, .int x2)] rfl ?_
  unfold m_X11_tasteOf
  refine sw_aload_n 0 dX11_tasteOf_0 rfl rfl ?_
  refine sw_getr q_cl11 1 (r := 164) dX11_tasteOf_1 t_1046 (by decide) h0.1 rfl ?_
  refine sw_bipush (86 : Int32) dX11_tasteOf_4 (by decide) ?_
  refine sw_iconst (5 : Int32) dX11_tasteOf_6 (by decide) ?_
  refine sw_iload_n 1 dX11_tasteOf_7 rfl rfl ?_
  refine sw_imul dX11_tasteOf_8 ?_
  refine sw_iadd dX11_tasteOf_9 ?_
  refine sw_iload_n 2 dX11_tasteOf_10 rfl rfl ?_
  refine sw_iadd dX11_tasteOf_11 ?_
  refine sw_iald dX11_tasteOf_12 h0.2.1 (fun a => ?_)
  refine sw_iconst (5 : Int32) dX11_tasteOf_13 (by decide) ?_
  refine sw_iadd dX11_tasteOf_14 ?_
  exact sw_iret dX11_tasteOf_15
set_option maxRecDepth 100000 in
theorem c_X11_tasteBe (l : Launch) {ι : qI} {b : Nat}  (x1 : Int32) (x2 : Int32) (x3 : Int32) (u : qS) (h0 : is_X11 ι) : CN l yX11_tasteBe cX11_tasteBe 4 none 2 ι b [.ref (b + 163), .int x1, .int x2, .int x3] u (m_X11_tasteBe x1 x2 x3 u) := by
  refine CN.of_SW (own := RX11) rfl (by decide) (Nat.le_of_ble_eq_true rfl) [(0, .ref (b + 163)), (1, .int x1), (2, .int x2), (3, .int x3)] rfl ?_
  unfold m_X11_tasteBe
  refine sw_aload_n 0 dX11_tasteBe_0 rfl rfl ?_
  refine sw_getr q_cl11 1 (r := 164) dX11_tasteBe_1 t_1046 (by decide) h0.1 rfl ?_
  refine sw_bipush (86 : Int32) dX11_tasteBe_4 (by decide) ?_
  refine sw_iconst (5 : Int32) dX11_tasteBe_6 (by decide) ?_
  refine sw_iload_n 1 dX11_tasteBe_7 rfl rfl ?_
  refine sw_imul dX11_tasteBe_8 ?_
  refine sw_iadd dX11_tasteBe_9 ?_
  refine sw_iload_n 2 dX11_tasteBe_10 rfl rfl ?_
  refine sw_iadd dX11_tasteBe_11 ?_
  refine sw_aload_n 0 dX11_tasteBe_12 rfl rfl ?_
  refine sw_iload_n 3 dX11_tasteBe_13 rfl rfl ?_
  refine sw_iconst (0 : Int32) dX11_tasteBe_14 (by decide) ?_
  refine sw_bipush (9 : Int32) dX11_tasteBe_15 (by decide) ?_
  refine sw_callVi (As := [.int x3, .int (0 : Int32), .int (9 : Int32)]) (k := 163) rfl dX11_tasteBe_17 t_1250 mf_X11_held h0.1 q_cl11 (by decide) (Nat.le_of_ble_eq_true rfl) (fun l => c_X11_held l x3 (0 : Int32) (9 : Int32) u h0) (fun r u_1 => ?_)
  refine sw_iconst (5 : Int32) dX11_tasteBe_20 (by decide) ?_
  refine sw_isub dX11_tasteBe_21 ?_
  refine sw_iast dX11_tasteBe_22 h0.2.1 (fun u_2 => ?_)
  exact sw_vret dX11_tasteBe_23
set_option maxRecDepth 100000 in
theorem c_X11_party (l : Launch) {ι : qI} {b : Nat}  (x1 : Int32) (u : qS) (h0 : is_X11 ι) : CN l yX11_party cX11_party 2 (some .int) 2 ι b [.ref (b + 163), .int x1] u (m_X11_party x1 u) := by
  refine CN.of_SW (own := RX11) rfl (by decide) (Nat.le_of_ble_eq_true rfl) [(0, .ref (b + 163)), (1, .int x1)] rfl ?_
  unfold m_X11_party
  refine sw_aload_n 0 dX11_party_0 rfl rfl ?_
  refine sw_iconst (0 : Int32) dX11_party_1 (by decide) ?_
  refine sw_puti q_cl11 0 dX11_party_2 t_1045 (by decide) (by decide +kernel) rfl h0.1 rfl (fun u_1 => ?_)
  refine sw_aload_n 0 dX11_party_5 rfl rfl ?_
  refine sw_iload_n 1 dX11_party_6 rfl rfl ?_
  refine sw_iconst (0 : Int32) dX11_party_7 (by decide) ?_
  refine sw_sipush (999 : Int32) dX11_party_8 (by decide) ?_
  refine sw_callVi (As := [.int x1, .int (0 : Int32), .int (999 : Int32)]) (k := 163) rfl dX11_party_11 t_1226 mf_X11_isIn h0.1 q_cl11 (by decide) (Nat.le_of_ble_eq_true rfl) (fun l => c_X11_isIn l x1 (0 : Int32) (999 : Int32) u_1 h0) (fun r u_2 => ?_)
  refine sw_if_eq 25 dX11_party_14 (by decide) ?_ ?_
  · refine sw_iconst (-1 : Int32) dX11_party_25 (by decide) ?_
    exact sw_iret dX11_party_26
  · refine sw_aload_n 0 dX11_party_17 rfl rfl ?_
    refine sw_geti q_cl11 6 dX11_party_18 t_1051 (by decide) h0.1 rfl ?_
    refine sw_iconst (5 : Int32) dX11_party_21 (by decide) ?_
    refine sw_icmp_ne 27 dX11_party_22 (by decide) ?_ ?_
    · refine sw_iconst (-1 : Int32) dX11_party_25 (by decide) ?_
      exact sw_iret dX11_party_26
    · refine sw_aload_n 0 dX11_party_27 rfl rfl ?_
      refine sw_getr q_cl11 1 (r := 164) dX11_party_28 t_1046 (by decide) h0.1 rfl ?_
      refine sw_bipush (15 : Int32) dX11_party_31 (by decide) ?_
      refine sw_aload_n 0 dX11_party_33 rfl rfl ?_
      refine sw_geti q_cl11 6 dX11_party_34 t_1051 (by decide) h0.1 rfl ?_
      refine sw_iadd dX11_party_37 ?_
      refine sw_iload_n 1 dX11_party_38 rfl rfl ?_
      refine sw_iast dX11_party_39 h0.2.1 (fun u_3 => ?_)
      refine sw_aload_n 0 dX11_party_40 rfl rfl ?_
      refine sw_aload_n 0 dX11_party_41 rfl rfl ?_
      refine sw_geti q_cl11 6 dX11_party_42 t_1051 (by decide) h0.1 rfl ?_
      refine sw_iconst (1 : Int32) dX11_party_45 (by decide) ?_
      refine sw_iadd dX11_party_46 ?_
      refine sw_puti q_cl11 6 dX11_party_47 t_1051 (by decide) (by decide +kernel) rfl h0.1 rfl (fun u_4 => ?_)
      refine sw_aload_n 0 dX11_party_50 rfl rfl ?_
      refine sw_iconst (0 : Int32) dX11_party_51 (by decide) ?_
      refine sw_puti q_cl11 3 dX11_party_52 t_1048 (by decide) (by decide +kernel) rfl h0.1 rfl (fun u_5 => ?_)
      refine sw_aload_n 0 dX11_party_55 rfl rfl ?_
      refine sw_geti q_cl11 6 dX11_party_56 t_1051 (by decide) h0.1 rfl ?_
      refine sw_iconst (1 : Int32) dX11_party_59 (by decide) ?_
      refine sw_isub dX11_party_60 ?_
      exact sw_iret dX11_party_61
set_option maxRecDepth 100000 in
theorem c_X11_eater (l : Launch) {ι : qI} {b : Nat}  (x1 : Int32) (u : qS) (h0 : is_X11 ι) : CN l yX11_eater cX11_eater 2 (some .int) 2 ι b [.ref (b + 163), .int x1] u (m_X11_eater x1 u) := by
  refine CN.of_SW (own := RX11) rfl (by decide) (Nat.le_of_ble_eq_true rfl) [(0, .ref (b + 163)), (1, .int x1)] rfl ?_
  unfold m_X11_eater
  refine sw_aload_n 0 dX11_eater_0 rfl rfl ?_
  refine sw_iconst (0 : Int32) dX11_eater_1 (by decide) ?_
  refine sw_puti q_cl11 0 dX11_eater_2 t_1045 (by decide) (by decide +kernel) rfl h0.1 rfl (fun u_1 => ?_)
  refine sw_aload_n 0 dX11_eater_5 rfl rfl ?_
  refine sw_iload_n 1 dX11_eater_6 rfl rfl ?_
  refine sw_iconst (0 : Int32) dX11_eater_7 (by decide) ?_
  refine sw_bipush (20 : Int32) dX11_eater_8 (by decide) ?_
  refine sw_callVi (As := [.int x1, .int (0 : Int32), .int (20 : Int32)]) (k := 163) rfl dX11_eater_10 t_1226 mf_X11_isIn h0.1 q_cl11 (by decide) (Nat.le_of_ble_eq_true rfl) (fun l => c_X11_isIn l x1 (0 : Int32) (20 : Int32) u_1 h0) (fun r u_2 => ?_)
  refine sw_if_eq 25 dX11_eater_13 (by decide) ?_ ?_
  · refine sw_iconst (-1 : Int32) dX11_eater_25 (by decide) ?_
    exact sw_iret dX11_eater_26
  · refine sw_aload_n 0 dX11_eater_16 rfl rfl ?_
    refine sw_geti q_cl11 7 dX11_eater_17 t_1052 (by decide) h0.1 rfl ?_
    refine sw_bipush (10 : Int32) dX11_eater_20 (by decide) ?_
    refine sw_icmp_ne 27 dX11_eater_22 (by decide) ?_ ?_
    · refine sw_iconst (-1 : Int32) dX11_eater_25 (by decide) ?_
      exact sw_iret dX11_eater_26
    · refine sw_aload_n 0 dX11_eater_27 rfl rfl ?_
      refine sw_getr q_cl11 1 (r := 164) dX11_eater_28 t_1046 (by decide) h0.1 rfl ?_
      refine sw_bipush (76 : Int32) dX11_eater_31 (by decide) ?_
      refine sw_aload_n 0 dX11_eater_33 rfl rfl ?_
      refine sw_geti q_cl11 7 dX11_eater_34 t_1052 (by decide) h0.1 rfl ?_
      refine sw_iadd dX11_eater_37 ?_
      refine sw_iload_n 1 dX11_eater_38 rfl rfl ?_
      refine sw_iast dX11_eater_39 h0.2.1 (fun u_3 => ?_)
      refine sw_aload_n 0 dX11_eater_40 rfl rfl ?_
      refine sw_aload_n 0 dX11_eater_41 rfl rfl ?_
      refine sw_geti q_cl11 7 dX11_eater_42 t_1052 (by decide) h0.1 rfl ?_
      refine sw_iconst (1 : Int32) dX11_eater_45 (by decide) ?_
      refine sw_iadd dX11_eater_46 ?_
      refine sw_puti q_cl11 7 dX11_eater_47 t_1052 (by decide) (by decide +kernel) rfl h0.1 rfl (fun u_4 => ?_)
      refine sw_aload_n 0 dX11_eater_50 rfl rfl ?_
      refine sw_iconst (0 : Int32) dX11_eater_51 (by decide) ?_
      refine sw_puti q_cl11 3 dX11_eater_52 t_1048 (by decide) (by decide +kernel) rfl h0.1 rfl (fun u_5 => ?_)
      refine sw_aload_n 0 dX11_eater_55 rfl rfl ?_
      refine sw_geti q_cl11 7 dX11_eater_56 t_1052 (by decide) h0.1 rfl ?_
      refine sw_iconst (1 : Int32) dX11_eater_59 (by decide) ?_
      refine sw_isub dX11_eater_60 ?_
      exact sw_iret dX11_eater_61
set_option maxRecDepth 100000 in
theorem c_X11_taste (l : Launch) {ι : qI} {b : Nat}  (x1 : Int32) (x2 : Int32) (x3 : Int32) (u : qS) (h0 : is_X11 ι) : CN l yX11_taste cX11_taste 4 (some .boolean) 3 ι b [.ref (b + 163), .int x1, .int x2, .int x3] u (m_X11_taste x1 x2 x3 u) := by
  refine CN.of_SW (own := RX11) rfl (by decide) (Nat.le_of_ble_eq_true rfl) [(0, .ref (b + 163)), (1, .int x1), (2, .int x2), (3, .int x3)] rfl ?_
  unfold m_X11_taste
  refine sw_aload_n 0 dX11_taste_0 rfl rfl ?_
  refine sw_iconst (0 : Int32) dX11_taste_1 (by decide) ?_
  refine sw_puti q_cl11 0 dX11_taste_2 t_1045 (by decide) (by decide +kernel) rfl h0.1 rfl (fun u_1 => ?_)
  refine sw_aload_n 0 dX11_taste_5 rfl rfl ?_
  refine sw_iload_n 1 dX11_taste_6 rfl rfl ?_
  refine sw_callVi (As := [.int x1]) (k := 163) rfl dX11_taste_7 t_1238 mf_X11_isEater h0.1 q_cl11 (by decide) (Nat.le_of_ble_eq_true rfl) (fun l => c_X11_isEater l x1 u_1 h0) (fun r u_2 => ?_)
  refine sw_if_eq 32 dX11_taste_10 (by decide) ?_ ?_
  · refine sw_iconst (0 : Int32) dX11_taste_32 (by decide) ?_
    exact sw_zret0 dX11_taste_33
  · refine sw_aload_n 0 dX11_taste_13 rfl rfl ?_
    refine sw_iload_n 2 dX11_taste_14 rfl rfl ?_
    refine sw_callVi (As := [.int x2]) (k := 163) rfl dX11_taste_15 t_1242 mf_X11_isParty h0.1 q_cl11 (by decide) (Nat.le_of_ble_eq_true rfl) (fun l => c_X11_isParty l x2 u_2 h0) (fun r_3 u_4 => ?_)
    refine sw_if_eq 32 dX11_taste_18 (by decide) ?_ ?_
    · refine sw_iconst (0 : Int32) dX11_taste_32 (by decide) ?_
      exact sw_zret0 dX11_taste_33
    · refine sw_aload_n 0 dX11_taste_21 rfl rfl ?_
      refine sw_iload_n 3 dX11_taste_22 rfl rfl ?_
      refine sw_iconst (0 : Int32) dX11_taste_23 (by decide) ?_
      refine sw_bipush (9 : Int32) dX11_taste_24 (by decide) ?_
      refine sw_callVi (As := [.int x3, .int (0 : Int32), .int (9 : Int32)]) (k := 163) rfl dX11_taste_26 t_1226 mf_X11_isIn h0.1 q_cl11 (by decide) (Nat.le_of_ble_eq_true rfl) (fun l => c_X11_isIn l x3 (0 : Int32) (9 : Int32) u_4 h0) (fun r_5 u_6 => ?_)
      refine sw_if_ne 34 dX11_taste_29 (by decide) ?_ ?_
      · refine sw_iconst (0 : Int32) dX11_taste_32 (by decide) ?_
        exact sw_zret0 dX11_taste_33
      · refine sw_aload_n 0 dX11_taste_34 rfl rfl ?_
        refine sw_iload_n 1 dX11_taste_35 rfl rfl ?_
        refine sw_iload_n 2 dX11_taste_36 rfl rfl ?_
        refine sw_iload_n 3 dX11_taste_37 rfl rfl ?_
        refine sw_callVv (As := [.int x1, .int x2, .int x3]) (k := 163) rfl dX11_taste_38 t_1246 mf_X11_tasteBe h0.1 q_cl11 (by decide) (Nat.le_of_ble_eq_true rfl) (fun l => c_X11_tasteBe l x1 x2 x3 u_6 h0) (fun _ u_7 => ?_)
        refine sw_aload_n 0 dX11_taste_41 rfl rfl ?_
        refine sw_iconst (0 : Int32) dX11_taste_42 (by decide) ?_
        refine sw_puti q_cl11 3 dX11_taste_43 t_1048 (by decide) (by decide +kernel) rfl h0.1 rfl (fun u_8 => ?_)
        refine sw_iconst (1 : Int32) dX11_taste_46 (by decide) ?_
        exact sw_zret1 dX11_taste_47
set_option maxRecDepth 100000 in
theorem c_X11_canSet (l : Launch) {ι : qI} {b : Nat}  (x1 : Int32) (x2 : Int32) (x3 : Int32) (u : qS) (h0 : is_X11 ι) : CN l yX11_canSet cX11_canSet 4 (some .boolean) 2 ι b [.ref (b + 163), .int x1, .int x2, .int x3] u (m_X11_canSet x1 x2 x3 u) := by
  refine CN.of_SW (own := RX11) rfl (by decide) (Nat.le_of_ble_eq_true rfl) [(0, .ref (b + 163)), (1, .int x1), (2, .int x2), (3, .int x3)] rfl ?_
  unfold m_X11_canSet
  refine sw_iload_n 1 dX11_canSet_0 rfl rfl ?_
  refine SW.jn0 9 ([(0, .ref (b + 163)), (3, .int x3)]) ([]) (fun  u_1 => ?_) (fun J9 hJ9 => ?_)
  · refine sw_aload_n 0 dX11_canSet_9 rfl rfl ?_
    refine sw_iload_n 1 dX11_canSet_10 rfl rfl ?_
    refine sw_iconst (0 : Int32) dX11_canSet_11 (by decide) ?_
    refine sw_sipush (1000 : Int32) dX11_canSet_12 (by decide) ?_
    refine sw_callVi (As := [.int x3, .int (0 : Int32), .int (1000 : Int32)]) (k := 163) rfl dX11_canSet_15 t_1226 mf_X11_isIn h0.1 q_cl11 (by decide) (Nat.le_of_ble_eq_true rfl) (fun l => c_X11_isIn l x3 (0 : Int32) (1000 : Int32) u_1 h0) (fun r u_2 => ?_)
    exact sw_zret dX11_canSet_18
  · refine sw_if_eq 9 dX11_canSet_1 (by decide) ?_ ?_
    · exact SW.sub [0, 3] rfl (hJ9  u)
    · refine sw_iload_n 1 dX11_canSet_4 rfl rfl ?_
      refine sw_iconst (1 : Int32) dX11_canSet_5 (by decide) ?_
      refine sw_icmp_ne 19 dX11_canSet_6 (by decide) ?_ ?_
      · exact SW.sub [0, 3] rfl (hJ9  u)
      · refine sw_iload_n 1 dX11_canSet_19 rfl rfl ?_
        refine sw_iconst (2 : Int32) dX11_canSet_20 (by decide) ?_
        refine sw_icmp_ne 33 dX11_canSet_21 (by decide) ?_ ?_
        · refine sw_aload_n 0 dX11_canSet_24 rfl rfl ?_
          refine sw_iload_n 3 dX11_canSet_25 rfl rfl ?_
          refine sw_iconst (1 : Int32) dX11_canSet_26 (by decide) ?_
          refine sw_bipush (99 : Int32) dX11_canSet_27 (by decide) ?_
          refine sw_callVi (As := [.int x3, .int (1 : Int32), .int (99 : Int32)]) (k := 163) rfl dX11_canSet_29 t_1226 mf_X11_isIn h0.1 q_cl11 (by decide) (Nat.le_of_ble_eq_true rfl) (fun l => c_X11_isIn l x3 (1 : Int32) (99 : Int32) u h0) (fun r_20 u_21 => ?_)
          exact sw_zret dX11_canSet_32
        · refine sw_iload_n 1 dX11_canSet_33 rfl rfl ?_
          refine sw_iconst (3 : Int32) dX11_canSet_34 (by decide) ?_
          refine sw_icmp_ne 47 dX11_canSet_35 (by decide) ?_ ?_
          · refine sw_aload_n 0 dX11_canSet_38 rfl rfl ?_
            refine sw_iload_n 3 dX11_canSet_39 rfl rfl ?_
            refine sw_iconst (1 : Int32) dX11_canSet_40 (by decide) ?_
            refine sw_bipush (52 : Int32) dX11_canSet_41 (by decide) ?_
            refine sw_callVi (As := [.int x3, .int (1 : Int32), .int (52 : Int32)]) (k := 163) rfl dX11_canSet_43 t_1226 mf_X11_isIn h0.1 q_cl11 (by decide) (Nat.le_of_ble_eq_true rfl) (fun l => c_X11_isIn l x3 (1 : Int32) (52 : Int32) u h0) (fun r_18 u_19 => ?_)
            exact sw_zret dX11_canSet_46
          · refine sw_iload_n 1 dX11_canSet_47 rfl rfl ?_
            refine sw_iconst (4 : Int32) dX11_canSet_48 (by decide) ?_
            refine sw_icmp_ne 77 dX11_canSet_49 (by decide) ?_ ?_
            · refine sw_aload_n 0 dX11_canSet_52 rfl rfl ?_
              refine sw_iload_n 2 dX11_canSet_53 rfl rfl ?_
              refine sw_callVi (As := [.int x2]) (k := 163) rfl dX11_canSet_54 t_1262 mf_X11_isTree h0.1 q_cl11 (by decide) (Nat.le_of_ble_eq_true rfl) (fun l => c_X11_isTree l x2 u h0) (fun r_14 u_15 => ?_)
              refine sw_if_eq 75 dX11_canSet_57 (by decide) ?_ ?_
              · refine sw_iconst (0 : Int32) dX11_canSet_75 (by decide) ?_
                exact sw_zret0 dX11_canSet_76
              · refine sw_aload_n 0 dX11_canSet_60 rfl rfl ?_
                refine sw_iload_n 3 dX11_canSet_61 rfl rfl ?_
                refine sw_iconst (0 : Int32) dX11_canSet_62 (by decide) ?_
                refine sw_bipush (99 : Int32) dX11_canSet_63 (by decide) ?_
                refine sw_callVi (As := [.int x3, .int (0 : Int32), .int (99 : Int32)]) (k := 163) rfl dX11_canSet_65 t_1226 mf_X11_isIn h0.1 q_cl11 (by decide) (Nat.le_of_ble_eq_true rfl) (fun l => c_X11_isIn l x3 (0 : Int32) (99 : Int32) u_15 h0) (fun r_16 u_17 => ?_)
                refine sw_if_eq 75 dX11_canSet_68 (by decide) ?_ ?_
                · refine sw_iconst (0 : Int32) dX11_canSet_75 (by decide) ?_
                  exact sw_zret0 dX11_canSet_76
                · refine sw_iconst (1 : Int32) dX11_canSet_71 (by decide) ?_
                  refine sw_goto 76 dX11_canSet_72 (by decide) ?_
                  exact sw_zret1 dX11_canSet_76
            · refine sw_iload_n 1 dX11_canSet_77 rfl rfl ?_
              refine sw_iconst (5 : Int32) dX11_canSet_78 (by decide) ?_
              refine sw_icmp_ne 107 dX11_canSet_79 (by decide) ?_ ?_
              · refine sw_aload_n 0 dX11_canSet_82 rfl rfl ?_
                refine sw_iload_n 2 dX11_canSet_83 rfl rfl ?_
                refine sw_callVi (As := [.int x2]) (k := 163) rfl dX11_canSet_84 t_1238 mf_X11_isEater h0.1 q_cl11 (by decide) (Nat.le_of_ble_eq_true rfl) (fun l => c_X11_isEater l x2 u h0) (fun r_10 u_11 => ?_)
                refine sw_if_eq 105 dX11_canSet_87 (by decide) ?_ ?_
                · refine sw_iconst (0 : Int32) dX11_canSet_105 (by decide) ?_
                  exact sw_zret0 dX11_canSet_106
                · refine sw_aload_n 0 dX11_canSet_90 rfl rfl ?_
                  refine sw_iload_n 3 dX11_canSet_91 rfl rfl ?_
                  refine sw_iconst (0 : Int32) dX11_canSet_92 (by decide) ?_
                  refine sw_bipush (20 : Int32) dX11_canSet_93 (by decide) ?_
                  refine sw_callVi (As := [.int x3, .int (0 : Int32), .int (20 : Int32)]) (k := 163) rfl dX11_canSet_95 t_1226 mf_X11_isIn h0.1 q_cl11 (by decide) (Nat.le_of_ble_eq_true rfl) (fun l => c_X11_isIn l x3 (0 : Int32) (20 : Int32) u_11 h0) (fun r_12 u_13 => ?_)
                  refine sw_if_eq 105 dX11_canSet_98 (by decide) ?_ ?_
                  · refine sw_iconst (0 : Int32) dX11_canSet_105 (by decide) ?_
                    exact sw_zret0 dX11_canSet_106
                  · refine sw_iconst (1 : Int32) dX11_canSet_101 (by decide) ?_
                    refine sw_goto 106 dX11_canSet_102 (by decide) ?_
                    exact sw_zret1 dX11_canSet_106
              · refine sw_aload_n 0 dX11_canSet_107 rfl rfl ?_
                refine sw_iload_n 1 dX11_canSet_108 rfl rfl ?_
                refine sw_bipush (6 : Int32) dX11_canSet_109 (by decide) ?_
                refine sw_bipush (7 : Int32) dX11_canSet_111 (by decide) ?_
                refine sw_callVi (As := [.int x1, .int (6 : Int32), .int (7 : Int32)]) (k := 163) rfl dX11_canSet_113 t_1226 mf_X11_isIn h0.1 q_cl11 (by decide) (Nat.le_of_ble_eq_true rfl) (fun l => c_X11_isIn l x1 (6 : Int32) (7 : Int32) u h0) (fun r_3 u_4 => ?_)
                refine sw_if_eq 155 dX11_canSet_116 (by decide) ?_ ?_
                · refine sw_iconst (0 : Int32) dX11_canSet_155 (by decide) ?_
                  exact sw_zret0 dX11_canSet_156
                · refine sw_aload_n 0 dX11_canSet_119 rfl rfl ?_
                  refine sw_iload_n 2 dX11_canSet_120 rfl rfl ?_
                  refine sw_callVi (As := [.int x2]) (k := 163) rfl dX11_canSet_121 t_1242 mf_X11_isParty h0.1 q_cl11 (by decide) (Nat.le_of_ble_eq_true rfl) (fun l => c_X11_isParty l x2 u_4 h0) (fun r_5 u_6 => ?_)
                  refine sw_if_eq 155 dX11_canSet_124 (by decide) ?_ ?_
                  · refine sw_iconst (0 : Int32) dX11_canSet_155 (by decide) ?_
                    exact sw_zret0 dX11_canSet_156
                  · refine sw_aload_n 0 dX11_canSet_127 rfl rfl ?_
                    refine sw_iload_n 3 dX11_canSet_128 rfl rfl ?_
                    refine sw_iconst (0 : Int32) dX11_canSet_129 (by decide) ?_
                    refine sw_iload_n 1 dX11_canSet_130 rfl rfl ?_
                    refine sw_bipush (6 : Int32) dX11_canSet_131 (by decide) ?_
                    refine SW.jn1 145 (fun s0 => []) (fun s0 => [.int s0, .int (0 : Int32), .int x3, .ref (b + 163)]) (fun s0 u_7 => ?_) (fun J145 hJ145 => ?_)
                    · refine sw_callVi (As := [.int x3, .int (0 : Int32), .int s0]) (k := 163) rfl dX11_canSet_145 t_1226 mf_X11_isIn h0.1 q_cl11 (by decide) (Nat.le_of_ble_eq_true rfl) (fun l => c_X11_isIn l x3 (0 : Int32) s0 u_7 h0) (fun r_8 u_9 => ?_)
                      refine sw_if_eq 155 dX11_canSet_148 (by decide) ?_ ?_
                      · refine sw_iconst (0 : Int32) dX11_canSet_155 (by decide) ?_
                        exact sw_zret0 dX11_canSet_156
                      · refine sw_iconst (1 : Int32) dX11_canSet_151 (by decide) ?_
                        refine sw_goto 156 dX11_canSet_152 (by decide) ?_
                        exact sw_zret1 dX11_canSet_156
                    · refine sw_icmp_ne 142 dX11_canSet_133 (by decide) ?_ ?_
                      · refine sw_sipush (999 : Int32) dX11_canSet_136 (by decide) ?_
                        refine sw_goto 145 dX11_canSet_139 (by decide) ?_
                        exact SW.sub [] rfl (hJ145 (999 : Int32) u_6)
                      · refine sw_sipush (9999 : Int32) dX11_canSet_142 (by decide) ?_
                        exact SW.sub [] rfl (hJ145 (9999 : Int32) u_6)
set_option maxRecDepth 100000 in
theorem c_X11_set (l : Launch) {ι : qI} {b : Nat}  (x1 : Int32) (x2 : Int32) (x3 : Int32) (u : qS) (h0 : is_X11 ι) : CN l yX11_set cX11_set 4 (some .boolean) 3 ι b [.ref (b + 163), .int x1, .int x2, .int x3] u (m_X11_set x1 x2 x3 u) := by
  refine CN.of_SW (own := RX11) rfl (by decide) (Nat.le_of_ble_eq_true rfl) [(0, .ref (b + 163)), (1, .int x1), (2, .int x2), (3, .int x3)] rfl ?_
  unfold m_X11_set
  refine sw_aload_n 0 dX11_set_0 rfl rfl ?_
  refine sw_iconst (0 : Int32) dX11_set_1 (by decide) ?_
  refine sw_puti q_cl11 0 dX11_set_2 t_1045 (by decide) (by decide +kernel) rfl h0.1 rfl (fun u_1 => ?_)
  refine sw_aload_n 0 dX11_set_5 rfl rfl ?_
  refine sw_iload_n 1 dX11_set_6 rfl rfl ?_
  refine sw_iload_n 2 dX11_set_7 rfl rfl ?_
  refine sw_iload_n 3 dX11_set_8 rfl rfl ?_
  refine sw_callVi (As := [.int x1, .int x2, .int x3]) (k := 163) rfl dX11_set_9 t_1258 mf_X11_canSet h0.1 q_cl11 (by decide) (Nat.le_of_ble_eq_true rfl) (fun l => c_X11_canSet l x1 x2 x3 u_1 h0) (fun r u_2 => ?_)
  refine sw_if_ne 17 dX11_set_12 (by decide) ?_ ?_
  · refine sw_iconst (0 : Int32) dX11_set_15 (by decide) ?_
    exact sw_zret0 dX11_set_16
  · refine sw_iload_n 1 dX11_set_17 rfl rfl ?_
    refine SW.jn0 26 ([(0, .ref (b + 163)), (1, .int x1), (2, .int x2), (3, .int x3)]) ([]) (fun  u_3 => ?_) (fun J26 hJ26 => ?_)
    · refine sw_iload_n 1 dX11_set_26 rfl rfl ?_
      refine sw_iconst (1 : Int32) dX11_set_27 (by decide) ?_
      refine SW.jn0 36 ([(0, .ref (b + 163)), (1, .int x1), (2, .int x2), (3, .int x3)]) ([]) (fun  u_4 => ?_) (fun J36 hJ36 => ?_)
      · refine sw_iload_n 1 dX11_set_36 rfl rfl ?_
        refine sw_iconst (2 : Int32) dX11_set_37 (by decide) ?_
        refine SW.jn0 49 ([(0, .ref (b + 163)), (1, .int x1), (2, .int x2), (3, .int x3)]) ([]) (fun  u_5 => ?_) (fun J49 hJ49 => ?_)
        · refine sw_iload_n 1 dX11_set_49 rfl rfl ?_
          refine sw_iconst (3 : Int32) dX11_set_50 (by decide) ?_
          refine SW.jn0 61 ([(0, .ref (b + 163)), (1, .int x1), (2, .int x2), (3, .int x3)]) ([]) (fun  u_6 => ?_) (fun J61 hJ61 => ?_)
          · refine sw_iload_n 1 dX11_set_61 rfl rfl ?_
            refine sw_iconst (4 : Int32) dX11_set_62 (by decide) ?_
            refine SW.jn0 76 ([(0, .ref (b + 163)), (1, .int x1), (2, .int x2), (3, .int x3)]) ([]) (fun  u_7 => ?_) (fun J76 hJ76 => ?_)
            · refine sw_iload_n 1 dX11_set_76 rfl rfl ?_
              refine sw_iconst (5 : Int32) dX11_set_77 (by decide) ?_
              refine SW.jn0 91 ([(0, .ref (b + 163)), (1, .int x1), (2, .int x2), (3, .int x3)]) ([]) (fun  u_8 => ?_) (fun J91 hJ91 => ?_)
              · refine sw_iload_n 1 dX11_set_91 rfl rfl ?_
                refine sw_bipush (6 : Int32) dX11_set_92 (by decide) ?_
                refine SW.jn0 107 ([(0, .ref (b + 163)), (1, .int x1), (2, .int x2), (3, .int x3)]) ([]) (fun  u_9 => ?_) (fun J107 hJ107 => ?_)
                · refine sw_iload_n 1 dX11_set_107 rfl rfl ?_
                  refine sw_bipush (7 : Int32) dX11_set_108 (by decide) ?_
                  refine SW.jn0 122 ([(0, .ref (b + 163))]) ([]) (fun  u_10 => ?_) (fun J122 hJ122 => ?_)
                  · refine sw_aload_n 0 dX11_set_122 rfl rfl ?_
                    refine sw_iconst (0 : Int32) dX11_set_123 (by decide) ?_
                    refine sw_puti q_cl11 3 dX11_set_124 t_1048 (by decide) (by decide +kernel) rfl h0.1 rfl (fun u_11 => ?_)
                    refine sw_iconst (1 : Int32) dX11_set_127 (by decide) ?_
                    exact sw_zret1 dX11_set_128
                  · refine sw_icmp_ne 122 dX11_set_110 (by decide) ?_ ?_
                    · refine sw_aload_n 0 dX11_set_113 rfl rfl ?_
                      refine sw_getr q_cl11 1 (r := 164) dX11_set_114 t_1046 (by decide) h0.1 rfl ?_
                      refine sw_iconst (5 : Int32) dX11_set_117 (by decide) ?_
                      refine sw_iload_n 2 dX11_set_118 rfl rfl ?_
                      refine sw_iadd dX11_set_119 ?_
                      refine sw_iload_n 3 dX11_set_120 rfl rfl ?_
                      refine sw_iast dX11_set_121 h0.2.1 (fun u_12 => ?_)
                      exact SW.sub [0] rfl (hJ122  u_12)
                    · exact SW.sub [0] rfl (hJ122  u_9)
                · refine sw_icmp_ne 107 dX11_set_94 (by decide) ?_ ?_
                  · refine sw_aload_n 0 dX11_set_97 rfl rfl ?_
                    refine sw_getr q_cl11 1 (r := 164) dX11_set_98 t_1046 (by decide) h0.1 rfl ?_
                    refine sw_bipush (15 : Int32) dX11_set_101 (by decide) ?_
                    refine sw_iload_n 2 dX11_set_103 rfl rfl ?_
                    refine sw_iadd dX11_set_104 ?_
                    refine sw_iload_n 3 dX11_set_105 rfl rfl ?_
                    refine sw_iast dX11_set_106 h0.2.1 (fun u_13 => ?_)
                    exact SW.sub [0, 1, 2, 3] rfl (hJ107  u_13)
                  · exact SW.sub [0, 1, 2, 3] rfl (hJ107  u_8)
              · refine sw_icmp_ne 91 dX11_set_78 (by decide) ?_ ?_
                · refine sw_aload_n 0 dX11_set_81 rfl rfl ?_
                  refine sw_getr q_cl11 1 (r := 164) dX11_set_82 t_1046 (by decide) h0.1 rfl ?_
                  refine sw_bipush (76 : Int32) dX11_set_85 (by decide) ?_
                  refine sw_iload_n 2 dX11_set_87 rfl rfl ?_
                  refine sw_iadd dX11_set_88 ?_
                  refine sw_iload_n 3 dX11_set_89 rfl rfl ?_
                  refine sw_iast dX11_set_90 h0.2.1 (fun u_14 => ?_)
                  exact SW.sub [0, 1, 2, 3] rfl (hJ91  u_14)
                · exact SW.sub [0, 1, 2, 3] rfl (hJ91  u_7)
            · refine sw_icmp_ne 76 dX11_set_63 (by decide) ?_ ?_
              · refine sw_aload_n 0 dX11_set_66 rfl rfl ?_
                refine sw_getr q_cl11 1 (r := 164) dX11_set_67 t_1046 (by decide) h0.1 rfl ?_
                refine sw_bipush (62 : Int32) dX11_set_70 (by decide) ?_
                refine sw_iload_n 2 dX11_set_72 rfl rfl ?_
                refine sw_iadd dX11_set_73 ?_
                refine sw_iload_n 3 dX11_set_74 rfl rfl ?_
                refine sw_iast dX11_set_75 h0.2.1 (fun u_15 => ?_)
                exact SW.sub [0, 1, 2, 3] rfl (hJ76  u_15)
              · exact SW.sub [0, 1, 2, 3] rfl (hJ76  u_6)
          · refine sw_icmp_ne 61 dX11_set_51 (by decide) ?_ ?_
            · refine sw_aload_n 0 dX11_set_54 rfl rfl ?_
              refine sw_iload_n 3 dX11_set_55 rfl rfl ?_
              refine sw_iconst (4 : Int32) dX11_set_56 (by decide) ?_
              refine sw_isub dX11_set_57 ?_
              refine sw_puti q_cl11 11 dX11_set_58 t_1056 (by decide) (by decide +kernel) rfl h0.1 rfl (fun u_16 => ?_)
              exact SW.sub [0, 1, 2, 3] rfl (hJ61  u_16)
            · exact SW.sub [0, 1, 2, 3] rfl (hJ61  u_5)
        · refine sw_icmp_ne 49 dX11_set_38 (by decide) ?_ ?_
          · refine sw_aload_n 0 dX11_set_41 rfl rfl ?_
            refine sw_iload_n 3 dX11_set_42 rfl rfl ?_
            refine sw_bipush (9 : Int32) dX11_set_43 (by decide) ?_
            refine sw_isub dX11_set_45 ?_
            refine sw_puti q_cl11 10 dX11_set_46 t_1055 (by decide) (by decide +kernel) rfl h0.1 rfl (fun u_17 => ?_)
            exact SW.sub [0, 1, 2, 3] rfl (hJ49  u_17)
          · exact SW.sub [0, 1, 2, 3] rfl (hJ49  u_4)
      · refine sw_icmp_ne 36 dX11_set_28 (by decide) ?_ ?_
        · refine sw_aload_n 0 dX11_set_31 rfl rfl ?_
          refine sw_iload_n 3 dX11_set_32 rfl rfl ?_
          refine sw_puti q_cl11 9 dX11_set_33 t_1054 (by decide) (by decide +kernel) rfl h0.1 rfl (fun u_18 => ?_)
          exact SW.sub [0, 1, 2, 3] rfl (hJ36  u_18)
        · exact SW.sub [0, 1, 2, 3] rfl (hJ36  u_3)
    · refine sw_if_ne 26 dX11_set_18 (by decide) ?_ ?_
      · refine sw_aload_n 0 dX11_set_21 rfl rfl ?_
        refine sw_iload_n 3 dX11_set_22 rfl rfl ?_
        refine sw_puti q_cl11 8 dX11_set_23 t_1053 (by decide) (by decide +kernel) rfl h0.1 rfl (fun u_19 => ?_)
        exact SW.sub [0, 1, 2, 3] rfl (hJ26  u_19)
      · exact SW.sub [0, 1, 2, 3] rfl (hJ26  u_2)
set_option maxRecDepth 100000 in
theorem w_X11_types_L3 {ι : qI} {b : Nat}  (h0 : is_X11 ι) (x1 : Int32) {K39 : qS → qR} (hK39 : ∀  (u : qS), SW RX11 cX11_types 3 none 1 ι b 39 [] [] u (K39  u)) (fu : Nat) (x2 : Int32) (u : qS) : SW RX11 cX11_types 3 none 1 ι b 3 [(0, .ref (b + 163)), (1, .int x1), (2, .int x2)] [] u (q_it1 (m_X11_types_L3 x1 K39) fu x2 u) := by
  refine SW.it1 (fun x2 => [(0, .ref (b + 163)), (1, .int x1), (2, .int x2)]) (fun self ih x2 u => ?_) fu x2 u
  unfold m_X11_types_L3
  refine sw_iload_n 2 dX11_types_3 rfl rfl ?_
  refine sw_if_lt 39 dX11_types_4 (by decide) ?_ ?_
  · exact SW.sub [] rfl (hK39  u)
  · refine sw_aload_n 0 dX11_types_7 rfl rfl ?_
    refine sw_getr q_cl11 13 (r := 168) dX11_types_8 t_1058 (by decide) h0.1 rfl ?_
    refine sw_aload_n 0 dX11_types_11 rfl rfl ?_
    refine sw_geti q_cl11 14 dX11_types_12 t_1059 (by decide) h0.1 rfl ?_
    refine sw_iload_n 1 dX11_types_15 rfl rfl ?_
    refine sw_iload_n 2 dX11_types_16 rfl rfl ?_
    refine sw_ishr dX11_types_17 ?_
    refine sw_sipush (255 : Int32) dX11_types_18 (by decide) ?_
    refine sw_iand dX11_types_21 ?_
    refine sw_iast dX11_types_22 h0.2.2.2.2.2.1 (fun u_1 => ?_)
    refine sw_aload_n 0 dX11_types_23 rfl rfl ?_
    refine sw_aload_n 0 dX11_types_24 rfl rfl ?_
    refine sw_geti q_cl11 14 dX11_types_25 t_1059 (by decide) h0.1 rfl ?_
    refine sw_iconst (1 : Int32) dX11_types_28 (by decide) ?_
    refine sw_iadd dX11_types_29 ?_
    refine sw_puti q_cl11 14 dX11_types_30 t_1059 (by decide) (by decide +kernel) rfl h0.1 rfl (fun u_2 => ?_)
    refine sw_iinc (lv' := [(2, .int (x2 + (-8 : Int32))), (0, .ref (b + 163)), (1, .int x1)]) 2 dX11_types_33 rfl (congrArg (x2 + ·) (by decide)) (by decide) rfl ?_
    refine sw_goto 3 dX11_types_36 (by decide) ?_
    exact SW.sub [1, 2, 0] rfl (ih (x2 + (-8 : Int32)) u_2)
set_option maxRecDepth 100000 in
theorem c_X11_types (l : Launch) {ι : qI} {b : Nat}  (x1 : Int32) (u : qS) (h0 : is_X11 ι) : CN l yX11_types cX11_types 3 none 1 ι b [.ref (b + 163), .int x1] u (m_X11_types x1 u) := by
  refine CN.of_SW (own := RX11) rfl (by decide) (Nat.le_of_ble_eq_true rfl) [(0, .ref (b + 163)), (1, .int x1)] rfl ?_
  unfold m_X11_types
  refine sw_bipush (24 : Int32) dX11_types_0 (by decide) ?_
  refine sw_istore_n (lv' := [(2, .int (24 : Int32)), (0, .ref (b + 163)), (1, .int x1)]) dX11_types_2 rfl (by decide) rfl ?_
  refine SW.sub (lv' := [(0, .ref (b + 163)), (1, .int x1), (2, .int (24 : Int32))]) [1, 2, 0] rfl ?_
  refine w_X11_types_L3 h0 x1 (fun u_3 => ?_) q_F (24 : Int32) u
  exact sw_vret dX11_types_39
set_option maxRecDepth 100000 in
theorem c_X11_feed (l : Launch) {ι : qI} {b : Nat}  (x1 : Int32) (x2 : Int32) (x3 : Int32) (x4 : Int32) (x5 : Int32) (u : qS) (h0 : is_X11 ι) : CN l yX11_feed cX11_feed 6 (some .int) 2 ι b [.ref (b + 163), .int x1, .int x2, .int x3, .int x4, .int x5] u (m_X11_feed x1 x2 x3 x4 x5 u) := by
  refine CN.of_SW (own := RX11) rfl (by decide) (Nat.le_of_ble_eq_true rfl) [(0, .ref (b + 163)), (1, .int x1), (2, .int x2), (3, .int x3), (4, .int x4), (5, .int x5)] rfl ?_
  unfold m_X11_feed
  refine sw_aload_n 0 dX11_feed_0 rfl rfl ?_
  refine sw_iconst (0 : Int32) dX11_feed_1 (by decide) ?_
  refine sw_puti q_cl11 0 dX11_feed_2 t_1045 (by decide) (by decide +kernel) rfl h0.1 rfl (fun u_1 => ?_)
  refine sw_aload_n 0 dX11_feed_5 rfl rfl ?_
  refine sw_geti q_cl11 14 dX11_feed_6 t_1059 (by decide) h0.1 rfl ?_
  refine sw_sipush (380 : Int32) dX11_feed_9 (by decide) ?_
  refine sw_icmp_le 17 dX11_feed_12 (by decide) ?_ ?_
  · refine sw_aload_n 0 dX11_feed_17 rfl rfl ?_
    refine sw_iload_n 1 dX11_feed_18 rfl rfl ?_
    refine sw_callVv (As := [.int x1]) (k := 163) rfl dX11_feed_19 t_1270 mf_X11_types h0.1 q_cl11 (by decide) (Nat.le_of_ble_eq_true rfl) (fun l => c_X11_types l x1 u_1 h0) (fun _ u_2 => ?_)
    refine sw_aload_n 0 dX11_feed_22 rfl rfl ?_
    refine sw_iload_n 2 dX11_feed_23 rfl rfl ?_
    refine sw_callVv (As := [.int x2]) (k := 163) rfl dX11_feed_24 t_1270 mf_X11_types h0.1 q_cl11 (by decide) (Nat.le_of_ble_eq_true rfl) (fun l => c_X11_types l x2 u_2 h0) (fun _ u_3 => ?_)
    refine sw_aload_n 0 dX11_feed_27 rfl rfl ?_
    refine sw_iload_n 3 dX11_feed_28 rfl rfl ?_
    refine sw_callVv (As := [.int x3]) (k := 163) rfl dX11_feed_29 t_1270 mf_X11_types h0.1 q_cl11 (by decide) (Nat.le_of_ble_eq_true rfl) (fun l => c_X11_types l x3 u_3 h0) (fun _ u_4 => ?_)
    refine sw_aload_n 0 dX11_feed_32 rfl rfl ?_
    refine sw_iload 4 dX11_feed_33 rfl ?_
    refine sw_callVv (As := [.int x4]) (k := 163) rfl dX11_feed_35 t_1270 mf_X11_types h0.1 q_cl11 (by decide) (Nat.le_of_ble_eq_true rfl) (fun l => c_X11_types l x4 u_4 h0) (fun _ u_5 => ?_)
    refine sw_aload_n 0 dX11_feed_38 rfl rfl ?_
    refine sw_iload 5 dX11_feed_39 rfl ?_
    refine sw_callVv (As := [.int x5]) (k := 163) rfl dX11_feed_41 t_1270 mf_X11_types h0.1 q_cl11 (by decide) (Nat.le_of_ble_eq_true rfl) (fun l => c_X11_types l x5 u_5 h0) (fun _ u_6 => ?_)
    refine sw_aload_n 0 dX11_feed_44 rfl rfl ?_
    refine sw_geti q_cl11 14 dX11_feed_45 t_1059 (by decide) h0.1 rfl ?_
    exact sw_iret dX11_feed_48
  · refine sw_iconst (-1 : Int32) dX11_feed_15 (by decide) ?_
    exact sw_iret dX11_feed_16
set_option maxRecDepth 100000 in
theorem c_X11_end (l : Launch) {ι : qI} {b : Nat}  (x1 : Int32) (u : qS) (h0 : is_X11 ι) : CN l yX11_end cX11_end 2 (some .boolean) 2 ι b [.ref (b + 163), .int x1] u (m_X11_end x1 u) := by
  refine CN.of_SW (own := RX11) rfl (by decide) (Nat.le_of_ble_eq_true rfl) [(0, .ref (b + 163)), (1, .int x1)] rfl ?_
  unfold m_X11_end
  refine sw_aload_n 0 dX11_end_0 rfl rfl ?_
  refine sw_iconst (0 : Int32) dX11_end_1 (by decide) ?_
  refine sw_puti q_cl11 0 dX11_end_2 t_1045 (by decide) (by decide +kernel) rfl h0.1 rfl (fun u_1 => ?_)
  refine sw_aload_n 0 dX11_end_5 rfl rfl ?_
  refine sw_iload_n 1 dX11_end_6 rfl rfl ?_
  refine sw_iconst (0 : Int32) dX11_end_7 (by decide) ?_
  refine sw_aload_n 0 dX11_end_8 rfl rfl ?_
  refine sw_geti q_cl11 14 dX11_end_9 t_1059 (by decide) h0.1 rfl ?_
  refine sw_callVi (As := [.int x1, .int (0 : Int32), .int (u_1.1 163 14)]) (k := 163) rfl dX11_end_12 t_1226 mf_X11_isIn h0.1 q_cl11 (by decide) (Nat.le_of_ble_eq_true rfl) (fun l => c_X11_isIn l x1 (0 : Int32) (u_1.1 163 14) u_1 h0) (fun r u_2 => ?_)
  refine sw_if_ne 20 dX11_end_15 (by decide) ?_ ?_
  · refine sw_iconst (0 : Int32) dX11_end_18 (by decide) ?_
    exact sw_zret0 dX11_end_19
  · refine sw_aload_n 0 dX11_end_20 rfl rfl ?_
    refine sw_iload_n 1 dX11_end_21 rfl rfl ?_
    refine sw_puti q_cl11 14 dX11_end_22 t_1059 (by decide) (by decide +kernel) rfl h0.1 rfl (fun u_3 => ?_)
    refine sw_iconst (1 : Int32) dX11_end_25 (by decide) ?_
    exact sw_zret1 dX11_end_26
set_option maxRecDepth 100000 in
theorem c_X11_raw (l : Launch) {ι : qI} {b : Nat}  (x1 : Int32) (u : qS) (h0 : is_X11 ι) : CN l yX11_raw cX11_raw 2 (some .int) 1 ι b [.ref (b + 163), .int x1] u (m_X11_raw x1 u) := by
  refine CN.of_SW (own := RX11) rfl (by decide) (Nat.le_of_ble_eq_true rfl) [(0, .ref (b + 163)), (1, .int x1)] rfl ?_
  unfold m_X11_raw
  refine sw_iload_n 1 dX11_raw_0 rfl rfl ?_
  refine sw_aload_n 0 dX11_raw_1 rfl rfl ?_
  refine sw_geti q_cl11 14 dX11_raw_2 t_1059 (by decide) h0.1 rfl ?_
  refine sw_icmp_ge 17 dX11_raw_5 (by decide) ?_ ?_
  · refine sw_iconst (-1 : Int32) dX11_raw_17 (by decide) ?_
    exact sw_iret dX11_raw_18
  · refine sw_aload_n 0 dX11_raw_8 rfl rfl ?_
    refine sw_getr q_cl11 13 (r := 168) dX11_raw_9 t_1058 (by decide) h0.1 rfl ?_
    refine sw_iload_n 1 dX11_raw_12 rfl rfl ?_
    refine sw_iald dX11_raw_13 h0.2.2.2.2.2.1 (fun a => ?_)
    refine sw_goto 18 dX11_raw_14 (by decide) ?_
    exact sw_iret dX11_raw_18
set_option maxRecDepth 100000 in
theorem c_X11_isLetter (l : Launch) {ι : qI} {b : Nat}  (x1 : Int32) (u : qS) (h0 : is_X11 ι) : CN l yX11_isLetter cX11_isLetter 2 (some .boolean) 2 ι b [.ref (b + 163), .int x1] u (m_X11_isLetter x1 u) := by
  refine CN.of_SW (own := RX11) rfl (by decide) (Nat.le_of_ble_eq_true rfl) [(0, .ref (b + 163)), (1, .int x1)] rfl ?_
  unfold m_X11_isLetter
  refine sw_aload_n 0 dX11_isLetter_0 rfl rfl ?_
  refine sw_iload_n 1 dX11_isLetter_1 rfl rfl ?_
  refine sw_bipush (97 : Int32) dX11_isLetter_2 (by decide) ?_
  refine sw_bipush (122 : Int32) dX11_isLetter_4 (by decide) ?_
  refine sw_callVi (As := [.int x1, .int (97 : Int32), .int (122 : Int32)]) (k := 163) rfl dX11_isLetter_6 t_1226 mf_X11_isIn h0.1 q_cl11 (by decide) (Nat.le_of_ble_eq_true rfl) (fun l => c_X11_isIn l x1 (97 : Int32) (122 : Int32) u h0) (fun r u_1 => ?_)
  refine SW.jn0 24 ([]) ([]) (fun  u_2 => ?_) (fun J24 hJ24 => ?_)
  · refine sw_iconst (1 : Int32) dX11_isLetter_24 (by decide) ?_
    refine sw_goto 29 dX11_isLetter_25 (by decide) ?_
    exact sw_zret1 dX11_isLetter_29
  · refine sw_if_ne 24 dX11_isLetter_9 (by decide) ?_ ?_
    · refine sw_aload_n 0 dX11_isLetter_12 rfl rfl ?_
      refine sw_iload_n 1 dX11_isLetter_13 rfl rfl ?_
      refine sw_bipush (65 : Int32) dX11_isLetter_14 (by decide) ?_
      refine sw_bipush (90 : Int32) dX11_isLetter_16 (by decide) ?_
      refine sw_callVi (As := [.int x1, .int (65 : Int32), .int (90 : Int32)]) (k := 163) rfl dX11_isLetter_18 t_1226 mf_X11_isIn h0.1 q_cl11 (by decide) (Nat.le_of_ble_eq_true rfl) (fun l => c_X11_isIn l x1 (65 : Int32) (90 : Int32) u_1 h0) (fun r_3 u_4 => ?_)
      refine sw_if_eq 28 dX11_isLetter_21 (by decide) ?_ ?_
      · refine sw_iconst (0 : Int32) dX11_isLetter_28 (by decide) ?_
        exact sw_zret0 dX11_isLetter_29
      · exact SW.sub [] rfl (hJ24  u_4)
    · exact SW.sub [] rfl (hJ24  u_1)
set_option maxRecDepth 100000 in
theorem c_X11_isDigit (l : Launch) {ι : qI} {b : Nat}  (x1 : Int32) (u : qS) (h0 : is_X11 ι) : CN l yX11_isDigit cX11_isDigit 2 (some .boolean) 2 ι b [.ref (b + 163), .int x1] u (m_X11_isDigit x1 u) := by
  refine CN.of_SW (own := RX11) rfl (by decide) (Nat.le_of_ble_eq_true rfl) [(0, .ref (b + 163)), (1, .int x1)] rfl ?_
  unfold m_X11_isDigit
  refine sw_aload_n 0 dX11_isDigit_0 rfl rfl ?_
  refine sw_iload_n 1 dX11_isDigit_1 rfl rfl ?_
  refine sw_bipush (48 : Int32) dX11_isDigit_2 (by decide) ?_
  refine sw_bipush (57 : Int32) dX11_isDigit_4 (by decide) ?_
  refine sw_callVi (As := [.int x1, .int (48 : Int32), .int (57 : Int32)]) (k := 163) rfl dX11_isDigit_6 t_1226 mf_X11_isIn h0.1 q_cl11 (by decide) (Nat.le_of_ble_eq_true rfl) (fun l => c_X11_isIn l x1 (48 : Int32) (57 : Int32) u h0) (fun r u_1 => ?_)
  exact sw_zret dX11_isDigit_9
set_option maxRecDepth 100000 in
theorem c_X11_isMarkSign (l : Launch) {ι : qI} {b : Nat}  (x1 : Int32) (u : qS) (h0 : is_X11 ι) : CN l yX11_isMarkSign cX11_isMarkSign 2 (some .boolean) 1 ι b [.ref (b + 163), .int x1] u (m_X11_isMarkSign x1 u) := by
  refine CN.of_SW (own := RX11) rfl (by decide) (Nat.le_of_ble_eq_true rfl) [(0, .ref (b + 163)), (1, .int x1)] rfl ?_
  unfold m_X11_isMarkSign
  refine sw_iload_n 1 dX11_isMarkSign_0 rfl rfl ?_
  refine sw_bipush (59 : Int32) dX11_isMarkSign_1 (by decide) ?_
  refine SW.jn0 60 ([]) ([]) (fun  u_1 => ?_) (fun J60 hJ60 => ?_)
  · refine sw_iconst (1 : Int32) dX11_isMarkSign_60 (by decide) ?_
    refine sw_goto 65 dX11_isMarkSign_61 (by decide) ?_
    exact sw_zret1 dX11_isMarkSign_65
  · refine sw_icmp_eq 60 dX11_isMarkSign_3 (by decide) ?_ ?_
    · exact SW.sub [] rfl (hJ60  u)
    · refine sw_iload_n 1 dX11_isMarkSign_6 rfl rfl ?_
      refine sw_bipush (43 : Int32) dX11_isMarkSign_7 (by decide) ?_
      refine sw_icmp_eq 60 dX11_isMarkSign_9 (by decide) ?_ ?_
      · exact SW.sub [] rfl (hJ60  u)
      · refine sw_iload_n 1 dX11_isMarkSign_12 rfl rfl ?_
        refine sw_bipush (45 : Int32) dX11_isMarkSign_13 (by decide) ?_
        refine sw_icmp_eq 60 dX11_isMarkSign_15 (by decide) ?_ ?_
        · exact SW.sub [] rfl (hJ60  u)
        · refine sw_iload_n 1 dX11_isMarkSign_18 rfl rfl ?_
          refine sw_bipush (42 : Int32) dX11_isMarkSign_19 (by decide) ?_
          refine sw_icmp_eq 60 dX11_isMarkSign_21 (by decide) ?_ ?_
          · exact SW.sub [] rfl (hJ60  u)
          · refine sw_iload_n 1 dX11_isMarkSign_24 rfl rfl ?_
            refine sw_bipush (47 : Int32) dX11_isMarkSign_25 (by decide) ?_
            refine sw_icmp_eq 60 dX11_isMarkSign_27 (by decide) ?_ ?_
            · exact SW.sub [] rfl (hJ60  u)
            · refine sw_iload_n 1 dX11_isMarkSign_30 rfl rfl ?_
              refine sw_bipush (40 : Int32) dX11_isMarkSign_31 (by decide) ?_
              refine sw_icmp_eq 60 dX11_isMarkSign_33 (by decide) ?_ ?_
              · exact SW.sub [] rfl (hJ60  u)
              · refine sw_iload_n 1 dX11_isMarkSign_36 rfl rfl ?_
                refine sw_bipush (41 : Int32) dX11_isMarkSign_37 (by decide) ?_
                refine sw_icmp_eq 60 dX11_isMarkSign_39 (by decide) ?_ ?_
                · exact SW.sub [] rfl (hJ60  u)
                · refine sw_iload_n 1 dX11_isMarkSign_42 rfl rfl ?_
                  refine sw_bipush (60 : Int32) dX11_isMarkSign_43 (by decide) ?_
                  refine sw_icmp_eq 60 dX11_isMarkSign_45 (by decide) ?_ ?_
                  · exact SW.sub [] rfl (hJ60  u)
                  · refine sw_iload_n 1 dX11_isMarkSign_48 rfl rfl ?_
                    refine sw_bipush (61 : Int32) dX11_isMarkSign_49 (by decide) ?_
                    refine sw_icmp_eq 60 dX11_isMarkSign_51 (by decide) ?_ ?_
                    · exact SW.sub [] rfl (hJ60  u)
                    · refine sw_iload_n 1 dX11_isMarkSign_54 rfl rfl ?_
                      refine sw_bipush (62 : Int32) dX11_isMarkSign_55 (by decide) ?_
                      refine sw_icmp_ne 64 dX11_isMarkSign_57 (by decide) ?_ ?_
                      · exact SW.sub [] rfl (hJ60  u)
                      · refine sw_iconst (0 : Int32) dX11_isMarkSign_64 (by decide) ?_
                        exact sw_zret0 dX11_isMarkSign_65
set_option maxRecDepth 100000 in
theorem w_X11_wordAt_L20 {ι : qI} {b : Nat}  (h0 : is_X11 ι) (x1 : Int32) (x2 : Int32) (x3 : Int32) (x4 : Int32) {K61 : Int32 → qS → qR} (hK61 : ∀ (e5 : Int32) (u : qS), SW RX11 cX11_wordAt 6 (some .int) 1 ι b 61 [(0, .ref (b + 163)), (1, .int x1), (2, .int x2), (3, .int x3), (4, .int x4), (5, .int e5)] [] u (K61 e5 u)) (fu : Nat) (x5 : Int32) (u : qS) : SW RX11 cX11_wordAt 6 (some .int) 1 ι b 20 [(0, .ref (b + 163)), (1, .int x1), (2, .int x2), (3, .int x3), (4, .int x4), (5, .int x5)] [] u (q_it1 (m_X11_wordAt_L20 x1 x2 x3 x4 K61) fu x5 u) := by
  refine SW.it1 (fun x5 => [(0, .ref (b + 163)), (1, .int x1), (2, .int x2), (3, .int x3), (4, .int x4), (5, .int x5)]) (fun self ih x5 u => ?_) fu x5 u
  unfold m_X11_wordAt_L20
  refine sw_iload_n 1 dX11_wordAt_20 rfl rfl ?_
  refine sw_iload 5 dX11_wordAt_21 rfl ?_
  refine sw_iadd dX11_wordAt_23 ?_
  refine sw_iload_n 2 dX11_wordAt_24 rfl rfl ?_
  refine sw_icmp_ge 61 dX11_wordAt_25 (by decide) ?_ ?_
  · exact SW.sub [0, 1, 2, 3, 4, 5] rfl (hK61 x5 u)
  · refine sw_aload_n 0 dX11_wordAt_28 rfl rfl ?_
    refine sw_getr q_cl11 19 (r := 169) dX11_wordAt_29 t_1064 (by decide) h0.1 rfl ?_
    refine sw_iload 4 dX11_wordAt_32 rfl ?_
    refine sw_iconst (1 : Int32) dX11_wordAt_34 (by decide) ?_
    refine sw_iadd dX11_wordAt_35 ?_
    refine sw_iload 5 dX11_wordAt_36 rfl ?_
    refine sw_iadd dX11_wordAt_38 ?_
    refine sw_iald dX11_wordAt_39 h0.2.2.2.2.2.2.1 (fun a => ?_)
    refine sw_aload_n 0 dX11_wordAt_40 rfl rfl ?_
    refine sw_getr q_cl11 13 (r := 168) dX11_wordAt_41 t_1058 (by decide) h0.1 rfl ?_
    refine sw_iload_n 1 dX11_wordAt_44 rfl rfl ?_
    refine sw_iload 5 dX11_wordAt_45 rfl ?_
    refine sw_iadd dX11_wordAt_47 ?_
    refine sw_iald dX11_wordAt_48 h0.2.2.2.2.2.1 (fun a_1 => ?_)
    refine sw_icmp_ne 61 dX11_wordAt_49 (by decide) ?_ ?_
    · refine sw_iload 5 dX11_wordAt_52 rfl ?_
      refine sw_iconst (1 : Int32) dX11_wordAt_54 (by decide) ?_
      refine sw_iadd dX11_wordAt_55 ?_
      refine SW.name (fun y5 => ?_)
      refine sw_istore (lv' := [(5, .int y5), (0, .ref (b + 163)), (1, .int x1), (2, .int x2), (3, .int x3), (4, .int x4)]) dX11_wordAt_56 (by decide) rfl ?_
      refine sw_goto 20 dX11_wordAt_58 (by decide) ?_
      exact SW.sub [1, 2, 3, 4, 5, 0] rfl (ih y5 u)
    · exact SW.sub [0, 1, 2, 3, 4, 5] rfl (hK61 x5 u)
set_option maxRecDepth 100000 in
theorem w_X11_wordAt_L94 {ι : qI} {b : Nat}  (h0 : is_X11 ι) (x1 : Int32) (x2 : Int32) (x3 : Int32) {K115 : Int32 → qS → qR} (hK115 : ∀ (e4 : Int32) (u : qS), SW RX11 cX11_wordAt 6 (some .int) 1 ι b 115 [(0, .ref (b + 163)), (1, .int x1), (2, .int x2), (3, .int x3), (4, .int e4)] [] u (K115 e4 u)) (fu : Nat) (x4 : Int32) (u : qS) : SW RX11 cX11_wordAt 6 (some .int) 1 ι b 94 [(0, .ref (b + 163)), (1, .int x1), (2, .int x2), (3, .int x3), (4, .int x4)] [] u (q_it1 (m_X11_wordAt_L94 x1 x2 x3 K115) fu x4 u) := by
  refine SW.it1 (fun x4 => [(0, .ref (b + 163)), (1, .int x1), (2, .int x2), (3, .int x3), (4, .int x4)]) (fun self ih x4 u => ?_) fu x4 u
  unfold m_X11_wordAt_L94
  refine sw_aload_n 0 dX11_wordAt_94 rfl rfl ?_
  refine sw_getr q_cl11 19 (r := 169) dX11_wordAt_95 t_1064 (by decide) h0.1 rfl ?_
  refine sw_iload 4 dX11_wordAt_98 rfl ?_
  refine sw_iald dX11_wordAt_100 h0.2.2.2.2.2.2.1 (fun a => ?_)
  refine sw_bipush (32 : Int32) dX11_wordAt_101 (by decide) ?_
  refine sw_icmp_eq 115 dX11_wordAt_103 (by decide) ?_ ?_
  · exact SW.sub [0, 1, 2, 3, 4] rfl (hK115 x4 u)
  · refine sw_iload 4 dX11_wordAt_106 rfl ?_
    refine sw_iconst (1 : Int32) dX11_wordAt_108 (by decide) ?_
    refine sw_iadd dX11_wordAt_109 ?_
    refine SW.name (fun y4 => ?_)
    refine sw_istore (lv' := [(4, .int y4), (0, .ref (b + 163)), (1, .int x1), (2, .int x2), (3, .int x3)]) dX11_wordAt_110 (by decide) rfl ?_
    refine sw_goto 94 dX11_wordAt_112 (by decide) ?_
    exact SW.sub [1, 2, 3, 4, 0] rfl (ih y4 u)
set_option maxRecDepth 100000 in
theorem w_X11_wordAt_L5 {ι : qI} {b : Nat}  (h0 : is_X11 ι) (x1 : Int32) (x2 : Int32) {K86 : Int32 → qS → qR} {K118 : qS → qR} (hK86 : ∀ (e3 : Int32) (u : qS), SW RX11 cX11_wordAt 6 (some .int) 1 ι b 86 [(3, .int e3)] [] u (K86 e3 u)) (hK118 : ∀  (u : qS), SW RX11 cX11_wordAt 6 (some .int) 1 ι b 118 [] [] u (K118  u)) (fu : Nat) (x3 : Int32) (x4 : Int32) (u : qS) : SW RX11 cX11_wordAt 6 (some .int) 1 ι b 5 [(0, .ref (b + 163)), (1, .int x1), (2, .int x2), (3, .int x3), (4, .int x4)] [] u (q_it2 (m_X11_wordAt_L5 x1 x2 K86 K118) fu x3 x4 u) := by
  refine SW.it2 (fun x3 x4 => [(0, .ref (b + 163)), (1, .int x1), (2, .int x2), (3, .int x3), (4, .int x4)]) (fun self ih x3 x4 u => ?_) fu x3 x4 u
  unfold m_X11_wordAt_L5
  refine sw_iload 4 dX11_wordAt_5 rfl ?_
  refine sw_sipush (128 : Int32) dX11_wordAt_7 (by decide) ?_
  refine sw_icmp_ge 118 dX11_wordAt_10 (by decide) ?_ ?_
  · exact SW.sub [] rfl (hK118  u)
  · refine sw_iconst (0 : Int32) dX11_wordAt_13 (by decide) ?_
    refine sw_istore (lv' := [(5, .int (0 : Int32)), (0, .ref (b + 163)), (1, .int x1), (2, .int x2), (3, .int x3), (4, .int x4)]) dX11_wordAt_14 (by decide) rfl ?_
    refine sw_iload_n 4 dX11_wordAt_16 rfl rfl ?_
    refine sw_iconst (1 : Int32) dX11_wordAt_17 (by decide) ?_
    refine sw_iadd dX11_wordAt_18 ?_
    refine SW.name (fun y3 => ?_)
    refine sw_istore_n (lv' := [(3, .int y3), (5, .int (0 : Int32)), (0, .ref (b + 163)), (1, .int x1), (2, .int x2), (4, .int x4)]) dX11_wordAt_19 rfl (by decide) rfl ?_
    refine SW.sub (lv' := [(0, .ref (b + 163)), (1, .int x1), (2, .int x2), (3, .int y3), (4, .int x4), (5, .int (0 : Int32))]) [2, 3, 4, 0, 5, 1] rfl ?_
    refine w_X11_wordAt_L20 h0 x1 x2 y3 x4 (fun x5 u_2 => ?_) q_F (0 : Int32) u
    refine sw_iload_n 1 dX11_wordAt_61 rfl rfl ?_
    refine sw_iload 5 dX11_wordAt_62 rfl ?_
    refine sw_iadd dX11_wordAt_64 ?_
    refine sw_iload_n 2 dX11_wordAt_65 rfl rfl ?_
    refine SW.jn0 88 ([(0, .ref (b + 163)), (1, .int x1), (2, .int x2), (3, .int y3), (4, .int x4)]) ([]) (fun  u_3 => ?_) (fun J88 hJ88 => ?_)
    · refine sw_iload 4 dX11_wordAt_88 rfl ?_
      refine sw_iconst (1 : Int32) dX11_wordAt_90 (by decide) ?_
      refine sw_iadd dX11_wordAt_91 ?_
      refine SW.name (fun y4 => ?_)
      refine sw_istore (lv' := [(4, .int y4), (0, .ref (b + 163)), (1, .int x1), (2, .int x2), (3, .int y3)]) dX11_wordAt_92 (by decide) rfl ?_
      refine SW.sub (lv' := [(0, .ref (b + 163)), (1, .int x1), (2, .int x2), (3, .int y3), (4, .int y4)]) [1, 2, 3, 4, 0] rfl ?_
      refine w_X11_wordAt_L94 h0 x1 x2 y3 (fun x4_4 u_5 => ?_) q_F y4 u_3
      refine sw_goto 5 dX11_wordAt_115 (by decide) ?_
      exact SW.sub [0, 1, 2, 3, 4] rfl (ih y3 x4_4 u_5)
    · refine sw_icmp_ne 88 dX11_wordAt_66 (by decide) ?_ ?_
      · refine sw_aload_n 0 dX11_wordAt_69 rfl rfl ?_
        refine sw_getr q_cl11 19 (r := 169) dX11_wordAt_70 t_1064 (by decide) h0.1 rfl ?_
        refine sw_iload 4 dX11_wordAt_73 rfl ?_
        refine sw_iconst (1 : Int32) dX11_wordAt_75 (by decide) ?_
        refine sw_iadd dX11_wordAt_76 ?_
        refine sw_iload 5 dX11_wordAt_77 rfl ?_
        refine sw_iadd dX11_wordAt_79 ?_
        refine sw_iald dX11_wordAt_80 h0.2.2.2.2.2.2.1 (fun a => ?_)
        refine sw_bipush (32 : Int32) dX11_wordAt_81 (by decide) ?_
        refine sw_icmp_ne 88 dX11_wordAt_83 (by decide) ?_ ?_
        · exact SW.sub [3] rfl (hK86 y3 u_2)
        · exact SW.sub [0, 1, 2, 3, 4] rfl (hJ88  u_2)
      · exact SW.sub [0, 1, 2, 3, 4] rfl (hJ88  u_2)
set_option maxRecDepth 100000 in
theorem c_X11_wordAt (l : Launch) {ι : qI} {b : Nat}  (x1 : Int32) (x2 : Int32) (u : qS) (h0 : is_X11 ι) : CN l yX11_wordAt cX11_wordAt 6 (some .int) 1 ι b [.ref (b + 163), .int x1, .int x2] u (m_X11_wordAt x1 x2 u) := by
  refine CN.of_SW (own := RX11) rfl (by decide) (Nat.le_of_ble_eq_true rfl) [(0, .ref (b + 163)), (1, .int x1), (2, .int x2)] rfl ?_
  unfold m_X11_wordAt
  refine sw_iconst (-1 : Int32) dX11_wordAt_0 (by decide) ?_
  refine sw_istore_n (lv' := [(3, .int (-1 : Int32)), (0, .ref (b + 163)), (1, .int x1), (2, .int x2)]) dX11_wordAt_1 rfl (by decide) rfl ?_
  refine sw_iconst (0 : Int32) dX11_wordAt_2 (by decide) ?_
  refine sw_istore (lv' := [(4, .int (0 : Int32)), (3, .int (-1 : Int32)), (0, .ref (b + 163)), (1, .int x1), (2, .int x2)]) dX11_wordAt_3 (by decide) rfl ?_
  refine SW.sub (lv' := [(0, .ref (b + 163)), (1, .int x1), (2, .int x2), (3, .int (-1 : Int32)), (4, .int (0 : Int32))]) [2, 3, 4, 1, 0] rfl ?_
  refine w_X11_wordAt_L5 h0 x1 x2 (fun x3 u_6 => ?_) (fun u_7 => ?_) q_F (-1 : Int32) (0 : Int32) u
  · refine sw_iload_n 0 dX11_wordAt_86 rfl rfl ?_
    exact sw_iret dX11_wordAt_87
  · refine sw_iconst (-1 : Int32) dX11_wordAt_118 (by decide) ?_
    exact sw_iret dX11_wordAt_119
set_option maxRecDepth 100000 in
theorem w_X11_reads_L0 {ι : qI} {b : Nat}  (h0 : is_X11 ι)  {K39 : qS → qR} (hK39 : ∀  (u : qS), SW RX11 cX11_reads 2 none 3 ι b 39 [(0, .ref (b + 163))] [] u (K39  u)) (fu : Nat)  (u : qS) : SW RX11 cX11_reads 2 none 3 ι b 0 [(0, .ref (b + 163))] [] u (q_it0 (m_X11_reads_L0 K39) fu  u) := by
  refine SW.it0 ([(0, .ref (b + 163))]) (fun self ih  u => ?_) fu  u
  unfold m_X11_reads_L0
  refine sw_aload_n 0 dX11_reads_0 rfl rfl ?_
  refine sw_aload_n 0 dX11_reads_1 rfl rfl ?_
  refine sw_geti q_cl11 15 dX11_reads_2 t_1060 (by decide) h0.1 rfl ?_
  refine sw_callVi (As := [.int (u.1 163 15)]) (k := 163) rfl dX11_reads_5 t_1290 mf_X11_raw h0.1 q_cl11 (by decide) (Nat.le_of_ble_eq_true rfl) (fun l => c_X11_raw l (u.1 163 15) u h0) (fun r u_1 => ?_)
  refine sw_bipush (32 : Int32) dX11_reads_8 (by decide) ?_
  refine SW.jn0 26 ([(0, .ref (b + 163))]) ([]) (fun  u_2 => ?_) (fun J26 hJ26 => ?_)
  · refine sw_aload_n 0 dX11_reads_26 rfl rfl ?_
    refine sw_aload_n 0 dX11_reads_27 rfl rfl ?_
    refine sw_geti q_cl11 15 dX11_reads_28 t_1060 (by decide) h0.1 rfl ?_
    refine sw_iconst (1 : Int32) dX11_reads_31 (by decide) ?_
    refine sw_iadd dX11_reads_32 ?_
    refine sw_puti q_cl11 15 dX11_reads_33 t_1060 (by decide) (by decide +kernel) rfl h0.1 rfl (fun u_3 => ?_)
    refine sw_goto 0 dX11_reads_36 (by decide) ?_
    exact SW.sub [0] rfl (ih  u_3)
  · refine sw_icmp_eq 26 dX11_reads_10 (by decide) ?_ ?_
    · exact SW.sub [0] rfl (hJ26  u_1)
    · refine sw_aload_n 0 dX11_reads_13 rfl rfl ?_
      refine sw_aload_n 0 dX11_reads_14 rfl rfl ?_
      refine sw_geti q_cl11 15 dX11_reads_15 t_1060 (by decide) h0.1 rfl ?_
      refine sw_callVi (As := [.int (u_1.1 163 15)]) (k := 163) rfl dX11_reads_18 t_1290 mf_X11_raw h0.1 q_cl11 (by decide) (Nat.le_of_ble_eq_true rfl) (fun l => c_X11_raw l (u_1.1 163 15) u_1 h0) (fun r_4 u_5 => ?_)
      refine sw_bipush (10 : Int32) dX11_reads_21 (by decide) ?_
      refine sw_icmp_ne 39 dX11_reads_23 (by decide) ?_ ?_
      · exact SW.sub [0] rfl (hJ26  u_5)
      · exact SW.sub [0] rfl (hK39  u_5)
set_option maxRecDepth 100000 in
theorem w_X11_reads_L171 {ι : qI} {b : Nat}  (h0 : is_X11 ι)  {K239 : qS → qR} (hK239 : ∀  (u : qS), SW RX11 cX11_reads 2 none 3 ι b 239 [(0, .ref (b + 163))] [] u (K239  u)) (fu : Nat)  (u : qS) : SW RX11 cX11_reads 2 none 3 ι b 171 [(0, .ref (b + 163))] [] u (q_it0 (m_X11_reads_L171 K239) fu  u) := by
  refine SW.it0 ([(0, .ref (b + 163))]) (fun self ih  u => ?_) fu  u
  unfold m_X11_reads_L171
  refine sw_aload_n 0 dX11_reads_171 rfl rfl ?_
  refine sw_aload_n 0 dX11_reads_172 rfl rfl ?_
  refine sw_aload_n 0 dX11_reads_173 rfl rfl ?_
  refine sw_geti q_cl11 15 dX11_reads_174 t_1060 (by decide) h0.1 rfl ?_
  refine sw_callVi (As := [.int (u.1 163 15)]) (k := 163) rfl dX11_reads_177 t_1290 mf_X11_raw h0.1 q_cl11 (by decide) (Nat.le_of_ble_eq_true rfl) (fun l => c_X11_raw l (u.1 163 15) u h0) (fun r u_20 => ?_)
  refine sw_callVi (As := [.int r]) (k := 163) rfl dX11_reads_180 t_1302 mf_X11_isDigit h0.1 q_cl11 (by decide) (Nat.le_of_ble_eq_true rfl) (fun l => c_X11_isDigit l r u_20 h0) (fun r_21 u_22 => ?_)
  refine sw_if_eq 239 dX11_reads_183 (by decide) ?_ ?_
  · exact SW.sub [0] rfl (hK239  u_22)
  · refine sw_aload_n 0 dX11_reads_186 rfl rfl ?_
    refine sw_aload_n 0 dX11_reads_187 rfl rfl ?_
    refine sw_geti q_cl11 18 dX11_reads_188 t_1063 (by decide) h0.1 rfl ?_
    refine sw_sipush (10000 : Int32) dX11_reads_191 (by decide) ?_
    refine SW.jn1 223 (fun s0 => [(0, .ref (b + 163))]) (fun s0 => [.int s0, .ref (b + 163)]) (fun s0 u_23 => ?_) (fun J223 hJ223 => ?_)
    · refine sw_puti q_cl11 18 dX11_reads_223 t_1063 (by decide) (by decide +kernel) rfl h0.1 rfl (fun u_24 => ?_)
      refine sw_aload_n 0 dX11_reads_226 rfl rfl ?_
      refine sw_aload_n 0 dX11_reads_227 rfl rfl ?_
      refine sw_geti q_cl11 15 dX11_reads_228 t_1060 (by decide) h0.1 rfl ?_
      refine sw_iconst (1 : Int32) dX11_reads_231 (by decide) ?_
      refine sw_iadd dX11_reads_232 ?_
      refine sw_puti q_cl11 15 dX11_reads_233 t_1060 (by decide) (by decide +kernel) rfl h0.1 rfl (fun u_25 => ?_)
      refine sw_goto 171 dX11_reads_236 (by decide) ?_
      exact SW.sub [0] rfl (ih  u_25)
    · refine sw_icmp_ge 219 dX11_reads_194 (by decide) ?_ ?_
      · refine sw_aload_n 0 dX11_reads_219 rfl rfl ?_
        refine sw_geti q_cl11 18 dX11_reads_220 t_1063 (by decide) h0.1 rfl ?_
        exact SW.sub [0] rfl (hJ223 (u_22.1 163 18) u_22)
      · refine sw_bipush (10 : Int32) dX11_reads_197 (by decide) ?_
        refine sw_aload_n 0 dX11_reads_199 rfl rfl ?_
        refine sw_geti q_cl11 18 dX11_reads_200 t_1063 (by decide) h0.1 rfl ?_
        refine sw_imul dX11_reads_203 ?_
        refine sw_aload_n 0 dX11_reads_204 rfl rfl ?_
        refine sw_aload_n 0 dX11_reads_205 rfl rfl ?_
        refine sw_geti q_cl11 15 dX11_reads_206 t_1060 (by decide) h0.1 rfl ?_
        refine sw_callVi (As := [.int (u_22.1 163 15)]) (k := 163) rfl dX11_reads_209 t_1290 mf_X11_raw h0.1 q_cl11 (by decide) (Nat.le_of_ble_eq_true rfl) (fun l => c_X11_raw l (u_22.1 163 15) u_22 h0) (fun r_26 u_27 => ?_)
        refine sw_iadd dX11_reads_212 ?_
        refine sw_bipush (48 : Int32) dX11_reads_213 (by decide) ?_
        refine sw_isub dX11_reads_215 ?_
        refine sw_goto 223 dX11_reads_216 (by decide) ?_
        exact SW.sub [0] rfl (hJ223 ((((10 : Int32) * (u_22.1 163 18)) + r_26) - (48 : Int32)) u_27)
set_option maxRecDepth 100000 in
theorem w_X11_reads_L95 {ι : qI} {b : Nat}  (h0 : is_X11 ι)  {K123 : qS → qR} (hK123 : ∀  (u : qS), SW RX11 cX11_reads 2 none 3 ι b 123 [(0, .ref (b + 163))] [] u (K123  u)) (fu : Nat)  (u : qS) : SW RX11 cX11_reads 2 none 3 ι b 95 [(0, .ref (b + 163))] [] u (q_it0 (m_X11_reads_L95 K123) fu  u) := by
  refine SW.it0 ([(0, .ref (b + 163))]) (fun self ih  u => ?_) fu  u
  unfold m_X11_reads_L95
  refine sw_aload_n 0 dX11_reads_95 rfl rfl ?_
  refine sw_aload_n 0 dX11_reads_96 rfl rfl ?_
  refine sw_aload_n 0 dX11_reads_97 rfl rfl ?_
  refine sw_geti q_cl11 15 dX11_reads_98 t_1060 (by decide) h0.1 rfl ?_
  refine sw_callVi (As := [.int (u.1 163 15)]) (k := 163) rfl dX11_reads_101 t_1290 mf_X11_raw h0.1 q_cl11 (by decide) (Nat.le_of_ble_eq_true rfl) (fun l => c_X11_raw l (u.1 163 15) u h0) (fun r u_30 => ?_)
  refine sw_callVi (As := [.int r]) (k := 163) rfl dX11_reads_104 t_1294 mf_X11_isLetter h0.1 q_cl11 (by decide) (Nat.le_of_ble_eq_true rfl) (fun l => c_X11_isLetter l r u_30 h0) (fun r_31 u_32 => ?_)
  refine sw_if_eq 123 dX11_reads_107 (by decide) ?_ ?_
  · exact SW.sub [0] rfl (hK123  u_32)
  · refine sw_aload_n 0 dX11_reads_110 rfl rfl ?_
    refine sw_aload_n 0 dX11_reads_111 rfl rfl ?_
    refine sw_geti q_cl11 15 dX11_reads_112 t_1060 (by decide) h0.1 rfl ?_
    refine sw_iconst (1 : Int32) dX11_reads_115 (by decide) ?_
    refine sw_iadd dX11_reads_116 ?_
    refine sw_puti q_cl11 15 dX11_reads_117 t_1060 (by decide) (by decide +kernel) rfl h0.1 rfl (fun u_33 => ?_)
    refine sw_goto 95 dX11_reads_120 (by decide) ?_
    exact SW.sub [0] rfl (ih  u_33)
set_option maxRecDepth 100000 in
theorem c_X11_reads (l : Launch) {ι : qI} {b : Nat}   (u : qS) (h0 : is_X11 ι) : CN l yX11_reads cX11_reads 2 none 3 ι b [.ref (b + 163)] u (m_X11_reads  u) := by
  refine CN.of_SW (own := RX11) rfl (by decide) (Nat.le_of_ble_eq_true rfl) [(0, .ref (b + 163))] rfl ?_
  unfold m_X11_reads
  refine SW.sub (lv' := [(0, .ref (b + 163))]) [0] rfl ?_
  refine w_X11_reads_L0 h0 (fun u_6 => ?_) q_F  u
  refine sw_aload_n 0 dX11_reads_39 rfl rfl ?_
  refine sw_aload_n 0 dX11_reads_40 rfl rfl ?_
  refine sw_geti q_cl11 15 dX11_reads_41 t_1060 (by decide) h0.1 rfl ?_
  refine sw_puti q_cl11 16 dX11_reads_44 t_1061 (by decide) (by decide +kernel) rfl h0.1 rfl (fun u_7 => ?_)
  refine sw_aload_n 0 dX11_reads_47 rfl rfl ?_
  refine sw_iconst (1 : Int32) dX11_reads_48 (by decide) ?_
  refine sw_puti q_cl11 17 dX11_reads_49 t_1062 (by decide) (by decide +kernel) rfl h0.1 rfl (fun u_8 => ?_)
  refine sw_aload_n 0 dX11_reads_52 rfl rfl ?_
  refine sw_aload_n 0 dX11_reads_53 rfl rfl ?_
  refine sw_geti q_cl11 15 dX11_reads_54 t_1060 (by decide) h0.1 rfl ?_
  refine sw_callVi (As := [.int (u_8.1 163 15)]) (k := 163) rfl dX11_reads_57 t_1290 mf_X11_raw h0.1 q_cl11 (by decide) (Nat.le_of_ble_eq_true rfl) (fun l => c_X11_raw l (u_8.1 163 15) u_8 h0) (fun r u_9 => ?_)
  refine sw_istore_n (lv' := [(1, .int r), (0, .ref (b + 163))]) dX11_reads_60 rfl (by decide) rfl ?_
  refine sw_iload_n 0 dX11_reads_61 rfl rfl ?_
  refine sw_iconst (-1 : Int32) dX11_reads_62 (by decide) ?_
  refine sw_icmp_ne 72 dX11_reads_63 (by decide) ?_ ?_
  · refine sw_aload_n 1 dX11_reads_66 rfl rfl ?_
    refine sw_iconst (0 : Int32) dX11_reads_67 (by decide) ?_
    refine sw_puti q_cl11 17 dX11_reads_68 t_1062 (by decide) (by decide +kernel) rfl h0.1 rfl (fun u_39 => ?_)
    exact sw_vret dX11_reads_71
  · refine sw_aload_n 1 dX11_reads_72 rfl rfl ?_
    refine sw_aload_n 1 dX11_reads_73 rfl rfl ?_
    refine sw_geti q_cl11 15 dX11_reads_74 t_1060 (by decide) h0.1 rfl ?_
    refine sw_iconst (1 : Int32) dX11_reads_77 (by decide) ?_
    refine sw_iadd dX11_reads_78 ?_
    refine sw_puti q_cl11 15 dX11_reads_79 t_1060 (by decide) (by decide +kernel) rfl h0.1 rfl (fun u_10 => ?_)
    refine sw_aload_n 1 dX11_reads_82 rfl rfl ?_
    refine sw_iload_n 0 dX11_reads_83 rfl rfl ?_
    refine sw_puti q_cl11 18 dX11_reads_84 t_1063 (by decide) (by decide +kernel) rfl h0.1 rfl (fun u_11 => ?_)
    refine sw_aload_n 1 dX11_reads_87 rfl rfl ?_
    refine sw_iload_n 0 dX11_reads_88 rfl rfl ?_
    refine sw_callVi (As := [.int r]) (k := 163) rfl dX11_reads_89 t_1294 mf_X11_isLetter h0.1 q_cl11 (by decide) (Nat.le_of_ble_eq_true rfl) (fun l => c_X11_isLetter l r u_11 h0) (fun r_12 u_13 => ?_)
    refine sw_if_eq 155 dX11_reads_92 (by decide) ?_ ?_
    · refine sw_aload_n 1 dX11_reads_155 rfl rfl ?_
      refine sw_iload_n 0 dX11_reads_156 rfl rfl ?_
      refine sw_callVi (As := [.int r]) (k := 163) rfl dX11_reads_157 t_1302 mf_X11_isDigit h0.1 q_cl11 (by decide) (Nat.le_of_ble_eq_true rfl) (fun l => c_X11_isDigit l r u_13 h0) (fun r_14 u_15 => ?_)
      refine sw_if_eq 260 dX11_reads_160 (by decide) ?_ ?_
      · refine sw_aload_n 1 dX11_reads_260 rfl rfl ?_
        refine sw_iload_n 0 dX11_reads_261 rfl rfl ?_
        refine sw_callVi (As := [.int r]) (k := 163) rfl dX11_reads_262 t_1306 mf_X11_isMarkSign h0.1 q_cl11 (by decide) (Nat.le_of_ble_eq_true rfl) (fun l => c_X11_isMarkSign l r u_15 h0) (fun r_16 u_17 => ?_)
        refine sw_if_eq 273 dX11_reads_265 (by decide) ?_ ?_
        · exact sw_vret dX11_reads_273
        · refine sw_aload_n 1 dX11_reads_268 rfl rfl ?_
          refine sw_iconst (4 : Int32) dX11_reads_269 (by decide) ?_
          refine sw_puti q_cl11 17 dX11_reads_270 t_1062 (by decide) (by decide +kernel) rfl h0.1 rfl (fun u_18 => ?_)
          exact sw_vret dX11_reads_273
      · refine sw_aload_n 1 dX11_reads_163 rfl rfl ?_
        refine sw_iload_n 0 dX11_reads_164 rfl rfl ?_
        refine sw_bipush (48 : Int32) dX11_reads_165 (by decide) ?_
        refine sw_isub dX11_reads_167 ?_
        refine sw_puti q_cl11 18 dX11_reads_168 t_1063 (by decide) (by decide +kernel) rfl h0.1 rfl (fun u_19 => ?_)
        refine SW.sub (lv' := [(0, .ref (b + 163))]) [1] rfl ?_
        refine w_X11_reads_L171 h0 (fun u_28 => ?_) q_F  u_19
        refine sw_aload_n 0 dX11_reads_239 rfl rfl ?_
        refine sw_geti q_cl11 15 dX11_reads_240 t_1060 (by decide) h0.1 rfl ?_
        refine sw_aload_n 0 dX11_reads_243 rfl rfl ?_
        refine sw_geti q_cl11 16 dX11_reads_244 t_1061 (by decide) h0.1 rfl ?_
        refine sw_isub dX11_reads_247 ?_
        refine sw_iconst (5 : Int32) dX11_reads_248 (by decide) ?_
        refine sw_icmp_ge 273 dX11_reads_249 (by decide) ?_ ?_
        · exact sw_vret dX11_reads_273
        · refine sw_aload_n 0 dX11_reads_252 rfl rfl ?_
          refine sw_iconst (3 : Int32) dX11_reads_253 (by decide) ?_
          refine sw_puti q_cl11 17 dX11_reads_254 t_1062 (by decide) (by decide +kernel) rfl h0.1 rfl (fun u_29 => ?_)
          refine sw_goto 273 dX11_reads_257 (by decide) ?_
          exact sw_vret dX11_reads_273
    · refine SW.sub (lv' := [(0, .ref (b + 163))]) [1] rfl ?_
      refine w_X11_reads_L95 h0 (fun u_34 => ?_) q_F  u_13
      refine sw_aload_n 0 dX11_reads_123 rfl rfl ?_
      refine sw_aload_n 0 dX11_reads_124 rfl rfl ?_
      refine sw_aload_n 0 dX11_reads_125 rfl rfl ?_
      refine sw_geti q_cl11 16 dX11_reads_126 t_1061 (by decide) h0.1 rfl ?_
      refine sw_aload_n 0 dX11_reads_129 rfl rfl ?_
      refine sw_geti q_cl11 15 dX11_reads_130 t_1060 (by decide) h0.1 rfl ?_
      refine sw_callVi (As := [.int (u_34.1 163 16), .int (u_34.1 163 15)]) (k := 163) rfl dX11_reads_133 t_1298 mf_X11_wordAt h0.1 q_cl11 (by decide) (Nat.le_of_ble_eq_true rfl) (fun l => c_X11_wordAt l (u_34.1 163 16) (u_34.1 163 15) u_34 h0) (fun r_35 u_36 => ?_)
      refine sw_puti q_cl11 18 dX11_reads_136 t_1063 (by decide) (by decide +kernel) rfl h0.1 rfl (fun u_37 => ?_)
      refine sw_aload_n 0 dX11_reads_139 rfl rfl ?_
      refine sw_geti q_cl11 18 dX11_reads_140 t_1063 (by decide) h0.1 rfl ?_
      refine sw_iconst (-1 : Int32) dX11_reads_143 (by decide) ?_
      refine sw_icmp_eq 273 dX11_reads_144 (by decide) ?_ ?_
      · exact sw_vret dX11_reads_273
      · refine sw_aload_n 0 dX11_reads_147 rfl rfl ?_
        refine sw_iconst (2 : Int32) dX11_reads_148 (by decide) ?_
        refine sw_puti q_cl11 17 dX11_reads_149 t_1062 (by decide) (by decide +kernel) rfl h0.1 rfl (fun u_38 => ?_)
        refine sw_goto 273 dX11_reads_152 (by decide) ?_
        exact sw_vret dX11_reads_273
set_option maxRecDepth 100000 in
theorem c_X11_errs (l : Launch) {ι : qI} {b : Nat}  (x1 : Int32) (u : qS) (h0 : is_X11 ι) : CN l yX11_errs cX11_errs 2 (some .int) 1 ι b [.ref (b + 163), .int x1] u (m_X11_errs x1 u) := by
  refine CN.of_SW (own := RX11) rfl (by decide) (Nat.le_of_ble_eq_true rfl) [(0, .ref (b + 163)), (1, .int x1)] rfl ?_
  unfold m_X11_errs
  refine sw_aload_n 0 dX11_errs_0 rfl rfl ?_
  refine sw_iload_n 1 dX11_errs_1 rfl rfl ?_
  refine sw_puti q_cl11 32 dX11_errs_2 t_1077 (by decide) (by decide +kernel) rfl h0.1 rfl (fun u_1 => ?_)
  refine sw_aload_n 0 dX11_errs_5 rfl rfl ?_
  refine sw_aload_n 0 dX11_errs_6 rfl rfl ?_
  refine sw_geti q_cl11 16 dX11_errs_7 t_1061 (by decide) h0.1 rfl ?_
  refine sw_puti q_cl11 33 dX11_errs_10 t_1078 (by decide) (by decide +kernel) rfl h0.1 rfl (fun u_2 => ?_)
  refine sw_iconst (-1 : Int32) dX11_errs_13 (by decide) ?_
  exact sw_iret dX11_errs_14
set_option maxRecDepth 100000 in
theorem c_X11_isWord (l : Launch) {ι : qI} {b : Nat}  (x1 : Int32) (u : qS) (h0 : is_X11 ι) : CN l yX11_isWord cX11_isWord 2 (some .boolean) 1 ι b [.ref (b + 163), .int x1] u (m_X11_isWord x1 u) := by
  refine CN.of_SW (own := RX11) rfl (by decide) (Nat.le_of_ble_eq_true rfl) [(0, .ref (b + 163)), (1, .int x1)] rfl ?_
  unfold m_X11_isWord
  refine sw_aload_n 0 dX11_isWord_0 rfl rfl ?_
  refine sw_geti q_cl11 17 dX11_isWord_1 t_1062 (by decide) h0.1 rfl ?_
  refine sw_iconst (2 : Int32) dX11_isWord_4 (by decide) ?_
  refine sw_icmp_ne 20 dX11_isWord_5 (by decide) ?_ ?_
  · refine sw_aload_n 0 dX11_isWord_8 rfl rfl ?_
    refine sw_geti q_cl11 18 dX11_isWord_9 t_1063 (by decide) h0.1 rfl ?_
    refine sw_iload_n 1 dX11_isWord_12 rfl rfl ?_
    refine sw_icmp_ne 20 dX11_isWord_13 (by decide) ?_ ?_
    · refine sw_iconst (1 : Int32) dX11_isWord_16 (by decide) ?_
      refine sw_goto 21 dX11_isWord_17 (by decide) ?_
      exact sw_zret1 dX11_isWord_21
    · refine sw_iconst (0 : Int32) dX11_isWord_20 (by decide) ?_
      exact sw_zret0 dX11_isWord_21
  · refine sw_iconst (0 : Int32) dX11_isWord_20 (by decide) ?_
    exact sw_zret0 dX11_isWord_21
set_option maxRecDepth 100000 in
theorem c_X11_isSign (l : Launch) {ι : qI} {b : Nat}  (x1 : Int32) (u : qS) (h0 : is_X11 ι) : CN l yX11_isSign cX11_isSign 2 (some .boolean) 1 ι b [.ref (b + 163), .int x1] u (m_X11_isSign x1 u) := by
  refine CN.of_SW (own := RX11) rfl (by decide) (Nat.le_of_ble_eq_true rfl) [(0, .ref (b + 163)), (1, .int x1)] rfl ?_
  unfold m_X11_isSign
  refine sw_aload_n 0 dX11_isSign_0 rfl rfl ?_
  refine sw_geti q_cl11 17 dX11_isSign_1 t_1062 (by decide) h0.1 rfl ?_
  refine sw_iconst (4 : Int32) dX11_isSign_4 (by decide) ?_
  refine sw_icmp_ne 20 dX11_isSign_5 (by decide) ?_ ?_
  · refine sw_aload_n 0 dX11_isSign_8 rfl rfl ?_
    refine sw_geti q_cl11 18 dX11_isSign_9 t_1063 (by decide) h0.1 rfl ?_
    refine sw_iload_n 1 dX11_isSign_12 rfl rfl ?_
    refine sw_icmp_ne 20 dX11_isSign_13 (by decide) ?_ ?_
    · refine sw_iconst (1 : Int32) dX11_isSign_16 (by decide) ?_
      refine sw_goto 21 dX11_isSign_17 (by decide) ?_
      exact sw_zret1 dX11_isSign_21
    · refine sw_iconst (0 : Int32) dX11_isSign_20 (by decide) ?_
      exact sw_zret0 dX11_isSign_21
  · refine sw_iconst (0 : Int32) dX11_isSign_20 (by decide) ?_
    exact sw_zret0 dX11_isSign_21
set_option maxRecDepth 100000 in
theorem c_X11_emits (l : Launch) {ι : qI} {b : Nat}  (x1 : Int32) (x2 : Int32) (u : qS) (h0 : is_X11 ι) : CN l yX11_emits cX11_emits 3 none 1 ι b [.ref (b + 163), .int x1, .int x2] u (m_X11_emits x1 x2 u) := by
  refine CN.of_SW (own := RX11) rfl (by decide) (Nat.le_of_ble_eq_true rfl) [(0, .ref (b + 163)), (1, .int x1), (2, .int x2)] rfl ?_
  unfold m_X11_emits
  refine sw_aload_n 0 dX11_emits_0 rfl rfl ?_
  refine sw_getr q_cl11 25 (r := 175) dX11_emits_1 t_1070 (by decide) h0.1 rfl ?_
  refine sw_sipush (800 : Int32) dX11_emits_4 (by decide) ?_
  refine sw_aload_n 0 dX11_emits_7 rfl rfl ?_
  refine sw_geti q_cl11 28 dX11_emits_8 t_1073 (by decide) h0.1 rfl ?_
  refine sw_iadd dX11_emits_11 ?_
  refine sw_iload_n 1 dX11_emits_12 rfl rfl ?_
  refine sw_iast dX11_emits_13 h0.2.2.2.2.2.2.2.2.2.2.2.2.1 (fun u_1 => ?_)
  refine sw_aload_n 0 dX11_emits_14 rfl rfl ?_
  refine sw_getr q_cl11 26 (r := 176) dX11_emits_15 t_1071 (by decide) h0.1 rfl ?_
  refine sw_sipush (800 : Int32) dX11_emits_18 (by decide) ?_
  refine sw_aload_n 0 dX11_emits_21 rfl rfl ?_
  refine sw_geti q_cl11 28 dX11_emits_22 t_1073 (by decide) h0.1 rfl ?_
  refine sw_iadd dX11_emits_25 ?_
  refine sw_iload_n 2 dX11_emits_26 rfl rfl ?_
  refine sw_iast dX11_emits_27 h0.2.2.2.2.2.2.2.2.2.2.2.2.2.1 (fun u_2 => ?_)
  refine sw_aload_n 0 dX11_emits_28 rfl rfl ?_
  refine sw_aload_n 0 dX11_emits_29 rfl rfl ?_
  refine sw_geti q_cl11 28 dX11_emits_30 t_1073 (by decide) h0.1 rfl ?_
  refine sw_iconst (1 : Int32) dX11_emits_33 (by decide) ?_
  refine sw_iadd dX11_emits_34 ?_
  refine sw_puti q_cl11 28 dX11_emits_35 t_1073 (by decide) (by decide +kernel) rfl h0.1 rfl (fun u_3 => ?_)
  exact sw_vret dX11_emits_38
set_option maxRecDepth 100000 in
theorem c_X11_canAsk (l : Launch) {ι : qI} {b : Nat}  (x1 : Int32) (u : qS) (h0 : is_X11 ι) : CN l yX11_canAsk cX11_canAsk 2 (some .boolean) 2 ι b [.ref (b + 163), .int x1] u (m_X11_canAsk x1 u) := by
  refine CN.of_SW (own := RX11) rfl (by decide) (Nat.le_of_ble_eq_true rfl) [(0, .ref (b + 163)), (1, .int x1)] rfl ?_
  unfold m_X11_canAsk
  refine sw_aload_n 0 dX11_canAsk_0 rfl rfl ?_
  refine sw_iload_n 1 dX11_canAsk_1 rfl rfl ?_
  refine sw_bipush (7 : Int32) dX11_canAsk_2 (by decide) ?_
  refine sw_bipush (15 : Int32) dX11_canAsk_4 (by decide) ?_
  refine sw_callVi (As := [.int x1, .int (7 : Int32), .int (15 : Int32)]) (k := 163) rfl dX11_canAsk_6 t_1226 mf_X11_isIn h0.1 q_cl11 (by decide) (Nat.le_of_ble_eq_true rfl) (fun l => c_X11_isIn l x1 (7 : Int32) (15 : Int32) u h0) (fun r u_1 => ?_)
  exact sw_zret dX11_canAsk_9
set_option maxRecDepth 100000 in
theorem c_X11_readUnit (l : Launch) {ι : qI} {b : Nat}   (u : qS) (h0 : is_X11 ι) : CN l yX11_readUnit cX11_readUnit 2 (some .int) 4 ι b [.ref (b + 163)] u (m_X11_readUnit  u) := by
  refine CN.of_SW (own := RX11) rfl (by decide) (Nat.le_of_ble_eq_true rfl) [(0, .ref (b + 163))] rfl ?_
  unfold m_X11_readUnit
  refine sw_aload_n 0 dX11_readUnit_0 rfl rfl ?_
  refine sw_geti q_cl11 17 dX11_readUnit_1 t_1062 (by decide) h0.1 rfl ?_
  refine sw_iconst (2 : Int32) dX11_readUnit_4 (by decide) ?_
  refine SW.jn1 24 (fun s0 => [(0, .ref (b + 163))]) (fun s0 => [.int s0]) (fun s0 u_1 => ?_) (fun J24 hJ24 => ?_)
  · refine sw_istore_n (lv' := [(1, .int s0), (0, .ref (b + 163))]) dX11_readUnit_24 rfl (by decide) rfl ?_
    refine sw_iload_n 0 dX11_readUnit_25 rfl rfl ?_
    refine SW.jn0 43 ([(0, .ref (b + 163)), (1, .int s0)]) ([]) (fun  u_2 => ?_) (fun J43 hJ43 => ?_)
    · refine sw_aload_n 0 dX11_readUnit_43 rfl rfl ?_
      refine sw_iload_n 1 dX11_readUnit_44 rfl rfl ?_
      refine SW.jn1 53 (fun s0_3 => [(0, .ref (b + 163)), (1, .int s0)]) (fun s0_3 => [.int s0_3, .ref (b + 163)]) (fun s0_3 u_4 => ?_) (fun J53 hJ53 => ?_)
      · refine sw_iload_n 1 dX11_readUnit_53 rfl rfl ?_
        refine SW.jn1 71 (fun s0_5 => [(0, .ref (b + 163))]) (fun s0_5 => [.int s0_5, .int s0_3, .ref (b + 163)]) (fun s0_5 u_6 => ?_) (fun J71 hJ71 => ?_)
        · refine sw_callVv (As := [.int s0_3, .int s0_5]) (k := 163) rfl dX11_readUnit_71 t_1378 mf_X11_emits h0.1 q_cl11 (by decide) (Nat.le_of_ble_eq_true rfl) (fun l => c_X11_emits l s0_3 s0_5 u_6 h0) (fun _ u_7 => ?_)
          refine sw_aload_n 0 dX11_readUnit_74 rfl rfl ?_
          refine sw_callVv (As := []) (k := 163) rfl dX11_readUnit_75 t_1286 mf_X11_reads h0.1 q_cl11 (by decide) (Nat.le_of_ble_eq_true rfl) (fun l => c_X11_reads l  u_7 h0) (fun _ u_8 => ?_)
          refine sw_iconst (0 : Int32) dX11_readUnit_78 (by decide) ?_
          exact sw_iret dX11_readUnit_79
        · refine sw_if_eq 67 dX11_readUnit_54 (by decide) ?_ ?_
          · refine sw_aload_n 0 dX11_readUnit_67 rfl rfl ?_
            refine sw_geti q_cl11 18 dX11_readUnit_68 t_1063 (by decide) h0.1 rfl ?_
            exact SW.sub [0] rfl (hJ71 (u_4.1 163 18) u_4)
          · refine sw_aload_n 0 dX11_readUnit_57 rfl rfl ?_
            refine sw_geti q_cl11 18 dX11_readUnit_58 t_1063 (by decide) h0.1 rfl ?_
            refine sw_bipush (7 : Int32) dX11_readUnit_61 (by decide) ?_
            refine sw_isub dX11_readUnit_63 ?_
            refine sw_goto 71 dX11_readUnit_64 (by decide) ?_
            exact SW.sub [0] rfl (hJ71 ((u_4.1 163 18) - (7 : Int32)) u_4)
      · refine sw_if_eq 52 dX11_readUnit_45 (by decide) ?_ ?_
        · refine sw_iconst (0 : Int32) dX11_readUnit_52 (by decide) ?_
          exact SW.sub [0, 1] rfl (hJ53 (0 : Int32) u_2)
        · refine sw_iconst (1 : Int32) dX11_readUnit_48 (by decide) ?_
          refine sw_goto 53 dX11_readUnit_49 (by decide) ?_
          exact SW.sub [0, 1] rfl (hJ53 (1 : Int32) u_2)
    · refine sw_if_ne 43 dX11_readUnit_26 (by decide) ?_ ?_
      · refine sw_aload_n 1 dX11_readUnit_29 rfl rfl ?_
        refine sw_geti q_cl11 17 dX11_readUnit_30 t_1062 (by decide) h0.1 rfl ?_
        refine sw_iconst (3 : Int32) dX11_readUnit_33 (by decide) ?_
        refine sw_icmp_eq 43 dX11_readUnit_34 (by decide) ?_ ?_
        · exact SW.sub [1, 0] rfl (hJ43  u_1)
        · refine sw_aload_n 1 dX11_readUnit_37 rfl rfl ?_
          refine sw_iconst (1 : Int32) dX11_readUnit_38 (by decide) ?_
          refine sw_callVi (As := [.int (1 : Int32)]) (k := 163) rfl dX11_readUnit_39 t_1318 mf_X11_errs h0.1 q_cl11 (by decide) (Nat.le_of_ble_eq_true rfl) (fun l => c_X11_errs l (1 : Int32) u_1 h0) (fun r u_9 => ?_)
          exact sw_iret dX11_readUnit_42
      · exact SW.sub [1, 0] rfl (hJ43  u_1)
  · refine SW.jn0 23 ([(0, .ref (b + 163))]) ([]) (fun  u_10 => ?_) (fun J23 hJ23 => ?_)
    · refine sw_iconst (0 : Int32) dX11_readUnit_23 (by decide) ?_
      exact SW.sub [0] rfl (hJ24 (0 : Int32) u_10)
    · refine sw_icmp_ne 23 dX11_readUnit_5 (by decide) ?_ ?_
      · refine sw_aload_n 0 dX11_readUnit_8 rfl rfl ?_
        refine sw_aload_n 0 dX11_readUnit_9 rfl rfl ?_
        refine sw_geti q_cl11 18 dX11_readUnit_10 t_1063 (by decide) h0.1 rfl ?_
        refine sw_callVi (As := [.int (u.1 163 18)]) (k := 163) rfl dX11_readUnit_13 t_1374 mf_X11_canAsk h0.1 q_cl11 (by decide) (Nat.le_of_ble_eq_true rfl) (fun l => c_X11_canAsk l (u.1 163 18) u h0) (fun r_11 u_12 => ?_)
        refine sw_if_eq 23 dX11_readUnit_16 (by decide) ?_ ?_
        · exact SW.sub [0] rfl (hJ23  u_12)
        · refine sw_iconst (1 : Int32) dX11_readUnit_19 (by decide) ?_
          refine sw_goto 24 dX11_readUnit_20 (by decide) ?_
          exact SW.sub [0] rfl (hJ24 (1 : Int32) u_12)
      · exact SW.sub [0] rfl (hJ23  u)
set_option maxRecDepth 100000 in
theorem w_X11_readProduct_L10 {ι : qI} {b : Nat}  (h0 : is_X11 ι)  {K51 : qS → qR} {K68 : qS → qR} {K82 : qS → qR} {K101 : qS → qR} (hK51 : ∀  (u : qS), SW RX11 cX11_readProduct 2 (some .int) 5 ι b 51 [(0, .ref (b + 163))] [] u (K51  u)) (hK68 : ∀  (u : qS), SW RX11 cX11_readProduct 2 (some .int) 5 ι b 68 [(0, .ref (b + 163))] [] u (K68  u)) (hK82 : ∀  (u : qS), SW RX11 cX11_readProduct 2 (some .int) 5 ι b 82 [] [] u (K82  u)) (hK101 : ∀  (u : qS), SW RX11 cX11_readProduct 2 (some .int) 5 ι b 101 [] [] u (K101  u)) (fu : Nat)  (u : qS) : SW RX11 cX11_readProduct 2 (some .int) 5 ι b 10 [(0, .ref (b + 163))] [] u (q_it0 (m_X11_readProduct_L10 K51 K68 K82 K101) fu  u) := by
  refine SW.it0 ([(0, .ref (b + 163))]) (fun self ih  u => ?_) fu  u
  unfold m_X11_readProduct_L10
  refine sw_aload_n 0 dX11_readProduct_10 rfl rfl ?_
  refine sw_bipush (42 : Int32) dX11_readProduct_11 (by decide) ?_
  refine sw_callVi (As := [.int (42 : Int32)]) (k := 163) rfl dX11_readProduct_13 t_1338 mf_X11_isSign h0.1 q_cl11 (by decide) (Nat.le_of_ble_eq_true rfl) (fun l => c_X11_isSign l (42 : Int32) u h0) (fun r u_2 => ?_)
  refine SW.jn0 28 ([(0, .ref (b + 163))]) ([]) (fun  u_3 => ?_) (fun J28 hJ28 => ?_)
  · refine sw_aload_n 0 dX11_readProduct_28 rfl rfl ?_
    refine sw_bipush (42 : Int32) dX11_readProduct_29 (by decide) ?_
    refine sw_callVi (As := [.int (42 : Int32)]) (k := 163) rfl dX11_readProduct_31 t_1338 mf_X11_isSign h0.1 q_cl11 (by decide) (Nat.le_of_ble_eq_true rfl) (fun l => c_X11_isSign l (42 : Int32) u_3 h0) (fun r_4 u_5 => ?_)
    refine sw_istore_n (lv' := [(1, .int r_4), (0, .ref (b + 163))]) dX11_readProduct_34 rfl (by decide) rfl ?_
    refine sw_aload_n 1 dX11_readProduct_35 rfl rfl ?_
    refine sw_callVv (As := []) (k := 163) rfl dX11_readProduct_36 t_1286 mf_X11_reads h0.1 q_cl11 (by decide) (Nat.le_of_ble_eq_true rfl) (fun l => c_X11_reads l  u_5 h0) (fun _ u_6 => ?_)
    refine sw_iload_n 0 dX11_readProduct_39 rfl rfl ?_
    refine SW.jn0 57 ([(0, .ref (b + 163)), (1, .int r_4)]) ([]) (fun  u_7 => ?_) (fun J57 hJ57 => ?_)
    · refine sw_iload_n 1 dX11_readProduct_57 rfl rfl ?_
      refine SW.jn0 74 ([(0, .ref (b + 163)), (1, .int r_4)]) ([]) (fun  u_8 => ?_) (fun J74 hJ74 => ?_)
      · refine sw_aload_n 0 dX11_readProduct_74 rfl rfl ?_
        refine sw_callVi (As := []) (k := 163) rfl dX11_readProduct_75 t_1370 mf_X11_readUnit h0.1 q_cl11 (by decide) (Nat.le_of_ble_eq_true rfl) (fun l => c_X11_readUnit l  u_8 h0) (fun r_9 u_10 => ?_)
        refine sw_iconst (-1 : Int32) dX11_readProduct_78 (by decide) ?_
        refine sw_icmp_ne 84 dX11_readProduct_79 (by decide) ?_ ?_
        · exact SW.sub [] rfl (hK82  u_10)
        · refine sw_aload_n 0 dX11_readProduct_84 rfl rfl ?_
          refine sw_iload_n 1 dX11_readProduct_85 rfl rfl ?_
          refine SW.jn1 94 (fun s0 => [(0, .ref (b + 163))]) (fun s0 => [.int s0, .ref (b + 163)]) (fun s0 u_11 => ?_) (fun J94 hJ94 => ?_)
          · refine sw_iconst (0 : Int32) dX11_readProduct_94 (by decide) ?_
            refine sw_callVv (As := [.int s0, .int (0 : Int32)]) (k := 163) rfl dX11_readProduct_95 t_1378 mf_X11_emits h0.1 q_cl11 (by decide) (Nat.le_of_ble_eq_true rfl) (fun l => c_X11_emits l s0 (0 : Int32) u_11 h0) (fun _ u_12 => ?_)
            refine sw_goto 10 dX11_readProduct_98 (by decide) ?_
            exact SW.sub [0] rfl (ih  u_12)
          · refine sw_if_eq 93 dX11_readProduct_86 (by decide) ?_ ?_
            · refine sw_iconst (5 : Int32) dX11_readProduct_93 (by decide) ?_
              exact SW.sub [0] rfl (hJ94 (5 : Int32) u_10)
            · refine sw_iconst (4 : Int32) dX11_readProduct_89 (by decide) ?_
              refine sw_goto 94 dX11_readProduct_90 (by decide) ?_
              exact SW.sub [0] rfl (hJ94 (4 : Int32) u_10)
      · refine sw_if_ne 74 dX11_readProduct_58 (by decide) ?_ ?_
        · refine sw_aload_n 0 dX11_readProduct_61 rfl rfl ?_
          refine sw_geti q_cl11 18 dX11_readProduct_62 t_1063 (by decide) h0.1 rfl ?_
          refine sw_if_ne 74 dX11_readProduct_65 (by decide) ?_ ?_
          · exact SW.sub [0] rfl (hK68  u_7)
          · exact SW.sub [0, 1] rfl (hJ74  u_7)
        · exact SW.sub [0, 1] rfl (hJ74  u_7)
    · refine sw_if_ne 57 dX11_readProduct_40 (by decide) ?_ ?_
      · refine sw_aload_n 1 dX11_readProduct_43 rfl rfl ?_
        refine sw_geti q_cl11 17 dX11_readProduct_44 t_1062 (by decide) h0.1 rfl ?_
        refine sw_iconst (3 : Int32) dX11_readProduct_47 (by decide) ?_
        refine sw_icmp_eq 57 dX11_readProduct_48 (by decide) ?_ ?_
        · exact SW.sub [1, 0] rfl (hJ57  u_6)
        · exact SW.sub [1] rfl (hK51  u_6)
      · exact SW.sub [1, 0] rfl (hJ57  u_6)
  · refine sw_if_ne 28 dX11_readProduct_16 (by decide) ?_ ?_
    · refine sw_aload_n 0 dX11_readProduct_19 rfl rfl ?_
      refine sw_bipush (47 : Int32) dX11_readProduct_20 (by decide) ?_
      refine sw_callVi (As := [.int (47 : Int32)]) (k := 163) rfl dX11_readProduct_22 t_1338 mf_X11_isSign h0.1 q_cl11 (by decide) (Nat.le_of_ble_eq_true rfl) (fun l => c_X11_isSign l (47 : Int32) u_2 h0) (fun r_13 u_14 => ?_)
      refine sw_if_eq 101 dX11_readProduct_25 (by decide) ?_ ?_
      · exact SW.sub [] rfl (hK101  u_14)
      · exact SW.sub [0] rfl (hJ28  u_14)
    · exact SW.sub [0] rfl (hJ28  u_2)
set_option maxRecDepth 100000 in
theorem c_X11_readProduct (l : Launch) {ι : qI} {b : Nat}   (u : qS) (h0 : is_X11 ι) : CN l yX11_readProduct cX11_readProduct 2 (some .int) 5 ι b [.ref (b + 163)] u (m_X11_readProduct  u) := by
  refine CN.of_SW (own := RX11) rfl (by decide) (Nat.le_of_ble_eq_true rfl) [(0, .ref (b + 163))] rfl ?_
  unfold m_X11_readProduct
  refine sw_aload_n 0 dX11_readProduct_0 rfl rfl ?_
  refine sw_callVi (As := []) (k := 163) rfl dX11_readProduct_1 t_1370 mf_X11_readUnit h0.1 q_cl11 (by decide) (Nat.le_of_ble_eq_true rfl) (fun l => c_X11_readUnit l  u h0) (fun r u_1 => ?_)
  refine sw_iconst (-1 : Int32) dX11_readProduct_4 (by decide) ?_
  refine sw_icmp_ne 10 dX11_readProduct_5 (by decide) ?_ ?_
  · refine sw_iconst (-1 : Int32) dX11_readProduct_8 (by decide) ?_
    exact sw_iret dX11_readProduct_9
  · refine SW.sub (lv' := [(0, .ref (b + 163))]) [0] rfl ?_
    refine w_X11_readProduct_L10 h0 (fun u_15 => ?_) (fun u_18 => ?_) (fun u_21 => ?_) (fun u_22 => ?_) q_F  u_1
    · refine sw_aload_n 0 dX11_readProduct_51 rfl rfl ?_
      refine sw_iconst (1 : Int32) dX11_readProduct_52 (by decide) ?_
      refine sw_callVi (As := [.int (1 : Int32)]) (k := 163) rfl dX11_readProduct_53 t_1318 mf_X11_errs h0.1 q_cl11 (by decide) (Nat.le_of_ble_eq_true rfl) (fun l => c_X11_errs l (1 : Int32) u_15 h0) (fun r_16 u_17 => ?_)
      exact sw_iret dX11_readProduct_56
    · refine sw_aload_n 0 dX11_readProduct_68 rfl rfl ?_
      refine sw_iconst (2 : Int32) dX11_readProduct_69 (by decide) ?_
      refine sw_callVi (As := [.int (2 : Int32)]) (k := 163) rfl dX11_readProduct_70 t_1318 mf_X11_errs h0.1 q_cl11 (by decide) (Nat.le_of_ble_eq_true rfl) (fun l => c_X11_errs l (2 : Int32) u_18 h0) (fun r_19 u_20 => ?_)
      exact sw_iret dX11_readProduct_73
    · refine sw_iconst (-1 : Int32) dX11_readProduct_82 (by decide) ?_
      exact sw_iret dX11_readProduct_83
    · refine sw_iconst (0 : Int32) dX11_readProduct_101 (by decide) ?_
      exact sw_iret dX11_readProduct_102
set_option maxRecDepth 100000 in
theorem w_X11_readSum_L10 {ι : qI} {b : Nat}  (h0 : is_X11 ι)  {K55 : qS → qR} {K66 : qS → qR} (hK55 : ∀  (u : qS), SW RX11 cX11_readSum 2 (some .int) 6 ι b 55 [] [] u (K55  u)) (hK66 : ∀  (u : qS), SW RX11 cX11_readSum 2 (some .int) 6 ι b 66 [] [] u (K66  u)) (fu : Nat)  (u : qS) : SW RX11 cX11_readSum 2 (some .int) 6 ι b 10 [(0, .ref (b + 163))] [] u (q_it0 (m_X11_readSum_L10 K55 K66) fu  u) := by
  refine SW.it0 ([(0, .ref (b + 163))]) (fun self ih  u => ?_) fu  u
  unfold m_X11_readSum_L10
  refine sw_aload_n 0 dX11_readSum_10 rfl rfl ?_
  refine sw_bipush (43 : Int32) dX11_readSum_11 (by decide) ?_
  refine sw_callVi (As := [.int (43 : Int32)]) (k := 163) rfl dX11_readSum_13 t_1338 mf_X11_isSign h0.1 q_cl11 (by decide) (Nat.le_of_ble_eq_true rfl) (fun l => c_X11_isSign l (43 : Int32) u h0) (fun r u_2 => ?_)
  refine SW.jn0 28 ([(0, .ref (b + 163))]) ([]) (fun  u_3 => ?_) (fun J28 hJ28 => ?_)
  · refine sw_aload_n 0 dX11_readSum_28 rfl rfl ?_
    refine sw_geti q_cl11 18 dX11_readSum_29 t_1063 (by decide) h0.1 rfl ?_
    refine sw_bipush (43 : Int32) dX11_readSum_32 (by decide) ?_
    refine SW.jn1 42 (fun s0 => [(0, .ref (b + 163))]) (fun s0 => [.int s0]) (fun s0 u_4 => ?_) (fun J42 hJ42 => ?_)
    · refine sw_istore_n (lv' := [(1, .int s0), (0, .ref (b + 163))]) dX11_readSum_42 rfl (by decide) rfl ?_
      refine sw_aload_n 1 dX11_readSum_43 rfl rfl ?_
      refine sw_callVv (As := []) (k := 163) rfl dX11_readSum_44 t_1286 mf_X11_reads h0.1 q_cl11 (by decide) (Nat.le_of_ble_eq_true rfl) (fun l => c_X11_reads l  u_4 h0) (fun _ u_5 => ?_)
      refine sw_aload_n 1 dX11_readSum_47 rfl rfl ?_
      refine sw_callVi (As := []) (k := 163) rfl dX11_readSum_48 t_1366 mf_X11_readProduct h0.1 q_cl11 (by decide) (Nat.le_of_ble_eq_true rfl) (fun l => c_X11_readProduct l  u_5 h0) (fun r_6 u_7 => ?_)
      refine sw_iconst (-1 : Int32) dX11_readSum_51 (by decide) ?_
      refine sw_icmp_ne 57 dX11_readSum_52 (by decide) ?_ ?_
      · exact SW.sub [] rfl (hK55  u_7)
      · refine sw_aload_n 1 dX11_readSum_57 rfl rfl ?_
        refine sw_iload_n 0 dX11_readSum_58 rfl rfl ?_
        refine sw_iconst (0 : Int32) dX11_readSum_59 (by decide) ?_
        refine sw_callVv (As := [.int s0, .int (0 : Int32)]) (k := 163) rfl dX11_readSum_60 t_1378 mf_X11_emits h0.1 q_cl11 (by decide) (Nat.le_of_ble_eq_true rfl) (fun l => c_X11_emits l s0 (0 : Int32) u_7 h0) (fun _ u_8 => ?_)
        refine sw_goto 10 dX11_readSum_63 (by decide) ?_
        exact SW.sub [1] rfl (ih  u_8)
    · refine sw_icmp_ne 41 dX11_readSum_34 (by decide) ?_ ?_
      · refine sw_iconst (2 : Int32) dX11_readSum_37 (by decide) ?_
        refine sw_goto 42 dX11_readSum_38 (by decide) ?_
        exact SW.sub [0] rfl (hJ42 (2 : Int32) u_3)
      · refine sw_iconst (3 : Int32) dX11_readSum_41 (by decide) ?_
        exact SW.sub [0] rfl (hJ42 (3 : Int32) u_3)
  · refine sw_if_ne 28 dX11_readSum_16 (by decide) ?_ ?_
    · refine sw_aload_n 0 dX11_readSum_19 rfl rfl ?_
      refine sw_bipush (45 : Int32) dX11_readSum_20 (by decide) ?_
      refine sw_callVi (As := [.int (45 : Int32)]) (k := 163) rfl dX11_readSum_22 t_1338 mf_X11_isSign h0.1 q_cl11 (by decide) (Nat.le_of_ble_eq_true rfl) (fun l => c_X11_isSign l (45 : Int32) u_2 h0) (fun r_9 u_10 => ?_)
      refine sw_if_eq 66 dX11_readSum_25 (by decide) ?_ ?_
      · exact SW.sub [] rfl (hK66  u_10)
      · exact SW.sub [0] rfl (hJ28  u_10)
    · exact SW.sub [0] rfl (hJ28  u_2)
set_option maxRecDepth 100000 in
theorem c_X11_readSum (l : Launch) {ι : qI} {b : Nat}   (u : qS) (h0 : is_X11 ι) : CN l yX11_readSum cX11_readSum 2 (some .int) 6 ι b [.ref (b + 163)] u (m_X11_readSum  u) := by
  refine CN.of_SW (own := RX11) rfl (by decide) (Nat.le_of_ble_eq_true rfl) [(0, .ref (b + 163))] rfl ?_
  unfold m_X11_readSum
  refine sw_aload_n 0 dX11_readSum_0 rfl rfl ?_
  refine sw_callVi (As := []) (k := 163) rfl dX11_readSum_1 t_1366 mf_X11_readProduct h0.1 q_cl11 (by decide) (Nat.le_of_ble_eq_true rfl) (fun l => c_X11_readProduct l  u h0) (fun r u_1 => ?_)
  refine sw_iconst (-1 : Int32) dX11_readSum_4 (by decide) ?_
  refine sw_icmp_ne 10 dX11_readSum_5 (by decide) ?_ ?_
  · refine sw_iconst (-1 : Int32) dX11_readSum_8 (by decide) ?_
    exact sw_iret dX11_readSum_9
  · refine SW.sub (lv' := [(0, .ref (b + 163))]) [0] rfl ?_
    refine w_X11_readSum_L10 h0 (fun u_11 => ?_) (fun u_12 => ?_) q_F  u_1
    · refine sw_iconst (-1 : Int32) dX11_readSum_55 (by decide) ?_
      exact sw_iret dX11_readSum_56
    · refine sw_iconst (0 : Int32) dX11_readSum_66 (by decide) ?_
      exact sw_iret dX11_readSum_67
set_option maxRecDepth 100000 in
theorem c_X11_readCompared (l : Launch) {ι : qI} {b : Nat}   (u : qS) (h0 : is_X11 ι) : CN l yX11_readCompared cX11_readCompared 2 (some .int) 7 ι b [.ref (b + 163)] u (m_X11_readCompared  u) := by
  refine CN.of_SW (own := RX11) rfl (by decide) (Nat.le_of_ble_eq_true rfl) [(0, .ref (b + 163))] rfl ?_
  unfold m_X11_readCompared
  refine sw_aload_n 0 dX11_readCompared_0 rfl rfl ?_
  refine sw_callVi (As := []) (k := 163) rfl dX11_readCompared_1 t_1362 mf_X11_readSum h0.1 q_cl11 (by decide) (Nat.le_of_ble_eq_true rfl) (fun l => c_X11_readSum l  u h0) (fun r u_1 => ?_)
  refine sw_iconst (-1 : Int32) dX11_readCompared_4 (by decide) ?_
  refine sw_icmp_ne 10 dX11_readCompared_5 (by decide) ?_ ?_
  · refine sw_iconst (-1 : Int32) dX11_readCompared_8 (by decide) ?_
    exact sw_iret dX11_readCompared_9
  · refine sw_aload_n 0 dX11_readCompared_10 rfl rfl ?_
    refine sw_bipush (60 : Int32) dX11_readCompared_11 (by decide) ?_
    refine sw_callVi (As := [.int (60 : Int32)]) (k := 163) rfl dX11_readCompared_13 t_1338 mf_X11_isSign h0.1 q_cl11 (by decide) (Nat.le_of_ble_eq_true rfl) (fun l => c_X11_isSign l (60 : Int32) u_1 h0) (fun r_2 u_3 => ?_)
    refine SW.jn0 43 ([(0, .ref (b + 163))]) ([]) (fun  u_4 => ?_) (fun J43 hJ43 => ?_)
    · refine sw_aload_n 0 dX11_readCompared_43 rfl rfl ?_
      refine sw_geti q_cl11 18 dX11_readCompared_44 t_1063 (by decide) h0.1 rfl ?_
      refine sw_bipush (60 : Int32) dX11_readCompared_47 (by decide) ?_
      refine SW.jn1 73 (fun s0 => [(0, .ref (b + 163))]) (fun s0 => [.int s0]) (fun s0 u_5 => ?_) (fun J73 hJ73 => ?_)
      · refine sw_istore_n (lv' := [(1, .int s0), (0, .ref (b + 163))]) dX11_readCompared_73 rfl (by decide) rfl ?_
        refine sw_aload_n 1 dX11_readCompared_74 rfl rfl ?_
        refine sw_callVv (As := []) (k := 163) rfl dX11_readCompared_75 t_1286 mf_X11_reads h0.1 q_cl11 (by decide) (Nat.le_of_ble_eq_true rfl) (fun l => c_X11_reads l  u_5 h0) (fun _ u_6 => ?_)
        refine sw_aload_n 1 dX11_readCompared_78 rfl rfl ?_
        refine sw_callVi (As := []) (k := 163) rfl dX11_readCompared_79 t_1362 mf_X11_readSum h0.1 q_cl11 (by decide) (Nat.le_of_ble_eq_true rfl) (fun l => c_X11_readSum l  u_6 h0) (fun r_7 u_8 => ?_)
        refine sw_iconst (-1 : Int32) dX11_readCompared_82 (by decide) ?_
        refine sw_icmp_ne 88 dX11_readCompared_83 (by decide) ?_ ?_
        · refine sw_iconst (-1 : Int32) dX11_readCompared_86 (by decide) ?_
          exact sw_iret dX11_readCompared_87
        · refine sw_aload_n 1 dX11_readCompared_88 rfl rfl ?_
          refine sw_iload_n 0 dX11_readCompared_89 rfl rfl ?_
          refine sw_iconst (0 : Int32) dX11_readCompared_90 (by decide) ?_
          refine sw_callVv (As := [.int s0, .int (0 : Int32)]) (k := 163) rfl dX11_readCompared_91 t_1378 mf_X11_emits h0.1 q_cl11 (by decide) (Nat.le_of_ble_eq_true rfl) (fun l => c_X11_emits l s0 (0 : Int32) u_8 h0) (fun _ u_9 => ?_)
          refine sw_iconst (0 : Int32) dX11_readCompared_94 (by decide) ?_
          exact sw_iret dX11_readCompared_95
      · refine sw_icmp_ne 57 dX11_readCompared_49 (by decide) ?_ ?_
        · refine sw_bipush (6 : Int32) dX11_readCompared_52 (by decide) ?_
          refine sw_goto 73 dX11_readCompared_54 (by decide) ?_
          exact SW.sub [0] rfl (hJ73 (6 : Int32) u_4)
        · refine sw_aload_n 0 dX11_readCompared_57 rfl rfl ?_
          refine sw_geti q_cl11 18 dX11_readCompared_58 t_1063 (by decide) h0.1 rfl ?_
          refine sw_bipush (61 : Int32) dX11_readCompared_61 (by decide) ?_
          refine sw_icmp_ne 71 dX11_readCompared_63 (by decide) ?_ ?_
          · refine sw_bipush (7 : Int32) dX11_readCompared_66 (by decide) ?_
            refine sw_goto 73 dX11_readCompared_68 (by decide) ?_
            exact SW.sub [0] rfl (hJ73 (7 : Int32) u_4)
          · refine sw_bipush (8 : Int32) dX11_readCompared_71 (by decide) ?_
            exact SW.sub [0] rfl (hJ73 (8 : Int32) u_4)
    · refine sw_if_ne 43 dX11_readCompared_16 (by decide) ?_ ?_
      · refine sw_aload_n 0 dX11_readCompared_19 rfl rfl ?_
        refine sw_bipush (61 : Int32) dX11_readCompared_20 (by decide) ?_
        refine sw_callVi (As := [.int (61 : Int32)]) (k := 163) rfl dX11_readCompared_22 t_1338 mf_X11_isSign h0.1 q_cl11 (by decide) (Nat.le_of_ble_eq_true rfl) (fun l => c_X11_isSign l (61 : Int32) u_3 h0) (fun r_10 u_11 => ?_)
        refine sw_if_ne 43 dX11_readCompared_25 (by decide) ?_ ?_
        · refine sw_aload_n 0 dX11_readCompared_28 rfl rfl ?_
          refine sw_bipush (62 : Int32) dX11_readCompared_29 (by decide) ?_
          refine sw_callVi (As := [.int (62 : Int32)]) (k := 163) rfl dX11_readCompared_31 t_1338 mf_X11_isSign h0.1 q_cl11 (by decide) (Nat.le_of_ble_eq_true rfl) (fun l => c_X11_isSign l (62 : Int32) u_11 h0) (fun r_12 u_13 => ?_)
          refine sw_if_ne 43 dX11_readCompared_34 (by decide) ?_ ?_
          · refine sw_aload_n 0 dX11_readCompared_37 rfl rfl ?_
            refine sw_iconst (1 : Int32) dX11_readCompared_38 (by decide) ?_
            refine sw_callVi (As := [.int (1 : Int32)]) (k := 163) rfl dX11_readCompared_39 t_1318 mf_X11_errs h0.1 q_cl11 (by decide) (Nat.le_of_ble_eq_true rfl) (fun l => c_X11_errs l (1 : Int32) u_13 h0) (fun r_14 u_15 => ?_)
            exact sw_iret dX11_readCompared_42
          · exact SW.sub [0] rfl (hJ43  u_13)
        · exact SW.sub [0] rfl (hJ43  u_11)
      · exact SW.sub [0] rfl (hJ43  u_3)
set_option maxRecDepth 100000 in
theorem c_X11_waits (l : Launch) {ι : qI} {b : Nat}  (x1 : Int32) (u : qS) (h0 : is_X11 ι) : CN l yX11_waits cX11_waits 2 none 1 ι b [.ref (b + 163), .int x1] u (m_X11_waits x1 u) := by
  refine CN.of_SW (own := RX11) rfl (by decide) (Nat.le_of_ble_eq_true rfl) [(0, .ref (b + 163)), (1, .int x1)] rfl ?_
  unfold m_X11_waits
  refine sw_aload_n 0 dX11_waits_0 rfl rfl ?_
  refine sw_getr q_cl11 30 (r := 177) dX11_waits_1 t_1075 (by decide) h0.1 rfl ?_
  refine sw_aload_n 0 dX11_waits_4 rfl rfl ?_
  refine sw_geti q_cl11 31 dX11_waits_5 t_1076 (by decide) h0.1 rfl ?_
  refine sw_iload_n 1 dX11_waits_8 rfl rfl ?_
  refine sw_iast dX11_waits_9 h0.2.2.2.2.2.2.2.2.2.2.2.2.2.2.1 (fun u_1 => ?_)
  refine sw_aload_n 0 dX11_waits_10 rfl rfl ?_
  refine sw_aload_n 0 dX11_waits_11 rfl rfl ?_
  refine sw_geti q_cl11 31 dX11_waits_12 t_1076 (by decide) h0.1 rfl ?_
  refine sw_iconst (1 : Int32) dX11_waits_15 (by decide) ?_
  refine sw_iadd dX11_waits_16 ?_
  refine sw_puti q_cl11 31 dX11_waits_17 t_1076 (by decide) (by decide +kernel) rfl h0.1 rfl (fun u_2 => ?_)
  exact sw_vret dX11_waits_20
set_option maxRecDepth 100000 in
theorem w_X11_settles_L0 {ι : qI} {b : Nat}  (h0 : is_X11 ι) (x1 : Int32) {K57 : qS → qR} (hK57 : ∀  (u : qS), SW RX11 cX11_settles 2 none 2 ι b 57 [] [] u (K57  u)) (fu : Nat)  (u : qS) : SW RX11 cX11_settles 2 none 2 ι b 0 [(0, .ref (b + 163)), (1, .int x1)] [] u (q_it0 (m_X11_settles_L0 x1 K57) fu  u) := by
  refine SW.it0 ([(0, .ref (b + 163)), (1, .int x1)]) (fun self ih  u => ?_) fu  u
  unfold m_X11_settles_L0
  refine sw_aload_n 0 dX11_settles_0 rfl rfl ?_
  refine sw_geti q_cl11 31 dX11_settles_1 t_1076 (by decide) h0.1 rfl ?_
  refine sw_if_le 57 dX11_settles_4 (by decide) ?_ ?_
  · exact SW.sub [] rfl (hK57  u)
  · refine sw_aload_n 0 dX11_settles_7 rfl rfl ?_
    refine sw_getr q_cl11 30 (r := 177) dX11_settles_8 t_1075 (by decide) h0.1 rfl ?_
    refine sw_aload_n 0 dX11_settles_11 rfl rfl ?_
    refine sw_geti q_cl11 31 dX11_settles_12 t_1076 (by decide) h0.1 rfl ?_
    refine sw_iconst (1 : Int32) dX11_settles_15 (by decide) ?_
    refine sw_isub dX11_settles_16 ?_
    refine sw_iald dX11_settles_17 h0.2.2.2.2.2.2.2.2.2.2.2.2.2.2.1 (fun a => ?_)
    refine sw_iload_n 1 dX11_settles_18 rfl rfl ?_
    refine sw_icmp_ne 57 dX11_settles_19 (by decide) ?_ ?_
    · refine sw_aload_n 0 dX11_settles_22 rfl rfl ?_
      refine sw_aload_n 0 dX11_settles_23 rfl rfl ?_
      refine sw_geti q_cl11 31 dX11_settles_24 t_1076 (by decide) h0.1 rfl ?_
      refine sw_iconst (1 : Int32) dX11_settles_27 (by decide) ?_
      refine sw_isub dX11_settles_28 ?_
      refine sw_puti q_cl11 31 dX11_settles_29 t_1076 (by decide) (by decide +kernel) rfl h0.1 rfl (fun u_1 => ?_)
      refine sw_aload_n 0 dX11_settles_32 rfl rfl ?_
      refine sw_iload_n 1 dX11_settles_33 rfl rfl ?_
      refine sw_iconst (0 : Int32) dX11_settles_34 (by decide) ?_
      refine sw_callVv (As := [.int x1, .int (0 : Int32)]) (k := 163) rfl dX11_settles_35 t_1378 mf_X11_emits h0.1 q_cl11 (by decide) (Nat.le_of_ble_eq_true rfl) (fun l => c_X11_emits l x1 (0 : Int32) u_1 h0) (fun _ u_2 => ?_)
      refine sw_iload_n 1 dX11_settles_38 rfl rfl ?_
      refine sw_bipush (9 : Int32) dX11_settles_39 (by decide) ?_
      refine sw_icmp_ne 0 dX11_settles_41 (by decide) ?_ ?_
      · refine sw_aload_n 0 dX11_settles_44 rfl rfl ?_
        refine sw_aload_n 0 dX11_settles_45 rfl rfl ?_
        refine sw_geti q_cl11 29 dX11_settles_46 t_1074 (by decide) h0.1 rfl ?_
        refine sw_iconst (1 : Int32) dX11_settles_49 (by decide) ?_
        refine sw_isub dX11_settles_50 ?_
        refine sw_puti q_cl11 29 dX11_settles_51 t_1074 (by decide) (by decide +kernel) rfl h0.1 rfl (fun u_3 => ?_)
        refine sw_goto 0 dX11_settles_54 (by decide) ?_
        exact SW.sub [0, 1] rfl (ih  u_3)
      · exact SW.sub [0, 1] rfl (ih  u_2)
    · exact SW.sub [] rfl (hK57  u)
set_option maxRecDepth 100000 in
theorem c_X11_settles (l : Launch) {ι : qI} {b : Nat}  (x1 : Int32) (u : qS) (h0 : is_X11 ι) : CN l yX11_settles cX11_settles 2 none 2 ι b [.ref (b + 163), .int x1] u (m_X11_settles x1 u) := by
  refine CN.of_SW (own := RX11) rfl (by decide) (Nat.le_of_ble_eq_true rfl) [(0, .ref (b + 163)), (1, .int x1)] rfl ?_
  unfold m_X11_settles
  refine SW.sub (lv' := [(0, .ref (b + 163)), (1, .int x1)]) [0, 1] rfl ?_
  refine w_X11_settles_L0 h0 x1 (fun u_4 => ?_) q_F  u
  exact sw_vret dX11_settles_57
set_option maxRecDepth 100000 in
theorem w_X11_readAny_L9 {ι : qI} {b : Nat}  (h0 : is_X11 ι)  {K42 : qS → qR} {K96 : qS → qR} {K189 : qS → qR} {K200 : qS → qR} (hK42 : ∀  (u : qS), SW RX11 cX11_readAny 4 (some .int) 8 ι b 42 [(0, .ref (b + 163))] [] u (K42  u)) (hK96 : ∀  (u : qS), SW RX11 cX11_readAny 4 (some .int) 8 ι b 96 [] [] u (K96  u)) (hK189 : ∀  (u : qS), SW RX11 cX11_readAny 4 (some .int) 8 ι b 189 [] [] u (K189  u)) (hK200 : ∀  (u : qS), SW RX11 cX11_readAny 4 (some .int) 8 ι b 200 [(0, .ref (b + 163))] [] u (K200  u)) (fu : Nat) (x1 : Int32) (x2 : Int32) (u : qS) : SW RX11 cX11_readAny 4 (some .int) 8 ι b 9 [(0, .ref (b + 163)), (1, .int x1), (2, .int x2)] [] u (q_it2 (m_X11_readAny_L9 K42 K96 K189 K200) fu x1 x2 u) := by
  refine SW.it2 (fun x1 x2 => [(0, .ref (b + 163)), (1, .int x1), (2, .int x2)]) (fun self ih x1 x2 u => ?_) fu x1 x2 u
  unfold m_X11_readAny_L9
  refine sw_iload_n 2 dX11_readAny_9 rfl rfl ?_
  refine sw_if_eq 109 dX11_readAny_10 (by decide) ?_ ?_
  · refine sw_aload_n 0 dX11_readAny_109 rfl rfl ?_
    refine sw_iconst (5 : Int32) dX11_readAny_110 (by decide) ?_
    refine sw_callVi (As := [.int (5 : Int32)]) (k := 163) rfl dX11_readAny_111 t_1314 mf_X11_isWord h0.1 q_cl11 (by decide) (Nat.le_of_ble_eq_true rfl) (fun l => c_X11_isWord l (5 : Int32) u h0) (fun r u_2 => ?_)
    refine sw_if_eq 138 dX11_readAny_114 (by decide) ?_ ?_
    · refine sw_aload_n 0 dX11_readAny_138 rfl rfl ?_
      refine sw_iconst (4 : Int32) dX11_readAny_139 (by decide) ?_
      refine sw_callVi (As := [.int (4 : Int32)]) (k := 163) rfl dX11_readAny_140 t_1314 mf_X11_isWord h0.1 q_cl11 (by decide) (Nat.le_of_ble_eq_true rfl) (fun l => c_X11_isWord l (4 : Int32) u_2 h0) (fun r_3 u_4 => ?_)
      refine sw_if_eq 173 dX11_readAny_143 (by decide) ?_ ?_
      · refine sw_aload_n 0 dX11_readAny_173 rfl rfl ?_
        refine sw_bipush (10 : Int32) dX11_readAny_174 (by decide) ?_
        refine sw_callVv (As := [.int (10 : Int32)]) (k := 163) rfl dX11_readAny_176 t_1394 mf_X11_settles h0.1 q_cl11 (by decide) (Nat.le_of_ble_eq_true rfl) (fun l => c_X11_settles l (10 : Int32) u_4 h0) (fun _ u_5 => ?_)
        refine sw_aload_n 0 dX11_readAny_179 rfl rfl ?_
        refine sw_bipush (11 : Int32) dX11_readAny_180 (by decide) ?_
        refine sw_callVv (As := [.int (11 : Int32)]) (k := 163) rfl dX11_readAny_182 t_1394 mf_X11_settles h0.1 q_cl11 (by decide) (Nat.le_of_ble_eq_true rfl) (fun l => c_X11_settles l (11 : Int32) u_5 h0) (fun _ u_6 => ?_)
        refine sw_iload_n 1 dX11_readAny_185 rfl rfl ?_
        refine sw_if_ne 191 dX11_readAny_186 (by decide) ?_ ?_
        · exact SW.sub [] rfl (hK189  u_6)
        · refine sw_aload_n 0 dX11_readAny_191 rfl rfl ?_
          refine sw_bipush (41 : Int32) dX11_readAny_192 (by decide) ?_
          refine sw_callVi (As := [.int (41 : Int32)]) (k := 163) rfl dX11_readAny_194 t_1338 mf_X11_isSign h0.1 q_cl11 (by decide) (Nat.le_of_ble_eq_true rfl) (fun l => c_X11_isSign l (41 : Int32) u_6 h0) (fun r_7 u_8 => ?_)
          refine sw_if_ne 206 dX11_readAny_197 (by decide) ?_ ?_
          · exact SW.sub [0] rfl (hK200  u_8)
          · refine sw_aload_n 0 dX11_readAny_206 rfl rfl ?_
            refine sw_aload_n 0 dX11_readAny_207 rfl rfl ?_
            refine sw_geti q_cl11 31 dX11_readAny_208 t_1076 (by decide) h0.1 rfl ?_
            refine sw_iconst (1 : Int32) dX11_readAny_211 (by decide) ?_
            refine sw_isub dX11_readAny_212 ?_
            refine sw_puti q_cl11 31 dX11_readAny_213 t_1076 (by decide) (by decide +kernel) rfl h0.1 rfl (fun u_9 => ?_)
            refine sw_iload_n 1 dX11_readAny_216 rfl rfl ?_
            refine sw_iconst (1 : Int32) dX11_readAny_217 (by decide) ?_
            refine sw_isub dX11_readAny_218 ?_
            refine SW.name (fun y1 => ?_)
            refine sw_istore_n (lv' := [(1, .int y1), (0, .ref (b + 163)), (2, .int x2)]) dX11_readAny_219 rfl (by decide) rfl ?_
            refine sw_aload_n 1 dX11_readAny_220 rfl rfl ?_
            refine sw_aload_n 1 dX11_readAny_221 rfl rfl ?_
            refine sw_geti q_cl11 29 dX11_readAny_222 t_1074 (by decide) h0.1 rfl ?_
            refine sw_iconst (1 : Int32) dX11_readAny_225 (by decide) ?_
            refine sw_isub dX11_readAny_226 ?_
            refine sw_puti q_cl11 29 dX11_readAny_227 t_1074 (by decide) (by decide +kernel) rfl h0.1 rfl (fun u_10 => ?_)
            refine sw_aload_n 1 dX11_readAny_230 rfl rfl ?_
            refine sw_bipush (9 : Int32) dX11_readAny_231 (by decide) ?_
            refine sw_callVv (As := [.int (9 : Int32)]) (k := 163) rfl dX11_readAny_233 t_1394 mf_X11_settles h0.1 q_cl11 (by decide) (Nat.le_of_ble_eq_true rfl) (fun l => c_X11_settles l (9 : Int32) u_10 h0) (fun _ u_11 => ?_)
            refine sw_aload_n 1 dX11_readAny_236 rfl rfl ?_
            refine sw_callVv (As := []) (k := 163) rfl dX11_readAny_237 t_1286 mf_X11_reads h0.1 q_cl11 (by decide) (Nat.le_of_ble_eq_true rfl) (fun l => c_X11_reads l  u_11 h0) (fun _ u_12 => ?_)
            refine sw_goto 9 dX11_readAny_240 (by decide) ?_
            exact SW.sub [1, 0, 2] rfl (ih y1 x2 u_12)
      · refine sw_aload_n 0 dX11_readAny_146 rfl rfl ?_
        refine sw_bipush (10 : Int32) dX11_readAny_147 (by decide) ?_
        refine sw_callVv (As := [.int (10 : Int32)]) (k := 163) rfl dX11_readAny_149 t_1394 mf_X11_settles h0.1 q_cl11 (by decide) (Nat.le_of_ble_eq_true rfl) (fun l => c_X11_settles l (10 : Int32) u_4 h0) (fun _ u_13 => ?_)
        refine sw_aload_n 0 dX11_readAny_152 rfl rfl ?_
        refine sw_bipush (11 : Int32) dX11_readAny_153 (by decide) ?_
        refine sw_callVv (As := [.int (11 : Int32)]) (k := 163) rfl dX11_readAny_155 t_1394 mf_X11_settles h0.1 q_cl11 (by decide) (Nat.le_of_ble_eq_true rfl) (fun l => c_X11_settles l (11 : Int32) u_13 h0) (fun _ u_14 => ?_)
        refine sw_aload_n 0 dX11_readAny_158 rfl rfl ?_
        refine sw_bipush (11 : Int32) dX11_readAny_159 (by decide) ?_
        refine sw_callVv (As := [.int (11 : Int32)]) (k := 163) rfl dX11_readAny_161 t_1386 mf_X11_waits h0.1 q_cl11 (by decide) (Nat.le_of_ble_eq_true rfl) (fun l => c_X11_waits l (11 : Int32) u_14 h0) (fun _ u_15 => ?_)
        refine sw_aload_n 0 dX11_readAny_164 rfl rfl ?_
        refine sw_callVv (As := []) (k := 163) rfl dX11_readAny_165 t_1286 mf_X11_reads h0.1 q_cl11 (by decide) (Nat.le_of_ble_eq_true rfl) (fun l => c_X11_reads l  u_15 h0) (fun _ u_16 => ?_)
        refine sw_iconst (1 : Int32) dX11_readAny_168 (by decide) ?_
        refine sw_istore_n (lv' := [(2, .int (1 : Int32)), (0, .ref (b + 163)), (1, .int x1)]) dX11_readAny_169 rfl (by decide) rfl ?_
        refine sw_goto 9 dX11_readAny_170 (by decide) ?_
        exact SW.sub [1, 2, 0] rfl (ih x1 (1 : Int32) u_16)
    · refine sw_aload_n 0 dX11_readAny_117 rfl rfl ?_
      refine sw_bipush (10 : Int32) dX11_readAny_118 (by decide) ?_
      refine sw_callVv (As := [.int (10 : Int32)]) (k := 163) rfl dX11_readAny_120 t_1394 mf_X11_settles h0.1 q_cl11 (by decide) (Nat.le_of_ble_eq_true rfl) (fun l => c_X11_settles l (10 : Int32) u_2 h0) (fun _ u_17 => ?_)
      refine sw_aload_n 0 dX11_readAny_123 rfl rfl ?_
      refine sw_bipush (10 : Int32) dX11_readAny_124 (by decide) ?_
      refine sw_callVv (As := [.int (10 : Int32)]) (k := 163) rfl dX11_readAny_126 t_1386 mf_X11_waits h0.1 q_cl11 (by decide) (Nat.le_of_ble_eq_true rfl) (fun l => c_X11_waits l (10 : Int32) u_17 h0) (fun _ u_18 => ?_)
      refine sw_aload_n 0 dX11_readAny_129 rfl rfl ?_
      refine sw_callVv (As := []) (k := 163) rfl dX11_readAny_130 t_1286 mf_X11_reads h0.1 q_cl11 (by decide) (Nat.le_of_ble_eq_true rfl) (fun l => c_X11_reads l  u_18 h0) (fun _ u_19 => ?_)
      refine sw_iconst (1 : Int32) dX11_readAny_133 (by decide) ?_
      refine sw_istore_n (lv' := [(2, .int (1 : Int32)), (0, .ref (b + 163)), (1, .int x1)]) dX11_readAny_134 rfl (by decide) rfl ?_
      refine sw_goto 9 dX11_readAny_135 (by decide) ?_
      exact SW.sub [1, 2, 0] rfl (ih x1 (1 : Int32) u_19)
  · refine sw_aload_n 0 dX11_readAny_13 rfl rfl ?_
    refine sw_bipush (6 : Int32) dX11_readAny_14 (by decide) ?_
    refine sw_callVi (As := [.int (6 : Int32)]) (k := 163) rfl dX11_readAny_16 t_1314 mf_X11_isWord h0.1 q_cl11 (by decide) (Nat.le_of_ble_eq_true rfl) (fun l => c_X11_isWord l (6 : Int32) u h0) (fun r_20 u_21 => ?_)
    refine sw_istore_n (lv' := [(3, .int r_20), (0, .ref (b + 163)), (1, .int x1), (2, .int x2)]) dX11_readAny_19 rfl (by decide) rfl ?_
    refine sw_iload_n 0 dX11_readAny_20 rfl rfl ?_
    refine SW.jn0 33 ([(0, .ref (b + 163)), (1, .int x1), (2, .int x2), (3, .int r_20)]) ([]) (fun  u_22 => ?_) (fun J33 hJ33 => ?_)
    · refine sw_aload_n 0 dX11_readAny_33 rfl rfl ?_
      refine sw_geti q_cl11 29 dX11_readAny_34 t_1074 (by decide) h0.1 rfl ?_
      refine sw_bipush (8 : Int32) dX11_readAny_37 (by decide) ?_
      refine sw_icmp_ne 48 dX11_readAny_39 (by decide) ?_ ?_
      · exact SW.sub [0] rfl (hK42  u_22)
      · refine sw_aload_n 0 dX11_readAny_48 rfl rfl ?_
        refine sw_aload_n 0 dX11_readAny_49 rfl rfl ?_
        refine sw_geti q_cl11 29 dX11_readAny_50 t_1074 (by decide) h0.1 rfl ?_
        refine sw_iconst (1 : Int32) dX11_readAny_53 (by decide) ?_
        refine sw_iadd dX11_readAny_54 ?_
        refine sw_puti q_cl11 29 dX11_readAny_55 t_1074 (by decide) (by decide +kernel) rfl h0.1 rfl (fun u_23 => ?_)
        refine sw_iload_n 3 dX11_readAny_58 rfl rfl ?_
        refine SW.jn1 66 (fun x1_24 => [(0, .ref (b + 163)), (1, .int x1_24), (2, .int x2), (3, .int r_20)]) (fun x1_24 => []) (fun x1_24 u_25 => ?_) (fun J66 hJ66 => ?_)
        · refine sw_aload_n 0 dX11_readAny_66 rfl rfl ?_
          refine sw_iload_n 3 dX11_readAny_67 rfl rfl ?_
          refine SW.jn1 78 (fun s0 => [(0, .ref (b + 163)), (1, .int x1_24), (2, .int x2)]) (fun s0 => [.int s0, .ref (b + 163)]) (fun s0 u_26 => ?_) (fun J78 hJ78 => ?_)
          · refine sw_callVv (As := [.int s0]) (k := 163) rfl dX11_readAny_78 t_1386 mf_X11_waits h0.1 q_cl11 (by decide) (Nat.le_of_ble_eq_true rfl) (fun l => c_X11_waits l s0 u_26 h0) (fun _ u_27 => ?_)
            refine sw_aload_n 0 dX11_readAny_81 rfl rfl ?_
            refine sw_callVv (As := []) (k := 163) rfl dX11_readAny_82 t_1286 mf_X11_reads h0.1 q_cl11 (by decide) (Nat.le_of_ble_eq_true rfl) (fun l => c_X11_reads l  u_27 h0) (fun _ u_28 => ?_)
            refine sw_goto 9 dX11_readAny_85 (by decide) ?_
            exact SW.sub [0, 1, 2] rfl (ih x1_24 x2 u_28)
          · refine sw_if_eq 76 dX11_readAny_68 (by decide) ?_ ?_
            · refine sw_bipush (12 : Int32) dX11_readAny_76 (by decide) ?_
              exact SW.sub [0, 1, 2] rfl (hJ78 (12 : Int32) u_25)
            · refine sw_bipush (9 : Int32) dX11_readAny_71 (by decide) ?_
              refine sw_goto 78 dX11_readAny_73 (by decide) ?_
              exact SW.sub [0, 1, 2] rfl (hJ78 (9 : Int32) u_25)
        · refine sw_if_ne 66 dX11_readAny_59 (by decide) ?_ ?_
          · refine sw_iload_n 1 dX11_readAny_62 rfl rfl ?_
            refine sw_iconst (1 : Int32) dX11_readAny_63 (by decide) ?_
            refine sw_iadd dX11_readAny_64 ?_
            refine SW.name (fun y1_29 => ?_)
            refine sw_istore_n (lv' := [(1, .int y1_29), (0, .ref (b + 163)), (2, .int x2), (3, .int r_20)]) dX11_readAny_65 rfl (by decide) rfl ?_
            exact SW.sub [1, 0, 2, 3] rfl (hJ66 y1_29 u_23)
          · exact SW.sub [0, 1, 2, 3] rfl (hJ66 x1 u_23)
    · refine sw_if_ne 33 dX11_readAny_21 (by decide) ?_ ?_
      · refine sw_aload_n 1 dX11_readAny_24 rfl rfl ?_
        refine sw_bipush (40 : Int32) dX11_readAny_25 (by decide) ?_
        refine sw_callVi (As := [.int (40 : Int32)]) (k := 163) rfl dX11_readAny_27 t_1338 mf_X11_isSign h0.1 q_cl11 (by decide) (Nat.le_of_ble_eq_true rfl) (fun l => c_X11_isSign l (40 : Int32) u_21 h0) (fun r_30 u_31 => ?_)
        refine sw_if_eq 88 dX11_readAny_30 (by decide) ?_ ?_
        · refine sw_aload_n 1 dX11_readAny_88 rfl rfl ?_
          refine sw_callVi (As := []) (k := 163) rfl dX11_readAny_89 t_1390 mf_X11_readCompared h0.1 q_cl11 (by decide) (Nat.le_of_ble_eq_true rfl) (fun l => c_X11_readCompared l  u_31 h0) (fun r_32 u_33 => ?_)
          refine sw_iconst (-1 : Int32) dX11_readAny_92 (by decide) ?_
          refine sw_icmp_ne 98 dX11_readAny_93 (by decide) ?_ ?_
          · exact SW.sub [] rfl (hK96  u_33)
          · refine sw_aload_n 1 dX11_readAny_98 rfl rfl ?_
            refine sw_bipush (9 : Int32) dX11_readAny_99 (by decide) ?_
            refine sw_callVv (As := [.int (9 : Int32)]) (k := 163) rfl dX11_readAny_101 t_1394 mf_X11_settles h0.1 q_cl11 (by decide) (Nat.le_of_ble_eq_true rfl) (fun l => c_X11_settles l (9 : Int32) u_33 h0) (fun _ u_34 => ?_)
            refine sw_iconst (0 : Int32) dX11_readAny_104 (by decide) ?_
            refine sw_istore_n (lv' := [(2, .int (0 : Int32)), (3, .int r_20), (0, .ref (b + 163)), (1, .int x1)]) dX11_readAny_105 rfl (by decide) rfl ?_
            refine sw_goto 9 dX11_readAny_106 (by decide) ?_
            exact SW.sub [2, 3, 0] rfl (ih x1 (0 : Int32) u_34)
        · exact SW.sub [1, 2, 3, 0] rfl (hJ33  u_31)
      · exact SW.sub [1, 2, 3, 0] rfl (hJ33  u_21)
set_option maxRecDepth 100000 in
theorem c_X11_readAny (l : Launch) {ι : qI} {b : Nat}   (u : qS) (h0 : is_X11 ι) : CN l yX11_readAny cX11_readAny 4 (some .int) 8 ι b [.ref (b + 163)] u (m_X11_readAny  u) := by
  refine CN.of_SW (own := RX11) rfl (by decide) (Nat.le_of_ble_eq_true rfl) [(0, .ref (b + 163))] rfl ?_
  unfold m_X11_readAny
  refine sw_iconst (0 : Int32) dX11_readAny_0 (by decide) ?_
  refine sw_istore_n (lv' := [(1, .int (0 : Int32)), (0, .ref (b + 163))]) dX11_readAny_1 rfl (by decide) rfl ?_
  refine sw_aload_n 1 dX11_readAny_2 rfl rfl ?_
  refine sw_iconst (0 : Int32) dX11_readAny_3 (by decide) ?_
  refine sw_puti q_cl11 31 dX11_readAny_4 t_1076 (by decide) (by decide +kernel) rfl h0.1 rfl (fun u_1 => ?_)
  refine sw_iconst (1 : Int32) dX11_readAny_7 (by decide) ?_
  refine sw_istore_n (lv' := [(2, .int (1 : Int32)), (1, .int (0 : Int32)), (0, .ref (b + 163))]) dX11_readAny_8 rfl (by decide) rfl ?_
  refine SW.sub (lv' := [(0, .ref (b + 163)), (1, .int (0 : Int32)), (2, .int (1 : Int32))]) [2, 1, 0] rfl ?_
  refine w_X11_readAny_L9 h0 (fun u_35 => ?_) (fun u_37 => ?_) (fun u_38 => ?_) (fun u_39 => ?_) q_F (0 : Int32) (1 : Int32) u_1
  · refine sw_aload_n 0 dX11_readAny_42 rfl rfl ?_
    refine sw_iconst (3 : Int32) dX11_readAny_43 (by decide) ?_
    refine sw_callVi (As := [.int (3 : Int32)]) (k := 163) rfl dX11_readAny_44 t_1318 mf_X11_errs h0.1 q_cl11 (by decide) (Nat.le_of_ble_eq_true rfl) (fun l => c_X11_errs l (3 : Int32) u_35 h0) (fun r u_36 => ?_)
    exact sw_iret dX11_readAny_47
  · refine sw_iconst (-1 : Int32) dX11_readAny_96 (by decide) ?_
    exact sw_iret dX11_readAny_97
  · refine sw_iconst (0 : Int32) dX11_readAny_189 (by decide) ?_
    exact sw_iret dX11_readAny_190
  · refine sw_aload_n 0 dX11_readAny_200 rfl rfl ?_
    refine sw_iconst (1 : Int32) dX11_readAny_201 (by decide) ?_
    refine sw_callVi (As := [.int (1 : Int32)]) (k := 163) rfl dX11_readAny_202 t_1318 mf_X11_errs h0.1 q_cl11 (by decide) (Nat.le_of_ble_eq_true rfl) (fun l => c_X11_errs l (1 : Int32) u_39 h0) (fun r_40 u_41 => ?_)
    exact sw_iret dX11_readAny_205
set_option maxRecDepth 100000 in
theorem c_X11_isLineWord (l : Launch) {ι : qI} {b : Nat}   (u : qS) (h0 : is_X11 ι) : CN l yX11_isLineWord cX11_isLineWord 1 (some .boolean) 2 ι b [.ref (b + 163)] u (m_X11_isLineWord  u) := by
  refine CN.of_SW (own := RX11) rfl (by decide) (Nat.le_of_ble_eq_true rfl) [(0, .ref (b + 163))] rfl ?_
  unfold m_X11_isLineWord
  refine sw_aload_n 0 dX11_isLineWord_0 rfl rfl ?_
  refine sw_iconst (0 : Int32) dX11_isLineWord_1 (by decide) ?_
  refine sw_callVi (As := [.int (0 : Int32)]) (k := 163) rfl dX11_isLineWord_2 t_1314 mf_X11_isWord h0.1 q_cl11 (by decide) (Nat.le_of_ble_eq_true rfl) (fun l => c_X11_isWord l (0 : Int32) u h0) (fun r u_1 => ?_)
  refine SW.jn0 24 ([]) ([]) (fun  u_2 => ?_) (fun J24 hJ24 => ?_)
  · refine sw_iconst (1 : Int32) dX11_isLineWord_24 (by decide) ?_
    refine sw_goto 29 dX11_isLineWord_25 (by decide) ?_
    exact sw_zret1 dX11_isLineWord_29
  · refine sw_if_ne 24 dX11_isLineWord_5 (by decide) ?_ ?_
    · refine sw_aload_n 0 dX11_isLineWord_8 rfl rfl ?_
      refine sw_iconst (1 : Int32) dX11_isLineWord_9 (by decide) ?_
      refine sw_callVi (As := [.int (1 : Int32)]) (k := 163) rfl dX11_isLineWord_10 t_1314 mf_X11_isWord h0.1 q_cl11 (by decide) (Nat.le_of_ble_eq_true rfl) (fun l => c_X11_isWord l (1 : Int32) u_1 h0) (fun r_3 u_4 => ?_)
      refine sw_if_ne 24 dX11_isLineWord_13 (by decide) ?_ ?_
      · refine sw_aload_n 0 dX11_isLineWord_16 rfl rfl ?_
        refine sw_iconst (2 : Int32) dX11_isLineWord_17 (by decide) ?_
        refine sw_callVi (As := [.int (2 : Int32)]) (k := 163) rfl dX11_isLineWord_18 t_1314 mf_X11_isWord h0.1 q_cl11 (by decide) (Nat.le_of_ble_eq_true rfl) (fun l => c_X11_isWord l (2 : Int32) u_4 h0) (fun r_5 u_6 => ?_)
        refine sw_if_eq 28 dX11_isLineWord_21 (by decide) ?_ ?_
        · refine sw_iconst (0 : Int32) dX11_isLineWord_28 (by decide) ?_
          exact sw_zret0 dX11_isLineWord_29
        · exact SW.sub [] rfl (hJ24  u_6)
      · exact SW.sub [] rfl (hJ24  u_4)
    · exact SW.sub [] rfl (hJ24  u_1)
set_option maxRecDepth 100000 in
theorem w_X11_readLaw_L2 {ι : qI} {b : Nat}  (h0 : is_X11 ι)  {K15 : qS → qR} {K58 : qS → qR} {K90 : qS → qR} {K111 : qS → qR} {K128 : Int32 → qS → qR} (hK15 : ∀  (u : qS), SW RX11 cX11_readLaw 3 (some .int) 9 ι b 15 [(0, .ref (b + 163))] [] u (K15  u)) (hK58 : ∀  (u : qS), SW RX11 cX11_readLaw 3 (some .int) 9 ι b 58 [] [] u (K58  u)) (hK90 : ∀  (u : qS), SW RX11 cX11_readLaw 3 (some .int) 9 ι b 90 [] [] u (K90  u)) (hK111 : ∀  (u : qS), SW RX11 cX11_readLaw 3 (some .int) 9 ι b 111 [(0, .ref (b + 163))] [] u (K111  u)) (hK128 : ∀ (e1 : Int32) (u : qS), SW RX11 cX11_readLaw 3 (some .int) 9 ι b 128 [(0, .ref (b + 163)), (1, .int e1)] [] u (K128 e1 u)) (fu : Nat) (x1 : Int32) (u : qS) : SW RX11 cX11_readLaw 3 (some .int) 9 ι b 2 [(0, .ref (b + 163)), (1, .int x1)] [] u (q_it1 (m_X11_readLaw_L2 K15 K58 K90 K111 K128) fu x1 u) := by
  refine SW.it1 (fun x1 => [(0, .ref (b + 163)), (1, .int x1)]) (fun self ih x1 u => ?_) fu x1 u
  unfold m_X11_readLaw_L2
  refine sw_aload_n 0 dX11_readLaw_2 rfl rfl ?_
  refine sw_callVi (As := []) (k := 163) rfl dX11_readLaw_3 t_1358 mf_X11_isLineWord h0.1 q_cl11 (by decide) (Nat.le_of_ble_eq_true rfl) (fun l => c_X11_isLineWord l  u h0) (fun r u_1 => ?_)
  refine sw_if_eq 128 dX11_readLaw_6 (by decide) ?_ ?_
  · exact SW.sub [0, 1] rfl (hK128 x1 u_1)
  · refine sw_iload_n 1 dX11_readLaw_9 rfl rfl ?_
    refine sw_bipush (16 : Int32) dX11_readLaw_10 (by decide) ?_
    refine sw_icmp_ne 21 dX11_readLaw_12 (by decide) ?_ ?_
    · exact SW.sub [0] rfl (hK15  u_1)
    · refine sw_bipush (32 : Int32) dX11_readLaw_21 (by decide) ?_
      refine sw_iload_n 1 dX11_readLaw_23 rfl rfl ?_
      refine sw_iadd dX11_readLaw_24 ?_
      refine SW.name (fun y2 => ?_)
      refine sw_istore_n (lv' := [(2, .int y2), (0, .ref (b + 163)), (1, .int x1)]) dX11_readLaw_25 rfl (by decide) rfl ?_
      refine sw_aload_n 1 dX11_readLaw_26 rfl rfl ?_
      refine sw_getr q_cl11 21 (r := 171) dX11_readLaw_27 t_1066 (by decide) h0.1 rfl ?_
      refine sw_iload_n 0 dX11_readLaw_30 rfl rfl ?_
      refine sw_aload_n 1 dX11_readLaw_31 rfl rfl ?_
      refine sw_geti q_cl11 18 dX11_readLaw_32 t_1063 (by decide) h0.1 rfl ?_
      refine sw_iast dX11_readLaw_35 h0.2.2.2.2.2.2.2.2.1 (fun u_2 => ?_)
      refine sw_aload_n 1 dX11_readLaw_36 rfl rfl ?_
      refine sw_callVv (As := []) (k := 163) rfl dX11_readLaw_37 t_1286 mf_X11_reads h0.1 q_cl11 (by decide) (Nat.le_of_ble_eq_true rfl) (fun l => c_X11_reads l  u_2 h0) (fun _ u_3 => ?_)
      refine sw_aload_n 1 dX11_readLaw_40 rfl rfl ?_
      refine sw_getr q_cl11 22 (r := 172) dX11_readLaw_41 t_1067 (by decide) h0.1 rfl ?_
      refine sw_iload_n 0 dX11_readLaw_44 rfl rfl ?_
      refine sw_aload_n 1 dX11_readLaw_45 rfl rfl ?_
      refine sw_geti q_cl11 28 dX11_readLaw_46 t_1073 (by decide) h0.1 rfl ?_
      refine sw_iast dX11_readLaw_49 h0.2.2.2.2.2.2.2.2.2.1 (fun u_4 => ?_)
      refine sw_aload_n 1 dX11_readLaw_50 rfl rfl ?_
      refine sw_callVi (As := []) (k := 163) rfl dX11_readLaw_51 t_1362 mf_X11_readSum h0.1 q_cl11 (by decide) (Nat.le_of_ble_eq_true rfl) (fun l => c_X11_readSum l  u_4 h0) (fun r_5 u_6 => ?_)
      refine sw_iconst (-1 : Int32) dX11_readLaw_54 (by decide) ?_
      refine sw_icmp_ne 60 dX11_readLaw_55 (by decide) ?_ ?_
      · exact SW.sub [] rfl (hK58  u_6)
      · refine sw_aload_n 1 dX11_readLaw_60 rfl rfl ?_
        refine sw_getr q_cl11 23 (r := 173) dX11_readLaw_61 t_1068 (by decide) h0.1 rfl ?_
        refine sw_iload_n 0 dX11_readLaw_64 rfl rfl ?_
        refine sw_aload_n 1 dX11_readLaw_65 rfl rfl ?_
        refine sw_geti q_cl11 28 dX11_readLaw_66 t_1073 (by decide) h0.1 rfl ?_
        refine sw_iast dX11_readLaw_69 h0.2.2.2.2.2.2.2.2.2.2.1 (fun u_7 => ?_)
        refine sw_aload_n 1 dX11_readLaw_70 rfl rfl ?_
        refine sw_iconst (3 : Int32) dX11_readLaw_71 (by decide) ?_
        refine sw_callVi (As := [.int (3 : Int32)]) (k := 163) rfl dX11_readLaw_72 t_1314 mf_X11_isWord h0.1 q_cl11 (by decide) (Nat.le_of_ble_eq_true rfl) (fun l => c_X11_isWord l (3 : Int32) u_7 h0) (fun r_8 u_9 => ?_)
        refine SW.jn0 92 ([(0, .ref (b + 163)), (1, .int x1), (2, .int y2)]) ([]) (fun  u_10 => ?_) (fun J92 hJ92 => ?_)
        · refine sw_aload_n 0 dX11_readLaw_92 rfl rfl ?_
          refine sw_getr q_cl11 24 (r := 174) dX11_readLaw_93 t_1069 (by decide) h0.1 rfl ?_
          refine sw_iload_n 2 dX11_readLaw_96 rfl rfl ?_
          refine sw_aload_n 0 dX11_readLaw_97 rfl rfl ?_
          refine sw_geti q_cl11 28 dX11_readLaw_98 t_1073 (by decide) h0.1 rfl ?_
          refine sw_iast dX11_readLaw_101 h0.2.2.2.2.2.2.2.2.2.2.2.1 (fun u_11 => ?_)
          refine sw_aload_n 0 dX11_readLaw_102 rfl rfl ?_
          refine sw_bipush (59 : Int32) dX11_readLaw_103 (by decide) ?_
          refine sw_callVi (As := [.int (59 : Int32)]) (k := 163) rfl dX11_readLaw_105 t_1338 mf_X11_isSign h0.1 q_cl11 (by decide) (Nat.le_of_ble_eq_true rfl) (fun l => c_X11_isSign l (59 : Int32) u_11 h0) (fun r_12 u_13 => ?_)
          refine sw_if_ne 117 dX11_readLaw_108 (by decide) ?_ ?_
          · exact SW.sub [0] rfl (hK111  u_13)
          · refine sw_aload_n 0 dX11_readLaw_117 rfl rfl ?_
            refine sw_callVv (As := []) (k := 163) rfl dX11_readLaw_118 t_1286 mf_X11_reads h0.1 q_cl11 (by decide) (Nat.le_of_ble_eq_true rfl) (fun l => c_X11_reads l  u_13 h0) (fun _ u_14 => ?_)
            refine sw_iload_n 1 dX11_readLaw_121 rfl rfl ?_
            refine sw_iconst (1 : Int32) dX11_readLaw_122 (by decide) ?_
            refine sw_iadd dX11_readLaw_123 ?_
            refine SW.name (fun y1 => ?_)
            refine sw_istore_n (lv' := [(1, .int y1), (0, .ref (b + 163)), (2, .int y2)]) dX11_readLaw_124 rfl (by decide) rfl ?_
            refine sw_goto 2 dX11_readLaw_125 (by decide) ?_
            exact SW.sub [1, 0] rfl (ih y1 u_14)
        · refine sw_if_eq 92 dX11_readLaw_75 (by decide) ?_ ?_
          · exact SW.sub [1, 2, 0] rfl (hJ92  u_9)
          · refine sw_aload_n 1 dX11_readLaw_78 rfl rfl ?_
            refine sw_callVv (As := []) (k := 163) rfl dX11_readLaw_79 t_1286 mf_X11_reads h0.1 q_cl11 (by decide) (Nat.le_of_ble_eq_true rfl) (fun l => c_X11_reads l  u_9 h0) (fun _ u_15 => ?_)
            refine sw_aload_n 1 dX11_readLaw_82 rfl rfl ?_
            refine sw_callVi (As := []) (k := 163) rfl dX11_readLaw_83 t_1382 mf_X11_readAny h0.1 q_cl11 (by decide) (Nat.le_of_ble_eq_true rfl) (fun l => c_X11_readAny l  u_15 h0) (fun r_16 u_17 => ?_)
            refine sw_iconst (-1 : Int32) dX11_readLaw_86 (by decide) ?_
            refine sw_icmp_ne 92 dX11_readLaw_87 (by decide) ?_ ?_
            · exact SW.sub [] rfl (hK90  u_17)
            · exact SW.sub [1, 2, 0] rfl (hJ92  u_17)
set_option maxRecDepth 100000 in
theorem c_X11_readLaw (l : Launch) {ι : qI} {b : Nat}   (u : qS) (h0 : is_X11 ι) : CN l yX11_readLaw cX11_readLaw 3 (some .int) 9 ι b [.ref (b + 163)] u (m_X11_readLaw  u) := by
  refine CN.of_SW (own := RX11) rfl (by decide) (Nat.le_of_ble_eq_true rfl) [(0, .ref (b + 163))] rfl ?_
  unfold m_X11_readLaw
  refine sw_iconst (0 : Int32) dX11_readLaw_0 (by decide) ?_
  refine sw_istore_n (lv' := [(1, .int (0 : Int32)), (0, .ref (b + 163))]) dX11_readLaw_1 rfl (by decide) rfl ?_
  refine SW.sub (lv' := [(0, .ref (b + 163)), (1, .int (0 : Int32))]) [1, 0] rfl ?_
  refine w_X11_readLaw_L2 h0 (fun u_18 => ?_) (fun u_20 => ?_) (fun u_21 => ?_) (fun u_22 => ?_) (fun x1 u_25 => ?_) q_F (0 : Int32) u
  · refine sw_aload_n 0 dX11_readLaw_15 rfl rfl ?_
    refine sw_iconst (3 : Int32) dX11_readLaw_16 (by decide) ?_
    refine sw_callVi (As := [.int (3 : Int32)]) (k := 163) rfl dX11_readLaw_17 t_1318 mf_X11_errs h0.1 q_cl11 (by decide) (Nat.le_of_ble_eq_true rfl) (fun l => c_X11_errs l (3 : Int32) u_18 h0) (fun r u_19 => ?_)
    exact sw_iret dX11_readLaw_20
  · refine sw_iconst (-1 : Int32) dX11_readLaw_58 (by decide) ?_
    exact sw_iret dX11_readLaw_59
  · refine sw_iconst (-1 : Int32) dX11_readLaw_90 (by decide) ?_
    exact sw_iret dX11_readLaw_91
  · refine sw_aload_n 0 dX11_readLaw_111 rfl rfl ?_
    refine sw_iconst (1 : Int32) dX11_readLaw_112 (by decide) ?_
    refine sw_callVi (As := [.int (1 : Int32)]) (k := 163) rfl dX11_readLaw_113 t_1318 mf_X11_errs h0.1 q_cl11 (by decide) (Nat.le_of_ble_eq_true rfl) (fun l => c_X11_errs l (1 : Int32) u_22 h0) (fun r_23 u_24 => ?_)
    exact sw_iret dX11_readLaw_116
  · refine sw_aload_n 0 dX11_readLaw_128 rfl rfl ?_
    refine sw_geti q_cl11 17 dX11_readLaw_129 t_1062 (by decide) h0.1 rfl ?_
    refine sw_if_ne 139 dX11_readLaw_132 (by decide) ?_ ?_
    · refine sw_iload_n 1 dX11_readLaw_135 rfl rfl ?_
      refine sw_goto 144 dX11_readLaw_136 (by decide) ?_
      exact sw_iret dX11_readLaw_144
    · refine sw_aload_n 0 dX11_readLaw_139 rfl rfl ?_
      refine sw_iconst (1 : Int32) dX11_readLaw_140 (by decide) ?_
      refine sw_callVi (As := [.int (1 : Int32)]) (k := 163) rfl dX11_readLaw_141 t_1318 mf_X11_errs h0.1 q_cl11 (by decide) (Nat.le_of_ble_eq_true rfl) (fun l => c_X11_errs l (1 : Int32) u_25 h0) (fun r_26 u_27 => ?_)
      exact sw_iret dX11_readLaw_144
set_option maxRecDepth 100000 in
theorem w_X11_takesLaw_L2 {ι : qI} {b : Nat}  (h0 : is_X11 ι) (x1 : Int32) {K105 : qS → qR} (hK105 : ∀  (u : qS), SW RX11 cX11_takesLaw 3 none 1 ι b 105 [(0, .ref (b + 163)), (1, .int x1)] [] u (K105  u)) (fu : Nat) (x2 : Int32) (u : qS) : SW RX11 cX11_takesLaw 3 none 1 ι b 2 [(0, .ref (b + 163)), (1, .int x1), (2, .int x2)] [] u (q_it1 (m_X11_takesLaw_L2 x1 K105) fu x2 u) := by
  refine SW.it1 (fun x2 => [(0, .ref (b + 163)), (1, .int x1), (2, .int x2)]) (fun self ih x2 u => ?_) fu x2 u
  unfold m_X11_takesLaw_L2
  refine sw_iload_n 2 dX11_takesLaw_2 rfl rfl ?_
  refine sw_iload_n 1 dX11_takesLaw_3 rfl rfl ?_
  refine sw_icmp_ge 105 dX11_takesLaw_4 (by decide) ?_ ?_
  · exact SW.sub [0, 1] rfl (hK105  u)
  · refine sw_aload_n 0 dX11_takesLaw_7 rfl rfl ?_
    refine sw_getr q_cl11 21 (r := 171) dX11_takesLaw_8 t_1066 (by decide) h0.1 rfl ?_
    refine sw_bipush (16 : Int32) dX11_takesLaw_11 (by decide) ?_
    refine sw_aload_n 0 dX11_takesLaw_13 rfl rfl ?_
    refine sw_geti q_cl11 27 dX11_takesLaw_14 t_1072 (by decide) h0.1 rfl ?_
    refine sw_imul dX11_takesLaw_17 ?_
    refine sw_iload_n 2 dX11_takesLaw_18 rfl rfl ?_
    refine sw_iadd dX11_takesLaw_19 ?_
    refine sw_aload_n 0 dX11_takesLaw_20 rfl rfl ?_
    refine sw_getr q_cl11 21 (r := 171) dX11_takesLaw_21 t_1066 (by decide) h0.1 rfl ?_
    refine sw_bipush (32 : Int32) dX11_takesLaw_24 (by decide) ?_
    refine sw_iload_n 2 dX11_takesLaw_26 rfl rfl ?_
    refine sw_iadd dX11_takesLaw_27 ?_
    refine sw_iald dX11_takesLaw_28 h0.2.2.2.2.2.2.2.2.1 (fun a => ?_)
    refine sw_iast dX11_takesLaw_29 h0.2.2.2.2.2.2.2.2.1 (fun u_1 => ?_)
    refine sw_aload_n 0 dX11_takesLaw_30 rfl rfl ?_
    refine sw_getr q_cl11 22 (r := 172) dX11_takesLaw_31 t_1067 (by decide) h0.1 rfl ?_
    refine sw_bipush (16 : Int32) dX11_takesLaw_34 (by decide) ?_
    refine sw_aload_n 0 dX11_takesLaw_36 rfl rfl ?_
    refine sw_geti q_cl11 27 dX11_takesLaw_37 t_1072 (by decide) h0.1 rfl ?_
    refine sw_imul dX11_takesLaw_40 ?_
    refine sw_iload_n 2 dX11_takesLaw_41 rfl rfl ?_
    refine sw_iadd dX11_takesLaw_42 ?_
    refine sw_aload_n 0 dX11_takesLaw_43 rfl rfl ?_
    refine sw_getr q_cl11 22 (r := 172) dX11_takesLaw_44 t_1067 (by decide) h0.1 rfl ?_
    refine sw_bipush (32 : Int32) dX11_takesLaw_47 (by decide) ?_
    refine sw_iload_n 2 dX11_takesLaw_49 rfl rfl ?_
    refine sw_iadd dX11_takesLaw_50 ?_
    refine sw_iald dX11_takesLaw_51 h0.2.2.2.2.2.2.2.2.2.1 (fun a_2 => ?_)
    refine sw_iast dX11_takesLaw_52 h0.2.2.2.2.2.2.2.2.2.1 (fun u_3 => ?_)
    refine sw_aload_n 0 dX11_takesLaw_53 rfl rfl ?_
    refine sw_getr q_cl11 23 (r := 173) dX11_takesLaw_54 t_1068 (by decide) h0.1 rfl ?_
    refine sw_bipush (16 : Int32) dX11_takesLaw_57 (by decide) ?_
    refine sw_aload_n 0 dX11_takesLaw_59 rfl rfl ?_
    refine sw_geti q_cl11 27 dX11_takesLaw_60 t_1072 (by decide) h0.1 rfl ?_
    refine sw_imul dX11_takesLaw_63 ?_
    refine sw_iload_n 2 dX11_takesLaw_64 rfl rfl ?_
    refine sw_iadd dX11_takesLaw_65 ?_
    refine sw_aload_n 0 dX11_takesLaw_66 rfl rfl ?_
    refine sw_getr q_cl11 23 (r := 173) dX11_takesLaw_67 t_1068 (by decide) h0.1 rfl ?_
    refine sw_bipush (32 : Int32) dX11_takesLaw_70 (by decide) ?_
    refine sw_iload_n 2 dX11_takesLaw_72 rfl rfl ?_
    refine sw_iadd dX11_takesLaw_73 ?_
    refine sw_iald dX11_takesLaw_74 h0.2.2.2.2.2.2.2.2.2.2.1 (fun a_4 => ?_)
    refine sw_iast dX11_takesLaw_75 h0.2.2.2.2.2.2.2.2.2.2.1 (fun u_5 => ?_)
    refine sw_aload_n 0 dX11_takesLaw_76 rfl rfl ?_
    refine sw_getr q_cl11 24 (r := 174) dX11_takesLaw_77 t_1069 (by decide) h0.1 rfl ?_
    refine sw_bipush (16 : Int32) dX11_takesLaw_80 (by decide) ?_
    refine sw_aload_n 0 dX11_takesLaw_82 rfl rfl ?_
    refine sw_geti q_cl11 27 dX11_takesLaw_83 t_1072 (by decide) h0.1 rfl ?_
    refine sw_imul dX11_takesLaw_86 ?_
    refine sw_iload_n 2 dX11_takesLaw_87 rfl rfl ?_
    refine sw_iadd dX11_takesLaw_88 ?_
    refine sw_aload_n 0 dX11_takesLaw_89 rfl rfl ?_
    refine sw_getr q_cl11 24 (r := 174) dX11_takesLaw_90 t_1069 (by decide) h0.1 rfl ?_
    refine sw_bipush (32 : Int32) dX11_takesLaw_93 (by decide) ?_
    refine sw_iload_n 2 dX11_takesLaw_95 rfl rfl ?_
    refine sw_iadd dX11_takesLaw_96 ?_
    refine sw_iald dX11_takesLaw_97 h0.2.2.2.2.2.2.2.2.2.2.2.1 (fun a_6 => ?_)
    refine sw_iast dX11_takesLaw_98 h0.2.2.2.2.2.2.2.2.2.2.2.1 (fun u_7 => ?_)
    refine sw_iinc (lv' := [(2, .int (x2 + (1 : Int32))), (0, .ref (b + 163)), (1, .int x1)]) 2 dX11_takesLaw_99 rfl (congrArg (x2 + ·) (by decide)) (by decide) rfl ?_
    refine sw_goto 2 dX11_takesLaw_102 (by decide) ?_
    exact SW.sub [1, 2, 0] rfl (ih (x2 + (1 : Int32)) u_7)
set_option maxRecDepth 100000 in
theorem w_X11_takesLaw_L107 {ι : qI} {b : Nat}  (h0 : is_X11 ι) (x1 : Int32) {K171 : qS → qR} (hK171 : ∀  (u : qS), SW RX11 cX11_takesLaw 3 none 1 ι b 171 [(0, .ref (b + 163)), (1, .int x1)] [] u (K171  u)) (fu : Nat) (x2 : Int32) (u : qS) : SW RX11 cX11_takesLaw 3 none 1 ι b 107 [(0, .ref (b + 163)), (1, .int x1), (2, .int x2)] [] u (q_it1 (m_X11_takesLaw_L107 x1 K171) fu x2 u) := by
  refine SW.it1 (fun x2 => [(0, .ref (b + 163)), (1, .int x1), (2, .int x2)]) (fun self ih x2 u => ?_) fu x2 u
  unfold m_X11_takesLaw_L107
  refine sw_iload_n 2 dX11_takesLaw_107 rfl rfl ?_
  refine sw_aload_n 0 dX11_takesLaw_108 rfl rfl ?_
  refine sw_geti q_cl11 28 dX11_takesLaw_109 t_1073 (by decide) h0.1 rfl ?_
  refine sw_icmp_ge 171 dX11_takesLaw_112 (by decide) ?_ ?_
  · exact SW.sub [0, 1] rfl (hK171  u)
  · refine sw_aload_n 0 dX11_takesLaw_115 rfl rfl ?_
    refine sw_getr q_cl11 25 (r := 175) dX11_takesLaw_116 t_1070 (by decide) h0.1 rfl ?_
    refine sw_sipush (400 : Int32) dX11_takesLaw_119 (by decide) ?_
    refine sw_aload_n 0 dX11_takesLaw_122 rfl rfl ?_
    refine sw_geti q_cl11 27 dX11_takesLaw_123 t_1072 (by decide) h0.1 rfl ?_
    refine sw_imul dX11_takesLaw_126 ?_
    refine sw_iload_n 2 dX11_takesLaw_127 rfl rfl ?_
    refine sw_iadd dX11_takesLaw_128 ?_
    refine sw_aload_n 0 dX11_takesLaw_129 rfl rfl ?_
    refine sw_getr q_cl11 25 (r := 175) dX11_takesLaw_130 t_1070 (by decide) h0.1 rfl ?_
    refine sw_sipush (800 : Int32) dX11_takesLaw_133 (by decide) ?_
    refine sw_iload_n 2 dX11_takesLaw_136 rfl rfl ?_
    refine sw_iadd dX11_takesLaw_137 ?_
    refine sw_iald dX11_takesLaw_138 h0.2.2.2.2.2.2.2.2.2.2.2.2.1 (fun a => ?_)
    refine sw_iast dX11_takesLaw_139 h0.2.2.2.2.2.2.2.2.2.2.2.2.1 (fun u_9 => ?_)
    refine sw_aload_n 0 dX11_takesLaw_140 rfl rfl ?_
    refine sw_getr q_cl11 26 (r := 176) dX11_takesLaw_141 t_1071 (by decide) h0.1 rfl ?_
    refine sw_sipush (400 : Int32) dX11_takesLaw_144 (by decide) ?_
    refine sw_aload_n 0 dX11_takesLaw_147 rfl rfl ?_
    refine sw_geti q_cl11 27 dX11_takesLaw_148 t_1072 (by decide) h0.1 rfl ?_
    refine sw_imul dX11_takesLaw_151 ?_
    refine sw_iload_n 2 dX11_takesLaw_152 rfl rfl ?_
    refine sw_iadd dX11_takesLaw_153 ?_
    refine sw_aload_n 0 dX11_takesLaw_154 rfl rfl ?_
    refine sw_getr q_cl11 26 (r := 176) dX11_takesLaw_155 t_1071 (by decide) h0.1 rfl ?_
    refine sw_sipush (800 : Int32) dX11_takesLaw_158 (by decide) ?_
    refine sw_iload_n 2 dX11_takesLaw_161 rfl rfl ?_
    refine sw_iadd dX11_takesLaw_162 ?_
    refine sw_iald dX11_takesLaw_163 h0.2.2.2.2.2.2.2.2.2.2.2.2.2.1 (fun a_10 => ?_)
    refine sw_iast dX11_takesLaw_164 h0.2.2.2.2.2.2.2.2.2.2.2.2.2.1 (fun u_11 => ?_)
    refine sw_iinc (lv' := [(2, .int (x2 + (1 : Int32))), (0, .ref (b + 163)), (1, .int x1)]) 2 dX11_takesLaw_165 rfl (congrArg (x2 + ·) (by decide)) (by decide) rfl ?_
    refine sw_goto 107 dX11_takesLaw_168 (by decide) ?_
    exact SW.sub [1, 2, 0] rfl (ih (x2 + (1 : Int32)) u_11)
set_option maxRecDepth 100000 in
theorem c_X11_takesLaw (l : Launch) {ι : qI} {b : Nat}  (x1 : Int32) (u : qS) (h0 : is_X11 ι) : CN l yX11_takesLaw cX11_takesLaw 3 none 1 ι b [.ref (b + 163), .int x1] u (m_X11_takesLaw x1 u) := by
  refine CN.of_SW (own := RX11) rfl (by decide) (Nat.le_of_ble_eq_true rfl) [(0, .ref (b + 163)), (1, .int x1)] rfl ?_
  unfold m_X11_takesLaw
  refine sw_iconst (0 : Int32) dX11_takesLaw_0 (by decide) ?_
  refine sw_istore_n (lv' := [(2, .int (0 : Int32)), (0, .ref (b + 163)), (1, .int x1)]) dX11_takesLaw_1 rfl (by decide) rfl ?_
  refine SW.sub (lv' := [(0, .ref (b + 163)), (1, .int x1), (2, .int (0 : Int32))]) [1, 2, 0] rfl ?_
  refine w_X11_takesLaw_L2 h0 x1 (fun u_8 => ?_) q_F (0 : Int32) u
  refine sw_iconst (0 : Int32) dX11_takesLaw_105 (by decide) ?_
  refine sw_istore_n (lv' := [(2, .int (0 : Int32)), (0, .ref (b + 163)), (1, .int x1)]) dX11_takesLaw_106 rfl (by decide) rfl ?_
  refine SW.sub (lv' := [(0, .ref (b + 163)), (1, .int x1), (2, .int (0 : Int32))]) [1, 2, 0] rfl ?_
  refine w_X11_takesLaw_L107 h0 x1 (fun u_12 => ?_) q_F (0 : Int32) u_8
  refine sw_aload_n 0 dX11_takesLaw_171 rfl rfl ?_
  refine sw_getr q_cl11 20 (r := 170) dX11_takesLaw_172 t_1065 (by decide) h0.1 rfl ?_
  refine sw_aload_n 0 dX11_takesLaw_175 rfl rfl ?_
  refine sw_geti q_cl11 27 dX11_takesLaw_176 t_1072 (by decide) h0.1 rfl ?_
  refine sw_iload_n 1 dX11_takesLaw_179 rfl rfl ?_
  refine sw_iast dX11_takesLaw_180 h0.2.2.2.2.2.2.2.1 (fun u_13 => ?_)
  exact sw_vret dX11_takesLaw_181
set_option maxRecDepth 100000 in
theorem c_X11_readNumber (l : Launch) {ι : qI} {b : Nat}  (x1 : Int32) (x2 : Int32) (u : qS) (h0 : is_X11 ι) : CN l yX11_readNumber cX11_readNumber 4 (some .int) 4 ι b [.ref (b + 163), .int x1, .int x2] u (m_X11_readNumber x1 x2 u) := by
  refine CN.of_SW (own := RX11) rfl (by decide) (Nat.le_of_ble_eq_true rfl) [(0, .ref (b + 163)), (1, .int x1), (2, .int x2)] rfl ?_
  unfold m_X11_readNumber
  refine sw_aload_n 0 dX11_readNumber_0 rfl rfl ?_
  refine sw_geti q_cl11 17 dX11_readNumber_1 t_1062 (by decide) h0.1 rfl ?_
  refine sw_iconst (3 : Int32) dX11_readNumber_4 (by decide) ?_
  refine sw_icmp_eq 14 dX11_readNumber_5 (by decide) ?_ ?_
  · refine sw_aload_n 0 dX11_readNumber_14 rfl rfl ?_
    refine sw_aload_n 0 dX11_readNumber_15 rfl rfl ?_
    refine sw_geti q_cl11 18 dX11_readNumber_16 t_1063 (by decide) h0.1 rfl ?_
    refine sw_iload_n 1 dX11_readNumber_19 rfl rfl ?_
    refine sw_iload_n 2 dX11_readNumber_20 rfl rfl ?_
    refine sw_callVi (As := [.int (u.1 163 18), .int x1, .int x2]) (k := 163) rfl dX11_readNumber_21 t_1226 mf_X11_isIn h0.1 q_cl11 (by decide) (Nat.le_of_ble_eq_true rfl) (fun l => c_X11_isIn l (u.1 163 18) x1 x2 u h0) (fun r u_1 => ?_)
    refine sw_if_ne 33 dX11_readNumber_24 (by decide) ?_ ?_
    · refine sw_aload_n 0 dX11_readNumber_27 rfl rfl ?_
      refine sw_iconst (2 : Int32) dX11_readNumber_28 (by decide) ?_
      refine sw_callVi (As := [.int (2 : Int32)]) (k := 163) rfl dX11_readNumber_29 t_1318 mf_X11_errs h0.1 q_cl11 (by decide) (Nat.le_of_ble_eq_true rfl) (fun l => c_X11_errs l (2 : Int32) u_1 h0) (fun r_3 u_4 => ?_)
      exact sw_iret dX11_readNumber_32
    · refine sw_aload_n 0 dX11_readNumber_33 rfl rfl ?_
      refine sw_geti q_cl11 18 dX11_readNumber_34 t_1063 (by decide) h0.1 rfl ?_
      refine SW.name (fun y3 => ?_)
      refine sw_istore_n (lv' := [(3, .int y3), (0, .ref (b + 163)), (1, .int x1), (2, .int x2)]) dX11_readNumber_37 rfl (by decide) rfl ?_
      refine sw_aload_n 1 dX11_readNumber_38 rfl rfl ?_
      refine sw_callVv (As := []) (k := 163) rfl dX11_readNumber_39 t_1286 mf_X11_reads h0.1 q_cl11 (by decide) (Nat.le_of_ble_eq_true rfl) (fun l => c_X11_reads l  u_1 h0) (fun _ u_2 => ?_)
      refine sw_iload_n 0 dX11_readNumber_42 rfl rfl ?_
      exact sw_iret dX11_readNumber_43
  · refine sw_aload_n 0 dX11_readNumber_8 rfl rfl ?_
    refine sw_iconst (1 : Int32) dX11_readNumber_9 (by decide) ?_
    refine sw_callVi (As := [.int (1 : Int32)]) (k := 163) rfl dX11_readNumber_10 t_1318 mf_X11_errs h0.1 q_cl11 (by decide) (Nat.le_of_ble_eq_true rfl) (fun l => c_X11_errs l (1 : Int32) u h0) (fun r_5 u_6 => ?_)
    exact sw_iret dX11_readNumber_13
set_option maxRecDepth 100000 in
theorem c_X11_readMark (l : Launch) {ι : qI} {b : Nat}  (x1 : Int32) (u : qS) (h0 : is_X11 ι) : CN l yX11_readMark cX11_readMark 2 (some .int) 4 ι b [.ref (b + 163), .int x1] u (m_X11_readMark x1 u) := by
  refine CN.of_SW (own := RX11) rfl (by decide) (Nat.le_of_ble_eq_true rfl) [(0, .ref (b + 163)), (1, .int x1)] rfl ?_
  unfold m_X11_readMark
  refine sw_aload_n 0 dX11_readMark_0 rfl rfl ?_
  refine sw_iload_n 1 dX11_readMark_1 rfl rfl ?_
  refine sw_callVi (As := [.int x1]) (k := 163) rfl dX11_readMark_2 t_1338 mf_X11_isSign h0.1 q_cl11 (by decide) (Nat.le_of_ble_eq_true rfl) (fun l => c_X11_isSign l x1 u h0) (fun r u_1 => ?_)
  refine sw_if_ne 14 dX11_readMark_5 (by decide) ?_ ?_
  · refine sw_aload_n 0 dX11_readMark_8 rfl rfl ?_
    refine sw_iconst (1 : Int32) dX11_readMark_9 (by decide) ?_
    refine sw_callVi (As := [.int (1 : Int32)]) (k := 163) rfl dX11_readMark_10 t_1318 mf_X11_errs h0.1 q_cl11 (by decide) (Nat.le_of_ble_eq_true rfl) (fun l => c_X11_errs l (1 : Int32) u_1 h0) (fun r_3 u_4 => ?_)
    exact sw_iret dX11_readMark_13
  · refine sw_aload_n 0 dX11_readMark_14 rfl rfl ?_
    refine sw_callVv (As := []) (k := 163) rfl dX11_readMark_15 t_1286 mf_X11_reads h0.1 q_cl11 (by decide) (Nat.le_of_ble_eq_true rfl) (fun l => c_X11_reads l  u_1 h0) (fun _ u_2 => ?_)
    refine sw_iconst (0 : Int32) dX11_readMark_18 (by decide) ?_
    exact sw_iret dX11_readMark_19
set_option maxRecDepth 100000 in
theorem c_X11_readTold (l : Launch) {ι : qI} {b : Nat}  (x1 : Int32) (x2 : Int32) (x3 : Int32) (u : qS) (h0 : is_X11 ι) : CN l yX11_readTold cX11_readTold 4 (some .int) 5 ι b [.ref (b + 163), .int x1, .int x2, .int x3] u (m_X11_readTold x1 x2 x3 u) := by
  refine CN.of_SW (own := RX11) rfl (by decide) (Nat.le_of_ble_eq_true rfl) [(0, .ref (b + 163)), (1, .int x1), (2, .int x2), (3, .int x3)] rfl ?_
  unfold m_X11_readTold
  refine sw_aload_n 0 dX11_readTold_0 rfl rfl ?_
  refine sw_iload_n 1 dX11_readTold_1 rfl rfl ?_
  refine sw_callVi (As := [.int x1]) (k := 163) rfl dX11_readTold_2 t_1314 mf_X11_isWord h0.1 q_cl11 (by decide) (Nat.le_of_ble_eq_true rfl) (fun l => c_X11_isWord l x1 u h0) (fun r u_1 => ?_)
  refine sw_if_ne 14 dX11_readTold_5 (by decide) ?_ ?_
  · refine sw_aload_n 0 dX11_readTold_8 rfl rfl ?_
    refine sw_iconst (1 : Int32) dX11_readTold_9 (by decide) ?_
    refine sw_callVi (As := [.int (1 : Int32)]) (k := 163) rfl dX11_readTold_10 t_1318 mf_X11_errs h0.1 q_cl11 (by decide) (Nat.le_of_ble_eq_true rfl) (fun l => c_X11_errs l (1 : Int32) u_1 h0) (fun r_5 u_6 => ?_)
    exact sw_iret dX11_readTold_13
  · refine sw_aload_n 0 dX11_readTold_14 rfl rfl ?_
    refine sw_callVv (As := []) (k := 163) rfl dX11_readTold_15 t_1286 mf_X11_reads h0.1 q_cl11 (by decide) (Nat.le_of_ble_eq_true rfl) (fun l => c_X11_reads l  u_1 h0) (fun _ u_2 => ?_)
    refine sw_aload_n 0 dX11_readTold_18 rfl rfl ?_
    refine sw_iload_n 2 dX11_readTold_19 rfl rfl ?_
    refine sw_iload_n 3 dX11_readTold_20 rfl rfl ?_
    refine sw_callVi (As := [.int x2, .int x3]) (k := 163) rfl dX11_readTold_21 t_1330 mf_X11_readNumber h0.1 q_cl11 (by decide) (Nat.le_of_ble_eq_true rfl) (fun l => c_X11_readNumber l x2 x3 u_2 h0) (fun r_3 u_4 => ?_)
    exact sw_iret dX11_readTold_24
set_option maxRecDepth 100000 in
theorem w_X11_readPath_L55 {ι : qI} {b : Nat}  (h0 : is_X11 ι) (x2 : Int32) {K100 : qS → qR} {K119 : qS → qR} {K152 : qS → qR} (hK100 : ∀  (u : qS), SW RX11 cX11_readPath 4 (some .int) 6 ι b 100 [(0, .ref (b + 163))] [] u (K100  u)) (hK119 : ∀  (u : qS), SW RX11 cX11_readPath 4 (some .int) 6 ι b 119 [] [] u (K119  u)) (hK152 : ∀  (u : qS), SW RX11 cX11_readPath 4 (some .int) 6 ι b 152 [(0, .ref (b + 163))] [] u (K152  u)) (fu : Nat)  (u : qS) : SW RX11 cX11_readPath 4 (some .int) 6 ι b 55 [(0, .ref (b + 163)), (2, .int x2)] [] u (q_it0 (m_X11_readPath_L55 x2 K100 K119 K152) fu  u) := by
  refine SW.it0 ([(0, .ref (b + 163)), (2, .int x2)]) (fun self ih  u => ?_) fu  u
  unfold m_X11_readPath_L55
  refine sw_aload_n 0 dX11_readPath_55 rfl rfl ?_
  refine sw_getr q_cl11 37 (r := 178) dX11_readPath_56 t_1082 (by decide) h0.1 rfl ?_
  refine sw_iload_n 1 dX11_readPath_59 rfl rfl ?_
  refine sw_iald dX11_readPath_60 h0.2.2.2.2.2.2.2.2.2.2.2.2.2.2.2.1 (fun a => ?_)
  refine SW.jn0 72 ([(0, .ref (b + 163)), (2, .int x2)]) ([]) (fun  u_6 => ?_) (fun J72 hJ72 => ?_)
  · refine sw_aload_n 0 dX11_readPath_72 rfl rfl ?_
    refine sw_geti q_cl11 17 dX11_readPath_73 t_1062 (by decide) h0.1 rfl ?_
    refine sw_iconst (3 : Int32) dX11_readPath_76 (by decide) ?_
    refine SW.jn0 106 ([(0, .ref (b + 163)), (2, .int x2)]) ([]) (fun  u_7 => ?_) (fun J106 hJ106 => ?_)
    · refine sw_aload_n 0 dX11_readPath_106 rfl rfl ?_
      refine sw_iconst (0 : Int32) dX11_readPath_107 (by decide) ?_
      refine sw_bipush (9 : Int32) dX11_readPath_108 (by decide) ?_
      refine sw_callVi (As := [.int (0 : Int32), .int (9 : Int32)]) (k := 163) rfl dX11_readPath_110 t_1330 mf_X11_readNumber h0.1 q_cl11 (by decide) (Nat.le_of_ble_eq_true rfl) (fun l => c_X11_readNumber l (0 : Int32) (9 : Int32) u_7 h0) (fun r u_8 => ?_)
      refine sw_istore_n (lv' := [(3, .int r), (0, .ref (b + 163)), (2, .int x2)]) dX11_readPath_113 rfl (by decide) rfl ?_
      refine sw_iload_n 0 dX11_readPath_114 rfl rfl ?_
      refine sw_iconst (-1 : Int32) dX11_readPath_115 (by decide) ?_
      refine sw_icmp_ne 121 dX11_readPath_116 (by decide) ?_ ?_
      · exact SW.sub [] rfl (hK119  u_8)
      · refine sw_aload_n 1 dX11_readPath_121 rfl rfl ?_
        refine sw_getr q_cl11 37 (r := 178) dX11_readPath_122 t_1082 (by decide) h0.1 rfl ?_
        refine sw_iload_n 2 dX11_readPath_125 rfl rfl ?_
        refine sw_aload_n 1 dX11_readPath_126 rfl rfl ?_
        refine sw_getr q_cl11 37 (r := 178) dX11_readPath_127 t_1082 (by decide) h0.1 rfl ?_
        refine sw_iload_n 2 dX11_readPath_130 rfl rfl ?_
        refine sw_iald dX11_readPath_131 h0.2.2.2.2.2.2.2.2.2.2.2.2.2.2.2.1 (fun a_9 => ?_)
        refine sw_iconst (1 : Int32) dX11_readPath_132 (by decide) ?_
        refine sw_iadd dX11_readPath_133 ?_
        refine sw_iast dX11_readPath_134 h0.2.2.2.2.2.2.2.2.2.2.2.2.2.2.2.1 (fun u_10 => ?_)
        refine sw_aload_n 1 dX11_readPath_135 rfl rfl ?_
        refine sw_getr q_cl11 37 (r := 178) dX11_readPath_136 t_1082 (by decide) h0.1 rfl ?_
        refine sw_iload_n 2 dX11_readPath_139 rfl rfl ?_
        refine sw_aload_n 1 dX11_readPath_140 rfl rfl ?_
        refine sw_getr q_cl11 37 (r := 178) dX11_readPath_141 t_1082 (by decide) h0.1 rfl ?_
        refine sw_iload_n 2 dX11_readPath_144 rfl rfl ?_
        refine sw_iald dX11_readPath_145 h0.2.2.2.2.2.2.2.2.2.2.2.2.2.2.2.1 (fun a_11 => ?_)
        refine sw_iadd dX11_readPath_146 ?_
        refine sw_iload_n 0 dX11_readPath_147 rfl rfl ?_
        refine sw_iast dX11_readPath_148 h0.2.2.2.2.2.2.2.2.2.2.2.2.2.2.2.1 (fun u_12 => ?_)
        refine sw_goto 55 dX11_readPath_149 (by decide) ?_
        exact SW.sub [1, 2] rfl (ih  u_12)
    · refine sw_icmp_ne 106 dX11_readPath_77 (by decide) ?_ ?_
      · refine sw_aload_n 0 dX11_readPath_80 rfl rfl ?_
        refine sw_geti q_cl11 18 dX11_readPath_81 t_1063 (by decide) h0.1 rfl ?_
        refine sw_bipush (10 : Int32) dX11_readPath_84 (by decide) ?_
        refine sw_icmp_ge 106 dX11_readPath_86 (by decide) ?_ ?_
        · exact SW.sub [0, 1] rfl (hJ106  u_6)
        · refine sw_aload_n 0 dX11_readPath_89 rfl rfl ?_
          refine sw_getr q_cl11 37 (r := 178) dX11_readPath_90 t_1082 (by decide) h0.1 rfl ?_
          refine sw_iload_n 1 dX11_readPath_93 rfl rfl ?_
          refine sw_iald dX11_readPath_94 h0.2.2.2.2.2.2.2.2.2.2.2.2.2.2.2.1 (fun a_13 => ?_)
          refine sw_bipush (8 : Int32) dX11_readPath_95 (by decide) ?_
          refine sw_icmp_ne 106 dX11_readPath_97 (by decide) ?_ ?_
          · exact SW.sub [0] rfl (hK100  u_6)
          · exact SW.sub [0, 1] rfl (hJ106  u_6)
      · exact SW.sub [0, 1] rfl (hJ106  u_6)
  · refine sw_if_eq 72 dX11_readPath_61 (by decide) ?_ ?_
    · exact SW.sub [0, 1] rfl (hJ72  u)
    · refine sw_aload_n 0 dX11_readPath_64 rfl rfl ?_
      refine sw_geti q_cl11 17 dX11_readPath_65 t_1062 (by decide) h0.1 rfl ?_
      refine sw_iconst (3 : Int32) dX11_readPath_68 (by decide) ?_
      refine sw_icmp_ne 152 dX11_readPath_69 (by decide) ?_ ?_
      · exact SW.sub [0, 1] rfl (hJ72  u)
      · exact SW.sub [0] rfl (hK152  u)
set_option maxRecDepth 100000 in
theorem c_X11_readPath (l : Launch) {ι : qI} {b : Nat}   (u : qS) (h0 : is_X11 ι) : CN l yX11_readPath cX11_readPath 4 (some .int) 6 ι b [.ref (b + 163)] u (m_X11_readPath  u) := by
  refine CN.of_SW (own := RX11) rfl (by decide) (Nat.le_of_ble_eq_true rfl) [(0, .ref (b + 163))] rfl ?_
  unfold m_X11_readPath
  refine sw_aload_n 0 dX11_readPath_0 rfl rfl ?_
  refine sw_bipush (16 : Int32) dX11_readPath_1 (by decide) ?_
  refine sw_iconst (0 : Int32) dX11_readPath_3 (by decide) ?_
  refine sw_aload_n 0 dX11_readPath_4 rfl rfl ?_
  refine sw_geti q_cl11 7 dX11_readPath_5 t_1052 (by decide) h0.1 rfl ?_
  refine sw_iconst (1 : Int32) dX11_readPath_8 (by decide) ?_
  refine sw_isub dX11_readPath_9 ?_
  refine sw_callVi (As := [.int (16 : Int32), .int (0 : Int32), .int ((u.1 163 7) - (1 : Int32))]) (k := 163) rfl dX11_readPath_10 t_1326 mf_X11_readTold h0.1 q_cl11 (by decide) (Nat.le_of_ble_eq_true rfl) (fun l => c_X11_readTold l (16 : Int32) (0 : Int32) ((u.1 163 7) - (1 : Int32)) u h0) (fun r u_1 => ?_)
  refine sw_istore_n (lv' := [(1, .int r), (0, .ref (b + 163))]) dX11_readPath_13 rfl (by decide) rfl ?_
  refine sw_iload_n 0 dX11_readPath_14 rfl rfl ?_
  refine sw_iconst (-1 : Int32) dX11_readPath_15 (by decide) ?_
  refine sw_icmp_ne 21 dX11_readPath_16 (by decide) ?_ ?_
  · refine sw_iconst (-1 : Int32) dX11_readPath_19 (by decide) ?_
    exact sw_iret dX11_readPath_20
  · refine sw_aload_n 1 dX11_readPath_21 rfl rfl ?_
    refine sw_bipush (17 : Int32) dX11_readPath_22 (by decide) ?_
    refine sw_callVi (As := [.int (17 : Int32)]) (k := 163) rfl dX11_readPath_24 t_1314 mf_X11_isWord h0.1 q_cl11 (by decide) (Nat.le_of_ble_eq_true rfl) (fun l => c_X11_isWord l (17 : Int32) u_1 h0) (fun r_2 u_3 => ?_)
    refine sw_if_ne 36 dX11_readPath_27 (by decide) ?_ ?_
    · refine sw_aload_n 1 dX11_readPath_30 rfl rfl ?_
      refine sw_iconst (1 : Int32) dX11_readPath_31 (by decide) ?_
      refine sw_callVi (As := [.int (1 : Int32)]) (k := 163) rfl dX11_readPath_32 t_1318 mf_X11_errs h0.1 q_cl11 (by decide) (Nat.le_of_ble_eq_true rfl) (fun l => c_X11_errs l (1 : Int32) u_3 h0) (fun r_21 u_22 => ?_)
      exact sw_iret dX11_readPath_35
    · refine sw_aload_n 1 dX11_readPath_36 rfl rfl ?_
      refine sw_callVv (As := []) (k := 163) rfl dX11_readPath_37 t_1286 mf_X11_reads h0.1 q_cl11 (by decide) (Nat.le_of_ble_eq_true rfl) (fun l => c_X11_reads l  u_3 h0) (fun _ u_4 => ?_)
      refine sw_bipush (90 : Int32) dX11_readPath_40 (by decide) ?_
      refine sw_bipush (9 : Int32) dX11_readPath_42 (by decide) ?_
      refine sw_iload_n 0 dX11_readPath_44 rfl rfl ?_
      refine sw_imul dX11_readPath_45 ?_
      refine sw_iadd dX11_readPath_46 ?_
      refine SW.name (fun y2 => ?_)
      refine sw_istore_n (lv' := [(2, .int y2), (1, .int r), (0, .ref (b + 163))]) dX11_readPath_47 rfl (by decide) rfl ?_
      refine sw_aload_n 2 dX11_readPath_48 rfl rfl ?_
      refine sw_getr q_cl11 37 (r := 178) dX11_readPath_49 t_1082 (by decide) h0.1 rfl ?_
      refine sw_iload_n 0 dX11_readPath_52 rfl rfl ?_
      refine sw_iconst (0 : Int32) dX11_readPath_53 (by decide) ?_
      refine sw_iast dX11_readPath_54 h0.2.2.2.2.2.2.2.2.2.2.2.2.2.2.2.1 (fun u_5 => ?_)
      refine SW.sub (lv' := [(0, .ref (b + 163)), (2, .int y2)]) [2, 0] rfl ?_
      refine w_X11_readPath_L55 h0 y2 (fun u_14 => ?_) (fun u_17 => ?_) (fun u_18 => ?_) q_F  u_5
      · refine sw_aload_n 0 dX11_readPath_100 rfl rfl ?_
        refine sw_iconst (3 : Int32) dX11_readPath_101 (by decide) ?_
        refine sw_callVi (As := [.int (3 : Int32)]) (k := 163) rfl dX11_readPath_102 t_1318 mf_X11_errs h0.1 q_cl11 (by decide) (Nat.le_of_ble_eq_true rfl) (fun l => c_X11_errs l (3 : Int32) u_14 h0) (fun r_15 u_16 => ?_)
        exact sw_iret dX11_readPath_105
      · refine sw_iconst (-1 : Int32) dX11_readPath_119 (by decide) ?_
        exact sw_iret dX11_readPath_120
      · refine sw_aload_n 0 dX11_readPath_152 rfl rfl ?_
        refine sw_bipush (59 : Int32) dX11_readPath_153 (by decide) ?_
        refine sw_callVi (As := [.int (59 : Int32)]) (k := 163) rfl dX11_readPath_155 t_1334 mf_X11_readMark h0.1 q_cl11 (by decide) (Nat.le_of_ble_eq_true rfl) (fun l => c_X11_readMark l (59 : Int32) u_18 h0) (fun r_19 u_20 => ?_)
        exact sw_iret dX11_readPath_158
set_option maxRecDepth 100000 in
theorem w_X11_readPaths_L2 {ι : qI} {b : Nat}  (h0 : is_X11 ι)  {K27 : qS → qR} (hK27 : ∀  (u : qS), SW RX11 cX11_readPaths 2 (some .int) 7 ι b 27 [(0, .ref (b + 163))] [] u (K27  u)) (fu : Nat) (x1 : Int32) (u : qS) : SW RX11 cX11_readPaths 2 (some .int) 7 ι b 2 [(0, .ref (b + 163)), (1, .int x1)] [] u (q_it1 (m_X11_readPaths_L2 K27) fu x1 u) := by
  refine SW.it1 (fun x1 => [(0, .ref (b + 163)), (1, .int x1)]) (fun self ih x1 u => ?_) fu x1 u
  unfold m_X11_readPaths_L2
  refine sw_iload_n 1 dX11_readPaths_2 rfl rfl ?_
  refine sw_bipush (10 : Int32) dX11_readPaths_3 (by decide) ?_
  refine sw_icmp_ge 27 dX11_readPaths_5 (by decide) ?_ ?_
  · exact SW.sub [0] rfl (hK27  u)
  · refine sw_aload_n 0 dX11_readPaths_8 rfl rfl ?_
    refine sw_getr q_cl11 37 (r := 178) dX11_readPaths_9 t_1082 (by decide) h0.1 rfl ?_
    refine sw_bipush (90 : Int32) dX11_readPaths_12 (by decide) ?_
    refine sw_bipush (9 : Int32) dX11_readPaths_14 (by decide) ?_
    refine sw_iload_n 1 dX11_readPaths_16 rfl rfl ?_
    refine sw_imul dX11_readPaths_17 ?_
    refine sw_iadd dX11_readPaths_18 ?_
    refine sw_iconst (0 : Int32) dX11_readPaths_19 (by decide) ?_
    refine sw_iast dX11_readPaths_20 h0.2.2.2.2.2.2.2.2.2.2.2.2.2.2.2.1 (fun u_1 => ?_)
    refine sw_iinc (lv' := [(1, .int (x1 + (1 : Int32))), (0, .ref (b + 163))]) 1 dX11_readPaths_21 rfl (congrArg (x1 + ·) (by decide)) (by decide) rfl ?_
    refine sw_goto 2 dX11_readPaths_24 (by decide) ?_
    exact SW.sub [1, 0] rfl (ih (x1 + (1 : Int32)) u_1)
set_option maxRecDepth 100000 in
theorem w_X11_readPaths_L29 {ι : qI} {b : Nat}  (h0 : is_X11 ι)  {K44 : qS → qR} {K58 : qS → qR} {K67 : Int32 → qS → qR} (hK44 : ∀  (u : qS), SW RX11 cX11_readPaths 2 (some .int) 7 ι b 44 [(0, .ref (b + 163))] [] u (K44  u)) (hK58 : ∀  (u : qS), SW RX11 cX11_readPaths 2 (some .int) 7 ι b 58 [] [] u (K58  u)) (hK67 : ∀ (e1 : Int32) (u : qS), SW RX11 cX11_readPaths 2 (some .int) 7 ι b 67 [(0, .ref (b + 163)), (1, .int e1)] [] u (K67 e1 u)) (fu : Nat) (x1 : Int32) (u : qS) : SW RX11 cX11_readPaths 2 (some .int) 7 ι b 29 [(0, .ref (b + 163)), (1, .int x1)] [] u (q_it1 (m_X11_readPaths_L29 K44 K58 K67) fu x1 u) := by
  refine SW.it1 (fun x1 => [(0, .ref (b + 163)), (1, .int x1)]) (fun self ih x1 u => ?_) fu x1 u
  unfold m_X11_readPaths_L29
  refine sw_aload_n 0 dX11_readPaths_29 rfl rfl ?_
  refine sw_bipush (16 : Int32) dX11_readPaths_30 (by decide) ?_
  refine sw_callVi (As := [.int (16 : Int32)]) (k := 163) rfl dX11_readPaths_32 t_1314 mf_X11_isWord h0.1 q_cl11 (by decide) (Nat.le_of_ble_eq_true rfl) (fun l => c_X11_isWord l (16 : Int32) u h0) (fun r u_3 => ?_)
  refine sw_if_eq 67 dX11_readPaths_35 (by decide) ?_ ?_
  · exact SW.sub [0, 1] rfl (hK67 x1 u_3)
  · refine sw_iload_n 1 dX11_readPaths_38 rfl rfl ?_
    refine sw_bipush (16 : Int32) dX11_readPaths_39 (by decide) ?_
    refine sw_icmp_ne 50 dX11_readPaths_41 (by decide) ?_ ?_
    · exact SW.sub [0] rfl (hK44  u_3)
    · refine sw_aload_n 0 dX11_readPaths_50 rfl rfl ?_
      refine sw_callVi (As := []) (k := 163) rfl dX11_readPaths_51 t_1322 mf_X11_readPath h0.1 q_cl11 (by decide) (Nat.le_of_ble_eq_true rfl) (fun l => c_X11_readPath l  u_3 h0) (fun r_4 u_5 => ?_)
      refine sw_iconst (-1 : Int32) dX11_readPaths_54 (by decide) ?_
      refine sw_icmp_ne 60 dX11_readPaths_55 (by decide) ?_ ?_
      · exact SW.sub [] rfl (hK58  u_5)
      · refine sw_iload_n 1 dX11_readPaths_60 rfl rfl ?_
        refine sw_iconst (1 : Int32) dX11_readPaths_61 (by decide) ?_
        refine sw_iadd dX11_readPaths_62 ?_
        refine SW.name (fun y1 => ?_)
        refine sw_istore_n (lv' := [(1, .int y1), (0, .ref (b + 163))]) dX11_readPaths_63 rfl (by decide) rfl ?_
        refine sw_goto 29 dX11_readPaths_64 (by decide) ?_
        exact SW.sub [1, 0] rfl (ih y1 u_5)
set_option maxRecDepth 100000 in
theorem c_X11_readPaths (l : Launch) {ι : qI} {b : Nat}   (u : qS) (h0 : is_X11 ι) : CN l yX11_readPaths cX11_readPaths 2 (some .int) 7 ι b [.ref (b + 163)] u (m_X11_readPaths  u) := by
  refine CN.of_SW (own := RX11) rfl (by decide) (Nat.le_of_ble_eq_true rfl) [(0, .ref (b + 163))] rfl ?_
  unfold m_X11_readPaths
  refine sw_iconst (0 : Int32) dX11_readPaths_0 (by decide) ?_
  refine sw_istore_n (lv' := [(1, .int (0 : Int32)), (0, .ref (b + 163))]) dX11_readPaths_1 rfl (by decide) rfl ?_
  refine SW.sub (lv' := [(0, .ref (b + 163)), (1, .int (0 : Int32))]) [1, 0] rfl ?_
  refine w_X11_readPaths_L2 h0 (fun u_2 => ?_) q_F (0 : Int32) u
  refine sw_iconst (0 : Int32) dX11_readPaths_27 (by decide) ?_
  refine sw_istore_n (lv' := [(1, .int (0 : Int32)), (0, .ref (b + 163))]) dX11_readPaths_28 rfl (by decide) rfl ?_
  refine SW.sub (lv' := [(0, .ref (b + 163)), (1, .int (0 : Int32))]) [1, 0] rfl ?_
  refine w_X11_readPaths_L29 h0 (fun u_6 => ?_) (fun u_8 => ?_) (fun x1 u_9 => ?_) q_F (0 : Int32) u_2
  · refine sw_aload_n 0 dX11_readPaths_44 rfl rfl ?_
    refine sw_iconst (3 : Int32) dX11_readPaths_45 (by decide) ?_
    refine sw_callVi (As := [.int (3 : Int32)]) (k := 163) rfl dX11_readPaths_46 t_1318 mf_X11_errs h0.1 q_cl11 (by decide) (Nat.le_of_ble_eq_true rfl) (fun l => c_X11_errs l (3 : Int32) u_6 h0) (fun r u_7 => ?_)
    exact sw_iret dX11_readPaths_49
  · refine sw_iconst (-1 : Int32) dX11_readPaths_58 (by decide) ?_
    exact sw_iret dX11_readPaths_59
  · refine sw_aload_n 0 dX11_readPaths_67 rfl rfl ?_
    refine sw_geti q_cl11 17 dX11_readPaths_68 t_1062 (by decide) h0.1 rfl ?_
    refine sw_if_ne 78 dX11_readPaths_71 (by decide) ?_ ?_
    · refine sw_iload_n 1 dX11_readPaths_74 rfl rfl ?_
      refine sw_goto 83 dX11_readPaths_75 (by decide) ?_
      exact sw_iret dX11_readPaths_83
    · refine sw_aload_n 0 dX11_readPaths_78 rfl rfl ?_
      refine sw_iconst (1 : Int32) dX11_readPaths_79 (by decide) ?_
      refine sw_callVi (As := [.int (1 : Int32)]) (k := 163) rfl dX11_readPaths_80 t_1318 mf_X11_errs h0.1 q_cl11 (by decide) (Nat.le_of_ble_eq_true rfl) (fun l => c_X11_errs l (1 : Int32) u_9 h0) (fun r_10 u_11 => ?_)
      exact sw_iret dX11_readPaths_83
set_option maxRecDepth 100000 in
theorem c_X11_readDeed (l : Launch) {ι : qI} {b : Nat}  (x1 : Int32) (x2 : Int32) (u : qS) (h0 : is_X11 ι) : CN l yX11_readDeed cX11_readDeed 3 (some .int) 6 ι b [.ref (b + 163), .int x1, .int x2] u (m_X11_readDeed x1 x2 u) := by
  refine CN.of_SW (own := RX11) rfl (by decide) (Nat.le_of_ble_eq_true rfl) [(0, .ref (b + 163)), (1, .int x1), (2, .int x2)] rfl ?_
  unfold m_X11_readDeed
  refine sw_iload_n 2 dX11_readDeed_0 rfl rfl ?_
  refine sw_bipush (19 : Int32) dX11_readDeed_1 (by decide) ?_
  refine SW.jn0 64 ([(0, .ref (b + 163)), (1, .int x1), (2, .int x2)]) ([]) (fun  u_1 => ?_) (fun J64 hJ64 => ?_)
  · refine sw_aload_n 0 dX11_readDeed_64 rfl rfl ?_
    refine sw_getr q_cl11 39 (r := 179) dX11_readDeed_65 t_1084 (by decide) h0.1 rfl ?_
    refine sw_iload_n 1 dX11_readDeed_68 rfl rfl ?_
    refine sw_iconst (2 : Int32) dX11_readDeed_69 (by decide) ?_
    refine sw_iadd dX11_readDeed_70 ?_
    refine sw_iald dX11_readDeed_71 h0.2.2.2.2.2.2.2.2.2.2.2.2.2.2.2.2.1 (fun a => ?_)
    refine sw_iconst (-1 : Int32) dX11_readDeed_72 (by decide) ?_
    refine sw_icmp_ne 78 dX11_readDeed_73 (by decide) ?_ ?_
    · refine sw_iconst (-1 : Int32) dX11_readDeed_76 (by decide) ?_
      exact sw_iret dX11_readDeed_77
    · refine sw_aload_n 0 dX11_readDeed_78 rfl rfl ?_
      refine sw_getr q_cl11 39 (r := 179) dX11_readDeed_79 t_1084 (by decide) h0.1 rfl ?_
      refine sw_iload_n 1 dX11_readDeed_82 rfl rfl ?_
      refine sw_iconst (3 : Int32) dX11_readDeed_83 (by decide) ?_
      refine sw_iadd dX11_readDeed_84 ?_
      refine sw_iload_n 2 dX11_readDeed_85 rfl rfl ?_
      refine sw_bipush (19 : Int32) dX11_readDeed_86 (by decide) ?_
      refine SW.jn1 120 (fun s0 => [(0, .ref (b + 163)), (1, .int x1)]) (fun s0 => [.int s0, .int (x1 + (3 : Int32)), .ref (b + 179)]) (fun s0 u_2 => ?_) (fun J120 hJ120 => ?_)
      · refine sw_iast dX11_readDeed_120 h0.2.2.2.2.2.2.2.2.2.2.2.2.2.2.2.2.1 (fun u_3 => ?_)
        refine sw_aload_n 0 dX11_readDeed_121 rfl rfl ?_
        refine sw_getr q_cl11 39 (r := 179) dX11_readDeed_122 t_1084 (by decide) h0.1 rfl ?_
        refine sw_iload_n 1 dX11_readDeed_125 rfl rfl ?_
        refine sw_iconst (3 : Int32) dX11_readDeed_126 (by decide) ?_
        refine sw_iadd dX11_readDeed_127 ?_
        refine sw_iald dX11_readDeed_128 h0.2.2.2.2.2.2.2.2.2.2.2.2.2.2.2.2.1 (fun a_4 => ?_)
        exact sw_iret dX11_readDeed_129
      · refine sw_icmp_ne 103 dX11_readDeed_88 (by decide) ?_ ?_
        · refine sw_aload_n 0 dX11_readDeed_91 rfl rfl ?_
          refine sw_bipush (20 : Int32) dX11_readDeed_92 (by decide) ?_
          refine sw_iconst (0 : Int32) dX11_readDeed_94 (by decide) ?_
          refine sw_bipush (9 : Int32) dX11_readDeed_95 (by decide) ?_
          refine sw_callVi (As := [.int (20 : Int32), .int (0 : Int32), .int (9 : Int32)]) (k := 163) rfl dX11_readDeed_97 t_1326 mf_X11_readTold h0.1 q_cl11 (by decide) (Nat.le_of_ble_eq_true rfl) (fun l => c_X11_readTold l (20 : Int32) (0 : Int32) (9 : Int32) u_1 h0) (fun r_6 u_7 => ?_)
          refine sw_goto 120 dX11_readDeed_100 (by decide) ?_
          exact SW.sub [0, 1] rfl (hJ120 r_6 u_7)
        · refine sw_iload_n 2 dX11_readDeed_103 rfl rfl ?_
          refine sw_bipush (23 : Int32) dX11_readDeed_104 (by decide) ?_
          refine sw_icmp_ne 119 dX11_readDeed_106 (by decide) ?_ ?_
          · refine sw_aload_n 0 dX11_readDeed_109 rfl rfl ?_
            refine sw_iconst (1 : Int32) dX11_readDeed_110 (by decide) ?_
            refine sw_bipush (99 : Int32) dX11_readDeed_111 (by decide) ?_
            refine sw_callVi (As := [.int (1 : Int32), .int (99 : Int32)]) (k := 163) rfl dX11_readDeed_113 t_1330 mf_X11_readNumber h0.1 q_cl11 (by decide) (Nat.le_of_ble_eq_true rfl) (fun l => c_X11_readNumber l (1 : Int32) (99 : Int32) u_1 h0) (fun r u_5 => ?_)
            refine sw_goto 120 dX11_readDeed_116 (by decide) ?_
            exact SW.sub [0, 1] rfl (hJ120 r u_5)
          · refine sw_iconst (0 : Int32) dX11_readDeed_119 (by decide) ?_
            exact SW.sub [0, 1] rfl (hJ120 (0 : Int32) u_1)
  · refine SW.jn0 12 ([(0, .ref (b + 163)), (1, .int x1), (2, .int x2)]) ([]) (fun  u_8 => ?_) (fun J12 hJ12 => ?_)
    · refine sw_aload_n 0 dX11_readDeed_12 rfl rfl ?_
      refine sw_getr q_cl11 39 (r := 179) dX11_readDeed_13 t_1084 (by decide) h0.1 rfl ?_
      refine sw_iload_n 1 dX11_readDeed_16 rfl rfl ?_
      refine sw_iconst (2 : Int32) dX11_readDeed_17 (by decide) ?_
      refine sw_iadd dX11_readDeed_18 ?_
      refine sw_aload_n 0 dX11_readDeed_19 rfl rfl ?_
      refine sw_iconst (0 : Int32) dX11_readDeed_20 (by decide) ?_
      refine sw_aload_n 0 dX11_readDeed_21 rfl rfl ?_
      refine sw_geti q_cl11 6 dX11_readDeed_22 t_1051 (by decide) h0.1 rfl ?_
      refine sw_iconst (1 : Int32) dX11_readDeed_25 (by decide) ?_
      refine sw_isub dX11_readDeed_26 ?_
      refine sw_callVi (As := [.int (0 : Int32), .int ((u_8.1 163 6) - (1 : Int32))]) (k := 163) rfl dX11_readDeed_27 t_1330 mf_X11_readNumber h0.1 q_cl11 (by decide) (Nat.le_of_ble_eq_true rfl) (fun l => c_X11_readNumber l (0 : Int32) ((u_8.1 163 6) - (1 : Int32)) u_8 h0) (fun r_9 u_10 => ?_)
      refine sw_iast dX11_readDeed_30 h0.2.2.2.2.2.2.2.2.2.2.2.2.2.2.2.2.1 (fun u_11 => ?_)
      refine sw_goto 64 dX11_readDeed_31 (by decide) ?_
      exact SW.sub [0, 1, 2] rfl (hJ64  u_11)
    · refine sw_icmp_eq 12 dX11_readDeed_3 (by decide) ?_ ?_
      · exact SW.sub [0, 1, 2] rfl (hJ12  u)
      · refine sw_iload_n 2 dX11_readDeed_6 rfl rfl ?_
        refine sw_bipush (23 : Int32) dX11_readDeed_7 (by decide) ?_
        refine sw_icmp_ne 34 dX11_readDeed_9 (by decide) ?_ ?_
        · exact SW.sub [0, 1, 2] rfl (hJ12  u)
        · refine sw_aload_n 0 dX11_readDeed_34 rfl rfl ?_
          refine sw_getr q_cl11 39 (r := 179) dX11_readDeed_35 t_1084 (by decide) h0.1 rfl ?_
          refine sw_iload_n 1 dX11_readDeed_38 rfl rfl ?_
          refine sw_iconst (2 : Int32) dX11_readDeed_39 (by decide) ?_
          refine sw_iadd dX11_readDeed_40 ?_
          refine sw_aload_n 0 dX11_readDeed_41 rfl rfl ?_
          refine sw_iconst (0 : Int32) dX11_readDeed_42 (by decide) ?_
          refine sw_iload_n 2 dX11_readDeed_43 rfl rfl ?_
          refine sw_bipush (24 : Int32) dX11_readDeed_44 (by decide) ?_
          refine SW.jn1 60 (fun s0_12 => [(0, .ref (b + 163)), (1, .int x1), (2, .int x2)]) (fun s0_12 => [.int s0_12, .int (0 : Int32), .ref (b + 163), .int (x1 + (2 : Int32)), .ref (b + 179)]) (fun s0_12 u_13 => ?_) (fun J60 hJ60 => ?_)
          · refine sw_callVi (As := [.int (0 : Int32), .int s0_12]) (k := 163) rfl dX11_readDeed_60 t_1330 mf_X11_readNumber h0.1 q_cl11 (by decide) (Nat.le_of_ble_eq_true rfl) (fun l => c_X11_readNumber l (0 : Int32) s0_12 u_13 h0) (fun r_14 u_15 => ?_)
            refine sw_iast dX11_readDeed_63 h0.2.2.2.2.2.2.2.2.2.2.2.2.2.2.2.2.1 (fun u_16 => ?_)
            exact SW.sub [0, 1, 2] rfl (hJ64  u_16)
          · refine sw_icmp_ne 58 dX11_readDeed_46 (by decide) ?_ ?_
            · refine sw_aload_n 0 dX11_readDeed_49 rfl rfl ?_
              refine sw_geti q_cl11 7 dX11_readDeed_50 t_1052 (by decide) h0.1 rfl ?_
              refine sw_iconst (1 : Int32) dX11_readDeed_53 (by decide) ?_
              refine sw_isub dX11_readDeed_54 ?_
              refine sw_goto 60 dX11_readDeed_55 (by decide) ?_
              exact SW.sub [0, 1, 2] rfl (hJ60 ((u.1 163 7) - (1 : Int32)) u)
            · refine sw_bipush (9 : Int32) dX11_readDeed_58 (by decide) ?_
              exact SW.sub [0, 1, 2] rfl (hJ60 (9 : Int32) u)
set_option maxRecDepth 100000 in
theorem c_X11_readPlanLine (l : Launch) {ι : qI} {b : Nat}  (x1 : Int32) (u : qS) (h0 : is_X11 ι) : CN l yX11_readPlanLine cX11_readPlanLine 3 (some .int) 7 ι b [.ref (b + 163), .int x1] u (m_X11_readPlanLine x1 u) := by
  refine CN.of_SW (own := RX11) rfl (by decide) (Nat.le_of_ble_eq_true rfl) [(0, .ref (b + 163)), (1, .int x1)] rfl ?_
  unfold m_X11_readPlanLine
  refine sw_aload_n 0 dX11_readPlanLine_0 rfl rfl ?_
  refine sw_getr q_cl11 39 (r := 179) dX11_readPlanLine_1 t_1084 (by decide) h0.1 rfl ?_
  refine sw_iload_n 1 dX11_readPlanLine_4 rfl rfl ?_
  refine sw_aload_n 0 dX11_readPlanLine_5 rfl rfl ?_
  refine sw_bipush (18 : Int32) dX11_readPlanLine_6 (by decide) ?_
  refine sw_iconst (0 : Int32) dX11_readPlanLine_8 (by decide) ?_
  refine sw_sipush (999 : Int32) dX11_readPlanLine_9 (by decide) ?_
  refine sw_callVi (As := [.int (18 : Int32), .int (0 : Int32), .int (999 : Int32)]) (k := 163) rfl dX11_readPlanLine_12 t_1326 mf_X11_readTold h0.1 q_cl11 (by decide) (Nat.le_of_ble_eq_true rfl) (fun l => c_X11_readTold l (18 : Int32) (0 : Int32) (999 : Int32) u h0) (fun r u_1 => ?_)
  refine sw_iast dX11_readPlanLine_15 h0.2.2.2.2.2.2.2.2.2.2.2.2.2.2.2.2.1 (fun u_2 => ?_)
  refine sw_aload_n 0 dX11_readPlanLine_16 rfl rfl ?_
  refine sw_getr q_cl11 39 (r := 179) dX11_readPlanLine_17 t_1084 (by decide) h0.1 rfl ?_
  refine sw_iload_n 1 dX11_readPlanLine_20 rfl rfl ?_
  refine sw_iald dX11_readPlanLine_21 h0.2.2.2.2.2.2.2.2.2.2.2.2.2.2.2.2.1 (fun a => ?_)
  refine sw_iconst (-1 : Int32) dX11_readPlanLine_22 (by decide) ?_
  refine sw_icmp_ne 28 dX11_readPlanLine_23 (by decide) ?_ ?_
  · refine sw_iconst (-1 : Int32) dX11_readPlanLine_26 (by decide) ?_
    exact sw_iret dX11_readPlanLine_27
  · refine sw_aload_n 0 dX11_readPlanLine_28 rfl rfl ?_
    refine sw_geti q_cl11 17 dX11_readPlanLine_29 t_1062 (by decide) h0.1 rfl ?_
    refine sw_iconst (2 : Int32) dX11_readPlanLine_32 (by decide) ?_
    refine SW.jn1 44 (fun s0 => [(0, .ref (b + 163)), (1, .int x1)]) (fun s0 => [.int s0]) (fun s0 u_3 => ?_) (fun J44 hJ44 => ?_)
    · refine sw_istore_n (lv' := [(2, .int s0), (0, .ref (b + 163)), (1, .int x1)]) dX11_readPlanLine_44 rfl (by decide) rfl ?_
      refine sw_iload_n 0 dX11_readPlanLine_45 rfl rfl ?_
      refine sw_bipush (19 : Int32) dX11_readPlanLine_46 (by decide) ?_
      refine SW.jn0 69 ([(0, .ref (b + 163)), (1, .int x1), (2, .int s0)]) ([]) (fun  u_4 => ?_) (fun J69 hJ69 => ?_)
      · refine sw_aload_n 0 dX11_readPlanLine_69 rfl rfl ?_
        refine sw_callVv (As := []) (k := 163) rfl dX11_readPlanLine_70 t_1286 mf_X11_reads h0.1 q_cl11 (by decide) (Nat.le_of_ble_eq_true rfl) (fun l => c_X11_reads l  u_4 h0) (fun _ u_5 => ?_)
        refine sw_aload_n 0 dX11_readPlanLine_73 rfl rfl ?_
        refine sw_getr q_cl11 39 (r := 179) dX11_readPlanLine_74 t_1084 (by decide) h0.1 rfl ?_
        refine sw_iload_n 1 dX11_readPlanLine_77 rfl rfl ?_
        refine sw_iconst (1 : Int32) dX11_readPlanLine_78 (by decide) ?_
        refine sw_iadd dX11_readPlanLine_79 ?_
        refine sw_iload_n 2 dX11_readPlanLine_80 rfl rfl ?_
        refine sw_bipush (19 : Int32) dX11_readPlanLine_81 (by decide) ?_
        refine SW.jn1 96 (fun s0_6 => [(0, .ref (b + 163)), (1, .int x1), (2, .int s0)]) (fun s0_6 => [.int s0_6, .int (x1 + (1 : Int32)), .ref (b + 179)]) (fun s0_6 u_7 => ?_) (fun J96 hJ96 => ?_)
        · refine sw_iast dX11_readPlanLine_96 h0.2.2.2.2.2.2.2.2.2.2.2.2.2.2.2.2.1 (fun u_8 => ?_)
          refine sw_aload_n 0 dX11_readPlanLine_97 rfl rfl ?_
          refine sw_iload_n 1 dX11_readPlanLine_98 rfl rfl ?_
          refine sw_iload_n 2 dX11_readPlanLine_99 rfl rfl ?_
          refine sw_callVi (As := [.int x1, .int s0]) (k := 163) rfl dX11_readPlanLine_100 t_1350 mf_X11_readDeed h0.1 q_cl11 (by decide) (Nat.le_of_ble_eq_true rfl) (fun l => c_X11_readDeed l x1 s0 u_8 h0) (fun r_9 u_10 => ?_)
          refine sw_iconst (-1 : Int32) dX11_readPlanLine_103 (by decide) ?_
          refine sw_icmp_ne 111 dX11_readPlanLine_104 (by decide) ?_ ?_
          · refine sw_iconst (-1 : Int32) dX11_readPlanLine_107 (by decide) ?_
            refine sw_goto 117 dX11_readPlanLine_108 (by decide) ?_
            exact sw_iret dX11_readPlanLine_117
          · refine sw_aload_n 0 dX11_readPlanLine_111 rfl rfl ?_
            refine sw_bipush (59 : Int32) dX11_readPlanLine_112 (by decide) ?_
            refine sw_callVi (As := [.int (59 : Int32)]) (k := 163) rfl dX11_readPlanLine_114 t_1334 mf_X11_readMark h0.1 q_cl11 (by decide) (Nat.le_of_ble_eq_true rfl) (fun l => c_X11_readMark l (59 : Int32) u_10 h0) (fun r_11 u_12 => ?_)
            exact sw_iret dX11_readPlanLine_117
        · refine sw_icmp_ne 90 dX11_readPlanLine_83 (by decide) ?_ ?_
          · refine sw_iconst (0 : Int32) dX11_readPlanLine_86 (by decide) ?_
            refine sw_goto 96 dX11_readPlanLine_87 (by decide) ?_
            exact SW.sub [0, 1, 2] rfl (hJ96 (0 : Int32) u_5)
          · refine sw_iconst (1 : Int32) dX11_readPlanLine_90 (by decide) ?_
            refine sw_iload_n 2 dX11_readPlanLine_91 rfl rfl ?_
            refine sw_iadd dX11_readPlanLine_92 ?_
            refine sw_bipush (21 : Int32) dX11_readPlanLine_93 (by decide) ?_
            refine sw_isub dX11_readPlanLine_95 ?_
            exact SW.sub [0, 1, 2] rfl (hJ96 (((1 : Int32) + s0) - (21 : Int32)) u_5)
      · refine sw_icmp_eq 69 dX11_readPlanLine_48 (by decide) ?_ ?_
        · exact SW.sub [1, 2, 0] rfl (hJ69  u_3)
        · refine sw_aload_n 1 dX11_readPlanLine_51 rfl rfl ?_
          refine sw_iload_n 0 dX11_readPlanLine_52 rfl rfl ?_
          refine sw_bipush (21 : Int32) dX11_readPlanLine_53 (by decide) ?_
          refine sw_bipush (24 : Int32) dX11_readPlanLine_55 (by decide) ?_
          refine sw_callVi (As := [.int s0, .int (21 : Int32), .int (24 : Int32)]) (k := 163) rfl dX11_readPlanLine_57 t_1226 mf_X11_isIn h0.1 q_cl11 (by decide) (Nat.le_of_ble_eq_true rfl) (fun l => c_X11_isIn l s0 (21 : Int32) (24 : Int32) u_3 h0) (fun r_13 u_14 => ?_)
          refine sw_if_ne 69 dX11_readPlanLine_60 (by decide) ?_ ?_
          · refine sw_aload_n 1 dX11_readPlanLine_63 rfl rfl ?_
            refine sw_iconst (1 : Int32) dX11_readPlanLine_64 (by decide) ?_
            refine sw_callVi (As := [.int (1 : Int32)]) (k := 163) rfl dX11_readPlanLine_65 t_1318 mf_X11_errs h0.1 q_cl11 (by decide) (Nat.le_of_ble_eq_true rfl) (fun l => c_X11_errs l (1 : Int32) u_14 h0) (fun r_15 u_16 => ?_)
            exact sw_iret dX11_readPlanLine_68
          · exact SW.sub [1, 2, 0] rfl (hJ69  u_14)
    · refine sw_icmp_ne 43 dX11_readPlanLine_33 (by decide) ?_ ?_
      · refine sw_aload_n 0 dX11_readPlanLine_36 rfl rfl ?_
        refine sw_geti q_cl11 18 dX11_readPlanLine_37 t_1063 (by decide) h0.1 rfl ?_
        refine sw_goto 44 dX11_readPlanLine_40 (by decide) ?_
        exact SW.sub [0, 1] rfl (hJ44 (u_2.1 163 18) u_2)
      · refine sw_iconst (-1 : Int32) dX11_readPlanLine_43 (by decide) ?_
        exact SW.sub [0, 1] rfl (hJ44 (-1 : Int32) u_2)
set_option maxRecDepth 100000 in
theorem w_X11_readPlan_L2 {ι : qI} {b : Nat}  (h0 : is_X11 ι)  {K17 : qS → qR} {K37 : qS → qR} {K46 : Int32 → qS → qR} (hK17 : ∀  (u : qS), SW RX11 cX11_readPlan 2 (some .int) 8 ι b 17 [(0, .ref (b + 163))] [] u (K17  u)) (hK37 : ∀  (u : qS), SW RX11 cX11_readPlan 2 (some .int) 8 ι b 37 [] [] u (K37  u)) (hK46 : ∀ (e1 : Int32) (u : qS), SW RX11 cX11_readPlan 2 (some .int) 8 ι b 46 [(0, .ref (b + 163)), (1, .int e1)] [] u (K46 e1 u)) (fu : Nat) (x1 : Int32) (u : qS) : SW RX11 cX11_readPlan 2 (some .int) 8 ι b 2 [(0, .ref (b + 163)), (1, .int x1)] [] u (q_it1 (m_X11_readPlan_L2 K17 K37 K46) fu x1 u) := by
  refine SW.it1 (fun x1 => [(0, .ref (b + 163)), (1, .int x1)]) (fun self ih x1 u => ?_) fu x1 u
  unfold m_X11_readPlan_L2
  refine sw_aload_n 0 dX11_readPlan_2 rfl rfl ?_
  refine sw_bipush (18 : Int32) dX11_readPlan_3 (by decide) ?_
  refine sw_callVi (As := [.int (18 : Int32)]) (k := 163) rfl dX11_readPlan_5 t_1314 mf_X11_isWord h0.1 q_cl11 (by decide) (Nat.le_of_ble_eq_true rfl) (fun l => c_X11_isWord l (18 : Int32) u h0) (fun r u_1 => ?_)
  refine sw_if_eq 46 dX11_readPlan_8 (by decide) ?_ ?_
  · exact SW.sub [0, 1] rfl (hK46 x1 u_1)
  · refine sw_iload_n 1 dX11_readPlan_11 rfl rfl ?_
    refine sw_bipush (16 : Int32) dX11_readPlan_12 (by decide) ?_
    refine sw_icmp_ne 23 dX11_readPlan_14 (by decide) ?_ ?_
    · exact SW.sub [0] rfl (hK17  u_1)
    · refine sw_aload_n 0 dX11_readPlan_23 rfl rfl ?_
      refine sw_bipush (64 : Int32) dX11_readPlan_24 (by decide) ?_
      refine sw_iconst (4 : Int32) dX11_readPlan_26 (by decide) ?_
      refine sw_iload_n 1 dX11_readPlan_27 rfl rfl ?_
      refine sw_imul dX11_readPlan_28 ?_
      refine sw_iadd dX11_readPlan_29 ?_
      refine sw_callVi (As := [.int ((64 : Int32) + ((4 : Int32) * x1))]) (k := 163) rfl dX11_readPlan_30 t_1346 mf_X11_readPlanLine h0.1 q_cl11 (by decide) (Nat.le_of_ble_eq_true rfl) (fun l => c_X11_readPlanLine l ((64 : Int32) + ((4 : Int32) * x1)) u_1 h0) (fun r_2 u_3 => ?_)
      refine sw_iconst (-1 : Int32) dX11_readPlan_33 (by decide) ?_
      refine sw_icmp_ne 39 dX11_readPlan_34 (by decide) ?_ ?_
      · exact SW.sub [] rfl (hK37  u_3)
      · refine sw_iload_n 1 dX11_readPlan_39 rfl rfl ?_
        refine sw_iconst (1 : Int32) dX11_readPlan_40 (by decide) ?_
        refine sw_iadd dX11_readPlan_41 ?_
        refine SW.name (fun y1 => ?_)
        refine sw_istore_n (lv' := [(1, .int y1), (0, .ref (b + 163))]) dX11_readPlan_42 rfl (by decide) rfl ?_
        refine sw_goto 2 dX11_readPlan_43 (by decide) ?_
        exact SW.sub [1, 0] rfl (ih y1 u_3)
set_option maxRecDepth 100000 in
theorem c_X11_readPlan (l : Launch) {ι : qI} {b : Nat}   (u : qS) (h0 : is_X11 ι) : CN l yX11_readPlan cX11_readPlan 2 (some .int) 8 ι b [.ref (b + 163)] u (m_X11_readPlan  u) := by
  refine CN.of_SW (own := RX11) rfl (by decide) (Nat.le_of_ble_eq_true rfl) [(0, .ref (b + 163))] rfl ?_
  unfold m_X11_readPlan
  refine sw_iconst (0 : Int32) dX11_readPlan_0 (by decide) ?_
  refine sw_istore_n (lv' := [(1, .int (0 : Int32)), (0, .ref (b + 163))]) dX11_readPlan_1 rfl (by decide) rfl ?_
  refine SW.sub (lv' := [(0, .ref (b + 163)), (1, .int (0 : Int32))]) [1, 0] rfl ?_
  refine w_X11_readPlan_L2 h0 (fun u_4 => ?_) (fun u_6 => ?_) (fun x1 u_7 => ?_) q_F (0 : Int32) u
  · refine sw_aload_n 0 dX11_readPlan_17 rfl rfl ?_
    refine sw_iconst (3 : Int32) dX11_readPlan_18 (by decide) ?_
    refine sw_callVi (As := [.int (3 : Int32)]) (k := 163) rfl dX11_readPlan_19 t_1318 mf_X11_errs h0.1 q_cl11 (by decide) (Nat.le_of_ble_eq_true rfl) (fun l => c_X11_errs l (3 : Int32) u_4 h0) (fun r u_5 => ?_)
    exact sw_iret dX11_readPlan_22
  · refine sw_iconst (-1 : Int32) dX11_readPlan_37 (by decide) ?_
    exact sw_iret dX11_readPlan_38
  · refine sw_aload_n 0 dX11_readPlan_46 rfl rfl ?_
    refine sw_geti q_cl11 17 dX11_readPlan_47 t_1062 (by decide) h0.1 rfl ?_
    refine sw_if_ne 57 dX11_readPlan_50 (by decide) ?_ ?_
    · refine sw_iload_n 1 dX11_readPlan_53 rfl rfl ?_
      refine sw_goto 62 dX11_readPlan_54 (by decide) ?_
      exact sw_iret dX11_readPlan_62
    · refine sw_aload_n 0 dX11_readPlan_57 rfl rfl ?_
      refine sw_iconst (1 : Int32) dX11_readPlan_58 (by decide) ?_
      refine sw_callVi (As := [.int (1 : Int32)]) (k := 163) rfl dX11_readPlan_59 t_1318 mf_X11_errs h0.1 q_cl11 (by decide) (Nat.le_of_ble_eq_true rfl) (fun l => c_X11_errs l (1 : Int32) u_7 h0) (fun r_8 u_9 => ?_)
      exact sw_iret dX11_readPlan_62
set_option maxRecDepth 100000 in
theorem c_X11_readsText (l : Launch) {ι : qI} {b : Nat}  (x1 : Int32) (u : qS) (h0 : is_X11 ι) : CN l yX11_readsText cX11_readsText 2 (some .int) 10 ι b [.ref (b + 163), .int x1] u (m_X11_readsText x1 u) := by
  refine CN.of_SW (own := RX11) rfl (by decide) (Nat.le_of_ble_eq_true rfl) [(0, .ref (b + 163)), (1, .int x1)] rfl ?_
  unfold m_X11_readsText
  refine sw_aload_n 0 dX11_readsText_0 rfl rfl ?_
  refine sw_iconst (0 : Int32) dX11_readsText_1 (by decide) ?_
  refine sw_puti q_cl11 27 dX11_readsText_2 t_1072 (by decide) (by decide +kernel) rfl h0.1 rfl (fun u_1 => ?_)
  refine sw_aload_n 0 dX11_readsText_5 rfl rfl ?_
  refine sw_callVv (As := []) (k := 163) rfl dX11_readsText_6 t_1286 mf_X11_reads h0.1 q_cl11 (by decide) (Nat.le_of_ble_eq_true rfl) (fun l => c_X11_reads l  u_1 h0) (fun _ u_2 => ?_)
  refine sw_iload_n 1 dX11_readsText_9 rfl rfl ?_
  refine sw_iconst (1 : Int32) dX11_readsText_10 (by decide) ?_
  refine sw_icmp_ne 19 dX11_readsText_11 (by decide) ?_ ?_
  · refine sw_aload_n 0 dX11_readsText_14 rfl rfl ?_
    refine sw_callVi (As := []) (k := 163) rfl dX11_readsText_15 t_1310 mf_X11_readPaths h0.1 q_cl11 (by decide) (Nat.le_of_ble_eq_true rfl) (fun l => c_X11_readPaths l  u_2 h0) (fun r_6 u_7 => ?_)
    exact sw_iret dX11_readsText_18
  · refine sw_iload_n 1 dX11_readsText_19 rfl rfl ?_
    refine sw_iconst (2 : Int32) dX11_readsText_20 (by decide) ?_
    refine sw_icmp_ne 31 dX11_readsText_21 (by decide) ?_ ?_
    · refine sw_aload_n 0 dX11_readsText_24 rfl rfl ?_
      refine sw_callVi (As := []) (k := 163) rfl dX11_readsText_25 t_1342 mf_X11_readPlan h0.1 q_cl11 (by decide) (Nat.le_of_ble_eq_true rfl) (fun l => c_X11_readPlan l  u_2 h0) (fun r_4 u_5 => ?_)
      refine sw_goto 35 dX11_readsText_28 (by decide) ?_
      exact sw_iret dX11_readsText_35
    · refine sw_aload_n 0 dX11_readsText_31 rfl rfl ?_
      refine sw_callVi (As := []) (k := 163) rfl dX11_readsText_32 t_1354 mf_X11_readLaw h0.1 q_cl11 (by decide) (Nat.le_of_ble_eq_true rfl) (fun l => c_X11_readLaw l  u_2 h0) (fun r u_3 => ?_)
      exact sw_iret dX11_readsText_35
set_option maxRecDepth 100000 in
theorem w_X11_takesOther_L44 {ι : qI} {b : Nat}  (h0 : is_X11 ι) (x2 : Int32) {K72 : qS → qR} (hK72 : ∀  (u : qS), SW RX11 cX11_takesOther 4 none 1 ι b 72 [(0, .ref (b + 163)), (2, .int x2)] [] u (K72  u)) (fu : Nat) (x3 : Int32) (u : qS) : SW RX11 cX11_takesOther 4 none 1 ι b 44 [(0, .ref (b + 163)), (2, .int x2), (3, .int x3)] [] u (q_it1 (m_X11_takesOther_L44 x2 K72) fu x3 u) := by
  refine SW.it1 (fun x3 => [(0, .ref (b + 163)), (2, .int x2), (3, .int x3)]) (fun self ih x3 u => ?_) fu x3 u
  unfold m_X11_takesOther_L44
  refine sw_iload_n 2 dX11_takesOther_44 rfl rfl ?_
  refine sw_iconst (4 : Int32) dX11_takesOther_45 (by decide) ?_
  refine sw_iload_n 1 dX11_takesOther_46 rfl rfl ?_
  refine sw_imul dX11_takesOther_47 ?_
  refine sw_icmp_ge 72 dX11_takesOther_48 (by decide) ?_ ?_
  · exact SW.sub [0, 1] rfl (hK72  u)
  · refine sw_aload_n 0 dX11_takesOther_51 rfl rfl ?_
    refine sw_getr q_cl11 39 (r := 179) dX11_takesOther_52 t_1084 (by decide) h0.1 rfl ?_
    refine sw_iload_n 2 dX11_takesOther_55 rfl rfl ?_
    refine sw_aload_n 0 dX11_takesOther_56 rfl rfl ?_
    refine sw_getr q_cl11 39 (r := 179) dX11_takesOther_57 t_1084 (by decide) h0.1 rfl ?_
    refine sw_bipush (64 : Int32) dX11_takesOther_60 (by decide) ?_
    refine sw_iload_n 2 dX11_takesOther_62 rfl rfl ?_
    refine sw_iadd dX11_takesOther_63 ?_
    refine sw_iald dX11_takesOther_64 h0.2.2.2.2.2.2.2.2.2.2.2.2.2.2.2.2.1 (fun a => ?_)
    refine sw_iast dX11_takesOther_65 h0.2.2.2.2.2.2.2.2.2.2.2.2.2.2.2.2.1 (fun u_3 => ?_)
    refine sw_iinc (lv' := [(3, .int (x3 + (1 : Int32))), (0, .ref (b + 163)), (2, .int x2)]) 2 dX11_takesOther_66 rfl (congrArg (x3 + ·) (by decide)) (by decide) rfl ?_
    refine sw_goto 44 dX11_takesOther_69 (by decide) ?_
    exact SW.sub [1, 2, 0] rfl (ih (x3 + (1 : Int32)) u_3)
set_option maxRecDepth 100000 in
theorem w_X11_takesOther_L7 {ι : qI} {b : Nat}  (h0 : is_X11 ι) (x2 : Int32) {K34 : qS → qR} (hK34 : ∀  (u : qS), SW RX11 cX11_takesOther 4 none 1 ι b 34 [(0, .ref (b + 163)), (2, .int x2)] [] u (K34  u)) (fu : Nat) (x3 : Int32) (u : qS) : SW RX11 cX11_takesOther 4 none 1 ι b 7 [(0, .ref (b + 163)), (2, .int x2), (3, .int x3)] [] u (q_it1 (m_X11_takesOther_L7 x2 K34) fu x3 u) := by
  refine SW.it1 (fun x3 => [(0, .ref (b + 163)), (2, .int x2), (3, .int x3)]) (fun self ih x3 u => ?_) fu x3 u
  unfold m_X11_takesOther_L7
  refine sw_iload_n 2 dX11_takesOther_7 rfl rfl ?_
  refine sw_bipush (90 : Int32) dX11_takesOther_8 (by decide) ?_
  refine sw_icmp_ge 34 dX11_takesOther_10 (by decide) ?_ ?_
  · exact SW.sub [0, 1] rfl (hK34  u)
  · refine sw_aload_n 0 dX11_takesOther_13 rfl rfl ?_
    refine sw_getr q_cl11 37 (r := 178) dX11_takesOther_14 t_1082 (by decide) h0.1 rfl ?_
    refine sw_iload_n 2 dX11_takesOther_17 rfl rfl ?_
    refine sw_aload_n 0 dX11_takesOther_18 rfl rfl ?_
    refine sw_getr q_cl11 37 (r := 178) dX11_takesOther_19 t_1082 (by decide) h0.1 rfl ?_
    refine sw_bipush (90 : Int32) dX11_takesOther_22 (by decide) ?_
    refine sw_iload_n 2 dX11_takesOther_24 rfl rfl ?_
    refine sw_iadd dX11_takesOther_25 ?_
    refine sw_iald dX11_takesOther_26 h0.2.2.2.2.2.2.2.2.2.2.2.2.2.2.2.1 (fun a => ?_)
    refine sw_iast dX11_takesOther_27 h0.2.2.2.2.2.2.2.2.2.2.2.2.2.2.2.1 (fun u_6 => ?_)
    refine sw_iinc (lv' := [(3, .int (x3 + (1 : Int32))), (0, .ref (b + 163)), (2, .int x2)]) 2 dX11_takesOther_28 rfl (congrArg (x3 + ·) (by decide)) (by decide) rfl ?_
    refine sw_goto 7 dX11_takesOther_31 (by decide) ?_
    exact SW.sub [1, 2, 0] rfl (ih (x3 + (1 : Int32)) u_6)
set_option maxRecDepth 100000 in
theorem c_X11_takesOther (l : Launch) {ι : qI} {b : Nat}  (x1 : Int32) (x2 : Int32) (u : qS) (h0 : is_X11 ι) : CN l yX11_takesOther cX11_takesOther 4 none 1 ι b [.ref (b + 163), .int x1, .int x2] u (m_X11_takesOther x1 x2 u) := by
  refine CN.of_SW (own := RX11) rfl (by decide) (Nat.le_of_ble_eq_true rfl) [(0, .ref (b + 163)), (1, .int x1), (2, .int x2)] rfl ?_
  unfold m_X11_takesOther
  refine sw_iload_n 1 dX11_takesOther_0 rfl rfl ?_
  refine sw_iconst (1 : Int32) dX11_takesOther_1 (by decide) ?_
  refine SW.jn0 77 ([(0, .ref (b + 163))]) ([]) (fun  u_1 => ?_) (fun J77 hJ77 => ?_)
  · refine sw_aload_n 0 dX11_takesOther_77 rfl rfl ?_
    refine sw_iconst (0 : Int32) dX11_takesOther_78 (by decide) ?_
    refine sw_puti q_cl11 3 dX11_takesOther_79 t_1048 (by decide) (by decide +kernel) rfl h0.1 rfl (fun u_2 => ?_)
    exact sw_vret dX11_takesOther_82
  · refine sw_icmp_ne 42 dX11_takesOther_2 (by decide) ?_ ?_
    · refine sw_iconst (0 : Int32) dX11_takesOther_5 (by decide) ?_
      refine sw_istore_n (lv' := [(3, .int (0 : Int32)), (0, .ref (b + 163)), (1, .int x1), (2, .int x2)]) dX11_takesOther_6 rfl (by decide) rfl ?_
      refine SW.sub (lv' := [(0, .ref (b + 163)), (2, .int x2), (3, .int (0 : Int32))]) [1, 3, 0] rfl ?_
      refine w_X11_takesOther_L7 h0 x2 (fun u_7 => ?_) q_F (0 : Int32) u
      refine sw_aload_n 0 dX11_takesOther_34 rfl rfl ?_
      refine sw_iload_n 1 dX11_takesOther_35 rfl rfl ?_
      refine sw_puti q_cl11 36 dX11_takesOther_36 t_1081 (by decide) (by decide +kernel) rfl h0.1 rfl (fun u_8 => ?_)
      refine sw_goto 77 dX11_takesOther_39 (by decide) ?_
      exact SW.sub [0] rfl (hJ77  u_8)
    · refine sw_iconst (0 : Int32) dX11_takesOther_42 (by decide) ?_
      refine sw_istore_n (lv' := [(3, .int (0 : Int32)), (0, .ref (b + 163)), (1, .int x1), (2, .int x2)]) dX11_takesOther_43 rfl (by decide) rfl ?_
      refine SW.sub (lv' := [(0, .ref (b + 163)), (2, .int x2), (3, .int (0 : Int32))]) [1, 3, 0] rfl ?_
      refine w_X11_takesOther_L44 h0 x2 (fun u_4 => ?_) q_F (0 : Int32) u
      refine sw_aload_n 0 dX11_takesOther_72 rfl rfl ?_
      refine sw_iload_n 1 dX11_takesOther_73 rfl rfl ?_
      refine sw_puti q_cl11 38 dX11_takesOther_74 t_1083 (by decide) (by decide +kernel) rfl h0.1 rfl (fun u_5 => ?_)
      exact SW.sub [0] rfl (hJ77  u_5)
set_option maxRecDepth 100000 in
theorem c_X11_text (l : Launch) {ι : qI} {b : Nat}  (x1 : Int32) (u : qS) (h0 : is_X11 ι) : CN l yX11_text cX11_text 3 (some .int) 11 ι b [.ref (b + 163), .int x1] u (m_X11_text x1 u) := by
  refine CN.of_SW (own := RX11) rfl (by decide) (Nat.le_of_ble_eq_true rfl) [(0, .ref (b + 163)), (1, .int x1)] rfl ?_
  unfold m_X11_text
  refine sw_aload_n 0 dX11_text_0 rfl rfl ?_
  refine sw_iconst (0 : Int32) dX11_text_1 (by decide) ?_
  refine sw_puti q_cl11 0 dX11_text_2 t_1045 (by decide) (by decide +kernel) rfl h0.1 rfl (fun u_1 => ?_)
  refine sw_aload_n 0 dX11_text_5 rfl rfl ?_
  refine sw_iconst (0 : Int32) dX11_text_6 (by decide) ?_
  refine sw_puti q_cl11 34 dX11_text_7 t_1079 (by decide) (by decide +kernel) rfl h0.1 rfl (fun u_2 => ?_)
  refine sw_aload_n 0 dX11_text_10 rfl rfl ?_
  refine sw_iconst (-1 : Int32) dX11_text_11 (by decide) ?_
  refine sw_puti q_cl11 35 dX11_text_12 t_1080 (by decide) (by decide +kernel) rfl h0.1 rfl (fun u_3 => ?_)
  refine sw_aload_n 0 dX11_text_15 rfl rfl ?_
  refine sw_iconst (0 : Int32) dX11_text_16 (by decide) ?_
  refine sw_puti q_cl11 15 dX11_text_17 t_1060 (by decide) (by decide +kernel) rfl h0.1 rfl (fun u_4 => ?_)
  refine sw_aload_n 0 dX11_text_20 rfl rfl ?_
  refine sw_iconst (0 : Int32) dX11_text_21 (by decide) ?_
  refine sw_puti q_cl11 28 dX11_text_22 t_1073 (by decide) (by decide +kernel) rfl h0.1 rfl (fun u_5 => ?_)
  refine sw_aload_n 0 dX11_text_25 rfl rfl ?_
  refine sw_iconst (0 : Int32) dX11_text_26 (by decide) ?_
  refine sw_puti q_cl11 29 dX11_text_27 t_1074 (by decide) (by decide +kernel) rfl h0.1 rfl (fun u_6 => ?_)
  refine sw_iconst (-1 : Int32) dX11_text_30 (by decide) ?_
  refine sw_istore_n (lv' := [(2, .int (-1 : Int32)), (0, .ref (b + 163)), (1, .int x1)]) dX11_text_31 rfl (by decide) rfl ?_
  refine sw_aload_n 1 dX11_text_32 rfl rfl ?_
  refine sw_iload_n 2 dX11_text_33 rfl rfl ?_
  refine sw_iconst (0 : Int32) dX11_text_34 (by decide) ?_
  refine sw_iconst (2 : Int32) dX11_text_35 (by decide) ?_
  refine sw_callVi (As := [.int x1, .int (0 : Int32), .int (2 : Int32)]) (k := 163) rfl dX11_text_36 t_1226 mf_X11_isIn h0.1 q_cl11 (by decide) (Nat.le_of_ble_eq_true rfl) (fun l => c_X11_isIn l x1 (0 : Int32) (2 : Int32) u_6 h0) (fun r u_7 => ?_)
  refine SW.jn1 69 (fun x2 => [(0, .ref (b + 163)), (1, .int x1), (2, .int x2)]) (fun x2 => []) (fun x2 u_8 => ?_) (fun J69 hJ69 => ?_)
  · refine sw_aload_n 0 dX11_text_69 rfl rfl ?_
    refine sw_iconst (0 : Int32) dX11_text_70 (by decide) ?_
    refine sw_puti q_cl11 14 dX11_text_71 t_1059 (by decide) (by decide +kernel) rfl h0.1 rfl (fun u_9 => ?_)
    refine sw_iload_n 2 dX11_text_74 rfl rfl ?_
    refine sw_iconst (-1 : Int32) dX11_text_75 (by decide) ?_
    refine sw_icmp_ne 81 dX11_text_76 (by decide) ?_ ?_
    · refine sw_iconst (-1 : Int32) dX11_text_79 (by decide) ?_
      exact sw_iret dX11_text_80
    · refine sw_iload_n 1 dX11_text_81 rfl rfl ?_
      refine sw_if_ne 93 dX11_text_82 (by decide) ?_ ?_
      · refine sw_aload_n 0 dX11_text_85 rfl rfl ?_
        refine sw_iload_n 2 dX11_text_86 rfl rfl ?_
        refine sw_callVv (As := [.int x2]) (k := 163) rfl dX11_text_87 t_1398 mf_X11_takesLaw h0.1 q_cl11 (by decide) (Nat.le_of_ble_eq_true rfl) (fun l => c_X11_takesLaw l x2 u_9 h0) (fun _ u_11 => ?_)
        refine sw_goto 99 dX11_text_90 (by decide) ?_
        refine sw_iload_n 2 dX11_text_99 rfl rfl ?_
        exact sw_iret dX11_text_100
      · refine sw_aload_n 0 dX11_text_93 rfl rfl ?_
        refine sw_iload_n 1 dX11_text_94 rfl rfl ?_
        refine sw_iload_n 2 dX11_text_95 rfl rfl ?_
        refine sw_callVv (As := [.int x1, .int x2]) (k := 163) rfl dX11_text_96 t_1402 mf_X11_takesOther h0.1 q_cl11 (by decide) (Nat.le_of_ble_eq_true rfl) (fun l => c_X11_takesOther l x1 x2 u_9 h0) (fun _ u_10 => ?_)
        refine sw_iload_n 2 dX11_text_99 rfl rfl ?_
        exact sw_iret dX11_text_100
  · refine sw_if_eq 69 dX11_text_39 (by decide) ?_ ?_
    · exact SW.sub [1, 2, 0] rfl (hJ69 (-1 : Int32) u_7)
    · refine sw_aload_n 1 dX11_text_42 rfl rfl ?_
      refine sw_iload_n 2 dX11_text_43 rfl rfl ?_
      refine sw_callVi (As := [.int x1]) (k := 163) rfl dX11_text_44 t_1282 mf_X11_readsText h0.1 q_cl11 (by decide) (Nat.le_of_ble_eq_true rfl) (fun l => c_X11_readsText l x1 u_7 h0) (fun r_12 u_13 => ?_)
      refine sw_istore_n (lv' := [(2, .int r_12), (0, .ref (b + 163)), (1, .int x1)]) dX11_text_47 rfl (by decide) rfl ?_
      refine sw_iload_n 0 dX11_text_48 rfl rfl ?_
      refine sw_iconst (-1 : Int32) dX11_text_49 (by decide) ?_
      refine sw_icmp_ne 69 dX11_text_50 (by decide) ?_ ?_
      · refine sw_aload_n 1 dX11_text_53 rfl rfl ?_
        refine sw_aload_n 1 dX11_text_54 rfl rfl ?_
        refine sw_geti q_cl11 32 dX11_text_55 t_1077 (by decide) h0.1 rfl ?_
        refine sw_puti q_cl11 34 dX11_text_58 t_1079 (by decide) (by decide +kernel) rfl h0.1 rfl (fun u_14 => ?_)
        refine sw_aload_n 1 dX11_text_61 rfl rfl ?_
        refine sw_aload_n 1 dX11_text_62 rfl rfl ?_
        refine sw_geti q_cl11 33 dX11_text_63 t_1078 (by decide) h0.1 rfl ?_
        refine sw_puti q_cl11 35 dX11_text_66 t_1080 (by decide) (by decide +kernel) rfl h0.1 rfl (fun u_15 => ?_)
        exact SW.sub [1, 2, 0] rfl (hJ69 r_12 u_15)
      · exact SW.sub [1, 2, 0] rfl (hJ69 r_12 u_13)
set_option maxRecDepth 100000 in
theorem c_X11_fault (l : Launch) {ι : qI} {b : Nat}  (x1 : Int32) (u : qS) (h0 : is_X11 ι) : CN l yX11_fault cX11_fault 2 (some .int) 1 ι b [.ref (b + 163), .int x1] u (m_X11_fault x1 u) := by
  refine CN.of_SW (own := RX11) rfl (by decide) (Nat.le_of_ble_eq_true rfl) [(0, .ref (b + 163)), (1, .int x1)] rfl ?_
  unfold m_X11_fault
  refine sw_aload_n 0 dX11_fault_0 rfl rfl ?_
  refine sw_iconst (0 : Int32) dX11_fault_1 (by decide) ?_
  refine sw_puti q_cl11 0 dX11_fault_2 t_1045 (by decide) (by decide +kernel) rfl h0.1 rfl (fun u_1 => ?_)
  refine sw_iload_n 1 dX11_fault_5 rfl rfl ?_
  refine sw_if_ne 16 dX11_fault_6 (by decide) ?_ ?_
  · refine sw_aload_n 0 dX11_fault_9 rfl rfl ?_
    refine sw_geti q_cl11 34 dX11_fault_10 t_1079 (by decide) h0.1 rfl ?_
    refine sw_goto 29 dX11_fault_13 (by decide) ?_
    exact sw_iret dX11_fault_29
  · refine sw_iload_n 1 dX11_fault_16 rfl rfl ?_
    refine sw_iconst (1 : Int32) dX11_fault_17 (by decide) ?_
    refine sw_icmp_ne 28 dX11_fault_18 (by decide) ?_ ?_
    · refine sw_aload_n 0 dX11_fault_21 rfl rfl ?_
      refine sw_geti q_cl11 35 dX11_fault_22 t_1080 (by decide) h0.1 rfl ?_
      refine sw_goto 29 dX11_fault_25 (by decide) ?_
      exact sw_iret dX11_fault_29
    · refine sw_iconst (-1 : Int32) dX11_fault_28 (by decide) ?_
      exact sw_iret dX11_fault_29
set_option maxRecDepth 100000 in
theorem c_X11_twoOf (l : Launch) {ι : qI} {b : Nat}  (x1 : Int32) (x2 : Int32) (x3 : Int32) (u : qS) (h0 : is_X11 ι) : CN l yX11_twoOf cX11_twoOf 4 (some .int) 1 ι b [.ref (b + 163), .int x1, .int x2, .int x3] u (m_X11_twoOf x1 x2 x3 u) := by
  refine CN.of_SW (own := RX11) rfl (by decide) (Nat.le_of_ble_eq_true rfl) [(0, .ref (b + 163)), (1, .int x1), (2, .int x2), (3, .int x3)] rfl ?_
  unfold m_X11_twoOf
  refine sw_iload_n 1 dX11_twoOf_0 rfl rfl ?_
  refine sw_iconst (2 : Int32) dX11_twoOf_1 (by decide) ?_
  refine sw_icmp_ne 9 dX11_twoOf_2 (by decide) ?_ ?_
  · refine sw_iload_n 2 dX11_twoOf_5 rfl rfl ?_
    refine sw_iload_n 3 dX11_twoOf_6 rfl rfl ?_
    refine sw_iadd dX11_twoOf_7 ?_
    exact sw_iret dX11_twoOf_8
  · refine sw_iload_n 1 dX11_twoOf_9 rfl rfl ?_
    refine sw_iconst (3 : Int32) dX11_twoOf_10 (by decide) ?_
    refine sw_icmp_ne 18 dX11_twoOf_11 (by decide) ?_ ?_
    · refine sw_iload_n 2 dX11_twoOf_14 rfl rfl ?_
      refine sw_iload_n 3 dX11_twoOf_15 rfl rfl ?_
      refine sw_isub dX11_twoOf_16 ?_
      exact sw_iret dX11_twoOf_17
    · refine sw_iload_n 1 dX11_twoOf_18 rfl rfl ?_
      refine sw_iconst (4 : Int32) dX11_twoOf_19 (by decide) ?_
      refine sw_icmp_ne 27 dX11_twoOf_20 (by decide) ?_ ?_
      · refine sw_iload_n 2 dX11_twoOf_23 rfl rfl ?_
        refine sw_iload_n 3 dX11_twoOf_24 rfl rfl ?_
        refine sw_imul dX11_twoOf_25 ?_
        exact sw_iret dX11_twoOf_26
      · refine sw_iload_n 1 dX11_twoOf_27 rfl rfl ?_
        refine sw_iconst (5 : Int32) dX11_twoOf_28 (by decide) ?_
        refine sw_icmp_ne 36 dX11_twoOf_29 (by decide) ?_ ?_
        · refine sw_iload_n 2 dX11_twoOf_32 rfl rfl ?_
          refine sw_iload_n 3 dX11_twoOf_33 rfl rfl ?_
          refine sw_idiv dX11_twoOf_34 (fun a => ?_)
          exact sw_iret dX11_twoOf_35
        · refine sw_iload_n 1 dX11_twoOf_36 rfl rfl ?_
          refine sw_bipush (6 : Int32) dX11_twoOf_37 (by decide) ?_
          refine sw_icmp_ne 53 dX11_twoOf_39 (by decide) ?_ ?_
          · refine sw_iload_n 2 dX11_twoOf_42 rfl rfl ?_
            refine sw_iload_n 3 dX11_twoOf_43 rfl rfl ?_
            refine sw_icmp_ge 51 dX11_twoOf_44 (by decide) ?_ ?_
            · refine sw_iconst (0 : Int32) dX11_twoOf_51 (by decide) ?_
              exact sw_iret dX11_twoOf_52
            · refine sw_iconst (1 : Int32) dX11_twoOf_47 (by decide) ?_
              refine sw_goto 52 dX11_twoOf_48 (by decide) ?_
              exact sw_iret dX11_twoOf_52
          · refine sw_iload_n 1 dX11_twoOf_53 rfl rfl ?_
            refine sw_bipush (7 : Int32) dX11_twoOf_54 (by decide) ?_
            refine sw_icmp_ne 70 dX11_twoOf_56 (by decide) ?_ ?_
            · refine sw_iload_n 2 dX11_twoOf_59 rfl rfl ?_
              refine sw_iload_n 3 dX11_twoOf_60 rfl rfl ?_
              refine sw_icmp_ne 68 dX11_twoOf_61 (by decide) ?_ ?_
              · refine sw_iconst (1 : Int32) dX11_twoOf_64 (by decide) ?_
                refine sw_goto 69 dX11_twoOf_65 (by decide) ?_
                exact sw_iret dX11_twoOf_69
              · refine sw_iconst (0 : Int32) dX11_twoOf_68 (by decide) ?_
                exact sw_iret dX11_twoOf_69
            · refine sw_iload_n 1 dX11_twoOf_70 rfl rfl ?_
              refine sw_bipush (8 : Int32) dX11_twoOf_71 (by decide) ?_
              refine sw_icmp_ne 87 dX11_twoOf_73 (by decide) ?_ ?_
              · refine sw_iload_n 2 dX11_twoOf_76 rfl rfl ?_
                refine sw_iload_n 3 dX11_twoOf_77 rfl rfl ?_
                refine sw_icmp_le 85 dX11_twoOf_78 (by decide) ?_ ?_
                · refine sw_iconst (0 : Int32) dX11_twoOf_85 (by decide) ?_
                  exact sw_iret dX11_twoOf_86
                · refine sw_iconst (1 : Int32) dX11_twoOf_81 (by decide) ?_
                  refine sw_goto 86 dX11_twoOf_82 (by decide) ?_
                  exact sw_iret dX11_twoOf_86
              · refine sw_iload_n 1 dX11_twoOf_87 rfl rfl ?_
                refine sw_bipush (10 : Int32) dX11_twoOf_88 (by decide) ?_
                refine sw_icmp_ne 99 dX11_twoOf_90 (by decide) ?_ ?_
                · refine sw_iload_n 2 dX11_twoOf_93 rfl rfl ?_
                  refine sw_iload_n 3 dX11_twoOf_94 rfl rfl ?_
                  refine sw_imul dX11_twoOf_95 ?_
                  refine sw_goto 110 dX11_twoOf_96 (by decide) ?_
                  exact sw_iret dX11_twoOf_110
                · refine sw_iload_n 2 dX11_twoOf_99 rfl rfl ?_
                  refine sw_iload_n 3 dX11_twoOf_100 rfl rfl ?_
                  refine sw_iadd dX11_twoOf_101 ?_
                  refine sw_if_le 109 dX11_twoOf_102 (by decide) ?_ ?_
                  · refine sw_iconst (0 : Int32) dX11_twoOf_109 (by decide) ?_
                    exact sw_iret dX11_twoOf_110
                  · refine sw_iconst (1 : Int32) dX11_twoOf_105 (by decide) ?_
                    refine sw_goto 110 dX11_twoOf_106 (by decide) ?_
                    exact sw_iret dX11_twoOf_110
set_option maxRecDepth 100000 in
theorem w_X11_runs_L12 {ι : qI} {b : Nat}  (h0 : is_X11 ι) (x1 : Int32) (x3 : Int32) {K176 : qS → qR} (hK176 : ∀  (u : qS), SW RX11 cX11_runs 6 (some .int) 2 ι b 176 [(0, .ref (b + 163))] [] u (K176  u)) (fu : Nat) (x4 : Int32) (x5 : Int32) (u : qS) : SW RX11 cX11_runs 6 (some .int) 2 ι b 12 [(0, .ref (b + 163)), (1, .int x1), (3, .int x3), (4, .int x4), (5, .int x5)] [] u (q_it2 (m_X11_runs_L12 x1 x3 K176) fu x4 x5 u) := by
  refine SW.it2 (fun x4 x5 => [(0, .ref (b + 163)), (1, .int x1), (3, .int x3), (4, .int x4), (5, .int x5)]) (fun self ih x4 x5 u => ?_) fu x4 x5 u
  unfold m_X11_runs_L12
  refine sw_iload 4 dX11_runs_12 rfl ?_
  refine sw_sipush (400 : Int32) dX11_runs_14 (by decide) ?_
  refine sw_iload_n 1 dX11_runs_17 rfl rfl ?_
  refine sw_imul dX11_runs_18 ?_
  refine sw_iload_n 2 dX11_runs_19 rfl rfl ?_
  refine sw_iadd dX11_runs_20 ?_
  refine sw_icmp_ge 176 dX11_runs_21 (by decide) ?_ ?_
  · exact SW.sub [0] rfl (hK176  u)
  · refine sw_aload_n 0 dX11_runs_24 rfl rfl ?_
    refine sw_getr q_cl11 25 (r := 175) dX11_runs_25 t_1070 (by decide) h0.1 rfl ?_
    refine sw_iload 4 dX11_runs_28 rfl ?_
    refine sw_iald dX11_runs_30 h0.2.2.2.2.2.2.2.2.2.2.2.2.1 (fun a => ?_)
    refine SW.jn1 170 (fun x4_1 => [(0, .ref (b + 163)), (1, .int x1), (3, .int x3), (4, .int x4_1), (5, .int x5)]) (fun x4_1 => []) (fun x4_1 u_2 => ?_) (fun J170 hJ170 => ?_)
    · refine sw_iinc (lv' := [(5, .int (x5 + (1 : Int32))), (0, .ref (b + 163)), (1, .int x1), (3, .int x3), (4, .int x4_1)]) 4 dX11_runs_170 rfl (congrArg (x5 + ·) (by decide)) (by decide) rfl ?_
      refine sw_goto 12 dX11_runs_173 (by decide) ?_
      exact SW.sub [1, 2, 3, 4, 0] rfl (ih x4_1 (x5 + (1 : Int32)) u_2)
    · refine SW.jn0 45 ([(0, .ref (b + 163)), (1, .int x1), (3, .int x3), (4, .int x4), (5, .int x5)]) ([]) (fun  u_3 => ?_) (fun J45 hJ45 => ?_)
      · refine sw_aload_n 0 dX11_runs_45 rfl rfl ?_
        refine sw_getr q_cl11 41 (r := 181) dX11_runs_46 t_1086 (by decide) h0.1 rfl ?_
        refine sw_iload 3 dX11_runs_49 rfl ?_
        refine sw_aload_n 0 dX11_runs_51 rfl rfl ?_
        refine sw_getr q_cl11 25 (r := 175) dX11_runs_52 t_1070 (by decide) h0.1 rfl ?_
        refine sw_iload 4 dX11_runs_55 rfl ?_
        refine sw_iald dX11_runs_57 h0.2.2.2.2.2.2.2.2.2.2.2.2.1 (fun a_4 => ?_)
        refine SW.jn1 83 (fun s0 => [(0, .ref (b + 163)), (1, .int x1), (3, .int x3), (4, .int x4), (5, .int x5)]) (fun s0 => [.int s0, .int x4, .ref (b + 181)]) (fun s0 u_5 => ?_) (fun J83 hJ83 => ?_)
        · refine sw_iast dX11_runs_83 h0.2.2.2.2.2.2.2.2.2.2.2.2.2.2.2.2.2.2.1 (fun u_6 => ?_)
          refine sw_iload 3 dX11_runs_84 rfl ?_
          refine sw_iconst (1 : Int32) dX11_runs_86 (by decide) ?_
          refine sw_iadd dX11_runs_87 ?_
          refine SW.name (fun y4 => ?_)
          refine sw_istore (lv' := [(4, .int y4), (0, .ref (b + 163)), (1, .int x1), (3, .int x3), (5, .int x5)]) dX11_runs_88 (by decide) rfl ?_
          refine sw_goto 170 dX11_runs_90 (by decide) ?_
          exact SW.sub [1, 2, 3, 0, 4] rfl (hJ170 y4 u_6)
        · refine sw_if_ne 71 dX11_runs_58 (by decide) ?_ ?_
          · refine sw_aload_n 0 dX11_runs_61 rfl rfl ?_
            refine sw_getr q_cl11 26 (r := 176) dX11_runs_62 t_1071 (by decide) h0.1 rfl ?_
            refine sw_iload 4 dX11_runs_65 rfl ?_
            refine sw_iald dX11_runs_67 h0.2.2.2.2.2.2.2.2.2.2.2.2.2.1 (fun a_9 => ?_)
            refine sw_goto 83 dX11_runs_68 (by decide) ?_
            exact SW.sub [0, 1, 2, 3, 4] rfl (hJ83 a_9 u_3)
          · refine sw_aload_n 0 dX11_runs_71 rfl rfl ?_
            refine sw_getr q_cl11 40 (r := 180) dX11_runs_72 t_1085 (by decide) h0.1 rfl ?_
            refine sw_aload_n 0 dX11_runs_75 rfl rfl ?_
            refine sw_getr q_cl11 26 (r := 176) dX11_runs_76 t_1071 (by decide) h0.1 rfl ?_
            refine sw_iload 4 dX11_runs_79 rfl ?_
            refine sw_iald dX11_runs_81 h0.2.2.2.2.2.2.2.2.2.2.2.2.2.1 (fun a_7 => ?_)
            refine sw_iald dX11_runs_82 h0.2.2.2.2.2.2.2.2.2.2.2.2.2.2.2.2.2.1 (fun a_8 => ?_)
            exact SW.sub [0, 1, 2, 3, 4] rfl (hJ83 a_8 u_3)
      · refine sw_if_eq 45 dX11_runs_31 (by decide) ?_ ?_
        · exact SW.sub [0, 1, 2, 3, 4] rfl (hJ45  u)
        · refine sw_aload_n 0 dX11_runs_34 rfl rfl ?_
          refine sw_getr q_cl11 25 (r := 175) dX11_runs_35 t_1070 (by decide) h0.1 rfl ?_
          refine sw_iload 4 dX11_runs_38 rfl ?_
          refine sw_iald dX11_runs_40 h0.2.2.2.2.2.2.2.2.2.2.2.2.1 (fun a_10 => ?_)
          refine sw_iconst (1 : Int32) dX11_runs_41 (by decide) ?_
          refine sw_icmp_ne 93 dX11_runs_42 (by decide) ?_ ?_
          · exact SW.sub [0, 1, 2, 3, 4] rfl (hJ45  u)
          · refine sw_aload_n 0 dX11_runs_93 rfl rfl ?_
            refine sw_getr q_cl11 25 (r := 175) dX11_runs_94 t_1070 (by decide) h0.1 rfl ?_
            refine sw_iload 4 dX11_runs_97 rfl ?_
            refine sw_iald dX11_runs_99 h0.2.2.2.2.2.2.2.2.2.2.2.2.1 (fun a_11 => ?_)
            refine sw_bipush (9 : Int32) dX11_runs_100 (by decide) ?_
            refine sw_icmp_ne 128 dX11_runs_102 (by decide) ?_ ?_
            · refine sw_aload_n 0 dX11_runs_105 rfl rfl ?_
              refine sw_getr q_cl11 41 (r := 181) dX11_runs_106 t_1086 (by decide) h0.1 rfl ?_
              refine sw_iload 3 dX11_runs_109 rfl ?_
              refine sw_iconst (1 : Int32) dX11_runs_111 (by decide) ?_
              refine sw_isub dX11_runs_112 ?_
              refine sw_iconst (1 : Int32) dX11_runs_113 (by decide) ?_
              refine sw_aload_n 0 dX11_runs_114 rfl rfl ?_
              refine sw_getr q_cl11 41 (r := 181) dX11_runs_115 t_1086 (by decide) h0.1 rfl ?_
              refine sw_iload 3 dX11_runs_118 rfl ?_
              refine sw_iconst (1 : Int32) dX11_runs_120 (by decide) ?_
              refine sw_isub dX11_runs_121 ?_
              refine sw_iald dX11_runs_122 h0.2.2.2.2.2.2.2.2.2.2.2.2.2.2.2.2.2.2.1 (fun a_18 => ?_)
              refine sw_isub dX11_runs_123 ?_
              refine sw_iast dX11_runs_124 h0.2.2.2.2.2.2.2.2.2.2.2.2.2.2.2.2.2.2.1 (fun u_19 => ?_)
              refine sw_goto 170 dX11_runs_125 (by decide) ?_
              exact SW.sub [0, 1, 2, 3, 4] rfl (hJ170 x4 u_19)
            · refine sw_iload 3 dX11_runs_128 rfl ?_
              refine sw_iconst (1 : Int32) dX11_runs_130 (by decide) ?_
              refine sw_isub dX11_runs_131 ?_
              refine SW.name (fun y4_12 => ?_)
              refine sw_istore (lv' := [(4, .int y4_12), (0, .ref (b + 163)), (1, .int x1), (3, .int x3), (5, .int x5)]) dX11_runs_132 (by decide) rfl ?_
              refine sw_aload_n 1 dX11_runs_134 rfl rfl ?_
              refine sw_getr q_cl11 41 (r := 181) dX11_runs_135 t_1086 (by decide) h0.1 rfl ?_
              refine sw_iload 0 dX11_runs_138 rfl ?_
              refine sw_iconst (1 : Int32) dX11_runs_140 (by decide) ?_
              refine sw_isub dX11_runs_141 ?_
              refine sw_aload_n 1 dX11_runs_142 rfl rfl ?_
              refine sw_aload_n 1 dX11_runs_143 rfl rfl ?_
              refine sw_getr q_cl11 25 (r := 175) dX11_runs_144 t_1070 (by decide) h0.1 rfl ?_
              refine sw_iload 4 dX11_runs_147 rfl ?_
              refine sw_iald dX11_runs_149 h0.2.2.2.2.2.2.2.2.2.2.2.2.1 (fun a_13 => ?_)
              refine sw_aload_n 1 dX11_runs_150 rfl rfl ?_
              refine sw_getr q_cl11 41 (r := 181) dX11_runs_151 t_1086 (by decide) h0.1 rfl ?_
              refine sw_iload 0 dX11_runs_154 rfl ?_
              refine sw_iconst (1 : Int32) dX11_runs_156 (by decide) ?_
              refine sw_isub dX11_runs_157 ?_
              refine sw_iald dX11_runs_158 h0.2.2.2.2.2.2.2.2.2.2.2.2.2.2.2.2.2.2.1 (fun a_14 => ?_)
              refine sw_aload_n 1 dX11_runs_159 rfl rfl ?_
              refine sw_getr q_cl11 41 (r := 181) dX11_runs_160 t_1086 (by decide) h0.1 rfl ?_
              refine sw_iload 0 dX11_runs_163 rfl ?_
              refine sw_iald dX11_runs_165 h0.2.2.2.2.2.2.2.2.2.2.2.2.2.2.2.2.2.2.1 (fun a_15 => ?_)
              refine sw_callVi (As := [.int a_13, .int a_14, .int a_15]) (k := 163) rfl dX11_runs_166 t_1490 mf_X11_twoOf h0.1 q_cl11 (by decide) (Nat.le_of_ble_eq_true rfl) (fun l => c_X11_twoOf l a_13 a_14 a_15 u h0) (fun r u_16 => ?_)
              refine sw_iast dX11_runs_169 h0.2.2.2.2.2.2.2.2.2.2.2.2.2.2.2.2.2.2.1 (fun u_17 => ?_)
              exact SW.sub [1, 2, 3, 0, 4] rfl (hJ170 y4_12 u_17)
set_option maxRecDepth 100000 in
theorem c_X11_runs (l : Launch) {ι : qI} {b : Nat}  (x1 : Int32) (x2 : Int32) (x3 : Int32) (u : qS) (h0 : is_X11 ι) : CN l yX11_runs cX11_runs 6 (some .int) 2 ι b [.ref (b + 163), .int x1, .int x2, .int x3] u (m_X11_runs x1 x2 x3 u) := by
  refine CN.of_SW (own := RX11) rfl (by decide) (Nat.le_of_ble_eq_true rfl) [(0, .ref (b + 163)), (1, .int x1), (2, .int x2), (3, .int x3)] rfl ?_
  unfold m_X11_runs
  refine sw_iconst (0 : Int32) dX11_runs_0 (by decide) ?_
  refine sw_istore (lv' := [(4, .int (0 : Int32)), (0, .ref (b + 163)), (1, .int x1), (2, .int x2), (3, .int x3)]) dX11_runs_1 (by decide) rfl ?_
  refine sw_sipush (400 : Int32) dX11_runs_3 (by decide) ?_
  refine sw_iload_n 2 dX11_runs_6 rfl rfl ?_
  refine sw_imul dX11_runs_7 ?_
  refine sw_iload_n 3 dX11_runs_8 rfl rfl ?_
  refine sw_iadd dX11_runs_9 ?_
  refine SW.name (fun y5 => ?_)
  refine sw_istore (lv' := [(5, .int y5), (4, .int (0 : Int32)), (0, .ref (b + 163)), (1, .int x1), (2, .int x2), (3, .int x3)]) dX11_runs_10 (by decide) rfl ?_
  refine SW.sub (lv' := [(0, .ref (b + 163)), (1, .int x1), (3, .int x3), (4, .int (0 : Int32)), (5, .int y5)]) [2, 3, 5, 1, 0] rfl ?_
  refine w_X11_runs_L12 h0 x1 x3 (fun u_20 => ?_) q_F (0 : Int32) y5 u
  refine sw_aload_n 0 dX11_runs_176 rfl rfl ?_
  refine sw_getr q_cl11 41 (r := 181) dX11_runs_177 t_1086 (by decide) h0.1 rfl ?_
  refine sw_iconst (0 : Int32) dX11_runs_180 (by decide) ?_
  refine sw_iald dX11_runs_181 h0.2.2.2.2.2.2.2.2.2.2.2.2.2.2.2.2.2.2.1 (fun a => ?_)
  exact sw_iret dX11_runs_182
set_option maxRecDepth 100000 in
theorem w_X11_lineOf_L2 {ι : qI} {b : Nat}  (h0 : is_X11 ι) (x1 : Int32) {K57 : Int32 → qS → qR} {K65 : qS → qR} (hK57 : ∀ (e2 : Int32) (u : qS), SW RX11 cX11_lineOf 3 (some .int) 3 ι b 57 [(2, .int e2)] [] u (K57 e2 u)) (hK65 : ∀  (u : qS), SW RX11 cX11_lineOf 3 (some .int) 3 ι b 65 [] [] u (K65  u)) (fu : Nat) (x2 : Int32) (u : qS) : SW RX11 cX11_lineOf 3 (some .int) 3 ι b 2 [(0, .ref (b + 163)), (1, .int x1), (2, .int x2)] [] u (q_it1 (m_X11_lineOf_L2 x1 K57 K65) fu x2 u) := by
  refine SW.it1 (fun x2 => [(0, .ref (b + 163)), (1, .int x1), (2, .int x2)]) (fun self ih x2 u => ?_) fu x2 u
  unfold m_X11_lineOf_L2
  refine sw_iload_n 2 dX11_lineOf_2 rfl rfl ?_
  refine sw_aload_n 0 dX11_lineOf_3 rfl rfl ?_
  refine sw_getr q_cl11 20 (r := 170) dX11_lineOf_4 t_1065 (by decide) h0.1 rfl ?_
  refine sw_iconst (0 : Int32) dX11_lineOf_7 (by decide) ?_
  refine sw_iald dX11_lineOf_8 h0.2.2.2.2.2.2.2.1 (fun a => ?_)
  refine sw_icmp_ge 65 dX11_lineOf_9 (by decide) ?_ ?_
  · exact SW.sub [] rfl (hK65  u)
  · refine sw_aload_n 0 dX11_lineOf_12 rfl rfl ?_
    refine sw_getr q_cl11 21 (r := 171) dX11_lineOf_13 t_1066 (by decide) h0.1 rfl ?_
    refine sw_iload_n 2 dX11_lineOf_16 rfl rfl ?_
    refine sw_iald dX11_lineOf_17 h0.2.2.2.2.2.2.2.2.1 (fun a_1 => ?_)
    refine sw_iload_n 1 dX11_lineOf_18 rfl rfl ?_
    refine SW.jn0 59 ([(0, .ref (b + 163)), (1, .int x1), (2, .int x2)]) ([]) (fun  u_2 => ?_) (fun J59 hJ59 => ?_)
    · refine sw_iinc (lv' := [(2, .int (x2 + (1 : Int32))), (0, .ref (b + 163)), (1, .int x1)]) 2 dX11_lineOf_59 rfl (congrArg (x2 + ·) (by decide)) (by decide) rfl ?_
      refine sw_goto 2 dX11_lineOf_62 (by decide) ?_
      exact SW.sub [1, 2, 0] rfl (ih (x2 + (1 : Int32)) u_2)
    · refine sw_icmp_ne 59 dX11_lineOf_19 (by decide) ?_ ?_
      · refine sw_aload_n 0 dX11_lineOf_22 rfl rfl ?_
        refine sw_getr q_cl11 23 (r := 173) dX11_lineOf_23 t_1068 (by decide) h0.1 rfl ?_
        refine sw_iload_n 2 dX11_lineOf_26 rfl rfl ?_
        refine sw_iald dX11_lineOf_27 h0.2.2.2.2.2.2.2.2.2.2.1 (fun a_3 => ?_)
        refine sw_aload_n 0 dX11_lineOf_28 rfl rfl ?_
        refine sw_getr q_cl11 24 (r := 174) dX11_lineOf_29 t_1069 (by decide) h0.1 rfl ?_
        refine sw_iload_n 2 dX11_lineOf_32 rfl rfl ?_
        refine sw_iald dX11_lineOf_33 h0.2.2.2.2.2.2.2.2.2.2.2.1 (fun a_4 => ?_)
        refine sw_icmp_eq 57 dX11_lineOf_34 (by decide) ?_ ?_
        · exact SW.sub [2] rfl (hK57 x2 u)
        · refine sw_aload_n 0 dX11_lineOf_37 rfl rfl ?_
          refine sw_iconst (0 : Int32) dX11_lineOf_38 (by decide) ?_
          refine sw_aload_n 0 dX11_lineOf_39 rfl rfl ?_
          refine sw_getr q_cl11 23 (r := 173) dX11_lineOf_40 t_1068 (by decide) h0.1 rfl ?_
          refine sw_iload_n 2 dX11_lineOf_43 rfl rfl ?_
          refine sw_iald dX11_lineOf_44 h0.2.2.2.2.2.2.2.2.2.2.1 (fun a_5 => ?_)
          refine sw_aload_n 0 dX11_lineOf_45 rfl rfl ?_
          refine sw_getr q_cl11 24 (r := 174) dX11_lineOf_46 t_1069 (by decide) h0.1 rfl ?_
          refine sw_iload_n 2 dX11_lineOf_49 rfl rfl ?_
          refine sw_iald dX11_lineOf_50 h0.2.2.2.2.2.2.2.2.2.2.2.1 (fun a_6 => ?_)
          refine sw_callVi (As := [.int (0 : Int32), .int a_5, .int a_6]) (k := 163) rfl dX11_lineOf_51 t_1486 mf_X11_runs h0.1 q_cl11 (by decide) (Nat.le_of_ble_eq_true rfl) (fun l => c_X11_runs l (0 : Int32) a_5 a_6 u h0) (fun r u_7 => ?_)
          refine sw_if_eq 59 dX11_lineOf_54 (by decide) ?_ ?_
          · exact SW.sub [0, 1, 2] rfl (hJ59  u_7)
          · exact SW.sub [2] rfl (hK57 x2 u_7)
      · exact SW.sub [0, 1, 2] rfl (hJ59  u)
set_option maxRecDepth 100000 in
theorem c_X11_lineOf (l : Launch) {ι : qI} {b : Nat}  (x1 : Int32) (u : qS) (h0 : is_X11 ι) : CN l yX11_lineOf cX11_lineOf 3 (some .int) 3 ι b [.ref (b + 163), .int x1] u (m_X11_lineOf x1 u) := by
  refine CN.of_SW (own := RX11) rfl (by decide) (Nat.le_of_ble_eq_true rfl) [(0, .ref (b + 163)), (1, .int x1)] rfl ?_
  unfold m_X11_lineOf
  refine sw_iconst (0 : Int32) dX11_lineOf_0 (by decide) ?_
  refine sw_istore_n (lv' := [(2, .int (0 : Int32)), (0, .ref (b + 163)), (1, .int x1)]) dX11_lineOf_1 rfl (by decide) rfl ?_
  refine SW.sub (lv' := [(0, .ref (b + 163)), (1, .int x1), (2, .int (0 : Int32))]) [1, 2, 0] rfl ?_
  refine w_X11_lineOf_L2 h0 x1 (fun x2 u_8 => ?_) (fun u_9 => ?_) q_F (0 : Int32) u
  · refine sw_iload_n 0 dX11_lineOf_57 rfl rfl ?_
    exact sw_iret dX11_lineOf_58
  · refine sw_iconst (-1 : Int32) dX11_lineOf_65 (by decide) ?_
    exact sw_iret dX11_lineOf_66
set_option maxRecDepth 100000 in
theorem c_X11_asks (l : Launch) {ι : qI} {b : Nat}  (x1 : Int32) (x2 : Int32) (x3 : Int32) (x4 : Int32) (u : qS) (h0 : is_X11 ι) : CN l yX11_asks cX11_asks 5 none 1 ι b [.ref (b + 163), .int x1, .int x2, .int x3, .int x4] u (m_X11_asks x1 x2 x3 x4 u) := by
  refine CN.of_SW (own := RX11) rfl (by decide) (Nat.le_of_ble_eq_true rfl) [(0, .ref (b + 163)), (1, .int x1), (2, .int x2), (3, .int x3), (4, .int x4)] rfl ?_
  unfold m_X11_asks
  refine sw_aload_n 0 dX11_asks_0 rfl rfl ?_
  refine sw_getr q_cl11 40 (r := 180) dX11_asks_1 t_1085 (by decide) h0.1 rfl ?_
  refine sw_iconst (0 : Int32) dX11_asks_4 (by decide) ?_
  refine sw_aload_n 0 dX11_asks_5 rfl rfl ?_
  refine sw_getr q_cl11 1 (r := 164) dX11_asks_6 t_1046 (by decide) h0.1 rfl ?_
  refine sw_iconst (0 : Int32) dX11_asks_9 (by decide) ?_
  refine sw_iald dX11_asks_10 h0.2.1 (fun a => ?_)
  refine sw_bipush (52 : Int32) dX11_asks_11 (by decide) ?_
  refine sw_qrmc dX11_asks_13 (by decide) ?_
  refine sw_iast dX11_asks_14 h0.2.2.2.2.2.2.2.2.2.2.2.2.2.2.2.2.2.1 (fun u_1 => ?_)
  refine sw_aload_n 0 dX11_asks_15 rfl rfl ?_
  refine sw_getr q_cl11 40 (r := 180) dX11_asks_16 t_1085 (by decide) h0.1 rfl ?_
  refine sw_iconst (1 : Int32) dX11_asks_19 (by decide) ?_
  refine sw_iload_n 1 dX11_asks_20 rfl rfl ?_
  refine sw_iast dX11_asks_21 h0.2.2.2.2.2.2.2.2.2.2.2.2.2.2.2.2.2.1 (fun u_2 => ?_)
  refine sw_aload_n 0 dX11_asks_22 rfl rfl ?_
  refine sw_getr q_cl11 40 (r := 180) dX11_asks_23 t_1085 (by decide) h0.1 rfl ?_
  refine sw_iconst (2 : Int32) dX11_asks_26 (by decide) ?_
  refine sw_iload_n 2 dX11_asks_27 rfl rfl ?_
  refine sw_iast dX11_asks_28 h0.2.2.2.2.2.2.2.2.2.2.2.2.2.2.2.2.2.1 (fun u_3 => ?_)
  refine sw_aload_n 0 dX11_asks_29 rfl rfl ?_
  refine sw_getr q_cl11 40 (r := 180) dX11_asks_30 t_1085 (by decide) h0.1 rfl ?_
  refine sw_iconst (3 : Int32) dX11_asks_33 (by decide) ?_
  refine sw_iload_n 3 dX11_asks_34 rfl rfl ?_
  refine sw_iast dX11_asks_35 h0.2.2.2.2.2.2.2.2.2.2.2.2.2.2.2.2.2.1 (fun u_4 => ?_)
  refine sw_aload_n 0 dX11_asks_36 rfl rfl ?_
  refine sw_getr q_cl11 40 (r := 180) dX11_asks_37 t_1085 (by decide) h0.1 rfl ?_
  refine sw_iconst (4 : Int32) dX11_asks_40 (by decide) ?_
  refine sw_iload 4 dX11_asks_41 rfl ?_
  refine sw_iast dX11_asks_43 h0.2.2.2.2.2.2.2.2.2.2.2.2.2.2.2.2.2.1 (fun u_5 => ?_)
  refine sw_aload_n 0 dX11_asks_44 rfl rfl ?_
  refine sw_getr q_cl11 40 (r := 180) dX11_asks_45 t_1085 (by decide) h0.1 rfl ?_
  refine sw_iconst (5 : Int32) dX11_asks_48 (by decide) ?_
  refine sw_iconst (0 : Int32) dX11_asks_49 (by decide) ?_
  refine sw_iast dX11_asks_50 h0.2.2.2.2.2.2.2.2.2.2.2.2.2.2.2.2.2.1 (fun u_6 => ?_)
  refine sw_aload_n 0 dX11_asks_51 rfl rfl ?_
  refine sw_getr q_cl11 40 (r := 180) dX11_asks_52 t_1085 (by decide) h0.1 rfl ?_
  refine sw_bipush (6 : Int32) dX11_asks_55 (by decide) ?_
  refine sw_iconst (0 : Int32) dX11_asks_57 (by decide) ?_
  refine sw_iast dX11_asks_58 h0.2.2.2.2.2.2.2.2.2.2.2.2.2.2.2.2.2.1 (fun u_7 => ?_)
  refine sw_aload_n 0 dX11_asks_59 rfl rfl ?_
  refine sw_getr q_cl11 40 (r := 180) dX11_asks_60 t_1085 (by decide) h0.1 rfl ?_
  refine sw_bipush (7 : Int32) dX11_asks_63 (by decide) ?_
  refine sw_iconst (0 : Int32) dX11_asks_65 (by decide) ?_
  refine sw_iast dX11_asks_66 h0.2.2.2.2.2.2.2.2.2.2.2.2.2.2.2.2.2.1 (fun u_8 => ?_)
  refine sw_aload_n 0 dX11_asks_67 rfl rfl ?_
  refine sw_getr q_cl11 40 (r := 180) dX11_asks_68 t_1085 (by decide) h0.1 rfl ?_
  refine sw_bipush (8 : Int32) dX11_asks_71 (by decide) ?_
  refine sw_iconst (0 : Int32) dX11_asks_73 (by decide) ?_
  refine sw_iast dX11_asks_74 h0.2.2.2.2.2.2.2.2.2.2.2.2.2.2.2.2.2.1 (fun u_9 => ?_)
  exact sw_vret dX11_asks_75
set_option maxRecDepth 100000 in
theorem c_X11_lawTells (l : Launch) {ι : qI} {b : Nat}  (x1 : Int32) (x2 : Int32) (x3 : Int32) (u : qS) (h0 : is_X11 ι) : CN l yX11_lawTells cX11_lawTells 5 (some .int) 4 ι b [.ref (b + 163), .int x1, .int x2, .int x3] u (m_X11_lawTells x1 x2 x3 u) := by
  refine CN.of_SW (own := RX11) rfl (by decide) (Nat.le_of_ble_eq_true rfl) [(0, .ref (b + 163)), (1, .int x1), (2, .int x2), (3, .int x3)] rfl ?_
  unfold m_X11_lawTells
  refine sw_aload_n 0 dX11_lawTells_0 rfl rfl ?_
  refine sw_iload_n 1 dX11_lawTells_1 rfl rfl ?_
  refine sw_callVi (As := [.int x1]) (k := 163) rfl dX11_lawTells_2 t_1482 mf_X11_lineOf h0.1 q_cl11 (by decide) (Nat.le_of_ble_eq_true rfl) (fun l => c_X11_lineOf l x1 u h0) (fun r u_1 => ?_)
  refine sw_istore (lv' := [(4, .int r), (0, .ref (b + 163)), (1, .int x1), (2, .int x2), (3, .int x3)]) dX11_lawTells_5 (by decide) rfl ?_
  refine sw_aload_n 1 dX11_lawTells_7 rfl rfl ?_
  refine sw_iload 0 dX11_lawTells_8 rfl ?_
  refine sw_iconst (-1 : Int32) dX11_lawTells_10 (by decide) ?_
  refine SW.jn1 37 (fun s0 => [(3, .int x3)]) (fun s0 => [.int s0, .ref (b + 163)]) (fun s0 u_2 => ?_) (fun J37 hJ37 => ?_)
  · refine sw_iconst (0 : Int32) dX11_lawTells_37 (by decide) ?_
    refine sw_iload_n 0 dX11_lawTells_38 rfl rfl ?_
    refine sw_callVi (As := [.int s0, .int (0 : Int32), .int x3]) (k := 163) rfl dX11_lawTells_39 t_1250 mf_X11_held h0.1 q_cl11 (by decide) (Nat.le_of_ble_eq_true rfl) (fun l => c_X11_held l s0 (0 : Int32) x3 u_2 h0) (fun r_3 u_4 => ?_)
    exact sw_iret dX11_lawTells_42
  · refine sw_icmp_ne 18 dX11_lawTells_11 (by decide) ?_ ?_
    · refine sw_iload_n 3 dX11_lawTells_14 rfl rfl ?_
      refine sw_goto 37 dX11_lawTells_15 (by decide) ?_
      exact SW.sub [4] rfl (hJ37 x2 u_1)
    · refine sw_aload_n 1 dX11_lawTells_18 rfl rfl ?_
      refine sw_iconst (0 : Int32) dX11_lawTells_19 (by decide) ?_
      refine sw_aload_n 1 dX11_lawTells_20 rfl rfl ?_
      refine sw_getr q_cl11 22 (r := 172) dX11_lawTells_21 t_1067 (by decide) h0.1 rfl ?_
      refine sw_iload 0 dX11_lawTells_24 rfl ?_
      refine sw_iald dX11_lawTells_26 h0.2.2.2.2.2.2.2.2.2.1 (fun a => ?_)
      refine sw_aload_n 1 dX11_lawTells_27 rfl rfl ?_
      refine sw_getr q_cl11 23 (r := 173) dX11_lawTells_28 t_1068 (by decide) h0.1 rfl ?_
      refine sw_iload 0 dX11_lawTells_31 rfl ?_
      refine sw_iald dX11_lawTells_33 h0.2.2.2.2.2.2.2.2.2.2.1 (fun a_5 => ?_)
      refine sw_callVi (As := [.int (0 : Int32), .int a, .int a_5]) (k := 163) rfl dX11_lawTells_34 t_1486 mf_X11_runs h0.1 q_cl11 (by decide) (Nat.le_of_ble_eq_true rfl) (fun l => c_X11_runs l (0 : Int32) a a_5 u_1 h0) (fun r_6 u_7 => ?_)
      exact SW.sub [4] rfl (hJ37 r_6 u_7)
set_option maxRecDepth 100000 in
theorem c_X11_bearOf (l : Launch) {ι : qI} {b : Nat}  (x1 : Int32) (u : qS) (h0 : is_X11 ι) : CN l yX11_bearOf cX11_bearOf 2 (some .int) 5 ι b [.ref (b + 163), .int x1] u (m_X11_bearOf x1 u) := by
  refine CN.of_SW (own := RX11) rfl (by decide) (Nat.le_of_ble_eq_true rfl) [(0, .ref (b + 163)), (1, .int x1)] rfl ?_
  unfold m_X11_bearOf
  refine sw_aload_n 0 dX11_bearOf_0 rfl rfl ?_
  refine sw_aload_n 0 dX11_bearOf_1 rfl rfl ?_
  refine sw_getr q_cl11 1 (r := 164) dX11_bearOf_2 t_1046 (by decide) h0.1 rfl ?_
  refine sw_bipush (20 : Int32) dX11_bearOf_5 (by decide) ?_
  refine sw_iload_n 1 dX11_bearOf_7 rfl rfl ?_
  refine sw_iadd dX11_bearOf_8 ?_
  refine sw_iald dX11_bearOf_9 h0.2.1 (fun a => ?_)
  refine sw_aload_n 0 dX11_bearOf_10 rfl rfl ?_
  refine sw_getr q_cl11 1 (r := 164) dX11_bearOf_11 t_1046 (by decide) h0.1 rfl ?_
  refine sw_bipush (34 : Int32) dX11_bearOf_14 (by decide) ?_
  refine sw_iload_n 1 dX11_bearOf_16 rfl rfl ?_
  refine sw_iadd dX11_bearOf_17 ?_
  refine sw_iald dX11_bearOf_18 h0.2.1 (fun a_1 => ?_)
  refine sw_aload_n 0 dX11_bearOf_19 rfl rfl ?_
  refine sw_getr q_cl11 1 (r := 164) dX11_bearOf_20 t_1046 (by decide) h0.1 rfl ?_
  refine sw_bipush (48 : Int32) dX11_bearOf_23 (by decide) ?_
  refine sw_iload_n 1 dX11_bearOf_25 rfl rfl ?_
  refine sw_iadd dX11_bearOf_26 ?_
  refine sw_iald dX11_bearOf_27 h0.2.1 (fun a_2 => ?_)
  refine sw_aload_n 0 dX11_bearOf_28 rfl rfl ?_
  refine sw_getr q_cl11 1 (r := 164) dX11_bearOf_29 t_1046 (by decide) h0.1 rfl ?_
  refine sw_bipush (62 : Int32) dX11_bearOf_32 (by decide) ?_
  refine sw_iload_n 1 dX11_bearOf_34 rfl rfl ?_
  refine sw_iadd dX11_bearOf_35 ?_
  refine sw_iald dX11_bearOf_36 h0.2.1 (fun a_3 => ?_)
  refine sw_callVv (As := [.int a, .int a_1, .int a_2, .int a_3]) (k := 163) rfl dX11_bearOf_37 t_1474 mf_X11_asks h0.1 q_cl11 (by decide) (Nat.le_of_ble_eq_true rfl) (fun l => c_X11_asks l a a_1 a_2 a_3 u h0) (fun _ u_4 => ?_)
  refine sw_aload_n 0 dX11_bearOf_40 rfl rfl ?_
  refine sw_getr q_cl11 40 (r := 180) dX11_bearOf_41 t_1085 (by decide) h0.1 rfl ?_
  refine sw_bipush (8 : Int32) dX11_bearOf_44 (by decide) ?_
  refine sw_aload_n 0 dX11_bearOf_46 rfl rfl ?_
  refine sw_getr q_cl11 1 (r := 164) dX11_bearOf_47 t_1046 (by decide) h0.1 rfl ?_
  refine sw_bipush (10 : Int32) dX11_bearOf_50 (by decide) ?_
  refine sw_aload_n 0 dX11_bearOf_52 rfl rfl ?_
  refine sw_getr q_cl11 1 (r := 164) dX11_bearOf_53 t_1046 (by decide) h0.1 rfl ?_
  refine sw_bipush (20 : Int32) dX11_bearOf_56 (by decide) ?_
  refine sw_iload_n 1 dX11_bearOf_58 rfl rfl ?_
  refine sw_iadd dX11_bearOf_59 ?_
  refine sw_iald dX11_bearOf_60 h0.2.1 (fun a_5 => ?_)
  refine sw_iadd dX11_bearOf_61 ?_
  refine sw_iald dX11_bearOf_62 h0.2.1 (fun a_6 => ?_)
  refine sw_iast dX11_bearOf_63 h0.2.2.2.2.2.2.2.2.2.2.2.2.2.2.2.2.2.1 (fun u_7 => ?_)
  refine sw_aload_n 0 dX11_bearOf_64 rfl rfl ?_
  refine sw_iconst (0 : Int32) dX11_bearOf_65 (by decide) ?_
  refine sw_aload_n 0 dX11_bearOf_66 rfl rfl ?_
  refine sw_getr q_cl11 1 (r := 164) dX11_bearOf_67 t_1046 (by decide) h0.1 rfl ?_
  refine sw_bipush (48 : Int32) dX11_bearOf_70 (by decide) ?_
  refine sw_iload_n 1 dX11_bearOf_72 rfl rfl ?_
  refine sw_iadd dX11_bearOf_73 ?_
  refine sw_iald dX11_bearOf_74 h0.2.1 (fun a_8 => ?_)
  refine sw_iconst (5 : Int32) dX11_bearOf_75 (by decide) ?_
  refine sw_idivc dX11_bearOf_76 (by decide) ?_
  refine sw_bipush (99 : Int32) dX11_bearOf_77 (by decide) ?_
  refine sw_callVi (As := [.int (0 : Int32), .int (a_8 / (5 : Int32)), .int (99 : Int32)]) (k := 163) rfl dX11_bearOf_79 t_1478 mf_X11_lawTells h0.1 q_cl11 (by decide) (Nat.le_of_ble_eq_true rfl) (fun l => c_X11_lawTells l (0 : Int32) (a_8 / (5 : Int32)) (99 : Int32) u_7 h0) (fun r u_9 => ?_)
  exact sw_iret dX11_bearOf_82
set_option maxRecDepth 100000 in
theorem c_X11_wantOf (l : Launch) {ι : qI} {b : Nat}  (x1 : Int32) (u : qS) (h0 : is_X11 ι) : CN l yX11_wantOf cX11_wantOf 2 (some .int) 5 ι b [.ref (b + 163), .int x1] u (m_X11_wantOf x1 u) := by
  refine CN.of_SW (own := RX11) rfl (by decide) (Nat.le_of_ble_eq_true rfl) [(0, .ref (b + 163)), (1, .int x1)] rfl ?_
  unfold m_X11_wantOf
  refine sw_aload_n 0 dX11_wantOf_0 rfl rfl ?_
  refine sw_iconst (0 : Int32) dX11_wantOf_1 (by decide) ?_
  refine sw_iconst (0 : Int32) dX11_wantOf_2 (by decide) ?_
  refine sw_iconst (0 : Int32) dX11_wantOf_3 (by decide) ?_
  refine sw_iconst (0 : Int32) dX11_wantOf_4 (by decide) ?_
  refine sw_callVv (As := [.int (0 : Int32), .int (0 : Int32), .int (0 : Int32), .int (0 : Int32)]) (k := 163) rfl dX11_wantOf_5 t_1474 mf_X11_asks h0.1 q_cl11 (by decide) (Nat.le_of_ble_eq_true rfl) (fun l => c_X11_asks l (0 : Int32) (0 : Int32) (0 : Int32) (0 : Int32) u h0) (fun _ u_1 => ?_)
  refine sw_aload_n 0 dX11_wantOf_8 rfl rfl ?_
  refine sw_getr q_cl11 40 (r := 180) dX11_wantOf_9 t_1085 (by decide) h0.1 rfl ?_
  refine sw_iconst (5 : Int32) dX11_wantOf_12 (by decide) ?_
  refine sw_aload_n 0 dX11_wantOf_13 rfl rfl ?_
  refine sw_getr q_cl11 1 (r := 164) dX11_wantOf_14 t_1046 (by decide) h0.1 rfl ?_
  refine sw_bipush (76 : Int32) dX11_wantOf_17 (by decide) ?_
  refine sw_iload_n 1 dX11_wantOf_19 rfl rfl ?_
  refine sw_iadd dX11_wantOf_20 ?_
  refine sw_iald dX11_wantOf_21 h0.2.1 (fun a => ?_)
  refine sw_iast dX11_wantOf_22 h0.2.2.2.2.2.2.2.2.2.2.2.2.2.2.2.2.2.1 (fun u_2 => ?_)
  refine sw_aload_n 0 dX11_wantOf_23 rfl rfl ?_
  refine sw_iconst (1 : Int32) dX11_wantOf_24 (by decide) ?_
  refine sw_aload_n 0 dX11_wantOf_25 rfl rfl ?_
  refine sw_getr q_cl11 1 (r := 164) dX11_wantOf_26 t_1046 (by decide) h0.1 rfl ?_
  refine sw_bipush (76 : Int32) dX11_wantOf_29 (by decide) ?_
  refine sw_iload_n 1 dX11_wantOf_31 rfl rfl ?_
  refine sw_iadd dX11_wantOf_32 ?_
  refine sw_iald dX11_wantOf_33 h0.2.1 (fun a_3 => ?_)
  refine sw_bipush (20 : Int32) dX11_wantOf_34 (by decide) ?_
  refine sw_callVi (As := [.int (1 : Int32), .int a_3, .int (20 : Int32)]) (k := 163) rfl dX11_wantOf_36 t_1478 mf_X11_lawTells h0.1 q_cl11 (by decide) (Nat.le_of_ble_eq_true rfl) (fun l => c_X11_lawTells l (1 : Int32) a_3 (20 : Int32) u_2 h0) (fun r u_4 => ?_)
  exact sw_iret dX11_wantOf_39
set_option maxRecDepth 100000 in
theorem c_X11_countOf (l : Launch) {ι : qI} {b : Nat}  (x1 : Int32) (x2 : Int32) (x3 : Int32) (u : qS) (h0 : is_X11 ι) : CN l yX11_countOf cX11_countOf 4 (some .int) 5 ι b [.ref (b + 163), .int x1, .int x2, .int x3] u (m_X11_countOf x1 x2 x3 u) := by
  refine CN.of_SW (own := RX11) rfl (by decide) (Nat.le_of_ble_eq_true rfl) [(0, .ref (b + 163)), (1, .int x1), (2, .int x2), (3, .int x3)] rfl ?_
  unfold m_X11_countOf
  refine sw_iload_n 3 dX11_countOf_0 rfl rfl ?_
  refine sw_iconst (-1 : Int32) dX11_countOf_1 (by decide) ?_
  refine SW.jn0 48 ([(0, .ref (b + 163)), (1, .int x1), (2, .int x2), (3, .int x3)]) ([]) (fun  u_1 => ?_) (fun J48 hJ48 => ?_)
  · refine sw_aload_n 0 dX11_countOf_48 rfl rfl ?_
    refine sw_getr q_cl11 40 (r := 180) dX11_countOf_49 t_1085 (by decide) h0.1 rfl ?_
    refine sw_iconst (5 : Int32) dX11_countOf_52 (by decide) ?_
    refine sw_aload_n 0 dX11_countOf_53 rfl rfl ?_
    refine sw_getr q_cl11 1 (r := 164) dX11_countOf_54 t_1046 (by decide) h0.1 rfl ?_
    refine sw_bipush (76 : Int32) dX11_countOf_57 (by decide) ?_
    refine sw_iload_n 1 dX11_countOf_59 rfl rfl ?_
    refine sw_iadd dX11_countOf_60 ?_
    refine sw_iald dX11_countOf_61 h0.2.1 (fun a => ?_)
    refine sw_iast dX11_countOf_62 h0.2.2.2.2.2.2.2.2.2.2.2.2.2.2.2.2.2.1 (fun u_2 => ?_)
    refine sw_aload_n 0 dX11_countOf_63 rfl rfl ?_
    refine sw_getr q_cl11 40 (r := 180) dX11_countOf_64 t_1085 (by decide) h0.1 rfl ?_
    refine sw_bipush (6 : Int32) dX11_countOf_67 (by decide) ?_
    refine sw_aload_n 0 dX11_countOf_69 rfl rfl ?_
    refine sw_iload_n 1 dX11_countOf_70 rfl rfl ?_
    refine sw_iload_n 2 dX11_countOf_71 rfl rfl ?_
    refine sw_callVi (As := [.int x1, .int x2]) (k := 163) rfl dX11_countOf_72 t_1514 mf_X11_tasteOf h0.1 q_cl11 (by decide) (Nat.le_of_ble_eq_true rfl) (fun l => c_X11_tasteOf l x1 x2 u_2 h0) (fun r u_3 => ?_)
    refine sw_iast dX11_countOf_75 h0.2.2.2.2.2.2.2.2.2.2.2.2.2.2.2.2.2.1 (fun u_4 => ?_)
    refine sw_aload_n 0 dX11_countOf_76 rfl rfl ?_
    refine sw_getr q_cl11 40 (r := 180) dX11_countOf_77 t_1085 (by decide) h0.1 rfl ?_
    refine sw_bipush (7 : Int32) dX11_countOf_80 (by decide) ?_
    refine sw_iload_n 3 dX11_countOf_82 rfl rfl ?_
    refine sw_iconst (-1 : Int32) dX11_countOf_83 (by decide) ?_
    refine SW.jn1 92 (fun s0 => [(0, .ref (b + 163)), (2, .int x2)]) (fun s0 => [.int s0, .int (7 : Int32), .ref (b + 180)]) (fun s0 u_5 => ?_) (fun J92 hJ92 => ?_)
    · refine sw_iast dX11_countOf_92 h0.2.2.2.2.2.2.2.2.2.2.2.2.2.2.2.2.2.1 (fun u_6 => ?_)
      refine sw_aload_n 0 dX11_countOf_93 rfl rfl ?_
      refine sw_getr q_cl11 40 (r := 180) dX11_countOf_94 t_1085 (by decide) h0.1 rfl ?_
      refine sw_bipush (8 : Int32) dX11_countOf_97 (by decide) ?_
      refine sw_aload_n 0 dX11_countOf_99 rfl rfl ?_
      refine sw_getr q_cl11 1 (r := 164) dX11_countOf_100 t_1046 (by decide) h0.1 rfl ?_
      refine sw_bipush (10 : Int32) dX11_countOf_103 (by decide) ?_
      refine sw_iload_n 1 dX11_countOf_105 rfl rfl ?_
      refine sw_iadd dX11_countOf_106 ?_
      refine sw_iald dX11_countOf_107 h0.2.1 (fun a_7 => ?_)
      refine sw_iast dX11_countOf_108 h0.2.2.2.2.2.2.2.2.2.2.2.2.2.2.2.2.2.1 (fun u_8 => ?_)
      refine sw_aload_n 0 dX11_countOf_109 rfl rfl ?_
      refine sw_iconst (2 : Int32) dX11_countOf_110 (by decide) ?_
      refine sw_iconst (1 : Int32) dX11_countOf_111 (by decide) ?_
      refine sw_bipush (9 : Int32) dX11_countOf_112 (by decide) ?_
      refine sw_callVi (As := [.int (2 : Int32), .int (1 : Int32), .int (9 : Int32)]) (k := 163) rfl dX11_countOf_114 t_1478 mf_X11_lawTells h0.1 q_cl11 (by decide) (Nat.le_of_ble_eq_true rfl) (fun l => c_X11_lawTells l (2 : Int32) (1 : Int32) (9 : Int32) u_8 h0) (fun r_9 u_10 => ?_)
      exact sw_iret dX11_countOf_117
    · refine sw_icmp_ne 91 dX11_countOf_84 (by decide) ?_ ?_
      · refine sw_iconst (1 : Int32) dX11_countOf_87 (by decide) ?_
        refine sw_goto 92 dX11_countOf_88 (by decide) ?_
        exact SW.sub [0, 2] rfl (hJ92 (1 : Int32) u_4)
      · refine sw_iconst (0 : Int32) dX11_countOf_91 (by decide) ?_
        exact SW.sub [0, 2] rfl (hJ92 (0 : Int32) u_4)
  · refine sw_icmp_ne 16 dX11_countOf_2 (by decide) ?_ ?_
    · refine sw_aload_n 0 dX11_countOf_5 rfl rfl ?_
      refine sw_iload_n 2 dX11_countOf_6 rfl rfl ?_
      refine sw_iconst (0 : Int32) dX11_countOf_7 (by decide) ?_
      refine sw_iconst (0 : Int32) dX11_countOf_8 (by decide) ?_
      refine sw_iconst (0 : Int32) dX11_countOf_9 (by decide) ?_
      refine sw_callVv (As := [.int x2, .int (0 : Int32), .int (0 : Int32), .int (0 : Int32)]) (k := 163) rfl dX11_countOf_10 t_1474 mf_X11_asks h0.1 q_cl11 (by decide) (Nat.le_of_ble_eq_true rfl) (fun l => c_X11_asks l x2 (0 : Int32) (0 : Int32) (0 : Int32) u h0) (fun _ u_15 => ?_)
      refine sw_goto 48 dX11_countOf_13 (by decide) ?_
      exact SW.sub [0, 1, 2, 3] rfl (hJ48  u_15)
    · refine sw_aload_n 0 dX11_countOf_16 rfl rfl ?_
      refine sw_iload_n 2 dX11_countOf_17 rfl rfl ?_
      refine sw_aload_n 0 dX11_countOf_18 rfl rfl ?_
      refine sw_getr q_cl11 1 (r := 164) dX11_countOf_19 t_1046 (by decide) h0.1 rfl ?_
      refine sw_bipush (34 : Int32) dX11_countOf_22 (by decide) ?_
      refine sw_iload_n 3 dX11_countOf_24 rfl rfl ?_
      refine sw_iadd dX11_countOf_25 ?_
      refine sw_iald dX11_countOf_26 h0.2.1 (fun a_11 => ?_)
      refine sw_aload_n 0 dX11_countOf_27 rfl rfl ?_
      refine sw_getr q_cl11 1 (r := 164) dX11_countOf_28 t_1046 (by decide) h0.1 rfl ?_
      refine sw_bipush (48 : Int32) dX11_countOf_31 (by decide) ?_
      refine sw_iload_n 3 dX11_countOf_33 rfl rfl ?_
      refine sw_iadd dX11_countOf_34 ?_
      refine sw_iald dX11_countOf_35 h0.2.1 (fun a_12 => ?_)
      refine sw_aload_n 0 dX11_countOf_36 rfl rfl ?_
      refine sw_getr q_cl11 1 (r := 164) dX11_countOf_37 t_1046 (by decide) h0.1 rfl ?_
      refine sw_bipush (62 : Int32) dX11_countOf_40 (by decide) ?_
      refine sw_iload_n 3 dX11_countOf_42 rfl rfl ?_
      refine sw_iadd dX11_countOf_43 ?_
      refine sw_iald dX11_countOf_44 h0.2.1 (fun a_13 => ?_)
      refine sw_callVv (As := [.int x2, .int a_11, .int a_12, .int a_13]) (k := 163) rfl dX11_countOf_45 t_1474 mf_X11_asks h0.1 q_cl11 (by decide) (Nat.le_of_ble_eq_true rfl) (fun l => c_X11_asks l x2 a_11 a_12 a_13 u h0) (fun _ u_14 => ?_)
      exact SW.sub [0, 1, 2, 3] rfl (hJ48  u_14)
set_option maxRecDepth 100000 in
theorem c_X11_notes (l : Launch) {ι : qI} {b : Nat}  (x1 : Int32) (x2 : Int32) (x3 : Int32) (u : qS) (h0 : is_X11 ι) : CN l yX11_notes cX11_notes 5 none 1 ι b [.ref (b + 163), .int x1, .int x2, .int x3] u (m_X11_notes x1 x2 x3 u) := by
  refine CN.of_SW (own := RX11) rfl (by decide) (Nat.le_of_ble_eq_true rfl) [(0, .ref (b + 163)), (1, .int x1), (2, .int x2), (3, .int x3)] rfl ?_
  unfold m_X11_notes
  refine sw_aload_n 0 dX11_notes_0 rfl rfl ?_
  refine sw_geti q_cl11 5 dX11_notes_1 t_1050 (by decide) h0.1 rfl ?_
  refine sw_if_ne 19 dX11_notes_4 (by decide) ?_ ?_
  · refine sw_aload_n 0 dX11_notes_7 rfl rfl ?_
    refine sw_getr q_cl11 1 (r := 164) dX11_notes_8 t_1046 (by decide) h0.1 rfl ?_
    refine sw_iconst (2 : Int32) dX11_notes_11 (by decide) ?_
    refine sw_iald dX11_notes_12 h0.2.1 (fun a => ?_)
    refine sw_sipush (150 : Int32) dX11_notes_13 (by decide) ?_
    refine sw_icmp_ne 20 dX11_notes_16 (by decide) ?_ ?_
    · exact sw_vret dX11_notes_19
    · refine sw_iconst (4 : Int32) dX11_notes_20 (by decide) ?_
      refine sw_aload_n 0 dX11_notes_21 rfl rfl ?_
      refine sw_getr q_cl11 1 (r := 164) dX11_notes_22 t_1046 (by decide) h0.1 rfl ?_
      refine sw_iconst (2 : Int32) dX11_notes_25 (by decide) ?_
      refine sw_iald dX11_notes_26 h0.2.1 (fun a_1 => ?_)
      refine sw_imul dX11_notes_27 ?_
      refine SW.name (fun y4 => ?_)
      refine sw_istore (lv' := [(4, .int y4), (0, .ref (b + 163)), (1, .int x1), (2, .int x2), (3, .int x3)]) dX11_notes_28 (by decide) rfl ?_
      refine sw_aload_n 1 dX11_notes_30 rfl rfl ?_
      refine sw_getr q_cl11 12 (r := 167) dX11_notes_31 t_1057 (by decide) h0.1 rfl ?_
      refine sw_iload 0 dX11_notes_34 rfl ?_
      refine sw_aload_n 1 dX11_notes_36 rfl rfl ?_
      refine sw_getr q_cl11 1 (r := 164) dX11_notes_37 t_1046 (by decide) h0.1 rfl ?_
      refine sw_iconst (0 : Int32) dX11_notes_40 (by decide) ?_
      refine sw_iald dX11_notes_41 h0.2.1 (fun a_2 => ?_)
      refine sw_iast dX11_notes_42 h0.2.2.2.2.1 (fun u_3 => ?_)
      refine sw_aload_n 1 dX11_notes_43 rfl rfl ?_
      refine sw_getr q_cl11 12 (r := 167) dX11_notes_44 t_1057 (by decide) h0.1 rfl ?_
      refine sw_iload 0 dX11_notes_47 rfl ?_
      refine sw_iconst (1 : Int32) dX11_notes_49 (by decide) ?_
      refine sw_iadd dX11_notes_50 ?_
      refine sw_iload_n 2 dX11_notes_51 rfl rfl ?_
      refine sw_iast dX11_notes_52 h0.2.2.2.2.1 (fun u_4 => ?_)
      refine sw_aload_n 1 dX11_notes_53 rfl rfl ?_
      refine sw_getr q_cl11 12 (r := 167) dX11_notes_54 t_1057 (by decide) h0.1 rfl ?_
      refine sw_iload 0 dX11_notes_57 rfl ?_
      refine sw_iconst (2 : Int32) dX11_notes_59 (by decide) ?_
      refine sw_iadd dX11_notes_60 ?_
      refine sw_iload_n 3 dX11_notes_61 rfl rfl ?_
      refine sw_iast dX11_notes_62 h0.2.2.2.2.1 (fun u_5 => ?_)
      refine sw_aload_n 1 dX11_notes_63 rfl rfl ?_
      refine sw_getr q_cl11 12 (r := 167) dX11_notes_64 t_1057 (by decide) h0.1 rfl ?_
      refine sw_iload 0 dX11_notes_67 rfl ?_
      refine sw_iconst (3 : Int32) dX11_notes_69 (by decide) ?_
      refine sw_iadd dX11_notes_70 ?_
      refine sw_iload_n 4 dX11_notes_71 rfl rfl ?_
      refine sw_iast dX11_notes_72 h0.2.2.2.2.1 (fun u_6 => ?_)
      refine sw_aload_n 1 dX11_notes_73 rfl rfl ?_
      refine sw_getr q_cl11 1 (r := 164) dX11_notes_74 t_1046 (by decide) h0.1 rfl ?_
      refine sw_iconst (2 : Int32) dX11_notes_77 (by decide) ?_
      refine sw_aload_n 1 dX11_notes_78 rfl rfl ?_
      refine sw_getr q_cl11 1 (r := 164) dX11_notes_79 t_1046 (by decide) h0.1 rfl ?_
      refine sw_iconst (2 : Int32) dX11_notes_82 (by decide) ?_
      refine sw_iald dX11_notes_83 h0.2.1 (fun a_7 => ?_)
      refine sw_iconst (1 : Int32) dX11_notes_84 (by decide) ?_
      refine sw_iadd dX11_notes_85 ?_
      refine sw_iast dX11_notes_86 h0.2.1 (fun u_8 => ?_)
      exact sw_vret dX11_notes_87
  · exact sw_vret dX11_notes_19
set_option maxRecDepth 100000 in
theorem c_X11_plants (l : Launch) {ι : qI} {b : Nat}  (x1 : Int32) (x2 : Int32) (x3 : Int32) (u : qS) (h0 : is_X11 ι) : CN l yX11_plants cX11_plants 5 (some .int) 2 ι b [.ref (b + 163), .int x1, .int x2, .int x3] u (m_X11_plants x1 x2 x3 u) := by
  refine CN.of_SW (own := RX11) rfl (by decide) (Nat.le_of_ble_eq_true rfl) [(0, .ref (b + 163)), (1, .int x1), (2, .int x2), (3, .int x3)] rfl ?_
  unfold m_X11_plants
  refine sw_aload_n 0 dX11_plants_0 rfl rfl ?_
  refine sw_getr q_cl11 1 (r := 164) dX11_plants_1 t_1046 (by decide) h0.1 rfl ?_
  refine sw_iconst (4 : Int32) dX11_plants_4 (by decide) ?_
  refine sw_iald dX11_plants_5 h0.2.1 (fun a => ?_)
  refine sw_istore (lv' := [(4, .int a), (0, .ref (b + 163)), (1, .int x1), (2, .int x2), (3, .int x3)]) dX11_plants_6 (by decide) rfl ?_
  refine sw_aload_n 1 dX11_plants_8 rfl rfl ?_
  refine sw_getr q_cl11 1 (r := 164) dX11_plants_9 t_1046 (by decide) h0.1 rfl ?_
  refine sw_bipush (20 : Int32) dX11_plants_12 (by decide) ?_
  refine sw_iload 0 dX11_plants_14 rfl ?_
  refine sw_iadd dX11_plants_16 ?_
  refine sw_iload_n 2 dX11_plants_17 rfl rfl ?_
  refine sw_iast dX11_plants_18 h0.2.1 (fun u_1 => ?_)
  refine sw_aload_n 1 dX11_plants_19 rfl rfl ?_
  refine sw_getr q_cl11 1 (r := 164) dX11_plants_20 t_1046 (by decide) h0.1 rfl ?_
  refine sw_bipush (34 : Int32) dX11_plants_23 (by decide) ?_
  refine sw_iload 0 dX11_plants_25 rfl ?_
  refine sw_iadd dX11_plants_27 ?_
  refine sw_iload_n 3 dX11_plants_28 rfl rfl ?_
  refine sw_iast dX11_plants_29 h0.2.1 (fun u_2 => ?_)
  refine sw_aload_n 1 dX11_plants_30 rfl rfl ?_
  refine sw_getr q_cl11 1 (r := 164) dX11_plants_31 t_1046 (by decide) h0.1 rfl ?_
  refine sw_bipush (48 : Int32) dX11_plants_34 (by decide) ?_
  refine sw_iload 0 dX11_plants_36 rfl ?_
  refine sw_iadd dX11_plants_38 ?_
  refine sw_iload_n 4 dX11_plants_39 rfl rfl ?_
  refine sw_iast dX11_plants_40 h0.2.1 (fun u_3 => ?_)
  refine sw_aload_n 1 dX11_plants_41 rfl rfl ?_
  refine sw_getr q_cl11 1 (r := 164) dX11_plants_42 t_1046 (by decide) h0.1 rfl ?_
  refine sw_bipush (62 : Int32) dX11_plants_45 (by decide) ?_
  refine sw_iload 0 dX11_plants_47 rfl ?_
  refine sw_iadd dX11_plants_49 ?_
  refine sw_iconst (0 : Int32) dX11_plants_50 (by decide) ?_
  refine sw_iast dX11_plants_51 h0.2.1 (fun u_4 => ?_)
  refine sw_aload_n 1 dX11_plants_52 rfl rfl ?_
  refine sw_getr q_cl11 1 (r := 164) dX11_plants_53 t_1046 (by decide) h0.1 rfl ?_
  refine sw_iconst (4 : Int32) dX11_plants_56 (by decide) ?_
  refine sw_iload 0 dX11_plants_57 rfl ?_
  refine sw_iconst (1 : Int32) dX11_plants_59 (by decide) ?_
  refine sw_iadd dX11_plants_60 ?_
  refine sw_iast dX11_plants_61 h0.2.1 (fun u_5 => ?_)
  refine sw_aload_n 1 dX11_plants_62 rfl rfl ?_
  refine sw_iconst (0 : Int32) dX11_plants_63 (by decide) ?_
  refine sw_iload 0 dX11_plants_64 rfl ?_
  refine sw_iconst (0 : Int32) dX11_plants_66 (by decide) ?_
  refine sw_callVv (As := [.int (0 : Int32), .int a, .int (0 : Int32)]) (k := 163) rfl dX11_plants_67 t_1426 mf_X11_notes h0.1 q_cl11 (by decide) (Nat.le_of_ble_eq_true rfl) (fun l => c_X11_notes l (0 : Int32) a (0 : Int32) u_5 h0) (fun _ u_6 => ?_)
  refine sw_iload 0 dX11_plants_70 rfl ?_
  exact sw_iret dX11_plants_72
set_option maxRecDepth 100000 in
theorem c_X11_isFenced (l : Launch) {ι : qI} {b : Nat}  (x1 : Int32) (u : qS) (h0 : is_X11 ι) : CN l yX11_isFenced cX11_isFenced 2 (some .boolean) 2 ι b [.ref (b + 163), .int x1] u (m_X11_isFenced x1 u) := by
  refine CN.of_SW (own := RX11) rfl (by decide) (Nat.le_of_ble_eq_true rfl) [(0, .ref (b + 163)), (1, .int x1)] rfl ?_
  unfold m_X11_isFenced
  refine sw_aload_n 0 dX11_isFenced_0 rfl rfl ?_
  refine sw_aload_n 0 dX11_isFenced_1 rfl rfl ?_
  refine sw_getr q_cl11 1 (r := 164) dX11_isFenced_2 t_1046 (by decide) h0.1 rfl ?_
  refine sw_iconst (3 : Int32) dX11_isFenced_5 (by decide) ?_
  refine sw_iald dX11_isFenced_6 h0.2.1 (fun a => ?_)
  refine sw_iload_n 1 dX11_isFenced_7 rfl rfl ?_
  refine sw_callVi (As := [.int a, .int x1]) (k := 163) rfl dX11_isFenced_8 t_1438 mf_X11_has h0.1 q_cl11 (by decide) (Nat.le_of_ble_eq_true rfl) (fun l => c_X11_has l a x1 u h0) (fun r u_1 => ?_)
  exact sw_zret dX11_isFenced_11
set_option maxRecDepth 100000 in
theorem c_X11_fences (l : Launch) {ι : qI} {b : Nat}  (x1 : Int32) (x2 : Int32) (u : qS) (h0 : is_X11 ι) : CN l yX11_fences cX11_fences 3 none 2 ι b [.ref (b + 163), .int x1, .int x2] u (m_X11_fences x1 x2 u) := by
  refine CN.of_SW (own := RX11) rfl (by decide) (Nat.le_of_ble_eq_true rfl) [(0, .ref (b + 163)), (1, .int x1), (2, .int x2)] rfl ?_
  unfold m_X11_fences
  refine sw_aload_n 0 dX11_fences_0 rfl rfl ?_
  refine sw_getr q_cl11 1 (r := 164) dX11_fences_1 t_1046 (by decide) h0.1 rfl ?_
  refine sw_iconst (3 : Int32) dX11_fences_4 (by decide) ?_
  refine sw_iload_n 2 dX11_fences_5 rfl rfl ?_
  refine SW.jn1 34 (fun s0 => [(0, .ref (b + 163)), (1, .int x1), (2, .int x2)]) (fun s0 => [.int s0, .int (3 : Int32), .ref (b + 164)]) (fun s0 u_1 => ?_) (fun J34 hJ34 => ?_)
  · refine sw_iast dX11_fences_34 h0.2.1 (fun u_2 => ?_)
    refine sw_aload_n 0 dX11_fences_35 rfl rfl ?_
    refine sw_iload_n 2 dX11_fences_36 rfl rfl ?_
    refine SW.jn1 45 (fun s0_3 => [(1, .int x1)]) (fun s0_3 => [.int s0_3, .ref (b + 163)]) (fun s0_3 u_4 => ?_) (fun J45 hJ45 => ?_)
    · refine sw_iload_n 0 dX11_fences_45 rfl rfl ?_
      refine sw_iconst (0 : Int32) dX11_fences_46 (by decide) ?_
      refine sw_callVv (As := [.int s0_3, .int x1, .int (0 : Int32)]) (k := 163) rfl dX11_fences_47 t_1426 mf_X11_notes h0.1 q_cl11 (by decide) (Nat.le_of_ble_eq_true rfl) (fun l => c_X11_notes l s0_3 x1 (0 : Int32) u_4 h0) (fun _ u_5 => ?_)
      exact sw_vret dX11_fences_50
    · refine sw_if_eq 44 dX11_fences_37 (by decide) ?_ ?_
      · refine sw_iconst (2 : Int32) dX11_fences_44 (by decide) ?_
        exact SW.sub [1] rfl (hJ45 (2 : Int32) u_2)
      · refine sw_iconst (1 : Int32) dX11_fences_40 (by decide) ?_
        refine sw_goto 45 dX11_fences_41 (by decide) ?_
        exact SW.sub [1] rfl (hJ45 (1 : Int32) u_2)
  · refine sw_if_eq 22 dX11_fences_6 (by decide) ?_ ?_
    · refine sw_aload_n 0 dX11_fences_22 rfl rfl ?_
      refine sw_getr q_cl11 1 (r := 164) dX11_fences_23 t_1046 (by decide) h0.1 rfl ?_
      refine sw_iconst (3 : Int32) dX11_fences_26 (by decide) ?_
      refine sw_iald dX11_fences_27 h0.2.1 (fun a => ?_)
      refine sw_iconst (1 : Int32) dX11_fences_28 (by decide) ?_
      refine sw_iload_n 1 dX11_fences_29 rfl rfl ?_
      refine sw_ishl dX11_fences_30 ?_
      refine sw_iconst (-1 : Int32) dX11_fences_31 (by decide) ?_
      refine sw_ixor dX11_fences_32 ?_
      refine sw_iand dX11_fences_33 ?_
      exact SW.sub [0, 1, 2] rfl (hJ34 (a &&& (((1 : Int32) <<< (x1 &&& 31)) ^^^ (-1 : Int32))) u)
    · refine sw_aload_n 0 dX11_fences_9 rfl rfl ?_
      refine sw_getr q_cl11 1 (r := 164) dX11_fences_10 t_1046 (by decide) h0.1 rfl ?_
      refine sw_iconst (3 : Int32) dX11_fences_13 (by decide) ?_
      refine sw_iald dX11_fences_14 h0.2.1 (fun a_6 => ?_)
      refine sw_iconst (1 : Int32) dX11_fences_15 (by decide) ?_
      refine sw_iload_n 1 dX11_fences_16 rfl rfl ?_
      refine sw_ishl dX11_fences_17 ?_
      refine sw_ior dX11_fences_18 ?_
      refine sw_goto 34 dX11_fences_19 (by decide) ?_
      exact SW.sub [0, 1, 2] rfl (hJ34 (a_6 ||| ((1 : Int32) <<< (x1 &&& 31))) u)
set_option maxRecDepth 100000 in
theorem w_X11_boils_L5 {ι : qI} {b : Nat}  (h0 : is_X11 ι) (x1 : Int32) (x2 : Int32) {K84 : Int32 → qS → qR} (hK84 : ∀ (e3 : Int32) (u : qS), SW RX11 cX11_boils 6 (some .int) 2 ι b 84 [(0, .ref (b + 163)), (1, .int x1), (2, .int x2), (3, .int e3)] [] u (K84 e3 u)) (fu : Nat) (x3 : Int32) (x4 : Int32) (u : qS) : SW RX11 cX11_boils 6 (some .int) 2 ι b 5 [(0, .ref (b + 163)), (1, .int x1), (2, .int x2), (3, .int x3), (4, .int x4)] [] u (q_it2 (m_X11_boils_L5 x1 x2 K84) fu x3 x4 u) := by
  refine SW.it2 (fun x3 x4 => [(0, .ref (b + 163)), (1, .int x1), (2, .int x2), (3, .int x3), (4, .int x4)]) (fun self ih x3 x4 u => ?_) fu x3 x4 u
  unfold m_X11_boils_L5
  refine sw_iload 4 dX11_boils_5 rfl ?_
  refine sw_aload_n 0 dX11_boils_7 rfl rfl ?_
  refine sw_getr q_cl11 1 (r := 164) dX11_boils_8 t_1046 (by decide) h0.1 rfl ?_
  refine sw_iconst (4 : Int32) dX11_boils_11 (by decide) ?_
  refine sw_iald dX11_boils_12 h0.2.1 (fun a => ?_)
  refine sw_icmp_ge 84 dX11_boils_13 (by decide) ?_ ?_
  · exact SW.sub [0, 1, 2, 3] rfl (hK84 x3 u)
  · refine sw_aload_n 0 dX11_boils_16 rfl rfl ?_
    refine sw_getr q_cl11 1 (r := 164) dX11_boils_17 t_1046 (by decide) h0.1 rfl ?_
    refine sw_bipush (20 : Int32) dX11_boils_20 (by decide) ?_
    refine sw_iload 4 dX11_boils_22 rfl ?_
    refine sw_iadd dX11_boils_24 ?_
    refine sw_iald dX11_boils_25 h0.2.1 (fun a_1 => ?_)
    refine sw_iload_n 1 dX11_boils_26 rfl rfl ?_
    refine SW.jn1 78 (fun x3_2 => [(0, .ref (b + 163)), (1, .int x1), (2, .int x2), (3, .int x3_2), (4, .int x4)]) (fun x3_2 => []) (fun x3_2 u_3 => ?_) (fun J78 hJ78 => ?_)
    · refine sw_iinc (lv' := [(4, .int (x4 + (1 : Int32))), (0, .ref (b + 163)), (1, .int x1), (2, .int x2), (3, .int x3_2)]) 4 dX11_boils_78 rfl (congrArg (x4 + ·) (by decide)) (by decide) rfl ?_
      refine sw_goto 5 dX11_boils_81 (by decide) ?_
      exact SW.sub [1, 2, 3, 4, 0] rfl (ih x3_2 (x4 + (1 : Int32)) u_3)
    · refine sw_icmp_eq 33 dX11_boils_27 (by decide) ?_ ?_
      · refine sw_aload_n 0 dX11_boils_33 rfl rfl ?_
        refine sw_iload_n 3 dX11_boils_34 rfl rfl ?_
        refine sw_aload_n 0 dX11_boils_35 rfl rfl ?_
        refine sw_getr q_cl11 1 (r := 164) dX11_boils_36 t_1046 (by decide) h0.1 rfl ?_
        refine sw_bipush (62 : Int32) dX11_boils_39 (by decide) ?_
        refine sw_iload 4 dX11_boils_41 rfl ?_
        refine sw_iadd dX11_boils_43 ?_
        refine sw_iald dX11_boils_44 h0.2.1 (fun a_4 => ?_)
        refine sw_callVi (As := [.int x3, .int a_4]) (k := 163) rfl dX11_boils_45 t_1454 mf_X11_lesser h0.1 q_cl11 (by decide) (Nat.le_of_ble_eq_true rfl) (fun l => c_X11_lesser l x3 a_4 u h0) (fun r u_5 => ?_)
        refine sw_istore (lv' := [(5, .int r), (0, .ref (b + 163)), (1, .int x1), (2, .int x2), (3, .int x3), (4, .int x4)]) dX11_boils_48 (by decide) rfl ?_
        refine sw_aload_n 1 dX11_boils_50 rfl rfl ?_
        refine sw_getr q_cl11 1 (r := 164) dX11_boils_51 t_1046 (by decide) h0.1 rfl ?_
        refine sw_bipush (62 : Int32) dX11_boils_54 (by decide) ?_
        refine sw_iload 5 dX11_boils_56 rfl ?_
        refine sw_iadd dX11_boils_58 ?_
        refine sw_aload_n 1 dX11_boils_59 rfl rfl ?_
        refine sw_getr q_cl11 1 (r := 164) dX11_boils_60 t_1046 (by decide) h0.1 rfl ?_
        refine sw_bipush (62 : Int32) dX11_boils_63 (by decide) ?_
        refine sw_iload 5 dX11_boils_65 rfl ?_
        refine sw_iadd dX11_boils_67 ?_
        refine sw_iald dX11_boils_68 h0.2.1 (fun a_6 => ?_)
        refine sw_iload 0 dX11_boils_69 rfl ?_
        refine sw_isub dX11_boils_71 ?_
        refine sw_iast dX11_boils_72 h0.2.1 (fun u_7 => ?_)
        refine sw_iload_n 4 dX11_boils_73 rfl rfl ?_
        refine sw_iload 0 dX11_boils_74 rfl ?_
        refine sw_isub dX11_boils_76 ?_
        refine SW.name (fun y3 => ?_)
        refine sw_istore_n (lv' := [(3, .int y3), (5, .int r), (0, .ref (b + 163)), (1, .int x1), (2, .int x2), (4, .int x4)]) dX11_boils_77 rfl (by decide) rfl ?_
        exact SW.sub [2, 3, 4, 0, 5] rfl (hJ78 y3 u_7)
      · refine sw_goto 78 dX11_boils_30 (by decide) ?_
        exact SW.sub [0, 1, 2, 3, 4] rfl (hJ78 x3 u)
set_option maxRecDepth 100000 in
theorem c_X11_boils (l : Launch) {ι : qI} {b : Nat}  (x1 : Int32) (x2 : Int32) (u : qS) (h0 : is_X11 ι) : CN l yX11_boils cX11_boils 6 (some .int) 2 ι b [.ref (b + 163), .int x1, .int x2] u (m_X11_boils x1 x2 u) := by
  refine CN.of_SW (own := RX11) rfl (by decide) (Nat.le_of_ble_eq_true rfl) [(0, .ref (b + 163)), (1, .int x1), (2, .int x2)] rfl ?_
  unfold m_X11_boils
  refine sw_iload_n 2 dX11_boils_0 rfl rfl ?_
  refine sw_istore_n (lv' := [(3, .int x2), (0, .ref (b + 163)), (1, .int x1), (2, .int x2)]) dX11_boils_1 rfl (by decide) rfl ?_
  refine sw_iconst (0 : Int32) dX11_boils_2 (by decide) ?_
  refine sw_istore (lv' := [(4, .int (0 : Int32)), (3, .int x2), (0, .ref (b + 163)), (1, .int x1), (2, .int x2)]) dX11_boils_3 (by decide) rfl ?_
  refine SW.sub (lv' := [(0, .ref (b + 163)), (1, .int x1), (2, .int x2), (3, .int x2), (4, .int (0 : Int32))]) [2, 3, 4, 1, 0] rfl ?_
  refine w_X11_boils_L5 h0 x1 x2 (fun x3 u_8 => ?_) q_F x2 (0 : Int32) u
  refine sw_aload_n 0 dX11_boils_84 rfl rfl ?_
  refine sw_getr q_cl11 1 (r := 164) dX11_boils_85 t_1046 (by decide) h0.1 rfl ?_
  refine sw_bipush (15 : Int32) dX11_boils_88 (by decide) ?_
  refine sw_iload_n 1 dX11_boils_90 rfl rfl ?_
  refine sw_iadd dX11_boils_91 ?_
  refine sw_aload_n 0 dX11_boils_92 rfl rfl ?_
  refine sw_aload_n 0 dX11_boils_93 rfl rfl ?_
  refine sw_getr q_cl11 1 (r := 164) dX11_boils_94 t_1046 (by decide) h0.1 rfl ?_
  refine sw_bipush (15 : Int32) dX11_boils_97 (by decide) ?_
  refine sw_iload_n 1 dX11_boils_99 rfl rfl ?_
  refine sw_iadd dX11_boils_100 ?_
  refine sw_iald dX11_boils_101 h0.2.1 (fun a => ?_)
  refine sw_iload_n 2 dX11_boils_102 rfl rfl ?_
  refine sw_iadd dX11_boils_103 ?_
  refine sw_iload_n 3 dX11_boils_104 rfl rfl ?_
  refine sw_isub dX11_boils_105 ?_
  refine sw_iconst (0 : Int32) dX11_boils_106 (by decide) ?_
  refine sw_sipush (999 : Int32) dX11_boils_107 (by decide) ?_
  refine sw_callVi (As := [.int ((a + x2) - x3), .int (0 : Int32), .int (999 : Int32)]) (k := 163) rfl dX11_boils_110 t_1250 mf_X11_held h0.1 q_cl11 (by decide) (Nat.le_of_ble_eq_true rfl) (fun l => c_X11_held l ((a + x2) - x3) (0 : Int32) (999 : Int32) u_8 h0) (fun r u_9 => ?_)
  refine sw_iast dX11_boils_113 h0.2.1 (fun u_10 => ?_)
  refine sw_aload_n 0 dX11_boils_114 rfl rfl ?_
  refine sw_iconst (3 : Int32) dX11_boils_115 (by decide) ?_
  refine sw_iload_n 1 dX11_boils_116 rfl rfl ?_
  refine sw_iload_n 2 dX11_boils_117 rfl rfl ?_
  refine sw_iload_n 3 dX11_boils_118 rfl rfl ?_
  refine sw_isub dX11_boils_119 ?_
  refine sw_callVv (As := [.int (3 : Int32), .int x1, .int (x2 - x3)]) (k := 163) rfl dX11_boils_120 t_1426 mf_X11_notes h0.1 q_cl11 (by decide) (Nat.le_of_ble_eq_true rfl) (fun l => c_X11_notes l (3 : Int32) x1 (x2 - x3) u_10 h0) (fun _ u_11 => ?_)
  refine sw_iload_n 2 dX11_boils_123 rfl rfl ?_
  refine sw_iload_n 3 dX11_boils_124 rfl rfl ?_
  refine sw_isub dX11_boils_125 ?_
  exact sw_iret dX11_boils_126
set_option maxRecDepth 100000 in
theorem c_X11_plant (l : Launch) {ι : qI} {b : Nat}  (x1 : Int32) (x2 : Int32) (x3 : Int32) (u : qS) (h0 : is_X11 ι) : CN l yX11_plant cX11_plant 4 (some .int) 3 ι b [.ref (b + 163), .int x1, .int x2, .int x3] u (m_X11_plant x1 x2 x3 u) := by
  refine CN.of_SW (own := RX11) rfl (by decide) (Nat.le_of_ble_eq_true rfl) [(0, .ref (b + 163)), (1, .int x1), (2, .int x2), (3, .int x3)] rfl ?_
  unfold m_X11_plant
  refine sw_aload_n 0 dX11_plant_0 rfl rfl ?_
  refine sw_iconst (0 : Int32) dX11_plant_1 (by decide) ?_
  refine sw_puti q_cl11 0 dX11_plant_2 t_1045 (by decide) (by decide +kernel) rfl h0.1 rfl (fun u_1 => ?_)
  refine sw_aload_n 0 dX11_plant_5 rfl rfl ?_
  refine sw_iload_n 1 dX11_plant_6 rfl rfl ?_
  refine sw_callVi (As := [.int x1]) (k := 163) rfl dX11_plant_7 t_1242 mf_X11_isParty h0.1 q_cl11 (by decide) (Nat.le_of_ble_eq_true rfl) (fun l => c_X11_isParty l x1 u_1 h0) (fun r u_2 => ?_)
  refine sw_if_eq 43 dX11_plant_10 (by decide) ?_ ?_
  · refine sw_iconst (-1 : Int32) dX11_plant_43 (by decide) ?_
    exact sw_iret dX11_plant_44
  · refine sw_aload_n 0 dX11_plant_13 rfl rfl ?_
    refine sw_iload_n 2 dX11_plant_14 rfl rfl ?_
    refine sw_callVi (As := [.int x2]) (k := 163) rfl dX11_plant_15 t_1414 mf_X11_isPlace h0.1 q_cl11 (by decide) (Nat.le_of_ble_eq_true rfl) (fun l => c_X11_isPlace l x2 u_2 h0) (fun r_3 u_4 => ?_)
    refine sw_if_eq 43 dX11_plant_18 (by decide) ?_ ?_
    · refine sw_iconst (-1 : Int32) dX11_plant_43 (by decide) ?_
      exact sw_iret dX11_plant_44
    · refine sw_aload_n 0 dX11_plant_21 rfl rfl ?_
      refine sw_iload_n 3 dX11_plant_22 rfl rfl ?_
      refine sw_iconst (0 : Int32) dX11_plant_23 (by decide) ?_
      refine sw_bipush (99 : Int32) dX11_plant_24 (by decide) ?_
      refine sw_callVi (As := [.int x3, .int (0 : Int32), .int (99 : Int32)]) (k := 163) rfl dX11_plant_26 t_1226 mf_X11_isIn h0.1 q_cl11 (by decide) (Nat.le_of_ble_eq_true rfl) (fun l => c_X11_isIn l x3 (0 : Int32) (99 : Int32) u_4 h0) (fun r_5 u_6 => ?_)
      refine sw_if_eq 43 dX11_plant_29 (by decide) ?_ ?_
      · refine sw_iconst (-1 : Int32) dX11_plant_43 (by decide) ?_
        exact sw_iret dX11_plant_44
      · refine sw_aload_n 0 dX11_plant_32 rfl rfl ?_
        refine sw_getr q_cl11 1 (r := 164) dX11_plant_33 t_1046 (by decide) h0.1 rfl ?_
        refine sw_iconst (4 : Int32) dX11_plant_36 (by decide) ?_
        refine sw_iald dX11_plant_37 h0.2.1 (fun a => ?_)
        refine sw_bipush (14 : Int32) dX11_plant_38 (by decide) ?_
        refine sw_icmp_ne 45 dX11_plant_40 (by decide) ?_ ?_
        · refine sw_iconst (-1 : Int32) dX11_plant_43 (by decide) ?_
          exact sw_iret dX11_plant_44
        · refine sw_aload_n 0 dX11_plant_45 rfl rfl ?_
          refine sw_callVv (As := []) (k := 163) rfl dX11_plant_46 t_1418 mf_X11_keepsAhead h0.1 q_cl11 (by decide) (Nat.le_of_ble_eq_true rfl) (fun l => c_X11_keepsAhead l  u_6 h0) (fun _ u_7 => ?_)
          refine sw_aload_n 0 dX11_plant_49 rfl rfl ?_
          refine sw_iload_n 1 dX11_plant_50 rfl rfl ?_
          refine sw_iload_n 2 dX11_plant_51 rfl rfl ?_
          refine sw_iload_n 3 dX11_plant_52 rfl rfl ?_
          refine sw_callVi (As := [.int x1, .int x2, .int x3]) (k := 163) rfl dX11_plant_53 t_1422 mf_X11_plants h0.1 q_cl11 (by decide) (Nat.le_of_ble_eq_true rfl) (fun l => c_X11_plants l x1 x2 x3 u_7 h0) (fun r_8 u_9 => ?_)
          exact sw_iret dX11_plant_56
set_option maxRecDepth 100000 in
theorem c_X11_fence (l : Launch) {ι : qI} {b : Nat}  (x1 : Int32) (x2 : Int32) (u : qS) (h0 : is_X11 ι) : CN l yX11_fence cX11_fence 3 (some .boolean) 3 ι b [.ref (b + 163), .int x1, .int x2] u (m_X11_fence x1 x2 u) := by
  refine CN.of_SW (own := RX11) rfl (by decide) (Nat.le_of_ble_eq_true rfl) [(0, .ref (b + 163)), (1, .int x1), (2, .int x2)] rfl ?_
  unfold m_X11_fence
  refine sw_aload_n 0 dX11_fence_0 rfl rfl ?_
  refine sw_iconst (0 : Int32) dX11_fence_1 (by decide) ?_
  refine sw_puti q_cl11 0 dX11_fence_2 t_1045 (by decide) (by decide +kernel) rfl h0.1 rfl (fun u_1 => ?_)
  refine sw_aload_n 0 dX11_fence_5 rfl rfl ?_
  refine sw_iload_n 1 dX11_fence_6 rfl rfl ?_
  refine sw_callVi (As := [.int x1]) (k := 163) rfl dX11_fence_7 t_1414 mf_X11_isPlace h0.1 q_cl11 (by decide) (Nat.le_of_ble_eq_true rfl) (fun l => c_X11_isPlace l x1 u_1 h0) (fun r u_2 => ?_)
  refine sw_if_eq 22 dX11_fence_10 (by decide) ?_ ?_
  · refine sw_iconst (0 : Int32) dX11_fence_22 (by decide) ?_
    exact sw_zret0 dX11_fence_23
  · refine sw_aload_n 0 dX11_fence_13 rfl rfl ?_
    refine sw_iload_n 1 dX11_fence_14 rfl rfl ?_
    refine sw_callVi (As := [.int x1]) (k := 163) rfl dX11_fence_15 t_1434 mf_X11_isFenced h0.1 q_cl11 (by decide) (Nat.le_of_ble_eq_true rfl) (fun l => c_X11_isFenced l x1 u_2 h0) (fun r_3 u_4 => ?_)
    refine sw_iload_n 2 dX11_fence_18 rfl rfl ?_
    refine sw_icmp_ne 24 dX11_fence_19 (by decide) ?_ ?_
    · refine sw_iconst (0 : Int32) dX11_fence_22 (by decide) ?_
      exact sw_zret0 dX11_fence_23
    · refine sw_aload_n 0 dX11_fence_24 rfl rfl ?_
      refine sw_callVv (As := []) (k := 163) rfl dX11_fence_25 t_1418 mf_X11_keepsAhead h0.1 q_cl11 (by decide) (Nat.le_of_ble_eq_true rfl) (fun l => c_X11_keepsAhead l  u_4 h0) (fun _ u_5 => ?_)
      refine sw_aload_n 0 dX11_fence_28 rfl rfl ?_
      refine sw_iload_n 1 dX11_fence_29 rfl rfl ?_
      refine sw_iload_n 2 dX11_fence_30 rfl rfl ?_
      refine sw_callVv (As := [.int x1, .int x2]) (k := 163) rfl dX11_fence_31 t_1442 mf_X11_fences h0.1 q_cl11 (by decide) (Nat.le_of_ble_eq_true rfl) (fun l => c_X11_fences l x1 x2 u_5 h0) (fun _ u_6 => ?_)
      refine sw_iconst (1 : Int32) dX11_fence_34 (by decide) ?_
      exact sw_zret1 dX11_fence_35
set_option maxRecDepth 100000 in
theorem c_X11_boil (l : Launch) {ι : qI} {b : Nat}  (x1 : Int32) (x2 : Int32) (u : qS) (h0 : is_X11 ι) : CN l yX11_boil cX11_boil 3 (some .int) 3 ι b [.ref (b + 163), .int x1, .int x2] u (m_X11_boil x1 x2 u) := by
  refine CN.of_SW (own := RX11) rfl (by decide) (Nat.le_of_ble_eq_true rfl) [(0, .ref (b + 163)), (1, .int x1), (2, .int x2)] rfl ?_
  unfold m_X11_boil
  refine sw_aload_n 0 dX11_boil_0 rfl rfl ?_
  refine sw_iconst (0 : Int32) dX11_boil_1 (by decide) ?_
  refine sw_puti q_cl11 0 dX11_boil_2 t_1045 (by decide) (by decide +kernel) rfl h0.1 rfl (fun u_1 => ?_)
  refine sw_aload_n 0 dX11_boil_5 rfl rfl ?_
  refine sw_iload_n 1 dX11_boil_6 rfl rfl ?_
  refine sw_callVi (As := [.int x1]) (k := 163) rfl dX11_boil_7 t_1242 mf_X11_isParty h0.1 q_cl11 (by decide) (Nat.le_of_ble_eq_true rfl) (fun l => c_X11_isParty l x1 u_1 h0) (fun r u_2 => ?_)
  refine sw_if_eq 24 dX11_boil_10 (by decide) ?_ ?_
  · refine sw_iconst (-1 : Int32) dX11_boil_24 (by decide) ?_
    exact sw_iret dX11_boil_25
  · refine sw_aload_n 0 dX11_boil_13 rfl rfl ?_
    refine sw_iload_n 2 dX11_boil_14 rfl rfl ?_
    refine sw_iconst (1 : Int32) dX11_boil_15 (by decide) ?_
    refine sw_bipush (99 : Int32) dX11_boil_16 (by decide) ?_
    refine sw_callVi (As := [.int x2, .int (1 : Int32), .int (99 : Int32)]) (k := 163) rfl dX11_boil_18 t_1226 mf_X11_isIn h0.1 q_cl11 (by decide) (Nat.le_of_ble_eq_true rfl) (fun l => c_X11_isIn l x2 (1 : Int32) (99 : Int32) u_2 h0) (fun r_3 u_4 => ?_)
    refine sw_if_ne 26 dX11_boil_21 (by decide) ?_ ?_
    · refine sw_iconst (-1 : Int32) dX11_boil_24 (by decide) ?_
      exact sw_iret dX11_boil_25
    · refine sw_aload_n 0 dX11_boil_26 rfl rfl ?_
      refine sw_callVv (As := []) (k := 163) rfl dX11_boil_27 t_1418 mf_X11_keepsAhead h0.1 q_cl11 (by decide) (Nat.le_of_ble_eq_true rfl) (fun l => c_X11_keepsAhead l  u_4 h0) (fun _ u_5 => ?_)
      refine sw_aload_n 0 dX11_boil_30 rfl rfl ?_
      refine sw_iload_n 1 dX11_boil_31 rfl rfl ?_
      refine sw_iload_n 2 dX11_boil_32 rfl rfl ?_
      refine sw_callVi (As := [.int x1, .int x2]) (k := 163) rfl dX11_boil_33 t_1450 mf_X11_boils h0.1 q_cl11 (by decide) (Nat.le_of_ble_eq_true rfl) (fun l => c_X11_boils l x1 x2 u_5 h0) (fun r_6 u_7 => ?_)
      exact sw_iret dX11_boil_36
set_option maxRecDepth 100000 in
theorem c_X11_counts (l : Launch) {ι : qI} {b : Nat}  (x1 : Int32) (x2 : Int32) (u : qS) (h0 : is_X11 ι) : CN l yX11_counts cX11_counts 4 none 2 ι b [.ref (b + 163), .int x1, .int x2] u (m_X11_counts x1 x2 u) := by
  refine CN.of_SW (own := RX11) rfl (by decide) (Nat.le_of_ble_eq_true rfl) [(0, .ref (b + 163)), (1, .int x1), (2, .int x2)] rfl ?_
  unfold m_X11_counts
  refine sw_aload_n 0 dX11_counts_0 rfl rfl ?_
  refine sw_getr q_cl11 1 (r := 164) dX11_counts_1 t_1046 (by decide) h0.1 rfl ?_
  refine sw_iconst (5 : Int32) dX11_counts_4 (by decide) ?_
  refine sw_iload_n 1 dX11_counts_5 rfl rfl ?_
  refine sw_iadd dX11_counts_6 ?_
  refine sw_iald dX11_counts_7 h0.2.1 (fun a => ?_)
  refine sw_istore_n (lv' := [(3, .int a), (0, .ref (b + 163)), (1, .int x1), (2, .int x2)]) dX11_counts_8 rfl (by decide) rfl ?_
  refine sw_aload_n 1 dX11_counts_9 rfl rfl ?_
  refine sw_getr q_cl11 1 (r := 164) dX11_counts_10 t_1046 (by decide) h0.1 rfl ?_
  refine sw_iconst (5 : Int32) dX11_counts_13 (by decide) ?_
  refine sw_iload_n 2 dX11_counts_14 rfl rfl ?_
  refine sw_iadd dX11_counts_15 ?_
  refine sw_aload_n 1 dX11_counts_16 rfl rfl ?_
  refine sw_iload_n 0 dX11_counts_17 rfl rfl ?_
  refine sw_iload_n 3 dX11_counts_18 rfl rfl ?_
  refine sw_iadd dX11_counts_19 ?_
  refine sw_iconst (0 : Int32) dX11_counts_20 (by decide) ?_
  refine sw_sipush (9999 : Int32) dX11_counts_21 (by decide) ?_
  refine sw_callVi (As := [.int (a + x2), .int (0 : Int32), .int (9999 : Int32)]) (k := 163) rfl dX11_counts_24 t_1250 mf_X11_held h0.1 q_cl11 (by decide) (Nat.le_of_ble_eq_true rfl) (fun l => c_X11_held l (a + x2) (0 : Int32) (9999 : Int32) u h0) (fun r u_1 => ?_)
  refine sw_iast dX11_counts_27 h0.2.1 (fun u_2 => ?_)
  refine sw_iload_n 2 dX11_counts_28 rfl rfl ?_
  refine sw_aload_n 1 dX11_counts_29 rfl rfl ?_
  refine sw_geti q_cl11 43 dX11_counts_30 t_1088 (by decide) h0.1 rfl ?_
  refine sw_icmp_ne 55 dX11_counts_33 (by decide) ?_ ?_
  · refine sw_aload_n 1 dX11_counts_36 rfl rfl ?_
    refine sw_aload_n 1 dX11_counts_37 rfl rfl ?_
    refine sw_geti q_cl11 42 dX11_counts_38 t_1087 (by decide) h0.1 rfl ?_
    refine sw_aload_n 1 dX11_counts_41 rfl rfl ?_
    refine sw_getr q_cl11 1 (r := 164) dX11_counts_42 t_1046 (by decide) h0.1 rfl ?_
    refine sw_iconst (5 : Int32) dX11_counts_45 (by decide) ?_
    refine sw_iload_n 2 dX11_counts_46 rfl rfl ?_
    refine sw_iadd dX11_counts_47 ?_
    refine sw_iald dX11_counts_48 h0.2.1 (fun a_3 => ?_)
    refine sw_iadd dX11_counts_49 ?_
    refine sw_iload_n 0 dX11_counts_50 rfl rfl ?_
    refine sw_isub dX11_counts_51 ?_
    refine sw_puti q_cl11 42 dX11_counts_52 t_1087 (by decide) (by decide +kernel) rfl h0.1 rfl (fun u_4 => ?_)
    exact sw_vret dX11_counts_55
  · exact sw_vret dX11_counts_55
set_option maxRecDepth 100000 in
theorem w_X11_treeFor_L5 {ι : qI} {b : Nat}  (h0 : is_X11 ι) (x1 : Int32) (x2 : Int32) {K110 : Int32 → qS → qR} (hK110 : ∀ (e3 : Int32) (u : qS), SW RX11 cX11_treeFor 5 (some .int) 2 ι b 110 [(3, .int e3)] [] u (K110 e3 u)) (fu : Nat) (x3 : Int32) (x4 : Int32) (u : qS) : SW RX11 cX11_treeFor 5 (some .int) 2 ι b 5 [(0, .ref (b + 163)), (1, .int x1), (2, .int x2), (3, .int x3), (4, .int x4)] [] u (q_it2 (m_X11_treeFor_L5 x1 x2 K110) fu x3 x4 u) := by
  refine SW.it2 (fun x3 x4 => [(0, .ref (b + 163)), (1, .int x1), (2, .int x2), (3, .int x3), (4, .int x4)]) (fun self ih x3 x4 u => ?_) fu x3 x4 u
  unfold m_X11_treeFor_L5
  refine sw_iload 4 dX11_treeFor_5 rfl ?_
  refine sw_aload_n 0 dX11_treeFor_7 rfl rfl ?_
  refine sw_getr q_cl11 1 (r := 164) dX11_treeFor_8 t_1046 (by decide) h0.1 rfl ?_
  refine sw_iconst (4 : Int32) dX11_treeFor_11 (by decide) ?_
  refine sw_iald dX11_treeFor_12 h0.2.1 (fun a => ?_)
  refine sw_icmp_ge 110 dX11_treeFor_13 (by decide) ?_ ?_
  · exact SW.sub [3] rfl (hK110 x3 u)
  · refine sw_aload_n 0 dX11_treeFor_16 rfl rfl ?_
    refine sw_getr q_cl11 1 (r := 164) dX11_treeFor_17 t_1046 (by decide) h0.1 rfl ?_
    refine sw_bipush (34 : Int32) dX11_treeFor_20 (by decide) ?_
    refine sw_iload 4 dX11_treeFor_22 rfl ?_
    refine sw_iadd dX11_treeFor_24 ?_
    refine sw_iald dX11_treeFor_25 h0.2.1 (fun a_1 => ?_)
    refine sw_iload_n 2 dX11_treeFor_26 rfl rfl ?_
    refine SW.jn1 104 (fun x3_2 => [(0, .ref (b + 163)), (1, .int x1), (2, .int x2), (3, .int x3_2), (4, .int x4)]) (fun x3_2 => []) (fun x3_2 u_3 => ?_) (fun J104 hJ104 => ?_)
    · refine sw_iinc (lv' := [(4, .int (x4 + (1 : Int32))), (0, .ref (b + 163)), (1, .int x1), (2, .int x2), (3, .int x3_2)]) 4 dX11_treeFor_104 rfl (congrArg (x4 + ·) (by decide)) (by decide) rfl ?_
      refine sw_goto 5 dX11_treeFor_107 (by decide) ?_
      exact SW.sub [1, 2, 3, 4, 0] rfl (ih x3_2 (x4 + (1 : Int32)) u_3)
    · refine sw_icmp_ne 104 dX11_treeFor_27 (by decide) ?_ ?_
      · refine sw_aload_n 0 dX11_treeFor_30 rfl rfl ?_
        refine sw_getr q_cl11 1 (r := 164) dX11_treeFor_31 t_1046 (by decide) h0.1 rfl ?_
        refine sw_bipush (62 : Int32) dX11_treeFor_34 (by decide) ?_
        refine sw_iload 4 dX11_treeFor_36 rfl ?_
        refine sw_iadd dX11_treeFor_38 ?_
        refine sw_iald dX11_treeFor_39 h0.2.1 (fun a_4 => ?_)
        refine sw_if_eq 104 dX11_treeFor_40 (by decide) ?_ ?_
        · exact SW.sub [0, 1, 2, 3, 4] rfl (hJ104 x3 u)
        · refine sw_aload_n 0 dX11_treeFor_43 rfl rfl ?_
          refine sw_iload_n 1 dX11_treeFor_44 rfl rfl ?_
          refine sw_aload_n 0 dX11_treeFor_45 rfl rfl ?_
          refine sw_getr q_cl11 1 (r := 164) dX11_treeFor_46 t_1046 (by decide) h0.1 rfl ?_
          refine sw_bipush (20 : Int32) dX11_treeFor_49 (by decide) ?_
          refine sw_iload 4 dX11_treeFor_51 rfl ?_
          refine sw_iadd dX11_treeFor_53 ?_
          refine sw_iald dX11_treeFor_54 h0.2.1 (fun a_5 => ?_)
          refine sw_callVi (As := [.int x1, .int a_5]) (k := 163) rfl dX11_treeFor_55 t_1514 mf_X11_tasteOf h0.1 q_cl11 (by decide) (Nat.le_of_ble_eq_true rfl) (fun l => c_X11_tasteOf l x1 a_5 u h0) (fun r u_6 => ?_)
          refine sw_if_ne 64 dX11_treeFor_58 (by decide) ?_ ?_
          · refine sw_goto 104 dX11_treeFor_61 (by decide) ?_
            exact SW.sub [0, 1, 2, 3, 4] rfl (hJ104 x3 u_6)
          · refine sw_iload_n 3 dX11_treeFor_64 rfl rfl ?_
            refine sw_iconst (-1 : Int32) dX11_treeFor_65 (by decide) ?_
            refine SW.jn0 101 ([(0, .ref (b + 163)), (1, .int x1), (2, .int x2), (4, .int x4)]) ([]) (fun  u_7 => ?_) (fun J101 hJ101 => ?_)
            · refine sw_iload 3 dX11_treeFor_101 rfl ?_
              refine sw_istore_n (lv' := [(3, .int x4), (0, .ref (b + 163)), (1, .int x1), (2, .int x2), (4, .int x4)]) dX11_treeFor_103 rfl (by decide) rfl ?_
              exact SW.sub [1, 2, 3, 0, 4] rfl (hJ104 x4 u_7)
            · refine sw_icmp_eq 101 dX11_treeFor_66 (by decide) ?_ ?_
              · exact SW.sub [0, 1, 2, 4] rfl (hJ101  u_6)
              · refine sw_aload_n 0 dX11_treeFor_69 rfl rfl ?_
                refine sw_iload_n 1 dX11_treeFor_70 rfl rfl ?_
                refine sw_aload_n 0 dX11_treeFor_71 rfl rfl ?_
                refine sw_getr q_cl11 1 (r := 164) dX11_treeFor_72 t_1046 (by decide) h0.1 rfl ?_
                refine sw_bipush (20 : Int32) dX11_treeFor_75 (by decide) ?_
                refine sw_iload 4 dX11_treeFor_77 rfl ?_
                refine sw_iadd dX11_treeFor_79 ?_
                refine sw_iald dX11_treeFor_80 h0.2.1 (fun a_8 => ?_)
                refine sw_callVi (As := [.int x1, .int a_8]) (k := 163) rfl dX11_treeFor_81 t_1514 mf_X11_tasteOf h0.1 q_cl11 (by decide) (Nat.le_of_ble_eq_true rfl) (fun l => c_X11_tasteOf l x1 a_8 u_6 h0) (fun r_9 u_10 => ?_)
                refine sw_aload_n 0 dX11_treeFor_84 rfl rfl ?_
                refine sw_iload_n 1 dX11_treeFor_85 rfl rfl ?_
                refine sw_aload_n 0 dX11_treeFor_86 rfl rfl ?_
                refine sw_getr q_cl11 1 (r := 164) dX11_treeFor_87 t_1046 (by decide) h0.1 rfl ?_
                refine sw_bipush (20 : Int32) dX11_treeFor_90 (by decide) ?_
                refine sw_iload_n 3 dX11_treeFor_92 rfl rfl ?_
                refine sw_iadd dX11_treeFor_93 ?_
                refine sw_iald dX11_treeFor_94 h0.2.1 (fun a_11 => ?_)
                refine sw_callVi (As := [.int x1, .int a_11]) (k := 163) rfl dX11_treeFor_95 t_1514 mf_X11_tasteOf h0.1 q_cl11 (by decide) (Nat.le_of_ble_eq_true rfl) (fun l => c_X11_tasteOf l x1 a_11 u_10 h0) (fun r_12 u_13 => ?_)
                refine sw_icmp_le 104 dX11_treeFor_98 (by decide) ?_ ?_
                · exact SW.sub [0, 1, 2, 3, 4] rfl (hJ104 x3 u_13)
                · exact SW.sub [0, 1, 2, 4] rfl (hJ101  u_13)
      · exact SW.sub [0, 1, 2, 3, 4] rfl (hJ104 x3 u)
set_option maxRecDepth 100000 in
theorem c_X11_treeFor (l : Launch) {ι : qI} {b : Nat}  (x1 : Int32) (x2 : Int32) (u : qS) (h0 : is_X11 ι) : CN l yX11_treeFor cX11_treeFor 5 (some .int) 2 ι b [.ref (b + 163), .int x1, .int x2] u (m_X11_treeFor x1 x2 u) := by
  refine CN.of_SW (own := RX11) rfl (by decide) (Nat.le_of_ble_eq_true rfl) [(0, .ref (b + 163)), (1, .int x1), (2, .int x2)] rfl ?_
  unfold m_X11_treeFor
  refine sw_iconst (-1 : Int32) dX11_treeFor_0 (by decide) ?_
  refine sw_istore_n (lv' := [(3, .int (-1 : Int32)), (0, .ref (b + 163)), (1, .int x1), (2, .int x2)]) dX11_treeFor_1 rfl (by decide) rfl ?_
  refine sw_iconst (0 : Int32) dX11_treeFor_2 (by decide) ?_
  refine sw_istore (lv' := [(4, .int (0 : Int32)), (3, .int (-1 : Int32)), (0, .ref (b + 163)), (1, .int x1), (2, .int x2)]) dX11_treeFor_3 (by decide) rfl ?_
  refine SW.sub (lv' := [(0, .ref (b + 163)), (1, .int x1), (2, .int x2), (3, .int (-1 : Int32)), (4, .int (0 : Int32))]) [2, 3, 4, 1, 0] rfl ?_
  refine w_X11_treeFor_L5 h0 x1 x2 (fun x3 u_14 => ?_) q_F (-1 : Int32) (0 : Int32) u
  refine sw_iload_n 0 dX11_treeFor_110 rfl rfl ?_
  exact sw_iret dX11_treeFor_111
set_option maxRecDepth 100000 in
theorem w_X11_jamFor_L4 {ι : qI} {b : Nat}  (h0 : is_X11 ι) (x1 : Int32) {K61 : Int32 → qS → qR} (hK61 : ∀ (e2 : Int32) (u : qS), SW RX11 cX11_jamFor 4 (some .int) 2 ι b 61 [(2, .int e2)] [] u (K61 e2 u)) (fu : Nat) (x2 : Int32) (x3 : Int32) (u : qS) : SW RX11 cX11_jamFor 4 (some .int) 2 ι b 4 [(0, .ref (b + 163)), (1, .int x1), (2, .int x2), (3, .int x3)] [] u (q_it2 (m_X11_jamFor_L4 x1 K61) fu x2 x3 u) := by
  refine SW.it2 (fun x2 x3 => [(0, .ref (b + 163)), (1, .int x1), (2, .int x2), (3, .int x3)]) (fun self ih x2 x3 u => ?_) fu x2 x3 u
  unfold m_X11_jamFor_L4
  refine sw_iload_n 3 dX11_jamFor_4 rfl rfl ?_
  refine sw_aload_n 0 dX11_jamFor_5 rfl rfl ?_
  refine sw_geti q_cl11 6 dX11_jamFor_6 t_1051 (by decide) h0.1 rfl ?_
  refine sw_icmp_ge 61 dX11_jamFor_9 (by decide) ?_ ?_
  · exact SW.sub [2] rfl (hK61 x2 u)
  · refine sw_aload_n 0 dX11_jamFor_12 rfl rfl ?_
    refine sw_getr q_cl11 1 (r := 164) dX11_jamFor_13 t_1046 (by decide) h0.1 rfl ?_
    refine sw_bipush (15 : Int32) dX11_jamFor_16 (by decide) ?_
    refine sw_iload_n 3 dX11_jamFor_18 rfl rfl ?_
    refine sw_iadd dX11_jamFor_19 ?_
    refine sw_iald dX11_jamFor_20 h0.2.1 (fun a => ?_)
    refine SW.jn1 55 (fun x2_1 => [(0, .ref (b + 163)), (1, .int x1), (2, .int x2_1), (3, .int x3)]) (fun x2_1 => []) (fun x2_1 u_2 => ?_) (fun J55 hJ55 => ?_)
    · refine sw_iinc (lv' := [(3, .int (x3 + (1 : Int32))), (0, .ref (b + 163)), (1, .int x1), (2, .int x2_1)]) 3 dX11_jamFor_55 rfl (congrArg (x3 + ·) (by decide)) (by decide) rfl ?_
      refine sw_goto 4 dX11_jamFor_58 (by decide) ?_
      exact SW.sub [1, 2, 3, 0] rfl (ih x2_1 (x3 + (1 : Int32)) u_2)
    · refine sw_if_le 55 dX11_jamFor_21 (by decide) ?_ ?_
      · exact SW.sub [0, 1, 2, 3] rfl (hJ55 x2 u)
      · refine sw_aload_n 0 dX11_jamFor_24 rfl rfl ?_
        refine sw_iload_n 1 dX11_jamFor_25 rfl rfl ?_
        refine sw_iload_n 3 dX11_jamFor_26 rfl rfl ?_
        refine sw_callVi (As := [.int x1, .int x3]) (k := 163) rfl dX11_jamFor_27 t_1514 mf_X11_tasteOf h0.1 q_cl11 (by decide) (Nat.le_of_ble_eq_true rfl) (fun l => c_X11_tasteOf l x1 x3 u h0) (fun r u_3 => ?_)
        refine sw_if_le 55 dX11_jamFor_30 (by decide) ?_ ?_
        · exact SW.sub [0, 1, 2, 3] rfl (hJ55 x2 u_3)
        · refine sw_iload_n 2 dX11_jamFor_33 rfl rfl ?_
          refine sw_iconst (-1 : Int32) dX11_jamFor_34 (by decide) ?_
          refine SW.jn0 53 ([(0, .ref (b + 163)), (1, .int x1), (3, .int x3)]) ([]) (fun  u_4 => ?_) (fun J53 hJ53 => ?_)
          · refine sw_iload_n 2 dX11_jamFor_53 rfl rfl ?_
            refine sw_istore_n (lv' := [(2, .int x3), (0, .ref (b + 163)), (1, .int x1), (3, .int x3)]) dX11_jamFor_54 rfl (by decide) rfl ?_
            exact SW.sub [1, 2, 0, 3] rfl (hJ55 x3 u_4)
          · refine sw_icmp_eq 53 dX11_jamFor_35 (by decide) ?_ ?_
            · exact SW.sub [0, 1, 3] rfl (hJ53  u_3)
            · refine sw_aload_n 0 dX11_jamFor_38 rfl rfl ?_
              refine sw_iload_n 1 dX11_jamFor_39 rfl rfl ?_
              refine sw_iload_n 3 dX11_jamFor_40 rfl rfl ?_
              refine sw_callVi (As := [.int x1, .int x3]) (k := 163) rfl dX11_jamFor_41 t_1514 mf_X11_tasteOf h0.1 q_cl11 (by decide) (Nat.le_of_ble_eq_true rfl) (fun l => c_X11_tasteOf l x1 x3 u_3 h0) (fun r_5 u_6 => ?_)
              refine sw_aload_n 0 dX11_jamFor_44 rfl rfl ?_
              refine sw_iload_n 1 dX11_jamFor_45 rfl rfl ?_
              refine sw_iload_n 2 dX11_jamFor_46 rfl rfl ?_
              refine sw_callVi (As := [.int x1, .int x2]) (k := 163) rfl dX11_jamFor_47 t_1514 mf_X11_tasteOf h0.1 q_cl11 (by decide) (Nat.le_of_ble_eq_true rfl) (fun l => c_X11_tasteOf l x1 x2 u_6 h0) (fun r_7 u_8 => ?_)
              refine sw_icmp_le 55 dX11_jamFor_50 (by decide) ?_ ?_
              · exact SW.sub [0, 1, 2, 3] rfl (hJ55 x2 u_8)
              · exact SW.sub [0, 1, 3] rfl (hJ53  u_8)
set_option maxRecDepth 100000 in
theorem c_X11_jamFor (l : Launch) {ι : qI} {b : Nat}  (x1 : Int32) (u : qS) (h0 : is_X11 ι) : CN l yX11_jamFor cX11_jamFor 4 (some .int) 2 ι b [.ref (b + 163), .int x1] u (m_X11_jamFor x1 u) := by
  refine CN.of_SW (own := RX11) rfl (by decide) (Nat.le_of_ble_eq_true rfl) [(0, .ref (b + 163)), (1, .int x1)] rfl ?_
  unfold m_X11_jamFor
  refine sw_iconst (-1 : Int32) dX11_jamFor_0 (by decide) ?_
  refine sw_istore_n (lv' := [(2, .int (-1 : Int32)), (0, .ref (b + 163)), (1, .int x1)]) dX11_jamFor_1 rfl (by decide) rfl ?_
  refine sw_iconst (0 : Int32) dX11_jamFor_2 (by decide) ?_
  refine sw_istore_n (lv' := [(3, .int (0 : Int32)), (2, .int (-1 : Int32)), (0, .ref (b + 163)), (1, .int x1)]) dX11_jamFor_3 rfl (by decide) rfl ?_
  refine SW.sub (lv' := [(0, .ref (b + 163)), (1, .int x1), (2, .int (-1 : Int32)), (3, .int (0 : Int32))]) [2, 3, 1, 0] rfl ?_
  refine w_X11_jamFor_L4 h0 x1 (fun x2 u_9 => ?_) q_F (-1 : Int32) (0 : Int32) u
  refine sw_iload_n 0 dX11_jamFor_61 rfl rfl ?_
  exact sw_iret dX11_jamFor_62
set_option maxRecDepth 100000 in
theorem c_X11_isGood (l : Launch) {ι : qI} {b : Nat}  (x1 : Int32) (x2 : Int32) (u : qS) (h0 : is_X11 ι) : CN l yX11_isGood cX11_isGood 4 (some .boolean) 6 ι b [.ref (b + 163), .int x1, .int x2] u (m_X11_isGood x1 x2 u) := by
  refine CN.of_SW (own := RX11) rfl (by decide) (Nat.le_of_ble_eq_true rfl) [(0, .ref (b + 163)), (1, .int x1), (2, .int x2)] rfl ?_
  unfold m_X11_isGood
  refine sw_aload_n 0 dX11_isGood_0 rfl rfl ?_
  refine sw_getr q_cl11 1 (r := 164) dX11_isGood_1 t_1046 (by decide) h0.1 rfl ?_
  refine sw_bipush (20 : Int32) dX11_isGood_4 (by decide) ?_
  refine sw_iload_n 2 dX11_isGood_6 rfl rfl ?_
  refine sw_iadd dX11_isGood_7 ?_
  refine sw_iald dX11_isGood_8 h0.2.1 (fun a => ?_)
  refine sw_istore_n (lv' := [(3, .int a), (0, .ref (b + 163)), (1, .int x1), (2, .int x2)]) dX11_isGood_9 rfl (by decide) rfl ?_
  refine sw_aload_n 1 dX11_isGood_10 rfl rfl ?_
  refine sw_iload_n 0 dX11_isGood_11 rfl rfl ?_
  refine sw_aload_n 1 dX11_isGood_12 rfl rfl ?_
  refine sw_iload_n 2 dX11_isGood_13 rfl rfl ?_
  refine sw_iload_n 0 dX11_isGood_14 rfl rfl ?_
  refine sw_iload_n 3 dX11_isGood_15 rfl rfl ?_
  refine sw_callVi (As := [.int x1, .int a, .int x2]) (k := 163) rfl dX11_isGood_16 t_1522 mf_X11_countOf h0.1 q_cl11 (by decide) (Nat.le_of_ble_eq_true rfl) (fun l => c_X11_countOf l x1 a x2 u h0) (fun r u_1 => ?_)
  refine sw_callVv (As := [.int a, .int r]) (k := 163) rfl dX11_isGood_19 t_1526 mf_X11_counts h0.1 q_cl11 (by decide) (Nat.le_of_ble_eq_true rfl) (fun l => c_X11_counts l a r u_1 h0) (fun _ u_2 => ?_)
  refine sw_aload_n 1 dX11_isGood_22 rfl rfl ?_
  refine sw_getr q_cl11 1 (r := 164) dX11_isGood_23 t_1046 (by decide) h0.1 rfl ?_
  refine sw_bipush (62 : Int32) dX11_isGood_26 (by decide) ?_
  refine sw_iload_n 3 dX11_isGood_28 rfl rfl ?_
  refine sw_iadd dX11_isGood_29 ?_
  refine sw_aload_n 1 dX11_isGood_30 rfl rfl ?_
  refine sw_getr q_cl11 1 (r := 164) dX11_isGood_31 t_1046 (by decide) h0.1 rfl ?_
  refine sw_bipush (62 : Int32) dX11_isGood_34 (by decide) ?_
  refine sw_iload_n 3 dX11_isGood_36 rfl rfl ?_
  refine sw_iadd dX11_isGood_37 ?_
  refine sw_iald dX11_isGood_38 h0.2.1 (fun a_3 => ?_)
  refine sw_iconst (1 : Int32) dX11_isGood_39 (by decide) ?_
  refine sw_isub dX11_isGood_40 ?_
  refine sw_iast dX11_isGood_41 h0.2.1 (fun u_4 => ?_)
  refine sw_aload_n 1 dX11_isGood_42 rfl rfl ?_
  refine sw_geti q_cl11 5 dX11_isGood_43 t_1050 (by decide) h0.1 rfl ?_
  refine sw_if_ne 70 dX11_isGood_46 (by decide) ?_ ?_
  · refine sw_aload_n 1 dX11_isGood_49 rfl rfl ?_
    refine sw_geti q_cl11 8 dX11_isGood_50 t_1053 (by decide) h0.1 rfl ?_
    refine sw_if_eq 70 dX11_isGood_53 (by decide) ?_ ?_
    · refine sw_iconst (1 : Int32) dX11_isGood_70 (by decide) ?_
      exact sw_zret1 dX11_isGood_71
    · refine sw_aload_n 1 dX11_isGood_56 rfl rfl ?_
      refine sw_sipush (1000 : Int32) dX11_isGood_57 (by decide) ?_
      refine sw_callVi (As := [.int (1000 : Int32)]) (k := 163) rfl dX11_isGood_60 t_1530 mf_X11_draw h0.1 q_cl11 (by decide) (Nat.le_of_ble_eq_true rfl) (fun l => c_X11_draw l (1000 : Int32) u_4 h0) (fun r_5 u_6 => ?_)
      refine sw_aload_n 1 dX11_isGood_63 rfl rfl ?_
      refine sw_geti q_cl11 8 dX11_isGood_64 t_1053 (by decide) h0.1 rfl ?_
      refine sw_icmp_lt 72 dX11_isGood_67 (by decide) ?_ ?_
      · refine sw_aload_n 1 dX11_isGood_72 rfl rfl ?_
        refine sw_iload_n 2 dX11_isGood_73 rfl rfl ?_
        refine sw_iload_n 0 dX11_isGood_74 rfl rfl ?_
        refine sw_aload_n 1 dX11_isGood_75 rfl rfl ?_
        refine sw_iload_n 2 dX11_isGood_76 rfl rfl ?_
        refine sw_iload_n 0 dX11_isGood_77 rfl rfl ?_
        refine sw_callVi (As := [.int x1, .int a]) (k := 163) rfl dX11_isGood_78 t_1514 mf_X11_tasteOf h0.1 q_cl11 (by decide) (Nat.le_of_ble_eq_true rfl) (fun l => c_X11_tasteOf l x1 a u_6 h0) (fun r_7 u_8 => ?_)
        refine sw_iconst (2 : Int32) dX11_isGood_81 (by decide) ?_
        refine sw_isub dX11_isGood_82 ?_
        refine sw_callVv (As := [.int x1, .int a, .int (r_7 - (2 : Int32))]) (k := 163) rfl dX11_isGood_83 t_1246 mf_X11_tasteBe h0.1 q_cl11 (by decide) (Nat.le_of_ble_eq_true rfl) (fun l => c_X11_tasteBe l x1 a (r_7 - (2 : Int32)) u_8 h0) (fun _ u_9 => ?_)
        refine sw_aload_n 1 dX11_isGood_86 rfl rfl ?_
        refine sw_iconst (4 : Int32) dX11_isGood_87 (by decide) ?_
        refine sw_iload_n 2 dX11_isGood_88 rfl rfl ?_
        refine sw_iload_n 0 dX11_isGood_89 rfl rfl ?_
        refine sw_callVv (As := [.int (4 : Int32), .int x1, .int a]) (k := 163) rfl dX11_isGood_90 t_1426 mf_X11_notes h0.1 q_cl11 (by decide) (Nat.le_of_ble_eq_true rfl) (fun l => c_X11_notes l (4 : Int32) x1 a u_9 h0) (fun _ u_10 => ?_)
        refine sw_iconst (0 : Int32) dX11_isGood_93 (by decide) ?_
        exact sw_zret0 dX11_isGood_94
      · refine sw_iconst (1 : Int32) dX11_isGood_70 (by decide) ?_
        exact sw_zret1 dX11_isGood_71
  · refine sw_iconst (1 : Int32) dX11_isGood_70 (by decide) ?_
    exact sw_zret1 dX11_isGood_71
set_option maxRecDepth 100000 in
theorem w_X11_leftByPath_L57 {ι : qI} {b : Nat}  (h0 : is_X11 ι) (x1 : Int32) (x4 : Int32) (x5 : Int32) (x6 : Int32) {K81 : qS → qR} {K95 : Int32 → qS → qR} (hK81 : ∀  (u : qS), SW RX11 cX11_leftByPath 8 (some .int) 7 ι b 81 [] [] u (K81  u)) (hK95 : ∀ (e3 : Int32) (u : qS), SW RX11 cX11_leftByPath 8 (some .int) 7 ι b 95 [(0, .ref (b + 163)), (1, .int x1), (3, .int e3), (4, .int x4), (5, .int x5)] [] u (K95 e3 u)) (fu : Nat) (x3 : Int32) (x7 : Int32) (u : qS) : SW RX11 cX11_leftByPath 8 (some .int) 7 ι b 57 [(0, .ref (b + 163)), (1, .int x1), (3, .int x3), (4, .int x4), (5, .int x5), (6, .int x6), (7, .int x7)] [] u (q_it2 (m_X11_leftByPath_L57 x1 x4 x5 x6 K81 K95) fu x3 x7 u) := by
  refine SW.it2 (fun x3 x7 => [(0, .ref (b + 163)), (1, .int x1), (3, .int x3), (4, .int x4), (5, .int x5), (6, .int x6), (7, .int x7)]) (fun self ih x3 x7 u => ?_) fu x3 x7 u
  unfold m_X11_leftByPath_L57
  refine sw_iload_n 2 dX11_leftByPath_57 rfl rfl ?_
  refine sw_if_le 95 dX11_leftByPath_58 (by decide) ?_ ?_
  · exact SW.sub [0, 1, 2, 3, 4] rfl (hK95 x3 u)
  · refine sw_iload 6 dX11_leftByPath_61 rfl ?_
    refine sw_iconst (-1 : Int32) dX11_leftByPath_63 (by decide) ?_
    refine sw_icmp_eq 95 dX11_leftByPath_64 (by decide) ?_ ?_
    · exact SW.sub [0, 1, 2, 3, 4] rfl (hK95 x3 u)
    · refine sw_iload_n 2 dX11_leftByPath_67 rfl rfl ?_
      refine sw_iconst (1 : Int32) dX11_leftByPath_68 (by decide) ?_
      refine sw_isub dX11_leftByPath_69 ?_
      refine SW.name (fun y3 => ?_)
      refine sw_istore_n (lv' := [(3, .int y3), (0, .ref (b + 163)), (1, .int x1), (4, .int x4), (5, .int x5), (6, .int x6), (7, .int x7)]) dX11_leftByPath_70 rfl (by decide) rfl ?_
      refine sw_aload_n 1 dX11_leftByPath_71 rfl rfl ?_
      refine sw_iload_n 2 dX11_leftByPath_72 rfl rfl ?_
      refine sw_iload 6 dX11_leftByPath_73 rfl ?_
      refine sw_callVi (As := [.int x1, .int x7]) (k := 163) rfl dX11_leftByPath_75 t_1518 mf_X11_isGood h0.1 q_cl11 (by decide) (Nat.le_of_ble_eq_true rfl) (fun l => c_X11_isGood l x1 x7 u h0) (fun r u_4 => ?_)
      refine sw_if_ne 83 dX11_leftByPath_78 (by decide) ?_ ?_
      · exact SW.sub [] rfl (hK81  u_4)
      · refine sw_aload_n 1 dX11_leftByPath_83 rfl rfl ?_
        refine sw_iload_n 2 dX11_leftByPath_84 rfl rfl ?_
        refine sw_iload 5 dX11_leftByPath_85 rfl ?_
        refine sw_callVi (As := [.int x1, .int x6]) (k := 163) rfl dX11_leftByPath_87 t_1510 mf_X11_treeFor h0.1 q_cl11 (by decide) (Nat.le_of_ble_eq_true rfl) (fun l => c_X11_treeFor l x1 x6 u_4 h0) (fun r_5 u_6 => ?_)
        refine sw_istore (lv' := [(7, .int r_5), (3, .int y3), (0, .ref (b + 163)), (1, .int x1), (4, .int x4), (5, .int x5), (6, .int x6)]) dX11_leftByPath_90 (by decide) rfl ?_
        refine sw_goto 57 dX11_leftByPath_92 (by decide) ?_
        exact SW.sub [2, 3, 1, 4, 5, 6, 0] rfl (ih y3 r_5 u_6)
set_option maxRecDepth 100000 in
theorem w_X11_leftByPath_L11 {ι : qI} {b : Nat}  (h0 : is_X11 ι) (x1 : Int32) (x4 : Int32) {K81 : qS → qR} {K101 : Int32 → qS → qR} (hK81 : ∀  (u : qS), SW RX11 cX11_leftByPath 8 (some .int) 7 ι b 81 [] [] u (K81  u)) (hK101 : ∀ (e3 : Int32) (u : qS), SW RX11 cX11_leftByPath 8 (some .int) 7 ι b 101 [(3, .int e3)] [] u (K101 e3 u)) (fu : Nat) (x3 : Int32) (x5 : Int32) (u : qS) : SW RX11 cX11_leftByPath 8 (some .int) 7 ι b 11 [(0, .ref (b + 163)), (1, .int x1), (3, .int x3), (4, .int x4), (5, .int x5)] [] u (q_it2 (m_X11_leftByPath_L11 x1 x4 K81 K101) fu x3 x5 u) := by
  refine SW.it2 (fun x3 x5 => [(0, .ref (b + 163)), (1, .int x1), (3, .int x3), (4, .int x4), (5, .int x5)]) (fun self ih x3 x5 u => ?_) fu x3 x5 u
  unfold m_X11_leftByPath_L11
  refine sw_iload 4 dX11_leftByPath_11 rfl ?_
  refine sw_aload_n 0 dX11_leftByPath_13 rfl rfl ?_
  refine sw_getr q_cl11 37 (r := 178) dX11_leftByPath_14 t_1082 (by decide) h0.1 rfl ?_
  refine sw_iload 3 dX11_leftByPath_17 rfl ?_
  refine sw_iald dX11_leftByPath_19 h0.2.2.2.2.2.2.2.2.2.2.2.2.2.2.2.1 (fun a => ?_)
  refine sw_icmp_gt 101 dX11_leftByPath_20 (by decide) ?_ ?_
  · exact SW.sub [2] rfl (hK101 x3 u)
  · refine sw_aload_n 0 dX11_leftByPath_23 rfl rfl ?_
    refine sw_getr q_cl11 37 (r := 178) dX11_leftByPath_24 t_1082 (by decide) h0.1 rfl ?_
    refine sw_iload 3 dX11_leftByPath_27 rfl ?_
    refine sw_iload 4 dX11_leftByPath_29 rfl ?_
    refine sw_iadd dX11_leftByPath_31 ?_
    refine sw_iald dX11_leftByPath_32 h0.2.2.2.2.2.2.2.2.2.2.2.2.2.2.2.1 (fun a_1 => ?_)
    refine sw_istore (lv' := [(6, .int a_1), (0, .ref (b + 163)), (1, .int x1), (3, .int x3), (4, .int x4), (5, .int x5)]) dX11_leftByPath_33 (by decide) rfl ?_
    refine sw_aload_n 1 dX11_leftByPath_35 rfl rfl ?_
    refine sw_iload 0 dX11_leftByPath_36 rfl ?_
    refine sw_callVi (As := [.int a_1]) (k := 163) rfl dX11_leftByPath_38 t_1434 mf_X11_isFenced h0.1 q_cl11 (by decide) (Nat.le_of_ble_eq_true rfl) (fun l => c_X11_isFenced l a_1 u h0) (fun r u_2 => ?_)
    refine SW.jn1 55 (fun s0 => [(0, .ref (b + 163)), (1, .int x1), (3, .int x3), (4, .int x4), (5, .int x5), (6, .int a_1)]) (fun s0 => [.int s0]) (fun s0 u_3 => ?_) (fun J55 hJ55 => ?_)
    · refine sw_istore (lv' := [(7, .int s0), (0, .ref (b + 163)), (1, .int x1), (3, .int x3), (4, .int x4), (5, .int x5), (6, .int a_1)]) dX11_leftByPath_55 (by decide) rfl ?_
      refine SW.sub (lv' := [(0, .ref (b + 163)), (1, .int x1), (3, .int x3), (4, .int x4), (5, .int x5), (6, .int a_1), (7, .int s0)]) [1, 2, 3, 4, 5, 6, 0] rfl ?_
      refine w_X11_leftByPath_L57 h0 x1 x4 x5 a_1 (fun u_7 => ?_) (fun x3_8 u_9 => ?_) q_F x3 s0 u_3
      · exact SW.sub [] rfl (hK81  u_7)
      · refine sw_iinc (lv' := [(5, .int (x5 + (1 : Int32))), (0, .ref (b + 163)), (1, .int x1), (3, .int x3_8), (4, .int x4)]) 4 dX11_leftByPath_95 rfl (congrArg (x5 + ·) (by decide)) (by decide) rfl ?_
        refine sw_goto 11 dX11_leftByPath_98 (by decide) ?_
        exact SW.sub [1, 2, 3, 4, 0] rfl (ih x3_8 (x5 + (1 : Int32)) u_9)
    · refine sw_if_eq 48 dX11_leftByPath_41 (by decide) ?_ ?_
      · refine sw_aload_n 1 dX11_leftByPath_48 rfl rfl ?_
        refine sw_iload_n 2 dX11_leftByPath_49 rfl rfl ?_
        refine sw_iload 0 dX11_leftByPath_50 rfl ?_
        refine sw_callVi (As := [.int x1, .int a_1]) (k := 163) rfl dX11_leftByPath_52 t_1510 mf_X11_treeFor h0.1 q_cl11 (by decide) (Nat.le_of_ble_eq_true rfl) (fun l => c_X11_treeFor l x1 a_1 u_2 h0) (fun r_10 u_11 => ?_)
        exact SW.sub [1, 2, 3, 4, 5, 0] rfl (hJ55 r_10 u_11)
      · refine sw_iconst (-1 : Int32) dX11_leftByPath_44 (by decide) ?_
        refine sw_goto 55 dX11_leftByPath_45 (by decide) ?_
        exact SW.sub [1, 2, 3, 4, 5, 0] rfl (hJ55 (-1 : Int32) u_2)
set_option maxRecDepth 100000 in
theorem c_X11_leftByPath (l : Launch) {ι : qI} {b : Nat}  (x1 : Int32) (x2 : Int32) (u : qS) (h0 : is_X11 ι) : CN l yX11_leftByPath cX11_leftByPath 8 (some .int) 7 ι b [.ref (b + 163), .int x1, .int x2] u (m_X11_leftByPath x1 x2 u) := by
  refine CN.of_SW (own := RX11) rfl (by decide) (Nat.le_of_ble_eq_true rfl) [(0, .ref (b + 163)), (1, .int x1), (2, .int x2)] rfl ?_
  unfold m_X11_leftByPath
  refine sw_iload_n 2 dX11_leftByPath_0 rfl rfl ?_
  refine sw_istore_n (lv' := [(3, .int x2), (0, .ref (b + 163)), (1, .int x1), (2, .int x2)]) dX11_leftByPath_1 rfl (by decide) rfl ?_
  refine sw_bipush (9 : Int32) dX11_leftByPath_2 (by decide) ?_
  refine sw_iload_n 2 dX11_leftByPath_4 rfl rfl ?_
  refine sw_imul dX11_leftByPath_5 ?_
  refine SW.name (fun y4 => ?_)
  refine sw_istore (lv' := [(4, .int y4), (3, .int x2), (0, .ref (b + 163)), (1, .int x1), (2, .int x2)]) dX11_leftByPath_6 (by decide) rfl ?_
  refine sw_iconst (1 : Int32) dX11_leftByPath_8 (by decide) ?_
  refine sw_istore (lv' := [(5, .int (1 : Int32)), (4, .int y4), (3, .int x2), (0, .ref (b + 163)), (1, .int x1), (2, .int x2)]) dX11_leftByPath_9 (by decide) rfl ?_
  refine SW.sub (lv' := [(0, .ref (b + 163)), (1, .int x1), (3, .int x2), (4, .int y4), (5, .int (1 : Int32))]) [3, 4, 2, 1, 0] rfl ?_
  refine w_X11_leftByPath_L11 h0 x1 y4 (fun u_12 => ?_) (fun x3 u_13 => ?_) q_F x2 (1 : Int32) u
  · refine sw_iconst (-1 : Int32) dX11_leftByPath_81 (by decide) ?_
    exact sw_iret dX11_leftByPath_82
  · refine sw_iload_n 0 dX11_leftByPath_101 rfl rfl ?_
    exact sw_iret dX11_leftByPath_102
set_option maxRecDepth 100000 in
theorem w_X11_isHungry_L25 {ι : qI} {b : Nat}  (h0 : is_X11 ι) (x1 : Int32) {K79 : Int32 → qS → qR} (hK79 : ∀ (e2 : Int32) (u : qS), SW RX11 cX11_isHungry 4 (some .boolean) 8 ι b 79 [(0, .ref (b + 163)), (1, .int x1), (2, .int e2)] [] u (K79 e2 u)) (fu : Nat) (x2 : Int32) (x3 : Int32) (u : qS) : SW RX11 cX11_isHungry 4 (some .boolean) 8 ι b 25 [(0, .ref (b + 163)), (1, .int x1), (2, .int x2), (3, .int x3)] [] u (q_it2 (m_X11_isHungry_L25 x1 K79) fu x2 x3 u) := by
  refine SW.it2 (fun x2 x3 => [(0, .ref (b + 163)), (1, .int x1), (2, .int x2), (3, .int x3)]) (fun self ih x2 x3 u => ?_) fu x2 x3 u
  unfold m_X11_isHungry_L25
  refine sw_iload_n 2 dX11_isHungry_25 rfl rfl ?_
  refine sw_if_le 79 dX11_isHungry_26 (by decide) ?_ ?_
  · exact SW.sub [0, 1, 2] rfl (hK79 x2 u)
  · refine sw_iload_n 3 dX11_isHungry_29 rfl rfl ?_
    refine sw_iconst (-1 : Int32) dX11_isHungry_30 (by decide) ?_
    refine sw_icmp_eq 79 dX11_isHungry_31 (by decide) ?_ ?_
    · exact SW.sub [0, 1, 2] rfl (hK79 x2 u)
    · refine sw_aload_n 0 dX11_isHungry_34 rfl rfl ?_
      refine sw_iload_n 3 dX11_isHungry_35 rfl rfl ?_
      refine sw_aload_n 0 dX11_isHungry_36 rfl rfl ?_
      refine sw_iload_n 1 dX11_isHungry_37 rfl rfl ?_
      refine sw_iload_n 3 dX11_isHungry_38 rfl rfl ?_
      refine sw_iconst (-1 : Int32) dX11_isHungry_39 (by decide) ?_
      refine sw_callVi (As := [.int x1, .int x3, .int (-1 : Int32)]) (k := 163) rfl dX11_isHungry_40 t_1522 mf_X11_countOf h0.1 q_cl11 (by decide) (Nat.le_of_ble_eq_true rfl) (fun l => c_X11_countOf l x1 x3 (-1 : Int32) u h0) (fun r u_5 => ?_)
      refine sw_callVv (As := [.int x3, .int r]) (k := 163) rfl dX11_isHungry_43 t_1526 mf_X11_counts h0.1 q_cl11 (by decide) (Nat.le_of_ble_eq_true rfl) (fun l => c_X11_counts l x3 r u_5 h0) (fun _ u_6 => ?_)
      refine sw_aload_n 0 dX11_isHungry_46 rfl rfl ?_
      refine sw_getr q_cl11 1 (r := 164) dX11_isHungry_47 t_1046 (by decide) h0.1 rfl ?_
      refine sw_bipush (15 : Int32) dX11_isHungry_50 (by decide) ?_
      refine sw_iload_n 3 dX11_isHungry_52 rfl rfl ?_
      refine sw_iadd dX11_isHungry_53 ?_
      refine sw_aload_n 0 dX11_isHungry_54 rfl rfl ?_
      refine sw_getr q_cl11 1 (r := 164) dX11_isHungry_55 t_1046 (by decide) h0.1 rfl ?_
      refine sw_bipush (15 : Int32) dX11_isHungry_58 (by decide) ?_
      refine sw_iload_n 3 dX11_isHungry_60 rfl rfl ?_
      refine sw_iadd dX11_isHungry_61 ?_
      refine sw_iald dX11_isHungry_62 h0.2.1 (fun a => ?_)
      refine sw_iconst (1 : Int32) dX11_isHungry_63 (by decide) ?_
      refine sw_isub dX11_isHungry_64 ?_
      refine sw_iast dX11_isHungry_65 h0.2.1 (fun u_7 => ?_)
      refine sw_iload_n 2 dX11_isHungry_66 rfl rfl ?_
      refine sw_iconst (1 : Int32) dX11_isHungry_67 (by decide) ?_
      refine sw_isub dX11_isHungry_68 ?_
      refine SW.name (fun y2 => ?_)
      refine sw_istore_n (lv' := [(2, .int y2), (0, .ref (b + 163)), (1, .int x1), (3, .int x3)]) dX11_isHungry_69 rfl (by decide) rfl ?_
      refine sw_aload_n 1 dX11_isHungry_70 rfl rfl ?_
      refine sw_iload_n 2 dX11_isHungry_71 rfl rfl ?_
      refine sw_callVi (As := [.int x1]) (k := 163) rfl dX11_isHungry_72 t_1536 mf_X11_jamFor h0.1 q_cl11 (by decide) (Nat.le_of_ble_eq_true rfl) (fun l => c_X11_jamFor l x1 u_7 h0) (fun r_8 u_9 => ?_)
      refine sw_istore_n (lv' := [(3, .int r_8), (2, .int y2), (0, .ref (b + 163)), (1, .int x1)]) dX11_isHungry_75 rfl (by decide) rfl ?_
      refine sw_goto 25 dX11_isHungry_76 (by decide) ?_
      exact SW.sub [2, 3, 1, 0] rfl (ih y2 r_8 u_9)
set_option maxRecDepth 100000 in
theorem c_X11_isHungry (l : Launch) {ι : qI} {b : Nat}  (x1 : Int32) (u : qS) (h0 : is_X11 ι) : CN l yX11_isHungry cX11_isHungry 4 (some .boolean) 8 ι b [.ref (b + 163), .int x1] u (m_X11_isHungry x1 u) := by
  refine CN.of_SW (own := RX11) rfl (by decide) (Nat.le_of_ble_eq_true rfl) [(0, .ref (b + 163)), (1, .int x1)] rfl ?_
  unfold m_X11_isHungry
  refine sw_aload_n 0 dX11_isHungry_0 rfl rfl ?_
  refine sw_iload_n 1 dX11_isHungry_1 rfl rfl ?_
  refine sw_aload_n 0 dX11_isHungry_2 rfl rfl ?_
  refine sw_iload_n 1 dX11_isHungry_3 rfl rfl ?_
  refine sw_callVi (As := [.int x1]) (k := 163) rfl dX11_isHungry_4 t_1502 mf_X11_wantOf h0.1 q_cl11 (by decide) (Nat.le_of_ble_eq_true rfl) (fun l => c_X11_wantOf l x1 u h0) (fun r u_1 => ?_)
  refine sw_callVi (As := [.int x1, .int r]) (k := 163) rfl dX11_isHungry_7 t_1506 mf_X11_leftByPath h0.1 q_cl11 (by decide) (Nat.le_of_ble_eq_true rfl) (fun l => c_X11_leftByPath l x1 r u_1 h0) (fun r_2 u_3 => ?_)
  refine sw_istore_n (lv' := [(2, .int r_2), (0, .ref (b + 163)), (1, .int x1)]) dX11_isHungry_10 rfl (by decide) rfl ?_
  refine sw_iload_n 0 dX11_isHungry_11 rfl rfl ?_
  refine SW.jn1 24 (fun s0 => [(0, .ref (b + 163)), (1, .int x1), (2, .int r_2)]) (fun s0 => [.int s0]) (fun s0 u_4 => ?_) (fun J24 hJ24 => ?_)
  · refine sw_istore_n (lv' := [(3, .int s0), (0, .ref (b + 163)), (1, .int x1), (2, .int r_2)]) dX11_isHungry_24 rfl (by decide) rfl ?_
    refine SW.sub (lv' := [(0, .ref (b + 163)), (1, .int x1), (2, .int r_2), (3, .int s0)]) [1, 2, 3, 0] rfl ?_
    refine w_X11_isHungry_L25 h0 x1 (fun x2 u_10 => ?_) q_F r_2 s0 u_4
    refine sw_iload_n 2 dX11_isHungry_79 rfl rfl ?_
    refine sw_if_gt 85 dX11_isHungry_80 (by decide) ?_ ?_
    · refine sw_aload_n 0 dX11_isHungry_85 rfl rfl ?_
      refine sw_iconst (5 : Int32) dX11_isHungry_86 (by decide) ?_
      refine sw_iload_n 1 dX11_isHungry_87 rfl rfl ?_
      refine sw_iload_n 2 dX11_isHungry_88 rfl rfl ?_
      refine sw_callVv (As := [.int (5 : Int32), .int x1, .int x2]) (k := 163) rfl dX11_isHungry_89 t_1426 mf_X11_notes h0.1 q_cl11 (by decide) (Nat.le_of_ble_eq_true rfl) (fun l => c_X11_notes l (5 : Int32) x1 x2 u_10 h0) (fun _ u_11 => ?_)
      refine sw_iconst (1 : Int32) dX11_isHungry_92 (by decide) ?_
      exact sw_zret1 dX11_isHungry_93
    · refine sw_iconst (0 : Int32) dX11_isHungry_83 (by decide) ?_
      exact sw_zret0 dX11_isHungry_84
  · refine sw_if_le 23 dX11_isHungry_12 (by decide) ?_ ?_
    · refine sw_iconst (-1 : Int32) dX11_isHungry_23 (by decide) ?_
      exact SW.sub [1, 2, 0] rfl (hJ24 (-1 : Int32) u_3)
    · refine sw_aload_n 1 dX11_isHungry_15 rfl rfl ?_
      refine sw_iload_n 2 dX11_isHungry_16 rfl rfl ?_
      refine sw_callVi (As := [.int x1]) (k := 163) rfl dX11_isHungry_17 t_1536 mf_X11_jamFor h0.1 q_cl11 (by decide) (Nat.le_of_ble_eq_true rfl) (fun l => c_X11_jamFor l x1 u_3 h0) (fun r_12 u_13 => ?_)
      refine sw_goto 24 dX11_isHungry_20 (by decide) ?_
      exact SW.sub [1, 2, 0] rfl (hJ24 r_12 u_13)
set_option maxRecDepth 100000 in
theorem w_X11_votesInAll_L4 {ι : qI} {b : Nat}  (h0 : is_X11 ι)  {K29 : Int32 → qS → qR} (hK29 : ∀ (e1 : Int32) (u : qS), SW RX11 cX11_votesInAll 3 (some .int) 1 ι b 29 [(1, .int e1)] [] u (K29 e1 u)) (fu : Nat) (x1 : Int32) (x2 : Int32) (u : qS) : SW RX11 cX11_votesInAll 3 (some .int) 1 ι b 4 [(0, .ref (b + 163)), (1, .int x1), (2, .int x2)] [] u (q_it2 (m_X11_votesInAll_L4 K29) fu x1 x2 u) := by
  refine SW.it2 (fun x1 x2 => [(0, .ref (b + 163)), (1, .int x1), (2, .int x2)]) (fun self ih x1 x2 u => ?_) fu x1 x2 u
  unfold m_X11_votesInAll_L4
  refine sw_iload_n 2 dX11_votesInAll_4 rfl rfl ?_
  refine sw_aload_n 0 dX11_votesInAll_5 rfl rfl ?_
  refine sw_geti q_cl11 6 dX11_votesInAll_6 t_1051 (by decide) h0.1 rfl ?_
  refine sw_icmp_ge 29 dX11_votesInAll_9 (by decide) ?_ ?_
  · exact SW.sub [1] rfl (hK29 x1 u)
  · refine sw_iload_n 1 dX11_votesInAll_12 rfl rfl ?_
    refine sw_aload_n 0 dX11_votesInAll_13 rfl rfl ?_
    refine sw_getr q_cl11 1 (r := 164) dX11_votesInAll_14 t_1046 (by decide) h0.1 rfl ?_
    refine sw_iconst (5 : Int32) dX11_votesInAll_17 (by decide) ?_
    refine sw_iload_n 2 dX11_votesInAll_18 rfl rfl ?_
    refine sw_iadd dX11_votesInAll_19 ?_
    refine sw_iald dX11_votesInAll_20 h0.2.1 (fun a => ?_)
    refine sw_iadd dX11_votesInAll_21 ?_
    refine SW.name (fun y1 => ?_)
    refine sw_istore_n (lv' := [(1, .int y1), (0, .ref (b + 163)), (2, .int x2)]) dX11_votesInAll_22 rfl (by decide) rfl ?_
    refine sw_iinc (lv' := [(2, .int (x2 + (1 : Int32))), (1, .int y1), (0, .ref (b + 163))]) 2 dX11_votesInAll_23 rfl (congrArg (x2 + ·) (by decide)) (by decide) rfl ?_
    refine sw_goto 4 dX11_votesInAll_26 (by decide) ?_
    exact SW.sub [2, 1, 0] rfl (ih y1 (x2 + (1 : Int32)) u)
set_option maxRecDepth 100000 in
theorem c_X11_votesInAll (l : Launch) {ι : qI} {b : Nat}   (u : qS) (h0 : is_X11 ι) : CN l yX11_votesInAll cX11_votesInAll 3 (some .int) 1 ι b [.ref (b + 163)] u (m_X11_votesInAll  u) := by
  refine CN.of_SW (own := RX11) rfl (by decide) (Nat.le_of_ble_eq_true rfl) [(0, .ref (b + 163))] rfl ?_
  unfold m_X11_votesInAll
  refine sw_iconst (0 : Int32) dX11_votesInAll_0 (by decide) ?_
  refine sw_istore_n (lv' := [(1, .int (0 : Int32)), (0, .ref (b + 163))]) dX11_votesInAll_1 rfl (by decide) rfl ?_
  refine sw_iconst (0 : Int32) dX11_votesInAll_2 (by decide) ?_
  refine sw_istore_n (lv' := [(2, .int (0 : Int32)), (1, .int (0 : Int32)), (0, .ref (b + 163))]) dX11_votesInAll_3 rfl (by decide) rfl ?_
  refine SW.sub (lv' := [(0, .ref (b + 163)), (1, .int (0 : Int32)), (2, .int (0 : Int32))]) [2, 1, 0] rfl ?_
  refine w_X11_votesInAll_L4 h0 (fun x1 u_1 => ?_) q_F (0 : Int32) (0 : Int32) u
  refine sw_iload_n 0 dX11_votesInAll_29 rfl rfl ?_
  exact sw_iret dX11_votesInAll_30
set_option maxRecDepth 100000 in
theorem c_X11_isAhead (l : Launch) {ι : qI} {b : Nat}  (x1 : Int32) (x2 : Int32) (u : qS) (h0 : is_X11 ι) : CN l yX11_isAhead cX11_isAhead 3 (some .boolean) 1 ι b [.ref (b + 163), .int x1, .int x2] u (m_X11_isAhead x1 x2 u) := by
  refine CN.of_SW (own := RX11) rfl (by decide) (Nat.le_of_ble_eq_true rfl) [(0, .ref (b + 163)), (1, .int x1), (2, .int x2)] rfl ?_
  unfold m_X11_isAhead
  refine sw_aload_n 0 dX11_isAhead_0 rfl rfl ?_
  refine sw_getr q_cl11 47 (r := 183) dX11_isAhead_1 t_1092 (by decide) h0.1 rfl ?_
  refine sw_iload_n 1 dX11_isAhead_4 rfl rfl ?_
  refine sw_iald dX11_isAhead_5 h0.2.2.2.2.2.2.2.2.2.2.2.2.2.2.2.2.2.2.2.2.1 (fun a => ?_)
  refine sw_aload_n 0 dX11_isAhead_6 rfl rfl ?_
  refine sw_getr q_cl11 47 (r := 183) dX11_isAhead_7 t_1092 (by decide) h0.1 rfl ?_
  refine sw_iload_n 2 dX11_isAhead_10 rfl rfl ?_
  refine sw_iald dX11_isAhead_11 h0.2.2.2.2.2.2.2.2.2.2.2.2.2.2.2.2.2.2.2.2.1 (fun a_1 => ?_)
  refine SW.jn0 45 ([]) ([]) (fun  u_2 => ?_) (fun J45 hJ45 => ?_)
  · refine sw_iconst (1 : Int32) dX11_isAhead_45 (by decide) ?_
    refine sw_goto 50 dX11_isAhead_46 (by decide) ?_
    exact sw_zret1 dX11_isAhead_50
  · refine sw_icmp_gt 45 dX11_isAhead_12 (by decide) ?_ ?_
    · exact SW.sub [] rfl (hJ45  u)
    · refine sw_aload_n 0 dX11_isAhead_15 rfl rfl ?_
      refine sw_getr q_cl11 47 (r := 183) dX11_isAhead_16 t_1092 (by decide) h0.1 rfl ?_
      refine sw_iload_n 1 dX11_isAhead_19 rfl rfl ?_
      refine sw_iald dX11_isAhead_20 h0.2.2.2.2.2.2.2.2.2.2.2.2.2.2.2.2.2.2.2.2.1 (fun a_3 => ?_)
      refine sw_aload_n 0 dX11_isAhead_21 rfl rfl ?_
      refine sw_getr q_cl11 47 (r := 183) dX11_isAhead_22 t_1092 (by decide) h0.1 rfl ?_
      refine sw_iload_n 2 dX11_isAhead_25 rfl rfl ?_
      refine sw_iald dX11_isAhead_26 h0.2.2.2.2.2.2.2.2.2.2.2.2.2.2.2.2.2.2.2.2.1 (fun a_4 => ?_)
      refine sw_icmp_ne 49 dX11_isAhead_27 (by decide) ?_ ?_
      · refine sw_aload_n 0 dX11_isAhead_30 rfl rfl ?_
        refine sw_getr q_cl11 46 (r := 182) dX11_isAhead_31 t_1091 (by decide) h0.1 rfl ?_
        refine sw_iload_n 1 dX11_isAhead_34 rfl rfl ?_
        refine sw_iald dX11_isAhead_35 h0.2.2.2.2.2.2.2.2.2.2.2.2.2.2.2.2.2.2.2.1 (fun a_5 => ?_)
        refine sw_aload_n 0 dX11_isAhead_36 rfl rfl ?_
        refine sw_getr q_cl11 46 (r := 182) dX11_isAhead_37 t_1091 (by decide) h0.1 rfl ?_
        refine sw_iload_n 2 dX11_isAhead_40 rfl rfl ?_
        refine sw_iald dX11_isAhead_41 h0.2.2.2.2.2.2.2.2.2.2.2.2.2.2.2.2.2.2.2.1 (fun a_6 => ?_)
        refine sw_icmp_le 49 dX11_isAhead_42 (by decide) ?_ ?_
        · refine sw_iconst (0 : Int32) dX11_isAhead_49 (by decide) ?_
          exact sw_zret0 dX11_isAhead_50
        · exact SW.sub [] rfl (hJ45  u)
      · refine sw_iconst (0 : Int32) dX11_isAhead_49 (by decide) ?_
        exact sw_zret0 dX11_isAhead_50
set_option maxRecDepth 100000 in
theorem w_X11_findsGiven_L12 {ι : qI} {b : Nat}  (h0 : is_X11 ι) (x1 : Int32) {K101 : Int32 → qS → qR} (hK101 : ∀ (e2 : Int32) (u : qS), SW RX11 cX11_findsGiven 7 none 2 ι b 101 [(0, .ref (b + 163)), (1, .int x1), (2, .int e2)] [] u (K101 e2 u)) (fu : Nat) (x2 : Int32) (x3 : Int32) (u : qS) : SW RX11 cX11_findsGiven 7 none 2 ι b 12 [(0, .ref (b + 163)), (1, .int x1), (2, .int x2), (3, .int x3)] [] u (q_it2 (m_X11_findsGiven_L12 x1 K101) fu x2 x3 u) := by
  refine SW.it2 (fun x2 x3 => [(0, .ref (b + 163)), (1, .int x1), (2, .int x2), (3, .int x3)]) (fun self ih x2 x3 u => ?_) fu x2 x3 u
  unfold m_X11_findsGiven_L12
  refine sw_iload_n 3 dX11_findsGiven_12 rfl rfl ?_
  refine sw_aload_n 0 dX11_findsGiven_13 rfl rfl ?_
  refine sw_geti q_cl11 6 dX11_findsGiven_14 t_1051 (by decide) h0.1 rfl ?_
  refine sw_icmp_ge 101 dX11_findsGiven_17 (by decide) ?_ ?_
  · exact SW.sub [0, 1, 2] rfl (hK101 x2 u)
  · refine sw_aload_n 0 dX11_findsGiven_20 rfl rfl ?_
    refine sw_getr q_cl11 46 (r := 182) dX11_findsGiven_21 t_1091 (by decide) h0.1 rfl ?_
    refine sw_iload_n 3 dX11_findsGiven_24 rfl rfl ?_
    refine sw_iload_n 1 dX11_findsGiven_25 rfl rfl ?_
    refine SW.jn1 56 (fun s0 => [(0, .ref (b + 163)), (1, .int x1), (2, .int x2), (3, .int x3)]) (fun s0 => [.int s0, .int x3, .ref (b + 182)]) (fun s0 u_4 => ?_) (fun J56 hJ56 => ?_)
    · refine sw_iast dX11_findsGiven_56 h0.2.2.2.2.2.2.2.2.2.2.2.2.2.2.2.2.2.2.2.1 (fun u_5 => ?_)
      refine sw_aload_n 0 dX11_findsGiven_57 rfl rfl ?_
      refine sw_getr q_cl11 47 (r := 183) dX11_findsGiven_58 t_1092 (by decide) h0.1 rfl ?_
      refine sw_iload_n 3 dX11_findsGiven_61 rfl rfl ?_
      refine sw_iload_n 1 dX11_findsGiven_62 rfl rfl ?_
      refine SW.jn1 85 (fun s0_6 => [(0, .ref (b + 163)), (1, .int x1), (2, .int x2), (3, .int x3)]) (fun s0_6 => [.int s0_6, .int x3, .ref (b + 183)]) (fun s0_6 u_7 => ?_) (fun J85 hJ85 => ?_)
      · refine sw_iast dX11_findsGiven_85 h0.2.2.2.2.2.2.2.2.2.2.2.2.2.2.2.2.2.2.2.2.1 (fun u_8 => ?_)
        refine sw_iload_n 2 dX11_findsGiven_86 rfl rfl ?_
        refine sw_aload_n 0 dX11_findsGiven_87 rfl rfl ?_
        refine sw_getr q_cl11 46 (r := 182) dX11_findsGiven_88 t_1091 (by decide) h0.1 rfl ?_
        refine sw_iload_n 3 dX11_findsGiven_91 rfl rfl ?_
        refine sw_iald dX11_findsGiven_92 h0.2.2.2.2.2.2.2.2.2.2.2.2.2.2.2.2.2.2.2.1 (fun a => ?_)
        refine sw_isub dX11_findsGiven_93 ?_
        refine SW.name (fun y2 => ?_)
        refine sw_istore_n (lv' := [(2, .int y2), (0, .ref (b + 163)), (1, .int x1), (3, .int x3)]) dX11_findsGiven_94 rfl (by decide) rfl ?_
        refine sw_iinc (lv' := [(3, .int (x3 + (1 : Int32))), (2, .int y2), (0, .ref (b + 163)), (1, .int x1)]) 3 dX11_findsGiven_95 rfl (congrArg (x3 + ·) (by decide)) (by decide) rfl ?_
        refine sw_goto 12 dX11_findsGiven_98 (by decide) ?_
        exact SW.sub [2, 3, 1, 0] rfl (ih y2 (x3 + (1 : Int32)) u_8)
      · refine sw_if_ne 70 dX11_findsGiven_63 (by decide) ?_ ?_
        · refine sw_iconst (0 : Int32) dX11_findsGiven_66 (by decide) ?_
          refine sw_goto 85 dX11_findsGiven_67 (by decide) ?_
          exact SW.sub [0, 1, 2, 3] rfl (hJ85 (0 : Int32) u_5)
        · refine sw_aload_n 0 dX11_findsGiven_70 rfl rfl ?_
          refine sw_getr q_cl11 1 (r := 164) dX11_findsGiven_71 t_1046 (by decide) h0.1 rfl ?_
          refine sw_iconst (5 : Int32) dX11_findsGiven_74 (by decide) ?_
          refine sw_iload_n 3 dX11_findsGiven_75 rfl rfl ?_
          refine sw_iadd dX11_findsGiven_76 ?_
          refine sw_iald dX11_findsGiven_77 h0.2.1 (fun a_9 => ?_)
          refine sw_aload_n 0 dX11_findsGiven_78 rfl rfl ?_
          refine sw_callVi (As := []) (k := 163) rfl dX11_findsGiven_79 t_1560 mf_X11_chairs h0.1 q_cl11 (by decide) (Nat.le_of_ble_eq_true rfl) (fun l => c_X11_chairs l  u_5 h0) (fun r u_10 => ?_)
          refine sw_imul dX11_findsGiven_82 ?_
          refine sw_iload_n 1 dX11_findsGiven_83 rfl rfl ?_
          refine sw_irem dX11_findsGiven_84 (fun a_11 => ?_)
          exact SW.sub [0, 1, 2, 3] rfl (hJ85 a_11 u_10)
    · refine sw_if_ne 41 dX11_findsGiven_26 (by decide) ?_ ?_
      · refine sw_aload_n 0 dX11_findsGiven_29 rfl rfl ?_
        refine sw_getr q_cl11 1 (r := 164) dX11_findsGiven_30 t_1046 (by decide) h0.1 rfl ?_
        refine sw_bipush (10 : Int32) dX11_findsGiven_33 (by decide) ?_
        refine sw_iload_n 3 dX11_findsGiven_35 rfl rfl ?_
        refine sw_iadd dX11_findsGiven_36 ?_
        refine sw_iald dX11_findsGiven_37 h0.2.1 (fun a_16 => ?_)
        refine sw_goto 56 dX11_findsGiven_38 (by decide) ?_
        exact SW.sub [0, 1, 2, 3] rfl (hJ56 a_16 u)
      · refine sw_aload_n 0 dX11_findsGiven_41 rfl rfl ?_
        refine sw_getr q_cl11 1 (r := 164) dX11_findsGiven_42 t_1046 (by decide) h0.1 rfl ?_
        refine sw_iconst (5 : Int32) dX11_findsGiven_45 (by decide) ?_
        refine sw_iload_n 3 dX11_findsGiven_46 rfl rfl ?_
        refine sw_iadd dX11_findsGiven_47 ?_
        refine sw_iald dX11_findsGiven_48 h0.2.1 (fun a_12 => ?_)
        refine sw_aload_n 0 dX11_findsGiven_49 rfl rfl ?_
        refine sw_callVi (As := []) (k := 163) rfl dX11_findsGiven_50 t_1560 mf_X11_chairs h0.1 q_cl11 (by decide) (Nat.le_of_ble_eq_true rfl) (fun l => c_X11_chairs l  u h0) (fun r_13 u_14 => ?_)
        refine sw_imul dX11_findsGiven_53 ?_
        refine sw_iload_n 1 dX11_findsGiven_54 rfl rfl ?_
        refine sw_idiv dX11_findsGiven_55 (fun a_15 => ?_)
        exact SW.sub [0, 1, 2, 3] rfl (hJ56 a_15 u_14)
set_option maxRecDepth 100000 in
theorem w_X11_findsGiven_L122 {ι : qI} {b : Nat}  (h0 : is_X11 ι) (x1 : Int32) (x2 : Int32) (x3 : Int32) (x4 : Int32) {K168 : Int32 → qS → qR} (hK168 : ∀ (e5 : Int32) (u : qS), SW RX11 cX11_findsGiven 7 none 2 ι b 168 [(0, .ref (b + 163)), (1, .int x1), (2, .int x2), (3, .int x3), (4, .int x4), (5, .int e5)] [] u (K168 e5 u)) (fu : Nat) (x5 : Int32) (x6 : Int32) (u : qS) : SW RX11 cX11_findsGiven 7 none 2 ι b 122 [(0, .ref (b + 163)), (1, .int x1), (2, .int x2), (3, .int x3), (4, .int x4), (5, .int x5), (6, .int x6)] [] u (q_it2 (m_X11_findsGiven_L122 x1 x2 x3 x4 K168) fu x5 x6 u) := by
  refine SW.it2 (fun x5 x6 => [(0, .ref (b + 163)), (1, .int x1), (2, .int x2), (3, .int x3), (4, .int x4), (5, .int x5), (6, .int x6)]) (fun self ih x5 x6 u => ?_) fu x5 x6 u
  unfold m_X11_findsGiven_L122
  refine sw_iload 6 dX11_findsGiven_122 rfl ?_
  refine sw_aload_n 0 dX11_findsGiven_124 rfl rfl ?_
  refine sw_geti q_cl11 6 dX11_findsGiven_125 t_1051 (by decide) h0.1 rfl ?_
  refine sw_icmp_ge 168 dX11_findsGiven_128 (by decide) ?_ ?_
  · exact SW.sub [0, 1, 2, 3, 4, 5] rfl (hK168 x5 u)
  · refine sw_aload_n 0 dX11_findsGiven_131 rfl rfl ?_
    refine sw_iload_n 3 dX11_findsGiven_132 rfl rfl ?_
    refine sw_iload 6 dX11_findsGiven_133 rfl ?_
    refine sw_callVi (As := [.int x3, .int x6]) (k := 163) rfl dX11_findsGiven_135 t_1438 mf_X11_has h0.1 q_cl11 (by decide) (Nat.le_of_ble_eq_true rfl) (fun l => c_X11_has l x3 x6 u h0) (fun r u_18 => ?_)
    refine SW.jn1 162 (fun x5_19 => [(0, .ref (b + 163)), (1, .int x1), (2, .int x2), (3, .int x3), (4, .int x4), (5, .int x5_19), (6, .int x6)]) (fun x5_19 => []) (fun x5_19 u_20 => ?_) (fun J162 hJ162 => ?_)
    · refine sw_iinc (lv' := [(6, .int (x6 + (1 : Int32))), (0, .ref (b + 163)), (1, .int x1), (2, .int x2), (3, .int x3), (4, .int x4), (5, .int x5_19)]) 6 dX11_findsGiven_162 rfl (congrArg (x6 + ·) (by decide)) (by decide) rfl ?_
      refine sw_goto 122 dX11_findsGiven_165 (by decide) ?_
      exact SW.sub [1, 2, 3, 4, 5, 6, 0] rfl (ih x5_19 (x6 + (1 : Int32)) u_20)
    · refine sw_if_ne 162 dX11_findsGiven_138 (by decide) ?_ ?_
      · refine sw_iload 5 dX11_findsGiven_141 rfl ?_
        refine sw_iconst (-1 : Int32) dX11_findsGiven_143 (by decide) ?_
        refine SW.jn0 158 ([(0, .ref (b + 163)), (1, .int x1), (2, .int x2), (3, .int x3), (4, .int x4), (6, .int x6)]) ([]) (fun  u_21 => ?_) (fun J158 hJ158 => ?_)
        · refine sw_iload 5 dX11_findsGiven_158 rfl ?_
          refine sw_istore (lv' := [(5, .int x6), (0, .ref (b + 163)), (1, .int x1), (2, .int x2), (3, .int x3), (4, .int x4), (6, .int x6)]) dX11_findsGiven_160 (by decide) rfl ?_
          exact SW.sub [1, 2, 3, 4, 5, 0, 6] rfl (hJ162 x6 u_21)
        · refine sw_icmp_eq 158 dX11_findsGiven_144 (by decide) ?_ ?_
          · exact SW.sub [0, 1, 2, 3, 4, 6] rfl (hJ158  u_18)
          · refine sw_aload_n 0 dX11_findsGiven_147 rfl rfl ?_
            refine sw_iload 6 dX11_findsGiven_148 rfl ?_
            refine sw_iload 5 dX11_findsGiven_150 rfl ?_
            refine sw_callVi (As := [.int x6, .int x5]) (k := 163) rfl dX11_findsGiven_152 t_1564 mf_X11_isAhead h0.1 q_cl11 (by decide) (Nat.le_of_ble_eq_true rfl) (fun l => c_X11_isAhead l x6 x5 u_18 h0) (fun r_22 u_23 => ?_)
            refine sw_if_eq 162 dX11_findsGiven_155 (by decide) ?_ ?_
            · exact SW.sub [0, 1, 2, 3, 4, 5, 6] rfl (hJ162 x5 u_23)
            · exact SW.sub [0, 1, 2, 3, 4, 6] rfl (hJ158  u_23)
      · exact SW.sub [0, 1, 2, 3, 4, 5, 6] rfl (hJ162 x5 u_18)
set_option maxRecDepth 100000 in
theorem w_X11_findsGiven_L106 {ι : qI} {b : Nat}  (h0 : is_X11 ι) (x1 : Int32) (x2 : Int32) {K187 : Int32 → qS → qR} (hK187 : ∀ (e3 : Int32) (u : qS), SW RX11 cX11_findsGiven 7 none 2 ι b 187 [(0, .ref (b + 163)), (3, .int e3)] [] u (K187 e3 u)) (fu : Nat) (x3 : Int32) (x4 : Int32) (u : qS) : SW RX11 cX11_findsGiven 7 none 2 ι b 106 [(0, .ref (b + 163)), (1, .int x1), (2, .int x2), (3, .int x3), (4, .int x4)] [] u (q_it2 (m_X11_findsGiven_L106 x1 x2 K187) fu x3 x4 u) := by
  refine SW.it2 (fun x3 x4 => [(0, .ref (b + 163)), (1, .int x1), (2, .int x2), (3, .int x3), (4, .int x4)]) (fun self ih x3 x4 u => ?_) fu x3 x4 u
  unfold m_X11_findsGiven_L106
  refine sw_iload 4 dX11_findsGiven_106 rfl ?_
  refine sw_iload_n 2 dX11_findsGiven_108 rfl rfl ?_
  refine sw_icmp_ge 187 dX11_findsGiven_109 (by decide) ?_ ?_
  · exact SW.sub [0, 3] rfl (hK187 x3 u)
  · refine sw_iload_n 1 dX11_findsGiven_112 rfl rfl ?_
    refine sw_if_le 187 dX11_findsGiven_113 (by decide) ?_ ?_
    · exact SW.sub [0, 3] rfl (hK187 x3 u)
    · refine sw_iconst (-1 : Int32) dX11_findsGiven_116 (by decide) ?_
      refine sw_istore (lv' := [(5, .int (-1 : Int32)), (0, .ref (b + 163)), (1, .int x1), (2, .int x2), (3, .int x3), (4, .int x4)]) dX11_findsGiven_117 (by decide) rfl ?_
      refine sw_iconst (0 : Int32) dX11_findsGiven_119 (by decide) ?_
      refine sw_istore (lv' := [(6, .int (0 : Int32)), (5, .int (-1 : Int32)), (0, .ref (b + 163)), (1, .int x1), (2, .int x2), (3, .int x3), (4, .int x4)]) dX11_findsGiven_120 (by decide) rfl ?_
      refine SW.sub (lv' := [(0, .ref (b + 163)), (1, .int x1), (2, .int x2), (3, .int x3), (4, .int x4), (5, .int (-1 : Int32)), (6, .int (0 : Int32))]) [2, 3, 4, 5, 6, 1, 0] rfl ?_
      refine w_X11_findsGiven_L122 h0 x1 x2 x3 x4 (fun x5 u_24 => ?_) q_F (-1 : Int32) (0 : Int32) u
      refine sw_iload 5 dX11_findsGiven_168 rfl ?_
      refine sw_iconst (-1 : Int32) dX11_findsGiven_170 (by decide) ?_
      refine SW.jn1 181 (fun x3_25 => [(0, .ref (b + 163)), (1, .int x1), (2, .int x2), (3, .int x3_25), (4, .int x4)]) (fun x3_25 => []) (fun x3_25 u_26 => ?_) (fun J181 hJ181 => ?_)
      · refine sw_iinc (lv' := [(4, .int (x4 + (1 : Int32))), (0, .ref (b + 163)), (1, .int x1), (2, .int x2), (3, .int x3_25)]) 4 dX11_findsGiven_181 rfl (congrArg (x4 + ·) (by decide)) (by decide) rfl ?_
        refine sw_goto 106 dX11_findsGiven_184 (by decide) ?_
        exact SW.sub [1, 2, 3, 4, 0] rfl (ih x3_25 (x4 + (1 : Int32)) u_26)
      · refine sw_icmp_eq 181 dX11_findsGiven_171 (by decide) ?_ ?_
        · exact SW.sub [0, 1, 2, 3, 4] rfl (hJ181 x3 u_24)
        · refine sw_iload_n 3 dX11_findsGiven_174 rfl rfl ?_
          refine sw_iconst (1 : Int32) dX11_findsGiven_175 (by decide) ?_
          refine sw_iload 5 dX11_findsGiven_176 rfl ?_
          refine sw_ishl dX11_findsGiven_178 ?_
          refine sw_ior dX11_findsGiven_179 ?_
          refine SW.name (fun y3 => ?_)
          refine sw_istore_n (lv' := [(3, .int y3), (0, .ref (b + 163)), (1, .int x1), (2, .int x2), (4, .int x4), (5, .int x5)]) dX11_findsGiven_180 rfl (by decide) rfl ?_
          exact SW.sub [1, 2, 3, 0, 4] rfl (hJ181 y3 u_24)
set_option maxRecDepth 100000 in
theorem w_X11_findsGiven_L190 {ι : qI} {b : Nat}  (h0 : is_X11 ι) (x3 : Int32) {K231 : qS → qR} (hK231 : ∀  (u : qS), SW RX11 cX11_findsGiven 7 none 2 ι b 231 [] [] u (K231  u)) (fu : Nat) (x4 : Int32) (u : qS) : SW RX11 cX11_findsGiven 7 none 2 ι b 190 [(0, .ref (b + 163)), (3, .int x3), (4, .int x4)] [] u (q_it1 (m_X11_findsGiven_L190 x3 K231) fu x4 u) := by
  refine SW.it1 (fun x4 => [(0, .ref (b + 163)), (3, .int x3), (4, .int x4)]) (fun self ih x4 u => ?_) fu x4 u
  unfold m_X11_findsGiven_L190
  refine sw_iload 2 dX11_findsGiven_190 rfl ?_
  refine sw_aload_n 0 dX11_findsGiven_192 rfl rfl ?_
  refine sw_geti q_cl11 6 dX11_findsGiven_193 t_1051 (by decide) h0.1 rfl ?_
  refine sw_icmp_ge 231 dX11_findsGiven_196 (by decide) ?_ ?_
  · exact SW.sub [] rfl (hK231  u)
  · refine sw_aload_n 0 dX11_findsGiven_199 rfl rfl ?_
    refine sw_iload_n 1 dX11_findsGiven_200 rfl rfl ?_
    refine sw_iload 2 dX11_findsGiven_201 rfl ?_
    refine sw_callVi (As := [.int x3, .int x4]) (k := 163) rfl dX11_findsGiven_203 t_1438 mf_X11_has h0.1 q_cl11 (by decide) (Nat.le_of_ble_eq_true rfl) (fun l => c_X11_has l x3 x4 u h0) (fun r u_28 => ?_)
    refine SW.jn0 225 ([(0, .ref (b + 163)), (3, .int x3), (4, .int x4)]) ([]) (fun  u_29 => ?_) (fun J225 hJ225 => ?_)
    · refine sw_iinc (lv' := [(4, .int (x4 + (1 : Int32))), (0, .ref (b + 163)), (3, .int x3)]) 2 dX11_findsGiven_225 rfl (congrArg (x4 + ·) (by decide)) (by decide) rfl ?_
      refine sw_goto 190 dX11_findsGiven_228 (by decide) ?_
      exact SW.sub [1, 2, 0] rfl (ih (x4 + (1 : Int32)) u_29)
    · refine sw_if_eq 225 dX11_findsGiven_206 (by decide) ?_ ?_
      · exact SW.sub [0, 1, 2] rfl (hJ225  u_28)
      · refine sw_aload_n 0 dX11_findsGiven_209 rfl rfl ?_
        refine sw_getr q_cl11 46 (r := 182) dX11_findsGiven_210 t_1091 (by decide) h0.1 rfl ?_
        refine sw_iload 2 dX11_findsGiven_213 rfl ?_
        refine sw_aload_n 0 dX11_findsGiven_215 rfl rfl ?_
        refine sw_getr q_cl11 46 (r := 182) dX11_findsGiven_216 t_1091 (by decide) h0.1 rfl ?_
        refine sw_iload 2 dX11_findsGiven_219 rfl ?_
        refine sw_iald dX11_findsGiven_221 h0.2.2.2.2.2.2.2.2.2.2.2.2.2.2.2.2.2.2.2.1 (fun a => ?_)
        refine sw_iconst (1 : Int32) dX11_findsGiven_222 (by decide) ?_
        refine sw_iadd dX11_findsGiven_223 ?_
        refine sw_iast dX11_findsGiven_224 h0.2.2.2.2.2.2.2.2.2.2.2.2.2.2.2.2.2.2.2.1 (fun u_30 => ?_)
        exact SW.sub [0, 1, 2] rfl (hJ225  u_30)
set_option maxRecDepth 100000 in
theorem c_X11_findsGiven (l : Launch) {ι : qI} {b : Nat}   (u : qS) (h0 : is_X11 ι) : CN l yX11_findsGiven cX11_findsGiven 7 none 2 ι b [.ref (b + 163)] u (m_X11_findsGiven  u) := by
  refine CN.of_SW (own := RX11) rfl (by decide) (Nat.le_of_ble_eq_true rfl) [(0, .ref (b + 163))] rfl ?_
  unfold m_X11_findsGiven
  refine sw_aload_n 0 dX11_findsGiven_0 rfl rfl ?_
  refine sw_callVi (As := []) (k := 163) rfl dX11_findsGiven_1 t_1556 mf_X11_votesInAll h0.1 q_cl11 (by decide) (Nat.le_of_ble_eq_true rfl) (fun l => c_X11_votesInAll l  u h0) (fun r u_1 => ?_)
  refine sw_istore_n (lv' := [(1, .int r), (0, .ref (b + 163))]) dX11_findsGiven_4 rfl (by decide) rfl ?_
  refine sw_aload_n 1 dX11_findsGiven_5 rfl rfl ?_
  refine sw_callVi (As := []) (k := 163) rfl dX11_findsGiven_6 t_1560 mf_X11_chairs h0.1 q_cl11 (by decide) (Nat.le_of_ble_eq_true rfl) (fun l => c_X11_chairs l  u_1 h0) (fun r_2 u_3 => ?_)
  refine sw_istore_n (lv' := [(2, .int r_2), (1, .int r), (0, .ref (b + 163))]) dX11_findsGiven_9 rfl (by decide) rfl ?_
  refine sw_iconst (0 : Int32) dX11_findsGiven_10 (by decide) ?_
  refine sw_istore_n (lv' := [(3, .int (0 : Int32)), (2, .int r_2), (1, .int r), (0, .ref (b + 163))]) dX11_findsGiven_11 rfl (by decide) rfl ?_
  refine SW.sub (lv' := [(0, .ref (b + 163)), (1, .int r), (2, .int r_2), (3, .int (0 : Int32))]) [3, 2, 1, 0] rfl ?_
  refine w_X11_findsGiven_L12 h0 r (fun x2 u_17 => ?_) q_F r_2 (0 : Int32) u_3
  refine sw_iconst (0 : Int32) dX11_findsGiven_101 (by decide) ?_
  refine sw_istore_n (lv' := [(3, .int (0 : Int32)), (0, .ref (b + 163)), (1, .int r), (2, .int x2)]) dX11_findsGiven_102 rfl (by decide) rfl ?_
  refine sw_iconst (0 : Int32) dX11_findsGiven_103 (by decide) ?_
  refine sw_istore (lv' := [(4, .int (0 : Int32)), (3, .int (0 : Int32)), (0, .ref (b + 163)), (1, .int r), (2, .int x2)]) dX11_findsGiven_104 (by decide) rfl ?_
  refine SW.sub (lv' := [(0, .ref (b + 163)), (1, .int r), (2, .int x2), (3, .int (0 : Int32)), (4, .int (0 : Int32))]) [2, 3, 4, 1, 0] rfl ?_
  refine w_X11_findsGiven_L106 h0 r x2 (fun x3 u_27 => ?_) q_F (0 : Int32) (0 : Int32) u_17
  refine sw_iconst (0 : Int32) dX11_findsGiven_187 (by decide) ?_
  refine sw_istore (lv' := [(4, .int (0 : Int32)), (0, .ref (b + 163)), (3, .int x3)]) dX11_findsGiven_188 (by decide) rfl ?_
  refine SW.sub (lv' := [(0, .ref (b + 163)), (3, .int x3), (4, .int (0 : Int32))]) [1, 2, 0] rfl ?_
  refine w_X11_findsGiven_L190 h0 x3 (fun u_31 => ?_) q_F (0 : Int32) u_27
  exact sw_vret dX11_findsGiven_231
set_option maxRecDepth 100000 in
theorem w_X11_strongest_L15 {ι : qI} {b : Nat}  (h0 : is_X11 ι)  {K52 : Int32 → qS → qR} (hK52 : ∀ (e1 : Int32) (u : qS), SW RX11 cX11_strongest 3 (some .int) 1 ι b 52 [(1, .int e1)] [] u (K52 e1 u)) (fu : Nat) (x1 : Int32) (x2 : Int32) (u : qS) : SW RX11 cX11_strongest 3 (some .int) 1 ι b 15 [(0, .ref (b + 163)), (1, .int x1), (2, .int x2)] [] u (q_it2 (m_X11_strongest_L15 K52) fu x1 x2 u) := by
  refine SW.it2 (fun x1 x2 => [(0, .ref (b + 163)), (1, .int x1), (2, .int x2)]) (fun self ih x1 x2 u => ?_) fu x1 x2 u
  unfold m_X11_strongest_L15
  refine sw_iload_n 2 dX11_strongest_15 rfl rfl ?_
  refine sw_aload_n 0 dX11_strongest_16 rfl rfl ?_
  refine sw_geti q_cl11 6 dX11_strongest_17 t_1051 (by decide) h0.1 rfl ?_
  refine sw_icmp_ge 52 dX11_strongest_20 (by decide) ?_ ?_
  · exact SW.sub [1] rfl (hK52 x1 u)
  · refine sw_aload_n 0 dX11_strongest_23 rfl rfl ?_
    refine sw_getr q_cl11 1 (r := 164) dX11_strongest_24 t_1046 (by decide) h0.1 rfl ?_
    refine sw_bipush (10 : Int32) dX11_strongest_27 (by decide) ?_
    refine sw_iload_n 2 dX11_strongest_29 rfl rfl ?_
    refine sw_iadd dX11_strongest_30 ?_
    refine sw_iald dX11_strongest_31 h0.2.1 (fun a => ?_)
    refine sw_aload_n 0 dX11_strongest_32 rfl rfl ?_
    refine sw_getr q_cl11 1 (r := 164) dX11_strongest_33 t_1046 (by decide) h0.1 rfl ?_
    refine sw_bipush (10 : Int32) dX11_strongest_36 (by decide) ?_
    refine sw_iload_n 1 dX11_strongest_38 rfl rfl ?_
    refine sw_iadd dX11_strongest_39 ?_
    refine sw_iald dX11_strongest_40 h0.2.1 (fun a_2 => ?_)
    refine SW.jn1 46 (fun x1_3 => [(0, .ref (b + 163)), (1, .int x1_3), (2, .int x2)]) (fun x1_3 => []) (fun x1_3 u_4 => ?_) (fun J46 hJ46 => ?_)
    · refine sw_iinc (lv' := [(2, .int (x2 + (1 : Int32))), (0, .ref (b + 163)), (1, .int x1_3)]) 2 dX11_strongest_46 rfl (congrArg (x2 + ·) (by decide)) (by decide) rfl ?_
      refine sw_goto 15 dX11_strongest_49 (by decide) ?_
      exact SW.sub [1, 2, 0] rfl (ih x1_3 (x2 + (1 : Int32)) u_4)
    · refine sw_icmp_le 46 dX11_strongest_41 (by decide) ?_ ?_
      · exact SW.sub [0, 1, 2] rfl (hJ46 x1 u)
      · refine sw_iload_n 2 dX11_strongest_44 rfl rfl ?_
        refine sw_istore_n (lv' := [(1, .int x2), (0, .ref (b + 163)), (2, .int x2)]) dX11_strongest_45 rfl (by decide) rfl ?_
        exact SW.sub [1, 0, 2] rfl (hJ46 x2 u)
set_option maxRecDepth 100000 in
theorem c_X11_strongest (l : Launch) {ι : qI} {b : Nat}   (u : qS) (h0 : is_X11 ι) : CN l yX11_strongest cX11_strongest 3 (some .int) 1 ι b [.ref (b + 163)] u (m_X11_strongest  u) := by
  refine CN.of_SW (own := RX11) rfl (by decide) (Nat.le_of_ble_eq_true rfl) [(0, .ref (b + 163))] rfl ?_
  unfold m_X11_strongest
  refine sw_aload_n 0 dX11_strongest_0 rfl rfl ?_
  refine sw_geti q_cl11 6 dX11_strongest_1 t_1051 (by decide) h0.1 rfl ?_
  refine SW.jn1 12 (fun s0 => [(0, .ref (b + 163))]) (fun s0 => [.int s0]) (fun s0 u_1 => ?_) (fun J12 hJ12 => ?_)
  · refine sw_istore_n (lv' := [(1, .int s0), (0, .ref (b + 163))]) dX11_strongest_12 rfl (by decide) rfl ?_
    refine sw_iconst (1 : Int32) dX11_strongest_13 (by decide) ?_
    refine sw_istore_n (lv' := [(2, .int (1 : Int32)), (1, .int s0), (0, .ref (b + 163))]) dX11_strongest_14 rfl (by decide) rfl ?_
    refine SW.sub (lv' := [(0, .ref (b + 163)), (1, .int s0), (2, .int (1 : Int32))]) [2, 1, 0] rfl ?_
    refine w_X11_strongest_L15 h0 (fun x1 u_5 => ?_) q_F s0 (1 : Int32) u_1
    refine sw_iload_n 0 dX11_strongest_52 rfl rfl ?_
    exact sw_iret dX11_strongest_53
  · refine sw_if_le 11 dX11_strongest_4 (by decide) ?_ ?_
    · refine sw_iconst (-1 : Int32) dX11_strongest_11 (by decide) ?_
      exact SW.sub [0] rfl (hJ12 (-1 : Int32) u)
    · refine sw_iconst (0 : Int32) dX11_strongest_7 (by decide) ?_
      refine sw_goto 12 dX11_strongest_8 (by decide) ?_
      exact SW.sub [0] rfl (hJ12 (0 : Int32) u)
set_option maxRecDepth 100000 in
theorem w_X11_elects_L6 {ι : qI} {b : Nat}  (h0 : is_X11 ι)  {K44 : qS → qR} (hK44 : ∀  (u : qS), SW RX11 cX11_elects 2 none 3 ι b 44 [(0, .ref (b + 163))] [] u (K44  u)) (fu : Nat) (x1 : Int32) (u : qS) : SW RX11 cX11_elects 2 none 3 ι b 6 [(0, .ref (b + 163)), (1, .int x1)] [] u (q_it1 (m_X11_elects_L6 K44) fu x1 u) := by
  refine SW.it1 (fun x1 => [(0, .ref (b + 163)), (1, .int x1)]) (fun self ih x1 u => ?_) fu x1 u
  unfold m_X11_elects_L6
  refine sw_iload_n 1 dX11_elects_6 rfl rfl ?_
  refine sw_aload_n 0 dX11_elects_7 rfl rfl ?_
  refine sw_geti q_cl11 6 dX11_elects_8 t_1051 (by decide) h0.1 rfl ?_
  refine sw_icmp_ge 44 dX11_elects_11 (by decide) ?_ ?_
  · exact SW.sub [0] rfl (hK44  u)
  · refine sw_aload_n 0 dX11_elects_14 rfl rfl ?_
    refine sw_getr q_cl11 1 (r := 164) dX11_elects_15 t_1046 (by decide) h0.1 rfl ?_
    refine sw_bipush (10 : Int32) dX11_elects_18 (by decide) ?_
    refine sw_iload_n 1 dX11_elects_20 rfl rfl ?_
    refine sw_iadd dX11_elects_21 ?_
    refine sw_aload_n 0 dX11_elects_22 rfl rfl ?_
    refine sw_getr q_cl11 46 (r := 182) dX11_elects_23 t_1091 (by decide) h0.1 rfl ?_
    refine sw_iload_n 1 dX11_elects_26 rfl rfl ?_
    refine sw_iald dX11_elects_27 h0.2.2.2.2.2.2.2.2.2.2.2.2.2.2.2.2.2.2.2.1 (fun a => ?_)
    refine sw_iast dX11_elects_28 h0.2.1 (fun u_2 => ?_)
    refine sw_aload_n 0 dX11_elects_29 rfl rfl ?_
    refine sw_getr q_cl11 1 (r := 164) dX11_elects_30 t_1046 (by decide) h0.1 rfl ?_
    refine sw_iconst (5 : Int32) dX11_elects_33 (by decide) ?_
    refine sw_iload_n 1 dX11_elects_34 rfl rfl ?_
    refine sw_iadd dX11_elects_35 ?_
    refine sw_iconst (0 : Int32) dX11_elects_36 (by decide) ?_
    refine sw_iast dX11_elects_37 h0.2.1 (fun u_3 => ?_)
    refine sw_iinc (lv' := [(1, .int (x1 + (1 : Int32))), (0, .ref (b + 163))]) 1 dX11_elects_38 rfl (congrArg (x1 + ·) (by decide)) (by decide) rfl ?_
    refine sw_goto 6 dX11_elects_41 (by decide) ?_
    exact SW.sub [1, 0] rfl (ih (x1 + (1 : Int32)) u_3)
set_option maxRecDepth 100000 in
theorem c_X11_elects (l : Launch) {ι : qI} {b : Nat}   (u : qS) (h0 : is_X11 ι) : CN l yX11_elects cX11_elects 2 none 3 ι b [.ref (b + 163)] u (m_X11_elects  u) := by
  refine CN.of_SW (own := RX11) rfl (by decide) (Nat.le_of_ble_eq_true rfl) [(0, .ref (b + 163))] rfl ?_
  unfold m_X11_elects
  refine sw_aload_n 0 dX11_elects_0 rfl rfl ?_
  refine sw_callVv (As := []) (k := 163) rfl dX11_elects_1 t_1552 mf_X11_findsGiven h0.1 q_cl11 (by decide) (Nat.le_of_ble_eq_true rfl) (fun l => c_X11_findsGiven l  u h0) (fun _ u_1 => ?_)
  refine sw_iconst (0 : Int32) dX11_elects_4 (by decide) ?_
  refine sw_istore_n (lv' := [(1, .int (0 : Int32)), (0, .ref (b + 163))]) dX11_elects_5 rfl (by decide) rfl ?_
  refine SW.sub (lv' := [(0, .ref (b + 163)), (1, .int (0 : Int32))]) [1, 0] rfl ?_
  refine w_X11_elects_L6 h0 (fun u_4 => ?_) q_F (0 : Int32) u_1
  refine sw_aload_n 0 dX11_elects_44 rfl rfl ?_
  refine sw_callVi (As := []) (k := 163) rfl dX11_elects_45 t_1568 mf_X11_strongest h0.1 q_cl11 (by decide) (Nat.le_of_ble_eq_true rfl) (fun l => c_X11_strongest l  u_4 h0) (fun r u_5 => ?_)
  refine sw_istore_n (lv' := [(1, .int r), (0, .ref (b + 163))]) dX11_elects_48 rfl (by decide) rfl ?_
  refine sw_aload_n 1 dX11_elects_49 rfl rfl ?_
  refine sw_bipush (7 : Int32) dX11_elects_50 (by decide) ?_
  refine sw_iload_n 0 dX11_elects_52 rfl rfl ?_
  refine sw_iload_n 0 dX11_elects_53 rfl rfl ?_
  refine sw_iconst (-1 : Int32) dX11_elects_54 (by decide) ?_
  refine SW.jn1 71 (fun s0 => []) (fun s0 => [.int s0, .int r, .int (7 : Int32), .ref (b + 163)]) (fun s0 u_6 => ?_) (fun J71 hJ71 => ?_)
  · refine sw_callVv (As := [.int (7 : Int32), .int r, .int s0]) (k := 163) rfl dX11_elects_71 t_1426 mf_X11_notes h0.1 q_cl11 (by decide) (Nat.le_of_ble_eq_true rfl) (fun l => c_X11_notes l (7 : Int32) r s0 u_6 h0) (fun _ u_7 => ?_)
    exact sw_vret dX11_elects_74
  · refine sw_icmp_ne 62 dX11_elects_55 (by decide) ?_ ?_
    · refine sw_iconst (0 : Int32) dX11_elects_58 (by decide) ?_
      refine sw_goto 71 dX11_elects_59 (by decide) ?_
      exact SW.sub [] rfl (hJ71 (0 : Int32) u_5)
    · refine sw_aload_n 1 dX11_elects_62 rfl rfl ?_
      refine sw_getr q_cl11 1 (r := 164) dX11_elects_63 t_1046 (by decide) h0.1 rfl ?_
      refine sw_bipush (10 : Int32) dX11_elects_66 (by decide) ?_
      refine sw_iload_n 0 dX11_elects_68 rfl rfl ?_
      refine sw_iadd dX11_elects_69 ?_
      refine sw_iald dX11_elects_70 h0.2.1 (fun a => ?_)
      exact SW.sub [] rfl (hJ71 a u_5)
set_option maxRecDepth 100000 in
theorem c_X11_does (l : Launch) {ι : qI} {b : Nat}  (x1 : Int32) (u : qS) (h0 : is_X11 ι) : CN l yX11_does cX11_does 3 none 3 ι b [.ref (b + 163), .int x1] u (m_X11_does x1 u) := by
  refine CN.of_SW (own := RX11) rfl (by decide) (Nat.le_of_ble_eq_true rfl) [(0, .ref (b + 163)), (1, .int x1)] rfl ?_
  unfold m_X11_does
  refine sw_aload_n 0 dX11_does_0 rfl rfl ?_
  refine sw_getr q_cl11 39 (r := 179) dX11_does_1 t_1084 (by decide) h0.1 rfl ?_
  refine sw_iload_n 1 dX11_does_4 rfl rfl ?_
  refine sw_iconst (2 : Int32) dX11_does_5 (by decide) ?_
  refine sw_iadd dX11_does_6 ?_
  refine sw_iald dX11_does_7 h0.2.2.2.2.2.2.2.2.2.2.2.2.2.2.2.2.1 (fun a => ?_)
  refine sw_istore_n (lv' := [(2, .int a), (0, .ref (b + 163)), (1, .int x1)]) dX11_does_8 rfl (by decide) rfl ?_
  refine sw_aload_n 1 dX11_does_9 rfl rfl ?_
  refine sw_getr q_cl11 39 (r := 179) dX11_does_10 t_1084 (by decide) h0.1 rfl ?_
  refine sw_iload_n 2 dX11_does_13 rfl rfl ?_
  refine sw_iconst (1 : Int32) dX11_does_14 (by decide) ?_
  refine sw_iadd dX11_does_15 ?_
  refine sw_iald dX11_does_16 h0.2.2.2.2.2.2.2.2.2.2.2.2.2.2.2.2.1 (fun a_1 => ?_)
  refine SW.jn0 46 ([(0, .ref (b + 163)), (1, .int x1), (2, .int a)]) ([]) (fun  u_2 => ?_) (fun J46 hJ46 => ?_)
  · refine sw_aload_n 0 dX11_does_46 rfl rfl ?_
    refine sw_getr q_cl11 39 (r := 179) dX11_does_47 t_1084 (by decide) h0.1 rfl ?_
    refine sw_iload_n 1 dX11_does_50 rfl rfl ?_
    refine sw_iconst (1 : Int32) dX11_does_51 (by decide) ?_
    refine sw_iadd dX11_does_52 ?_
    refine sw_iald dX11_does_53 h0.2.2.2.2.2.2.2.2.2.2.2.2.2.2.2.2.1 (fun a_3 => ?_)
    refine sw_iconst (1 : Int32) dX11_does_54 (by decide) ?_
    refine SW.jn0 72 ([(0, .ref (b + 163)), (1, .int x1), (2, .int a)]) ([]) (fun  u_4 => ?_) (fun J72 hJ72 => ?_)
    · refine sw_aload_n 0 dX11_does_72 rfl rfl ?_
      refine sw_getr q_cl11 39 (r := 179) dX11_does_73 t_1084 (by decide) h0.1 rfl ?_
      refine sw_iload_n 1 dX11_does_76 rfl rfl ?_
      refine sw_iconst (1 : Int32) dX11_does_77 (by decide) ?_
      refine sw_iadd dX11_does_78 ?_
      refine sw_iald dX11_does_79 h0.2.2.2.2.2.2.2.2.2.2.2.2.2.2.2.2.1 (fun a_5 => ?_)
      refine sw_iconst (2 : Int32) dX11_does_80 (by decide) ?_
      refine SW.jn0 98 ([(0, .ref (b + 163)), (1, .int x1), (2, .int a)]) ([]) (fun  u_6 => ?_) (fun J98 hJ98 => ?_)
      · refine sw_aload_n 0 dX11_does_98 rfl rfl ?_
        refine sw_getr q_cl11 39 (r := 179) dX11_does_99 t_1084 (by decide) h0.1 rfl ?_
        refine sw_iload_n 1 dX11_does_102 rfl rfl ?_
        refine sw_iconst (1 : Int32) dX11_does_103 (by decide) ?_
        refine sw_iadd dX11_does_104 ?_
        refine sw_iald dX11_does_105 h0.2.2.2.2.2.2.2.2.2.2.2.2.2.2.2.2.1 (fun a_7 => ?_)
        refine sw_iconst (3 : Int32) dX11_does_106 (by decide) ?_
        refine SW.jn0 124 ([(0, .ref (b + 163)), (1, .int x1), (2, .int a)]) ([]) (fun  u_8 => ?_) (fun J124 hJ124 => ?_)
        · refine sw_aload_n 0 dX11_does_124 rfl rfl ?_
          refine sw_getr q_cl11 39 (r := 179) dX11_does_125 t_1084 (by decide) h0.1 rfl ?_
          refine sw_iload_n 1 dX11_does_128 rfl rfl ?_
          refine sw_iconst (1 : Int32) dX11_does_129 (by decide) ?_
          refine sw_iadd dX11_does_130 ?_
          refine sw_iald dX11_does_131 h0.2.2.2.2.2.2.2.2.2.2.2.2.2.2.2.2.1 (fun a_9 => ?_)
          refine sw_iconst (4 : Int32) dX11_does_132 (by decide) ?_
          refine sw_icmp_ne 163 dX11_does_133 (by decide) ?_ ?_
          · refine sw_aload_n 0 dX11_does_136 rfl rfl ?_
            refine sw_getr q_cl11 1 (r := 164) dX11_does_137 t_1046 (by decide) h0.1 rfl ?_
            refine sw_bipush (76 : Int32) dX11_does_140 (by decide) ?_
            refine sw_iload_n 2 dX11_does_142 rfl rfl ?_
            refine sw_iadd dX11_does_143 ?_
            refine sw_aload_n 0 dX11_does_144 rfl rfl ?_
            refine sw_iconst (2 : Int32) dX11_does_145 (by decide) ?_
            refine sw_aload_n 0 dX11_does_146 rfl rfl ?_
            refine sw_getr q_cl11 1 (r := 164) dX11_does_147 t_1046 (by decide) h0.1 rfl ?_
            refine sw_bipush (76 : Int32) dX11_does_150 (by decide) ?_
            refine sw_iload_n 2 dX11_does_152 rfl rfl ?_
            refine sw_iadd dX11_does_153 ?_
            refine sw_iald dX11_does_154 h0.2.1 (fun a_10 => ?_)
            refine sw_imul dX11_does_155 ?_
            refine sw_iconst (0 : Int32) dX11_does_156 (by decide) ?_
            refine sw_bipush (20 : Int32) dX11_does_157 (by decide) ?_
            refine sw_callVi (As := [.int ((2 : Int32) * a_10), .int (0 : Int32), .int (20 : Int32)]) (k := 163) rfl dX11_does_159 t_1250 mf_X11_held h0.1 q_cl11 (by decide) (Nat.le_of_ble_eq_true rfl) (fun l => c_X11_held l ((2 : Int32) * a_10) (0 : Int32) (20 : Int32) u_8 h0) (fun r u_11 => ?_)
            refine sw_iast dX11_does_162 h0.2.1 (fun u_12 => ?_)
            exact sw_vret dX11_does_163
          · exact sw_vret dX11_does_163
        · refine sw_icmp_ne 124 dX11_does_107 (by decide) ?_ ?_
          · refine sw_aload_n 0 dX11_does_110 rfl rfl ?_
            refine sw_iload_n 2 dX11_does_111 rfl rfl ?_
            refine sw_aload_n 0 dX11_does_112 rfl rfl ?_
            refine sw_getr q_cl11 39 (r := 179) dX11_does_113 t_1084 (by decide) h0.1 rfl ?_
            refine sw_iload_n 1 dX11_does_116 rfl rfl ?_
            refine sw_iconst (3 : Int32) dX11_does_117 (by decide) ?_
            refine sw_iadd dX11_does_118 ?_
            refine sw_iald dX11_does_119 h0.2.2.2.2.2.2.2.2.2.2.2.2.2.2.2.2.1 (fun a_13 => ?_)
            refine sw_callVi (As := [.int a, .int a_13]) (k := 163) rfl dX11_does_120 t_1450 mf_X11_boils h0.1 q_cl11 (by decide) (Nat.le_of_ble_eq_true rfl) (fun l => c_X11_boils l a a_13 u_6 h0) (fun r_14 u_15 => ?_)
            refine sw_pop dX11_does_123 rfl ?_
            exact SW.sub [0, 1, 2] rfl (hJ124  u_15)
          · exact SW.sub [0, 1, 2] rfl (hJ124  u_6)
      · refine sw_icmp_ne 98 dX11_does_81 (by decide) ?_ ?_
        · refine sw_aload_n 0 dX11_does_84 rfl rfl ?_
          refine sw_iload_n 2 dX11_does_85 rfl rfl ?_
          refine sw_callVi (As := [.int a]) (k := 163) rfl dX11_does_86 t_1434 mf_X11_isFenced h0.1 q_cl11 (by decide) (Nat.le_of_ble_eq_true rfl) (fun l => c_X11_isFenced l a u_4 h0) (fun r_16 u_17 => ?_)
          refine sw_if_eq 98 dX11_does_89 (by decide) ?_ ?_
          · exact SW.sub [0, 1, 2] rfl (hJ98  u_17)
          · refine sw_aload_n 0 dX11_does_92 rfl rfl ?_
            refine sw_iload_n 2 dX11_does_93 rfl rfl ?_
            refine sw_iconst (0 : Int32) dX11_does_94 (by decide) ?_
            refine sw_callVv (As := [.int a, .int (0 : Int32)]) (k := 163) rfl dX11_does_95 t_1442 mf_X11_fences h0.1 q_cl11 (by decide) (Nat.le_of_ble_eq_true rfl) (fun l => c_X11_fences l a (0 : Int32) u_17 h0) (fun _ u_18 => ?_)
            exact SW.sub [0, 1, 2] rfl (hJ98  u_18)
        · exact SW.sub [0, 1, 2] rfl (hJ98  u_4)
    · refine sw_icmp_ne 72 dX11_does_55 (by decide) ?_ ?_
      · refine sw_aload_n 0 dX11_does_58 rfl rfl ?_
        refine sw_iload_n 2 dX11_does_59 rfl rfl ?_
        refine sw_callVi (As := [.int a]) (k := 163) rfl dX11_does_60 t_1434 mf_X11_isFenced h0.1 q_cl11 (by decide) (Nat.le_of_ble_eq_true rfl) (fun l => c_X11_isFenced l a u_2 h0) (fun r_19 u_20 => ?_)
        refine sw_if_ne 72 dX11_does_63 (by decide) ?_ ?_
        · refine sw_aload_n 0 dX11_does_66 rfl rfl ?_
          refine sw_iload_n 2 dX11_does_67 rfl rfl ?_
          refine sw_iconst (1 : Int32) dX11_does_68 (by decide) ?_
          refine sw_callVv (As := [.int a, .int (1 : Int32)]) (k := 163) rfl dX11_does_69 t_1442 mf_X11_fences h0.1 q_cl11 (by decide) (Nat.le_of_ble_eq_true rfl) (fun l => c_X11_fences l a (1 : Int32) u_20 h0) (fun _ u_21 => ?_)
          exact SW.sub [0, 1, 2] rfl (hJ72  u_21)
        · exact SW.sub [0, 1, 2] rfl (hJ72  u_20)
      · exact SW.sub [0, 1, 2] rfl (hJ72  u_2)
  · refine sw_if_ne 46 dX11_does_17 (by decide) ?_ ?_
    · refine sw_aload_n 1 dX11_does_20 rfl rfl ?_
      refine sw_getr q_cl11 1 (r := 164) dX11_does_21 t_1046 (by decide) h0.1 rfl ?_
      refine sw_iconst (4 : Int32) dX11_does_24 (by decide) ?_
      refine sw_iald dX11_does_25 h0.2.1 (fun a_22 => ?_)
      refine sw_bipush (14 : Int32) dX11_does_26 (by decide) ?_
      refine sw_icmp_ge 46 dX11_does_28 (by decide) ?_ ?_
      · exact SW.sub [1, 2, 0] rfl (hJ46  u)
      · refine sw_aload_n 1 dX11_does_31 rfl rfl ?_
        refine sw_iload_n 0 dX11_does_32 rfl rfl ?_
        refine sw_aload_n 1 dX11_does_33 rfl rfl ?_
        refine sw_getr q_cl11 39 (r := 179) dX11_does_34 t_1084 (by decide) h0.1 rfl ?_
        refine sw_iload_n 2 dX11_does_37 rfl rfl ?_
        refine sw_iconst (3 : Int32) dX11_does_38 (by decide) ?_
        refine sw_iadd dX11_does_39 ?_
        refine sw_iald dX11_does_40 h0.2.2.2.2.2.2.2.2.2.2.2.2.2.2.2.2.1 (fun a_23 => ?_)
        refine sw_iconst (0 : Int32) dX11_does_41 (by decide) ?_
        refine sw_callVi (As := [.int a, .int a_23, .int (0 : Int32)]) (k := 163) rfl dX11_does_42 t_1422 mf_X11_plants h0.1 q_cl11 (by decide) (Nat.le_of_ble_eq_true rfl) (fun l => c_X11_plants l a a_23 (0 : Int32) u h0) (fun r_24 u_25 => ?_)
        refine sw_pop dX11_does_45 rfl ?_
        exact SW.sub [1, 2, 0] rfl (hJ46  u_25)
    · exact SW.sub [1, 2, 0] rfl (hJ46  u)
set_option maxRecDepth 100000 in
theorem w_X11_stings_L17 {ι : qI} {b : Nat}  (h0 : is_X11 ι)  {K105 : qS → qR} (hK105 : ∀  (u : qS), SW RX11 cX11_stings 3 none 2 ι b 105 [] [] u (K105  u)) (fu : Nat) (x1 : Int32) (u : qS) : SW RX11 cX11_stings 3 none 2 ι b 17 [(0, .ref (b + 163)), (1, .int x1)] [] u (q_it1 (m_X11_stings_L17 K105) fu x1 u) := by
  refine SW.it1 (fun x1 => [(0, .ref (b + 163)), (1, .int x1)]) (fun self ih x1 u => ?_) fu x1 u
  unfold m_X11_stings_L17
  refine sw_iload_n 1 dX11_stings_17 rfl rfl ?_
  refine sw_aload_n 0 dX11_stings_18 rfl rfl ?_
  refine sw_getr q_cl11 1 (r := 164) dX11_stings_19 t_1046 (by decide) h0.1 rfl ?_
  refine sw_iconst (4 : Int32) dX11_stings_22 (by decide) ?_
  refine sw_iald dX11_stings_23 h0.2.1 (fun a => ?_)
  refine sw_icmp_ge 105 dX11_stings_24 (by decide) ?_ ?_
  · exact SW.sub [] rfl (hK105  u)
  · refine sw_aload_n 0 dX11_stings_27 rfl rfl ?_
    refine sw_getr q_cl11 1 (r := 164) dX11_stings_28 t_1046 (by decide) h0.1 rfl ?_
    refine sw_bipush (62 : Int32) dX11_stings_31 (by decide) ?_
    refine sw_iload_n 1 dX11_stings_33 rfl rfl ?_
    refine sw_iadd dX11_stings_34 ?_
    refine sw_iald dX11_stings_35 h0.2.1 (fun a_1 => ?_)
    refine sw_bipush (10 : Int32) dX11_stings_36 (by decide) ?_
    refine SW.jn0 99 ([(0, .ref (b + 163)), (1, .int x1)]) ([]) (fun  u_2 => ?_) (fun J99 hJ99 => ?_)
    · refine sw_iinc (lv' := [(1, .int (x1 + (1 : Int32))), (0, .ref (b + 163))]) 1 dX11_stings_99 rfl (congrArg (x1 + ·) (by decide)) (by decide) rfl ?_
      refine sw_goto 17 dX11_stings_102 (by decide) ?_
      exact SW.sub [1, 0] rfl (ih (x1 + (1 : Int32)) u_2)
    · refine sw_icmp_lt 99 dX11_stings_38 (by decide) ?_ ?_
      · exact SW.sub [0, 1] rfl (hJ99  u)
      · refine sw_aload_n 0 dX11_stings_41 rfl rfl ?_
        refine sw_sipush (1000 : Int32) dX11_stings_42 (by decide) ?_
        refine sw_callVi (As := [.int (1000 : Int32)]) (k := 163) rfl dX11_stings_45 t_1530 mf_X11_draw h0.1 q_cl11 (by decide) (Nat.le_of_ble_eq_true rfl) (fun l => c_X11_draw l (1000 : Int32) u h0) (fun r u_3 => ?_)
        refine sw_aload_n 0 dX11_stings_48 rfl rfl ?_
        refine sw_geti q_cl11 9 dX11_stings_49 t_1054 (by decide) h0.1 rfl ?_
        refine sw_icmp_lt 58 dX11_stings_52 (by decide) ?_ ?_
        · refine sw_aload_n 0 dX11_stings_58 rfl rfl ?_
          refine sw_getr q_cl11 1 (r := 164) dX11_stings_59 t_1046 (by decide) h0.1 rfl ?_
          refine sw_bipush (62 : Int32) dX11_stings_62 (by decide) ?_
          refine sw_iload_n 1 dX11_stings_64 rfl rfl ?_
          refine sw_iadd dX11_stings_65 ?_
          refine sw_iald dX11_stings_66 h0.2.1 (fun a_4 => ?_)
          refine sw_bipush (10 : Int32) dX11_stings_67 (by decide) ?_
          refine sw_idivc dX11_stings_69 (by decide) ?_
          refine SW.name (fun y2 => ?_)
          refine sw_istore_n (lv' := [(2, .int y2), (0, .ref (b + 163)), (1, .int x1)]) dX11_stings_70 rfl (by decide) rfl ?_
          refine sw_aload_n 1 dX11_stings_71 rfl rfl ?_
          refine sw_getr q_cl11 1 (r := 164) dX11_stings_72 t_1046 (by decide) h0.1 rfl ?_
          refine sw_bipush (62 : Int32) dX11_stings_75 (by decide) ?_
          refine sw_iload_n 2 dX11_stings_77 rfl rfl ?_
          refine sw_iadd dX11_stings_78 ?_
          refine sw_aload_n 1 dX11_stings_79 rfl rfl ?_
          refine sw_getr q_cl11 1 (r := 164) dX11_stings_80 t_1046 (by decide) h0.1 rfl ?_
          refine sw_bipush (62 : Int32) dX11_stings_83 (by decide) ?_
          refine sw_iload_n 2 dX11_stings_85 rfl rfl ?_
          refine sw_iadd dX11_stings_86 ?_
          refine sw_iald dX11_stings_87 h0.2.1 (fun a_5 => ?_)
          refine sw_iload_n 0 dX11_stings_88 rfl rfl ?_
          refine sw_isub dX11_stings_89 ?_
          refine sw_iast dX11_stings_90 h0.2.1 (fun u_6 => ?_)
          refine sw_aload_n 1 dX11_stings_91 rfl rfl ?_
          refine sw_bipush (6 : Int32) dX11_stings_92 (by decide) ?_
          refine sw_iload_n 2 dX11_stings_94 rfl rfl ?_
          refine sw_iload_n 0 dX11_stings_95 rfl rfl ?_
          refine sw_callVv (As := [.int (6 : Int32), .int x1, .int y2]) (k := 163) rfl dX11_stings_96 t_1426 mf_X11_notes h0.1 q_cl11 (by decide) (Nat.le_of_ble_eq_true rfl) (fun l => c_X11_notes l (6 : Int32) x1 y2 u_6 h0) (fun _ u_7 => ?_)
          exact SW.sub [1, 2] rfl (hJ99  u_7)
        · refine sw_goto 99 dX11_stings_55 (by decide) ?_
          exact SW.sub [0, 1] rfl (hJ99  u_3)
set_option maxRecDepth 100000 in
theorem c_X11_stings (l : Launch) {ι : qI} {b : Nat}   (u : qS) (h0 : is_X11 ι) : CN l yX11_stings cX11_stings 3 none 2 ι b [.ref (b + 163)] u (m_X11_stings  u) := by
  refine CN.of_SW (own := RX11) rfl (by decide) (Nat.le_of_ble_eq_true rfl) [(0, .ref (b + 163))] rfl ?_
  unfold m_X11_stings
  refine sw_aload_n 0 dX11_stings_0 rfl rfl ?_
  refine sw_geti q_cl11 5 dX11_stings_1 t_1050 (by decide) h0.1 rfl ?_
  refine sw_if_ne 14 dX11_stings_4 (by decide) ?_ ?_
  · refine sw_aload_n 0 dX11_stings_7 rfl rfl ?_
    refine sw_geti q_cl11 9 dX11_stings_8 t_1054 (by decide) h0.1 rfl ?_
    refine sw_if_ne 15 dX11_stings_11 (by decide) ?_ ?_
    · exact sw_vret dX11_stings_14
    · refine sw_iconst (0 : Int32) dX11_stings_15 (by decide) ?_
      refine sw_istore_n (lv' := [(1, .int (0 : Int32)), (0, .ref (b + 163))]) dX11_stings_16 rfl (by decide) rfl ?_
      refine SW.sub (lv' := [(0, .ref (b + 163)), (1, .int (0 : Int32))]) [1, 0] rfl ?_
      refine w_X11_stings_L17 h0 (fun u_8 => ?_) q_F (0 : Int32) u
      exact sw_vret dX11_stings_105
  · exact sw_vret dX11_stings_14
set_option maxRecDepth 100000 in
theorem w_X11_eats_L4 {ι : qI} {b : Nat}  (h0 : is_X11 ι)  {K59 : Int32 → qS → qR} (hK59 : ∀ (e1 : Int32) (u : qS), SW RX11 cX11_eats 3 (some .int) 9 ι b 59 [(1, .int e1)] [] u (K59 e1 u)) (fu : Nat) (x1 : Int32) (x2 : Int32) (u : qS) : SW RX11 cX11_eats 3 (some .int) 9 ι b 4 [(0, .ref (b + 163)), (1, .int x1), (2, .int x2)] [] u (q_it2 (m_X11_eats_L4 K59) fu x1 x2 u) := by
  refine SW.it2 (fun x1 x2 => [(0, .ref (b + 163)), (1, .int x1), (2, .int x2)]) (fun self ih x1 x2 u => ?_) fu x1 x2 u
  unfold m_X11_eats_L4
  refine sw_iload_n 2 dX11_eats_4 rfl rfl ?_
  refine sw_aload_n 0 dX11_eats_5 rfl rfl ?_
  refine sw_geti q_cl11 7 dX11_eats_6 t_1052 (by decide) h0.1 rfl ?_
  refine sw_icmp_ge 59 dX11_eats_9 (by decide) ?_ ?_
  · exact SW.sub [1] rfl (hK59 x1 u)
  · refine sw_aload_n 0 dX11_eats_12 rfl rfl ?_
    refine sw_iload_n 2 dX11_eats_13 rfl rfl ?_
    refine sw_callVi (As := [.int x2]) (k := 163) rfl dX11_eats_14 t_1498 mf_X11_isHungry h0.1 q_cl11 (by decide) (Nat.le_of_ble_eq_true rfl) (fun l => c_X11_isHungry l x2 u h0) (fun r u_1 => ?_)
    refine SW.jn1 53 (fun x1_2 => [(0, .ref (b + 163)), (1, .int x1_2), (2, .int x2)]) (fun x1_2 => []) (fun x1_2 u_3 => ?_) (fun J53 hJ53 => ?_)
    · refine sw_iinc (lv' := [(2, .int (x2 + (1 : Int32))), (0, .ref (b + 163)), (1, .int x1_2)]) 2 dX11_eats_53 rfl (congrArg (x2 + ·) (by decide)) (by decide) rfl ?_
      refine sw_goto 4 dX11_eats_56 (by decide) ?_
      exact SW.sub [1, 2, 0] rfl (ih x1_2 (x2 + (1 : Int32)) u_3)
    · refine sw_if_ne 23 dX11_eats_17 (by decide) ?_ ?_
      · refine sw_goto 53 dX11_eats_20 (by decide) ?_
        exact SW.sub [0, 1, 2] rfl (hJ53 x1 u_1)
      · refine sw_iload_n 1 dX11_eats_23 rfl rfl ?_
        refine sw_iconst (1 : Int32) dX11_eats_24 (by decide) ?_
        refine sw_iadd dX11_eats_25 ?_
        refine SW.name (fun y1 => ?_)
        refine sw_istore_n (lv' := [(1, .int y1), (0, .ref (b + 163)), (2, .int x2)]) dX11_eats_26 rfl (by decide) rfl ?_
        refine sw_aload_n 1 dX11_eats_27 rfl rfl ?_
        refine sw_geti q_cl11 44 dX11_eats_28 t_1089 (by decide) h0.1 rfl ?_
        refine sw_iconst (-1 : Int32) dX11_eats_31 (by decide) ?_
        refine sw_icmp_eq 38 dX11_eats_32 (by decide) ?_ ?_
        · refine sw_aload_n 1 dX11_eats_38 rfl rfl ?_
          refine sw_iload_n 2 dX11_eats_39 rfl rfl ?_
          refine sw_puti q_cl11 44 dX11_eats_40 t_1089 (by decide) (by decide +kernel) rfl h0.1 rfl (fun u_4 => ?_)
          refine sw_aload_n 1 dX11_eats_43 rfl rfl ?_
          refine sw_aload_n 1 dX11_eats_44 rfl rfl ?_
          refine sw_getr q_cl11 1 (r := 164) dX11_eats_45 t_1046 (by decide) h0.1 rfl ?_
          refine sw_iconst (0 : Int32) dX11_eats_48 (by decide) ?_
          refine sw_iald dX11_eats_49 h0.2.1 (fun a => ?_)
          refine sw_puti q_cl11 45 dX11_eats_50 t_1090 (by decide) (by decide +kernel) rfl h0.1 rfl (fun u_5 => ?_)
          exact SW.sub [1, 0, 2] rfl (hJ53 y1 u_5)
        · refine sw_goto 53 dX11_eats_35 (by decide) ?_
          exact SW.sub [1, 0, 2] rfl (hJ53 y1 u_1)
set_option maxRecDepth 100000 in
theorem c_X11_eats (l : Launch) {ι : qI} {b : Nat}   (u : qS) (h0 : is_X11 ι) : CN l yX11_eats cX11_eats 3 (some .int) 9 ι b [.ref (b + 163)] u (m_X11_eats  u) := by
  refine CN.of_SW (own := RX11) rfl (by decide) (Nat.le_of_ble_eq_true rfl) [(0, .ref (b + 163))] rfl ?_
  unfold m_X11_eats
  refine sw_iconst (0 : Int32) dX11_eats_0 (by decide) ?_
  refine sw_istore_n (lv' := [(1, .int (0 : Int32)), (0, .ref (b + 163))]) dX11_eats_1 rfl (by decide) rfl ?_
  refine sw_iconst (0 : Int32) dX11_eats_2 (by decide) ?_
  refine sw_istore_n (lv' := [(2, .int (0 : Int32)), (1, .int (0 : Int32)), (0, .ref (b + 163))]) dX11_eats_3 rfl (by decide) rfl ?_
  refine SW.sub (lv' := [(0, .ref (b + 163)), (1, .int (0 : Int32)), (2, .int (0 : Int32))]) [2, 1, 0] rfl ?_
  refine w_X11_eats_L4 h0 (fun x1 u_6 => ?_) q_F (0 : Int32) (0 : Int32) u
  refine sw_iload_n 0 dX11_eats_59 rfl rfl ?_
  exact sw_iret dX11_eats_60
set_option maxRecDepth 100000 in
theorem w_X11_goesBy_L2 {ι : qI} {b : Nat}  (h0 : is_X11 ι)  {K40 : qS → qR} (hK40 : ∀  (u : qS), SW RX11 cX11_goesBy 3 (some .int) 10 ι b 40 [(0, .ref (b + 163))] [] u (K40  u)) (fu : Nat) (x1 : Int32) (u : qS) : SW RX11 cX11_goesBy 3 (some .int) 10 ι b 2 [(0, .ref (b + 163)), (1, .int x1)] [] u (q_it1 (m_X11_goesBy_L2 K40) fu x1 u) := by
  refine SW.it1 (fun x1 => [(0, .ref (b + 163)), (1, .int x1)]) (fun self ih x1 u => ?_) fu x1 u
  unfold m_X11_goesBy_L2
  refine sw_iload_n 1 dX11_goesBy_2 rfl rfl ?_
  refine sw_aload_n 0 dX11_goesBy_3 rfl rfl ?_
  refine sw_geti q_cl11 38 dX11_goesBy_4 t_1083 (by decide) h0.1 rfl ?_
  refine sw_icmp_ge 40 dX11_goesBy_7 (by decide) ?_ ?_
  · exact SW.sub [0] rfl (hK40  u)
  · refine sw_aload_n 0 dX11_goesBy_10 rfl rfl ?_
    refine sw_getr q_cl11 39 (r := 179) dX11_goesBy_11 t_1084 (by decide) h0.1 rfl ?_
    refine sw_iconst (4 : Int32) dX11_goesBy_14 (by decide) ?_
    refine sw_iload_n 1 dX11_goesBy_15 rfl rfl ?_
    refine sw_imul dX11_goesBy_16 ?_
    refine sw_iald dX11_goesBy_17 h0.2.2.2.2.2.2.2.2.2.2.2.2.2.2.2.2.1 (fun a => ?_)
    refine sw_aload_n 0 dX11_goesBy_18 rfl rfl ?_
    refine sw_getr q_cl11 1 (r := 164) dX11_goesBy_19 t_1046 (by decide) h0.1 rfl ?_
    refine sw_iconst (0 : Int32) dX11_goesBy_22 (by decide) ?_
    refine sw_iald dX11_goesBy_23 h0.2.1 (fun a_1 => ?_)
    refine SW.jn0 34 ([(0, .ref (b + 163)), (1, .int x1)]) ([]) (fun  u_2 => ?_) (fun J34 hJ34 => ?_)
    · refine sw_iinc (lv' := [(1, .int (x1 + (1 : Int32))), (0, .ref (b + 163))]) 1 dX11_goesBy_34 rfl (congrArg (x1 + ·) (by decide)) (by decide) rfl ?_
      refine sw_goto 2 dX11_goesBy_37 (by decide) ?_
      exact SW.sub [1, 0] rfl (ih (x1 + (1 : Int32)) u_2)
    · refine sw_icmp_ne 34 dX11_goesBy_24 (by decide) ?_ ?_
      · refine sw_aload_n 0 dX11_goesBy_27 rfl rfl ?_
        refine sw_iconst (4 : Int32) dX11_goesBy_28 (by decide) ?_
        refine sw_iload_n 1 dX11_goesBy_29 rfl rfl ?_
        refine sw_imul dX11_goesBy_30 ?_
        refine sw_callVv (As := [.int ((4 : Int32) * x1)]) (k := 163) rfl dX11_goesBy_31 t_1466 mf_X11_does h0.1 q_cl11 (by decide) (Nat.le_of_ble_eq_true rfl) (fun l => c_X11_does l ((4 : Int32) * x1) u h0) (fun _ u_3 => ?_)
        exact SW.sub [0, 1] rfl (hJ34  u_3)
      · exact SW.sub [0, 1] rfl (hJ34  u)
set_option maxRecDepth 100000 in
theorem w_X11_goesBy_L42 {ι : qI} {b : Nat}  (h0 : is_X11 ι)  {K89 : qS → qR} (hK89 : ∀  (u : qS), SW RX11 cX11_goesBy 3 (some .int) 10 ι b 89 [(0, .ref (b + 163))] [] u (K89  u)) (fu : Nat) (x1 : Int32) (u : qS) : SW RX11 cX11_goesBy 3 (some .int) 10 ι b 42 [(0, .ref (b + 163)), (1, .int x1)] [] u (q_it1 (m_X11_goesBy_L42 K89) fu x1 u) := by
  refine SW.it1 (fun x1 => [(0, .ref (b + 163)), (1, .int x1)]) (fun self ih x1 u => ?_) fu x1 u
  unfold m_X11_goesBy_L42
  refine sw_iload_n 1 dX11_goesBy_42 rfl rfl ?_
  refine sw_aload_n 0 dX11_goesBy_43 rfl rfl ?_
  refine sw_getr q_cl11 1 (r := 164) dX11_goesBy_44 t_1046 (by decide) h0.1 rfl ?_
  refine sw_iconst (4 : Int32) dX11_goesBy_47 (by decide) ?_
  refine sw_iald dX11_goesBy_48 h0.2.1 (fun a => ?_)
  refine sw_icmp_ge 89 dX11_goesBy_49 (by decide) ?_ ?_
  · exact SW.sub [0] rfl (hK89  u)
  · refine sw_aload_n 0 dX11_goesBy_52 rfl rfl ?_
    refine sw_getr q_cl11 1 (r := 164) dX11_goesBy_53 t_1046 (by decide) h0.1 rfl ?_
    refine sw_bipush (62 : Int32) dX11_goesBy_56 (by decide) ?_
    refine sw_iload_n 1 dX11_goesBy_58 rfl rfl ?_
    refine sw_iadd dX11_goesBy_59 ?_
    refine sw_aload_n 0 dX11_goesBy_60 rfl rfl ?_
    refine sw_aload_n 0 dX11_goesBy_61 rfl rfl ?_
    refine sw_getr q_cl11 1 (r := 164) dX11_goesBy_62 t_1046 (by decide) h0.1 rfl ?_
    refine sw_bipush (62 : Int32) dX11_goesBy_65 (by decide) ?_
    refine sw_iload_n 1 dX11_goesBy_67 rfl rfl ?_
    refine sw_iadd dX11_goesBy_68 ?_
    refine sw_iald dX11_goesBy_69 h0.2.1 (fun a_5 => ?_)
    refine sw_aload_n 0 dX11_goesBy_70 rfl rfl ?_
    refine sw_iload_n 1 dX11_goesBy_71 rfl rfl ?_
    refine sw_callVi (As := [.int x1]) (k := 163) rfl dX11_goesBy_72 t_1470 mf_X11_bearOf h0.1 q_cl11 (by decide) (Nat.le_of_ble_eq_true rfl) (fun l => c_X11_bearOf l x1 u h0) (fun r u_6 => ?_)
    refine sw_iadd dX11_goesBy_75 ?_
    refine sw_iconst (0 : Int32) dX11_goesBy_76 (by decide) ?_
    refine sw_bipush (99 : Int32) dX11_goesBy_77 (by decide) ?_
    refine sw_callVi (As := [.int (a_5 + r), .int (0 : Int32), .int (99 : Int32)]) (k := 163) rfl dX11_goesBy_79 t_1250 mf_X11_held h0.1 q_cl11 (by decide) (Nat.le_of_ble_eq_true rfl) (fun l => c_X11_held l (a_5 + r) (0 : Int32) (99 : Int32) u_6 h0) (fun r_7 u_8 => ?_)
    refine sw_iast dX11_goesBy_82 h0.2.1 (fun u_9 => ?_)
    refine sw_iinc (lv' := [(1, .int (x1 + (1 : Int32))), (0, .ref (b + 163))]) 1 dX11_goesBy_83 rfl (congrArg (x1 + ·) (by decide)) (by decide) rfl ?_
    refine sw_goto 42 dX11_goesBy_86 (by decide) ?_
    exact SW.sub [1, 0] rfl (ih (x1 + (1 : Int32)) u_9)
set_option maxRecDepth 100000 in
theorem w_X11_goesBy_L134 {ι : qI} {b : Nat}  (h0 : is_X11 ι) (x1 : Int32) {K189 : qS → qR} (hK189 : ∀  (u : qS), SW RX11 cX11_goesBy 3 (some .int) 10 ι b 189 [(1, .int x1)] [] u (K189  u)) (fu : Nat) (x2 : Int32) (u : qS) : SW RX11 cX11_goesBy 3 (some .int) 10 ι b 134 [(0, .ref (b + 163)), (1, .int x1), (2, .int x2)] [] u (q_it1 (m_X11_goesBy_L134 x1 K189) fu x2 u) := by
  refine SW.it1 (fun x2 => [(0, .ref (b + 163)), (1, .int x1), (2, .int x2)]) (fun self ih x2 u => ?_) fu x2 u
  unfold m_X11_goesBy_L134
  refine sw_iload_n 2 dX11_goesBy_134 rfl rfl ?_
  refine sw_aload_n 0 dX11_goesBy_135 rfl rfl ?_
  refine sw_getr q_cl11 1 (r := 164) dX11_goesBy_136 t_1046 (by decide) h0.1 rfl ?_
  refine sw_iconst (4 : Int32) dX11_goesBy_139 (by decide) ?_
  refine sw_iald dX11_goesBy_140 h0.2.1 (fun a => ?_)
  refine sw_icmp_ge 189 dX11_goesBy_141 (by decide) ?_ ?_
  · exact SW.sub [1] rfl (hK189  u)
  · refine sw_aload_n 0 dX11_goesBy_144 rfl rfl ?_
    refine sw_getr q_cl11 1 (r := 164) dX11_goesBy_145 t_1046 (by decide) h0.1 rfl ?_
    refine sw_iconst (0 : Int32) dX11_goesBy_148 (by decide) ?_
    refine sw_iald dX11_goesBy_149 h0.2.1 (fun a_19 => ?_)
    refine sw_bipush (52 : Int32) dX11_goesBy_150 (by decide) ?_
    refine sw_qrmc dX11_goesBy_152 (by decide) ?_
    refine sw_if_ne 189 dX11_goesBy_153 (by decide) ?_ ?_
    · refine sw_aload_n 0 dX11_goesBy_156 rfl rfl ?_
      refine sw_getr q_cl11 1 (r := 164) dX11_goesBy_157 t_1046 (by decide) h0.1 rfl ?_
      refine sw_bipush (48 : Int32) dX11_goesBy_160 (by decide) ?_
      refine sw_iload_n 2 dX11_goesBy_162 rfl rfl ?_
      refine sw_iadd dX11_goesBy_163 ?_
      refine sw_aload_n 0 dX11_goesBy_164 rfl rfl ?_
      refine sw_aload_n 0 dX11_goesBy_165 rfl rfl ?_
      refine sw_getr q_cl11 1 (r := 164) dX11_goesBy_166 t_1046 (by decide) h0.1 rfl ?_
      refine sw_bipush (48 : Int32) dX11_goesBy_169 (by decide) ?_
      refine sw_iload_n 2 dX11_goesBy_171 rfl rfl ?_
      refine sw_iadd dX11_goesBy_172 ?_
      refine sw_iald dX11_goesBy_173 h0.2.1 (fun a_20 => ?_)
      refine sw_iconst (1 : Int32) dX11_goesBy_174 (by decide) ?_
      refine sw_iadd dX11_goesBy_175 ?_
      refine sw_iconst (0 : Int32) dX11_goesBy_176 (by decide) ?_
      refine sw_bipush (99 : Int32) dX11_goesBy_177 (by decide) ?_
      refine sw_callVi (As := [.int (a_20 + (1 : Int32)), .int (0 : Int32), .int (99 : Int32)]) (k := 163) rfl dX11_goesBy_179 t_1250 mf_X11_held h0.1 q_cl11 (by decide) (Nat.le_of_ble_eq_true rfl) (fun l => c_X11_held l (a_20 + (1 : Int32)) (0 : Int32) (99 : Int32) u h0) (fun r u_21 => ?_)
      refine sw_iast dX11_goesBy_182 h0.2.1 (fun u_22 => ?_)
      refine sw_iinc (lv' := [(2, .int (x2 + (1 : Int32))), (0, .ref (b + 163)), (1, .int x1)]) 2 dX11_goesBy_183 rfl (congrArg (x2 + ·) (by decide)) (by decide) rfl ?_
      refine sw_goto 134 dX11_goesBy_186 (by decide) ?_
      exact SW.sub [1, 2, 0] rfl (ih (x2 + (1 : Int32)) u_22)
    · exact SW.sub [1] rfl (hK189  u)
set_option maxRecDepth 100000 in
theorem c_X11_goesBy (l : Launch) {ι : qI} {b : Nat}   (u : qS) (h0 : is_X11 ι) : CN l yX11_goesBy cX11_goesBy 3 (some .int) 10 ι b [.ref (b + 163)] u (m_X11_goesBy  u) := by
  refine CN.of_SW (own := RX11) rfl (by decide) (Nat.le_of_ble_eq_true rfl) [(0, .ref (b + 163))] rfl ?_
  unfold m_X11_goesBy
  refine sw_iconst (0 : Int32) dX11_goesBy_0 (by decide) ?_
  refine sw_istore_n (lv' := [(1, .int (0 : Int32)), (0, .ref (b + 163))]) dX11_goesBy_1 rfl (by decide) rfl ?_
  refine SW.sub (lv' := [(0, .ref (b + 163)), (1, .int (0 : Int32))]) [1, 0] rfl ?_
  refine w_X11_goesBy_L2 h0 (fun u_4 => ?_) q_F (0 : Int32) u
  refine sw_iconst (0 : Int32) dX11_goesBy_40 (by decide) ?_
  refine sw_istore_n (lv' := [(1, .int (0 : Int32)), (0, .ref (b + 163))]) dX11_goesBy_41 rfl (by decide) rfl ?_
  refine SW.sub (lv' := [(0, .ref (b + 163)), (1, .int (0 : Int32))]) [1, 0] rfl ?_
  refine w_X11_goesBy_L42 h0 (fun u_10 => ?_) q_F (0 : Int32) u_4
  refine sw_aload_n 0 dX11_goesBy_89 rfl rfl ?_
  refine sw_callVi (As := []) (k := 163) rfl dX11_goesBy_90 t_1494 mf_X11_eats h0.1 q_cl11 (by decide) (Nat.le_of_ble_eq_true rfl) (fun l => c_X11_eats l  u_10 h0) (fun r u_11 => ?_)
  refine sw_istore_n (lv' := [(1, .int r), (0, .ref (b + 163))]) dX11_goesBy_93 rfl (by decide) rfl ?_
  refine sw_aload_n 1 dX11_goesBy_94 rfl rfl ?_
  refine sw_callVv (As := []) (k := 163) rfl dX11_goesBy_95 t_1540 mf_X11_stings h0.1 q_cl11 (by decide) (Nat.le_of_ble_eq_true rfl) (fun l => c_X11_stings l  u_11 h0) (fun _ u_12 => ?_)
  refine sw_aload_n 1 dX11_goesBy_98 rfl rfl ?_
  refine sw_getr q_cl11 1 (r := 164) dX11_goesBy_99 t_1046 (by decide) h0.1 rfl ?_
  refine sw_iconst (0 : Int32) dX11_goesBy_102 (by decide) ?_
  refine sw_iald dX11_goesBy_103 h0.2.1 (fun a => ?_)
  refine sw_iconst (1 : Int32) dX11_goesBy_104 (by decide) ?_
  refine sw_iadd dX11_goesBy_105 ?_
  refine sw_aload_n 1 dX11_goesBy_106 rfl rfl ?_
  refine sw_callVi (As := []) (k := 163) rfl dX11_goesBy_107 t_1544 mf_X11_every h0.1 q_cl11 (by decide) (Nat.le_of_ble_eq_true rfl) (fun l => c_X11_every l  u_12 h0) (fun r_13 u_14 => ?_)
  refine sw_irem dX11_goesBy_110 (fun a_15 => ?_)
  refine SW.jn0 118 ([(0, .ref (b + 163)), (1, .int r)]) ([]) (fun  u_16 => ?_) (fun J118 hJ118 => ?_)
  · refine sw_aload_n 0 dX11_goesBy_118 rfl rfl ?_
    refine sw_getr q_cl11 1 (r := 164) dX11_goesBy_119 t_1046 (by decide) h0.1 rfl ?_
    refine sw_iconst (0 : Int32) dX11_goesBy_122 (by decide) ?_
    refine sw_aload_n 0 dX11_goesBy_123 rfl rfl ?_
    refine sw_getr q_cl11 1 (r := 164) dX11_goesBy_124 t_1046 (by decide) h0.1 rfl ?_
    refine sw_iconst (0 : Int32) dX11_goesBy_127 (by decide) ?_
    refine sw_iald dX11_goesBy_128 h0.2.1 (fun a_17 => ?_)
    refine sw_iconst (1 : Int32) dX11_goesBy_129 (by decide) ?_
    refine sw_iadd dX11_goesBy_130 ?_
    refine sw_iast dX11_goesBy_131 h0.2.1 (fun u_18 => ?_)
    refine sw_iconst (0 : Int32) dX11_goesBy_132 (by decide) ?_
    refine sw_istore_n (lv' := [(2, .int (0 : Int32)), (0, .ref (b + 163)), (1, .int r)]) dX11_goesBy_133 rfl (by decide) rfl ?_
    refine SW.sub (lv' := [(0, .ref (b + 163)), (1, .int r), (2, .int (0 : Int32))]) [1, 2, 0] rfl ?_
    refine w_X11_goesBy_L134 h0 r (fun u_23 => ?_) q_F (0 : Int32) u_18
    refine sw_iload_n 0 dX11_goesBy_189 rfl rfl ?_
    exact sw_iret dX11_goesBy_190
  · refine sw_if_ne 118 dX11_goesBy_111 (by decide) ?_ ?_
    · refine sw_aload_n 1 dX11_goesBy_114 rfl rfl ?_
      refine sw_callVv (As := []) (k := 163) rfl dX11_goesBy_115 t_1548 mf_X11_elects h0.1 q_cl11 (by decide) (Nat.le_of_ble_eq_true rfl) (fun l => c_X11_elects l  u_14 h0) (fun _ u_24 => ?_)
      exact SW.sub [1, 0] rfl (hJ118  u_24)
    · exact SW.sub [1, 0] rfl (hJ118  u_14)
set_option maxRecDepth 100000 in
theorem w_X11_goesFor_L2 {ι : qI} {b : Nat}  (h0 : is_X11 ι) (x1 : Int32) {K18 : qS → qR} (hK18 : ∀  (u : qS), SW RX11 cX11_goesFor 3 none 11 ι b 18 [] [] u (K18  u)) (fu : Nat) (x2 : Int32) (u : qS) : SW RX11 cX11_goesFor 3 none 11 ι b 2 [(0, .ref (b + 163)), (1, .int x1), (2, .int x2)] [] u (q_it1 (m_X11_goesFor_L2 x1 K18) fu x2 u) := by
  refine SW.it1 (fun x2 => [(0, .ref (b + 163)), (1, .int x1), (2, .int x2)]) (fun self ih x2 u => ?_) fu x2 u
  unfold m_X11_goesFor_L2
  refine sw_iload_n 2 dX11_goesFor_2 rfl rfl ?_
  refine sw_iload_n 1 dX11_goesFor_3 rfl rfl ?_
  refine sw_icmp_ge 18 dX11_goesFor_4 (by decide) ?_ ?_
  · exact SW.sub [] rfl (hK18  u)
  · refine sw_aload_n 0 dX11_goesFor_7 rfl rfl ?_
    refine sw_callVi (As := []) (k := 163) rfl dX11_goesFor_8 t_1462 mf_X11_goesBy h0.1 q_cl11 (by decide) (Nat.le_of_ble_eq_true rfl) (fun l => c_X11_goesBy l  u h0) (fun r u_1 => ?_)
    refine sw_pop dX11_goesFor_11 rfl ?_
    refine sw_iinc (lv' := [(2, .int (x2 + (1 : Int32))), (0, .ref (b + 163)), (1, .int x1)]) 2 dX11_goesFor_12 rfl (congrArg (x2 + ·) (by decide)) (by decide) rfl ?_
    refine sw_goto 2 dX11_goesFor_15 (by decide) ?_
    exact SW.sub [1, 2, 0] rfl (ih (x2 + (1 : Int32)) u_1)
set_option maxRecDepth 100000 in
theorem c_X11_goesFor (l : Launch) {ι : qI} {b : Nat}  (x1 : Int32) (u : qS) (h0 : is_X11 ι) : CN l yX11_goesFor cX11_goesFor 3 none 11 ι b [.ref (b + 163), .int x1] u (m_X11_goesFor x1 u) := by
  refine CN.of_SW (own := RX11) rfl (by decide) (Nat.le_of_ble_eq_true rfl) [(0, .ref (b + 163)), (1, .int x1)] rfl ?_
  unfold m_X11_goesFor
  refine sw_iconst (0 : Int32) dX11_goesFor_0 (by decide) ?_
  refine sw_istore_n (lv' := [(2, .int (0 : Int32)), (0, .ref (b + 163)), (1, .int x1)]) dX11_goesFor_1 rfl (by decide) rfl ?_
  refine SW.sub (lv' := [(0, .ref (b + 163)), (1, .int x1), (2, .int (0 : Int32))]) [1, 2, 0] rfl ?_
  refine w_X11_goesFor_L2 h0 x1 (fun u_2 => ?_) q_F (0 : Int32) u
  exact sw_vret dX11_goesFor_18
set_option maxRecDepth 100000 in
theorem w_X11_weeks_L36 {ι : qI} {b : Nat}  (h0 : is_X11 ι) (x1 : Int32) {K58 : Int32 → qS → qR} (hK58 : ∀ (e2 : Int32) (u : qS), SW RX11 cX11_weeks 4 (some .int) 11 ι b 58 [(2, .int e2)] [] u (K58 e2 u)) (fu : Nat) (x2 : Int32) (x3 : Int32) (u : qS) : SW RX11 cX11_weeks 4 (some .int) 11 ι b 36 [(0, .ref (b + 163)), (1, .int x1), (2, .int x2), (3, .int x3)] [] u (q_it2 (m_X11_weeks_L36 x1 K58) fu x2 x3 u) := by
  refine SW.it2 (fun x2 x3 => [(0, .ref (b + 163)), (1, .int x1), (2, .int x2), (3, .int x3)]) (fun self ih x2 x3 u => ?_) fu x2 x3 u
  unfold m_X11_weeks_L36
  refine sw_iload_n 3 dX11_weeks_36 rfl rfl ?_
  refine sw_iload_n 1 dX11_weeks_37 rfl rfl ?_
  refine sw_icmp_ge 58 dX11_weeks_38 (by decide) ?_ ?_
  · exact SW.sub [2] rfl (hK58 x2 u)
  · refine sw_aload_n 0 dX11_weeks_41 rfl rfl ?_
    refine sw_callVv (As := []) (k := 163) rfl dX11_weeks_42 t_1418 mf_X11_keepsAhead h0.1 q_cl11 (by decide) (Nat.le_of_ble_eq_true rfl) (fun l => c_X11_keepsAhead l  u h0) (fun _ u_3 => ?_)
    refine sw_iload_n 2 dX11_weeks_45 rfl rfl ?_
    refine sw_aload_n 0 dX11_weeks_46 rfl rfl ?_
    refine sw_callVi (As := []) (k := 163) rfl dX11_weeks_47 t_1462 mf_X11_goesBy h0.1 q_cl11 (by decide) (Nat.le_of_ble_eq_true rfl) (fun l => c_X11_goesBy l  u_3 h0) (fun r u_4 => ?_)
    refine sw_iadd dX11_weeks_50 ?_
    refine SW.name (fun y2 => ?_)
    refine sw_istore_n (lv' := [(2, .int y2), (0, .ref (b + 163)), (1, .int x1), (3, .int x3)]) dX11_weeks_51 rfl (by decide) rfl ?_
    refine sw_iinc (lv' := [(3, .int (x3 + (1 : Int32))), (2, .int y2), (0, .ref (b + 163)), (1, .int x1)]) 3 dX11_weeks_52 rfl (congrArg (x3 + ·) (by decide)) (by decide) rfl ?_
    refine sw_goto 36 dX11_weeks_55 (by decide) ?_
    exact SW.sub [2, 3, 1, 0] rfl (ih y2 (x3 + (1 : Int32)) u_4)
set_option maxRecDepth 100000 in
theorem c_X11_weeks (l : Launch) {ι : qI} {b : Nat}  (x1 : Int32) (u : qS) (h0 : is_X11 ι) : CN l yX11_weeks cX11_weeks 4 (some .int) 11 ι b [.ref (b + 163), .int x1] u (m_X11_weeks x1 u) := by
  refine CN.of_SW (own := RX11) rfl (by decide) (Nat.le_of_ble_eq_true rfl) [(0, .ref (b + 163)), (1, .int x1)] rfl ?_
  unfold m_X11_weeks
  refine sw_aload_n 0 dX11_weeks_0 rfl rfl ?_
  refine sw_iconst (0 : Int32) dX11_weeks_1 (by decide) ?_
  refine sw_puti q_cl11 0 dX11_weeks_2 t_1045 (by decide) (by decide +kernel) rfl h0.1 rfl (fun u_1 => ?_)
  refine sw_aload_n 0 dX11_weeks_5 rfl rfl ?_
  refine sw_iload_n 1 dX11_weeks_6 rfl rfl ?_
  refine sw_iconst (1 : Int32) dX11_weeks_7 (by decide) ?_
  refine sw_bipush (60 : Int32) dX11_weeks_8 (by decide) ?_
  refine sw_callVi (As := [.int x1, .int (1 : Int32), .int (60 : Int32)]) (k := 163) rfl dX11_weeks_10 t_1226 mf_X11_isIn h0.1 q_cl11 (by decide) (Nat.le_of_ble_eq_true rfl) (fun l => c_X11_isIn l x1 (1 : Int32) (60 : Int32) u_1 h0) (fun r u_2 => ?_)
  refine sw_if_eq 30 dX11_weeks_13 (by decide) ?_ ?_
  · refine sw_iconst (-1 : Int32) dX11_weeks_30 (by decide) ?_
    exact sw_iret dX11_weeks_31
  · refine sw_aload_n 0 dX11_weeks_16 rfl rfl ?_
    refine sw_getr q_cl11 1 (r := 164) dX11_weeks_17 t_1046 (by decide) h0.1 rfl ?_
    refine sw_iconst (0 : Int32) dX11_weeks_20 (by decide) ?_
    refine sw_iald dX11_weeks_21 h0.2.1 (fun a => ?_)
    refine sw_iload_n 1 dX11_weeks_22 rfl rfl ?_
    refine sw_iadd dX11_weeks_23 ?_
    refine sw_sipush (9999 : Int32) dX11_weeks_24 (by decide) ?_
    refine sw_icmp_le 32 dX11_weeks_27 (by decide) ?_ ?_
    · refine sw_iconst (0 : Int32) dX11_weeks_32 (by decide) ?_
      refine sw_istore_n (lv' := [(2, .int (0 : Int32)), (0, .ref (b + 163)), (1, .int x1)]) dX11_weeks_33 rfl (by decide) rfl ?_
      refine sw_iconst (0 : Int32) dX11_weeks_34 (by decide) ?_
      refine sw_istore_n (lv' := [(3, .int (0 : Int32)), (2, .int (0 : Int32)), (0, .ref (b + 163)), (1, .int x1)]) dX11_weeks_35 rfl (by decide) rfl ?_
      refine SW.sub (lv' := [(0, .ref (b + 163)), (1, .int x1), (2, .int (0 : Int32)), (3, .int (0 : Int32))]) [2, 3, 1, 0] rfl ?_
      refine w_X11_weeks_L36 h0 x1 (fun x2 u_5 => ?_) q_F (0 : Int32) (0 : Int32) u_2
      refine sw_iload_n 0 dX11_weeks_58 rfl rfl ?_
      exact sw_iret dX11_weeks_59
    · refine sw_iconst (-1 : Int32) dX11_weeks_30 (by decide) ?_
      exact sw_iret dX11_weeks_31
set_option maxRecDepth 100000 in
theorem w_X11_of_L63 {ι : qI} {b : Nat}  (h0 : is_X11 ι) (x1 : Int32) {K107 : Int32 → qS → qR} (hK107 : ∀ (e3 : Int32) (u : qS), SW RX11 cX11_of 5 (some .int) 2 ι b 107 [(3, .int e3)] [] u (K107 e3 u)) (fu : Nat) (x3 : Int32) (x4 : Int32) (u : qS) : SW RX11 cX11_of 5 (some .int) 2 ι b 63 [(0, .ref (b + 163)), (1, .int x1), (3, .int x3), (4, .int x4)] [] u (q_it2 (m_X11_of_L63 x1 K107) fu x3 x4 u) := by
  refine SW.it2 (fun x3 x4 => [(0, .ref (b + 163)), (1, .int x1), (3, .int x3), (4, .int x4)]) (fun self ih x3 x4 u => ?_) fu x3 x4 u
  unfold m_X11_of_L63
  refine sw_iload 3 dX11_of_63 rfl ?_
  refine sw_aload_n 0 dX11_of_65 rfl rfl ?_
  refine sw_getr q_cl11 1 (r := 164) dX11_of_66 t_1046 (by decide) h0.1 rfl ?_
  refine sw_iconst (4 : Int32) dX11_of_69 (by decide) ?_
  refine sw_iald dX11_of_70 h0.2.1 (fun a => ?_)
  refine sw_icmp_ge 107 dX11_of_71 (by decide) ?_ ?_
  · exact SW.sub [2] rfl (hK107 x3 u)
  · refine sw_aload_n 0 dX11_of_74 rfl rfl ?_
    refine sw_getr q_cl11 1 (r := 164) dX11_of_75 t_1046 (by decide) h0.1 rfl ?_
    refine sw_bipush (20 : Int32) dX11_of_78 (by decide) ?_
    refine sw_iload 3 dX11_of_80 rfl ?_
    refine sw_iadd dX11_of_82 ?_
    refine sw_iald dX11_of_83 h0.2.1 (fun a_5 => ?_)
    refine sw_iload_n 1 dX11_of_84 rfl rfl ?_
    refine SW.jn1 101 (fun x3_6 => [(0, .ref (b + 163)), (1, .int x1), (3, .int x3_6), (4, .int x4)]) (fun x3_6 => []) (fun x3_6 u_7 => ?_) (fun J101 hJ101 => ?_)
    · refine sw_iinc (lv' := [(4, .int (x4 + (1 : Int32))), (0, .ref (b + 163)), (1, .int x1), (3, .int x3_6)]) 3 dX11_of_101 rfl (congrArg (x4 + ·) (by decide)) (by decide) rfl ?_
      refine sw_goto 63 dX11_of_104 (by decide) ?_
      exact SW.sub [1, 2, 3, 0] rfl (ih x3_6 (x4 + (1 : Int32)) u_7)
    · refine sw_icmp_ne 101 dX11_of_85 (by decide) ?_ ?_
      · refine sw_iload_n 2 dX11_of_88 rfl rfl ?_
        refine sw_aload_n 0 dX11_of_89 rfl rfl ?_
        refine sw_getr q_cl11 1 (r := 164) dX11_of_90 t_1046 (by decide) h0.1 rfl ?_
        refine sw_bipush (62 : Int32) dX11_of_93 (by decide) ?_
        refine sw_iload 3 dX11_of_95 rfl ?_
        refine sw_iadd dX11_of_97 ?_
        refine sw_iald dX11_of_98 h0.2.1 (fun a_8 => ?_)
        refine sw_iadd dX11_of_99 ?_
        refine SW.name (fun y3 => ?_)
        refine sw_istore_n (lv' := [(3, .int y3), (0, .ref (b + 163)), (1, .int x1), (4, .int x4)]) dX11_of_100 rfl (by decide) rfl ?_
        exact SW.sub [1, 2, 0, 3] rfl (hJ101 y3 u)
      · exact SW.sub [0, 1, 2, 3] rfl (hJ101 x3 u)
set_option maxRecDepth 100000 in
theorem c_X11_of (l : Launch) {ι : qI} {b : Nat}  (x1 : Int32) (x2 : Int32) (u : qS) (h0 : is_X11 ι) : CN l yX11_of cX11_of 5 (some .int) 2 ι b [.ref (b + 163), .int x1, .int x2] u (m_X11_of x1 x2 u) := by
  refine CN.of_SW (own := RX11) rfl (by decide) (Nat.le_of_ble_eq_true rfl) [(0, .ref (b + 163)), (1, .int x1), (2, .int x2)] rfl ?_
  unfold m_X11_of
  refine sw_aload_n 0 dX11_of_0 rfl rfl ?_
  refine sw_iconst (0 : Int32) dX11_of_1 (by decide) ?_
  refine sw_puti q_cl11 0 dX11_of_2 t_1045 (by decide) (by decide +kernel) rfl h0.1 rfl (fun u_1 => ?_)
  refine sw_aload_n 0 dX11_of_5 rfl rfl ?_
  refine sw_iload_n 1 dX11_of_6 rfl rfl ?_
  refine sw_callVi (As := [.int x1]) (k := 163) rfl dX11_of_7 t_1242 mf_X11_isParty h0.1 q_cl11 (by decide) (Nat.le_of_ble_eq_true rfl) (fun l => c_X11_isParty l x1 u_1 h0) (fun r u_2 => ?_)
  refine sw_if_eq 23 dX11_of_10 (by decide) ?_ ?_
  · refine sw_iconst (-1 : Int32) dX11_of_23 (by decide) ?_
    exact sw_iret dX11_of_24
  · refine sw_aload_n 0 dX11_of_13 rfl rfl ?_
    refine sw_iload_n 2 dX11_of_14 rfl rfl ?_
    refine sw_iconst (0 : Int32) dX11_of_15 (by decide) ?_
    refine sw_iconst (3 : Int32) dX11_of_16 (by decide) ?_
    refine sw_callVi (As := [.int x2, .int (0 : Int32), .int (3 : Int32)]) (k := 163) rfl dX11_of_17 t_1226 mf_X11_isIn h0.1 q_cl11 (by decide) (Nat.le_of_ble_eq_true rfl) (fun l => c_X11_isIn l x2 (0 : Int32) (3 : Int32) u_2 h0) (fun r_3 u_4 => ?_)
    refine sw_if_ne 25 dX11_of_20 (by decide) ?_ ?_
    · refine sw_iconst (-1 : Int32) dX11_of_23 (by decide) ?_
      exact sw_iret dX11_of_24
    · refine sw_iload_n 2 dX11_of_25 rfl rfl ?_
      refine sw_iconst (3 : Int32) dX11_of_26 (by decide) ?_
      refine sw_icmp_ge 58 dX11_of_27 (by decide) ?_ ?_
      · refine sw_iconst (0 : Int32) dX11_of_58 (by decide) ?_
        refine sw_istore_n (lv' := [(3, .int (0 : Int32)), (0, .ref (b + 163)), (1, .int x1), (2, .int x2)]) dX11_of_59 rfl (by decide) rfl ?_
        refine sw_iconst (0 : Int32) dX11_of_60 (by decide) ?_
        refine sw_istore (lv' := [(4, .int (0 : Int32)), (3, .int (0 : Int32)), (0, .ref (b + 163)), (1, .int x1), (2, .int x2)]) dX11_of_61 (by decide) rfl ?_
        refine SW.sub (lv' := [(0, .ref (b + 163)), (1, .int x1), (3, .int (0 : Int32)), (4, .int (0 : Int32))]) [2, 3, 1, 0] rfl ?_
        refine w_X11_of_L63 h0 x1 (fun x3 u_9 => ?_) q_F (0 : Int32) (0 : Int32) u_4
        refine sw_iload_n 0 dX11_of_107 rfl rfl ?_
        exact sw_iret dX11_of_108
      · refine sw_aload_n 0 dX11_of_30 rfl rfl ?_
        refine sw_getr q_cl11 1 (r := 164) dX11_of_31 t_1046 (by decide) h0.1 rfl ?_
        refine sw_iload_n 1 dX11_of_34 rfl rfl ?_
        refine sw_iload_n 2 dX11_of_35 rfl rfl ?_
        refine SW.jn1 55 (fun s0 => []) (fun s0 => [.int s0, .int x1, .ref (b + 164)]) (fun s0 u_10 => ?_) (fun J55 hJ55 => ?_)
        · refine sw_iadd dX11_of_55 ?_
          refine sw_iald dX11_of_56 h0.2.1 (fun a => ?_)
          exact sw_iret dX11_of_57
        · refine sw_if_ne 44 dX11_of_36 (by decide) ?_ ?_
          · refine sw_bipush (15 : Int32) dX11_of_39 (by decide) ?_
            refine sw_goto 55 dX11_of_41 (by decide) ?_
            exact SW.sub [] rfl (hJ55 (15 : Int32) u_4)
          · refine sw_iload_n 2 dX11_of_44 rfl rfl ?_
            refine sw_iconst (1 : Int32) dX11_of_45 (by decide) ?_
            refine sw_icmp_ne 53 dX11_of_46 (by decide) ?_ ?_
            · refine sw_iconst (5 : Int32) dX11_of_49 (by decide) ?_
              refine sw_goto 55 dX11_of_50 (by decide) ?_
              exact SW.sub [] rfl (hJ55 (5 : Int32) u_4)
            · refine sw_bipush (10 : Int32) dX11_of_53 (by decide) ?_
              exact SW.sub [] rfl (hJ55 (10 : Int32) u_4)
set_option maxRecDepth 100000 in
theorem c_X11_tree (l : Launch) {ι : qI} {b : Nat}  (x1 : Int32) (x2 : Int32) (u : qS) (h0 : is_X11 ι) : CN l yX11_tree cX11_tree 3 (some .int) 6 ι b [.ref (b + 163), .int x1, .int x2] u (m_X11_tree x1 x2 u) := by
  refine CN.of_SW (own := RX11) rfl (by decide) (Nat.le_of_ble_eq_true rfl) [(0, .ref (b + 163)), (1, .int x1), (2, .int x2)] rfl ?_
  unfold m_X11_tree
  refine sw_aload_n 0 dX11_tree_0 rfl rfl ?_
  refine sw_iconst (0 : Int32) dX11_tree_1 (by decide) ?_
  refine sw_puti q_cl11 0 dX11_tree_2 t_1045 (by decide) (by decide +kernel) rfl h0.1 rfl (fun u_1 => ?_)
  refine sw_aload_n 0 dX11_tree_5 rfl rfl ?_
  refine sw_iload_n 1 dX11_tree_6 rfl rfl ?_
  refine sw_callVi (As := [.int x1]) (k := 163) rfl dX11_tree_7 t_1262 mf_X11_isTree h0.1 q_cl11 (by decide) (Nat.le_of_ble_eq_true rfl) (fun l => c_X11_isTree l x1 u_1 h0) (fun r u_2 => ?_)
  refine sw_if_eq 23 dX11_tree_10 (by decide) ?_ ?_
  · refine sw_iconst (-1 : Int32) dX11_tree_23 (by decide) ?_
    exact sw_iret dX11_tree_24
  · refine sw_aload_n 0 dX11_tree_13 rfl rfl ?_
    refine sw_iload_n 2 dX11_tree_14 rfl rfl ?_
    refine sw_iconst (0 : Int32) dX11_tree_15 (by decide) ?_
    refine sw_iconst (4 : Int32) dX11_tree_16 (by decide) ?_
    refine sw_callVi (As := [.int x2, .int (0 : Int32), .int (4 : Int32)]) (k := 163) rfl dX11_tree_17 t_1226 mf_X11_isIn h0.1 q_cl11 (by decide) (Nat.le_of_ble_eq_true rfl) (fun l => c_X11_isIn l x2 (0 : Int32) (4 : Int32) u_2 h0) (fun r_3 u_4 => ?_)
    refine sw_if_ne 25 dX11_tree_20 (by decide) ?_ ?_
    · refine sw_iconst (-1 : Int32) dX11_tree_23 (by decide) ?_
      exact sw_iret dX11_tree_24
    · refine sw_iload_n 2 dX11_tree_25 rfl rfl ?_
      refine sw_iconst (4 : Int32) dX11_tree_26 (by decide) ?_
      refine sw_icmp_ne 38 dX11_tree_27 (by decide) ?_ ?_
      · refine sw_aload_n 0 dX11_tree_30 rfl rfl ?_
        refine sw_iload_n 1 dX11_tree_31 rfl rfl ?_
        refine sw_callVi (As := [.int x1]) (k := 163) rfl dX11_tree_32 t_1470 mf_X11_bearOf h0.1 q_cl11 (by decide) (Nat.le_of_ble_eq_true rfl) (fun l => c_X11_bearOf l x1 u_4 h0) (fun r_5 u_6 => ?_)
        refine sw_goto 52 dX11_tree_35 (by decide) ?_
        exact sw_iret dX11_tree_52
      · refine sw_aload_n 0 dX11_tree_38 rfl rfl ?_
        refine sw_getr q_cl11 1 (r := 164) dX11_tree_39 t_1046 (by decide) h0.1 rfl ?_
        refine sw_bipush (20 : Int32) dX11_tree_42 (by decide) ?_
        refine sw_bipush (14 : Int32) dX11_tree_44 (by decide) ?_
        refine sw_iload_n 2 dX11_tree_46 rfl rfl ?_
        refine sw_imul dX11_tree_47 ?_
        refine sw_iadd dX11_tree_48 ?_
        refine sw_iload_n 1 dX11_tree_49 rfl rfl ?_
        refine sw_iadd dX11_tree_50 ?_
        refine sw_iald dX11_tree_51 h0.2.1 (fun a => ?_)
        exact sw_iret dX11_tree_52
set_option maxRecDepth 100000 in
theorem c_X11_who (l : Launch) {ι : qI} {b : Nat}  (x1 : Int32) (x2 : Int32) (u : qS) (h0 : is_X11 ι) : CN l yX11_who cX11_who 4 (some .int) 6 ι b [.ref (b + 163), .int x1, .int x2] u (m_X11_who x1 x2 u) := by
  refine CN.of_SW (own := RX11) rfl (by decide) (Nat.le_of_ble_eq_true rfl) [(0, .ref (b + 163)), (1, .int x1), (2, .int x2)] rfl ?_
  unfold m_X11_who
  refine sw_aload_n 0 dX11_who_0 rfl rfl ?_
  refine sw_iconst (0 : Int32) dX11_who_1 (by decide) ?_
  refine sw_puti q_cl11 0 dX11_who_2 t_1045 (by decide) (by decide +kernel) rfl h0.1 rfl (fun u_1 => ?_)
  refine sw_aload_n 0 dX11_who_5 rfl rfl ?_
  refine sw_iload_n 1 dX11_who_6 rfl rfl ?_
  refine sw_callVi (As := [.int x1]) (k := 163) rfl dX11_who_7 t_1238 mf_X11_isEater h0.1 q_cl11 (by decide) (Nat.le_of_ble_eq_true rfl) (fun l => c_X11_isEater l x1 u_1 h0) (fun r u_2 => ?_)
  refine sw_if_ne 15 dX11_who_10 (by decide) ?_ ?_
  · refine sw_iconst (-1 : Int32) dX11_who_13 (by decide) ?_
    exact sw_iret dX11_who_14
  · refine sw_aload_n 0 dX11_who_15 rfl rfl ?_
    refine sw_getr q_cl11 37 (r := 178) dX11_who_16 t_1082 (by decide) h0.1 rfl ?_
    refine sw_bipush (9 : Int32) dX11_who_19 (by decide) ?_
    refine sw_iload_n 1 dX11_who_21 rfl rfl ?_
    refine sw_imul dX11_who_22 ?_
    refine sw_iald dX11_who_23 h0.2.2.2.2.2.2.2.2.2.2.2.2.2.2.2.1 (fun a => ?_)
    refine sw_istore_n (lv' := [(3, .int a), (0, .ref (b + 163)), (1, .int x1), (2, .int x2)]) dX11_who_24 rfl (by decide) rfl ?_
    refine sw_iload_n 3 dX11_who_25 rfl rfl ?_
    refine sw_if_ne 39 dX11_who_26 (by decide) ?_ ?_
    · refine sw_aload_n 1 dX11_who_29 rfl rfl ?_
      refine sw_getr q_cl11 1 (r := 164) dX11_who_30 t_1046 (by decide) h0.1 rfl ?_
      refine sw_bipush (76 : Int32) dX11_who_33 (by decide) ?_
      refine sw_iload_n 2 dX11_who_35 rfl rfl ?_
      refine sw_iadd dX11_who_36 ?_
      refine sw_iald dX11_who_37 h0.2.1 (fun a_12 => ?_)
      exact sw_iret dX11_who_38
    · refine sw_iload_n 3 dX11_who_39 rfl rfl ?_
      refine sw_iconst (1 : Int32) dX11_who_40 (by decide) ?_
      refine sw_icmp_ne 50 dX11_who_41 (by decide) ?_ ?_
      · refine sw_aload_n 1 dX11_who_44 rfl rfl ?_
        refine sw_iload_n 2 dX11_who_45 rfl rfl ?_
        refine sw_callVi (As := [.int x1]) (k := 163) rfl dX11_who_46 t_1502 mf_X11_wantOf h0.1 q_cl11 (by decide) (Nat.le_of_ble_eq_true rfl) (fun l => c_X11_wantOf l x1 u_2 h0) (fun r_10 u_11 => ?_)
        exact sw_iret dX11_who_49
      · refine sw_iload_n 3 dX11_who_50 rfl rfl ?_
        refine sw_iconst (2 : Int32) dX11_who_51 (by decide) ?_
        refine sw_icmp_ne 57 dX11_who_52 (by decide) ?_ ?_
        · refine sw_iload_n 0 dX11_who_55 rfl rfl ?_
          exact sw_iret dX11_who_56
        · refine sw_aload_n 1 dX11_who_57 rfl rfl ?_
          refine sw_iload_n 3 dX11_who_58 rfl rfl ?_
          refine sw_bipush (10 : Int32) dX11_who_59 (by decide) ?_
          refine sw_bipush (9 : Int32) dX11_who_61 (by decide) ?_
          refine sw_iload_n 0 dX11_who_63 rfl rfl ?_
          refine sw_iadd dX11_who_64 ?_
          refine sw_callVi (As := [.int x2, .int (10 : Int32), .int ((9 : Int32) + a)]) (k := 163) rfl dX11_who_65 t_1226 mf_X11_isIn h0.1 q_cl11 (by decide) (Nat.le_of_ble_eq_true rfl) (fun l => c_X11_isIn l x2 (10 : Int32) ((9 : Int32) + a) u_2 h0) (fun r_3 u_4 => ?_)
          refine sw_if_eq 86 dX11_who_68 (by decide) ?_ ?_
          · refine sw_aload_n 1 dX11_who_86 rfl rfl ?_
            refine sw_iload_n 3 dX11_who_87 rfl rfl ?_
            refine sw_bipush (20 : Int32) dX11_who_88 (by decide) ?_
            refine sw_bipush (19 : Int32) dX11_who_90 (by decide) ?_
            refine sw_aload_n 1 dX11_who_92 rfl rfl ?_
            refine sw_geti q_cl11 6 dX11_who_93 t_1051 (by decide) h0.1 rfl ?_
            refine sw_iadd dX11_who_96 ?_
            refine sw_callVi (As := [.int x2, .int (20 : Int32), .int ((19 : Int32) + (u_4.1 163 6))]) (k := 163) rfl dX11_who_97 t_1226 mf_X11_isIn h0.1 q_cl11 (by decide) (Nat.le_of_ble_eq_true rfl) (fun l => c_X11_isIn l x2 (20 : Int32) ((19 : Int32) + (u_4.1 163 6)) u_4 h0) (fun r_5 u_6 => ?_)
            refine sw_if_eq 115 dX11_who_100 (by decide) ?_ ?_
            · refine sw_iconst (-1 : Int32) dX11_who_115 (by decide) ?_
              exact sw_iret dX11_who_116
            · refine sw_aload_n 1 dX11_who_103 rfl rfl ?_
              refine sw_iload_n 2 dX11_who_104 rfl rfl ?_
              refine sw_iload_n 3 dX11_who_105 rfl rfl ?_
              refine sw_bipush (20 : Int32) dX11_who_106 (by decide) ?_
              refine sw_isub dX11_who_108 ?_
              refine sw_callVi (As := [.int x1, .int (x2 - (20 : Int32))]) (k := 163) rfl dX11_who_109 t_1514 mf_X11_tasteOf h0.1 q_cl11 (by decide) (Nat.le_of_ble_eq_true rfl) (fun l => c_X11_tasteOf l x1 (x2 - (20 : Int32)) u_6 h0) (fun r_7 u_8 => ?_)
              refine sw_goto 116 dX11_who_112 (by decide) ?_
              exact sw_iret dX11_who_116
          · refine sw_aload_n 1 dX11_who_71 rfl rfl ?_
            refine sw_getr q_cl11 37 (r := 178) dX11_who_72 t_1082 (by decide) h0.1 rfl ?_
            refine sw_bipush (9 : Int32) dX11_who_75 (by decide) ?_
            refine sw_iload_n 2 dX11_who_77 rfl rfl ?_
            refine sw_imul dX11_who_78 ?_
            refine sw_iload_n 3 dX11_who_79 rfl rfl ?_
            refine sw_iadd dX11_who_80 ?_
            refine sw_bipush (9 : Int32) dX11_who_81 (by decide) ?_
            refine sw_isub dX11_who_83 ?_
            refine sw_iald dX11_who_84 h0.2.2.2.2.2.2.2.2.2.2.2.2.2.2.2.1 (fun a_9 => ?_)
            exact sw_iret dX11_who_85
set_option maxRecDepth 100000 in
theorem c_X11_at (l : Launch) {ι : qI} {b : Nat}  (x1 : Int32) (u : qS) (h0 : is_X11 ι) : CN l yX11_at cX11_at 2 (some .int) 3 ι b [.ref (b + 163), .int x1] u (m_X11_at x1 u) := by
  refine CN.of_SW (own := RX11) rfl (by decide) (Nat.le_of_ble_eq_true rfl) [(0, .ref (b + 163)), (1, .int x1)] rfl ?_
  unfold m_X11_at
  refine sw_aload_n 0 dX11_at_0 rfl rfl ?_
  refine sw_iconst (0 : Int32) dX11_at_1 (by decide) ?_
  refine sw_puti q_cl11 0 dX11_at_2 t_1045 (by decide) (by decide +kernel) rfl h0.1 rfl (fun u_1 => ?_)
  refine sw_aload_n 0 dX11_at_5 rfl rfl ?_
  refine sw_iload_n 1 dX11_at_6 rfl rfl ?_
  refine sw_callVi (As := [.int x1]) (k := 163) rfl dX11_at_7 t_1414 mf_X11_isPlace h0.1 q_cl11 (by decide) (Nat.le_of_ble_eq_true rfl) (fun l => c_X11_isPlace l x1 u_1 h0) (fun r u_2 => ?_)
  refine sw_if_eq 29 dX11_at_10 (by decide) ?_ ?_
  · refine sw_iconst (-1 : Int32) dX11_at_29 (by decide) ?_
    exact sw_iret dX11_at_30
  · refine sw_aload_n 0 dX11_at_13 rfl rfl ?_
    refine sw_iload_n 1 dX11_at_14 rfl rfl ?_
    refine sw_callVi (As := [.int x1]) (k := 163) rfl dX11_at_15 t_1434 mf_X11_isFenced h0.1 q_cl11 (by decide) (Nat.le_of_ble_eq_true rfl) (fun l => c_X11_isFenced l x1 u_2 h0) (fun r_3 u_4 => ?_)
    refine sw_if_eq 25 dX11_at_18 (by decide) ?_ ?_
    · refine sw_iconst (0 : Int32) dX11_at_25 (by decide) ?_
      refine sw_goto 30 dX11_at_26 (by decide) ?_
      exact sw_iret dX11_at_30
    · refine sw_iconst (1 : Int32) dX11_at_21 (by decide) ?_
      refine sw_goto 30 dX11_at_22 (by decide) ?_
      exact sw_iret dX11_at_30
set_option maxRecDepth 100000 in
theorem c_X11_book (l : Launch) {ι : qI} {b : Nat}  (x1 : Int32) (x2 : Int32) (u : qS) (h0 : is_X11 ι) : CN l yX11_book cX11_book 3 (some .int) 2 ι b [.ref (b + 163), .int x1, .int x2] u (m_X11_book x1 x2 u) := by
  refine CN.of_SW (own := RX11) rfl (by decide) (Nat.le_of_ble_eq_true rfl) [(0, .ref (b + 163)), (1, .int x1), (2, .int x2)] rfl ?_
  unfold m_X11_book
  refine sw_aload_n 0 dX11_book_0 rfl rfl ?_
  refine sw_iconst (0 : Int32) dX11_book_1 (by decide) ?_
  refine sw_puti q_cl11 0 dX11_book_2 t_1045 (by decide) (by decide +kernel) rfl h0.1 rfl (fun u_1 => ?_)
  refine sw_aload_n 0 dX11_book_5 rfl rfl ?_
  refine sw_iload_n 1 dX11_book_6 rfl rfl ?_
  refine sw_iconst (0 : Int32) dX11_book_7 (by decide) ?_
  refine sw_aload_n 0 dX11_book_8 rfl rfl ?_
  refine sw_getr q_cl11 1 (r := 164) dX11_book_9 t_1046 (by decide) h0.1 rfl ?_
  refine sw_iconst (2 : Int32) dX11_book_12 (by decide) ?_
  refine sw_iald dX11_book_13 h0.2.1 (fun a => ?_)
  refine sw_iconst (1 : Int32) dX11_book_14 (by decide) ?_
  refine sw_isub dX11_book_15 ?_
  refine sw_callVi (As := [.int x1, .int (0 : Int32), .int (a - (1 : Int32))]) (k := 163) rfl dX11_book_16 t_1226 mf_X11_isIn h0.1 q_cl11 (by decide) (Nat.le_of_ble_eq_true rfl) (fun l => c_X11_isIn l x1 (0 : Int32) (a - (1 : Int32)) u_1 h0) (fun r u_2 => ?_)
  refine sw_if_eq 45 dX11_book_19 (by decide) ?_ ?_
  · refine sw_iconst (-1 : Int32) dX11_book_45 (by decide) ?_
    exact sw_iret dX11_book_46
  · refine sw_aload_n 0 dX11_book_22 rfl rfl ?_
    refine sw_iload_n 2 dX11_book_23 rfl rfl ?_
    refine sw_iconst (0 : Int32) dX11_book_24 (by decide) ?_
    refine sw_iconst (3 : Int32) dX11_book_25 (by decide) ?_
    refine sw_callVi (As := [.int x2, .int (0 : Int32), .int (3 : Int32)]) (k := 163) rfl dX11_book_26 t_1226 mf_X11_isIn h0.1 q_cl11 (by decide) (Nat.le_of_ble_eq_true rfl) (fun l => c_X11_isIn l x2 (0 : Int32) (3 : Int32) u_2 h0) (fun r_3 u_4 => ?_)
    refine sw_if_eq 45 dX11_book_29 (by decide) ?_ ?_
    · refine sw_iconst (-1 : Int32) dX11_book_45 (by decide) ?_
      exact sw_iret dX11_book_46
    · refine sw_aload_n 0 dX11_book_32 rfl rfl ?_
      refine sw_getr q_cl11 12 (r := 167) dX11_book_33 t_1057 (by decide) h0.1 rfl ?_
      refine sw_iconst (4 : Int32) dX11_book_36 (by decide) ?_
      refine sw_iload_n 1 dX11_book_37 rfl rfl ?_
      refine sw_imul dX11_book_38 ?_
      refine sw_iload_n 2 dX11_book_39 rfl rfl ?_
      refine sw_iadd dX11_book_40 ?_
      refine sw_iald dX11_book_41 h0.2.2.2.2.1 (fun a_5 => ?_)
      refine sw_goto 46 dX11_book_42 (by decide) ?_
      exact sw_iret dX11_book_46
set_option maxRecDepth 100000 in
theorem c_X11_goes (l : Launch) {ι : qI} {b : Nat}  (x1 : Int32) (x2 : Int32) (x3 : Int32) (u : qS) (h0 : is_X11 ι) : CN l yX11_goes cX11_goes 5 (some .int) 12 ι b [.ref (b + 163), .int x1, .int x2, .int x3] u (m_X11_goes x1 x2 x3 u) := by
  refine CN.of_SW (own := RX11) rfl (by decide) (Nat.le_of_ble_eq_true rfl) [(0, .ref (b + 163)), (1, .int x1), (2, .int x2), (3, .int x3)] rfl ?_
  unfold m_X11_goes
  refine sw_aload_n 0 dX11_goes_0 rfl rfl ?_
  refine sw_iconst (0 : Int32) dX11_goes_1 (by decide) ?_
  refine sw_puti q_cl11 0 dX11_goes_2 t_1045 (by decide) (by decide +kernel) rfl h0.1 rfl (fun u_1 => ?_)
  refine sw_aload_n 0 dX11_goes_5 rfl rfl ?_
  refine sw_iload_n 1 dX11_goes_6 rfl rfl ?_
  refine sw_iconst (1 : Int32) dX11_goes_7 (by decide) ?_
  refine sw_bipush (60 : Int32) dX11_goes_8 (by decide) ?_
  refine sw_callVi (As := [.int x1, .int (1 : Int32), .int (60 : Int32)]) (k := 163) rfl dX11_goes_10 t_1226 mf_X11_isIn h0.1 q_cl11 (by decide) (Nat.le_of_ble_eq_true rfl) (fun l => c_X11_isIn l x1 (1 : Int32) (60 : Int32) u_1 h0) (fun r u_2 => ?_)
  refine sw_if_eq 39 dX11_goes_13 (by decide) ?_ ?_
  · refine sw_bipush (-2 : Int32) dX11_goes_39 (by decide) ?_
    exact sw_iret dX11_goes_41
  · refine sw_aload_n 0 dX11_goes_16 rfl rfl ?_
    refine sw_iload_n 3 dX11_goes_17 rfl rfl ?_
    refine sw_iconst (0 : Int32) dX11_goes_18 (by decide) ?_
    refine sw_iconst (3 : Int32) dX11_goes_19 (by decide) ?_
    refine sw_callVi (As := [.int x3, .int (0 : Int32), .int (3 : Int32)]) (k := 163) rfl dX11_goes_20 t_1226 mf_X11_isIn h0.1 q_cl11 (by decide) (Nat.le_of_ble_eq_true rfl) (fun l => c_X11_isIn l x3 (0 : Int32) (3 : Int32) u_2 h0) (fun r_3 u_4 => ?_)
    refine sw_if_eq 39 dX11_goes_23 (by decide) ?_ ?_
    · refine sw_bipush (-2 : Int32) dX11_goes_39 (by decide) ?_
      exact sw_iret dX11_goes_41
    · refine sw_iload_n 3 dX11_goes_26 rfl rfl ?_
      refine sw_iconst (2 : Int32) dX11_goes_27 (by decide) ?_
      refine SW.jn0 42 ([(0, .ref (b + 163)), (1, .int x1), (2, .int x2), (3, .int x3)]) ([]) (fun  u_5 => ?_) (fun J42 hJ42 => ?_)
      · refine sw_aload_n 0 dX11_goes_42 rfl rfl ?_
        refine sw_callVv (As := []) (k := 163) rfl dX11_goes_43 t_1596 mf_X11_thinks h0.1 q_cl11 (by decide) (Nat.le_of_ble_eq_true rfl) (fun l => c_X11_thinks l  u_5 h0) (fun _ u_6 => ?_)
        refine sw_aload_n 0 dX11_goes_46 rfl rfl ?_
        refine sw_iload_n 1 dX11_goes_47 rfl rfl ?_
        refine sw_callVv (As := [.int x1]) (k := 163) rfl dX11_goes_48 t_1600 mf_X11_goesFor h0.1 q_cl11 (by decide) (Nat.le_of_ble_eq_true rfl) (fun l => c_X11_goesFor l x1 u_6 h0) (fun _ u_7 => ?_)
        refine sw_iload_n 3 dX11_goes_51 rfl rfl ?_
        refine SW.jn1 99 (fun s0 => [(0, .ref (b + 163))]) (fun s0 => [.int s0]) (fun s0 u_8 => ?_) (fun J99 hJ99 => ?_)
        · refine sw_istore (lv' := [(4, .int s0), (0, .ref (b + 163))]) dX11_goes_99 (by decide) rfl ?_
          refine sw_aload_n 1 dX11_goes_101 rfl rfl ?_
          refine sw_callVv (As := []) (k := 163) rfl dX11_goes_102 t_1604 mf_X11_endsThought h0.1 q_cl11 (by decide) (Nat.le_of_ble_eq_true rfl) (fun l => c_X11_endsThought l  u_8 h0) (fun _ u_9 => ?_)
          refine sw_iload 0 dX11_goes_105 rfl ?_
          exact sw_iret dX11_goes_107
        · refine sw_if_ne 67 dX11_goes_52 (by decide) ?_ ?_
          · refine sw_aload_n 0 dX11_goes_55 rfl rfl ?_
            refine sw_getr q_cl11 1 (r := 164) dX11_goes_56 t_1046 (by decide) h0.1 rfl ?_
            refine sw_bipush (10 : Int32) dX11_goes_59 (by decide) ?_
            refine sw_iload_n 2 dX11_goes_61 rfl rfl ?_
            refine sw_iadd dX11_goes_62 ?_
            refine sw_iald dX11_goes_63 h0.2.1 (fun a_10 => ?_)
            refine sw_goto 99 dX11_goes_64 (by decide) ?_
            exact SW.sub [0] rfl (hJ99 a_10 u_7)
          · refine sw_iload_n 3 dX11_goes_67 rfl rfl ?_
            refine sw_iconst (1 : Int32) dX11_goes_68 (by decide) ?_
            refine sw_icmp_ne 83 dX11_goes_69 (by decide) ?_ ?_
            · refine sw_aload_n 0 dX11_goes_72 rfl rfl ?_
              refine sw_getr q_cl11 1 (r := 164) dX11_goes_73 t_1046 (by decide) h0.1 rfl ?_
              refine sw_iconst (5 : Int32) dX11_goes_76 (by decide) ?_
              refine sw_iload_n 2 dX11_goes_77 rfl rfl ?_
              refine sw_iadd dX11_goes_78 ?_
              refine sw_iald dX11_goes_79 h0.2.1 (fun a => ?_)
              refine sw_goto 99 dX11_goes_80 (by decide) ?_
              exact SW.sub [0] rfl (hJ99 a u_7)
            · refine sw_iload_n 3 dX11_goes_83 rfl rfl ?_
              refine sw_iconst (2 : Int32) dX11_goes_84 (by decide) ?_
              refine sw_icmp_ne 95 dX11_goes_85 (by decide) ?_ ?_
              · refine sw_aload_n 0 dX11_goes_88 rfl rfl ?_
                refine sw_geti q_cl11 44 dX11_goes_89 t_1089 (by decide) h0.1 rfl ?_
                refine sw_goto 99 dX11_goes_92 (by decide) ?_
                exact SW.sub [0] rfl (hJ99 (u_7.1 163 44) u_7)
              · refine sw_aload_n 0 dX11_goes_95 rfl rfl ?_
                refine sw_geti q_cl11 45 dX11_goes_96 t_1090 (by decide) h0.1 rfl ?_
                exact SW.sub [0] rfl (hJ99 (u_7.1 163 45) u_7)
      · refine sw_icmp_ge 42 dX11_goes_28 (by decide) ?_ ?_
        · exact SW.sub [0, 1, 2, 3] rfl (hJ42  u_4)
        · refine sw_aload_n 0 dX11_goes_31 rfl rfl ?_
          refine sw_iload_n 2 dX11_goes_32 rfl rfl ?_
          refine sw_callVi (As := [.int x2]) (k := 163) rfl dX11_goes_33 t_1242 mf_X11_isParty h0.1 q_cl11 (by decide) (Nat.le_of_ble_eq_true rfl) (fun l => c_X11_isParty l x2 u_4 h0) (fun r_11 u_12 => ?_)
          refine sw_if_ne 42 dX11_goes_36 (by decide) ?_ ?_
          · refine sw_bipush (-2 : Int32) dX11_goes_39 (by decide) ?_
            exact sw_iret dX11_goes_41
          · exact SW.sub [0, 1, 2, 3] rfl (hJ42  u_12)
set_option maxRecDepth 100000 in
theorem c_X11_falls (l : Launch) {ι : qI} {b : Nat}  (x1 : Int32) (u : qS) (h0 : is_X11 ι) : CN l yX11_falls cX11_falls 2 (some .int) 3 ι b [.ref (b + 163), .int x1] u (m_X11_falls x1 u) := by
  refine CN.of_SW (own := RX11) rfl (by decide) (Nat.le_of_ble_eq_true rfl) [(0, .ref (b + 163)), (1, .int x1)] rfl ?_
  unfold m_X11_falls
  refine sw_aload_n 0 dX11_falls_0 rfl rfl ?_
  refine sw_iconst (0 : Int32) dX11_falls_1 (by decide) ?_
  refine sw_puti q_cl11 0 dX11_falls_2 t_1045 (by decide) (by decide +kernel) rfl h0.1 rfl (fun u_1 => ?_)
  refine sw_aload_n 0 dX11_falls_5 rfl rfl ?_
  refine sw_iload_n 1 dX11_falls_6 rfl rfl ?_
  refine sw_callVi (As := [.int x1]) (k := 163) rfl dX11_falls_7 t_1242 mf_X11_isParty h0.1 q_cl11 (by decide) (Nat.le_of_ble_eq_true rfl) (fun l => c_X11_isParty l x1 u_1 h0) (fun r u_2 => ?_)
  refine sw_if_ne 15 dX11_falls_10 (by decide) ?_ ?_
  · refine sw_iconst (-1 : Int32) dX11_falls_13 (by decide) ?_
    exact sw_iret dX11_falls_14
  · refine sw_aload_n 0 dX11_falls_15 rfl rfl ?_
    refine sw_callVv (As := []) (k := 163) rfl dX11_falls_16 t_1552 mf_X11_findsGiven h0.1 q_cl11 (by decide) (Nat.le_of_ble_eq_true rfl) (fun l => c_X11_findsGiven l  u_2 h0) (fun _ u_3 => ?_)
    refine sw_aload_n 0 dX11_falls_19 rfl rfl ?_
    refine sw_getr q_cl11 46 (r := 182) dX11_falls_20 t_1091 (by decide) h0.1 rfl ?_
    refine sw_iload_n 1 dX11_falls_23 rfl rfl ?_
    refine sw_iald dX11_falls_24 h0.2.2.2.2.2.2.2.2.2.2.2.2.2.2.2.2.2.2.2.1 (fun a => ?_)
    exact sw_iret dX11_falls_25
set_option maxRecDepth 100000 in
theorem w_X11_brings_L65 {ι : qI} {b : Nat}  (h0 : is_X11 ι) (x1 : Int32) (x2 : Int32) (x3 : Int32) {K132 : Int32 → Int32 → qS → qR} (hK132 : ∀ (e4 : Int32) (e5 : Int32) (u : qS), SW RX11 cX11_brings 7 (some .int) 12 ι b 132 [(0, .ref (b + 163)), (3, .int x3), (4, .int e4), (5, .int e5)] [] u (K132 e4 e5 u)) (fu : Nat) (x4 : Int32) (x5 : Int32) (x6 : Int32) (u : qS) : SW RX11 cX11_brings 7 (some .int) 12 ι b 65 [(0, .ref (b + 163)), (1, .int x1), (2, .int x2), (3, .int x3), (4, .int x4), (5, .int x5), (6, .int x6)] [] u (q_it3 (m_X11_brings_L65 x1 x2 x3 K132) fu x4 x5 x6 u) := by
  refine SW.it3 (fun x4 x5 x6 => [(0, .ref (b + 163)), (1, .int x1), (2, .int x2), (3, .int x3), (4, .int x4), (5, .int x5), (6, .int x6)]) (fun self ih x4 x5 x6 u => ?_) fu x4 x5 x6 u
  unfold m_X11_brings_L65
  refine sw_iload 6 dX11_brings_65 rfl ?_
  refine sw_bipush (10 : Int32) dX11_brings_67 (by decide) ?_
  refine sw_icmp_ge 132 dX11_brings_69 (by decide) ?_ ?_
  · exact SW.sub [0, 3, 4, 5] rfl (hK132 x4 x5 u)
  · refine sw_aload_n 0 dX11_brings_72 rfl rfl ?_
    refine sw_callVv (As := []) (k := 163) rfl dX11_brings_73 t_1608 mf_X11_thinksAnew h0.1 q_cl11 (by decide) (Nat.le_of_ble_eq_true rfl) (fun l => c_X11_thinksAnew l  u h0) (fun _ u_9 => ?_)
    refine sw_aload_n 0 dX11_brings_76 rfl rfl ?_
    refine sw_iconst (0 : Int32) dX11_brings_77 (by decide) ?_
    refine sw_puti q_cl11 42 dX11_brings_78 t_1087 (by decide) (by decide +kernel) rfl h0.1 rfl (fun u_10 => ?_)
    refine sw_aload_n 0 dX11_brings_81 rfl rfl ?_
    refine sw_iload_n 1 dX11_brings_82 rfl rfl ?_
    refine sw_iload 6 dX11_brings_83 rfl ?_
    refine sw_bipush (10 : Int32) dX11_brings_85 (by decide) ?_
    refine sw_callVi (As := [.int x1, .int x6, .int (10 : Int32)]) (k := 163) rfl dX11_brings_87 t_1422 mf_X11_plants h0.1 q_cl11 (by decide) (Nat.le_of_ble_eq_true rfl) (fun l => c_X11_plants l x1 x6 (10 : Int32) u_10 h0) (fun r u_11 => ?_)
    refine sw_pop dX11_brings_90 rfl ?_
    refine sw_aload_n 0 dX11_brings_91 rfl rfl ?_
    refine sw_iload_n 2 dX11_brings_92 rfl rfl ?_
    refine sw_callVv (As := [.int x2]) (k := 163) rfl dX11_brings_93 t_1600 mf_X11_goesFor h0.1 q_cl11 (by decide) (Nat.le_of_ble_eq_true rfl) (fun l => c_X11_goesFor l x2 u_11 h0) (fun _ u_12 => ?_)
    refine sw_aload_n 0 dX11_brings_96 rfl rfl ?_
    refine sw_geti q_cl11 42 dX11_brings_97 t_1087 (by decide) h0.1 rfl ?_
    refine sw_iload 5 dX11_brings_100 rfl ?_
    refine SW.jn1 112 (fun s0 => [(0, .ref (b + 163)), (1, .int x1), (2, .int x2), (3, .int x3), (5, .int x5), (6, .int x6)]) (fun s0 => [.int s0]) (fun s0 u_13 => ?_) (fun J112 hJ112 => ?_)
    · refine sw_istore (lv' := [(4, .int s0), (0, .ref (b + 163)), (1, .int x1), (2, .int x2), (3, .int x3), (5, .int x5), (6, .int x6)]) dX11_brings_112 (by decide) rfl ?_
      refine sw_aload_n 1 dX11_brings_114 rfl rfl ?_
      refine sw_iload 5 dX11_brings_115 rfl ?_
      refine sw_aload_n 1 dX11_brings_117 rfl rfl ?_
      refine sw_geti q_cl11 42 dX11_brings_118 t_1087 (by decide) h0.1 rfl ?_
      refine sw_callVi (As := [.int x5, .int (u_13.1 163 42)]) (k := 163) rfl dX11_brings_121 t_1620 mf_X11_greater h0.1 q_cl11 (by decide) (Nat.le_of_ble_eq_true rfl) (fun l => c_X11_greater l x5 (u_13.1 163 42) u_13 h0) (fun r_14 u_15 => ?_)
      refine sw_istore (lv' := [(5, .int r_14), (4, .int s0), (0, .ref (b + 163)), (1, .int x1), (2, .int x2), (3, .int x3), (6, .int x6)]) dX11_brings_124 (by decide) rfl ?_
      refine sw_iinc (lv' := [(6, .int (x6 + (1 : Int32))), (5, .int r_14), (4, .int s0), (0, .ref (b + 163)), (1, .int x1), (2, .int x2), (3, .int x3)]) 6 dX11_brings_126 rfl (congrArg (x6 + ·) (by decide)) (by decide) rfl ?_
      refine sw_goto 65 dX11_brings_129 (by decide) ?_
      exact SW.sub [3, 4, 5, 6, 2, 1, 0] rfl (ih s0 r_14 (x6 + (1 : Int32)) u_15)
    · refine sw_icmp_le 110 dX11_brings_102 (by decide) ?_ ?_
      · refine sw_iload 4 dX11_brings_110 rfl ?_
        exact SW.sub [0, 1, 2, 3, 5, 6] rfl (hJ112 x4 u_12)
      · refine sw_iload 6 dX11_brings_105 rfl ?_
        refine sw_goto 112 dX11_brings_107 (by decide) ?_
        exact SW.sub [0, 1, 2, 3, 5, 6] rfl (hJ112 x6 u_12)
set_option maxRecDepth 100000 in
theorem c_X11_brings (l : Launch) {ι : qI} {b : Nat}  (x1 : Int32) (x2 : Int32) (x3 : Int32) (u : qS) (h0 : is_X11 ι) : CN l yX11_brings cX11_brings 7 (some .int) 12 ι b [.ref (b + 163), .int x1, .int x2, .int x3] u (m_X11_brings x1 x2 x3 u) := by
  refine CN.of_SW (own := RX11) rfl (by decide) (Nat.le_of_ble_eq_true rfl) [(0, .ref (b + 163)), (1, .int x1), (2, .int x2), (3, .int x3)] rfl ?_
  unfold m_X11_brings
  refine sw_aload_n 0 dX11_brings_0 rfl rfl ?_
  refine sw_iconst (0 : Int32) dX11_brings_1 (by decide) ?_
  refine sw_puti q_cl11 0 dX11_brings_2 t_1045 (by decide) (by decide +kernel) rfl h0.1 rfl (fun u_1 => ?_)
  refine sw_aload_n 0 dX11_brings_5 rfl rfl ?_
  refine sw_iload_n 1 dX11_brings_6 rfl rfl ?_
  refine sw_callVi (As := [.int x1]) (k := 163) rfl dX11_brings_7 t_1242 mf_X11_isParty h0.1 q_cl11 (by decide) (Nat.le_of_ble_eq_true rfl) (fun l => c_X11_isParty l x1 u_1 h0) (fun r u_2 => ?_)
  refine sw_if_eq 45 dX11_brings_10 (by decide) ?_ ?_
  · refine sw_iconst (-1 : Int32) dX11_brings_45 (by decide) ?_
    exact sw_iret dX11_brings_46
  · refine sw_aload_n 0 dX11_brings_13 rfl rfl ?_
    refine sw_iload_n 2 dX11_brings_14 rfl rfl ?_
    refine sw_iconst (1 : Int32) dX11_brings_15 (by decide) ?_
    refine sw_bipush (20 : Int32) dX11_brings_16 (by decide) ?_
    refine sw_callVi (As := [.int x2, .int (1 : Int32), .int (20 : Int32)]) (k := 163) rfl dX11_brings_18 t_1226 mf_X11_isIn h0.1 q_cl11 (by decide) (Nat.le_of_ble_eq_true rfl) (fun l => c_X11_isIn l x2 (1 : Int32) (20 : Int32) u_2 h0) (fun r_3 u_4 => ?_)
    refine sw_if_eq 45 dX11_brings_21 (by decide) ?_ ?_
    · refine sw_iconst (-1 : Int32) dX11_brings_45 (by decide) ?_
      exact sw_iret dX11_brings_46
    · refine sw_aload_n 0 dX11_brings_24 rfl rfl ?_
      refine sw_iload_n 3 dX11_brings_25 rfl rfl ?_
      refine sw_iconst (0 : Int32) dX11_brings_26 (by decide) ?_
      refine sw_iconst (1 : Int32) dX11_brings_27 (by decide) ?_
      refine sw_callVi (As := [.int x3, .int (0 : Int32), .int (1 : Int32)]) (k := 163) rfl dX11_brings_28 t_1226 mf_X11_isIn h0.1 q_cl11 (by decide) (Nat.le_of_ble_eq_true rfl) (fun l => c_X11_isIn l x3 (0 : Int32) (1 : Int32) u_4 h0) (fun r_5 u_6 => ?_)
      refine sw_if_eq 45 dX11_brings_31 (by decide) ?_ ?_
      · refine sw_iconst (-1 : Int32) dX11_brings_45 (by decide) ?_
        exact sw_iret dX11_brings_46
      · refine sw_aload_n 0 dX11_brings_34 rfl rfl ?_
        refine sw_getr q_cl11 1 (r := 164) dX11_brings_35 t_1046 (by decide) h0.1 rfl ?_
        refine sw_iconst (4 : Int32) dX11_brings_38 (by decide) ?_
        refine sw_iald dX11_brings_39 h0.2.1 (fun a => ?_)
        refine sw_bipush (14 : Int32) dX11_brings_40 (by decide) ?_
        refine sw_icmp_ne 47 dX11_brings_42 (by decide) ?_ ?_
        · refine sw_iconst (-1 : Int32) dX11_brings_45 (by decide) ?_
          exact sw_iret dX11_brings_46
        · refine sw_iconst (-1 : Int32) dX11_brings_47 (by decide) ?_
          refine sw_istore (lv' := [(4, .int (-1 : Int32)), (0, .ref (b + 163)), (1, .int x1), (2, .int x2), (3, .int x3)]) dX11_brings_48 (by decide) rfl ?_
          refine sw_iconst (-1 : Int32) dX11_brings_50 (by decide) ?_
          refine sw_istore (lv' := [(5, .int (-1 : Int32)), (4, .int (-1 : Int32)), (0, .ref (b + 163)), (1, .int x1), (2, .int x2), (3, .int x3)]) dX11_brings_51 (by decide) rfl ?_
          refine sw_aload_n 2 dX11_brings_53 rfl rfl ?_
          refine sw_callVv (As := []) (k := 163) rfl dX11_brings_54 t_1596 mf_X11_thinks h0.1 q_cl11 (by decide) (Nat.le_of_ble_eq_true rfl) (fun l => c_X11_thinks l  u_6 h0) (fun _ u_7 => ?_)
          refine sw_aload_n 2 dX11_brings_57 rfl rfl ?_
          refine sw_iload_n 3 dX11_brings_58 rfl rfl ?_
          refine sw_puti q_cl11 43 dX11_brings_59 t_1088 (by decide) (by decide +kernel) rfl h0.1 rfl (fun u_8 => ?_)
          refine sw_iconst (0 : Int32) dX11_brings_62 (by decide) ?_
          refine sw_istore (lv' := [(6, .int (0 : Int32)), (5, .int (-1 : Int32)), (4, .int (-1 : Int32)), (0, .ref (b + 163)), (1, .int x1), (2, .int x2), (3, .int x3)]) dX11_brings_63 (by decide) rfl ?_
          refine SW.sub (lv' := [(0, .ref (b + 163)), (1, .int x1), (2, .int x2), (3, .int x3), (4, .int (-1 : Int32)), (5, .int (-1 : Int32)), (6, .int (0 : Int32))]) [3, 4, 5, 6, 2, 1, 0] rfl ?_
          refine w_X11_brings_L65 h0 x1 x2 x3 (fun x4 x5 u_16 => ?_) q_F (-1 : Int32) (-1 : Int32) (0 : Int32) u_8
          refine sw_aload_n 0 dX11_brings_132 rfl rfl ?_
          refine sw_callVv (As := []) (k := 163) rfl dX11_brings_133 t_1604 mf_X11_endsThought h0.1 q_cl11 (by decide) (Nat.le_of_ble_eq_true rfl) (fun l => c_X11_endsThought l  u_16 h0) (fun _ u_17 => ?_)
          refine sw_iload_n 1 dX11_brings_136 rfl rfl ?_
          refine sw_if_ne 145 dX11_brings_137 (by decide) ?_ ?_
          · refine sw_iload 2 dX11_brings_140 rfl ?_
            refine sw_goto 147 dX11_brings_142 (by decide) ?_
            exact sw_iret dX11_brings_147
          · refine sw_iload 3 dX11_brings_145 rfl ?_
            exact sw_iret dX11_brings_147
set_option maxRecDepth 100000 in
theorem c_X11_strongestBehind (l : Launch) {ι : qI} {b : Nat}  (x1 : Int32) (x2 : Int32) (x3 : Int32) (u : qS) (h0 : is_X11 ι) : CN l yX11_strongestBehind cX11_strongestBehind 4 (some .int) 12 ι b [.ref (b + 163), .int x1, .int x2, .int x3] u (m_X11_strongestBehind x1 x2 x3 u) := by
  refine CN.of_SW (own := RX11) rfl (by decide) (Nat.le_of_ble_eq_true rfl) [(0, .ref (b + 163)), (1, .int x1), (2, .int x2), (3, .int x3)] rfl ?_
  unfold m_X11_strongestBehind
  refine sw_aload_n 0 dX11_strongestBehind_0 rfl rfl ?_
  refine sw_callVv (As := []) (k := 163) rfl dX11_strongestBehind_1 t_1608 mf_X11_thinksAnew h0.1 q_cl11 (by decide) (Nat.le_of_ble_eq_true rfl) (fun l => c_X11_thinksAnew l  u h0) (fun _ u_1 => ?_)
  refine sw_aload_n 0 dX11_strongestBehind_4 rfl rfl ?_
  refine sw_getr q_cl11 1 (r := 164) dX11_strongestBehind_5 t_1046 (by decide) h0.1 rfl ?_
  refine sw_bipush (62 : Int32) dX11_strongestBehind_8 (by decide) ?_
  refine sw_iload_n 1 dX11_strongestBehind_10 rfl rfl ?_
  refine sw_iadd dX11_strongestBehind_11 ?_
  refine sw_aload_n 0 dX11_strongestBehind_12 rfl rfl ?_
  refine sw_getr q_cl11 1 (r := 164) dX11_strongestBehind_13 t_1046 (by decide) h0.1 rfl ?_
  refine sw_bipush (62 : Int32) dX11_strongestBehind_16 (by decide) ?_
  refine sw_iload_n 1 dX11_strongestBehind_18 rfl rfl ?_
  refine sw_iadd dX11_strongestBehind_19 ?_
  refine sw_iald dX11_strongestBehind_20 h0.2.1 (fun a => ?_)
  refine sw_iload_n 2 dX11_strongestBehind_21 rfl rfl ?_
  refine sw_isub dX11_strongestBehind_22 ?_
  refine sw_iast dX11_strongestBehind_23 h0.2.1 (fun u_2 => ?_)
  refine sw_aload_n 0 dX11_strongestBehind_24 rfl rfl ?_
  refine sw_iload_n 3 dX11_strongestBehind_25 rfl rfl ?_
  refine sw_callVv (As := [.int x3]) (k := 163) rfl dX11_strongestBehind_26 t_1600 mf_X11_goesFor h0.1 q_cl11 (by decide) (Nat.le_of_ble_eq_true rfl) (fun l => c_X11_goesFor l x3 u_2 h0) (fun _ u_3 => ?_)
  refine sw_aload_n 0 dX11_strongestBehind_29 rfl rfl ?_
  refine sw_callVi (As := []) (k := 163) rfl dX11_strongestBehind_30 t_1568 mf_X11_strongest h0.1 q_cl11 (by decide) (Nat.le_of_ble_eq_true rfl) (fun l => c_X11_strongest l  u_3 h0) (fun r u_4 => ?_)
  exact sw_iret dX11_strongestBehind_33
set_option maxRecDepth 100000 in
theorem w_X11_swings_L55 {ι : qI} {b : Nat}  (h0 : is_X11 ι) (x1 : Int32) (x2 : Int32) (x3 : Int32) (x5 : Int32) {K90 : Int32 → qS → qR} (hK90 : ∀ (e4 : Int32) (u : qS), SW RX11 cX11_swings 7 (some .int) 13 ι b 90 [(0, .ref (b + 163)), (4, .int e4)] [] u (K90 e4 u)) (fu : Nat) (x4 : Int32) (x6 : Int32) (u : qS) : SW RX11 cX11_swings 7 (some .int) 13 ι b 55 [(0, .ref (b + 163)), (1, .int x1), (2, .int x2), (3, .int x3), (4, .int x4), (5, .int x5), (6, .int x6)] [] u (q_it2 (m_X11_swings_L55 x1 x2 x3 x5 K90) fu x4 x6 u) := by
  refine SW.it2 (fun x4 x6 => [(0, .ref (b + 163)), (1, .int x1), (2, .int x2), (3, .int x3), (4, .int x4), (5, .int x5), (6, .int x6)]) (fun self ih x4 x6 u => ?_) fu x4 x6 u
  unfold m_X11_swings_L55
  refine sw_iload 6 dX11_swings_55 rfl ?_
  refine sw_iload_n 3 dX11_swings_57 rfl rfl ?_
  refine sw_icmp_gt 90 dX11_swings_58 (by decide) ?_ ?_
  · exact SW.sub [0, 4] rfl (hK90 x4 u)
  · refine sw_iload 4 dX11_swings_61 rfl ?_
    refine sw_iconst (-1 : Int32) dX11_swings_63 (by decide) ?_
    refine sw_icmp_ne 90 dX11_swings_64 (by decide) ?_ ?_
    · refine sw_aload_n 0 dX11_swings_67 rfl rfl ?_
      refine sw_iload_n 1 dX11_swings_68 rfl rfl ?_
      refine sw_iload 6 dX11_swings_69 rfl ?_
      refine sw_iload_n 2 dX11_swings_71 rfl rfl ?_
      refine sw_callVi (As := [.int x1, .int x6, .int x2]) (k := 163) rfl dX11_swings_72 t_1628 mf_X11_strongestBehind h0.1 q_cl11 (by decide) (Nat.le_of_ble_eq_true rfl) (fun l => c_X11_strongestBehind l x1 x6 x2 u h0) (fun r u_8 => ?_)
      refine sw_iload 5 dX11_swings_75 rfl ?_
      refine SW.jn1 84 (fun x4_9 => [(0, .ref (b + 163)), (1, .int x1), (2, .int x2), (3, .int x3), (4, .int x4_9), (5, .int x5), (6, .int x6)]) (fun x4_9 => []) (fun x4_9 u_10 => ?_) (fun J84 hJ84 => ?_)
      · refine sw_iinc (lv' := [(6, .int (x6 + (1 : Int32))), (0, .ref (b + 163)), (1, .int x1), (2, .int x2), (3, .int x3), (4, .int x4_9), (5, .int x5)]) 6 dX11_swings_84 rfl (congrArg (x6 + ·) (by decide)) (by decide) rfl ?_
        refine sw_goto 55 dX11_swings_87 (by decide) ?_
        exact SW.sub [1, 2, 3, 4, 5, 6, 0] rfl (ih x4_9 (x6 + (1 : Int32)) u_10)
      · refine sw_icmp_eq 84 dX11_swings_77 (by decide) ?_ ?_
        · exact SW.sub [0, 1, 2, 3, 4, 5, 6] rfl (hJ84 x4 u_8)
        · refine sw_iload 6 dX11_swings_80 rfl ?_
          refine sw_istore (lv' := [(4, .int x6), (0, .ref (b + 163)), (1, .int x1), (2, .int x2), (3, .int x3), (5, .int x5), (6, .int x6)]) dX11_swings_82 (by decide) rfl ?_
          exact SW.sub [1, 2, 3, 4, 0, 5, 6] rfl (hJ84 x6 u_8)
    · exact SW.sub [0, 4] rfl (hK90 x4 u)
set_option maxRecDepth 100000 in
theorem c_X11_swings (l : Launch) {ι : qI} {b : Nat}  (x1 : Int32) (x2 : Int32) (u : qS) (h0 : is_X11 ι) : CN l yX11_swings cX11_swings 7 (some .int) 13 ι b [.ref (b + 163), .int x1, .int x2] u (m_X11_swings x1 x2 u) := by
  refine CN.of_SW (own := RX11) rfl (by decide) (Nat.le_of_ble_eq_true rfl) [(0, .ref (b + 163)), (1, .int x1), (2, .int x2)] rfl ?_
  unfold m_X11_swings
  refine sw_aload_n 0 dX11_swings_0 rfl rfl ?_
  refine sw_iconst (0 : Int32) dX11_swings_1 (by decide) ?_
  refine sw_puti q_cl11 0 dX11_swings_2 t_1045 (by decide) (by decide +kernel) rfl h0.1 rfl (fun u_1 => ?_)
  refine sw_aload_n 0 dX11_swings_5 rfl rfl ?_
  refine sw_iload_n 1 dX11_swings_6 rfl rfl ?_
  refine sw_callVi (As := [.int x1]) (k := 163) rfl dX11_swings_7 t_1262 mf_X11_isTree h0.1 q_cl11 (by decide) (Nat.le_of_ble_eq_true rfl) (fun l => c_X11_isTree l x1 u_1 h0) (fun r u_2 => ?_)
  refine sw_if_eq 24 dX11_swings_10 (by decide) ?_ ?_
  · refine sw_iconst (-1 : Int32) dX11_swings_24 (by decide) ?_
    exact sw_iret dX11_swings_25
  · refine sw_aload_n 0 dX11_swings_13 rfl rfl ?_
    refine sw_iload_n 2 dX11_swings_14 rfl rfl ?_
    refine sw_iconst (1 : Int32) dX11_swings_15 (by decide) ?_
    refine sw_bipush (20 : Int32) dX11_swings_16 (by decide) ?_
    refine sw_callVi (As := [.int x2, .int (1 : Int32), .int (20 : Int32)]) (k := 163) rfl dX11_swings_18 t_1226 mf_X11_isIn h0.1 q_cl11 (by decide) (Nat.le_of_ble_eq_true rfl) (fun l => c_X11_isIn l x2 (1 : Int32) (20 : Int32) u_2 h0) (fun r_3 u_4 => ?_)
    refine sw_if_ne 26 dX11_swings_21 (by decide) ?_ ?_
    · refine sw_iconst (-1 : Int32) dX11_swings_24 (by decide) ?_
      exact sw_iret dX11_swings_25
    · refine sw_aload_n 0 dX11_swings_26 rfl rfl ?_
      refine sw_getr q_cl11 1 (r := 164) dX11_swings_27 t_1046 (by decide) h0.1 rfl ?_
      refine sw_bipush (62 : Int32) dX11_swings_30 (by decide) ?_
      refine sw_iload_n 1 dX11_swings_32 rfl rfl ?_
      refine sw_iadd dX11_swings_33 ?_
      refine sw_iald dX11_swings_34 h0.2.1 (fun a => ?_)
      refine sw_istore_n (lv' := [(3, .int a), (0, .ref (b + 163)), (1, .int x1), (2, .int x2)]) dX11_swings_35 rfl (by decide) rfl ?_
      refine sw_iconst (-1 : Int32) dX11_swings_36 (by decide) ?_
      refine sw_istore (lv' := [(4, .int (-1 : Int32)), (3, .int a), (0, .ref (b + 163)), (1, .int x1), (2, .int x2)]) dX11_swings_37 (by decide) rfl ?_
      refine sw_aload_n 2 dX11_swings_39 rfl rfl ?_
      refine sw_callVv (As := []) (k := 163) rfl dX11_swings_40 t_1596 mf_X11_thinks h0.1 q_cl11 (by decide) (Nat.le_of_ble_eq_true rfl) (fun l => c_X11_thinks l  u_4 h0) (fun _ u_5 => ?_)
      refine sw_aload_n 2 dX11_swings_43 rfl rfl ?_
      refine sw_iload_n 3 dX11_swings_44 rfl rfl ?_
      refine sw_iconst (0 : Int32) dX11_swings_45 (by decide) ?_
      refine sw_iload_n 4 dX11_swings_46 rfl rfl ?_
      refine sw_callVi (As := [.int x1, .int (0 : Int32), .int x2]) (k := 163) rfl dX11_swings_47 t_1628 mf_X11_strongestBehind h0.1 q_cl11 (by decide) (Nat.le_of_ble_eq_true rfl) (fun l => c_X11_strongestBehind l x1 (0 : Int32) x2 u_5 h0) (fun r_6 u_7 => ?_)
      refine sw_istore (lv' := [(5, .int r_6), (4, .int (-1 : Int32)), (3, .int a), (0, .ref (b + 163)), (1, .int x1), (2, .int x2)]) dX11_swings_50 (by decide) rfl ?_
      refine sw_iconst (1 : Int32) dX11_swings_52 (by decide) ?_
      refine sw_istore (lv' := [(6, .int (1 : Int32)), (5, .int r_6), (4, .int (-1 : Int32)), (3, .int a), (0, .ref (b + 163)), (1, .int x1), (2, .int x2)]) dX11_swings_53 (by decide) rfl ?_
      refine SW.sub (lv' := [(0, .ref (b + 163)), (1, .int x1), (2, .int x2), (3, .int a), (4, .int (-1 : Int32)), (5, .int r_6), (6, .int (1 : Int32))]) [4, 5, 6, 3, 2, 1, 0] rfl ?_
      refine w_X11_swings_L55 h0 x1 x2 a r_6 (fun x4 u_11 => ?_) q_F (-1 : Int32) (1 : Int32) u_7
      refine sw_aload_n 0 dX11_swings_90 rfl rfl ?_
      refine sw_callVv (As := []) (k := 163) rfl dX11_swings_91 t_1604 mf_X11_endsThought h0.1 q_cl11 (by decide) (Nat.le_of_ble_eq_true rfl) (fun l => c_X11_endsThought l  u_11 h0) (fun _ u_12 => ?_)
      refine sw_iload 1 dX11_swings_94 rfl ?_
      exact sw_iret dX11_swings_96
set_option maxRecDepth 100000 in
theorem w_X11_placesOf_L4 {ι : qI} {b : Nat}  (h0 : is_X11 ι) (x1 : Int32) {K39 : Int32 → qS → qR} (hK39 : ∀ (e2 : Int32) (u : qS), SW RX11 cX11_placesOf 4 (some .int) 1 ι b 39 [(2, .int e2)] [] u (K39 e2 u)) (fu : Nat) (x2 : Int32) (x3 : Int32) (u : qS) : SW RX11 cX11_placesOf 4 (some .int) 1 ι b 4 [(0, .ref (b + 163)), (1, .int x1), (2, .int x2), (3, .int x3)] [] u (q_it2 (m_X11_placesOf_L4 x1 K39) fu x2 x3 u) := by
  refine SW.it2 (fun x2 x3 => [(0, .ref (b + 163)), (1, .int x1), (2, .int x2), (3, .int x3)]) (fun self ih x2 x3 u => ?_) fu x2 x3 u
  unfold m_X11_placesOf_L4
  refine sw_iload_n 3 dX11_placesOf_4 rfl rfl ?_
  refine sw_aload_n 0 dX11_placesOf_5 rfl rfl ?_
  refine sw_getr q_cl11 37 (r := 178) dX11_placesOf_6 t_1082 (by decide) h0.1 rfl ?_
  refine sw_bipush (9 : Int32) dX11_placesOf_9 (by decide) ?_
  refine sw_iload_n 1 dX11_placesOf_11 rfl rfl ?_
  refine sw_imul dX11_placesOf_12 ?_
  refine sw_iald dX11_placesOf_13 h0.2.2.2.2.2.2.2.2.2.2.2.2.2.2.2.1 (fun a => ?_)
  refine sw_icmp_gt 39 dX11_placesOf_14 (by decide) ?_ ?_
  · exact SW.sub [2] rfl (hK39 x2 u)
  · refine sw_iload_n 2 dX11_placesOf_17 rfl rfl ?_
    refine sw_iconst (1 : Int32) dX11_placesOf_18 (by decide) ?_
    refine sw_aload_n 0 dX11_placesOf_19 rfl rfl ?_
    refine sw_getr q_cl11 37 (r := 178) dX11_placesOf_20 t_1082 (by decide) h0.1 rfl ?_
    refine sw_bipush (9 : Int32) dX11_placesOf_23 (by decide) ?_
    refine sw_iload_n 1 dX11_placesOf_25 rfl rfl ?_
    refine sw_imul dX11_placesOf_26 ?_
    refine sw_iload_n 3 dX11_placesOf_27 rfl rfl ?_
    refine sw_iadd dX11_placesOf_28 ?_
    refine sw_iald dX11_placesOf_29 h0.2.2.2.2.2.2.2.2.2.2.2.2.2.2.2.1 (fun a_1 => ?_)
    refine sw_ishl dX11_placesOf_30 ?_
    refine sw_ior dX11_placesOf_31 ?_
    refine SW.name (fun y2 => ?_)
    refine sw_istore_n (lv' := [(2, .int y2), (0, .ref (b + 163)), (1, .int x1), (3, .int x3)]) dX11_placesOf_32 rfl (by decide) rfl ?_
    refine sw_iinc (lv' := [(3, .int (x3 + (1 : Int32))), (2, .int y2), (0, .ref (b + 163)), (1, .int x1)]) 3 dX11_placesOf_33 rfl (congrArg (x3 + ·) (by decide)) (by decide) rfl ?_
    refine sw_goto 4 dX11_placesOf_36 (by decide) ?_
    exact SW.sub [2, 3, 1, 0] rfl (ih y2 (x3 + (1 : Int32)) u)
set_option maxRecDepth 100000 in
theorem c_X11_placesOf (l : Launch) {ι : qI} {b : Nat}  (x1 : Int32) (u : qS) (h0 : is_X11 ι) : CN l yX11_placesOf cX11_placesOf 4 (some .int) 1 ι b [.ref (b + 163), .int x1] u (m_X11_placesOf x1 u) := by
  refine CN.of_SW (own := RX11) rfl (by decide) (Nat.le_of_ble_eq_true rfl) [(0, .ref (b + 163)), (1, .int x1)] rfl ?_
  unfold m_X11_placesOf
  refine sw_iconst (0 : Int32) dX11_placesOf_0 (by decide) ?_
  refine sw_istore_n (lv' := [(2, .int (0 : Int32)), (0, .ref (b + 163)), (1, .int x1)]) dX11_placesOf_1 rfl (by decide) rfl ?_
  refine sw_iconst (1 : Int32) dX11_placesOf_2 (by decide) ?_
  refine sw_istore_n (lv' := [(3, .int (1 : Int32)), (2, .int (0 : Int32)), (0, .ref (b + 163)), (1, .int x1)]) dX11_placesOf_3 rfl (by decide) rfl ?_
  refine SW.sub (lv' := [(0, .ref (b + 163)), (1, .int x1), (2, .int (0 : Int32)), (3, .int (1 : Int32))]) [2, 3, 1, 0] rfl ?_
  refine w_X11_placesOf_L4 h0 x1 (fun x2 u_2 => ?_) q_F (0 : Int32) (1 : Int32) u
  refine sw_iload_n 0 dX11_placesOf_39 rfl rfl ?_
  exact sw_iret dX11_placesOf_40
set_option maxRecDepth 100000 in
theorem w_X11_feedsAll_L2 {ι : qI} {b : Nat}  (h0 : is_X11 ι) (x1 : Int32) {K28 : qS → qR} {K36 : qS → qR} (hK28 : ∀  (u : qS), SW RX11 cX11_feedsAll 3 (some .boolean) 2 ι b 28 [] [] u (K28  u)) (hK36 : ∀  (u : qS), SW RX11 cX11_feedsAll 3 (some .boolean) 2 ι b 36 [] [] u (K36  u)) (fu : Nat) (x2 : Int32) (u : qS) : SW RX11 cX11_feedsAll 3 (some .boolean) 2 ι b 2 [(0, .ref (b + 163)), (1, .int x1), (2, .int x2)] [] u (q_it1 (m_X11_feedsAll_L2 x1 K28 K36) fu x2 u) := by
  refine SW.it1 (fun x2 => [(0, .ref (b + 163)), (1, .int x1), (2, .int x2)]) (fun self ih x2 u => ?_) fu x2 u
  unfold m_X11_feedsAll_L2
  refine sw_iload_n 2 dX11_feedsAll_2 rfl rfl ?_
  refine sw_aload_n 0 dX11_feedsAll_3 rfl rfl ?_
  refine sw_geti q_cl11 7 dX11_feedsAll_4 t_1052 (by decide) h0.1 rfl ?_
  refine sw_icmp_ge 36 dX11_feedsAll_7 (by decide) ?_ ?_
  · exact SW.sub [] rfl (hK36  u)
  · refine sw_aload_n 0 dX11_feedsAll_10 rfl rfl ?_
    refine sw_iload_n 2 dX11_feedsAll_11 rfl rfl ?_
    refine sw_callVi (As := [.int x2]) (k := 163) rfl dX11_feedsAll_12 t_1644 mf_X11_placesOf h0.1 q_cl11 (by decide) (Nat.le_of_ble_eq_true rfl) (fun l => c_X11_placesOf l x2 u h0) (fun r u_1 => ?_)
    refine SW.jn0 30 ([(0, .ref (b + 163)), (1, .int x1), (2, .int x2)]) ([]) (fun  u_2 => ?_) (fun J30 hJ30 => ?_)
    · refine sw_iinc (lv' := [(2, .int (x2 + (1 : Int32))), (0, .ref (b + 163)), (1, .int x1)]) 2 dX11_feedsAll_30 rfl (congrArg (x2 + ·) (by decide)) (by decide) rfl ?_
      refine sw_goto 2 dX11_feedsAll_33 (by decide) ?_
      exact SW.sub [1, 2, 0] rfl (ih (x2 + (1 : Int32)) u_2)
    · refine sw_if_eq 30 dX11_feedsAll_15 (by decide) ?_ ?_
      · exact SW.sub [0, 1, 2] rfl (hJ30  u_1)
      · refine sw_aload_n 0 dX11_feedsAll_18 rfl rfl ?_
        refine sw_iload_n 2 dX11_feedsAll_19 rfl rfl ?_
        refine sw_callVi (As := [.int x2]) (k := 163) rfl dX11_feedsAll_20 t_1644 mf_X11_placesOf h0.1 q_cl11 (by decide) (Nat.le_of_ble_eq_true rfl) (fun l => c_X11_placesOf l x2 u_1 h0) (fun r_3 u_4 => ?_)
        refine sw_iload_n 1 dX11_feedsAll_23 rfl rfl ?_
        refine sw_iand dX11_feedsAll_24 ?_
        refine sw_if_ne 30 dX11_feedsAll_25 (by decide) ?_ ?_
        · exact SW.sub [] rfl (hK28  u_4)
        · exact SW.sub [0, 1, 2] rfl (hJ30  u_4)
set_option maxRecDepth 100000 in
theorem c_X11_feedsAll (l : Launch) {ι : qI} {b : Nat}  (x1 : Int32) (u : qS) (h0 : is_X11 ι) : CN l yX11_feedsAll cX11_feedsAll 3 (some .boolean) 2 ι b [.ref (b + 163), .int x1] u (m_X11_feedsAll x1 u) := by
  refine CN.of_SW (own := RX11) rfl (by decide) (Nat.le_of_ble_eq_true rfl) [(0, .ref (b + 163)), (1, .int x1)] rfl ?_
  unfold m_X11_feedsAll
  refine sw_iconst (0 : Int32) dX11_feedsAll_0 (by decide) ?_
  refine sw_istore_n (lv' := [(2, .int (0 : Int32)), (0, .ref (b + 163)), (1, .int x1)]) dX11_feedsAll_1 rfl (by decide) rfl ?_
  refine SW.sub (lv' := [(0, .ref (b + 163)), (1, .int x1), (2, .int (0 : Int32))]) [1, 2, 0] rfl ?_
  refine w_X11_feedsAll_L2 h0 x1 (fun u_5 => ?_) (fun u_6 => ?_) q_F (0 : Int32) u
  · refine sw_iconst (0 : Int32) dX11_feedsAll_28 (by decide) ?_
    exact sw_zret0 dX11_feedsAll_29
  · refine sw_iconst (1 : Int32) dX11_feedsAll_36 (by decide) ?_
    exact sw_zret1 dX11_feedsAll_37
set_option maxRecDepth 100000 in
theorem w_X11_feeds_L21 {ι : qI} {b : Nat}  (h0 : is_X11 ι) (x1 : Int32) {K62 : Int32 → qS → qR} (hK62 : ∀ (e2 : Int32) (u : qS), SW RX11 cX11_feeds 4 (some .int) 3 ι b 62 [(0, .ref (b + 163)), (1, .int x1), (2, .int e2)] [] u (K62 e2 u)) (fu : Nat) (x2 : Int32) (x3 : Int32) (u : qS) : SW RX11 cX11_feeds 4 (some .int) 3 ι b 21 [(0, .ref (b + 163)), (1, .int x1), (2, .int x2), (3, .int x3)] [] u (q_it2 (m_X11_feeds_L21 x1 K62) fu x2 x3 u) := by
  refine SW.it2 (fun x2 x3 => [(0, .ref (b + 163)), (1, .int x1), (2, .int x2), (3, .int x3)]) (fun self ih x2 x3 u => ?_) fu x2 x3 u
  unfold m_X11_feeds_L21
  refine sw_iload_n 3 dX11_feeds_21 rfl rfl ?_
  refine sw_sipush (1024 : Int32) dX11_feeds_22 (by decide) ?_
  refine sw_icmp_ge 62 dX11_feeds_25 (by decide) ?_ ?_
  · exact SW.sub [0, 1, 2] rfl (hK62 x2 u)
  · refine sw_iload_n 2 dX11_feeds_28 rfl rfl ?_
    refine sw_iconst (-1 : Int32) dX11_feeds_29 (by decide) ?_
    refine SW.jn1 56 (fun x2_3 => [(0, .ref (b + 163)), (1, .int x1), (2, .int x2_3), (3, .int x3)]) (fun x2_3 => []) (fun x2_3 u_4 => ?_) (fun J56 hJ56 => ?_)
    · refine sw_iinc (lv' := [(3, .int (x3 + (1 : Int32))), (0, .ref (b + 163)), (1, .int x1), (2, .int x2_3)]) 3 dX11_feeds_56 rfl (congrArg (x3 + ·) (by decide)) (by decide) rfl ?_
      refine sw_goto 21 dX11_feeds_59 (by decide) ?_
      exact SW.sub [1, 2, 3, 0] rfl (ih x2_3 (x3 + (1 : Int32)) u_4)
    · refine SW.jn0 46 ([(0, .ref (b + 163)), (1, .int x1), (2, .int x2), (3, .int x3)]) ([]) (fun  u_5 => ?_) (fun J46 hJ46 => ?_)
      · refine sw_aload_n 0 dX11_feeds_46 rfl rfl ?_
        refine sw_iload_n 3 dX11_feeds_47 rfl rfl ?_
        refine sw_callVi (As := [.int x3]) (k := 163) rfl dX11_feeds_48 t_1640 mf_X11_feedsAll h0.1 q_cl11 (by decide) (Nat.le_of_ble_eq_true rfl) (fun l => c_X11_feedsAll l x3 u_5 h0) (fun r u_6 => ?_)
        refine sw_if_eq 56 dX11_feeds_51 (by decide) ?_ ?_
        · exact SW.sub [0, 1, 2, 3] rfl (hJ56 x2 u_6)
        · refine sw_iload_n 3 dX11_feeds_54 rfl rfl ?_
          refine sw_istore_n (lv' := [(2, .int x3), (0, .ref (b + 163)), (1, .int x1), (3, .int x3)]) dX11_feeds_55 rfl (by decide) rfl ?_
          exact SW.sub [1, 2, 0, 3] rfl (hJ56 x3 u_6)
      · refine sw_icmp_eq 46 dX11_feeds_30 (by decide) ?_ ?_
        · exact SW.sub [0, 1, 2, 3] rfl (hJ46  u)
        · refine sw_aload_n 0 dX11_feeds_33 rfl rfl ?_
          refine sw_iload_n 3 dX11_feeds_34 rfl rfl ?_
          refine sw_callVi (As := [.int x3]) (k := 163) rfl dX11_feeds_35 t_1636 mf_X11_onesOf h0.1 q_cl11 (by decide) (Nat.le_of_ble_eq_true rfl) (fun l => c_X11_onesOf l x3 u h0) (fun r_7 u_8 => ?_)
          refine sw_aload_n 0 dX11_feeds_38 rfl rfl ?_
          refine sw_iload_n 2 dX11_feeds_39 rfl rfl ?_
          refine sw_callVi (As := [.int x2]) (k := 163) rfl dX11_feeds_40 t_1636 mf_X11_onesOf h0.1 q_cl11 (by decide) (Nat.le_of_ble_eq_true rfl) (fun l => c_X11_onesOf l x2 u_8 h0) (fun r_9 u_10 => ?_)
          refine sw_icmp_ge 56 dX11_feeds_43 (by decide) ?_ ?_
          · exact SW.sub [0, 1, 2, 3] rfl (hJ56 x2 u_10)
          · exact SW.sub [0, 1, 2, 3] rfl (hJ46  u_10)
set_option maxRecDepth 100000 in
theorem c_X11_feeds (l : Launch) {ι : qI} {b : Nat}  (x1 : Int32) (u : qS) (h0 : is_X11 ι) : CN l yX11_feeds cX11_feeds 4 (some .int) 3 ι b [.ref (b + 163), .int x1] u (m_X11_feeds x1 u) := by
  refine CN.of_SW (own := RX11) rfl (by decide) (Nat.le_of_ble_eq_true rfl) [(0, .ref (b + 163)), (1, .int x1)] rfl ?_
  unfold m_X11_feeds
  refine sw_aload_n 0 dX11_feeds_0 rfl rfl ?_
  refine sw_iconst (0 : Int32) dX11_feeds_1 (by decide) ?_
  refine sw_puti q_cl11 0 dX11_feeds_2 t_1045 (by decide) (by decide +kernel) rfl h0.1 rfl (fun u_1 => ?_)
  refine sw_aload_n 0 dX11_feeds_5 rfl rfl ?_
  refine sw_iload_n 1 dX11_feeds_6 rfl rfl ?_
  refine sw_iconst (0 : Int32) dX11_feeds_7 (by decide) ?_
  refine sw_iconst (1 : Int32) dX11_feeds_8 (by decide) ?_
  refine sw_callVi (As := [.int x1, .int (0 : Int32), .int (1 : Int32)]) (k := 163) rfl dX11_feeds_9 t_1226 mf_X11_isIn h0.1 q_cl11 (by decide) (Nat.le_of_ble_eq_true rfl) (fun l => c_X11_isIn l x1 (0 : Int32) (1 : Int32) u_1 h0) (fun r u_2 => ?_)
  refine sw_if_ne 17 dX11_feeds_12 (by decide) ?_ ?_
  · refine sw_iconst (-1 : Int32) dX11_feeds_15 (by decide) ?_
    exact sw_iret dX11_feeds_16
  · refine sw_iconst (-1 : Int32) dX11_feeds_17 (by decide) ?_
    refine sw_istore_n (lv' := [(2, .int (-1 : Int32)), (0, .ref (b + 163)), (1, .int x1)]) dX11_feeds_18 rfl (by decide) rfl ?_
    refine sw_iconst (0 : Int32) dX11_feeds_19 (by decide) ?_
    refine sw_istore_n (lv' := [(3, .int (0 : Int32)), (2, .int (-1 : Int32)), (0, .ref (b + 163)), (1, .int x1)]) dX11_feeds_20 rfl (by decide) rfl ?_
    refine SW.sub (lv' := [(0, .ref (b + 163)), (1, .int x1), (2, .int (-1 : Int32)), (3, .int (0 : Int32))]) [2, 3, 1, 0] rfl ?_
    refine w_X11_feeds_L21 h0 x1 (fun x2 u_11 => ?_) q_F (-1 : Int32) (0 : Int32) u_2
    refine sw_iload_n 1 dX11_feeds_62 rfl rfl ?_
    refine sw_if_ne 74 dX11_feeds_63 (by decide) ?_ ?_
    · refine sw_aload_n 0 dX11_feeds_66 rfl rfl ?_
      refine sw_iload_n 2 dX11_feeds_67 rfl rfl ?_
      refine sw_callVi (As := [.int x2]) (k := 163) rfl dX11_feeds_68 t_1636 mf_X11_onesOf h0.1 q_cl11 (by decide) (Nat.le_of_ble_eq_true rfl) (fun l => c_X11_onesOf l x2 u_11 h0) (fun r_12 u_13 => ?_)
      refine sw_goto 75 dX11_feeds_71 (by decide) ?_
      exact sw_iret dX11_feeds_75
    · refine sw_iload_n 2 dX11_feeds_74 rfl rfl ?_
      exact sw_iret dX11_feeds_75
set_option maxRecDepth 100000 in
theorem c_X11_core (l : Launch) {ι : qI} {b : Nat}  (x1 : Int32) (x2 : Int32) (u : qS) (h0 : is_X11 ι) : CN l yX11_core cX11_core 3 (some .int) 2 ι b [.ref (b + 163), .int x1, .int x2] u (m_X11_core x1 x2 u) := by
  refine CN.of_SW (own := RX11) rfl (by decide) (Nat.le_of_ble_eq_true rfl) [(0, .ref (b + 163)), (1, .int x1), (2, .int x2)] rfl ?_
  unfold m_X11_core
  refine sw_aload_n 0 dX11_core_0 rfl rfl ?_
  refine sw_iconst (0 : Int32) dX11_core_1 (by decide) ?_
  refine sw_puti q_cl11 0 dX11_core_2 t_1045 (by decide) (by decide +kernel) rfl h0.1 rfl (fun u_1 => ?_)
  refine sw_iload_n 1 dX11_core_5 rfl rfl ?_
  refine sw_iconst (-1 : Int32) dX11_core_6 (by decide) ?_
  refine sw_icmp_ne 17 dX11_core_7 (by decide) ?_ ?_
  · refine sw_aload_n 0 dX11_core_10 rfl rfl ?_
    refine sw_iconst (0 : Int32) dX11_core_11 (by decide) ?_
    refine sw_puti q_cl11 48 dX11_core_12 t_1093 (by decide) (by decide +kernel) rfl h0.1 rfl (fun u_8 => ?_)
    refine sw_iconst (0 : Int32) dX11_core_15 (by decide) ?_
    exact sw_iret dX11_core_16
  · refine sw_aload_n 0 dX11_core_17 rfl rfl ?_
    refine sw_iload_n 1 dX11_core_18 rfl rfl ?_
    refine sw_callVi (As := [.int x1]) (k := 163) rfl dX11_core_19 t_1242 mf_X11_isParty h0.1 q_cl11 (by decide) (Nat.le_of_ble_eq_true rfl) (fun l => c_X11_isParty l x1 u_1 h0) (fun r u_2 => ?_)
    refine sw_if_eq 42 dX11_core_22 (by decide) ?_ ?_
    · refine sw_iconst (-1 : Int32) dX11_core_42 (by decide) ?_
      exact sw_iret dX11_core_43
    · refine sw_aload_n 0 dX11_core_25 rfl rfl ?_
      refine sw_iload_n 2 dX11_core_26 rfl rfl ?_
      refine sw_callVi (As := [.int x2]) (k := 163) rfl dX11_core_27 t_1414 mf_X11_isPlace h0.1 q_cl11 (by decide) (Nat.le_of_ble_eq_true rfl) (fun l => c_X11_isPlace l x2 u_2 h0) (fun r_3 u_4 => ?_)
      refine sw_if_eq 42 dX11_core_30 (by decide) ?_ ?_
      · refine sw_iconst (-1 : Int32) dX11_core_42 (by decide) ?_
        exact sw_iret dX11_core_43
      · refine sw_aload_n 0 dX11_core_33 rfl rfl ?_
        refine sw_geti q_cl11 48 dX11_core_34 t_1093 (by decide) h0.1 rfl ?_
        refine sw_bipush (8 : Int32) dX11_core_37 (by decide) ?_
        refine sw_icmp_ne 44 dX11_core_39 (by decide) ?_ ?_
        · refine sw_iconst (-1 : Int32) dX11_core_42 (by decide) ?_
          exact sw_iret dX11_core_43
        · refine sw_aload_n 0 dX11_core_44 rfl rfl ?_
          refine sw_getr q_cl11 49 (r := 184) dX11_core_45 t_1094 (by decide) h0.1 rfl ?_
          refine sw_iconst (2 : Int32) dX11_core_48 (by decide) ?_
          refine sw_aload_n 0 dX11_core_49 rfl rfl ?_
          refine sw_geti q_cl11 48 dX11_core_50 t_1093 (by decide) h0.1 rfl ?_
          refine sw_imul dX11_core_53 ?_
          refine sw_iload_n 1 dX11_core_54 rfl rfl ?_
          refine sw_iast dX11_core_55 h0.2.2.2.2.2.2.2.2.2.2.2.2.2.2.2.2.2.2.2.2.2.1 (fun u_5 => ?_)
          refine sw_aload_n 0 dX11_core_56 rfl rfl ?_
          refine sw_getr q_cl11 49 (r := 184) dX11_core_57 t_1094 (by decide) h0.1 rfl ?_
          refine sw_iconst (2 : Int32) dX11_core_60 (by decide) ?_
          refine sw_aload_n 0 dX11_core_61 rfl rfl ?_
          refine sw_geti q_cl11 48 dX11_core_62 t_1093 (by decide) h0.1 rfl ?_
          refine sw_imul dX11_core_65 ?_
          refine sw_iconst (1 : Int32) dX11_core_66 (by decide) ?_
          refine sw_iadd dX11_core_67 ?_
          refine sw_iload_n 2 dX11_core_68 rfl rfl ?_
          refine sw_iast dX11_core_69 h0.2.2.2.2.2.2.2.2.2.2.2.2.2.2.2.2.2.2.2.2.2.1 (fun u_6 => ?_)
          refine sw_aload_n 0 dX11_core_70 rfl rfl ?_
          refine sw_aload_n 0 dX11_core_71 rfl rfl ?_
          refine sw_geti q_cl11 48 dX11_core_72 t_1093 (by decide) h0.1 rfl ?_
          refine sw_iconst (1 : Int32) dX11_core_75 (by decide) ?_
          refine sw_iadd dX11_core_76 ?_
          refine sw_puti q_cl11 48 dX11_core_77 t_1093 (by decide) (by decide +kernel) rfl h0.1 rfl (fun u_7 => ?_)
          refine sw_aload_n 0 dX11_core_80 rfl rfl ?_
          refine sw_geti q_cl11 48 dX11_core_81 t_1093 (by decide) h0.1 rfl ?_
          exact sw_iret dX11_core_84
set_option maxRecDepth 100000 in
theorem w_X11_eatersOfAll_L17 {ι : qI} {b : Nat}  (h0 : is_X11 ι) (x1 : Int32) (x2 : Int32) {K74 : Int32 → qS → qR} (hK74 : ∀ (e3 : Int32) (u : qS), SW RX11 cX11_eatersOfAll 5 (some .int) 2 ι b 74 [(0, .ref (b + 163)), (1, .int x1), (2, .int x2), (3, .int e3)] [] u (K74 e3 u)) (fu : Nat) (x3 : Int32) (x4 : Int32) (u : qS) : SW RX11 cX11_eatersOfAll 5 (some .int) 2 ι b 17 [(0, .ref (b + 163)), (1, .int x1), (2, .int x2), (3, .int x3), (4, .int x4)] [] u (q_it2 (m_X11_eatersOfAll_L17 x1 x2 K74) fu x3 x4 u) := by
  refine SW.it2 (fun x3 x4 => [(0, .ref (b + 163)), (1, .int x1), (2, .int x2), (3, .int x3), (4, .int x4)]) (fun self ih x3 x4 u => ?_) fu x3 x4 u
  unfold m_X11_eatersOfAll_L17
  refine sw_iload 4 dX11_eatersOfAll_17 rfl ?_
  refine sw_aload_n 0 dX11_eatersOfAll_19 rfl rfl ?_
  refine sw_geti q_cl11 48 dX11_eatersOfAll_20 t_1093 (by decide) h0.1 rfl ?_
  refine sw_icmp_ge 74 dX11_eatersOfAll_23 (by decide) ?_ ?_
  · exact SW.sub [0, 1, 2, 3] rfl (hK74 x3 u)
  · refine sw_aload_n 0 dX11_eatersOfAll_26 rfl rfl ?_
    refine sw_iload_n 2 dX11_eatersOfAll_27 rfl rfl ?_
    refine sw_aload_n 0 dX11_eatersOfAll_28 rfl rfl ?_
    refine sw_getr q_cl11 49 (r := 184) dX11_eatersOfAll_29 t_1094 (by decide) h0.1 rfl ?_
    refine sw_iconst (2 : Int32) dX11_eatersOfAll_32 (by decide) ?_
    refine sw_iload 4 dX11_eatersOfAll_33 rfl ?_
    refine sw_imul dX11_eatersOfAll_35 ?_
    refine sw_iald dX11_eatersOfAll_36 h0.2.2.2.2.2.2.2.2.2.2.2.2.2.2.2.2.2.2.2.2.2.1 (fun a => ?_)
    refine sw_callVi (As := [.int x2, .int a]) (k := 163) rfl dX11_eatersOfAll_37 t_1514 mf_X11_tasteOf h0.1 q_cl11 (by decide) (Nat.le_of_ble_eq_true rfl) (fun l => c_X11_tasteOf l x2 a u h0) (fun r u_1 => ?_)
    refine SW.jn1 68 (fun x3_2 => [(0, .ref (b + 163)), (1, .int x1), (2, .int x2), (3, .int x3_2), (4, .int x4)]) (fun x3_2 => []) (fun x3_2 u_3 => ?_) (fun J68 hJ68 => ?_)
    · refine sw_iinc (lv' := [(4, .int (x4 + (1 : Int32))), (0, .ref (b + 163)), (1, .int x1), (2, .int x2), (3, .int x3_2)]) 4 dX11_eatersOfAll_68 rfl (congrArg (x4 + ·) (by decide)) (by decide) rfl ?_
      refine sw_goto 17 dX11_eatersOfAll_71 (by decide) ?_
      exact SW.sub [1, 2, 3, 4, 0] rfl (ih x3_2 (x4 + (1 : Int32)) u_3)
    · refine SW.jn0 66 ([(0, .ref (b + 163)), (1, .int x1), (2, .int x2), (4, .int x4)]) ([]) (fun  u_4 => ?_) (fun J66 hJ66 => ?_)
      · refine sw_iconst (0 : Int32) dX11_eatersOfAll_66 (by decide) ?_
        refine sw_istore_n (lv' := [(3, .int (0 : Int32)), (0, .ref (b + 163)), (1, .int x1), (2, .int x2), (4, .int x4)]) dX11_eatersOfAll_67 rfl (by decide) rfl ?_
        exact SW.sub [1, 2, 3, 0, 4] rfl (hJ68 (0 : Int32) u_4)
      · refine sw_if_eq 66 dX11_eatersOfAll_40 (by decide) ?_ ?_
        · exact SW.sub [0, 1, 2, 4] rfl (hJ66  u_1)
        · refine sw_aload_n 0 dX11_eatersOfAll_43 rfl rfl ?_
          refine sw_aload_n 0 dX11_eatersOfAll_44 rfl rfl ?_
          refine sw_iload_n 2 dX11_eatersOfAll_45 rfl rfl ?_
          refine sw_callVi (As := [.int x2]) (k := 163) rfl dX11_eatersOfAll_46 t_1644 mf_X11_placesOf h0.1 q_cl11 (by decide) (Nat.le_of_ble_eq_true rfl) (fun l => c_X11_placesOf l x2 u_1 h0) (fun r_5 u_6 => ?_)
          refine sw_aload_n 0 dX11_eatersOfAll_49 rfl rfl ?_
          refine sw_getr q_cl11 49 (r := 184) dX11_eatersOfAll_50 t_1094 (by decide) h0.1 rfl ?_
          refine sw_iconst (2 : Int32) dX11_eatersOfAll_53 (by decide) ?_
          refine sw_iload 4 dX11_eatersOfAll_54 rfl ?_
          refine sw_imul dX11_eatersOfAll_56 ?_
          refine sw_iconst (1 : Int32) dX11_eatersOfAll_57 (by decide) ?_
          refine sw_iadd dX11_eatersOfAll_58 ?_
          refine sw_iald dX11_eatersOfAll_59 h0.2.2.2.2.2.2.2.2.2.2.2.2.2.2.2.2.2.2.2.2.2.1 (fun a_7 => ?_)
          refine sw_callVi (As := [.int r_5, .int a_7]) (k := 163) rfl dX11_eatersOfAll_60 t_1438 mf_X11_has h0.1 q_cl11 (by decide) (Nat.le_of_ble_eq_true rfl) (fun l => c_X11_has l r_5 a_7 u_6 h0) (fun r_8 u_9 => ?_)
          refine sw_if_ne 68 dX11_eatersOfAll_63 (by decide) ?_ ?_
          · exact SW.sub [0, 1, 2, 4] rfl (hJ66  u_9)
          · exact SW.sub [0, 1, 2, 3, 4] rfl (hJ68 x3 u_9)
set_option maxRecDepth 100000 in
theorem w_X11_eatersOfAll_L4 {ι : qI} {b : Nat}  (h0 : is_X11 ι)  {K90 : Int32 → qS → qR} (hK90 : ∀ (e1 : Int32) (u : qS), SW RX11 cX11_eatersOfAll 5 (some .int) 2 ι b 90 [(1, .int e1)] [] u (K90 e1 u)) (fu : Nat) (x1 : Int32) (x2 : Int32) (u : qS) : SW RX11 cX11_eatersOfAll 5 (some .int) 2 ι b 4 [(0, .ref (b + 163)), (1, .int x1), (2, .int x2)] [] u (q_it2 (m_X11_eatersOfAll_L4 K90) fu x1 x2 u) := by
  refine SW.it2 (fun x1 x2 => [(0, .ref (b + 163)), (1, .int x1), (2, .int x2)]) (fun self ih x1 x2 u => ?_) fu x1 x2 u
  unfold m_X11_eatersOfAll_L4
  refine sw_iload_n 2 dX11_eatersOfAll_4 rfl rfl ?_
  refine sw_aload_n 0 dX11_eatersOfAll_5 rfl rfl ?_
  refine sw_geti q_cl11 7 dX11_eatersOfAll_6 t_1052 (by decide) h0.1 rfl ?_
  refine sw_icmp_ge 90 dX11_eatersOfAll_9 (by decide) ?_ ?_
  · exact SW.sub [1] rfl (hK90 x1 u)
  · refine sw_iconst (1 : Int32) dX11_eatersOfAll_12 (by decide) ?_
    refine sw_istore_n (lv' := [(3, .int (1 : Int32)), (0, .ref (b + 163)), (1, .int x1), (2, .int x2)]) dX11_eatersOfAll_13 rfl (by decide) rfl ?_
    refine sw_iconst (0 : Int32) dX11_eatersOfAll_14 (by decide) ?_
    refine sw_istore (lv' := [(4, .int (0 : Int32)), (3, .int (1 : Int32)), (0, .ref (b + 163)), (1, .int x1), (2, .int x2)]) dX11_eatersOfAll_15 (by decide) rfl ?_
    refine SW.sub (lv' := [(0, .ref (b + 163)), (1, .int x1), (2, .int x2), (3, .int (1 : Int32)), (4, .int (0 : Int32))]) [2, 3, 4, 1, 0] rfl ?_
    refine w_X11_eatersOfAll_L17 h0 x1 x2 (fun x3 u_10 => ?_) q_F (1 : Int32) (0 : Int32) u
    refine sw_iload_n 3 dX11_eatersOfAll_74 rfl rfl ?_
    refine SW.jn1 84 (fun x1_11 => [(0, .ref (b + 163)), (1, .int x1_11), (2, .int x2)]) (fun x1_11 => []) (fun x1_11 u_12 => ?_) (fun J84 hJ84 => ?_)
    · refine sw_iinc (lv' := [(2, .int (x2 + (1 : Int32))), (0, .ref (b + 163)), (1, .int x1_11)]) 2 dX11_eatersOfAll_84 rfl (congrArg (x2 + ·) (by decide)) (by decide) rfl ?_
      refine sw_goto 4 dX11_eatersOfAll_87 (by decide) ?_
      exact SW.sub [1, 2, 0] rfl (ih x1_11 (x2 + (1 : Int32)) u_12)
    · refine sw_if_eq 84 dX11_eatersOfAll_75 (by decide) ?_ ?_
      · exact SW.sub [0, 1, 2] rfl (hJ84 x1 u_10)
      · refine sw_iload_n 1 dX11_eatersOfAll_78 rfl rfl ?_
        refine sw_iconst (1 : Int32) dX11_eatersOfAll_79 (by decide) ?_
        refine sw_iload_n 2 dX11_eatersOfAll_80 rfl rfl ?_
        refine sw_ishl dX11_eatersOfAll_81 ?_
        refine sw_ior dX11_eatersOfAll_82 ?_
        refine SW.name (fun y1 => ?_)
        refine sw_istore_n (lv' := [(1, .int y1), (0, .ref (b + 163)), (2, .int x2), (3, .int x3)]) dX11_eatersOfAll_83 rfl (by decide) rfl ?_
        exact SW.sub [1, 0, 2] rfl (hJ84 y1 u_10)
set_option maxRecDepth 100000 in
theorem c_X11_eatersOfAll (l : Launch) {ι : qI} {b : Nat}   (u : qS) (h0 : is_X11 ι) : CN l yX11_eatersOfAll cX11_eatersOfAll 5 (some .int) 2 ι b [.ref (b + 163)] u (m_X11_eatersOfAll  u) := by
  refine CN.of_SW (own := RX11) rfl (by decide) (Nat.le_of_ble_eq_true rfl) [(0, .ref (b + 163))] rfl ?_
  unfold m_X11_eatersOfAll
  refine sw_iconst (0 : Int32) dX11_eatersOfAll_0 (by decide) ?_
  refine sw_istore_n (lv' := [(1, .int (0 : Int32)), (0, .ref (b + 163))]) dX11_eatersOfAll_1 rfl (by decide) rfl ?_
  refine sw_iconst (0 : Int32) dX11_eatersOfAll_2 (by decide) ?_
  refine sw_istore_n (lv' := [(2, .int (0 : Int32)), (1, .int (0 : Int32)), (0, .ref (b + 163))]) dX11_eatersOfAll_3 rfl (by decide) rfl ?_
  refine SW.sub (lv' := [(0, .ref (b + 163)), (1, .int (0 : Int32)), (2, .int (0 : Int32))]) [2, 1, 0] rfl ?_
  refine w_X11_eatersOfAll_L4 h0 (fun x1 u_13 => ?_) q_F (0 : Int32) (0 : Int32) u
  refine sw_iload_n 0 dX11_eatersOfAll_90 rfl rfl ?_
  exact sw_iret dX11_eatersOfAll_91
set_option maxRecDepth 100000 in
theorem w_X11_likersOf_L5 {ι : qI} {b : Nat}  (h0 : is_X11 ι) (x1 : Int32) (x2 : Int32) {K45 : Int32 → qS → qR} (hK45 : ∀ (e3 : Int32) (u : qS), SW RX11 cX11_likersOf 5 (some .int) 2 ι b 45 [(3, .int e3)] [] u (K45 e3 u)) (fu : Nat) (x3 : Int32) (x4 : Int32) (u : qS) : SW RX11 cX11_likersOf 5 (some .int) 2 ι b 5 [(0, .ref (b + 163)), (1, .int x1), (2, .int x2), (3, .int x3), (4, .int x4)] [] u (q_it2 (m_X11_likersOf_L5 x1 x2 K45) fu x3 x4 u) := by
  refine SW.it2 (fun x3 x4 => [(0, .ref (b + 163)), (1, .int x1), (2, .int x2), (3, .int x3), (4, .int x4)]) (fun self ih x3 x4 u => ?_) fu x3 x4 u
  unfold m_X11_likersOf_L5
  refine sw_iload 4 dX11_likersOf_5 rfl ?_
  refine sw_aload_n 0 dX11_likersOf_7 rfl rfl ?_
  refine sw_geti q_cl11 7 dX11_likersOf_8 t_1052 (by decide) h0.1 rfl ?_
  refine sw_icmp_ge 45 dX11_likersOf_11 (by decide) ?_ ?_
  · exact SW.sub [3] rfl (hK45 x3 u)
  · refine sw_aload_n 0 dX11_likersOf_14 rfl rfl ?_
    refine sw_iload_n 1 dX11_likersOf_15 rfl rfl ?_
    refine sw_iload 4 dX11_likersOf_16 rfl ?_
    refine sw_callVi (As := [.int x1, .int x4]) (k := 163) rfl dX11_likersOf_18 t_1438 mf_X11_has h0.1 q_cl11 (by decide) (Nat.le_of_ble_eq_true rfl) (fun l => c_X11_has l x1 x4 u h0) (fun r u_1 => ?_)
    refine SW.jn1 39 (fun x3_2 => [(0, .ref (b + 163)), (1, .int x1), (2, .int x2), (3, .int x3_2), (4, .int x4)]) (fun x3_2 => []) (fun x3_2 u_3 => ?_) (fun J39 hJ39 => ?_)
    · refine sw_iinc (lv' := [(4, .int (x4 + (1 : Int32))), (0, .ref (b + 163)), (1, .int x1), (2, .int x2), (3, .int x3_2)]) 4 dX11_likersOf_39 rfl (congrArg (x4 + ·) (by decide)) (by decide) rfl ?_
      refine sw_goto 5 dX11_likersOf_42 (by decide) ?_
      exact SW.sub [1, 2, 3, 4, 0] rfl (ih x3_2 (x4 + (1 : Int32)) u_3)
    · refine sw_if_eq 39 dX11_likersOf_21 (by decide) ?_ ?_
      · exact SW.sub [0, 1, 2, 3, 4] rfl (hJ39 x3 u_1)
      · refine sw_aload_n 0 dX11_likersOf_24 rfl rfl ?_
        refine sw_iload 4 dX11_likersOf_25 rfl ?_
        refine sw_iload_n 2 dX11_likersOf_27 rfl rfl ?_
        refine sw_callVi (As := [.int x4, .int x2]) (k := 163) rfl dX11_likersOf_28 t_1514 mf_X11_tasteOf h0.1 q_cl11 (by decide) (Nat.le_of_ble_eq_true rfl) (fun l => c_X11_tasteOf l x4 x2 u_1 h0) (fun r_4 u_5 => ?_)
        refine sw_iconst (5 : Int32) dX11_likersOf_31 (by decide) ?_
        refine sw_icmp_lt 39 dX11_likersOf_32 (by decide) ?_ ?_
        · exact SW.sub [0, 1, 2, 3, 4] rfl (hJ39 x3 u_5)
        · refine sw_iload_n 3 dX11_likersOf_35 rfl rfl ?_
          refine sw_iconst (1 : Int32) dX11_likersOf_36 (by decide) ?_
          refine sw_iadd dX11_likersOf_37 ?_
          refine SW.name (fun y3 => ?_)
          refine sw_istore_n (lv' := [(3, .int y3), (0, .ref (b + 163)), (1, .int x1), (2, .int x2), (4, .int x4)]) dX11_likersOf_38 rfl (by decide) rfl ?_
          exact SW.sub [1, 2, 3, 0, 4] rfl (hJ39 y3 u_5)
set_option maxRecDepth 100000 in
theorem c_X11_likersOf (l : Launch) {ι : qI} {b : Nat}  (x1 : Int32) (x2 : Int32) (u : qS) (h0 : is_X11 ι) : CN l yX11_likersOf cX11_likersOf 5 (some .int) 2 ι b [.ref (b + 163), .int x1, .int x2] u (m_X11_likersOf x1 x2 u) := by
  refine CN.of_SW (own := RX11) rfl (by decide) (Nat.le_of_ble_eq_true rfl) [(0, .ref (b + 163)), (1, .int x1), (2, .int x2)] rfl ?_
  unfold m_X11_likersOf
  refine sw_iconst (0 : Int32) dX11_likersOf_0 (by decide) ?_
  refine sw_istore_n (lv' := [(3, .int (0 : Int32)), (0, .ref (b + 163)), (1, .int x1), (2, .int x2)]) dX11_likersOf_1 rfl (by decide) rfl ?_
  refine sw_iconst (0 : Int32) dX11_likersOf_2 (by decide) ?_
  refine sw_istore (lv' := [(4, .int (0 : Int32)), (3, .int (0 : Int32)), (0, .ref (b + 163)), (1, .int x1), (2, .int x2)]) dX11_likersOf_3 (by decide) rfl ?_
  refine SW.sub (lv' := [(0, .ref (b + 163)), (1, .int x1), (2, .int x2), (3, .int (0 : Int32)), (4, .int (0 : Int32))]) [2, 3, 4, 1, 0] rfl ?_
  refine w_X11_likersOf_L5 h0 x1 x2 (fun x3 u_6 => ?_) q_F (0 : Int32) (0 : Int32) u
  refine sw_iload_n 0 dX11_likersOf_45 rfl rfl ?_
  exact sw_iret dX11_likersOf_46
set_option maxRecDepth 100000 in
theorem w_X11_whose_L52 {ι : qI} {b : Nat}  (h0 : is_X11 ι) (x2 : Int32) (x3 : Int32) {K114 : Int32 → qS → qR} (hK114 : ∀ (e4 : Int32) (u : qS), SW RX11 cX11_whose 9 (some .int) 3 ι b 114 [(4, .int e4)] [] u (K114 e4 u)) (fu : Nat) (x4 : Int32) (x5 : Int32) (x6 : Int32) (u : qS) : SW RX11 cX11_whose 9 (some .int) 3 ι b 52 [(0, .ref (b + 163)), (2, .int x2), (3, .int x3), (4, .int x4), (5, .int x5), (6, .int x6)] [] u (q_it3 (m_X11_whose_L52 x2 x3 K114) fu x4 x5 x6 u) := by
  refine SW.it3 (fun x4 x5 x6 => [(0, .ref (b + 163)), (2, .int x2), (3, .int x3), (4, .int x4), (5, .int x5), (6, .int x6)]) (fun self ih x4 x5 x6 u => ?_) fu x4 x5 x6 u
  unfold m_X11_whose_L52
  refine sw_iload 5 dX11_whose_52 rfl ?_
  refine sw_aload_n 0 dX11_whose_54 rfl rfl ?_
  refine sw_geti q_cl11 6 dX11_whose_55 t_1051 (by decide) h0.1 rfl ?_
  refine sw_icmp_ge 114 dX11_whose_58 (by decide) ?_ ?_
  · exact SW.sub [3] rfl (hK114 x4 u)
  · refine sw_aload_n 0 dX11_whose_61 rfl rfl ?_
    refine sw_iload_n 1 dX11_whose_62 rfl rfl ?_
    refine sw_iload 5 dX11_whose_63 rfl ?_
    refine sw_callVi (As := [.int x2, .int x6]) (k := 163) rfl dX11_whose_65 t_1661 mf_X11_likersOf h0.1 q_cl11 (by decide) (Nat.le_of_ble_eq_true rfl) (fun l => c_X11_likersOf l x2 x6 u h0) (fun r u_7 => ?_)
    refine sw_istore (lv' := [(7, .int r), (0, .ref (b + 163)), (2, .int x2), (3, .int x3), (4, .int x4), (5, .int x5), (6, .int x6)]) dX11_whose_68 (by decide) rfl ?_
    refine sw_aload_n 1 dX11_whose_70 rfl rfl ?_
    refine sw_iload 0 dX11_whose_71 rfl ?_
    refine sw_iload_n 3 dX11_whose_73 rfl rfl ?_
    refine sw_iload 0 dX11_whose_74 rfl ?_
    refine sw_isub dX11_whose_76 ?_
    refine sw_callVi (As := [.int r, .int (x3 - r)]) (k := 163) rfl dX11_whose_77 t_1620 mf_X11_greater h0.1 q_cl11 (by decide) (Nat.le_of_ble_eq_true rfl) (fun l => c_X11_greater l r (x3 - r) u_7 h0) (fun r_8 u_9 => ?_)
    refine sw_istore (lv' := [(8, .int r_8), (7, .int r), (0, .ref (b + 163)), (2, .int x2), (3, .int x3), (4, .int x4), (5, .int x5), (6, .int x6)]) dX11_whose_80 (by decide) rfl ?_
    refine sw_iload 0 dX11_whose_82 rfl ?_
    refine sw_iload 6 dX11_whose_84 rfl ?_
    refine SW.jn1 96 (fun s0 => [(0, .ref (b + 163)), (2, .int x2), (3, .int x3), (5, .int x5), (6, .int x6), (8, .int r_8)]) (fun s0 => [.int s0]) (fun s0 u_10 => ?_) (fun J96 hJ96 => ?_)
    · refine sw_istore (lv' := [(4, .int s0), (0, .ref (b + 163)), (2, .int x2), (3, .int x3), (5, .int x5), (6, .int x6), (8, .int r_8)]) dX11_whose_96 (by decide) rfl ?_
      refine sw_aload_n 1 dX11_whose_98 rfl rfl ?_
      refine sw_iload 4 dX11_whose_99 rfl ?_
      refine sw_iload 6 dX11_whose_101 rfl ?_
      refine sw_callVi (As := [.int x5, .int r_8]) (k := 163) rfl dX11_whose_103 t_1454 mf_X11_lesser h0.1 q_cl11 (by decide) (Nat.le_of_ble_eq_true rfl) (fun l => c_X11_lesser l x5 r_8 u_10 h0) (fun r_11 u_12 => ?_)
      refine sw_istore (lv' := [(5, .int r_11), (4, .int s0), (0, .ref (b + 163)), (2, .int x2), (3, .int x3), (6, .int x6), (8, .int r_8)]) dX11_whose_106 (by decide) rfl ?_
      refine sw_iinc (lv' := [(6, .int (x6 + (1 : Int32))), (5, .int r_11), (4, .int s0), (0, .ref (b + 163)), (2, .int x2), (3, .int x3), (8, .int r_8)]) 5 dX11_whose_108 rfl (congrArg (x6 + ·) (by decide)) (by decide) rfl ?_
      refine sw_goto 52 dX11_whose_111 (by decide) ?_
      exact SW.sub [3, 4, 5, 2, 1, 0] rfl (ih s0 r_11 (x6 + (1 : Int32)) u_12)
    · refine sw_icmp_ge 94 dX11_whose_86 (by decide) ?_ ?_
      · refine sw_iload 5 dX11_whose_94 rfl ?_
        exact SW.sub [2, 3, 4, 6, 7, 0] rfl (hJ96 x4 u_9)
      · refine sw_iload 7 dX11_whose_89 rfl ?_
        refine sw_goto 96 dX11_whose_91 (by decide) ?_
        exact SW.sub [2, 3, 4, 6, 7, 0] rfl (hJ96 x6 u_9)
set_option maxRecDepth 100000 in
theorem c_X11_whose (l : Launch) {ι : qI} {b : Nat}  (x1 : Int32) (u : qS) (h0 : is_X11 ι) : CN l yX11_whose cX11_whose 9 (some .int) 3 ι b [.ref (b + 163), .int x1] u (m_X11_whose x1 u) := by
  refine CN.of_SW (own := RX11) rfl (by decide) (Nat.le_of_ble_eq_true rfl) [(0, .ref (b + 163)), (1, .int x1)] rfl ?_
  unfold m_X11_whose
  refine sw_aload_n 0 dX11_whose_0 rfl rfl ?_
  refine sw_iconst (0 : Int32) dX11_whose_1 (by decide) ?_
  refine sw_puti q_cl11 0 dX11_whose_2 t_1045 (by decide) (by decide +kernel) rfl h0.1 rfl (fun u_1 => ?_)
  refine sw_aload_n 0 dX11_whose_5 rfl rfl ?_
  refine sw_iload_n 1 dX11_whose_6 rfl rfl ?_
  refine sw_iconst (0 : Int32) dX11_whose_7 (by decide) ?_
  refine sw_iconst (1 : Int32) dX11_whose_8 (by decide) ?_
  refine sw_callVi (As := [.int x1, .int (0 : Int32), .int (1 : Int32)]) (k := 163) rfl dX11_whose_9 t_1226 mf_X11_isIn h0.1 q_cl11 (by decide) (Nat.le_of_ble_eq_true rfl) (fun l => c_X11_isIn l x1 (0 : Int32) (1 : Int32) u_1 h0) (fun r u_2 => ?_)
  refine sw_if_ne 17 dX11_whose_12 (by decide) ?_ ?_
  · refine sw_iconst (-1 : Int32) dX11_whose_15 (by decide) ?_
    exact sw_iret dX11_whose_16
  · refine sw_aload_n 0 dX11_whose_17 rfl rfl ?_
    refine sw_callVi (As := []) (k := 163) rfl dX11_whose_18 t_1656 mf_X11_eatersOfAll h0.1 q_cl11 (by decide) (Nat.le_of_ble_eq_true rfl) (fun l => c_X11_eatersOfAll l  u_2 h0) (fun r_3 u_4 => ?_)
    refine sw_istore_n (lv' := [(2, .int r_3), (0, .ref (b + 163)), (1, .int x1)]) dX11_whose_21 rfl (by decide) rfl ?_
    refine sw_iload_n 2 dX11_whose_22 rfl rfl ?_
    refine sw_if_ne 28 dX11_whose_23 (by decide) ?_ ?_
    · refine sw_iload_n 0 dX11_whose_26 rfl rfl ?_
      exact sw_iret dX11_whose_27
    · refine sw_aload_n 1 dX11_whose_28 rfl rfl ?_
      refine sw_iload_n 0 dX11_whose_29 rfl rfl ?_
      refine sw_callVi (As := [.int r_3]) (k := 163) rfl dX11_whose_30 t_1636 mf_X11_onesOf h0.1 q_cl11 (by decide) (Nat.le_of_ble_eq_true rfl) (fun l => c_X11_onesOf l r_3 u_4 h0) (fun r_5 u_6 => ?_)
      refine sw_istore_n (lv' := [(3, .int r_5), (2, .int r_3), (0, .ref (b + 163)), (1, .int x1)]) dX11_whose_33 rfl (by decide) rfl ?_
      refine sw_iload_n 0 dX11_whose_34 rfl rfl ?_
      refine sw_iconst (2 : Int32) dX11_whose_35 (by decide) ?_
      refine sw_icmp_ge 41 dX11_whose_36 (by decide) ?_ ?_
      · refine sw_iconst (-1 : Int32) dX11_whose_41 (by decide) ?_
        refine sw_istore (lv' := [(4, .int (-1 : Int32)), (3, .int r_5), (2, .int r_3), (0, .ref (b + 163)), (1, .int x1)]) dX11_whose_42 (by decide) rfl ?_
        refine sw_ldcw dX11_whose_44 t_1660 ?_
        refine sw_istore (lv' := [(5, .int (100000 : Int32)), (4, .int (-1 : Int32)), (3, .int r_5), (2, .int r_3), (0, .ref (b + 163)), (1, .int x1)]) dX11_whose_47 (by decide) rfl ?_
        refine sw_iconst (0 : Int32) dX11_whose_49 (by decide) ?_
        refine sw_istore (lv' := [(6, .int (0 : Int32)), (5, .int (100000 : Int32)), (4, .int (-1 : Int32)), (3, .int r_5), (2, .int r_3), (0, .ref (b + 163)), (1, .int x1)]) dX11_whose_50 (by decide) rfl ?_
        refine SW.sub (lv' := [(0, .ref (b + 163)), (2, .int r_3), (3, .int r_5), (4, .int (-1 : Int32)), (5, .int (100000 : Int32)), (6, .int (0 : Int32))]) [5, 4, 3, 2, 1, 0] rfl ?_
        refine w_X11_whose_L52 h0 r_3 r_5 (fun x4 u_13 => ?_) q_F (-1 : Int32) (100000 : Int32) (0 : Int32) u_6
        refine sw_iload 0 dX11_whose_114 rfl ?_
        exact sw_iret dX11_whose_116
      · refine sw_iconst (-1 : Int32) dX11_whose_39 (by decide) ?_
        exact sw_iret dX11_whose_40
set_option maxRecDepth 100000 in
theorem w_X11_left_L20 {ι : qI} {b : Nat}  (h0 : is_X11 ι) (x1 : Int32) {K46 : qS → qR} (hK46 : ∀  (u : qS), SW RX11 cX11_left 6 (some .int) 6 ι b 46 [(0, .ref (b + 163)), (1, .int x1)] [] u (K46  u)) (fu : Nat) (x2 : Int32) (u : qS) : SW RX11 cX11_left 6 (some .int) 6 ι b 20 [(0, .ref (b + 163)), (1, .int x1), (2, .int x2)] [] u (q_it1 (m_X11_left_L20 x1 K46) fu x2 u) := by
  refine SW.it1 (fun x2 => [(0, .ref (b + 163)), (1, .int x1), (2, .int x2)]) (fun self ih x2 u => ?_) fu x2 u
  unfold m_X11_left_L20
  refine sw_iload_n 2 dX11_left_20 rfl rfl ?_
  refine sw_iload_n 1 dX11_left_21 rfl rfl ?_
  refine sw_icmp_gt 46 dX11_left_22 (by decide) ?_ ?_
  · exact SW.sub [0, 1] rfl (hK46  u)
  · refine sw_aload_n 0 dX11_left_25 rfl rfl ?_
    refine sw_getr q_cl11 50 (r := 185) dX11_left_26 t_1095 (by decide) h0.1 rfl ?_
    refine sw_iload_n 2 dX11_left_29 rfl rfl ?_
    refine sw_iload_n 2 dX11_left_30 rfl rfl ?_
    refine SW.jn1 39 (fun s0 => [(0, .ref (b + 163)), (1, .int x1), (2, .int x2)]) (fun s0 => [.int s0, .int x2, .ref (b + 185)]) (fun s0 u_3 => ?_) (fun J39 hJ39 => ?_)
    · refine sw_iast dX11_left_39 h0.2.2.2.2.2.2.2.2.2.2.2.2.2.2.2.2.2.2.2.2.2.2.1 (fun u_4 => ?_)
      refine sw_iinc (lv' := [(2, .int (x2 + (1 : Int32))), (0, .ref (b + 163)), (1, .int x1)]) 2 dX11_left_40 rfl (congrArg (x2 + ·) (by decide)) (by decide) rfl ?_
      refine sw_goto 20 dX11_left_43 (by decide) ?_
      exact SW.sub [1, 2, 0] rfl (ih (x2 + (1 : Int32)) u_4)
    · refine sw_if_ne 38 dX11_left_31 (by decide) ?_ ?_
      · refine sw_iconst (1 : Int32) dX11_left_34 (by decide) ?_
        refine sw_goto 39 dX11_left_35 (by decide) ?_
        exact SW.sub [0, 1, 2] rfl (hJ39 (1 : Int32) u)
      · refine sw_iconst (0 : Int32) dX11_left_38 (by decide) ?_
        exact SW.sub [0, 1, 2] rfl (hJ39 (0 : Int32) u)
set_option maxRecDepth 100000 in
theorem w_X11_left_L82 {ι : qI} {b : Nat}  (h0 : is_X11 ι) (x1 : Int32) (x2 : Int32) (x3 : Int32) (x4 : Int32) {K130 : qS → qR} (hK130 : ∀  (u : qS), SW RX11 cX11_left 6 (some .int) 6 ι b 130 [(0, .ref (b + 163)), (1, .int x1), (2, .int x2), (3, .int x3), (4, .int x4)] [] u (K130  u)) (fu : Nat) (x5 : Int32) (u : qS) : SW RX11 cX11_left 6 (some .int) 6 ι b 82 [(0, .ref (b + 163)), (1, .int x1), (2, .int x2), (3, .int x3), (4, .int x4), (5, .int x5)] [] u (q_it1 (m_X11_left_L82 x1 x2 x3 x4 K130) fu x5 u) := by
  refine SW.it1 (fun x5 => [(0, .ref (b + 163)), (1, .int x1), (2, .int x2), (3, .int x3), (4, .int x4), (5, .int x5)]) (fun self ih x5 u => ?_) fu x5 u
  unfold m_X11_left_L82
  refine sw_iload 5 dX11_left_82 rfl ?_
  refine sw_iload_n 3 dX11_left_84 rfl rfl ?_
  refine sw_icmp_gt 130 dX11_left_85 (by decide) ?_ ?_
  · exact SW.sub [0, 1, 2, 3, 4] rfl (hK130  u)
  · refine sw_iload 5 dX11_left_88 rfl ?_
    refine sw_iload 4 dX11_left_90 rfl ?_
    refine sw_icmp_gt 130 dX11_left_92 (by decide) ?_ ?_
    · exact SW.sub [0, 1, 2, 3, 4] rfl (hK130  u)
    · refine sw_aload_n 0 dX11_left_95 rfl rfl ?_
      refine sw_getr q_cl11 51 (r := 186) dX11_left_96 t_1096 (by decide) h0.1 rfl ?_
      refine sw_iload 4 dX11_left_99 rfl ?_
      refine sw_aload_n 0 dX11_left_101 rfl rfl ?_
      refine sw_getr q_cl11 51 (r := 186) dX11_left_102 t_1096 (by decide) h0.1 rfl ?_
      refine sw_iload 4 dX11_left_105 rfl ?_
      refine sw_iald dX11_left_107 h0.2.2.2.2.2.2.2.2.2.2.2.2.2.2.2.2.2.2.2.2.2.2.2.1 (fun a => ?_)
      refine sw_aload_n 0 dX11_left_108 rfl rfl ?_
      refine sw_getr q_cl11 50 (r := 185) dX11_left_109 t_1095 (by decide) h0.1 rfl ?_
      refine sw_iload 4 dX11_left_112 rfl ?_
      refine sw_iload 5 dX11_left_114 rfl ?_
      refine sw_isub dX11_left_116 ?_
      refine sw_iald dX11_left_117 h0.2.2.2.2.2.2.2.2.2.2.2.2.2.2.2.2.2.2.2.2.2.2.1 (fun a_8 => ?_)
      refine sw_iadd dX11_left_118 ?_
      refine sw_ldcw dX11_left_119 t_1669 ?_
      refine sw_qrmc dX11_left_122 (by decide) ?_
      refine sw_iast dX11_left_123 h0.2.2.2.2.2.2.2.2.2.2.2.2.2.2.2.2.2.2.2.2.2.2.2.1 (fun u_9 => ?_)
      refine sw_iinc (lv' := [(5, .int (x5 + (1 : Int32))), (0, .ref (b + 163)), (1, .int x1), (2, .int x2), (3, .int x3), (4, .int x4)]) 5 dX11_left_124 rfl (congrArg (x5 + ·) (by decide)) (by decide) rfl ?_
      refine sw_goto 82 dX11_left_127 (by decide) ?_
      exact SW.sub [1, 2, 3, 4, 5, 0] rfl (ih (x5 + (1 : Int32)) u_9)
set_option maxRecDepth 100000 in
theorem w_X11_left_L65 {ι : qI} {b : Nat}  (h0 : is_X11 ι) (x1 : Int32) (x2 : Int32) (x3 : Int32) {K136 : qS → qR} (hK136 : ∀  (u : qS), SW RX11 cX11_left 6 (some .int) 6 ι b 136 [(0, .ref (b + 163)), (1, .int x1), (2, .int x2)] [] u (K136  u)) (fu : Nat) (x4 : Int32) (u : qS) : SW RX11 cX11_left 6 (some .int) 6 ι b 65 [(0, .ref (b + 163)), (1, .int x1), (2, .int x2), (3, .int x3), (4, .int x4)] [] u (q_it1 (m_X11_left_L65 x1 x2 x3 K136) fu x4 u) := by
  refine SW.it1 (fun x4 => [(0, .ref (b + 163)), (1, .int x1), (2, .int x2), (3, .int x3), (4, .int x4)]) (fun self ih x4 u => ?_) fu x4 u
  unfold m_X11_left_L65
  refine sw_iload 4 dX11_left_65 rfl ?_
  refine sw_iload_n 1 dX11_left_67 rfl rfl ?_
  refine sw_icmp_gt 136 dX11_left_68 (by decide) ?_ ?_
  · exact SW.sub [0, 1, 2] rfl (hK136  u)
  · refine sw_aload_n 0 dX11_left_71 rfl rfl ?_
    refine sw_getr q_cl11 51 (r := 186) dX11_left_72 t_1096 (by decide) h0.1 rfl ?_
    refine sw_iload 4 dX11_left_75 rfl ?_
    refine sw_iconst (0 : Int32) dX11_left_77 (by decide) ?_
    refine sw_iast dX11_left_78 h0.2.2.2.2.2.2.2.2.2.2.2.2.2.2.2.2.2.2.2.2.2.2.2.1 (fun u_7 => ?_)
    refine sw_iconst (0 : Int32) dX11_left_79 (by decide) ?_
    refine sw_istore (lv' := [(5, .int (0 : Int32)), (0, .ref (b + 163)), (1, .int x1), (2, .int x2), (3, .int x3), (4, .int x4)]) dX11_left_80 (by decide) rfl ?_
    refine SW.sub (lv' := [(0, .ref (b + 163)), (1, .int x1), (2, .int x2), (3, .int x3), (4, .int x4), (5, .int (0 : Int32))]) [1, 2, 3, 4, 5, 0] rfl ?_
    refine w_X11_left_L82 h0 x1 x2 x3 x4 (fun u_10 => ?_) q_F (0 : Int32) u_7
    refine sw_iinc (lv' := [(4, .int (x4 + (1 : Int32))), (0, .ref (b + 163)), (1, .int x1), (2, .int x2), (3, .int x3)]) 4 dX11_left_130 rfl (congrArg (x4 + ·) (by decide)) (by decide) rfl ?_
    refine sw_goto 65 dX11_left_133 (by decide) ?_
    exact SW.sub [1, 2, 3, 4, 0] rfl (ih (x4 + (1 : Int32)) u_10)
set_option maxRecDepth 100000 in
theorem w_X11_left_L139 {ι : qI} {b : Nat}  (h0 : is_X11 ι) (x1 : Int32) (x2 : Int32) {K165 : qS → qR} (hK165 : ∀  (u : qS), SW RX11 cX11_left 6 (some .int) 6 ι b 165 [(0, .ref (b + 163)), (1, .int x1), (2, .int x2)] [] u (K165  u)) (fu : Nat) (x4 : Int32) (u : qS) : SW RX11 cX11_left 6 (some .int) 6 ι b 139 [(0, .ref (b + 163)), (1, .int x1), (2, .int x2), (4, .int x4)] [] u (q_it1 (m_X11_left_L139 x1 x2 K165) fu x4 u) := by
  refine SW.it1 (fun x4 => [(0, .ref (b + 163)), (1, .int x1), (2, .int x2), (4, .int x4)]) (fun self ih x4 u => ?_) fu x4 u
  unfold m_X11_left_L139
  refine sw_iload 3 dX11_left_139 rfl ?_
  refine sw_iload_n 1 dX11_left_141 rfl rfl ?_
  refine sw_icmp_gt 165 dX11_left_142 (by decide) ?_ ?_
  · exact SW.sub [0, 1, 2] rfl (hK165  u)
  · refine sw_aload_n 0 dX11_left_145 rfl rfl ?_
    refine sw_getr q_cl11 50 (r := 185) dX11_left_146 t_1095 (by decide) h0.1 rfl ?_
    refine sw_iload 3 dX11_left_149 rfl ?_
    refine sw_aload_n 0 dX11_left_151 rfl rfl ?_
    refine sw_getr q_cl11 51 (r := 186) dX11_left_152 t_1096 (by decide) h0.1 rfl ?_
    refine sw_iload 3 dX11_left_155 rfl ?_
    refine sw_iald dX11_left_157 h0.2.2.2.2.2.2.2.2.2.2.2.2.2.2.2.2.2.2.2.2.2.2.2.1 (fun a => ?_)
    refine sw_iast dX11_left_158 h0.2.2.2.2.2.2.2.2.2.2.2.2.2.2.2.2.2.2.2.2.2.2.1 (fun u_12 => ?_)
    refine sw_iinc (lv' := [(4, .int (x4 + (1 : Int32))), (0, .ref (b + 163)), (1, .int x1), (2, .int x2)]) 3 dX11_left_159 rfl (congrArg (x4 + ·) (by decide)) (by decide) rfl ?_
    refine sw_goto 139 dX11_left_162 (by decide) ?_
    exact SW.sub [1, 2, 3, 0] rfl (ih (x4 + (1 : Int32)) u_12)
set_option maxRecDepth 100000 in
theorem w_X11_left_L48 {ι : qI} {b : Nat}  (h0 : is_X11 ι) (x1 : Int32) {K171 : qS → qR} (hK171 : ∀  (u : qS), SW RX11 cX11_left 6 (some .int) 6 ι b 171 [(0, .ref (b + 163)), (1, .int x1)] [] u (K171  u)) (fu : Nat) (x2 : Int32) (u : qS) : SW RX11 cX11_left 6 (some .int) 6 ι b 48 [(0, .ref (b + 163)), (1, .int x1), (2, .int x2)] [] u (q_it1 (m_X11_left_L48 x1 K171) fu x2 u) := by
  refine SW.it1 (fun x2 => [(0, .ref (b + 163)), (1, .int x1), (2, .int x2)]) (fun self ih x2 u => ?_) fu x2 u
  unfold m_X11_left_L48
  refine sw_iload_n 2 dX11_left_48 rfl rfl ?_
  refine sw_aload_n 0 dX11_left_49 rfl rfl ?_
  refine sw_geti q_cl11 7 dX11_left_50 t_1052 (by decide) h0.1 rfl ?_
  refine sw_icmp_ge 171 dX11_left_53 (by decide) ?_ ?_
  · exact SW.sub [0, 1] rfl (hK171  u)
  · refine sw_aload_n 0 dX11_left_56 rfl rfl ?_
    refine sw_iload_n 2 dX11_left_57 rfl rfl ?_
    refine sw_callVi (As := [.int x2]) (k := 163) rfl dX11_left_58 t_1502 mf_X11_wantOf h0.1 q_cl11 (by decide) (Nat.le_of_ble_eq_true rfl) (fun l => c_X11_wantOf l x2 u h0) (fun r u_6 => ?_)
    refine sw_istore_n (lv' := [(3, .int r), (0, .ref (b + 163)), (1, .int x1), (2, .int x2)]) dX11_left_61 rfl (by decide) rfl ?_
    refine sw_iconst (0 : Int32) dX11_left_62 (by decide) ?_
    refine sw_istore (lv' := [(4, .int (0 : Int32)), (3, .int r), (0, .ref (b + 163)), (1, .int x1), (2, .int x2)]) dX11_left_63 (by decide) rfl ?_
    refine SW.sub (lv' := [(0, .ref (b + 163)), (1, .int x1), (2, .int x2), (3, .int r), (4, .int (0 : Int32))]) [2, 3, 4, 1, 0] rfl ?_
    refine w_X11_left_L65 h0 x1 x2 r (fun u_11 => ?_) q_F (0 : Int32) u_6
    refine sw_iconst (0 : Int32) dX11_left_136 (by decide) ?_
    refine sw_istore (lv' := [(4, .int (0 : Int32)), (0, .ref (b + 163)), (1, .int x1), (2, .int x2)]) dX11_left_137 (by decide) rfl ?_
    refine SW.sub (lv' := [(0, .ref (b + 163)), (1, .int x1), (2, .int x2), (4, .int (0 : Int32))]) [1, 2, 3, 0] rfl ?_
    refine w_X11_left_L139 h0 x1 x2 (fun u_13 => ?_) q_F (0 : Int32) u_11
    refine sw_iinc (lv' := [(2, .int (x2 + (1 : Int32))), (0, .ref (b + 163)), (1, .int x1)]) 2 dX11_left_165 rfl (congrArg (x2 + ·) (by decide)) (by decide) rfl ?_
    refine sw_goto 48 dX11_left_168 (by decide) ?_
    exact SW.sub [1, 2, 0] rfl (ih (x2 + (1 : Int32)) u_13)
set_option maxRecDepth 100000 in
theorem c_X11_left (l : Launch) {ι : qI} {b : Nat}  (x1 : Int32) (u : qS) (h0 : is_X11 ι) : CN l yX11_left cX11_left 6 (some .int) 6 ι b [.ref (b + 163), .int x1] u (m_X11_left x1 u) := by
  refine CN.of_SW (own := RX11) rfl (by decide) (Nat.le_of_ble_eq_true rfl) [(0, .ref (b + 163)), (1, .int x1)] rfl ?_
  unfold m_X11_left
  refine sw_aload_n 0 dX11_left_0 rfl rfl ?_
  refine sw_iconst (0 : Int32) dX11_left_1 (by decide) ?_
  refine sw_puti q_cl11 0 dX11_left_2 t_1045 (by decide) (by decide +kernel) rfl h0.1 rfl (fun u_1 => ?_)
  refine sw_aload_n 0 dX11_left_5 rfl rfl ?_
  refine sw_iload_n 1 dX11_left_6 rfl rfl ?_
  refine sw_iconst (0 : Int32) dX11_left_7 (by decide) ?_
  refine sw_bipush (99 : Int32) dX11_left_8 (by decide) ?_
  refine sw_callVi (As := [.int x1, .int (0 : Int32), .int (99 : Int32)]) (k := 163) rfl dX11_left_10 t_1226 mf_X11_isIn h0.1 q_cl11 (by decide) (Nat.le_of_ble_eq_true rfl) (fun l => c_X11_isIn l x1 (0 : Int32) (99 : Int32) u_1 h0) (fun r u_2 => ?_)
  refine sw_if_ne 18 dX11_left_13 (by decide) ?_ ?_
  · refine sw_iconst (-1 : Int32) dX11_left_16 (by decide) ?_
    exact sw_iret dX11_left_17
  · refine sw_iconst (0 : Int32) dX11_left_18 (by decide) ?_
    refine sw_istore_n (lv' := [(2, .int (0 : Int32)), (0, .ref (b + 163)), (1, .int x1)]) dX11_left_19 rfl (by decide) rfl ?_
    refine SW.sub (lv' := [(0, .ref (b + 163)), (1, .int x1), (2, .int (0 : Int32))]) [1, 2, 0] rfl ?_
    refine w_X11_left_L20 h0 x1 (fun u_5 => ?_) q_F (0 : Int32) u_2
    refine sw_iconst (0 : Int32) dX11_left_46 (by decide) ?_
    refine sw_istore_n (lv' := [(2, .int (0 : Int32)), (0, .ref (b + 163)), (1, .int x1)]) dX11_left_47 rfl (by decide) rfl ?_
    refine SW.sub (lv' := [(0, .ref (b + 163)), (1, .int x1), (2, .int (0 : Int32))]) [1, 2, 0] rfl ?_
    refine w_X11_left_L48 h0 x1 (fun u_14 => ?_) q_F (0 : Int32) u_5
    refine sw_aload_n 0 dX11_left_171 rfl rfl ?_
    refine sw_getr q_cl11 50 (r := 185) dX11_left_172 t_1095 (by decide) h0.1 rfl ?_
    refine sw_iload_n 1 dX11_left_175 rfl rfl ?_
    refine sw_iald dX11_left_176 h0.2.2.2.2.2.2.2.2.2.2.2.2.2.2.2.2.2.2.2.2.2.2.1 (fun a => ?_)
    exact sw_iret dX11_left_177
set_option maxRecDepth 100000 in
theorem w_X11_seatsOf_L4 {ι : qI} {b : Nat}  (h0 : is_X11 ι) (x1 : Int32) {K39 : Int32 → qS → qR} (hK39 : ∀ (e2 : Int32) (u : qS), SW RX11 cX11_seatsOf 4 (some .int) 2 ι b 39 [(2, .int e2)] [] u (K39 e2 u)) (fu : Nat) (x2 : Int32) (x3 : Int32) (u : qS) : SW RX11 cX11_seatsOf 4 (some .int) 2 ι b 4 [(0, .ref (b + 163)), (1, .int x1), (2, .int x2), (3, .int x3)] [] u (q_it2 (m_X11_seatsOf_L4 x1 K39) fu x2 x3 u) := by
  refine SW.it2 (fun x2 x3 => [(0, .ref (b + 163)), (1, .int x1), (2, .int x2), (3, .int x3)]) (fun self ih x2 x3 u => ?_) fu x2 x3 u
  unfold m_X11_seatsOf_L4
  refine sw_iload_n 3 dX11_seatsOf_4 rfl rfl ?_
  refine sw_aload_n 0 dX11_seatsOf_5 rfl rfl ?_
  refine sw_geti q_cl11 6 dX11_seatsOf_6 t_1051 (by decide) h0.1 rfl ?_
  refine sw_icmp_ge 39 dX11_seatsOf_9 (by decide) ?_ ?_
  · exact SW.sub [2] rfl (hK39 x2 u)
  · refine sw_aload_n 0 dX11_seatsOf_12 rfl rfl ?_
    refine sw_iload_n 1 dX11_seatsOf_13 rfl rfl ?_
    refine sw_iload_n 3 dX11_seatsOf_14 rfl rfl ?_
    refine sw_callVi (As := [.int x1, .int x3]) (k := 163) rfl dX11_seatsOf_15 t_1438 mf_X11_has h0.1 q_cl11 (by decide) (Nat.le_of_ble_eq_true rfl) (fun l => c_X11_has l x1 x3 u h0) (fun r u_1 => ?_)
    refine SW.jn1 33 (fun x2_2 => [(0, .ref (b + 163)), (1, .int x1), (2, .int x2_2), (3, .int x3)]) (fun x2_2 => []) (fun x2_2 u_3 => ?_) (fun J33 hJ33 => ?_)
    · refine sw_iinc (lv' := [(3, .int (x3 + (1 : Int32))), (0, .ref (b + 163)), (1, .int x1), (2, .int x2_2)]) 3 dX11_seatsOf_33 rfl (congrArg (x3 + ·) (by decide)) (by decide) rfl ?_
      refine sw_goto 4 dX11_seatsOf_36 (by decide) ?_
      exact SW.sub [1, 2, 3, 0] rfl (ih x2_2 (x3 + (1 : Int32)) u_3)
    · refine sw_if_eq 33 dX11_seatsOf_18 (by decide) ?_ ?_
      · exact SW.sub [0, 1, 2, 3] rfl (hJ33 x2 u_1)
      · refine sw_iload_n 2 dX11_seatsOf_21 rfl rfl ?_
        refine sw_aload_n 0 dX11_seatsOf_22 rfl rfl ?_
        refine sw_getr q_cl11 1 (r := 164) dX11_seatsOf_23 t_1046 (by decide) h0.1 rfl ?_
        refine sw_bipush (10 : Int32) dX11_seatsOf_26 (by decide) ?_
        refine sw_iload_n 3 dX11_seatsOf_28 rfl rfl ?_
        refine sw_iadd dX11_seatsOf_29 ?_
        refine sw_iald dX11_seatsOf_30 h0.2.1 (fun a => ?_)
        refine sw_iadd dX11_seatsOf_31 ?_
        refine SW.name (fun y2 => ?_)
        refine sw_istore_n (lv' := [(2, .int y2), (0, .ref (b + 163)), (1, .int x1), (3, .int x3)]) dX11_seatsOf_32 rfl (by decide) rfl ?_
        exact SW.sub [1, 2, 0, 3] rfl (hJ33 y2 u_1)
set_option maxRecDepth 100000 in
theorem c_X11_seatsOf (l : Launch) {ι : qI} {b : Nat}  (x1 : Int32) (u : qS) (h0 : is_X11 ι) : CN l yX11_seatsOf cX11_seatsOf 4 (some .int) 2 ι b [.ref (b + 163), .int x1] u (m_X11_seatsOf x1 u) := by
  refine CN.of_SW (own := RX11) rfl (by decide) (Nat.le_of_ble_eq_true rfl) [(0, .ref (b + 163)), (1, .int x1)] rfl ?_
  unfold m_X11_seatsOf
  refine sw_iconst (0 : Int32) dX11_seatsOf_0 (by decide) ?_
  refine sw_istore_n (lv' := [(2, .int (0 : Int32)), (0, .ref (b + 163)), (1, .int x1)]) dX11_seatsOf_1 rfl (by decide) rfl ?_
  refine sw_iconst (0 : Int32) dX11_seatsOf_2 (by decide) ?_
  refine sw_istore_n (lv' := [(3, .int (0 : Int32)), (2, .int (0 : Int32)), (0, .ref (b + 163)), (1, .int x1)]) dX11_seatsOf_3 rfl (by decide) rfl ?_
  refine SW.sub (lv' := [(0, .ref (b + 163)), (1, .int x1), (2, .int (0 : Int32)), (3, .int (0 : Int32))]) [2, 3, 1, 0] rfl ?_
  refine w_X11_seatsOf_L4 h0 x1 (fun x2 u_4 => ?_) q_F (0 : Int32) (0 : Int32) u
  refine sw_iload_n 0 dX11_seatsOf_39 rfl rfl ?_
  exact sw_iret dX11_seatsOf_40
set_option maxRecDepth 100000 in
theorem c_X11_doesRule (l : Launch) {ι : qI} {b : Nat}  (x1 : Int32) (u : qS) (h0 : is_X11 ι) : CN l yX11_doesRule cX11_doesRule 2 (some .boolean) 3 ι b [.ref (b + 163), .int x1] u (m_X11_doesRule x1 u) := by
  refine CN.of_SW (own := RX11) rfl (by decide) (Nat.le_of_ble_eq_true rfl) [(0, .ref (b + 163)), (1, .int x1)] rfl ?_
  unfold m_X11_doesRule
  refine sw_iconst (2 : Int32) dX11_doesRule_0 (by decide) ?_
  refine sw_aload_n 0 dX11_doesRule_1 rfl rfl ?_
  refine sw_iload_n 1 dX11_doesRule_2 rfl rfl ?_
  refine sw_callVi (As := [.int x1]) (k := 163) rfl dX11_doesRule_3 t_1678 mf_X11_seatsOf h0.1 q_cl11 (by decide) (Nat.le_of_ble_eq_true rfl) (fun l => c_X11_seatsOf l x1 u h0) (fun r u_1 => ?_)
  refine sw_imul dX11_doesRule_6 ?_
  refine sw_aload_n 0 dX11_doesRule_7 rfl rfl ?_
  refine sw_iconst (1 : Int32) dX11_doesRule_8 (by decide) ?_
  refine sw_aload_n 0 dX11_doesRule_9 rfl rfl ?_
  refine sw_geti q_cl11 6 dX11_doesRule_10 t_1051 (by decide) h0.1 rfl ?_
  refine sw_ishl dX11_doesRule_13 ?_
  refine sw_iconst (1 : Int32) dX11_doesRule_14 (by decide) ?_
  refine sw_isub dX11_doesRule_15 ?_
  refine sw_callVi (As := [.int (((1 : Int32) <<< ((u_1.1 163 6) &&& 31)) - (1 : Int32))]) (k := 163) rfl dX11_doesRule_16 t_1678 mf_X11_seatsOf h0.1 q_cl11 (by decide) (Nat.le_of_ble_eq_true rfl) (fun l => c_X11_seatsOf l (((1 : Int32) <<< ((u_1.1 163 6) &&& 31)) - (1 : Int32)) u_1 h0) (fun r_2 u_3 => ?_)
  refine sw_icmp_le 26 dX11_doesRule_19 (by decide) ?_ ?_
  · refine sw_iconst (0 : Int32) dX11_doesRule_26 (by decide) ?_
    exact sw_zret0 dX11_doesRule_27
  · refine sw_iconst (1 : Int32) dX11_doesRule_22 (by decide) ?_
    refine sw_goto 27 dX11_doesRule_23 (by decide) ?_
    exact sw_zret1 dX11_doesRule_27
set_option maxRecDepth 100000 in
theorem w_X11_rules_L21 {ι : qI} {b : Nat}  (h0 : is_X11 ι) (x1 : Int32) {K65 : Int32 → qS → qR} (hK65 : ∀ (e2 : Int32) (u : qS), SW RX11 cX11_rules 4 (some .int) 4 ι b 65 [(0, .ref (b + 163)), (1, .int x1), (2, .int e2)] [] u (K65 e2 u)) (fu : Nat) (x2 : Int32) (x3 : Int32) (u : qS) : SW RX11 cX11_rules 4 (some .int) 4 ι b 21 [(0, .ref (b + 163)), (1, .int x1), (2, .int x2), (3, .int x3)] [] u (q_it2 (m_X11_rules_L21 x1 K65) fu x2 x3 u) := by
  refine SW.it2 (fun x2 x3 => [(0, .ref (b + 163)), (1, .int x1), (2, .int x2), (3, .int x3)]) (fun self ih x2 x3 u => ?_) fu x2 x3 u
  unfold m_X11_rules_L21
  refine sw_iload_n 3 dX11_rules_21 rfl rfl ?_
  refine sw_iconst (1 : Int32) dX11_rules_22 (by decide) ?_
  refine sw_aload_n 0 dX11_rules_23 rfl rfl ?_
  refine sw_geti q_cl11 6 dX11_rules_24 t_1051 (by decide) h0.1 rfl ?_
  refine sw_ishl dX11_rules_27 ?_
  refine sw_icmp_ge 65 dX11_rules_28 (by decide) ?_ ?_
  · exact SW.sub [0, 1, 2] rfl (hK65 x2 u)
  · refine sw_iload_n 2 dX11_rules_31 rfl rfl ?_
    refine sw_iconst (-1 : Int32) dX11_rules_32 (by decide) ?_
    refine SW.jn1 59 (fun x2_3 => [(0, .ref (b + 163)), (1, .int x1), (2, .int x2_3), (3, .int x3)]) (fun x2_3 => []) (fun x2_3 u_4 => ?_) (fun J59 hJ59 => ?_)
    · refine sw_iinc (lv' := [(3, .int (x3 + (1 : Int32))), (0, .ref (b + 163)), (1, .int x1), (2, .int x2_3)]) 3 dX11_rules_59 rfl (congrArg (x3 + ·) (by decide)) (by decide) rfl ?_
      refine sw_goto 21 dX11_rules_62 (by decide) ?_
      exact SW.sub [1, 2, 3, 0] rfl (ih x2_3 (x3 + (1 : Int32)) u_4)
    · refine SW.jn0 49 ([(0, .ref (b + 163)), (1, .int x1), (2, .int x2), (3, .int x3)]) ([]) (fun  u_5 => ?_) (fun J49 hJ49 => ?_)
      · refine sw_aload_n 0 dX11_rules_49 rfl rfl ?_
        refine sw_iload_n 3 dX11_rules_50 rfl rfl ?_
        refine sw_callVi (As := [.int x3]) (k := 163) rfl dX11_rules_51 t_1674 mf_X11_doesRule h0.1 q_cl11 (by decide) (Nat.le_of_ble_eq_true rfl) (fun l => c_X11_doesRule l x3 u_5 h0) (fun r u_6 => ?_)
        refine sw_if_eq 59 dX11_rules_54 (by decide) ?_ ?_
        · exact SW.sub [0, 1, 2, 3] rfl (hJ59 x2 u_6)
        · refine sw_iload_n 3 dX11_rules_57 rfl rfl ?_
          refine sw_istore_n (lv' := [(2, .int x3), (0, .ref (b + 163)), (1, .int x1), (3, .int x3)]) dX11_rules_58 rfl (by decide) rfl ?_
          exact SW.sub [1, 2, 0, 3] rfl (hJ59 x3 u_6)
      · refine sw_icmp_eq 49 dX11_rules_33 (by decide) ?_ ?_
        · exact SW.sub [0, 1, 2, 3] rfl (hJ49  u)
        · refine sw_aload_n 0 dX11_rules_36 rfl rfl ?_
          refine sw_iload_n 3 dX11_rules_37 rfl rfl ?_
          refine sw_callVi (As := [.int x3]) (k := 163) rfl dX11_rules_38 t_1636 mf_X11_onesOf h0.1 q_cl11 (by decide) (Nat.le_of_ble_eq_true rfl) (fun l => c_X11_onesOf l x3 u h0) (fun r_7 u_8 => ?_)
          refine sw_aload_n 0 dX11_rules_41 rfl rfl ?_
          refine sw_iload_n 2 dX11_rules_42 rfl rfl ?_
          refine sw_callVi (As := [.int x2]) (k := 163) rfl dX11_rules_43 t_1636 mf_X11_onesOf h0.1 q_cl11 (by decide) (Nat.le_of_ble_eq_true rfl) (fun l => c_X11_onesOf l x2 u_8 h0) (fun r_9 u_10 => ?_)
          refine sw_icmp_ge 59 dX11_rules_46 (by decide) ?_ ?_
          · exact SW.sub [0, 1, 2, 3] rfl (hJ59 x2 u_10)
          · exact SW.sub [0, 1, 2, 3] rfl (hJ49  u_10)
set_option maxRecDepth 100000 in
theorem c_X11_rules (l : Launch) {ι : qI} {b : Nat}  (x1 : Int32) (u : qS) (h0 : is_X11 ι) : CN l yX11_rules cX11_rules 4 (some .int) 4 ι b [.ref (b + 163), .int x1] u (m_X11_rules x1 u) := by
  refine CN.of_SW (own := RX11) rfl (by decide) (Nat.le_of_ble_eq_true rfl) [(0, .ref (b + 163)), (1, .int x1)] rfl ?_
  unfold m_X11_rules
  refine sw_aload_n 0 dX11_rules_0 rfl rfl ?_
  refine sw_iconst (0 : Int32) dX11_rules_1 (by decide) ?_
  refine sw_puti q_cl11 0 dX11_rules_2 t_1045 (by decide) (by decide +kernel) rfl h0.1 rfl (fun u_1 => ?_)
  refine sw_aload_n 0 dX11_rules_5 rfl rfl ?_
  refine sw_iload_n 1 dX11_rules_6 rfl rfl ?_
  refine sw_iconst (0 : Int32) dX11_rules_7 (by decide) ?_
  refine sw_iconst (1 : Int32) dX11_rules_8 (by decide) ?_
  refine sw_callVi (As := [.int x1, .int (0 : Int32), .int (1 : Int32)]) (k := 163) rfl dX11_rules_9 t_1226 mf_X11_isIn h0.1 q_cl11 (by decide) (Nat.le_of_ble_eq_true rfl) (fun l => c_X11_isIn l x1 (0 : Int32) (1 : Int32) u_1 h0) (fun r u_2 => ?_)
  refine sw_if_ne 17 dX11_rules_12 (by decide) ?_ ?_
  · refine sw_iconst (-1 : Int32) dX11_rules_15 (by decide) ?_
    exact sw_iret dX11_rules_16
  · refine sw_iconst (-1 : Int32) dX11_rules_17 (by decide) ?_
    refine sw_istore_n (lv' := [(2, .int (-1 : Int32)), (0, .ref (b + 163)), (1, .int x1)]) dX11_rules_18 rfl (by decide) rfl ?_
    refine sw_iconst (0 : Int32) dX11_rules_19 (by decide) ?_
    refine sw_istore_n (lv' := [(3, .int (0 : Int32)), (2, .int (-1 : Int32)), (0, .ref (b + 163)), (1, .int x1)]) dX11_rules_20 rfl (by decide) rfl ?_
    refine SW.sub (lv' := [(0, .ref (b + 163)), (1, .int x1), (2, .int (-1 : Int32)), (3, .int (0 : Int32))]) [2, 3, 1, 0] rfl ?_
    refine w_X11_rules_L21 h0 x1 (fun x2 u_11 => ?_) q_F (-1 : Int32) (0 : Int32) u_2
    refine sw_iload_n 2 dX11_rules_65 rfl rfl ?_
    refine sw_iconst (-1 : Int32) dX11_rules_66 (by decide) ?_
    refine SW.jn0 75 ([(2, .int x2)]) ([]) (fun  u_12 => ?_) (fun J75 hJ75 => ?_)
    · refine sw_iload_n 0 dX11_rules_75 rfl rfl ?_
      refine sw_goto 84 dX11_rules_76 (by decide) ?_
      exact sw_iret dX11_rules_84
    · refine sw_icmp_eq 75 dX11_rules_67 (by decide) ?_ ?_
      · exact SW.sub [2] rfl (hJ75  u_11)
      · refine sw_iload_n 1 dX11_rules_70 rfl rfl ?_
        refine sw_iconst (1 : Int32) dX11_rules_71 (by decide) ?_
        refine sw_icmp_ne 79 dX11_rules_72 (by decide) ?_ ?_
        · exact SW.sub [2] rfl (hJ75  u_11)
        · refine sw_aload_n 0 dX11_rules_79 rfl rfl ?_
          refine sw_iload_n 2 dX11_rules_80 rfl rfl ?_
          refine sw_callVi (As := [.int x2]) (k := 163) rfl dX11_rules_81 t_1636 mf_X11_onesOf h0.1 q_cl11 (by decide) (Nat.le_of_ble_eq_true rfl) (fun l => c_X11_onesOf l x2 u_11 h0) (fun r_13 u_14 => ?_)
          exact sw_iret dX11_rules_84
set_option maxRecDepth 100000 in
theorem w_X11_weighs_L19 {ι : qI} {b : Nat}  (h0 : is_X11 ι) (x1 : Int32) {K68 : Int32 → qS → qR} (hK68 : ∀ (e2 : Int32) (u : qS), SW RX11 cX11_weighs 4 (some .int) 4 ι b 68 [(2, .int e2)] [] u (K68 e2 u)) (fu : Nat) (x2 : Int32) (x3 : Int32) (u : qS) : SW RX11 cX11_weighs 4 (some .int) 4 ι b 19 [(0, .ref (b + 163)), (1, .int x1), (2, .int x2), (3, .int x3)] [] u (q_it2 (m_X11_weighs_L19 x1 K68) fu x2 x3 u) := by
  refine SW.it2 (fun x2 x3 => [(0, .ref (b + 163)), (1, .int x1), (2, .int x2), (3, .int x3)]) (fun self ih x2 x3 u => ?_) fu x2 x3 u
  unfold m_X11_weighs_L19
  refine sw_iload_n 3 dX11_weighs_19 rfl rfl ?_
  refine sw_iconst (1 : Int32) dX11_weighs_20 (by decide) ?_
  refine sw_aload_n 0 dX11_weighs_21 rfl rfl ?_
  refine sw_geti q_cl11 6 dX11_weighs_22 t_1051 (by decide) h0.1 rfl ?_
  refine sw_ishl dX11_weighs_25 ?_
  refine sw_icmp_ge 68 dX11_weighs_26 (by decide) ?_ ?_
  · exact SW.sub [2] rfl (hK68 x2 u)
  · refine sw_aload_n 0 dX11_weighs_29 rfl rfl ?_
    refine sw_iload_n 3 dX11_weighs_30 rfl rfl ?_
    refine sw_iload_n 1 dX11_weighs_31 rfl rfl ?_
    refine sw_callVi (As := [.int x3, .int x1]) (k := 163) rfl dX11_weighs_32 t_1438 mf_X11_has h0.1 q_cl11 (by decide) (Nat.le_of_ble_eq_true rfl) (fun l => c_X11_has l x3 x1 u h0) (fun r u_3 => ?_)
    refine SW.jn1 62 (fun x2_4 => [(0, .ref (b + 163)), (1, .int x1), (2, .int x2_4), (3, .int x3)]) (fun x2_4 => []) (fun x2_4 u_5 => ?_) (fun J62 hJ62 => ?_)
    · refine sw_iinc (lv' := [(3, .int (x3 + (1 : Int32))), (0, .ref (b + 163)), (1, .int x1), (2, .int x2_4)]) 3 dX11_weighs_62 rfl (congrArg (x3 + ·) (by decide)) (by decide) rfl ?_
      refine sw_goto 19 dX11_weighs_65 (by decide) ?_
      exact SW.sub [1, 2, 3, 0] rfl (ih x2_4 (x3 + (1 : Int32)) u_5)
    · refine sw_if_ne 62 dX11_weighs_35 (by decide) ?_ ?_
      · refine sw_aload_n 0 dX11_weighs_38 rfl rfl ?_
        refine sw_iload_n 3 dX11_weighs_39 rfl rfl ?_
        refine sw_callVi (As := [.int x3]) (k := 163) rfl dX11_weighs_40 t_1674 mf_X11_doesRule h0.1 q_cl11 (by decide) (Nat.le_of_ble_eq_true rfl) (fun l => c_X11_doesRule l x3 u_3 h0) (fun r_6 u_7 => ?_)
        refine sw_if_ne 62 dX11_weighs_43 (by decide) ?_ ?_
        · refine sw_aload_n 0 dX11_weighs_46 rfl rfl ?_
          refine sw_iload_n 3 dX11_weighs_47 rfl rfl ?_
          refine sw_iconst (1 : Int32) dX11_weighs_48 (by decide) ?_
          refine sw_iload_n 1 dX11_weighs_49 rfl rfl ?_
          refine sw_ishl dX11_weighs_50 ?_
          refine sw_ior dX11_weighs_51 ?_
          refine sw_callVi (As := [.int (x3 ||| ((1 : Int32) <<< (x1 &&& 31)))]) (k := 163) rfl dX11_weighs_52 t_1674 mf_X11_doesRule h0.1 q_cl11 (by decide) (Nat.le_of_ble_eq_true rfl) (fun l => c_X11_doesRule l (x3 ||| ((1 : Int32) <<< (x1 &&& 31))) u_7 h0) (fun r_8 u_9 => ?_)
          refine sw_if_eq 62 dX11_weighs_55 (by decide) ?_ ?_
          · exact SW.sub [0, 1, 2, 3] rfl (hJ62 x2 u_9)
          · refine sw_iload_n 2 dX11_weighs_58 rfl rfl ?_
            refine sw_iconst (1 : Int32) dX11_weighs_59 (by decide) ?_
            refine sw_iadd dX11_weighs_60 ?_
            refine SW.name (fun y2 => ?_)
            refine sw_istore_n (lv' := [(2, .int y2), (0, .ref (b + 163)), (1, .int x1), (3, .int x3)]) dX11_weighs_61 rfl (by decide) rfl ?_
            exact SW.sub [1, 2, 0, 3] rfl (hJ62 y2 u_9)
        · exact SW.sub [0, 1, 2, 3] rfl (hJ62 x2 u_7)
      · exact SW.sub [0, 1, 2, 3] rfl (hJ62 x2 u_3)
set_option maxRecDepth 100000 in
theorem c_X11_weighs (l : Launch) {ι : qI} {b : Nat}  (x1 : Int32) (u : qS) (h0 : is_X11 ι) : CN l yX11_weighs cX11_weighs 4 (some .int) 4 ι b [.ref (b + 163), .int x1] u (m_X11_weighs x1 u) := by
  refine CN.of_SW (own := RX11) rfl (by decide) (Nat.le_of_ble_eq_true rfl) [(0, .ref (b + 163)), (1, .int x1)] rfl ?_
  unfold m_X11_weighs
  refine sw_aload_n 0 dX11_weighs_0 rfl rfl ?_
  refine sw_iconst (0 : Int32) dX11_weighs_1 (by decide) ?_
  refine sw_puti q_cl11 0 dX11_weighs_2 t_1045 (by decide) (by decide +kernel) rfl h0.1 rfl (fun u_1 => ?_)
  refine sw_aload_n 0 dX11_weighs_5 rfl rfl ?_
  refine sw_iload_n 1 dX11_weighs_6 rfl rfl ?_
  refine sw_callVi (As := [.int x1]) (k := 163) rfl dX11_weighs_7 t_1242 mf_X11_isParty h0.1 q_cl11 (by decide) (Nat.le_of_ble_eq_true rfl) (fun l => c_X11_isParty l x1 u_1 h0) (fun r u_2 => ?_)
  refine sw_if_ne 15 dX11_weighs_10 (by decide) ?_ ?_
  · refine sw_iconst (-1 : Int32) dX11_weighs_13 (by decide) ?_
    exact sw_iret dX11_weighs_14
  · refine sw_iconst (0 : Int32) dX11_weighs_15 (by decide) ?_
    refine sw_istore_n (lv' := [(2, .int (0 : Int32)), (0, .ref (b + 163)), (1, .int x1)]) dX11_weighs_16 rfl (by decide) rfl ?_
    refine sw_iconst (0 : Int32) dX11_weighs_17 (by decide) ?_
    refine sw_istore_n (lv' := [(3, .int (0 : Int32)), (2, .int (0 : Int32)), (0, .ref (b + 163)), (1, .int x1)]) dX11_weighs_18 rfl (by decide) rfl ?_
    refine SW.sub (lv' := [(0, .ref (b + 163)), (1, .int x1), (2, .int (0 : Int32)), (3, .int (0 : Int32))]) [2, 3, 1, 0] rfl ?_
    refine w_X11_weighs_L19 h0 x1 (fun x2 u_10 => ?_) q_F (0 : Int32) (0 : Int32) u_2
    refine sw_iload_n 0 dX11_weighs_68 rfl rfl ?_
    exact sw_iret dX11_weighs_69
set_option maxRecDepth 100000 in
theorem w_X11_lasts_L19 {ι : qI} {b : Nat}  (h0 : is_X11 ι) (x1 : Int32) {K50 : Int32 → qS → qR} (hK50 : ∀ (e2 : Int32) (u : qS), SW RX11 cX11_lasts 4 (some .int) 6 ι b 50 [(0, .ref (b + 163)), (1, .int x1), (2, .int e2)] [] u (K50 e2 u)) (fu : Nat) (x2 : Int32) (x3 : Int32) (u : qS) : SW RX11 cX11_lasts 4 (some .int) 6 ι b 19 [(0, .ref (b + 163)), (1, .int x1), (2, .int x2), (3, .int x3)] [] u (q_it2 (m_X11_lasts_L19 x1 K50) fu x2 x3 u) := by
  refine SW.it2 (fun x2 x3 => [(0, .ref (b + 163)), (1, .int x1), (2, .int x2), (3, .int x3)]) (fun self ih x2 x3 u => ?_) fu x2 x3 u
  unfold m_X11_lasts_L19
  refine sw_iload_n 3 dX11_lasts_19 rfl rfl ?_
  refine sw_aload_n 0 dX11_lasts_20 rfl rfl ?_
  refine sw_geti q_cl11 7 dX11_lasts_21 t_1052 (by decide) h0.1 rfl ?_
  refine sw_icmp_ge 50 dX11_lasts_24 (by decide) ?_ ?_
  · exact SW.sub [0, 1, 2] rfl (hK50 x2 u)
  · refine sw_aload_n 0 dX11_lasts_27 rfl rfl ?_
    refine sw_iload_n 3 dX11_lasts_28 rfl rfl ?_
    refine sw_iload_n 1 dX11_lasts_29 rfl rfl ?_
    refine sw_callVi (As := [.int x3, .int x1]) (k := 163) rfl dX11_lasts_30 t_1514 mf_X11_tasteOf h0.1 q_cl11 (by decide) (Nat.le_of_ble_eq_true rfl) (fun l => c_X11_tasteOf l x3 x1 u h0) (fun r u_3 => ?_)
    refine SW.jn1 44 (fun x2_4 => [(0, .ref (b + 163)), (1, .int x1), (2, .int x2_4), (3, .int x3)]) (fun x2_4 => []) (fun x2_4 u_5 => ?_) (fun J44 hJ44 => ?_)
    · refine sw_iinc (lv' := [(3, .int (x3 + (1 : Int32))), (0, .ref (b + 163)), (1, .int x1), (2, .int x2_4)]) 3 dX11_lasts_44 rfl (congrArg (x3 + ·) (by decide)) (by decide) rfl ?_
      refine sw_goto 19 dX11_lasts_47 (by decide) ?_
      exact SW.sub [1, 2, 3, 0] rfl (ih x2_4 (x3 + (1 : Int32)) u_5)
    · refine sw_if_le 44 dX11_lasts_33 (by decide) ?_ ?_
      · exact SW.sub [0, 1, 2, 3] rfl (hJ44 x2 u_3)
      · refine sw_iload_n 2 dX11_lasts_36 rfl rfl ?_
        refine sw_aload_n 0 dX11_lasts_37 rfl rfl ?_
        refine sw_iload_n 3 dX11_lasts_38 rfl rfl ?_
        refine sw_callVi (As := [.int x3]) (k := 163) rfl dX11_lasts_39 t_1502 mf_X11_wantOf h0.1 q_cl11 (by decide) (Nat.le_of_ble_eq_true rfl) (fun l => c_X11_wantOf l x3 u_3 h0) (fun r_6 u_7 => ?_)
        refine sw_iadd dX11_lasts_42 ?_
        refine SW.name (fun y2 => ?_)
        refine sw_istore_n (lv' := [(2, .int y2), (0, .ref (b + 163)), (1, .int x1), (3, .int x3)]) dX11_lasts_43 rfl (by decide) rfl ?_
        exact SW.sub [1, 2, 0, 3] rfl (hJ44 y2 u_7)
set_option maxRecDepth 100000 in
theorem c_X11_lasts (l : Launch) {ι : qI} {b : Nat}  (x1 : Int32) (u : qS) (h0 : is_X11 ι) : CN l yX11_lasts cX11_lasts 4 (some .int) 6 ι b [.ref (b + 163), .int x1] u (m_X11_lasts x1 u) := by
  refine CN.of_SW (own := RX11) rfl (by decide) (Nat.le_of_ble_eq_true rfl) [(0, .ref (b + 163)), (1, .int x1)] rfl ?_
  unfold m_X11_lasts
  refine sw_aload_n 0 dX11_lasts_0 rfl rfl ?_
  refine sw_iconst (0 : Int32) dX11_lasts_1 (by decide) ?_
  refine sw_puti q_cl11 0 dX11_lasts_2 t_1045 (by decide) (by decide +kernel) rfl h0.1 rfl (fun u_1 => ?_)
  refine sw_aload_n 0 dX11_lasts_5 rfl rfl ?_
  refine sw_iload_n 1 dX11_lasts_6 rfl rfl ?_
  refine sw_callVi (As := [.int x1]) (k := 163) rfl dX11_lasts_7 t_1242 mf_X11_isParty h0.1 q_cl11 (by decide) (Nat.le_of_ble_eq_true rfl) (fun l => c_X11_isParty l x1 u_1 h0) (fun r u_2 => ?_)
  refine sw_if_ne 15 dX11_lasts_10 (by decide) ?_ ?_
  · refine sw_iconst (-1 : Int32) dX11_lasts_13 (by decide) ?_
    exact sw_iret dX11_lasts_14
  · refine sw_iconst (0 : Int32) dX11_lasts_15 (by decide) ?_
    refine sw_istore_n (lv' := [(2, .int (0 : Int32)), (0, .ref (b + 163)), (1, .int x1)]) dX11_lasts_16 rfl (by decide) rfl ?_
    refine sw_iconst (0 : Int32) dX11_lasts_17 (by decide) ?_
    refine sw_istore_n (lv' := [(3, .int (0 : Int32)), (2, .int (0 : Int32)), (0, .ref (b + 163)), (1, .int x1)]) dX11_lasts_18 rfl (by decide) rfl ?_
    refine SW.sub (lv' := [(0, .ref (b + 163)), (1, .int x1), (2, .int (0 : Int32)), (3, .int (0 : Int32))]) [2, 3, 1, 0] rfl ?_
    refine w_X11_lasts_L19 h0 x1 (fun x2 u_8 => ?_) q_F (0 : Int32) (0 : Int32) u_2
    refine sw_iload_n 2 dX11_lasts_50 rfl rfl ?_
    refine sw_if_ne 58 dX11_lasts_51 (by decide) ?_ ?_
    · refine sw_iconst (-1 : Int32) dX11_lasts_54 (by decide) ?_
      refine sw_goto 73 dX11_lasts_55 (by decide) ?_
      exact sw_iret dX11_lasts_73
    · refine sw_aload_n 0 dX11_lasts_58 rfl rfl ?_
      refine sw_getr q_cl11 1 (r := 164) dX11_lasts_59 t_1046 (by decide) h0.1 rfl ?_
      refine sw_bipush (15 : Int32) dX11_lasts_62 (by decide) ?_
      refine sw_iload_n 1 dX11_lasts_64 rfl rfl ?_
      refine sw_iadd dX11_lasts_65 ?_
      refine sw_iald dX11_lasts_66 h0.2.1 (fun a => ?_)
      refine sw_iload_n 2 dX11_lasts_67 rfl rfl ?_
      refine sw_iadd dX11_lasts_68 ?_
      refine sw_iconst (1 : Int32) dX11_lasts_69 (by decide) ?_
      refine sw_isub dX11_lasts_70 ?_
      refine sw_iload_n 2 dX11_lasts_71 rfl rfl ?_
      refine sw_idiv dX11_lasts_72 (fun a_9 => ?_)
      exact sw_iret dX11_lasts_73
set_option maxRecDepth 100000 in
theorem c_X11_meets (l : Launch) {ι : qI} {b : Nat}  (x1 : Int32) (x2 : Int32) (u : qS) (h0 : is_X11 ι) : CN l yX11_meets cX11_meets 3 (some .int) 2 ι b [.ref (b + 163), .int x1, .int x2] u (m_X11_meets x1 x2 u) := by
  refine CN.of_SW (own := RX11) rfl (by decide) (Nat.le_of_ble_eq_true rfl) [(0, .ref (b + 163)), (1, .int x1), (2, .int x2)] rfl ?_
  unfold m_X11_meets
  refine sw_aload_n 0 dX11_meets_0 rfl rfl ?_
  refine sw_iconst (0 : Int32) dX11_meets_1 (by decide) ?_
  refine sw_puti q_cl11 0 dX11_meets_2 t_1045 (by decide) (by decide +kernel) rfl h0.1 rfl (fun u_1 => ?_)
  refine sw_aload_n 0 dX11_meets_5 rfl rfl ?_
  refine sw_iload_n 1 dX11_meets_6 rfl rfl ?_
  refine sw_callVi (As := [.int x1]) (k := 163) rfl dX11_meets_7 t_1238 mf_X11_isEater h0.1 q_cl11 (by decide) (Nat.le_of_ble_eq_true rfl) (fun l => c_X11_isEater l x1 u_1 h0) (fun r u_2 => ?_)
  refine sw_if_eq 35 dX11_meets_10 (by decide) ?_ ?_
  · refine sw_iconst (-1 : Int32) dX11_meets_35 (by decide) ?_
    exact sw_iret dX11_meets_36
  · refine sw_aload_n 0 dX11_meets_13 rfl rfl ?_
    refine sw_iload_n 2 dX11_meets_14 rfl rfl ?_
    refine sw_callVi (As := [.int x2]) (k := 163) rfl dX11_meets_15 t_1238 mf_X11_isEater h0.1 q_cl11 (by decide) (Nat.le_of_ble_eq_true rfl) (fun l => c_X11_isEater l x2 u_2 h0) (fun r_3 u_4 => ?_)
    refine sw_if_eq 35 dX11_meets_18 (by decide) ?_ ?_
    · refine sw_iconst (-1 : Int32) dX11_meets_35 (by decide) ?_
      exact sw_iret dX11_meets_36
    · refine sw_aload_n 0 dX11_meets_21 rfl rfl ?_
      refine sw_iload_n 1 dX11_meets_22 rfl rfl ?_
      refine sw_callVi (As := [.int x1]) (k := 163) rfl dX11_meets_23 t_1644 mf_X11_placesOf h0.1 q_cl11 (by decide) (Nat.le_of_ble_eq_true rfl) (fun l => c_X11_placesOf l x1 u_4 h0) (fun r_5 u_6 => ?_)
      refine sw_aload_n 0 dX11_meets_26 rfl rfl ?_
      refine sw_iload_n 2 dX11_meets_27 rfl rfl ?_
      refine sw_callVi (As := [.int x2]) (k := 163) rfl dX11_meets_28 t_1644 mf_X11_placesOf h0.1 q_cl11 (by decide) (Nat.le_of_ble_eq_true rfl) (fun l => c_X11_placesOf l x2 u_6 h0) (fun r_7 u_8 => ?_)
      refine sw_iand dX11_meets_31 ?_
      refine sw_goto 36 dX11_meets_32 (by decide) ?_
      exact sw_iret dX11_meets_36
set_option maxRecDepth 100000 in
theorem w_X11_game_L21 {ι : qI} {b : Nat}  (h0 : is_X11 ι) (x1 : Int32) {K51 : Int32 → qS → qR} (hK51 : ∀ (e2 : Int32) (u : qS), SW RX11 cX11_game 6 (some .int) 2 ι b 51 [(0, .ref (b + 163)), (1, .int x1), (2, .int e2)] [] u (K51 e2 u)) (fu : Nat) (x2 : Int32) (x3 : Int32) (u : qS) : SW RX11 cX11_game 6 (some .int) 2 ι b 21 [(0, .ref (b + 163)), (1, .int x1), (2, .int x2), (3, .int x3)] [] u (q_it2 (m_X11_game_L21 x1 K51) fu x2 x3 u) := by
  refine SW.it2 (fun x2 x3 => [(0, .ref (b + 163)), (1, .int x1), (2, .int x2), (3, .int x3)]) (fun self ih x2 x3 u => ?_) fu x2 x3 u
  unfold m_X11_game_L21
  refine sw_iload_n 3 dX11_game_21 rfl rfl ?_
  refine sw_aload_n 0 dX11_game_22 rfl rfl ?_
  refine sw_getr q_cl11 1 (r := 164) dX11_game_23 t_1046 (by decide) h0.1 rfl ?_
  refine sw_iconst (4 : Int32) dX11_game_26 (by decide) ?_
  refine sw_iald dX11_game_27 h0.2.1 (fun a => ?_)
  refine sw_icmp_ge 51 dX11_game_28 (by decide) ?_ ?_
  · exact SW.sub [0, 1, 2] rfl (hK51 x2 u)
  · refine sw_iload_n 2 dX11_game_31 rfl rfl ?_
    refine sw_aload_n 0 dX11_game_32 rfl rfl ?_
    refine sw_getr q_cl11 1 (r := 164) dX11_game_33 t_1046 (by decide) h0.1 rfl ?_
    refine sw_bipush (62 : Int32) dX11_game_36 (by decide) ?_
    refine sw_iload_n 3 dX11_game_38 rfl rfl ?_
    refine sw_iadd dX11_game_39 ?_
    refine sw_iald dX11_game_40 h0.2.1 (fun a_3 => ?_)
    refine sw_iconst (4 : Int32) dX11_game_41 (by decide) ?_
    refine sw_qrmc dX11_game_42 (by decide) ?_
    refine sw_ixor dX11_game_43 ?_
    refine SW.name (fun y2 => ?_)
    refine sw_istore_n (lv' := [(2, .int y2), (0, .ref (b + 163)), (1, .int x1), (3, .int x3)]) dX11_game_44 rfl (by decide) rfl ?_
    refine sw_iinc (lv' := [(3, .int (x3 + (1 : Int32))), (2, .int y2), (0, .ref (b + 163)), (1, .int x1)]) 3 dX11_game_45 rfl (congrArg (x3 + ·) (by decide)) (by decide) rfl ?_
    refine sw_goto 21 dX11_game_48 (by decide) ?_
    exact SW.sub [2, 3, 1, 0] rfl (ih y2 (x3 + (1 : Int32)) u)
set_option maxRecDepth 100000 in
theorem w_X11_game_L77 {ι : qI} {b : Nat}  (h0 : is_X11 ι) (x1 : Int32) (x2 : Int32) (x3 : Int32) (x4 : Int32) {K106 : Int32 → qS → qR} {K123 : qS → qR} (hK106 : ∀ (e5 : Int32) (u : qS), SW RX11 cX11_game 6 (some .int) 2 ι b 106 [(1, .int x1), (3, .int x3), (5, .int e5)] [] u (K106 e5 u)) (hK123 : ∀  (u : qS), SW RX11 cX11_game 6 (some .int) 2 ι b 123 [(0, .ref (b + 163)), (1, .int x1), (2, .int x2), (3, .int x3)] [] u (K123  u)) (fu : Nat) (x5 : Int32) (u : qS) : SW RX11 cX11_game 6 (some .int) 2 ι b 77 [(0, .ref (b + 163)), (1, .int x1), (2, .int x2), (3, .int x3), (4, .int x4), (5, .int x5)] [] u (q_it1 (m_X11_game_L77 x1 x2 x3 x4 K106 K123) fu x5 u) := by
  refine SW.it1 (fun x5 => [(0, .ref (b + 163)), (1, .int x1), (2, .int x2), (3, .int x3), (4, .int x4), (5, .int x5)]) (fun self ih x5 u => ?_) fu x5 u
  unfold m_X11_game_L77
  refine sw_iload 5 dX11_game_77 rfl ?_
  refine sw_aload_n 0 dX11_game_79 rfl rfl ?_
  refine sw_iconst (3 : Int32) dX11_game_80 (by decide) ?_
  refine sw_iload 4 dX11_game_81 rfl ?_
  refine sw_callVi (As := [.int (3 : Int32), .int x4]) (k := 163) rfl dX11_game_83 t_1454 mf_X11_lesser h0.1 q_cl11 (by decide) (Nat.le_of_ble_eq_true rfl) (fun l => c_X11_lesser l (3 : Int32) x4 u h0) (fun r u_6 => ?_)
  refine sw_icmp_gt 123 dX11_game_86 (by decide) ?_ ?_
  · exact SW.sub [0, 1, 2, 3] rfl (hK123  u_6)
  · refine sw_iload_n 2 dX11_game_89 rfl rfl ?_
    refine sw_iload 4 dX11_game_90 rfl ?_
    refine sw_iconst (4 : Int32) dX11_game_92 (by decide) ?_
    refine sw_qrmc dX11_game_93 (by decide) ?_
    refine sw_ixor dX11_game_94 ?_
    refine sw_iload 4 dX11_game_95 rfl ?_
    refine sw_iload 5 dX11_game_97 rfl ?_
    refine sw_isub dX11_game_99 ?_
    refine sw_iconst (4 : Int32) dX11_game_100 (by decide) ?_
    refine sw_qrmc dX11_game_101 (by decide) ?_
    refine sw_ixor dX11_game_102 ?_
    refine sw_if_ne 117 dX11_game_103 (by decide) ?_ ?_
    · exact SW.sub [1, 3, 5] rfl (hK106 x5 u_6)
    · refine sw_iinc (lv' := [(5, .int (x5 + (1 : Int32))), (0, .ref (b + 163)), (1, .int x1), (2, .int x2), (3, .int x3), (4, .int x4)]) 5 dX11_game_117 rfl (congrArg (x5 + ·) (by decide)) (by decide) rfl ?_
      refine sw_goto 77 dX11_game_120 (by decide) ?_
      exact SW.sub [1, 2, 3, 4, 5, 0] rfl (ih (x5 + (1 : Int32)) u_6)
set_option maxRecDepth 100000 in
theorem w_X11_game_L53 {ι : qI} {b : Nat}  (h0 : is_X11 ι) (x1 : Int32) (x2 : Int32) {K106 : Int32 → Int32 → qS → qR} {K129 : qS → qR} (hK106 : ∀ (e3 : Int32) (e5 : Int32) (u : qS), SW RX11 cX11_game 6 (some .int) 2 ι b 106 [(1, .int x1), (3, .int e3), (5, .int e5)] [] u (K106 e3 e5 u)) (hK129 : ∀  (u : qS), SW RX11 cX11_game 6 (some .int) 2 ι b 129 [] [] u (K129  u)) (fu : Nat) (x3 : Int32) (u : qS) : SW RX11 cX11_game 6 (some .int) 2 ι b 53 [(0, .ref (b + 163)), (1, .int x1), (2, .int x2), (3, .int x3)] [] u (q_it1 (m_X11_game_L53 x1 x2 K106 K129) fu x3 u) := by
  refine SW.it1 (fun x3 => [(0, .ref (b + 163)), (1, .int x1), (2, .int x2), (3, .int x3)]) (fun self ih x3 u => ?_) fu x3 u
  unfold m_X11_game_L53
  refine sw_iload_n 3 dX11_game_53 rfl rfl ?_
  refine sw_aload_n 0 dX11_game_54 rfl rfl ?_
  refine sw_getr q_cl11 1 (r := 164) dX11_game_55 t_1046 (by decide) h0.1 rfl ?_
  refine sw_iconst (4 : Int32) dX11_game_58 (by decide) ?_
  refine sw_iald dX11_game_59 h0.2.1 (fun a => ?_)
  refine sw_icmp_ge 129 dX11_game_60 (by decide) ?_ ?_
  · exact SW.sub [] rfl (hK129  u)
  · refine sw_aload_n 0 dX11_game_63 rfl rfl ?_
    refine sw_getr q_cl11 1 (r := 164) dX11_game_64 t_1046 (by decide) h0.1 rfl ?_
    refine sw_bipush (62 : Int32) dX11_game_67 (by decide) ?_
    refine sw_iload_n 3 dX11_game_69 rfl rfl ?_
    refine sw_iadd dX11_game_70 ?_
    refine sw_iald dX11_game_71 h0.2.1 (fun a_5 => ?_)
    refine sw_istore (lv' := [(4, .int a_5), (0, .ref (b + 163)), (1, .int x1), (2, .int x2), (3, .int x3)]) dX11_game_72 (by decide) rfl ?_
    refine sw_iconst (1 : Int32) dX11_game_74 (by decide) ?_
    refine sw_istore (lv' := [(5, .int (1 : Int32)), (4, .int a_5), (0, .ref (b + 163)), (1, .int x1), (2, .int x2), (3, .int x3)]) dX11_game_75 (by decide) rfl ?_
    refine SW.sub (lv' := [(0, .ref (b + 163)), (1, .int x1), (2, .int x2), (3, .int x3), (4, .int a_5), (5, .int (1 : Int32))]) [2, 3, 4, 5, 1, 0] rfl ?_
    refine w_X11_game_L77 h0 x1 x2 x3 a_5 (fun x5 u_7 => ?_) (fun u_8 => ?_) q_F (1 : Int32) u
    · exact SW.sub [0, 1, 2] rfl (hK106 x3 x5 u_7)
    · refine sw_iinc (lv' := [(3, .int (x3 + (1 : Int32))), (0, .ref (b + 163)), (1, .int x1), (2, .int x2)]) 3 dX11_game_123 rfl (congrArg (x3 + ·) (by decide)) (by decide) rfl ?_
      refine sw_goto 53 dX11_game_126 (by decide) ?_
      exact SW.sub [1, 2, 3, 0] rfl (ih (x3 + (1 : Int32)) u_8)
set_option maxRecDepth 100000 in
theorem c_X11_game (l : Launch) {ι : qI} {b : Nat}  (x1 : Int32) (u : qS) (h0 : is_X11 ι) : CN l yX11_game cX11_game 6 (some .int) 2 ι b [.ref (b + 163), .int x1] u (m_X11_game x1 u) := by
  refine CN.of_SW (own := RX11) rfl (by decide) (Nat.le_of_ble_eq_true rfl) [(0, .ref (b + 163)), (1, .int x1)] rfl ?_
  unfold m_X11_game
  refine sw_aload_n 0 dX11_game_0 rfl rfl ?_
  refine sw_iconst (0 : Int32) dX11_game_1 (by decide) ?_
  refine sw_puti q_cl11 0 dX11_game_2 t_1045 (by decide) (by decide +kernel) rfl h0.1 rfl (fun u_1 => ?_)
  refine sw_aload_n 0 dX11_game_5 rfl rfl ?_
  refine sw_iload_n 1 dX11_game_6 rfl rfl ?_
  refine sw_iconst (0 : Int32) dX11_game_7 (by decide) ?_
  refine sw_iconst (1 : Int32) dX11_game_8 (by decide) ?_
  refine sw_callVi (As := [.int x1, .int (0 : Int32), .int (1 : Int32)]) (k := 163) rfl dX11_game_9 t_1226 mf_X11_isIn h0.1 q_cl11 (by decide) (Nat.le_of_ble_eq_true rfl) (fun l => c_X11_isIn l x1 (0 : Int32) (1 : Int32) u_1 h0) (fun r u_2 => ?_)
  refine sw_if_ne 17 dX11_game_12 (by decide) ?_ ?_
  · refine sw_iconst (-1 : Int32) dX11_game_15 (by decide) ?_
    exact sw_iret dX11_game_16
  · refine sw_iconst (0 : Int32) dX11_game_17 (by decide) ?_
    refine sw_istore_n (lv' := [(2, .int (0 : Int32)), (0, .ref (b + 163)), (1, .int x1)]) dX11_game_18 rfl (by decide) rfl ?_
    refine sw_iconst (0 : Int32) dX11_game_19 (by decide) ?_
    refine sw_istore_n (lv' := [(3, .int (0 : Int32)), (2, .int (0 : Int32)), (0, .ref (b + 163)), (1, .int x1)]) dX11_game_20 rfl (by decide) rfl ?_
    refine SW.sub (lv' := [(0, .ref (b + 163)), (1, .int x1), (2, .int (0 : Int32)), (3, .int (0 : Int32))]) [2, 3, 1, 0] rfl ?_
    refine w_X11_game_L21 h0 x1 (fun x2 u_4 => ?_) q_F (0 : Int32) (0 : Int32) u_2
    refine sw_iconst (0 : Int32) dX11_game_51 (by decide) ?_
    refine sw_istore_n (lv' := [(3, .int (0 : Int32)), (0, .ref (b + 163)), (1, .int x1), (2, .int x2)]) dX11_game_52 rfl (by decide) rfl ?_
    refine SW.sub (lv' := [(0, .ref (b + 163)), (1, .int x1), (2, .int x2), (3, .int (0 : Int32))]) [1, 2, 3, 0] rfl ?_
    refine w_X11_game_L53 h0 x1 x2 (fun x3 x5 u_9 => ?_) (fun u_10 => ?_) q_F (0 : Int32) u_4
    · refine sw_iload_n 0 dX11_game_106 rfl rfl ?_
      refine sw_if_ne 114 dX11_game_107 (by decide) ?_ ?_
      · refine sw_iload_n 1 dX11_game_110 rfl rfl ?_
        refine sw_goto 116 dX11_game_111 (by decide) ?_
        exact sw_iret dX11_game_116
      · refine sw_iload 2 dX11_game_114 rfl ?_
        exact sw_iret dX11_game_116
    · refine sw_iconst (-1 : Int32) dX11_game_129 (by decide) ?_
      exact sw_iret dX11_game_130
set_option maxRecDepth 100000 in
theorem c_X11_keeps (l : Launch) {ι : qI} {b : Nat}  (x1 : Int32) (u : qS) (h0 : is_X11 ι) : CN l yX11_keeps cX11_keeps 2 (some .int) 1 ι b [.ref (b + 163), .int x1] u (m_X11_keeps x1 u) := by
  refine CN.of_SW (own := RX11) rfl (by decide) (Nat.le_of_ble_eq_true rfl) [(0, .ref (b + 163)), (1, .int x1)] rfl ?_
  unfold m_X11_keeps
  refine sw_aload_n 0 dX11_keeps_0 rfl rfl ?_
  refine sw_aload_n 0 dX11_keeps_1 rfl rfl ?_
  refine sw_geti q_cl11 54 dX11_keeps_2 t_1099 (by decide) h0.1 rfl ?_
  refine sw_iconst (1 : Int32) dX11_keeps_5 (by decide) ?_
  refine sw_iadd dX11_keeps_6 ?_
  refine sw_puti q_cl11 54 dX11_keeps_7 t_1099 (by decide) (by decide +kernel) rfl h0.1 rfl (fun u_1 => ?_)
  refine sw_aload_n 0 dX11_keeps_10 rfl rfl ?_
  refine sw_geti q_cl11 52 dX11_keeps_11 t_1097 (by decide) h0.1 rfl ?_
  refine sw_if_ne 29 dX11_keeps_14 (by decide) ?_ ?_
  · refine sw_aload_n 0 dX11_keeps_17 rfl rfl ?_
    refine sw_getr q_cl11 55 (r := 187) dX11_keeps_18 t_1100 (by decide) h0.1 rfl ?_
    refine sw_aload_n 0 dX11_keeps_21 rfl rfl ?_
    refine sw_geti q_cl11 54 dX11_keeps_22 t_1099 (by decide) h0.1 rfl ?_
    refine sw_iconst (1 : Int32) dX11_keeps_25 (by decide) ?_
    refine sw_isub dX11_keeps_26 ?_
    refine sw_iald dX11_keeps_27 h0.2.2.2.2.2.2.2.2.2.2.2.2.2.2.2.2.2.2.2.2.2.2.2.2 (fun a => ?_)
    exact sw_iret dX11_keeps_28
  · refine sw_aload_n 0 dX11_keeps_29 rfl rfl ?_
    refine sw_getr q_cl11 55 (r := 187) dX11_keeps_30 t_1100 (by decide) h0.1 rfl ?_
    refine sw_aload_n 0 dX11_keeps_33 rfl rfl ?_
    refine sw_geti q_cl11 54 dX11_keeps_34 t_1099 (by decide) h0.1 rfl ?_
    refine sw_iconst (1 : Int32) dX11_keeps_37 (by decide) ?_
    refine sw_isub dX11_keeps_38 ?_
    refine sw_iload_n 1 dX11_keeps_39 rfl rfl ?_
    refine sw_iast dX11_keeps_40 h0.2.2.2.2.2.2.2.2.2.2.2.2.2.2.2.2.2.2.2.2.2.2.2.2 (fun u_2 => ?_)
    refine sw_iload_n 1 dX11_keeps_41 rfl rfl ?_
    exact sw_iret dX11_keeps_42
set_option maxRecDepth 100000 in
theorem w_X11_keepsLaw_L18 {ι : qI} {b : Nat}  (h0 : is_X11 ι)  {K94 : qS → qR} (hK94 : ∀  (u : qS), SW RX11 cX11_keepsLaw 2 none 2 ι b 94 [(0, .ref (b + 163))] [] u (K94  u)) (fu : Nat) (x1 : Int32) (u : qS) : SW RX11 cX11_keepsLaw 2 none 2 ι b 18 [(0, .ref (b + 163)), (1, .int x1)] [] u (q_it1 (m_X11_keepsLaw_L18 K94) fu x1 u) := by
  refine SW.it1 (fun x1 => [(0, .ref (b + 163)), (1, .int x1)]) (fun self ih x1 u => ?_) fu x1 u
  unfold m_X11_keepsLaw_L18
  refine sw_iload_n 1 dX11_keepsLaw_18 rfl rfl ?_
  refine sw_bipush (16 : Int32) dX11_keepsLaw_19 (by decide) ?_
  refine sw_icmp_ge 94 dX11_keepsLaw_21 (by decide) ?_ ?_
  · exact SW.sub [0] rfl (hK94  u)
  · refine sw_aload_n 0 dX11_keepsLaw_24 rfl rfl ?_
    refine sw_getr q_cl11 21 (r := 171) dX11_keepsLaw_25 t_1066 (by decide) h0.1 rfl ?_
    refine sw_iload_n 1 dX11_keepsLaw_28 rfl rfl ?_
    refine sw_aload_n 0 dX11_keepsLaw_29 rfl rfl ?_
    refine sw_aload_n 0 dX11_keepsLaw_30 rfl rfl ?_
    refine sw_getr q_cl11 21 (r := 171) dX11_keepsLaw_31 t_1066 (by decide) h0.1 rfl ?_
    refine sw_iload_n 1 dX11_keepsLaw_34 rfl rfl ?_
    refine sw_iald dX11_keepsLaw_35 h0.2.2.2.2.2.2.2.2.1 (fun a => ?_)
    refine sw_callVi (As := [.int a]) (k := 163) rfl dX11_keepsLaw_36 t_1702 mf_X11_keeps h0.1 q_cl11 (by decide) (Nat.le_of_ble_eq_true rfl) (fun l => c_X11_keeps l a u h0) (fun r u_3 => ?_)
    refine sw_iast dX11_keepsLaw_39 h0.2.2.2.2.2.2.2.2.1 (fun u_4 => ?_)
    refine sw_aload_n 0 dX11_keepsLaw_40 rfl rfl ?_
    refine sw_getr q_cl11 22 (r := 172) dX11_keepsLaw_41 t_1067 (by decide) h0.1 rfl ?_
    refine sw_iload_n 1 dX11_keepsLaw_44 rfl rfl ?_
    refine sw_aload_n 0 dX11_keepsLaw_45 rfl rfl ?_
    refine sw_aload_n 0 dX11_keepsLaw_46 rfl rfl ?_
    refine sw_getr q_cl11 22 (r := 172) dX11_keepsLaw_47 t_1067 (by decide) h0.1 rfl ?_
    refine sw_iload_n 1 dX11_keepsLaw_50 rfl rfl ?_
    refine sw_iald dX11_keepsLaw_51 h0.2.2.2.2.2.2.2.2.2.1 (fun a_5 => ?_)
    refine sw_callVi (As := [.int a_5]) (k := 163) rfl dX11_keepsLaw_52 t_1702 mf_X11_keeps h0.1 q_cl11 (by decide) (Nat.le_of_ble_eq_true rfl) (fun l => c_X11_keeps l a_5 u_4 h0) (fun r_6 u_7 => ?_)
    refine sw_iast dX11_keepsLaw_55 h0.2.2.2.2.2.2.2.2.2.1 (fun u_8 => ?_)
    refine sw_aload_n 0 dX11_keepsLaw_56 rfl rfl ?_
    refine sw_getr q_cl11 23 (r := 173) dX11_keepsLaw_57 t_1068 (by decide) h0.1 rfl ?_
    refine sw_iload_n 1 dX11_keepsLaw_60 rfl rfl ?_
    refine sw_aload_n 0 dX11_keepsLaw_61 rfl rfl ?_
    refine sw_aload_n 0 dX11_keepsLaw_62 rfl rfl ?_
    refine sw_getr q_cl11 23 (r := 173) dX11_keepsLaw_63 t_1068 (by decide) h0.1 rfl ?_
    refine sw_iload_n 1 dX11_keepsLaw_66 rfl rfl ?_
    refine sw_iald dX11_keepsLaw_67 h0.2.2.2.2.2.2.2.2.2.2.1 (fun a_9 => ?_)
    refine sw_callVi (As := [.int a_9]) (k := 163) rfl dX11_keepsLaw_68 t_1702 mf_X11_keeps h0.1 q_cl11 (by decide) (Nat.le_of_ble_eq_true rfl) (fun l => c_X11_keeps l a_9 u_8 h0) (fun r_10 u_11 => ?_)
    refine sw_iast dX11_keepsLaw_71 h0.2.2.2.2.2.2.2.2.2.2.1 (fun u_12 => ?_)
    refine sw_aload_n 0 dX11_keepsLaw_72 rfl rfl ?_
    refine sw_getr q_cl11 24 (r := 174) dX11_keepsLaw_73 t_1069 (by decide) h0.1 rfl ?_
    refine sw_iload_n 1 dX11_keepsLaw_76 rfl rfl ?_
    refine sw_aload_n 0 dX11_keepsLaw_77 rfl rfl ?_
    refine sw_aload_n 0 dX11_keepsLaw_78 rfl rfl ?_
    refine sw_getr q_cl11 24 (r := 174) dX11_keepsLaw_79 t_1069 (by decide) h0.1 rfl ?_
    refine sw_iload_n 1 dX11_keepsLaw_82 rfl rfl ?_
    refine sw_iald dX11_keepsLaw_83 h0.2.2.2.2.2.2.2.2.2.2.2.1 (fun a_13 => ?_)
    refine sw_callVi (As := [.int a_13]) (k := 163) rfl dX11_keepsLaw_84 t_1702 mf_X11_keeps h0.1 q_cl11 (by decide) (Nat.le_of_ble_eq_true rfl) (fun l => c_X11_keeps l a_13 u_12 h0) (fun r_14 u_15 => ?_)
    refine sw_iast dX11_keepsLaw_87 h0.2.2.2.2.2.2.2.2.2.2.2.1 (fun u_16 => ?_)
    refine sw_iinc (lv' := [(1, .int (x1 + (1 : Int32))), (0, .ref (b + 163))]) 1 dX11_keepsLaw_88 rfl (congrArg (x1 + ·) (by decide)) (by decide) rfl ?_
    refine sw_goto 18 dX11_keepsLaw_91 (by decide) ?_
    exact SW.sub [1, 0] rfl (ih (x1 + (1 : Int32)) u_16)
set_option maxRecDepth 100000 in
theorem w_X11_keepsLaw_L96 {ι : qI} {b : Nat}  (h0 : is_X11 ι)  {K141 : qS → qR} (hK141 : ∀  (u : qS), SW RX11 cX11_keepsLaw 2 none 2 ι b 141 [] [] u (K141  u)) (fu : Nat) (x1 : Int32) (u : qS) : SW RX11 cX11_keepsLaw 2 none 2 ι b 96 [(0, .ref (b + 163)), (1, .int x1)] [] u (q_it1 (m_X11_keepsLaw_L96 K141) fu x1 u) := by
  refine SW.it1 (fun x1 => [(0, .ref (b + 163)), (1, .int x1)]) (fun self ih x1 u => ?_) fu x1 u
  unfold m_X11_keepsLaw_L96
  refine sw_iload_n 1 dX11_keepsLaw_96 rfl rfl ?_
  refine sw_sipush (400 : Int32) dX11_keepsLaw_97 (by decide) ?_
  refine sw_icmp_ge 141 dX11_keepsLaw_100 (by decide) ?_ ?_
  · exact SW.sub [] rfl (hK141  u)
  · refine sw_aload_n 0 dX11_keepsLaw_103 rfl rfl ?_
    refine sw_getr q_cl11 25 (r := 175) dX11_keepsLaw_104 t_1070 (by decide) h0.1 rfl ?_
    refine sw_iload_n 1 dX11_keepsLaw_107 rfl rfl ?_
    refine sw_aload_n 0 dX11_keepsLaw_108 rfl rfl ?_
    refine sw_aload_n 0 dX11_keepsLaw_109 rfl rfl ?_
    refine sw_getr q_cl11 25 (r := 175) dX11_keepsLaw_110 t_1070 (by decide) h0.1 rfl ?_
    refine sw_iload_n 1 dX11_keepsLaw_113 rfl rfl ?_
    refine sw_iald dX11_keepsLaw_114 h0.2.2.2.2.2.2.2.2.2.2.2.2.1 (fun a => ?_)
    refine sw_callVi (As := [.int a]) (k := 163) rfl dX11_keepsLaw_115 t_1702 mf_X11_keeps h0.1 q_cl11 (by decide) (Nat.le_of_ble_eq_true rfl) (fun l => c_X11_keeps l a u h0) (fun r u_18 => ?_)
    refine sw_iast dX11_keepsLaw_118 h0.2.2.2.2.2.2.2.2.2.2.2.2.1 (fun u_19 => ?_)
    refine sw_aload_n 0 dX11_keepsLaw_119 rfl rfl ?_
    refine sw_getr q_cl11 26 (r := 176) dX11_keepsLaw_120 t_1071 (by decide) h0.1 rfl ?_
    refine sw_iload_n 1 dX11_keepsLaw_123 rfl rfl ?_
    refine sw_aload_n 0 dX11_keepsLaw_124 rfl rfl ?_
    refine sw_aload_n 0 dX11_keepsLaw_125 rfl rfl ?_
    refine sw_getr q_cl11 26 (r := 176) dX11_keepsLaw_126 t_1071 (by decide) h0.1 rfl ?_
    refine sw_iload_n 1 dX11_keepsLaw_129 rfl rfl ?_
    refine sw_iald dX11_keepsLaw_130 h0.2.2.2.2.2.2.2.2.2.2.2.2.2.1 (fun a_20 => ?_)
    refine sw_callVi (As := [.int a_20]) (k := 163) rfl dX11_keepsLaw_131 t_1702 mf_X11_keeps h0.1 q_cl11 (by decide) (Nat.le_of_ble_eq_true rfl) (fun l => c_X11_keeps l a_20 u_19 h0) (fun r_21 u_22 => ?_)
    refine sw_iast dX11_keepsLaw_134 h0.2.2.2.2.2.2.2.2.2.2.2.2.2.1 (fun u_23 => ?_)
    refine sw_iinc (lv' := [(1, .int (x1 + (1 : Int32))), (0, .ref (b + 163))]) 1 dX11_keepsLaw_135 rfl (congrArg (x1 + ·) (by decide)) (by decide) rfl ?_
    refine sw_goto 96 dX11_keepsLaw_138 (by decide) ?_
    exact SW.sub [1, 0] rfl (ih (x1 + (1 : Int32)) u_23)
set_option maxRecDepth 100000 in
theorem c_X11_keepsLaw (l : Launch) {ι : qI} {b : Nat}   (u : qS) (h0 : is_X11 ι) : CN l yX11_keepsLaw cX11_keepsLaw 2 none 2 ι b [.ref (b + 163)] u (m_X11_keepsLaw  u) := by
  refine CN.of_SW (own := RX11) rfl (by decide) (Nat.le_of_ble_eq_true rfl) [(0, .ref (b + 163))] rfl ?_
  unfold m_X11_keepsLaw
  refine sw_aload_n 0 dX11_keepsLaw_0 rfl rfl ?_
  refine sw_getr q_cl11 20 (r := 170) dX11_keepsLaw_1 t_1065 (by decide) h0.1 rfl ?_
  refine sw_iconst (0 : Int32) dX11_keepsLaw_4 (by decide) ?_
  refine sw_aload_n 0 dX11_keepsLaw_5 rfl rfl ?_
  refine sw_aload_n 0 dX11_keepsLaw_6 rfl rfl ?_
  refine sw_getr q_cl11 20 (r := 170) dX11_keepsLaw_7 t_1065 (by decide) h0.1 rfl ?_
  refine sw_iconst (0 : Int32) dX11_keepsLaw_10 (by decide) ?_
  refine sw_iald dX11_keepsLaw_11 h0.2.2.2.2.2.2.2.1 (fun a => ?_)
  refine sw_callVi (As := [.int a]) (k := 163) rfl dX11_keepsLaw_12 t_1702 mf_X11_keeps h0.1 q_cl11 (by decide) (Nat.le_of_ble_eq_true rfl) (fun l => c_X11_keeps l a u h0) (fun r u_1 => ?_)
  refine sw_iast dX11_keepsLaw_15 h0.2.2.2.2.2.2.2.1 (fun u_2 => ?_)
  refine sw_iconst (0 : Int32) dX11_keepsLaw_16 (by decide) ?_
  refine sw_istore_n (lv' := [(1, .int (0 : Int32)), (0, .ref (b + 163))]) dX11_keepsLaw_17 rfl (by decide) rfl ?_
  refine SW.sub (lv' := [(0, .ref (b + 163)), (1, .int (0 : Int32))]) [1, 0] rfl ?_
  refine w_X11_keepsLaw_L18 h0 (fun u_17 => ?_) q_F (0 : Int32) u_2
  refine sw_iconst (0 : Int32) dX11_keepsLaw_94 (by decide) ?_
  refine sw_istore_n (lv' := [(1, .int (0 : Int32)), (0, .ref (b + 163))]) dX11_keepsLaw_95 rfl (by decide) rfl ?_
  refine SW.sub (lv' := [(0, .ref (b + 163)), (1, .int (0 : Int32))]) [1, 0] rfl ?_
  refine w_X11_keepsLaw_L96 h0 (fun u_24 => ?_) q_F (0 : Int32) u_17
  exact sw_vret dX11_keepsLaw_141
set_option maxRecDepth 100000 in
theorem w_X11_keepsTold_L110 {ι : qI} {b : Nat}  (h0 : is_X11 ι)  {K138 : qS → qR} (hK138 : ∀  (u : qS), SW RX11 cX11_keepsTold 2 none 2 ι b 138 [(0, .ref (b + 163))] [] u (K138  u)) (fu : Nat) (x1 : Int32) (u : qS) : SW RX11 cX11_keepsTold 2 none 2 ι b 110 [(0, .ref (b + 163)), (1, .int x1)] [] u (q_it1 (m_X11_keepsTold_L110 K138) fu x1 u) := by
  refine SW.it1 (fun x1 => [(0, .ref (b + 163)), (1, .int x1)]) (fun self ih x1 u => ?_) fu x1 u
  unfold m_X11_keepsTold_L110
  refine sw_iload_n 1 dX11_keepsTold_110 rfl rfl ?_
  refine sw_bipush (16 : Int32) dX11_keepsTold_111 (by decide) ?_
  refine sw_icmp_ge 138 dX11_keepsTold_113 (by decide) ?_ ?_
  · exact SW.sub [0] rfl (hK138  u)
  · refine sw_aload_n 0 dX11_keepsTold_116 rfl rfl ?_
    refine sw_getr q_cl11 49 (r := 184) dX11_keepsTold_117 t_1094 (by decide) h0.1 rfl ?_
    refine sw_iload_n 1 dX11_keepsTold_120 rfl rfl ?_
    refine sw_aload_n 0 dX11_keepsTold_121 rfl rfl ?_
    refine sw_aload_n 0 dX11_keepsTold_122 rfl rfl ?_
    refine sw_getr q_cl11 49 (r := 184) dX11_keepsTold_123 t_1094 (by decide) h0.1 rfl ?_
    refine sw_iload_n 1 dX11_keepsTold_126 rfl rfl ?_
    refine sw_iald dX11_keepsTold_127 h0.2.2.2.2.2.2.2.2.2.2.2.2.2.2.2.2.2.2.2.2.2.1 (fun a => ?_)
    refine sw_callVi (As := [.int a]) (k := 163) rfl dX11_keepsTold_128 t_1702 mf_X11_keeps h0.1 q_cl11 (by decide) (Nat.le_of_ble_eq_true rfl) (fun l => c_X11_keeps l a u h0) (fun r u_27 => ?_)
    refine sw_iast dX11_keepsTold_131 h0.2.2.2.2.2.2.2.2.2.2.2.2.2.2.2.2.2.2.2.2.2.1 (fun u_28 => ?_)
    refine sw_iinc (lv' := [(1, .int (x1 + (1 : Int32))), (0, .ref (b + 163))]) 1 dX11_keepsTold_132 rfl (congrArg (x1 + ·) (by decide)) (by decide) rfl ?_
    refine sw_goto 110 dX11_keepsTold_135 (by decide) ?_
    exact SW.sub [1, 0] rfl (ih (x1 + (1 : Int32)) u_28)
set_option maxRecDepth 100000 in
theorem w_X11_keepsTold_L140 {ι : qI} {b : Nat}  (h0 : is_X11 ι)  {K168 : qS → qR} (hK168 : ∀  (u : qS), SW RX11 cX11_keepsTold 2 none 2 ι b 168 [(0, .ref (b + 163))] [] u (K168  u)) (fu : Nat) (x1 : Int32) (u : qS) : SW RX11 cX11_keepsTold 2 none 2 ι b 140 [(0, .ref (b + 163)), (1, .int x1)] [] u (q_it1 (m_X11_keepsTold_L140 K168) fu x1 u) := by
  refine SW.it1 (fun x1 => [(0, .ref (b + 163)), (1, .int x1)]) (fun self ih x1 u => ?_) fu x1 u
  unfold m_X11_keepsTold_L140
  refine sw_iload_n 1 dX11_keepsTold_140 rfl rfl ?_
  refine sw_bipush (90 : Int32) dX11_keepsTold_141 (by decide) ?_
  refine sw_icmp_ge 168 dX11_keepsTold_143 (by decide) ?_ ?_
  · exact SW.sub [0] rfl (hK168  u)
  · refine sw_aload_n 0 dX11_keepsTold_146 rfl rfl ?_
    refine sw_getr q_cl11 37 (r := 178) dX11_keepsTold_147 t_1082 (by decide) h0.1 rfl ?_
    refine sw_iload_n 1 dX11_keepsTold_150 rfl rfl ?_
    refine sw_aload_n 0 dX11_keepsTold_151 rfl rfl ?_
    refine sw_aload_n 0 dX11_keepsTold_152 rfl rfl ?_
    refine sw_getr q_cl11 37 (r := 178) dX11_keepsTold_153 t_1082 (by decide) h0.1 rfl ?_
    refine sw_iload_n 1 dX11_keepsTold_156 rfl rfl ?_
    refine sw_iald dX11_keepsTold_157 h0.2.2.2.2.2.2.2.2.2.2.2.2.2.2.2.1 (fun a => ?_)
    refine sw_callVi (As := [.int a]) (k := 163) rfl dX11_keepsTold_158 t_1702 mf_X11_keeps h0.1 q_cl11 (by decide) (Nat.le_of_ble_eq_true rfl) (fun l => c_X11_keeps l a u h0) (fun r u_30 => ?_)
    refine sw_iast dX11_keepsTold_161 h0.2.2.2.2.2.2.2.2.2.2.2.2.2.2.2.1 (fun u_31 => ?_)
    refine sw_iinc (lv' := [(1, .int (x1 + (1 : Int32))), (0, .ref (b + 163))]) 1 dX11_keepsTold_162 rfl (congrArg (x1 + ·) (by decide)) (by decide) rfl ?_
    refine sw_goto 140 dX11_keepsTold_165 (by decide) ?_
    exact SW.sub [1, 0] rfl (ih (x1 + (1 : Int32)) u_31)
set_option maxRecDepth 100000 in
theorem w_X11_keepsTold_L170 {ι : qI} {b : Nat}  (h0 : is_X11 ι)  {K198 : qS → qR} (hK198 : ∀  (u : qS), SW RX11 cX11_keepsTold 2 none 2 ι b 198 [] [] u (K198  u)) (fu : Nat) (x1 : Int32) (u : qS) : SW RX11 cX11_keepsTold 2 none 2 ι b 170 [(0, .ref (b + 163)), (1, .int x1)] [] u (q_it1 (m_X11_keepsTold_L170 K198) fu x1 u) := by
  refine SW.it1 (fun x1 => [(0, .ref (b + 163)), (1, .int x1)]) (fun self ih x1 u => ?_) fu x1 u
  unfold m_X11_keepsTold_L170
  refine sw_iload_n 1 dX11_keepsTold_170 rfl rfl ?_
  refine sw_bipush (64 : Int32) dX11_keepsTold_171 (by decide) ?_
  refine sw_icmp_ge 198 dX11_keepsTold_173 (by decide) ?_ ?_
  · exact SW.sub [] rfl (hK198  u)
  · refine sw_aload_n 0 dX11_keepsTold_176 rfl rfl ?_
    refine sw_getr q_cl11 39 (r := 179) dX11_keepsTold_177 t_1084 (by decide) h0.1 rfl ?_
    refine sw_iload_n 1 dX11_keepsTold_180 rfl rfl ?_
    refine sw_aload_n 0 dX11_keepsTold_181 rfl rfl ?_
    refine sw_aload_n 0 dX11_keepsTold_182 rfl rfl ?_
    refine sw_getr q_cl11 39 (r := 179) dX11_keepsTold_183 t_1084 (by decide) h0.1 rfl ?_
    refine sw_iload_n 1 dX11_keepsTold_186 rfl rfl ?_
    refine sw_iald dX11_keepsTold_187 h0.2.2.2.2.2.2.2.2.2.2.2.2.2.2.2.2.1 (fun a => ?_)
    refine sw_callVi (As := [.int a]) (k := 163) rfl dX11_keepsTold_188 t_1702 mf_X11_keeps h0.1 q_cl11 (by decide) (Nat.le_of_ble_eq_true rfl) (fun l => c_X11_keeps l a u h0) (fun r u_33 => ?_)
    refine sw_iast dX11_keepsTold_191 h0.2.2.2.2.2.2.2.2.2.2.2.2.2.2.2.2.1 (fun u_34 => ?_)
    refine sw_iinc (lv' := [(1, .int (x1 + (1 : Int32))), (0, .ref (b + 163))]) 1 dX11_keepsTold_192 rfl (congrArg (x1 + ·) (by decide)) (by decide) rfl ?_
    refine sw_goto 170 dX11_keepsTold_195 (by decide) ?_
    exact SW.sub [1, 0] rfl (ih (x1 + (1 : Int32)) u_34)
set_option maxRecDepth 100000 in
theorem c_X11_keepsTold (l : Launch) {ι : qI} {b : Nat}   (u : qS) (h0 : is_X11 ι) : CN l yX11_keepsTold cX11_keepsTold 2 none 2 ι b [.ref (b + 163)] u (m_X11_keepsTold  u) := by
  refine CN.of_SW (own := RX11) rfl (by decide) (Nat.le_of_ble_eq_true rfl) [(0, .ref (b + 163))] rfl ?_
  unfold m_X11_keepsTold
  refine sw_aload_n 0 dX11_keepsTold_0 rfl rfl ?_
  refine sw_aload_n 0 dX11_keepsTold_1 rfl rfl ?_
  refine sw_aload_n 0 dX11_keepsTold_2 rfl rfl ?_
  refine sw_geti q_cl11 6 dX11_keepsTold_3 t_1051 (by decide) h0.1 rfl ?_
  refine sw_callVi (As := [.int (u.1 163 6)]) (k := 163) rfl dX11_keepsTold_6 t_1702 mf_X11_keeps h0.1 q_cl11 (by decide) (Nat.le_of_ble_eq_true rfl) (fun l => c_X11_keeps l (u.1 163 6) u h0) (fun r u_1 => ?_)
  refine sw_puti q_cl11 6 dX11_keepsTold_9 t_1051 (by decide) (by decide +kernel) rfl h0.1 rfl (fun u_2 => ?_)
  refine sw_aload_n 0 dX11_keepsTold_12 rfl rfl ?_
  refine sw_aload_n 0 dX11_keepsTold_13 rfl rfl ?_
  refine sw_aload_n 0 dX11_keepsTold_14 rfl rfl ?_
  refine sw_geti q_cl11 7 dX11_keepsTold_15 t_1052 (by decide) h0.1 rfl ?_
  refine sw_callVi (As := [.int (u_2.1 163 7)]) (k := 163) rfl dX11_keepsTold_18 t_1702 mf_X11_keeps h0.1 q_cl11 (by decide) (Nat.le_of_ble_eq_true rfl) (fun l => c_X11_keeps l (u_2.1 163 7) u_2 h0) (fun r_3 u_4 => ?_)
  refine sw_puti q_cl11 7 dX11_keepsTold_21 t_1052 (by decide) (by decide +kernel) rfl h0.1 rfl (fun u_5 => ?_)
  refine sw_aload_n 0 dX11_keepsTold_24 rfl rfl ?_
  refine sw_aload_n 0 dX11_keepsTold_25 rfl rfl ?_
  refine sw_aload_n 0 dX11_keepsTold_26 rfl rfl ?_
  refine sw_geti q_cl11 8 dX11_keepsTold_27 t_1053 (by decide) h0.1 rfl ?_
  refine sw_callVi (As := [.int (u_5.1 163 8)]) (k := 163) rfl dX11_keepsTold_30 t_1702 mf_X11_keeps h0.1 q_cl11 (by decide) (Nat.le_of_ble_eq_true rfl) (fun l => c_X11_keeps l (u_5.1 163 8) u_5 h0) (fun r_6 u_7 => ?_)
  refine sw_puti q_cl11 8 dX11_keepsTold_33 t_1053 (by decide) (by decide +kernel) rfl h0.1 rfl (fun u_8 => ?_)
  refine sw_aload_n 0 dX11_keepsTold_36 rfl rfl ?_
  refine sw_aload_n 0 dX11_keepsTold_37 rfl rfl ?_
  refine sw_aload_n 0 dX11_keepsTold_38 rfl rfl ?_
  refine sw_geti q_cl11 9 dX11_keepsTold_39 t_1054 (by decide) h0.1 rfl ?_
  refine sw_callVi (As := [.int (u_8.1 163 9)]) (k := 163) rfl dX11_keepsTold_42 t_1702 mf_X11_keeps h0.1 q_cl11 (by decide) (Nat.le_of_ble_eq_true rfl) (fun l => c_X11_keeps l (u_8.1 163 9) u_8 h0) (fun r_9 u_10 => ?_)
  refine sw_puti q_cl11 9 dX11_keepsTold_45 t_1054 (by decide) (by decide +kernel) rfl h0.1 rfl (fun u_11 => ?_)
  refine sw_aload_n 0 dX11_keepsTold_48 rfl rfl ?_
  refine sw_aload_n 0 dX11_keepsTold_49 rfl rfl ?_
  refine sw_aload_n 0 dX11_keepsTold_50 rfl rfl ?_
  refine sw_geti q_cl11 10 dX11_keepsTold_51 t_1055 (by decide) h0.1 rfl ?_
  refine sw_callVi (As := [.int (u_11.1 163 10)]) (k := 163) rfl dX11_keepsTold_54 t_1702 mf_X11_keeps h0.1 q_cl11 (by decide) (Nat.le_of_ble_eq_true rfl) (fun l => c_X11_keeps l (u_11.1 163 10) u_11 h0) (fun r_12 u_13 => ?_)
  refine sw_puti q_cl11 10 dX11_keepsTold_57 t_1055 (by decide) (by decide +kernel) rfl h0.1 rfl (fun u_14 => ?_)
  refine sw_aload_n 0 dX11_keepsTold_60 rfl rfl ?_
  refine sw_aload_n 0 dX11_keepsTold_61 rfl rfl ?_
  refine sw_aload_n 0 dX11_keepsTold_62 rfl rfl ?_
  refine sw_geti q_cl11 11 dX11_keepsTold_63 t_1056 (by decide) h0.1 rfl ?_
  refine sw_callVi (As := [.int (u_14.1 163 11)]) (k := 163) rfl dX11_keepsTold_66 t_1702 mf_X11_keeps h0.1 q_cl11 (by decide) (Nat.le_of_ble_eq_true rfl) (fun l => c_X11_keeps l (u_14.1 163 11) u_14 h0) (fun r_15 u_16 => ?_)
  refine sw_puti q_cl11 11 dX11_keepsTold_69 t_1056 (by decide) (by decide +kernel) rfl h0.1 rfl (fun u_17 => ?_)
  refine sw_aload_n 0 dX11_keepsTold_72 rfl rfl ?_
  refine sw_aload_n 0 dX11_keepsTold_73 rfl rfl ?_
  refine sw_aload_n 0 dX11_keepsTold_74 rfl rfl ?_
  refine sw_geti q_cl11 36 dX11_keepsTold_75 t_1081 (by decide) h0.1 rfl ?_
  refine sw_callVi (As := [.int (u_17.1 163 36)]) (k := 163) rfl dX11_keepsTold_78 t_1702 mf_X11_keeps h0.1 q_cl11 (by decide) (Nat.le_of_ble_eq_true rfl) (fun l => c_X11_keeps l (u_17.1 163 36) u_17 h0) (fun r_18 u_19 => ?_)
  refine sw_puti q_cl11 36 dX11_keepsTold_81 t_1081 (by decide) (by decide +kernel) rfl h0.1 rfl (fun u_20 => ?_)
  refine sw_aload_n 0 dX11_keepsTold_84 rfl rfl ?_
  refine sw_aload_n 0 dX11_keepsTold_85 rfl rfl ?_
  refine sw_aload_n 0 dX11_keepsTold_86 rfl rfl ?_
  refine sw_geti q_cl11 38 dX11_keepsTold_87 t_1083 (by decide) h0.1 rfl ?_
  refine sw_callVi (As := [.int (u_20.1 163 38)]) (k := 163) rfl dX11_keepsTold_90 t_1702 mf_X11_keeps h0.1 q_cl11 (by decide) (Nat.le_of_ble_eq_true rfl) (fun l => c_X11_keeps l (u_20.1 163 38) u_20 h0) (fun r_21 u_22 => ?_)
  refine sw_puti q_cl11 38 dX11_keepsTold_93 t_1083 (by decide) (by decide +kernel) rfl h0.1 rfl (fun u_23 => ?_)
  refine sw_aload_n 0 dX11_keepsTold_96 rfl rfl ?_
  refine sw_aload_n 0 dX11_keepsTold_97 rfl rfl ?_
  refine sw_aload_n 0 dX11_keepsTold_98 rfl rfl ?_
  refine sw_geti q_cl11 48 dX11_keepsTold_99 t_1093 (by decide) h0.1 rfl ?_
  refine sw_callVi (As := [.int (u_23.1 163 48)]) (k := 163) rfl dX11_keepsTold_102 t_1702 mf_X11_keeps h0.1 q_cl11 (by decide) (Nat.le_of_ble_eq_true rfl) (fun l => c_X11_keeps l (u_23.1 163 48) u_23 h0) (fun r_24 u_25 => ?_)
  refine sw_puti q_cl11 48 dX11_keepsTold_105 t_1093 (by decide) (by decide +kernel) rfl h0.1 rfl (fun u_26 => ?_)
  refine sw_iconst (0 : Int32) dX11_keepsTold_108 (by decide) ?_
  refine sw_istore_n (lv' := [(1, .int (0 : Int32)), (0, .ref (b + 163))]) dX11_keepsTold_109 rfl (by decide) rfl ?_
  refine SW.sub (lv' := [(0, .ref (b + 163)), (1, .int (0 : Int32))]) [1, 0] rfl ?_
  refine w_X11_keepsTold_L110 h0 (fun u_29 => ?_) q_F (0 : Int32) u_26
  refine sw_iconst (0 : Int32) dX11_keepsTold_138 (by decide) ?_
  refine sw_istore_n (lv' := [(1, .int (0 : Int32)), (0, .ref (b + 163))]) dX11_keepsTold_139 rfl (by decide) rfl ?_
  refine SW.sub (lv' := [(0, .ref (b + 163)), (1, .int (0 : Int32))]) [1, 0] rfl ?_
  refine w_X11_keepsTold_L140 h0 (fun u_32 => ?_) q_F (0 : Int32) u_29
  refine sw_iconst (0 : Int32) dX11_keepsTold_168 (by decide) ?_
  refine sw_istore_n (lv' := [(1, .int (0 : Int32)), (0, .ref (b + 163))]) dX11_keepsTold_169 rfl (by decide) rfl ?_
  refine SW.sub (lv' := [(0, .ref (b + 163)), (1, .int (0 : Int32))]) [1, 0] rfl ?_
  refine w_X11_keepsTold_L170 h0 (fun u_35 => ?_) q_F (0 : Int32) u_32
  exact sw_vret dX11_keepsTold_198
set_option maxRecDepth 100000 in
theorem w_X11_image_L35 {ι : qI} {b : Nat}  (h0 : is_X11 ι) (x1 : Int32) {K64 : qS → qR} (hK64 : ∀  (u : qS), SW RX11 cX11_image 3 (some .boolean) 3 ι b 64 [(0, .ref (b + 163)), (1, .int x1)] [] u (K64  u)) (fu : Nat) (x2 : Int32) (u : qS) : SW RX11 cX11_image 3 (some .boolean) 3 ι b 35 [(0, .ref (b + 163)), (1, .int x1), (2, .int x2)] [] u (q_it1 (m_X11_image_L35 x1 K64) fu x2 u) := by
  refine SW.it1 (fun x2 => [(0, .ref (b + 163)), (1, .int x1), (2, .int x2)]) (fun self ih x2 u => ?_) fu x2 u
  unfold m_X11_image_L35
  refine sw_iload_n 2 dX11_image_35 rfl rfl ?_
  refine sw_sipush (136 : Int32) dX11_image_36 (by decide) ?_
  refine sw_icmp_ge 64 dX11_image_39 (by decide) ?_ ?_
  · exact SW.sub [0, 1] rfl (hK64  u)
  · refine sw_aload_n 0 dX11_image_42 rfl rfl ?_
    refine sw_getr q_cl11 1 (r := 164) dX11_image_43 t_1046 (by decide) h0.1 rfl ?_
    refine sw_iload_n 2 dX11_image_46 rfl rfl ?_
    refine sw_aload_n 0 dX11_image_47 rfl rfl ?_
    refine sw_aload_n 0 dX11_image_48 rfl rfl ?_
    refine sw_getr q_cl11 1 (r := 164) dX11_image_49 t_1046 (by decide) h0.1 rfl ?_
    refine sw_iload_n 2 dX11_image_52 rfl rfl ?_
    refine sw_iald dX11_image_53 h0.2.1 (fun a => ?_)
    refine sw_callVi (As := [.int a]) (k := 163) rfl dX11_image_54 t_1702 mf_X11_keeps h0.1 q_cl11 (by decide) (Nat.le_of_ble_eq_true rfl) (fun l => c_X11_keeps l a u h0) (fun r u_6 => ?_)
    refine sw_iast dX11_image_57 h0.2.1 (fun u_7 => ?_)
    refine sw_iinc (lv' := [(2, .int (x2 + (1 : Int32))), (0, .ref (b + 163)), (1, .int x1)]) 2 dX11_image_58 rfl (congrArg (x2 + ·) (by decide)) (by decide) rfl ?_
    refine sw_goto 35 dX11_image_61 (by decide) ?_
    exact SW.sub [1, 2, 0] rfl (ih (x2 + (1 : Int32)) u_7)
set_option maxRecDepth 100000 in
theorem w_X11_image_L70 {ι : qI} {b : Nat}  (h0 : is_X11 ι) (x1 : Int32) {K99 : qS → qR} (hK99 : ∀  (u : qS), SW RX11 cX11_image 3 (some .boolean) 3 ι b 99 [(0, .ref (b + 163)), (1, .int x1)] [] u (K99  u)) (fu : Nat) (x2 : Int32) (u : qS) : SW RX11 cX11_image 3 (some .boolean) 3 ι b 70 [(0, .ref (b + 163)), (1, .int x1), (2, .int x2)] [] u (q_it1 (m_X11_image_L70 x1 K99) fu x2 u) := by
  refine SW.it1 (fun x2 => [(0, .ref (b + 163)), (1, .int x1), (2, .int x2)]) (fun self ih x2 u => ?_) fu x2 u
  unfold m_X11_image_L70
  refine sw_iload_n 2 dX11_image_70 rfl rfl ?_
  refine sw_sipush (600 : Int32) dX11_image_71 (by decide) ?_
  refine sw_icmp_ge 99 dX11_image_74 (by decide) ?_ ?_
  · exact SW.sub [0, 1] rfl (hK99  u)
  · refine sw_aload_n 0 dX11_image_77 rfl rfl ?_
    refine sw_getr q_cl11 12 (r := 167) dX11_image_78 t_1057 (by decide) h0.1 rfl ?_
    refine sw_iload_n 2 dX11_image_81 rfl rfl ?_
    refine sw_aload_n 0 dX11_image_82 rfl rfl ?_
    refine sw_aload_n 0 dX11_image_83 rfl rfl ?_
    refine sw_getr q_cl11 12 (r := 167) dX11_image_84 t_1057 (by decide) h0.1 rfl ?_
    refine sw_iload_n 2 dX11_image_87 rfl rfl ?_
    refine sw_iald dX11_image_88 h0.2.2.2.2.1 (fun a => ?_)
    refine sw_callVi (As := [.int a]) (k := 163) rfl dX11_image_89 t_1702 mf_X11_keeps h0.1 q_cl11 (by decide) (Nat.le_of_ble_eq_true rfl) (fun l => c_X11_keeps l a u h0) (fun r u_10 => ?_)
    refine sw_iast dX11_image_92 h0.2.2.2.2.1 (fun u_11 => ?_)
    refine sw_iinc (lv' := [(2, .int (x2 + (1 : Int32))), (0, .ref (b + 163)), (1, .int x1)]) 2 dX11_image_93 rfl (congrArg (x2 + ·) (by decide)) (by decide) rfl ?_
    refine sw_goto 70 dX11_image_96 (by decide) ?_
    exact SW.sub [1, 2, 0] rfl (ih (x2 + (1 : Int32)) u_11)
set_option maxRecDepth 100000 in
theorem c_X11_image (l : Launch) {ι : qI} {b : Nat}  (x1 : Int32) (u : qS) (h0 : is_X11 ι) : CN l yX11_image cX11_image 3 (some .boolean) 3 ι b [.ref (b + 163), .int x1] u (m_X11_image x1 u) := by
  refine CN.of_SW (own := RX11) rfl (by decide) (Nat.le_of_ble_eq_true rfl) [(0, .ref (b + 163)), (1, .int x1)] rfl ?_
  unfold m_X11_image
  refine sw_aload_n 0 dX11_image_0 rfl rfl ?_
  refine sw_iconst (0 : Int32) dX11_image_1 (by decide) ?_
  refine sw_puti q_cl11 0 dX11_image_2 t_1045 (by decide) (by decide +kernel) rfl h0.1 rfl (fun u_1 => ?_)
  refine sw_iload_n 1 dX11_image_5 rfl rfl ?_
  refine SW.jn0 18 ([(0, .ref (b + 163)), (1, .int x1)]) ([]) (fun  u_2 => ?_) (fun J18 hJ18 => ?_)
  · refine sw_aload_n 0 dX11_image_18 rfl rfl ?_
    refine sw_iload_n 1 dX11_image_19 rfl rfl ?_
    refine sw_putz q_cl11 52 dX11_image_20 t_1097 (by decide) (by decide +kernel) rfl h0.1 rfl (fun u_3 => ?_)
    refine sw_aload_n 0 dX11_image_23 rfl rfl ?_
    refine sw_iconst (1 : Int32) dX11_image_24 (by decide) ?_
    refine sw_putz q_cl11 53 dX11_image_25 t_1098 (by decide) (by decide +kernel) rfl h0.1 rfl (fun u_4 => ?_)
    refine sw_aload_n 0 dX11_image_28 rfl rfl ?_
    refine sw_iconst (0 : Int32) dX11_image_29 (by decide) ?_
    refine sw_puti q_cl11 54 dX11_image_30 t_1099 (by decide) (by decide +kernel) rfl h0.1 rfl (fun u_5 => ?_)
    refine sw_iconst (0 : Int32) dX11_image_33 (by decide) ?_
    refine sw_istore_n (lv' := [(2, .int (0 : Int32)), (0, .ref (b + 163)), (1, .int x1)]) dX11_image_34 rfl (by decide) rfl ?_
    refine SW.sub (lv' := [(0, .ref (b + 163)), (1, .int x1), (2, .int (0 : Int32))]) [1, 2, 0] rfl ?_
    refine w_X11_image_L35 h0 x1 (fun u_8 => ?_) q_F (0 : Int32) u_5
    refine sw_aload_n 0 dX11_image_64 rfl rfl ?_
    refine sw_callVv (As := []) (k := 163) rfl dX11_image_65 t_1706 mf_X11_keepsTold h0.1 q_cl11 (by decide) (Nat.le_of_ble_eq_true rfl) (fun l => c_X11_keepsTold l  u_8 h0) (fun _ u_9 => ?_)
    refine sw_iconst (0 : Int32) dX11_image_68 (by decide) ?_
    refine sw_istore_n (lv' := [(2, .int (0 : Int32)), (0, .ref (b + 163)), (1, .int x1)]) dX11_image_69 rfl (by decide) rfl ?_
    refine SW.sub (lv' := [(0, .ref (b + 163)), (1, .int x1), (2, .int (0 : Int32))]) [1, 2, 0] rfl ?_
    refine w_X11_image_L70 h0 x1 (fun u_12 => ?_) q_F (0 : Int32) u_9
    refine sw_aload_n 0 dX11_image_99 rfl rfl ?_
    refine sw_callVv (As := []) (k := 163) rfl dX11_image_100 t_1710 mf_X11_keepsLaw h0.1 q_cl11 (by decide) (Nat.le_of_ble_eq_true rfl) (fun l => c_X11_keepsLaw l  u_12 h0) (fun _ u_13 => ?_)
    refine sw_iload_n 1 dX11_image_103 rfl rfl ?_
    refine sw_if_ne 112 dX11_image_104 (by decide) ?_ ?_
    · refine sw_aload_n 0 dX11_image_107 rfl rfl ?_
      refine sw_iconst (0 : Int32) dX11_image_108 (by decide) ?_
      refine sw_puti q_cl11 3 dX11_image_109 t_1048 (by decide) (by decide +kernel) rfl h0.1 rfl (fun u_14 => ?_)
      refine sw_iconst (1 : Int32) dX11_image_112 (by decide) ?_
      exact sw_zret1 dX11_image_113
    · refine sw_iconst (1 : Int32) dX11_image_112 (by decide) ?_
      exact sw_zret1 dX11_image_113
  · refine sw_if_ne 18 dX11_image_6 (by decide) ?_ ?_
    · refine sw_aload_n 0 dX11_image_9 rfl rfl ?_
      refine sw_geti q_cl11 53 dX11_image_10 t_1098 (by decide) h0.1 rfl ?_
      refine sw_if_ne 18 dX11_image_13 (by decide) ?_ ?_
      · refine sw_iconst (0 : Int32) dX11_image_16 (by decide) ?_
        exact sw_zret0 dX11_image_17
      · exact SW.sub [0, 1] rfl (hJ18  u_1)
    · exact SW.sub [0, 1] rfl (hJ18  u_1)
set_option maxRecDepth 100000 in
theorem c_X11_look (l : Launch) {ι : qI} {b : Nat}  (x1 : Int32) (u : qS) (h0 : is_X11 ι) : CN l yX11_look cX11_look 2 (some .int) 2 ι b [.ref (b + 163), .int x1] u (m_X11_look x1 u) := by
  refine CN.of_SW (own := RX11) rfl (by decide) (Nat.le_of_ble_eq_true rfl) [(0, .ref (b + 163)), (1, .int x1)] rfl ?_
  unfold m_X11_look
  refine sw_aload_n 0 dX11_look_0 rfl rfl ?_
  refine sw_iconst (0 : Int32) dX11_look_1 (by decide) ?_
  refine sw_puti q_cl11 0 dX11_look_2 t_1045 (by decide) (by decide +kernel) rfl h0.1 rfl (fun u_1 => ?_)
  refine sw_iload_n 1 dX11_look_5 rfl rfl ?_
  refine sw_if_ne 14 dX11_look_6 (by decide) ?_ ?_
  · refine sw_aload_n 0 dX11_look_9 rfl rfl ?_
    refine sw_geti q_cl11 6 dX11_look_10 t_1051 (by decide) h0.1 rfl ?_
    exact sw_iret dX11_look_13
  · refine sw_iload_n 1 dX11_look_14 rfl rfl ?_
    refine sw_iconst (1 : Int32) dX11_look_15 (by decide) ?_
    refine sw_icmp_ne 26 dX11_look_16 (by decide) ?_ ?_
    · refine sw_aload_n 0 dX11_look_19 rfl rfl ?_
      refine sw_getr q_cl11 1 (r := 164) dX11_look_20 t_1046 (by decide) h0.1 rfl ?_
      refine sw_iconst (4 : Int32) dX11_look_23 (by decide) ?_
      refine sw_iald dX11_look_24 h0.2.1 (fun a_9 => ?_)
      exact sw_iret dX11_look_25
    · refine sw_iload_n 1 dX11_look_26 rfl rfl ?_
      refine sw_iconst (2 : Int32) dX11_look_27 (by decide) ?_
      refine sw_icmp_ne 36 dX11_look_28 (by decide) ?_ ?_
      · refine sw_aload_n 0 dX11_look_31 rfl rfl ?_
        refine sw_geti q_cl11 7 dX11_look_32 t_1052 (by decide) h0.1 rfl ?_
        exact sw_iret dX11_look_35
      · refine sw_iload_n 1 dX11_look_36 rfl rfl ?_
        refine sw_iconst (3 : Int32) dX11_look_37 (by decide) ?_
        refine sw_icmp_ne 48 dX11_look_38 (by decide) ?_ ?_
        · refine sw_aload_n 0 dX11_look_41 rfl rfl ?_
          refine sw_getr q_cl11 1 (r := 164) dX11_look_42 t_1046 (by decide) h0.1 rfl ?_
          refine sw_iconst (0 : Int32) dX11_look_45 (by decide) ?_
          refine sw_iald dX11_look_46 h0.2.1 (fun a_8 => ?_)
          exact sw_iret dX11_look_47
        · refine sw_iload_n 1 dX11_look_48 rfl rfl ?_
          refine sw_iconst (4 : Int32) dX11_look_49 (by decide) ?_
          refine sw_icmp_ne 58 dX11_look_50 (by decide) ?_ ?_
          · refine sw_aload_n 0 dX11_look_53 rfl rfl ?_
            refine sw_geti q_cl11 8 dX11_look_54 t_1053 (by decide) h0.1 rfl ?_
            exact sw_iret dX11_look_57
          · refine sw_iload_n 1 dX11_look_58 rfl rfl ?_
            refine sw_iconst (5 : Int32) dX11_look_59 (by decide) ?_
            refine sw_icmp_ne 68 dX11_look_60 (by decide) ?_ ?_
            · refine sw_aload_n 0 dX11_look_63 rfl rfl ?_
              refine sw_geti q_cl11 9 dX11_look_64 t_1054 (by decide) h0.1 rfl ?_
              exact sw_iret dX11_look_67
            · refine sw_iload_n 1 dX11_look_68 rfl rfl ?_
              refine sw_bipush (6 : Int32) dX11_look_69 (by decide) ?_
              refine sw_icmp_ne 79 dX11_look_71 (by decide) ?_ ?_
              · refine sw_aload_n 0 dX11_look_74 rfl rfl ?_
                refine sw_callVi (As := []) (k := 163) rfl dX11_look_75 t_1560 mf_X11_chairs h0.1 q_cl11 (by decide) (Nat.le_of_ble_eq_true rfl) (fun l => c_X11_chairs l  u_1 h0) (fun r_6 u_7 => ?_)
                exact sw_iret dX11_look_78
              · refine sw_iload_n 1 dX11_look_79 rfl rfl ?_
                refine sw_bipush (7 : Int32) dX11_look_80 (by decide) ?_
                refine sw_icmp_ne 90 dX11_look_82 (by decide) ?_ ?_
                · refine sw_aload_n 0 dX11_look_85 rfl rfl ?_
                  refine sw_callVi (As := []) (k := 163) rfl dX11_look_86 t_1544 mf_X11_every h0.1 q_cl11 (by decide) (Nat.le_of_ble_eq_true rfl) (fun l => c_X11_every l  u_1 h0) (fun r u_5 => ?_)
                  exact sw_iret dX11_look_89
                · refine sw_iload_n 1 dX11_look_90 rfl rfl ?_
                  refine sw_bipush (8 : Int32) dX11_look_91 (by decide) ?_
                  refine sw_icmp_ne 103 dX11_look_93 (by decide) ?_ ?_
                  · refine sw_aload_n 0 dX11_look_96 rfl rfl ?_
                    refine sw_getr q_cl11 1 (r := 164) dX11_look_97 t_1046 (by decide) h0.1 rfl ?_
                    refine sw_iconst (2 : Int32) dX11_look_100 (by decide) ?_
                    refine sw_iald dX11_look_101 h0.2.1 (fun a_4 => ?_)
                    exact sw_iret dX11_look_102
                  · refine sw_iload_n 1 dX11_look_103 rfl rfl ?_
                    refine sw_bipush (9 : Int32) dX11_look_104 (by decide) ?_
                    refine sw_icmp_ne 116 dX11_look_106 (by decide) ?_ ?_
                    · refine sw_aload_n 0 dX11_look_109 rfl rfl ?_
                      refine sw_getr q_cl11 1 (r := 164) dX11_look_110 t_1046 (by decide) h0.1 rfl ?_
                      refine sw_iconst (1 : Int32) dX11_look_113 (by decide) ?_
                      refine sw_iald dX11_look_114 h0.2.1 (fun a_3 => ?_)
                      exact sw_iret dX11_look_115
                    · refine sw_iload_n 1 dX11_look_116 rfl rfl ?_
                      refine sw_bipush (10 : Int32) dX11_look_117 (by decide) ?_
                      refine sw_icmp_ne 129 dX11_look_119 (by decide) ?_ ?_
                      · refine sw_aload_n 0 dX11_look_122 rfl rfl ?_
                        refine sw_getr q_cl11 20 (r := 170) dX11_look_123 t_1065 (by decide) h0.1 rfl ?_
                        refine sw_iconst (0 : Int32) dX11_look_126 (by decide) ?_
                        refine sw_iald dX11_look_127 h0.2.2.2.2.2.2.2.1 (fun a_2 => ?_)
                        exact sw_iret dX11_look_128
                      · refine sw_iload_n 1 dX11_look_129 rfl rfl ?_
                        refine sw_bipush (11 : Int32) dX11_look_130 (by decide) ?_
                        refine sw_icmp_ne 140 dX11_look_132 (by decide) ?_ ?_
                        · refine sw_aload_n 0 dX11_look_135 rfl rfl ?_
                          refine sw_geti q_cl11 36 dX11_look_136 t_1081 (by decide) h0.1 rfl ?_
                          exact sw_iret dX11_look_139
                        · refine sw_iload_n 1 dX11_look_140 rfl rfl ?_
                          refine sw_bipush (12 : Int32) dX11_look_141 (by decide) ?_
                          refine sw_icmp_ne 151 dX11_look_143 (by decide) ?_ ?_
                          · refine sw_aload_n 0 dX11_look_146 rfl rfl ?_
                            refine sw_geti q_cl11 38 dX11_look_147 t_1083 (by decide) h0.1 rfl ?_
                            exact sw_iret dX11_look_150
                          · refine sw_iload_n 1 dX11_look_151 rfl rfl ?_
                            refine sw_bipush (13 : Int32) dX11_look_152 (by decide) ?_
                            refine sw_icmp_ne 162 dX11_look_154 (by decide) ?_ ?_
                            · refine sw_aload_n 0 dX11_look_157 rfl rfl ?_
                              refine sw_geti q_cl11 48 dX11_look_158 t_1093 (by decide) h0.1 rfl ?_
                              exact sw_iret dX11_look_161
                            · refine sw_iload_n 1 dX11_look_162 rfl rfl ?_
                              refine sw_bipush (14 : Int32) dX11_look_163 (by decide) ?_
                              refine sw_icmp_ne 175 dX11_look_165 (by decide) ?_ ?_
                              · refine sw_aload_n 0 dX11_look_168 rfl rfl ?_
                                refine sw_geti q_cl11 3 dX11_look_169 t_1048 (by decide) h0.1 rfl ?_
                                refine sw_goto 191 dX11_look_172 (by decide) ?_
                                exact sw_iret dX11_look_191
                              · refine sw_iload_n 1 dX11_look_175 rfl rfl ?_
                                refine sw_bipush (15 : Int32) dX11_look_176 (by decide) ?_
                                refine sw_icmp_ne 190 dX11_look_178 (by decide) ?_ ?_
                                · refine sw_aload_n 0 dX11_look_181 rfl rfl ?_
                                  refine sw_getr q_cl11 1 (r := 164) dX11_look_182 t_1046 (by decide) h0.1 rfl ?_
                                  refine sw_iconst (3 : Int32) dX11_look_185 (by decide) ?_
                                  refine sw_iald dX11_look_186 h0.2.1 (fun a => ?_)
                                  refine sw_goto 191 dX11_look_187 (by decide) ?_
                                  exact sw_iret dX11_look_191
                                · refine sw_iconst (-1 : Int32) dX11_look_190 (by decide) ?_
                                  exact sw_iret dX11_look_191
