def m_X10_forget  (u : qS) : qR :=
  q_let (q_up u 0 5 (0 : Int32)) fun u_1 =>
  some (0, u_1)
def m_X10_state (x1 : Int32) (u : qS) : qR :=
  q_let (u.1 2 1) fun y2 =>
  q_let (q_up u 2 1 x1) fun u_1 =>
  q_bd (m_X10_forget  u_1) fun _ u_2 =>
  some (y2, u_2)
def m_X10_isWithin (x0 : Int32) (x1 : Int32) (x2 : Int32) (u : qS) : qR :=
  if x0.toInt < x1.toInt then
    some ((0 : Int32), u)
  else
    if x2.toInt < x0.toInt then
      some ((0 : Int32), u)
    else
      some ((1 : Int32), u)
def m_X0_addParty (k : Nat) (x1 : Int32) (u : qS) : qR :=
  q_let (u.1 k 7) fun y2 =>
  Option.bind (q_ast u (k + 1) 5 y2 x1) fun u_1 =>
  Option.bind (q_ast u_1 (k + 2) 5 y2 (0 : Int32)) fun u_2 =>
  Option.bind (q_ast u_2 (k + 3) 5 y2 (0 : Int32)) fun u_3 =>
  q_let (q_up u_3 k 7 ((u_3.1 k 7) + (1 : Int32))) fun u_4 =>
  some (y2, u_4)
def m_X10_party (x1 : Int32) (u : qS) : qR :=
  q_bd (m_X10_isWithin x1 (0 : Int32) (999 : Int32) u) fun r u_1 =>
  if r.toInt = 0 then
    some ((-1 : Int32), u_1)
  else
    if (u_1.1 2 7).toInt < (5 : Int32).toInt then
      q_bd (m_X10_forget  u_1) fun _ u_2 =>
      q_bd (m_X0_addParty 2 x1 u_2) fun r_3 u_4 =>
      some (r_3, u_4)
    else
      some ((-1 : Int32), u_1)
def m_X0_addEater_L14 (k : Nat) (x2 : Int32) (K36 : qS → qR) (self : Int32 → qS → qR) (x3 : Int32) (u : qS) : qR :=
  if (5 : Int32).toInt ≤ x3.toInt then
    K36  u
  else
    Option.bind (q_ast u (k + 9) 50 ((x2 * (5 : Int32)) + x3) (5 : Int32)) fun u_2 =>
    self (x3 + (1 : Int32)) u_2
def m_X0_addEater (k : Nat) (x1 : Int32) (u : qS) : qR :=
  q_let (u.1 k 9) fun y2 =>
  Option.bind (q_ast u (k + 8) 10 y2 x1) fun u_1 =>
  q_it1 (m_X0_addEater_L14 k y2 (fun  u_3 =>
    q_let (q_up u_3 k 9 ((u_3.1 k 9) + (1 : Int32))) fun u_4 =>
    some (y2, u_4))) q_F (0 : Int32) u_1
def m_X10_eater (x1 : Int32) (u : qS) : qR :=
  q_bd (m_X10_isWithin x1 (0 : Int32) (20 : Int32) u) fun r u_1 =>
  if r.toInt = 0 then
    some ((-1 : Int32), u_1)
  else
    if (u_1.1 2 9).toInt < (10 : Int32).toInt then
      q_bd (m_X10_forget  u_1) fun _ u_2 =>
      q_bd (m_X0_addEater 2 x1 u_2) fun r_3 u_4 =>
      some (r_3, u_4)
    else
      some ((-1 : Int32), u_1)
def m_X0_isEater (k : Nat) (x1 : Int32) (u : qS) : qR :=
  if x1.toInt < 0 then
    some ((0 : Int32), u)
  else
    if (u.1 k 9).toInt ≤ x1.toInt then
      some ((0 : Int32), u)
    else
      some ((1 : Int32), u)
def m_X0_isParty (k : Nat) (x1 : Int32) (u : qS) : qR :=
  if x1.toInt < 0 then
    some ((0 : Int32), u)
  else
    if (u.1 k 7).toInt ≤ x1.toInt then
      some ((0 : Int32), u)
    else
      some ((1 : Int32), u)
def m_X10_taste (x1 : Int32) (x2 : Int32) (x3 : Int32) (u : qS) : qR :=
  q_bd (m_X0_isEater 2 x1 u) fun r u_1 =>
  if r.toInt = 0 then
    some ((0 : Int32), u_1)
  else
    q_bd (m_X0_isParty 2 x2 u_1) fun r_2 u_3 =>
    if r_2.toInt = 0 then
      some ((0 : Int32), u_3)
    else
      q_bd (m_X10_isWithin x3 (0 : Int32) (9 : Int32) u_3) fun r_4 u_5 =>
      if r_4.toInt = 0 then
        some ((0 : Int32), u_5)
      else
        Option.bind (q_ast u_5 11 50 ((x1 * (5 : Int32)) + x2) x3) fun u_6 =>
        q_bd (m_X10_forget  u_6) fun _ u_7 =>
        some ((1 : Int32), u_7)
def m_X0_setRule (k : Nat) (x1 : Int32) (x2 : Int32) (u : qS) : qR :=
  q_jn (fun  (u_1 : qS) =>
    q_jn (fun  (u_2 : qS) =>
      q_jn (fun  (u_3 : qS) =>
        if x1.toInt = (3 : Int32).toInt then
          q_bd (m_X10_isWithin x2 (1 : Int32) (52 : Int32) u_3) fun r u_4 =>
          if r.toInt = 0 then
            some ((0 : Int32), u_4)
          else
            q_let (q_up u_4 k 5 x2) fun u_5 =>
            some ((1 : Int32), u_5)
        else
          some ((0 : Int32), u_3)) fun J70 =>
      if x1.toInt = (2 : Int32).toInt then
        q_bd (m_X10_isWithin x2 (1 : Int32) (99 : Int32) u_2) fun r_6 u_7 =>
        if r_6.toInt = 0 then
          J70  u_7
        else
          q_let (q_up u_7 k 4 x2) fun u_8 =>
          some ((1 : Int32), u_8)
      else
        J70  u_2) fun J47 =>
    if x1.toInt = (1 : Int32).toInt then
      q_bd (m_X10_isWithin x2 (0 : Int32) (1000 : Int32) u_1) fun r_9 u_10 =>
      if r_9.toInt = 0 then
        J47  u_10
      else
        q_let (q_up u_10 k 3 x2) fun u_11 =>
        some ((1 : Int32), u_11)
    else
      J47  u_1) fun J23 =>
  if x1.toInt = 0 then
    q_bd (m_X10_isWithin x2 (0 : Int32) (1000 : Int32) u) fun r_12 u_13 =>
    if r_12.toInt = 0 then
      J23  u_13
    else
      q_let (q_up u_13 k 2 x2) fun u_14 =>
      some ((1 : Int32), u_14)
  else
    J23  u
def m_X0_isTree (k : Nat) (x1 : Int32) (u : qS) : qR :=
  if x1.toInt < 0 then
    some ((0 : Int32), u)
  else
    if (u.1 k 8).toInt ≤ x1.toInt then
      some ((0 : Int32), u)
    else
      some ((1 : Int32), u)
def m_X0_setValue (k : Nat) (x1 : Int32) (x2 : Int32) (x3 : Int32) (u : qS) : qR :=
  q_jn (fun  (u_1 : qS) =>
    q_jn (fun  (u_2 : qS) =>
      q_jn (fun  (u_3 : qS) =>
        if x1.toInt = (7 : Int32).toInt then
          q_bd (m_X0_isParty k x2 u_3) fun r u_4 =>
          if r.toInt = 0 then
            some ((0 : Int32), u_4)
          else
            q_bd (m_X10_isWithin x3 (0 : Int32) (9999 : Int32) u_4) fun r_5 u_6 =>
            if r_5.toInt = 0 then
              some ((0 : Int32), u_6)
            else
              Option.bind (q_ast u_6 (k + 2) 5 x2 x3) fun u_7 =>
              some ((1 : Int32), u_7)
        else
          some ((0 : Int32), u_3)) fun J101 =>
      if x1.toInt = (6 : Int32).toInt then
        q_bd (m_X0_isParty k x2 u_2) fun r_8 u_9 =>
        if r_8.toInt = 0 then
          J101  u_9
        else
          q_bd (m_X10_isWithin x3 (0 : Int32) (999 : Int32) u_9) fun r_10 u_11 =>
          if r_10.toInt = 0 then
            J101  u_11
          else
            Option.bind (q_ast u_11 (k + 1) 5 x2 x3) fun u_12 =>
            some ((1 : Int32), u_12)
      else
        J101  u_2) fun J66 =>
    if x1.toInt = (5 : Int32).toInt then
      q_bd (m_X0_isEater k x2 u_1) fun r_13 u_14 =>
      if r_13.toInt = 0 then
        J66  u_14
      else
        q_bd (m_X10_isWithin x3 (0 : Int32) (20 : Int32) u_14) fun r_15 u_16 =>
        if r_15.toInt = 0 then
          J66  u_16
        else
          Option.bind (q_ast u_16 (k + 8) 10 x2 x3) fun u_17 =>
          some ((1 : Int32), u_17)
    else
      J66  u_1) fun J33 =>
  if x1.toInt = (4 : Int32).toInt then
    q_bd (m_X0_isTree k x2 u) fun r_18 u_19 =>
    if r_18.toInt = 0 then
      J33  u_19
    else
      q_bd (m_X10_isWithin x3 (0 : Int32) (99 : Int32) u_19) fun r_20 u_21 =>
      if r_20.toInt = 0 then
        J33  u_21
      else
        Option.bind (q_ast u_21 (k + 7) 14 x2 x3) fun u_22 =>
        some ((1 : Int32), u_22)
  else
    J33  u
def m_X10_set (x1 : Int32) (x2 : Int32) (x3 : Int32) (u : qS) : qR :=
  q_jn (fun (s0 : Int32) (u_1 : qS) =>
    if s0.toInt = 0 then
      q_bz s0 (some (s0, u_1))
    else
      q_bd (m_X10_forget  u_1) fun _ u_2 =>
      q_bz s0 (some (s0, u_2))) fun J27 =>
  if (4 : Int32).toInt ≤ x1.toInt then
    q_bd (m_X0_setValue 2 x1 x2 x3 u) fun r u_3 =>
    J27 r u_3
  else
    q_bd (m_X0_setRule 2 x1 x3 u) fun r_4 u_5 =>
    J27 r_4 u_5
def m_X10_isPlace (x0 : Int32) (u : qS) : qR :=
  if x0.toInt < 0 then
    some ((0 : Int32), u)
  else
    if (10 : Int32).toInt ≤ x0.toInt then
      some ((0 : Int32), u)
    else
      some ((1 : Int32), u)
def m_X0_copyFrom (k : Nat) (k1 : Nat) (u : qS) : qR :=
  q_let (q_up u k 0 (u.1 k1 0)) fun u_1 =>
  q_let (q_up u_1 k 1 (u_1.1 k1 1)) fun u_2 =>
  q_let (q_up u_2 k 2 (u_2.1 k1 2)) fun u_3 =>
  q_let (q_up u_3 k 3 (u_3.1 k1 3)) fun u_4 =>
  q_let (q_up u_4 k 4 (u_4.1 k1 4)) fun u_5 =>
  q_let (q_up u_5 k 5 (u_5.1 k1 5)) fun u_6 =>
  q_let (q_up u_6 k 6 (u_6.1 k1 6)) fun u_7 =>
  q_let (q_up u_7 k 7 (u_7.1 k1 7)) fun u_8 =>
  q_let (q_up u_8 k 8 (u_8.1 k1 8)) fun u_9 =>
  q_let (q_up u_9 k 9 (u_9.1 k1 9)) fun u_10 =>
  q_let (q_up u_10 k 10 (u_10.1 k1 10)) fun u_11 =>
  q_let (q_st u_11 (k + 1) (q_cp (u_11.1 (k1 + 1)) (u_11.1 (k + 1)) 5)) fun u_12 =>
  q_let (q_st u_12 (k + 2) (q_cp (u_12.1 (k1 + 2)) (u_12.1 (k + 2)) 5)) fun u_13 =>
  q_let (q_st u_13 (k + 3) (q_cp (u_13.1 (k1 + 3)) (u_13.1 (k + 3)) 5)) fun u_14 =>
  q_let (q_st u_14 (k + 4) (q_cp (u_14.1 (k1 + 4)) (u_14.1 (k + 4)) 14)) fun u_15 =>
  q_let (q_st u_15 (k + 5) (q_cp (u_15.1 (k1 + 5)) (u_15.1 (k + 5)) 14)) fun u_16 =>
  q_let (q_st u_16 (k + 6) (q_cp (u_16.1 (k1 + 6)) (u_16.1 (k + 6)) 14)) fun u_17 =>
  q_let (q_st u_17 (k + 7) (q_cp (u_17.1 (k1 + 7)) (u_17.1 (k + 7)) 14)) fun u_18 =>
  q_let (q_st u_18 (k + 8) (q_cp (u_18.1 (k1 + 8)) (u_18.1 (k + 8)) 10)) fun u_19 =>
  q_let (q_st u_19 (k + 9) (q_cp (u_19.1 (k1 + 9)) (u_19.1 (k + 9)) 50)) fun u_20 =>
  some (0, u_20)
def m_X10_keep  (u : qS) : qR :=
  Option.bind (q_ix 6 (u.1 0 6)) fun j =>
  q_bd (m_X0_copyFrom (q_kp j) 2 u) fun _ u_1 =>
  q_jn (fun (s0 : Int32) (u_2 : qS) =>
    q_let (q_up u_2 0 6 s0) fun u_3 =>
    q_let (q_up u_3 0 5 (q_min (6 : Int32) ((u_3.1 0 5) + (1 : Int32)))) fun u_4 =>
    some (0, u_4)) fun J35 =>
  if (5 : Int32).toInt ≤ (u_1.1 0 6).toInt then
    J35 (0 : Int32) u_1
  else
    J35 ((u_1.1 0 6) + (1 : Int32)) u_1
def m_X0_addTree (k : Nat) (x1 : Int32) (x2 : Int32) (x3 : Int32) (u : qS) : qR :=
  q_let (u.1 k 8) fun y4 =>
  Option.bind (q_ast u (k + 4) 14 y4 x1) fun u_1 =>
  Option.bind (q_ast u_1 (k + 5) 14 y4 x2) fun u_2 =>
  Option.bind (q_ast u_2 (k + 6) 14 y4 x3) fun u_3 =>
  Option.bind (q_ast u_3 (k + 7) 14 y4 (0 : Int32)) fun u_4 =>
  q_let (q_up u_4 k 8 ((u_4.1 k 8) + (1 : Int32))) fun u_5 =>
  some (y4, u_5)
def m_X3_write (k : Nat) (k1 : Nat) (x2 : Int32) (x3 : Int32) (x4 : Int32) (u : qS) : qR :=
  if (u.1 k1 10).toInt < (150 : Int32).toInt then
    q_let ((u.1 k1 10) * (4 : Int32)) fun y5 =>
    Option.bind (q_ast u (k + 1) 600 y5 (u.1 k1 0)) fun u_1 =>
    Option.bind (q_ast u_1 (k + 1) 600 (y5 + (1 : Int32)) x2) fun u_2 =>
    Option.bind (q_ast u_2 (k + 1) 600 (y5 + (2 : Int32)) x3) fun u_3 =>
    Option.bind (q_ast u_3 (k + 1) 600 (y5 + (3 : Int32)) x4) fun u_4 =>
    q_let (q_up u_4 k1 10 ((u_4.1 k1 10) + (1 : Int32))) fun u_5 =>
    some (0, u_5)
  else
    some (0, u)
def m_X10_plant (x1 : Int32) (x2 : Int32) (x3 : Int32) (u : qS) : qR :=
  q_bd (m_X0_isParty 2 x1 u) fun r u_1 =>
  q_jn (fun (s0 : Int32) (u_2 : qS) =>
    if s0.toInt = 0 then
      some ((-1 : Int32), u_2)
    else
      if (u_2.1 2 8).toInt < (14 : Int32).toInt then
        q_bd (m_X10_keep  u_2) fun _ u_3 =>
        q_bd (m_X0_addTree 2 x1 x2 x3 u_3) fun r_4 u_5 =>
        q_bd (m_X3_write 31 2 (0 : Int32) r_4 (0 : Int32) u_5) fun _ u_6 =>
        some (r_4, u_6)
      else
        some ((-1 : Int32), u_2)) fun J33 =>
  q_jn (fun  (u_7 : qS) =>
    J33 (0 : Int32) u_7) fun J32 =>
  if r.toInt = 0 then
    J32  u_1
  else
    q_bd (m_X10_isPlace x2 u_1) fun r_8 u_9 =>
    if r_8.toInt = 0 then
      J32  u_9
    else
      q_bd (m_X10_isWithin x3 (0 : Int32) (99 : Int32) u_9) fun r_10 u_11 =>
      if r_10.toInt = 0 then
        J32  u_11
      else
        J33 (1 : Int32) u_11
def m_X0_isFenced (k : Nat) (x1 : Int32) (u : qS) : qR :=
  if (((u.1 k 6) >>> (x1 &&& 31)) &&& (1 : Int32)).toInt = (1 : Int32).toInt then
    some ((1 : Int32), u)
  else
    some ((0 : Int32), u)
def m_X0_turnFence (k : Nat) (x1 : Int32) (u : qS) : qR :=
  q_let (q_up u k 6 ((u.1 k 6) ^^^ ((1 : Int32) <<< (x1 &&& 31)))) fun u_1 =>
  some (0, u_1)
def m_X10_fence (x1 : Int32) (x2 : Int32) (u : qS) : qR :=
  q_bd (m_X10_isPlace x1 u) fun r u_1 =>
  if r.toInt = 0 then
    some ((0 : Int32), u_1)
  else
    q_bd (m_X0_isFenced 2 x1 u_1) fun r_2 u_3 =>
    if r_2.toInt = x2.toInt then
      some ((0 : Int32), u_3)
    else
      q_bd (m_X10_keep  u_3) fun _ u_4 =>
      q_bd (m_X0_turnFence 2 x1 u_4) fun _ u_5 =>
      q_jn (fun (s0 : Int32) (u_6 : qS) =>
        q_bd (m_X3_write 31 2 s0 x1 (0 : Int32) u_6) fun _ u_7 =>
        some ((1 : Int32), u_7)) fun J53 =>
      if x2.toInt = 0 then
        J53 (2 : Int32) u_5
      else
        J53 (1 : Int32) u_5
def m_X0_cook_L5 (k : Nat) (x1 : Int32) (x2 : Int32) (K68 : Int32 → qS → qR) (self : Int32 → Int32 → qS → qR) (x3 : Int32) (x4 : Int32) (u : qS) : qR :=
  if (u.1 k 8).toInt ≤ x4.toInt then
    K68 x3 u
  else
    if x2.toInt ≤ x3.toInt then
      K68 x3 u
    else
      Option.bind (q_ald u (k + 4) 14 x4) fun a =>
      q_jn (fun (x3_1 : Int32) (u_2 : qS) =>
        self x3_1 (x4 + (1 : Int32)) u_2) fun J62 =>
      if a.toInt = x1.toInt then
        Option.bind (q_ald u (k + 7) 14 x4) fun a_3 =>
        q_let (q_min (x2 - x3) a_3) fun y5 =>
        Option.bind (q_ald u (k + 7) 14 x4) fun a_4 =>
        Option.bind (q_ast u (k + 7) 14 x4 (a_4 - y5)) fun u_5 =>
        q_let (x3 + y5) fun y3 =>
        J62 y3 u_5
      else
        J62 x3 u
def m_X0_cook (k : Nat) (x1 : Int32) (x2 : Int32) (u : qS) : qR :=
  q_it2 (m_X0_cook_L5 k x1 x2 (fun x3 u_6 =>
    Option.bind (q_ald u_6 (k + 1) 5 x1) fun a =>
    Option.bind (q_ast u_6 (k + 1) 5 x1 (q_min (999 : Int32) (a + x3))) fun u_7 =>
    some (x3, u_7))) q_F (0 : Int32) (0 : Int32) u
def m_X10_boil (x1 : Int32) (x2 : Int32) (u : qS) : qR :=
  q_bd (m_X0_isParty 2 x1 u) fun r u_1 =>
  if r.toInt = 0 then
    some ((-1 : Int32), u_1)
  else
    q_bd (m_X10_isWithin x2 (1 : Int32) (99 : Int32) u_1) fun r_2 u_3 =>
    if r_2.toInt = 0 then
      some ((-1 : Int32), u_3)
    else
      q_bd (m_X10_keep  u_3) fun _ u_4 =>
      q_bd (m_X0_cook 2 x1 x2 u_4) fun r_5 u_6 =>
      q_bd (m_X3_write 31 2 (3 : Int32) x1 r_5 u_6) fun _ u_7 =>
      some (r_5, u_7)
def m_X7_begin_L17 (k : Nat) (K35 : qS → qR) (self : Int32 → qS → qR) (x1 : Int32) (u : qS) : qR :=
  if (5 : Int32).toInt ≤ x1.toInt then
    K35  u
  else
    Option.bind (q_ast u (k + 1) 5 x1 (0 : Int32)) fun u_4 =>
    self (x1 + (1 : Int32)) u_4
def m_X7_begin (k : Nat) (u : qS) : qR :=
  q_let (q_up u k 1 (0 : Int32)) fun u_1 =>
  q_let (q_up u_1 k 2 (-1 : Int32)) fun u_2 =>
  q_let (q_up u_2 k 3 (-1 : Int32)) fun u_3 =>
  q_it1 (m_X7_begin_L17 k (fun  u_5 =>
    some (0, u_5))) q_F (0 : Int32) u_3
def m_X7_note (k : Nat) (k2 : Nat) (x3 : Int32) (x4 : Int32) (x5 : Int32) (u : qS) : qR :=
  if (u.1 k 0).toInt = 0 then
    some (0, u)
  else
    q_bd (m_X3_write 31 k2 x3 x4 x5 u) fun _ u_1 =>
    some (0, u_1)
def m_X7_act (k : Nat) (k2 : Nat) (x3 : Int32) (u : qS) : qR :=
  Option.bind (q_ald u 25 16 x3) fun a =>
  Option.bind (q_ald u 26 16 x3) fun a_1 =>
  Option.bind (q_ald u 27 16 x3) fun a_2 =>
  if a.toInt = (257 : Int32).toInt then
    if (14 : Int32).toInt ≤ (u.1 k2 8).toInt then
      some (0, u)
    else
      q_bd (m_X0_addTree k2 a_1 a_2 (0 : Int32) u) fun r_14 u_15 =>
      q_bd (m_X7_note k k2 (0 : Int32) r_14 (0 : Int32) u_15) fun _ u_16 =>
      some (0, u_16)
  else
    if a.toInt = (261 : Int32).toInt then
      q_bd (m_X0_cook k2 a_1 a_2 u) fun r_11 u_12 =>
      q_bd (m_X7_note k k2 (3 : Int32) a_1 r_11 u_12) fun _ u_13 =>
      some (0, u_13)
    else
      if a.toInt = (262 : Int32).toInt then
        Option.bind (q_ald u (k2 + 8) 10 a_1) fun a_9 =>
        Option.bind (q_ast u (k2 + 8) 10 a_1 (q_min (20 : Int32) ((2 : Int32) * a_9))) fun u_10 =>
        some (0, u_10)
      else
        q_bd (m_X0_isFenced k2 a_1 u) fun r u_3 =>
        q_jn (fun (s0 : Int32) (u_4 : qS) =>
          if r.toInt = s0.toInt then
            some (0, u_4)
          else
            q_bd (m_X0_turnFence k2 a_1 u_4) fun _ u_5 =>
            q_jn (fun (s0_6 : Int32) (u_7 : qS) =>
              q_bd (m_X7_note k k2 s0_6 a_1 (0 : Int32) u_7) fun _ u_8 =>
              some (0, u_8)) fun J174 =>
            if a.toInt = (259 : Int32).toInt then
              J174 (1 : Int32) u_5
            else
              J174 (2 : Int32) u_5) fun J149 =>
        if a.toInt = (259 : Int32).toInt then
          J149 (1 : Int32) u_3
        else
          J149 (0 : Int32) u_3
def m_X7_follow_L2 (k : Nat) (k2 : Nat) (K42 : qS → qR) (self : Int32 → qS → qR) (x3 : Int32) (u : qS) : qR :=
  if (u.1 23 0).toInt ≤ x3.toInt then
    K42  u
  else
    Option.bind (q_ald u 24 16 x3) fun a =>
    q_jn (fun  (u_1 : qS) =>
      self (x3 + (1 : Int32)) u_1) fun J36 =>
    if a.toInt = (u.1 k2 0).toInt then
      q_bd (m_X7_act k k2 x3 u) fun _ u_2 =>
      J36  u_2
    else
      J36  u
def m_X7_follow (k : Nat) (k2 : Nat) (u : qS) : qR :=
  q_it1 (m_X7_follow_L2 k k2 (fun  u_3 =>
    some (0, u_3))) q_F (0 : Int32) u
def m_X2_ask_L2 (k : Nat) (k1 : Nat) (x2 : Int32) (K21 : qS → qR) (self : Int32 → qS → qR) (x3 : Int32) (u : qS) : qR :=
  if (9 : Int32).toInt ≤ x3.toInt then
    K21  u
  else
    Option.bind (q_ast u (k + 6) 9 x3 (0 : Int32)) fun u_1 =>
    self (x3 + (1 : Int32)) u_1
def m_X2_ask (k : Nat) (k1 : Nat) (x2 : Int32) (u : qS) : qR :=
  q_it1 (m_X2_ask_L2 k k1 x2 (fun  u_2 =>
    Option.bind (q_ast u_2 (k + 6) 9 (0 : Int32) (q_rm (u_2.1 k1 0) (52 : Int32))) fun u_3 =>
    q_bd (m_X0_isParty k1 x2 u_3) fun r u_4 =>
    if r.toInt = 0 then
      some (0, u_4)
    else
      Option.bind (q_ast u_4 (k + 6) 9 (1 : Int32) x2) fun u_5 =>
      Option.bind (q_ald u_5 (k1 + 3) 5 x2) fun a =>
      Option.bind (q_ast u_5 (k + 6) 9 (8 : Int32) a) fun u_6 =>
      some (0, u_6))) q_F (0 : Int32) u
def m_X2_askTree (k : Nat) (k1 : Nat) (x2 : Int32) (u : qS) : qR :=
  Option.bind (q_ald u (k1 + 5) 14 x2) fun a =>
  Option.bind (q_ast u (k + 6) 9 (2 : Int32) a) fun u_1 =>
  Option.bind (q_ald u_1 (k1 + 6) 14 x2) fun a_2 =>
  Option.bind (q_ast u_1 (k + 6) 9 (3 : Int32) a_2) fun u_3 =>
  Option.bind (q_ald u_3 (k1 + 7) 14 x2) fun a_4 =>
  Option.bind (q_ast u_3 (k + 6) 9 (4 : Int32) a_4) fun u_5 =>
  some (0, u_5)
def m_X2_value_L5 (k : Nat) (x2 : Int32) (K348 : Int32 → qS → qR) (self : Int32 → Int32 → qS → qR) (x3 : Int32) (x4 : Int32) (u : qS) : qR :=
  if x2.toInt ≤ x4.toInt then
    K348 x3 u
  else
    Option.bind (q_ald u (k + 4) 400 x4) fun a =>
    q_let (a &&& (15 : Int32)) fun y5 =>
    Option.bind (q_ald u (k + 4) 400 x4) fun a_1 =>
    q_let (a_1 >>> ((4 : Int32) &&& 31)) fun y6 =>
    q_jn (fun (x3_2 : Int32) (u_3 : qS) =>
      self x3_2 (x4 + (1 : Int32)) u_3) fun J342 =>
    q_jn (fun  (u_4 : qS) =>
      if (31 : Int32).toInt ≤ x3.toInt then
        J342 x3 u_4
      else
        q_jn (fun (s0 : Int32) (u_5 : qS) =>
          Option.bind (q_ast u_5 (k + 5) 32 (x3 + (1 : Int32)) s0) fun u_6 =>
          J342 (x3 + (1 : Int32)) u_6) fun J76 =>
        if y5.toInt = 0 then
          J76 y6 u_4
        else
          Option.bind (q_ald u_4 (k + 6) 9 y6) fun a_7 =>
          J76 a_7 u_4) fun J45 =>
    if y5.toInt = 0 then
      J45  u
    else
      if y5.toInt = (1 : Int32).toInt then
        J45  u
      else
        if y5.toInt = (2 : Int32).toInt then
          if x3.toInt < 0 then
            J342 x3 u
          else
            if y6.toInt = 0 then
              J342 x3 u
            else
              Option.bind (q_ald u (k + 5) 32 x3) fun a_28 =>
              Option.bind (q_div a_28 y6) fun a_29 =>
              Option.bind (q_ast u (k + 5) 32 x3 a_29) fun u_30 =>
              J342 x3 u_30
        else
          if y5.toInt = (3 : Int32).toInt then
            if x3.toInt < 0 then
              J342 x3 u
            else
              Option.bind (q_ald u (k + 5) 32 x3) fun a_24 =>
              q_jn (fun (s0_25 : Int32) (u_26 : qS) =>
                Option.bind (q_ast u_26 (k + 5) 32 x3 s0_25) fun u_27 =>
                J342 x3 u_27) fun J138 =>
              if a_24.toInt = 0 then
                J138 (1 : Int32) u
              else
                J138 (0 : Int32) u
          else
            if x3.toInt < (1 : Int32).toInt then
              J342 x3 u
            else
              Option.bind (q_ald u (k + 5) 32 x3) fun a_8 =>
              Option.bind (q_ald u (k + 5) 32 (x3 + (-1 : Int32))) fun a_9 =>
              if y5.toInt = 4 then
                Option.bind (q_ast u (k + 5) 32 (x3 + (-1 : Int32)) (a_9 * a_8)) fun u_10 =>
                J342 (x3 + (-1 : Int32)) u_10
              else
              if y5.toInt = 5 then
                Option.bind (q_ast u (k + 5) 32 (x3 + (-1 : Int32)) (a_9 + a_8)) fun u_11 =>
                J342 (x3 + (-1 : Int32)) u_11
              else
              if y5.toInt = 6 then
                Option.bind (q_ast u (k + 5) 32 (x3 + (-1 : Int32)) (a_9 - a_8)) fun u_12 =>
                J342 (x3 + (-1 : Int32)) u_12
              else
              if y5.toInt = 7 then
                q_jn (fun (s0_13 : Int32) (u_14 : qS) =>
                  Option.bind (q_ast u_14 (k + 5) 32 (x3 + (-1 : Int32)) s0_13) fun u_15 =>
                  J342 (x3 + (-1 : Int32)) u_15) fun J271 =>
                if a_8.toInt ≤ a_9.toInt then
                  J271 (0 : Int32) u
                else
                  J271 (1 : Int32) u
              else
              if y5.toInt = 8 then
                q_jn (fun (s0_16 : Int32) (u_17 : qS) =>
                  Option.bind (q_ast u_17 (k + 5) 32 (x3 + (-1 : Int32)) s0_16) fun u_18 =>
                  J342 (x3 + (-1 : Int32)) u_18) fun J292 =>
                if a_9.toInt = a_8.toInt then
                  J292 (1 : Int32) u
                else
                  J292 (0 : Int32) u
              else
              if y5.toInt = 9 then
                q_jn (fun (s0_19 : Int32) (u_20 : qS) =>
                  Option.bind (q_ast u_20 (k + 5) 32 (x3 + (-1 : Int32)) s0_19) fun u_21 =>
                  J342 (x3 + (-1 : Int32)) u_21) fun J313 =>
                if a_9.toInt ≤ a_8.toInt then
                  J313 (0 : Int32) u
                else
                  J313 (1 : Int32) u
              else
              if y5.toInt = 10 then
                Option.bind (q_ast u (k + 5) 32 (x3 + (-1 : Int32)) (a_9 &&& a_8)) fun u_22 =>
                J342 (x3 + (-1 : Int32)) u_22
              else
              Option.bind (q_ast u (k + 5) 32 (x3 + (-1 : Int32)) (a_9 ||| a_8)) fun u_23 =>
              J342 (x3 + (-1 : Int32)) u_23
def m_X2_value (k : Nat) (x1 : Int32) (x2 : Int32) (u : qS) : qR :=
  q_it2 (m_X2_value_L5 k x2 (fun x3 u_31 =>
    if x3.toInt < 0 then
      some ((0 : Int32), u_31)
    else
      Option.bind (q_ald u_31 (k + 5) 32 x3) fun a =>
      some (a, u_31))) q_F (-1 : Int32) x1 u
def m_X2_tell_L2 (k : Nat) (x1 : Int32) (x2 : Int32) (K58 : Int32 → qS → qR) (K81 : qS → qR) (self : Int32 → qS → qR) (x3 : Int32) (u : qS) : qR :=
  if (u.1 k 0).toInt ≤ x3.toInt then
    K81  u
  else
    Option.bind (q_ald u (k + 1) 16 x3) fun a =>
    q_jn (fun  (u_1 : qS) =>
      self (x3 + (1 : Int32)) u_1) fun J75 =>
    if a.toInt = x1.toInt then
      Option.bind (q_ald u (k + 3) 16 x3) fun a_2 =>
      Option.bind (q_ald u (k + 2) 17 (x3 + (1 : Int32))) fun a_3 =>
      if a_2.toInt = a_3.toInt then
        K58 x3 u
      else
        Option.bind (q_ald u (k + 3) 16 x3) fun a_4 =>
        Option.bind (q_ald u (k + 2) 17 (x3 + (1 : Int32))) fun a_5 =>
        q_bd (m_X2_value k a_4 a_5 u) fun r u_6 =>
        if r.toInt = 0 then
          J75  u_6
        else
          K58 x3 u_6
    else
      J75  u
def m_X2_tell (k : Nat) (x1 : Int32) (x2 : Int32) (u : qS) : qR :=
  q_it1 (m_X2_tell_L2 k x1 x2 (fun x3 u_7 =>
    Option.bind (q_ald u_7 (k + 2) 17 x3) fun a =>
    Option.bind (q_ald u_7 (k + 3) 16 x3) fun a_8 =>
    q_bd (m_X2_value k a a_8 u_7) fun r u_9 =>
    some (r, u_9)) (fun  u_10 =>
    some (x2, u_10))) q_F (0 : Int32) u
def m_X2_hold (x0 : Int32) (x1 : Int32) (u : qS) : qR :=
  some ((q_max (0 : Int32) (q_min x1 x0)), u)
def m_X2_bears (k : Nat) (k1 : Nat) (x2 : Int32) (u : qS) : qR :=
  Option.bind (q_ald u (k1 + 4) 14 x2) fun a =>
  q_bd (m_X2_ask k k1 a u) fun _ u_1 =>
  q_bd (m_X2_askTree k k1 x2 u_1) fun _ u_2 =>
  Option.bind (q_ald u_2 (k1 + 6) 14 x2) fun a_3 =>
  q_bd (m_X2_tell k (0 : Int32) (a_3 / (5 : Int32)) u_2) fun r u_4 =>
  q_bd (m_X2_hold r (99 : Int32) u_4) fun r_5 u_6 =>
  some (r_5, u_6)
def m_X2_wants (k : Nat) (k1 : Nat) (x2 : Int32) (u : qS) : qR :=
  q_bd (m_X2_ask k k1 (-1 : Int32) u) fun _ u_1 =>
  Option.bind (q_ald u_1 (k1 + 8) 10 x2) fun a =>
  Option.bind (q_ast u_1 (k + 6) 9 (5 : Int32) a) fun u_2 =>
  Option.bind (q_ald u_2 (k1 + 8) 10 x2) fun a_3 =>
  q_bd (m_X2_tell k (1 : Int32) a_3 u_2) fun r u_4 =>
  q_bd (m_X2_hold r (20 : Int32) u_4) fun r_5 u_6 =>
  some (r_5, u_6)
def m_X4_step (k : Nat) (x1 : Int32) (x2 : Int32) (u : qS) : qR :=
  if x2.toInt < 0 then
    some ((-1 : Int32), u)
  else
    Option.bind (q_ald u (k + 1) 10 x1) fun a =>
    if a.toInt ≤ x2.toInt then
      some ((-1 : Int32), u)
    else
      Option.bind (q_ald u (k + 2) 80 ((x1 * (8 : Int32)) + x2)) fun a_1 =>
      some (a_1, u)
def m_X0_tasteFor (k : Nat) (x1 : Int32) (x2 : Int32) (u : qS) : qR :=
  Option.bind (q_ald u (k + 9) 50 ((x1 * (5 : Int32)) + x2)) fun a =>
  some (a, u)
def m_X0_treeFor_L8 (k : Nat) (x1 : Int32) (x2 : Int32) (K78 : Int32 → qS → qR) (self : Int32 → Int32 → Int32 → qS → qR) (x3 : Int32) (x4 : Int32) (x5 : Int32) (u : qS) : qR :=
  if (u.1 k 8).toInt ≤ x5.toInt then
    K78 x3 u
  else
    Option.bind (q_ald u (k + 5) 14 x5) fun a =>
    q_jn (fun (x3_1 : Int32) (x4_2 : Int32) (u_3 : qS) =>
      self x3_1 x4_2 (x5 + (1 : Int32)) u_3) fun J72 =>
    if a.toInt = x2.toInt then
      Option.bind (q_ald u (k + 7) 14 x5) fun a_4 =>
      if a_4.toInt ≤ 0 then
        J72 x3 x4 u
      else
        Option.bind (q_ald u (k + 4) 14 x5) fun a_5 =>
        q_bd (m_X0_tasteFor k x1 a_5 u) fun r u_6 =>
        if r.toInt ≤ x4.toInt then
          J72 x3 x4 u_6
        else
          Option.bind (q_ald u_6 (k + 4) 14 x5) fun a_7 =>
          q_bd (m_X0_tasteFor k x1 a_7 u_6) fun r_8 u_9 =>
          J72 x5 r_8 u_9
    else
      J72 x3 x4 u
def m_X0_treeFor (k : Nat) (x1 : Int32) (x2 : Int32) (u : qS) : qR :=
  q_it3 (m_X0_treeFor_L8 k x1 x2 (fun x3 u_10 =>
    some (x3, u_10))) q_F (-1 : Int32) (0 : Int32) (0 : Int32) u
def m_X2_counts (k : Nat) (k1 : Nat) (x2 : Int32) (x3 : Int32) (x4 : Int32) (u : qS) : qR :=
  q_bd (m_X2_ask k k1 x3 u) fun _ u_1 =>
  Option.bind (q_ald u_1 (k1 + 8) 10 x2) fun a =>
  Option.bind (q_ast u_1 (k + 6) 9 (5 : Int32) a) fun u_2 =>
  q_bd (m_X0_tasteFor k1 x2 x3 u_2) fun r u_3 =>
  Option.bind (q_ast u_3 (k + 6) 9 (6 : Int32) r) fun u_4 =>
  q_jn (fun  (u_5 : qS) =>
    q_bd (m_X2_tell k (2 : Int32) (1 : Int32) u_5) fun r_6 u_7 =>
    q_bd (m_X2_hold r_6 (9 : Int32) u_7) fun r_8 u_9 =>
    some (r_8, u_9)) fun J55 =>
  if x4.toInt = (-1 : Int32).toInt then
    Option.bind (q_ast u_4 (k + 6) 9 (7 : Int32) (1 : Int32)) fun u_11 =>
    J55  u_11
  else
    q_bd (m_X2_askTree k k1 x4 u_4) fun _ u_10 =>
    J55  u_10
def m_X7_count (k : Nat) (k1 : Nat) (x2 : Int32) (x3 : Int32) (u : qS) : qR :=
  Option.bind (q_ald u (k1 + 2) 5 x2) fun a =>
  q_let (q_min x3 ((9999 : Int32) - a)) fun y4 =>
  Option.bind (q_ald u (k1 + 2) 5 x2) fun a_1 =>
  Option.bind (q_ast u (k1 + 2) 5 x2 (a_1 + y4)) fun u_2 =>
  Option.bind (q_ald u_2 (k + 1) 5 x2) fun a_3 =>
  Option.bind (q_ast u_2 (k + 1) 5 x2 (a_3 + y4)) fun u_4 =>
  some (0, u_4)
def m_X0_drawOfThousand (k : Nat) (u : qS) : qR :=
  q_let (q_up u k 1 (((1664525 : Int32) * (u.1 k 1)) + (1013904223 : Int32))) fun u_1 =>
  some ((q_rm (q_ushr (u_1.1 k 1) (8 : Int32)) (1000 : Int32)), u_1)
def m_X7_pick_L58 (k : Nat) (k2 : Nat) (x3 : Int32) (x4 : Int32) (x7 : Int32) (x8 : Int32) (x9 : Int32) (K147 : qS → qR) (K189 : Int32 → qS → qR) (self : Int32 → Int32 → Int32 → qS → qR) (x6 : Int32) (x10 : Int32) (x11 : Int32) (u : qS) : qR :=
  if x11.toInt ≤ 0 then
    K189 x6 u
  else
    if x6.toInt ≤ 0 then
      K189 x6 u
    else
      q_jn (fun (x10_3 : Int32) (u_4 : qS) =>
        q_bd (m_X7_count k k2 x9 x10_3 u_4) fun _ u_5 =>
        Option.bind (q_ald u_5 (k2 + 7) 14 x8) fun a =>
        Option.bind (q_ast u_5 (k2 + 7) 14 x8 (a - (1 : Int32))) fun u_6 =>
        q_jn (fun  (u_7 : qS) =>
          self (x6 + (-1 : Int32)) x10_3 (x11 + (-1 : Int32)) u_7) fun J183 =>
        if (u_6.1 k 0).toInt = 0 then
          J183  u_6
        else
          if (u_6.1 k2 2).toInt ≤ 0 then
            J183  u_6
          else
            q_bd (m_X0_drawOfThousand k2 u_6) fun r u_8 =>
            if (u_8.1 k2 2).toInt ≤ r.toInt then
              J183  u_8
            else
              K147  u_8) fun J99 =>
      q_jn (fun  (u_9 : qS) =>
        q_bd (m_X2_counts 12 k2 x3 x9 x8 u_9) fun r_10 u_11 =>
        J99 r_10 u_11) fun J84 =>
      if x10.toInt = (-1 : Int32).toInt then
        J84  u
      else
        if (u.1 12 6).toInt = 0 then
          J99 x10 u
        else
          J84  u
def m_X7_pick_L7 (k : Nat) (k2 : Nat) (x3 : Int32) (x4 : Int32) (K34 : Int32 → qS → qR) (K147 : Int32 → qS → qR) (K195 : Int32 → qS → qR) (self : Int32 → Int32 → qS → qR) (x6 : Int32) (x7 : Int32) (u : qS) : qR :=
  if (14 : Int32).toInt ≤ x7.toInt then
    K195 x6 u
  else
    if x6.toInt ≤ 0 then
      K195 x6 u
    else
      q_bd (m_X0_treeFor k2 x3 x4 u) fun r u_1 =>
      if r.toInt = (-1 : Int32).toInt then
        K34 x6 u_1
      else
        Option.bind (q_ald u_1 (k2 + 4) 14 r) fun a =>
        Option.bind (q_ald u_1 (k2 + 7) 14 r) fun a_2 =>
        q_it3 (m_X7_pick_L58 k k2 x3 x4 x7 r a (fun  u_12 =>
          K147 a u_12) (fun x6_13 u_14 =>
          self x6_13 (x7 + (1 : Int32)) u_14)) q_F x6 (-1 : Int32) a_2 u_1
def m_X7_pick (k : Nat) (k2 : Nat) (x3 : Int32) (x4 : Int32) (x5 : Int32) (u : qS) : qR :=
  q_it2 (m_X7_pick_L7 k k2 x3 x4 (fun x6 u_15 =>
    some (x6, u_15)) (fun x9 u_16 =>
    q_bd (m_X0_tasteFor k2 x3 x9 u_16) fun r u_17 =>
    Option.bind (q_ast u_17 (k2 + 9) 50 ((x3 * (5 : Int32)) + x9) (q_max (0 : Int32) (r - (2 : Int32)))) fun u_18 =>
    q_bd (m_X7_note k k2 (4 : Int32) x3 x9 u_18) fun _ u_19 =>
    some ((0 : Int32), u_19)) (fun x6_20 u_21 =>
    some (x6_20, u_21))) q_F x5 (0 : Int32) u
def m_X0_jamFor_L7 (k : Nat) (x1 : Int32) (K54 : Int32 → qS → qR) (self : Int32 → Int32 → Int32 → qS → qR) (x2 : Int32) (x3 : Int32) (x4 : Int32) (u : qS) : qR :=
  if (u.1 k 7).toInt ≤ x4.toInt then
    K54 x2 u
  else
    Option.bind (q_ald u (k + 1) 5 x4) fun a =>
    q_jn (fun (x2_1 : Int32) (x3_2 : Int32) (u_3 : qS) =>
      self x2_1 x3_2 (x4 + (1 : Int32)) u_3) fun J48 =>
    if a.toInt ≤ 0 then
      J48 x2 x3 u
    else
      q_bd (m_X0_tasteFor k x1 x4 u) fun r u_4 =>
      if r.toInt ≤ x3.toInt then
        J48 x2 x3 u_4
      else
        q_bd (m_X0_tasteFor k x1 x4 u_4) fun r_5 u_6 =>
        J48 x4 r_5 u_6
def m_X0_jamFor (k : Nat) (x1 : Int32) (u : qS) : qR :=
  q_it3 (m_X0_jamFor_L7 k x1 (fun x2 u_7 =>
    some (x2, u_7))) q_F (-1 : Int32) (0 : Int32) (0 : Int32) u
def m_X7_spoon_L7 (k : Nat) (k2 : Nat) (x3 : Int32) (K31 : Int32 → qS → qR) (K99 : Int32 → qS → qR) (self : Int32 → Int32 → qS → qR) (x5 : Int32) (x6 : Int32) (u : qS) : qR :=
  if (5 : Int32).toInt ≤ x6.toInt then
    K99 x5 u
  else
    if x5.toInt ≤ 0 then
      K99 x5 u
    else
      q_bd (m_X0_jamFor k2 x3 u) fun r u_1 =>
      if r.toInt = (-1 : Int32).toInt then
        K31 x5 u_1
      else
        q_bd (m_X2_counts 12 k2 x3 r (-1 : Int32) u_1) fun r_2 u_3 =>
        Option.bind (q_ald u_3 (k2 + 1) 5 r) fun a =>
        q_let (q_min x5 a) fun y9 =>
        q_bd (m_X7_count k k2 r (r_2 * y9) u_3) fun _ u_4 =>
        Option.bind (q_ald u_4 (k2 + 1) 5 r) fun a_5 =>
        Option.bind (q_ast u_4 (k2 + 1) 5 r (a_5 - y9)) fun u_6 =>
        q_let (x5 - y9) fun y5 =>
        self y5 (x6 + (1 : Int32)) u_6
def m_X7_spoon (k : Nat) (k2 : Nat) (x3 : Int32) (x4 : Int32) (u : qS) : qR :=
  q_it2 (m_X7_spoon_L7 k k2 x3 (fun x5 u_7 =>
    some (x5, u_7)) (fun x5_8 u_9 =>
    some (x5_8, u_9))) q_F x4 (0 : Int32) u
def m_X7_eat_L14 (k : Nat) (k2 : Nat) (x3 : Int32) (K73 : Int32 → qS → qR) (self : Int32 → Int32 → qS → qR) (x4 : Int32) (x5 : Int32) (u : qS) : qR :=
  Option.bind (q_ald u 20 10 x3) fun a =>
  if a.toInt ≤ x5.toInt then
    K73 x4 u
  else
    if x4.toInt ≤ 0 then
      K73 x4 u
    else
      q_bd (m_X4_step 19 x3 x5 u) fun r u_2 =>
      q_bd (m_X0_isFenced k2 r u_2) fun r_3 u_4 =>
      q_jn (fun (x4_5 : Int32) (u_6 : qS) =>
        self x4_5 (x5 + (1 : Int32)) u_6) fun J67 =>
      if r_3.toInt = 0 then
        q_bd (m_X7_pick k k2 x3 r x4 u_4) fun r_7 u_8 =>
        J67 r_7 u_8
      else
        J67 x4 u_4
def m_X7_eat (k : Nat) (k2 : Nat) (x3 : Int32) (u : qS) : qR :=
  q_bd (m_X2_wants 12 k2 x3 u) fun r u_1 =>
  q_it2 (m_X7_eat_L14 k k2 x3 (fun x4 u_9 =>
    q_bd (m_X7_spoon k k2 x3 x4 u_9) fun r_10 u_11 =>
    if r_10.toInt ≤ 0 then
      some (0, u_11)
    else
      q_bd (m_X7_note k k2 (5 : Int32) x3 r_10 u_11) fun _ u_12 =>
      q_let (q_up u_12 k 1 ((u_12.1 k 1) + (1 : Int32))) fun u_13 =>
      if (u_13.1 k 2).toInt = (-1 : Int32).toInt then
        q_let (q_up u_13 k 2 x3) fun u_14 =>
        q_let (q_up u_14 k 3 (u_14.1 k2 0)) fun u_15 =>
        some (0, u_15)
      else
        some (0, u_13))) q_F r (0 : Int32) u_1
def m_X7_sting_L2 (k : Nat) (k2 : Nat) (K71 : qS → qR) (self : Int32 → qS → qR) (x3 : Int32) (u : qS) : qR :=
  if (u.1 k2 8).toInt ≤ x3.toInt then
    K71  u
  else
    Option.bind (q_ald u (k2 + 7) 14 x3) fun a =>
    q_jn (fun  (u_1 : qS) =>
      self (x3 + (1 : Int32)) u_1) fun J65 =>
    if a.toInt < (10 : Int32).toInt then
      J65  u
    else
      q_bd (m_X0_drawOfThousand k2 u) fun r u_2 =>
      if (u_2.1 k2 3).toInt ≤ r.toInt then
        J65  u_2
      else
        Option.bind (q_ald u_2 (k2 + 7) 14 x3) fun a_3 =>
        q_let (a_3 / (10 : Int32)) fun y4 =>
        Option.bind (q_ald u_2 (k2 + 7) 14 x3) fun a_4 =>
        Option.bind (q_ast u_2 (k2 + 7) 14 x3 (a_4 - y4)) fun u_5 =>
        q_bd (m_X7_note k k2 (6 : Int32) x3 y4 u_5) fun _ u_6 =>
        J65  u_6
def m_X7_sting (k : Nat) (k2 : Nat) (u : qS) : qR :=
  q_it1 (m_X7_sting_L2 k k2 (fun  u_7 =>
    some (0, u_7))) q_F (0 : Int32) u
def m_X0_greatestRemainder_L8 (k : Nat) (x1 : Int32) (x2 : Int32) (K98 : Int32 → qS → qR) (self : Int32 → Int32 → Int32 → qS → qR) (x3 : Int32) (x4 : Int32) (x5 : Int32) (u : qS) : qR :=
  if (u.1 k 7).toInt ≤ x5.toInt then
    K98 x3 u
  else
    q_jn (fun (x3_1 : Int32) (x4_2 : Int32) (u_3 : qS) =>
      self x3_1 x4_2 (x5 + (1 : Int32)) u_3) fun J92 =>
    if ((x2 >>> (x5 &&& 31)) &&& (1 : Int32)).toInt = 0 then
      q_jn (fun (s0 : Int32) (u_4 : qS) =>
        q_jn (fun  (u_5 : qS) =>
          J92 x5 s0 u_5) fun J85 =>
        if x3.toInt = (-1 : Int32).toInt then
          J85  u_4
        else
          if x4.toInt < s0.toInt then
            J85  u_4
          else
            if s0.toInt = x4.toInt then
              Option.bind (q_ald u_4 (k + 3) 5 x5) fun a =>
              Option.bind (q_ald u_4 (k + 3) 5 x3) fun a_6 =>
              if a.toInt ≤ a_6.toInt then
                J92 x3 x4 u_4
              else
                J85  u_4
            else
              J92 x3 x4 u_4) fun J48 =>
      if x1.toInt ≤ 0 then
        J48 (0 : Int32) u
      else
        Option.bind (q_ald u (k + 2) 5 x5) fun a_7 =>
        Option.bind (q_rem (a_7 * (u.1 k 4)) x1) fun a_8 =>
        J48 a_8 u
    else
      J92 x3 x4 u
def m_X0_greatestRemainder (k : Nat) (x1 : Int32) (x2 : Int32) (u : qS) : qR :=
  q_it3 (m_X0_greatestRemainder_L8 k x1 x2 (fun x3 u_9 =>
    some (x3, u_9))) q_F (-1 : Int32) (-1 : Int32) (0 : Int32) u
def m_X0_seatAnew_L4 (k : Nat) (K27 : Int32 → qS → qR) (self : Int32 → Int32 → qS → qR) (x1 : Int32) (x2 : Int32) (u : qS) : qR :=
  if (u.1 k 7).toInt ≤ x2.toInt then
    K27 x1 u
  else
    Option.bind (q_ald u (k + 2) 5 x2) fun a =>
    q_let (x1 + a) fun y1 =>
    self y1 (x2 + (1 : Int32)) u
def m_X0_seatAnew_L39 (k : Nat) (x1 : Int32) (K81 : Int32 → qS → qR) (self : Int32 → Int32 → qS → qR) (x2 : Int32) (x3 : Int32) (u : qS) : qR :=
  if (u.1 k 7).toInt ≤ x3.toInt then
    K81 x2 u
  else
    Option.bind (q_ald u (k + 2) 5 x3) fun a =>
    Option.bind (q_div (a * (u.1 k 4)) x1) fun a_2 =>
    Option.bind (q_ast u (k + 3) 5 x3 a_2) fun u_3 =>
    Option.bind (q_ald u_3 (k + 3) 5 x3) fun a_4 =>
    q_let (x2 - a_4) fun y2 =>
    self y2 (x3 + (1 : Int32)) u_3
def m_X0_seatAnew_L86 (k : Nat) (x1 : Int32) (x2 : Int32) (K130 : qS → qR) (self : Int32 → Int32 → qS → qR) (x3 : Int32) (x4 : Int32) (u : qS) : qR :=
  if x2.toInt ≤ x4.toInt then
    K130  u
  else
    q_bd (m_X0_greatestRemainder k x1 x3 u) fun r u_6 =>
    q_jn (fun (x3_7 : Int32) (u_8 : qS) =>
      self x3_7 (x4 + (1 : Int32)) u_8) fun J124 =>
    if r.toInt = (-1 : Int32).toInt then
      J124 x3 u_6
    else
      Option.bind (q_ald u_6 (k + 3) 5 r) fun a =>
      Option.bind (q_ast u_6 (k + 3) 5 r (a + (1 : Int32))) fun u_9 =>
      q_let (x3 ||| ((1 : Int32) <<< (r &&& 31))) fun y3 =>
      J124 y3 u_9
def m_X0_seatAnew (k : Nat) (u : qS) : qR :=
  q_it2 (m_X0_seatAnew_L4 k (fun x1 u_1 =>
    if 0 < x1.toInt then
      q_let (u_1.1 k 4) fun y2 =>
      q_it2 (m_X0_seatAnew_L39 k x1 (fun x2 u_5 =>
        q_it2 (m_X0_seatAnew_L86 k x1 x2 (fun  u_10 =>
          some (0, u_10))) q_F (0 : Int32) (0 : Int32) u_5)) q_F y2 (0 : Int32) u_1
    else
      some (0, u_1))) q_F (0 : Int32) (0 : Int32) u
def m_X0_partyWithMostSeats_L4 (k : Nat) (K40 : Int32 → qS → qR) (self : Int32 → Int32 → qS → qR) (x1 : Int32) (x2 : Int32) (u : qS) : qR :=
  if (u.1 k 7).toInt ≤ x2.toInt then
    K40 x1 u
  else
    q_jn (fun (x1_1 : Int32) (u_2 : qS) =>
      self x1_1 (x2 + (1 : Int32)) u_2) fun J34 =>
    q_jn (fun  (u_3 : qS) =>
      J34 x2 u_3) fun J32 =>
    if x1.toInt = (-1 : Int32).toInt then
      J32  u
    else
      Option.bind (q_ald u (k + 3) 5 x2) fun a =>
      Option.bind (q_ald u (k + 3) 5 x1) fun a_4 =>
      if a.toInt ≤ a_4.toInt then
        J34 x1 u
      else
        J32  u
def m_X0_partyWithMostSeats (k : Nat) (u : qS) : qR :=
  q_it2 (m_X0_partyWithMostSeats_L4 k (fun x1 u_5 =>
    some (x1, u_5))) q_F (-1 : Int32) (0 : Int32) u
def m_X7_vote_L6 (k : Nat) (k2 : Nat) (K27 : qS → qR) (self : Int32 → qS → qR) (x3 : Int32) (u : qS) : qR :=
  if (u.1 k2 7).toInt ≤ x3.toInt then
    K27  u
  else
    Option.bind (q_ast u (k2 + 2) 5 x3 (0 : Int32)) fun u_2 =>
    self (x3 + (1 : Int32)) u_2
def m_X7_vote (k : Nat) (k2 : Nat) (u : qS) : qR :=
  q_bd (m_X0_seatAnew k2 u) fun _ u_1 =>
  q_it1 (m_X7_vote_L6 k k2 (fun  u_3 =>
    q_bd (m_X0_partyWithMostSeats k2 u_3) fun r u_4 =>
    q_jn (fun (s0 : Int32) (u_5 : qS) =>
      q_bd (m_X7_note k k2 (7 : Int32) r s0 u_5) fun _ u_6 =>
      some (0, u_6)) fun J53 =>
    if r.toInt = (-1 : Int32).toInt then
      J53 (0 : Int32) u_4
    else
      Option.bind (q_ald u_4 (k2 + 3) 5 r) fun a =>
      J53 a u_4)) q_F (0 : Int32) u_1
def m_X0_growOlder_L2 (k : Nat) (K35 : qS → qR) (self : Int32 → qS → qR) (x1 : Int32) (u : qS) : qR :=
  if (u.1 k 8).toInt ≤ x1.toInt then
    K35  u
  else
    Option.bind (q_ald u (k + 6) 14 x1) fun a =>
    Option.bind (q_ast u (k + 6) 14 x1 (q_min (99 : Int32) (a + (1 : Int32)))) fun u_1 =>
    self (x1 + (1 : Int32)) u_1
def m_X0_growOlder (k : Nat) (u : qS) : qR :=
  q_it1 (m_X0_growOlder_L2 k (fun  u_2 =>
    some (0, u_2))) q_F (0 : Int32) u
def m_X7_pass_L22 (k : Nat) (k2 : Nat) (x3 : Int32) (x4 : Int32) (K67 : qS → qR) (self : Int32 → qS → qR) (x5 : Int32) (u : qS) : qR :=
  if (u.1 k2 8).toInt ≤ x5.toInt then
    K67  u
  else
    Option.bind (q_ald u (k2 + 7) 14 x5) fun a =>
    q_bd (m_X2_bears 12 k2 x5 u) fun r u_3 =>
    Option.bind (q_ast u_3 (k2 + 7) 14 x5 (q_min (99 : Int32) (a + r))) fun u_4 =>
    self (x5 + (1 : Int32)) u_4
def m_X7_pass_L70 (k : Nat) (k2 : Nat) (x3 : Int32) (x4 : Int32) (K93 : qS → qR) (self : Int32 → qS → qR) (x5 : Int32) (u : qS) : qR :=
  if (u.1 k2 9).toInt ≤ x5.toInt then
    K93  u
  else
    q_bd (m_X7_eat k k2 x5 u) fun _ u_6 =>
    self (x5 + (1 : Int32)) u_6
def m_X7_pass_L7 (k : Nat) (k2 : Nat) (x3 : Int32) (K170 : qS → qR) (self : Int32 → qS → qR) (x4 : Int32) (u : qS) : qR :=
  if x3.toInt ≤ x4.toInt then
    K170  u
  else
    q_bd (m_X7_follow k k2 u) fun _ u_2 =>
    q_it1 (m_X7_pass_L22 k k2 x3 x4 (fun  u_5 =>
      q_it1 (m_X7_pass_L70 k k2 x3 x4 (fun  u_7 =>
        q_jn (fun  (u_8 : qS) =>
          q_jn (fun  (u_9 : qS) =>
            q_let (q_up u_9 k2 0 ((u_9.1 k2 0) + (1 : Int32))) fun u_10 =>
            q_jn (fun  (u_11 : qS) =>
              self (x4 + (1 : Int32)) u_11) fun J164 =>
            if (q_rm (u_10.1 k2 0) (52 : Int32)).toInt = 0 then
              q_bd (m_X0_growOlder k2 u_10) fun _ u_12 =>
              J164  u_12
            else
              J164  u_10) fun J140 =>
          if (u_8.1 k2 5).toInt ≤ 0 then
            J140  u_8
          else
            Option.bind (q_rem ((u_8.1 k2 0) + (1 : Int32)) (u_8.1 k2 5)) fun a =>
            if a.toInt = 0 then
              q_bd (m_X7_vote k k2 u_8) fun _ u_13 =>
              J140  u_13
            else
              J140  u_8) fun J113 =>
        if (u_7.1 k 0).toInt = 0 then
          J113  u_7
        else
          if (u_7.1 k2 3).toInt ≤ 0 then
            J113  u_7
          else
            q_bd (m_X7_sting k k2 u_7) fun _ u_14 =>
            J113  u_14)) q_F (0 : Int32) u_5)) q_F (0 : Int32) u_2
def m_X7_pass (k : Nat) (k2 : Nat) (x3 : Int32) (u : qS) : qR :=
  q_bd (m_X7_begin k u) fun _ u_1 =>
  q_it1 (m_X7_pass_L7 k k2 x3 (fun  u_15 =>
    some (0, u_15))) q_F (0 : Int32) u_1
def m_X10_weeks_L31 (x1 : Int32) (K72 : Int32 → qS → qR) (self : Int32 → Int32 → qS → qR) (x2 : Int32) (x3 : Int32) (u : qS) : qR :=
  if x1.toInt ≤ x3.toInt then
    K72 x2 u
  else
    q_bd (m_X10_keep  u) fun _ u_2 =>
    q_bd (m_X7_pass 88 2 (1 : Int32) u_2) fun _ u_3 =>
    q_let (x2 + (u_3.1 88 1)) fun y2 =>
    self y2 (x3 + (1 : Int32)) u_3
def m_X10_weeks (x1 : Int32) (u : qS) : qR :=
  q_bd (m_X10_isWithin x1 (1 : Int32) (60 : Int32) u) fun r u_1 =>
  if r.toInt = 0 then
    some ((-1 : Int32), u_1)
  else
    if ((u_1.1 2 0) + x1).toInt ≤ (9999 : Int32).toInt then
      q_it2 (m_X10_weeks_L31 x1 (fun x2 u_4 =>
        some (x2, u_4))) q_F (0 : Int32) (0 : Int32) u_1
    else
      some ((-1 : Int32), u_1)
def m_X8_addFour_L3 (k : Nat) (x1 : Int32) (K49 : qS → qR) (self : Int32 → qS → qR) (x2 : Int32) (u : qS) : qR :=
  if x2.toInt < 0 then
    K49  u
  else
    if (400 : Int32).toInt ≤ (u.1 k 1).toInt then
      K49  u
    else
      Option.bind (q_ast u (k + 1) 400 (u.1 k 1) ((q_ushr x1 x2) &&& (255 : Int32))) fun u_1 =>
      q_let (q_up u_1 k 1 ((u_1.1 k 1) + (1 : Int32))) fun u_2 =>
      self (x2 + (-8 : Int32)) u_2
def m_X8_addFour (k : Nat) (x1 : Int32) (u : qS) : qR :=
  q_it1 (m_X8_addFour_L3 k x1 (fun  u_3 =>
    some (0, u_3))) q_F (24 : Int32) u
def m_X10_feed (x1 : Int32) (x2 : Int32) (x3 : Int32) (x4 : Int32) (x5 : Int32) (u : qS) : qR :=
  if ((u.1 67 1) + (20 : Int32)).toInt ≤ (400 : Int32).toInt then
    q_bd (m_X8_addFour 67 x1 u) fun _ u_1 =>
    q_bd (m_X8_addFour 67 x2 u_1) fun _ u_2 =>
    q_bd (m_X8_addFour 67 x3 u_2) fun _ u_3 =>
    q_bd (m_X8_addFour 67 x4 u_3) fun _ u_4 =>
    q_bd (m_X8_addFour 67 x5 u_4) fun _ u_5 =>
    some ((u_5.1 67 1), u_5)
  else
    some ((-1 : Int32), u)
def m_X10_end (x1 : Int32) (u : qS) : qR :=
  q_bd (m_X10_isWithin x1 (0 : Int32) (u.1 67 1) u) fun r u_1 =>
  if r.toInt = 0 then
    some ((0 : Int32), u_1)
  else
    q_let (q_up u_1 67 1 x1) fun u_2 =>
    some ((1 : Int32), u_2)
def m_X6_begin (k : Nat) (x1 : Int32) (x2 : Int32) (u : qS) : qR :=
  q_let (q_up u k 7 x1) fun u_1 =>
  q_let (q_up u_1 k 8 x2) fun u_2 =>
  q_let (q_up u_2 k 0 (0 : Int32)) fun u_3 =>
  q_let (q_up u_3 k 1 (-1 : Int32)) fun u_4 =>
  q_let (q_up u_4 k 6 (0 : Int32)) fun u_5 =>
  some (0, u_5)
def m_X8_isLetter (x0 : Int32) (u : qS) : qR :=
  q_jn (fun  (u_1 : qS) =>
    some ((1 : Int32), u_1)) fun J24 =>
  q_jn (fun  (u_2 : qS) =>
    if x0.toInt < (65 : Int32).toInt then
      some ((0 : Int32), u_2)
    else
      if (90 : Int32).toInt < x0.toInt then
        some ((0 : Int32), u_2)
      else
        J24  u_2) fun J12 =>
  if x0.toInt < (97 : Int32).toInt then
    J12  u
  else
    if x0.toInt ≤ (122 : Int32).toInt then
      J24  u
    else
      J12  u
def m_X8_word_L12 (k : Nat) (si : Nat) (x2 : Int32) (x3 : Int32) (K83 : Int32 → qS → qR) (K105 : qS → qR) (self : Int32 → Int32 → Int32 → Int32 → qS → qR) (x4 : Int32) (x5 : Int32) (x6 : Int32) (x7 : Int32) (u : qS) : qR :=
  if (q_sln si).toInt ≤ x7.toInt then
    K105  u
  else
    Option.bind (q_sch si x7) fun a =>
    q_jn (fun (x4_1 : Int32) (x5_2 : Int32) (x6_3 : Int32) (u_4 : qS) =>
      self x4_1 x5_2 x6_3 (x7 + (1 : Int32)) u_4) fun J99 =>
    if a.toInt = (32 : Int32).toInt then
      q_jn (fun  (u_5 : qS) =>
        J99 (x4 + (1 : Int32)) x2 (1 : Int32) u_5) fun J90 =>
      if x6.toInt = 0 then
        J90  u
      else
        if x5.toInt = x3.toInt then
          K83 x4 u
        else
          J90  u
    else
      q_jn (fun (s0 : Int32) (u_6 : qS) =>
        J99 x4 (x5 + (1 : Int32)) s0 u_6) fun J64 =>
      q_jn (fun  (u_7 : qS) =>
        J64 (0 : Int32) u_7) fun J63 =>
      if x6.toInt = 0 then
        J63  u
      else
        if x3.toInt ≤ x5.toInt then
          J63  u
        else
          Option.bind (q_ald u (k + 1) 400 x5) fun a_8 =>
          if a_8.toInt = a.toInt then
            J64 (1 : Int32) u
          else
            J63  u
def m_X8_word (k : Nat) (si : Nat) (x2 : Int32) (x3 : Int32) (u : qS) : qR :=
  q_it4 (m_X8_word_L12 k si x2 x3 (fun x4 u_9 =>
    some (((256 : Int32) + x4), u_9)) (fun  u_10 =>
    some ((2 : Int32), u_10))) q_F (0 : Int32) x2 (1 : Int32) (0 : Int32) u
def m_X8_addToken (k : Nat) (x1 : Int32) (x2 : Int32) (x3 : Int32) (u : qS) : qR :=
  if (400 : Int32).toInt < (u.1 k 5).toInt then
    some (0, u)
  else
    Option.bind (q_ast u (k + 2) 401 (u.1 k 5) x1) fun u_1 =>
    Option.bind (q_ast u_1 (k + 3) 401 (u_1.1 k 5) x2) fun u_2 =>
    Option.bind (q_ast u_2 (k + 4) 401 (u_2.1 k 5) x3) fun u_3 =>
    q_let (q_up u_3 k 5 ((u_3.1 k 5) + (1 : Int32))) fun u_4 =>
    some (0, u_4)
def m_X8_isDigit (x0 : Int32) (u : qS) : qR :=
  if x0.toInt < (48 : Int32).toInt then
    some ((0 : Int32), u)
  else
    if (57 : Int32).toInt < x0.toInt then
      some ((0 : Int32), u)
    else
      some ((1 : Int32), u)
def m_X8_number_L5 (k : Nat) (x2 : Int32) (K33 : Int32 → qS → qR) (self : Int32 → Int32 → qS → qR) (x3 : Int32) (x4 : Int32) (u : qS) : qR :=
  if x2.toInt ≤ x4.toInt then
    K33 x3 u
  else
    Option.bind (q_ald u (k + 1) 400 x4) fun a =>
    q_let ((((10 : Int32) * x3) + a) - (48 : Int32)) fun y3 =>
    self y3 (x4 + (1 : Int32)) u
def m_X8_number (k : Nat) (x1 : Int32) (x2 : Int32) (u : qS) : qR :=
  q_it2 (m_X8_number_L5 k x2 (fun x3 u_1 =>
    some (x3, u_1))) q_F (0 : Int32) x1 u
def m_X8_isSign (x0 : Int32) (u : qS) : qR :=
  q_jn (fun  (u_1 : qS) =>
    some ((1 : Int32), u_1)) fun J36 =>
  q_jn (fun  (u_2 : qS) =>
    if x0.toInt = (45 : Int32).toInt then
      J36  u_2
    else
      if x0.toInt = (47 : Int32).toInt then
        J36  u_2
      else
        if x0.toInt < (59 : Int32).toInt then
          some ((0 : Int32), u_2)
        else
          if (62 : Int32).toInt < x0.toInt then
            some ((0 : Int32), u_2)
          else
            J36  u_2) fun J12 =>
  if x0.toInt < (40 : Int32).toInt then
    J12  u
  else
    if x0.toInt ≤ (43 : Int32).toInt then
      J36  u
    else
      J12  u
def m_X8_cut_L87 (k : Nat) (si : Nat) (x3 : Int32) (K113 : Int32 → qS → qR) (self : Int32 → qS → qR) (x2 : Int32) (u : qS) : qR :=
  if (u.1 k 1).toInt ≤ x2.toInt then
    K113 x2 u
  else
    Option.bind (q_ald u (k + 1) 400 x2) fun a =>
    q_bd (m_X8_isDigit a u) fun r u_10 =>
    if r.toInt = 0 then
      K113 x2 u_10
    else
      self (x2 + (1 : Int32)) u_10
def m_X8_cut_L37 (k : Nat) (si : Nat) (x3 : Int32) (K63 : Int32 → qS → qR) (self : Int32 → qS → qR) (x2 : Int32) (u : qS) : qR :=
  if (u.1 k 1).toInt ≤ x2.toInt then
    K63 x2 u
  else
    Option.bind (q_ald u (k + 1) 400 x2) fun a =>
    q_bd (m_X8_isLetter a u) fun r u_18 =>
    if r.toInt = 0 then
      K63 x2 u_18
    else
      self (x2 + (1 : Int32)) u_18
def m_X8_cut_L9 (k : Nat) (si : Nat) (K178 : qS → qR) (self : Int32 → qS → qR) (x3 : Int32) (u : qS) : qR :=
  if (u.1 k 1).toInt ≤ x3.toInt then
    K178  u
  else
    Option.bind (q_ald u (k + 1) 400 x3) fun a =>
    q_let (x3 + (1 : Int32)) fun y2 =>
    q_bd (m_X8_isLetter a u) fun r u_2 =>
    q_jn (fun (x2 : Int32) (u_3 : qS) =>
      self x2 u_3) fun J173 =>
    if r.toInt = 0 then
      q_bd (m_X8_isDigit a u_2) fun r_4 u_5 =>
      if r_4.toInt = 0 then
        if a.toInt = (32 : Int32).toInt then
          J173 y2 u_5
        else
          if a.toInt = (10 : Int32).toInt then
            J173 y2 u_5
          else
            q_bd (m_X8_isSign a u_5) fun r_6 u_7 =>
            q_jn (fun (s0 : Int32) (u_8 : qS) =>
              q_bd (m_X8_addToken k s0 x3 (0 : Int32) u_8) fun _ u_9 =>
              J173 y2 u_9) fun J168 =>
            if r_6.toInt = 0 then
              J168 (2 : Int32) u_7
            else
              J168 a u_7
      else
        q_it1 (m_X8_cut_L87 k si x3 (fun x2_11 u_12 =>
          q_jn (fun (s0_13 : Int32) (u_14 : qS) =>
            q_bd (m_X8_number k x3 x2_11 u_14) fun r_15 u_16 =>
            q_bd (m_X8_addToken k s0_13 x3 r_15 u_16) fun _ u_17 =>
            J173 x2_11 u_17) fun J126 =>
          if (4 : Int32).toInt < (x2_11 - x3).toInt then
            J126 (2 : Int32) u_12
          else
            J126 (1 : Int32) u_12)) q_F y2 u_5
    else
      q_it1 (m_X8_cut_L37 k si x3 (fun x2_19 u_20 =>
        q_bd (m_X8_word k si x3 x2_19 u_20) fun r_21 u_22 =>
        q_bd (m_X8_addToken k r_21 x3 (0 : Int32) u_22) fun _ u_23 =>
        J173 x2_19 u_23)) q_F y2 u_2
def m_X8_cut (k : Nat) (si : Nat) (u : qS) : qR :=
  q_let (q_up u k 5 (0 : Int32)) fun u_1 =>
  q_it1 (m_X8_cut_L9 k si (fun  u_24 =>
    q_bd (m_X8_addToken k (0 : Int32) (u_24.1 k 1) (0 : Int32) u_24) fun _ u_25 =>
    some (0, u_25))) q_F (0 : Int32) u_1
def m_X2_clear (k : Nat) (u : qS) : qR :=
  q_let (q_up u k 0 (0 : Int32)) fun u_1 =>
  q_let (q_up u_1 k 5 (0 : Int32)) fun u_2 =>
  q_bz (0 : Int32) (q_let (q_up u_2 k 6 (0 : Int32)) fun u_3 =>
  some (0, u_3))
def m_X6_kind (k : Nat) (u : qS) : qR :=
  if (u.1 k 6).toInt < 0 then
    some ((0 : Int32), u)
  else
    if (u.1 (k + 1) 5).toInt ≤ (u.1 k 6).toInt then
      some ((0 : Int32), u)
    else
      Option.bind (q_ald u (k + 3) 401 (u.1 k 6)) fun a =>
      some (a, u)
def m_X6_fail (k : Nat) (x1 : Int32) (u : qS) : qR :=
  q_let (q_up u k 0 x1) fun u_1 =>
  q_jn (fun (s0 : Int32) (u_2 : qS) =>
    q_let (q_up u_2 k 1 s0) fun u_3 =>
    some ((0 : Int32), u_3)) fun J49 =>
  q_jn (fun  (u_4 : qS) =>
    J49 (u_4.1 (k + 1) 1) u_4) fun J42 =>
  if (u_1.1 k 6).toInt < 0 then
    J42  u_1
  else
    if (u_1.1 (k + 1) 5).toInt ≤ (u_1.1 k 6).toInt then
      J42  u_1
    else
      Option.bind (q_ald u_1 (k + 4) 401 (u_1.1 k 6)) fun a =>
      J49 a u_1
def m_X2_emit (k : Nat) (x1 : Int32) (x2 : Int32) (u : qS) : qR :=
  if (400 : Int32).toInt ≤ (u.1 k 5).toInt then
    some (0, u)
  else
    Option.bind (q_ast u (k + 4) 400 (u.1 k 5) ((x2 <<< ((4 : Int32) &&& 31)) ||| x1)) fun u_1 =>
    q_let (q_up u_1 k 5 ((u_1.1 k 5) + (1 : Int32))) fun u_2 =>
    some (0, u_2)
def m_X6_operand (k : Nat) (u : qS) : qR :=
  q_bd (m_X6_kind k u) fun r u_1 =>
  q_jn (fun  (u_2 : qS) =>
    q_let (q_up u_2 k 6 ((u_2.1 k 6) + (1 : Int32))) fun u_3 =>
    some ((1 : Int32), u_3)) fun J142 =>
  if r.toInt = (1 : Int32).toInt then
    Option.bind (q_ald u_1 (k + 5) 401 (u_1.1 k 6)) fun a_18 =>
    q_bd (m_X2_emit (k + 6) (0 : Int32) a_18 u_1) fun _ u_19 =>
    J142  u_19
  else
    q_bd (m_X10_isWithin r (263 : Int32) (271 : Int32) u_1) fun r_4 u_5 =>
    if r_4.toInt = 0 then
      q_bd (m_X6_fail k (1 : Int32) u_5) fun r_6 u_7 =>
      q_bz r_6 (some (r_6, u_7))
    else
      q_bd (m_X2_emit (k + 6) (1 : Int32) (r - (263 : Int32)) u_5) fun _ u_8 =>
      q_bd (m_X10_isWithin (u_8.1 (k + 6) 0) (0 : Int32) (15 : Int32) u_8) fun r_9 u_10 =>
      q_jn (fun (s0 : Int32) (u_11 : qS) =>
        q_jn (fun (s0_12 : Int32) (u_13 : qS) =>
          q_bz s0_12 (q_let (q_up u_13 (k + 6) 6 s0_12) fun u_14 =>
          J142  u_14)) fun J130 =>
        q_jn (fun  (u_15 : qS) =>
          J130 (1 : Int32) u_15) fun J125 =>
        if (u_11.1 (k + 6) 6).toInt = 0 then
          q_jn (fun  (u_16 : qS) =>
            J130 (0 : Int32) u_16) fun J129 =>
          if s0.toInt = 0 then
            J129  u_11
          else
            if r.toInt = (267 : Int32).toInt then
              J125  u_11
            else
              J129  u_11
        else
          J125  u_11) fun J99 =>
      q_jn (fun  (u_17 : qS) =>
        J99 (0 : Int32) u_17) fun J98 =>
      if r_9.toInt = 0 then
        J98  u_10
      else
        Option.bind (q_ald u_10 (k + 7) 16 (u_10.1 (k + 6) 0)) fun a =>
        if a.toInt = (2 : Int32).toInt then
          J99 (1 : Int32) u_10
        else
          J98  u_10
def m_X6_number (k : Nat) (x1 : Int32) (x2 : Int32) (u : qS) : qR :=
  q_bd (m_X6_kind k u) fun r u_1 =>
  if r.toInt = (1 : Int32).toInt then
    Option.bind (q_ald u_1 (k + 5) 401 (u_1.1 k 6)) fun a =>
    q_bd (m_X10_isWithin a x1 x2 u_1) fun r_2 u_3 =>
    if r_2.toInt = 0 then
      q_bd (m_X6_fail k (2 : Int32) u_3) fun r_5 u_6 =>
      some ((-1 : Int32), u_6)
    else
      q_let (q_up u_3 k 6 ((u_3.1 k 6) + (1 : Int32))) fun u_4 =>
      some (a, u_4)
  else
    q_bd (m_X6_fail k (1 : Int32) u_1) fun r_7 u_8 =>
    some ((-1 : Int32), u_8)
def m_X6_sum_L16 (k : Nat) (K125 : qS → qR) (K184 : Int32 → qS → qR) (self : Int32 → Int32 → qS → qR) (x1 : Int32) (x2 : Int32) (u : qS) : qR :=
  if (u.1 (k + 1) 5).toInt ≤ (u.1 k 6).toInt then
    K184 x1 u
  else
    q_jn (fun  (u_4 : qS) =>
      q_let (q_up u_4 k 6 ((u_4.1 k 6) + (1 : Int32))) fun u_5 =>
      q_jn (fun  (u_6 : qS) =>
        q_jn (fun (s0 : Int32) (u_7 : qS) =>
          if s0.toInt = (-1 : Int32).toInt then
            K125  u_7
          else
            q_jn (fun  (u_8 : qS) =>
              q_jn (fun (x1_9 : Int32) (u_10 : qS) =>
                q_bd (m_X6_kind k u_10) fun r u_11 =>
                self x1_9 r u_11) fun J176 =>
              if x2.toInt = (47 : Int32).toInt then
                q_bd (m_X2_emit (k + 6) (2 : Int32) s0 u_8) fun _ u_15 =>
                J176 x1 u_15
              else
                if x2.toInt = (42 : Int32).toInt then
                  q_bd (m_X2_emit (k + 6) (4 : Int32) (0 : Int32) u_8) fun _ u_14 =>
                  J176 x1 u_14
                else
                  q_jn (fun (s0_12 : Int32) (u_13 : qS) =>
                    J176 s0_12 u_13) fun J175 =>
                  if x2.toInt = (43 : Int32).toInt then
                    J175 (5 : Int32) u_8
                  else
                    J175 (6 : Int32) u_8) fun J127 =>
            if s0.toInt = 0 then
              q_bd (m_X6_operand k u_7) fun r_16 u_17 =>
              if r_16.toInt = 0 then
                K125  u_17
              else
                J127  u_17
            else
              J127  u_7) fun J108 =>
        if x2.toInt = (47 : Int32).toInt then
          q_bd (m_X6_number k (1 : Int32) (9999 : Int32) u_6) fun r_18 u_19 =>
          J108 r_18 u_19
        else
          J108 (0 : Int32) u_6) fun J90 =>
      if x1.toInt = (-1 : Int32).toInt then
        J90  u_5
      else
        q_jn (fun  (u_20 : qS) =>
          q_bd (m_X2_emit (k + 6) x1 (0 : Int32) u_20) fun _ u_21 =>
          J90  u_21) fun J81 =>
        if x2.toInt = (43 : Int32).toInt then
          J81  u_5
        else
          if x2.toInt = (45 : Int32).toInt then
            J81  u_5
          else
            J90  u_5) fun J54 =>
    if x2.toInt = (42 : Int32).toInt then
      J54  u
    else
      if x2.toInt = (47 : Int32).toInt then
        J54  u
      else
        if x2.toInt = (43 : Int32).toInt then
          J54  u
        else
          if x2.toInt = (45 : Int32).toInt then
            J54  u
          else
            K184 x1 u
def m_X6_sum (k : Nat) (u : qS) : qR :=
  q_bd (m_X6_operand k u) fun r u_1 =>
  if r.toInt = 0 then
    some ((0 : Int32), u_1)
  else
    q_bd (m_X6_kind k u_1) fun r_2 u_3 =>
    q_it2 (m_X6_sum_L16 k (fun  u_22 =>
      some ((0 : Int32), u_22)) (fun x1 u_23 =>
      if x1.toInt = (-1 : Int32).toInt then
        some ((1 : Int32), u_23)
      else
        q_bd (m_X2_emit (k + 6) x1 (0 : Int32) u_23) fun _ u_24 =>
        some ((1 : Int32), u_24))) q_F (-1 : Int32) r_2 u_3
def m_X6_takes (k : Nat) (x1 : Int32) (u : qS) : qR :=
  q_bd (m_X6_kind k u) fun r u_1 =>
  if r.toInt = x1.toInt then
    q_let (q_up u_1 k 6 ((u_1.1 k 6) + (1 : Int32))) fun u_2 =>
    some ((1 : Int32), u_2)
  else
    q_bd (m_X6_fail k (1 : Int32) u_1) fun r_3 u_4 =>
    q_bz r_3 (some (r_3, u_4))
def m_X6_condition_L12 (k : Nat) (C S : Int32 → qS → qR) (x1 : Int32) (K112 : qS → qR) (K131 : Int32 → qS → qR) (self : Int32 → qS → qR) (x2 : Int32) (u : qS) : qR :=
  if (u.1 (k + 1) 5).toInt ≤ (u.1 k 6).toInt then
    K131 x2 u
  else
    q_bd (m_X6_kind k u) fun r u_2 =>
    q_jn (fun  (u_3 : qS) =>
      q_bd (m_X6_kind k u_3) fun r_4 u_5 =>
      q_jn (fun (s0 : Int32) (u_6 : qS) =>
        q_let (q_up u_6 k 6 ((u_6.1 k 6) + (1 : Int32))) fun u_7 =>
        q_jn (fun  (u_8 : qS) =>
          q_jn (fun (s0_9 : Int32) (u_10 : qS) =>
            q_bd (S x1 u_10) fun r_11 u_12 =>
            if r_11.toInt = 0 then
              K112  u_12
            else
              q_jn (fun  (u_13 : qS) =>
                self s0_9 u_13) fun J128 =>
              if s0.toInt = 0 then
                q_bd (m_X2_emit (k + 6) (10 : Int32) (0 : Int32) u_12) fun _ u_14 =>
                J128  u_14
              else
                J128  u_12) fun J103 =>
          q_jn (fun  (u_15 : qS) =>
            J103 (1 : Int32) u_15) fun J98 =>
          if x2.toInt = 0 then
            if s0.toInt = 0 then
              J103 (0 : Int32) u_8
            else
              J98  u_8
          else
            J98  u_8) fun J90 =>
        if s0.toInt = 0 then
          J90  u_7
        else
          if x2.toInt = 0 then
            J90  u_7
          else
            q_bd (m_X2_emit (k + 6) (11 : Int32) (0 : Int32) u_7) fun _ u_16 =>
            J90  u_16) fun J61 =>
      if r_4.toInt = (260 : Int32).toInt then
        J61 (1 : Int32) u_5
      else
        J61 (0 : Int32) u_5) fun J46 =>
    if r.toInt = (260 : Int32).toInt then
      J46  u_2
    else
      q_bd (m_X6_kind k u_2) fun r_17 u_18 =>
      if r_17.toInt = (261 : Int32).toInt then
        J46  u_18
      else
        K131 x2 u_18
def b_X6_condition (k : Nat) (C S : Int32 → qS → qR) (x1 : Int32) (u : qS) : qR :=
  q_bd (S x1 u) fun r u_1 =>
  if r.toInt = 0 then
    some ((0 : Int32), u_1)
  else
    q_it1 (m_X6_condition_L12 k C S x1 (fun  u_19 =>
      some ((0 : Int32), u_19)) (fun x2 u_20 =>
      if x2.toInt = 0 then
        some ((1 : Int32), u_20)
      else
        q_bd (m_X2_emit (k + 6) (11 : Int32) (0 : Int32) u_20) fun _ u_21 =>
        some ((1 : Int32), u_21))) q_F (0 : Int32) u_1
def b_X6_single (k : Nat) (C S : Int32 → qS → qR) (x1 : Int32) (u : qS) : qR :=
  q_bd (m_X6_kind k u) fun r u_1 =>
  q_jn (fun  (u_2 : qS) =>
    if x1.toInt < (8 : Int32).toInt then
      q_let (q_up u_2 k 6 ((u_2.1 k 6) + (1 : Int32))) fun u_3 =>
      if r.toInt = (40 : Int32).toInt then
        q_bd (C (x1 + (1 : Int32)) u_3) fun r_7 u_8 =>
        if r_7.toInt = 0 then
          some ((0 : Int32), u_8)
        else
          q_bd (m_X6_takes k (41 : Int32) u_8) fun r_9 u_10 =>
          if r_9.toInt = 0 then
            some ((0 : Int32), u_10)
          else
            some ((1 : Int32), u_10)
      else
        q_bd (S (x1 + (1 : Int32)) u_3) fun r_4 u_5 =>
        if r_4.toInt = 0 then
          some ((0 : Int32), u_5)
        else
          q_bd (m_X2_emit (k + 6) (3 : Int32) (0 : Int32) u_5) fun _ u_6 =>
          some ((1 : Int32), u_6)
    else
      q_bd (m_X6_fail k (3 : Int32) u_2) fun r_11 u_12 =>
      q_bz r_11 (some (r_11, u_12))) fun J18 =>
  if r.toInt = (262 : Int32).toInt then
    J18  u_1
  else
    if r.toInt = (40 : Int32).toInt then
      J18  u_1
    else
      q_bd (m_X6_sum k u_1) fun r_13 u_14 =>
      if r_13.toInt = 0 then
        some ((0 : Int32), u_14)
      else
        q_bd (m_X6_kind k u_14) fun r_15 u_16 =>
        q_jn (fun  (u_17 : qS) =>
          q_let (q_up u_17 k 6 ((u_17.1 k 6) + (1 : Int32))) fun u_18 =>
          q_bd (m_X6_sum k u_18) fun r_19 u_20 =>
          if r_19.toInt = 0 then
            some ((0 : Int32), u_20)
          else
            q_jn (fun (s0 : Int32) (u_21 : qS) =>
              q_bd (m_X2_emit (k + 6) s0 (0 : Int32) u_21) fun _ u_22 =>
              some ((1 : Int32), u_22)) fun J179 =>
            if r_15.toInt = (60 : Int32).toInt then
              J179 (7 : Int32) u_20
            else
              if r_15.toInt = (61 : Int32).toInt then
                J179 (8 : Int32) u_20
              else
                J179 (9 : Int32) u_20) fun J132 =>
        if r_15.toInt = (60 : Int32).toInt then
          J132  u_16
        else
          if r_15.toInt = (61 : Int32).toInt then
            J132  u_16
          else
            if r_15.toInt = (62 : Int32).toInt then
              J132  u_16
            else
              q_bd (m_X6_fail k (1 : Int32) u_16) fun r_23 u_24 =>
              q_bz r_23 (some (r_23, u_24))
def m_X6_rec (k : Nat) : Nat → (Int32 → qS → qR) × (Int32 → qS → qR)
  | 0 => (fun _ _ => none, fun _ _ => none)
  | f + 1 => (b_X6_condition k (m_X6_rec k f).1 (m_X6_rec k f).2, b_X6_single k (m_X6_rec k f).1 (m_X6_rec k f).2)
def m_X6_condition (k : Nat) (x1 : Int32) (u : qS) : qR := (m_X6_rec k 20).1 x1 u
def m_X6_single (k : Nat) (x1 : Int32) (u : qS) : qR := (m_X6_rec k 20).2 x1 u
def m_X6_lawLine (k : Nat) (x1 : Int32) (u : qS) : qR :=
  q_bd (m_X6_kind k u) fun r u_1 =>
  q_bd (m_X10_isWithin r (256 : Int32) (258 : Int32) u_1) fun r_2 u_3 =>
  if r_2.toInt = 0 then
    q_bd (m_X6_fail k (1 : Int32) u_3) fun r_21 u_22 =>
    q_bz r_21 (some (r_21, u_22))
  else
    if x1.toInt < (16 : Int32).toInt then
      q_let (q_up u_3 k 6 ((u_3.1 k 6) + (1 : Int32))) fun u_4 =>
      Option.bind (q_ast u_4 (k + 7) 16 x1 (r - (256 : Int32))) fun u_5 =>
      Option.bind (q_ast u_5 (k + 8) 17 x1 (u_5.1 (k + 6) 5)) fun u_6 =>
      q_bd (m_X6_sum k u_6) fun r_7 u_8 =>
      if r_7.toInt = 0 then
        some ((0 : Int32), u_8)
      else
        Option.bind (q_ast u_8 (k + 9) 16 x1 (u_8.1 (k + 6) 5)) fun u_9 =>
        q_bd (m_X6_kind k u_9) fun r_10 u_11 =>
        q_jn (fun  (u_12 : qS) =>
          q_let (q_up u_12 (k + 6) 0 ((u_12.1 (k + 6) 0) + (1 : Int32))) fun u_13 =>
          q_bd (m_X6_takes k (59 : Int32) u_13) fun r_14 u_15 =>
          q_bz r_14 (some (r_14, u_15))) fun J131 =>
        if r_10.toInt = (259 : Int32).toInt then
          q_let (q_up u_11 k 6 ((u_11.1 k 6) + (1 : Int32))) fun u_16 =>
          q_bd (m_X6_condition k (0 : Int32) u_16) fun r_17 u_18 =>
          if r_17.toInt = 0 then
            some ((0 : Int32), u_18)
          else
            J131  u_18
        else
          J131  u_11
    else
      q_bd (m_X6_fail k (3 : Int32) u_3) fun r_19 u_20 =>
      q_bz r_19 (some (r_19, u_20))
def m_X2_copyFrom (k : Nat) (k1 : Nat) (u : qS) : qR :=
  q_let (q_up u k 0 (u.1 k1 0)) fun u_1 =>
  q_let (q_up u_1 k 5 (u_1.1 k1 5)) fun u_2 =>
  q_bz (u_2.1 k1 6) (q_let (q_up u_2 k 6 (u_2.1 k1 6)) fun u_3 =>
  q_let (q_st u_3 (k + 1) (q_cp (u_3.1 (k1 + 1)) (u_3.1 (k + 1)) 16)) fun u_4 =>
  q_let (q_st u_4 (k + 2) (q_cp (u_4.1 (k1 + 2)) (u_4.1 (k + 2)) 17)) fun u_5 =>
  q_let (q_st u_5 (k + 3) (q_cp (u_5.1 (k1 + 3)) (u_5.1 (k + 3)) 16)) fun u_6 =>
  q_let (q_st u_6 (k + 4) (q_cp (u_6.1 (k1 + 4)) (u_6.1 (k + 4)) 400)) fun u_7 =>
  some (0, u_7))
def m_X6_readLaw_L18 (k : Nat) (k1 : Nat) (K39 : qS → qR) (K47 : qS → qR) (self : Int32 → qS → qR) (x2 : Int32) (u : qS) : qR :=
  if (16 : Int32).toInt < x2.toInt then
    K47  u
  else
    q_bd (m_X6_kind k u) fun r u_3 =>
    if r.toInt = 0 then
      K47  u_3
    else
      q_bd (m_X6_lawLine k x2 u_3) fun r_4 u_5 =>
      if r_4.toInt = 0 then
        K39  u_5
      else
        self (x2 + (1 : Int32)) u_5
def m_X6_readLaw (k : Nat) (k1 : Nat) (u : qS) : qR :=
  q_bd (m_X8_cut (k + 1) 0 u) fun _ u_1 =>
  q_bd (m_X2_clear (k + 6) u_1) fun _ u_2 =>
  q_it1 (m_X6_readLaw_L18 k k1 (fun  u_6 =>
    some ((-1 : Int32), u_6)) (fun  u_7 =>
    Option.bind (q_ast u_7 (k + 8) 17 (u_7.1 (k + 6) 0) (u_7.1 (k + 6) 5)) fun u_8 =>
    q_bd (m_X2_copyFrom k1 (k + 6) u_8) fun _ u_9 =>
    some ((u_9.1 (k + 6) 0), u_9))) q_F (0 : Int32) u_2
def m_X4_clearPath (k : Nat) (x1 : Int32) (u : qS) : qR :=
  Option.bind (q_ast u (k + 1) 10 x1 (0 : Int32)) fun u_1 =>
  Option.bind (q_ast u_1 (k + 3) 10 x1 (0 : Int32)) fun u_2 =>
  some (0, u_2)
def m_X4_clear_L7 (k : Nat) (K24 : qS → qR) (self : Int32 → qS → qR) (x1 : Int32) (u : qS) : qR :=
  if (10 : Int32).toInt ≤ x1.toInt then
    K24  u
  else
    q_bd (m_X4_clearPath k x1 u) fun _ u_2 =>
    self (x1 + (1 : Int32)) u_2
def m_X4_clear (k : Nat) (u : qS) : qR :=
  q_let (q_up u k 0 (0 : Int32)) fun u_1 =>
  q_it1 (m_X4_clear_L7 k (fun  u_3 =>
    some (0, u_3))) q_F (0 : Int32) u_1
def m_X6_begins (k : Nat) (x1 : Int32) (x2 : Int32) (u : qS) : qR :=
  q_bd (m_X6_kind k u) fun r u_1 =>
  q_jn (fun  (u_2 : qS) =>
    q_bd (m_X6_takes k x1 u_2) fun r_3 u_4 =>
    q_bz r_3 (some (r_3, u_4))) fun J20 =>
  if r.toInt = x1.toInt then
    if x2.toInt < (16 : Int32).toInt then
      J20  u_1
    else
      q_bd (m_X6_fail k (3 : Int32) u_1) fun r_5 u_6 =>
      q_bz r_5 (some (r_5, u_6))
  else
    J20  u_1
def m_X4_addStep (k : Nat) (x1 : Int32) (x2 : Int32) (u : qS) : qR :=
  Option.bind (q_ald u (k + 1) 10 x1) fun a =>
  if (8 : Int32).toInt ≤ a.toInt then
    some (0, u)
  else
    Option.bind (q_ald u (k + 1) 10 x1) fun a_1 =>
    Option.bind (q_ast u (k + 2) 80 ((x1 * (8 : Int32)) + a_1) x2) fun u_2 =>
    Option.bind (q_ald u_2 (k + 1) 10 x1) fun a_3 =>
    Option.bind (q_ast u_2 (k + 1) 10 x1 (a_3 + (1 : Int32))) fun u_4 =>
    Option.bind (q_ald u_4 (k + 3) 10 x1) fun a_5 =>
    Option.bind (q_ast u_4 (k + 3) 10 x1 (a_5 ||| ((1 : Int32) <<< (x2 &&& 31)))) fun u_6 =>
    some (0, u_6)
def m_X6_pathLine_L52 (k : Nat) (x2 : Int32) (K85 : qS → qR) (K93 : qS → qR) (K125 : qS → qR) (self : Int32 → qS → qR) (x3 : Int32) (u : qS) : qR :=
  if (8 : Int32).toInt < x3.toInt then
    K125  u
  else
    q_jn (fun  (u_7 : qS) =>
      q_bd (m_X6_number k (0 : Int32) (9 : Int32) u_7) fun r u_8 =>
      if r.toInt = (-1 : Int32).toInt then
        K85  u_8
      else
        if x3.toInt = (8 : Int32).toInt then
          K93  u_8
        else
          q_bd (m_X4_addStep (k + 13) x2 r u_8) fun _ u_9 =>
          self (x3 + (1 : Int32)) u_9) fun J70 =>
    if x3.toInt = 0 then
      J70  u
    else
      q_bd (m_X6_kind k u) fun r_10 u_11 =>
      if r_10.toInt = (1 : Int32).toInt then
        J70  u_11
      else
        K125  u_11
def m_X6_pathLine (k : Nat) (x1 : Int32) (u : qS) : qR :=
  q_bd (m_X6_begins k (256 : Int32) x1 u) fun r u_1 =>
  if r.toInt = 0 then
    some ((0 : Int32), u_1)
  else
    q_bd (m_X6_number k (0 : Int32) ((u_1.1 k 8) - (1 : Int32)) u_1) fun r_2 u_3 =>
    if r_2.toInt = (-1 : Int32).toInt then
      some ((0 : Int32), u_3)
    else
      q_bd (m_X6_takes k (257 : Int32) u_3) fun r_4 u_5 =>
      if r_4.toInt = 0 then
        some ((0 : Int32), u_5)
      else
        q_bd (m_X4_clearPath (k + 13) r_2 u_5) fun _ u_6 =>
        q_it1 (m_X6_pathLine_L52 k r_2 (fun  u_12 =>
          some ((0 : Int32), u_12)) (fun  u_13 =>
          q_let (q_up u_13 k 6 ((u_13.1 k 6) - (1 : Int32))) fun u_14 =>
          q_bd (m_X6_fail k (3 : Int32) u_14) fun r_15 u_16 =>
          q_bz r_15 (some (r_15, u_16))) (fun  u_17 =>
          q_let (q_up u_17 (k + 13) 0 ((u_17.1 (k + 13) 0) + (1 : Int32))) fun u_18 =>
          q_bd (m_X6_takes k (59 : Int32) u_18) fun r_19 u_20 =>
          q_bz r_19 (some (r_19, u_20)))) q_F (0 : Int32) u_6
def m_X4_copyFrom (k : Nat) (k1 : Nat) (u : qS) : qR :=
  q_let (q_up u k 0 (u.1 k1 0)) fun u_1 =>
  q_let (q_st u_1 (k + 3) (q_cp (u_1.1 (k1 + 3)) (u_1.1 (k + 3)) 10)) fun u_2 =>
  q_let (q_st u_2 (k + 1) (q_cp (u_2.1 (k1 + 1)) (u_2.1 (k + 1)) 10)) fun u_3 =>
  q_let (q_st u_3 (k + 2) (q_cp (u_3.1 (k1 + 2)) (u_3.1 (k + 2)) 80)) fun u_4 =>
  some (0, u_4)
def m_X6_readPaths_L18 (k : Nat) (k1 : Nat) (K39 : qS → qR) (K47 : qS → qR) (self : Int32 → qS → qR) (x2 : Int32) (u : qS) : qR :=
  if (16 : Int32).toInt < x2.toInt then
    K47  u
  else
    q_bd (m_X6_kind k u) fun r u_3 =>
    if r.toInt = 0 then
      K47  u_3
    else
      q_bd (m_X6_pathLine k x2 u_3) fun r_4 u_5 =>
      if r_4.toInt = 0 then
        K39  u_5
      else
        self (x2 + (1 : Int32)) u_5
def m_X6_readPaths (k : Nat) (k1 : Nat) (u : qS) : qR :=
  q_bd (m_X8_cut (k + 1) 1 u) fun _ u_1 =>
  q_bd (m_X4_clear (k + 13) u_1) fun _ u_2 =>
  q_it1 (m_X6_readPaths_L18 k k1 (fun  u_6 =>
    some ((-1 : Int32), u_6)) (fun  u_7 =>
    q_bd (m_X4_copyFrom k1 (k + 13) u_7) fun _ u_8 =>
    some ((u_8.1 (k + 13) 0), u_8))) q_F (0 : Int32) u_2
def m_X6_planLine (k : Nat) (x1 : Int32) (u : qS) : qR :=
  q_bd (m_X6_begins k (256 : Int32) x1 u) fun r u_1 =>
  if r.toInt = 0 then
    some ((0 : Int32), u_1)
  else
    q_bd (m_X6_number k (0 : Int32) (999 : Int32) u_1) fun r_2 u_3 =>
    Option.bind (q_ast u_3 (k + 18) 16 x1 r_2) fun u_4 =>
    Option.bind (q_ald u_4 (k + 18) 16 x1) fun a =>
    if a.toInt = (-1 : Int32).toInt then
      some ((0 : Int32), u_4)
    else
      q_bd (m_X6_kind k u_4) fun r_5 u_6 =>
      q_bd (m_X10_isWithin r_5 (257 : Int32) (262 : Int32) u_6) fun r_7 u_8 =>
      q_jn (fun  (u_9 : qS) =>
        q_bd (m_X6_fail k (1 : Int32) u_9) fun r_10 u_11 =>
        q_bz r_10 (some (r_10, u_11))) fun J70 =>
      if r_7.toInt = 0 then
        J70  u_8
      else
        if r_5.toInt = (258 : Int32).toInt then
          J70  u_8
        else
          q_let (q_up u_8 k 6 ((u_8.1 k 6) + (1 : Int32))) fun u_12 =>
          q_jn (fun (s0 : Int32) (u_13 : qS) =>
            q_jn (fun (s0_14 : Int32) (u_15 : qS) =>
              Option.bind (q_ast u_15 (k + 19) 16 x1 r_5) fun u_16 =>
              q_bd (m_X6_number k (0 : Int32) s0_14 u_16) fun r_17 u_18 =>
              Option.bind (q_ast u_18 (k + 20) 16 x1 r_17) fun u_19 =>
              Option.bind (q_ald u_19 (k + 20) 16 x1) fun a_20 =>
              if a_20.toInt = (-1 : Int32).toInt then
                some ((0 : Int32), u_19)
              else
                q_jn (fun  (u_21 : qS) =>
                  Option.bind (q_ast u_21 (k + 21) 16 x1 (0 : Int32)) fun u_22 =>
                  q_jn (fun  (u_23 : qS) =>
                    q_let (q_up u_23 (k + 17) 0 ((u_23.1 (k + 17) 0) + (1 : Int32))) fun u_24 =>
                    Option.bind (q_ald u_24 (k + 21) 16 x1) fun a_25 =>
                    if a_25.toInt = (-1 : Int32).toInt then
                      some ((0 : Int32), u_24)
                    else
                      q_bd (m_X6_takes k (59 : Int32) u_24) fun r_26 u_27 =>
                      if r_26.toInt = 0 then
                        some ((0 : Int32), u_27)
                      else
                        some ((1 : Int32), u_27)) fun J244 =>
                  if s0.toInt = 0 then
                    J244  u_22
                  else
                    q_jn (fun (s0_28 : Int32) (u_29 : qS) =>
                      Option.bind (q_ast u_29 (k + 21) 16 x1 s0_28) fun u_30 =>
                      J244  u_30) fun J243 =>
                    if r_5.toInt = (257 : Int32).toInt then
                      q_bd (m_X6_number k (0 : Int32) (9 : Int32) u_22) fun r_33 u_34 =>
                      J243 r_33 u_34
                    else
                      q_bd (m_X6_number k (1 : Int32) (99 : Int32) u_22) fun r_31 u_32 =>
                      J243 r_31 u_32) fun J197 =>
                if r_5.toInt = (257 : Int32).toInt then
                  q_bd (m_X6_takes k (258 : Int32) u_19) fun r_35 u_36 =>
                  if r_35.toInt = 0 then
                    some ((0 : Int32), u_36)
                  else
                    J197  u_36
                else
                  J197  u_19) fun J137 =>
            if s0.toInt = 0 then
              if r_5.toInt = (262 : Int32).toInt then
                J137 ((u_13.1 k 8) - (1 : Int32)) u_13
              else
                J137 (9 : Int32) u_13
            else
              J137 ((u_13.1 k 7) - (1 : Int32)) u_13) fun J105 =>
          q_jn (fun  (u_37 : qS) =>
            J105 (1 : Int32) u_37) fun J100 =>
          if r_5.toInt = (257 : Int32).toInt then
            J100  u_12
          else
            if r_5.toInt = (261 : Int32).toInt then
              J100  u_12
            else
              J105 (0 : Int32) u_12
def m_X5_copyFrom (k : Nat) (k1 : Nat) (u : qS) : qR :=
  q_let (q_up u k 0 (u.1 k1 0)) fun u_1 =>
  q_let (q_st u_1 (k + 1) (q_cp (u_1.1 (k1 + 1)) (u_1.1 (k + 1)) 16)) fun u_2 =>
  q_let (q_st u_2 (k + 2) (q_cp (u_2.1 (k1 + 2)) (u_2.1 (k + 2)) 16)) fun u_3 =>
  q_let (q_st u_3 (k + 3) (q_cp (u_3.1 (k1 + 3)) (u_3.1 (k + 3)) 16)) fun u_4 =>
  q_let (q_st u_4 (k + 4) (q_cp (u_4.1 (k1 + 4)) (u_4.1 (k + 4)) 16)) fun u_5 =>
  some (0, u_5)
def m_X6_readPlan_L19 (k : Nat) (k1 : Nat) (K40 : qS → qR) (K48 : qS → qR) (self : Int32 → qS → qR) (x2 : Int32) (u : qS) : qR :=
  if (16 : Int32).toInt < x2.toInt then
    K48  u
  else
    q_bd (m_X6_kind k u) fun r u_3 =>
    if r.toInt = 0 then
      K48  u_3
    else
      q_bd (m_X6_planLine k x2 u_3) fun r_4 u_5 =>
      if r_4.toInt = 0 then
        K40  u_5
      else
        self (x2 + (1 : Int32)) u_5
def m_X6_readPlan (k : Nat) (k1 : Nat) (u : qS) : qR :=
  q_bd (m_X8_cut (k + 1) 2 u) fun _ u_1 =>
  q_let (q_up u_1 (k + 17) 0 (0 : Int32)) fun u_2 =>
  q_it1 (m_X6_readPlan_L19 k k1 (fun  u_6 =>
    some ((-1 : Int32), u_6)) (fun  u_7 =>
    q_bd (m_X5_copyFrom k1 (k + 17) u_7) fun _ u_8 =>
    some ((u_8.1 (k + 17) 0), u_8))) q_F (0 : Int32) u_2
def m_X10_text (x1 : Int32) (u : qS) : qR :=
  q_bd (m_X6_begin 66 (u.1 2 7) (u.1 2 9) u) fun _ u_1 =>
  q_jn (fun (x2 : Int32) (u_2 : qS) =>
    q_let (q_up u_2 67 1 (0 : Int32)) fun u_3 =>
    if x2.toInt = (-1 : Int32).toInt then
      some (x2, u_3)
    else
      if x1.toInt = 0 then
        some (x2, u_3)
      else
        q_bd (m_X10_forget  u_3) fun _ u_4 =>
        some (x2, u_4)) fun J106 =>
  if x1.toInt = 0 then
    q_bd (m_X6_readLaw 66 12 u_1) fun r u_5 =>
    J106 r u_5
  else
  if x1.toInt = 1 then
    q_bd (m_X6_readPaths 66 19 u_1) fun r_6 u_7 =>
    J106 r_6 u_7
  else
  if x1.toInt = 2 then
    q_bd (m_X6_readPlan 66 23 u_1) fun r_8 u_9 =>
    J106 r_8 u_9
  else
  J106 (-1 : Int32) u_1
def m_X10_fault (x1 : Int32) (u : qS) : qR :=
  if x1.toInt = 0 then
    some ((u.1 66 0), u)
  else
    if x1.toInt = (1 : Int32).toInt then
      some ((u.1 66 1), u)
    else
      some ((-1 : Int32), u)
def m_X0_hangingOf_L4 (k : Nat) (x1 : Int32) (K37 : Int32 → qS → qR) (self : Int32 → Int32 → qS → qR) (x2 : Int32) (x3 : Int32) (u : qS) : qR :=
  if (u.1 k 8).toInt ≤ x3.toInt then
    K37 x2 u
  else
    Option.bind (q_ald u (k + 4) 14 x3) fun a =>
    q_jn (fun (x2_1 : Int32) (u_2 : qS) =>
      self x2_1 (x3 + (1 : Int32)) u_2) fun J31 =>
    if a.toInt = x1.toInt then
      Option.bind (q_ald u (k + 7) 14 x3) fun a_3 =>
      q_let (x2 + a_3) fun y2 =>
      J31 y2 u
    else
      J31 x2 u
def m_X0_hangingOf (k : Nat) (x1 : Int32) (u : qS) : qR :=
  q_it2 (m_X0_hangingOf_L4 k x1 (fun x2 u_4 =>
    some (x2, u_4))) q_F (0 : Int32) (0 : Int32) u
def m_X10_of (x1 : Int32) (x2 : Int32) (u : qS) : qR :=
  q_bd (m_X0_isParty 2 x1 u) fun r u_1 =>
  if r.toInt = 0 then
    some ((-1 : Int32), u_1)
  else
    if x2.toInt = 0 then
      Option.bind (q_ald u_1 3 5 x1) fun a =>
      some (a, u_1)
    else
    if x2.toInt = 1 then
      Option.bind (q_ald u_1 4 5 x1) fun a_2 =>
      some (a_2, u_1)
    else
    if x2.toInt = 2 then
      Option.bind (q_ald u_1 5 5 x1) fun a_3 =>
      some (a_3, u_1)
    else
    if x2.toInt = 3 then
      q_bd (m_X0_hangingOf 2 x1 u_1) fun r_4 u_5 =>
      some (r_4, u_5)
    else
    some ((-1 : Int32), u_1)
def m_X10_tree (x1 : Int32) (x2 : Int32) (u : qS) : qR :=
  q_bd (m_X0_isTree 2 x1 u) fun r u_1 =>
  if r.toInt = 0 then
    some ((-1 : Int32), u_1)
  else
    if x2.toInt = 0 then
      Option.bind (q_ald u_1 6 14 x1) fun a =>
      some (a, u_1)
    else
    if x2.toInt = 1 then
      Option.bind (q_ald u_1 7 14 x1) fun a_2 =>
      some (a_2, u_1)
    else
    if x2.toInt = 2 then
      Option.bind (q_ald u_1 8 14 x1) fun a_3 =>
      some (a_3, u_1)
    else
    if x2.toInt = 3 then
      Option.bind (q_ald u_1 9 14 x1) fun a_4 =>
      some (a_4, u_1)
    else
    if x2.toInt = 4 then
      q_bd (m_X2_bears 12 2 x1 u_1) fun r_5 u_6 =>
      some (r_5, u_6)
    else
    some ((-1 : Int32), u_1)
def m_X10_who (x1 : Int32) (x2 : Int32) (u : qS) : qR :=
  q_bd (m_X0_isEater 2 x1 u) fun r u_1 =>
  if r.toInt = 0 then
    some ((-1 : Int32), u_1)
  else
    if x2.toInt = 0 then
      Option.bind (q_ald u_1 10 10 x1) fun a =>
      some (a, u_1)
    else
    if x2.toInt = 1 then
      q_bd (m_X2_wants 12 2 x1 u_1) fun r_2 u_3 =>
      some (r_2, u_3)
    else
    if x2.toInt = 2 then
      Option.bind (q_ald u_1 20 10 x1) fun a_4 =>
      some (a_4, u_1)
    else
    q_bd (m_X10_isWithin x2 (10 : Int32) (17 : Int32) u_1) fun r_5 u_6 =>
    if r_5.toInt = 0 then
      q_bd (m_X10_isWithin x2 (20 : Int32) (24 : Int32) u_6) fun r_7 u_8 =>
      if r_7.toInt = 0 then
        some ((-1 : Int32), u_8)
      else
        q_bd (m_X0_isParty 2 (x2 - (20 : Int32)) u_8) fun r_9 u_10 =>
        if r_9.toInt = 0 then
          some ((-1 : Int32), u_10)
        else
          q_bd (m_X0_tasteFor 2 x1 (x2 - (20 : Int32)) u_10) fun r_11 u_12 =>
          some (r_11, u_12)
    else
      q_bd (m_X4_step 19 x1 (x2 - (10 : Int32)) u_6) fun r_13 u_14 =>
      some (r_13, u_14)
def m_X10_at (x1 : Int32) (u : qS) : qR :=
  q_bd (m_X10_isPlace x1 u) fun r u_1 =>
  if r.toInt = 0 then
    some ((-1 : Int32), u_1)
  else
    q_bd (m_X0_isFenced 2 x1 u_1) fun r_2 u_3 =>
    if r_2.toInt = 0 then
      some ((0 : Int32), u_3)
    else
      some ((1 : Int32), u_3)
def m_X10_book (x1 : Int32) (x2 : Int32) (u : qS) : qR :=
  q_bd (m_X10_isWithin x1 (0 : Int32) ((u.1 2 10) - (1 : Int32)) u) fun r u_1 =>
  if r.toInt = 0 then
    some ((-1 : Int32), u_1)
  else
    q_bd (m_X10_isWithin x2 (0 : Int32) (3 : Int32) u_1) fun r_2 u_3 =>
    if r_2.toInt = 0 then
      some ((-1 : Int32), u_3)
    else
      Option.bind (q_ald u_3 32 600 ((x1 * (4 : Int32)) + x2)) fun a =>
      some (a, u_3)
def m_X10_goes (x1 : Int32) (x2 : Int32) (x3 : Int32) (u : qS) : qR :=
  q_bd (m_X10_isWithin x1 (1 : Int32) (60 : Int32) u) fun r u_1 =>
  q_jn (fun (s0 : Int32) (u_2 : qS) =>
    if s0.toInt = 0 then
      some ((-2 : Int32), u_2)
    else
      q_jn (fun  (u_3 : qS) =>
        q_bd (m_X0_copyFrom 92 2 u_3) fun _ u_4 =>
        q_bd (m_X7_pass 90 92 x1 u_4) fun _ u_5 =>
        if x3.toInt = 0 then
          Option.bind (q_ald u_5 95 5 x2) fun a =>
          some (a, u_5)
        else
        if x3.toInt = 1 then
          Option.bind (q_ald u_5 94 5 x2) fun a_6 =>
          some (a_6, u_5)
        else
        if x3.toInt = 2 then
          some ((u_5.1 90 2), u_5)
        else
        some ((u_5.1 90 3), u_5)) fun J50 =>
      if (2 : Int32).toInt ≤ x3.toInt then
        J50  u_2
      else
        q_bd (m_X0_isParty 2 x2 u_2) fun r_7 u_8 =>
        if r_7.toInt = 0 then
          some ((-2 : Int32), u_8)
        else
          J50  u_8) fun J24 =>
  q_jn (fun  (u_9 : qS) =>
    J24 (0 : Int32) u_9) fun J23 =>
  if r.toInt = 0 then
    J23  u_1
  else
    q_bd (m_X10_isWithin x3 (0 : Int32) (3 : Int32) u_1) fun r_10 u_11 =>
    if r_10.toInt = 0 then
      J23  u_11
    else
      J24 (1 : Int32) u_11
def m_X10_falls (x1 : Int32) (u : qS) : qR :=
  q_bd (m_X0_isParty 2 x1 u) fun r u_1 =>
  if r.toInt = 0 then
    some ((-1 : Int32), u_1)
  else
    q_bd (m_X0_copyFrom 92 2 u_1) fun _ u_2 =>
    q_bd (m_X0_seatAnew 92 u_2) fun _ u_3 =>
    Option.bind (q_ald u_3 95 5 x1) fun a =>
    some (a, u_3)
def m_X10_brings_L65 (x1 : Int32) (x2 : Int32) (x3 : Int32) (K147 : Int32 → Int32 → qS → qR) (self : Int32 → Int32 → Int32 → qS → qR) (x5 : Int32) (x6 : Int32) (x7 : Int32) (u : qS) : qR :=
  if (10 : Int32).toInt ≤ x7.toInt then
    K147 x5 x6 u
  else
    q_bd (m_X0_copyFrom 92 2 u) fun _ u_3 =>
    q_bd (m_X0_addTree 92 x1 x7 (10 : Int32) u_3) fun r u_4 =>
    q_bd (m_X7_pass 90 92 x2 u_4) fun _ u_5 =>
    Option.bind (q_ald u_5 91 5 x1) fun a =>
    q_jn (fun (x5_6 : Int32) (x6_7 : Int32) (u_8 : qS) =>
      self x5_6 x6_7 (x7 + (1 : Int32)) u_8) fun J141 =>
    if a.toInt ≤ x6.toInt then
      J141 x5 x6 u_5
    else
      Option.bind (q_ald u_5 91 5 x1) fun a_9 =>
      J141 x7 a_9 u_5
def m_X10_brings (x1 : Int32) (x2 : Int32) (x3 : Int32) (u : qS) : qR :=
  q_bd (m_X0_isParty 2 x1 u) fun r u_1 =>
  q_jn (fun (s0 : Int32) (u_2 : qS) =>
    if s0.toInt = 0 then
      some ((-1 : Int32), u_2)
    else
      if (u_2.1 2 8).toInt < (14 : Int32).toInt then
        q_it3 (m_X10_brings_L65 x1 x2 x3 (fun x5 x6 u_10 =>
          if x3.toInt = 0 then
            some (x5, u_10)
          else
            some (x6, u_10))) q_F (-1 : Int32) (-1 : Int32) (0 : Int32) u_2
      else
        some ((-1 : Int32), u_2)) fun J35 =>
  q_jn (fun  (u_11 : qS) =>
    J35 (0 : Int32) u_11) fun J34 =>
  if r.toInt = 0 then
    J34  u_1
  else
    q_bd (m_X10_isWithin x2 (1 : Int32) (20 : Int32) u_1) fun r_12 u_13 =>
    if r_12.toInt = 0 then
      J34  u_13
    else
      q_bd (m_X10_isWithin x3 (0 : Int32) (1 : Int32) u_13) fun r_14 u_15 =>
      if r_14.toInt = 0 then
        J34  u_15
      else
        J35 (1 : Int32) u_15
def m_X10_weeksToLastSeating_L2 (K36 : Int32 → qS → qR) (K44 : qS → qR) (self : Int32 → qS → qR) (x2 : Int32) (u : qS) : qR :=
  if x2.toInt ≤ 0 then
    K44  u
  else
    q_jn (fun  (u_1 : qS) =>
      self (x2 + (-1 : Int32)) u_1) fun J38 =>
    if (u.1 2 5).toInt ≤ 0 then
      J38  u
    else
      Option.bind (q_rem ((u.1 2 0) + x2) (u.1 2 5)) fun a =>
      if a.toInt = 0 then
        K36 x2 u
      else
        J38  u
def m_X10_weeksToLastSeating (x1 : Int32) (u : qS) : qR :=
  q_it1 (m_X10_weeksToLastSeating_L2 (fun x2 u_2 =>
    some (x2, u_2)) (fun  u_3 =>
    some ((0 : Int32), u_3))) q_F x1 u
def m_X10_firstPartyBehind (x1 : Int32) (x2 : Int32) (x3 : Int32) (u : qS) : qR :=
  q_bd (m_X0_copyFrom 92 2 u) fun _ u_1 =>
  Option.bind (q_ald u_1 99 14 x1) fun a =>
  Option.bind (q_ast u_1 99 14 x1 (a - x2)) fun u_2 =>
  q_bd (m_X7_pass 90 92 x3 u_2) fun _ u_3 =>
  q_bd (m_X0_partyWithMostSeats 92 u_3) fun r u_4 =>
  some (r, u_4)
def m_X10_swings_L47 (x1 : Int32) (x3 : Int32) (x4 : Int32) (K74 : Int32 → qS → qR) (K83 : qS → qR) (self : Int32 → qS → qR) (x5 : Int32) (u : qS) : qR :=
  Option.bind (q_ald u 9 14 x1) fun a =>
  if a.toInt < x5.toInt then
    K83  u
  else
    q_bd (m_X10_firstPartyBehind x1 x5 x3 u) fun r u_8 =>
    if r.toInt = x4.toInt then
      self (x5 + (1 : Int32)) u_8
    else
      K74 x5 u_8
def m_X10_swings (x1 : Int32) (x2 : Int32) (u : qS) : qR :=
  q_bd (m_X0_isTree 2 x1 u) fun r u_1 =>
  if r.toInt = 0 then
    some ((-1 : Int32), u_1)
  else
    q_bd (m_X10_isWithin x2 (1 : Int32) (20 : Int32) u_1) fun r_2 u_3 =>
    if r_2.toInt = 0 then
      some ((-1 : Int32), u_3)
    else
      q_bd (m_X10_weeksToLastSeating x2 u_3) fun r_4 u_5 =>
      if r_4.toInt = 0 then
        some ((-1 : Int32), u_5)
      else
        q_bd (m_X10_firstPartyBehind x1 (0 : Int32) r_4 u_5) fun r_6 u_7 =>
        q_it1 (m_X10_swings_L47 x1 r_4 r_6 (fun x5 u_9 =>
          some (x5, u_9)) (fun  u_10 =>
          some ((-1 : Int32), u_10))) q_F (1 : Int32) u_7
def m_J6_bitCount_0f7a4 (x0 : Int32) (u : qS) : qR :=
  q_let (x0 - ((q_ushr x0 (1 : Int32)) &&& (1431655765 : Int32))) fun y0 =>
  q_let ((y0 &&& (858993459 : Int32)) + ((q_ushr y0 (2 : Int32)) &&& (858993459 : Int32))) fun y0_1 =>
  q_let ((y0_1 + (q_ushr y0_1 (4 : Int32))) &&& (252645135 : Int32)) fun y0_2 =>
  q_let (y0_2 + (q_ushr y0_2 (8 : Int32))) fun y0_3 =>
  q_let (y0_3 + (q_ushr y0_3 (16 : Int32))) fun y0_4 =>
  some ((y0_4 &&& (63 : Int32)), u)
def m_X10_isEachFedAt_L2 (x1 : Int32) (K36 : qS → qR) (K44 : qS → qR) (self : Int32 → qS → qR) (x2 : Int32) (u : qS) : qR :=
  if (u.1 2 9).toInt ≤ x2.toInt then
    K44  u
  else
    Option.bind (q_ald u 22 10 x2) fun a =>
    q_jn (fun  (u_1 : qS) =>
      self (x2 + (1 : Int32)) u_1) fun J38 =>
    if a.toInt = 0 then
      J38  u
    else
      if (a &&& x1).toInt = 0 then
        K36  u
      else
        J38  u
def m_X10_isEachFedAt (x1 : Int32) (u : qS) : qR :=
  q_it1 (m_X10_isEachFedAt_L2 x1 (fun  u_2 =>
    some ((0 : Int32), u_2)) (fun  u_3 =>
    some ((1 : Int32), u_3))) q_F (0 : Int32) u
def m_X10_feeds_L19 (x1 : Int32) (K50 : Int32 → qS → qR) (self : Int32 → Int32 → qS → qR) (x2 : Int32) (x3 : Int32) (u : qS) : qR :=
  if x3.toInt < 0 then
    K50 x2 u
  else
    q_bd (m_J6_bitCount_0f7a4 x3 u) fun r u_2 =>
    q_bd (m_J6_bitCount_0f7a4 x2 u_2) fun r_3 u_4 =>
    q_jn (fun (x2_5 : Int32) (u_6 : qS) =>
      self x2_5 (x3 + (-1 : Int32)) u_6) fun J44 =>
    if r_3.toInt < r.toInt then
      J44 x2 u_4
    else
      q_bd (m_X10_isEachFedAt x3 u_4) fun r_7 u_8 =>
      if r_7.toInt = 0 then
        J44 x2 u_8
      else
        J44 x3 u_8
def m_X10_feeds (x1 : Int32) (u : qS) : qR :=
  q_bd (m_X10_isWithin x1 (0 : Int32) (1 : Int32) u) fun r u_1 =>
  if r.toInt = 0 then
    some ((-1 : Int32), u_1)
  else
    q_it2 (m_X10_feeds_L19 x1 (fun x2 u_9 =>
      if x1.toInt = 0 then
        q_bd (m_J6_bitCount_0f7a4 x2 u_9) fun r_10 u_11 =>
        some (r_10, u_11)
      else
        some (x2, u_9))) q_F (1023 : Int32) (1023 : Int32) u_1
def m_X1_add (k : Nat) (x1 : Int32) (x2 : Int32) (u : qS) : qR :=
  if (8 : Int32).toInt ≤ (u.1 k 0).toInt then
    some ((u.1 k 0), u)
  else
    Option.bind (q_ast u (k + 1) 8 (u.1 k 0) x1) fun u_1 =>
    Option.bind (q_ast u_1 (k + 2) 8 (u_1.1 k 0) x2) fun u_2 =>
    q_let (q_up u_2 k 0 ((u_2.1 k 0) + (1 : Int32))) fun u_3 =>
    some ((u_3.1 k 0), u_3)
def m_X10_core (x1 : Int32) (x2 : Int32) (u : qS) : qR :=
  if x1.toInt = (-1 : Int32).toInt then
    q_let (q_up u 28 0 (0 : Int32)) fun u_6 =>
    some ((0 : Int32), u_6)
  else
    q_bd (m_X0_isParty 2 x1 u) fun r u_1 =>
    if r.toInt = 0 then
      some ((-1 : Int32), u_1)
    else
      q_bd (m_X10_isPlace x2 u_1) fun r_2 u_3 =>
      if r_2.toInt = 0 then
        some ((-1 : Int32), u_3)
      else
        if (u_3.1 28 0).toInt < (8 : Int32).toInt then
          q_bd (m_X1_add 28 x1 x2 u_3) fun r_4 u_5 =>
          some (r_4, u_5)
        else
          some ((-1 : Int32), u_3)
def m_X1_canBeOf_L3 (k : Nat) (k1 : Nat) (x2 : Int32) (x3 : Int32) (K41 : qS → qR) (K49 : qS → qR) (self : Int32 → qS → qR) (x4 : Int32) (u : qS) : qR :=
  if (u.1 k 0).toInt ≤ x4.toInt then
    K49  u
  else
    Option.bind (q_ald u (k + 2) 8 x4) fun a =>
    if ((x3 >>> (a &&& 31)) &&& (1 : Int32)).toInt = 0 then
      K41  u
    else
      Option.bind (q_ald u (k + 1) 8 x4) fun a_1 =>
      q_bd (m_X0_tasteFor k1 x2 a_1 u) fun r u_2 =>
      if r.toInt = 0 then
        K41  u_2
      else
        self (x4 + (1 : Int32)) u_2
def m_X1_canBeOf (k : Nat) (k1 : Nat) (x2 : Int32) (x3 : Int32) (u : qS) : qR :=
  q_it1 (m_X1_canBeOf_L3 k k1 x2 x3 (fun  u_3 =>
    some ((0 : Int32), u_3)) (fun  u_4 =>
    some ((1 : Int32), u_4))) q_F (0 : Int32) u
def m_X10_askNext_L40 (x1 : Int32) (x2 : Int32) (x3 : Int32) (x4 : Int32) (x5 : Int32) (K86 : Int32 → qS → qR) (self : Int32 → Int32 → qS → qR) (x6 : Int32) (x7 : Int32) (u : qS) : qR :=
  if (u.1 2 9).toInt ≤ x7.toInt then
    K86 x6 u
  else
    q_jn (fun (x6_2 : Int32) (u_3 : qS) =>
      self x6_2 (x7 + (1 : Int32)) u_3) fun J80 =>
    if ((x1 >>> (x7 &&& 31)) &&& (1 : Int32)).toInt = (1 : Int32).toInt then
      q_bd (m_X0_tasteFor 2 x7 x5 u) fun r u_4 =>
      if r.toInt < (5 : Int32).toInt then
        J80 x6 u_4
      else
        J80 (x6 + (1 : Int32)) u_4
    else
      J80 x6 u
def m_X10_askNext_L22 (x1 : Int32) (x2 : Int32) (K117 : Int32 → qS → qR) (self : Int32 → Int32 → Int32 → qS → qR) (x3 : Int32) (x4 : Int32) (x5 : Int32) (u : qS) : qR :=
  if (u.1 2 7).toInt ≤ x5.toInt then
    K117 x3 u
  else
    q_it2 (m_X10_askNext_L40 x1 x2 x3 x4 x5 (fun x6 u_5 =>
      q_let (q_max x6 (x2 - x6)) fun y7 =>
      q_jn (fun (x3_6 : Int32) (x4_7 : Int32) (u_8 : qS) =>
        self x3_6 x4_7 (x5 + (1 : Int32)) u_8) fun J111 =>
      if x4.toInt ≤ y7.toInt then
        J111 x3 x4 u_5
      else
        J111 x5 y7 u_5)) q_F (0 : Int32) (0 : Int32) u
def m_X10_askNext (x1 : Int32) (u : qS) : qR :=
  q_bd (m_J6_bitCount_0f7a4 x1 u) fun r u_1 =>
  if (2 : Int32).toInt ≤ r.toInt then
    q_let (r + (1 : Int32)) fun y4 =>
    q_it3 (m_X10_askNext_L22 x1 r (fun x3 u_9 =>
      some (x3, u_9))) q_F (-1 : Int32) y4 (0 : Int32) u_1
  else
    some ((-1 : Int32), u_1)
def m_X10_whose_L15 (x1 : Int32) (K68 : Int32 → qS → qR) (self : Int32 → Int32 → qS → qR) (x2 : Int32) (x3 : Int32) (u : qS) : qR :=
  if (u.1 2 9).toInt ≤ x3.toInt then
    K68 x2 u
  else
    Option.bind (q_ald u 22 10 x3) fun a =>
    q_bd (m_X1_canBeOf 28 2 x3 a u) fun r u_2 =>
    q_jn (fun (x2_3 : Int32) (u_4 : qS) =>
      self x2_3 (x3 + (1 : Int32)) u_4) fun J62 =>
    if r.toInt = 0 then
      J62 x2 u_2
    else
      q_let (x2 ||| ((1 : Int32) <<< (x3 &&& 31))) fun y2 =>
      J62 y2 u_2
def m_X10_whose (x1 : Int32) (u : qS) : qR :=
  q_bd (m_X10_isWithin x1 (0 : Int32) (1 : Int32) u) fun r u_1 =>
  if r.toInt = 0 then
    some ((-1 : Int32), u_1)
  else
    q_it2 (m_X10_whose_L15 x1 (fun x2 u_5 =>
      if x1.toInt = 0 then
        some (x2, u_5)
      else
        q_bd (m_X10_askNext x2 u_5) fun r_6 u_7 =>
        some (r_6, u_7))) q_F (0 : Int32) (0 : Int32) u_1
def m_X10_leaveUpTo_L12 (x1 : Int32) (x3 : Int32) (K44 : Int64 → qS → qR) (self : Int64 → Int32 → qS → qR) (x4 : Int64) (x6 : Int32) (u : qS) : qR :=
  if x1.toInt < x6.toInt then
    K44 x4 u
  else
    if x3.toInt < x6.toInt then
      K44 x4 u
    else
      Option.bind (q_lld u 100 (x3 - x6)) fun a =>
      q_let (x4 + a) fun y4 =>
      self y4 (x6 + (1 : Int32)) u
def m_X10_leaveUpTo_L2 (x1 : Int32) (K62 : qS → qR) (self : Int32 → qS → qR) (x3 : Int32) (u : qS) : qR :=
  if x3.toInt < 0 then
    K62  u
  else
    q_it2 (m_X10_leaveUpTo_L12 x1 x3 (fun x4 u_1 =>
      Option.bind (q_lst u_1 100 x3 (q_lrm x4 (1000000007 : Int64))) fun u_2 =>
      self (x3 + (-1 : Int32)) u_2)) q_F (0 : Int64) (0 : Int32) u
def m_X10_leaveUpTo (x1 : Int32) (x2 : Int32) (u : qS) : qR :=
  q_it1 (m_X10_leaveUpTo_L2 x1 (fun  u_3 =>
    some (0, u_3))) q_F x2 u
def m_X10_left_L21 (x1 : Int32) (K39 : qS → qR) (self : Int32 → qS → qR) (x2 : Int32) (u : qS) : qR :=
  if x1.toInt < x2.toInt then
    K39  u
  else
    Option.bind (q_lst u 100 x2 (0 : Int64)) fun u_3 =>
    self (x2 + (1 : Int32)) u_3
def m_X10_left_L41 (x1 : Int32) (K78 : qS → qR) (self : Int32 → qS → qR) (x2 : Int32) (u : qS) : qR :=
  if (u.1 2 9).toInt ≤ x2.toInt then
    K78  u
  else
    q_bd (m_X2_wants 12 2 x2 u) fun r u_5 =>
    q_bd (m_X10_leaveUpTo r x1 u_5) fun _ u_6 =>
    self (x2 + (1 : Int32)) u_6
def m_X10_left (x1 : Int32) (u : qS) : qR :=
  q_bd (m_X10_isWithin x1 (0 : Int32) (99 : Int32) u) fun r u_1 =>
  if r.toInt = 0 then
    some ((-1 : Int32), u_1)
  else
    Option.bind (q_lst u_1 100 (0 : Int32) (1 : Int64)) fun u_2 =>
    q_it1 (m_X10_left_L21 x1 (fun  u_4 =>
      q_it1 (m_X10_left_L41 x1 (fun  u_7 =>
        Option.bind (q_lld u_7 100 x1) fun a =>
        some (a.toInt32, u_7))) q_F (0 : Int32) u_4)) q_F (1 : Int32) u_2
def m_X0_seatsOf_L4 (k : Nat) (x1 : Int32) (K36 : Int32 → qS → qR) (self : Int32 → Int32 → qS → qR) (x2 : Int32) (x3 : Int32) (u : qS) : qR :=
  if (u.1 k 7).toInt ≤ x3.toInt then
    K36 x2 u
  else
    q_jn (fun (x2_1 : Int32) (u_2 : qS) =>
      self x2_1 (x3 + (1 : Int32)) u_2) fun J30 =>
    if ((x1 >>> (x3 &&& 31)) &&& (1 : Int32)).toInt = (1 : Int32).toInt then
      Option.bind (q_ald u (k + 3) 5 x3) fun a =>
      q_let (x2 + a) fun y2 =>
      J30 y2 u
    else
      J30 x2 u
def m_X0_seatsOf (k : Nat) (x1 : Int32) (u : qS) : qR :=
  q_it2 (m_X0_seatsOf_L4 k x1 (fun x2 u_3 =>
    some (x2, u_3))) q_F (0 : Int32) (0 : Int32) u
def m_X10_rules_L40 (x1 : Int32) (x2 : Int32) (K93 : Int32 → qS → qR) (self : Int32 → Int32 → qS → qR) (x3 : Int32) (x4 : Int32) (u : qS) : qR :=
  if x4.toInt ≤ 0 then
    K93 x3 u
  else
    q_bd (m_X0_seatsOf 2 x4 u) fun r u_4 =>
    q_jn (fun (s0 : Int32) (u_5 : qS) =>
      q_jn (fun (x3_6 : Int32) (u_7 : qS) =>
        self x3_6 (x4 + (-1 : Int32)) u_7) fun J87 =>
      if s0.toInt = 0 then
        J87 x3 u_5
      else
        q_bd (m_J6_bitCount_0f7a4 x4 u_5) fun r_8 u_9 =>
        q_bd (m_J6_bitCount_0f7a4 x3 u_9) fun r_10 u_11 =>
        if r_10.toInt < r_8.toInt then
          J87 x3 u_11
        else
          J87 x4 u_11) fun J65 =>
    if ((2 : Int32) * r).toInt ≤ x2.toInt then
      J65 (0 : Int32) u_4
    else
      J65 (1 : Int32) u_4
def m_X10_rules (x1 : Int32) (u : qS) : qR :=
  q_bd (m_X0_seatsOf 2 (31 : Int32) u) fun r u_1 =>
  q_bd (m_X10_isWithin x1 (0 : Int32) (1 : Int32) u_1) fun r_2 u_3 =>
  if r_2.toInt = 0 then
    some ((-1 : Int32), u_3)
  else
    if r.toInt = 0 then
      some ((-1 : Int32), u_3)
    else
      q_let (((1 : Int32) <<< ((u_3.1 2 7) &&& 31)) - (1 : Int32)) fun y3 =>
      q_it2 (m_X10_rules_L40 x1 r (fun x3 u_12 =>
        if x1.toInt = 0 then
          q_bd (m_J6_bitCount_0f7a4 x3 u_12) fun r_13 u_14 =>
          some (r_13, u_14)
        else
          some (x3, u_12))) q_F y3 y3 u_3
def m_X10_weighs_L39 (x1 : Int32) (x2 : Int32) (x3 : Int32) (K112 : Int32 → qS → qR) (self : Int32 → Int32 → qS → qR) (x4 : Int32) (x5 : Int32) (u : qS) : qR :=
  if ((1 : Int32) <<< ((u.1 2 7) &&& 31)).toInt ≤ x5.toInt then
    K112 x4 u
  else
    q_bd (m_X0_seatsOf 2 x5 u) fun r u_4 =>
    q_jn (fun (s0 : Int32) (u_5 : qS) =>
      q_jn (fun (x4_6 : Int32) (u_7 : qS) =>
        self x4_6 (x5 + (1 : Int32)) u_7) fun J106 =>
      if s0.toInt = 0 then
        J106 x4 u_5
      else
        if x2.toInt < ((2 : Int32) * r).toInt then
          J106 x4 u_5
        else
          if ((2 : Int32) * (r + x3)).toInt ≤ x2.toInt then
            J106 x4 u_5
          else
            J106 (x4 + (1 : Int32)) u_5) fun J78 =>
    if ((x5 >>> (x1 &&& 31)) &&& (1 : Int32)).toInt = 0 then
      J78 (1 : Int32) u_4
    else
      J78 (0 : Int32) u_4
def m_X10_weighs (x1 : Int32) (u : qS) : qR :=
  q_bd (m_X0_isParty 2 x1 u) fun r u_1 =>
  if r.toInt = 0 then
    some ((-1 : Int32), u_1)
  else
    q_bd (m_X0_seatsOf 2 (31 : Int32) u_1) fun r_2 u_3 =>
    Option.bind (q_ald u_3 5 5 x1) fun a =>
    q_it2 (m_X10_weighs_L39 x1 r_2 a (fun x4 u_8 =>
      some (x4, u_8))) q_F (0 : Int32) (0 : Int32) u_3
def m_X10_lasts_L17 (x1 : Int32) (K64 : Int32 → qS → qR) (self : Int32 → Int32 → qS → qR) (x2 : Int32) (x3 : Int32) (u : qS) : qR :=
  if (u.1 2 9).toInt ≤ x3.toInt then
    K64 x2 u
  else
    q_bd (m_X0_tasteFor 2 x3 x1 u) fun r u_2 =>
    q_jn (fun (x2_3 : Int32) (u_4 : qS) =>
      self x2_3 (x3 + (1 : Int32)) u_4) fun J58 =>
    if r.toInt ≤ 0 then
      J58 x2 u_2
    else
      q_bd (m_X2_wants 12 2 x3 u_2) fun r_5 u_6 =>
      q_let (x2 + r_5) fun y2 =>
      J58 y2 u_6
def m_X10_lasts (x1 : Int32) (u : qS) : qR :=
  q_bd (m_X0_isParty 2 x1 u) fun r u_1 =>
  if r.toInt = 0 then
    some ((-1 : Int32), u_1)
  else
    q_it2 (m_X10_lasts_L17 x1 (fun x2 u_7 =>
      if x2.toInt ≤ 0 then
        some ((-1 : Int32), u_7)
      else
        Option.bind (q_ald u_7 3 5 x1) fun a =>
        Option.bind (q_div ((a + x2) - (1 : Int32)) x2) fun a_8 =>
        some (a_8, u_7))) q_F (0 : Int32) (0 : Int32) u_1
def m_X10_meets (x1 : Int32) (x2 : Int32) (u : qS) : qR :=
  q_bd (m_X0_isEater 2 x1 u) fun r u_1 =>
  if r.toInt = 0 then
    some ((-1 : Int32), u_1)
  else
    q_bd (m_X0_isEater 2 x2 u_1) fun r_2 u_3 =>
    if r_2.toInt = 0 then
      some ((-1 : Int32), u_3)
    else
      Option.bind (q_ald u_3 22 10 x1) fun a =>
      Option.bind (q_ald u_3 22 10 x2) fun a_4 =>
      some ((a &&& a_4), u_3)
def m_X10_goodPick_L8 (x0 : Int32) (x2 : Int32) (K27 : Int32 → qS → qR) (K35 : qS → qR) (self : Int32 → qS → qR) (x3 : Int32) (u : qS) : qR :=
  if (3 : Int32).toInt < x3.toInt then
    K35  u
  else
    if x0.toInt < x3.toInt then
      K35  u
    else
      if ((x0 - x3) &&& (3 : Int32)).toInt = x2.toInt then
        K27 x3 u
      else
        self (x3 + (1 : Int32)) u
def m_X10_goodPick (x0 : Int32) (x1 : Int32) (u : qS) : qR :=
  q_let ((x0 &&& (3 : Int32)) ^^^ x1) fun y2 =>
  q_it1 (m_X10_goodPick_L8 x0 y2 (fun x3 u_1 =>
    some (x3, u_1)) (fun  u_2 =>
    some ((-1 : Int32), u_2))) q_F (1 : Int32) u
def m_X10_game_L15 (x1 : Int32) (K46 : Int32 → qS → qR) (self : Int32 → Int32 → qS → qR) (x2 : Int32) (x3 : Int32) (u : qS) : qR :=
  if (u.1 2 8).toInt ≤ x3.toInt then
    K46 x2 u
  else
    Option.bind (q_ald u 9 14 x3) fun a =>
    q_let (x2 ^^^ (a &&& (3 : Int32))) fun y2 =>
    self y2 (x3 + (1 : Int32)) u
def m_X10_game_L48 (x1 : Int32) (x2 : Int32) (K84 : Int32 → Int32 → qS → qR) (K101 : qS → qR) (self : Int32 → qS → qR) (x3 : Int32) (u : qS) : qR :=
  if (u.1 2 8).toInt ≤ x3.toInt then
    K101  u
  else
    if x2.toInt = 0 then
      K101  u
    else
      Option.bind (q_ald u 9 14 x3) fun a =>
      q_bd (m_X10_goodPick a x2 u) fun r u_3 =>
      if r.toInt = (-1 : Int32).toInt then
        self (x3 + (1 : Int32)) u_3
      else
        K84 x3 r u_3
def m_X10_game (x1 : Int32) (u : qS) : qR :=
  q_bd (m_X10_isWithin x1 (0 : Int32) (1 : Int32) u) fun r u_1 =>
  if r.toInt = 0 then
    some ((-1 : Int32), u_1)
  else
    q_it2 (m_X10_game_L15 x1 (fun x2 u_2 =>
      q_it1 (m_X10_game_L48 x1 x2 (fun x3 x4 u_4 =>
        if x1.toInt = 0 then
          some (x3, u_4)
        else
          some (x4, u_4)) (fun  u_5 =>
        some ((-1 : Int32), u_5))) q_F (0 : Int32) u_2)) q_F (0 : Int32) (0 : Int32) u_1
def m_X10_undo  (u : qS) : qR :=
  if (u.1 0 5).toInt = 0 then
    some ((0 : Int32), u)
  else
    q_jn (fun (s0 : Int32) (u_1 : qS) =>
      q_let (q_up u_1 0 6 s0) fun u_2 =>
      q_let (q_up u_2 0 5 ((u_2.1 0 5) - (1 : Int32))) fun u_3 =>
      Option.bind (q_ix 6 (u_3.1 0 6)) fun j =>
      q_bd (m_X0_copyFrom 2 (q_kp j) u_3) fun _ u_4 =>
      some ((1 : Int32), u_4)) fun J27 =>
    if (u.1 0 6).toInt ≤ 0 then
      J27 (5 : Int32) u
    else
      J27 ((u.1 0 6) - (1 : Int32)) u
def m_X1_copyFrom (k : Nat) (k1 : Nat) (u : qS) : qR :=
  q_let (q_up u k 0 (u.1 k1 0)) fun u_1 =>
  q_let (q_st u_1 (k + 1) (q_cp (u_1.1 (k1 + 1)) (u_1.1 (k + 1)) 8)) fun u_2 =>
  q_let (q_st u_2 (k + 2) (q_cp (u_2.1 (k1 + 2)) (u_2.1 (k + 2)) 8)) fun u_3 =>
  some (0, u_3)
def m_X3_copyFrom (k : Nat) (k1 : Nat) (u : qS) : qR :=
  q_let (q_st u (k + 1) (q_cp (u.1 (k1 + 1)) (u.1 (k + 1)) 600)) fun u_1 =>
  some (0, u_1)
def m_X9_copyFrom (k : Nat) (k1 : Nat) (u : qS) : qR :=
  q_bd (m_X0_copyFrom (k + 1) (k1 + 1) u) fun _ u_1 =>
  q_bd (m_X2_copyFrom (k + 11) (k1 + 11) u_1) fun _ u_2 =>
  q_bd (m_X4_copyFrom (k + 18) (k1 + 18) u_2) fun _ u_3 =>
  q_bd (m_X5_copyFrom (k + 22) (k1 + 22) u_3) fun _ u_4 =>
  q_bd (m_X1_copyFrom (k + 27) (k1 + 27) u_4) fun _ u_5 =>
  q_bd (m_X3_copyFrom (k + 30) (k1 + 30) u_5) fun _ u_6 =>
  some (0, u_6)
def m_X10_image (x1 : Int32) (u : qS) : qR :=
  if x1.toInt = 0 then
    if (u.1 0 3).toInt = 0 then
      some ((0 : Int32), u)
    else
      q_bd (m_X9_copyFrom 1 33 u) fun _ u_1 =>
      q_bd (m_X10_forget  u_1) fun _ u_2 =>
      some ((1 : Int32), u_2)
  else
    q_bd (m_X9_copyFrom 33 1 u) fun _ u_3 =>
    q_bz (1 : Int32) (q_let (q_up u_3 0 3 (1 : Int32)) fun u_4 =>
    some ((1 : Int32), u_4))
def m_X10_look (x1 : Int32) (u : qS) : qR :=
  if x1.toInt = 0 then
    some ((u.1 2 7), u)
  else
  if x1.toInt = 1 then
    some ((u.1 2 8), u)
  else
  if x1.toInt = 2 then
    some ((u.1 2 9), u)
  else
  if x1.toInt = 3 then
    some ((u.1 2 0), u)
  else
  if x1.toInt = 4 then
    some ((u.1 2 2), u)
  else
  if x1.toInt = 5 then
    some ((u.1 2 3), u)
  else
  if x1.toInt = 6 then
    some ((u.1 2 4), u)
  else
  if x1.toInt = 7 then
    some ((u.1 2 5), u)
  else
  if x1.toInt = 8 then
    some ((u.1 2 10), u)
  else
  if x1.toInt = 9 then
    some ((u.1 2 1), u)
  else
  if x1.toInt = 10 then
    some ((u.1 12 0), u)
  else
  if x1.toInt = 11 then
    some ((u.1 19 0), u)
  else
  if x1.toInt = 12 then
    some ((u.1 23 0), u)
  else
  if x1.toInt = 13 then
    some ((u.1 28 0), u)
  else
  if x1.toInt = 14 then
    some ((u.1 0 5), u)
  else
  if x1.toInt = 15 then
    some ((u.1 2 6), u)
  else
  some ((-1 : Int32), u)
