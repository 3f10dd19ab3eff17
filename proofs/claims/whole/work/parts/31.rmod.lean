def m_X11_isIn (x1 : Int32) (x2 : Int32) (x3 : Int32) (u : qS) : qR :=
  if x1.toInt < x2.toInt then
    some ((0 : Int32), u)
  else
    if x3.toInt < x1.toInt then
      some ((0 : Int32), u)
    else
      some ((1 : Int32), u)
def m_X11_held (x1 : Int32) (x2 : Int32) (x3 : Int32) (u : qS) : qR :=
  if x2.toInt ≤ x1.toInt then
    if x1.toInt ≤ x3.toInt then
      some (x1, u)
    else
      some (x3, u)
  else
    some (x2, u)
def m_X11_greater (x1 : Int32) (x2 : Int32) (u : qS) : qR :=
  if x1.toInt ≤ x2.toInt then
    some (x2, u)
  else
    some (x1, u)
def m_X11_lesser (x1 : Int32) (x2 : Int32) (u : qS) : qR :=
  if x2.toInt ≤ x1.toInt then
    some (x2, u)
  else
    some (x1, u)
def m_X11_onesOf_L4 (K21 : Int32 → qS → qR) (self : Int32 → Int32 → qS → qR) (x2 : Int32) (x3 : Int32) (u : qS) : qR :=
  if x3.toInt = 0 then
    K21 x2 u
  else
    q_let (x2 + (1 : Int32)) fun y2 =>
    q_let (x3 &&& (x3 - (1 : Int32))) fun y3 =>
    self y2 y3 u
def m_X11_onesOf (x1 : Int32) (u : qS) : qR :=
  q_it2 (m_X11_onesOf_L4 (fun x2 u_1 =>
    some (x2, u_1))) q_F (0 : Int32) x1 u
def m_X11_has (x1 : Int32) (x2 : Int32) (u : qS) : qR :=
  if ((x1 >>> (x2 &&& 31)) &&& (1 : Int32)).toInt = (1 : Int32).toInt then
    some ((1 : Int32), u)
  else
    some ((0 : Int32), u)
def m_X11_keepsAhead_L57 (K91 : qS → qR) (self : Int32 → qS → qR) (x1 : Int32) (u : qS) : qR :=
  if (136 : Int32).toInt ≤ x1.toInt then
    K91  u
  else
    Option.bind (q_ald u 164 136 x1) fun a =>
    Option.bind (q_ast u 165 816 (((136 : Int32) * (u.1 163 3)) + x1) a) fun u_2 =>
    self (x1 + (1 : Int32)) u_2
def m_X11_keepsAhead_L21 (K55 : qS → qR) (self : Int32 → qS → qR) (x1 : Int32) (u : qS) : qR :=
  if ((136 : Int32) * (u.1 163 3)).toInt ≤ x1.toInt then
    K55  u
  else
    Option.bind (q_ald u 165 816 (x1 + (136 : Int32))) fun a =>
    Option.bind (q_ast u 165 816 x1 a) fun u_6 =>
    self (x1 + (1 : Int32)) u_6
def m_X11_keepsAhead  (u : qS) : qR :=
  q_jn (fun  (u_1 : qS) =>
    q_it1 (m_X11_keepsAhead_L57 (fun  u_3 =>
      q_let (q_up u_3 163 3 ((u_3.1 163 3) + (1 : Int32))) fun u_4 =>
      some (0, u_4))) q_F (0 : Int32) u_1) fun J55 =>
  if (u.1 163 3).toInt = (6 : Int32).toInt then
    q_let (q_up u 163 3 ((u.1 163 3) - (1 : Int32))) fun u_5 =>
    q_it1 (m_X11_keepsAhead_L21 (fun  u_7 =>
      J55  u_7)) q_F (0 : Int32) u_5
  else
    J55  u
def m_X11_undo_L26 (K60 : qS → qR) (self : Int32 → qS → qR) (x1 : Int32) (u : qS) : qR :=
  if (136 : Int32).toInt ≤ x1.toInt then
    K60  u
  else
    Option.bind (q_ald u 165 816 (((136 : Int32) * (u.1 163 3)) + x1)) fun a =>
    Option.bind (q_ast u 164 136 x1 a) fun u_3 =>
    self (x1 + (1 : Int32)) u_3
def m_X11_undo  (u : qS) : qR :=
  q_let (q_up u 163 0 (0 : Int32)) fun u_1 =>
  if (u_1.1 163 3).toInt = 0 then
    some ((0 : Int32), u_1)
  else
    q_let (q_up u_1 163 3 ((u_1.1 163 3) - (1 : Int32))) fun u_2 =>
    q_it1 (m_X11_undo_L26 (fun  u_4 =>
      some ((1 : Int32), u_4))) q_F (0 : Int32) u_2
def m_X11_thinks_L2 (K27 : qS → qR) (self : Int32 → qS → qR) (x1 : Int32) (u : qS) : qR :=
  if (136 : Int32).toInt ≤ x1.toInt then
    K27  u
  else
    Option.bind (q_ald u 164 136 x1) fun a =>
    Option.bind (q_ast u 166 136 x1 a) fun u_1 =>
    self (x1 + (1 : Int32)) u_1
def m_X11_thinks  (u : qS) : qR :=
  q_it1 (m_X11_thinks_L2 (fun  u_2 =>
    q_bz (1 : Int32) (q_let (q_up u_2 163 5 (1 : Int32)) fun u_3 =>
    q_let (q_up u_3 163 42 (0 : Int32)) fun u_4 =>
    q_let (q_up u_4 163 44 (-1 : Int32)) fun u_5 =>
    q_let (q_up u_5 163 45 (-1 : Int32)) fun u_6 =>
    some (0, u_6)))) q_F (0 : Int32) u
def m_X11_thinksAnew_L2 (K27 : qS → qR) (self : Int32 → qS → qR) (x1 : Int32) (u : qS) : qR :=
  if (136 : Int32).toInt ≤ x1.toInt then
    K27  u
  else
    Option.bind (q_ald u 166 136 x1) fun a =>
    Option.bind (q_ast u 164 136 x1 a) fun u_1 =>
    self (x1 + (1 : Int32)) u_1
def m_X11_thinksAnew  (u : qS) : qR :=
  q_it1 (m_X11_thinksAnew_L2 (fun  u_2 =>
    some (0, u_2))) q_F (0 : Int32) u
def m_X11_endsThought  (u : qS) : qR :=
  q_bd (m_X11_thinksAnew  u) fun _ u_1 =>
  q_bz (0 : Int32) (q_let (q_up u_1 163 5 (0 : Int32)) fun u_2 =>
  some (0, u_2))
def m_X11_state (x1 : Int32) (u : qS) : qR :=
  q_let (q_up u 163 0 (0 : Int32)) fun u_1 =>
  Option.bind (q_ald u_1 164 136 (1 : Int32)) fun a =>
  Option.bind (q_ast u_1 164 136 (1 : Int32) x1) fun u_2 =>
  q_let (q_up u_2 163 3 (0 : Int32)) fun u_3 =>
  some (a, u_3)
def m_X11_draw (x1 : Int32) (u : qS) : qR :=
  Option.bind (q_ald u 164 136 (1 : Int32)) fun a =>
  Option.bind (q_ast u 164 136 (1 : Int32) (((1664525 : Int32) * a) + (1013904223 : Int32))) fun u_1 =>
  Option.bind (q_ald u_1 164 136 (1 : Int32)) fun a_2 =>
  Option.bind (q_rem (q_ushr a_2 (8 : Int32)) x1) fun a_3 =>
  some (a_3, u_1)
def m_X11_chairs  (u : qS) : qR :=
  some (((u.1 163 10) + (9 : Int32)), u)
def m_X11_every  (u : qS) : qR :=
  some (((u.1 163 11) + (4 : Int32)), u)
def m_X11_isParty (x1 : Int32) (u : qS) : qR :=
  if x1.toInt < 0 then
    some ((0 : Int32), u)
  else
    if (u.1 163 6).toInt ≤ x1.toInt then
      some ((0 : Int32), u)
    else
      some ((1 : Int32), u)
def m_X11_isEater (x1 : Int32) (u : qS) : qR :=
  if x1.toInt < 0 then
    some ((0 : Int32), u)
  else
    if (u.1 163 7).toInt ≤ x1.toInt then
      some ((0 : Int32), u)
    else
      some ((1 : Int32), u)
def m_X11_isPlace (x1 : Int32) (u : qS) : qR :=
  if x1.toInt < 0 then
    some ((0 : Int32), u)
  else
    if (10 : Int32).toInt ≤ x1.toInt then
      some ((0 : Int32), u)
    else
      some ((1 : Int32), u)
def m_X11_isTree (x1 : Int32) (u : qS) : qR :=
  if x1.toInt < 0 then
    some ((0 : Int32), u)
  else
    Option.bind (q_ald u 164 136 (4 : Int32)) fun a =>
    if a.toInt ≤ x1.toInt then
      some ((0 : Int32), u)
    else
      some ((1 : Int32), u)
def m_X11_tasteOf (x1 : Int32) (x2 : Int32) (u : qS) : qR :=
  Option.bind (q_ald u 164 136 (((86 : Int32) + ((5 : Int32) * x1)) + x2)) fun a =>
  some ((a + (5 : Int32)), u)
def m_X11_tasteBe (x1 : Int32) (x2 : Int32) (x3 : Int32) (u : qS) : qR :=
  q_bd (m_X11_held x3 (0 : Int32) (9 : Int32) u) fun r u_1 =>
  Option.bind (q_ast u_1 164 136 (((86 : Int32) + ((5 : Int32) * x1)) + x2) (r - (5 : Int32))) fun u_2 =>
  some (0, u_2)
def m_X11_party (x1 : Int32) (u : qS) : qR :=
  q_let (q_up u 163 0 (0 : Int32)) fun u_1 =>
  q_bd (m_X11_isIn x1 (0 : Int32) (999 : Int32) u_1) fun r u_2 =>
  if r.toInt = 0 then
    some ((-1 : Int32), u_2)
  else
    if (u_2.1 163 6).toInt = (5 : Int32).toInt then
      some ((-1 : Int32), u_2)
    else
      Option.bind (q_ast u_2 164 136 ((15 : Int32) + (u_2.1 163 6)) x1) fun u_3 =>
      q_let (q_up u_3 163 6 ((u_3.1 163 6) + (1 : Int32))) fun u_4 =>
      q_let (q_up u_4 163 3 (0 : Int32)) fun u_5 =>
      some (((u_5.1 163 6) - (1 : Int32)), u_5)
def m_X11_eater (x1 : Int32) (u : qS) : qR :=
  q_let (q_up u 163 0 (0 : Int32)) fun u_1 =>
  q_bd (m_X11_isIn x1 (0 : Int32) (20 : Int32) u_1) fun r u_2 =>
  if r.toInt = 0 then
    some ((-1 : Int32), u_2)
  else
    if (u_2.1 163 7).toInt = (10 : Int32).toInt then
      some ((-1 : Int32), u_2)
    else
      Option.bind (q_ast u_2 164 136 ((76 : Int32) + (u_2.1 163 7)) x1) fun u_3 =>
      q_let (q_up u_3 163 7 ((u_3.1 163 7) + (1 : Int32))) fun u_4 =>
      q_let (q_up u_4 163 3 (0 : Int32)) fun u_5 =>
      some (((u_5.1 163 7) - (1 : Int32)), u_5)
def m_X11_taste (x1 : Int32) (x2 : Int32) (x3 : Int32) (u : qS) : qR :=
  q_let (q_up u 163 0 (0 : Int32)) fun u_1 =>
  q_bd (m_X11_isEater x1 u_1) fun r u_2 =>
  if r.toInt = 0 then
    some ((0 : Int32), u_2)
  else
    q_bd (m_X11_isParty x2 u_2) fun r_3 u_4 =>
    if r_3.toInt = 0 then
      some ((0 : Int32), u_4)
    else
      q_bd (m_X11_isIn x3 (0 : Int32) (9 : Int32) u_4) fun r_5 u_6 =>
      if r_5.toInt = 0 then
        some ((0 : Int32), u_6)
      else
        q_bd (m_X11_tasteBe x1 x2 x3 u_6) fun _ u_7 =>
        q_let (q_up u_7 163 3 (0 : Int32)) fun u_8 =>
        some ((1 : Int32), u_8)
def m_X11_canSet (x1 : Int32) (x2 : Int32) (x3 : Int32) (u : qS) : qR :=
  q_jn (fun  (u_1 : qS) =>
    q_bd (m_X11_isIn x3 (0 : Int32) (1000 : Int32) u_1) fun r u_2 =>
    q_bz r (some (r, u_2))) fun J9 =>
  if x1.toInt = 0 then
    J9  u
  else
    if x1.toInt = (1 : Int32).toInt then
      J9  u
    else
      if x1.toInt = (2 : Int32).toInt then
        q_bd (m_X11_isIn x3 (1 : Int32) (99 : Int32) u) fun r_20 u_21 =>
        q_bz r_20 (some (r_20, u_21))
      else
        if x1.toInt = (3 : Int32).toInt then
          q_bd (m_X11_isIn x3 (1 : Int32) (52 : Int32) u) fun r_18 u_19 =>
          q_bz r_18 (some (r_18, u_19))
        else
          if x1.toInt = (4 : Int32).toInt then
            q_bd (m_X11_isTree x2 u) fun r_14 u_15 =>
            if r_14.toInt = 0 then
              some ((0 : Int32), u_15)
            else
              q_bd (m_X11_isIn x3 (0 : Int32) (99 : Int32) u_15) fun r_16 u_17 =>
              if r_16.toInt = 0 then
                some ((0 : Int32), u_17)
              else
                some ((1 : Int32), u_17)
          else
            if x1.toInt = (5 : Int32).toInt then
              q_bd (m_X11_isEater x2 u) fun r_10 u_11 =>
              if r_10.toInt = 0 then
                some ((0 : Int32), u_11)
              else
                q_bd (m_X11_isIn x3 (0 : Int32) (20 : Int32) u_11) fun r_12 u_13 =>
                if r_12.toInt = 0 then
                  some ((0 : Int32), u_13)
                else
                  some ((1 : Int32), u_13)
            else
              q_bd (m_X11_isIn x1 (6 : Int32) (7 : Int32) u) fun r_3 u_4 =>
              if r_3.toInt = 0 then
                some ((0 : Int32), u_4)
              else
                q_bd (m_X11_isParty x2 u_4) fun r_5 u_6 =>
                if r_5.toInt = 0 then
                  some ((0 : Int32), u_6)
                else
                  q_jn (fun (s0 : Int32) (u_7 : qS) =>
                    q_bd (m_X11_isIn x3 (0 : Int32) s0 u_7) fun r_8 u_9 =>
                    if r_8.toInt = 0 then
                      some ((0 : Int32), u_9)
                    else
                      some ((1 : Int32), u_9)) fun J145 =>
                  if x1.toInt = (6 : Int32).toInt then
                    J145 (999 : Int32) u_6
                  else
                    J145 (9999 : Int32) u_6
def m_X11_set (x1 : Int32) (x2 : Int32) (x3 : Int32) (u : qS) : qR :=
  q_let (q_up u 163 0 (0 : Int32)) fun u_1 =>
  q_bd (m_X11_canSet x1 x2 x3 u_1) fun r u_2 =>
  if r.toInt = 0 then
    some ((0 : Int32), u_2)
  else
    q_jn (fun  (u_3 : qS) =>
      q_jn (fun  (u_4 : qS) =>
        q_jn (fun  (u_5 : qS) =>
          q_jn (fun  (u_6 : qS) =>
            q_jn (fun  (u_7 : qS) =>
              q_jn (fun  (u_8 : qS) =>
                q_jn (fun  (u_9 : qS) =>
                  q_jn (fun  (u_10 : qS) =>
                    q_let (q_up u_10 163 3 (0 : Int32)) fun u_11 =>
                    some ((1 : Int32), u_11)) fun J122 =>
                  if x1.toInt = (7 : Int32).toInt then
                    Option.bind (q_ast u_9 164 136 ((5 : Int32) + x2) x3) fun u_12 =>
                    J122  u_12
                  else
                    J122  u_9) fun J107 =>
                if x1.toInt = (6 : Int32).toInt then
                  Option.bind (q_ast u_8 164 136 ((15 : Int32) + x2) x3) fun u_13 =>
                  J107  u_13
                else
                  J107  u_8) fun J91 =>
              if x1.toInt = (5 : Int32).toInt then
                Option.bind (q_ast u_7 164 136 ((76 : Int32) + x2) x3) fun u_14 =>
                J91  u_14
              else
                J91  u_7) fun J76 =>
            if x1.toInt = (4 : Int32).toInt then
              Option.bind (q_ast u_6 164 136 ((62 : Int32) + x2) x3) fun u_15 =>
              J76  u_15
            else
              J76  u_6) fun J61 =>
          if x1.toInt = (3 : Int32).toInt then
            q_let (q_up u_5 163 11 (x3 - (4 : Int32))) fun u_16 =>
            J61  u_16
          else
            J61  u_5) fun J49 =>
        if x1.toInt = (2 : Int32).toInt then
          q_let (q_up u_4 163 10 (x3 - (9 : Int32))) fun u_17 =>
          J49  u_17
        else
          J49  u_4) fun J36 =>
      if x1.toInt = (1 : Int32).toInt then
        q_let (q_up u_3 163 9 x3) fun u_18 =>
        J36  u_18
      else
        J36  u_3) fun J26 =>
    if x1.toInt = 0 then
      q_let (q_up u_2 163 8 x3) fun u_19 =>
      J26  u_19
    else
      J26  u_2
def m_X11_types_L3 (x1 : Int32) (K39 : qS → qR) (self : Int32 → qS → qR) (x2 : Int32) (u : qS) : qR :=
  if x2.toInt < 0 then
    K39  u
  else
    Option.bind (q_ast u 168 400 (u.1 163 14) ((x1 >>> (x2 &&& 31)) &&& (255 : Int32))) fun u_1 =>
    q_let (q_up u_1 163 14 ((u_1.1 163 14) + (1 : Int32))) fun u_2 =>
    self (x2 + (-8 : Int32)) u_2
def m_X11_types (x1 : Int32) (u : qS) : qR :=
  q_it1 (m_X11_types_L3 x1 (fun  u_3 =>
    some (0, u_3))) q_F (24 : Int32) u
def m_X11_feed (x1 : Int32) (x2 : Int32) (x3 : Int32) (x4 : Int32) (x5 : Int32) (u : qS) : qR :=
  q_let (q_up u 163 0 (0 : Int32)) fun u_1 =>
  if (u_1.1 163 14).toInt ≤ (380 : Int32).toInt then
    q_bd (m_X11_types x1 u_1) fun _ u_2 =>
    q_bd (m_X11_types x2 u_2) fun _ u_3 =>
    q_bd (m_X11_types x3 u_3) fun _ u_4 =>
    q_bd (m_X11_types x4 u_4) fun _ u_5 =>
    q_bd (m_X11_types x5 u_5) fun _ u_6 =>
    some ((u_6.1 163 14), u_6)
  else
    some ((-1 : Int32), u_1)
def m_X11_end (x1 : Int32) (u : qS) : qR :=
  q_let (q_up u 163 0 (0 : Int32)) fun u_1 =>
  q_bd (m_X11_isIn x1 (0 : Int32) (u_1.1 163 14) u_1) fun r u_2 =>
  if r.toInt = 0 then
    some ((0 : Int32), u_2)
  else
    q_let (q_up u_2 163 14 x1) fun u_3 =>
    some ((1 : Int32), u_3)
def m_X11_raw (x1 : Int32) (u : qS) : qR :=
  if (u.1 163 14).toInt ≤ x1.toInt then
    some ((-1 : Int32), u)
  else
    Option.bind (q_ald u 168 400 x1) fun a =>
    some (a, u)
def m_X11_isLetter (x1 : Int32) (u : qS) : qR :=
  q_bd (m_X11_isIn x1 (97 : Int32) (122 : Int32) u) fun r u_1 =>
  q_jn (fun  (u_2 : qS) =>
    some ((1 : Int32), u_2)) fun J24 =>
  if r.toInt = 0 then
    q_bd (m_X11_isIn x1 (65 : Int32) (90 : Int32) u_1) fun r_3 u_4 =>
    if r_3.toInt = 0 then
      some ((0 : Int32), u_4)
    else
      J24  u_4
  else
    J24  u_1
def m_X11_isDigit (x1 : Int32) (u : qS) : qR :=
  q_bd (m_X11_isIn x1 (48 : Int32) (57 : Int32) u) fun r u_1 =>
  q_bz r (some (r, u_1))
def m_X11_isMarkSign (x1 : Int32) (u : qS) : qR :=
  q_jn (fun  (u_1 : qS) =>
    some ((1 : Int32), u_1)) fun J60 =>
  if x1.toInt = (59 : Int32).toInt then
    J60  u
  else
    if x1.toInt = (43 : Int32).toInt then
      J60  u
    else
      if x1.toInt = (45 : Int32).toInt then
        J60  u
      else
        if x1.toInt = (42 : Int32).toInt then
          J60  u
        else
          if x1.toInt = (47 : Int32).toInt then
            J60  u
          else
            if x1.toInt = (40 : Int32).toInt then
              J60  u
            else
              if x1.toInt = (41 : Int32).toInt then
                J60  u
              else
                if x1.toInt = (60 : Int32).toInt then
                  J60  u
                else
                  if x1.toInt = (61 : Int32).toInt then
                    J60  u
                  else
                    if x1.toInt = (62 : Int32).toInt then
                      J60  u
                    else
                      some ((0 : Int32), u)
def m_X11_wordAt_L20 (x1 : Int32) (x2 : Int32) (x3 : Int32) (x4 : Int32) (K61 : Int32 → qS → qR) (self : Int32 → qS → qR) (x5 : Int32) (u : qS) : qR :=
  if x2.toInt ≤ (x1 + x5).toInt then
    K61 x5 u
  else
    Option.bind (q_ald u 169 129 ((x4 + (1 : Int32)) + x5)) fun a =>
    Option.bind (q_ald u 168 400 (x1 + x5)) fun a_1 =>
    if a.toInt = a_1.toInt then
      q_let (x5 + (1 : Int32)) fun y5 =>
      self y5 u
    else
      K61 x5 u
def m_X11_wordAt_L94 (x1 : Int32) (x2 : Int32) (x3 : Int32) (K115 : Int32 → qS → qR) (self : Int32 → qS → qR) (x4 : Int32) (u : qS) : qR :=
  Option.bind (q_ald u 169 129 x4) fun a =>
  if a.toInt = (32 : Int32).toInt then
    K115 x4 u
  else
    q_let (x4 + (1 : Int32)) fun y4 =>
    self y4 u
def m_X11_wordAt_L5 (x1 : Int32) (x2 : Int32) (K86 : Int32 → qS → qR) (K118 : qS → qR) (self : Int32 → Int32 → qS → qR) (x3 : Int32) (x4 : Int32) (u : qS) : qR :=
  if (128 : Int32).toInt ≤ x4.toInt then
    K118  u
  else
    q_let (x3 + (1 : Int32)) fun y3 =>
    q_it1 (m_X11_wordAt_L20 x1 x2 y3 x4 (fun x5 u_2 =>
      q_jn (fun  (u_3 : qS) =>
        q_let (x4 + (1 : Int32)) fun y4 =>
        q_it1 (m_X11_wordAt_L94 x1 x2 y3 (fun x4_4 u_5 =>
          self y3 x4_4 u_5)) q_F y4 u_3) fun J88 =>
      if (x1 + x5).toInt = x2.toInt then
        Option.bind (q_ald u_2 169 129 ((x4 + (1 : Int32)) + x5)) fun a =>
        if a.toInt = (32 : Int32).toInt then
          K86 y3 u_2
        else
          J88  u_2
      else
        J88  u_2)) q_F (0 : Int32) u
def m_X11_wordAt (x1 : Int32) (x2 : Int32) (u : qS) : qR :=
  q_it2 (m_X11_wordAt_L5 x1 x2 (fun x3 u_6 =>
    some (x3, u_6)) (fun  u_7 =>
    some ((-1 : Int32), u_7))) q_F (-1 : Int32) (0 : Int32) u
def m_X11_reads_L0 (K39 : qS → qR) (self : qS → qR)  (u : qS) : qR :=
  q_bd (m_X11_raw (u.1 163 15) u) fun r u_1 =>
  q_jn (fun  (u_2 : qS) =>
    q_let (q_up u_2 163 15 ((u_2.1 163 15) + (1 : Int32))) fun u_3 =>
    self  u_3) fun J26 =>
  if r.toInt = (32 : Int32).toInt then
    J26  u_1
  else
    q_bd (m_X11_raw (u_1.1 163 15) u_1) fun r_4 u_5 =>
    if r_4.toInt = (10 : Int32).toInt then
      J26  u_5
    else
      K39  u_5
def m_X11_reads_L171 (K239 : qS → qR) (self : qS → qR)  (u : qS) : qR :=
  q_bd (m_X11_raw (u.1 163 15) u) fun r u_20 =>
  q_bd (m_X11_isDigit r u_20) fun r_21 u_22 =>
  if r_21.toInt = 0 then
    K239  u_22
  else
    q_jn (fun (s0 : Int32) (u_23 : qS) =>
      q_let (q_up u_23 163 18 s0) fun u_24 =>
      q_let (q_up u_24 163 15 ((u_24.1 163 15) + (1 : Int32))) fun u_25 =>
      self  u_25) fun J223 =>
    if (10000 : Int32).toInt ≤ (u_22.1 163 18).toInt then
      J223 (u_22.1 163 18) u_22
    else
      q_bd (m_X11_raw (u_22.1 163 15) u_22) fun r_26 u_27 =>
      J223 ((((10 : Int32) * (u_22.1 163 18)) + r_26) - (48 : Int32)) u_27
def m_X11_reads_L95 (K123 : qS → qR) (self : qS → qR)  (u : qS) : qR :=
  q_bd (m_X11_raw (u.1 163 15) u) fun r u_30 =>
  q_bd (m_X11_isLetter r u_30) fun r_31 u_32 =>
  if r_31.toInt = 0 then
    K123  u_32
  else
    q_let (q_up u_32 163 15 ((u_32.1 163 15) + (1 : Int32))) fun u_33 =>
    self  u_33
def m_X11_reads  (u : qS) : qR :=
  q_it0 (m_X11_reads_L0 (fun  u_6 =>
    q_let (q_up u_6 163 16 (u_6.1 163 15)) fun u_7 =>
    q_let (q_up u_7 163 17 (1 : Int32)) fun u_8 =>
    q_bd (m_X11_raw (u_8.1 163 15) u_8) fun r u_9 =>
    if r.toInt = (-1 : Int32).toInt then
      q_let (q_up u_9 163 17 (0 : Int32)) fun u_39 =>
      some (0, u_39)
    else
      q_let (q_up u_9 163 15 ((u_9.1 163 15) + (1 : Int32))) fun u_10 =>
      q_let (q_up u_10 163 18 r) fun u_11 =>
      q_bd (m_X11_isLetter r u_11) fun r_12 u_13 =>
      if r_12.toInt = 0 then
        q_bd (m_X11_isDigit r u_13) fun r_14 u_15 =>
        if r_14.toInt = 0 then
          q_bd (m_X11_isMarkSign r u_15) fun r_16 u_17 =>
          if r_16.toInt = 0 then
            some (0, u_17)
          else
            q_let (q_up u_17 163 17 (4 : Int32)) fun u_18 =>
            some (0, u_18)
        else
          q_let (q_up u_15 163 18 (r - (48 : Int32))) fun u_19 =>
          q_it0 (m_X11_reads_L171 (fun  u_28 =>
            if (5 : Int32).toInt ≤ ((u_28.1 163 15) - (u_28.1 163 16)).toInt then
              some (0, u_28)
            else
              q_let (q_up u_28 163 17 (3 : Int32)) fun u_29 =>
              some (0, u_29))) q_F  u_19
      else
        q_it0 (m_X11_reads_L95 (fun  u_34 =>
          q_bd (m_X11_wordAt (u_34.1 163 16) (u_34.1 163 15) u_34) fun r_35 u_36 =>
          q_let (q_up u_36 163 18 r_35) fun u_37 =>
          if (u_37.1 163 18).toInt = (-1 : Int32).toInt then
            some (0, u_37)
          else
            q_let (q_up u_37 163 17 (2 : Int32)) fun u_38 =>
            some (0, u_38))) q_F  u_13)) q_F  u
def m_X11_errs (x1 : Int32) (u : qS) : qR :=
  q_let (q_up u 163 32 x1) fun u_1 =>
  q_let (q_up u_1 163 33 (u_1.1 163 16)) fun u_2 =>
  some ((-1 : Int32), u_2)
def m_X11_isWord (x1 : Int32) (u : qS) : qR :=
  if (u.1 163 17).toInt = (2 : Int32).toInt then
    if (u.1 163 18).toInt = x1.toInt then
      some ((1 : Int32), u)
    else
      some ((0 : Int32), u)
  else
    some ((0 : Int32), u)
def m_X11_isSign (x1 : Int32) (u : qS) : qR :=
  if (u.1 163 17).toInt = (4 : Int32).toInt then
    if (u.1 163 18).toInt = x1.toInt then
      some ((1 : Int32), u)
    else
      some ((0 : Int32), u)
  else
    some ((0 : Int32), u)
def m_X11_emits (x1 : Int32) (x2 : Int32) (u : qS) : qR :=
  Option.bind (q_ast u 175 1200 ((800 : Int32) + (u.1 163 28)) x1) fun u_1 =>
  Option.bind (q_ast u_1 176 1200 ((800 : Int32) + (u_1.1 163 28)) x2) fun u_2 =>
  q_let (q_up u_2 163 28 ((u_2.1 163 28) + (1 : Int32))) fun u_3 =>
  some (0, u_3)
def m_X11_canAsk (x1 : Int32) (u : qS) : qR :=
  q_bd (m_X11_isIn x1 (7 : Int32) (15 : Int32) u) fun r u_1 =>
  q_bz r (some (r, u_1))
def m_X11_readUnit  (u : qS) : qR :=
  q_jn (fun (s0 : Int32) (u_1 : qS) =>
    q_jn (fun  (u_2 : qS) =>
      q_jn (fun (s0_3 : Int32) (u_4 : qS) =>
        q_jn (fun (s0_5 : Int32) (u_6 : qS) =>
          q_bd (m_X11_emits s0_3 s0_5 u_6) fun _ u_7 =>
          q_bd (m_X11_reads  u_7) fun _ u_8 =>
          some ((0 : Int32), u_8)) fun J71 =>
        if s0.toInt = 0 then
          J71 (u_4.1 163 18) u_4
        else
          J71 ((u_4.1 163 18) - (7 : Int32)) u_4) fun J53 =>
      if s0.toInt = 0 then
        J53 (0 : Int32) u_2
      else
        J53 (1 : Int32) u_2) fun J43 =>
    if s0.toInt = 0 then
      if (u_1.1 163 17).toInt = (3 : Int32).toInt then
        J43  u_1
      else
        q_bd (m_X11_errs (1 : Int32) u_1) fun r u_9 =>
        some (r, u_9)
    else
      J43  u_1) fun J24 =>
  q_jn (fun  (u_10 : qS) =>
    J24 (0 : Int32) u_10) fun J23 =>
  if (u.1 163 17).toInt = (2 : Int32).toInt then
    q_bd (m_X11_canAsk (u.1 163 18) u) fun r_11 u_12 =>
    if r_11.toInt = 0 then
      J23  u_12
    else
      J24 (1 : Int32) u_12
  else
    J23  u
def m_X11_readProduct_L10 (K51 : qS → qR) (K68 : qS → qR) (K82 : qS → qR) (K101 : qS → qR) (self : qS → qR)  (u : qS) : qR :=
  q_bd (m_X11_isSign (42 : Int32) u) fun r u_2 =>
  q_jn (fun  (u_3 : qS) =>
    q_bd (m_X11_isSign (42 : Int32) u_3) fun r_4 u_5 =>
    q_bd (m_X11_reads  u_5) fun _ u_6 =>
    q_jn (fun  (u_7 : qS) =>
      q_jn (fun  (u_8 : qS) =>
        q_bd (m_X11_readUnit  u_8) fun r_9 u_10 =>
        if r_9.toInt = (-1 : Int32).toInt then
          K82  u_10
        else
          q_jn (fun (s0 : Int32) (u_11 : qS) =>
            q_bd (m_X11_emits s0 (0 : Int32) u_11) fun _ u_12 =>
            self  u_12) fun J94 =>
          if r_4.toInt = 0 then
            J94 (5 : Int32) u_10
          else
            J94 (4 : Int32) u_10) fun J74 =>
      if r_4.toInt = 0 then
        if (u_7.1 163 18).toInt = 0 then
          K68  u_7
        else
          J74  u_7
      else
        J74  u_7) fun J57 =>
    if r_4.toInt = 0 then
      if (u_6.1 163 17).toInt = (3 : Int32).toInt then
        J57  u_6
      else
        K51  u_6
    else
      J57  u_6) fun J28 =>
  if r.toInt = 0 then
    q_bd (m_X11_isSign (47 : Int32) u_2) fun r_13 u_14 =>
    if r_13.toInt = 0 then
      K101  u_14
    else
      J28  u_14
  else
    J28  u_2
def m_X11_readProduct  (u : qS) : qR :=
  q_bd (m_X11_readUnit  u) fun r u_1 =>
  if r.toInt = (-1 : Int32).toInt then
    some ((-1 : Int32), u_1)
  else
    q_it0 (m_X11_readProduct_L10 (fun  u_15 =>
      q_bd (m_X11_errs (1 : Int32) u_15) fun r_16 u_17 =>
      some (r_16, u_17)) (fun  u_18 =>
      q_bd (m_X11_errs (2 : Int32) u_18) fun r_19 u_20 =>
      some (r_19, u_20)) (fun  u_21 =>
      some ((-1 : Int32), u_21)) (fun  u_22 =>
      some ((0 : Int32), u_22))) q_F  u_1
def m_X11_readSum_L10 (K55 : qS → qR) (K66 : qS → qR) (self : qS → qR)  (u : qS) : qR :=
  q_bd (m_X11_isSign (43 : Int32) u) fun r u_2 =>
  q_jn (fun  (u_3 : qS) =>
    q_jn (fun (s0 : Int32) (u_4 : qS) =>
      q_bd (m_X11_reads  u_4) fun _ u_5 =>
      q_bd (m_X11_readProduct  u_5) fun r_6 u_7 =>
      if r_6.toInt = (-1 : Int32).toInt then
        K55  u_7
      else
        q_bd (m_X11_emits s0 (0 : Int32) u_7) fun _ u_8 =>
        self  u_8) fun J42 =>
    if (u_3.1 163 18).toInt = (43 : Int32).toInt then
      J42 (2 : Int32) u_3
    else
      J42 (3 : Int32) u_3) fun J28 =>
  if r.toInt = 0 then
    q_bd (m_X11_isSign (45 : Int32) u_2) fun r_9 u_10 =>
    if r_9.toInt = 0 then
      K66  u_10
    else
      J28  u_10
  else
    J28  u_2
def m_X11_readSum  (u : qS) : qR :=
  q_bd (m_X11_readProduct  u) fun r u_1 =>
  if r.toInt = (-1 : Int32).toInt then
    some ((-1 : Int32), u_1)
  else
    q_it0 (m_X11_readSum_L10 (fun  u_11 =>
      some ((-1 : Int32), u_11)) (fun  u_12 =>
      some ((0 : Int32), u_12))) q_F  u_1
def m_X11_readCompared  (u : qS) : qR :=
  q_bd (m_X11_readSum  u) fun r u_1 =>
  if r.toInt = (-1 : Int32).toInt then
    some ((-1 : Int32), u_1)
  else
    q_bd (m_X11_isSign (60 : Int32) u_1) fun r_2 u_3 =>
    q_jn (fun  (u_4 : qS) =>
      q_jn (fun (s0 : Int32) (u_5 : qS) =>
        q_bd (m_X11_reads  u_5) fun _ u_6 =>
        q_bd (m_X11_readSum  u_6) fun r_7 u_8 =>
        if r_7.toInt = (-1 : Int32).toInt then
          some ((-1 : Int32), u_8)
        else
          q_bd (m_X11_emits s0 (0 : Int32) u_8) fun _ u_9 =>
          some ((0 : Int32), u_9)) fun J73 =>
      if (u_4.1 163 18).toInt = (60 : Int32).toInt then
        J73 (6 : Int32) u_4
      else
        if (u_4.1 163 18).toInt = (61 : Int32).toInt then
          J73 (7 : Int32) u_4
        else
          J73 (8 : Int32) u_4) fun J43 =>
    if r_2.toInt = 0 then
      q_bd (m_X11_isSign (61 : Int32) u_3) fun r_10 u_11 =>
      if r_10.toInt = 0 then
        q_bd (m_X11_isSign (62 : Int32) u_11) fun r_12 u_13 =>
        if r_12.toInt = 0 then
          q_bd (m_X11_errs (1 : Int32) u_13) fun r_14 u_15 =>
          some (r_14, u_15)
        else
          J43  u_13
      else
        J43  u_11
    else
      J43  u_3
def m_X11_waits (x1 : Int32) (u : qS) : qR :=
  Option.bind (q_ast u 177 40 (u.1 163 31) x1) fun u_1 =>
  q_let (q_up u_1 163 31 ((u_1.1 163 31) + (1 : Int32))) fun u_2 =>
  some (0, u_2)
def m_X11_settles_L0 (x1 : Int32) (K57 : qS → qR) (self : qS → qR)  (u : qS) : qR :=
  if (u.1 163 31).toInt ≤ 0 then
    K57  u
  else
    Option.bind (q_ald u 177 40 ((u.1 163 31) - (1 : Int32))) fun a =>
    if a.toInt = x1.toInt then
      q_let (q_up u 163 31 ((u.1 163 31) - (1 : Int32))) fun u_1 =>
      q_bd (m_X11_emits x1 (0 : Int32) u_1) fun _ u_2 =>
      if x1.toInt = (9 : Int32).toInt then
        q_let (q_up u_2 163 29 ((u_2.1 163 29) - (1 : Int32))) fun u_3 =>
        self  u_3
      else
        self  u_2
    else
      K57  u
def m_X11_settles (x1 : Int32) (u : qS) : qR :=
  q_it0 (m_X11_settles_L0 x1 (fun  u_4 =>
    some (0, u_4))) q_F  u
def m_X11_readAny_L9 (K42 : qS → qR) (K96 : qS → qR) (K189 : qS → qR) (K200 : qS → qR) (self : Int32 → Int32 → qS → qR) (x1 : Int32) (x2 : Int32) (u : qS) : qR :=
  if x2.toInt = 0 then
    q_bd (m_X11_isWord (5 : Int32) u) fun r u_2 =>
    if r.toInt = 0 then
      q_bd (m_X11_isWord (4 : Int32) u_2) fun r_3 u_4 =>
      if r_3.toInt = 0 then
        q_bd (m_X11_settles (10 : Int32) u_4) fun _ u_5 =>
        q_bd (m_X11_settles (11 : Int32) u_5) fun _ u_6 =>
        if x1.toInt = 0 then
          K189  u_6
        else
          q_bd (m_X11_isSign (41 : Int32) u_6) fun r_7 u_8 =>
          if r_7.toInt = 0 then
            K200  u_8
          else
            q_let (q_up u_8 163 31 ((u_8.1 163 31) - (1 : Int32))) fun u_9 =>
            q_let (x1 - (1 : Int32)) fun y1 =>
            q_let (q_up u_9 163 29 ((u_9.1 163 29) - (1 : Int32))) fun u_10 =>
            q_bd (m_X11_settles (9 : Int32) u_10) fun _ u_11 =>
            q_bd (m_X11_reads  u_11) fun _ u_12 =>
            self y1 x2 u_12
      else
        q_bd (m_X11_settles (10 : Int32) u_4) fun _ u_13 =>
        q_bd (m_X11_settles (11 : Int32) u_13) fun _ u_14 =>
        q_bd (m_X11_waits (11 : Int32) u_14) fun _ u_15 =>
        q_bd (m_X11_reads  u_15) fun _ u_16 =>
        self x1 (1 : Int32) u_16
    else
      q_bd (m_X11_settles (10 : Int32) u_2) fun _ u_17 =>
      q_bd (m_X11_waits (10 : Int32) u_17) fun _ u_18 =>
      q_bd (m_X11_reads  u_18) fun _ u_19 =>
      self x1 (1 : Int32) u_19
  else
    q_bd (m_X11_isWord (6 : Int32) u) fun r_20 u_21 =>
    q_jn (fun  (u_22 : qS) =>
      if (u_22.1 163 29).toInt = (8 : Int32).toInt then
        K42  u_22
      else
        q_let (q_up u_22 163 29 ((u_22.1 163 29) + (1 : Int32))) fun u_23 =>
        q_jn (fun (x1_24 : Int32) (u_25 : qS) =>
          q_jn (fun (s0 : Int32) (u_26 : qS) =>
            q_bd (m_X11_waits s0 u_26) fun _ u_27 =>
            q_bd (m_X11_reads  u_27) fun _ u_28 =>
            self x1_24 x2 u_28) fun J78 =>
          if r_20.toInt = 0 then
            J78 (12 : Int32) u_25
          else
            J78 (9 : Int32) u_25) fun J66 =>
        if r_20.toInt = 0 then
          q_let (x1 + (1 : Int32)) fun y1_29 =>
          J66 y1_29 u_23
        else
          J66 x1 u_23) fun J33 =>
    if r_20.toInt = 0 then
      q_bd (m_X11_isSign (40 : Int32) u_21) fun r_30 u_31 =>
      if r_30.toInt = 0 then
        q_bd (m_X11_readCompared  u_31) fun r_32 u_33 =>
        if r_32.toInt = (-1 : Int32).toInt then
          K96  u_33
        else
          q_bd (m_X11_settles (9 : Int32) u_33) fun _ u_34 =>
          self x1 (0 : Int32) u_34
      else
        J33  u_31
    else
      J33  u_21
def m_X11_readAny  (u : qS) : qR :=
  q_let (q_up u 163 31 (0 : Int32)) fun u_1 =>
  q_it2 (m_X11_readAny_L9 (fun  u_35 =>
    q_bd (m_X11_errs (3 : Int32) u_35) fun r u_36 =>
    some (r, u_36)) (fun  u_37 =>
    some ((-1 : Int32), u_37)) (fun  u_38 =>
    some ((0 : Int32), u_38)) (fun  u_39 =>
    q_bd (m_X11_errs (1 : Int32) u_39) fun r_40 u_41 =>
    some (r_40, u_41))) q_F (0 : Int32) (1 : Int32) u_1
def m_X11_isLineWord  (u : qS) : qR :=
  q_bd (m_X11_isWord (0 : Int32) u) fun r u_1 =>
  q_jn (fun  (u_2 : qS) =>
    some ((1 : Int32), u_2)) fun J24 =>
  if r.toInt = 0 then
    q_bd (m_X11_isWord (1 : Int32) u_1) fun r_3 u_4 =>
    if r_3.toInt = 0 then
      q_bd (m_X11_isWord (2 : Int32) u_4) fun r_5 u_6 =>
      if r_5.toInt = 0 then
        some ((0 : Int32), u_6)
      else
        J24  u_6
    else
      J24  u_4
  else
    J24  u_1
def m_X11_readLaw_L2 (K15 : qS → qR) (K58 : qS → qR) (K90 : qS → qR) (K111 : qS → qR) (K128 : Int32 → qS → qR) (self : Int32 → qS → qR) (x1 : Int32) (u : qS) : qR :=
  q_bd (m_X11_isLineWord  u) fun r u_1 =>
  if r.toInt = 0 then
    K128 x1 u_1
  else
    if x1.toInt = (16 : Int32).toInt then
      K15  u_1
    else
      q_let ((32 : Int32) + x1) fun y2 =>
      Option.bind (q_ast u_1 171 48 y2 (u_1.1 163 18)) fun u_2 =>
      q_bd (m_X11_reads  u_2) fun _ u_3 =>
      Option.bind (q_ast u_3 172 48 y2 (u_3.1 163 28)) fun u_4 =>
      q_bd (m_X11_readSum  u_4) fun r_5 u_6 =>
      if r_5.toInt = (-1 : Int32).toInt then
        K58  u_6
      else
        Option.bind (q_ast u_6 173 48 y2 (u_6.1 163 28)) fun u_7 =>
        q_bd (m_X11_isWord (3 : Int32) u_7) fun r_8 u_9 =>
        q_jn (fun  (u_10 : qS) =>
          Option.bind (q_ast u_10 174 48 y2 (u_10.1 163 28)) fun u_11 =>
          q_bd (m_X11_isSign (59 : Int32) u_11) fun r_12 u_13 =>
          if r_12.toInt = 0 then
            K111  u_13
          else
            q_bd (m_X11_reads  u_13) fun _ u_14 =>
            q_let (x1 + (1 : Int32)) fun y1 =>
            self y1 u_14) fun J92 =>
        if r_8.toInt = 0 then
          J92  u_9
        else
          q_bd (m_X11_reads  u_9) fun _ u_15 =>
          q_bd (m_X11_readAny  u_15) fun r_16 u_17 =>
          if r_16.toInt = (-1 : Int32).toInt then
            K90  u_17
          else
            J92  u_17
def m_X11_readLaw  (u : qS) : qR :=
  q_it1 (m_X11_readLaw_L2 (fun  u_18 =>
    q_bd (m_X11_errs (3 : Int32) u_18) fun r u_19 =>
    some (r, u_19)) (fun  u_20 =>
    some ((-1 : Int32), u_20)) (fun  u_21 =>
    some ((-1 : Int32), u_21)) (fun  u_22 =>
    q_bd (m_X11_errs (1 : Int32) u_22) fun r_23 u_24 =>
    some (r_23, u_24)) (fun x1 u_25 =>
    if (u_25.1 163 17).toInt = 0 then
      some (x1, u_25)
    else
      q_bd (m_X11_errs (1 : Int32) u_25) fun r_26 u_27 =>
      some (r_26, u_27))) q_F (0 : Int32) u
def m_X11_takesLaw_L2 (x1 : Int32) (K105 : qS → qR) (self : Int32 → qS → qR) (x2 : Int32) (u : qS) : qR :=
  if x1.toInt ≤ x2.toInt then
    K105  u
  else
    Option.bind (q_ald u 171 48 ((32 : Int32) + x2)) fun a =>
    Option.bind (q_ast u 171 48 (((16 : Int32) * (u.1 163 27)) + x2) a) fun u_1 =>
    Option.bind (q_ald u_1 172 48 ((32 : Int32) + x2)) fun a_2 =>
    Option.bind (q_ast u_1 172 48 (((16 : Int32) * (u_1.1 163 27)) + x2) a_2) fun u_3 =>
    Option.bind (q_ald u_3 173 48 ((32 : Int32) + x2)) fun a_4 =>
    Option.bind (q_ast u_3 173 48 (((16 : Int32) * (u_3.1 163 27)) + x2) a_4) fun u_5 =>
    Option.bind (q_ald u_5 174 48 ((32 : Int32) + x2)) fun a_6 =>
    Option.bind (q_ast u_5 174 48 (((16 : Int32) * (u_5.1 163 27)) + x2) a_6) fun u_7 =>
    self (x2 + (1 : Int32)) u_7
def m_X11_takesLaw_L107 (x1 : Int32) (K171 : qS → qR) (self : Int32 → qS → qR) (x2 : Int32) (u : qS) : qR :=
  if (u.1 163 28).toInt ≤ x2.toInt then
    K171  u
  else
    Option.bind (q_ald u 175 1200 ((800 : Int32) + x2)) fun a =>
    Option.bind (q_ast u 175 1200 (((400 : Int32) * (u.1 163 27)) + x2) a) fun u_9 =>
    Option.bind (q_ald u_9 176 1200 ((800 : Int32) + x2)) fun a_10 =>
    Option.bind (q_ast u_9 176 1200 (((400 : Int32) * (u_9.1 163 27)) + x2) a_10) fun u_11 =>
    self (x2 + (1 : Int32)) u_11
def m_X11_takesLaw (x1 : Int32) (u : qS) : qR :=
  q_it1 (m_X11_takesLaw_L2 x1 (fun  u_8 =>
    q_it1 (m_X11_takesLaw_L107 x1 (fun  u_12 =>
      Option.bind (q_ast u_12 170 2 (u_12.1 163 27) x1) fun u_13 =>
      some (0, u_13))) q_F (0 : Int32) u_8)) q_F (0 : Int32) u
def m_X11_readNumber (x1 : Int32) (x2 : Int32) (u : qS) : qR :=
  if (u.1 163 17).toInt = (3 : Int32).toInt then
    q_bd (m_X11_isIn (u.1 163 18) x1 x2 u) fun r u_1 =>
    if r.toInt = 0 then
      q_bd (m_X11_errs (2 : Int32) u_1) fun r_3 u_4 =>
      some (r_3, u_4)
    else
      q_let (u_1.1 163 18) fun y3 =>
      q_bd (m_X11_reads  u_1) fun _ u_2 =>
      some (y3, u_2)
  else
    q_bd (m_X11_errs (1 : Int32) u) fun r_5 u_6 =>
    some (r_5, u_6)
def m_X11_readMark (x1 : Int32) (u : qS) : qR :=
  q_bd (m_X11_isSign x1 u) fun r u_1 =>
  if r.toInt = 0 then
    q_bd (m_X11_errs (1 : Int32) u_1) fun r_3 u_4 =>
    some (r_3, u_4)
  else
    q_bd (m_X11_reads  u_1) fun _ u_2 =>
    some ((0 : Int32), u_2)
def m_X11_readTold (x1 : Int32) (x2 : Int32) (x3 : Int32) (u : qS) : qR :=
  q_bd (m_X11_isWord x1 u) fun r u_1 =>
  if r.toInt = 0 then
    q_bd (m_X11_errs (1 : Int32) u_1) fun r_5 u_6 =>
    some (r_5, u_6)
  else
    q_bd (m_X11_reads  u_1) fun _ u_2 =>
    q_bd (m_X11_readNumber x2 x3 u_2) fun r_3 u_4 =>
    some (r_3, u_4)
def m_X11_readPath_L55 (x2 : Int32) (K100 : qS → qR) (K119 : qS → qR) (K152 : qS → qR) (self : qS → qR)  (u : qS) : qR :=
  Option.bind (q_ald u 178 180 x2) fun a =>
  q_jn (fun  (u_6 : qS) =>
    q_jn (fun  (u_7 : qS) =>
      q_bd (m_X11_readNumber (0 : Int32) (9 : Int32) u_7) fun r u_8 =>
      if r.toInt = (-1 : Int32).toInt then
        K119  u_8
      else
        Option.bind (q_ald u_8 178 180 x2) fun a_9 =>
        Option.bind (q_ast u_8 178 180 x2 (a_9 + (1 : Int32))) fun u_10 =>
        Option.bind (q_ald u_10 178 180 x2) fun a_11 =>
        Option.bind (q_ast u_10 178 180 (x2 + a_11) r) fun u_12 =>
        self  u_12) fun J106 =>
    if (u_6.1 163 17).toInt = (3 : Int32).toInt then
      if (10 : Int32).toInt ≤ (u_6.1 163 18).toInt then
        J106  u_6
      else
        Option.bind (q_ald u_6 178 180 x2) fun a_13 =>
        if a_13.toInt = (8 : Int32).toInt then
          K100  u_6
        else
          J106  u_6
    else
      J106  u_6) fun J72 =>
  if a.toInt = 0 then
    J72  u
  else
    if (u.1 163 17).toInt = (3 : Int32).toInt then
      J72  u
    else
      K152  u
def m_X11_readPath  (u : qS) : qR :=
  q_bd (m_X11_readTold (16 : Int32) (0 : Int32) ((u.1 163 7) - (1 : Int32)) u) fun r u_1 =>
  if r.toInt = (-1 : Int32).toInt then
    some ((-1 : Int32), u_1)
  else
    q_bd (m_X11_isWord (17 : Int32) u_1) fun r_2 u_3 =>
    if r_2.toInt = 0 then
      q_bd (m_X11_errs (1 : Int32) u_3) fun r_21 u_22 =>
      some (r_21, u_22)
    else
      q_bd (m_X11_reads  u_3) fun _ u_4 =>
      q_let ((90 : Int32) + ((9 : Int32) * r)) fun y2 =>
      Option.bind (q_ast u_4 178 180 y2 (0 : Int32)) fun u_5 =>
      q_it0 (m_X11_readPath_L55 y2 (fun  u_14 =>
        q_bd (m_X11_errs (3 : Int32) u_14) fun r_15 u_16 =>
        some (r_15, u_16)) (fun  u_17 =>
        some ((-1 : Int32), u_17)) (fun  u_18 =>
        q_bd (m_X11_readMark (59 : Int32) u_18) fun r_19 u_20 =>
        some (r_19, u_20))) q_F  u_5
def m_X11_readPaths_L2 (K27 : qS → qR) (self : Int32 → qS → qR) (x1 : Int32) (u : qS) : qR :=
  if (10 : Int32).toInt ≤ x1.toInt then
    K27  u
  else
    Option.bind (q_ast u 178 180 ((90 : Int32) + ((9 : Int32) * x1)) (0 : Int32)) fun u_1 =>
    self (x1 + (1 : Int32)) u_1
def m_X11_readPaths_L29 (K44 : qS → qR) (K58 : qS → qR) (K67 : Int32 → qS → qR) (self : Int32 → qS → qR) (x1 : Int32) (u : qS) : qR :=
  q_bd (m_X11_isWord (16 : Int32) u) fun r u_3 =>
  if r.toInt = 0 then
    K67 x1 u_3
  else
    if x1.toInt = (16 : Int32).toInt then
      K44  u_3
    else
      q_bd (m_X11_readPath  u_3) fun r_4 u_5 =>
      if r_4.toInt = (-1 : Int32).toInt then
        K58  u_5
      else
        q_let (x1 + (1 : Int32)) fun y1 =>
        self y1 u_5
def m_X11_readPaths  (u : qS) : qR :=
  q_it1 (m_X11_readPaths_L2 (fun  u_2 =>
    q_it1 (m_X11_readPaths_L29 (fun  u_6 =>
      q_bd (m_X11_errs (3 : Int32) u_6) fun r u_7 =>
      some (r, u_7)) (fun  u_8 =>
      some ((-1 : Int32), u_8)) (fun x1 u_9 =>
      if (u_9.1 163 17).toInt = 0 then
        some (x1, u_9)
      else
        q_bd (m_X11_errs (1 : Int32) u_9) fun r_10 u_11 =>
        some (r_10, u_11))) q_F (0 : Int32) u_2)) q_F (0 : Int32) u
def m_X11_readDeed (x1 : Int32) (x2 : Int32) (u : qS) : qR :=
  q_jn (fun  (u_1 : qS) =>
    Option.bind (q_ald u_1 179 128 (x1 + (2 : Int32))) fun a =>
    if a.toInt = (-1 : Int32).toInt then
      some ((-1 : Int32), u_1)
    else
      q_jn (fun (s0 : Int32) (u_2 : qS) =>
        Option.bind (q_ast u_2 179 128 (x1 + (3 : Int32)) s0) fun u_3 =>
        Option.bind (q_ald u_3 179 128 (x1 + (3 : Int32))) fun a_4 =>
        some (a_4, u_3)) fun J120 =>
      if x2.toInt = (19 : Int32).toInt then
        q_bd (m_X11_readTold (20 : Int32) (0 : Int32) (9 : Int32) u_1) fun r_6 u_7 =>
        J120 r_6 u_7
      else
        if x2.toInt = (23 : Int32).toInt then
          q_bd (m_X11_readNumber (1 : Int32) (99 : Int32) u_1) fun r u_5 =>
          J120 r u_5
        else
          J120 (0 : Int32) u_1) fun J64 =>
  q_jn (fun  (u_8 : qS) =>
    q_bd (m_X11_readNumber (0 : Int32) ((u_8.1 163 6) - (1 : Int32)) u_8) fun r_9 u_10 =>
    Option.bind (q_ast u_10 179 128 (x1 + (2 : Int32)) r_9) fun u_11 =>
    J64  u_11) fun J12 =>
  if x2.toInt = (19 : Int32).toInt then
    J12  u
  else
    if x2.toInt = (23 : Int32).toInt then
      J12  u
    else
      q_jn (fun (s0_12 : Int32) (u_13 : qS) =>
        q_bd (m_X11_readNumber (0 : Int32) s0_12 u_13) fun r_14 u_15 =>
        Option.bind (q_ast u_15 179 128 (x1 + (2 : Int32)) r_14) fun u_16 =>
        J64  u_16) fun J60 =>
      if x2.toInt = (24 : Int32).toInt then
        J60 ((u.1 163 7) - (1 : Int32)) u
      else
        J60 (9 : Int32) u
def m_X11_readPlanLine (x1 : Int32) (u : qS) : qR :=
  q_bd (m_X11_readTold (18 : Int32) (0 : Int32) (999 : Int32) u) fun r u_1 =>
  Option.bind (q_ast u_1 179 128 x1 r) fun u_2 =>
  Option.bind (q_ald u_2 179 128 x1) fun a =>
  if a.toInt = (-1 : Int32).toInt then
    some ((-1 : Int32), u_2)
  else
    q_jn (fun (s0 : Int32) (u_3 : qS) =>
      q_jn (fun  (u_4 : qS) =>
        q_bd (m_X11_reads  u_4) fun _ u_5 =>
        q_jn (fun (s0_6 : Int32) (u_7 : qS) =>
          Option.bind (q_ast u_7 179 128 (x1 + (1 : Int32)) s0_6) fun u_8 =>
          q_bd (m_X11_readDeed x1 s0 u_8) fun r_9 u_10 =>
          if r_9.toInt = (-1 : Int32).toInt then
            some ((-1 : Int32), u_10)
          else
            q_bd (m_X11_readMark (59 : Int32) u_10) fun r_11 u_12 =>
            some (r_11, u_12)) fun J96 =>
        if s0.toInt = (19 : Int32).toInt then
          J96 (0 : Int32) u_5
        else
          J96 (((1 : Int32) + s0) - (21 : Int32)) u_5) fun J69 =>
      if s0.toInt = (19 : Int32).toInt then
        J69  u_3
      else
        q_bd (m_X11_isIn s0 (21 : Int32) (24 : Int32) u_3) fun r_13 u_14 =>
        if r_13.toInt = 0 then
          q_bd (m_X11_errs (1 : Int32) u_14) fun r_15 u_16 =>
          some (r_15, u_16)
        else
          J69  u_14) fun J44 =>
    if (u_2.1 163 17).toInt = (2 : Int32).toInt then
      J44 (u_2.1 163 18) u_2
    else
      J44 (-1 : Int32) u_2
def m_X11_readPlan_L2 (K17 : qS → qR) (K37 : qS → qR) (K46 : Int32 → qS → qR) (self : Int32 → qS → qR) (x1 : Int32) (u : qS) : qR :=
  q_bd (m_X11_isWord (18 : Int32) u) fun r u_1 =>
  if r.toInt = 0 then
    K46 x1 u_1
  else
    if x1.toInt = (16 : Int32).toInt then
      K17  u_1
    else
      q_bd (m_X11_readPlanLine ((64 : Int32) + ((4 : Int32) * x1)) u_1) fun r_2 u_3 =>
      if r_2.toInt = (-1 : Int32).toInt then
        K37  u_3
      else
        q_let (x1 + (1 : Int32)) fun y1 =>
        self y1 u_3
def m_X11_readPlan  (u : qS) : qR :=
  q_it1 (m_X11_readPlan_L2 (fun  u_4 =>
    q_bd (m_X11_errs (3 : Int32) u_4) fun r u_5 =>
    some (r, u_5)) (fun  u_6 =>
    some ((-1 : Int32), u_6)) (fun x1 u_7 =>
    if (u_7.1 163 17).toInt = 0 then
      some (x1, u_7)
    else
      q_bd (m_X11_errs (1 : Int32) u_7) fun r_8 u_9 =>
      some (r_8, u_9))) q_F (0 : Int32) u
def m_X11_readsText (x1 : Int32) (u : qS) : qR :=
  q_let (q_up u 163 27 (0 : Int32)) fun u_1 =>
  q_bd (m_X11_reads  u_1) fun _ u_2 =>
  if x1.toInt = (1 : Int32).toInt then
    q_bd (m_X11_readPaths  u_2) fun r_6 u_7 =>
    some (r_6, u_7)
  else
    if x1.toInt = (2 : Int32).toInt then
      q_bd (m_X11_readPlan  u_2) fun r_4 u_5 =>
      some (r_4, u_5)
    else
      q_bd (m_X11_readLaw  u_2) fun r u_3 =>
      some (r, u_3)
def m_X11_takesOther_L44 (x2 : Int32) (K72 : qS → qR) (self : Int32 → qS → qR) (x3 : Int32) (u : qS) : qR :=
  if ((4 : Int32) * x2).toInt ≤ x3.toInt then
    K72  u
  else
    Option.bind (q_ald u 179 128 ((64 : Int32) + x3)) fun a =>
    Option.bind (q_ast u 179 128 x3 a) fun u_3 =>
    self (x3 + (1 : Int32)) u_3
def m_X11_takesOther_L7 (x2 : Int32) (K34 : qS → qR) (self : Int32 → qS → qR) (x3 : Int32) (u : qS) : qR :=
  if (90 : Int32).toInt ≤ x3.toInt then
    K34  u
  else
    Option.bind (q_ald u 178 180 ((90 : Int32) + x3)) fun a =>
    Option.bind (q_ast u 178 180 x3 a) fun u_6 =>
    self (x3 + (1 : Int32)) u_6
def m_X11_takesOther (x1 : Int32) (x2 : Int32) (u : qS) : qR :=
  q_jn (fun  (u_1 : qS) =>
    q_let (q_up u_1 163 3 (0 : Int32)) fun u_2 =>
    some (0, u_2)) fun J77 =>
  if x1.toInt = (1 : Int32).toInt then
    q_it1 (m_X11_takesOther_L7 x2 (fun  u_7 =>
      q_let (q_up u_7 163 36 x2) fun u_8 =>
      J77  u_8)) q_F (0 : Int32) u
  else
    q_it1 (m_X11_takesOther_L44 x2 (fun  u_4 =>
      q_let (q_up u_4 163 38 x2) fun u_5 =>
      J77  u_5)) q_F (0 : Int32) u
def m_X11_text (x1 : Int32) (u : qS) : qR :=
  q_let (q_up u 163 0 (0 : Int32)) fun u_1 =>
  q_let (q_up u_1 163 34 (0 : Int32)) fun u_2 =>
  q_let (q_up u_2 163 35 (-1 : Int32)) fun u_3 =>
  q_let (q_up u_3 163 15 (0 : Int32)) fun u_4 =>
  q_let (q_up u_4 163 28 (0 : Int32)) fun u_5 =>
  q_let (q_up u_5 163 29 (0 : Int32)) fun u_6 =>
  q_bd (m_X11_isIn x1 (0 : Int32) (2 : Int32) u_6) fun r u_7 =>
  q_jn (fun (x2 : Int32) (u_8 : qS) =>
    q_let (q_up u_8 163 14 (0 : Int32)) fun u_9 =>
    if x2.toInt = (-1 : Int32).toInt then
      some ((-1 : Int32), u_9)
    else
      if x1.toInt = 0 then
        q_bd (m_X11_takesLaw x2 u_9) fun _ u_11 =>
        some (x2, u_11)
      else
        q_bd (m_X11_takesOther x1 x2 u_9) fun _ u_10 =>
        some (x2, u_10)) fun J69 =>
  if r.toInt = 0 then
    J69 (-1 : Int32) u_7
  else
    q_bd (m_X11_readsText x1 u_7) fun r_12 u_13 =>
    if r_12.toInt = (-1 : Int32).toInt then
      q_let (q_up u_13 163 34 (u_13.1 163 32)) fun u_14 =>
      q_let (q_up u_14 163 35 (u_14.1 163 33)) fun u_15 =>
      J69 r_12 u_15
    else
      J69 r_12 u_13
def m_X11_fault (x1 : Int32) (u : qS) : qR :=
  q_let (q_up u 163 0 (0 : Int32)) fun u_1 =>
  if x1.toInt = 0 then
    some ((u_1.1 163 34), u_1)
  else
    if x1.toInt = (1 : Int32).toInt then
      some ((u_1.1 163 35), u_1)
    else
      some ((-1 : Int32), u_1)
def m_X11_twoOf (x1 : Int32) (x2 : Int32) (x3 : Int32) (u : qS) : qR :=
  if x1.toInt = (2 : Int32).toInt then
    some ((x2 + x3), u)
  else
    if x1.toInt = (3 : Int32).toInt then
      some ((x2 - x3), u)
    else
      if x1.toInt = (4 : Int32).toInt then
        some ((x2 * x3), u)
      else
        if x1.toInt = (5 : Int32).toInt then
          Option.bind (q_div x2 x3) fun a =>
          some (a, u)
        else
          if x1.toInt = (6 : Int32).toInt then
            if x3.toInt ≤ x2.toInt then
              some ((0 : Int32), u)
            else
              some ((1 : Int32), u)
          else
            if x1.toInt = (7 : Int32).toInt then
              if x2.toInt = x3.toInt then
                some ((1 : Int32), u)
              else
                some ((0 : Int32), u)
            else
              if x1.toInt = (8 : Int32).toInt then
                if x2.toInt ≤ x3.toInt then
                  some ((0 : Int32), u)
                else
                  some ((1 : Int32), u)
              else
                if x1.toInt = (10 : Int32).toInt then
                  some ((x2 * x3), u)
                else
                  if (x2 + x3).toInt ≤ 0 then
                    some ((0 : Int32), u)
                  else
                    some ((1 : Int32), u)
def m_X11_runs_L12 (x1 : Int32) (x3 : Int32) (K176 : qS → qR) (self : Int32 → Int32 → qS → qR) (x4 : Int32) (x5 : Int32) (u : qS) : qR :=
  if (((400 : Int32) * x1) + x3).toInt ≤ x5.toInt then
    K176  u
  else
    Option.bind (q_ald u 175 1200 x5) fun a =>
    q_jn (fun (x4_1 : Int32) (u_2 : qS) =>
      self x4_1 (x5 + (1 : Int32)) u_2) fun J170 =>
    q_jn (fun  (u_3 : qS) =>
      Option.bind (q_ald u_3 175 1200 x5) fun a_4 =>
      q_jn (fun (s0 : Int32) (u_5 : qS) =>
        Option.bind (q_ast u_5 181 420 x4 s0) fun u_6 =>
        q_let (x4 + (1 : Int32)) fun y4 =>
        J170 y4 u_6) fun J83 =>
      if a_4.toInt = 0 then
        Option.bind (q_ald u_3 176 1200 x5) fun a_9 =>
        J83 a_9 u_3
      else
        Option.bind (q_ald u_3 176 1200 x5) fun a_7 =>
        Option.bind (q_ald u_3 180 9 a_7) fun a_8 =>
        J83 a_8 u_3) fun J45 =>
    if a.toInt = 0 then
      J45  u
    else
      Option.bind (q_ald u 175 1200 x5) fun a_10 =>
      if a_10.toInt = (1 : Int32).toInt then
        J45  u
      else
        Option.bind (q_ald u 175 1200 x5) fun a_11 =>
        if a_11.toInt = (9 : Int32).toInt then
          Option.bind (q_ald u 181 420 (x4 - (1 : Int32))) fun a_18 =>
          Option.bind (q_ast u 181 420 (x4 - (1 : Int32)) ((1 : Int32) - a_18)) fun u_19 =>
          J170 x4 u_19
        else
          q_let (x4 - (1 : Int32)) fun y4_12 =>
          Option.bind (q_ald u 175 1200 x5) fun a_13 =>
          Option.bind (q_ald u 181 420 (y4_12 - (1 : Int32))) fun a_14 =>
          Option.bind (q_ald u 181 420 y4_12) fun a_15 =>
          q_bd (m_X11_twoOf a_13 a_14 a_15 u) fun r u_16 =>
          Option.bind (q_ast u_16 181 420 (y4_12 - (1 : Int32)) r) fun u_17 =>
          J170 y4_12 u_17
def m_X11_runs (x1 : Int32) (x2 : Int32) (x3 : Int32) (u : qS) : qR :=
  q_let (((400 : Int32) * x1) + x2) fun y5 =>
  q_it2 (m_X11_runs_L12 x1 x3 (fun  u_20 =>
    Option.bind (q_ald u_20 181 420 (0 : Int32)) fun a =>
    some (a, u_20))) q_F (0 : Int32) y5 u
def m_X11_lineOf_L2 (x1 : Int32) (K57 : Int32 → qS → qR) (K65 : qS → qR) (self : Int32 → qS → qR) (x2 : Int32) (u : qS) : qR :=
  Option.bind (q_ald u 170 2 (0 : Int32)) fun a =>
  if a.toInt ≤ x2.toInt then
    K65  u
  else
    Option.bind (q_ald u 171 48 x2) fun a_1 =>
    q_jn (fun  (u_2 : qS) =>
      self (x2 + (1 : Int32)) u_2) fun J59 =>
    if a_1.toInt = x1.toInt then
      Option.bind (q_ald u 173 48 x2) fun a_3 =>
      Option.bind (q_ald u 174 48 x2) fun a_4 =>
      if a_3.toInt = a_4.toInt then
        K57 x2 u
      else
        Option.bind (q_ald u 173 48 x2) fun a_5 =>
        Option.bind (q_ald u 174 48 x2) fun a_6 =>
        q_bd (m_X11_runs (0 : Int32) a_5 a_6 u) fun r u_7 =>
        if r.toInt = 0 then
          J59  u_7
        else
          K57 x2 u_7
    else
      J59  u
def m_X11_lineOf (x1 : Int32) (u : qS) : qR :=
  q_it1 (m_X11_lineOf_L2 x1 (fun x2 u_8 =>
    some (x2, u_8)) (fun  u_9 =>
    some ((-1 : Int32), u_9))) q_F (0 : Int32) u
def m_X11_asks (x1 : Int32) (x2 : Int32) (x3 : Int32) (x4 : Int32) (u : qS) : qR :=
  Option.bind (q_ald u 164 136 (0 : Int32)) fun a =>
  Option.bind (q_ast u 180 9 (0 : Int32) (q_rm a (52 : Int32))) fun u_1 =>
  Option.bind (q_ast u_1 180 9 (1 : Int32) x1) fun u_2 =>
  Option.bind (q_ast u_2 180 9 (2 : Int32) x2) fun u_3 =>
  Option.bind (q_ast u_3 180 9 (3 : Int32) x3) fun u_4 =>
  Option.bind (q_ast u_4 180 9 (4 : Int32) x4) fun u_5 =>
  Option.bind (q_ast u_5 180 9 (5 : Int32) (0 : Int32)) fun u_6 =>
  Option.bind (q_ast u_6 180 9 (6 : Int32) (0 : Int32)) fun u_7 =>
  Option.bind (q_ast u_7 180 9 (7 : Int32) (0 : Int32)) fun u_8 =>
  Option.bind (q_ast u_8 180 9 (8 : Int32) (0 : Int32)) fun u_9 =>
  some (0, u_9)
def m_X11_lawTells (x1 : Int32) (x2 : Int32) (x3 : Int32) (u : qS) : qR :=
  q_bd (m_X11_lineOf x1 u) fun r u_1 =>
  q_jn (fun (s0 : Int32) (u_2 : qS) =>
    q_bd (m_X11_held s0 (0 : Int32) x3 u_2) fun r_3 u_4 =>
    some (r_3, u_4)) fun J37 =>
  if r.toInt = (-1 : Int32).toInt then
    J37 x2 u_1
  else
    Option.bind (q_ald u_1 172 48 r) fun a =>
    Option.bind (q_ald u_1 173 48 r) fun a_5 =>
    q_bd (m_X11_runs (0 : Int32) a a_5 u_1) fun r_6 u_7 =>
    J37 r_6 u_7
def m_X11_bearOf (x1 : Int32) (u : qS) : qR :=
  Option.bind (q_ald u 164 136 ((20 : Int32) + x1)) fun a =>
  Option.bind (q_ald u 164 136 ((34 : Int32) + x1)) fun a_1 =>
  Option.bind (q_ald u 164 136 ((48 : Int32) + x1)) fun a_2 =>
  Option.bind (q_ald u 164 136 ((62 : Int32) + x1)) fun a_3 =>
  q_bd (m_X11_asks a a_1 a_2 a_3 u) fun _ u_4 =>
  Option.bind (q_ald u_4 164 136 ((20 : Int32) + x1)) fun a_5 =>
  Option.bind (q_ald u_4 164 136 ((10 : Int32) + a_5)) fun a_6 =>
  Option.bind (q_ast u_4 180 9 (8 : Int32) a_6) fun u_7 =>
  Option.bind (q_ald u_7 164 136 ((48 : Int32) + x1)) fun a_8 =>
  q_bd (m_X11_lawTells (0 : Int32) (a_8 / (5 : Int32)) (99 : Int32) u_7) fun r u_9 =>
  some (r, u_9)
def m_X11_wantOf (x1 : Int32) (u : qS) : qR :=
  q_bd (m_X11_asks (0 : Int32) (0 : Int32) (0 : Int32) (0 : Int32) u) fun _ u_1 =>
  Option.bind (q_ald u_1 164 136 ((76 : Int32) + x1)) fun a =>
  Option.bind (q_ast u_1 180 9 (5 : Int32) a) fun u_2 =>
  Option.bind (q_ald u_2 164 136 ((76 : Int32) + x1)) fun a_3 =>
  q_bd (m_X11_lawTells (1 : Int32) a_3 (20 : Int32) u_2) fun r u_4 =>
  some (r, u_4)
def m_X11_countOf (x1 : Int32) (x2 : Int32) (x3 : Int32) (u : qS) : qR :=
  q_jn (fun  (u_1 : qS) =>
    Option.bind (q_ald u_1 164 136 ((76 : Int32) + x1)) fun a =>
    Option.bind (q_ast u_1 180 9 (5 : Int32) a) fun u_2 =>
    q_bd (m_X11_tasteOf x1 x2 u_2) fun r u_3 =>
    Option.bind (q_ast u_3 180 9 (6 : Int32) r) fun u_4 =>
    q_jn (fun (s0 : Int32) (u_5 : qS) =>
      Option.bind (q_ast u_5 180 9 (7 : Int32) s0) fun u_6 =>
      Option.bind (q_ald u_6 164 136 ((10 : Int32) + x2)) fun a_7 =>
      Option.bind (q_ast u_6 180 9 (8 : Int32) a_7) fun u_8 =>
      q_bd (m_X11_lawTells (2 : Int32) (1 : Int32) (9 : Int32) u_8) fun r_9 u_10 =>
      some (r_9, u_10)) fun J92 =>
    if x3.toInt = (-1 : Int32).toInt then
      J92 (1 : Int32) u_4
    else
      J92 (0 : Int32) u_4) fun J48 =>
  if x3.toInt = (-1 : Int32).toInt then
    q_bd (m_X11_asks x2 (0 : Int32) (0 : Int32) (0 : Int32) u) fun _ u_15 =>
    J48  u_15
  else
    Option.bind (q_ald u 164 136 ((34 : Int32) + x3)) fun a_11 =>
    Option.bind (q_ald u 164 136 ((48 : Int32) + x3)) fun a_12 =>
    Option.bind (q_ald u 164 136 ((62 : Int32) + x3)) fun a_13 =>
    q_bd (m_X11_asks x2 a_11 a_12 a_13 u) fun _ u_14 =>
    J48  u_14
def m_X11_notes (x1 : Int32) (x2 : Int32) (x3 : Int32) (u : qS) : qR :=
  if (u.1 163 5).toInt = 0 then
    Option.bind (q_ald u 164 136 (2 : Int32)) fun a =>
    if a.toInt = (150 : Int32).toInt then
      some (0, u)
    else
      Option.bind (q_ald u 164 136 (2 : Int32)) fun a_1 =>
      q_let ((4 : Int32) * a_1) fun y4 =>
      Option.bind (q_ald u 164 136 (0 : Int32)) fun a_2 =>
      Option.bind (q_ast u 167 600 y4 a_2) fun u_3 =>
      Option.bind (q_ast u_3 167 600 (y4 + (1 : Int32)) x1) fun u_4 =>
      Option.bind (q_ast u_4 167 600 (y4 + (2 : Int32)) x2) fun u_5 =>
      Option.bind (q_ast u_5 167 600 (y4 + (3 : Int32)) x3) fun u_6 =>
      Option.bind (q_ald u_6 164 136 (2 : Int32)) fun a_7 =>
      Option.bind (q_ast u_6 164 136 (2 : Int32) (a_7 + (1 : Int32))) fun u_8 =>
      some (0, u_8)
  else
    some (0, u)
def m_X11_plants (x1 : Int32) (x2 : Int32) (x3 : Int32) (u : qS) : qR :=
  Option.bind (q_ald u 164 136 (4 : Int32)) fun a =>
  Option.bind (q_ast u 164 136 ((20 : Int32) + a) x1) fun u_1 =>
  Option.bind (q_ast u_1 164 136 ((34 : Int32) + a) x2) fun u_2 =>
  Option.bind (q_ast u_2 164 136 ((48 : Int32) + a) x3) fun u_3 =>
  Option.bind (q_ast u_3 164 136 ((62 : Int32) + a) (0 : Int32)) fun u_4 =>
  Option.bind (q_ast u_4 164 136 (4 : Int32) (a + (1 : Int32))) fun u_5 =>
  q_bd (m_X11_notes (0 : Int32) a (0 : Int32) u_5) fun _ u_6 =>
  some (a, u_6)
def m_X11_isFenced (x1 : Int32) (u : qS) : qR :=
  Option.bind (q_ald u 164 136 (3 : Int32)) fun a =>
  q_bd (m_X11_has a x1 u) fun r u_1 =>
  q_bz r (some (r, u_1))
def m_X11_fences (x1 : Int32) (x2 : Int32) (u : qS) : qR :=
  q_jn (fun (s0 : Int32) (u_1 : qS) =>
    Option.bind (q_ast u_1 164 136 (3 : Int32) s0) fun u_2 =>
    q_jn (fun (s0_3 : Int32) (u_4 : qS) =>
      q_bd (m_X11_notes s0_3 x1 (0 : Int32) u_4) fun _ u_5 =>
      some (0, u_5)) fun J45 =>
    if x2.toInt = 0 then
      J45 (2 : Int32) u_2
    else
      J45 (1 : Int32) u_2) fun J34 =>
  if x2.toInt = 0 then
    Option.bind (q_ald u 164 136 (3 : Int32)) fun a =>
    J34 (a &&& (((1 : Int32) <<< (x1 &&& 31)) ^^^ (-1 : Int32))) u
  else
    Option.bind (q_ald u 164 136 (3 : Int32)) fun a_6 =>
    J34 (a_6 ||| ((1 : Int32) <<< (x1 &&& 31))) u
def m_X11_boils_L5 (x1 : Int32) (x2 : Int32) (K84 : Int32 → qS → qR) (self : Int32 → Int32 → qS → qR) (x3 : Int32) (x4 : Int32) (u : qS) : qR :=
  Option.bind (q_ald u 164 136 (4 : Int32)) fun a =>
  if a.toInt ≤ x4.toInt then
    K84 x3 u
  else
    Option.bind (q_ald u 164 136 ((20 : Int32) + x4)) fun a_1 =>
    q_jn (fun (x3_2 : Int32) (u_3 : qS) =>
      self x3_2 (x4 + (1 : Int32)) u_3) fun J78 =>
    if a_1.toInt = x1.toInt then
      Option.bind (q_ald u 164 136 ((62 : Int32) + x4)) fun a_4 =>
      q_bd (m_X11_lesser x3 a_4 u) fun r u_5 =>
      Option.bind (q_ald u_5 164 136 ((62 : Int32) + x4)) fun a_6 =>
      Option.bind (q_ast u_5 164 136 ((62 : Int32) + x4) (a_6 - r)) fun u_7 =>
      q_let (x3 - r) fun y3 =>
      J78 y3 u_7
    else
      J78 x3 u
def m_X11_boils (x1 : Int32) (x2 : Int32) (u : qS) : qR :=
  q_it2 (m_X11_boils_L5 x1 x2 (fun x3 u_8 =>
    Option.bind (q_ald u_8 164 136 ((15 : Int32) + x1)) fun a =>
    q_bd (m_X11_held ((a + x2) - x3) (0 : Int32) (999 : Int32) u_8) fun r u_9 =>
    Option.bind (q_ast u_9 164 136 ((15 : Int32) + x1) r) fun u_10 =>
    q_bd (m_X11_notes (3 : Int32) x1 (x2 - x3) u_10) fun _ u_11 =>
    some ((x2 - x3), u_11))) q_F x2 (0 : Int32) u
def m_X11_plant (x1 : Int32) (x2 : Int32) (x3 : Int32) (u : qS) : qR :=
  q_let (q_up u 163 0 (0 : Int32)) fun u_1 =>
  q_bd (m_X11_isParty x1 u_1) fun r u_2 =>
  if r.toInt = 0 then
    some ((-1 : Int32), u_2)
  else
    q_bd (m_X11_isPlace x2 u_2) fun r_3 u_4 =>
    if r_3.toInt = 0 then
      some ((-1 : Int32), u_4)
    else
      q_bd (m_X11_isIn x3 (0 : Int32) (99 : Int32) u_4) fun r_5 u_6 =>
      if r_5.toInt = 0 then
        some ((-1 : Int32), u_6)
      else
        Option.bind (q_ald u_6 164 136 (4 : Int32)) fun a =>
        if a.toInt = (14 : Int32).toInt then
          some ((-1 : Int32), u_6)
        else
          q_bd (m_X11_keepsAhead  u_6) fun _ u_7 =>
          q_bd (m_X11_plants x1 x2 x3 u_7) fun r_8 u_9 =>
          some (r_8, u_9)
def m_X11_fence (x1 : Int32) (x2 : Int32) (u : qS) : qR :=
  q_let (q_up u 163 0 (0 : Int32)) fun u_1 =>
  q_bd (m_X11_isPlace x1 u_1) fun r u_2 =>
  if r.toInt = 0 then
    some ((0 : Int32), u_2)
  else
    q_bd (m_X11_isFenced x1 u_2) fun r_3 u_4 =>
    if r_3.toInt = x2.toInt then
      some ((0 : Int32), u_4)
    else
      q_bd (m_X11_keepsAhead  u_4) fun _ u_5 =>
      q_bd (m_X11_fences x1 x2 u_5) fun _ u_6 =>
      some ((1 : Int32), u_6)
def m_X11_boil (x1 : Int32) (x2 : Int32) (u : qS) : qR :=
  q_let (q_up u 163 0 (0 : Int32)) fun u_1 =>
  q_bd (m_X11_isParty x1 u_1) fun r u_2 =>
  if r.toInt = 0 then
    some ((-1 : Int32), u_2)
  else
    q_bd (m_X11_isIn x2 (1 : Int32) (99 : Int32) u_2) fun r_3 u_4 =>
    if r_3.toInt = 0 then
      some ((-1 : Int32), u_4)
    else
      q_bd (m_X11_keepsAhead  u_4) fun _ u_5 =>
      q_bd (m_X11_boils x1 x2 u_5) fun r_6 u_7 =>
      some (r_6, u_7)
def m_X11_counts (x1 : Int32) (x2 : Int32) (u : qS) : qR :=
  Option.bind (q_ald u 164 136 ((5 : Int32) + x1)) fun a =>
  q_bd (m_X11_held (a + x2) (0 : Int32) (9999 : Int32) u) fun r u_1 =>
  Option.bind (q_ast u_1 164 136 ((5 : Int32) + x1) r) fun u_2 =>
  if x1.toInt = (u_2.1 163 43).toInt then
    Option.bind (q_ald u_2 164 136 ((5 : Int32) + x1)) fun a_3 =>
    q_let (q_up u_2 163 42 (((u_2.1 163 42) + a_3) - a)) fun u_4 =>
    some (0, u_4)
  else
    some (0, u_2)
def m_X11_treeFor_L5 (x1 : Int32) (x2 : Int32) (K110 : Int32 → qS → qR) (self : Int32 → Int32 → qS → qR) (x3 : Int32) (x4 : Int32) (u : qS) : qR :=
  Option.bind (q_ald u 164 136 (4 : Int32)) fun a =>
  if a.toInt ≤ x4.toInt then
    K110 x3 u
  else
    Option.bind (q_ald u 164 136 ((34 : Int32) + x4)) fun a_1 =>
    q_jn (fun (x3_2 : Int32) (u_3 : qS) =>
      self x3_2 (x4 + (1 : Int32)) u_3) fun J104 =>
    if a_1.toInt = x2.toInt then
      Option.bind (q_ald u 164 136 ((62 : Int32) + x4)) fun a_4 =>
      if a_4.toInt = 0 then
        J104 x3 u
      else
        Option.bind (q_ald u 164 136 ((20 : Int32) + x4)) fun a_5 =>
        q_bd (m_X11_tasteOf x1 a_5 u) fun r u_6 =>
        if r.toInt = 0 then
          J104 x3 u_6
        else
          q_jn (fun  (u_7 : qS) =>
            J104 x4 u_7) fun J101 =>
          if x3.toInt = (-1 : Int32).toInt then
            J101  u_6
          else
            Option.bind (q_ald u_6 164 136 ((20 : Int32) + x4)) fun a_8 =>
            q_bd (m_X11_tasteOf x1 a_8 u_6) fun r_9 u_10 =>
            Option.bind (q_ald u_10 164 136 ((20 : Int32) + x3)) fun a_11 =>
            q_bd (m_X11_tasteOf x1 a_11 u_10) fun r_12 u_13 =>
            if r_9.toInt ≤ r_12.toInt then
              J104 x3 u_13
            else
              J101  u_13
    else
      J104 x3 u
def m_X11_treeFor (x1 : Int32) (x2 : Int32) (u : qS) : qR :=
  q_it2 (m_X11_treeFor_L5 x1 x2 (fun x3 u_14 =>
    some (x3, u_14))) q_F (-1 : Int32) (0 : Int32) u
def m_X11_jamFor_L4 (x1 : Int32) (K61 : Int32 → qS → qR) (self : Int32 → Int32 → qS → qR) (x2 : Int32) (x3 : Int32) (u : qS) : qR :=
  if (u.1 163 6).toInt ≤ x3.toInt then
    K61 x2 u
  else
    Option.bind (q_ald u 164 136 ((15 : Int32) + x3)) fun a =>
    q_jn (fun (x2_1 : Int32) (u_2 : qS) =>
      self x2_1 (x3 + (1 : Int32)) u_2) fun J55 =>
    if a.toInt ≤ 0 then
      J55 x2 u
    else
      q_bd (m_X11_tasteOf x1 x3 u) fun r u_3 =>
      if r.toInt ≤ 0 then
        J55 x2 u_3
      else
        q_jn (fun  (u_4 : qS) =>
          J55 x3 u_4) fun J53 =>
        if x2.toInt = (-1 : Int32).toInt then
          J53  u_3
        else
          q_bd (m_X11_tasteOf x1 x3 u_3) fun r_5 u_6 =>
          q_bd (m_X11_tasteOf x1 x2 u_6) fun r_7 u_8 =>
          if r_5.toInt ≤ r_7.toInt then
            J55 x2 u_8
          else
            J53  u_8
def m_X11_jamFor (x1 : Int32) (u : qS) : qR :=
  q_it2 (m_X11_jamFor_L4 x1 (fun x2 u_9 =>
    some (x2, u_9))) q_F (-1 : Int32) (0 : Int32) u
def m_X11_isGood (x1 : Int32) (x2 : Int32) (u : qS) : qR :=
  Option.bind (q_ald u 164 136 ((20 : Int32) + x2)) fun a =>
  q_bd (m_X11_countOf x1 a x2 u) fun r u_1 =>
  q_bd (m_X11_counts a r u_1) fun _ u_2 =>
  Option.bind (q_ald u_2 164 136 ((62 : Int32) + x2)) fun a_3 =>
  Option.bind (q_ast u_2 164 136 ((62 : Int32) + x2) (a_3 - (1 : Int32))) fun u_4 =>
  if (u_4.1 163 5).toInt = 0 then
    if (u_4.1 163 8).toInt = 0 then
      some ((1 : Int32), u_4)
    else
      q_bd (m_X11_draw (1000 : Int32) u_4) fun r_5 u_6 =>
      if r_5.toInt < (u_6.1 163 8).toInt then
        q_bd (m_X11_tasteOf x1 a u_6) fun r_7 u_8 =>
        q_bd (m_X11_tasteBe x1 a (r_7 - (2 : Int32)) u_8) fun _ u_9 =>
        q_bd (m_X11_notes (4 : Int32) x1 a u_9) fun _ u_10 =>
        some ((0 : Int32), u_10)
      else
        some ((1 : Int32), u_6)
  else
    some ((1 : Int32), u_4)
def m_X11_leftByPath_L57 (x1 : Int32) (x4 : Int32) (x5 : Int32) (x6 : Int32) (K81 : qS → qR) (K95 : Int32 → qS → qR) (self : Int32 → Int32 → qS → qR) (x3 : Int32) (x7 : Int32) (u : qS) : qR :=
  if x3.toInt ≤ 0 then
    K95 x3 u
  else
    if x7.toInt = (-1 : Int32).toInt then
      K95 x3 u
    else
      q_let (x3 - (1 : Int32)) fun y3 =>
      q_bd (m_X11_isGood x1 x7 u) fun r u_4 =>
      if r.toInt = 0 then
        K81  u_4
      else
        q_bd (m_X11_treeFor x1 x6 u_4) fun r_5 u_6 =>
        self y3 r_5 u_6
def m_X11_leftByPath_L11 (x1 : Int32) (x4 : Int32) (K81 : qS → qR) (K101 : Int32 → qS → qR) (self : Int32 → Int32 → qS → qR) (x3 : Int32) (x5 : Int32) (u : qS) : qR :=
  Option.bind (q_ald u 178 180 x4) fun a =>
  if a.toInt < x5.toInt then
    K101 x3 u
  else
    Option.bind (q_ald u 178 180 (x4 + x5)) fun a_1 =>
    q_bd (m_X11_isFenced a_1 u) fun r u_2 =>
    q_jn (fun (s0 : Int32) (u_3 : qS) =>
      q_it2 (m_X11_leftByPath_L57 x1 x4 x5 a_1 (fun  u_7 =>
        K81  u_7) (fun x3_8 u_9 =>
        self x3_8 (x5 + (1 : Int32)) u_9)) q_F x3 s0 u_3) fun J55 =>
    if r.toInt = 0 then
      q_bd (m_X11_treeFor x1 a_1 u_2) fun r_10 u_11 =>
      J55 r_10 u_11
    else
      J55 (-1 : Int32) u_2
def m_X11_leftByPath (x1 : Int32) (x2 : Int32) (u : qS) : qR :=
  q_let ((9 : Int32) * x1) fun y4 =>
  q_it2 (m_X11_leftByPath_L11 x1 y4 (fun  u_12 =>
    some ((-1 : Int32), u_12)) (fun x3 u_13 =>
    some (x3, u_13))) q_F x2 (1 : Int32) u
def m_X11_isHungry_L25 (x1 : Int32) (K79 : Int32 → qS → qR) (self : Int32 → Int32 → qS → qR) (x2 : Int32) (x3 : Int32) (u : qS) : qR :=
  if x2.toInt ≤ 0 then
    K79 x2 u
  else
    if x3.toInt = (-1 : Int32).toInt then
      K79 x2 u
    else
      q_bd (m_X11_countOf x1 x3 (-1 : Int32) u) fun r u_5 =>
      q_bd (m_X11_counts x3 r u_5) fun _ u_6 =>
      Option.bind (q_ald u_6 164 136 ((15 : Int32) + x3)) fun a =>
      Option.bind (q_ast u_6 164 136 ((15 : Int32) + x3) (a - (1 : Int32))) fun u_7 =>
      q_let (x2 - (1 : Int32)) fun y2 =>
      q_bd (m_X11_jamFor x1 u_7) fun r_8 u_9 =>
      self y2 r_8 u_9
def m_X11_isHungry (x1 : Int32) (u : qS) : qR :=
  q_bd (m_X11_wantOf x1 u) fun r u_1 =>
  q_bd (m_X11_leftByPath x1 r u_1) fun r_2 u_3 =>
  q_jn (fun (s0 : Int32) (u_4 : qS) =>
    q_it2 (m_X11_isHungry_L25 x1 (fun x2 u_10 =>
      if 0 < x2.toInt then
        q_bd (m_X11_notes (5 : Int32) x1 x2 u_10) fun _ u_11 =>
        some ((1 : Int32), u_11)
      else
        some ((0 : Int32), u_10))) q_F r_2 s0 u_4) fun J24 =>
  if r_2.toInt ≤ 0 then
    J24 (-1 : Int32) u_3
  else
    q_bd (m_X11_jamFor x1 u_3) fun r_12 u_13 =>
    J24 r_12 u_13
def m_X11_votesInAll_L4 (K29 : Int32 → qS → qR) (self : Int32 → Int32 → qS → qR) (x1 : Int32) (x2 : Int32) (u : qS) : qR :=
  if (u.1 163 6).toInt ≤ x2.toInt then
    K29 x1 u
  else
    Option.bind (q_ald u 164 136 ((5 : Int32) + x2)) fun a =>
    q_let (x1 + a) fun y1 =>
    self y1 (x2 + (1 : Int32)) u
def m_X11_votesInAll  (u : qS) : qR :=
  q_it2 (m_X11_votesInAll_L4 (fun x1 u_1 =>
    some (x1, u_1))) q_F (0 : Int32) (0 : Int32) u
def m_X11_isAhead (x1 : Int32) (x2 : Int32) (u : qS) : qR :=
  Option.bind (q_ald u 183 5 x1) fun a =>
  Option.bind (q_ald u 183 5 x2) fun a_1 =>
  q_jn (fun  (u_2 : qS) =>
    some ((1 : Int32), u_2)) fun J45 =>
  if a_1.toInt < a.toInt then
    J45  u
  else
    Option.bind (q_ald u 183 5 x1) fun a_3 =>
    Option.bind (q_ald u 183 5 x2) fun a_4 =>
    if a_3.toInt = a_4.toInt then
      Option.bind (q_ald u 182 5 x1) fun a_5 =>
      Option.bind (q_ald u 182 5 x2) fun a_6 =>
      if a_5.toInt ≤ a_6.toInt then
        some ((0 : Int32), u)
      else
        J45  u
    else
      some ((0 : Int32), u)
def m_X11_findsGiven_L12 (x1 : Int32) (K101 : Int32 → qS → qR) (self : Int32 → Int32 → qS → qR) (x2 : Int32) (x3 : Int32) (u : qS) : qR :=
  if (u.1 163 6).toInt ≤ x3.toInt then
    K101 x2 u
  else
    q_jn (fun (s0 : Int32) (u_4 : qS) =>
      Option.bind (q_ast u_4 182 5 x3 s0) fun u_5 =>
      q_jn (fun (s0_6 : Int32) (u_7 : qS) =>
        Option.bind (q_ast u_7 183 5 x3 s0_6) fun u_8 =>
        Option.bind (q_ald u_8 182 5 x3) fun a =>
        q_let (x2 - a) fun y2 =>
        self y2 (x3 + (1 : Int32)) u_8) fun J85 =>
      if x1.toInt = 0 then
        J85 (0 : Int32) u_5
      else
        Option.bind (q_ald u_5 164 136 ((5 : Int32) + x3)) fun a_9 =>
        q_bd (m_X11_chairs  u_5) fun r u_10 =>
        Option.bind (q_rem (a_9 * r) x1) fun a_11 =>
        J85 a_11 u_10) fun J56 =>
    if x1.toInt = 0 then
      Option.bind (q_ald u 164 136 ((10 : Int32) + x3)) fun a_16 =>
      J56 a_16 u
    else
      Option.bind (q_ald u 164 136 ((5 : Int32) + x3)) fun a_12 =>
      q_bd (m_X11_chairs  u) fun r_13 u_14 =>
      Option.bind (q_div (a_12 * r_13) x1) fun a_15 =>
      J56 a_15 u_14
def m_X11_findsGiven_L122 (x1 : Int32) (x2 : Int32) (x3 : Int32) (x4 : Int32) (K168 : Int32 → qS → qR) (self : Int32 → Int32 → qS → qR) (x5 : Int32) (x6 : Int32) (u : qS) : qR :=
  if (u.1 163 6).toInt ≤ x6.toInt then
    K168 x5 u
  else
    q_bd (m_X11_has x3 x6 u) fun r u_18 =>
    q_jn (fun (x5_19 : Int32) (u_20 : qS) =>
      self x5_19 (x6 + (1 : Int32)) u_20) fun J162 =>
    if r.toInt = 0 then
      q_jn (fun  (u_21 : qS) =>
        J162 x6 u_21) fun J158 =>
      if x5.toInt = (-1 : Int32).toInt then
        J158  u_18
      else
        q_bd (m_X11_isAhead x6 x5 u_18) fun r_22 u_23 =>
        if r_22.toInt = 0 then
          J162 x5 u_23
        else
          J158  u_23
    else
      J162 x5 u_18
def m_X11_findsGiven_L106 (x1 : Int32) (x2 : Int32) (K187 : Int32 → qS → qR) (self : Int32 → Int32 → qS → qR) (x3 : Int32) (x4 : Int32) (u : qS) : qR :=
  if x2.toInt ≤ x4.toInt then
    K187 x3 u
  else
    if x1.toInt ≤ 0 then
      K187 x3 u
    else
      q_it2 (m_X11_findsGiven_L122 x1 x2 x3 x4 (fun x5 u_24 =>
        q_jn (fun (x3_25 : Int32) (u_26 : qS) =>
          self x3_25 (x4 + (1 : Int32)) u_26) fun J181 =>
        if x5.toInt = (-1 : Int32).toInt then
          J181 x3 u_24
        else
          q_let (x3 ||| ((1 : Int32) <<< (x5 &&& 31))) fun y3 =>
          J181 y3 u_24)) q_F (-1 : Int32) (0 : Int32) u
def m_X11_findsGiven_L190 (x3 : Int32) (K231 : qS → qR) (self : Int32 → qS → qR) (x4 : Int32) (u : qS) : qR :=
  if (u.1 163 6).toInt ≤ x4.toInt then
    K231  u
  else
    q_bd (m_X11_has x3 x4 u) fun r u_28 =>
    q_jn (fun  (u_29 : qS) =>
      self (x4 + (1 : Int32)) u_29) fun J225 =>
    if r.toInt = 0 then
      J225  u_28
    else
      Option.bind (q_ald u_28 182 5 x4) fun a =>
      Option.bind (q_ast u_28 182 5 x4 (a + (1 : Int32))) fun u_30 =>
      J225  u_30
def m_X11_findsGiven  (u : qS) : qR :=
  q_bd (m_X11_votesInAll  u) fun r u_1 =>
  q_bd (m_X11_chairs  u_1) fun r_2 u_3 =>
  q_it2 (m_X11_findsGiven_L12 r (fun x2 u_17 =>
    q_it2 (m_X11_findsGiven_L106 r x2 (fun x3 u_27 =>
      q_it1 (m_X11_findsGiven_L190 x3 (fun  u_31 =>
        some (0, u_31))) q_F (0 : Int32) u_27)) q_F (0 : Int32) (0 : Int32) u_17)) q_F r_2 (0 : Int32) u_3
def m_X11_strongest_L15 (K52 : Int32 → qS → qR) (self : Int32 → Int32 → qS → qR) (x1 : Int32) (x2 : Int32) (u : qS) : qR :=
  if (u.1 163 6).toInt ≤ x2.toInt then
    K52 x1 u
  else
    Option.bind (q_ald u 164 136 ((10 : Int32) + x2)) fun a =>
    Option.bind (q_ald u 164 136 ((10 : Int32) + x1)) fun a_2 =>
    q_jn (fun (x1_3 : Int32) (u_4 : qS) =>
      self x1_3 (x2 + (1 : Int32)) u_4) fun J46 =>
    if a.toInt ≤ a_2.toInt then
      J46 x1 u
    else
      J46 x2 u
def m_X11_strongest  (u : qS) : qR :=
  q_jn (fun (s0 : Int32) (u_1 : qS) =>
    q_it2 (m_X11_strongest_L15 (fun x1 u_5 =>
      some (x1, u_5))) q_F s0 (1 : Int32) u_1) fun J12 =>
  if (u.1 163 6).toInt ≤ 0 then
    J12 (-1 : Int32) u
  else
    J12 (0 : Int32) u
def m_X11_elects_L6 (K44 : qS → qR) (self : Int32 → qS → qR) (x1 : Int32) (u : qS) : qR :=
  if (u.1 163 6).toInt ≤ x1.toInt then
    K44  u
  else
    Option.bind (q_ald u 182 5 x1) fun a =>
    Option.bind (q_ast u 164 136 ((10 : Int32) + x1) a) fun u_2 =>
    Option.bind (q_ast u_2 164 136 ((5 : Int32) + x1) (0 : Int32)) fun u_3 =>
    self (x1 + (1 : Int32)) u_3
def m_X11_elects  (u : qS) : qR :=
  q_bd (m_X11_findsGiven  u) fun _ u_1 =>
  q_it1 (m_X11_elects_L6 (fun  u_4 =>
    q_bd (m_X11_strongest  u_4) fun r u_5 =>
    q_jn (fun (s0 : Int32) (u_6 : qS) =>
      q_bd (m_X11_notes (7 : Int32) r s0 u_6) fun _ u_7 =>
      some (0, u_7)) fun J71 =>
    if r.toInt = (-1 : Int32).toInt then
      J71 (0 : Int32) u_5
    else
      Option.bind (q_ald u_5 164 136 ((10 : Int32) + r)) fun a =>
      J71 a u_5)) q_F (0 : Int32) u_1
def m_X11_does (x1 : Int32) (u : qS) : qR :=
  Option.bind (q_ald u 179 128 (x1 + (2 : Int32))) fun a =>
  Option.bind (q_ald u 179 128 (x1 + (1 : Int32))) fun a_1 =>
  q_jn (fun  (u_2 : qS) =>
    Option.bind (q_ald u_2 179 128 (x1 + (1 : Int32))) fun a_3 =>
    q_jn (fun  (u_4 : qS) =>
      Option.bind (q_ald u_4 179 128 (x1 + (1 : Int32))) fun a_5 =>
      q_jn (fun  (u_6 : qS) =>
        Option.bind (q_ald u_6 179 128 (x1 + (1 : Int32))) fun a_7 =>
        q_jn (fun  (u_8 : qS) =>
          Option.bind (q_ald u_8 179 128 (x1 + (1 : Int32))) fun a_9 =>
          if a_9.toInt = (4 : Int32).toInt then
            Option.bind (q_ald u_8 164 136 ((76 : Int32) + a)) fun a_10 =>
            q_bd (m_X11_held ((2 : Int32) * a_10) (0 : Int32) (20 : Int32) u_8) fun r u_11 =>
            Option.bind (q_ast u_11 164 136 ((76 : Int32) + a) r) fun u_12 =>
            some (0, u_12)
          else
            some (0, u_8)) fun J124 =>
        if a_7.toInt = (3 : Int32).toInt then
          Option.bind (q_ald u_6 179 128 (x1 + (3 : Int32))) fun a_13 =>
          q_bd (m_X11_boils a a_13 u_6) fun r_14 u_15 =>
          J124  u_15
        else
          J124  u_6) fun J98 =>
      if a_5.toInt = (2 : Int32).toInt then
        q_bd (m_X11_isFenced a u_4) fun r_16 u_17 =>
        if r_16.toInt = 0 then
          J98  u_17
        else
          q_bd (m_X11_fences a (0 : Int32) u_17) fun _ u_18 =>
          J98  u_18
      else
        J98  u_4) fun J72 =>
    if a_3.toInt = (1 : Int32).toInt then
      q_bd (m_X11_isFenced a u_2) fun r_19 u_20 =>
      if r_19.toInt = 0 then
        q_bd (m_X11_fences a (1 : Int32) u_20) fun _ u_21 =>
        J72  u_21
      else
        J72  u_20
    else
      J72  u_2) fun J46 =>
  if a_1.toInt = 0 then
    Option.bind (q_ald u 164 136 (4 : Int32)) fun a_22 =>
    if (14 : Int32).toInt ≤ a_22.toInt then
      J46  u
    else
      Option.bind (q_ald u 179 128 (x1 + (3 : Int32))) fun a_23 =>
      q_bd (m_X11_plants a a_23 (0 : Int32) u) fun r_24 u_25 =>
      J46  u_25
  else
    J46  u
def m_X11_stings_L17 (K105 : qS → qR) (self : Int32 → qS → qR) (x1 : Int32) (u : qS) : qR :=
  Option.bind (q_ald u 164 136 (4 : Int32)) fun a =>
  if a.toInt ≤ x1.toInt then
    K105  u
  else
    Option.bind (q_ald u 164 136 ((62 : Int32) + x1)) fun a_1 =>
    q_jn (fun  (u_2 : qS) =>
      self (x1 + (1 : Int32)) u_2) fun J99 =>
    if a_1.toInt < (10 : Int32).toInt then
      J99  u
    else
      q_bd (m_X11_draw (1000 : Int32) u) fun r u_3 =>
      if r.toInt < (u_3.1 163 9).toInt then
        Option.bind (q_ald u_3 164 136 ((62 : Int32) + x1)) fun a_4 =>
        q_let (a_4 / (10 : Int32)) fun y2 =>
        Option.bind (q_ald u_3 164 136 ((62 : Int32) + x1)) fun a_5 =>
        Option.bind (q_ast u_3 164 136 ((62 : Int32) + x1) (a_5 - y2)) fun u_6 =>
        q_bd (m_X11_notes (6 : Int32) x1 y2 u_6) fun _ u_7 =>
        J99  u_7
      else
        J99  u_3
def m_X11_stings  (u : qS) : qR :=
  if (u.1 163 5).toInt = 0 then
    if (u.1 163 9).toInt = 0 then
      some (0, u)
    else
      q_it1 (m_X11_stings_L17 (fun  u_8 =>
        some (0, u_8))) q_F (0 : Int32) u
  else
    some (0, u)
def m_X11_eats_L4 (K59 : Int32 → qS → qR) (self : Int32 → Int32 → qS → qR) (x1 : Int32) (x2 : Int32) (u : qS) : qR :=
  if (u.1 163 7).toInt ≤ x2.toInt then
    K59 x1 u
  else
    q_bd (m_X11_isHungry x2 u) fun r u_1 =>
    q_jn (fun (x1_2 : Int32) (u_3 : qS) =>
      self x1_2 (x2 + (1 : Int32)) u_3) fun J53 =>
    if r.toInt = 0 then
      J53 x1 u_1
    else
      q_let (x1 + (1 : Int32)) fun y1 =>
      if (u_1.1 163 44).toInt = (-1 : Int32).toInt then
        q_let (q_up u_1 163 44 x2) fun u_4 =>
        Option.bind (q_ald u_4 164 136 (0 : Int32)) fun a =>
        q_let (q_up u_4 163 45 a) fun u_5 =>
        J53 y1 u_5
      else
        J53 y1 u_1
def m_X11_eats  (u : qS) : qR :=
  q_it2 (m_X11_eats_L4 (fun x1 u_6 =>
    some (x1, u_6))) q_F (0 : Int32) (0 : Int32) u
def m_X11_goesBy_L2 (K40 : qS → qR) (self : Int32 → qS → qR) (x1 : Int32) (u : qS) : qR :=
  if (u.1 163 38).toInt ≤ x1.toInt then
    K40  u
  else
    Option.bind (q_ald u 179 128 ((4 : Int32) * x1)) fun a =>
    Option.bind (q_ald u 164 136 (0 : Int32)) fun a_1 =>
    q_jn (fun  (u_2 : qS) =>
      self (x1 + (1 : Int32)) u_2) fun J34 =>
    if a.toInt = a_1.toInt then
      q_bd (m_X11_does ((4 : Int32) * x1) u) fun _ u_3 =>
      J34  u_3
    else
      J34  u
def m_X11_goesBy_L42 (K89 : qS → qR) (self : Int32 → qS → qR) (x1 : Int32) (u : qS) : qR :=
  Option.bind (q_ald u 164 136 (4 : Int32)) fun a =>
  if a.toInt ≤ x1.toInt then
    K89  u
  else
    Option.bind (q_ald u 164 136 ((62 : Int32) + x1)) fun a_5 =>
    q_bd (m_X11_bearOf x1 u) fun r u_6 =>
    q_bd (m_X11_held (a_5 + r) (0 : Int32) (99 : Int32) u_6) fun r_7 u_8 =>
    Option.bind (q_ast u_8 164 136 ((62 : Int32) + x1) r_7) fun u_9 =>
    self (x1 + (1 : Int32)) u_9
def m_X11_goesBy_L134 (x1 : Int32) (K189 : qS → qR) (self : Int32 → qS → qR) (x2 : Int32) (u : qS) : qR :=
  Option.bind (q_ald u 164 136 (4 : Int32)) fun a =>
  if a.toInt ≤ x2.toInt then
    K189  u
  else
    Option.bind (q_ald u 164 136 (0 : Int32)) fun a_19 =>
    if (q_rm a_19 (52 : Int32)).toInt = 0 then
      Option.bind (q_ald u 164 136 ((48 : Int32) + x2)) fun a_20 =>
      q_bd (m_X11_held (a_20 + (1 : Int32)) (0 : Int32) (99 : Int32) u) fun r u_21 =>
      Option.bind (q_ast u_21 164 136 ((48 : Int32) + x2) r) fun u_22 =>
      self (x2 + (1 : Int32)) u_22
    else
      K189  u
def m_X11_goesBy  (u : qS) : qR :=
  q_it1 (m_X11_goesBy_L2 (fun  u_4 =>
    q_it1 (m_X11_goesBy_L42 (fun  u_10 =>
      q_bd (m_X11_eats  u_10) fun r u_11 =>
      q_bd (m_X11_stings  u_11) fun _ u_12 =>
      Option.bind (q_ald u_12 164 136 (0 : Int32)) fun a =>
      q_bd (m_X11_every  u_12) fun r_13 u_14 =>
      Option.bind (q_rem (a + (1 : Int32)) r_13) fun a_15 =>
      q_jn (fun  (u_16 : qS) =>
        Option.bind (q_ald u_16 164 136 (0 : Int32)) fun a_17 =>
        Option.bind (q_ast u_16 164 136 (0 : Int32) (a_17 + (1 : Int32))) fun u_18 =>
        q_it1 (m_X11_goesBy_L134 r (fun  u_23 =>
          some (r, u_23))) q_F (0 : Int32) u_18) fun J118 =>
      if a_15.toInt = 0 then
        q_bd (m_X11_elects  u_14) fun _ u_24 =>
        J118  u_24
      else
        J118  u_14)) q_F (0 : Int32) u_4)) q_F (0 : Int32) u
def m_X11_goesFor_L2 (x1 : Int32) (K18 : qS → qR) (self : Int32 → qS → qR) (x2 : Int32) (u : qS) : qR :=
  if x1.toInt ≤ x2.toInt then
    K18  u
  else
    q_bd (m_X11_goesBy  u) fun r u_1 =>
    self (x2 + (1 : Int32)) u_1
def m_X11_goesFor (x1 : Int32) (u : qS) : qR :=
  q_it1 (m_X11_goesFor_L2 x1 (fun  u_2 =>
    some (0, u_2))) q_F (0 : Int32) u
def m_X11_weeks_L36 (x1 : Int32) (K58 : Int32 → qS → qR) (self : Int32 → Int32 → qS → qR) (x2 : Int32) (x3 : Int32) (u : qS) : qR :=
  if x1.toInt ≤ x3.toInt then
    K58 x2 u
  else
    q_bd (m_X11_keepsAhead  u) fun _ u_3 =>
    q_bd (m_X11_goesBy  u_3) fun r u_4 =>
    q_let (x2 + r) fun y2 =>
    self y2 (x3 + (1 : Int32)) u_4
def m_X11_weeks (x1 : Int32) (u : qS) : qR :=
  q_let (q_up u 163 0 (0 : Int32)) fun u_1 =>
  q_bd (m_X11_isIn x1 (1 : Int32) (60 : Int32) u_1) fun r u_2 =>
  if r.toInt = 0 then
    some ((-1 : Int32), u_2)
  else
    Option.bind (q_ald u_2 164 136 (0 : Int32)) fun a =>
    if (a + x1).toInt ≤ (9999 : Int32).toInt then
      q_it2 (m_X11_weeks_L36 x1 (fun x2 u_5 =>
        some (x2, u_5))) q_F (0 : Int32) (0 : Int32) u_2
    else
      some ((-1 : Int32), u_2)
def m_X11_of_L63 (x1 : Int32) (K107 : Int32 → qS → qR) (self : Int32 → Int32 → qS → qR) (x3 : Int32) (x4 : Int32) (u : qS) : qR :=
  Option.bind (q_ald u 164 136 (4 : Int32)) fun a =>
  if a.toInt ≤ x4.toInt then
    K107 x3 u
  else
    Option.bind (q_ald u 164 136 ((20 : Int32) + x4)) fun a_5 =>
    q_jn (fun (x3_6 : Int32) (u_7 : qS) =>
      self x3_6 (x4 + (1 : Int32)) u_7) fun J101 =>
    if a_5.toInt = x1.toInt then
      Option.bind (q_ald u 164 136 ((62 : Int32) + x4)) fun a_8 =>
      q_let (x3 + a_8) fun y3 =>
      J101 y3 u
    else
      J101 x3 u
def m_X11_of (x1 : Int32) (x2 : Int32) (u : qS) : qR :=
  q_let (q_up u 163 0 (0 : Int32)) fun u_1 =>
  q_bd (m_X11_isParty x1 u_1) fun r u_2 =>
  if r.toInt = 0 then
    some ((-1 : Int32), u_2)
  else
    q_bd (m_X11_isIn x2 (0 : Int32) (3 : Int32) u_2) fun r_3 u_4 =>
    if r_3.toInt = 0 then
      some ((-1 : Int32), u_4)
    else
      if (3 : Int32).toInt ≤ x2.toInt then
        q_it2 (m_X11_of_L63 x1 (fun x3 u_9 =>
          some (x3, u_9))) q_F (0 : Int32) (0 : Int32) u_4
      else
        q_jn (fun (s0 : Int32) (u_10 : qS) =>
          Option.bind (q_ald u_10 164 136 (x1 + s0)) fun a =>
          some (a, u_10)) fun J55 =>
        if x2.toInt = 0 then
          J55 (15 : Int32) u_4
        else
          if x2.toInt = (1 : Int32).toInt then
            J55 (5 : Int32) u_4
          else
            J55 (10 : Int32) u_4
def m_X11_tree (x1 : Int32) (x2 : Int32) (u : qS) : qR :=
  q_let (q_up u 163 0 (0 : Int32)) fun u_1 =>
  q_bd (m_X11_isTree x1 u_1) fun r u_2 =>
  if r.toInt = 0 then
    some ((-1 : Int32), u_2)
  else
    q_bd (m_X11_isIn x2 (0 : Int32) (4 : Int32) u_2) fun r_3 u_4 =>
    if r_3.toInt = 0 then
      some ((-1 : Int32), u_4)
    else
      if x2.toInt = (4 : Int32).toInt then
        q_bd (m_X11_bearOf x1 u_4) fun r_5 u_6 =>
        some (r_5, u_6)
      else
        Option.bind (q_ald u_4 164 136 (((20 : Int32) + ((14 : Int32) * x2)) + x1)) fun a =>
        some (a, u_4)
def m_X11_who (x1 : Int32) (x2 : Int32) (u : qS) : qR :=
  q_let (q_up u 163 0 (0 : Int32)) fun u_1 =>
  q_bd (m_X11_isEater x1 u_1) fun r u_2 =>
  if r.toInt = 0 then
    some ((-1 : Int32), u_2)
  else
    Option.bind (q_ald u_2 178 180 ((9 : Int32) * x1)) fun a =>
    if x2.toInt = 0 then
      Option.bind (q_ald u_2 164 136 ((76 : Int32) + x1)) fun a_12 =>
      some (a_12, u_2)
    else
      if x2.toInt = (1 : Int32).toInt then
        q_bd (m_X11_wantOf x1 u_2) fun r_10 u_11 =>
        some (r_10, u_11)
      else
        if x2.toInt = (2 : Int32).toInt then
          some (a, u_2)
        else
          q_bd (m_X11_isIn x2 (10 : Int32) ((9 : Int32) + a) u_2) fun r_3 u_4 =>
          if r_3.toInt = 0 then
            q_bd (m_X11_isIn x2 (20 : Int32) ((19 : Int32) + (u_4.1 163 6)) u_4) fun r_5 u_6 =>
            if r_5.toInt = 0 then
              some ((-1 : Int32), u_6)
            else
              q_bd (m_X11_tasteOf x1 (x2 - (20 : Int32)) u_6) fun r_7 u_8 =>
              some (r_7, u_8)
          else
            Option.bind (q_ald u_4 178 180 ((((9 : Int32) * x1) + x2) - (9 : Int32))) fun a_9 =>
            some (a_9, u_4)
def m_X11_at (x1 : Int32) (u : qS) : qR :=
  q_let (q_up u 163 0 (0 : Int32)) fun u_1 =>
  q_bd (m_X11_isPlace x1 u_1) fun r u_2 =>
  if r.toInt = 0 then
    some ((-1 : Int32), u_2)
  else
    q_bd (m_X11_isFenced x1 u_2) fun r_3 u_4 =>
    if r_3.toInt = 0 then
      some ((0 : Int32), u_4)
    else
      some ((1 : Int32), u_4)
def m_X11_book (x1 : Int32) (x2 : Int32) (u : qS) : qR :=
  q_let (q_up u 163 0 (0 : Int32)) fun u_1 =>
  Option.bind (q_ald u_1 164 136 (2 : Int32)) fun a =>
  q_bd (m_X11_isIn x1 (0 : Int32) (a - (1 : Int32)) u_1) fun r u_2 =>
  if r.toInt = 0 then
    some ((-1 : Int32), u_2)
  else
    q_bd (m_X11_isIn x2 (0 : Int32) (3 : Int32) u_2) fun r_3 u_4 =>
    if r_3.toInt = 0 then
      some ((-1 : Int32), u_4)
    else
      Option.bind (q_ald u_4 167 600 (((4 : Int32) * x1) + x2)) fun a_5 =>
      some (a_5, u_4)
def m_X11_goes (x1 : Int32) (x2 : Int32) (x3 : Int32) (u : qS) : qR :=
  q_let (q_up u 163 0 (0 : Int32)) fun u_1 =>
  q_bd (m_X11_isIn x1 (1 : Int32) (60 : Int32) u_1) fun r u_2 =>
  if r.toInt = 0 then
    some ((-2 : Int32), u_2)
  else
    q_bd (m_X11_isIn x3 (0 : Int32) (3 : Int32) u_2) fun r_3 u_4 =>
    if r_3.toInt = 0 then
      some ((-2 : Int32), u_4)
    else
      q_jn (fun  (u_5 : qS) =>
        q_bd (m_X11_thinks  u_5) fun _ u_6 =>
        q_bd (m_X11_goesFor x1 u_6) fun _ u_7 =>
        q_jn (fun (s0 : Int32) (u_8 : qS) =>
          q_bd (m_X11_endsThought  u_8) fun _ u_9 =>
          some (s0, u_9)) fun J99 =>
        if x3.toInt = 0 then
          Option.bind (q_ald u_7 164 136 ((10 : Int32) + x2)) fun a_10 =>
          J99 a_10 u_7
        else
          if x3.toInt = (1 : Int32).toInt then
            Option.bind (q_ald u_7 164 136 ((5 : Int32) + x2)) fun a =>
            J99 a u_7
          else
            if x3.toInt = (2 : Int32).toInt then
              J99 (u_7.1 163 44) u_7
            else
              J99 (u_7.1 163 45) u_7) fun J42 =>
      if (2 : Int32).toInt ≤ x3.toInt then
        J42  u_4
      else
        q_bd (m_X11_isParty x2 u_4) fun r_11 u_12 =>
        if r_11.toInt = 0 then
          some ((-2 : Int32), u_12)
        else
          J42  u_12
def m_X11_falls (x1 : Int32) (u : qS) : qR :=
  q_let (q_up u 163 0 (0 : Int32)) fun u_1 =>
  q_bd (m_X11_isParty x1 u_1) fun r u_2 =>
  if r.toInt = 0 then
    some ((-1 : Int32), u_2)
  else
    q_bd (m_X11_findsGiven  u_2) fun _ u_3 =>
    Option.bind (q_ald u_3 182 5 x1) fun a =>
    some (a, u_3)
def m_X11_brings_L65 (x1 : Int32) (x2 : Int32) (x3 : Int32) (K132 : Int32 → Int32 → qS → qR) (self : Int32 → Int32 → Int32 → qS → qR) (x4 : Int32) (x5 : Int32) (x6 : Int32) (u : qS) : qR :=
  if (10 : Int32).toInt ≤ x6.toInt then
    K132 x4 x5 u
  else
    q_bd (m_X11_thinksAnew  u) fun _ u_9 =>
    q_let (q_up u_9 163 42 (0 : Int32)) fun u_10 =>
    q_bd (m_X11_plants x1 x6 (10 : Int32) u_10) fun r u_11 =>
    q_bd (m_X11_goesFor x2 u_11) fun _ u_12 =>
    q_jn (fun (s0 : Int32) (u_13 : qS) =>
      q_bd (m_X11_greater x5 (u_13.1 163 42) u_13) fun r_14 u_15 =>
      self s0 r_14 (x6 + (1 : Int32)) u_15) fun J112 =>
    if (u_12.1 163 42).toInt ≤ x5.toInt then
      J112 x4 u_12
    else
      J112 x6 u_12
def m_X11_brings (x1 : Int32) (x2 : Int32) (x3 : Int32) (u : qS) : qR :=
  q_let (q_up u 163 0 (0 : Int32)) fun u_1 =>
  q_bd (m_X11_isParty x1 u_1) fun r u_2 =>
  if r.toInt = 0 then
    some ((-1 : Int32), u_2)
  else
    q_bd (m_X11_isIn x2 (1 : Int32) (20 : Int32) u_2) fun r_3 u_4 =>
    if r_3.toInt = 0 then
      some ((-1 : Int32), u_4)
    else
      q_bd (m_X11_isIn x3 (0 : Int32) (1 : Int32) u_4) fun r_5 u_6 =>
      if r_5.toInt = 0 then
        some ((-1 : Int32), u_6)
      else
        Option.bind (q_ald u_6 164 136 (4 : Int32)) fun a =>
        if a.toInt = (14 : Int32).toInt then
          some ((-1 : Int32), u_6)
        else
          q_bd (m_X11_thinks  u_6) fun _ u_7 =>
          q_let (q_up u_7 163 43 x1) fun u_8 =>
          q_it3 (m_X11_brings_L65 x1 x2 x3 (fun x4 x5 u_16 =>
            q_bd (m_X11_endsThought  u_16) fun _ u_17 =>
            if x3.toInt = 0 then
              some (x4, u_17)
            else
              some (x5, u_17))) q_F (-1 : Int32) (-1 : Int32) (0 : Int32) u_8
def m_X11_strongestBehind (x1 : Int32) (x2 : Int32) (x3 : Int32) (u : qS) : qR :=
  q_bd (m_X11_thinksAnew  u) fun _ u_1 =>
  Option.bind (q_ald u_1 164 136 ((62 : Int32) + x1)) fun a =>
  Option.bind (q_ast u_1 164 136 ((62 : Int32) + x1) (a - x2)) fun u_2 =>
  q_bd (m_X11_goesFor x3 u_2) fun _ u_3 =>
  q_bd (m_X11_strongest  u_3) fun r u_4 =>
  some (r, u_4)
def m_X11_swings_L55 (x1 : Int32) (x2 : Int32) (x3 : Int32) (x5 : Int32) (K90 : Int32 → qS → qR) (self : Int32 → Int32 → qS → qR) (x4 : Int32) (x6 : Int32) (u : qS) : qR :=
  if x3.toInt < x6.toInt then
    K90 x4 u
  else
    if x4.toInt = (-1 : Int32).toInt then
      q_bd (m_X11_strongestBehind x1 x6 x2 u) fun r u_8 =>
      q_jn (fun (x4_9 : Int32) (u_10 : qS) =>
        self x4_9 (x6 + (1 : Int32)) u_10) fun J84 =>
      if r.toInt = x5.toInt then
        J84 x4 u_8
      else
        J84 x6 u_8
    else
      K90 x4 u
def m_X11_swings (x1 : Int32) (x2 : Int32) (u : qS) : qR :=
  q_let (q_up u 163 0 (0 : Int32)) fun u_1 =>
  q_bd (m_X11_isTree x1 u_1) fun r u_2 =>
  if r.toInt = 0 then
    some ((-1 : Int32), u_2)
  else
    q_bd (m_X11_isIn x2 (1 : Int32) (20 : Int32) u_2) fun r_3 u_4 =>
    if r_3.toInt = 0 then
      some ((-1 : Int32), u_4)
    else
      Option.bind (q_ald u_4 164 136 ((62 : Int32) + x1)) fun a =>
      q_bd (m_X11_thinks  u_4) fun _ u_5 =>
      q_bd (m_X11_strongestBehind x1 (0 : Int32) x2 u_5) fun r_6 u_7 =>
      q_it2 (m_X11_swings_L55 x1 x2 a r_6 (fun x4 u_11 =>
        q_bd (m_X11_endsThought  u_11) fun _ u_12 =>
        some (x4, u_12))) q_F (-1 : Int32) (1 : Int32) u_7
def m_X11_placesOf_L4 (x1 : Int32) (K39 : Int32 → qS → qR) (self : Int32 → Int32 → qS → qR) (x2 : Int32) (x3 : Int32) (u : qS) : qR :=
  Option.bind (q_ald u 178 180 ((9 : Int32) * x1)) fun a =>
  if a.toInt < x3.toInt then
    K39 x2 u
  else
    Option.bind (q_ald u 178 180 (((9 : Int32) * x1) + x3)) fun a_1 =>
    q_let (x2 ||| ((1 : Int32) <<< (a_1 &&& 31))) fun y2 =>
    self y2 (x3 + (1 : Int32)) u
def m_X11_placesOf (x1 : Int32) (u : qS) : qR :=
  q_it2 (m_X11_placesOf_L4 x1 (fun x2 u_2 =>
    some (x2, u_2))) q_F (0 : Int32) (1 : Int32) u
def m_X11_feedsAll_L2 (x1 : Int32) (K28 : qS → qR) (K36 : qS → qR) (self : Int32 → qS → qR) (x2 : Int32) (u : qS) : qR :=
  if (u.1 163 7).toInt ≤ x2.toInt then
    K36  u
  else
    q_bd (m_X11_placesOf x2 u) fun r u_1 =>
    q_jn (fun  (u_2 : qS) =>
      self (x2 + (1 : Int32)) u_2) fun J30 =>
    if r.toInt = 0 then
      J30  u_1
    else
      q_bd (m_X11_placesOf x2 u_1) fun r_3 u_4 =>
      if (r_3 &&& x1).toInt = 0 then
        K28  u_4
      else
        J30  u_4
def m_X11_feedsAll (x1 : Int32) (u : qS) : qR :=
  q_it1 (m_X11_feedsAll_L2 x1 (fun  u_5 =>
    some ((0 : Int32), u_5)) (fun  u_6 =>
    some ((1 : Int32), u_6))) q_F (0 : Int32) u
def m_X11_feeds_L21 (x1 : Int32) (K62 : Int32 → qS → qR) (self : Int32 → Int32 → qS → qR) (x2 : Int32) (x3 : Int32) (u : qS) : qR :=
  if (1024 : Int32).toInt ≤ x3.toInt then
    K62 x2 u
  else
    q_jn (fun (x2_3 : Int32) (u_4 : qS) =>
      self x2_3 (x3 + (1 : Int32)) u_4) fun J56 =>
    q_jn (fun  (u_5 : qS) =>
      q_bd (m_X11_feedsAll x3 u_5) fun r u_6 =>
      if r.toInt = 0 then
        J56 x2 u_6
      else
        J56 x3 u_6) fun J46 =>
    if x2.toInt = (-1 : Int32).toInt then
      J46  u
    else
      q_bd (m_X11_onesOf x3 u) fun r_7 u_8 =>
      q_bd (m_X11_onesOf x2 u_8) fun r_9 u_10 =>
      if r_9.toInt ≤ r_7.toInt then
        J56 x2 u_10
      else
        J46  u_10
def m_X11_feeds (x1 : Int32) (u : qS) : qR :=
  q_let (q_up u 163 0 (0 : Int32)) fun u_1 =>
  q_bd (m_X11_isIn x1 (0 : Int32) (1 : Int32) u_1) fun r u_2 =>
  if r.toInt = 0 then
    some ((-1 : Int32), u_2)
  else
    q_it2 (m_X11_feeds_L21 x1 (fun x2 u_11 =>
      if x1.toInt = 0 then
        q_bd (m_X11_onesOf x2 u_11) fun r_12 u_13 =>
        some (r_12, u_13)
      else
        some (x2, u_11))) q_F (-1 : Int32) (0 : Int32) u_2
def m_X11_core (x1 : Int32) (x2 : Int32) (u : qS) : qR :=
  q_let (q_up u 163 0 (0 : Int32)) fun u_1 =>
  if x1.toInt = (-1 : Int32).toInt then
    q_let (q_up u_1 163 48 (0 : Int32)) fun u_8 =>
    some ((0 : Int32), u_8)
  else
    q_bd (m_X11_isParty x1 u_1) fun r u_2 =>
    if r.toInt = 0 then
      some ((-1 : Int32), u_2)
    else
      q_bd (m_X11_isPlace x2 u_2) fun r_3 u_4 =>
      if r_3.toInt = 0 then
        some ((-1 : Int32), u_4)
      else
        if (u_4.1 163 48).toInt = (8 : Int32).toInt then
          some ((-1 : Int32), u_4)
        else
          Option.bind (q_ast u_4 184 16 ((2 : Int32) * (u_4.1 163 48)) x1) fun u_5 =>
          Option.bind (q_ast u_5 184 16 (((2 : Int32) * (u_5.1 163 48)) + (1 : Int32)) x2) fun u_6 =>
          q_let (q_up u_6 163 48 ((u_6.1 163 48) + (1 : Int32))) fun u_7 =>
          some ((u_7.1 163 48), u_7)
def m_X11_eatersOfAll_L17 (x1 : Int32) (x2 : Int32) (K74 : Int32 → qS → qR) (self : Int32 → Int32 → qS → qR) (x3 : Int32) (x4 : Int32) (u : qS) : qR :=
  if (u.1 163 48).toInt ≤ x4.toInt then
    K74 x3 u
  else
    Option.bind (q_ald u 184 16 ((2 : Int32) * x4)) fun a =>
    q_bd (m_X11_tasteOf x2 a u) fun r u_1 =>
    q_jn (fun (x3_2 : Int32) (u_3 : qS) =>
      self x3_2 (x4 + (1 : Int32)) u_3) fun J68 =>
    q_jn (fun  (u_4 : qS) =>
      J68 (0 : Int32) u_4) fun J66 =>
    if r.toInt = 0 then
      J66  u_1
    else
      q_bd (m_X11_placesOf x2 u_1) fun r_5 u_6 =>
      Option.bind (q_ald u_6 184 16 (((2 : Int32) * x4) + (1 : Int32))) fun a_7 =>
      q_bd (m_X11_has r_5 a_7 u_6) fun r_8 u_9 =>
      if r_8.toInt = 0 then
        J66  u_9
      else
        J68 x3 u_9
def m_X11_eatersOfAll_L4 (K90 : Int32 → qS → qR) (self : Int32 → Int32 → qS → qR) (x1 : Int32) (x2 : Int32) (u : qS) : qR :=
  if (u.1 163 7).toInt ≤ x2.toInt then
    K90 x1 u
  else
    q_it2 (m_X11_eatersOfAll_L17 x1 x2 (fun x3 u_10 =>
      q_jn (fun (x1_11 : Int32) (u_12 : qS) =>
        self x1_11 (x2 + (1 : Int32)) u_12) fun J84 =>
      if x3.toInt = 0 then
        J84 x1 u_10
      else
        q_let (x1 ||| ((1 : Int32) <<< (x2 &&& 31))) fun y1 =>
        J84 y1 u_10)) q_F (1 : Int32) (0 : Int32) u
def m_X11_eatersOfAll  (u : qS) : qR :=
  q_it2 (m_X11_eatersOfAll_L4 (fun x1 u_13 =>
    some (x1, u_13))) q_F (0 : Int32) (0 : Int32) u
def m_X11_likersOf_L5 (x1 : Int32) (x2 : Int32) (K45 : Int32 → qS → qR) (self : Int32 → Int32 → qS → qR) (x3 : Int32) (x4 : Int32) (u : qS) : qR :=
  if (u.1 163 7).toInt ≤ x4.toInt then
    K45 x3 u
  else
    q_bd (m_X11_has x1 x4 u) fun r u_1 =>
    q_jn (fun (x3_2 : Int32) (u_3 : qS) =>
      self x3_2 (x4 + (1 : Int32)) u_3) fun J39 =>
    if r.toInt = 0 then
      J39 x3 u_1
    else
      q_bd (m_X11_tasteOf x4 x2 u_1) fun r_4 u_5 =>
      if r_4.toInt < (5 : Int32).toInt then
        J39 x3 u_5
      else
        q_let (x3 + (1 : Int32)) fun y3 =>
        J39 y3 u_5
def m_X11_likersOf (x1 : Int32) (x2 : Int32) (u : qS) : qR :=
  q_it2 (m_X11_likersOf_L5 x1 x2 (fun x3 u_6 =>
    some (x3, u_6))) q_F (0 : Int32) (0 : Int32) u
def m_X11_whose_L52 (x2 : Int32) (x3 : Int32) (K114 : Int32 → qS → qR) (self : Int32 → Int32 → Int32 → qS → qR) (x4 : Int32) (x5 : Int32) (x6 : Int32) (u : qS) : qR :=
  if (u.1 163 6).toInt ≤ x6.toInt then
    K114 x4 u
  else
    q_bd (m_X11_likersOf x2 x6 u) fun r u_7 =>
    q_bd (m_X11_greater r (x3 - r) u_7) fun r_8 u_9 =>
    q_jn (fun (s0 : Int32) (u_10 : qS) =>
      q_bd (m_X11_lesser x5 r_8 u_10) fun r_11 u_12 =>
      self s0 r_11 (x6 + (1 : Int32)) u_12) fun J96 =>
    if x5.toInt ≤ r_8.toInt then
      J96 x4 u_9
    else
      J96 x6 u_9
def m_X11_whose (x1 : Int32) (u : qS) : qR :=
  q_let (q_up u 163 0 (0 : Int32)) fun u_1 =>
  q_bd (m_X11_isIn x1 (0 : Int32) (1 : Int32) u_1) fun r u_2 =>
  if r.toInt = 0 then
    some ((-1 : Int32), u_2)
  else
    q_bd (m_X11_eatersOfAll  u_2) fun r_3 u_4 =>
    if x1.toInt = 0 then
      some (r_3, u_4)
    else
      q_bd (m_X11_onesOf r_3 u_4) fun r_5 u_6 =>
      if (2 : Int32).toInt ≤ r_5.toInt then
        q_it3 (m_X11_whose_L52 r_3 r_5 (fun x4 u_13 =>
          some (x4, u_13))) q_F (-1 : Int32) (100000 : Int32) (0 : Int32) u_6
      else
        some ((-1 : Int32), u_6)
def m_X11_left_L20 (x1 : Int32) (K46 : qS → qR) (self : Int32 → qS → qR) (x2 : Int32) (u : qS) : qR :=
  if x1.toInt < x2.toInt then
    K46  u
  else
    q_jn (fun (s0 : Int32) (u_3 : qS) =>
      Option.bind (q_ast u_3 185 100 x2 s0) fun u_4 =>
      self (x2 + (1 : Int32)) u_4) fun J39 =>
    if x2.toInt = 0 then
      J39 (1 : Int32) u
    else
      J39 (0 : Int32) u
def m_X11_left_L82 (x1 : Int32) (x2 : Int32) (x3 : Int32) (x4 : Int32) (K130 : qS → qR) (self : Int32 → qS → qR) (x5 : Int32) (u : qS) : qR :=
  if x3.toInt < x5.toInt then
    K130  u
  else
    if x4.toInt < x5.toInt then
      K130  u
    else
      Option.bind (q_ald u 186 100 x4) fun a =>
      Option.bind (q_ald u 185 100 (x4 - x5)) fun a_8 =>
      Option.bind (q_ast u 186 100 x4 (q_rm (a + a_8) (1000000007 : Int32))) fun u_9 =>
      self (x5 + (1 : Int32)) u_9
def m_X11_left_L65 (x1 : Int32) (x2 : Int32) (x3 : Int32) (K136 : qS → qR) (self : Int32 → qS → qR) (x4 : Int32) (u : qS) : qR :=
  if x1.toInt < x4.toInt then
    K136  u
  else
    Option.bind (q_ast u 186 100 x4 (0 : Int32)) fun u_7 =>
    q_it1 (m_X11_left_L82 x1 x2 x3 x4 (fun  u_10 =>
      self (x4 + (1 : Int32)) u_10)) q_F (0 : Int32) u_7
def m_X11_left_L139 (x1 : Int32) (x2 : Int32) (K165 : qS → qR) (self : Int32 → qS → qR) (x4 : Int32) (u : qS) : qR :=
  if x1.toInt < x4.toInt then
    K165  u
  else
    Option.bind (q_ald u 186 100 x4) fun a =>
    Option.bind (q_ast u 185 100 x4 a) fun u_12 =>
    self (x4 + (1 : Int32)) u_12
def m_X11_left_L48 (x1 : Int32) (K171 : qS → qR) (self : Int32 → qS → qR) (x2 : Int32) (u : qS) : qR :=
  if (u.1 163 7).toInt ≤ x2.toInt then
    K171  u
  else
    q_bd (m_X11_wantOf x2 u) fun r u_6 =>
    q_it1 (m_X11_left_L65 x1 x2 r (fun  u_11 =>
      q_it1 (m_X11_left_L139 x1 x2 (fun  u_13 =>
        self (x2 + (1 : Int32)) u_13)) q_F (0 : Int32) u_11)) q_F (0 : Int32) u_6
def m_X11_left (x1 : Int32) (u : qS) : qR :=
  q_let (q_up u 163 0 (0 : Int32)) fun u_1 =>
  q_bd (m_X11_isIn x1 (0 : Int32) (99 : Int32) u_1) fun r u_2 =>
  if r.toInt = 0 then
    some ((-1 : Int32), u_2)
  else
    q_it1 (m_X11_left_L20 x1 (fun  u_5 =>
      q_it1 (m_X11_left_L48 x1 (fun  u_14 =>
        Option.bind (q_ald u_14 185 100 x1) fun a =>
        some (a, u_14))) q_F (0 : Int32) u_5)) q_F (0 : Int32) u_2
def m_X11_seatsOf_L4 (x1 : Int32) (K39 : Int32 → qS → qR) (self : Int32 → Int32 → qS → qR) (x2 : Int32) (x3 : Int32) (u : qS) : qR :=
  if (u.1 163 6).toInt ≤ x3.toInt then
    K39 x2 u
  else
    q_bd (m_X11_has x1 x3 u) fun r u_1 =>
    q_jn (fun (x2_2 : Int32) (u_3 : qS) =>
      self x2_2 (x3 + (1 : Int32)) u_3) fun J33 =>
    if r.toInt = 0 then
      J33 x2 u_1
    else
      Option.bind (q_ald u_1 164 136 ((10 : Int32) + x3)) fun a =>
      q_let (x2 + a) fun y2 =>
      J33 y2 u_1
def m_X11_seatsOf (x1 : Int32) (u : qS) : qR :=
  q_it2 (m_X11_seatsOf_L4 x1 (fun x2 u_4 =>
    some (x2, u_4))) q_F (0 : Int32) (0 : Int32) u
def m_X11_doesRule (x1 : Int32) (u : qS) : qR :=
  q_bd (m_X11_seatsOf x1 u) fun r u_1 =>
  q_bd (m_X11_seatsOf (((1 : Int32) <<< ((u_1.1 163 6) &&& 31)) - (1 : Int32)) u_1) fun r_2 u_3 =>
  if ((2 : Int32) * r).toInt ≤ r_2.toInt then
    some ((0 : Int32), u_3)
  else
    some ((1 : Int32), u_3)
def m_X11_rules_L21 (x1 : Int32) (K65 : Int32 → qS → qR) (self : Int32 → Int32 → qS → qR) (x2 : Int32) (x3 : Int32) (u : qS) : qR :=
  if ((1 : Int32) <<< ((u.1 163 6) &&& 31)).toInt ≤ x3.toInt then
    K65 x2 u
  else
    q_jn (fun (x2_3 : Int32) (u_4 : qS) =>
      self x2_3 (x3 + (1 : Int32)) u_4) fun J59 =>
    q_jn (fun  (u_5 : qS) =>
      q_bd (m_X11_doesRule x3 u_5) fun r u_6 =>
      if r.toInt = 0 then
        J59 x2 u_6
      else
        J59 x3 u_6) fun J49 =>
    if x2.toInt = (-1 : Int32).toInt then
      J49  u
    else
      q_bd (m_X11_onesOf x3 u) fun r_7 u_8 =>
      q_bd (m_X11_onesOf x2 u_8) fun r_9 u_10 =>
      if r_9.toInt ≤ r_7.toInt then
        J59 x2 u_10
      else
        J49  u_10
def m_X11_rules (x1 : Int32) (u : qS) : qR :=
  q_let (q_up u 163 0 (0 : Int32)) fun u_1 =>
  q_bd (m_X11_isIn x1 (0 : Int32) (1 : Int32) u_1) fun r u_2 =>
  if r.toInt = 0 then
    some ((-1 : Int32), u_2)
  else
    q_it2 (m_X11_rules_L21 x1 (fun x2 u_11 =>
      q_jn (fun  (u_12 : qS) =>
        some (x2, u_12)) fun J75 =>
      if x2.toInt = (-1 : Int32).toInt then
        J75  u_11
      else
        if x1.toInt = (1 : Int32).toInt then
          J75  u_11
        else
          q_bd (m_X11_onesOf x2 u_11) fun r_13 u_14 =>
          some (r_13, u_14))) q_F (-1 : Int32) (0 : Int32) u_2
def m_X11_weighs_L19 (x1 : Int32) (K68 : Int32 → qS → qR) (self : Int32 → Int32 → qS → qR) (x2 : Int32) (x3 : Int32) (u : qS) : qR :=
  if ((1 : Int32) <<< ((u.1 163 6) &&& 31)).toInt ≤ x3.toInt then
    K68 x2 u
  else
    q_bd (m_X11_has x3 x1 u) fun r u_3 =>
    q_jn (fun (x2_4 : Int32) (u_5 : qS) =>
      self x2_4 (x3 + (1 : Int32)) u_5) fun J62 =>
    if r.toInt = 0 then
      q_bd (m_X11_doesRule x3 u_3) fun r_6 u_7 =>
      if r_6.toInt = 0 then
        q_bd (m_X11_doesRule (x3 ||| ((1 : Int32) <<< (x1 &&& 31))) u_7) fun r_8 u_9 =>
        if r_8.toInt = 0 then
          J62 x2 u_9
        else
          q_let (x2 + (1 : Int32)) fun y2 =>
          J62 y2 u_9
      else
        J62 x2 u_7
    else
      J62 x2 u_3
def m_X11_weighs (x1 : Int32) (u : qS) : qR :=
  q_let (q_up u 163 0 (0 : Int32)) fun u_1 =>
  q_bd (m_X11_isParty x1 u_1) fun r u_2 =>
  if r.toInt = 0 then
    some ((-1 : Int32), u_2)
  else
    q_it2 (m_X11_weighs_L19 x1 (fun x2 u_10 =>
      some (x2, u_10))) q_F (0 : Int32) (0 : Int32) u_2
def m_X11_lasts_L19 (x1 : Int32) (K50 : Int32 → qS → qR) (self : Int32 → Int32 → qS → qR) (x2 : Int32) (x3 : Int32) (u : qS) : qR :=
  if (u.1 163 7).toInt ≤ x3.toInt then
    K50 x2 u
  else
    q_bd (m_X11_tasteOf x3 x1 u) fun r u_3 =>
    q_jn (fun (x2_4 : Int32) (u_5 : qS) =>
      self x2_4 (x3 + (1 : Int32)) u_5) fun J44 =>
    if r.toInt ≤ 0 then
      J44 x2 u_3
    else
      q_bd (m_X11_wantOf x3 u_3) fun r_6 u_7 =>
      q_let (x2 + r_6) fun y2 =>
      J44 y2 u_7
def m_X11_lasts (x1 : Int32) (u : qS) : qR :=
  q_let (q_up u 163 0 (0 : Int32)) fun u_1 =>
  q_bd (m_X11_isParty x1 u_1) fun r u_2 =>
  if r.toInt = 0 then
    some ((-1 : Int32), u_2)
  else
    q_it2 (m_X11_lasts_L19 x1 (fun x2 u_8 =>
      if x2.toInt = 0 then
        some ((-1 : Int32), u_8)
      else
        Option.bind (q_ald u_8 164 136 ((15 : Int32) + x1)) fun a =>
        Option.bind (q_div ((a + x2) - (1 : Int32)) x2) fun a_9 =>
        some (a_9, u_8))) q_F (0 : Int32) (0 : Int32) u_2
def m_X11_meets (x1 : Int32) (x2 : Int32) (u : qS) : qR :=
  q_let (q_up u 163 0 (0 : Int32)) fun u_1 =>
  q_bd (m_X11_isEater x1 u_1) fun r u_2 =>
  if r.toInt = 0 then
    some ((-1 : Int32), u_2)
  else
    q_bd (m_X11_isEater x2 u_2) fun r_3 u_4 =>
    if r_3.toInt = 0 then
      some ((-1 : Int32), u_4)
    else
      q_bd (m_X11_placesOf x1 u_4) fun r_5 u_6 =>
      q_bd (m_X11_placesOf x2 u_6) fun r_7 u_8 =>
      some ((r_5 &&& r_7), u_8)
def m_X11_game_L21 (x1 : Int32) (K51 : Int32 → qS → qR) (self : Int32 → Int32 → qS → qR) (x2 : Int32) (x3 : Int32) (u : qS) : qR :=
  Option.bind (q_ald u 164 136 (4 : Int32)) fun a =>
  if a.toInt ≤ x3.toInt then
    K51 x2 u
  else
    Option.bind (q_ald u 164 136 ((62 : Int32) + x3)) fun a_3 =>
    q_let (x2 ^^^ (q_rm a_3 (4 : Int32))) fun y2 =>
    self y2 (x3 + (1 : Int32)) u
def m_X11_game_L77 (x1 : Int32) (x2 : Int32) (x3 : Int32) (x4 : Int32) (K106 : Int32 → qS → qR) (K123 : qS → qR) (self : Int32 → qS → qR) (x5 : Int32) (u : qS) : qR :=
  q_bd (m_X11_lesser (3 : Int32) x4 u) fun r u_6 =>
  if r.toInt < x5.toInt then
    K123  u_6
  else
    if ((x2 ^^^ (q_rm x4 (4 : Int32))) ^^^ (q_rm (x4 - x5) (4 : Int32))).toInt = 0 then
      K106 x5 u_6
    else
      self (x5 + (1 : Int32)) u_6
def m_X11_game_L53 (x1 : Int32) (x2 : Int32) (K106 : Int32 → Int32 → qS → qR) (K129 : qS → qR) (self : Int32 → qS → qR) (x3 : Int32) (u : qS) : qR :=
  Option.bind (q_ald u 164 136 (4 : Int32)) fun a =>
  if a.toInt ≤ x3.toInt then
    K129  u
  else
    Option.bind (q_ald u 164 136 ((62 : Int32) + x3)) fun a_5 =>
    q_it1 (m_X11_game_L77 x1 x2 x3 a_5 (fun x5 u_7 =>
      K106 x3 x5 u_7) (fun  u_8 =>
      self (x3 + (1 : Int32)) u_8)) q_F (1 : Int32) u
def m_X11_game (x1 : Int32) (u : qS) : qR :=
  q_let (q_up u 163 0 (0 : Int32)) fun u_1 =>
  q_bd (m_X11_isIn x1 (0 : Int32) (1 : Int32) u_1) fun r u_2 =>
  if r.toInt = 0 then
    some ((-1 : Int32), u_2)
  else
    q_it2 (m_X11_game_L21 x1 (fun x2 u_4 =>
      q_it1 (m_X11_game_L53 x1 x2 (fun x3 x5 u_9 =>
        if x1.toInt = 0 then
          some (x3, u_9)
        else
          some (x5, u_9)) (fun  u_10 =>
        some ((-1 : Int32), u_10))) q_F (0 : Int32) u_4)) q_F (0 : Int32) (0 : Int32) u_2
def m_X11_keeps (x1 : Int32) (u : qS) : qR :=
  q_let (q_up u 163 54 ((u.1 163 54) + (1 : Int32))) fun u_1 =>
  if (u_1.1 163 52).toInt = 0 then
    Option.bind (q_ald u_1 187 1900 ((u_1.1 163 54) - (1 : Int32))) fun a =>
    some (a, u_1)
  else
    Option.bind (q_ast u_1 187 1900 ((u_1.1 163 54) - (1 : Int32)) x1) fun u_2 =>
    some (x1, u_2)
def m_X11_keepsLaw_L18 (K94 : qS → qR) (self : Int32 → qS → qR) (x1 : Int32) (u : qS) : qR :=
  if (16 : Int32).toInt ≤ x1.toInt then
    K94  u
  else
    Option.bind (q_ald u 171 48 x1) fun a =>
    q_bd (m_X11_keeps a u) fun r u_3 =>
    Option.bind (q_ast u_3 171 48 x1 r) fun u_4 =>
    Option.bind (q_ald u_4 172 48 x1) fun a_5 =>
    q_bd (m_X11_keeps a_5 u_4) fun r_6 u_7 =>
    Option.bind (q_ast u_7 172 48 x1 r_6) fun u_8 =>
    Option.bind (q_ald u_8 173 48 x1) fun a_9 =>
    q_bd (m_X11_keeps a_9 u_8) fun r_10 u_11 =>
    Option.bind (q_ast u_11 173 48 x1 r_10) fun u_12 =>
    Option.bind (q_ald u_12 174 48 x1) fun a_13 =>
    q_bd (m_X11_keeps a_13 u_12) fun r_14 u_15 =>
    Option.bind (q_ast u_15 174 48 x1 r_14) fun u_16 =>
    self (x1 + (1 : Int32)) u_16
def m_X11_keepsLaw_L96 (K141 : qS → qR) (self : Int32 → qS → qR) (x1 : Int32) (u : qS) : qR :=
  if (400 : Int32).toInt ≤ x1.toInt then
    K141  u
  else
    Option.bind (q_ald u 175 1200 x1) fun a =>
    q_bd (m_X11_keeps a u) fun r u_18 =>
    Option.bind (q_ast u_18 175 1200 x1 r) fun u_19 =>
    Option.bind (q_ald u_19 176 1200 x1) fun a_20 =>
    q_bd (m_X11_keeps a_20 u_19) fun r_21 u_22 =>
    Option.bind (q_ast u_22 176 1200 x1 r_21) fun u_23 =>
    self (x1 + (1 : Int32)) u_23
def m_X11_keepsLaw  (u : qS) : qR :=
  Option.bind (q_ald u 170 2 (0 : Int32)) fun a =>
  q_bd (m_X11_keeps a u) fun r u_1 =>
  Option.bind (q_ast u_1 170 2 (0 : Int32) r) fun u_2 =>
  q_it1 (m_X11_keepsLaw_L18 (fun  u_17 =>
    q_it1 (m_X11_keepsLaw_L96 (fun  u_24 =>
      some (0, u_24))) q_F (0 : Int32) u_17)) q_F (0 : Int32) u_2
def m_X11_keepsTold_L110 (K138 : qS → qR) (self : Int32 → qS → qR) (x1 : Int32) (u : qS) : qR :=
  if (16 : Int32).toInt ≤ x1.toInt then
    K138  u
  else
    Option.bind (q_ald u 184 16 x1) fun a =>
    q_bd (m_X11_keeps a u) fun r u_27 =>
    Option.bind (q_ast u_27 184 16 x1 r) fun u_28 =>
    self (x1 + (1 : Int32)) u_28
def m_X11_keepsTold_L140 (K168 : qS → qR) (self : Int32 → qS → qR) (x1 : Int32) (u : qS) : qR :=
  if (90 : Int32).toInt ≤ x1.toInt then
    K168  u
  else
    Option.bind (q_ald u 178 180 x1) fun a =>
    q_bd (m_X11_keeps a u) fun r u_30 =>
    Option.bind (q_ast u_30 178 180 x1 r) fun u_31 =>
    self (x1 + (1 : Int32)) u_31
def m_X11_keepsTold_L170 (K198 : qS → qR) (self : Int32 → qS → qR) (x1 : Int32) (u : qS) : qR :=
  if (64 : Int32).toInt ≤ x1.toInt then
    K198  u
  else
    Option.bind (q_ald u 179 128 x1) fun a =>
    q_bd (m_X11_keeps a u) fun r u_33 =>
    Option.bind (q_ast u_33 179 128 x1 r) fun u_34 =>
    self (x1 + (1 : Int32)) u_34
def m_X11_keepsTold  (u : qS) : qR :=
  q_bd (m_X11_keeps (u.1 163 6) u) fun r u_1 =>
  q_let (q_up u_1 163 6 r) fun u_2 =>
  q_bd (m_X11_keeps (u_2.1 163 7) u_2) fun r_3 u_4 =>
  q_let (q_up u_4 163 7 r_3) fun u_5 =>
  q_bd (m_X11_keeps (u_5.1 163 8) u_5) fun r_6 u_7 =>
  q_let (q_up u_7 163 8 r_6) fun u_8 =>
  q_bd (m_X11_keeps (u_8.1 163 9) u_8) fun r_9 u_10 =>
  q_let (q_up u_10 163 9 r_9) fun u_11 =>
  q_bd (m_X11_keeps (u_11.1 163 10) u_11) fun r_12 u_13 =>
  q_let (q_up u_13 163 10 r_12) fun u_14 =>
  q_bd (m_X11_keeps (u_14.1 163 11) u_14) fun r_15 u_16 =>
  q_let (q_up u_16 163 11 r_15) fun u_17 =>
  q_bd (m_X11_keeps (u_17.1 163 36) u_17) fun r_18 u_19 =>
  q_let (q_up u_19 163 36 r_18) fun u_20 =>
  q_bd (m_X11_keeps (u_20.1 163 38) u_20) fun r_21 u_22 =>
  q_let (q_up u_22 163 38 r_21) fun u_23 =>
  q_bd (m_X11_keeps (u_23.1 163 48) u_23) fun r_24 u_25 =>
  q_let (q_up u_25 163 48 r_24) fun u_26 =>
  q_it1 (m_X11_keepsTold_L110 (fun  u_29 =>
    q_it1 (m_X11_keepsTold_L140 (fun  u_32 =>
      q_it1 (m_X11_keepsTold_L170 (fun  u_35 =>
        some (0, u_35))) q_F (0 : Int32) u_32)) q_F (0 : Int32) u_29)) q_F (0 : Int32) u_26
def m_X11_image_L35 (x1 : Int32) (K64 : qS → qR) (self : Int32 → qS → qR) (x2 : Int32) (u : qS) : qR :=
  if (136 : Int32).toInt ≤ x2.toInt then
    K64  u
  else
    Option.bind (q_ald u 164 136 x2) fun a =>
    q_bd (m_X11_keeps a u) fun r u_6 =>
    Option.bind (q_ast u_6 164 136 x2 r) fun u_7 =>
    self (x2 + (1 : Int32)) u_7
def m_X11_image_L70 (x1 : Int32) (K99 : qS → qR) (self : Int32 → qS → qR) (x2 : Int32) (u : qS) : qR :=
  if (600 : Int32).toInt ≤ x2.toInt then
    K99  u
  else
    Option.bind (q_ald u 167 600 x2) fun a =>
    q_bd (m_X11_keeps a u) fun r u_10 =>
    Option.bind (q_ast u_10 167 600 x2 r) fun u_11 =>
    self (x2 + (1 : Int32)) u_11
def m_X11_image (x1 : Int32) (u : qS) : qR :=
  q_let (q_up u 163 0 (0 : Int32)) fun u_1 =>
  q_jn (fun  (u_2 : qS) =>
    q_bz x1 (q_let (q_up u_2 163 52 x1) fun u_3 =>
    q_bz (1 : Int32) (q_let (q_up u_3 163 53 (1 : Int32)) fun u_4 =>
    q_let (q_up u_4 163 54 (0 : Int32)) fun u_5 =>
    q_it1 (m_X11_image_L35 x1 (fun  u_8 =>
      q_bd (m_X11_keepsTold  u_8) fun _ u_9 =>
      q_it1 (m_X11_image_L70 x1 (fun  u_12 =>
        q_bd (m_X11_keepsLaw  u_12) fun _ u_13 =>
        if x1.toInt = 0 then
          q_let (q_up u_13 163 3 (0 : Int32)) fun u_14 =>
          some ((1 : Int32), u_14)
        else
          some ((1 : Int32), u_13))) q_F (0 : Int32) u_9)) q_F (0 : Int32) u_5))) fun J18 =>
  if x1.toInt = 0 then
    if (u_1.1 163 53).toInt = 0 then
      some ((0 : Int32), u_1)
    else
      J18  u_1
  else
    J18  u_1
def m_X11_look (x1 : Int32) (u : qS) : qR :=
  q_let (q_up u 163 0 (0 : Int32)) fun u_1 =>
  if x1.toInt = 0 then
    some ((u_1.1 163 6), u_1)
  else
    if x1.toInt = (1 : Int32).toInt then
      Option.bind (q_ald u_1 164 136 (4 : Int32)) fun a_9 =>
      some (a_9, u_1)
    else
      if x1.toInt = (2 : Int32).toInt then
        some ((u_1.1 163 7), u_1)
      else
        if x1.toInt = (3 : Int32).toInt then
          Option.bind (q_ald u_1 164 136 (0 : Int32)) fun a_8 =>
          some (a_8, u_1)
        else
          if x1.toInt = (4 : Int32).toInt then
            some ((u_1.1 163 8), u_1)
          else
            if x1.toInt = (5 : Int32).toInt then
              some ((u_1.1 163 9), u_1)
            else
              if x1.toInt = (6 : Int32).toInt then
                q_bd (m_X11_chairs  u_1) fun r_6 u_7 =>
                some (r_6, u_7)
              else
                if x1.toInt = (7 : Int32).toInt then
                  q_bd (m_X11_every  u_1) fun r u_5 =>
                  some (r, u_5)
                else
                  if x1.toInt = (8 : Int32).toInt then
                    Option.bind (q_ald u_1 164 136 (2 : Int32)) fun a_4 =>
                    some (a_4, u_1)
                  else
                    if x1.toInt = (9 : Int32).toInt then
                      Option.bind (q_ald u_1 164 136 (1 : Int32)) fun a_3 =>
                      some (a_3, u_1)
                    else
                      if x1.toInt = (10 : Int32).toInt then
                        Option.bind (q_ald u_1 170 2 (0 : Int32)) fun a_2 =>
                        some (a_2, u_1)
                      else
                        if x1.toInt = (11 : Int32).toInt then
                          some ((u_1.1 163 36), u_1)
                        else
                          if x1.toInt = (12 : Int32).toInt then
                            some ((u_1.1 163 38), u_1)
                          else
                            if x1.toInt = (13 : Int32).toInt then
                              some ((u_1.1 163 48), u_1)
                            else
                              if x1.toInt = (14 : Int32).toInt then
                                some ((u_1.1 163 3), u_1)
                              else
                                if x1.toInt = (15 : Int32).toInt then
                                  Option.bind (q_ald u_1 164 136 (3 : Int32)) fun a =>
                                  some (a, u_1)
                                else
                                  some ((-1 : Int32), u_1)
