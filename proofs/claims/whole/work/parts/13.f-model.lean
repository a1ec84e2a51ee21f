/-! Functions, printed out of the bytecode by wip/gen/gen.py -/
def f_Mo_init_347 : Nat → Nat → Int → zH → Option (zH)
  | 0 => fun _ _ _ => none
  | n + 1 => fun a0 a2 h =>
  if 10 ≤ a2 then
    (z_gR h 9 a0 4).bind fun v1 =>
    (z_sI h 22 v1 0 (1 % 2)).bind fun h2 =>
    some h2
  else
    (z_gR h 9 a0 7).bind fun v3 =>
    (z_sI h 20 v3 a2 (-1)).bind fun h4 =>
    f_Mo_init_347 n a0 (zw (a2 + 1)) h4
def f_Mo_init_342 (a0 : Nat) (s0 : Nat) (s1 : Int) (h : zH) : Option (zH) :=
  (z_pI h 9 s0 0 s1).bind fun h6 =>
  f_Mo_init_347 100000 a0 0 h6
def f_Mo_init (a0 : Nat) (a1 : Int) (h : zH) : Option (zH) :=
  (z_nwA h 20 40).bind fun h7 =>
  (z_pR h7 9 a0 2 h.1.length).bind fun h8 =>
  (z_nwA h8 22 10).bind fun h9 =>
  (z_pR h9 9 a0 4 h8.1.length).bind fun h10 =>
  (z_nwA h10 20 10).bind fun h11 =>
  (z_pR h11 9 a0 5 h10.1.length).bind fun h12 =>
  (z_nwA h12 20 10).bind fun h13 =>
  (z_pR h13 9 a0 6 h12.1.length).bind fun h14 =>
  (z_nwA h14 20 10).bind fun h15 =>
  (z_pR h15 9 a0 7 h14.1.length).bind fun h16 =>
  (z_nwA h16 20 22).bind fun h17 =>
  (z_pR h17 9 a0 8 h16.1.length).bind fun h18 =>
  (z_nwA h18 20 462).bind fun h19 =>
  (z_pR h19 9 a0 9 h18.1.length).bind fun h20 =>
  (z_nwA h20 20 462).bind fun h21 =>
  (z_pR h21 9 a0 10 h20.1.length).bind fun h22 =>
  (z_nwA h22 20 462).bind fun h23 =>
  (z_pR h23 9 a0 11 h22.1.length).bind fun h24 =>
  (z_nwA h24 20 462).bind fun h25 =>
  (z_pR h25 9 a0 12 h24.1.length).bind fun h26 =>
  (z_nwA h26 20 462).bind fun h27 =>
  (z_pR h27 9 a0 13 h26.1.length).bind fun h28 =>
  (z_nwA h28 20 462).bind fun h29 =>
  (z_pR h29 9 a0 14 h28.1.length).bind fun h30 =>
  (z_nwA h30 20 462).bind fun h31 =>
  (z_pR h31 9 a0 15 h30.1.length).bind fun h32 =>
  (z_nwA h32 20 22).bind fun h33 =>
  (z_pR h33 9 a0 16 h32.1.length).bind fun h34 =>
  (z_nwA h34 20 4).bind fun h35 =>
  (z_pR h35 9 a0 17 h34.1.length).bind fun h36 =>
  (z_nwA h36 20 4).bind fun h37 =>
  (z_pR h37 9 a0 18 h36.1.length).bind fun h38 =>
  (z_nwA h38 22 4).bind fun h39 =>
  (z_pR h39 9 a0 19 h38.1.length).bind fun h40 =>
  (z_nwA h40 22 4).bind fun h41 =>
  (z_pR h41 9 a0 20 h40.1.length).bind fun h42 =>
  (z_nwA h42 20 6).bind fun h43 =>
  (z_pR h43 9 a0 25 h42.1.length).bind fun h44 =>
  (z_nwA h44 20 5600).bind fun h45 =>
  (z_pR h45 9 a0 27 h44.1.length).bind fun h46 =>
  (z_nwA h46 20 2).bind fun h47 =>
  (z_pR h47 9 a0 28 h46.1.length).bind fun h48 =>
  (z_nwA h48 20 48).bind fun h49 =>
  (z_pR h49 9 a0 29 h48.1.length).bind fun h50 =>
  (z_nwA h50 20 6).bind fun h51 =>
  (z_pR h51 9 a0 32 h50.1.length).bind fun h52 =>
  (z_nwA h52 20 144).bind fun h53 =>
  (z_pR h53 9 a0 33 h52.1.length).bind fun h54 =>
  (z_nwA h54 22 6).bind fun h55 =>
  (z_pR h55 9 a0 34 h54.1.length).bind fun h56 =>
  (z_nwA h56 20 6).bind fun h57 =>
  (z_pR h57 9 a0 35 h56.1.length).bind fun h58 =>
  (z_nwA h58 20 144).bind fun h59 =>
  (z_pR h59 9 a0 36 h58.1.length).bind fun h60 =>
  (z_nwA h60 20 144).bind fun h61 =>
  (z_pR h61 9 a0 37 h60.1.length).bind fun h62 =>
  (z_nwA h62 20 864).bind fun h63 =>
  (z_pR h63 9 a0 38 h62.1.length).bind fun h64 =>
  (z_nwA h64 20 8).bind fun h65 =>
  (z_pR h65 9 a0 39 h64.1.length).bind fun h66 =>
  (z_nwA h66 20 40).bind fun h67 =>
  (z_pR h67 9 a0 40 h66.1.length).bind fun h68 =>
  (z_nwA h68 20 80).bind fun h69 =>
  (z_pR h69 9 a0 41 h68.1.length).bind fun h70 =>
  (z_nwA h70 20 1920).bind fun h71 =>
  (z_pR h71 9 a0 42 h70.1.length).bind fun h72 =>
  (z_nwA h72 20 20).bind fun h73 =>
  (z_pR h73 9 a0 43 h72.1.length).bind fun h74 =>
  (z_nwA h74 20 6).bind fun h75 =>
  (z_pR h75 9 a0 47 h74.1.length).bind fun h76 =>
  (z_nwA h76 20 6).bind fun h77 =>
  (z_pR h77 9 a0 49 h76.1.length).bind fun h78 =>
  (z_nwA h78 20 6).bind fun h79 =>
  (z_pR h79 9 a0 50 h78.1.length).bind fun h80 =>
  (z_nwA h80 20 6).bind fun h81 =>
  (z_pR h81 9 a0 51 h80.1.length).bind fun h82 =>
  if 10 ≤ a1 then
    if a1 ≤ 300 then
      f_Mo_init_342 a0 a0 a1 h82
    else
      f_Mo_init_342 a0 a0 300 h82
  else
    f_Mo_init_342 a0 a0 10 h82
def f_Mo_type_71 (c9 : Nat → Int → Int → Int → zH → Option (Int × zH)) (a0 : Nat) (a1 : Int) (a3 : Int) (a4 : Int) (h : zH) : Option (Int × zH) :=
  c9 a0 a1 a3 (zw (a4 + (-1))) h
def f_Mo_type_55 (c9 : Nat → Int → Int → Int → zH → Option (Int × zH)) (a0 : Nat) (a1 : Int) (a3 : Int) (a4 : Int) (a5 : Int) (h : zH) : Option (Int × zH) :=
  if a5 = 0 then
    f_Mo_type_71 c9 a0 a1 a3 a4 h
  else
    (z_gR h 9 a0 2).bind fun v1 =>
    (z_sI h 20 v1 a3 a5).bind fun h2 =>
    f_Mo_type_71 c9 a0 a1 (zw (a3 + 1)) a4 h2
def f_Mo_type_9 : Nat → Nat → Int → Int → Int → zH → Option (Int × zH)
  | 0 => fun _ _ _ _ _ => none
  | n + 1 => fun a0 a1 a3 a4 h =>
  if a4 < 0 then
    (z_pI h 9 a0 1 a3).bind fun h4 =>
    some (1, h4)
  else
    if (z_and (zw (z_lshr a1 (zw (8 * a4)))) 255) = 0 then
      f_Mo_type_55 (f_Mo_type_9 n) a0 a1 a3 a4 (z_and (zw (z_lshr a1 (zw (8 * a4)))) 255) h
    else
      if (z_and (zw (z_lshr a1 (zw (8 * a4)))) 255) < 32 then
        some (0, h)
      else
        if 126 < (z_and (zw (z_lshr a1 (zw (8 * a4)))) 255) then
          some (0, h)
        else
          if a3 = 40 then
            some (0, h)
          else
            f_Mo_type_55 (f_Mo_type_9 n) a0 a1 a3 a4 (z_and (zw (z_lshr a1 (zw (8 * a4)))) 255) h
def f_Mo_type (a0 : Nat) (a1 : Int) (h : zH) : Option (Int × zH) :=
  (z_gI h 9 a0 1).bind fun v10 =>
  f_Mo_type_9 100000 a0 a1 v10 7 h
def f_Mo_wipe (a0 : Nat) (h : zH) : Option (zH) :=
  (z_pI h 9 a0 1 0).bind fun h1 =>
  some h1
def f_Mo_quantifier_18 (h : zH) : Option (Int × zH) :=
  some (1, h)
def f_Mo_quantifier (a0 : Int) (h : zH) : Option (Int × zH) :=
  if a0 = 42 then
    f_Mo_quantifier_18 h
  else
    if a0 = 43 then
      f_Mo_quantifier_18 h
    else
      if a0 = 63 then
        f_Mo_quantifier_18 h
      else
        some (0, h)
def f_Mo_at (a0 : Nat) (a1 : Int) (a2 : Int) (h : zH) : Option (Int × zH) :=
  (z_gR h 9 a0 8).bind fun v1 =>
  (z_aI h 20 v1 a1).bind fun v2 =>
  if v2 ≤ a2 then
    some (0, h)
  else
    (z_gR h 9 a0 9).bind fun v3 =>
    (z_aI h 20 v3 (zw ((zw (21 * a1)) + a2))).bind fun v4 =>
    some (v4, h)
def f_Mo_items_132 (a0 : Nat) (a1 : Int) (a3 : Int) (a4 : Int) (h : zH) : Option (Int × zH) :=
  if a4 ≤ 0 then
    some ((-1), h)
  else
    (z_gR h 9 a0 8).bind fun v1 =>
    (z_aI h 20 v1 a1).bind fun v2 =>
    if v2 ≤ a3 then
      some ((-1), h)
    else
      some (zw (a3 + 1), h)
def f_Mo_items_125 (c22 : Nat → Int → Int → Int → zH → Option (Int × zH)) (a0 : Nat) (a1 : Int) (a4 : Int) (s0 : Int) (h : zH) : Option (Int × zH) :=
  c22 a0 a1 s0 (zw (a4 + 1)) h
def f_Mo_items_111 (c22 : Nat → Int → Int → Int → zH → Option (Int × zH)) (a0 : Nat) (a1 : Int) (a3 : Int) (a4 : Int) (a5 : Int) (h : zH) : Option (Int × zH) :=
  if a5 = 0 then
    f_Mo_items_125 c22 a0 a1 a4 (zw (a3 + 1)) h
  else
    f_Mo_items_125 c22 a0 a1 a4 (zw (a3 + 3)) h
def f_Mo_items_85 (c22 : Nat → Int → Int → Int → zH → Option (Int × zH)) (a0 : Nat) (a1 : Int) (a3 : Int) (a4 : Int) (s0 : Int) (h : zH) : Option (Int × zH) :=
  if s0 = 0 then
    f_Mo_items_111 c22 a0 a1 a3 a4 s0 h
  else
    (z_ck h 9 a0).bind fun n6 =>
    (f_Mo_at a0 a1 a3 h).bind fun q7 =>
    (z_ck q7.2 9 a0).bind fun n8 =>
    (f_Mo_at a0 a1 (zw (a3 + 2)) q7.2).bind fun q9 =>
    if q7.1 ≤ q9.1 then
      f_Mo_items_111 c22 a0 a1 a3 a4 s0 q9.2
    else
      some ((-1), q9.2)
def f_Mo_items_84 (c22 : Nat → Int → Int → Int → zH → Option (Int × zH)) (a0 : Nat) (a1 : Int) (a3 : Int) (a4 : Int) (h : zH) : Option (Int × zH) :=
  f_Mo_items_85 c22 a0 a1 a3 a4 0 h
def f_Mo_items_22 : Nat → Nat → Int → Int → Int → zH → Option (Int × zH)
  | 0 => fun _ _ _ _ _ => none
  | n + 1 => fun a0 a1 a3 a4 h =>
  (z_gR h 9 a0 8).bind fun v12 =>
  (z_aI h 20 v12 a1).bind fun v13 =>
  if v13 ≤ a3 then
    f_Mo_items_132 a0 a1 a3 a4 h
  else
    (z_ck h 9 a0).bind fun n14 =>
    (f_Mo_at a0 a1 a3 h).bind fun q15 =>
    if q15.1 = 93 then
      f_Mo_items_132 a0 a1 a3 a4 q15.2
    else
      (z_ck q15.2 9 a0).bind fun n16 =>
      (f_Mo_at a0 a1 (zw (a3 + 1)) q15.2).bind fun q17 =>
      if q17.1 = 45 then
        (z_ck q17.2 9 a0).bind fun n18 =>
        (f_Mo_at a0 a1 (zw (a3 + 2)) q17.2).bind fun q19 =>
        if q19.1 = 0 then
          f_Mo_items_84 (f_Mo_items_22 n) a0 a1 a3 a4 q19.2
        else
          (z_ck q19.2 9 a0).bind fun n20 =>
          (f_Mo_at a0 a1 (zw (a3 + 2)) q19.2).bind fun q21 =>
          if q21.1 = 93 then
            f_Mo_items_84 (f_Mo_items_22 n) a0 a1 a3 a4 q21.2
          else
            f_Mo_items_85 (f_Mo_items_22 n) a0 a1 a3 a4 1 q21.2
      else
        f_Mo_items_84 (f_Mo_items_22 n) a0 a1 a3 a4 q17.2
def f_Mo_items_18 (a0 : Nat) (a1 : Int) (s0 : Int) (h : zH) : Option (Int × zH) :=
  f_Mo_items_22 100000 a0 a1 s0 0 h
def f_Mo_items (a0 : Nat) (a1 : Int) (a2 : Int) (h : zH) : Option (Int × zH) :=
  (z_ck h 9 a0).bind fun n27 =>
  (f_Mo_at a0 a1 a2 h).bind fun q28 =>
  if q28.1 = 94 then
    f_Mo_items_18 a0 a1 (zw (a2 + 1)) q28.2
  else
    f_Mo_items_18 a0 a1 a2 q28.2
def f_Mo_simple_90 (h : zH) : Option (Int × zH) :=
  some ((-1), h)
def f_Mo_simple_60 (a2 : Int) (a3 : Int) (a5 : Int) (s0 : Int) (h : zH) : Option (Int × zH) :=
  if a5 = 0 then
    f_Mo_simple_90 h
  else
    if s0 = 0 then
      some (zw (a2 + 2), h)
    else
      if a3 = 0 then
        f_Mo_simple_90 h
      else
        if a5 = 49 then
          some (zw (a2 + 2), h)
        else
          if a5 = 50 then
            some (zw (a2 + 2), h)
          else
            f_Mo_simple_90 h
def f_Mo_simple_59 (a2 : Int) (a3 : Int) (a5 : Int) (h : zH) : Option (Int × zH) :=
  f_Mo_simple_60 a2 a3 a5 0 h
def f_Mo_simple_120 (h : zH) : Option (Int × zH) :=
  some ((-1), h)
def f_Mo_simple (a0 : Nat) (a1 : Int) (a2 : Int) (a3 : Int) (h : zH) : Option (Int × zH) :=
  (z_ck h 9 a0).bind fun n6 =>
  (f_Mo_at a0 a1 a2 h).bind fun q7 =>
  if q7.1 = 91 then
    (z_ck q7.2 9 a0).bind fun n17 =>
    (f_Mo_items a0 a1 (zw (a2 + 1)) q7.2).bind fun q18 =>
    some (q18.1, q18.2)
  else
    if q7.1 = 92 then
      (z_ck q7.2 9 a0).bind fun n12 =>
      (f_Mo_at a0 a1 (zw (a2 + 1)) q7.2).bind fun q13 =>
      if q13.1 < 48 then
        f_Mo_simple_59 a2 a3 q13.1 q13.2
      else
        if 57 < q13.1 then
          f_Mo_simple_59 a2 a3 q13.1 q13.2
        else
          f_Mo_simple_60 a2 a3 q13.1 1 q13.2
    else
      if q7.1 = 41 then
        f_Mo_simple_120 q7.2
      else
        if q7.1 = 124 then
          f_Mo_simple_120 q7.2
        else
          (f_Mo_quantifier q7.1 q7.2).bind fun q8 =>
          if q8.1 = 0 then
            some (zw (a2 + 1), q8.2)
          else
            f_Mo_simple_120 q8.2
def f_Mo_isRef (a0 : Nat) (a1 : Int) (a2 : Int) (h : zH) : Option (Int × zH) :=
  (z_ck h 9 a0).bind fun n1 =>
  (f_Mo_at a0 a1 a2 h).bind fun q2 =>
  if q2.1 = 92 then
    (z_ck q2.2 9 a0).bind fun n3 =>
    (f_Mo_at a0 a1 (zw (a2 + 1)) q2.2).bind fun q4 =>
    if q4.1 < 48 then
      some (0, q4.2)
    else
      (z_ck q4.2 9 a0).bind fun n5 =>
      (f_Mo_at a0 a1 (zw (a2 + 1)) q4.2).bind fun q6 =>
      if 57 < q6.1 then
        some (0, q6.2)
      else
        some (1, q6.2)
  else
    some (0, q2.2)
def f_Mo_quantified_214 (a7 : Int) (s0 : Nat) (s1 : Int) (h : zH) : Option (Int × zH) :=
  (z_sI h 22 s0 s1 (1 % 2)).bind fun h1 =>
  some (a7, h1)
def f_Mo_quantified_163 (a0 : Nat) (a3 : Int) (a4 : Int) (a5 : Int) (a6 : Int) (a7 : Int) (a9 : Int) (s0 : Nat) (s1 : Int) (s2 : Int) (h : zH) : Option (Int × zH) :=
  (z_sI h 20 s0 s1 s2).bind fun h2 =>
  (z_gR h2 9 a0 11).bind fun v3 =>
  (z_sI h2 20 v3 a9 a3).bind fun h4 =>
  (z_gR h4 9 a0 12).bind fun v5 =>
  (z_sI h4 20 v5 a9 a7).bind fun h6 =>
  (z_gR h6 9 a0 20).bind fun v7 =>
  (z_gR h6 9 a0 20).bind fun v8 =>
  (z_aI h6 22 v8 a5).bind fun v9 =>
  if v9 = 0 then
    (z_sI h6 22 v7 a5 (0 % 2)).bind fun h10 =>
    some (a7, h10)
  else
    if a4 = 0 then
      if a6 = 1 then
        f_Mo_quantified_214 a7 v7 a5 h6
      else
        if a6 = 3 then
          f_Mo_quantified_214 a7 v7 a5 h6
        else
          (z_sI h6 22 v7 a5 (0 % 2)).bind fun h11 =>
          some (a7, h11)
    else
      f_Mo_quantified_214 a7 v7 a5 h6
def f_Mo_quantified_135 (a0 : Nat) (a1 : Int) (a2 : Int) (a3 : Int) (a4 : Int) (a5 : Int) (a6 : Int) (a7 : Int) (a8 : Int) (h : zH) : Option (Int × zH) :=
  (z_gR h 9 a0 10).bind fun v16 =>
  if a8 = 0 then
    f_Mo_quantified_163 a0 a3 a4 a5 a6 a7 (zw ((zw (21 * a1)) + a2)) v16 (zw ((zw (21 * a1)) + a2)) a6 h
  else
    f_Mo_quantified_163 a0 a3 a4 a5 a6 a7 (zw ((zw (21 * a1)) + a2)) v16 (zw ((zw (21 * a1)) + a2)) (zw (a6 + 4)) h
def f_Mo_quantified_119 (a0 : Nat) (a1 : Int) (a2 : Int) (a3 : Int) (a4 : Int) (a5 : Int) (a6 : Int) (a7 : Int) (a8 : Int) (h : zH) : Option (Int × zH) :=
  (z_ck h 9 a0).bind fun n18 =>
  (f_Mo_isRef a0 a1 a2 h).bind fun q19 =>
  if q19.1 = 0 then
    f_Mo_quantified_135 a0 a1 a2 a3 a4 a5 a6 a7 a8 q19.2
  else
    if a6 ≤ 0 then
      f_Mo_quantified_135 a0 a1 a2 a3 a4 a5 a6 a7 a8 q19.2
    else
      some ((-1), q19.2)
def f_Mo_quantified_100 (a0 : Nat) (a1 : Int) (a2 : Int) (a3 : Int) (a4 : Int) (a5 : Int) (a6 : Int) (a8 : Int) (s0 : Int) (h : zH) : Option (Int × zH) :=
  if a4 = 0 then
    f_Mo_quantified_119 a0 a1 a2 a3 a4 a5 a6 s0 a8 h
  else
    if a6 = 1 then
      some ((-1), h)
    else
      if a6 = 2 then
        some ((-1), h)
      else
        f_Mo_quantified_119 a0 a1 a2 a3 a4 a5 a6 s0 a8 h
def f_Mo_quantified_84 (a0 : Nat) (a1 : Int) (a2 : Int) (a3 : Int) (a4 : Int) (a5 : Int) (a6 : Int) (a7 : Int) (s0 : Int) (h : zH) : Option (Int × zH) :=
  if s0 = 0 then
    f_Mo_quantified_100 a0 a1 a2 a3 a4 a5 a6 s0 a7 h
  else
    f_Mo_quantified_100 a0 a1 a2 a3 a4 a5 a6 s0 (zw (a7 + 1)) h
def f_Mo_quantified_83 (a0 : Nat) (a1 : Int) (a2 : Int) (a3 : Int) (a4 : Int) (a5 : Int) (a6 : Int) (a7 : Int) (h : zH) : Option (Int × zH) :=
  f_Mo_quantified_84 a0 a1 a2 a3 a4 a5 a6 a7 0 h
def f_Mo_quantified_60 (a0 : Nat) (a1 : Int) (a2 : Int) (a3 : Int) (a4 : Int) (a5 : Int) (a6 : Int) (s0 : Int) (h : zH) : Option (Int × zH) :=
  if a6 ≤ 0 then
    f_Mo_quantified_83 a0 a1 a2 a3 a4 a5 a6 s0 h
  else
    (z_ck h 9 a0).bind fun n26 =>
    (f_Mo_at a0 a1 s0 h).bind fun q27 =>
    if q27.1 = 63 then
      f_Mo_quantified_84 a0 a1 a2 a3 a4 a5 a6 s0 1 q27.2
    else
      f_Mo_quantified_83 a0 a1 a2 a3 a4 a5 a6 s0 q27.2
def f_Mo_quantified_46 (a0 : Nat) (a1 : Int) (a2 : Int) (a3 : Int) (a4 : Int) (a5 : Int) (s0 : Int) (h : zH) : Option (Int × zH) :=
  if s0 ≤ 0 then
    f_Mo_quantified_60 a0 a1 a2 a3 a4 a5 s0 a3 h
  else
    f_Mo_quantified_60 a0 a1 a2 a3 a4 a5 s0 (zw (a3 + 1)) h
def f_Mo_quantified (a0 : Nat) (a1 : Int) (a2 : Int) (a3 : Int) (a4 : Int) (a5 : Int) (h : zH) : Option (Int × zH) :=
  (z_ck h 9 a0).bind fun n31 =>
  (f_Mo_at a0 a1 a3 h).bind fun q32 =>
  if q32.1 = 42 then
    f_Mo_quantified_46 a0 a1 a2 a3 a4 a5 1 q32.2
  else
    (z_ck q32.2 9 a0).bind fun n33 =>
    (f_Mo_at a0 a1 a3 q32.2).bind fun q34 =>
    if q34.1 = 43 then
      f_Mo_quantified_46 a0 a1 a2 a3 a4 a5 2 q34.2
    else
      (z_ck q34.2 9 a0).bind fun n35 =>
      (f_Mo_at a0 a1 a3 q34.2).bind fun q36 =>
      if q36.1 = 63 then
        f_Mo_quantified_46 a0 a1 a2 a3 a4 a5 3 q36.2
      else
        f_Mo_quantified_46 a0 a1 a2 a3 a4 a5 0 q36.2
def f_Mo_openLevel (a0 : Nat) (a1 : Int) (a2 : Int) (h : zH) : Option (zH) :=
  (z_gR h 9 a0 17).bind fun v1 =>
  (z_sI h 20 v1 a1 a2).bind fun h2 =>
  (z_gR h2 9 a0 18).bind fun v3 =>
  (z_sI h2 20 v3 a1 a2).bind fun h4 =>
  (z_gR h4 9 a0 19).bind fun v5 =>
  (z_sI h4 22 v5 a1 (0 % 2)).bind fun h6 =>
  (z_gR h6 9 a0 20).bind fun v7 =>
  (z_sI h6 22 v7 a1 (1 % 2)).bind fun h8 =>
  some h8
def f_Mo_note_45 (a0 : Nat) (a3 : Int) (s0 : Nat) (s1 : Int) (s2 : Int) (h : zH) : Option (zH) :=
  (z_sI h 22 s0 s1 (s2 % 2)).bind fun h1 =>
  (z_gR h1 9 a0 20).bind fun v2 =>
  (z_sI h1 22 v2 a3 (1 % 2)).bind fun h3 =>
  some h3
def f_Mo_note_40 (a0 : Nat) (a3 : Int) (s0 : Nat) (s1 : Int) (h : zH) : Option (zH) :=
  f_Mo_note_45 a0 a3 s0 s1 1 h
def f_Mo_note (a0 : Nat) (a1 : Int) (a2 : Int) (a3 : Int) (h : zH) : Option (zH) :=
  (z_gR h 9 a0 14).bind fun v4 =>
  (z_gR h 9 a0 17).bind fun v5 =>
  (z_aI h 20 v5 a3).bind fun v6 =>
  (z_sI h 20 v4 (zw ((zw (21 * a1)) + a2)) v6).bind fun h7 =>
  (z_gR h7 9 a0 19).bind fun v8 =>
  (z_gR h7 9 a0 19).bind fun v9 =>
  (z_aI h7 22 v9 a3).bind fun v10 =>
  if v10 = 0 then
    (z_gR h7 9 a0 20).bind fun v11 =>
    (z_aI h7 22 v11 a3).bind fun v12 =>
    if v12 = 0 then
      f_Mo_note_45 a0 a3 v8 a3 0 h7
    else
      f_Mo_note_40 a0 a3 v8 a3 h7
  else
    f_Mo_note_40 a0 a3 v8 a3 h7
def f_Mo_parse_356 (a0 : Nat) (a1 : Int) (a3 : Int) (a4 : Int) (a6 : Int) (h : zH) : Option (Int × zH) :=
  if a6 < 0 then
    some (0, h)
  else
    if a4 ≤ 0 then
      (z_ck h 9 a0).bind fun n1 =>
      (f_Mo_note a0 a1 a3 0 h).bind fun h2 =>
      some (1, h2)
    else
      some (0, h)
def f_Mo_parse_353 (c71 : Nat → Int → Int → Int → Int → Int → Int → zH → Option (Int × zH)) (a0 : Nat) (a1 : Int) (a2 : Int) (a3 : Int) (a4 : Int) (a5 : Int) (a6 : Int) (h : zH) : Option (Int × zH) :=
  c71 a0 a1 a2 a3 a4 a5 a6 h
def f_Mo_parse_218 (c71 : Nat → Int → Int → Int → Int → Int → Int → zH → Option (Int × zH)) (a0 : Nat) (a1 : Int) (a2 : Int) (a3 : Int) (a4 : Int) (a5 : Int) (a6 : Int) (h : zH) : Option (Int × zH) :=
  f_Mo_parse_353 c71 a0 a1 a2 a3 a4 a5 (zw (a6 + 1)) h
def f_Mo_parse_351 (c71 : Nat → Int → Int → Int → Int → Int → Int → zH → Option (Int × zH)) (a0 : Nat) (a1 : Int) (a2 : Int) (a3 : Int) (a4 : Int) (a5 : Int) (s0 : Int) (h : zH) : Option (Int × zH) :=
  f_Mo_parse_353 c71 a0 a1 a2 a3 a4 a5 s0 h
def f_Mo_parse_327 (c71 : Nat → Int → Int → Int → Int → Int → Int → zH → Option (Int × zH)) (a0 : Nat) (a1 : Int) (a2 : Int) (a3 : Int) (a4 : Int) (a5 : Int) (a6 : Int) (a9 : Int) (s0 : Int) (h : zH) : Option (Int × zH) :=
  if 0 ≤ a9 then
    (z_ck h 9 a0).bind fun n5 =>
    (f_Mo_quantified a0 a1 a6 a9 s0 a4 h).bind fun q6 =>
    f_Mo_parse_351 c71 a0 a1 a2 a3 a4 a5 q6.1 q6.2
  else
    f_Mo_parse_351 c71 a0 a1 a2 a3 a4 a5 (-1) h
def f_Mo_parse_322 (c71 : Nat → Int → Int → Int → Int → Int → Int → zH → Option (Int × zH)) (a0 : Nat) (a1 : Int) (a2 : Int) (a3 : Int) (a4 : Int) (a5 : Int) (a6 : Int) (a9 : Int) (h : zH) : Option (Int × zH) :=
  f_Mo_parse_327 c71 a0 a1 a2 a3 a4 a5 a6 a9 1 h
def f_Mo_parse_71 : Nat → Nat → Int → Int → Int → Int → Int → Int → zH → Option (Int × zH)
  | 0 => fun _ _ _ _ _ _ _ _ => none
  | n + 1 => fun a0 a1 a2 a3 a4 a5 a6 h =>
  if a6 < 0 then
    f_Mo_parse_356 a0 a1 a3 a4 a6 h
  else
    if a3 ≤ a6 then
      f_Mo_parse_356 a0 a1 a3 a4 a6 h
    else
      (z_ck h 9 a0).bind fun n8 =>
      (f_Mo_at a0 a1 a6 h).bind fun q9 =>
      (z_gR q9.2 9 a0 15).bind fun v10 =>
      (z_sI q9.2 20 v10 (zw ((zw (21 * a1)) + a6)) (-1)).bind fun h11 =>
      if q9.1 = 40 then
        if (zw (a5 + 1)) ≤ 3 then
          (z_gR h11 9 a0 13).bind fun v41 =>
          (z_sI h11 20 v41 (zw ((zw (21 * a1)) + a6)) (zw ((zw (a5 + 1)) - 1))).bind fun h42 =>
          (z_ck h42 9 a0).bind fun n43 =>
          (f_Mo_openLevel a0 (zw (a4 + 1)) a6 h42).bind fun h44 =>
          f_Mo_parse_353 (f_Mo_parse_71 n) a0 a1 a2 a3 (zw (a4 + 1)) (zw (a5 + 1)) (zw (a6 + 1)) h44
        else
          some (0, h11)
      else
        if q9.1 = 124 then
          (z_ck h11 9 a0).bind fun n29 =>
          (f_Mo_note a0 a1 a6 a4 h11).bind fun h30 =>
          (z_gR h30 9 a0 18).bind fun v31 =>
          (z_aI h30 20 v31 a4).bind fun v32 =>
          (z_gR h30 9 a0 18).bind fun v33 =>
          (z_sI h30 20 v33 a4 a6).bind fun h34 =>
          if 0 ≤ v32 then
            (z_gR h34 9 a0 15).bind fun v35 =>
            (z_sI h34 20 v35 (zw ((zw (21 * a1)) + v32)) a6).bind fun h36 =>
            f_Mo_parse_218 (f_Mo_parse_71 n) a0 a1 a2 a3 a4 a5 a6 h36
          else
            (z_gR h34 9 a0 16).bind fun v37 =>
            (z_sI h34 20 v37 a1 a6).bind fun h38 =>
            f_Mo_parse_218 (f_Mo_parse_71 n) a0 a1 a2 a3 a4 a5 a6 h38
        else
          if q9.1 = 41 then
            if a4 = 0 then
              some (0, h11)
            else
              (z_ck h11 9 a0).bind fun n19 =>
              (f_Mo_note a0 a1 a6 a4 h11).bind fun h20 =>
              (z_gR h20 9 a0 19).bind fun v21 =>
              (z_aI h20 22 v21 a4).bind fun v22 =>
              (z_gR h20 9 a0 17).bind fun v23 =>
              (z_aI h20 20 v23 a4).bind fun v24 =>
              (z_ck h20 9 a0).bind fun n25 =>
              (f_Mo_quantified a0 a1 v24 (zw (a6 + 1)) v22 (zw (a4 + (-1))) h20).bind fun q26 =>
              f_Mo_parse_353 (f_Mo_parse_71 n) a0 a1 a2 a3 (zw (a4 + (-1))) a5 q26.1 q26.2
          else
            (z_ck h11 9 a0).bind fun n12 =>
            (f_Mo_simple a0 a1 a6 a2 h11).bind fun q13 =>
            if q9.1 = 94 then
              f_Mo_parse_322 (f_Mo_parse_71 n) a0 a1 a2 a3 a4 a5 a6 q13.1 q13.2
            else
              if q9.1 = 36 then
                f_Mo_parse_322 (f_Mo_parse_71 n) a0 a1 a2 a3 a4 a5 a6 q13.1 q13.2
              else
                (z_ck q13.2 9 a0).bind fun n14 =>
                (f_Mo_isRef a0 a1 a6 q13.2).bind fun q15 =>
                if q15.1 = 0 then
                  f_Mo_parse_327 (f_Mo_parse_71 n) a0 a1 a2 a3 a4 a5 a6 q13.1 0 q15.2
                else
                  f_Mo_parse_322 (f_Mo_parse_71 n) a0 a1 a2 a3 a4 a5 a6 q13.1 q15.2
def f_Mo_parse_10 : Nat → Nat → Int → Int → Int → Int → zH → Option (Int × zH)
  | 0 => fun _ _ _ _ _ _ => none
  | n + 1 => fun a0 a1 a2 a3 a4 h =>
  if a3 ≤ a4 then
    if a3 < 1 then
      some (0, h)
    else
      if a3 ≤ 20 then
        (z_ck h 9 a0).bind fun n49 =>
        (f_Mo_openLevel a0 0 (-1) h).bind fun h50 =>
        (z_gR h50 9 a0 16).bind fun v51 =>
        (z_sI h50 20 v51 a1 (-1)).bind fun h52 =>
        f_Mo_parse_71 100000 a0 a1 a2 a3 0 0 0 h52
      else
        some (0, h)
  else
    (z_ck h 9 a0).bind fun n55 =>
    (f_Mo_at a0 a1 a4 h).bind fun q56 =>
    if q56.1 = 32 then
      some (0, q56.2)
    else
      f_Mo_parse_10 n a0 a1 a2 a3 (zw (a4 + 1)) q56.2
def f_Mo_parse (a0 : Nat) (a1 : Int) (a2 : Int) (h : zH) : Option (Int × zH) :=
  (z_gR h 9 a0 8).bind fun v59 =>
  (z_aI h 20 v59 a1).bind fun v60 =>
  f_Mo_parse_10 100000 a0 a1 a2 v60 0 h
def f_Mo_inItems_161 (c54 : Nat → Int → Int → Int → Int → Int → Int → zH → Option (Int × zH)) (a0 : Nat) (a1 : Int) (a3 : Int) (a4 : Int) (a6 : Int) (a7 : Int) (s0 : Int) (h : zH) : Option (Int × zH) :=
  c54 a0 a1 a3 a4 s0 a6 a7 h
def f_Mo_inItems_143 (c54 : Nat → Int → Int → Int → Int → Int → Int → zH → Option (Int × zH)) (a0 : Nat) (a1 : Int) (a3 : Int) (a4 : Int) (a5 : Int) (a7 : Int) (a8 : Int) (s0 : Int) (h : zH) : Option (Int × zH) :=
  if a8 = 0 then
    f_Mo_inItems_161 c54 a0 a1 a3 a4 s0 a7 (zw (a5 + 1)) h
  else
    f_Mo_inItems_161 c54 a0 a1 a3 a4 s0 a7 (zw (a5 + 3)) h
def f_Mo_inItems_138 (c54 : Nat → Int → Int → Int → Int → Int → Int → zH → Option (Int × zH)) (a0 : Nat) (a1 : Int) (a3 : Int) (a4 : Int) (a5 : Int) (a7 : Int) (a8 : Int) (h : zH) : Option (Int × zH) :=
  f_Mo_inItems_143 c54 a0 a1 a3 a4 a5 a7 a8 1 h
def f_Mo_inItems_142 (c54 : Nat → Int → Int → Int → Int → Int → Int → zH → Option (Int × zH)) (a0 : Nat) (a1 : Int) (a3 : Int) (a4 : Int) (a5 : Int) (a7 : Int) (a8 : Int) (h : zH) : Option (Int × zH) :=
  f_Mo_inItems_143 c54 a0 a1 a3 a4 a5 a7 a8 0 h
def f_Mo_inItems_119 (c54 : Nat → Int → Int → Int → Int → Int → Int → zH → Option (Int × zH)) (a0 : Nat) (a1 : Int) (a3 : Int) (a4 : Int) (a5 : Int) (a6 : Int) (a7 : Int) (a8 : Int) (a9 : Int) (s0 : Int) (h : zH) : Option (Int × zH) :=
  if a6 = 0 then
    if a3 < a9 then
      f_Mo_inItems_142 c54 a0 a1 a3 a4 a5 a7 a8 h
    else
      if s0 < a3 then
        f_Mo_inItems_142 c54 a0 a1 a3 a4 a5 a7 a8 h
      else
        f_Mo_inItems_138 c54 a0 a1 a3 a4 a5 a7 a8 h
  else
    f_Mo_inItems_138 c54 a0 a1 a3 a4 a5 a7 a8 h
def f_Mo_inItems_89 (c54 : Nat → Int → Int → Int → Int → Int → Int → zH → Option (Int × zH)) (a0 : Nat) (a1 : Int) (a3 : Int) (a4 : Int) (a5 : Int) (a6 : Int) (a7 : Int) (s0 : Int) (h : zH) : Option (Int × zH) :=
  (z_ck h 9 a0).bind fun n5 =>
  (f_Mo_at a0 a1 a5 h).bind fun q6 =>
  if s0 = 0 then
    f_Mo_inItems_119 c54 a0 a1 a3 a4 a5 a6 a7 s0 q6.1 q6.1 q6.2
  else
    (z_ck q6.2 9 a0).bind fun n7 =>
    (f_Mo_at a0 a1 (zw (a5 + 2)) q6.2).bind fun q8 =>
    f_Mo_inItems_119 c54 a0 a1 a3 a4 a5 a6 a7 s0 q6.1 q8.1 q8.2
def f_Mo_inItems_88 (c54 : Nat → Int → Int → Int → Int → Int → Int → zH → Option (Int × zH)) (a0 : Nat) (a1 : Int) (a3 : Int) (a4 : Int) (a5 : Int) (a6 : Int) (a7 : Int) (h : zH) : Option (Int × zH) :=
  f_Mo_inItems_89 c54 a0 a1 a3 a4 a5 a6 a7 0 h
def f_Mo_inItems_54 : Nat → Nat → Int → Int → Int → Int → Int → Int → zH → Option (Int × zH)
  | 0 => fun _ _ _ _ _ _ _ _ => none
  | n + 1 => fun a0 a1 a3 a4 a5 a6 a7 h =>
  if a7 ≤ a5 then
    if a6 = a4 then
      some (0, h)
    else
      some (1, h)
  else
    (z_ck h 9 a0).bind fun n11 =>
    (f_Mo_at a0 a1 (zw (a5 + 1)) h).bind fun q12 =>
    if q12.1 = 45 then
      if a7 ≤ (zw (a5 + 2)) then
        f_Mo_inItems_88 (f_Mo_inItems_54 n) a0 a1 a3 a4 a5 a6 a7 q12.2
      else
        f_Mo_inItems_89 (f_Mo_inItems_54 n) a0 a1 a3 a4 a5 a6 a7 1 q12.2
    else
      f_Mo_inItems_88 (f_Mo_inItems_54 n) a0 a1 a3 a4 a5 a6 a7 q12.2
def f_Mo_inItems_34 (a0 : Nat) (a1 : Int) (a2 : Int) (a3 : Int) (a4 : Int) (s0 : Int) (h : zH) : Option (Int × zH) :=
  (z_gR h 9 a0 11).bind fun v16 =>
  (z_aI h 20 v16 (zw ((zw (21 * a1)) + a2))).bind fun v17 =>
  f_Mo_inItems_54 100000 a0 a1 a3 a4 s0 0 (zw (v17 - 1)) h
def f_Mo_inItems_18 (a0 : Nat) (a1 : Int) (a2 : Int) (a3 : Int) (s0 : Int) (h : zH) : Option (Int × zH) :=
  if s0 = 0 then
    f_Mo_inItems_34 a0 a1 a2 a3 s0 (zw (a2 + 1)) h
  else
    f_Mo_inItems_34 a0 a1 a2 a3 s0 (zw (a2 + 2)) h
def f_Mo_inItems (a0 : Nat) (a1 : Int) (a2 : Int) (a3 : Int) (h : zH) : Option (Int × zH) :=
  (z_ck h 9 a0).bind fun n19 =>
  (f_Mo_at a0 a1 (zw (a2 + 1)) h).bind fun q20 =>
  if q20.1 = 94 then
    f_Mo_inItems_18 a0 a1 a2 a3 1 q20.2
  else
    f_Mo_inItems_18 a0 a1 a2 a3 0 q20.2
def f_Mo_push_40 : Nat → Nat → Int → Int → zH → Option (zH)
  | 0 => fun _ _ _ _ => none
  | n + 1 => fun a0 a4 a5 h =>
  if 6 ≤ a5 then
    (z_gI h 9 a0 26).bind fun v1 =>
    (z_pI h 9 a0 26 (zw (v1 + 1))).bind fun h2 =>
    some h2
  else
    (z_gR h 9 a0 27).bind fun v3 =>
    (z_gR h 9 a0 25).bind fun v4 =>
    (z_aI h 20 v4 a5).bind fun v5 =>
    (z_sI h 20 v3 (zw ((zw (a4 + 3)) + a5)) v5).bind fun h6 =>
    f_Mo_push_40 n a0 a4 (zw (a5 + 1)) h6
def f_Mo_push (a0 : Nat) (a1 : Int) (a2 : Int) (a3 : Int) (h : zH) : Option (zH) :=
  (z_gI h 9 a0 26).bind fun v8 =>
  (z_gR h 9 a0 27).bind fun v9 =>
  (z_sI h 20 v9 (zw (9 * v8)) a1).bind fun h10 =>
  (z_gR h10 9 a0 27).bind fun v11 =>
  (z_sI h10 20 v11 (zw ((zw (9 * v8)) + 1)) a2).bind fun h12 =>
  (z_gR h12 9 a0 27).bind fun v13 =>
  (z_sI h12 20 v13 (zw ((zw (9 * v8)) + 2)) a3).bind fun h14 =>
  f_Mo_push_40 100000 a0 (zw (9 * v8)) 0 h14
def f_Mo_step (a0 : Nat) (h : zH) : Option (Int × zH) :=
  (z_gI h 9 a0 21).bind fun v1 =>
  (z_gI h 9 a0 0).bind fun v2 =>
  if v1 = v2 then
    (z_pZ h 9 a0 22 1).bind fun h5 =>
    some (0, h5)
  else
    (z_gI h 9 a0 21).bind fun v3 =>
    (z_pI h 9 a0 21 (zw (v3 + 1))).bind fun h4 =>
    some (1, h4)
def f_Mo_fits_37 : Nat → Nat → Int → Int → Int → Int → zH → Option (Int × zH)
  | 0 => fun _ _ _ _ _ _ => none
  | n + 1 => fun a0 a3 a6 a7 a8 h =>
  (z_gR h 9 a0 28).bind fun v1 =>
  (z_aI h 20 v1 a6).bind fun v2 =>
  if v2 ≤ a8 then
    some (a7, h)
  else
    (z_ck h 9 a0).bind fun n3 =>
    (f_Mo_step a0 h).bind fun q4 =>
    if q4.1 = 0 then
      some ((-1), q4.2)
    else
      (z_gR q4.2 9 a0 32).bind fun v5 =>
      (z_aI q4.2 20 v5 a3).bind fun v6 =>
      if v6 ≤ a7 then
        some ((-1), q4.2)
      else
        (z_gR q4.2 9 a0 33).bind fun v7 =>
        (z_aI q4.2 20 v7 (zw ((zw (24 * a3)) + a7))).bind fun v8 =>
        (z_gR q4.2 9 a0 29).bind fun v9 =>
        (z_aI q4.2 20 v9 (zw ((zw (24 * a6)) + a8))).bind fun v10 =>
        if v8 = v10 then
          f_Mo_fits_37 n a0 a3 a6 (zw (a7 + 1)) (zw (a8 + 1)) q4.2
        else
          some ((-1), q4.2)
def f_Mo_fits_151 (a4 : Int) (s0 : Int) (s1 : Int) (h : zH) : Option (Int × zH) :=
  if s0 = s1 then
    some (a4, h)
  else
    some ((-1), h)
def f_Mo_fits_132 (a0 : Nat) (a3 : Int) (a4 : Int) (a5 : Int) (h : zH) : Option (Int × zH) :=
  if a5 = 94 then
    f_Mo_fits_151 a4 a4 0 h
  else
    (z_gR h 9 a0 32).bind fun v16 =>
    (z_aI h 20 v16 a3).bind fun v17 =>
    f_Mo_fits_151 a4 a4 v17 h
def f_Mo_fits_251 (a4 : Int) (s0 : Int) (h : zH) : Option (Int × zH) :=
  if s0 = 0 then
    some ((-1), h)
  else
    some (zw (a4 + 1), h)
def f_Mo_fits_246 (a4 : Int) (h : zH) : Option (Int × zH) :=
  f_Mo_fits_251 a4 1 h
def f_Mo_fits_250 (a4 : Int) (h : zH) : Option (Int × zH) :=
  f_Mo_fits_251 a4 0 h
def f_Mo_fits (a0 : Nat) (a1 : Int) (a2 : Int) (a3 : Int) (a4 : Int) (h : zH) : Option (Int × zH) :=
  (z_ck h 9 a0).bind fun n20 =>
  (f_Mo_at a0 a1 a2 h).bind fun q21 =>
  (z_ck q21.2 9 a0).bind fun n22 =>
  (f_Mo_isRef a0 a1 a2 q21.2).bind fun q23 =>
  if q23.1 = 0 then
    (z_ck q23.2 9 a0).bind fun n24 =>
    (f_Mo_step a0 q23.2).bind fun q25 =>
    if q25.1 = 0 then
      some ((-1), q25.2)
    else
      if q21.1 = 94 then
        f_Mo_fits_132 a0 a3 a4 q21.1 q25.2
      else
        if q21.1 = 36 then
          f_Mo_fits_132 a0 a3 a4 q21.1 q25.2
        else
          (z_gR q25.2 9 a0 32).bind fun v26 =>
          (z_aI q25.2 20 v26 a3).bind fun v27 =>
          if a4 < v27 then
            (z_gR q25.2 9 a0 33).bind fun v28 =>
            (z_aI q25.2 20 v28 (zw ((zw (24 * a3)) + a4))).bind fun v29 =>
            if q21.1 = 46 then
              f_Mo_fits_246 a4 q25.2
            else
              if q21.1 = 91 then
                (z_ck q25.2 9 a0).bind fun n35 =>
                (f_Mo_inItems a0 a1 a2 v29 q25.2).bind fun q36 =>
                if q36.1 = 0 then
                  f_Mo_fits_250 a4 q36.2
                else
                  f_Mo_fits_246 a4 q36.2
              else
                if q21.1 = 92 then
                  (z_ck q25.2 9 a0).bind fun n31 =>
                  (f_Mo_at a0 a1 (zw (a2 + 1)) q25.2).bind fun q32 =>
                  if q32.1 = v29 then
                    f_Mo_fits_246 a4 q32.2
                  else
                    f_Mo_fits_250 a4 q32.2
                else
                  if q21.1 = v29 then
                    f_Mo_fits_246 a4 q25.2
                  else
                    f_Mo_fits_250 a4 q25.2
          else
            some ((-1), q25.2)
  else
    (z_ck q23.2 9 a0).bind fun n44 =>
    (f_Mo_at a0 a1 (zw (a2 + 1)) q23.2).bind fun q45 =>
    f_Mo_fits_37 100000 a0 a3 (zw (q45.1 - 49)) a4 0 q45.2
def f_Mo_ended_23 (h : zH) : Option (Int × zH) :=
  some (1, h)
def f_Mo_ended (a0 : Nat) (a1 : Int) (a2 : Int) (h : zH) : Option (Int × zH) :=
  (z_ck h 9 a0).bind fun n1 =>
  (f_Mo_at a0 a1 a2 h).bind fun q2 =>
  if q2.1 = 0 then
    f_Mo_ended_23 q2.2
  else
    if q2.1 = 124 then
      f_Mo_ended_23 q2.2
    else
      if q2.1 = 41 then
        f_Mo_ended_23 q2.2
      else
        some (0, q2.2)
def f_Mo_match_568 (a0 : Nat) (a4 : Int) (h : zH) : Option (zH) :=
  (z_pI h 9 a0 24 a4).bind fun h1 =>
  some h1
def f_Mo_match_562 (c63 : Nat → Int → Int → Int → Int → Int → Int → zH → Option (zH)) (a0 : Nat) (a1 : Int) (a2 : Int) (a4 : Int) (a5 : Int) (a6 : Int) (a7 : Int) (h : zH) : Option (zH) :=
  c63 a0 a1 a2 a4 a5 a6 (zw (a7 + 1)) h
def f_Mo_match_326 (c63 : Nat → Int → Int → Int → Int → Int → Int → zH → Option (zH)) (a0 : Nat) (a1 : Int) (a2 : Int) (a4 : Int) (a5 : Int) (a7 : Int) (s0 : Int) (h : zH) : Option (zH) :=
  f_Mo_match_562 c63 a0 a1 a2 a4 a5 s0 a7 h
def f_Mo_match_314 (c63 : Nat → Int → Int → Int → Int → Int → Int → zH → Option (zH)) (a0 : Nat) (a1 : Int) (a2 : Int) (a4 : Int) (a7 : Int) (a9 : Int) (s0 : Int) (h : zH) : Option (zH) :=
  if a9 = 0 then
    f_Mo_match_326 c63 a0 a1 a2 a4 s0 a7 1 h
  else
    f_Mo_match_326 c63 a0 a1 a2 a4 s0 a7 0 h
def f_Mo_match_292 (c63 : Nat → Int → Int → Int → Int → Int → Int → zH → Option (zH)) (a0 : Nat) (a1 : Int) (a2 : Int) (a4 : Int) (a5 : Int) (a7 : Int) (a8 : Int) (a9 : Int) (s0 : Nat) (s1 : Int) (s2 : Int) (h : zH) : Option (zH) :=
  (z_ck h 9 s0).bind fun n3 =>
  (f_Mo_push s0 s1 s2 a4 h).bind fun h4 =>
  if a9 = 0 then
    f_Mo_match_314 c63 a0 a1 a2 a4 a7 a9 a5 h4
  else
    (z_gR h4 9 a0 12).bind fun v5 =>
    (z_aI h4 20 v5 a8).bind fun v6 =>
    f_Mo_match_314 c63 a0 a1 a2 a4 a7 a9 v6 h4
def f_Mo_match_275 (c63 : Nat → Int → Int → Int → Int → Int → Int → zH → Option (zH)) (a0 : Nat) (a1 : Int) (a2 : Int) (a4 : Int) (a5 : Int) (a7 : Int) (a8 : Int) (a9 : Int) (s0 : Nat) (s1 : Int) (h : zH) : Option (zH) :=
  if a9 = 0 then
    (z_gR h 9 a0 12).bind fun v8 =>
    (z_aI h 20 v8 a8).bind fun v9 =>
    f_Mo_match_292 c63 a0 a1 a2 a4 a5 a7 a8 a9 s0 s1 v9 h
  else
    f_Mo_match_292 c63 a0 a1 a2 a4 a5 a7 a8 a9 s0 s1 a5 h
def f_Mo_match_262 (c63 : Nat → Int → Int → Int → Int → Int → Int → zH → Option (zH)) (a0 : Nat) (a1 : Int) (a2 : Int) (a4 : Int) (a5 : Int) (a7 : Int) (a8 : Int) (s0 : Int) (h : zH) : Option (zH) :=
  if s0 = 0 then
    f_Mo_match_275 c63 a0 a1 a2 a4 a5 a7 a8 s0 a0 0 h
  else
    f_Mo_match_275 c63 a0 a1 a2 a4 a5 a7 a8 s0 a0 1 h
def f_Mo_match_246 (c63 : Nat → Int → Int → Int → Int → Int → Int → zH → Option (zH)) (a0 : Nat) (a1 : Int) (a2 : Int) (a4 : Int) (a5 : Int) (a7 : Int) (a8 : Int) (h : zH) : Option (zH) :=
  (z_gR h 9 a0 10).bind fun v12 =>
  (z_aI h 20 v12 a8).bind fun v13 =>
  if v13 ≤ 4 then
    f_Mo_match_262 c63 a0 a1 a2 a4 a5 a7 a8 0 h
  else
    f_Mo_match_262 c63 a0 a1 a2 a4 a5 a7 a8 1 h
def f_Mo_match_401 (c63 : Nat → Int → Int → Int → Int → Int → Int → zH → Option (zH)) (a0 : Nat) (a1 : Int) (a2 : Int) (a4 : Int) (a5 : Int) (a7 : Int) (h : zH) : Option (zH) :=
  f_Mo_match_562 c63 a0 a1 a2 a4 (zw (a5 + 1)) 0 a7 h
def f_Mo_match_377 (c63 : Nat → Int → Int → Int → Int → Int → Int → zH → Option (zH)) (a0 : Nat) (a1 : Int) (a2 : Int) (a4 : Int) (a5 : Int) (a7 : Int) (a8 : Int) (h : zH) : Option (zH) :=
  (z_gR h 9 a0 15).bind fun v15 =>
  (z_aI h 20 v15 a8).bind fun v16 =>
  if v16 < 0 then
    f_Mo_match_401 c63 a0 a1 a2 a4 a5 a7 h
  else
    (z_gR h 9 a0 15).bind fun v17 =>
    (z_aI h 20 v17 a8).bind fun v18 =>
    (z_ck h 9 a0).bind fun n19 =>
    (f_Mo_push a0 3 v18 a4 h).bind fun h20 =>
    f_Mo_match_401 c63 a0 a1 a2 a4 a5 a7 h20
def f_Mo_match_355 (c63 : Nat → Int → Int → Int → Int → Int → Int → zH → Option (zH)) (a0 : Nat) (a1 : Int) (a2 : Int) (a4 : Int) (a5 : Int) (a6 : Int) (a7 : Int) (a8 : Int) (h : zH) : Option (zH) :=
  if a6 = 1 then
    (z_gR h 9 a0 25).bind fun v22 =>
    (z_gR h 9 a0 13).bind fun v23 =>
    (z_aI h 20 v23 a8).bind fun v24 =>
    (z_sI h 20 v22 (zw (2 * v24)) a4).bind fun h25 =>
    f_Mo_match_377 c63 a0 a1 a2 a4 a5 a7 a8 h25
  else
    f_Mo_match_377 c63 a0 a1 a2 a4 a5 a7 a8 h
def f_Mo_match_452 (c63 : Nat → Int → Int → Int → Int → Int → Int → zH → Option (zH)) (a0 : Nat) (a1 : Int) (a2 : Int) (a4 : Int) (a5 : Int) (a7 : Int) (s0 : Int) (h : zH) : Option (zH) :=
  f_Mo_match_562 c63 a0 a1 a2 a4 a5 s0 a7 h
def f_Mo_match_440 (c63 : Nat → Int → Int → Int → Int → Int → Int → zH → Option (zH)) (a0 : Nat) (a1 : Int) (a2 : Int) (a5 : Int) (a7 : Int) (a9 : Int) (s0 : Int) (h : zH) : Option (zH) :=
  if 0 ≤ a9 then
    f_Mo_match_452 c63 a0 a1 a2 s0 a5 a7 2 h
  else
    f_Mo_match_452 c63 a0 a1 a2 s0 a5 a7 4 h
def f_Mo_match_471 (a0 : Nat) (h : zH) : Option (zH) :=
  (z_pI h 9 a0 24 (-1)).bind fun h28 =>
  some h28
def f_Mo_match_530 (c63 : Nat → Int → Int → Int → Int → Int → Int → zH → Option (zH)) : Nat → Nat → Int → Int → Int → Int → Int → Int → Int → Int → zH → Option (zH)
  | 0 => fun _ _ _ _ _ _ _ _ _ _ => none
  | n + 1 => fun a0 a1 a2 a4 a5 a6 a7 a9 a10 h =>
  if 6 ≤ a10 then
    f_Mo_match_562 c63 a0 a1 a2 a4 a5 a6 a7 h
  else
    (z_gR h 9 a0 25).bind fun v29 =>
    (z_gR h 9 a0 27).bind fun v30 =>
    (z_aI h 20 v30 (zw ((zw (a9 + 3)) + a10))).bind fun v31 =>
    (z_sI h 20 v29 a10 v31).bind fun h32 =>
    f_Mo_match_530 c63 n a0 a1 a2 a4 a5 a6 a7 a9 (zw (a10 + 1)) h32
def f_Mo_match_349 (c63 : Nat → Int → Int → Int → Int → Int → Int → zH → Option (zH)) (a0 : Nat) (a1 : Int) (a2 : Int) (a4 : Int) (a5 : Int) (a6 : Int) (a7 : Int) (a8 : Int) (h : zH) : Option (zH) :=
  if a6 = 3 then
    f_Mo_match_355 c63 a0 a1 a2 a4 a5 a6 a7 a8 h
  else
    if a6 = 1 then
      (z_ck h 9 a0).bind fun n47 =>
      (f_Mo_fits a0 a1 a5 a2 a4 h).bind fun q48 =>
      if 0 ≤ q48.1 then
        f_Mo_match_440 c63 a0 a1 a2 a5 a7 q48.1 q48.1 q48.2
      else
        f_Mo_match_440 c63 a0 a1 a2 a5 a7 q48.1 a4 q48.2
    else
      (z_gI h 9 a0 26).bind fun v34 =>
      if v34 = 0 then
        f_Mo_match_471 a0 h
      else
        (z_gI h 9 a0 22).bind fun v35 =>
        if v35 = 0 then
          (z_gI h 9 a0 26).bind fun v36 =>
          (z_pI h 9 a0 26 (zw (v36 - 1))).bind fun h37 =>
          (z_gI h37 9 a0 26).bind fun v38 =>
          (z_gR h37 9 a0 27).bind fun v39 =>
          (z_aI h37 20 v39 (zw (9 * v38))).bind fun v40 =>
          (z_gR h37 9 a0 27).bind fun v41 =>
          (z_aI h37 20 v41 (zw ((zw (9 * v38)) + 1))).bind fun v42 =>
          (z_gR h37 9 a0 27).bind fun v43 =>
          (z_aI h37 20 v43 (zw ((zw (9 * v38)) + 2))).bind fun v44 =>
          f_Mo_match_530 c63 100000 a0 a1 a2 v44 v42 v40 a7 (zw (9 * v38)) 0 h37
        else
          f_Mo_match_471 a0 h
def f_Mo_match_235 (c63 : Nat → Int → Int → Int → Int → Int → Int → zH → Option (zH)) (a0 : Nat) (a1 : Int) (a2 : Int) (a4 : Int) (a5 : Int) (a6 : Int) (a7 : Int) (a8 : Int) (h : zH) : Option (zH) :=
  if a6 = 0 then
    f_Mo_match_246 c63 a0 a1 a2 a4 a5 a7 a8 h
  else
    if a6 = 2 then
      f_Mo_match_246 c63 a0 a1 a2 a4 a5 a7 a8 h
    else
      if a6 = 1 then
        (z_ck h 9 a0).bind fun n52 =>
        (f_Mo_at a0 a1 a5 h).bind fun q53 =>
        if q53.1 = 40 then
          f_Mo_match_355 c63 a0 a1 a2 a4 a5 a6 a7 a8 q53.2
        else
          f_Mo_match_349 c63 a0 a1 a2 a4 a5 a6 a7 a8 q53.2
      else
        f_Mo_match_349 c63 a0 a1 a2 a4 a5 a6 a7 a8 h
def f_Mo_match_220 (c63 : Nat → Int → Int → Int → Int → Int → Int → zH → Option (zH)) (a0 : Nat) (a1 : Int) (a2 : Int) (a4 : Int) (a7 : Int) (a8 : Int) (h : zH) : Option (zH) :=
  (z_gR h 9 a0 12).bind fun v58 =>
  (z_aI h 20 v58 a8).bind fun v59 =>
  f_Mo_match_562 c63 a0 a1 a2 a4 v59 0 a7 h
def f_Mo_match_191 (c63 : Nat → Int → Int → Int → Int → Int → Int → zH → Option (zH)) (a0 : Nat) (a1 : Int) (a2 : Int) (a4 : Int) (a5 : Int) (a6 : Int) (a7 : Int) (a8 : Int) (h : zH) : Option (zH) :=
  if a6 = 2 then
    (z_gR h 9 a0 10).bind fun v60 =>
    (z_aI h 20 v60 a8).bind fun v61 =>
    if v61 = 0 then
      f_Mo_match_220 c63 a0 a1 a2 a4 a7 a8 h
    else
      (z_gR h 9 a0 10).bind fun v62 =>
      (z_aI h 20 v62 a8).bind fun v63 =>
      if (zw (v63 - v63.tdiv 4 * 4)) = 3 then
        f_Mo_match_220 c63 a0 a1 a2 a4 a7 a8 h
      else
        f_Mo_match_235 c63 a0 a1 a2 a4 a5 a6 a7 a8 h
  else
    f_Mo_match_235 c63 a0 a1 a2 a4 a5 a6 a7 a8 h
def f_Mo_match_185 (c63 : Nat → Int → Int → Int → Int → Int → Int → zH → Option (zH)) (a0 : Nat) (a1 : Int) (a2 : Int) (a4 : Int) (a5 : Int) (a7 : Int) (h : zH) : Option (zH) :=
  f_Mo_match_562 c63 a0 a1 a2 a4 a5 1 a7 h
def f_Mo_match_157 (c63 : Nat → Int → Int → Int → Int → Int → Int → zH → Option (zH)) (a0 : Nat) (a1 : Int) (a2 : Int) (a4 : Int) (a5 : Int) (a6 : Int) (a7 : Int) (a8 : Int) (h : zH) : Option (zH) :=
  if a6 = 0 then
    (z_gR h 9 a0 10).bind fun v67 =>
    (z_aI h 20 v67 a8).bind fun v68 =>
    if v68 = 0 then
      f_Mo_match_185 c63 a0 a1 a2 a4 a5 a7 h
    else
      (z_gR h 9 a0 10).bind fun v69 =>
      (z_aI h 20 v69 a8).bind fun v70 =>
      if (zw (v70 - v70.tdiv 4 * 4)) = 2 then
        f_Mo_match_185 c63 a0 a1 a2 a4 a5 a7 h
      else
        f_Mo_match_191 c63 a0 a1 a2 a4 a5 a6 a7 a8 h
  else
    f_Mo_match_191 c63 a0 a1 a2 a4 a5 a6 a7 a8 h
def f_Mo_match_154 (c63 : Nat → Int → Int → Int → Int → Int → Int → zH → Option (zH)) (a0 : Nat) (a1 : Int) (a2 : Int) (a4 : Int) (a5 : Int) (a6 : Int) (a7 : Int) (h : zH) : Option (zH) :=
  f_Mo_match_562 c63 a0 a1 a2 a4 a5 a6 a7 h
def f_Mo_match_120 (c63 : Nat → Int → Int → Int → Int → Int → Int → zH → Option (zH)) (a0 : Nat) (a1 : Int) (a2 : Int) (a4 : Int) (a5 : Int) (a7 : Int) (a9 : Int) (s0 : Int) (h : zH) : Option (zH) :=
  if a9 < 0 then
    f_Mo_match_154 c63 a0 a1 a2 a4 a5 s0 a7 h
  else
    (z_gR h 9 a0 25).bind fun v74 =>
    (z_gR h 9 a0 13).bind fun v75 =>
    (z_aI h 20 v75 (zw ((zw (21 * a1)) + a9))).bind fun v76 =>
    (z_sI h 20 v74 (zw ((zw (2 * v76)) + 1)) a4).bind fun h77 =>
    f_Mo_match_154 c63 a0 a1 a2 a4 a9 s0 a7 h77
def f_Mo_match_63 : Nat → Nat → Int → Int → Int → Int → Int → Int → zH → Option (zH)
  | 0 => fun _ _ _ _ _ _ _ _ => none
  | n + 1 => fun a0 a1 a2 a4 a5 a6 a7 h =>
  if 20000 ≤ a7 then
    f_Mo_match_568 a0 a4 h
  else
    if a6 = 5 then
      f_Mo_match_568 a0 a4 h
    else
      if a6 = 0 then
        (z_ck h 9 a0).bind fun n79 =>
        (f_Mo_ended a0 a1 a5 h).bind fun q80 =>
        if q80.1 = 0 then
          f_Mo_match_157 (f_Mo_match_63 n) a0 a1 a2 a4 a5 a6 a7 (zw ((zw (21 * a1)) + a5)) q80.2
        else
          (z_gR q80.2 9 a0 14).bind fun v81 =>
          (z_aI q80.2 20 v81 (zw ((zw (21 * a1)) + a5))).bind fun v82 =>
          if 0 ≤ v82 then
            f_Mo_match_120 (f_Mo_match_63 n) a0 a1 a2 a4 a5 a7 v82 2 q80.2
          else
            f_Mo_match_120 (f_Mo_match_63 n) a0 a1 a2 a4 a5 a7 v82 5 q80.2
      else
        f_Mo_match_157 (f_Mo_match_63 n) a0 a1 a2 a4 a5 a6 a7 (zw ((zw (21 * a1)) + a5)) h
def f_Mo_match_60 (a0 : Nat) (a1 : Int) (a2 : Int) (a4 : Int) (a5 : Int) (a6 : Int) (h : zH) : Option (zH) :=
  f_Mo_match_63 100000 a0 a1 a2 a4 a5 a6 0 h
def f_Mo_match_3 : Nat → Nat → Int → Int → Int → Int → zH → Option (zH)
  | 0 => fun _ _ _ _ _ _ => none
  | n + 1 => fun a0 a1 a2 a3 a4 h =>
  if 6 ≤ a4 then
    (z_pI h 9 a0 26 0).bind fun h88 =>
    (z_gR h88 9 a0 16).bind fun v89 =>
    (z_aI h88 20 v89 a1).bind fun v90 =>
    if v90 < 0 then
      f_Mo_match_60 a0 a1 a2 a3 0 0 h88
    else
      (z_gR h88 9 a0 16).bind fun v91 =>
      (z_aI h88 20 v91 a1).bind fun v92 =>
      (z_ck h88 9 a0).bind fun n93 =>
      (f_Mo_push a0 3 v92 a3 h88).bind fun h94 =>
      f_Mo_match_60 a0 a1 a2 a3 0 0 h94
  else
    (z_gR h 9 a0 25).bind fun v96 =>
    (z_sI h 20 v96 a4 (-1)).bind fun h97 =>
    f_Mo_match_3 n a0 a1 a2 a3 (zw (a4 + 1)) h97
def f_Mo_match (a0 : Nat) (a1 : Int) (a2 : Int) (a3 : Int) (h : zH) : Option (zH) :=
  f_Mo_match_3 100000 a0 a1 a2 a3 0 h
def f_Mo_search_65 (c18 : Nat → Int → Int → Int → zH → Option (zH)) (a0 : Nat) (a1 : Int) (a2 : Int) (a4 : Int) (s0 : Nat) (s1 : Int) (h : zH) : Option (zH) :=
  (z_pI h 9 s0 23 s1).bind fun h1 =>
  c18 a0 a1 a2 (zw (a4 + 1)) h1
def f_Mo_search_18 : Nat → Nat → Int → Int → Int → zH → Option (zH)
  | 0 => fun _ _ _ _ _ => none
  | n + 1 => fun a0 a1 a2 a4 h =>
  (z_gR h 9 a0 32).bind fun v2 =>
  (z_aI h 20 v2 a2).bind fun v3 =>
  if v3 < a4 then
    some h
  else
    (z_gI h 9 a0 23).bind fun v4 =>
    if 0 ≤ v4 then
      some h
    else
      (z_gI h 9 a0 22).bind fun v5 =>
      if v5 = 0 then
        (z_ck h 9 a0).bind fun n6 =>
        (f_Mo_match a0 a1 a2 a4 h).bind fun h7 =>
        (z_gI h7 9 a0 24).bind fun v8 =>
        if v8 < 0 then
          f_Mo_search_65 (f_Mo_search_18 n) a0 a1 a2 a4 a0 (-1) h7
        else
          f_Mo_search_65 (f_Mo_search_18 n) a0 a1 a2 a4 a0 a4 h7
      else
        some h
def f_Mo_search (a0 : Nat) (a1 : Int) (a2 : Int) (a3 : Int) (h : zH) : Option (zH) :=
  (z_pI h 9 a0 21 0).bind fun h13 =>
  (z_pZ h13 9 a0 22 0).bind fun h14 =>
  (z_pI h14 9 a0 23 (-1)).bind fun h15 =>
  f_Mo_search_18 100000 a0 a1 a2 a3 h15
def f_Mo_copyState_78 (c47 : Nat → Int → Int → Int → zH → Option (zH)) : Nat → Nat → Int → Int → Int → Int → zH → Option (zH)
  | 0 => fun _ _ _ _ _ _ => none
  | n + 1 => fun a0 a1 a2 a3 a4 h =>
  if 24 ≤ a4 then
    c47 a0 a1 a2 (zw (a3 + 1)) h
  else
    (z_gR h 9 a0 42).bind fun v1 =>
    (z_gR h 9 a0 42).bind fun v2 =>
    (z_aI h 20 v2 (zw ((zw ((zw (240 * a1)) + (zw (24 * a3)))) + a4))).bind fun v3 =>
    (z_sI h 20 v1 (zw ((zw ((zw (240 * a2)) + (zw (24 * a3)))) + a4)) v3).bind fun h4 =>
    f_Mo_copyState_78 c47 n a0 a1 a2 a3 (zw (a4 + 1)) h4
def f_Mo_copyState_47 : Nat → Nat → Int → Int → Int → zH → Option (zH)
  | 0 => fun _ _ _ _ _ => none
  | n + 1 => fun a0 a1 a2 a3 h =>
  if 10 ≤ a3 then
    some h
  else
    (z_gR h 9 a0 41).bind fun v6 =>
    (z_gR h 9 a0 41).bind fun v7 =>
    (z_aI h 20 v7 (zw ((zw (10 * a1)) + a3))).bind fun v8 =>
    (z_sI h 20 v6 (zw ((zw (10 * a2)) + a3)) v8).bind fun h9 =>
    f_Mo_copyState_78 (f_Mo_copyState_47 n) 100000 a0 a1 a2 a3 0 h9
def f_Mo_copyState_14 : Nat → Nat → Int → Int → Int → zH → Option (zH)
  | 0 => fun _ _ _ _ _ => none
  | n + 1 => fun a0 a1 a2 a3 h =>
  if 5 ≤ a3 then
    f_Mo_copyState_47 100000 a0 a1 a2 0 h
  else
    (z_gR h 9 a0 40).bind fun v11 =>
    (z_gR h 9 a0 40).bind fun v12 =>
    (z_aI h 20 v12 (zw ((zw (5 * a1)) + a3))).bind fun v13 =>
    (z_sI h 20 v11 (zw ((zw (5 * a2)) + a3)) v13).bind fun h14 =>
    f_Mo_copyState_14 n a0 a1 a2 (zw (a3 + 1)) h14
def f_Mo_copyState (a0 : Nat) (a1 : Int) (a2 : Int) (h : zH) : Option (zH) :=
  (z_gR h 9 a0 39).bind fun v16 =>
  (z_gR h 9 a0 39).bind fun v17 =>
  (z_aI h 20 v17 a1).bind fun v18 =>
  (z_sI h 20 v16 a2 v18).bind fun h19 =>
  f_Mo_copyState_14 100000 a0 a1 a2 0 h19
def f_Mo_sameState_92 (c19 : Nat → Int → Int → Int → zH → Option (Int × zH)) : Nat → Nat → Int → Int → Int → Int → Int → zH → Option (Int × zH)
  | 0 => fun _ _ _ _ _ _ _ => none
  | n + 1 => fun a0 a1 a2 a3 a4 a5 h =>
  if a4 ≤ a5 then
    c19 a0 a1 a2 (zw (a3 + 1)) h
  else
    (z_gR h 9 a0 42).bind fun v1 =>
    (z_aI h 20 v1 (zw ((zw ((zw (240 * a1)) + (zw (24 * a3)))) + a5))).bind fun v2 =>
    (z_gR h 9 a0 42).bind fun v3 =>
    (z_aI h 20 v3 (zw ((zw ((zw (240 * a2)) + (zw (24 * a3)))) + a5))).bind fun v4 =>
    if v2 = v4 then
      f_Mo_sameState_92 c19 n a0 a1 a2 a3 a4 (zw (a5 + 1)) h
    else
      some (0, h)
def f_Mo_sameState_19 : Nat → Nat → Int → Int → Int → zH → Option (Int × zH)
  | 0 => fun _ _ _ _ _ => none
  | n + 1 => fun a0 a1 a2 a3 h =>
  (z_gR h 9 a0 39).bind fun v7 =>
  (z_aI h 20 v7 a1).bind fun v8 =>
  if (zw (2 * v8)) ≤ a3 then
    some (1, h)
  else
    (z_gR h 9 a0 41).bind fun v9 =>
    (z_aI h 20 v9 (zw ((zw (10 * a1)) + a3))).bind fun v10 =>
    (z_gR h 9 a0 40).bind fun v11 =>
    (z_aI h 20 v11 (zw ((zw (5 * a1)) + (zw (a3.tdiv 2))))).bind fun v12 =>
    (z_gR h 9 a0 40).bind fun v13 =>
    (z_aI h 20 v13 (zw ((zw (5 * a2)) + (zw (a3.tdiv 2))))).bind fun v14 =>
    if v12 = v14 then
      (z_gR h 9 a0 41).bind fun v15 =>
      (z_aI h 20 v15 (zw ((zw (10 * a2)) + a3))).bind fun v16 =>
      if v10 = v16 then
        f_Mo_sameState_92 (f_Mo_sameState_19 n) 100000 a0 a1 a2 a3 v10 0 h
      else
        some (0, h)
    else
      some (0, h)
def f_Mo_sameState (a0 : Nat) (a1 : Int) (a2 : Int) (h : zH) : Option (Int × zH) :=
  (z_gR h 9 a0 39).bind fun v20 =>
  (z_aI h 20 v20 a1).bind fun v21 =>
  (z_gR h 9 a0 39).bind fun v22 =>
  (z_aI h 20 v22 a2).bind fun v23 =>
  if v21 = v23 then
    f_Mo_sameState_19 100000 a0 a1 a2 0 h
  else
    some (0, h)
def f_Mo_begin (a0 : Nat) (a1 : Int) (h : zH) : Option (zH) :=
  if a1 = 0 then
    (z_gR h 9 a0 39).bind fun v3 =>
    (z_sI h 20 v3 6 0).bind fun h4 =>
    some h4
  else
    (z_ck h 9 a0).bind fun n1 =>
    (f_Mo_copyState a0 (zw (a1 - 1)) 6 h).bind fun h2 =>
    some h2
def f_Mo_addRules_38 (c5 : Nat → Int → Int → Int → zH → Option (Int × zH)) (a0 : Nat) (a2 : Int) (a3 : Int) (a4 : Int) (h : zH) : Option (Int × zH) :=
  c5 a0 a2 a3 (zw (a4 + 1)) h
def f_Mo_addRules_5 : Nat → Nat → Int → Int → Int → zH → Option (Int × zH)
  | 0 => fun _ _ _ _ _ => none
  | n + 1 => fun a0 a2 a3 a4 h =>
  (z_gI h 9 a0 3).bind fun v1 =>
  if v1 < a4 then
    some (a3, h)
  else
    (z_gR h 9 a0 5).bind fun v2 =>
    (z_aI h 20 v2 a4).bind fun v3 =>
    if v3 = a2 then
      (z_gR h 9 a0 43).bind fun v4 =>
      (z_sI h 20 v4 a3 (zw (2 * a4))).bind fun h5 =>
      f_Mo_addRules_38 (f_Mo_addRules_5 n) a0 a2 (zw (a3 + 1)) a4 h5
    else
      f_Mo_addRules_38 (f_Mo_addRules_5 n) a0 a2 a3 a4 h
def f_Mo_addRules (a0 : Nat) (a1 : Int) (a2 : Int) (h : zH) : Option (Int × zH) :=
  f_Mo_addRules_5 100000 a0 a2 a1 1 h
def f_Mo_gather_142 (a0 : Nat) (a1 : Int) (a2 : Int) (h : zH) : Option (Int × zH) :=
  (z_ck h 9 a0).bind fun n1 =>
  (f_Mo_addRules a0 a2 a1 h).bind fun q2 =>
  (z_gR q2.2 9 a0 7).bind fun v3 =>
  (z_aI q2.2 20 v3 a1).bind fun v4 =>
  if 0 ≤ v4 then
    (z_gR q2.2 9 a0 7).bind fun v5 =>
    (z_aI q2.2 20 v5 a1).bind fun v6 =>
    (z_ck q2.2 9 a0).bind fun n7 =>
    (f_Mo_addRules a0 q2.1 v6 q2.2).bind fun q8 =>
    some (q8.1, q8.2)
  else
    some (q2.1, q2.2)
def f_Mo_gather_90 (c51 : Nat → Int → Int → Int → zH → Option (Int × zH)) : Nat → Nat → Int → Int → Int → Int → Int → zH → Option (Int × zH)
  | 0 => fun _ _ _ _ _ _ _ => none
  | n + 1 => fun a0 a1 a2 a3 a4 a5 h =>
  (z_gR h 9 a0 28).bind fun v10 =>
  (z_aI h 20 v10 a3).bind fun v11 =>
  if v11 ≤ a5 then
    c51 a0 a1 a2 (zw (a3 + 1)) h
  else
    (z_gR h 9 a0 29).bind fun v12 =>
    (z_gR h 9 a0 42).bind fun v13 =>
    (z_aI h 20 v13 (zw ((zw (1440 + (zw (24 * a4)))) + a5))).bind fun v14 =>
    (z_sI h 20 v12 (zw ((zw (24 * a3)) + a5)) v14).bind fun h15 =>
    f_Mo_gather_90 c51 n a0 a1 a2 a3 a4 (zw (a5 + 1)) h15
def f_Mo_gather_51 : Nat → Nat → Int → Int → Int → zH → Option (Int × zH)
  | 0 => fun _ _ _ _ _ => none
  | n + 1 => fun a0 a1 a2 a3 h =>
  if 2 ≤ a3 then
    f_Mo_gather_142 a0 a1 a2 h
  else
    (z_gR h 9 a0 39).bind fun v17 =>
    (z_aI h 20 v17 6).bind fun v18 =>
    (z_gR h 9 a0 28).bind fun v19 =>
    (z_gR h 9 a0 41).bind fun v20 =>
    (z_aI h 20 v20 (zw (60 + (zw ((zw ((zw (2 * v18)) - 2)) + a3))))).bind fun v21 =>
    (z_sI h 20 v19 a3 v21).bind fun h22 =>
    f_Mo_gather_90 (f_Mo_gather_51 n) 100000 a0 a1 a2 a3 (zw ((zw ((zw (2 * v18)) - 2)) + a3)) 0 h22
def f_Mo_gather_29 (a0 : Nat) (s0 : Int) (h : zH) : Option (Int × zH) :=
  if s0 ≤ 0 then
    f_Mo_gather_142 a0 s0 0 h
  else
    (z_gR h 9 a0 43).bind fun v24 =>
    (z_sI h 20 v24 0 (zw ((zw (2 * s0)) + 1))).bind fun h25 =>
    f_Mo_gather_51 100000 a0 s0 1 0 h25
def f_Mo_gather (a0 : Nat) (h : zH) : Option (Int × zH) :=
  (z_gR h 9 a0 39).bind fun v27 =>
  (z_aI h 20 v27 6).bind fun v28 =>
  if v28 = 0 then
    f_Mo_gather_29 a0 0 h
  else
    (z_gR h 9 a0 40).bind fun v29 =>
    (z_gR h 9 a0 39).bind fun v30 =>
    (z_aI h 20 v30 6).bind fun v31 =>
    (z_aI h 20 v29 (zw (29 + v31))).bind fun v32 =>
    f_Mo_gather_29 a0 v32 h
def f_Mo_findBest_123 (c13 : Nat → Int → Int → Int → Int → zH → Option (Int × zH)) (a0 : Nat) (a1 : Int) (a2 : Int) (a3 : Int) (a4 : Int) (h : zH) : Option (Int × zH) :=
  c13 a0 a1 a2 a3 (zw (a4 + 1)) h
def f_Mo_findBest_96 (c13 : Nat → Int → Int → Int → Int → zH → Option (Int × zH)) : Nat → Nat → Int → Int → Int → Int → Int → zH → Option (Int × zH)
  | 0 => fun _ _ _ _ _ _ _ => none
  | n + 1 => fun a0 a1 a2 a3 a4 a5 h =>
  if 6 ≤ a5 then
    f_Mo_findBest_123 c13 a0 a1 a2 a3 a4 h
  else
    (z_gR h 9 a0 47).bind fun v1 =>
    (z_gR h 9 a0 25).bind fun v2 =>
    (z_aI h 20 v2 a5).bind fun v3 =>
    (z_sI h 20 v1 a5 v3).bind fun h4 =>
    f_Mo_findBest_96 c13 n a0 a1 a2 a3 a4 (zw (a5 + 1)) h4
def f_Mo_findBest_66 (c13 : Nat → Int → Int → Int → Int → zH → Option (Int × zH)) (a0 : Nat) (a1 : Int) (a2 : Int) (a3 : Int) (a4 : Int) (h : zH) : Option (Int × zH) :=
  (z_gR h 9 a0 43).bind fun v6 =>
  (z_aI h 20 v6 a4).bind fun v7 =>
  (z_pI h 9 a0 44 v7).bind fun h8 =>
  (z_gI h8 9 a0 23).bind fun v9 =>
  (z_pI h8 9 a0 45 v9).bind fun h10 =>
  (z_gI h10 9 a0 24).bind fun v11 =>
  (z_pI h10 9 a0 46 v11).bind fun h12 =>
  f_Mo_findBest_96 c13 100000 a0 a1 a2 a3 a4 0 h12
def f_Mo_findBest_13 : Nat → Nat → Int → Int → Int → Int → zH → Option (Int × zH)
  | 0 => fun _ _ _ _ _ _ => none
  | n + 1 => fun a0 a1 a2 a3 a4 h =>
  if a3 ≤ a4 then
    some (1, h)
  else
    (z_gR h 9 a0 43).bind fun v13 =>
    (z_aI h 20 v13 a4).bind fun v14 =>
    (z_ck h 9 a0).bind fun n15 =>
    (f_Mo_search a0 v14 a1 a2 h).bind fun h16 =>
    (z_gI h16 9 a0 22).bind fun v17 =>
    if v17 = 0 then
      (z_gI h16 9 a0 23).bind fun v18 =>
      if v18 < 0 then
        f_Mo_findBest_123 (f_Mo_findBest_13 n) a0 a1 a2 a3 a4 h16
      else
        (z_gI h16 9 a0 44).bind fun v19 =>
        if v19 < 0 then
          f_Mo_findBest_66 (f_Mo_findBest_13 n) a0 a1 a2 a3 a4 h16
        else
          (z_gI h16 9 a0 23).bind fun v20 =>
          (z_gI h16 9 a0 45).bind fun v21 =>
          if v21 ≤ v20 then
            f_Mo_findBest_123 (f_Mo_findBest_13 n) a0 a1 a2 a3 a4 h16
          else
            f_Mo_findBest_66 (f_Mo_findBest_13 n) a0 a1 a2 a3 a4 h16
    else
      some (0, h16)
def f_Mo_findBest (a0 : Nat) (a1 : Int) (a2 : Int) (h : zH) : Option (Int × zH) :=
  (z_ck h 9 a0).bind fun n27 =>
  (f_Mo_gather a0 h).bind fun q28 =>
  (z_pI q28.2 9 a0 44 (-1)).bind fun h29 =>
  f_Mo_findBest_13 100000 a0 a1 a2 q28.1 0 h29
def f_Mo_cutOff_126 (a0 : Nat) (a1 : Int) (s0 : Nat) (s1 : Int) (s2 : Int) (h : zH) : Option (zH) :=
  (z_sI h 20 s0 s1 s2).bind fun h1 =>
  (z_gR h1 9 a0 35).bind fun v2 =>
  (z_aI h1 20 v2 a1).bind fun v3 =>
  (z_sI h1 20 v2 a1 (zw (v3 + 1))).bind fun h4 =>
  some h4
def f_Mo_cutOff_30 : Nat → Nat → Int → Int → Int → Int → zH → Option (zH)
  | 0 => fun _ _ _ _ _ _ => none
  | n + 1 => fun a0 a1 a4 a5 a6 h =>
  (z_gR h 9 a0 39).bind fun v5 =>
  (z_aI h 20 v5 6).bind fun v6 =>
  if v6 ≤ a6 then
    (z_gR h 9 a0 38).bind fun v7 =>
    (z_gR h 9 a0 39).bind fun v8 =>
    (z_aI h 20 v8 6).bind fun v9 =>
    (z_sI h 20 v7 (zw ((zw (6 * a5)) + v9)) a4).bind fun h10 =>
    (z_gR h10 9 a0 37).bind fun v11 =>
    if a4 ≤ 0 then
      (z_gR h10 9 a0 39).bind fun v12 =>
      (z_aI h10 20 v12 6).bind fun v13 =>
      f_Mo_cutOff_126 a0 a1 v11 a5 v13 h10
    else
      (z_gR h10 9 a0 39).bind fun v14 =>
      (z_aI h10 20 v14 6).bind fun v15 =>
      f_Mo_cutOff_126 a0 a1 v11 a5 (zw (v15 + 1)) h10
  else
    (z_gR h 9 a0 38).bind fun v17 =>
    (z_gR h 9 a0 6).bind fun v18 =>
    (z_gR h 9 a0 40).bind fun v19 =>
    (z_aI h 20 v19 (zw (30 + a6))).bind fun v20 =>
    (z_aI h 20 v18 v20).bind fun v21 =>
    (z_sI h 20 v17 (zw ((zw (6 * a5)) + a6)) v21).bind fun h22 =>
    f_Mo_cutOff_30 n a0 a1 a4 a5 (zw (a6 + 1)) h22
def f_Mo_cutOff (a0 : Nat) (a1 : Int) (a2 : Int) (a3 : Int) (a4 : Int) (h : zH) : Option (zH) :=
  if a2 < a3 then
    (z_gR h 9 a0 35).bind fun v24 =>
    (z_aI h 20 v24 a1).bind fun v25 =>
    (z_gR h 9 a0 36).bind fun v26 =>
    (z_sI h 20 v26 (zw ((zw (24 * a1)) + v25)) a2).bind fun h27 =>
    f_Mo_cutOff_30 100000 a0 a1 a4 (zw ((zw (24 * a1)) + v25)) 0 h27
  else
    some h
def f_Mo_openRange_89 (c21 : Nat → Int → Int → Int → zH → Option (zH)) : Nat → Nat → Int → Int → Int → Int → Int → Int → zH → Option (zH)
  | 0 => fun _ _ _ _ _ _ _ _ => none
  | n + 1 => fun a0 a1 a3 a4 a5 a6 a7 h =>
  if a6 ≤ a7 then
    c21 a0 a1 a3 (zw (a4 + 1)) h
  else
    (z_gR h 9 a0 42).bind fun v1 =>
    (z_gR h 9 a0 33).bind fun v2 =>
    (z_gR h 9 a0 47).bind fun v3 =>
    (z_aI h 20 v3 (zw (2 * a4))).bind fun v4 =>
    (z_aI h 20 v2 (zw ((zw ((zw (24 * a1)) + v4)) + a7))).bind fun v5 =>
    (z_sI h 20 v1 (zw ((zw (1440 + (zw (24 * a5)))) + a7)) v5).bind fun h6 =>
    f_Mo_openRange_89 c21 n a0 a1 a3 a4 a5 a6 (zw (a7 + 1)) h6
def f_Mo_openRange_72 (c21 : Nat → Int → Int → Int → zH → Option (zH)) (a0 : Nat) (a1 : Int) (a3 : Int) (a4 : Int) (a5 : Int) (s0 : Int) (h : zH) : Option (zH) :=
  (z_gR h 9 a0 41).bind fun v8 =>
  (z_sI h 20 v8 (zw (60 + a5)) s0).bind fun h9 =>
  f_Mo_openRange_89 c21 100000 a0 a1 a3 a4 a5 s0 0 h9
def f_Mo_openRange_21 : Nat → Nat → Int → Int → Int → zH → Option (zH)
  | 0 => fun _ _ _ _ _ => none
  | n + 1 => fun a0 a1 a3 a4 h =>
  if 2 ≤ a4 then
    (z_gR h 9 a0 39).bind fun v10 =>
    (z_aI h 20 v10 6).bind fun v11 =>
    (z_sI h 20 v10 6 (zw (v11 + 1))).bind fun h12 =>
    some h12
  else
    (z_gR h 9 a0 47).bind fun v13 =>
    (z_aI h 20 v13 (zw (2 * a4))).bind fun v14 =>
    if 0 ≤ v14 then
      (z_gR h 9 a0 47).bind fun v15 =>
      (z_aI h 20 v15 (zw ((zw (2 * a4)) + 1))).bind fun v16 =>
      (z_gR h 9 a0 47).bind fun v17 =>
      (z_aI h 20 v17 (zw (2 * a4))).bind fun v18 =>
      f_Mo_openRange_72 (f_Mo_openRange_21 n) a0 a1 a3 a4 (zw ((zw (2 * a3)) + a4)) (zw (v16 - v18)) h
    else
      f_Mo_openRange_72 (f_Mo_openRange_21 n) a0 a1 a3 a4 (zw ((zw (2 * a3)) + a4)) 0 h
def f_Mo_openRange (a0 : Nat) (a1 : Int) (a2 : Int) (h : zH) : Option (zH) :=
  (z_gR h 9 a0 39).bind fun v21 =>
  (z_aI h 20 v21 6).bind fun v22 =>
  (z_gR h 9 a0 40).bind fun v23 =>
  (z_sI h 20 v23 (zw (30 + v22)) a2).bind fun h24 =>
  f_Mo_openRange_21 100000 a0 a1 v22 0 h24
def f_Mo_tokenize_307 (a0 : Nat) (a1 : Int) (h : zH) : Option (zH) :=
  (z_ck h 9 a0).bind fun n1 =>
  (f_Mo_copyState a0 6 a1 h).bind fun h2 =>
  some h2
def f_Mo_tokenize_301 (c36 : Nat → Int → Int → Int → Int → zH → Option (zH)) (a0 : Nat) (a1 : Int) (a2 : Int) (a3 : Int) (a4 : Int) (h : zH) : Option (zH) :=
  c36 a0 a1 a2 a3 (zw (a4 + 1)) h
def f_Mo_tokenize_190 (c36 : Nat → Int → Int → Int → Int → zH → Option (zH)) (a0 : Nat) (a1 : Int) (a2 : Int) (a4 : Int) (h : zH) : Option (zH) :=
  (z_gR h 9 a0 32).bind fun v3 =>
  (z_aI h 20 v3 a1).bind fun v4 =>
  (z_ck h 9 a0).bind fun n5 =>
  (f_Mo_cutOff a0 a1 a2 v4 0 h).bind fun h6 =>
  f_Mo_tokenize_301 c36 a0 a1 a2 0 a4 h6
def f_Mo_tokenize_295 (c36 : Nat → Int → Int → Int → Int → zH → Option (zH)) (a0 : Nat) (a1 : Int) (a3 : Int) (a4 : Int) (s0 : Nat) (s1 : Int) (s2 : Int) (h : zH) : Option (zH) :=
  (z_sI h 20 s0 s1 s2).bind fun h7 =>
  (z_gI h7 9 a0 46).bind fun v8 =>
  f_Mo_tokenize_301 c36 a0 a1 v8 a3 a4 h7
def f_Mo_tokenize_262 (c36 : Nat → Int → Int → Int → Int → zH → Option (zH)) (a0 : Nat) (a1 : Int) (a3 : Int) (a4 : Int) (a6 : Int) (s0 : Nat) (s1 : Int) (s2 : Int) (s3 : Int) (s4 : Int) (h : zH) : Option (zH) :=
  (z_ck h 9 s0).bind fun n9 =>
  (f_Mo_cutOff s0 s1 s2 s3 s4 h).bind fun h10 =>
  (z_gR h10 9 a0 39).bind fun v11 =>
  if a6 = 0 then
    (z_gR h10 9 a0 39).bind fun v12 =>
    (z_aI h10 20 v12 6).bind fun v13 =>
    f_Mo_tokenize_295 c36 a0 a1 a3 a4 v11 6 v13 h10
  else
    (z_gR h10 9 a0 39).bind fun v14 =>
    (z_aI h10 20 v14 6).bind fun v15 =>
    f_Mo_tokenize_295 c36 a0 a1 a3 a4 v11 6 (zw (v15 - 1)) h10
def f_Mo_tokenize_251 (c36 : Nat → Int → Int → Int → Int → zH → Option (zH)) (a0 : Nat) (a1 : Int) (a3 : Int) (a4 : Int) (a6 : Int) (s0 : Nat) (s1 : Int) (s2 : Int) (s3 : Int) (h : zH) : Option (zH) :=
  f_Mo_tokenize_262 c36 a0 a1 a3 a4 a6 s0 s1 s2 s3 0 h
def f_Mo_tokenize_231 (c36 : Nat → Int → Int → Int → Int → zH → Option (zH)) (a0 : Nat) (a1 : Int) (a3 : Int) (a4 : Int) (a5 : Int) (a6 : Int) (a7 : Int) (h : zH) : Option (zH) :=
  (z_gI h 9 a0 45).bind fun v17 =>
  (z_gI h 9 a0 46).bind fun v18 =>
  if a6 = 0 then
    if a7 = 0 then
      (z_gR h 9 a0 6).bind fun v19 =>
      (z_aI h 20 v19 a5).bind fun v20 =>
      f_Mo_tokenize_262 c36 a0 a1 a3 a4 a6 a0 a1 v17 v18 v20 h
    else
      f_Mo_tokenize_251 c36 a0 a1 a3 a4 a6 a0 a1 v17 v18 h
  else
    f_Mo_tokenize_251 c36 a0 a1 a3 a4 a6 a0 a1 v17 v18 h
def f_Mo_tokenize_208 (c36 : Nat → Int → Int → Int → Int → zH → Option (zH)) (a0 : Nat) (a1 : Int) (a2 : Int) (a3 : Int) (a4 : Int) (a5 : Int) (a6 : Int) (a7 : Int) (h : zH) : Option (zH) :=
  (z_gI h 9 a0 45).bind fun v23 =>
  (z_ck h 9 a0).bind fun n24 =>
  (f_Mo_cutOff a0 a1 a2 v23 0 h).bind fun h25 =>
  if a7 = 0 then
    f_Mo_tokenize_231 c36 a0 a1 a3 a4 a5 a6 a7 h25
  else
    (z_ck h25 9 a0).bind fun n26 =>
    (f_Mo_openRange a0 a1 a5 h25).bind fun h27 =>
    f_Mo_tokenize_231 c36 a0 a1 a3 a4 a5 a6 a7 h27
def f_Mo_tokenize_174 (c36 : Nat → Int → Int → Int → Int → zH → Option (zH)) (a0 : Nat) (a1 : Int) (a2 : Int) (a3 : Int) (a4 : Int) (a5 : Int) (a6 : Int) (a7 : Int) (h : zH) : Option (zH) :=
  if a7 = 0 then
    f_Mo_tokenize_208 c36 a0 a1 a2 a3 a4 a5 a6 a7 h
  else
    (z_gR h 9 a0 39).bind fun v29 =>
    (z_aI h 20 v29 6).bind fun v30 =>
    if v30 = 5 then
      f_Mo_tokenize_190 c36 a0 a1 a2 a4 h
    else
      f_Mo_tokenize_208 c36 a0 a1 a2 a3 a4 a5 a6 a7 h
def f_Mo_tokenize_152 (c36 : Nat → Int → Int → Int → Int → zH → Option (zH)) (a0 : Nat) (a1 : Int) (a2 : Int) (a3 : Int) (a4 : Int) (a5 : Int) (a6 : Int) (s0 : Int) (h : zH) : Option (zH) :=
  (z_gI h 9 a0 44).bind fun v33 =>
  if v33 < 0 then
    f_Mo_tokenize_190 c36 a0 a1 a2 a4 h
  else
    (z_gI h 9 a0 46).bind fun v34 =>
    if v34 = a2 then
      if a6 = 0 then
        f_Mo_tokenize_190 c36 a0 a1 a2 a4 h
      else
        f_Mo_tokenize_174 c36 a0 a1 a2 a3 a4 a5 a6 s0 h
    else
      f_Mo_tokenize_174 c36 a0 a1 a2 a3 a4 a5 a6 s0 h
def f_Mo_tokenize_151 (c36 : Nat → Int → Int → Int → Int → zH → Option (zH)) (a0 : Nat) (a1 : Int) (a2 : Int) (a3 : Int) (a4 : Int) (a5 : Int) (a6 : Int) (h : zH) : Option (zH) :=
  f_Mo_tokenize_152 c36 a0 a1 a2 a3 a4 a5 a6 0 h
def f_Mo_tokenize_123 (c36 : Nat → Int → Int → Int → Int → zH → Option (zH)) (a0 : Nat) (a1 : Int) (a2 : Int) (a3 : Int) (a4 : Int) (a5 : Int) (s0 : Int) (h : zH) : Option (zH) :=
  (z_gI h 9 a0 44).bind fun v38 =>
  if v38 < 0 then
    f_Mo_tokenize_151 c36 a0 a1 a2 a3 a4 a5 s0 h
  else
    if s0 = 0 then
      (z_gR h 9 a0 4).bind fun v39 =>
      (z_aI h 22 v39 a5).bind fun v40 =>
      if v40 = 0 then
        f_Mo_tokenize_151 c36 a0 a1 a2 a3 a4 a5 s0 h
      else
        f_Mo_tokenize_152 c36 a0 a1 a2 a3 a4 a5 s0 1 h
    else
      f_Mo_tokenize_151 c36 a0 a1 a2 a3 a4 a5 s0 h
def f_Mo_tokenize_122 (c36 : Nat → Int → Int → Int → Int → zH → Option (zH)) (a0 : Nat) (a1 : Int) (a2 : Int) (a3 : Int) (a4 : Int) (a5 : Int) (h : zH) : Option (zH) :=
  f_Mo_tokenize_123 c36 a0 a1 a2 a3 a4 a5 0 h
def f_Mo_tokenize_36 : Nat → Nat → Int → Int → Int → Int → zH → Option (zH)
  | 0 => fun _ _ _ _ _ _ => none
  | n + 1 => fun a0 a1 a2 a3 a4 h =>
  if 100 ≤ a4 then
    f_Mo_tokenize_307 a0 a1 h
  else
    if a3 = 0 then
      f_Mo_tokenize_307 a0 a1 h
    else
      (z_ck h 9 a0).bind fun n44 =>
      (f_Mo_findBest a0 a1 a2 h).bind fun q45 =>
      if q45.1 = 0 then
        (z_gR q45.2 9 a0 34).bind fun v51 =>
        (z_sI q45.2 22 v51 a1 (1 % 2)).bind fun h52 =>
        (z_gR h52 9 a0 35).bind fun v53 =>
        (z_sI h52 20 v53 a1 0).bind fun h54 =>
        (z_ck h54 9 a0).bind fun n55 =>
        (f_Mo_begin a0 a1 h54).bind fun h56 =>
        (z_gR h56 9 a0 32).bind fun v57 =>
        (z_aI h56 20 v57 a1).bind fun v58 =>
        (z_ck h56 9 a0).bind fun n59 =>
        (f_Mo_cutOff a0 a1 0 v58 0 h56).bind fun h60 =>
        f_Mo_tokenize_301 (f_Mo_tokenize_36 n) a0 a1 a2 0 a4 h60
      else
        (z_gI q45.2 9 a0 44).bind fun v46 =>
        (z_gI q45.2 9 a0 44).bind fun v47 =>
        if v47 < 0 then
          f_Mo_tokenize_122 (f_Mo_tokenize_36 n) a0 a1 a2 a3 a4 (zw (v46.tdiv 2)) q45.2
        else
          (z_gI q45.2 9 a0 44).bind fun v48 =>
          if (zw (v48 - v48.tdiv 2 * 2)) = 1 then
            f_Mo_tokenize_123 (f_Mo_tokenize_36 n) a0 a1 a2 a3 a4 (zw (v46.tdiv 2)) 1 q45.2
          else
            f_Mo_tokenize_122 (f_Mo_tokenize_36 n) a0 a1 a2 a3 a4 (zw (v46.tdiv 2)) q45.2
def f_Mo_tokenize (a0 : Nat) (a1 : Int) (h : zH) : Option (zH) :=
  (z_gI h 9 a0 31).bind fun v64 =>
  (z_pI h 9 a0 31 (zw (v64 + 1))).bind fun h65 =>
  (z_gR h65 9 a0 35).bind fun v66 =>
  (z_sI h65 20 v66 a1 0).bind fun h67 =>
  (z_gR h67 9 a0 34).bind fun v68 =>
  (z_sI h67 22 v68 a1 (0 % 2)).bind fun h69 =>
  (z_ck h69 9 a0).bind fun n70 =>
  (f_Mo_begin a0 a1 h69).bind fun h71 =>
  f_Mo_tokenize_36 100000 a0 a1 0 1 0 h71
def f_Mo_refresh_7 : Nat → Nat → Int → Int → Int → zH → Option (Int × zH)
  | 0 => fun _ _ _ _ _ => none
  | n + 1 => fun a0 a2 a3 a4 h =>
  (z_gI h 9 a0 30).bind fun v1 =>
  if v1 ≤ a4 then
    some (a2, h)
  else
    if a3 = 0 then
      (z_ck h 9 a0).bind fun n2 =>
      (f_Mo_copyState a0 a4 7 h).bind fun h3 =>
      (z_ck h3 9 a0).bind fun n4 =>
      (f_Mo_tokenize a0 a4 h3).bind fun h5 =>
      (z_ck h5 9 a0).bind fun n6 =>
      (f_Mo_sameState a0 a4 7 h5).bind fun q7 =>
      f_Mo_refresh_7 n a0 (zw (a2 + 1)) q7.1 (zw (a4 + 1)) q7.2
    else
      some (a2, h)
def f_Mo_refresh (a0 : Nat) (a1 : Int) (h : zH) : Option (Int × zH) :=
  f_Mo_refresh_7 100000 a0 0 0 a1 h
def f_Mo_refreshAll_2 : Nat → Nat → Int → zH → Option (zH)
  | 0 => fun _ _ _ => none
  | n + 1 => fun a0 a1 h =>
  (z_gI h 9 a0 30).bind fun v1 =>
  if v1 ≤ a1 then
    some h
  else
    (z_ck h 9 a0).bind fun n2 =>
    (f_Mo_tokenize a0 a1 h).bind fun h3 =>
    f_Mo_refreshAll_2 n a0 (zw (a1 + 1)) h3
def f_Mo_refreshAll (a0 : Nat) (h : zH) : Option (zH) :=
  f_Mo_refreshAll_2 100000 a0 0 h
def f_Mo_lift_29 : Nat → Nat → Int → Int → Int → Int → zH → Option (zH)
  | 0 => fun _ _ _ _ _ _ => none
  | n + 1 => fun a0 a1 a2 a4 a5 h =>
  if a4 ≤ a5 then
    some h
  else
    (z_gR h 9 a0 9).bind fun v1 =>
    (z_gR h 9 a0 2).bind fun v2 =>
    (z_aI h 20 v2 (zw (a2 + a5))).bind fun v3 =>
    (z_sI h 20 v1 (zw ((zw (21 * a1)) + a5)) v3).bind fun h4 =>
    f_Mo_lift_29 n a0 a1 a2 a4 (zw (a5 + 1)) h4
def f_Mo_lift_16 (a0 : Nat) (a1 : Int) (a2 : Int) (s0 : Int) (h : zH) : Option (zH) :=
  (z_gR h 9 a0 8).bind fun v6 =>
  (z_sI h 20 v6 a1 s0).bind fun h7 =>
  f_Mo_lift_29 100000 a0 a1 a2 s0 0 h7
def f_Mo_lift (a0 : Nat) (a1 : Int) (a2 : Int) (a3 : Int) (h : zH) : Option (zH) :=
  if (zw (a3 - a2)) ≤ 21 then
    f_Mo_lift_16 a0 a1 a2 (zw (a3 - a2)) h
  else
    f_Mo_lift_16 a0 a1 a2 21 h
def f_Mo_isRangeNumber (a0 : Nat) (a1 : Int) (h : zH) : Option (Int × zH) :=
  if a1 < 0 then
    some (0, h)
  else
    (z_gI h 9 a0 3).bind fun v1 =>
    if v1 < a1 then
      some (0, h)
    else
      (z_gR h 9 a0 4).bind fun v2 =>
      (z_aI h 22 v2 a1).bind fun v3 =>
      if v3 = 0 then
        some (0, h)
      else
        some (1, h)
def f_Mo_isPattern (a0 : Nat) (a1 : Int) (a2 : Int) (a3 : Int) (h : zH) : Option (Int × zH) :=
  (z_ck h 9 a0).bind fun n1 =>
  (f_Mo_lift a0 20 a1 a2 h).bind fun h2 =>
  (z_ck h2 9 a0).bind fun n3 =>
  (f_Mo_parse a0 20 a3 h2).bind fun q4 =>
  (z_bo q4.1).bind fun b => some (b, q4.2)
def f_Mo_make_105 (a0 : Nat) (h : zH) : Option (Int × zH) :=
  (z_pI h 9 a0 1 0).bind fun h1 =>
  (z_ck h1 9 a0).bind fun n2 =>
  (f_Mo_refreshAll a0 h1).bind fun h3 =>
  (z_gI h3 9 a0 3).bind fun v4 =>
  some (v4, h3)
def f_Mo_make (a0 : Nat) (a1 : Int) (a2 : Int) (a3 : Int) (a4 : Int) (h : zH) : Option (Int × zH) :=
  (z_gI h 9 a0 3).bind fun v5 =>
  (z_pI h 9 a0 3 (zw (v5 + 1))).bind fun h6 =>
  (z_gR h6 9 a0 5).bind fun v7 =>
  (z_gI h6 9 a0 3).bind fun v8 =>
  (z_sI h6 20 v7 v8 a1).bind fun h9 =>
  (z_gR h9 9 a0 6).bind fun v10 =>
  (z_gI h9 9 a0 3).bind fun v11 =>
  (z_sI h9 20 v10 v11 a2).bind fun h12 =>
  (z_gR h12 9 a0 4).bind fun v13 =>
  (z_gI h12 9 a0 3).bind fun v14 =>
  (z_sI h12 22 v13 v14 (a3 % 2)).bind fun h15 =>
  (z_gI h15 9 a0 3).bind fun v16 =>
  (z_ck h15 9 a0).bind fun n17 =>
  (f_Mo_lift a0 (zw (2 * v16)) 0 a4 h15).bind fun h18 =>
  (z_gI h18 9 a0 3).bind fun v19 =>
  (z_ck h18 9 a0).bind fun n20 =>
  (f_Mo_parse a0 (zw (2 * v19)) 0 h18).bind fun q21 =>
  if a3 = 0 then
    f_Mo_make_105 a0 q21.2
  else
    (z_gI q21.2 9 a0 3).bind fun v22 =>
    (z_gI q21.2 9 a0 1).bind fun v23 =>
    (z_ck q21.2 9 a0).bind fun n24 =>
    (f_Mo_lift a0 (zw ((zw (2 * v22)) + 1)) (zw (a4 + 1)) v23 q21.2).bind fun h25 =>
    (z_gI h25 9 a0 3).bind fun v26 =>
    (z_ck h25 9 a0).bind fun n27 =>
    (f_Mo_parse a0 (zw ((zw (2 * v26)) + 1)) 1 h25).bind fun q28 =>
    f_Mo_make_105 a0 q28.2
def f_Mo_piece (a0 : Nat) (a1 : Int) (a2 : Int) (h : zH) : Option (Int × zH) :=
  (z_ck h 9 a0).bind fun n1 =>
  (f_Mo_isRangeNumber a0 a1 h).bind fun q2 =>
  if q2.1 = 0 then
    some ((-1), q2.2)
  else
    if a2 < 1 then
      some ((-1), q2.2)
    else
      if a2 ≤ 99 then
        (z_gI q2.2 9 a0 1).bind fun v3 =>
        (z_ck q2.2 9 a0).bind fun n4 =>
        (f_Mo_isPattern a0 0 v3 0 q2.2).bind fun q5 =>
        if q5.1 = 0 then
          some ((-2), q5.2)
        else
          (z_gI q5.2 9 a0 3).bind fun v6 =>
          if v6 = 9 then
            some ((-3), q5.2)
          else
            (z_gI q5.2 9 a0 1).bind fun v7 =>
            (z_ck q5.2 9 a0).bind fun n8 =>
            (f_Mo_make a0 a1 a2 0 v7 q5.2).bind fun q9 =>
            some (q9.1, q9.2)
      else
        some ((-1), q2.2)
def f_Mo_range_48 (a0 : Nat) (a1 : Int) (a2 : Int) (a3 : Int) (h : zH) : Option (Int × zH) :=
  (z_gI h 9 a0 1).bind fun v1 =>
  if a3 = v1 then
    some ((-2), h)
  else
    (z_ck h 9 a0).bind fun n2 =>
    (f_Mo_isPattern a0 0 a3 0 h).bind fun q3 =>
    if q3.1 = 0 then
      some ((-2), q3.2)
    else
      (z_gI q3.2 9 a0 1).bind fun v4 =>
      (z_ck q3.2 9 a0).bind fun n5 =>
      (f_Mo_isPattern a0 (zw (a3 + 1)) v4 1 q3.2).bind fun q6 =>
      if q6.1 = 0 then
        some ((-2), q6.2)
      else
        (z_gI q6.2 9 a0 3).bind fun v7 =>
        if v7 = 9 then
          some ((-3), q6.2)
        else
          (z_ck q6.2 9 a0).bind fun n8 =>
          (f_Mo_make a0 a1 a2 1 a3 q6.2).bind fun q9 =>
          some (q9.1, q9.2)
def f_Mo_range_23 : Nat → Nat → Int → Int → Int → zH → Option (Int × zH)
  | 0 => fun _ _ _ _ _ => none
  | n + 1 => fun a0 a1 a2 a3 h =>
  (z_gI h 9 a0 1).bind fun v14 =>
  if v14 ≤ a3 then
    f_Mo_range_48 a0 a1 a2 a3 h
  else
    (z_gR h 9 a0 2).bind fun v15 =>
    (z_aI h 20 v15 a3).bind fun v16 =>
    if v16 = 32 then
      f_Mo_range_48 a0 a1 a2 a3 h
    else
      f_Mo_range_23 n a0 a1 a2 (zw (a3 + 1)) h
def f_Mo_range (a0 : Nat) (a1 : Int) (a2 : Int) (h : zH) : Option (Int × zH) :=
  (z_ck h 9 a0).bind fun n19 =>
  (f_Mo_isRangeNumber a0 a1 h).bind fun q20 =>
  if q20.1 = 0 then
    some ((-1), q20.2)
  else
    if a2 < 1 then
      some ((-1), q20.2)
    else
      if a2 ≤ 99 then
        f_Mo_range_23 100000 a0 a1 a2 0 q20.2
      else
        some ((-1), q20.2)
def f_Mo_include (a0 : Nat) (a1 : Int) (a2 : Int) (h : zH) : Option (Int × zH) :=
  (z_ck h 9 a0).bind fun n1 =>
  (f_Mo_isRangeNumber a0 a1 h).bind fun q2 =>
  if q2.1 = 0 then
    some (0, q2.2)
  else
    (z_ck q2.2 9 a0).bind fun n3 =>
    (f_Mo_isRangeNumber a0 a2 q2.2).bind fun q4 =>
    if q4.1 = 0 then
      some (0, q4.2)
    else
      (z_gR q4.2 9 a0 7).bind fun v5 =>
      (z_aI q4.2 20 v5 a1).bind fun v6 =>
      if v6 = a2 then
        some (0, q4.2)
      else
        (z_gR q4.2 9 a0 7).bind fun v7 =>
        (z_sI q4.2 20 v7 a1 a2).bind fun h8 =>
        (z_ck h8 9 a0).bind fun n9 =>
        (f_Mo_refreshAll a0 h8).bind fun h10 =>
        some (1, h10)
def f_Mo_theme (a0 : Nat) (a1 : Int) (a2 : Int) (a3 : Int) (h : zH) : Option (Int × zH) :=
  if a1 < 1 then
    some (0, h)
  else
    if 99 < a1 then
      some (0, h)
    else
      if a2 < 0 then
        some (0, h)
      else
        if 99 < a2 then
          some (0, h)
        else
          if a3 < 1 then
            some (0, h)
          else
            if 255 < a3 then
              some (0, h)
            else
              (z_gI h 9 a0 48).bind fun v1 =>
              if v1 = 6 then
                some (0, h)
              else
                (z_gR h 9 a0 49).bind fun v2 =>
                (z_gI h 9 a0 48).bind fun v3 =>
                (z_sI h 20 v2 v3 a1).bind fun h4 =>
                (z_gR h4 9 a0 50).bind fun v5 =>
                (z_gI h4 9 a0 48).bind fun v6 =>
                (z_sI h4 20 v5 v6 a2).bind fun h7 =>
                (z_gR h7 9 a0 51).bind fun v8 =>
                (z_gI h7 9 a0 48).bind fun v9 =>
                (z_sI h7 20 v8 v9 a3).bind fun h10 =>
                (z_gI h10 9 a0 48).bind fun v11 =>
                (z_pI h10 9 a0 48 (zw (v11 + 1))).bind fun h12 =>
                some (1, h12)
def f_Mo_put_72 : Nat → Nat → Int → Int → zH → Option (Int × zH)
  | 0 => fun _ _ _ _ => none
  | n + 1 => fun a0 a1 a2 h =>
  (z_gI h 9 a0 1).bind fun v1 =>
  if v1 ≤ a2 then
    (z_pI h 9 a0 1 0).bind fun h2 =>
    (z_ck h2 9 a0).bind fun n3 =>
    (f_Mo_refresh a0 a1 h2).bind fun q4 =>
    some (q4.1, q4.2)
  else
    (z_gR h 9 a0 33).bind fun v5 =>
    (z_gR h 9 a0 2).bind fun v6 =>
    (z_aI h 20 v6 a2).bind fun v7 =>
    (z_sI h 20 v5 (zw ((zw (24 * a1)) + a2)) v7).bind fun h8 =>
    f_Mo_put_72 n a0 a1 (zw (a2 + 1)) h8
def f_Mo_put_60 (a0 : Nat) (a1 : Int) (h : zH) : Option (Int × zH) :=
  (z_gR h 9 a0 32).bind fun v10 =>
  (z_gI h 9 a0 1).bind fun v11 =>
  (z_sI h 20 v10 a1 v11).bind fun h12 =>
  f_Mo_put_72 100000 a0 a1 0 h12
def f_Mo_put (a0 : Nat) (a1 : Int) (h : zH) : Option (Int × zH) :=
  if a1 < 0 then
    some ((-1), h)
  else
    (z_gI h 9 a0 30).bind fun v13 =>
    if a1 ≤ v13 then
      (z_gI h 9 a0 1).bind fun v14 =>
      if v14 ≤ 24 then
        if a1 = 6 then
          some ((-3), h)
        else
          (z_gI h 9 a0 30).bind fun v15 =>
          if a1 = v15 then
            (z_gI h 9 a0 30).bind fun v16 =>
            (z_pI h 9 a0 30 (zw (v16 + 1))).bind fun h17 =>
            (z_gR h17 9 a0 39).bind fun v18 =>
            (z_sI h17 20 v18 a1 (-1)).bind fun h19 =>
            f_Mo_put_60 a0 a1 h19
          else
            f_Mo_put_60 a0 a1 h
      else
        some ((-2), h)
    else
      some ((-1), h)
def f_Mo_drop_149 (c26 : Nat → Int → Int → zH → Option (Int × zH)) : Nat → Nat → Int → Int → Int → zH → Option (Int × zH)
  | 0 => fun _ _ _ _ _ => none
  | n + 1 => fun a0 a1 a2 a3 h =>
  if (zw ((zw (144 * a2)) + 144)) ≤ a3 then
    (z_ck h 9 a0).bind fun n1 =>
    (f_Mo_copyState a0 (zw (a2 + 1)) a2 h).bind fun h2 =>
    c26 a0 a1 (zw (a2 + 1)) h2
  else
    (z_gR h 9 a0 38).bind fun v3 =>
    (z_gR h 9 a0 38).bind fun v4 =>
    (z_aI h 20 v4 (zw (a3 + 144))).bind fun v5 =>
    (z_sI h 20 v3 a3 v5).bind fun h6 =>
    f_Mo_drop_149 c26 n a0 a1 a2 (zw (a3 + 1)) h6
def f_Mo_drop_81 (c26 : Nat → Int → Int → zH → Option (Int × zH)) : Nat → Nat → Int → Int → Int → zH → Option (Int × zH)
  | 0 => fun _ _ _ _ _ => none
  | n + 1 => fun a0 a1 a2 a3 h =>
  if (zw ((zw (24 * a2)) + 24)) ≤ a3 then
    f_Mo_drop_149 c26 100000 a0 a1 a2 (zw (144 * a2)) h
  else
    (z_gR h 9 a0 33).bind fun v8 =>
    (z_gR h 9 a0 33).bind fun v9 =>
    (z_aI h 20 v9 (zw (a3 + 24))).bind fun v10 =>
    (z_sI h 20 v8 a3 v10).bind fun h11 =>
    (z_gR h11 9 a0 36).bind fun v12 =>
    (z_gR h11 9 a0 36).bind fun v13 =>
    (z_aI h11 20 v13 (zw (a3 + 24))).bind fun v14 =>
    (z_sI h11 20 v12 a3 v14).bind fun h15 =>
    (z_gR h15 9 a0 37).bind fun v16 =>
    (z_gR h15 9 a0 37).bind fun v17 =>
    (z_aI h15 20 v17 (zw (a3 + 24))).bind fun v18 =>
    (z_sI h15 20 v16 a3 v18).bind fun h19 =>
    f_Mo_drop_81 c26 n a0 a1 a2 (zw (a3 + 1)) h19
def f_Mo_drop_26 : Nat → Nat → Int → Int → zH → Option (Int × zH)
  | 0 => fun _ _ _ _ => none
  | n + 1 => fun a0 a1 a2 h =>
  (z_gI h 9 a0 30).bind fun v21 =>
  if v21 ≤ a2 then
    (z_ck h 9 a0).bind fun n22 =>
    (f_Mo_refresh a0 a1 h).bind fun q23 =>
    some (q23.1, q23.2)
  else
    (z_gR h 9 a0 32).bind fun v24 =>
    (z_gR h 9 a0 32).bind fun v25 =>
    (z_aI h 20 v25 (zw (a2 + 1))).bind fun v26 =>
    (z_sI h 20 v24 a2 v26).bind fun h27 =>
    (z_gR h27 9 a0 34).bind fun v28 =>
    (z_gR h27 9 a0 34).bind fun v29 =>
    (z_aI h27 22 v29 (zw (a2 + 1))).bind fun v30 =>
    (z_sI h27 22 v28 a2 (v30 % 2)).bind fun h31 =>
    (z_gR h31 9 a0 35).bind fun v32 =>
    (z_gR h31 9 a0 35).bind fun v33 =>
    (z_aI h31 20 v33 (zw (a2 + 1))).bind fun v34 =>
    (z_sI h31 20 v32 a2 v34).bind fun h35 =>
    f_Mo_drop_81 (f_Mo_drop_26 n) 100000 a0 a1 a2 (zw (24 * a2)) h35
def f_Mo_drop (a0 : Nat) (a1 : Int) (h : zH) : Option (Int × zH) :=
  if a1 < 0 then
    some ((-1), h)
  else
    (z_gI h 9 a0 30).bind fun v37 =>
    if a1 < v37 then
      (z_gI h 9 a0 30).bind fun v38 =>
      (z_pI h 9 a0 30 (zw (v38 - 1))).bind fun h39 =>
      f_Mo_drop_26 100000 a0 a1 a1 h39
    else
      some ((-1), h)
def f_Mo_isLine (a0 : Nat) (a1 : Int) (h : zH) : Option (Int × zH) :=
  if a1 < 0 then
    some (0, h)
  else
    (z_gI h 9 a0 30).bind fun v1 =>
    if v1 ≤ a1 then
      some (0, h)
    else
      some (1, h)
def f_Mo_lines (a0 : Nat) (h : zH) : Option (Int × zH) :=
  (z_gI h 9 a0 30).bind fun v1 =>
  some (v1, h)
def f_Mo_passes (a0 : Nat) (h : zH) : Option (Int × zH) :=
  (z_gI h 9 a0 31).bind fun v1 =>
  some (v1, h)
def f_Mo_length (a0 : Nat) (a1 : Int) (h : zH) : Option (Int × zH) :=
  (z_ck h 9 a0).bind fun n1 =>
  (f_Mo_isLine a0 a1 h).bind fun q2 =>
  if q2.1 = 0 then
    some ((-1), q2.2)
  else
    (z_gR q2.2 9 a0 32).bind fun v3 =>
    (z_aI q2.2 20 v3 a1).bind fun v4 =>
    some (v4, q2.2)
def f_Mo_tokens (a0 : Nat) (a1 : Int) (h : zH) : Option (Int × zH) :=
  (z_ck h 9 a0).bind fun n1 =>
  (f_Mo_isLine a0 a1 h).bind fun q2 =>
  if q2.1 = 0 then
    some ((-1), q2.2)
  else
    (z_gR q2.2 9 a0 35).bind fun v3 =>
    (z_aI q2.2 20 v3 a1).bind fun v4 =>
    some (v4, q2.2)
def f_Mo_entry_137 (c6 : Nat → Int → Int → Int → Int → Int → zH → Option (Int × zH)) (a0 : Nat) (a1 : Int) (a2 : Int) (a3 : Int) (a5 : Int) (s0 : Int) (h : zH) : Option (Int × zH) :=
  c6 a0 a1 a2 a3 s0 (zw (a5 + 1)) h
def f_Mo_entry_135 (c6 : Nat → Int → Int → Int → Int → Int → zH → Option (Int × zH)) (a0 : Nat) (a1 : Int) (a2 : Int) (a3 : Int) (a4 : Int) (a5 : Int) (h : zH) : Option (Int × zH) :=
  f_Mo_entry_137 c6 a0 a1 a2 a3 a5 a4 h
def f_Mo_entry_99 (c6 : Nat → Int → Int → Int → Int → Int → zH → Option (Int × zH)) (a0 : Nat) (a1 : Int) (a2 : Int) (a3 : Int) (a4 : Int) (a5 : Int) (a6 : Int) (h : zH) : Option (Int × zH) :=
  if a6 = 0 then
    f_Mo_entry_135 c6 a0 a1 a2 a3 a4 a5 h
  else
    (z_gR h 9 a0 49).bind fun v1 =>
    (z_aI h 20 v1 a5).bind fun v2 =>
    (z_gR h 9 a0 38).bind fun v3 =>
    (z_aI h 20 v3 (zw ((zw (6 * a1)) + a2))).bind fun v4 =>
    if v2 = v4 then
      (z_gR h 9 a0 51).bind fun v5 =>
      (z_aI h 20 v5 a5).bind fun v6 =>
      f_Mo_entry_137 c6 a0 a1 a2 a3 a5 v6 h
    else
      f_Mo_entry_135 c6 a0 a1 a2 a3 a4 a5 h
def f_Mo_entry_91 (c6 : Nat → Int → Int → Int → Int → Int → zH → Option (Int × zH)) (c39 : Nat → Int → Int → Int → Int → Int → Int → Int → zH → Option (Int × zH)) (a0 : Nat) (a1 : Int) (a2 : Int) (a3 : Int) (a4 : Int) (a5 : Int) (a7 : Int) (s0 : Int) (h : zH) : Option (Int × zH) :=
  c39 a0 a1 a2 a3 a4 a5 s0 (zw (a7 + 1)) h
def f_Mo_entry_86 (c6 : Nat → Int → Int → Int → Int → Int → zH → Option (Int × zH)) (c39 : Nat → Int → Int → Int → Int → Int → Int → Int → zH → Option (Int × zH)) (a0 : Nat) (a1 : Int) (a2 : Int) (a3 : Int) (a4 : Int) (a5 : Int) (a7 : Int) (h : zH) : Option (Int × zH) :=
  f_Mo_entry_91 c6 c39 a0 a1 a2 a3 a4 a5 a7 1 h
def f_Mo_entry_90 (c6 : Nat → Int → Int → Int → Int → Int → zH → Option (Int × zH)) (c39 : Nat → Int → Int → Int → Int → Int → Int → Int → zH → Option (Int × zH)) (a0 : Nat) (a1 : Int) (a2 : Int) (a3 : Int) (a4 : Int) (a5 : Int) (a7 : Int) (h : zH) : Option (Int × zH) :=
  f_Mo_entry_91 c6 c39 a0 a1 a2 a3 a4 a5 a7 0 h
def f_Mo_entry_39 (c6 : Nat → Int → Int → Int → Int → Int → zH → Option (Int × zH)) : Nat → Nat → Int → Int → Int → Int → Int → Int → Int → zH → Option (Int × zH)
  | 0 => fun _ _ _ _ _ _ _ _ _ => none
  | n + 1 => fun a0 a1 a2 a3 a4 a5 a6 a7 h =>
  if a2 ≤ a7 then
    f_Mo_entry_99 c6 a0 a1 a2 a3 a4 a5 a6 h
  else
    if a3 = 0 then
      if a6 = 0 then
        (z_gR h 9 a0 50).bind fun v9 =>
        (z_aI h 20 v9 a5).bind fun v10 =>
        if v10 ≤ 0 then
          f_Mo_entry_90 c6 (f_Mo_entry_39 c6 n) a0 a1 a2 a3 a4 a5 a7 h
        else
          (z_gR h 9 a0 38).bind fun v11 =>
          (z_aI h 20 v11 (zw ((zw (6 * a1)) + a7))).bind fun v12 =>
          (z_gR h 9 a0 50).bind fun v13 =>
          (z_aI h 20 v13 a5).bind fun v14 =>
          if v12 = v14 then
            f_Mo_entry_86 c6 (f_Mo_entry_39 c6 n) a0 a1 a2 a3 a4 a5 a7 h
          else
            f_Mo_entry_90 c6 (f_Mo_entry_39 c6 n) a0 a1 a2 a3 a4 a5 a7 h
      else
        f_Mo_entry_86 c6 (f_Mo_entry_39 c6 n) a0 a1 a2 a3 a4 a5 a7 h
    else
      f_Mo_entry_99 c6 a0 a1 a2 a3 a4 a5 a6 h
def f_Mo_entry_34 (c6 : Nat → Int → Int → Int → Int → Int → zH → Option (Int × zH)) (a0 : Nat) (a1 : Int) (a2 : Int) (a3 : Int) (a4 : Int) (a5 : Int) (s0 : Int) (h : zH) : Option (Int × zH) :=
  f_Mo_entry_39 c6 100000 a0 a1 a2 a3 a4 a5 s0 0 h
def f_Mo_entry_33 (c6 : Nat → Int → Int → Int → Int → Int → zH → Option (Int × zH)) (a0 : Nat) (a1 : Int) (a2 : Int) (a3 : Int) (a4 : Int) (a5 : Int) (h : zH) : Option (Int × zH) :=
  f_Mo_entry_34 c6 a0 a1 a2 a3 a4 a5 0 h
def f_Mo_entry_6 : Nat → Nat → Int → Int → Int → Int → Int → zH → Option (Int × zH)
  | 0 => fun _ _ _ _ _ _ _ => none
  | n + 1 => fun a0 a1 a2 a3 a4 a5 h =>
  (z_gI h 9 a0 48).bind fun v20 =>
  if v20 ≤ a5 then
    some (a4, h)
  else
    if a3 = 0 then
      f_Mo_entry_33 (f_Mo_entry_6 n) a0 a1 a2 a3 a4 a5 h
    else
      (z_gR h 9 a0 50).bind fun v21 =>
      (z_aI h 20 v21 a5).bind fun v22 =>
      if v22 = 0 then
        f_Mo_entry_34 (f_Mo_entry_6 n) a0 a1 a2 a3 a4 a5 1 h
      else
        f_Mo_entry_33 (f_Mo_entry_6 n) a0 a1 a2 a3 a4 a5 h
def f_Mo_entry (a0 : Nat) (a1 : Int) (a2 : Int) (a3 : Int) (h : zH) : Option (Int × zH) :=
  f_Mo_entry_6 100000 a0 a1 a2 a3 0 0 h
def f_Mo_colour_42 (c11 : Nat → Int → Int → Int → zH → Option (Int × zH)) (a0 : Nat) (a1 : Int) (a3 : Int) (s0 : Int) (h : zH) : Option (Int × zH) :=
  c11 a0 a1 s0 (zw (a3 + (-1))) h
def f_Mo_colour_11 : Nat → Nat → Int → Int → Int → zH → Option (Int × zH)
  | 0 => fun _ _ _ _ _ => none
  | n + 1 => fun a0 a1 a2 a3 h =>
  if a3 < 0 then
    some (a2, h)
  else
    if a2 = 0 then
      (z_ck h 9 a0).bind fun n1 =>
      (f_Mo_entry a0 a1 a3 0 h).bind fun q2 =>
      if q2.1 = 0 then
        (z_ck q2.2 9 a0).bind fun n3 =>
        (f_Mo_entry a0 a1 a3 1 q2.2).bind fun q4 =>
        f_Mo_colour_42 (f_Mo_colour_11 n) a0 a1 a3 q4.1 q4.2
      else
        f_Mo_colour_42 (f_Mo_colour_11 n) a0 a1 a3 q2.1 q2.2
    else
      some (a2, h)
def f_Mo_colour (a0 : Nat) (a1 : Int) (h : zH) : Option (Int × zH) :=
  (z_gR h 9 a0 37).bind fun v8 =>
  (z_aI h 20 v8 a1).bind fun v9 =>
  f_Mo_colour_11 100000 a0 a1 0 (zw (v9 - 1)) h
def f_Mo_token (a0 : Nat) (a1 : Int) (a2 : Int) (a3 : Int) (h : zH) : Option (Int × zH) :=
  (z_ck h 9 a0).bind fun n1 =>
  (f_Mo_isLine a0 a1 h).bind fun q2 =>
  if q2.1 = 0 then
    some ((-1), q2.2)
  else
    if a2 < 0 then
      some ((-1), q2.2)
    else
      if a3 < 0 then
        some ((-1), q2.2)
      else
        if a3 ≤ 3 then
          (z_gR q2.2 9 a0 35).bind fun v3 =>
          (z_aI q2.2 20 v3 a1).bind fun v4 =>
          if a2 < v4 then
            (z_gR q2.2 9 a0 37).bind fun v5 =>
            (z_aI q2.2 20 v5 (zw ((zw (24 * a1)) + a2))).bind fun v6 =>
            if a3 = 0 then
              (z_gR q2.2 9 a0 36).bind fun v14 =>
              (z_aI q2.2 20 v14 (zw ((zw (24 * a1)) + a2))).bind fun v15 =>
              some (v15, q2.2)
            else
              if a3 = 1 then
                some (v6, q2.2)
              else
                if a3 = 2 then
                  if v6 = 0 then
                    some (0, q2.2)
                  else
                    (z_gR q2.2 9 a0 38).bind fun v9 =>
                    (z_aI q2.2 20 v9 (zw ((zw ((zw (6 * (zw ((zw (24 * a1)) + a2)))) + v6)) - 1))).bind fun v10 =>
                    some (v10, q2.2)
                else
                  (z_ck q2.2 9 a0).bind fun n7 =>
                  (f_Mo_colour a0 (zw ((zw (24 * a1)) + a2)) q2.2).bind fun q8 =>
                  some (q8.1, q8.2)
          else
            some ((-1), q2.2)
        else
          some ((-1), q2.2)
def f_Mo_marked (a0 : Nat) (a1 : Int) (h : zH) : Option (Int × zH) :=
  (z_ck h 9 a0).bind fun n1 =>
  (f_Mo_isLine a0 a1 h).bind fun q2 =>
  if q2.1 = 0 then
    some (0, q2.2)
  else
    (z_gR q2.2 9 a0 34).bind fun v3 =>
    (z_aI q2.2 22 v3 a1).bind fun v4 =>
    if v4 = 0 then
      some (0, q2.2)
    else
      some (1, q2.2)
def f_Mo_state (a0 : Nat) (a1 : Int) (a2 : Int) (h : zH) : Option (Int × zH) :=
  (z_ck h 9 a0).bind fun n1 =>
  (f_Mo_isLine a0 a1 h).bind fun q2 =>
  if q2.1 = 0 then
    some ((-1), q2.2)
  else
    if (-1) ≤ a2 then
      if 0 ≤ a2 then
        (z_gR q2.2 9 a0 39).bind fun v3 =>
        (z_aI q2.2 20 v3 a1).bind fun v4 =>
        if v4 ≤ a2 then
          some ((-1), q2.2)
        else
          (z_gR q2.2 9 a0 40).bind fun v5 =>
          (z_aI q2.2 20 v5 (zw ((zw (5 * a1)) + a2))).bind fun v6 =>
          some (v6, q2.2)
      else
        (z_gR q2.2 9 a0 39).bind fun v8 =>
        (z_aI q2.2 20 v8 a1).bind fun v9 =>
        some (v9, q2.2)
    else
      some ((-1), q2.2)
def f_Mo_text (a0 : Nat) (a1 : Int) (a2 : Int) (a3 : Int) (h : zH) : Option (Int × zH) :=
  (z_ck h 9 a0).bind fun n1 =>
  (f_Mo_isLine a0 a1 h).bind fun q2 =>
  if q2.1 = 0 then
    some ((-1), q2.2)
  else
    if a2 < 0 then
      some ((-1), q2.2)
    else
      if a3 < 1 then
        some ((-1), q2.2)
      else
        if a3 ≤ 2 then
          (z_gR q2.2 9 a0 39).bind fun v3 =>
          (z_aI q2.2 20 v3 a1).bind fun v4 =>
          if v4 ≤ a2 then
            some ((-1), q2.2)
          else
            (z_gR q2.2 9 a0 41).bind fun v5 =>
            (z_aI q2.2 20 v5 (zw ((zw ((zw ((zw (10 * a1)) + (zw (2 * a2)))) + a3)) - 1))).bind fun v6 =>
            some (v6, q2.2)
        else
          some ((-1), q2.2)
def f_Mo_find_85 (a0 : Nat) (h : zH) : Option (Int × zH) :=
  (z_gI h 9 a0 22).bind fun v1 =>
  if v1 = 0 then
    some ((-1), h)
  else
    some ((-4), h)
def f_Mo_find (a0 : Nat) (a1 : Int) (a2 : Int) (a3 : Int) (a4 : Int) (h : zH) : Option (Int × zH) :=
  if a1 < 1 then
    some ((-1), h)
  else
    (z_gI h 9 a0 3).bind fun v3 =>
    if v3 < a1 then
      some ((-1), h)
    else
      (z_ck h 9 a0).bind fun n4 =>
      (f_Mo_isLine a0 a2 h).bind fun q5 =>
      if q5.1 = 0 then
        some ((-1), q5.2)
      else
        if a3 < 0 then
          some ((-1), q5.2)
        else
          if a4 < 0 then
            some ((-1), q5.2)
          else
            if a4 ≤ 8 then
              (z_gR q5.2 9 a0 32).bind fun v6 =>
              (z_aI q5.2 20 v6 a2).bind fun v7 =>
              if a3 ≤ v7 then
                (z_ck q5.2 9 a0).bind fun n8 =>
                (f_Mo_search a0 (zw (2 * a1)) a2 a3 q5.2).bind fun h9 =>
                if a4 = 2 then
                  (z_gI h9 9 a0 21).bind fun v20 =>
                  some (v20, h9)
                else
                  (z_gI h9 9 a0 22).bind fun v10 =>
                  if v10 = 0 then
                    (z_gI h9 9 a0 23).bind fun v11 =>
                    if 0 ≤ v11 then
                      if a4 = 0 then
                        (z_gI h9 9 a0 23).bind fun v16 =>
                        some (v16, h9)
                      else
                        if a4 = 1 then
                          (z_gI h9 9 a0 24).bind fun v14 =>
                          some (v14, h9)
                        else
                          (z_gR h9 9 a0 25).bind fun v12 =>
                          (z_aI h9 20 v12 (zw (a4 - 3))).bind fun v13 =>
                          some (v13, h9)
                    else
                      f_Mo_find_85 a0 h9
                  else
                    f_Mo_find_85 a0 h9
              else
                some ((-1), q5.2)
            else
              some ((-1), q5.2)
def f_Lw_cell (a1 : Int) (h : zH) : Option (Int × zH) :=
  (z_len h 99 0).bind fun v1 =>
  if v1 ≤ a1 then
    some (0, h)
  else
    (z_aI h 99 0 a1).bind fun v2 =>
    some (v2, h)
def f_Lw_law_643 (c28 : Nat → Nat → Int → zH → Option (Int × zH)) (a1 : Nat) (a2 : Nat) (a3 : Int) (h : zH) : Option (Int × zH) :=
  c28 a1 a2 (zw (a3 + 5)) h
def f_Lw_law_28 : Nat → Nat → Nat → Int → zH → Option (Int × zH)
  | 0 => fun _ _ _ _ => none
  | n + 1 => fun a1 a2 a3 h =>
  (z_len h 99 0).bind fun v1 =>
  if (zw (v1 - 5)) < a3 then
    some (1, h)
  else
    (z_aI h 99 0 a3).bind fun v2 =>
    if (z_and v2 31) = 0 then
      (z_aI h 99 0 (zw (a3 + 1))).bind fun v3 =>
      (z_aI h 99 0 (zw (a3 + 2))).bind fun v4 =>
      (z_ck h 0 a1).bind fun n5 =>
      (f_SL_type a1 (z_lor (z_lshl v3 32) (z_land v4 4294967295)) h).bind fun q6 =>
      (z_aI q6.2 99 0 (zw (a3 + 1))).bind fun v7 =>
      (z_aI q6.2 99 0 (zw (a3 + 2))).bind fun v8 =>
      (z_ck q6.2 9 a2).bind fun n9 =>
      (f_Mo_type a2 (z_lor (z_lshl v7 32) (z_land v8 4294967295)) q6.2).bind fun q10 =>
      if q6.1 = q10.1 then
        f_Lw_law_643 (f_Lw_law_28 n) a1 a2 a3 q10.2
      else
        some (0, q10.2)
    else
    if (z_and v2 31) = 1 then
      (z_ck h 0 a1).bind fun n13 =>
      (f_SL_wipe a1 h).bind fun h14 =>
      (z_ck h14 9 a2).bind fun n15 =>
      (f_Mo_wipe a2 h14).bind fun h16 =>
      f_Lw_law_643 (f_Lw_law_28 n) a1 a2 a3 h16
    else
    if (z_and v2 31) = 2 then
      (z_aI h 99 0 (zw (a3 + 1))).bind fun v18 =>
      (z_aI h 99 0 (zw (a3 + 2))).bind fun v19 =>
      (z_ck h 0 a1).bind fun n20 =>
      (f_SL_piece a1 v18 v19 h).bind fun q21 =>
      (z_aI q21.2 99 0 (zw (a3 + 1))).bind fun v22 =>
      (z_aI q21.2 99 0 (zw (a3 + 2))).bind fun v23 =>
      (z_ck q21.2 9 a2).bind fun n24 =>
      (f_Mo_piece a2 v22 v23 q21.2).bind fun q25 =>
      if q21.1 = q25.1 then
        f_Lw_law_643 (f_Lw_law_28 n) a1 a2 a3 q25.2
      else
        some (0, q25.2)
    else
    if (z_and v2 31) = 3 then
      (z_aI h 99 0 (zw (a3 + 1))).bind fun v28 =>
      (z_aI h 99 0 (zw (a3 + 2))).bind fun v29 =>
      (z_ck h 0 a1).bind fun n30 =>
      (f_SL_range a1 v28 v29 h).bind fun q31 =>
      (z_aI q31.2 99 0 (zw (a3 + 1))).bind fun v32 =>
      (z_aI q31.2 99 0 (zw (a3 + 2))).bind fun v33 =>
      (z_ck q31.2 9 a2).bind fun n34 =>
      (f_Mo_range a2 v32 v33 q31.2).bind fun q35 =>
      if q31.1 = q35.1 then
        f_Lw_law_643 (f_Lw_law_28 n) a1 a2 a3 q35.2
      else
        some (0, q35.2)
    else
    if (z_and v2 31) = 4 then
      (z_aI h 99 0 (zw (a3 + 1))).bind fun v38 =>
      (z_aI h 99 0 (zw (a3 + 2))).bind fun v39 =>
      (z_ck h 0 a1).bind fun n40 =>
      (f_SL_include a1 v38 v39 h).bind fun q41 =>
      (z_aI q41.2 99 0 (zw (a3 + 1))).bind fun v42 =>
      (z_aI q41.2 99 0 (zw (a3 + 2))).bind fun v43 =>
      (z_ck q41.2 9 a2).bind fun n44 =>
      (f_Mo_include a2 v42 v43 q41.2).bind fun q45 =>
      if q41.1 = q45.1 then
        f_Lw_law_643 (f_Lw_law_28 n) a1 a2 a3 q45.2
      else
        some (0, q45.2)
    else
    if (z_and v2 31) = 5 then
      (z_aI h 99 0 (zw (a3 + 1))).bind fun v48 =>
      (z_aI h 99 0 (zw (a3 + 2))).bind fun v49 =>
      (z_aI h 99 0 (zw (a3 + 3))).bind fun v50 =>
      (z_ck h 0 a1).bind fun n51 =>
      (f_SL_theme a1 v48 v49 v50 h).bind fun q52 =>
      (z_aI q52.2 99 0 (zw (a3 + 1))).bind fun v53 =>
      (z_aI q52.2 99 0 (zw (a3 + 2))).bind fun v54 =>
      (z_aI q52.2 99 0 (zw (a3 + 3))).bind fun v55 =>
      (z_ck q52.2 9 a2).bind fun n56 =>
      (f_Mo_theme a2 v53 v54 v55 q52.2).bind fun q57 =>
      if q52.1 = q57.1 then
        f_Lw_law_643 (f_Lw_law_28 n) a1 a2 a3 q57.2
      else
        some (0, q57.2)
    else
    if (z_and v2 31) = 6 then
      (z_aI h 99 0 (zw (a3 + 1))).bind fun v60 =>
      (z_ck h 0 a1).bind fun n61 =>
      (f_SL_put a1 v60 h).bind fun q62 =>
      (z_aI q62.2 99 0 (zw (a3 + 1))).bind fun v63 =>
      (z_ck q62.2 9 a2).bind fun n64 =>
      (f_Mo_put a2 v63 q62.2).bind fun q65 =>
      if q62.1 = q65.1 then
        f_Lw_law_643 (f_Lw_law_28 n) a1 a2 a3 q65.2
      else
        some (0, q65.2)
    else
    if (z_and v2 31) = 7 then
      (z_aI h 99 0 (zw (a3 + 1))).bind fun v68 =>
      (z_ck h 0 a1).bind fun n69 =>
      (f_SL_drop a1 v68 h).bind fun q70 =>
      (z_aI q70.2 99 0 (zw (a3 + 1))).bind fun v71 =>
      (z_ck q70.2 9 a2).bind fun n72 =>
      (f_Mo_drop a2 v71 q70.2).bind fun q73 =>
      if q70.1 = q73.1 then
        f_Lw_law_643 (f_Lw_law_28 n) a1 a2 a3 q73.2
      else
        some (0, q73.2)
    else
    if (z_and v2 31) = 8 then
      (z_ck h 0 a1).bind fun n76 =>
      (f_SL_lines a1 h).bind fun q77 =>
      (z_ck q77.2 9 a2).bind fun n78 =>
      (f_Mo_lines a2 q77.2).bind fun q79 =>
      if q77.1 = q79.1 then
        f_Lw_law_643 (f_Lw_law_28 n) a1 a2 a3 q79.2
      else
        some (0, q79.2)
    else
    if (z_and v2 31) = 9 then
      (z_ck h 0 a1).bind fun n82 =>
      (f_SL_passes a1 h).bind fun q83 =>
      (z_ck q83.2 9 a2).bind fun n84 =>
      (f_Mo_passes a2 q83.2).bind fun q85 =>
      if q83.1 = q85.1 then
        f_Lw_law_643 (f_Lw_law_28 n) a1 a2 a3 q85.2
      else
        some (0, q85.2)
    else
    if (z_and v2 31) = 10 then
      (z_aI h 99 0 (zw (a3 + 1))).bind fun v88 =>
      (z_ck h 0 a1).bind fun n89 =>
      (f_SL_length a1 v88 h).bind fun q90 =>
      (z_aI q90.2 99 0 (zw (a3 + 1))).bind fun v91 =>
      (z_ck q90.2 9 a2).bind fun n92 =>
      (f_Mo_length a2 v91 q90.2).bind fun q93 =>
      if q90.1 = q93.1 then
        f_Lw_law_643 (f_Lw_law_28 n) a1 a2 a3 q93.2
      else
        some (0, q93.2)
    else
    if (z_and v2 31) = 11 then
      (z_aI h 99 0 (zw (a3 + 1))).bind fun v96 =>
      (z_ck h 0 a1).bind fun n97 =>
      (f_SL_tokens a1 v96 h).bind fun q98 =>
      (z_aI q98.2 99 0 (zw (a3 + 1))).bind fun v99 =>
      (z_ck q98.2 9 a2).bind fun n100 =>
      (f_Mo_tokens a2 v99 q98.2).bind fun q101 =>
      if q98.1 = q101.1 then
        f_Lw_law_643 (f_Lw_law_28 n) a1 a2 a3 q101.2
      else
        some (0, q101.2)
    else
    if (z_and v2 31) = 12 then
      (z_aI h 99 0 (zw (a3 + 1))).bind fun v104 =>
      (z_aI h 99 0 (zw (a3 + 2))).bind fun v105 =>
      (z_aI h 99 0 (zw (a3 + 3))).bind fun v106 =>
      (z_ck h 0 a1).bind fun n107 =>
      (f_SL_token a1 v104 v105 v106 h).bind fun q108 =>
      (z_aI q108.2 99 0 (zw (a3 + 1))).bind fun v109 =>
      (z_aI q108.2 99 0 (zw (a3 + 2))).bind fun v110 =>
      (z_aI q108.2 99 0 (zw (a3 + 3))).bind fun v111 =>
      (z_ck q108.2 9 a2).bind fun n112 =>
      (f_Mo_token a2 v109 v110 v111 q108.2).bind fun q113 =>
      if q108.1 = q113.1 then
        f_Lw_law_643 (f_Lw_law_28 n) a1 a2 a3 q113.2
      else
        some (0, q113.2)
    else
    if (z_and v2 31) = 13 then
      (z_aI h 99 0 (zw (a3 + 1))).bind fun v116 =>
      (z_ck h 0 a1).bind fun n117 =>
      (f_SL_marked a1 v116 h).bind fun q118 =>
      (z_aI q118.2 99 0 (zw (a3 + 1))).bind fun v119 =>
      (z_ck q118.2 9 a2).bind fun n120 =>
      (f_Mo_marked a2 v119 q118.2).bind fun q121 =>
      if q118.1 = q121.1 then
        f_Lw_law_643 (f_Lw_law_28 n) a1 a2 a3 q121.2
      else
        some (0, q121.2)
    else
    if (z_and v2 31) = 14 then
      (z_aI h 99 0 (zw (a3 + 1))).bind fun v124 =>
      (z_aI h 99 0 (zw (a3 + 2))).bind fun v125 =>
      (z_ck h 0 a1).bind fun n126 =>
      (f_SL_state a1 v124 v125 h).bind fun q127 =>
      (z_aI q127.2 99 0 (zw (a3 + 1))).bind fun v128 =>
      (z_aI q127.2 99 0 (zw (a3 + 2))).bind fun v129 =>
      (z_ck q127.2 9 a2).bind fun n130 =>
      (f_Mo_state a2 v128 v129 q127.2).bind fun q131 =>
      if q127.1 = q131.1 then
        f_Lw_law_643 (f_Lw_law_28 n) a1 a2 a3 q131.2
      else
        some (0, q131.2)
    else
    if (z_and v2 31) = 15 then
      (z_aI h 99 0 (zw (a3 + 1))).bind fun v134 =>
      (z_aI h 99 0 (zw (a3 + 2))).bind fun v135 =>
      (z_aI h 99 0 (zw (a3 + 3))).bind fun v136 =>
      (z_ck h 0 a1).bind fun n137 =>
      (f_SL_text a1 v134 v135 v136 h).bind fun q138 =>
      (z_aI q138.2 99 0 (zw (a3 + 1))).bind fun v139 =>
      (z_aI q138.2 99 0 (zw (a3 + 2))).bind fun v140 =>
      (z_aI q138.2 99 0 (zw (a3 + 3))).bind fun v141 =>
      (z_ck q138.2 9 a2).bind fun n142 =>
      (f_Mo_text a2 v139 v140 v141 q138.2).bind fun q143 =>
      if q138.1 = q143.1 then
        f_Lw_law_643 (f_Lw_law_28 n) a1 a2 a3 q143.2
      else
        some (0, q143.2)
    else
    if (z_and v2 31) = 16 then
      (z_aI h 99 0 (zw (a3 + 1))).bind fun v146 =>
      (z_aI h 99 0 (zw (a3 + 2))).bind fun v147 =>
      (z_aI h 99 0 (zw (a3 + 3))).bind fun v148 =>
      (z_aI h 99 0 (zw (a3 + 4))).bind fun v149 =>
      (z_ck h 0 a1).bind fun n150 =>
      (f_SL_find a1 v146 v147 v148 v149 h).bind fun q151 =>
      (z_aI q151.2 99 0 (zw (a3 + 1))).bind fun v152 =>
      (z_aI q151.2 99 0 (zw (a3 + 2))).bind fun v153 =>
      (z_aI q151.2 99 0 (zw (a3 + 3))).bind fun v154 =>
      (z_aI q151.2 99 0 (zw (a3 + 4))).bind fun v155 =>
      (z_ck q151.2 9 a2).bind fun n156 =>
      (f_Mo_find a2 v152 v153 v154 v155 q151.2).bind fun q157 =>
      if q151.1 = q157.1 then
        f_Lw_law_643 (f_Lw_law_28 n) a1 a2 a3 q157.2
      else
        some (0, q157.2)
    else
      f_Lw_law_643 (f_Lw_law_28 n) a1 a2 a3 h
def f_Lw_law (h : zH) : Option (Int × zH) :=
  (f_Lw_cell 0 (z_new h 0 10)).bind fun q161 =>
  (f_SL_init h.1.length q161.1 q161.2).bind fun h162 =>
  (f_Lw_cell 0 (z_new h162 9 52)).bind fun q163 =>
  (f_Mo_init h162.1.length q163.1 q163.2).bind fun h164 =>
  f_Lw_law_28 100000 h.1.length h162.1.length 1 h164
