/-! Functions, printed out of the bytecode by wip/gen/gen.py -/
def f_Pr_init (a0 : Nat) (h : zH) : Option (zH) :=
  (z_nwA h 21 20).bind fun h1 =>
  (z_pR h1 5 a0 0 h.1.length).bind fun h2 =>
  (z_nwA h2 20 4).bind fun h3 =>
  (z_pR h3 5 a0 7 h2.1.length).bind fun h4 =>
  (z_nwA h4 20 4).bind fun h5 =>
  (z_pR h5 5 a0 8 h4.1.length).bind fun h6 =>
  (z_nwA h6 20 4).bind fun h7 =>
  (z_pR h7 5 a0 9 h6.1.length).bind fun h8 =>
  (z_nwA h8 20 4).bind fun h9 =>
  (z_pR h9 5 a0 10 h8.1.length).bind fun h10 =>
  (z_nwA h10 22 4).bind fun h11 =>
  (z_pR h11 5 a0 11 h10.1.length).bind fun h12 =>
  (z_nwA h12 22 4).bind fun h13 =>
  (z_pR h13 5 a0 12 h12.1.length).bind fun h14 =>
  some h14
def f_Pa_init (a0 : Nat) (h : zH) : Option (zH) :=
  (z_nwA h 20 6).bind fun h1 =>
  (z_pR h1 3 a0 0 h.1.length).bind fun h2 =>
  (z_nwA h2 20 6).bind fun h3 =>
  (z_pR h3 3 a0 1 h2.1.length).bind fun h4 =>
  (z_nwA h4 20 6).bind fun h5 =>
  (z_pR h5 3 a0 2 h4.1.length).bind fun h6 =>
  some h6
def f_St_init (a0 : Nat) (h : zH) : Option (zH) :=
  (z_nwA h 20 5).bind fun h1 =>
  (z_pR h1 1 a0 1 h.1.length).bind fun h2 =>
  (z_nwA h2 20 10).bind fun h3 =>
  (z_pR h3 1 a0 2 h2.1.length).bind fun h4 =>
  (z_nwA h4 21 240).bind fun h5 =>
  (z_pR h5 1 a0 3 h4.1.length).bind fun h6 =>
  some h6
def f_Se_init (a0 : Nat) (a1 : Int) (h : zH) : Option (zH) :=
  (z_nwA h 20 6).bind fun h1 =>
  (z_pR h1 6 a0 1 h.1.length).bind fun h2 =>
  (z_nwA h2 20 500).bind fun h3 =>
  (z_pR h3 6 a0 9 h2.1.length).bind fun h4 =>
  (z_nwA h4 20 500).bind fun h5 =>
  (z_pR h5 6 a0 10 h4.1.length).bind fun h6 =>
  (z_pI h6 6 a0 0 a1).bind fun h7 =>
  some h7
def f_Pt_init (a0 : Nat) (h : zH) : Option (zH) :=
  (z_nwA h 20 41).bind fun h1 =>
  (z_pR h1 4 a0 0 h.1.length).bind fun h2 =>
  (z_nwA h2 20 41).bind fun h3 =>
  (z_pR h3 4 a0 1 h2.1.length).bind fun h4 =>
  (z_nwA h4 20 41).bind fun h5 =>
  (z_pR h5 4 a0 2 h4.1.length).bind fun h6 =>
  (z_nwA h6 23 6).bind fun h7 =>
  (z_pR h7 4 a0 3 h6.1.length).bind fun h8 =>
  (z_nwA h8 23 6).bind fun h9 =>
  (z_pR h9 4 a0 4 h8.1.length).bind fun h10 =>
  some h10
def f_Ru_init (a0 : Nat) (h : zH) : Option (zH) :=
  (f_Pt_init h.1.length (z_new h 4 7)).bind fun h1 =>
  (z_pR h1 7 a0 0 h.1.length).bind fun h2 =>
  (f_Pt_init h2.1.length (z_new h2 4 7)).bind fun h3 =>
  (z_pR h3 7 a0 1 h2.1.length).bind fun h4 =>
  (z_pI h4 7 a0 5 (-1)).bind fun h5 =>
  some h5
def f_Gr_init_54 : Nat → Nat → Int → zH → Option (zH)
  | 0 => fun _ _ _ => none
  | n + 1 => fun a0 a2 h =>
  (z_gR h 8 a0 0).bind fun v1 =>
  (z_len h 24 v1).bind fun v2 =>
  if v2 ≤ a2 then
    (z_gR h 8 a0 0).bind fun v3 =>
    (z_aR h 24 v3 0).bind fun v4 =>
    (z_pZ h 7 v4 2 1).bind fun h5 =>
    some h5
  else
    (z_gR h 8 a0 0).bind fun v6 =>
    (f_Ru_init h.1.length (z_new h 7 6)).bind fun h7 =>
    (z_sR h7 24 7 v6 a2 h.1.length).bind fun h8 =>
    f_Gr_init_54 n a0 (zw (a2 + 1)) h8
def f_Gr_init (a0 : Nat) (a1 : Int) (h : zH) : Option (zH) :=
  (z_nwA h 24 11).bind fun h10 =>
  (z_pR h10 8 a0 0 h.1.length).bind fun h11 =>
  (f_St_init h11.1.length (z_new h11 1 4)).bind fun h12 =>
  (z_pR h12 8 a0 3 h11.1.length).bind fun h13 =>
  (z_nwA h13 20 19).bind fun h14 =>
  (z_pR h14 8 a0 4 h13.1.length).bind fun h15 =>
  (z_nwA h15 20 6).bind fun h16 =>
  (z_pR h16 8 a0 9 h15.1.length).bind fun h17 =>
  (f_Se_init h17.1.length a1 (z_new h17 6 12)).bind fun h18 =>
  (z_pR h18 8 a0 2 h17.1.length).bind fun h19 =>
  f_Gr_init_54 100000 a0 0 h19
def f_Li_init (a0 : Nat) (h : zH) : Option (zH) :=
  (z_nwA h 21 24).bind fun h1 =>
  (z_pR h1 2 a0 0 h.1.length).bind fun h2 =>
  (z_nwA h2 20 24).bind fun h3 =>
  (z_pR h3 2 a0 2 h2.1.length).bind fun h4 =>
  (z_nwA h4 20 24).bind fun h5 =>
  (z_pR h5 2 a0 3 h4.1.length).bind fun h6 =>
  (z_nwA h6 20 144).bind fun h7 =>
  (z_pR h7 2 a0 4 h6.1.length).bind fun h8 =>
  (f_St_init h8.1.length (z_new h8 1 4)).bind fun h9 =>
  (z_pR h9 2 a0 7 h8.1.length).bind fun h10 =>
  some h10
def f_SL_init_90 : Nat → Nat → Int → zH → Option (zH)
  | 0 => fun _ _ _ => none
  | n + 1 => fun a0 a2 h =>
  if 6 ≤ a2 then
    some h
  else
    (z_gR h 0 a0 4).bind fun v1 =>
    (f_Li_init h.1.length (z_new h 2 8)).bind fun h2 =>
    (z_sR h2 25 2 v1 a2 h.1.length).bind fun h3 =>
    f_SL_init_90 n a0 (zw (a2 + 1)) h3
def f_SL_init (a0 : Nat) (a1 : Int) (h : zH) : Option (zH) :=
  (z_nwA h 21 40).bind fun h5 =>
  (z_pR h5 0 a0 0 h.1.length).bind fun h6 =>
  (f_Pr_init h6.1.length (z_new h6 5 15)).bind fun h7 =>
  (z_pR h7 0 a0 2 h6.1.length).bind fun h8 =>
  (z_nwA h8 25 6).bind fun h9 =>
  (z_pR h9 0 a0 4 h8.1.length).bind fun h10 =>
  (f_Pa_init h10.1.length (z_new h10 3 4)).bind fun h11 =>
  (z_pR h11 0 a0 7 h10.1.length).bind fun h12 =>
  (f_St_init h12.1.length (z_new h12 1 4)).bind fun h13 =>
  (z_pR h13 0 a0 8 h12.1.length).bind fun h14 =>
  (f_St_init h14.1.length (z_new h14 1 4)).bind fun h15 =>
  (z_pR h15 0 a0 9 h14.1.length).bind fun h16 =>
  (f_Gr_init h16.1.length (z_max 10 (z_min 300 a1)) (z_new h16 8 10)).bind fun h17 =>
  (z_pR h17 0 a0 3 h16.1.length).bind fun h18 =>
  f_SL_init_90 100000 a0 0 h18
def f_SL_type_54 (c6 : Nat → Int → Int → Int → zH → Option (Int × zH)) (a0 : Nat) (a1 : Int) (a4 : Int) (s0 : Int) (s1 : Int) (h : zH) : Option (Int × zH) :=
  c6 a0 a1 (zw (s0 + s1)) (zw (a4 + (-8))) h
def f_SL_type_43 (c6 : Nat → Int → Int → Int → zH → Option (Int × zH)) (a0 : Nat) (a1 : Int) (a3 : Int) (a4 : Int) (a5 : Int) (h : zH) : Option (Int × zH) :=
  if a5 = 0 then
    f_SL_type_54 c6 a0 a1 a4 a3 0 h
  else
    f_SL_type_54 c6 a0 a1 a4 a3 1 h
def f_SL_type_122 (c79 : Nat → Int → Int → zH → Option (Int × zH)) (a0 : Nat) (a1 : Int) (a4 : Int) (h : zH) : Option (Int × zH) :=
  c79 a0 a1 (zw (a4 + (-8))) h
def f_SL_type_79 : Nat → Nat → Int → Int → zH → Option (Int × zH)
  | 0 => fun _ _ _ _ => none
  | n + 1 => fun a0 a1 a4 h =>
  if a4 < 0 then
    some (1, h)
  else
    if (z_and (zw (z_lushr a1 a4)) 255) = 0 then
      f_SL_type_122 (f_SL_type_79 n) a0 a1 a4 h
    else
      (z_gR h 0 a0 0).bind fun v2 =>
      (z_gI h 0 a0 1).bind fun v3 =>
      (z_sI h 21 v2 v3 (((z_and (zw (z_lushr a1 a4)) 255) % 65536) % 65536)).bind fun h4 =>
      (z_gI h4 0 a0 1).bind fun v5 =>
      (z_pI h4 0 a0 1 (zw (v5 + 1))).bind fun h6 =>
      f_SL_type_122 (f_SL_type_79 n) a0 a1 a4 h6
def f_SL_type_6 : Nat → Nat → Int → Int → Int → zH → Option (Int × zH)
  | 0 => fun _ _ _ _ _ => none
  | n + 1 => fun a0 a1 a3 a4 h =>
  if a4 < 0 then
    (z_gI h 0 a0 1).bind fun v9 =>
    if (zw (v9 + a3)) ≤ 40 then
      f_SL_type_79 100000 a0 a1 56 h
    else
      some (0, h)
  else
    if (z_and (zw (z_lushr a1 a4)) 255) = 0 then
      f_SL_type_43 (f_SL_type_6 n) a0 a1 a3 a4 (z_and (zw (z_lushr a1 a4)) 255) h
    else
      if (z_and (zw (z_lushr a1 a4)) 255) < 32 then
        some (0, h)
      else
        if (z_and (zw (z_lushr a1 a4)) 255) ≤ 126 then
          f_SL_type_43 (f_SL_type_6 n) a0 a1 a3 a4 (z_and (zw (z_lushr a1 a4)) 255) h
        else
          some (0, h)
def f_SL_type (a0 : Nat) (a1 : Int) (h : zH) : Option (Int × zH) :=
  f_SL_type_6 100000 a0 a1 0 56 h
def f_SL_wipe (a0 : Nat) (h : zH) : Option (zH) :=
  (z_pI h 0 a0 1 0).bind fun h1 =>
  some h1
def f_Gr_isRange (a0 : Nat) (a1 : Int) (h : zH) : Option (Int × zH) :=
  if a1 < 0 then
    some (0, h)
  else
    (z_gI h 8 a0 1).bind fun v1 =>
    if v1 < a1 then
      some (0, h)
    else
      (z_gR h 8 a0 0).bind fun v2 =>
      (z_aR h 24 v2 a1).bind fun v3 =>
      (z_gI h 7 v3 2).bind fun v4 =>
      if v4 = 0 then
        some (0, h)
      else
        some (1, h)
def f_SL_isScope (a0 : Int) (h : zH) : Option (Int × zH) :=
  if a0 < 1 then
    some (0, h)
  else
    if 99 < a0 then
      some (0, h)
    else
      some (1, h)
def f_Gr_nextRule (a0 : Nat) (h : zH) : Option (Nat × zH) :=
  (z_gR h 8 a0 0).bind fun v1 =>
  (z_gI h 8 a0 1).bind fun v2 =>
  (z_aR h 24 v1 (zw (v2 + 1))).bind fun v3 =>
  some (v3, h)
def f_Pr_hasBlank_32 (c4 : Nat → Int → Int → zH → Option (Int × zH)) (a0 : Nat) (a2 : Int) (s0 : Int) (h : zH) : Option (Int × zH) :=
  c4 a0 s0 (zw (a2 + 1)) h
def f_Pr_hasBlank_4 : Nat → Nat → Int → Int → zH → Option (Int × zH)
  | 0 => fun _ _ _ _ => none
  | n + 1 => fun a0 a1 a2 h =>
  (z_gI h 5 a0 1).bind fun v1 =>
  if v1 ≤ a2 then
    (z_bo a1).bind fun b => some (b, h)
  else
    if a1 = 0 then
      (z_gR h 5 a0 0).bind fun v2 =>
      (z_aI h 21 v2 a2).bind fun v3 =>
      if v3 = 32 then
        f_Pr_hasBlank_32 (f_Pr_hasBlank_4 n) a0 a2 1 h
      else
        f_Pr_hasBlank_32 (f_Pr_hasBlank_4 n) a0 a2 0 h
    else
      (z_bo a1).bind fun b => some (b, h)
def f_Pr_hasBlank (a0 : Nat) (h : zH) : Option (Int × zH) :=
  f_Pr_hasBlank_4 100000 a0 0 0 h
def f_Pt_clear (a0 : Nat) (h : zH) : Option (zH) :=
  (z_pI h 4 a0 5 0).bind fun h1 =>
  (z_pI h1 4 a0 6 0).bind fun h2 =>
  some h2
def f_Pr_openLevel (a0 : Nat) (a1 : Int) (h : zH) : Option (zH) :=
  (z_gR h 5 a0 8).bind fun v1 =>
  (z_gI h 5 a0 6).bind fun v2 =>
  (z_sI h 20 v1 v2 a1).bind fun h3 =>
  (z_gR h3 5 a0 9).bind fun v4 =>
  (z_gI h3 5 a0 6).bind fun v5 =>
  (z_sI h3 20 v4 v5 a1).bind fun h6 =>
  (z_gR h6 5 a0 10).bind fun v7 =>
  (z_gI h6 5 a0 6).bind fun v8 =>
  (z_sI h6 20 v7 v8 0).bind fun h9 =>
  (z_gR h9 5 a0 11).bind fun v10 =>
  (z_gI h9 5 a0 6).bind fun v11 =>
  (z_sI h9 22 v10 v11 (1 % 2)).bind fun h12 =>
  (z_gR h12 5 a0 12).bind fun v13 =>
  (z_gI h12 5 a0 6).bind fun v14 =>
  (z_sI h12 22 v13 v14 (0 % 2)).bind fun h15 =>
  some h15
def f_Pt_insert_16 : Nat → Nat → Int → Int → Int → Int → Int → zH → Option (zH)
  | 0 => fun _ _ _ _ _ _ _ => none
  | n + 1 => fun a0 a1 a2 a3 a4 a5 h =>
  if a5 ≤ a1 then
    (z_gR h 4 a0 0).bind fun v1 =>
    (z_sI h 20 v1 a1 a2).bind fun h2 =>
    (z_gR h2 4 a0 1).bind fun v3 =>
    (z_sI h2 20 v3 a1 a3).bind fun h4 =>
    (z_gR h4 4 a0 2).bind fun v5 =>
    (z_sI h4 20 v5 a1 a4).bind fun h6 =>
    (z_gI h6 4 a0 5).bind fun v7 =>
    (z_pI h6 4 a0 5 (zw (v7 + 1))).bind fun h8 =>
    some h8
  else
    (z_gR h 4 a0 0).bind fun v9 =>
    (z_gR h 4 a0 0).bind fun v10 =>
    (z_aI h 20 v10 (zw (a5 - 1))).bind fun v11 =>
    (z_sI h 20 v9 a5 v11).bind fun h12 =>
    (z_gR h12 4 a0 1).bind fun v13 =>
    (z_gR h12 4 a0 1).bind fun v14 =>
    (z_aI h12 20 v14 (zw (a5 - 1))).bind fun v15 =>
    (z_sI h12 20 v13 a5 v15).bind fun h16 =>
    (z_gR h16 4 a0 2).bind fun v17 =>
    (z_gR h16 4 a0 2).bind fun v18 =>
    (z_aI h16 20 v18 (zw (a5 - 1))).bind fun v19 =>
    (z_sI h16 20 v17 a5 v19).bind fun h20 =>
    f_Pt_insert_16 n a0 a1 a2 a3 a4 (zw (a5 + (-1))) h20
def f_Pt_insert (a0 : Nat) (a1 : Int) (a2 : Int) (a3 : Int) (a4 : Int) (h : zH) : Option (zH) :=
  (z_gI h 4 a0 5).bind fun v22 =>
  if v22 = 41 then
    some h
  else
    (z_gI h 4 a0 5).bind fun v23 =>
    f_Pt_insert_16 100000 a0 a1 a2 a3 a4 v23 h
def f_Pt_append (a0 : Nat) (a1 : Int) (a2 : Int) (h : zH) : Option (zH) :=
  (z_gI h 4 a0 5).bind fun v1 =>
  (z_ck h 4 a0).bind fun n2 =>
  (f_Pt_insert a0 v1 a1 a2 0 h).bind fun h3 =>
  some h3
def f_Pt_endBranch (a0 : Nat) (a1 : Int) (h : zH) : Option (zH) :=
  (z_gI h 4 a0 5).bind fun v1 =>
  (z_ck h 4 a0).bind fun n2 =>
  (f_Pt_insert a0 a1 6 1 (zw ((zw (v1 - a1)) + 2)) h).bind fun h3 =>
  (z_ck h3 4 a0).bind fun n4 =>
  (f_Pt_append a0 7 0 h3).bind fun h5 =>
  some h5
def f_Pr_endBranch_76 (a0 : Nat) (s0 : Nat) (s1 : Int) (s2 : Int) (h : zH) : Option (zH) :=
  (z_sI h 22 s0 s1 (s2 % 2)).bind fun h1 =>
  (z_gR h1 5 a0 11).bind fun v2 =>
  (z_gI h1 5 a0 6).bind fun v3 =>
  (z_sI h1 22 v2 v3 (1 % 2)).bind fun h4 =>
  some h4
def f_Pr_endBranch_71 (a0 : Nat) (s0 : Nat) (s1 : Int) (h : zH) : Option (zH) :=
  f_Pr_endBranch_76 a0 s0 s1 1 h
def f_Pr_endBranch (a0 : Nat) (a1 : Nat) (h : zH) : Option (zH) :=
  (z_gR h 5 a0 9).bind fun v5 =>
  (z_gI h 5 a0 6).bind fun v6 =>
  (z_aI h 20 v5 v6).bind fun v7 =>
  (z_ck h 4 a1).bind fun n8 =>
  (f_Pt_endBranch a1 v7 h).bind fun h9 =>
  (z_gR h9 5 a0 10).bind fun v10 =>
  (z_gI h9 5 a0 6).bind fun v11 =>
  (z_aI h9 20 v10 v11).bind fun v12 =>
  (z_sI h9 20 v10 v11 (zw (v12 + 1))).bind fun h13 =>
  (z_gR h13 5 a0 9).bind fun v14 =>
  (z_gI h13 5 a0 6).bind fun v15 =>
  (z_gI h13 4 a1 5).bind fun v16 =>
  (z_sI h13 20 v14 v15 v16).bind fun h17 =>
  (z_gR h17 5 a0 12).bind fun v18 =>
  (z_gI h17 5 a0 6).bind fun v19 =>
  (z_gR h17 5 a0 12).bind fun v20 =>
  (z_gI h17 5 a0 6).bind fun v21 =>
  (z_aI h17 22 v20 v21).bind fun v22 =>
  if v22 = 0 then
    (z_gR h17 5 a0 11).bind fun v23 =>
    (z_gI h17 5 a0 6).bind fun v24 =>
    (z_aI h17 22 v23 v24).bind fun v25 =>
    if v25 = 0 then
      f_Pr_endBranch_76 a0 v18 v19 0 h17
    else
      f_Pr_endBranch_71 a0 v18 v19 h17
  else
    f_Pr_endBranch_71 a0 v18 v19 h17
def f_Pr_openGroup (a0 : Nat) (a1 : Nat) (h : zH) : Option (zH) :=
  (z_gI h 5 a0 5).bind fun v1 =>
  if v1 = 3 then
    (z_pZ h 5 a0 4 1).bind fun h16 =>
    some h16
  else
    (z_gI h 5 a0 5).bind fun v2 =>
    (z_ck h 4 a1).bind fun n3 =>
    (f_Pt_append a1 8 (zw (2 * v2)) h).bind fun h4 =>
    (z_gI h4 5 a0 5).bind fun v5 =>
    (z_pI h4 5 a0 5 (zw (v5 + 1))).bind fun h6 =>
    (z_gI h6 5 a0 6).bind fun v7 =>
    (z_pI h6 5 a0 6 (zw (v7 + 1))).bind fun h8 =>
    (z_gR h8 5 a0 7).bind fun v9 =>
    (z_gI h8 5 a0 6).bind fun v10 =>
    (z_gI h8 5 a0 5).bind fun v11 =>
    (z_sI h8 20 v9 v10 v11).bind fun h12 =>
    (z_gI h12 4 a1 5).bind fun v13 =>
    (z_ck h12 5 a0).bind fun n14 =>
    (f_Pr_openLevel a0 v13 h12).bind fun h15 =>
    some h15
def f_Pt_joinBranches_5 : Nat → Nat → Int → Int → Int → zH → Option (zH)
  | 0 => fun _ _ _ _ _ => none
  | n + 1 => fun a0 a2 a3 a4 h =>
  if a2 ≤ a4 then
    some h
  else
    (z_gR h 4 a0 2).bind fun v1 =>
    (z_aI h 20 v1 a3).bind fun v2 =>
    (z_gR h 4 a0 1).bind fun v3 =>
    (z_gI h 4 a0 5).bind fun v4 =>
    (z_sI h 20 v3 (zw ((zw (a3 + v2)) - 1)) (zw (v4 - (zw ((zw (a3 + v2)) - 1))))).bind fun h5 =>
    f_Pt_joinBranches_5 n a0 a2 (zw (a3 + v2)) (zw (a4 + 1)) h5
def f_Pt_joinBranches (a0 : Nat) (a1 : Int) (a2 : Int) (h : zH) : Option (zH) :=
  f_Pt_joinBranches_5 100000 a0 a2 a1 0 h
def f_Pr_closeLevel_46 (h : zH) : Option (Int × zH) :=
  some (1, h)
def f_Pr_closeLevel (a0 : Nat) (a1 : Nat) (h : zH) : Option (Int × zH) :=
  (z_gR h 5 a0 8).bind fun v1 =>
  (z_gI h 5 a0 6).bind fun v2 =>
  (z_aI h 20 v1 v2).bind fun v3 =>
  (z_gR h 5 a0 10).bind fun v4 =>
  (z_gI h 5 a0 6).bind fun v5 =>
  (z_aI h 20 v4 v5).bind fun v6 =>
  (z_ck h 4 a1).bind fun n7 =>
  (f_Pt_joinBranches a1 v3 v6 h).bind fun h8 =>
  (z_gR h8 5 a0 12).bind fun v9 =>
  (z_gI h8 5 a0 6).bind fun v10 =>
  (z_aI h8 22 v9 v10).bind fun v11 =>
  if v11 = 0 then
    (z_gR h8 5 a0 11).bind fun v12 =>
    (z_gI h8 5 a0 6).bind fun v13 =>
    (z_aI h8 22 v12 v13).bind fun v14 =>
    if v14 = 0 then
      some (0, h8)
    else
      f_Pr_closeLevel_46 h8
  else
    f_Pr_closeLevel_46 h8
def f_Pt_insertSplit_24 (s0 : Nat) (s1 : Int) (s2 : Int) (s3 : Int) (s4 : Int) (h : zH) : Option (zH) :=
  (z_ck h 4 s0).bind fun n1 =>
  (f_Pt_insert s0 s1 s2 s3 s4 h).bind fun h2 =>
  some h2
def f_Pt_insertSplit_14 (a2 : Int) (a3 : Int) (a4 : Int) (s0 : Nat) (s1 : Int) (s2 : Int) (s3 : Int) (h : zH) : Option (zH) :=
  if a4 = 0 then
    f_Pt_insertSplit_24 s0 s1 s2 s3 a3 h
  else
    f_Pt_insertSplit_24 s0 s1 s2 s3 a2 h
def f_Pt_insertSplit (a0 : Nat) (a1 : Int) (a2 : Int) (a3 : Int) (a4 : Int) (h : zH) : Option (zH) :=
  if a4 = 0 then
    f_Pt_insertSplit_14 a2 a3 a4 a0 a1 6 a2 h
  else
    f_Pt_insertSplit_14 a2 a3 a4 a0 a1 6 a3 h
def f_Pt_repeat (a0 : Nat) (a1 : Int) (a2 : Int) (a3 : Int) (h : zH) : Option (zH) :=
  (z_gI h 4 a0 5).bind fun v1 =>
  if a2 = 43 then
    (z_gI h 4 a0 5).bind fun v9 =>
    (z_ck h 4 a0).bind fun n10 =>
    (f_Pt_insertSplit a0 v9 (zw (-(zw (v1 - a1)))) 1 a3 h).bind fun h11 =>
    some h11
  else
    if a2 = 63 then
      (z_ck h 4 a0).bind fun n6 =>
      (f_Pt_insertSplit a0 a1 1 (zw ((zw (v1 - a1)) + 1)) a3 h).bind fun h7 =>
      some h7
    else
      (z_ck h 4 a0).bind fun n2 =>
      (f_Pt_insertSplit a0 a1 1 (zw ((zw (v1 - a1)) + 2)) a3 h).bind fun h3 =>
      (z_ck h3 4 a0).bind fun n4 =>
      (f_Pt_append a0 7 (zw (-(zw ((zw (v1 - a1)) + 1)))) h3).bind fun h5 =>
      some h5
def f_Pr_readQuantifier_172 (a0 : Nat) (a4 : Int) (h : zH) : Option (zH) :=
  (z_gR h 5 a0 11).bind fun v1 =>
  (z_gI h 5 a0 6).bind fun v2 =>
  (z_gR h 5 a0 11).bind fun v3 =>
  (z_gI h 5 a0 6).bind fun v4 =>
  (z_aI h 22 v3 v4).bind fun v5 =>
  if v5 = 0 then
    (z_sI h 22 v1 v2 (0 % 2)).bind fun h6 =>
    some h6
  else
    if a4 = 0 then
      (z_sI h 22 v1 v2 (0 % 2)).bind fun h7 =>
      some h7
    else
      (z_sI h 22 v1 v2 (1 % 2)).bind fun h8 =>
      some h8
def f_Pr_readQuantifier_170 (a0 : Nat) (s0 : Int) (h : zH) : Option (zH) :=
  f_Pr_readQuantifier_172 a0 s0 h
def f_Pr_readQuantifier_146 (a0 : Nat) (a1 : Int) (a3 : Nat) (a5 : Int) (a6 : Int) (s0 : Nat) (s1 : Int) (h : zH) : Option (zH) :=
  (z_pZ h 5 s0 4 s1).bind fun h11 =>
  (z_ck h11 4 a3).bind fun n12 =>
  (f_Pt_repeat a3 a1 a5 a6 h11).bind fun h13 =>
  if a5 = 43 then
    f_Pr_readQuantifier_170 a0 0 h13
  else
    f_Pr_readQuantifier_170 a0 1 h13
def f_Pr_readQuantifier_141 (a0 : Nat) (a1 : Int) (a3 : Nat) (a5 : Int) (a6 : Int) (s0 : Nat) (h : zH) : Option (zH) :=
  f_Pr_readQuantifier_146 a0 a1 a3 a5 a6 s0 1 h
def f_Pr_readQuantifier_145 (a0 : Nat) (a1 : Int) (a3 : Nat) (a5 : Int) (a6 : Int) (s0 : Nat) (h : zH) : Option (zH) :=
  f_Pr_readQuantifier_146 a0 a1 a3 a5 a6 s0 0 h
def f_Pr_readQuantifier_115 (a0 : Nat) (a1 : Int) (a2 : Int) (a3 : Nat) (a5 : Int) (a6 : Int) (s0 : Nat) (s1 : Int) (s2 : Int) (h : zH) : Option (zH) :=
  (z_pI h 5 s0 2 (zw (s1 + s2))).bind fun h15 =>
  (z_gR h15 4 a3 0).bind fun v16 =>
  (z_aI h15 20 v16 a1).bind fun v17 =>
  if v17 = 5 then
    f_Pr_readQuantifier_141 a0 a1 a3 a5 a6 a0 h15
  else
    if a2 = 0 then
      f_Pr_readQuantifier_145 a0 a1 a3 a5 a6 a0 h15
    else
      if a5 = 63 then
        f_Pr_readQuantifier_145 a0 a1 a3 a5 a6 a0 h15
      else
        f_Pr_readQuantifier_141 a0 a1 a3 a5 a6 a0 h15
def f_Pr_readQuantifier_98 (a0 : Nat) (a1 : Int) (a2 : Int) (a3 : Nat) (a5 : Int) (s0 : Int) (h : zH) : Option (zH) :=
  (z_gI h 5 a0 2).bind fun v21 =>
  if s0 = 0 then
    f_Pr_readQuantifier_115 a0 a1 a2 a3 a5 s0 a0 v21 0 h
  else
    f_Pr_readQuantifier_115 a0 a1 a2 a3 a5 s0 a0 v21 1 h
def f_Pr_readQuantifier_97 (a0 : Nat) (a1 : Int) (a2 : Int) (a3 : Nat) (a5 : Int) (h : zH) : Option (zH) :=
  f_Pr_readQuantifier_98 a0 a1 a2 a3 a5 0 h
def f_Pr_readQuantifier_58 (a0 : Nat) (a1 : Int) (a2 : Int) (a3 : Nat) (a5 : Int) (h : zH) : Option (zH) :=
  (z_gI h 5 a0 2).bind fun v23 =>
  (z_pI h 5 a0 2 (zw (v23 + 1))).bind fun h24 =>
  (z_gI h24 5 a0 2).bind fun v25 =>
  (z_gI h24 5 a0 1).bind fun v26 =>
  if v26 ≤ v25 then
    f_Pr_readQuantifier_97 a0 a1 a2 a3 a5 h24
  else
    (z_gR h24 5 a0 0).bind fun v27 =>
    (z_gI h24 5 a0 2).bind fun v28 =>
    (z_aI h24 21 v27 v28).bind fun v29 =>
    if v29 = 63 then
      f_Pr_readQuantifier_98 a0 a1 a2 a3 a5 1 h24
    else
      f_Pr_readQuantifier_97 a0 a1 a2 a3 a5 h24
def f_Pr_readQuantifier_28 (a0 : Nat) (a1 : Int) (a2 : Int) (a3 : Nat) (a4 : Int) (s0 : Int) (h : zH) : Option (zH) :=
  (z_gI h 5 a0 4).bind fun v32 =>
  if v32 = 0 then
    if s0 = 42 then
      f_Pr_readQuantifier_58 a0 a1 a2 a3 s0 h
    else
      if s0 = 43 then
        f_Pr_readQuantifier_58 a0 a1 a2 a3 s0 h
      else
        if s0 = 63 then
          f_Pr_readQuantifier_58 a0 a1 a2 a3 s0 h
        else
          f_Pr_readQuantifier_172 a0 a4 h
  else
    f_Pr_readQuantifier_172 a0 a4 h
def f_Pr_readQuantifier (a0 : Nat) (a1 : Int) (a2 : Int) (a3 : Nat) (h : zH) : Option (zH) :=
  (z_gI h 5 a0 2).bind fun v37 =>
  (z_gI h 5 a0 1).bind fun v38 =>
  if v38 ≤ v37 then
    f_Pr_readQuantifier_28 a0 a1 a2 a3 a2 32 h
  else
    (z_gR h 5 a0 0).bind fun v39 =>
    (z_gI h 5 a0 2).bind fun v40 =>
    (z_aI h 21 v39 v40).bind fun v41 =>
    f_Pr_readQuantifier_28 a0 a1 a2 a3 a2 v41 h
def f_Pr_closeGroup (a0 : Nat) (a1 : Nat) (h : zH) : Option (zH) :=
  (z_gI h 5 a0 6).bind fun v1 =>
  if v1 = 0 then
    (z_pZ h 5 a0 4 1).bind fun h16 =>
    some h16
  else
    (z_ck h 5 a0).bind fun n2 =>
    (f_Pr_closeLevel a0 a1 h).bind fun q3 =>
    (z_gR q3.2 5 a0 7).bind fun v4 =>
    (z_gI q3.2 5 a0 6).bind fun v5 =>
    (z_aI q3.2 20 v4 v5).bind fun v6 =>
    (z_ck q3.2 4 a1).bind fun n7 =>
    (f_Pt_append a1 8 (zw ((zw (2 * v6)) - 1)) q3.2).bind fun h8 =>
    (z_gR h8 5 a0 8).bind fun v9 =>
    (z_gI h8 5 a0 6).bind fun v10 =>
    (z_aI h8 20 v9 v10).bind fun v11 =>
    (z_gI h8 5 a0 6).bind fun v12 =>
    (z_pI h8 5 a0 6 (zw (v12 - 1))).bind fun h13 =>
    (z_ck h13 5 a0).bind fun n14 =>
    (f_Pr_readQuantifier a0 (zw (v11 - 1)) q3.1 a1 h13).bind fun h15 =>
    some h15
def f_Pr_readItem_183 (c123 : Nat → Int → Int → zH → Option (zH)) (a0 : Nat) (a3 : Int) (a4 : Int) (s0 : Nat) (s1 : Int) (s2 : Int) (h : zH) : Option (zH) :=
  (z_pI h 5 s0 14 (z_lor s1 s2)).bind fun h1 =>
  c123 a0 a3 (zw (a4 + 1)) h1
def f_Pr_readItem_156 (c123 : Nat → Int → Int → zH → Option (zH)) (a0 : Nat) (a3 : Int) (a4 : Int) (a5 : Int) (s0 : Nat) (s1 : Int) (s2 : Int) (h : zH) : Option (zH) :=
  (z_pI h 5 s0 13 (z_lor s1 s2)).bind fun h2 =>
  (z_gI h2 5 a0 14).bind fun v3 =>
  if 64 ≤ a5 then
    f_Pr_readItem_183 c123 a0 a3 a4 a0 v3 (z_lshl 1 (zw (a5 - 64))) h2
  else
    f_Pr_readItem_183 c123 a0 a3 a4 a0 v3 0 h2
def f_Pr_readItem_123 : Nat → Nat → Int → Int → zH → Option (zH)
  | 0 => fun _ _ _ _ => none
  | n + 1 => fun a0 a3 a4 h =>
  if a3 < a4 then
    some h
  else
    (z_gI h 5 a0 13).bind fun v5 =>
    if 64 ≤ (zw (a4 - 32)) then
      f_Pr_readItem_156 (f_Pr_readItem_123 n) a0 a3 a4 (zw (a4 - 32)) a0 v5 0 h
    else
      f_Pr_readItem_156 (f_Pr_readItem_123 n) a0 a3 a4 (zw (a4 - 32)) a0 v5 (z_lshl 1 (zw (a4 - 32))) h
def f_Pr_readItem_117 (a0 : Nat) (a1 : Int) (a3 : Int) (s0 : Nat) (s1 : Int) (h : zH) : Option (zH) :=
  (z_pZ h 5 s0 4 s1).bind fun h8 =>
  f_Pr_readItem_123 100000 a0 a3 a1 h8
def f_Pr_readItem_112 (a0 : Nat) (a1 : Int) (a3 : Int) (s0 : Nat) (h : zH) : Option (zH) :=
  f_Pr_readItem_117 a0 a1 a3 s0 1 h
def f_Pr_readItem_95 (a0 : Nat) (a1 : Int) (a3 : Int) (s0 : Nat) (s1 : Int) (s2 : Int) (h : zH) : Option (zH) :=
  (z_pI h 5 s0 2 (zw (s1 + s2))).bind fun h9 =>
  (z_gI h9 5 a0 4).bind fun v10 =>
  if v10 = 0 then
    if a1 ≤ a3 then
      f_Pr_readItem_117 a0 a1 a3 a0 0 h9
    else
      f_Pr_readItem_112 a0 a1 a3 a0 h9
  else
    f_Pr_readItem_112 a0 a1 a3 a0 h9
def f_Pr_readItem_80 (a0 : Nat) (a1 : Int) (a2 : Int) (s0 : Int) (h : zH) : Option (zH) :=
  (z_gI h 5 a0 2).bind fun v13 =>
  if a2 = 0 then
    f_Pr_readItem_95 a0 a1 s0 a0 v13 1 h
  else
    f_Pr_readItem_95 a0 a1 s0 a0 v13 3 h
def f_Pr_readItem_60 (a0 : Nat) (a1 : Int) (s0 : Int) (h : zH) : Option (zH) :=
  if s0 = 0 then
    f_Pr_readItem_80 a0 a1 s0 a1 h
  else
    (z_gR h 5 a0 0).bind fun v15 =>
    (z_gI h 5 a0 2).bind fun v16 =>
    (z_aI h 21 v15 (zw (v16 + 2))).bind fun v17 =>
    f_Pr_readItem_80 a0 a1 s0 v17 h
def f_Pr_readItem_59 (a0 : Nat) (a1 : Int) (h : zH) : Option (zH) :=
  f_Pr_readItem_60 a0 a1 0 h
def f_Pr_readItem (a0 : Nat) (h : zH) : Option (zH) :=
  (z_gR h 5 a0 0).bind fun v19 =>
  (z_gI h 5 a0 2).bind fun v20 =>
  (z_aI h 21 v19 v20).bind fun v21 =>
  (z_gI h 5 a0 2).bind fun v22 =>
  (z_gI h 5 a0 1).bind fun v23 =>
  if v23 ≤ (zw (v22 + 2)) then
    f_Pr_readItem_59 a0 v21 h
  else
    (z_gR h 5 a0 0).bind fun v24 =>
    (z_gI h 5 a0 2).bind fun v25 =>
    (z_aI h 21 v24 (zw (v25 + 1))).bind fun v26 =>
    if v26 = 45 then
      (z_gR h 5 a0 0).bind fun v27 =>
      (z_gI h 5 a0 2).bind fun v28 =>
      (z_aI h 21 v27 (zw (v28 + 2))).bind fun v29 =>
      if v29 = 93 then
        f_Pr_readItem_59 a0 v21 h
      else
        f_Pr_readItem_60 a0 v21 1 h
    else
      f_Pr_readItem_59 a0 v21 h
def f_Pt_appendSet (a0 : Nat) (a1 : Int) (a3 : Int) (h : zH) : Option (zH) :=
  (z_gI h 4 a0 6).bind fun v1 =>
  if 6 ≤ v1 then
    some h
  else
    (z_gR h 4 a0 3).bind fun v2 =>
    (z_gI h 4 a0 6).bind fun v3 =>
    (z_sI h 23 v2 v3 a1).bind fun h4 =>
    (z_gR h4 4 a0 4).bind fun v5 =>
    (z_gI h4 4 a0 6).bind fun v6 =>
    (z_sI h4 23 v5 v6 a3).bind fun h7 =>
    (z_gI h7 4 a0 6).bind fun v8 =>
    (z_ck h7 4 a0).bind fun n9 =>
    (f_Pt_append a0 2 v8 h7).bind fun h10 =>
    (z_gI h10 4 a0 6).bind fun v11 =>
    (z_pI h10 4 a0 6 (zw (v11 + 1))).bind fun h12 =>
    some h12
def f_Pr_readSet_128 (a0 : Nat) (h : zH) : Option (zH) :=
  (z_pZ h 5 a0 4 1).bind fun h1 =>
  some h1
def f_Pr_readSet_183 (s0 : Nat) (s1 : Int) (s2 : Int) (h : zH) : Option (zH) :=
  (z_ck h 4 s0).bind fun n2 =>
  (f_Pt_appendSet s0 s1 s2 h).bind fun h3 =>
  some h3
def f_Pr_readSet_164 (a0 : Nat) (a2 : Int) (s0 : Nat) (s1 : Int) (h : zH) : Option (zH) :=
  if a2 = 0 then
    (z_gI h 5 a0 14).bind fun v4 =>
    f_Pr_readSet_183 s0 s1 v4 h
  else
    (z_gI h 5 a0 14).bind fun v5 =>
    f_Pr_readSet_183 s0 s1 (z_lxor v5 (-1)) h
def f_Pr_readSet_109 (a0 : Nat) (a1 : Nat) (a2 : Int) (a3 : Int) (h : zH) : Option (zH) :=
  (z_gI h 5 a0 2).bind fun v7 =>
  if v7 = a3 then
    f_Pr_readSet_128 a0 h
  else
    (z_gI h 5 a0 2).bind fun v8 =>
    (z_gI h 5 a0 1).bind fun v9 =>
    if v8 < v9 then
      (z_gI h 5 a0 2).bind fun v10 =>
      (z_pI h 5 a0 2 (zw (v10 + 1))).bind fun h11 =>
      if a2 = 0 then
        (z_gI h11 5 a0 13).bind fun v12 =>
        f_Pr_readSet_164 a0 a2 a1 v12 h11
      else
        (z_gI h11 5 a0 13).bind fun v13 =>
        f_Pr_readSet_164 a0 a2 a1 (z_lxor v13 (-1)) h11
    else
      f_Pr_readSet_128 a0 h
def f_Pr_readSet_67 : Nat → Nat → Nat → Int → Int → Int → zH → Option (zH)
  | 0 => fun _ _ _ _ _ _ => none
  | n + 1 => fun a0 a1 a2 a3 a4 h =>
  if 20 ≤ a4 then
    f_Pr_readSet_109 a0 a1 a2 a3 h
  else
    (z_gI h 5 a0 2).bind fun v17 =>
    (z_gI h 5 a0 1).bind fun v18 =>
    if v18 ≤ v17 then
      f_Pr_readSet_109 a0 a1 a2 a3 h
    else
      (z_gR h 5 a0 0).bind fun v19 =>
      (z_gI h 5 a0 2).bind fun v20 =>
      (z_aI h 21 v19 v20).bind fun v21 =>
      if v21 = 93 then
        f_Pr_readSet_109 a0 a1 a2 a3 h
      else
        (z_ck h 5 a0).bind fun n22 =>
        (f_Pr_readItem a0 h).bind fun h23 =>
        f_Pr_readSet_67 n a0 a1 a2 a3 (zw (a4 + 1)) h23
def f_Pr_readSet_45 (a0 : Nat) (a1 : Nat) (a2 : Int) (s0 : Nat) (s1 : Int) (s2 : Int) (h : zH) : Option (zH) :=
  (z_pI h 5 s0 2 (zw (s1 + s2))).bind fun h27 =>
  (z_gI h27 5 a0 2).bind fun v28 =>
  (z_pI h27 5 a0 13 0).bind fun h29 =>
  (z_pI h29 5 a0 14 0).bind fun h30 =>
  f_Pr_readSet_67 100000 a0 a1 a2 v28 0 h30
def f_Pr_readSet_30 (a0 : Nat) (a1 : Nat) (s0 : Int) (h : zH) : Option (zH) :=
  (z_gI h 5 a0 2).bind fun v31 =>
  if s0 = 0 then
    f_Pr_readSet_45 a0 a1 s0 a0 v31 0 h
  else
    f_Pr_readSet_45 a0 a1 s0 a0 v31 1 h
def f_Pr_readSet_29 (a0 : Nat) (a1 : Nat) (h : zH) : Option (zH) :=
  f_Pr_readSet_30 a0 a1 0 h
def f_Pr_readSet (a0 : Nat) (a1 : Nat) (h : zH) : Option (zH) :=
  (z_gI h 5 a0 2).bind fun v33 =>
  (z_gI h 5 a0 1).bind fun v34 =>
  if v34 ≤ v33 then
    f_Pr_readSet_29 a0 a1 h
  else
    (z_gR h 5 a0 0).bind fun v35 =>
    (z_gI h 5 a0 2).bind fun v36 =>
    (z_aI h 21 v35 v36).bind fun v37 =>
    if v37 = 94 then
      f_Pr_readSet_30 a0 a1 1 h
    else
      f_Pr_readSet_29 a0 a1 h
def f_Pr_readEscape_50 (a1 : Nat) (a2 : Int) (h : zH) : Option (Int × zH) :=
  (z_ck h 4 a1).bind fun n1 =>
  (f_Pt_append a1 0 a2 h).bind fun h2 =>
  some (0, h2)
def f_Pr_readEscape_83 (a1 : Nat) (a2 : Int) (s0 : Nat) (s1 : Int) (h : zH) : Option (Int × zH) :=
  (z_pZ h 5 s0 4 s1).bind fun h3 =>
  (z_ck h3 4 a1).bind fun n4 =>
  (f_Pt_append a1 5 (zw (a2 - 48)) h3).bind fun h5 =>
  some (1, h5)
def f_Pr_readEscape_78 (a1 : Nat) (a2 : Int) (s0 : Nat) (h : zH) : Option (Int × zH) :=
  f_Pr_readEscape_83 a1 a2 s0 1 h
def f_Pr_readEscape_82 (a1 : Nat) (a2 : Int) (s0 : Nat) (h : zH) : Option (Int × zH) :=
  f_Pr_readEscape_83 a1 a2 s0 0 h
def f_Pr_readEscape (a0 : Nat) (a1 : Nat) (h : zH) : Option (Int × zH) :=
  (z_gI h 5 a0 2).bind fun v6 =>
  (z_gI h 5 a0 1).bind fun v7 =>
  if v6 = v7 then
    (z_pZ h 5 a0 4 1).bind fun h19 =>
    some (0, h19)
  else
    (z_gR h 5 a0 0).bind fun v8 =>
    (z_gI h 5 a0 2).bind fun v9 =>
    (z_aI h 21 v8 v9).bind fun v10 =>
    (z_gI h 5 a0 2).bind fun v11 =>
    (z_pI h 5 a0 2 (zw (v11 + 1))).bind fun h12 =>
    if v10 < 48 then
      f_Pr_readEscape_50 a1 v10 h12
    else
      if v10 ≤ 57 then
        (z_gI h12 5 a0 3).bind fun v13 =>
        if v13 = 0 then
          f_Pr_readEscape_78 a1 v10 a0 h12
        else
          if v10 = 49 then
            f_Pr_readEscape_82 a1 v10 a0 h12
          else
            if v10 = 50 then
              f_Pr_readEscape_82 a1 v10 a0 h12
            else
              f_Pr_readEscape_78 a1 v10 a0 h12
      else
        f_Pr_readEscape_50 a1 v10 h12
def f_Pr_readAtom_113 (a0 : Nat) (h : zH) : Option (Int × zH) :=
  (z_pZ h 5 a0 4 1).bind fun h1 =>
  some (0, h1)
def f_Pr_readAtom (a0 : Nat) (a1 : Int) (a2 : Nat) (h : zH) : Option (Int × zH) :=
  if a1 = 36 then
    (z_ck h 4 a2).bind fun n2 =>
    (f_Pt_append a2 4 0 h).bind fun h3 =>
    some (1, h3)
  else
  if a1 = 42 then
    f_Pr_readAtom_113 a0 h
  else
  if a1 = 43 then
    f_Pr_readAtom_113 a0 h
  else
  if a1 = 46 then
    (z_ck h 4 a2).bind fun n7 =>
    (f_Pt_append a2 1 0 h).bind fun h8 =>
    some (0, h8)
  else
  if a1 = 63 then
    f_Pr_readAtom_113 a0 h
  else
  if a1 = 91 then
    (z_ck h 5 a0).bind fun n11 =>
    (f_Pr_readSet a0 a2 h).bind fun h12 =>
    some (0, h12)
  else
  if a1 = 92 then
    (z_ck h 5 a0).bind fun n14 =>
    (f_Pr_readEscape a0 a2 h).bind fun q15 =>
    (z_bo q15.1).bind fun b => some (b, q15.2)
  else
  if a1 = 94 then
    (z_ck h 4 a2).bind fun n17 =>
    (f_Pt_append a2 3 0 h).bind fun h18 =>
    some (1, h18)
  else
    (z_ck h 4 a2).bind fun n20 =>
    (f_Pt_append a2 0 a1 h).bind fun h21 =>
    some (0, h21)
def f_Pr_readNext (a0 : Nat) (a1 : Nat) (h : zH) : Option (zH) :=
  (z_gR h 5 a0 0).bind fun v1 =>
  (z_gI h 5 a0 2).bind fun v2 =>
  (z_aI h 21 v1 v2).bind fun v3 =>
  (z_gI h 5 a0 2).bind fun v4 =>
  (z_pI h 5 a0 2 (zw (v4 + 1))).bind fun h5 =>
  if v3 = 124 then
    (z_ck h5 5 a0).bind fun n17 =>
    (f_Pr_endBranch a0 a1 h5).bind fun h18 =>
    some h18
  else
    if v3 = 40 then
      (z_ck h5 5 a0).bind fun n14 =>
      (f_Pr_openGroup a0 a1 h5).bind fun h15 =>
      some h15
    else
      if v3 = 41 then
        (z_ck h5 5 a0).bind fun n11 =>
        (f_Pr_closeGroup a0 a1 h5).bind fun h12 =>
        some h12
      else
        (z_gI h5 4 a1 5).bind fun v6 =>
        (z_ck h5 5 a0).bind fun n7 =>
        (f_Pr_readAtom a0 v3 a1 h5).bind fun q8 =>
        (z_ck q8.2 5 a0).bind fun n9 =>
        (f_Pr_readQuantifier a0 v6 q8.1 a1 q8.2).bind fun h10 =>
        some h10
def f_Pr_parse_117 (a0 : Nat) (a5 : Nat) (h : zH) : Option (Int × zH) :=
  (z_ck h 5 a0).bind fun n1 =>
  (f_Pr_closeLevel a0 a5 h).bind fun q2 =>
  (z_ck q2.2 4 a5).bind fun n3 =>
  (f_Pt_append a5 9 0 q2.2).bind fun h4 =>
  (z_gI h4 5 a0 4).bind fun v5 =>
  if v5 = 0 then
    (z_gI h4 5 a0 6).bind fun v6 =>
    if v6 = 0 then
      some (1, h4)
    else
      some (0, h4)
  else
    some (0, h4)
def f_Pr_parse_80 : Nat → Nat → Nat → Int → zH → Option (Int × zH)
  | 0 => fun _ _ _ _ => none
  | n + 1 => fun a0 a5 a6 h =>
  if 20 ≤ a6 then
    f_Pr_parse_117 a0 a5 h
  else
    (z_gI h 5 a0 2).bind fun v9 =>
    (z_gI h 5 a0 1).bind fun v10 =>
    if v10 ≤ v9 then
      f_Pr_parse_117 a0 a5 h
    else
      (z_gI h 5 a0 4).bind fun v11 =>
      if v11 = 0 then
        (z_ck h 5 a0).bind fun n12 =>
        (f_Pr_readNext a0 a5 h).bind fun h13 =>
        f_Pr_parse_80 n a0 a5 (zw (a6 + 1)) h13
      else
        f_Pr_parse_117 a0 a5 h
def f_Pr_parse (a0 : Nat) (a1 : Nat) (a2 : Int) (a3 : Int) (a4 : Int) (a5 : Nat) (h : zH) : Option (Int × zH) :=
  if (zw (a3 - a2)) < 1 then
    some (0, h)
  else
    if (zw (a3 - a2)) ≤ 20 then
      (z_pI h 5 a0 1 (zw (a3 - a2))).bind fun h17 =>
      (z_gR h17 5 a0 0).bind fun v18 =>
      (z_gI h17 5 a0 1).bind fun v19 =>
      (z_cp h17 21 a1 a2 v18 0 v19).bind fun h20 =>
      (z_pI h20 5 a0 2 0).bind fun h21 =>
      (z_pZ h21 5 a0 3 a4).bind fun h22 =>
      (z_ck h22 5 a0).bind fun n23 =>
      (f_Pr_hasBlank a0 h22).bind fun q24 =>
      (z_pZ q24.2 5 a0 4 q24.1).bind fun h25 =>
      (z_pI h25 5 a0 5 0).bind fun h26 =>
      (z_pI h26 5 a0 6 0).bind fun h27 =>
      (z_ck h27 4 a5).bind fun n28 =>
      (f_Pt_clear a5 h27).bind fun h29 =>
      (z_ck h29 5 a0).bind fun n30 =>
      (f_Pr_openLevel a0 0 h29).bind fun h31 =>
      f_Pr_parse_80 100000 a0 a5 0 h31
    else
      some (0, h)
def f_Gr_keepNextRule (a0 : Nat) (a1 : Int) (a2 : Int) (a3 : Int) (h : zH) : Option (zH) :=
  (z_ck h 8 a0).bind fun n1 =>
  (f_Gr_nextRule a0 h).bind fun q2 =>
  (z_pI q2.2 7 q2.1 3 a1).bind fun h3 =>
  (z_pI h3 7 q2.1 4 a2).bind fun h4 =>
  (z_pZ h4 7 q2.1 2 a3).bind fun h5 =>
  (z_gI h5 8 a0 1).bind fun v6 =>
  (z_pI h5 8 a0 1 (zw (v6 + 1))).bind fun h7 =>
  some h7
def f_SL_addRule (a0 : Nat) (a1 : Int) (a2 : Int) (a3 : Int) (h : zH) : Option (Int × zH) :=
  (z_gR h 0 a0 3).bind fun v1 =>
  (z_ck h 8 v1).bind fun n2 =>
  (f_Gr_keepNextRule v1 a1 a2 a3 h).bind fun h3 =>
  (z_pI h3 0 a0 1 0).bind fun h4 =>
  (z_gR h4 0 a0 3).bind fun v5 =>
  (z_gI h4 8 v5 1).bind fun v6 =>
  some (v6, h4)
def f_St_copy (a0 : Nat) (a1 : Nat) (h : zH) : Option (zH) :=
  (z_gI h 1 a1 0).bind fun v1 =>
  (z_pI h 1 a0 0 v1).bind fun h2 =>
  (z_gR h2 1 a1 1).bind fun v3 =>
  (z_gR h2 1 a0 1).bind fun v4 =>
  (z_cp h2 20 v3 0 v4 0 5).bind fun h5 =>
  (z_gR h5 1 a1 2).bind fun v6 =>
  (z_gR h5 1 a0 2).bind fun v7 =>
  (z_gR h5 1 a0 2).bind fun v8 =>
  (z_len h5 20 v8).bind fun v9 =>
  (z_cp h5 20 v6 0 v7 0 v9).bind fun h10 =>
  (z_gR h10 1 a1 3).bind fun v11 =>
  (z_gR h10 1 a0 3).bind fun v12 =>
  (z_gR h10 1 a0 3).bind fun v13 =>
  (z_len h10 21 v13).bind fun v14 =>
  (z_cp h10 21 v11 0 v12 0 v14).bind fun h15 =>
  some h15
def f_St_innermost (a0 : Nat) (h : zH) : Option (Int × zH) :=
  (z_gI h 1 a0 0).bind fun v1 =>
  if v1 = 0 then
    some (0, h)
  else
    (z_gR h 1 a0 1).bind fun v2 =>
    (z_gI h 1 a0 0).bind fun v3 =>
    (z_aI h 20 v2 (zw (v3 - 1))).bind fun v4 =>
    some (v4, h)
def f_Gr_listRulesOf_43 (c2 : Nat → Int → Int → zH → Option (zH)) (a0 : Nat) (a1 : Int) (a2 : Int) (h : zH) : Option (zH) :=
  c2 a0 a1 (zw (a2 + 1)) h
def f_Gr_listRulesOf_2 : Nat → Nat → Int → Int → zH → Option (zH)
  | 0 => fun _ _ _ _ => none
  | n + 1 => fun a0 a1 a2 h =>
  (z_gI h 8 a0 1).bind fun v1 =>
  if v1 < a2 then
    some h
  else
    (z_gR h 8 a0 0).bind fun v2 =>
    (z_aR h 24 v2 a2).bind fun v3 =>
    (z_gI h 7 v3 3).bind fun v4 =>
    if v4 = a1 then
      (z_gR h 8 a0 4).bind fun v5 =>
      (z_gI h 8 a0 5).bind fun v6 =>
      (z_sI h 20 v5 v6 a2).bind fun h7 =>
      (z_gI h7 8 a0 5).bind fun v8 =>
      (z_pI h7 8 a0 5 (zw (v8 + 1))).bind fun h9 =>
      f_Gr_listRulesOf_43 (f_Gr_listRulesOf_2 n) a0 a1 a2 h9
    else
      f_Gr_listRulesOf_43 (f_Gr_listRulesOf_2 n) a0 a1 a2 h
def f_Gr_listRulesOf (a0 : Nat) (a1 : Int) (h : zH) : Option (zH) :=
  f_Gr_listRulesOf_2 100000 a0 a1 1 h
def f_Gr_listCandidates_29 (a0 : Nat) (a1 : Int) (h : zH) : Option (zH) :=
  (z_ck h 8 a0).bind fun n1 =>
  (f_Gr_listRulesOf a0 a1 h).bind fun h2 =>
  (z_gR h2 8 a0 0).bind fun v3 =>
  (z_aR h2 24 v3 a1).bind fun v4 =>
  (z_gI h2 7 v4 5).bind fun v5 =>
  if v5 = (-1) then
    some h2
  else
    (z_gR h2 8 a0 0).bind fun v6 =>
    (z_aR h2 24 v6 a1).bind fun v7 =>
    (z_gI h2 7 v7 5).bind fun v8 =>
    (z_ck h2 8 a0).bind fun n9 =>
    (f_Gr_listRulesOf a0 v8 h2).bind fun h10 =>
    some h10
def f_Gr_listCandidates (a0 : Nat) (h : zH) : Option (zH) :=
  (z_gR h 8 a0 3).bind fun v12 =>
  (z_ck h 1 v12).bind fun n13 =>
  (f_St_innermost v12 h).bind fun q14 =>
  (z_pI q14.2 8 a0 5 0).bind fun h15 =>
  if q14.1 = 0 then
    f_Gr_listCandidates_29 a0 q14.1 h15
  else
    (z_gR h15 8 a0 4).bind fun v16 =>
    (z_sI h15 20 v16 0 0).bind fun h17 =>
    (z_pI h17 8 a0 5 1).bind fun h18 =>
    f_Gr_listCandidates_29 a0 q14.1 h18
def f_Ar_fill_5 : Nat → Nat → Int → Int → Int → zH → Option (zH)
  | 0 => fun _ _ _ _ _ => none
  | n + 1 => fun a0 a1 a2 a3 h =>
  if a3 ≤ a2 then
    some h
  else
    (z_sI h 20 a0 a2 a1).bind fun h1 =>
    f_Ar_fill_5 n a0 a1 (zw (a2 + 1)) a3 h1
def f_Ar_fill (a0 : Nat) (a1 : Int) (h : zH) : Option (zH) :=
  (z_len h 20 a0).bind fun v3 =>
  f_Ar_fill_5 100000 a0 a1 0 v3 h
def f_Se_leaveWaiting (a0 : Nat) (a1 : Int) (a2 : Int) (h : zH) : Option (zH) :=
  (z_gI h 6 a0 11).bind fun v1 =>
  if 500 ≤ v1 then
    some h
  else
    (z_gR h 6 a0 9).bind fun v2 =>
    (z_gI h 6 a0 11).bind fun v3 =>
    (z_sI h 20 v2 v3 a1).bind fun h4 =>
    (z_gR h4 6 a0 10).bind fun v5 =>
    (z_gI h4 6 a0 11).bind fun v6 =>
    (z_sI h4 20 v5 v6 a2).bind fun h7 =>
    (z_gI h7 6 a0 11).bind fun v8 =>
    (z_pI h7 6 a0 11 (zw (v8 + 1))).bind fun h9 =>
    some h9
def f_St_textLength (a0 : Nat) (a1 : Int) (a2 : Int) (h : zH) : Option (Int × zH) :=
  (z_gR h 1 a0 2).bind fun v1 =>
  (z_aI h 20 v1 (zw ((zw ((zw (a1 * 2)) + a2)) - 1))).bind fun v2 =>
  some (v2, h)
def f_Se_makeStep_37 (a0 : Nat) (s0 : Nat) (s1 : Int) (s2 : Int) (h : zH) : Option (Int × zH) :=
  (z_pI h 6 s0 4 (zw (s1 + s2))).bind fun h1 =>
  (z_gI h1 6 a0 5).bind fun v2 =>
  if v2 = 0 then
    some (1, h1)
  else
    some (0, h1)
def f_Se_makeStep_17 (a0 : Nat) (s0 : Nat) (s1 : Int) (h : zH) : Option (Int × zH) :=
  (z_pZ h 6 s0 5 s1).bind fun h4 =>
  (z_gI h4 6 a0 4).bind fun v5 =>
  (z_gI h4 6 a0 5).bind fun v6 =>
  if v6 = 0 then
    f_Se_makeStep_37 a0 a0 v5 1 h4
  else
    f_Se_makeStep_37 a0 a0 v5 0 h4
def f_Se_makeStep (a0 : Nat) (h : zH) : Option (Int × zH) :=
  (z_gI h 6 a0 4).bind fun v8 =>
  (z_gI h 6 a0 0).bind fun v9 =>
  if v8 = v9 then
    f_Se_makeStep_17 a0 a0 1 h
  else
    f_Se_makeStep_17 a0 a0 0 h
def f_St_textCharacter (a0 : Nat) (a1 : Int) (a2 : Int) (a3 : Int) (h : zH) : Option (Int × zH) :=
  (z_gR h 1 a0 3).bind fun v1 =>
  (z_aI h 21 v1 (zw ((zw ((zw ((zw ((zw (a1 * 2)) + a2)) - 1)) * 24)) + a3))).bind fun v2 =>
  (z_bc v2).bind fun b => some (b, h)
def f_Se_fitsText_88 (c32 : Nat → Nat → Nat → Int → Int → Int → Int → Int → zH → Option (Int × zH)) (a0 : Nat) (a1 : Nat) (a2 : Nat) (a3 : Int) (a4 : Int) (a5 : Int) (a7 : Int) (s0 : Int) (h : zH) : Option (Int × zH) :=
  (z_gI h 6 a0 7).bind fun v1 =>
  (z_pI h 6 a0 7 (zw (v1 + 1))).bind fun h2 =>
  c32 a0 a1 a2 a3 a4 a5 s0 (zw (a7 + 1)) h2
def f_Se_fitsText_87 (c32 : Nat → Nat → Nat → Int → Int → Int → Int → Int → zH → Option (Int × zH)) (a0 : Nat) (a1 : Nat) (a2 : Nat) (a3 : Int) (a4 : Int) (a5 : Int) (a7 : Int) (h : zH) : Option (Int × zH) :=
  f_Se_fitsText_88 c32 a0 a1 a2 a3 a4 a5 a7 0 h
def f_Se_fitsText_32 : Nat → Nat → Nat → Nat → Int → Int → Int → Int → Int → zH → Option (Int × zH)
  | 0 => fun _ _ _ _ _ _ _ _ _ => none
  | n + 1 => fun a0 a1 a2 a3 a4 a5 a6 a7 h =>
  if a5 ≤ a7 then
    (z_bo a6).bind fun b => some (b, h)
  else
    if a6 = 0 then
      (z_bo a6).bind fun b => some (b, h)
    else
      (z_ck h 6 a0).bind fun n3 =>
      (f_Se_makeStep a0 h).bind fun q4 =>
      if q4.1 = 0 then
        f_Se_fitsText_87 (f_Se_fitsText_32 n) a0 a1 a2 a3 a4 a5 a7 q4.2
      else
        (z_gI q4.2 6 a0 7).bind fun v5 =>
        (z_gI q4.2 2 a1 1).bind fun v6 =>
        if v6 ≤ v5 then
          f_Se_fitsText_87 (f_Se_fitsText_32 n) a0 a1 a2 a3 a4 a5 a7 q4.2
        else
          (z_gR q4.2 2 a1 0).bind fun v7 =>
          (z_gI q4.2 6 a0 7).bind fun v8 =>
          (z_aI q4.2 21 v7 v8).bind fun v9 =>
          (z_ck q4.2 1 a2).bind fun n10 =>
          (f_St_textCharacter a2 a4 a3 a7 q4.2).bind fun q11 =>
          if v9 = q11.1 then
            f_Se_fitsText_88 (f_Se_fitsText_32 n) a0 a1 a2 a3 a4 a5 a7 1 q11.2
          else
            f_Se_fitsText_87 (f_Se_fitsText_32 n) a0 a1 a2 a3 a4 a5 a7 q11.2
def f_Se_fitsText_24 (a0 : Nat) (a1 : Nat) (a2 : Nat) (a3 : Int) (a4 : Int) (s0 : Int) (h : zH) : Option (Int × zH) :=
  f_Se_fitsText_32 100000 a0 a1 a2 a3 a4 s0 1 0 h
def f_Se_fitsText (a0 : Nat) (a1 : Nat) (a2 : Nat) (a3 : Int) (h : zH) : Option (Int × zH) :=
  (z_gI h 1 a2 0).bind fun v17 =>
  if 0 ≤ (zw (v17 - 1)) then
    (z_ck h 1 a2).bind fun n18 =>
    (f_St_textLength a2 (zw (v17 - 1)) a3 h).bind fun q19 =>
    f_Se_fitsText_24 a0 a1 a2 a3 (zw (v17 - 1)) q19.1 q19.2
  else
    f_Se_fitsText_24 a0 a1 a2 a3 (zw (v17 - 1)) 0 h
def f_Pt_isInSet_26 (a3 : Int) (s0 : Int) (h : zH) : Option (Int × zH) :=
  if (z_lcmp (z_land (z_lushr s0 (z_and a3 63)) 1) 0) = 0 then
    some (0, h)
  else
    some (1, h)
def f_Pt_isInSet (a0 : Nat) (a1 : Int) (a2 : Int) (h : zH) : Option (Int × zH) :=
  if 64 ≤ (zw (a2 - 32)) then
    (z_gR h 4 a0 4).bind fun v2 =>
    (z_aI h 23 v2 a1).bind fun v3 =>
    f_Pt_isInSet_26 (zw (a2 - 32)) v3 h
  else
    (z_gR h 4 a0 3).bind fun v4 =>
    (z_aI h 23 v4 a1).bind fun v5 =>
    f_Pt_isInSet_26 (zw (a2 - 32)) v5 h
def f_Se_fitsAtom_120 (h : zH) : Option (Int × zH) :=
  some (1, h)
def f_Se_fitsAtom_104 (a1 : Nat) (a3 : Int) (a4 : Int) (a5 : Int) (h : zH) : Option (Int × zH) :=
  if a4 = 2 then
    (z_ck h 4 a1).bind fun n1 =>
    (f_Pt_isInSet a1 a3 a5 h).bind fun q2 =>
    if q2.1 = 0 then
      some (0, q2.2)
    else
      f_Se_fitsAtom_120 q2.2
  else
    some (0, h)
def f_Se_fitsAtom (a0 : Nat) (a1 : Nat) (a2 : Nat) (a3 : Int) (h : zH) : Option (Int × zH) :=
  (z_gR h 4 a1 0).bind fun v5 =>
  (z_gI h 6 a0 6).bind fun v6 =>
  (z_aI h 20 v5 v6).bind fun v7 =>
  if v7 = 3 then
    (z_gI h 6 a0 7).bind fun v23 =>
    if v23 = 0 then
      some (1, h)
    else
      some (0, h)
  else
    if v7 = 4 then
      (z_gI h 6 a0 7).bind fun v19 =>
      (z_gI h 2 a2 1).bind fun v20 =>
      if v19 = v20 then
        some (1, h)
      else
        some (0, h)
    else
      (z_gI h 6 a0 7).bind fun v8 =>
      (z_gI h 2 a2 1).bind fun v9 =>
      if v8 < v9 then
        (z_gR h 2 a2 0).bind fun v10 =>
        (z_gI h 6 a0 7).bind fun v11 =>
        (z_aI h 21 v10 v11).bind fun v12 =>
        (z_gI h 6 a0 7).bind fun v13 =>
        (z_pI h 6 a0 7 (zw (v13 + 1))).bind fun h14 =>
        if v7 = 1 then
          f_Se_fitsAtom_120 h14
        else
          if v7 = 0 then
            if v12 = a3 then
              f_Se_fitsAtom_120 h14
            else
              f_Se_fitsAtom_104 a1 a3 v7 v12 h14
          else
            f_Se_fitsAtom_104 a1 a3 v7 v12 h14
      else
        some (0, h)
def f_Se_goBack_81 (c7 : Nat → Int → Int → zH → Option (Int × zH)) (a0 : Nat) (a1 : Int) (a2 : Int) (h : zH) : Option (Int × zH) :=
  c7 a0 a1 (zw (a2 + (-1))) h
def f_Se_goBack_40 (c7 : Nat → Int → Int → zH → Option (Int × zH)) (a0 : Nat) (a2 : Int) (a3 : Int) (s0 : Int) (h : zH) : Option (Int × zH) :=
  if s0 = 0 then
    (z_gR h 6 a0 1).bind fun v1 =>
    (z_gR h 6 a0 10).bind fun v2 =>
    (z_aI h 20 v2 (zw (a2 - 1))).bind fun v3 =>
    (z_sI h 20 v1 (zw ((-1) - a3)) v3).bind fun h4 =>
    f_Se_goBack_81 c7 a0 s0 a2 h4
  else
    (z_pI h 6 a0 6 a3).bind fun h5 =>
    (z_gR h5 6 a0 10).bind fun v6 =>
    (z_aI h5 20 v6 (zw (a2 - 1))).bind fun v7 =>
    (z_pI h5 6 a0 7 v7).bind fun h8 =>
    f_Se_goBack_81 c7 a0 s0 a2 h8
def f_Se_goBack_7 : Nat → Nat → Int → Int → zH → Option (Int × zH)
  | 0 => fun _ _ _ _ => none
  | n + 1 => fun a0 a1 a2 h =>
  if a2 ≤ 0 then
    (z_bo a1).bind fun b => some (b, h)
  else
    if a1 = 0 then
      (z_pI h 6 a0 11 (zw (a2 - 1))).bind fun h10 =>
      (z_gR h10 6 a0 9).bind fun v11 =>
      (z_aI h10 20 v11 (zw (a2 - 1))).bind fun v12 =>
      if v12 < 0 then
        f_Se_goBack_40 (f_Se_goBack_7 n) a0 a2 v12 0 h10
      else
        f_Se_goBack_40 (f_Se_goBack_7 n) a0 a2 v12 1 h10
    else
      (z_bo a1).bind fun b => some (b, h)
def f_Se_goBack (a0 : Nat) (h : zH) : Option (Int × zH) :=
  (z_gI h 6 a0 11).bind fun v16 =>
  f_Se_goBack_7 100000 a0 0 v16 h
def f_Se_doNext_207 (h : zH) : Option (Int × zH) :=
  some (1, h)
def f_Se_doNext_178 (a0 : Nat) (a5 : Int) (h : zH) : Option (Int × zH) :=
  (z_gI h 6 a0 6).bind fun v1 =>
  (z_pI h 6 a0 6 (zw (v1 + 1))).bind fun h2 =>
  if a5 = 0 then
    (z_gI h2 6 a0 5).bind fun v3 =>
    if v3 = 0 then
      (z_ck h2 6 a0).bind fun n4 =>
      (f_Se_goBack a0 h2).bind fun q5 =>
      if q5.1 = 0 then
        some (0, q5.2)
      else
        f_Se_doNext_207 q5.2
    else
      some (0, h2)
  else
    f_Se_doNext_207 h2
def f_Se_doNext_176 (a0 : Nat) (s0 : Int) (h : zH) : Option (Int × zH) :=
  f_Se_doNext_178 a0 s0 h
def f_Se_doNext_175 (a0 : Nat) (h : zH) : Option (Int × zH) :=
  f_Se_doNext_176 a0 0 h
def f_Se_doNext (a0 : Nat) (a1 : Nat) (a2 : Nat) (a3 : Nat) (h : zH) : Option (Int × zH) :=
  (z_gR h 4 a1 1).bind fun v9 =>
  (z_gI h 6 a0 6).bind fun v10 =>
  (z_aI h 20 v9 v10).bind fun v11 =>
  (z_gR h 4 a1 0).bind fun v12 =>
  (z_gI h 6 a0 6).bind fun v13 =>
  (z_aI h 20 v12 v13).bind fun v14 =>
  if v14 = 5 then
    (z_ck h 6 a0).bind fun n15 =>
    (f_Se_fitsText a0 a2 a3 v11 h).bind fun q16 =>
    f_Se_doNext_178 a0 q16.1 q16.2
  else
  if v14 = 6 then
    (z_gI h 6 a0 6).bind fun v18 =>
    (z_gR h 4 a1 2).bind fun v19 =>
    (z_gI h 6 a0 6).bind fun v20 =>
    (z_aI h 20 v19 v20).bind fun v21 =>
    (z_gI h 6 a0 7).bind fun v22 =>
    (z_ck h 6 a0).bind fun n23 =>
    (f_Se_leaveWaiting a0 (zw (v18 + v21)) v22 h).bind fun h24 =>
    (z_gI h24 6 a0 6).bind fun v25 =>
    (z_pI h24 6 a0 6 (zw (v25 + v11))).bind fun h26 =>
    some (1, h26)
  else
  if v14 = 7 then
    (z_gI h 6 a0 6).bind fun v28 =>
    (z_pI h 6 a0 6 (zw (v28 + v11))).bind fun h29 =>
    some (1, h29)
  else
  if v14 = 8 then
    (z_gR h 6 a0 1).bind fun v31 =>
    (z_aI h 20 v31 v11).bind fun v32 =>
    (z_ck h 6 a0).bind fun n33 =>
    (f_Se_leaveWaiting a0 (zw ((-1) - v11)) v32 h).bind fun h34 =>
    (z_gR h34 6 a0 1).bind fun v35 =>
    (z_gI h34 6 a0 7).bind fun v36 =>
    (z_sI h34 20 v35 v11 v36).bind fun h37 =>
    f_Se_doNext_178 a0 1 h37
  else
  if v14 = 9 then
    (z_pZ h 6 a0 8 1).bind fun h39 =>
    some (0, h39)
  else
    (z_ck h 6 a0).bind fun n41 =>
    (f_Se_makeStep a0 h).bind fun q42 =>
    if q42.1 = 0 then
      f_Se_doNext_175 a0 q42.2
    else
      (z_ck q42.2 6 a0).bind fun n43 =>
      (f_Se_fitsAtom a0 a1 a2 v11 q42.2).bind fun q44 =>
      if q44.1 = 0 then
        f_Se_doNext_175 a0 q44.2
      else
        f_Se_doNext_176 a0 1 q44.2
def f_Se_run_143 (c28 : Nat → Nat → Nat → Nat → Int → zH → Option (zH)) (a0 : Nat) (a1 : Nat) (a2 : Nat) (a4 : Nat) (a5 : Int) (s0 : Nat) (s1 : Int) (h : zH) : Option (zH) :=
  (z_pI h 6 s0 3 s1).bind fun h1 =>
  c28 a0 a1 a2 a4 (zw (a5 + 1)) h1
def f_Se_run_124 (c28 : Nat → Nat → Nat → Nat → Int → zH → Option (zH)) (a0 : Nat) (a1 : Nat) (a2 : Nat) (a4 : Nat) (a5 : Int) (s0 : Nat) (s1 : Int) (h : zH) : Option (zH) :=
  (z_pI h 6 s0 2 s1).bind fun h2 =>
  (z_gI h2 6 a0 8).bind fun v3 =>
  if v3 = 0 then
    f_Se_run_143 c28 a0 a1 a2 a4 a5 a0 (-1) h2
  else
    (z_gI h2 6 a0 7).bind fun v4 =>
    f_Se_run_143 c28 a0 a1 a2 a4 a5 a0 v4 h2
def f_Se_run_110 (c28 : Nat → Nat → Nat → Nat → Int → zH → Option (zH)) (a0 : Nat) (a1 : Nat) (a2 : Nat) (a4 : Nat) (a5 : Int) (h : zH) : Option (zH) :=
  (z_gI h 6 a0 8).bind fun v6 =>
  if v6 = 0 then
    f_Se_run_124 c28 a0 a1 a2 a4 a5 a0 (-1) h
  else
    f_Se_run_124 c28 a0 a1 a2 a4 a5 a0 a5 h
def f_Se_run_81 (c28 : Nat → Nat → Nat → Nat → Int → zH → Option (zH)) : Nat → Nat → Nat → Nat → Nat → Int → Int → Int → zH → Option (zH)
  | 0 => fun _ _ _ _ _ _ _ _ => none
  | n + 1 => fun a0 a1 a2 a4 a5 a6 a7 h =>
  if 24764 ≤ a7 then
    f_Se_run_110 c28 a0 a1 a2 a4 a5 h
  else
    if a6 = 0 then
      f_Se_run_110 c28 a0 a1 a2 a4 a5 h
    else
      (z_ck h 6 a0).bind fun n8 =>
      (f_Se_doNext a0 a1 a2 a4 h).bind fun q9 =>
      f_Se_run_81 c28 n a0 a1 a2 a4 a5 q9.1 (zw (a7 + 1)) q9.2
def f_Se_run_28 : Nat → Nat → Nat → Nat → Nat → Int → zH → Option (zH)
  | 0 => fun _ _ _ _ _ _ => none
  | n + 1 => fun a0 a1 a2 a4 a5 h =>
  (z_gI h 2 a2 1).bind fun v12 =>
  if v12 < a5 then
    some h
  else
    (z_gI h 6 a0 8).bind fun v13 =>
    if v13 = 0 then
      (z_gI h 6 a0 5).bind fun v14 =>
      if v14 = 0 then
        (z_gR h 6 a0 1).bind fun v15 =>
        (f_Ar_fill v15 (-1) h).bind fun h16 =>
        (z_pI h16 6 a0 11 0).bind fun h17 =>
        (z_pI h17 6 a0 6 0).bind fun h18 =>
        (z_pI h18 6 a0 7 a5).bind fun h19 =>
        f_Se_run_81 (f_Se_run_28 n) 100000 a0 a1 a2 a4 a5 1 0 h19
      else
        some h
    else
      some h
def f_Se_run (a0 : Nat) (a1 : Nat) (a2 : Nat) (a3 : Int) (a4 : Nat) (h : zH) : Option (zH) :=
  (z_pI h 6 a0 2 (-1)).bind fun h23 =>
  (z_pI h23 6 a0 3 (-1)).bind fun h24 =>
  (z_pI h24 6 a0 4 0).bind fun h25 =>
  (z_pZ h25 6 a0 5 0).bind fun h26 =>
  (z_pZ h26 6 a0 8 0).bind fun h27 =>
  f_Se_run_28 100000 a0 a1 a2 a4 a3 h27
def f_Gr_keepWinner (a0 : Nat) (a1 : Int) (h : zH) : Option (zH) :=
  (z_pI h 8 a0 6 a1).bind fun h1 =>
  (z_gR h1 8 a0 2).bind fun v2 =>
  (z_gI h1 6 v2 2).bind fun v3 =>
  (z_pI h1 8 a0 7 v3).bind fun h4 =>
  (z_gR h4 8 a0 2).bind fun v5 =>
  (z_gI h4 6 v5 3).bind fun v6 =>
  (z_pI h4 8 a0 8 v6).bind fun h7 =>
  (z_gR h7 8 a0 2).bind fun v8 =>
  (z_gR h7 6 v8 1).bind fun v9 =>
  (z_gR h7 8 a0 9).bind fun v10 =>
  (z_gR h7 8 a0 9).bind fun v11 =>
  (z_len h7 20 v11).bind fun v12 =>
  (z_cp h7 20 v9 0 v10 0 v12).bind fun h13 =>
  some h13
def f_Gr_findWinner_133 (c25 : Nat → Nat → Int → Nat → Int → zH → Option (Int × zH)) (a0 : Nat) (a1 : Nat) (a2 : Int) (a3 : Nat) (a4 : Int) (h : zH) : Option (Int × zH) :=
  c25 a0 a1 a2 a3 (zw (a4 + 1)) h
def f_Gr_findWinner_127 (c25 : Nat → Nat → Int → Nat → Int → zH → Option (Int × zH)) (a0 : Nat) (a1 : Nat) (a2 : Int) (a3 : Nat) (a4 : Int) (a5 : Int) (h : zH) : Option (Int × zH) :=
  (z_ck h 8 a0).bind fun n1 =>
  (f_Gr_keepWinner a0 a5 h).bind fun h2 =>
  f_Gr_findWinner_133 c25 a0 a1 a2 a3 a4 h2
def f_Gr_findWinner_65 (c25 : Nat → Nat → Int → Nat → Int → zH → Option (Int × zH)) (a0 : Nat) (a1 : Nat) (a2 : Int) (a3 : Nat) (a4 : Int) (a5 : Int) (s0 : Nat) (h : zH) : Option (Int × zH) :=
  (z_gR h 8 a0 2).bind fun v3 =>
  (z_gR h 8 a0 3).bind fun v4 =>
  (z_ck h 6 v3).bind fun n5 =>
  (f_Se_run v3 s0 a1 a2 v4 h).bind fun h6 =>
  (z_gR h6 8 a0 2).bind fun v7 =>
  (z_gI h6 6 v7 5).bind fun v8 =>
  if v8 = 0 then
    (z_gR h6 8 a0 2).bind fun v9 =>
    (z_gI h6 6 v9 2).bind fun v10 =>
    if v10 = (-1) then
      f_Gr_findWinner_133 c25 a0 a1 a2 a3 a4 h6
    else
      (z_gI h6 8 a0 6).bind fun v11 =>
      if v11 = (-1) then
        f_Gr_findWinner_127 c25 a0 a1 a2 a3 a4 a5 h6
      else
        (z_gR h6 8 a0 2).bind fun v12 =>
        (z_gI h6 6 v12 2).bind fun v13 =>
        (z_gI h6 8 a0 7).bind fun v14 =>
        if v14 ≤ v13 then
          f_Gr_findWinner_133 c25 a0 a1 a2 a3 a4 h6
        else
          f_Gr_findWinner_127 c25 a0 a1 a2 a3 a4 a5 h6
  else
    some (0, h6)
def f_Gr_findWinner_25 : Nat → Nat → Nat → Int → Nat → Int → zH → Option (Int × zH)
  | 0 => fun _ _ _ _ _ _ => none
  | n + 1 => fun a0 a1 a2 a3 a4 h =>
  (z_gI h 8 a0 5).bind fun v19 =>
  if v19 ≤ a4 then
    some (1, h)
  else
    (z_gR h 8 a0 4).bind fun v20 =>
    (z_aI h 20 v20 a4).bind fun v21 =>
    if v21 = 0 then
      (z_gR h 7 a3 1).bind fun v25 =>
      f_Gr_findWinner_65 (f_Gr_findWinner_25 n) a0 a1 a2 a3 a4 v21 v25 h
    else
      (z_gR h 8 a0 0).bind fun v22 =>
      (z_aR h 24 v22 v21).bind fun v23 =>
      (z_gR h 7 v23 0).bind fun v24 =>
      f_Gr_findWinner_65 (f_Gr_findWinner_25 n) a0 a1 a2 a3 a4 v21 v24 h
def f_Gr_findWinner (a0 : Nat) (a1 : Nat) (a2 : Int) (h : zH) : Option (Int × zH) :=
  (z_gR h 8 a0 0).bind fun v28 =>
  (z_gR h 8 a0 3).bind fun v29 =>
  (z_ck h 1 v29).bind fun n30 =>
  (f_St_innermost v29 h).bind fun q31 =>
  (z_aR q31.2 24 v28 q31.1).bind fun v32 =>
  (z_ck q31.2 8 a0).bind fun n33 =>
  (f_Gr_listCandidates a0 q31.2).bind fun h34 =>
  (z_pI h34 8 a0 6 (-1)).bind fun h35 =>
  f_Gr_findWinner_25 100000 a0 a1 a2 v32 0 h35
def f_Li_addToken (a0 : Nat) (a1 : Int) (h : zH) : Option (zH) :=
  (z_gR h 2 a0 2).bind fun v1 =>
  (z_gI h 2 a0 5).bind fun v2 =>
  (z_sI h 20 v1 v2 a1).bind fun h3 =>
  (z_gR h3 2 a0 3).bind fun v4 =>
  (z_gI h3 2 a0 5).bind fun v5 =>
  (z_sI h3 20 v4 v5 0).bind fun h6 =>
  (z_gI h6 2 a0 5).bind fun v7 =>
  (z_pI h6 2 a0 5 (zw (v7 + 1))).bind fun h8 =>
  some h8
def f_Li_addScope (a0 : Nat) (a1 : Int) (h : zH) : Option (zH) :=
  (z_gI h 2 a0 5).bind fun v1 =>
  (z_gR h 2 a0 4).bind fun v2 =>
  (z_gR h 2 a0 3).bind fun v3 =>
  (z_aI h 20 v3 (zw (v1 - 1))).bind fun v4 =>
  (z_sI h 20 v2 (zw ((zw ((zw (v1 - 1)) * 6)) + v4)) a1).bind fun h5 =>
  (z_gR h5 2 a0 3).bind fun v6 =>
  (z_aI h5 20 v6 (zw (v1 - 1))).bind fun v7 =>
  (z_sI h5 20 v6 (zw (v1 - 1)) (zw (v7 + 1))).bind fun h8 =>
  some h8
def f_Gr_cut_15 : Nat → Nat → Nat → Int → zH → Option (Int × zH)
  | 0 => fun _ _ _ _ => none
  | n + 1 => fun a0 a1 a4 h =>
  (z_gR h 8 a0 3).bind fun v1 =>
  (z_gI h 1 v1 0).bind fun v2 =>
  if v2 ≤ a4 then
    some (1, h)
  else
    (z_gR h 8 a0 0).bind fun v3 =>
    (z_gR h 8 a0 3).bind fun v4 =>
    (z_gR h 1 v4 1).bind fun v5 =>
    (z_aI h 20 v5 a4).bind fun v6 =>
    (z_aR h 24 v3 v6).bind fun v7 =>
    (z_gI h 7 v7 4).bind fun v8 =>
    (z_ck h 2 a1).bind fun n9 =>
    (f_Li_addScope a1 v8 h).bind fun h10 =>
    f_Gr_cut_15 n a0 a1 (zw (a4 + 1)) h10
def f_Gr_cut (a0 : Nat) (a1 : Nat) (a2 : Int) (a3 : Int) (h : zH) : Option (Int × zH) :=
  if a2 = a3 then
    some (0, h)
  else
    (z_ck h 2 a1).bind fun n12 =>
    (f_Li_addToken a1 a2 h).bind fun h13 =>
    f_Gr_cut_15 100000 a0 a1 0 h13
def f_Gr_mark (a0 : Nat) (a1 : Nat) (a2 : Nat) (h : zH) : Option (zH) :=
  (z_gR h 8 a0 3).bind fun v1 =>
  (z_ck h 1 v1).bind fun n2 =>
  (f_St_copy v1 a2 h).bind fun h3 =>
  (z_pI h3 2 a1 5 0).bind fun h4 =>
  (z_pZ h4 2 a1 6 1).bind fun h5 =>
  (z_gI h5 2 a1 1).bind fun v6 =>
  (z_ck h5 8 a0).bind fun n7 =>
  (f_Gr_cut a0 a1 0 v6 h5).bind fun q8 =>
  some q8.2
def f_Gr_isLast_75 (h : zH) : Option (Int × zH) :=
  some (1, h)
def f_Gr_isLast_71 (a3 : Int) (h : zH) : Option (Int × zH) :=
  if a3 = 0 then
    some (0, h)
  else
    f_Gr_isLast_75 h
def f_Gr_isLast_58 (a0 : Nat) (a1 : Int) (a2 : Int) (s0 : Int) (h : zH) : Option (Int × zH) :=
  if a2 = 0 then
    (z_gI h 8 a0 8).bind fun v2 =>
    if v2 = a1 then
      f_Gr_isLast_75 h
    else
      f_Gr_isLast_71 s0 h
  else
    f_Gr_isLast_71 s0 h
def f_Gr_isLast_57 (a0 : Nat) (a1 : Int) (a2 : Int) (h : zH) : Option (Int × zH) :=
  f_Gr_isLast_58 a0 a1 a2 0 h
def f_Gr_isLast_22 (a0 : Nat) (a1 : Int) (s0 : Int) (h : zH) : Option (Int × zH) :=
  if s0 = 0 then
    (z_gR h 8 a0 0).bind fun v5 =>
    (z_gI h 8 a0 6).bind fun v6 =>
    (z_aR h 24 v5 v6).bind fun v7 =>
    (z_gI h 7 v7 2).bind fun v8 =>
    if v8 = 0 then
      f_Gr_isLast_57 a0 a1 s0 h
    else
      (z_gR h 8 a0 3).bind fun v9 =>
      (z_gI h 1 v9 0).bind fun v10 =>
      if v10 = 5 then
        f_Gr_isLast_58 a0 a1 s0 1 h
      else
        f_Gr_isLast_57 a0 a1 s0 h
  else
    f_Gr_isLast_57 a0 a1 s0 h
def f_Gr_isLast (a0 : Nat) (a1 : Int) (h : zH) : Option (Int × zH) :=
  (z_gI h 8 a0 6).bind fun v14 =>
  if v14 = (-1) then
    some (1, h)
  else
    (z_gI h 8 a0 6).bind fun v15 =>
    if v15 = 0 then
      f_Gr_isLast_22 a0 a1 1 h
    else
      f_Gr_isLast_22 a0 a1 0 h
def f_St_push (a0 : Nat) (a1 : Int) (h : zH) : Option (zH) :=
  (z_gR h 1 a0 1).bind fun v1 =>
  (z_gI h 1 a0 0).bind fun v2 =>
  (z_sI h 20 v1 v2 a1).bind fun h3 =>
  (z_gI h3 1 a0 0).bind fun v4 =>
  (z_pI h3 1 a0 0 (zw (v4 + 1))).bind fun h5 =>
  some h5
def f_St_keepText_41 : Nat → Nat → Nat → Int → Int → Int → Int → zH → Option (zH)
  | 0 => fun _ _ _ _ _ _ _ => none
  | n + 1 => fun a0 a2 a3 a5 a6 a7 h =>
  if a6 ≤ a7 then
    some h
  else
    (z_gR h 1 a0 3).bind fun v1 =>
    (z_gR h 2 a2 0).bind fun v2 =>
    (z_aI h 21 v2 (zw (a3 + a7))).bind fun v3 =>
    (z_sI h 21 v1 (zw ((zw (a5 * 24)) + a7)) (v3 % 65536)).bind fun h4 =>
    f_St_keepText_41 n a0 a2 a3 a5 a6 (zw (a7 + 1)) h4
def f_St_keepText_27 (a0 : Nat) (a2 : Nat) (a3 : Int) (a5 : Int) (s0 : Int) (h : zH) : Option (zH) :=
  (z_gR h 1 a0 2).bind fun v6 =>
  (z_sI h 20 v6 a5 s0).bind fun h7 =>
  f_St_keepText_41 100000 a0 a2 a3 a5 s0 0 h7
def f_St_keepText (a0 : Nat) (a1 : Int) (a2 : Nat) (a3 : Int) (a4 : Int) (h : zH) : Option (zH) :=
  (z_gI h 1 a0 0).bind fun v8 =>
  if a3 = (-1) then
    f_St_keepText_27 a0 a2 a3 (zw ((zw ((zw ((zw (v8 - 1)) * 2)) + a1)) - 1)) 0 h
  else
    f_St_keepText_27 a0 a2 a3 (zw ((zw ((zw ((zw (v8 - 1)) * 2)) + a1)) - 1)) (zw (a4 - a3)) h
def f_Gr_takeWinner (a0 : Nat) (a1 : Nat) (h : zH) : Option (zH) :=
  (z_gI h 8 a0 6).bind fun v1 =>
  if v1 = 0 then
    (z_gI h 8 a0 7).bind fun v40 =>
    (z_gI h 8 a0 8).bind fun v41 =>
    (z_ck h 8 a0).bind fun n42 =>
    (f_Gr_cut a0 a1 v40 v41 h).bind fun q43 =>
    (z_gR q43.2 8 a0 3).bind fun v44 =>
    (z_gI q43.2 1 v44 0).bind fun v45 =>
    (z_pI q43.2 1 v44 0 (zw (v45 - 1))).bind fun h46 =>
    some h46
  else
    (z_gR h 8 a0 0).bind fun v2 =>
    (z_gI h 8 a0 6).bind fun v3 =>
    (z_aR h 24 v2 v3).bind fun v4 =>
    (z_gI h 7 v4 2).bind fun v5 =>
    if v5 = 0 then
      (z_gI h 8 a0 7).bind fun v6 =>
      (z_gI h 8 a0 8).bind fun v7 =>
      (z_ck h 8 a0).bind fun n8 =>
      (f_Gr_cut a0 a1 v6 v7 h).bind fun q9 =>
      if q9.1 = 0 then
        some q9.2
      else
        (z_gR q9.2 8 a0 0).bind fun v10 =>
        (z_gI q9.2 8 a0 6).bind fun v11 =>
        (z_aR q9.2 24 v10 v11).bind fun v12 =>
        (z_gI q9.2 7 v12 4).bind fun v13 =>
        (z_ck q9.2 2 a1).bind fun n14 =>
        (f_Li_addScope a1 v13 q9.2).bind fun h15 =>
        some h15
    else
      (z_gR h 8 a0 3).bind fun v17 =>
      (z_gI h 8 a0 6).bind fun v18 =>
      (z_ck h 1 v17).bind fun n19 =>
      (f_St_push v17 v18 h).bind fun h20 =>
      (z_gR h20 8 a0 3).bind fun v21 =>
      (z_gR h20 8 a0 9).bind fun v22 =>
      (z_aI h20 20 v22 0).bind fun v23 =>
      (z_gR h20 8 a0 9).bind fun v24 =>
      (z_aI h20 20 v24 1).bind fun v25 =>
      (z_ck h20 1 v21).bind fun n26 =>
      (f_St_keepText v21 1 a1 v23 v25 h20).bind fun h27 =>
      (z_gR h27 8 a0 3).bind fun v28 =>
      (z_gR h27 8 a0 9).bind fun v29 =>
      (z_aI h27 20 v29 2).bind fun v30 =>
      (z_gR h27 8 a0 9).bind fun v31 =>
      (z_aI h27 20 v31 3).bind fun v32 =>
      (z_ck h27 1 v28).bind fun n33 =>
      (f_St_keepText v28 2 a1 v30 v32 h27).bind fun h34 =>
      (z_gI h34 8 a0 7).bind fun v35 =>
      (z_gI h34 8 a0 8).bind fun v36 =>
      (z_ck h34 8 a0).bind fun n37 =>
      (f_Gr_cut a0 a1 v35 v36 h34).bind fun q38 =>
      some q38.2
def f_Gr_tokenize_111 (a0 : Nat) (a1 : Nat) (h : zH) : Option (zH) :=
  (z_gR h 2 a1 7).bind fun v1 =>
  (z_gR h 8 a0 3).bind fun v2 =>
  (z_ck h 1 v1).bind fun n3 =>
  (f_St_copy v1 v2 h).bind fun h4 =>
  some h4
def f_Gr_tokenize_105 (c26 : Nat → Nat → Nat → Int → Int → Int → zH → Option (zH)) (a0 : Nat) (a1 : Nat) (a2 : Nat) (a3 : Int) (a4 : Int) (a5 : Int) (h : zH) : Option (zH) :=
  c26 a0 a1 a2 a3 a4 (zw (a5 + 1)) h
def f_Gr_tokenize_26 : Nat → Nat → Nat → Nat → Int → Int → Int → zH → Option (zH)
  | 0 => fun _ _ _ _ _ _ _ => none
  | n + 1 => fun a0 a1 a2 a3 a4 a5 h =>
  if 54 ≤ a5 then
    f_Gr_tokenize_111 a0 a1 h
  else
    if a4 = 0 then
      f_Gr_tokenize_111 a0 a1 h
    else
      (z_ck h 8 a0).bind fun n5 =>
      (f_Gr_findWinner a0 a1 a3 h).bind fun q6 =>
      if q6.1 = 0 then
        (z_ck q6.2 8 a0).bind fun n19 =>
        (f_Gr_mark a0 a1 a2 q6.2).bind fun h20 =>
        f_Gr_tokenize_105 (f_Gr_tokenize_26 n) a0 a1 a2 a3 0 a5 h20
      else
        (z_ck q6.2 8 a0).bind fun n7 =>
        (f_Gr_isLast a0 a3 q6.2).bind fun q8 =>
        if q8.1 = 0 then
          (z_gI q8.2 8 a0 7).bind fun v9 =>
          (z_ck q8.2 8 a0).bind fun n10 =>
          (f_Gr_cut a0 a1 a3 v9 q8.2).bind fun q11 =>
          (z_ck q11.2 8 a0).bind fun n12 =>
          (f_Gr_takeWinner a0 a1 q11.2).bind fun h13 =>
          (z_gI h13 8 a0 8).bind fun v14 =>
          f_Gr_tokenize_105 (f_Gr_tokenize_26 n) a0 a1 a2 v14 a4 a5 h13
        else
          (z_gI q8.2 2 a1 1).bind fun v15 =>
          (z_ck q8.2 8 a0).bind fun n16 =>
          (f_Gr_cut a0 a1 a3 v15 q8.2).bind fun q17 =>
          f_Gr_tokenize_105 (f_Gr_tokenize_26 n) a0 a1 a2 a3 0 a5 q17.2
def f_Gr_tokenize (a0 : Nat) (a1 : Nat) (a2 : Nat) (h : zH) : Option (zH) :=
  (z_gR h 8 a0 3).bind fun v24 =>
  (z_ck h 1 v24).bind fun n25 =>
  (f_St_copy v24 a2 h).bind fun h26 =>
  (z_pI h26 2 a1 5 0).bind fun h27 =>
  (z_pZ h27 2 a1 6 0).bind fun h28 =>
  f_Gr_tokenize_26 100000 a0 a1 a2 0 1 0 h28
def f_St_isSameText_71 (c24 : Nat → Nat → Int → Int → Int → zH → Option (Int × zH)) (a0 : Nat) (a1 : Nat) (a2 : Int) (a4 : Int) (s0 : Int) (h : zH) : Option (Int × zH) :=
  c24 a0 a1 a2 s0 (zw (a4 + 1)) h
def f_St_isSameText_24 : Nat → Nat → Nat → Int → Int → Int → zH → Option (Int × zH)
  | 0 => fun _ _ _ _ _ _ => none
  | n + 1 => fun a0 a1 a2 a3 a4 h =>
  (z_gR h 1 a0 2).bind fun v1 =>
  (z_aI h 20 v1 a2).bind fun v2 =>
  if v2 ≤ a4 then
    (z_bo a3).bind fun b => some (b, h)
  else
    if a3 = 0 then
      (z_bo a3).bind fun b => some (b, h)
    else
      (z_gR h 1 a0 3).bind fun v3 =>
      (z_aI h 21 v3 (zw ((zw (a2 * 24)) + a4))).bind fun v4 =>
      (z_gR h 1 a1 3).bind fun v5 =>
      (z_aI h 21 v5 (zw ((zw (a2 * 24)) + a4))).bind fun v6 =>
      if v4 = v6 then
        f_St_isSameText_71 (f_St_isSameText_24 n) a0 a1 a2 a4 1 h
      else
        f_St_isSameText_71 (f_St_isSameText_24 n) a0 a1 a2 a4 0 h
def f_St_isSameText_20 (a0 : Nat) (a1 : Nat) (a2 : Int) (s0 : Int) (h : zH) : Option (Int × zH) :=
  f_St_isSameText_24 100000 a0 a1 a2 s0 0 h
def f_St_isSameText (a0 : Nat) (a1 : Nat) (a2 : Int) (h : zH) : Option (Int × zH) :=
  (z_gR h 1 a0 2).bind fun v10 =>
  (z_aI h 20 v10 a2).bind fun v11 =>
  (z_gR h 1 a1 2).bind fun v12 =>
  (z_aI h 20 v12 a2).bind fun v13 =>
  if v11 = v13 then
    f_St_isSameText_20 a0 a1 a2 1 h
  else
    f_St_isSameText_20 a0 a1 a2 0 h
def f_St_isSame_75 (c19 : Nat → Nat → Int → Int → zH → Option (Int × zH)) (a0 : Nat) (a1 : Nat) (a3 : Int) (s0 : Int) (h : zH) : Option (Int × zH) :=
  c19 a0 a1 s0 (zw (a3 + 1)) h
def f_St_isSame_74 (c19 : Nat → Nat → Int → Int → zH → Option (Int × zH)) (a0 : Nat) (a1 : Nat) (a3 : Int) (h : zH) : Option (Int × zH) :=
  f_St_isSame_75 c19 a0 a1 a3 0 h
def f_St_isSame_19 : Nat → Nat → Nat → Int → Int → zH → Option (Int × zH)
  | 0 => fun _ _ _ _ _ => none
  | n + 1 => fun a0 a1 a2 a3 h =>
  (z_gI h 1 a0 0).bind fun v1 =>
  if v1 ≤ a3 then
    (z_bo a2).bind fun b => some (b, h)
  else
    if a2 = 0 then
      (z_bo a2).bind fun b => some (b, h)
    else
      (z_gR h 1 a0 1).bind fun v2 =>
      (z_aI h 20 v2 a3).bind fun v3 =>
      (z_gR h 1 a1 1).bind fun v4 =>
      (z_aI h 20 v4 a3).bind fun v5 =>
      if v3 = v5 then
        (z_ck h 1 a0).bind fun n6 =>
        (f_St_isSameText a0 a1 (zw (a3 * 2)) h).bind fun q7 =>
        if q7.1 = 0 then
          f_St_isSame_74 (f_St_isSame_19 n) a0 a1 a3 q7.2
        else
          (z_ck q7.2 1 a0).bind fun n8 =>
          (f_St_isSameText a0 a1 (zw ((zw (a3 * 2)) + 1)) q7.2).bind fun q9 =>
          if q9.1 = 0 then
            f_St_isSame_74 (f_St_isSame_19 n) a0 a1 a3 q9.2
          else
            f_St_isSame_75 (f_St_isSame_19 n) a0 a1 a3 1 q9.2
      else
        f_St_isSame_74 (f_St_isSame_19 n) a0 a1 a3 h
def f_St_isSame_16 (a0 : Nat) (a1 : Nat) (s0 : Int) (h : zH) : Option (Int × zH) :=
  f_St_isSame_19 100000 a0 a1 s0 0 h
def f_St_isSame (a0 : Nat) (a1 : Nat) (h : zH) : Option (Int × zH) :=
  (z_gI h 1 a0 0).bind fun v15 =>
  (z_gI h 1 a1 0).bind fun v16 =>
  if v15 = v16 then
    f_St_isSame_16 a0 a1 1 h
  else
    f_St_isSame_16 a0 a1 0 h
def f_SL_tokenizeFrom_111 (a0 : Nat) (a3 : Int) (h : zH) : Option (Int × zH) :=
  (z_gI h 0 a0 6).bind fun v1 =>
  (z_pI h 0 a0 6 (zw (v1 + a3))).bind fun h2 =>
  some (a3, h2)
def f_SL_tokenizeFrom_103 (c8 : Nat → Int → Int → Int → Int → zH → Option (Int × zH)) (a0 : Nat) (a2 : Int) (a3 : Int) (a5 : Int) (s0 : Int) (h : zH) : Option (Int × zH) :=
  c8 a0 a2 a3 s0 (zw (a5 + 1)) h
def f_SL_tokenizeFrom_102 (c8 : Nat → Int → Int → Int → Int → zH → Option (Int × zH)) (a0 : Nat) (a2 : Int) (a3 : Int) (a5 : Int) (h : zH) : Option (Int × zH) :=
  f_SL_tokenizeFrom_103 c8 a0 a2 a3 a5 0 h
def f_SL_tokenizeFrom_73 (c8 : Nat → Int → Int → Int → Int → zH → Option (Int × zH)) (a0 : Nat) (a2 : Int) (a3 : Int) (a5 : Int) (a6 : Nat) (s0 : Nat) (s1 : Nat) (s2 : Nat) (h : zH) : Option (Int × zH) :=
  (z_ck h 8 s0).bind fun n3 =>
  (f_Gr_tokenize s0 s1 s2 h).bind fun h4 =>
  if a2 = 0 then
    (z_gR h4 2 a6 7).bind fun v5 =>
    (z_gR h4 0 a0 9).bind fun v6 =>
    (z_ck h4 1 v5).bind fun n7 =>
    (f_St_isSame v5 v6 h4).bind fun q8 =>
    if q8.1 = 0 then
      f_SL_tokenizeFrom_102 c8 a0 a2 (zw (a3 + 1)) a5 q8.2
    else
      f_SL_tokenizeFrom_103 c8 a0 a2 (zw (a3 + 1)) a5 1 q8.2
  else
    f_SL_tokenizeFrom_102 c8 a0 a2 (zw (a3 + 1)) a5 h4
def f_SL_tokenizeFrom_8 : Nat → Nat → Int → Int → Int → Int → zH → Option (Int × zH)
  | 0 => fun _ _ _ _ _ _ => none
  | n + 1 => fun a0 a2 a3 a4 a5 h =>
  (z_gI h 0 a0 5).bind fun v11 =>
  if v11 ≤ a5 then
    f_SL_tokenizeFrom_111 a0 a3 h
  else
    if a4 = 0 then
      (z_gR h 0 a0 4).bind fun v12 =>
      (z_aR h 25 v12 a5).bind fun v13 =>
      (z_gR h 0 a0 9).bind fun v14 =>
      (z_gR h 2 v13 7).bind fun v15 =>
      (z_ck h 1 v14).bind fun n16 =>
      (f_St_copy v14 v15 h).bind fun h17 =>
      (z_gR h17 0 a0 3).bind fun v18 =>
      if a5 = 0 then
        (z_gR h17 0 a0 8).bind fun v22 =>
        f_SL_tokenizeFrom_73 (f_SL_tokenizeFrom_8 n) a0 a2 a3 a5 v13 v18 v13 v22 h17
      else
        (z_gR h17 0 a0 4).bind fun v19 =>
        (z_aR h17 25 v19 (zw (a5 - 1))).bind fun v20 =>
        (z_gR h17 2 v20 7).bind fun v21 =>
        f_SL_tokenizeFrom_73 (f_SL_tokenizeFrom_8 n) a0 a2 a3 a5 v13 v18 v13 v21 h17
    else
      f_SL_tokenizeFrom_111 a0 a3 h
def f_SL_tokenizeFrom (a0 : Nat) (a1 : Int) (a2 : Int) (h : zH) : Option (Int × zH) :=
  f_SL_tokenizeFrom_8 100000 a0 a2 0 0 a1 h
def f_SL_piece (a0 : Nat) (a1 : Int) (a2 : Int) (h : zH) : Option (Int × zH) :=
  (z_gR h 0 a0 3).bind fun v1 =>
  (z_ck h 8 v1).bind fun n2 =>
  (f_Gr_isRange v1 a1 h).bind fun q3 =>
  if q3.1 = 0 then
    some ((-1), q3.2)
  else
    (f_SL_isScope a2 q3.2).bind fun q4 =>
    if q4.1 = 0 then
      some ((-1), q4.2)
    else
      (z_gR q4.2 0 a0 2).bind fun v5 =>
      (z_gR q4.2 0 a0 0).bind fun v6 =>
      (z_gI q4.2 0 a0 1).bind fun v7 =>
      (z_gR q4.2 0 a0 3).bind fun v8 =>
      (z_ck q4.2 8 v8).bind fun n9 =>
      (f_Gr_nextRule v8 q4.2).bind fun q10 =>
      (z_gR q10.2 7 q10.1 0).bind fun v11 =>
      (z_ck q10.2 5 v5).bind fun n12 =>
      (f_Pr_parse v5 v6 0 v7 0 v11 q10.2).bind fun q13 =>
      if q13.1 = 0 then
        some ((-2), q13.2)
      else
        (z_gR q13.2 0 a0 3).bind fun v14 =>
        (z_gI q13.2 8 v14 1).bind fun v15 =>
        if v15 = 9 then
          some ((-3), q13.2)
        else
          (z_ck q13.2 0 a0).bind fun n16 =>
          (f_SL_addRule a0 a1 a2 0 q13.2).bind fun q17 =>
          (z_ck q17.2 0 a0).bind fun n18 =>
          (f_SL_tokenizeFrom a0 0 1 q17.2).bind fun q19 =>
          some (q17.1, q19.2)
def f_SL_firstBlank_2 : Nat → Nat → Int → zH → Option (Int × zH)
  | 0 => fun _ _ _ => none
  | n + 1 => fun a0 a1 h =>
  (z_gI h 0 a0 1).bind fun v1 =>
  if v1 ≤ a1 then
    (z_gI h 0 a0 1).bind fun v2 =>
    some (v2, h)
  else
    (z_gR h 0 a0 0).bind fun v3 =>
    (z_aI h 21 v3 a1).bind fun v4 =>
    if v4 = 32 then
      some (a1, h)
    else
      f_SL_firstBlank_2 n a0 (zw (a1 + 1)) h
def f_SL_firstBlank (a0 : Nat) (h : zH) : Option (Int × zH) :=
  f_SL_firstBlank_2 100000 a0 0 h
def f_SL_range (a0 : Nat) (a1 : Int) (a2 : Int) (h : zH) : Option (Int × zH) :=
  (z_gR h 0 a0 3).bind fun v1 =>
  (z_ck h 8 v1).bind fun n2 =>
  (f_Gr_isRange v1 a1 h).bind fun q3 =>
  if q3.1 = 0 then
    some ((-1), q3.2)
  else
    (f_SL_isScope a2 q3.2).bind fun q4 =>
    if q4.1 = 0 then
      some ((-1), q4.2)
    else
      (z_gR q4.2 0 a0 3).bind fun v5 =>
      (z_ck q4.2 8 v5).bind fun n6 =>
      (f_Gr_nextRule v5 q4.2).bind fun q7 =>
      (z_ck q7.2 0 a0).bind fun n8 =>
      (f_SL_firstBlank a0 q7.2).bind fun q9 =>
      (z_gR q9.2 0 a0 2).bind fun v10 =>
      (z_gR q9.2 0 a0 0).bind fun v11 =>
      (z_gR q9.2 7 q7.1 0).bind fun v12 =>
      (z_ck q9.2 5 v10).bind fun n13 =>
      (f_Pr_parse v10 v11 0 q9.1 0 v12 q9.2).bind fun q14 =>
      if q14.1 = 0 then
        some ((-2), q14.2)
      else
        (z_gR q14.2 0 a0 2).bind fun v15 =>
        (z_gR q14.2 0 a0 0).bind fun v16 =>
        (z_gI q14.2 0 a0 1).bind fun v17 =>
        (z_gR q14.2 7 q7.1 1).bind fun v18 =>
        (z_ck q14.2 5 v15).bind fun n19 =>
        (f_Pr_parse v15 v16 (zw (q9.1 + 1)) v17 1 v18 q14.2).bind fun q20 =>
        if q20.1 = 0 then
          some ((-2), q20.2)
        else
          (z_gR q20.2 0 a0 3).bind fun v21 =>
          (z_gI q20.2 8 v21 1).bind fun v22 =>
          if v22 = 9 then
            some ((-3), q20.2)
          else
            (z_ck q20.2 0 a0).bind fun n23 =>
            (f_SL_addRule a0 a1 a2 1 q20.2).bind fun q24 =>
            (z_ck q24.2 0 a0).bind fun n25 =>
            (f_SL_tokenizeFrom a0 0 1 q24.2).bind fun q26 =>
            some (q24.1, q26.2)
def f_SL_include (a0 : Nat) (a1 : Int) (a2 : Int) (h : zH) : Option (Int × zH) :=
  (z_gR h 0 a0 3).bind fun v1 =>
  (z_ck h 8 v1).bind fun n2 =>
  (f_Gr_isRange v1 a1 h).bind fun q3 =>
  if q3.1 = 0 then
    some (0, q3.2)
  else
    (z_gR q3.2 0 a0 3).bind fun v4 =>
    (z_ck q3.2 8 v4).bind fun n5 =>
    (f_Gr_isRange v4 a2 q3.2).bind fun q6 =>
    if q6.1 = 0 then
      some (0, q6.2)
    else
      (z_gR q6.2 0 a0 3).bind fun v7 =>
      (z_gR q6.2 8 v7 0).bind fun v8 =>
      (z_aR q6.2 24 v8 a1).bind fun v9 =>
      (z_gI q6.2 7 v9 5).bind fun v10 =>
      if v10 = a2 then
        some (0, q6.2)
      else
        (z_gR q6.2 0 a0 3).bind fun v11 =>
        (z_gR q6.2 8 v11 0).bind fun v12 =>
        (z_aR q6.2 24 v12 a1).bind fun v13 =>
        (z_pI q6.2 7 v13 5 a2).bind fun h14 =>
        (z_ck h14 0 a0).bind fun n15 =>
        (f_SL_tokenizeFrom a0 0 1 h14).bind fun q16 =>
        some (1, q16.2)
def f_Pa_add (a0 : Nat) (a1 : Int) (a2 : Int) (a3 : Int) (h : zH) : Option (zH) :=
  (z_gR h 3 a0 0).bind fun v1 =>
  (z_gI h 3 a0 3).bind fun v2 =>
  (z_sI h 20 v1 v2 a1).bind fun h3 =>
  (z_gR h3 3 a0 1).bind fun v4 =>
  (z_gI h3 3 a0 3).bind fun v5 =>
  (z_sI h3 20 v4 v5 a2).bind fun h6 =>
  (z_gR h6 3 a0 2).bind fun v7 =>
  (z_gI h6 3 a0 3).bind fun v8 =>
  (z_sI h6 20 v7 v8 a3).bind fun h9 =>
  (z_gI h9 3 a0 3).bind fun v10 =>
  (z_pI h9 3 a0 3 (zw (v10 + 1))).bind fun h11 =>
  some h11
def f_SL_theme (a0 : Nat) (a1 : Int) (a2 : Int) (a3 : Int) (h : zH) : Option (Int × zH) :=
  (f_SL_isScope a1 h).bind fun q1 =>
  if q1.1 = 0 then
    some (0, q1.2)
  else
    if a2 < 0 then
      some (0, q1.2)
    else
      if a2 ≤ 99 then
        if a3 < 1 then
          some (0, q1.2)
        else
          if 255 < a3 then
            some (0, q1.2)
          else
            (z_gR q1.2 0 a0 7).bind fun v2 =>
            (z_gI q1.2 3 v2 3).bind fun v3 =>
            if v3 = 6 then
              some (0, q1.2)
            else
              (z_gR q1.2 0 a0 7).bind fun v4 =>
              (z_ck q1.2 3 v4).bind fun n5 =>
              (f_Pa_add v4 a1 a2 a3 q1.2).bind fun h6 =>
              some (1, h6)
      else
        some (0, q1.2)
def f_Li_write (a0 : Nat) (a1 : Nat) (a2 : Int) (h : zH) : Option (zH) :=
  (z_gR h 2 a0 0).bind fun v1 =>
  (z_cp h 21 a1 0 v1 0 a2).bind fun h2 =>
  (z_pI h2 2 a0 1 a2).bind fun h3 =>
  some h3
def f_SL_put (a0 : Nat) (a1 : Int) (h : zH) : Option (Int × zH) :=
  if a1 < 0 then
    some ((-1), h)
  else
    (z_gI h 0 a0 5).bind fun v1 =>
    if a1 ≤ v1 then
      (z_gI h 0 a0 1).bind fun v2 =>
      if v2 ≤ 24 then
        if a1 = 6 then
          some ((-3), h)
        else
          (z_gR h 0 a0 4).bind fun v3 =>
          (z_aR h 25 v3 a1).bind fun v4 =>
          (z_gR h 0 a0 0).bind fun v5 =>
          (z_gI h 0 a0 1).bind fun v6 =>
          (z_ck h 2 v4).bind fun n7 =>
          (f_Li_write v4 v5 v6 h).bind fun h8 =>
          (z_pI h8 0 a0 1 0).bind fun h9 =>
          (z_gI h9 0 a0 5).bind fun v10 =>
          (z_pI h9 0 a0 5 (z_max v10 (zw (a1 + 1)))).bind fun h11 =>
          (z_ck h11 0 a0).bind fun n12 =>
          (f_SL_tokenizeFrom a0 a1 0 h11).bind fun q13 =>
          some (q13.1, q13.2)
      else
        some ((-2), h)
    else
      some ((-1), h)
def f_SL_isLine (a0 : Nat) (a1 : Int) (h : zH) : Option (Int × zH) :=
  if a1 < 0 then
    some (0, h)
  else
    (z_gI h 0 a0 5).bind fun v1 =>
    if v1 ≤ a1 then
      some (0, h)
    else
      some (1, h)
def f_SL_drop_21 : Nat → Nat → Int → Nat → Int → zH → Option (Int × zH)
  | 0 => fun _ _ _ _ _ => none
  | n + 1 => fun a0 a1 a2 a3 h =>
  (z_gI h 0 a0 5).bind fun v1 =>
  if v1 ≤ a3 then
    (z_gI h 0 a0 5).bind fun v2 =>
    (z_pI h 0 a0 5 (zw (v2 - 1))).bind fun h3 =>
    (z_gR h3 0 a0 4).bind fun v4 =>
    (z_gI h3 0 a0 5).bind fun v5 =>
    (z_sR h3 25 2 v4 v5 a2).bind fun h6 =>
    (z_ck h6 0 a0).bind fun n7 =>
    (f_SL_tokenizeFrom a0 a1 0 h6).bind fun q8 =>
    some (q8.1, q8.2)
  else
    (z_gR h 0 a0 4).bind fun v9 =>
    (z_gR h 0 a0 4).bind fun v10 =>
    (z_aR h 25 v10 a3).bind fun v11 =>
    (z_sR h 25 2 v9 (zw (a3 - 1)) v11).bind fun h12 =>
    f_SL_drop_21 n a0 a1 a2 (zw (a3 + 1)) h12
def f_SL_drop (a0 : Nat) (a1 : Int) (h : zH) : Option (Int × zH) :=
  (z_ck h 0 a0).bind fun n14 =>
  (f_SL_isLine a0 a1 h).bind fun q15 =>
  if q15.1 = 0 then
    some ((-1), q15.2)
  else
    (z_gR q15.2 0 a0 4).bind fun v16 =>
    (z_aR q15.2 25 v16 a1).bind fun v17 =>
    f_SL_drop_21 100000 a0 a1 v17 (zw (a1 + 1)) q15.2
def f_SL_lines (a0 : Nat) (h : zH) : Option (Int × zH) :=
  (z_gI h 0 a0 5).bind fun v1 =>
  some (v1, h)
def f_SL_passes (a0 : Nat) (h : zH) : Option (Int × zH) :=
  (z_gI h 0 a0 6).bind fun v1 =>
  some (v1, h)
def f_SL_length (a0 : Nat) (a1 : Int) (h : zH) : Option (Int × zH) :=
  (z_ck h 0 a0).bind fun n1 =>
  (f_SL_isLine a0 a1 h).bind fun q2 =>
  if q2.1 = 0 then
    some ((-1), q2.2)
  else
    (z_gR q2.2 0 a0 4).bind fun v3 =>
    (z_aR q2.2 25 v3 a1).bind fun v4 =>
    (z_gI q2.2 2 v4 1).bind fun v5 =>
    some (v5, q2.2)
def f_SL_tokens (a0 : Nat) (a1 : Int) (h : zH) : Option (Int × zH) :=
  (z_ck h 0 a0).bind fun n1 =>
  (f_SL_isLine a0 a1 h).bind fun q2 =>
  if q2.1 = 0 then
    some ((-1), q2.2)
  else
    (z_gR q2.2 0 a0 4).bind fun v3 =>
    (z_aR q2.2 25 v3 a1).bind fun v4 =>
    (z_gI q2.2 2 v4 5).bind fun v5 =>
    some (v5, q2.2)
def f_Li_scopeOf (a0 : Nat) (a1 : Int) (a2 : Int) (h : zH) : Option (Int × zH) :=
  (z_gR h 2 a0 4).bind fun v1 =>
  (z_aI h 20 v1 (zw ((zw (a1 * 6)) + a2))).bind fun v2 =>
  some (v2, h)
def f_Li_lastScope (a0 : Nat) (a1 : Int) (h : zH) : Option (Int × zH) :=
  (z_gR h 2 a0 3).bind fun v1 =>
  (z_aI h 20 v1 a1).bind fun v2 =>
  if v2 = 0 then
    some (0, h)
  else
    (z_gR h 2 a0 3).bind fun v3 =>
    (z_aI h 20 v3 a1).bind fun v4 =>
    (z_ck h 2 a0).bind fun n5 =>
    (f_Li_scopeOf a0 a1 (zw (v4 - 1)) h).bind fun q6 =>
    some (q6.1, q6.2)
def f_Pa_isUnder_41 (c14 : Nat → Int → Int → Int → Int → Int → zH → Option (Int × zH)) (a0 : Nat) (a1 : Int) (a2 : Int) (a3 : Int) (a5 : Int) (s0 : Int) (h : zH) : Option (Int × zH) :=
  c14 a0 a1 a2 a3 s0 (zw (a5 + 1)) h
def f_Pa_isUnder_14 : Nat → Nat → Int → Int → Int → Int → Int → zH → Option (Int × zH)
  | 0 => fun _ _ _ _ _ _ _ => none
  | n + 1 => fun a0 a1 a2 a3 a4 a5 h =>
  if a2 ≤ a5 then
    (z_bo a4).bind fun b => some (b, h)
  else
    if a4 = 0 then
      (z_ck h 2 a0).bind fun n1 =>
      (f_Li_scopeOf a0 a1 a5 h).bind fun q2 =>
      if q2.1 = a3 then
        f_Pa_isUnder_41 (f_Pa_isUnder_14 n) a0 a1 a2 a3 a5 1 q2.2
      else
        f_Pa_isUnder_41 (f_Pa_isUnder_14 n) a0 a1 a2 a3 a5 0 q2.2
    else
      (z_bo a4).bind fun b => some (b, h)
def f_Pa_isUnder_9 (a0 : Nat) (a1 : Int) (a2 : Int) (a3 : Int) (s0 : Int) (h : zH) : Option (Int × zH) :=
  f_Pa_isUnder_14 100000 a0 a1 a2 a3 s0 0 h
def f_Pa_isUnder (a0 : Nat) (a1 : Int) (a2 : Int) (a3 : Int) (h : zH) : Option (Int × zH) :=
  if a3 = 0 then
    f_Pa_isUnder_9 a0 a1 a2 a3 1 h
  else
    f_Pa_isUnder_9 a0 a1 a2 a3 0 h
def f_Pa_entryFor_94 (c6 : Nat → Nat → Int → Int → Int → Int → zH → Option (Int × zH)) (a0 : Nat) (a1 : Nat) (a2 : Int) (a3 : Int) (a4 : Int) (a5 : Int) (h : zH) : Option (Int × zH) :=
  c6 a0 a1 a2 a3 a4 (zw (a5 + 1)) h
def f_Pa_entryFor_92 (c6 : Nat → Nat → Int → Int → Int → Int → zH → Option (Int × zH)) (a0 : Nat) (a1 : Nat) (a2 : Int) (a3 : Int) (a5 : Int) (s0 : Int) (h : zH) : Option (Int × zH) :=
  f_Pa_entryFor_94 c6 a0 a1 a2 a3 s0 a5 h
def f_Pa_entryFor_78 (c6 : Nat → Nat → Int → Int → Int → Int → zH → Option (Int × zH)) (a0 : Nat) (a1 : Nat) (a2 : Int) (a3 : Int) (a4 : Int) (a5 : Int) (s0 : Int) (h : zH) : Option (Int × zH) :=
  if s0 = 0 then
    f_Pa_entryFor_92 c6 a0 a1 a2 a3 a5 a5 h
  else
    f_Pa_entryFor_92 c6 a0 a1 a2 a3 a5 a4 h
def f_Pa_entryFor_77 (c6 : Nat → Nat → Int → Int → Int → Int → zH → Option (Int × zH)) (a0 : Nat) (a1 : Nat) (a2 : Int) (a3 : Int) (a4 : Int) (a5 : Int) (h : zH) : Option (Int × zH) :=
  f_Pa_entryFor_78 c6 a0 a1 a2 a3 a4 a5 0 h
def f_Pa_entryFor_6 : Nat → Nat → Nat → Int → Int → Int → Int → zH → Option (Int × zH)
  | 0 => fun _ _ _ _ _ _ _ => none
  | n + 1 => fun a0 a1 a2 a3 a4 a5 h =>
  (z_gI h 3 a0 3).bind fun v2 =>
  if v2 ≤ a5 then
    some (a4, h)
  else
    (z_gR h 3 a0 0).bind fun v3 =>
    (z_aI h 20 v3 a5).bind fun v4 =>
    (z_ck h 2 a1).bind fun n5 =>
    (f_Li_scopeOf a1 a2 a3 h).bind fun q6 =>
    if v4 = q6.1 then
      (z_gR q6.2 3 a0 1).bind fun v7 =>
      (z_aI q6.2 20 v7 a5).bind fun v8 =>
      (f_Pa_isUnder a1 a2 a3 v8 q6.2).bind fun q9 =>
      if q9.1 = 0 then
        f_Pa_entryFor_94 (f_Pa_entryFor_6 n) a0 a1 a2 a3 a4 a5 q9.2
      else
        if a4 = (-1) then
          f_Pa_entryFor_77 (f_Pa_entryFor_6 n) a0 a1 a2 a3 a4 a5 q9.2
        else
          (z_gR q9.2 3 a0 1).bind fun v10 =>
          (z_aI q9.2 20 v10 a4).bind fun v11 =>
          if v11 = 0 then
            f_Pa_entryFor_77 (f_Pa_entryFor_6 n) a0 a1 a2 a3 a4 a5 q9.2
          else
            (z_gR q9.2 3 a0 1).bind fun v12 =>
            (z_aI q9.2 20 v12 a5).bind fun v13 =>
            if v13 = 0 then
              f_Pa_entryFor_78 (f_Pa_entryFor_6 n) a0 a1 a2 a3 a4 a5 1 q9.2
            else
              f_Pa_entryFor_77 (f_Pa_entryFor_6 n) a0 a1 a2 a3 a4 a5 q9.2
    else
      f_Pa_entryFor_94 (f_Pa_entryFor_6 n) a0 a1 a2 a3 a4 a5 q6.2
def f_Pa_entryFor (a0 : Nat) (a1 : Nat) (a2 : Int) (a3 : Int) (h : zH) : Option (Int × zH) :=
  f_Pa_entryFor_6 100000 a0 a1 a2 a3 (-1) 0 h
def f_Pa_colourOf_9 : Nat → Nat → Nat → Int → Int → zH → Option (Int × zH)
  | 0 => fun _ _ _ _ _ => none
  | n + 1 => fun a0 a1 a2 a3 h =>
  if a3 < 0 then
    some (0, h)
  else
    (z_ck h 3 a0).bind fun n1 =>
    (f_Pa_entryFor a0 a1 a2 a3 h).bind fun q2 =>
    if q2.1 = (-1) then
      f_Pa_colourOf_9 n a0 a1 a2 (zw (a3 + (-1))) q2.2
    else
      (z_gR q2.2 3 a0 2).bind fun v3 =>
      (z_aI q2.2 20 v3 q2.1).bind fun v4 =>
      some (v4, q2.2)
def f_Pa_colourOf (a0 : Nat) (a1 : Nat) (a2 : Int) (h : zH) : Option (Int × zH) :=
  (z_gR h 2 a1 3).bind fun v7 =>
  (z_aI h 20 v7 a2).bind fun v8 =>
  f_Pa_colourOf_9 100000 a0 a1 a2 (zw (v8 - 1)) h
def f_SL_token (a0 : Nat) (a1 : Int) (a2 : Int) (a3 : Int) (h : zH) : Option (Int × zH) :=
  (z_ck h 0 a0).bind fun n1 =>
  (f_SL_isLine a0 a1 h).bind fun q2 =>
  if q2.1 = 0 then
    some ((-1), q2.2)
  else
    if a2 < 0 then
      some ((-1), q2.2)
    else
      (z_gR q2.2 0 a0 4).bind fun v3 =>
      (z_aR q2.2 25 v3 a1).bind fun v4 =>
      (z_gI q2.2 2 v4 5).bind fun v5 =>
      if a2 < v5 then
        (z_gR q2.2 0 a0 4).bind fun v6 =>
        (z_aR q2.2 25 v6 a1).bind fun v7 =>
        if a3 = 0 then
          (z_gR q2.2 2 v7 2).bind fun v8 =>
          (z_aI q2.2 20 v8 a2).bind fun v9 =>
          some (v9, q2.2)
        else
        if a3 = 1 then
          (z_gR q2.2 2 v7 3).bind fun v11 =>
          (z_aI q2.2 20 v11 a2).bind fun v12 =>
          some (v12, q2.2)
        else
        if a3 = 2 then
          (z_ck q2.2 2 v7).bind fun n14 =>
          (f_Li_lastScope v7 a2 q2.2).bind fun q15 =>
          some (q15.1, q15.2)
        else
        if a3 = 3 then
          (z_gR q2.2 0 a0 7).bind fun v17 =>
          (z_ck q2.2 3 v17).bind fun n18 =>
          (f_Pa_colourOf v17 v7 a2 q2.2).bind fun q19 =>
          some (q19.1, q19.2)
        else
          some ((-1), q2.2)
      else
        some ((-1), q2.2)
def f_SL_marked (a0 : Nat) (a1 : Int) (h : zH) : Option (Int × zH) :=
  (z_ck h 0 a0).bind fun n1 =>
  (f_SL_isLine a0 a1 h).bind fun q2 =>
  if q2.1 = 0 then
    some (0, q2.2)
  else
    (z_gR q2.2 0 a0 4).bind fun v3 =>
    (z_aR q2.2 25 v3 a1).bind fun v4 =>
    (z_gI q2.2 2 v4 6).bind fun v5 =>
    if v5 = 0 then
      some (0, q2.2)
    else
      some (1, q2.2)
def f_St_isOpen (a0 : Nat) (a1 : Int) (h : zH) : Option (Int × zH) :=
  if a1 < 0 then
    some (0, h)
  else
    (z_gI h 1 a0 0).bind fun v1 =>
    if v1 ≤ a1 then
      some (0, h)
    else
      some (1, h)
def f_SL_state (a0 : Nat) (a1 : Int) (a2 : Int) (h : zH) : Option (Int × zH) :=
  (z_ck h 0 a0).bind fun n1 =>
  (f_SL_isLine a0 a1 h).bind fun q2 =>
  if q2.1 = 0 then
    some ((-1), q2.2)
  else
    (z_gR q2.2 0 a0 4).bind fun v3 =>
    (z_aR q2.2 25 v3 a1).bind fun v4 =>
    (z_gR q2.2 2 v4 7).bind fun v5 =>
    if a2 = (-1) then
      (z_gI q2.2 1 v5 0).bind fun v11 =>
      some (v11, q2.2)
    else
      (z_ck q2.2 1 v5).bind fun n6 =>
      (f_St_isOpen v5 a2 q2.2).bind fun q7 =>
      if q7.1 = 0 then
        some ((-1), q7.2)
      else
        (z_gR q7.2 1 v5 1).bind fun v8 =>
        (z_aI q7.2 20 v8 a2).bind fun v9 =>
        some (v9, q7.2)
def f_SL_text (a0 : Nat) (a1 : Int) (a2 : Int) (a3 : Int) (h : zH) : Option (Int × zH) :=
  (z_ck h 0 a0).bind fun n1 =>
  (f_SL_isLine a0 a1 h).bind fun q2 =>
  if q2.1 = 0 then
    some ((-1), q2.2)
  else
    if a3 < 1 then
      some ((-1), q2.2)
    else
      if 2 < a3 then
        some ((-1), q2.2)
      else
        (z_gR q2.2 0 a0 4).bind fun v3 =>
        (z_aR q2.2 25 v3 a1).bind fun v4 =>
        (z_gR q2.2 2 v4 7).bind fun v5 =>
        (z_ck q2.2 1 v5).bind fun n6 =>
        (f_St_isOpen v5 a2 q2.2).bind fun q7 =>
        if q7.1 = 0 then
          some ((-1), q7.2)
        else
          (z_gR q7.2 0 a0 4).bind fun v8 =>
          (z_aR q7.2 25 v8 a1).bind fun v9 =>
          (z_gR q7.2 2 v9 7).bind fun v10 =>
          (z_ck q7.2 1 v10).bind fun n11 =>
          (f_St_textLength v10 a2 a3 q7.2).bind fun q12 =>
          some (q12.1, q12.2)
def f_SL_find (a0 : Nat) (a1 : Int) (a2 : Int) (a3 : Int) (a4 : Int) (h : zH) : Option (Int × zH) :=
  if a1 < 1 then
    some ((-1), h)
  else
    (z_gR h 0 a0 3).bind fun v1 =>
    (z_gI h 8 v1 1).bind fun v2 =>
    if v2 < a1 then
      some ((-1), h)
    else
      (z_ck h 0 a0).bind fun n3 =>
      (f_SL_isLine a0 a2 h).bind fun q4 =>
      if q4.1 = 0 then
        some ((-1), q4.2)
      else
        if a3 < 0 then
          some ((-1), q4.2)
        else
          (z_gR q4.2 0 a0 4).bind fun v5 =>
          (z_aR q4.2 25 v5 a2).bind fun v6 =>
          (z_gI q4.2 2 v6 1).bind fun v7 =>
          if v7 < a3 then
            some ((-1), q4.2)
          else
            if a4 < 0 then
              some ((-1), q4.2)
            else
              if a4 ≤ 8 then
                (z_gR q4.2 0 a0 3).bind fun v8 =>
                (z_gR q4.2 8 v8 2).bind fun v9 =>
                (z_gR q4.2 0 a0 3).bind fun v10 =>
                (z_gR q4.2 8 v10 0).bind fun v11 =>
                (z_aR q4.2 24 v11 a1).bind fun v12 =>
                (z_gR q4.2 7 v12 0).bind fun v13 =>
                (z_gR q4.2 0 a0 4).bind fun v14 =>
                (z_aR q4.2 25 v14 a2).bind fun v15 =>
                (z_gR q4.2 0 a0 8).bind fun v16 =>
                (z_ck q4.2 6 v9).bind fun n17 =>
                (f_Se_run v9 v13 v15 a3 v16 q4.2).bind fun h18 =>
                if a4 = 2 then
                  (z_gI h18 6 v9 4).bind fun v29 =>
                  some (v29, h18)
                else
                  (z_gI h18 6 v9 5).bind fun v19 =>
                  if v19 = 0 then
                    if 2 ≤ a4 then
                      (z_gI h18 6 v9 2).bind fun v20 =>
                      if v20 = (-1) then
                        some ((-1), h18)
                      else
                        (z_gR h18 6 v9 1).bind fun v21 =>
                        (z_aI h18 20 v21 (zw (a4 - 3))).bind fun v22 =>
                        some (v22, h18)
                    else
                      if a4 = 0 then
                        (z_gI h18 6 v9 2).bind fun v25 =>
                        some (v25, h18)
                      else
                        (z_gI h18 6 v9 3).bind fun v24 =>
                        some (v24, h18)
                  else
                    some ((-4), h18)
              else
                some ((-1), q4.2)
