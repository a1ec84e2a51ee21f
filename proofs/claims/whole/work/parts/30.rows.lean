/-! Rows: instructions that touch the stack and the locals alone. -/
theorem zgo {M : zM} {E : zE} {p : Program} {l : Launch} {e : Env} {R : Room} {s : State} {m : MethodId} {args : Array Value} {below : List Frame} {meth : Method} {c : Code} {L : List (Nat × zV)} {st st' : List zV} {h : zH} {H : Heap} {locs : List Loc} {cells slots n0 s0 : Nat} {Q : State → Prop} {ls : Array Slot} {r : Option zV × zH} {pc : Nat}
    (k : zK M pc L st' h r) (g : zG M E p R s m args meth c L st h H locs cells slots n0 s0 ls r) (f : zF M E p l e R s m args below meth c n0 s0 Q r) (hs : zcnS st') {v : List Value} (hv : st'.map (zcv E) = v) : W p l e R s m args below meth c H locs cells slots Q (F0 m pc ls v) :=
  hv ▸ k.2 E p l e R s m args below meth c H locs cells slots n0 s0 Q ls (g.stk hs) f
theorem zcn_l {L : List (Nat × zV)} (hL : zcnL L) {i : Nat} {v : zV} (hi : (i, v) ∈ L) : zcn v := hL _ hi
theorem zlv {E : zE} {ls : Array Slot} {nL : Nat} {L : List (Nat × zV)} (h : lv_has ls nL (L.map fun q => (q.1, zcv E q.2))) {i : Nat} {v : zV} (hi : (i, v) ∈ L) : ls[i]? = some (.val (zcv E v)) := h.2.2 (i, zcv E v) (List.mem_map.mpr ⟨(i, v), hi, rfl⟩)
theorem zvI (E : zE) (x : Int) : zcv E (0, x) = .int (Int32.ofInt x) := rfl
theorem zvL (E : zE) (x : Int) : zcv E (1, x) = .long (Int64.ofInt x) := rfl
theorem zvR (E : zE) (c : Nat) : zcv E (2, (c : Int)) = zrf E c := rfl
theorem zrf_ne {E : zE} {c : Nat} (h : c ≠ 0) : zrf E c = .ref (E.2.2.1 + c) := if_neg h
theorem zcat (E : zE) (v : zV) : ((zcv E v).category == 2) = (v.1 == 1) := by
  obtain ⟨t, x⟩ := v
  match t with
  | 0 => rfl
  | 1 => rfl
  | 2 =>
    show ((zrf E x.toNat).category == 2) = false
    unfold zrf
    split <;> rfl
  | (n + 3) => rfl
def zst1 (i : Nat) (v : zV) (L : List (Nat × zV)) : List (Nat × zV) := (i, v) :: L.filter (fun q => !(q.1 == i) && !(q.1 + 1 == i && q.2.1 == 1))
def zst2 (i : Nat) (v : zV) (L : List (Nat × zV)) : List (Nat × zV) := (i, v) :: L.filter (fun q => !(q.1 == i) && (!(q.1 == i + 1) && !(q.1 + 1 == i && q.2.1 == 1)))
theorem zst1_map (E : zE) (i : Nat) (v : zV) (L : List (Nat × zV)) : (i, zcv E v) :: (L.map fun q => (q.1, zcv E q.2)).filter (fun q => !(q.1 == i) && !(q.1 + 1 == i && q.2.category == 2)) = (zst1 i v L).map fun q => (q.1, zcv E q.2) := by
  unfold zst1
  rw [List.map_cons, List.filter_map]
  congr 2
  apply List.filter_congr
  intro q _
  simp only [Function.comp, zcat]
theorem zst2_map (E : zE) (i : Nat) (v : zV) (L : List (Nat × zV)) : (i, zcv E v) :: (L.map fun q => (q.1, zcv E q.2)).filter (fun q => !(q.1 == i) && (!(q.1 == i + 1) && !(q.1 + 1 == i && q.2.category == 2))) = (zst2 i v L).map fun q => (q.1, zcv E q.2) := by
  unfold zst2
  rw [List.map_cons, List.filter_map]
  congr 2
  apply List.filter_congr
  intro q _
  simp only [Function.comp, zcat]
theorem zst1_cn {i : Nat} {v : zV} {L : List (Nat × zV)} (hv : zcn v) (hL : zcnL L) : zcnL (zst1 i v L) := by
  intro q hq
  rcases List.mem_cons.mp hq with rfl | h
  · exact hv
  · exact hL q (List.mem_filter.mp h).1
theorem zst2_cn {i : Nat} {v : zV} {L : List (Nat × zV)} (hv : zcn v) (hL : zcnL L) : zcnL (zst2 i v L) := by
  intro q hq
  rcases List.mem_cons.mp hq with rfl | h
  · exact hv
  · exact hL q (List.mem_filter.mp h).1
/-- fewer locals, in another order -/
theorem k_sub {M : zM} {pc : Nat} {L : List (Nat × zV)} {st : List zV} {h : zH} {r : Option zV × zH} {L' : List (Nat × zV)} (ks : List Nat) (hl : ks.filterMap (fun i => L[i]?) = L') (k : zK M pc L' st h r) : zK M pc L st h r := by
  have hin : ∀ q ∈ L', q ∈ L := by
    intro q hq
    rw [← hl] at hq
    obtain ⟨i, -, hi⟩ := List.mem_filterMap.mp hq
    exact List.mem_of_getElem? hi
  refine ⟨k.1, fun E p l e R s m args below meth c H locs cells slots n0 s0 Q ls g f =>  k.2 E p l e R s m args below meth c H locs cells slots n0 s0 Q ls (g.loc g.cnS ⟨g.lv.1, g.lv.2.1, fun q hq => ?_⟩ (fun q hq => g.cnL q (hin q hq))) f⟩
  obtain ⟨u, hu, rfl⟩ := List.mem_map.mp hq
  exact g.lv.2.2 _ (List.mem_map.mpr ⟨u, hin u hu, rfl⟩)
theorem zi2l {x : Int} (h : zcn (0, x)) : (Int32.ofInt x).toInt64 = Int64.ofInt x := by
  apply Int64.toInt_inj.mp
  rw [Int32.toInt_toInt64, zI_to h, zL_to]
  have h : zi32 x := h
  unfold zi32 at h
  unfold zi64
  omega
theorem zi2l_cn {x : Int} (h : zcn (0, x)) : zcn (1, x) := by
  have h : zi32 x := h
  show zi64 x
  unfold zi32 at h
  unfold zi64
  omega
theorem zl2i (x : Int) : (Int64.ofInt x).toInt32 = Int32.ofInt (zw x) := by
  rw [zI_w]
  exact Int64.toInt32_ofInt
theorem zi2c_cn (x : Int) : zcn (0, x % 65536) := by
  show zi32 _
  unfold zi32
  omega
theorem zi2c (x : Int) : ((Int32.ofInt x).toUInt32 % 65536).toInt32 = Int32.ofInt (x % 65536) := by
  rw [pk_char]
  unfold nI
  apply Int32.toBitVec_inj.mp
  apply BitVec.eq_of_toNat_eq
  simp
  omega
theorem zcat1 (E : zE) {v : zV} (h : v.1 = 0 ∨ v.1 = 2) : (zcv E v).category = 1 := by
  obtain ⟨t, x⟩ := v
  rcases h with h | h
  · cases h
    rfl
  · cases h
    show (zrf E x.toNat).category = 1
    unfold zrf
    split <;> rfl
theorem k_iconst {M : zM} {pc : Nat} {L : List (Nat × zV)} {st : List zV} {h : zH} {r : Option zV × zH} {n : Int} (hn : zi32 n) (hd : decode M.2.1 pc = .ok (.iconst n, 1)) (k : zK M (pc + 1) L ((0, n) :: st) h r) : zK M pc L (st) h r :=
  ⟨k.1, fun E p l e R s m args below meth c H locs cells slots n0 s0 Q ls g f => lv_iconst g.hx g.hb hd rfl (zgo k g f (g.cnS.cons hn) rfl)⟩
theorem k_bipush {M : zM} {pc : Nat} {L : List (Nat × zV)} {st : List zV} {h : zH} {r : Option zV × zH} {n : Int} (hn : zi32 n) (hv : (Int8.ofInt n).toInt32 = Int32.ofInt n) (hd : decode M.2.1 pc = .ok (.bipush n, 2)) (k : zK M (pc + 2) L ((0, n) :: st) h r) : zK M pc L (st) h r :=
  ⟨k.1, fun E p l e R s m args below meth c H locs cells slots n0 s0 Q ls g f => lv_bipush g.hx g.hb hd hv (zgo k g f (g.cnS.cons hn) rfl)⟩
theorem k_sipush {M : zM} {pc : Nat} {L : List (Nat × zV)} {st : List zV} {h : zH} {r : Option zV × zH} {n : Int} (hn : zi32 n) (hv : (Int16.ofInt n).toInt32 = Int32.ofInt n) (hd : decode M.2.1 pc = .ok (.sipush n, 3)) (k : zK M (pc + 3) L ((0, n) :: st) h r) : zK M pc L (st) h r :=
  ⟨k.1, fun E p l e R s m args below meth c H locs cells slots n0 s0 Q ls g f => lv_sipush g.hx g.hb hd hv (zgo k g f (g.cnS.cons hn) rfl)⟩
theorem k_lconst {M : zM} {pc : Nat} {L : List (Nat × zV)} {st : List zV} {h : zH} {r : Option zV × zH} {n : Fin 2} {x : Int} (hn : zi64 x) (hv : Int64.ofNat (n : Nat) = Int64.ofInt x) (hd : decode M.2.1 pc = .ok (.lconst n, 1)) (k : zK M (pc + 1) L ((1, x) :: st) h r) : zK M pc L (st) h r :=
  ⟨k.1, fun E p l e R s m args below meth c H locs cells slots n0 s0 Q ls g f => lv_lconst g.hx g.hb hd hv (zgo k g f (g.cnS.cons hn) rfl)⟩
theorem k_ldc2 {M : zM} {pc : Nat} {L : List (Nat × zV)} {st : List zV} {h : zH} {r : Option zV × zH} {i : Nat} {x : Int} (hn : zi64 x) (hw : Cond.constantLong M.1.cls i (Int64.ofInt x) ∈ zGW) (hd : decode M.2.1 pc = .ok (.ldc2_w i, 3)) (k : zK M (pc + 3) L ((1, x) :: st) h r) : zK M pc L (st) h r :=
  ⟨k.1, fun E p l e R s m args below meth c H locs cells slots n0 s0 Q ls g f => lv_ldc2 g.hx g.hb g.own (g.hts _ hw) hd (zgo k g f (g.cnS.cons hn) rfl)⟩
theorem k_iload_n {M : zM} {pc : Nat} {L : List (Nat × zV)} {st : List zV} {h : zH} {r : Option zV × zH} {n : Fin 4} {i : Nat} {x : Int} (hi : (n : Nat) = i) (hl : (i, ((0, x) : zV)) ∈ L) (hd : decode M.2.1 pc = .ok (.iload_n n, 1)) (k : zK M (pc + 1) L ((0, x) :: st) h r) : zK M pc L (st) h r :=
  ⟨k.1, fun E p l e R s m args below meth c H locs cells slots n0 s0 Q ls g f => lv_iload_n g.hx g.hb hd hi (zlv g.lv hl) (zgo k g f (g.cnS.cons (zcn_l g.cnL hl)) rfl)⟩
theorem k_iload {M : zM} {pc : Nat} {L : List (Nat × zV)} {st : List zV} {h : zH} {r : Option zV × zH} {i : Nat} {x : Int} (hl : (i, ((0, x) : zV)) ∈ L) (hd : decode M.2.1 pc = .ok (.iload i, 2)) (k : zK M (pc + 2) L ((0, x) :: st) h r) : zK M pc L (st) h r :=
  ⟨k.1, fun E p l e R s m args below meth c H locs cells slots n0 s0 Q ls g f => lv_iload g.hx g.hb hd (zlv g.lv hl) (zgo k g f (g.cnS.cons (zcn_l g.cnL hl)) rfl)⟩
theorem k_lload_n {M : zM} {pc : Nat} {L : List (Nat × zV)} {st : List zV} {h : zH} {r : Option zV × zH} {n : Fin 4} {i : Nat} {x : Int} (hi : (n : Nat) = i) (hl : (i, ((1, x) : zV)) ∈ L) (hd : decode M.2.1 pc = .ok (.lload_n n, 1)) (k : zK M (pc + 1) L ((1, x) :: st) h r) : zK M pc L (st) h r :=
  ⟨k.1, fun E p l e R s m args below meth c H locs cells slots n0 s0 Q ls g f => lv_lload_n g.hx g.hb hd hi (zlv g.lv hl) (zgo k g f (g.cnS.cons (zcn_l g.cnL hl)) rfl)⟩
theorem k_lload {M : zM} {pc : Nat} {L : List (Nat × zV)} {st : List zV} {h : zH} {r : Option zV × zH} {i : Nat} {x : Int} (hl : (i, ((1, x) : zV)) ∈ L) (hd : decode M.2.1 pc = .ok (.lload i, 2)) (k : zK M (pc + 2) L ((1, x) :: st) h r) : zK M pc L (st) h r :=
  ⟨k.1, fun E p l e R s m args below meth c H locs cells slots n0 s0 Q ls g f => lv_lload g.hx g.hb hd (zlv g.lv hl) (zgo k g f (g.cnS.cons (zcn_l g.cnL hl)) rfl)⟩
theorem k_aload_n {M : zM} {pc : Nat} {L : List (Nat × zV)} {st : List zV} {h : zH} {r : Option zV × zH} {n : Fin 4} {i c' : Nat} (hi : (n : Nat) = i) (hl : (i, ((2, (c' : Int)) : zV)) ∈ L) (hd : decode M.2.1 pc = .ok (.aload_n n, 1)) (k : zK M (pc + 1) L ((2, (c' : Int)) :: st) h r) : zK M pc L (st) h r :=
  ⟨k.1, fun E p l e R s m args below meth c H locs cells slots n0 s0 Q ls g f => lv_aload_n (x := E.2.2.1 + c') g.hx g.hb hd hi (by have := zlv g.lv hl; rw [zvR, zrf_ne (zcn_ne (zcn_l g.cnL hl))] at this; exact this) (zgo k g f (g.cnS.cons (zcn_l g.cnL hl)) (by rw [List.map_cons, zvR, zrf_ne (zcn_ne (zcn_l g.cnL hl))]))⟩
theorem k_aload {M : zM} {pc : Nat} {L : List (Nat × zV)} {st : List zV} {h : zH} {r : Option zV × zH} {i c' : Nat} (hl : (i, ((2, (c' : Int)) : zV)) ∈ L) (hd : decode M.2.1 pc = .ok (.aload i, 2)) (k : zK M (pc + 2) L ((2, (c' : Int)) :: st) h r) : zK M pc L (st) h r :=
  ⟨k.1, fun E p l e R s m args below meth c H locs cells slots n0 s0 Q ls g f => lv_aload (x := E.2.2.1 + c') g.hx g.hb hd (by have := zlv g.lv hl; rw [zvR, zrf_ne (zcn_ne (zcn_l g.cnL hl))] at this; exact this) (zgo k g f (g.cnS.cons (zcn_l g.cnL hl)) (by rw [List.map_cons, zvR, zrf_ne (zcn_ne (zcn_l g.cnL hl))]))⟩
theorem k_aload_s {M : zM} {pc : Nat} {L : List (Nat × zV)} {st : List zV} {h : zH} {r : Option zV × zH} {n : Fin 4} {i : Nat} (hi : (n : Nat) = i) (hl : (i, ((3, 0) : zV)) ∈ L) (hd : decode M.2.1 pc = .ok (.aload_n n, 1)) (k : zK M (pc + 1) L ((3, 0) :: st) h r) : zK M pc L (st) h r :=
  ⟨k.1, fun E p l e R s m args below meth c H locs cells slots n0 s0 Q ls g f => lv_aload_n (x := E.2.2.2.1) g.hx g.hb hd hi (zlv g.lv hl) (zgo k g f (g.cnS.cons trivial) rfl)⟩
theorem k_istore_n {M : zM} {pc : Nat} {L : List (Nat × zV)} {st : List zV} {h : zH} {r : Option zV × zH} {L' : List (Nat × zV)} {n : Fin 4} {i : Nat} {x : Int} (hi : (n : Nat) = i) (hd : decode M.2.1 pc = .ok (.istore_n n, 1)) (hn : i < M.2.2.1) (hL : zst1 i (0, x) L = L') (k : zK M (pc + 1) L' st h r) : zK M pc L ((0, x) :: st) h r := by
  subst hL
  exact ⟨k.1, fun E p l e R s m args below meth c H locs cells slots n0 s0 Q ls g f => lv_istore_n (x := Int32.ofInt x) g.hx g.hb hd hi g.lv hn (zst1_map E i (0, x) L) (fun ls' hl' => k.2 E p l e R s m args below meth c H locs cells slots n0 s0 Q ls' (g.loc g.cnS.tail hl' (zst1_cn g.cnS.head g.cnL)) f)⟩
theorem k_istore {M : zM} {pc : Nat} {L : List (Nat × zV)} {st : List zV} {h : zH} {r : Option zV × zH} {L' : List (Nat × zV)} {i : Nat} {x : Int} (hd : decode M.2.1 pc = .ok (.istore i, 2)) (hn : i < M.2.2.1) (hL : zst1 i (0, x) L = L') (k : zK M (pc + 2) L' st h r) : zK M pc L ((0, x) :: st) h r := by
  subst hL
  exact ⟨k.1, fun E p l e R s m args below meth c H locs cells slots n0 s0 Q ls g f => lv_istore (x := Int32.ofInt x) g.hx g.hb hd g.lv hn (zst1_map E i (0, x) L) (fun ls' hl' => k.2 E p l e R s m args below meth c H locs cells slots n0 s0 Q ls' (g.loc g.cnS.tail hl' (zst1_cn g.cnS.head g.cnL)) f)⟩
theorem k_lstore {M : zM} {pc : Nat} {L : List (Nat × zV)} {st : List zV} {h : zH} {r : Option zV × zH} {L' : List (Nat × zV)} {i : Nat} {x : Int} (hd : decode M.2.1 pc = .ok (.lstore i, 2)) (hn : i + 1 < M.2.2.1) (hL : zst2 i (1, x) L = L') (k : zK M (pc + 2) L' st h r) : zK M pc L ((1, x) :: st) h r := by
  subst hL
  exact ⟨k.1, fun E p l e R s m args below meth c H locs cells slots n0 s0 Q ls g f => lv_lstore (x := Int64.ofInt x) g.hx g.hb hd g.lv hn (zst2_map E i (1, x) L) (fun ls' hl' => k.2 E p l e R s m args below meth c H locs cells slots n0 s0 Q ls' (g.loc g.cnS.tail hl' (zst2_cn g.cnS.head g.cnL)) f)⟩
theorem k_lstore_n {M : zM} {pc : Nat} {L : List (Nat × zV)} {st : List zV} {h : zH} {r : Option zV × zH} {L' : List (Nat × zV)} {n : Fin 4} {i : Nat} {x : Int} (hi : (n : Nat) = i) (hd : decode M.2.1 pc = .ok (.lstore_n n, 1)) (hn : i + 1 < M.2.2.1) (hL : zst2 i (1, x) L = L') (k : zK M (pc + 1) L' st h r) : zK M pc L ((1, x) :: st) h r := by
  subst hL
  exact ⟨k.1, fun E p l e R s m args below meth c H locs cells slots n0 s0 Q ls g f => lv_lstore_n (x := Int64.ofInt x) g.hx g.hb hd hi g.lv hn (zst2_map E i (1, x) L) (fun ls' hl' => k.2 E p l e R s m args below meth c H locs cells slots n0 s0 Q ls' (g.loc g.cnS.tail hl' (zst2_cn g.cnS.head g.cnL)) f)⟩
theorem k_astore_n {M : zM} {pc : Nat} {L : List (Nat × zV)} {st : List zV} {h : zH} {r : Option zV × zH} {L' : List (Nat × zV)} {n : Fin 4} {i c' : Nat} (hi : (n : Nat) = i) (hd : decode M.2.1 pc = .ok (.astore_n n, 1)) (hn : i < M.2.2.1) (hL : zst1 i (2, (c' : Int)) L = L') (k : zK M (pc + 1) L' st h r) : zK M pc L ((2, (c' : Int)) :: st) h r := by
  subst hL
  refine ⟨k.1, fun E p l e R s m args below meth c H locs cells slots n0 s0 Q ls g f => ?_⟩
  have hc := zcn_ne g.cnS.head
  rw [List.map_cons, zvR, zrf_ne hc]
  have hz := zst1_map E i (2, (c' : Int)) L
  rw [zvR, zrf_ne hc] at hz
  exact lv_astore_n (x := E.2.2.1 + c') g.hx g.hb hd hi g.lv hn hz (fun ls' hl' => k.2 E p l e R s m args below meth c H locs cells slots n0 s0 Q ls' (g.loc g.cnS.tail hl' (zst1_cn g.cnS.head g.cnL)) f)
theorem k_astore {M : zM} {pc : Nat} {L : List (Nat × zV)} {st : List zV} {h : zH} {r : Option zV × zH} {L' : List (Nat × zV)} {i c' : Nat} (hd : decode M.2.1 pc = .ok (.astore i, 2)) (hn : i < M.2.2.1) (hL : zst1 i (2, (c' : Int)) L = L') (k : zK M (pc + 2) L' st h r) : zK M pc L ((2, (c' : Int)) :: st) h r := by
  subst hL
  refine ⟨k.1, fun E p l e R s m args below meth c H locs cells slots n0 s0 Q ls g f => ?_⟩
  have hc := zcn_ne g.cnS.head
  rw [List.map_cons, zvR, zrf_ne hc]
  have hz := zst1_map E i (2, (c' : Int)) L
  rw [zvR, zrf_ne hc] at hz
  exact lv_astore (x := E.2.2.1 + c') g.hx g.hb hd g.lv hn hz (fun ls' hl' => k.2 E p l e R s m args below meth c H locs cells slots n0 s0 Q ls' (g.loc g.cnS.tail hl' (zst1_cn g.cnS.head g.cnL)) f)
theorem k_iinc {M : zM} {pc : Nat} {L : List (Nat × zV)} {st : List zV} {h : zH} {r : Option zV × zH} {L' : List (Nat × zV)} {i : Nat} {n x : Int} (hl : (i, ((0, x) : zV)) ∈ L) (hd : decode M.2.1 pc = .ok (.iinc i n, 3)) (hn : i < M.2.2.1) (hL : zst1 i (0, zw (x + n)) L = L') (k : zK M (pc + 3) L' st h r) : zK M pc L st h r := by
  subst hL
  refine ⟨k.1, fun E p l e R s m args below meth c H locs cells slots n0 s0 Q ls g f => ?_⟩
  obtain ⟨q, hq⟩ := List.getElem?_of_mem (List.mem_map.mpr ⟨_, hl, rfl⟩ : (i, zcv E (0, x)) ∈ L.map fun q => (q.1, zcv E q.2))
  have hz := zst1_map E i (0, zw (x + n)) L
  exact lv_iinc (x := Int32.ofInt x) (v := Int32.ofInt (zw (x + n))) g.hx g.hb hd g.lv hq (by rw [zI_w, Int32.ofInt_add]) hn hz (fun ls' hl' => k.2 E p l e R s m args below meth c H locs cells slots n0 s0 Q ls' (g.loc g.cnS hl' (zst1_cn (zi_w _) g.cnL)) f)
theorem k_iadd {M : zM} {pc : Nat} {L : List (Nat × zV)} {st : List zV} {h : zH} {r : Option zV × zH} {x y : Int} (hd : decode M.2.1 pc = .ok (.iadd, 1)) (k : zK M (pc + 1) L ((0, zw (x + y)) :: st) h r) : zK M pc L ((0, y) :: (0, x) :: st) h r :=
  ⟨k.1, fun E p l e R s m args below meth c H locs cells slots n0 s0 Q ls g f => lv_iadd (x := Int32.ofInt x) (y := Int32.ofInt y) g.hx g.hb hd (zgo k g f (g.cnS.tail.tail.cons (zi_w _)) (by rw [List.map_cons, zvI, zI_w, Int32.ofInt_add]))⟩
theorem k_isub {M : zM} {pc : Nat} {L : List (Nat × zV)} {st : List zV} {h : zH} {r : Option zV × zH} {x y : Int} (hd : decode M.2.1 pc = .ok (.isub, 1)) (k : zK M (pc + 1) L ((0, zw (x - y)) :: st) h r) : zK M pc L ((0, y) :: (0, x) :: st) h r :=
  ⟨k.1, fun E p l e R s m args below meth c H locs cells slots n0 s0 Q ls g f => lv_isub (x := Int32.ofInt x) (y := Int32.ofInt y) g.hx g.hb hd (zgo k g f (g.cnS.tail.tail.cons (zi_w _)) (by rw [List.map_cons, zvI, zI_w, Int32.ofInt_sub]))⟩
theorem k_imul {M : zM} {pc : Nat} {L : List (Nat × zV)} {st : List zV} {h : zH} {r : Option zV × zH} {x y : Int} (hd : decode M.2.1 pc = .ok (.imul, 1)) (k : zK M (pc + 1) L ((0, zw (x * y)) :: st) h r) : zK M pc L ((0, y) :: (0, x) :: st) h r :=
  ⟨k.1, fun E p l e R s m args below meth c H locs cells slots n0 s0 Q ls g f => lv_imul (x := Int32.ofInt x) (y := Int32.ofInt y) g.hx g.hb hd (zgo k g f (g.cnS.tail.tail.cons (zi_w _)) (by rw [List.map_cons, zvI, zI_w, Int32.ofInt_mul]))⟩
theorem k_iand {M : zM} {pc : Nat} {L : List (Nat × zV)} {st : List zV} {h : zH} {r : Option zV × zH} {x y : Int} (hd : decode M.2.1 pc = .ok (.iand, 1)) (k : zK M (pc + 1) L ((0, z_and x y) :: st) h r) : zK M pc L ((0, y) :: (0, x) :: st) h r :=
  ⟨k.1, fun E p l e R s m args below meth c H locs cells slots n0 s0 Q ls g f => lv_iand (x := Int32.ofInt x) (y := Int32.ofInt y) g.hx g.hb hd (zgo k g f (g.cnS.tail.tail.cons (zi_to _)) (by rw [List.map_cons, zvI]; unfold z_and; rw [zI_of]))⟩
theorem k_ineg {M : zM} {pc : Nat} {L : List (Nat × zV)} {st : List zV} {h : zH} {r : Option zV × zH} {x : Int} (hd : decode M.2.1 pc = .ok (.ineg, 1)) (k : zK M (pc + 1) L ((0, zw (-x)) :: st) h r) : zK M pc L ((0, x) :: st) h r :=
  ⟨k.1, fun E p l e R s m args below meth c H locs cells slots n0 s0 Q ls g f => lv_ineg (x := Int32.ofInt x) g.hx g.hb hd (zgo k g f (g.cnS.tail.cons (zi_w _)) (by rw [List.map_cons, zvI, zI_w, Int32.ofInt_neg]))⟩
theorem k_i2l {M : zM} {pc : Nat} {L : List (Nat × zV)} {st : List zV} {h : zH} {r : Option zV × zH} {x : Int} (hd : decode M.2.1 pc = .ok (.i2l, 1)) (k : zK M (pc + 1) L ((1, x) :: st) h r) : zK M pc L ((0, x) :: st) h r :=
  ⟨k.1, fun E p l e R s m args below meth c H locs cells slots n0 s0 Q ls g f => lv_i2l (x := Int32.ofInt x) (v := Int64.ofInt x) g.hx g.hb hd (zi2l g.cnS.head) (zgo k g f (g.cnS.tail.cons (zi2l_cn g.cnS.head)) rfl)⟩
theorem k_l2i {M : zM} {pc : Nat} {L : List (Nat × zV)} {st : List zV} {h : zH} {r : Option zV × zH} {x : Int} (hd : decode M.2.1 pc = .ok (.l2i, 1)) (k : zK M (pc + 1) L ((0, zw x) :: st) h r) : zK M pc L ((1, x) :: st) h r :=
  ⟨k.1, fun E p l e R s m args below meth c H locs cells slots n0 s0 Q ls g f => lv_l2i (x := Int64.ofInt x) (v := Int32.ofInt (zw x)) g.hx g.hb hd (zl2i x) (zgo k g f (g.cnS.tail.cons (zi_w _)) rfl)⟩
theorem k_i2c {M : zM} {pc : Nat} {L : List (Nat × zV)} {st : List zV} {h : zH} {r : Option zV × zH} {x : Int} (hd : decode M.2.1 pc = .ok (.i2c, 1)) (k : zK M (pc + 1) L ((0, x % 65536) :: st) h r) : zK M pc L ((0, x) :: st) h r :=
  ⟨k.1, fun E p l e R s m args below meth c H locs cells slots n0 s0 Q ls g f => lv_i2c (x := Int32.ofInt x) (v := Int32.ofInt (x % 65536)) g.hx g.hb hd (zi2c x) (zgo k g f (g.cnS.tail.cons (zi2c_cn x)) rfl)⟩
theorem k_land {M : zM} {pc : Nat} {L : List (Nat × zV)} {st : List zV} {h : zH} {r : Option zV × zH} {x y : Int} (hd : decode M.2.1 pc = .ok (.land, 1)) (k : zK M (pc + 1) L ((1, z_land x y) :: st) h r) : zK M pc L ((1, y) :: (1, x) :: st) h r :=
  ⟨k.1, fun E p l e R s m args below meth c H locs cells slots n0 s0 Q ls g f => lv_land (x := Int64.ofInt x) (y := Int64.ofInt y) g.hx g.hb hd (zgo k g f (g.cnS.tail.tail.cons (zi_toL _)) (by rw [List.map_cons, zvL]; unfold z_land; rw [zL_of]))⟩
theorem k_lor {M : zM} {pc : Nat} {L : List (Nat × zV)} {st : List zV} {h : zH} {r : Option zV × zH} {x y : Int} (hd : decode M.2.1 pc = .ok (.lor, 1)) (k : zK M (pc + 1) L ((1, z_lor x y) :: st) h r) : zK M pc L ((1, y) :: (1, x) :: st) h r :=
  ⟨k.1, fun E p l e R s m args below meth c H locs cells slots n0 s0 Q ls g f => lv_lor (x := Int64.ofInt x) (y := Int64.ofInt y) g.hx g.hb hd (zgo k g f (g.cnS.tail.tail.cons (zi_toL _)) (by rw [List.map_cons, zvL]; unfold z_lor; rw [zL_of]))⟩
theorem k_lxor {M : zM} {pc : Nat} {L : List (Nat × zV)} {st : List zV} {h : zH} {r : Option zV × zH} {x y : Int} (hd : decode M.2.1 pc = .ok (.lxor, 1)) (k : zK M (pc + 1) L ((1, z_lxor x y) :: st) h r) : zK M pc L ((1, y) :: (1, x) :: st) h r :=
  ⟨k.1, fun E p l e R s m args below meth c H locs cells slots n0 s0 Q ls g f => lv_lxor (x := Int64.ofInt x) (y := Int64.ofInt y) g.hx g.hb hd (zgo k g f (g.cnS.tail.tail.cons (zi_toL _)) (by rw [List.map_cons, zvL]; unfold z_lxor; rw [zL_of]))⟩
theorem k_lshl {M : zM} {pc : Nat} {L : List (Nat × zV)} {st : List zV} {h : zH} {r : Option zV × zH} {x y : Int} (hd : decode M.2.1 pc = .ok (.lshl, 1)) (k : zK M (pc + 1) L ((1, z_lshl x y) :: st) h r) : zK M pc L ((0, y) :: (1, x) :: st) h r :=
  ⟨k.1, fun E p l e R s m args below meth c H locs cells slots n0 s0 Q ls g f => lv_lshl (x := Int64.ofInt x) (y := Int32.ofInt y) g.hx g.hb hd rfl (zgo k g f (g.cnS.tail.tail.cons (zi_toL _)) (by rw [List.map_cons, zvL]; unfold z_lshl; rw [zL_of]))⟩
theorem k_lshr {M : zM} {pc : Nat} {L : List (Nat × zV)} {st : List zV} {h : zH} {r : Option zV × zH} {x y : Int} (hd : decode M.2.1 pc = .ok (.lshr, 1)) (k : zK M (pc + 1) L ((1, z_lshr x y) :: st) h r) : zK M pc L ((0, y) :: (1, x) :: st) h r :=
  ⟨k.1, fun E p l e R s m args below meth c H locs cells slots n0 s0 Q ls g f => lv_lshr (x := Int64.ofInt x) (y := Int32.ofInt y) g.hx g.hb hd rfl (zgo k g f (g.cnS.tail.tail.cons (zi_toL _)) (by rw [List.map_cons, zvL]; unfold z_lshr; rw [zL_of]))⟩
theorem k_lushr {M : zM} {pc : Nat} {L : List (Nat × zV)} {st : List zV} {h : zH} {r : Option zV × zH} {x y : Int} (hd : decode M.2.1 pc = .ok (.lushr, 1)) (k : zK M (pc + 1) L ((1, z_lushr x y) :: st) h r) : zK M pc L ((0, y) :: (1, x) :: st) h r :=
  ⟨k.1, fun E p l e R s m args below meth c H locs cells slots n0 s0 Q ls g f => lv_lushr (x := Int64.ofInt x) (y := Int32.ofInt y) g.hx g.hb hd rfl (zgo k g f (g.cnS.tail.tail.cons (zi_toL _)) (by rw [List.map_cons, zvL]; unfold z_lushr; rw [zL_of]))⟩
theorem k_dup {M : zM} {pc : Nat} {L : List (Nat × zV)} {st : List zV} {h : zH} {r : Option zV × zH} {v : zV} (hv : v.1 = 0 ∨ v.1 = 2) (hd : decode M.2.1 pc = .ok (.dup, 1)) (k : zK M (pc + 1) L (v :: v :: st) h r) : zK M pc L (v :: st) h r :=
  ⟨k.1, fun E p l e R s m args below meth c H locs cells slots n0 s0 Q ls g f => lv_dup g.hx g.hb hd (zcat1 E hv) (zgo k g f (g.cnS.cons g.cnS.head) rfl)⟩
theorem k_pop {M : zM} {pc : Nat} {L : List (Nat × zV)} {st : List zV} {h : zH} {r : Option zV × zH} {v : zV} (hv : v.1 = 0 ∨ v.1 = 2) (hd : decode M.2.1 pc = .ok (.pop, 1)) (k : zK M (pc + 1) L (st) h r) : zK M pc L (v :: st) h r :=
  ⟨k.1, fun E p l e R s m args below meth c H locs cells slots n0 s0 Q ls g f => lv_pop g.hx g.hb hd (zcat1 E hv) (zgo k g f g.cnS.tail rfl)⟩
theorem k_dup2 {M : zM} {pc : Nat} {L : List (Nat × zV)} {st : List zV} {h : zH} {r : Option zV × zH} {v w : zV} (hv : v.1 = 0 ∨ v.1 = 2) (hw : w.1 = 0 ∨ w.1 = 2) (hd : decode M.2.1 pc = .ok (.dup2, 1)) (k : zK M (pc + 1) L (v :: w :: v :: w :: st) h r) : zK M pc L (v :: w :: st) h r :=
  ⟨k.1, fun E p l e R s m args below meth c H locs cells slots n0 s0 Q ls g f => lv_dup2_11 g.hx g.hb hd (zcat1 E hv) (zcat1 E hw) (zgo k g f ((g.cnS.cons g.cnS.tail.head).cons g.cnS.head) rfl)⟩
theorem zb0 {x : Int} (hx : zi32 x) : Int32.ofInt x = 0 ↔ x = 0 := by rw [← zI_0]; exact zI_eq hx (by unfold zi32; omega)
theorem zbl0 {x : Int} (hx : zi32 x) : Int32.ofInt x < 0 ↔ x < 0 := by rw [← zI_0]; exact zI_lt hx (by unfold zi32; omega)
theorem zbg0 {x : Int} (hx : zi32 x) : 0 < Int32.ofInt x ↔ 0 < x := by rw [← zI_0]; exact zI_lt (by unfold zi32; omega) hx
theorem zbL0 {x : Int} (hx : zi32 x) : Int32.ofInt x ≤ 0 ↔ x ≤ 0 := by rw [← zI_0]; exact zI_le hx (by unfold zi32; omega)
theorem zbG0 {x : Int} (hx : zi32 x) : 0 ≤ Int32.ofInt x ↔ 0 ≤ x := by rw [← zI_0]; exact zI_le (by unfold zi32; omega) hx
theorem k_if_eq_t {M : zM} {pc : Nat} {L : List (Nat × zV)} {st : List zV} {h : zH} {r : Option zV × zH} {x : Int} {off : Int} {tgt : Nat} (hc : x = 0) (hd : decode M.2.1 pc = .ok (.ifCond .eq off, 3)) (ht : (pc : Int) + off = (tgt : Int)) (k : zK M tgt L st h r) : zK M pc L ((0, x) :: st) h r :=
  ⟨k.1, fun E p l e R s m args below meth c H locs cells slots n0 s0 Q ls g f => lv_if_eq (x := Int32.ofInt x) g.hx g.hb hd ht (fun _ => zgo k g f g.cnS.tail rfl) (fun hn => absurd ((zb0 g.cnS.head).mpr hc) hn)⟩
theorem k_if_eq_f {M : zM} {pc : Nat} {L : List (Nat × zV)} {st : List zV} {h : zH} {r : Option zV × zH} {x : Int} {off : Int} {tgt : Nat} (hc : ¬ (x = 0)) (hd : decode M.2.1 pc = .ok (.ifCond .eq off, 3)) (ht : (pc : Int) + off = (tgt : Int)) (k : zK M (pc + 3) L st h r) : zK M pc L ((0, x) :: st) h r :=
  ⟨k.1, fun E p l e R s m args below meth c H locs cells slots n0 s0 Q ls g f => lv_if_eq (x := Int32.ofInt x) (tgt := tgt) g.hx g.hb hd ht (fun hp => absurd ((zb0 g.cnS.head).mp hp) hc) (fun _ => zgo k g f g.cnS.tail rfl)⟩
theorem k_ic_eq_t {M : zM} {pc : Nat} {L : List (Nat × zV)} {st : List zV} {h : zH} {r : Option zV × zH} {x y : Int} {off : Int} {tgt : Nat} (hc : x = y) (hd : decode M.2.1 pc = .ok (.if_icmp .eq off, 3)) (ht : (pc : Int) + off = (tgt : Int)) (k : zK M tgt L st h r) : zK M pc L ((0, y) :: (0, x) :: st) h r :=
  ⟨k.1, fun E p l e R s m args below meth c H locs cells slots n0 s0 Q ls g f => lv_icmp_eq (x := Int32.ofInt x) (y := Int32.ofInt y) g.hx g.hb hd ht (fun _ => zgo k g f g.cnS.tail.tail rfl) (fun hn => absurd ((zI_eq g.cnS.tail.head g.cnS.head).mpr hc) hn)⟩
theorem k_ic_eq_f {M : zM} {pc : Nat} {L : List (Nat × zV)} {st : List zV} {h : zH} {r : Option zV × zH} {x y : Int} {off : Int} {tgt : Nat} (hc : ¬ (x = y)) (hd : decode M.2.1 pc = .ok (.if_icmp .eq off, 3)) (ht : (pc : Int) + off = (tgt : Int)) (k : zK M (pc + 3) L st h r) : zK M pc L ((0, y) :: (0, x) :: st) h r :=
  ⟨k.1, fun E p l e R s m args below meth c H locs cells slots n0 s0 Q ls g f => lv_icmp_eq (x := Int32.ofInt x) (y := Int32.ofInt y) (tgt := tgt) g.hx g.hb hd ht (fun hp => absurd ((zI_eq g.cnS.tail.head g.cnS.head).mp hp) hc) (fun _ => zgo k g f g.cnS.tail.tail rfl)⟩
theorem k_if_ne_t {M : zM} {pc : Nat} {L : List (Nat × zV)} {st : List zV} {h : zH} {r : Option zV × zH} {x : Int} {off : Int} {tgt : Nat} (hc : ¬ x = 0) (hd : decode M.2.1 pc = .ok (.ifCond .ne off, 3)) (ht : (pc : Int) + off = (tgt : Int)) (k : zK M tgt L st h r) : zK M pc L ((0, x) :: st) h r :=
  ⟨k.1, fun E p l e R s m args below meth c H locs cells slots n0 s0 Q ls g f => lv_if_ne (x := Int32.ofInt x) g.hx g.hb hd ht (fun _ => zgo k g f g.cnS.tail rfl) (fun hn => absurd hn ((not_congr (zb0 g.cnS.head)).mpr hc))⟩
theorem k_if_ne_f {M : zM} {pc : Nat} {L : List (Nat × zV)} {st : List zV} {h : zH} {r : Option zV × zH} {x : Int} {off : Int} {tgt : Nat} (hc : x = 0) (hd : decode M.2.1 pc = .ok (.ifCond .ne off, 3)) (ht : (pc : Int) + off = (tgt : Int)) (k : zK M (pc + 3) L st h r) : zK M pc L ((0, x) :: st) h r :=
  ⟨k.1, fun E p l e R s m args below meth c H locs cells slots n0 s0 Q ls g f => lv_if_ne (x := Int32.ofInt x) (tgt := tgt) g.hx g.hb hd ht (fun hp => absurd hc ((not_congr (zb0 g.cnS.head)).mp hp)) (fun _ => zgo k g f g.cnS.tail rfl)⟩
theorem k_ic_ne_t {M : zM} {pc : Nat} {L : List (Nat × zV)} {st : List zV} {h : zH} {r : Option zV × zH} {x y : Int} {off : Int} {tgt : Nat} (hc : ¬ x = y) (hd : decode M.2.1 pc = .ok (.if_icmp .ne off, 3)) (ht : (pc : Int) + off = (tgt : Int)) (k : zK M tgt L st h r) : zK M pc L ((0, y) :: (0, x) :: st) h r :=
  ⟨k.1, fun E p l e R s m args below meth c H locs cells slots n0 s0 Q ls g f => lv_icmp_ne (x := Int32.ofInt x) (y := Int32.ofInt y) g.hx g.hb hd ht (fun _ => zgo k g f g.cnS.tail.tail rfl) (fun hn => absurd hn ((not_congr (zI_eq g.cnS.tail.head g.cnS.head)).mpr hc))⟩
theorem k_ic_ne_f {M : zM} {pc : Nat} {L : List (Nat × zV)} {st : List zV} {h : zH} {r : Option zV × zH} {x y : Int} {off : Int} {tgt : Nat} (hc : x = y) (hd : decode M.2.1 pc = .ok (.if_icmp .ne off, 3)) (ht : (pc : Int) + off = (tgt : Int)) (k : zK M (pc + 3) L st h r) : zK M pc L ((0, y) :: (0, x) :: st) h r :=
  ⟨k.1, fun E p l e R s m args below meth c H locs cells slots n0 s0 Q ls g f => lv_icmp_ne (x := Int32.ofInt x) (y := Int32.ofInt y) (tgt := tgt) g.hx g.hb hd ht (fun hp => absurd hc ((not_congr (zI_eq g.cnS.tail.head g.cnS.head)).mp hp)) (fun _ => zgo k g f g.cnS.tail.tail rfl)⟩
theorem k_if_lt_t {M : zM} {pc : Nat} {L : List (Nat × zV)} {st : List zV} {h : zH} {r : Option zV × zH} {x : Int} {off : Int} {tgt : Nat} (hc : x < 0) (hd : decode M.2.1 pc = .ok (.ifCond .lt off, 3)) (ht : (pc : Int) + off = (tgt : Int)) (k : zK M tgt L st h r) : zK M pc L ((0, x) :: st) h r :=
  ⟨k.1, fun E p l e R s m args below meth c H locs cells slots n0 s0 Q ls g f => lv_if_lt (x := Int32.ofInt x) g.hx g.hb hd ht (fun _ => zgo k g f g.cnS.tail rfl) (fun hn => absurd ((zbl0 g.cnS.head).mpr hc) hn)⟩
theorem k_if_lt_f {M : zM} {pc : Nat} {L : List (Nat × zV)} {st : List zV} {h : zH} {r : Option zV × zH} {x : Int} {off : Int} {tgt : Nat} (hc : ¬ (x < 0)) (hd : decode M.2.1 pc = .ok (.ifCond .lt off, 3)) (ht : (pc : Int) + off = (tgt : Int)) (k : zK M (pc + 3) L st h r) : zK M pc L ((0, x) :: st) h r :=
  ⟨k.1, fun E p l e R s m args below meth c H locs cells slots n0 s0 Q ls g f => lv_if_lt (x := Int32.ofInt x) (tgt := tgt) g.hx g.hb hd ht (fun hp => absurd ((zbl0 g.cnS.head).mp hp) hc) (fun _ => zgo k g f g.cnS.tail rfl)⟩
theorem k_ic_lt_t {M : zM} {pc : Nat} {L : List (Nat × zV)} {st : List zV} {h : zH} {r : Option zV × zH} {x y : Int} {off : Int} {tgt : Nat} (hc : x < y) (hd : decode M.2.1 pc = .ok (.if_icmp .lt off, 3)) (ht : (pc : Int) + off = (tgt : Int)) (k : zK M tgt L st h r) : zK M pc L ((0, y) :: (0, x) :: st) h r :=
  ⟨k.1, fun E p l e R s m args below meth c H locs cells slots n0 s0 Q ls g f => lv_icmp_lt (x := Int32.ofInt x) (y := Int32.ofInt y) g.hx g.hb hd ht (fun _ => zgo k g f g.cnS.tail.tail rfl) (fun hn => absurd ((zI_lt g.cnS.tail.head g.cnS.head).mpr hc) hn)⟩
theorem k_ic_lt_f {M : zM} {pc : Nat} {L : List (Nat × zV)} {st : List zV} {h : zH} {r : Option zV × zH} {x y : Int} {off : Int} {tgt : Nat} (hc : ¬ (x < y)) (hd : decode M.2.1 pc = .ok (.if_icmp .lt off, 3)) (ht : (pc : Int) + off = (tgt : Int)) (k : zK M (pc + 3) L st h r) : zK M pc L ((0, y) :: (0, x) :: st) h r :=
  ⟨k.1, fun E p l e R s m args below meth c H locs cells slots n0 s0 Q ls g f => lv_icmp_lt (x := Int32.ofInt x) (y := Int32.ofInt y) (tgt := tgt) g.hx g.hb hd ht (fun hp => absurd ((zI_lt g.cnS.tail.head g.cnS.head).mp hp) hc) (fun _ => zgo k g f g.cnS.tail.tail rfl)⟩
theorem k_if_ge_t {M : zM} {pc : Nat} {L : List (Nat × zV)} {st : List zV} {h : zH} {r : Option zV × zH} {x : Int} {off : Int} {tgt : Nat} (hc : 0 ≤ x) (hd : decode M.2.1 pc = .ok (.ifCond .ge off, 3)) (ht : (pc : Int) + off = (tgt : Int)) (k : zK M tgt L st h r) : zK M pc L ((0, x) :: st) h r :=
  ⟨k.1, fun E p l e R s m args below meth c H locs cells slots n0 s0 Q ls g f => lv_if_ge (x := Int32.ofInt x) g.hx g.hb hd ht (fun _ => zgo k g f g.cnS.tail rfl) (fun hn => absurd ((zbG0 g.cnS.head).mpr hc) hn)⟩
theorem k_if_ge_f {M : zM} {pc : Nat} {L : List (Nat × zV)} {st : List zV} {h : zH} {r : Option zV × zH} {x : Int} {off : Int} {tgt : Nat} (hc : ¬ (0 ≤ x)) (hd : decode M.2.1 pc = .ok (.ifCond .ge off, 3)) (ht : (pc : Int) + off = (tgt : Int)) (k : zK M (pc + 3) L st h r) : zK M pc L ((0, x) :: st) h r :=
  ⟨k.1, fun E p l e R s m args below meth c H locs cells slots n0 s0 Q ls g f => lv_if_ge (x := Int32.ofInt x) (tgt := tgt) g.hx g.hb hd ht (fun hp => absurd ((zbG0 g.cnS.head).mp hp) hc) (fun _ => zgo k g f g.cnS.tail rfl)⟩
theorem k_ic_ge_t {M : zM} {pc : Nat} {L : List (Nat × zV)} {st : List zV} {h : zH} {r : Option zV × zH} {x y : Int} {off : Int} {tgt : Nat} (hc : y ≤ x) (hd : decode M.2.1 pc = .ok (.if_icmp .ge off, 3)) (ht : (pc : Int) + off = (tgt : Int)) (k : zK M tgt L st h r) : zK M pc L ((0, y) :: (0, x) :: st) h r :=
  ⟨k.1, fun E p l e R s m args below meth c H locs cells slots n0 s0 Q ls g f => lv_icmp_ge (x := Int32.ofInt x) (y := Int32.ofInt y) g.hx g.hb hd ht (fun _ => zgo k g f g.cnS.tail.tail rfl) (fun hn => absurd ((zI_le g.cnS.head g.cnS.tail.head).mpr hc) hn)⟩
theorem k_ic_ge_f {M : zM} {pc : Nat} {L : List (Nat × zV)} {st : List zV} {h : zH} {r : Option zV × zH} {x y : Int} {off : Int} {tgt : Nat} (hc : ¬ (y ≤ x)) (hd : decode M.2.1 pc = .ok (.if_icmp .ge off, 3)) (ht : (pc : Int) + off = (tgt : Int)) (k : zK M (pc + 3) L st h r) : zK M pc L ((0, y) :: (0, x) :: st) h r :=
  ⟨k.1, fun E p l e R s m args below meth c H locs cells slots n0 s0 Q ls g f => lv_icmp_ge (x := Int32.ofInt x) (y := Int32.ofInt y) (tgt := tgt) g.hx g.hb hd ht (fun hp => absurd ((zI_le g.cnS.head g.cnS.tail.head).mp hp) hc) (fun _ => zgo k g f g.cnS.tail.tail rfl)⟩
theorem k_if_gt_t {M : zM} {pc : Nat} {L : List (Nat × zV)} {st : List zV} {h : zH} {r : Option zV × zH} {x : Int} {off : Int} {tgt : Nat} (hc : 0 < x) (hd : decode M.2.1 pc = .ok (.ifCond .gt off, 3)) (ht : (pc : Int) + off = (tgt : Int)) (k : zK M tgt L st h r) : zK M pc L ((0, x) :: st) h r :=
  ⟨k.1, fun E p l e R s m args below meth c H locs cells slots n0 s0 Q ls g f => lv_if_gt (x := Int32.ofInt x) g.hx g.hb hd ht (fun _ => zgo k g f g.cnS.tail rfl) (fun hn => absurd ((zbg0 g.cnS.head).mpr hc) hn)⟩
theorem k_if_gt_f {M : zM} {pc : Nat} {L : List (Nat × zV)} {st : List zV} {h : zH} {r : Option zV × zH} {x : Int} {off : Int} {tgt : Nat} (hc : ¬ (0 < x)) (hd : decode M.2.1 pc = .ok (.ifCond .gt off, 3)) (ht : (pc : Int) + off = (tgt : Int)) (k : zK M (pc + 3) L st h r) : zK M pc L ((0, x) :: st) h r :=
  ⟨k.1, fun E p l e R s m args below meth c H locs cells slots n0 s0 Q ls g f => lv_if_gt (x := Int32.ofInt x) (tgt := tgt) g.hx g.hb hd ht (fun hp => absurd ((zbg0 g.cnS.head).mp hp) hc) (fun _ => zgo k g f g.cnS.tail rfl)⟩
theorem k_ic_gt_t {M : zM} {pc : Nat} {L : List (Nat × zV)} {st : List zV} {h : zH} {r : Option zV × zH} {x y : Int} {off : Int} {tgt : Nat} (hc : y < x) (hd : decode M.2.1 pc = .ok (.if_icmp .gt off, 3)) (ht : (pc : Int) + off = (tgt : Int)) (k : zK M tgt L st h r) : zK M pc L ((0, y) :: (0, x) :: st) h r :=
  ⟨k.1, fun E p l e R s m args below meth c H locs cells slots n0 s0 Q ls g f => lv_icmp_gt (x := Int32.ofInt x) (y := Int32.ofInt y) g.hx g.hb hd ht (fun _ => zgo k g f g.cnS.tail.tail rfl) (fun hn => absurd ((zI_lt g.cnS.head g.cnS.tail.head).mpr hc) hn)⟩
theorem k_ic_gt_f {M : zM} {pc : Nat} {L : List (Nat × zV)} {st : List zV} {h : zH} {r : Option zV × zH} {x y : Int} {off : Int} {tgt : Nat} (hc : ¬ (y < x)) (hd : decode M.2.1 pc = .ok (.if_icmp .gt off, 3)) (ht : (pc : Int) + off = (tgt : Int)) (k : zK M (pc + 3) L st h r) : zK M pc L ((0, y) :: (0, x) :: st) h r :=
  ⟨k.1, fun E p l e R s m args below meth c H locs cells slots n0 s0 Q ls g f => lv_icmp_gt (x := Int32.ofInt x) (y := Int32.ofInt y) (tgt := tgt) g.hx g.hb hd ht (fun hp => absurd ((zI_lt g.cnS.head g.cnS.tail.head).mp hp) hc) (fun _ => zgo k g f g.cnS.tail.tail rfl)⟩
theorem k_if_le_t {M : zM} {pc : Nat} {L : List (Nat × zV)} {st : List zV} {h : zH} {r : Option zV × zH} {x : Int} {off : Int} {tgt : Nat} (hc : x ≤ 0) (hd : decode M.2.1 pc = .ok (.ifCond .le off, 3)) (ht : (pc : Int) + off = (tgt : Int)) (k : zK M tgt L st h r) : zK M pc L ((0, x) :: st) h r :=
  ⟨k.1, fun E p l e R s m args below meth c H locs cells slots n0 s0 Q ls g f => lv_if_le (x := Int32.ofInt x) g.hx g.hb hd ht (fun _ => zgo k g f g.cnS.tail rfl) (fun hn => absurd ((zbL0 g.cnS.head).mpr hc) hn)⟩
theorem k_if_le_f {M : zM} {pc : Nat} {L : List (Nat × zV)} {st : List zV} {h : zH} {r : Option zV × zH} {x : Int} {off : Int} {tgt : Nat} (hc : ¬ (x ≤ 0)) (hd : decode M.2.1 pc = .ok (.ifCond .le off, 3)) (ht : (pc : Int) + off = (tgt : Int)) (k : zK M (pc + 3) L st h r) : zK M pc L ((0, x) :: st) h r :=
  ⟨k.1, fun E p l e R s m args below meth c H locs cells slots n0 s0 Q ls g f => lv_if_le (x := Int32.ofInt x) (tgt := tgt) g.hx g.hb hd ht (fun hp => absurd ((zbL0 g.cnS.head).mp hp) hc) (fun _ => zgo k g f g.cnS.tail rfl)⟩
theorem k_ic_le_t {M : zM} {pc : Nat} {L : List (Nat × zV)} {st : List zV} {h : zH} {r : Option zV × zH} {x y : Int} {off : Int} {tgt : Nat} (hc : x ≤ y) (hd : decode M.2.1 pc = .ok (.if_icmp .le off, 3)) (ht : (pc : Int) + off = (tgt : Int)) (k : zK M tgt L st h r) : zK M pc L ((0, y) :: (0, x) :: st) h r :=
  ⟨k.1, fun E p l e R s m args below meth c H locs cells slots n0 s0 Q ls g f => lv_icmp_le (x := Int32.ofInt x) (y := Int32.ofInt y) g.hx g.hb hd ht (fun _ => zgo k g f g.cnS.tail.tail rfl) (fun hn => absurd ((zI_le g.cnS.tail.head g.cnS.head).mpr hc) hn)⟩
theorem k_ic_le_f {M : zM} {pc : Nat} {L : List (Nat × zV)} {st : List zV} {h : zH} {r : Option zV × zH} {x y : Int} {off : Int} {tgt : Nat} (hc : ¬ (x ≤ y)) (hd : decode M.2.1 pc = .ok (.if_icmp .le off, 3)) (ht : (pc : Int) + off = (tgt : Int)) (k : zK M (pc + 3) L st h r) : zK M pc L ((0, y) :: (0, x) :: st) h r :=
  ⟨k.1, fun E p l e R s m args below meth c H locs cells slots n0 s0 Q ls g f => lv_icmp_le (x := Int32.ofInt x) (y := Int32.ofInt y) (tgt := tgt) g.hx g.hb hd ht (fun hp => absurd ((zI_le g.cnS.tail.head g.cnS.head).mp hp) hc) (fun _ => zgo k g f g.cnS.tail.tail rfl)⟩
theorem k_goto {M : zM} {pc : Nat} {L : List (Nat × zV)} {st : List zV} {h : zH} {r : Option zV × zH} {off : Int} {tgt : Nat} (hd : decode M.2.1 pc = .ok (.goto off, 3)) (ht : (pc : Int) + off = (tgt : Int)) (k : zK M tgt L st h r) : zK M pc L st h r :=
  ⟨k.1, fun E p l e R s m args below meth c H locs cells slots n0 s0 Q ls g f => lv_goto g.hx g.hb hd ht (zgo k g f g.cnS rfl)⟩
