/-! Rows: new cells, calls, returns, switches, the script. -/
theorem zsl_new (h : zH) (k n : Nat) : zsl (z_new h k n) = zsl h + n := by
  unfold zsl z_new
  simp
theorem zlen_new (h : zH) (k n : Nat) : (z_new h k n).1.length = h.1.length + 1 := by
  unfold z_new
  simp
theorem zok_0 (t : Nat) : zok t 0 := by
  unfold zok
  split
  · unfold zi32; omega
  · unfold zi64; omega
  · omega
  · trivial
/-- a cell more -/
theorem zRp.new {E : zE} {h : zH} {H H' : Heap} (hR : zRp E h H) {k n : Nat} (hat : zat E (z_new h k n) h.1.length k n H') (z : H'.size = H.size + 1) (oq : ∀ q : Nat, q < H.size → H'[q]? = H[q]?) : zRp E (z_new h k n) H' := by
  obtain ⟨r1, r2, r3, r4, r5⟩ := hR
  have r6 := r5.2.1
  have hpos : 0 < h.1.length := (List.getElem?_eq_some_iff.mp r2).1
  have hl : ∀ c, c ≠ h.1.length → (z_new h k n).1[c]? = h.1[c]? := by
    intro c hc
    show (h.1 ++ [(k, n)])[c]? = _
    by_cases hlt : c < h.1.length
    · rw [List.getElem?_append_left hlt]
    · rw [List.getElem?_append_right (by omega), List.getElem?_eq_none (by simp; omega), List.getElem?_eq_none (by omega)]
  have hs : (z_new h k n).1[h.1.length]? = some (k, n) := by
    show (h.1 ++ [(k, n)])[h.1.length]? = _
    rw [List.getElem?_append_right (Nat.le_refl _)]
    simp
  refine ⟨by rw [z, r1, zlen_new]; omega, by rw [hl 0 (by omega)]; exact r2, fun c k' n' g0 g1 => ?_, fun c k' n' j g1 => ?_, ?_⟩
  · by_cases he : c = h.1.length
    · subst he
      cases hs.symm.trans g1
      exact hat
    · rw [hl c he] at g1
      have hlt := (List.getElem?_eq_some_iff.mp g1).1
      exact (r3 c k' n' g0 g1).same (fun j => if_neg he) (fun j => if_neg he) (oq _ (by omega))
  · by_cases he : c = h.1.length
    · subst he
      show zok _ (if h.1.length = h.1.length then 0 else _)
      rw [if_pos rfl]
      exact zok_0 _
    · rw [hl c he] at g1
      show zok _ (if c = h.1.length then 0 else _)
      rw [if_neg he]
      exact r4 c k' n' j g1
  · refine ⟨by rw [oq _ (by rw [r1]; omega)]; exact r5.1, r6, fun j hj => ?_⟩
    rw [r5.2.2 j hj]
    show _ = Int32.ofInt (if 0 = h.1.length then 0 else _)
    rw [if_neg (by omega)]
theorem zSf.new {E : zE} {H0 H H' : Heap} {locs : List Loc} (hS : zSf E H0 H locs) (hB : E.2.2.1 < H.size) (z : H'.size = H.size + 1) (oq : ∀ q : Nat, q < H.size → H'[q]? = H[q]?) : zSf E H0 H' locs := by
  obtain ⟨s1, s2, s3⟩ := hS
  exact ⟨fun q hq => by rw [oq q (by omega)]; exact s1 q hq, s2, by omega⟩
theorem zRp.B {E : zE} {h : zH} {H : Heap} (hR : zRp E h H) : E.2.2.1 < H.size := by
  have hpos : 0 < h.1.length := (List.getElem?_eq_some_iff.mp hR.2.1).1
  have := hR.1
  omega
theorem zRp.l0 {E : zE} {h : zH} {H : Heap} (hR : zRp E h H) : h.1.length ≠ 0 := by
  have hpos : 0 < h.1.length := (List.getElem?_eq_some_iff.mp hR.2.1).1
  omega
/-- a class that an instruction of the class own makes objects of -/
def zNw (own : String) (i k N : Nat) : Prop := ∃ C T, zCk k C T N ∧ (∀ j, j < N → ∃ ty, parseFieldDescriptor (T j).2.2.1 = some ty ∧ defaultValue ty = zdf (zty k j)) ∧ Cond.classLink own i C ∈ zGW ∧ Cond.instantiable C N ∈ zGW ∧ Cond.initialized C ∈ zGW
theorem zfv_0 (E : zE) (k j : Nat) : zfv E k j 0 0 = zdf (zty k j) := by
  unfold zfv zdf
  generalize zty k j = t
  match t with
  | 0 => rfl
  | 1 => rfl
  | (n + 2) => rfl
theorem k_new {M : zM} {pc : Nat} {L : List (Nat × zV)} {st : List zV} {h : zH} {r : Option zV × zH} {i k N : Nat} (hd : decode M.2.1 pc = .ok (.new i, 3)) (hw : zNw M.1.cls i k N) (k0 : zK M (pc + 3) L ((2, (h.1.length : Int)) :: st) (z_new h k N) r) : zK M pc L st h r := by
  obtain ⟨C, T, ⟨hk, hcl, hin, ⟨ty0, hty⟩, hnm⟩, hdf, hlink, hins, hini⟩ := hw
  have k1 := k0.1
  rw [zlen_new, zsl_new] at k1
  refine ⟨⟨by omega, by omega⟩, fun E p l e R s m args below meth c H locs cells slots n0 s0 Q ls g f => ?_⟩
  have hKn := g.hK.1 k _ hcl
  obtain ⟨b1, b2, b3, b4⟩ := g.2.2.2.2.2.2.2
  refine W.newcK g.hx g.hb g.own (g.hts _ hlink) (g.hts _ hins) (g.hts _ hini) rfl hd (by omega) (by omega) hKn.2.1 rfl fun H' kC hkC e1 z1 o1 => ?_
  have hsz : H.size = E.2.2.1 + h.1.length := g.rp.1
  have hat : zat E (z_new h k N) h.1.length k N H' := by
    unfold zat
    rw [if_pos hk]
    refine ⟨_, hcl, rfl, ?_⟩
    rw [← hsz]
    refine (u_born ty0 g.hts hin hKn hkC e1 hty).to fun j hj => ?_
    obtain ⟨ty, g1, g2⟩ := hdf j hj
    cases (hty j hj).symm.trans g1
    show defaultValue (ty0 j) = zfv E k j (if h.1.length = h.1.length then 0 else _) (if h.1.length = h.1.length then 0 else _)
    rw [if_pos rfl, if_pos rfl, g2, zfv_0]
  have g2 := g.hp (st' := (2, (h.1.length : Int)) :: st) (cells' := cells + 1) (slots' := slots + N) (g.cnS.cons (zcn_of g.rp.l0)) (g.rp.new hat z1 o1) (g.sf.new g.rp.B z1 o1) (by rw [zlen_new]; omega) (by rw [zsl_new]; omega)
  have q := k0.2 E p l e R s m args below meth c H' locs (cells + 1) (slots + N) n0 s0 Q ls g2 f
  rw [List.map_cons, zvR, zrf_ne g.rp.l0, ← hsz] at q
  exact q
theorem k_nwi {M : zM} {pc : Nat} {L : List (Nat × zV)} {st : List zV} {h : zH} {r : Option zV × zH} {n : Int} {h' : zH} (hd : decode M.2.1 pc = .ok (.newarray .int, 2)) (hw : Cond.arrayClass .int ∈ zGW) (e : z_nwA h 20 n = some h') (k0 : zK M (pc + 2) L ((2, (h.1.length : Int)) :: st) h' r) : zK M pc L ((0, n) :: st) h r := by
  unfold z_nwA at e
  obtain ⟨hn, e⟩ := z_io e
  cases e
  have k1 := k0.1
  rw [zlen_new, zsl_new] at k1
  refine ⟨⟨by omega, by omega⟩, fun E p l e R s m args below meth c H locs cells slots n0 s0 Q ls g f => ?_⟩
  obtain ⟨b1, b2, b3, b4⟩ := g.2.2.2.2.2.2.2
  have hn3 : zi32 n := g.cnS.head
  have hcl := zI_cl hn3
  have hsz : H.size = E.2.2.1 + h.1.length := g.rp.1
  have hcb : componentBytes (newarray.typeOf .int) ≤ 8 := by decide
  have h9 : n.toNat ≤ 100000 := by omega
  have hby : n.toNat * componentBytes (newarray.typeOf .int) ≤ 536870912 := Nat.le_trans (Nat.mul_le_mul h9 hcb) (by decide)
  rw [List.map_cons, zvI]
  refine va_newaK (N := n.toNat) (atype := .int) g.hx g.hb (g.hts _ hw) rfl hd rfl (by rw [zbl0 hn3]; omega) hcl hby (by omega) (by omega) rfl fun H' cA e1 z1 o1 hAr hNm => ?_
  have hA : cA = E.2.1 0 := by
    have h8 := (g.hK.2 0 _ rfl).2
    exact Option.some.inj (hNm.symm.trans h8)
  subst hA
  have hat : zat E (z_new h 20 n.toNat) h.1.length 20 n.toNat H' := by
    unfold zat
    rw [if_neg (by decide), ← hsz, e1]
    congr 2
    funext j
    show _ = zav E 20 (if h.1.length = h.1.length then 0 else _) (if h.1.length = h.1.length then 0 else _)
    rw [if_pos rfl, if_pos rfl]
    rfl
  have g2 := g.hp (st' := (2, (h.1.length : Int)) :: st) (cells' := cells + 1) (slots' := slots + n.toNat) (g.cnS.tail.cons (zcn_of g.rp.l0)) (g.rp.new hat z1 o1) (g.sf.new g.rp.B z1 o1) (by rw [zlen_new]; omega) (by rw [zsl_new]; omega)
  have q := k0.2 E p l e R s m args below meth c H' locs (cells + 1) (slots + n.toNat) n0 s0 Q ls g2 f
  rw [List.map_cons, zvR, zrf_ne g.rp.l0, ← hsz] at q
  exact q
theorem k_nwc {M : zM} {pc : Nat} {L : List (Nat × zV)} {st : List zV} {h : zH} {r : Option zV × zH} {n : Int} {h' : zH} (hd : decode M.2.1 pc = .ok (.newarray .char, 2)) (hw : Cond.arrayClass .char ∈ zGW) (e : z_nwA h 21 n = some h') (k0 : zK M (pc + 2) L ((2, (h.1.length : Int)) :: st) h' r) : zK M pc L ((0, n) :: st) h r := by
  unfold z_nwA at e
  obtain ⟨hn, e⟩ := z_io e
  cases e
  have k1 := k0.1
  rw [zlen_new, zsl_new] at k1
  refine ⟨⟨by omega, by omega⟩, fun E p l e R s m args below meth c H locs cells slots n0 s0 Q ls g f => ?_⟩
  obtain ⟨b1, b2, b3, b4⟩ := g.2.2.2.2.2.2.2
  have hn3 : zi32 n := g.cnS.head
  have hcl := zI_cl hn3
  have hsz : H.size = E.2.2.1 + h.1.length := g.rp.1
  have hcb : componentBytes (newarray.typeOf .char) ≤ 8 := by decide
  have h9 : n.toNat ≤ 100000 := by omega
  have hby : n.toNat * componentBytes (newarray.typeOf .char) ≤ 536870912 := Nat.le_trans (Nat.mul_le_mul h9 hcb) (by decide)
  rw [List.map_cons, zvI]
  refine va_newaK (N := n.toNat) (atype := .char) g.hx g.hb (g.hts _ hw) rfl hd rfl (by rw [zbl0 hn3]; omega) hcl hby (by omega) (by omega) rfl fun H' cA e1 z1 o1 hAr hNm => ?_
  have hA : cA = E.2.1 1 := by
    have h8 := (g.hK.2 1 _ rfl).2
    exact Option.some.inj (hNm.symm.trans h8)
  subst hA
  have hat : zat E (z_new h 21 n.toNat) h.1.length 21 n.toNat H' := by
    unfold zat
    rw [if_neg (by decide), ← hsz, e1]
    congr 2
    funext j
    show _ = zav E 21 (if h.1.length = h.1.length then 0 else _) (if h.1.length = h.1.length then 0 else _)
    rw [if_pos rfl, if_pos rfl]
    rfl
  have g2 := g.hp (st' := (2, (h.1.length : Int)) :: st) (cells' := cells + 1) (slots' := slots + n.toNat) (g.cnS.tail.cons (zcn_of g.rp.l0)) (g.rp.new hat z1 o1) (g.sf.new g.rp.B z1 o1) (by rw [zlen_new]; omega) (by rw [zsl_new]; omega)
  have q := k0.2 E p l e R s m args below meth c H' locs (cells + 1) (slots + n.toNat) n0 s0 Q ls g2 f
  rw [List.map_cons, zvR, zrf_ne g.rp.l0, ← hsz] at q
  exact q
theorem k_nwz {M : zM} {pc : Nat} {L : List (Nat × zV)} {st : List zV} {h : zH} {r : Option zV × zH} {n : Int} {h' : zH} (hd : decode M.2.1 pc = .ok (.newarray .boolean, 2)) (hw : Cond.arrayClass .boolean ∈ zGW) (e : z_nwA h 22 n = some h') (k0 : zK M (pc + 2) L ((2, (h.1.length : Int)) :: st) h' r) : zK M pc L ((0, n) :: st) h r := by
  unfold z_nwA at e
  obtain ⟨hn, e⟩ := z_io e
  cases e
  have k1 := k0.1
  rw [zlen_new, zsl_new] at k1
  refine ⟨⟨by omega, by omega⟩, fun E p l e R s m args below meth c H locs cells slots n0 s0 Q ls g f => ?_⟩
  obtain ⟨b1, b2, b3, b4⟩ := g.2.2.2.2.2.2.2
  have hn3 : zi32 n := g.cnS.head
  have hcl := zI_cl hn3
  have hsz : H.size = E.2.2.1 + h.1.length := g.rp.1
  have hcb : componentBytes (newarray.typeOf .boolean) ≤ 8 := by decide
  have h9 : n.toNat ≤ 100000 := by omega
  have hby : n.toNat * componentBytes (newarray.typeOf .boolean) ≤ 536870912 := Nat.le_trans (Nat.mul_le_mul h9 hcb) (by decide)
  rw [List.map_cons, zvI]
  refine va_newaK (N := n.toNat) (atype := .boolean) g.hx g.hb (g.hts _ hw) rfl hd rfl (by rw [zbl0 hn3]; omega) hcl hby (by omega) (by omega) rfl fun H' cA e1 z1 o1 hAr hNm => ?_
  have hA : cA = E.2.1 2 := by
    have h8 := (g.hK.2 2 _ rfl).2
    exact Option.some.inj (hNm.symm.trans h8)
  subst hA
  have hat : zat E (z_new h 22 n.toNat) h.1.length 22 n.toNat H' := by
    unfold zat
    rw [if_neg (by decide), ← hsz, e1]
    congr 2
    funext j
    show _ = zav E 22 (if h.1.length = h.1.length then 0 else _) (if h.1.length = h.1.length then 0 else _)
    rw [if_pos rfl, if_pos rfl]
    rfl
  have g2 := g.hp (st' := (2, (h.1.length : Int)) :: st) (cells' := cells + 1) (slots' := slots + n.toNat) (g.cnS.tail.cons (zcn_of g.rp.l0)) (g.rp.new hat z1 o1) (g.sf.new g.rp.B z1 o1) (by rw [zlen_new]; omega) (by rw [zsl_new]; omega)
  have q := k0.2 E p l e R s m args below meth c H' locs (cells + 1) (slots + n.toNat) n0 s0 Q ls g2 f
  rw [List.map_cons, zvR, zrf_ne g.rp.l0, ← hsz] at q
  exact q
theorem k_nwl {M : zM} {pc : Nat} {L : List (Nat × zV)} {st : List zV} {h : zH} {r : Option zV × zH} {n : Int} {h' : zH} (hd : decode M.2.1 pc = .ok (.newarray .long, 2)) (hw : Cond.arrayClass .long ∈ zGW) (e : z_nwA h 23 n = some h') (k0 : zK M (pc + 2) L ((2, (h.1.length : Int)) :: st) h' r) : zK M pc L ((0, n) :: st) h r := by
  unfold z_nwA at e
  obtain ⟨hn, e⟩ := z_io e
  cases e
  have k1 := k0.1
  rw [zlen_new, zsl_new] at k1
  refine ⟨⟨by omega, by omega⟩, fun E p l e R s m args below meth c H locs cells slots n0 s0 Q ls g f => ?_⟩
  obtain ⟨b1, b2, b3, b4⟩ := g.2.2.2.2.2.2.2
  have hn3 : zi32 n := g.cnS.head
  have hcl := zI_cl hn3
  have hsz : H.size = E.2.2.1 + h.1.length := g.rp.1
  have hcb : componentBytes (newarray.typeOf .long) ≤ 8 := by decide
  have h9 : n.toNat ≤ 100000 := by omega
  have hby : n.toNat * componentBytes (newarray.typeOf .long) ≤ 536870912 := Nat.le_trans (Nat.mul_le_mul h9 hcb) (by decide)
  rw [List.map_cons, zvI]
  refine va_newaK (N := n.toNat) (atype := .long) g.hx g.hb (g.hts _ hw) rfl hd rfl (by rw [zbl0 hn3]; omega) hcl hby (by omega) (by omega) rfl fun H' cA e1 z1 o1 hAr hNm => ?_
  have hA : cA = E.2.1 3 := by
    have h8 := (g.hK.2 3 _ rfl).2
    exact Option.some.inj (hNm.symm.trans h8)
  subst hA
  have hat : zat E (z_new h 23 n.toNat) h.1.length 23 n.toNat H' := by
    unfold zat
    rw [if_neg (by decide), ← hsz, e1]
    congr 2
    funext j
    show _ = zav E 23 (if h.1.length = h.1.length then 0 else _) (if h.1.length = h.1.length then 0 else _)
    rw [if_pos rfl, if_pos rfl]
    rfl
  have g2 := g.hp (st' := (2, (h.1.length : Int)) :: st) (cells' := cells + 1) (slots' := slots + n.toNat) (g.cnS.tail.cons (zcn_of g.rp.l0)) (g.rp.new hat z1 o1) (g.sf.new g.rp.B z1 o1) (by rw [zlen_new]; omega) (by rw [zsl_new]; omega)
  have q := k0.2 E p l e R s m args below meth c H' locs (cells + 1) (slots + n.toNat) n0 s0 Q ls g2 f
  rw [List.map_cons, zvR, zrf_ne g.rp.l0, ← hsz] at q
  exact q
theorem k_nwR {M : zM} {pc : Nat} {L : List (Nat × zV)} {st : List zV} {h : zH} {r : Option zV × zH} {n : Int} {i : Nat} {h' : zH} (hd : decode M.2.1 pc = .ok (.anewarray i, 3)) (hw : Cond.classLink M.1.cls i "ScopeLines$Rule" ∈ zGW) (e : z_nwA h 24 n = some h') (k0 : zK M (pc + 3) L ((2, (h.1.length : Int)) :: st) h' r) : zK M pc L ((0, n) :: st) h r := by
  unfold z_nwA at e
  obtain ⟨hn, e⟩ := z_io e
  cases e
  have k1 := k0.1
  rw [zlen_new, zsl_new] at k1
  refine ⟨⟨by omega, by omega⟩, fun E p l e R s m args below meth c H locs cells slots n0 s0 Q ls g f => ?_⟩
  obtain ⟨b1, b2, b3, b4⟩ := g.2.2.2.2.2.2.2
  have hn3 : zi32 n := g.cnS.head
  have hcl := zI_cl hn3
  have hsz : H.size = E.2.2.1 + h.1.length := g.rp.1
  rw [List.map_cons, zvI]
  refine W.anew g.hx g.hb g.own (g.hts _ hw) (va_AO.use g.hst.2.2.1.1) rfl hd rfl (by rw [zbl0 hn3]; omega) (by rw [hcl]; omega) (by omega) (by rw [hcl]; omega) fun cA kA comp f1 f2 f3 f4 => ?_
  rw [hcl]
  have hA : cA = E.2.1 4 := by
    obtain ⟨_, _, _, _, _, h8⟩ := (g.hK.2 4 _ rfl).2
    exact Option.some.inj (f1.symm.trans h8)
  subst hA
  generalize hH1 : H.push _ = H'
  have z1 : H'.size = H.size + 1 := by rw [← hH1, Array.size_push]
  have e1 : H'[H.size]? = some (arrV (E.2.1 4) n.toNat (fun _ => .null)) := by rw [← hH1, Array.getElem?_push_size, ← arrV_new]
  have o1 : ∀ q : Nat, q < H.size → H'[q]? = H[q]? := fun q hq => by rw [← hH1, Array.getElem?_push, if_neg (Nat.ne_of_lt hq)]
  have hat : zat E (z_new h 24 n.toNat) h.1.length 24 n.toNat H' := by
    unfold zat
    rw [if_neg (by decide), ← hsz, e1]
    congr 2
    funext j
    show _ = zav E 24 (if h.1.length = h.1.length then 0 else _) (if h.1.length = h.1.length then 0 else _)
    rw [if_pos rfl, if_pos rfl]
    rfl
  have g2 := g.hp (st' := (2, (h.1.length : Int)) :: st) (cells' := cells + 1) (slots' := slots + n.toNat) (g.cnS.tail.cons (zcn_of g.rp.l0)) (g.rp.new hat z1 o1) (g.sf.new g.rp.B z1 o1) (by rw [zlen_new]; omega) (by rw [zsl_new]; omega)
  have q := k0.2 E p l e R s m args below meth c H' locs (cells + 1) (slots + n.toNat) n0 s0 Q ls g2 f
  rw [List.map_cons, zvR, zrf_ne g.rp.l0, ← hsz] at q
  exact q
theorem k_nwL {M : zM} {pc : Nat} {L : List (Nat × zV)} {st : List zV} {h : zH} {r : Option zV × zH} {n : Int} {i : Nat} {h' : zH} (hd : decode M.2.1 pc = .ok (.anewarray i, 3)) (hw : Cond.classLink M.1.cls i "ScopeLines$Line" ∈ zGW) (e : z_nwA h 25 n = some h') (k0 : zK M (pc + 3) L ((2, (h.1.length : Int)) :: st) h' r) : zK M pc L ((0, n) :: st) h r := by
  unfold z_nwA at e
  obtain ⟨hn, e⟩ := z_io e
  cases e
  have k1 := k0.1
  rw [zlen_new, zsl_new] at k1
  refine ⟨⟨by omega, by omega⟩, fun E p l e R s m args below meth c H locs cells slots n0 s0 Q ls g f => ?_⟩
  obtain ⟨b1, b2, b3, b4⟩ := g.2.2.2.2.2.2.2
  have hn3 : zi32 n := g.cnS.head
  have hcl := zI_cl hn3
  have hsz : H.size = E.2.2.1 + h.1.length := g.rp.1
  rw [List.map_cons, zvI]
  refine W.anew g.hx g.hb g.own (g.hts _ hw) (va_AO.use g.hst.2.2.1.2) rfl hd rfl (by rw [zbl0 hn3]; omega) (by rw [hcl]; omega) (by omega) (by rw [hcl]; omega) fun cA kA comp f1 f2 f3 f4 => ?_
  rw [hcl]
  have hA : cA = E.2.1 5 := by
    obtain ⟨_, _, _, _, _, h8⟩ := (g.hK.2 5 _ rfl).2
    exact Option.some.inj (f1.symm.trans h8)
  subst hA
  generalize hH1 : H.push _ = H'
  have z1 : H'.size = H.size + 1 := by rw [← hH1, Array.size_push]
  have e1 : H'[H.size]? = some (arrV (E.2.1 5) n.toNat (fun _ => .null)) := by rw [← hH1, Array.getElem?_push_size, ← arrV_new]
  have o1 : ∀ q : Nat, q < H.size → H'[q]? = H[q]? := fun q hq => by rw [← hH1, Array.getElem?_push, if_neg (Nat.ne_of_lt hq)]
  have hat : zat E (z_new h 25 n.toNat) h.1.length 25 n.toNat H' := by
    unfold zat
    rw [if_neg (by decide), ← hsz, e1]
    congr 2
    funext j
    show _ = zav E 25 (if h.1.length = h.1.length then 0 else _) (if h.1.length = h.1.length then 0 else _)
    rw [if_pos rfl, if_pos rfl]
    rfl
  have g2 := g.hp (st' := (2, (h.1.length : Int)) :: st) (cells' := cells + 1) (slots' := slots + n.toNat) (g.cnS.tail.cons (zcn_of g.rp.l0)) (g.rp.new hat z1 o1) (g.sf.new g.rp.B z1 o1) (by rw [zlen_new]; omega) (by rw [zsl_new]; omega)
  have q := k0.2 E p l e R s m args below meth c H' locs (cells + 1) (slots + n.toNat) n0 s0 Q ls g2 f
  rw [List.map_cons, zvR, zrf_ne g.rp.l0, ← hsz] at q
  exact q
theorem k_rast24 {M : zM} {pc : Nat} {L : List (Nat × zV)} {st : List zV} {h : zH} {r : Option zV × zH} {c' x kr Nr : Nat} {Tr : u_T} {i : Int} {h' : zH} (hr : classes[kr]? = some ("ScopeLines$Rule", Tr, Nr)) (hr2 : kr < 20) (hd : decode M.2.1 pc = .ok (.aastore, 1)) (e : z_sR h 24 kr c' i x = some h') (k0 : zK M (pc + 1) L st h' r) : zK M pc L ((2, (x : Int)) :: (0, i) :: (2, (c' : Int)) :: st) h r := by
  obtain ⟨n, n2, hc, hx, hi, rfl⟩ := z_sR_of e
  refine ⟨k0.1, fun E p l e R s m args below meth c H locs cells slots n0 s0 Q ls g f => ?_⟩
  have hc0 := g.rp.c0 hc (by decide)
  have hx0 := g.rp.c0 hx (by omega)
  have ha := g.rp.arr hc (by decide) (by decide)
  have hi3 : zi32 i := g.cnS.tail.head
  obtain ⟨r', hr', cellV, q1, q2, q3, -⟩ := g.rp.ob hx hr2 hr 0 _ rfl
  have hcls := (g.hK.1 kr _ hr).2
  obtain ⟨kA, comp, u1, u2, u3, -⟩ := (g.hK.2 4 _ rfl).2
  have hcomp : comp = E.1.1 kr := Option.some.inj (u3.symm.trans hcls.1)
  subst hcomp
  obtain ⟨kC, hkC, hkC2⟩ := hcls.2
  rw [List.map_cons, List.map_cons, List.map_cons, zvR, zvR, zrf_ne hc0, zrf_ne hx0, zvI]
  refine W.aast g.hx g.hb ha (fun q h => by cases h) (fun h => by cases h) u1 u2 rfl hkC ⟨by rw [zbl0 hi3]; omega, by show _ < (arrV _ _ _).slots.size; rw [arrV_size, zI_cl hi3]; omega⟩ q1 (fun q h => by rw [q3] at h; cases h) (by rw [q2]; exact hkC) (by rw [q2]; exact va_assign ⟨hcls.1, kC, hkC, hkC2⟩) rfl rfl hd fun H' e1 z1 oq => ?_
  refine k0.2 E p l e R s m args below meth c H' _ cells slots n0 s0 Q ls (g.hp g.cnS.tail.tail.tail (g.rp.put hc (by decide) (fun a b hab => z_up_ne hab) (fun _ _ _ => rfl) ?_ (fun b => trivial) z1 oq) (g.sf.put hc0 z1 oq) g.2.2.2.2.2.2.2.1 g.2.2.2.2.2.2.2.2.1) f
  unfold zat
  rw [if_neg (by decide), e1, arrV_store, zI_cl hi3]
  congr 2
  funext b
  unfold updV
  by_cases hb : b = i.toNat
  · subst hb
    rw [if_pos rfl]
    show _ = zav E 24 (z_up h.2.1 c' i.toNat x c' i.toNat) _
    rw [z_up_eq]
    show _ = zrf E x
    rw [zrf_ne hx0]
  · rw [if_neg hb]
    show _ = zav E 24 (z_up h.2.1 c' i.toNat x c' b) _
    rw [z_up_nj hb]
theorem k_rast25 {M : zM} {pc : Nat} {L : List (Nat × zV)} {st : List zV} {h : zH} {r : Option zV × zH} {c' x kr Nr : Nat} {Tr : u_T} {i : Int} {h' : zH} (hr : classes[kr]? = some ("ScopeLines$Line", Tr, Nr)) (hr2 : kr < 20) (hd : decode M.2.1 pc = .ok (.aastore, 1)) (e : z_sR h 25 kr c' i x = some h') (k0 : zK M (pc + 1) L st h' r) : zK M pc L ((2, (x : Int)) :: (0, i) :: (2, (c' : Int)) :: st) h r := by
  obtain ⟨n, n2, hc, hx, hi, rfl⟩ := z_sR_of e
  refine ⟨k0.1, fun E p l e R s m args below meth c H locs cells slots n0 s0 Q ls g f => ?_⟩
  have hc0 := g.rp.c0 hc (by decide)
  have hx0 := g.rp.c0 hx (by omega)
  have ha := g.rp.arr hc (by decide) (by decide)
  have hi3 : zi32 i := g.cnS.tail.head
  obtain ⟨r', hr', cellV, q1, q2, q3, -⟩ := g.rp.ob hx hr2 hr 0 _ rfl
  have hcls := (g.hK.1 kr _ hr).2
  obtain ⟨kA, comp, u1, u2, u3, -⟩ := (g.hK.2 5 _ rfl).2
  have hcomp : comp = E.1.1 kr := Option.some.inj (u3.symm.trans hcls.1)
  subst hcomp
  obtain ⟨kC, hkC, hkC2⟩ := hcls.2
  rw [List.map_cons, List.map_cons, List.map_cons, zvR, zvR, zrf_ne hc0, zrf_ne hx0, zvI]
  refine W.aast g.hx g.hb ha (fun q h => by cases h) (fun h => by cases h) u1 u2 rfl hkC ⟨by rw [zbl0 hi3]; omega, by show _ < (arrV _ _ _).slots.size; rw [arrV_size, zI_cl hi3]; omega⟩ q1 (fun q h => by rw [q3] at h; cases h) (by rw [q2]; exact hkC) (by rw [q2]; exact va_assign ⟨hcls.1, kC, hkC, hkC2⟩) rfl rfl hd fun H' e1 z1 oq => ?_
  refine k0.2 E p l e R s m args below meth c H' _ cells slots n0 s0 Q ls (g.hp g.cnS.tail.tail.tail (g.rp.put hc (by decide) (fun a b hab => z_up_ne hab) (fun _ _ _ => rfl) ?_ (fun b => trivial) z1 oq) (g.sf.put hc0 z1 oq) g.2.2.2.2.2.2.2.1 g.2.2.2.2.2.2.2.2.1) f
  unfold zat
  rw [if_neg (by decide), e1, arrV_store, zI_cl hi3]
  congr 2
  funext b
  unfold updV
  by_cases hb : b = i.toNat
  · subst hb
    rw [if_pos rfl]
    show _ = zav E 25 (z_up h.2.1 c' i.toNat x c' i.toNat) _
    rw [z_up_eq]
    show _ = zrf E x
    rw [zrf_ne hx0]
  · rw [if_neg hb]
    show _ = zav E 25 (z_up h.2.1 c' i.toNat x c' b) _
    rw [z_up_nj hb]
theorem k_alen {M : zM} {pc : Nat} {L : List (Nat × zV)} {st : List zV} {h : zH} {r : Option zV × zH} {c' k : Nat} {x : Int} (hk : 20 ≤ k ∧ k < 26) (hd : decode M.2.1 pc = .ok (.arraylength, 1)) (e : z_len h k c' = some x) (k0 : zK M (pc + 1) L ((0, x) :: st) h r) : zK M pc L ((2, (c' : Int)) :: st) h r := by
  obtain ⟨n, hc, hx, rfl⟩ := z_len_of e
  refine ⟨k0.1, fun E p l e R s m args below meth c H locs cells slots n0 s0 Q ls g f => ?_⟩
  have hc0 := g.rp.c0 hc (by omega)
  have ha := g.rp.arr hc (by omega) (by omega)
  rw [List.map_cons, zvR, zrf_ne hc0]
  have hx3 : zi32 (n : Int) := by unfold zi32; omega
  have hsz : (arrV (E.2.1 (k - 20)) n fun j => zav E k (h.2.1 c' j) (h.2.2 c' j)).slots.size.toInt32 = Int32.ofInt (n : Int) := by
    rw [arrV_size]
    rfl
  have hq := zgo (st' := (0, (n : Int)) :: st) k0 g f (g.cnS.tail.cons hx3) rfl
  have key : ∀ (ty : FieldType), s.isArrayOf (arrV (E.2.1 (k - 20)) n fun j => zav E k (h.2.1 c' j) (h.2.2 c' j)) ty → W p l e R s m args below meth c H locs cells slots Q (F0 m pc ls (.ref (E.2.2.1 + c') :: st.map (zcv E))) := fun ty hty => W.alen g.hx g.hb ha hty hsz rfl rfl hd hq
  have hlt : k - 20 < (zTys E).length := by show k - 20 < 6; omega
  obtain ⟨q, hq⟩ : ∃ q, (zTys E)[k - 20]? = some q := ⟨_, List.getElem?_eq_getElem hlt⟩
  have hq1 : q.1 = E.2.1 (k - 20) := by
    have hk2 : k - 20 = 0 ∨ k - 20 = 1 ∨ k - 20 = 2 ∨ k - 20 = 3 ∨ k - 20 = 4 ∨ k - 20 = 5 := by omega
    rcases hk2 with h2 | h2 | h2 | h2 | h2 | h2 <;> (rw [h2] at hq ⊢; cases hq; rfl)
  have h8 := (g.hK.2 (k - 20) q hq).1 n (fun j => zav E k (h.2.1 c' j) (h.2.2 c' j))
  rw [hq1] at h8
  exact key _ h8
theorem k_sld {M : zM} {pc : Nat} {L : List (Nat × zV)} {st : List zV} {h : zH} {r : Option zV × zH} {i x : Int} (hd : decode M.2.1 pc = .ok (.iaload, 1)) (e : z_aI h 99 0 i = some x) (k0 : zK M (pc + 1) L ((0, x) :: st) h r) : zK M pc L ((0, i) :: (3, 0) :: st) h r := by
  obtain ⟨n, hc, hi, rfl⟩ := z_aI_of e
  refine ⟨k0.1, fun E p l e R s m args below meth c H locs cells slots n0 s0 Q ls g f => ?_⟩
  have hi3 : zi32 i := g.cnS.head
  have hn : n = E.2.2.2.2.2.1 := by
    have := hc.symm.trans g.rp.2.1
    simp at this
    exact this
  subst hn
  obtain ⟨-, -, -, h4, h5, h6, h7⟩ := g.hst
  have hx := h7 i.toNat (by omega)
  rw [g.rp.2.2.2.2.2.2 i.toNat (by omega)] at hx
  exact W.iald (v := .int (Int32.ofInt (h.2.2 0 i.toNat))) g.hx g.hb g.rp.2.2.2.2.1 h4 h5 (by rw [h6]; exact zin hi3 hi) (by rw [zI_cl hi3]; exact hx) rfl rfl hd (zgo k0 g f (g.cnS.tail.tail.cons (by have := g.rp.2.2.2.1 _ _ _ i.toNat hc; exact this)) rfl)
theorem k_slen {M : zM} {pc : Nat} {L : List (Nat × zV)} {st : List zV} {h : zH} {r : Option zV × zH} {x : Int} (hd : decode M.2.1 pc = .ok (.arraylength, 1)) (e : z_len h 99 0 = some x) (k0 : zK M (pc + 1) L ((0, x) :: st) h r) : zK M pc L ((3, 0) :: st) h r := by
  obtain ⟨n, hc, hx, rfl⟩ := z_len_of e
  refine ⟨k0.1, fun E p l e R s m args below meth c H locs cells slots n0 s0 Q ls g f => ?_⟩
  have hn : n = E.2.2.2.2.2.1 := by
    have := hc.symm.trans g.rp.2.1
    simp at this
    exact this
  subst hn
  obtain ⟨-, -, -, h4, h5, h6, h7⟩ := g.hst
  have hx3 : zi32 ((E.2.2.2.2.2.1 : Nat) : Int) := by unfold zi32; omega
  exact W.alen (n := Int32.ofInt (E.2.2.2.2.2.1 : Nat)) g.hx g.hb g.rp.2.2.2.2.1 h4 (by rw [h6]; rfl) rfl rfl hd (zgo k0 g f (g.cnS.tail.cons hx3) rfl)
theorem k_ret {M : zM} {pc : Nat} {L : List (Nat × zV)} {h : zH} (hd : decode M.2.1 pc = .ok (.return_, 1)) (ht : M.2.2.2.1 = none) : zK M pc L [] h (none, h) :=
  ⟨⟨Nat.le_refl _, Nat.le_refl _⟩, fun E p l e R s m args below meth c H locs cells slots n0 s0 Q ls g f => f pc ls H locs cells slots hd ht (fun v hv => by cases hv) g.rp g.sf g.2.2.2.2.2.2.2.1 g.2.2.2.2.2.2.2.2.1⟩
theorem k_iret {M : zM} {pc : Nat} {L : List (Nat × zV)} {h : zH} {x : Int} (hd : decode M.2.1 pc = .ok (.ireturn, 1)) (ht : M.2.2.2.1 = some .int) : zK M pc L [(0, x)] h (some (0, x), h) :=
  ⟨⟨Nat.le_refl _, Nat.le_refl _⟩, fun E p l e R s m args below meth c H locs cells slots n0 s0 Q ls g f => f pc ls H locs cells slots hd (Or.inl ⟨rfl, ht⟩) (fun v hv => by cases hv; exact g.cnS.head) g.rp g.sf g.2.2.2.2.2.2.2.1 g.2.2.2.2.2.2.2.2.1⟩
theorem k_zret {M : zM} {pc : Nat} {L : List (Nat × zV)} {h : zH} {x : Int} (hd : decode M.2.1 pc = .ok (.ireturn, 1)) (ht : M.2.2.2.1 = some .boolean) (hx : x = 0 ∨ x = 1) : zK M pc L [(0, x)] h (some (0, x), h) :=
  ⟨⟨Nat.le_refl _, Nat.le_refl _⟩, fun E p l e R s m args below meth c H locs cells slots n0 s0 Q ls g f => f pc ls H locs cells slots hd (Or.inr (Or.inl ⟨rfl, ht, hx⟩)) (fun v hv => by cases hv; exact g.cnS.head) g.rp g.sf g.2.2.2.2.2.2.2.1 g.2.2.2.2.2.2.2.2.1⟩
theorem k_cret {M : zM} {pc : Nat} {L : List (Nat × zV)} {h : zH} {x : Int} (hd : decode M.2.1 pc = .ok (.ireturn, 1)) (ht : M.2.2.2.1 = some .char) (hx : 0 ≤ x ∧ x < 65536) : zK M pc L [(0, x)] h (some (0, x), h) :=
  ⟨⟨Nat.le_refl _, Nat.le_refl _⟩, fun E p l e R s m args below meth c H locs cells slots n0 s0 Q ls g f => f pc ls H locs cells slots hd (Or.inr (Or.inr (Or.inr ⟨rfl, ht, hx⟩))) (fun v hv => by cases hv; exact g.cnS.head) g.rp g.sf g.2.2.2.2.2.2.2.1 g.2.2.2.2.2.2.2.2.1⟩
theorem k_aret {M : zM} {pc : Nat} {L : List (Nat × zV)} {h : zH} {x : Nat} {C : String} (hd : decode M.2.1 pc = .ok (.areturn, 1)) (ht : M.2.2.2.1 = some (.object C)) : zK M pc L [(2, (x : Int))] h (some (2, (x : Int)), h) :=
  ⟨⟨Nat.le_refl _, Nat.le_refl _⟩, fun E p l e R s m args below meth c H locs cells slots n0 s0 Q ls g f => f pc ls H locs cells slots hd (Or.inr (Or.inr (Or.inl ⟨rfl, C, ht⟩))) (fun v hv => by cases hv; exact g.cnS.head) g.rp g.sf g.2.2.2.2.2.2.2.1 g.2.2.2.2.2.2.2.2.1⟩
def zargs : Nat → List zV → List (Nat × zV)
  | _, [] => []
  | i, v :: vs => (i, v) :: zargs (if v.1 = 1 then i + 2 else i + 1) vs
theorem zcat2 (E : zE) (v : zV) : ((zcv E v).category = 2) ↔ v.1 = 1 := by
  have := zcat E v
  constructor
  · intro h
    rw [h] at this
    simpa using this.symm
  · intro h
    rw [h] at this
    simpa using this
theorem zargs_map (E : zE) : ∀ (i : Nat) (as : List zV), lv_args i (as.map (zcv E)) = (zargs i as).map fun q => (q.1, zcv E q.2)
  | i, [] => rfl
  | i, v :: vs => by
    show (i, zcv E v) :: lv_args (if (zcv E v).category = 2 then i + 2 else i + 1) (vs.map (zcv E)) = (i, zcv E v) :: (zargs (if v.1 = 1 then i + 2 else i + 1) vs).map _
    congr 1
    rw [zargs_map E]
    simp only [zcat2]
theorem zargs_cn : ∀ (i : Nat) (as : List zV), zcnS as → zcnL (zargs i as)
  | i, [], _ => fun q h => by cases h
  | i, v :: vs, ha => fun q h => by
    rcases List.mem_cons.mp h with rfl | h
    · exact ha.head
    · exact zargs_cn _ vs ha.tail q h
def zwd (as : List zV) : Nat := (as.map fun v => if v.1 = 1 then 2 else 1).sum
theorem zlen_sl (E : zE) : ∀ as : List zV, (lg_sl (as.map (zcv E))).length = zwd as
  | [] => rfl
  | v :: vs => by
    show ((if (zcv E v).category = 2 then _ else _) ++ lg_sl (vs.map (zcv E))).length = (if v.1 = 1 then 2 else 1) + zwd vs
    rw [List.length_append, zlen_sl E vs]
    congr 1
    by_cases h : v.1 = 1
    · rw [if_pos h, if_pos ((zcat2 E v).mpr h)]
      rfl
    · rw [if_neg h, if_neg (fun q => h ((zcat2 E v).mp q))]
      rfl
theorem zMt.of {M : zM} {as : List zV} {h : zH} {r : Option zV × zH} (hpl : plainName M.1.cls = true) (hwd : zwd as ≤ M.2.2.1) (k : zK M 0 (zargs 0 as) [] h r) : zMt M as h r := by
  refine ⟨k.1, fun hcn E l => ?_⟩
  refine Met.ofW (cc := M.2.1) (maxL := M.2.2.1) (ret := M.2.2.2.1) hpl rfl ?_
  intro p e s m args below meth c s₁ B hml hv
  obtain ⟨rfl, hR, hS⟩ := hv
  have hts := atoms_spec (ws := zws M) B.pre
  have hl := lv_entry (as.map (zcv E)) (n := M.2.2.1) (by rw [zlen_sl]; exact hwd)
  rw [lg_entry_eq]
  generalize (lg_sl (as.map (zcv E)) ++ List.replicate (M.2.2.1 - (lg_sl (as.map (zcv E))).length) Slot.unset).toArray = ls at hl ⊢
  rw [zargs_map] at hl
  have hnm : meth.name = M.1.name := (name_of_methodNamed B.named B.method).1
  refine k.2 E p l e _ s m _ below meth c s.heap [] 0 0 h.1.length (zsl h) _ ls ⟨⟨B.exec, B.bytes, B.returns, hml, findClass_of_methodNamed B.named, fun w hw => hts w (List.mem_cons_of_mem _ hw), hS, B.notSynchronized, fun h => hnm.trans h⟩, ⟨Nat.le_refl _, Nat.le_refl _⟩, hl, zargs_cn 0 as hcn, (fun v hv => by cases hv), hR, ⟨fun q _ => rfl, (fun l hl => by cases hl), Nat.le_refl _⟩, Nat.zero_add _, Nat.zero_add _, ?_, ?_⟩ ?_
  · show r.2.1.length ≤ r.2.1.length - h.1.length + h.1.length
    have := k.1.1
    omega
  · show zsl r.2 ≤ zsl r.2 - zsl h + zsl h
    have := k.1.2
    omega
  intro pc ls' H' locs' cells' slots' hd hrt hcnr hR' hS' e1 e2
  have e3 : cells' = r.2.1.length - h.1.length := by omega
  have e4 : slots' = zsl r.2 - zsl h := by omega
  subst e3
  subst e4
  have hlocks := B.notSynchronized
  have hret := B.returns
  have hq : ∀ t : State, t.heap = H' → s.WarmedH t.vm → zQc E r (as.map (zcv E)).toArray s (.returned (r.1.map (zcv E))) t := fun t ht hW => ⟨rfl, hcnr, by rw [ht]; exact hR', fun q hq => by rw [ht]; exact hS'.1 q hq, by rw [ht]; exact hS'.2.2⟩
  obtain ⟨o, h'⟩ := r
  cases o with
  | none => exact W.vret B.exec B.bytes (hret.trans hrt) hq hS'.2.1 hd
  | some v =>
    obtain ⟨t, x⟩ := v
    rcases hrt with ⟨rfl, hty⟩ | ⟨rfl, hty, hx⟩ | ⟨rfl, C, hty⟩ | ⟨rfl, hty, hx⟩
    · exact W.iret B.exec B.bytes (hret.trans hty) hq hS'.2.1 hd
    · exact W.zret (ty := .boolean) B.exec B.bytes (hret.trans hty) (by rcases hx with h | h <;> (cases h; rfl)) hq hS'.2.1 hd
    · refine W.aret (rt := .object C) (v := zcv E (2, x)) B.exec B.bytes (hret.trans hty) (Or.inl ⟨C, rfl⟩) ?_ hq hS'.2.1 hd
      show zrf E x.toNat = .null ∨ ∃ a, zrf E x.toNat = .ref a
      unfold zrf
      split
      · exact Or.inl rfl
      · exact Or.inr ⟨_, rfl⟩
    · exact W.zret (ty := .char) B.exec B.bytes (hret.trans hty) (by have hx : 0 ≤ x ∧ x < 65536 := hx; rw [znar_c, Int.emod_eq_of_lt hx.1 hx.2]) hq hS'.2.1 hd
/-- what a call needs of the tables; kind 0: a virtual one of an object of the class number kc, 1: static, 2: a constructor -/
def zCw (M M' : zM) (i kind kc n : Nat) : Prop :=
  (Cond.methodLink M.1.cls i M'.1 ∈ zGW ∨ ∃ host, Cond.methodLinkNest M.1.cls i M'.1 host ∈ zNW) ∧ Cond.code M'.1 M'.2.1 M'.2.2.1 M'.2.2.2.1 ∈ zGW ∧ Cond.initialized M'.1.cls ∈ zGW ∧ (M'.1.cls ≠ "java/lang/invoke/MethodHandle" ∧ M'.1.cls ≠ "java/lang/invoke/VarHandle" ∧ (parseMethodDescriptor M'.1.desc).map (fun d => d.parameters.length) = some n) ∧
  (M'.2.2.2.2.1 + 1 ≤ M.2.2.2.2.1 ∧ 8 + (M'.2.2.1 + 11) + M'.2.2.2.2.2 ≤ M.2.2.2.2.2) ∧
  (kind = 0 → Cond.instanceMethod M'.1 ∈ zGW ∧ Cond.selects M'.1.cls M'.1 M'.1 ∈ zGW ∧ kc < 20 ∧ ∃ T N, classes[kc]? = some (M'.1.cls, T, N)) ∧ (kind = 1 → Cond.static M'.1 ∈ zGW) ∧ (kind = 2 → M'.1.name = "<init>" ∧ M'.2.2.2.1 = none ∧ Cond.instanceMethod M'.1 ∈ zGW)
theorem zblind (E : zE) (as : List zV) (h : zH) : FrameBlind (zPc E as h) := fun a U g mk q => ⟨q.1, q.2.1, by
  obtain ⟨-, -, h1, h2, ⟨h3, h4⟩, h5⟩ := q
  exact ⟨va_K.moved (u := U) (U := U.calling g mk a) (Vm.Alike.refl U.vm) h1, fun w hw => va_Nw.same (u := U) (U := U.calling g mk a) (by have := zNW_nest w hw; cases w <;> first | rfl | cases this) rfl (h2 w hw), ⟨h3.moved (Vm.Alike.refl U.vm), h4.moved (Vm.Alike.refl U.vm)⟩, State.isArrayOf_alike (Vm.Alike.refl U.vm) h5.1, h5.2⟩⟩
theorem zcatS (E : zE) (rest : List zV) (h : zwd rest ≤ 8) : ((rest.map (zcv E)).map fun v => v.category).sum ≤ 8 := by
  have : ((rest.map (zcv E)).map fun v => v.category) = rest.map fun v => if v.1 = 1 then 2 else 1 := by
    rw [List.map_map]
    apply List.map_congr_left
    intro v _
    show (zcv E v).category = _
    by_cases hv : v.1 = 1
    · rw [if_pos hv]
      exact (zcat2 E v).mpr hv
    · rw [if_neg hv]
      rcases lv_cat (zcv E v) with h1 | h1
      · exact h1
      · exact absurd ((zcat2 E v).mp h1) hv
  rw [this]
  exact h
/-- behind a call -/
theorem zbk {M : zM} {E : zE} {p : Program} {l : Launch} {e : Env} {R : Room} {s : State} {m : MethodId} {args : Array Value} {below : List Frame} {meth : Method} {c : Code} {L : List (Nat × zV)} {st rest : List zV} {h : zH} {H : Heap} {locs : List Loc} {cells slots n0 s0 : Nat} {Q : State → Prop} {ls : Array Slot} {r r1 : Option zV × zH} {pc : Nat} {stv : List Value} {a : Array Value}
    (k : zK M (pc + 3) L (r1.1.toList ++ rest) r1.2 r) (g : zG M E p R s m args meth c L st h H locs cells slots n0 s0 ls r) (f : zF M E p l e R s m args below meth c n0 s0 Q r) (hm : h.1.length ≤ r1.2.1.length ∧ zsl h ≤ zsl r1.2) (hrest : zcnS rest)
    (hr : va_Run p l e R s m args below meth c H locs cells slots (r1.2.1.length - h.1.length) (zsl r1.2 - zsl h) (F0 m pc ls stv) (rest.map (zcv E)) (zQc E r1 a) (fun q => E.2.2.1 < q)) : W p l e R s m args below meth c H locs cells slots Q (F0 m pc ls stv) := by
  intro T hT X
  obtain ⟨v, st₀, t, T', L', h0, X', hL, e1, e2, ⟨hv, hcn, hRp, hlow, hsz⟩, st2⟩ := hr T hT X
  obtain ⟨b1, b2, b3, b4⟩ := g.2.2.2.2.2.2.2
  have hv : v = r1.1.map (zcv E) := Outcome.returned.inj hv
  subst hv
  have hcs : zcnS (r1.1.toList ++ rest) := by
    intro w hw
    rcases List.mem_append.mp hw with hw | hw
    · exact hcn w (by simpa using hw)
    · exact hrest w hw
  have g2 := g.hp (h' := r1.2) (H' := T'.heap) (locs' := locs ++ L') (cells' := cells + (r1.2.1.length - h.1.length)) (slots' := slots + (zsl r1.2 - zsl h)) hcs (by rw [e1]; exact hRp)
    ⟨fun q hq => by rw [e1, hlow q hq, h0]; exact g.sf.1 q hq, fun x hx => by
      rcases List.mem_append.mp hx with hx | hx
      · exact g.sf.2.1 x hx
      · exact hL x hx, by rw [e1]; exact Nat.le_trans g.sf.2.2 (by rw [← h0]; exact hsz)⟩ (by omega) (by omega)
  obtain ⟨t2, a1, a2⟩ := k.2 E p l e R s m args below meth c T'.heap _ _ _ n0 s0 Q ls g2 f T' rfl X'
  refine ⟨t2, st2 t2 ?_, a2⟩
  have e9 : (r1.1.toList ++ rest).map (zcv E) = (r1.1.map (zcv E)).toList ++ rest.map (zcv E) := by
    rw [List.map_append]
    congr 1
    cases r1.1 <;> rfl
  rw [e9] at a1
  exact a1
theorem k_callV {M M' : zM} {pc : Nat} {L : List (Nat × zV)} {rest as : List zV} {h : zH} {r r1 : Option zV × zH} {i kc n c' n2 : Nat} (hd : decode M.2.1 pc = .ok (.invokevirtual i, 3)) (hw : zCw M M' i 0 kc n) (hn : as.length = n) (hr8 : zwd rest ≤ 8) (hc : h.1[c']? = some (kc, n2)) (hM : zMt M' ((2, (c' : Int)) :: as) h r1) (k : zK M (pc + 3) L (r1.1.toList ++ rest) r1.2 r) : zK M pc L (as.reverse ++ (2, (c' : Int)) :: rest) h r := by
  obtain ⟨hlink, hcode, hini, hd3, hroom, hk0, hk1, hk2⟩ := hw
  have k1 := k.1
  refine ⟨⟨Nat.le_trans hM.1.1 k1.1, Nat.le_trans hM.1.2 k1.2⟩, fun E p l e R s m args below meth c H locs cells slots n0 s0 Q ls g f => ?_⟩
  obtain ⟨b1, b2, b3, b4⟩ := g.2.2.2.2.2.2.2
  have hro := hM.1
  have hfr : M'.2.2.2.2.1 + 1 ≤ R.frames ∧ 8 + (M'.2.2.1 + 11) + M'.2.2.2.2.2 ≤ R.locals := ⟨Nat.le_trans hroom.1 g.2.1.1, Nat.le_trans hroom.2 g.2.1.2⟩
  have hf : cells + (r1.2.1.length - h.1.length) ≤ R.cells ∧ slots + (zsl r1.2 - zsl h) ≤ R.slots := by omega
  have hS : CallFix p m c M.2.1 M.2.2.1 s args zGW M.1.cls := ⟨g.hx, g.hb, g.hml, g.own, g.hts⟩
  obtain ⟨hins, hsel, hkc, T, N, hcl⟩ := hk0 rfl
  have hc0 := g.rp.c0 hc (by omega)
  have hcnr : zcnS ((2, (c' : Int)) :: rest) := fun w hw => g.cnS w (List.mem_append_right _ hw)
  have hcna : zcnS ((2, (c' : Int)) :: as) := by
    intro w hw
    rcases List.mem_cons.mp hw with rfl | hw
    · exact hcnr.head
    · exact g.cnS w (List.mem_append_left _ (List.mem_reverse.mpr hw))
  have hMet := hM.2 hcna E l
  have hstk : (as.reverse ++ (2, (c' : Int)) :: rest).map (zcv E) = (as.map (zcv E)).reverse ++ .ref (E.2.2.1 + c') :: rest.map (zcv E) := by
    rw [List.map_append, List.map_cons, zvR, zrf_ne hc0, List.map_reverse]
  rw [hstk]
  have hav : ((2, (c' : Int)) :: as).map (zcv E) = .ref (E.2.2.1 + c') :: as.map (zcv E) := by rw [List.map_cons, zvR, zrf_ne hc0]
  have hp : PreV s H M'.1.cls (E.2.2.1 + c') (zPc E ((2, (c' : Int)) :: as) h) (as.map (zcv E)) := ⟨zblind _ _ _, va_recv (q0 := 0) g.hK (g.rp.ob hc hkc hcl) hcl rfl, fun U hU hW => ⟨by rw [hav], by rw [hU]; exact g.rp, g.hst.moved hW⟩⟩
  refine zbk (a := (Value.ref (E.2.2.1 + c') :: as.map (zcv E)).toArray) k g f hM.1 hcnr.tail ?_
  rcases hlink with hlink | ⟨host, hlink⟩
  · exact va_runV hS hMet ⟨callB_of n g.hts (zGood hcode) rfl rfl rfl (g.hts _ hini) (g.hts _ hlink) hd3 hfr, g.hts _ hins, g.hts _ hsel⟩ hp rfl (by rw [List.length_map]; exact hn) g.lv.1 rfl (lv_room (zcatS E rest hr8)) hd hf
  · exact va_runVN hS hMet ⟨va_cnB n g.hts (zGood hcode) rfl rfl rfl (g.hst.2.1 _ hlink) (g.hts _ hini) hd3 hfr, g.hts _ hins, g.hts _ hsel⟩ hp rfl (by rw [List.length_map]; exact hn) g.lv.1 rfl (lv_room (zcatS E rest hr8)) hd hf
theorem k_callS {M M' : zM} {pc : Nat} {L : List (Nat × zV)} {rest as : List zV} {h : zH} {r r1 : Option zV × zH} {i n : Nat} (hd : decode M.2.1 pc = .ok (.invokestatic i, 3)) (hw : zCw M M' i 1 0 n) (hn : as.length = n) (hr8 : zwd rest ≤ 8) (hM : zMt M' as h r1) (k : zK M (pc + 3) L (r1.1.toList ++ rest) r1.2 r) : zK M pc L (as.reverse ++ rest) h r := by
  obtain ⟨hlink, hcode, hini, hd3, hroom, hk0, hk1, hk2⟩ := hw
  have k1 := k.1
  refine ⟨⟨Nat.le_trans hM.1.1 k1.1, Nat.le_trans hM.1.2 k1.2⟩, fun E p l e R s m args below meth c H locs cells slots n0 s0 Q ls g f => ?_⟩
  obtain ⟨b1, b2, b3, b4⟩ := g.2.2.2.2.2.2.2
  have hro := hM.1
  have hfr : M'.2.2.2.2.1 + 1 ≤ R.frames ∧ 8 + (M'.2.2.1 + 11) + M'.2.2.2.2.2 ≤ R.locals := ⟨Nat.le_trans hroom.1 g.2.1.1, Nat.le_trans hroom.2 g.2.1.2⟩
  have hf : cells + (r1.2.1.length - h.1.length) ≤ R.cells ∧ slots + (zsl r1.2 - zsl h) ≤ R.slots := by omega
  have hS : CallFix p m c M.2.1 M.2.2.1 s args zGW M.1.cls := ⟨g.hx, g.hb, g.hml, g.own, g.hts⟩
  have hstat := hk1 rfl
  have hcna : zcnS as := fun w hw => g.cnS w (List.mem_append_left _ (List.mem_reverse.mpr hw))
  have hMet := hM.2 hcna E l
  have hstk : (as.reverse ++ rest).map (zcv E) = (as.map (zcv E)).reverse ++ rest.map (zcv E) := by rw [List.map_append, List.map_reverse]
  rw [hstk]
  have hp : PreS s H (zPc E as h) (as.map (zcv E)) := ⟨zblind _ _ _, fun U hU hW => ⟨rfl, by rw [hU]; exact g.rp, g.hst.moved hW⟩⟩
  refine zbk (a := (as.map (zcv E)).toArray) k g f hM.1 (fun w hw => g.cnS w (List.mem_append_right _ hw)) ?_
  rcases hlink with hlink | ⟨host, hlink⟩
  · exact va_runS hS hMet ⟨callB_of n g.hts (zGood hcode) rfl rfl rfl (g.hts _ hini) (g.hts _ hlink) hd3 hfr, g.hts _ hstat⟩ hp rfl (by rw [List.length_map]; exact hn) g.lv.1 rfl (lv_room (zcatS E rest hr8)) hd hf
  · exact va_runSN hS hMet ⟨va_cnB n g.hts (zGood hcode) rfl rfl rfl (g.hst.2.1 _ hlink) (g.hts _ hini) hd3 hfr, g.hts _ hstat, trivial⟩ hp rfl (by rw [List.length_map]; exact hn) g.lv.1 rfl (lv_room (zcatS E rest hr8)) hd hf
theorem k_callI {M M' : zM} {pc : Nat} {L : List (Nat × zV)} {rest as : List zV} {h : zH} {r r1 : Option zV × zH} {i n c' : Nat} (hd : decode M.2.1 pc = .ok (.invokespecial i, 3)) (hw : zCw M M' i 2 0 n) (hn : as.length = n) (hr8 : zwd rest ≤ 8) (hM : zMt M' ((2, (c' : Int)) :: as) h r1) (k : zK M (pc + 3) L (r1.1.toList ++ rest) r1.2 r) : zK M pc L (as.reverse ++ (2, (c' : Int)) :: rest) h r := by
  obtain ⟨hlink, hcode, hini, hd3, hroom, hk0, hk1, hk2⟩ := hw
  have k1 := k.1
  refine ⟨⟨Nat.le_trans hM.1.1 k1.1, Nat.le_trans hM.1.2 k1.2⟩, fun E p l e R s m args below meth c H locs cells slots n0 s0 Q ls g f => ?_⟩
  obtain ⟨b1, b2, b3, b4⟩ := g.2.2.2.2.2.2.2
  have hro := hM.1
  have hfr : M'.2.2.2.2.1 + 1 ≤ R.frames ∧ 8 + (M'.2.2.1 + 11) + M'.2.2.2.2.2 ≤ R.locals := ⟨Nat.le_trans hroom.1 g.2.1.1, Nat.le_trans hroom.2 g.2.1.2⟩
  have hf : cells + (r1.2.1.length - h.1.length) ≤ R.cells ∧ slots + (zsl r1.2 - zsl h) ≤ R.slots := by omega
  have hS : CallFix p m c M.2.1 M.2.2.1 s args zGW M.1.cls := ⟨g.hx, g.hb, g.hml, g.own, g.hts⟩
  obtain ⟨hnm, hret, hins⟩ := hk2 rfl
  have hcnr : zcnS ((2, (c' : Int)) :: rest) := fun w hw => g.cnS w (List.mem_append_right _ hw)
  have hc0 := zcn_ne hcnr.head
  have hcna : zcnS ((2, (c' : Int)) :: as) := by
    intro w hw
    rcases List.mem_cons.mp hw with rfl | hw
    · exact hcnr.head
    · exact g.cnS w (List.mem_append_left _ (List.mem_reverse.mpr hw))
  have hMet := hM.2 hcna E l
  have hstk : (as.reverse ++ (2, (c' : Int)) :: rest).map (zcv E) = (as.map (zcv E)).reverse ++ .ref (E.2.2.1 + c') :: rest.map (zcv E) := by
    rw [List.map_append, List.map_cons, zvR, zrf_ne hc0, List.map_reverse]
  rw [hstk]
  have hav : ((2, (c' : Int)) :: as).map (zcv E) = .ref (E.2.2.1 + c') :: as.map (zcv E) := by rw [List.map_cons, zvR, zrf_ne hc0]
  have hp : PreS s H (zPc E ((2, (c' : Int)) :: as) h) (.ref (E.2.2.1 + c') :: as.map (zcv E)) := ⟨zblind _ _ _, fun U hU hW => ⟨by rw [hav], by rw [hU]; exact g.rp, g.hst.moved hW⟩⟩
  have hG := zGood hcode
  have hw2 : zws M' = Cond.code M'.1 M'.2.1 M'.2.2.1 none :: zGW := by unfold zws; rw [hret]
  refine zbk (a := (Value.ref (E.2.2.1 + c') :: as.map (zcv E)).toArray) k g f hM.1 hcnr.tail ?_
  rcases hlink with hlink | ⟨host, hlink⟩
  · exact va_runI hS hMet ⟨callB_of n g.hts hG hw2 rfl rfl (g.hts _ hini) (g.hts _ hlink) hd3 hfr, hnm, g.hts _ hins⟩ hp rfl (by rw [List.length_map]; exact hn) g.lv.1 rfl (lv_room (zcatS E rest hr8)) hd hf
  · exact va_runIN hS hMet ⟨va_cnB n g.hts hG hw2 rfl rfl (g.hst.2.1 _ hlink) (g.hts _ hini) hd3 hfr, hnm, g.hts _ hins⟩ hp rfl (by rw [List.length_map]; exact hn) g.lv.1 rfl (lv_room (zcatS E rest hr8)) hd hf
theorem k_obj {M : zM} {pc : Nat} {L : List (Nat × zV)} {st : List zV} {h : zH} {r : Option zV × zH} {i c' : Nat} (hd : decode M.2.1 pc = .ok (.invokespecial i, 3)) (h1 : Cond.methodLink M.1.cls i objectInit ∈ zGW) (h2 : Cond.instanceMethod objectInit ∈ zGW) (h3 : Cond.code objectInit ⟨#[0xb1]⟩ 1 none ∈ zGW) (hfr : 1 ≤ M.2.2.2.2.1 ∧ 20 ≤ M.2.2.2.2.2) (hr8 : zwd st ≤ 8) (k0 : zK M (pc + 3) L st h r) : zK M pc L ((2, (c' : Int)) :: st) h r := by
  refine ⟨k0.1, fun E p l e R s m args below meth c H locs cells slots n0 s0 Q ls g f => ?_⟩
  have hc := zcn_ne g.cnS.head
  rw [List.map_cons, zvR, zrf_ne hc]
  have h8 := lv_room (m := m) (pc := pc) (ls := ls) (rest := .ref (E.2.2.1 + c') :: st.map (zcv E)) (zcatS E st hr8)
  exact W.objInit g.hx g.hb g.own (g.hts _ h1) (g.hts _ h2) (g.hts _ h3) rfl (by rw [g.hml]; exact g.lv.1) rfl hd (Nat.le_trans hfr.1 g.2.1.1) (by have := Nat.le_trans hfr.2 g.2.1.2; omega) (zgo k0 g f g.cnS.tail rfl)
theorem k_max {M : zM} {pc : Nat} {L : List (Nat × zV)} {st : List zV} {h : zH} {r : Option zV × zH} {i : Nat} {x y : Int} (hd : decode M.2.1 pc = .ok (.invokestatic i, 3)) (h1 : Cond.methodLink M.1.cls i Lib.Math.max.name ∈ zGW) (h2 : Cond.static Lib.Math.max.name ∈ zGW) (h3 : Cond.initialized "java/lang/Math" ∈ zGW) (h4 : Cond.code Lib.Math.max.name Lib.Math.max.code 2 (some .int) ∈ zGW) (hfr : 1 ≤ M.2.2.2.2.1 ∧ 21 ≤ M.2.2.2.2.2) (hr8 : zwd st ≤ 8) (k0 : zK M (pc + 3) L ((0, z_max x y) :: st) h r) : zK M pc L ((0, y) :: (0, x) :: st) h r := by
  refine ⟨k0.1, fun E p l e R s m args below meth c H locs cells slots n0 s0 Q ls g f => ?_⟩
  obtain ⟨b1, b2, b3, b4⟩ := g.2.2.2.2.2.2.2
  have k1 := k0.1
  have h8 := zcatS E st hr8
  have hl := Nat.le_trans hfr.2 g.2.1.2
  refine va_mmax (x := Int32.ofInt x) (y := Int32.ofInt y) g.hx g.hb (g.hml.trans g.lv.1.symm) g.own (g.hts _ h1) (g.hts _ h2) (g.hts _ h3) (g.hts _ h4) (Nat.le_trans hfr.1 g.2.1.1) (by omega) (by omega) (by omega) hd (zgo k0 g f (g.cnS.tail.tail.cons ?_) ?_)
  · unfold z_max
    split
    · exact g.cnS.head
    · exact g.cnS.tail.head
  · rw [List.map_cons, zvI]
    congr 2
    unfold z_max
    by_cases hxy : x < y
    · rw [if_pos hxy, if_pos ((zI_lt g.cnS.tail.head g.cnS.head).mpr hxy)]
    · rw [if_neg hxy, if_neg (fun q => hxy ((zI_lt g.cnS.tail.head g.cnS.head).mp q))]
theorem k_min {M : zM} {pc : Nat} {L : List (Nat × zV)} {st : List zV} {h : zH} {r : Option zV × zH} {i : Nat} {x y : Int} (hd : decode M.2.1 pc = .ok (.invokestatic i, 3)) (h1 : Cond.methodLink M.1.cls i Lib.Math.min.name ∈ zGW) (h2 : Cond.static Lib.Math.min.name ∈ zGW) (h3 : Cond.initialized "java/lang/Math" ∈ zGW) (h4 : Cond.code Lib.Math.min.name Lib.Math.min.code 2 (some .int) ∈ zGW) (hfr : 1 ≤ M.2.2.2.2.1 ∧ 21 ≤ M.2.2.2.2.2) (hr8 : zwd st ≤ 8) (k0 : zK M (pc + 3) L ((0, z_min x y) :: st) h r) : zK M pc L ((0, y) :: (0, x) :: st) h r := by
  refine ⟨k0.1, fun E p l e R s m args below meth c H locs cells slots n0 s0 Q ls g f => ?_⟩
  obtain ⟨b1, b2, b3, b4⟩ := g.2.2.2.2.2.2.2
  have k1 := k0.1
  have h8 := zcatS E st hr8
  have hl := Nat.le_trans hfr.2 g.2.1.2
  refine va_mmin (x := Int32.ofInt x) (y := Int32.ofInt y) g.hx g.hb (g.hml.trans g.lv.1.symm) g.own (g.hts _ h1) (g.hts _ h2) (g.hts _ h3) (g.hts _ h4) (Nat.le_trans hfr.1 g.2.1.1) (by omega) (by omega) (by omega) hd (zgo k0 g f (g.cnS.tail.tail.cons ?_) ?_)
  · unfold z_min
    split
    · exact g.cnS.head
    · exact g.cnS.tail.head
  · rw [List.map_cons, zvI]
    congr 2
    unfold z_min
    by_cases hxy : y < x
    · rw [if_pos hxy, if_pos ((zI_lt g.cnS.head g.cnS.tail.head).mpr hxy)]
    · rw [if_neg hxy, if_neg (fun q => hxy ((zI_lt g.cnS.head g.cnS.tail.head).mp q))]
theorem k_tabO {M : zM} {pc : Nat} {L : List (Nat × zV)} {st : List zV} {h : zH} {r : Option zV × zH} {x dflt lo hi : Int} {offs : Array Int} {len tgt : Nat} (hd : decode M.2.1 pc = .ok (.tableswitch dflt lo hi offs, len)) (hx : x < lo ∨ hi < x) (ht : (pc : Int) + dflt = (tgt : Int)) (k : zK M tgt L st h r) : zK M pc L ((0, x) :: st) h r :=
  ⟨k.1, fun E p l e R s m args below meth c H locs cells slots n0 s0 Q ls g f => lv_tableOut (x := Int32.ofInt x) g.hx g.hb hd (by rw [zI_to g.cnS.head]; exact hx) ht (zgo k g f g.cnS.tail rfl)⟩
theorem k_tabI {M : zM} {pc : Nat} {L : List (Nat × zV)} {st : List zV} {h : zH} {r : Option zV × zH} {x dflt lo hi off : Int} {offs : Array Int} {len tgt : Nat} (hd : decode M.2.1 pc = .ok (.tableswitch dflt lo hi offs, len)) (h1 : ¬ x < lo) (h2 : ¬ hi < x) (ho : offs[(x - lo).toNat]? = some off) (ht : (pc : Int) + off = (tgt : Int)) (k : zK M tgt L st h r) : zK M pc L ((0, x) :: st) h r :=
  ⟨k.1, fun E p l e R s m args below meth c H locs cells slots n0 s0 Q ls g f => lv_tableIn (x := Int32.ofInt x) g.hx g.hb hd (by rw [zI_to g.cnS.head]; exact h1) (by rw [zI_to g.cnS.head]; exact h2) (by rw [zI_to g.cnS.head]; exact ho) ht (zgo k g f g.cnS.tail rfl)⟩
theorem k_look {M : zM} {pc : Nat} {L : List (Nat × zV)} {st : List zV} {h : zH} {r : Option zV × zH} {x dflt off : Int} {ps : Array (Int × Int)} {len tgt : Nat} (hd : decode M.2.1 pc = .ok (.lookupswitch dflt ps, len)) (hp : (ps.toList.zip (ps.toList.drop 1)).all (fun (a, next) => a.1 < next.1) = true) (ho : Op.lookupswitch.offset ps.toList dflt x = off) (ht : (pc : Int) + off = (tgt : Int)) (k : zK M tgt L st h r) : zK M pc L ((0, x) :: st) h r :=
  ⟨k.1, fun E p l e R s m args below meth c H locs cells slots n0 s0 Q ls g f => lv_lookup (x := Int32.ofInt x) g.hx g.hb hd hp (by rw [zI_to g.cnS.head]; exact ho) ht (zgo k g f g.cnS.tail rfl)⟩
theorem k_lcmp {M : zM} {pc : Nat} {L : List (Nat × zV)} {st : List zV} {h : zH} {r : Option zV × zH} {x y : Int} (hd : decode M.2.1 pc = .ok (.lcmp, 1)) (k : zK M (pc + 1) L ((0, z_lcmp x y) :: st) h r) : zK M pc L ((1, y) :: (1, x) :: st) h r := by
  refine ⟨k.1, fun E p l e R s m args below meth c H locs cells slots n0 s0 Q ls g f => W.lcmp (x := Int64.ofInt x) (y := Int64.ofInt y) g.hx g.hb hd (zgo k g f (g.cnS.tail.tail.cons ?_) ?_)⟩
  · show zi32 _
    unfold z_lcmp zi32
    split
    · omega
    · split <;> omega
  · rw [List.map_cons, zvI]
    congr 2
    have hx : zi64 x := g.cnS.tail.head
    have hy : zi64 y := g.cnS.head
    unfold z_lcmp lg_cmp
    have e1 : (Int64.ofInt x > Int64.ofInt y) ↔ y < x := by rw [gt_iff_lt, Int64.lt_iff_toInt_lt, zL_to hx, zL_to hy]
    have e2 : (Int64.ofInt x = Int64.ofInt y) ↔ x = y := ⟨fun q => by rw [← zL_to hx, ← zL_to hy, q], fun q => by rw [q]⟩
    simp only [e1, e2]
    split
    · rfl
    · split <;> rfl
theorem k_idiv {M : zM} {pc : Nat} {L : List (Nat × zV)} {st : List zV} {h : zH} {r : Option zV × zH} {x y : Int} (hy : ¬ y = 0) (hd : decode M.2.1 pc = .ok (.idiv, 1)) (k : zK M (pc + 1) L ((0, zw (x.tdiv y)) :: st) h r) : zK M pc L ((0, y) :: (0, x) :: st) h r := by
  refine ⟨k.1, fun E p l e R s m args below meth c H locs cells slots n0 s0 Q ls g f => lv_idiv (x := Int32.ofInt x) (y := Int32.ofInt y) g.hx g.hb hd (fun q => hy ((zb0 g.cnS.head).mp q)) (zgo k g f (g.cnS.tail.tail.cons (zi_w _)) ?_)⟩
  rw [List.map_cons, zvI]
  congr 2
  apply Int32.toInt_inj.mp
  rw [Int32.toInt_div, zI_to (zi_w _), zI_to g.cnS.head, zI_to g.cnS.tail.head]
  try rfl
theorem k_irem {M : zM} {pc : Nat} {L : List (Nat × zV)} {st : List zV} {h : zH} {r : Option zV × zH} {x y : Int} (hy : ¬ y = 0) (hd : decode M.2.1 pc = .ok (.irem, 1)) (k : zK M (pc + 1) L ((0, zw (x - x.tdiv y * y)) :: st) h r) : zK M pc L ((0, y) :: (0, x) :: st) h r := by
  refine ⟨k.1, fun E p l e R s m args below meth c H locs cells slots n0 s0 Q ls g f => lv_irem (x := Int32.ofInt x) (y := Int32.ofInt y) g.hx g.hb hd (fun q => hy ((zb0 g.cnS.head).mp q)) (zgo k g f (g.cnS.tail.tail.cons (zi_w _)) ?_)⟩
  rw [List.map_cons, zvI]
  congr 2
  rw [zI_w, Int32.ofInt_sub, Int32.ofInt_mul]
  congr 2
  apply Int32.toInt_inj.mp
  rw [Int32.toInt_div, zI_to g.cnS.head, zI_to g.cnS.tail.head, Int32.toInt_ofInt]
  try rfl
theorem k_callVv {M M' : zM} {pc : Nat} {L : List (Nat × zV)} {rest as : List zV} {h h1 : zH} {r : Option zV × zH} {i kc n c' n2 : Nat} (hd : decode M.2.1 pc = .ok (.invokevirtual i, 3)) (hw : zCw M M' i 0 kc n) (hn : as.length = n) (hr8 : zwd rest ≤ 8) (hc : h.1[c']? = some (kc, n2)) (hM : zMt M' ((2, (c' : Int)) :: as) h (none, h1)) (k : zK M (pc + 3) L (rest) h1 r) : zK M pc L (as.reverse ++ (2, (c' : Int)) :: rest) h r := k_callV hd hw hn hr8 hc hM k
theorem k_callVi {M M' : zM} {pc : Nat} {L : List (Nat × zV)} {rest as : List zV} {h h1 : zH} {r : Option zV × zH} {x : Int} {i kc n c' n2 : Nat} (hd : decode M.2.1 pc = .ok (.invokevirtual i, 3)) (hw : zCw M M' i 0 kc n) (hn : as.length = n) (hr8 : zwd rest ≤ 8) (hc : h.1[c']? = some (kc, n2)) (hM : zMt M' ((2, (c' : Int)) :: as) h (some (0, x), h1)) (k : zK M (pc + 3) L ((0, x) :: rest) h1 r) : zK M pc L (as.reverse ++ (2, (c' : Int)) :: rest) h r := k_callV hd hw hn hr8 hc hM k
theorem k_callVr {M M' : zM} {pc : Nat} {L : List (Nat × zV)} {rest as : List zV} {h h1 : zH} {r : Option zV × zH} {x : Nat} {i kc n c' n2 : Nat} (hd : decode M.2.1 pc = .ok (.invokevirtual i, 3)) (hw : zCw M M' i 0 kc n) (hn : as.length = n) (hr8 : zwd rest ≤ 8) (hc : h.1[c']? = some (kc, n2)) (hM : zMt M' ((2, (c' : Int)) :: as) h (some (2, (x : Int)), h1)) (k : zK M (pc + 3) L ((2, (x : Int)) :: rest) h1 r) : zK M pc L (as.reverse ++ (2, (c' : Int)) :: rest) h r := k_callV hd hw hn hr8 hc hM k
theorem k_callSv {M M' : zM} {pc : Nat} {L : List (Nat × zV)} {rest as : List zV} {h h1 : zH} {r : Option zV × zH} {i n : Nat} (hd : decode M.2.1 pc = .ok (.invokestatic i, 3)) (hw : zCw M M' i 1 0 n) (hn : as.length = n) (hr8 : zwd rest ≤ 8) (hM : zMt M' as h (none, h1)) (k : zK M (pc + 3) L (rest) h1 r) : zK M pc L (as.reverse ++ rest) h r := k_callS hd hw hn hr8 hM k
theorem k_callSi {M M' : zM} {pc : Nat} {L : List (Nat × zV)} {rest as : List zV} {h h1 : zH} {r : Option zV × zH} {x : Int} {i n : Nat} (hd : decode M.2.1 pc = .ok (.invokestatic i, 3)) (hw : zCw M M' i 1 0 n) (hn : as.length = n) (hr8 : zwd rest ≤ 8) (hM : zMt M' as h (some (0, x), h1)) (k : zK M (pc + 3) L ((0, x) :: rest) h1 r) : zK M pc L (as.reverse ++ rest) h r := k_callS hd hw hn hr8 hM k
theorem k_callSr {M M' : zM} {pc : Nat} {L : List (Nat × zV)} {rest as : List zV} {h h1 : zH} {r : Option zV × zH} {x : Nat} {i n : Nat} (hd : decode M.2.1 pc = .ok (.invokestatic i, 3)) (hw : zCw M M' i 1 0 n) (hn : as.length = n) (hr8 : zwd rest ≤ 8) (hM : zMt M' as h (some (2, (x : Int)), h1)) (k : zK M (pc + 3) L ((2, (x : Int)) :: rest) h1 r) : zK M pc L (as.reverse ++ rest) h r := k_callS hd hw hn hr8 hM k
theorem k_callIv {M M' : zM} {pc : Nat} {L : List (Nat × zV)} {rest as : List zV} {h h1 : zH} {r : Option zV × zH} {i n c' : Nat} (hd : decode M.2.1 pc = .ok (.invokespecial i, 3)) (hw : zCw M M' i 2 0 n) (hn : as.length = n) (hr8 : zwd rest ≤ 8) (hM : zMt M' ((2, (c' : Int)) :: as) h (none, h1)) (k : zK M (pc + 3) L (rest) h1 r) : zK M pc L (as.reverse ++ (2, (c' : Int)) :: rest) h r := k_callI hd hw hn hr8 hM k
theorem k_callIi {M M' : zM} {pc : Nat} {L : List (Nat × zV)} {rest as : List zV} {h h1 : zH} {r : Option zV × zH} {x : Int} {i n c' : Nat} (hd : decode M.2.1 pc = .ok (.invokespecial i, 3)) (hw : zCw M M' i 2 0 n) (hn : as.length = n) (hr8 : zwd rest ≤ 8) (hM : zMt M' ((2, (c' : Int)) :: as) h (some (0, x), h1)) (k : zK M (pc + 3) L ((0, x) :: rest) h1 r) : zK M pc L (as.reverse ++ (2, (c' : Int)) :: rest) h r := k_callI hd hw hn hr8 hM k
theorem k_callIr {M M' : zM} {pc : Nat} {L : List (Nat × zV)} {rest as : List zV} {h h1 : zH} {r : Option zV × zH} {x : Nat} {i n c' : Nat} (hd : decode M.2.1 pc = .ok (.invokespecial i, 3)) (hw : zCw M M' i 2 0 n) (hn : as.length = n) (hr8 : zwd rest ≤ 8) (hM : zMt M' ((2, (c' : Int)) :: as) h (some (2, (x : Int)), h1)) (k : zK M (pc + 3) L ((2, (x : Int)) :: rest) h1 r) : zK M pc L (as.reverse ++ (2, (c' : Int)) :: rest) h r := k_callI hd hw hn hr8 hM k
