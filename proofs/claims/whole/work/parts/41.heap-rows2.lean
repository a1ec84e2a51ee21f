theorem zgetf {M : zM} {E : zE} {p : Program} {l : Launch} {e : Env} {R : Room} {s : State} {m : MethodId} {args : Array Value} {below : List Frame} {meth : Method} {c0 : Code} {L : List (Nat × zV)} {st : List zV} {h : zH} {H : Heap} {locs : List Loc} {cells slots n0 s0 : Nat} {Q : State → Prop} {ls : Array Slot} {r : Option zV × zH} {pc i k j c n : Nat} {ty : FieldType} {fin : Bool} {rest : List Value}
    (g : zG M E p R s m args meth c0 L st h H locs cells slots n0 s0 ls r) (hf : zFd M.1.cls i k j ty fin) (hc : h.1[c]? = some (k, n)) (hd : decode M.2.1 pc = .ok (.getfield i, 3))
    (kk : W p l e R s m args below meth c0 H locs cells slots Q (F0 m (pc + 3) ls (zfv E k j (h.2.1 c j) (h.2.2 c j) :: rest))) : W p l e R s m args below meth c0 H locs cells slots Q (F0 m pc ls (.ref (E.2.2.1 + c) :: rest)) := by
  obtain ⟨C, T, N, ⟨hk, hcl, hin, -, -⟩, hj, -, -, -, hlink⟩ := hf
  have hP := g.rp.ob hc hk hcl
  rcases hlink with hlink | ⟨host, hlink⟩
  · exact va_get g.hx g.hb g.hts hin g.own g.hK hP 0 rfl hcl j hj (g.hts _ hlink) (fun _ h => h) (zfs_at E h c k N hj) hd kk
  · exact va_getN g.hx g.hb g.hts hin g.own g.hK hP 0 rfl hcl j hj (va_Nw.use rfl (g.hst.2.1 _ hlink)) (fun _ h => h) (zfs_at E h c k N hj) hd kk
theorem zputf {M : zM} {E : zE} {p : Program} {l : Launch} {e : Env} {R : Room} {s : State} {m : MethodId} {args : Array Value} {below : List Frame} {meth : Method} {c0 : Code} {L : List (Nat × zV)} {st : List zV} {h : zH} {H : Heap} {locs : List Loc} {cells slots n0 s0 : Nat} {Q : State → Prop} {ls : Array Slot} {r : Option zV × zH} {pc i k j c n : Nat} {ty : FieldType} {fin : Bool} {rest : List Value} {v : Value} {ρ : Nat → Nat → Nat} {μ : Nat → Nat → Int}
    (g : zG M E p R s m args meth c0 L st h H locs cells slots n0 s0 ls r) (hf : zFd M.1.cls i k j ty fin) (hfin : fin = true → M.1.name = "<init>" ∧ ∃ T N, classes[k]? = some (M.1.cls, T, N)) (hc : h.1[c]? = some (k, n)) (hd : decode M.2.1 pc = .ok (.putfield i, 3))
    (h1 : ∀ a b, (a ≠ c ∨ b ≠ j) → ρ a b = h.2.1 a b) (h2 : ∀ a b, (a ≠ c ∨ b ≠ j) → μ a b = h.2.2 a b) (hv : zfv E k j (ρ c j) (μ c j) = v) (hn : narrow ty v = v) (hfit : fits ty v = true) (hok : zok (ztp k j) (μ c j))
    (kk : ∀ (H' : Heap) (locs' : List Loc), zRp E (h.1, ρ, μ) H' → zSf E s.heap H' locs' → W p l e R s m args below meth c0 H' locs' cells slots Q (F0 m (pc + 3) ls rest)) : W p l e R s m args below meth c0 H locs cells slots Q (F0 m pc ls (v :: .ref (E.2.2.1 + c) :: rest)) := by
  obtain ⟨C, T, N, ⟨hk, hcl, hin, ⟨ty0, hty⟩, hnm⟩, hj, hd0, hfn, hdecl, hlink⟩ := hf
  have hc0 := g.rp.c0 hc (by omega)
  have hap := va_apart (own := M.1.cls) g.hts hin ty0 hty hnm g.hK hcl
  have hz := g.rp.2.2.1 c k n hc0 hc
  unfold zat at hz
  rw [if_pos hk] at hz
  obtain ⟨r0, a1, a2, cell, q1, q2, q3, q4⟩ := hz
  have hr : r0 = (C, T, N) := Option.some.inj (a1.symm.trans hcl)
  subst hr
  obtain ⟨hS, hfc, kC, hkC, hkind⟩ := g.hK.1 k _ hcl
  obtain ⟨cf, kf, fi, f, hi, hsl⟩ := hS j hj
  have hst := (u_facts hfc hkC (u_lays g.hts hin hj) hi).1
  have hslt : f.slot < cell.slots.size := by rw [hsl]; exact k2_hasslot (q4 j hj)
  have fin2 : ∀ (H' : Heap), H'[E.2.2.1 + c]? = some (cell.setSlot f.slot v) → H'.size = H.size → (∀ q : Nat, q ≠ E.2.2.1 + c → H'[q]? = H[q]?) → W p l e R s m args below meth c0 H' (locs ++ [⟨E.2.2.1 + c, f.slot⟩]) cells slots Q (F0 m (pc + 3) ls rest) := by
    intro H' e1 z1 oq
    rw [hsl] at e1
    refine kk H' _ (g.rp.put hc (by omega) (fun a b ha => h1 a b (Or.inl ha)) (fun a b ha => h2 a b (Or.inl ha)) ?_ (fun b => ?_) z1 oq) (g.sf.put hc0 z1 oq)
    · unfold zat
      rw [if_pos hk]
      refine ⟨_, hcl, a2, _, e1, q2, q3, fun b hb => ?_⟩
      rw [t_set q4 hap hj v b hb]
      unfold updV
      by_cases hbj : b = j
      · subst hbj
        rw [if_pos rfl]
        exact congrArg some hv.symm
      · rw [if_neg hbj]
        show some (zfv E k b (h.2.1 c b) (h.2.2 c b)) = some (zfv E k b (ρ c b) (μ c b))
        rw [h1 c b (Or.inr hbj), h2 c b (Or.inr hbj)]
    · by_cases hbj : b = j
      · subst hbj
        exact hok
      · rw [h2 c b (Or.inr hbj)]
        exact g.rp.2.2.2.1 c k n b hc
  have hlay := g.hts _ (hin _ (u_in_lay hj))
  unfold u_lay at hlay
  cases fin with
  | false =>
    rw [if_neg (by rw [hfn]; decide)] at hlay
    have h6 := u_store hfc hkC hkind hlay hi hd0 hn hfit
    rcases hlink with hlink | ⟨host, hlink⟩
    · exact W.putK g.hx g.hb (f := f) ⟨g.own, g.hts _ hlink, ⟨_, _, _, hi⟩, hst⟩ (by rw [q2]; exact h6) q1 q3 hslt rfl rfl hd fin2
    · exact va_WputK g.hx g.hb (f := f) g.own (va_Nw.use rfl (g.hst.2.1 _ hlink)) hi hst (by rw [q2]; exact h6) q1 q3 hslt rfl rfl hd fin2
  | true =>
    rw [if_pos hfn] at hlay
    obtain ⟨hin2, T', N', hcl'⟩ := hfin rfl
    have hCe : C = M.1.cls := by
      have := Option.some.inj (hcl.symm.trans hcl')
      exact congrArg Prod.fst this
    have hcf : m.cls = cf := by
      obtain ⟨_, _, c', _, _, _, -, -, hf', -, -, -, hown2, -⟩ := Cond.laysFinal_spec hlay
      have e1 : c' = cf := by have := hi.symm.trans hf'; simp at this; exact this.1.symm
      rw [hdecl, hCe] at hown2
      rw [← e1]; exact Option.some.inj (g.own.symm.trans hown2)
    have h6 := u_fits hfc hkC hkind (Or.inr hlay) hi hd0 hn hfit
    rcases hlink with hlink | ⟨host, hlink⟩
    · exact W.putFinK g.hx g.hb g.own (g.hts _ hlink) hi hst hcf (g.nm hin2) (by rw [q2]; exact h6) q1 q3 hslt rfl rfl hd fin2
    · exact va_Wputf g.hx g.hb g.own (va_Nw.use rfl (g.hst.2.1 _ hlink)) hi hst (Or.inr ⟨hcf, g.nm hin2⟩) q1 (by rw [q3]; exact fun h => by cases h) hslt h6.1 (by rw [q3, q2]; exact h6.2) rfl rfl hd (by
        have hl : E.2.2.1 + c < H.size := g.rp.sz hc
        exact fin2 _ (by simp [Array.getElem?_setIfInBounds, hl]) (by simp) (fun q hq => by simp [Array.getElem?_setIfInBounds, Ne.symm hq]))
theorem znar {E : zE} {ty : FieldType} (hty : (∃ n, ty = .object n) ∨ ∃ t, ty = .array t) (x : Nat) : narrow ty (zcv E (2, (x : Int))) = zcv E (2, (x : Int)) := by
  rw [zvR]
  unfold zrf
  rcases hty with ⟨n, rfl⟩ | ⟨t, rfl⟩ <;> split <;> rfl
theorem zfit {E : zE} {ty : FieldType} (hty : (∃ n, ty = .object n) ∨ ∃ t, ty = .array t) (x : Nat) : fits ty (zcv E (2, (x : Int))) = true := by
  rw [zvR]
  unfold zrf
  rcases hty with ⟨n, rfl⟩ | ⟨t, rfl⟩ <;> split <;> rfl
theorem znar_c (x : Int) : narrow .char (.int (Int32.ofInt x)) = Value.int (Int32.ofInt (x % 65536)) := by
  show Value.int ((Int32.ofInt x).toUInt32.toUInt16.toUInt32.toInt32) = _
  congr 1
  rw [← zi2c]
  apply Int32.toBitVec_inj.mp
  apply BitVec.eq_of_toNat_eq
  simp
theorem znar_z (x : Int) : narrow .boolean (.int (Int32.ofInt x)) = Value.int (Int32.ofInt (x % 2)) := by
  show Value.int (Int32.ofInt x &&& 1) = _
  congr 1
  apply Int32.toBitVec_inj.mp
  apply BitVec.eq_of_toNat_eq
  simp
  omega
theorem k_getI {M : zM} {pc : Nat} {L : List (Nat × zV)} {st : List zV} {h : zH} {r : Option zV × zH} {i k j c' : Nat} {ty : FieldType} {fin : Bool} {x : Int} (hd : decode M.2.1 pc = .ok (.getfield i, 3)) (hf : zFd M.1.cls i k j ty fin) (ht : zty k j = 0) (e : z_gI h k c' j = some x) (k0 : zK M (pc + 3) L ((0, x) :: st) h r) : zK M pc L ((2, (c' : Int)) :: st) h r := by
  obtain ⟨n, hc, rfl⟩ := z_gI_of e
  have hk := zhas hf
  refine ⟨k0.1, fun E p l e R s m args below meth c H locs cells slots n0 s0 Q ls g f => ?_⟩
  have hc0 := g.rp.c0 hc (by omega)
  rw [List.map_cons, zvR, zrf_ne hc0]
  refine zgetf g hf hc hd (zgo k0 g f (g.cnS.tail.cons (by have := g.rp.2.2.2.1 _ _ _ j hc; unfold ztp at this; rw [if_pos hk, ht] at this; exact this)) ?_)
  rw [List.map_cons]
  congr 1
  unfold zfv
  rw [ht]
  rfl
theorem k_getL {M : zM} {pc : Nat} {L : List (Nat × zV)} {st : List zV} {h : zH} {r : Option zV × zH} {i k j c' : Nat} {ty : FieldType} {fin : Bool} {x : Int} (hd : decode M.2.1 pc = .ok (.getfield i, 3)) (hf : zFd M.1.cls i k j ty fin) (ht : zty k j = 1) (e : z_gI h k c' j = some x) (k0 : zK M (pc + 3) L ((1, x) :: st) h r) : zK M pc L ((2, (c' : Int)) :: st) h r := by
  obtain ⟨n, hc, rfl⟩ := z_gI_of e
  have hk := zhas hf
  refine ⟨k0.1, fun E p l e R s m args below meth c H locs cells slots n0 s0 Q ls g f => ?_⟩
  have hc0 := g.rp.c0 hc (by omega)
  rw [List.map_cons, zvR, zrf_ne hc0]
  refine zgetf g hf hc hd (zgo k0 g f (g.cnS.tail.cons (by have := g.rp.2.2.2.1 _ _ _ j hc; unfold ztp at this; rw [if_pos hk, ht] at this; exact this)) ?_)
  rw [List.map_cons]
  congr 1
  unfold zfv
  rw [ht]
  rfl
theorem k_getR {M : zM} {pc : Nat} {L : List (Nat × zV)} {st : List zV} {h : zH} {r : Option zV × zH} {i k j c' : Nat} {ty : FieldType} {fin : Bool} {x : Nat} (hd : decode M.2.1 pc = .ok (.getfield i, 3)) (hf : zFd M.1.cls i k j ty fin) (ht : zty k j = 2) (e : z_gR h k c' j = some x) (k0 : zK M (pc + 3) L ((2, (x : Int)) :: st) h r) : zK M pc L ((2, (c' : Int)) :: st) h r := by
  obtain ⟨n, hc, hx0, rfl⟩ := z_gR_of e
  have hk := zhas hf
  refine ⟨k0.1, fun E p l e R s m args below meth c H locs cells slots n0 s0 Q ls g f => ?_⟩
  have hc0 := g.rp.c0 hc (by omega)
  rw [List.map_cons, zvR, zrf_ne hc0]
  refine zgetf g hf hc hd (zgo k0 g f (g.cnS.tail.cons (zcn_of hx0)) ?_)
  rw [List.map_cons]
  congr 1
  unfold zfv
  rw [ht]
  rfl
theorem k_putI {M : zM} {pc : Nat} {L : List (Nat × zV)} {st : List zV} {h : zH} {r : Option zV × zH} {i k j c' : Nat} {fin : Bool} {x : Int} {h' : zH}  (hd : decode M.2.1 pc = .ok (.putfield i, 3)) (hf : zFd M.1.cls i k j .int fin) (hfin : fin = true → M.1.name = "<init>" ∧ ∃ T N, classes[k]? = some (M.1.cls, T, N)) (ht : zty k j = 0) (e : z_pI h k c' j x = some h') (k0 : zK M (pc + 3) L st h' r) : zK M pc L ((0, x) :: (2, (c' : Int)) :: st) h r := by
  obtain ⟨n, hc, rfl⟩ := z_pI_of e
  have hk := zhas hf
  refine ⟨k0.1, fun E p l e R s m args below meth c H locs cells slots n0 s0 Q ls g f => ?_⟩
  have hc0 := g.rp.c0 hc (by omega)
  rw [List.map_cons, List.map_cons, zvR E c', zrf_ne hc0]
  have hcx : zcn (0, x) := g.cnS.head
  refine zputf (ρ := h.2.1) (μ := z_up h.2.2 c' j x) g hf hfin hc hd ?_ ?_ ?_ rfl rfl ?_ (fun H' locs' hr hs => k0.2 E p l e R s m args below meth c H' locs' cells slots n0 s0 Q ls (g.hp g.cnS.tail.tail hr hs g.2.2.2.2.2.2.2.1 g.2.2.2.2.2.2.2.2.1) f)
  · intro a b hab
    rfl
  · intro a b hab
    exact if_neg (fun q => hab.elim (fun z => z q.1) (fun z => z q.2))
  · unfold zfv
    rw [ht]
    rw [z_up_eq]; rfl
  · unfold ztp; rw [if_pos hk, ht, z_up_eq]; exact hcx
theorem k_putL {M : zM} {pc : Nat} {L : List (Nat × zV)} {st : List zV} {h : zH} {r : Option zV × zH} {i k j c' : Nat} {fin : Bool} {x : Int} {h' : zH}  (hd : decode M.2.1 pc = .ok (.putfield i, 3)) (hf : zFd M.1.cls i k j .long fin) (hfin : fin = true → M.1.name = "<init>" ∧ ∃ T N, classes[k]? = some (M.1.cls, T, N)) (ht : zty k j = 1) (e : z_pI h k c' j x = some h') (k0 : zK M (pc + 3) L st h' r) : zK M pc L ((1, x) :: (2, (c' : Int)) :: st) h r := by
  obtain ⟨n, hc, rfl⟩ := z_pI_of e
  have hk := zhas hf
  refine ⟨k0.1, fun E p l e R s m args below meth c H locs cells slots n0 s0 Q ls g f => ?_⟩
  have hc0 := g.rp.c0 hc (by omega)
  rw [List.map_cons, List.map_cons, zvR E c', zrf_ne hc0]
  have hcx : zcn (1, x) := g.cnS.head
  refine zputf (ρ := h.2.1) (μ := z_up h.2.2 c' j x) g hf hfin hc hd ?_ ?_ ?_ rfl rfl ?_ (fun H' locs' hr hs => k0.2 E p l e R s m args below meth c H' locs' cells slots n0 s0 Q ls (g.hp g.cnS.tail.tail hr hs g.2.2.2.2.2.2.2.1 g.2.2.2.2.2.2.2.2.1) f)
  · intro a b hab
    rfl
  · intro a b hab
    exact if_neg (fun q => hab.elim (fun z => z q.1) (fun z => z q.2))
  · unfold zfv
    rw [ht]
    rw [z_up_eq]; rfl
  · unfold ztp; rw [if_pos hk, ht, z_up_eq]; exact hcx
theorem k_putZ {M : zM} {pc : Nat} {L : List (Nat × zV)} {st : List zV} {h : zH} {r : Option zV × zH} {i k j c' : Nat} {fin : Bool} {x : Int} {h' : zH}  (hd : decode M.2.1 pc = .ok (.putfield i, 3)) (hf : zFd M.1.cls i k j .boolean fin) (hfin : fin = true → M.1.name = "<init>" ∧ ∃ T N, classes[k]? = some (M.1.cls, T, N)) (ht : zty k j = 0) (e : z_pZ h k c' j x = some h') (k0 : zK M (pc + 3) L st h' r) : zK M pc L ((0, x) :: (2, (c' : Int)) :: st) h r := by
  unfold z_pZ at e
  obtain ⟨hx, e⟩ := z_io e
  obtain ⟨n, hc, rfl⟩ := z_pI_of e
  have hk := zhas hf
  refine ⟨k0.1, fun E p l e R s m args below meth c H locs cells slots n0 s0 Q ls g f => ?_⟩
  have hc0 := g.rp.c0 hc (by omega)
  rw [List.map_cons, List.map_cons, zvR E c', zrf_ne hc0]
  have hcx : zcn (0, x) := g.cnS.head
  refine zputf (ρ := h.2.1) (μ := z_up h.2.2 c' j x) g hf hfin hc hd ?_ ?_ ?_ (by rcases hx with rfl | rfl <;> rfl) (by rcases hx with rfl | rfl <;> rfl) ?_ (fun H' locs' hr hs => k0.2 E p l e R s m args below meth c H' locs' cells slots n0 s0 Q ls (g.hp g.cnS.tail.tail hr hs g.2.2.2.2.2.2.2.1 g.2.2.2.2.2.2.2.2.1) f)
  · intro a b hab
    rfl
  · intro a b hab
    exact if_neg (fun q => hab.elim (fun z => z q.1) (fun z => z q.2))
  · unfold zfv
    rw [ht]
    rw [z_up_eq]; rfl
  · unfold ztp; rw [if_pos hk, ht, z_up_eq]; exact hcx
theorem k_putR {M : zM} {pc : Nat} {L : List (Nat × zV)} {st : List zV} {h : zH} {r : Option zV × zH} {i k j c' : Nat} {fin : Bool} {x : Nat} {h' : zH} {ty : FieldType} (hty : (∃ n, ty = .object n) ∨ ∃ t, ty = .array t) (hd : decode M.2.1 pc = .ok (.putfield i, 3)) (hf : zFd M.1.cls i k j ty fin) (hfin : fin = true → M.1.name = "<init>" ∧ ∃ T N, classes[k]? = some (M.1.cls, T, N)) (ht : zty k j = 2) (e : z_pR h k c' j x = some h') (k0 : zK M (pc + 3) L st h' r) : zK M pc L ((2, (x : Int)) :: (2, (c' : Int)) :: st) h r := by
  obtain ⟨n, hc, rfl⟩ := z_pR_of e
  have hk := zhas hf
  refine ⟨k0.1, fun E p l e R s m args below meth c H locs cells slots n0 s0 Q ls g f => ?_⟩
  have hc0 := g.rp.c0 hc (by omega)
  rw [List.map_cons, List.map_cons, zvR E c', zrf_ne hc0]
  have hcx : zcn (2, (x : Int)) := g.cnS.head
  refine zputf (ρ := z_up h.2.1 c' j x) (μ := h.2.2) g hf hfin hc hd ?_ ?_ ?_ (znar hty x) (zfit hty x) ?_ (fun H' locs' hr hs => k0.2 E p l e R s m args below meth c H' locs' cells slots n0 s0 Q ls (g.hp g.cnS.tail.tail hr hs g.2.2.2.2.2.2.2.1 g.2.2.2.2.2.2.2.2.1) f)
  · intro a b hab
    exact if_neg (fun q => hab.elim (fun z => z q.1) (fun z => z q.2))
  · intro a b hab
    rfl
  · unfold zfv
    rw [ht]
    rw [z_up_eq]; rfl
  · unfold ztp; rw [if_pos hk, ht]; trivial
theorem k_iald {M : zM} {pc : Nat} {L : List (Nat × zV)} {st : List zV} {h : zH} {r : Option zV × zH} {c' : Nat} {i : Int} {x : Int} (hd : decode M.2.1 pc = .ok (.iaload, 1)) (e : z_aI h 20 c' i = some x) (k0 : zK M (pc + 1) L ((0, x) :: st) h r) : zK M pc L ((0, i) :: (2, (c' : Int)) :: st) h r := by
  obtain ⟨n, hc, hi, rfl⟩ := z_aI_of e
  refine ⟨k0.1, fun E p l e R s m args below meth c H locs cells slots n0 s0 Q ls g f => ?_⟩
  have hc0 := g.rp.c0 hc (by decide)
  have ha := g.rp.arr hc (by decide) (by decide)
  have hi3 : zi32 i := g.cnS.head
  rw [List.map_cons, List.map_cons, zvR, zrf_ne hc0, zvI]
  refine W.iald g.hx g.hb ha ((g.hK.2 0 _ rfl).1 n _) (fun q => by cases q) (by rw [arrV_size]; exact zin hi3 hi) (v := zcv E (0, h.2.2 c' i.toNat)) ?_ rfl rfl hd (zgo k0 g f (g.cnS.tail.tail.cons (by have := g.rp.2.2.2.1 _ _ _ i.toNat hc; exact this)) rfl)
  rw [arrV_read _ _ (by rw [zI_cl hi3]; omega), zI_cl hi3]
  rfl
theorem k_cald {M : zM} {pc : Nat} {L : List (Nat × zV)} {st : List zV} {h : zH} {r : Option zV × zH} {c' : Nat} {i : Int} {x : Int} (hd : decode M.2.1 pc = .ok (.caload, 1)) (e : z_aI h 21 c' i = some x) (k0 : zK M (pc + 1) L ((0, x) :: st) h r) : zK M pc L ((0, i) :: (2, (c' : Int)) :: st) h r := by
  obtain ⟨n, hc, hi, rfl⟩ := z_aI_of e
  refine ⟨k0.1, fun E p l e R s m args below meth c H locs cells slots n0 s0 Q ls g f => ?_⟩
  have hc0 := g.rp.c0 hc (by decide)
  have ha := g.rp.arr hc (by decide) (by decide)
  have hi3 : zi32 i := g.cnS.head
  rw [List.map_cons, List.map_cons, zvR, zrf_ne hc0, zvI]
  refine W.cald g.hx g.hb ha ((g.hK.2 1 _ rfl).1 n _) (fun q => by cases q) (by rw [arrV_size]; exact zin hi3 hi) (v := zcv E (0, h.2.2 c' i.toNat)) ?_ rfl rfl hd (zgo k0 g f (g.cnS.tail.tail.cons (by have := g.rp.2.2.2.1 _ _ _ i.toNat hc; have h9 : 0 ≤ h.2.2 c' i.toNat ∧ h.2.2 c' i.toNat < 65536 := this; show zi32 _; unfold zi32; omega)) rfl)
  rw [arrV_read _ _ (by rw [zI_cl hi3]; omega), zI_cl hi3]
  rfl
theorem k_zald {M : zM} {pc : Nat} {L : List (Nat × zV)} {st : List zV} {h : zH} {r : Option zV × zH} {c' : Nat} {i : Int} {x : Int} (hd : decode M.2.1 pc = .ok (.baload, 1)) (e : z_aI h 22 c' i = some x) (k0 : zK M (pc + 1) L ((0, x) :: st) h r) : zK M pc L ((0, i) :: (2, (c' : Int)) :: st) h r := by
  obtain ⟨n, hc, hi, rfl⟩ := z_aI_of e
  refine ⟨k0.1, fun E p l e R s m args below meth c H locs cells slots n0 s0 Q ls g f => ?_⟩
  have hc0 := g.rp.c0 hc (by decide)
  have ha := g.rp.arr hc (by decide) (by decide)
  have hi3 : zi32 i := g.cnS.head
  rw [List.map_cons, List.map_cons, zvR, zrf_ne hc0, zvI]
  refine W.zald g.hx g.hb ha ((g.hK.2 2 _ rfl).1 n _) (fun q => by cases q) (by rw [arrV_size]; exact zin hi3 hi) (v := zcv E (0, h.2.2 c' i.toNat)) ?_ rfl rfl hd (zgo k0 g f (g.cnS.tail.tail.cons (by have := g.rp.2.2.2.1 _ _ _ i.toNat hc; exact this)) rfl)
  rw [arrV_read _ _ (by rw [zI_cl hi3]; omega), zI_cl hi3]
  rfl
theorem k_lald {M : zM} {pc : Nat} {L : List (Nat × zV)} {st : List zV} {h : zH} {r : Option zV × zH} {c' : Nat} {i : Int} {x : Int} (hd : decode M.2.1 pc = .ok (.laload, 1)) (e : z_aI h 23 c' i = some x) (k0 : zK M (pc + 1) L ((1, x) :: st) h r) : zK M pc L ((0, i) :: (2, (c' : Int)) :: st) h r := by
  obtain ⟨n, hc, hi, rfl⟩ := z_aI_of e
  refine ⟨k0.1, fun E p l e R s m args below meth c H locs cells slots n0 s0 Q ls g f => ?_⟩
  have hc0 := g.rp.c0 hc (by decide)
  have ha := g.rp.arr hc (by decide) (by decide)
  have hi3 : zi32 i := g.cnS.head
  rw [List.map_cons, List.map_cons, zvR, zrf_ne hc0, zvI]
  refine W.lald g.hx g.hb ha ((g.hK.2 3 _ rfl).1 n _) (fun q => by cases q) (by rw [arrV_size]; exact zin hi3 hi) (v := zcv E (1, h.2.2 c' i.toNat)) ?_ rfl rfl hd (zgo k0 g f (g.cnS.tail.tail.cons (by have := g.rp.2.2.2.1 _ _ _ i.toNat hc; exact this)) rfl)
  rw [arrV_read _ _ (by rw [zI_cl hi3]; omega), zI_cl hi3]
  rfl
theorem k_rald24 {M : zM} {pc : Nat} {L : List (Nat × zV)} {st : List zV} {h : zH} {r : Option zV × zH} {c' : Nat} {i : Int} {x : Nat} (hd : decode M.2.1 pc = .ok (.aaload, 1)) (e : z_aR h 24 c' i = some x) (k0 : zK M (pc + 1) L ((2, (x : Int)) :: st) h r) : zK M pc L ((0, i) :: (2, (c' : Int)) :: st) h r := by
  obtain ⟨n, hc, hi, hx0, rfl⟩ := z_aR_of e
  refine ⟨k0.1, fun E p l e R s m args below meth c H locs cells slots n0 s0 Q ls g f => ?_⟩
  have hc0 := g.rp.c0 hc (by decide)
  have ha := g.rp.arr hc (by decide) (by decide)
  have hi3 : zi32 i := g.cnS.head
  rw [List.map_cons, List.map_cons, zvR, zrf_ne hc0, zvI]
  refine W.aald (ty := .object "ScopeLines$Rule") g.hx g.hb ha ((g.hK.2 4 _ rfl).1 n _) rfl (fun q => by cases q) (by rw [arrV_size]; exact zin hi3 hi) (v := zcv E (2, ((h.2.1 c' i.toNat : Nat) : Int))) ?_ rfl rfl hd (zgo k0 g f (g.cnS.tail.tail.cons (zcn_of hx0)) rfl)
  rw [arrV_read _ _ (by rw [zI_cl hi3]; omega), zI_cl hi3]
  rfl
theorem k_rald25 {M : zM} {pc : Nat} {L : List (Nat × zV)} {st : List zV} {h : zH} {r : Option zV × zH} {c' : Nat} {i : Int} {x : Nat} (hd : decode M.2.1 pc = .ok (.aaload, 1)) (e : z_aR h 25 c' i = some x) (k0 : zK M (pc + 1) L ((2, (x : Int)) :: st) h r) : zK M pc L ((0, i) :: (2, (c' : Int)) :: st) h r := by
  obtain ⟨n, hc, hi, hx0, rfl⟩ := z_aR_of e
  refine ⟨k0.1, fun E p l e R s m args below meth c H locs cells slots n0 s0 Q ls g f => ?_⟩
  have hc0 := g.rp.c0 hc (by decide)
  have ha := g.rp.arr hc (by decide) (by decide)
  have hi3 : zi32 i := g.cnS.head
  rw [List.map_cons, List.map_cons, zvR, zrf_ne hc0, zvI]
  refine W.aald (ty := .object "ScopeLines$Line") g.hx g.hb ha ((g.hK.2 5 _ rfl).1 n _) rfl (fun q => by cases q) (by rw [arrV_size]; exact zin hi3 hi) (v := zcv E (2, ((h.2.1 c' i.toNat : Nat) : Int))) ?_ rfl rfl hd (zgo k0 g f (g.cnS.tail.tail.cons (zcn_of hx0)) rfl)
  rw [arrV_read _ _ (by rw [zI_cl hi3]; omega), zI_cl hi3]
  rfl
theorem k_iast {M : zM} {pc : Nat} {L : List (Nat × zV)} {st : List zV} {h : zH} {r : Option zV × zH} {c' : Nat} {i x : Int} {h' : zH} (hd : decode M.2.1 pc = .ok (.iastore, 1)) (e : z_sI h 20 c' i (x) = some h') (k0 : zK M (pc + 1) L st h' r) : zK M pc L ((0, x) :: (0, i) :: (2, (c' : Int)) :: st) h r := by
  obtain ⟨n, hc, hi, rfl⟩ := z_sI_of e
  refine ⟨k0.1, fun E p l e R s m args below meth c H locs cells slots n0 s0 Q ls g f => ?_⟩
  have hc0 := g.rp.c0 hc (by decide)
  have ha := g.rp.arr hc (by decide) (by decide)
  have hi3 : zi32 i := g.cnS.tail.head
  have hx3 : zcn (0, x) := g.cnS.head
  rw [List.map_cons, List.map_cons, List.map_cons, zvR, zrf_ne hc0, zvI]
  refine W.iast g.hx g.hb ha ((g.hK.2 0 _ rfl).1 n _) (fun q => by cases q) (by rw [arrV_size]; exact zin hi3 hi) rfl rfl hd fun H' e1 z1 oq => ?_
  refine k0.2 E p l e R s m args below meth c H' _ cells slots n0 s0 Q ls (g.hp g.cnS.tail.tail.tail (g.rp.put hc (by decide) (fun _ _ _ => rfl) (fun a b hab => z_up_ne hab) ?_ (fun b => ?_) z1 oq) (g.sf.put hc0 z1 oq) g.2.2.2.2.2.2.2.1 g.2.2.2.2.2.2.2.2.1) f
  · unfold zat
    rw [if_neg (by decide), e1, arrV_store, zI_cl hi3]
    congr 2
    funext b
    unfold updV
    by_cases hb : b = i.toNat
    · subst hb
      rw [if_pos rfl]
      show _ = zav E 20 _ (z_up h.2.2 c' i.toNat (x) c' i.toNat)
      rw [z_up_eq]
      rfl
    · rw [if_neg hb]
      show _ = zav E 20 _ (z_up h.2.2 c' i.toNat (x) c' b)
      rw [z_up_nj hb]
  · by_cases hb : b = i.toNat
    · subst hb
      show zok (ztp 20 _) (z_up h.2.2 c' i.toNat (x) c' i.toNat)
      rw [z_up_eq]
      exact hx3
    · show zok (ztp 20 _) (z_up h.2.2 c' i.toNat (x) c' b)
      rw [z_up_nj hb]
      exact g.rp.2.2.2.1 _ _ _ b hc
theorem k_last {M : zM} {pc : Nat} {L : List (Nat × zV)} {st : List zV} {h : zH} {r : Option zV × zH} {c' : Nat} {i x : Int} {h' : zH} (hd : decode M.2.1 pc = .ok (.lastore, 1)) (e : z_sI h 23 c' i (x) = some h') (k0 : zK M (pc + 1) L st h' r) : zK M pc L ((1, x) :: (0, i) :: (2, (c' : Int)) :: st) h r := by
  obtain ⟨n, hc, hi, rfl⟩ := z_sI_of e
  refine ⟨k0.1, fun E p l e R s m args below meth c H locs cells slots n0 s0 Q ls g f => ?_⟩
  have hc0 := g.rp.c0 hc (by decide)
  have ha := g.rp.arr hc (by decide) (by decide)
  have hi3 : zi32 i := g.cnS.tail.head
  have hx3 : zcn (1, x) := g.cnS.head
  rw [List.map_cons, List.map_cons, List.map_cons, zvR, zrf_ne hc0, zvI]
  refine W.last g.hx g.hb ha ((g.hK.2 3 _ rfl).1 n _) (fun q => by cases q) (by rw [arrV_size]; exact zin hi3 hi) rfl rfl hd fun H' e1 z1 oq => ?_
  refine k0.2 E p l e R s m args below meth c H' _ cells slots n0 s0 Q ls (g.hp g.cnS.tail.tail.tail (g.rp.put hc (by decide) (fun _ _ _ => rfl) (fun a b hab => z_up_ne hab) ?_ (fun b => ?_) z1 oq) (g.sf.put hc0 z1 oq) g.2.2.2.2.2.2.2.1 g.2.2.2.2.2.2.2.2.1) f
  · unfold zat
    rw [if_neg (by decide), e1, arrV_store, zI_cl hi3]
    congr 2
    funext b
    unfold updV
    by_cases hb : b = i.toNat
    · subst hb
      rw [if_pos rfl]
      show _ = zav E 23 _ (z_up h.2.2 c' i.toNat (x) c' i.toNat)
      rw [z_up_eq]
      rfl
    · rw [if_neg hb]
      show _ = zav E 23 _ (z_up h.2.2 c' i.toNat (x) c' b)
      rw [z_up_nj hb]
  · by_cases hb : b = i.toNat
    · subst hb
      show zok (ztp 23 _) (z_up h.2.2 c' i.toNat (x) c' i.toNat)
      rw [z_up_eq]
      exact hx3
    · show zok (ztp 23 _) (z_up h.2.2 c' i.toNat (x) c' b)
      rw [z_up_nj hb]
      exact g.rp.2.2.2.1 _ _ _ b hc
theorem k_cast {M : zM} {pc : Nat} {L : List (Nat × zV)} {st : List zV} {h : zH} {r : Option zV × zH} {c' : Nat} {i x : Int} {h' : zH} (hd : decode M.2.1 pc = .ok (.castore, 1)) (e : z_sI h 21 c' i (x % 65536) = some h') (k0 : zK M (pc + 1) L st h' r) : zK M pc L ((0, x) :: (0, i) :: (2, (c' : Int)) :: st) h r := by
  obtain ⟨n, hc, hi, rfl⟩ := z_sI_of e
  refine ⟨k0.1, fun E p l e R s m args below meth c H locs cells slots n0 s0 Q ls g f => ?_⟩
  have hc0 := g.rp.c0 hc (by decide)
  have ha := g.rp.arr hc (by decide) (by decide)
  have hi3 : zi32 i := g.cnS.tail.head
  have hx3 : zcn (0, x) := g.cnS.head
  rw [List.map_cons, List.map_cons, List.map_cons, zvR, zrf_ne hc0, zvI]
  refine W.cast g.hx g.hb ha ((g.hK.2 1 _ rfl).1 n _) (fun q => by cases q) (by rw [arrV_size]; exact zin hi3 hi) rfl rfl hd fun H' e1 z1 oq => ?_
  refine k0.2 E p l e R s m args below meth c H' _ cells slots n0 s0 Q ls (g.hp g.cnS.tail.tail.tail (g.rp.put hc (by decide) (fun _ _ _ => rfl) (fun a b hab => z_up_ne hab) ?_ (fun b => ?_) z1 oq) (g.sf.put hc0 z1 oq) g.2.2.2.2.2.2.2.1 g.2.2.2.2.2.2.2.2.1) f
  · unfold zat
    rw [if_neg (by decide), e1, arrV_store, zI_cl hi3]
    congr 2
    funext b
    unfold updV
    by_cases hb : b = i.toNat
    · subst hb
      rw [if_pos rfl]
      show _ = zav E 21 _ (z_up h.2.2 c' i.toNat (x % 65536) c' i.toNat)
      rw [z_up_eq]
      exact znar_c x
    · rw [if_neg hb]
      show _ = zav E 21 _ (z_up h.2.2 c' i.toNat (x % 65536) c' b)
      rw [z_up_nj hb]
  · by_cases hb : b = i.toNat
    · subst hb
      show zok (ztp 21 _) (z_up h.2.2 c' i.toNat (x % 65536) c' i.toNat)
      rw [z_up_eq]
      exact ⟨by omega, by omega⟩
    · show zok (ztp 21 _) (z_up h.2.2 c' i.toNat (x % 65536) c' b)
      rw [z_up_nj hb]
      exact g.rp.2.2.2.1 _ _ _ b hc
theorem k_zast {M : zM} {pc : Nat} {L : List (Nat × zV)} {st : List zV} {h : zH} {r : Option zV × zH} {c' : Nat} {i x : Int} {h' : zH} (hd : decode M.2.1 pc = .ok (.bastore, 1)) (e : z_sI h 22 c' i (x % 2) = some h') (k0 : zK M (pc + 1) L st h' r) : zK M pc L ((0, x) :: (0, i) :: (2, (c' : Int)) :: st) h r := by
  obtain ⟨n, hc, hi, rfl⟩ := z_sI_of e
  refine ⟨k0.1, fun E p l e R s m args below meth c H locs cells slots n0 s0 Q ls g f => ?_⟩
  have hc0 := g.rp.c0 hc (by decide)
  have ha := g.rp.arr hc (by decide) (by decide)
  have hi3 : zi32 i := g.cnS.tail.head
  have hx3 : zcn (0, x) := g.cnS.head
  rw [List.map_cons, List.map_cons, List.map_cons, zvR, zrf_ne hc0, zvI]
  refine W.zast g.hx g.hb ha ((g.hK.2 2 _ rfl).1 n _) (fun q => by cases q) (by rw [arrV_size]; exact zin hi3 hi) rfl rfl hd fun H' e1 z1 oq => ?_
  refine k0.2 E p l e R s m args below meth c H' _ cells slots n0 s0 Q ls (g.hp g.cnS.tail.tail.tail (g.rp.put hc (by decide) (fun _ _ _ => rfl) (fun a b hab => z_up_ne hab) ?_ (fun b => ?_) z1 oq) (g.sf.put hc0 z1 oq) g.2.2.2.2.2.2.2.1 g.2.2.2.2.2.2.2.2.1) f
  · unfold zat
    rw [if_neg (by decide), e1, arrV_store, zI_cl hi3]
    congr 2
    funext b
    unfold updV
    by_cases hb : b = i.toNat
    · subst hb
      rw [if_pos rfl]
      show _ = zav E 22 _ (z_up h.2.2 c' i.toNat (x % 2) c' i.toNat)
      rw [z_up_eq]
      exact znar_z x
    · rw [if_neg hb]
      show _ = zav E 22 _ (z_up h.2.2 c' i.toNat (x % 2) c' b)
      rw [z_up_nj hb]
  · by_cases hb : b = i.toNat
    · subst hb
      show zok (ztp 22 _) (z_up h.2.2 c' i.toNat (x % 2) c' i.toNat)
      rw [z_up_eq]
      show zi32 _; unfold zi32; omega
    · show zok (ztp 22 _) (z_up h.2.2 c' i.toNat (x % 2) c' b)
      rw [z_up_nj hb]
      exact g.rp.2.2.2.1 _ _ _ b hc
