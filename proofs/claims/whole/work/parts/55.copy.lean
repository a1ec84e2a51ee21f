/-! System.arraycopy of int[] and char[] -/
theorem z_cp_of {h h' : zH} {k c0 c1 : Nat} {sp dp n : Int} (e : z_cp h k c0 sp c1 dp n = some h') : ∃ n0 n1, h.1[c0]? = some (k, n0) ∧ h.1[c1]? = some (k, n1) ∧ (0 ≤ sp ∧ 0 ≤ dp ∧ 0 ≤ n ∧ sp + n ≤ (n0 : Int) ∧ dp + n ≤ (n1 : Int)) ∧ h' = (h.1, h.2.1, fun a j => if a = c1 ∧ dp.toNat ≤ j ∧ j < dp.toNat + n.toNat then h.2.2 c0 (sp.toNat + (j - dp.toNat)) else h.2.2 a j) := by
  unfold z_cp at e
  split at e
  · rename_i q u hq hu
    split at e
    · rename_i hk
      obtain ⟨a, b⟩ := q
      obtain ⟨a2, b2⟩ := u
      obtain ⟨rfl, rfl, hk2⟩ := hk
      exact ⟨b, b2, hq, hu, hk2, (Option.some.inj e).symm⟩
    · cases e
  · cases e
theorem zfitc {x : Int} (h : 0 ≤ x ∧ x < 65536) : fits .char (.int (Int32.ofInt x)) = true := by
  have h3 : zi32 x := by unfold zi32; omega
  show (decide (0 ≤ Int32.ofInt x) && decide (Int32.ofInt x ≤ 65535)) = true
  have e1 := (zbG0 h3).mpr h.1
  have e2 : Int32.ofInt x ≤ Int32.ofInt 65535 := (zI_le h3 (by unfold zi32; omega)).mpr (by omega)
  have e3 : (Int32.ofInt 65535 : Int32) = 65535 := rfl
  rw [e3] at e2
  simp [e1, e2]
theorem k_copy {M : zM} {pc : Nat} {L : List (Nat × zV)} {st : List zV} {h : zH} {r : Option zV × zH} {i k c0 c1 : Nat} {sp dp n : Int} {h' : zH} {ty : FieldType} (hk : (k = 20 ∧ ty = .int) ∨ (k = 21 ∧ ty = .char)) (hd : decode M.2.1 pc = .ok (.invokestatic i, 3)) (h1 : Cond.methodLink M.1.cls i arraycopyName ∈ zGW) (h2 : Cond.native arraycopyName ∈ zGW) (h3 : Cond.static arraycopyName ∈ zGW) (h4 : Cond.initialized "java/lang/System" ∈ zGW)
    (hfr : 1 ≤ M.2.2.2.2.1 ∧ 26 ≤ M.2.2.2.2.2) (hr8 : zwd st ≤ 8) (e : z_cp h k c0 sp c1 dp n = some h') (k0 : zK M (pc + 3) L st h' r) : zK M pc L ((0, n) :: (0, dp) :: (2, (c1 : Int)) :: (0, sp) :: (2, (c0 : Int)) :: st) h r := by
  obtain ⟨n0', n1, hc0, hc1, ⟨hsp, hdp, hn, hs0, hs1⟩, rfl⟩ := z_cp_of e
  refine ⟨k0.1, fun E p l e R s m args below meth c H locs cells slots n0 s0 Q ls g f => ?_⟩
  have hk20 : ¬ k < 20 := by omega
  have hk99 : k ≠ 99 := by omega
  have hz0 := g.rp.c0 hc0 hk99
  have hz1 := g.rp.c0 hc1 hk99
  have ha0 := g.rp.arr hc0 hk20 hk99
  have ha1 := g.rp.arr hc1 hk20 hk99
  have hk23 : k < 23 := by omega
  have hn3 : zi32 n := g.cnS.head
  have hdp3 : zi32 dp := g.cnS.tail.head
  have hsp3 : zi32 sp := g.cnS.tail.tail.tail.head
  have hav : ∀ (c' j : Nat), zav E k (h.2.1 c' j) (h.2.2 c' j) = .int (Int32.ofInt (h.2.2 c' j)) := fun c' j => if_pos hk23
  simp only [hav] at ha0 ha1
  have hrk : refKind ty = false := by rcases hk with ⟨-, rfl⟩ | ⟨-, rfl⟩ <;> rfl
  have htys : ∀ (nn : Nat) (z : Nat → Value), s.isArrayOf (arrV (E.2.1 (k - 20)) nn z) ty := by
    rcases hk with ⟨rfl, rfl⟩ | ⟨rfl, rfl⟩
    · exact fun nn z => (g.hK.2 0 _ rfl).1 nn z
    · exact fun nn z => (g.hK.2 1 _ rfl).1 nn z
  rw [List.map_cons, List.map_cons, List.map_cons, List.map_cons, List.map_cons, zvR, zvR, zrf_ne hz0, zrf_ne hz1, zvI, zvI, zvI]
  intro T hT X
  obtain ⟨-, kA, hkA, cm, hkk⟩ := htys n0' (fun j => .int (Int32.ofInt (h.2.2 c0 j)))
  have h8 := zcatS E st hr8
  obtain ⟨vm', X', step⟩ := X.arraycopy g.hx g.own (g.hts _ h1) (g.hts _ h2) (g.hts _ h3) (g.hts _ h4) (src := E.2.2.1 + c0) (dst := E.2.2.1 + c1) (cs := arrV (E.2.1 (k - 20)) n0' fun j => .int (Int32.ofInt (h.2.2 c0 j))) (cd := arrV (E.2.1 (k - 20)) n1 fun j => .int (Int32.ofInt (h.2.2 c1 j))) (srcPos := Int32.ofInt sp) (destPos := Int32.ofInt dp) (n := Int32.ofInt n) (by rw [hT]; exact ha0) (by rw [hT]; exact ha1)
    (fun _ h => by cases h) (fun _ h => by cases h) (fun h => by cases h) (fun h => by cases h) hkA hkA hkk hkk (by simp [hrk]) (by rw [zbl0 hsp3]; omega) (by rw [zbl0 hdp3]; omega) (by rw [zbl0 hn3]; omega)
    (by rw [zI_to hsp3, zI_to hn3, arrV_size]; omega)
    (by rw [zI_to hdp3, zI_to hn3, arrV_size]; omega)
    (fun vm₁ _ i hi => by
      rw [zI_cl hn3] at hi
      have e9 : (arrV (E.2.1 (k - 20)) n0' fun j => Value.int (Int32.ofInt (h.2.2 c0 j))).slots.getD ((Int32.ofInt sp).toNatClampNeg + i) .null = .int (Int32.ofInt (h.2.2 c0 (sp.toNat + i))) := by
        rw [Array.getD_eq_getD_getElem?, zI_cl hsp3, arrV_read _ _ (by omega)]
        rfl
      refine ⟨?_, ?_⟩
      · rw [e9]
        have hzk := g.rp.2.2.2.1 _ _ _ (sp.toNat + i) hc0
        rcases hk with ⟨rfl, rfl⟩ | ⟨rfl, rfl⟩
        · rfl
        · exact zfitc hzk
      · rw [e9]
        exact trivial)
    (g := F0 m pc ls (.int (Int32.ofInt n) :: .int (Int32.ofInt dp) :: .ref (E.2.2.1 + c1) :: .int (Int32.ofInt sp) :: .ref (E.2.2.1 + c0) :: st.map (zcv E))) rfl (by rw [g.hml]; exact g.lv.1) (rest := st.map (zcv E)) rfl (by rw [g.hb]; exact hd) (Nat.le_trans hfr.1 g.2.1.1) (by
      have h9 := Nat.le_trans hfr.2 g.2.1.2
      show 2 * 0 + _ + (7 + 11) ≤ _
      omega)
  have e1 : copied (arrV (E.2.1 (k - 20)) n0' fun j => .int (Int32.ofInt (h.2.2 c0 j))) (arrV (E.2.1 (k - 20)) n1 fun j => .int (Int32.ofInt (h.2.2 c1 j))) (Int32.ofInt sp) (Int32.ofInt dp) (Int32.ofInt n) = arrV (E.2.1 (k - 20)) n1 (fun j => .int (va_cpy (fun j => Int32.ofInt (h.2.2 c0 j)) (fun j => Int32.ofInt (h.2.2 c1 j)) (Int32.ofInt sp).toNatClampNeg (Int32.ofInt dp).toNatClampNeg (Int32.ofInt n).toNatClampNeg j)) := va_copied (fun z => .int z) (E.2.1 (k - 20)) (E.2.1 (k - 20)) (fun j => Int32.ofInt (h.2.2 c0 j)) (fun j => Int32.ofInt (h.2.2 c1 j)) (by rw [zI_cl hsp3, zI_cl hn3]; omega)
  rw [e1] at X' step
  rw [zI_cl hsp3, zI_cl hdp3, zI_cl hn3] at X' step
  generalize hcell : arrV (E.2.1 (k - 20)) n1 (fun j => Value.int (va_cpy (fun j => Int32.ofInt (h.2.2 c0 j)) (fun j => Int32.ofInt (h.2.2 c1 j)) sp.toNat dp.toNat n.toNat j)) = cell at X' step
  have hl : E.2.2.1 + c1 < H.size := g.rp.sz hc1
  have hheap : ((T.setVm vm').setCell (E.2.2.1 + c1) cell).heap = H.setIfInBounds (E.2.2.1 + c1) cell := by rw [← hT]; rfl
  have oq : ∀ q : Nat, q ≠ E.2.2.1 + c1 → (H.setIfInBounds (E.2.2.1 + c1) cell)[q]? = H[q]? := fun q hq => by simp [Array.getElem?_setIfInBounds, Ne.symm hq]
  have oa : (H.setIfInBounds (E.2.2.1 + c1) cell)[E.2.2.1 + c1]? = some cell := by simp [Array.getElem?_setIfInBounds, hl]
  have z1 : (H.setIfInBounds (E.2.2.1 + c1) cell).size = H.size := by simp
  have hRp : zRp E (h.1, h.2.1, fun a j => if a = c1 ∧ dp.toNat ≤ j ∧ j < dp.toNat + n.toNat then h.2.2 c0 (sp.toNat + (j - dp.toNat)) else h.2.2 a j) (H.setIfInBounds (E.2.2.1 + c1) cell) := by
    refine g.rp.put hc1 hk99 (fun _ _ _ => rfl) (fun a b hab => if_neg fun q => hab q.1) ?_ (fun b => ?_) z1 oq
    · unfold zat
      rw [if_neg hk20, oa, ← hcell]
      congr 2
      funext j
      show _ = zav E k _ (if c1 = c1 ∧ dp.toNat ≤ j ∧ j < dp.toNat + n.toNat then _ else _)
      unfold zav va_cpy
      rw [if_pos hk23]
      congr 1
      by_cases hj : dp.toNat ≤ j ∧ j < dp.toNat + n.toNat
      · rw [if_pos hj, if_pos ⟨rfl, hj⟩]
      · rw [if_neg hj, if_neg fun q => hj q.2]
    · show zok (ztp k b) (if c1 = c1 ∧ dp.toNat ≤ b ∧ b < dp.toNat + n.toNat then _ else _)
      have hzt : ∀ a b, ztp k a = ztp k b := by
        intro a b
        unfold ztp
        rw [if_neg hk20, if_neg hk20]
      split
      · have := g.rp.2.2.2.1 _ _ _ (sp.toNat + (b - dp.toNat)) hc0
        rw [hzt b (sp.toNat + (b - dp.toNat))]
        exact this
      · exact g.rp.2.2.2.1 _ _ _ b hc1
  have hSf : ∀ L2 : List Loc, (∀ x ∈ L2, x.base = E.2.2.1 + c1) → zSf E s.heap (H.setIfInBounds (E.2.2.1 + c1) cell) (locs ++ L2) := fun L2 hL2 => ⟨fun q hq => by rw [oq q (by omega)]; exact g.sf.1 q hq, fun x hx => by
      rcases List.mem_append.mp hx with hx | hx
      · exact g.sf.2.1 x hx
      · rw [hL2 x hx]
        omega, by rw [z1]; exact g.sf.2.2⟩
  obtain ⟨t, a1, b1⟩ := k0.2 E p l e R s m args below meth c _ _ cells slots n0 s0 Q ls (g.hp g.cnS.tail.tail.tail.tail.tail hRp (hSf _ (fun x hx => by obtain ⟨z, -, hz⟩ := List.mem_map.mp hx; rw [← hz])) g.2.2.2.2.2.2.2.1 g.2.2.2.2.2.2.2.2.1) f _ hheap X'
  exact ⟨t, step t a1, b1⟩
