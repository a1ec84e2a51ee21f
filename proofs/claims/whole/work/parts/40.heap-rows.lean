/-! Rows: fields and arrays. -/
/-- a class of the world, by its number -/
def zCk (k : Nat) (C : String) (T : u_T) (N : Nat) : Prop := k < 20 ∧ classes[k]? = some (C, T, N) ∧ (∀ w ∈ u_ws C T N, w ∈ zGW) ∧ (∃ ty0 : Nat → FieldType, ∀ j, j < N → parseFieldDescriptor (T j).2.2.1 = some (ty0 j)) ∧ (∀ a, a < N → ∀ b, b < N → a ≠ b → (T a).2.1 ≠ (T b).2.1)
/-- a field that an instruction of the class own names by i -/
def zFd (own : String) (i k j : Nat) (ty : FieldType) (fin : Bool) : Prop := ∃ C T N, zCk k C T N ∧ j < N ∧ parseFieldDescriptor (T j).2.2.1 = some ty ∧ (T j).2.2.2 = fin ∧ (T j).1 = C ∧
  (Cond.fieldLink own i (T j).1 (T j).2.1 (T j).2.2.1 ∈ zGW ∨ ∃ host, Cond.fieldLinkNest own i (T j).1 (T j).2.1 (T j).2.2.1 host ∈ zNW)
def zfs (E : zE) (h : zH) (c k N : Nat) : List Value := (List.range N).map fun j => zfv E k j (h.2.1 c j) (h.2.2 c j)
theorem zfs_at (E : zE) (h : zH) (c k N : Nat) {j : Nat} (hj : j < N) : (zfs E h c k N)[j]? = some (zfv E k j (h.2.1 c j) (h.2.2 c j)) := by
  unfold zfs
  rw [List.getElem?_map, List.getElem?_range hj]
  rfl
theorem zRp.ob {E : zE} {h : zH} {H : Heap} (hR : zRp E h H) {c k n : Nat} (hc : h.1[c]? = some (k, n)) {C : String} {T : u_T} {N : Nat} (hk : k < 20) (hcl : classes[k]? = some (C, T, N)) : va_P E.1 classes [(E.2.2.1 + c, .inr (k, zfs E h c k N))] H := by
  intro q x hx
  have hz : q < 1 := (List.getElem?_eq_some_iff.mp hx).1
  rw [show q = 0 by omega] at hx
  cases hx
  have h1 := hR.2.2.1 c k n (hR.c0 hc (by omega)) hc
  unfold zat at h1
  rw [if_pos hk] at h1
  obtain ⟨r, g1, -, g2⟩ := h1
  have hr : r = (C, T, N) := Option.some.inj (g1.symm.trans hcl)
  subst hr
  refine ⟨_, hcl, g2.to fun j hj => ?_⟩
  show _ = (zfs E h c k N).getD j .null
  rw [List.getD_eq_getElem?_getD, zfs_at E h c k N hj]
  rfl
theorem zRp.arr {E : zE} {h : zH} {H : Heap} (hR : zRp E h H) {c k n : Nat} (hc : h.1[c]? = some (k, n)) (hk : ¬ k < 20) (hk9 : k ≠ 99) : H[E.2.2.1 + c]? = some (arrV (E.2.1 (k - 20)) n (fun j => zav E k (h.2.1 c j) (h.2.2 c j))) := by
  have h1 := hR.2.2.1 c k n (hR.c0 hc hk9) hc
  unfold zat at h1
  rw [if_neg hk] at h1
  exact h1
theorem zat.same {E : zE} {h h' : zH} {c k n : Nat} {H H' : Heap} (hz : zat E h c k n H) (h1 : ∀ j, h'.2.1 c j = h.2.1 c j) (h2 : ∀ j, h'.2.2 c j = h.2.2 c j) (h3 : H'[E.2.2.1 + c]? = H[E.2.2.1 + c]?) : zat E h' c k n H' := by
  unfold zat at hz ⊢
  split
  · rename_i hk
    rw [if_pos hk] at hz
    obtain ⟨r, g1, g2, g3⟩ := hz
    exact ⟨r, g1, g2, (g3.kept h3).to fun j _ => by rw [h1, h2]⟩
  · rename_i hk
    rw [if_neg hk] at hz
    rw [h3, hz]
    simp only [h1, h2]
theorem zRp.put {E : zE} {h : zH} {H H' : Heap} (hR : zRp E h H) {c k n : Nat} (hc : h.1[c]? = some (k, n)) (hk9 : k ≠ 99) {ρ : Nat → Nat → Nat} {μ : Nat → Nat → Int} (h1 : ∀ a b, a ≠ c → ρ a b = h.2.1 a b) (h2 : ∀ a b, a ≠ c → μ a b = h.2.2 a b)
    (hat : zat E (h.1, ρ, μ) c k n H') (hok : ∀ j, zok (ztp k j) (μ c j)) (z : H'.size = H.size) (oq : ∀ q : Nat, q ≠ E.2.2.1 + c → H'[q]? = H[q]?) : zRp E (h.1, ρ, μ) H' := by
  have hc0 := hR.c0 hc hk9
  obtain ⟨r1, r2, r3, r4, r5⟩ := hR
  have r6 := r5.2.1
  refine ⟨by rw [z, r1], r2, fun c' k' n' g0 g1 => ?_, fun c' k' n' j g1 => ?_, ?_⟩
  · by_cases he : c' = c
    · subst he
      cases hc.symm.trans g1
      exact hat
    · exact (r3 c' k' n' g0 g1).same (fun j => h1 c' j he) (fun j => h2 c' j he) (oq _ (by omega))
  · by_cases he : c' = c
    · subst he
      cases hc.symm.trans g1
      exact hok j
    · show zok (ztp k' j) (μ c' j)
      rw [h2 c' j he]
      exact r4 c' k' n' j g1
  · exact ⟨by rw [oq _ (by omega)]; exact r5.1, r6, fun j hj => by rw [r5.2.2 j hj]; exact congrArg Int32.ofInt (h2 0 j (by omega)).symm⟩
theorem zSf.put {E : zE} {H0 H H' : Heap} {locs : List Loc} (hS : zSf E H0 H locs) {c i : Nat} (hc : c ≠ 0) (z : H'.size = H.size) (oq : ∀ q : Nat, q ≠ E.2.2.1 + c → H'[q]? = H[q]?) : zSf E H0 H' (locs ++ [⟨E.2.2.1 + c, i⟩]) := by
  obtain ⟨s1, s2, s3⟩ := hS
  refine ⟨fun q hq => by rw [oq q (by omega)]; exact s1 q hq, fun x hx => ?_, by rw [z]; exact s3⟩
  rcases List.mem_append.mp hx with hx | hx
  · exact s2 x hx
  · rw [List.mem_singleton.mp hx]
    show E.2.2.1 < E.2.2.1 + c
    omega
theorem z_gI_of {h : zH} {k c j : Nat} {x : Int} (e : z_gI h k c j = some x) : ∃ n, h.1[c]? = some (k, n) ∧ x = h.2.2 c j := by
  unfold z_gI at e
  split at e
  · rename_i q hq
    split at e
    · rename_i hk
      obtain ⟨a, b⟩ := q
      cases hk
      exact ⟨b, hq, (Option.some.inj e).symm⟩
    · cases e
  · cases e
theorem z_gR_of {h : zH} {k c j : Nat} {x : Nat} (e : z_gR h k c j = some x) : ∃ n, h.1[c]? = some (k, n) ∧ x ≠ 0 ∧ x = h.2.1 c j := by
  unfold z_gR at e
  split at e
  · rename_i q hq
    split at e
    · rename_i hk
      obtain ⟨a, b⟩ := q
      obtain ⟨rfl, hk⟩ := hk
      cases e
      exact ⟨b, hq, hk, rfl⟩
    · cases e
  · cases e
theorem z_pI_of {h h' : zH} {k c j : Nat} {x : Int} (e : z_pI h k c j x = some h') : ∃ n, h.1[c]? = some (k, n) ∧ h' = (h.1, h.2.1, z_up h.2.2 c j x) := by
  unfold z_pI at e
  split at e
  · rename_i q hq
    split at e
    · rename_i hk
      obtain ⟨a, b⟩ := q
      cases hk
      exact ⟨b, hq, (Option.some.inj e).symm⟩
    · cases e
  · cases e
theorem z_pR_of {h h' : zH} {k c j : Nat} {x : Nat} (e : z_pR h k c j x = some h') : ∃ n, h.1[c]? = some (k, n) ∧ h' = (h.1, z_up h.2.1 c j x, h.2.2) := by
  unfold z_pR at e
  split at e
  · rename_i q hq
    split at e
    · rename_i hk
      obtain ⟨a, b⟩ := q
      cases hk
      exact ⟨b, hq, (Option.some.inj e).symm⟩
    · cases e
  · cases e
theorem z_aI_of {h : zH} {k c : Nat} {i : Int} {x : Int} (e : z_aI h k c i = some x) : ∃ n, h.1[c]? = some (k, n) ∧ (0 ≤ i ∧ i < (n : Int)) ∧ x = h.2.2 c i.toNat := by
  unfold z_aI at e
  split at e
  · rename_i q hq
    split at e
    · rename_i hk
      obtain ⟨a, b⟩ := q
      obtain ⟨rfl, hk2⟩ := hk
      exact ⟨b, hq, hk2, (Option.some.inj e).symm⟩
    · cases e
  · cases e
theorem z_aR_of {h : zH} {k c : Nat} {i : Int} {x : Nat} (e : z_aR h k c i = some x) : ∃ n, h.1[c]? = some (k, n) ∧ (0 ≤ i ∧ i < (n : Int)) ∧ x ≠ 0 ∧ x = h.2.1 c i.toNat := by
  unfold z_aR at e
  split at e
  · rename_i q hq
    split at e
    · rename_i hk
      obtain ⟨a, b⟩ := q
      obtain ⟨rfl, hk2, hk3, hk4⟩ := hk
      cases e
      exact ⟨b, hq, ⟨hk2, hk3⟩, hk4, rfl⟩
    · cases e
  · cases e
theorem z_sI_of {h h' : zH} {k c : Nat} {i : Int} {x : Int} (e : z_sI h k c i x = some h') : ∃ n, h.1[c]? = some (k, n) ∧ (0 ≤ i ∧ i < (n : Int)) ∧ h' = (h.1, h.2.1, z_up h.2.2 c i.toNat x) := by
  unfold z_sI at e
  split at e
  · rename_i q hq
    split at e
    · rename_i hk
      obtain ⟨a, b⟩ := q
      obtain ⟨rfl, hk2⟩ := hk
      exact ⟨b, hq, hk2, (Option.some.inj e).symm⟩
    · cases e
  · cases e
theorem z_sR_of {h h' : zH} {k k2 c : Nat} {i : Int} {x : Nat} (e : z_sR h k k2 c i x = some h') : ∃ n n2, h.1[c]? = some (k, n) ∧ h.1[x]? = some (k2, n2) ∧ (0 ≤ i ∧ i < (n : Int)) ∧ h' = (h.1, z_up h.2.1 c i.toNat x, h.2.2) := by
  unfold z_sR at e
  split at e
  · rename_i q u hq hu
    split at e
    · rename_i hk
      obtain ⟨a, b⟩ := q
      obtain ⟨a2, b2⟩ := u
      obtain ⟨rfl, hk2, hk3, rfl⟩ := hk
      exact ⟨b, b2, hq, hu, ⟨hk2, hk3⟩, (Option.some.inj e).symm⟩
    · cases e
  · cases e
theorem z_len_of {h : zH} {k c : Nat} {x : Int} (e : z_len h k c = some x) : ∃ n : Nat, h.1[c]? = some (k, n) ∧ n < 2147483648 ∧ x = n := by
  unfold z_len at e
  split at e
  · rename_i q hq
    split at e
    · rename_i hk
      obtain ⟨a, b⟩ := q
      obtain ⟨rfl, hk⟩ := hk
      exact ⟨b, hq, hk, (Option.some.inj e).symm⟩
    · cases e
  · cases e
theorem z_up_eq {α : Type} {f : Nat → Nat → α} {c j : Nat} {x : α} : z_up f c j x c j = x := if_pos ⟨rfl, rfl⟩
theorem z_up_ne {α : Type} {f : Nat → Nat → α} {c j a b : Nat} {x : α} (h : a ≠ c) : z_up f c j x a b = f a b := if_neg fun g => h g.1
theorem z_up_nj {α : Type} {f : Nat → Nat → α} {c j a b : Nat} {x : α} (h : b ≠ j) : z_up f c j x a b = f a b := if_neg fun g => h g.2
/-- an index of a row -/
theorem zin {i : Int} {n : Nat} (hi : zi32 i) (h : 0 ≤ i ∧ i < (n : Int)) : ¬ (Int32.ofInt i < 0 ∨ n ≤ (Int32.ofInt i).toNatClampNeg) := by
  rw [zbl0 hi, zI_cl hi]
  omega
theorem zhas {own : String} {i k j : Nat} {ty : FieldType} {fin : Bool} (hf : zFd own i k j ty fin) : k < 20 := by
  obtain ⟨_, _, _, h, -⟩ := hf
  exact h.1
