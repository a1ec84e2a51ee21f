/-! The class's code: insert, append, joinBranches -/
def InsH (p a Z : Nat) (op f s : Int) (μ μ' : Nat → Nat → Int) : Prop := (∀ c j, c < p ∨ p + 3 < c → μ' c j = μ c j) ∧ (∀ j, j ≠ 5 → μ' p j = μ p j) ∧ μ' p 5 = ((Z + 1 : Nat) : Int) ∧ μ' (p + 1) = insA (μ (p + 1)) a Z op ∧ μ' (p + 2) = insA (μ (p + 2)) a Z f ∧ μ' (p + 3) = insA (μ (p + 3)) a Z s
section Cde
variable {L : Nat} {ρ : Nat → Nat → Nat} {p : Nat}
theorem insA_step {A : Nat → Int} {a m : Nat} {v : Int} : insA (fun j => if j = a + m + 1 then A (a + m) else A j) a (a + m) v = insA A a (a + m + 1) v := by
  funext j
  unfold insA
  dsimp only
  by_cases h1 : j < a
  · rw [if_pos h1, if_pos h1, if_neg (by omega)]
  · rw [if_neg h1, if_neg h1]
    by_cases h2 : j = a
    · rw [if_pos h2, if_pos h2]
    · rw [if_neg h2, if_neg h2]
      by_cases h3 : j ≤ a + m
      · rw [if_pos h3, if_neg (show ¬ j - 1 = a + m + 1 by omega), if_pos (show j ≤ a + m + 1 by omega)]
      · rw [if_neg h3]
        by_cases h4 : j = a + m + 1
        · rw [if_pos h4, if_pos (by omega), h4, Nat.add_sub_cancel]
        · rw [if_neg h4, if_neg (by omega)]
theorem e_insL (hp : ptS L p) (pr : ptR ρ p) {a : Nat} {op f s : Int} : ∀ (m N : Nat) (μ : Nat → Nat → Int) (Z : Nat), a + m < 41 → Z < 41 → m < N → μ p 5 = Z → ∃ μ', f_Pt_insert_16 N p (a : Int) op f s ((a + m : Nat) : Int) (SH L, ρ, μ) = some (SH L, ρ, μ') ∧ (∀ c j, c < p ∨ p + 3 < c → μ' c j = μ c j) ∧ (∀ j, j ≠ 5 → μ' p j = μ p j) ∧ μ' p 5 = ((Z + 1 : Nat) : Int) ∧ μ' (p + 1) = insA (μ (p + 1)) a (a + m) op ∧ μ' (p + 2) = insA (μ (p + 2)) a (a + m) f ∧ μ' (p + 3) = insA (μ (p + 3)) a (a + m) s := by
  intro m
  induction m with
  | zero =>
    intro N μ Z h1 hZ h2 h3
    obtain ⟨N, rfl⟩ : ∃ k, N = k + 1 := ⟨N - 1, by omega⟩
    have q : ∀ (A : Nat → Int) (v : Int) (j : Nat), insA A a (a + 0) v j = if j = a then v else A j := by
      intro A v j
      unfold insA
      by_cases g1 : j < a
      · rw [if_pos g1, if_neg (by omega)]
      · rw [if_neg g1]
        by_cases g2 : j = a
        · rw [if_pos g2, if_pos g2]
        · rw [if_neg g2, if_neg g2, if_neg (by omega)]
    have r : ∀ (g : Nat → Nat → Int) (c : Nat) (v : Int), z_up g c a v c = insA (g c) a (a + 0) v := by
      intro g c v
      funext j
      rw [q]
      unfold z_up
      by_cases e : j = a
      · rw [if_pos ⟨rfl, e⟩, if_pos e]
      · rw [if_neg (fun g => e g.2), if_neg e]
    have nn : ∀ (g : Nat → Nat → Int) (c c' j' : Nat) (v : Int), c ≠ c' → z_up g c' j' v c = g c := by
      intro g c c' j' v h
      funext j
      exact z_up_ne h
    refine ⟨z_up (z_up (z_up (z_up μ (p + 1) a op) (p + 2) a f) (p + 3) a s) p 5 ((Z + 1 : Nat) : Int), ?_, fun c j h => ?_, fun j h => ?_, z_up_eq, ?_, ?_, ?_⟩
    · rw [f_Pt_insert_16]
      show (if _ then _ else _) = _
      rw [if_pos (by omega), zgR_k hp.1 pr.1 (by omega), Option.bind_some, zsI_k hp.2.1 (by omega) (by omega), Option.bind_some, zgR_k hp.1 pr.2.1 (by omega), Option.bind_some, zsI_k hp.2.2.1 (by omega) (by omega), Option.bind_some, zgR_k hp.1 pr.2.2.1 (by omega), Option.bind_some, zsI_k hp.2.2.2.1 (by omega) (by omega), Option.bind_some, Int.toNat_natCast, zgI_k hp.1, Option.bind_some, z_up_ne (by omega), z_up_ne (by omega), z_up_ne (by omega), h3, zw_of (by omega) (by omega), zpI_k hp.1, Option.bind_some, show ((Z + 1 : Nat) : Int) = (Z : Int) + 1 by omega]
    · rw [z_up_ne (by omega), z_up_ne (by omega), z_up_ne (by omega), z_up_ne (by omega)]
    · rw [z_up_nj h, z_up_ne (by omega), z_up_ne (by omega), z_up_ne (by omega)]
    · rw [nn _ _ _ _ _ (by omega), nn _ _ _ _ _ (by omega), nn _ _ _ _ _ (by omega), r]
    · rw [nn _ _ _ _ _ (by omega), nn _ _ _ _ _ (by omega), r, nn _ _ _ _ _ (by omega)]
    · rw [nn _ _ _ _ _ (by omega), r, nn _ _ _ _ _ (by omega), nn _ _ _ _ _ (by omega)]
  | succ m ih =>
    intro N μ Z h1 hZ h2 h3
    obtain ⟨N, rfl⟩ : ∃ k, N = k + 1 := ⟨N - 1, by omega⟩
    have t1 : ((a + (m + 1) : Nat) : Int) - 1 = ((a + m : Nat) : Int) := by omega
    have t2 : ((a + (m + 1) : Nat) : Int) + -1 = ((a + m : Nat) : Int) := by omega
    have r : ∀ (g : Nat → Nat → Int) (c : Nat), z_up g c (a + (m + 1)) (g c (a + m)) c = fun j => if j = a + m + 1 then g c (a + m) else g c j := by
      intro g c
      funext j
      unfold z_up
      by_cases e : j = a + m + 1
      · rw [if_pos ⟨rfl, e⟩, if_pos e]
      · rw [if_neg (fun g => e g.2), if_neg e]
    have nn : ∀ (g : Nat → Nat → Int) (c c' j' : Nat) (v : Int), c ≠ c' → z_up g c' j' v c = g c := by
      intro g c c' j' v h
      funext j
      exact z_up_ne h
    have eA : z_up (z_up (z_up μ (p + 1) (a + (m + 1)) (μ (p + 1) (a + m))) (p + 2) (a + (m + 1)) (μ (p + 2) (a + m))) (p + 3) (a + (m + 1)) (μ (p + 3) (a + m)) (p + 1) = fun j => if j = a + m + 1 then μ (p + 1) (a + m) else μ (p + 1) j := by
      rw [nn _ _ _ _ _ (by omega), nn _ _ _ _ _ (by omega), r]
    have eB : z_up (z_up (z_up μ (p + 1) (a + (m + 1)) (μ (p + 1) (a + m))) (p + 2) (a + (m + 1)) (μ (p + 2) (a + m))) (p + 3) (a + (m + 1)) (μ (p + 3) (a + m)) (p + 2) = fun j => if j = a + m + 1 then μ (p + 2) (a + m) else μ (p + 2) j := by
      have := r (z_up μ (p + 1) (a + (m + 1)) (μ (p + 1) (a + m))) (p + 2)
      rw [nn μ (p + 2) (p + 1) _ _ (by omega)] at this
      rw [nn _ _ _ _ _ (by omega), this]
    have eD : z_up (z_up (z_up μ (p + 1) (a + (m + 1)) (μ (p + 1) (a + m))) (p + 2) (a + (m + 1)) (μ (p + 2) (a + m))) (p + 3) (a + (m + 1)) (μ (p + 3) (a + m)) (p + 3) = fun j => if j = a + m + 1 then μ (p + 3) (a + m) else μ (p + 3) j := by
      have := r (z_up (z_up μ (p + 1) (a + (m + 1)) (μ (p + 1) (a + m))) (p + 2) (a + (m + 1)) (μ (p + 2) (a + m))) (p + 3)
      rw [nn _ (p + 3) (p + 2) _ _ (by omega), nn μ (p + 3) (p + 1) _ _ (by omega)] at this
      rw [this]
    obtain ⟨μ', i1, i2, i3, i4, i5, i6, i7⟩ := ih N (z_up (z_up (z_up μ (p + 1) (a + (m + 1)) (μ (p + 1) (a + m))) (p + 2) (a + (m + 1)) (μ (p + 2) (a + m))) (p + 3) (a + (m + 1)) (μ (p + 3) (a + m))) Z (by omega) hZ (by omega) (by rw [z_up_ne (by omega), z_up_ne (by omega), z_up_ne (by omega)]; exact h3)
    rw [eA, insA_step] at i5
    rw [eB, insA_step] at i6
    rw [eD, insA_step] at i7
    refine ⟨μ', ?_, fun c j h => (i2 c j h).trans ?_, fun j h => (i3 j h).trans ?_, i4, i5, i6, i7⟩
    · rw [f_Pt_insert_16]
      show (if _ then _ else _) = _
      rw [if_neg (by omega), zgR_k hp.1 pr.1 (by omega), Option.bind_some, Option.bind_some, zw_of (x := ((a + (m + 1) : Nat) : Int) - 1) (by omega) (by omega), t1, zaI_k hp.2.1 (by omega) (by omega), Option.bind_some, zsI_k hp.2.1 (by omega) (by omega), Option.bind_some, Int.toNat_natCast, Int.toNat_natCast, zgR_k hp.1 pr.2.1 (by omega), Option.bind_some, Option.bind_some, zaI_k hp.2.2.1 (by omega) (by omega), Option.bind_some, zsI_k hp.2.2.1 (by omega) (by omega), Option.bind_some, Int.toNat_natCast, Int.toNat_natCast, z_up_ne (by omega), zgR_k hp.1 pr.2.2.1 (by omega), Option.bind_some, Option.bind_some, zaI_k hp.2.2.2.1 (by omega) (by omega), Option.bind_some, zsI_k hp.2.2.2.1 (by omega) (by omega), Option.bind_some, Int.toNat_natCast, Int.toNat_natCast, z_up_ne (by omega), z_up_ne (by omega), t2, zw_of (by omega) (by omega)]
      exact i1
    · rw [z_up_ne (by omega), z_up_ne (by omega), z_up_ne (by omega)]
    · rw [z_up_ne (by omega), z_up_ne (by omega), z_up_ne (by omega)]
theorem e_insert (hp : ptS L p) (pr : ptR ρ p) {a Z : Nat} {op f s : Int} {μ : Nat → Nat → Int} (hZ : Z < 41) (ha : a ≤ Z) (h5 : μ p 5 = Z) : ∃ μ', f_Pt_insert p (a : Int) op f s (SH L, ρ, μ) = some (SH L, ρ, μ') ∧ InsH p a Z op f s μ μ' := by
  obtain ⟨μ', i1, i2, i3, i4, i5, i6, i7⟩ := e_insL (L := L) (ρ := ρ) hp pr (a := a) (op := op) (f := f) (s := s) (Z - a) 100000 μ Z (by omega) hZ (by omega) h5
  rw [show a + (Z - a) = Z by omega] at i1 i5 i6 i7
  refine ⟨μ', ?_, i2, i3, i4, i5, i6, i7⟩
  unfold f_Pt_insert
  rw [zgI_k hp.1, Option.bind_some, h5, if_neg (by omega), Option.bind_some]
  exact i1
theorem e_append (hp : ptS L p) (pr : ptR ρ p) {Z : Nat} {op f : Int} {μ : Nat → Nat → Int} (hZ : Z < 41) (h5 : μ p 5 = Z) : ∃ μ', f_Pt_append p op f (SH L, ρ, μ) = some (SH L, ρ, μ') ∧ InsH p Z Z op f 0 μ μ' := by
  obtain ⟨μ', i1, i2⟩ := e_insert (L := L) (ρ := ρ) hp pr (a := Z) (op := op) (f := f) (s := 0) hZ (Nat.le_refl _) h5
  refine ⟨μ', ?_, i2⟩
  unfold f_Pt_append
  rw [zgI_k hp.1, Option.bind_some, zck_k hp.1, Option.bind_some, h5, i1, Option.bind_some]
end Cde
