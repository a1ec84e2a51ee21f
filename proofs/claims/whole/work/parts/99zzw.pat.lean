/-! A pattern out of the draft: both -/
/-- what the model leaves alone when it reads a pattern into slot pt -/
def FrK (pt : Nat) (ν ν' : Nat → Nat → Int) : Prop := (∀ c j, c < 239 ∨ 251 < c → ν' c j = ν c j) ∧ (∀ c j, c = 239 ∨ c = 247 → j ≠ pt → ν' c j = ν c j) ∧ ∀ c j, 240 ≤ c → c ≤ 246 → j < 21 * pt ∨ 21 * pt + 20 < j → ν' c j = ν c j
section Ptb
variable {L : Nat} {ρ : Nat → Nat → Nat} {p : Nat} {en : Bool} {μ ν : Nat → Nat → Int}
theorem pat_both (rc : Rc ρ) (rm : Rm ρ) (hp : ptS L p) (pr : ptR ρ p) (hp6 : 36 ≤ p) {pt : Nat} (hpt : pt < 22) (rd : RDraft μ ν) {a b : Nat} (hab : a ≤ b) (hb : (b : Int) ≤ μ 1 1) : ∃ (z : Int) (μ' ν0 ν' : Nat → Nat → Int), f_Pr_parse 3 2 (a : Int) (b : Int) (enI en) p (SH L, ρ, μ) = some (z, (SH L, ρ, μ')) ∧ f_Mo_lift 233 (pt : Int) (a : Int) (b : Int) (SH L, ρ, ν) = some (SH L, ρ, ν0) ∧ f_Mo_parse 233 (pt : Int) (enI en) (SH L, ρ, ν0) = some (z, (SH L, ρ, ν')) ∧ FrP p μ μ' ∧ FrK pt ν ν' ∧ FrK pt ν ν0 ∧ (z = 0 ∨ (z = 1 ∧ RPat μ' ν' p pt en)) := by
  obtain ⟨r0, r40, re, rj⟩ := rd
  obtain ⟨n, hn⟩ : ∃ n, a + n = b := ⟨b - a, by omega⟩
  obtain ⟨ν0, i1, i2, i3, i4, i5, i6⟩ := m_lift (L := L) (ρ := ρ) (pt := pt) (a := a) rm hpt hn (by omega) (ν := ν)
  obtain ⟨z, μ', ν', s1, s2, s3, s4, s5⟩ := parse_both (L := L) (ρ := ρ) (p := p) (en := en) (μ := μ) (ν := ν0) rc rm hp pr hp6 hpt (a := a) (b := b) (n := n) (by omega) hn (fun j hj => (rj (a + j) (by omega)).2) i2 (fun j h1 h2 => by rw [i3 j h1 h2, (rj (a + j) (by omega)).1])
  have k0 : FrK pt ν ν0 := by
    refine ⟨fun c j h => i4 c j (by omega) (by omega), fun c j h hj => ?_, fun c j h1 h2 h3 => ?_⟩
    · obtain h | h := h
      · subst h
        exact i5 j hj
      · exact i4 c j (by omega) (by omega)
    · by_cases e : c = 240
      · subst e
        exact i6 j h3
      · exact i4 c j (by omega) e
  refine ⟨z, μ', ν0, ν', s1, i1, s2, s3, ⟨fun c j h => ?_, fun c j h hj => ?_, fun c j h1 h2 h3 => ?_⟩, k0, ?_⟩
  · rw [s4.1 c j (by omega), k0.1 c j h]
  · obtain h | h := h
    · rw [s4.1 c j (by omega), k0.2.1 c j (Or.inl h) hj]
    · subst h
      rw [s4.2.2 j hj, k0.2.1 247 j (Or.inr rfl) hj]
  · rw [s4.2.1 c j (by omega) h3, k0.2.2 c j h1 h2 h3]
  · obtain h | ⟨h1, h2⟩ := s5
    · exact Or.inl h
    · refine Or.inr ⟨h1, ?_, h2⟩
      obtain ⟨γ, hg⟩ := h2
      have : (ν' 239 pt).toNat ≤ 20 := hg.2.2.1
      omega
/-- class and model agree when a pattern is tried only -/
theorem Rel.pk {μ' ν' : Nat → Nat → Int} (h : Rel ρ μ ν) (dc : Dc ρ) (lo : ∀ c j, c < 3 ∨ 10 < c → c < 36 → μ' c j = μ c j) (hC2 : ∀ (r j off : Nat), (r : Int) ≤ μ 24 1 → off < 13 → μ' (36 + 13 * r + off) j = μ (36 + 13 * r + off) j) (hC3 : ∀ r : Nat, r < 11 → ∀ j, μ' (36 + 13 * r) j = μ (36 + 13 * r) j) (hM : FrK 20 ν ν') (hl : ∀ c j, 179 ≤ c → c < 233 → μ' c j = μ c j) : Rel ρ μ' ν' := by
  obtain ⟨rd, rr, rl, rt, ⟨b1, b2, b3⟩, rn, rp⟩ := h
  obtain ⟨g0, g9, -⟩ := id rr
  have h24 := lo 24 1 (by omega) (by omega)
  refine ⟨rd.fr (lo _ _ (by omega) (by omega)) (fun j => lo _ _ (by omega) (by omega)) (hM.1 _ _ (by omega)) (fun j => hM.1 _ _ (by omega)), ?_, ?_, ?_, ?_, ?_, ?_⟩
  · exact rr.fr h24 hC2 (fun r hr => hC3 r (by omega) 5) (hM.1 _ _ (by omega)) (fun c j h1 h2 => hM.1 _ _ (by omega)) (fun j hj => ⟨hM.2.1 _ _ (Or.inl rfl) (by omega), hM.2.1 _ _ (Or.inr rfl) (by omega)⟩) (fun c j h1 h2 h3 => hM.2.2 c j h1 h2 (by omega))
  · exact rl.fr dc (lo _ _ (by omega) (by omega)) (lo _ _ (by omega) (by omega)) h24 (fun r hr => hC3 r (by omega) 2) hl (hM.1 _ _ (by omega)) (hM.1 _ _ (by omega)) (fun c j h1 h2 => hM.1 _ _ (by omega)) (fun j _ => hM.1 _ _ (by omega)) (fun j _ => hM.1 _ _ (by omega)) (fun j _ => hM.1 _ _ (by omega)) (fun j _ => hM.1 _ _ (by omega))
  · exact rt.fr (lo _ _ (by omega) (by omega)) (fun c j h1 h2 => lo _ _ (by omega) (by omega)) (hM.1 _ _ (by omega)) (fun c j h1 h2 => hM.1 _ _ (by omega))
  · rw [hM.1 233 0 (by omega), lo 32 0 (by omega) (by omega)]
    exact ⟨b1, b2, b3⟩
  · rw [lo 16 0 (by omega) (by omega)]
    exact rn
  · rw [lo 1 6 (by omega) (by omega)]
    exact rp
end Ptb
