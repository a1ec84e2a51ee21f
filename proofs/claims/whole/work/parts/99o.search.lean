/-! All places of the line -/
def FrC (μ μ' : Nat → Nat → Int) : Prop := (∀ c j, c < 32 ∨ 35 < c → μ' c j = μ c j) ∧ μ' 32 0 = μ 32 0
def FrM (ν ν' : Nat → Nat → Int) : Prop := (∀ c j, c ≠ 233 → c ≠ 252 → c ≠ 253 → ν' c j = ν c j) ∧ ∀ j, j < 21 ∨ 26 < j ∨ j = 25 → ν' 233 j = ν 233 j
theorem FrC.refl (μ : Nat → Nat → Int) : FrC μ μ := ⟨fun _ _ _ => rfl, rfl⟩
theorem FrM.refl (μ : Nat → Nat → Int) : FrM μ μ := ⟨fun _ _ _ _ _ => rfl, fun _ _ => rfl⟩
theorem FrC.trans {a b c : Nat → Nat → Int} (h : FrC a b) (g : FrC b c) : FrC a c := ⟨fun x j hx => (g.1 x j hx).trans (h.1 x j hx), g.2.trans h.2⟩
theorem FrM.trans {a b c : Nat → Nat → Int} (h : FrM a b) (g : FrM b c) : FrM a c := ⟨fun x j h1 h2 h3 => (g.1 x j h1 h2 h3).trans (h.1 x j h1 h2 h3), fun j hj => (g.2 j hj).trans (h.2 j hj)⟩
theorem FrC.sm {μ : Nat → Nat → Int} {st ov nx he mt wc : Int} {G W P : Nat → Int} : FrC μ (SM μ st ov nx he mt wc G W P) := ⟨fun c j h => SM_o c (by omega) (by omega) (by omega) (by omega) j, rfl⟩
theorem FrC.up {μ : Nat → Nat → Int} {j : Nat} (h : j ≠ 0) (x : Int) : FrC μ (z_up μ 32 j x) := ⟨fun c i hc => by
  unfold z_up
  rw [if_neg (by omega)], by
  unfold z_up
  rw [if_neg (by omega)]⟩
theorem FrM.mm {ν : Nat → Nat → Int} {st ov mt nc : Int} {G C : Nat → Int} : FrM ν (MM ν st ov mt nc G C) := ⟨fun c j h1 h2 h3 => MM_o c h1 h2 h3 j, fun j hj => by
  unfold MM
  rw [if_pos rfl]
  split <;> first | omega | rfl⟩
theorem FrM.up {ν : Nat → Nat → Int} {j : Nat} (h : 21 ≤ j ∧ j ≤ 26 ∧ j ≠ 25) (x : Int) : FrM ν (z_up ν 233 j x) := ⟨fun c i h1 _ _ => by
  unfold z_up
  rw [if_neg (by omega)], fun i hi => by
  unfold z_up
  rw [if_neg (by omega)]⟩
theorem Sta.fr {L : Nat} {ρ : Nat → Nat → Nat} {μ ν μ' ν' : Nat → Nat → Int} {p pt l k s : Nat} {en : Bool} {γ : Gh} (S : Sta L ρ μ ν p pt l k s en γ) (hC : FrC μ μ') (hM : FrM ν ν') : Sta L ρ μ' ν' p pt l k s en γ := by
  obtain ⟨a, ⟨b1, b2, b3⟩, ⟨c1, c2, c3⟩, ⟨d1, d2, d3, d4⟩, e, f, g, h, i⟩ := S
  obtain ⟨C1, C2⟩ := hC
  obtain ⟨M1, M2⟩ := hM
  have eC : ∀ c, c < 32 ∨ 35 < c → μ' c = μ c := fun c hc => funext fun j => C1 c j hc
  have eM : ∀ c, c ≠ 233 → c ≠ 252 → c ≠ 253 → ν' c = ν c := fun c h1 h2 h3 => funext fun j => M1 c j h1 h2 h3
  have kC : codOf μ' p = codOf μ p := by
    unfold codOf
    rw [eC (p + 1) (by omega), eC (p + 2) (by omega), eC (p + 3) (by omega), eC (p + 4) (by omega), eC (p + 5) (by omega)]
  have kM : txOf ν' pt en = txOf ν pt en := by
    unfold txOf
    have : tA ν' pt = tA ν pt := by
      funext j
      unfold tA
      rw [eM 239 (by decide) (by decide) (by decide), eM 240 (by decide) (by decide) (by decide)]
    rw [this, eM 239 (by decide) (by decide) (by decide), eM 241 (by decide) (by decide) (by decide), eM 242 (by decide) (by decide) (by decide), eM 243 (by decide) (by decide) (by decide), eM 244 (by decide) (by decide) (by decide), eM 245 (by decide) (by decide) (by decide), eM 246 (by decide) (by decide) (by decide), eM 247 (by decide) (by decide) (by decide)]
  have eS : μ' s = μ s ∧ μ' (s + 2) = μ (s + 2) ∧ μ' (s + 3) = μ (s + 3) := ⟨eC s (by omega), eC (s + 2) (by omega), eC (s + 3) (by omega)⟩
  refine ⟨a, ⟨b1, b2, b3⟩, ⟨c1, c2, c3⟩, ⟨d1, d2, d3, ?_⟩, e, ?_, ?_, ?_, ?_⟩
  · unfold stOk at d4 ⊢
    rw [eS.1, eS.2.1, eS.2.2]
    exact d4
  · rw [eC l (by omega), eC (l + 1) (by omega), eM 256 (by decide) (by decide) (by decide), eM 257 (by decide) (by decide) (by decide)]
    exact f
  · rw [C2, M2 0 (by omega)]
    exact g
  · rw [kC, kM, eM 239 (by decide) (by decide) (by decide)]
    exact h
  · intro he
    have hi := i he
    unfold refOk rtN rtC at hi ⊢
    rw [eS.1, eS.2.1, eS.2.2, eM 254 (by decide) (by decide) (by decide), eM 255 (by decide) (by decide) (by decide)]
    exact hi
/-- what a search ends with: steps, over, begin and end, groups -/
def SOut (μ ν : Nat → Nat → Int) (fr len : Int) : Prop := ν 233 21 = μ 32 4 ∧ 0 ≤ μ 32 4 ∧ μ 32 4 ≤ μ 32 0 ∧ ν 233 22 = μ 32 5 ∧ ν 233 23 = μ 32 2 ∧
  ((μ 32 5 = 0 ∧ fr ≤ μ 32 2 ∧ μ 32 2 ≤ μ 32 3 ∧ μ 32 3 ≤ len ∧ ν 233 24 = μ 32 3 ∧ ∀ g, g < 6 → ν 252 g = μ 33 g ∧ -1 ≤ μ 33 g ∧ μ 33 g ≤ len) ∨ ((μ 32 5 = 0 ∨ μ 32 5 = 1) ∧ μ 32 2 = -1 ∧ μ 32 3 = -1))
