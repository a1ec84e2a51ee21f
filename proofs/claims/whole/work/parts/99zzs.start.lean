/-! Both parsers' start -/
def pg0 : PG := (fun _ => false, fun _ => 0, fun _ => 0, fun _ => 0, fun _ => 0, fun _ => 0, fun _ => 0, fun _ => 0)
theorem pg0_K (x : Nat) : pg0.K x ≠ true := fun z => by
  have : false = true := z
  cases this
theorem pg0_cn (m : Nat) : cn pg0.K m = 0 := (cn_gap2 (a := 0) (Nat.zero_le m) fun x _ _ => pg0_K x).trans rfl
theorem PIv.start {τ : Tx} {slo shi lo ll be se : Nat → Int} (hn : τ.n ≤ 20) (hf : τ.fb = -1) (h1 : lo 0 = -1) (h2 : ll 0 = -1) (h3 : be 0 = 1) (h4 : se 0 = 0) : PIv pg0 τ 0 slo shi 0 0 0 lo ll be se (fun _ => 0) := by
  have pu : cn (puK pg0) 84 = 0 := (cn_gap2 (a := 0) (Nat.zero_le 84) fun x _ _ z => by
    unfold puK at z
    rw [Bool.and_eq_true] at z
    exact pg0_K x z.1).trans rfl
  refine ⟨⟨Nat.zero_le _, hn, Nat.le_refl _, by decide, by decide⟩, ⟨fun x z => absurd z (pg0_K x), fun m => pg0_K _, fun m z => absurd z (pg0_K _), fun m z => absurd z (pg0_K _), fun m z => absurd z (pg0_K _), fun m _ => rfl, fun z => absurd z (Nat.lt_irrefl _)⟩, fun x z => absurd z (pg0_K x), fun k hk => absurd hk (Nat.not_lt_zero k), Or.inl ⟨hf, pg0_K _⟩, fun l hl => ?_, ?_, ?_, ?_⟩
  · have e : l = 0 := by omega
    subst e
    refine ⟨Or.inl ⟨rfl, h1⟩, ⟨by omega, by omega⟩, pg0_K _, fun _ => hf, fun y hy => by omega, rfl, ⟨Or.inr h3, Or.inl h4⟩, fun z => absurd z (Nat.lt_irrefl _), fun y hy => absurd hy (Nat.not_lt_zero y), fun y hy => absurd hy (Nat.not_lt_zero y), ⟨fun x z => absurd z (pg0_K x), fun o ho => by omega⟩, fun _ => 0, by rw [h1]; rfl, by rw [h2]; rfl, fun m hm => absurd hm (Nat.not_lt_zero m), fun y hy => absurd hy (Nat.not_lt_zero y)⟩
  · rw [h3]
    rfl
  · rw [pu]
    exact Nat.le_refl _
  · rw [pg0_cn]
    exact Nat.zero_le _
theorem PHp.start {p pt n : Nat} {en : Bool} {c : Nat → Int} {μ ν : Nat → Nat → Int} (hs : Src μ n c) (ht : tA ν pt = c) (h9 : ν 239 pt = n) (hb : ∀ j, j < n → c j ≠ 32) (f : μ 3 2 = 0 ∧ μ 3 3 = enI en ∧ μ 3 4 = 0 ∧ μ 3 5 = 0 ∧ μ 3 6 = 0) (hp : μ p 5 = 0 ∧ μ p 6 = 0) (l : μ 6 0 = 0 ∧ μ 7 0 = 0 ∧ μ 8 0 = 0 ∧ μ 9 0 = 1 ∧ μ 10 0 = 0) (m : ν 248 0 = -1 ∧ ν 249 0 = -1 ∧ ν 250 0 = 0 ∧ ν 251 0 = 1 ∧ ν 247 pt = -1) : PHp p pt n en c μ ν pg0 0 0 0 0 (fun _ => 0) := by
  have n20 := hs.2.1
  refine ⟨⟨hs, ht, h9, hb⟩, f, ⟨by rw [pg0_cn]; exact hp.1, hp.2⟩, ⟨fun x z => absurd z (pg0_K x), rfl, fun x z => absurd z (pg0_K x)⟩, fun l' hl => ?_, PIv.start (show (ν 239 pt).toNat ≤ 20 by omega) m.2.2.2.2 m.1 m.2.1 m.2.2.2.1 m.2.2.1⟩
  have e : l' = 0 := by omega
  subst e
  rw [pg0_cn, pg0_cn]
  exact ⟨l.1, l.2.1, l.2.2.1, l.2.2.2.1.trans m.2.2.2.1.symm, l.2.2.2.2.trans m.2.2.1.symm, fun z => by omega⟩
