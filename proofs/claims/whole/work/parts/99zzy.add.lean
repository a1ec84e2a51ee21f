/-! A rule is added -/
/-- what stays when the class tries a pattern in rule r -/
def FrU (r : Nat) (μ μ' : Nat → Nat → Int) : Prop := ∀ c j, c < 3 ∨ 10 < c → c < 37 + 13 * r ∨ 48 + 13 * r < c → μ' c j = μ c j
theorem FrP.u {p r : Nat} {μ μ' : Nat → Nat → Int} (h : FrP p μ μ') (hp : p = 37 + 13 * r ∨ p = 43 + 13 * r) : FrU r μ μ' := fun c j h1 h2 => h c j h1 (by omega)
theorem FrU.tr {r : Nat} {a b c : Nat → Nat → Int} (h : FrU r a b) (g : FrU r b c) : FrU r a c := fun x j h1 h2 => (g x j h1 h2).trans (h x j h1 h2)
theorem FrK.tr {pt : Nat} {a b c : Nat → Nat → Int} (h : FrK pt a b) (g : FrK pt b c) : FrK pt a c := ⟨fun x j h1 => (g.1 x j h1).trans (h.1 x j h1), fun x j h1 h2 => (g.2.1 x j h1 h2).trans (h.2.1 x j h1 h2), fun x j h1 h2 h3 => (g.2.2 x j h1 h2 h3).trans (h.2.2 x j h1 h2 h3)⟩
section Add
variable {L : Nat} {ρ : Nat → Nat → Nat} {μ ν μ' ν' : Nat → Nat → Int} {R r : Nat}
theorem Rel.pu (h : Rel ρ μ ν) (dc : Dc ρ) (hR : μ 24 1 = R) (hr : r = R + 1) (r10 : r ≤ 10) (hC : FrU r μ μ') (hM : FrK 20 ν ν') : Rel ρ μ' ν' :=
  h.pk dc (fun c j h1 h2 => hC c j h1 (by omega)) (fun q j off h1 h2 => hC _ j (by omega) (by omega)) (fun q h1 j => hC _ j (by omega) (by omega)) hM (fun c j h1 h2 => hC c j (by omega) (by omega))
theorem e_nextR (rc : Rc ρ) (hR : μ 24 1 = R) (hr : r = R + 1) (r10 : r ≤ 10) : f_Gr_nextRule 24 (SH L, ρ, μ) = some (36 + 13 * r, (SH L, ρ, μ)) := by
  obtain ⟨-, -, pr3, -, -⟩ := r_pt rc (show r < 11 by omega)
  unfold f_Gr_nextRule
  rw [zgR_k s_24 rc.2.2.2.2.1.1 (by decide), Option.bind_some, zgI_k s_24, Option.bind_some, hR, zw_of (by omega) (by omega), show (R : Int) + 1 = (r : Int) by omega, e_rule pr3 (by omega), Option.bind_some]
theorem e_add (rc : Rc ρ) (hR : μ 24 1 = R) (hr : r = R + 1) (r9 : r ≤ 9) {ho sp is : Int} (his : is = 0 ∨ is = 1) : f_SL_addRule 1 ho sp is (SH L, ρ, μ) = some ((r : Int), (SH L, ρ, z_up (z_up (z_up (z_up (z_up μ (36 + 13 * r) 3 ho) (36 + 13 * r) 4 sp) (36 + 13 * r) 2 is) 24 1 (r : Int)) 1 1 0)) := by
  unfold f_SL_addRule f_Gr_keepNextRule
  rw [zgR_k s_1 rc.1.2.2.1 (by decide), Option.bind_some, zck_k s_24, Option.bind_some, Option.bind_some, e_nextR (L := L) rc hR hr (by omega), Option.bind_some]
  dsimp only
  rw [zpI_k (sr_0 (show r < 11 by omega)), Option.bind_some, zpI_k (sr_0 (show r < 11 by omega)), Option.bind_some, zpZ_k (sr_0 (show r < 11 by omega)) his, Option.bind_some, zgI_k s_24, Option.bind_some, z_up_ne (by omega), z_up_ne (by omega), z_up_ne (by omega), hR, zw_of (by omega) (by omega), show (R : Int) + 1 = (r : Int) by omega, zpI_k s_24, Option.bind_some, Option.bind_some, zpI_k s_1, Option.bind_some, zgR_k s_1 rc.1.2.2.1 (by decide), Option.bind_some, zgI_k s_24, Option.bind_some, z_up_ne (by decide), z_up_eq]
/-- what class and model have in common behind it -/
theorem Rel.add2 {μ2 ν2 : Nat → Nat → Int} {ho sp is : Int} (h : Rel ρ μ ν) (dc : Dc ρ) (hR : μ 24 1 = R) (R9 : R < 9) (hr : r = R + 1) (hsp : 1 ≤ sp ∧ sp ≤ 99) (his : is = 0 ∨ is = 1) (hC : FrU r μ μ2)
    (hM : ∀ c j, c < 239 ∨ 251 < c → ¬ (c = 233 ∧ j = 3) → ¬ (235 ≤ c ∧ c ≤ 237 ∧ j = r) → ν2 c j = ν c j) (hM2 : ∀ c j, c = 239 ∨ c = 247 → j < 2 * r → ν2 c j = ν c j) (hM3 : ∀ c j, 240 ≤ c → c ≤ 246 → j < 42 * r → ν2 c j = ν c j) (m3 : ν2 233 3 = r) (mv : ν2 236 r = ho ∧ ν2 237 r = sp ∧ ν2 235 r = is)
    (hp1 : RPat μ2 ν2 (37 + 13 * r) (2 * r) false) (hp2 : is = 1 → RPat μ2 ν2 (43 + 13 * r) (2 * r + 1) true) : Rel ρ (z_up (z_up (z_up (z_up (z_up μ2 (36 + 13 * r) 3 ho) (36 + 13 * r) 4 sp) (36 + 13 * r) 2 is) 24 1 (r : Int)) 1 1 0) (z_up ν2 233 1 0) := by
  obtain ⟨μ3, h3⟩ : ∃ x, x = z_up (z_up (z_up (z_up (z_up μ2 (36 + 13 * r) 3 ho) (36 + 13 * r) 4 sp) (36 + 13 * r) 2 is) 24 1 (r : Int)) 1 1 0 := ⟨_, rfl⟩
  rw [← h3]
  have o : ∀ c j, c ≠ 36 + 13 * r → ¬ (c = 24 ∧ j = 1) → ¬ (c = 1 ∧ j = 1) → μ3 c j = μ2 c j := fun c j h1 h2 h4 => by
    rw [h3, z_up, if_neg h4, z_up, if_neg h2, z_up_ne h1, z_up_ne h1, z_up_ne h1]
  have v : μ3 (36 + 13 * r) 3 = ho ∧ μ3 (36 + 13 * r) 4 = sp ∧ μ3 (36 + 13 * r) 2 = is ∧ μ3 (36 + 13 * r) 5 = μ2 (36 + 13 * r) 5 := by
    rw [h3]
    exact ⟨by rw [z_up_ne (by omega), z_up_ne (by omega), z_up_nj (by decide), z_up_nj (by decide), z_up_eq], by rw [z_up_ne (by omega), z_up_ne (by omega), z_up_nj (by decide), z_up_eq], by rw [z_up_ne (by omega), z_up_ne (by omega), z_up_eq], by rw [z_up_ne (by omega), z_up_ne (by omega), z_up_nj (by decide), z_up_nj (by decide), z_up_nj (by decide)]⟩
  refine h.add dc hR R9 hr hsp his (fun c j h1 h2 h5 h6 => (o c j (by omega) h5 h6).trans (hC c j h1 (by omega))) ?_ ?_ ?_ ⟨v.1, v.2.1, v.2.2.1⟩ (fun c j h1 h2 h5 => ?_) (fun c j h1 h2 => (z_up_ne (by omega)).trans (hM2 c j h1 h2)) (fun c j h1 h2 h5 => (z_up_ne (by omega)).trans (hM3 c j h1 h2 h5)) ((z_up_nj (by decide)).trans m3) z_up_eq ?_ ?_ (fun z => ?_)
  · rw [v.2.2.2]
    exact hC _ _ (by omega) (by omega)
  · rw [h3, z_up_ne (by decide), z_up_eq]
  · rw [h3, z_up_eq]
  · rw [z_up, if_neg (by omega)]
    exact hM c j h1 (by omega) h5
  · rw [z_up_ne (by decide), z_up_ne (by decide), z_up_ne (by decide)]
    exact mv
  · exact hp1.fr (fun c j g1 g2 => o c j (by omega) (by omega) (by omega)) (fun j _ => ⟨z_up_ne (by decide), z_up_ne (by decide)⟩) (fun c j g1 g2 _ _ => z_up_ne (by omega))
  · exact (hp2 z).fr (fun c j g1 g2 => o c j (by omega) (by omega) (by omega)) (fun j _ => ⟨z_up_ne (by decide), z_up_ne (by decide)⟩) (fun c j g1 g2 _ _ => z_up_ne (by omega))
end Add
