/-! Both parsers -/
section Par
variable {L : Nat} {ρ : Nat → Nat → Nat} {p : Nat} {en : Bool} {μ : Nat → Nat → Int}
theorem e_parse0 (rc : Rc ρ) (hp : ptS L p) (hp6 : 36 ≤ p) {a b n D : Nat} (h2 : (SH L)[2]? = some (21, D)) (hD : b ≤ D) (hD2 : D < 100000) (hab : a + n = b) (n1 : 1 ≤ n) (n20 : n ≤ 20) {c : Nat → Int} (hc : ∀ j, j < n → μ 2 (a + j) = c j ∧ 32 ≤ c j ∧ c j ≤ 126) (hc0 : ∀ j, n ≤ j → c j = 0) : ∃ (bl : Int) (μ0 : Nat → Nat → Int), f_Pr_parse 3 2 (a : Int) (b : Int) (enI en) p (SH L, ρ, μ) = f_Pr_parse_80 100000 3 p 0 (SH L, ρ, μ0) ∧ FrP p μ μ0 ∧ Src μ0 n c ∧ (μ0 3 2 = 0 ∧ μ0 3 3 = enI en ∧ μ0 3 4 = bl ∧ μ0 3 5 = 0 ∧ μ0 3 6 = 0) ∧ (μ0 p 5 = 0 ∧ μ0 p 6 = 0) ∧ (μ0 6 0 = 0 ∧ μ0 7 0 = 0 ∧ μ0 8 0 = 0 ∧ μ0 9 0 = 1 ∧ μ0 10 0 = 0) ∧ ((bl = 0 ∧ ∀ j, j < n → c j ≠ 32) ∨ (bl = 1 ∧ ∃ j, j < n ∧ c j = 32)) := by
  obtain ⟨μd, hd⟩ : ∃ x : Nat → Nat → Int, x = z_up (z_up (fun a' j => if a' = 4 ∧ (0 : Int).toNat ≤ j ∧ j < (0 : Int).toNat + (n : Int).toNat then z_up μ 3 1 (n : Int) 2 ((a : Int).toNat + (j - (0 : Int).toNat)) else z_up μ 3 1 (n : Int) a' j) 3 2 0) 3 3 (enI en) := ⟨_, rfl⟩
  have d1 : μd 3 1 = n := by
    rw [hd, z_up_nj (by decide), z_up_nj (by decide), if_neg (by omega), z_up_eq]
  have d4 : ∀ j, j < n → μd 4 j = c j := fun j hj => by
    rw [hd, z_up_ne (by decide), z_up_ne (by decide), if_pos (by omega), z_up_ne (by decide), show (a : Int).toNat + (j - (0 : Int).toNat) = a + j by omega]
    exact (hc j hj).1
  have do' : ∀ q j, q ≠ 3 → q ≠ 4 → μd q j = μ q j := fun q j h3 h4 => by
    rw [hd, z_up_ne h3, z_up_ne h3, if_neg (fun z => h4 z.1), z_up_ne h3]
  obtain ⟨bl, e1, e2⟩ := e_blankL (L := L) (ρ := ρ) (μ := μd) (c := c) rc d1 n20 d4 n 0 100000 (by omega) (by omega)
  have bl01 : bl = 0 ∨ bl = 1 := by
    obtain ⟨z, -⟩ | ⟨z, -⟩ := e2
    · exact Or.inl z
    · exact Or.inr z
  have en01 : enI en = 0 ∨ enI en = 1 := by
    unfold enI
    cases en
    · exact Or.inl rfl
    · exact Or.inr rfl
  have e1' : f_Pr_hasBlank 3 (SH L, ρ, μd) = some (bl, (SH L, ρ, μd)) := e1
  obtain ⟨μg, hg⟩ : ∃ x : Nat → Nat → Int, x = z_up (z_up (z_up (z_up (z_up μd 3 4 bl) 3 5 0) 3 6 0) p 5 0) p 6 0 := ⟨_, rfl⟩
  have g6 : μg 3 6 = ((0 : Nat) : Int) := by rw [hg, z_up_ne (by omega), z_up_ne (by omega), z_up_eq]; rfl
  have run : f_Pr_parse 3 2 (a : Int) (b : Int) (enI en) p (SH L, ρ, μ) = f_Pr_parse_80 100000 3 p 0 (SH L, ρ, z_up (z_up (z_up (z_up (z_up μg 6 0 0) 7 0 0) 8 0 0) 9 0 1) 10 0 0) := by
    unfold f_Pr_parse
    rw [zw_of (x := (b : Int) - a) (by omega) (by omega), show (b : Int) - a = (n : Int) by omega, if_neg (by omega), if_pos (by omega), zpI_k s_3, Option.bind_some, zgR_k s_3 rc.2.1.1 (by decide), Option.bind_some, zgI_k s_3, Option.bind_some, z_up_eq, zcp_k h2 s_4 (by omega) (by omega) (by omega) (by omega) (by omega), Option.bind_some, zpI_k s_3, Option.bind_some, zpZ_k s_3 en01, Option.bind_some, zck_k s_3, Option.bind_some, ← hd, e1', Option.bind_some]
    dsimp only
    rw [zpZ_k s_3 bl01, Option.bind_some, zpI_k s_3, Option.bind_some, zpI_k s_3, Option.bind_some, zck_k hp.1, Option.bind_some]
    unfold f_Pt_clear
    rw [zpI_k hp.1, Option.bind_some, zpI_k hp.1, Option.bind_some, Option.bind_some, ← hg, zck_k s_3, Option.bind_some, e_openLv rc (lv := 0) (by decide) g6, Option.bind_some]
  refine ⟨bl, _, run, ?_, ?_, ?_, ?_, ?_, ?_⟩
  · intro q j h1 h2
    rw [z_up_ne (by omega), z_up_ne (by omega), z_up_ne (by omega), z_up_ne (by omega), z_up_ne (by omega), hg, z_up_ne (by omega), z_up_ne (by omega), z_up_ne (by omega), z_up_ne (by omega), z_up_ne (by omega), do' q j (by omega) (by omega)]
  · have sd : Src μd n c := ⟨d1, n20, fun j hj => ⟨d4 j hj, (hc j hj).2⟩, hc0⟩
    refine sd.of ?_ (fun j => ?_)
    · rw [z_up_ne (by omega), z_up_ne (by omega), z_up_ne (by omega), z_up_ne (by omega), z_up_ne (by omega), hg, z_up_ne (by omega), z_up_ne (by omega), z_up_nj (by omega), z_up_nj (by omega), z_up_nj (by omega)]
    · rw [z_up_ne (by omega), z_up_ne (by omega), z_up_ne (by omega), z_up_ne (by omega), z_up_ne (by omega), hg, z_up_ne (by omega), z_up_ne (by omega), z_up_ne (by omega), z_up_ne (by omega), z_up_ne (by omega)]
  · have k : ∀ j, z_up (z_up (z_up (z_up (z_up μg 6 0 0) 7 0 0) 8 0 0) 9 0 1) 10 0 0 3 j = z_up (z_up (z_up μd 3 4 bl) 3 5 0) 3 6 0 3 j := fun j => by
      rw [z_up_ne (by omega), z_up_ne (by omega), z_up_ne (by omega), z_up_ne (by omega), z_up_ne (by omega), hg, z_up_ne (by omega), z_up_ne (by omega)]
    rw [k, k, k, k, k]
    exact ⟨by rw [z_up_nj (by decide), z_up_nj (by decide), z_up_nj (by decide), hd, z_up_nj (by decide), z_up_eq], by rw [z_up_nj (by decide), z_up_nj (by decide), z_up_nj (by decide), hd, z_up_eq], by rw [z_up_nj (by decide), z_up_nj (by decide), z_up_eq], by rw [z_up_nj (by decide), z_up_eq], z_up_eq⟩
  · exact ⟨by rw [z_up_ne (by omega), z_up_ne (by omega), z_up_ne (by omega), z_up_ne (by omega), z_up_ne (by omega), hg, z_up_nj (by decide), z_up_eq], by rw [z_up_ne (by omega), z_up_ne (by omega), z_up_ne (by omega), z_up_ne (by omega), z_up_ne (by omega), hg, z_up_eq]⟩
  · exact ⟨by rw [z_up_ne (by omega), z_up_ne (by omega), z_up_ne (by omega), z_up_ne (by omega), z_up_eq], by rw [z_up_ne (by omega), z_up_ne (by omega), z_up_ne (by omega), z_up_eq], by rw [z_up_ne (by omega), z_up_ne (by omega), z_up_eq], by rw [z_up_ne (by omega), z_up_eq], z_up_eq⟩
  · obtain ⟨z1, z2⟩ | ⟨z1, j, z2, z3, z4⟩ := e2
    · exact Or.inl ⟨z1, fun j hj => z2 j (Nat.zero_le _) hj⟩
    · exact Or.inr ⟨z1, j, z3, z4⟩
end Par
