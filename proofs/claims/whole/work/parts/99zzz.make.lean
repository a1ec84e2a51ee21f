/-! A rule is made: the model's side, and both to the end -/
/-- what stays in the model below the slots of rule r -/
def FrJ (r : Nat) (ν ν' : Nat → Nat → Int) : Prop := (∀ c j, c < 239 ∨ 251 < c → ν' c j = ν c j) ∧ (∀ c j, c = 239 ∨ c = 247 → j < 2 * r → ν' c j = ν c j) ∧ ∀ c j, 240 ≤ c → c ≤ 246 → j < 42 * r → ν' c j = ν c j
theorem FrK.m {pt r : Nat} {ν ν' : Nat → Nat → Int} (h : FrK pt ν ν') (hp : 2 * r ≤ pt) : FrJ r ν ν' := ⟨h.1, fun c j h1 h2 => h.2.1 c j h1 (by omega), fun c j h1 h2 h3 => h.2.2 c j h1 h2 (by omega)⟩
theorem FrJ.tr {r : Nat} {a b c : Nat → Nat → Int} (h : FrJ r a b) (g : FrJ r b c) : FrJ r a c := ⟨fun x j h1 => (g.1 x j h1).trans (h.1 x j h1), fun x j h1 h2 => (g.2.1 x j h1 h2).trans (h.2.1 x j h1 h2), fun x j h1 h2 h3 => (g.2.2 x j h1 h2 h3).trans (h.2.2 x j h1 h2 h3)⟩
theorem FrK.rf {pt : Nat} {ν : Nat → Nat → Int} : FrK pt ν ν := ⟨fun _ _ _ => rfl, fun _ _ _ _ => rfl, fun _ _ _ _ _ => rfl⟩
section Mak
variable {L : Nat} {ρ : Nat → Nat → Nat} {μ ν : Nat → Nat → Int} {R r : Nat}
theorem e_sc0 {sp : Int} {h : zH} (g : ¬ (1 ≤ sp ∧ sp ≤ 99)) : f_SL_isScope sp h = some (0, h) := by
  unfold f_SL_isScope
  by_cases h1 : sp < 1
  · rw [if_pos h1]
  · rw [if_neg h1, if_pos (show 99 < sp by omega)]
theorem e_sc1 {sp : Int} {h : zH} (g : 1 ≤ sp ∧ sp ≤ 99) : f_SL_isScope sp h = some (1, h) := by
  unfold f_SL_isScope
  rw [if_neg (show ¬ sp < 1 by omega), if_neg (show ¬ 99 < sp by omega)]
theorem m_isP {a b e z : Int} {ν0 ν' : Nat → Nat → Int} (h1 : f_Mo_lift 233 20 a b (SH L, ρ, ν) = some (SH L, ρ, ν0)) (h2 : f_Mo_parse 233 20 e (SH L, ρ, ν0) = some (z, (SH L, ρ, ν'))) (hz : z = 0 ∨ z = 1) : f_Mo_isPattern 233 a b e (SH L, ρ, ν) = some (z, (SH L, ρ, ν')) := by
  have hb : z_bo z = some z := by
    unfold z_bo
    rw [if_pos hz]
  unfold f_Mo_isPattern
  rw [zck_k s_233, Option.bind_some, h1, Option.bind_some, zck_k s_233, Option.bind_some, h2, Option.bind_some]
  show (z_bo z).bind _ = _
  rw [hb, Option.bind_some]
theorem m_make (rm : Rm ρ) (h3 : ν 233 3 = R) (hr : r = R + 1) (r9 : r ≤ 9) {ho sp is b z : Int} {ν1 ν0 ν2 : Nat → Nat → Int} (e1 : ν1 = z_up (z_up (z_up (z_up ν 233 3 (r : Int)) 236 r ho) 237 r sp) 235 r (is % 2)) (l : f_Mo_lift 233 ((2 * r : Nat) : Int) 0 b (SH L, ρ, ν1) = some (SH L, ρ, ν0)) (p : f_Mo_parse 233 ((2 * r : Nat) : Int) 0 (SH L, ρ, ν0) = some (z, (SH L, ρ, ν2))) (k0 : FrK (2 * r) ν1 ν0) : f_Mo_make 233 ho sp is b (SH L, ρ, ν) = if is = 0 then f_Mo_make_105 233 (SH L, ρ, ν2) else ((z_gI (SH L, ρ, ν2) 9 233 3).bind fun v22 => (z_gI (SH L, ρ, ν2) 9 233 1).bind fun v23 => (z_ck (SH L, ρ, ν2) 9 233).bind fun _ => (f_Mo_lift 233 (zw ((zw (2 * v22)) + 1)) (zw (b + 1)) v23 (SH L, ρ, ν2)).bind fun h25 => (z_gI h25 9 233 3).bind fun v26 => (z_ck h25 9 233).bind fun _ => (f_Mo_parse 233 (zw ((zw (2 * v26)) + 1)) 1 h25).bind fun q28 => f_Mo_make_105 233 q28.2) := by
  have v1 : ν1 233 3 = r := by rw [e1, z_up_ne (by decide), z_up_ne (by decide), z_up_ne (by decide), z_up_eq]
  have v0 : ν0 233 3 = r := (k0.1 233 3 (by omega)).trans v1
  unfold f_Mo_make
  rw [zgI_k s_233, Option.bind_some, h3, zw_of (x := (R : Int) + 1) (by omega) (by omega), show (R : Int) + 1 = (r : Int) by omega, zpI_k s_233, Option.bind_some, zgR_k s_233 (m_5 rm) (by decide), Option.bind_some, zgI_k s_233, Option.bind_some, z_up_eq, zsI_k s_236 (by omega) (by omega), Option.bind_some, Int.toNat_natCast, zgR_k s_233 (m_6 rm) (by decide), Option.bind_some, zgI_k s_233, Option.bind_some, z_up_ne (by decide), z_up_eq, zsI_k s_237 (by omega) (by omega), Option.bind_some, Int.toNat_natCast, zgR_k s_233 (m_4 rm) (by decide), Option.bind_some, zgI_k s_233, Option.bind_some, z_up_ne (by decide), z_up_ne (by decide), z_up_eq, zsI_k s_235 (by omega) (by omega), Option.bind_some, Int.toNat_natCast, ← e1, zgI_k s_233, Option.bind_some, v1, zck_k s_233, Option.bind_some, zw_of (x := 2 * (r : Int)) (by omega) (by omega), show 2 * (r : Int) = ((2 * r : Nat) : Int) by omega, l, Option.bind_some, zgI_k s_233, Option.bind_some, v0, zck_k s_233, Option.bind_some, zw_of (x := 2 * (r : Int)) (by omega) (by omega), show 2 * (r : Int) = ((2 * r : Nat) : Int) by omega, p, Option.bind_some]
/-- both to the end -/
theorem mk_fin {μ2 νb ν1 ν2 : Nat → Nat → Int} {ho sp is : Int} (rc : Rc ρ) (rm : Rm ρ) (dc : Dc ρ) (hr : Rel ρ μ ν) (hR : μ 24 1 = R) (R9 : R < 9) (hq : r = R + 1) (hsp : 1 ≤ sp ∧ sp ≤ 99) (his : is = 0 ∨ is = 1) (hC : FrU r μ μ2) (hK : FrK 20 ν νb) (e1 : ν1 = z_up (z_up (z_up (z_up νb 233 3 (r : Int)) 236 r ho) 237 r sp) 235 r (is % 2)) (hM : FrJ r ν1 ν2) (hp1 : RPat μ2 ν2 (37 + 13 * r) (2 * r) false) (hp2 : is = 1 → RPat μ2 ν2 (43 + 13 * r) (2 * r + 1) true) : ∃ μ' ν' : Nat → Nat → Int, ((z_ck (SH L, ρ, μ2) 0 1).bind fun _ => (f_SL_addRule 1 ho sp is (SH L, ρ, μ2)).bind fun q17 => (z_ck q17.2 0 1).bind fun _ => (f_SL_tokenizeFrom 1 0 1 q17.2).bind fun q19 => some (q17.1, q19.2)) = some ((r : Int), (SH L, ρ, μ')) ∧ f_Mo_make_105 233 (SH L, ρ, ν2) = some ((r : Int), (SH L, ρ, ν')) ∧ FrB μ μ' ∧ FrD ν ν' ∧ Rel ρ μ' ν' := by
  have is2 : is % 2 = is := by omega
  rw [is2] at e1
  have R2 : μ2 24 1 = R := (hC 24 1 (by omega) (by omega)).trans hR
  have o1 : ∀ c j, ¬ (c = 233 ∧ j = 3) → ¬ (235 ≤ c ∧ c ≤ 237 ∧ j = r) → ν1 c j = νb c j := fun c j h1 h2 => by
    rw [e1, z_up, if_neg (by omega), z_up, if_neg (by omega), z_up, if_neg (by omega), z_up, if_neg (by omega)]
  have m3 : ν2 233 3 = r := by
    rw [hM.1 233 3 (by omega), e1, z_up_ne (by decide), z_up_ne (by decide), z_up_ne (by decide), z_up_eq]
  have mv : ν2 236 r = ho ∧ ν2 237 r = sp ∧ ν2 235 r = is := by
    rw [hM.1 236 r (by omega), hM.1 237 r (by omega), hM.1 235 r (by omega), e1]
    exact ⟨by rw [z_up_ne (by decide), z_up_ne (by decide), z_up_eq], by rw [z_up_ne (by decide), z_up_eq], z_up_eq⟩
  have rel := hr.add2 dc hR R9 hq hsp his hC (fun c j h1 h2 h3 => ((hM.1 c j h1).trans (o1 c j h2 h3)).trans (hK.1 c j h1)) (fun c j h1 h2 => ((hM.2.1 c j h1 h2).trans (o1 c j (by omega) (by omega))).trans (hK.2.1 c j h1 (by omega))) (fun c j h1 h2 h3 => ((hM.2.2 c j h1 h2 h3).trans (o1 c j (by omega) (by omega))).trans (hK.2.2 c j h1 h2 (by omega))) m3 mv hp1 hp2
  obtain ⟨a, μ', ν', t1, t2, t3, t4, t5, -, t7⟩ := all_both (L := L) rc rm dc rel
  refine ⟨μ', ν', ?_, ?_, fun c j g => ?_, fun c j g => ?_, t5⟩
  · rw [zck_k s_1, Option.bind_some, e_add rc R2 hq (by omega) his, Option.bind_some]
    dsimp only
    rw [zck_k s_1, Option.bind_some, t1, Option.bind_some]
  · unfold f_Mo_make_105
    rw [zpI_k s_233, Option.bind_some, zck_k s_233, Option.bind_some, t2, Option.bind_some, zgI_k s_233, Option.bind_some, t7, z_up_nj (by decide), m3]
  · rw [t3 c j g, z_up_ne (by omega), z_up_ne (by omega), z_up_ne (by omega), z_up_ne (by omega), z_up_ne (by omega)]
    exact hC c j (by omega) (by omega)
  · rw [t4 c j g, z_up_ne (by omega), hM.1 c j (by omega), o1 c j (by omega) (by omega), hK.1 c j (by omega)]
end Mak
