def refOk (μ ν : Nat → Nat → Int) (s : Nat) : Prop := ∀ t : Nat, t < 2 → ν 254 t ≤ 24 ∧ (ν 254 t).toNat = rtN μ s (1 + t) ∧ ∀ i : Nat, i < rtN μ s (1 + t) → ν 255 (24 * t + i) = rtC μ s (1 + t) i
def Sta (L : Nat) (ρ : Nat → Nat → Nat) (μ ν : Nat → Nat → Int) (p pt l k s : Nat) (en : Bool) (γ : Gh) : Prop :=
  (Rc ρ ∧ Rm ρ) ∧ (ptS L p ∧ ptR ρ p ∧ 36 ≤ p) ∧ (lnS L l ∧ lnR ρ l ∧ 36 ≤ l) ∧ (stS L s ∧ stR ρ s ∧ s + 3 < 32 ∧ stOk μ s) ∧ (pt < 22 ∧ k < 6) ∧
  (lOk (μ l 1) (μ (l + 1)) ∧ ν 256 k = μ l 1 ∧ ∀ c : Nat, (c : Int) < μ l 1 → ν 257 (24 * k + c) = μ (l + 1) c) ∧
  (0 ≤ μ 32 0 ∧ μ 32 0 ≤ 300 ∧ ν 233 0 = μ 32 0) ∧ (ν 239 pt ≤ 20 ∧ GhOk (codOf μ p) (txOf ν pt en) γ) ∧ (en = true → refOk μ ν s)
section Css
variable {L : Nat} {ρ : Nat → Nat → Nat} {μ ν : Nat → Nat → Int} {p pt l k s : Nat} {en : Bool} {γ : Gh}
theorem cs_match (S : Sta L ρ μ ν p pt l k s en γ) {x w : Nat} {st he : Int} {H W P : Nat → Int} (ho : (codOf μ p).op x = 9) (hx : x < γ.z) : f_Se_doNext 32 p l s (SH L, ρ, SM μ st 0 x he 0 w H W P) = some (0, (SH L, ρ, SM μ st 0 x he 1 w H W P)) := by
  obtain ⟨⟨rc, rm⟩, ⟨hp, pr, hp6⟩, -, -, -, -, -, ⟨-, hz, -⟩, -⟩ := S
  exact dn_match hp pr hp6 (by omega) (by omega) (by rw [Int.toNat_natCast]; exact ho)
theorem cs_jump (S : Sta L ρ μ ν p pt l k s en γ) {x y w : Nat} {st he : Int} {H W P : Nat → Int} (hj : JPc (codOf μ p) γ x y) : f_Se_doNext 32 p l s (SH L, ρ, SM μ st 0 x he 0 w H W P) = some (1, (SH L, ρ, SM μ st 0 y he 0 w H W P)) := by
  obtain ⟨⟨rc, rm⟩, ⟨hp, pr, hp6⟩, -, -, -, -, -, ⟨-, hz, -⟩, -⟩ := S
  obtain ⟨j1, j2, j3, j4, j5⟩ := hj
  have e : (x : Int) + μ (p + 2) (x : Int).toNat = y := by rw [Int.toNat_natCast]; exact j2
  rw [dn_jump hp pr hp6 (by omega) (by omega) (by rw [Int.toNat_natCast]; exact j1) (by omega) (by omega), e]
theorem cs_split (S : Sta L ρ μ ν p pt l k s en γ) {x y z' w : Nat} {st he : Int} {H W P : Nat → Int} (hj : SPc (codOf μ p) γ x y z') (hw : w < 500) : f_Se_doNext 32 p l s (SH L, ρ, SM μ st 0 x he 0 w H W P) = some (1, (SH L, ρ, SM μ st 0 y he 0 ((w + 1 : Nat) : Int) H (ud W w z') (ud P w he))) := by
  obtain ⟨⟨rc, rm⟩, ⟨hp, pr, hp6⟩, -, -, -, -, -, ⟨-, hz, -⟩, -⟩ := S
  obtain ⟨j1, j2, j3, j4, j5, j6, j7, j8⟩ := hj
  have e : (x : Int) + μ (p + 2) (x : Int).toNat = y := by rw [Int.toNat_natCast]; exact j2
  have e2 : (x : Int) + μ (p + 3) (x : Int).toNat = z' := by rw [Int.toNat_natCast]; exact j3
  rw [dn_split rc hp pr hp6 (by omega) (by omega) (by rw [Int.toNat_natCast]; exact j1) (by omega) (by omega) (by omega) (by omega) (by omega) (by omega), e, e2, Int.toNat_natCast]
  rfl
theorem cs_edge (S : Sta L ρ μ ν p pt l k s en γ) {x g w : Nat} {st he : Int} {H W P : Nat → Int} (hj : GEc (codOf μ p) γ x g) (hg : g < 6) (hw : w < 500) : f_Se_doNext 32 p l s (SH L, ρ, SM μ st 0 x he 0 w H W P) = some (1, (SH L, ρ, SM μ st 0 ((x + 1 : Nat) : Int) he 0 ((w + 1 : Nat) : Int) (ud H g he) (ud W w (-1 - (g : Int))) (ud P w (H g)))) := by
  obtain ⟨⟨rc, rm⟩, ⟨hp, pr, hp6⟩, -, -, -, -, -, ⟨-, hz, -⟩, -⟩ := S
  obtain ⟨j1, j2, j3, j4⟩ := hj
  have e : μ (p + 2) (x : Int).toNat = g := by rw [Int.toNat_natCast]; exact j2
  rw [dn_edge rc hp pr hp6 (by omega) (by omega) (by rw [Int.toNat_natCast]; exact j1) (by omega) (by omega) hw, e, Int.toNat_natCast]
  rfl
end Css
/-- what both runs end with -/
def Out (μ ν : Nat → Nat → Int) (bl len : Int) (fC fM : Nat → Nat → Int) : Prop := ∃ (st ov nx he mt wc : Int) (H W P : Nat → Int) (mto nc : Int) (G C : Nat → Int), fC = SM μ st ov nx he mt wc H W P ∧ fM = MM ν st ov mto nc G C ∧ 0 ≤ st ∧ st ≤ μ 32 0 ∧ ((mt = 1 ∧ ov = 0 ∧ mto = he ∧ bl ≤ he ∧ he ≤ len ∧ (∀ g, g < 6 → G g = H g) ∧ bdG len H) ∨ (mt = 0 ∧ mto = -1 ∧ (ov = 0 ∨ ov = 1)))
/-- the searches side by side, from the measure M down -/
def Sim (L : Nat) (ρ : Nat → Nat → Nat) (μ ν : Nat → Nat → Int) (p pt l k s : Nat) (en : Bool) (γ : Gh) (bl mt : Int) (M : Nat) : Prop := ∀ (mo i : Nat) (he : Int) (st m : Nat) (G C : Nat → Int) (w : Nat) (H W P : Nat → Int), okN (txOf ν pt en) γ mo i → Cg (codOf μ p) (txOf ν pt en) γ bl (μ l 1) (γ.nd mo i) he m G C w H W P → (st : Int) ≤ μ 32 0 → 65 * (301 - st) + γ.ps (txOf ν pt en) mo i + 1 ≤ M → ∃ fC fM, CR L ρ μ p l s (42 * (301 - st) + γ.ph (γ.nd mo i) + 1) st (γ.nd mo i : Nat) he w H W P fC ∧ MR L ρ ν pt k mt (65 * (301 - st) + γ.ps (txOf ν pt en) mo i + 1) mo i he st m G C fM ∧ Out μ ν bl (μ l 1) fC fM
section Sims
variable {L : Nat} {ρ : Nat → Nat → Nat} {μ ν : Nat → Nat → Int} {p pt l k s : Nat} {en : Bool} {γ : Gh} {bl mt : Int} {M : Nat}
/-- way back: what the class's goBack and the model's FAIL come to -/
theorem sim_back (S : Sta L ρ μ ν p pt l k s en γ) (ih : Sim L ρ μ ν p pt l k s en γ bl mt M) {x m w st : Nat} {he nx : Int} {G C H W P : Nat → Int} (hc : Cg (codOf μ p) (txOf ν pt en) γ bl (μ l 1) x he m G C w H W P) (hst : (st : Int) ≤ μ 32 0) (hM : 65 * (301 - st) + 64 ≤ M) (he2 : Int) (i : Nat) :
    ∃ fC fM, (gbR L ρ μ st 0 nx he2 0 W P (gb W P w H) = some (0, (SH L, ρ, fC)) ∨ ∃ (nx' he' : Int) (w' : Nat) (H' : Nat → Int), gbR L ρ μ st 0 nx he2 0 W P (gb W P w H) = some (1, (SH L, ρ, SM μ st 0 nx' he' 0 w' H' W P)) ∧ CR L ρ μ p l s (42 * (301 - st) + 42) st nx' he' w' H' W P fC) ∧ MR L ρ ν pt k mt (65 * (301 - st) + 65) 4 i he st m G C fM ∧ Out μ ν bl (μ l 1) fC fM := by
  obtain ⟨⟨rc, rm⟩, -, -, -, -, hl, ⟨b0, b3, bn⟩, ⟨hn, hz, hpu, -⟩, -⟩ := S
  obtain ⟨c1, c2, c3, c4, c5, c6, c7⟩ := hc
  have h500 : w ≤ 500 := by
    have := pc_20 hpu x
    have := hl.1.2.1
    omega
  cases m with
  | zero =>
    have hnone : (gb W P w H).1 = none := c5
    refine ⟨SM μ st 0 nx he2 0 0 (gb W P w H).2 W P, MM ν st 0 (-1) 0 G C, Or.inl ?_, ?_, ?_⟩
    · unfold gbR
      rw [hnone]
    · intro N x hx hN
      obtain ⟨N, rfl⟩ : ∃ k, N = k + 1 := ⟨N - 1, by omega⟩
      exact mt_stop (by omega) (Or.inl rfl)
    · exact ⟨st, 0, nx, he2, 0, 0, _, W, P, -1, 0, G, C, rfl, rfl, by omega, hst, Or.inr ⟨rfl, rfl, Or.inl rfl⟩⟩
  | succ m =>
    have hm := SR_le _ _ _ c5
    obtain ⟨w', mo, j, pl, h1, h2, h3, h4, h5, h6, h7, h8, h9⟩ := c5
    have hq := gb_some w H h1
    simp only at hq
    obtain ⟨q1, q2, q3, q4⟩ := hq
    have hk := (c7 w' q1).2.2 q4
    rw [← q2, ← q3, Int.toNat_natCast] at hk
    have hcg : Cg (codOf μ p) (txOf ν pt en) γ bl (μ l 1) (γ.nd mo j) pl m (ppG C G m) C w' (gb W P w H).2 W P := by
      refine ⟨⟨c1.1, h7⟩, h8, ?_, gb_bd w H c7 c4, h9, hk, fun k hk => c7 k (by omega)⟩
      intro g hg
      unfold ppG
      rw [if_pos hg]
      exact h5 g hg
    have hps := ps_63 (τ := txOf ν pt en) (γ := γ) mo j
    have hph := ph_40 (γ := γ) (γ.nd mo j)
    obtain ⟨fC, fM, r1, r2, r3⟩ := ih mo j pl st m (ppG C G m) C w' (gb W P w H).2 W P h6 hcg hst (by omega)
    refine ⟨fC, fM, Or.inr ⟨(γ.nd mo j : Nat), pl, w', (gb W P w H).2, ?_, CR_mono r1 (by omega)⟩, ?_, r3⟩
    · unfold gbR
      rw [h1]
    · refine MR_turn (mm' := 65 * (301 - st) + γ.ps (txOf ν pt en) mo j + 1) (mo' := mo) (i' := j) (he' := pl) (st' := st) (m' := m) (G' := ppG C G m) (C' := C) (fun n x hx => ?_) r2 (by omega)
      refine (mt_pop (m := m) rm hx (by omega)).trans ?_
      rw [h2, h3, h4]
end Sims
