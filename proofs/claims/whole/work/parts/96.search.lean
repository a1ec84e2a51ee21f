/-! The class's search as a machine of numbers: steps, over, next, here, match, count, groups, waiting, places -/
def ud (f : Nat → Int) (k : Nat) (x : Int) : Nat → Int := fun j => if j = k then x else f j
def SM (μ : Nat → Nat → Int) (st ov nx he mt wc : Int) (G W P : Nat → Int) : Nat → Nat → Int := fun c j =>
  if c = 32 then (match j with
    | 4 => st
    | 5 => ov
    | 6 => nx
    | 7 => he
    | 8 => mt
    | 11 => wc
    | _ => μ 32 j) else if c = 33 then G j else if c = 34 then W j else if c = 35 then P j else μ c j
section SMx
variable {μ : Nat → Nat → Int} {st ov nx he mt wc x : Int} {G W P : Nat → Int}
theorem SM_self (μ : Nat → Nat → Int) : μ = SM μ (μ 32 4) (μ 32 5) (μ 32 6) (μ 32 7) (μ 32 8) (μ 32 11) (μ 33) (μ 34) (μ 35) := by
  funext c j
  unfold SM
  by_cases h : c = 32
  · subst h
    rw [if_pos rfl]
    split <;> rfl
  · rw [if_neg h]
    by_cases h3 : c = 33
    · subst h3; rw [if_pos rfl]
    · rw [if_neg h3]
      by_cases h4 : c = 34
      · subst h4; rw [if_pos rfl]
      · rw [if_neg h4]
        by_cases h5 : c = 35
        · subst h5; rw [if_pos rfl]
        · rw [if_neg h5]
theorem SM_up32 (j0 : Nat) (y : Int) (f g : Nat → Nat → Int) (h : ∀ c j, ¬ (c = 32 ∧ j = j0) → f c j = g c j) (h0 : f 32 j0 = y) : z_up g 32 j0 y = f := by
  funext c j
  unfold z_up
  by_cases hc : c = 32 ∧ j = j0
  · rw [if_pos hc, hc.1, hc.2, h0]
  · rw [if_neg hc, h c j hc]
theorem SM_o (c : Nat) (hc : c ≠ 32) (h3 : c ≠ 33) (h4 : c ≠ 34) (h5 : c ≠ 35) (j : Nat) : SM μ st ov nx he mt wc G W P c j = μ c j := by
  unfold SM
  rw [if_neg hc, if_neg h3, if_neg h4, if_neg h5]
theorem SM_4 : SM μ st ov nx he mt wc G W P 32 4 = st := rfl
theorem SM_5 : SM μ st ov nx he mt wc G W P 32 5 = ov := rfl
theorem SM_6 : SM μ st ov nx he mt wc G W P 32 6 = nx := rfl
theorem SM_7 : SM μ st ov nx he mt wc G W P 32 7 = he := rfl
theorem SM_8 : SM μ st ov nx he mt wc G W P 32 8 = mt := rfl
theorem SM_11 : SM μ st ov nx he mt wc G W P 32 11 = wc := rfl
theorem SM_0 : SM μ st ov nx he mt wc G W P 32 0 = μ 32 0 := rfl
theorem SM_33 (j : Nat) : SM μ st ov nx he mt wc G W P 33 j = G j := rfl
theorem SM_34 (j : Nat) : SM μ st ov nx he mt wc G W P 34 j = W j := rfl
theorem SM_35 (j : Nat) : SM μ st ov nx he mt wc G W P 35 j = P j := rfl
theorem SM_row {j j0 : Nat} {a b : Int} {r : Nat → Int} (h : j ≠ j0) : (if j = j0 then a else r j) = r j := if_neg h
theorem SM_u4 : z_up (SM μ st ov nx he mt wc G W P) 32 4 x = SM μ x ov nx he mt wc G W P := SM_up32 4 x _ _ (fun c j h => by
  unfold SM
  by_cases hc : c = 32
  · subst hc
    rw [if_pos rfl, if_pos rfl]
    split <;> first | rfl | (exact absurd ⟨rfl, rfl⟩ h)
  · rw [if_neg hc, if_neg hc]) rfl
theorem SM_u5 : z_up (SM μ st ov nx he mt wc G W P) 32 5 x = SM μ st x nx he mt wc G W P := SM_up32 5 x _ _ (fun c j h => by
  unfold SM
  by_cases hc : c = 32
  · subst hc
    rw [if_pos rfl, if_pos rfl]
    split <;> first | rfl | (exact absurd ⟨rfl, rfl⟩ h)
  · rw [if_neg hc, if_neg hc]) rfl
theorem SM_u6 : z_up (SM μ st ov nx he mt wc G W P) 32 6 x = SM μ st ov x he mt wc G W P := SM_up32 6 x _ _ (fun c j h => by
  unfold SM
  by_cases hc : c = 32
  · subst hc
    rw [if_pos rfl, if_pos rfl]
    split <;> first | rfl | (exact absurd ⟨rfl, rfl⟩ h)
  · rw [if_neg hc, if_neg hc]) rfl
theorem SM_u7 : z_up (SM μ st ov nx he mt wc G W P) 32 7 x = SM μ st ov nx x mt wc G W P := SM_up32 7 x _ _ (fun c j h => by
  unfold SM
  by_cases hc : c = 32
  · subst hc
    rw [if_pos rfl, if_pos rfl]
    split <;> first | rfl | (exact absurd ⟨rfl, rfl⟩ h)
  · rw [if_neg hc, if_neg hc]) rfl
theorem SM_u8 : z_up (SM μ st ov nx he mt wc G W P) 32 8 x = SM μ st ov nx he x wc G W P := SM_up32 8 x _ _ (fun c j h => by
  unfold SM
  by_cases hc : c = 32
  · subst hc
    rw [if_pos rfl, if_pos rfl]
    split <;> first | rfl | (exact absurd ⟨rfl, rfl⟩ h)
  · rw [if_neg hc, if_neg hc]) rfl
theorem SM_u11 : z_up (SM μ st ov nx he mt wc G W P) 32 11 x = SM μ st ov nx he mt x G W P := SM_up32 11 x _ _ (fun c j h => by
  unfold SM
  by_cases hc : c = 32
  · subst hc
    rw [if_pos rfl, if_pos rfl]
    split <;> first | rfl | (exact absurd ⟨rfl, rfl⟩ h)
  · rw [if_neg hc, if_neg hc]) rfl
theorem SM_g (k : Nat) : z_up (SM μ st ov nx he mt wc G W P) 33 k x = SM μ st ov nx he mt wc (ud G k x) W P := by
  funext c j
  unfold z_up SM ud
  by_cases h3 : c = 33
  · subst h3
    by_cases hj : j = k
    · simp [hj]
    · simp [hj]
  · simp [h3]
theorem SM_w (k : Nat) : z_up (SM μ st ov nx he mt wc G W P) 34 k x = SM μ st ov nx he mt wc G (ud W k x) P := by
  funext c j
  unfold z_up SM ud
  by_cases h3 : c = 34
  · subst h3
    by_cases hj : j = k
    · simp [hj]
    · simp [hj]
  · simp [h3]
theorem SM_p (k : Nat) : z_up (SM μ st ov nx he mt wc G W P) 35 k x = SM μ st ov nx he mt wc G W (ud P k x) := by
  funext c j
  unfold z_up SM ud
  by_cases h3 : c = 35
  · subst h3
    by_cases hj : j = k
    · simp [hj]
    · simp [hj]
  · simp [h3]
end SMx
section SRun
variable {L : Nat} {ρ : Nat → Nat → Nat} {μ : Nat → Nat → Int} {st ov nx he mt wc : Int} {G W P : Nat → Int}
theorem e_leave (rc : Rc ρ) (h0 : 0 ≤ wc) (h5 : wc < 500) (a b : Int) : f_Se_leaveWaiting 32 a b (SH L, ρ, SM μ st ov nx he mt wc G W P) = some (SH L, ρ, SM μ st ov nx he mt (wc + 1) G (ud W wc.toNat a) (ud P wc.toNat b)) := by
  unfold f_Se_leaveWaiting
  rw [zgI_k s_32, Option.bind_some, SM_11, if_neg (by omega)]
  simp (disch := omega) only [zgI_k s_32, zgR_k s_32 rc.2.2.2.2.2.1.2.1 (by decide), zgR_k s_32 rc.2.2.2.2.2.1.2.2 (by decide), zsI_k s_34, zsI_k s_35, zpI_k s_32, Option.bind_some, SM_11, SM_w, SM_p, SM_u11, zw_of]
theorem e_step (h0 : 0 ≤ st) (h3 : st ≤ 300) : f_Se_makeStep 32 (SH L, ρ, SM μ st ov nx he mt wc G W P) = if st = μ 32 0 then some (0, (SH L, ρ, SM μ st 1 nx he mt wc G W P)) else some (1, (SH L, ρ, SM μ (st + 1) 0 nx he mt wc G W P)) := by
  unfold f_Se_makeStep f_Se_makeStep_17 f_Se_makeStep_37
  rw [zgI_k s_32, Option.bind_some, zgI_k s_32, Option.bind_some, SM_4, SM_0]
  by_cases hb : st = μ 32 0
  · simp only [if_pos hb]
    rw [zpZ_k s_32 (Or.inr rfl), Option.bind_some, SM_u5]
    simp (disch := omega) only [zgI_k s_32, Option.bind_some, SM_4, SM_5, zpI_k s_32, SM_u4, Int.add_zero, zw_of]
    rfl
  · simp only [if_neg hb]
    rw [zpZ_k s_32 (Or.inl rfl), Option.bind_some, SM_u5]
    simp (disch := omega) only [zgI_k s_32, Option.bind_some, SM_4, SM_5, zpI_k s_32, SM_u4, zw_of]
    rfl
end SRun
