/-! Counting below a bound -/
theorem cn_le (p : Nat → Bool) : ∀ m, cn p m ≤ m := by
  intro m
  induction m with
  | zero => exact Nat.le_refl 0
  | succ m ih =>
    show cn p m + (if p m = true then 1 else 0) ≤ m + 1
    split <;> omega
theorem cn_mono {p q : Nat → Bool} : ∀ m, (∀ x, x < m → p x = true → q x = true) → cn p m ≤ cn q m := by
  intro m
  induction m with
  | zero => intro _; exact Nat.le_refl 0
  | succ m ih =>
    intro h
    have h1 := ih (fun x hx => h x (by omega))
    show cn p m + (if p m = true then 1 else 0) ≤ cn q m + (if q m = true then 1 else 0)
    by_cases hp : p m = true
    · rw [if_pos hp, if_pos (h m (by omega) hp)]; omega
    · rw [if_neg hp]; split <;> omega
theorem cn_lt {p q : Nat → Bool} {y : Nat} : ∀ m, y < m → (∀ x, x < m → p x = true → q x = true) → q y = true → p y ≠ true → cn p m < cn q m := by
  intro m
  induction m with
  | zero => intro h; omega
  | succ m ih =>
    intro hy h hq hp
    show cn p m + (if p m = true then 1 else 0) < cn q m + (if q m = true then 1 else 0)
    by_cases hm : y = m
    · subst hm
      have h1 := cn_mono (p := p) (q := q) y (fun x hx => h x (by omega))
      rw [if_neg hp, if_pos hq]; omega
    · have h1 := ih (by omega) (fun x hx => h x (by omega)) hq hp
      by_cases hpm : p m = true
      · rw [if_pos hpm, if_pos (h m (by omega) hpm)]; omega
      · rw [if_neg hpm]; split <;> omega
theorem cn_congr {p q : Nat → Bool} : ∀ m, (∀ x, x < m → p x = q x) → cn p m = cn q m := by
  intro m
  induction m with
  | zero => intro _; rfl
  | succ m ih =>
    intro h
    show cn p m + (if p m = true then 1 else 0) = cn q m + (if q m = true then 1 else 0)
    rw [ih (fun x hx => h x (by omega)), h m (by omega)]
/-! Potentials -/
def Gh.pc (γ : Gh) (κ : Cod) (x : Nat) : Nat := cn (fun y => γ.pu κ y && decide (γ.rk y < γ.rk x)) 41
def Gh.ph (γ : Gh) (x : Nat) : Nat := cn (fun y => decide (γ.rk x < γ.rk y)) 41
theorem pc_le {γ : Gh} {κ : Cod} {x y : Nat} (h : γ.rk x ≤ γ.rk y) : γ.pc κ x ≤ γ.pc κ y := by
  unfold Gh.pc
  refine cn_mono 41 (fun a _ ha => ?_)
  simp only [Bool.and_eq_true, decide_eq_true_eq] at ha ⊢
  exact ⟨ha.1, by omega⟩
theorem pc_lt {γ : Gh} {κ : Cod} {x y : Nat} (h : γ.rk x < γ.rk y) (hx : γ.pu κ x = true) (hx4 : x < 41) : γ.pc κ x + 1 ≤ γ.pc κ y := by
  unfold Gh.pc
  refine cn_lt (y := x) 41 hx4 (fun a _ ha => ?_) ?_ ?_
  · simp only [Bool.and_eq_true, decide_eq_true_eq] at ha ⊢
    exact ⟨ha.1, by omega⟩
  · simp only [Bool.and_eq_true, decide_eq_true_eq]
    exact ⟨hx, h⟩
  · intro hh
    simp only [Bool.and_eq_true, decide_eq_true_eq] at hh
    omega
theorem pc_20 {γ : Gh} {κ : Cod} (h : cn (γ.pu κ) 41 ≤ 20) (x : Nat) : γ.pc κ x ≤ 20 := by
  refine Nat.le_trans (cn_mono 41 (fun a _ ha => ?_)) h
  simp only [Bool.and_eq_true] at ha
  exact ha.1
theorem pc_19 {γ : Gh} {κ : Cod} (h : cn (γ.pu κ) 41 ≤ 20) {x : Nat} (hx : γ.pu κ x = true) (hx4 : x < 41) : γ.pc κ x ≤ 19 := by
  have : γ.pc κ x < cn (γ.pu κ) 41 := by
    unfold Gh.pc
    refine cn_lt (y := x) 41 hx4 (fun a _ ha => ?_) hx ?_
    · simp only [Bool.and_eq_true] at ha
      exact ha.1
    · intro hh
      simp only [Bool.and_eq_true, decide_eq_true_eq] at hh
      omega
  omega
theorem ph_lt {γ : Gh} {x y : Nat} (h : γ.rk x < γ.rk y) (hy : y < 41) : γ.ph y + 1 ≤ γ.ph x := by
  unfold Gh.ph
  refine cn_lt (y := y) 41 hy (fun a _ ha => ?_) ?_ ?_
  · simp only [decide_eq_true_eq] at ha ⊢
    omega
  · simp only [decide_eq_true_eq]
    exact h
  · intro hh
    simp only [decide_eq_true_eq] at hh
    omega
theorem ph_40 {γ : Gh} (x : Nat) : γ.ph x ≤ 41 := cn_le _ 41
/-- the nodes of the model: 0 SEQ, 1 ATOM, 2 AFTER, 3 BRANCH -/
def Gh.nd (γ : Gh) (mo i : Nat) : Nat := if mo = 0 then γ.sq i else if mo = 1 then γ.ta i else if mo = 2 then γ.af i else γ.bs (i + 1)
def okN (τ : Tx) (γ : Gh) (mo i : Nat) : Prop := γ.V i ∧ (mo = 0 ∨ ((mo = 1 ∨ mo = 2) ∧ isE τ.c i = 0) ∨ (mo = 3 ∧ τ.c i = 124))
def sl (mo : Nat) : Nat := if mo = 0 then 0 else if mo = 2 then 2 else 1
def Gh.rn (γ : Gh) (τ : Tx) (e : Nat) : Int := if e % 3 = 0 then 3 * γ.rk (γ.sq (e / 3)) + 1 else if e % 3 = 2 then 3 * γ.rk (γ.af (e / 3)) else if τ.c (e / 3) = 124 then 3 * γ.rk (γ.bs (e / 3 + 1)) else 3 * γ.rk (γ.ta (e / 3)) + 2
def Gh.ps (γ : Gh) (τ : Tx) (mo i : Nat) : Nat := cn (fun e => decide (γ.rn τ (3 * i + sl mo) < γ.rn τ e)) 63
theorem isE_124 {c : Nat → Int} {i : Nat} (h : isE c i = 0) : c i ≠ 124 := by
  unfold isE at h
  intro hc
  rw [if_pos (Or.inr (Or.inl hc))] at h
  exact absurd h (by decide)
/-- the rank of a node -/
def ndr (γ : Gh) (mo i : Nat) : Int := 3 * γ.rk (γ.nd mo i) + (if mo = 0 then 1 else if mo = 1 then 2 else 0)
theorem rn_ok {τ : Tx} {γ : Gh} {mo i : Nat} (h : okN τ γ mo i) : γ.rn τ (3 * i + sl mo) = ndr γ mo i := by
  obtain ⟨-, h | ⟨h | h, hE⟩ | ⟨h, hc⟩⟩ := h
  · subst h
    unfold Gh.rn ndr sl Gh.nd
    rw [if_pos (show (3 * i + if (0 : Nat) = 0 then 0 else if (0 : Nat) = 2 then 2 else 1) % 3 = 0 by rw [if_pos rfl]; omega), if_pos rfl, if_pos rfl, if_pos rfl, show (3 * i + 0) / 3 = i by omega]
  · subst h
    have hc := isE_124 hE
    unfold Gh.rn ndr sl Gh.nd
    rw [if_neg (show ¬ (1 : Nat) = 0 by decide), if_neg (show ¬ (1 : Nat) = 2 by decide), if_neg (show ¬ (3 * i + 1) % 3 = 0 by omega), if_neg (show ¬ (3 * i + 1) % 3 = 2 by omega), show (3 * i + 1) / 3 = i by omega, if_neg hc]
    rfl
  · subst h
    unfold Gh.rn ndr sl Gh.nd
    rw [if_neg (show ¬ (2 : Nat) = 0 by decide), if_pos (show (2 : Nat) = 2 from rfl), if_neg (show ¬ (3 * i + 2) % 3 = 0 by omega), if_pos (show (3 * i + 2) % 3 = 2 by omega), show (3 * i + 2) / 3 = i by omega]
    rw [if_neg (show ¬ (2 : Nat) = 0 by decide), if_neg (show ¬ (2 : Nat) = 1 by decide), if_neg (show ¬ (2 : Nat) = 0 by decide), if_neg (show ¬ (2 : Nat) = 1 by decide)]
    exact (Int.add_zero _).symm
  · subst h
    unfold Gh.rn ndr sl Gh.nd
    rw [if_neg (show ¬ (3 : Nat) = 0 by decide), if_neg (show ¬ (3 : Nat) = 2 by decide), if_neg (show ¬ (3 * i + 1) % 3 = 0 by omega), if_neg (show ¬ (3 * i + 1) % 3 = 2 by omega), show (3 * i + 1) / 3 = i by omega, if_pos hc]
    exact (Int.add_zero _).symm
theorem ps_lt {τ : Tx} {γ : Gh} {mo i mo' i' : Nat} (h : okN τ γ mo i) (h' : okN τ γ mo' i') (hi : i' ≤ 20) (hr : ndr γ mo i < ndr γ mo' i') : γ.ps τ mo' i' + 1 ≤ γ.ps τ mo i := by
  unfold Gh.ps
  rw [rn_ok h, rn_ok h']
  refine cn_lt (y := 3 * i' + sl mo') 63 (by unfold sl; split <;> (try split) <;> omega) (fun a _ ha => ?_) ?_ ?_
  · simp only [decide_eq_true_eq] at ha ⊢
    omega
  · simp only [decide_eq_true_eq]
    rw [rn_ok h']
    exact hr
  · intro hh
    simp only [decide_eq_true_eq] at hh
    rw [rn_ok h'] at hh
    omega
theorem ps_63 {τ : Tx} {γ : Gh} (mo i : Nat) : γ.ps τ mo i ≤ 63 := cn_le _ 63
