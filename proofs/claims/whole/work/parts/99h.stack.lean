/-! The class's stack with its trail, and the model's with its copies -/
theorem ud_s (f : Nat → Int) (k : Nat) (x : Int) : ud f k x k = x := if_pos rfl
theorem ud_n {f : Nat → Int} {k j : Nat} (h : j ≠ k) (x : Int) : ud f k x j = f j := if_neg h
theorem ud_back (f : Nat → Int) (k : Nat) (x : Int) : ud (ud f k x) k (f k) = f := by
  funext j
  unfold ud
  by_cases h : j = k
  · rw [if_pos h, h]
  · rw [if_neg h, if_neg h]
theorem gb_neg {W P : Nat → Int} {w : Nat} (h : W w < 0) (H : Nat → Int) : gb W P (w + 1) H = gb W P w (ud H (-1 - W w).toNat (P w)) := by
  show (if W w < 0 then _ else _) = _
  rw [if_pos h]
theorem gb_pos {W P : Nat → Int} {w : Nat} (h : ¬ W w < 0) (H : Nat → Int) : gb W P (w + 1) H = (some (w, W w, P w), H) := by
  show (if W w < 0 then _ else _) = _
  rw [if_neg h]
theorem gb_congr {W P W' P' : Nat → Int} : ∀ (w : Nat) (H : Nat → Int), (∀ k, k < w → W k = W' k ∧ P k = P' k) → gb W P w H = gb W' P' w H := by
  intro w
  induction w with
  | zero => intro H _; rfl
  | succ w ih =>
    intro H h
    have hw := h w (by omega)
    by_cases hn : W w < 0
    · rw [gb_neg hn, gb_neg (by rw [← hw.1]; exact hn), hw.1, hw.2]
      exact ih _ (fun k hk => h k (by omega))
    · rw [gb_pos hn, gb_pos (by rw [← hw.1]; exact hn), hw.1, hw.2]
theorem gb_some {W P : Nat → Int} : ∀ (w : Nat) (H : Nat → Int) {q : Nat × Int × Int}, (gb W P w H).1 = some q → q.1 < w ∧ q.2.1 = W q.1 ∧ q.2.2 = P q.1 ∧ 0 ≤ W q.1 := by
  intro w
  induction w with
  | zero => intro H q h; cases h
  | succ w ih =>
    intro H q h
    by_cases hn : W w < 0
    · rw [gb_neg hn] at h
      have := ih _ h
      exact ⟨by omega, this.2⟩
    · rw [gb_pos hn] at h
      cases h
      exact ⟨Nat.lt_succ_self w, rfl, rfl, Int.not_lt.mp hn⟩
def SR (τ : Tx) (γ : Gh) (bl len : Int) (W P C : Nat → Int) : Nat → Nat → (Nat → Int) → Prop
  | 0, w, H => (gb W P w H).1 = none
  | m + 1, w, H => ∃ (w' mo i : Nat) (pl : Int), (gb W P w H).1 = some (w', (γ.nd mo i : Int), pl) ∧ C (9 * m) = mo ∧ C (9 * m + 1) = i ∧ C (9 * m + 2) = pl ∧ (∀ g, g < 6 → C (9 * m + 3 + g) = (gb W P w H).2 g) ∧ okN τ γ mo i ∧ bl ≤ pl ∧ pl ≤ len ∧ SR τ γ bl len W P C m w' (gb W P w H).2
theorem SR_congr {τ : Tx} {γ : Gh} {bl len : Int} {W P C W' P' C' : Nat → Int} : ∀ (m w : Nat) (H : Nat → Int), (∀ k, k < w → W k = W' k ∧ P k = P' k) → (∀ k, k < 9 * m → C k = C' k) → SR τ γ bl len W P C m w H → SR τ γ bl len W' P' C' m w H := by
  intro m
  induction m with
  | zero =>
    intro w H h _ hs
    show (gb W' P' w H).1 = none
    rw [← gb_congr w H h]
    exact hs
  | succ m ih =>
    intro w H h hc hs
    obtain ⟨w', mo, i, pl, h1, h2, h3, h4, h5, h6, h7, h8, h9⟩ := hs
    have hl := gb_some w H h1
    refine ⟨w', mo, i, pl, ?_, ?_, ?_, ?_, ?_, h6, h7, h8, ?_⟩
    · rw [← gb_congr w H h]; exact h1
    · rw [← hc _ (by omega)]; exact h2
    · rw [← hc _ (by omega)]; exact h3
    · rw [← hc _ (by omega)]; exact h4
    · intro g hg
      rw [← hc _ (by omega), ← gb_congr w H h]
      exact h5 g hg
    · rw [← gb_congr w H h]
      exact ih w' _ (fun k hk => h k (by have := hl.1; simp only at this; omega)) (fun k hk => hc k (by omega)) h9
theorem SR_split {τ : Tx} {γ : Gh} {bl len he : Int} {W P C G H : Nat → Int} {m w mo i : Nat} (hs : SR τ γ bl len W P C m w H) (hg : ∀ g, g < 6 → G g = H g) (ok : okN τ γ mo i) (h0 : bl ≤ he) (h1 : he ≤ len) : SR τ γ bl len (ud W w (γ.nd mo i : Int)) (ud P w he) (psC C G m mo i he) (m + 1) (w + 1) H := by
  have hp : ¬ ud W w (γ.nd mo i : Int) w < 0 := by rw [ud_s]; omega
  refine ⟨w, mo, i, he, ?_, ?_, ?_, ?_, ?_, ok, h0, h1, ?_⟩
  · rw [gb_pos hp, ud_s, ud_s]
  · unfold psC; rw [if_pos rfl]
  · unfold psC; rw [if_neg (by omega), if_pos rfl]
  · unfold psC; rw [if_neg (by omega), if_neg (by omega), if_pos rfl]
  · intro g hg6
    rw [gb_pos hp]
    unfold psC
    rw [if_neg (by omega), if_neg (by omega), if_neg (by omega), if_pos (by omega), show 9 * m + 3 + g - (9 * m + 3) = g by omega]
    exact hg g hg6
  · rw [gb_pos hp]
    refine SR_congr m w H (fun k hk => ?_) (fun k hk => ?_) hs
    · rw [ud_n (by omega), ud_n (by omega)]
      exact ⟨rfl, rfl⟩
    · unfold psC
      rw [if_neg (by omega), if_neg (by omega), if_neg (by omega), if_neg (by omega)]
theorem SR_edge {τ : Tx} {γ : Gh} {bl len : Int} {W P C H : Nat → Int} {m w g : Nat} (hs : SR τ γ bl len W P C m w H) (he : Int) : SR τ γ bl len (ud W w (-1 - (g : Int))) (ud P w (H g)) C m (w + 1) (ud H g he) := by
  have e : gb (ud W w (-1 - (g : Int))) (ud P w (H g)) (w + 1) (ud H g he) = gb W P w H := by
    rw [gb_neg (by rw [ud_s]; omega), ud_s, ud_s, show (-1 - (-1 - (g : Int))).toNat = g by omega, ud_back]
    exact gb_congr w H (fun k hk => ⟨ud_n (by omega) _, ud_n (by omega) _⟩)
  cases m with
  | zero =>
    show (gb _ _ (w + 1) _).1 = none
    rw [e]
    exact hs
  | succ m =>
    obtain ⟨w', mo, i, pl, h1, h2, h3, h4, h5, h6, h7, h8, h9⟩ := hs
    have hl := gb_some w H h1
    refine ⟨w', mo, i, pl, ?_, h2, h3, h4, ?_, h6, h7, h8, ?_⟩
    · rw [e]; exact h1
    · rw [e]; exact h5
    · rw [e]
      refine SR_congr m w' _ (fun k hk => ?_) (fun _ _ => rfl) h9
      have := hl.1
      simp only at this
      rw [ud_n (by omega), ud_n (by omega)]
      exact ⟨rfl, rfl⟩
