/-- back to the last way that waits: the stack from w down, groups set back on it -/
def gb (W P : Nat → Int) : Nat → (Nat → Int) → Option (Nat × Int × Int) × (Nat → Int)
  | 0, G => (none, G)
  | w + 1, G => if W w < 0 then gb W P w (ud G (-1 - W w).toNat (P w)) else (some (w, W w, P w), G)
section SRun2
variable {L : Nat} {ρ : Nat → Nat → Nat} {μ : Nat → Nat → Int} {st ov nx he mt wc : Int} {G W P : Nat → Int}
/-- what goBack answers -/
def gbR (L : Nat) (ρ : Nat → Nat → Nat) (μ : Nat → Nat → Int) (st ov nx he mt : Int) (W P : Nat → Int) (g : Option (Nat × Int × Int) × (Nat → Int)) : Option (Int × zH) := match g.1 with
  | none => some (0, (SH L, ρ, SM μ st ov nx he mt 0 g.2 W P))
  | some q => some (1, (SH L, ρ, SM μ st ov q.2.1 q.2.2 mt q.1 g.2 W P))
def wOk (W : Nat → Int) (w : Nat) : Prop := ∀ k, k < w → -6 ≤ W k
theorem e_goBackL (rc : Rc ρ) : ∀ (w n : Nat) (G : Nat → Int), w < n → w ≤ 500 → wOk W w → f_Se_goBack_7 n 32 0 (w : Int) (SH L, ρ, SM μ st ov nx he mt (w : Int) G W P) = gbR L ρ μ st ov nx he mt W P (gb W P w G) := by
  intro w
  induction w with
  | zero =>
    intro n G hn h5 hw
    obtain ⟨n, rfl⟩ : ∃ k, n = k + 1 := ⟨n - 1, by omega⟩
    unfold f_Se_goBack_7
    rw [if_pos (by omega)]
    rfl
  | succ w ih =>
    intro n G hn h5 hw
    obtain ⟨n, rfl⟩ : ∃ k, n = k + 1 := ⟨n - 1, by omega⟩
    have hww := hw w (by omega)
    have ew : ((w + 1 : Nat) : Int) - 1 = (w : Int) := by omega
    have ez : zw (((w + 1 : Nat) : Int) - 1) = (w : Int) := by rw [zw_of (by omega) (by omega)]; exact ew
    have ez2 : zw (((w + 1 : Nat) : Int) + (-1)) = (w : Int) := by rw [zw_of (by omega) (by omega)]; omega
    unfold f_Se_goBack_7
    rw [if_neg (show ¬ ((w + 1 : Nat) : Int) ≤ 0 by omega), if_pos (show (0 : Int) = 0 from rfl), ez]
    simp only [zpI_k s_32, Option.bind_some, SM_u11, zgR_k s_32 rc.2.2.2.2.2.1.2.1 (by decide)]
    rw [zaI_k s_34 (by clear ez ez2; omega) (by clear ez ez2; omega), Option.bind_some, SM_34, Int.toNat_natCast]
    unfold f_Se_goBack_40
    by_cases hneg : W w < 0
    · rw [if_pos hneg, if_pos (show (0 : Int) = 0 from rfl), ez]
      simp only [zgR_k s_32 rc.2.2.2.2.2.1.1 (by decide), zgR_k s_32 rc.2.2.2.2.2.1.2.2 (by decide), Option.bind_some]
      rw [zaI_k s_35 (by clear ez ez2; omega) (by clear ez ez2; omega), Option.bind_some, SM_35, Int.toNat_natCast, zw_of (x := -1 - W w) (by clear ez ez2; omega) (by clear ez ez2; omega), zsI_k s_33 (by clear ez ez2; omega) (by clear ez ez2; omega), Option.bind_some, SM_g]
      unfold f_Se_goBack_81
      rw [ez2, ih n _ (by clear ez ez2; omega) (by clear ez ez2; omega) (fun k hk => hw k (by omega))]
      have : gb W P (w + 1) G = gb W P w (ud G (-1 - W w).toNat (P w)) := by
        show (if W w < 0 then _ else _) = _
        rw [if_pos hneg]
      rw [this]
    · rw [if_neg hneg, if_neg (show ¬ (1 : Int) = 0 by decide), ez]
      simp only [zpI_k s_32, Option.bind_some, SM_u6, zgR_k s_32 rc.2.2.2.2.2.1.2.2 (by decide)]
      rw [zaI_k s_35 (by clear ez ez2; omega) (by clear ez ez2; omega), Option.bind_some, SM_35, Int.toNat_natCast]
      simp only [zpI_k s_32, Option.bind_some, SM_u7]
      unfold f_Se_goBack_81
      rw [ez2]
      have : gb W P (w + 1) G = (some (w, W w, P w), G) := by
        show (if W w < 0 then _ else _) = _
        rw [if_neg hneg]
      rw [this]
      obtain ⟨n, rfl⟩ : ∃ k, n = k + 1 := ⟨n - 1, by clear ez ez2; omega⟩
      unfold f_Se_goBack_7
      by_cases hw0 : (w : Int) ≤ 0
      · rw [if_pos hw0]
        rfl
      · rw [if_neg hw0, if_neg (show ¬ (1 : Int) = 0 by decide)]
        rfl
theorem e_goBack (rc : Rc ρ) {w : Nat} (h5 : w ≤ 500) (hw : wOk W w) : f_Se_goBack 32 (SH L, ρ, SM μ st ov nx he mt (w : Int) G W P) = gbR L ρ μ st ov nx he mt W P (gb W P w G) := by
  unfold f_Se_goBack
  rw [zgI_k s_32, Option.bind_some, SM_11]
  exact e_goBackL rc w 100000 G (by omega) h5 hw
/-- behind an instruction that fits or doesn't -/
def dnR (L : Nat) (ρ : Nat → Nat → Nat) (μ : Nat → Nat → Int) (st ov nx he mt : Int) (w : Nat) (G W P : Nat → Int) (fit : Int) : Option (Int × zH) :=
  if fit = 0 then (if ov = 0 then gbR L ρ μ st ov (nx + 1) he mt W P (gb W P w G) else some (0, (SH L, ρ, SM μ st ov (nx + 1) he mt w G W P))) else some (1, (SH L, ρ, SM μ st ov (nx + 1) he mt w G W P))
theorem e_178 (rc : Rc ρ) {w : Nat} (h5 : w ≤ 500) (hw : wOk W w) (hx0 : 0 ≤ nx) (hx1 : nx < 100) (fit : Int) : f_Se_doNext_178 32 fit (SH L, ρ, SM μ st ov nx he mt (w : Int) G W P) = dnR L ρ μ st ov nx he mt w G W P fit := by
  unfold f_Se_doNext_178 dnR
  rw [zgI_k s_32, Option.bind_some, SM_6, zw_of (by omega) (by omega), zpI_k s_32, Option.bind_some, SM_u6]
  by_cases hf : fit = 0
  · rw [if_pos hf, if_pos hf, zgI_k s_32, Option.bind_some, SM_5]
    by_cases ho : ov = 0
    · rw [if_pos ho, if_pos ho, zck_k s_32, Option.bind_some, e_goBack rc h5 hw]
      unfold gbR
      cases (gb W P w G).1 with
      | none => rfl
      | some q => rfl
    · rw [if_neg ho, if_neg ho]
  · rw [if_neg hf, if_neg hf]
    rfl
/-- the instruction at nx of the pattern at p -/
theorem e_next {p l s : Nat} (hp : ptS L p) (pr : ptR ρ p) (hp6 : 36 ≤ p) (hx0 : 0 ≤ nx) (hx1 : nx < 41) {R : Int → Int → Option (Int × zH)} : ((z_gR (SH L, ρ, SM μ st ov nx he mt wc G W P) 4 p 1).bind fun v9 => (z_gI (SH L, ρ, SM μ st ov nx he mt wc G W P) 6 32 6).bind fun v10 => (z_aI (SH L, ρ, SM μ st ov nx he mt wc G W P) 20 v9 v10).bind fun v11 => (z_gR (SH L, ρ, SM μ st ov nx he mt wc G W P) 4 p 0).bind fun v12 => (z_gI (SH L, ρ, SM μ st ov nx he mt wc G W P) 6 32 6).bind fun v13 => (z_aI (SH L, ρ, SM μ st ov nx he mt wc G W P) 20 v12 v13).bind fun v14 => R v11 v14) = R (μ (p + 2) nx.toNat) (μ (p + 1) nx.toNat) := by
  rw [zgR_k hp.1 pr.2.1 (by omega), Option.bind_some, zgI_k s_32, Option.bind_some, SM_6, zaI_k hp.2.2.1 hx0 (by omega), Option.bind_some, zgR_k hp.1 pr.1 (by omega), Option.bind_some, Option.bind_some, zaI_k hp.2.1 hx0 (by omega), Option.bind_some, SM_o (p + 2) (by omega) (by omega) (by omega) (by omega), SM_o (p + 1) (by omega) (by omega) (by omega) (by omega)]
theorem dn_match {p l s : Nat} (hp : ptS L p) (pr : ptR ρ p) (hp6 : 36 ≤ p) (hx0 : 0 ≤ nx) (hx1 : nx < 41) (hop : μ (p + 1) nx.toNat = 9) : f_Se_doNext 32 p l s (SH L, ρ, SM μ st ov nx he mt wc G W P) = some (0, (SH L, ρ, SM μ st ov nx he 1 wc G W P)) := by
  unfold f_Se_doNext
  rw [e_next (l := l) (s := s) hp pr hp6 hx0 hx1, hop, if_neg (by decide), if_neg (by decide), if_neg (by decide), if_neg (by decide), if_pos rfl, zpZ_k s_32 (Or.inr rfl), Option.bind_some, SM_u8]
theorem dn_jump {p l s : Nat} (hp : ptS L p) (pr : ptR ρ p) (hp6 : 36 ≤ p) (hx0 : 0 ≤ nx) (hx1 : nx < 41) (hop : μ (p + 1) nx.toNat = 7) (h0 : 0 ≤ nx + μ (p + 2) nx.toNat) (h1 : nx + μ (p + 2) nx.toNat < 41) : f_Se_doNext 32 p l s (SH L, ρ, SM μ st ov nx he mt wc G W P) = some (1, (SH L, ρ, SM μ st ov (nx + μ (p + 2) nx.toNat) he mt wc G W P)) := by
  unfold f_Se_doNext
  rw [e_next (l := l) (s := s) hp pr hp6 hx0 hx1, hop, if_neg (by decide), if_neg (by decide), if_pos rfl, zgI_k s_32, Option.bind_some, SM_6, zw_of (by omega) (by omega), zpI_k s_32, Option.bind_some, SM_u6]
theorem dn_split {p l s : Nat} (rc : Rc ρ) (hp : ptS L p) (pr : ptR ρ p) (hp6 : 36 ≤ p) (hx0 : 0 ≤ nx) (hx1 : nx < 41) (hop : μ (p + 1) nx.toNat = 6) (h0 : 0 ≤ nx + μ (p + 2) nx.toNat) (h1 : nx + μ (p + 2) nx.toNat < 41) (g0 : 0 ≤ nx + μ (p + 3) nx.toNat) (g1 : nx + μ (p + 3) nx.toNat < 41) (w0 : 0 ≤ wc) (w5 : wc < 500) :
    f_Se_doNext 32 p l s (SH L, ρ, SM μ st ov nx he mt wc G W P) = some (1, (SH L, ρ, SM μ st ov (nx + μ (p + 2) nx.toNat) he mt (wc + 1) G (ud W wc.toNat (nx + μ (p + 3) nx.toNat)) (ud P wc.toNat he))) := by
  unfold f_Se_doNext
  rw [e_next (l := l) (s := s) hp pr hp6 hx0 hx1, hop, if_neg (by decide), if_pos rfl, zgI_k s_32, Option.bind_some, SM_6, zgR_k hp.1 pr.2.2.1 (by omega), Option.bind_some, Option.bind_some, zaI_k hp.2.2.2.1 hx0 (by omega), Option.bind_some, SM_o (p + 3) (by omega) (by omega) (by omega) (by omega), zgI_k s_32, Option.bind_some, SM_7, zck_k s_32, Option.bind_some, zw_of (x := nx + μ (p + 3) nx.toNat) (by omega) (by omega), e_leave rc w0 w5, Option.bind_some, zgI_k s_32, Option.bind_some, SM_6, zw_of (by omega) (by omega), zpI_k s_32, Option.bind_some, SM_u6]
theorem dn_edge {p l s : Nat} {w : Nat} (rc : Rc ρ) (hp : ptS L p) (pr : ptR ρ p) (hp6 : 36 ≤ p) (hx0 : 0 ≤ nx) (hx1 : nx < 41) (hop : μ (p + 1) nx.toNat = 8) (h0 : 0 ≤ μ (p + 2) nx.toNat) (h1 : μ (p + 2) nx.toNat < 6) (w5 : w < 500) :
    f_Se_doNext 32 p l s (SH L, ρ, SM μ st ov nx he mt (w : Int) G W P) = some (1, (SH L, ρ, SM μ st ov (nx + 1) he mt ((w : Int) + 1) (ud G (μ (p + 2) nx.toNat).toNat he) (ud W w (-1 - μ (p + 2) nx.toNat)) (ud P w (G (μ (p + 2) nx.toNat).toNat)))) := by
  unfold f_Se_doNext
  rw [e_next (l := l) (s := s) hp pr hp6 hx0 hx1, hop, if_neg (by decide), if_neg (by decide), if_neg (by decide), if_pos rfl, zgR_k s_32 rc.2.2.2.2.2.1.1 (by decide), Option.bind_some, zaI_k s_33 h0 (by omega), Option.bind_some, SM_33, zck_k s_32, Option.bind_some, zw_of (x := -1 - μ (p + 2) nx.toNat) (by omega) (by omega), e_leave rc (by omega) (by omega), Option.bind_some, zgR_k s_32 rc.2.2.2.2.2.1.1 (by decide), Option.bind_some, zgI_k s_32, Option.bind_some, SM_7, zsI_k s_33 h0 (by omega), Option.bind_some, SM_g, Int.toNat_natCast]
  unfold f_Se_doNext_178
  rw [zgI_k s_32, Option.bind_some, SM_6, zw_of (by omega) (by omega), zpI_k s_32, Option.bind_some, SM_u6, if_neg (by decide)]
  rfl
end SRun2
