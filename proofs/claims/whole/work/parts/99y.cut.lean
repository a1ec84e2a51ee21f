/-! Tokens -/
def CtS (l t o : Nat) (fr : Int) (μ μ' : Nat → Nat → Int) : Prop := (∀ c j, c ≠ l → c ≠ l + 2 → c ≠ l + 3 → c ≠ l + 4 → μ' c j = μ c j) ∧ (∀ j, j ≠ 5 → μ' l j = μ l j) ∧ μ' l 5 = ((t + 1 : Nat) : Int) ∧ (∀ j, j ≠ t → μ' (l + 2) j = μ (l + 2) j) ∧ μ' (l + 2) t = fr ∧ (∀ j, j ≠ t → μ' (l + 3) j = μ (l + 3) j) ∧ μ' (l + 3) t = o ∧ (∀ j, ¬ (6 * t ≤ j ∧ j < 6 * t + 6) → μ' (l + 4) j = μ (l + 4) j) ∧ ∀ i, i < o → μ' (l + 4) (6 * t + i) = μ (36 + 13 * (μ 27 i).toNat) 4
def CtM (k t o : Nat) (fr la : Int) (ν ν' : Nat → Nat → Int) : Prop := (∀ c j, c < 259 ∨ 262 < c → ν' c j = ν c j) ∧ (∀ j, j ≠ k → ν' 259 j = ν 259 j) ∧ ν' 259 k = ((t + 1 : Nat) : Int) ∧ (∀ j, j ≠ 24 * k + t → ν' 260 j = ν 260 j) ∧ ν' 260 (24 * k + t) = fr ∧ (∀ j, j ≠ 24 * k + t → ν' 261 j = ν 261 j) ∧ ν' 261 (24 * k + t) = (if la ≤ 0 then (o : Int) else ((o + 1 : Nat) : Int)) ∧ (∀ j, ¬ (6 * (24 * k + t) ≤ j ∧ j < 6 * (24 * k + t) + 6) → ν' 262 j = ν 262 j) ∧ (∀ i, i < o → ν' 262 (6 * (24 * k + t) + i) = ν 237 (ν 264 (30 + i)).toNat) ∧ ν' 262 (6 * (24 * k + t) + o) = la
section Cut
variable {L : Nat} {ρ : Nat → Nat → Nat}
theorem e_addScope {l : Nat} (hl : lnS L l) (lr : lnR ρ l) {t n : Nat} (ht : t < 24) (hn : n < 6) {μ : Nat → Nat → Int} (h5 : μ l 5 = ((t + 1 : Nat) : Int)) (h3 : μ (l + 3) t = n) (x : Int) : f_Li_addScope l x (SH L, ρ, μ) = some (SH L, ρ, z_up (z_up μ (l + 4) (6 * t + n) x) (l + 3) t ((n + 1 : Nat) : Int)) := by
  have t1 : ((t + 1 : Nat) : Int) - 1 = (t : Int) := by omega
  have t2 : ((t : Int) * 6 + (n : Int)).toNat = 6 * t + n := by omega
  unfold f_Li_addScope
  rw [zgI_k hl.1, Option.bind_some, h5, zw_of (x := ((t + 1 : Nat) : Int) - 1) (by omega) (by omega), t1, zgR_k hl.1 lr.2.2.2.1 (by omega), Option.bind_some, zgR_k hl.1 lr.2.2.1 (by omega), Option.bind_some, zaI_k hl.2.2.2.1 (by omega) (by omega), Option.bind_some, Int.toNat_natCast, h3, zw_of (x := (t : Int) * 6) (by omega) (by omega), zw_of (x := (t : Int) * 6 + (n : Int)) (by omega) (by omega), zsI_k hl.2.2.2.2.1 (by omega) (by omega), Option.bind_some, t2, zgR_k hl.1 lr.2.2.1 (by omega), Option.bind_some, zaI_k hl.2.2.2.1 (by omega) (by omega), Option.bind_some, Int.toNat_natCast, z_up_ne (by omega), h3, zw_of (x := (n : Int) + 1) (by omega) (by omega), zsI_k hl.2.2.2.1 (by omega) (by omega), Option.bind_some, Int.toNat_natCast, show ((n + 1 : Nat) : Int) = (n : Int) + 1 by omega]
theorem e_cutL (rc : Rc ρ) {l : Nat} (hl : lnS L l) (lr : lnR ρ l) (hl9 : 179 ≤ l) {t o : Nat} (ht : t < 24) (ho : o ≤ 5) : ∀ (m N i : Nat) (μ : Nat → Nat → Int), i + m = o → m < N → μ 26 0 = o → (∀ i, i < o → 0 ≤ μ 27 i ∧ μ 27 i ≤ 10) → μ l 5 = ((t + 1 : Nat) : Int) → μ (l + 3) t = i →
    ∃ μ', f_Gr_cut_15 N 24 l (i : Int) (SH L, ρ, μ) = some (1, (SH L, ρ, μ')) ∧ (∀ c j, c ≠ l + 3 → c ≠ l + 4 → μ' c j = μ c j) ∧ (∀ j, j ≠ t → μ' (l + 3) j = μ (l + 3) j) ∧ μ' (l + 3) t = o ∧ (∀ j, ¬ (6 * t + i ≤ j ∧ j < 6 * t + o) → μ' (l + 4) j = μ (l + 4) j) ∧ ∀ i', i ≤ i' → i' < o → μ' (l + 4) (6 * t + i') = μ (36 + 13 * (μ 27 i').toNat) 4 := by
  intro m
  induction m with
  | zero =>
    intro N i μ h1 h2 h3 h4 h5 h6
    obtain ⟨N, rfl⟩ : ∃ k, N = k + 1 := ⟨N - 1, by omega⟩
    refine ⟨μ, ?_, fun _ _ _ _ => rfl, fun _ _ => rfl, by rw [h6]; omega, fun _ _ => rfl, fun i' g1 g2 => by omega⟩
    rw [f_Gr_cut_15]
    show (z_gR _ _ _ _).bind _ = _
    rw [zgR_k s_24 rc.2.2.2.2.1.2.2.1 (by decide), Option.bind_some, zgI_k s_26, Option.bind_some, h3, if_pos (by omega)]
  | succ m ih =>
    intro N i μ h1 h2 h3 h4 h5 h6
    obtain ⟨N, rfl⟩ : ∃ k, N = k + 1 := ⟨N - 1, by omega⟩
    obtain ⟨g1, g2⟩ := h4 i (by omega)
    obtain ⟨r, hr⟩ : ∃ r : Nat, μ 27 i = r := ⟨(μ 27 i).toNat, by omega⟩
    obtain ⟨-, -, pr3, -, -⟩ := r_pt rc (show r < 11 by omega)
    have up : ∀ c j, c ≠ l + 3 → c ≠ l + 4 → z_up (z_up μ (l + 4) (6 * t + i) (μ (36 + 13 * r) 4)) (l + 3) t ((i + 1 : Nat) : Int) c j = μ c j := fun c j a b => (z_up_ne a).trans (z_up_ne b)
    obtain ⟨μ', e1, e2, e3, e4, e5, e6⟩ := ih N (i + 1) (z_up (z_up μ (l + 4) (6 * t + i) (μ (36 + 13 * r) 4)) (l + 3) t ((i + 1 : Nat) : Int)) (by omega) (by omega) ((up _ _ (by omega) (by omega)).trans h3) (fun i hi => by rw [up _ _ (by omega) (by omega)]; exact h4 i hi) ((up _ _ (by omega) (by omega)).trans h5) z_up_eq
    refine ⟨μ', ?_, fun c j a b => (e2 c j a b).trans (up c j a b), fun j a => (e3 j a).trans ((z_up_nj a).trans (z_up_ne (by omega))), e4, fun j a => (e5 j (by omega)).trans ((z_up_ne (by omega)).trans (z_up_nj (by omega))), fun i' a b => ?_⟩
    · rw [f_Gr_cut_15]
      show (z_gR _ _ _ _).bind _ = _
      rw [zgR_k s_24 rc.2.2.2.2.1.2.2.1 (by decide), Option.bind_some, zgI_k s_26, Option.bind_some, h3, if_neg (by omega), zgR_k s_24 rc.2.2.2.2.1.1 (by decide), Option.bind_some, Option.bind_some, zgR_k s_26 rc.2.2.2.1.2.2.1 (by decide), Option.bind_some, zaI_k s_27 (by omega) (by omega), Option.bind_some, Int.toNat_natCast, hr, e_rule pr3 (by omega), Option.bind_some, zgI_k (sr_0 (by omega)), Option.bind_some, zck_k hl.1, Option.bind_some, e_addScope hl lr ht (by omega) h5 h6, Option.bind_some, zw_of (by omega) (by omega)]
      rw [show ((i + 1 : Nat) : Int) = (i : Int) + 1 by omega] at e1
      rw [show ((i + 1 : Nat) : Int) = (i : Int) + 1 by omega]
      exact e1
    · by_cases hi : i' = i
      · subst hi
        rw [e5 _ (by omega), z_up_ne (by omega), z_up_eq, hr, Int.toNat_natCast]
      · rw [e6 i' (by omega) b, up 27 i' (by omega) (by omega)]
        have g3 := h4 i' b
        rw [up _ _ (by omega) (by omega)]
theorem e_cut (rc : Rc ρ) {l : Nat} (hl : lnS L l) (lr : lnR ρ l) (hl9 : 179 ≤ l) {t o : Nat} (ht : t < 24) (ho : o ≤ 5) {μ : Nat → Nat → Int} (h3 : μ 26 0 = o) (h4 : ∀ i, i < o → 0 ≤ μ 27 i ∧ μ 27 i ≤ 10) (h5 : μ l 5 = t) {fr to : Int} (hne : fr ≠ to) : ∃ μ', f_Gr_cut 24 l fr to (SH L, ρ, μ) = some (1, (SH L, ρ, μ')) ∧ CtS l t o fr μ μ' := by
  have up : ∀ c j, c ≠ l → c ≠ l + 2 → c ≠ l + 3 → z_up (z_up (z_up μ (l + 2) t fr) (l + 3) t 0) l 5 ((t + 1 : Nat) : Int) c j = μ c j := fun c j a b d => (z_up_ne a).trans ((z_up_ne d).trans (z_up_ne b))
  obtain ⟨μ', e1, e2, e3, e4, e5, e6⟩ := e_cutL (L := L) rc hl lr hl9 ht ho o 100000 0 (z_up (z_up (z_up μ (l + 2) t fr) (l + 3) t 0) l 5 ((t + 1 : Nat) : Int)) (by omega) (by omega) ((up _ _ (by omega) (by omega) (by omega)).trans h3) (fun i hi => by rw [up _ _ (by omega) (by omega) (by omega)]; exact h4 i hi) z_up_eq (by rw [z_up_ne (by omega), z_up_eq]; rfl)
  refine ⟨μ', ?_, fun c j a b c' d => (e2 c j c' d).trans (up c j a b c'), fun j a => (e2 l j (by omega) (by omega)).trans ((z_up_nj a).trans ((z_up_ne (by omega)).trans (z_up_ne (by omega)))), (e2 l 5 (by omega) (by omega)).trans z_up_eq, fun j a => (e2 (l + 2) j (by omega) (by omega)).trans ((z_up_ne (by omega)).trans ((z_up_ne (by omega)).trans (z_up_nj a))), (e2 (l + 2) t (by omega) (by omega)).trans ((z_up_ne (by omega)).trans ((z_up_ne (by omega)).trans z_up_eq)), fun j a => (e3 j a).trans ((z_up_ne (by omega)).trans ((z_up_nj a).trans (z_up_ne (by omega)))), e4, fun j a => (e5 j (by omega)).trans (up _ _ (by omega) (by omega) (by omega)), fun i hi => ?_⟩
  · unfold f_Gr_cut f_Li_addToken
    rw [if_neg hne, zck_k hl.1, Option.bind_some, zgR_k hl.1 lr.2.1 (by omega), Option.bind_some, zgI_k hl.1, Option.bind_some, h5, zsI_k hl.2.2.1 (by omega) (by omega), Option.bind_some, Int.toNat_natCast, zgR_k hl.1 lr.2.2.1 (by omega), Option.bind_some, zgI_k hl.1, Option.bind_some, z_up_ne (by omega), h5, zsI_k hl.2.2.2.1 (by omega) (by omega), Option.bind_some, Int.toNat_natCast, zgI_k hl.1, Option.bind_some, z_up_ne (by omega), z_up_ne (by omega), h5, zw_of (by omega) (by omega), zpI_k hl.1, Option.bind_some, Option.bind_some]
    rw [show ((t + 1 : Nat) : Int) = (t : Int) + 1 by omega] at e1
    exact e1
  · have g := h4 i hi
    rw [e6 i (Nat.zero_le _) hi, up 27 i (by omega) (by omega) (by omega), up _ _ (by omega) (by omega) (by omega)]
theorem m_cutL (rm : Rm ρ) {k t o : Nat} (hk : k < 6) (ht : t < 24) (ho : o ≤ 5) {la : Int} (x : Nat) (hx : x = 24 * k + t) : ∀ (m N i : Nat) (ν : Nat → Nat → Int), i + m = o → m < N → ν 263 6 = o → (∀ i, i < o → 0 ≤ ν 264 (30 + i) ∧ ν 264 (30 + i) < 10) → ν 259 k = t →
    ∃ ν', f_Mo_cutOff_30 N 233 (k : Int) la (x : Int) (i : Int) (SH L, ρ, ν) = some (SH L, ρ, ν') ∧ (∀ c j, c ≠ 259 → c ≠ 261 → c ≠ 262 → ν' c j = ν c j) ∧ (∀ j, j ≠ k → ν' 259 j = ν 259 j) ∧ ν' 259 k = ((t + 1 : Nat) : Int) ∧ (∀ j, j ≠ x → ν' 261 j = ν 261 j) ∧ ν' 261 x = (if la ≤ 0 then (o : Int) else ((o + 1 : Nat) : Int)) ∧ (∀ j, ¬ (6 * x + i ≤ j ∧ j < 6 * x + 6) → ν' 262 j = ν 262 j) ∧ (∀ i', i ≤ i' → i' < o → ν' 262 (6 * x + i') = ν 237 (ν 264 (30 + i')).toNat) ∧ ν' 262 (6 * x + o) = la := by
  intro m
  induction m with
  | zero =>
    intro N i ν h1 h2 h3 h4 h5
    obtain ⟨N, rfl⟩ : ∃ k, N = k + 1 := ⟨N - 1, by omega⟩
    have t1 : (6 * (x : Int) + (o : Int)).toNat = 6 * x + o := by omega
    refine ⟨z_up (z_up (z_up ν 262 (6 * x + o) la) 261 x (if la ≤ 0 then (o : Int) else ((o + 1 : Nat) : Int))) 259 k ((t + 1 : Nat) : Int), ?_, fun c j a b d => (z_up_ne a).trans ((z_up_ne b).trans (z_up_ne d)), fun j a => (z_up_nj a).trans ((z_up_ne (by decide)).trans (z_up_ne (by decide))), z_up_eq, fun j a => (z_up_ne (by decide)).trans ((z_up_nj a).trans (z_up_ne (by decide))), (z_up_ne (by decide)).trans z_up_eq, fun j a => (z_up_ne (by decide)).trans ((z_up_ne (by decide)).trans (z_up_nj (by omega))), fun i' a b => by omega, (z_up_ne (by decide)).trans ((z_up_ne (by decide)).trans z_up_eq)⟩
    rw [f_Mo_cutOff_30]
    show (z_gR _ _ _ _).bind _ = _
    rw [zgR_k s_233 (m_39 rm) (by decide), Option.bind_some, zaI_k s_263 (by decide) (by decide), Option.bind_some, show (6 : Int).toNat = 6 from rfl, h3, if_pos (by omega), zgR_k s_233 (m_38 rm) (by decide), Option.bind_some, Option.bind_some, zaI_k s_263 (by decide) (by decide), Option.bind_some, show (6 : Int).toNat = 6 from rfl, h3, zw_of (x := 6 * (x : Int)) (by omega) (by omega), zw_of (x := 6 * (x : Int) + (o : Int)) (by omega) (by omega), zsI_k s_262 (by omega) (by omega), Option.bind_some, t1, zgR_k s_233 (m_37 rm) (by decide), Option.bind_some]
    unfold f_Mo_cutOff_126
    by_cases hla : la ≤ 0
    · rw [if_pos hla, if_pos hla, zgR_k s_233 (m_39 rm) (by decide), Option.bind_some, zaI_k s_263 (by decide) (by decide), Option.bind_some, show (6 : Int).toNat = 6 from rfl, z_up_ne (by decide), h3, zsI_k s_261 (by omega) (by omega), Option.bind_some, Int.toNat_natCast, zgR_k s_233 (m_35 rm) (by decide), Option.bind_some, zaI_k s_259 (by omega) (by omega), Option.bind_some, Int.toNat_natCast, z_up_ne (by decide), z_up_ne (by decide), h5, zw_of (by omega) (by omega), zsI_k s_259 (by omega) (by omega), Option.bind_some, Int.toNat_natCast, show ((t + 1 : Nat) : Int) = (t : Int) + 1 by omega]
    · rw [if_neg hla, if_neg hla, zgR_k s_233 (m_39 rm) (by decide), Option.bind_some, zaI_k s_263 (by decide) (by decide), Option.bind_some, show (6 : Int).toNat = 6 from rfl, z_up_ne (by decide), h3, zw_of (x := (o : Int) + 1) (by omega) (by omega), zsI_k s_261 (by omega) (by omega), Option.bind_some, Int.toNat_natCast, zgR_k s_233 (m_35 rm) (by decide), Option.bind_some, zaI_k s_259 (by omega) (by omega), Option.bind_some, Int.toNat_natCast, z_up_ne (by decide), z_up_ne (by decide), h5, zw_of (by omega) (by omega), zsI_k s_259 (by omega) (by omega), Option.bind_some, Int.toNat_natCast, show ((t + 1 : Nat) : Int) = (t : Int) + 1 by omega, show ((o + 1 : Nat) : Int) = (o : Int) + 1 by omega]
  | succ m ih =>
    intro N i ν h1 h2 h3 h4 h5
    obtain ⟨N, rfl⟩ : ∃ k, N = k + 1 := ⟨N - 1, by omega⟩
    obtain ⟨g1, g2⟩ := h4 i (by omega)
    have t1 : (6 * (x : Int) + (i : Int)).toNat = 6 * x + i := by omega
    have t2 : (30 + (i : Int)).toNat = 30 + i := by omega
    obtain ⟨ν', e1, e2, e3, e4, e5, e6, e7, e8, e9⟩ := ih N (i + 1) (z_up ν 262 (6 * x + i) (ν 237 (ν 264 (30 + i)).toNat)) (by omega) (by omega) ((z_up_ne (by decide)).trans h3) (fun i hi => by rw [z_up_ne (by decide)]; exact h4 i hi) ((z_up_ne (by decide)).trans h5)
    refine ⟨ν', ?_, fun c j a b d => (e2 c j a b d).trans (z_up_ne d), fun j a => (e3 j a).trans (z_up_ne (by decide)), e4, fun j a => (e5 j a).trans (z_up_ne (by decide)), e6, fun j a => (e7 j (by omega)).trans (z_up_nj (by omega)), fun i' a b => ?_, e9⟩
    · rw [f_Mo_cutOff_30]
      show (z_gR _ _ _ _).bind _ = _
      rw [zgR_k s_233 (m_39 rm) (by decide), Option.bind_some, zaI_k s_263 (by decide) (by decide), Option.bind_some, show (6 : Int).toNat = 6 from rfl, h3, if_neg (by omega)]
      rw [zgR_k s_233 (m_38 rm) (by decide), Option.bind_some, zgR_k s_233 (m_6 rm) (by decide), Option.bind_some, zgR_k s_233 (m_40 rm) (by decide), Option.bind_some, zw_of (x := 30 + (i : Int)) (by omega) (by omega), zaI_k s_264 (by omega) (by omega), Option.bind_some, t2, zaI_k s_237 (by omega) (by omega), Option.bind_some, zw_of (x := 6 * (x : Int)) (by omega) (by omega), zw_of (x := 6 * (x : Int) + (i : Int)) (by omega) (by omega), zsI_k s_262 (by omega) (by omega), Option.bind_some, t1, zw_of (by omega) (by omega)]
      rw [show ((i + 1 : Nat) : Int) = (i : Int) + 1 by omega] at e1
      exact e1
    · by_cases hi : i' = i
      · subst hi
        rw [e7 _ (by omega), z_up_eq]
      · rw [e8 i' (by omega) b, z_up_ne (by decide), z_up_ne (by decide)]
theorem e_cutM (rm : Rm ρ) {k t o : Nat} (hk : k < 6) (ht : t < 24) (ho : o ≤ 5) {la : Int} {ν : Nat → Nat → Int} (h3 : ν 263 6 = o) (h4 : ∀ i, i < o → 0 ≤ ν 264 (30 + i) ∧ ν 264 (30 + i) < 10) (h5 : ν 259 k = t) {fr to : Int} (hlt : fr < to) : ∃ ν', f_Mo_cutOff 233 (k : Int) fr to la (SH L, ρ, ν) = some (SH L, ρ, ν') ∧ CtM k t o fr la ν ν' := by
  have t1 : 24 * (k : Int) + (t : Int) = ((24 * k + t : Nat) : Int) := by omega
  obtain ⟨ν', e1, e2, e3, e4, e5, e6, e7, e8, e9⟩ := m_cutL (L := L) rm hk ht ho (la := la) (24 * k + t) rfl o 100000 0 (z_up ν 260 (24 * k + t) fr) (by omega) (by omega) ((z_up_ne (by decide)).trans h3) (fun i hi => by rw [z_up_ne (by decide)]; exact h4 i hi) ((z_up_ne (by decide)).trans h5)
  refine ⟨ν', ?_, fun c j a => (e2 c j (by omega) (by omega) (by omega)).trans (z_up_ne (by omega)), fun j a => (e3 j a).trans (z_up_ne (by decide)), e4, fun j a => (e2 260 j (by decide) (by decide) (by decide)).trans (z_up_nj a), (e2 260 _ (by decide) (by decide) (by decide)).trans z_up_eq, fun j a => (e5 j a).trans (z_up_ne (by decide)), e6, fun j a => (e7 j (by omega)).trans (z_up_ne (by decide)), fun i hi => (e8 i (Nat.zero_le _) hi).trans ?_, e9⟩
  · unfold f_Mo_cutOff
    rw [if_pos hlt, zgR_k s_233 (m_35 rm) (by decide), Option.bind_some, zaI_k s_259 (by omega) (by omega), Option.bind_some, Int.toNat_natCast, h5, zgR_k s_233 (m_36 rm) (by decide), Option.bind_some, zw_of (x := 24 * (k : Int)) (by omega) (by omega), zw_of (x := 24 * (k : Int) + (t : Int)) (by omega) (by omega), t1, zsI_k s_260 (by omega) (by omega), Option.bind_some, Int.toNat_natCast]
    exact e1
  · rw [z_up_ne (by decide), z_up_ne (by decide)]
end Cut
