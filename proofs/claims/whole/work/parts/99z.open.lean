/-! A range opens -/
def KpC (l s : Nat) (fr cnt : Int) (μ μ' : Nat → Nat → Int) : Prop := (∀ c j, c ≠ 28 → c ≠ 29 → μ' c j = μ c j) ∧ (∀ j, j ≠ s → μ' 28 j = μ 28 j) ∧ μ' 28 s = cnt ∧ (∀ j, ¬ (24 * s ≤ j ∧ j < 24 * s + 24) → μ' 29 j = μ 29 j) ∧ ∀ i : Nat, (i : Int) < cnt → μ' 29 (24 * s + i) = μ (l + 1) (fr + i).toNat
def KpM (k s : Nat) (fr cnt : Int) (ν ν' : Nat → Nat → Int) : Prop := (∀ c j, c ≠ 265 → c ≠ 266 → ν' c j = ν c j) ∧ (∀ j, j ≠ 60 + s → ν' 265 j = ν 265 j) ∧ ν' 265 (60 + s) = cnt ∧ (∀ j, ¬ (1440 + 24 * s ≤ j ∧ j < 1440 + 24 * s + 24) → ν' 266 j = ν 266 j) ∧ ∀ i : Nat, (i : Int) < cnt → ν' 266 (1440 + 24 * s + i) = ν 257 (24 * k + (fr + i).toNat)
section Opn
variable {L : Nat} {ρ : Nat → Nat → Nat}
theorem e_keepL (rc : Rc ρ) {l : Nat} (hl : lnS L l) (lr : lnR ρ l) (hl9 : 179 ≤ l) {s : Nat} (hs : s < 10) {fr cnt : Int} (h24 : cnt ≤ 24) (hf : 0 < cnt → 0 ≤ fr ∧ fr + cnt ≤ 24) : ∀ (m N i : Nat) (μ : Nat → Nat → Int), i + m = 24 → m < N → (∀ i : Nat, (i : Int) < cnt → 0 ≤ μ (l + 1) (fr + i).toNat ∧ μ (l + 1) (fr + i).toNat < 65536) →
    ∃ μ', f_St_keepText_41 N 26 l fr (s : Int) cnt (i : Int) (SH L, ρ, μ) = some (SH L, ρ, μ') ∧ (∀ c j, c ≠ 29 → μ' c j = μ c j) ∧ (∀ j, ¬ (24 * s + i ≤ j ∧ j < 24 * s + 24) → μ' 29 j = μ 29 j) ∧ ∀ i' : Nat, i ≤ i' → (i' : Int) < cnt → μ' 29 (24 * s + i') = μ (l + 1) (fr + i').toNat := by
  intro m
  induction m with
  | zero =>
    intro N i μ h1 h2 h3
    obtain ⟨N, rfl⟩ : ∃ k, N = k + 1 := ⟨N - 1, by omega⟩
    refine ⟨μ, ?_, fun _ _ _ => rfl, fun _ _ => rfl, fun i' g1 g2 => by omega⟩
    rw [f_St_keepText_41]
    show (if _ then _ else _) = _
    rw [if_pos (by omega)]
  | succ m ih =>
    intro N i μ h1 h2 h3
    obtain ⟨N, rfl⟩ : ∃ k, N = k + 1 := ⟨N - 1, by omega⟩
    by_cases hc : cnt ≤ (i : Int)
    · refine ⟨μ, ?_, fun _ _ _ => rfl, fun _ _ => rfl, fun i' g1 g2 => by omega⟩
      rw [f_St_keepText_41]
      show (if _ then _ else _) = _
      rw [if_pos hc]
    · obtain ⟨f0, f1⟩ := hf (by omega)
      obtain ⟨c0, c1⟩ := h3 i (by omega)
      obtain ⟨μ', e1, e2, e3, e4⟩ := ih N (i + 1) (z_up μ 29 (24 * s + i) (μ (l + 1) (fr + i).toNat)) (by omega) (by omega) (fun i' hi => by rw [z_up_ne (by omega)]; exact h3 i' hi)
      refine ⟨μ', ?_, fun c j a => (e2 c j a).trans (z_up_ne a), fun j a => (e3 j (by omega)).trans (z_up_nj (by omega)), fun i' a b => ?_⟩
      · have t1 : ((s : Int) * 24 + (i : Int)).toNat = 24 * s + i := by omega
        rw [f_St_keepText_41]
        show (if _ then _ else _) = _
        rw [if_neg hc, zgR_k s_26 rc.2.2.2.1.2.2.2.2 (by decide), Option.bind_some, zgR_k hl.1 lr.1 (by omega), Option.bind_some, zw_of (x := fr + (i : Int)) (by omega) (by omega), zaI_k hl.2.1 (by omega) (by omega), Option.bind_some, Int.emod_eq_of_lt c0 c1, zw_of (x := (s : Int) * 24) (by omega) (by omega), zw_of (x := (s : Int) * 24 + (i : Int)) (by omega) (by omega), zsI_k s_29 (by omega) (by omega), Option.bind_some, t1, zw_of (by omega) (by omega)]
        rw [show ((i + 1 : Nat) : Int) = (i : Int) + 1 by omega] at e1
        exact e1
      · by_cases hi : i' = i
        · subst hi
          rw [e3 _ (by omega), z_up_eq]
        · rw [e4 i' (by omega) b, z_up_ne (by omega)]
/-- the length of a text -/
def gcnt (a b : Int) : Int := if a = -1 then 0 else b - a
theorem e_keepT (rc : Rc ρ) {l : Nat} (hl : lnS L l) (lr : lnR ρ l) (hl9 : 179 ≤ l) {o t : Nat} (ho : o < 5) (ht : t < 2) {μ : Nat → Nat → Int} (h0 : μ 26 0 = ((o + 1 : Nat) : Int)) {a b len : Int} (a0 : -1 ≤ a) (b0 : -1 ≤ b) (a1 : a ≤ 24) (b1 : b ≤ len) (hlen : len ≤ 24) (hch : ∀ c : Nat, (c : Int) < len → 0 ≤ μ (l + 1) c ∧ μ (l + 1) c < 65536) : ∃ μ', f_St_keepText 26 ((t + 1 : Nat) : Int) l a b (SH L, ρ, μ) = some (SH L, ρ, μ') ∧ KpC l (2 * o + t) a (gcnt a b) μ μ' := by
  have hcn : gcnt a b ≤ 24 ∧ (0 < gcnt a b → 0 ≤ a ∧ a + gcnt a b = b) ∧ -26 ≤ gcnt a b := by
    unfold gcnt
    by_cases h : a = -1
    · rw [if_pos h]
      exact ⟨by omega, fun g => by omega, by omega⟩
    · rw [if_neg h]
      exact ⟨by omega, fun g => by omega, by omega⟩
  obtain ⟨n1, n2, n3⟩ := hcn
  obtain ⟨μ', e1, e2, e3, e4⟩ := e_keepL (L := L) rc hl lr hl9 (s := 2 * o + t) (by omega) (fr := a) n1 (fun g => by have := n2 g; omega) 24 100000 0 (z_up μ 28 (2 * o + t) (gcnt a b)) (by omega) (by omega) (fun i hi => by rw [z_up_ne (by omega)]; have := n2 (by omega); exact hch _ (by omega))
  refine ⟨μ', ?_, fun c j g1 g2 => (e2 c j g2).trans (z_up_ne g1), fun j g => (e2 28 j (by decide)).trans (z_up_nj g), (e2 28 _ (by decide)).trans z_up_eq, fun j g => (e3 j (by omega)).trans (z_up_ne (by decide)), fun i g => (e4 i (Nat.zero_le _) g).trans (z_up_ne (by omega))⟩
  have t1 : ((o + 1 : Nat) : Int) - 1 = (o : Int) := by omega
  have t2 : (o : Int) * 2 + ((t + 1 : Nat) : Int) - 1 = ((2 * o + t : Nat) : Int) := by omega
  have e0 : f_St_keepText 26 ((t + 1 : Nat) : Int) l a b (SH L, ρ, μ) = f_St_keepText_27 26 l a ((2 * o + t : Nat) : Int) (gcnt a b) (SH L, ρ, μ) := by
    unfold f_St_keepText gcnt
    rw [zgI_k s_26, Option.bind_some, h0, zw_of (x := ((o + 1 : Nat) : Int) - 1) (by omega) (by omega), t1, zw_of (x := (o : Int) * 2) (by omega) (by omega), zw_of (x := (o : Int) * 2 + ((t + 1 : Nat) : Int)) (by omega) (by omega), zw_of (x := (o : Int) * 2 + ((t + 1 : Nat) : Int) - 1) (by omega) (by omega), t2, zw_of (x := b - a) (by omega) (by omega)]
    by_cases h : a = -1
    · rw [if_pos h, if_pos h]
    · rw [if_neg h, if_neg h]
  rw [e0]
  unfold f_St_keepText_27
  rw [zgR_k s_26 rc.2.2.2.1.2.2.2.1 (by decide), Option.bind_some, zsI_k s_28 (by omega) (by omega), Option.bind_some, Int.toNat_natCast]
  exact e1
theorem m_op89 (rm : Rm ρ) {k : Nat} (hk : k < 6) {a3 : Int} {t s : Nat} (ht : t < 2) (hs : s < 10) {fr cnt : Int} (h24 : cnt ≤ 24) (hf : 0 < cnt → 0 ≤ fr ∧ fr + cnt ≤ 24) (K : Nat → Int → Int → Int → zH → Option zH) : ∀ (m N i : Nat) (ν : Nat → Nat → Int), i + m = 24 → m < N → ν 268 (2 * t) = fr →
    ∃ ν', f_Mo_openRange_89 K N 233 (k : Int) a3 (t : Int) (s : Int) cnt (i : Int) (SH L, ρ, ν) = K 233 (k : Int) a3 ((t + 1 : Nat) : Int) (SH L, ρ, ν') ∧ (∀ c j, c ≠ 266 → ν' c j = ν c j) ∧ (∀ j, ¬ (1440 + 24 * s + i ≤ j ∧ j < 1440 + 24 * s + 24) → ν' 266 j = ν 266 j) ∧ ∀ i' : Nat, i ≤ i' → (i' : Int) < cnt → ν' 266 (1440 + 24 * s + i') = ν 257 (24 * k + (fr + i').toNat) := by
  intro m
  induction m with
  | zero =>
    intro N i ν h1 h2 h3
    obtain ⟨N, rfl⟩ : ∃ k, N = k + 1 := ⟨N - 1, by omega⟩
    refine ⟨ν, ?_, fun _ _ _ => rfl, fun _ _ => rfl, fun i' g1 g2 => by omega⟩
    rw [f_Mo_openRange_89]
    show (if _ then _ else _) = _
    rw [if_pos (by omega), zw_of (by omega) (by omega), show ((t + 1 : Nat) : Int) = (t : Int) + 1 by omega]
  | succ m ih =>
    intro N i ν h1 h2 h3
    obtain ⟨N, rfl⟩ : ∃ k, N = k + 1 := ⟨N - 1, by omega⟩
    by_cases hc : cnt ≤ (i : Int)
    · refine ⟨ν, ?_, fun _ _ _ => rfl, fun _ _ => rfl, fun i' g1 g2 => by omega⟩
      rw [f_Mo_openRange_89]
      show (if _ then _ else _) = _
      rw [if_pos hc, zw_of (by omega) (by omega), show ((t + 1 : Nat) : Int) = (t : Int) + 1 by omega]
    · obtain ⟨f0, f1⟩ := hf (by omega)
      obtain ⟨ν', e1, e2, e3, e4⟩ := ih N (i + 1) (z_up ν 266 (1440 + 24 * s + i) (ν 257 (24 * k + (fr + i).toNat))) (by omega) (by omega) ((z_up_ne (by decide)).trans h3)
      refine ⟨ν', ?_, fun c j a => (e2 c j a).trans (z_up_ne a), fun j a => (e3 j (by omega)).trans (z_up_nj (by omega)), fun i' a b => ?_⟩
      · have t1 : (2 * (t : Int)).toNat = 2 * t := by omega
        have t2 : (24 * (k : Int) + fr + (i : Int)).toNat = 24 * k + (fr + i).toNat := by omega
        have t3 : (1440 + 24 * (s : Int) + (i : Int)).toNat = 1440 + 24 * s + i := by omega
        rw [f_Mo_openRange_89]
        show (if _ then _ else _) = _
        rw [if_neg hc, zgR_k s_233 (m_42 rm) (by decide), Option.bind_some, zgR_k s_233 (m_33 rm) (by decide), Option.bind_some, zgR_k s_233 (m_47 rm) (by decide), Option.bind_some, zw_of (x := 2 * (t : Int)) (by omega) (by omega), zaI_k s_268 (by omega) (by omega), Option.bind_some, t1, h3, zw_of (x := 24 * (k : Int)) (by omega) (by omega), zw_of (x := 24 * (k : Int) + fr) (by omega) (by omega), zw_of (x := 24 * (k : Int) + fr + (i : Int)) (by omega) (by omega), zaI_k s_257 (by omega) (by omega), Option.bind_some, t2, zw_of (x := 24 * (s : Int)) (by omega) (by omega), zw_of (x := 1440 + 24 * (s : Int)) (by omega) (by omega), zw_of (x := 1440 + 24 * (s : Int) + (i : Int)) (by omega) (by omega), zsI_k s_266 (by omega) (by omega), Option.bind_some, t3, zw_of (by omega) (by omega)]
        rw [show ((i + 1 : Nat) : Int) = (i : Int) + 1 by omega] at e1
        exact e1
      · by_cases hi : i' = i
        · subst hi
          rw [e3 _ (by omega), z_up_eq]
        · rw [e4 i' (by omega) b, z_up_ne (by decide)]
theorem m_op21 (rm : Rm ρ) {k : Nat} (hk : k < 6) {t o : Nat} (ht : t < 2) (ho : o < 5) {a b len : Int} (a0 : -1 ≤ a) (b0 : -1 ≤ b) (a1 : a ≤ 24) (b1 : b ≤ len) (hlen : len ≤ 24) (N : Nat) (ν : Nat → Nat → Int) (ha : ν 268 (2 * t) = a) (hb : ν 268 (2 * t + 1) = b) : ∃ ν', f_Mo_openRange_21 (N + 1) 233 (k : Int) (o : Int) (t : Int) (SH L, ρ, ν) = f_Mo_openRange_21 N 233 (k : Int) (o : Int) ((t + 1 : Nat) : Int) (SH L, ρ, ν') ∧ KpM k (2 * o + t) a (gcnt a b) ν ν' := by
  have hcn : gcnt a b ≤ 24 ∧ (0 < gcnt a b → 0 ≤ a ∧ a + gcnt a b = b) ∧ -26 ≤ gcnt a b := by
    unfold gcnt
    by_cases h : a = -1
    · rw [if_pos h]
      exact ⟨by omega, fun g => by omega, by omega⟩
    · rw [if_neg h]
      exact ⟨by omega, fun g => by omega, by omega⟩
  obtain ⟨n1, n2, n3⟩ := hcn
  obtain ⟨ν', e1, e2, e3, e4⟩ := m_op89 (L := L) rm hk (a3 := (o : Int)) (t := t) (s := 2 * o + t) ht (by omega) (fr := a) n1 (fun g => by have := n2 g; omega) (f_Mo_openRange_21 N) 24 100000 0 (z_up ν 265 (60 + (2 * o + t)) (gcnt a b)) (by omega) (by omega) ((z_up_ne (by decide)).trans ha)
  refine ⟨ν', ?_, fun c j g1 g2 => (e2 c j g2).trans (z_up_ne g1), fun j g => (e2 265 j (by decide)).trans (z_up_nj g), (e2 265 _ (by decide)).trans z_up_eq, fun j g => (e3 j (by omega)).trans (z_up_ne (by decide)), fun i g => (e4 i (Nat.zero_le _) g).trans (z_up_ne (by decide))⟩
  have t1 : (2 * (t : Int)).toNat = 2 * t := by omega
  have t2 : (2 * (t : Int) + 1).toNat = 2 * t + 1 := by omega
  have t3 : 2 * (o : Int) + (t : Int) = ((2 * o + t : Nat) : Int) := by omega
  have t4 : (60 + ((2 * o + t : Nat) : Int)).toNat = 60 + (2 * o + t) := by omega
  have e0 : f_Mo_openRange_21 (N + 1) 233 (k : Int) (o : Int) (t : Int) (SH L, ρ, ν) = f_Mo_openRange_72 (f_Mo_openRange_21 N) 233 (k : Int) (o : Int) (t : Int) ((2 * o + t : Nat) : Int) (gcnt a b) (SH L, ρ, ν) := by
    rw [f_Mo_openRange_21]
    show (if _ then _ else _) = _
    rw [if_neg (by omega), zgR_k s_233 (m_47 rm) (by decide), Option.bind_some, zw_of (x := 2 * (t : Int)) (by omega) (by omega), zaI_k s_268 (by omega) (by omega), Option.bind_some, t1, ha, zw_of (x := 2 * (o : Int)) (by omega) (by omega), zw_of (x := 2 * (o : Int) + (t : Int)) (by omega) (by omega), t3]
    unfold gcnt
    by_cases h : a = -1
    · rw [if_neg (by omega), if_pos h]
    · rw [if_pos (by omega), if_neg h, Option.bind_some, zw_of (x := 2 * (t : Int) + 1) (by omega) (by omega), zaI_k s_268 (by omega) (by omega), Option.bind_some, t2, hb, Option.bind_some, zaI_k s_268 (by omega) (by omega), Option.bind_some, t1, ha, zw_of (x := b - a) (by omega) (by omega)]
  rw [e0]
  unfold f_Mo_openRange_72
  rw [zgR_k s_233 (m_41 rm) (by decide), Option.bind_some, zw_of (x := 60 + ((2 * o + t : Nat) : Int)) (by omega) (by omega), zsI_k s_265 (by omega) (by omega), Option.bind_some, t4]
  exact e1
end Opn
