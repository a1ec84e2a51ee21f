/-! A whole set: its characters; readSet -/
theorem inL_key {c : Nat → Int} {n : Nat} : ∀ {f q e : Nat}, itE c n f q = some e → q ≤ e := by
  intro f
  induction f with
  | zero => intro q e h; cases h
  | succ f ihf =>
    intro q e h
    have h' : (if n ≤ q ∨ c q = 93 then some q else if itH c n q < c q then none else itE c n f (itN c n q)) = some e := h
    by_cases g1 : n ≤ q ∨ c q = 93
    · rw [if_pos g1] at h'
      have := Option.some.inj h'
      omega
    · rw [if_neg g1] at h'
      by_cases g2 : itH c n q < c q
      · rw [if_pos g2] at h'
        cases h'
      · rw [if_neg g2] at h'
        have := ihf h'
        have := itN_le (c := c) (n := n) (k := q) (by omega)
        omega
theorem inL_eq {c : Nat → Int} {n : Nat} {d : Int} : ∀ (f F k e : Nat) (fo : Int), itE c n f k = some e → e < n → f ≤ F → (fo = 0 ∨ fo = 1) → inL c e d F k fo = if fo = 1 ∨ itM c n d f k = true then 1 else 0 := by
  intro f
  induction f with
  | zero => intro F k e fo h; cases h
  | succ f ih =>
    intro F k e fo h he hF hfo
    obtain ⟨F, rfl⟩ : ∃ q, F = q + 1 := ⟨F - 1, by omega⟩
    have h' : (if n ≤ k ∨ c k = 93 then some k else if itH c n k < c k then none else itE c n f (itN c n k)) = some e := h
    show (if e ≤ k then fo else if c (k + 1) = 45 ∧ k + 2 < e then inL c e d F (k + 3) (if fo = 0 ∧ ¬ (c k ≤ d ∧ d ≤ c (k + 2)) then 0 else 1) else inL c e d F (k + 1) (if fo = 0 ∧ ¬ (c k ≤ d ∧ d ≤ c k) then 0 else 1)) = _
    by_cases g1 : n ≤ k ∨ c k = 93
    · rw [if_pos g1] at h'
      have ek := Option.some.inj h'
      have e2 : itM c n d (f + 1) k = false := if_pos g1
      rw [if_pos (by omega), e2]
      obtain hfo | hfo := hfo
      · rw [hfo, if_neg (by simp)]
      · rw [hfo, if_pos (Or.inl rfl)]
    · rw [if_neg g1] at h'
      have hkn : k < n := by omega
      obtain ⟨n1, n2, n3⟩ := itN_le (c := c) hkn
      have e2 : itM c n d (f + 1) k = (decide (c k ≤ d ∧ d ≤ itH c n k) || itM c n d f (itN c n k)) := if_neg g1
      by_cases g2 : itH c n k < c k
      · rw [if_pos g2] at h'
        cases h'
      rw [if_neg g2] at h'
      have key : ∀ (f q e : Nat), itE c n f q = some e → q ≤ e := by
        intro f
        induction f with
        | zero => intro q e h; cases h
        | succ f ihf =>
          intro q e h
          have h' : (if n ≤ q ∨ c q = 93 then some q else if itH c n q < c q then none else itE c n f (itN c n q)) = some e := h
          by_cases g1 : n ≤ q ∨ c q = 93
          · rw [if_pos g1] at h'
            have := Option.some.inj h'
            omega
          · rw [if_neg g1] at h'
            by_cases g2 : itH c n q < c q
            · rw [if_pos g2] at h'
              cases h'
            · rw [if_neg g2] at h'
              have := ihf _ _ h'
              have := itN_le (c := c) (n := n) (k := q) (by omega)
              omega
      have hle := key _ _ _ h'
      rw [if_neg (show ¬ e ≤ k by omega), e2]
      have fin : ∀ (hi : Int) (q : Nat), itH c n k = hi → itN c n k = q → inL c e d F q (if fo = 0 ∧ ¬ (c k ≤ d ∧ d ≤ hi) then 0 else 1) = if fo = 1 ∨ (decide (c k ≤ d ∧ d ≤ itH c n k) || itM c n d f (itN c n k)) = true then 1 else 0 := by
        intro hi q eh eq
        rw [eh, eq]
        rw [eq] at h'
        by_cases g3 : c k ≤ d ∧ d ≤ hi
        · rw [if_neg (fun z => z.2 g3), ih F q e 1 h' he (by omega) (Or.inr rfl), if_pos (Or.inl rfl), decide_eq_true g3, if_pos (Or.inr (by simp))]
        · rw [decide_eq_false g3, Bool.false_or]
          obtain hfo | hfo := hfo
          · rw [if_pos ⟨hfo, g3⟩, ih F q e 0 h' he (by omega) (Or.inl rfl), hfo]
          · rw [if_neg (fun z => by omega), ih F q e 1 h' he (by omega) (Or.inr rfl), hfo]
      by_cases hr : rowB c n k = true
      · have hrp := rowB_t.1 hr
        have eN : itN c n k = k + 3 := by unfold itN; rw [if_pos hr]
        rw [if_pos ⟨hrp.2.1, by omega⟩]
        exact fin _ _ (by unfold itH; rw [if_pos hr]) eN
      · have eN : itN c n k = k + 1 := by unfold itN; rw [if_neg hr]
        rw [if_neg (show ¬ (c (k + 1) = 45 ∧ k + 2 < e) from ?_)]
        · exact fin _ _ (by unfold itH; rw [if_neg hr]) eN
        · intro ⟨q1, q2⟩
          have q3 : c (k + 2) = 93 := by
            by_cases z : c (k + 2) = 93
            · exact z
            · exact absurd (rowB_t.2 ⟨by omega, q1, z⟩) hr
          rw [eN] at h'
          cases f with
          | zero => cases h'
          | succ f =>
            have h2 : (if n ≤ k + 1 ∨ c (k + 1) = 93 then some (k + 1) else if itH c n (k + 1) < c (k + 1) then none else itE c n f (itN c n (k + 1))) = some e := h'
            rw [if_neg (by omega)] at h2
            have hr1 : ¬ rowB c n (k + 1) = true := fun z => by
              have z1 : c (k + 1 + 1) = 45 := (rowB_t.1 z).2.1
              have z2 : c (k + 1 + 1) = 93 := q3
              omega
            have eN1 : itN c n (k + 1) = k + 2 := by unfold itN; rw [if_neg hr1]
            have eH1 : itH c n (k + 1) = c (k + 1) := by unfold itH; rw [if_neg hr1]
            rw [eH1, if_neg (by omega), eN1] at h2
            cases f with
            | zero => cases h2
            | succ f =>
              have h3 : (if n ≤ k + 2 ∨ c (k + 2) = 93 then some (k + 2) else if itH c n (k + 2) < c (k + 2) then none else itE c n f (itN c n (k + 2))) = some e := h2
              rw [if_pos (Or.inr q3)] at h3
              have := Option.some.inj h3
              omega
/-- an atom is there: the parser's place, the code and the sets -/
def AOk (p Z : Nat) (op f : Int) (q sc sc' : Nat) (μ μ' : Nat → Nat → Int) : Prop := (∀ c j, c ≠ 3 → c < p ∨ p + 5 < c → μ' c j = μ c j) ∧ (∀ j, j ≠ 2 → j ≠ 13 → j ≠ 14 → μ' 3 j = μ 3 j) ∧ μ' 3 2 = q ∧ μ' p 5 = ((Z + 1 : Nat) : Int) ∧ μ' p 6 = sc' ∧ (μ' (p + 1) = insA (μ (p + 1)) Z Z op ∧ μ' (p + 2) = insA (μ (p + 2)) Z Z f ∧ μ' (p + 3) = insA (μ (p + 3)) Z Z 0) ∧ ∀ j, j < sc → μ' (p + 4) j = μ (p + 4) j ∧ μ' (p + 5) j = μ (p + 5) j
/-- the pattern is bad: what still holds -/
def Bd (p s0 : Nat) (μ μ' : Nat → Nat → Int) : Prop := (∀ c j, c ≠ 3 → c ≠ 9 → c < p ∨ p + 5 < c → μ' c j = μ c j) ∧ (∀ j, j ≠ 2 → j ≠ 4 → j ≠ 13 → j ≠ 14 → μ' 3 j = μ 3 j) ∧ (μ' 3 4 = 1 ∧ 0 ≤ μ' 3 2) ∧ (∃ Z' : Nat, μ' p 5 = Z' ∧ Z' ≤ 41 ∧ s0 ≤ Z') ∧ ∀ j, j < s0 → μ' (p + 3) j = μ (p + 3) j
section Set3
variable {L : Nat} {ρ : Nat → Nat → Nat} {p : Nat}
theorem e_readSet (rc : Rc ρ) (hp : ptS L p) (pr : ptR ρ p) (hp6 : 36 ≤ p) {n k Z sc : Nat} {c : Nat → Int} {μ : Nat → Nat → Int} (hs : Src μ n c) (hk : k ≤ n) (h2 : μ 3 2 = k) (h4 : μ 3 4 = 0) (hZ : Z < 41) (h5 : μ p 5 = Z) (hsc : 3 * sc < k) (h6 : μ p 6 = sc) : ∃ μ', f_Pr_readSet 3 p (SH L, ρ, μ) = some (SH L, ρ, μ') ∧
    ((∃ (k0 e : Nat), ((c k = 94 ∧ k0 = k + 1) ∨ (c k ≠ 94 ∧ k0 = k)) ∧ itE c n (n - k0 + 1) k0 = some e ∧ e ≠ k0 ∧ e < n ∧ AOk p Z 2 sc (e + 1) sc (sc + 1) μ μ' ∧ ∀ d, 32 ≤ d → d ≤ 126 → inB (μ' (p + 4) sc) (μ' (p + 5) sc) d = (if c k = 94 then !itM c n d (n - k0 + 1) k0 else itM c n d (n - k0 + 1) k0)) ∨
     ((∃ k0 : Nat, ((c k = 94 ∧ k0 = k + 1) ∨ (c k ≠ 94 ∧ k0 = k)) ∧ (itE c n (n - k0 + 1) k0 = none ∨ ∃ e, itE c n (n - k0 + 1) k0 = some e ∧ (e = k0 ∨ n ≤ e))) ∧ Bd p Z μ μ')) := by
  have s20 := hs.2.1
  -- ng: whether the set is negated
  have gen : ∀ (ng : Int) (k0 : Nat), ((ng = 1 ∧ c k = 94 ∧ k0 = k + 1) ∨ (ng = 0 ∧ c k ≠ 94 ∧ k0 = k)) → k0 ≤ n → f_Pr_readSet 3 p (SH L, ρ, μ) = f_Pr_readSet_45 3 p ng 3 (k : Int) ng (SH L, ρ, μ) → ∃ μ', f_Pr_readSet 3 p (SH L, ρ, μ) = some (SH L, ρ, μ') ∧ ((∃ (k0 e : Nat), ((c k = 94 ∧ k0 = k + 1) ∨ (c k ≠ 94 ∧ k0 = k)) ∧ itE c n (n - k0 + 1) k0 = some e ∧ e ≠ k0 ∧ e < n ∧ AOk p Z 2 sc (e + 1) sc (sc + 1) μ μ' ∧ ∀ d, 32 ≤ d → d ≤ 126 → inB (μ' (p + 4) sc) (μ' (p + 5) sc) d = (if c k = 94 then !itM c n d (n - k0 + 1) k0 else itM c n d (n - k0 + 1) k0)) ∨ ((∃ k0 : Nat, ((c k = 94 ∧ k0 = k + 1) ∨ (c k ≠ 94 ∧ k0 = k)) ∧ (itE c n (n - k0 + 1) k0 = none ∨ ∃ e, itE c n (n - k0 + 1) k0 = some e ∧ (e = k0 ∨ n ≤ e))) ∧ Bd p Z μ μ')) := by
    intro ng k0 hng hk0 e45
    have hkk : ((c k = 94 ∧ k0 = k + 1) ∨ (c k ≠ 94 ∧ k0 = k)) := by
      obtain ⟨-, a, b⟩ | ⟨-, a, b⟩ := hng
      · exact Or.inl ⟨a, b⟩
      · exact Or.inr ⟨a, b⟩
    have fa : FrS μ (z_up (z_up (z_up μ 3 2 (k0 : Int)) 3 13 0) 3 14 0) := ⟨fun c' j g => by rw [z_up_ne g, z_up_ne g, z_up_ne g], fun j g1 g2 g3 g4 => by rw [z_up_nj g4, z_up_nj g3, z_up_nj g1]⟩
    obtain ⟨μ1, e, b1, b2, b3, b4, b5, b6, b7⟩ := e_setL (L := L) rc (p := p) (ng := ng) (fi := (k0 : Int)) (n - k0) 100000 0 k0 (z_up (z_up (z_up μ 3 2 (k0 : Int)) 3 13 0) 3 14 0) (by omega) (by omega) (by omega) (hs.fr fa) hk0 (by rw [z_up_nj (by decide), z_up_nj (by decide), z_up_eq]) (Or.inl (by rw [z_up_nj (by decide), z_up_nj (by decide), z_up_nj (by decide)]; exact h4))
    have f1 : FrS μ μ1 := ⟨fun c' j g => (b2.1 c' j g).trans (fa.1 c' j g), fun j g1 g2 g3 g4 => (b2.2 j g1 g2 g3 g4).trans (fa.2 j g1 g2 g3 g4)⟩
    have e0 : f_Pr_readSet 3 p (SH L, ρ, μ) = f_Pr_readSet_109 3 p ng (k0 : Int) (SH L, ρ, μ1) := by
      rw [e45]
      unfold f_Pr_readSet_45
      rw [zw_of (by omega) (by omega), show (k : Int) + ng = (k0 : Int) by omega, zpI_k s_3, Option.bind_some, zgI_k s_3, Option.bind_some, z_up_eq, zpI_k s_3, Option.bind_some, zpI_k s_3, Option.bind_some]
      exact b1
    have p5 : μ1 p 5 = Z := (f1.1 p 5 (by omega)).trans h5
    have p6 : μ1 p 6 = sc := (f1.1 p 6 (by omega)).trans h6
    have badA : f_Pr_readSet_109 3 p ng (k0 : Int) (SH L, ρ, μ1) = some (SH L, ρ, z_up μ1 3 4 1) → (itE c n (n - k0 + 1) k0 = none ∨ ∃ e, itE c n (n - k0 + 1) k0 = some e ∧ (e = k0 ∨ n ≤ e)) → ∃ μ', f_Pr_readSet_109 3 p ng (k0 : Int) (SH L, ρ, μ1) = some (SH L, ρ, μ') ∧ ((∃ (k0 e : Nat), ((c k = 94 ∧ k0 = k + 1) ∨ (c k ≠ 94 ∧ k0 = k)) ∧ itE c n (n - k0 + 1) k0 = some e ∧ e ≠ k0 ∧ e < n ∧ AOk p Z 2 sc (e + 1) sc (sc + 1) μ μ' ∧ ∀ d, 32 ≤ d → d ≤ 126 → inB (μ' (p + 4) sc) (μ' (p + 5) sc) d = (if c k = 94 then !itM c n d (n - k0 + 1) k0 else itM c n d (n - k0 + 1) k0)) ∨ ((∃ k0 : Nat, ((c k = 94 ∧ k0 = k + 1) ∨ (c k ≠ 94 ∧ k0 = k)) ∧ (itE c n (n - k0 + 1) k0 = none ∨ ∃ e, itE c n (n - k0 + 1) k0 = some e ∧ (e = k0 ∨ n ≤ e))) ∧ Bd p Z μ μ')) := by
      intro h hb
      refine ⟨_, h, Or.inr ⟨⟨k0, hkk, hb⟩, fun c' j g1 g2 g3 => (z_up_ne g1).trans (f1.1 c' j g1), fun j g1 g2 g3 g4 => (z_up_nj g2).trans (f1.2 j g1 g2 g3 g4), ⟨z_up_eq, by rw [z_up_nj (by decide), b3]; omega⟩, ⟨Z, (z_up_ne (by omega)).trans p5, by omega, Nat.le_refl _⟩, fun j hj => (z_up_ne (by omega)).trans (f1.1 _ j (by omega))⟩⟩
    rw [e0]
    by_cases g1 : e = k0
    · refine badA ?_ ?_
      · unfold f_Pr_readSet_109 f_Pr_readSet_128
        rw [zgI_k s_3, Option.bind_some, b3, if_pos (by omega), zpZ_k s_3 (Or.inr rfl), Option.bind_some]
      · obtain ⟨-, q2, -⟩ | ⟨q1, q2⟩ := b6
        · exact Or.inr ⟨e, q2, Or.inl g1⟩
        · obtain q2 | q2 := q2
          · rw [z_up_nj (by decide), z_up_nj (by decide), z_up_nj (by decide)] at q2
            omega
          · exact Or.inl q2
    by_cases g2 : n ≤ e
    · refine badA ?_ ?_
      · unfold f_Pr_readSet_109 f_Pr_readSet_128
        rw [zgI_k s_3, Option.bind_some, b3, if_neg (by omega), Option.bind_some, zgI_k s_3, Option.bind_some, (hs.fr f1).1, if_neg (by omega), zpZ_k s_3 (Or.inr rfl), Option.bind_some]
      · obtain ⟨-, q2, -⟩ | ⟨q1, q2⟩ := b6
        · exact Or.inr ⟨e, q2, Or.inr g2⟩
        · obtain q2 | q2 := q2
          · rw [z_up_nj (by decide), z_up_nj (by decide), z_up_nj (by decide)] at q2
            omega
          · exact Or.inl q2
    have hsc6 : sc < 6 := by
      have : k ≤ k0 := by
        obtain ⟨-, -, z⟩ | ⟨-, -, z⟩ := hng <;> omega
      omega
    -- the set is appended
    have up : ∀ (X Y : Int), ∃ μ2, f_Pr_readSet_183 p X Y (SH L, ρ, z_up μ1 3 2 ((e + 1 : Nat) : Int)) = some (SH L, ρ, μ2) ∧ AOk p Z 2 sc (e + 1) sc (sc + 1) (z_up μ 3 4 (μ1 3 4)) μ2 ∧ μ2 (p + 4) sc = X ∧ μ2 (p + 5) sc = Y := by
      intro X Y
      obtain ⟨μ2, i1, i2, i3, i4, i5, i6, i7⟩ := e_append (L := L) (ρ := ρ) hp pr (Z := Z) (op := 2) (f := (sc : Int)) (μ := z_up (z_up (z_up μ1 3 2 ((e + 1 : Nat) : Int)) (p + 4) sc X) (p + 5) sc Y) hZ (by rw [z_up_ne (by omega), z_up_ne (by omega), z_up_ne (by omega)]; exact p5)
      have nn : ∀ (g : Nat → Nat → Int) (c c' j' : Nat) (v : Int), c ≠ c' → z_up g c' j' v c = g c := by
        intro g c c' j' v h
        funext j
        exact z_up_ne h
      have fr1 : ∀ q, q ≠ 3 → μ1 q = μ q := fun q hq => funext fun j => f1.1 q j hq
      have cc : ∀ q, p + 1 ≤ q → q ≤ p + 3 → z_up (z_up (z_up μ1 3 2 ((e + 1 : Nat) : Int)) (p + 4) sc X) (p + 5) sc Y q = z_up μ 3 4 (μ1 3 4) q := by
        intro q q1 q2
        rw [nn _ _ _ _ _ (by omega), nn _ _ _ _ _ (by omega), nn _ _ _ _ _ (by omega), nn _ _ _ _ _ (by omega), fr1 q (by omega)]
      rw [cc _ (by omega) (by omega)] at i5 i6 i7
      refine ⟨z_up μ2 p 6 ((sc + 1 : Nat) : Int), ?_, ⟨fun c' j g1 g2 => ?_, fun j g1 g2 g3 => ?_, ?_, ?_, z_up_eq, ⟨?_, ?_, ?_⟩, fun j hj => ?_⟩, ?_, ?_⟩
      · unfold f_Pr_readSet_183 f_Pt_appendSet
        rw [zck_k hp.1, Option.bind_some, zgI_k hp.1, Option.bind_some, z_up_ne (by omega), p6, if_neg (by omega), zgR_k hp.1 pr.2.2.2.1 (by omega), Option.bind_some, Option.bind_some, zsI_k hp.2.2.2.2.1 (by omega) (by omega), Option.bind_some, Int.toNat_natCast, zgR_k hp.1 pr.2.2.2.2 (by omega), Option.bind_some, zgI_k hp.1, Option.bind_some, z_up_ne (by omega), z_up_ne (by omega), p6, zsI_k hp.2.2.2.2.2 (by omega) (by omega), Option.bind_some, Int.toNat_natCast, zgI_k hp.1, Option.bind_some, z_up_ne (by omega), z_up_ne (by omega), z_up_ne (by omega), p6, zck_k hp.1, Option.bind_some, i1, Option.bind_some, zgI_k hp.1, Option.bind_some, i3 6 (by decide), z_up_ne (by omega), z_up_ne (by omega), z_up_ne (by omega), p6, zw_of (by omega) (by omega), zpI_k hp.1, Option.bind_some, Option.bind_some, show ((sc + 1 : Nat) : Int) = (sc : Int) + 1 by omega]
      · rw [z_up_ne (by omega), i2 c' j (by omega), z_up_ne (by omega), z_up_ne (by omega), z_up_ne g1, z_up_ne g1]
        exact f1.1 c' j g1
      · rw [z_up_ne (by omega), i2 3 j (by omega), z_up_ne (by omega), z_up_ne (by omega), z_up_nj g1]
        by_cases g4 : j = 4
        · subst g4
          rw [z_up_eq]
        · rw [z_up_nj g4]
          exact f1.2 j g1 g4 g2 g3
      · rw [z_up_ne (by omega), i2 3 2 (by omega), z_up_ne (by omega), z_up_ne (by omega), z_up_eq]
      · rw [z_up_nj (by decide)]
        exact i4
      · rw [nn _ _ _ _ _ (by omega), i5]
      · rw [nn _ _ _ _ _ (by omega), i6]
      · rw [nn _ _ _ _ _ (by omega), i7]
      · exact ⟨((z_up_ne (by omega)).trans ((i2 (p + 4) j (by omega)).trans ((z_up_ne (by omega)).trans ((z_up_nj (by omega)).trans ((z_up_ne (by omega)).trans (f1.1 _ j (by omega))))))).trans (z_up_ne (by omega)).symm, ((z_up_ne (by omega)).trans ((i2 (p + 5) j (by omega)).trans ((z_up_nj (by omega)).trans ((z_up_ne (by omega)).trans ((z_up_ne (by omega)).trans (f1.1 _ j (by omega))))))).trans (z_up_ne (by omega)).symm⟩
      · rw [z_up_ne (by omega), i2 (p + 4) sc (by omega), z_up_ne (by omega), z_up_eq]
      · rw [z_up_ne (by omega), i2 (p + 5) sc (by omega), z_up_eq]
    have en : f_Pr_readSet_109 3 p ng (k0 : Int) (SH L, ρ, μ1) = f_Pr_readSet_183 p (if ng = 0 then μ1 3 13 else z_lxor (μ1 3 13) (-1)) (if ng = 0 then μ1 3 14 else z_lxor (μ1 3 14) (-1)) (SH L, ρ, z_up μ1 3 2 ((e + 1 : Nat) : Int)) := by
      unfold f_Pr_readSet_109 f_Pr_readSet_164
      rw [zgI_k s_3, Option.bind_some, b3, if_neg (by omega), Option.bind_some, zgI_k s_3, Option.bind_some, (hs.fr f1).1, if_pos (by omega), Option.bind_some, zw_of (by omega) (by omega), zpI_k s_3, Option.bind_some, show ((e + 1 : Nat) : Int) = (e : Int) + 1 by omega]
      by_cases z : ng = 0
      · rw [if_pos z, if_pos z, if_pos z, zgI_k s_3, Option.bind_some, if_pos z, zgI_k s_3, Option.bind_some, z_up_nj (by decide), z_up_nj (by decide)]
      · rw [if_neg z, if_neg z, if_neg z, zgI_k s_3, Option.bind_some, if_neg z, zgI_k s_3, Option.bind_some, z_up_nj (by decide), z_up_nj (by decide)]
    obtain ⟨μ2, u1, u2, u3, u4⟩ := up (if ng = 0 then μ1 3 13 else z_lxor (μ1 3 13) (-1)) (if ng = 0 then μ1 3 14 else z_lxor (μ1 3 14) (-1))
    rw [en, u1]
    refine ⟨μ2, rfl, ?_⟩
    obtain ⟨-, q2, q3⟩ | ⟨q1, q2⟩ := b6
    · refine Or.inl ⟨k0, e, hkk, q2, g1, by omega, ?_, fun d d0 d1 => ?_⟩
      · have : z_up μ 3 4 (μ1 3 4) = μ := by
          rw [q3, ← h4]
          exact z_up_self μ 3 4
        rw [this] at u2
        exact u2
      · have b7' := b7 d d0 d1
        rw [z_up_nj (by decide), z_up_eq, z_up_eq, inB_0, Bool.false_or] at b7'
        rw [u3, u4]
        obtain ⟨z, z1, -⟩ | ⟨z, z1, -⟩ := hng
        · rw [if_neg (by omega), if_neg (by omega), inB_not d0 d1, if_pos z1, b7']
        · rw [if_pos z, if_pos z, if_neg z1, b7']
    · refine Or.inr ⟨⟨k0, hkk, ?_⟩, ?_⟩
      · obtain q2 | q2 := q2
        · rw [z_up_nj (by decide), z_up_nj (by decide), z_up_nj (by decide)] at q2
          omega
        · exact Or.inl q2
      · obtain ⟨v1, v2, v3, v4, v5, ⟨v6, v7, v8⟩, v9⟩ := u2
        refine ⟨fun c' j g1 g2 g3 => (v1 c' j g1 g3).trans (z_up_ne g1), fun j g1 g2 g3 g4 => (v2 j g1 g3 g4).trans (z_up_nj g2), ⟨(v2 4 (by decide) (by decide) (by decide)).trans (z_up_eq.trans q1), by rw [v3]; omega⟩, ⟨Z + 1, v4, by omega, by omega⟩, fun j hj => ?_⟩
        rw [v8, insA_lt hj, z_up_ne (by omega)]
  -- the first character
  by_cases g1 : n ≤ k
  · refine gen 0 k (Or.inr ⟨rfl, by rw [hs.2.2.2 k g1]; decide, rfl⟩) hk ?_
    unfold f_Pr_readSet f_Pr_readSet_29 f_Pr_readSet_30
    rw [zgI_k s_3, Option.bind_some, h2, zgI_k s_3, Option.bind_some, hs.1, if_pos (by omega), Option.bind_some, if_pos rfl]
  · have ck := (hs.2.2.1 k (by omega)).1
    by_cases g2 : c k = 94
    · refine gen 1 (k + 1) (Or.inl ⟨rfl, g2, rfl⟩) (by omega) ?_
      unfold f_Pr_readSet f_Pr_readSet_29 f_Pr_readSet_30
      rw [zgI_k s_3, Option.bind_some, h2, zgI_k s_3, Option.bind_some, hs.1, if_neg (by omega), zgR_k s_3 rc.2.1.1 (by decide), Option.bind_some, Option.bind_some, zaI_k s_4 (by omega) (by omega), Option.bind_some, Int.toNat_natCast, ck, if_pos g2, Option.bind_some, if_neg (show ¬ (1 : Int) = 0 by decide)]
    · refine gen 0 k (Or.inr ⟨rfl, g2, rfl⟩) hk ?_
      unfold f_Pr_readSet f_Pr_readSet_29 f_Pr_readSet_30
      rw [zgI_k s_3, Option.bind_some, h2, zgI_k s_3, Option.bind_some, hs.1, if_neg (by omega), zgR_k s_3 rc.2.1.1 (by decide), Option.bind_some, Option.bind_some, zaI_k s_4 (by omega) (by omega), Option.bind_some, Int.toNat_natCast, ck, if_neg g2, Option.bind_some, if_pos (show (0 : Int) = 0 from rfl)]
end Set3
