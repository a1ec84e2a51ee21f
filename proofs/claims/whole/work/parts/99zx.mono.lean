/-! What of the keys' facts stays when more is read -/
def Mo (g g' : PG) (τ τ' : Tx) (sc sc' : Nat) (lo hi lo' hi' : Nat → Int) (i i' a : Nat) : Prop :=
  (i ≤ i' ∧ (i < i' → g'.W i = 1)) ∧ (∀ x, g.K x = true → g'.K x = true ∧ g'.ko x = g.ko x ∧ g'.kf x = g.kf x ∧ g'.k2 x = g.k2 x ∧ g'.D x = g.D x) ∧ (∀ m, m < i → g'.W m = g.W m) ∧ (∀ m, m ≤ i → g'.dp m = g.dp m) ∧ (τ'.c = τ.c ∧ τ'.en = τ.en) ∧ (∀ m, m < i → τ'.go m = τ.go m ∧ τ'.ow m = τ.ow m) ∧ (∀ m, m < i → m ≠ a → τ'.qu m = τ.qu m ∧ τ'.ae m = τ.ae m ∧ τ'.pe m = τ.pe m) ∧ sc ≤ sc' ∧ (∀ j, j < sc → lo' j = lo j ∧ hi' j = hi j) ∧
  (∀ x, g.K x = true → g.ko x = 6 ∨ (∃ m, x = 4 * m + 2 ∧ g.W m ≠ 1) → g'.k1 x = g.k1 x) ∧ ∀ q, q < i → g.W q = 1 → τ.c q = 41 → τ.ow q ≠ a
section Mon
variable {g g' : PG} {τ τ' : Tx} {sc sc' : Nat} {lo hi lo' hi' : Nat → Int} {i i' a : Nat}
theorem BrF.mo (M : Mo g g' τ τ' sc sc' lo hi lo' hi' i i' a) {j : Nat} {nb : Int} (h : BrF g τ i j nb) (hj : g'.K (4 * j) = true → g.K (4 * j) = true) : BrF g' τ' i' j nb := by
  obtain ⟨⟨m1, m2⟩, m3, m4, m5, ⟨m6, m7⟩, m8, m9, m10, m11, m12, m13⟩ := M
  obtain ⟨b1, b2⟩ | ⟨y, b1, b2, b3, b4, b5, b6, b7, b8, b9, b10, b11⟩ := h
  · exact Or.inl ⟨b1, fun z => b2 (hj z)⟩
  · obtain ⟨k1, k2, k3, k4, k5⟩ := m3 _ b6
    refine Or.inr ⟨y, b1, b2, by omega, by rw [m4 y b3]; exact b4, by rw [m6]; exact b5, k1, by rw [k2]; exact b7, by rw [m12 _ b6 (Or.inl b7)]; exact b8, by rw [k4]; exact b9, by rw [k5, m5 j (by omega)]; exact b10, by rw [m5 (y + 1) (by omega), m5 j (by omega)]; exact b11⟩
theorem GrF.mo (M : Mo g g' τ τ' sc sc' lo hi lo' hi' i i' a) {o q : Nat} (h : GrF g τ i o q) : GrF g' τ' i' o q := by
  obtain ⟨⟨m1, m2⟩, m3, m4, m5, ⟨m6, m7⟩, m8, m9, m10, m11, m12, m13⟩ := M
  obtain ⟨g1, g2, g3, g4, g5, g6, g7, g8, g9⟩ := h
  have oa : o ≠ a := by
    intro e
    subst e
    exact m13 q g2 g5 g6 g8
  exact ⟨g1, by omega, by rw [m4 o (by omega)]; exact g3, by rw [m6]; exact g4, by rw [m4 q g2]; exact g5, by rw [m6]; exact g6, by rw [(m9 o (by omega) oa).2.1]; exact g7, by rw [(m8 q g2).2]; exact g8, (m3 _ g9).1⟩
theorem QuF.mo (M : Mo g g' τ τ' sc sc' lo hi lo' hi' i i' a) {k b r : Nat} (hk : k < i) (hka : k ≠ a) (hr : r ≤ i) (hbw : b < r → g.W b ≠ 1) (h : QuF g τ k b r) (h1 : g'.K (4 * k + 1) = true → g.K (4 * k + 1) = true) : QuF g' τ' k b r := by
  obtain ⟨⟨m1, m2⟩, m3, m4, m5, ⟨m6, m7⟩, m8, m9, m10, m11, m12, m13⟩ := M
  have eq := (m9 k hk hka).1
  unfold QuF
  rw [eq, m5 r hr, m5 k (by omega)]
  obtain ⟨q0, q1, q2⟩ | ⟨q0, q1, q2, q3, q4, q5, q6, q7, q8, q9⟩ | ⟨q0, q1, q2, q3, q4, q5, q6⟩ | ⟨q0, q1, q2, q3, q4, q5, q6⟩ := h
  · exact Or.inl ⟨q0, q1, fun z => q2 (h1 z)⟩
  · obtain ⟨x1, x2, x3, x4, x5⟩ := m3 _ q3
    obtain ⟨y1, y2, y3, y4, y5⟩ := m3 _ q6
    have z1 := m12 _ q3 (Or.inl q4)
    have z2 := m12 _ q6 (Or.inr ⟨b, rfl, hbw q1⟩)
    exact Or.inr (Or.inl ⟨q0, q1, q2, x1, by rw [x2]; exact q4, by rw [z1, x4]; exact q5, y1, by rw [y2]; exact q7, by rw [z2]; exact q8, by rw [y5]; exact q9⟩)
  · obtain ⟨y1, y2, y3, y4, y5⟩ := m3 _ q3
    have z2 := m12 _ q3 (Or.inl q4)
    exact Or.inr (Or.inr (Or.inl ⟨q0, q1, fun z => q2 (h1 z), y1, by rw [y2]; exact q4, by rw [y5]; exact q5, by rw [z2, y4]; exact q6⟩))
  · obtain ⟨x1, x2, x3, x4, x5⟩ := m3 _ q3
    have z1 := m12 _ q3 (Or.inl q4)
    exact Or.inr (Or.inr (Or.inr ⟨q0, q1, q2, x1, by rw [x2]; exact q4, by rw [m4 b (by omega)]; exact q5, by rw [z1, x4]; exact q6⟩))
theorem PcF.mo (M : Mo g g' τ τ' sc sc' lo hi lo' hi' i i' a) {k b e : Nat} (hk : k < i) (hka : k ≠ a) (h : PcF g τ i k b e) (h1 : g'.K (4 * k + 1) = true → g.K (4 * k + 1) = true) : PcF g' τ' i' k b e := by
  obtain ⟨⟨m1, m2⟩, m3, m4, m5, ⟨m6, m7⟩, m8, m9, m10, m11, m12, m13⟩ := id M
  obtain ⟨r, p1, p2, p3, p4, p5, p6, p7, p8, p9, p10, p11, p12⟩ := h
  obtain ⟨e1, e2, e3⟩ := m9 k hk hka
  refine ⟨r, by rw [e2]; exact p1, by rw [e3]; exact p2, p3, p4, by omega, fun z => ?_, fun m q1 q2 => ?_, fun z => ?_, p9, by rw [m5 r p5, m5 k (by omega)]; exact p10, fun z => by rw [e1]; exact p11 z, p12.mo M hk hka p5 (fun z => (p7 b (Nat.le_refl _) z).1) h1⟩
  · by_cases w : r < i
    · rw [m4 r w]
      exact p6 w
    · have : r = i := by omega
      rw [this]
      exact m2 (by omega)
  · rw [m4 m (by omega)]
    exact p7 m q1 q2
  · rw [m4 (r - 1) (by omega)] at z
    rw [m6]
    exact p8 z
theorem AtS.mo {op f : Int} {c : Nat → Int} {k b : Nat} (h : AtS op f lo hi c k b) (hl : op = 2 → lo' f.toNat = lo f.toNat ∧ hi' f.toNat = hi f.toNat) : AtS op f lo' hi' c k b := by
  intro len tx he l1 l2 l3
  have e : aF op f lo' hi' len tx he = aF op f lo hi len tx he := by
    unfold aF
    by_cases h2 : op = 2
    · have : ∀ d, inS lo' hi' f d = inS lo hi f d := by
        intro d
        unfold inS
        rw [(hl h2).1, (hl h2).2]
      rw [this]
    · by_cases q : op = 3
      · rw [if_pos q, if_pos q]
      rw [if_neg q, if_neg q]
      by_cases q : op = 4
      · rw [if_pos q, if_pos q]
      rw [if_neg q, if_neg q]
      by_cases q : he < len
      · rw [if_pos q, if_pos q]
        by_cases q : op = 1
        · rw [if_pos q, if_pos q]
        rw [if_neg q, if_neg q]
        by_cases q : op = 0
        · rw [if_pos q, if_pos q]
        rw [if_neg q, if_neg q, if_neg h2, if_neg h2]
      · rw [if_neg q, if_neg q]
  rw [e]
  exact h len tx he l1 l2 l3
theorem AtF.mo (M : Mo g g' τ τ' sc sc' lo hi lo' hi' i i' a) {k : Nat} (hk : k < i) (hka : k ≠ a) (hK : g.K (4 * k + 2) = true) (h : AtF g τ sc lo hi i k) (h1 : g'.K (4 * k + 1) = true → g.K (4 * k + 1) = true) : AtF g' τ' sc' lo' hi' i' k := by
  obtain ⟨⟨m1, m2⟩, m3, m4, m5, ⟨m6, m7⟩, m8, m9, m10, m11, m12, m13⟩ := id M
  obtain ⟨b, e, y1, y2, y3, y4, y5⟩ := h
  obtain ⟨x1, x2, x3, x4, x5⟩ := m3 _ hK
  have hbi : b ≤ i := by
    obtain ⟨r, -, -, -, p4, p5, -⟩ := y2
    omega
  refine ⟨b, e, by rw [x5, m5 k (by omega)]; exact y1, y2.mo M hk hka h1, fun m q1 q2 => by rw [m4 m (by omega)]; exact y3 m q1 q2, y4, ?_⟩
  rw [m6, m7, x2, x3]
  obtain y5 | ⟨v1, v2, v3, v4, v5, v6⟩ := y5
  · exact Or.inl y5
  · refine Or.inr ⟨v1, v2, v3, fun z => ⟨(v4 z).1, by have := (v4 z).2; omega⟩, v5, v6.mo fun z => ?_⟩
    have := v4 z
    exact m11 _ (by omega)
/-- a character that was read before; a bar's level is looked at apart -/
theorem TkF.mo (M : Mo g g' τ τ' sc sc' lo hi lo' hi' i i' a) {k : Nat} {opB opG opB' opG' : Nat → Prop} (hk : k < i) (hka : k ≠ a) (h : TkF g τ sc lo hi i k opB opG) (h1 : g'.K (4 * k + 1) = true → g.K (4 * k + 1) = true) (h0 : τ.c k = 40 ∨ τ.c k = 124 → BrF g τ i (k + 1) (τ.ba k) → BrF g' τ' i' (k + 1) (τ'.ba k))
    (hB : τ.c k = 124 → opB k → opB' k ∨ ∃ o q : Nat, τ'.ow k = o ∧ o < k ∧ k < q ∧ GrF g' τ' i' o q ∧ g'.k1 (4 * k + 2) = 4 * q + 2 ∧ g'.D (4 * q + 2) ≤ g'.dp k) (hB2 : τ.c k = 124 → (∃ o q : Nat, τ.ow k = o ∧ GrF g τ i o q) → g'.k1 (4 * k + 2) = g.k1 (4 * k + 2)) (hG : opG k → opG' k) : TkF g' τ' sc' lo' hi' i' k opB' opG' := by
  obtain ⟨⟨m1, m2⟩, m3, m4, m5, ⟨m6, m7⟩, m8, m9, m10, m11, m12, m13⟩ := id M
  obtain ⟨t1, t2, t3, t4⟩ := h
  obtain ⟨x1, x2, x3, x4, x5⟩ := m3 _ t1
  have wn : (k + 1 < i → g.W (k + 1) = 1) → k + 1 < i' → g'.W (k + 1) = 1 := by
    intro z w
    by_cases q : k + 1 < i
    · rw [m4 _ q]
      exact z q
    · have : k + 1 = i := by omega
      rw [this]
      exact m2 (by omega)
  refine ⟨x1, by rw [x5, m5 k (by omega)]; exact t2, fun z => by rw [(m3 _ (h1 z)).2.2.2.2, m5 k (by omega)]; exact t3 (h1 z), ?_⟩
  rw [m6, x2, x3, x5, m5 k (by omega)]
  obtain ⟨z1, z2, z3, z4, z5, z6, z7⟩ | ⟨z1, z2, z3, o, q, z4, z5, z6, z7, z8⟩ | ⟨z1, z2, z3, z4, z5, z6, z7, z8⟩ | ⟨z1, z2, z3, z4, z5⟩ := t4
  · refine Or.inl ⟨z1, z2, z3, fun w => z4 (h1 w), wn z5, h0 (Or.inr z1) z6, ?_⟩
    obtain z7 | ⟨o, q, y1, y2, y3, y4, y5, y6⟩ := z7
    · obtain w | ⟨o, q, w1, w2, w3, w4, w5, w6⟩ := hB z1 z7
      · exact Or.inl w
      · exact Or.inr ⟨o, q, w1, w2, w3, w4, w5, by rw [m5 k (by omega)] at w6; exact w6⟩
    · refine Or.inr ⟨o, q, by rw [(m8 k hk).2]; exact y1, y2, y3, y4.mo M, by rw [hB2 z1 ⟨o, q, y1, y4⟩]; exact y5, ?_⟩
      rw [(m3 _ y4.2.2.2.2.2.2.2.2).2.2.2.2]
      exact y6
  · exact Or.inr (Or.inl ⟨z1, z2, fun w => z3 (h1 w), o, q, z4.mo M, by rw [(m8 k hk).2]; exact z5, by rw [(m8 o (by have := z4.1; omega)).1]; exact z6, z7, z8⟩)
  · refine Or.inr (Or.inr (Or.inl ⟨z1, z2, z3, ?_, wn z5, h0 (Or.inl z1) z6, by rw [m5 (k + 1) (by omega)]; exact z7, ?_⟩))
    · rw [(m8 k hk).1]
      exact z4
    · obtain z8 | ⟨q, e, y1, y2, y3⟩ := z8
      · exact Or.inl (hG z8)
      · refine Or.inr ⟨q, e, y1.mo M hk hka h1, y2.mo M, ?_⟩
        rw [(m3 _ y2.2.2.2.2.2.2.2.2).2.2.2.2]
        exact y3
  · exact Or.inr (Or.inr (Or.inr ⟨z1, z2, z3, z4, z5.mo M hk hka t1 h1⟩))
end Mon
