/-! Sets: what class and model read -/
/-- the source of the class's parser -/
def Src (μ : Nat → Nat → Int) (n : Nat) (c : Nat → Int) : Prop := μ 3 1 = n ∧ n ≤ 20 ∧ (∀ j, j < n → μ 4 j = c j ∧ 32 ≤ c j ∧ c j ≤ 126) ∧ ∀ j, n ≤ j → c j = 0
/-- an item that is a row of characters -/
def rowP (c : Nat → Int) (n k : Nat) : Prop := k + 2 < n ∧ c (k + 1) = 45 ∧ c (k + 2) ≠ 93
noncomputable def rowB (c : Nat → Int) (n k : Nat) : Bool := decide (k + 2 < n) && decide (c (k + 1) = 45) && !decide (c (k + 2) = 93)
theorem rowB_t {c : Nat → Int} {n k : Nat} : rowB c n k = true ↔ rowP c n k := by
  unfold rowB rowP
  simp [and_assoc]
noncomputable def itN (c : Nat → Int) (n k : Nat) : Nat := if rowB c n k = true then k + 3 else k + 1
noncomputable def itH (c : Nat → Int) (n k : Nat) : Int := if rowB c n k = true then c (k + 2) else c k
/-- where the items end; none where one is wrong -/
noncomputable def itE (c : Nat → Int) (n : Nat) : Nat → Nat → Option Nat
  | 0, _ => none
  | f + 1, k => if n ≤ k ∨ c k = 93 then some k else if itH c n k < c k then none else itE c n f (itN c n k)
noncomputable def itM (c : Nat → Int) (n : Nat) (d : Int) : Nat → Nat → Bool
  | 0, _ => false
  | f + 1, k => if n ≤ k ∨ c k = 93 then false else decide (c k ≤ d ∧ d ≤ itH c n k) || itM c n d f (itN c n k)
section Set
variable {L : Nat} {ρ : Nat → Nat → Nat}
theorem e_itL : ∀ (m N : Nat) (cur last : Int) (μ : Nat → Nat → Int), (last + 1 - cur).toNat = m → m < N → 32 ≤ cur → cur ≤ 127 → last ≤ 126 → ∃ lo hi, f_Pr_readItem_123 N 3 last cur (SH L, ρ, μ) = some (SH L, ρ, z_up (z_up μ 3 13 lo) 3 14 hi) ∧ ∀ d, 32 ≤ d → d ≤ 126 → inB lo hi d = (inB (μ 3 13) (μ 3 14) d || decide (cur ≤ d ∧ d ≤ last)) := by
  intro m
  induction m with
  | zero =>
    intro N cur last μ hm hN h0 h1 h2
    obtain ⟨N, rfl⟩ : ∃ k, N = k + 1 := ⟨N - 1, by omega⟩
    refine ⟨μ 3 13, μ 3 14, ?_, fun d d0 d1 => ?_⟩
    · rw [f_Pr_readItem_123]
      show (if _ then _ else _) = _
      rw [if_pos (by omega), z_up_self, z_up_self]
    · rw [decide_eq_false (show ¬ (cur ≤ d ∧ d ≤ last) by omega), Bool.or_false]
  | succ m ih =>
    intro N cur last μ hm hN h0 h1 h2
    obtain ⟨N, rfl⟩ : ∃ k, N = k + 1 := ⟨N - 1, by omega⟩
    obtain ⟨lo, hi, e1, e2⟩ := ih N (cur + 1) last (z_up (z_up μ 3 13 (bL (μ 3 13) cur)) 3 14 (bH (μ 3 14) cur)) (by omega) (by omega) (by omega) (by omega) h2
    refine ⟨lo, hi, ?_, fun d d0 d1 => ?_⟩
    · have q : z_up (z_up (z_up (z_up μ 3 13 (bL (μ 3 13) cur)) 3 14 (bH (μ 3 14) cur)) 3 13 lo) 3 14 hi = z_up (z_up μ 3 13 lo) 3 14 hi := by
        funext a b
        unfold z_up
        by_cases g1 : a = 3 ∧ b = 14
        · simp only [if_pos g1]
        · by_cases g2 : a = 3 ∧ b = 13
          · simp only [if_neg g1, if_pos g2]
          · simp only [if_neg g1, if_neg g2]
      rw [q] at e1
      rw [f_Pr_readItem_123]
      show (if _ then _ else _) = _
      unfold f_Pr_readItem_156 f_Pr_readItem_183
      have w1 : zw (cur - 32) = cur - 32 := zw_of (by omega) (by omega)
      rw [if_neg (by clear w1; omega), zgI_k s_3, Option.bind_some, w1]
      clear w1
      unfold bL bH at e1
      by_cases g : 64 ≤ cur - 32
      · rw [if_pos g, zpI_k s_3, Option.bind_some, zgI_k s_3, Option.bind_some, z_up_nj (by decide), if_pos g, zw_of (x := cur - 32 - 64) (by omega) (by omega), zpI_k s_3, Option.bind_some, zw_of (by omega) (by omega)]
        rw [if_pos g, if_pos g] at e1
        exact e1
      · rw [if_neg g, zpI_k s_3, Option.bind_some, zgI_k s_3, Option.bind_some, z_up_nj (by decide), if_neg g, zpI_k s_3, Option.bind_some, zw_of (by omega) (by omega)]
        rw [if_neg g, if_neg g] at e1
        exact e1
    · rw [e2 d d0 d1, z_up_nj (by decide), z_up_eq, z_up_eq, inB_add h0 (by omega) d0 d1, Bool.or_assoc]
      congr 1
      by_cases g : cur ≤ d ∧ d ≤ last
      · rw [decide_eq_true g]
        by_cases g2 : d = cur
        · rw [decide_eq_true g2, Bool.true_or]
        · rw [decide_eq_true (show cur + 1 ≤ d ∧ d ≤ last by omega), Bool.or_true]
      · rw [decide_eq_false g, decide_eq_false (show ¬ d = cur by omega), decide_eq_false (show ¬ (cur + 1 ≤ d ∧ d ≤ last) by omega), Bool.or_false]
/-- the parser's own numbers that a set may change -/
def FrS (μ μ' : Nat → Nat → Int) : Prop := (∀ c j, c ≠ 3 → μ' c j = μ c j) ∧ ∀ j, j ≠ 2 → j ≠ 4 → j ≠ 13 → j ≠ 14 → μ' 3 j = μ 3 j
theorem Src.fr {μ μ' : Nat → Nat → Int} {n : Nat} {c : Nat → Int} (h : Src μ n c) (g : FrS μ μ') : Src μ' n c := by
  obtain ⟨a, b, d, e⟩ := h
  refine ⟨(g.2 1 (by decide) (by decide) (by decide) (by decide)).trans a, b, fun j hj => ?_, e⟩
  rw [g.1 4 j (by decide)]
  exact d j hj
theorem e_item80 {n k : Nat} {c : Nat → Int} {μ : Nat → Nat → Int} (s20 : n ≤ 20) (ck : 32 ≤ c k ∧ c k ≤ 126) (hk : k < n) (h2 : μ 3 2 = k) : ∀ (sp : Int) (st : Nat) (last : Int), (sp = 0 ∧ st = 1 ∨ sp ≠ 0 ∧ st = 3) → 32 ≤ last → last ≤ 126 → ∃ μ', f_Pr_readItem_80 3 (c k) sp last (SH L, ρ, μ) = some (SH L, ρ, μ') ∧ FrS μ μ' ∧ μ' 3 2 = ((k + st : Nat) : Int) ∧ μ' 3 4 = (if μ 3 4 = 0 ∧ c k ≤ last then 0 else 1) ∧ ∀ d, 32 ≤ d → d ≤ 126 → inB (μ' 3 13) (μ' 3 14) d = (inB (μ 3 13) (μ 3 14) d || decide (c k ≤ d ∧ d ≤ last)) := by
  intro sp st last hsp l0 l1
  have fin : ∀ b : Int, (b = 0 ∨ b = 1) → b = (if μ 3 4 = 0 ∧ c k ≤ last then 0 else 1) → ∃ μ', f_Pr_readItem_117 3 (c k) last 3 b (SH L, ρ, z_up μ 3 2 ((k + st : Nat) : Int)) = some (SH L, ρ, μ') ∧ FrS μ μ' ∧ μ' 3 2 = ((k + st : Nat) : Int) ∧ μ' 3 4 = (if μ 3 4 = 0 ∧ c k ≤ last then 0 else 1) ∧ ∀ d, 32 ≤ d → d ≤ 126 → inB (μ' 3 13) (μ' 3 14) d = (inB (μ 3 13) (μ 3 14) d || decide (c k ≤ d ∧ d ≤ last)) := by
    intro b hb eb
    obtain ⟨lo, hi, e1, e2⟩ := e_itL (L := L) (ρ := ρ) (last + 1 - c k).toNat 100000 (c k) last (z_up (z_up μ 3 2 ((k + st : Nat) : Int)) 3 4 b) rfl (by omega) ck.1 (by omega) l1
    refine ⟨z_up (z_up (z_up (z_up μ 3 2 ((k + st : Nat) : Int)) 3 4 b) 3 13 lo) 3 14 hi, ?_, ⟨fun c' j g => ?_, fun j g1 g2 g3 g4 => ?_⟩, ?_, ?_, fun d d0 d1 => ?_⟩
    · unfold f_Pr_readItem_117
      rw [zpZ_k s_3 hb, Option.bind_some]
      exact e1
    · rw [z_up_ne g, z_up_ne g, z_up_ne g, z_up_ne g]
    · rw [z_up_nj g4, z_up_nj g3, z_up_nj g2, z_up_nj g1]
    · rw [z_up_nj (by decide), z_up_nj (by decide), z_up_nj (by decide), z_up_eq]
    · rw [z_up_nj (by decide), z_up_nj (by decide), z_up_eq, eb]
    · rw [z_up_eq, z_up_nj (by decide), z_up_eq, e2 d d0 d1, z_up_nj (by decide), z_up_nj (by decide), z_up_nj (by decide), z_up_nj (by decide)]
  have e95 : f_Pr_readItem_80 3 (c k) sp last (SH L, ρ, μ) = f_Pr_readItem_95 3 (c k) last 3 (k : Int) (st : Int) (SH L, ρ, μ) := by
    unfold f_Pr_readItem_80
    rw [zgI_k s_3, Option.bind_some, h2]
    obtain ⟨q1, q2⟩ | ⟨q1, q2⟩ := hsp
    · rw [if_pos q1, q2, show ((1 : Nat) : Int) = 1 from rfl]
    · rw [if_neg q1, q2, show ((3 : Nat) : Int) = 3 from rfl]
  rw [e95]
  unfold f_Pr_readItem_95 f_Pr_readItem_112
  have hst : st ≤ 3 := by omega
  rw [zw_of (by omega) (by omega), zpI_k s_3, Option.bind_some, zgI_k s_3, Option.bind_some, z_up_nj (by decide), show (k : Int) + (st : Int) = ((k + st : Nat) : Int) by omega]
  by_cases q : μ 3 4 = 0
  · rw [if_pos q]
    by_cases q2 : c k ≤ last
    · rw [if_pos q2]
      exact fin 0 (Or.inl rfl) (if_pos ⟨q, q2⟩).symm
    · rw [if_neg q2]
      exact fin 1 (Or.inr rfl) (if_neg fun g => q2 g.2).symm
  · rw [if_neg q]
    exact fin 1 (Or.inr rfl) (if_neg fun g => q g.1).symm
theorem e_item0 (rc : Rc ρ) {n k : Nat} {c : Nat → Int} {μ : Nat → Nat → Int} (hs : Src μ n c) (hk : k < n) (h2 : μ 3 2 = k) : f_Pr_readItem 3 (SH L, ρ, μ) = if rowB c n k = true then f_Pr_readItem_80 3 (c k) 1 (c (k + 2)) (SH L, ρ, μ) else f_Pr_readItem_80 3 (c k) 0 (c k) (SH L, ρ, μ) := by
  obtain ⟨s1, s20, s3, s4⟩ := hs
  have ck := s3 k hk
  have r0 := rc.2.1.1
  unfold f_Pr_readItem
  have k4 : z_gR (SH L, ρ, μ) 5 3 0 = some 4 := zgR_k s_3 r0 (by decide)
  have g2 : z_gI (SH L, ρ, μ) 5 3 2 = some (k : Int) := by rw [zgI_k s_3, h2]
  have g1 : z_gI (SH L, ρ, μ) 5 3 1 = some (n : Int) := by rw [zgI_k s_3, s1]
  have a0 : z_aI (SH L, ρ, μ) 21 4 (k : Int) = some (c k) := by rw [zaI_k s_4 (by omega) (by omega), Int.toNat_natCast, ck.1]
  have w1 : zw ((k : Int) + 1) = (k : Int) + 1 := zw_of (by omega) (by omega)
  have w2 : zw ((k : Int) + 2) = (k : Int) + 2 := zw_of (by omega) (by omega)
  have e59 : f_Pr_readItem_59 3 (c k) (SH L, ρ, μ) = f_Pr_readItem_80 3 (c k) 0 (c k) (SH L, ρ, μ) := by
    unfold f_Pr_readItem_59 f_Pr_readItem_60
    rw [if_pos (show (0 : Int) = 0 from rfl)]
  rw [k4, g2, g1]
  rw [Option.bind_some, Option.bind_some, a0, Option.bind_some, Option.bind_some, Option.bind_some, Option.bind_some, w2, e59]
  have w2' := And.intro w1 w2
  clear w1 w2
  by_cases q1 : (n : Int) ≤ (k : Int) + 2
  · rw [if_pos q1, if_neg (by rw [rowB_t]; unfold rowP; omega)]
  · have a1 : z_aI (SH L, ρ, μ) 21 4 ((k : Int) + 1) = some (c (k + 1)) := by rw [zaI_k s_4 (by omega) (by omega), show ((k : Int) + 1).toNat = k + 1 by omega, (s3 (k + 1) (by omega)).1]
    have a2 : z_aI (SH L, ρ, μ) 21 4 ((k : Int) + 2) = some (c (k + 2)) := by rw [zaI_k s_4 (by omega) (by omega), show ((k : Int) + 2).toNat = k + 2 by omega, (s3 (k + 2) (by omega)).1]
    rw [if_neg q1, Option.bind_some, w2'.1, a1, Option.bind_some]
    by_cases q2 : c (k + 1) = 45
    · rw [if_pos q2, Option.bind_some, Option.bind_some, w2'.2, a2, Option.bind_some]
      clear w2'
      by_cases q3 : c (k + 2) = 93
      · rw [if_pos q3, if_neg (by rw [rowB_t]; unfold rowP; omega)]
      · rw [if_neg q3, if_pos (by rw [rowB_t]; exact ⟨by omega, q2, q3⟩)]
        unfold f_Pr_readItem_60
        rw [if_neg (show ¬ (1 : Int) = 0 by decide), k4, Option.bind_some, g2, Option.bind_some, zw_of (by omega) (by omega), a2, Option.bind_some]
    · clear w2'
      rw [if_neg q2, if_neg (by rw [rowB_t]; unfold rowP; omega)]
theorem e_item (rc : Rc ρ) {n k : Nat} {c : Nat → Int} {μ : Nat → Nat → Int} (hs : Src μ n c) (hk : k < n) (h2 : μ 3 2 = k) (h4 : μ 3 4 = 0 ∨ μ 3 4 = 1) : ∃ μ', f_Pr_readItem 3 (SH L, ρ, μ) = some (SH L, ρ, μ') ∧ FrS μ μ' ∧ μ' 3 2 = itN c n k ∧ μ' 3 4 = (if μ 3 4 = 0 ∧ c k ≤ itH c n k then 0 else 1) ∧ ∀ d, 32 ≤ d → d ≤ 126 → inB (μ' 3 13) (μ' 3 14) d = (inB (μ 3 13) (μ 3 14) d || decide (c k ≤ d ∧ d ≤ itH c n k)) := by
  have e0 := e_item0 (L := L) rc hs hk h2
  obtain ⟨s1, s20, s3, s4⟩ := hs
  have ck := s3 k hk
  have gen := e_item80 (L := L) (ρ := ρ) (n := n) s20 ck.2 hk h2
  rw [e0]
  unfold itN itH
  by_cases hr : rowB c n k = true
  · simp only [if_pos hr]
    have := rowB_t.1 hr
    have ck2 := s3 (k + 2) this.1
    obtain ⟨μ', t1, t2, t3, t4, t5⟩ := gen 1 3 (c (k + 2)) (Or.inr ⟨by decide, rfl⟩) ck2.2.1 ck2.2.2
    exact ⟨μ', t1, t2, t3, t4, t5⟩
  · simp only [if_neg hr]
    obtain ⟨μ', t1, t2, t3, t4, t5⟩ := gen 0 1 (c k) (Or.inl ⟨rfl, rfl⟩) ck.2.1 ck.2.2
    exact ⟨μ', t1, t2, t3, t4, t5⟩
end Set
