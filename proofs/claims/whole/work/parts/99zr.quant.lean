/-! Quantifiers -/
/-- what repeat makes of the code -/
def RepO (p s Z : Nat) (q lz : Int) (μ μ' : Nat → Nat → Int) : Prop :=
  (q = 43 ∧ InsH p Z Z 6 (if lz = 0 then -((Z : Int) - s) else 1) (if lz = 0 then 1 else -((Z : Int) - s)) μ μ') ∨
  (q = 63 ∧ InsH p s Z 6 (if lz = 0 then 1 else (Z : Int) - s + 1) (if lz = 0 then (Z : Int) - s + 1 else 1) μ μ') ∨
  (q = 42 ∧ ∃ μ1, InsH p s Z 6 (if lz = 0 then 1 else (Z : Int) - s + 2) (if lz = 0 then (Z : Int) - s + 2 else 1) μ μ1 ∧ InsH p (Z + 1) (Z + 1) 7 (-((Z : Int) - s + 1)) 0 μ1 μ')
/-- the quantifier at b: its number, whether it is lazy, where the piece ends -/
noncomputable def qN (c : Nat → Int) (b : Nat) : Int := if c b = 42 then 1 else if c b = 43 then 2 else if c b = 63 then 3 else 0
noncomputable def qL (c : Nat → Int) (b : Nat) : Int := if qN c b = 0 then 0 else if c (b + 1) = 63 then 1 else 0
noncomputable def qE (c : Nat → Int) (b : Nat) : Nat := if qN c b = 0 then b else if c (b + 1) = 63 then b + 2 else b + 1
section Qnt
variable {L : Nat} {ρ : Nat → Nat → Nat} {p : Nat}
theorem e_isplit (hp : ptS L p) {a inw onw lz : Int} {μ : Nat → Nat → Int} : f_Pt_insertSplit p a inw onw lz (SH L, ρ, μ) = (f_Pt_insert p a 6 (if lz = 0 then inw else onw) (if lz = 0 then onw else inw) (SH L, ρ, μ)).bind fun h => some h := by
  unfold f_Pt_insertSplit f_Pt_insertSplit_14 f_Pt_insertSplit_24
  rw [zck_k hp.1, Option.bind_some, Option.bind_some, Option.bind_some, Option.bind_some]
  by_cases h : lz = 0
  · rw [if_pos h, if_pos h, if_pos h, if_pos h]
  · rw [if_neg h, if_neg h, if_neg h, if_neg h]
theorem e_repeat (hp : ptS L p) (pr : ptR ρ p) {s Z : Nat} {μ : Nat → Nat → Int} (hs : s ≤ Z) (hZ : Z + 2 ≤ 41) (h5 : μ p 5 = Z) {q lz : Int} (hq : q = 42 ∨ q = 43 ∨ q = 63) : ∃ μ', f_Pt_repeat p (s : Int) q lz (SH L, ρ, μ) = some (SH L, ρ, μ') ∧ RepO p s Z q lz μ μ' := by
  have w1 : zw ((Z : Int) - s) = (Z : Int) - s := zw_of (by omega) (by omega)
  have w2 : zw (-((Z : Int) - s)) = -((Z : Int) - s) := zw_of (by omega) (by omega)
  have w3 : zw ((Z : Int) - s + 1) = (Z : Int) - s + 1 := zw_of (by omega) (by omega)
  have w4 : zw ((Z : Int) - s + 2) = (Z : Int) - s + 2 := zw_of (by omega) (by omega)
  have w5 : zw (-((Z : Int) - s + 1)) = -((Z : Int) - s + 1) := zw_of (by omega) (by omega)
  have ww := And.intro w1 (And.intro w2 (And.intro w3 (And.intro w4 w5)))
  clear w1 w2 w3 w4 w5
  unfold f_Pt_repeat
  rw [zgI_k hp.1, Option.bind_some, h5, ww.1, ww.2.1, ww.2.2.1, ww.2.2.2.1, ww.2.2.2.2]
  clear ww
  by_cases g1 : q = 43
  · obtain ⟨μ', i1, i2⟩ := e_insert (L := L) (ρ := ρ) hp pr (a := Z) (op := 6) (f := if lz = 0 then -((Z : Int) - s) else 1) (s := if lz = 0 then 1 else -((Z : Int) - s)) (by omega) (Nat.le_refl _) h5
    refine ⟨μ', ?_, Or.inl ⟨g1, i2⟩⟩
    rw [if_pos g1, Option.bind_some, zck_k hp.1, Option.bind_some, e_isplit hp, i1, Option.bind_some, Option.bind_some]
  rw [if_neg g1]
  by_cases g2 : q = 63
  · obtain ⟨μ', i1, i2⟩ := e_insert (L := L) (ρ := ρ) hp pr (a := s) (op := 6) (f := if lz = 0 then 1 else (Z : Int) - s + 1) (s := if lz = 0 then (Z : Int) - s + 1 else 1) (by omega) hs h5
    refine ⟨μ', ?_, Or.inr (Or.inl ⟨g2, i2⟩)⟩
    rw [if_pos g2, zck_k hp.1, Option.bind_some, e_isplit hp, i1, Option.bind_some, Option.bind_some]
  rw [if_neg g2]
  obtain ⟨μ1, i1, i2⟩ := e_insert (L := L) (ρ := ρ) hp pr (a := s) (op := 6) (f := if lz = 0 then 1 else (Z : Int) - s + 2) (s := if lz = 0 then (Z : Int) - s + 2 else 1) (by omega) hs h5
  obtain ⟨μ', j1, j2⟩ := e_append (L := L) (ρ := ρ) hp pr (Z := Z + 1) (op := 7) (f := -((Z : Int) - s + 1)) (μ := μ1) (by omega) i2.2.2.1
  refine ⟨μ', ?_, Or.inr (Or.inr ⟨by omega, μ1, i2, j2⟩)⟩
  rw [zck_k hp.1, Option.bind_some, e_isplit hp, i1, Option.bind_some, Option.bind_some, zck_k hp.1, Option.bind_some, j1, Option.bind_some]
/-- what of the heap a quantifier changes, besides the code -/
def QFr (p lv : Nat) (μ μ' : Nat → Nat → Int) : Prop := (∀ c j, c ≠ 3 → c ≠ 9 → c < p ∨ p + 3 < c → μ' c j = μ c j) ∧ (∀ j, j ≠ 2 → j ≠ 4 → μ' 3 j = μ 3 j) ∧ (∀ j, j ≠ lv → μ' 9 j = μ 9 j) ∧ ∀ j, j ≠ 5 → μ' p j = μ p j
theorem e_172 (rc : Rc ρ) {lv : Nat} (hl : lv < 4) {μ : Nat → Nat → Int} (h6 : μ 3 6 = lv) (em : Int) : f_Pr_readQuantifier_172 3 em (SH L, ρ, μ) = some (SH L, ρ, z_up μ 9 lv (if μ 9 lv = 0 ∨ em = 0 then 0 else 1)) := by
  unfold f_Pr_readQuantifier_172
  rw [zgR_k s_3 rc.2.1.2.2.2.2.2.1 (by decide), Option.bind_some, zgI_k s_3, Option.bind_some, h6, Option.bind_some, Option.bind_some, zaI_k s_9 (by omega) (by omega), Option.bind_some, Int.toNat_natCast]
  by_cases g : μ 9 lv = 0
  · rw [if_pos g, if_pos (Or.inl g), zsI_k s_9 (by omega) (by omega), Option.bind_some, Int.toNat_natCast]
    rfl
  · rw [if_neg g]
    by_cases g2 : em = 0
    · rw [if_pos g2, if_pos (Or.inr g2), zsI_k s_9 (by omega) (by omega), Option.bind_some, Int.toNat_natCast]
      rfl
    · rw [if_neg g2, if_neg (by omega), zsI_k s_9 (by omega) (by omega), Option.bind_some, Int.toNat_natCast]
      rfl
theorem InsH.q {a Z : Nat} {op f s : Int} {μ μ' : Nat → Nat → Int} (hp6 : 36 ≤ p) (h : InsH p a Z op f s μ μ') (lv : Nat) : QFr p lv μ μ' := ⟨fun c j g1 g2 g3 => h.1 c j g3, fun j g1 g2 => h.1 3 j (by omega), fun j g => h.1 9 j (by omega), h.2.1⟩
theorem QFr.trans {lv : Nat} {a b c : Nat → Nat → Int} (h : QFr p lv a b) (g : QFr p lv b c) : QFr p lv a c := ⟨fun x j g1 g2 g3 => (g.1 x j g1 g2 g3).trans (h.1 x j g1 g2 g3), fun j g1 g2 => (g.2.1 j g1 g2).trans (h.2.1 j g1 g2), fun j g1 => (g.2.2.1 j g1).trans (h.2.2.1 j g1), fun j g1 => (g.2.2.2 j g1).trans (h.2.2.2 j g1)⟩
theorem RepO.q {s Z lv : Nat} {q lz : Int} {μ μ' : Nat → Nat → Int} (hp6 : 36 ≤ p) (h : RepO p s Z q lz μ μ') : QFr p lv μ μ' := by
  obtain ⟨-, h⟩ | ⟨-, h⟩ | ⟨-, μ1, h, g⟩ := h
  · exact h.q hp6 lv
  · exact h.q hp6 lv
  · exact (h.q hp6 lv).trans (g.q hp6 lv)
theorem RepO.s {s Z : Nat} {q lz : Int} {μ μ' : Nat → Nat → Int} (hs : s ≤ Z) (h : RepO p s Z q lz μ μ') : (∀ j, j < s → μ' (p + 3) j = μ (p + 3) j) ∧ ∃ Z' : Nat, μ' p 5 = Z' ∧ Z' ≤ Z + 2 ∧ s ≤ Z' := by
  obtain ⟨-, h⟩ | ⟨-, h⟩ | ⟨-, μ1, h, g⟩ := h
  · exact ⟨fun j hj => by rw [h.2.2.2.2.2, insA_lt (by omega)], Z + 1, h.2.2.1, by omega, by omega⟩
  · exact ⟨fun j hj => by rw [h.2.2.2.2.2, insA_lt hj], Z + 1, h.2.2.1, by omega, by omega⟩
  · exact ⟨fun j hj => by rw [g.2.2.2.2.2, insA_lt (by omega), h.2.2.2.2.2, insA_lt hj], Z + 2, g.2.2.1, by omega, by omega⟩
/-- readQuantifier behind an atom that is right -/
theorem e_quant (rc : Rc ρ) (hp : ptS L p) (pr : ptR ρ p) (hp6 : 36 ≤ p) {n b s Z lv : Nat} {c : Nat → Int} {μ : Nat → Nat → Int} (hs : Src μ n c) (hb : b ≤ n) (h2 : μ 3 2 = b) (h4 : μ 3 4 = 0) (h6 : μ 3 6 = lv) (hlv : lv < 4) (hsZ : s < Z) (hZ : Z + 2 ≤ 41) (h5 : μ p 5 = Z) (em : Int) :
    ∃ μ', f_Pr_readQuantifier 3 (s : Int) em p (SH L, ρ, μ) = some (SH L, ρ, μ') ∧
     ((qN c b = 0 ∧ μ' = z_up μ 9 lv (if μ 9 lv = 0 ∨ em = 0 then 0 else 1)) ∨
      (qN c b ≠ 0 ∧ ¬ (μ (p + 1) s = 5 ∨ (em ≠ 0 ∧ qN c b ≠ 3)) ∧ ∃ μ1 μ2, μ1 = z_up (z_up μ 3 2 (qE c b : Int)) 3 4 0 ∧ RepO p s Z (c b) (qL c b) μ1 μ2 ∧ μ' = z_up μ2 9 lv (if μ 9 lv = 0 ∨ qN c b = 2 then 0 else 1)) ∨
      (qN c b ≠ 0 ∧ (μ (p + 1) s = 5 ∨ (em ≠ 0 ∧ qN c b ≠ 3)) ∧ Bd p s μ μ')) := by
  obtain ⟨s1, s20, s3, s4⟩ := id hs
  have em28 : f_Pr_readQuantifier 3 (s : Int) em p (SH L, ρ, μ) = f_Pr_readQuantifier_28 3 (s : Int) em p em (if b < n then c b else 32) (SH L, ρ, μ) := by
    unfold f_Pr_readQuantifier
    rw [zgI_k s_3, Option.bind_some, h2, zgI_k s_3, Option.bind_some, s1]
    by_cases g : b < n
    · rw [if_neg (by omega), if_pos g, zgR_k s_3 rc.2.1.1 (by decide), Option.bind_some, Option.bind_some, zaI_k s_4 (by omega) (by omega), Option.bind_some, Int.toNat_natCast, (s3 b g).1]
    · rw [if_pos (by omega), if_neg g]
  have e28 : f_Pr_readQuantifier 3 (s : Int) em p (SH L, ρ, μ) = if qN c b = 0 then f_Pr_readQuantifier_172 3 em (SH L, ρ, μ) else f_Pr_readQuantifier_58 3 (s : Int) em p (c b) (SH L, ρ, μ) := by
    rw [em28]
    unfold f_Pr_readQuantifier_28 qN
    rw [zgI_k s_3, Option.bind_some, h4, if_pos rfl]
    by_cases g : b < n
    · rw [if_pos g]
      by_cases q1 : c b = 42
      · rw [if_pos q1, if_pos q1, if_neg (show ¬ (1 : Int) = 0 by decide)]
      rw [if_neg q1, if_neg q1]
      by_cases q2 : c b = 43
      · rw [if_pos q2, if_pos q2, if_neg (show ¬ (2 : Int) = 0 by decide)]
      rw [if_neg q2, if_neg q2]
      by_cases q3 : c b = 63
      · rw [if_pos q3, if_pos q3, if_neg (show ¬ (3 : Int) = 0 by decide)]
      rw [if_neg q3, if_neg q3, if_pos rfl]
    · have z := s4 b (by omega)
      rw [if_neg g, z, if_neg (show ¬ (32 : Int) = 42 by decide), if_neg (show ¬ (32 : Int) = 43 by decide), if_neg (show ¬ (32 : Int) = 63 by decide), if_neg (show ¬ (0 : Int) = 42 by decide), if_neg (show ¬ (0 : Int) = 43 by decide), if_neg (show ¬ (0 : Int) = 63 by decide), if_pos rfl]
  rw [e28]
  by_cases q0 : qN c b = 0
  · rw [if_pos q0, e_172 rc hlv h6]
    exact ⟨_, rfl, Or.inl ⟨q0, rfl⟩⟩
  rw [if_neg q0]
  have hbn : b < n := by
    by_cases g : b < n
    · exact g
    · exfalso
      apply q0
      unfold qN
      rw [s4 b (by omega)]
      rfl
  have hq : c b = 42 ∨ c b = 43 ∨ c b = 63 := by
    unfold qN at q0
    by_cases q1 : c b = 42
    · exact Or.inl q1
    by_cases q2 : c b = 43
    · exact Or.inr (Or.inl q2)
    by_cases q3 : c b = 63
    · exact Or.inr (Or.inr q3)
    rw [if_neg q1, if_neg q2, if_neg q3] at q0
    exact absurd rfl q0
  have q3i : qN c b = 3 ↔ c b = 63 := by
    unfold qN
    obtain q | q | q := hq
    · rw [if_pos q]; omega
    · rw [if_neg (by omega), if_pos q]; omega
    · rw [if_neg (by omega), if_neg (by omega), if_pos q]; omega
  have q2i : qN c b = 2 ↔ c b = 43 := by
    unfold qN
    obtain q | q | q := hq
    · rw [if_pos q]; omega
    · rw [if_neg (by omega), if_pos q]; omega
    · rw [if_neg (by omega), if_neg (by omega), if_pos q]; omega
  have l01 : qL c b = 0 ∨ qL c b = 1 := by
    unfold qL
    rw [if_neg q0]
    by_cases g : c (b + 1) = 63
    · rw [if_pos g]; exact Or.inr rfl
    · rw [if_neg g]; exact Or.inl rfl
  have eE : (qE c b : Int) = (b : Int) + 1 + qL c b := by
    unfold qE qL
    rw [if_neg q0, if_neg q0]
    by_cases g : c (b + 1) = 63
    · rw [if_pos g, if_pos g]; omega
    · rw [if_neg g, if_neg g]; omega
  -- the rest behind 'lazy'
  have e115 : f_Pr_readQuantifier_58 3 (s : Int) em p (c b) (SH L, ρ, μ) = f_Pr_readQuantifier_115 3 (s : Int) em p (c b) (qL c b) 3 ((b : Int) + 1) (qL c b) (SH L, ρ, z_up μ 3 2 ((b : Int) + 1)) := by
    unfold f_Pr_readQuantifier_58 f_Pr_readQuantifier_97 f_Pr_readQuantifier_98 qL
    rw [zgI_k s_3, Option.bind_some, h2, zw_of (by omega) (by omega), zpI_k s_3, Option.bind_some, zgI_k s_3, Option.bind_some, z_up_eq, zgI_k s_3, Option.bind_some, z_up_nj (by decide), s1, if_neg q0]
    by_cases g1 : (n : Int) ≤ (b : Int) + 1
    · have z := s4 (b + 1) (by omega)
      rw [if_pos g1, z, if_neg (show ¬ (0 : Int) = 63 by decide), Option.bind_some, if_pos rfl]
    · rw [if_neg g1, zgR_k s_3 rc.2.1.1 (by decide), Option.bind_some, Option.bind_some, zaI_k s_4 (by omega) (by omega), Option.bind_some, show ((b : Int) + 1).toNat = b + 1 by omega, z_up_ne (by decide), (s3 (b + 1) (by omega)).1]
      by_cases g2 : c (b + 1) = 63
      · rw [if_pos g2, if_pos g2, Option.bind_some, if_neg (show ¬ (1 : Int) = 0 by decide)]
      · rw [if_neg g2, if_neg g2, Option.bind_some, if_pos rfl]
  rw [e115]
  have up : z_up (z_up μ 3 2 ((b : Int) + 1)) 3 2 (qE c b : Int) = z_up μ 3 2 (qE c b : Int) := by
    funext x y
    unfold z_up
    by_cases g : x = 3 ∧ y = 2
    · rw [if_pos g, if_pos g]
    · rw [if_neg g, if_neg g, if_neg g]
  have fin : ∀ bd : Int, (bd = 0 ∨ bd = 1) → ∃ μ2, f_Pr_readQuantifier_146 3 (s : Int) p (c b) (qL c b) 3 bd (SH L, ρ, z_up μ 3 2 (qE c b : Int)) = some (SH L, ρ, z_up μ2 9 lv (if μ 9 lv = 0 ∨ qN c b = 2 then 0 else 1)) ∧ RepO p s Z (c b) (qL c b) (z_up (z_up μ 3 2 (qE c b : Int)) 3 4 bd) μ2 := by
    intro bd hbd
    obtain ⟨μ2, r1, r2⟩ := e_repeat (L := L) (ρ := ρ) hp pr (s := s) (Z := Z) (μ := z_up (z_up μ 3 2 (qE c b : Int)) 3 4 bd) (by omega) hZ (by rw [z_up_ne (by omega), z_up_ne (by omega)]; exact h5) (q := c b) (lz := qL c b) hq
    have fq := r2.q (lv := lv) hp6
    have h96 : μ2 3 6 = lv := (fq.2.1 6 (by decide) (by decide)).trans ((z_up_nj (by decide)).trans ((z_up_nj (by decide)).trans h6))
    have h99 : μ2 9 lv = μ 9 lv := by
      have := (r2.q (lv := lv + 1) hp6).2.2.1 lv (by omega)
      rw [this, z_up_ne (by decide), z_up_ne (by decide)]
    refine ⟨μ2, ?_, r2⟩
    unfold f_Pr_readQuantifier_146 f_Pr_readQuantifier_170
    rw [zpZ_k s_3 hbd, Option.bind_some, zck_k hp.1, Option.bind_some, r1, Option.bind_some]
    by_cases g : c b = 43
    · rw [if_pos g, e_172 rc hlv h96, h99, if_pos (Or.inr rfl), if_pos (Or.inr (q2i.2 g))]
    · rw [if_neg g, e_172 rc hlv h96, h99]
      by_cases g2 : μ 9 lv = 0
      · rw [if_pos (Or.inl g2), if_pos (Or.inl g2)]
      · rw [if_neg (by omega), if_neg (fun z => by
          obtain z | z := z
          · exact g2 z
          · exact g (q2i.1 z))]
  have bdQ : ∀ μ2, RepO p s Z (c b) (qL c b) (z_up (z_up μ 3 2 (qE c b : Int)) 3 4 1) μ2 → Bd p s μ (z_up μ2 9 lv (if μ 9 lv = 0 ∨ qN c b = 2 then 0 else 1)) := by
    intro μ2 r2
    have fq := r2.q (lv := lv) hp6
    have h34 : ∀ j, μ2 3 j = z_up (z_up μ 3 2 (qE c b : Int)) 3 4 1 3 j := by
      obtain ⟨-, h⟩ | ⟨-, h⟩ | ⟨-, μ1, h, g⟩ := r2
      · exact fun j => h.1 3 j (by omega)
      · exact fun j => h.1 3 j (by omega)
      · exact fun j => (g.1 3 j (by omega)).trans (h.1 3 j (by omega))
    obtain ⟨k1, Z', k2, k3, k4⟩ := r2.s (by omega)
    refine ⟨fun c' j g1 g2 g3 => ?_, fun j g1 g2 _ _ => ?_, ?_, ⟨Z', ?_, by omega, k4⟩, fun j hj => ?_⟩
    · rw [z_up_ne g2, fq.1 c' j g1 g2 (by omega), z_up_ne g1, z_up_ne g1]
    · rw [z_up_ne (by decide), h34, z_up_nj g2, z_up_nj g1]
    · refine ⟨by rw [z_up_ne (by decide), h34, z_up_eq], ?_⟩
      rw [z_up_ne (by decide), h34, z_up_nj (by decide), z_up_eq]
      omega
    · rw [z_up_ne (by omega)]
      exact k2
    · rw [z_up_ne (by omega), k1 j hj, z_up_ne (by omega), z_up_ne (by omega)]
  unfold f_Pr_readQuantifier_115 f_Pr_readQuantifier_141 f_Pr_readQuantifier_145
  rw [zw_of (by omega) (by omega), ← eE, zpI_k s_3, Option.bind_some, up, zgR_k hp.1 pr.1 (by omega), Option.bind_some, zaI_k hp.2.1 (by omega) (by omega), Option.bind_some, Int.toNat_natCast, z_up_ne (by omega)]
  have goodQ : ¬ (μ (p + 1) s = 5 ∨ (em ≠ 0 ∧ qN c b ≠ 3)) → ∃ μ', f_Pr_readQuantifier_146 3 (s : Int) p (c b) (qL c b) 3 0 (SH L, ρ, z_up μ 3 2 (qE c b : Int)) = some (SH L, ρ, μ') ∧ ((qN c b = 0 ∧ μ' = z_up μ 9 lv (if μ 9 lv = 0 ∨ em = 0 then 0 else 1)) ∨ (qN c b ≠ 0 ∧ ¬ (μ (p + 1) s = 5 ∨ (em ≠ 0 ∧ qN c b ≠ 3)) ∧ ∃ μ1 μ2, μ1 = z_up (z_up μ 3 2 (qE c b : Int)) 3 4 0 ∧ RepO p s Z (c b) (qL c b) μ1 μ2 ∧ μ' = z_up μ2 9 lv (if μ 9 lv = 0 ∨ qN c b = 2 then 0 else 1)) ∨ (qN c b ≠ 0 ∧ (μ (p + 1) s = 5 ∨ (em ≠ 0 ∧ qN c b ≠ 3)) ∧ Bd p s μ μ')) := by
    intro h
    obtain ⟨μ2, r1, r2⟩ := fin 0 (Or.inl rfl)
    exact ⟨_, r1, Or.inr (Or.inl ⟨q0, h, _, μ2, rfl, r2, rfl⟩)⟩
  have badQ : (μ (p + 1) s = 5 ∨ (em ≠ 0 ∧ qN c b ≠ 3)) → ∃ μ', f_Pr_readQuantifier_146 3 (s : Int) p (c b) (qL c b) 3 1 (SH L, ρ, z_up μ 3 2 (qE c b : Int)) = some (SH L, ρ, μ') ∧ ((qN c b = 0 ∧ μ' = z_up μ 9 lv (if μ 9 lv = 0 ∨ em = 0 then 0 else 1)) ∨ (qN c b ≠ 0 ∧ ¬ (μ (p + 1) s = 5 ∨ (em ≠ 0 ∧ qN c b ≠ 3)) ∧ ∃ μ1 μ2, μ1 = z_up (z_up μ 3 2 (qE c b : Int)) 3 4 0 ∧ RepO p s Z (c b) (qL c b) μ1 μ2 ∧ μ' = z_up μ2 9 lv (if μ 9 lv = 0 ∨ qN c b = 2 then 0 else 1)) ∨ (qN c b ≠ 0 ∧ (μ (p + 1) s = 5 ∨ (em ≠ 0 ∧ qN c b ≠ 3)) ∧ Bd p s μ μ')) := by
    intro h
    obtain ⟨μ2, r1, r2⟩ := fin 1 (Or.inr rfl)
    exact ⟨_, r1, Or.inr (Or.inr ⟨q0, h, bdQ μ2 r2⟩)⟩
  by_cases g1 : μ (p + 1) s = 5
  · rw [if_pos g1]
    exact badQ (Or.inl g1)
  rw [if_neg g1]
  by_cases g2 : em = 0
  · rw [if_pos g2]
    exact goodQ (fun z => by omega)
  rw [if_neg g2]
  by_cases g3 : c b = 63
  · rw [if_pos g3]
    exact goodQ (fun z => by
      obtain z | z := z
      · exact g1 z
      · exact z.2 (q3i.2 g3))
  · rw [if_neg g3]
    exact badQ (Or.inr ⟨g2, fun z => g3 (q3i.1 z)⟩)
/-- the class's quantifier, when the pattern is bad already -/
theorem e_quantB (rc : Rc ρ) {n s lv : Nat} {μ : Nat → Nat → Int} (h1 : μ 3 1 = n) (hn : n ≤ 20) (h2 : 0 ≤ μ 3 2) (h4 : μ 3 4 = 1) (h6 : μ 3 6 = lv) (hlv : lv < 4) (em : Int) : f_Pr_readQuantifier 3 (s : Int) em p (SH L, ρ, μ) = some (SH L, ρ, z_up μ 9 lv (if μ 9 lv = 0 ∨ em = 0 then 0 else 1)) := by
  have e28 : ∀ x : Int, f_Pr_readQuantifier_28 3 (s : Int) em p em x (SH L, ρ, μ) = some (SH L, ρ, z_up μ 9 lv (if μ 9 lv = 0 ∨ em = 0 then 0 else 1)) := by
    intro x
    unfold f_Pr_readQuantifier_28
    rw [zgI_k s_3, Option.bind_some, h4, if_neg (show ¬ (1 : Int) = 0 by decide)]
    exact e_172 rc hlv h6 em
  unfold f_Pr_readQuantifier
  rw [zgI_k s_3, Option.bind_some, zgI_k s_3, Option.bind_some, h1]
  by_cases g : (n : Int) ≤ μ 3 2
  · rw [if_pos g]
    exact e28 _
  · rw [if_neg g, zgR_k s_3 rc.2.1.1 (by decide), Option.bind_some, Option.bind_some, zaI_k s_4 h2 (by omega), Option.bind_some]
    exact e28 _
end Qnt
