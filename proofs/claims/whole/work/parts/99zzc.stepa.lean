/-! An atom with its quantifier -/
def gAt (g : PG) (i : Nat) (op f : Int) : PG := (kad g.K (4 * i + 2), udn g.W i 1, udi g.ko (4 * i + 2) op, udi g.kf (4 * i + 2) f, g.k1, g.k2, udn g.D (4 * i + 2) (g.dp i), g.dp)
theorem cn_kle (K : Nat → Bool) (y m : Nat) : cn (kad K y) m ≤ cn K m + 1 := by
  have := cn_le1 (P := K) (P' := kad K y) (y := y) (fun x q z => by rw [kad_o q] at z; exact z) m
  by_cases h : y < m
  · rw [if_pos h] at this
    exact this
  · rw [if_neg h] at this
    omega
section Sta
variable {g : PG} {τ τ' : Tx} {sc sc' : Nat} {slo shi slo' shi' : Nat → Int} {i lv gr : Nat} {lo ll be se lo' ll' be' se' : Nat → Int} {E E' : Nat → Nat}
theorem st_atom (h : PIv g τ sc slo shi i lv gr lo ll be se E) (hi : i < τ.n) (hci : τ.c i ≠ 40 ∧ τ.c i ≠ 41 ∧ τ.c i ≠ 124 ∧ τ.c i ≠ 0) {b r v : Nat} {op f em qv : Int} {p1 p2 lz : Bool} (hA : AtG τ.c τ.en i b op f sc sc' em slo' shi') (hsl : ∀ j, j < sc → slo' j = slo j ∧ shi' j = shi j) (hrn : r ≤ τ.n) (hq : qP qv p1 p2) (hbr : b ≤ r) (hbr0 : qv = 0 ↔ b = r) (hb1 : em ≠ 0 → ¬ (qv = 1 ∨ qv = 2))
    (ht : τ'.c = τ.c ∧ τ'.en = τ.en ∧ τ'.n = τ.n ∧ τ'.fb = τ.fb) (ht2 : ∀ m, m ≠ i → τ'.qu m = τ.qu m ∧ τ'.ae m = τ.ae m ∧ τ'.pe m = τ.pe m ∧ τ'.ba m = τ.ba m) (ht3 : τ'.ae i = b ∧ τ'.pe i = r ∧ τ'.qu i = if lz = true ∧ qv ≠ 0 then qv + 4 else qv) (ht4 : ∀ m, τ'.go m = τ.go m ∧ τ'.ow m = τ.ow m)
    (hl : ∀ l, l ≤ lv → lo' l = lo l ∧ ll' l = ll l ∧ se' l = se l ∧ E' l = E l) (hbe : ∀ l, l < lv → be' l = be l) (hbe2 : be' lv = (if be lv = 0 then 0 else if em ≠ 0 ∨ qv = 1 ∨ qv = 3 then 1 else 0)) (hv : (v : Int) = g.dp (lo lv + 1).toNat + (1 - be' lv)) : PIv (gQ (gAt g i op f) i b r p1 p2 lz v) τ' sc' slo' shi' r lv gr lo' ll' be' se' E' := by
  obtain ⟨⟨q1, q2, q3, q4, q5⟩, ⟨y0, y1, y2, y3, y4, y5, y6⟩, tg, tk, br, lf, dpe, pc, zc⟩ := id h
  obtain ⟨a1, a2, -⟩ := id hA
  have em01 : em = 0 ∨ em = 1 := by
    obtain ⟨-, -, -, z, -⟩ | ⟨-, -, -, -, ⟨z, -⟩ | ⟨z, -⟩, -⟩ := hA.2.2
    · exact Or.inr z
    · exact Or.inr z
    · exact Or.inl z
  have op6 : op < 6 := by
    obtain ⟨-, -, z, -⟩ | ⟨-, -, z, -⟩ := hA.2.2 <;> omega
  have opn : 0 ≤ op ∧ op ≠ 6 ∧ op ≠ 7 ∧ op ≠ 8 := by
    obtain ⟨-, -, z, -⟩ | ⟨-, z, z2, -⟩ := hA.2.2 <;> omega
  have sc3 : 3 * sc' ≤ r ∧ sc ≤ sc' := by
    obtain ⟨-, -, -, -, z, -⟩ | ⟨-, -, -, ⟨-, -, z, z2⟩ | ⟨-, z⟩, -⟩ := hA.2.2 <;> omega
  have hbl := (lf lv (Nat.le_refl _)).2.2.2.2.2.2.1.1
  have be01 : be' lv = 0 ∨ be' lv = 1 := by
    rw [hbe2]
    by_cases z : be lv = 0
    · rw [if_pos z]; exact Or.inl rfl
    · rw [if_neg z]
      by_cases z2 : em ≠ 0 ∨ qv = 1 ∨ qv = 3
      · rw [if_pos z2]; exact Or.inr rfl
      · rw [if_neg z2]; exact Or.inl rfl
  have nK : ∀ x, 4 * i ≤ x → g.K x ≠ true := fun x q z => by have := y0 x z; omega
  generalize hG : gQ (gAt g i op f) i b r p1 p2 lz v = G
  have kK : ∀ x, G.K x = true → x ≠ 4 * i + 2 → (p1 = true → x ≠ 4 * i + 1) → (p2 = true → x ≠ 4 * b + 2) → g.K x = true := fun x z w1 w2 w3 => by
    rw [← hG, gQ_K] at z
    obtain z | z | z := z
    · have e : kad g.K (4 * i + 2) x = g.K x := kad_o w1
      exact e.symm.trans z
    · exact absurd z.2 (w2 z.1)
    · exact absurd z.2 (w3 z.1)
  have kM : ∀ x, g.K x = true → G.K x = true := fun x z => by rw [← hG, gQ_K]; exact Or.inl (kad_k z)
  have kN : G.K (4 * i + 2) = true := by rw [← hG, gQ_K]; exact Or.inl kad_y
  have cs : ∀ x, G.K x = true → g.K x = true ∨ x = 4 * i + 2 ∨ (p1 = true ∧ x = 4 * i + 1) ∨ (p2 = true ∧ x = 4 * b + 2) := fun x z => by
    by_cases w1 : x = 4 * i + 2
    · exact Or.inr (Or.inl w1)
    · by_cases w2 : p1 = true ∧ x = 4 * i + 1
      · exact Or.inr (Or.inr (Or.inl w2))
      · by_cases w3 : p2 = true ∧ x = 4 * b + 2
        · exact Or.inr (Or.inr (Or.inr w3))
        · exact Or.inl (kK x z w1 (fun p e => w2 ⟨p, e⟩) (fun p e => w3 ⟨p, e⟩))
  have p2b : p2 = true → b < r := fun z => by
    obtain ⟨-, -, w⟩ | ⟨w, -⟩ | ⟨w, -⟩ | ⟨-, -, w⟩ := hq
    · rw [w] at z; cases z
    · omega
    · omega
    · rw [w] at z; cases z
  have oO : ∀ x, x < 4 * i → G.ko x = g.ko x ∧ G.k1 x = g.k1 x ∧ G.k2 x = g.k2 x ∧ G.D x = g.D x ∧ G.kf x = g.kf x := fun x hx => by
    obtain ⟨u1, u2, u3, u4⟩ := gQ_o (g := gAt g i op f) (a := i) (b := b) (r := r) (v := v) (p1 := p1) (p2 := p2) (lz := lz) (x := x) (fun _ => by omega) (fun _ => by omega)
    rw [← hG, u1, u2, u3, u4]
    exact ⟨udi_n (by omega), rfl, rfl, udn_n (by omega), udi_n (by omega)⟩
  have oN : G.ko (4 * i + 2) = op ∧ G.D (4 * i + 2) = g.dp i ∧ G.kf (4 * i + 2) = f := by
    obtain ⟨u1, u2, u3, u4⟩ := gQ_o (g := gAt g i op f) (a := i) (b := b) (r := r) (v := v) (p1 := p1) (p2 := p2) (lz := lz) (x := 4 * i + 2) (fun _ => by omega) (fun _ => by omega)
    rw [← hG, u1, u4]
    exact ⟨udi_e, udn_e, udi_e⟩
  have o1 : p1 = true → G.ko (4 * i + 1) = 6 ∧ G.k1 (4 * i + 1) = (if lz = true then 4 * r + 1 else 4 * i + 2) ∧ G.k2 (4 * i + 1) = (if lz = true then 4 * i + 2 else 4 * r + 1) ∧ G.D (4 * i + 1) = g.dp i := fun z => by
    rw [← hG]
    exact gQ_1 z
  have o2 : p2 = true → G.ko (4 * b + 2) = (if p1 = true then 7 else 6) ∧ G.k1 (4 * b + 2) = (if p1 = true then 4 * i + 1 else if lz = true then 4 * r + 1 else 4 * i + 2) ∧ G.k2 (4 * b + 2) = (if lz = true then 4 * i + 2 else 4 * r + 1) ∧ G.D (4 * b + 2) = g.dp i + 1 := fun z => by
    rw [← hG]
    exact gQ_2 z
  have wO : ∀ m, m < i → G.W m = g.W m := fun m hm => by
    rw [← hG, gQ_W (by omega)]
    exact udn_n (by omega)
  have wN : G.W i = 1 := by
    rw [← hG, gQ_W (by omega)]
    exact udn_e
  have wI : ∀ m, i < m → m ≠ b → G.W m = 0 := fun m hm hb => by
    rw [← hG, gQ_W hb]
    exact (udn_n (by omega)).trans (y5 m (by omega))
  have wB : G.W b = if p2 = true then 2 else 0 := by
    rw [← hG, gQ_Wb]
    have : (gAt g i op f).W b = 0 := (udn_n (by omega)).trans (y5 b (by omega))
    rw [this]
  have dpO : ∀ m, m ≤ i → G.dp m = g.dp m := fun m hm => by
    rw [← hG]
    exact gQ_dp (by omega)
  have dpR : G.dp r = v := by
    rw [← hG]
    exact gQ_dpr
  have k0n : ∀ m, G.K (4 * m) = true → g.K (4 * m) = true := fun m z => kK _ z (by omega) (fun _ => by omega) (fun _ => by omega)
  have k1n : ∀ m, m ≠ i → G.K (4 * m + 1) = true → g.K (4 * m + 1) = true := fun m w z => kK _ z (by omega) (fun _ => by omega) (fun _ => by omega)
  have M : Mo g G τ τ' sc sc' slo shi slo' shi' i r i := by
    refine ⟨⟨by omega, fun _ => wN⟩, fun x hx => ?_, wO, dpO, ⟨ht.1, ht.2.1⟩, fun m hm => ht4 m, fun m hm _ => ⟨(ht2 m (by omega)).1, (ht2 m (by omega)).2.1, (ht2 m (by omega)).2.2.1⟩, sc3.2, hsl, fun x hx _ => ?_, fun q w1 w2 w3 w4 => ?_⟩
    · obtain ⟨u1, u2, u3, u4, u5⟩ := oO x (y0 x hx)
      exact ⟨kM x hx, u1, u5, u3, u4⟩
    · exact (oO x (y0 x hx)).2.1
    · have := h.ow w1 w2 (Or.inr w3)
      omega
  have ifl : ∀ (P : Prop) [Decidable P] (x y z : Nat), z ≤ x → z ≤ y → z ≤ (if P then x else y) := fun P _ x y z h1 h2 => by
    by_cases w : P
    · rw [if_pos w]; exact h1
    · rw [if_neg w]; exact h2
  have ifu : ∀ (P : Prop) [Decidable P] (x y z : Nat), x ≤ z → y ≤ z → (if P then x else y) ≤ z := fun P _ x y z h1 h2 => by
    by_cases w : P
    · rw [if_pos w]; exact h1
    · rw [if_neg w]; exact h2
  -- the new ways go from 4 i + 1 on
  have nw : ∀ x, G.K x = true → g.K x = true ∨ (4 * i + 1 ≤ x ∧ (G.ko x = 6 ∨ G.ko x = 7 → 4 * i + 1 ≤ G.k1 x ∧ G.k1 x ≤ 4 * r + 1) ∧ (G.ko x = 6 → 4 * i + 1 ≤ G.k2 x ∧ G.k2 x ≤ 4 * r + 1)) := fun x z => by
    obtain w | w | ⟨w, e⟩ | ⟨w, e⟩ := cs x z
    · exact Or.inl w
    · right
      subst w
      rw [oN.1]
      exact ⟨by omega, fun u => by omega, fun u => by omega⟩
    · right
      subst e
      obtain ⟨u1, u2, u3, -⟩ := o1 w
      rw [u2, u3]
      exact ⟨by omega, fun _ => ⟨ifl _ _ _ _ (by omega) (by omega), ifu _ _ _ _ (by omega) (by omega)⟩, fun _ => ⟨ifl _ _ _ _ (by omega) (by omega), ifu _ _ _ _ (by omega) (by omega)⟩⟩
    · right
      subst e
      obtain ⟨u1, u2, u3, -⟩ := o2 w
      rw [u2, u3]
      exact ⟨by omega, fun _ => ⟨ifl _ _ _ _ (by omega) (ifl _ _ _ _ (by omega) (by omega)), ifu _ _ _ _ (by omega) (ifu _ _ _ _ (by omega) (by omega))⟩, fun _ => ⟨ifl _ _ _ _ (by omega) (by omega), ifu _ _ _ _ (by omega) (by omega)⟩⟩
  have ncO : ∀ y, y < 4 * i + 1 → NCg g y → NCg G y := fun y hyj hy => hy.mo fun x z _ => by
    obtain w | ⟨w1, w2, w3⟩ := nw x z
    · obtain ⟨u1, u2, u3, -⟩ := oO x (y0 x w)
      exact Or.inl ⟨w, u1, u2, u3⟩
    · exact Or.inr ⟨fun u => by have := w2 u; omega, fun u => by have := w3 u; omega⟩
  have he : ∃ e : Nat, e ≤ 1 ∧ (em = 0 ↔ e = 1) := by
    obtain z | z := em01
    · exact ⟨1, by omega, by omega⟩
    · exact ⟨0, by omega, by omega⟩
  obtain ⟨e, e1, e2⟩ := he
  have bev : (be' lv = 0 ∧ (be lv = 0 ∨ (em = 0 ∧ qv ≠ 1 ∧ qv ≠ 3))) ∨ (be' lv = 1 ∧ be lv = 1 ∧ (em ≠ 0 ∨ qv = 1 ∨ qv = 3)) := by
    rw [hbe2]
    by_cases z : be lv = 0
    · rw [if_pos z]; exact Or.inl ⟨rfl, Or.inl z⟩
    · rw [if_neg z]
      by_cases z2 : em ≠ 0 ∨ qv = 1 ∨ qv = 3
      · rw [if_pos z2]; exact Or.inr ⟨rfl, by omega, z2⟩
      · rw [if_neg z2]; exact Or.inl ⟨rfl, Or.inr (by omega)⟩
  have pcF : PcF G τ' r i b e := by
    rw [← hG]
    refine gQ_pc hq a1 hbr hbr0 ?_ ?_ (fun m hm => (udn_n (by omega)).trans (y5 m (by omega))) ht3.1 ht3.2.1 ht3.2.2 e1 ?_ (fun z => ?_) (fun z => ?_) (fun z => ?_)
    · have : kad g.K (4 * i + 2) (4 * i + 1) = g.K (4 * i + 1) := kad_o (by omega)
      show kad g.K (4 * i + 2) (4 * i + 1) ≠ true
      rw [this]
      exact nK _ (by omega)
    · have : kad g.K (4 * i + 2) (4 * b + 2) = g.K (4 * b + 2) := kad_o (by omega)
      show kad g.K (4 * i + 2) (4 * b + 2) ≠ true
      rw [this]
      exact nK _ (by omega)
    · show v ≤ g.dp i + e
      omega
    · show v ≤ g.dp i
      omega
    · have := hb1 (by omega)
      obtain ⟨w, -⟩ | ⟨w, -⟩ | ⟨w, -⟩ | ⟨w, -⟩ := hq <;> omega
    · rw [ht.1]
      by_cases w : b - 1 = i
      · rw [w]
        exact ⟨hci.1, hci.2.2.1⟩
      · exfalso
        have : (gAt g i op f).W (b - 1) = 0 := (udn_n w).trans (y5 _ (by omega))
        omega
  refine ⟨⟨by rw [ht.2.2.1]; exact hrn, by rw [ht.2.2.1]; exact q2, q3, q4, sc3.1⟩, ⟨fun x z => ?_, fun m z => ?_, fun m z => ?_, fun m z => ?_, fun m z => ?_, fun m w => ?_, fun _ => ?_⟩, fun x z => ?_, fun k w1 w2 => ?_, ?_, fun l w => ?_, ?_, ?_, ?_⟩
  · obtain w | w | ⟨w, u⟩ | ⟨w, u⟩ := cs x z
    · have := y0 x w
      omega
    · omega
    · omega
    · have := p2b w
      omega
  · exact y1 m (kK _ z (by omega) (fun _ => by omega) (fun _ => by omega))
  · have z' := k0n m z
    have := y0 _ z'
    obtain w | ⟨w1, w2⟩ := y2 m z'
    · exact Or.inl w
    · exact Or.inr ⟨by rw [wO _ (by omega)]; exact w1, by rw [ht.1]; exact w2⟩
  · by_cases w : m = i
    · rw [w]
      exact wN
    · have z' := k1n m w z
      have := y0 _ z'
      rw [wO m (by omega)]
      exact y3 m z'
  · obtain w | w | ⟨w, u⟩ | ⟨w, u⟩ := cs _ z
    · have := y0 _ w
      rw [wO m (by omega)]
      exact y4 m w
    · have : m = i := by omega
      rw [this]
      exact Or.inl wN
    · omega
    · have : m = b := by omega
      rw [this, wB, if_pos w]
      exact Or.inr rfl
  · by_cases u : m = b
    · rw [u, wB, if_neg (fun z => by have := p2b z; omega)]
    · exact wI m (by omega) u
  · by_cases u : 0 = i
    · rw [u]
      exact wN
    · rw [wO 0 (by omega)]
      exact y6 (by omega)
  · obtain w | ⟨w1, w2, w3⟩ := nw x z
    · obtain ⟨u1, u2, u3, -⟩ := oO x (y0 x w)
      rw [u1, u2, u3]
      obtain ⟨c1, c2⟩ := tg x w
      exact ⟨fun u => by have := c1 u; omega, fun u => by have := c2 u; omega⟩
    · exact ⟨fun u => (w2 u).2, fun u => (w3 u).2⟩
  · by_cases u : k = i
    · subst u
      refine ⟨kN, by rw [oN.2.1, dpO k (Nat.le_refl _)]; exact Nat.le_refl _, fun z => ?_, Or.inr (Or.inr (Or.inr ⟨by rw [ht.1]; exact hci.2.2.1, by rw [ht.1]; exact hci.2.1, by rw [ht.1]; exact hci.1, by rw [ht.1]; exact hci.2.2.2, b, e, by rw [oN.2.1, dpO k (Nat.le_refl _)], pcF, fun m m1 m2 => wI m m1 (by omega), a2, ?_⟩))⟩
      · obtain w | w | ⟨w, u⟩ | ⟨w, u⟩ := cs _ z
        · exact absurd w (nK _ (by omega))
        · omega
        · rw [(o1 w).2.2.2, dpO k (Nat.le_refl _)]
        · omega
      · rw [ht.1, ht.2.1, oN.1, oN.2.2]
        obtain ⟨z1, z2, z3, z4, z5, z6⟩ | ⟨z1, z2, z3, z4, z5, z6⟩ := hA.2.2
        · exact Or.inl ⟨z1, z2, z3, by omega, z6⟩
        · refine Or.inr ⟨z1, z2, z3, fun u => ?_, fun u => ?_, z6⟩
          · obtain ⟨-, w1, w2, -⟩ | ⟨w1, -⟩ := z4
            · omega
            · exact absurd u w1
          · obtain ⟨w1, -⟩ | ⟨-, w1, w2⟩ := z5
            · omega
            · omega
    · have hk : k < i := by
        by_cases w : k < i
        · exact w
        · exfalso
          by_cases w3 : k = b
          · rw [w3, wB] at w2
            by_cases w4 : p2 = true
            · rw [if_pos w4] at w2; omega
            · rw [if_neg w4] at w2; omega
          · have := wI k (by omega) w3
            omega
      rw [wO k hk] at w2
      have tkk := tk k hk w2
      have kx := y0 _ tkk.1
      refine TkF.mo M hk u tkk (k1n k u) (fun _ c => by rw [(ht2 k u).2.2.2]; exact c.mo M (k0n _)) (fun _ ⟨l, c1, c2, c3, c4, c5⟩ => Or.inl ⟨l, c1, ?_, ?_, ?_, ?_⟩) (fun _ _ => (oO _ kx).2.1) (fun ⟨l, c1, c2, c3, c4⟩ => ⟨l, c1, c2, by rw [(hl l c2).1]; exact c3, fun z => c4 (k1n k u z)⟩)
      · rw [(ht4 k).2, (hl l c1).1]
        exact c2
      · rw [(hl l c1).1]
        exact c3
      · rw [(hl l c1).2.1]
        exact c4
      · rw [(oO _ kx).2.1]
        exact c5
  · rw [ht.2.2.2]
    exact br.mo M (k0n 0)
  · have hL := lf l w
    obtain ⟨-, c2, c3, -, -, -, c7, c8, -, -, ⟨c11, c12⟩, -⟩ := id hL
    obtain ⟨d1, d2, d3, d4⟩ := hl l w
    have lo1 : -1 ≤ lo l := by
      obtain ⟨-, u⟩ | ⟨-, o, o1, -⟩ := hL.1
      · omega
      · omega
    refine hL.mo2 M ⟨d1, d2, d3, d4⟩ ?_ (k0n _) (fun _ => ht.2.2.2) (fun y z => (ht2 y (by omega)).2.2.2) (fun z => ?_) (fun y u1 u2 u3 u4 => ?_) (ncO _ (by omega) c11) (fun o z => ⟨ncO _ (by omega) (c12 o z).1, fun w => (c12 o z).2 (k1n o (by omega) w)⟩)
    · by_cases u : l = lv
      · rw [u]
        exact be01
      · rw [hbe l (by omega)]
        exact c7.1
    · obtain ⟨u1, u2⟩ := c8 z
      have u3 := (lf (l + 1) (by omega)).2.1
      rw [(hl (l + 1) (by omega)).1, dpO _ (by omega), hbe l z]
      exact ⟨u1, u2⟩
    · by_cases v1 : y < i
      · exact v1
      · exfalso
        by_cases v2 : y = i
        · rw [v2] at u3
          obtain u3 | u3 := u3
          · exact hci.2.2.1 u3
          · exact hci.2.1 u3
        · by_cases v3 : y = b
          · rw [v3, wB] at u2
            by_cases w4 : p2 = true
            · rw [if_pos w4] at u2; omega
            · rw [if_neg w4] at u2; omega
          · have := wI y (by omega) v3
            omega
  · have u3 := (lf lv (Nat.le_refl _)).2.1
    rw [(hl lv (Nat.le_refl _)).1, dpR, dpO _ (by omega)]
    exact hv
  · have := cn_le1 (P := puK g) (P' := puK G) (y := if p1 = true then 4 * i + 1 else 4 * b + 2) (fun x w z => by
      unfold puK at z ⊢
      rw [Bool.and_eq_true] at z ⊢
      obtain u | u | ⟨u, u2⟩ | ⟨u, u2⟩ := cs x z.1
      · rw [(oO x (y0 x u)).1] at z
        exact ⟨u, z.2⟩
      · exfalso
        subst u
        have := of_decide_eq_true z.2
        rw [oN.1] at this
        omega
      · exact absurd u2 (by rw [if_pos u] at w; exact w)
      · exfalso
        by_cases w4 : p1 = true
        · subst u2
          have := of_decide_eq_true z.2
          rw [(o2 u).1, if_pos w4] at this
          omega
        · rw [if_neg w4] at w
          exact w u2) 84
    have le1 : (if (if p1 = true then 4 * i + 1 else 4 * b + 2) < 84 then 1 else 0) ≤ 1 := ifu _ 1 0 1 (Nat.le_refl _) (by omega)
    omega
  · by_cases q0 : qv = 0
    · have : cn G.K 84 ≤ cn (kad g.K (4 * i + 2)) 84 := cn_mono 84 fun x _ z => by
        obtain u | u | ⟨u, u2⟩ | ⟨u, u2⟩ := cs x z
        · exact kad_k u
        · rw [u]; exact kad_y
        · exfalso
          obtain ⟨-, w, -⟩ | ⟨w, -⟩ | ⟨w, -⟩ | ⟨w, -⟩ := hq
          · rw [w] at u; cases u
          · omega
          · omega
          · omega
        · exfalso
          obtain ⟨-, -, w⟩ | ⟨w, -⟩ | ⟨w, -⟩ | ⟨w, -⟩ := hq
          · rw [w] at u; cases u
          · omega
          · omega
          · omega
      have := cn_kle g.K (4 * i + 2) 84
      omega
    · have hlt : b ≠ r := fun z => q0 (hbr0.2 z)
      have : cn G.K 84 ≤ cn (kad (kad (kad g.K (4 * i + 2)) (4 * i + 1)) (4 * b + 2)) 84 := cn_mono 84 fun x _ z => by
        obtain u | u | ⟨u, u2⟩ | ⟨u, u2⟩ := cs x z
        · exact kad_k (kad_k (kad_k u))
        · rw [u]; exact kad_k (kad_k kad_y)
        · rw [u2]; exact kad_k kad_y
        · rw [u2]; exact kad_y
      have := cn_kle g.K (4 * i + 2) 84
      have := cn_kle (kad g.K (4 * i + 2)) (4 * i + 1) 84
      have := cn_kle (kad (kad g.K (4 * i + 2)) (4 * i + 1)) (4 * b + 2) 84
      omega
end Sta
