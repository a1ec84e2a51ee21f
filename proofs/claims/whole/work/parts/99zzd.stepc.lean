/-! A group closes, with its quantifier -/
def gCl (g : PG) (τ : Tx) (i o a e : Nat) : PG := (kad g.K (4 * i + 2), udn g.W i 1, udi g.ko (4 * i + 2) 8, udi g.kf (4 * i + 2) (2 * a + 1), fun x => if x % 4 = 2 ∧ x / 4 < i ∧ g.W (x / 4) = 1 ∧ τ.c (x / 4) = 124 ∧ τ.ow (x / 4) = o then 4 * i + 2 else g.k1 x, g.k2, udn g.D (4 * i + 2) (g.dp o + e), g.dp)
section Stc
variable {g : PG} {τ τ' : Tx} {sc : Nat} {slo shi : Nat → Int} {i lw gr : Nat} {lo ll be se lo' ll' be' se' : Nat → Int} {E E' : Nat → Nat}
theorem st_close (h : PIv g τ sc slo shi i (lw + 1) gr lo ll be se E) (hi : i < τ.n) (hci : τ.c i = 41) {o ga e r v : Nat} (ho : lo (lw + 1) = o) (hga : τ.go o = ga) {em qv : Int} {p1 p2 lz : Bool} (hem : em = if se (lw + 1) = 0 ∧ be (lw + 1) = 0 then 0 else 1) (hee : e = if em = 0 then 1 else 0) (hrn : r ≤ τ.n) (hq : qP qv p1 p2) (hbr : i + 1 ≤ r) (hbr0 : qv = 0 ↔ i + 1 = r) (hb1 : em ≠ 0 → ¬ (qv = 1 ∨ qv = 2))
    (ht : τ'.c = τ.c ∧ τ'.en = τ.en ∧ τ'.n = τ.n ∧ τ'.fb = τ.fb) (ht2 : ∀ m, m ≠ o → τ'.qu m = τ.qu m ∧ τ'.ae m = τ.ae m ∧ τ'.pe m = τ.pe m) (htb : ∀ m, m ≠ i → τ'.ba m = τ.ba m ∧ τ'.ow m = τ.ow m) (hti : τ'.ow i = o) (ht3 : τ'.ae o = ((i + 1 : Nat) : Int) ∧ τ'.pe o = r ∧ τ'.qu o = if lz = true ∧ qv ≠ 0 then qv + 4 else qv) (ht4 : ∀ m, τ'.go m = τ.go m)
    (hl : ∀ l, l ≤ lw → lo' l = lo l ∧ ll' l = ll l ∧ se' l = se l ∧ E' l = E l) (hbe : ∀ l, l < lw → be' l = be l) (hbe2 : be' lw = (if be lw = 0 then 0 else if em ≠ 0 ∨ qv = 1 ∨ qv = 3 then 1 else 0)) (hv : (v : Int) = g.dp (lo lw + 1).toNat + (1 - be' lw)) : PIv (gQ (gCl g τ i o ga e) o (i + 1) r p1 p2 lz v) τ' sc slo shi r lw gr lo' ll' be' se' E' := by
  obtain ⟨⟨q1, q2, q3, q4, q5⟩, ⟨y0, y1, y2, y3, y4, y5, y6⟩, tg, tk, br, lf, dpe, pc, zc⟩ := id h
  have LV := lf (lw + 1) (Nat.le_refl _)
  have LW := lf lw (by omega)
  obtain ⟨-, u2, u3, -, -, u6, ⟨u7, u7'⟩, -, u9, u10, ⟨-, u12⟩, -⟩ := id LV
  obtain ⟨-, w2, -, -, -, -, ⟨w7, -⟩, w8, -⟩ := id LW
  obtain ⟨w8a, w8b⟩ := w8 (by omega)
  obtain ⟨oi, ow1, oc⟩ : o < i ∧ g.W o = 1 ∧ τ.c o = 40 := by
    obtain ⟨z, -⟩ | ⟨-, o', z1, z2, z3, z4⟩ := LV.1
    · omega
    · have : o' = o := by omega
      subst this
      exact ⟨z2, z3, z4⟩
  have lowA : -1 ≤ lo lw := by
    obtain ⟨-, z⟩ | ⟨-, o', z, -⟩ := LW.1
    · omega
    · omega
  rw [ho, Int.toNat_natCast] at w8b
  rw [ho, show ((o : Int) + 1).toNat = o + 1 by omega] at dpe u9
  have tko := tk o oi ow1
  have opo : g.K (4 * o + 2) = true ∧ g.D (4 * o + 2) = g.dp o ∧ g.dp (o + 1) = g.dp o ∧ ga < 3 := by
    obtain ⟨t1, t2, t3, t4⟩ := tko
    obtain ⟨z, -⟩ | ⟨z, -⟩ | ⟨z, z2, z3, ⟨a', z4, z5, -⟩, -, -, z6, -⟩ | ⟨-, -, z, -⟩ := t4
    · omega
    · omega
    · exact ⟨t1, z3, z6, by omega⟩
    · omega
  obtain ⟨ko2, do2, dpo1, ga3⟩ := opo
  have nK : ∀ x, 4 * i ≤ x → g.K x ≠ true := fun x q z => by have := y0 x z; omega
  have nO : g.K (4 * o + 1) ≠ true := (u12 o ho).2
  have em01 : (em = 0 ∧ e = 1 ∧ se (lw + 1) = 0 ∧ be (lw + 1) = 0) ∨ (em = 1 ∧ e = 0) := by
    by_cases z : se (lw + 1) = 0 ∧ be (lw + 1) = 0
    · rw [if_pos z] at hem
      rw [hem, if_pos rfl] at hee
      exact Or.inl ⟨hem, hee, z⟩
    · rw [if_neg z] at hem
      rw [hem, if_neg (by decide)] at hee
      exact Or.inr ⟨hem, hee⟩
  have be01 : be' lw = 0 ∨ be' lw = 1 := by
    rw [hbe2]
    by_cases z : be lw = 0
    · rw [if_pos z]; exact Or.inl rfl
    · rw [if_neg z]
      by_cases z2 : em ≠ 0 ∨ qv = 1 ∨ qv = 3
      · rw [if_pos z2]; exact Or.inr rfl
      · rw [if_neg z2]; exact Or.inl rfl
  have bev : (be' lw = 0 ∧ (be lw = 0 ∨ (em = 0 ∧ qv ≠ 1 ∧ qv ≠ 3))) ∨ (be' lw = 1 ∧ be lw = 1 ∧ (em ≠ 0 ∨ qv = 1 ∨ qv = 3)) := by
    rw [hbe2]
    by_cases z : be lw = 0
    · rw [if_pos z]; exact Or.inl ⟨rfl, Or.inl z⟩
    · rw [if_neg z]
      by_cases z2 : em ≠ 0 ∨ qv = 1 ∨ qv = 3
      · rw [if_pos z2]; exact Or.inr ⟨rfl, by omega, z2⟩
      · rw [if_neg z2]; exact Or.inl ⟨rfl, Or.inr (by omega)⟩
  generalize hG : gQ (gCl g τ i o ga e) o (i + 1) r p1 p2 lz v = G
  have cs : ∀ x, G.K x = true → g.K x = true ∨ x = 4 * i + 2 ∨ (p1 = true ∧ x = 4 * o + 1) ∨ (p2 = true ∧ x = 4 * (i + 1) + 2) := fun x z => by
    rw [← hG, gQ_K] at z
    obtain z | z | z := z
    · by_cases w1 : x = 4 * i + 2
      · exact Or.inr (Or.inl w1)
      · have e : kad g.K (4 * i + 2) x = g.K x := kad_o w1
        exact Or.inl (e.symm.trans z)
    · exact Or.inr (Or.inr (Or.inl z))
    · exact Or.inr (Or.inr (Or.inr z))
  have kM : ∀ x, g.K x = true → G.K x = true := fun x z => by rw [← hG, gQ_K]; exact Or.inl (kad_k z)
  have kN : G.K (4 * i + 2) = true := by rw [← hG, gQ_K]; exact Or.inl kad_y
  have p2b : p2 = true → i + 1 < r := fun z => by
    obtain ⟨-, -, w⟩ | ⟨w, -⟩ | ⟨w, -⟩ | ⟨-, -, w⟩ := hq
    · rw [w] at z; cases z
    · omega
    · omega
    · rw [w] at z; cases z
  have oO : ∀ x, x < 4 * i → x ≠ 4 * o + 1 → G.ko x = g.ko x ∧ G.k1 x = (if x % 4 = 2 ∧ x / 4 < i ∧ g.W (x / 4) = 1 ∧ τ.c (x / 4) = 124 ∧ τ.ow (x / 4) = o then 4 * i + 2 else g.k1 x) ∧ G.k2 x = g.k2 x ∧ G.D x = g.D x ∧ G.kf x = g.kf x := fun x hx hxo => by
    obtain ⟨u1, u2, u3, u4⟩ := gQ_o (g := gCl g τ i o ga e) (a := o) (b := i + 1) (r := r) (v := v) (p1 := p1) (p2 := p2) (lz := lz) (x := x) (fun _ => hxo) (fun _ => by omega)
    rw [← hG, u1, u2, u3, u4]
    exact ⟨udi_n (by omega), rfl, rfl, udn_n (by omega), udi_n (by omega)⟩
  have oK : ∀ x, g.K x = true → G.ko x = g.ko x ∧ G.k1 x = (if x % 4 = 2 ∧ x / 4 < i ∧ g.W (x / 4) = 1 ∧ τ.c (x / 4) = 124 ∧ τ.ow (x / 4) = o then 4 * i + 2 else g.k1 x) ∧ G.k2 x = g.k2 x ∧ G.D x = g.D x ∧ G.kf x = g.kf x := fun x hx => oO x (y0 x hx) (fun z => by rw [z] at hx; exact nO hx)
  have oN : G.ko (4 * i + 2) = 8 ∧ G.D (4 * i + 2) = g.dp o + e ∧ G.kf (4 * i + 2) = 2 * ga + 1 := by
    obtain ⟨u1, u2, u3, u4⟩ := gQ_o (g := gCl g τ i o ga e) (a := o) (b := i + 1) (r := r) (v := v) (p1 := p1) (p2 := p2) (lz := lz) (x := 4 * i + 2) (fun _ => by omega) (fun _ => by omega)
    rw [← hG, u1, u4]
    exact ⟨udi_e, udn_e, udi_e⟩
  have o1 : p1 = true → G.ko (4 * o + 1) = 6 ∧ G.k1 (4 * o + 1) = (if lz = true then 4 * r + 1 else 4 * o + 2) ∧ G.k2 (4 * o + 1) = (if lz = true then 4 * o + 2 else 4 * r + 1) ∧ G.D (4 * o + 1) = g.dp o := fun z => by
    rw [← hG]
    exact gQ_1 z
  have o2 : p2 = true → G.ko (4 * (i + 1) + 2) = (if p1 = true then 7 else 6) ∧ G.k1 (4 * (i + 1) + 2) = (if p1 = true then 4 * o + 1 else if lz = true then 4 * r + 1 else 4 * o + 2) ∧ G.k2 (4 * (i + 1) + 2) = (if lz = true then 4 * o + 2 else 4 * r + 1) ∧ G.D (4 * (i + 1) + 2) = g.dp o + 1 := fun z => by
    rw [← hG]
    exact gQ_2 z
  have wO : ∀ m, m < i → G.W m = g.W m := fun m hm => by
    rw [← hG, gQ_W (by omega)]
    exact udn_n (by omega)
  have wN : G.W i = 1 := by
    rw [← hG, gQ_W (by omega)]
    exact udn_e
  have wI : ∀ m, i + 1 < m → G.W m = 0 := fun m hm => by
    rw [← hG, gQ_W (by omega)]
    exact (udn_n (by omega)).trans (y5 m (by omega))
  have wB : G.W (i + 1) = if p2 = true then 2 else 0 := by
    rw [← hG, gQ_Wb]
    have : (gCl g τ i o ga e).W (i + 1) = 0 := (udn_n (by omega)).trans (y5 _ (by omega))
    rw [this]
  have w1i : ∀ m, G.W m = 1 → m ≤ i := fun m z => by
    by_cases w : m ≤ i
    · exact w
    · exfalso
      by_cases w3 : m = i + 1
      · rw [w3, wB] at z
        by_cases w4 : p2 = true
        · rw [if_pos w4] at z; omega
        · rw [if_neg w4] at z; omega
      · have := wI m (by omega)
        omega
  have dpO : ∀ m, m ≤ i → G.dp m = g.dp m := fun m hm => by
    rw [← hG]
    exact gQ_dp (by omega)
  have dpR : G.dp r = v := by
    rw [← hG]
    exact gQ_dpr
  have k0n : ∀ m, G.K (4 * m) = true → g.K (4 * m) = true := fun m z => by
    obtain w | w | ⟨w, u⟩ | ⟨w, u⟩ := cs _ z
    · exact w
    · omega
    · omega
    · omega
  have k1n : ∀ m, m ≠ o → G.K (4 * m + 1) = true → g.K (4 * m + 1) = true := fun m w z => by
    obtain w | w | ⟨w, u⟩ | ⟨w, u⟩ := cs _ z
    · exact w
    · omega
    · omega
    · omega
  -- a bar that is not of this group
  have k1b : ∀ m, g.K (4 * m + 2) = true → τ.ow m ≠ o → G.k1 (4 * m + 2) = g.k1 (4 * m + 2) := fun m z w => by
    rw [(oK _ z).2.1, if_neg]
    intro u
    rw [show (4 * m + 2) / 4 = m by omega] at u
    exact w u.2.2.2.2
  have M : Mo g G τ τ' sc sc slo shi slo shi i r o := by
    refine ⟨⟨by omega, fun _ => wN⟩, fun x hx => ?_, wO, dpO, ⟨ht.1, ht.2.1⟩, fun m hm => ⟨ht4 m, (htb m (by omega)).2⟩, fun m hm w => ht2 m w, Nat.le_refl _, fun _ _ => ⟨rfl, rfl⟩, fun x hx w => ?_, fun q w1 w2 w3 w4 => u10 q w1 w2 w3 (by rw [ho]; exact w4)⟩
    · obtain ⟨u1, u2, u3, u4, u5⟩ := oK x hx
      exact ⟨kM x hx, u1, u5, u3, u4⟩
    · rw [(oK x hx).2.1, if_neg]
      intro u
      obtain w | ⟨m, w1, w2⟩ := w
      · obtain ⟨t1, t2, t3, t4⟩ := tk (x / 4) u.2.1 u.2.2.1
        rw [show 4 * (x / 4) + 2 = x by omega] at t4
        obtain ⟨z, z2, -⟩ | ⟨z, -⟩ | ⟨z, -⟩ | ⟨z, -⟩ := t4
        · omega
        · omega
        · omega
        · exact z u.2.2.2.1
      · rw [w1, show (4 * m + 2) / 4 = m by omega] at u
        exact w2 u.2.2.1
  have ifl : ∀ (P : Prop) [Decidable P] (x y z : Nat), z ≤ x → z ≤ y → z ≤ (if P then x else y) := fun P _ x y z h1 h2 => by
    by_cases w : P
    · rw [if_pos w]; exact h1
    · rw [if_neg w]; exact h2
  have ifu : ∀ (P : Prop) [Decidable P] (x y z : Nat), x ≤ z → y ≤ z → (if P then x else y) ≤ z := fun P _ x y z h1 h2 => by
    by_cases w : P
    · rw [if_pos w]; exact h1
    · rw [if_neg w]; exact h2
  have owlt : ∀ y, y < i → g.W y = 1 → τ.c y = 124 → τ.ow y = o → o < y := fun y z1 z2 z3 z4 => by
    have := h.ow z1 z2 (Or.inl z3)
    omega
  -- each way is an old one, or goes from 4 o + 1 on
  have nw : ∀ x, G.K x = true → (g.K x = true ∧ G.k1 x = g.k1 x) ∨ (4 * o + 1 ≤ x ∧ (G.ko x = 6 ∨ G.ko x = 7 → 4 * o + 1 ≤ G.k1 x ∧ G.k1 x ≤ 4 * r + 1) ∧ (G.ko x = 6 → 4 * o + 1 ≤ G.k2 x ∧ G.k2 x ≤ 4 * r + 1)) := fun x z => by
    obtain w | w | ⟨w, e⟩ | ⟨w, e⟩ := cs x z
    · by_cases u : x % 4 = 2 ∧ x / 4 < i ∧ g.W (x / 4) = 1 ∧ τ.c (x / 4) = 124 ∧ τ.ow (x / 4) = o
      · right
        have l1 := owlt (x / 4) u.2.1 u.2.2.1 u.2.2.2.1 u.2.2.2.2
        have k7 : g.ko x = 7 := by
          obtain ⟨t1, t2, t3, t4⟩ := tk (x / 4) u.2.1 u.2.2.1
          rw [show 4 * (x / 4) + 2 = x by omega] at t4
          obtain ⟨z, z2, -⟩ | ⟨z, -⟩ | ⟨z, -⟩ | ⟨z, -⟩ := t4
          · exact z2
          · omega
          · omega
          · exact absurd u.2.2.2.1 z
        obtain ⟨v1, v2, -⟩ := oK x w
        rw [if_pos u] at v2
        rw [v1, v2]
        exact ⟨by omega, fun _ => ⟨by omega, by omega⟩, fun z => by omega⟩
      · left
        refine ⟨w, ?_⟩
        rw [(oK x w).2.1, if_neg u]
    · right
      subst w
      rw [oN.1]
      exact ⟨by omega, fun u => by omega, fun u => by omega⟩
    · right
      subst e
      obtain ⟨u1, u2, u3, -⟩ := o1 w
      rw [u2, u3]
      exact ⟨by omega, fun _ => ⟨ifl _ _ _ _ (by omega) (by omega), ifu _ _ _ _ (by omega) (by omega)⟩, fun _ => ⟨ifl _ _ _ _ (by omega) (by omega), ifu _ _ _ _ (by omega) (by omega)⟩⟩
    · right
      subst e
      obtain ⟨u1, u2, u3, -⟩ := o2 w
      rw [u2, u3]
      exact ⟨by omega, fun _ => ⟨ifl _ _ _ _ (by omega) (ifl _ _ _ _ (by omega) (by omega)), ifu _ _ _ _ (by omega) (ifu _ _ _ _ (by omega) (by omega))⟩, fun _ => ⟨ifl _ _ _ _ (by omega) (by omega), ifu _ _ _ _ (by omega) (by omega)⟩⟩
  have ncO : ∀ y, y < 4 * o + 1 → NCg g y → NCg G y := fun y hyj hy => hy.mo fun x z _ => by
    obtain ⟨w, w'⟩ | ⟨w1, w2, w3⟩ := nw x z
    · obtain ⟨u1, u2, u3, -⟩ := oK x w
      exact Or.inl ⟨w, u1, w', u3⟩
    · exact Or.inr ⟨fun u => by have := w2 u; omega, fun u => by have := w3 u; omega⟩
  have pcF : PcF G τ' r o (i + 1) e := by
    rw [← hG]
    refine gQ_pc hq (by omega) hbr hbr0 ?_ ?_ (fun m hm => (udn_n (by omega)).trans (y5 m (by omega))) ht3.1 ht3.2.1 ht3.2.2 (by omega) ?_ (fun z => ?_) (fun z => ?_) (fun z => ?_)
    · have : kad g.K (4 * i + 2) (4 * o + 1) = g.K (4 * o + 1) := kad_o (by omega)
      show kad g.K (4 * i + 2) (4 * o + 1) ≠ true
      rw [this]
      exact nO
    · have : kad g.K (4 * i + 2) (4 * (i + 1) + 2) = g.K (4 * (i + 1) + 2) := kad_o (by omega)
      show kad g.K (4 * i + 2) (4 * (i + 1) + 2) ≠ true
      rw [this]
      exact nK _ (by omega)
    · show v ≤ g.dp o + e
      omega
    · show v ≤ g.dp o
      omega
    · have := hb1 (by omega)
      obtain ⟨w, -⟩ | ⟨w, -⟩ | ⟨w, -⟩ | ⟨w, -⟩ := hq <;> omega
    · rw [ht.1, Nat.add_sub_cancel]
      omega
  have grF : GrF G τ' r o i := ⟨oi, by omega, by rw [wO o oi]; exact ow1, by rw [ht.1]; exact oc, wN, by rw [ht.1]; exact hci, ht3.1, hti, kN⟩
  refine ⟨⟨by rw [ht.2.2.1]; exact hrn, by rw [ht.2.2.1]; exact q2, by omega, q4, by omega⟩, ⟨fun x z => ?_, fun m z => ?_, fun m z => ?_, fun m z => ?_, fun m z => ?_, fun m w => ?_, fun _ => ?_⟩, fun x z => ?_, fun k w1 w2 => ?_, ?_, fun l w => ?_, ?_, ?_, ?_⟩
  · obtain w | w | ⟨w, u⟩ | ⟨w, u⟩ := cs x z
    · have := y0 x w
      omega
    · omega
    · omega
    · have := p2b w
      omega
  · obtain w | w | ⟨w, u⟩ | ⟨w, u⟩ := cs _ z
    · exact y1 m w
    · omega
    · omega
    · omega
  · have z' := k0n m z
    have := y0 _ z'
    obtain w | ⟨w1, w2⟩ := y2 m z'
    · exact Or.inl w
    · exact Or.inr ⟨by rw [wO _ (by omega)]; exact w1, by rw [ht.1]; exact w2⟩
  · by_cases w : m = o
    · rw [w, wO o oi]
      exact ow1
    · have z' := k1n m w z
      have := y0 _ z'
      rw [wO m (by omega)]
      exact y3 m z'
  · obtain w | w | ⟨w, u⟩ | ⟨w, u⟩ := cs _ z
    · have := y0 _ w
      rw [wO m (by omega)]
      exact y4 m w
    · have : m = i := by omega
      rw [this]
      exact Or.inl wN
    · omega
    · have : m = i + 1 := by omega
      rw [this, wB, if_pos w]
      exact Or.inr rfl
  · by_cases u : m = i + 1
    · rw [u, wB, if_neg (fun z => by have := p2b z; omega)]
    · exact wI m (by omega)
  · rw [wO 0 (by omega)]
    exact y6 (by omega)
  · obtain ⟨w, w'⟩ | ⟨w1, w2, w3⟩ := nw x z
    · obtain ⟨u1, u2, u3, -⟩ := oK x w
      rw [u1, w', u3]
      obtain ⟨c1, c2⟩ := tg x w
      exact ⟨fun u => by have := c1 u; omega, fun u => by have := c2 u; omega⟩
    · exact ⟨fun u => (w2 u).2, fun u => (w3 u).2⟩
  · have ki := w1i k w2
    by_cases u : k = i
    · subst u
      refine ⟨kN, ?_, fun z => absurd (k1n k (by omega) z) (nK _ (by omega)), Or.inr (Or.inl ⟨by rw [ht.1]; exact hci, oN.1, fun z => nK _ (by omega) (k1n k (by omega) z), o, ga, grF, hti, by rw [ht4]; exact hga, ga3, oN.2.2⟩)⟩
      rw [oN.2.1, dpO k (Nat.le_refl _)]
      omega
    · have hk : k < i := by omega
      rw [wO k hk] at w2
      have tkk := tk k hk w2
      have kx := y0 _ tkk.1
      by_cases uo : k = o
      · subst uo
        obtain ⟨t1, t2, t3, t4⟩ := tkk
        obtain ⟨x1, x2, x3, x4, x5⟩ := oK _ t1
        refine ⟨kM _ t1, by rw [x4, dpO k (by omega)]; exact t2, fun z => ?_, ?_⟩
        · obtain w | w | ⟨w, u⟩ | ⟨w, u⟩ := cs _ z
          · exact absurd w nO
          · omega
          · rw [(o1 w).2.2.2, dpO k (by omega)]
          · omega
        · obtain ⟨z, -⟩ | ⟨z, -⟩ | ⟨z, z2, z3, z4, z5, z6, z7, -⟩ | ⟨-, -, z, -⟩ := t4
          · omega
          · omega
          · refine Or.inr (Or.inr (Or.inl ⟨by rw [ht.1]; exact z, by rw [x1]; exact z2, by rw [x4, dpO k (by omega)]; exact z3, by rw [ht4, x5]; exact z4, fun w => ?_, by rw [(htb k (by omega)).1]; exact z6.mo M (k0n _), by rw [dpO (k + 1) (by omega), dpO k (by omega)]; exact z7, Or.inr ⟨i, e, pcF, grF, by rw [oN.2.1, dpO k (by omega)]⟩⟩))
            by_cases w3 : k + 1 = i
            · rw [w3]
              exact wN
            · rw [wO _ (by omega)]
              exact z5 (by omega)
          · omega
      · refine TkF.mo M hk uo tkk (k1n k uo) (fun _ c => by rw [(htb k u).1]; exact c.mo M (k0n _)) (fun cb ⟨l, c1, c2, c3, c4, c5⟩ => ?_) (fun _ ⟨o', q', d1, d2⟩ => k1b k tkk.1 ?_) (fun ⟨l, c1, c2, c3, c4⟩ => ?_)
        · by_cases el : l = lw + 1
          · right
            rw [el, ho] at c2 c3
            obtain ⟨b1, b2⟩ := u9 k hk w2 cb c2
            refine ⟨o, i, by rw [(htb k u).2]; exact c2, by omega, hk, grF, ?_, ?_⟩
            · rw [(oK _ tkk.1).2.1, if_pos]
              rw [show (4 * k + 2) / 4 = k by omega]
              exact ⟨by omega, hk, w2, cb, c2⟩
            · rw [oN.2.1, dpO k (by omega)]
              rw [dpo1] at b1 b2
              omega
          · left
            have lt := h.lvLt2 (show l < lw + 1 by omega) (Nat.le_refl _)
            have ll2 := (lf l (by omega)).2.1
            refine ⟨l, by omega, ?_, ?_, ?_, ?_⟩
            · rw [(htb k u).2, (hl l (by omega)).1]
              exact c2
            · rw [(hl l (by omega)).1]
              exact c3
            · rw [(hl l (by omega)).2.1]
              exact c4
            · rw [k1b k tkk.1 (by omega)]
              exact c5
        · intro e3
          have : o' = o := by omega
          subst this
          exact u10 q' d2.2.1 d2.2.2.2.2.1 d2.2.2.2.2.2.1 (by rw [ho]; exact d2.2.2.2.2.2.2.2.1)
        · have : l ≠ lw + 1 := fun z => by
            rw [z, ho] at c3
            omega
          exact ⟨l, c1, by omega, by rw [(hl l (by omega)).1]; exact c3, fun z => c4 (k1n k uo z)⟩
  · rw [ht.2.2.2]
    exact br.mo M (k0n 0)
  · have hL := lf l (by omega)
    obtain ⟨-, c2, c3, -, -, -, c7, c8, -, -, ⟨c11, c12⟩, -⟩ := id hL
    obtain ⟨d1, d2, d3, d4⟩ := hl l w
    have lt := h.lvLt2 (show l < lw + 1 by omega) (Nat.le_refl _)
    have lo1 : -1 ≤ lo l := by
      obtain ⟨-, u⟩ | ⟨-, o', o1, -⟩ := hL.1
      · omega
      · omega
    refine hL.mo2 M ⟨d1, d2, d3, d4⟩ ?_ (k0n _) (fun _ => ht.2.2.2) (fun y z => (htb y (by omega)).1) (fun z => ?_) (fun y u1 u2 u3 u4 => ?_) (ncO _ (by omega) c11) (fun o' z => ⟨ncO _ (by omega) (c12 o' z).1, fun w => (c12 o' z).2 (k1n o' (by omega) w)⟩)
    · by_cases u : l = lw
      · rw [u]
        exact be01
      · rw [hbe l (by omega)]
        exact c7.1
    · obtain ⟨u1, u2⟩ := c8 (by omega)
      have u3 := (lf (l + 1) (by omega)).2.1
      rw [(hl (l + 1) (by omega)).1, dpO _ (by omega), hbe l z]
      exact ⟨u1, u2⟩
    · have yi := w1i y u2
      by_cases v2 : y = i
      · exfalso
        rw [v2, hti] at u4
        omega
      · omega
  · rw [(hl lw (Nat.le_refl _)).1, dpR, dpO _ (by omega)]
    exact hv
  · have s1 := cn_le1 (P := fun x => puK g x || decide (x = 4 * i + 2)) (P' := puK G) (y := if p1 = true then 4 * o + 1 else 4 * (i + 1) + 2) (fun x w z => by
      unfold puK at z ⊢
      rw [Bool.and_eq_true] at z
      rw [Bool.or_eq_true, Bool.and_eq_true]
      obtain u | u | ⟨u, u2⟩ | ⟨u, u2⟩ := cs x z.1
      · rw [(oK x u).1] at z
        exact Or.inl ⟨u, z.2⟩
      · exact Or.inr (decide_eq_true u)
      · exact absurd u2 (by rw [if_pos u] at w; exact w)
      · exfalso
        by_cases w4 : p1 = true
        · subst u2
          have := of_decide_eq_true z.2
          rw [(o2 u).1, if_pos w4] at this
          omega
        · rw [if_neg w4] at w
          exact w u2) 84
    have s2 := cn_le1 (P := puK g) (P' := fun x => puK g x || decide (x = 4 * i + 2)) (y := 4 * i + 2) (fun x w z => by
      simp [w] at z
      exact z) 84
    have s3 : (if 4 * i + 2 < 84 then 1 else 0) ≤ 1 := ifu _ 1 0 1 (Nat.le_refl _) (by omega)
    have s4 : (if (if p1 = true then 4 * o + 1 else 4 * (i + 1) + 2) < 84 then 1 else 0) ≤ 1 := ifu _ 1 0 1 (Nat.le_refl _) (by omega)
    by_cases q0 : qv = 0
    · have s5 : cn (puK G) 84 ≤ cn (fun x => puK g x || decide (x = 4 * i + 2)) 84 := cn_mono 84 fun x _ z => by
        unfold puK at z ⊢
        rw [Bool.and_eq_true] at z
        rw [Bool.or_eq_true, Bool.and_eq_true]
        obtain u | u | ⟨u, u2⟩ | ⟨u, u2⟩ := cs x z.1
        · rw [(oK x u).1] at z
          exact Or.inl ⟨u, z.2⟩
        · exact Or.inr (decide_eq_true u)
        · exfalso
          obtain ⟨-, w, -⟩ | ⟨w, -⟩ | ⟨w, -⟩ | ⟨w, -⟩ := hq
          · rw [w] at u; cases u
          · omega
          · omega
          · omega
        · exfalso
          obtain ⟨-, -, w⟩ | ⟨w, -⟩ | ⟨w, -⟩ | ⟨w, -⟩ := hq
          · rw [w] at u; cases u
          · omega
          · omega
          · omega
      omega
    · have hlt : i + 1 ≠ r := fun z => q0 (hbr0.2 z)
      omega
  · by_cases q0 : qv = 0
    · have : cn G.K 84 ≤ cn (kad g.K (4 * i + 2)) 84 := cn_mono 84 fun x _ z => by
        obtain u | u | ⟨u, u2⟩ | ⟨u, u2⟩ := cs x z
        · exact kad_k u
        · rw [u]; exact kad_y
        · exfalso
          obtain ⟨-, w, -⟩ | ⟨w, -⟩ | ⟨w, -⟩ | ⟨w, -⟩ := hq
          · rw [w] at u; cases u
          · omega
          · omega
          · omega
        · exfalso
          obtain ⟨-, -, w⟩ | ⟨w, -⟩ | ⟨w, -⟩ | ⟨w, -⟩ := hq
          · rw [w] at u; cases u
          · omega
          · omega
          · omega
      have := cn_kle g.K (4 * i + 2) 84
      omega
    · have hlt : i + 1 ≠ r := fun z => q0 (hbr0.2 z)
      have : cn G.K 84 ≤ cn (kad (kad (kad g.K (4 * i + 2)) (4 * o + 1)) (4 * (i + 1) + 2)) 84 := cn_mono 84 fun x _ z => by
        obtain u | u | ⟨u, u2⟩ | ⟨u, u2⟩ := cs x z
        · exact kad_k (kad_k (kad_k u))
        · rw [u]; exact kad_k (kad_k kad_y)
        · rw [u2]; exact kad_k kad_y
        · rw [u2]; exact kad_y
      have := cn_kle g.K (4 * i + 2) 84
      have := cn_kle (kad g.K (4 * i + 2)) (4 * o + 1) 84
      have := cn_kle (kad (kad g.K (4 * i + 2)) (4 * o + 1)) (4 * (i + 1) + 2) 84
      omega
end Stc
