/-! The loop of both parsers: the invariant -/
def udn (f : Nat → Nat) (j v : Nat) : Nat → Nat := fun x => if x = j then v else f x
theorem udn_e {f : Nat → Nat} {j v : Nat} : udn f j v j = v := if_pos rfl
theorem udn_n {f : Nat → Nat} {j v x : Nat} (h : x ≠ j) : udn f j v x = f x := if_neg h
def udi (f : Nat → Int) (j : Nat) (v : Int) : Nat → Int := fun x => if x = j then v else f x
theorem udi_e {f : Nat → Int} {j : Nat} {v : Int} : udi f j v j = v := if_pos rfl
theorem udi_n {f : Nat → Int} {j x : Nat} {v : Int} (h : x ≠ j) : udi f j v x = f x := if_neg h
abbrev NCg (g : PG) (y : Nat) : Prop := NC g.K (fun _ => False) g.ko g.k1 g.k2 y
def LvF (g : PG) (τ : Tx) (i lv : Nat) (lo ll be se : Nat → Int) (E : Nat → Nat) (l : Nat) : Prop :=
  ((l = 0 ∧ lo l = -1) ∨ (1 ≤ l ∧ ∃ o : Nat, lo l = o ∧ o < i ∧ g.W o = 1 ∧ τ.c o = 40)) ∧ (lo l ≤ ll l ∧ ll l < i) ∧ g.K (4 * (ll l + 1).toNat) ≠ true ∧ (ll l = -1 → τ.fb = -1) ∧ (∀ y : Nat, ll l = y → τ.ba y = -1 ∧ g.W y = 1 ∧ (τ.c y = 40 ∨ τ.c y = 124)) ∧ g.dp (ll l + 1).toNat = g.dp (lo l + 1).toNat ∧ ((be l = 0 ∨ be l = 1) ∧ (se l = 0 ∨ se l = 1)) ∧
  (l < lv → ll l < lo (l + 1) ∧ (g.dp (lo (l + 1)).toNat : Int) = g.dp (lo l + 1).toNat + (1 - be l)) ∧
  (∀ y, y < i → g.W y = 1 → τ.c y = 124 → τ.ow y = lo l → g.dp (lo l + 1).toNat ≤ g.dp y ∧ (se l = 0 → g.dp (lo l + 1).toNat + 1 ≤ g.dp y)) ∧
  (∀ q, q < i → g.W q = 1 → τ.c q = 41 → τ.ow q ≠ lo l) ∧
  (NCg g (4 * (ll l + 1).toNat) ∧ ∀ o : Nat, lo l = o → NCg g (4 * o + 1) ∧ g.K (4 * o + 1) ≠ true) ∧
  ∃ js : Nat → Nat, js 0 = (lo l + 1).toNat ∧ js (E l) = (ll l + 1).toNat ∧ (∀ m, m < E l → js m < js (m + 1) ∧ js (m + 1) ≤ i ∧ g.K (4 * js m) = true ∧ g.ko (4 * js m) = 6 ∧ g.k2 (4 * js m) = 4 * js (m + 1) ∧ g.W (js (m + 1) - 1) = 1 ∧ τ.c (js (m + 1) - 1) = 124 ∧ τ.ow (js (m + 1) - 1) = lo l) ∧ ∀ y, y < i → g.W y = 1 → τ.c y = 124 → τ.ow y = lo l → ∃ m, m < E l ∧ js (m + 1) = y + 1
def opBr (g : PG) (τ : Tx) (lv : Nat) (lo ll : Nat → Int) (k : Nat) : Prop := ∃ l, l ≤ lv ∧ τ.ow k = lo l ∧ lo l < k ∧ (k : Int) ≤ ll l ∧ g.k1 (4 * k + 2) = 4 * k + 2
def opGr (g : PG) (lv : Nat) (lo : Nat → Int) (k : Nat) : Prop := ∃ l, 1 ≤ l ∧ l ≤ lv ∧ lo l = k ∧ g.K (4 * k + 1) ≠ true
def PIv (g : PG) (τ : Tx) (sc : Nat) (slo shi : Nat → Int) (i lv gr : Nat) (lo ll be se : Nat → Int) (E : Nat → Nat) : Prop :=
  (i ≤ τ.n ∧ τ.n ≤ 20 ∧ lv ≤ gr ∧ gr ≤ 3 ∧ 3 * sc ≤ i) ∧ KyF g τ i ∧ (∀ x, g.K x = true → (g.ko x = 6 ∨ g.ko x = 7 → g.k1 x ≤ 4 * i + 1) ∧ (g.ko x = 6 → g.k2 x ≤ 4 * i + 1)) ∧ (∀ k, k < i → g.W k = 1 → TkF g τ sc slo shi i k (opBr g τ lv lo ll) (opGr g lv lo)) ∧ BrF g τ i 0 τ.fb ∧ (∀ l, l ≤ lv → LvF g τ i lv lo ll be se E l) ∧ (g.dp i : Int) = g.dp (lo lv + 1).toNat + (1 - be lv) ∧ cn (puK g) 84 ≤ i ∧ cn g.K 84 ≤ 2 * i
section Inv
variable {g g' : PG} {τ τ' : Tx} {sc sc' : Nat} {slo shi slo' shi' : Nat → Int} {i i' a lv lv' : Nat} {lo ll be se lo' ll' be' se' : Nat → Int} {E E' : Nat → Nat}
theorem NC.mo {K K' : Nat → Bool} {X : Nat → Prop} {ko ko' : Nat → Int} {k1 k2 k1' k2' : Nat → Nat} {y : Nat} (h : NC K X ko k1 k2 y) (hx : ∀ x, K' x = true → ¬ X x → (K x = true ∧ ko' x = ko x ∧ k1' x = k1 x ∧ k2' x = k2 x) ∨ ((ko' x = 6 ∨ ko' x = 7 → (y < k1' x ↔ y < x)) ∧ (ko' x = 6 → (y < k2' x ↔ y < x)))) : NC K' X ko' k1' k2' y := by
  intro x q1 q2
  obtain ⟨a1, a2, a3, a4⟩ | h2 := hx x q1 q2
  · rw [a2, a3, a4]
    exact h x a1 q2
  · exact h2
/-- a level that is left alone -/
theorem LvF.mo (M : Mo g g' τ τ' sc sc' slo shi slo' shi' i i' a) {l : Nat} (h : LvF g τ i lv lo ll be se E l) (hl : lo' l = lo l ∧ ll' l = ll l ∧ be' l = be l ∧ se' l = se l ∧ E' l = E l) (hK : g'.K (4 * (ll l + 1).toNat) = true → g.K (4 * (ll l + 1).toNat) = true) (hf : ll l = -1 → τ'.fb = τ.fb) (hb : ∀ y : Nat, ll l = y → τ'.ba y = τ.ba y) (hn : l < lv' → ll l < lo' (l + 1) ∧ (g'.dp (lo' (l + 1)).toNat : Int) = g.dp (lo l + 1).toNat + (1 - be l))
    (hy : ∀ y, y < i' → g'.W y = 1 → τ.c y = 124 ∨ τ.c y = 41 → τ'.ow y = lo l → y < i) (hN : NCg g' (4 * (ll l + 1).toNat)) (hN2 : ∀ o : Nat, lo l = o → NCg g' (4 * o + 1) ∧ g'.K (4 * o + 1) ≠ true) : LvF g' τ' i' lv' lo' ll' be' se' E' l := by
  obtain ⟨⟨m1, m2⟩, m3, m4, m5, ⟨m6, m7⟩, m8, m9, m10, m11, m12, m13⟩ := id M
  obtain ⟨l1, l2, l3, l4, l5, l6, l7, l8, l9, l10, l11, js, j1, j2, j3, j4⟩ := h
  obtain ⟨e1, e2, e3, e4, e5⟩ := hl
  unfold LvF
  rw [e1, e2, e3, e4, e5]
  have b1 : g'.dp (lo l + 1).toNat = g.dp (lo l + 1).toNat := m5 _ (by omega)
  rw [b1, m5 (ll l + 1).toNat (by omega)]
  refine ⟨?_, ⟨l2.1, by omega⟩, fun z => l3 (hK z), fun z => (hf z).trans (l4 z), fun y z => ?_, l6, l7, hn, fun y y1 y2 y3 y4 => ?_, fun q q1 q2 q3 q4 => ?_, ⟨hN, hN2⟩, js, j1, j2, fun m hm => ?_, fun y y1 y2 y3 y4 => ?_⟩
  · obtain l1 | ⟨l1, o, o1, o2, o3, o4⟩ := l1
    · exact Or.inl l1
    · exact Or.inr ⟨l1, o, o1, by omega, by rw [m4 o o2]; exact o3, by rw [m6]; exact o4⟩
  · obtain ⟨w1, w2, w3⟩ := l5 y z
    exact ⟨(hb y z).trans w1, by rw [m4 y (by omega)]; exact w2, by rw [m6]; exact w3⟩
  · rw [m6] at y3
    have yi := hy y y1 y2 (Or.inl y3) y4
    rw [m4 y yi] at y2
    rw [(m8 y yi).2] at y4
    rw [m5 y (by omega)]
    exact l9 y yi y2 y3 y4
  · rw [m6] at q3
    have qi := hy q q1 q2 (Or.inr q3) q4
    rw [m4 q qi] at q2
    rw [(m8 q qi).2] at q4
    exact l10 q qi q2 q3 q4
  · obtain ⟨z1, z2, z3, z4, z5, z6, z7, z8⟩ := j3 m hm
    obtain ⟨x1, x2, x3, x4, x5⟩ := m3 _ z3
    refine ⟨z1, by omega, x1, by rw [x2]; exact z4, by rw [x4]; exact z5, by rw [m4 _ (by omega)]; exact z6, by rw [m6]; exact z7, by rw [(m8 _ (by omega)).2]; exact z8⟩
  · rw [m6] at y3
    have yi := hy y y1 y2 (Or.inl y3) y4
    rw [m4 y yi] at y2
    rw [(m8 y yi).2] at y4
    exact j4 y yi y2 y3 y4
/-- a level whose branch goes on -/
theorem LvF.mo2 (M : Mo g g' τ τ' sc sc' slo shi slo' shi' i i' a) {l : Nat} (h : LvF g τ i lv lo ll be se E l) (hl : lo' l = lo l ∧ ll' l = ll l ∧ se' l = se l ∧ E' l = E l) (hbe : be' l = 0 ∨ be' l = 1) (hK : g'.K (4 * (ll l + 1).toNat) = true → g.K (4 * (ll l + 1).toNat) = true) (hf : ll l = -1 → τ'.fb = τ.fb) (hb : ∀ y : Nat, ll l = y → τ'.ba y = τ.ba y) (hn : l < lv' → ll l < lo' (l + 1) ∧ (g'.dp (lo' (l + 1)).toNat : Int) = g.dp (lo l + 1).toNat + (1 - be' l))
    (hy : ∀ y, y < i' → g'.W y = 1 → τ.c y = 124 ∨ τ.c y = 41 → τ'.ow y = lo l → y < i) (hN : NCg g' (4 * (ll l + 1).toNat)) (hN2 : ∀ o : Nat, lo l = o → NCg g' (4 * o + 1) ∧ g'.K (4 * o + 1) ≠ true) : LvF g' τ' i' lv' lo' ll' be' se' E' l := by
  obtain ⟨⟨m1, m2⟩, m3, m4, m5, ⟨m6, m7⟩, m8, m9, m10, m11, m12, m13⟩ := id M
  obtain ⟨l1, l2, l3, l4, l5, l6, l7, l8, l9, l10, l11, js, j1, j2, j3, j4⟩ := h
  obtain ⟨e1, e2, e4, e5⟩ := hl
  unfold LvF
  rw [e1, e2, e4, e5]
  have b1 : g'.dp (lo l + 1).toNat = g.dp (lo l + 1).toNat := m5 _ (by omega)
  rw [b1, m5 (ll l + 1).toNat (by omega)]
  refine ⟨?_, ⟨l2.1, by omega⟩, fun z => l3 (hK z), fun z => (hf z).trans (l4 z), fun y z => ?_, l6, ⟨hbe, l7.2⟩, hn, fun y y1 y2 y3 y4 => ?_, fun q q1 q2 q3 q4 => ?_, ⟨hN, hN2⟩, js, j1, j2, fun m hm => ?_, fun y y1 y2 y3 y4 => ?_⟩
  · obtain l1 | ⟨l1, o, o1, o2, o3, o4⟩ := l1
    · exact Or.inl l1
    · exact Or.inr ⟨l1, o, o1, by omega, by rw [m4 o o2]; exact o3, by rw [m6]; exact o4⟩
  · obtain ⟨w1, w2, w3⟩ := l5 y z
    exact ⟨(hb y z).trans w1, by rw [m4 y (by omega)]; exact w2, by rw [m6]; exact w3⟩
  · rw [m6] at y3
    have yi := hy y y1 y2 (Or.inl y3) y4
    rw [m4 y yi] at y2
    rw [(m8 y yi).2] at y4
    rw [m5 y (by omega)]
    exact l9 y yi y2 y3 y4
  · rw [m6] at q3
    have qi := hy q q1 q2 (Or.inr q3) q4
    rw [m4 q qi] at q2
    rw [(m8 q qi).2] at q4
    exact l10 q qi q2 q3 q4
  · obtain ⟨z1, z2, z3, z4, z5, z6, z7, z8⟩ := j3 m hm
    obtain ⟨x1, x2, x3, x4, x5⟩ := m3 _ z3
    refine ⟨z1, by omega, x1, by rw [x2]; exact z4, by rw [x4]; exact z5, by rw [m4 _ (by omega)]; exact z6, by rw [m6]; exact z7, by rw [(m8 _ (by omega)).2]; exact z8⟩
  · rw [m6] at y3
    have yi := hy y y1 y2 (Or.inl y3) y4
    rw [m4 y yi] at y2
    rw [(m8 y yi).2] at y4
    exact j4 y yi y2 y3 y4
end Inv
