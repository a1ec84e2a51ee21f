/-! A quantifier: the class's code by keys -/
theorem AtG.em {c : Nat → Int} {en : Bool} {i b sc sc' : Nat} {op f em : Int} {lo hi : Nat → Int} (h : AtG c en i b op f sc sc' em lo hi) : em = if c i = 94 ∨ c i = 36 ∨ isR c i = 1 then 1 else 0 := by
  obtain ⟨-, -, ⟨r1, -, -, e1, -⟩ | ⟨r0, -, -, -, he, ha⟩⟩ := h
  · rw [if_pos (Or.inr (Or.inr r1)), e1]
  · have l1 : lOk 1 (fun _ => 32) := ⟨by decide, by decide, fun _ _ => ⟨by show (32 : Int) ≤ 32; decide, by show (32 : Int) ≤ 126; decide⟩⟩
    have l0 : lOk 0 (fun _ => 32) := ⟨by decide, by decide, fun _ _ => ⟨by show (32 : Int) ≤ 32; decide, by show (32 : Int) ≤ 126; decide⟩⟩
    have k1 := ha 1 (fun _ => 32) 0 l1 (by decide) (by decide)
    have k0 := ha 0 (fun _ => 32) 0 l0 (by decide) (by decide)
    by_cases g1 : c i = 94
    · rw [if_pos (Or.inl g1)]
      have m1 : mA c i b 1 (fun _ => 32) 0 = 0 := by
        unfold mA
        rw [if_pos g1, if_pos rfl]
      rw [m1] at k1
      obtain ⟨z, -⟩ | ⟨-, -, -, ⟨z, -⟩ | ⟨-, z⟩⟩ := k1
      · omega
      · omega
      · obtain ⟨w, -⟩ | ⟨-, w1, w2⟩ := he
        · exact w
        · omega
    · by_cases g2 : c i = 36
      · rw [if_pos (Or.inr (Or.inl g2))]
        have m1 : mA c i b 0 (fun _ => 32) 0 = 0 := by
          unfold mA
          rw [if_neg g1, if_pos g2, if_pos rfl]
        rw [m1] at k0
        obtain ⟨z, -⟩ | ⟨-, -, -, ⟨z, -⟩ | ⟨-, z⟩⟩ := k0
        · omega
        · omega
        · obtain ⟨w, -⟩ | ⟨-, w1, w2⟩ := he
          · exact w
          · omega
      · rw [if_neg (by omega)]
        obtain ⟨w, w1⟩ | ⟨w, -, -⟩ := he
        · exfalso
          obtain w1 | w1 := w1
          · have a1 : aF op f lo hi 1 (fun _ => 32) 0 = (1, 0) := by
              unfold aF
              rw [if_pos w1, if_pos rfl]
            rw [a1] at k1
            have m1 : mA c i b 1 (fun _ => 32) 0 ≠ 0 := by
              unfold mA
              rw [if_neg g1, if_neg g2, if_pos (by decide)]
              by_cases z : (if c i = 46 then 1 else if c i = 91 then inI c i b 32 else if c i = 92 then (if c (i + 1) = 32 then 1 else 0) else if c i = 32 then 1 else 0) = (0 : Int)
              · rw [if_pos z]
                decide
              · rw [if_neg z]
                decide
            obtain ⟨-, z⟩ | ⟨-, -, z, -⟩ := k1
            · exact absurd z (by decide)
            · exact m1 z.symm
          · have a1 : aF op f lo hi 0 (fun _ => 32) 0 = (1, 0) := by
              unfold aF
              rw [if_neg (by omega), if_pos w1, if_pos rfl]
            rw [a1] at k0
            have m1 : mA c i b 0 (fun _ => 32) 0 = -1 := by
              unfold mA
              rw [if_neg g1, if_neg g2, if_neg (by decide)]
            rw [m1] at k0
            obtain ⟨-, z⟩ | ⟨z, -⟩ := k0
            · exact absurd z (by decide)
            · omega
        · exact w
section Tqr
variable {p : Nat}
theorem qN_4 {c : Nat → Int} {b : Nat} : qN c b = 0 ∨ qN c b = 1 ∨ qN c b = 2 ∨ qN c b = 3 := by
  unfold qN
  by_cases q1 : c b = 42
  · rw [if_pos q1]; omega
  rw [if_neg q1]
  by_cases q2 : c b = 43
  · rw [if_pos q2]; omega
  rw [if_neg q2]
  by_cases q3 : c b = 63
  · rw [if_pos q3]; omega
  rw [if_neg q3]; omega
theorem qN_c {c : Nat → Int} {b : Nat} : (qN c b = 1 ∧ c b = 42) ∨ (qN c b = 2 ∧ c b = 43) ∨ (qN c b = 3 ∧ c b = 63) ∨ qN c b = 0 := by
  unfold qN
  by_cases q1 : c b = 42
  · rw [if_pos q1]; omega
  rw [if_neg q1]
  by_cases q2 : c b = 43
  · rw [if_pos q2]; omega
  rw [if_neg q2]
  by_cases q3 : c b = 63
  · rw [if_pos q3]; omega
  rw [if_neg q3]; omega
theorem qE_b {c : Nat → Int} {b n : Nat} (hb : b ≤ n) (h0 : ∀ j, n ≤ j → c j = 0) : b ≤ qE c b ∧ qE c b ≤ n ∧ (qN c b = 0 ↔ b = qE c b) := by
  unfold qE
  by_cases q0 : qN c b = 0
  · rw [if_pos q0]
    exact ⟨Nat.le_refl _, hb, fun _ => rfl, fun _ => q0⟩
  · have hbn : b < n := by
      by_cases g : b < n
      · exact g
      · exfalso
        apply q0
        unfold qN
        rw [h0 b (by omega)]
        rfl
    rw [if_neg q0]
    by_cases g : c (b + 1) = 63
    · rw [if_pos g]
      have : b + 1 < n := by
        by_cases g2 : b + 1 < n
        · exact g2
        · have := h0 (b + 1) (by omega)
          omega
      exact ⟨by omega, by omega, by omega⟩
    · rw [if_neg g]
      exact ⟨by omega, by omega, by omega⟩
theorem q_rep (hp6 : 36 ≤ p) {g1 : PG} {a b s Zc lv n : Nat} {c : Nat → Int} {μ μ' : Nat → Nat → Int} {X Y : Int} (rp : RepG g1 Zc (μ (p + 1)) (μ (p + 2)) (μ (p + 3))) (h5 : μ p 5 = Zc) (hab : a < b) (hb : b ≤ n) (h20 : n ≤ 20) (h0 : ∀ j, n ≤ j → c j = 0) (hmax : ∀ x, g1.K x = true → x < 4 * b) (ht : ∀ x, g1.K x = true → (g1.ko x = 6 ∨ g1.ko x = 7 → g1.k1 x ≤ 4 * b) ∧ (g1.ko x = 6 → g1.k2 x ≤ 4 * b)) (hK : g1.K (4 * a + 1) ≠ true) (hs : cn g1.K (4 * a + 2) = s) (nc : NCg g1 (4 * a + 1))
    (hQ : (qN c b = 0 ∧ μ' = z_up μ 9 lv X) ∨ (qN c b ≠ 0 ∧ ∃ μ1 μ2, μ1 = z_up (z_up μ 3 2 (qE c b : Int)) 3 4 0 ∧ RepO p s Zc (c b) (qL c b) μ1 μ2 ∧ μ' = z_up μ2 9 lv Y)) :
    ∃ p1 p2 lz : Bool, qP (qN c b) p1 p2 ∧ ((qL c b = 0 ∧ lz = false) ∨ (qL c b ≠ 0 ∧ lz = true)) ∧ ∀ v, RepG (gQ g1 a b (qE c b) p1 p2 lz v) (cn (gQ g1 a b (qE c b) p1 p2 lz v).K 84) (μ' (p + 1)) (μ' (p + 2)) (μ' (p + 3)) ∧ μ' p 5 = cn (gQ g1 a b (qE c b) p1 p2 lz v).K 84 := by
  obtain ⟨r1, r2, r3⟩ := qE_b hb h0
  have nn : ∀ (g : Nat → Nat → Int) (c c' j' : Nat) (v : Int), c ≠ c' → z_up g c' j' v c = g c := fun g c c' j' v h => funext fun j => z_up_ne h
  obtain ⟨lz, hl⟩ : ∃ lz : Bool, (qL c b = 0 ∧ lz = false) ∨ (qL c b ≠ 0 ∧ lz = true) := by
    by_cases g : qL c b = 0
    · exact ⟨false, Or.inl ⟨g, rfl⟩⟩
    · exact ⟨true, Or.inr ⟨g, rfl⟩⟩
  obtain ⟨q0, e⟩ | ⟨q0, μ1, μ2, e1, hR, e⟩ := hQ
  · refine ⟨false, false, lz, Or.inl ⟨q0, rfl, rfl⟩, hl, fun v => ?_⟩
    have eK : (gQ g1 a b (qE c b) false false lz v).K = g1.K := by
      funext x
      show (g1.K x || (false && decide (x = 4 * a + 1)) || (false && decide (x = 4 * b + 2))) = g1.K x
      rw [Bool.false_and, Bool.false_and, Bool.or_false, Bool.or_false]
    have eo : ∀ x, (gQ g1 a b (qE c b) false false lz v).ko x = g1.ko x ∧ (gQ g1 a b (qE c b) false false lz v).k1 x = g1.k1 x ∧ (gQ g1 a b (qE c b) false false lz v).k2 x = g1.k2 x ∧ (gQ g1 a b (qE c b) false false lz v).D x = g1.D x := fun x => gQ_o (fun z => by cases z) (fun z => by cases z)
    have z84 : Zc = cn g1.K 84 := rp.2.1
    rw [e, nn _ _ _ _ _ (by omega), nn _ _ _ _ _ (by omega), nn _ _ _ _ _ (by omega), z_up_ne (by omega), h5, eK, ← z84]
    refine ⟨?_, rfl⟩
    have := Rep.cf rp (ko' := (gQ g1 a b (qE c b) false false lz v).ko) (kf' := (gQ g1 a b (qE c b) false false lz v).kf) (k1' := (gQ g1 a b (qE c b) false false lz v).k1) (k2' := (gQ g1 a b (qE c b) false false lz v).k2) (fun x _ _ => ⟨(eo x).1, rfl, (eo x).2.1, (eo x).2.2.1⟩) (fun x _ z => absurd z (fun w => w))
    rw [← eK] at this
    exact this
  · obtain ⟨p1, p2, hq⟩ : ∃ p1 p2, qP (qN c b) p1 p2 := by
      obtain z | z | z | z := qN_4 (c := c) (b := b)
      · exact absurd z q0
      · exact ⟨true, true, Or.inr (Or.inl ⟨z, rfl, rfl⟩)⟩
      · exact ⟨false, true, Or.inr (Or.inr (Or.inl ⟨z, rfl, rfl⟩))⟩
      · exact ⟨true, false, Or.inr (Or.inr (Or.inr ⟨z, rfl, rfl⟩))⟩
    have mi : ∀ q, q ≠ 3 → μ1 q = μ q := fun q hq => by rw [e1, nn _ _ _ _ _ hq, nn _ _ _ _ _ hq]
    refine ⟨p1, p2, lz, hq, hl, fun v => ?_⟩
    have hin : ((c b = 43 ∧ μ2 (p + 1) = insA (μ (p + 1)) Zc Zc 6 ∧ μ2 (p + 2) = insA (μ (p + 2)) Zc Zc (if qL c b = 0 then -((Zc : Int) - s) else 1) ∧ μ2 (p + 3) = insA (μ (p + 3)) Zc Zc (if qL c b = 0 then 1 else -((Zc : Int) - s))) ∨ (c b = 63 ∧ μ2 (p + 1) = insA (μ (p + 1)) s Zc 6 ∧ μ2 (p + 2) = insA (μ (p + 2)) s Zc (if qL c b = 0 then 1 else (Zc : Int) - s + 1) ∧ μ2 (p + 3) = insA (μ (p + 3)) s Zc (if qL c b = 0 then (Zc : Int) - s + 1 else 1)) ∨ (c b = 42 ∧ μ2 (p + 1) = insA (insA (μ (p + 1)) s Zc 6) (Zc + 1) (Zc + 1) 7 ∧ μ2 (p + 2) = insA (insA (μ (p + 2)) s Zc (if qL c b = 0 then 1 else (Zc : Int) - s + 2)) (Zc + 1) (Zc + 1) (-((Zc : Int) - s + 1)) ∧ μ2 (p + 3) = insA (insA (μ (p + 3)) s Zc (if qL c b = 0 then (Zc : Int) - s + 2 else 1)) (Zc + 1) (Zc + 1) 0)) ∧ ∃ Z2 : Nat, μ2 p 5 = Z2 ∧ (c b = 43 → Z2 = Zc + 1) ∧ (c b = 63 → Z2 = Zc + 1) ∧ (c b = 42 → Z2 = Zc + 2) := by
      obtain ⟨w, h1, h2, h3, h4, h5, h6⟩ | ⟨w, h1, h2, h3, h4, h5, h6⟩ | ⟨w, μ3, ⟨h1, h2, h3, h4, h5, h6⟩, k1, k2, k3, k4, k5, k6⟩ := hR
      · rw [mi _ (by omega)] at h4 h5 h6
        exact ⟨Or.inl ⟨w, h4, h5, h6⟩, Zc + 1, h3, fun _ => rfl, fun _ => rfl, fun z => by omega⟩
      · rw [mi _ (by omega)] at h4 h5 h6
        exact ⟨Or.inr (Or.inl ⟨w, h4, h5, h6⟩), Zc + 1, h3, fun _ => rfl, fun _ => rfl, fun z => by omega⟩
      · rw [mi _ (by omega)] at h4 h5 h6
        rw [h4] at k4
        rw [h5] at k5
        rw [h6] at k6
        exact ⟨Or.inr (Or.inr ⟨w, k4, k5, k6⟩), Zc + 2, k3, fun z => by omega, fun z => by omega, fun _ => rfl⟩
    obtain ⟨hin, Z2, z2, z43, z63, z42⟩ := hin
    have lt : b < qE c b := by
      have : b ≠ qE c b := fun z => q0 (r3.2 z)
      omega
    obtain ⟨Z', R, hZ', y43, y63, y42⟩ := RepG.q (g := g1) rp (a := a) (b := b) (r := qE c b) (v := v) (s := s) hq hab (fun _ => lt) r1 (by omega) hmax ht hK hs nc (q := c b) qN_c hl hin q0
    rw [e, nn _ _ _ _ _ (by omega), nn _ _ _ _ _ (by omega), nn _ _ _ _ _ (by omega), z_up_ne (by omega), z2, ← hZ']
    refine ⟨R, ?_⟩
    have : Z2 = Z' := by
      obtain ⟨w, -⟩ | ⟨w, -⟩ | ⟨w, -⟩ := hin
      · rw [z43 w, y43 w]
      · rw [z63 w, y63 w]
      · rw [z42 w, y42 w]
    rw [this]
end Tqr
