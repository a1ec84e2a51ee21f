/-! The code at a bar, and when a level is closed -/
section Rpb
variable {g : PG} {τ : Tx} {Z i lv : Nat} {O F S : Nat → Int} {lo ll be se : Nat → Int} {E : Nat → Nat}
theorem RepG.bar (h : RepG g Z O F S) {j a : Nat} (hj : j ≤ i) (hi : i < 20) (hmax : ∀ x, g.K x = true → x < 4 * i) (ht : ∀ x, g.K x = true → (g.ko x = 6 ∨ g.ko x = 7 → g.k1 x ≤ 4 * i + 1) ∧ (g.ko x = 6 → g.k2 x ≤ 4 * i + 1)) (hK : g.K (4 * j) ≠ true) (ha : cn g.K (4 * j) = a) (nc : NCg g (4 * j)) :
    RepG (gBr g i j) (Z + 2) (insA (insA O a Z 6) (Z + 1) (Z + 1) 7) (insA (insA F a Z 1) (Z + 1) (Z + 1) 0) (insA (insA S a Z ((Z : Int) - a + 2)) (Z + 1) (Z + 1) 0) := by
  have nb : g.K (4 * i + 2) ≠ true := fun z => by have := hmax _ z; omega
  have topi : cn g.K (4 * i + 2) = Z := h.top (fun x z => by have := hmax x z; omega) (by omega)
  have topr : cn g.K (4 * (i + 1)) = Z := h.top (fun x z => by have := hmax x z; omega) (by omega)
  have aZ : a ≤ Z := by rw [← ha, ← topi]; exact cn_le2 (by omega)
  have a1 : cn g.K (4 * j + 1) = a := (cn_f hK).trans ha
  have nb' : kad g.K (4 * j) (4 * i + 2) ≠ true := by rw [kad_o (by omega)]; exact nb
  have cc : ∀ t, cn (kad (kad g.K (4 * j)) (4 * i + 2)) t = cn g.K t + (if 4 * j < t then 1 else 0) + (if 4 * i + 2 < t then 1 else 0) := fun t => by rw [cn_kad nb', cn_kad hK]
  have r1 := h.ins (y := 4 * j) hK (by omega) nc (ko' := g.ko) (kf' := g.kf) (k1' := g.k1) (k2' := g.k2) (fun x _ => ⟨rfl, rfl, rfl, rfl⟩) 6 1 ((Z : Int) - a + 2)
  have r2 := r1.ins (y := 4 * i + 2) nb' (by omega) (fun x hx hX => by
    rw [kad_o (fun z => hX (Or.inr z))] at hx
    have := hmax x hx
    obtain ⟨w1, w2⟩ := ht x hx
    exact ⟨fun u => by have := w1 u; omega, fun u => by have := w2 u; omega⟩) (ko' := g.ko) (kf' := g.kf) (k1' := g.k1) (k2' := g.k2) (fun x _ => ⟨rfl, rfl, rfl, rfl⟩) 7 0 0
  have cb : cn (kad g.K (4 * j)) (4 * i + 2) = Z + 1 := by rw [cn_kad hK, topi, if_pos (by omega)]
  rw [ha, cb] at r2
  refine r2.cf (ko' := (gBr g i j).ko) (kf' := (gBr g i j).kf) (k1' := (gBr g i j).k1) (k2' := (gBr g i j).k2) (fun x hx hX => ?_) (fun x hx hX => ?_)
  · have q1 : x ≠ 4 * j := fun z => hX (Or.inl (Or.inr z))
    have q2 : x ≠ 4 * i + 2 := fun z => hX (Or.inr z)
    exact ⟨(udi_n q2).trans (udi_n q1), rfl, (udn_n q2).trans (udn_n q1), udn_n q1⟩
  · obtain (hX | hX) | hX := hX
    · exact absurd hX (fun z => z)
    · subst hX
      have k0 : cn (kad (kad g.K (4 * j)) (4 * i + 2)) (4 * j) = a := by rw [cc, ha, if_neg (by omega), if_neg (by omega), Nat.add_zero]
      have k1 : cn (kad (kad g.K (4 * j)) (4 * i + 2)) (4 * j + 1) = a + 1 := by rw [cc, a1, if_pos (by omega), if_neg (by omega)]
      have k2 : cn (kad (kad g.K (4 * j)) (4 * i + 2)) (4 * (i + 1)) = Z + 2 := by rw [cc, topr, if_pos (by omega), if_pos (by omega)]
      have koJ : (gBr g i j).ko (4 * j) = 6 := (udi_n (by omega)).trans udi_e
      have k1J : (gBr g i j).k1 (4 * j) = 4 * j + 1 := (udn_n (by omega)).trans udn_e
      have k2J : (gBr g i j).k2 (4 * j) = 4 * (i + 1) := udn_e
      rw [koJ, k1J, k2J, k0, k1, k2, insA_lt (show a < Z + 1 by omega), insA_lt (show a < Z + 1 by omega), insA_lt (show a < Z + 1 by omega), insA_eq, insA_eq, insA_eq]
      exact ⟨rfl, fun _ => by omega, fun z => by omega, fun z => absurd rfl z⟩
    · subst hX
      have k1 : cn (kad (kad g.K (4 * j)) (4 * i + 2)) (4 * i + 2) = Z + 1 := by rw [cc, topi, if_pos (by omega), if_neg (by omega)]
      have koN : (gBr g i j).ko (4 * i + 2) = 7 := udi_e
      have k1N : (gBr g i j).k1 (4 * i + 2) = 4 * i + 2 := udn_e
      rw [koN, k1N, k1, insA_eq, insA_eq]
      exact ⟨rfl, fun z => by omega, fun _ => by omega, fun _ z => absurd rfl z⟩
/-- the bars of the level whose group begins at o -/
def barO (g : PG) (τ : Tx) (i : Nat) (o : Int) (x : Nat) : Prop := x % 4 = 2 ∧ x / 4 < i ∧ g.W (x / 4) = 1 ∧ τ.c (x / 4) = 124 ∧ τ.ow (x / 4) = o
theorem LvF.aim {sc : Nat} {slo shi : Nat → Int} {opB opG : Nat → Prop} {l p : Nat} (hL : LvF g τ i lv lo ll be se E l) (hi : i ≤ 20) (ky : KyF g τ i) (tk : ∀ k, k < i → g.W k = 1 → TkF g τ sc slo shi i k opB opG) {μ : Nat → Nat → Int} (h : RepG g Z O F (μ (p + 3))) (hZ : Z ≤ 41) (ht : ∀ x, g.K x = true → (g.ko x = 6 ∨ g.ko x = 7 → g.k1 x ≤ 4 * i + 1) ∧ (g.ko x = 6 → g.k2 x ≤ 4 * i + 1)) :
    ∃ as : Nat → Nat, as 0 = cn g.K (4 * (lo l + 1).toNat) ∧ E l ≤ 20 ∧ Chn p (E l) Z μ as ∧ ∀ (F' : Nat → Int) (k1' : Nat → Nat), (∀ j, (∃ x, x < E l ∧ j + 1 = as (x + 1)) → F' j = (Z : Int) - j) → (∀ j, (¬ ∃ x, x < E l ∧ j + 1 = as (x + 1)) → F' j = F j) → (∀ x, barO g τ i (lo l) x → k1' x = 4 * i + 2) → (∀ x, ¬ barO g τ i (lo l) x → k1' x = g.k1 x) → RepN g.K g.ko g.kf k1' g.k2 Z O F' (μ (p + 3)) := by
  obtain ⟨-, l2, -, -, -, -, -, -, -, -, -, js, j1, j2, j3, j4⟩ := hL
  obtain ⟨y0, y1, -⟩ := ky
  have mono : ∀ m, m ≤ E l → js 0 + m ≤ js m := by
    intro m
    induction m with
    | zero => intro _; exact Nat.le_refl _
    | succ m ih =>
      intro q
      have := ih (by omega)
      have := (j3 m (by omega)).1
      omega
  have hE : E l ≤ 20 := by
    have := mono (E l) (Nat.le_refl _)
    omega
  have up : ∀ y, g.K (4 * y + 2) = true → cn g.K (4 * (y + 1)) = cn g.K (4 * y + 2) + 1 := fun y z => by
    rw [show 4 * (y + 1) = 4 * y + 2 + 1 + 1 by omega, cn_f (y1 y), cn_t z]
  refine ⟨fun m => cn g.K (4 * js m), by rw [← j1], hE, fun m hm => ?_, fun F' k1' f1 f2 a1 a2 => ?_⟩
  · obtain ⟨z1, z2, z3, z4, z5, -⟩ := j3 m hm
    have s1 := ((h.2.2 _ z3 (fun w => w)).2.1 z4).2
    rw [z5] at s1
    have s2 := cn_key z3 (show 4 * js m < 84 by omega)
    have s3 := cn_key z3 (show 4 * js m < 4 * js (m + 1) by omega)
    have s4 := cn_le2 (K := g.K) (show 4 * js (m + 1) ≤ 84 by omega)
    have s5 := h.2.1
    refine ⟨by dsimp only; omega, ?_, by dsimp only; omega, by dsimp only; omega⟩
    dsimp only
    rw [s1]
    omega
  · refine RepN.aim h (y := 4 * i + 2) (fun x z => by have := y0 x z; omega) (by omega) (barO g τ i (lo l)) (fun x hx hA => ?_) (fun x hx hA => ⟨a2 x hA, f2 _ ?_⟩)
    · obtain ⟨b1, b2, b3, b4, b5⟩ := id hA
      have xe : 4 * (x / 4) + 2 = x := by omega
      obtain ⟨t1, t2, t3, t4⟩ := tk (x / 4) b2 b3
      rw [xe] at t1 t4
      have k7 : g.ko x = 7 := by
        obtain ⟨-, z, -⟩ | ⟨z, -⟩ | ⟨z, -⟩ | ⟨z, -⟩ := t4
        · exact z
        · omega
        · omega
        · exact absurd b4 z
      obtain ⟨m, m1, m2⟩ := j4 (x / 4) b2 b3 b4 b5
      refine ⟨k7, a1 x hA, f1 _ ⟨m, m1, ?_⟩⟩
      dsimp only
      rw [m2, up (x / 4) (by rw [xe]; exact t1), xe]
    · rintro ⟨m, m1, m2⟩
      dsimp only at m2
      obtain ⟨z1, z2, z3, z4, z5, z6, z7, z8⟩ := j3 m m1
      have t1 := (tk (js (m + 1) - 1) (by omega) z6).1
      have u := up (js (m + 1) - 1) t1
      rw [show js (m + 1) - 1 + 1 = js (m + 1) by omega] at u
      have e := cn_inj hx t1 (by omega)
      refine hA ⟨by omega, ?_, ?_, ?_, ?_⟩
      · omega
      · rw [show x / 4 = js (m + 1) - 1 by omega]; exact z6
      · rw [show x / 4 = js (m + 1) - 1 by omega]; exact z7
      · rw [show x / 4 = js (m + 1) - 1 by omega]; exact z8
end Rpb
