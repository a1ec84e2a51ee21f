/-! The end of the text -/
section Ste
variable {g : PG} {τ τ' : Tx} {sc n gr Z : Nat} {slo shi O F S : Nat → Int} {lo ll be se : Nat → Int} {E : Nat → Nat}
def gEn (g : PG) (τ : Tx) (n : Nat) : PG := (kad g.K (4 * n + 2), udn g.W n 1, udi g.ko (4 * n + 2) 9, udi g.kf (4 * n + 2) 0, fun x => if x % 4 = 2 ∧ x / 4 < n ∧ g.W (x / 4) = 1 ∧ τ.c (x / 4) = 124 ∧ τ.ow (x / 4) = -1 then 4 * n + 2 else g.k1 x, g.k2, udn g.D (4 * n + 2) 0, g.dp)
theorem st_end (h : PIv g τ sc slo shi n 0 gr lo ll be se E) (hn : τ.n = n) (h0 : τ.c n = 0) (ht : τ'.c = τ.c ∧ τ'.en = τ.en ∧ τ'.n = τ.n ∧ τ'.fb = τ.fb) (ht2 : ∀ m, m ≠ n → τ'.ow m = τ.ow m) (ht3 : τ'.ow n = -1) (ht4 : ∀ m, τ'.qu m = τ.qu m ∧ τ'.ae m = τ.ae m ∧ τ'.pe m = τ.pe m ∧ τ'.go m = τ.go m ∧ τ'.ba m = τ.ba m) (hr : RepG (gEn g τ n) Z O F S) : FinS (gEn g τ n) τ' sc Z O F S slo shi := by
  obtain ⟨⟨q1, q2, q3, q4, q5⟩, ⟨y0, y1, y2, y3, y4, y5, y6⟩, tg, tk, br, lf, dpe, pc, zc⟩ := id h
  have lo0 : lo 0 = -1 := by
    obtain ⟨-, z⟩ | ⟨z, -⟩ := (lf 0 (Nat.le_refl _)).1
    · exact z
    · omega
  have kN : (gEn g τ n).K (4 * n + 2) = true := kad_y
  have kM : ∀ x, g.K x = true → (gEn g τ n).K x = true := fun x z => kad_k z
  have kO : ∀ x, x ≠ 4 * n + 2 → (gEn g τ n).K x = true → g.K x = true := fun x w z => by
    have e : kad g.K (4 * n + 2) x = g.K x := kad_o w
    exact e.symm.trans z
  have xn : ∀ x, g.K x = true → x ≠ 4 * n + 2 := fun x z => by have := y0 x z; omega
  have wO : ∀ m, m ≠ n → (gEn g τ n).W m = g.W m := fun m w => udn_n w
  have wN : (gEn g τ n).W n = 1 := udn_e
  have k1p : ∀ x, x % 4 = 2 ∧ x / 4 < n ∧ g.W (x / 4) = 1 ∧ τ.c (x / 4) = 124 ∧ τ.ow (x / 4) = -1 → (gEn g τ n).k1 x = 4 * n + 2 := fun x z => if_pos z
  have k1n : ∀ x, ¬ (x % 4 = 2 ∧ x / 4 < n ∧ g.W (x / 4) = 1 ∧ τ.c (x / 4) = 124 ∧ τ.ow (x / 4) = -1) → (gEn g τ n).k1 x = g.k1 x := fun x z => if_neg z
  have M : Mo g (gEn g τ n) τ τ' sc sc slo shi slo shi n n n := by
    refine ⟨⟨Nat.le_refl _, fun z => absurd z (Nat.lt_irrefl _)⟩, fun x hx => ⟨kM x hx, udi_n (xn x hx), udi_n (xn x hx), rfl, udn_n (xn x hx)⟩, fun m hm => wO m (by omega), fun m _ => rfl, ⟨ht.1, ht.2.1⟩, fun m hm => ⟨(ht4 m).2.2.2.1, ht2 m (by omega)⟩, fun m _ _ => ⟨(ht4 m).1, (ht4 m).2.1, (ht4 m).2.2.1⟩, Nat.le_refl _, fun _ _ => ⟨rfl, rfl⟩, fun x hx w => k1n x fun u => ?_, fun q w1 w2 w3 w4 => ?_⟩
    · obtain w | ⟨m, w1, w2⟩ := w
      · obtain ⟨t1, t2, t3, t4⟩ := tk (x / 4) u.2.1 u.2.2.1
        rw [show 4 * (x / 4) + 2 = x by omega] at t4
        obtain ⟨z, z2, -⟩ | ⟨z, -⟩ | ⟨z, -⟩ | ⟨z, -⟩ := t4
        · omega
        · omega
        · omega
        · exact z u.2.2.2.1
      · rw [w1, show (4 * m + 2) / 4 = m by omega] at u
        exact w2 u.2.2.1
    · have := h.ow w1 w2 (Or.inr w3)
      omega
  have hn' : τ'.n = n := ht.2.2.1.trans hn
  unfold FinS
  rw [hn']
  refine ⟨by omega, ⟨fun x z => ?_, fun m z => ?_, fun m z => ?_, fun m z => ?_, fun m z => ?_, fun m w => ?_, fun _ => ?_⟩, ⟨kN, udi_e, udn_e, wN, fun z => ?_, by rw [ht.1]; exact h0, by rw [ht3]; decide⟩, fun k hk wk => ?_, ?_, hr, ?_, ?_, by omega⟩
  · by_cases w : x = 4 * n + 2
    · omega
    · have := y0 x (kO x w z)
      omega
  · exact y1 m (kO _ (by omega) z)
  · have z' := kO _ (by omega) z
    have := y0 _ z'
    obtain w | ⟨w1, w2⟩ := y2 m z'
    · exact Or.inl w
    · exact Or.inr ⟨by rw [wO _ (by omega)]; exact w1, by rw [ht.1]; exact w2⟩
  · have z' := kO _ (by omega) z
    have := y0 _ z'
    rw [wO m (by omega)]
    exact y3 m z'
  · by_cases w : m = n
    · rw [w]
      exact Or.inl wN
    · rw [wO m w]
      exact y4 m (kO _ (by omega) z)
  · rw [wO m (by omega)]
    exact y5 m (by omega)
  · by_cases w : n = 0
    · have e : (gEn g τ n).W 0 = (gEn g τ n).W n := by rw [w]
      rw [e]
      exact wN
    · rw [wO 0 (by omega)]
      exact y6 (by omega)
  · have := y0 _ (kO _ (by omega) z)
    omega
  · rw [wO k (by omega)] at wk
    refine TkF.mo M hk (by omega) (tk k hk wk) (kO _ (by omega)) (fun _ c => by rw [(ht4 k).2.2.2.2]; exact c.mo M (kO _ (by omega))) (fun cb ⟨l, c1, c2, c3, c4, c5⟩ => Or.inl ?_) (fun _ ⟨o, q, d1, d2⟩ => k1n _ fun u => ?_) (fun ⟨l, c1, c2, c3, c4⟩ => by omega)
    · have l0 : l = 0 := by omega
      rw [l0, lo0] at c2
      refine ⟨by rw [ht2 k (by omega)]; omega, k1p _ ?_⟩
      rw [show (4 * k + 2) / 4 = k by omega]
      exact ⟨by omega, hk, wk, cb, c2⟩
    · rw [show (4 * k + 2) / 4 = k by omega] at u
      omega
  · rw [ht.2.2.2]
    exact br.mo M (kO _ (by omega))
  · have : cn (puK (gEn g τ n)) 84 ≤ cn (puK g) 84 := cn_mono 84 fun x _ z => by
      unfold puK at z ⊢
      rw [Bool.and_eq_true] at z ⊢
      by_cases w : x = 4 * n + 2
      · exfalso
        have e : (gEn g τ n).ko x = 9 := by rw [w]; exact udi_e
        have := of_decide_eq_true z.2
        omega
      · have e : (gEn g τ n).ko x = g.ko x := udi_n w
        rw [e] at z
        exact ⟨kO x w z.1, z.2⟩
    omega
  · have := cn_kle g.K (4 * n + 2) 84
    have e := hr.2.1
    have e2 : cn (gEn g τ n).K 84 = cn (kad g.K (4 * n + 2)) 84 := rfl
    omega
end Ste
