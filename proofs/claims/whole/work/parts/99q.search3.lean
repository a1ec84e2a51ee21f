section Srch2
variable {L : Nat} {ρ : Nat → Nat → Nat} {p pt l k s : Nat} {en : Bool} {γ : Gh}
theorem searchL {fr : Int} (f0 : 0 ≤ fr) : ∀ (m N N' : Nat) (pl : Int) (μ ν : Nat → Nat → Int) (st : Nat), Sta L ρ μ ν p pt l k s en γ → pl + m = μ l 1 + 1 → m < N → m < N' → fr ≤ pl → (st : Int) ≤ μ 32 0 → μ 32 8 = 0 → μ 32 5 = 0 → μ 32 4 = st → ν 233 21 = st → ν 233 22 = 0 → ν 233 23 = -1 → μ 32 2 = -1 → μ 32 3 = -1 →
    ∃ μ1 ν1, f_Se_run_28 N 32 p l s pl (SH L, ρ, μ) = some (SH L, ρ, μ1) ∧ f_Mo_search_18 N' 233 pt k pl (SH L, ρ, ν) = some (SH L, ρ, ν1) ∧ FrC μ μ1 ∧ FrM ν ν1 ∧ SOut μ1 ν1 fr (μ l 1) := by
  intro m
  induction m with
  | zero =>
    intro N N' pl μ ν st S hm hN hN' hfr hst a1 a2 a3 a4 a5 a6 a7 a8
    obtain ⟨⟨rc, rm⟩, -, ⟨hl, lr, hl6⟩, -, ⟨h22, hk⟩, ⟨hlo, hlen, htx⟩, -, -, -⟩ := id S
    obtain ⟨N, rfl⟩ : ∃ k, N = k + 1 := ⟨N - 1, by omega⟩
    obtain ⟨N', rfl⟩ : ∃ k, N' = k + 1 := ⟨N' - 1, by omega⟩
    refine ⟨μ, ν, run28_stop hl (Or.inr (Or.inr (by omega))) N, srch_stop rm hk (Or.inr (Or.inr (by omega))) N', FrC.refl μ, FrM.refl ν, by rw [a3, a4], by rw [a3]; omega, by rw [a3]; exact hst, by rw [a2, a5], by rw [a6, a7], Or.inr ⟨Or.inl a2, a7, a8⟩⟩
  | succ m ih =>
    intro N N' pl μ ν st S hm hN hN' hfr hst a1 a2 a3 a4 a5 a6 a7 a8
    obtain ⟨⟨rc, rm⟩, -, ⟨hl, lr, hl6⟩, -, ⟨h22, hk⟩, ⟨hlo, hlen, htx⟩, -, -, -⟩ := id S
    have h24 := hlo.2.1
    obtain ⟨N, rfl⟩ : ∃ k, N = k + 1 + 1 := ⟨N - 2, by omega⟩
    obtain ⟨N', rfl⟩ : ∃ k, N' = k + 1 + 1 := ⟨N' - 2, by omega⟩
    have hs : SM μ st 0 (μ 32 6) (μ 32 7) 0 (μ 32 11) (μ 33) (μ 34) (μ 35) = μ := by
      have := SM_self μ
      rw [a3, a2, a1] at this
      exact this.symm
    have hsm : MM ν st 0 (ν 233 24) (ν 233 26) (ν 252) (ν 253) = ν := by
      have := MM_self ν
      rw [a4, a5] at this
      exact this.symm
    obtain ⟨fC, fM, r1, r2, st', ov', nx', he', mt', wc', H', W', P', mto, nc', G', C', eC, eM, o1, o2, o3⟩ := place (H := μ 33) (W := μ 34) (P := μ 35) (G := ν 252) (C := ν 253) (mt := ν 233 24) (nc := ν 233 26) S hst (pl := pl) (by omega) (by omega)
    subst eC
    subst eM
    have t1 := run28_turn (p := p) (s := s) (μ := μ) (st := st) (nx := μ 32 6) (he := μ 32 7) (wc := μ 32 11) (H := μ 33) (W := μ 34) (P := μ 35) rc hl hl6 (show pl ≤ μ l 1 by omega) (N + 1)
    rw [hs, r1, run110 (by omega) (by omega)] at t1
    have t2 := srch_turn (L := L) rm hk (by omega) (by omega) (by omega) (by omega) r2 (N' + 1)
    rw [hsm] at t2
    have fC1 : FrC μ (z_up (z_up (SM μ st' ov' nx' he' mt' wc' H' W' P') 32 2 (if mt' = 0 then -1 else pl)) 32 3 (if mt' = 0 then -1 else he')) := (FrC.sm.trans (FrC.up (by decide) _)).trans (FrC.up (by decide) _)
    have fM1 : FrM ν (z_up (MM ν st' ov' mto nc' G' C') 233 23 (if mto < 0 then -1 else pl)) := FrM.mm.trans (FrM.up (by decide) _)
    obtain ⟨q1, q2, q3, q4, q5, q6, q7⟩ | ⟨q1, q2, q3⟩ := o3
    · subst q1 q2 q3
      rw [if_neg (show ¬ (1 : Int) = 0 by decide), if_neg (show ¬ (1 : Int) = 0 by decide)] at t1 fC1
      rw [if_neg (by omega)] at t2 fM1
      refine ⟨_, _, t1.trans (run28_stop hl (Or.inl ?_) N), t2.trans (srch_stop rm hk (Or.inl ?_) N'), fC1, fM1, ?_⟩
      · rw [z_up_nj (by decide), z_up_nj (by decide), SM_8]; decide
      · rw [z_up_eq]; omega
      · unfold SOut
        simp only [z_up_eq, z_up_nj (show (4 : Nat) ≠ 3 by decide), z_up_nj (show (4 : Nat) ≠ 2 by decide), z_up_nj (show (5 : Nat) ≠ 3 by decide), z_up_nj (show (5 : Nat) ≠ 2 by decide), z_up_nj (show (2 : Nat) ≠ 3 by decide), z_up_nj (show (0 : Nat) ≠ 3 by decide), z_up_nj (show (0 : Nat) ≠ 2 by decide), z_up_nj (show (21 : Nat) ≠ 23 by decide), z_up_nj (show (22 : Nat) ≠ 23 by decide), z_up_nj (show (24 : Nat) ≠ 23 by decide), z_up_ne (show (33 : Nat) ≠ 32 by decide), z_up_ne (show (252 : Nat) ≠ 233 by decide), SM_4, SM_5, SM_0, SM_33, MM_21, MM_22, MM_24, MM_252]
        exact ⟨trivial, o1, o2, trivial, trivial, Or.inl ⟨trivial, hfr, q4, q5, trivial, fun g hg => ⟨q6 g hg, q7 g hg⟩⟩⟩
    · subst q1 q2
      rw [if_pos rfl, if_pos rfl] at t1 fC1
      rw [if_pos (by decide)] at t2 fM1
      obtain q3 | q3 := q3
      · subst q3
        have S' := S.fr fC1 fM1
        have hlen' : z_up (z_up (SM μ st' 0 nx' he' 0 wc' H' W' P') 32 2 (-1)) 32 3 (-1) l 1 = μ l 1 := fC1.1 l 1 (by omega)
        have hbud' := fC1.2
        obtain ⟨μ1, ν1, u1, u2, u3, u4, u5⟩ := ih (N + 1) (N' + 1) (pl + 1) _ _ st'.toNat S' (by rw [hlen']; omega) (by omega) (by omega) (by omega) (by rw [hbud']; omega) (by rw [z_up_nj (by decide), z_up_nj (by decide), SM_8]) (by rw [z_up_nj (by decide), z_up_nj (by decide), SM_5]) (by rw [z_up_nj (by decide), z_up_nj (by decide), SM_4]; omega) (by rw [z_up_nj (by decide), MM_21]; omega) (by rw [z_up_nj (by decide), MM_22]) z_up_eq (by rw [z_up_nj (by decide), z_up_eq]) z_up_eq
        rw [hlen'] at u5
        exact ⟨μ1, ν1, t1.trans u1, t2.trans u2, fC1.trans u3, fM1.trans u4, u5⟩
      · subst q3
        refine ⟨_, _, t1.trans (run28_stop hl (Or.inr (Or.inl ?_)) N), t2.trans (srch_stop rm hk (Or.inr (Or.inl ?_)) N'), fC1, fM1, ?_⟩
        · rw [z_up_nj (by decide), z_up_nj (by decide), SM_5]; decide
        · rw [z_up_nj (by decide), MM_22]; decide
        · unfold SOut
          simp only [z_up_eq, z_up_nj (show (4 : Nat) ≠ 3 by decide), z_up_nj (show (4 : Nat) ≠ 2 by decide), z_up_nj (show (5 : Nat) ≠ 3 by decide), z_up_nj (show (5 : Nat) ≠ 2 by decide), z_up_nj (show (2 : Nat) ≠ 3 by decide), z_up_nj (show (0 : Nat) ≠ 3 by decide), z_up_nj (show (0 : Nat) ≠ 2 by decide), z_up_nj (show (21 : Nat) ≠ 23 by decide), z_up_nj (show (22 : Nat) ≠ 23 by decide), z_up_nj (show (24 : Nat) ≠ 23 by decide), z_up_ne (show (33 : Nat) ≠ 32 by decide), z_up_ne (show (252 : Nat) ≠ 233 by decide), SM_4, SM_5, SM_0, SM_33, MM_21, MM_22, MM_24, MM_252]
          exact ⟨trivial, o1, o2, trivial, trivial, Or.inr ⟨Or.inr trivial, trivial, trivial⟩⟩
/-- the searches of class and model -/
theorem search {μ ν : Nat → Nat → Int} (S : Sta L ρ μ ν p pt l k s en γ) {fr : Int} (f0 : 0 ≤ fr) (f1 : fr ≤ μ l 1) : ∃ μ1 ν1, f_Se_run 32 p l fr s (SH L, ρ, μ) = some (SH L, ρ, μ1) ∧ f_Mo_search 233 pt k fr (SH L, ρ, ν) = some (SH L, ρ, ν1) ∧ FrC μ μ1 ∧ FrM ν ν1 ∧ SOut μ1 ν1 fr (μ l 1) := by
  obtain ⟨hz, hpu, h24, hn, h22, rm, b0, b3⟩ := S.z
  obtain ⟨-, -, ⟨hl, lr, hl6⟩, -⟩ := id S
  have fC1 : FrC μ (z_up (z_up (z_up (z_up (z_up μ 32 2 (-1)) 32 3 (-1)) 32 4 0) 32 5 0) 32 8 0) := ((((FrC.up (by decide) _).trans (FrC.up (by decide) _)).trans (FrC.up (by decide) _)).trans (FrC.up (by decide) _)).trans (FrC.up (by decide) _)
  have fM1 : FrM ν (z_up (z_up (z_up ν 233 21 0) 233 22 0) 233 23 (-1)) := ((FrM.up (by decide) _).trans (FrM.up (by decide) _)).trans (FrM.up (by decide) _)
  have hlen' : z_up (z_up (z_up (z_up (z_up μ 32 2 (-1)) 32 3 (-1)) 32 4 0) 32 5 0) 32 8 0 l 1 = μ l 1 := fC1.1 l 1 (by omega)
  obtain ⟨μ1, ν1, u1, u2, u3, u4, u5⟩ := searchL f0 (μ l 1 + 1 - fr).toNat 100000 100000 fr _ _ 0 (S.fr fC1 fM1) (by rw [hlen']; omega) (by omega) (by omega) (Int.le_refl _) (by rw [fC1.2]; exact b0) z_up_eq (by rw [z_up_nj (by decide), z_up_eq]) (by rw [z_up_nj (by decide), z_up_nj (by decide), z_up_eq]; rfl) (by rw [z_up_nj (by decide), z_up_nj (by decide), z_up_eq]; rfl) (by rw [z_up_nj (by decide), z_up_eq]) z_up_eq (by rw [z_up_nj (by decide), z_up_nj (by decide), z_up_nj (by decide), z_up_nj (by decide), z_up_eq]) (by rw [z_up_nj (by decide), z_up_nj (by decide), z_up_nj (by decide), z_up_eq])
  rw [hlen'] at u5
  refine ⟨μ1, ν1, ?_, ?_, fC1.trans u3, fM1.trans u4, u5⟩
  · unfold f_Se_run
    rw [zpI_k s_32, Option.bind_some, zpI_k s_32, Option.bind_some, zpI_k s_32, Option.bind_some, zpZ_k s_32 (Or.inl rfl), Option.bind_some, zpZ_k s_32 (Or.inl rfl), Option.bind_some]
    exact u1
  · unfold f_Mo_search
    rw [zpI_k s_233, Option.bind_some, zpZ_k s_233 (Or.inl rfl), Option.bind_some, zpI_k s_233, Option.bind_some]
    exact u2
end Srch2
