theorem ndr_lt {γ : Gh} {mo i mo' i' : Nat} (h : γ.rk (γ.nd mo i) < γ.rk (γ.nd mo' i')) : ndr γ mo i < ndr γ mo' i' := by
  unfold ndr
  split <;> split <;> (try split) <;> (try split) <;> omega
section Sims2
variable {L : Nat} {ρ : Nat → Nat → Nat} {μ ν : Nat → Nat → Int} {p pt l k s : Nat} {en : Bool} {γ : Gh} {bl mt : Int} {M : Nat}
theorem Sta.lc (S : Sta L ρ μ ν p pt l k s en γ) {i : Nat} (h : γ.V i) : LCc (codOf μ p) (txOf ν pt en) γ i ∧ i ≤ 20 := by
  obtain ⟨-, -, -, -, -, -, -, ⟨hn, hz, hpu, hn2, -, -, hv⟩, -⟩ := S
  have := hv i h
  exact ⟨this, Nat.le_trans this.1 hn2⟩
theorem Sta.z (S : Sta L ρ μ ν p pt l k s en γ) : γ.z ≤ 41 ∧ cn (γ.pu (codOf μ p)) 41 ≤ 20 ∧ μ l 1 ≤ 24 ∧ ν 239 pt ≤ 21 ∧ pt < 22 ∧ Rm ρ ∧ 0 ≤ μ 32 0 ∧ μ 32 0 ≤ 300 := by
  obtain ⟨⟨rc, rm⟩, -, -, -, ⟨h22, -⟩, ⟨⟨-, h24, -⟩, -⟩, ⟨b0, b3, -⟩, ⟨hn, hz, hpu, hn2, -, -, hv⟩, -⟩ := S
  exact ⟨hz, hpu, h24, by omega, h22, rm, b0, b3⟩
theorem sim_split (S : Sta L ρ μ ν p pt l k s en γ) (ih : Sim L ρ μ ν p pt l k s en γ bl mt M) {x m w st mo1 i1 mo2 i2 : Nat} {he : Int} {G C H W P : Nat → Int} (hc : Cg (codOf μ p) (txOf ν pt en) γ bl (μ l 1) x he m G C w H W P) (hst : (st : Int) ≤ μ 32 0) (hs : SPc (codOf μ p) γ x (γ.nd mo1 i1) (γ.nd mo2 i2)) (ok1 : okN (txOf ν pt en) γ mo1 i1) (ok2 : okN (txOf ν pt en) γ mo2 i2) (hM : 65 * (301 - st) + γ.ps (txOf ν pt en) mo1 i1 + 1 ≤ M) :
    m < 622 ∧ ∃ fC fM, CR L ρ μ p l s (42 * (301 - st) + γ.ph x + 1) st (x : Int) he w H W P fC ∧ MR L ρ ν pt k mt (65 * (301 - st) + γ.ps (txOf ν pt en) mo1 i1 + 1) mo1 i1 he st (m + 1) G (psC C G m mo2 i2 he) fM ∧ Out μ ν bl (μ l 1) fC fM := by
  obtain ⟨hz, hpu, h24, -, -, -⟩ := S.z
  have hw := Cg_499 hc h24 hpu hz hs.2.2.2.2.2.1 (Or.inl hs.1)
  have hm := SR_le _ _ _ hc.2.2.2.2.1
  have hc2 := Cg_split hc hz hs ok2
  have hph := ph_lt hs.2.2.2.1 (by have := hs.2.2.2.2.2.2.1; omega)
  obtain ⟨fC, fM, r1, r2, r3⟩ := ih mo1 i1 he st (m + 1) G _ (w + 1) H _ _ ok1 hc2 hst hM
  exact ⟨by omega, fC, fM, CR_step (cs_split S hs hw) r1 (by omega), r2, r3⟩
theorem sim_end (S : Sta L ρ μ ν p pt l k s en γ) (ih : Sim L ρ μ ν p pt l k s en γ bl mt M) {e i m w st : Nat} {he : Int} {G C H W P : Nat → Int} (ok : okN (txOf ν pt en) γ 0 i) (hE : isE (tA ν pt) i = 1) (hr : γ.rk (γ.sq i) ≤ γ.rk e) (hc : Cg (codOf μ p) (txOf ν pt en) γ bl (μ l 1) e he m G C w H W P) (hst : (st : Int) ≤ μ 32 0) (hM : 65 * (301 - st) + γ.ps (txOf ν pt en) 0 i + 1 ≤ M + 1) (hen : ENc (codOf μ p) (txOf ν pt en) γ i e) :
    ∃ fC fM, CR L ρ μ p l s (42 * (301 - st) + γ.ph e + 1) st (e : Int) he w H W P fC ∧ MR L ρ ν pt k mt (65 * (301 - st) + γ.ps (txOf ν pt en) 0 i + 1) 0 i he st m G C fM ∧ Out μ ν bl (μ l 1) fC fM := by
  obtain ⟨hz, hpu, h24, hn, h22, rm, b0, b3⟩ := S.z
  have hi := (S.lc ok.1).2
  obtain ⟨ho, h9, hez⟩ | ⟨o, g, ho, hon, hoE, hV, hgo, hg3, hge, haf⟩ := hen
  · obtain ⟨c1, c2, c3, c4, c5, c6, c7⟩ := hc
    refine ⟨SM μ st 0 e he 1 w H W P, MM ν st 0 he m G C, CR_end (cs_match S h9 hez) (by omega), ?_, ?_⟩
    · intro N x hx hN
      obtain ⟨N, rfl⟩ : ∃ k, N = k + 1 + 1 := ⟨N - 2, by omega⟩
      refine (mt_end rm (by omega) h22 hn hi hE ho).trans ?_
      exact mt_done (by omega)
    · exact ⟨st, 0, e, he, 1, w, H, W, P, he, m, G, C, rfl, rfl, by omega, hst, Or.inl ⟨rfl, rfl, rfl, c1.2, c2, c3, c4⟩⟩
  · have hw := Cg_499 hc h24 hpu hz (by have := hge.2.2.2; omega) (Or.inr hge.1)
    have hc2 := Cg_edge (g := 2 * g + 1) hc hz (by omega) hge
    have hph := ph_lt hge.2.2.1 (by have := hge.2.2.2; omega)
    have hnd : γ.nd 2 o = e + 1 := haf
    have ok2 : okN (txOf ν pt en) γ 2 o := ⟨hV, Or.inr (Or.inl ⟨Or.inr rfl, hoE⟩)⟩
    have ho2 := (S.lc hV).2
    have hps := ps_lt ok ok2 ho2 (ndr_lt (by rw [hnd]; show γ.rk (γ.sq i) < _; have := hge.2.2.1; omega))
    rw [← hnd] at hc2 hph
    obtain ⟨fC, fM, r1, r2, r3⟩ := ih 2 o he st m _ C (w + 1) _ _ _ ok2 hc2 hst (by omega)
    have hcs := cs_edge (st := st) (he := he) (H := H) (W := W) (P := P) S hge (by omega) hw
    rw [← hnd] at hcs
    refine ⟨fC, fM, CR_step hcs r1 (by omega), ?_, r3⟩
    exact MR_turn (fun n x hx => mt_close rm hx h22 hn hi hE ho ho2 hgo hg3) r2 (by omega)
theorem sim_seq (S : Sta L ρ μ ν p pt l k s en γ) (ih : Sim L ρ μ ν p pt l k s en γ bl mt M) {i m w st : Nat} {he : Int} {G C H W P : Nat → Int} (ok : okN (txOf ν pt en) γ 0 i) (hc : Cg (codOf μ p) (txOf ν pt en) γ bl (μ l 1) (γ.nd 0 i) he m G C w H W P) (hst : (st : Int) ≤ μ 32 0) (hM : 65 * (301 - st) + γ.ps (txOf ν pt en) 0 i + 1 ≤ M + 1) :
    ∃ fC fM, CR L ρ μ p l s (42 * (301 - st) + γ.ph (γ.nd 0 i) + 1) st (γ.nd 0 i : Nat) he w H W P fC ∧ MR L ρ ν pt k mt (65 * (301 - st) + γ.ps (txOf ν pt en) 0 i + 1) 0 i he st m G C fM ∧ Out μ ν bl (μ l 1) fC fM := by
  obtain ⟨hz, hpu, h24, hn, h22, rm, b0, b3⟩ := S.z
  obtain ⟨⟨hin, hsz, hL⟩, hi⟩ := S.lc ok.1
  obtain ⟨hE, ⟨e, he1, hen⟩, -⟩ | ⟨hE, hin2, -, -, ⟨r, hpe, hVr, hq⟩, -⟩ := hL
  · obtain ⟨-, hj⟩ | ⟨-, hj⟩ := he1
    · have hr := hj.2.2.1
      obtain ⟨fC, fM, r1, r2, r3⟩ := sim_end S ih ok hE (by omega) (Cg_up hc (y := e) (by show γ.rk (γ.sq i) ≤ _; omega)) hst hM hen
      have hph := ph_lt hr (by have := hj.2.2.2.2; omega)
      exact ⟨fC, fM, CR_step (cs_jump S hj) r1 (by show _ ≤ 42 * (301 - st) + γ.ph (γ.sq i) + 1; omega), r2, r3⟩
    · subst hj
      exact sim_end S ih ok hE (Int.le_refl _) hc hst hM hen
  · have ok1 : okN (txOf ν pt en) γ 1 i := ⟨ok.1, Or.inr (Or.inl ⟨Or.inl rfl, hE⟩)⟩
    have okr : okN (txOf ν pt en) γ 0 r := ⟨hVr, Or.inl rfl⟩
    have hr20 := (S.lc hVr).2
    have same : γ.ta i = γ.sq i → (ν 241 (21 * pt + i) = 0 ∨ ν 241 (21 * pt + i) = 2 ∨ ν 241 (21 * pt + i) = 6) → ∃ fC fM, CR L ρ μ p l s (42 * (301 - st) + γ.ph (γ.nd 0 i) + 1) st (γ.nd 0 i : Nat) he w H W P fC ∧ MR L ρ ν pt k mt (65 * (301 - st) + γ.ps (txOf ν pt en) 0 i + 1) 0 i he st m G C fM ∧ Out μ ν bl (μ l 1) fC fM := by
      intro hs hq
      have hnd : γ.nd 1 i = γ.nd 0 i := hs
      have hps := ps_lt ok ok1 hi (by unfold ndr; rw [hnd]; rw [if_pos rfl, if_neg (by decide), if_pos rfl]; omega)
      rw [← hnd] at hc
      obtain ⟨fC, fM, r1, r2, r3⟩ := ih 1 i he st m G C w H W P ok1 hc hst (by omega)
      rw [hnd] at r1
      exact ⟨fC, fM, r1, MR_turn (fun n x hx => mt_seq1 rm hx h22 hn hi hE hq) r2 (by omega), r3⟩
    have greedy : SPc (codOf μ p) γ (γ.sq i) (γ.ta i) (γ.sq r) → (ν 241 (21 * pt + i) = 1 ∨ ν 241 (21 * pt + i) = 3) → ∃ fC fM, CR L ρ μ p l s (42 * (301 - st) + γ.ph (γ.nd 0 i) + 1) st (γ.nd 0 i : Nat) he w H W P fC ∧ MR L ρ ν pt k mt (65 * (301 - st) + γ.ps (txOf ν pt en) 0 i + 1) 0 i he st m G C fM ∧ Out μ ν bl (μ l 1) fC fM := by
      intro hs hq
      have hps := ps_lt ok ok1 hi (ndr_lt hs.2.2.2.1)
      obtain ⟨hm, fC, fM, r1, r2, r3⟩ := sim_split (mo1 := 1) (i1 := i) (mo2 := 0) (i2 := r) S ih hc hst hs ok1 okr (by omega)
      refine ⟨fC, fM, r1, MR_turn (fun n x hx => ?_) r2 (by omega), r3⟩
      refine (mt_seq2 (m := m) rm hx h22 hn hi hE hm hpe rfl (by omega)).trans ?_
      rw [if_pos (by omega)]
      rfl
    have lazy : SPc (codOf μ p) γ (γ.sq i) (γ.sq r) (γ.ta i) → (ν 241 (21 * pt + i) = 5 ∨ ν 241 (21 * pt + i) = 7) → ∃ fC fM, CR L ρ μ p l s (42 * (301 - st) + γ.ph (γ.nd 0 i) + 1) st (γ.nd 0 i : Nat) he w H W P fC ∧ MR L ρ ν pt k mt (65 * (301 - st) + γ.ps (txOf ν pt en) 0 i + 1) 0 i he st m G C fM ∧ Out μ ν bl (μ l 1) fC fM := by
      intro hs hq
      have hps := ps_lt ok okr hr20 (ndr_lt hs.2.2.2.1)
      obtain ⟨hm, fC, fM, r1, r2, r3⟩ := sim_split (mo1 := 0) (i1 := r) (mo2 := 1) (i2 := i) S ih hc hst hs okr ok1 (by omega)
      refine ⟨fC, fM, r1, MR_turn (fun n x hx => ?_) r2 (by omega), r3⟩
      refine (mt_seq2 (m := m) rm hx h22 hn hi hE hm hpe rfl (by omega)).trans ?_
      rw [if_neg (by omega)]
      rfl
    obtain ⟨q, h1, -⟩ | ⟨q, h1, -⟩ | ⟨q, h1, -⟩ | ⟨q, h1, -⟩ | ⟨q, h1, -⟩ | ⟨q, h1, -⟩ | ⟨q, h1, -⟩ := hq
    · exact same h1 (Or.inl q)
    · exact greedy h1 (Or.inl q)
    · exact lazy h1 (Or.inl q)
    · exact same h1 (Or.inr (Or.inl q))
    · exact same h1 (Or.inr (Or.inr q))
    · exact greedy h1 (Or.inr q)
    · exact lazy h1 (Or.inr q)
end Sims2
