section Sims3
variable {L : Nat} {ρ : Nat → Nat → Nat} {μ ν : Nat → Nat → Int} {p pt l k s : Nat} {en : Bool} {γ : Gh} {bl mt : Int} {M : Nat}
theorem sim_aft (S : Sta L ρ μ ν p pt l k s en γ) (ih : Sim L ρ μ ν p pt l k s en γ bl mt M) {i m w st : Nat} {he : Int} {G C H W P : Nat → Int} (ok : okN (txOf ν pt en) γ 2 i) (hE : isE (tA ν pt) i = 0) (hc : Cg (codOf μ p) (txOf ν pt en) γ bl (μ l 1) (γ.nd 2 i) he m G C w H W P) (hst : (st : Int) ≤ μ 32 0) (hM : 65 * (301 - st) + γ.ps (txOf ν pt en) 2 i + 1 ≤ M + 1) :
    ∃ fC fM, CR L ρ μ p l s (42 * (301 - st) + γ.ph (γ.nd 2 i) + 1) st (γ.nd 2 i : Nat) he w H W P fC ∧ MR L ρ ν pt k mt (65 * (301 - st) + γ.ps (txOf ν pt en) 2 i + 1) 2 i he st m G C fM ∧ Out μ ν bl (μ l 1) fC fM := by
  obtain ⟨hz, hpu, h24, hn, h22, rm, b0, b3⟩ := S.z
  obtain ⟨⟨hin, hsz, hL⟩, hi⟩ := S.lc ok.1
  obtain ⟨hE', -⟩ | ⟨-, hin2, -, -, ⟨r, hpe, hVr, hq⟩, -⟩ := hL
  · exact absurd (hE'.symm.trans hE) (by decide)
  have ok1 : okN (txOf ν pt en) γ 1 i := ⟨ok.1, Or.inr (Or.inl ⟨Or.inl rfl, hE⟩)⟩
  have okr : okN (txOf ν pt en) γ 0 r := ⟨hVr, Or.inl rfl⟩
  have hr20 := (S.lc hVr).2
  have same : γ.af i = γ.sq r → (ν 241 (21 * pt + i) = 0 ∨ ν 241 (21 * pt + i) = 3 ∨ ν 241 (21 * pt + i) = 7) → ∃ fC fM, CR L ρ μ p l s (42 * (301 - st) + γ.ph (γ.nd 2 i) + 1) st (γ.nd 2 i : Nat) he w H W P fC ∧ MR L ρ ν pt k mt (65 * (301 - st) + γ.ps (txOf ν pt en) 2 i + 1) 2 i he st m G C fM ∧ Out μ ν bl (μ l 1) fC fM := by
    intro hs hq
    have hnd : γ.nd 0 r = γ.nd 2 i := hs.symm
    have hps := ps_lt ok okr hr20 (by unfold ndr; rw [hnd]; rw [if_neg (show ¬ (2 : Nat) = 0 by decide), if_neg (show ¬ (2 : Nat) = 1 by decide), if_pos (show (0 : Nat) = 0 from rfl)]; omega)
    rw [← hnd] at hc
    obtain ⟨fC, fM, r1, r2, r3⟩ := ih 0 r he st m G C w H W P okr hc hst (by omega)
    rw [hnd] at r1
    exact ⟨fC, fM, r1, MR_turn (fun n x hx => mt_aft0 rm hx h22 hi hpe hq) r2 (by omega), r3⟩
  have greedy : ∀ {x : Nat}, Cg (codOf μ p) (txOf ν pt en) γ bl (μ l 1) x he m G C w H W P → γ.rk (γ.af i) ≤ γ.rk x → SPc (codOf μ p) γ x (γ.ta i) (γ.sq r) → (ν 241 (21 * pt + i) = 1 ∨ ν 241 (21 * pt + i) = 2) → ∃ fC fM, CR L ρ μ p l s (42 * (301 - st) + γ.ph x + 1) st (x : Int) he w H W P fC ∧ MR L ρ ν pt k mt (65 * (301 - st) + γ.ps (txOf ν pt en) 2 i + 1) 2 i he st m G C fM ∧ Out μ ν bl (μ l 1) fC fM := by
    intro x hc hx hs hq
    have hps := ps_lt ok ok1 hi (ndr_lt (by show γ.rk (γ.af i) < γ.rk (γ.ta i); have := hs.2.2.2.1; omega))
    obtain ⟨hm, fC, fM, r1, r2, r3⟩ := sim_split (mo1 := 1) (i1 := i) (mo2 := 0) (i2 := r) S ih hc hst hs ok1 okr (by omega)
    refine ⟨fC, fM, r1, MR_turn (fun n x hx => ?_) r2 (by omega), r3⟩
    refine (mt_aft2 (m := m) rm hx h22 hi hm hpe rfl (by omega)).trans ?_
    rw [if_pos (by omega)]
    rfl
  have lazy : ∀ {x : Nat}, Cg (codOf μ p) (txOf ν pt en) γ bl (μ l 1) x he m G C w H W P → γ.rk (γ.af i) ≤ γ.rk x → SPc (codOf μ p) γ x (γ.sq r) (γ.ta i) → (ν 241 (21 * pt + i) = 5 ∨ ν 241 (21 * pt + i) = 6) → ∃ fC fM, CR L ρ μ p l s (42 * (301 - st) + γ.ph x + 1) st (x : Int) he w H W P fC ∧ MR L ρ ν pt k mt (65 * (301 - st) + γ.ps (txOf ν pt en) 2 i + 1) 2 i he st m G C fM ∧ Out μ ν bl (μ l 1) fC fM := by
    intro x hc hx hs hq
    have hps := ps_lt ok okr hr20 (ndr_lt (by show γ.rk (γ.af i) < γ.rk (γ.sq r); have := hs.2.2.2.1; omega))
    obtain ⟨hm, fC, fM, r1, r2, r3⟩ := sim_split (mo1 := 0) (i1 := r) (mo2 := 1) (i2 := i) S ih hc hst hs okr ok1 (by omega)
    refine ⟨fC, fM, r1, MR_turn (fun n x hx => ?_) r2 (by omega), r3⟩
    refine (mt_aft2 (m := m) rm hx h22 hi hm hpe rfl (by omega)).trans ?_
    rw [if_neg (by omega)]
    rfl
  obtain ⟨q, -, h1⟩ | ⟨q, h1, hj⟩ | ⟨q, h1, hj⟩ | ⟨q, -, h1⟩ | ⟨q, -, h1⟩ | ⟨q, -, h1⟩ | ⟨q, -, h1⟩ := hq
  · exact same h1 (Or.inl q)
  · have hr := hj.2.2.1
    obtain ⟨fC, fM, r1, r2, r3⟩ := greedy (Cg_up hc (y := γ.sq i) (by show γ.rk (γ.af i) ≤ _; omega)) (by omega) h1 (Or.inl q)
    have hph := ph_lt hr (by have := hj.2.2.2.2; omega)
    exact ⟨fC, fM, CR_step (cs_jump S hj) r1 (by show _ ≤ 42 * (301 - st) + γ.ph (γ.af i) + 1; omega), r2, r3⟩
  · have hr := hj.2.2.1
    obtain ⟨fC, fM, r1, r2, r3⟩ := lazy (Cg_up hc (y := γ.sq i) (by show γ.rk (γ.af i) ≤ _; omega)) (by omega) h1 (Or.inl q)
    have hph := ph_lt hr (by have := hj.2.2.2.2; omega)
    exact ⟨fC, fM, CR_step (cs_jump S hj) r1 (by show _ ≤ 42 * (301 - st) + γ.ph (γ.af i) + 1; omega), r2, r3⟩
  · exact greedy hc (Int.le_refl _) h1 (Or.inr q)
  · exact lazy hc (Int.le_refl _) h1 (Or.inr q)
  · exact same h1 (Or.inr (Or.inl q))
  · exact same h1 (Or.inr (Or.inr q))
/-- into a branch that begins at j, from the node (mo, i) whose turn leads there -/
theorem sim_into (S : Sta L ρ μ ν p pt l k s en γ) (ih : Sim L ρ μ ν p pt l k s en γ bl mt M) {j m w st D : Nat} {he nb : Int} {G C H W P : Nat → Int} (hb : BRc (codOf μ p) (txOf ν pt en) γ j nb) (hc : Cg (codOf μ p) (txOf ν pt en) γ bl (μ l 1) (γ.bs j) he m G C w H W P) (hst : (st : Int) ≤ μ 32 0) (hD : 65 * (301 - st) + D ≤ M) (hps : γ.ps (txOf ν pt en) 0 j + 1 ≤ D) :
    m < 622 ∧ ∃ fC fM, CR L ρ μ p l s (42 * (301 - st) + γ.ph (γ.bs j) + 1) st (γ.bs j : Nat) he w H W P fC ∧ ((nb < 0 ∧ MR L ρ ν pt k mt (65 * (301 - st) + D) 0 j he st m G C fM) ∨ (¬ nb < 0 ∧ MR L ρ ν pt k mt (65 * (301 - st) + D) 0 j he st (m + 1) G (psC C G m 3 nb he) fM)) ∧ Out μ ν bl (μ l 1) fC fM := by
  obtain ⟨hz, hpu, h24, hn, h22, rm, b0, b3⟩ := S.z
  obtain ⟨hV, hbz, hsz, h⟩ := hb
  have ok : okN (txOf ν pt en) γ 0 j := ⟨hV, Or.inl rfl⟩
  have hm := SR_le _ _ _ hc.2.2.2.2.1
  have h500 := (Cg_500 hc h24 hpu).1
  obtain ⟨hn0, he1⟩ | ⟨y, hy, hyn, hyc, hyV, hs⟩ := h
  · have hnd : γ.nd 0 j = γ.bs j := he1
    rw [← hnd] at hc
    obtain ⟨fC, fM, r1, r2, r3⟩ := ih 0 j he st m G C w H W P ok hc hst (by omega)
    rw [hnd] at r1
    exact ⟨by omega, fC, fM, r1, Or.inl ⟨hn0, fun N x hx hN => r2 N x (by omega) (by omega)⟩, r3⟩
  · have ok3 : okN (txOf ν pt en) γ 3 y := ⟨hyV, Or.inr (Or.inr ⟨rfl, hyc⟩)⟩
    obtain ⟨hm, fC, fM, r1, r2, r3⟩ := sim_split (mo1 := 0) (i1 := j) (mo2 := 3) (i2 := y) S ih hc hst hs ok ok3 (by omega)
    subst hy
    exact ⟨hm, fC, fM, r1, Or.inr ⟨by omega, fun N x hx hN => r2 N x (by omega) (by omega)⟩, r3⟩
theorem BRc.rk {κ : Cod} {τ : Tx} {γ : Gh} {j : Nat} {nb : Int} (h : BRc κ τ γ j nb) : γ.rk (γ.bs j) ≤ γ.rk (γ.sq j) := by
  obtain ⟨-, -, -, ⟨-, h⟩ | ⟨y, -, -, -, -, h⟩⟩ := h
  · rw [h]; exact Int.le_refl _
  · have := h.2.2.2.1
    omega
theorem sim_br (S : Sta L ρ μ ν p pt l k s en γ) (ih : Sim L ρ μ ν p pt l k s en γ bl mt M) {i m w st : Nat} {he : Int} {G C H W P : Nat → Int} (ok : okN (txOf ν pt en) γ 3 i) (hci : tA ν pt i = 124) (hc : Cg (codOf μ p) (txOf ν pt en) γ bl (μ l 1) (γ.nd 3 i) he m G C w H W P) (hst : (st : Int) ≤ μ 32 0) (hM : 65 * (301 - st) + γ.ps (txOf ν pt en) 3 i + 1 ≤ M + 1) :
    ∃ fC fM, CR L ρ μ p l s (42 * (301 - st) + γ.ph (γ.nd 3 i) + 1) st (γ.nd 3 i : Nat) he w H W P fC ∧ MR L ρ ν pt k mt (65 * (301 - st) + γ.ps (txOf ν pt en) 3 i + 1) 3 i he st m G C fM ∧ Out μ ν bl (μ l 1) fC fM := by
  obtain ⟨hz, hpu, h24, hn, h22, rm, b0, b3⟩ := S.z
  obtain ⟨⟨hin, hsz, hL⟩, hi⟩ := S.lc ok.1
  obtain ⟨-, -, hb⟩ | ⟨hE, -⟩ := hL
  · have hb := hb hci
    have oks : okN (txOf ν pt en) γ 0 (i + 1) := ⟨hb.1, Or.inl rfl⟩
    have hi1 := (S.lc hb.1).2
    have hrk := hb.rk
    have hps := ps_lt ok oks hi1 (by
      unfold ndr
      rw [if_neg (show ¬ (3 : Nat) = 0 by decide), if_neg (show ¬ (3 : Nat) = 1 by decide), if_pos (show (0 : Nat) = 0 from rfl)]
      show 3 * γ.rk (γ.bs (i + 1)) + 0 < 3 * γ.rk (γ.sq (i + 1)) + 1
      omega)
    obtain ⟨hm, fC, fM, r1, r2, r3⟩ := sim_into (D := γ.ps (txOf ν pt en) 3 i) S ih hb hc hst (by omega) hps
    refine ⟨fC, fM, r1, ?_, r3⟩
    obtain ⟨h0, r2⟩ | ⟨h0, r2⟩ := r2
    · refine MR_turn (fun n x hx => ?_) r2 (by omega)
      refine (mt_branch (m := m) rm hx h22 hi hm rfl).trans ?_
      rw [if_pos h0]
      rfl
    · refine MR_turn (fun n x hx => ?_) r2 (by omega)
      refine (mt_branch (m := m) rm hx h22 hi hm rfl).trans ?_
      rw [if_neg h0]
      rfl
  · exact absurd hci (isE_124 hE)
theorem sim_group (S : Sta L ρ μ ν p pt l k s en γ) (ih : Sim L ρ μ ν p pt l k s en γ bl mt M) {i m w st : Nat} {he : Int} {G C H W P : Nat → Int} (ok : okN (txOf ν pt en) γ 1 i) (hci : tA ν pt i = 40) (hg : GRc (codOf μ p) (txOf ν pt en) γ i) (hc : Cg (codOf μ p) (txOf ν pt en) γ bl (μ l 1) (γ.nd 1 i) he m G C w H W P) (hst : (st : Int) ≤ μ 32 0) (hM : 65 * (301 - st) + γ.ps (txOf ν pt en) 1 i + 1 ≤ M + 1) :
    ∃ fC fM, CR L ρ μ p l s (42 * (301 - st) + γ.ph (γ.nd 1 i) + 1) st (γ.nd 1 i : Nat) he w H W P fC ∧ MR L ρ ν pt k mt (65 * (301 - st) + γ.ps (txOf ν pt en) 1 i + 1) 1 i he st m G C fM ∧ Out μ ν bl (μ l 1) fC fM := by
  obtain ⟨hz, hpu, h24, hn, h22, rm, b0, b3⟩ := S.z
  have hi := (S.lc ok.1).2
  obtain ⟨g, hgo, hg3, hge, hbs, hb⟩ := hg
  have hw := Cg_499 hc h24 hpu hz (by have := hge.2.2.2; show γ.ta i < _; omega) (Or.inr hge.1)
  have hc2 := Cg_edge (g := 2 * g) hc hz (by omega) hge
  have hph := ph_lt hge.2.2.1 (by have := hge.2.2.2; omega)
  have oks : okN (txOf ν pt en) γ 0 (i + 1) := ⟨hb.1, Or.inl rfl⟩
  have hi1 := (S.lc hb.1).2
  have hrk := hb.rk
  have hps := ps_lt ok oks hi1 (ndr_lt (by show γ.rk (γ.ta i) < γ.rk (γ.sq (i + 1)); have := hge.2.2.1; rw [hbs] at hrk; omega))
  have hcs := cs_edge (st := st) (he := he) (H := H) (W := W) (P := P) S hge (by omega) hw
  change Cg (codOf μ p) (txOf ν pt en) γ bl (μ l 1) (γ.ta i + 1) he m _ C (w + 1) _ _ _ at hc2
  rw [← hbs] at hc2 hph hcs
  obtain ⟨hm, fC, fM, r1, r2, r3⟩ := sim_into (D := γ.ps (txOf ν pt en) 1 i) S ih hb hc2 hst (by omega) hps
  refine ⟨fC, fM, CR_step hcs r1 (by show _ ≤ 42 * (301 - st) + γ.ph (γ.ta i) + 1; omega), ?_, r3⟩
  obtain ⟨h0, r2⟩ | ⟨h0, r2⟩ := r2
  · refine MR_turn (fun n x hx => ?_) r2 (by omega)
    refine (mt_group (m := m) rm hx h22 hn hi hci hm hgo hg3 rfl).trans ?_
    rw [if_pos h0]
    rfl
  · refine MR_turn (fun n x hx => ?_) r2 (by omega)
    refine (mt_group (m := m) rm hx h22 hn hi hci hm hgo hg3 rfl).trans ?_
    rw [if_neg h0]
    rfl
end Sims3
