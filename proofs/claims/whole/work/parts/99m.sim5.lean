theorem mA_congr {c : Nat → Int} {i a : Nat} {len he : Int} {tx tx' : Nat → Int} (h : he < len → tx he.toNat = tx' he.toNat) : mA c i a len tx he = mA c i a len tx' he := by
  unfold mA
  by_cases hh : he < len
  · rw [h hh]
  · rw [if_neg hh, if_neg hh]
theorem tF_congr {bud len : Int} {tx tx' rt rt' : Nat → Int} : ∀ (n : Nat) (st he : Int) (i : Nat), 0 ≤ he → (∀ c : Nat, (c : Int) < len → tx c = tx' c) → (∀ j, i ≤ j → j < i + n → rt j = rt' j) → tF bud len tx rt n st he i = tF bud len tx' rt' n st he i := by
  intro n
  induction n with
  | zero => intro st he i _ _ _; rfl
  | succ n ih =>
    intro st he i h0 ht hr
    unfold tF
    by_cases hb : st = bud
    · rw [if_pos hb, if_pos hb]
    rw [if_neg hb, if_neg hb]
    by_cases hl : len ≤ he
    · rw [if_pos hl, if_pos hl]
    rw [if_neg hl, if_neg hl, ht he.toNat (by omega), hr i (by omega) (by omega), ih (st + 1) (he + 1) (i + 1) (by omega) ht (fun j h1 h2 => hr j (by omega) (by omega))]
theorem tF_spec {bud len : Int} {tx rt : Nat → Int} : ∀ (n st : Nat) (he : Int) (i : Nat), (st : Int) ≤ bud → 0 ≤ he → he ≤ len → ∃ st2 : Nat, (tF bud len tx rt n st he i = (1, (st2 : Int), 0, he + n) ∧ st2 = st + n ∧ he + n ≤ len ∧ (st2 : Int) ≤ bud) ∨ (∃ h2, tF bud len tx rt n st he i = (0, (st2 : Int), 1, h2) ∧ (st2 : Int) = bud) ∨ (∃ h2, tF bud len tx rt n st he i = (0, (st2 : Int), 0, h2) ∧ st + 1 ≤ st2 ∧ (st2 : Int) ≤ bud) := by
  intro n
  induction n with
  | zero =>
    intro st he i h1 h2 h3
    refine ⟨st, Or.inl ⟨?_, rfl, by omega, h1⟩⟩
    unfold tF
    rw [show he + ((0 : Nat) : Int) = he by omega]
  | succ n ih =>
    intro st he i h1 h2 h3
    unfold tF
    by_cases hb : (st : Int) = bud
    · exact ⟨st, Or.inr (Or.inl ⟨he + 1, by rw [if_pos hb], hb⟩)⟩
    rw [if_neg hb]
    by_cases hl : len ≤ he
    · exact ⟨st + 1, Or.inr (Or.inr ⟨he + 1, by rw [if_pos hl]; rfl, by omega, by omega⟩)⟩
    rw [if_neg hl]
    by_cases hm : tx he.toNat = rt i
    · rw [if_pos hm]
      obtain ⟨st2, h⟩ := ih (st + 1) (he + 1) (i + 1) (by omega) (by omega) (by omega)
      rw [show ((st + 1 : Nat) : Int) = (st : Int) + 1 by omega] at h
      obtain ⟨e1, e2, e3, e4⟩ | ⟨h2, e1, e2⟩ | ⟨h2, e1, e2, e3⟩ := h
      · refine ⟨st2, Or.inl ⟨?_, by omega, by omega, e4⟩⟩
        rw [e1, show he + 1 + (n : Int) = he + ((n + 1 : Nat) : Int) by omega]
      · exact ⟨st2, Or.inr (Or.inl ⟨h2, e1, e2⟩)⟩
      · exact ⟨st2, Or.inr (Or.inr ⟨h2, e1, by omega, e3⟩)⟩
    · rw [if_neg hm]
      exact ⟨st + 1, Or.inr (Or.inr ⟨he + 1, rfl, by omega, by omega⟩)⟩
section Sims4
variable {L : Nat} {ρ : Nat → Nat → Nat} {μ ν : Nat → Nat → Int} {p pt l k s : Nat} {en : Bool} {γ : Gh} {bl mt : Int} {M : Nat}
/-- the atom doesn't fit: steps st before, st2 behind -/
theorem sim_fail (S : Sta L ρ μ ν p pt l k s en γ) (ih : Sim L ρ μ ν p pt l k s en γ bl mt M) {x i m w st st2 : Nat} {he h2 nx : Int} {G C H W P : Nat → Int} (hc : Cg (codOf μ p) (txOf ν pt en) γ bl (μ l 1) x he m G C w H W P) (hst : st < st2) (hst2 : (st2 : Int) ≤ μ 32 0) {cm mm : Nat} (hM : 65 * (301 - st) ≤ M) (hcm : 42 * (301 - st) + 1 ≤ cm) (hmm : 65 * (301 - st) + 1 ≤ mm) (hd : f_Se_doNext 32 p l s (SH L, ρ, SM μ st 0 (x : Nat) he 0 w H W P) = dnR L ρ μ st2 0 nx h2 0 w H W P 0) (ht : ∀ n y : Nat, y < 20000 → f_Mo_match_63 (n + 1) 233 pt k he i ((1 : Nat) : Int) y (SH L, ρ, MM ν st 0 mt m G C) = f_Mo_match_63 n 233 pt k he i ((4 : Nat) : Int) ((y + 1 : Nat) : Int) (SH L, ρ, MM ν st2 0 mt m G C)) :
    ∃ fC fM, CR L ρ μ p l s cm st (x : Nat) he w H W P fC ∧ MR L ρ ν pt k mt mm 1 i he st m G C fM ∧ Out μ ν bl (μ l 1) fC fM := by
  obtain ⟨hz, hpu, h24, hn, h22, rm, b0, b3⟩ := S.z
  obtain ⟨fC, fM, r1, r2, r3⟩ := sim_back (nx := nx + 1) S ih hc hst2 (by omega) h2 i
  refine ⟨fC, fM, ?_, MR_turn ht r2 (by omega), r3⟩
  have hd2 : f_Se_doNext 32 p l s (SH L, ρ, SM μ st 0 (x : Nat) he 0 w H W P) = gbR L ρ μ st2 0 (nx + 1) h2 0 W P (gb W P w H) := by
    rw [hd]
    unfold dnR
    rw [if_pos rfl, if_pos rfl]
  obtain r1 | ⟨nx', he', w', H', r1, r1'⟩ := r1
  · exact CR_end (hd2.trans r1) (by omega)
  · exact CR_step (hd2.trans r1) r1' (by omega)
/-- no STEP is left -/
theorem sim_over (S : Sta L ρ μ ν p pt l k s en γ) {x i m w st st2 : Nat} {he h2 nx : Int} {G C H W P : Nat → Int} (hst2 : (st2 : Int) ≤ μ 32 0) {cm mm : Nat} (hcm : 1 ≤ cm) (hmm : 2 ≤ mm) (hd : f_Se_doNext 32 p l s (SH L, ρ, SM μ st 0 (x : Nat) he 0 w H W P) = some (0, (SH L, ρ, SM μ st2 1 nx h2 0 w H W P))) (ht : ∀ n y : Nat, y < 20000 → f_Mo_match_63 (n + 1) 233 pt k he i ((1 : Nat) : Int) y (SH L, ρ, MM ν st 0 mt m G C) = f_Mo_match_63 n 233 pt k he i 4 ((y + 1 : Nat) : Int) (SH L, ρ, MM ν st2 1 mt m G C)) :
    ∃ fC fM, CR L ρ μ p l s cm st (x : Nat) he w H W P fC ∧ MR L ρ ν pt k mt mm 1 i he st m G C fM ∧ Out μ ν bl (μ l 1) fC fM := by
  refine ⟨_, MM ν st2 1 (-1) m G C, CR_end hd hcm, ?_, ?_⟩
  · intro N y hy hN
    obtain ⟨N, rfl⟩ : ∃ k, N = k + 1 + 1 := ⟨N - 2, by omega⟩
    rw [ht (N + 1) y (by omega)]
    exact mt_stop (by omega) (Or.inr rfl)
  · exact ⟨st2, 1, nx, h2, 0, w, H, W, P, -1, m, G, C, rfl, rfl, by omega, hst2, Or.inr ⟨rfl, rfl, Or.inr rfl⟩⟩
theorem sim_step (S : Sta L ρ μ ν p pt l k s en γ) (ih : Sim L ρ μ ν p pt l k s en γ bl mt M) {i m w st : Nat} {he : Int} {G C H W P : Nat → Int} (ok : okN (txOf ν pt en) γ 1 i) (hci : tA ν pt i ≠ 40) (hE : isE (tA ν pt) i = 0) (hg : AMc (codOf μ p) (txOf ν pt en) γ i) (htz : γ.ta i < γ.z) (hc : Cg (codOf μ p) (txOf ν pt en) γ bl (μ l 1) (γ.nd 1 i) he m G C w H W P) (hst : (st : Int) ≤ μ 32 0) (hM : 65 * (301 - st) + γ.ps (txOf ν pt en) 1 i + 1 ≤ M + 1) :
    ∃ fC fM, CR L ρ μ p l s (42 * (301 - st) + γ.ph (γ.nd 1 i) + 1) st (γ.nd 1 i : Nat) he w H W P fC ∧ MR L ρ ν pt k mt (65 * (301 - st) + γ.ps (txOf ν pt en) 1 i + 1) 1 i he st m G C fM ∧ Out μ ν bl (μ l 1) fC fM := by
  obtain ⟨hz, hpu, h24, hn, h22, rm, b0, b3⟩ := S.z
  obtain ⟨⟨rc, -⟩, ⟨hp, pr, hp6⟩, ⟨hl, lr, hl6⟩, ⟨hs, sr, hs3, so⟩, ⟨-, hk⟩, ⟨hlo, hlen, htx⟩, ⟨-, -, hbud⟩, -, href⟩ := id S
  have hi := (S.lc ok.1).2
  obtain ⟨h500, hwk⟩ := Cg_500 hc h24 hpu
  have ok2 : okN (txOf ν pt en) γ 2 i := ⟨ok.1, Or.inr (Or.inl ⟨Or.inr rfl, hE⟩)⟩
  have hps2 := ps_63 (τ := txOf ν pt en) (γ := γ) 2 i
  have hph2 := ph_40 (γ := γ) (γ.nd 2 i)
  obtain ⟨haf, hA⟩ := hg
  have hnd2 : γ.nd 2 i = γ.ta i + 1 := haf
  obtain ⟨c1, c2, c3⟩ := id hc
  obtain ⟨hR, hen, hop, hrk, t, ht2, hct, hft⟩ | ⟨hR, ho0, ho5, hof, hrk, a, hae, ha0, ha1, hA⟩ := hA
  · obtain ⟨hr24, hrn, hrc⟩ := href hen t ht2
    have hcls := fun (r : Int × Int × Int × Int) (hr : tF (μ 32 0) (μ l 1) (μ (l + 1)) (rtC μ s (1 + t)) (rtN μ s (1 + t)) st he 0 = r) => dn_text (G := H) (W := W) (P := P) (mt := 0) (nx := (γ.ta i : Nat)) (w := w) rc hp pr hp6 hl lr hl6 hs sr hs3 so (by omega) (by omega) (f := 1 + t) (by rw [Int.toNat_natCast]; exact hop) (by rw [Int.toNat_natCast]; exact hft) (by omega) (by omega) (by omega) (by omega) h24 b3 (by omega) hst h500 hwk hr
    have hmod := fun (r : Int × Int × Int × Int) (hr : tF (ν 233 0) (ν 256 k) (fun c => ν 257 (24 * k + c)) (fun i => ν 255 (24 * t + i)) (ν 254 t).toNat st he 0 = r) => e_fitsR (L := L) (ρ := ρ) (μ := ν) (G := G) (C := C) (mt := mt) (nc := m) (he := he) rm h22 hn hk (by omega) hR ht2 hct hr24 (by omega) (by omega) (by omega) (by omega) (by omega) (by omega) hr
    have hcg : tF (ν 233 0) (ν 256 k) (fun c => ν 257 (24 * k + c)) (fun i => ν 255 (24 * t + i)) (ν 254 t).toNat st he 0 = tF (μ 32 0) (μ l 1) (μ (l + 1)) (rtC μ s (1 + t)) (rtN μ s (1 + t)) st he 0 := by
      rw [hbud, hlen, hrn]
      exact tF_congr _ _ _ 0 (by omega) (fun c hc => htx c hc) (fun j _ hj => hrc j (by omega))
    obtain ⟨st2, ⟨e1, e2, e3, e4⟩ | ⟨h2, e1, e2⟩ | ⟨h2, e1, e2, e3⟩⟩ := tF_spec (bud := μ 32 0) (len := μ l 1) (tx := μ (l + 1)) (rt := rtC μ s (1 + t)) (rtN μ s (1 + t)) st he 0 hst (by omega) c2
    · have hd := hcls _ e1
      have hf := hmod _ (hcg.trans e1)
      unfold dnR at hd
      rw [if_neg (show ¬ (1 : Int) = 0 by decide)] at hd
      rw [if_neg (show ¬ (1 : Int) = 0 by decide)] at hf
      rw [show ((γ.ta i : Nat) : Int) + 1 = (γ.nd 2 i : Nat) by rw [hnd2]; omega] at hd
      have hc2 : Cg (codOf μ p) (txOf ν pt en) γ bl (μ l 1) (γ.nd 2 i) (he + (rtN μ s (1 + t) : Nat)) m G C w H W P := by
        by_cases hz0 : rtN μ s (1 + t) = 0
        · rw [hz0, show he + ((0 : Nat) : Int) = he by omega]
          exact Cg_up hc (by rw [hnd2]; show γ.rk (γ.ta i) ≤ _; omega)
        · exact Cg_eat hc hpu (by omega) e3 _
      have hms : 65 * (301 - st2) + γ.ps (txOf ν pt en) 2 i + 1 ≤ 65 * (301 - st) + γ.ps (txOf ν pt en) 1 i := by
        by_cases hz0 : rtN μ s (1 + t) = 0
        · have := ps_lt ok ok2 hi (ndr_lt (by rw [hnd2]; exact hrk))
          omega
        · omega
      have hcs : 42 * (301 - st2) + γ.ph (γ.nd 2 i) + 1 ≤ 42 * (301 - st) + γ.ph (γ.nd 1 i) := by
        by_cases hz0 : rtN μ s (1 + t) = 0
        · have := ph_lt (x := γ.nd 1 i) (y := γ.nd 2 i) (by rw [hnd2]; exact hrk) (by have := ((S.lc ok.1).1).2.2; obtain ⟨h, -⟩ | ⟨-, -, -, h, -⟩ := this; exact absurd (h.symm.trans hE) (by decide); show γ.af i < 41; omega)
          omega
        · omega
      obtain ⟨fC, fM, r1, r2, r3⟩ := ih 2 i _ st2 m G C w H W P ok2 hc2 e4 (by omega)
      refine ⟨fC, fM, CR_step hd r1 (by omega), MR_turn (fun n y hy => ?_) r2 (by omega), r3⟩
      refine (mt_atom rm hy h22 hn hi hci hf).trans ?_
      rw [if_pos (show (0 : Int) ≤ he + (rtN μ s (1 + (t : Int)) : Nat) by omega)]
      rfl
    · have hd := hcls _ e1
      have hf := hmod _ (hcg.trans e1)
      unfold dnR at hd
      rw [if_pos rfl, if_neg (show ¬ (1 : Int) = 0 by decide)] at hd
      rw [if_pos rfl] at hf
      refine sim_over S (by omega) (by omega) (by omega) hd (fun n y hy => ?_)
      refine (mt_atom rm hy h22 hn hi hci hf).trans ?_
      rw [if_neg (by decide)]
    · have hd := hcls _ e1
      have hf := hmod _ (hcg.trans e1)
      rw [if_pos rfl] at hf
      refine sim_fail S ih hc (by omega) e3 (by omega) (by omega) (by omega) hd (fun n y hy => ?_)
      refine (mt_atom rm hy h22 hn hi hci hf).trans ?_
      rw [if_neg (by decide)]
      rfl
  · have hd := dn_atom (s := s) (ov := 0) (G := H) (W := W) (P := P) (mt := 0) (nx := (γ.ta i : Nat)) (w := w) (he := he) (st := st) rc hp pr hp6 hl lr hl6 (by omega) (by omega) (op := (codOf μ p).op (γ.ta i)) (f := (codOf μ p).f (γ.ta i)) (by rw [Int.toNat_natCast]) (by rw [Int.toNat_natCast]) ⟨ho0, ho5⟩ hof (by omega) h24 hlo.2.2 (by omega) (by omega) h500 hwk
    have hf := e_fitsA (L := L) (ρ := ρ) (μ := ν) (ov := 0) (G := G) (C := C) (mt := mt) (nc := m) (st := st) (he := he) rm h22 hn hk (by omega) hR (ae := a) (fun _ => ⟨hae, ha0, ha1⟩) (by omega) (by omega) (by omega) (by omega)
    rw [hbud, hlen, mA_congr (tx' := μ (l + 1)) (fun h => htx he.toNat (by omega))] at hf
    by_cases hb : (st : Int) = μ 32 0
    · rw [if_pos hb] at hd hf
      refine sim_over S hst (by omega) (by omega) hd (fun n y hy => ?_)
      refine (mt_atom rm hy h22 hn hi hci hf).trans ?_
      rw [if_neg (by decide)]
    · rw [if_neg hb, show (st : Int) + 1 = ((st + 1 : Nat) : Int) by omega] at hd hf
      obtain ⟨m1, m2⟩ | ⟨m1, m2, m3, m4⟩ := hA (μ l 1) (μ (l + 1)) he hlo (by omega) c2
      · rw [m1] at hf
        rw [m2] at hd
        refine sim_fail (st2 := st + 1) S ih hc (by omega) (by omega) (by omega) (by omega) (by omega) hd (fun n y hy => ?_)
        refine (mt_atom rm hy h22 hn hi hci hf).trans ?_
        rw [if_neg (by decide)]
        rfl
      · rw [m2, m3] at hd
        unfold dnR at hd
        rw [if_neg (show ¬ (1 : Int) = 0 by decide), show ((γ.ta i : Nat) : Int) + 1 = (γ.nd 2 i : Nat) by rw [hnd2]; omega] at hd
        have hc2 : Cg (codOf μ p) (txOf ν pt en) γ bl (μ l 1) (γ.nd 2 i) (mA (txOf ν pt en).c i a (μ l 1) (μ (l + 1)) he) m G C w H W P := by
          obtain ⟨m5, m6⟩ | ⟨m5, m6⟩ := m4
          · exact Cg_eat hc hpu (by omega) (by omega) _
          · rw [m5]
            exact Cg_up hc (by rw [hnd2]; have := hrk m6; show γ.rk (γ.ta i) ≤ _; omega)
        obtain ⟨fC, fM, r1, r2, r3⟩ := ih 2 i _ (st + 1) m G C w H W P ok2 hc2 (by omega) (by omega)
        refine ⟨fC, fM, CR_step hd r1 (by omega), MR_turn (fun n y hy => ?_) r2 (by omega), r3⟩
        refine (mt_atom rm hy h22 hn hi hci hf).trans ?_
        rw [if_pos m1]
        rfl
theorem sim (S : Sta L ρ μ ν p pt l k s en γ) (bl mt : Int) : ∀ M, Sim L ρ μ ν p pt l k s en γ bl mt M := by
  intro M
  induction M with
  | zero => intro mo i he st m G C w H W P _ _ _ hM; omega
  | succ M ih =>
    intro mo i he st m G C w H W P ok hc hst hM
    have hL := (S.lc ok.1).1.2.2
    obtain ⟨hV, h | ⟨h | h, hE⟩ | ⟨h, hci⟩⟩ := id ok
    · subst h
      exact sim_seq S ih ok hc hst hM
    · subst h
      obtain ⟨hE', -⟩ | ⟨-, -, htz, -, -, hat⟩ := hL
      · exact absurd (hE'.symm.trans hE) (by decide)
      · obtain ⟨h40, hg⟩ | ⟨h40, hg⟩ := hat
        · exact sim_group S ih ok h40 hg hc hst hM
        · exact sim_step S ih ok h40 hE hg htz hc hst hM
    · subst h
      exact sim_aft S ih ok hE hc hst hM
    · subst h
      exact sim_br S ih ok hci hc hst hM
end Sims4
