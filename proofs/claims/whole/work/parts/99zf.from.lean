/-! tokenizeFrom, refresh and refreshAll -/
def pzn (x : Int) (n : Nat) : Int := zw (x + n)
theorem pzn_def (x : Int) (n : Nat) : pzn x n = zw (x + n) := by rw [pzn]
theorem pzn_0 {x : Int} (h0 : -2147483648 ≤ x) (h1 : x < 2147483648) : pzn x 0 = x := by
  rw [pzn_def, show x + ((0 : Nat) : Int) = x by omega]
  exact zw_of h0 h1
theorem pz_n (x : Int) (n : Nat) : pz (pzn x n) = pzn x (n + 1) := by
  rw [pz_def, pzn_def, pzn_def]
  unfold zw
  rw [show x + ((n + 1 : Nat) : Int) = x + (n : Int) + 1 by omega]
  first
  | exact Int.bmod_add_bmod_congr ..
  | exact Int.bmod_add_bmod ..
  | simp
theorem pzn_b (x : Int) (n : Nat) : -2147483648 ≤ pzn x n ∧ pzn x n < 2147483648 := by
  rw [pzn_def]
  unfold zw
  have h1 := Int.le_bmod (x := x + (n : Int)) (m := 4294967296) (by decide)
  have h2 := Int.bmod_lt (x := x + (n : Int)) (m := 4294967296) (by decide)
  generalize Int.bmod (x + (n : Int)) 4294967296 = y at *
  constructor
  · exact Int.le_trans (by decide) h1
  · exact Int.lt_of_lt_of_le h2 (by decide)
section Frm
variable {L : Nat} {ρ : Nat → Nat → Nat}
/-- what a run over lines leaves -/
def FrR (ρ : Nat → Nat → Nat) (μ ν μ' ν' : Nat → Nat → Int) (n : Nat) : Prop := GFC μ (z_up μ' 1 6 (μ 1 6)) ∧ GFM ν ν' ∧ P16 μ' (pzn (μ 1 6) n) ∧ ν' 233 31 = μ' 1 6 ∧ ∀ j : Nat, (j : Int) < μ 1 5 → RLn μ' ν' (ρ 11 j) j
theorem from_stop (rc : Rc ρ) {μ : Nat → Nat → Int} {n : Nat} (hn : n < 100) {al st i : Int} (h : μ 1 5 ≤ i ∨ st ≠ 0) (N : Nat) : f_SL_tokenizeFrom_8 (N + 1) 1 al (n : Int) st i (SH L, ρ, μ) = some ((n : Int), (SH L, ρ, z_up μ 1 6 (pzn (μ 1 6) n))) := by
  have e : f_SL_tokenizeFrom_111 1 (n : Int) (SH L, ρ, μ) = some ((n : Int), (SH L, ρ, z_up μ 1 6 (pzn (μ 1 6) n))) := by
    unfold f_SL_tokenizeFrom_111
    rw [zgI_k s_1, Option.bind_some, zpI_k s_1, Option.bind_some, ← pzn_def]
  rw [f_SL_tokenizeFrom_8]
  show (z_gI _ _ _ _).bind _ = _
  rw [zgI_k s_1, Option.bind_some]
  by_cases h1 : μ 1 5 ≤ i
  · rw [if_pos h1]
    exact e
  · rw [if_neg h1, if_neg (show ¬ st = 0 by omega)]
    exact e
theorem fin_FrR (dc : Dc ρ) {μ0 ν0 μ ν : Nat → Nat → Int} {n : Nat} (hC : GFC μ0 μ) (hM : GFM ν0 ν) (h31 : P31 ν (pzn (μ0 1 6) n)) (hB : Bas μ ν) (hR : ∀ j : Nat, (j : Int) < μ0 1 5 → RLn μ ν (ρ 11 j) j) : FrR ρ μ0 ν0 (z_up μ 1 6 (pzn (μ 1 6) n)) ν n := by
  have e6 : μ 1 6 = μ0 1 6 := hC.1 _ _ (by omega)
  have r9 := hB.1.2.1
  have l6 : μ0 1 5 ≤ 6 := by
    have := hB.2.2.2.2.1
    have := hC.1 1 5 (by omega)
    omega
  refine ⟨?_, hM, (z_up_eq.trans (by rw [e6])), (h31.trans (by rw [z_up_eq, e6])), fun j hj => ?_⟩
  · have : z_up (z_up μ 1 6 (pzn (μ 1 6) n)) 1 6 (μ0 1 6) = μ := by
      funext a b
      unfold z_up
      by_cases h : a = 1 ∧ b = 6
      · rw [if_pos h, h.1, h.2, e6]
      · rw [if_neg h, if_neg h]
    rw [this]
    exact hC
  · obtain ⟨v, hv, ev⟩ := dc.1 j (by omega)
    have hr := hR j hj
    rw [ev] at hr ⊢
    exact hr.fr (fun c j' g1 g2 => z_up_ne (by omega)) (z_up_ne (by decide)) (fun r g => z_up_ne (by omega)) (fun _ _ => rfl) (fun _ _ _ _ _ => rfl) (fun _ _ _ => rfl) (fun _ _ _ => rfl) (fun _ _ _ => rfl) (fun _ _ _ => rfl)
/-- the class's side of one line: first its state is kept in 'before' -/
theorem from_turn (rc : Rc ρ) (dc : Dc ρ) {i : Nat} {μ : Nat → Nat → Int} (hi : (i : Int) < μ 1 5) (h6 : μ 1 5 ≤ 6) {n : Nat} (hn : n < 100) (al : Int) (N : Nat) : ∃ μ1, (∀ c j, c < 20 ∨ 23 < c → μ1 c j = μ c j) ∧ (μ1 20 0 = μ (ρ 11 i + 5) 0 ∧ (∀ j, j < 5 → μ1 21 j = μ (ρ 11 i + 6) j) ∧ (∀ j, j < 10 → μ1 22 j = μ (ρ 11 i + 7) j) ∧ ∀ j, j < 240 → μ1 23 j = μ (ρ 11 i + 8) j) ∧ ∀ μ2, f_Gr_tokenize 24 (ρ 11 i) (stc ρ i) (SH L, ρ, μ1) = some (SH L, ρ, μ2) → f_SL_tokenizeFrom_8 (N + 1) 1 al (n : Int) 0 (i : Int) (SH L, ρ, μ) = if al = 0 then (f_St_isSame (ρ 11 i + 5) 20 (SH L, ρ, μ2)).bind fun q8 => if q8.1 = 0 then f_SL_tokenizeFrom_8 N 1 al ((n + 1 : Nat) : Int) 0 ((i + 1 : Nat) : Int) q8.2 else f_SL_tokenizeFrom_8 N 1 al ((n + 1 : Nat) : Int) 1 ((i + 1 : Nat) : Int) q8.2 else f_SL_tokenizeFrom_8 N 1 al ((n + 1 : Nat) : Int) 0 ((i + 1 : Nat) : Int) (SH L, ρ, μ2) := by
  obtain ⟨u, hu, eu⟩ := dc.1 i (by omega)
  have lr := rc.2.2.2.2.2.2.2 u hu
  obtain ⟨μ1, a1, a2, a3, a4, a5, a6⟩ := e_copyS (L := L) (a := 20) (b := 179 + 9 * u + 5) s_st20 (s_ln hu).2.2.2.2.2 rc.2.2.2.1.2.1 lr.2.2.2.2.2 (by omega) μ
  refine ⟨μ1, fun c j h => a2 c j (by omega), ?_, fun μ2 hm => ?_⟩
  · rw [eu]
    exact ⟨a3, a4, a5, a6⟩
  · have e0 : f_SL_tokenizeFrom_8 (N + 1) 1 al (n : Int) 0 (i : Int) (SH L, ρ, μ) = f_SL_tokenizeFrom_73 (f_SL_tokenizeFrom_8 N) 1 al (n : Int) (i : Int) (ρ 11 i) 24 (ρ 11 i) (stc ρ i) (SH L, ρ, μ1) := by
      rw [f_SL_tokenizeFrom_8]
      show (z_gI _ _ _ _).bind _ = _
      rw [zgI_k s_1, Option.bind_some, if_neg (by omega), if_pos rfl, zgR_k s_1 rc.1.2.2.2.1 (by decide), Option.bind_some, e_doc hu (by omega) (by omega) (by rw [Int.toNat_natCast]; exact eu), Option.bind_some, zgR_k s_1 rc.1.2.2.2.2.2.2 (by decide), Option.bind_some, zgR_k (sl_0 hu) lr.2.2.2.2.1 (by omega), Option.bind_some, zck_k s_20, Option.bind_some, a1, Option.bind_some, zgR_k s_1 rc.1.2.2.1 (by decide), Option.bind_some, eu]
      unfold stc
      by_cases h0 : i = 0
      · rw [if_pos (show (i : Int) = 0 by omega), if_pos h0, zgR_k s_1 rc.1.2.2.2.2.2.1 (by decide), Option.bind_some]
      · obtain ⟨v, hv, ev⟩ := dc.1 (i - 1) (by omega)
        have lv := rc.2.2.2.2.2.2.2 v hv
        rw [if_neg (show ¬ (i : Int) = 0 by omega), if_neg h0, zgR_k s_1 rc.1.2.2.2.1 (by decide), Option.bind_some, zw_of (by omega) (by omega), e_doc hv (by omega) (by omega) (by rw [show ((i : Int) - 1).toNat = i - 1 by omega]; exact ev), Option.bind_some, zgR_k (sl_0 hv) lv.2.2.2.2.1 (by omega), Option.bind_some, ev]
    rw [e0]
    unfold f_SL_tokenizeFrom_73 f_SL_tokenizeFrom_102 f_SL_tokenizeFrom_103
    rw [zck_k s_24, Option.bind_some, hm, Option.bind_some, zw_of (x := (n : Int) + 1) (by omega) (by omega), zw_of (x := (i : Int) + 1) (by omega) (by omega), eu, zgR_k (sl_0 hu) lr.2.2.2.2.1 (by omega), Option.bind_some, zgR_k s_1 rc.1.2.2.2.2.2.2 (by decide), Option.bind_some, zck_k (sl_5 hu), Option.bind_some, show ((n + 1 : Nat) : Int) = (n : Int) + 1 by omega, show ((i + 1 : Nat) : Int) = (i : Int) + 1 by omega]
theorem frB {μ μ1 : Nat → Nat → Int} (h : ∀ c j, c < 20 ∨ 23 < c → μ1 c j = μ c j) : GFC μ μ1 := ⟨fun c j g => h c j (by omega), h _ _ (by omega), h _ _ (by omega)⟩
theorem GFM.refl (ν : Nat → Nat → Int) : GFM ν ν := ⟨fun _ _ _ => rfl, fun _ _ => rfl⟩
theorem RLn.b {μ ν μ1 : Nat → Nat → Int} {l k : Nat} (h : RLn μ ν l k) (hl : 179 ≤ l) (g : ∀ c j, c < 20 ∨ 23 < c → μ1 c j = μ c j) : RLn μ1 ν l k := h.fr (fun c j g1 g2 => g c j (by omega)) (g _ _ (by omega)) (fun r _ => g _ _ (by omega)) (fun _ _ => rfl) (fun _ _ _ _ _ => rfl) (fun _ _ _ => rfl) (fun _ _ _ => rfl) (fun _ _ _ => rfl) (fun _ _ _ => rfl)
theorem Dc.l {i : Nat} (dc : Dc ρ) (hi : i < 6) : 179 ≤ ρ 11 i := by
  obtain ⟨u, hu, eu⟩ := dc.1 i hi
  omega
theorem all_loop (rc : Rc ρ) (rm : Rm ρ) (dc : Dc ρ) {μ0 ν0 : Nat → Nat → Int} : ∀ (m N N' i : Nat) (μ ν : Nat → Nat → Int), μ 1 5 = ((i + m : Nat) : Int) → m < N → m < N' → GFC μ0 μ → GFM ν0 ν → Bas μ ν → P31 ν (pzn (μ0 1 6) i) → (∀ j : Nat, (j : Int) < μ 1 5 → RLn μ ν (ρ 11 j) j) →
    ∃ μ' ν', f_SL_tokenizeFrom_8 N 1 1 (i : Int) 0 (i : Int) (SH L, ρ, μ) = some (((i + m : Nat) : Int), (SH L, ρ, μ')) ∧ f_Mo_refreshAll_2 N' 233 (i : Int) (SH L, ρ, ν) = some (SH L, ρ, ν') ∧ FrR ρ μ0 ν0 μ' ν' (i + m) := by
  intro m
  induction m with
  | zero =>
    intro N N' i μ ν h1 h2 h3 hC hM hB h31 hR
    obtain ⟨N, rfl⟩ : ∃ k, N = k + 1 := ⟨N - 1, by omega⟩
    obtain ⟨N', rfl⟩ : ∃ k, N' = k + 1 := ⟨N' - 1, by omega⟩
    have l6 := hB.2.2.2.2.1
    refine ⟨_, ν, from_stop rc (by omega) (Or.inl (by omega)) N, ?_, fin_FrR dc hC hM h31 hB (fun j hj => hR j (by rw [hC.1 1 5 (by omega)]; exact hj))⟩
    rw [f_Mo_refreshAll_2]
    show (z_gI _ _ _ _).bind _ = _
    rw [zgI_k s_233, Option.bind_some, hB.2.2.2.2.2, if_pos (by omega)]
  | succ m ih =>
    intro N N' i μ ν h1 h2 h3 hC hM hB h31 hR
    obtain ⟨N, rfl⟩ : ∃ k, N = k + 1 := ⟨N - 1, by omega⟩
    obtain ⟨N', rfl⟩ : ∃ k, N' = k + 1 := ⟨N' - 1, by omega⟩
    have l6 := hB.2.2.2.2.1
    obtain ⟨μ1, b1, -, b3⟩ := from_turn (L := L) rc dc (i := i) (μ := μ) (by omega) l6 (n := i) (by omega) 1 N
    have e15 : μ1 1 5 = μ 1 5 := b1 _ _ (by omega)
    have hR1 : ∀ j : Nat, (j : Int) < μ1 1 5 → RLn μ1 ν (ρ 11 j) j := fun j hj => (hR j (by omega)).b (dc.l (by omega)) b1
    obtain ⟨μ2, ν2, c1, c2, -, c4, c5, c6, -, c8⟩ := step_both (L := L) rc rm dc (i := i) (hB.fr (frB b1) (GFM.refl ν)) (by omega) (hR1 i (by omega)).t (fun j hj _ => hR1 j hj)
    have e25 : μ2 1 5 = μ 1 5 := (c4.1 _ _ (by omega)).trans e15
    have hC2 := hC.trans ((frB b1).trans c4)
    have hM2 := hM.trans c5
    have hB2 := (hB.fr (frB b1) (GFM.refl ν)).fr c4 c5
    have h312 : P31 ν2 (pzn (μ0 1 6) (i + 1)) := c6.trans (by rw [show ν 233 31 = pzn (μ0 1 6) i from h31, pz_n])
    obtain ⟨μ', ν', d1, d2, d3⟩ := ih N N' (i + 1) μ2 ν2 (by rw [e25, h1]; omega) (by omega) (by omega) hC2 hM2 hB2 h312 (fun j hj => c8 j (by omega))
    rw [show i + 1 + m = i + (m + 1) by omega] at d1 d3
    refine ⟨μ', ν', ?_, ?_, d3⟩
    · rw [b3 μ2 c1, if_neg (by decide)]
      exact d1
    · rw [f_Mo_refreshAll_2]
      show (z_gI _ _ _ _).bind _ = _
      rw [zgI_k s_233, Option.bind_some, hB.2.2.2.2.2, if_neg (by omega), zck_k s_233, Option.bind_some, c2, Option.bind_some, zw_of (by omega) (by omega)]
      rw [show ((i + 1 : Nat) : Int) = (i : Int) + 1 by omega] at d2
      exact d2
/-- refresh(k): from a line on, until a state comes out as it was -/
theorem ref_loop (rc : Rc ρ) (rm : Rm ρ) (dc : Dc ρ) {μ0 ν0 : Nat → Nat → Int} : ∀ (m N N' i n : Nat) (μ ν : Nat → Nat → Int), μ 1 5 = ((i + m : Nat) : Int) → m < N → m < N' → n ≤ i → GFC μ0 μ → GFM ν0 ν → Bas μ ν → P31 ν (pzn (μ0 1 6) n) → (∀ j : Nat, (j : Int) < μ 1 5 → j ≠ i → RLn μ ν (ρ 11 j) j) → (1 ≤ m → TLn μ ν (ρ 11 i) i ∧ (RSt μ ν (ρ 11 i + 5) i ∨ m = 1)) →
    ∃ (n' : Nat) (μ' ν' : Nat → Nat → Int), f_SL_tokenizeFrom_8 N 1 0 (n : Int) 0 (i : Int) (SH L, ρ, μ) = some ((n' : Int), (SH L, ρ, μ')) ∧ f_Mo_refresh_7 N' 233 (n : Int) 0 (i : Int) (SH L, ρ, ν) = some ((n' : Int), (SH L, ρ, ν')) ∧ FrR ρ μ0 ν0 μ' ν' n' := by
  intro m
  induction m with
  | zero =>
    intro N N' i n μ ν h1 h2 h3 hn hC hM hB h31 hR hT
    obtain ⟨N, rfl⟩ : ∃ k, N = k + 1 := ⟨N - 1, by omega⟩
    obtain ⟨N', rfl⟩ : ∃ k, N' = k + 1 := ⟨N' - 1, by omega⟩
    have l6 := hB.2.2.2.2.1
    have e05 : μ 1 5 = μ0 1 5 := hC.1 1 5 (by omega)
    refine ⟨n, _, ν, from_stop rc (by omega) (Or.inl (by omega)) N, ?_, fin_FrR dc hC hM h31 hB (fun j hj => hR j (by omega) (by omega))⟩
    rw [f_Mo_refresh_7]
    show (z_gI _ _ _ _).bind _ = _
    rw [zgI_k s_233, Option.bind_some, hB.2.2.2.2.2, if_pos (by omega)]
  | succ m ih =>
    intro N N' i n μ ν h1 h2 h3 hn hC hM hB h31 hR hT
    obtain ⟨N, rfl⟩ : ∃ k, N = k + 1 + 1 := ⟨N - 2, by omega⟩
    obtain ⟨N', rfl⟩ : ∃ k, N' = k + 1 + 1 := ⟨N' - 2, by omega⟩
    have l6 := hB.2.2.2.2.1
    have r9 := hB.1.2.1
    obtain ⟨hT1, hT2⟩ := hT (by omega)
    obtain ⟨μ1, b1, ⟨bb0, bb1, bb2, bb3⟩, b3⟩ := from_turn (L := L) rc dc (i := i) (μ := μ) (by omega) l6 (n := n) (by omega) 0 (N + 1)
    have e15 : μ1 1 5 = μ 1 5 := b1 _ _ (by omega)
    have li := dc.l (show i < 6 by omega)
    have hR1 : ∀ j : Nat, (j : Int) < μ1 1 5 → j ≠ i → RLn μ1 ν (ρ 11 j) j := fun j hj hji => (hR j (by omega) hji).b (dc.l (by omega)) b1
    obtain ⟨νa, m1, m2⟩ := e_copyM (L := L) rm (x := i) (y := 7) (by omega) (by omega) (by omega) ν
    have gA : GFM ν νa := ⟨fun c j g => m2.1 c j (by omega), fun j g => m2.1 _ j (by omega)⟩
    have hBa := hB.fr (frB b1) gA
    obtain ⟨k1, k2, -, k4, -, k6, -, k8, -⟩ := id m2
    have hRa : ∀ j : Nat, (j : Int) < μ1 1 5 → j ≠ i → RLn μ1 νa (ρ 11 j) j := fun j hj hji => (hR1 j hj hji).fr (fun _ _ _ _ => rfl) rfl (fun _ _ => rfl) (fun c hc => by
      obtain rfl | rfl | rfl | rfl := hc
      · exact k1 _ _ (by omega)
      · exact k1 _ _ (by omega)
      · exact k1 _ _ (by omega)
      · exact k2 _ (by omega)) (fun c j' hc g1 g2 => k1 _ _ (by omega)) (fun j' g1 g2 => k1 _ _ (by omega)) (fun j' g1 g2 => k4 _ (by omega)) (fun j' g1 g2 => k6 _ (by omega)) (fun j' g1 g2 => k8 _ (by omega))
    have hTa : TLn μ1 νa (ρ 11 i) i := hT1.fr (fun c j g1 g2 _ => b1 c j (by omega)) (k1 _ _ (by omega)) (fun j _ _ => k1 _ _ (by omega))
    obtain ⟨μ2, ν2, c1, c2, c3, c4, c5, c6, ⟨c70, c71, c72, c73⟩, c8⟩ := step_both (L := L) rc rm dc (i := i) hBa (by omega) hTa hRa
    have e25 : μ2 1 5 = μ 1 5 := (c4.1 _ _ (by omega)).trans e15
    have hC2 := hC.trans ((frB b1).trans c4)
    have hM2 := hM.trans (gA.trans c5)
    have hB2 := hBa.fr c4 c5
    have h312 : P31 ν2 (pzn (μ0 1 6) (n + 1)) := c6.trans (by rw [m2.1 233 31 (by omega), show ν 233 31 = pzn (μ0 1 6) n from h31, pz_n])
    have r2 := c8 i (by omega)
    obtain ⟨u, hu, eu⟩ := dc.1 i (by omega)
    have lr := rc.2.2.2.2.2.2.2 u hu
    have s2 := r2.2.2.2
    -- the two comparisons
    obtain ⟨z, z1, z2⟩ := e_sameS (L := L) (ρ := ρ) (μ := μ2) (a := ρ 11 i + 5) (b := 20) (by rw [eu]; exact (s_ln hu).2.2.2.2.2) s_st20 (by rw [eu]; exact lr.2.2.2.2.2) rc.2.2.2.1.2.1 s2.1 s2.2.1 (fun j hj => (s2.2.2.2.2 j hj).2.1)
    obtain ⟨y, y1, y2⟩ := e_sameM (L := L) (ν := ν2) rm (x := i) (y := 7) (by omega) (by omega) (by rw [s2.2.2.1]; exact s2.2.1) (fun j hj => by
      rw [s2.2.2.1] at hj
      rw [(s2.2.2.2.2 j hj).1]
      exact (s2.2.2.2.2 j hj).2.1) (by rw [s2.2.2.1]; exact s2.1)
    have zy : 1 ≤ m → z = y := by
      intro hm
      have hst : RSt μ ν (ρ 11 i + 5) i := by
        obtain h | h := hT2
        · exact h
        · omega
      have s7a : RSt μ1 νa 20 7 := hst.cp bb0 bb1 bb2 bb3 (b1 _ _ (by omega)) (fun r g => b1 _ _ (by omega)) m2
      have s7 : RSt μ2 ν2 20 7 := s7a.fr (fun c j g1 g2 => c3 c j (by omega)) c4.2.1 (fun r g => c3 _ _ (by
        rw [b1 _ _ (by omega)] at g
        omega)) c70 (fun j g1 g2 => c71 j (by omega)) (fun j g1 g2 => c72 j (by omega)) (fun j g1 g2 => c73 j (by omega))
      have hq := same_iff s2 s7
      obtain ⟨z3, z4⟩ | ⟨z3, z4⟩ := z2
      · obtain ⟨y3, y4⟩ | ⟨y3, y4⟩ := y2
        · rw [z3, y3]
        · exact absurd (hq.1 z4) y4
      · obtain ⟨y3, y4⟩ | ⟨y3, y4⟩ := y2
        · exact absurd (hq.2 y4) z4
        · rw [z3, y3]
    have z01 : z = 0 ∨ z = 1 := by
      obtain ⟨z3, z4⟩ | ⟨z3, z4⟩ := z2
      · exact Or.inr z3
      · exact Or.inl z3
    have y01 : y = 0 ∨ y = 1 := by
      obtain ⟨z3, z4⟩ | ⟨z3, z4⟩ := y2
      · exact Or.inr z3
      · exact Or.inl z3
    have eC : f_SL_tokenizeFrom_8 (N + 1 + 1) 1 0 (n : Int) 0 (i : Int) (SH L, ρ, μ) = f_SL_tokenizeFrom_8 (N + 1) 1 0 ((n + 1 : Nat) : Int) z ((i + 1 : Nat) : Int) (SH L, ρ, μ2) := by
      rw [b3 μ2 c1, if_pos rfl, z1, Option.bind_some]
      dsimp only
      obtain h | h := z01
      · rw [h, if_pos rfl]
      · rw [h, if_neg (by decide)]
    have eM : f_Mo_refresh_7 (N' + 1 + 1) 233 (n : Int) 0 (i : Int) (SH L, ρ, ν) = f_Mo_refresh_7 (N' + 1) 233 ((n + 1 : Nat) : Int) y ((i + 1 : Nat) : Int) (SH L, ρ, ν2) := by
      rw [f_Mo_refresh_7]
      show (z_gI _ _ _ _).bind _ = _
      have m1' : f_Mo_copyState 233 (i : Int) 7 (SH L, ρ, ν) = some (SH L, ρ, νa) := m1
      have y1' : f_Mo_sameState 233 (i : Int) 7 (SH L, ρ, ν2) = some (y, (SH L, ρ, ν2)) := y1
      rw [zgI_k s_233, Option.bind_some, hB.2.2.2.2.2, if_neg (by omega), if_pos rfl, zck_k s_233, Option.bind_some, m1', Option.bind_some, zck_k s_233, Option.bind_some, c2, Option.bind_some, zck_k s_233, Option.bind_some, y1', Option.bind_some, zw_of (x := (n : Int) + 1) (by omega) (by omega), zw_of (x := (i : Int) + 1) (by omega) (by omega), show ((n + 1 : Nat) : Int) = (n : Int) + 1 by omega, show ((i + 1 : Nat) : Int) = (i : Int) + 1 by omega]
    rw [eC, eM]
    have stop : (μ2 1 5 ≤ ((i + 1 : Nat) : Int) ∨ (z ≠ 0 ∧ y ≠ 0)) → ∃ (n' : Nat) (μ' ν' : Nat → Nat → Int), f_SL_tokenizeFrom_8 (N + 1) 1 0 ((n + 1 : Nat) : Int) z ((i + 1 : Nat) : Int) (SH L, ρ, μ2) = some ((n' : Int), (SH L, ρ, μ')) ∧ f_Mo_refresh_7 (N' + 1) 233 ((n + 1 : Nat) : Int) y ((i + 1 : Nat) : Int) (SH L, ρ, ν2) = some ((n' : Int), (SH L, ρ, ν')) ∧ FrR ρ μ0 ν0 μ' ν' n' := by
      intro h
      have e05 : μ2 1 5 = μ0 1 5 := hC2.1 1 5 (by omega)
      refine ⟨n + 1, _, ν2, from_stop rc (by omega) (by omega) N, ?_, fin_FrR dc hC2 hM2 h312 hB2 (fun j hj => c8 j (by omega))⟩
      rw [f_Mo_refresh_7]
      show (z_gI _ _ _ _).bind _ = _
      rw [zgI_k s_233, Option.bind_some, hB2.2.2.2.2.2]
      by_cases h' : μ2 1 5 ≤ ((i + 1 : Nat) : Int)
      · rw [if_pos h']
      · rw [if_neg h', if_neg (by omega)]
    by_cases hm : m = 0
    · exact stop (Or.inl (by omega))
    · have zy := zy (by omega)
      obtain h | h := z01
      · rw [← zy, h]
        obtain ⟨n', μ', ν', d1, d2, d3⟩ := ih (N + 1) (N' + 1) (i + 1) (n + 1) μ2 ν2 (by rw [e25, h1]; omega) (by omega) (by omega) (by omega) hC2 hM2 hB2 h312 (fun j hj _ => c8 j (by omega)) (fun _ => ⟨(c8 (i + 1) (by omega)).t, Or.inl (c8 (i + 1) (by omega)).2.2.2⟩)
        exact ⟨n', μ', ν', d1, d2, d3⟩
      · exact stop (Or.inr (by omega))
end Frm
