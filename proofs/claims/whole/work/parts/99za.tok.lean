/-! The tokens of both -/
def TTk (μ ν : Nat → Nat → Int) (l k : Nat) : Prop := 0 ≤ μ l 5 ∧ μ l 5 ≤ 24 ∧ ν 259 k = μ l 5 ∧ ∀ t : Nat, (t : Int) < μ l 5 → ν 260 (24 * k + t) = μ (l + 2) t ∧ ν 261 (24 * k + t) = μ (l + 3) t ∧ 0 ≤ μ (l + 3) t ∧ μ (l + 3) t ≤ 6 ∧ ∀ i : Nat, (i : Int) < μ (l + 3) t → ν 262 (6 * (24 * k + t) + i) = μ (l + 4) (6 * t + i)
def NtC (l t : Nat) (fr : Int) (n : Nat) (S : Nat → Int) (μ μ' : Nat → Nat → Int) : Prop := (∀ c j, c ≠ l → c ≠ l + 2 → c ≠ l + 3 → c ≠ l + 4 → μ' c j = μ c j) ∧ (∀ j, j ≠ 5 → μ' l j = μ l j) ∧ μ' l 5 = ((t + 1 : Nat) : Int) ∧ (∀ j, j ≠ t → μ' (l + 2) j = μ (l + 2) j) ∧ μ' (l + 2) t = fr ∧ (∀ j, j ≠ t → μ' (l + 3) j = μ (l + 3) j) ∧ μ' (l + 3) t = n ∧ (∀ j, ¬ (6 * t ≤ j ∧ j < 6 * t + 6) → μ' (l + 4) j = μ (l + 4) j) ∧ ∀ i, i < n → μ' (l + 4) (6 * t + i) = S i
def NtM (k t : Nat) (fr : Int) (n : Nat) (S : Nat → Int) (ν ν' : Nat → Nat → Int) : Prop := (∀ c j, c < 259 ∨ 262 < c → ν' c j = ν c j) ∧ (∀ j, j ≠ k → ν' 259 j = ν 259 j) ∧ ν' 259 k = ((t + 1 : Nat) : Int) ∧ (∀ j, j ≠ 24 * k + t → ν' 260 j = ν 260 j) ∧ ν' 260 (24 * k + t) = fr ∧ (∀ j, j ≠ 24 * k + t → ν' 261 j = ν 261 j) ∧ ν' 261 (24 * k + t) = n ∧ (∀ j, ¬ (6 * (24 * k + t) ≤ j ∧ j < 6 * (24 * k + t) + 6) → ν' 262 j = ν 262 j) ∧ ∀ i, i < n → ν' 262 (6 * (24 * k + t) + i) = S i
theorem TTk.add {μ ν μ' ν' : Nat → Nat → Int} {l k t n : Nat} {fr : Int} {S : Nat → Int} (h : TTk μ ν l k) (ht : μ l 5 = t) (h24 : t < 24) (hn : n ≤ 6) (hC : NtC l t fr n S μ μ') (hM : NtM k t fr n S ν ν') : TTk μ' ν' l k := by
  obtain ⟨-, -, -, a⟩ := h
  obtain ⟨-, -, c3, c4, c5, c6, c7, c8, c9⟩ := hC
  obtain ⟨-, -, m3, m4, m5, m6, m7, m8, m9⟩ := hM
  unfold TTk
  rw [c3, m3]
  refine ⟨by omega, by omega, rfl, fun t' ht' => ?_⟩
  by_cases e : t' = t
  · rw [e, m5, c5, m7, c7]
    refine ⟨rfl, rfl, by omega, by omega, fun i hi => ?_⟩
    rw [m9 i (by omega), c9 i (by omega)]
  · obtain ⟨a1, a2, a3, a4, a5⟩ := a t' (by omega)
    rw [m4 _ (by omega), c4 _ e, m6 _ (by omega), c6 _ e]
    refine ⟨a1, a2, a3, a4, fun i hi => ?_⟩
    rw [m8 _ (by omega), c8 _ (by omega)]
    exact a5 i hi
def BFC (l : Nat) (μ μ' : Nat → Nat → Int) : Prop := (∀ c j, c < 24 ∨ 36 ≤ c → ¬ (l ≤ c ∧ c ≤ l + 4) → μ' c j = μ c j) ∧ μ' 24 1 = μ 24 1 ∧ μ' 32 0 = μ 32 0 ∧ (∀ j, j ≠ 5 → j ≠ 6 → μ' l j = μ l j) ∧ ∀ j, μ' (l + 1) j = μ (l + 1) j
def BFM (k : Nat) (ν ν' : Nat → Nat → Int) : Prop := (∀ c j, c < 233 ∨ (234 ≤ c ∧ c ≤ 251) ∨ c = 256 ∨ c = 257 ∨ 269 ≤ c → ν' c j = ν c j) ∧ (∀ j, j < 21 ∨ (27 ≤ j ∧ j < 44) ∨ 46 < j → ν' 233 j = ν 233 j) ∧ (∀ c j, c = 258 ∨ c = 259 → j ≠ k → ν' c j = ν c j) ∧ (∀ c j, c = 260 ∨ c = 261 → ¬ (24 * k ≤ j ∧ j < 24 * k + 24) → ν' c j = ν c j) ∧ (∀ j, ¬ (144 * k ≤ j ∧ j < 144 * k + 144) → ν' 262 j = ν 262 j) ∧ (∀ j, j ≠ 6 → ν' 263 j = ν 263 j) ∧ (∀ j, ¬ (30 ≤ j ∧ j < 35) → ν' 264 j = ν 264 j) ∧ (∀ j, ¬ (60 ≤ j ∧ j < 70) → ν' 265 j = ν 265 j) ∧ ∀ j, ¬ (1440 ≤ j ∧ j < 1680) → ν' 266 j = ν 266 j
theorem BFC.refl (l : Nat) (μ : Nat → Nat → Int) : BFC l μ μ := ⟨fun _ _ _ _ => rfl, rfl, rfl, fun _ _ _ => rfl, fun _ => rfl⟩
theorem BFM.refl (k : Nat) (μ : Nat → Nat → Int) : BFM k μ μ := ⟨fun _ _ _ => rfl, fun _ _ => rfl, fun _ _ _ _ => rfl, fun _ _ _ _ => rfl, fun _ _ => rfl, fun _ _ => rfl, fun _ _ => rfl, fun _ _ => rfl, fun _ _ => rfl⟩
theorem BFC.trans {l : Nat} {a b c : Nat → Nat → Int} (h : BFC l a b) (g : BFC l b c) : BFC l a c := ⟨fun x j h1 h2 => (g.1 x j h1 h2).trans (h.1 x j h1 h2), g.2.1.trans h.2.1, g.2.2.1.trans h.2.2.1, fun j h1 h2 => (g.2.2.2.1 j h1 h2).trans (h.2.2.2.1 j h1 h2), fun j => (g.2.2.2.2 j).trans (h.2.2.2.2 j)⟩
theorem BFM.trans {k : Nat} {a b c : Nat → Nat → Int} (h : BFM k a b) (g : BFM k b c) : BFM k a c := by
  obtain ⟨h1, h2, h3, h4, h5, h6, h7, h8, h9⟩ := h
  obtain ⟨g1, g2, g3, g4, g5, g6, g7, g8, g9⟩ := g
  exact ⟨fun x j a => (g1 x j a).trans (h1 x j a), fun j a => (g2 j a).trans (h2 j a), fun x j a b => (g3 x j a b).trans (h3 x j a b), fun x j a b => (g4 x j a b).trans (h4 x j a b), fun j a => (g5 j a).trans (h5 j a), fun j a => (g6 j a).trans (h6 j a), fun j a => (g7 j a).trans (h7 j a), fun j a => (g8 j a).trans (h8 j a), fun j a => (g9 j a).trans (h9 j a)⟩
theorem FFC.b {l : Nat} (hl : 36 ≤ l) {μ μ' : Nat → Nat → Int} (h : FFC μ μ') : BFC l μ μ' := ⟨fun c j a b => h.1 c j (by omega) (by omega) (by omega) (by omega), h.2.1, h.2.2, fun j _ _ => h.1 _ _ (by omega) (by omega) (by omega) (by omega), fun j => h.1 _ _ (by omega) (by omega) (by omega) (by omega)⟩
theorem FFM.b {k : Nat} {ν ν' : Nat → Nat → Int} (h : FFM ν ν') : BFM k ν ν' := by
  obtain ⟨h1, h2⟩ := h
  have a : ∀ c j, c < 233 ∨ (234 ≤ c ∧ c ≤ 251) ∨ (256 ≤ c ∧ c ≤ 266) ∨ 269 ≤ c → ν' c j = ν c j := fun c j g => h1 c j (by omega) (by omega) (by omega) (by omega) (by omega) (by omega) (by omega)
  exact ⟨fun c j g => a c j (by omega), h2, fun c j g _ => a c j (by omega), fun c j g _ => a c j (by omega), fun j _ => a _ j (by omega), fun j _ => a _ j (by omega), fun j _ => a _ j (by omega), fun j _ => a _ j (by omega), fun j _ => a _ j (by omega)⟩
theorem NtC.b {l t n : Nat} {fr : Int} {S : Nat → Int} (hl : 36 ≤ l) {μ μ' : Nat → Nat → Int} (h : NtC l t fr n S μ μ') : BFC l μ μ' := ⟨fun c j a b => h.1 c j (by omega) (by omega) (by omega) (by omega), h.1 _ _ (by omega) (by omega) (by omega) (by omega), h.1 _ _ (by omega) (by omega) (by omega) (by omega), fun j a _ => h.2.1 j a, fun j => h.1 _ _ (by omega) (by omega) (by omega) (by omega)⟩
theorem NtM.b {k t n : Nat} {fr : Int} {S : Nat → Int} (ht : t < 24) {ν ν' : Nat → Nat → Int} (h : NtM k t fr n S ν ν') : BFM k ν ν' := by
  obtain ⟨h1, h2, -, h4, -, h6, -, h8, -⟩ := h
  exact ⟨fun c j g => h1 c j (by omega), fun j _ => h1 _ j (by omega), fun c j g1 g2 => by
    obtain rfl | rfl := g1
    · exact h1 _ _ (by omega)
    · exact h2 j g2, fun c j g1 g2 => by
    obtain rfl | rfl := g1
    · exact h4 j (by omega)
    · exact h6 j (by omega), fun j g => h8 j (by omega), fun j _ => h1 _ j (by omega), fun j _ => h1 _ j (by omega), fun j _ => h1 _ j (by omega), fun j _ => h1 _ j (by omega)⟩
section Tok
variable {L : Nat} {ρ : Nat → Nat → Nat} {μ ν : Nat → Nat → Int} {u k : Nat}
/-- what a cut keeps and makes -/
def CtB (u k : Nat) (to : Int) (μ ν μ' ν' : Nat → Nat → Int) : Prop := BFC (179 + 9 * u) μ μ' ∧ BFM k ν ν' ∧ TTk μ' ν' (179 + 9 * u) k ∧ μ' (179 + 9 * u) 5 ≤ to ∧ (∀ j, j ≠ 5 → μ' (179 + 9 * u) j = μ (179 + 9 * u) j) ∧ (∀ c j, c < 179 → μ' c j = μ c j) ∧ ∀ c j, c < 259 ∨ 262 < c → ν' c j = ν c j
theorem CtB.rs {to : Int} {μ' ν' : Nat → Nat → Int} (h : CtB u k to μ ν μ' ν') (rr : RRules μ ν) (rs : RSt μ ν 26 6) : RSt μ' ν' 26 6 := by
  obtain ⟨-, -, -, -, -, h6, h7⟩ := h
  have r9 := rr.2.1
  exact rs.fr (fun c j g1 g2 => h6 c j (by omega)) (h6 _ _ (by omega)) (fun r g => h6 _ _ (by omega)) (h7 _ _ (by omega)) (fun j _ _ => h7 _ _ (by omega)) (fun j _ _ => h7 _ _ (by omega)) (fun j _ _ => h7 _ _ (by omega))
theorem cut_both (rc : Rc ρ) (rm : Rm ρ) (hu : u < 6) (hk : k < 6) (rr : RRules μ ν) (rs : RSt μ ν 26 6) (tk : TTk μ ν (179 + 9 * u) k) {fr to : Int} (h5 : μ (179 + 9 * u) 5 ≤ fr) (hle : fr ≤ to) (h24 : to ≤ 24) : ∃ μ' ν', f_Gr_cut 24 (179 + 9 * u) fr to (SH L, ρ, μ) = some ((if fr = to then 0 else 1), (SH L, ρ, μ')) ∧ f_Mo_cutOff 233 (k : Int) fr to 0 (SH L, ρ, ν) = some (SH L, ρ, ν') ∧ CtB u k to μ ν μ' ν' := by
  by_cases he : fr = to
  · refine ⟨μ, ν, ?_, ?_, BFC.refl _ _, BFM.refl _ _, tk, by omega, fun _ _ => rfl, fun _ _ _ => rfl, fun _ _ _ => rfl⟩
    · unfold f_Gr_cut
      rw [if_pos he, if_pos he]
    · unfold f_Mo_cutOff
      rw [if_neg (by omega)]
  · obtain ⟨r0, r9, -, -, -, rp, -⟩ := rr
    obtain ⟨s0, s5, se, sr, -⟩ := rs
    obtain ⟨t0, -, te, -⟩ := id tk
    obtain ⟨t, ht⟩ : ∃ t : Nat, μ (179 + 9 * u) 5 = t := ⟨(μ (179 + 9 * u) 5).toNat, by omega⟩
    obtain ⟨o, ho⟩ : ∃ o : Nat, μ 26 0 = o := ⟨(μ 26 0).toNat, by omega⟩
    obtain ⟨μ', a1, a2, a3, a4, a5, a6, a7, a8, a9, a10⟩ := e_cut (L := L) rc (s_ln hu) (rc.2.2.2.2.2.2.2 u hu) (by omega) (t := t) (o := o) (by omega) (by omega) ho (fun i hi => ⟨Int.le_trans (by decide) (sr i (by omega)).2.1, Int.le_trans (sr i (by omega)).2.2.1 (by omega)⟩) ht he
    obtain ⟨ν', b1, b2, b3, b4, b5, b6, b7, b8, b9, b10, b11⟩ := e_cutM (L := L) rm hk (t := t) (o := o) (la := 0) (by omega) (by omega) (se.trans ho) (fun i hi => by
      have := sr i (by omega)
      have e : ν 264 (30 + i) = μ 27 i := this.1
      have q1 : 1 ≤ μ 27 i := this.2.1
      have q2 : μ 27 i ≤ μ 24 1 := this.2.2.1
      rw [e]
      exact ⟨by omega, by omega⟩) (te.trans ht) (fr := fr) (to := to) (by omega)
    have hC : NtC (179 + 9 * u) t fr o (fun i => μ (36 + 13 * (μ 27 i).toNat) 4) μ μ' := ⟨a2, a3, a4, a5, a6, a7, a8, a9, a10⟩
    have hM : NtM k t fr o (fun i => μ (36 + 13 * (μ 27 i).toNat) 4) ν ν' := by
      refine ⟨b2, b3, b4, b5, b6, b7, b8.trans (if_pos (Int.le_refl _)), b9, fun i hi => (b10 i hi).trans ?_⟩
      have := sr i (by omega)
      have e : ν 264 (30 + i) = μ 27 i := this.1
      have q1 : 1 ≤ μ 27 i := this.2.1
      have q2 : μ 27 i ≤ μ 24 1 := this.2.2.1
      rw [e]
      exact (rp (μ 27 i).toNat (by omega) (by omega)).2.1
    refine ⟨μ', ν', ?_, b1, hC.b (by omega), hM.b (by omega), tk.add ht (by omega) (by omega) hC hM, by rw [a4]; omega, a3, fun c j g => a2 c j (by omega) (by omega) (by omega) (by omega), b2⟩
    rw [if_neg he]
    exact a1
/-- the token of a PIECE -/
theorem cutP_both (rc : Rc ρ) (rm : Rm ρ) (hu : u < 6) (hk : k < 6) (rr : RRules μ ν) (rs : RSt μ ν 26 6) (tk : TTk μ ν (179 + 9 * u) k) {fr to sc : Int} (h5 : μ (179 + 9 * u) 5 ≤ fr) (hle : fr ≤ to) (h24 : to ≤ 24) (hsc : 1 ≤ sc) : ∃ μ' ν', ((fr = to ∧ f_Gr_cut 24 (179 + 9 * u) fr to (SH L, ρ, μ) = some (0, (SH L, ρ, μ'))) ∨ ∃ μ1, f_Gr_cut 24 (179 + 9 * u) fr to (SH L, ρ, μ) = some (1, (SH L, ρ, μ1)) ∧ f_Li_addScope (179 + 9 * u) sc (SH L, ρ, μ1) = some (SH L, ρ, μ') ∧ ∀ c j, c < 179 → μ1 c j = μ c j) ∧ f_Mo_cutOff 233 (k : Int) fr to sc (SH L, ρ, ν) = some (SH L, ρ, ν') ∧ CtB u k to μ ν μ' ν' := by
  by_cases he : fr = to
  · refine ⟨μ, ν, Or.inl ⟨he, ?_⟩, ?_, BFC.refl _ _, BFM.refl _ _, tk, by omega, fun _ _ => rfl, fun _ _ _ => rfl, fun _ _ _ => rfl⟩
    · unfold f_Gr_cut
      rw [if_pos he]
    · unfold f_Mo_cutOff
      rw [if_neg (by omega)]
  · obtain ⟨r0, r9, -, -, -, rp, -⟩ := rr
    obtain ⟨s0, s5, se, sr, -⟩ := rs
    obtain ⟨t0, -, te, -⟩ := id tk
    obtain ⟨t, ht⟩ : ∃ t : Nat, μ (179 + 9 * u) 5 = t := ⟨(μ (179 + 9 * u) 5).toNat, by omega⟩
    obtain ⟨o, ho⟩ : ∃ o : Nat, μ 26 0 = o := ⟨(μ 26 0).toNat, by omega⟩
    obtain ⟨μ1, a1, a2, a3, a4, a5, a6, a7, a8, a9, a10⟩ := e_cut (L := L) rc (s_ln hu) (rc.2.2.2.2.2.2.2 u hu) (by omega) (t := t) (o := o) (by omega) (by omega) ho (fun i hi => ⟨Int.le_trans (by decide) (sr i (by omega)).2.1, Int.le_trans (sr i (by omega)).2.2.1 (by omega)⟩) ht he
    have a11 := e_addScope (L := L) (ρ := ρ) (s_ln hu) (rc.2.2.2.2.2.2.2 u hu) (t := t) (n := o) (by omega) (by omega) a4 a8 sc
    obtain ⟨ν', b1, b2, b3, b4, b5, b6, b7, b8, b9, b10, b11⟩ := e_cutM (L := L) rm hk (t := t) (o := o) (la := sc) (by omega) (by omega) (se.trans ho) (fun i hi => by
      have := sr i (by omega)
      have e : ν 264 (30 + i) = μ 27 i := this.1
      have q1 : 1 ≤ μ 27 i := this.2.1
      have q2 : μ 27 i ≤ μ 24 1 := this.2.2.1
      rw [e]
      exact ⟨by omega, by omega⟩) (te.trans ht) (fr := fr) (to := to) (by omega)
    have hC : NtC (179 + 9 * u) t fr (o + 1) (fun i => if i < o then μ (36 + 13 * (μ 27 i).toNat) 4 else sc) μ (z_up (z_up μ1 (179 + 9 * u + 4) (6 * t + o) sc) (179 + 9 * u + 3) t ((o + 1 : Nat) : Int)) := by
      refine ⟨fun c j g1 g2 g3 g4 => (z_up_ne g3).trans ((z_up_ne g4).trans (a2 c j g1 g2 g3 g4)), fun j g => (z_up_ne (by omega)).trans ((z_up_ne (by omega)).trans (a3 j g)), (z_up_ne (by omega)).trans ((z_up_ne (by omega)).trans a4), fun j g => (z_up_ne (by omega)).trans ((z_up_ne (by omega)).trans (a5 j g)), (z_up_ne (by omega)).trans ((z_up_ne (by omega)).trans a6), fun j g => (z_up_nj g).trans ((z_up_ne (by omega)).trans (a7 j g)), z_up_eq, fun j g => (z_up_ne (by omega)).trans ((z_up_nj (by omega)).trans (a9 j g)), fun i hi => ?_⟩
      rw [z_up_ne (by omega)]
      show _ = if i < o then _ else _
      by_cases hio : i < o
      · rw [z_up_nj (by omega), if_pos hio]
        exact a10 i hio
      · obtain rfl : i = o := by omega
        rw [z_up_eq, if_neg hio]
    have hM : NtM k t fr (o + 1) (fun i => if i < o then μ (36 + 13 * (μ 27 i).toNat) 4 else sc) ν ν' := by
      refine ⟨b2, b3, b4, b5, b6, b7, b8.trans (if_neg (by omega)), b9, fun i hi => ?_⟩
      show _ = if i < o then _ else _
      by_cases hio : i < o
      · rw [if_pos hio, b10 i hio]
        have := sr i (by omega)
        have e : ν 264 (30 + i) = μ 27 i := this.1
        have q1 : 1 ≤ μ 27 i := this.2.1
        have q2 : μ 27 i ≤ μ 24 1 := this.2.2.1
        rw [e]
        exact (rp (μ 27 i).toNat (by omega) (by omega)).2.1
      · obtain rfl : i = o := by omega
        rw [if_neg hio, b11]
    refine ⟨_, ν', Or.inr ⟨μ1, a1, a11, fun c j g => a2 c j (by omega) (by omega) (by omega) (by omega)⟩, b1, hC.b (by omega), hM.b (by omega), tk.add ht (by omega) (by omega) hC hM, by rw [hC.2.2.1]; omega, hC.2.1, fun c j g => hC.1 c j (by omega) (by omega) (by omega) (by omega), b2⟩
end Tok
