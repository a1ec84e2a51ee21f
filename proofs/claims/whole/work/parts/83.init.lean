/-! What the constructors leave. TK L n: the first n cells -/
def TK (L n : Nat) : List (Nat × Nat) := (SH L).take n
def z0 {α : Type} [OfNat α 0] (f : Nat → Nat → α) (n : Nat) : Nat → Nat → α := fun a b => if a = n then 0 else f a b
set_option maxRecDepth 20000 in
theorem SH_len (L : Nat) : (SH L).length = 272 := rfl
theorem tk_len {L n : Nat} (h : n ≤ 272) : (TK L n).length = n := by
  unfold TK
  rw [List.length_take, SH_len]
  omega
theorem tk_at {L n c : Nat} (h : c < n) : (TK L n)[c]? = (SH L)[c]? := by
  unfold TK
  rw [List.getElem?_take, if_pos h]
theorem tk_lt {L n k m : Nat} (h : (SH L)[n]? = some (k, m)) : n < 272 := by
  have := (List.getElem?_eq_some_iff.mp h).1
  rwa [SH_len] at this
theorem tk_new {L n k m : Nat} {ρ : Nat → Nat → Nat} {μ : Nat → Nat → Int} (h : (SH L)[n]? = some (k, m)) : z_new (TK L n, ρ, μ) k m = (TK L (n + 1), z0 ρ n, z0 μ n) := by
  have hn := tk_lt h
  have hl : (TK L n).length = n := tk_len (by omega)
  unfold z_new z0
  simp only [hl]
  have e : TK L n ++ [(k, m)] = TK L (n + 1) := by
    unfold TK
    rw [List.take_add_one, h]
    rfl
  rw [e]
theorem tk_nw {L n k m : Nat} {x : Int} {ρ : Nat → Nat → Nat} {μ : Nat → Nat → Int} (h : (SH L)[n]? = some (k, m)) (hx : x = (m : Int)) (hm : m ≤ 100000) : z_nwA (TK L n, ρ, μ) k x = some (TK L (n + 1), z0 ρ n, z0 μ n) := by
  unfold z_nwA
  subst hx
  rw [if_pos ⟨by omega, by omega⟩, Int.toNat_natCast, tk_new h]
theorem na {L n k m kc c j nc : Nat} {x : Int} {ρ : Nat → Nat → Nat} {μ : Nat → Nat → Int} {F : zH → Option zH} (h : (SH L)[n]? = some (k, m)) (hx : x = (m : Int)) (hm : m ≤ 100000) (hC : (SH L)[c]? = some (kc, nc)) (hc : c < n) :
    ((z_nwA (TK L n, ρ, μ) k x).bind fun h1 => (z_pR h1 kc c j (TK L n, ρ, μ).1.length).bind F) = F (TK L (n + 1), z_up (z0 ρ n) c j n, z0 μ n) := by
  have hn := tk_lt h
  rw [tk_nw h hx hm, Option.bind_some, tk_len (show n ≤ 272 by omega), zpR_k (by rw [tk_at (show c < n + 1 by omega)]; exact hC), Option.bind_some]
theorem tk_pR {L n kc c j nc x : Nat} {ρ : Nat → Nat → Nat} {μ : Nat → Nat → Int} (hC : (SH L)[c]? = some (kc, nc)) (hc : c < n) : z_pR (TK L n, ρ, μ) kc c j x = some (TK L n, z_up ρ c j x, μ) := zpR_k (by rw [tk_at hc]; exact hC)
theorem tk_pI {L n kc c j nc : Nat} {x : Int} {ρ : Nat → Nat → Nat} {μ : Nat → Nat → Int} (hC : (SH L)[c]? = some (kc, nc)) (hc : c < n) : z_pI (TK L n, ρ, μ) kc c j x = some (TK L n, ρ, z_up μ c j x) := zpI_k (by rw [tk_at hc]; exact hC)
/-- what a constructor may change: its own cell, and what comes behind -/
def xt {α : Type} (c : Nat) (f f' : Nat → Nat → α) : Prop := ∀ a j, a < c → f' a j = f a j
theorem xt.tr {α : Type} {c c' : Nat} {f g k : Nat → Nat → α} (h1 : xt c f g) (h2 : xt c' g k) (hc : c ≤ c') : xt c f k := fun a j ha => (h2 a j (by omega)).trans (h1 a j ha)
def stR (ρ : Nat → Nat → Nat) (c : Nat) : Prop := ρ c 1 = c + 1 ∧ ρ c 2 = c + 2 ∧ ρ c 3 = c + 3
def ptR (ρ : Nat → Nat → Nat) (c : Nat) : Prop := ρ c 0 = c + 1 ∧ ρ c 1 = c + 2 ∧ ρ c 2 = c + 3 ∧ ρ c 3 = c + 4 ∧ ρ c 4 = c + 5
def ruR (ρ : Nat → Nat → Nat) (c : Nat) : Prop := ρ c 0 = c + 1 ∧ ρ c 1 = c + 7 ∧ ptR ρ (c + 1) ∧ ptR ρ (c + 7)
def lnR (ρ : Nat → Nat → Nat) (c : Nat) : Prop := ρ c 0 = c + 1 ∧ ρ c 2 = c + 2 ∧ ρ c 3 = c + 3 ∧ ρ c 4 = c + 4 ∧ ρ c 7 = c + 5 ∧ stR ρ (c + 5)
def stS (L c : Nat) : Prop := (SH L)[c]? = some (1, 4) ∧ (SH L)[c + 1]? = some (20, 5) ∧ (SH L)[c + 2]? = some (20, 10) ∧ (SH L)[c + 3]? = some (21, 240)
def ptS (L c : Nat) : Prop := (SH L)[c]? = some (4, 7) ∧ (SH L)[c + 1]? = some (20, 41) ∧ (SH L)[c + 2]? = some (20, 41) ∧ (SH L)[c + 3]? = some (20, 41) ∧ (SH L)[c + 4]? = some (23, 6) ∧ (SH L)[c + 5]? = some (23, 6)
def ruS (L c : Nat) : Prop := (SH L)[c]? = some (7, 6) ∧ ptS L (c + 1) ∧ ptS L (c + 7)
def lnS (L c : Nat) : Prop := (SH L)[c]? = some (2, 8) ∧ (SH L)[c + 1]? = some (21, 24) ∧ (SH L)[c + 2]? = some (20, 24) ∧ (SH L)[c + 3]? = some (20, 24) ∧ (SH L)[c + 4]? = some (20, 144) ∧ stS L (c + 5)
theorem i_St {L c : Nat} (hS : stS L c) (ρ : Nat → Nat → Nat) (μ : Nat → Nat → Int) : ∃ ρ' μ', f_St_init c (TK L (c + 1), ρ, μ) = some (TK L (c + 4), ρ', μ') ∧ xt c ρ ρ' ∧ xt (c + 1) μ μ' ∧ stR ρ' c := by
  obtain ⟨h0, h1, h2, h3⟩ := hS
  unfold f_St_init
  rw [na (x := 5) h1 rfl (by decide) h0 (by omega), na (x := 10) h2 rfl (by decide) h0 (by omega), na (x := 240) h3 rfl (by decide) h0 (by omega)]
  refine ⟨_, _, rfl, fun a j ha => ?_, fun a j ha => ?_, ?_, ?_, ?_⟩
  · simp only [z_up, z0]
    simp [show a ≠ c by omega, show a ≠ c + 1 by omega, show a ≠ c + 2 by omega, show a ≠ c + 3 by omega]
  · simp only [z0]
    simp [show a ≠ c + 1 by omega, show a ≠ c + 2 by omega, show a ≠ c + 3 by omega]
  · simp [z_up, z0]
  · simp [z_up, z0]
  · simp [z_up, z0]
theorem i_Pt {L c : Nat} (hS : ptS L c) (ρ : Nat → Nat → Nat) (μ : Nat → Nat → Int) : ∃ ρ' μ', f_Pt_init c (TK L (c + 1), ρ, μ) = some (TK L (c + 6), ρ', μ') ∧ xt c ρ ρ' ∧ xt (c + 1) μ μ' ∧ ptR ρ' c := by
  obtain ⟨h0, h1, h2, h3, h4, h5⟩ := hS
  unfold f_Pt_init
  rw [na (x := 41) h1 rfl (by decide) h0 (by omega), na (x := 41) h2 rfl (by decide) h0 (by omega), na (x := 41) h3 rfl (by decide) h0 (by omega), na (x := 6) h4 rfl (by decide) h0 (by omega), na (x := 6) h5 rfl (by decide) h0 (by omega)]
  refine ⟨_, _, rfl, fun a j ha => ?_, fun a j ha => ?_, ?_, ?_, ?_, ?_, ?_⟩
  · simp only [z_up, z0]
    simp [show a ≠ c by omega, show a ≠ c + 1 by omega, show a ≠ c + 2 by omega, show a ≠ c + 3 by omega, show a ≠ c + 4 by omega, show a ≠ c + 5 by omega]
  · simp only [z0]
    simp [show a ≠ c + 1 by omega, show a ≠ c + 2 by omega, show a ≠ c + 3 by omega, show a ≠ c + 4 by omega, show a ≠ c + 5 by omega]
  · simp [z_up, z0]
  · simp [z_up, z0]
  · simp [z_up, z0]
  · simp [z_up, z0]
  · simp [z_up, z0]
theorem z0_ne {α : Type} [OfNat α 0] {f : Nat → Nat → α} {n a b : Nat} (h : a ≠ n) : z0 f n a b = f a b := if_neg h
theorem xt_z0 {α : Type} [OfNat α 0] {c n : Nat} {f : Nat → Nat → α} (h : c ≤ n) : xt c f (z0 f n) := fun a j ha => z0_ne (by omega)
theorem xt_up {α : Type} {c n k : Nat} {x : α} {f : Nat → Nat → α} (h : c ≤ n) : xt c f (z_up f n k x) := fun a j ha => z_up_ne (by omega)
theorem ptR.of {c d : Nat} {ρ ρ' : Nat → Nat → Nat} (h : ptR ρ c) (hx : xt d ρ ρ') (hd : c < d) : ptR ρ' c := by
  unfold ptR at h ⊢
  rw [hx c 0 hd, hx c 1 hd, hx c 2 hd, hx c 3 hd, hx c 4 hd]
  exact h
theorem stR.of {c d : Nat} {ρ ρ' : Nat → Nat → Nat} (h : stR ρ c) (hx : xt d ρ ρ') (hd : c < d) : stR ρ' c := by
  unfold stR at h ⊢
  rw [hx c 1 hd, hx c 2 hd, hx c 3 hd]
  exact h
theorem ptR.up {c d j x : Nat} {ρ : Nat → Nat → Nat} (h : ptR ρ c) (hd : c ≠ d) : ptR (z_up ρ d j x) c := by
  unfold ptR at h ⊢
  rw [z_up_ne hd, z_up_ne hd, z_up_ne hd, z_up_ne hd, z_up_ne hd]
  exact h
theorem stR.up {c d j x : Nat} {ρ : Nat → Nat → Nat} (h : stR ρ c) (hd : c ≠ d) : stR (z_up ρ d j x) c := by
  unfold stR at h ⊢
  rw [z_up_ne hd, z_up_ne hd, z_up_ne hd]
  exact h
theorem ruR.of {c d : Nat} {ρ ρ' : Nat → Nat → Nat} (h : ruR ρ c) (hx : xt d ρ ρ') (hd : c + 7 < d) : ruR ρ' c := by
  obtain ⟨h1, h2, h3, h4⟩ := h
  exact ⟨(hx c 0 (by omega)).trans h1, (hx c 1 (by omega)).trans h2, h3.of hx (by omega), h4.of hx hd⟩
theorem ruR.up {c d j x : Nat} {ρ : Nat → Nat → Nat} (h : ruR ρ c) (h0 : c ≠ d) (h1 : c + 1 ≠ d) (h7 : c + 7 ≠ d) : ruR (z_up ρ d j x) c := by
  obtain ⟨g1, g2, g3, g4⟩ := h
  exact ⟨(z_up_ne h0).trans g1, (z_up_ne h0).trans g2, g3.up h1, g4.up h7⟩
theorem lnR.of {c d : Nat} {ρ ρ' : Nat → Nat → Nat} (h : lnR ρ c) (hx : xt d ρ ρ') (hd : c + 5 < d) : lnR ρ' c := by
  obtain ⟨h1, h2, h3, h4, h5, h6⟩ := h
  exact ⟨(hx c 0 (by omega)).trans h1, (hx c 2 (by omega)).trans h2, (hx c 3 (by omega)).trans h3, (hx c 4 (by omega)).trans h4, (hx c 7 (by omega)).trans h5, h6.of hx hd⟩
theorem lnR.up {c d j x : Nat} {ρ : Nat → Nat → Nat} (h : lnR ρ c) (h0 : c ≠ d) (h5 : c + 5 ≠ d) : lnR (z_up ρ d j x) c := by
  obtain ⟨g1, g2, g3, g4, g5, g6⟩ := h
  exact ⟨(z_up_ne h0).trans g1, (z_up_ne h0).trans g2, (z_up_ne h0).trans g3, (z_up_ne h0).trans g4, (z_up_ne h0).trans g5, g6.up h5⟩
theorem i_Ru {L c : Nat} (hS : ruS L c) (ρ : Nat → Nat → Nat) (μ : Nat → Nat → Int) : ∃ ρ' μ', f_Ru_init c (TK L (c + 1), ρ, μ) = some (TK L (c + 13), ρ', μ') ∧ xt c ρ ρ' ∧ xt c μ μ' ∧ ruR ρ' c ∧ μ' c 5 = -1 := by
  obtain ⟨h0, hp, hq⟩ := hS
  have l1 := tk_lt hp.1
  have l2 := tk_lt hq.2.2.2.2.2
  unfold f_Ru_init
  rw [tk_len (show c + 1 ≤ 272 by omega), tk_new hp.1]
  obtain ⟨ρ1, μ1, e1, x1, y1, p1⟩ := i_Pt hp (z0 ρ (c + 1)) (z0 μ (c + 1))
  rw [e1, Option.bind_some, tk_pR h0 (by omega), Option.bind_some, tk_len (show c + 1 + 6 ≤ 272 by omega), tk_new hq.1]
  obtain ⟨ρ2, μ2, e2, x2, y2, p2⟩ := i_Pt hq (z0 (z_up ρ1 c 0 (c + 1)) (c + 7)) (z0 μ1 (c + 7))
  rw [e2, Option.bind_some, tk_pR h0 (by omega), Option.bind_some, tk_pI h0 (by omega), Option.bind_some]
  have q1 : xt c ρ ρ1 := (xt_z0 (by omega)).tr x1 (by omega)
  have q2 : xt c ρ1 ρ2 := fun a j ha => by rw [x2 a j (by omega), z0_ne (by omega), z_up_ne (by omega)]
  have m1 : xt c μ μ1 := (xt_z0 (by omega)).tr y1 (by omega)
  have m2 : xt c μ1 μ2 := (xt_z0 (by omega)).tr y2 (by omega)
  refine ⟨_, _, rfl, (q1.tr q2 (Nat.le_refl _)).tr (xt_up (Nat.le_refl _)) (Nat.le_refl _), (m1.tr m2 (Nat.le_refl _)).tr (xt_up (Nat.le_refl _)) (Nat.le_refl _), ⟨?_, ?_, ?_, ?_⟩, z_up_eq⟩
  · rw [z_up_nj (by decide), x2 c 0 (by omega), z0_ne (by omega), z_up_eq]
  · rw [z_up_eq]
  · refine ptR.up (((p1.up (by omega)).of (xt_z0 (c := c + 7) (by omega)) (by omega)).of x2 (by omega)) (by omega)
  · exact p2.up (by omega)
theorem i_Li {L c : Nat} (hS : lnS L c) (ρ : Nat → Nat → Nat) (μ : Nat → Nat → Int) : ∃ ρ' μ', f_Li_init c (TK L (c + 1), ρ, μ) = some (TK L (c + 9), ρ', μ') ∧ xt c ρ ρ' ∧ xt c μ μ' ∧ lnR ρ' c := by
  obtain ⟨h0, h1, h2, h3, h4, hs⟩ := hS
  have l2 := tk_lt hs.2.2.2
  unfold f_Li_init
  rw [na (x := 24) h1 rfl (by decide) h0 (by omega), na (x := 24) h2 rfl (by decide) h0 (by omega), na (x := 24) h3 rfl (by decide) h0 (by omega), na (x := 144) h4 rfl (by decide) h0 (by omega), tk_len (show c + 1 + 1 + 1 + 1 + 1 ≤ 272 by omega), tk_new hs.1]
  generalize hρ1 : z_up (z0 (z_up (z0 (z_up (z0 (z_up (z0 ρ (c + 1)) c 0 (c + 1)) (c + 1 + 1)) c 2 (c + 1 + 1)) (c + 1 + 1 + 1)) c 3 (c + 1 + 1 + 1)) (c + 1 + 1 + 1 + 1)) c 4 (c + 1 + 1 + 1 + 1) = ρ1
  generalize hμ1 : z0 (z0 (z0 (z0 μ (c + 1)) (c + 1 + 1)) (c + 1 + 1 + 1)) (c + 1 + 1 + 1 + 1) = μ1
  obtain ⟨ρ2, μ2, e2, x2, y2, p2⟩ := i_St hs (z0 ρ1 (c + 5)) (z0 μ1 (c + 5))
  rw [e2, Option.bind_some, tk_pR h0 (by omega), Option.bind_some]
  have q1 : xt c ρ ρ1 := by
    intro a j ha
    rw [← hρ1]
    simp only [z_up, z0]
    simp [show a ≠ c by omega, show a ≠ c + 1 by omega, show a ≠ c + 1 + 1 by omega, show a ≠ c + 1 + 1 + 1 by omega, show a ≠ c + 1 + 1 + 1 + 1 by omega]
  have m1 : xt c μ μ1 := by
    intro a j ha
    rw [← hμ1]
    simp only [z0]
    simp [show a ≠ c + 1 by omega, show a ≠ c + 1 + 1 by omega, show a ≠ c + 1 + 1 + 1 by omega, show a ≠ c + 1 + 1 + 1 + 1 by omega]
  have q2 : xt c ρ1 ρ2 := (xt_z0 (by omega)).tr x2 (by omega)
  have m2 : xt c μ1 μ2 := (xt_z0 (by omega)).tr y2 (by omega)
  have own : ∀ j, j ≠ 7 → z_up ρ2 c 7 (c + 5) c j = ρ1 c j := fun j hj => by rw [z_up_nj hj, x2 c j (by omega), z0_ne (by omega)]
  refine ⟨_, _, rfl, (q1.tr q2 (Nat.le_refl _)).tr (xt_up (Nat.le_refl _)) (Nat.le_refl _), m1.tr m2 (Nat.le_refl _), ⟨?_, ?_, ?_, ?_, z_up_eq, p2.up (by omega)⟩⟩
  · rw [own 0 (by decide), ← hρ1]
    simp [z_up, z0]
    try (repeat' split)
    all_goals omega
  · rw [own 2 (by decide), ← hρ1]
    simp [z_up, z0]
    try (repeat' split)
    all_goals omega
  · rw [own 3 (by decide), ← hρ1]
    simp [z_up, z0]
    try (repeat' split)
    all_goals omega
  · rw [own 4 (by decide), ← hρ1]
    simp [z_up, z0]
    try (repeat' split)
    all_goals omega
