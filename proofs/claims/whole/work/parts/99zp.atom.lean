/-! One atom -/
def AtS (op f : Int) (lo hi : Nat → Int) (c : Nat → Int) (k a : Nat) : Prop := ∀ (len : Int) (tx : Nat → Int) (he : Int), lOk len tx → 0 ≤ he → he ≤ len →
  (mA c k a len tx he = -1 ∧ (aF op f lo hi len tx he).1 = 0) ∨
  (0 ≤ mA c k a len tx he ∧ (aF op f lo hi len tx he).1 = 1 ∧ (aF op f lo hi len tx he).2 = mA c k a len tx he ∧ ((mA c k a len tx he = he + 1 ∧ he < len) ∨ (mA c k a len tx he = he ∧ (op = 3 ∨ op = 4))))
theorem AtS_3 {f : Int} {lo hi c : Nat → Int} {k a : Nat} (h : c k = 94) : AtS 3 f lo hi c k a := by
  intro len tx he _ h0 h1
  unfold mA aF
  rw [if_pos h, if_pos rfl]
  by_cases g : he = 0
  · rw [if_pos g, if_pos g]
    exact Or.inr ⟨h0, rfl, rfl, Or.inr ⟨rfl, Or.inl rfl⟩⟩
  · rw [if_neg g, if_neg g]
    exact Or.inl ⟨rfl, rfl⟩
theorem AtS_4 {f : Int} {lo hi c : Nat → Int} {k a : Nat} (h : c k = 36) : AtS 4 f lo hi c k a := by
  intro len tx he _ h0 h1
  unfold mA aF
  rw [if_neg (by omega), if_pos h, if_neg (show ¬ (4 : Int) = 3 by decide), if_pos (show (4 : Int) = 4 from rfl)]
  by_cases g : he = len
  · rw [if_pos g, if_pos g]
    exact Or.inr ⟨h0, rfl, rfl, Or.inr ⟨rfl, Or.inr rfl⟩⟩
  · rw [if_neg g, if_neg g]
    exact Or.inl ⟨rfl, rfl⟩
/-- an atom that eats a character: by what it asks of the character -/
theorem AtS_e {op f : Int} {lo hi c : Nat → Int} {k a : Nat} (h3 : op ≠ 3) (h4 : op ≠ 4) (c3 : c k ≠ 94) (c4 : c k ≠ 36) (fit : Int → Int)
    (hm : ∀ d : Int, 32 ≤ d → d ≤ 126 → (if c k = 46 then 1 else if c k = 91 then inI c k a d else if c k = 92 then (if c (k + 1) = d then 1 else 0) else if c k = d then 1 else 0) = fit d)
    (ha : ∀ d : Int, 32 ≤ d → d ≤ 126 → (if op = 1 then 1 else if op = 0 then (if d = f then 1 else 0) else if op = 2 then inS lo hi f d else 0) = fit d) (h01 : ∀ d : Int, 32 ≤ d → d ≤ 126 → fit d = 0 ∨ fit d = 1) : AtS op f lo hi c k a := by
  intro len tx he hl h0 h1
  unfold mA aF
  rw [if_neg c3, if_neg c4, if_neg h3, if_neg h4]
  by_cases g : he < len
  · obtain ⟨q1, q2⟩ := hl.2.2 he.toNat (by omega)
    rw [if_pos g, if_pos g, hm _ q1 q2, ha _ q1 q2]
    obtain z | z := h01 _ q1 q2
    · rw [z, if_pos rfl]
      exact Or.inl ⟨rfl, rfl⟩
    · rw [z, if_neg (by decide)]
      exact Or.inr ⟨by omega, rfl, rfl, Or.inl ⟨rfl, g⟩⟩
  · rw [if_neg g, if_neg g]
    exact Or.inl ⟨rfl, rfl⟩
/-- what an atom at i is: it goes to b, sc sets were there -/
def AtG (c : Nat → Int) (en : Bool) (i b : Nat) (op f : Int) (sc sc' : Nat) (em : Int) (lo hi : Nat → Int) : Prop := i < b ∧ b ≤ 20 ∧
  ((isR c i = 1 ∧ en = true ∧ op = 5 ∧ em = 1 ∧ sc' = sc ∧ ∃ t : Nat, t < 2 ∧ c (i + 1) = 49 + t ∧ f = 1 + t) ∨
   (isR c i = 0 ∧ 0 ≤ op ∧ op < 5 ∧ ((op = 2 ∧ f = sc ∧ sc' = sc + 1 ∧ i + 3 ≤ b) ∨ (op ≠ 2 ∧ sc' = sc)) ∧ ((em = 1 ∧ (op = 3 ∨ op = 4)) ∨ (em = 0 ∧ op ≠ 3 ∧ op ≠ 4)) ∧ AtS op f lo hi c i b))
section Atm
variable {L : Nat} {ρ : Nat → Nat → Nat} {p : Nat}
theorem AOk.of {Z sc q : Nat} {op f : Int} {μ μ' : Nat → Nat → Int} (hp6 : 36 ≤ p) (hi : InsH p Z Z op f 0 μ μ') (h2 : μ 3 2 = q) (h6 : μ p 6 = sc) : AOk p Z op f q sc sc μ μ' := by
  obtain ⟨i2, i3, i4, i5, i6, i7⟩ := hi
  exact ⟨fun c j g1 g2 => i2 c j (by omega), fun j _ _ _ => i2 3 j (by omega), (i2 3 2 (by omega)).trans h2, i4, (i3 6 (by decide)).trans h6, ⟨i5, i6, i7⟩, fun j hj => ⟨i2 _ j (by omega), i2 _ j (by omega)⟩⟩
/-- the class's atom; the character has been read, the place is behind it -/
theorem e_atom (rc : Rc ρ) (hp : ptS L p) (pr : ptR ρ p) (hp6 : 36 ≤ p) {n i Z sc : Nat} {c : Nat → Int} {en : Bool} {μ : Nat → Nat → Int} (hs : Src μ n c) (hi : i < n) (h2 : μ 3 2 = ((i + 1 : Nat) : Int)) (h3 : μ 3 3 = if en = true then 1 else 0) (h4 : μ 3 4 = 0) (hZ : Z < 41) (h5 : μ p 5 = Z) (hsc : 3 * sc ≤ i) (h6 : μ p 6 = sc) (hb : ∀ j, j < n → c j ≠ 32) (hci : c i ≠ 40 ∧ c i ≠ 41 ∧ c i ≠ 124) :
    ∃ (em : Int) (μ' : Nat → Nat → Int), f_Pr_readAtom 3 (c i) p (SH L, ρ, μ) = some (em, (SH L, ρ, μ')) ∧
    ((∃ (b sc' : Nat) (op f : Int), AtG c en i b op f sc sc' em (μ' (p + 4)) (μ' (p + 5)) ∧ b ≤ n ∧ AOk p Z op f b sc sc' μ μ' ∧
       ((c i = 91 ∧ ∃ k0 e : Nat, ((c (i + 1) = 94 ∧ k0 = i + 2) ∨ (c (i + 1) ≠ 94 ∧ k0 = i + 1)) ∧ itE c n (n - k0 + 1) k0 = some e ∧ e ≠ k0 ∧ e < n ∧ b = e + 1) ∨
        (c i = 92 ∧ b = i + 2 ∧ i + 1 < n ∧ (48 ≤ c (i + 1) ∧ c (i + 1) ≤ 57 → en = true ∧ (c (i + 1) = 49 ∨ c (i + 1) = 50))) ∨
        (c i ≠ 91 ∧ c i ≠ 92 ∧ c i ≠ 42 ∧ c i ≠ 43 ∧ c i ≠ 63 ∧ b = i + 1))) ∨
     (Bd p Z μ μ' ∧ (em = 0 ∨ em = 1) ∧
       ((c i = 91 ∧ ∃ k0 : Nat, ((c (i + 1) = 94 ∧ k0 = i + 2) ∨ (c (i + 1) ≠ 94 ∧ k0 = i + 1)) ∧ (itE c n (n - k0 + 1) k0 = none ∨ ∃ e, itE c n (n - k0 + 1) k0 = some e ∧ (e = k0 ∨ n ≤ e))) ∨
        (c i = 92 ∧ (n ≤ i + 1 ∨ (48 ≤ c (i + 1) ∧ c (i + 1) ≤ 57 ∧ ¬ (en = true ∧ (c (i + 1) = 49 ∨ c (i + 1) = 50))))) ∨
        c i = 42 ∨ c i = 43 ∨ c i = 63))) := by
  have s20 := hs.2.1
  obtain ⟨ck, ck0, ck1⟩ := hs.2.2.1 i hi
  have r0 : c i ≠ 92 → isR c i = 0 := fun g => if_neg fun z => g z.1
  have bdA : Bd p Z μ (z_up μ 3 4 1) := ⟨fun c' j g1 _ _ => z_up_ne g1, fun j _ g2 _ _ => z_up_nj g2, ⟨z_up_eq, by rw [z_up_nj (by decide), h2]; omega⟩, ⟨Z, (z_up_ne (by omega)).trans h5, by omega, Nat.le_refl _⟩, fun j _ => z_up_ne (by omega)⟩
  -- a plain instruction
  have pl : ∀ (op f em : Int), (0 ≤ op ∧ op < 5 ∧ op ≠ 2) → ((em = 1 ∧ (op = 3 ∨ op = 4)) ∨ (em = 0 ∧ op ≠ 3 ∧ op ≠ 4)) → (∀ lo hi, AtS op f lo hi c i (i + 1)) → c i ≠ 91 → c i ≠ 92 → c i ≠ 42 → c i ≠ 43 → c i ≠ 63 → f_Pr_readAtom 3 (c i) p (SH L, ρ, μ) = ((z_ck (SH L, ρ, μ) 4 p).bind fun _ => (f_Pt_append p op f (SH L, ρ, μ)).bind fun h => some (em, h)) → ∃ (em : Int) (μ' : Nat → Nat → Int), f_Pr_readAtom 3 (c i) p (SH L, ρ, μ) = some (em, (SH L, ρ, μ')) ∧ ∃ (b sc' : Nat) (op f : Int), AtG c en i b op f sc sc' em (μ' (p + 4)) (μ' (p + 5)) ∧ b ≤ n ∧ AOk p Z op f b sc sc' μ μ' ∧ ((c i = 91 ∧ ∃ k0 e : Nat, ((c (i + 1) = 94 ∧ k0 = i + 2) ∨ (c (i + 1) ≠ 94 ∧ k0 = i + 1)) ∧ itE c n (n - k0 + 1) k0 = some e ∧ e ≠ k0 ∧ e < n ∧ b = e + 1) ∨ (c i = 92 ∧ b = i + 2 ∧ i + 1 < n ∧ (48 ≤ c (i + 1) ∧ c (i + 1) ≤ 57 → en = true ∧ (c (i + 1) = 49 ∨ c (i + 1) = 50))) ∨ (c i ≠ 91 ∧ c i ≠ 92 ∧ c i ≠ 42 ∧ c i ≠ 43 ∧ c i ≠ 63 ∧ b = i + 1)) := by
    intro op f em ho he ha n1 n2 n3 n4 n5 e0
    obtain ⟨μ', i1, i2⟩ := e_append (L := L) (ρ := ρ) hp pr (Z := Z) (op := op) (f := f) (μ := μ) hZ h5
    refine ⟨em, μ', ?_, i + 1, sc, op, f, ⟨by omega, by omega, Or.inr ⟨r0 n2, ho.1, ho.2.1, Or.inr ⟨ho.2.2, rfl⟩, he, ha _ _⟩⟩, by omega, AOk.of hp6 i2 h2 h6, Or.inr (Or.inr ⟨n1, n2, n3, n4, n5, rfl⟩)⟩
    rw [e0, zck_k hp.1, Option.bind_some, i1, Option.bind_some]
  unfold f_Pr_readAtom at *
  by_cases c36 : c i = 36
  · rw [if_pos c36] at *
    obtain ⟨em, μ', q1, q2⟩ := pl 4 0 1 (by decide) (Or.inl ⟨rfl, Or.inr rfl⟩) (fun lo hi => AtS_4 c36) (by omega) (by omega) (by omega) (by omega) (by omega) rfl
    exact ⟨em, μ', q1, Or.inl q2⟩
  rw [if_neg c36] at *
  by_cases c42 : c i = 42
  · rw [if_pos c42] at *
    refine ⟨0, z_up μ 3 4 1, ?_, Or.inr ⟨bdA, Or.inl rfl, Or.inr (Or.inr (Or.inl c42))⟩⟩
    unfold f_Pr_readAtom_113
    rw [zpZ_k s_3 (Or.inr rfl), Option.bind_some]
  rw [if_neg c42] at *
  by_cases c43 : c i = 43
  · rw [if_pos c43] at *
    refine ⟨0, z_up μ 3 4 1, ?_, Or.inr ⟨bdA, Or.inl rfl, Or.inr (Or.inr (Or.inr (Or.inl c43)))⟩⟩
    unfold f_Pr_readAtom_113
    rw [zpZ_k s_3 (Or.inr rfl), Option.bind_some]
  rw [if_neg c43] at *
  by_cases c46 : c i = 46
  · rw [if_pos c46] at *
    obtain ⟨em, μ', q1, q2⟩ := pl 1 0 0 (by decide) (Or.inr ⟨rfl, by decide, by decide⟩) (fun lo hi => AtS_e (by decide) (by decide) (by omega) (by omega) (fun _ => 1) (fun d _ _ => by rw [if_pos c46]) (fun d _ _ => by rw [if_pos rfl]) (fun d _ _ => Or.inr rfl)) (by omega) (by omega) (by omega) (by omega) (by omega) rfl
    exact ⟨em, μ', q1, Or.inl q2⟩
  rw [if_neg c46] at *
  by_cases c63 : c i = 63
  · rw [if_pos c63] at *
    refine ⟨0, z_up μ 3 4 1, ?_, Or.inr ⟨bdA, Or.inl rfl, Or.inr (Or.inr (Or.inr (Or.inr c63)))⟩⟩
    unfold f_Pr_readAtom_113
    rw [zpZ_k s_3 (Or.inr rfl), Option.bind_some]
  rw [if_neg c63] at *
  by_cases c91 : c i = 91
  · rw [if_pos c91, zck_k s_3, Option.bind_some]
    obtain ⟨μ', q1, q2⟩ := e_readSet (L := L) rc hp pr hp6 hs (show i + 1 ≤ n by omega) h2 h4 hZ h5 (by omega) h6
    rw [q1, Option.bind_some]
    refine ⟨0, μ', rfl, ?_⟩
    obtain ⟨k0, e, u1, u2, u3, u4, u5, u6⟩ | ⟨⟨k0, u1, u2⟩, u3⟩ := q2
    · refine Or.inl ⟨e + 1, sc + 1, 2, sc, ⟨?_, by omega, Or.inr ⟨r0 (by omega), by decide, by decide, Or.inl ⟨rfl, rfl, rfl, ?_⟩, Or.inr ⟨rfl, by decide, by decide⟩, ?_⟩⟩, by omega, u5, Or.inl ⟨c91, k0, e, by omega, u2, u3, u4, rfl⟩⟩
      · have key : k0 ≤ e := by
          have := inL_key u2
          omega
        omega
      · have key : k0 ≤ e := inL_key u2
        omega
      · refine AtS_e (by decide) (by decide) (by omega) (by omega) (fun d => if (if c (i + 1) = 94 then !itM c n d (n - k0 + 1) k0 else itM c n d (n - k0 + 1) k0) = true then 1 else 0) (fun d d0 d1 => ?_) (fun d d0 d1 => ?_) (fun d _ _ => ?_)
        · rw [if_neg c46, if_pos c91]
          unfold inI
          have hL := inL_eq (c := c) (n := n) (d := d) (n - k0 + 1) 25 k0 e 0 u2 u4 (by omega) (Or.inl rfl)
          rw [Nat.add_sub_cancel]
          obtain ⟨z1, z2⟩ | ⟨z1, z2⟩ := u1
          · rw [if_pos z1, if_pos z1, show i + 2 = k0 by omega, hL]
            cases hM : itM c n d (n - k0 + 1) k0 <;> simp
          · rw [if_neg z1, if_neg z1, show i + 1 = k0 by omega, hL]
            cases hM : itM c n d (n - k0 + 1) k0 <;> simp
        · rw [if_neg (by decide), if_neg (by decide), if_pos rfl, inS_b d0 d1, Int.toNat_natCast, u6 d d0 d1]
        · by_cases z : (if c (i + 1) = 94 then !itM c n d (n - k0 + 1) k0 else itM c n d (n - k0 + 1) k0) = true
          · exact Or.inr (if_pos z)
          · exact Or.inl (if_neg z)
    · exact Or.inr ⟨u3, Or.inl rfl, Or.inl ⟨c91, k0, by omega, u2⟩⟩
  rw [if_neg c91] at *
  by_cases c92 : c i = 92
  · rw [if_pos c92, zck_k s_3, Option.bind_some]
    clear pl
    -- an escape
    unfold f_Pr_readEscape
    rw [zgI_k s_3, Option.bind_some, h2, zgI_k s_3, Option.bind_some, hs.1]
    by_cases g1 : i + 1 = n
    · rw [if_pos (by omega), zpZ_k s_3 (Or.inr rfl), Option.bind_some, Option.bind_some]
      dsimp only
      unfold z_bo
      rw [if_pos (Or.inl rfl), Option.bind_some]
      exact ⟨0, _, rfl, Or.inr ⟨bdA, Or.inl rfl, Or.inr (Or.inl ⟨c92, Or.inl (by omega)⟩)⟩⟩
    have hi1 : i + 1 < n := by omega
    obtain ⟨d1, d0, d2⟩ := hs.2.2.1 (i + 1) hi1
    have dn : c (i + 1) ≠ 0 := by omega
    rw [if_neg (by omega), zgR_k s_3 rc.2.1.1 (by decide), Option.bind_some, Option.bind_some, zaI_k s_4 (by omega) (by omega), Option.bind_some, Int.toNat_natCast, d1, Option.bind_some, zw_of (by omega) (by omega), zpI_k s_3, Option.bind_some, show ((i + 1 : Nat) : Int) + 1 = ((i + 2 : Nat) : Int) by omega]
    have h5' : z_up μ 3 2 ((i + 2 : Nat) : Int) p 5 = Z := (z_up_ne (by omega)).trans h5
    have tr : ∀ {op f : Int} {μ' : Nat → Nat → Int}, InsH p Z Z op f 0 (z_up μ 3 2 ((i + 2 : Nat) : Int)) μ' → AOk p Z op f (i + 2) sc sc μ μ' := by
      intro op f μ' hin
      obtain ⟨v1, v2, v3, v4, v5, v6, v7⟩ := AOk.of (sc := sc) (q := i + 2) hp6 hin z_up_eq ((z_up_ne (by omega)).trans h6)
      have fc : ∀ q, q ≠ 3 → z_up μ 3 2 ((i + 2 : Nat) : Int) q = μ q := fun q hq => funext fun j => z_up_ne hq
      rw [fc _ (by omega), fc _ (by omega), fc _ (by omega)] at v6
      exact ⟨fun c' j g1 g2 => (v1 c' j g1 g2).trans (z_up_ne g1), fun j g1 g2 g3 => (v2 j g1 g2 g3).trans (z_up_nj g1), v3, v4, v5, v6, fun j hj => ⟨(v7 j hj).1.trans (z_up_ne (by omega)), (v7 j hj).2.trans (z_up_ne (by omega))⟩⟩
    -- a character that stands for itself
    have chr : ¬ (48 ≤ c (i + 1) ∧ c (i + 1) ≤ 57) → ∃ (em : Int) (μ' : Nat → Nat → Int), ((f_Pr_readEscape_50 p (c (i + 1)) (SH L, ρ, z_up μ 3 2 ((i + 2 : Nat) : Int))).bind fun q15 => (z_bo q15.1).bind fun b => some (b, q15.2)) = some (em, (SH L, ρ, μ')) ∧ ((∃ (b sc' : Nat) (op f : Int), AtG c en i b op f sc sc' em (μ' (p + 4)) (μ' (p + 5)) ∧ b ≤ n ∧ AOk p Z op f b sc sc' μ μ' ∧ ((c i = 91 ∧ ∃ k0 e : Nat, ((c (i + 1) = 94 ∧ k0 = i + 2) ∨ (c (i + 1) ≠ 94 ∧ k0 = i + 1)) ∧ itE c n (n - k0 + 1) k0 = some e ∧ e ≠ k0 ∧ e < n ∧ b = e + 1) ∨ (c i = 92 ∧ b = i + 2 ∧ i + 1 < n ∧ (48 ≤ c (i + 1) ∧ c (i + 1) ≤ 57 → en = true ∧ (c (i + 1) = 49 ∨ c (i + 1) = 50))) ∨ (c i ≠ 91 ∧ c i ≠ 92 ∧ c i ≠ 42 ∧ c i ≠ 43 ∧ c i ≠ 63 ∧ b = i + 1)))) := by
      intro nd
      obtain ⟨μ', i1, i2⟩ := e_append (L := L) (ρ := ρ) hp pr (Z := Z) (op := 0) (f := c (i + 1)) (μ := z_up μ 3 2 ((i + 2 : Nat) : Int)) hZ h5'
      refine ⟨0, μ', ?_, i + 2, sc, 0, c (i + 1), ⟨by omega, by omega, Or.inr ⟨if_neg (fun z => nd z.2), by decide, by decide, Or.inr ⟨by decide, rfl⟩, Or.inr ⟨rfl, by decide, by decide⟩, ?_⟩⟩, by omega, tr i2, Or.inr (Or.inl ⟨c92, rfl, hi1, fun z => absurd z nd⟩)⟩
      · unfold f_Pr_readEscape_50 z_bo
        rw [zck_k hp.1, Option.bind_some, i1, Option.bind_some, Option.bind_some]
        dsimp only
        rw [if_pos (Or.inl rfl), Option.bind_some]
      · refine AtS_e (by decide) (by decide) (by omega) (by omega) (fun d => if c (i + 1) = d then 1 else 0) (fun d _ _ => ?_) (fun d _ _ => ?_) (fun d _ _ => ?_)
        · rw [if_neg c46, if_neg c91, if_pos c92]
        · rw [if_neg (by decide), if_pos rfl]
          by_cases z : c (i + 1) = d
          · rw [if_pos z, if_pos z.symm]
          · rw [if_neg z, if_neg (fun w => z w.symm)]
        · by_cases z : c (i + 1) = d
          · exact Or.inr (if_pos z)
          · exact Or.inl (if_neg z)
    -- a text
    have txt : ∀ bd : Int, (48 ≤ c (i + 1) ∧ c (i + 1) ≤ 57) → ((bd = 0 ∧ en = true ∧ (c (i + 1) = 49 ∨ c (i + 1) = 50)) ∨ (bd = 1 ∧ ¬ (en = true ∧ (c (i + 1) = 49 ∨ c (i + 1) = 50)))) → ∃ (em : Int) (μ' : Nat → Nat → Int), ((f_Pr_readEscape_83 p (c (i + 1)) 3 bd (SH L, ρ, z_up μ 3 2 ((i + 2 : Nat) : Int))).bind fun q15 => (z_bo q15.1).bind fun b => some (b, q15.2)) = some (em, (SH L, ρ, μ')) ∧ ((∃ (b sc' : Nat) (op f : Int), AtG c en i b op f sc sc' em (μ' (p + 4)) (μ' (p + 5)) ∧ b ≤ n ∧ AOk p Z op f b sc sc' μ μ' ∧ ((c i = 91 ∧ ∃ k0 e : Nat, ((c (i + 1) = 94 ∧ k0 = i + 2) ∨ (c (i + 1) ≠ 94 ∧ k0 = i + 1)) ∧ itE c n (n - k0 + 1) k0 = some e ∧ e ≠ k0 ∧ e < n ∧ b = e + 1) ∨ (c i = 92 ∧ b = i + 2 ∧ i + 1 < n ∧ (48 ≤ c (i + 1) ∧ c (i + 1) ≤ 57 → en = true ∧ (c (i + 1) = 49 ∨ c (i + 1) = 50))) ∨ (c i ≠ 91 ∧ c i ≠ 92 ∧ c i ≠ 42 ∧ c i ≠ 43 ∧ c i ≠ 63 ∧ b = i + 1))) ∨ (Bd p Z μ μ' ∧ (em = 0 ∨ em = 1) ∧ ((c i = 91 ∧ ∃ k0 : Nat, ((c (i + 1) = 94 ∧ k0 = i + 2) ∨ (c (i + 1) ≠ 94 ∧ k0 = i + 1)) ∧ (itE c n (n - k0 + 1) k0 = none ∨ ∃ e, itE c n (n - k0 + 1) k0 = some e ∧ (e = k0 ∨ n ≤ e))) ∨ (c i = 92 ∧ (n ≤ i + 1 ∨ (48 ≤ c (i + 1) ∧ c (i + 1) ≤ 57 ∧ ¬ (en = true ∧ (c (i + 1) = 49 ∨ c (i + 1) = 50))))) ∨ c i = 42 ∨ c i = 43 ∨ c i = 63))) := by
      intro bd hd hbd
      obtain ⟨μ', i1, i2⟩ := e_append (L := L) (ρ := ρ) hp pr (Z := Z) (op := 5) (f := c (i + 1) - 48) (μ := z_up (z_up μ 3 2 ((i + 2 : Nat) : Int)) 3 4 bd) hZ ((z_up_ne (by omega)).trans h5')
      have e83 : ((f_Pr_readEscape_83 p (c (i + 1)) 3 bd (SH L, ρ, z_up μ 3 2 ((i + 2 : Nat) : Int))).bind fun q15 => (z_bo q15.1).bind fun b => some (b, q15.2)) = some (1, (SH L, ρ, μ')) := by
        unfold f_Pr_readEscape_83 z_bo
        rw [zpZ_k s_3 (by omega), Option.bind_some, zck_k hp.1, Option.bind_some, zw_of (by omega) (by omega), i1, Option.bind_some, Option.bind_some]
        dsimp only
        rw [if_pos (Or.inr rfl), Option.bind_some]
      refine ⟨1, μ', e83, ?_⟩
      obtain ⟨z1, z2, z3⟩ | ⟨z1, z2⟩ := hbd
      · have e4 : z_up (z_up μ 3 2 ((i + 2 : Nat) : Int)) 3 4 bd = z_up μ 3 2 ((i + 2 : Nat) : Int) := by
          rw [z1, show (0 : Int) = z_up μ 3 2 ((i + 2 : Nat) : Int) 3 4 from ((z_up_nj (by decide)).trans h4).symm]
          exact z_up_self _ 3 4
        rw [e4] at i2
        refine Or.inl ⟨i + 2, sc, 5, c (i + 1) - 48, ⟨by omega, by omega, Or.inl ⟨if_pos ⟨c92, hd⟩, z2, rfl, rfl, rfl, ?_⟩⟩, by omega, tr i2, Or.inr (Or.inl ⟨c92, rfl, hi1, fun _ => ⟨z2, z3⟩⟩)⟩
        obtain z3 | z3 := z3
        · exact ⟨0, by omega, by omega, by omega⟩
        · exact ⟨1, by omega, by omega, by omega⟩
      · refine Or.inr ⟨?_, Or.inr rfl, Or.inr (Or.inl ⟨c92, Or.inr ⟨hd.1, hd.2, z2⟩⟩)⟩
        obtain ⟨v2, v3, v4, v5, v6, v7⟩ := i2
        refine ⟨fun c' j g1 _ g3 => (v2 c' j (by omega)).trans ((z_up_ne g1).trans (z_up_ne g1)), fun j g1 g2 _ _ => (v2 3 j (by omega)).trans ((z_up_nj g2).trans (z_up_nj g1)), ⟨(v2 3 4 (by omega)).trans (z_up_eq.trans z1), by rw [v2 3 2 (by omega), z_up_nj (by decide), z_up_eq]; omega⟩, ⟨Z + 1, v4, by omega, by omega⟩, fun j hj => ?_⟩
        rw [v7, insA_lt hj, z_up_ne (by omega), z_up_ne (by omega)]
    unfold f_Pr_readEscape_78 f_Pr_readEscape_82
    by_cases g2 : c (i + 1) < 48
    · rw [if_pos g2]
      obtain ⟨em, μ', q1, q2⟩ := chr (by omega)
      exact ⟨em, μ', q1, Or.inl q2⟩
    rw [if_neg g2]
    by_cases g3 : ¬ c (i + 1) ≤ 57
    · rw [if_neg g3]
      obtain ⟨em, μ', q1, q2⟩ := chr (by omega)
      exact ⟨em, μ', q1, Or.inl q2⟩
    rw [if_pos (by omega), zgI_k s_3, Option.bind_some, z_up_nj (by decide), h3]
    cases en with
    | false =>
      rw [if_pos (show (if false = true then (1 : Int) else 0) = 0 from rfl)]
      exact txt 1 (by omega) (Or.inr ⟨rfl, fun z => by cases z.1⟩)
    | true =>
      rw [if_pos rfl, if_neg (show ¬ (1 : Int) = 0 by decide)]
      by_cases g4 : c (i + 1) = 49
      · rw [if_pos g4]
        exact txt 0 (by omega) (Or.inl ⟨rfl, rfl, Or.inl g4⟩)
      rw [if_neg g4]
      by_cases g5 : c (i + 1) = 50
      · rw [if_pos g5]
        exact txt 0 (by omega) (Or.inl ⟨rfl, rfl, Or.inr g5⟩)
      · rw [if_neg g5]
        exact txt 1 (by omega) (Or.inr ⟨rfl, fun z => by omega⟩)
  rw [if_neg c92] at *
  by_cases c94 : c i = 94
  · rw [if_pos c94] at *
    obtain ⟨em, μ', q1, q2⟩ := pl 3 0 1 (by decide) (Or.inl ⟨rfl, Or.inl rfl⟩) (fun lo hi => AtS_3 c94) (by omega) (by omega) (by omega) (by omega) (by omega) rfl
    exact ⟨em, μ', q1, Or.inl q2⟩
  rw [if_neg c94] at *
  obtain ⟨em, μ', q1, q2⟩ := pl 0 (c i) 0 (by decide) (Or.inr ⟨rfl, by decide, by decide⟩) (fun lo hi => AtS_e (by decide) (by decide) c94 c36 (fun d => if c i = d then 1 else 0) (fun d _ _ => by rw [if_neg c46, if_neg c91, if_neg c92]) (fun d _ _ => by
    rw [if_neg (by decide), if_pos rfl]
    by_cases z : c i = d
    · rw [if_pos z, if_pos z.symm]
    · rw [if_neg z, if_neg (fun w => z w.symm)]) (fun d _ _ => by
    by_cases z : c i = d
    · exact Or.inr (if_pos z)
    · exact Or.inl (if_neg z))) (by omega) (by omega) (by omega) (by omega) (by omega) rfl
  exact ⟨em, μ', q1, Or.inl q2⟩
end Atm
