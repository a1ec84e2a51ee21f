/-! The instructions that look at the line -/
theorem inS_01 (lo hi : Nat → Int) (a c : Int) : inS lo hi a c = 0 ∨ inS lo hi a c = 1 := by
  unfold inS
  by_cases h : z_lcmp (z_land (z_lushr (if 64 ≤ c - 32 then hi a.toNat else lo a.toNat) (z_and (c - 32) 63)) 1) 0 = 0
  · rw [if_pos h]; exact Or.inl rfl
  · rw [if_neg h]; exact Or.inr rfl
/-- a text that is named: fits, steps, over, place -/
def tF (bud len : Int) (tx rt : Nat → Int) : Nat → Int → Int → Nat → Int × Int × Int × Int
  | 0, st, he, _ => (1, st, 0, he)
  | k + 1, st, he, i => if st = bud then (0, st, 1, he + 1) else if len ≤ he then (0, st + 1, 0, he + 1) else if tx he.toNat = rt i then tF bud len tx rt k (st + 1) (he + 1) (i + 1) else (0, st + 1, 0, he + 1)
section SRun3
variable {L : Nat} {ρ : Nat → Nat → Nat} {μ : Nat → Nat → Int} {st ov nx he mt wc : Int} {G W P : Nat → Int}
theorem e_isInSet {p : Nat} (hp : ptS L p) (pr : ptR ρ p) {a c : Int} (h0 : 0 ≤ a) (h6 : a < 6) (c0 : 32 ≤ c) (c1 : c ≤ 126) {μ : Nat → Nat → Int} : f_Pt_isInSet p a c (SH L, ρ, μ) = some (inS (μ (p + 4)) (μ (p + 5)) a c, (SH L, ρ, μ)) := by
  unfold f_Pt_isInSet inS f_Pt_isInSet_26
  rw [zw_of (by omega) (by omega)]
  by_cases hc : 64 ≤ c - 32
  · rw [if_pos hc, if_pos hc, zgR_k hp.1 pr.2.2.2.2 (by omega), Option.bind_some, zaI_k hp.2.2.2.2.2 h0 (by omega), Option.bind_some]
    split <;> rfl
  · rw [if_neg hc, if_neg hc, zgR_k hp.1 pr.2.2.2.1 (by omega), Option.bind_some, zaI_k hp.2.2.2.2.1 h0 (by omega), Option.bind_some]
    split <;> rfl
theorem e_fitsAtom {p l : Nat} (hp : ptS L p) (pr : ptR ρ p) (hp6 : 36 ≤ p) (hl : lnS L l) (lr : lnR ρ l) (hl6 : 36 ≤ l) (hx0 : 0 ≤ nx) (hx1 : nx < 41) {op f : Int} (hop : μ (p + 1) nx.toNat = op) (hf : op = 2 → 0 ≤ f ∧ f < 6) (he0 : 0 ≤ he) (len : μ l 1 ≤ 24) (htx : ∀ c : Nat, (c : Int) < μ l 1 → 32 ≤ μ (l + 1) c ∧ μ (l + 1) c ≤ 126) :
    f_Se_fitsAtom 32 p l f (SH L, ρ, SM μ st ov nx he mt wc G W P) = some ((aF op f (μ (p + 4)) (μ (p + 5)) (μ l 1) (μ (l + 1)) he).1, (SH L, ρ, SM μ st ov nx (aF op f (μ (p + 4)) (μ (p + 5)) (μ l 1) (μ (l + 1)) he).2 mt wc G W P)) := by
  unfold f_Se_fitsAtom aF
  rw [zgR_k hp.1 pr.1 (by omega), Option.bind_some, zgI_k s_32, Option.bind_some, SM_6, zaI_k hp.2.1 hx0 (by omega), Option.bind_some, SM_o (p + 1) (by omega) (by omega) (by omega) (by omega), hop]
  by_cases h3 : op = 3
  · rw [if_pos h3, if_pos h3, zgI_k s_32, Option.bind_some, SM_7]
    by_cases hh : he = 0
    · rw [if_pos hh, if_pos hh]
    · rw [if_neg hh, if_neg hh]
  rw [if_neg h3, if_neg h3]
  by_cases h4 : op = 4
  · rw [if_pos h4, if_pos h4, zgI_k s_32, Option.bind_some, SM_7, zgI_k hl.1, Option.bind_some, SM_o l (by omega) (by omega) (by omega) (by omega)]
    by_cases hh : he = μ l 1
    · rw [if_pos hh, if_pos hh]
    · rw [if_neg hh, if_neg hh]
  rw [if_neg h4, if_neg h4, zgI_k s_32, Option.bind_some, SM_7, zgI_k hl.1, Option.bind_some, SM_o l (by omega) (by omega) (by omega) (by omega)]
  by_cases hh : he < μ l 1
  · have hc := htx he.toNat (by omega)
    rw [if_pos hh, if_pos hh, zgR_k hl.1 lr.1 (by omega), Option.bind_some, Option.bind_some, zaI_k hl.2.1 he0 (by omega), Option.bind_some, SM_o (l + 1) (by omega) (by omega) (by omega) (by omega), Option.bind_some, zw_of (by omega) (by omega), zpI_k s_32, Option.bind_some, SM_u7]
    unfold f_Se_fitsAtom_120 f_Se_fitsAtom_104
    by_cases h1 : op = 1
    · rw [if_pos h1, if_pos h1]
    rw [if_neg h1, if_neg h1]
    by_cases h0 : op = 0
    · rw [if_pos h0, if_pos h0]
      by_cases hq : μ (l + 1) he.toNat = f
      · rw [if_pos hq, if_pos hq]
      · rw [if_neg hq, if_neg hq, if_neg (show ¬ op = 2 by omega)]
    rw [if_neg h0, if_neg h0]
    by_cases h2 : op = 2
    · rw [if_pos h2, if_pos h2, zck_k hp.1, Option.bind_some, e_isInSet hp pr (hf h2).1 (hf h2).2 hc.1 hc.2, Option.bind_some]
      have e4 : SM μ st ov nx (he + 1) mt wc G W P (p + 4) = μ (p + 4) := funext fun j => SM_o (p + 4) (by omega) (by omega) (by omega) (by omega) j
      have e5 : SM μ st ov nx (he + 1) mt wc G W P (p + 5) = μ (p + 5) := funext fun j => SM_o (p + 5) (by omega) (by omega) (by omega) (by omega) j
      rw [e4, e5]
      by_cases hi : inS (μ (p + 4)) (μ (p + 5)) f (μ (l + 1) he.toNat) = 0
      · rw [if_pos hi, hi]
      · rw [if_neg hi]
        rw [(inS_01 (μ (p + 4)) (μ (p + 5)) f (μ (l + 1) he.toNat)).resolve_left hi]
        rfl
    · rw [if_neg h2, if_neg h2]
  · rw [if_neg hh, if_neg hh]
/-- an instruction that makes a STEP -/
theorem dn_atom {p l s w : Nat} (rc : Rc ρ) (hp : ptS L p) (pr : ptR ρ p) (hp6 : 36 ≤ p) (hl : lnS L l) (lr : lnR ρ l) (hl6 : 36 ≤ l) (hx0 : 0 ≤ nx) (hx1 : nx < 41) {op f : Int} (hop : μ (p + 1) nx.toNat = op) (hof : μ (p + 2) nx.toNat = f) (hop5 : 0 ≤ op ∧ op < 5) (hf : op = 2 → 0 ≤ f ∧ f < 6) (he0 : 0 ≤ he) (len : μ l 1 ≤ 24) (htx : ∀ c : Nat, (c : Int) < μ l 1 → 32 ≤ μ (l + 1) c ∧ μ (l + 1) c ≤ 126) (h0 : 0 ≤ st) (h3 : st ≤ 300) (h5 : w ≤ 500) (hw : wOk W w) :
    f_Se_doNext 32 p l s (SH L, ρ, SM μ st ov nx he mt (w : Int) G W P) = if st = μ 32 0 then some (0, (SH L, ρ, SM μ st 1 (nx + 1) he mt w G W P)) else dnR L ρ μ (st + 1) 0 nx (aF op f (μ (p + 4)) (μ (p + 5)) (μ l 1) (μ (l + 1)) he).2 mt w G W P (aF op f (μ (p + 4)) (μ (p + 5)) (μ l 1) (μ (l + 1)) he).1 := by
  unfold f_Se_doNext
  rw [e_next (l := l) (s := s) hp pr hp6 hx0 hx1, hop, hof, if_neg (by omega), if_neg (by omega), if_neg (by omega), if_neg (by omega), if_neg (by omega), zck_k s_32, Option.bind_some, e_step h0 h3]
  by_cases hb : st = μ 32 0
  · rw [if_pos hb, if_pos hb, Option.bind_some, if_pos rfl]
    unfold f_Se_doNext_175 f_Se_doNext_176
    rw [e_178 rc h5 hw hx0 (by omega)]
    unfold dnR
    rw [if_pos rfl, if_neg (by decide)]
  · rw [if_neg hb, if_neg hb, Option.bind_some, if_neg (show ¬ (1 : Int) = 0 by decide), zck_k s_32, Option.bind_some, e_fitsAtom hp pr hp6 hl lr hl6 hx0 hx1 hop hf he0 len htx, Option.bind_some]
    unfold f_Se_doNext_175 f_Se_doNext_176
    by_cases hz : (aF op f (μ (p + 4)) (μ (p + 5)) (μ l 1) (μ (l + 1)) he).1 = 0
    · rw [if_pos hz, e_178 rc h5 hw hx0 (by omega), hz]
    · rw [if_neg hz, e_178 rc h5 hw hx0 (by omega)]
      unfold dnR
      rw [if_neg (by decide), if_neg hz]
end SRun3
