section SRun4
variable {L : Nat} {ρ : Nat → Nat → Nat} {μ : Nat → Nat → Int} {st ov nx he mt wc : Int} {G W P : Nat → Int}
theorem e_textC {s : Nat} (hs : stS L s) (sr : stR ρ s) {lev f i : Int} {μ : Nat → Nat → Int} (l0 : 0 ≤ lev) (l5 : lev < 5) (f0 : 1 ≤ f) (f2 : f ≤ 2) (i0 : 0 ≤ i) (i1 : i < 24) (hc : 0 ≤ μ (s + 3) (24 * (2 * lev + f - 1) + i).toNat ∧ μ (s + 3) (24 * (2 * lev + f - 1) + i).toNat < 65536) : f_St_textCharacter s lev f i (SH L, ρ, μ) = some (μ (s + 3) (24 * (2 * lev + f - 1) + i).toNat, (SH L, ρ, μ)) := by
  unfold f_St_textCharacter
  rw [zgR_k hs.1 sr.2.2 (by omega), Option.bind_some, zw_of (x := lev * 2) (by omega) (by omega), zw_of (x := lev * 2 + f) (by omega) (by omega), zw_of (x := lev * 2 + f - 1) (by omega) (by omega), zw_of (x := (lev * 2 + f - 1) * 24) (by omega) (by omega), zw_of (x := (lev * 2 + f - 1) * 24 + i) (by omega) (by omega), zaI_k hs.2.2.2 (by omega) (by omega), Option.bind_some, show (lev * 2 + f - 1) * 24 + i = 24 * (2 * lev + f - 1) + i by omega]
  unfold z_bc
  rw [if_pos hc]
  rfl
theorem e_textL {l s : Nat} (hl : lnS L l) (lr : lnR ρ l) (hl6 : 36 ≤ l) (hs : stS L s) (sr : stR ρ s) (hs3 : s + 3 < 32) {lev f cnt : Int} (l0 : 0 ≤ lev) (l5 : lev < 5) (f0 : 1 ≤ f) (f2 : f ≤ 2) (c2 : cnt ≤ 24) (hc : ∀ i : Nat, (i : Int) < cnt → 0 ≤ μ (s + 3) (24 * (2 * lev + f - 1) + i).toNat ∧ μ (s + 3) (24 * (2 * lev + f - 1) + i).toNat < 65536) (len : μ l 1 ≤ 24) (hb : μ 32 0 ≤ 300) :
    ∀ (k n i : Nat) (st he : Int), (i : Int) + k = cnt → k + 1 < n → 0 ≤ st → st ≤ μ 32 0 → 0 ≤ he → he ≤ 24 + i → f_Se_fitsText_32 n 32 l s f lev cnt 1 i (SH L, ρ, SM μ st 0 nx he mt wc G W P) = some ((tF (μ 32 0) (μ l 1) (μ (l + 1)) (fun i => μ (s + 3) (24 * (2 * lev + f - 1) + i).toNat) k st he i).1, (SH L, ρ, SM μ (tF (μ 32 0) (μ l 1) (μ (l + 1)) (fun i => μ (s + 3) (24 * (2 * lev + f - 1) + i).toNat) k st he i).2.1 (tF (μ 32 0) (μ l 1) (μ (l + 1)) (fun i => μ (s + 3) (24 * (2 * lev + f - 1) + i).toNat) k st he i).2.2.1 nx (tF (μ 32 0) (μ l 1) (μ (l + 1)) (fun i => μ (s + 3) (24 * (2 * lev + f - 1) + i).toNat) k st he i).2.2.2 mt wc G W P)) := by
  intro k
  induction k with
  | zero =>
    intro n i st he hi hn hst hst3 hhe hhe2
    obtain ⟨n, rfl⟩ : ∃ k, n = k + 1 := ⟨n - 1, by omega⟩
    unfold f_Se_fitsText_32
    rw [if_pos (by omega)]
    rfl
  | succ k ih =>
    intro n i st he hi hn hst hst3 hhe hhe2
    obtain ⟨n, rfl⟩ : ∃ k, n = k + 1 := ⟨n - 1, by omega⟩
    have fin : ∀ (st2 ov2 : Int), f_Se_fitsText_87 (f_Se_fitsText_32 n) 32 l s f lev cnt i (SH L, ρ, SM μ st2 ov2 nx he mt wc G W P) = some (0, (SH L, ρ, SM μ st2 ov2 nx (he + 1) mt wc G W P)) := by
      intro st2 ov2
      unfold f_Se_fitsText_87 f_Se_fitsText_88
      rw [zgI_k s_32, Option.bind_some, SM_7, zw_of (by omega) (by omega), zpI_k s_32, Option.bind_some, SM_u7, zw_of (by omega) (by omega)]
      obtain ⟨n, rfl⟩ : ∃ k, n = k + 1 := ⟨n - 1, by omega⟩
      unfold f_Se_fitsText_32
      by_cases hq : cnt ≤ (i : Int) + 1
      · rw [if_pos hq]
        rfl
      · rw [if_neg hq, if_pos rfl]
        rfl
    unfold f_Se_fitsText_32 tF
    rw [if_neg (by omega), if_neg (show ¬ (1 : Int) = 0 by decide), zck_k s_32, Option.bind_some, e_step hst (by omega)]
    by_cases hb : st = μ 32 0
    · rw [if_pos hb, if_pos hb, Option.bind_some, if_pos rfl, fin]
    · rw [if_neg hb, if_neg hb, Option.bind_some, if_neg (show ¬ (1 : Int) = 0 by decide), zgI_k s_32, Option.bind_some, SM_7, zgI_k hl.1, Option.bind_some, SM_o l (by omega) (by omega) (by omega) (by omega)]
      by_cases hg : μ l 1 ≤ he
      · rw [if_pos hg, if_pos hg, fin]
      · rw [if_neg hg, if_neg hg, zgR_k hl.1 lr.1 (by omega), Option.bind_some, Option.bind_some, zaI_k hl.2.1 hhe (by omega), Option.bind_some, SM_o (l + 1) (by omega) (by omega) (by omega) (by omega), zck_k hs.1, Option.bind_some]
        have hci := hc i (by omega)
        rw [e_textC hs sr l0 l5 f0 f2 (by omega) (by omega) (by rw [SM_o (s + 3) (by omega) (by omega) (by omega) (by omega)]; exact hci), Option.bind_some, SM_o (s + 3) (by omega) (by omega) (by omega) (by omega)]
        by_cases hm : μ (l + 1) he.toNat = μ (s + 3) (24 * (2 * lev + f - 1) + i).toNat
        · rw [if_pos hm, if_pos hm]
          unfold f_Se_fitsText_88
          rw [zgI_k s_32, Option.bind_some, SM_7, zw_of (by omega) (by omega), zpI_k s_32, Option.bind_some, SM_u7, zw_of (by omega) (by omega)]
          exact ih n (i + 1) (st + 1) (he + 1) (by omega) (by omega) (by omega) (by omega) (by omega) (by omega)
        · rw [if_neg hm, if_neg hm, fin]
/-- the text t of the innermost range of the state at s: how long it is -/
def rtN (μ : Nat → Nat → Int) (s : Nat) (f : Int) : Nat := if μ s 0 = 0 then 0 else (μ (s + 2) (2 * (μ s 0 - 1) + f - 1).toNat).toNat
def rtC (μ : Nat → Nat → Int) (s : Nat) (f : Int) : Nat → Int := fun i => μ (s + 3) (24 * (2 * (μ s 0 - 1) + f - 1) + i).toNat
def stOk (μ : Nat → Nat → Int) (s : Nat) : Prop := 0 ≤ μ s 0 ∧ μ s 0 ≤ 5 ∧ ∀ j : Nat, (j : Int) < 2 * μ s 0 → μ (s + 2) j ≤ 24 ∧ ∀ c : Nat, (c : Int) < μ (s + 2) j → 0 ≤ μ (s + 3) (24 * j + c) ∧ μ (s + 3) (24 * j + c) < 65536
theorem dn_text {p l s w : Nat} (rc : Rc ρ) (hp : ptS L p) (pr : ptR ρ p) (hp6 : 36 ≤ p) (hl : lnS L l) (lr : lnR ρ l) (hl6 : 36 ≤ l) (hs : stS L s) (sr : stR ρ s) (hs3 : s + 3 < 32) (so : stOk μ s) (hx0 : 0 ≤ nx) (hx1 : nx < 41) {f : Int} (hop : μ (p + 1) nx.toNat = 5) (hof : μ (p + 2) nx.toNat = f) (f0 : 1 ≤ f) (f2 : f ≤ 2) (he0 : 0 ≤ he) (he2 : he ≤ 24) (len : μ l 1 ≤ 24) (hb : μ 32 0 ≤ 300) (h0 : 0 ≤ st) (h3 : st ≤ μ 32 0) (h5 : w ≤ 500) (hw : wOk W w) {r : Int × Int × Int × Int} (hr : tF (μ 32 0) (μ l 1) (μ (l + 1)) (rtC μ s f) (rtN μ s f) st he 0 = r) :
    f_Se_doNext 32 p l s (SH L, ρ, SM μ st 0 nx he mt (w : Int) G W P) = dnR L ρ μ r.2.1 r.2.2.1 nx r.2.2.2 mt w G W P r.1 := by
  unfold f_Se_doNext
  rw [e_next (l := l) (s := s) hp pr hp6 hx0 hx1, hop, hof, if_pos rfl, zck_k s_32, Option.bind_some]
  have ft : f_Se_fitsText 32 l s f (SH L, ρ, SM μ st 0 nx he mt (w : Int) G W P) = some (r.1, (SH L, ρ, SM μ r.2.1 r.2.2.1 nx r.2.2.2 mt (w : Int) G W P)) := by
    obtain ⟨s0, s5, sj⟩ := so
    subst hr
    unfold f_Se_fitsText f_Se_fitsText_24
    rw [zgI_k hs.1, Option.bind_some, SM_o s (by omega) (by omega) (by omega) (by omega), zw_of (by omega) (by omega)]
    by_cases hz : μ s 0 = 0
    · rw [if_neg (by omega)]
      unfold f_Se_fitsText_32
      rw [if_pos (by omega)]
      unfold rtN
      rw [if_pos hz]
      rfl
    · rw [if_pos (by omega), zck_k hs.1, Option.bind_some]
      have hj := sj (2 * (μ s 0 - 1) + f - 1).toNat (by omega)
      unfold f_St_textLength
      rw [zgR_k hs.1 sr.2.1 (by omega), Option.bind_some, zw_of (x := (μ s 0 - 1) * 2) (by omega) (by omega), zw_of (x := (μ s 0 - 1) * 2 + f) (by omega) (by omega), zw_of (x := (μ s 0 - 1) * 2 + f - 1) (by omega) (by omega), zaI_k hs.2.2.1 (by omega) (by omega), Option.bind_some, Option.bind_some, SM_o (s + 2) (by omega) (by omega) (by omega) (by omega), show (μ s 0 - 1) * 2 + f - 1 = 2 * (μ s 0 - 1) + f - 1 by omega]
      unfold rtN rtC
      rw [if_neg hz]
      by_cases hneg : μ (s + 2) (2 * (μ s 0 - 1) + f - 1).toNat < 0
      · rw [show (μ (s + 2) (2 * (μ s 0 - 1) + f - 1).toNat).toNat = 0 by omega]
        unfold f_Se_fitsText_32
        rw [if_pos (by omega)]
        rfl
      have := e_textL (G := G) (W := W) (P := P) (nx := nx) (mt := mt) (wc := w) hl lr hl6 hs sr hs3 (lev := μ s 0 - 1) (f := f) (cnt := μ (s + 2) (2 * (μ s 0 - 1) + f - 1).toNat) (by omega) (by omega) f0 f2 hj.1 (fun i hi => by
        have := hj.2 i hi
        rw [show (24 * (2 * (μ s 0 - 1) + f - 1) + (i : Int)).toNat = 24 * (2 * (μ s 0 - 1) + f - 1).toNat + i by omega]
        exact this) len hb (μ (s + 2) (2 * (μ s 0 - 1) + f - 1).toNat).toNat 100000 0 st he (by omega) (by omega) h0 h3 he0 (by omega)
      exact this
  rw [ft, Option.bind_some, e_178 rc h5 hw hx0 (by omega)]
end SRun4
