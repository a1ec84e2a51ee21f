/-! The law's walk from its entry, out of what f_Lw_law answers. -/
/-- the heap of numbers at the law's entry: the script alone -/
def z_h0 (L : Nat) (xs : Nat → Int32) : zH := ([(99, L)], fun _ _ => 0, fun c j => if c = 0 ∧ j < L then (xs j).toInt else 0)
theorem z_known {s : State} {a : Array Value} (hts : ∀ w ∈ lw_tbl, w.before a s = true) : ∃ D : va_G, ∀ (c : Nat) (q : vw_C), classes[c]? = some q → u_Kn s q.1 q.2.1 q.2.2 (D.1 c) (D.2 c) := by
  have hg : ∀ w ∈ zGW, w.before a s = true := fun w hw => hts w (List.mem_filter.mp hw).1
  have key : ∀ c : Nat, ∃ u : ClassId × (Nat → Nat), ∀ q : vw_C, classes[c]? = some q → u_Kn s q.1 q.2.1 q.2.2 u.1 u.2 := by
    intro c
    have one : ∀ {k : Nat} {C : String} {T : u_T} {N : Nat}, zCk k C T N → Cond.instantiable C N ∈ zGW → c = k → ∃ u : ClassId × (Nat → Nat), ∀ q : vw_C, classes[c]? = some q → u_Kn s q.1 q.2.1 q.2.2 u.1 u.2 := by
      intro k C T N hk hi hc
      subst hc
      obtain ⟨cC, iS, h⟩ := u_known hg hk.2.2.1 (hg _ hi)
      refine ⟨(cC, iS), fun q hq => ?_⟩
      have : q = (C, T, N) := Option.some.inj (hq.symm.trans hk.2.1)
      subst this
      exact h
    by_cases h10 : c < 10
    · have h9 : c = 0 ∨ c = 1 ∨ c = 2 ∨ c = 3 ∨ c = 4 ∨ c = 5 ∨ c = 6 ∨ c = 7 ∨ c = 8 ∨ c = 9 := by omega
      rcases h9 with h | h | h | h | h | h | h | h | h | h
      · exact one ck_SL wi_SL h
      · exact one ck_St wi_St h
      · exact one ck_Li wi_Li h
      · exact one ck_Pa wi_Pa h
      · exact one ck_Pt wi_Pt h
      · exact one ck_Pr wi_Pr h
      · exact one ck_Se wi_Se h
      · exact one ck_Ru wi_Ru h
      · exact one ck_Gr wi_Gr h
      · exact one ck_Mo wi_Mo h
    · refine ⟨(0, fun _ => 0), fun q hq => ?_⟩
      have := (List.getElem?_eq_some_iff.mp hq).1
      exact absurd (show c < 10 from this) h10
  exact ⟨(fun c => (Classical.choose (key c)).1, fun c => (Classical.choose (key c)).2), fun c q hq => Classical.choose_spec (key c) q hq⟩
theorem z_arrP {s : State} {a : Array Value} {ty : FieldType} (h : (Cond.arrayClass ty).before a s = true) (hp : ∀ cA, s.vm.findClass ("[" ++ ty.toString) = some cA → va_RA s cA ty) : ∃ cA, ArrOfT s cA ty ∧ va_RA s cA ty := by
  obtain ⟨cA, kA, comp, h1, h2, h3⟩ := Cond.arrayClass_spec h
  exact ⟨cA, fun n z => ⟨fun k h => (by cases h), kA, h2, comp, h3⟩, hp cA h1⟩
theorem z_arrO {s : State} {a : Array Value} {C : String} (h : (Cond.arrayOver (.object C)).before a s = true) : ∃ cA, ArrOfT s cA (.object C) ∧ va_RA s cA (.object C) := by
  obtain ⟨comp, cA, kA, h1, -, h2, h3, h4⟩ := Cond.arrayOver_spec h
  exact ⟨cA, fun n z => ⟨fun k h => (by cases h), kA, h2, comp, h3⟩, kA, comp, h2, h3, h1, h4⟩
set_option maxHeartbeats 4000000 in
theorem z_start {p : Program} {e : Env} {s : State} {m : MethodId} {below : List Frame} {meth : Method} {c : Code} (l : Launch) {b L : Nat} {xs : Nat → Int32} (C0 : lw_At p s m meth c b L xs)
    (hp : ∃ h', f_Lw_law (z_h0 L xs) = some (1, h') ∧ h'.1.length ≤ 600000 ∧ zsl h' ≤ 7302250) : W p l e room_1 s m #[Value.ref b] below meth c s.heap [] 0 0 (lw_Z below #[Value.ref b] s) (entryFrame m ([Value.ref b] : List Value).toArray 4) := by
  obtain ⟨hx, hb, hret, hml, hown, hts, ⟨scr, hX1, hX2, hX3, hX4, hX5⟩, hbl, hlocks, -⟩ := C0
  obtain ⟨h', hf, hlen, hsl⟩ := hp
  have hg : ∀ w ∈ zGW, w.before #[Value.ref b] s = true := fun w hw => hts w (List.mem_filter.mp hw).1
  have k := b_Lw_law_0 (z_h0 L xs) (1, h') hf
  obtain ⟨D, hD⟩ := z_known hts
  have ho1 : (Cond.arrayOver (.object "ScopeLines$Rule")).before #[Value.ref b] s = true := hts _ (List.mem_append_right _ (by decide +kernel))
  have ho2 : (Cond.arrayOver (.object "ScopeLines$Line")).before #[Value.ref b] s = true := hts _ (List.mem_append_right _ (by decide +kernel))
  obtain ⟨a0, h01, h02⟩ := z_arrP (hg _ w_ac20) (fun cA h => h)
  obtain ⟨a1, h11, h12⟩ := z_arrP (hg _ w_ac21) (fun cA h => h)
  obtain ⟨a2, h21, h22⟩ := z_arrP (hg _ w_ac22) (fun cA h => h)
  obtain ⟨a3, h31, h32⟩ := z_arrP (hg _ w_ac23) (fun cA h => h)
  obtain ⟨a4, h41, h42⟩ := z_arrO ho1
  obtain ⟨a5, h51, h52⟩ := z_arrO ho2
  let dA : Nat → ClassId := fun k => match k with
    | 0 => a0
    | 1 => a1
    | 2 => a2
    | 3 => a3
    | 4 => a4
    | _ => a5
  let E : zE := (D, dA, s.heap.size - 1, b, scr, L, xs)
  have hK : va_K E.1 classes (zTys E) s := by
    refine ⟨hD, fun k q hk => ?_⟩
    have hlt : k < 6 := (List.getElem?_eq_some_iff.mp hk).1
    have h9 : k = 0 ∨ k = 1 ∨ k = 2 ∨ k = 3 ∨ k = 4 ∨ k = 5 := by omega
    rcases h9 with rfl | rfl | rfl | rfl | rfl | rfl <;> cases hk
    · exact ⟨h01, h02⟩
    · exact ⟨h11, h12⟩
    · exact ⟨h21, h22⟩
    · exact ⟨h31, h32⟩
    · exact ⟨h41, h42⟩
    · exact ⟨h51, h52⟩
  have hSt : zSt E s := ⟨hK, fun w hw => va_Nw.of (by have := zNW_nest w hw; cases w <;> first | rfl | cases this) (hts w (List.mem_append_right _ (zNW_tbl w hw))), ⟨va_AO.of ho1, va_AO.of ho2⟩, hX2, hX3, hX4, hX5⟩
  have hRp : zRp E (z_h0 L xs) s.heap := by
    refine ⟨?_, rfl, fun c k n h0 h1 => ?_, fun c k n j h1 => ?_, hX1, ?_, fun j hj => ?_⟩
    · show s.heap.size = s.heap.size - 1 + 1
      omega
    · have : c < 1 := (List.getElem?_eq_some_iff.mp h1).1
      omega
    · have h2 : c < 1 := (List.getElem?_eq_some_iff.mp h1).1
      have h3 : c = 0 := by omega
      subst h3
      cases h1
      show zi32 (if 0 = 0 ∧ j < L then (xs j).toInt else 0)
      split
      · exact zi_to _
      · unfold zi32
        omega
    · show b ≤ s.heap.size - 1
      omega
    · show xs j = Int32.ofInt (if 0 = 0 ∧ j < L then (xs j).toInt else 0)
      rw [if_pos ⟨rfl, hj⟩, zI_of]
  have hl := lv_entry ([Value.ref b]) (n := 4) (Nat.le_of_ble_eq_true rfl)
  rw [lg_entry_eq]
  generalize (lg_sl ([Value.ref b]) ++ List.replicate (4 - (lg_sl ([Value.ref b])).length) Slot.unset).toArray = ls at hl ⊢
  have hlv : lv_has ls m_Lw_law.2.2.1 (([(0, ((3, 0) : zV))] : List (Nat × zV)).map fun q => (q.1, zcv E q.2)) := hl
  refine k.2 E p l e room_1 s m #[Value.ref b] below meth c s.heap [] 0 0 1 L (lw_Z below #[Value.ref b] s) ls ⟨⟨hx, hb, hret, hml, hown, hg, hSt, hlocks, fun h => absurd h (by decide)⟩, ⟨by decide, by decide⟩, hlv, ?_, (fun v hv => by cases hv), hRp, ⟨fun q _ => rfl, (fun l hl => by cases hl), Nat.le_refl _⟩, rfl, ?_, ?_, ?_⟩ ?_
  · intro q hq
    rw [List.mem_singleton.mp hq]
    trivial
  · show 0 + L = L + 0
    omega
  · show h'.1.length ≤ 600000 + 1
    omega
  · show zsl h' ≤ 7302250 + L
    omega
  intro pc ls' H' locs' cells' slots' hd hrt hcnr hR' hS' e1 e2
  refine va_forget (fun q hq => ?_) ?_
  · have := hS'.2.1 q hq
    have h2 : s.heap.size - 1 < q.base := this
    omega
  · refine W.widen (k := 600000) (n := 7302250) (by have e1 : cells' + 1 = h'.1.length := e1; omega) (by have e2 : slots' + L = zsl h' := e2; omega) ?_
    exact lw_ret hx hb hret hlocks hd
