/-! The heap of the machine as the heap of numbers shows it; a run of a method's frame to its return. -/
abbrev zE : Type := va_G × (Nat → ClassId) × Nat × Nat × Cell × Nat × (Nat → Int32)
/-- name, code, locals, answer, frames and words of locals that its calls may take -/
abbrev zM : Type := MethodName × ByteArray × Nat × Option FieldType × Nat × Nat
def zrf (E : zE) (r : Nat) : Value := if r = 0 then .null else .ref (E.2.2.1 + r)
def zcv (E : zE) (v : zV) : Value := match v.1 with
  | 0 => .int (Int32.ofInt v.2)
  | 1 => .long (Int64.ofInt v.2)
  | 2 => zrf E v.2.toNat
  | _ => .ref E.2.2.2.1
def zfv (E : zE) (k j r : Nat) (x : Int) : Value := match zty k j with
  | 0 => .int (Int32.ofInt x)
  | 1 => .long (Int64.ofInt x)
  | _ => zrf E r
def zav (E : zE) (k r : Nat) (x : Int) : Value := if k < 23 then .int (Int32.ofInt x) else if k = 23 then .long (Int64.ofInt x) else zrf E r
def zok (t : Nat) (x : Int) : Prop := match t with
  | 0 => zi32 x
  | 1 => zi64 x
  | 3 => 0 ≤ x ∧ x < 65536
  | _ => True
def ztp (k j : Nat) : Nat := if k < 20 then zty k j else if k = 21 then 3 else if k = 23 then 1 else if k = 24 then 2 else if k = 25 then 2 else 0
def zat (E : zE) (h : zH) (c k n : Nat) (H : Heap) : Prop :=
  if k < 20 then ∃ r : vw_C, classes[k]? = some r ∧ n = r.2.2 ∧ t_OB (E.2.2.1 + c) (E.1.1 k) r.2.2 (E.1.2 k) H (fun j => zfv E k j (h.2.1 c j) (h.2.2 c j))
  else H[E.2.2.1 + c]? = some (arrV (E.2.1 (k - 20)) n (fun j => zav E k (h.2.1 c j) (h.2.2 c j)))
def zRp (E : zE) (h : zH) (H : Heap) : Prop :=
  H.size = E.2.2.1 + h.1.length ∧ h.1[0]? = some (99, E.2.2.2.2.2.1) ∧ (∀ c k n, c ≠ 0 → h.1[c]? = some (k, n) → zat E h c k n H) ∧ (∀ c k n j, h.1[c]? = some (k, n) → zok (ztp k j) (h.2.2 c j)) ∧ (H[E.2.2.2.1]? = some E.2.2.2.2.1 ∧ E.2.2.2.1 ≤ E.2.2.1 ∧ ∀ j : Nat, j < E.2.2.2.2.2.1 → E.2.2.2.2.2.2 j = Int32.ofInt (h.2.2 0 j))
def zSf (E : zE) (H0 H : Heap) (locs : List Loc) : Prop := (∀ q : Nat, q ≤ E.2.2.1 → H[q]? = H0[q]?) ∧ (∀ l ∈ locs, E.2.2.1 < l.base) ∧ H0.size ≤ H.size
def zTys (E : zE) : List (ClassId × FieldType) := [(E.2.1 0, .int), (E.2.1 1, .char), (E.2.1 2, .boolean), (E.2.1 3, .long), (E.2.1 4, .object "ScopeLines$Rule"), (E.2.1 5, .object "ScopeLines$Line")]
def zSt (E : zE) (U : State) : Prop := va_K E.1 classes (zTys E) U ∧ (∀ w ∈ zNW, va_Nw w U) ∧ (va_AO "ScopeLines$Rule" U ∧ va_AO "ScopeLines$Line" U) ∧ U.isArrayOf E.2.2.2.2.1 .int ∧ E.2.2.2.2.1.vm ≠ .unknown ∧ E.2.2.2.2.1.slots.size = E.2.2.2.2.2.1 ∧ ∀ j : Nat, j < E.2.2.2.2.2.1 → E.2.2.2.2.1.slots[j]? = some (.int (E.2.2.2.2.2.2 j))
def zgood (w : Cond) : Bool := (w.onTables && w.keeps) || (match w with | .arrayClass _ => true | _ => false)
def zGW : List Cond := lw_tbl.filter zgood
theorem zgood_or {w : Cond} (h : zgood w = true) : (w.onTables && w.keeps) = true ∨ ∃ ty, w = .arrayClass ty := by
  unfold zgood at h
  rcases Bool.or_eq_true _ _ ▸ h with h | h
  · exact Or.inl h
  · cases w <;> first | exact Or.inr ⟨_, rfl⟩ | cases h
def zws (M : zM) : List Cond := .code M.1 M.2.1 M.2.2.1 M.2.2.2.1 :: zGW
theorem zGood {M : zM} (h : Cond.code M.1 M.2.1 M.2.2.1 M.2.2.2.1 ∈ zGW) : GoodIn zGW (zws M) := by
  intro w hw
  have h1 : w ∈ zGW := by
    rcases List.mem_cons.mp hw with rfl | h2
    · exact h
    · exact h2
  exact ⟨h1, zgood_or (List.mem_filter.mp h1).2⟩
theorem zSt.moved {E : zE} {s U : State} (hW : s.WarmedH U.vm) (h : zSt E s) : zSt E U := by
  obtain ⟨h1, h2, ⟨h3, h4⟩, h5, h6⟩ := h
  refine ⟨va_K.moved hW.alike h1, fun w hw => ?_, ⟨h3.moved hW.alike, h4.moved hW.alike⟩, State.isArrayOf_alike hW.alike h5, h6⟩
  have hn := zNW_nest w hw
  have hz := h2 w hw
  cases w <;> first | exact va_Nw.warmF hW hz | exact va_Nw.warmM hW hz | cases hn
def zCx (M : zM) (E : zE) (p : Program) (s : State) (m : MethodId) (args : Array Value) (meth : Method) (c : Code) : Prop :=
  p.tables.exec = Jvm.exec ∧ c.code = M.2.1 ∧ meth.sig.returnType = M.2.2.2.1 ∧ c.maxLocals = M.2.2.1 ∧ s.vm.findClass M.1.cls = some m.cls ∧ (∀ w ∈ zGW, w.before args s = true) ∧ zSt E s ∧ meth.locks = false ∧ (M.1.name = "<init>" → meth.name = "<init>")
def zcn (v : zV) : Prop := match v.1 with
  | 0 => zi32 v.2
  | 1 => zi64 v.2
  | 2 => 0 < v.2
  | _ => True
def zcnS (st : List zV) : Prop := ∀ v ∈ st, zcn v
def zcnL (L : List (Nat × zV)) : Prop := ∀ q ∈ L, zcn q.2
def zcnO (o : Option zV) : Prop := ∀ v, o = some v → zcn v
/-- the answer is of the method's type -/
def zrt (M : zM) (o : Option zV) : Prop := match o with
  | none => M.2.2.2.1 = none
  | some v => (v.1 = 0 ∧ M.2.2.2.1 = some .int) ∨ (v.1 = 0 ∧ M.2.2.2.1 = some .boolean ∧ (v.2 = 0 ∨ v.2 = 1)) ∨ (v.1 = 2 ∧ ∃ C, M.2.2.2.1 = some (.object C)) ∨ (v.1 = 0 ∧ M.2.2.2.1 = some .char ∧ (0 ≤ v.2 ∧ v.2 < 65536))
def zri (o : Option zV) : Instr := match o with
  | none => .return_
  | some v => if v.1 = 0 then .ireturn else .areturn
def zG (M : zM) (E : zE) (p : Program) (R : Room) (s : State) (m : MethodId) (args : Array Value) (meth : Method) (c : Code) (L : List (Nat × zV)) (st : List zV) (h : zH) (H : Heap) (locs : List Loc) (cells slots n0 s0 : Nat) (ls : Array Slot) (r : Option zV × zH) : Prop :=
  zCx M E p s m args meth c ∧ (M.2.2.2.2.1 ≤ R.frames ∧ M.2.2.2.2.2 ≤ R.locals) ∧ lv_has ls M.2.2.1 (L.map fun q => (q.1, zcv E q.2)) ∧ zcnL L ∧ zcnS st ∧ zRp E h H ∧ zSf E s.heap H locs ∧ (cells + n0 = h.1.length ∧ slots + s0 = zsl h ∧ r.2.1.length ≤ R.cells + n0 ∧ zsl r.2 ≤ R.slots + s0)
def zF (M : zM) (E : zE) (p : Program) (l : Launch) (e : Env) (R : Room) (s : State) (m : MethodId) (args : Array Value) (below : List Frame) (meth : Method) (c : Code) (n0 s0 : Nat) (Q : State → Prop) (r : Option zV × zH) : Prop :=
  ∀ (pc : Nat) (ls : Array Slot) (H : Heap) (locs : List Loc) (cells slots : Nat), decode M.2.1 pc = .ok (zri r.1, 1) → zrt M r.1 → zcnO r.1 → zRp E r.2 H → zSf E s.heap H locs → cells + n0 = r.2.1.length → slots + s0 = zsl r.2 →
    W p l e R s m args below meth c H locs cells slots Q (F0 m pc ls (r.1.toList.map (zcv E)))
/-- from this frame the method comes to its return, with r -/
def zK (M : zM) (pc : Nat) (L : List (Nat × zV)) (st : List zV) (h : zH) (r : Option zV × zH) : Prop :=
  (h.1.length ≤ r.2.1.length ∧ zsl h ≤ zsl r.2) ∧
  ∀ (E : zE) (p : Program) (l : Launch) (e : Env) (R : Room) (s : State) (m : MethodId) (args : Array Value) (below : List Frame) (meth : Method) (c : Code) (H : Heap) (locs : List Loc) (cells slots n0 s0 : Nat) (Q : State → Prop) (ls : Array Slot),
    zG M E p R s m args meth c L st h H locs cells slots n0 s0 ls r → zF M E p l e R s m args below meth c n0 s0 Q r →
    W p l e R s m args below meth c H locs cells slots Q (F0 m pc ls (st.map (zcv E)))
def zPc (E : zE) (as : List zV) (h : zH) : Array Value → State → Prop := fun v U => v = (as.map (zcv E)).toArray ∧ zRp E h U.heap ∧ zSt E U
def zQc (E : zE) (r : Option zV × zH) : Array Value → State → Outcome → State → Prop := fun _ st oc t => oc = .returned (r.1.map (zcv E)) ∧ zcnO r.1 ∧ zRp E r.2 t.heap ∧ (∀ q : Nat, q ≤ E.2.2.1 → t.heap[q]? = st.heap[q]?) ∧ st.heap.size ≤ t.heap.size
/-- the method's contract at these arguments and this heap: it comes back with r -/
def zMt (M : zM) (as : List zV) (h : zH) (r : Option zV × zH) : Prop :=
  (h.1.length ≤ r.2.1.length ∧ zsl h ≤ zsl r.2) ∧ (zcnS as → ∀ (E : zE) (l : Launch), Met l M.1 (zws M) { frames := M.2.2.2.2.1, cells := r.2.1.length - h.1.length, slots := zsl r.2 - zsl h, locals := M.2.2.2.2.2 } (zPc E as h) (zQc E r) (r.2.1.length - h.1.length) (zsl r.2 - zsl h) (fun q => E.2.2.1 < q))
theorem zRp.sz {E : zE} {h : zH} {H : Heap} (hR : zRp E h H) {c k n : Nat} (hc : h.1[c]? = some (k, n)) : E.2.2.1 + c < H.size := by
  rw [hR.1]
  have := (List.getElem?_eq_some_iff.mp hc).1
  omega
theorem zRp.c0 {E : zE} {h : zH} {H : Heap} (hR : zRp E h H) {c k n : Nat} (hc : h.1[c]? = some (k, n)) (hk : k ≠ 99) : c ≠ 0 := by
  intro h0
  subst h0
  have := hR.2.1.symm.trans hc
  simp at this
  exact hk this.1.symm
theorem zcnS.cons {v : zV} {st : List zV} (h1 : zcn v) (h2 : zcnS st) : zcnS (v :: st) := by
  intro w hw
  rcases List.mem_cons.mp hw with rfl | h
  · exact h1
  · exact h2 w h
theorem zcnS.tail {v : zV} {st : List zV} (h : zcnS (v :: st)) : zcnS st := fun w hw => h w (List.mem_cons_of_mem _ hw)
theorem zcnS.head {v : zV} {st : List zV} (h : zcnS (v :: st)) : zcn v := h v List.mem_cons_self
theorem zcn_ne {c : Nat} (h : zcn (2, (c : Int))) : c ≠ 0 := by
  have h : 0 < (c : Int) := h
  omega
theorem zcn_of {c : Nat} (h : c ≠ 0) : zcn (2, (c : Int)) := by
  show 0 < (c : Int)
  omega
section ZG
variable {M : zM} {E : zE} {p : Program} {l : Launch} {e : Env} {R : Room} {s : State} {m : MethodId} {args : Array Value} {below : List Frame} {meth : Method} {c : Code} {L : List (Nat × zV)} {st : List zV} {h : zH} {H : Heap} {locs : List Loc} {cells slots n0 s0 : Nat} {ls : Array Slot} {r : Option zV × zH}
theorem zG.hx (g : zG M E p R s m args meth c L st h H locs cells slots n0 s0 ls r) : p.tables.exec = Jvm.exec := g.1.1
theorem zG.hb (g : zG M E p R s m args meth c L st h H locs cells slots n0 s0 ls r) : c.code = M.2.1 := g.1.2.1
theorem zG.hml (g : zG M E p R s m args meth c L st h H locs cells slots n0 s0 ls r) : c.maxLocals = M.2.2.1 := g.1.2.2.2.1
theorem zG.own (g : zG M E p R s m args meth c L st h H locs cells slots n0 s0 ls r) : s.vm.findClass M.1.cls = some m.cls := g.1.2.2.2.2.1
theorem zG.hts (g : zG M E p R s m args meth c L st h H locs cells slots n0 s0 ls r) : ∀ w ∈ zGW, w.before args s = true := g.1.2.2.2.2.2.1
theorem zG.hst (g : zG M E p R s m args meth c L st h H locs cells slots n0 s0 ls r) : zSt E s := g.1.2.2.2.2.2.2.1
theorem zG.hK (g : zG M E p R s m args meth c L st h H locs cells slots n0 s0 ls r) : va_K E.1 classes (zTys E) s := g.1.2.2.2.2.2.2.1.1
theorem zG.nm (g : zG M E p R s m args meth c L st h H locs cells slots n0 s0 ls r) : M.1.name = "<init>" → meth.name = "<init>" := g.1.2.2.2.2.2.2.2.2
theorem zG.lv (g : zG M E p R s m args meth c L st h H locs cells slots n0 s0 ls r) : lv_has ls M.2.2.1 (L.map fun q => (q.1, zcv E q.2)) := g.2.2.1
theorem zG.cnL (g : zG M E p R s m args meth c L st h H locs cells slots n0 s0 ls r) : zcnL L := g.2.2.2.1
theorem zG.cnS (g : zG M E p R s m args meth c L st h H locs cells slots n0 s0 ls r) : zcnS st := g.2.2.2.2.1
theorem zG.rp (g : zG M E p R s m args meth c L st h H locs cells slots n0 s0 ls r) : zRp E h H := g.2.2.2.2.2.1
theorem zG.sf (g : zG M E p R s m args meth c L st h H locs cells slots n0 s0 ls r) : zSf E s.heap H locs := g.2.2.2.2.2.2.1
theorem zG.stk (g : zG M E p R s m args meth c L st h H locs cells slots n0 s0 ls r) {st' : List zV} (hs : zcnS st') : zG M E p R s m args meth c L st' h H locs cells slots n0 s0 ls r :=
  ⟨g.1, g.2.1, g.2.2.1, g.2.2.2.1, hs, g.2.2.2.2.2⟩
theorem zG.loc (g : zG M E p R s m args meth c L st h H locs cells slots n0 s0 ls r) {st' : List zV} (hs : zcnS st') {L' : List (Nat × zV)} {ls' : Array Slot} (hl : lv_has ls' M.2.2.1 (L'.map fun q => (q.1, zcv E q.2))) (hc : zcnL L') : zG M E p R s m args meth c L' st' h H locs cells slots n0 s0 ls' r :=
  ⟨g.1, g.2.1, hl, hc, hs, g.2.2.2.2.2⟩
theorem zG.hp (g : zG M E p R s m args meth c L st h H locs cells slots n0 s0 ls r) {st' : List zV} (hs : zcnS st') {h' : zH} {H' : Heap} {locs' : List Loc} {cells' slots' : Nat} (hr : zRp E h' H') (hf : zSf E s.heap H' locs') (h1 : cells' + n0 = h'.1.length) (h2 : slots' + s0 = zsl h') : zG M E p R s m args meth c L st' h' H' locs' cells' slots' n0 s0 ls r :=
  ⟨g.1, g.2.1, g.2.2.1, g.2.2.2.1, hs, hr, hf, h1, h2, g.2.2.2.2.2.2.2.2.2⟩
end ZG
