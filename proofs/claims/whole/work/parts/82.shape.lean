/-! The cells behind the constructors, and what reading and writing them comes to -/
def SH (L : Nat) : List (Nat × Nat) := [(99, L), (0, 10), (21, 40), (5, 15), (21, 20), (20, 4), (20, 4), (20, 4), (20, 4), (22, 4), (22, 4), (25, 6), (3, 4), (20, 6), (20, 6), (20, 6), (1, 4), (20, 5), (20, 10), (21, 240), (1, 4), (20, 5), (20, 10), (21, 240), (8, 10), (24, 11), (1, 4), (20, 5), (20, 10), (21, 240), (20, 19), (20, 6), (6, 12), (20, 6), (20, 500), (20, 500), (7, 6), (4, 7), (20, 41), (20, 41), (20, 41), (23, 6), (23, 6), (4, 7), (20, 41), (20, 41), (20, 41), (23, 6), (23, 6), (7, 6), (4, 7), (20, 41), (20, 41), (20, 41), (23, 6), (23, 6), (4, 7), (20, 41), (20, 41), (20, 41), (23, 6), (23, 6), (7, 6), (4, 7), (20, 41), (20, 41), (20, 41), (23, 6), (23, 6), (4, 7), (20, 41), (20, 41), (20, 41), (23, 6), (23, 6), (7, 6), (4, 7), (20, 41), (20, 41), (20, 41), (23, 6), (23, 6), (4, 7), (20, 41), (20, 41), (20, 41), (23, 6), (23, 6), (7, 6), (4, 7), (20, 41), (20, 41), (20, 41), (23, 6), (23, 6), (4, 7), (20, 41), (20, 41), (20, 41), (23, 6), (23, 6), (7, 6), (4, 7), (20, 41), (20, 41), (20, 41), (23, 6), (23, 6), (4, 7), (20, 41), (20, 41), (20, 41), (23, 6), (23, 6), (7, 6), (4, 7), (20, 41), (20, 41), (20, 41), (23, 6), (23, 6), (4, 7), (20, 41), (20, 41), (20, 41), (23, 6), (23, 6), (7, 6), (4, 7), (20, 41), (20, 41), (20, 41), (23, 6), (23, 6), (4, 7), (20, 41), (20, 41), (20, 41), (23, 6), (23, 6), (7, 6), (4, 7), (20, 41), (20, 41), (20, 41), (23, 6), (23, 6), (4, 7), (20, 41), (20, 41), (20, 41), (23, 6), (23, 6), (7, 6), (4, 7), (20, 41), (20, 41), (20, 41), (23, 6), (23, 6), (4, 7), (20, 41), (20, 41), (20, 41), (23, 6), (23, 6), (7, 6), (4, 7), (20, 41), (20, 41), (20, 41), (23, 6), (23, 6), (4, 7), (20, 41), (20, 41), (20, 41), (23, 6), (23, 6), (2, 8), (21, 24), (20, 24), (20, 24), (20, 144), (1, 4), (20, 5), (20, 10), (21, 240), (2, 8), (21, 24), (20, 24), (20, 24), (20, 144), (1, 4), (20, 5), (20, 10), (21, 240), (2, 8), (21, 24), (20, 24), (20, 24), (20, 144), (1, 4), (20, 5), (20, 10), (21, 240), (2, 8), (21, 24), (20, 24), (20, 24), (20, 144), (1, 4), (20, 5), (20, 10), (21, 240), (2, 8), (21, 24), (20, 24), (20, 24), (20, 144), (1, 4), (20, 5), (20, 10), (21, 240), (2, 8), (21, 24), (20, 24), (20, 24), (20, 144), (1, 4), (20, 5), (20, 10), (21, 240), (9, 52), (20, 40), (22, 10), (20, 10), (20, 10), (20, 10), (20, 22), (20, 462), (20, 462), (20, 462), (20, 462), (20, 462), (20, 462), (20, 462), (20, 22), (20, 4), (20, 4), (22, 4), (22, 4), (20, 6), (20, 5600), (20, 2), (20, 48), (20, 6), (20, 144), (22, 6), (20, 6), (20, 144), (20, 144), (20, 864), (20, 8), (20, 40), (20, 80), (20, 1920), (20, 20), (20, 6), (20, 6), (20, 6), (20, 6)]
theorem zgI_k {S : List (Nat × Nat)} {ρ : Nat → Nat → Nat} {μ : Nat → Nat → Int} {k c j n : Nat} (h : S[c]? = some (k, n)) : z_gI (S, ρ, μ) k c j = some (μ c j) := by
  unfold z_gI
  simp [h]
theorem zgR_k {S : List (Nat × Nat)} {ρ : Nat → Nat → Nat} {μ : Nat → Nat → Int} {k c j n v : Nat} (h : S[c]? = some (k, n)) (hv : ρ c j = v) (h0 : v ≠ 0) : z_gR (S, ρ, μ) k c j = some v := by
  unfold z_gR
  simp [h, hv, h0]
theorem zpI_k {S : List (Nat × Nat)} {ρ : Nat → Nat → Nat} {μ : Nat → Nat → Int} {k c j n : Nat} {x : Int} (h : S[c]? = some (k, n)) : z_pI (S, ρ, μ) k c j x = some (S, ρ, z_up μ c j x) := by
  unfold z_pI
  simp [h]
theorem zpZ_k {S : List (Nat × Nat)} {ρ : Nat → Nat → Nat} {μ : Nat → Nat → Int} {k c j n : Nat} {x : Int} (h : S[c]? = some (k, n)) (hx : x = 0 ∨ x = 1) : z_pZ (S, ρ, μ) k c j x = some (S, ρ, z_up μ c j x) := by
  unfold z_pZ
  rw [if_pos hx]
  exact zpI_k h
theorem zpR_k {S : List (Nat × Nat)} {ρ : Nat → Nat → Nat} {μ : Nat → Nat → Int} {k c j n x : Nat} (h : S[c]? = some (k, n)) : z_pR (S, ρ, μ) k c j x = some (S, z_up ρ c j x, μ) := by
  unfold z_pR
  simp [h]
theorem zaI_k {S : List (Nat × Nat)} {ρ : Nat → Nat → Nat} {μ : Nat → Nat → Int} {k c n : Nat} {i : Int} (h : S[c]? = some (k, n)) (h1 : 0 ≤ i) (h2 : i < n) : z_aI (S, ρ, μ) k c i = some (μ c i.toNat) := by
  unfold z_aI
  simp [h, h1, h2]
theorem zaR_k {S : List (Nat × Nat)} {ρ : Nat → Nat → Nat} {μ : Nat → Nat → Int} {k c n v : Nat} {i : Int} (h : S[c]? = some (k, n)) (h1 : 0 ≤ i) (h2 : i < n) (hv : ρ c i.toNat = v) (h0 : v ≠ 0) : z_aR (S, ρ, μ) k c i = some v := by
  unfold z_aR
  simp [h, h1, h2, hv, h0]
theorem zsI_k {S : List (Nat × Nat)} {ρ : Nat → Nat → Nat} {μ : Nat → Nat → Int} {k c n : Nat} {i x : Int} (h : S[c]? = some (k, n)) (h1 : 0 ≤ i) (h2 : i < n) : z_sI (S, ρ, μ) k c i x = some (S, ρ, z_up μ c i.toNat x) := by
  unfold z_sI
  simp [h, h1, h2]
theorem zsR_k {S : List (Nat × Nat)} {ρ : Nat → Nat → Nat} {μ : Nat → Nat → Int} {k k2 c n n2 x : Nat} {i : Int} (h : S[c]? = some (k, n)) (hx : S[x]? = some (k2, n2)) (h1 : 0 ≤ i) (h2 : i < n) : z_sR (S, ρ, μ) k k2 c i x = some (S, z_up ρ c i.toNat x, μ) := by
  unfold z_sR
  simp [h, hx, h1, h2]
theorem zck_k {S : List (Nat × Nat)} {ρ : Nat → Nat → Nat} {μ : Nat → Nat → Int} {k c n : Nat} (h : S[c]? = some (k, n)) : z_ck (S, ρ, μ) k c = some n := by
  unfold z_ck
  simp [h]
theorem zlen_k {S : List (Nat × Nat)} {ρ : Nat → Nat → Nat} {μ : Nat → Nat → Int} {k c n : Nat} (h : S[c]? = some (k, n)) (hn : n < 2147483648) : z_len (S, ρ, μ) k c = some (n : Int) := by
  unfold z_len
  simp [h, hn]
theorem zcp_k {S : List (Nat × Nat)} {ρ : Nat → Nat → Nat} {μ : Nat → Nat → Int} {k c0 c1 n0 n1 : Nat} {sp dp n : Int} (h0 : S[c0]? = some (k, n0)) (h1 : S[c1]? = some (k, n1)) (g1 : 0 ≤ sp) (g2 : 0 ≤ dp) (g3 : 0 ≤ n) (g4 : sp + n ≤ n0) (g5 : dp + n ≤ n1) : z_cp (S, ρ, μ) k c0 sp c1 dp n = some (S, ρ, fun a j => if a = c1 ∧ dp.toNat ≤ j ∧ j < dp.toNat + n.toNat then μ c0 (sp.toNat + (j - dp.toNat)) else μ a j) := by
  unfold z_cp
  simp [h0, h1, g1, g2, g3, g4, g5]
theorem zw_of {x : Int} (h1 : -2147483648 ≤ x) (h2 : x < 2147483648) : zw x = x := zw_id ⟨h1, h2⟩
set_option maxRecDepth 20000 in
theorem s_0 {L : Nat} : (SH L)[0]? = some (99, L) := rfl
set_option maxRecDepth 20000 in
theorem s_1 {L : Nat} : (SH L)[1]? = some (0, 10) := rfl
set_option maxRecDepth 20000 in
theorem s_2 {L : Nat} : (SH L)[2]? = some (21, 40) := rfl
set_option maxRecDepth 20000 in
theorem s_3 {L : Nat} : (SH L)[3]? = some (5, 15) := rfl
set_option maxRecDepth 20000 in
theorem s_4 {L : Nat} : (SH L)[4]? = some (21, 20) := rfl
set_option maxRecDepth 20000 in
theorem s_5 {L : Nat} : (SH L)[5]? = some (20, 4) := rfl
set_option maxRecDepth 20000 in
theorem s_6 {L : Nat} : (SH L)[6]? = some (20, 4) := rfl
set_option maxRecDepth 20000 in
theorem s_7 {L : Nat} : (SH L)[7]? = some (20, 4) := rfl
set_option maxRecDepth 20000 in
theorem s_8 {L : Nat} : (SH L)[8]? = some (20, 4) := rfl
set_option maxRecDepth 20000 in
theorem s_9 {L : Nat} : (SH L)[9]? = some (22, 4) := rfl
set_option maxRecDepth 20000 in
theorem s_10 {L : Nat} : (SH L)[10]? = some (22, 4) := rfl
set_option maxRecDepth 20000 in
theorem s_11 {L : Nat} : (SH L)[11]? = some (25, 6) := rfl
set_option maxRecDepth 20000 in
theorem s_12 {L : Nat} : (SH L)[12]? = some (3, 4) := rfl
set_option maxRecDepth 20000 in
theorem s_13 {L : Nat} : (SH L)[13]? = some (20, 6) := rfl
set_option maxRecDepth 20000 in
theorem s_14 {L : Nat} : (SH L)[14]? = some (20, 6) := rfl
set_option maxRecDepth 20000 in
theorem s_15 {L : Nat} : (SH L)[15]? = some (20, 6) := rfl
set_option maxRecDepth 20000 in
theorem s_16 {L : Nat} : (SH L)[16]? = some (1, 4) := rfl
set_option maxRecDepth 20000 in
theorem s_17 {L : Nat} : (SH L)[17]? = some (20, 5) := rfl
set_option maxRecDepth 20000 in
theorem s_18 {L : Nat} : (SH L)[18]? = some (20, 10) := rfl
set_option maxRecDepth 20000 in
theorem s_19 {L : Nat} : (SH L)[19]? = some (21, 240) := rfl
set_option maxRecDepth 20000 in
theorem s_20 {L : Nat} : (SH L)[20]? = some (1, 4) := rfl
set_option maxRecDepth 20000 in
theorem s_21 {L : Nat} : (SH L)[21]? = some (20, 5) := rfl
set_option maxRecDepth 20000 in
theorem s_22 {L : Nat} : (SH L)[22]? = some (20, 10) := rfl
set_option maxRecDepth 20000 in
theorem s_23 {L : Nat} : (SH L)[23]? = some (21, 240) := rfl
set_option maxRecDepth 20000 in
theorem s_24 {L : Nat} : (SH L)[24]? = some (8, 10) := rfl
set_option maxRecDepth 20000 in
theorem s_25 {L : Nat} : (SH L)[25]? = some (24, 11) := rfl
set_option maxRecDepth 20000 in
theorem s_26 {L : Nat} : (SH L)[26]? = some (1, 4) := rfl
set_option maxRecDepth 20000 in
theorem s_27 {L : Nat} : (SH L)[27]? = some (20, 5) := rfl
set_option maxRecDepth 20000 in
theorem s_28 {L : Nat} : (SH L)[28]? = some (20, 10) := rfl
set_option maxRecDepth 20000 in
theorem s_29 {L : Nat} : (SH L)[29]? = some (21, 240) := rfl
set_option maxRecDepth 20000 in
theorem s_30 {L : Nat} : (SH L)[30]? = some (20, 19) := rfl
set_option maxRecDepth 20000 in
theorem s_31 {L : Nat} : (SH L)[31]? = some (20, 6) := rfl
set_option maxRecDepth 20000 in
theorem s_32 {L : Nat} : (SH L)[32]? = some (6, 12) := rfl
set_option maxRecDepth 20000 in
theorem s_33 {L : Nat} : (SH L)[33]? = some (20, 6) := rfl
set_option maxRecDepth 20000 in
theorem s_34 {L : Nat} : (SH L)[34]? = some (20, 500) := rfl
set_option maxRecDepth 20000 in
theorem s_35 {L : Nat} : (SH L)[35]? = some (20, 500) := rfl
set_option maxRecDepth 20000 in
theorem s_233 {L : Nat} : (SH L)[233]? = some (9, 52) := rfl
set_option maxRecDepth 20000 in
theorem s_234 {L : Nat} : (SH L)[234]? = some (20, 40) := rfl
set_option maxRecDepth 20000 in
theorem s_235 {L : Nat} : (SH L)[235]? = some (22, 10) := rfl
set_option maxRecDepth 20000 in
theorem s_236 {L : Nat} : (SH L)[236]? = some (20, 10) := rfl
set_option maxRecDepth 20000 in
theorem s_237 {L : Nat} : (SH L)[237]? = some (20, 10) := rfl
set_option maxRecDepth 20000 in
theorem s_238 {L : Nat} : (SH L)[238]? = some (20, 10) := rfl
set_option maxRecDepth 20000 in
theorem s_239 {L : Nat} : (SH L)[239]? = some (20, 22) := rfl
set_option maxRecDepth 20000 in
theorem s_240 {L : Nat} : (SH L)[240]? = some (20, 462) := rfl
set_option maxRecDepth 20000 in
theorem s_241 {L : Nat} : (SH L)[241]? = some (20, 462) := rfl
set_option maxRecDepth 20000 in
theorem s_242 {L : Nat} : (SH L)[242]? = some (20, 462) := rfl
set_option maxRecDepth 20000 in
theorem s_243 {L : Nat} : (SH L)[243]? = some (20, 462) := rfl
set_option maxRecDepth 20000 in
theorem s_244 {L : Nat} : (SH L)[244]? = some (20, 462) := rfl
set_option maxRecDepth 20000 in
theorem s_245 {L : Nat} : (SH L)[245]? = some (20, 462) := rfl
set_option maxRecDepth 20000 in
theorem s_246 {L : Nat} : (SH L)[246]? = some (20, 462) := rfl
set_option maxRecDepth 20000 in
theorem s_247 {L : Nat} : (SH L)[247]? = some (20, 22) := rfl
set_option maxRecDepth 20000 in
theorem s_248 {L : Nat} : (SH L)[248]? = some (20, 4) := rfl
set_option maxRecDepth 20000 in
theorem s_249 {L : Nat} : (SH L)[249]? = some (20, 4) := rfl
set_option maxRecDepth 20000 in
theorem s_250 {L : Nat} : (SH L)[250]? = some (22, 4) := rfl
set_option maxRecDepth 20000 in
theorem s_251 {L : Nat} : (SH L)[251]? = some (22, 4) := rfl
set_option maxRecDepth 20000 in
theorem s_252 {L : Nat} : (SH L)[252]? = some (20, 6) := rfl
set_option maxRecDepth 20000 in
theorem s_253 {L : Nat} : (SH L)[253]? = some (20, 5600) := rfl
set_option maxRecDepth 20000 in
theorem s_254 {L : Nat} : (SH L)[254]? = some (20, 2) := rfl
set_option maxRecDepth 20000 in
theorem s_255 {L : Nat} : (SH L)[255]? = some (20, 48) := rfl
set_option maxRecDepth 20000 in
theorem s_256 {L : Nat} : (SH L)[256]? = some (20, 6) := rfl
set_option maxRecDepth 20000 in
theorem s_257 {L : Nat} : (SH L)[257]? = some (20, 144) := rfl
set_option maxRecDepth 20000 in
theorem s_258 {L : Nat} : (SH L)[258]? = some (22, 6) := rfl
set_option maxRecDepth 20000 in
theorem s_259 {L : Nat} : (SH L)[259]? = some (20, 6) := rfl
set_option maxRecDepth 20000 in
theorem s_260 {L : Nat} : (SH L)[260]? = some (20, 144) := rfl
set_option maxRecDepth 20000 in
theorem s_261 {L : Nat} : (SH L)[261]? = some (20, 144) := rfl
set_option maxRecDepth 20000 in
theorem s_262 {L : Nat} : (SH L)[262]? = some (20, 864) := rfl
set_option maxRecDepth 20000 in
theorem s_263 {L : Nat} : (SH L)[263]? = some (20, 8) := rfl
set_option maxRecDepth 20000 in
theorem s_264 {L : Nat} : (SH L)[264]? = some (20, 40) := rfl
set_option maxRecDepth 20000 in
theorem s_265 {L : Nat} : (SH L)[265]? = some (20, 80) := rfl
set_option maxRecDepth 20000 in
theorem s_266 {L : Nat} : (SH L)[266]? = some (20, 1920) := rfl
set_option maxRecDepth 20000 in
theorem s_267 {L : Nat} : (SH L)[267]? = some (20, 20) := rfl
set_option maxRecDepth 20000 in
theorem s_268 {L : Nat} : (SH L)[268]? = some (20, 6) := rfl
set_option maxRecDepth 20000 in
theorem s_269 {L : Nat} : (SH L)[269]? = some (20, 6) := rfl
set_option maxRecDepth 20000 in
theorem s_270 {L : Nat} : (SH L)[270]? = some (20, 6) := rfl
set_option maxRecDepth 20000 in
theorem s_271 {L : Nat} : (SH L)[271]? = some (20, 6) := rfl
set_option maxRecDepth 20000 in
theorem sr_0 {L r : Nat} (hr : r < 11) : (SH L)[36 + 13 * r]? = some (7, 6) := by
  have h : r = 0 ∨ r = 1 ∨ r = 2 ∨ r = 3 ∨ r = 4 ∨ r = 5 ∨ r = 6 ∨ r = 7 ∨ r = 8 ∨ r = 9 ∨ r = 10 := by omega
  rcases h with rfl | rfl | rfl | rfl | rfl | rfl | rfl | rfl | rfl | rfl | rfl <;> rfl
set_option maxRecDepth 20000 in
theorem sr_1 {L r : Nat} (hr : r < 11) : (SH L)[36 + 13 * r + 1]? = some (4, 7) := by
  have h : r = 0 ∨ r = 1 ∨ r = 2 ∨ r = 3 ∨ r = 4 ∨ r = 5 ∨ r = 6 ∨ r = 7 ∨ r = 8 ∨ r = 9 ∨ r = 10 := by omega
  rcases h with rfl | rfl | rfl | rfl | rfl | rfl | rfl | rfl | rfl | rfl | rfl <;> rfl
set_option maxRecDepth 20000 in
theorem sr_2 {L r : Nat} (hr : r < 11) : (SH L)[36 + 13 * r + 2]? = some (20, 41) := by
  have h : r = 0 ∨ r = 1 ∨ r = 2 ∨ r = 3 ∨ r = 4 ∨ r = 5 ∨ r = 6 ∨ r = 7 ∨ r = 8 ∨ r = 9 ∨ r = 10 := by omega
  rcases h with rfl | rfl | rfl | rfl | rfl | rfl | rfl | rfl | rfl | rfl | rfl <;> rfl
set_option maxRecDepth 20000 in
theorem sr_3 {L r : Nat} (hr : r < 11) : (SH L)[36 + 13 * r + 3]? = some (20, 41) := by
  have h : r = 0 ∨ r = 1 ∨ r = 2 ∨ r = 3 ∨ r = 4 ∨ r = 5 ∨ r = 6 ∨ r = 7 ∨ r = 8 ∨ r = 9 ∨ r = 10 := by omega
  rcases h with rfl | rfl | rfl | rfl | rfl | rfl | rfl | rfl | rfl | rfl | rfl <;> rfl
set_option maxRecDepth 20000 in
theorem sr_4 {L r : Nat} (hr : r < 11) : (SH L)[36 + 13 * r + 4]? = some (20, 41) := by
  have h : r = 0 ∨ r = 1 ∨ r = 2 ∨ r = 3 ∨ r = 4 ∨ r = 5 ∨ r = 6 ∨ r = 7 ∨ r = 8 ∨ r = 9 ∨ r = 10 := by omega
  rcases h with rfl | rfl | rfl | rfl | rfl | rfl | rfl | rfl | rfl | rfl | rfl <;> rfl
set_option maxRecDepth 20000 in
theorem sr_5 {L r : Nat} (hr : r < 11) : (SH L)[36 + 13 * r + 5]? = some (23, 6) := by
  have h : r = 0 ∨ r = 1 ∨ r = 2 ∨ r = 3 ∨ r = 4 ∨ r = 5 ∨ r = 6 ∨ r = 7 ∨ r = 8 ∨ r = 9 ∨ r = 10 := by omega
  rcases h with rfl | rfl | rfl | rfl | rfl | rfl | rfl | rfl | rfl | rfl | rfl <;> rfl
set_option maxRecDepth 20000 in
theorem sr_6 {L r : Nat} (hr : r < 11) : (SH L)[36 + 13 * r + 6]? = some (23, 6) := by
  have h : r = 0 ∨ r = 1 ∨ r = 2 ∨ r = 3 ∨ r = 4 ∨ r = 5 ∨ r = 6 ∨ r = 7 ∨ r = 8 ∨ r = 9 ∨ r = 10 := by omega
  rcases h with rfl | rfl | rfl | rfl | rfl | rfl | rfl | rfl | rfl | rfl | rfl <;> rfl
set_option maxRecDepth 20000 in
theorem sr_7 {L r : Nat} (hr : r < 11) : (SH L)[36 + 13 * r + 7]? = some (4, 7) := by
  have h : r = 0 ∨ r = 1 ∨ r = 2 ∨ r = 3 ∨ r = 4 ∨ r = 5 ∨ r = 6 ∨ r = 7 ∨ r = 8 ∨ r = 9 ∨ r = 10 := by omega
  rcases h with rfl | rfl | rfl | rfl | rfl | rfl | rfl | rfl | rfl | rfl | rfl <;> rfl
set_option maxRecDepth 20000 in
theorem sr_8 {L r : Nat} (hr : r < 11) : (SH L)[36 + 13 * r + 8]? = some (20, 41) := by
  have h : r = 0 ∨ r = 1 ∨ r = 2 ∨ r = 3 ∨ r = 4 ∨ r = 5 ∨ r = 6 ∨ r = 7 ∨ r = 8 ∨ r = 9 ∨ r = 10 := by omega
  rcases h with rfl | rfl | rfl | rfl | rfl | rfl | rfl | rfl | rfl | rfl | rfl <;> rfl
set_option maxRecDepth 20000 in
theorem sr_9 {L r : Nat} (hr : r < 11) : (SH L)[36 + 13 * r + 9]? = some (20, 41) := by
  have h : r = 0 ∨ r = 1 ∨ r = 2 ∨ r = 3 ∨ r = 4 ∨ r = 5 ∨ r = 6 ∨ r = 7 ∨ r = 8 ∨ r = 9 ∨ r = 10 := by omega
  rcases h with rfl | rfl | rfl | rfl | rfl | rfl | rfl | rfl | rfl | rfl | rfl <;> rfl
set_option maxRecDepth 20000 in
theorem sr_10 {L r : Nat} (hr : r < 11) : (SH L)[36 + 13 * r + 10]? = some (20, 41) := by
  have h : r = 0 ∨ r = 1 ∨ r = 2 ∨ r = 3 ∨ r = 4 ∨ r = 5 ∨ r = 6 ∨ r = 7 ∨ r = 8 ∨ r = 9 ∨ r = 10 := by omega
  rcases h with rfl | rfl | rfl | rfl | rfl | rfl | rfl | rfl | rfl | rfl | rfl <;> rfl
set_option maxRecDepth 20000 in
theorem sr_11 {L r : Nat} (hr : r < 11) : (SH L)[36 + 13 * r + 11]? = some (23, 6) := by
  have h : r = 0 ∨ r = 1 ∨ r = 2 ∨ r = 3 ∨ r = 4 ∨ r = 5 ∨ r = 6 ∨ r = 7 ∨ r = 8 ∨ r = 9 ∨ r = 10 := by omega
  rcases h with rfl | rfl | rfl | rfl | rfl | rfl | rfl | rfl | rfl | rfl | rfl <;> rfl
set_option maxRecDepth 20000 in
theorem sr_12 {L r : Nat} (hr : r < 11) : (SH L)[36 + 13 * r + 12]? = some (23, 6) := by
  have h : r = 0 ∨ r = 1 ∨ r = 2 ∨ r = 3 ∨ r = 4 ∨ r = 5 ∨ r = 6 ∨ r = 7 ∨ r = 8 ∨ r = 9 ∨ r = 10 := by omega
  rcases h with rfl | rfl | rfl | rfl | rfl | rfl | rfl | rfl | rfl | rfl | rfl <;> rfl
set_option maxRecDepth 20000 in
theorem sl_0 {L r : Nat} (hr : r < 6) : (SH L)[179 + 9 * r]? = some (2, 8) := by
  have h : r = 0 ∨ r = 1 ∨ r = 2 ∨ r = 3 ∨ r = 4 ∨ r = 5 := by omega
  rcases h with rfl | rfl | rfl | rfl | rfl | rfl <;> rfl
set_option maxRecDepth 20000 in
theorem sl_1 {L r : Nat} (hr : r < 6) : (SH L)[179 + 9 * r + 1]? = some (21, 24) := by
  have h : r = 0 ∨ r = 1 ∨ r = 2 ∨ r = 3 ∨ r = 4 ∨ r = 5 := by omega
  rcases h with rfl | rfl | rfl | rfl | rfl | rfl <;> rfl
set_option maxRecDepth 20000 in
theorem sl_2 {L r : Nat} (hr : r < 6) : (SH L)[179 + 9 * r + 2]? = some (20, 24) := by
  have h : r = 0 ∨ r = 1 ∨ r = 2 ∨ r = 3 ∨ r = 4 ∨ r = 5 := by omega
  rcases h with rfl | rfl | rfl | rfl | rfl | rfl <;> rfl
set_option maxRecDepth 20000 in
theorem sl_3 {L r : Nat} (hr : r < 6) : (SH L)[179 + 9 * r + 3]? = some (20, 24) := by
  have h : r = 0 ∨ r = 1 ∨ r = 2 ∨ r = 3 ∨ r = 4 ∨ r = 5 := by omega
  rcases h with rfl | rfl | rfl | rfl | rfl | rfl <;> rfl
set_option maxRecDepth 20000 in
theorem sl_4 {L r : Nat} (hr : r < 6) : (SH L)[179 + 9 * r + 4]? = some (20, 144) := by
  have h : r = 0 ∨ r = 1 ∨ r = 2 ∨ r = 3 ∨ r = 4 ∨ r = 5 := by omega
  rcases h with rfl | rfl | rfl | rfl | rfl | rfl <;> rfl
set_option maxRecDepth 20000 in
theorem sl_5 {L r : Nat} (hr : r < 6) : (SH L)[179 + 9 * r + 5]? = some (1, 4) := by
  have h : r = 0 ∨ r = 1 ∨ r = 2 ∨ r = 3 ∨ r = 4 ∨ r = 5 := by omega
  rcases h with rfl | rfl | rfl | rfl | rfl | rfl <;> rfl
set_option maxRecDepth 20000 in
theorem sl_6 {L r : Nat} (hr : r < 6) : (SH L)[179 + 9 * r + 6]? = some (20, 5) := by
  have h : r = 0 ∨ r = 1 ∨ r = 2 ∨ r = 3 ∨ r = 4 ∨ r = 5 := by omega
  rcases h with rfl | rfl | rfl | rfl | rfl | rfl <;> rfl
set_option maxRecDepth 20000 in
theorem sl_7 {L r : Nat} (hr : r < 6) : (SH L)[179 + 9 * r + 7]? = some (20, 10) := by
  have h : r = 0 ∨ r = 1 ∨ r = 2 ∨ r = 3 ∨ r = 4 ∨ r = 5 := by omega
  rcases h with rfl | rfl | rfl | rfl | rfl | rfl <;> rfl
set_option maxRecDepth 20000 in
theorem sl_8 {L r : Nat} (hr : r < 6) : (SH L)[179 + 9 * r + 8]? = some (21, 240) := by
  have h : r = 0 ∨ r = 1 ∨ r = 2 ∨ r = 3 ∨ r = 4 ∨ r = 5 := by omega
  rcases h with rfl | rfl | rfl | rfl | rfl | rfl <;> rfl
