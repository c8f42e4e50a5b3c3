section
def tv (τ : nb_St) (k b : Nat) : Nat → Nat := fun j => if j < b then (τ k j).toNatClampNeg else 0
theorem tv_r {τ : nb_St} {k b j lo hi : Nat} (h : pr_rng (τ k j) lo hi) (hj : j < b) (hh : hi < 2 ^ 31) : τ k j = nI (tv τ k b j) ∧ lo ≤ tv τ k b j ∧ tv τ k b j ≤ hi := by
  obtain ⟨n, h1, h2, h3⟩ := h
  have e : tv τ k b j = n := by
    unfold tv
    rw [if_pos hj, h3]
    exact pu_ix (by omega)
  rw [e]
  exact ⟨h3, h1, h2⟩
theorem tv_c {τ τ' : nb_St} {k b : Nat} (h : ∀ j, j < b → τ' k j = τ k j) : tv τ' k b = tv τ k b := by
  funext j
  unfold tv
  by_cases c : j < b
  · rw [if_pos c, if_pos c, h j c]
  · rw [if_neg c, if_neg c]
def eD (τ : nb_St) (bus bf B : Nat) (X : Nat → Nat → Bool) (on : Nat → Bool) (gv : Nat → Nat) : eT :=
  (nb_ix (τ 2 0), tv τ 3 8, (fun i => if i = bus then 3 else tv τ 6 8 i), (fun i => if i = bus then bf else tv τ 4 8 i), tv τ 5 8, nb_ix (τ 10 0), nb_ix (τ 11 0),
   (fun i t => if (if i = bus then 3 else tv τ 6 8 i) = 2 then 0 else su (fun k => if tv τ 20 6 k ≤ t ∧ X k i = true then tv τ 21 6 k else 0) (nb_ix (τ 19 0)) + su (fun k => if on k = true ∧ gv k ≤ t then tv τ 8 3 k else 0) (nb_ix (τ 7 0))),
   (fun i t => if (if i = bus then 3 else tv τ 6 8 i) = 1 then su (fun k => if tv τ 23 4 k ≤ t then 10 else 0) (nb_ix (τ 22 0)) else 0), B)
theorem eD_c {τ τ' : nb_St} {bus bf B : Nat} {X : Nat → Nat → Bool} {on : Nat → Bool} {gv : Nat → Nat} (h : ∀ k, 2 ≤ k → k ≤ 23 → ∀ j, j < (if k = 19 ∨ k = 22 then 1 else if k = 20 ∨ k = 21 then 6 else if k = 23 then 4 else if k = 8 then 3 else if 3 ≤ k ∧ k ≤ 6 then 8 else 1) → τ' k j = τ k j) : eD τ' bus bf B X on gv = eD τ bus bf B X on gv := by
  have t3 : tv τ' 3 8 = tv τ 3 8 := tv_c (fun j hj => h 3 (by decide) (by decide) j (by simpa using hj))
  have t4 : tv τ' 4 8 = tv τ 4 8 := tv_c (fun j hj => h 4 (by decide) (by decide) j (by simpa using hj))
  have t5 : tv τ' 5 8 = tv τ 5 8 := tv_c (fun j hj => h 5 (by decide) (by decide) j (by simpa using hj))
  have t6 : tv τ' 6 8 = tv τ 6 8 := tv_c (fun j hj => h 6 (by decide) (by decide) j (by simpa using hj))
  have t8 : tv τ' 8 3 = tv τ 8 3 := tv_c (fun j hj => h 8 (by decide) (by decide) j (by simpa using hj))
  have t20 : tv τ' 20 6 = tv τ 20 6 := tv_c (fun j hj => h 20 (by decide) (by decide) j (by simpa using hj))
  have t21 : tv τ' 21 6 = tv τ 21 6 := tv_c (fun j hj => h 21 (by decide) (by decide) j (by simpa using hj))
  have t23 : tv τ' 23 4 = tv τ 23 4 := tv_c (fun j hj => h 23 (by decide) (by decide) j (by simpa using hj))
  unfold eD
  rw [t3, t4, t5, t6, t8, t20, t21, t23, h 2 (by decide) (by decide) 0 (by decide), h 7 (by decide) (by decide) 0 (by decide), h 10 (by decide) (by decide) 0 (by decide), h 11 (by decide) (by decide) 0 (by decide), h 19 (by decide) (by decide) 0 (by decide), h 22 (by decide) (by decide) 0 (by decide)]
/-- the laid party and what is told, class and reference -/
def cl (σ τ : nb_St) (p d g o w a b : Nat) : Prop := pr_pd p d ∧ σ 0 3 = nI p ∧ 1 ≤ g ∧ pr_pt σ τ p 0 g o w ∧ pr_told σ τ (p + 5) 0 a b
def pe (σ r : nb_St) : Prop := ∀ k, k ≠ 36 → (k < 53 ∨ 60 < k) → r k = σ k
theorem pe_r {σ : nb_St} : pe σ σ := fun _ _ _ => rfl
theorem pe_t {σ r s : nb_St} (h : pe σ r) (h' : pe r s) : pe σ s := fun k a b => (h' k a b).trans (h k a b)
theorem pe_f {σ r : nb_St} (h : ef σ r) : pe σ r := fun k a b => h.1 k a (by omega) (by omega) (by omega)
def rfm (τ r : nb_St) : Prop := (∀ k, 1 ≤ k → k ≤ 25 → r k = τ k) ∧ ∀ j, (j < 29 ∨ 32 < j) → j ≠ 36 → r 0 j = τ 0 j
theorem rfm_r {τ : nb_St} : rfm τ τ := ⟨fun _ _ _ => rfl, fun _ _ _ => rfl⟩
theorem rfm_t {τ r s : nb_St} (h : rfm τ r) (h' : rfm r s) : rfm τ s := ⟨fun k a b => (h'.1 k a b).trans (h.1 k a b), fun j a b => (h'.2 j a b).trans (h.2 j a b)⟩
theorem rfm_f {τ r : nb_St} (h : erf τ r) : rfm τ r := ⟨fun k a b => h k (by omega) (by omega), fun j a b => by rw [h 0 (by decide) (by decide)]⟩
theorem cl_c {σ τ σ' τ' : nb_St} {p d g o w a b : Nat} (h : cl σ τ p d g o w a b) (hσ : pe σ σ') (hτ : rfm τ τ') : cl σ' τ' p d g o w a b := by
  obtain ⟨h1, h2, h3, h4, h5⟩ := h
  have hp : p = 4 ∨ p = 20 := by rcases h1 with ⟨h1, -⟩ | ⟨h1, -⟩ <;> omega
  refine ⟨h1, by rw [hσ 0 (by decide) (by decide)]; exact h2, h3, pr_pt_c h4 (fun k _ _ => hσ _ (by omega) (by omega)) (fun k a b => hτ.1 k (by omega) (by omega)), ?_⟩
  exact pr_told_c h5 (hσ _ (by omega) (by omega)) (hσ _ (by omega) (by omega)) (hσ _ (by omega) (by omega)) (hσ _ (by omega) (by omega)) (fun k a b => hτ.1 k (by omega) (by omega))
theorem eD_r {τ τ' : nb_St} {bus bf B : Nat} {X : Nat → Nat → Bool} {on : Nat → Bool} {gv : Nat → Nat} (h : rfm τ τ') : eD τ' bus bf B X on gv = eD τ bus bf B X on gv := eD_c (fun k a b j _ => by rw [h.1 k (by omega) (by omega)])
/-- what the laid party says, in numbers -/
theorem cl_n {σ τ : nb_St} {p d g o w a b : Nat} (h : cl σ τ p d g o w a b) {bus bf B : Nat} {X : Nat → Nat → Bool} {on : Nat → Bool} {gv : Nat → Nat} {D : eT} (hD : D = eD τ bus bf B X on gv) : (p = 4 ∨ p = 20) ∧ eg D = g ∧ (∀ k, k < g → eP D k < 4 ∧ τ 3 k = nI (eP D k) ∧ σ (p + 1) k = nI (eP D k)) ∧ (∀ k, k < g → tv τ 6 8 k ≤ 5 ∧ τ 6 k = nI (tv τ 6 8 k) ∧ σ (p + 4) k = nI (tv τ 6 8 k)) ∧ (∀ k, k < g → tv τ 4 8 k ≤ 359 ∧ τ 4 k = nI (tv τ 4 8 k) ∧ σ (p + 2) k = nI (tv τ 4 8 k)) ∧ (∀ k, k < g → eS D k ≤ 199 ∧ τ 5 k = nI (eS D k) ∧ σ (p + 3) k = nI (eS D k)) ∧ (eL D ≤ 99 ∧ τ 10 0 = nI (eL D) ∧ σ p 6 = nI (eL D)) ∧ (eH D ≤ 60 ∧ τ 11 0 = nI (eH D) ∧ σ p 7 = nI (eH D)) ∧ (nb_ix (τ 12 0) ≤ 359 ∧ τ 12 0 = nI (nb_ix (τ 12 0)) ∧ σ p 8 = nI (nb_ix (τ 12 0))) ∧ (∀ k, k < o → tv τ 8 3 k ≤ 99 ∧ τ 8 k = nI (tv τ 8 3 k) ∧ σ (p + 9) k = nI (tv τ 8 3 k)) ∧ (∀ k, k < o → tv τ 9 3 k ≤ 999 ∧ τ 9 k = nI (tv τ 9 3 k) ∧ σ (p + 10) k = nI (tv τ 9 3 k)) ∧ (∀ k, k < a → tv τ 20 6 k ≤ 359 ∧ τ 20 k = nI (tv τ 20 6 k) ∧ σ (p + 6) k = nI (tv τ 20 6 k)) ∧ (∀ k, k < a → tv τ 21 6 k ≤ 99 ∧ τ 21 k = nI (tv τ 21 6 k) ∧ σ (p + 7) k = nI (tv τ 21 6 k)) ∧ (∀ k, k < b → tv τ 23 4 k ≤ 359 ∧ τ 23 k = nI (tv τ 23 4 k) ∧ σ (p + 8) k = nI (tv τ 23 4 k)) ∧ nb_ix (τ 7 0) = o ∧ nb_ix (τ 19 0) = a ∧ nb_ix (τ 22 0) = b := by
  obtain ⟨h1, h2, h3, ⟨c1, c2, c3, c4, c5, c6, c7, c8, c9, c10, c11, c12, c13, c14, c15, c16, c17⟩, ⟨t1, t2, t3, t4, t5, t6, t7, t8⟩⟩ := h
  have hp : p = 4 ∨ p = 20 := by rcases h1 with ⟨h1, -⟩ | ⟨h1, -⟩ <;> omega
  subst hD
  have one : ∀ {x y : Int32} {hi : Nat}, x = y → pr_rng x 0 hi → hi < 2 ^ 31 → nb_ix y ≤ hi ∧ y = nI (nb_ix y) ∧ x = nI (nb_ix y) := by
    rintro x y hi rfl ⟨n, q1, q2, rfl⟩ q3
    have e : nb_ix (nI n) = n := pu_ix (by omega)
    rw [e]
    exact ⟨q2, rfl, rfl⟩
  have lift : ∀ {x : Int32} {c k bb lo hi : Nat}, x = τ c (0 + k) → pr_rng x lo hi → k < bb → hi < 2 ^ 31 → tv τ c bb k ≤ hi ∧ τ c k = nI (tv τ c bb k) ∧ x = nI (tv τ c bb k) := by
    intro x c k bb lo hi e q1 q2 q3
    rw [Nat.zero_add] at e
    subst e
    obtain ⟨r1, r2, r3⟩ := tv_r q1 q2 q3
    exact ⟨r3, r1, r1⟩
  refine ⟨hp, ?_, fun k hk => ?_, fun k hk => ?_, fun k hk => ?_, fun k hk => ?_, one c7 c8 (by omega), one c9 c10 (by omega), one c11 c12 (by omega), fun k hk => ?_, fun k hk => ?_, fun k hk => ?_, fun k hk => ?_, fun k hk => ?_, ?_, ?_, ?_⟩
  · show nb_ix (τ 2 0) = g
    rw [c5]; exact pu_ix (by omega)
  · obtain ⟨d1, d2, d3, d4, d5, d6, d7, d8⟩ := c6 k hk
    obtain ⟨r1, r2, r3⟩ := lift (bb := 8) d1 d2 (by omega) (by omega)
    exact ⟨Nat.lt_of_le_of_lt r1 (by omega), r2, r3⟩
  · obtain ⟨d1, d2, d3, d4, d5, d6, d7, d8⟩ := c6 k hk
    exact lift (bb := 8) d7 d8 (by omega) (by omega)
  · obtain ⟨d1, d2, d3, d4, d5, d6, d7, d8⟩ := c6 k hk
    exact lift (bb := 8) d3 d4 (by omega) (by omega)
  · obtain ⟨d1, d2, d3, d4, d5, d6, d7, d8⟩ := c6 k hk
    exact lift (bb := 8) d5 d6 (by omega) (by omega)
  · obtain ⟨d1, d2, d3, d4⟩ := c15 k hk
    exact lift (bb := 3) d1 d2 (by omega) (by omega)
  · obtain ⟨d1, d2, d3, d4⟩ := c15 k hk
    exact lift (bb := 3) d3 d4 (by omega) (by omega)
  · obtain ⟨d1, d2, d3, d4⟩ := t7 k hk
    exact lift (bb := 6) d1 d2 (by omega) (by omega)
  · obtain ⟨d1, d2, d3, d4⟩ := t7 k hk
    exact lift (bb := 6) d3 d4 (by omega) (by omega)
  · obtain ⟨d1, d2⟩ := t8 k hk
    exact lift (bb := 4) d1 d2 (by omega) (by omega)
  · rw [c14]; exact pu_ix (by omega)
  · rw [t4]; exact pu_ix (by omega)
  · rw [t6]; exact pu_ix (by omega)
/-- the class, prepared -/
def epd (σ τ r : nb_St) (p g a bus bf B : Nat) : Prop := pe σ r ∧ r 36 0 = nI p ∧ r 36 7 = nI B ∧ B ≤ 719 ∧ r 36 8 = bm (hpn (tv τ 3 8) g) ∧ (∀ k, k < g → r 53 k = nI (if k = bus then 3 else tv τ 6 8 k)) ∧ (∀ k, k < g → r 54 k = nI (if k = bus then bf else tv τ 4 8 k)) ∧ bf ≤ 359
def eps9 (r : nb_St) (n : Nat) (M V : Nat → Nat) (X : Nat → Nat → Bool) : Prop := r 36 3 = nI n ∧ n ≤ 9 ∧ (∀ k, k < n → r 55 k = nI (M k)) ∧ (∀ k, k < n → M k ≤ 359) ∧ (∀ k, k < n → r 56 k = nI (V k)) ∧ (∀ k, k < n → V k ≤ 99) ∧ ∀ k, k < n → r 57 k = hb (X k)
theorem ec_of {σ τ r : nb_St} {p d g o w a b bus bf B : Nat} {X : Nat → Nat → Bool} {on : Nat → Bool} {gv : Nat → Nat} (h : cl σ τ p d g o w a b) (hr : epd σ τ r p g a bus bf B) {n : Nat} {M V : Nat → Nat} {X2 : Nat → Nat → Bool} (hs : eps9 r n M V X2) (he : ∀ i, i < g → ∀ t, su (fun k => if M k ≤ t ∧ X2 k i = true then V k else 0) n = su (fun k => if tv τ 20 6 k ≤ t ∧ X k i = true then tv τ 21 6 k else 0) a + su (fun k => if on k = true ∧ gv k ≤ t then tv τ 8 3 k else 0) o) : ec r p (eD τ bus bf B X on gv) := by
  obtain ⟨D, hD⟩ : ∃ D, D = eD τ bus bf B X on gv := ⟨_, rfl⟩
  obtain ⟨n1, n2, n3, n4, n5, n6, n7, n8, n9, n10, n11, n12, n13, n14, n15, n16, n17⟩ := cl_n h hD
  obtain ⟨e1, e2, e3, e4, e5, e6, e7, e8⟩ := hr
  obtain ⟨s1, s2, s3, s4, s5, s6, s7⟩ := hs
  obtain ⟨h1, h2, h3, ⟨c1, c2, c3, c4, c5, c6, c7, c8, c9, c10, c11, c12, c13, c14, c15, c16, c17⟩, ⟨t1, t2, t3, t4, t5, t6, t7, t8⟩⟩ := h
  rw [← hD]
  have kK : ∀ k, eK D k = if k = bus then 3 else tv τ 6 8 k := fun k => by rw [hD]; rfl
  have kF : ∀ k, eF D k = if k = bus then bf else tv τ 4 8 k := fun k => by rw [hD]; rfl
  have kB : eB D = B := by rw [hD]; rfl
  have kP : eP D = tv τ 3 8 := by rw [hD]; rfl
  have q : ∀ j, j ≤ 15 → r (p + j) = σ (p + j) := fun j hj => e1 _ (by omega) (by omega)
  have q0 : r p = σ p := q 0 (by omega)
  refine ⟨⟨n1, e2, by rw [q0, n2]; exact c4, by omega, by omega, fun k hk => ?_, fun k hk => ?_, fun k hk => ?_, fun k hk => ?_, fun k hk => ?_, fun k hk => ?_, fun k hk => ?_, fun k hk => ?_, by rw [q0]; exact n7.2.2, n7.1, by rw [q0]; exact n8.2.2, n8.1, by rw [kB]; exact e3, by omega, by rw [kP, n2]; exact e5⟩, ⟨n, M, V, X2, s1, s2, s3, s4, s5, s6, s7, fun i hi t => ?_⟩, b, tv τ 23 4, ?_, t2, fun k hk => ?_, fun k hk => (n14 k hk).1, fun i hi t => ?_⟩
  · rw [q 1 (by omega)]; exact (n3 k (by omega)).2.2
  · exact (n3 k (by omega)).1
  · rw [kK]; exact e6 k (by omega)
  · rw [kK]
    have := (n4 k (by omega)).1
    split <;> omega
  · rw [kF]; exact e7 k (by omega)
  · rw [kF]
    have := (n5 k (by omega)).1
    split <;> omega
  · rw [q 3 (by omega)]; exact (n6 k (by omega)).2.2
  · exact (n6 k (by omega)).1
  · rw [he i (by omega) t]
    have e9 : es D i t = if (if i = bus then 3 else tv τ 6 8 i) = 2 then 0 else su (fun k => if tv τ 20 6 k ≤ t ∧ X k i = true then tv τ 21 6 k else 0) (nb_ix (τ 19 0)) + su (fun k => if on k = true ∧ gv k ≤ t then tv τ 8 3 k else 0) (nb_ix (τ 7 0)) := by rw [hD]; rfl
    rw [e9, kK, n15, n16]
  · rw [q 5 (by omega)]; exact t5
  · rw [q 8 (by omega)]; exact (n14 k hk).2.2
  · have e9 : ew D i t = if (if i = bus then 3 else tv τ 6 8 i) = 1 then su (fun k => if tv τ 23 4 k ≤ t then 10 else 0) (nb_ix (τ 22 0)) else 0 := by rw [hD]; rfl
    rw [e9, kK, n17]
/-- the reference, prepared -/
theorem er_of {σ τ r : nb_St} {p d g o w a b bus bf B : Nat} {X : Nat → Nat → Bool} {on : Nat → Bool} {gv : Nat → Nat} (h : cl σ τ p d g o w a b) (hr : rfm τ r) (hb1 : ∀ i, i < g → (nI i = r 0 29 ↔ i = bus)) (hb2 : bus < g → r 0 30 = nI bf) (hbf : bf ≤ 359) (hB : B ≤ 719) (hbell : ∀ t, t ≤ B → ((nI t = nI 719 ∨ nI t = r 0 31) ↔ t = B)) (hX : ∀ i, i < g → ∀ k, k < a → ∀ N, fX8_counts N r (nI i) (nI k) = some (if X k i = true then nI 1 else nI 0)) (hgv : ∀ k, k < o → r 26 k = if on k = true then nI (gv k) else -4) (hgv2 : ∀ k, k < o → gv k ≤ 359) : er r (eD τ bus bf B X on gv) bus := by
  obtain ⟨D, hD⟩ : ∃ D, D = eD τ bus bf B X on gv := ⟨_, rfl⟩
  obtain ⟨n1, n2, n3, n4, n5, n6, n7, n8, n9, n10, n11, n12, n13, n14, n15, n16, n17⟩ := cl_n h hD
  obtain ⟨h1, h2, h3, ⟨c1, c2, c3, c4, c5, c6, c7, c8, c9, c10, c11, c12, c13, c14, c15, c16, c17⟩, ⟨t1, t2, t3, t4, t5, t6, t7, t8⟩⟩ := h
  rw [← hD]
  have kK : ∀ k, eK D k = if k = bus then 3 else tv τ 6 8 k := fun k => by rw [hD]; rfl
  have kF : ∀ k, eF D k = if k = bus then bf else tv τ 4 8 k := fun k => by rw [hD]; rfl
  have kB : eB D = B := by rw [hD]; rfl
  have q : ∀ k, 1 ≤ k → k ≤ 25 → r k = τ k := hr.1
  refine ⟨⟨?_, by omega, by omega, fun k hk => ?_, fun k hk => ?_, fun k hk hkb => ?_, fun k hk => ?_, fun k hk hkb => ?_, fun k hk hkb => ?_, fun k hk => ?_, fun k hk => ?_, fun k hk => ?_, ?_, n7.1, ?_, n8.1, by omega, fun i hi => hb1 i (by omega), fun k hk hkb => ?_, ?_⟩, ⟨a, tv τ 20 6, tv τ 21 6, X, o, on, gv, tv τ 8 3, ?_, t1, fun k hk => ?_, fun k hk => (n12 k hk).1, fun k hk => ?_, fun k hk => (n13 k hk).1, fun i hi => hX i (by omega), ?_, c2, hgv, hgv2, fun k hk => ?_, fun k hk => (n10 k hk).1, fun i hi hib t => ?_⟩, b, tv τ 23 4, ?_, t2, fun k hk => ?_, fun k hk => (n14 k hk).1, fun i hi hib t => ?_⟩
  · rw [q 2 (by omega) (by omega), n2]; exact c5
  · rw [q 3 (by omega) (by omega)]; exact (n3 k (by omega)).2.1
  · exact (n3 k (by omega)).1
  · rw [q 6 (by omega) (by omega), kK, if_neg hkb]; exact (n4 k (by omega)).2.1
  · rw [kK]
    have := (n4 k (by omega)).1
    split <;> omega
  · rw [kK, if_pos hkb]
  · rw [q 4 (by omega) (by omega), kF, if_neg hkb]; exact (n5 k (by omega)).2.1
  · rw [kF]
    have := (n5 k (by omega)).1
    split <;> omega
  · rw [q 5 (by omega) (by omega)]; exact (n6 k (by omega)).2.1
  · exact (n6 k (by omega)).1
  · rw [q 10 (by omega) (by omega)]; exact n7.2.1
  · rw [q 11 (by omega) (by omega)]; exact n8.2.1
  · rw [kF, if_pos hkb]; exact hb2 (by omega)
  · rw [kB]; exact hbell
  · rw [q 19 (by omega) (by omega)]; exact t4
  · rw [q 20 (by omega) (by omega)]; exact (n12 k hk).2.1
  · rw [q 21 (by omega) (by omega)]; exact (n13 k hk).2.1
  · rw [q 7 (by omega) (by omega)]; exact c14
  · rw [q 8 (by omega) (by omega)]; exact (n10 k hk).2.1
  · have e9 : es D i t = if (if i = bus then 3 else tv τ 6 8 i) = 2 then 0 else su (fun k => if tv τ 20 6 k ≤ t ∧ X k i = true then tv τ 21 6 k else 0) (nb_ix (τ 19 0)) + su (fun k => if on k = true ∧ gv k ≤ t then tv τ 8 3 k else 0) (nb_ix (τ 7 0)) := by rw [hD]; rfl
    rw [e9, kK, n15, n16]
  · rw [q 22 (by omega) (by omega)]; exact t6
  · rw [q 23 (by omega) (by omega)]; exact (n14 k hk).2.1
  · have e9 : ew D i t = if (if i = bus then 3 else tv τ 6 8 i) = 1 then su (fun k => if tv τ 23 4 k ≤ t then 10 else 0) (nb_ix (τ 22 0)) else 0 := by rw [hD]; rfl
    rw [e9, kK, n17]
end
