section
def grk (σ : nb_St) (W S : Nat → Nat) (m n : Nat) : Prop := σ 64 6 = nI (grn W S m n) ∧ σ 64 7 = nI (gmR W S m n) ∧ σ 64 8 = nI (gmA W S m n) ∧ (0 < grn W S m n → ∀ k, k < m → σ 68 k = nI (gSL m (gfr W S m n) k))
theorem pz_weigh {N : Nat} {σ : nb_St} {W S : Nat → Nat} {m c : Nat} (hN : 10 < N) (h : gs σ 64 65 66 67 1 W S m (gSL m c)) (hk : grk σ W S m c) (hc : c < 10000) : ∃ r, fX1_weighChoice N σ = some r ∧ grk r W S m (c + 1) ∧ (∀ k, k ≠ 64 → k ≠ 68 → r k = σ k) ∧ (∀ j, j < 6 → r 64 j = σ 64 j) := by
  have hcs : ∀ i, i < m → fX1_costOf N σ (nI i) = some (nI (gm_cost W S m (gSL m c) i)) := fun i hi => pu_cost7 (by omega) h hi
  obtain ⟨a1, a2, a3, a4, a5, a6, a7, a8⟩ := id h
  obtain ⟨k1, k2, k3, k4⟩ := hk
  have b1 := gmR_le (W := W) (S := S) (m := m) c
  have b2 := gmA_le (W := W) (S := S) (m := m) c
  have b3 := grn_le (W := W) (S := S) (m := m) (n := c)
  have b4 : gsu W S m c ≤ 5000 := gsm_le a2 a4 a6 a8
  unfold fX1_weighChoice
  refine nb_e2 (I := fun j x y => j ≤ m ∧ y = nI j ∧ x = nI (su (fun i => gm_cost W S m (gSL m c) i) j)) m ?_ (by omega) ⟨by omega, rfl, rfl⟩
  rintro ag j x y ⟨hj, rfl, rfl⟩
  by_cases hlt : j < m
  · right
    have r1 := hcs j hlt
    refine ⟨hlt, nI (su (fun i => gm_cost W S m (gSL m c) i) (j + 1)), nI (j + 1), ⟨by omega, rfl, rfl⟩, ?_⟩
    show _ = ag (nI (su (fun i => gm_cost W S m (gSL m c) i) j + gm_cost W S m (gSL m c) j)) _
    simp (disch := omega) only [pn_g, pu_b1, pn_b2, pn_leT, pn_leF, pn_ltT, pn_ltF, pn_eqT, pn_eqF, pu_in, pu_ix, nI_add, pk_mul, pk_sub, ↓reduceIte, Bool.false_eq_true, if_false, if_true, nb_st_s, nb_st_k, nb_st_n, nb_sa_s, nb_sa_n, pL0, pL1, pL2, pL3, pL4, pL5, pL6, pL7, pL8, pL9, pL10, pL11, pL12, pL13, pL15, pL20, pL30, pL99, pL100, pL180, pL240, pL255, pL350, pL359, pL719, pL720, pL999, pL9999, pL99999, pL100000, pL1000000, nb_let, a1, r1]
  · left
    have : j = m := by omega
    subst this
    have es : su (fun i => gm_cost W S j (gSL j c) i) j = gsu W S j c := rfl
    rw [es]
    have h2 : gs (nb_st σ 64 8 (nI (min (gmA W S j c) (gsu W S j c)))) 64 65 66 67 1 W S j (gSL j c) := by
      refine ⟨by rw [nb_st_n (by decide)]; exact a1, a2, ?_, a4, ?_, a6, ?_, a8⟩
      · rw [nb_st_k (by decide)]; exact a3
      · rw [nb_st_k (by decide)]; exact a5
      · rw [nb_st_k (by decide)]; exact a7
    have hr := pz_rest7 hN h2
    have eA : gmA W S j (c + 1) = min (gmA W S j c) (gsu W S j c) := rfl
    have eR : gmR W S j (c + 1) = if grs W S j c = true then min (gmR W S j c) (gsu W S j c) else gmR W S j c := rfl
    have eF : gfr W S j (c + 1) = if grs W S j c = true ∧ grn W S j c = 0 then c else gfr W S j c := rfl
    have eN := grn_s (W := W) (S := S) (m := j) (n := c)
    simp only [nb_let]
    rw [a1, if_pos (nI_le (Nat.le_refl _) (by omega)), k3, pu_minN (by omega) (by omega), hr, pn_b2]
    by_cases cr : grs W S j c = true
    · have cr2 : gm_rest W S j (gSL j c) = true := cr
      rw [if_pos cr2, if_neg (show ¬ nI 1 = (0 : Int32) by decide)]
      rw [if_pos cr] at eR eN
      have n6 : nb_st σ 64 8 (nI (min (gmA W S j c) (gsu W S j c))) 64 6 = nI (grn W S j c) := by rw [nb_st_n (by decide)]; exact k1
      rw [n6]
      by_cases c0 : grn W S j c = 0
      · rw [if_pos (show nI (grn W S j c) = 0 by rw [c0]; rfl)]
        rw [if_pos ⟨cr, c0⟩] at eF
        refine ⟨_, rfl, ⟨?_, ?_, ?_, fun _ k hk => ?_⟩, fun k q1 q2 => ?_, fun i hi => ?_⟩
        · rw [nb_st_n (by decide), nb_st_s, nb_sa_n (by decide), n6, eN, nI_1]
        · rw [nb_st_s, nb_st_n (by decide), nb_sa_n (by decide), nb_st_n (by decide), k2, pu_minN (by omega) (by omega), eR]
        · rw [nb_st_n (by decide), nb_st_n (by decide), nb_sa_n (by decide), nb_st_s, eA]
        · rw [nb_st_k (by decide), nb_st_k (by decide), nb_sa_s, show nb_ix (0 : Int32) = 0 from rfl, show nb_ix (4 : Int32) = 4 from rfl, pk_cpy_in (by omega) (by omega), nb_st_k (by decide), eF, Nat.sub_zero, Nat.zero_add]
          exact a7 k hk
        · rw [nb_st_k q1, nb_st_k q1, nb_sa_n q2, nb_st_k q1]
        · rw [nb_st_n (by omega), nb_st_n (by omega), nb_sa_n (by decide), nb_st_n (by omega)]
      · rw [if_neg (nI_ne0 (by omega) (by omega))]
        rw [if_neg (fun q => c0 q.2)] at eF
        refine ⟨_, rfl, ⟨?_, ?_, ?_, fun _ k hk => ?_⟩, fun k q1 q2 => ?_, fun i hi => ?_⟩
        · rw [nb_st_n (by decide), nb_st_s, eN, nI_1]
        · rw [nb_st_s, nb_st_n (by decide), nb_st_n (by decide), k2, pu_minN (by omega) (by omega), eR]
        · rw [nb_st_n (by decide), nb_st_n (by decide), nb_st_s, eA]
        · rw [nb_st_k (by decide), nb_st_k (by decide), nb_st_k (by decide), eF]
          exact k4 (by omega) k hk
        · rw [nb_st_k q1, nb_st_k q1, nb_st_k q1]
        · rw [nb_st_n (by omega), nb_st_n (by omega), nb_st_n (by omega)]
    · have cr2 : ¬ gm_rest W S j (gSL j c) = true := cr
      rw [if_neg cr2, if_pos (show nI 0 = (0 : Int32) from rfl)]
      rw [if_neg cr] at eR eN
      rw [if_neg (fun q => cr q.1)] at eF
      refine ⟨_, rfl, ⟨?_, ?_, ?_, fun q k hk => ?_⟩, fun k q1 q2 => ?_, fun i hi => ?_⟩
      · rw [nb_st_n (by decide), k1, eN, Nat.add_zero]
      · rw [nb_st_n (by decide), k2, eR]
      · rw [nb_st_s, eA]
      · rw [nb_st_k (by decide), eF]
        exact k4 (by omega) k hk
      · rw [nb_st_k q1]
      · rw [nb_st_n (by omega)]
theorem six_le {m : Nat} (h : m ≤ 4) : 6 ^ m ≤ 1296 ∧ 1 ≤ 6 ^ m := by
  have : m = 0 ∨ m = 1 ∨ m = 2 ∨ m = 3 ∨ m = 4 := by omega
  rcases this with rfl | rfl | rfl | rfl | rfl <;> decide
/-- the game, gathered -/
def ggt (σ : nb_St) (W S : Nat → Nat) (m : Nat) : Prop := σ 64 1 = nI m ∧ m ≤ 4 ∧ (∀ k, k < m → σ 65 k = nI (W k)) ∧ (∀ k, k < m → W k ≤ 359) ∧ (∀ k, k < m → σ 66 k = nI (S k)) ∧ (∀ k, k < m → S k ≤ 199)
theorem pz_reckon {N : Nat} {σ : nb_St} {W S : Nat → Nat} {m : Nat} (hN : 1400 < N) (h : ggt σ W S m) (h0 : σ 64 0 = 0) : ∃ r, fX1_reckon N σ = some r ∧ grk r W S m (6 ^ m) ∧ (∀ k, k ≠ 64 → k ≠ 67 → k ≠ 68 → r k = σ k) ∧ r 64 0 = nI 1 ∧ r 64 1 = σ 64 1 := by
  obtain ⟨a1, a2, a3, a4, a5, a6⟩ := h
  obtain ⟨x1, x2⟩ := six_le a2
  unfold fX1_reckon
  rw [h0, if_pos rfl]
  simp only [nb_let]
  obtain ⟨s0, hs0⟩ : ∃ s0, s0 = nb_st (nb_st (nb_st σ 64 6 (0 : Int32)) 64 7 (100000 : Int32)) 64 8 (100000 : Int32) := ⟨_, rfl⟩
  rw [← hs0]
  have q1 : s0 64 1 = nI m := by rw [hs0, nb_st_n (by decide), nb_st_n (by decide), nb_st_n (by decide)]; exact a1
  have qk : ∀ k, k ≠ 64 → s0 k = σ k := fun k hk => by rw [hs0, nb_st_k hk, nb_st_k hk, nb_st_k hk]
  refine nb_e2 (I := fun j x y => j ≤ m ∧ y = nI j ∧ x = nI (6 ^ j)) m ?_ (by omega) ⟨by omega, rfl, rfl⟩
  rintro ag j x y ⟨hj, rfl, rfl⟩
  by_cases hlt : j < m
  · right
    refine ⟨hlt, nI (6 ^ (j + 1)), nI (j + 1), ⟨by omega, rfl, rfl⟩, ?_⟩
    rw [Nat.pow_succ]
    simp (disch := omega) only [pn_g, pu_b1, pn_b2, pn_leT, pn_leF, pn_ltT, pn_ltF, pn_eqT, pn_eqF, pu_in, pu_ix, nI_add, pk_mul, pk_sub, ↓reduceIte, Bool.false_eq_true, if_false, if_true, nb_st_s, nb_st_k, nb_st_n, nb_sa_s, nb_sa_n, pL0, pL1, pL2, pL3, pL4, pL5, pL6, pL7, pL8, pL9, pL10, pL11, pL12, pL13, pL15, pL20, pL30, pL99, pL100, pL180, pL240, pL255, pL350, pL359, pL719, pL720, pL999, pL9999, pL99999, pL100000, pL1000000, q1]
  have : j = m := by omega
  subst this
  left
  rw [q1, if_pos (nI_le (Nat.le_refl _) (by omega))]
  refine nb_e2 (I := fun c x s => c ≤ 6 ^ j ∧ x = nI c ∧ grk s W S j c ∧ (∀ k, k ≠ 64 → k ≠ 67 → k ≠ 68 → s k = σ k) ∧ s 64 1 = nI j) (6 ^ j) ?_ (by omega) ⟨by omega, rfl, ⟨?_, ?_, ?_, fun q => absurd q (Nat.lt_irrefl 0)⟩, fun k k1 _ _ => qk k k1, q1⟩
  · rintro ag2 c x s ⟨hc, rfl, f1, f2, f3⟩
    by_cases hlt2 : c < 6 ^ j
    · right
      obtain ⟨t, t1, t2, t3⟩ := pz_choose7 (N := N) (c := c) (by omega) (by omega) a2 f3
      have hgs : gs t 64 65 66 67 1 W S j (gSL j c) := by
        refine ⟨by rw [t2 64 (by decide)]; exact f3, a2, ?_, a4, ?_, a6, t3, fun k hk => Nat.le_trans gSL_le (by omega)⟩
        · rw [t2 65 (by decide), f2 65 (by decide) (by decide) (by decide)]; exact a3
        · rw [t2 66 (by decide), f2 66 (by decide) (by decide) (by decide)]; exact a5
      have hk : grk t W S j c := by
        unfold grk at *
        rw [t2 64 (by decide), t2 68 (by decide)]
        exact f1
      obtain ⟨u, u1, u2, u3, u4⟩ := pz_weigh (N := N) (by omega) hgs hk (by omega)
      refine ⟨hlt2, nI (c + 1), u, ⟨by omega, rfl, u2, fun k k1 k2 k3 => by rw [u3 k k1 k3, t2 k k2]; exact f2 k k1 k2 k3, by rw [u4 1 (by decide), t2 64 (by decide)]; exact f3⟩, ?_⟩
      rw [if_neg (nI_ge hlt2 (by omega)), t1, pu_b1, u1, pu_b1, nI_1]
    · left
      have : c = 6 ^ j := by omega
      rw [this] at f1 ⊢
      refine ⟨nb_st s 64 0 1, ?_, ?_, fun k k1 k2 k3 => by rw [nb_st_k k1]; exact f2 k k1 k2 k3, by rw [nb_st_s]; rfl, by rw [nb_st_n (by decide), f3, a1]⟩
      · rw [if_pos (nI_le (Nat.le_refl _) (by omega))]
      · unfold grk at *
        rw [nb_st_n (by decide), nb_st_n (by decide), nb_st_n (by decide), nb_st_k (by decide)]
        exact f1
  · rw [hs0, nb_st_n (by decide), nb_st_n (by decide), nb_st_s]; rfl
  · rw [hs0, nb_st_n (by decide), nb_st_s]; rfl
  · rw [hs0, nb_st_s]; rfl
abbrev gmd (τ : nb_St) : Nat × (Nat → Nat) × (Nat → Nat) := gml (tv τ 3 8) (tv τ 4 8) (tv τ 5 8) (nb_ix (τ 2 0)) 4
def GM (σ τ : nb_St) : Prop := σ 64 1 = nI (gmd τ).1 ∧ (∀ k, k < (gmd τ).1 → σ 65 k = nI ((gmd τ).2.1 k)) ∧ (∀ k, k < (gmd τ).1 → σ 66 k = nI ((gmd τ).2.2 k)) ∧ (σ 64 0 = 0 ∨ (¬ σ 64 0 = 0 ∧ grk σ (gmd τ).2.1 (gmd τ).2.2 (gmd τ).1 (6 ^ (gmd τ).1)))
theorem GM_c {σ σ' τ τ' : nb_St} (h64 : σ' 64 = σ 64) (h65 : σ' 65 = σ 65) (h66 : σ' 66 = σ 66) (h68 : σ' 68 = σ 68) (h2 : τ' 2 0 = τ 2 0) (h3 : ∀ k, 3 ≤ k → k ≤ 5 → ∀ j, j < 8 → τ' k j = τ k j) (h : GM σ τ) : GM σ' τ' := by
  have e : gmd τ' = gmd τ := by
    unfold gmd
    rw [tv_c (h3 3 (by decide) (by decide)), tv_c (h3 4 (by decide) (by decide)), tv_c (h3 5 (by decide) (by decide)), h2]
  unfold GM grk at *
  rw [e, h64, h65, h66, h68]
  exact h
theorem GM_ok : ∀ σ σ' τ τ', σ' 64 = σ 64 → σ' 65 = σ 65 → σ' 66 = σ 66 → σ' 68 = σ 68 → (∀ k, 2 ≤ k → k ≤ 6 → τ' k = τ k) → GM σ τ → GM σ' τ' := fun σ σ' τ τ' h1 h2 h3 h4 h5 h6 => GM_c h1 h2 h3 h4 (by rw [h5 2 (by decide) (by decide)]) (fun k k1 k2 j _ => by rw [h5 k (by omega) (by omega)]) h6
theorem ok_all : pr_ok GV GM := ⟨GV_ok1, GV_ok2, GM_ok⟩
theorem GM_gt {σ τ : nb_St} {p d g o w a b : Nat} (h : cl σ τ p d g o w a b) (hm : GM σ τ) : ggt σ (gmd τ).2.1 (gmd τ).2.2 (gmd τ).1 := by
  obtain ⟨n1, n2, n3, n4, n5, n6, -⟩ := cl_n (bus := 8) (bf := 0) (B := 719) (X := tt2) (on := ff1) (gv := zz1) h rfl
  have hg : nb_ix (τ 2 0) = g := n2
  have := gml_le (P := tv τ 3 8) (W := tv τ 4 8) (S := tv τ 5 8) (g := nb_ix (τ 2 0)) (fun k hk => (n5 k (by omega)).1) (fun k hk => (n6 k (by omega)).1) 4
  exact ⟨hm.1, this.1, hm.2.1, this.2.1, hm.2.2.1, this.2.2⟩
theorem pz_l8 {N : Nat} {σ τ : nb_St} {p d g o w a b : Nat} (hN : 10 < N) (h : cl σ τ p d g o w a b) : ∃ r, fX8_layGame N τ = some r ∧ (∀ k, k ≠ 0 → k ≠ 29 → k ≠ 30 → r k = τ k) ∧ (∀ j, j ≠ 36 → r 0 j = τ 0 j) ∧ r 0 36 = nI (gmd τ).1 ∧ (∀ k, k < (gmd τ).1 → r 29 k = nI ((gmd τ).2.1 k)) ∧ ∀ k, k < (gmd τ).1 → r 30 k = nI ((gmd τ).2.2 k) := by
  obtain ⟨n1, n2, n3, n4, n5, n6, -⟩ := cl_n (bus := 8) (bf := 0) (B := 719) (X := tt2) (on := ff1) (gv := zz1) h rfl
  have hg : nb_ix (τ 2 0) = g := n2
  have g8 := h.2.2.2.1.1
  have p2 := h.2.2.2.1.2.2.2.2.1
  exact pz_lay8 hN (by rw [hg]; exact p2) (by omega) (fun k hk => ⟨(n3 k (by omega)).2.1, (n3 k (by omega)).1⟩) (fun k hk => ⟨(n5 k (by omega)).2.1, (n5 k (by omega)).1⟩) (fun k hk => ⟨(n6 k (by omega)).2.1, (n6 k (by omega)).1⟩)
end
