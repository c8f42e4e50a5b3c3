section
def hz (k : Nat) : Nat := if 3 ≤ k ∧ k ≤ 6 then 8 else if k = 8 ∨ k = 9 ∨ k = 13 ∨ k = 14 then 3 else if k = 16 ∨ k = 17 ∨ k = 18 ∨ k = 20 ∨ k = 21 then 6 else if k = 23 then 4 else 1
def hf (τ0 τ : nb_St) : Prop := (∀ k, (k = 1 ∨ 24 ≤ k) → k ≠ 25 → τ k = τ0 k) ∧ (∀ j, j ≠ 27 → τ 0 j = τ0 0 j) ∧ ∀ k, 2 ≤ k → k ≤ 23 → ∀ j, (j < hz k ∨ 2 * hz k ≤ j) → τ k j = τ0 k j
def fcl (d : Nat) (σ0 σ : nb_St) : Prop := ∀ k, k ≠ 2 → k ≠ 3 → (k < d ∨ d + 15 < k) → σ k = σ0 k
theorem hf_r {τ : nb_St} : hf τ τ := ⟨fun _ _ _ => rfl, fun _ _ => rfl, fun _ _ _ _ _ => rfl⟩
theorem hf_t {τ s t : nb_St} (h : hf τ s) (h' : hf s t) : hf τ t := ⟨fun k a b => (h'.1 k a b).trans (h.1 k a b), fun j a => (h'.2.1 j a).trans (h.2.1 j a), fun k a b j c => (h'.2.2 k a b j c).trans (h.2.2 k a b j c)⟩
theorem hf_f {τ s : nb_St} (h : rff τ s) : hf τ s := ⟨fun k a b => h.1 k (by omega) b, h.2, fun k a b j _ => by rw [h.1 k (by omega) (by omega)]⟩
theorem hf_st {τ : nb_St} {k j : Nat} {v : Int32} (h1 : 2 ≤ k) (h2 : k ≤ 23) (h3 : hz k ≤ j) (h4 : j < 2 * hz k) : hf τ (nb_st τ k j v) := ⟨fun i a b => nb_st_k (by omega), fun i a => nb_st_n (Or.inl (by omega)), fun i a b c d => nb_st_n (by
  by_cases q : i = k
  · subst q; exact Or.inr (by omega)
  · exact Or.inl q)⟩
theorem fcl_r {d : Nat} {σ : nb_St} : fcl d σ σ := fun _ _ _ _ => rfl
theorem fcl_t {d : Nat} {σ s t : nb_St} (h : fcl d σ s) (h' : fcl d s t) : fcl d σ t := fun k a b c => (h' k a b c).trans (h k a b c)
theorem fcl_st {d : Nat} {σ : nb_St} {k j : Nat} {v : Int32} (h1 : d ≤ k) (h2 : k ≤ d + 15) : fcl d σ (nb_st σ k j v) := fun i _ _ c => nb_st_k (by omega)
theorem fcl_n {d : Nat} {σ s : nb_St} (h : ∀ a, a ≠ 2 → a ≠ 3 → s a = σ a) : fcl d σ s := fun k a b _ => h k a b
def prr (σ τ : nb_St) (d g o w a b : Nat) : Prop := pr_pt σ τ d 1 g o w ∧ pr_told σ τ (d + 5) 1 a b
theorem prr_c {σ τ σ' τ' : nb_St} {d g o w a b : Nat} (h : prr σ τ d g o w a b) (h1 : ∀ k, d ≤ k → k ≤ d + 15 → σ' k = σ k) (h2 : ∀ k, 2 ≤ k → k ≤ 23 → τ' k = τ k) : prr σ' τ' d g o w a b := ⟨pr_pt_c h.1 (fun k _ _ => h1 _ (by omega) (by omega)) (fun k a b => h2 k a (by omega)), pr_told_c h.2 (h1 _ (by omega) (by omega)) (h1 _ (by omega) (by omega)) (h1 _ (by omega) (by omega)) (h1 _ (by omega) (by omega)) (fun k a b => h2 k (by omega) (by omega))⟩
theorem tx_c {σ τ σ' τ' : nb_St} {n : Nat} {B : Nat → Nat} (h : tx σ τ n B) (h1 : σ' 1 = σ 1) (h2 : τ' 1 = τ 1) (h3 : τ' 0 0 = τ 0 0) : tx σ' τ' n B := by
  unfold tx at *
  rw [h1, h2, h3]
  exact h
theorem c7_g {N : Nat} {σf τf : nb_St} {d g o w a b : Nat} {v : Nat → Nat} (hd : d = 4 ∨ d = 20) (h : prr σf τf d g o w a b) (x0 : σf 3 0 = nI (v 0)) (x1 : σf 3 1 = nI (v 1)) (x2 : σf 3 2 = nI (v 2)) (x3 : σf 3 3 = nI (v 3)) (r0 : 0 ≤ v 0 ∧ v 0 ≤ 3) (r1 : 0 ≤ v 1 ∧ v 1 ≤ 359) (r2 : 0 ≤ v 2 ∧ v 2 ≤ 199) (r3 : 0 ≤ v 3 ∧ v 3 ≤ 5) : ((g < 8) → fX5_enter N σf (nI 0) d = some (nI 1, nb_st (nb_st (nb_st (nb_st (nb_st σf (d + 1) g (nI (v 0))) (d + 2) g (nI (v 1))) (d + 3) g (nI (v 2))) (d + 4) g (nI (v 3))) d 0 (nI (g + 1)))) ∧ (¬ (g < 8) → fX5_enter N σf (nI 0) d = some (nI 0, σf)) := by
  obtain ⟨⟨c1, c2, c3, c4, c5, c6, c7, c8, c9, c10, c11, c12, c13, c14, c15, c16, c17, c18, c19⟩, ⟨t1, t2, t3, t4, t5, t6, t7, t8⟩⟩ := h
  have n0 : nb_01 (nI 0) = true := rfl
  have n1 : nb_01 (nI 1) = true := rfl
  unfold fX5_enter fX4_addGuest
  dsimp only [nb_let]
  rw [if_pos (show nI 0 = (0 : Int32) from rfl)]
  constructor
  · intro hc
    simp (disch := omega) only [pn_g, pu_b1, pn_b2, pn_leT, pn_leF, pn_ltT, pn_ltF, pn_eqT, pn_eqF, pu_in, pu_ix, nI_add, pk_mul, pk_sub, ↓reduceIte, Bool.false_eq_true, if_false, if_true, nb_st_s, nb_st_k, nb_st_n, nb_sa_s, nb_sa_n, pL0, pL1, pL2, pL3, pL4, pL5, pL6, pL7, pL8, pL9, pL10, pL11, pL12, pL13, pL15, pL20, pL30, pL99, pL100, pL180, pL240, pL255, pL350, pL359, pL719, pL720, pL999, pL9999, pL99999, pL100000, pL1000000, x0, x1, x2, x3, c4, c13, c17, t3, t5, n0, n1, and_self]
  · intro hc
    simp (disch := omega) only [pn_g, pu_b1, pn_b2, pn_leT, pn_leF, pn_ltT, pn_ltF, pn_eqT, pn_eqF, pu_in, pu_ix, nI_add, pk_mul, pk_sub, ↓reduceIte, Bool.false_eq_true, if_false, if_true, nb_st_s, nb_st_k, nb_st_n, nb_sa_s, nb_sa_n, pL0, pL1, pL2, pL3, pL4, pL5, pL6, pL7, pL8, pL9, pL10, pL11, pL12, pL13, pL15, pL20, pL30, pL99, pL100, pL180, pL240, pL255, pL350, pL359, pL719, pL720, pL999, pL9999, pL99999, pL100000, pL1000000, x0, x1, x2, x3, c4, c13, c17, t3, t5, n0, n1]
theorem u9_g {σf τf : nb_St} {d g o w a b : Nat} {v : Nat → Nat} (hd : d = 4 ∨ d = 20) (h : prr σf τf d g o w a b) (r0 : 0 ≤ v 0 ∧ v 0 ≤ 3) (r1 : 0 ≤ v 1 ∧ v 1 ≤ 359) (r2 : 0 ≤ v 2 ∧ v 2 ≤ 199) (r3 : 0 ≤ v 3 ∧ v 3 ≤ 5) (hc : g < 8) : prr (nb_st (nb_st (nb_st (nb_st (nb_st σf (d + 1) g (nI (v 0))) (d + 2) g (nI (v 1))) (d + 3) g (nI (v 2))) (d + 4) g (nI (v 3))) d 0 (nI (g + 1))) (nb_st (nb_st (nb_st (nb_st (nb_st τf 3 (8 + g) (nI (v 0))) 4 (8 + g) (nI (v 1))) 5 (8 + g) (nI (v 2))) 6 (8 + g) (nI (v 3))) 2 1 (nI (g + 1))) d (g + 1) (o) (w) (a) (b) := by
  obtain ⟨h1, h2⟩ := h
  obtain ⟨c1, c2, c3, c4, c5, c6, c7, c8, c9, c10, c11, c12, c13, c14, c15, c16, c17, c18, c19⟩ := id h1
  obtain ⟨t1, t2, t3, t4, t5, t6, t7, t8⟩ := id h2
  refine ⟨?_, pr_told_c h2 ?_ ?_ ?_ ?_ (fun k _ _ => ?_)⟩
  rotate_left
  · simp (disch := omega) only [Nat.mul_one, nb_st_s, nb_st_k, nb_st_n]
  · simp (disch := omega) only [Nat.mul_one, nb_st_s, nb_st_k, nb_st_n]
  · simp (disch := omega) only [Nat.mul_one, nb_st_s, nb_st_k, nb_st_n]
  · simp (disch := omega) only [Nat.mul_one, nb_st_s, nb_st_k, nb_st_n]
  · simp (disch := omega) only [Nat.mul_one, nb_st_s, nb_st_k, nb_st_n]
  refine ⟨by omega, by omega, by omega, ?_, ?_, fun k hk => ?_, ?_, ?_, ?_, ?_, ?_, ?_, ?_, ?_, fun k hk => ?_, fun k hk => ?_, ?_, ?_, fun k hk => ?_⟩
  · simp (disch := omega) only [Nat.mul_one, nb_st_s, nb_st_k, nb_st_n]
  · simp (disch := omega) only [Nat.mul_one, nb_st_s, nb_st_k, nb_st_n]
  · by_cases q : k = g
    · subst q
      refine ⟨?_, ?_, ?_, ?_, ?_, ?_, ?_, ?_⟩
      · simp (disch := omega) only [Nat.mul_one, nb_st_s, nb_st_k, nb_st_n]
      · simp (disch := omega) only [Nat.mul_one, nb_st_s, nb_st_k, nb_st_n]
        exact ⟨v 0, by omega, by omega, rfl⟩
      · simp (disch := omega) only [Nat.mul_one, nb_st_s, nb_st_k, nb_st_n]
      · simp (disch := omega) only [Nat.mul_one, nb_st_s, nb_st_k, nb_st_n]
        exact ⟨v 1, by omega, by omega, rfl⟩
      · simp (disch := omega) only [Nat.mul_one, nb_st_s, nb_st_k, nb_st_n]
      · simp (disch := omega) only [Nat.mul_one, nb_st_s, nb_st_k, nb_st_n]
        exact ⟨v 2, by omega, by omega, rfl⟩
      · simp (disch := omega) only [Nat.mul_one, nb_st_s, nb_st_k, nb_st_n]
      · simp (disch := omega) only [Nat.mul_one, nb_st_s, nb_st_k, nb_st_n]
        exact ⟨v 3, by omega, by omega, rfl⟩
    · have z := c6 k (by omega)
      rw [Nat.mul_one] at z
      simp (disch := omega) only [Nat.mul_one, nb_st_s, nb_st_k, nb_st_n]
      exact z
  · simp (disch := omega) only [Nat.mul_one, nb_st_s, nb_st_k, nb_st_n]
    exact c7
  · simp (disch := omega) only [Nat.mul_one, nb_st_s, nb_st_k, nb_st_n]
    exact c8
  · simp (disch := omega) only [Nat.mul_one, nb_st_s, nb_st_k, nb_st_n]
    exact c9
  · simp (disch := omega) only [Nat.mul_one, nb_st_s, nb_st_k, nb_st_n]
    exact c10
  · simp (disch := omega) only [Nat.mul_one, nb_st_s, nb_st_k, nb_st_n]
    exact c11
  · simp (disch := omega) only [Nat.mul_one, nb_st_s, nb_st_k, nb_st_n]
    exact c12
  · simp (disch := omega) only [Nat.mul_one, nb_st_s, nb_st_k, nb_st_n]
    exact c13
  · simp (disch := omega) only [Nat.mul_one, nb_st_s, nb_st_k, nb_st_n]
    exact c14
  · have z := c15 k hk
    rw [Nat.mul_one] at z
    simp (disch := omega) only [Nat.mul_one, nb_st_s, nb_st_k, nb_st_n]
    exact z
  · have z := c16 k hk
    rw [Nat.mul_one] at z
    simp (disch := omega) only [Nat.mul_one, nb_st_s, nb_st_k, nb_st_n]
    exact z
  · simp (disch := omega) only [Nat.mul_one, nb_st_s, nb_st_k, nb_st_n]
    exact c17
  · simp (disch := omega) only [Nat.mul_one, nb_st_s, nb_st_k, nb_st_n]
    exact c18
  · have z := c19 k hk
    rw [Nat.mul_one] at z
    simp (disch := omega) only [Nat.mul_one, nb_st_s, nb_st_k, nb_st_n]
    exact z
theorem c7_s {N : Nat} {σf τf : nb_St} {d g o w a b : Nat} {v : Nat → Nat} (hd : d = 4 ∨ d = 20) (h : prr σf τf d g o w a b) (x0 : σf 3 0 = nI (v 0)) (x1 : σf 3 1 = nI (v 1)) (r0 : 0 ≤ v 0 ∧ v 0 ≤ 359) (r1 : 1 ≤ v 1 ∧ v 1 ≤ 99) : ((a < 6) → fX5_enter N σf (nI 1) d = some (nI 1, nb_st (nb_st (nb_st σf (d + 5 + 1) a (nI (v 0))) (d + 5 + 2) a (nI (v 1))) (d + 5) 0 (nI (a + 1)))) ∧ (¬ (a < 6) → fX5_enter N σf (nI 1) d = some (nI 0, σf)) := by
  obtain ⟨⟨c1, c2, c3, c4, c5, c6, c7, c8, c9, c10, c11, c12, c13, c14, c15, c16, c17, c18, c19⟩, ⟨t1, t2, t3, t4, t5, t6, t7, t8⟩⟩ := h
  have n0 : nb_01 (nI 0) = true := rfl
  have n1 : nb_01 (nI 1) = true := rfl
  unfold fX5_enter fX6_addSign
  dsimp only [nb_let]
  rw [if_neg (by decide), if_pos (show nI 1 = (1 : Int32) from rfl)]
  constructor
  · intro hc
    simp (disch := omega) only [pn_g, pu_b1, pn_b2, pn_leT, pn_leF, pn_ltT, pn_ltF, pn_eqT, pn_eqF, pu_in, pu_ix, nI_add, pk_mul, pk_sub, ↓reduceIte, Bool.false_eq_true, if_false, if_true, nb_st_s, nb_st_k, nb_st_n, nb_sa_s, nb_sa_n, pL0, pL1, pL2, pL3, pL4, pL5, pL6, pL7, pL8, pL9, pL10, pL11, pL12, pL13, pL15, pL20, pL30, pL99, pL100, pL180, pL240, pL255, pL350, pL359, pL719, pL720, pL999, pL9999, pL99999, pL100000, pL1000000, x0, x1, c4, c13, c17, t3, t5, n0, n1, and_self]
  · intro hc
    simp (disch := omega) only [pn_g, pu_b1, pn_b2, pn_leT, pn_leF, pn_ltT, pn_ltF, pn_eqT, pn_eqF, pu_in, pu_ix, nI_add, pk_mul, pk_sub, ↓reduceIte, Bool.false_eq_true, if_false, if_true, nb_st_s, nb_st_k, nb_st_n, nb_sa_s, nb_sa_n, pL0, pL1, pL2, pL3, pL4, pL5, pL6, pL7, pL8, pL9, pL10, pL11, pL12, pL13, pL15, pL20, pL30, pL99, pL100, pL180, pL240, pL255, pL350, pL359, pL719, pL720, pL999, pL9999, pL99999, pL100000, pL1000000, x0, x1, c4, c13, c17, t3, t5, n0, n1]
theorem u9_s {σf τf : nb_St} {d g o w a b : Nat} {v : Nat → Nat} (hd : d = 4 ∨ d = 20) (h : prr σf τf d g o w a b) (r0 : 0 ≤ v 0 ∧ v 0 ≤ 359) (r1 : 1 ≤ v 1 ∧ v 1 ≤ 99) (hc : a < 6) : prr (nb_st (nb_st (nb_st σf (d + 5 + 1) a (nI (v 0))) (d + 5 + 2) a (nI (v 1))) (d + 5) 0 (nI (a + 1))) (nb_st (nb_st (nb_st τf 20 (6 + a) (nI (v 0))) 21 (6 + a) (nI (v 1))) 19 1 (nI (a + 1))) d (g) (o) (w) (a + 1) (b) := by
  obtain ⟨h1, h2⟩ := h
  obtain ⟨c1, c2, c3, c4, c5, c6, c7, c8, c9, c10, c11, c12, c13, c14, c15, c16, c17, c18, c19⟩ := id h1
  obtain ⟨t1, t2, t3, t4, t5, t6, t7, t8⟩ := id h2
  refine ⟨pr_pt_c h1 (fun k _ _ => ?_) (fun k _ _ => ?_), ?_⟩
  · simp (disch := omega) only [Nat.mul_one, nb_st_s, nb_st_k, nb_st_n]
  · simp (disch := omega) only [Nat.mul_one, nb_st_s, nb_st_k, nb_st_n]
  refine ⟨by omega, by omega, ?_, ?_, ?_, ?_, fun k hk => ?_, fun k hk => ?_⟩
  · simp (disch := omega) only [Nat.mul_one, nb_st_s, nb_st_k, nb_st_n]
  · simp (disch := omega) only [Nat.mul_one, nb_st_s, nb_st_k, nb_st_n]
  · simp (disch := omega) only [Nat.mul_one, nb_st_s, nb_st_k, nb_st_n]
    exact t5
  · simp (disch := omega) only [Nat.mul_one, nb_st_s, nb_st_k, nb_st_n]
    exact t6
  · by_cases q : k = a
    · subst q
      refine ⟨?_, ?_, ?_, ?_⟩
      · simp (disch := omega) only [Nat.mul_one, nb_st_s, nb_st_k, nb_st_n]
      · simp (disch := omega) only [Nat.mul_one, nb_st_s, nb_st_k, nb_st_n]
        exact ⟨v 0, by omega, by omega, rfl⟩
      · simp (disch := omega) only [Nat.mul_one, nb_st_s, nb_st_k, nb_st_n]
      · simp (disch := omega) only [Nat.mul_one, nb_st_s, nb_st_k, nb_st_n]
        exact ⟨v 1, by omega, by omega, rfl⟩
    · have z := t7 k (by omega)
      rw [Nat.mul_one] at z
      simp (disch := omega) only [Nat.mul_one, nb_st_s, nb_st_k, nb_st_n]
      exact z
  · have z := t8 k hk
    rw [Nat.mul_one] at z
    simp (disch := omega) only [Nat.mul_one, nb_st_s, nb_st_k, nb_st_n]
    exact z
theorem c7_w {N : Nat} {σf τf : nb_St} {d g o w a b : Nat} {v : Nat → Nat} (hd : d = 4 ∨ d = 20) (h : prr σf τf d g o w a b) (x0 : σf 3 0 = nI (v 0)) (r0 : 0 ≤ v 0 ∧ v 0 ≤ 359) : ((b < 4) → fX5_enter N σf (nI 2) d = some (nI 1, nb_st (nb_st σf (d + 5 + 3) b (nI (v 0))) (d + 5) 3 (nI (b + 1)))) ∧ (¬ (b < 4) → fX5_enter N σf (nI 2) d = some (nI 0, σf)) := by
  obtain ⟨⟨c1, c2, c3, c4, c5, c6, c7, c8, c9, c10, c11, c12, c13, c14, c15, c16, c17, c18, c19⟩, ⟨t1, t2, t3, t4, t5, t6, t7, t8⟩⟩ := h
  have n0 : nb_01 (nI 0) = true := rfl
  have n1 : nb_01 (nI 1) = true := rfl
  unfold fX5_enter fX6_addWord
  dsimp only [nb_let]
  rw [if_neg (by decide), if_neg (by decide), if_pos (show nI 2 = (2 : Int32) from rfl)]
  constructor
  · intro hc
    simp (disch := omega) only [pn_g, pu_b1, pn_b2, pn_leT, pn_leF, pn_ltT, pn_ltF, pn_eqT, pn_eqF, pu_in, pu_ix, nI_add, pk_mul, pk_sub, ↓reduceIte, Bool.false_eq_true, if_false, if_true, nb_st_s, nb_st_k, nb_st_n, nb_sa_s, nb_sa_n, pL0, pL1, pL2, pL3, pL4, pL5, pL6, pL7, pL8, pL9, pL10, pL11, pL12, pL13, pL15, pL20, pL30, pL99, pL100, pL180, pL240, pL255, pL350, pL359, pL719, pL720, pL999, pL9999, pL99999, pL100000, pL1000000, x0, c4, c13, c17, t3, t5, n0, n1, and_self]
  · intro hc
    simp (disch := omega) only [pn_g, pu_b1, pn_b2, pn_leT, pn_leF, pn_ltT, pn_ltF, pn_eqT, pn_eqF, pu_in, pu_ix, nI_add, pk_mul, pk_sub, ↓reduceIte, Bool.false_eq_true, if_false, if_true, nb_st_s, nb_st_k, nb_st_n, nb_sa_s, nb_sa_n, pL0, pL1, pL2, pL3, pL4, pL5, pL6, pL7, pL8, pL9, pL10, pL11, pL12, pL13, pL15, pL20, pL30, pL99, pL100, pL180, pL240, pL255, pL350, pL359, pL719, pL720, pL999, pL9999, pL99999, pL100000, pL1000000, x0, c4, c13, c17, t3, t5, n0, n1]
theorem u9_w {σf τf : nb_St} {d g o w a b : Nat} {v : Nat → Nat} (hd : d = 4 ∨ d = 20) (h : prr σf τf d g o w a b) (r0 : 0 ≤ v 0 ∧ v 0 ≤ 359) (hc : b < 4) : prr (nb_st (nb_st σf (d + 5 + 3) b (nI (v 0))) (d + 5) 3 (nI (b + 1))) (nb_st (nb_st τf 23 (4 + b) (nI (v 0))) 22 1 (nI (b + 1))) d (g) (o) (w) (a) (b + 1) := by
  obtain ⟨h1, h2⟩ := h
  obtain ⟨c1, c2, c3, c4, c5, c6, c7, c8, c9, c10, c11, c12, c13, c14, c15, c16, c17, c18, c19⟩ := id h1
  obtain ⟨t1, t2, t3, t4, t5, t6, t7, t8⟩ := id h2
  refine ⟨pr_pt_c h1 (fun k _ _ => ?_) (fun k _ _ => ?_), ?_⟩
  · simp (disch := omega) only [Nat.mul_one, nb_st_s, nb_st_k, nb_st_n]
  · simp (disch := omega) only [Nat.mul_one, nb_st_s, nb_st_k, nb_st_n]
  refine ⟨by omega, by omega, ?_, ?_, ?_, ?_, fun k hk => ?_, fun k hk => ?_⟩
  · simp (disch := omega) only [Nat.mul_one, nb_st_s, nb_st_k, nb_st_n]
    exact t3
  · simp (disch := omega) only [Nat.mul_one, nb_st_s, nb_st_k, nb_st_n]
    exact t4
  · simp (disch := omega) only [Nat.mul_one, nb_st_s, nb_st_k, nb_st_n]
  · simp (disch := omega) only [Nat.mul_one, nb_st_s, nb_st_k, nb_st_n]
  · have z := t7 k hk
    rw [Nat.mul_one] at z
    simp (disch := omega) only [Nat.mul_one, nb_st_s, nb_st_k, nb_st_n]
    exact z
  · by_cases q : k = b
    · subst q
      refine ⟨?_, ?_⟩
      · simp (disch := omega) only [Nat.mul_one, nb_st_s, nb_st_k, nb_st_n]
      · simp (disch := omega) only [Nat.mul_one, nb_st_s, nb_st_k, nb_st_n]
        exact ⟨v 0, by omega, by omega, rfl⟩
    · have z := t8 k (by omega)
      rw [Nat.mul_one] at z
      simp (disch := omega) only [Nat.mul_one, nb_st_s, nb_st_k, nb_st_n]
      exact z
theorem c7_l {N : Nat} {σf τf : nb_St} {d g o w a b : Nat} {v : Nat → Nat} (hd : d = 4 ∨ d = 20) (h : prr σf τf d g o w a b) (x0 : σf 3 0 = nI (v 0)) (x1 : σf 3 1 = nI (v 1)) (r0 : 0 ≤ v 0 ∧ v 0 ≤ 99) (r1 : 0 ≤ v 1 ∧ v 1 ≤ 60) : ((True) → fX5_enter N σf (nI 3) d = some (nI 1, nb_st (nb_st σf d 6 (nI (v 0))) d 7 (nI (v 1)))) ∧ (¬ (True) → fX5_enter N σf (nI 3) d = some (nI 0, σf)) := by
  obtain ⟨⟨c1, c2, c3, c4, c5, c6, c7, c8, c9, c10, c11, c12, c13, c14, c15, c16, c17, c18, c19⟩, ⟨t1, t2, t3, t4, t5, t6, t7, t8⟩⟩ := h
  have n0 : nb_01 (nI 0) = true := rfl
  have n1 : nb_01 (nI 1) = true := rfl
  unfold fX5_enter fX4_setHall
  dsimp only [nb_let]
  rw [if_neg (by decide), if_neg (by decide), if_neg (by decide), if_pos (show nI 3 = (3 : Int32) from rfl)]
  constructor
  · intro hc
    simp (disch := omega) only [pn_g, pu_b1, pn_b2, pn_leT, pn_leF, pn_ltT, pn_ltF, pn_eqT, pn_eqF, pu_in, pu_ix, nI_add, pk_mul, pk_sub, ↓reduceIte, Bool.false_eq_true, if_false, if_true, nb_st_s, nb_st_k, nb_st_n, nb_sa_s, nb_sa_n, pL0, pL1, pL2, pL3, pL4, pL5, pL6, pL7, pL8, pL9, pL10, pL11, pL12, pL13, pL15, pL20, pL30, pL99, pL100, pL180, pL240, pL255, pL350, pL359, pL719, pL720, pL999, pL9999, pL99999, pL100000, pL1000000, x0, x1, c4, c13, c17, t3, t5, n0, n1, and_self]
  · intro hc
    exact absurd trivial hc
theorem u9_l {σf τf : nb_St} {d g o w a b : Nat} {v : Nat → Nat} (hd : d = 4 ∨ d = 20) (h : prr σf τf d g o w a b) (r0 : 0 ≤ v 0 ∧ v 0 ≤ 99) (r1 : 0 ≤ v 1 ∧ v 1 ≤ 60) (hc : True) : prr (nb_st (nb_st σf d 6 (nI (v 0))) d 7 (nI (v 1))) (nb_st (nb_st τf 10 1 (nI (v 0))) 11 1 (nI (v 1))) d (g) (o) (w) (a) (b) := by
  obtain ⟨h1, h2⟩ := h
  obtain ⟨c1, c2, c3, c4, c5, c6, c7, c8, c9, c10, c11, c12, c13, c14, c15, c16, c17, c18, c19⟩ := id h1
  obtain ⟨t1, t2, t3, t4, t5, t6, t7, t8⟩ := id h2
  refine ⟨?_, pr_told_c h2 ?_ ?_ ?_ ?_ (fun k _ _ => ?_)⟩
  rotate_left
  · simp (disch := omega) only [Nat.mul_one, nb_st_s, nb_st_k, nb_st_n]
  · simp (disch := omega) only [Nat.mul_one, nb_st_s, nb_st_k, nb_st_n]
  · simp (disch := omega) only [Nat.mul_one, nb_st_s, nb_st_k, nb_st_n]
  · simp (disch := omega) only [Nat.mul_one, nb_st_s, nb_st_k, nb_st_n]
  · simp (disch := omega) only [Nat.mul_one, nb_st_s, nb_st_k, nb_st_n]
  refine ⟨by omega, by omega, by omega, ?_, ?_, fun k hk => ?_, ?_, ?_, ?_, ?_, ?_, ?_, ?_, ?_, fun k hk => ?_, fun k hk => ?_, ?_, ?_, fun k hk => ?_⟩
  · simp (disch := omega) only [Nat.mul_one, nb_st_s, nb_st_k, nb_st_n]
    exact c4
  · simp (disch := omega) only [Nat.mul_one, nb_st_s, nb_st_k, nb_st_n]
    exact c5
  · have z := c6 k hk
    rw [Nat.mul_one] at z
    simp (disch := omega) only [Nat.mul_one, nb_st_s, nb_st_k, nb_st_n]
    exact z
  · simp (disch := omega) only [Nat.mul_one, nb_st_s, nb_st_k, nb_st_n]
  · simp (disch := omega) only [Nat.mul_one, nb_st_s, nb_st_k, nb_st_n]
    exact ⟨v 0, by omega, by omega, rfl⟩
  · simp (disch := omega) only [Nat.mul_one, nb_st_s, nb_st_k, nb_st_n]
  · simp (disch := omega) only [Nat.mul_one, nb_st_s, nb_st_k, nb_st_n]
    exact ⟨v 1, by omega, by omega, rfl⟩
  · simp (disch := omega) only [Nat.mul_one, nb_st_s, nb_st_k, nb_st_n]
    exact c11
  · simp (disch := omega) only [Nat.mul_one, nb_st_s, nb_st_k, nb_st_n]
    exact c12
  · simp (disch := omega) only [Nat.mul_one, nb_st_s, nb_st_k, nb_st_n]
    exact c13
  · simp (disch := omega) only [Nat.mul_one, nb_st_s, nb_st_k, nb_st_n]
    exact c14
  · have z := c15 k hk
    rw [Nat.mul_one] at z
    simp (disch := omega) only [Nat.mul_one, nb_st_s, nb_st_k, nb_st_n]
    exact z
  · have z := c16 k hk
    rw [Nat.mul_one] at z
    simp (disch := omega) only [Nat.mul_one, nb_st_s, nb_st_k, nb_st_n]
    exact z
  · simp (disch := omega) only [Nat.mul_one, nb_st_s, nb_st_k, nb_st_n]
    exact c17
  · simp (disch := omega) only [Nat.mul_one, nb_st_s, nb_st_k, nb_st_n]
    exact c18
  · have z := c19 k hk
    rw [Nat.mul_one] at z
    simp (disch := omega) only [Nat.mul_one, nb_st_s, nb_st_k, nb_st_n]
    exact z
theorem c7_b {N : Nat} {σf τf : nb_St} {d g o w a b : Nat} {v : Nat → Nat} (hd : d = 4 ∨ d = 20) (h : prr σf τf d g o w a b) (x0 : σf 3 0 = nI (v 0)) (r0 : 0 ≤ v 0 ∧ v 0 ≤ 359) : ((True) → fX5_enter N σf (nI 4) d = some (nI 1, nb_st σf d 8 (nI (v 0)))) ∧ (¬ (True) → fX5_enter N σf (nI 4) d = some (nI 0, σf)) := by
  obtain ⟨⟨c1, c2, c3, c4, c5, c6, c7, c8, c9, c10, c11, c12, c13, c14, c15, c16, c17, c18, c19⟩, ⟨t1, t2, t3, t4, t5, t6, t7, t8⟩⟩ := h
  have n0 : nb_01 (nI 0) = true := rfl
  have n1 : nb_01 (nI 1) = true := rfl
  unfold fX5_enter fX4_setEnd
  dsimp only [nb_let]
  rw [if_neg (by decide), if_neg (by decide), if_neg (by decide), if_neg (by decide), if_pos (show nI 4 = (4 : Int32) from rfl)]
  constructor
  · intro hc
    simp (disch := omega) only [pn_g, pu_b1, pn_b2, pn_leT, pn_leF, pn_ltT, pn_ltF, pn_eqT, pn_eqF, pu_in, pu_ix, nI_add, pk_mul, pk_sub, ↓reduceIte, Bool.false_eq_true, if_false, if_true, nb_st_s, nb_st_k, nb_st_n, nb_sa_s, nb_sa_n, pL0, pL1, pL2, pL3, pL4, pL5, pL6, pL7, pL8, pL9, pL10, pL11, pL12, pL13, pL15, pL20, pL30, pL99, pL100, pL180, pL240, pL255, pL350, pL359, pL719, pL720, pL999, pL9999, pL99999, pL100000, pL1000000, x0, c4, c13, c17, t3, t5, n0, n1, and_self]
  · intro hc
    exact absurd trivial hc
theorem u9_b {σf τf : nb_St} {d g o w a b : Nat} {v : Nat → Nat} (hd : d = 4 ∨ d = 20) (h : prr σf τf d g o w a b) (r0 : 0 ≤ v 0 ∧ v 0 ≤ 359) (hc : True) : prr (nb_st σf d 8 (nI (v 0))) (nb_st τf 12 1 (nI (v 0))) d (g) (o) (w) (a) (b) := by
  obtain ⟨h1, h2⟩ := h
  obtain ⟨c1, c2, c3, c4, c5, c6, c7, c8, c9, c10, c11, c12, c13, c14, c15, c16, c17, c18, c19⟩ := id h1
  obtain ⟨t1, t2, t3, t4, t5, t6, t7, t8⟩ := id h2
  refine ⟨?_, pr_told_c h2 ?_ ?_ ?_ ?_ (fun k _ _ => ?_)⟩
  rotate_left
  · simp (disch := omega) only [Nat.mul_one, nb_st_s, nb_st_k, nb_st_n]
  · simp (disch := omega) only [Nat.mul_one, nb_st_s, nb_st_k, nb_st_n]
  · simp (disch := omega) only [Nat.mul_one, nb_st_s, nb_st_k, nb_st_n]
  · simp (disch := omega) only [Nat.mul_one, nb_st_s, nb_st_k, nb_st_n]
  · simp (disch := omega) only [Nat.mul_one, nb_st_s, nb_st_k, nb_st_n]
  refine ⟨by omega, by omega, by omega, ?_, ?_, fun k hk => ?_, ?_, ?_, ?_, ?_, ?_, ?_, ?_, ?_, fun k hk => ?_, fun k hk => ?_, ?_, ?_, fun k hk => ?_⟩
  · simp (disch := omega) only [Nat.mul_one, nb_st_s, nb_st_k, nb_st_n]
    exact c4
  · simp (disch := omega) only [Nat.mul_one, nb_st_s, nb_st_k, nb_st_n]
    exact c5
  · have z := c6 k hk
    rw [Nat.mul_one] at z
    simp (disch := omega) only [Nat.mul_one, nb_st_s, nb_st_k, nb_st_n]
    exact z
  · simp (disch := omega) only [Nat.mul_one, nb_st_s, nb_st_k, nb_st_n]
    exact c7
  · simp (disch := omega) only [Nat.mul_one, nb_st_s, nb_st_k, nb_st_n]
    exact c8
  · simp (disch := omega) only [Nat.mul_one, nb_st_s, nb_st_k, nb_st_n]
    exact c9
  · simp (disch := omega) only [Nat.mul_one, nb_st_s, nb_st_k, nb_st_n]
    exact c10
  · simp (disch := omega) only [Nat.mul_one, nb_st_s, nb_st_k, nb_st_n]
  · simp (disch := omega) only [Nat.mul_one, nb_st_s, nb_st_k, nb_st_n]
    exact ⟨v 0, by omega, by omega, rfl⟩
  · simp (disch := omega) only [Nat.mul_one, nb_st_s, nb_st_k, nb_st_n]
    exact c13
  · simp (disch := omega) only [Nat.mul_one, nb_st_s, nb_st_k, nb_st_n]
    exact c14
  · have z := c15 k hk
    rw [Nat.mul_one] at z
    simp (disch := omega) only [Nat.mul_one, nb_st_s, nb_st_k, nb_st_n]
    exact z
  · have z := c16 k hk
    rw [Nat.mul_one] at z
    simp (disch := omega) only [Nat.mul_one, nb_st_s, nb_st_k, nb_st_n]
    exact z
  · simp (disch := omega) only [Nat.mul_one, nb_st_s, nb_st_k, nb_st_n]
    exact c17
  · simp (disch := omega) only [Nat.mul_one, nb_st_s, nb_st_k, nb_st_n]
    exact c18
  · have z := c19 k hk
    rw [Nat.mul_one] at z
    simp (disch := omega) only [Nat.mul_one, nb_st_s, nb_st_k, nb_st_n]
    exact z
theorem c7_c {N : Nat} {σf τf : nb_St} {d g o w a b : Nat} {v : Nat → Nat} (hd : d = 4 ∨ d = 20) (h : prr σf τf d g o w a b) (x0 : σf 3 0 = nI (v 0)) (x1 : σf 3 1 = nI (v 1)) (r0 : 1 ≤ v 0 ∧ v 0 ≤ 99) (r1 : 0 ≤ v 1 ∧ v 1 ≤ 999) : ((o < 3) → fX5_enter N σf (nI 5) d = some (nI 1, nb_st (nb_st (nb_st σf (d + 9) o (nI (v 0))) (d + 10) o (nI (v 1))) d 9 (nI (o + 1)))) ∧ (¬ (o < 3) → fX5_enter N σf (nI 5) d = some (nI 0, σf)) := by
  obtain ⟨⟨c1, c2, c3, c4, c5, c6, c7, c8, c9, c10, c11, c12, c13, c14, c15, c16, c17, c18, c19⟩, ⟨t1, t2, t3, t4, t5, t6, t7, t8⟩⟩ := h
  have n0 : nb_01 (nI 0) = true := rfl
  have n1 : nb_01 (nI 1) = true := rfl
  unfold fX5_enter fX4_addOffer
  dsimp only [nb_let]
  rw [if_neg (by decide), if_neg (by decide), if_neg (by decide), if_neg (by decide), if_neg (by decide), if_pos (show nI 5 = (5 : Int32) from rfl)]
  constructor
  · intro hc
    simp (disch := omega) only [pn_g, pu_b1, pn_b2, pn_leT, pn_leF, pn_ltT, pn_ltF, pn_eqT, pn_eqF, pu_in, pu_ix, nI_add, pk_mul, pk_sub, ↓reduceIte, Bool.false_eq_true, if_false, if_true, nb_st_s, nb_st_k, nb_st_n, nb_sa_s, nb_sa_n, pL0, pL1, pL2, pL3, pL4, pL5, pL6, pL7, pL8, pL9, pL10, pL11, pL12, pL13, pL15, pL20, pL30, pL99, pL100, pL180, pL240, pL255, pL350, pL359, pL719, pL720, pL999, pL9999, pL99999, pL100000, pL1000000, x0, x1, c4, c13, c17, t3, t5, n0, n1, and_self]
  · intro hc
    simp (disch := omega) only [pn_g, pu_b1, pn_b2, pn_leT, pn_leF, pn_ltT, pn_ltF, pn_eqT, pn_eqF, pu_in, pu_ix, nI_add, pk_mul, pk_sub, ↓reduceIte, Bool.false_eq_true, if_false, if_true, nb_st_s, nb_st_k, nb_st_n, nb_sa_s, nb_sa_n, pL0, pL1, pL2, pL3, pL4, pL5, pL6, pL7, pL8, pL9, pL10, pL11, pL12, pL13, pL15, pL20, pL30, pL99, pL100, pL180, pL240, pL255, pL350, pL359, pL719, pL720, pL999, pL9999, pL99999, pL100000, pL1000000, x0, x1, c4, c13, c17, t3, t5, n0, n1]
theorem u9_c {σf τf : nb_St} {d g o w a b : Nat} {v : Nat → Nat} (hd : d = 4 ∨ d = 20) (h : prr σf τf d g o w a b) (r0 : 1 ≤ v 0 ∧ v 0 ≤ 99) (r1 : 0 ≤ v 1 ∧ v 1 ≤ 999) (hc : o < 3) : prr (nb_st (nb_st (nb_st σf (d + 9) o (nI (v 0))) (d + 10) o (nI (v 1))) d 9 (nI (o + 1))) (nb_st (nb_st (nb_st τf 8 (3 + o) (nI (v 0))) 9 (3 + o) (nI (v 1))) 7 1 (nI (o + 1))) d (g) (o + 1) (w) (a) (b) := by
  obtain ⟨h1, h2⟩ := h
  obtain ⟨c1, c2, c3, c4, c5, c6, c7, c8, c9, c10, c11, c12, c13, c14, c15, c16, c17, c18, c19⟩ := id h1
  obtain ⟨t1, t2, t3, t4, t5, t6, t7, t8⟩ := id h2
  refine ⟨?_, pr_told_c h2 ?_ ?_ ?_ ?_ (fun k _ _ => ?_)⟩
  rotate_left
  · simp (disch := omega) only [Nat.mul_one, nb_st_s, nb_st_k, nb_st_n]
  · simp (disch := omega) only [Nat.mul_one, nb_st_s, nb_st_k, nb_st_n]
  · simp (disch := omega) only [Nat.mul_one, nb_st_s, nb_st_k, nb_st_n]
  · simp (disch := omega) only [Nat.mul_one, nb_st_s, nb_st_k, nb_st_n]
  · simp (disch := omega) only [Nat.mul_one, nb_st_s, nb_st_k, nb_st_n]
  refine ⟨by omega, by omega, by omega, ?_, ?_, fun k hk => ?_, ?_, ?_, ?_, ?_, ?_, ?_, ?_, ?_, fun k hk => ?_, fun k hk => ?_, ?_, ?_, fun k hk => ?_⟩
  · simp (disch := omega) only [Nat.mul_one, nb_st_s, nb_st_k, nb_st_n]
    exact c4
  · simp (disch := omega) only [Nat.mul_one, nb_st_s, nb_st_k, nb_st_n]
    exact c5
  · have z := c6 k hk
    rw [Nat.mul_one] at z
    simp (disch := omega) only [Nat.mul_one, nb_st_s, nb_st_k, nb_st_n]
    exact z
  · simp (disch := omega) only [Nat.mul_one, nb_st_s, nb_st_k, nb_st_n]
    exact c7
  · simp (disch := omega) only [Nat.mul_one, nb_st_s, nb_st_k, nb_st_n]
    exact c8
  · simp (disch := omega) only [Nat.mul_one, nb_st_s, nb_st_k, nb_st_n]
    exact c9
  · simp (disch := omega) only [Nat.mul_one, nb_st_s, nb_st_k, nb_st_n]
    exact c10
  · simp (disch := omega) only [Nat.mul_one, nb_st_s, nb_st_k, nb_st_n]
    exact c11
  · simp (disch := omega) only [Nat.mul_one, nb_st_s, nb_st_k, nb_st_n]
    exact c12
  · simp (disch := omega) only [Nat.mul_one, nb_st_s, nb_st_k, nb_st_n]
  · simp (disch := omega) only [Nat.mul_one, nb_st_s, nb_st_k, nb_st_n]
  · by_cases q : k = o
    · subst q
      refine ⟨?_, ?_, ?_, ?_⟩
      · simp (disch := omega) only [Nat.mul_one, nb_st_s, nb_st_k, nb_st_n]
      · simp (disch := omega) only [Nat.mul_one, nb_st_s, nb_st_k, nb_st_n]
        exact ⟨v 0, by omega, by omega, rfl⟩
      · simp (disch := omega) only [Nat.mul_one, nb_st_s, nb_st_k, nb_st_n]
      · simp (disch := omega) only [Nat.mul_one, nb_st_s, nb_st_k, nb_st_n]
        exact ⟨v 1, by omega, by omega, rfl⟩
    · have z := c15 k (by omega)
      rw [Nat.mul_one] at z
      simp (disch := omega) only [Nat.mul_one, nb_st_s, nb_st_k, nb_st_n]
      exact z
  · have z := c16 k hk
    rw [Nat.mul_one] at z
    simp (disch := omega) only [Nat.mul_one, nb_st_s, nb_st_k, nb_st_n]
    exact z
  · simp (disch := omega) only [Nat.mul_one, nb_st_s, nb_st_k, nb_st_n]
    exact c17
  · simp (disch := omega) only [Nat.mul_one, nb_st_s, nb_st_k, nb_st_n]
    exact c18
  · have z := c19 k hk
    rw [Nat.mul_one] at z
    simp (disch := omega) only [Nat.mul_one, nb_st_s, nb_st_k, nb_st_n]
    exact z
theorem c7_u {N : Nat} {σf τf : nb_St} {d g o w a b : Nat} {v : Nat → Nat} (hd : d = 4 ∨ d = 20) (h : prr σf τf d g o w a b) (x0 : σf 3 0 = nI (v 0)) (x1 : σf 3 1 = nI (v 1)) (x2 : σf 3 2 = nI (v 2)) (r0 : 1 ≤ v 0 ∧ v 0 ≤ 3) (r1 : 0 ≤ v 1 ∧ v 1 ≤ 99) (r2 : 0 ≤ v 2 ∧ v 2 ≤ 99) : ((True) → fX5_enter N σf (nI 6) d = some (nI 1, nb_st (nb_st σf (d + 11) (v 0) (nI (v 1))) (d + 12) (v 0) (nI (v 2)))) ∧ (¬ (True) → fX5_enter N σf (nI 6) d = some (nI 0, σf)) := by
  obtain ⟨⟨c1, c2, c3, c4, c5, c6, c7, c8, c9, c10, c11, c12, c13, c14, c15, c16, c17, c18, c19⟩, ⟨t1, t2, t3, t4, t5, t6, t7, t8⟩⟩ := h
  have n0 : nb_01 (nI 0) = true := rfl
  have n1 : nb_01 (nI 1) = true := rfl
  unfold fX5_enter fX4_setCustom
  dsimp only [nb_let]
  rw [if_neg (by decide), if_neg (by decide), if_neg (by decide), if_neg (by decide), if_neg (by decide), if_neg (by decide), if_pos (show nI 6 = (6 : Int32) from rfl)]
  constructor
  · intro hc
    simp (disch := omega) only [pn_g, pu_b1, pn_b2, pn_leT, pn_leF, pn_ltT, pn_ltF, pn_eqT, pn_eqF, pu_in, pu_ix, nI_add, pk_mul, pk_sub, ↓reduceIte, Bool.false_eq_true, if_false, if_true, nb_st_s, nb_st_k, nb_st_n, nb_sa_s, nb_sa_n, pL0, pL1, pL2, pL3, pL4, pL5, pL6, pL7, pL8, pL9, pL10, pL11, pL12, pL13, pL15, pL20, pL30, pL99, pL100, pL180, pL240, pL255, pL350, pL359, pL719, pL720, pL999, pL9999, pL99999, pL100000, pL1000000, x0, x1, x2, c4, c13, c17, t3, t5, n0, n1, pu_within, and_self]
  · intro hc
    exact absurd trivial hc
theorem u9_u {σf τf : nb_St} {d g o w a b : Nat} {v : Nat → Nat} (hd : d = 4 ∨ d = 20) (h : prr σf τf d g o w a b) (r0 : 1 ≤ v 0 ∧ v 0 ≤ 3) (r1 : 0 ≤ v 1 ∧ v 1 ≤ 99) (r2 : 0 ≤ v 2 ∧ v 2 ≤ 99) (hc : True) : prr (nb_st (nb_st σf (d + 11) (v 0) (nI (v 1))) (d + 12) (v 0) (nI (v 2))) (nb_st (nb_st τf 13 (2 + v 0) (nI (v 1))) 14 (2 + v 0) (nI (v 2))) d (g) (o) (w) (a) (b) := by
  obtain ⟨h1, h2⟩ := h
  obtain ⟨c1, c2, c3, c4, c5, c6, c7, c8, c9, c10, c11, c12, c13, c14, c15, c16, c17, c18, c19⟩ := id h1
  obtain ⟨t1, t2, t3, t4, t5, t6, t7, t8⟩ := id h2
  refine ⟨?_, pr_told_c h2 ?_ ?_ ?_ ?_ (fun k _ _ => ?_)⟩
  rotate_left
  · simp (disch := omega) only [Nat.mul_one, nb_st_s, nb_st_k, nb_st_n]
  · simp (disch := omega) only [Nat.mul_one, nb_st_s, nb_st_k, nb_st_n]
  · simp (disch := omega) only [Nat.mul_one, nb_st_s, nb_st_k, nb_st_n]
  · simp (disch := omega) only [Nat.mul_one, nb_st_s, nb_st_k, nb_st_n]
  · simp (disch := omega) only [Nat.mul_one, nb_st_s, nb_st_k, nb_st_n]
  refine ⟨by omega, by omega, by omega, ?_, ?_, fun k hk => ?_, ?_, ?_, ?_, ?_, ?_, ?_, ?_, ?_, fun k hk => ?_, fun k hk => ?_, ?_, ?_, fun k hk => ?_⟩
  · simp (disch := omega) only [Nat.mul_one, nb_st_s, nb_st_k, nb_st_n]
    exact c4
  · simp (disch := omega) only [Nat.mul_one, nb_st_s, nb_st_k, nb_st_n]
    exact c5
  · have z := c6 k hk
    rw [Nat.mul_one] at z
    simp (disch := omega) only [Nat.mul_one, nb_st_s, nb_st_k, nb_st_n]
    exact z
  · simp (disch := omega) only [Nat.mul_one, nb_st_s, nb_st_k, nb_st_n]
    exact c7
  · simp (disch := omega) only [Nat.mul_one, nb_st_s, nb_st_k, nb_st_n]
    exact c8
  · simp (disch := omega) only [Nat.mul_one, nb_st_s, nb_st_k, nb_st_n]
    exact c9
  · simp (disch := omega) only [Nat.mul_one, nb_st_s, nb_st_k, nb_st_n]
    exact c10
  · simp (disch := omega) only [Nat.mul_one, nb_st_s, nb_st_k, nb_st_n]
    exact c11
  · simp (disch := omega) only [Nat.mul_one, nb_st_s, nb_st_k, nb_st_n]
    exact c12
  · simp (disch := omega) only [Nat.mul_one, nb_st_s, nb_st_k, nb_st_n]
    exact c13
  · simp (disch := omega) only [Nat.mul_one, nb_st_s, nb_st_k, nb_st_n]
    exact c14
  · have z := c15 k hk
    rw [Nat.mul_one] at z
    simp (disch := omega) only [Nat.mul_one, nb_st_s, nb_st_k, nb_st_n]
    exact z
  · by_cases q : k + 1 = v 0
    · have q2 : 3 * 1 + k = 2 + v 0 := by omega
      rw [q, q2]
      refine ⟨?_, ?_, ?_, ?_⟩
      · simp (disch := omega) only [Nat.mul_one, nb_st_s, nb_st_k, nb_st_n]
      · simp (disch := omega) only [Nat.mul_one, nb_st_s, nb_st_k, nb_st_n]
        exact ⟨v 1, by omega, by omega, rfl⟩
      · simp (disch := omega) only [Nat.mul_one, nb_st_s, nb_st_k, nb_st_n]
      · simp (disch := omega) only [Nat.mul_one, nb_st_s, nb_st_k, nb_st_n]
        exact ⟨v 2, by omega, by omega, rfl⟩
    · have z := c16 k hk
      rw [Nat.mul_one] at z
      simp (disch := omega) only [Nat.mul_one, nb_st_s, nb_st_k, nb_st_n]
      exact z
  · simp (disch := omega) only [Nat.mul_one, nb_st_s, nb_st_k, nb_st_n]
    exact c17
  · simp (disch := omega) only [Nat.mul_one, nb_st_s, nb_st_k, nb_st_n]
    exact c18
  · have z := c19 k hk
    rw [Nat.mul_one] at z
    simp (disch := omega) only [Nat.mul_one, nb_st_s, nb_st_k, nb_st_n]
    exact z
theorem c7_y {N : Nat} {σf τf : nb_St} {d g o w a b : Nat} {v : Nat → Nat} (hd : d = 4 ∨ d = 20) (h : prr σf τf d g o w a b) (x0 : σf 3 0 = nI (v 0)) (x1 : σf 3 1 = nI (v 1)) (x2 : σf 3 2 = nI (v 2)) (r0 : 0 ≤ v 0 ∧ v 0 ≤ 7) (r1 : 0 ≤ v 1 ∧ v 1 ≤ 359) (r2 : 0 ≤ v 2 ∧ v 2 ≤ 1) : ((w < 6 ∧ v 0 < g) → fX5_enter N σf (nI 7) d = some (nI 1, nb_st (nb_st (nb_st (nb_st σf (d + 13) w (nI (v 0))) (d + 14) w (nI (v 1))) (d + 15) w (nI (v 2))) d 14 (nI (w + 1)))) ∧ (¬ (w < 6 ∧ v 0 < g) → fX5_enter N σf (nI 7) d = some (nI 0, σf)) := by
  obtain ⟨⟨c1, c2, c3, c4, c5, c6, c7, c8, c9, c10, c11, c12, c13, c14, c15, c16, c17, c18, c19⟩, ⟨t1, t2, t3, t4, t5, t6, t7, t8⟩⟩ := h
  have n0 : nb_01 (nI 0) = true := rfl
  have n1 : nb_01 (nI 1) = true := rfl
  unfold fX5_enter fX4_addLook
  dsimp only [nb_let]
  rw [if_neg (by decide), if_neg (by decide), if_neg (by decide), if_neg (by decide), if_neg (by decide), if_neg (by decide), if_neg (by decide), if_pos (show nI 7 = (7 : Int32) from rfl)]
  constructor
  · intro hc
    simp (disch := omega) only [pn_g, pu_b1, pn_b2, pn_leT, pn_leF, pn_ltT, pn_ltF, pn_eqT, pn_eqF, pu_in, pu_ix, nI_add, pk_mul, pk_sub, ↓reduceIte, Bool.false_eq_true, if_false, if_true, nb_st_s, nb_st_k, nb_st_n, nb_sa_s, nb_sa_n, pL0, pL1, pL2, pL3, pL4, pL5, pL6, pL7, pL8, pL9, pL10, pL11, pL12, pL13, pL15, pL20, pL30, pL99, pL100, pL180, pL240, pL255, pL350, pL359, pL719, pL720, pL999, pL9999, pL99999, pL100000, pL1000000, x0, x1, x2, c4, c13, c17, t3, t5, n0, n1, and_self]
  · intro hc
    by_cases q : w < 6
    · simp (disch := omega) only [pn_g, pu_b1, pn_b2, pn_leT, pn_leF, pn_ltT, pn_ltF, pn_eqT, pn_eqF, pu_in, pu_ix, nI_add, pk_mul, pk_sub, ↓reduceIte, Bool.false_eq_true, if_false, if_true, nb_st_s, nb_st_k, nb_st_n, nb_sa_s, nb_sa_n, pL0, pL1, pL2, pL3, pL4, pL5, pL6, pL7, pL8, pL9, pL10, pL11, pL12, pL13, pL15, pL20, pL30, pL99, pL100, pL180, pL240, pL255, pL350, pL359, pL719, pL720, pL999, pL9999, pL99999, pL100000, pL1000000, x0, x1, x2, c4, c17, n0, n1]
    · simp (disch := omega) only [pn_g, pu_b1, pn_b2, pn_leT, pn_leF, pn_ltT, pn_ltF, pn_eqT, pn_eqF, pu_in, pu_ix, nI_add, pk_mul, pk_sub, ↓reduceIte, Bool.false_eq_true, if_false, if_true, nb_st_s, nb_st_k, nb_st_n, nb_sa_s, nb_sa_n, pL0, pL1, pL2, pL3, pL4, pL5, pL6, pL7, pL8, pL9, pL10, pL11, pL12, pL13, pL15, pL20, pL30, pL99, pL100, pL180, pL240, pL255, pL350, pL359, pL719, pL720, pL999, pL9999, pL99999, pL100000, pL1000000, x0, x1, x2, c4, c17, n0, n1]
theorem u9_y {σf τf : nb_St} {d g o w a b : Nat} {v : Nat → Nat} (hd : d = 4 ∨ d = 20) (h : prr σf τf d g o w a b) (r0 : 0 ≤ v 0 ∧ v 0 ≤ 7) (r1 : 0 ≤ v 1 ∧ v 1 ≤ 359) (r2 : 0 ≤ v 2 ∧ v 2 ≤ 1) (hc : w < 6 ∧ v 0 < g) : prr (nb_st (nb_st (nb_st (nb_st σf (d + 13) w (nI (v 0))) (d + 14) w (nI (v 1))) (d + 15) w (nI (v 2))) d 14 (nI (w + 1))) (nb_st (nb_st (nb_st (nb_st τf 16 (6 + w) (nI (v 0))) 17 (6 + w) (nI (v 1))) 18 (6 + w) (nI (v 2))) 15 1 (nI (w + 1))) d (g) (o) (w + 1) (a) (b) := by
  obtain ⟨h1, h2⟩ := h
  obtain ⟨c1, c2, c3, c4, c5, c6, c7, c8, c9, c10, c11, c12, c13, c14, c15, c16, c17, c18, c19⟩ := id h1
  obtain ⟨t1, t2, t3, t4, t5, t6, t7, t8⟩ := id h2
  refine ⟨?_, pr_told_c h2 ?_ ?_ ?_ ?_ (fun k _ _ => ?_)⟩
  rotate_left
  · simp (disch := omega) only [Nat.mul_one, nb_st_s, nb_st_k, nb_st_n]
  · simp (disch := omega) only [Nat.mul_one, nb_st_s, nb_st_k, nb_st_n]
  · simp (disch := omega) only [Nat.mul_one, nb_st_s, nb_st_k, nb_st_n]
  · simp (disch := omega) only [Nat.mul_one, nb_st_s, nb_st_k, nb_st_n]
  · simp (disch := omega) only [Nat.mul_one, nb_st_s, nb_st_k, nb_st_n]
  refine ⟨by omega, by omega, by omega, ?_, ?_, fun k hk => ?_, ?_, ?_, ?_, ?_, ?_, ?_, ?_, ?_, fun k hk => ?_, fun k hk => ?_, ?_, ?_, fun k hk => ?_⟩
  · simp (disch := omega) only [Nat.mul_one, nb_st_s, nb_st_k, nb_st_n]
    exact c4
  · simp (disch := omega) only [Nat.mul_one, nb_st_s, nb_st_k, nb_st_n]
    exact c5
  · have z := c6 k hk
    rw [Nat.mul_one] at z
    simp (disch := omega) only [Nat.mul_one, nb_st_s, nb_st_k, nb_st_n]
    exact z
  · simp (disch := omega) only [Nat.mul_one, nb_st_s, nb_st_k, nb_st_n]
    exact c7
  · simp (disch := omega) only [Nat.mul_one, nb_st_s, nb_st_k, nb_st_n]
    exact c8
  · simp (disch := omega) only [Nat.mul_one, nb_st_s, nb_st_k, nb_st_n]
    exact c9
  · simp (disch := omega) only [Nat.mul_one, nb_st_s, nb_st_k, nb_st_n]
    exact c10
  · simp (disch := omega) only [Nat.mul_one, nb_st_s, nb_st_k, nb_st_n]
    exact c11
  · simp (disch := omega) only [Nat.mul_one, nb_st_s, nb_st_k, nb_st_n]
    exact c12
  · simp (disch := omega) only [Nat.mul_one, nb_st_s, nb_st_k, nb_st_n]
    exact c13
  · simp (disch := omega) only [Nat.mul_one, nb_st_s, nb_st_k, nb_st_n]
    exact c14
  · have z := c15 k hk
    rw [Nat.mul_one] at z
    simp (disch := omega) only [Nat.mul_one, nb_st_s, nb_st_k, nb_st_n]
    exact z
  · have z := c16 k hk
    rw [Nat.mul_one] at z
    simp (disch := omega) only [Nat.mul_one, nb_st_s, nb_st_k, nb_st_n]
    exact z
  · simp (disch := omega) only [Nat.mul_one, nb_st_s, nb_st_k, nb_st_n]
  · simp (disch := omega) only [Nat.mul_one, nb_st_s, nb_st_k, nb_st_n]
  · by_cases q : k = w
    · subst q
      refine ⟨?_, ?_, ?_, ?_, ?_, ?_⟩
      · simp (disch := omega) only [Nat.mul_one, nb_st_s, nb_st_k, nb_st_n]
      · simp (disch := omega) only [Nat.mul_one, nb_st_s, nb_st_k, nb_st_n]
        exact ⟨v 0, by omega, by omega, rfl⟩
      · simp (disch := omega) only [Nat.mul_one, nb_st_s, nb_st_k, nb_st_n]
      · simp (disch := omega) only [Nat.mul_one, nb_st_s, nb_st_k, nb_st_n]
        exact ⟨v 1, by omega, by omega, rfl⟩
      · simp (disch := omega) only [Nat.mul_one, nb_st_s, nb_st_k, nb_st_n]
      · simp (disch := omega) only [Nat.mul_one, nb_st_s, nb_st_k, nb_st_n]
        exact ⟨v 2, by omega, by omega, rfl⟩
    · have z := c19 k (by omega)
      rw [Nat.mul_one] at z
      simp (disch := omega) only [Nat.mul_one, nb_st_s, nb_st_k, nb_st_n]
      exact z
end
