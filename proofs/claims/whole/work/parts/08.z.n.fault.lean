section
theorem rd_all {N : Nat} {σ τ : nb_St} {d n : Nat} (hN : 1000 < N) (hd : d = 4 ∨ d = 20) (ht : pr_text σ τ n) : ∃ r σ' τ', fX5_firstFault N σ (nI n) d = some (r, σ') ∧ fX8_readAll N τ = some (r, τ') ∧ fcl d σ σ' ∧ hf τ τ' ∧ (r = -4 → ∃ g o w a b, prr σ' τ' d g o w a b) := by
  obtain ⟨B, hB⟩ := tx_of ht
  have n4 := hB.1
  obtain ⟨s1, t1, c1, c2, c3, c4, c5⟩ := rd_clear (N := N) (σ := σ) (τ := τ) (by omega) hd
  have f1 : fcl d σ (nb_st s1 2 1 0) := fun k k1 k2 k3 => by rw [nb_st_k k1]; exact c3 k k1 k2 k3
  have f2 : hf τ (nb_st t1 0 27 0) := hf_t c4 (hf_f rff_p)
  have tx' : tx (nb_st s1 2 1 0) (nb_st t1 0 27 0) n B := tx_c hB (f1 1 (by decide) (by decide) (by omega)) (f2.1 1 (by omega) (by decide)) (f2.2.1 0 (by decide))
  have pr' : prr (nb_st s1 2 1 0) (nb_st t1 0 27 0) d 0 0 0 0 0 := prr_c c5 (fun k _ _ => nb_st_k (by omega)) (fun k _ _ => nb_st_k (by omega))
  obtain ⟨r, σ', τ', y1, y2, y3, y4, y5⟩ := rd_run (N := N) (by omega) hd n 0 0 N N 0 0 0 0 0 _ _ (by omega) (by omega) (by omega) (by omega) (by omega) tx' nb_st_s nb_st_s pr'
  refine ⟨r, σ', τ', ?_, ?_, fcl_t f1 y3, hf_t f2 y4, y5⟩
  · rw [rd7_e, c1, pu_b1]; exact y1
  · rw [rd8_e, c2, pu_b1]; exact y2
theorem pr_pt_h {σ σ' τ τ' : nb_St} {p g o w : Nat} (h : pr_pt σ τ p 0 g o w) (hσ : ∀ k, k ≤ 15 → σ' (p + k) = σ (p + k)) (t : ∀ k, 2 ≤ k → k ≤ 18 → ∀ j, j < hz k → τ' k j = τ k j) : pr_pt σ' τ' p 0 g o w := by
  obtain ⟨c1, c2, c3, c4, c5, c6, c7, c8, c9, c10, c11, c12, c13, c14, c15, c16, c17, c18, c19⟩ := h
  have h0 : σ' p = σ p := hσ 0 (by decide)
  refine ⟨c1, c2, c3, by rw [h0]; exact c4, by rw [t 2 (by decide) (by decide) 0 (by decide)]; exact c5, fun k hk => ?_, by rw [h0, t 10 (by decide) (by decide) 0 (by decide)]; exact c7, by rw [h0]; exact c8, by rw [h0, t 11 (by decide) (by decide) 0 (by decide)]; exact c9, by rw [h0]; exact c10, by rw [h0, t 12 (by decide) (by decide) 0 (by decide)]; exact c11, by rw [h0]; exact c12, by rw [h0]; exact c13, by rw [t 7 (by decide) (by decide) 0 (by decide)]; exact c14, fun k hk => ?_, fun k hk => ?_, by rw [h0]; exact c17, by rw [t 15 (by decide) (by decide) 0 (by decide)]; exact c18, fun k hk => ?_⟩
  · have z := c6 k hk
    rw [hσ 1 (by decide), hσ 2 (by decide), hσ 3 (by decide), hσ 4 (by decide), t 3 (by decide) (by decide) _ (show _ < 8 by omega), t 4 (by decide) (by decide) _ (show _ < 8 by omega), t 5 (by decide) (by decide) _ (show _ < 8 by omega), t 6 (by decide) (by decide) _ (show _ < 8 by omega)]
    exact z
  · have z := c15 k hk
    rw [hσ 9 (by decide), hσ 10 (by decide), t 8 (by decide) (by decide) _ (show _ < 3 by omega), t 9 (by decide) (by decide) _ (show _ < 3 by omega)]
    exact z
  · have z := c16 k hk
    rw [hσ 11 (by decide), hσ 12 (by decide), t 13 (by decide) (by decide) _ (show _ < 3 by omega), t 14 (by decide) (by decide) _ (show _ < 3 by omega)]
    exact z
  · have z := c19 k hk
    rw [hσ 13 (by decide), hσ 14 (by decide), hσ 15 (by decide), t 16 (by decide) (by decide) _ (show _ < 6 by omega), t 17 (by decide) (by decide) _ (show _ < 6 by omega), t 18 (by decide) (by decide) _ (show _ < 6 by omega)]
    exact z
theorem pr_told_h {σ σ' τ τ' : nb_St} {q a b : Nat} (h : pr_told σ τ q 0 a b) (hσ : ∀ k, k ≤ 3 → σ' (q + k) = σ (q + k)) (t : ∀ k, 19 ≤ k → k ≤ 23 → ∀ j, j < hz k → τ' k j = τ k j) : pr_told σ' τ' q 0 a b := by
  obtain ⟨c1, c2, c3, c4, c5, c6, c7, c8⟩ := h
  have h0 : σ' q = σ q := hσ 0 (by decide)
  refine ⟨c1, c2, by rw [h0]; exact c3, by rw [t 19 (by decide) (by decide) 0 (by decide)]; exact c4, by rw [h0]; exact c5, by rw [t 22 (by decide) (by decide) 0 (by decide)]; exact c6, fun k hk => ?_, fun k hk => ?_⟩
  · have z := c7 k hk
    rw [hσ 1 (by decide), hσ 2 (by decide), t 20 (by decide) (by decide) _ (show _ < 6 by omega), t 21 (by decide) (by decide) _ (show _ < 6 by omega)]
    exact z
  · have z := c8 k hk
    rw [hσ 3 (by decide), t 23 (by decide) (by decide) _ (show _ < 4 by omega)]
    exact z
theorem hz_two {k j : Nat} (h1 : 19 ≤ k) (h2 : k ≤ 23) (hj : (if k = 19 ∨ k = 22 then 2 else if k = 23 then 8 else 12) ≤ j) : 2 * hz k ≤ j := by
  have : k = 19 ∨ k = 20 ∨ k = 21 ∨ k = 22 ∨ k = 23 := by omega
  rcases this with rfl | rfl | rfl | rfl | rfl <;> exact hj
theorem pr_half {σ τ σ' τ' : nb_St} {p d n g o w a b e kk : Nat} (h : pr_rel GV GM σ τ p d n g o w a b e kk) (hσ : fcl d σ σ') (hτ : hf τ τ') : pr_rel GV GM σ' τ' p d n g o w a b e kk := by
  obtain ⟨hpd, l3, l4, ht, hg, hp, hto, hdo, hz1, hz2, hk, hgm, hgv⟩ := h
  have hpp : (p = 4 ∧ d = 20) ∨ (p = 20 ∧ d = 4) := hpd
  have q0 : σ' 0 = σ 0 := hσ 0 (by decide) (by decide) (by omega)
  have t24 : τ' 24 = τ 24 := hτ.1 24 (by omega) (by decide)
  refine ⟨hpd, by rw [q0]; exact l3, by rw [q0]; exact l4, ?_, hg, ?_, ?_, ?_, by rw [t24]; exact hz1, by rw [t24]; exact hz2, ?_, ?_, ?_⟩
  · exact pr_text_c ht (by rw [q0]) (hσ 1 (by decide) (by decide) (by omega)) (hτ.2.1 0 (by decide)) (hτ.1 1 (by omega) (by decide))
  · exact pr_pt_h hp (fun k hk => hσ _ (by omega) (by omega) (by omega)) (fun k k1 k2 j hj => hτ.2.2 k k1 (by omega) j (Or.inl hj))
  · exact pr_told_h hto (fun k hk => hσ _ (by omega) (by omega) (by omega)) (fun k k1 k2 j hj => hτ.2.2 k (by omega) (by omega) j (Or.inl hj))
  · exact pr_done_c hdo (by rw [hσ 69 (by decide) (by decide) (by omega)]) (hσ 70 (by decide) (by decide) (by omega)) (hτ.2.1 25 (by decide)) t24
  · exact pr_kept_c hk (by rw [hσ 69 (by decide) (by decide) (by omega)]) (fun k h1 h2 => hσ k (by omega) (by omega) (by omega)) (hτ.2.1 24 (by decide)) (fun k h1 h2 j hj => hτ.2.2 k (by omega) h2 j (Or.inr (hz_two h1 h2 hj)))
  · exact GM_c (hσ 64 (by decide) (by decide) (by omega)) (hσ 65 (by decide) (by decide) (by omega)) (hσ 66 (by decide) (by decide) (by omega)) (hσ 68 (by decide) (by decide) (by omega)) (hτ.2.2 2 (by decide) (by decide) 0 (Or.inl (by decide))) (fun k k1 k2 j hj => hτ.2.2 k (by omega) (by omega) j (Or.inl (by
      have : k = 3 ∨ k = 4 ∨ k = 5 := by omega
      rcases this with rfl | rfl | rfl <;> exact hj))) hgm
  · refine GV_c (hσ 61 (by decide) (by decide) (by omega)) (hσ 63 (by decide) (by decide) (by omega)) (fun k k1 k2 j hj => hτ.2.2 k k1 k2 j (Or.inl ?_)) hgv
    have : k = 2 ∨ k = 3 ∨ k = 4 ∨ k = 5 ∨ k = 6 ∨ k = 7 ∨ k = 8 ∨ k = 9 ∨ k = 10 ∨ k = 11 ∨ k = 12 ∨ k = 13 ∨ k = 14 ∨ k = 15 ∨ k = 16 ∨ k = 17 ∨ k = 18 ∨ k = 19 ∨ k = 20 ∨ k = 21 ∨ k = 22 ∨ k = 23 := by omega
    rcases this with rfl | rfl | rfl | rfl | rfl | rfl | rfl | rfl | rfl | rfl | rfl | rfl | rfl | rfl | rfl | rfl | rfl | rfl | rfl | rfl | rfl | rfl <;> first | exact hj | exact Nat.lt_of_lt_of_le hj (by decide)
theorem pp_fault {σ τ : nb_St} (h : pr_Rel GV GM σ τ) : ∃ (N : Nat) (r : Int32) (σo τo : nb_St), fX7_fault N σ = some (r, σo) ∧ fX8_fault N τ = some (r, τo) ∧ pr_Rel GV GM σo τo := by
  obtain ⟨p, d, n, g, o, w, a, b, e, kk, hrel⟩ := h
  obtain ⟨hpd, l3, l4, ht, -⟩ := id hrel
  have hd : d = 4 ∨ d = 20 := by rcases hpd with ⟨-, q⟩ | ⟨-, q⟩ <;> omega
  obtain ⟨N, hN⟩ : ∃ N : Nat, N = 3000 := ⟨_, rfl⟩
  obtain ⟨r, σ', τ', e1, e2, e3, e4, e5⟩ := rd_all (N := N) (by omega) hd ht
  refine ⟨N, r, σ', τ', ?_, ?_, p, d, n, g, o, w, a, b, e, kk, pr_half hrel e3 e4⟩
  · unfold fX7_fault
    dsimp only [nb_let]
    rw [l4, pu_ix (by omega), nb_g_t (xc_q hd), ht.2.1, e1, pn_b2]
  · unfold fX8_fault
    rw [e2, pn_b2]
/-- the reference lays: its second half comes into the first -/
theorem pw_lay {N : Nat} {τ : nb_St} (hN : 10 < N) : ∃ r, (nb_lp2 (R := (Int32 × nb_St)) (fun ag29 (x27 : Int32) (σ28 : nb_St) =>
  (if (8 : Int32) ≤ x27 then
  nb_lp2 (R := (Int32 × nb_St)) (fun ag34 (x32 : Int32) (σ33 : nb_St) =>
  (if (3 : Int32) ≤ x32 then
  nb_lp2 (R := (Int32 × nb_St)) (fun ag39 (x37 : Int32) (σ38 : nb_St) =>
  (if (6 : Int32) ≤ x37 then
  nb_b (fX8_copyTold N σ38 (1 : Int32) (0 : Int32)) fun σ43 =>
  nb_let (nb_st σ43 0 24 (0 : Int32)) fun σ44 =>
  nb_let (nb_st σ44 0 25 (0 : Int32)) fun σ45 =>
  nb_g (nb_in (0 : Int32) 2) (
  some ((σ45 2 (nb_ix (0 : Int32))), σ45))
  else
  nb_g (nb_in ((6 : Int32) + x37) 12) (
  nb_g (nb_in x37 12) (
  nb_let (nb_st σ38 16 (nb_ix x37) (σ38 16 (nb_ix ((6 : Int32) + x37)))) fun σ49 =>
  nb_g (nb_in ((6 : Int32) + x37) 12) (
  nb_g (nb_in x37 12) (
  nb_let (nb_st σ49 17 (nb_ix x37) (σ49 17 (nb_ix ((6 : Int32) + x37)))) fun σ52 =>
  nb_g (nb_in ((6 : Int32) + x37) 12) (
  nb_g (nb_in x37 12) (
  nb_let (nb_st σ52 18 (nb_ix x37) (σ52 18 (nb_ix ((6 : Int32) + x37)))) fun σ55 =>
  ag39 (x37 + 1) σ55)))))))) N (0 : Int32) σ33
  else
  nb_g (nb_in ((3 : Int32) + x32) 6) (
  nb_g (nb_in x32 6) (
  nb_let (nb_st σ33 8 (nb_ix x32) (σ33 8 (nb_ix ((3 : Int32) + x32)))) fun σ58 =>
  nb_g (nb_in ((3 : Int32) + x32) 6) (
  nb_g (nb_in x32 6) (
  nb_let (nb_st σ58 9 (nb_ix x32) (σ58 9 (nb_ix ((3 : Int32) + x32)))) fun σ61 =>
  nb_g (nb_in ((3 : Int32) + x32) 6) (
  nb_g (nb_in x32 6) (
  nb_let (nb_st σ61 13 (nb_ix x32) (σ61 13 (nb_ix ((3 : Int32) + x32)))) fun σ64 =>
  nb_g (nb_in ((3 : Int32) + x32) 6) (
  nb_g (nb_in x32 6) (
  nb_let (nb_st σ64 14 (nb_ix x32) (σ64 14 (nb_ix ((3 : Int32) + x32)))) fun σ67 =>
  ag34 (x32 + 1) σ67)))))))))) N (0 : Int32) σ28
  else
  nb_g (nb_in ((8 : Int32) + x27) 16) (
  nb_g (nb_in x27 16) (
  nb_let (nb_st σ28 3 (nb_ix x27) (σ28 3 (nb_ix ((8 : Int32) + x27)))) fun σ70 =>
  nb_g (nb_in ((8 : Int32) + x27) 16) (
  nb_g (nb_in x27 16) (
  nb_let (nb_st σ70 4 (nb_ix x27) (σ70 4 (nb_ix ((8 : Int32) + x27)))) fun σ73 =>
  nb_g (nb_in ((8 : Int32) + x27) 16) (
  nb_g (nb_in x27 16) (
  nb_let (nb_st σ73 5 (nb_ix x27) (σ73 5 (nb_ix ((8 : Int32) + x27)))) fun σ76 =>
  nb_g (nb_in ((8 : Int32) + x27) 16) (
  nb_g (nb_in x27 16) (
  nb_let (nb_st σ76 6 (nb_ix x27) (σ76 6 (nb_ix ((8 : Int32) + x27)))) fun σ79 =>
  ag29 (x27 + 1) σ79)))))))))) N (0 : Int32) τ) = some r ∧ ∃ s, (∀ k, (k < 3 ∨ k = 7 ∨ (10 ≤ k ∧ k ≤ 12) ∨ k = 15 ∨ 19 ≤ k) → s k = τ k) ∧ (∀ k, 3 ≤ k → k ≤ 6 → ∀ j, j < 8 → s k j = τ k (8 + j)) ∧ (∀ k, k = 8 ∨ k = 9 ∨ k = 13 ∨ k = 14 → ∀ j, j < 3 → s k j = τ k (3 + j)) ∧ (∀ k, 16 ≤ k → k ≤ 18 → ∀ j, j < 6 → s k j = τ k (6 + j)) ∧ r = (pu_ct s 1 0 2 0, nb_st (nb_st (pu_ct s 1 0) 0 24 (nI 0)) 0 25 (nI 0)) := by
  refine nb_e2 (I := fun i x s => i ≤ 8 ∧ x = nI i ∧ (∀ k, (k < 3 ∨ 6 < k) → s k = τ k) ∧ (∀ k, 3 ≤ k → k ≤ 6 → ∀ j, s k j = if j < i then τ k (8 + j) else τ k j)) 8 ?_ (by omega) ⟨by omega, rfl, fun _ _ => rfl, fun k _ _ j => by rw [if_neg (by omega)]⟩
  rintro ag i x s ⟨hi, rfl, f1, f2⟩
  by_cases hlt : i < 8
  · right
    refine ⟨hlt, nI (i + 1), nb_st (nb_st (nb_st (nb_st s 3 i (τ 3 (8 + i))) 4 i (τ 4 (8 + i))) 5 i (τ 5 (8 + i))) 6 i (τ 6 (8 + i)), ⟨by omega, rfl, fun k hk => ?_, fun k k1 k2 j => ?_⟩, ?_⟩
    · simp (disch := omega) only [nb_st_k]
      exact f1 k hk
    · have z := f2 k k1 k2 j
      by_cases q : j = i
      · subst q
        rw [if_pos (by omega)]
        have : k = 3 ∨ k = 4 ∨ k = 5 ∨ k = 6 := by omega
        rcases this with rfl | rfl | rfl | rfl <;> simp (disch := omega) only [nb_st_k, nb_st_s]
      · rw [nb_st_n (Or.inr q), nb_st_n (Or.inr q), nb_st_n (Or.inr q), nb_st_n (Or.inr q), z]
        exact pn_ite (by omega)
    · have z3 := f2 3 (by decide) (by decide) (8 + i)
      have z4 := f2 4 (by decide) (by decide) (8 + i)
      have z5 := f2 5 (by decide) (by decide) (8 + i)
      have z6 := f2 6 (by decide) (by decide) (8 + i)
      rw [if_neg (by omega)] at z3 z4 z5 z6
      simp (disch := omega) only [pn_g, pu_b1, pn_b2, pn_leT, pn_leF, pn_ltT, pn_ltF, pn_eqT, pn_eqF, pu_in, pu_ix, nI_add, pk_mul, pk_sub, ↓reduceIte, Bool.false_eq_true, if_false, if_true, nb_st_s, nb_st_k, nb_st_n, nb_sa_s, nb_sa_n, pL0, pL1, pL2, pL3, pL4, pL5, pL6, pL7, pL8, pL9, pL10, pL11, pL12, pL13, pL15, pL20, pL30, pL99, pL100, pL180, pL240, pL255, pL350, pL359, pL719, pL720, pL999, pL9999, pL99999, pL100000, pL1000000, nb_let, z3, z4, z5, z6]
  · left
    have : i = 8 := by omega
    subst this
    rw [if_pos (show (8 : Int32) ≤ nI 8 by decide)]
    refine nb_e2 (I := fun i x t => i ≤ 3 ∧ x = nI i ∧ (∀ k, k ≠ 8 → k ≠ 9 → k ≠ 13 → k ≠ 14 → t k = s k) ∧ (∀ k, k = 8 ∨ k = 9 ∨ k = 13 ∨ k = 14 → ∀ j, t k j = if j < i then s k (3 + j) else s k j)) 3 ?_ (by omega) ⟨by omega, rfl, fun _ _ _ _ _ => rfl, fun k _ j => by rw [if_neg (by omega)]⟩
    rintro ag2 i x t ⟨hi, rfl, g1, g2⟩
    by_cases hlt : i < 3
    · right
      refine ⟨hlt, nI (i + 1), nb_st (nb_st (nb_st (nb_st t 8 i (s 8 (3 + i))) 9 i (s 9 (3 + i))) 13 i (s 13 (3 + i))) 14 i (s 14 (3 + i)), ⟨by omega, rfl, fun k k1 k2 k3 k4 => ?_, fun k hk j => ?_⟩, ?_⟩
      · rw [nb_st_k k4, nb_st_k k3, nb_st_k k2, nb_st_k k1]; exact g1 k k1 k2 k3 k4
      · have z := g2 k hk j
        by_cases q : j = i
        · subst q
          rw [if_pos (by omega)]
          rcases hk with rfl | rfl | rfl | rfl <;> simp (disch := omega) only [nb_st_k, nb_st_s]
        · rw [nb_st_n (Or.inr q), nb_st_n (Or.inr q), nb_st_n (Or.inr q), nb_st_n (Or.inr q), z]
          exact pn_ite (by omega)
      · have z3 := g2 8 (by decide) (3 + i)
        have z4 := g2 9 (by decide) (3 + i)
        have z5 := g2 13 (by decide) (3 + i)
        have z6 := g2 14 (by decide) (3 + i)
        rw [if_neg (by omega)] at z3 z4 z5 z6
        simp (disch := omega) only [pn_g, pu_b1, pn_b2, pn_leT, pn_leF, pn_ltT, pn_ltF, pn_eqT, pn_eqF, pu_in, pu_ix, nI_add, pk_mul, pk_sub, ↓reduceIte, Bool.false_eq_true, if_false, if_true, nb_st_s, nb_st_k, nb_st_n, nb_sa_s, nb_sa_n, pL0, pL1, pL2, pL3, pL4, pL5, pL6, pL7, pL8, pL9, pL10, pL11, pL12, pL13, pL15, pL20, pL30, pL99, pL100, pL180, pL240, pL255, pL350, pL359, pL719, pL720, pL999, pL9999, pL99999, pL100000, pL1000000, nb_let, z3, z4, z5, z6]
    · left
      have : i = 3 := by omega
      subst this
      rw [if_pos (show (3 : Int32) ≤ nI 3 by decide)]
      refine nb_e2 (I := fun i x u => i ≤ 6 ∧ x = nI i ∧ (∀ k, (k < 16 ∨ 18 < k) → u k = t k) ∧ (∀ k, 16 ≤ k → k ≤ 18 → ∀ j, u k j = if j < i then t k (6 + j) else t k j)) 6 ?_ (by omega) ⟨by omega, rfl, fun _ _ => rfl, fun k _ _ j => by rw [if_neg (by omega)]⟩
      rintro ag3 i x u ⟨hi, rfl, y1, y2⟩
      by_cases hlt : i < 6
      · right
        refine ⟨hlt, nI (i + 1), nb_st (nb_st (nb_st u 16 i (t 16 (6 + i))) 17 i (t 17 (6 + i))) 18 i (t 18 (6 + i)), ⟨by omega, rfl, fun k hk => ?_, fun k k1 k2 j => ?_⟩, ?_⟩
        · simp (disch := omega) only [nb_st_k]
          exact y1 k hk
        · have z := y2 k k1 k2 j
          by_cases q : j = i
          · subst q
            rw [if_pos (by omega)]
            have : k = 16 ∨ k = 17 ∨ k = 18 := by omega
            rcases this with rfl | rfl | rfl <;> simp (disch := omega) only [nb_st_k, nb_st_s]
          · rw [nb_st_n (Or.inr q), nb_st_n (Or.inr q), nb_st_n (Or.inr q), z]
            exact pn_ite (by omega)
        · have z3 := y2 16 (by decide) (by decide) (6 + i)
          have z4 := y2 17 (by decide) (by decide) (6 + i)
          have z5 := y2 18 (by decide) (by decide) (6 + i)
          rw [if_neg (by omega)] at z3 z4 z5
          simp (disch := omega) only [pn_g, pu_b1, pn_b2, pn_leT, pn_leF, pn_ltT, pn_ltF, pn_eqT, pn_eqF, pu_in, pu_ix, nI_add, pk_mul, pk_sub, ↓reduceIte, Bool.false_eq_true, if_false, if_true, nb_st_s, nb_st_k, nb_st_n, nb_sa_s, nb_sa_n, pL0, pL1, pL2, pL3, pL4, pL5, pL6, pL7, pL8, pL9, pL10, pL11, pL12, pL13, pL15, pL20, pL30, pL99, pL100, pL180, pL240, pL255, pL350, pL359, pL719, pL720, pL999, pL9999, pL99999, pL100000, pL1000000, nb_let, z3, z4, z5]
      · left
        have : i = 6 := by omega
        subst this
        have hct : fX8_copyTold N u (1 : Int32) (0 : Int32) = some (pu_ct u 1 0) := pu_copyTold (s := 1) (t := 0) (by omega) (by decide) (by decide) (by decide)
        have u2 : u 2 = τ 2 := by rw [y1 2 (by omega), g1 2 (by decide) (by decide) (by decide) (by decide), f1 2 (by omega)]
        refine ⟨_, ?_, u, fun k hk => ?_, fun k k1 k2 j hj => ?_, fun k hk j hj => ?_, fun k k1 k2 j hj => ?_, rfl⟩
        · rw [if_pos (show (6 : Int32) ≤ nI 6 by decide), hct, pu_b1]
          dsimp only [nb_let]
          rw [nb_g_t (show nb_in (0 : Int32) 2 = true by decide), nb_st_k (show (2 : Nat) ≠ 0 by decide), nb_st_k (show (2 : Nat) ≠ 0 by decide)]
          rfl
        · rw [y1 k (by omega), g1 k (by omega) (by omega) (by omega) (by omega), f1 k (by omega)]
        · rw [y1 k (by omega), g1 k (by omega) (by omega) (by omega) (by omega), f2 k k1 k2, if_pos hj]
        · rw [y1 k (by omega), g2 k hk, if_pos hj, f1 k (by omega)]
        · rw [y2 k k1 k2, if_pos hj, g1 k (by omega) (by omega) (by omega) (by omega), f1 k (by omega)]
end
