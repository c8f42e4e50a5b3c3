section
theorem pu_ct_b {s : nb_St} {k : Nat} (h : k < 19 ∨ 23 < k) : pu_ct s 1 0 k = s k := pu_ct_n h
theorem pp_lay {σ τ : nb_St} (h : pr_Rel GV GM σ τ) : ∃ (N : Nat) (r : Int32) (σo τo : nb_St), fX7_lay N σ = some (r, σo) ∧ fX8_lay N τ = some (r, τo) ∧ pr_Rel GV GM σo τo := by
  obtain ⟨p, d, n, g, o, w, a, b, e, kk, hrel⟩ := h
  obtain ⟨hpd, l3, l4, ht, -⟩ := id hrel
  have hpp : (p = 4 ∧ d = 20) ∨ (p = 20 ∧ d = 4) := hpd
  have hd : d = 4 ∨ d = 20 := by omega
  have hp4 : p = 4 ∨ p = 20 := by omega
  obtain ⟨N, hN⟩ : ∃ N : Nat, N = 3000 := ⟨_, rfl⟩
  obtain ⟨r, σ', τ', e1, e2, e3, e4, e5⟩ := rd_all (N := N) (by omega) hd ht
  have hrel' := pr_half hrel e3 e4
  obtain ⟨-, l3', l4', ht', -⟩ := id hrel'
  refine ⟨N, ?_⟩
  have c7 : fX7_lay N σ = (if r = (-4 : Int32) then (if (σ' d 0) = 0 then some ((-2 : Int32), σ') else nb_b (fX1_gather N (nb_st (nb_st (nb_st (nb_st (nb_st σ' 0 3 (nI d)) 0 4 (nI p)) 69 1 0) 69 4 0) 61 0 0) d) fun σ24 => nb_g (xc_pty (nb_ix (σ24 0 3))) (some ((σ24 (nb_ix (σ24 0 3)) 0), σ24))) else some ((-2 : Int32), σ')) := by
    unfold fX7_lay fX3_forget
    dsimp only [nb_let]
    rw [l4, pu_ix (by omega), nb_g_t (xc_q hd), ht.2.1, e1, pn_b2, l4', pu_ix (by omega), nb_g_t (xc_q hd), l3', pu_ix (show p < 2 ^ 31 by omega), nb_g_t (xc_q hp4), nb_g_t (xc_q hd), pu_b1]
    have q : nb_ix (nb_st (nb_st (nb_st (nb_st (nb_st σ' 0 3 (nI d)) 0 4 (nI p)) 69 1 0) 69 4 0) 61 0 0 0 3) = d := by
      rw [nb_st_k (by decide), nb_st_k (by decide), nb_st_k (by decide), nb_st_n (by decide), nb_st_s]
      exact pu_ix (by omega)
    rw [q, nb_g_t (xc_q hd)]
  by_cases c0 : r = -4
  · subst c0
    obtain ⟨g1, o1, w1, a1, b1, hpt, htd⟩ := e5 rfl
    obtain ⟨x1, x2, x3, x4, x5, x6, x7, x8, x9, x10, x11, x12, x13, x14, x15, x16, x17, x18, x19⟩ := id hpt
    obtain ⟨y1, y2, y3, y4, y5, y6, y7, y8⟩ := id htd
    by_cases cg : g1 = 0
    · subst cg
      refine ⟨-2, σ', τ', ?_, ?_, p, d, n, g, o, w, a, b, e, kk, hrel'⟩
      · rw [c7, if_pos rfl, x4, if_pos (show nI 0 = (0 : Int32) from rfl)]
      · unfold fX8_lay
        dsimp only [nb_let]
        rw [e2, pn_b2, if_pos rfl, nb_g_t (show nb_in (1 : Int32) 2 = true by decide), show nb_ix (1 : Int32) = 1 from rfl, x5, if_pos (show nI 0 = (0 : Int32) from rfl)]
    · obtain ⟨t3, ht3⟩ : ∃ t3, t3 = nb_st (nb_st (nb_st (nb_st (nb_st (nb_st τ' 2 0 (nI g1)) 7 0 (nI o1)) 10 0 (τ' 10 1)) 11 0 (τ' 11 1)) 12 0 (τ' 12 1)) 15 0 (nI w1) := ⟨_, rfl⟩
      obtain ⟨rr, k1, s, k2, k3, k4, k5, k6⟩ := pw_lay (N := N) (τ := t3) (by omega)
      have c8 : fX8_lay N τ = some rr := by
        unfold fX8_lay
        dsimp only [nb_let] at k1 ⊢
        rw [e2, pn_b2, if_pos rfl]
        have g2 : nb_in (1 : Int32) 2 = true := by decide
        have g0 : nb_in (0 : Int32) 2 = true := by decide
        have i1 : nb_ix (1 : Int32) = 1 := rfl
        have i0 : nb_ix (0 : Int32) = 0 := rfl
        simp only [g2, g0, pn_g, i1, i0] at k1 ⊢
        rw [x5, if_neg (nI_ne0 (by omega) (by omega))]
        have z7 : nb_st τ' 2 0 (nI g1) 7 1 = nI o1 := by rw [nb_st_k (by decide)]; exact x14
        rw [z7]
        have z10 : nb_st (nb_st τ' 2 0 (nI g1)) 7 0 (nI o1) 10 1 = τ' 10 1 := by rw [nb_st_k (by decide), nb_st_k (by decide)]
        rw [z10]
        have z11 : nb_st (nb_st (nb_st τ' 2 0 (nI g1)) 7 0 (nI o1)) 10 0 (τ' 10 1) 11 1 = τ' 11 1 := by rw [nb_st_k (by decide), nb_st_k (by decide), nb_st_k (by decide)]
        rw [z11]
        have z12 : nb_st (nb_st (nb_st (nb_st τ' 2 0 (nI g1)) 7 0 (nI o1)) 10 0 (τ' 10 1)) 11 0 (τ' 11 1) 12 1 = τ' 12 1 := by rw [nb_st_k (by decide), nb_st_k (by decide), nb_st_k (by decide), nb_st_k (by decide)]
        rw [z12]
        have z15 : nb_st (nb_st (nb_st (nb_st (nb_st τ' 2 0 (nI g1)) 7 0 (nI o1)) 10 0 (τ' 10 1)) 11 0 (τ' 11 1)) 12 0 (τ' 12 1) 15 1 = nI w1 := by rw [nb_st_k (by decide), nb_st_k (by decide), nb_st_k (by decide), nb_st_k (by decide), nb_st_k (by decide)]; exact x18
        rw [z15, ← ht3]
        exact k1
      obtain ⟨τo, hτo⟩ : ∃ τo, τo = nb_st (nb_st (pu_ct s 1 0) 0 24 (nI 0)) 0 25 (nI 0) := ⟨_, rfl⟩
      rw [← hτo] at k6
      -- what the reference now holds
      have o0 : ∀ k, k ≠ 0 → τo k = pu_ct s 1 0 k := fun k hk => by rw [hτo, nb_st_k hk, nb_st_k hk]
      have oz : ∀ k, k ≠ 0 → k < 19 ∨ 23 < k → τo k = s k := fun k hk hk2 => by rw [o0 k hk, pu_ct_b hk2]
      have q3 : ∀ k, 3 ≤ k → k ≤ 6 → ∀ j, j < 8 → τo k j = τ' k (8 + j) := fun k h1 h2 j hj => by
        rw [oz k (by omega) (by omega), k3 k h1 h2 j hj, ht3]
        simp (disch := omega) only [nb_st_k]
      have q8 : ∀ k, k = 8 ∨ k = 9 ∨ k = 13 ∨ k = 14 → ∀ j, j < 3 → τo k j = τ' k (3 + j) := fun k hk j hj => by
        rw [oz k (by omega) (by omega), k4 k hk j hj, ht3]
        simp (disch := omega) only [nb_st_k]
      have q16 : ∀ k, 16 ≤ k → k ≤ 18 → ∀ j, j < 6 → τo k j = τ' k (6 + j) := fun k h1 h2 j hj => by
        rw [oz k (by omega) (by omega), k5 k h1 h2 j hj, ht3]
        simp (disch := omega) only [nb_st_k]
      have q2 : τo 2 0 = nI g1 := by
        rw [oz 2 (by decide) (by omega), k2 2 (by omega), ht3]
        simp (disch := omega) only [nb_st_k, nb_st_s]
      have q7 : τo 7 0 = nI o1 := by
        rw [oz 7 (by decide) (by omega), k2 7 (by omega), ht3]
        simp (disch := omega) only [nb_st_k, nb_st_s]
      have q10 : τo 10 0 = τ' 10 1 := by
        rw [oz 10 (by decide) (by omega), k2 10 (by omega), ht3]
        simp (disch := omega) only [nb_st_k, nb_st_s]
      have q11 : τo 11 0 = τ' 11 1 := by
        rw [oz 11 (by decide) (by omega), k2 11 (by omega), ht3]
        simp (disch := omega) only [nb_st_k, nb_st_s]
      have q12 : τo 12 0 = τ' 12 1 := by
        rw [oz 12 (by decide) (by omega), k2 12 (by omega), ht3]
        simp (disch := omega) only [nb_st_k, nb_st_s]
      have q15 : τo 15 0 = nI w1 := by
        rw [oz 15 (by decide) (by omega), k2 15 (by omega), ht3]
        simp (disch := omega) only [nb_st_k, nb_st_s]
      have s19 : ∀ k, 19 ≤ k → s k = τ' k := fun k hk => by
        rw [k2 k (by omega), ht3]
        simp (disch := omega) only [nb_st_k]
      have q1 : τo 1 = τ' 1 := by
        rw [oz 1 (by decide) (by omega), k2 1 (by omega), ht3]
        simp (disch := omega) only [nb_st_k]
      have q00 : ∀ j, j ≠ 24 → j ≠ 25 → τo 0 j = τ' 0 j := fun j j1 j2 => by
        rw [hτo, nb_st_n (Or.inr j2), nb_st_n (Or.inr j1), pu_ct_b (by omega), k2 0 (by omega), ht3]
        simp (disch := omega) only [nb_st_k]
      -- the class
      obtain ⟨σ1, hσ1⟩ : ∃ σ1, σ1 = nb_st (nb_st (nb_st (nb_st (nb_st σ' 0 3 (nI d)) 0 4 (nI p)) 69 1 0) 69 4 0) 61 0 0 := ⟨_, rfl⟩
      rw [← hσ1] at c7
      have v0 : ∀ k, k ≠ 0 → k ≠ 69 → k ≠ 61 → σ1 k = σ' k := fun k h1 h2 h3 => by rw [hσ1, nb_st_k h3, nb_st_k h2, nb_st_k h2, nb_st_k h1, nb_st_k h1]
      have v3 : σ1 0 3 = nI d := by
        rw [hσ1]
        simp (disch := omega) only [nb_st_k, nb_st_n, nb_st_s]
      have v4 : σ1 0 4 = nI p := by
        rw [hσ1]
        simp (disch := omega) only [nb_st_k, nb_st_n, nb_st_s]
      have v1 : σ1 0 1 = σ' 0 1 := by
        rw [hσ1]
        simp (disch := omega) only [nb_st_k, nb_st_n]
      have npt : ∀ σ2 : nb_St, (∀ k, d ≤ k → k ≤ d + 15 → σ2 k = σ' k) → pr_pt σ2 τo d 0 g1 o1 w1 := fun σ2 hσ2 => by
        have h0 : σ2 d = σ' d := hσ2 d (by omega) (by omega)
        refine ⟨x1, x2, x3, by rw [h0]; exact x4, q2, fun k hk => ?_, by rw [h0, q10]; exact x7, by rw [h0]; exact x8, by rw [h0, q11]; exact x9, by rw [h0]; exact x10, by rw [h0, q12]; exact x11, by rw [h0]; exact x12, by rw [h0]; exact x13, q7, fun k hk => ?_, fun k hk => ?_, by rw [h0]; exact x17, q15, fun k hk => ?_⟩
        · have z := x6 k hk
          rw [Nat.mul_one] at z
          rw [Nat.mul_zero, Nat.zero_add, hσ2 _ (by omega) (by omega), hσ2 _ (by omega) (by omega), hσ2 _ (by omega) (by omega), hσ2 _ (by omega) (by omega), q3 3 (by decide) (by decide) k (by omega), q3 4 (by decide) (by decide) k (by omega), q3 5 (by decide) (by decide) k (by omega), q3 6 (by decide) (by decide) k (by omega)]
          exact z
        · have z := x15 k hk
          rw [Nat.mul_one] at z
          rw [Nat.mul_zero, Nat.zero_add, hσ2 _ (by omega) (by omega), hσ2 _ (by omega) (by omega), q8 8 (by decide) k (by omega), q8 9 (by decide) k (by omega)]
          exact z
        · have z := x16 k hk
          rw [Nat.mul_one] at z
          rw [Nat.mul_zero, Nat.zero_add, hσ2 _ (by omega) (by omega), hσ2 _ (by omega) (by omega), q8 13 (by decide) k (by omega), q8 14 (by decide) k (by omega)]
          exact z
        · have z := x19 k hk
          rw [Nat.mul_one] at z
          rw [Nat.mul_zero, Nat.zero_add, hσ2 _ (by omega) (by omega), hσ2 _ (by omega) (by omega), hσ2 _ (by omega) (by omega), q16 16 (by decide) (by decide) k (by omega), q16 17 (by decide) (by decide) k (by omega), q16 18 (by decide) (by decide) k (by omega)]
          exact z
      have ntd : ∀ σ2 : nb_St, (∀ k, d ≤ k → k ≤ d + 15 → σ2 k = σ' k) → pr_told σ2 τo (d + 5) 0 a1 b1 := fun σ2 hσ2 => by
        have h0 : σ2 (d + 5) = σ' (d + 5) := hσ2 _ (by omega) (by omega)
        refine ⟨y1, y2, by rw [h0]; exact y3, ?_, by rw [h0]; exact y5, ?_, fun k hk => ?_, fun k hk => ?_⟩
        · rw [o0 19 (by decide), pu_ct19, if_pos rfl, s19 19 (by decide)]; exact y4
        · rw [o0 22 (by decide), pu_ct22, if_pos rfl, s19 22 (by decide)]; exact y6
        · have z := y7 k hk
          rw [hσ2 _ (by omega) (by omega), hσ2 _ (by omega) (by omega), o0 20 (by decide), o0 21 (by decide), pu_ct20, pu_ct21, pu_cp_in (by omega), pu_cp_in (by omega), s19 20 (by decide), s19 21 (by decide)]
          exact z
        · have z := y8 k hk
          rw [hσ2 _ (by omega) (by omega), o0 23 (by decide), pu_ct23, pu_cp_in (by omega), s19 23 (by decide)]
          exact z
      have hcl : cl σ1 τo d p g1 o1 w1 a1 b1 := ⟨by rcases hpp with ⟨z1, z2⟩ | ⟨z1, z2⟩; exact Or.inr ⟨z2, z1⟩; exact Or.inl ⟨z2, z1⟩, v3, by omega, npt σ1 (fun k h1 h2 => v0 k (by omega) (by omega) (by omega)), ntd σ1 (fun k h1 h2 => v0 k (by omega) (by omega) (by omega))⟩
      obtain ⟨n1, n2, n3, n4, n5, n6, -⟩ := cl_n (bus := 8) (bf := 0) (B := 719) (X := tt2) (on := ff1) (gv := zz1) hcl rfl
      have hg2 : nb_ix (τo 2 0) = g1 := n2
      have sg : σ1 d 0 = nI g1 := by rw [v0 d (by omega) (by omega) (by omega)]; exact x4
      obtain ⟨σ2, u1, u2, u3, u4, u5, u6⟩ := pz_gather (N := N) (σ := σ1) (q := d) (g := g1) (P := tv τo 3 8) (W := tv τo 4 8) (S := tv τo 5 8) (by omega) hd sg x1 (fun k hk => ⟨(n3 k hk).2.2, (n3 k hk).1⟩) (fun k hk => ⟨(n5 k hk).2.2, (n5 k hk).1⟩) (fun k hk => ⟨(n6 k hk).2.2, (n6 k hk).1⟩)
      have u0 : σ2 0 3 = nI d := by rw [u2 0 (by decide) (by decide) (by decide)]; exact v3
      have ug : σ2 d 0 = nI g1 := by rw [u2 d (by omega) (by omega) (by omega)]; exact sg
      have ud : ∀ k, d ≤ k → k ≤ d + 15 → σ2 k = σ' k := fun k h1 h2 => by rw [u2 k (by omega) (by omega) (by omega)]; exact v0 k (by omega) (by omega) (by omega)
      refine ⟨nI g1, σ2, τo, ?_, ?_, d, p, n, g1, o1, w1, a1, b1, 0, 0, hcl.1, u0, ?_, ?_, by omega, npt σ2 ud, ntd σ2 ud, ?_, by exact Nat.zero_le _, by omega, ?_, ?_, ?_⟩
      · rw [c7, if_pos rfl, x4, if_neg (nI_ne0 (by omega) (by omega)), u1, pu_b1, u0, pu_ix (by omega), nb_g_t (xc_q hd), ug]
      · have e9 : pu_ct s 1 0 2 0 = nI g1 := by rw [← o0 2 (by decide)]; exact q2
        rw [c8, k6, e9]
      · rw [u2 0 (by decide) (by decide) (by decide)]; exact v4
      · exact pr_text_c ht' (by rw [u2 0 (by decide) (by decide) (by decide)]; exact v1) (by rw [u2 1 (by decide) (by decide) (by decide)]; exact v0 1 (by decide) (by decide) (by decide)) (q00 0 (by decide) (by decide)) q1
      · refine ⟨by omega, ?_, ?_, fun j hj => absurd hj (by omega)⟩
        · rw [u2 69 (by decide) (by decide) (by decide), hσ1]
          simp (disch := omega) only [nb_st_k, nb_st_n, nb_st_s]
          rfl
        · rw [hτo, nb_st_s]
      · refine ⟨by omega, ?_, ?_, fun q => absurd q (by omega), fun q => absurd q (by omega)⟩
        · rw [u2 69 (by decide) (by decide) (by decide), hσ1]
          simp (disch := omega) only [nb_st_k, nb_st_n, nb_st_s]
          rfl
        · rw [hτo, nb_st_n (by decide), nb_st_s]
      · refine ⟨?_, ?_, ?_, Or.inl u3⟩
        · unfold gmd; rw [hg2]; exact u4
        · unfold gmd; rw [hg2]; exact u5
        · unfold gmd; rw [hg2]; exact u6
      · refine GV_ok1 _ _ ?_
        rw [u2 61 (by decide) (by decide) (by decide), hσ1, nb_st_s]
  · refine ⟨-2, σ', τ', ?_, ?_, p, d, n, g, o, w, a, b, e, kk, hrel'⟩
    · rw [c7, if_neg c0]
    · unfold fX8_lay
      dsimp only [nb_let]
      rw [e2, pn_b2, if_neg c0]
end
