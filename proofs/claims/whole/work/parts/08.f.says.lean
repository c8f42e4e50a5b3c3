section PW
variable {GV GM : nb_St → nb_St → Prop}
theorem pp_say (ok : pr_ok GV GM) {σ τ : nb_St} (h : pr_Rel GV GM σ τ) (m : Int32) : ∃ (N : Nat) (r : Int32) (σo τo : nb_St), fX7_say N σ m = some (r, σo) ∧ fX8_say N τ m = some (r, τo) ∧ pr_Rel GV GM σo τo := by
  have hR := h
  obtain ⟨p, d, n, g, o, w, a, b, e, kk, hpd, l3, l4, ht, hg, hp, hto, hdo, hz1, hz2, hk, hgm, hgv⟩ := h
  have hl := pr_laid hpd l3
  have hpp := pr_pd_p hpd
  have hpv : (p = 4 ∨ p = 20) := by rcases hpd with ⟨rfl, -⟩ | ⟨rfl, -⟩ <;> simp
  have i0 : nb_ix (0 : Int32) = 0 := rfl
  by_cases hm : (0 : Int32) ≤ m ∧ m ≤ 359
  · obtain ⟨a6, b4, c1, c2, c3, c4, c5, c6⟩ := hto
    by_cases hb : b < 4
    · have hd1 : pr_done (nb_st (nb_st σ (p + 5 + 3) b m) (p + 5) 3 (nI (b + 1))) (nb_st (nb_st τ 23 b m) 22 0 (nI (b + 1))) e := by
        refine pr_done_c hdo ?_ ?_ ?_ ?_
        · rw [nb_st_k (by omega), nb_st_k (by omega)]
        · rw [nb_st_k (by omega), nb_st_k (by omega)]
        · rw [nb_st_k (by decide), nb_st_k (by decide)]
        · rw [nb_st_k (by decide), nb_st_k (by decide)]
      obtain ⟨σ1, τ1, e1, n1, n2, hd2, s1, s2, t1, t2, z1, z2⟩ := pl_note hd1 (b := 0) (c := 1) (Or.inr ⟨rfl, rfl⟩)
      rw [nb_st_k (by decide), nb_st_k (by decide)] at z1 z2
      have sk : ∀ k, k ≠ 69 → k ≠ 70 → k ≠ p + 5 → k ≠ p + 8 → σ1 k = σ k := by
        intro k k1 k2 k3 k4
        rw [s1 k k1 k2, nb_st_k k3, nb_st_k (by omega)]
      have s69 : ∀ j, j ≠ 1 → σ1 69 j = σ 69 j := by
        intro j hj
        rw [s2 j hj, nb_st_k (by omega), nb_st_k (by omega)]
      have tk : ∀ k, k ≠ 0 → k ≠ 24 → k ≠ 22 → k ≠ 23 → τ1 k = τ k := by
        intro k k1 k2 k3 k4
        rw [t1 k k1 k2, nb_st_k k3, nb_st_k k4]
      have t0 : ∀ j, j ≠ 25 → τ1 0 j = τ 0 j := by
        intro j hj
        rw [t2 j hj, nb_st_k (by decide), nb_st_k (by decide)]
      have x0 : σ1 (p + 5) = nb_st (nb_st σ (p + 5 + 3) b m) (p + 5) 3 (nI (b + 1)) (p + 5) := s1 _ (by omega) (by omega)
      have x1 : σ1 (p + 8) = nb_st (nb_st σ (p + 5 + 3) b m) (p + 5) 3 (nI (b + 1)) (p + 8) := s1 _ (by omega) (by omega)
      have y0 : ∀ j, τ1 22 j = if j = 0 then nI (b + 1) else τ 22 j := by intro j; rw [t1 22 (by decide) (by decide)]; simp [nb_st]
      have y1 : ∀ j, τ1 23 j = if j = b then m else τ 23 j := by intro j; rw [t1 23 (by decide) (by decide)]; simp [nb_st]
      refine ⟨20, nI (b + 1), nb_st σ1 61 0 0, τ1, ?_, ?_, p, d, n, g, o, w, a, b + 1, e1, kk, hpd, ?_, ?_, ?_, hg, ?_, ?_, ?_, ?_, ?_, ?_, ?_, ?_⟩
      · simp only [fX7_say, nb_let, pu_within]
        rw [pu_b1, if_pos hm, if_neg (by decide), hl, nb_g_t hpp, nb_b2_s (pu_addWord (N := 20) c3 hb), if_neg (by decide), n1, pu_b1]
        have hl2 : nb_ix (nb_st σ1 61 0 0 0 3) = p := by
          rw [nb_st_k (by decide), sk 0 (by decide) (by decide) (by omega) (by omega)]
          exact hl
        rw [hl2, nb_g_t hpp, nb_st_k (by omega), x0, nb_st_s]
      · rw [pu_say8 c4 hb hm, n2, pu_b1, y0 0, if_pos rfl]
      · rw [nb_st_k (by decide), sk 0 (by decide) (by decide) (by omega) (by omega)]; exact l3
      · rw [nb_st_k (by decide), sk 0 (by decide) (by decide) (by omega) (by omega)]; exact l4
      · refine pr_text_c ht ?_ ?_ (t0 0 (by decide)) (tk 1 (by decide) (by decide) (by decide) (by decide))
        · rw [nb_st_k (by decide), sk 0 (by decide) (by decide) (by omega) (by omega)]
        · rw [nb_st_k (by decide), sk 1 (by decide) (by decide) (by omega) (by omega)]
      · refine pr_pt_c hp (fun k h1 h2 => ?_) (fun k h1 h2 => tk k (by omega) (by omega) (by omega) (by omega))
        rw [nb_st_k (by omega), sk _ (by omega) (by omega) (by omega) (by omega)]
      · have hmr : pr_rng m 0 359 := pr_rng_of (a := 0) (b := 359) (by decide) (by decide) hm.1 hm.2
        have w0 : nb_st σ1 61 0 0 (p + 5) = nb_st (nb_st σ (p + 5 + 3) b m) (p + 5) 3 (nI (b + 1)) (p + 5) := by rw [nb_st_k (by omega), x0]
        have w3 : ∀ j, nb_st σ1 61 0 0 (p + 5 + 3) j = if j = b then m else σ (p + 5 + 3) j := by
          intro j
          rw [nb_st_k (by omega), show p + 5 + 3 = p + 8 from rfl, x1, nb_st_k (by omega)]
          simp [nb_st]
        have w1 : nb_st σ1 61 0 0 (p + 5 + 1) = σ (p + 5 + 1) := by rw [nb_st_k (by omega), sk _ (by omega) (by omega) (by omega) (by omega)]
        have w2 : nb_st σ1 61 0 0 (p + 5 + 2) = σ (p + 5 + 2) := by rw [nb_st_k (by omega), sk _ (by omega) (by omega) (by omega) (by omega)]
        refine ⟨a6, by omega, ?_, by rw [tk 19 (by decide) (by decide) (by decide) (by decide)]; exact c2, by rw [w0, nb_st_s], by rw [y0]; simp, fun k hk => ?_, fun k hk => ?_⟩
        · rw [w0, nb_st_n (Or.inr (by decide)), nb_st_k (by omega)]; exact c1
        · rw [w1, w2, tk 20 (by decide) (by decide) (by decide) (by decide), tk 21 (by decide) (by decide) (by decide) (by decide)]
          exact c5 k hk
        · rw [w3, y1]
          by_cases hkb : k = b
          · subst hkb
            simp
            exact hmr
          · simp only [Nat.mul_zero, Nat.zero_add, hkb, if_false]
            have := c6 k (by omega)
            simpa using this
      · exact pr_done_c hd2 (by rw [nb_st_k (by decide)]) (nb_st_k (by decide)) rfl rfl
      · simp at z1
        omega
      · simp at z2
        omega
      · refine pr_kept_c hk ?_ (fun k h1 h2 => ?_) (t0 24 (by decide)) (fun k h1 h2 j hj => ?_)
        · rw [nb_st_k (by decide)]; exact s69 4 (by decide)
        · rw [nb_st_k (by omega), sk k (by omega) (by omega) (by omega) (by omega)]
        · by_cases k22 : k = 22
          · subst k22; rw [y0, if_neg (by simp at hj; omega)]
          · by_cases k23 : k = 23
            · subst k23; rw [y1, if_neg (by simp at hj; omega)]
            · rw [tk k (by omega) (by omega) k22 k23]
      · refine ok.2.2 _ _ _ _ ?_ ?_ ?_ ?_ (fun k h1 h2 => tk k (by omega) (by omega) (by omega) (by omega)) hgm
        · rw [nb_st_k (by decide), sk 64 (by decide) (by decide) (by omega) (by omega)]
        · rw [nb_st_k (by decide), sk 65 (by decide) (by decide) (by omega) (by omega)]
        · rw [nb_st_k (by decide), sk 66 (by decide) (by decide) (by omega) (by omega)]
        · rw [nb_st_k (by decide), sk 68 (by decide) (by decide) (by omega) (by omega)]
      · exact ok.1 _ _ nb_st_s
    · have hb4 : b = 4 := by omega
      subst hb4
      refine ⟨20, -3, σ, τ, ?_, ?_, hR⟩
      · simp only [fX7_say, nb_let, pu_within]
        rw [pu_b1, if_pos hm, if_neg (by decide), hl, nb_g_t hpp, nb_b2_s (pu_addWordF (N := 20) c3), if_pos rfl]
      · simp only [fX8_say, nb_let, pu_isMinute]
        rw [pu_b1, if_pos hm, if_neg (by decide), nb_g_t (by decide), i0, c4, if_pos (by decide)]
  · refine ⟨20, -1, σ, τ, ?_, ?_, hR⟩
    · simp only [fX7_say, nb_let, pu_within]
      rw [pu_b1, if_neg hm, if_pos rfl]
    · simp only [fX8_say, nb_let, pu_isMinute]
      rw [pu_b1, if_neg hm, if_pos rfl]
end PW
