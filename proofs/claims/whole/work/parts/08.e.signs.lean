theorem pu_say8 {N : Nat} {τ : nb_St} {m : Int32} {b : Nat} (hb : τ 22 0 = nI b) (hb4 : b < 4) (hm : 0 ≤ m ∧ m ≤ 359) : fX8_say N τ m = nb_b (fX8_note N (nb_st (nb_st τ 23 b m) 22 0 (nI (b + 1))) 1) fun σ => some (σ 22 0, σ) := by
  have i0 : nb_ix (0 : Int32) = 0 := rfl
  have hi : nb_ix (nI b) = b := pu_ix (by omega)
  have hne : ¬ nI b = (4 : Int32) := fun e => by
    have := (nI_eq (a := b) (b := 4) (by omega) (by decide)).mp e
    omega
  have e1 : nb_st τ 23 b m 22 0 = nI b := by rw [nb_st_k (by decide)]; exact hb
  have g0 : nb_in (0 : Int32) 4 = true := by decide
  have g1 : nb_in (nI b) 16 = true := pu_in (by omega) (by decide)
  simp only [fX8_say, nb_let, pu_isMinute]
  rw [pu_b1, if_pos hm, if_neg (by decide), nb_g_t g0, i0, hb, if_neg hne]
  simp only [nb_g_t g0, nb_g_t g1, hi, e1, nI_1]
theorem pu_sign8 {N : Nat} {τ : nb_St} {m v : Int32} {a : Nat} (ha : τ 19 0 = nI a) (ha6 : a < 6) (hm : 0 ≤ m ∧ m ≤ 359) (hv : 1 ≤ v ∧ v ≤ 99) : fX8_sign N τ m v = nb_b (fX8_note N (nb_st (nb_st (nb_st τ 20 a m) 21 a v) 19 0 (nI (a + 1))) 0) fun σ => some (σ 19 0, σ) := by
  have i0 : nb_ix (0 : Int32) = 0 := rfl
  have hi : nb_ix (nI a) = a := pu_ix (by omega)
  have hne : ¬ nI a = (6 : Int32) := fun e => by
    have := (nI_eq (a := a) (b := 6) (by omega) (by decide)).mp e
    omega
  have e1 : nb_st τ 20 a m 19 0 = nI a := by rw [nb_st_k (by decide)]; exact ha
  have e2 : nb_st (nb_st τ 20 a m) 21 a v 19 0 = nI a := by rw [nb_st_k (by decide)]; exact e1
  have g0 : nb_in (0 : Int32) 4 = true := by decide
  have g1 : nb_in (nI a) 24 = true := pu_in (by omega) (by decide)
  have hin : fX8_in N τ v.toInt64 (1 : Int64) (99 : Int64) = some (if 1 ≤ v ∧ v ≤ 99 then 1 else 0) := pu_inL (by decide) (by decide)
  simp only [fX8_sign, nb_let, pu_isMinute]
  rw [pu_b1, if_pos hm, if_neg (by decide), hin, pu_b1, if_pos hv, if_neg (by decide), nb_g_t g0, i0, ha, if_neg hne]
  simp only [nb_g_t g0, nb_g_t g1, hi, e1, e2, nI_1]
section PS
variable {GV GM : nb_St → nb_St → Prop}
theorem pp_sign (ok : pr_ok GV GM) {σ τ : nb_St} (h : pr_Rel GV GM σ τ) (m v : Int32) : ∃ (N : Nat) (r : Int32) (σo τo : nb_St), fX7_sign N σ m v = some (r, σo) ∧ fX8_sign N τ m v = some (r, τo) ∧ pr_Rel GV GM σo τo := by
  have hR := h
  obtain ⟨p, d, n, g, o, w, a, b, e, kk, hpd, l3, l4, ht, hg, hp, hto, hdo, hz1, hz2, hk, hgm, hgv⟩ := h
  have hl := pr_laid hpd l3
  have hpp := pr_pd_p hpd
  have hpv : (p = 4 ∨ p = 20) := by rcases hpd with ⟨rfl, -⟩ | ⟨rfl, -⟩ <;> simp
  have hin : fX8_in 20 τ v.toInt64 (1 : Int64) (99 : Int64) = some (if 1 ≤ v ∧ v ≤ 99 then 1 else 0) := pu_inL (by decide) (by decide)
  have i0 : nb_ix (0 : Int32) = 0 := rfl
  by_cases hm : (0 : Int32) ≤ m ∧ m ≤ 359
  · by_cases hv : (1 : Int32) ≤ v ∧ v ≤ 99
    · obtain ⟨a6, b4, c1, c2, c3, c4, c5, c6⟩ := hto
      by_cases ha : a < 6
      · have hd1 : pr_done (nb_st (nb_st (nb_st σ (p + 5 + 1) a m) (p + 5 + 2) a v) (p + 5) 0 (nI (a + 1))) (nb_st (nb_st (nb_st τ 20 a m) 21 a v) 19 0 (nI (a + 1))) e := by
          refine pr_done_c hdo ?_ ?_ ?_ ?_
          · rw [nb_st_k (by omega), nb_st_k (by omega), nb_st_k (by omega)]
          · rw [nb_st_k (by omega), nb_st_k (by omega), nb_st_k (by omega)]
          · rw [nb_st_k (by decide), nb_st_k (by decide), nb_st_k (by decide)]
          · rw [nb_st_k (by decide), nb_st_k (by decide), nb_st_k (by decide)]
        obtain ⟨σ1, τ1, e1, n1, n2, hd2, s1, s2, t1, t2, z1, z2⟩ := pl_note hd1 (b := 1) (c := 0) (Or.inl ⟨rfl, rfl⟩)
        rw [nb_st_k (by decide), nb_st_k (by decide), nb_st_k (by decide)] at z1 z2
        have sk : ∀ k, k ≠ 69 → k ≠ 70 → k ≠ p + 5 → k ≠ p + 6 → k ≠ p + 7 → σ1 k = σ k := by
          intro k k1 k2 k3 k4 k5
          rw [s1 k k1 k2, nb_st_k k3, nb_st_k (by omega), nb_st_k (by omega)]
        have s69 : ∀ j, j ≠ 1 → σ1 69 j = σ 69 j := by
          intro j hj
          rw [s2 j hj, nb_st_k (by omega), nb_st_k (by omega), nb_st_k (by omega)]
        have tk : ∀ k, k ≠ 0 → k ≠ 24 → k ≠ 19 → k ≠ 20 → k ≠ 21 → τ1 k = τ k := by
          intro k k1 k2 k3 k4 k5
          rw [t1 k k1 k2, nb_st_k k3, nb_st_k k5, nb_st_k k4]
        have t0 : ∀ j, j ≠ 25 → τ1 0 j = τ 0 j := by
          intro j hj
          rw [t2 j hj, nb_st_k (by decide), nb_st_k (by decide), nb_st_k (by decide)]
        have x0 : σ1 (p + 5) = nb_st (nb_st (nb_st σ (p + 5 + 1) a m) (p + 5 + 2) a v) (p + 5) 0 (nI (a + 1)) (p + 5) := s1 _ (by omega) (by omega)
        have x1 : σ1 (p + 6) = nb_st (nb_st (nb_st σ (p + 5 + 1) a m) (p + 5 + 2) a v) (p + 5) 0 (nI (a + 1)) (p + 6) := s1 _ (by omega) (by omega)
        have x2 : σ1 (p + 7) = nb_st (nb_st (nb_st σ (p + 5 + 1) a m) (p + 5 + 2) a v) (p + 5) 0 (nI (a + 1)) (p + 7) := s1 _ (by omega) (by omega)
        have y0 : ∀ j, τ1 19 j = if j = 0 then nI (a + 1) else τ 19 j := by intro j; rw [t1 19 (by decide) (by decide)]; simp [nb_st]
        have y1 : ∀ j, τ1 20 j = if j = a then m else τ 20 j := by intro j; rw [t1 20 (by decide) (by decide)]; simp [nb_st]
        have y2 : ∀ j, τ1 21 j = if j = a then v else τ 21 j := by intro j; rw [t1 21 (by decide) (by decide)]; simp [nb_st]
        refine ⟨20, nI (a + 1), nb_st σ1 61 0 0, τ1, ?_, ?_, p, d, n, g, o, w, a + 1, b, e1, kk, hpd, ?_, ?_, ?_, hg, ?_, ?_, ?_, ?_, ?_, ?_, ?_, ?_⟩
        · simp only [fX7_sign, nb_let, pu_within]
          rw [pu_b1, if_pos hm, if_neg (by decide), pu_b1, if_pos hv, if_neg (by decide), hl, nb_g_t hpp, nb_b2_s (pu_addSign (N := 20) c1 ha), if_neg (by decide), n1, pu_b1]
          have hl2 : nb_ix (nb_st σ1 61 0 0 0 3) = p := by
            rw [nb_st_k (by decide), sk 0 (by decide) (by decide) (by omega) (by omega) (by omega)]
            exact hl
          rw [hl2, nb_g_t hpp, nb_st_k (by omega), x0, nb_st_s]
        · rw [pu_sign8 c2 ha hm hv, n2, pu_b1, y0 0, if_pos rfl]
        · rw [nb_st_k (by decide), sk 0 (by decide) (by decide) (by omega) (by omega) (by omega)]; exact l3
        · rw [nb_st_k (by decide), sk 0 (by decide) (by decide) (by omega) (by omega) (by omega)]; exact l4
        · refine pr_text_c ht ?_ ?_ (t0 0 (by decide)) (tk 1 (by decide) (by decide) (by decide) (by decide) (by decide))
          · rw [nb_st_k (by decide), sk 0 (by decide) (by decide) (by omega) (by omega) (by omega)]
          · rw [nb_st_k (by decide), sk 1 (by decide) (by decide) (by omega) (by omega) (by omega)]
        · refine pr_pt_c hp (fun k h1 h2 => ?_) (fun k h1 h2 => tk k (by omega) (by omega) (by omega) (by omega) (by omega))
          rw [nb_st_k (by omega), sk _ (by omega) (by omega) (by omega) (by omega) (by omega)]
        · have hmr : pr_rng m 0 359 := pr_rng_of (a := 0) (b := 359) (by decide) (by decide) hm.1 hm.2
          have hvr : pr_rng v 1 99 := pr_rng_of (a := 1) (b := 99) (by decide) (by decide) hv.1 hv.2
          have w0 : nb_st σ1 61 0 0 (p + 5) = nb_st (nb_st (nb_st σ (p + 5 + 1) a m) (p + 5 + 2) a v) (p + 5) 0 (nI (a + 1)) (p + 5) := by rw [nb_st_k (by omega), x0]
          have w1 : ∀ j, nb_st σ1 61 0 0 (p + 5 + 1) j = if j = a then m else σ (p + 5 + 1) j := by
            intro j
            rw [nb_st_k (by omega), show p + 5 + 1 = p + 6 from rfl, x1, nb_st_k (by omega), nb_st_k (by omega)]
            simp [nb_st]
          have w2 : ∀ j, nb_st σ1 61 0 0 (p + 5 + 2) j = if j = a then v else σ (p + 5 + 2) j := by
            intro j
            rw [nb_st_k (by omega), show p + 5 + 2 = p + 7 from rfl, x2, nb_st_k (by omega), nb_st_u, nb_st_k (by omega)]
            simp [upd]
          have w3 : nb_st σ1 61 0 0 (p + 5 + 3) = σ (p + 5 + 3) := by rw [nb_st_k (by omega), sk _ (by omega) (by omega) (by omega) (by omega) (by omega)]
          refine ⟨by omega, b4, by rw [w0, nb_st_s], by rw [y0]; simp, ?_, by rw [tk 22 (by decide) (by decide) (by decide) (by decide) (by decide)]; exact c4, fun k hk => ?_, fun k hk => ?_⟩
          · rw [w0, nb_st_n (Or.inr (by decide)), nb_st_k (by omega), nb_st_k (by omega)]; exact c3
          · rw [w1, w2, y1, y2]
            by_cases hka : k = a
            · subst hka
              simp
              exact ⟨hmr, hvr⟩
            · simp only [Nat.mul_zero, Nat.zero_add, hka, if_false]
              have := c5 k (by omega)
              simpa using this
          · rw [w3, tk 23 (by decide) (by decide) (by decide) (by decide) (by decide)]
            exact c6 k hk
        · exact pr_done_c hd2 (by rw [nb_st_k (by decide)]) (nb_st_k (by decide)) rfl rfl
        · simp at z1
          omega
        · simp at z2
          omega
        · refine pr_kept_c hk ?_ (fun k h1 h2 => ?_) (t0 24 (by decide)) (fun k h1 h2 j hj => ?_)
          · rw [nb_st_k (by decide)]; exact s69 4 (by decide)
          · rw [nb_st_k (by omega), sk k (by omega) (by omega) (by omega) (by omega) (by omega)]
          · by_cases k19 : k = 19
            · subst k19; rw [y0, if_neg (by simp at hj; omega)]
            · by_cases k20 : k = 20
              · subst k20; rw [y1, if_neg (by simp at hj; omega)]
              · by_cases k21 : k = 21
                · subst k21; rw [y2, if_neg (by simp at hj; omega)]
                · rw [tk k (by omega) (by omega) k19 k20 k21]
        · refine ok.2.2 _ _ _ _ ?_ ?_ ?_ ?_ (fun k h1 h2 => tk k (by omega) (by omega) (by omega) (by omega) (by omega)) hgm
          · rw [nb_st_k (by decide), sk 64 (by decide) (by decide) (by omega) (by omega) (by omega)]
          · rw [nb_st_k (by decide), sk 65 (by decide) (by decide) (by omega) (by omega) (by omega)]
          · rw [nb_st_k (by decide), sk 66 (by decide) (by decide) (by omega) (by omega) (by omega)]
          · rw [nb_st_k (by decide), sk 68 (by decide) (by decide) (by omega) (by omega) (by omega)]
        · exact ok.1 _ _ nb_st_s
      · have ha6 : a = 6 := by omega
        subst ha6
        refine ⟨20, -3, σ, τ, ?_, ?_, hR⟩
        · simp only [fX7_sign, nb_let, pu_within]
          rw [pu_b1, if_pos hm, if_neg (by decide), pu_b1, if_pos hv, if_neg (by decide), hl, nb_g_t hpp, nb_b2_s (pu_addSignF (N := 20) c1), if_pos rfl]
        · simp only [fX8_sign, nb_let, pu_isMinute]
          rw [pu_b1, if_pos hm, if_neg (by decide), hin, pu_b1, if_pos hv, if_neg (by decide), nb_g_t (by decide), i0, c2, if_pos (by decide)]
    · refine ⟨20, -1, σ, τ, ?_, ?_, hR⟩
      · simp only [fX7_sign, nb_let, pu_within]
        rw [pu_b1, if_pos hm, if_neg (by decide), pu_b1, if_neg hv, if_pos rfl]
      · simp only [fX8_sign, nb_let, pu_isMinute]
        rw [pu_b1, if_pos hm, if_neg (by decide), hin, pu_b1, if_neg hv, if_pos rfl]
  · refine ⟨20, -1, σ, τ, ?_, ?_, hR⟩
    · simp only [fX7_sign, nb_let, pu_within]
      rw [pu_b1, if_neg hm, if_pos rfl]
    · simp only [fX8_sign, nb_let, pu_isMinute]
      rw [pu_b1, if_neg hm, if_pos rfl]
end PS
