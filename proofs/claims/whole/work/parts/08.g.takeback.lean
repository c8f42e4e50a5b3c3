theorem pu_pred {a : Nat} (ha : 0 < a) : nI a - 1 = nI (a - 1) := by
  obtain ⟨k, rfl⟩ : ∃ k, a = k + 1 := ⟨a - 1, by omega⟩
  exact nI_pred k
theorem pu_max0 {a : Nat} (h : a < 2 ^ 31) : nb_max (nI a) 0 = nI a := by
  unfold nb_max
  rw [if_neg (nI_pos h)]
section PT
variable {GV GM : nb_St → nb_St → Prop}
theorem pp_takeBack (ok : pr_ok GV GM) {σ τ : nb_St} (h : pr_Rel GV GM σ τ) : ∃ (N : Nat) (r : Int32) (σo τo : nb_St), fX7_takeBack N σ = some (r, σo) ∧ fX8_takeBack N τ = some (r, τo) ∧ pr_Rel GV GM σo τo := by
  have hR := h
  obtain ⟨p, d, n, g, o, w, a, b, e, kk, hpd, l3, l4, ht, hg, hp, hto, hdo, hz1, hz2, hk, hgm, hgv⟩ := h
  have hl := pr_laid hpd l3
  have hpp := pr_pd_p hpd
  have hpv : (p = 4 ∨ p = 20) := by rcases hpd with ⟨rfl, -⟩ | ⟨rfl, -⟩ <;> simp
  have i0 : nb_ix (0 : Int32) = 0 := rfl
  obtain ⟨d1, d2, d3, d4⟩ := hdo
  by_cases he : e = 0
  · subst he
    refine ⟨20, -2, σ, τ, ?_, ?_, hR⟩
    · simp only [fX7_takeBack, nb_let]
      rw [d2, if_pos (by decide)]
    · simp only [fX8_takeBack, nb_let]
      rw [d3, if_pos (by decide)]
  · obtain ⟨f, rfl⟩ : ∃ f, e = f + 1 := ⟨e - 1, by omega⟩
    have hne : ¬ nI (f + 1) = 0 := nI_ne0 (by omega) (by omega)
    have hif : nb_ix (nI f) = f := pu_ix (by omega)
    have hgf : nb_in (nI f) 8 = true := pu_in (by omega) (by decide)
    have hzf : pr_z (τ 24) (f + 1) = pr_z (τ 24) f + (if τ 24 f = 0 then 1 else 0) := rfl
    have hzl := pr_z_le (f := τ 24) f
    obtain ⟨a6, b4, c1, c2, c3, c4, c5, c6⟩ := hto
    have hbit := d4 f (by omega)
    have hsp : σ 69 1 - 1 = nI f := by rw [d2]; exact nI_pred f
    have htp : τ 0 25 - 1 = nI f := by rw [d3]; exact nI_pred f
    rcases hbit with ⟨q1, q2⟩ | ⟨q1, q2⟩
    · rw [hzf, if_pos q2] at hz1 hz2
      have ha : 0 < a := by omega
      have e3 : nb_st σ 69 1 (nI f) (p + 5) 0 = nI a := by rw [nb_st_k (by omega)]; exact c1
      refine ⟨20, nI f, nb_st (nb_st (nb_st σ 69 1 (nI f)) (p + 5) 0 (nI (a - 1))) 61 0 0, nb_st (nb_st τ 0 25 (nI f)) 19 0 (nI (a - 1)), ?_, ?_, p, d, n, g, o, w, a - 1, b, f, kk, hpd, ?_, ?_, ?_, hg, ?_, ?_, ?_, ?_, ?_, ?_, ?_, ?_⟩
      · have hu : fX3_undo 20 σ (p + 5) = some (nb_st (nb_st σ 69 1 (nI f)) (p + 5) 0 (nI (a - 1))) := by
          simp only [fX3_undo, nb_let]
          rw [hsp, d2, if_neg hne, nb_st_s, nb_g_t hgf, hif, nb_st_k (by decide), q1, if_neg (by decide), e3, pu_pred ha, pu_max0 (by omega)]
        simp only [fX7_takeBack, nb_let]
        rw [d2, if_neg hne, hl, nb_g_t hpp, hu, pu_b1, nb_st_k (by decide), nb_st_k (by omega), nb_st_s]
      · simp only [fX8_takeBack, nb_let]
        rw [htp, d3, if_neg hne, nb_st_s, nb_g_t hgf, hif, nb_st_k (by decide), q2, if_pos rfl, nb_g_t (by decide), nb_g_t (by decide), i0, nb_st_k (by decide), nb_st_s, show nb_st τ 0 25 (nI f) 19 0 = nI a from (congrFun (nb_st_k (by decide)) 0).trans c2, pu_pred ha]
      · rw [nb_st_k (by decide), nb_st_k (by omega), nb_st_k (by decide)]; exact l3
      · rw [nb_st_k (by decide), nb_st_k (by omega), nb_st_k (by decide)]; exact l4
      · refine pr_text_c ht ?_ ?_ ?_ ?_
        · rw [nb_st_k (by decide), nb_st_k (by omega), nb_st_k (by decide)]
        · rw [nb_st_k (by decide), nb_st_k (by omega), nb_st_k (by decide)]
        · rw [nb_st_k (by decide), nb_st_n (by decide)]
        · rw [nb_st_k (by decide), nb_st_k (by decide)]
      · refine pr_pt_c hp (fun k h1 h2 => ?_) (fun k h1 h2 => ?_)
        · rw [nb_st_k (by omega), nb_st_k (by omega), nb_st_k (by omega)]
        · rw [nb_st_k (by omega), nb_st_k (by omega)]
      · refine ⟨by omega, b4, ?_, nb_st_s, ?_, ?_, fun k hk => ?_, fun k hk => ?_⟩
        · rw [nb_st_k (by omega), nb_st_s]
        · rw [nb_st_k (by omega), nb_st_n (Or.inr (by decide)), nb_st_k (by omega)]; exact c3
        · rw [nb_st_k (by decide), nb_st_k (by decide)]; exact c4
        · simp only [nb_st_k (show p + 5 + 1 ≠ 61 by omega), nb_st_k (show p + 5 + 2 ≠ 61 by omega), nb_st_k (show p + 5 + 1 ≠ p + 5 by omega), nb_st_k (show p + 5 + 2 ≠ p + 5 by omega), nb_st_k (show p + 5 + 1 ≠ 69 by omega), nb_st_k (show p + 5 + 2 ≠ 69 by omega), nb_st_k (show (20 : Nat) ≠ 19 by decide), nb_st_k (show (21 : Nat) ≠ 19 by decide), nb_st_k (show (20 : Nat) ≠ 0 by decide), nb_st_k (show (21 : Nat) ≠ 0 by decide)]
          exact c5 k (by omega)
        · simp only [nb_st_k (show p + 5 + 3 ≠ 61 by omega), nb_st_k (show p + 5 + 3 ≠ p + 5 by omega), nb_st_k (show p + 5 + 3 ≠ 69 by omega), nb_st_k (show (23 : Nat) ≠ 19 by decide), nb_st_k (show (23 : Nat) ≠ 0 by decide)]
          exact c6 k hk
      · refine ⟨by omega, ?_, ?_, fun j hj => ?_⟩
        · rw [nb_st_k (by decide), nb_st_k (by omega), nb_st_s]
        · rw [nb_st_k (by decide), nb_st_s]
        · simp only [nb_st_k (show (70 : Nat) ≠ 61 by decide), nb_st_k (show (70 : Nat) ≠ p + 5 by omega), nb_st_k (show (70 : Nat) ≠ 69 by decide), nb_st_k (show (24 : Nat) ≠ 19 by decide), nb_st_k (show (24 : Nat) ≠ 0 by decide)]
          exact d4 j (by omega)
      · rw [nb_st_k (by decide), nb_st_k (by decide)]; omega
      · rw [nb_st_k (by decide), nb_st_k (by decide)]; omega
      · refine pr_kept_c hk ?_ (fun k h1 h2 => ?_) ?_ (fun k h1 h2 j hj => ?_)
        · rw [nb_st_k (by decide), nb_st_k (by omega), nb_st_n (Or.inr (by decide))]
        · rw [nb_st_k (by omega), nb_st_k (by omega), nb_st_k (by omega)]
        · rw [nb_st_k (by decide), nb_st_n (by decide)]
        · by_cases k19 : k = 19
          · subst k19
            rw [nb_st_n (Or.inr (by simp at hj; omega)), nb_st_k (by decide)]
          · rw [nb_st_k k19, nb_st_k (by omega)]
      · refine ok.2.2 _ _ _ _ ?_ ?_ ?_ ?_ (fun k h1 h2 => ?_) hgm
        · rw [nb_st_k (by decide), nb_st_k (by omega), nb_st_k (by decide)]
        · rw [nb_st_k (by decide), nb_st_k (by omega), nb_st_k (by decide)]
        · rw [nb_st_k (by decide), nb_st_k (by omega), nb_st_k (by decide)]
        · rw [nb_st_k (by decide), nb_st_k (by omega), nb_st_k (by decide)]
        · rw [nb_st_k (by omega), nb_st_k (by omega)]
      · exact ok.1 _ _ nb_st_s
    · have q3 : ¬ τ 24 f = 0 := by rw [q2]; decide
      rw [hzf, if_neg q3] at hz1 hz2
      have hb : 0 < b := by omega
      have e3 : nb_st σ 69 1 (nI f) (p + 5) 3 = nI b := by rw [nb_st_k (by omega)]; exact c3
      refine ⟨20, nI f, nb_st (nb_st (nb_st σ 69 1 (nI f)) (p + 5) 3 (nI (b - 1))) 61 0 0, nb_st (nb_st τ 0 25 (nI f)) 22 0 (nI (b - 1)), ?_, ?_, p, d, n, g, o, w, a, b - 1, f, kk, hpd, ?_, ?_, ?_, hg, ?_, ?_, ?_, ?_, ?_, ?_, ?_, ?_⟩
      · have hu : fX3_undo 20 σ (p + 5) = some (nb_st (nb_st σ 69 1 (nI f)) (p + 5) 3 (nI (b - 1))) := by
          simp only [fX3_undo, nb_let]
          rw [hsp, d2, if_neg hne, nb_st_s, nb_g_t hgf, hif, nb_st_k (by decide), q1, if_pos rfl, e3, pu_pred hb, pu_max0 (by omega)]
        simp only [fX7_takeBack, nb_let]
        rw [d2, if_neg hne, hl, nb_g_t hpp, hu, pu_b1, nb_st_k (by decide), nb_st_k (by omega), nb_st_s]
      · simp only [fX8_takeBack, nb_let]
        rw [htp, d3, if_neg hne, nb_st_s, nb_g_t hgf, hif, nb_st_k (by decide), if_neg q3, nb_g_t (by decide), nb_g_t (by decide), i0, nb_st_k (by decide), nb_st_s, show nb_st τ 0 25 (nI f) 22 0 = nI b from (congrFun (nb_st_k (by decide)) 0).trans c4, pu_pred hb]
      · rw [nb_st_k (by decide), nb_st_k (by omega), nb_st_k (by decide)]; exact l3
      · rw [nb_st_k (by decide), nb_st_k (by omega), nb_st_k (by decide)]; exact l4
      · refine pr_text_c ht ?_ ?_ ?_ ?_
        · rw [nb_st_k (by decide), nb_st_k (by omega), nb_st_k (by decide)]
        · rw [nb_st_k (by decide), nb_st_k (by omega), nb_st_k (by decide)]
        · rw [nb_st_k (by decide), nb_st_n (by decide)]
        · rw [nb_st_k (by decide), nb_st_k (by decide)]
      · refine pr_pt_c hp (fun k h1 h2 => ?_) (fun k h1 h2 => ?_)
        · rw [nb_st_k (by omega), nb_st_k (by omega), nb_st_k (by omega)]
        · rw [nb_st_k (by omega), nb_st_k (by omega)]
      · refine ⟨a6, by omega, ?_, ?_, ?_, nb_st_s, fun k hk => ?_, fun k hk => ?_⟩
        · rw [nb_st_k (by omega), nb_st_n (Or.inr (by decide)), nb_st_k (by omega)]; exact c1
        · rw [nb_st_k (by decide), nb_st_k (by decide)]; exact c2
        · rw [nb_st_k (by omega), nb_st_s]
        · simp only [nb_st_k (show p + 5 + 1 ≠ 61 by omega), nb_st_k (show p + 5 + 2 ≠ 61 by omega), nb_st_k (show p + 5 + 1 ≠ p + 5 by omega), nb_st_k (show p + 5 + 2 ≠ p + 5 by omega), nb_st_k (show p + 5 + 1 ≠ 69 by omega), nb_st_k (show p + 5 + 2 ≠ 69 by omega), nb_st_k (show (20 : Nat) ≠ 22 by decide), nb_st_k (show (21 : Nat) ≠ 22 by decide), nb_st_k (show (20 : Nat) ≠ 0 by decide), nb_st_k (show (21 : Nat) ≠ 0 by decide)]
          exact c5 k hk
        · simp only [nb_st_k (show p + 5 + 3 ≠ 61 by omega), nb_st_k (show p + 5 + 3 ≠ p + 5 by omega), nb_st_k (show p + 5 + 3 ≠ 69 by omega), nb_st_k (show (23 : Nat) ≠ 22 by decide), nb_st_k (show (23 : Nat) ≠ 0 by decide)]
          exact c6 k (by omega)
      · refine ⟨by omega, ?_, ?_, fun j hj => ?_⟩
        · rw [nb_st_k (by decide), nb_st_k (by omega), nb_st_s]
        · rw [nb_st_k (by decide), nb_st_s]
        · simp only [nb_st_k (show (70 : Nat) ≠ 61 by decide), nb_st_k (show (70 : Nat) ≠ p + 5 by omega), nb_st_k (show (70 : Nat) ≠ 69 by decide), nb_st_k (show (24 : Nat) ≠ 22 by decide), nb_st_k (show (24 : Nat) ≠ 0 by decide)]
          exact d4 j (by omega)
      · rw [nb_st_k (by decide), nb_st_k (by decide)]; omega
      · rw [nb_st_k (by decide), nb_st_k (by decide)]; omega
      · refine pr_kept_c hk ?_ (fun k h1 h2 => ?_) ?_ (fun k h1 h2 j hj => ?_)
        · rw [nb_st_k (by decide), nb_st_k (by omega), nb_st_n (Or.inr (by decide))]
        · rw [nb_st_k (by omega), nb_st_k (by omega), nb_st_k (by omega)]
        · rw [nb_st_k (by decide), nb_st_n (by decide)]
        · by_cases k22 : k = 22
          · subst k22
            rw [nb_st_n (Or.inr (by simp at hj; omega)), nb_st_k (by decide)]
          · rw [nb_st_k k22, nb_st_k (by omega)]
      · refine ok.2.2 _ _ _ _ ?_ ?_ ?_ ?_ (fun k h1 h2 => ?_) hgm
        · rw [nb_st_k (by decide), nb_st_k (by omega), nb_st_k (by decide)]
        · rw [nb_st_k (by decide), nb_st_k (by omega), nb_st_k (by decide)]
        · rw [nb_st_k (by decide), nb_st_k (by omega), nb_st_k (by decide)]
        · rw [nb_st_k (by decide), nb_st_k (by omega), nb_st_k (by decide)]
        · rw [nb_st_k (by omega), nb_st_k (by omega)]
      · exact ok.1 _ _ nb_st_s
end PT
