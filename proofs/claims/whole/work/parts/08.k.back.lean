section PK
variable {GV GM : nb_St → nb_St → Prop}
theorem pp_keep (ok : pr_ok GV GM) {σ τ : nb_St} (h : pr_Rel GV GM σ τ) : ∃ (N : Nat) (r : Int32) (σo τo : nb_St), fX7_keep N σ = some (r, σo) ∧ fX8_keep N τ = some (r, τo) ∧ pr_Rel GV GM σo τo := by
  have hR := h
  obtain ⟨p, d, n, g, o, w, a, b, e, kk, hpd, l3, l4, ht, hg, hp, hto, hdo, hz1, hz2, hk, hgm, hgv⟩ := h
  have hl := pr_laid hpd l3
  have hpp := pr_pd_p hpd
  have hpv : (p = 4 ∨ p = 20) := by rcases hpd with ⟨rfl, -⟩ | ⟨rfl, -⟩ <;> simp
  obtain ⟨k2, k3, k4, k5, k6⟩ := hk
  by_cases hkk : kk < 2
  · obtain ⟨q, hq, hqv⟩ : ∃ q, fX3_placeOf 20 σ (nI kk) = some q ∧ ((kk = 0 ∧ q = 71) ∨ (kk = 1 ∧ q = 75)) := by
      by_cases h0 : kk = 0
      · subst h0; exact ⟨71, rfl, Or.inl ⟨rfl, rfl⟩⟩
      · have h1 : kk = 1 := by omega
        subst h1; exact ⟨75, rfl, Or.inr ⟨rfl, rfl⟩⟩
    have htl : xc_tld q = true := by rcases hqv with ⟨-, rfl⟩ | ⟨-, rfl⟩ <;> rfl
    have hne : ¬ nI kk = (2 : Int32) := fun e9 => by
      have := (nI_eq (a := kk) (b := 2) (by omega) (by decide)).mp e9
      omega
    have s4 : pu_cf σ q (p + 5) 69 4 = nI kk := by rw [pu_cf_n (by omega)]; exact k3
    have hto2 : pr_told σ (nb_st τ 0 24 (nI (kk + 1))) (p + 5) 0 a b := pr_told_c hto rfl rfl rfl rfl (fun k h1 _ => nb_st_k (by omega))
    refine ⟨20, nI (kk + 1), nb_st (pu_cf σ q (p + 5)) 69 4 (nI (kk + 1)), pu_ct (nb_st τ 0 24 (nI (kk + 1))) 0 (kk + 2), ?_, ?_, p, d, n, g, o, w, a, b, e, kk + 1, hpd, ?_, ?_, ?_, hg, ?_, ?_, ?_, ?_, ?_, ?_, ?_, ?_⟩
    · have hs : fX3_store 20 σ (p + 5) = some (1, nb_st (pu_cf σ q (p + 5)) 69 4 (nI (kk + 1))) := by
        simp only [fX3_store, nb_let]
        rw [k3, if_pos (show nI kk < (2 : Int32) from nI_lt hkk (by decide)), hq, pu_b1, nb_g_t htl, pu_copyFrom (by omega), pu_b1, s4, nI_1]
      simp only [fX7_keep, nb_let]
      rw [hl, nb_g_t hpp, nb_b2_s hs, if_neg (by decide), nb_st_s]
    · simp only [fX8_keep, nb_let]
      rw [k4, if_neg hne, nI_1, nb_st_s, show (1 : Int32) + nI (kk + 1) = nI (kk + 2) from by
        show nI 1 + nI (kk + 1) = _
        rw [nI_add]; congr 1; omega]
      have hc := pu_copyTold (N := 20) (by decide) (τ := nb_st τ 0 24 (nI (kk + 1))) (s := 0) (t := kk + 2) (by decide) (by omega) (by omega)
      rw [show (0 : Int32) = nI 0 from rfl, hc, pu_b1, pu_ct_n (by omega), nb_st_s]
    · rw [nb_st_k (by decide), pu_cf_n (by omega)]; exact l3
    · rw [nb_st_k (by decide), pu_cf_n (by omega)]; exact l4
    · refine pr_text_c ht ?_ ?_ ?_ ?_
      · rw [nb_st_k (by decide), pu_cf_n (by omega)]
      · rw [nb_st_k (by decide), pu_cf_n (by omega)]
      · rw [pu_ct_n (by omega), nb_st_n (by decide)]
      · rw [pu_ct_n (by omega), nb_st_k (by decide)]
    · refine pr_pt_c hp (fun k h1 h2 => ?_) (fun k h1 h2 => ?_)
      · rw [nb_st_k (by omega), pu_cf_n (by omega)]
      · rw [pu_ct_n (by omega), nb_st_k (by omega)]
    · exact pr_told_d (pl_copy_n hto2 (by omega) (by omega)) (fun k h1 h2 => nb_st_k (by omega)) (fun _ _ _ => rfl)
    · refine pr_done_c hdo ?_ ?_ ?_ ?_
      · rw [nb_st_n (by decide), pu_cf_n (by omega)]
      · rw [nb_st_k (by decide), pu_cf_n (by omega)]
      · rw [pu_ct_n (by omega), nb_st_n (by decide)]
      · rw [pu_ct_n (by omega), nb_st_k (by decide)]
    · rw [pu_ct_n (by omega), nb_st_k (by decide)]; exact hz1
    · rw [pu_ct_n (by omega), nb_st_k (by decide)]; exact hz2
    · refine ⟨by omega, nb_st_s, ?_, fun hn => ?_, fun hn => ?_⟩
      · rw [pu_ct_n (by omega), nb_st_s]
      · rcases hqv with ⟨rfl, rfl⟩ | ⟨rfl, rfl⟩
        · exact ⟨a, b, pr_told_d (pl_copy hto2 (by omega)) (fun k h1 h2 => nb_st_k (by omega)) (fun _ _ _ => rfl)⟩
        · obtain ⟨a1, b1, h71⟩ := k5 (by omega)
          have h71' : pr_told σ (nb_st τ 0 24 (nI (1 + 1))) 71 2 a1 b1 := pr_told_c h71 rfl rfl rfl rfl (fun k h1 _ => nb_st_k (by omega))
          exact ⟨a1, b1, pr_told_d (pl_copy_n h71' (by omega) (by omega)) (fun k h1 h2 => nb_st_k (by omega)) (fun _ _ _ => rfl)⟩
      · rcases hqv with ⟨rfl, rfl⟩ | ⟨rfl, rfl⟩
        · omega
        · exact ⟨a, b, pr_told_d (pl_copy hto2 (by omega)) (fun k h1 h2 => nb_st_k (by omega)) (fun _ _ _ => rfl)⟩
    · refine ok.2.2 _ _ _ _ ?_ ?_ ?_ ?_ (fun k h1 h2 => ?_) hgm
      · rw [nb_st_k (by decide), pu_cf_n (by omega)]
      · rw [nb_st_k (by decide), pu_cf_n (by omega)]
      · rw [nb_st_k (by decide), pu_cf_n (by omega)]
      · rw [nb_st_k (by decide), pu_cf_n (by omega)]
      · rw [pu_ct_n (by omega), nb_st_k (by omega)]
    · refine ok.2.1 _ _ _ _ ?_ ?_ (fun k h1 h2 j hj => ?_) hgv
      · rw [nb_st_k (by decide), pu_cf_n (by omega)]
      · rw [nb_st_k (by decide), pu_cf_n (by omega)]
      · by_cases a19 : k = 19
        · subst a19
          simp at hj
          rw [pu_ct19, if_neg (by omega), nb_st_k (by decide)]
        · by_cases a22 : k = 22
          · subst a22
            simp at hj
            rw [pu_ct22, if_neg (by omega), nb_st_k (by decide)]
          · by_cases a20 : k = 20
            · subst a20
              simp at hj
              rw [pu_ct20, pu_cp_out (by omega), nb_st_k (by decide)]
            · by_cases a21 : k = 21
              · subst a21
                simp at hj
                rw [pu_ct21, pu_cp_out (by omega), nb_st_k (by decide)]
              · by_cases a23 : k = 23
                · subst a23
                  simp at hj
                  rw [pu_ct23, pu_cp_out (by omega), nb_st_k (by decide)]
                · rw [pu_ct_n (by omega), nb_st_k (by omega)]
  · have h2 : kk = 2 := by omega
    subst h2
    refine ⟨20, -3, σ, τ, ?_, ?_, hR⟩
    · have hs : fX3_store 20 σ (p + 5) = some (0, σ) := by
        simp only [fX3_store, nb_let]
        rw [k3, if_neg (by decide)]
      simp only [fX7_keep, nb_let]
      rw [hl, nb_g_t hpp, nb_b2_s hs, if_pos rfl]
    · simp only [fX8_keep, nb_let]
      rw [k4, if_pos (by decide)]
theorem pp_back (ok : pr_ok GV GM) {σ τ : nb_St} (h : pr_Rel GV GM σ τ) : ∃ (N : Nat) (r : Int32) (σo τo : nb_St), fX7_back N σ = some (r, σo) ∧ fX8_back N τ = some (r, τo) ∧ pr_Rel GV GM σo τo := by
  have hR := h
  obtain ⟨p, d, n, g, o, w, a, b, e, kk, hpd, l3, l4, ht, hg, hp, hto, hdo, hz1, hz2, hk, hgm, hgv⟩ := h
  have hl := pr_laid hpd l3
  have hpp := pr_pd_p hpd
  have hpv : (p = 4 ∨ p = 20) := by rcases hpd with ⟨rfl, -⟩ | ⟨rfl, -⟩ <;> simp
  obtain ⟨k2, k3, k4, k5, k6⟩ := hk
  by_cases hk0 : kk = 0
  · subst hk0
    refine ⟨20, -2, σ, τ, ?_, ?_, hR⟩
    · have hs : fX3_restore 20 σ (p + 5) = some (0, σ) := by
        simp only [fX3_restore, nb_let]
        rw [k3, if_pos (by decide)]
      simp only [fX7_back, nb_let]
      rw [hl, nb_g_t hpp, nb_b2_s hs, if_pos rfl]
    · simp only [fX8_back, nb_let]
      rw [k4, if_pos (by decide)]
  · obtain ⟨f, rfl⟩ : ∃ f, kk = f + 1 := ⟨kk - 1, by omega⟩
    have hne : ¬ nI (f + 1) = 0 := nI_ne0 (by omega) (by omega)
    obtain ⟨q, hqv⟩ : ∃ q, (f = 0 ∧ q = 71) ∨ (f = 1 ∧ q = 75) := by
      by_cases h0 : f = 0
      · exact ⟨71, Or.inl ⟨h0, rfl⟩⟩
      · exact ⟨75, Or.inr ⟨by omega, rfl⟩⟩
    have hq : ∀ ρ : nb_St, fX3_placeOf 20 ρ (nI f) = some q := by
      intro ρ
      rcases hqv with ⟨rfl, rfl⟩ | ⟨rfl, rfl⟩ <;> rfl
    have htl : xc_tld q = true := by rcases hqv with ⟨-, rfl⟩ | ⟨-, rfl⟩ <;> rfl
    obtain ⟨a1, b1, hto1⟩ : ∃ a1 b1, pr_told σ τ q (f + 2) a1 b1 := by
      rcases hqv with ⟨rfl, rfl⟩ | ⟨rfl, rfl⟩
      · exact k5 (by omega)
      · exact k6 (by omega)
    have hsp : σ 69 4 - 1 = nI f := by rw [k3]; exact nI_pred f
    obtain ⟨σ2, hσ2⟩ : ∃ z, z = nb_st σ 69 4 (nI f) := ⟨_, rfl⟩
    have hto2 : pr_told σ2 τ q (f + 2) a1 b1 := pr_told_d hto1 (fun k h1 h2 => by rw [hσ2, nb_st_k (by omega)]) (fun _ _ _ => rfl)
    have hr : fX3_restore 20 σ (p + 5) = some (1, nb_st (pu_cf σ2 (p + 5) q) 69 1 0) := by
      simp only [fX3_restore, nb_let]
      rw [hsp, k3, if_neg hne, nb_st_s, hq, pu_b1, nb_g_t htl, ← hσ2, pu_copyFrom (by omega), pu_b1]
    have t24 : pu_ct τ (f + 2) 0 0 24 = nI (f + 1) := by rw [pu_ct_n (by omega)]; exact k4
    have hσk : ∀ k, k ≠ 69 → (k < p + 5 ∨ p + 8 < k) → k ≠ 61 → nb_st (nb_st (pu_cf σ2 (p + 5) q) 69 1 0) 61 0 0 k = σ k := by
      intro k h1 h2 h3
      rw [nb_st_k h3, nb_st_k h1, pu_cf_n (by omega), hσ2, nb_st_k h1]
    have hτk : ∀ k, k ≠ 0 → (k < 19 ∨ 23 < k) → nb_st (nb_st (pu_ct τ (f + 2) 0) 0 24 (nI f)) 0 25 0 k = τ k := by
      intro k h1 h2
      rw [nb_st_k h1, nb_st_k h1, pu_ct_n (by omega)]
    refine ⟨20, nI f, nb_st (nb_st (pu_cf σ2 (p + 5) q) 69 1 0) 61 0 0, nb_st (nb_st (pu_ct τ (f + 2) 0) 0 24 (nI f)) 0 25 0, ?_, ?_, p, d, n, g, o, w, a1, b1, 0, f, hpd, ?_, ?_, ?_, hg, ?_, ?_, ?_, ?_, ?_, ?_, ?_, ?_⟩
    · simp only [fX7_back, nb_let]
      rw [hl, nb_g_t hpp, nb_b2_s hr, if_neg (by decide), nb_st_k (by decide), nb_st_n (by decide), pu_cf_n (by omega), hσ2, nb_st_s]
    · simp only [fX8_back, nb_let]
      rw [k4, if_neg hne, show (1 : Int32) + nI (f + 1) = nI (f + 2) from by
        show nI 1 + nI (f + 1) = _
        rw [nI_add]; congr 1; omega]
      have hc := pu_copyTold (N := 20) (by decide) (τ := τ) (s := f + 2) (t := 0) (by omega) (by decide) (by omega)
      rw [show fX8_copyTold 20 τ (nI (f + 2)) (0 : Int32) = some (pu_ct τ (f + 2) 0) from hc, pu_b1, t24, show nI (f + 1) - 1 = nI f from nI_pred f, nb_st_n (by decide), nb_st_s]
    · rw [hσk 0 (by decide) (by omega) (by decide)]; exact l3
    · rw [hσk 0 (by decide) (by omega) (by decide)]; exact l4
    · refine pr_text_c ht ?_ (hσk 1 (by decide) (by omega) (by decide)) ?_ (hτk 1 (by decide) (by omega))
      · rw [hσk 0 (by decide) (by omega) (by decide)]
      · rw [nb_st_n (by decide), nb_st_n (by decide), pu_ct_n (by omega)]
    · exact pr_pt_c hp (fun k h1 h2 => hσk _ (by omega) (by omega) (by omega)) (fun k h1 h2 => hτk k (by omega) (by omega))
    · refine pr_told_d (pl_copy hto2 (t := 0) (by omega)) (fun k h1 h2 => ?_) (fun k h1 h2 => ?_)
      · rw [nb_st_k (by omega), nb_st_k (by omega)]
      · rw [nb_st_k (by omega), nb_st_k (by omega)]
    · refine ⟨by omega, ?_, nb_st_s, fun j hj => absurd hj (by omega)⟩
      rw [nb_st_k (by decide), nb_st_s]
      rfl
    · exact Nat.zero_le _
    · exact Nat.zero_le _
    · refine ⟨by omega, ?_, ?_, fun hn => ?_, fun hn => ?_⟩
      · rw [nb_st_k (by decide), nb_st_n (by decide), pu_cf_n (by omega), hσ2, nb_st_s]
      · rw [nb_st_n (by decide), nb_st_s]
      · obtain ⟨a2, b2, h71⟩ := k5 (by omega)
        have hf1 : f = 1 := by omega
        subst hf1
        refine ⟨a2, b2, pr_told_d (pl_copy_n (q := p + 5) (r := q) (s := 1 + 2) (t := 0) (pr_told_d (σ' := σ2) h71 (fun k h1 h2 => by rw [hσ2, nb_st_k (by omega)]) (fun _ _ _ => rfl)) (by omega) (by omega)) (fun k h1 h2 => ?_) (fun k h1 h2 => ?_)⟩
        · rw [nb_st_k (by omega), nb_st_k (by omega)]
        · rw [nb_st_k (by omega), nb_st_k (by omega)]
      · omega
    · exact ok.2.2 _ _ _ _ (hσk 64 (by decide) (by omega) (by decide)) (hσk 65 (by decide) (by omega) (by decide)) (hσk 66 (by decide) (by omega) (by decide)) (hσk 68 (by decide) (by omega) (by decide)) (fun k h1 h2 => hτk k (by omega) (by omega)) hgm
    · exact ok.1 _ _ nb_st_s
end PK
