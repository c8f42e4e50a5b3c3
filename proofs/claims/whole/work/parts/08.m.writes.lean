section PX
variable {GV GM : nb_St → nb_St → Prop}
theorem pp_write (ok : pr_ok GV GM) {σ τ : nb_St} (h : pr_Rel GV GM σ τ) (c : Int32) (v : Int64) : ∃ (N : Nat) (r : Int32) (σo τo : nb_St), fX7_write N σ c v = some (r, σo) ∧ fX8_write N τ c v = some (r, τo) ∧ pr_Rel GV GM σo τo := by
  have hR := h
  obtain ⟨N, hN⟩ : ∃ N : Nat, 10 ≤ N := ⟨10, Nat.le_refl 10⟩
  obtain ⟨p, d, n, g, o, w, a, b, e, kk, hpd, l3, l4, ht, hg, hp, hto, hdo, hz1, hz2, hk, hgm, hgv⟩ := h
  have hpv : (p = 4 ∨ p = 20) := by rcases hpd with ⟨rfl, -⟩ | ⟨rfl, -⟩ <;> simp
  obtain ⟨x1, x2, x3, x4⟩ := ht
  by_cases hc : (1 : Int32) ≤ c ∧ c ≤ 8
  · obtain ⟨k, hk1, hk8, rfl⟩ := pr_rng_of (a := 1) (b := 8) (by decide) (by decide) hc.1 hc.2
    by_cases hf : n + k ≤ 400
    · obtain ⟨B, hB⟩ : ∃ B : Nat → Int32, B = fun j => (v >>> (((8 : Int32) * pu_cn k j).toInt64 &&& 63)).toInt32.toInt8.toInt32 := ⟨_, rfl⟩
      have hB8 : (fun j => ((v >>> (((8 : Int32) * pu_cn k j).toInt64 &&& 63)) &&& 255).toInt32) = fun j => B j &&& 255 := by
        funext j
        rw [hB]
        exact pu_byte _
      have hw7 := pu_write7 (N := N) (v := v) x2 ⟨hk1, hk8⟩ hN hf
      have hw8 := pu_write8 (N := N) (v := v) x3 ⟨hk1, hk8⟩ hN hf
      rw [← hB] at hw7
      rw [hB8] at hw8
      have sk : ∀ q, q ≠ 0 → q ≠ 1 → nb_st (nb_sa σ 1 (pu_wr (σ 1) n B k)) 0 1 (nI (n + k)) q = σ q := fun q q0 q1 => by rw [nb_st_k q0, nb_sa_n q1]
      have s0 : ∀ j, j ≠ 1 → nb_st (nb_sa σ 1 (pu_wr (σ 1) n B k)) 0 1 (nI (n + k)) 0 j = σ 0 j := fun j hj => by rw [nb_st_n (Or.inr hj), nb_sa_n (by decide)]
      have tk : ∀ q, q ≠ 0 → q ≠ 1 → nb_st (nb_sa τ 1 (pu_wr (τ 1) n (fun j => B j &&& 255) k)) 0 0 (nI (n + k)) q = τ q := fun q q0 q1 => by rw [nb_st_k q0, nb_sa_n q1]
      have t0 : ∀ j, j ≠ 0 → nb_st (nb_sa τ 1 (pu_wr (τ 1) n (fun j => B j &&& 255) k)) 0 0 (nI (n + k)) 0 j = τ 0 j := fun j hj => by rw [nb_st_n (Or.inr hj), nb_sa_n (by decide)]
      refine ⟨N, _, _, _, hw7, hw8, p, d, n + k, g, o, w, a, b, e, kk, hpd, ?_, ?_, ?_, hg, ?_, ?_, ?_, ?_, ?_, ?_, ?_, ?_⟩
      · rw [s0 3 (by decide)]; exact l3
      · rw [s0 4 (by decide)]; exact l4
      · refine ⟨hf, nb_st_s, nb_st_s, fun j hj => ?_⟩
        rw [nb_st_k (show (1 : Nat) ≠ 0 by decide), nb_sa_s, nb_st_k (show (1 : Nat) ≠ 0 by decide), nb_sa_s]
        unfold pu_wr
        by_cases hjn : n ≤ j ∧ j < n + k
        · rw [if_pos hjn, if_pos hjn]
          refine ⟨rfl, ?_⟩
          rw [hB]
          simp
        · rw [if_neg hjn, if_neg hjn]
          exact x4 j (by omega)
      · exact pr_pt_c hp (fun q h1 h2 => sk _ (by omega) (by omega)) (fun q h1 h2 => tk q (by omega) (by omega))
      · exact pr_told_d hto (fun q h1 h2 => sk q (by omega) (by omega)) (fun q h1 h2 => tk q (by omega) (by omega))
      · refine pr_done_c hdo ?_ (sk 70 (by decide) (by decide)) (t0 25 (by decide)) (tk 24 (by decide) (by decide))
        rw [sk 69 (by decide) (by decide)]
      · rw [tk 24 (by decide) (by decide)]; exact hz1
      · rw [tk 24 (by decide) (by decide)]; exact hz2
      · refine pr_kept_c hk ?_ (fun q h1 h2 => sk q (by omega) (by omega)) (t0 24 (by decide)) (fun q h1 h2 j hj => ?_)
        · rw [sk 69 (by decide) (by decide)]
        · rw [tk q (by omega) (by omega)]
      · exact ok.2.2 _ _ _ _ (sk 64 (by decide) (by decide)) (sk 65 (by decide) (by decide)) (sk 66 (by decide) (by decide)) (sk 68 (by decide) (by decide)) (fun q h1 h2 => tk q (by omega) (by omega)) hgm
      · exact ok.2.1 _ _ _ _ (sk 61 (by decide) (by decide)) (sk 63 (by decide) (by decide)) (fun q h1 h2 j hj => by rw [tk q (by omega) (by omega)]) hgv
    · have hle : ¬ nI n + nI k ≤ (400 : Int32) := by
        rw [nI_add]
        exact nI_ge (a := 400) (by omega) (by omega)
      refine ⟨N, -3, σ, τ, ?_, ?_, hR⟩
      · simp only [fX7_write, nb_let, pu_within]
        rw [pu_b1, if_pos hc, if_neg (by decide), x2, if_neg hle]
      · simp only [fX8_write, nb_let]
        rw [pu_inL (b := 1) (c := 8) (by decide) (by decide), pu_b1, if_pos hc, if_neg (by decide), x3, if_neg hle]
  · refine ⟨N, -1, σ, τ, ?_, ?_, hR⟩
    · simp only [fX7_write, nb_let, pu_within]
      rw [pu_b1, if_neg hc, if_pos rfl]
    · simp only [fX8_write, nb_let]
      rw [pu_inL (b := 1) (c := 8) (by decide) (by decide), pu_b1, if_neg hc, if_pos rfl]
end PX
