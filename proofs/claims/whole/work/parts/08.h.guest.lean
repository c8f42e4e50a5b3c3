theorem pu_01 {c : Prop} [Decidable c] : nb_01 (if c then 1 else 0) = true := by split <;> rfl
section PG
variable {GV GM : nb_St → nb_St → Prop}
theorem pu_isGuest7 {N : Nat} {σ : nb_St} {p d g : Nat} {i : Int32} (hpd : pr_pd p d) (l3 : σ 0 3 = nI p) (hg : σ p 0 = nI g) : fX7_isGuest N σ i = some (if 0 ≤ i ∧ i ≤ nI g - 1 then 1 else 0) := by
  have hl := pr_laid hpd l3
  simp only [fX7_isGuest, nb_let]
  rw [hl, nb_g_t (pr_pd_p hpd), hg, pu_within, pu_b1, nb_g_t pu_01]
theorem pu_isGuest8 {N : Nat} {τ : nb_St} {g : Nat} {i : Int32} (hg : τ 2 0 = nI g) : fX8_isGuest N τ i = some (if 0 ≤ i ∧ i ≤ nI g - 1 then 1 else 0) := by
  have i0 : nb_ix (0 : Int32) = 0 := rfl
  simp only [fX8_isGuest, nb_let]
  rw [nb_g_t (by decide), i0, hg, pu_inL (b := 0) (c := nI g - 1) (by decide) rfl, pu_b1, nb_g_t pu_01]
theorem pu_guest_of {g : Nat} {i : Int32} (h1 : 1 ≤ g) (hg : g < 2 ^ 31) (h : 0 ≤ i ∧ i ≤ nI g - 1) : ∃ k, k < g ∧ i = nI k := by
  rw [pu_pred (by omega)] at h
  obtain ⟨k, hk, rfl⟩ := nI_of2 (M := nI (g - 1)) (n := g - 1) (nI_toInt (by omega)) (Int32.not_lt.mpr h.1) h.2
  exact ⟨k, by omega, rfl⟩
theorem pp_guest {σ τ : nb_St} (h : pr_Rel GV GM σ τ) (i c : Int32) : ∃ (N : Nat) (r : Int32), fX7_guest N σ i c = some r ∧ fX8_guest N τ i c = some r := by
  obtain ⟨p, d, n, g, o, w, a, b, e, kk, hpd, l3, l4, ht, hg, hp, hto, hdo, hz1, hz2, hk, hgm, hgv⟩ := h
  have hl := pr_laid hpd l3
  have hpp := pr_pd_p hpd
  obtain ⟨g8, o3, w6, p1, p2, p3, -⟩ := hp
  have i0 : nb_ix (0 : Int32) = 0 := rfl
  refine ⟨20, ?_⟩
  have hin : fX8_in 20 τ c.toInt64 (0 : Int64) (3 : Int64) = some (if 0 ≤ c ∧ c ≤ 3 then 1 else 0) := pu_inL (by decide) (by decide)
  by_cases hi : (0 : Int32) ≤ i ∧ i ≤ nI g - 1
  · obtain ⟨k, hkg, rfl⟩ := pu_guest_of hg (by omega) hi
    have e8 : nb_in (nI k) 8 = true := pu_in (by omega) (by decide)
    have e16 : nb_in (nI k) 16 = true := pu_in (by omega) (by decide)
    have ix : nb_ix (nI k) = k := pu_ix (by omega)
    obtain ⟨q1, -, q2, -, q3, -, q4, -⟩ := p3 k hkg
    rw [Nat.mul_zero, Nat.zero_add] at q1 q2 q3 q4
    simp only [fX7_guest, fX8_guest, nb_let]
    rw [pu_isGuest7 hpd l3 p1, pu_isGuest8 p2, pu_b1, pu_b1, if_pos hi, hin, pu_b1, hl]
    simp only [nb_g_t hpp, nb_g_t e8, nb_g_t e16, ix, show ((1 : Int32) = 0) ↔ False from by decide, if_false]
    by_cases c0 : c = 0
    · subst c0; exact ⟨σ (p + 1) k, by simp, by simp [q1]⟩
    · by_cases c1 : c = 1
      · subst c1; exact ⟨σ (p + 2) k, by simp, by simp [q2]⟩
      · by_cases c2 : c = 2
        · subst c2; exact ⟨σ (p + 3) k, by simp, by simp [q3]⟩
        · by_cases c3 : c = 3
          · subst c3; exact ⟨σ (p + 4) k, by simp, by simp [q4]⟩
          · refine ⟨-1, by simp [c0, c1, c2, c3], ?_⟩
            have hc : ¬ ((0 : Int32) ≤ c ∧ c ≤ 3) := by
              intro hc
              obtain ⟨z, hz, rfl⟩ := nI_of2 (M := 3) (n := 3) (by decide) (Int32.not_lt.mpr hc.1) hc.2
              have : z = 0 ∨ z = 1 ∨ z = 2 ∨ z = 3 := by omega
              rcases this with rfl | rfl | rfl | rfl
              · exact c0 rfl
              · exact c1 rfl
              · exact c2 rfl
              · exact c3 rfl
            simp [hc]
  · refine ⟨-1, ?_, ?_⟩
    · simp only [fX7_guest]
      rw [pu_isGuest7 hpd l3 p1, pu_b1, if_neg hi, if_pos rfl]
    · simp only [fX8_guest, nb_let]
      rw [pu_isGuest8 p2, pu_b1, if_neg hi, if_pos rfl]
end PG
