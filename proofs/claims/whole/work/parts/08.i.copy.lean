def pu_cp (f : Nat → Int32) (u s t j : Nat) : Nat → Int32 := fun k => if u * t ≤ k ∧ k < u * t + j then f (u * s + (k - u * t)) else f k
theorem pu_cp0 {f : Nat → Int32} {u s t : Nat} : pu_cp f u s t 0 = f := by
  funext k
  unfold pu_cp
  rw [if_neg (by omega)]
theorem pu_cp_s {f : Nat → Int32} {u s t j : Nat} (h : ¬ (u * t ≤ u * s + j ∧ u * s + j < u * t + j)) : upd (pu_cp f u s t j) (u * t + j) (pu_cp f u s t j (u * s + j)) = pu_cp f u s t (j + 1) := by
  funext k
  by_cases hk : k = u * t + j
  · subst hk
    rw [pk_us]
    unfold pu_cp
    rw [if_neg h, if_pos (by omega)]
    congr 1
    omega
  · rw [pk_un hk]
    unfold pu_cp
    by_cases h1 : u * t ≤ k ∧ k < u * t + j
    · rw [if_pos h1, if_pos (by omega)]
    · rw [if_neg h1, if_neg (by omega)]
theorem nb_sa_id {σ : nb_St} {k : Nat} : nb_sa σ k (σ k) = σ := by
  funext a
  by_cases h : a = k
  · subst h; rw [nb_sa_s]
  · rw [nb_sa_n h]
theorem nb_st_sa {σ : nb_St} {k j : Nat} {f : Nat → Int32} {v : Int32} : nb_st (nb_sa σ k f) k j v = nb_sa σ k (upd f j v) := by
  funext a b
  by_cases h : a = k
  · subst h
    rw [nb_st_u, nb_sa_s, nb_sa_s]
  · rw [nb_st_k h, nb_sa_n h, nb_sa_n h]
theorem nb_st_sb {σ : nb_St} {k m j : Nat} {f : Nat → Int32} {v : Int32} (hm : k ≠ m) : nb_st (nb_sa σ m f) k j v = nb_sa (nb_st σ k j v) m f := by
  funext a
  by_cases h : a = k
  · subst h
    rw [nb_st_u, nb_sa_n hm, nb_sa_n hm, nb_st_u]
  · by_cases h2 : a = m
    · subst h2
      rw [nb_st_k h, nb_sa_s, nb_sa_s]
    · rw [nb_st_k h, nb_sa_n h2, nb_sa_n h2, nb_st_k h]
def pu_ct (τ : nb_St) (s t : Nat) : nb_St := nb_sa (nb_sa (nb_sa (nb_st (nb_st τ 19 t (τ 19 s)) 22 t (τ 22 s)) 20 (pu_cp (τ 20) 6 s t 6)) 21 (pu_cp (τ 21) 6 s t 6)) 23 (pu_cp (τ 23) 4 s t 4)
theorem pu_copyTold {N : Nat} (hN : 7 ≤ N) {τ : nb_St} {s t : Nat} (hs : s < 4) (ht : t < 4) (hst : s ≠ t) : fX8_copyTold N τ (nI s) (nI t) = some (pu_ct τ s t) := by
  have is : nb_ix (nI s) = s := pu_ix (by omega)
  have it : nb_ix (nI t) = t := pu_ix (by omega)
  have gs : nb_in (nI s) 4 = true := pu_in hs (by decide)
  have gt : nb_in (nI t) 4 = true := pu_in ht (by decide)
  have e22 : nb_st τ 19 t (τ 19 s) 22 s = τ 22 s := by rw [nb_st_k (by decide)]
  have m6 : ∀ a j : Nat, (6 : Int32) * nI a + nI j = nI (6 * a + j) := fun a j => by
    show nI 6 * nI a + nI j = _
    rw [pk_mul, nI_add]
  have m4 : ∀ a j : Nat, (4 : Int32) * nI a + nI j = nI (4 * a + j) := fun a j => by
    show nI 4 * nI a + nI j = _
    rw [pk_mul, nI_add]
  simp only [fX8_copyTold, nb_let]
  simp only [nb_g_t gs, nb_g_t gt, is, it, e22]
  obtain ⟨ρ, hρ⟩ : ∃ ρ, ρ = nb_st (nb_st τ 19 t (τ 19 s)) 22 t (τ 22 s) := ⟨_, rfl⟩
  have r20 : ρ 20 = τ 20 := by rw [hρ, nb_st_k (by decide), nb_st_k (by decide)]
  have r21 : ρ 21 = τ 21 := by rw [hρ, nb_st_k (by decide), nb_st_k (by decide)]
  have r23 : ρ 23 = τ 23 := by rw [hρ, nb_st_k (by decide), nb_st_k (by decide)]
  unfold pu_ct
  rw [← hρ, ← r20, ← r21, ← r23]
  have inner : ∀ σ8 : nb_St, σ8 23 = ρ 23 → nb_lp2 (R := nb_St) (fun ag14 (x12 : Int32) (σ13 : nb_St) => if (4 : Int32) ≤ x12 then some σ13 else nb_g (nb_in ((4 : Int32) * nI s + x12) 16) (nb_g (nb_in ((4 : Int32) * nI t + x12) 16) (ag14 (x12 + 1) (nb_st σ13 23 (nb_ix ((4 : Int32) * nI t + x12)) (σ13 23 (nb_ix ((4 : Int32) * nI s + x12))))))) N (0 : Int32) σ8 = some (nb_sa σ8 23 (pu_cp (ρ 23) 4 s t 4)) := by
    intro σ8 h8
    have hl := nb_s2 (R := nb_St) (f := fun ag14 (x12 : Int32) (σ13 : nb_St) => if (4 : Int32) ≤ x12 then some σ13 else nb_g (nb_in ((4 : Int32) * nI s + x12) 16) (nb_g (nb_in ((4 : Int32) * nI t + x12) 16) (ag14 (x12 + 1) (nb_st σ13 23 (nb_ix ((4 : Int32) * nI t + x12)) (σ13 23 (nb_ix ((4 : Int32) * nI s + x12)))))))
      (r := some (nb_sa σ8 23 (pu_cp (ρ 23) 4 s t 4))) 4 (fun j => nI j) (fun j => nb_sa σ8 23 (pu_cp (ρ 23) 4 s t j)) ?_ ?_ N (by omega)
    · rw [pu_cp0, ← h8, nb_sa_id, h8] at hl
      exact hl
    · intro ag j hj
      show (if (4 : Int32) ≤ nI j then _ else _) = _
      rw [if_neg (show ¬ (4 : Int32) ≤ nI j from nI_ge (b := 4) hj (by decide)), m4, m4, nb_g_t (pu_in (by omega) (by decide)), nb_g_t (pu_in (by omega) (by decide)), pu_ix (by omega), pu_ix (by omega), nI_1, nb_sa_s, nb_st_sa, pu_cp_s (by omega)]
    · intro ag
      exact if_pos (by decide)
  have hl := nb_s2 (R := nb_St) (f := fun ag9 (x7 : Int32) (σ8 : nb_St) => if (6 : Int32) ≤ x7 then nb_lp2 (R := nb_St) (fun ag14 (x12 : Int32) (σ13 : nb_St) => if (4 : Int32) ≤ x12 then some σ13 else nb_g (nb_in ((4 : Int32) * nI s + x12) 16) (nb_g (nb_in ((4 : Int32) * nI t + x12) 16) (ag14 (x12 + 1) (nb_st σ13 23 (nb_ix ((4 : Int32) * nI t + x12)) (σ13 23 (nb_ix ((4 : Int32) * nI s + x12))))))) N (0 : Int32) σ8 else nb_g (nb_in ((6 : Int32) * nI s + x7) 24) (nb_g (nb_in ((6 : Int32) * nI t + x7) 24) (nb_g (nb_in ((6 : Int32) * nI s + x7) 24) (nb_g (nb_in ((6 : Int32) * nI t + x7) 24) (ag9 (x7 + 1) (nb_st (nb_st σ8 20 (nb_ix ((6 : Int32) * nI t + x7)) (σ8 20 (nb_ix ((6 : Int32) * nI s + x7)))) 21 (nb_ix ((6 : Int32) * nI t + x7)) ((nb_st σ8 20 (nb_ix ((6 : Int32) * nI t + x7)) (σ8 20 (nb_ix ((6 : Int32) * nI s + x7)))) 21 (nb_ix ((6 : Int32) * nI s + x7)))))))))
    (r := some (nb_sa (nb_sa (nb_sa ρ 20 (pu_cp (ρ 20) 6 s t 6)) 21 (pu_cp (ρ 21) 6 s t 6)) 23 (pu_cp (ρ 23) 4 s t 4))) 6 (fun j => nI j) (fun j => nb_sa (nb_sa ρ 20 (pu_cp (ρ 20) 6 s t j)) 21 (pu_cp (ρ 21) 6 s t j)) ?_ ?_ N (by omega)
  · rw [pu_cp0, pu_cp0, nb_sa_id, nb_sa_id] at hl
    exact hl
  · intro ag j hj
    show (if (6 : Int32) ≤ nI j then _ else _) = _
    have n1 : nb_in (nI (6 * s + j)) 24 = true := pu_in (by omega) (by decide)
    have n2 : nb_in (nI (6 * t + j)) 24 = true := pu_in (by omega) (by decide)
    rw [if_neg (show ¬ (6 : Int32) ≤ nI j from nI_ge (b := 6) hj (by decide)), m6, m6, nb_g_t n1, nb_g_t n2, nb_g_t n1, nb_g_t n2, pu_ix (by omega), pu_ix (by omega), nI_1]
    rw [nb_st_k (show (21 : Nat) ≠ 20 by decide), nb_sa_s, nb_sa_n (show (20 : Nat) ≠ 21 by decide), nb_sa_s, nb_st_sb (show (20 : Nat) ≠ 21 by decide), nb_st_sa, nb_st_sa, pu_cp_s (by omega), pu_cp_s (by omega)]
  · intro ag
    show (if (6 : Int32) ≤ nI 6 then _ else _) = _
    rw [if_pos (by decide)]
    exact inner _ (by rw [nb_sa_n (by decide), nb_sa_n (by decide)])
