def pu_cf (σ : nb_St) (q r : Nat) : nb_St := nb_sa (nb_sa (nb_sa (nb_st (nb_st σ q 0 (σ r 0)) q 3 (σ r 3)) (q + 1) (va_cpy (σ (r + 1)) (σ (q + 1)) 0 0 6)) (q + 2) (va_cpy (σ (r + 2)) (σ (q + 2)) 0 0 6)) (q + 3) (va_cpy (σ (r + 3)) (σ (q + 3)) 0 0 4)
theorem pu_copyFrom {N : Nat} {σ : nb_St} {q r : Nat} (h : q + 4 ≤ r ∨ r + 4 ≤ q) : fX6_copyFrom N σ q r = some (pu_cf σ q r) := by
  have x0 : nb_ix (0 : Int32) = 0 := rfl
  have x6 : nb_ix (6 : Int32) = 6 := rfl
  have x4 : nb_ix (4 : Int32) = 4 := rfl
  simp only [fX6_copyFrom, nb_let, x0, x6, x4, pu_cf]
  have e3 : nb_st σ q 0 (σ r 0) r 3 = σ r 3 := by rw [nb_st_k (by omega)]
  rw [e3]
  simp only [nb_sa_n (show r + 2 ≠ q + 1 by omega), nb_sa_n (show q + 2 ≠ q + 1 by omega), nb_sa_n (show r + 3 ≠ q + 2 by omega), nb_sa_n (show r + 3 ≠ q + 1 by omega), nb_sa_n (show q + 3 ≠ q + 2 by omega), nb_sa_n (show q + 3 ≠ q + 1 by omega), nb_st_k (show r + 1 ≠ q by omega), nb_st_k (show q + 1 ≠ q by omega), nb_st_k (show r + 2 ≠ q by omega), nb_st_k (show q + 2 ≠ q by omega), nb_st_k (show r + 3 ≠ q by omega), nb_st_k (show q + 3 ≠ q by omega)]
theorem pu_cf_n {σ : nb_St} {q r k : Nat} (h : k < q ∨ q + 3 < k) : pu_cf σ q r k = σ k := by
  unfold pu_cf
  rw [nb_sa_n (by omega), nb_sa_n (by omega), nb_sa_n (by omega), nb_st_k (by omega), nb_st_k (by omega)]
theorem pu_ct_n {τ : nb_St} {s t k : Nat} (h : k < 19 ∨ 23 < k) : pu_ct τ s t k = τ k := by
  unfold pu_ct
  rw [nb_sa_n (by omega), nb_sa_n (by omega), nb_sa_n (by omega), nb_st_k (by omega), nb_st_k (by omega)]
theorem pu_ct19 {τ : nb_St} {s t j : Nat} : pu_ct τ s t 19 j = if j = t then τ 19 s else τ 19 j := by
  unfold pu_ct
  simp [nb_sa, nb_st]
theorem pu_ct22 {τ : nb_St} {s t j : Nat} : pu_ct τ s t 22 j = if j = t then τ 22 s else τ 22 j := by
  unfold pu_ct
  simp [nb_sa, nb_st]
theorem pu_ct20 {τ : nb_St} {s t : Nat} : pu_ct τ s t 20 = pu_cp (τ 20) 6 s t 6 := by
  unfold pu_ct
  rw [nb_sa_n (by decide), nb_sa_n (by decide), nb_sa_s]
theorem pu_ct21 {τ : nb_St} {s t : Nat} : pu_ct τ s t 21 = pu_cp (τ 21) 6 s t 6 := by
  unfold pu_ct
  rw [nb_sa_n (by decide), nb_sa_s]
theorem pu_ct23 {τ : nb_St} {s t : Nat} : pu_ct τ s t 23 = pu_cp (τ 23) 4 s t 4 := by
  unfold pu_ct
  rw [nb_sa_s]
theorem pu_cp_in {f : Nat → Int32} {u s t k : Nat} (h : k < u) : pu_cp f u s t u (u * t + k) = f (u * s + k) := by
  unfold pu_cp
  rw [if_pos (by omega)]
  congr 1
  omega
theorem pu_cp_out {f : Nat → Int32} {u s t k : Nat} (h : k < u * t ∨ u * t + u ≤ k) : pu_cp f u s t u k = f k := by
  unfold pu_cp
  rw [if_neg (by omega)]
/-- copied on both sides -/
theorem pl_copy {σ τ : nb_St} {q r s t a b : Nat} (h : pr_told σ τ r s a b) (hqr : q + 4 ≤ r ∨ r + 4 ≤ q) : pr_told (pu_cf σ q r) (pu_ct τ s t) q t a b := by
  obtain ⟨a6, b4, c1, c2, c3, c4, c5, c6⟩ := h
  have f0 : pu_cf σ q r q = nb_st (nb_st σ q 0 (σ r 0)) q 3 (σ r 3) q := by
    unfold pu_cf
    rw [nb_sa_n (by omega), nb_sa_n (by omega), nb_sa_n (by omega)]
  have f1 : ∀ k, k < 6 → pu_cf σ q r (q + 1) k = σ (r + 1) k := fun k hk => by
    unfold pu_cf
    rw [nb_sa_n (by omega), nb_sa_n (by omega), nb_sa_s, pk_cpy_in (by omega) (by omega)]
    congr 1
    omega
  have f2 : ∀ k, k < 6 → pu_cf σ q r (q + 2) k = σ (r + 2) k := fun k hk => by
    unfold pu_cf
    rw [nb_sa_n (by omega), nb_sa_s, pk_cpy_in (by omega) (by omega)]
    congr 1
    omega
  have f3 : ∀ k, k < 4 → pu_cf σ q r (q + 3) k = σ (r + 3) k := fun k hk => by
    unfold pu_cf
    rw [nb_sa_s, pk_cpy_in (by omega) (by omega)]
    congr 1
    omega
  refine ⟨a6, b4, ?_, ?_, ?_, ?_, fun k hk => ?_, fun k hk => ?_⟩
  · rw [f0, nb_st_n (Or.inr (by decide)), nb_st_s]; exact c1
  · rw [pu_ct19, if_pos rfl]; exact c2
  · rw [f0, nb_st_s]; exact c3
  · rw [pu_ct22, if_pos rfl]; exact c4
  · rw [f1 k (by omega), f2 k (by omega), pu_ct20, pu_ct21, pu_cp_in (by omega), pu_cp_in (by omega)]
    exact c5 k hk
  · rw [f3 k (by omega), pu_ct23, pu_cp_in (by omega)]
    exact c6 k hk
/-- what lies elsewhere stays -/
theorem pl_copy_n {σ τ : nb_St} {q r x s t u a b : Nat} (h : pr_told σ τ x u a b) (hx : q + 4 ≤ x ∨ x + 4 ≤ q) (hu : u ≠ t) : pr_told (pu_cf σ q r) (pu_ct τ s t) x u a b := by
  obtain ⟨a6, b4, c1, c2, c3, c4, c5, c6⟩ := h
  refine ⟨a6, b4, ?_, ?_, ?_, ?_, fun k hk => ?_, fun k hk => ?_⟩
  · rw [pu_cf_n (by omega)]; exact c1
  · rw [pu_ct19, if_neg hu]; exact c2
  · rw [pu_cf_n (by omega)]; exact c3
  · rw [pu_ct22, if_neg hu]; exact c4
  · rw [pu_cf_n (by omega), pu_cf_n (by omega), pu_ct20, pu_ct21, pu_cp_out (by omega), pu_cp_out (by omega)]
    exact c5 k hk
  · rw [pu_cf_n (by omega), pu_ct23, pu_cp_out (by omega)]
    exact c6 k hk
/-- a told one by its own cells alone -/
theorem pr_told_d {σ σ' τ τ' : nb_St} {q s a b : Nat} (h : pr_told σ τ q s a b) (hσ : ∀ k, q ≤ k → k ≤ q + 3 → σ' k = σ k) (t : ∀ k, 19 ≤ k → k ≤ 23 → τ' k = τ k) : pr_told σ' τ' q s a b :=
  pr_told_c h (hσ q (by omega) (by omega)) (hσ _ (by omega) (by omega)) (hσ _ (by omega) (by omega)) (hσ _ (by omega) (by omega)) t
