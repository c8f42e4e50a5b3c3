def pr_rng (x : Int32) (lo hi : Nat) : Prop := ∃ n : Nat, lo ≤ n ∧ n ≤ hi ∧ x = nI n
theorem pr_rng_of {x : Int32} {a b : Nat} (hab : a ≤ b) (hB : b < 2 ^ 31) (h1 : nI a ≤ x) (h2 : x ≤ nI b) : pr_rng x a b := by
  obtain ⟨j, hj, rfl⟩ := nI_of2 (M := nI b) (n := b) (nI_toInt hB) (Int32.not_lt.mpr (Int32.le_trans (nI_pos' (by omega)) h1)) h2
  exact ⟨j, (nI_leI (by omega) (by omega)).mp h1, hj, rfl⟩
def pr_told (σ τ : nb_St) (q s a b : Nat) : Prop := a ≤ 6 ∧ b ≤ 4 ∧ σ q 0 = nI a ∧ τ 19 s = nI a ∧ σ q 3 = nI b ∧ τ 22 s = nI b ∧ (∀ k, k < a → σ (q + 1) k = τ 20 (6 * s + k) ∧ pr_rng (σ (q + 1) k) 0 359 ∧ σ (q + 2) k = τ 21 (6 * s + k) ∧ pr_rng (σ (q + 2) k) 1 99) ∧ ∀ k, k < b → σ (q + 3) k = τ 23 (4 * s + k) ∧ pr_rng (σ (q + 3) k) 0 359
def pr_bit (x y : Int32) : Prop := (x = 1 ∧ y = 0) ∨ (x = 0 ∧ y = 1)
def pr_done (σ τ : nb_St) (d : Nat) : Prop := d ≤ 8 ∧ σ 69 1 = nI d ∧ τ 0 25 = nI d ∧ ∀ j, j < d → pr_bit (σ 70 j) (τ 24 j)
def pr_z (f : Nat → Int32) : Nat → Nat
  | 0 => 0
  | n + 1 => pr_z f n + if f n = 0 then 1 else 0
theorem pr_z_le {f : Nat → Int32} : ∀ n, pr_z f n ≤ n
  | 0 => Nat.le_refl 0
  | n + 1 => by
    have := pr_z_le (f := f) n
    unfold pr_z
    split <;> omega
theorem pr_z_c {f g : Nat → Int32} : ∀ n, (∀ k, k < n → f k = g k) → pr_z f n = pr_z g n
  | 0, _ => rfl
  | n + 1, h => by
    unfold pr_z
    rw [pr_z_c n (fun k hk => h k (by omega)), h n (by omega)]
theorem pr_z_shift {f : Nat → Int32} : ∀ n, pr_z (fun k => f (k + 1)) n + (if f 0 = 0 then 1 else 0) = pr_z f (n + 1)
  | 0 => by simp [pr_z]
  | n + 1 => by
    have := pr_z_shift (f := f) n
    rw [show pr_z (fun k => f (k + 1)) (n + 1) = pr_z (fun k => f (k + 1)) n + (if f (n + 1) = 0 then 1 else 0) from rfl, show pr_z f (n + 1 + 1) = pr_z f (n + 1) + (if f (n + 1) = 0 then 1 else 0) from rfl]
    omega
theorem pr_nar {x y : Int32} (h : pr_bit x y) : vp_nar .boolean x = x := by
  rcases h with ⟨rfl, -⟩ | ⟨rfl, -⟩ <;> rfl
theorem pl_note {σ τ : nb_St} {d : Nat} (h : pr_done σ τ d) {b c : Int32} (bb : pr_bit b c) : ∃ (σo τo : nb_St) (e : Nat), fX3_note 20 σ b = some σo ∧ fX8_note 20 τ c = some τo ∧ pr_done σo τo e ∧ (∀ k, k ≠ 69 → k ≠ 70 → σo k = σ k) ∧ (∀ j, j ≠ 1 → σo 69 j = σ 69 j) ∧ (∀ k, k ≠ 0 → k ≠ 24 → τo k = τ k) ∧ (∀ j, j ≠ 25 → τo 0 j = τ 0 j) ∧ pr_z (τo 24) e ≤ pr_z (τ 24) d + (if c = 0 then 1 else 0) ∧ e - pr_z (τo 24) e ≤ (d - pr_z (τ 24) d) + (if c = 0 then 0 else 1) := by
  obtain ⟨h1, h2, h3, h4⟩ := h
  have hb := pr_nar bb
  by_cases hd : d < 8
  · refine ⟨_, _, d + 1, pu_note7 h2 hd, pu_note8 h3 hd, ⟨by omega, nb_st_s, nb_st_s, ?_⟩, ?_, ?_, ?_, ?_, ?_⟩
    · intro j hj
      by_cases hjd : j = d
      · subst hjd
        simp [nb_st, hb]
        exact bb
      · simp [nb_st, hjd]
        exact h4 j (by omega)
    · intro k k1 k2
      rw [nb_st_k k1, nb_st_k k2]
    · intro j hj
      rw [nb_st_n (Or.inr hj), nb_st_k (by decide)]
    · intro k k1 k2
      rw [nb_st_k k1, nb_st_k k2]
    · intro j hj
      rw [nb_st_n (Or.inr hj), nb_st_k (by decide)]
    · rw [nb_st_k (by decide), nb_st_u]
      have e1 : pr_z (upd (τ 24) d c) d = pr_z (τ 24) d := pr_z_c d (fun k hk => pk_un (by omega))
      have e2 : pr_z (upd (τ 24) d c) (d + 1) = pr_z (τ 24) d + (if c = 0 then 1 else 0) := by
        rw [show pr_z (upd (τ 24) d c) (d + 1) = pr_z (upd (τ 24) d c) d + (if upd (τ 24) d c d = 0 then 1 else 0) from rfl, e1, pk_us]
      have e3 := pr_z_le (f := τ 24) d
      rw [e2]
      refine ⟨Nat.le_refl _, ?_⟩
      split <;> omega
  · have hd8 : d = 8 := by omega
    subst hd8
    refine ⟨_, _, 8, pu_note7F (by decide) h2, pu_note8F (by decide) h3, ⟨by omega, nb_st_s, nb_st_s, ?_⟩, ?_, ?_, ?_, ?_, ?_⟩
    · intro j hj
      by_cases hj7 : j = 7
      · subst hj7
        simp [nb_st, hb]
        exact bb
      · have hlt : j < 7 := by omega
        simp [nb_st, nb_sa, hj7, pu_sh, hlt, pr_nar (h4 (j + 1) (by omega))]
        exact h4 (j + 1) (by omega)
    · intro k k1 k2
      rw [nb_st_k k1, nb_st_k k2, nb_st_k k1, nb_sa_n k2]
    · intro j hj
      rw [nb_st_n (Or.inr hj), nb_st_k (by decide), nb_st_n (Or.inr hj), nb_sa_n (by decide)]
    · intro k k1 k2
      rw [nb_st_k k1, nb_st_k k2, nb_st_k k1, nb_sa_n k2]
    · intro j hj
      rw [nb_st_n (Or.inr hj), nb_st_k (by decide), nb_st_n (Or.inr hj), nb_sa_n (by decide)]
    · rw [nb_st_k (by decide), nb_st_u, nb_st_k (by decide), nb_sa_s]
      have e1 : pr_z (upd (pu_sh (τ 24) id 7) 7 c) 7 = pr_z (fun k => τ 24 (k + 1)) 7 := pr_z_c 7 (fun k hk => by
        rw [pk_un (by omega)]
        unfold pu_sh
        rw [if_pos hk]
        rfl)
      have e2 : pr_z (upd (pu_sh (τ 24) id 7) 7 c) 8 = pr_z (fun k => τ 24 (k + 1)) 7 + (if c = 0 then 1 else 0) := by
        rw [show pr_z (upd (pu_sh (τ 24) id 7) 7 c) 8 = pr_z (upd (pu_sh (τ 24) id 7) 7 c) 7 + (if upd (pu_sh (τ 24) id 7) 7 c 7 = 0 then 1 else 0) from rfl, e1, pk_us]
      have e3 : pr_z (fun k => τ 24 (k + 1)) 7 + (if τ 24 0 = 0 then 1 else 0) = pr_z (τ 24) 8 := pr_z_shift (f := τ 24) 7
      have q0 : (if τ 24 0 = 0 then 1 else 0) ≤ 1 := by split <;> omega
      have q : (if c = 0 then 1 else 0) + (if c = 0 then 0 else 1) = 1 := by split <;> rfl
      have e4 := pr_z_le (f := fun k => τ 24 (k + 1)) 7
      rw [e2]
      generalize (if c = 0 then 1 else 0) = u at q ⊢
      generalize (if c = 0 then 0 else 1) = v at q ⊢
      generalize (if τ 24 0 = 0 then 1 else 0) = w at e3 q0
      exact ⟨by omega, by omega⟩
