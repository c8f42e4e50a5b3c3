section
theorem gm_rest_t {W S : Nat → Nat} {m : Nat} {SL : Nat → Nat} : gm_rest W S m SL = true ↔ ∀ i, i < m → gm_stay W S m SL i = true := decide_eq_true_iff
theorem gs_v {σ : nb_St} {c d e f s : Nat} {W S : Nat → Nat} {m : Nat} {SL : Nat → Nat} {i x : Nat} {v : Int32} (h : gs σ c d e f s W S m SL) (h1 : c ≠ f) (h2 : d ≠ f) (h3 : e ≠ f) (hx : x ≤ 9) : gs (nb_st (nb_st σ f i v) f i (nI x)) c d e f s W S m (us SL i x) := by
  rw [nb_st_st]
  exact gs_st h h1 h2 h3 hx
theorem us_le {SL : Nat → Nat} {m i x : Nat} (h : ∀ k, k < m → SL k ≤ 9) (hx : x ≤ 9) : ∀ k, k < m → us SL i x k ≤ 9 := fun k hk => by
  by_cases c : k = i
  · subst c; rw [us_s]; exact hx
  · rw [us_n c]; exact h k hk
theorem pz_move {N : Nat} {σ : nb_St} {W S : Nat → Nat} {m : Nat} {SL : Nat → Nat} {i : Nat} (hN : 10 < N) (h : gs σ 64 65 66 67 1 W S m SL) (hi : i < m) : fX1_wouldRatherMove N σ (nI i) = some (if gm_stay W S m SL i = true then nI 0 else nI 1, σ) := by
  have hc := pu_cost7 (show 8 < N by omega) h hi
  obtain ⟨a1, a2, a3, a4, a5, a6, a7, a8⟩ := id h
  have hb := gm_cost_le (W := W) (S := S) (SL := SL) (m := m) (a4 i hi) (a6 i hi) (a8 i hi)
  have k7 := a7 i hi
  apply pn_x
  unfold fX1_wouldRatherMove
  simp (disch := omega) only [pn_g, pu_b1, pn_b2, pn_leT, pn_leF, pn_ltT, pn_ltF, pn_eqT, pn_eqF, pu_in, pu_ix, nI_add, pk_mul, pk_sub, ↓reduceIte, Bool.false_eq_true, if_false, if_true, nb_st_s, nb_st_k, nb_st_n, nb_sa_s, nb_sa_n, pL0, pL1, pL2, pL3, pL4, pL5, pL6, pL7, pL8, pL9, pL10, pL11, pL12, pL13, pL15, pL20, pL30, pL99, pL100, pL180, pL240, pL255, pL350, pL359, pL719, pL720, pL999, pL9999, pL99999, pL100000, pL1000000, nb_let, k7, hc]
  refine nb_e3 (I := fun j x y s => j ≤ 6 ∧ y = nI j ∧ (∃ v, s = nb_st σ 67 i v) ∧ ((x = nI 0 ∧ ∀ x', x' < j → gm_cost W S m SL i ≤ gm_cost W S m (us SL i x') i) ∨ (x = nI 1 ∧ ¬ gm_stay W S m SL i = true))) 6 ?_ (by omega) ⟨by omega, rfl, ⟨σ 67 i, (nb_st_id rfl).symm⟩, Or.inl ⟨rfl, fun x' hx' => absurd hx' (by omega)⟩⟩
  rintro ag j x y s ⟨hj, rfl, ⟨v, rfl⟩, hx⟩
  have hback : nb_st (nb_st σ 67 i v) 67 i (nI (SL i)) = σ := by rw [nb_st_st]; exact nb_st_id k7
  rcases hx with ⟨rfl, hx⟩ | ⟨rfl, hx⟩
  · by_cases hlt : j < 6
    · right
      have g2 := gs_v (i := i) (x := j) (v := v) h (by decide) (by decide) (by decide) (by omega)
      have hc2 := pu_cost7 (show 8 < N by omega) g2 hi
      have hb2 := gm_cost_le (W := W) (S := S) (SL := us SL i j) (m := m) (i := i) (a4 i hi) (a6 i hi) (us_le a8 (by omega) i hi)
      by_cases c : gm_cost W S m SL i ≤ gm_cost W S m (us SL i j) i
      · refine ⟨hlt, nI 0, nI (j + 1), nb_st (nb_st σ 67 i v) 67 i (nI j), ⟨by omega, rfl, ⟨nI j, nb_st_st⟩, Or.inl ⟨rfl, fun x' hx' => ?_⟩⟩, ?_⟩
        · by_cases q : x' = j
          · subst q; exact c
          · exact hx x' (by omega)
        · simp (disch := omega) only [pn_g, pu_b1, pn_b2, pn_leT, pn_leF, pn_ltT, pn_ltF, pn_eqT, pn_eqF, pu_in, pu_ix, nI_add, pk_mul, pk_sub, ↓reduceIte, Bool.false_eq_true, if_false, if_true, nb_st_s, nb_st_k, nb_st_n, nb_sa_s, nb_sa_n, pL0, pL1, pL2, pL3, pL4, pL5, pL6, pL7, pL8, pL9, pL10, pL11, pL12, pL13, pL15, pL20, pL30, pL99, pL100, pL180, pL240, pL255, pL350, pL359, pL719, pL720, pL999, pL9999, pL99999, pL100000, pL1000000, hc2]
      · refine ⟨hlt, nI 1, nI (j + 1), nb_st (nb_st σ 67 i v) 67 i (nI j), ⟨by omega, rfl, ⟨nI j, nb_st_st⟩, Or.inr ⟨rfl, fun q => c (gm_stay_t.mp q j hlt)⟩⟩, ?_⟩
        simp (disch := omega) only [pn_g, pu_b1, pn_b2, pn_leT, pn_leF, pn_ltT, pn_ltF, pn_eqT, pn_eqF, pu_in, pu_ix, nI_add, pk_mul, pk_sub, ↓reduceIte, Bool.false_eq_true, if_false, if_true, nb_st_s, nb_st_k, nb_st_n, nb_sa_s, nb_sa_n, pL0, pL1, pL2, pL3, pL4, pL5, pL6, pL7, pL8, pL9, pL10, pL11, pL12, pL13, pL15, pL20, pL30, pL99, pL100, pL180, pL240, pL255, pL350, pL359, pL719, pL720, pL999, pL9999, pL99999, pL100000, pL1000000, hc2]
    · left
      have : j = 6 := by omega
      subst this
      refine ⟨(nI 0, σ), ?_, ?_⟩
      · have n1 : nb_01 (nI 0) = true := rfl
        simp (disch := omega) only [pn_g, pu_b1, pn_b2, pn_leT, pn_leF, pn_ltT, pn_ltF, pn_eqT, pn_eqF, pu_in, pu_ix, nI_add, pk_mul, pk_sub, ↓reduceIte, Bool.false_eq_true, if_false, if_true, nb_st_s, nb_st_k, nb_st_n, nb_sa_s, nb_sa_n, pL0, pL1, pL2, pL3, pL4, pL5, pL6, pL7, pL8, pL9, pL10, pL11, pL12, pL13, pL15, pL20, pL30, pL99, pL100, pL180, pL240, pL255, pL350, pL359, pL719, pL720, pL999, pL9999, pL99999, pL100000, pL1000000, hback, n1]
      · rw [if_pos (gm_stay_t.mpr hx)]
  · left
    refine ⟨(nI 1, σ), ?_, ?_⟩
    · have n1 : nb_01 (nI 1) = true := rfl
      by_cases hlt : j < 6
      · simp (disch := omega) only [pn_g, pu_b1, pn_b2, pn_leT, pn_leF, pn_ltT, pn_ltF, pn_eqT, pn_eqF, pu_in, pu_ix, nI_add, pk_mul, pk_sub, ↓reduceIte, Bool.false_eq_true, if_false, if_true, nb_st_s, nb_st_k, nb_st_n, nb_sa_s, nb_sa_n, pL0, pL1, pL2, pL3, pL4, pL5, pL6, pL7, pL8, pL9, pL10, pL11, pL12, pL13, pL15, pL20, pL30, pL99, pL100, pL180, pL240, pL255, pL350, pL359, pL719, pL720, pL999, pL9999, pL99999, pL100000, pL1000000, hback, n1]
      · simp (disch := omega) only [pn_g, pu_b1, pn_b2, pn_leT, pn_leF, pn_ltT, pn_ltF, pn_eqT, pn_eqF, pu_in, pu_ix, nI_add, pk_mul, pk_sub, ↓reduceIte, Bool.false_eq_true, if_false, if_true, nb_st_s, nb_st_k, nb_st_n, nb_sa_s, nb_sa_n, pL0, pL1, pL2, pL3, pL4, pL5, pL6, pL7, pL8, pL9, pL10, pL11, pL12, pL13, pL15, pL20, pL30, pL99, pL100, pL180, pL240, pL255, pL350, pL359, pL719, pL720, pL999, pL9999, pL99999, pL100000, pL1000000, hback, n1]
    · rw [if_neg hx]
theorem pz_rest7 {N : Nat} {σ : nb_St} {W S : Nat → Nat} {m : Nat} {SL : Nat → Nat} (hN : 10 < N) (h : gs σ 64 65 66 67 1 W S m SL) : fX1_isRest N σ = some (if gm_rest W S m SL = true then nI 1 else nI 0, σ) := by
  have hm : ∀ i, i < m → fX1_wouldRatherMove N σ (nI i) = some (if gm_stay W S m SL i = true then nI 0 else nI 1, σ) := fun i hi => pz_move hN h hi
  obtain ⟨a1, a2, -⟩ := h
  apply pn_x
  unfold fX1_isRest
  refine nb_e2 (I := fun j x s => j ≤ m ∧ x = nI j ∧ s = σ ∧ ∀ i, i < j → gm_stay W S m SL i = true) m ?_ (by omega) ⟨by omega, rfl, rfl, fun i hi => absurd hi (by omega)⟩
  rintro ag j x s ⟨hj, rfl, rfl, hs⟩
  by_cases hlt : j < m
  · have r1 := hm j hlt
    by_cases c : gm_stay W S m SL j = true
    · right
      rw [if_pos c] at r1
      refine ⟨hlt, nI (j + 1), s, ⟨by omega, rfl, rfl, fun i hi => ?_⟩, ?_⟩
      · by_cases q : i = j
        · subst q; exact c
        · exact hs i (by omega)
      · simp (disch := omega) only [pn_g, pu_b1, pn_b2, pn_leT, pn_leF, pn_ltT, pn_ltF, pn_eqT, pn_eqF, pu_in, pu_ix, nI_add, pk_mul, pk_sub, ↓reduceIte, Bool.false_eq_true, if_false, if_true, nb_st_s, nb_st_k, nb_st_n, nb_sa_s, nb_sa_n, pL0, pL1, pL2, pL3, pL4, pL5, pL6, pL7, pL8, pL9, pL10, pL11, pL12, pL13, pL15, pL20, pL30, pL99, pL100, pL180, pL240, pL255, pL350, pL359, pL719, pL720, pL999, pL9999, pL99999, pL100000, pL1000000, a1, r1]
    · left
      rw [if_neg c] at r1
      refine ⟨(nI 0, s), ?_, ?_⟩
      · simp (disch := omega) only [pn_g, pu_b1, pn_b2, pn_leT, pn_leF, pn_ltT, pn_ltF, pn_eqT, pn_eqF, pu_in, pu_ix, nI_add, pk_mul, pk_sub, ↓reduceIte, Bool.false_eq_true, if_false, if_true, nb_st_s, nb_st_k, nb_st_n, nb_sa_s, nb_sa_n, pL0, pL1, pL2, pL3, pL4, pL5, pL6, pL7, pL8, pL9, pL10, pL11, pL12, pL13, pL15, pL20, pL30, pL99, pL100, pL180, pL240, pL255, pL350, pL359, pL719, pL720, pL999, pL9999, pL99999, pL100000, pL1000000, a1, r1]
      · rw [if_neg (fun q => c (gm_rest_t.mp q j hlt))]
  · left
    have : j = m := by omega
    subst this
    refine ⟨(nI 1, s), ?_, ?_⟩
    · simp (disch := omega) only [pn_g, pu_b1, pn_b2, pn_leT, pn_leF, pn_ltT, pn_ltF, pn_eqT, pn_eqF, pu_in, pu_ix, nI_add, pk_mul, pk_sub, ↓reduceIte, Bool.false_eq_true, if_false, if_true, nb_st_s, nb_st_k, nb_st_n, nb_sa_s, nb_sa_n, pL0, pL1, pL2, pL3, pL4, pL5, pL6, pL7, pL8, pL9, pL10, pL11, pL12, pL13, pL15, pL20, pL30, pL99, pL100, pL180, pL240, pL255, pL350, pL359, pL719, pL720, pL999, pL9999, pL99999, pL100000, pL1000000, a1]
    · rw [if_pos (gm_rest_t.mpr hs)]
theorem pz_rest8 {N : Nat} {τ : nb_St} {W S : Nat → Nat} {m : Nat} {SL : Nat → Nat} (hN : 10 < N) (h : gs τ 0 29 30 31 36 W S m SL) : fX8_isRest N τ = some (if gm_rest W S m SL = true then nI 1 else nI 0, τ) := by
  obtain ⟨a1, a2, a3, a4, a5, a6, a7, a8⟩ := id h
  apply pn_x
  unfold fX8_isRest
  refine nb_e3 (I := fun j x y s => j ≤ m ∧ y = nI j ∧ s = τ ∧ bw x (∀ i, i < j → gm_stay W S m SL i = true)) m ?_ (by omega) ⟨by omega, rfl, rfl, Or.inl ⟨rfl, fun i hi => absurd hi (by omega)⟩⟩
  rintro ag j x y s ⟨hj, rfl, rfl, hx⟩
  by_cases hlt : j < m
  · right
    refine ⟨hlt, ?_⟩
    have hc := pu_cost8 (show 8 < N by omega) h hlt
    have hb := gm_cost_le (W := W) (S := S) (SL := SL) (m := m) (a4 j hlt) (a6 j hlt) (a8 j hlt)
    have k7 := a7 j hlt
    simp only [nb_let]
    rw [a1, if_neg (nI_ge hlt (by omega)), nb_g_t (pu_in (by omega) (by omega)), pu_ix (by omega), hc, pu_b1, k7]
    refine nb_c3 (K := fun v => ∃ (b0 b1 : Int32) (b2 : nb_St), (j + 1 ≤ m ∧ b1 = nI (j + 1) ∧ b2 = s ∧ bw b0 (∀ i, i < j + 1 → gm_stay W S m SL i = true)) ∧ v = ag b0 b1 b2) (I := fun i x y (t : nb_St) => i ≤ 6 ∧ y = nI i ∧ (∃ v, t = nb_st s 31 j v) ∧ bw x ((∀ i, i < j → gm_stay W S m SL i = true) ∧ ∀ x', x' < i → gm_cost W S m SL j ≤ gm_cost W S m (us SL j x') j)) 6 ?_ (by omega) ⟨by omega, rfl, ⟨s 31 j, (nb_st_id rfl).symm⟩, bw_iff hx ⟨fun q => ⟨q, fun x' hx' => absurd hx' (by omega)⟩, fun q => q.1⟩⟩
    rintro ag2 i x2 y2 t ⟨hi, rfl, ⟨v, rfl⟩, hx2⟩
    have hback : nb_st (nb_st s 31 j v) 31 j (nI (SL j)) = s := by rw [nb_st_st]; exact nb_st_id k7
    by_cases hlt2 : i < 6
    · right
      have g2 := gs_v (i := j) (x := i) (v := v) h (by decide) (by decide) (by decide) (by omega)
      have hc2 := pu_cost8 (show 8 < N by omega) g2 hlt
      have hb2 := gm_cost_le (W := W) (S := S) (SL := us SL j i) (m := m) (i := j) (a4 j hlt) (a6 j hlt) (us_le a8 (by omega) j hlt)
      refine ⟨hlt2, if x2 = nI 0 then nI 0 else if (if gm_cost W S m SL j ≤ gm_cost W S m (us SL j i) j then nI 1 else nI 0) = nI 0 then nI 0 else nI 1, nI (i + 1), nb_st (nb_st s 31 j v) 31 j (nI i), ⟨by omega, rfl, ⟨nI i, nb_st_st⟩, bw_iff (bw_and hx2 (B := gm_cost W S m SL j ≤ gm_cost W S m (us SL j i) j) ?_) ?_⟩, ?_⟩
      · by_cases c : gm_cost W S m SL j ≤ gm_cost W S m (us SL j i) j
        · rw [if_pos c]; exact Or.inl ⟨rfl, c⟩
        · rw [if_neg c]; exact Or.inr ⟨rfl, c⟩
      · constructor
        · rintro ⟨⟨q1, q2⟩, q3⟩
          refine ⟨q1, fun x' hx' => ?_⟩
          by_cases q : x' = i
          · subst q; exact q3
          · exact q2 x' (by omega)
        · rintro ⟨q1, q2⟩
          exact ⟨⟨q1, fun x' hx' => q2 x' (by omega)⟩, q2 i (by omega)⟩
      · rcases hx2 with ⟨rfl, -⟩ | ⟨rfl, -⟩
        · by_cases c : gm_cost W S m SL j ≤ gm_cost W S m (us SL j i) j
          · simp (disch := omega) only [pn_g, pu_b1, pn_b2, pn_leT, pn_leF, pn_ltT, pn_ltF, pn_eqT, pn_eqF, pu_in, pu_ix, nI_add, pk_mul, pk_sub, ↓reduceIte, Bool.false_eq_true, if_false, if_true, nb_st_s, nb_st_k, nb_st_n, nb_sa_s, nb_sa_n, pL0, pL1, pL2, pL3, pL4, pL5, pL6, pL7, pL8, pL9, pL10, pL11, pL12, pL13, pL15, pL20, pL30, pL99, pL100, pL180, pL240, pL255, pL350, pL359, pL719, pL720, pL999, pL9999, pL99999, pL100000, pL1000000, hc2, c]
          · simp (disch := omega) only [pn_g, pu_b1, pn_b2, pn_leT, pn_leF, pn_ltT, pn_ltF, pn_eqT, pn_eqF, pu_in, pu_ix, nI_add, pk_mul, pk_sub, ↓reduceIte, Bool.false_eq_true, if_false, if_true, nb_st_s, nb_st_k, nb_st_n, nb_sa_s, nb_sa_n, pL0, pL1, pL2, pL3, pL4, pL5, pL6, pL7, pL8, pL9, pL10, pL11, pL12, pL13, pL15, pL20, pL30, pL99, pL100, pL180, pL240, pL255, pL350, pL359, pL719, pL720, pL999, pL9999, pL99999, pL100000, pL1000000, hc2, c]
        · simp (disch := omega) only [pn_g, pu_b1, pn_b2, pn_leT, pn_leF, pn_ltT, pn_ltF, pn_eqT, pn_eqF, pu_in, pu_ix, nI_add, pk_mul, pk_sub, ↓reduceIte, Bool.false_eq_true, if_false, if_true, nb_st_s, nb_st_k, nb_st_n, nb_sa_s, nb_sa_n, pL0, pL1, pL2, pL3, pL4, pL5, pL6, pL7, pL8, pL9, pL10, pL11, pL12, pL13, pL15, pL20, pL30, pL99, pL100, pL180, pL240, pL255, pL350, pL359, pL719, pL720, pL999, pL9999, pL99999, pL100000, pL1000000]
    · left
      have : i = 6 := by omega
      subst this
      refine ⟨x2, nI (j + 1), s, ⟨by omega, rfl, rfl, bw_iff hx2 ?_⟩, ?_⟩
      · constructor
        · rintro ⟨q1, q2⟩ i hi
          by_cases q : i = j
          · subst q; exact gm_stay_t.mpr q2
          · exact q1 i (by omega)
        · intro q
          exact ⟨fun i hi => q i (by omega), gm_stay_t.mp (q j (by omega))⟩
      · simp (disch := omega) only [pn_g, pu_b1, pn_b2, pn_leT, pn_leF, pn_ltT, pn_ltF, pn_eqT, pn_eqF, pu_in, pu_ix, nI_add, pk_mul, pk_sub, ↓reduceIte, Bool.false_eq_true, if_false, if_true, nb_st_s, nb_st_k, nb_st_n, nb_sa_s, nb_sa_n, pL0, pL1, pL2, pL3, pL4, pL5, pL6, pL7, pL8, pL9, pL10, pL11, pL12, pL13, pL15, pL20, pL30, pL99, pL100, pL180, pL240, pL255, pL350, pL359, pL719, pL720, pL999, pL9999, pL99999, pL100000, pL1000000, hback]
  · left
    have : j = m := by omega
    subst this
    rcases hx with ⟨rfl, hx⟩ | ⟨rfl, hx⟩
    · refine ⟨(nI 1, s), ?_, ?_⟩
      · have n1 : nb_01 (nI 1) = true := rfl
        simp (disch := omega) only [pn_g, pu_b1, pn_b2, pn_leT, pn_leF, pn_ltT, pn_ltF, pn_eqT, pn_eqF, pu_in, pu_ix, nI_add, pk_mul, pk_sub, ↓reduceIte, Bool.false_eq_true, if_false, if_true, nb_st_s, nb_st_k, nb_st_n, nb_sa_s, nb_sa_n, pL0, pL1, pL2, pL3, pL4, pL5, pL6, pL7, pL8, pL9, pL10, pL11, pL12, pL13, pL15, pL20, pL30, pL99, pL100, pL180, pL240, pL255, pL350, pL359, pL719, pL720, pL999, pL9999, pL99999, pL100000, pL1000000, a1, n1]
      · rw [if_pos (gm_rest_t.mpr hx)]
    · refine ⟨(nI 0, s), ?_, ?_⟩
      · have n1 : nb_01 (nI 0) = true := rfl
        simp (disch := omega) only [pn_g, pu_b1, pn_b2, pn_leT, pn_leF, pn_ltT, pn_ltF, pn_eqT, pn_eqF, pu_in, pu_ix, nI_add, pk_mul, pk_sub, ↓reduceIte, Bool.false_eq_true, if_false, if_true, nb_st_s, nb_st_k, nb_st_n, nb_sa_s, nb_sa_n, pL0, pL1, pL2, pL3, pL4, pL5, pL6, pL7, pL8, pL9, pL10, pL11, pL12, pL13, pL15, pL20, pL30, pL99, pL100, pL180, pL240, pL255, pL350, pL359, pL719, pL720, pL999, pL9999, pL99999, pL100000, pL1000000, a1, n1]
      · rw [if_neg (fun q => hx (gm_rest_t.mp q))]
def gsm (W S : Nat → Nat) (m : Nat) (SL : Nat → Nat) : Nat := su (fun i => gm_cost W S m SL i) m
theorem gsm_le {W S SL : Nat → Nat} {m : Nat} (hm : m ≤ 4) (h1 : ∀ k, k < m → W k ≤ 359) (h2 : ∀ k, k < m → S k ≤ 199) (h3 : ∀ k, k < m → SL k ≤ 9) : gsm W S m SL ≤ 5000 := by
  have := su_le (f := fun i => gm_cost W S m SL i) (B := 1008) m (fun k hk => gm_cost_le (h1 k hk) (h2 k hk) (h3 k hk))
  unfold gsm
  omega
theorem pz_sum8 {N : Nat} {τ : nb_St} {W S : Nat → Nat} {m : Nat} {SL : Nat → Nat} (hN : 10 < N) (h : gs τ 0 29 30 31 36 W S m SL) : fX8_sumOfCosts N τ = some (nI (gsm W S m SL)) := by
  have hc : ∀ i, i < m → fX8_costOf N τ (nI i) = some (nI (gm_cost W S m SL i)) := fun i hi => pu_cost8 (by omega) h hi
  obtain ⟨a1, a2, -⟩ := h
  apply pn_x
  unfold fX8_sumOfCosts
  refine nb_e2 (I := fun j x y => j ≤ m ∧ y = nI j ∧ x = nI (su (fun i => gm_cost W S m SL i) j)) m ?_ (by omega) ⟨by omega, rfl, rfl⟩
  rintro ag j x y ⟨hj, rfl, rfl⟩
  by_cases hlt : j < m
  · right
    have r1 := hc j hlt
    refine ⟨hlt, nI (su (fun i => gm_cost W S m SL i) (j + 1)), nI (j + 1), ⟨by omega, rfl, rfl⟩, ?_⟩
    show _ = ag (nI (su (fun i => gm_cost W S m SL i) j + gm_cost W S m SL j)) _
    simp (disch := omega) only [pn_g, pu_b1, pn_b2, pn_leT, pn_leF, pn_ltT, pn_ltF, pn_eqT, pn_eqF, pu_in, pu_ix, nI_add, pk_mul, pk_sub, ↓reduceIte, Bool.false_eq_true, if_false, if_true, nb_st_s, nb_st_k, nb_st_n, nb_sa_s, nb_sa_n, pL0, pL1, pL2, pL3, pL4, pL5, pL6, pL7, pL8, pL9, pL10, pL11, pL12, pL13, pL15, pL20, pL30, pL99, pL100, pL180, pL240, pL255, pL350, pL359, pL719, pL720, pL999, pL9999, pL99999, pL100000, pL1000000, nb_let, a1, r1]
  · left
    have : j = m := by omega
    subst this
    refine ⟨_, ?_, rfl⟩
    simp (disch := omega) only [pn_g, pu_b1, pn_b2, pn_leT, pn_leF, pn_ltT, pn_ltF, pn_eqT, pn_eqF, pu_in, pu_ix, nI_add, pk_mul, pk_sub, ↓reduceIte, Bool.false_eq_true, if_false, if_true, nb_st_s, nb_st_k, nb_st_n, nb_sa_s, nb_sa_n, pL0, pL1, pL2, pL3, pL4, pL5, pL6, pL7, pL8, pL9, pL10, pL11, pL12, pL13, pL15, pL20, pL30, pL99, pL100, pL180, pL240, pL255, pL350, pL359, pL719, pL720, pL999, pL9999, pL99999, pL100000, pL1000000, a1]
    rfl
theorem pz_codes {N : Nat} {τ : nb_St} {m : Nat} (hN : 10 < N) (hm : m ≤ 4) (h : τ 0 36 = nI m) : fX8_codesOf N τ = some (nI (6 ^ m)) := by
  apply pn_x
  unfold fX8_codesOf
  refine nb_e2 (I := fun j x y => j ≤ m ∧ y = nI j ∧ x = nI (6 ^ j)) m ?_ (by omega) ⟨by omega, rfl, rfl⟩
  rintro ag j x y ⟨hj, rfl, rfl⟩
  by_cases hlt : j < m
  · right
    refine ⟨hlt, nI (6 ^ (j + 1)), nI (j + 1), ⟨by omega, rfl, rfl⟩, ?_⟩
    rw [Nat.pow_succ]
    simp (disch := omega) only [pn_g, pu_b1, pn_b2, pn_leT, pn_leF, pn_ltT, pn_ltF, pn_eqT, pn_eqF, pu_in, pu_ix, nI_add, pk_mul, pk_sub, ↓reduceIte, Bool.false_eq_true, if_false, if_true, nb_st_s, nb_st_k, nb_st_n, nb_sa_s, nb_sa_n, pL0, pL1, pL2, pL3, pL4, pL5, pL6, pL7, pL8, pL9, pL10, pL11, pL12, pL13, pL15, pL20, pL30, pL99, pL100, pL180, pL240, pL255, pL350, pL359, pL719, pL720, pL999, pL9999, pL99999, pL100000, pL1000000, nb_let, h]
  · left
    have : j = m := by omega
    subst this
    refine ⟨_, ?_, rfl⟩
    simp (disch := omega) only [pn_g, pu_b1, pn_b2, pn_leT, pn_leF, pn_ltT, pn_ltF, pn_eqT, pn_eqF, pu_in, pu_ix, nI_add, pk_mul, pk_sub, ↓reduceIte, Bool.false_eq_true, if_false, if_true, nb_st_s, nb_st_k, nb_st_n, nb_sa_s, nb_sa_n, pL0, pL1, pL2, pL3, pL4, pL5, pL6, pL7, pL8, pL9, pL10, pL11, pL12, pL13, pL15, pL20, pL30, pL99, pL100, pL180, pL240, pL255, pL350, pL359, pL719, pL720, pL999, pL9999, pL99999, pL100000, pL1000000, h]
theorem pz_choose7 {N : Nat} {s : nb_St} {c m : Nat} (hN : 10 < N) (hc : c < 10000) (hm : m ≤ 4) (h : s 64 1 = nI m) : ∃ r, fX1_choose N s (nI c) = some r ∧ (∀ k, k ≠ 67 → r k = s k) ∧ ∀ k, k < m → r 67 k = nI (dg 6 m c k) := by
  unfold fX1_choose
  simp only [nb_let]
  rw [h, pu_cn0]
  refine nb_e3 (I := fun j x y t => j ≤ m ∧ y = pu_cn m j ∧ x = nI (c / 6 ^ j) ∧ (∀ k, k ≠ 67 → t k = s k) ∧ ∀ k, m - j ≤ k → k < m → t 67 k = nI (dg 6 m c k)) m ?_ (by omega) ⟨by omega, rfl, by rw [Nat.pow_zero, Nat.div_one], fun _ _ => rfl, fun k h1 h2 => absurd h1 (by omega)⟩
  rintro ag j x y t ⟨hj, rfl, rfl, f1, f2⟩
  have hle := dv_le (b := 6) (c := c) (j := j)
  by_cases hlt : j < m
  · right
    refine ⟨hlt, nI (c / 6 ^ (j + 1)), pu_cn m (j + 1), nb_st t 67 (m - 1 - j) (nI (dg 6 m c (m - 1 - j))), ⟨by omega, rfl, rfl, fun k hk => by rw [nb_st_k hk]; exact f1 k hk, fun k h1 h2 => ?_⟩, ?_⟩
    · by_cases q : k = m - 1 - j
      · subst q; exact nb_st_s
      · rw [nb_st_n (Or.inr q)]; exact f2 k (by omega) h2
    · have e : dg 6 m c (m - 1 - j) = c / 6 ^ j % 6 := by
        unfold dg
        rw [show m - 1 - (m - 1 - j) = j by omega]
      rw [pu_cn_s hlt, pu_cnT hlt, e, ← dv_s, if_neg (nI_pos (by omega)), nb_g_t (pu_in (by omega) (by omega)), pu_ix (by omega), show (6 : Int32) = nI 6 from rfl, pu_rem (by omega) (by omega) (by omega), pk_div (by omega) (by omega) (by omega)]
  · left
    have : j = m := by omega
    subst this
    refine ⟨t, ?_, f1, fun k hk => f2 k (by omega) hk⟩
    rw [pu_cnF, if_pos (by decide)]
theorem pz_choose8 {N : Nat} {s : nb_St} {c m : Nat} (hN : 10 < N) (hc : c < 10000) (hm : m ≤ 4) (h : s 0 36 = nI m) : ∃ r, fX8_takeSlots N s (nI c) = some r ∧ (∀ k, k ≠ 31 → r k = s k) ∧ ∀ k, k < m → r 31 k = nI (dg 6 m c k) := by
  unfold fX8_takeSlots
  simp only [nb_let]
  rw [h, pu_cn0]
  refine nb_e3 (I := fun j x y t => j ≤ m ∧ y = pu_cn m j ∧ x = nI (c / 6 ^ j) ∧ (∀ k, k ≠ 31 → t k = s k) ∧ ∀ k, m - j ≤ k → k < m → t 31 k = nI (dg 6 m c k)) m ?_ (by omega) ⟨by omega, rfl, by rw [Nat.pow_zero, Nat.div_one], fun _ _ => rfl, fun k h1 h2 => absurd h1 (by omega)⟩
  rintro ag j x y t ⟨hj, rfl, rfl, f1, f2⟩
  have hle := dv_le (b := 6) (c := c) (j := j)
  by_cases hlt : j < m
  · right
    refine ⟨hlt, nI (c / 6 ^ (j + 1)), pu_cn m (j + 1), nb_st t 31 (m - 1 - j) (nI (dg 6 m c (m - 1 - j))), ⟨by omega, rfl, rfl, fun k hk => by rw [nb_st_k hk]; exact f1 k hk, fun k h1 h2 => ?_⟩, ?_⟩
    · by_cases q : k = m - 1 - j
      · subst q; exact nb_st_s
      · rw [nb_st_n (Or.inr q)]; exact f2 k (by omega) h2
    · have e : dg 6 m c (m - 1 - j) = c / 6 ^ j % 6 := by
        unfold dg
        rw [show m - 1 - (m - 1 - j) = j by omega]
      rw [pu_cn_s hlt, pu_cnT hlt, e, ← dv_s, if_neg (nI_pos (by omega)), nb_g_t (pu_in (by omega) (by omega)), pu_ix (by omega), show (6 : Int32) = nI 6 from rfl, pu_rem (by omega) (by omega) (by omega), pk_div (by omega) (by omega) (by omega)]
  · left
    have : j = m := by omega
    subst this
    refine ⟨t, ?_, f1, fun k hk => f2 k (by omega) hk⟩
    rw [pu_cnF, if_pos (by decide)]
end
