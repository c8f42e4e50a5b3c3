def di (a b : Nat) : Nat := (a - b) + (b - a)
theorem pu_abs {a b : Nat} (ha : a < 2 ^ 30) (hb : b < 2 ^ 30) : nb_abs (nI a - nI b) = nI (di a b) := by
  unfold nb_abs di
  by_cases h : b ≤ a
  · rw [pk_sub h, if_pos (nI_pos' (by omega))]
    congr 1
    omega
  · rw [if_neg (Int32.not_le.mpr (pk_sneg hb (by omega)))]
    have e : (0 : Int32) - (nI a - nI b) = nI b - nI a := by
      rw [Int32.zero_sub, Int32.neg_sub]
    rw [e, pk_sub (by omega)]
    congr 1
    omega
theorem pu_away {N : Nat} {τ : nb_St} {a b : Nat} (ha : a < 2 ^ 30) (hb : b < 2 ^ 30) : fX8_away N τ (nI a) (nI b) = some (nI (di a b)) := by
  unfold fX8_away di
  by_cases h : b ≤ a
  · rw [if_pos (nI_le h (by omega)), pk_sub h]
    congr 2
    omega
  · rw [if_neg (nI_ge (by omega) (by omega)), pk_sub (by omega)]
    congr 2
    omega
def us (f : Nat → Nat) (i x : Nat) : Nat → Nat := fun k => if k = i then x else f k
def gm_first (SL : Nat → Nat) (m i : Nat) : Bool := decide (∀ k, k < m → k = i ∨ SL i < SL k)
def gm_cost (W S : Nat → Nat) (m : Nat) (SL : Nat → Nat) (i : Nat) : Nat := di (180 + 30 * SL i) (W i) + if gm_first SL m i = true then S i else 0
def gm_stay (W S : Nat → Nat) (m : Nat) (SL : Nat → Nat) (i : Nat) : Bool := (List.range 6).all (fun x => decide (gm_cost W S m SL i ≤ gm_cost W S m (us SL i x) i))
theorem gm_stay_t {W S : Nat → Nat} {m : Nat} {SL : Nat → Nat} {i : Nat} : gm_stay W S m SL i = true ↔ ∀ x, x < 6 → gm_cost W S m SL i ≤ gm_cost W S m (us SL i x) i := by
  unfold gm_stay
  rw [List.all_eq_true]
  constructor
  · intro h x hx; exact of_decide_eq_true (h x (List.mem_range.mpr hx))
  · intro h x hx; exact decide_eq_true (h x (List.mem_range.mp hx))
def gm_rest (W S : Nat → Nat) (m : Nat) (SL : Nat → Nat) : Bool := decide (∀ i, i < m → gm_stay W S m SL i = true)
def gs (σ : nb_St) (c d e f s : Nat) (W S : Nat → Nat) (m : Nat) (SL : Nat → Nat) : Prop := σ c s = nI m ∧ m ≤ 4 ∧ (∀ k, k < m → σ d k = nI (W k)) ∧ (∀ k, k < m → W k ≤ 359) ∧ (∀ k, k < m → σ e k = nI (S k)) ∧ (∀ k, k < m → S k ≤ 199) ∧ (∀ k, k < m → σ f k = nI (SL k)) ∧ (∀ k, k < m → SL k ≤ 9)
theorem gs_st {σ : nb_St} {c d e f s : Nat} {W S : Nat → Nat} {m : Nat} {SL : Nat → Nat} {i x : Nat} (h : gs σ c d e f s W S m SL) (h1 : c ≠ f) (h2 : d ≠ f) (h3 : e ≠ f) (hx : x ≤ 9) : gs (nb_st σ f i (nI x)) c d e f s W S m (us SL i x) := by
  obtain ⟨a1, a2, a3, a4, a5, a6, a7, a8⟩ := h
  refine ⟨by rw [nb_st_k h1]; exact a1, a2, fun k hk => by rw [nb_st_k h2]; exact a3 k hk, a4, fun k hk => by rw [nb_st_k h3]; exact a5 k hk, a6, fun k hk => ?_, fun k hk => ?_⟩
  · unfold us
    by_cases hki : k = i
    · subst hki; rw [nb_st_s, if_pos rfl]
    · rw [nb_st_n (Or.inr hki), if_neg hki]; exact a7 k hk
  · unfold us
    have := a8 k hk
    split <;> omega
theorem gm_cost_le {W S SL : Nat → Nat} {m i : Nat} (h1 : W i ≤ 359) (h2 : S i ≤ 199) (h3 : SL i ≤ 9) : gm_cost W S m SL i ≤ 1008 := by
  unfold gm_cost di
  split <;> omega
theorem pu_first7 {N : Nat} {σ : nb_St} {W S : Nat → Nat} {m : Nat} {SL : Nat → Nat} {i : Nat} (hN : 8 < N) (h : gs σ 64 65 66 67 1 W S m SL) (hi : i < m) : fX1_isFirstAlone N σ (nI i) = some (if gm_first SL m i = true then 1 else 0) := by
  obtain ⟨a1, a2, a3, a4, a5, a6, a7, a8⟩ := h
  apply pn_x
  unfold fX1_isFirstAlone
  refine nb_e1 (I := fun j x => j ≤ m ∧ x = nI j ∧ ∀ k, k < j → k = i ∨ SL i < SL k) m ?_ (by omega) ⟨by omega, rfl, fun k hk => absurd hk (by omega)⟩
  rintro ag j x ⟨hj, rfl, hf⟩
  by_cases hlt : j < m
  · have b1 := a8 j hlt
    have b2 := a8 i hi
    by_cases c : j = i ∨ SL i < SL j
    · right
      refine ⟨hlt, nI (j + 1), ⟨by omega, rfl, fun k hk => ?_⟩, ?_⟩
      · by_cases hkj : k = j
        · subst hkj; exact c
        · exact hf k (by omega)
      · by_cases c1 : j = i
        · simp (disch := omega) only [pn_g, pu_b1, pn_b2, pn_leT, pn_leF, pn_ltT, pn_ltF, pn_eqT, pn_eqF, pu_in, pu_ix, nI_add, pk_mul, pk_sub, ↓reduceIte, Bool.false_eq_true, if_false, if_true, nb_st_s, nb_st_k, nb_st_n, nb_sa_s, nb_sa_n, pL0, pL1, pL2, pL3, pL4, pL5, pL6, pL7, pL8, pL9, pL10, pL11, pL12, pL13, pL15, pL20, pL30, pL99, pL100, pL180, pL240, pL255, pL350, pL359, pL719, pL720, pL999, pL9999, pL99999, pL100000, pL1000000, a1, nb_let, c1]
        · have c2 : SL i < SL j := by omega
          simp (disch := omega) only [pn_g, pu_b1, pn_b2, pn_leT, pn_leF, pn_ltT, pn_ltF, pn_eqT, pn_eqF, pu_in, pu_ix, nI_add, pk_mul, pk_sub, ↓reduceIte, Bool.false_eq_true, if_false, if_true, nb_st_s, nb_st_k, nb_st_n, nb_sa_s, nb_sa_n, pL0, pL1, pL2, pL3, pL4, pL5, pL6, pL7, pL8, pL9, pL10, pL11, pL12, pL13, pL15, pL20, pL30, pL99, pL100, pL180, pL240, pL255, pL350, pL359, pL719, pL720, pL999, pL9999, pL99999, pL100000, pL1000000, a1, a7, nb_let, c1, c2]
    · left
      refine ⟨0, ?_, ?_⟩
      · simp (disch := omega) only [pn_g, pu_b1, pn_b2, pn_leT, pn_leF, pn_ltT, pn_ltF, pn_eqT, pn_eqF, pu_in, pu_ix, nI_add, pk_mul, pk_sub, ↓reduceIte, Bool.false_eq_true, if_false, if_true, nb_st_s, nb_st_k, nb_st_n, nb_sa_s, nb_sa_n, pL0, pL1, pL2, pL3, pL4, pL5, pL6, pL7, pL8, pL9, pL10, pL11, pL12, pL13, pL15, pL20, pL30, pL99, pL100, pL180, pL240, pL255, pL350, pL359, pL719, pL720, pL999, pL9999, pL99999, pL100000, pL1000000, a1, a7, nb_let, c]
      · have : gm_first SL m i = false := decide_eq_false (fun q => c (q j hlt))
        rw [this]
        rfl
  · left
    have : j = m := by omega
    subst this
    refine ⟨1, by simp (disch := omega) only [pn_g, pu_b1, pn_b2, pn_leT, pn_leF, pn_ltT, pn_ltF, pn_eqT, pn_eqF, pu_in, pu_ix, nI_add, pk_mul, pk_sub, ↓reduceIte, Bool.false_eq_true, if_false, if_true, nb_st_s, nb_st_k, nb_st_n, nb_sa_s, nb_sa_n, pL0, pL1, pL2, pL3, pL4, pL5, pL6, pL7, pL8, pL9, pL10, pL11, pL12, pL13, pL15, pL20, pL30, pL99, pL100, pL180, pL240, pL255, pL350, pL359, pL719, pL720, pL999, pL9999, pL99999, pL100000, pL1000000, a1], ?_⟩
    have : gm_first SL j i = true := decide_eq_true hf
    rw [this]
    rfl
theorem pu_cost7 {N : Nat} {σ : nb_St} {W S : Nat → Nat} {m : Nat} {SL : Nat → Nat} {i : Nat} (hN : 8 < N) (h : gs σ 64 65 66 67 1 W S m SL) (hi : i < m) : fX1_costOf N σ (nI i) = some (nI (gm_cost W S m SL i)) := by
  have hf := pu_first7 hN h hi
  obtain ⟨a1, a2, a3, a4, a5, a6, a7, a8⟩ := h
  have b1 := a4 i hi
  have b2 := a6 i hi
  have b3 := a8 i hi
  unfold fX1_costOf gm_cost
  simp (disch := omega) only [pn_g, pu_b1, pn_b2, pn_leT, pn_leF, pn_ltT, pn_ltF, pn_eqT, pn_eqF, pu_in, pu_ix, nI_add, pk_mul, pk_sub, ↓reduceIte, Bool.false_eq_true, if_false, if_true, nb_st_s, nb_st_k, nb_st_n, nb_sa_s, nb_sa_n, pL0, pL1, pL2, pL3, pL4, pL5, pL6, pL7, pL8, pL9, pL10, pL11, pL12, pL13, pL15, pL20, pL30, pL99, pL100, pL180, pL240, pL255, pL350, pL359, pL719, pL720, pL999, pL9999, pL99999, pL100000, pL1000000, a3, a5, a7, nb_let, hf, pu_abs]
  by_cases c : gm_first SL m i = true
  · simp (disch := omega) only [pn_g, pu_b1, pn_b2, pn_leT, pn_leF, pn_ltT, pn_ltF, pn_eqT, pn_eqF, pu_in, pu_ix, nI_add, pk_mul, pk_sub, ↓reduceIte, Bool.false_eq_true, if_false, if_true, nb_st_s, nb_st_k, nb_st_n, nb_sa_s, nb_sa_n, pL0, pL1, pL2, pL3, pL4, pL5, pL6, pL7, pL8, pL9, pL10, pL11, pL12, pL13, pL15, pL20, pL30, pL99, pL100, pL180, pL240, pL255, pL350, pL359, pL719, pL720, pL999, pL9999, pL99999, pL100000, pL1000000, c]
  · simp (disch := omega) only [pn_g, pu_b1, pn_b2, pn_leT, pn_leF, pn_ltT, pn_ltF, pn_eqT, pn_eqF, pu_in, pu_ix, nI_add, pk_mul, pk_sub, ↓reduceIte, Bool.false_eq_true, if_false, if_true, nb_st_s, nb_st_k, nb_st_n, nb_sa_s, nb_sa_n, pL0, pL1, pL2, pL3, pL4, pL5, pL6, pL7, pL8, pL9, pL10, pL11, pL12, pL13, pL15, pL20, pL30, pL99, pL100, pL180, pL240, pL255, pL350, pL359, pL719, pL720, pL999, pL9999, pL99999, pL100000, pL1000000, c]
    rfl
theorem pu_cost8 {N : Nat} {τ : nb_St} {W S : Nat → Nat} {m : Nat} {SL : Nat → Nat} {i : Nat} (hN : 8 < N) (h : gs τ 0 29 30 31 36 W S m SL) (hi : i < m) : fX8_costOf N τ (nI i) = some (nI (gm_cost W S m SL i)) := by
  obtain ⟨a1, a2, a3, a4, a5, a6, a7, a8⟩ := h
  have b1 := a4 i hi
  have b2 := a6 i hi
  have b3 := a8 i hi
  apply pn_x
  unfold fX8_costOf
  refine nb_e2 (I := fun j y x => j ≤ m ∧ x = nI j ∧ y = if gm_first SL j i = true then nI 1 else nI 0) m ?_ (by omega) ⟨by omega, rfl, ?_⟩
  · rintro ag j y x ⟨hj, rfl, rfl⟩
    by_cases hlt : j < m
    · right
      have b4 := a8 j hlt
      refine ⟨hlt, _, nI (j + 1), ⟨by omega, rfl, rfl⟩, ?_⟩
      by_cases c0 : gm_first SL j i = true
      · by_cases c : j = i ∨ SL i < SL j
        · have e : gm_first SL (j + 1) i = true := decide_eq_true (fun k hk => by
            by_cases hkj : k = j
            · subst hkj; exact c
            · exact of_decide_eq_true c0 k (by omega))
          by_cases c1 : j = i
          · subst c1
            simp (disch := omega) only [pn_g, pu_b1, pn_b2, pn_leT, pn_leF, pn_ltT, pn_ltF, pn_eqT, pn_eqF, pu_in, pu_ix, nI_add, pk_mul, pk_sub, ↓reduceIte, Bool.false_eq_true, if_false, if_true, nb_st_s, nb_st_k, nb_st_n, nb_sa_s, nb_sa_n, pL0, pL1, pL2, pL3, pL4, pL5, pL6, pL7, pL8, pL9, pL10, pL11, pL12, pL13, pL15, pL20, pL30, pL99, pL100, pL180, pL240, pL255, pL350, pL359, pL719, pL720, pL999, pL9999, pL99999, pL100000, pL1000000, a1, nb_let, c0, e]
          · have c2 : SL i < SL j := by omega
            simp (disch := omega) only [pn_g, pu_b1, pn_b2, pn_leT, pn_leF, pn_ltT, pn_ltF, pn_eqT, pn_eqF, pu_in, pu_ix, nI_add, pk_mul, pk_sub, ↓reduceIte, Bool.false_eq_true, if_false, if_true, nb_st_s, nb_st_k, nb_st_n, nb_sa_s, nb_sa_n, pL0, pL1, pL2, pL3, pL4, pL5, pL6, pL7, pL8, pL9, pL10, pL11, pL12, pL13, pL15, pL20, pL30, pL99, pL100, pL180, pL240, pL255, pL350, pL359, pL719, pL720, pL999, pL9999, pL99999, pL100000, pL1000000, a1, a7, nb_let, c0, c1, c2, e]
        · have e : ¬ gm_first SL (j + 1) i = true := fun q => c (of_decide_eq_true q j (by omega))
          simp (disch := omega) only [pn_g, pu_b1, pn_b2, pn_leT, pn_leF, pn_ltT, pn_ltF, pn_eqT, pn_eqF, pu_in, pu_ix, nI_add, pk_mul, pk_sub, ↓reduceIte, Bool.false_eq_true, if_false, if_true, nb_st_s, nb_st_k, nb_st_n, nb_sa_s, nb_sa_n, pL0, pL1, pL2, pL3, pL4, pL5, pL6, pL7, pL8, pL9, pL10, pL11, pL12, pL13, pL15, pL20, pL30, pL99, pL100, pL180, pL240, pL255, pL350, pL359, pL719, pL720, pL999, pL9999, pL99999, pL100000, pL1000000, a1, a7, nb_let, c0, e]
      · have e : ¬ gm_first SL (j + 1) i = true := fun q => c0 (decide_eq_true (fun k hk => of_decide_eq_true q k (by omega)))
        simp (disch := omega) only [pn_g, pu_b1, pn_b2, pn_leT, pn_leF, pn_ltT, pn_ltF, pn_eqT, pn_eqF, pu_in, pu_ix, nI_add, pk_mul, pk_sub, ↓reduceIte, Bool.false_eq_true, if_false, if_true, nb_st_s, nb_st_k, nb_st_n, nb_sa_s, nb_sa_n, pL0, pL1, pL2, pL3, pL4, pL5, pL6, pL7, pL8, pL9, pL10, pL11, pL12, pL13, pL15, pL20, pL30, pL99, pL100, pL180, pL240, pL255, pL350, pL359, pL719, pL720, pL999, pL9999, pL99999, pL100000, pL1000000, a1, nb_let, c0, e]
    · left
      have : j = m := by omega
      subst this
      refine ⟨_, ?_, rfl⟩
      unfold gm_cost
      by_cases c : gm_first SL j i = true
      · simp (disch := omega) only [pn_g, pu_b1, pn_b2, pn_leT, pn_leF, pn_ltT, pn_ltF, pn_eqT, pn_eqF, pu_in, pu_ix, nI_add, pk_mul, pk_sub, ↓reduceIte, Bool.false_eq_true, if_false, if_true, nb_st_s, nb_st_k, nb_st_n, nb_sa_s, nb_sa_n, pL0, pL1, pL2, pL3, pL4, pL5, pL6, pL7, pL8, pL9, pL10, pL11, pL12, pL13, pL15, pL20, pL30, pL99, pL100, pL180, pL240, pL255, pL350, pL359, pL719, pL720, pL999, pL9999, pL99999, pL100000, pL1000000, a1, a3, a5, a7, nb_let, pu_away, c]
      · simp (disch := omega) only [pn_g, pu_b1, pn_b2, pn_leT, pn_leF, pn_ltT, pn_ltF, pn_eqT, pn_eqF, pu_in, pu_ix, nI_add, pk_mul, pk_sub, ↓reduceIte, Bool.false_eq_true, if_false, if_true, nb_st_s, nb_st_k, nb_st_n, nb_sa_s, nb_sa_n, pL0, pL1, pL2, pL3, pL4, pL5, pL6, pL7, pL8, pL9, pL10, pL11, pL12, pL13, pL15, pL20, pL30, pL99, pL100, pL180, pL240, pL255, pL350, pL359, pL719, pL720, pL999, pL9999, pL99999, pL100000, pL1000000, a1, a3, a5, a7, nb_let, pu_away, c]
  · have : gm_first SL 0 i = true := decide_eq_true (fun k hk => absurd hk (by omega))
    rw [if_pos this]
    rfl
