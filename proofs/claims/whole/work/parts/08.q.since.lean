theorem pn_fun {f : Nat → Int32} {n a b : Nat} (hb : b < 2 ^ 31) (h : ∀ k, k < n → pr_rng (f k) a b) : ∃ F : Nat → Nat, (∀ k, k < n → f k = nI (F k)) ∧ ∀ k, k < n → a ≤ F k ∧ F k ≤ b := by
  have key : ∀ k, k < n → f k = nI (nb_ix (f k)) ∧ a ≤ nb_ix (f k) ∧ nb_ix (f k) ≤ b := by
    intro k hk
    obtain ⟨m, h1, h2, h3⟩ := h k hk
    rw [h3, pu_ix (by omega)]
    exact ⟨rfl, h1, h2⟩
  exact ⟨fun k => nb_ix (f k), fun k hk => (key k hk).1, fun k hk => (key k hk).2⟩
theorem pn_w7 {N : Nat} {σ : nb_St} {a b c : Int32} : nb_b (fX7_within N σ a b c) = nb_b (some (if b ≤ a ∧ a ≤ c then 1 else 0)) (R := Int32) := by rw [pu_within]
def lw_1 (o m y i F : Nat) : Nat := if o = i then (if m < F then (if y = 1 then 0 else 10) else (if y = 1 then 3 else 7)) else 1
theorem lw_1le {o m y i F : Nat} : lw_1 o m y i F ≤ 10 := by
  unfold lw_1
  split
  · split <;> split <;> omega
  · omega
theorem pu_wol {N : Nat} {σ : nb_St} {p w i F : Nat} {LO LM LY : Nat → Nat} (hN : 8 < N) (hw : w ≤ 6) (h0 : σ p 14 = nI w) (h1 : ∀ k, k < w → σ (p + 13) k = nI (LO k)) (h1b : ∀ k, k < w → 0 ≤ LO k ∧ LO k ≤ 7) (h2 : ∀ k, k < w → σ (p + 14) k = nI (LM k)) (h2b : ∀ k, k < w → 0 ≤ LM k ∧ LM k ≤ 359) (h3 : ∀ k, k < w → σ (p + 15) k = nI (LY k)) (h3b : ∀ k, k < w → 0 ≤ LY k ∧ LY k ≤ 1) (hi : i < 8) (hF : F ≤ 359) : fX4_weightOfLooks N σ p (nI i) (nI F) = some (nI (sp (fun k => lw_1 (LO k) (LM k) (LY k) i F) w)) := by
  apply pn_x
  unfold fX4_weightOfLooks
  refine nb_e2 (I := fun j x y => j ≤ w ∧ y = nI j ∧ x = nI (sp (fun k => lw_1 (LO k) (LM k) (LY k) i F) j)) w ?_ (by omega) ⟨by omega, rfl, rfl⟩
  rintro ag j x y ⟨hj, rfl, rfl⟩
  by_cases hlt : j < w
  · right
    refine ⟨hlt, _, _, ⟨by omega, rfl, rfl⟩, ?_⟩
    have b1 := h1b j hlt
    have b2 := h2b j hlt
    have b3 := h3b j hlt
    have e : sp (fun k => lw_1 (LO k) (LM k) (LY k) i F) (j + 1) = sp (fun k => lw_1 (LO k) (LM k) (LY k) i F) j * lw_1 (LO j) (LM j) (LY j) i F := rfl
    rw [e]
    unfold lw_1
    by_cases c1 : LO j = i
    · by_cases c2 : LM j < F
      · by_cases c3 : LY j = 1
        · simp (disch := omega) only [pn_g, pu_b1, pn_b2, pn_leT, pn_leF, pn_ltT, pn_ltF, pn_eqT, pn_eqF, pu_in, pu_ix, nI_add, pk_mul, pk_sub, ↓reduceIte, Bool.false_eq_true, if_false, if_true, nb_st_s, nb_st_k, nb_st_n, nb_sa_s, nb_sa_n, pL0, pL1, pL2, pL3, pL4, pL5, pL6, pL7, pL8, pL9, pL10, pL11, pL12, pL13, pL15, pL20, pL30, pL99, pL100, pL180, pL240, pL255, pL350, pL359, pL719, pL720, pL999, pL9999, pL99999, pL100000, pL1000000, h0, h1, h2, h3, nb_let, fX4_weightOfLook, c1, c2, c3]
        · simp (disch := omega) only [pn_g, pu_b1, pn_b2, pn_leT, pn_leF, pn_ltT, pn_ltF, pn_eqT, pn_eqF, pu_in, pu_ix, nI_add, pk_mul, pk_sub, ↓reduceIte, Bool.false_eq_true, if_false, if_true, nb_st_s, nb_st_k, nb_st_n, nb_sa_s, nb_sa_n, pL0, pL1, pL2, pL3, pL4, pL5, pL6, pL7, pL8, pL9, pL10, pL11, pL12, pL13, pL15, pL20, pL30, pL99, pL100, pL180, pL240, pL255, pL350, pL359, pL719, pL720, pL999, pL9999, pL99999, pL100000, pL1000000, h0, h1, h2, h3, nb_let, fX4_weightOfLook, c1, c2, c3]
      · by_cases c3 : LY j = 1
        · simp (disch := omega) only [pn_g, pu_b1, pn_b2, pn_leT, pn_leF, pn_ltT, pn_ltF, pn_eqT, pn_eqF, pu_in, pu_ix, nI_add, pk_mul, pk_sub, ↓reduceIte, Bool.false_eq_true, if_false, if_true, nb_st_s, nb_st_k, nb_st_n, nb_sa_s, nb_sa_n, pL0, pL1, pL2, pL3, pL4, pL5, pL6, pL7, pL8, pL9, pL10, pL11, pL12, pL13, pL15, pL20, pL30, pL99, pL100, pL180, pL240, pL255, pL350, pL359, pL719, pL720, pL999, pL9999, pL99999, pL100000, pL1000000, h0, h1, h2, h3, nb_let, fX4_weightOfLook, c1, c2, c3]
        · simp (disch := omega) only [pn_g, pu_b1, pn_b2, pn_leT, pn_leF, pn_ltT, pn_ltF, pn_eqT, pn_eqF, pu_in, pu_ix, nI_add, pk_mul, pk_sub, ↓reduceIte, Bool.false_eq_true, if_false, if_true, nb_st_s, nb_st_k, nb_st_n, nb_sa_s, nb_sa_n, pL0, pL1, pL2, pL3, pL4, pL5, pL6, pL7, pL8, pL9, pL10, pL11, pL12, pL13, pL15, pL20, pL30, pL99, pL100, pL180, pL240, pL255, pL350, pL359, pL719, pL720, pL999, pL9999, pL99999, pL100000, pL1000000, h0, h1, h2, h3, nb_let, fX4_weightOfLook, c1, c2, c3]
    · simp (disch := omega) only [pn_g, pu_b1, pn_b2, pn_leT, pn_leF, pn_ltT, pn_ltF, pn_eqT, pn_eqF, pu_in, pu_ix, nI_add, pk_mul, pk_sub, ↓reduceIte, Bool.false_eq_true, if_false, if_true, nb_st_s, nb_st_k, nb_st_n, nb_sa_s, nb_sa_n, pL0, pL1, pL2, pL3, pL4, pL5, pL6, pL7, pL8, pL9, pL10, pL11, pL12, pL13, pL15, pL20, pL30, pL99, pL100, pL180, pL240, pL255, pL350, pL359, pL719, pL720, pL999, pL9999, pL99999, pL100000, pL1000000, h0, h1, h2, h3, nb_let, fX4_weightOfLook, c1, Nat.mul_one]
  · left
    have : j = w := by omega
    subst this
    refine ⟨_, ?_, rfl⟩
    simp (disch := omega) only [pn_g, pu_b1, pn_b2, pn_leT, pn_leF, pn_ltT, pn_ltF, pn_eqT, pn_eqF, pu_in, pu_ix, nI_add, pk_mul, pk_sub, ↓reduceIte, Bool.false_eq_true, if_false, if_true, nb_st_s, nb_st_k, nb_st_n, nb_sa_s, nb_sa_n, pL0, pL1, pL2, pL3, pL4, pL5, pL6, pL7, pL8, pL9, pL10, pL11, pL12, pL13, pL15, pL20, pL30, pL99, pL100, pL180, pL240, pL255, pL350, pL359, pL719, pL720, pL999, pL9999, pL99999, pL100000, pL1000000, h0]
theorem pu_sof {N : Nat} {τ : nb_St} {w i v : Nat} {LO LM LY : Nat → Nat} (hN : 8 < N) (hw : w ≤ 6) (h0 : τ 15 0 = nI w) (h1 : ∀ k, k < w → τ 16 k = nI (LO k)) (h1b : ∀ k, k < w → 0 ≤ LO k ∧ LO k ≤ 7) (h2 : ∀ k, k < w → τ 17 k = nI (LM k)) (h2b : ∀ k, k < w → 0 ≤ LM k ∧ LM k ≤ 359) (h3 : ∀ k, k < w → τ 18 k = nI (LY k)) (h3b : ∀ k, k < w → 0 ≤ LY k ∧ LY k ≤ 1) (hi : i < 8) (hF : v < 12) : fX8_sinceOf N τ (nI i) (nI v) = some (lN (sp (fun k => lw_1 (LO k) (LM k) (LY k) i (30 * v)) w)) := by
  apply pn_x
  unfold fX8_sinceOf
  refine nb_e2 (I := fun j x y => j ≤ w ∧ y = nI j ∧ x = lN (sp (fun k => lw_1 (LO k) (LM k) (LY k) i (30 * v)) j)) w ?_ (by omega) ⟨by omega, rfl, rfl⟩
  rintro ag j x y ⟨hj, rfl, rfl⟩
  have l3 : (3 : Int64) = lN 3 := rfl
  have l7 : (7 : Int64) = lN 7 := rfl
  have l0 : (0 : Int64) = lN 0 := rfl
  have l10 : (10 : Int64) = lN 10 := rfl
  by_cases hlt : j < w
  · right
    refine ⟨hlt, _, _, ⟨by omega, rfl, rfl⟩, ?_⟩
    have b1 := h1b j hlt
    have b2 := h2b j hlt
    have b3 := h3b j hlt
    have e : sp (fun k => lw_1 (LO k) (LM k) (LY k) i (30 * v)) (j + 1) = sp (fun k => lw_1 (LO k) (LM k) (LY k) i (30 * v)) j * lw_1 (LO j) (LM j) (LY j) i (30 * v) := rfl
    rw [e]
    unfold lw_1
    by_cases c1 : LO j = i
    · by_cases c2 : LM j < 30 * v
      · by_cases c3 : LY j = 1
        · simp (disch := omega) only [pn_g, pu_b1, pn_b2, pn_leT, pn_leF, pn_ltT, pn_ltF, pn_eqT, pn_eqF, pu_in, pu_ix, nI_add, pk_mul, pk_sub, ↓reduceIte, Bool.false_eq_true, if_false, if_true, nb_st_s, nb_st_k, nb_st_n, nb_sa_s, nb_sa_n, pL0, pL1, pL2, pL3, pL4, pL5, pL6, pL7, pL8, pL9, pL10, pL11, pL12, pL13, pL15, pL20, pL30, pL99, pL100, pL180, pL240, pL255, pL350, pL359, pL719, pL720, pL999, pL9999, pL99999, pL100000, pL1000000, h0, h1, h2, h3, nb_let, c1, c2, c3, l3, l7, l0, l10, lN_mul]
        · simp (disch := omega) only [pn_g, pu_b1, pn_b2, pn_leT, pn_leF, pn_ltT, pn_ltF, pn_eqT, pn_eqF, pu_in, pu_ix, nI_add, pk_mul, pk_sub, ↓reduceIte, Bool.false_eq_true, if_false, if_true, nb_st_s, nb_st_k, nb_st_n, nb_sa_s, nb_sa_n, pL0, pL1, pL2, pL3, pL4, pL5, pL6, pL7, pL8, pL9, pL10, pL11, pL12, pL13, pL15, pL20, pL30, pL99, pL100, pL180, pL240, pL255, pL350, pL359, pL719, pL720, pL999, pL9999, pL99999, pL100000, pL1000000, h0, h1, h2, h3, nb_let, c1, c2, c3, l3, l7, l0, l10, lN_mul]
      · by_cases c3 : LY j = 1
        · simp (disch := omega) only [pn_g, pu_b1, pn_b2, pn_leT, pn_leF, pn_ltT, pn_ltF, pn_eqT, pn_eqF, pu_in, pu_ix, nI_add, pk_mul, pk_sub, ↓reduceIte, Bool.false_eq_true, if_false, if_true, nb_st_s, nb_st_k, nb_st_n, nb_sa_s, nb_sa_n, pL0, pL1, pL2, pL3, pL4, pL5, pL6, pL7, pL8, pL9, pL10, pL11, pL12, pL13, pL15, pL20, pL30, pL99, pL100, pL180, pL240, pL255, pL350, pL359, pL719, pL720, pL999, pL9999, pL99999, pL100000, pL1000000, h0, h1, h2, h3, nb_let, c1, c2, c3, l3, l7, l0, l10, lN_mul]
        · simp (disch := omega) only [pn_g, pu_b1, pn_b2, pn_leT, pn_leF, pn_ltT, pn_ltF, pn_eqT, pn_eqF, pu_in, pu_ix, nI_add, pk_mul, pk_sub, ↓reduceIte, Bool.false_eq_true, if_false, if_true, nb_st_s, nb_st_k, nb_st_n, nb_sa_s, nb_sa_n, pL0, pL1, pL2, pL3, pL4, pL5, pL6, pL7, pL8, pL9, pL10, pL11, pL12, pL13, pL15, pL20, pL30, pL99, pL100, pL180, pL240, pL255, pL350, pL359, pL719, pL720, pL999, pL9999, pL99999, pL100000, pL1000000, h0, h1, h2, h3, nb_let, c1, c2, c3, l3, l7, l0, l10, lN_mul]
    · simp (disch := omega) only [pn_g, pu_b1, pn_b2, pn_leT, pn_leF, pn_ltT, pn_ltF, pn_eqT, pn_eqF, pu_in, pu_ix, nI_add, pk_mul, pk_sub, ↓reduceIte, Bool.false_eq_true, if_false, if_true, nb_st_s, nb_st_k, nb_st_n, nb_sa_s, nb_sa_n, pL0, pL1, pL2, pL3, pL4, pL5, pL6, pL7, pL8, pL9, pL10, pL11, pL12, pL13, pL15, pL20, pL30, pL99, pL100, pL180, pL240, pL255, pL350, pL359, pL719, pL720, pL999, pL9999, pL99999, pL100000, pL1000000, h0, h1, h2, h3, nb_let, c1, Nat.mul_one]
  · left
    have : j = w := by omega
    subst this
    refine ⟨_, ?_, rfl⟩
    simp (disch := omega) only [pn_g, pu_b1, pn_b2, pn_leT, pn_leF, pn_ltT, pn_ltF, pn_eqT, pn_eqF, pu_in, pu_ix, nI_add, pk_mul, pk_sub, ↓reduceIte, Bool.false_eq_true, if_false, if_true, nb_st_s, nb_st_k, nb_st_n, nb_sa_s, nb_sa_n, pL0, pL1, pL2, pL3, pL4, pL5, pL6, pL7, pL8, pL9, pL10, pL11, pL12, pL13, pL15, pL20, pL30, pL99, pL100, pL180, pL240, pL255, pL350, pL359, pL719, pL720, pL999, pL9999, pL99999, pL100000, pL1000000, h0]
