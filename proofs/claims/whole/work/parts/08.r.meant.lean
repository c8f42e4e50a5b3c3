theorem pn_lt7 {N : Nat} {σ : nb_St} {x y : Nat} {c : Int32} (hN : 64 < N) (hx : x < 2 ^ 31) (hy : y < 2 ^ 31) : fX7_inLowestTerms N σ (nI x) (nI y) c = some (if y = 0 then -4 else nI ((if c = 0 then x else y) / Nat.gcd x y)) := by
  by_cases h : y = 0
  · subst h
    unfold fX7_inLowestTerms
    rw [if_neg (show ¬ (0 : Int32) < nI 0 from nI_nlt (by omega) (by omega)), if_pos rfl]
  · rw [pu_lowest7 hN hx (by omega) hy, if_neg h]
theorem pn_le8 {N : Nat} {τ : nb_St} {x y : Nat} {c : Int32} (hN : 64 < N) (hx : x < 2 ^ 31) (hy : y < 2 ^ 31) : (if lN y = 0 then some (-4 : Int32) else nb_b (fX8_lowest N τ (lN x) (lN y) c) fun r => some r.toInt32) = some (if y = 0 then -4 else nI ((if c = 0 then x else y) / Nat.gcd x y)) := by
  by_cases h : y = 0
  · subst h
    rw [if_pos (show lN 0 = 0 from rfl), if_pos rfl]
  · rw [if_neg (show ¬ lN y = 0 from fun e => h ((lN_eq (b := 0) hy (by omega)).mp e)), pu_lowest8 hN hx (by omega) hy, if_neg h, pu_b1, lN_i]
theorem pp_meant {GV GM : nb_St → nb_St → Prop} {σ τ : nb_St} (h : pr_Rel GV GM σ τ) (i c : Int32) : ∃ (N : Nat) (r : Int32), fX7_meant N σ i c = some r ∧ fX8_meant N τ i c = some r := by
  obtain ⟨p, d, n, g, o, w, a, b, e, kk, hpd, l3, l4, ht, hg, hp, hto, hdo, hz1, hz2, hk, hgm, hgv⟩ := h
  have hl := pr_laid hpd l3
  have hpp := pr_pd_p hpd
  obtain ⟨g8, o3, w6, -, -, -, -, -, -, -, -, -, -, -, -, hm, -⟩ := hp
  obtain ⟨N, hN⟩ : ∃ N : Nat, N = 100 := ⟨_, rfl⟩
  refine ⟨N, ?_⟩
  by_cases hi : (1 : Int32) ≤ i ∧ i ≤ 3
  · obtain ⟨j, h1, h2, rfl⟩ := pr_rng_of (a := 1) (b := 3) (by omega) (by omega) hi.1 hi.2
    obtain ⟨k, rfl⟩ : ∃ k, j = k + 1 := ⟨j - 1, by omega⟩
    by_cases hc : (0 : Int32) ≤ c ∧ c ≤ 1
    · obtain ⟨q1, ⟨x, -, x1, x2⟩, q2, ⟨y, -, y1, y2⟩⟩ := hm k (by omega)
      have q3 : τ 13 k = nI x := by rw [← x2, q1, Nat.mul_zero, Nat.zero_add]
      have q4 : τ 14 k = nI y := by rw [← y2, q2, Nat.mul_zero, Nat.zero_add]
      refine ⟨if x + y = 0 then -4 else nI ((if c = 0 then x else x + y) / Nat.gcd x (x + y)), ?_, ?_⟩
      · simp only [fX7_meant, nb_let, pu_within]
        rw [pu_b1, if_pos hi, if_neg (by decide), pu_b1, if_pos hc, if_neg (by decide), hl]
        simp (disch := omega) only [pn_g, pu_b1, pn_b2, pn_leT, pn_leF, pn_ltT, pn_ltF, pn_eqT, pn_eqF, pu_in, pu_ix, nI_add, pk_mul, pk_sub, ↓reduceIte, Bool.false_eq_true, if_false, if_true, nb_st_s, nb_st_k, nb_st_n, nb_sa_s, nb_sa_n, pL0, pL1, pL2, pL3, pL4, pL5, pL6, pL7, pL8, pL9, pL10, pL11, pL12, pL13, pL15, pL20, pL30, pL99, pL100, pL180, pL240, pL255, pL350, pL359, pL719, pL720, pL999, pL9999, pL99999, pL100000, pL1000000, hpp, x2, y2]
        rw [pn_lt7 (by omega) (by omega) (by omega)]
        rfl
      · simp only [fX8_meant, nb_let]
        rw [pu_inL (b := 1) (c := 3) (by decide) (by decide), pu_inL (b := 0) (c := 1) (by decide) (by decide), pu_b1, if_pos hi, if_neg (by decide), pu_b1, if_pos hc, if_neg (by decide)]
        simp (disch := omega) only [pn_g, pu_b1, pn_b2, pn_leT, pn_leF, pn_ltT, pn_ltF, pn_eqT, pn_eqF, pu_in, pu_ix, nI_add, pk_mul, pk_sub, ↓reduceIte, Bool.false_eq_true, if_false, if_true, nb_st_s, nb_st_k, nb_st_n, nb_sa_s, nb_sa_n, pL0, pL1, pL2, pL3, pL4, pL5, pL6, pL7, pL8, pL9, pL10, pL11, pL12, pL13, pL15, pL20, pL30, pL99, pL100, pL180, pL240, pL255, pL350, pL359, pL719, pL720, pL999, pL9999, pL99999, pL100000, pL1000000, q3, q4, Nat.add_sub_cancel, nI_l]
        have := pn_le8 (N := N) (τ := τ) (x := x) (y := x + y) (c := c) (by omega) (by omega) (by omega)
        by_cases h0 : x + y = 0
        · rw [if_pos h0, if_pos (by rw [h0])]
        · rw [if_neg (show ¬ lN (x + y) = 0 from fun e => h0 ((lN_eq (b := 0) (by omega) (by omega)).mp e))] at this
          rw [if_neg (show ¬ nI (x + y) = nI 0 from fun e => h0 ((nI_eq (by omega) (by omega)).mp e))]
          exact this
    · refine ⟨-1, ?_, ?_⟩
      · simp only [fX7_meant, nb_let, pu_within]
        rw [pu_b1, if_pos hi, if_neg (by decide), pu_b1, if_neg hc, if_pos rfl]
      · simp only [fX8_meant, nb_let]
        rw [pu_inL (b := 1) (c := 3) (by decide) (by decide), pu_inL (b := 0) (c := 1) (by decide) (by decide), pu_b1, if_pos hi, if_neg (by decide), pu_b1, if_neg hc, if_pos rfl]
  · refine ⟨-1, ?_, ?_⟩
    · simp only [fX7_meant, nb_let, pu_within]
      rw [pu_b1, if_neg hi, if_pos rfl]
    · simp only [fX8_meant, nb_let]
      rw [pu_inL (b := 1) (c := 3) (by decide) (by decide), pu_b1, if_neg hi, if_pos rfl]
theorem pp_since {GV GM : nb_St → nb_St → Prop} {σ τ : nb_St} (h : pr_Rel GV GM σ τ) (i v c : Int32) : ∃ (N : Nat) (r : Int32), fX7_since N σ i v c = some r ∧ fX8_since N τ i v c = some r := by
  obtain ⟨p, d, n, g, o, w, a, b, e, kk, hpd, l3, l4, ht, hg, hp, hto, hdo, hz1, hz2, hk, hgm, hgv⟩ := h
  have hl := pr_laid hpd l3
  have hpp := pr_pd_p hpd
  obtain ⟨g8, o3, w6, p1, p2, -, -, -, -, -, -, -, -, -, -, -, hw7, hw8, hlk⟩ := hp
  obtain ⟨N, hN⟩ : ∃ N : Nat, N = 100 := ⟨_, rfl⟩
  refine ⟨N, ?_⟩
  by_cases hi : (0 : Int32) ≤ i ∧ i ≤ nI g - 1
  · obtain ⟨k, hkg, rfl⟩ := pu_guest_of hg (by omega) hi
    by_cases hv : (0 : Int32) ≤ v ∧ v ≤ 11
    · obtain ⟨j, -, hj, rfl⟩ := pr_rng_of (a := 0) (b := 11) (by omega) (by omega) hv.1 hv.2
      by_cases hc : (0 : Int32) ≤ c ∧ c ≤ 1
      · obtain ⟨LO, h1, h1b⟩ := pn_fun (n := w) (a := 0) (b := 7) (by omega) (fun k hk => (hlk k hk).2.1)
        obtain ⟨LM, h2, h2b⟩ := pn_fun (n := w) (a := 0) (b := 359) (by omega) (fun k hk => (hlk k hk).2.2.2.1)
        obtain ⟨LY, h3, h3b⟩ := pn_fun (n := w) (a := 0) (b := 1) (by omega) (fun k hk => (hlk k hk).2.2.2.2.2)
        have t1 : ∀ k, k < w → τ 16 k = nI (LO k) := fun k hk => by rw [← h1 k hk, (hlk k hk).1, Nat.mul_zero, Nat.zero_add]
        have t2 : ∀ k, k < w → τ 17 k = nI (LM k) := fun k hk => by rw [← h2 k hk, (hlk k hk).2.2.1, Nat.mul_zero, Nat.zero_add]
        have t3 : ∀ k, k < w → τ 18 k = nI (LY k) := fun k hk => by rw [← h3 k hk, (hlk k hk).2.2.2.2.1, Nat.mul_zero, Nat.zero_add]
        have W7 : ∀ F, F ≤ 359 → fX4_weightOfLooks N σ p (nI k) (nI F) = some (nI (sp (fun q => lw_1 (LO q) (LM q) (LY q) k F) w)) := fun F hF => pu_wol (by omega) w6 hw7 h1 h1b h2 h2b h3 h3b (by omega) hF
        have W8 : ∀ v, v < 12 → fX8_sinceOf N τ (nI k) (nI v) = some (lN (sp (fun q => lw_1 (LO q) (LM q) (LY q) k (30 * v)) w)) := fun v hv => pu_sof (by omega) w6 hw8 t1 h1b t2 h2b t3 h3b (by omega) hv
        have B : ∀ F, sp (fun q => lw_1 (LO q) (LM q) (LY q) k F) w ≤ 1000000 := by
          intro F
          have b1 := sp_le (f := fun q => lw_1 (LO q) (LM q) (LY q) k F) (B := 10) w (fun _ _ => lw_1le)
          have b2 : 10 ^ w ≤ 10 ^ 6 := Nat.pow_le_pow_right (by omega) w6
          omega
        generalize hf : (fun F => sp (fun q => lw_1 (LO q) (LM q) (LY q) k F) w) = f at *
        have hf2 : ∀ F, sp (fun q => lw_1 (LO q) (LM q) (LY q) k F) w = f F := fun F => by rw [← hf]
        simp only [hf2] at W7 W8 B
        have B2 : ∀ m, m ≤ 12 → su (fun q => f (30 * q)) m ≤ 12 * 1000000 := fun m hm => Nat.le_trans (su_le (B := 1000000) m (fun k _ => B _)) (Nat.mul_le_mul_right _ hm)
        refine ⟨if su (fun q => f (30 * q)) 12 = 0 then -4 else nI ((if c = 0 then f (30 * j) else su (fun q => f (30 * q)) 12) / Nat.gcd (f (30 * j)) (su (fun q => f (30 * q)) 12)), ?_, ?_⟩
        · apply pn_x
          simp only [fX7_since, nb_let, pu_within]
          rw [pu_isGuest7 hpd l3 p1, pu_b1, if_pos hi, if_neg (by decide), pu_b1, if_pos hv, if_neg (by decide), pu_b1, if_pos hc, if_neg (by decide)]
          refine nb_e2 (I := fun m x y => m ≤ 12 ∧ y = nI m ∧ x = nI (su (fun q => f (30 * q)) m)) 12 ?_ (by omega) ⟨by omega, rfl, rfl⟩
          rintro ag m x y ⟨hm, rfl, rfl⟩
          by_cases hlt : m < 12
          · right
            refine ⟨hlt, nI (su (fun q => f (30 * q)) (m + 1)), nI (m + 1), ⟨by omega, rfl, rfl⟩, ?_⟩
            simp (disch := omega) only [pn_g, pu_b1, pn_b2, pn_leT, pn_leF, pn_ltT, pn_ltF, pn_eqT, pn_eqF, pu_in, pu_ix, nI_add, pk_mul, pk_sub, ↓reduceIte, Bool.false_eq_true, if_false, if_true, nb_st_s, nb_st_k, nb_st_n, nb_sa_s, nb_sa_n, pL0, pL1, pL2, pL3, pL4, pL5, pL6, pL7, pL8, pL9, pL10, pL11, pL12, pL13, pL15, pL20, pL30, pL99, pL100, pL180, pL240, pL255, pL350, pL359, pL719, pL720, pL999, pL9999, pL99999, pL100000, pL1000000, hl, hpp, W7]
            rfl
          · left
            have : m = 12 := by omega
            subst this
            refine ⟨_, ?_, rfl⟩
            have b1 := B (30 * j)
            have b2 := B2 12 (by omega)
            simp (disch := omega) only [pn_g, pu_b1, pn_b2, pn_leT, pn_leF, pn_ltT, pn_ltF, pn_eqT, pn_eqF, pu_in, pu_ix, nI_add, pk_mul, pk_sub, ↓reduceIte, Bool.false_eq_true, if_false, if_true, nb_st_s, nb_st_k, nb_st_n, nb_sa_s, nb_sa_n, pL0, pL1, pL2, pL3, pL4, pL5, pL6, pL7, pL8, pL9, pL10, pL11, pL12, pL13, pL15, pL20, pL30, pL99, pL100, pL180, pL240, pL255, pL350, pL359, pL719, pL720, pL999, pL9999, pL99999, pL100000, pL1000000, hl, hpp, W7]
            rw [pn_lt7 (by omega) (by omega) (by omega)]
            rfl
        · apply pn_x
          simp only [fX8_since, nb_let]
          rw [pu_isGuest8 p2, pu_inL (b := 0) (c := 11) (by decide) (by decide), pu_inL (b := 0) (c := 1) (by decide) (by decide), pu_b1, if_pos hi, if_neg (by decide), pu_b1, if_pos hv, if_neg (by decide), pu_b1, if_pos hc, if_neg (by decide)]
          refine nb_e2 (I := fun m x y => m ≤ 12 ∧ y = nI m ∧ x = lN (su (fun q => f (30 * q)) m)) 12 ?_ (by omega) ⟨by omega, rfl, rfl⟩
          rintro ag m x y ⟨hm, rfl, rfl⟩
          by_cases hlt : m < 12
          · right
            refine ⟨hlt, lN (su (fun q => f (30 * q)) (m + 1)), nI (m + 1), ⟨by omega, rfl, rfl⟩, ?_⟩
            simp (disch := omega) only [pn_g, pu_b1, pn_b2, pn_leT, pn_leF, pn_ltT, pn_ltF, pn_eqT, pn_eqF, pu_in, pu_ix, nI_add, pk_mul, pk_sub, ↓reduceIte, Bool.false_eq_true, if_false, if_true, nb_st_s, nb_st_k, nb_st_n, nb_sa_s, nb_sa_n, pL0, pL1, pL2, pL3, pL4, pL5, pL6, pL7, pL8, pL9, pL10, pL11, pL12, pL13, pL15, pL20, pL30, pL99, pL100, pL180, pL240, pL255, pL350, pL359, pL719, pL720, pL999, pL9999, pL99999, pL100000, pL1000000, W8, lN_add]
            rfl
          · left
            have : m = 12 := by omega
            subst this
            refine ⟨_, ?_, rfl⟩
            have b1 := B (30 * j)
            have b2 := B2 12 (by omega)
            have := pn_le8 (N := N) (τ := τ) (x := f (30 * j)) (y := su (fun q => f (30 * q)) 12) (c := c) (by omega) (by omega) (by omega)
            simp only [pu_cmp_eq]
            simp (disch := omega) only [pn_g, pu_b1, pn_b2, pn_leT, pn_leF, pn_ltT, pn_ltF, pn_eqT, pn_eqF, pu_in, pu_ix, nI_add, pk_mul, pk_sub, ↓reduceIte, Bool.false_eq_true, if_false, if_true, nb_st_s, nb_st_k, nb_st_n, nb_sa_s, nb_sa_n, pL0, pL1, pL2, pL3, pL4, pL5, pL6, pL7, pL8, pL9, pL10, pL11, pL12, pL13, pL15, pL20, pL30, pL99, pL100, pL180, pL240, pL255, pL350, pL359, pL719, pL720, pL999, pL9999, pL99999, pL100000, pL1000000, W8]
            exact this
      · refine ⟨-1, ?_, ?_⟩
        · simp only [fX7_since, nb_let, pu_within]
          rw [pu_isGuest7 hpd l3 p1, pu_b1, if_pos hi, if_neg (by decide), pu_b1, if_pos hv, if_neg (by decide), pu_b1, if_neg hc, if_pos rfl]
        · simp only [fX8_since, nb_let]
          rw [pu_isGuest8 p2, pu_inL (b := 0) (c := 11) (by decide) (by decide), pu_inL (b := 0) (c := 1) (by decide) (by decide), pu_b1, if_pos hi, if_neg (by decide), pu_b1, if_pos hv, if_neg (by decide), pu_b1, if_neg hc, if_pos rfl]
    · refine ⟨-1, ?_, ?_⟩
      · simp only [fX7_since, nb_let, pu_within]
        rw [pu_isGuest7 hpd l3 p1, pu_b1, if_pos hi, if_neg (by decide), pu_b1, if_neg hv, if_pos rfl]
      · simp only [fX8_since, nb_let]
        rw [pu_isGuest8 p2, pu_inL (b := 0) (c := 11) (by decide) (by decide), pu_b1, if_pos hi, if_neg (by decide), pu_b1, if_neg hv, if_pos rfl]
  · refine ⟨-1, ?_, ?_⟩
    · simp only [fX7_since, nb_let, pu_within]
      rw [pu_isGuest7 hpd l3 p1, pu_b1, if_neg hi, if_pos rfl]
    · simp only [fX8_since, nb_let]
      rw [pu_isGuest8 p2, pu_b1, if_neg hi, if_pos rfl]
