section
def pm (σ s : nb_St) : Prop := ∀ k, k ≠ 64 → k ≠ 67 → k ≠ 68 → s k = σ k
theorem pr_evM {σ τ σ' τ' : nb_St} (h : pr_Rel GV GM σ τ) (hσ : pm σ σ') (hτ : rfm τ τ') (hm : GM σ' τ') : pr_Rel GV GM σ' τ' := by
  obtain ⟨p, d, n, g, o, w, a, b, e, kk, hpd, l3, l4, ht, hg, hp, hto, hdo, hz1, hz2, hk, hgm, hgv⟩ := h
  have hp4 : p = 4 ∨ p = 20 := by rcases hpd with ⟨q, -⟩ | ⟨q, -⟩ <;> omega
  have q0 : σ' 0 = σ 0 := hσ 0 (by decide) (by decide) (by decide)
  refine ⟨p, d, n, g, o, w, a, b, e, kk, hpd, by rw [q0]; exact l3, by rw [q0]; exact l4, ?_, hg, ?_, ?_, ?_, ?_, ?_, ?_, hm, ?_⟩
  · exact pr_text_c ht (by rw [q0]) (hσ 1 (by decide) (by decide) (by decide)) (hτ.2 0 (by decide) (by decide)) (hτ.1 1 (by decide) (by decide))
  · exact pr_pt_c hp (fun k _ _ => hσ _ (by omega) (by omega) (by omega)) (fun k a b => hτ.1 k (by omega) (by omega))
  · exact pr_told_c hto (hσ _ (by omega) (by omega) (by omega)) (hσ _ (by omega) (by omega) (by omega)) (hσ _ (by omega) (by omega) (by omega)) (hσ _ (by omega) (by omega) (by omega)) (fun k a b => hτ.1 k (by omega) (by omega))
  · exact pr_done_c hdo (by rw [hσ 69 (by decide) (by decide) (by decide)]) (hσ 70 (by decide) (by decide) (by decide)) (hτ.2 25 (by decide) (by decide)) (hτ.1 24 (by decide) (by decide))
  · rw [hτ.1 24 (by decide) (by decide)]; exact hz1
  · rw [hτ.1 24 (by decide) (by decide)]; exact hz2
  · exact pr_kept_c hk (by rw [hσ 69 (by decide) (by decide) (by decide)]) (fun k h1 h2 => hσ k (by omega) (by omega) (by omega)) (hτ.2 24 (by decide) (by decide)) (fun k h1 h2 j _ => by rw [hτ.1 k (by omega) (by omega)])
  · exact GV_ok2 _ _ _ _ (hσ 61 (by decide) (by decide) (by decide)) (hσ 63 (by decide) (by decide) (by decide)) (fun k h1 h2 j _ => by rw [hτ.1 k (by omega) (by omega)]) hgv
theorem pu_0m {a : Int32} {o : Nat} (ho : o ≤ 8) (h : 0 ≤ a ∧ a ≤ nI o - 1) : ∃ k, k < o ∧ a = nI k := by
  rcases (pu_m1 ho).mp ⟨Int32.le_trans (show (-1 : Int32) ≤ 0 by decide) h.1, h.2⟩ with q | q
  · rw [q] at h
    exact absurd h.1 (by decide)
  · exact q
def d10 (x k : Nat) : Nat := x / 10 ^ k % 10
def gwl (x m : Nat) : Bool := decide (∀ k, k < m → d10 x k < 6)
theorem gwl_t {x m : Nat} : gwl x m = true ↔ ∀ k, k < m → d10 x k < 6 := decide_eq_true_iff
theorem pz_fig7 {N : Nat} {s : nb_St} {x m : Nat} (hN : 10 < N) (hx : x ≤ 99999) (hm : m ≤ 4) (h : s 64 1 = nI m) : ∃ r, fX1_chooseByFigures N s (nI x) = some r ∧ r.1 = (if gwl x m = true then nI 1 else nI 0) ∧ (∀ k, k ≠ 67 → r.2 k = s k) ∧ (gwl x m = true → ∀ k, k < m → r.2 67 k = nI (d10 x k)) := by
  unfold fX1_chooseByFigures
  refine nb_e3 (I := fun j y w t => j ≤ m ∧ w = nI j ∧ y = nI (x / 10 ^ j) ∧ (∀ k, k ≠ 67 → t k = s k) ∧ (∀ k, k < j → t 67 k = nI (d10 x k)) ∧ ∀ k, k < j → d10 x k < 6) m ?_ (by omega) ⟨by omega, rfl, by rw [Nat.pow_zero, Nat.div_one], fun _ _ => rfl, fun k hk => absurd hk (by omega), fun k hk => absurd hk (by omega)⟩
  rintro ag j y w t ⟨hj, rfl, rfl, f1, f2, f3⟩
  have hle := dv_le (b := 10) (c := x) (j := j)
  have t1 : t 64 1 = nI m := by rw [f1 64 (by decide)]; exact h
  by_cases hlt : j < m
  · have dl : x / 10 ^ j % 10 < 10 := Nat.mod_lt _ (by omega)
    by_cases c : d10 x j < 6
    · right
      refine ⟨hlt, nI (x / 10 ^ (j + 1)), nI (j + 1), nb_st t 67 j (nI (d10 x j)), ⟨by omega, rfl, rfl, fun k hk => by rw [nb_st_k hk]; exact f1 k hk, fun k hk => ?_, fun k hk => ?_⟩, ?_⟩
      · by_cases q : k = j
        · subst q; exact nb_st_s
        · rw [nb_st_n (Or.inr q)]; exact f2 k (by omega)
      · by_cases q : k = j
        · subst q; exact c
        · exact f3 k (by omega)
      · rw [← dv_s]
        have c2 : x / 10 ^ j % 10 < 6 := c
        unfold d10
        simp (disch := omega) only [pn_g, pu_b1, pn_b2, pn_leT, pn_leF, pn_ltT, pn_ltF, pn_eqT, pn_eqF, pu_in, pu_ix, nI_add, pk_mul, pk_sub, ↓reduceIte, Bool.false_eq_true, if_false, if_true, nb_st_s, nb_st_k, nb_st_n, nb_sa_s, nb_sa_n, pL0, pL1, pL2, pL3, pL4, pL5, pL6, pL7, pL8, pL9, pL10, pL11, pL12, pL13, pL15, pL20, pL30, pL99, pL100, pL180, pL240, pL255, pL350, pL359, pL719, pL720, pL999, pL9999, pL99999, pL100000, pL1000000, nb_let, t1, pu_rem, pk_div]
    · left
      have c2 : ¬ x / 10 ^ j % 10 < 6 := c
      refine ⟨(nI 0, nb_st t 67 j (nI (d10 x j))), ?_, ?_, fun k hk => ?_, fun q => absurd (gwl_t.mp q j hlt) c⟩
      · unfold d10
        simp (disch := omega) only [pn_g, pu_b1, pn_b2, pn_leT, pn_leF, pn_ltT, pn_ltF, pn_eqT, pn_eqF, pu_in, pu_ix, nI_add, pk_mul, pk_sub, ↓reduceIte, Bool.false_eq_true, if_false, if_true, nb_st_s, nb_st_k, nb_st_n, nb_sa_s, nb_sa_n, pL0, pL1, pL2, pL3, pL4, pL5, pL6, pL7, pL8, pL9, pL10, pL11, pL12, pL13, pL15, pL20, pL30, pL99, pL100, pL180, pL240, pL255, pL350, pL359, pL719, pL720, pL999, pL9999, pL99999, pL100000, pL1000000, nb_let, t1, pu_rem, pk_div]
      · rw [if_neg (fun q => c (gwl_t.mp q j hlt))]
      · show nb_st t 67 j (nI (d10 x j)) k = s k
        rw [nb_st_k hk]; exact f1 k hk
  · left
    have : j = m := by omega
    subst this
    refine ⟨(nI 1, t), ?_, ?_, f1, fun _ => f2⟩
    · simp (disch := omega) only [pn_g, pu_b1, pn_b2, pn_leT, pn_leF, pn_ltT, pn_ltF, pn_eqT, pn_eqF, pu_in, pu_ix, nI_add, pk_mul, pk_sub, ↓reduceIte, Bool.false_eq_true, if_false, if_true, nb_st_s, nb_st_k, nb_st_n, nb_sa_s, nb_sa_n, pL0, pL1, pL2, pL3, pL4, pL5, pL6, pL7, pL8, pL9, pL10, pL11, pL12, pL13, pL15, pL20, pL30, pL99, pL100, pL180, pL240, pL255, pL350, pL359, pL719, pL720, pL999, pL9999, pL99999, pL100000, pL1000000, t1]
    · rw [if_pos (gwl_t.mpr f3)]
theorem pp_cost {σ τ : nb_St} (h : pr_Rel GV GM σ τ) (i x : Int32) : ∃ (N : Nat) (r : Int32) (σo τo : nb_St), fX7_cost N σ i x = some (r, σo) ∧ fX8_cost N τ i x = some (r, τo) ∧ pr_Rel GV GM σo τo := by
  obtain ⟨p, d, n, g, o, w, a, b, e, kk, hpd, l3, l4, ht, hg, hp, hto, hdo, hz1, hz2, hk, hgm, hgv⟩ := id h
  have hc : cl σ τ p d g o w a b := ⟨hpd, l3, hg, hp, hto⟩
  have gt := GM_gt hc hgm
  obtain ⟨N, hN⟩ : ∃ N : Nat, N = 3000 := ⟨_, rfl⟩
  have hN2 : 10 < N := by omega
  refine ⟨N, ?_⟩
  obtain ⟨r0, e1, e2, e3, e4, e5, e6⟩ := pz_l8 (N := N) hN2 hc
  obtain ⟨m, hm⟩ : ∃ m, m = (gmd τ).1 := ⟨_, rfl⟩
  obtain ⟨W, hW⟩ : ∃ W, W = (gmd τ).2.1 := ⟨_, rfl⟩
  obtain ⟨S, hS⟩ : ∃ S, S = (gmd τ).2.2 := ⟨_, rfl⟩
  rw [← hm] at e4 e5 e6 gt
  rw [← hW] at e5 gt
  rw [← hS] at e6 gt
  obtain ⟨a1, a2, a3, a4, a5, a6⟩ := gt
  have hr0 : rfm τ r0 := ⟨fun k k1 k2 => e2 k (by omega) (by omega) (by omega), fun j _ hj => e3 j hj⟩
  have i1 : ∀ τ, fX8_in N τ i.toInt64 (0 : Int64) ((nI m - 1).toInt64) = some (if 0 ≤ i ∧ i ≤ nI m - 1 then 1 else 0) := fun τ => pu_inL (by decide) rfl
  have i2 : ∀ τ, fX8_in N τ x.toInt64 (0 : Int64) (99999 : Int64) = some (if 0 ≤ x ∧ x ≤ 99999 then 1 else 0) := fun τ => pu_inL (by decide) (by decide)
  by_cases hi : (0 : Int32) ≤ i ∧ i ≤ nI m - 1
  · obtain ⟨k, hkm, rfl⟩ := pu_0m (by omega) hi
    by_cases hx : (0 : Int32) ≤ x ∧ x ≤ 99999
    · obtain ⟨u, u1, u2, rfl⟩ := pr_rng_of (a := 0) (b := 99999) (by omega) (by omega) hx.1 hx.2
      obtain ⟨⟨v, s⟩, s1, s2, s3, s4⟩ := pz_fig7 (N := N) (x := u) hN2 u2 a2 a1
      have s2 : v = (if gwl u m = true then nI 1 else nI 0) := s2
      have s3 : ∀ k, k ≠ 67 → s k = σ k := s3
      have s4 : gwl u m = true → ∀ k, k < m → s 67 k = nI (d10 u k) := s4
      obtain ⟨ans, hans⟩ : ∃ ans : Int32, ans = if gwl u m = true then nI (gm_cost W S m (d10 u) k) else -1 := ⟨_, rfl⟩
      have h8 : ∃ q, fX8_cost N τ (nI k) (nI u) = some q ∧ q.1 = ans ∧ rfm τ q.2 := by
        simp only [fX8_cost, nb_let]
        rw [e1, pu_b1, e4, i1, pu_b1, if_pos hi, if_neg (by decide), i2, pu_b1, if_pos hx, if_neg (by decide)]
        refine nb_e4 (I := fun j y c w t => j ≤ m ∧ w = nI j ∧ y = nI (u / 10 ^ j) ∧ bw c (∀ k, k < j → d10 u k < 6) ∧ (∀ k, k ≠ 31 → t k = r0 k) ∧ ∀ k, k < j → t 31 k = nI (d10 u k)) m ?_ (by omega) ⟨by omega, rfl, by rw [Nat.pow_zero, Nat.div_one], Or.inl ⟨rfl, fun k hk => absurd hk (by omega)⟩, fun _ _ => rfl, fun k hk => absurd hk (by omega)⟩
        rintro ag j y c w t ⟨hj, rfl, rfl, f0, f1, f2⟩
        have hle := dv_le (b := 10) (c := u) (j := j)
        have t1 : t 0 36 = nI m := by rw [f1 0 (by decide)]; exact e4
        by_cases hlt : j < m
        · right
          have dl : u / 10 ^ j % 10 < 10 := Nat.mod_lt _ (by omega)
          refine ⟨hlt, nI (u / 10 ^ (j + 1)), if c = nI 0 then nI 0 else if (if d10 u j < 6 then nI 1 else nI 0) = nI 0 then nI 0 else nI 1, nI (j + 1), nb_st t 31 j (nI (d10 u j)), ⟨by omega, rfl, rfl, bw_iff (bw_and f0 (B := d10 u j < 6) ?_) ?_, fun k hk => by rw [nb_st_k hk]; exact f1 k hk, fun k hk => ?_⟩, ?_⟩
          · by_cases q : d10 u j < 6
            · rw [if_pos q]; exact Or.inl ⟨rfl, q⟩
            · rw [if_neg q]; exact Or.inr ⟨rfl, q⟩
          · constructor
            · rintro ⟨q1, q2⟩ k hk
              by_cases q : k = j
              · subst q; exact q2
              · exact q1 k (by omega)
            · intro q; exact ⟨fun k hk => q k (by omega), q j (by omega)⟩
          · by_cases q : k = j
            · subst q; exact nb_st_s
            · rw [nb_st_n (Or.inr q)]; exact f2 k (by omega)
          · rw [← dv_s]
            rcases f0 with ⟨rfl, -⟩ | ⟨rfl, -⟩
            · by_cases q : d10 u j < 6
              · have q2 : u / 10 ^ j % 10 < 6 := q
                rw [if_pos q]
                unfold d10
                simp (disch := omega) only [pn_g, pu_b1, pn_b2, pn_leT, pn_leF, pn_ltT, pn_ltF, pn_eqT, pn_eqF, pu_in, pu_ix, nI_add, pk_mul, pk_sub, ↓reduceIte, Bool.false_eq_true, if_false, if_true, nb_st_s, nb_st_k, nb_st_n, nb_sa_s, nb_sa_n, pL0, pL1, pL2, pL3, pL4, pL5, pL6, pL7, pL8, pL9, pL10, pL11, pL12, pL13, pL15, pL20, pL30, pL99, pL100, pL180, pL240, pL255, pL350, pL359, pL719, pL720, pL999, pL9999, pL99999, pL100000, pL1000000, t1, pu_rem, pk_div]
              · have q2 : ¬ u / 10 ^ j % 10 < 6 := q
                rw [if_neg q]
                unfold d10
                simp (disch := omega) only [pn_g, pu_b1, pn_b2, pn_leT, pn_leF, pn_ltT, pn_ltF, pn_eqT, pn_eqF, pu_in, pu_ix, nI_add, pk_mul, pk_sub, ↓reduceIte, Bool.false_eq_true, if_false, if_true, nb_st_s, nb_st_k, nb_st_n, nb_sa_s, nb_sa_n, pL0, pL1, pL2, pL3, pL4, pL5, pL6, pL7, pL8, pL9, pL10, pL11, pL12, pL13, pL15, pL20, pL30, pL99, pL100, pL180, pL240, pL255, pL350, pL359, pL719, pL720, pL999, pL9999, pL99999, pL100000, pL1000000, t1, pu_rem, pk_div]
            · unfold d10
              simp (disch := omega) only [pn_g, pu_b1, pn_b2, pn_leT, pn_leF, pn_ltT, pn_ltF, pn_eqT, pn_eqF, pu_in, pu_ix, nI_add, pk_mul, pk_sub, ↓reduceIte, Bool.false_eq_true, if_false, if_true, nb_st_s, nb_st_k, nb_st_n, nb_sa_s, nb_sa_n, pL0, pL1, pL2, pL3, pL4, pL5, pL6, pL7, pL8, pL9, pL10, pL11, pL12, pL13, pL15, pL20, pL30, pL99, pL100, pL180, pL240, pL255, pL350, pL359, pL719, pL720, pL999, pL9999, pL99999, pL100000, pL1000000, t1, pu_rem, pk_div]
        · left
          have : j = m := by omega
          subst this
          have hrt : rfm τ t := rfm_t hr0 ⟨fun k k1 k2 => f1 k (by omega), fun i _ _ => by rw [f1 0 (by decide)]⟩
          rw [hans]
          rcases f0 with ⟨rfl, f0⟩ | ⟨rfl, f0⟩
          · have hgs : gs t 0 29 30 31 36 W S j (d10 u) := ⟨t1, a2, by rw [f1 29 (by decide)]; exact e5, a4, by rw [f1 30 (by decide)]; exact e6, a6, f2, fun k hk => by have := f0 k hk; omega⟩
            have hco := pu_cost8 (N := N) (by omega) hgs hkm
            rw [if_pos (gwl_t.mpr f0), t1, if_pos (nI_le (Nat.le_refl _) (by omega)), if_neg (show ¬ nI 1 = (0 : Int32) by decide), hco, pu_b1]
            exact ⟨_, rfl, rfl, hrt⟩
          · rw [if_neg (fun q => f0 (gwl_t.mp q)), t1, if_pos (nI_le (Nat.le_refl _) (by omega)), if_pos (show nI 0 = (0 : Int32) from rfl)]
            exact ⟨_, rfl, rfl, hrt⟩
      obtain ⟨⟨q1, q2⟩, b1, b2, b3⟩ := h8
      have b2 : q1 = ans := b2
      subst b2
      have b3 : rfm τ q2 := b3
      refine ⟨q1, s, q2, ?_, b1, pr_evM h (fun k _ k2 _ => s3 k k2) b3 (GM_c (s3 64 (by decide)) (s3 65 (by decide)) (s3 66 (by decide)) (s3 68 (by decide)) (by rw [b3.1 2 (by decide) (by decide)]) (fun k k1 k2 j _ => by rw [b3.1 k (by omega) (by omega)]) hgm)⟩
      simp only [fX7_cost, nb_let, pu_within]
      rw [a1, pu_b1, if_pos hi, if_neg (by decide), pu_b1, if_pos hx, if_neg (by decide), s1, pn_b2, s2, hans]
      by_cases c : gwl u m = true
      · have hgs : gs s 64 65 66 67 1 W S m (d10 u) := ⟨by rw [s3 64 (by decide)]; exact a1, a2, by rw [s3 65 (by decide)]; exact a3, a4, by rw [s3 66 (by decide)]; exact a5, a6, s4 c, fun k hk => by have := gwl_t.mp c k hk; omega⟩
        have hco := pu_cost7 (N := N) (by omega) hgs hkm
        rw [if_pos c, if_pos c, if_neg (show ¬ nI 1 = (0 : Int32) by decide), hco, pu_b1]
      · rw [if_neg c, if_neg c, if_pos (show nI 0 = (0 : Int32) from rfl)]
    · refine ⟨-1, σ, r0, ?_, ?_, pr_evM h (fun _ _ _ _ => rfl) hr0 (GM_c rfl rfl rfl rfl (by rw [hr0.1 2 (by decide) (by decide)]) (fun k k1 k2 j _ => by rw [hr0.1 k (by omega) (by omega)]) hgm)⟩
      · simp only [fX7_cost, nb_let, pu_within]
        rw [a1, pu_b1, if_pos hi, if_neg (by decide), pu_b1, if_neg hx, if_pos rfl]
      · simp only [fX8_cost, nb_let]
        rw [e1, pu_b1, e4, i1, pu_b1, if_pos hi, if_neg (by decide), i2, pu_b1, if_neg hx, if_pos rfl]
  · refine ⟨-1, σ, r0, ?_, ?_, pr_evM h (fun _ _ _ _ => rfl) hr0 (GM_c rfl rfl rfl rfl (by rw [hr0.1 2 (by decide) (by decide)]) (fun k k1 k2 j _ => by rw [hr0.1 k (by omega) (by omega)]) hgm)⟩
    · simp only [fX7_cost, nb_let, pu_within]
      rw [a1, pu_b1, if_neg hi, if_pos rfl]
    · simp only [fX8_cost, nb_let]
      rw [e1, pu_b1, e4, i1, pu_b1, if_neg hi, if_pos rfl]
/-- the class's reckoning, known or not -/
theorem pz_reck {N : Nat} {σ τ : nb_St} {p d g o w a b : Nat} (hN : 1400 < N) (h : cl σ τ p d g o w a b) (hm : GM σ τ) : ∃ r, fX1_reckon N σ = some r ∧ pm σ r ∧ GM r τ ∧ grk r (gmd τ).2.1 (gmd τ).2.2 (gmd τ).1 (6 ^ (gmd τ).1) := by
  have gt := GM_gt h hm
  rcases hm.2.2.2 with q | ⟨q1, q2⟩
  · obtain ⟨r, r1, r2, r3, r4, r5⟩ := pz_reckon hN gt q
    refine ⟨r, r1, fun k k1 k2 k3 => r3 k k1 k2 k3, ⟨by rw [r5]; exact hm.1, ?_, ?_, Or.inr ⟨by rw [r4]; decide, r2⟩⟩, r2⟩
    · rw [r3 65 (by decide) (by decide) (by decide)]; exact hm.2.1
    · rw [r3 66 (by decide) (by decide) (by decide)]; exact hm.2.2.1
  · refine ⟨σ, ?_, fun _ _ _ _ => rfl, hm, q2⟩
    unfold fX1_reckon
    rw [if_neg q1]
theorem grn_ml {P W S : Nat → Nat} {g : Nat} : ∀ n, (gml P W S g n).1 = su (fun p => if hpn P g p = true then 1 else 0) n
  | 0 => rfl
  | n + 1 => by
    have ih := grn_ml (P := P) (W := W) (S := S) (g := g) n
    show (if hpn P g n = true then ((gml P W S g n).1 + 1, us (gml P W S g n).2.1 (gml P W S g n).1 (pmx P W n g), us (gml P W S g n).2.2 (gml P W S g n).1 (pmx P S n g)) else gml P W S g n).1 = su (fun p => if hpn P g p = true then 1 else 0) n + (if hpn P g n = true then 1 else 0)
    by_cases c : hpn P g n = true
    · rw [if_pos c, if_pos c, ← ih]
    · rw [if_neg c, if_neg c, ← ih]; rfl
end
