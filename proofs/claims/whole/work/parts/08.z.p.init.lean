section
theorem in_add {N : Nat} {σ : nb_St} {q g : Nat} {a0 a1 a2 a3 : Int32} (h : σ q 0 = nI g) (hg : g < 8) : fX4_addGuest N σ q a0 a1 a2 a3 = some (nI 1, nb_st (nb_st (nb_st (nb_st (nb_st σ (q + 1) g a0) (q + 2) g a1) (q + 3) g a2) (q + 4) g a3) q 0 (nI (g + 1))) := by
  unfold fX4_addGuest
  simp (disch := omega) only [pn_g, pu_b1, pn_b2, pn_leT, pn_leF, pn_ltT, pn_ltF, pn_eqT, pn_eqF, pu_in, pu_ix, nI_add, pk_mul, pk_sub, ↓reduceIte, Bool.false_eq_true, if_false, if_true, nb_st_s, nb_st_k, nb_st_n, nb_sa_s, nb_sa_n, pL0, pL1, pL2, pL3, pL4, pL5, pL6, pL7, pL8, pL9, pL10, pL11, pL12, pL13, pL15, pL20, pL30, pL99, pL100, pL180, pL240, pL255, pL350, pL359, pL719, pL720, pL999, pL9999, pL99999, pL100000, pL1000000, nb_let, h]
theorem in_ne {N : Nat} {τ : nb_St} (hN : 10 < N) : ∃ r, fX8_noEvening N τ (0 : Int32) = some r ∧ (∀ k, k ≠ 2 → k ≠ 7 → k ≠ 10 → k ≠ 11 → k ≠ 12 → k ≠ 15 → k ≠ 19 → k ≠ 22 → k ≠ 13 → k ≠ 14 → r k = τ k) ∧ r 2 0 = 0 ∧ r 7 0 = 0 ∧ r 10 0 = 15 ∧ r 11 0 = 20 ∧ r 12 0 = 240 ∧ r 15 0 = 0 ∧ r 19 0 = 0 ∧ r 22 0 = 0 ∧ ∀ j, j < 3 → r 13 j = 0 ∧ r 14 j = 0 := by
  obtain ⟨t0, ht0⟩ : ∃ t0, t0 = nb_st (nb_st (nb_st (nb_st (nb_st (nb_st (nb_st (nb_st τ 2 0 0) 7 0 0) 10 0 15) 11 0 20) 12 0 240) 15 0 0) 19 0 0) 22 0 0 := ⟨_, rfl⟩
  have h8 : ∃ r, fX8_noEvening N τ (0 : Int32) = some r ∧ (∀ k, k ≠ 13 → k ≠ 14 → r k = t0 k) ∧ ∀ j, j < 3 → r 13 j = 0 ∧ r 14 j = 0 := by
    unfold fX8_noEvening
    dsimp only [nb_let]
    have g2 : nb_in (0 : Int32) 2 = true := by decide
    have g4 : nb_in (0 : Int32) 4 = true := by decide
    have i1 : nb_ix (0 : Int32) = 0 := rfl
    simp only [g2, g4, pn_g, i1]
    rw [← ht0]
    refine nb_e2 (I := fun j x s => j ≤ 3 ∧ x = nI j ∧ (∀ k, k ≠ 13 → k ≠ 14 → s k = t0 k) ∧ ∀ i, i < j → s 13 i = 0 ∧ s 14 i = 0) 3 ?_ (by omega) ⟨by omega, rfl, fun _ _ _ => rfl, fun i hi => absurd hi (by omega)⟩
    rintro ag j x s ⟨hj, rfl, q1, q3⟩
    by_cases hlt : j < 3
    · right
      refine ⟨hlt, nI (j + 1), nb_st (nb_st s 13 j 0) 14 j 0, ⟨by omega, rfl, fun k k1 k2 => by rw [nb_st_k k2, nb_st_k k1]; exact q1 k k1 k2, fun i hi => ?_⟩, ?_⟩
      · by_cases c : i = j
        · subst c
          rw [nb_st_k (by decide), nb_st_s, nb_st_s]; exact ⟨rfl, rfl⟩
        · rw [nb_st_k (by decide), nb_st_n (Or.inr (by omega)), nb_st_n (Or.inr (by omega)), nb_st_k (by decide)]; exact q3 i (by omega)
      · rw [if_neg (show ¬ (3 : Int32) ≤ nI j from nI_ge (b := 3) hlt (by omega)), show (3 : Int32) * 0 + nI j = nI j by rw [show (3 : Int32) = nI 3 from rfl, show (0 : Int32) = nI 0 from rfl, pk_mul, nI_add, Nat.mul_zero, Nat.zero_add], nb_g_t (pu_in (by omega) (by omega)), pu_ix (by omega), nb_g_t (pu_in (by omega) (by omega)), nI_1]
    · left
      have : j = 3 := by omega
      subst this
      exact ⟨s, by rw [if_pos (show (3 : Int32) ≤ nI 3 by decide)], q1, q3⟩
  obtain ⟨r, e, q1, q2⟩ := h8
  refine ⟨r, e, fun k k2 k7 k10 k11 k12 k15 k19 k22 k13 k14 => ?_, ?_, ?_, ?_, ?_, ?_, ?_, ?_, ?_, q2⟩
  · rw [q1 k k13 k14, ht0, nb_st_k k22, nb_st_k k19, nb_st_k k15, nb_st_k k12, nb_st_k k11, nb_st_k k10, nb_st_k k7, nb_st_k k2]
  all_goals
    rw [q1 _ (by decide) (by decide), ht0]
    simp (disch := omega) only [nb_st_k, nb_st_s]
theorem pp_init : ∃ (N : Nat) (σ τ : nb_St), fX7_init N = some σ ∧ fX8_init N = some τ ∧ pr_Rel GV GM σ τ := by
  obtain ⟨N, hN⟩ : ∃ N : Nat, N = 100 := ⟨_, rfl⟩
  obtain ⟨r, r1, r2, r3, r4, r5, r6, r7, r8, r9, r10, r11⟩ := in_ne (N := N) (τ := s0_X8) (by omega)
  obtain ⟨τ, hτ⟩ : ∃ τ, τ = nb_st (nb_st (nb_st (nb_st (nb_st (nb_st r 2 0 (2 : Int32)) 4 0 (200 : Int32)) 5 0 (30 : Int32)) 3 1 (1 : Int32)) 4 1 (210 : Int32)) 5 1 (40 : Int32) := ⟨_, rfl⟩
  have h8 : fX8_init N = some τ := by
    unfold fX8_init
    dsimp only [nb_let]
    rw [r1, pu_b1, hτ]
    rfl
  obtain ⟨A1, hA1⟩ : ∃ A1, A1 = nb_st (nb_st (nb_st (nb_st (nb_st s0_X7 (4 + 1) 0 (0 : Int32)) (4 + 2) 0 (200 : Int32)) (4 + 3) 0 (30 : Int32)) (4 + 4) 0 (0 : Int32)) 4 0 (nI (0 + 1)) := ⟨_, rfl⟩
  obtain ⟨A2, hA2⟩ : ∃ A2, A2 = nb_st (nb_st (nb_st (nb_st (nb_st A1 (4 + 1) 1 (1 : Int32)) (4 + 2) 1 (210 : Int32)) (4 + 3) 1 (40 : Int32)) (4 + 4) 1 (0 : Int32)) 4 0 (nI (1 + 1)) := ⟨_, rfl⟩
  have e1 : fX4_addGuest N s0_X7 4 (0 : Int32) (200 : Int32) (30 : Int32) (0 : Int32) = some (nI 1, A1) := by
    rw [hA1]
    exact in_add (g := 0) rfl (by decide)
  have e2 : fX4_addGuest N A1 4 (1 : Int32) (210 : Int32) (40 : Int32) (0 : Int32) = some (nI 1, A2) := by
    rw [hA2]
    exact in_add (g := 1) (by rw [hA1, nb_st_s]) (by decide)
  have a0 : ∀ k, k < 4 ∨ 8 < k → A2 k = s0_X7 k := fun k hk => by
    rw [hA2, hA1]
    simp (disch := omega) only [nb_st_k]
  have a4 : ∀ j, j ≠ 0 → A2 4 j = s0_X7 4 j := fun j hj => by
    rw [hA2, hA1]
    simp (disch := omega) only [nb_st_k, nb_st_n]
  have a40 : A2 4 0 = nI 2 := by rw [hA2, nb_st_s]
  have p50 : A2 5 0 = nI 0 := by
    rw [hA2, hA1]
    simp (disch := omega) only [nb_st_k, nb_st_n, nb_st_s]
    rfl
  have p51 : A2 5 1 = nI 1 := by
    rw [hA2, hA1]
    simp (disch := omega) only [nb_st_k, nb_st_n, nb_st_s]
    rfl
  have p60 : A2 6 0 = nI 200 := by
    rw [hA2, hA1]
    simp (disch := omega) only [nb_st_k, nb_st_n, nb_st_s]
    rfl
  have p61 : A2 6 1 = nI 210 := by
    rw [hA2, hA1]
    simp (disch := omega) only [nb_st_k, nb_st_n, nb_st_s]
    rfl
  have p70 : A2 7 0 = nI 30 := by
    rw [hA2, hA1]
    simp (disch := omega) only [nb_st_k, nb_st_n, nb_st_s]
    rfl
  have p71 : A2 7 1 = nI 40 := by
    rw [hA2, hA1]
    simp (disch := omega) only [nb_st_k, nb_st_n, nb_st_s]
    rfl
  have p80 : A2 8 0 = nI 0 := by
    rw [hA2, hA1]
    simp (disch := omega) only [nb_st_k, nb_st_n, nb_st_s]
    rfl
  have p81 : A2 8 1 = nI 0 := by
    rw [hA2, hA1]
    simp (disch := omega) only [nb_st_k, nb_st_n, nb_st_s]
    rfl
  have z0 : ∀ k j, s0_X8 k j = 0 := fun _ _ => rfl
  have m30 : τ 3 0 = nI 0 := by
    rw [hτ]
    simp (disch := omega) only [nb_st_k, nb_st_n, nb_st_s]
    rw [r2 3 (by decide) (by decide) (by decide) (by decide) (by decide) (by decide) (by decide) (by decide) (by decide) (by decide)]
    rfl
  have m31 : τ 3 1 = nI 1 := by
    rw [hτ]
    simp (disch := omega) only [nb_st_k, nb_st_n, nb_st_s]
    rfl
  have m40 : τ 4 0 = nI 200 := by
    rw [hτ]
    simp (disch := omega) only [nb_st_k, nb_st_n, nb_st_s]
    rfl
  have m41 : τ 4 1 = nI 210 := by
    rw [hτ]
    simp (disch := omega) only [nb_st_k, nb_st_n, nb_st_s]
    rfl
  have m50 : τ 5 0 = nI 30 := by
    rw [hτ]
    simp (disch := omega) only [nb_st_k, nb_st_n, nb_st_s]
    rfl
  have m51 : τ 5 1 = nI 40 := by
    rw [hτ]
    simp (disch := omega) only [nb_st_k, nb_st_n, nb_st_s]
    rfl
  have mo : ∀ k, k ≠ 2 → k ≠ 3 → k ≠ 4 → k ≠ 5 → τ k = r k := fun k k2 k3 k4 k5 => by
    rw [hτ, nb_st_k k5, nb_st_k k4, nb_st_k k3, nb_st_k k5, nb_st_k k4, nb_st_k k2]
  have m6 : ∀ j, τ 6 j = 0 := fun j => by
    rw [mo 6 (by decide) (by decide) (by decide) (by decide), r2 6 (by decide) (by decide) (by decide) (by decide) (by decide) (by decide) (by decide) (by decide) (by decide) (by decide)]
    rfl
  have m2 : τ 2 0 = nI 2 := by
    rw [hτ]
    simp (disch := omega) only [nb_st_k, nb_st_n, nb_st_s]
    rfl
  have m0 : ∀ j, τ 0 j = 0 := fun j => by
    rw [mo 0 (by decide) (by decide) (by decide) (by decide), r2 0 (by decide) (by decide) (by decide) (by decide) (by decide) (by decide) (by decide) (by decide) (by decide) (by decide)]
    rfl
  have npt : ∀ s : nb_St, (∀ k, 4 ≤ k → k ≤ 19 → s k = A2 k) → pr_pt s τ 4 0 2 0 0 := fun s hs => by
    have h4 : s 4 = A2 4 := hs 4 (by decide) (by decide)
    refine ⟨by omega, by omega, by omega, by rw [h4]; exact a40, m2, fun k hk => ?_, ?_, ?_, ?_, ?_, ?_, ?_, ?_, ?_, fun k hk => absurd hk (by omega), fun k hk => ?_, ?_, ?_, fun k hk => absurd hk (by omega)⟩
    · rw [Nat.mul_zero, Nat.zero_add, hs (4 + 1) (by decide) (by decide), hs (4 + 2) (by decide) (by decide), hs (4 + 3) (by decide) (by decide), hs (4 + 4) (by decide) (by decide), m6]
      have : k = 0 ∨ k = 1 := by omega
      rcases this with rfl | rfl
      · rw [show A2 (4 + 1) 0 = nI 0 from p50, show A2 (4 + 2) 0 = nI 200 from p60, show A2 (4 + 3) 0 = nI 30 from p70, show A2 (4 + 4) 0 = nI 0 from p80, m30, m40, m50]
        exact ⟨rfl, ⟨0, by omega, by omega, rfl⟩, rfl, ⟨200, by omega, by omega, rfl⟩, rfl, ⟨30, by omega, by omega, rfl⟩, rfl, ⟨0, by omega, by omega, rfl⟩⟩
      · rw [show A2 (4 + 1) 1 = nI 1 from p51, show A2 (4 + 2) 1 = nI 210 from p61, show A2 (4 + 3) 1 = nI 40 from p71, show A2 (4 + 4) 1 = nI 0 from p81, m31, m41, m51]
        exact ⟨rfl, ⟨1, by omega, by omega, rfl⟩, rfl, ⟨210, by omega, by omega, rfl⟩, rfl, ⟨40, by omega, by omega, rfl⟩, rfl, ⟨0, by omega, by omega, rfl⟩⟩
    · rw [h4, a4 6 (by decide), mo 10 (by decide) (by decide) (by decide) (by decide), r5]; rfl
    · rw [h4, a4 6 (by decide)]; exact ⟨15, by omega, by omega, rfl⟩
    · rw [h4, a4 7 (by decide), mo 11 (by decide) (by decide) (by decide) (by decide), r6]; rfl
    · rw [h4, a4 7 (by decide)]; exact ⟨20, by omega, by omega, rfl⟩
    · rw [h4, a4 8 (by decide), mo 12 (by decide) (by decide) (by decide) (by decide), r7]; rfl
    · rw [h4, a4 8 (by decide)]; exact ⟨240, by omega, by omega, rfl⟩
    · rw [h4, a4 9 (by decide)]; rfl
    · rw [mo 7 (by decide) (by decide) (by decide) (by decide), r4]; rfl
    · rw [Nat.mul_zero, Nat.zero_add, hs (4 + 11) (by decide) (by decide), hs (4 + 12) (by decide) (by decide), a0 (4 + 11) (by omega), a0 (4 + 12) (by omega), mo 13 (by decide) (by decide) (by decide) (by decide), mo 14 (by decide) (by decide) (by decide) (by decide), (r11 k hk).1, (r11 k hk).2]
      exact ⟨rfl, ⟨0, by omega, by omega, rfl⟩, rfl, ⟨0, by omega, by omega, rfl⟩⟩
    · rw [h4, a4 14 (by decide)]; rfl
    · rw [mo 15 (by decide) (by decide) (by decide) (by decide), r8]; rfl
  have ntd : ∀ s : nb_St, (∀ k, 4 ≤ k → k ≤ 19 → s k = A2 k) → pr_told s τ (4 + 5) 0 0 0 := fun s hs => by
    have h9 : s (4 + 5) = A2 9 := hs 9 (by decide) (by decide)
    refine ⟨by omega, by omega, ?_, ?_, ?_, ?_, fun k hk => absurd hk (by omega), fun k hk => absurd hk (by omega)⟩
    · rw [h9, a0 9 (by omega)]; rfl
    · rw [mo 19 (by decide) (by decide) (by decide) (by decide), r9]; rfl
    · rw [h9, a0 9 (by omega)]; rfl
    · rw [mo 22 (by decide) (by decide) (by decide) (by decide), r10]; rfl
  have b03 : A2 0 3 = nI 4 := by rw [a0 0 (by omega)]; rfl
  have hcl : cl A2 τ 4 20 2 0 0 0 0 := ⟨Or.inl ⟨rfl, rfl⟩, b03, by omega, npt A2 (fun _ _ _ => rfl), ntd A2 (fun _ _ _ => rfl)⟩
  obtain ⟨n1, n2, n3, n4, n5, n6, -⟩ := cl_n (bus := 8) (bf := 0) (B := 719) (X := tt2) (on := ff1) (gv := zz1) hcl rfl
  have hg2 : nb_ix (τ 2 0) = 2 := n2
  obtain ⟨s, u1, u2, u3, u4, u5, u6⟩ := pz_gather (N := N) (σ := A2) (q := 4) (g := 2) (P := tv τ 3 8) (W := tv τ 4 8) (S := tv τ 5 8) (by omega) (by omega) a40 (by omega) (fun k hk => ⟨(n3 k hk).2.2, (n3 k hk).1⟩) (fun k hk => ⟨(n5 k hk).2.2, (n5 k hk).1⟩) (fun k hk => ⟨(n6 k hk).2.2, (n6 k hk).1⟩)
  have h7 : fX7_init N = some s := by
    unfold fX7_init
    dsimp only [nb_let]
    rw [show nb_ix (s0_X7 0 3) = 4 from rfl, nb_g_t (show xc_pty 4 = true from rfl), e1, pn_b2]
    have q1 : A1 0 3 = nI 4 := by
      rw [hA1]
      simp (disch := omega) only [nb_st_k]
      rfl
    rw [q1, pu_ix (by decide), nb_g_t (show xc_pty 4 = true from rfl), e2, pn_b2, b03, pu_ix (by decide), nb_g_t (show xc_pty 4 = true from rfl), u1, pu_b1]
  have us : ∀ k, 4 ≤ k → k ≤ 19 → s k = A2 k := fun k k1 k2 => u2 k (by omega) (by omega) (by omega)
  have uo : ∀ k, k ≠ 64 → k ≠ 65 → k ≠ 66 → k < 4 ∨ 8 < k → s k = s0_X7 k := fun k k1 k2 k3 k4 => by rw [u2 k k1 k2 k3]; exact a0 k k4
  refine ⟨N, s, τ, h7, h8, 4, 20, 0, 2, 0, 0, 0, 0, 0, 0, Or.inl ⟨rfl, rfl⟩, ?_, ?_, ⟨by omega, ?_, m0 0, fun k hk => absurd hk (by omega)⟩, by omega, npt s us, ntd s us, ⟨by omega, ?_, m0 25, fun j hj => absurd hj (by omega)⟩, Nat.zero_le _, Nat.zero_le _, ⟨by omega, ?_, m0 24, fun q => absurd q (by omega), fun q => absurd q (by omega)⟩, ⟨?_, ?_, ?_, Or.inl u3⟩, GV_ok1 _ _ ?_⟩
  · rw [uo 0 (by decide) (by decide) (by decide) (by omega)]; rfl
  · rw [uo 0 (by decide) (by decide) (by decide) (by omega)]; rfl
  · rw [uo 0 (by decide) (by decide) (by decide) (by omega)]; rfl
  · rw [uo 69 (by decide) (by decide) (by decide) (by omega)]; rfl
  · rw [uo 69 (by decide) (by decide) (by decide) (by omega)]; rfl
  · unfold gmd; rw [hg2]; exact u4
  · unfold gmd; rw [hg2]; exact u5
  · unfold gmd; rw [hg2]; exact u6
  · rw [uo 61 (by decide) (by decide) (by decide) (by omega)]; rfl
theorem all_pure : xp_All (pr_Rel GV GM) := ⟨fun _ _ h a b => pp_write ok_all h a b, fun _ _ h => pp_wipe ok_all h, fun _ _ h => pp_fault h, fun _ _ h => pp_lay h, fun _ _ h a b => pp_guest h a b, fun _ _ h a b => pp_shame ok_all h a b, fun _ _ h a b => pp_presses ok_all h a b, fun _ _ h a b => pp_is ok_all h a b, fun _ _ h a b => pp_when ok_all h a b, fun _ _ h a => pp_wasted ok_all h a, fun _ _ h a b => pp_frees ok_all h a b, fun _ _ h a b => pp_madeUp ok_all h a b, fun _ _ h a => pp_bell ok_all h a, fun _ _ h a => pp_best ok_all h a, fun _ _ h a => pp_given ok_all h a, fun _ _ h a b => pp_cost h a b, fun _ _ h a => pp_rests h a, fun _ _ h => pp_price h, fun _ _ h a b => pp_meant h a b, fun _ _ h a b c => pp_since h a b c, fun σ τ _ a b c => pu_leave σ τ a b c, fun _ _ h a b => pp_drawn ok_all h a b, fun _ _ h a b => pp_sign ok_all h a b, fun _ _ h a => pp_say ok_all h a, fun _ _ h => pp_takeBack ok_all h, fun _ _ h => pp_keep ok_all h, fun _ _ h => pp_back ok_all h, fun _ _ h a => pp_count h a⟩
end
