section
def ec0 (σ : nb_St) (q : Nat) (D : eT) : Prop := (q = 4 ∨ q = 20) ∧ σ 36 0 = nI q ∧ σ q 0 = nI (eg D) ∧ 1 ≤ eg D ∧ eg D ≤ 8 ∧ (∀ k, k < eg D → σ (q + 1) k = nI (eP D k)) ∧ (∀ k, k < eg D → eP D k < 4) ∧ (∀ k, k < eg D → σ 53 k = nI (eK D k)) ∧ (∀ k, k < eg D → eK D k ≤ 5) ∧ (∀ k, k < eg D → σ 54 k = nI (eF D k)) ∧ (∀ k, k < eg D → eF D k ≤ 359) ∧ (∀ k, k < eg D → σ (q + 3) k = nI (eS D k)) ∧ (∀ k, k < eg D → eS D k ≤ 199) ∧ σ q 6 = nI (eL D) ∧ eL D ≤ 99 ∧ σ q 7 = nI (eH D) ∧ eH D ≤ 60 ∧ σ 36 7 = nI (eB D) ∧ eB D ≤ 719 ∧ σ 36 8 = bm (hpn (eP D) (eg D))
def ecs (σ : nb_St) (D : eT) (n : Nat) (M V : Nat → Nat) (X : Nat → Nat → Bool) : Prop := σ 36 3 = nI n ∧ n ≤ 9 ∧ (∀ k, k < n → σ 55 k = nI (M k)) ∧ (∀ k, k < n → M k ≤ 359) ∧ (∀ k, k < n → σ 56 k = nI (V k)) ∧ (∀ k, k < n → V k ≤ 99) ∧ (∀ k, k < n → σ 57 k = hb (X k)) ∧ ∀ i, i < eg D → ∀ t, es D i t = if eK D i = 2 then 0 else su (fun k => if M k ≤ t ∧ X k i = true then V k else 0) n
def ecw (σ : nb_St) (q : Nat) (D : eT) (b : Nat) (Y : Nat → Nat) : Prop := σ (q + 5) 3 = nI b ∧ b ≤ 4 ∧ (∀ k, k < b → σ (q + 8) k = nI (Y k)) ∧ (∀ k, k < b → Y k ≤ 359) ∧ ∀ i, i < eg D → ∀ t, ew D i t = if eK D i = 1 then su (fun k => if Y k ≤ t then 10 else 0) b else 0
def ec (σ : nb_St) (q : Nat) (D : eT) : Prop := ec0 σ q D ∧ (∃ n M V X, ecs σ D n M V X) ∧ ∃ b Y, ecw σ q D b Y
def ef (σ σ' : nb_St) : Prop := (∀ k, k ≠ 36 → k ≠ 58 → k ≠ 59 → k ≠ 60 → σ' k = σ k) ∧ ∀ j, j ≠ 9 → j ≠ 10 → σ' 36 j = σ 36 j
theorem ef_r {σ : nb_St} : ef σ σ := ⟨fun _ _ _ _ _ => rfl, fun _ _ _ => rfl⟩
theorem ef_t {σ σ' σ'' : nb_St} (h : ef σ σ') (h' : ef σ' σ'') : ef σ σ'' := ⟨fun k a b c d => (h'.1 k a b c d).trans (h.1 k a b c d), fun j a b => (h'.2 j a b).trans (h.2 j a b)⟩
theorem ec_f {σ σ' : nb_St} {q : Nat} {D : eT} (h : ec σ q D) (f : ef σ σ') : ec σ' q D := by
  obtain ⟨⟨a1, a2, a3, a4, a5, a6, a7, a8, a9, a10, a11, a12, a13, a14, a15, a16, a17, a18, a19, a20⟩, ⟨n, M, V, X, s1, s2, s3, s4, s5, s6, s7, s8⟩, b, Y, w1, w2, w3, w4, w5⟩ := h
  obtain ⟨f1, f2⟩ := f
  have g0 : σ' q = σ q := f1 q (by omega) (by omega) (by omega) (by omega)
  have g1 : ∀ j, j ≤ 8 → σ' (q + j) = σ (q + j) := fun j hj => f1 _ (by omega) (by omega) (by omega) (by omega)
  have g2 : ∀ j, 53 ≤ j → j ≤ 57 → σ' j = σ j := fun j h1 h2 => f1 _ (by omega) (by omega) (by omega) (by omega)
  refine ⟨⟨a1, ?_, ?_, a4, a5, ?_, a7, ?_, a9, ?_, a11, ?_, a13, ?_, a15, ?_, a17, ?_, a19, ?_⟩, ⟨n, M, V, X, ?_, s2, ?_, s4, ?_, s6, ?_, s8⟩, b, Y, ?_, w2, ?_, w4, w5⟩
  · rw [f2 _ (by decide) (by decide)]; exact a2
  · rw [g0]; exact a3
  · rw [g1 1 (by decide)]; exact a6
  · rw [g2 53 (by decide) (by decide)]; exact a8
  · rw [g2 54 (by decide) (by decide)]; exact a10
  · rw [g1 3 (by decide)]; exact a12
  · rw [g0]; exact a14
  · rw [g0]; exact a16
  · rw [f2 _ (by decide) (by decide)]; exact a18
  · rw [f2 _ (by decide) (by decide)]; exact a20
  · rw [f2 _ (by decide) (by decide)]; exact s1
  · rw [g2 55 (by decide) (by decide)]; exact s3
  · rw [g2 56 (by decide) (by decide)]; exact s5
  · rw [g2 57 (by decide) (by decide)]; exact s7
  · rw [g1 5 (by decide)]; exact w1
  · rw [g1 8 (by decide)]; exact w3
theorem xc_q {q : Nat} (h : q = 4 ∨ q = 20) : xc_pty q = true := by rcases h with rfl | rfl <;> rfl
theorem pv_shame {N : Nat} {σ : nb_St} {q : Nat} {D : eT} {i t c : Nat} (hN : 10 < N) (h : ec σ q D) (hc : σ 36 10 = nI c) (hc8 : c ≤ 8) (hi : i < eg D) (ht : t < 1000) : fX0_shameAt N σ (nI i) (nI t) = some (nI ((eS D i - (es D i t + eL D * c)) + ew D i t)) := by
  obtain ⟨⟨a1, a2, a3, a4, a5, a6, a7, a8, a9, a10, a11, a12, a13, a14, a15, a16, a17, a18, a19, a20⟩, ⟨n, M, V, X, s1, s2, s3, s4, s5, s6, s7, s8⟩, b, Y, w1, w2, w3, w4, w5⟩ := h
  have hq := xc_q a1
  have k1 := a8 i hi
  have k2 := a9 i hi
  have k3 := a12 i hi
  have k4 := a13 i hi
  obtain ⟨lc, hlc⟩ : ∃ lc, lc = eL D * c := ⟨_, rfl⟩
  have hlc2 : lc ≤ 99 * 8 := by rw [hlc]; exact Nat.mul_le_mul a15 hc8
  rw [← hlc, s8 i hi t, w5 i hi t]
  obtain ⟨f, hf⟩ : ∃ f : Nat → Nat, f = fun k => if M k ≤ t ∧ X k i = true then V k else 0 := ⟨_, rfl⟩
  rw [← hf]
  have hf1 : ∀ j, j ≤ n → su f j ≤ 891 := fun j hj => by
    have := su_le (f := f) (B := 99) j (fun k hk => by
      rw [hf]
      show (if M k ≤ t ∧ X k i = true then V k else 0) ≤ 99
      have := s6 k (by omega)
      split <;> omega)
    omega
  obtain ⟨y, hy⟩ : ∃ y : Nat → Nat, y = fun k => if Y k ≤ t then 10 else 0 := ⟨_, rfl⟩
  rw [← hy]
  have hy1 : ∀ j, j ≤ b → su y j ≤ 40 := fun j hj => by
    have := su_le (f := y) (B := 10) j (fun k hk => by
      rw [hy]
      show (if Y k ≤ t then 10 else 0) ≤ 10
      split <;> omega)
    omega
  unfold fX0_shameAt
  simp (disch := omega) only [pn_g, pu_b1, pn_b2, pn_leT, pn_leF, pn_ltT, pn_ltF, pn_eqT, pn_eqF, pu_in, pu_ix, nI_add, pk_mul, pk_sub, ↓reduceIte, Bool.false_eq_true, if_false, if_true, nb_st_s, nb_st_k, nb_st_n, nb_sa_s, nb_sa_n, pL0, pL1, pL2, pL3, pL4, pL5, pL6, pL7, pL8, pL9, pL10, pL11, pL12, pL13, pL15, pL20, pL30, pL99, pL100, pL180, pL240, pL255, pL350, pL359, pL719, pL720, pL999, pL9999, pL99999, pL100000, pL1000000, nb_let, a2, hq, a14, hc, k3]
  rw [← hlc]
  apply pn_x
  by_cases deaf : eK D i = 2
  · rw [if_pos deaf, Nat.zero_add]
    refine nb_e2 (I := fun j v x => j = 0 ∧ x = nI 0 ∧ v = nI (eS D i) - nI lc) 0 ?_ (by omega) ⟨rfl, rfl, rfl⟩
    rintro ag j v x ⟨rfl, rfl, rfl⟩
    left
    by_cases n0 : n = 0
    · simp (disch := omega) only [pn_g, pu_b1, pn_b2, pn_leT, pn_leF, pn_ltT, pn_ltF, pn_eqT, pn_eqF, pu_in, pu_ix, nI_add, pk_mul, pk_sub, ↓reduceIte, Bool.false_eq_true, if_false, if_true, nb_st_s, nb_st_k, nb_st_n, nb_sa_s, nb_sa_n, pL0, pL1, pL2, pL3, pL4, pL5, pL6, pL7, pL8, pL9, pL10, pL11, pL12, pL13, pL15, pL20, pL30, pL99, pL100, pL180, pL240, pL255, pL350, pL359, pL719, pL720, pL999, pL9999, pL99999, pL100000, pL1000000, nb_let, s1, n0]
      refine nb_e2 (I := fun j v x => j ≤ b ∧ x = nI j ∧ v = nI ((eS D i - lc) + (if eK D i = 1 then su y j else 0))) b ?_ (by omega) ⟨by omega, rfl, ?_⟩
      · rintro ag j v x ⟨hj, rfl, rfl⟩
        have q1 := hy1 j hj
        by_cases hlt : j < b
        · have q2 := w4 j hlt
          have q3 := w3 j hlt
          by_cases kk : eK D i = 1
          · first
              | omega
              | right
                refine ⟨hlt, nI ((eS D i - lc) + (if eK D i = 1 then su y (j + 1) else 0)), nI (j + 1), ⟨by omega, rfl, rfl⟩, ?_⟩
                have hs : su y (j + 1) = su y j + y j := rfl
                by_cases cy : Y j ≤ t
                · have yj : y j = 10 := by rw [hy]; exact if_pos cy
                  rw [hs, yj]
                  simp (disch := omega) only [pn_g, pu_b1, pn_b2, pn_leT, pn_leF, pn_ltT, pn_ltF, pn_eqT, pn_eqF, pu_in, pu_ix, nI_add, pk_mul, pk_sub, ↓reduceIte, Bool.false_eq_true, if_false, if_true, nb_st_s, nb_st_k, nb_st_n, nb_sa_s, nb_sa_n, pL0, pL1, pL2, pL3, pL4, pL5, pL6, pL7, pL8, pL9, pL10, pL11, pL12, pL13, pL15, pL20, pL30, pL99, pL100, pL180, pL240, pL255, pL350, pL359, pL719, pL720, pL999, pL9999, pL99999, pL100000, pL1000000, nb_let, a2, hq, w1, k1, q3, kk, Nat.add_assoc, Nat.add_zero]
                · have yj : y j = 0 := by rw [hy]; exact if_neg cy
                  rw [hs, yj]
                  simp (disch := omega) only [pn_g, pu_b1, pn_b2, pn_leT, pn_leF, pn_ltT, pn_ltF, pn_eqT, pn_eqF, pu_in, pu_ix, nI_add, pk_mul, pk_sub, ↓reduceIte, Bool.false_eq_true, if_false, if_true, nb_st_s, nb_st_k, nb_st_n, nb_sa_s, nb_sa_n, pL0, pL1, pL2, pL3, pL4, pL5, pL6, pL7, pL8, pL9, pL10, pL11, pL12, pL13, pL15, pL20, pL30, pL99, pL100, pL180, pL240, pL255, pL350, pL359, pL719, pL720, pL999, pL9999, pL99999, pL100000, pL1000000, nb_let, a2, hq, w1, k1, q3, kk, Nat.add_assoc, Nat.add_zero]
          · left
            refine ⟨nI ((eS D i - lc) + 0), ?_, by rw [if_neg kk]⟩
            simp (disch := omega) only [pn_g, pu_b1, pn_b2, pn_leT, pn_leF, pn_ltT, pn_ltF, pn_eqT, pn_eqF, pu_in, pu_ix, nI_add, pk_mul, pk_sub, ↓reduceIte, Bool.false_eq_true, if_false, if_true, nb_st_s, nb_st_k, nb_st_n, nb_sa_s, nb_sa_n, pL0, pL1, pL2, pL3, pL4, pL5, pL6, pL7, pL8, pL9, pL10, pL11, pL12, pL13, pL15, pL20, pL30, pL99, pL100, pL180, pL240, pL255, pL350, pL359, pL719, pL720, pL999, pL9999, pL99999, pL100000, pL1000000, nb_let, a2, hq, w1, k1, kk]
        · left
          have : j = b := by omega
          subst this
          refine ⟨_, ?_, rfl⟩
          simp (disch := omega) only [pn_g, pu_b1, pn_b2, pn_leT, pn_leF, pn_ltT, pn_ltF, pn_eqT, pn_eqF, pu_in, pu_ix, nI_add, pk_mul, pk_sub, ↓reduceIte, Bool.false_eq_true, if_false, if_true, nb_st_s, nb_st_k, nb_st_n, nb_sa_s, nb_sa_n, pL0, pL1, pL2, pL3, pL4, pL5, pL6, pL7, pL8, pL9, pL10, pL11, pL12, pL13, pL15, pL20, pL30, pL99, pL100, pL180, pL240, pL255, pL350, pL359, pL719, pL720, pL999, pL9999, pL99999, pL100000, pL1000000, nb_let, a2, hq, w1]
      · have e0 : su y 0 = 0 := rfl
        rw [e0, ite_self, Nat.add_zero]
        exact pu_maxS (by omega) (by omega)
    · have hd : (nI (eK D i) = nI 2) = True := eq_true (by rw [deaf])
      simp (disch := omega) only [pn_g, pu_b1, pn_b2, pn_leT, pn_leF, pn_ltT, pn_ltF, pn_eqT, pn_eqF, pu_in, pu_ix, nI_add, pk_mul, pk_sub, ↓reduceIte, Bool.false_eq_true, if_false, if_true, nb_st_s, nb_st_k, nb_st_n, nb_sa_s, nb_sa_n, pL0, pL1, pL2, pL3, pL4, pL5, pL6, pL7, pL8, pL9, pL10, pL11, pL12, pL13, pL15, pL20, pL30, pL99, pL100, pL180, pL240, pL255, pL350, pL359, pL719, pL720, pL999, pL9999, pL99999, pL100000, pL1000000, nb_let, s1, k1, hd]
      refine nb_e2 (I := fun j v x => j ≤ b ∧ x = nI j ∧ v = nI ((eS D i - lc) + (if eK D i = 1 then su y j else 0))) b ?_ (by omega) ⟨by omega, rfl, ?_⟩
      · rintro ag j v x ⟨hj, rfl, rfl⟩
        have q1 := hy1 j hj
        by_cases hlt : j < b
        · have q2 := w4 j hlt
          have q3 := w3 j hlt
          by_cases kk : eK D i = 1
          · first
              | omega
              | right
                refine ⟨hlt, nI ((eS D i - lc) + (if eK D i = 1 then su y (j + 1) else 0)), nI (j + 1), ⟨by omega, rfl, rfl⟩, ?_⟩
                have hs : su y (j + 1) = su y j + y j := rfl
                by_cases cy : Y j ≤ t
                · have yj : y j = 10 := by rw [hy]; exact if_pos cy
                  rw [hs, yj]
                  simp (disch := omega) only [pn_g, pu_b1, pn_b2, pn_leT, pn_leF, pn_ltT, pn_ltF, pn_eqT, pn_eqF, pu_in, pu_ix, nI_add, pk_mul, pk_sub, ↓reduceIte, Bool.false_eq_true, if_false, if_true, nb_st_s, nb_st_k, nb_st_n, nb_sa_s, nb_sa_n, pL0, pL1, pL2, pL3, pL4, pL5, pL6, pL7, pL8, pL9, pL10, pL11, pL12, pL13, pL15, pL20, pL30, pL99, pL100, pL180, pL240, pL255, pL350, pL359, pL719, pL720, pL999, pL9999, pL99999, pL100000, pL1000000, nb_let, a2, hq, w1, k1, q3, kk, Nat.add_assoc, Nat.add_zero]
                · have yj : y j = 0 := by rw [hy]; exact if_neg cy
                  rw [hs, yj]
                  simp (disch := omega) only [pn_g, pu_b1, pn_b2, pn_leT, pn_leF, pn_ltT, pn_ltF, pn_eqT, pn_eqF, pu_in, pu_ix, nI_add, pk_mul, pk_sub, ↓reduceIte, Bool.false_eq_true, if_false, if_true, nb_st_s, nb_st_k, nb_st_n, nb_sa_s, nb_sa_n, pL0, pL1, pL2, pL3, pL4, pL5, pL6, pL7, pL8, pL9, pL10, pL11, pL12, pL13, pL15, pL20, pL30, pL99, pL100, pL180, pL240, pL255, pL350, pL359, pL719, pL720, pL999, pL9999, pL99999, pL100000, pL1000000, nb_let, a2, hq, w1, k1, q3, kk, Nat.add_assoc, Nat.add_zero]
          · left
            refine ⟨nI ((eS D i - lc) + 0), ?_, by rw [if_neg kk]⟩
            simp (disch := omega) only [pn_g, pu_b1, pn_b2, pn_leT, pn_leF, pn_ltT, pn_ltF, pn_eqT, pn_eqF, pu_in, pu_ix, nI_add, pk_mul, pk_sub, ↓reduceIte, Bool.false_eq_true, if_false, if_true, nb_st_s, nb_st_k, nb_st_n, nb_sa_s, nb_sa_n, pL0, pL1, pL2, pL3, pL4, pL5, pL6, pL7, pL8, pL9, pL10, pL11, pL12, pL13, pL15, pL20, pL30, pL99, pL100, pL180, pL240, pL255, pL350, pL359, pL719, pL720, pL999, pL9999, pL99999, pL100000, pL1000000, nb_let, a2, hq, w1, k1, kk]
        · left
          have : j = b := by omega
          subst this
          refine ⟨_, ?_, rfl⟩
          simp (disch := omega) only [pn_g, pu_b1, pn_b2, pn_leT, pn_leF, pn_ltT, pn_ltF, pn_eqT, pn_eqF, pu_in, pu_ix, nI_add, pk_mul, pk_sub, ↓reduceIte, Bool.false_eq_true, if_false, if_true, nb_st_s, nb_st_k, nb_st_n, nb_sa_s, nb_sa_n, pL0, pL1, pL2, pL3, pL4, pL5, pL6, pL7, pL8, pL9, pL10, pL11, pL12, pL13, pL15, pL20, pL30, pL99, pL100, pL180, pL240, pL255, pL350, pL359, pL719, pL720, pL999, pL9999, pL99999, pL100000, pL1000000, nb_let, a2, hq, w1]
      · have e0 : su y 0 = 0 := rfl
        rw [e0, ite_self, Nat.add_zero]
        exact pu_maxS (by omega) (by omega)
  · rw [if_neg deaf]
    refine nb_e2 (I := fun j v x => j ≤ n ∧ x = nI j ∧ v = nI (eS D i) - nI (su f j + lc)) n ?_ (by omega) ⟨by omega, rfl, ?_⟩
    · rintro ag j v x ⟨hj, rfl, rfl⟩
      have q1 := hf1 j hj
      by_cases hlt : j < n
      · right
        have r1 := s3 j hlt
        have r2 := s4 j hlt
        have r3 := s5 j hlt
        have r4 := s6 j hlt
        have r5 := s7 j hlt
        have r6 := hb_has (f := X j) (p := i) (by omega)
        refine ⟨hlt, nI (eS D i) - nI (su f (j + 1) + lc), nI (j + 1), ⟨by omega, rfl, rfl⟩, ?_⟩
        have hs : su f (j + 1) = su f j + f j := rfl
        by_cases cm : M j ≤ t
        · by_cases cx : X j i = true
          · have fj : f j = V j := by rw [hf]; exact if_pos ⟨cm, cx⟩
            rw [hs, fj]
            simp (disch := omega) only [pn_g, pu_b1, pn_b2, pn_leT, pn_leF, pn_ltT, pn_ltF, pn_eqT, pn_eqF, pu_in, pu_ix, nI_add, pk_mul, pk_sub, ↓reduceIte, Bool.false_eq_true, if_false, if_true, nb_st_s, nb_st_k, nb_st_n, nb_sa_s, nb_sa_n, pL0, pL1, pL2, pL3, pL4, pL5, pL6, pL7, pL8, pL9, pL10, pL11, pL12, pL13, pL15, pL20, pL30, pL99, pL100, pL180, pL240, pL255, pL350, pL359, pL719, pL720, pL999, pL9999, pL99999, pL100000, pL1000000, nb_let, s1, k1, r1, r3, r5, r6, cx, pu_subsub]
            rw [show su f j + lc + V j = su f j + V j + lc by omega]
          · have fj : f j = 0 := by rw [hf]; exact if_neg (fun q => cx q.2)
            rw [hs, fj]
            simp (disch := omega) only [pn_g, pu_b1, pn_b2, pn_leT, pn_leF, pn_ltT, pn_ltF, pn_eqT, pn_eqF, pu_in, pu_ix, nI_add, pk_mul, pk_sub, ↓reduceIte, Bool.false_eq_true, if_false, if_true, nb_st_s, nb_st_k, nb_st_n, nb_sa_s, nb_sa_n, pL0, pL1, pL2, pL3, pL4, pL5, pL6, pL7, pL8, pL9, pL10, pL11, pL12, pL13, pL15, pL20, pL30, pL99, pL100, pL180, pL240, pL255, pL350, pL359, pL719, pL720, pL999, pL9999, pL99999, pL100000, pL1000000, nb_let, s1, k1, r1, r3, r5, r6, cx, Nat.add_zero]
        · have fj : f j = 0 := by rw [hf]; exact if_neg (fun q => cm q.1)
          rw [hs, fj]
          simp (disch := omega) only [pn_g, pu_b1, pn_b2, pn_leT, pn_leF, pn_ltT, pn_ltF, pn_eqT, pn_eqF, pu_in, pu_ix, nI_add, pk_mul, pk_sub, ↓reduceIte, Bool.false_eq_true, if_false, if_true, nb_st_s, nb_st_k, nb_st_n, nb_sa_s, nb_sa_n, pL0, pL1, pL2, pL3, pL4, pL5, pL6, pL7, pL8, pL9, pL10, pL11, pL12, pL13, pL15, pL20, pL30, pL99, pL100, pL180, pL240, pL255, pL350, pL359, pL719, pL720, pL999, pL9999, pL99999, pL100000, pL1000000, nb_let, s1, k1, r1, Nat.add_zero]
      · left
        have : j = n := by omega
        subst this
        obtain ⟨aa, haa⟩ : ∃ aa, aa = su f j + lc := ⟨_, rfl⟩
        rw [← haa]
        simp (disch := omega) only [pn_g, pu_b1, pn_b2, pn_leT, pn_leF, pn_ltT, pn_ltF, pn_eqT, pn_eqF, pu_in, pu_ix, nI_add, pk_mul, pk_sub, ↓reduceIte, Bool.false_eq_true, if_false, if_true, nb_st_s, nb_st_k, nb_st_n, nb_sa_s, nb_sa_n, pL0, pL1, pL2, pL3, pL4, pL5, pL6, pL7, pL8, pL9, pL10, pL11, pL12, pL13, pL15, pL20, pL30, pL99, pL100, pL180, pL240, pL255, pL350, pL359, pL719, pL720, pL999, pL9999, pL99999, pL100000, pL1000000, nb_let, s1]
        refine nb_e2 (I := fun j v x => j ≤ b ∧ x = nI j ∧ v = nI ((eS D i - aa) + (if eK D i = 1 then su y j else 0))) b ?_ (by omega) ⟨by omega, rfl, ?_⟩
        · rintro ag j v x ⟨hj, rfl, rfl⟩
          have q1 := hy1 j hj
          by_cases hlt : j < b
          · have q2 := w4 j hlt
            have q3 := w3 j hlt
            by_cases kk : eK D i = 1
            · first
                | omega
                | right
                  refine ⟨hlt, nI ((eS D i - aa) + (if eK D i = 1 then su y (j + 1) else 0)), nI (j + 1), ⟨by omega, rfl, rfl⟩, ?_⟩
                  have hs : su y (j + 1) = su y j + y j := rfl
                  by_cases cy : Y j ≤ t
                  · have yj : y j = 10 := by rw [hy]; exact if_pos cy
                    rw [hs, yj]
                    simp (disch := omega) only [pn_g, pu_b1, pn_b2, pn_leT, pn_leF, pn_ltT, pn_ltF, pn_eqT, pn_eqF, pu_in, pu_ix, nI_add, pk_mul, pk_sub, ↓reduceIte, Bool.false_eq_true, if_false, if_true, nb_st_s, nb_st_k, nb_st_n, nb_sa_s, nb_sa_n, pL0, pL1, pL2, pL3, pL4, pL5, pL6, pL7, pL8, pL9, pL10, pL11, pL12, pL13, pL15, pL20, pL30, pL99, pL100, pL180, pL240, pL255, pL350, pL359, pL719, pL720, pL999, pL9999, pL99999, pL100000, pL1000000, nb_let, a2, hq, w1, k1, q3, kk, Nat.add_assoc, Nat.add_zero]
                  · have yj : y j = 0 := by rw [hy]; exact if_neg cy
                    rw [hs, yj]
                    simp (disch := omega) only [pn_g, pu_b1, pn_b2, pn_leT, pn_leF, pn_ltT, pn_ltF, pn_eqT, pn_eqF, pu_in, pu_ix, nI_add, pk_mul, pk_sub, ↓reduceIte, Bool.false_eq_true, if_false, if_true, nb_st_s, nb_st_k, nb_st_n, nb_sa_s, nb_sa_n, pL0, pL1, pL2, pL3, pL4, pL5, pL6, pL7, pL8, pL9, pL10, pL11, pL12, pL13, pL15, pL20, pL30, pL99, pL100, pL180, pL240, pL255, pL350, pL359, pL719, pL720, pL999, pL9999, pL99999, pL100000, pL1000000, nb_let, a2, hq, w1, k1, q3, kk, Nat.add_assoc, Nat.add_zero]
            · left
              refine ⟨nI ((eS D i - aa) + 0), ?_, by rw [if_neg kk]⟩
              simp (disch := omega) only [pn_g, pu_b1, pn_b2, pn_leT, pn_leF, pn_ltT, pn_ltF, pn_eqT, pn_eqF, pu_in, pu_ix, nI_add, pk_mul, pk_sub, ↓reduceIte, Bool.false_eq_true, if_false, if_true, nb_st_s, nb_st_k, nb_st_n, nb_sa_s, nb_sa_n, pL0, pL1, pL2, pL3, pL4, pL5, pL6, pL7, pL8, pL9, pL10, pL11, pL12, pL13, pL15, pL20, pL30, pL99, pL100, pL180, pL240, pL255, pL350, pL359, pL719, pL720, pL999, pL9999, pL99999, pL100000, pL1000000, nb_let, a2, hq, w1, k1, kk]
          · left
            have : j = b := by omega
            subst this
            refine ⟨_, ?_, rfl⟩
            simp (disch := omega) only [pn_g, pu_b1, pn_b2, pn_leT, pn_leF, pn_ltT, pn_ltF, pn_eqT, pn_eqF, pu_in, pu_ix, nI_add, pk_mul, pk_sub, ↓reduceIte, Bool.false_eq_true, if_false, if_true, nb_st_s, nb_st_k, nb_st_n, nb_sa_s, nb_sa_n, pL0, pL1, pL2, pL3, pL4, pL5, pL6, pL7, pL8, pL9, pL10, pL11, pL12, pL13, pL15, pL20, pL30, pL99, pL100, pL180, pL240, pL255, pL350, pL359, pL719, pL720, pL999, pL9999, pL99999, pL100000, pL1000000, nb_let, a2, hq, w1]
        · have e0 : su y 0 = 0 := rfl
          rw [e0, ite_self, Nat.add_zero]
          exact pu_maxS (by omega) (by omega)
    · have e0 : su f 0 = 0 := rfl
      rw [e0, Nat.zero_add]
end
