section
def bw (v : Int32) (A : Prop) : Prop := (v = nI 1 ∧ A) ∨ (v = nI 0 ∧ ¬ A)
def er0 (τ : nb_St) (D : eT) (bus : Nat) : Prop := τ 2 0 = nI (eg D) ∧ 1 ≤ eg D ∧ eg D ≤ 8 ∧ (∀ k, k < eg D → τ 3 k = nI (eP D k)) ∧ (∀ k, k < eg D → eP D k < 4) ∧ (∀ k, k < eg D → k ≠ bus → τ 6 k = nI (eK D k)) ∧ (∀ k, k < eg D → eK D k ≤ 5) ∧ (∀ k, k < eg D → k = bus → eK D k = 3) ∧ (∀ k, k < eg D → k ≠ bus → τ 4 k = nI (eF D k)) ∧ (∀ k, k < eg D → eF D k ≤ 359) ∧ (∀ k, k < eg D → τ 5 k = nI (eS D k)) ∧ (∀ k, k < eg D → eS D k ≤ 199) ∧ τ 10 0 = nI (eL D) ∧ eL D ≤ 99 ∧ τ 11 0 = nI (eH D) ∧ eH D ≤ 60 ∧ eB D ≤ 719 ∧ (∀ i, i < eg D → (nI i = τ 0 29 ↔ i = bus)) ∧ (∀ k, k < eg D → k = bus → τ 0 30 = nI (eF D k)) ∧ ∀ t, t ≤ eB D → ((nI t = nI 719 ∨ nI t = τ 0 31) ↔ t = eB D)
def ers (τ : nb_St) (D : eT) (bus a : Nat) (M V : Nat → Nat) (X : Nat → Nat → Bool) (o : Nat) (on : Nat → Bool) (gv GW : Nat → Nat) : Prop := τ 19 0 = nI a ∧ a ≤ 6 ∧ (∀ k, k < a → τ 20 k = nI (M k)) ∧ (∀ k, k < a → M k ≤ 359) ∧ (∀ k, k < a → τ 21 k = nI (V k)) ∧ (∀ k, k < a → V k ≤ 99) ∧ (∀ i, i < eg D → ∀ k, k < a → ∀ N, fX8_counts N τ (nI i) (nI k) = some (if X k i = true then nI 1 else nI 0)) ∧ τ 7 0 = nI o ∧ o ≤ 3 ∧ (∀ k, k < o → τ 26 k = if on k = true then nI (gv k) else -4) ∧ (∀ k, k < o → gv k ≤ 359) ∧ (∀ k, k < o → τ 8 k = nI (GW k)) ∧ (∀ k, k < o → GW k ≤ 99) ∧ ∀ i, i < eg D → i ≠ bus → ∀ t, es D i t = if eK D i = 2 then 0 else su (fun k => if M k ≤ t ∧ X k i = true then V k else 0) a + su (fun k => if on k = true ∧ gv k ≤ t then GW k else 0) o
def erw (τ : nb_St) (D : eT) (bus b : Nat) (Y : Nat → Nat) : Prop := τ 22 0 = nI b ∧ b ≤ 4 ∧ (∀ k, k < b → τ 23 k = nI (Y k)) ∧ (∀ k, k < b → Y k ≤ 359) ∧ ∀ i, i < eg D → i ≠ bus → ∀ t, ew D i t = if eK D i = 1 then su (fun k => if Y k ≤ t then 10 else 0) b else 0
def er (τ : nb_St) (D : eT) (bus : Nat) : Prop := er0 τ D bus ∧ (∃ a M V X o on gv GW, ers τ D bus a M V X o on gv GW) ∧ ∃ b Y, erw τ D bus b Y
def erf (τ τ' : nb_St) : Prop := ∀ k, k ≠ 27 → k ≠ 28 → τ' k = τ k
theorem er_f {τ τ' : nb_St} {D : eT} {bus : Nat} (h : er τ D bus) (f : erf τ τ') : er τ' D bus := by
  obtain ⟨h0, ⟨a, M, V, X, o, on, gv, GW, hs⟩, b, Y, hw⟩ := h
  refine ⟨?_, ⟨a, M, V, X, o, on, gv, GW, ?_⟩, b, Y, ?_⟩
  · unfold er0 at *
    rw [f 0 (by decide) (by decide), f 2 (by decide) (by decide), f 3 (by decide) (by decide), f 4 (by decide) (by decide), f 5 (by decide) (by decide), f 6 (by decide) (by decide), f 10 (by decide) (by decide), f 11 (by decide) (by decide)]
    exact h0
  · unfold ers at *
    have hc : ∀ i k : Nat, ∀ N, fX8_counts N τ' (nI i) (nI k) = fX8_counts N τ (nI i) (nI k) := fun i k N => by
      unfold fX8_counts
      rw [f 0 (by decide) (by decide)]
    simp only [hc]
    rw [f 7 (by decide) (by decide), f 8 (by decide) (by decide), f 19 (by decide) (by decide), f 20 (by decide) (by decide), f 21 (by decide) (by decide), f 26 (by decide) (by decide)]
    exact hs
  · unfold erw at *
    rw [f 22 (by decide) (by decide), f 23 (by decide) (by decide)]
    exact hw
theorem pw_stood {N : Nat} {τ : nb_St} {D : eT} {bus : Nat} {z : Nat → Nat} {t : Nat} (hN : 10 < N) (h : er0 τ D bus) (hz : ∀ p, p < 4 → τ 27 p = nI (z p)) (hz2 : ∀ p, p < 4 → z p ≤ 1000000) (ht : t ≤ 1000) : fX8_stoodAhead N τ (nI t) = some (nI (ect D z t)) := by
  obtain ⟨a1, a2, a3, a4, a5, -⟩ := h
  apply pn_x
  unfold fX8_stoodAhead
  refine nb_e2 (I := fun j x w => j ≤ eg D ∧ w = nI j ∧ x = nI (ectn D z t j)) (eg D) ?_ (by omega) ⟨by omega, rfl, rfl⟩
  rintro ag j x w ⟨hj, rfl, rfl⟩
  by_cases hlt : j < eg D
  · right
    have r1 := a4 j hlt
    have r2 := a5 j hlt
    have r3 := hz _ r2
    have r4 := hz2 _ r2
    refine ⟨hlt, nI (ectn D z t (j + 1)), nI (j + 1), ⟨by omega, rfl, rfl⟩, ?_⟩
    have u1 : ectn D z t (j + 1) = ectn D z t j + (if z (eP D j) < t then 1 else 0) := rfl
    rw [u1]
    by_cases c : z (eP D j) < t
    · rw [if_pos c]
      simp (disch := omega) only [pn_g, pu_b1, pn_b2, pn_leT, pn_leF, pn_ltT, pn_ltF, pn_eqT, pn_eqF, pu_in, pu_ix, nI_add, pk_mul, pk_sub, ↓reduceIte, Bool.false_eq_true, if_false, if_true, nb_st_s, nb_st_k, nb_st_n, nb_sa_s, nb_sa_n, pL0, pL1, pL2, pL3, pL4, pL5, pL6, pL7, pL8, pL9, pL10, pL11, pL12, pL13, pL15, pL20, pL30, pL99, pL100, pL180, pL240, pL255, pL350, pL359, pL719, pL720, pL999, pL9999, pL99999, pL100000, pL1000000, nb_let, a1, r1, r3]
    · rw [if_neg c]
      simp (disch := omega) only [pn_g, pu_b1, pn_b2, pn_leT, pn_leF, pn_ltT, pn_ltF, pn_eqT, pn_eqF, pu_in, pu_ix, nI_add, pk_mul, pk_sub, ↓reduceIte, Bool.false_eq_true, if_false, if_true, nb_st_s, nb_st_k, nb_st_n, nb_sa_s, nb_sa_n, pL0, pL1, pL2, pL3, pL4, pL5, pL6, pL7, pL8, pL9, pL10, pL11, pL12, pL13, pL15, pL20, pL30, pL99, pL100, pL180, pL240, pL255, pL350, pL359, pL719, pL720, pL999, pL9999, pL99999, pL100000, pL1000000, nb_let, a1, r1, r3]
  · left
    have : j = eg D := by omega
    subst this
    refine ⟨_, ?_, rfl⟩
    simp (disch := omega) only [pn_g, pu_b1, pn_b2, pn_leT, pn_leF, pn_ltT, pn_ltF, pn_eqT, pn_eqF, pu_in, pu_ix, nI_add, pk_mul, pk_sub, ↓reduceIte, Bool.false_eq_true, if_false, if_true, nb_st_s, nb_st_k, nb_st_n, nb_sa_s, nb_sa_n, pL0, pL1, pL2, pL3, pL4, pL5, pL6, pL7, pL8, pL9, pL10, pL11, pL12, pL13, pL15, pL20, pL30, pL99, pL100, pL180, pL240, pL255, pL350, pL359, pL719, pL720, pL999, pL9999, pL99999, pL100000, pL1000000, nb_let, a1]
    rfl
theorem pw_bus {N : Nat} {τ : nb_St} {D : eT} {bus i : Nat} (h : er0 τ D bus) (hi : i < eg D) : fX8_isBus N τ (nI i) = some (if eK D i = 3 then nI 1 else nI 0) := by
  obtain ⟨a1, a2, a3, a4, a5, a6, a7, a8, a9, a10, a11, a12, a13, a14, a15, a16, a17, a18, a19, a20⟩ := h
  have r1 := a18 i hi
  have r2 := a7 i hi
  unfold fX8_isBus
  simp only [nb_let]
  by_cases c : i = bus
  · rw [if_pos (r1.mpr c), if_pos (a8 i hi c)]
    rfl
  · rw [if_neg (fun e => c (r1.mp e)), nb_g_t (pu_in (by omega) (by omega)), pu_ix (by omega), a6 i hi c]
    by_cases c3 : eK D i = 3
    · rw [if_pos (show nI (eK D i) = (3 : Int32) by rw [c3]; rfl), if_pos c3]
      rfl
    · rw [if_neg (show ¬ nI (eK D i) = (3 : Int32) from fun e => c3 ((nI_eq (b := 3) (by omega) (by omega)).mp e)), if_neg c3]
      rfl
theorem pn_cl0 {R : Type} {f : (Int32 → Int32 → Option R) → Int32 → Int32 → Option R} {n a b : Nat} {y : Int32} (ha : a < 2 ^ 30) (hb : b < 2 ^ 30) : (if nI 0 ≤ nI a - nI b then nb_lp2 f n (nI a - nI b) y else nb_lp2 f n (nI 0) y) = nb_lp2 f n (nI (a - b)) y := by
  by_cases h : b ≤ a
  · rw [pk_sub h, if_pos (nI_le (by omega) (by omega))]
  · rw [if_neg (show ¬ nI 0 ≤ nI a - nI b from Int32.not_le.mpr (pk_sneg hb (by omega))), show a - b = 0 by omega]
theorem pw_shame {N : Nat} {τ : nb_St} {D : eT} {bus : Nat} {z : Nat → Nat} {i t : Nat} (hN : 10 < N) (h : er τ D bus) (hz : ∀ p, p < 4 → τ 27 p = nI (z p)) (hz2 : ∀ p, p < 4 → z p ≤ 1000000) (ht : t < 1000) (hi : i < eg D) (hib : i ≠ bus) : fX8_shameOf N τ (nI i) (nI t) = some (nI (esh D z i t)) := by
  obtain ⟨h0, ⟨a, M, V, X, o, on, gv, GW, hs⟩, b, Y, hw⟩ := h
  have hst := pw_stood (t := t) hN h0 hz hz2 (by omega)
  obtain ⟨a1, a2, a3, a4, a5, a6, a7, a8, a9, a10, a11, a12, a13, a14, a15, a16, a17, a18, a19, a20⟩ := h0
  obtain ⟨s1, s2, s3, s4, s5, s6, s7, s8, s9, s10, s11, s12, s13, s14⟩ := hs
  obtain ⟨w1, w2, w3, w4, w5⟩ := hw
  have k1 := a6 i hi hib
  have k2 := a7 i hi
  have k3 := a11 i hi
  have k4 := a12 i hi
  have hct : ect D z t ≤ 8 := Nat.le_trans ectn_le a3
  obtain ⟨lc, hlc⟩ : ∃ lc, lc = eL D * ect D z t := ⟨_, rfl⟩
  have hlc2 : lc ≤ 99 * 8 := by rw [hlc]; exact Nat.mul_le_mul a14 hct
  unfold esh
  rw [← hlc, s14 i hi hib t, w5 i hi hib t]
  obtain ⟨f, hf⟩ : ∃ f : Nat → Nat, f = fun k => if M k ≤ t ∧ X k i = true then V k else 0 := ⟨_, rfl⟩
  obtain ⟨f2, hf2⟩ : ∃ f2 : Nat → Nat, f2 = fun k => if on k = true ∧ gv k ≤ t then GW k else 0 := ⟨_, rfl⟩
  rw [← hf, ← hf2]
  have hf1 : ∀ j, j ≤ a → su f j ≤ 594 := fun j hj => by
    have := su_le (f := f) (B := 99) j (fun k hk => by
      rw [hf]
      show (if M k ≤ t ∧ X k i = true then V k else 0) ≤ 99
      have := s6 k (by omega)
      split <;> omega)
    omega
  have hf3 : ∀ j, j ≤ o → su f2 j ≤ 297 := fun j hj => by
    have := su_le (f := f2) (B := 99) j (fun k hk => by
      rw [hf2]
      show (if on k = true ∧ gv k ≤ t then GW k else 0) ≤ 99
      have := s13 k (by omega)
      split <;> omega)
    omega
  obtain ⟨y, hy⟩ : ∃ y : Nat → Nat, y = fun k => if Y k ≤ t then 10 else 0 := ⟨_, rfl⟩
  rw [← hy]
  have hy1 : ∀ j, j ≤ b → su y j ≤ 40 := fun j hj => by
    have := su_le (f := y) (B := 10) j (fun k hk => by
      rw [hy]
      show (if Y k ≤ t then 10 else 0) ≤ 10
      split <;> omega)
    omega
  obtain ⟨A, hA⟩ : ∃ A : Nat → Nat, A = fun j => if eK D i = 2 then 0 else su f j := ⟨_, rfl⟩
  obtain ⟨A2, hA2⟩ : ∃ A2 : Nat → Nat, A2 = fun j => if eK D i = 2 then 0 else su f2 j := ⟨_, rfl⟩
  have hA1 : ∀ j, j ≤ a → A j ≤ 594 := fun j hj => by
    have := hf1 j hj
    rw [hA]
    show (if eK D i = 2 then 0 else su f j) ≤ 594
    split <;> omega
  have hA3 : ∀ j, j ≤ o → A2 j ≤ 297 := fun j hj => by
    have := hf3 j hj
    rw [hA2]
    show (if eK D i = 2 then 0 else su f2 j) ≤ 297
    split <;> omega
  have hsum : (if eK D i = 2 then 0 else su f a + su f2 o) = A a + A2 o := by
    rw [hA, hA2]
    show _ = (if eK D i = 2 then 0 else su f a) + (if eK D i = 2 then 0 else su f2 o)
    by_cases c : eK D i = 2
    · rw [if_pos c, if_pos c, if_pos c]
    · rw [if_neg c, if_neg c, if_neg c]
  rw [hsum]
  apply pn_x
  unfold fX8_shameOf
  simp only [nb_let]
  rw [nb_g_t (pu_in (by omega) (by omega)), pu_ix (by omega), k3]
  refine nb_e2 (I := fun j v x => j ≤ a ∧ x = nI j ∧ v = nI (eS D i) - nI (A j)) a ?_ (by omega) ⟨by omega, rfl, ?_⟩
  · rintro ag j v x ⟨hj, rfl, rfl⟩
    have q1 := hA1 j hj
    by_cases hlt : j < a
    · right
      have r1 := s3 j hlt
      have r2 := s4 j hlt
      have r3 := s5 j hlt
      have r4 := s6 j hlt
      have r5 := s7 i hi j hlt N
      refine ⟨hlt, nI (eS D i) - nI (A (j + 1)), nI (j + 1), ⟨by omega, rfl, rfl⟩, ?_⟩
      have hA4 : A (j + 1) = A j + if eK D i = 2 then 0 else f j := by
        rw [hA]
        show (if eK D i = 2 then 0 else su f j + f j) = (if eK D i = 2 then 0 else su f j) + (if eK D i = 2 then 0 else f j)
        by_cases c : eK D i = 2
        · rw [if_pos c, if_pos c, if_pos c]
        · rw [if_neg c, if_neg c, if_neg c]
      by_cases deaf : eK D i = 2
      · have hd : (nI (eK D i) = nI 2) = True := eq_true (by rw [deaf])
        rw [hA4, if_pos deaf]
        simp (disch := omega) only [pn_g, pu_b1, pn_b2, pn_leT, pn_leF, pn_ltT, pn_ltF, pn_eqT, pn_eqF, pu_in, pu_ix, nI_add, pk_mul, pk_sub, ↓reduceIte, Bool.false_eq_true, if_false, if_true, nb_st_s, nb_st_k, nb_st_n, nb_sa_s, nb_sa_n, pL0, pL1, pL2, pL3, pL4, pL5, pL6, pL7, pL8, pL9, pL10, pL11, pL12, pL13, pL15, pL20, pL30, pL99, pL100, pL180, pL240, pL255, pL350, pL359, pL719, pL720, pL999, pL9999, pL99999, pL100000, pL1000000, s1, k1, hd, pu_subsub]
      · rw [hA4, if_neg deaf]
        by_cases cm : M j ≤ t
        · by_cases cx : X j i = true
          · have fj : f j = V j := by rw [hf]; exact if_pos ⟨cm, cx⟩
            rw [fj]
            rw [if_pos cx] at r5
            simp (disch := omega) only [pn_g, pu_b1, pn_b2, pn_leT, pn_leF, pn_ltT, pn_ltF, pn_eqT, pn_eqF, pu_in, pu_ix, nI_add, pk_mul, pk_sub, ↓reduceIte, Bool.false_eq_true, if_false, if_true, nb_st_s, nb_st_k, nb_st_n, nb_sa_s, nb_sa_n, pL0, pL1, pL2, pL3, pL4, pL5, pL6, pL7, pL8, pL9, pL10, pL11, pL12, pL13, pL15, pL20, pL30, pL99, pL100, pL180, pL240, pL255, pL350, pL359, pL719, pL720, pL999, pL9999, pL99999, pL100000, pL1000000, s1, k1, r1, r3, r5, pu_subsub]
          · have fj : f j = 0 := by rw [hf]; exact if_neg (fun q => cx q.2)
            rw [fj]
            rw [if_neg cx] at r5
            simp (disch := omega) only [pn_g, pu_b1, pn_b2, pn_leT, pn_leF, pn_ltT, pn_ltF, pn_eqT, pn_eqF, pu_in, pu_ix, nI_add, pk_mul, pk_sub, ↓reduceIte, Bool.false_eq_true, if_false, if_true, nb_st_s, nb_st_k, nb_st_n, nb_sa_s, nb_sa_n, pL0, pL1, pL2, pL3, pL4, pL5, pL6, pL7, pL8, pL9, pL10, pL11, pL12, pL13, pL15, pL20, pL30, pL99, pL100, pL180, pL240, pL255, pL350, pL359, pL719, pL720, pL999, pL9999, pL99999, pL100000, pL1000000, s1, k1, r1, r3, r5, pu_subsub]
        · have fj : f j = 0 := by rw [hf]; exact if_neg (fun q => cm q.1)
          rw [fj]
          simp (disch := omega) only [pn_g, pu_b1, pn_b2, pn_leT, pn_leF, pn_ltT, pn_ltF, pn_eqT, pn_eqF, pu_in, pu_ix, nI_add, pk_mul, pk_sub, ↓reduceIte, Bool.false_eq_true, if_false, if_true, nb_st_s, nb_st_k, nb_st_n, nb_sa_s, nb_sa_n, pL0, pL1, pL2, pL3, pL4, pL5, pL6, pL7, pL8, pL9, pL10, pL11, pL12, pL13, pL15, pL20, pL30, pL99, pL100, pL180, pL240, pL255, pL350, pL359, pL719, pL720, pL999, pL9999, pL99999, pL100000, pL1000000, s1, k1, r1, pu_subsub]
    · left
      have : j = a := by omega
      subst this
      simp (disch := omega) only [pn_g, pu_b1, pn_b2, pn_leT, pn_leF, pn_ltT, pn_ltF, pn_eqT, pn_eqF, pu_in, pu_ix, nI_add, pk_mul, pk_sub, ↓reduceIte, Bool.false_eq_true, if_false, if_true, nb_st_s, nb_st_k, nb_st_n, nb_sa_s, nb_sa_n, pL0, pL1, pL2, pL3, pL4, pL5, pL6, pL7, pL8, pL9, pL10, pL11, pL12, pL13, pL15, pL20, pL30, pL99, pL100, pL180, pL240, pL255, pL350, pL359, pL719, pL720, pL999, pL9999, pL99999, pL100000, pL1000000, s1]
      refine nb_e2 (I := fun i2 v x => i2 ≤ o ∧ x = nI i2 ∧ v = nI (eS D i) - nI (A j + A2 i2)) o ?_ (by omega) ⟨by omega, rfl, ?_⟩
      · rintro ag2 i2 v x ⟨hi2, rfl, rfl⟩
        have q2 := hA3 i2 hi2
        by_cases hlt2 : i2 < o
        · right
          have r1 := s10 i2 hlt2
          have r2 := s11 i2 hlt2
          have r3 := s12 i2 hlt2
          have r4 := s13 i2 hlt2
          refine ⟨hlt2, nI (eS D i) - nI (A j + A2 (i2 + 1)), nI (i2 + 1), ⟨by omega, rfl, rfl⟩, ?_⟩
          have hA4 : A2 (i2 + 1) = A2 i2 + if eK D i = 2 then 0 else f2 i2 := by
            rw [hA2]
            show (if eK D i = 2 then 0 else su f2 i2 + f2 i2) = (if eK D i = 2 then 0 else su f2 i2) + (if eK D i = 2 then 0 else f2 i2)
            by_cases c : eK D i = 2
            · rw [if_pos c, if_pos c, if_pos c]
            · rw [if_neg c, if_neg c, if_neg c]
          by_cases deaf : eK D i = 2
          · have hd : (nI (eK D i) = nI 2) = True := eq_true (by rw [deaf])
            rw [hA4, if_pos deaf]
            simp (disch := omega) only [pn_g, pu_b1, pn_b2, pn_leT, pn_leF, pn_ltT, pn_ltF, pn_eqT, pn_eqF, pu_in, pu_ix, nI_add, pk_mul, pk_sub, ↓reduceIte, Bool.false_eq_true, if_false, if_true, nb_st_s, nb_st_k, nb_st_n, nb_sa_s, nb_sa_n, pL0, pL1, pL2, pL3, pL4, pL5, pL6, pL7, pL8, pL9, pL10, pL11, pL12, pL13, pL15, pL20, pL30, pL99, pL100, pL180, pL240, pL255, pL350, pL359, pL719, pL720, pL999, pL9999, pL99999, pL100000, pL1000000, s8, k1, hd, pu_subsub, Nat.add_assoc]
          · rw [hA4, if_neg deaf]
            by_cases cx : on i2 = true
            · rw [if_pos cx] at r1
              by_cases cm : gv i2 ≤ t
              · have fj : f2 i2 = GW i2 := by rw [hf2]; exact if_pos ⟨cx, cm⟩
                rw [fj]
                simp (disch := omega) only [pn_g, pu_b1, pn_b2, pn_leT, pn_leF, pn_ltT, pn_ltF, pn_eqT, pn_eqF, pu_in, pu_ix, nI_add, pk_mul, pk_sub, ↓reduceIte, Bool.false_eq_true, if_false, if_true, nb_st_s, nb_st_k, nb_st_n, nb_sa_s, nb_sa_n, pL0, pL1, pL2, pL3, pL4, pL5, pL6, pL7, pL8, pL9, pL10, pL11, pL12, pL13, pL15, pL20, pL30, pL99, pL100, pL180, pL240, pL255, pL350, pL359, pL719, pL720, pL999, pL9999, pL99999, pL100000, pL1000000, s8, k1, r1, r3, pu_subsub, Nat.add_assoc]
              · have fj : f2 i2 = 0 := by rw [hf2]; exact if_neg (fun q => cm q.2)
                rw [fj]
                simp (disch := omega) only [pn_g, pu_b1, pn_b2, pn_leT, pn_leF, pn_ltT, pn_ltF, pn_eqT, pn_eqF, pu_in, pu_ix, nI_add, pk_mul, pk_sub, ↓reduceIte, Bool.false_eq_true, if_false, if_true, nb_st_s, nb_st_k, nb_st_n, nb_sa_s, nb_sa_n, pL0, pL1, pL2, pL3, pL4, pL5, pL6, pL7, pL8, pL9, pL10, pL11, pL12, pL13, pL15, pL20, pL30, pL99, pL100, pL180, pL240, pL255, pL350, pL359, pL719, pL720, pL999, pL9999, pL99999, pL100000, pL1000000, s8, k1, r1, r3, pu_subsub, Nat.add_assoc]
            · rw [if_neg cx] at r1
              have fj : f2 i2 = 0 := by rw [hf2]; exact if_neg (fun q => cx q.1)
              rw [fj]
              have hneg : (-nI 4 < nI 0) = True := eq_true (by decide)
              simp (disch := omega) only [pn_g, pu_b1, pn_b2, pn_leT, pn_leF, pn_ltT, pn_ltF, pn_eqT, pn_eqF, pu_in, pu_ix, nI_add, pk_mul, pk_sub, ↓reduceIte, Bool.false_eq_true, if_false, if_true, nb_st_s, nb_st_k, nb_st_n, nb_sa_s, nb_sa_n, pL0, pL1, pL2, pL3, pL4, pL5, pL6, pL7, pL8, pL9, pL10, pL11, pL12, pL13, pL15, pL20, pL30, pL99, pL100, pL180, pL240, pL255, pL350, pL359, pL719, pL720, pL999, pL9999, pL99999, pL100000, pL1000000, s8, k1, r1, r3, pu_subsub, hneg, Nat.add_assoc]
        · left
          have : i2 = o := by omega
          subst this
          simp (disch := omega) only [pn_g, pu_b1, pn_b2, pn_leT, pn_leF, pn_ltT, pn_ltF, pn_eqT, pn_eqF, pu_in, pu_ix, nI_add, pk_mul, pk_sub, ↓reduceIte, Bool.false_eq_true, if_false, if_true, nb_st_s, nb_st_k, nb_st_n, nb_sa_s, nb_sa_n, pL0, pL1, pL2, pL3, pL4, pL5, pL6, pL7, pL8, pL9, pL10, pL11, pL12, pL13, pL15, pL20, pL30, pL99, pL100, pL180, pL240, pL255, pL350, pL359, pL719, pL720, pL999, pL9999, pL99999, pL100000, pL1000000, s8, hst, a13, ← hlc, pu_subsub]
          rw [pn_cl0 (by omega) (by omega)]
          refine nb_e2 (I := fun i3 v x => i3 ≤ b ∧ x = nI i3 ∧ v = nI ((eS D i - (A j + A2 i2 + lc)) + (if eK D i = 1 then su y i3 else 0))) b ?_ (by omega) ⟨by omega, rfl, ?_⟩
          · rintro ag3 i3 v x ⟨hi3, rfl, rfl⟩
            have q3 := hy1 i3 hi3
            by_cases hlt3 : i3 < b
            · right
              have r1 := w3 i3 hlt3
              have r2 := w4 i3 hlt3
              refine ⟨hlt3, nI ((eS D i - (A j + A2 i2 + lc)) + (if eK D i = 1 then su y (i3 + 1) else 0)), nI (i3 + 1), ⟨by omega, rfl, rfl⟩, ?_⟩
              have hs : su y (i3 + 1) = su y i3 + y i3 := rfl
              by_cases kk : eK D i = 1
              · rw [if_pos kk, if_pos kk, hs]
                have hd : (nI (eK D i) = nI 1) = True := eq_true (by rw [kk])
                by_cases cy : Y i3 ≤ t
                · have yj : y i3 = 10 := by rw [hy]; exact if_pos cy
                  rw [yj]
                  simp (disch := omega) only [pn_g, pu_b1, pn_b2, pn_leT, pn_leF, pn_ltT, pn_ltF, pn_eqT, pn_eqF, pu_in, pu_ix, nI_add, pk_mul, pk_sub, ↓reduceIte, Bool.false_eq_true, if_false, if_true, nb_st_s, nb_st_k, nb_st_n, nb_sa_s, nb_sa_n, pL0, pL1, pL2, pL3, pL4, pL5, pL6, pL7, pL8, pL9, pL10, pL11, pL12, pL13, pL15, pL20, pL30, pL99, pL100, pL180, pL240, pL255, pL350, pL359, pL719, pL720, pL999, pL9999, pL99999, pL100000, pL1000000, w1, k1, hd, r1, Nat.add_assoc]
                · have yj : y i3 = 0 := by rw [hy]; exact if_neg cy
                  rw [yj]
                  simp (disch := omega) only [pn_g, pu_b1, pn_b2, pn_leT, pn_leF, pn_ltT, pn_ltF, pn_eqT, pn_eqF, pu_in, pu_ix, nI_add, pk_mul, pk_sub, ↓reduceIte, Bool.false_eq_true, if_false, if_true, nb_st_s, nb_st_k, nb_st_n, nb_sa_s, nb_sa_n, pL0, pL1, pL2, pL3, pL4, pL5, pL6, pL7, pL8, pL9, pL10, pL11, pL12, pL13, pL15, pL20, pL30, pL99, pL100, pL180, pL240, pL255, pL350, pL359, pL719, pL720, pL999, pL9999, pL99999, pL100000, pL1000000, w1, k1, hd, r1, Nat.add_assoc]
              · rw [if_neg kk, if_neg kk]
                simp (disch := omega) only [pn_g, pu_b1, pn_b2, pn_leT, pn_leF, pn_ltT, pn_ltF, pn_eqT, pn_eqF, pu_in, pu_ix, nI_add, pk_mul, pk_sub, ↓reduceIte, Bool.false_eq_true, if_false, if_true, nb_st_s, nb_st_k, nb_st_n, nb_sa_s, nb_sa_n, pL0, pL1, pL2, pL3, pL4, pL5, pL6, pL7, pL8, pL9, pL10, pL11, pL12, pL13, pL15, pL20, pL30, pL99, pL100, pL180, pL240, pL255, pL350, pL359, pL719, pL720, pL999, pL9999, pL99999, pL100000, pL1000000, w1, k1]
            · left
              have : i3 = b := by omega
              subst this
              refine ⟨_, ?_, rfl⟩
              simp (disch := omega) only [pn_g, pu_b1, pn_b2, pn_leT, pn_leF, pn_ltT, pn_ltF, pn_eqT, pn_eqF, pu_in, pu_ix, nI_add, pk_mul, pk_sub, ↓reduceIte, Bool.false_eq_true, if_false, if_true, nb_st_s, nb_st_k, nb_st_n, nb_sa_s, nb_sa_n, pL0, pL1, pL2, pL3, pL4, pL5, pL6, pL7, pL8, pL9, pL10, pL11, pL12, pL13, pL15, pL20, pL30, pL99, pL100, pL180, pL240, pL255, pL350, pL359, pL719, pL720, pL999, pL9999, pL99999, pL100000, pL1000000, w1]
          · rw [show su y 0 = 0 from rfl, ite_self, Nat.add_zero]
      · have : A2 0 = 0 := by
          rw [hA2]
          show (if eK D i = 2 then 0 else su f2 0) = 0
          rw [show su f2 0 = 0 from rfl, ite_self]
        rw [this, Nat.add_zero]
  · have : A 0 = 0 := by
      rw [hA]
      show (if eK D i = 2 then 0 else su f 0) = 0
      rw [show su f 0 = 0 from rfl, ite_self]
    rw [this, pk_sub (Nat.zero_le _), Nat.sub_zero]
end
