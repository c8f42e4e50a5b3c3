section
theorem bw_iff {v : Int32} {A B : Prop} (h : bw v A) (e : A ↔ B) : bw v B := by
  rcases h with ⟨h1, h2⟩ | ⟨h1, h2⟩
  · exact Or.inl ⟨h1, e.mp h2⟩
  · exact Or.inr ⟨h1, fun q => h2 (e.mpr q)⟩
theorem n01 : ¬ nI 1 = nI 0 := by decide
theorem bw_and {x v : Int32} {A B : Prop} (h : bw x A) (k : bw v B) : bw (if x = nI 0 then nI 0 else if v = nI 0 then nI 0 else nI 1) (A ∧ B) := by
  rcases h with ⟨rfl, h2⟩ | ⟨rfl, h2⟩
  · rw [if_neg n01]
    rcases k with ⟨rfl, k2⟩ | ⟨rfl, k2⟩
    · rw [if_neg n01]; exact Or.inl ⟨rfl, h2, k2⟩
    · rw [if_pos rfl]; exact Or.inr ⟨rfl, fun q => k2 q.2⟩
  · rw [if_pos rfl]; exact Or.inr ⟨rfl, fun q => h2 q.1⟩
theorem bw_or {x v : Int32} {A B C : Prop} [Decidable C] (h : bw x A) (k : bw v B) : bw (if x = nI 0 then (if v = nI 0 then nI 0 else if C then nI 1 else nI 0) else nI 1) (A ∨ (C ∧ B)) := by
  rcases h with ⟨rfl, h2⟩ | ⟨rfl, h2⟩
  · rw [if_neg n01]; exact Or.inl ⟨rfl, Or.inl h2⟩
  · rw [if_pos rfl]
    rcases k with ⟨rfl, k2⟩ | ⟨rfl, k2⟩
    · rw [if_neg n01]
      by_cases c : C
      · rw [if_pos c]; exact Or.inl ⟨rfl, Or.inr ⟨c, k2⟩⟩
      · rw [if_neg c]; exact Or.inr ⟨rfl, by rintro (q | q); exact h2 q; exact c q.1⟩
    · rw [if_pos rfl]; exact Or.inr ⟨rfl, by rintro (q | q); exact h2 q; exact k2 q.2⟩
theorem pw_press {N : Nat} {τ : nb_St} {D : eT} {bus : Nat} {z : Nat → Nat} {i t : Nat} (hN : 10 < N) (h : er τ D bus) (hz : ∀ p, p < 4 → τ 27 p = nI (z p)) (hz2 : ∀ p, p < 4 → z p ≤ 1000000) (ht : t < 1000) (hi : i < eg D) : ∃ v, fX8_doesPress N τ (nI i) (nI t) = some v ∧ bw v (epr D z i t) := by
  have h0 := h.1
  have hb := pw_bus (N := N) h0 hi
  have hst := pw_stood (t := t) hN h0 hz hz2 (by omega)
  have hsh : i ≠ bus → fX8_shameOf N τ (nI i) (nI t) = some (nI (esh D z i t)) := pw_shame hN h hz hz2 ht hi
  have hwl : i ≠ bus → ew D i t ≤ 40 := fun hib => by
    obtain ⟨-, -, b, Y, w1, w2, w3, w4, w5⟩ := h
    rw [w5 i hi hib]
    have := su_le (f := fun k => if Y k ≤ t then 10 else 0) (B := 10) b (fun k _ => by
      show (if Y k ≤ t then 10 else 0) ≤ 10
      split <;> omega)
    split <;> omega
  obtain ⟨a1, a2, a3, a4, a5, a6, a7, a8, a9, a10, a11, a12, a13, a14, a15, a16, a17, a18, a19, a20⟩ := h0
  have kF := a10 i hi
  have kS := a12 i hi
  have kP := a4 i hi
  have kP2 := a5 i hi
  have hct : ect D z t ≤ 8 := Nat.le_trans ectn_le a3
  unfold fX8_doesPress
  rw [hb, pu_b1]
  by_cases c3 : eK D i = 3
  · have he : epr D z i t ↔ eF D i ≤ t := by unfold epr; rw [if_pos c3]
    rw [if_pos c3, if_neg (show ¬ nI 1 = (0 : Int32) by decide)]
    simp only [nb_let]
    have fin : ∃ v, (if nI t < nI (eF D i) then some (0 : Int32) else some 1) = some v ∧ bw v (epr D z i t) := by
      by_cases ct : t < eF D i
      · rw [if_pos (nI_lt ct (by omega))]
        exact ⟨_, rfl, Or.inr ⟨rfl, by rw [he]; omega⟩⟩
      · rw [if_neg (nI_nlt (by omega) (by omega))]
        exact ⟨_, rfl, Or.inl ⟨rfl, he.mpr (by omega)⟩⟩
    by_cases cb : i = bus
    · rw [if_pos ((a18 i hi).mpr cb), a19 i hi cb]
      exact fin
    · rw [if_neg (fun e => cb ((a18 i hi).mp e)), nb_g_t (pu_in (by omega) (by omega)), pu_ix (by omega), a9 i hi cb]
      exact fin
  · have hib : i ≠ bus := fun e => c3 (a8 i hi e)
    have hsh := hsh hib
    have hwl := hwl hib
    have k1 := a6 i hi hib
    have k2 := a7 i hi
    have k3 := a9 i hi hib
    have hsb : esh D z i t ≤ 300 := by unfold esh; omega
    rw [if_neg c3]
    have he : epr D z i t ↔ (eF D i + esh D z i t ≤ t ∧ (eK D i = 4 → eoth D z i t = true)) ∨ (eK D i = 5 ∧ eF D i ≤ t ∧ 0 < ect D z t) := by unfold epr; rw [if_neg c3]
    by_cases c4 : eK D i = 4
    · have hd : (nI (eK D i) = nI 4) = True := eq_true (by rw [c4])
      have he2 : epr D z i t ↔ (eF D i + esh D z i t ≤ t ∧ ∀ k, k < eg D → eP D k = eP D i ∨ z (eP D k) < t) := by
        rw [he, ← eoth_t]
        constructor
        · rintro (q | q)
          · exact ⟨q.1, q.2 c4⟩
          · omega
        · intro q; exact Or.inl ⟨q.1, fun _ => q.2⟩
      by_cases ct : t < eF D i + esh D z i t
      · simp (disch := omega) only [pn_g, pu_b1, pn_b2, pn_leT, pn_leF, pn_ltT, pn_ltF, pn_eqT, pn_eqF, pu_in, pu_ix, nI_add, pk_mul, pk_sub, ↓reduceIte, Bool.false_eq_true, if_false, if_true, nb_st_s, nb_st_k, nb_st_n, nb_sa_s, nb_sa_n, pL0, pL1, pL2, pL3, pL4, pL5, pL6, pL7, pL8, pL9, pL10, pL11, pL12, pL13, pL15, pL20, pL30, pL99, pL100, pL180, pL240, pL255, pL350, pL359, pL719, pL720, pL999, pL9999, pL99999, pL100000, pL1000000, nb_let, k3, hsh, k1, hd]
        refine nb_e2 (I := fun j x w => j ≤ eg D ∧ w = nI j ∧ bw x (∀ k, k < j → eP D k = eP D i ∨ z (eP D k) < t)) (eg D) ?_ (by omega) ⟨by omega, rfl, Or.inl ⟨rfl, fun k hk => absurd hk (by omega)⟩⟩
        rintro ag j x w ⟨hj, rfl, hx⟩
        by_cases hlt : j < eg D
        · right
          have r1 := a4 j hlt
          have r2 := a5 j hlt
          have r3 := hz _ r2
          have r4 := hz2 _ r2
          rcases hx with ⟨rfl, hx⟩ | ⟨rfl, hx⟩
          · by_cases cc : eP D j = eP D i ∨ z (eP D j) < t
            · refine ⟨hlt, nI 1, nI (j + 1), ⟨by omega, rfl, Or.inl ⟨rfl, fun k hk => ?_⟩⟩, ?_⟩
              · by_cases hkj : k = j
                · subst hkj; exact cc
                · exact hx k (by omega)
              · by_cases cp : eP D j = eP D i
                · simp (disch := omega) only [pn_g, pu_b1, pn_b2, pn_leT, pn_leF, pn_ltT, pn_ltF, pn_eqT, pn_eqF, pu_in, pu_ix, nI_add, pk_mul, pk_sub, ↓reduceIte, Bool.false_eq_true, if_false, if_true, nb_st_s, nb_st_k, nb_st_n, nb_sa_s, nb_sa_n, pL0, pL1, pL2, pL3, pL4, pL5, pL6, pL7, pL8, pL9, pL10, pL11, pL12, pL13, pL15, pL20, pL30, pL99, pL100, pL180, pL240, pL255, pL350, pL359, pL719, pL720, pL999, pL9999, pL99999, pL100000, pL1000000, a1, r1, kP, cp]
                · have cz : z (eP D j) < t := by omega
                  simp (disch := omega) only [pn_g, pu_b1, pn_b2, pn_leT, pn_leF, pn_ltT, pn_ltF, pn_eqT, pn_eqF, pu_in, pu_ix, nI_add, pk_mul, pk_sub, ↓reduceIte, Bool.false_eq_true, if_false, if_true, nb_st_s, nb_st_k, nb_st_n, nb_sa_s, nb_sa_n, pL0, pL1, pL2, pL3, pL4, pL5, pL6, pL7, pL8, pL9, pL10, pL11, pL12, pL13, pL15, pL20, pL30, pL99, pL100, pL180, pL240, pL255, pL350, pL359, pL719, pL720, pL999, pL9999, pL99999, pL100000, pL1000000, a1, r1, kP, r3]
            · refine ⟨hlt, nI 0, nI (j + 1), ⟨by omega, rfl, Or.inr ⟨rfl, fun q => cc (q j (by omega))⟩⟩, ?_⟩
              simp (disch := omega) only [pn_g, pu_b1, pn_b2, pn_leT, pn_leF, pn_ltT, pn_ltF, pn_eqT, pn_eqF, pu_in, pu_ix, nI_add, pk_mul, pk_sub, ↓reduceIte, Bool.false_eq_true, if_false, if_true, nb_st_s, nb_st_k, nb_st_n, nb_sa_s, nb_sa_n, pL0, pL1, pL2, pL3, pL4, pL5, pL6, pL7, pL8, pL9, pL10, pL11, pL12, pL13, pL15, pL20, pL30, pL99, pL100, pL180, pL240, pL255, pL350, pL359, pL719, pL720, pL999, pL9999, pL99999, pL100000, pL1000000, a1, r1, kP, r3]
          · refine ⟨hlt, nI 0, nI (j + 1), ⟨by omega, rfl, Or.inr ⟨rfl, fun q => hx (fun k hk => q k (by omega))⟩⟩, ?_⟩
            simp (disch := omega) only [pn_g, pu_b1, pn_b2, pn_leT, pn_leF, pn_ltT, pn_ltF, pn_eqT, pn_eqF, pu_in, pu_ix, nI_add, pk_mul, pk_sub, ↓reduceIte, Bool.false_eq_true, if_false, if_true, nb_st_s, nb_st_k, nb_st_n, nb_sa_s, nb_sa_n, pL0, pL1, pL2, pL3, pL4, pL5, pL6, pL7, pL8, pL9, pL10, pL11, pL12, pL13, pL15, pL20, pL30, pL99, pL100, pL180, pL240, pL255, pL350, pL359, pL719, pL720, pL999, pL9999, pL99999, pL100000, pL1000000, a1]
        · left
          have : j = eg D := by omega
          subst this
          refine ⟨nI 0, ?_, Or.inr ⟨rfl, fun q => by have := (he2.mp q).1; omega⟩⟩
          simp (disch := omega) only [pn_g, pu_b1, pn_b2, pn_leT, pn_leF, pn_ltT, pn_ltF, pn_eqT, pn_eqF, pu_in, pu_ix, nI_add, pk_mul, pk_sub, ↓reduceIte, Bool.false_eq_true, if_false, if_true, nb_st_s, nb_st_k, nb_st_n, nb_sa_s, nb_sa_n, pL0, pL1, pL2, pL3, pL4, pL5, pL6, pL7, pL8, pL9, pL10, pL11, pL12, pL13, pL15, pL20, pL30, pL99, pL100, pL180, pL240, pL255, pL350, pL359, pL719, pL720, pL999, pL9999, pL99999, pL100000, pL1000000, a1]
      · simp (disch := omega) only [pn_g, pu_b1, pn_b2, pn_leT, pn_leF, pn_ltT, pn_ltF, pn_eqT, pn_eqF, pu_in, pu_ix, nI_add, pk_mul, pk_sub, ↓reduceIte, Bool.false_eq_true, if_false, if_true, nb_st_s, nb_st_k, nb_st_n, nb_sa_s, nb_sa_n, pL0, pL1, pL2, pL3, pL4, pL5, pL6, pL7, pL8, pL9, pL10, pL11, pL12, pL13, pL15, pL20, pL30, pL99, pL100, pL180, pL240, pL255, pL350, pL359, pL719, pL720, pL999, pL9999, pL99999, pL100000, pL1000000, nb_let, k3, hsh, k1, hd]
        refine nb_e2 (I := fun j x w => j ≤ eg D ∧ w = nI j ∧ bw x (∀ k, k < j → eP D k = eP D i ∨ z (eP D k) < t)) (eg D) ?_ (by omega) ⟨by omega, rfl, Or.inl ⟨rfl, fun k hk => absurd hk (by omega)⟩⟩
        rintro ag j x w ⟨hj, rfl, hx⟩
        by_cases hlt : j < eg D
        · right
          have r1 := a4 j hlt
          have r2 := a5 j hlt
          have r3 := hz _ r2
          have r4 := hz2 _ r2
          rcases hx with ⟨rfl, hx⟩ | ⟨rfl, hx⟩
          · by_cases cc : eP D j = eP D i ∨ z (eP D j) < t
            · refine ⟨hlt, nI 1, nI (j + 1), ⟨by omega, rfl, Or.inl ⟨rfl, fun k hk => ?_⟩⟩, ?_⟩
              · by_cases hkj : k = j
                · subst hkj; exact cc
                · exact hx k (by omega)
              · by_cases cp : eP D j = eP D i
                · simp (disch := omega) only [pn_g, pu_b1, pn_b2, pn_leT, pn_leF, pn_ltT, pn_ltF, pn_eqT, pn_eqF, pu_in, pu_ix, nI_add, pk_mul, pk_sub, ↓reduceIte, Bool.false_eq_true, if_false, if_true, nb_st_s, nb_st_k, nb_st_n, nb_sa_s, nb_sa_n, pL0, pL1, pL2, pL3, pL4, pL5, pL6, pL7, pL8, pL9, pL10, pL11, pL12, pL13, pL15, pL20, pL30, pL99, pL100, pL180, pL240, pL255, pL350, pL359, pL719, pL720, pL999, pL9999, pL99999, pL100000, pL1000000, a1, r1, kP, cp]
                · have cz : z (eP D j) < t := by omega
                  simp (disch := omega) only [pn_g, pu_b1, pn_b2, pn_leT, pn_leF, pn_ltT, pn_ltF, pn_eqT, pn_eqF, pu_in, pu_ix, nI_add, pk_mul, pk_sub, ↓reduceIte, Bool.false_eq_true, if_false, if_true, nb_st_s, nb_st_k, nb_st_n, nb_sa_s, nb_sa_n, pL0, pL1, pL2, pL3, pL4, pL5, pL6, pL7, pL8, pL9, pL10, pL11, pL12, pL13, pL15, pL20, pL30, pL99, pL100, pL180, pL240, pL255, pL350, pL359, pL719, pL720, pL999, pL9999, pL99999, pL100000, pL1000000, a1, r1, kP, r3]
            · refine ⟨hlt, nI 0, nI (j + 1), ⟨by omega, rfl, Or.inr ⟨rfl, fun q => cc (q j (by omega))⟩⟩, ?_⟩
              simp (disch := omega) only [pn_g, pu_b1, pn_b2, pn_leT, pn_leF, pn_ltT, pn_ltF, pn_eqT, pn_eqF, pu_in, pu_ix, nI_add, pk_mul, pk_sub, ↓reduceIte, Bool.false_eq_true, if_false, if_true, nb_st_s, nb_st_k, nb_st_n, nb_sa_s, nb_sa_n, pL0, pL1, pL2, pL3, pL4, pL5, pL6, pL7, pL8, pL9, pL10, pL11, pL12, pL13, pL15, pL20, pL30, pL99, pL100, pL180, pL240, pL255, pL350, pL359, pL719, pL720, pL999, pL9999, pL99999, pL100000, pL1000000, a1, r1, kP, r3]
          · refine ⟨hlt, nI 0, nI (j + 1), ⟨by omega, rfl, Or.inr ⟨rfl, fun q => hx (fun k hk => q k (by omega))⟩⟩, ?_⟩
            simp (disch := omega) only [pn_g, pu_b1, pn_b2, pn_leT, pn_leF, pn_ltT, pn_ltF, pn_eqT, pn_eqF, pu_in, pu_ix, nI_add, pk_mul, pk_sub, ↓reduceIte, Bool.false_eq_true, if_false, if_true, nb_st_s, nb_st_k, nb_st_n, nb_sa_s, nb_sa_n, pL0, pL1, pL2, pL3, pL4, pL5, pL6, pL7, pL8, pL9, pL10, pL11, pL12, pL13, pL15, pL20, pL30, pL99, pL100, pL180, pL240, pL255, pL350, pL359, pL719, pL720, pL999, pL9999, pL99999, pL100000, pL1000000, a1]
        · left
          have : j = eg D := by omega
          subst this
          rcases hx with ⟨rfl, hx⟩ | ⟨rfl, hx⟩
          · refine ⟨nI 1, ?_, Or.inl ⟨rfl, he2.mpr ⟨by omega, hx⟩⟩⟩
            simp (disch := omega) only [pn_g, pu_b1, pn_b2, pn_leT, pn_leF, pn_ltT, pn_ltF, pn_eqT, pn_eqF, pu_in, pu_ix, nI_add, pk_mul, pk_sub, ↓reduceIte, Bool.false_eq_true, if_false, if_true, nb_st_s, nb_st_k, nb_st_n, nb_sa_s, nb_sa_n, pL0, pL1, pL2, pL3, pL4, pL5, pL6, pL7, pL8, pL9, pL10, pL11, pL12, pL13, pL15, pL20, pL30, pL99, pL100, pL180, pL240, pL255, pL350, pL359, pL719, pL720, pL999, pL9999, pL99999, pL100000, pL1000000, a1]
          · refine ⟨nI 0, ?_, Or.inr ⟨rfl, fun q => hx (he2.mp q).2⟩⟩
            simp (disch := omega) only [pn_g, pu_b1, pn_b2, pn_leT, pn_leF, pn_ltT, pn_ltF, pn_eqT, pn_eqF, pu_in, pu_ix, nI_add, pk_mul, pk_sub, ↓reduceIte, Bool.false_eq_true, if_false, if_true, nb_st_s, nb_st_k, nb_st_n, nb_sa_s, nb_sa_n, pL0, pL1, pL2, pL3, pL4, pL5, pL6, pL7, pL8, pL9, pL10, pL11, pL12, pL13, pL15, pL20, pL30, pL99, pL100, pL180, pL240, pL255, pL350, pL359, pL719, pL720, pL999, pL9999, pL99999, pL100000, pL1000000, a1]
    · by_cases ct : t < eF D i + esh D z i t
      · by_cases c5 : eK D i = 5
        · have hd : (nI (eK D i) = nI 5) = True := eq_true (by rw [c5])
          have hd4 : (nI (eK D i) = nI 4) = False := eq_false (by rw [c5]; decide)
          by_cases cf : t < eF D i
          · refine ⟨nI 0, ?_, Or.inr ⟨rfl, fun q => ?_⟩⟩
            · simp (disch := omega) only [pn_g, pu_b1, pn_b2, pn_leT, pn_leF, pn_ltT, pn_ltF, pn_eqT, pn_eqF, pu_in, pu_ix, nI_add, pk_mul, pk_sub, ↓reduceIte, Bool.false_eq_true, if_false, if_true, nb_st_s, nb_st_k, nb_st_n, nb_sa_s, nb_sa_n, pL0, pL1, pL2, pL3, pL4, pL5, pL6, pL7, pL8, pL9, pL10, pL11, pL12, pL13, pL15, pL20, pL30, pL99, pL100, pL180, pL240, pL255, pL350, pL359, pL719, pL720, pL999, pL9999, pL99999, pL100000, pL1000000, nb_let, k3, hsh, k1, hd, hd4]
            · rcases he.mp q with q | q
              · omega
              · omega
          · by_cases cc : ect D z t = 0
            · refine ⟨nI 0, ?_, Or.inr ⟨rfl, fun q => ?_⟩⟩
              · simp (disch := omega) only [pn_g, pu_b1, pn_b2, pn_leT, pn_leF, pn_ltT, pn_ltF, pn_eqT, pn_eqF, pu_in, pu_ix, nI_add, pk_mul, pk_sub, ↓reduceIte, Bool.false_eq_true, if_false, if_true, nb_st_s, nb_st_k, nb_st_n, nb_sa_s, nb_sa_n, pL0, pL1, pL2, pL3, pL4, pL5, pL6, pL7, pL8, pL9, pL10, pL11, pL12, pL13, pL15, pL20, pL30, pL99, pL100, pL180, pL240, pL255, pL350, pL359, pL719, pL720, pL999, pL9999, pL99999, pL100000, pL1000000, nb_let, k3, hsh, k1, hd, hd4, hst, cc]
              · rcases he.mp q with q | q
                · omega
                · omega
            · refine ⟨nI 1, ?_, Or.inl ⟨rfl, he.mpr (Or.inr ⟨c5, by omega, by omega⟩)⟩⟩
              simp (disch := omega) only [pn_g, pu_b1, pn_b2, pn_leT, pn_leF, pn_ltT, pn_ltF, pn_eqT, pn_eqF, pu_in, pu_ix, nI_add, pk_mul, pk_sub, ↓reduceIte, Bool.false_eq_true, if_false, if_true, nb_st_s, nb_st_k, nb_st_n, nb_sa_s, nb_sa_n, pL0, pL1, pL2, pL3, pL4, pL5, pL6, pL7, pL8, pL9, pL10, pL11, pL12, pL13, pL15, pL20, pL30, pL99, pL100, pL180, pL240, pL255, pL350, pL359, pL719, pL720, pL999, pL9999, pL99999, pL100000, pL1000000, nb_let, k3, hsh, k1, hd, hd4, hst]
        · refine ⟨nI 0, ?_, Or.inr ⟨rfl, fun q => ?_⟩⟩
          · simp (disch := omega) only [pn_g, pu_b1, pn_b2, pn_leT, pn_leF, pn_ltT, pn_ltF, pn_eqT, pn_eqF, pu_in, pu_ix, nI_add, pk_mul, pk_sub, ↓reduceIte, Bool.false_eq_true, if_false, if_true, nb_st_s, nb_st_k, nb_st_n, nb_sa_s, nb_sa_n, pL0, pL1, pL2, pL3, pL4, pL5, pL6, pL7, pL8, pL9, pL10, pL11, pL12, pL13, pL15, pL20, pL30, pL99, pL100, pL180, pL240, pL255, pL350, pL359, pL719, pL720, pL999, pL9999, pL99999, pL100000, pL1000000, nb_let, k3, hsh, k1]
          · rcases he.mp q with q | q
            · omega
            · exact c5 q.1
      · refine ⟨nI 1, ?_, Or.inl ⟨rfl, he.mpr (Or.inl ⟨by omega, fun q => absurd q c4⟩)⟩⟩
        simp (disch := omega) only [pn_g, pu_b1, pn_b2, pn_leT, pn_leF, pn_ltT, pn_ltF, pn_eqT, pn_eqF, pu_in, pu_ix, nI_add, pk_mul, pk_sub, ↓reduceIte, Bool.false_eq_true, if_false, if_true, nb_st_s, nb_st_k, nb_st_n, nb_sa_s, nb_sa_n, pL0, pL1, pL2, pL3, pL4, pL5, pL6, pL7, pL8, pL9, pL10, pL11, pL12, pL13, pL15, pL20, pL30, pL99, pL100, pL180, pL240, pL255, pL350, pL359, pL719, pL720, pL999, pL9999, pL99999, pL100000, pL1000000, nb_let, k3, hsh, k1]
theorem pw_stands {N : Nat} {τ : nb_St} {D : eT} {bus : Nat} {z : Nat → Nat} {p t : Nat} (hN : 10 < N) (h : er τ D bus) (hz : ∀ p, p < 4 → τ 27 p = nI (z p)) (hz2 : ∀ p, p < 4 → z p ≤ 1000000) (ht : t < 1000) (hp : p < 4) (htB : ∀ k, k < eg D → eP D k = p → t ≤ eB D) : ∃ v, fX8_standsAt N τ (nI p) (nI t) = some v ∧ bw v ((∃ k, k < eg D ∧ eP D k = p) ∧ eat D z p t) := by
  have h0 := h.1
  have hpr : ∀ i, i < eg D → ∃ v, fX8_doesPress N τ (nI i) (nI t) = some v ∧ bw v (epr D z i t) := fun i hi => pw_press hN h hz hz2 ht hi
  have hbs : ∀ i, i < eg D → fX8_isBus N τ (nI i) = some (if eK D i = 3 then nI 1 else nI 0) := fun i hi => pw_bus h0 hi
  obtain ⟨a1, a2, a3, a4, a5, a6, a7, a8, a9, a10, a11, a12, a13, a14, a15, a16, a17, a18, a19, a20⟩ := h0
  unfold fX8_standsAt
  refine nb_e4 (I := fun j x1 x2 x3 x4 => j ≤ eg D ∧ x4 = nI j ∧ bw x1 (∀ i, i < j → eP D i = p → epr D z i t) ∧ bw x2 (∃ i, i < j ∧ eP D i = p ∧ eK D i = 3 ∧ epr D z i t) ∧ bw x3 (∃ i, i < j ∧ eP D i = p)) (eg D) ?_ (by omega) ⟨by omega, rfl, Or.inl ⟨rfl, fun i hi => absurd hi (by omega)⟩, Or.inr ⟨rfl, fun ⟨i, hi, _⟩ => absurd hi (by omega)⟩, Or.inr ⟨rfl, fun ⟨i, hi, _⟩ => absurd hi (by omega)⟩⟩
  rintro ag j x1 x2 x3 x4 ⟨hj, rfl, b1, b2, b3⟩
  by_cases hlt : j < eg D
  · right
    have r1 := a4 j hlt
    have r2 := a5 j hlt
    obtain ⟨v, v1, v2⟩ := hpr j hlt
    have r3 := hbs j hlt
    by_cases cp : eP D j = p
    · refine ⟨hlt, if x1 = nI 0 then nI 0 else if v = nI 0 then nI 0 else nI 1, if x2 = nI 0 then (if v = nI 0 then nI 0 else if eK D j = 3 then nI 1 else nI 0) else nI 1, nI 1, nI (j + 1), ⟨by omega, rfl, bw_iff (bw_and b1 v2) ?_, bw_iff (bw_or b2 v2) ?_, Or.inl ⟨rfl, j, by omega, cp⟩⟩, ?_⟩
      · constructor
        · rintro ⟨q1, q2⟩ i hi hpi
          by_cases hij : i = j
          · subst hij; exact q2
          · exact q1 i (by omega) hpi
        · intro q
          exact ⟨fun i hi hpi => q i (by omega) hpi, q j (by omega) cp⟩
      · constructor
        · rintro (⟨i, q1, q2⟩ | ⟨q1, q2⟩)
          · exact ⟨i, by omega, q2⟩
          · exact ⟨j, by omega, cp, q1, q2⟩
        · rintro ⟨i, q1, q2, q3, q4⟩
          by_cases hij : i = j
          · subst hij; exact Or.inr ⟨q3, q4⟩
          · exact Or.inl ⟨i, by omega, q2, q3, q4⟩
      · have hd : (nI (eP D j) = nI p) = True := eq_true (by rw [cp])
        rcases b1 with ⟨rfl, -⟩ | ⟨rfl, -⟩ <;> rcases b2 with ⟨rfl, -⟩ | ⟨rfl, -⟩ <;> rcases v2 with ⟨rfl, -⟩ | ⟨rfl, -⟩ <;> by_cases k3 : eK D j = 3 <;> simp only [k3, if_true, if_false] at r3 <;> simp (disch := omega) only [pn_g, pu_b1, pn_b2, pn_leT, pn_leF, pn_ltT, pn_ltF, pn_eqT, pn_eqF, pu_in, pu_ix, nI_add, pk_mul, pk_sub, ↓reduceIte, Bool.false_eq_true, if_false, if_true, nb_st_s, nb_st_k, nb_st_n, nb_sa_s, nb_sa_n, pL0, pL1, pL2, pL3, pL4, pL5, pL6, pL7, pL8, pL9, pL10, pL11, pL12, pL13, pL15, pL20, pL30, pL99, pL100, pL180, pL240, pL255, pL350, pL359, pL719, pL720, pL999, pL9999, pL99999, pL100000, pL1000000, nb_let, a1, r1, hd, v1, r3, k3]
    · refine ⟨hlt, x1, x2, x3, nI (j + 1), ⟨by omega, rfl, bw_iff b1 ?_, bw_iff b2 ?_, bw_iff b3 ?_⟩, ?_⟩
      · constructor
        · intro q i hi hpi
          by_cases hij : i = j
          · subst hij; exact absurd hpi cp
          · exact q i (by omega) hpi
        · intro q i hi hpi; exact q i (by omega) hpi
      · constructor
        · rintro ⟨i, q1, q2⟩; exact ⟨i, by omega, q2⟩
        · rintro ⟨i, q1, q2, q3⟩
          by_cases hij : i = j
          · subst hij; exact absurd q2 cp
          · exact ⟨i, by omega, q2, q3⟩
      · constructor
        · rintro ⟨i, q1, q2⟩; exact ⟨i, by omega, q2⟩
        · rintro ⟨i, q1, q2⟩
          by_cases hij : i = j
          · subst hij; exact absurd q2 cp
          · exact ⟨i, by omega, q2⟩
      · simp (disch := omega) only [pn_g, pu_b1, pn_b2, pn_leT, pn_leF, pn_ltT, pn_ltF, pn_eqT, pn_eqF, pu_in, pu_ix, nI_add, pk_mul, pk_sub, ↓reduceIte, Bool.false_eq_true, if_false, if_true, nb_st_s, nb_st_k, nb_st_n, nb_sa_s, nb_sa_n, pL0, pL1, pL2, pL3, pL4, pL5, pL6, pL7, pL8, pL9, pL10, pL11, pL12, pL13, pL15, pL20, pL30, pL99, pL100, pL180, pL240, pL255, pL350, pL359, pL719, pL720, pL999, pL9999, pL99999, pL100000, pL1000000, nb_let, a1, r1]
  · left
    have : j = eg D := by omega
    subst this
    rcases b3 with ⟨rfl, b3⟩ | ⟨rfl, b3⟩
    · obtain ⟨k, k1, k2⟩ := id b3
      have hB := a20 t (htB k k1 k2)
      rcases b1 with ⟨rfl, b1⟩ | ⟨rfl, b1⟩
      · refine ⟨nI 1, ?_, Or.inl ⟨rfl, b3, Or.inr (Or.inl b1)⟩⟩
        simp (disch := omega) only [pn_g, pu_b1, pn_b2, pn_leT, pn_leF, pn_ltT, pn_ltF, pn_eqT, pn_eqF, pu_in, pu_ix, nI_add, pk_mul, pk_sub, ↓reduceIte, Bool.false_eq_true, if_false, if_true, nb_st_s, nb_st_k, nb_st_n, nb_sa_s, nb_sa_n, pL0, pL1, pL2, pL3, pL4, pL5, pL6, pL7, pL8, pL9, pL10, pL11, pL12, pL13, pL15, pL20, pL30, pL99, pL100, pL180, pL240, pL255, pL350, pL359, pL719, pL720, pL999, pL9999, pL99999, pL100000, pL1000000, nb_let, a1]
      · rcases b2 with ⟨rfl, b2⟩ | ⟨rfl, b2⟩
        · refine ⟨nI 1, ?_, Or.inl ⟨rfl, b3, Or.inr (Or.inr b2)⟩⟩
          simp (disch := omega) only [pn_g, pu_b1, pn_b2, pn_leT, pn_leF, pn_ltT, pn_ltF, pn_eqT, pn_eqF, pu_in, pu_ix, nI_add, pk_mul, pk_sub, ↓reduceIte, Bool.false_eq_true, if_false, if_true, nb_st_s, nb_st_k, nb_st_n, nb_sa_s, nb_sa_n, pL0, pL1, pL2, pL3, pL4, pL5, pL6, pL7, pL8, pL9, pL10, pL11, pL12, pL13, pL15, pL20, pL30, pL99, pL100, pL180, pL240, pL255, pL350, pL359, pL719, pL720, pL999, pL9999, pL99999, pL100000, pL1000000, nb_let, a1]
        · by_cases cB : t = eB D
          · refine ⟨nI 1, ?_, Or.inl ⟨rfl, b3, Or.inl cB⟩⟩
            rcases hB.mpr cB with q | q
            · have hd : (nI t = nI 719) = True := eq_true q
              simp (disch := omega) only [pn_g, pu_b1, pn_b2, pn_leT, pn_leF, pn_ltT, pn_ltF, pn_eqT, pn_eqF, pu_in, pu_ix, nI_add, pk_mul, pk_sub, ↓reduceIte, Bool.false_eq_true, if_false, if_true, nb_st_s, nb_st_k, nb_st_n, nb_sa_s, nb_sa_n, pL0, pL1, pL2, pL3, pL4, pL5, pL6, pL7, pL8, pL9, pL10, pL11, pL12, pL13, pL15, pL20, pL30, pL99, pL100, pL180, pL240, pL255, pL350, pL359, pL719, pL720, pL999, pL9999, pL99999, pL100000, pL1000000, nb_let, a1, hd]
            · have hd : (nI t = τ 0 31) = True := eq_true q
              by_cases q2 : t = 719
              · have hd2 : (nI t = nI 719) = True := eq_true (by rw [q2])
                simp (disch := omega) only [pn_g, pu_b1, pn_b2, pn_leT, pn_leF, pn_ltT, pn_ltF, pn_eqT, pn_eqF, pu_in, pu_ix, nI_add, pk_mul, pk_sub, ↓reduceIte, Bool.false_eq_true, if_false, if_true, nb_st_s, nb_st_k, nb_st_n, nb_sa_s, nb_sa_n, pL0, pL1, pL2, pL3, pL4, pL5, pL6, pL7, pL8, pL9, pL10, pL11, pL12, pL13, pL15, pL20, pL30, pL99, pL100, pL180, pL240, pL255, pL350, pL359, pL719, pL720, pL999, pL9999, pL99999, pL100000, pL1000000, nb_let, a1, hd2]
              · simp (disch := omega) only [pn_g, pu_b1, pn_b2, pn_leT, pn_leF, pn_ltT, pn_ltF, pn_eqT, pn_eqF, pu_in, pu_ix, nI_add, pk_mul, pk_sub, ↓reduceIte, Bool.false_eq_true, if_false, if_true, nb_st_s, nb_st_k, nb_st_n, nb_sa_s, nb_sa_n, pL0, pL1, pL2, pL3, pL4, pL5, pL6, pL7, pL8, pL9, pL10, pL11, pL12, pL13, pL15, pL20, pL30, pL99, pL100, pL180, pL240, pL255, pL350, pL359, pL719, pL720, pL999, pL9999, pL99999, pL100000, pL1000000, nb_let, a1, hd]
          · refine ⟨nI 0, ?_, Or.inr ⟨rfl, ?_⟩⟩
            · have hd : (nI t = τ 0 31) = False := eq_false (fun q => cB (hB.mp (Or.inr q)))
              have hd2 : (nI t = nI 719) = False := eq_false (fun q => cB (hB.mp (Or.inl q)))
              simp (disch := omega) only [pn_g, pu_b1, pn_b2, pn_leT, pn_leF, pn_ltT, pn_ltF, pn_eqT, pn_eqF, pu_in, pu_ix, nI_add, pk_mul, pk_sub, ↓reduceIte, Bool.false_eq_true, if_false, if_true, nb_st_s, nb_st_k, nb_st_n, nb_sa_s, nb_sa_n, pL0, pL1, pL2, pL3, pL4, pL5, pL6, pL7, pL8, pL9, pL10, pL11, pL12, pL13, pL15, pL20, pL30, pL99, pL100, pL180, pL240, pL255, pL350, pL359, pL719, pL720, pL999, pL9999, pL99999, pL100000, pL1000000, nb_let, a1, hd, hd2]
            · rintro ⟨-, q | q | q⟩
              · exact cB q
              · exact b1 q
              · exact b2 q
    · refine ⟨nI 0, ?_, Or.inr ⟨rfl, fun q => b3 q.1⟩⟩
      simp (disch := omega) only [pn_g, pu_b1, pn_b2, pn_leT, pn_leF, pn_ltT, pn_ltF, pn_eqT, pn_eqF, pu_in, pu_ix, nI_add, pk_mul, pk_sub, ↓reduceIte, Bool.false_eq_true, if_false, if_true, nb_st_s, nb_st_k, nb_st_n, nb_sa_s, nb_sa_n, pL0, pL1, pL2, pL3, pL4, pL5, pL6, pL7, pL8, pL9, pL10, pL11, pL12, pL13, pL15, pL20, pL30, pL99, pL100, pL180, pL240, pL255, pL350, pL359, pL719, pL720, pL999, pL9999, pL99999, pL100000, pL1000000, nb_let, a1]
end
