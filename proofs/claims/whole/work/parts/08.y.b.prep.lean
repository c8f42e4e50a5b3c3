section
theorem us_id {f : Nat → Nat} {i : Nat} : us f i (f i) = f := by
  funext k
  by_cases c : k = i
  · subst c; exact us_s
  · exact us_n c
theorem pv_add {N : Nat} {s : nb_St} {n m v : Nat} {M V : Nat → Nat} (h : eps9 s n M V (fun _ _ => true)) (hn : n < 9) (hm : m ≤ 359) (hv : v ≤ 99) : ∃ r, fX0_addSign N s (nI m) (nI v) = some r ∧ (∀ k, k ≠ 36 → k ≠ 55 → k ≠ 56 → k ≠ 57 → r k = s k) ∧ (∀ j, j ≠ 3 → r 36 j = s 36 j) ∧ eps9 r (n + 1) (us M n m) (us V n v) (fun _ _ => true) := by
  obtain ⟨s1, s2, s3, s4, s5, s6, s7⟩ := h
  refine ⟨nb_st (nb_st (nb_st (nb_st s 55 n (nI m)) 56 n (nI v)) 57 n (nI 255)) 36 3 (nI (n + 1)), ?_, ?_, ?_, ?_⟩
  · unfold fX0_addSign
    simp (disch := omega) only [pn_g, pu_b1, pn_b2, pn_leT, pn_leF, pn_ltT, pn_ltF, pn_eqT, pn_eqF, pu_in, pu_ix, nI_add, pk_mul, pk_sub, ↓reduceIte, Bool.false_eq_true, if_false, if_true, nb_st_s, nb_st_k, nb_st_n, nb_sa_s, nb_sa_n, pL0, pL1, pL2, pL3, pL4, pL5, pL6, pL7, pL8, pL9, pL10, pL11, pL12, pL13, pL15, pL20, pL30, pL99, pL100, pL180, pL240, pL255, pL350, pL359, pL719, pL720, pL999, pL9999, pL99999, pL100000, pL1000000, nb_let, s1]
  · intro k c1 c2 c3 c4
    rw [nb_st_k c1, nb_st_k c4, nb_st_k c3, nb_st_k c2]
  · intro j c
    rw [nb_st_n (Or.inr c), nb_st_k (by decide), nb_st_k (by decide), nb_st_k (by decide)]
  · refine ⟨nb_st_s, by omega, fun k hk => ?_, fun k hk => ?_, fun k hk => ?_, fun k hk => ?_, fun k hk => ?_⟩
    · rw [nb_st_k (by decide), nb_st_k (by decide), nb_st_k (by decide)]
      by_cases c : k = n
      · subst c; rw [nb_st_s, us_s]
      · rw [nb_st_n (Or.inr c), us_n c]; exact s3 k (by omega)
    · by_cases c : k = n
      · subst c; rw [us_s]; exact hm
      · rw [us_n c]; exact s4 k (by omega)
    · rw [nb_st_k (by decide), nb_st_k (by decide)]
      by_cases c : k = n
      · subst c; rw [nb_st_s, us_s]
      · rw [nb_st_n (Or.inr c), nb_st_k (by decide), us_n c]; exact s5 k (by omega)
    · by_cases c : k = n
      · subst c; rw [us_s]; exact hv
      · rw [us_n c]; exact s6 k (by omega)
    · rw [nb_st_k (by decide)]
      by_cases c : k = n
      · subst c; rw [nb_st_s]; exact hb_all.symm
      · rw [nb_st_n (Or.inr c), nb_st_k (by decide), nb_st_k (by decide)]; exact s7 k (by omega)
theorem pv_prep {N : Nat} {σ τ : nb_St} {p d g o w a b : Nat} (hN : 10 < N) (h : cl σ τ p d g o w a b) : ∃ r, fX0_prepare N σ p = some r ∧ epd σ τ r p g a 8 0 719 ∧ eps9 r a (tv τ 20 6) (tv τ 21 6) (fun _ _ => true) := by
  obtain ⟨D, hD⟩ : ∃ D, D = eD τ 8 0 719 (fun _ _ => true) (fun _ => false) (fun _ => 0) := ⟨_, rfl⟩
  obtain ⟨n1, n2, n3, n4, n5, n6, n7, n8, n9, n10, n11, n12, n13, n14, n15, n16, n17⟩ := cl_n h hD
  have kP : eP D = tv τ 3 8 := by rw [hD]; rfl
  rw [kP] at n3
  obtain ⟨h1, h2, h3, ⟨c1, c2, c3, c4, -⟩, ⟨t1, t2, t3, t4, -⟩⟩ := h
  have hq := xc_q n1
  unfold fX0_prepare
  simp only [nb_let]
  refine nb_e2 (I := fun j x s => j ≤ g ∧ x = nI j ∧ (∀ k, k ≠ 36 → k ≠ 53 → k ≠ 54 → s k = σ k) ∧ s 36 0 = nI p ∧ s 36 7 = nI 719 ∧ s 36 8 = bm (hpn (tv τ 3 8) j) ∧ (∀ k, k < j → s 53 k = nI (tv τ 6 8 k)) ∧ ∀ k, k < j → s 54 k = nI (tv τ 4 8 k)) g ?_ (by omega) ⟨by omega, rfl, fun k k1 k2 k3 => ?_, ?_, ?_, ?_, fun k hk => absurd hk (by omega), fun k hk => absurd hk (by omega)⟩
  · rintro ag j x s ⟨hj, rfl, f1, f2, f3, f4, f5, f6⟩
    have q0 : s p 0 = nI g := by rw [f1 p (by omega) (by omega) (by omega)]; exact c4
    by_cases hlt : j < g
    · right
      obtain ⟨r1, -, r2⟩ := n3 j hlt
      obtain ⟨r3, -, r4⟩ := n4 j hlt
      obtain ⟨r5, -, r6⟩ := n5 j hlt
      have q1 : s (p + 1) j = nI (tv τ 3 8 j) := by rw [f1 _ (by omega) (by omega) (by omega)]; exact r2
      have q2 : s (p + 2) j = nI (tv τ 4 8 j) := by rw [f1 _ (by omega) (by omega) (by omega)]; exact r6
      have q4 : s (p + 4) j = nI (tv τ 6 8 j) := by rw [f1 _ (by omega) (by omega) (by omega)]; exact r4
      refine ⟨hlt, nI (j + 1), nb_st (nb_st (nb_st s 36 8 (bm (hpn (tv τ 3 8) (j + 1)))) 53 j (nI (tv τ 6 8 j))) 54 j (nI (tv τ 4 8 j)), ⟨by omega, rfl, fun k k1 k2 k3 => ?_, ?_, ?_, ?_, fun k hk => ?_, fun k hk => ?_⟩, ?_⟩
      · rw [nb_st_k k3, nb_st_k k2, nb_st_k k1]; exact f1 k k1 k2 k3
      · rw [nb_st_k (by decide), nb_st_k (by decide), nb_st_n (by decide)]; exact f2
      · rw [nb_st_k (by decide), nb_st_k (by decide), nb_st_n (by decide)]; exact f3
      · rw [nb_st_k (by decide), nb_st_k (by decide), nb_st_s]
      · rw [nb_st_k (by decide)]
        by_cases c : k = j
        · subst c; exact nb_st_s
        · rw [nb_st_n (Or.inr c), nb_st_k (by decide)]; exact f5 k (by omega)
      · by_cases c : k = j
        · subst c; exact nb_st_s
        · rw [nb_st_n (Or.inr c), nb_st_k (by decide), nb_st_k (by decide)]; exact f6 k (by omega)
      · have p36 : p ≠ 36 := by omega
        have u1 : p + 4 ≠ 36 := by omega
        have u2 : p + 2 ≠ 36 := by omega
        have u3 : p + 2 ≠ 53 := by omega
        simp (disch := omega) only [pn_g, pu_b1, pn_b2, pn_leT, pn_leF, pn_ltT, pn_ltF, pn_eqT, pn_eqF, pu_in, pu_ix, nI_add, pk_mul, pk_sub, ↓reduceIte, Bool.false_eq_true, if_false, if_true, nb_st_s, nb_st_k, nb_st_n, nb_sa_s, nb_sa_n, pL0, pL1, pL2, pL3, pL4, pL5, pL6, pL7, pL8, pL9, pL10, pL11, pL12, pL13, pL15, pL20, pL30, pL99, pL100, pL180, pL240, pL255, pL350, pL359, pL719, pL720, pL999, pL9999, pL99999, pL100000, pL1000000, hq, f2, q0, q1, q2, q4, f4, hpn_s]
    · left
      have : j = g := by omega
      subst this
      simp (disch := omega) only [pn_g, pu_b1, pn_b2, pn_leT, pn_leF, pn_ltT, pn_ltF, pn_eqT, pn_eqF, pu_in, pu_ix, nI_add, pk_mul, pk_sub, ↓reduceIte, Bool.false_eq_true, if_false, if_true, nb_st_s, nb_st_k, nb_st_n, nb_sa_s, nb_sa_n, pL0, pL1, pL2, pL3, pL4, pL5, pL6, pL7, pL8, pL9, pL10, pL11, pL12, pL13, pL15, pL20, pL30, pL99, pL100, pL180, pL240, pL255, pL350, pL359, pL719, pL720, pL999, pL9999, pL99999, pL100000, pL1000000, hq, f2, q0]
      refine nb_e2 (I := fun i x s' => i ≤ a ∧ x = nI i ∧ (∀ k, k ≠ 36 → k ≠ 55 → k ≠ 56 → k ≠ 57 → s' k = s k) ∧ (∀ j, j ≠ 3 → s' 36 j = s 36 j) ∧ eps9 s' i (tv τ 20 6) (tv τ 21 6) (fun _ _ => true)) a ?_ (by omega) ⟨by omega, rfl, fun k k1 _ _ _ => nb_st_k k1, fun j hj => nb_st_n (Or.inr hj), nb_st_s, by omega, fun k hk => absurd hk (by omega), fun k hk => absurd hk (by omega), fun k hk => absurd hk (by omega), fun k hk => absurd hk (by omega), fun k hk => absurd hk (by omega)⟩
      rintro ag2 i x s' ⟨hi, rfl, g1, g2, g3⟩
      have z0 : s' 36 0 = nI p := by rw [g2 0 (by decide)]; exact f2
      have z5 : s' (p + 5) 0 = nI a := by rw [g1 _ (by omega) (by omega) (by omega) (by omega), f1 _ (by omega) (by omega) (by omega)]; exact t3
      by_cases hlt2 : i < a
      · right
        obtain ⟨r1, -, r2⟩ := n12 i hlt2
        obtain ⟨r3, -, r4⟩ := n13 i hlt2
        have q1 : s' (p + 6) i = nI (tv τ 20 6 i) := by rw [g1 _ (by omega) (by omega) (by omega) (by omega), f1 _ (by omega) (by omega) (by omega)]; exact r2
        have q2 : s' (p + 7) i = nI (tv τ 21 6 i) := by rw [g1 _ (by omega) (by omega) (by omega) (by omega), f1 _ (by omega) (by omega) (by omega)]; exact r4
        obtain ⟨r, e1, e2, e3, e4⟩ := pv_add (N := N) g3 (by omega) r1 r3
        rw [us_id, us_id] at e4
        refine ⟨hlt2, nI (i + 1), r, ⟨by omega, rfl, fun k k1 k2 k3 k4 => by rw [e2 k k1 k2 k3 k4]; exact g1 k k1 k2 k3 k4, fun j hj => by rw [e3 j hj]; exact g2 j hj, e4⟩, ?_⟩
        simp (disch := omega) only [pn_g, pu_b1, pn_b2, pn_leT, pn_leF, pn_ltT, pn_ltF, pn_eqT, pn_eqF, pu_in, pu_ix, nI_add, pk_mul, pk_sub, ↓reduceIte, Bool.false_eq_true, if_false, if_true, nb_st_s, nb_st_k, nb_st_n, nb_sa_s, nb_sa_n, pL0, pL1, pL2, pL3, pL4, pL5, pL6, pL7, pL8, pL9, pL10, pL11, pL12, pL13, pL15, pL20, pL30, pL99, pL100, pL180, pL240, pL255, pL350, pL359, pL719, pL720, pL999, pL9999, pL99999, pL100000, pL1000000, hq, z0, z5, q1, q2, e1]
      · left
        have : i = a := by omega
        subst this
        refine ⟨s', ?_, ⟨fun k k1 k2 => ?_, z0, ?_, by omega, ?_, fun k hk => ?_, fun k hk => ?_, by omega⟩, g3⟩
        · simp (disch := omega) only [pn_g, pu_b1, pn_b2, pn_leT, pn_leF, pn_ltT, pn_ltF, pn_eqT, pn_eqF, pu_in, pu_ix, nI_add, pk_mul, pk_sub, ↓reduceIte, Bool.false_eq_true, if_false, if_true, nb_st_s, nb_st_k, nb_st_n, nb_sa_s, nb_sa_n, pL0, pL1, pL2, pL3, pL4, pL5, pL6, pL7, pL8, pL9, pL10, pL11, pL12, pL13, pL15, pL20, pL30, pL99, pL100, pL180, pL240, pL255, pL350, pL359, pL719, pL720, pL999, pL9999, pL99999, pL100000, pL1000000, hq, z0, z5]
        · rw [g1 k k1 (by omega) (by omega) (by omega)]; exact f1 k k1 (by omega) (by omega)
        · rw [g2 7 (by decide)]; exact f3
        · rw [g2 8 (by decide)]; exact f4
        · rw [g1 53 (by decide) (by decide) (by decide) (by decide), if_neg (by omega)]; exact f5 k hk
        · rw [g1 54 (by decide) (by decide) (by decide) (by decide), if_neg (by omega)]; exact f6 k hk
  · rw [nb_st_k k1, nb_st_k k1, nb_st_k k1]
  · rw [nb_st_n (by decide), nb_st_n (by decide), nb_st_s]
  · rw [nb_st_n (by decide), nb_st_s]; rfl
  · rw [nb_st_s]; exact bm_none.symm
theorem pw_as {N : Nat} {τ : nb_St} (hN : 10 < N) : ∃ r, fX8_asItIs N τ = some r ∧ (∀ k, k ≠ 0 → k ≠ 26 → r k = τ k) ∧ (∀ j, (j < 29 ∨ 32 < j) → r 0 j = τ 0 j) ∧ r 0 29 = -4 ∧ r 0 30 = nI 0 ∧ r 0 31 = -4 ∧ r 0 32 = -4 ∧ ∀ k, k < 3 → r 26 k = -4 := by
  unfold fX8_asItIs
  simp only [nb_let]
  refine nb_e2 (I := fun j x s => j ≤ 3 ∧ x = nI j ∧ (∀ k, k ≠ 0 → k ≠ 26 → s k = τ k) ∧ (∀ j, (j < 29 ∨ 32 < j) → s 0 j = τ 0 j) ∧ s 0 29 = -4 ∧ s 0 30 = nI 0 ∧ s 0 31 = -4 ∧ s 0 32 = -4 ∧ ∀ k, k < j → s 26 k = -4) 3 ?_ (by omega) ⟨by omega, rfl, fun k k1 _ => ?_, fun j hj => ?_, ?_, ?_, ?_, ?_, fun k hk => absurd hk (by omega)⟩
  · rintro ag j x s ⟨hj, rfl, f1, f2, f3, f4, f5, f6, f7⟩
    by_cases hlt : j < 3
    · right
      refine ⟨hlt, nI (j + 1), nb_st s 26 j (-4), ⟨by omega, rfl, fun k k1 k2 => by rw [nb_st_k k2]; exact f1 k k1 k2, fun i hi => by rw [nb_st_k (by decide)]; exact f2 i hi, by rw [nb_st_k (by decide)]; exact f3, by rw [nb_st_k (by decide)]; exact f4, by rw [nb_st_k (by decide)]; exact f5, by rw [nb_st_k (by decide)]; exact f6, fun k hk => ?_⟩, ?_⟩
      · by_cases c : k = j
        · subst c; exact nb_st_s
        · rw [nb_st_n (Or.inr c)]; exact f7 k (by omega)
      · simp (disch := omega) only [pn_g, pu_b1, pn_b2, pn_leT, pn_leF, pn_ltT, pn_ltF, pn_eqT, pn_eqF, pu_in, pu_ix, nI_add, pk_mul, pk_sub, ↓reduceIte, Bool.false_eq_true, if_false, if_true, nb_st_s, nb_st_k, nb_st_n, nb_sa_s, nb_sa_n, pL0, pL1, pL2, pL3, pL4, pL5, pL6, pL7, pL8, pL9, pL10, pL11, pL12, pL13, pL15, pL20, pL30, pL99, pL100, pL180, pL240, pL255, pL350, pL359, pL719, pL720, pL999, pL9999, pL99999, pL100000, pL1000000]
    · left
      have : j = 3 := by omega
      subst this
      refine ⟨s, ?_, f1, f2, f3, f4, f5, f6, f7⟩
      simp (disch := omega) only [pn_g, pu_b1, pn_b2, pn_leT, pn_leF, pn_ltT, pn_ltF, pn_eqT, pn_eqF, pu_in, pu_ix, nI_add, pk_mul, pk_sub, ↓reduceIte, Bool.false_eq_true, if_false, if_true, nb_st_s, nb_st_k, nb_st_n, nb_sa_s, nb_sa_n, pL0, pL1, pL2, pL3, pL4, pL5, pL6, pL7, pL8, pL9, pL10, pL11, pL12, pL13, pL15, pL20, pL30, pL99, pL100, pL180, pL240, pL255, pL350, pL359, pL719, pL720, pL999, pL9999, pL99999, pL100000, pL1000000]
  · rw [nb_st_k k1, nb_st_k k1, nb_st_k k1, nb_st_k k1]
  · rw [nb_st_n (by omega), nb_st_n (by omega), nb_st_n (by omega), nb_st_n (by omega)]
  · rw [nb_st_n (by decide), nb_st_n (by decide), nb_st_n (by decide), nb_st_s]
  · rw [nb_st_n (by decide), nb_st_n (by decide), nb_st_s]; rfl
  · rw [nb_st_n (by decide), nb_st_s]
  · rw [nb_st_s]
def emG (G : Nat → Nat) : Nat → Nat
  | 0 => 0
  | n + 1 => max (emG G n) (G n)
theorem emG_le {G : Nat → Nat} {B : Nat} : ∀ n, (∀ k, k < n → G k ≤ B) → emG G n ≤ B
  | 0, _ => Nat.zero_le _
  | n + 1, h => by
    have h1 := emG_le n (fun k hk => h k (by omega))
    have h2 := h n (by omega)
    show max (emG G n) (G n) ≤ B
    omega
theorem emG_c {G G' : Nat → Nat} : ∀ n, (∀ k, k < n → G k = G' k) → emG G n = emG G' n
  | 0, _ => rfl
  | n + 1, h => by
    show max (emG G n) (G n) = max (emG G' n) (G' n)
    rw [emG_c n (fun k hk => h k (by omega)), h n (by omega)]
def eal (G W : Nat → Nat) (E g : Nat) : Nat := di (emG G g) E + su (fun k => di (G k) (W k)) g
theorem eal_c {G G' W : Nat → Nat} {E g : Nat} (h : ∀ k, k < g → G k = G' k) : eal G W E g = eal G' W E g := by
  unfold eal
  rw [emG_c g h, su_c g (fun k hk => by rw [h k hk])]
theorem di_le {a b B : Nat} (ha : a ≤ B) (hb : b ≤ B) : di a b ≤ B := by
  unfold di; omega
theorem eal_le {G W : Nat → Nat} {E g : Nat} (hG : ∀ k, k < g → G k ≤ 1000) (hW : ∀ k, k < g → W k ≤ 1000) (hE : E ≤ 1000) (hg : g ≤ 8) : eal G W E g ≤ 9000 := by
  unfold eal
  have h1 := di_le (emG_le g hG) hE
  have h2 := su_le (f := fun k => di (G k) (W k)) (B := 1000) g (fun k hk => di_le (hG k hk) (hW k hk))
  omega
/-- the class, when the evening is over -/
def ecx (r : nb_St) (p : Nat) (D : eT) (G W : Nat → Nat) (E : Nat) : Prop := ec r p D ∧ (∀ k, k < eg D → r 60 (eP D k) = nI (G k)) ∧ (∀ k, k < eg D → G k ≤ 1000) ∧ (∀ k, k < eg D → r (p + 2) k = nI (W k)) ∧ (∀ k, k < eg D → W k ≤ 1000) ∧ r p 8 = nI E ∧ E ≤ 1000
theorem pv_gin {N : Nat} {r : nb_St} {p : Nat} {D : eT} {G W : Nat → Nat} {E k : Nat} (h : ecx r p D G W E) (hk : k < eg D) : fX0_goesIn N r (nI k) = some (nI (G k)) := by
  obtain ⟨⟨⟨a1, a2, a3, a4, a5, a6, a7, -⟩, -⟩, b1, b2, -⟩ := h
  have hq := xc_q a1
  have r1 := a6 k hk
  have r2 := a7 k hk
  have r3 := b1 k hk
  unfold fX0_goesIn
  simp (disch := omega) only [pn_g, pu_b1, pn_b2, pn_leT, pn_leF, pn_ltT, pn_ltF, pn_eqT, pn_eqF, pu_in, pu_ix, nI_add, pk_mul, pk_sub, ↓reduceIte, Bool.false_eq_true, if_false, if_true, nb_st_s, nb_st_k, nb_st_n, nb_sa_s, nb_sa_n, pL0, pL1, pL2, pL3, pL4, pL5, pL6, pL7, pL8, pL9, pL10, pL11, pL12, pL13, pL15, pL20, pL30, pL99, pL100, pL180, pL240, pL255, pL350, pL359, pL719, pL720, pL999, pL9999, pL99999, pL100000, pL1000000, nb_let, a2, hq, r1, r3]
theorem pv_last {N : Nat} {r : nb_St} {p : Nat} {D : eT} {G W : Nat → Nat} {E : Nat} (hN : 10 < N) (h : ecx r p D G W E) : fX0_lastGoes N r = some (nI (emG G (eg D))) := by
  have hg : ∀ k, k < eg D → fX0_goesIn N r (nI k) = some (nI (G k)) := fun k hk => pv_gin h hk
  obtain ⟨⟨⟨a1, a2, a3, a4, a5, -⟩, -⟩, b1, b2, -⟩ := h
  have hq := xc_q a1
  apply pn_x
  unfold fX0_lastGoes
  refine nb_e2 (I := fun j x w => j ≤ eg D ∧ w = nI j ∧ x = nI (emG G j)) (eg D) ?_ (by omega) ⟨by omega, rfl, rfl⟩
  rintro ag j x w ⟨hj, rfl, rfl⟩
  have c1 := emG_le (G := G) (B := 1000) j (fun k hk => b2 k (by omega))
  by_cases hlt : j < eg D
  · right
    have c2 := b2 j hlt
    have c3 := hg j hlt
    refine ⟨hlt, nI (emG G (j + 1)), nI (j + 1), ⟨by omega, rfl, rfl⟩, ?_⟩
    show _ = ag (nI (max (emG G j) (G j))) _
    simp (disch := omega) only [pn_g, pu_b1, pn_b2, pn_leT, pn_leF, pn_ltT, pn_ltF, pn_eqT, pn_eqF, pu_in, pu_ix, nI_add, pk_mul, pk_sub, ↓reduceIte, Bool.false_eq_true, if_false, if_true, nb_st_s, nb_st_k, nb_st_n, nb_sa_s, nb_sa_n, pL0, pL1, pL2, pL3, pL4, pL5, pL6, pL7, pL8, pL9, pL10, pL11, pL12, pL13, pL15, pL20, pL30, pL99, pL100, pL180, pL240, pL255, pL350, pL359, pL719, pL720, pL999, pL9999, pL99999, pL100000, pL1000000, nb_let, a2, hq, a3, c3, pu_maxN]
  · left
    have : j = eg D := by omega
    subst this
    refine ⟨_, ?_, rfl⟩
    simp (disch := omega) only [pn_g, pu_b1, pn_b2, pn_leT, pn_leF, pn_ltT, pn_ltF, pn_eqT, pn_eqF, pu_in, pu_ix, nI_add, pk_mul, pk_sub, ↓reduceIte, Bool.false_eq_true, if_false, if_true, nb_st_s, nb_st_k, nb_st_n, nb_sa_s, nb_sa_n, pL0, pL1, pL2, pL3, pL4, pL5, pL6, pL7, pL8, pL9, pL10, pL11, pL12, pL13, pL15, pL20, pL30, pL99, pL100, pL180, pL240, pL255, pL350, pL359, pL719, pL720, pL999, pL9999, pL99999, pL100000, pL1000000, nb_let, a2, hq, a3]
theorem pv_host {N : Nat} {r : nb_St} {p : Nat} {D : eT} {G W : Nat → Nat} {E : Nat} (hN : 10 < N) (h : ecx r p D G W E) : fX0_wastedByHost N r = some (nI (di (emG G (eg D)) E)) := by
  have hl := pv_last hN h
  obtain ⟨⟨⟨a1, a2, a3, a4, a5, -⟩, -⟩, b1, b2, b3, b4, b5, b6⟩ := h
  have hq := xc_q a1
  have c1 := emG_le (G := G) (B := 1000) (eg D) b2
  unfold fX0_wastedByHost
  simp (disch := omega) only [pn_g, pu_b1, pn_b2, pn_leT, pn_leF, pn_ltT, pn_ltF, pn_eqT, pn_eqF, pu_in, pu_ix, nI_add, pk_mul, pk_sub, ↓reduceIte, Bool.false_eq_true, if_false, if_true, nb_st_s, nb_st_k, nb_st_n, nb_sa_s, nb_sa_n, pL0, pL1, pL2, pL3, pL4, pL5, pL6, pL7, pL8, pL9, pL10, pL11, pL12, pL13, pL15, pL20, pL30, pL99, pL100, pL180, pL240, pL255, pL350, pL359, pL719, pL720, pL999, pL9999, pL99999, pL100000, pL1000000, nb_let, hl, a2, hq, b5, pu_abs]
theorem pv_wby {N : Nat} {r : nb_St} {p : Nat} {D : eT} {G W : Nat → Nat} {E k : Nat} (h : ecx r p D G W E) (hk : k < eg D) : fX0_wastedBy N r (nI k) = some (nI (di (G k) (W k))) := by
  have hl := pv_gin (N := N) h hk
  obtain ⟨⟨⟨a1, a2, a3, a4, a5, -⟩, -⟩, b1, b2, b3, b4, b5, b6⟩ := h
  have hq := xc_q a1
  have c1 := b2 k hk
  have c2 := b3 k hk
  have c3 := b4 k hk
  unfold fX0_wastedBy
  simp (disch := omega) only [pn_g, pu_b1, pn_b2, pn_leT, pn_leF, pn_ltT, pn_ltF, pn_eqT, pn_eqF, pu_in, pu_ix, nI_add, pk_mul, pk_sub, ↓reduceIte, Bool.false_eq_true, if_false, if_true, nb_st_s, nb_st_k, nb_st_n, nb_sa_s, nb_sa_n, pL0, pL1, pL2, pL3, pL4, pL5, pL6, pL7, pL8, pL9, pL10, pL11, pL12, pL13, pL15, pL20, pL30, pL99, pL100, pL180, pL240, pL255, pL350, pL359, pL719, pL720, pL999, pL9999, pL99999, pL100000, pL1000000, nb_let, hl, a2, hq, c2, pu_abs]
theorem pv_all {N : Nat} {r : nb_St} {p : Nat} {D : eT} {G W : Nat → Nat} {E : Nat} (hN : 10 < N) (h : ecx r p D G W E) : fX0_wastedByAll N r = some (nI (eal G W E (eg D))) := by
  have hl := pv_host hN h
  have hg : ∀ k, k < eg D → fX0_wastedBy N r (nI k) = some (nI (di (G k) (W k))) := fun k hk => pv_wby h hk
  obtain ⟨⟨⟨a1, a2, a3, a4, a5, -⟩, -⟩, b1, b2, b3, b4, b5, b6⟩ := h
  have hq := xc_q a1
  apply pn_x
  unfold fX0_wastedByAll
  rw [hl, pu_b1]
  refine nb_e2 (I := fun j x w => j ≤ eg D ∧ w = nI j ∧ x = nI (di (emG G (eg D)) E + su (fun k => di (G k) (W k)) j)) (eg D) ?_ (by omega) ⟨by omega, rfl, rfl⟩
  rintro ag j x w ⟨hj, rfl, rfl⟩
  by_cases hlt : j < eg D
  · right
    have c3 := hg j hlt
    refine ⟨hlt, nI (di (emG G (eg D)) E + su (fun k => di (G k) (W k)) (j + 1)), nI (j + 1), ⟨by omega, rfl, rfl⟩, ?_⟩
    show _ = ag (nI (di (emG G (eg D)) E + (su (fun k => di (G k) (W k)) j + di (G j) (W j)))) _
    simp (disch := omega) only [pn_g, pu_b1, pn_b2, pn_leT, pn_leF, pn_ltT, pn_ltF, pn_eqT, pn_eqF, pu_in, pu_ix, nI_add, pk_mul, pk_sub, ↓reduceIte, Bool.false_eq_true, if_false, if_true, nb_st_s, nb_st_k, nb_st_n, nb_sa_s, nb_sa_n, pL0, pL1, pL2, pL3, pL4, pL5, pL6, pL7, pL8, pL9, pL10, pL11, pL12, pL13, pL15, pL20, pL30, pL99, pL100, pL180, pL240, pL255, pL350, pL359, pL719, pL720, pL999, pL9999, pL99999, pL100000, pL1000000, nb_let, a2, hq, a3, c3, Nat.add_assoc]
  · left
    have : j = eg D := by omega
    subst this
    refine ⟨_, ?_, rfl⟩
    simp (disch := omega) only [pn_g, pu_b1, pn_b2, pn_leT, pn_leF, pn_ltT, pn_ltF, pn_eqT, pn_eqF, pu_in, pu_ix, nI_add, pk_mul, pk_sub, ↓reduceIte, Bool.false_eq_true, if_false, if_true, nb_st_s, nb_st_k, nb_st_n, nb_sa_s, nb_sa_n, pL0, pL1, pL2, pL3, pL4, pL5, pL6, pL7, pL8, pL9, pL10, pL11, pL12, pL13, pL15, pL20, pL30, pL99, pL100, pL180, pL240, pL255, pL350, pL359, pL719, pL720, pL999, pL9999, pL99999, pL100000, pL1000000, nb_let, a2, hq, a3]
    rfl
/-- the reference, when the evening is over -/
def erx (r : nb_St) (D : eT) (bus : Nat) (G W : Nat → Nat) (E : Nat) : Prop := er r D bus ∧ (∀ k, k < eg D → r 28 k = nI (G k)) ∧ (∀ k, k < eg D → G k ≤ 1000) ∧ (∀ k, k < eg D → r 4 k = nI (W k)) ∧ (∀ k, k < eg D → W k ≤ 1000) ∧ r 12 0 = nI E ∧ E ≤ 1000
theorem pw_last {N : Nat} {r : nb_St} {D : eT} {bus : Nat} {G W : Nat → Nat} {E : Nat} (hN : 10 < N) (h : erx r D bus G W E) : fX8_lastOf N r = some (nI (emG G (eg D))) := by
  obtain ⟨⟨⟨a1, a2, a3, -⟩, -⟩, b1, b2, -⟩ := h
  apply pn_x
  unfold fX8_lastOf
  refine nb_e2 (I := fun j x w => j ≤ eg D ∧ w = nI j ∧ x = nI (emG G j)) (eg D) ?_ (by omega) ⟨by omega, rfl, rfl⟩
  rintro ag j x w ⟨hj, rfl, rfl⟩
  have c1 := emG_le (G := G) (B := 1000) j (fun k hk => b2 k (by omega))
  by_cases hlt : j < eg D
  · right
    have c2 := b2 j hlt
    have c3 := b1 j hlt
    refine ⟨hlt, nI (emG G (j + 1)), nI (j + 1), ⟨by omega, rfl, rfl⟩, ?_⟩
    show _ = ag (nI (max (emG G j) (G j))) _
    by_cases c : G j ≤ emG G j
    · rw [Nat.max_eq_left c]
      simp (disch := omega) only [pn_g, pu_b1, pn_b2, pn_leT, pn_leF, pn_ltT, pn_ltF, pn_eqT, pn_eqF, pu_in, pu_ix, nI_add, pk_mul, pk_sub, ↓reduceIte, Bool.false_eq_true, if_false, if_true, nb_st_s, nb_st_k, nb_st_n, nb_sa_s, nb_sa_n, pL0, pL1, pL2, pL3, pL4, pL5, pL6, pL7, pL8, pL9, pL10, pL11, pL12, pL13, pL15, pL20, pL30, pL99, pL100, pL180, pL240, pL255, pL350, pL359, pL719, pL720, pL999, pL9999, pL99999, pL100000, pL1000000, nb_let, a1, c3]
    · rw [Nat.max_eq_right (by omega)]
      simp (disch := omega) only [pn_g, pu_b1, pn_b2, pn_leT, pn_leF, pn_ltT, pn_ltF, pn_eqT, pn_eqF, pu_in, pu_ix, nI_add, pk_mul, pk_sub, ↓reduceIte, Bool.false_eq_true, if_false, if_true, nb_st_s, nb_st_k, nb_st_n, nb_sa_s, nb_sa_n, pL0, pL1, pL2, pL3, pL4, pL5, pL6, pL7, pL8, pL9, pL10, pL11, pL12, pL13, pL15, pL20, pL30, pL99, pL100, pL180, pL240, pL255, pL350, pL359, pL719, pL720, pL999, pL9999, pL99999, pL100000, pL1000000, nb_let, a1, c3]
  · left
    have : j = eg D := by omega
    subst this
    refine ⟨_, ?_, rfl⟩
    simp (disch := omega) only [pn_g, pu_b1, pn_b2, pn_leT, pn_leF, pn_ltT, pn_ltF, pn_eqT, pn_eqF, pu_in, pu_ix, nI_add, pk_mul, pk_sub, ↓reduceIte, Bool.false_eq_true, if_false, if_true, nb_st_s, nb_st_k, nb_st_n, nb_sa_s, nb_sa_n, pL0, pL1, pL2, pL3, pL4, pL5, pL6, pL7, pL8, pL9, pL10, pL11, pL12, pL13, pL15, pL20, pL30, pL99, pL100, pL180, pL240, pL255, pL350, pL359, pL719, pL720, pL999, pL9999, pL99999, pL100000, pL1000000, nb_let, a1]
theorem pw_all {N : Nat} {r : nb_St} {D : eT} {bus : Nat} {G W : Nat → Nat} {E : Nat} (hN : 10 < N) (h : erx r D bus G W E) : fX8_allWasted N r = some (nI (eal G W E (eg D))) := by
  have hl := pw_last hN h
  obtain ⟨⟨⟨a1, a2, a3, -⟩, -⟩, b1, b2, b3, b4, b5, b6⟩ := h
  have c1 := emG_le (G := G) (B := 1000) (eg D) b2
  apply pn_x
  unfold fX8_allWasted
  simp (disch := omega) only [pn_g, pu_b1, pn_b2, pn_leT, pn_leF, pn_ltT, pn_ltF, pn_eqT, pn_eqF, pu_in, pu_ix, nI_add, pk_mul, pk_sub, ↓reduceIte, Bool.false_eq_true, if_false, if_true, nb_st_s, nb_st_k, nb_st_n, nb_sa_s, nb_sa_n, pL0, pL1, pL2, pL3, pL4, pL5, pL6, pL7, pL8, pL9, pL10, pL11, pL12, pL13, pL15, pL20, pL30, pL99, pL100, pL180, pL240, pL255, pL350, pL359, pL719, pL720, pL999, pL9999, pL99999, pL100000, pL1000000, hl, b5, pu_away]
  refine nb_e2 (I := fun j x w => j ≤ eg D ∧ w = nI j ∧ x = nI (di (emG G (eg D)) E + su (fun k => di (G k) (W k)) j)) (eg D) ?_ (by omega) ⟨by omega, rfl, rfl⟩
  rintro ag j x w ⟨hj, rfl, rfl⟩
  by_cases hlt : j < eg D
  · right
    have c3 := b1 j hlt
    have c4 := b3 j hlt
    have c5 := b2 j hlt
    have c6 := b4 j hlt
    refine ⟨hlt, nI (di (emG G (eg D)) E + su (fun k => di (G k) (W k)) (j + 1)), nI (j + 1), ⟨by omega, rfl, rfl⟩, ?_⟩
    show _ = ag (nI (di (emG G (eg D)) E + (su (fun k => di (G k) (W k)) j + di (G j) (W j)))) _
    simp (disch := omega) only [pn_g, pu_b1, pn_b2, pn_leT, pn_leF, pn_ltT, pn_ltF, pn_eqT, pn_eqF, pu_in, pu_ix, nI_add, pk_mul, pk_sub, ↓reduceIte, Bool.false_eq_true, if_false, if_true, nb_st_s, nb_st_k, nb_st_n, nb_sa_s, nb_sa_n, pL0, pL1, pL2, pL3, pL4, pL5, pL6, pL7, pL8, pL9, pL10, pL11, pL12, pL13, pL15, pL20, pL30, pL99, pL100, pL180, pL240, pL255, pL350, pL359, pL719, pL720, pL999, pL9999, pL99999, pL100000, pL1000000, nb_let, a1, c3, c4, pu_away, Nat.add_assoc]
  · left
    have : j = eg D := by omega
    subst this
    refine ⟨_, ?_, rfl⟩
    simp (disch := omega) only [pn_g, pu_b1, pn_b2, pn_leT, pn_leF, pn_ltT, pn_ltF, pn_eqT, pn_eqF, pu_in, pu_ix, nI_add, pk_mul, pk_sub, ↓reduceIte, Bool.false_eq_true, if_false, if_true, nb_st_s, nb_st_k, nb_st_n, nb_sa_s, nb_sa_n, pL0, pL1, pL2, pL3, pL4, pL5, pL6, pL7, pL8, pL9, pL10, pL11, pL12, pL13, pL15, pL20, pL30, pL99, pL100, pL180, pL240, pL255, pL350, pL359, pL719, pL720, pL999, pL9999, pL99999, pL100000, pL1000000, nb_let, a1]
    rfl
end
