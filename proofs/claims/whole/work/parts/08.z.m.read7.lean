section
def rdF7 (N : Nat) (a1 : Int32) (q2 : Nat) : (Int32 → nb_St → Option (Int32 × nb_St)) → Int32 → nb_St → Option (Int32 × nb_St) := fun ag6 (x4 : Int32) (σ5 : nb_St) =>
  nb_let (fun (_u : Unit) =>
  some ((-4 : Int32), σ5)) fun k8 =>
  (if a1 < x4 then
  k8 ()
  else
  (if a1 ≤ (σ5 2 1) then
  k8 ()
  else
  nb_let (σ5 2 1) fun x12 =>
  nb_g (nb_in x12 400) (
  nb_b (fJ0_indexOf_0f7a4 N σ5 (((((σ5 1 (nb_ix x12)) &&& (255 : Int32))).toUInt32 % 65536).toInt32)) fun r15 =>
  nb_let (fun (σ18 : nb_St) =>
  some (x12, σ18)) fun k16 =>
  (if r15 < 0 then
  k16 σ5
  else
  nb_b2 (fX5_readNumbers N σ5 a1 r15) fun r21 σ22 =>
  (if r21 = 0 then
  k16 σ22
  else
  nb_b2 (fX5_enter N σ22 r15 q2) fun r25 σ26 =>
  (if r25 = 0 then
  k16 σ26
  else
  ag6 (x4 + 1) σ26))))))
theorem rd7_e {N : Nat} {σ : nb_St} {a1 : Int32} {d : Nat} : fX5_firstFault N σ a1 d = nb_b (fX4_clear N σ d) fun σ2 => nb_lp2 (rdF7 N a1 d) N (0 : Int32) (nb_st σ2 2 1 0) := rfl
def rdF8 (N : Nat) : (nb_St → Option (Int32 × nb_St)) → nb_St → Option (Int32 × nb_St) := fun ag5 (σ4 : nb_St) =>
  (if (σ4 0 0) ≤ (σ4 0 27) then
  some ((-4 : Int32), σ4)
  else
  nb_let (σ4 0 27) fun x8 =>
  nb_b2 (fX8_item N σ4) fun r10 σ11 =>
  (if r10 = 0 then
  some (x8, σ11)
  else
  ag5 σ11))
theorem rd8_e {N : Nat} {σ : nb_St} : fX8_readAll N σ = nb_b (fX8_noEvening N σ (1 : Int32)) fun σ2 => nb_lp1 (rdF8 N) N (nb_st σ2 0 27 0) := rfl
theorem rd_run {N d n : Nat} {B : Nat → Nat} (hN : 10 < N) (hd : d = 4 ∨ d = 20) : ∀ (m k items f1 f2 g o w a b : Nat) (σ τ : nb_St), n ≤ k + m → items ≤ k → k ≤ n → m < f1 → m < f2 → tx σ τ n B → σ 2 1 = nI k → τ 0 27 = nI k → prr σ τ d g o w a b → ∃ r σ' τ', nb_lp2 (rdF7 N (nI n) d) f1 (nI items) σ = some (r, σ') ∧ nb_lp1 (rdF8 N) f2 τ = some (r, τ') ∧ fcl d σ σ' ∧ hf τ τ' ∧ (r = -4 → ∃ g o w a b, prr σ' τ' d g o w a b) := by
  intro m
  induction m with
  | zero =>
    intro k items f1 f2 g o w a b σ τ h1 h2 h3 h4 h5 ht hs hk hp
    obtain ⟨u1, rfl⟩ : ∃ u, f1 = u + 1 := ⟨f1 - 1, by omega⟩
    obtain ⟨u2, rfl⟩ : ∃ u, f2 = u + 1 := ⟨f2 - 1, by omega⟩
    have n4 := ht.1
    have hkn : k = n := by omega
    subst hkn
    refine ⟨-4, σ, τ, ?_, ?_, fcl_r, hf_r, fun _ => ⟨g, o, w, a, b, hp⟩⟩
    · show rdF7 N (nI k) d (nb_lp2 (rdF7 N (nI k) d) u1) (nI items) σ = _
      unfold rdF7
      dsimp only [nb_let]
      rw [if_neg (nI_nlt h2 (by omega)), hs, if_pos (nI_le (Nat.le_refl _) (by omega))]
    · show rdF8 N (nb_lp1 (rdF8 N) u2) τ = _
      unfold rdF8
      rw [ht.2.1, hk, if_pos (nI_le (Nat.le_refl _) (by omega))]
  | succ m ih =>
    intro k items f1 f2 g o w a b σ τ h1 h2 h3 h4 h5 ht hs hk hp
    obtain ⟨u1, rfl⟩ : ∃ u, f1 = u + 1 := ⟨f1 - 1, by omega⟩
    obtain ⟨u2, rfl⟩ : ∃ u, f2 = u + 1 := ⟨f2 - 1, by omega⟩
    have n4 := ht.1
    by_cases hkn : k < n
    · obtain ⟨b1, b2, b3, b4⟩ := ht.2.2 k hkn
      have b5 : ((((σ 1 k) &&& (255 : Int32))).toUInt32 % 65536).toInt32 = nI (B k) := by rw [b3]; exact (b8_n (B k) b1).2
      obtain ⟨r, r1, r2⟩ := pr_index (N := N) (σ := σ) (b := B k) hN b1
      have e7 : nb_lp2 (rdF7 N (nI n) d) (u1 + 1) (nI items) σ = (if r < 0 then some (nI k, σ) else nb_b2 (fX5_readNumbers N σ (nI n) r) fun r21 σ22 => (if r21 = 0 then some (nI k, σ22) else nb_b2 (fX5_enter N σ22 r d) fun r25 σ26 => (if r25 = 0 then some (nI k, σ26) else nb_lp2 (rdF7 N (nI n) d) u1 (nI (items + 1)) σ26))) := by
        show rdF7 N (nI n) d (nb_lp2 (rdF7 N (nI n) d) u1) (nI items) σ = _
        generalize nb_lp2 (rdF7 N (nI n) d) u1 = ag
        unfold rdF7
        dsimp only [nb_let]
        rw [if_neg (nI_nlt (by omega) (by omega)), hs, if_neg (nI_ge hkn (by omega)), nb_g_t (pu_in (by omega) (by omega)), pu_ix (by omega), b5, r1, pu_b1, nI_1]
      have e8 : nb_lp1 (rdF8 N) (u2 + 1) τ = nb_b2 (fX8_item N τ) fun r10 σ11 => (if r10 = 0 then some (nI k, σ11) else nb_lp1 (rdF8 N) u2 σ11) := by
        show rdF8 N (nb_lp1 (rdF8 N) u2) τ = _
        generalize nb_lp1 (rdF8 N) u2 = ag
        unfold rdF8
        dsimp only [nb_let]
        rw [ht.2.1, hk, if_neg (nI_ge hkn (by omega))]
      have n0 : nI 0 = (0 : Int32) := rfl
      have n1 : ¬ nI 1 = (0 : Int32) := by decide
      rw [e7, e8]
      rcases r2 with ⟨L, hL, hb, rfl⟩ | ⟨rfl, hb⟩
      · rw [if_neg (nI_pos (by omega))]
        rcases st_all hN hd ht hs hk hkn hL hb hp with ⟨⟨σ', c1, c2⟩, τ', c3, c4⟩ | ⟨σf, σ', τ', k', g', o', w', a', b', c1, c2, c3, c4, c5, c6, c7, c8, c9, c10⟩
        · refine ⟨nI k, σ', τ', ?_, ?_, c2, c4, fun q => absurd q (nI_m4 (by omega))⟩
          · rcases c1 with c1 | ⟨σf, c1, c5⟩
            · rw [c1, pn_b2, if_pos n0]
            · rw [c1, pn_b2, if_neg n1, c5, pn_b2, if_pos n0]
          · rw [c3, pn_b2, if_pos n0]
        · have tx' : tx σ' τ' n B := tx_c ht (c9 1 (by decide) (by decide) (by omega)) (c10.1 1 (by omega) (by decide)) (c10.2.1 0 (by decide))
          obtain ⟨r, σ2, τ2, y1, y2, y3, y4, y5⟩ := ih k' (items + 1) u1 u2 g' o' w' a' b' σ' τ' (by omega) (by omega) c8 (by omega) (by omega) tx' c5 c6 c4
          refine ⟨r, σ2, τ2, ?_, ?_, fcl_t c9 y3, hf_t c10 y4, y5⟩
          · rw [c1, pn_b2, if_neg n1, c2, pn_b2, if_neg n1]; exact y1
          · rw [c3, pn_b2, if_neg n1]; exact y2
      · obtain ⟨τ', c1, c2⟩ := i8_none (N := N) ht hk hkn hb
        refine ⟨nI k, σ, τ', ?_, ?_, fcl_r, c2, fun q => absurd q (nI_m4 (by omega))⟩
        · rw [if_pos (show (-1 : Int32) < 0 by decide)]
        · rw [c1, pn_b2, if_pos n0]
    · exact (ih k items (u1 + 1) (u2 + 1) g o w a b σ τ (by omega) h2 h3 (by omega) (by omega) ht hs hk hp)
/-- the draft, empty -/
theorem rd_clear {N : Nat} {σ τ : nb_St} {d : Nat} (hN : 10 < N) (hd : d = 4 ∨ d = 20) : ∃ σ' τ', fX4_clear N σ d = some σ' ∧ fX8_noEvening N τ (1 : Int32) = some τ' ∧ fcl d σ σ' ∧ hf τ τ' ∧ prr σ' τ' d 0 0 0 0 0 := by
  obtain ⟨s0, hs0⟩ : ∃ s0, s0 = nb_st (nb_st (nb_st (nb_st (nb_st (nb_st (nb_st σ d 0 0) (d + 5) 0 0) (d + 5) 3 0) d 6 15) d 7 20) d 8 240) d 9 0 := ⟨_, rfl⟩
  obtain ⟨s1, e1, f1, f2⟩ := pv_fill (N := N) (σ := s0) (k := d + 11) (n := 4) (v := 0) (by omega) (by omega)
  obtain ⟨s2, e2, f3, f4⟩ := pv_fill (N := N) (σ := s1) (k := d + 12) (n := 4) (v := 0) (by omega) (by omega)
  have h7 : fX4_clear N σ d = some (nb_st s2 d 14 0) := by
    unfold fX4_clear fX6_clear
    dsimp only [nb_let]
    rw [pu_b1, ← hs0, e1, pu_b1, e2, pu_b1]
  obtain ⟨t0, ht0⟩ : ∃ t0, t0 = nb_st (nb_st (nb_st (nb_st (nb_st (nb_st (nb_st (nb_st τ 2 1 0) 7 1 0) 10 1 15) 11 1 20) 12 1 240) 15 1 0) 19 1 0) 22 1 0 := ⟨_, rfl⟩
  have h8 : ∃ r, fX8_noEvening N τ (1 : Int32) = some r ∧ (∀ k, k ≠ 13 → k ≠ 14 → r k = t0 k) ∧ (∀ j, (j < 3 ∨ 6 ≤ j) → r 13 j = t0 13 j ∧ r 14 j = t0 14 j) ∧ ∀ j, j < 3 → r 13 (3 + j) = 0 ∧ r 14 (3 + j) = 0 := by
    unfold fX8_noEvening
    dsimp only [nb_let]
    have g2 : nb_in (1 : Int32) 2 = true := by decide
    have g4 : nb_in (1 : Int32) 4 = true := by decide
    have i1 : nb_ix (1 : Int32) = 1 := rfl
    simp only [g2, g4, pn_g, i1]
    rw [← ht0]
    refine nb_e2 (I := fun j x s => j ≤ 3 ∧ x = nI j ∧ (∀ k, k ≠ 13 → k ≠ 14 → s k = t0 k) ∧ (∀ i, (i < 3 ∨ 6 ≤ i) → s 13 i = t0 13 i ∧ s 14 i = t0 14 i) ∧ ∀ i, i < j → s 13 (3 + i) = 0 ∧ s 14 (3 + i) = 0) 3 ?_ (by omega) ⟨by omega, rfl, fun _ _ _ => rfl, fun _ _ => ⟨rfl, rfl⟩, fun i hi => absurd hi (by omega)⟩
    rintro ag j x s ⟨hj, rfl, q1, q2, q3⟩
    by_cases hlt : j < 3
    · right
      refine ⟨hlt, nI (j + 1), nb_st (nb_st s 13 (3 + j) 0) 14 (3 + j) 0, ⟨by omega, rfl, fun k k1 k2 => by rw [nb_st_k k2, nb_st_k k1]; exact q1 k k1 k2, fun i hi => ?_, fun i hi => ?_⟩, ?_⟩
      · rw [nb_st_k (by decide), nb_st_n (Or.inr (by omega)), nb_st_n (Or.inr (by omega)), nb_st_k (by decide)]; exact q2 i hi
      · by_cases c : i = j
        · subst c
          rw [nb_st_k (by decide), nb_st_s, nb_st_s]; exact ⟨rfl, rfl⟩
        · rw [nb_st_k (by decide), nb_st_n (Or.inr (by omega)), nb_st_n (Or.inr (by omega)), nb_st_k (by decide)]; exact q3 i (by omega)
      · rw [if_neg (show ¬ (3 : Int32) ≤ nI j from nI_ge (b := 3) hlt (by omega)), show (3 : Int32) * 1 + nI j = nI (3 + j) by rw [show (3 : Int32) = nI 3 from rfl, show (1 : Int32) = nI 1 from rfl, pk_mul, nI_add], nb_g_t (pu_in (by omega) (by omega)), pu_ix (by omega), nb_g_t (pu_in (by omega) (by omega)), nI_1]
    · left
      have : j = 3 := by omega
      subst this
      exact ⟨s, by rw [if_pos (show (3 : Int32) ≤ nI 3 by decide)], q1, q2, q3⟩
  obtain ⟨r, e3, q1, q2, q3⟩ := h8
  have sd : nb_st s2 d 14 0 = nb_st s2 d 14 0 := rfl
  have c0 : ∀ k, k ≠ d → k ≠ d + 11 → k ≠ d + 12 → nb_st s2 d 14 0 k = s0 k := fun k k1 k2 k3 => by rw [nb_st_k k1, f3 k k3, f1 k k2]
  have cd : ∀ j, j ≠ 14 → nb_st s2 d 14 0 d j = s0 d j := fun j hj => by rw [nb_st_n (Or.inr hj), f3 d (by omega), f1 d (by omega)]
  refine ⟨_, r, h7, e3, fun k k1 k2 k3 => ?_, ⟨fun k k1 k2 => ?_, fun j hj => ?_, fun k k1 k2 j hj => ?_⟩, ⟨⟨by omega, by omega, by omega, ?_, ?_, fun k hk => absurd hk (by omega), ?_, ?_, ?_, ?_, ?_, ?_, ?_, ?_, fun k hk => absurd hk (by omega), fun k hk => ?_, nb_st_s, ?_, fun k hk => absurd hk (by omega)⟩, by omega, by omega, ?_, ?_, ?_, ?_, fun k hk => absurd hk (by omega), fun k hk => absurd hk (by omega)⟩⟩
  · rw [c0 k (by omega) (by omega) (by omega), hs0]
    simp (disch := omega) only [nb_st_k]
  · rw [q1 k (by omega) (by omega), ht0]
    simp (disch := omega) only [nb_st_k]
  · rw [q1 0 (by decide) (by decide), ht0]
    simp (disch := omega) only [nb_st_k]
  · by_cases c13 : k = 13
    · subst c13
      rw [(q2 j hj).1, ht0]
      simp (disch := omega) only [nb_st_k]
    · by_cases c14 : k = 14
      · subst c14
        rw [(q2 j hj).2, ht0]
        simp (disch := omega) only [nb_st_k]
      · have hj1 : j ≠ 1 ∨ (k ≠ 2 ∧ k ≠ 7 ∧ k ≠ 10 ∧ k ≠ 11 ∧ k ≠ 12 ∧ k ≠ 15 ∧ k ≠ 19 ∧ k ≠ 22) := by
          by_cases z : k = 2 ∨ k = 7 ∨ k = 10 ∨ k = 11 ∨ k = 12 ∨ k = 15 ∨ k = 19 ∨ k = 22
          · left
            have : hz k = 1 := by
              rcases z with rfl | rfl | rfl | rfl | rfl | rfl | rfl | rfl <;> rfl
            omega
          · right; omega
        rw [q1 k c13 c14, ht0]
        simp (disch := omega) only [nb_st_n]
  · rw [cd 0 (by decide), hs0]
    simp (disch := omega) only [nb_st_k, nb_st_n, nb_st_s]
    rfl
  · rw [q1 2 (by decide) (by decide), ht0]
    simp (disch := omega) only [nb_st_k, nb_st_n, nb_st_s]
    rfl
  · rw [cd 6 (by decide), hs0, q1 10 (by decide) (by decide), ht0]
    simp (disch := omega) only [nb_st_k, nb_st_n, nb_st_s]
  · rw [cd 6 (by decide), hs0]
    simp (disch := omega) only [nb_st_k, nb_st_n, nb_st_s]
    exact ⟨15, by omega, by omega, rfl⟩
  · rw [cd 7 (by decide), hs0, q1 11 (by decide) (by decide), ht0]
    simp (disch := omega) only [nb_st_k, nb_st_n, nb_st_s]
  · rw [cd 7 (by decide), hs0]
    simp (disch := omega) only [nb_st_k, nb_st_n, nb_st_s]
    exact ⟨20, by omega, by omega, rfl⟩
  · rw [cd 8 (by decide), hs0, q1 12 (by decide) (by decide), ht0]
    simp (disch := omega) only [nb_st_k, nb_st_n, nb_st_s]
  · rw [cd 8 (by decide), hs0]
    simp (disch := omega) only [nb_st_k, nb_st_n, nb_st_s]
    exact ⟨240, by omega, by omega, rfl⟩
  · rw [cd 9 (by decide), hs0]
    simp (disch := omega) only [nb_st_k, nb_st_n, nb_st_s]
    rfl
  · rw [q1 7 (by decide) (by decide), ht0]
    simp (disch := omega) only [nb_st_k, nb_st_n, nb_st_s]
    rfl
  · have z1 : nb_st s2 d 14 0 (d + 11) (k + 1) = 0 := by
      rw [nb_st_k (by omega), f3 (d + 11) (by omega)]; exact f2 (k + 1) (by omega)
    have z2 : nb_st s2 d 14 0 (d + 12) (k + 1) = 0 := by
      rw [nb_st_k (by omega)]; exact f4 (k + 1) (by omega)
    rw [z1, z2, Nat.mul_one]
    obtain ⟨y1, y2⟩ := q3 k hk
    exact ⟨y1.symm, ⟨0, by omega, by omega, rfl⟩, y2.symm, ⟨0, by omega, by omega, rfl⟩⟩
  · rw [q1 15 (by decide) (by decide), ht0]
    simp (disch := omega) only [nb_st_k, nb_st_n, nb_st_s]
    rfl
  · rw [c0 (d + 5) (by omega) (by omega) (by omega), hs0]
    simp (disch := omega) only [nb_st_k, nb_st_n, nb_st_s]
    rfl
  · rw [q1 19 (by decide) (by decide), ht0]
    simp (disch := omega) only [nb_st_k, nb_st_n, nb_st_s]
    rfl
  · rw [c0 (d + 5) (by omega) (by omega) (by omega), hs0]
    simp (disch := omega) only [nb_st_k, nb_st_n, nb_st_s]
    rfl
  · rw [q1 22 (by decide) (by decide), ht0]
    simp (disch := omega) only [nb_st_k, nb_st_n, nb_st_s]
    rfl
end
