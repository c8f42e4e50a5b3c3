section
theorem pp_rests {σ τ : nb_St} (h : pr_Rel GV GM σ τ) (i : Int32) : ∃ (N : Nat) (r : Int32) (σo τo : nb_St), fX7_rests N σ i = some (r, σo) ∧ fX8_rests N τ i = some (r, τo) ∧ pr_Rel GV GM σo τo := by
  obtain ⟨p, d, n, g, o, w, a, b, e, kk, hpd, l3, l4, ht, hg, hp, hto, hdo, hz1, hz2, hk, hgm, hgv⟩ := id h
  have hc : cl σ τ p d g o w a b := ⟨hpd, l3, hg, hp, hto⟩
  have gt := GM_gt hc hgm
  obtain ⟨N, hN⟩ : ∃ N : Nat, N = 3000 := ⟨_, rfl⟩
  have hN2 : 10 < N := by omega
  refine ⟨N, ?_⟩
  obtain ⟨r0, e1, e2, e3, e4, e5, e6⟩ := pz_l8 (N := N) hN2 hc
  obtain ⟨s, s1, s2, s3, s4⟩ := pz_reck (N := N) (by omega) hc hgm
  obtain ⟨m, hm⟩ : ∃ m, m = (gmd τ).1 := ⟨_, rfl⟩
  obtain ⟨W, hW⟩ : ∃ W, W = (gmd τ).2.1 := ⟨_, rfl⟩
  obtain ⟨S, hS⟩ : ∃ S, S = (gmd τ).2.2 := ⟨_, rfl⟩
  rw [← hm] at e4 e5 e6 gt s4
  rw [← hW] at e5 gt s4
  rw [← hS] at e6 gt s4
  obtain ⟨a1, a2, a3, a4, a5, a6⟩ := gt
  obtain ⟨x1, x2⟩ := six_le a2
  have hr0 : rfm τ r0 := ⟨fun k k1 k2 => e2 k (by omega) (by omega) (by omega), fun j _ hj => e3 j hj⟩
  have i1 : ∀ τ, fX8_in N τ i.toInt64 (-1 : Int64) ((nI m - 1).toInt64) = some (if -1 ≤ i ∧ i ≤ nI m - 1 then 1 else 0) := fun τ => pu_inL (by decide) rfl
  have hmm := pu_m1 (a := i) (o := m) (by omega)
  have bn := grn_le (W := W) (S := S) (m := m) (n := 6 ^ m)
  by_cases hi : (-1 ≤ i ∧ i ≤ nI m - 1)
  · have hik : ¬ i < 0 → ∃ k, k < m ∧ i = nI k := fun q => by
      rcases hmm.mp hi with c | c
      · subst c; exact absurd (by decide) q
      · exact c
    obtain ⟨ans, hans⟩ : ∃ ans : Int32, ans = if i < 0 then nI (grn W S m (6 ^ m)) else if grn W S m (6 ^ m) = 0 then -4 else nI (gSL m (gfr W S m (6 ^ m)) (nb_ix i)) := ⟨_, rfl⟩
    have h8 : ∃ q, fX8_rests N τ i = some q ∧ q.1 = ans ∧ rfm τ q.2 := by
      simp only [fX8_rests, nb_let]
      rw [e1, pu_b1, e4, i1, pu_b1, if_pos hi, if_neg (by decide)]
      refine nb_e3 (I := fun c x y t => c ≤ 6 ^ m ∧ y = nI c ∧ (∀ k, k ≠ 31 → t k = r0 k) ∧ ((i < 0 ∧ x = nI (grn W S m c)) ∨ (¬ i < 0 ∧ x = nI 0 ∧ grn W S m c = 0))) (6 ^ m) ?_ (by omega) ⟨by omega, rfl, fun _ _ => rfl, ?_⟩
      · rintro ag c x y t ⟨hc, rfl, f1, f2⟩
        have t1 : t 0 36 = nI m := by rw [f1 0 (by decide)]; exact e4
        have hco := pz_codes (N := N) hN2 a2 t1
        have hrt : rfm τ t := rfm_t hr0 ⟨fun k k1 k2 => f1 k (by omega), fun i _ _ => by rw [f1 0 (by decide)]⟩
        by_cases hlt : c < 6 ^ m
        · obtain ⟨u, u1, u2, u3⟩ := pz_choose8 (N := N) (c := c) hN2 (by omega) a2 t1
          have hgs : gs u 0 29 30 31 36 W S m (gSL m c) := ⟨by rw [u2 0 (by decide)]; exact t1, a2, by rw [u2 29 (by decide), f1 29 (by decide)]; exact e5, a4, by rw [u2 30 (by decide), f1 30 (by decide)]; exact e6, a6, u3, fun k hk => Nat.le_trans gSL_le (by omega)⟩
          have hre := pz_rest8 (N := N) hN2 hgs
          have fu : ∀ k, k ≠ 31 → u k = r0 k := fun k hk => by rw [u2 k hk]; exact f1 k hk
          have hru : rfm τ u := rfm_t hr0 ⟨fun k k1 k2 => fu k (by omega), fun i _ _ => by rw [fu 0 (by decide)]⟩
          have eN := grn_s (W := W) (S := S) (m := m) (n := c)
          have bc := grn_le (W := W) (S := S) (m := m) (n := c)
          by_cases cr : grs W S m c = true
          · rw [if_pos (show gm_rest W S m (gSL m c) = true from cr)] at hre
            rw [if_pos cr] at eN
            rcases f2 with ⟨f2, rfl⟩ | ⟨f2, rfl, f3⟩
            · right
              refine ⟨hlt, nI (grn W S m (c + 1)), nI (c + 1), u, ⟨by omega, rfl, fu, Or.inl ⟨f2, rfl⟩⟩, ?_⟩
              rw [hco, pu_b1, if_neg (nI_ge hlt (by omega)), u1, pu_b1, hre, pn_b2, if_neg (show ¬ nI 1 = (0 : Int32) by decide), if_pos f2, nI_1, nI_1, eN]
            · left
              obtain ⟨k, k1, rfl⟩ := hik f2
              obtain ⟨y1, y2⟩ := gfr_first f3 cr (6 ^ m) hlt
              refine ⟨(nI (gSL m c k), u), ?_, ?_, hru⟩
              · rw [hco, pu_b1, if_neg (nI_ge hlt (by omega)), u1, pu_b1, hre, pn_b2, if_neg (show ¬ nI 1 = (0 : Int32) by decide), if_neg f2, nb_g_t (pu_in (by omega) (by omega)), pu_ix (by omega), u3 k k1]
                rfl
              · rw [hans, if_neg f2, if_neg (by omega), y1, pu_ix (by omega)]
          · rw [if_neg (show ¬ gm_rest W S m (gSL m c) = true from cr)] at hre
            rw [if_neg cr, Nat.add_zero] at eN
            right
            refine ⟨hlt, x, nI (c + 1), u, ⟨by omega, rfl, fu, ?_⟩, ?_⟩
            · rw [eN]; exact f2
            · rw [hco, pu_b1, if_neg (nI_ge hlt (by omega)), u1, pu_b1, hre, pn_b2, if_pos (show nI 0 = (0 : Int32) from rfl), nI_1]
        · left
          have : c = 6 ^ m := by omega
          rw [this] at f2 ⊢
          rw [hans]
          rcases f2 with ⟨f2, rfl⟩ | ⟨f2, rfl, f3⟩
          · refine ⟨(nI (grn W S m (6 ^ m)), t), ?_, ?_, hrt⟩
            · rw [hco, pu_b1, if_pos (nI_le (Nat.le_refl _) (by omega)), if_neg (fun q => absurd f2 (Int32.not_lt.mpr q))]
            · rw [if_pos f2]
          · refine ⟨(-4, t), ?_, ?_, hrt⟩
            · rw [hco, pu_b1, if_pos (nI_le (Nat.le_refl _) (by omega)), if_pos (Int32.not_lt.mp f2)]
            · rw [if_neg f2, if_pos f3]
      · by_cases c : i < 0
        · exact Or.inl ⟨c, rfl⟩
        · exact Or.inr ⟨c, rfl, rfl⟩
    obtain ⟨⟨q1, q2⟩, b1, b2, b3⟩ := h8
    have b2 : q1 = ans := b2
    subst b2
    have b3 : rfm τ q2 := b3
    refine ⟨q1, s, q2, ?_, b1, pr_evM h s2 b3 (GM_c rfl rfl rfl rfl (by rw [b3.1 2 (by decide) (by decide)]) (fun k k1 k2 j _ => by rw [b3.1 k (by omega) (by omega)]) s3)⟩
    obtain ⟨y1, y2, y3, y4⟩ := s4
    simp only [fX7_rests, nb_let, pu_within]
    rw [a1, pu_b1, if_pos hi, if_neg (by decide), s1, pu_b1, y1, hans]
    rcases hmm.mp hi with c | ⟨k, k1, c⟩
    · subst c
      rw [if_pos (by decide), if_pos (by decide)]
    · subst c
      have nm1 : ¬ nI k = -1 := fun q => by
        have h1 : (nI k).toInt = (-1 : Int32).toInt := by rw [q]
        rw [nI_toInt (by omega), show (-1 : Int32).toInt = -1 from by decide] at h1
        omega
      rw [if_neg nm1, if_neg (nI_pos (by omega)), pu_ix (by omega)]
      by_cases c0 : grn W S m (6 ^ m) = 0
      · rw [if_pos c0, if_pos (show nI (grn W S m (6 ^ m)) = 0 by rw [c0]; rfl)]
      · rw [if_neg c0, if_neg (nI_ne0 (by omega) (by omega)), nb_g_t (pu_in (by omega) (by omega)), y4 (by omega) k k1]
  · refine ⟨-1, σ, r0, ?_, ?_, pr_evM h (fun _ _ _ _ => rfl) hr0 (GM_c rfl rfl rfl rfl (by rw [hr0.1 2 (by decide) (by decide)]) (fun k k1 k2 j _ => by rw [hr0.1 k (by omega) (by omega)]) hgm)⟩
    · simp only [fX7_rests, nb_let, pu_within]
      rw [a1, pu_b1, if_neg hi, if_pos rfl]
    · simp only [fX8_rests, nb_let]
      rw [e1, pu_b1, e4, i1, pu_b1, if_neg hi, if_pos rfl]
theorem gmR_b {W S : Nat → Nat} {m : Nat} (h : ∀ c, gsu W S m c ≤ 5000) : ∀ n, 0 < grn W S m n → gmR W S m n ≤ 5000
  | 0, h0 => absurd h0 (Nat.lt_irrefl 0)
  | n + 1, h0 => by
    have h1 := h n
    rw [grn_s] at h0
    unfold gmR
    by_cases c : grs W S m n = true
    · rw [if_pos c]; omega
    · rw [if_neg c] at h0 ⊢
      exact gmR_b h n h0
theorem gmA_b {W S : Nat → Nat} {m : Nat} (h : ∀ c, gsu W S m c ≤ 5000) {n : Nat} (h0 : 0 < n) : gmA W S m n ≤ 5000 := by
  obtain ⟨k, rfl⟩ : ∃ k, n = k + 1 := ⟨n - 1, by omega⟩
  have h1 := h k
  unfold gmA
  omega
theorem pp_price {σ τ : nb_St} (h : pr_Rel GV GM σ τ) : ∃ (N : Nat) (r : Int32) (σo τo : nb_St), fX7_price N σ = some (r, σo) ∧ fX8_price N τ = some (r, τo) ∧ pr_Rel GV GM σo τo := by
  obtain ⟨p, d, n, g, o, w, a, b, e, kk, hpd, l3, l4, ht, hg, hp, hto, hdo, hz1, hz2, hk, hgm, hgv⟩ := id h
  have hc : cl σ τ p d g o w a b := ⟨hpd, l3, hg, hp, hto⟩
  have gt := GM_gt hc hgm
  obtain ⟨N, hN⟩ : ∃ N : Nat, N = 3000 := ⟨_, rfl⟩
  have hN2 : 10 < N := by omega
  refine ⟨N, ?_⟩
  obtain ⟨r0, e1, e2, e3, e4, e5, e6⟩ := pz_l8 (N := N) hN2 hc
  obtain ⟨s, s1, s2, s3, s4⟩ := pz_reck (N := N) (by omega) hc hgm
  obtain ⟨m, hm⟩ : ∃ m, m = (gmd τ).1 := ⟨_, rfl⟩
  obtain ⟨W, hW⟩ : ∃ W, W = (gmd τ).2.1 := ⟨_, rfl⟩
  obtain ⟨S, hS⟩ : ∃ S, S = (gmd τ).2.2 := ⟨_, rfl⟩
  rw [← hm] at e4 e5 e6 gt s4
  rw [← hW] at e5 gt s4
  rw [← hS] at e6 gt s4
  obtain ⟨a1, a2, a3, a4, a5, a6⟩ := gt
  obtain ⟨x1, x2⟩ := six_le a2
  have hr0 : rfm τ r0 := ⟨fun k k1 k2 => e2 k (by omega) (by omega) (by omega), fun j _ hj => e3 j hj⟩
  have bn := grn_le (W := W) (S := S) (m := m) (n := 6 ^ m)
  have hsb : ∀ c, gsu W S m c ≤ 5000 := fun c => gsm_le a2 a4 a6 (fun k hk => Nat.le_trans gSL_le (by omega))
  obtain ⟨ans, hans⟩ : ∃ ans : Int32, ans = if grn W S m (6 ^ m) = 0 then -4 else nI (gmR W S m (6 ^ m) - gmA W S m (6 ^ m)) := ⟨_, rfl⟩
  have h8 : ∃ q, fX8_price N τ = some q ∧ q.1 = ans ∧ rfm τ q.2 := by
    simp only [fX8_price, nb_let]
    rw [e1, pu_b1]
    refine nb_e4 (I := fun c x y w t => c ≤ 6 ^ m ∧ w = nI c ∧ (∀ k, k ≠ 31 → t k = r0 k) ∧ x = (if grn W S m c = 0 then -4 else nI (gmR W S m c)) ∧ y = (if c = 0 then -4 else nI (gmA W S m c))) (6 ^ m) ?_ (by omega) ⟨by omega, rfl, fun _ _ => rfl, rfl, rfl⟩
    rintro ag c x y w t ⟨hc, rfl, f1, f2, f3⟩
    have t1 : t 0 36 = nI m := by rw [f1 0 (by decide)]; exact e4
    have hco := pz_codes (N := N) hN2 a2 t1
    have hrt : rfm τ t := rfm_t hr0 ⟨fun k k1 k2 => f1 k (by omega), fun i _ _ => by rw [f1 0 (by decide)]⟩
    have m4 : (-4 : Int32) < 0 := by decide
    have m5 : ¬ (0 : Int32) ≤ -4 := by decide
    by_cases hlt : c < 6 ^ m
    · obtain ⟨u, u1, u2, u3⟩ := pz_choose8 (N := N) (c := c) hN2 (by omega) a2 t1
      have hgs : gs u 0 29 30 31 36 W S m (gSL m c) := ⟨by rw [u2 0 (by decide)]; exact t1, a2, by rw [u2 29 (by decide), f1 29 (by decide)]; exact e5, a4, by rw [u2 30 (by decide), f1 30 (by decide)]; exact e6, a6, u3, fun k hk => Nat.le_trans gSL_le (by omega)⟩
      have hre := pz_rest8 (N := N) hN2 hgs
      have hsu : fX8_sumOfCosts N u = some (nI (gsu W S m c)) := pz_sum8 (N := N) hN2 hgs
      have fu : ∀ k, k ≠ 31 → u k = r0 k := fun k hk => by rw [u2 k hk]; exact f1 k hk
      have eN := grn_s (W := W) (S := S) (m := m) (n := c)
      have eA : gmA W S m (c + 1) = min (gmA W S m c) (gsu W S m c) := rfl
      have eR : gmR W S m (c + 1) = if grs W S m c = true then min (gmR W S m c) (gsu W S m c) else gmR W S m c := rfl
      have bA := gmA_le (W := W) (S := S) (m := m) c
      have bR := gmR_le (W := W) (S := S) (m := m) c
      have bS := hsb c
      right
      refine ⟨hlt, (if grn W S m (c + 1) = 0 then -4 else nI (gmR W S m (c + 1))), nI (gmA W S m (c + 1)), nI (c + 1), u, ⟨by omega, rfl, fu, rfl, by rw [if_neg (by omega)]⟩, ?_⟩
      -- the least of all
      have hy : ∀ {R : Type} (F : Int32 → Option R), (if y < 0 then F (nI (gsu W S m c)) else if y ≤ nI (gsu W S m c) then F y else F (nI (gsu W S m c))) = F (nI (gmA W S m (c + 1))) := by
        intro R F
        by_cases c0 : c = 0
        · rw [if_pos c0] at f3
          subst c0
          rw [f3, if_pos m4, eA]
          have : gmA W S m 0 = 100000 := rfl
          rw [Nat.min_eq_right (by omega)]
        · rw [if_neg c0] at f3
          rw [f3, if_neg (nI_pos (by omega)), eA]
          by_cases cc : gmA W S m c ≤ gsu W S m c
          · rw [if_pos (nI_le cc (by omega)), Nat.min_eq_left cc]
          · rw [if_neg (nI_ge (by omega) (by omega)), Nat.min_eq_right (by omega)]
      rw [hco, pu_b1, if_neg (nI_ge hlt (by omega)), u1, pu_b1, hsu, pu_b1]
      refine (hy (fun z => nb_b2 (fX8_isRest N u) fun r21 σ22 => if r21 = 0 then ag x z (nI c + 1) σ22 else if x < 0 then ag (nI (gsu W S m c)) z (nI c + 1) σ22 else if x ≤ nI (gsu W S m c) then ag x z (nI c + 1) σ22 else ag (nI (gsu W S m c)) z (nI c + 1) σ22)).trans ?_
      show nb_b2 (fX8_isRest N u) _ = _
      rw [hre, pn_b2, nI_1]
      by_cases cr : grs W S m c = true
      · rw [if_pos (show gm_rest W S m (gSL m c) = true from cr), if_neg (show ¬ nI 1 = (0 : Int32) by decide)]
        rw [if_pos cr] at eN eR
        rw [if_neg (show ¬ grn W S m (c + 1) = 0 by omega), eR]
        by_cases c0 : grn W S m c = 0
        · rw [if_pos c0] at f2
          have hR0 : gmR W S m c = 100000 := by
            have : ∀ n, grn W S m n = 0 → gmR W S m n = 100000 := by
              intro n
              induction n with
              | zero => intro _; rfl
              | succ n ih =>
                intro q
                rw [grn_s] at q
                have hn : ¬ grs W S m n = true := fun q2 => by rw [if_pos q2] at q; omega
                show (if grs W S m n = true then min (gmR W S m n) (gsu W S m n) else gmR W S m n) = 100000
                rw [if_neg hn]
                exact ih (by omega)
            exact this c c0
          rw [f2, if_pos m4, hR0, Nat.min_eq_right (by omega)]
        · rw [if_neg c0] at f2
          rw [f2, if_neg (nI_pos (by omega))]
          by_cases cc : gmR W S m c ≤ gsu W S m c
          · rw [if_pos (nI_le cc (by omega)), Nat.min_eq_left cc]
          · rw [if_neg (nI_ge (by omega) (by omega)), Nat.min_eq_right (by omega)]
      · rw [if_neg (show ¬ gm_rest W S m (gSL m c) = true from cr), if_pos (show nI 0 = (0 : Int32) from rfl)]
        rw [if_neg cr] at eN eR
        rw [eN, eR, f2]
        rfl
    · left
      have : c = 6 ^ m := by omega
      rw [this] at f2 f3 ⊢
      rw [if_neg (by omega)] at f3
      rw [hans, hco, pu_b1, if_pos (nI_le (Nat.le_refl _) (by omega))]
      by_cases c0 : grn W S m (6 ^ m) = 0
      · rw [if_pos c0] at f2
        rw [f2, if_neg m5, if_pos c0]
        exact ⟨_, rfl, rfl, hrt⟩
      · rw [if_neg c0] at f2
        have bR := gmR_le (W := W) (S := S) (m := m) (6 ^ m)
        have bAR := gmA_R (W := W) (S := S) (m := m) (6 ^ m)
        rw [f2, f3, if_pos (nI_pos' (by omega)), if_neg c0, pk_sub bAR]
        exact ⟨_, rfl, rfl, hrt⟩
  obtain ⟨⟨q1, q2⟩, b1, b2, b3⟩ := h8
  have b2 : q1 = ans := b2
  subst b2
  have b3 : rfm τ q2 := b3
  refine ⟨q1, s, q2, ?_, b1, pr_evM h s2 b3 (GM_c rfl rfl rfl rfl (by rw [b3.1 2 (by decide) (by decide)]) (fun k k1 k2 j _ => by rw [b3.1 k (by omega) (by omega)]) s3)⟩
  obtain ⟨y1, y2, y3, y4⟩ := s4
  have bAR := gmA_R (W := W) (S := S) (m := m) (6 ^ m)
  simp only [fX7_price]
  rw [s1, pu_b1, y1, y2, y3, hans]
  by_cases c0 : grn W S m (6 ^ m) = 0
  · rw [if_pos c0, if_pos (show nI (grn W S m (6 ^ m)) = 0 by rw [c0]; rfl)]
  · rw [if_neg c0, if_neg (nI_ne0 (by omega) (by omega)), pk_sub bAR]
theorem cn4_or {f : Nat → Bool} {p : Nat} (hp : p < 4) : su (fun q => if (f q || p == q) = true then 1 else 0) 4 = su (fun q => if f q = true then 1 else 0) 4 + (if f p = true then 0 else 1) := by
  simp only [su]
  have : p = 0 ∨ p = 1 ∨ p = 2 ∨ p = 3 := by omega
  rcases this with rfl | rfl | rfl | rfl
  · cases f 0 <;> simp <;> omega
  · cases f 1 <;> simp <;> omega
  · cases f 2 <;> simp <;> omega
  · cases f 3 <;> simp <;> omega
theorem pz_pairMany {N : Nat} {τ : nb_St} {g : Nat} {P : Nat → Nat} (hN : 10 < N) (hg : τ 2 0 = nI g) (hg8 : g ≤ 8) (hP : ∀ k, k < g → τ 3 k = nI (P k) ∧ P k < 4) : fX8_pairMany N τ = some (nI (su (fun p => if hpn P g p = true then 1 else 0) 4)) := by
  apply pn_x
  unfold fX8_pairMany
  refine nb_e3 (I := fun j x y w => j ≤ g ∧ w = nI j ∧ x = bm (hpn P j) ∧ y = nI (su (fun p => if hpn P j p = true then 1 else 0) 4)) g ?_ (by omega) ⟨by omega, rfl, bm_none.symm, rfl⟩
  rintro ag j x y w ⟨hj, rfl, rfl, rfl⟩
  by_cases hlt : j < g
  · right
    obtain ⟨p1, p2⟩ := hP j hlt
    have hh := pw_has (N := N) (τ := τ) (f := hpn P j) p2
    have hs := hpn_s (P := P) (n := j) p2
    have hn := cn4_or (f := hpn P j) p2
    have hn2 : su (fun q => if hpn P (j + 1) q = true then 1 else 0) 4 = su (fun q => if hpn P j q = true then 1 else 0) 4 + (if hpn P j (P j) = true then 0 else 1) := hn
    refine ⟨hlt, bm (hpn P (j + 1)), nI (su (fun p => if hpn P (j + 1) p = true then 1 else 0) 4), nI (j + 1), ⟨by omega, rfl, rfl, rfl⟩, ?_⟩
    rw [hn2, ← hs]
    by_cases c : hpn P j (P j) = true
    · rw [if_pos c] at hh ⊢
      simp (disch := omega) only [pn_g, pu_b1, pn_b2, pn_leT, pn_leF, pn_ltT, pn_ltF, pn_eqT, pn_eqF, pu_in, pu_ix, nI_add, pk_mul, pk_sub, ↓reduceIte, Bool.false_eq_true, if_false, if_true, nb_st_s, nb_st_k, nb_st_n, nb_sa_s, nb_sa_n, pL0, pL1, pL2, pL3, pL4, pL5, pL6, pL7, pL8, pL9, pL10, pL11, pL12, pL13, pL15, pL20, pL30, pL99, pL100, pL180, pL240, pL255, pL350, pL359, pL719, pL720, pL999, pL9999, pL99999, pL100000, pL1000000, nb_let, hg, p1, hh, Nat.add_zero]
    · rw [if_neg c] at hh ⊢
      simp (disch := omega) only [pn_g, pu_b1, pn_b2, pn_leT, pn_leF, pn_ltT, pn_ltF, pn_eqT, pn_eqF, pu_in, pu_ix, nI_add, pk_mul, pk_sub, ↓reduceIte, Bool.false_eq_true, if_false, if_true, nb_st_s, nb_st_k, nb_st_n, nb_sa_s, nb_sa_n, pL0, pL1, pL2, pL3, pL4, pL5, pL6, pL7, pL8, pL9, pL10, pL11, pL12, pL13, pL15, pL20, pL30, pL99, pL100, pL180, pL240, pL255, pL350, pL359, pL719, pL720, pL999, pL9999, pL99999, pL100000, pL1000000, nb_let, hg, p1, hh]
  · left
    have : j = g := by omega
    subst this
    refine ⟨_, ?_, rfl⟩
    simp (disch := omega) only [pn_g, pu_b1, pn_b2, pn_leT, pn_leF, pn_ltT, pn_ltF, pn_eqT, pn_eqF, pu_in, pu_ix, nI_add, pk_mul, pk_sub, ↓reduceIte, Bool.false_eq_true, if_false, if_true, nb_st_s, nb_st_k, nb_st_n, nb_sa_s, nb_sa_n, pL0, pL1, pL2, pL3, pL4, pL5, pL6, pL7, pL8, pL9, pL10, pL11, pL12, pL13, pL15, pL20, pL30, pL99, pL100, pL180, pL240, pL255, pL350, pL359, pL719, pL720, pL999, pL9999, pL99999, pL100000, pL1000000, hg]
theorem pp_count {σ τ : nb_St} (h : pr_Rel GV GM σ τ) (c : Int32) : ∃ (N : Nat) (r : Int32), fX7_count N σ c = some r ∧ fX8_count N τ c = some r := by
  obtain ⟨p, d, n, g, o, w, a, b, e, kk, hpd, l3, l4, ht, hg, hp, hto, hdo, hz1, hz2, hk, hgm, hgv⟩ := id h
  have hc : cl σ τ p d g o w a b := ⟨hpd, l3, hg, hp, hto⟩
  obtain ⟨n1, n2, n3, n4, n5, n6, -⟩ := cl_n (bus := 8) (bf := 0) (B := 719) (X := tt2) (on := ff1) (gv := zz1) hc rfl
  have hg2 : nb_ix (τ 2 0) = g := n2
  have hl := pr_laid hpd l3
  have hpp := pr_pd_p hpd
  have g8 := hp.1
  have p1 := hp.2.2.2.1
  have p2 := hp.2.2.2.2.1
  have so : σ p 9 = nI o := hp.2.2.2.2.2.2.2.2.2.2.2.2.1
  have τo : τ 7 0 = nI o := hp.2.2.2.2.2.2.2.2.2.2.2.2.2.1
  have sw : σ p 14 = nI w := hp.2.2.2.2.2.2.2.2.2.2.2.2.2.2.2.2.1
  have τw : τ 15 0 = nI w := hp.2.2.2.2.2.2.2.2.2.2.2.2.2.2.2.2.2.1
  obtain ⟨t1, t2, t3, t4, t5, t6, -⟩ := hto
  obtain ⟨N, hN⟩ : ∃ N : Nat, N = 100 := ⟨_, rfl⟩
  have hpm := pz_pairMany (N := N) (P := tv τ 3 8) (by omega) p2 g8 (fun k hk => ⟨(n3 k hk).2.1, (n3 k hk).1⟩)
  have hm1 : σ 64 1 = nI (su (fun p => if hpn (tv τ 3 8) g p = true then 1 else 0) 4) := by
    rw [hgm.1]
    unfold gmd
    rw [grn_ml, hg2]
  refine ⟨N, ?_⟩
  have gg : nb_in (0 : Int32) 2 = true := by decide
  have gg4 : nb_in (0 : Int32) 4 = true := by decide
  have i0 : nb_ix (0 : Int32) = 0 := rfl
  simp only [fX7_count, fX8_count, nb_let, hl, hpp, pn_g, gg, gg4, i0, p1, p2, so, τo, sw, τw, t3, t4, t5, t6, hpm, pu_b1, hm1, hdo.2.1, hdo.2.2.1, hk.2.1, hk.2.2.1, ht.2.1, ht.2.2.1]
  by_cases c0 : c = 0
  · rw [if_pos c0]; exact ⟨_, rfl, rfl⟩
  rw [if_neg c0]
  by_cases c1 : c = 1
  · rw [if_pos c1]; exact ⟨_, rfl, rfl⟩
  rw [if_neg c1]
  by_cases c2 : c = 2
  · rw [if_pos c2]; exact ⟨_, rfl, rfl⟩
  rw [if_neg c2]
  by_cases c3 : c = 3
  · rw [if_pos c3]; exact ⟨_, rfl, rfl⟩
  rw [if_neg c3]
  by_cases c4 : c = 4
  · rw [if_pos c4]; exact ⟨_, rfl, rfl⟩
  rw [if_neg c4]
  by_cases c5 : c = 5
  · rw [if_pos c5]; exact ⟨_, rfl, rfl⟩
  rw [if_neg c5]
  by_cases c6 : c = 6
  · rw [if_pos c6]; exact ⟨_, rfl, rfl⟩
  rw [if_neg c6]
  by_cases c7 : c = 7
  · rw [if_pos c7]; exact ⟨_, rfl, rfl⟩
  rw [if_neg c7]
  by_cases c8 : c = 8
  · rw [if_pos c8]; exact ⟨_, rfl, rfl⟩
  rw [if_neg c8]
  exact ⟨_, rfl, rfl⟩
end
