section
theorem pp_frees {GV GM : nb_St → nb_St → Prop} (ok : pr_ok GV GM) {σ τ : nb_St} (h : pr_Rel GV GM σ τ) (i t : Int32) : ∃ (N : Nat) (r : Int32) (σo τo : nb_St), fX7_frees N σ i t = some (r, σo) ∧ fX8_frees N τ i t = some (r, τo) ∧ pr_Rel GV GM σo τo := by
  obtain ⟨p, d, n, g, o, w, a, b, e, kk, hpd, l3, l4, ht, hg, hp, hto, hdo, hz1, hz2, hk, hgm, hgv⟩ := id h
  have hc : cl σ τ p d g o w a b := ⟨hpd, l3, hg, hp, hto⟩
  have hl := pr_laid hpd l3
  have hpp := pr_pd_p hpd
  have g8 := hp.1
  have p1 := hp.2.2.2.1
  have p2 := hp.2.2.2.2.1
  obtain ⟨N, hN⟩ : ∃ N : Nat, N = 3000 := ⟨_, rfl⟩
  have hN1 : 1000 < N := by omega
  have hN2 : 10 < N := by omega
  refine ⟨N, ?_⟩
  by_cases hi : (0 : Int32) ≤ i ∧ i ≤ nI g - 1
  · obtain ⟨k, hkg, rfl⟩ := pu_guest_of hg (by omega) hi
    by_cases htt : (0 : Int32) ≤ t ∧ t ≤ 359
    · obtain ⟨u, hu1, hu2, rfl⟩ := pr_rng_of (a := 0) (b := 359) (by omega) (by omega) htt.1 htt.2
      obtain ⟨r, e1, z, G, e2, e3, e4, e5, e6⟩ := q7_as hN1 hc
      obtain ⟨A, A1, A2, A3⟩ := ecx_tot (N := N) hN2 e4 e3
      obtain ⟨r2, v, c1, c2, c3, c4⟩ := q7_bus (i := k) (m := u) hN1 (cl_c hc e2 rfm_r) hkg hu2
      obtain ⟨r', A', v', f1, f2, f3, f4, f5, f6⟩ := q8_frees (i := k) (m := u) hN1 hc hkg hu2
      rw [← etot_u A2 f5, ← etot_u c4 f6] at f1
      refine ⟨nI (100000 + A - v), r2, r', ?_, ?_, pr_ev ok h (pe_t e2 c2) f2⟩
      · simp only [fX7_frees, nb_let, pu_within]
        rw [pu_isGuest7 hpd l3 p1, pu_b1, if_pos hi, if_neg (by decide), pu_b1, if_pos htt, if_neg (by decide), e1, pu_b1, A3, pu_b1, c1, pn_b2, show (100000 : Int32) = nI 100000 from rfl, nI_add, pk_sub (by omega)]
      · simp only [fX8_frees, nb_let]
        rw [pu_isGuest8 p2, pu_b1, if_pos hi, if_neg (by decide), pu_isMinute, pu_b1, if_pos htt, if_neg (by decide), f1, pn_b2, show (100000 : Int32) = nI 100000 from rfl]
        congr 2
        rw [← pk_sub (a := 100000 + A) (b := v) (by omega), ← nI_add, Int32.sub_eq_add_neg, Int32.sub_eq_add_neg, Int32.add_assoc]
    · refine ⟨-1, σ, τ, ?_, ?_, h⟩
      · simp only [fX7_frees, nb_let, pu_within]
        rw [pu_isGuest7 hpd l3 p1, pu_b1, if_pos hi, if_neg (by decide), pu_b1, if_neg htt, if_pos rfl]
      · simp only [fX8_frees, nb_let]
        rw [pu_isGuest8 p2, pu_b1, if_pos hi, if_neg (by decide), pu_isMinute, pu_b1, if_neg htt, if_pos rfl]
  · refine ⟨-1, σ, τ, ?_, ?_, h⟩
    · simp only [fX7_frees, nb_let]
      rw [pu_isGuest7 hpd l3 p1, pu_b1, if_neg hi, if_pos rfl]
    · simp only [fX8_frees, nb_let]
      rw [pu_isGuest8 p2, pu_b1, if_neg hi, if_pos rfl]
def lsq (A : Nat) (vf : Nat → Nat) : Nat → Nat × Int32
  | 0 => (A, -4)
  | j + 1 => if vf (10 * j) < (lsq A vf j).1 then (vf (10 * j), nI (10 * j)) else lsq A vf j
theorem lsq_le {A : Nat} {vf : Nat → Nat} : ∀ j, (lsq A vf j).1 ≤ A ∧ ((lsq A vf j).2 = -4 ∨ ∃ m, m < 10 * j ∧ (lsq A vf j).2 = nI m)
  | 0 => ⟨Nat.le_refl _, Or.inl rfl⟩
  | j + 1 => by
    obtain ⟨h1, h2⟩ := lsq_le (A := A) (vf := vf) j
    unfold lsq
    by_cases c : vf (10 * j) < (lsq A vf j).1
    · rw [if_pos c]
      exact ⟨by show vf (10 * j) ≤ A; omega, Or.inr ⟨10 * j, by omega, rfl⟩⟩
    · rw [if_neg c]
      refine ⟨h1, ?_⟩
      rcases h2 with h2 | ⟨m, m1, m2⟩
      · exact Or.inl h2
      · exact Or.inr ⟨m, by omega, m2⟩
theorem pn_diffle {A v L : Nat} (hA : A ≤ 9000) (hv : v ≤ 9000) (hL : L ≤ A) : (nI A - nI v ≤ nI (A - L)) ↔ L ≤ v := by
  rw [Int32.le_iff_toInt_le, pk_sub_toInt (by omega) (by omega), nI_toInt (by omega)]
  omega
theorem pp_madeUp {GV GM : nb_St → nb_St → Prop} (ok : pr_ok GV GM) {σ τ : nb_St} (h : pr_Rel GV GM σ τ) (i t : Int32) : ∃ (N : Nat) (r : Int32) (σo τo : nb_St), fX7_madeUp N σ i t = some (r, σo) ∧ fX8_madeUp N τ i t = some (r, τo) ∧ pr_Rel GV GM σo τo := by
  obtain ⟨p, d, n, g, o, w, a, b, e, kk, hpd, l3, l4, ht, hg, hp, hto, hdo, hz1, hz2, hk, hgm, hgv⟩ := id h
  have hc : cl σ τ p d g o w a b := ⟨hpd, l3, hg, hp, hto⟩
  have hl := pr_laid hpd l3
  have hpp := pr_pd_p hpd
  have g8 := hp.1
  have p1 := hp.2.2.2.1
  have p2 := hp.2.2.2.2.1
  obtain ⟨N, hN⟩ : ∃ N : Nat, N = 3000 := ⟨_, rfl⟩
  have hN1 : 1000 < N := by omega
  have hN2 : 10 < N := by omega
  refine ⟨N, ?_⟩
  have i2 : ∀ τ, fX8_in N τ t.toInt64 (0 : Int64) (1 : Int64) = some (if 0 ≤ t ∧ t ≤ 1 then 1 else 0) := fun τ => pu_inL (by decide) (by decide)
  by_cases hi : (0 : Int32) ≤ i ∧ i ≤ nI g - 1
  · obtain ⟨k, hkg, rfl⟩ := pu_guest_of hg (by omega) hi
    by_cases htt : (0 : Int32) ≤ t ∧ t ≤ 1
    · obtain ⟨r, e1, z, G, e2, e3, e4, e5, e6⟩ := q7_as hN1 hc
      obtain ⟨A, A1, A2, A3⟩ := ecx_tot (N := N) hN2 e4 e3
      obtain ⟨vf, hvf⟩ : ∃ vf : Nat → Nat, ∀ m, m ≤ 359 → vf m ≤ 9000 ∧ etot τ (eD τ k m 719 tt2 ff1 zz1) (vf m) := by
        have : ∀ m, ∃ v, m ≤ 359 → v ≤ 9000 ∧ etot τ (eD τ k m 719 tt2 ff1 zz1) v := fun m => by
          by_cases c : m ≤ 359
          · obtain ⟨r2, v, c1, c2, c3, c4⟩ := q7_bus (i := k) (m := m) hN1 hc hkg c
            exact ⟨v, fun _ => ⟨c3, c4⟩⟩
          · exact ⟨0, fun q => absurd q c⟩
        exact Classical.axiomOfChoice this
      obtain ⟨Q, hQ⟩ : ∃ Q : Nat → Nat × Int32, Q = lsq A vf := ⟨_, rfl⟩
      have Qs : ∀ j, Q (j + 1) = if vf (10 * j) < (Q j).1 then (vf (10 * j), nI (10 * j)) else Q j := fun j => by rw [hQ]; rfl
      have Ql : ∀ j, (Q j).1 ≤ A ∧ ((Q j).2 = -4 ∨ ∃ m, m < 10 * j ∧ (Q j).2 = nI m) := fun j => by rw [hQ]; exact lsq_le j
      obtain ⟨ans, hans⟩ : ∃ ans : Int32, ans = if (Q 36).2 = -4 then -4 else if t = 0 then (Q 36).2 else nI (100000 + A - (Q 36).1) := ⟨_, rfl⟩
      have h7 : ∃ s, fX7_madeUp N σ (nI k) t = some s ∧ s.1 = ans ∧ pe σ s.2 := by
        simp only [fX7_madeUp, nb_let, pu_within]
        rw [pu_isGuest7 hpd l3 p1, pu_b1, if_pos hi, if_neg (by decide), pu_b1, if_pos htt, if_neg (by decide), e1, pu_b1, A3, pu_b1]
        refine nb_e4 (I := fun j x y w s => j ≤ 36 ∧ w = nI (10 * j) ∧ x = nI (Q j).1 ∧ y = (Q j).2 ∧ pe σ s) 36 ?_ (by omega) ⟨by omega, rfl, by rw [hQ]; rfl, by rw [hQ]; rfl, e2⟩
        rintro ag j x y w s ⟨hj, rfl, rfl, rfl, hs⟩
        have q1 := (Ql j).1
        by_cases hlt : j < 36
        · right
          obtain ⟨v1, v2⟩ := hvf (10 * j) (by omega)
          obtain ⟨r2, v, c1, c2, c3, c4⟩ := q7_bus (i := k) (m := 10 * j) hN1 (cl_c hc hs rfm_r) hkg (by omega)
          have hv := etot_u c4 v2
          subst hv
          refine ⟨hlt, nI (Q (j + 1)).1, (Q (j + 1)).2, nI (10 * (j + 1)), r2, ⟨by omega, rfl, rfl, rfl, pe_t hs c2⟩, ?_⟩
          rw [if_neg (show ¬ (350 : Int32) < nI (10 * j) from nI_nlt (a := 350) (by omega) (by omega)), c1, pn_b2, show nI (10 * j) + 10 = nI (10 * (j + 1)) from nI_add (10 * j) 10, Qs j]
          by_cases c : vf (10 * j) < (Q j).1
          · rw [if_pos c, if_neg (nI_ge c (by omega))]
          · rw [if_neg c, if_pos (nI_le (by omega) (by omega))]
        · left
          have : j = 36 := by omega
          subst this
          rw [if_pos (show (350 : Int32) < nI (10 * 36) by decide), hans]
          by_cases c : (Q 36).2 = -4
          · rw [if_pos c, if_pos c]
            exact ⟨_, rfl, c, hs⟩
          · rw [if_neg c, if_neg c]
            by_cases c2 : t = 0
            · rw [if_pos c2, if_pos c2]
              exact ⟨_, rfl, rfl, hs⟩
            · rw [if_neg c2, if_neg c2, show (100000 : Int32) = nI 100000 from rfl, nI_add, pk_sub (by omega)]
              exact ⟨_, rfl, rfl, hs⟩
      have h8 : ∃ s, fX8_madeUp N τ (nI k) t = some s ∧ s.1 = ans ∧ rfm τ s.2 := by
        simp only [fX8_madeUp, nb_let]
        rw [pu_isGuest8 p2, pu_b1, if_pos hi, if_neg (by decide), i2, pu_b1, if_pos htt, if_neg (by decide)]
        refine nb_e4 (I := fun j x y w s => j ≤ 36 ∧ w = nI (10 * j) ∧ x = (Q j).2 ∧ y = nI (A - (Q j).1) ∧ rfm τ s) 36 ?_ (by omega) ⟨by omega, rfl, by rw [hQ]; rfl, by rw [hQ]; show (0 : Int32) = nI (A - A); rw [Nat.sub_self]; rfl, rfm_r⟩
        rintro ag j x y w s ⟨hj, rfl, rfl, rfl, hs⟩
        have q1 := (Ql j).1
        by_cases hlt : j < 36
        · right
          obtain ⟨v1, v2⟩ := hvf (10 * j) (by omega)
          obtain ⟨r2, A', v, c1, c2, c3, c4, c5, c6⟩ := q8_frees (i := k) (m := 10 * j) hN1 (cl_c hc pe_r hs) hkg (by omega)
          rw [eD_r hs] at c5 c6
          have hA := etot_u (etot_r hs c5) A2
          have hv := etot_u (etot_r hs c6) v2
          subst hv
          subst hA
          have hd := pn_diffle (A := A') (v := vf (10 * j)) (L := (Q j).1) (by omega) (by omega) q1
          refine ⟨hlt, (Q (j + 1)).2, nI (A' - (Q (j + 1)).1), nI (10 * (j + 1)), r2, ⟨by omega, rfl, rfl, rfl, rfm_t hs c2⟩, ?_⟩
          rw [if_neg (show ¬ (350 : Int32) < nI (10 * j) from nI_nlt (a := 350) (by omega) (by omega)), c1, pn_b2, show nI (10 * j) + 10 = nI (10 * (j + 1)) from nI_add (10 * j) 10, Qs j]
          by_cases c : vf (10 * j) < (Q j).1
          · have hn : ¬ nI A' - nI (vf (10 * j)) ≤ nI (A' - (Q j).1) := fun q => by have := hd.mp q; omega
            rw [if_pos c, if_neg hn, if_neg hn, pk_sub (by omega)]
          · have hn : nI A' - nI (vf (10 * j)) ≤ nI (A' - (Q j).1) := hd.mpr (by omega)
            rw [if_neg c, if_pos hn, if_pos hn]
        · left
          have : j = 36 := by omega
          subst this
          rw [if_pos (show (350 : Int32) < nI (10 * 36) by decide), hans]
          rcases (Ql 36).2 with c | ⟨m, m1, m2⟩
          · rw [c, if_neg (by decide), if_pos rfl]
            exact ⟨_, rfl, rfl, hs⟩
          · rw [m2, if_pos (nI_pos' (by omega)), if_neg (nI_m4 (by omega))]
            by_cases c2 : t = 0
            · rw [if_pos c2, if_pos c2]
              exact ⟨_, rfl, rfl, hs⟩
            · rw [if_neg c2, if_neg c2, show (100000 : Int32) = nI 100000 from rfl, nI_add]
              exact ⟨_, rfl, by show nI (100000 + (A - (Q 36).1)) = nI (100000 + A - (Q 36).1); rw [show 100000 + (A - (Q 36).1) = 100000 + A - (Q 36).1 by omega], hs⟩
      obtain ⟨⟨s1, s2⟩, b1, b2, b3⟩ := h7
      obtain ⟨⟨t1, t2⟩, d1, d2, d3⟩ := h8
      have b2 : s1 = ans := b2
      have d2 : t1 = ans := d2
      subst b2
      subst d2
      exact ⟨_, s2, t2, b1, d1, pr_ev ok h b3 d3⟩
    · refine ⟨-1, σ, τ, ?_, ?_, h⟩
      · simp only [fX7_madeUp, nb_let, pu_within]
        rw [pu_isGuest7 hpd l3 p1, pu_b1, if_pos hi, if_neg (by decide), pu_b1, if_neg htt, if_pos rfl]
      · simp only [fX8_madeUp, nb_let]
        rw [pu_isGuest8 p2, pu_b1, if_pos hi, if_neg (by decide), i2, pu_b1, if_neg htt, if_pos rfl]
  · refine ⟨-1, σ, τ, ?_, ?_, h⟩
    · simp only [fX7_madeUp, nb_let]
      rw [pu_isGuest7 hpd l3 p1, pu_b1, if_neg hi, if_pos rfl]
    · simp only [fX8_madeUp, nb_let]
      rw [pu_isGuest8 p2, pu_b1, if_neg hi, if_pos rfl]
theorem pp_bell {GV GM : nb_St → nb_St → Prop} (ok : pr_ok GV GM) {σ τ : nb_St} (h : pr_Rel GV GM σ τ) (t : Int32) : ∃ (N : Nat) (r : Int32) (σo τo : nb_St), fX7_bell N σ t = some (r, σo) ∧ fX8_bell N τ t = some (r, τo) ∧ pr_Rel GV GM σo τo := by
  obtain ⟨p, d, n, g, o, w, a, b, e, kk, hpd, l3, l4, ht, hg, hp, hto, hdo, hz1, hz2, hk, hgm, hgv⟩ := id h
  have hc : cl σ τ p d g o w a b := ⟨hpd, l3, hg, hp, hto⟩
  have hl := pr_laid hpd l3
  have hpp := pr_pd_p hpd
  have g8 := hp.1
  have p1 := hp.2.2.2.1
  have p2 := hp.2.2.2.2.1
  obtain ⟨N, hN⟩ : ∃ N : Nat, N = 3000 := ⟨_, rfl⟩
  have hN1 : 1000 < N := by omega
  have hN2 : 10 < N := by omega
  refine ⟨N, ?_⟩
  by_cases htt : (0 : Int32) ≤ t ∧ t ≤ 719
  · obtain ⟨u, hu1, hu2, rfl⟩ := pr_rng_of (a := 0) (b := 719) (by omega) (by omega) htt.1 htt.2
    obtain ⟨r, v, c1, c2, c3, c4⟩ := q7_bell (m := u) hN1 hc hu2
    obtain ⟨r', v', d1, d2, d3, d4⟩ := q8_bell (m := u) hN1 hc hu2
    rw [← etot_u c4 d4] at d1
    refine ⟨nI v, r, r', ?_, ?_, pr_ev ok h c2 d2⟩
    · simp only [fX7_bell, nb_let, pu_within]
      rw [pu_b1, if_pos htt, if_neg (by decide), c1, pn_b2]
    · simp only [fX8_bell, nb_let]
      rw [pu_isTime, pu_b1, if_pos htt, if_neg (by decide), d1, pn_b2]
  · refine ⟨-1, σ, τ, ?_, ?_, h⟩
    · simp only [fX7_bell, nb_let, pu_within]
      rw [pu_b1, if_neg htt, if_pos rfl]
    · simp only [fX8_bell, nb_let]
      rw [pu_isTime, pu_b1, if_neg htt, if_pos rfl]
def lsb (vf : Nat → Nat) : Nat → Nat × Nat
  | 0 => (vf 0, 0)
  | j + 1 => if vf (10 * (j + 1)) < (lsb vf j).1 then (vf (10 * (j + 1)), 10 * (j + 1)) else lsb vf j
theorem lsb_le {vf : Nat → Nat} (h : ∀ m, m ≤ 719 → vf m ≤ 9000) : ∀ j, j ≤ 36 → (lsb vf j).1 ≤ 9000
  | 0, _ => h 0 (by omega)
  | j + 1, hj => by
    have h1 := lsb_le h j (by omega)
    unfold lsb
    by_cases c : vf (10 * (j + 1)) < (lsb vf j).1
    · rw [if_pos c]; exact h _ (by omega)
    · rw [if_neg c]; exact h1
theorem pp_best {GV GM : nb_St → nb_St → Prop} (ok : pr_ok GV GM) {σ τ : nb_St} (h : pr_Rel GV GM σ τ) (t : Int32) : ∃ (N : Nat) (r : Int32) (σo τo : nb_St), fX7_best N σ t = some (r, σo) ∧ fX8_best N τ t = some (r, τo) ∧ pr_Rel GV GM σo τo := by
  obtain ⟨p, d, n, g, o, w, a, b, e, kk, hpd, l3, l4, ht, hg, hp, hto, hdo, hz1, hz2, hk, hgm, hgv⟩ := id h
  have hc : cl σ τ p d g o w a b := ⟨hpd, l3, hg, hp, hto⟩
  have hl := pr_laid hpd l3
  have hpp := pr_pd_p hpd
  have g8 := hp.1
  have p1 := hp.2.2.2.1
  have p2 := hp.2.2.2.2.1
  obtain ⟨N, hN⟩ : ∃ N : Nat, N = 3000 := ⟨_, rfl⟩
  have hN1 : 1000 < N := by omega
  have hN2 : 10 < N := by omega
  refine ⟨N, ?_⟩
  have i2 : ∀ τ, fX8_in N τ t.toInt64 (0 : Int64) (1 : Int64) = some (if 0 ≤ t ∧ t ≤ 1 then 1 else 0) := fun τ => pu_inL (by decide) (by decide)
  by_cases htt : (0 : Int32) ≤ t ∧ t ≤ 1
  · obtain ⟨vf, hvf⟩ : ∃ vf : Nat → Nat, ∀ m, m ≤ 719 → vf m ≤ 9000 ∧ etot τ (eD τ 8 0 m tt2 ff1 zz1) (vf m) := by
      have : ∀ m, ∃ v, m ≤ 719 → v ≤ 9000 ∧ etot τ (eD τ 8 0 m tt2 ff1 zz1) v := fun m => by
        by_cases c : m ≤ 719
        · obtain ⟨r2, v, c1, c2, c3, c4⟩ := q7_bell (m := m) hN1 hc c
          exact ⟨v, fun _ => ⟨c3, c4⟩⟩
        · exact ⟨0, fun q => absurd q c⟩
      exact Classical.axiomOfChoice this
    obtain ⟨Q, hQ⟩ : ∃ Q : Nat → Nat × Nat, Q = lsb vf := ⟨_, rfl⟩
    have Qs : ∀ j, Q (j + 1) = if vf (10 * (j + 1)) < (Q j).1 then (vf (10 * (j + 1)), 10 * (j + 1)) else Q j := fun j => by rw [hQ]; rfl
    have Q0 : Q 0 = (vf 0, 0) := by rw [hQ]; rfl
    have Ql : ∀ j, j ≤ 36 → (Q j).1 ≤ 9000 := fun j hj => by rw [hQ]; exact lsb_le (fun m hm => (hvf m hm).1) j hj
    obtain ⟨ans, hans⟩ : ∃ ans : Int32, ans = if t = 0 then nI (Q 35).2 else nI (Q 35).1 := ⟨_, rfl⟩
    have h7 : ∃ s, fX7_best N σ t = some s ∧ s.1 = ans ∧ pe σ s.2 := by
      obtain ⟨r2, v, c1, c2, c3, c4⟩ := q7_bell (m := 0) hN1 hc (by omega)
      have hv := etot_u c4 (hvf 0 (by omega)).2
      subst hv
      simp only [fX7_best, nb_let, pu_within]
      rw [pu_b1, if_pos htt, if_neg (by decide), show fX7_allWithBell N σ (0 : Int32) = some (nI (vf 0), r2) from c1, pn_b2]
      refine nb_e4 (I := fun j x y w s => j ≤ 35 ∧ w = nI (10 * (j + 1)) ∧ x = nI (Q j).1 ∧ y = nI (Q j).2 ∧ pe σ s) 35 ?_ (by omega) ⟨by omega, rfl, by rw [Q0], by rw [Q0]; rfl, c2⟩
      rintro ag j x y w s ⟨hj, rfl, rfl, rfl, hs⟩
      have q1 := Ql j (by omega)
      by_cases hlt : j < 35
      · right
        obtain ⟨v1, v2⟩ := hvf (10 * (j + 1)) (by omega)
        obtain ⟨r2, v, c1, c2, c3, c4⟩ := q7_bell (m := 10 * (j + 1)) hN1 (cl_c hc hs rfm_r) (by omega)
        have hv := etot_u c4 v2
        subst hv
        refine ⟨hlt, nI (Q (j + 1)).1, nI (Q (j + 1)).2, nI (10 * (j + 1 + 1)), r2, ⟨by omega, rfl, rfl, rfl, pe_t hs c2⟩, ?_⟩
        rw [if_neg (show ¬ (350 : Int32) < nI (10 * (j + 1)) from nI_nlt (a := 350) (by omega) (by omega)), c1, pn_b2, show nI (10 * (j + 1)) + 10 = nI (10 * (j + 1 + 1)) from nI_add (10 * (j + 1)) 10, Qs j]
        by_cases c : vf (10 * (j + 1)) < (Q j).1
        · rw [if_pos c, if_neg (nI_ge c (by omega))]
        · rw [if_neg c, if_pos (nI_le (by omega) (by omega))]
      · left
        have : j = 35 := by omega
        subst this
        rw [if_pos (show (350 : Int32) < nI (10 * (35 + 1)) by decide), hans]
        by_cases c2 : t = 0
        · rw [if_pos c2, if_pos c2]
          exact ⟨_, rfl, rfl, hs⟩
        · rw [if_neg c2, if_neg c2]
          exact ⟨_, rfl, rfl, hs⟩
    have h8 : ∃ s, fX8_best N τ t = some s ∧ s.1 = ans ∧ rfm τ s.2 := by
      obtain ⟨r2, v, c1, c2, c3, c4⟩ := q8_bell (m := 0) hN1 hc (by omega)
      have hv := etot_u c4 (hvf 0 (by omega)).2
      subst hv
      simp only [fX8_best, nb_let]
      rw [i2, pu_b1, if_pos htt, if_neg (by decide), show fX8_bellOf N τ (0 : Int32) = some (nI (vf 0), r2) from c1, pn_b2]
      refine nb_e4 (I := fun j x y w s => j ≤ 35 ∧ w = nI (10 * (j + 1)) ∧ x = nI (Q j).2 ∧ y = nI (Q j).1 ∧ rfm τ s) 35 ?_ (by omega) ⟨by omega, rfl, by rw [Q0]; rfl, by rw [Q0], c2⟩
      rintro ag j x y w s ⟨hj, rfl, rfl, rfl, hs⟩
      have q1 := Ql j (by omega)
      by_cases hlt : j < 35
      · right
        obtain ⟨v1, v2⟩ := hvf (10 * (j + 1)) (by omega)
        obtain ⟨r2, v, c1, c2, c3, c4⟩ := q8_bell (m := 10 * (j + 1)) hN1 (cl_c hc pe_r hs) (by omega)
        rw [eD_r hs] at c4
        have hv := etot_u (etot_r hs c4) v2
        subst hv
        refine ⟨hlt, nI (Q (j + 1)).2, nI (Q (j + 1)).1, nI (10 * (j + 1 + 1)), r2, ⟨by omega, rfl, rfl, rfl, rfm_t hs c2⟩, ?_⟩
        rw [if_neg (show ¬ (350 : Int32) < nI (10 * (j + 1)) from nI_nlt (a := 350) (by omega) (by omega)), c1, pn_b2, show nI (10 * (j + 1)) + 10 = nI (10 * (j + 1 + 1)) from nI_add (10 * (j + 1)) 10, Qs j]
        by_cases c : vf (10 * (j + 1)) < (Q j).1
        · have hn := nI_ge c (show (Q j).1 < 2 ^ 31 by omega)
          rw [if_pos c, if_neg hn, if_neg hn]
        · have hn : nI (Q j).1 ≤ nI (vf (10 * (j + 1))) := nI_le (by omega) (by omega)
          rw [if_neg c, if_pos hn, if_pos hn]
      · left
        have : j = 35 := by omega
        subst this
        rw [if_pos (show (350 : Int32) < nI (10 * (35 + 1)) by decide), hans]
        by_cases c2 : t = 0
        · rw [if_pos c2, if_pos c2]
          exact ⟨_, rfl, rfl, hs⟩
        · rw [if_neg c2, if_neg c2]
          exact ⟨_, rfl, rfl, hs⟩
    obtain ⟨⟨s1, s2⟩, b1, b2, b3⟩ := h7
    obtain ⟨⟨t1, t2⟩, d1, d2, d3⟩ := h8
    have b2 : s1 = ans := b2
    have d2 : t1 = ans := d2
    subst b2
    subst d2
    exact ⟨_, s2, t2, b1, d1, pr_ev ok h b3 d3⟩
  · refine ⟨-1, σ, τ, ?_, ?_, h⟩
    · simp only [fX7_best, nb_let, pu_within]
      rw [pu_b1, if_neg htt, if_pos rfl]
    · simp only [fX8_best, nb_let]
      rw [i2, pu_b1, if_neg htt, if_pos rfl]
end
