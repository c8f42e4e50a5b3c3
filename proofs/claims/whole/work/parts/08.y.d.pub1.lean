section
theorem pr_ev {GV GM : nb_St → nb_St → Prop} (ok : pr_ok GV GM) {σ τ σ' τ' : nb_St} (h : pr_Rel GV GM σ τ) (hσ : pe σ σ') (hτ : rfm τ τ') : pr_Rel GV GM σ' τ' := by
  obtain ⟨p, d, n, g, o, w, a, b, e, kk, hpd, l3, l4, ht, hg, hp, hto, hdo, hz1, hz2, hk, hgm, hgv⟩ := h
  have c := cl_c (σ' := σ') (τ' := τ') (show cl σ τ p d g o w a b from ⟨hpd, l3, hg, hp, hto⟩) hσ hτ
  have q0 : σ' 0 = σ 0 := hσ 0 (by decide) (by decide)
  refine ⟨p, d, n, g, o, w, a, b, e, kk, hpd, c.2.1, by rw [q0]; exact l4, ?_, hg, c.2.2.2.1, c.2.2.2.2, ?_, ?_, ?_, ?_, ?_, ?_⟩
  · exact pr_text_c ht (by rw [q0]) (hσ 1 (by decide) (by decide)) (hτ.2 0 (by decide) (by decide)) (hτ.1 1 (by decide) (by decide))
  · exact pr_done_c hdo (by rw [hσ 69 (by decide) (by decide)]) (hσ 70 (by decide) (by decide)) (hτ.2 25 (by decide) (by decide)) (hτ.1 24 (by decide) (by decide))
  · rw [hτ.1 24 (by decide) (by decide)]; exact hz1
  · rw [hτ.1 24 (by decide) (by decide)]; exact hz2
  · exact pr_kept_c hk (by rw [hσ 69 (by decide) (by decide)]) (fun k h1 h2 => hσ k (by omega) (by omega)) (hτ.2 24 (by decide) (by decide)) (fun k h1 h2 j _ => by rw [hτ.1 k (by omega) (by omega)])
  · exact ok.2.2 _ _ _ _ (hσ 64 (by decide) (by decide)) (hσ 65 (by decide) (by decide)) (hσ 66 (by decide) (by decide)) (hσ 68 (by decide) (by decide)) (fun k h1 h2 => hτ.1 k (by omega) (by omega)) hgm
  · exact ok.2.1 _ _ _ _ (hσ 61 (by decide) (by decide)) (hσ 63 (by decide) (by decide)) (fun k h1 h2 j _ => by rw [hτ.1 k (by omega) (by omega)]) hgv
theorem esh_c {D : eT} {z z' : Nat → Nat} {i t : Nat} (h : ∀ k, k < eg D → z (eP D k) = z' (eP D k)) : esh D z i t = esh D z' i t := by
  unfold esh ect
  rw [ectn_c _ (fun k hk => by rw [h k hk])]
theorem pp_shame {GV GM : nb_St → nb_St → Prop} (ok : pr_ok GV GM) {σ τ : nb_St} (h : pr_Rel GV GM σ τ) (i t : Int32) : ∃ (N : Nat) (r : Int32) (σo τo : nb_St), fX7_shame N σ i t = some (r, σo) ∧ fX8_shame N τ i t = some (r, τo) ∧ pr_Rel GV GM σo τo := by
  obtain ⟨p, d, n, g, o, w, a, b, e, kk, hpd, l3, l4, ht, hg, hp, hto, hdo, hz1, hz2, hk, hgm, hgv⟩ := id h
  have hc : cl σ τ p d g o w a b := ⟨hpd, l3, hg, hp, hto⟩
  have hl := pr_laid hpd l3
  have hpp := pr_pd_p hpd
  have g8 := hp.1
  have p1 := hp.2.2.2.1
  have p2 := hp.2.2.2.2.1
  obtain ⟨N, hN⟩ : ∃ N : Nat, N = 3000 := ⟨_, rfl⟩
  have hN1 : 1000 < N := by omega
  have hN2 : 10 < N := by omega
  refine ⟨N, ?_⟩
  obtain ⟨D, hD⟩ : ∃ D, D = eD τ 8 0 719 tt2 ff1 zz1 := ⟨_, rfl⟩
  obtain ⟨n1, n2, n3, n4, n5, n6, n7, n8, n9, n10, n11, n12, n13, n14, n15, n16, n17⟩ := cl_n hc hD
  by_cases hi : (0 : Int32) ≤ i ∧ i ≤ nI g - 1
  · obtain ⟨k, hkg, rfl⟩ := pu_guest_of hg (by omega) hi
    by_cases htt : (0 : Int32) ≤ t ∧ t ≤ 719
    · obtain ⟨u, hu1, hu2, rfl⟩ := pr_rng_of (a := 0) (b := 719) (by omega) (by omega) htt.1 htt.2
      obtain ⟨r, e1, z, G, e2, e3, e4, e5, e6⟩ := q7_as hN1 hc
      obtain ⟨r', f1, z', G', f2, f3, f4, f5, f6, -⟩ := q8_as hN1 hc
      rw [← hD] at e3 e4 f3 f4
      have hu := ev_u e3 f3
      have hB : eB D ≤ 719 := e4.1.1.2.2.2.2.2.2.2.2.2.2.2.2.2.2.2.2.2.2.1
      have hle := ev_le e3 hB
      have hR := pr_ev ok h e2 f2
      have hkD : k < eg D := by omega
      have lk := pv_look (N := N) (m := u) hN2 e4.1 e5 e6 (by omega)
      have hct : ect D z u ≤ 8 := Nat.le_trans ectn_le (by omega)
      have sh := pv_shame (N := N) (i := k) (t := u) (c := ect D z u) hN2 (ec_f e4.1 (lka_f (a := bm (hsn (eP D) z u (eg D))) (b := nI (ect D z u)))) rfl hct hkD (by omega)
      have sh2 := pw_shame (N := N) (i := k) (t := u) hN2 f4.1 f5 f6 (by omega) hkD (by omega)
      refine ⟨nI (esh D z k u), lka r (bm (hsn (eP D) z u (eg D))) (nI (ect D z u)), r', ?_, ?_, pr_ev ok h (pe_t e2 (pe_f lka_f)) f2⟩
      · simp only [fX7_shame, nb_let, pu_within]
        rw [pu_isGuest7 hpd l3 p1, pu_b1, if_pos hi, if_neg (by decide), pu_b1, if_pos htt, if_neg (by decide), e1, pu_b1, lk, pu_b1, sh, pu_b1]
        rfl
      · simp only [fX8_shame, nb_let]
        rw [pu_isGuest8 p2, pu_b1, if_pos hi, if_neg (by decide), pu_isTime, pu_b1, if_pos htt, if_neg (by decide), f1, pu_b1, sh2, pu_b1, esh_c (fun k hk => (hu k hk).1)]
    · refine ⟨-1, σ, τ, ?_, ?_, h⟩
      · simp only [fX7_shame, nb_let, pu_within]
        rw [pu_isGuest7 hpd l3 p1, pu_b1, if_pos hi, if_neg (by decide), pu_b1, if_neg htt, if_pos rfl]
      · simp only [fX8_shame, nb_let]
        rw [pu_isGuest8 p2, pu_b1, if_pos hi, if_neg (by decide), pu_isTime, pu_b1, if_neg htt, if_pos rfl]
  · refine ⟨-1, σ, τ, ?_, ?_, h⟩
    · simp only [fX7_shame, nb_let]
      rw [pu_isGuest7 hpd l3 p1, pu_b1, if_neg hi, if_pos rfl]
    · simp only [fX8_shame, nb_let]
      rw [pu_isGuest8 p2, pu_b1, if_neg hi, if_pos rfl]
theorem pp_presses {GV GM : nb_St → nb_St → Prop} (ok : pr_ok GV GM) {σ τ : nb_St} (h : pr_Rel GV GM σ τ) (i t : Int32) : ∃ (N : Nat) (r : Int32) (σo τo : nb_St), fX7_presses N σ i t = some (r, σo) ∧ fX8_presses N τ i t = some (r, τo) ∧ pr_Rel GV GM σo τo := by
  obtain ⟨p, d, n, g, o, w, a, b, e, kk, hpd, l3, l4, ht, hg, hp, hto, hdo, hz1, hz2, hk, hgm, hgv⟩ := id h
  have hc : cl σ τ p d g o w a b := ⟨hpd, l3, hg, hp, hto⟩
  have hl := pr_laid hpd l3
  have hpp := pr_pd_p hpd
  have g8 := hp.1
  have p1 := hp.2.2.2.1
  have p2 := hp.2.2.2.2.1
  obtain ⟨N, hN⟩ : ∃ N : Nat, N = 3000 := ⟨_, rfl⟩
  have hN1 : 1000 < N := by omega
  have hN2 : 10 < N := by omega
  refine ⟨N, ?_⟩
  obtain ⟨D, hD⟩ : ∃ D, D = eD τ 8 0 719 tt2 ff1 zz1 := ⟨_, rfl⟩
  obtain ⟨n1, n2, n3, n4, n5, n6, n7, n8, n9, n10, n11, n12, n13, n14, n15, n16, n17⟩ := cl_n hc hD
  by_cases hi : (0 : Int32) ≤ i ∧ i ≤ nI g - 1
  · obtain ⟨k, hkg, rfl⟩ := pu_guest_of hg (by omega) hi
    by_cases htt : (0 : Int32) ≤ t ∧ t ≤ 719
    · obtain ⟨u, hu1, hu2, rfl⟩ := pr_rng_of (a := 0) (b := 719) (by omega) (by omega) htt.1 htt.2
      obtain ⟨r, e1, z, G, e2, e3, e4, e5, e6⟩ := q7_as hN1 hc
      obtain ⟨r', f1, z', G', f2, f3, f4, f5, f6, -⟩ := q8_as hN1 hc
      rw [← hD] at e3 e4 f3 f4
      have hu := ev_u e3 f3
      have hB : eB D ≤ 719 := e4.1.1.2.2.2.2.2.2.2.2.2.2.2.2.2.2.2.2.2.2.1
      have hle := ev_le e3 hB
      have hR := pr_ev ok h e2 f2
      have hkD : k < eg D := by omega
      have lk := pv_look (N := N) (m := u) hN2 e4.1 e5 e6 (by omega)
      have hec := ec_f e4.1 (lka_f (a := bm (hsn (eP D) z u (eg D))) (b := nI (ect D z u)))
      have sh := pv_from (N := N) (i := k) (m := u) (z := z) hN2 hec rfl rfl hkD (by omega)
      have shl := epf_le hec (z := z) (m := u) hkD
      obtain ⟨v, v1, v2⟩ := pw_press (N := N) (i := k) (t := u) hN2 f4.1 f5 f6 (by omega) hkD
      have hiff : epr D z' k u ↔ epf D z k u ≤ u := by
        rw [← epr_c (z := z) (fun k hk => by rw [(hu k hk).1])]
        exact epf_ok (fun _ _ => Iff.rfl) (by omega) rfl rfl
      refine ⟨if u < epf D z k u then 0 else 1, lka r (bm (hsn (eP D) z u (eg D))) (nI (ect D z u)), r', ?_, ?_, pr_ev ok h (pe_t e2 (pe_f lka_f)) f2⟩
      · simp only [fX7_presses, nb_let, pu_within]
        rw [pu_isGuest7 hpd l3 p1, pu_b1, if_pos hi, if_neg (by decide), pu_b1, if_pos htt, if_neg (by decide), e1, pu_b1, lk, pu_b1, sh, pu_b1]
        by_cases c : u < epf D z k u
        · rw [if_pos (nI_lt c (by omega)), if_pos c]
        · rw [if_neg (nI_nlt (by omega) (by omega)), if_neg c]
      · simp only [fX8_presses, nb_let]
        rw [pu_isGuest8 p2, pu_b1, if_pos hi, if_neg (by decide), pu_isTime, pu_b1, if_pos htt, if_neg (by decide), f1, pu_b1, v1, pu_b1]
        rcases v2 with ⟨rfl, v2⟩ | ⟨rfl, v2⟩
        · rw [if_neg (show ¬ nI 1 = (0 : Int32) by decide), if_neg (by have := hiff.mp v2; omega)]
        · rw [if_pos (show nI 0 = (0 : Int32) from rfl), if_pos (by
            by_cases c : u < epf D z k u
            · exact c
            · exact absurd (hiff.mpr (by omega)) v2)]
    · refine ⟨-1, σ, τ, ?_, ?_, h⟩
      · simp only [fX7_presses, nb_let, pu_within]
        rw [pu_isGuest7 hpd l3 p1, pu_b1, if_pos hi, if_neg (by decide), pu_b1, if_neg htt, if_pos rfl]
      · simp only [fX8_presses, nb_let]
        rw [pu_isGuest8 p2, pu_b1, if_pos hi, if_neg (by decide), pu_isTime, pu_b1, if_neg htt, if_pos rfl]
  · refine ⟨-1, σ, τ, ?_, ?_, h⟩
    · simp only [fX7_presses, nb_let]
      rw [pu_isGuest7 hpd l3 p1, pu_b1, if_neg hi, if_pos rfl]
    · simp only [fX8_presses, nb_let]
      rw [pu_isGuest8 p2, pu_b1, if_neg hi, if_pos rfl]
theorem pv_sin {N : Nat} {r : nb_St} {p : Nat} {D : eT} {z : Nat → Nat} {k : Nat} (h : ec r p D) (hz : ∀ p, p < 4 → r 59 p = nI (z p)) (hk : k < eg D) : fX0_standsIn N r (nI k) = some (nI (z (eP D k))) := by
  obtain ⟨⟨a1, a2, a3, a4, a5, a6, a7, -⟩, -⟩ := h
  have hq := xc_q a1
  have r1 := a6 k hk
  have r2 := a7 k hk
  have r3 := hz _ r2
  unfold fX0_standsIn
  simp (disch := omega) only [pn_g, pu_b1, pn_b2, pn_leT, pn_leF, pn_ltT, pn_ltF, pn_eqT, pn_eqF, pu_in, pu_ix, nI_add, pk_mul, pk_sub, ↓reduceIte, Bool.false_eq_true, if_false, if_true, nb_st_s, nb_st_k, nb_st_n, nb_sa_s, nb_sa_n, pL0, pL1, pL2, pL3, pL4, pL5, pL6, pL7, pL8, pL9, pL10, pL11, pL12, pL13, pL15, pL20, pL30, pL99, pL100, pL180, pL240, pL255, pL350, pL359, pL719, pL720, pL999, pL9999, pL99999, pL100000, pL1000000, nb_let, a2, hq, r1, r3]
theorem pp_is {GV GM : nb_St → nb_St → Prop} (ok : pr_ok GV GM) {σ τ : nb_St} (h : pr_Rel GV GM σ τ) (i t : Int32) : ∃ (N : Nat) (r : Int32) (σo τo : nb_St), fX7_is N σ i t = some (r, σo) ∧ fX8_is N τ i t = some (r, τo) ∧ pr_Rel GV GM σo τo := by
  obtain ⟨p, d, n, g, o, w, a, b, e, kk, hpd, l3, l4, ht, hg, hp, hto, hdo, hz1, hz2, hk, hgm, hgv⟩ := id h
  have hc : cl σ τ p d g o w a b := ⟨hpd, l3, hg, hp, hto⟩
  have hl := pr_laid hpd l3
  have hpp := pr_pd_p hpd
  have g8 := hp.1
  have p1 := hp.2.2.2.1
  have p2 := hp.2.2.2.2.1
  obtain ⟨N, hN⟩ : ∃ N : Nat, N = 3000 := ⟨_, rfl⟩
  have hN1 : 1000 < N := by omega
  have hN2 : 10 < N := by omega
  refine ⟨N, ?_⟩
  obtain ⟨D, hD⟩ : ∃ D, D = eD τ 8 0 719 tt2 ff1 zz1 := ⟨_, rfl⟩
  obtain ⟨n1, n2, n3, n4, n5, n6, n7, n8, n9, n10, n11, n12, n13, n14, n15, n16, n17⟩ := cl_n hc hD
  have i2 : ∀ τ, fX8_in N τ t.toInt64 (0 : Int64) (999 : Int64) = some (if 0 ≤ t ∧ t ≤ 999 then 1 else 0) := fun τ => pu_inL (by decide) (by decide)
  by_cases hi : (0 : Int32) ≤ i ∧ i ≤ nI g - 1
  · obtain ⟨k, hkg, rfl⟩ := pu_guest_of hg (by omega) hi
    by_cases htt : (0 : Int32) ≤ t ∧ t ≤ 999
    · skip
      obtain ⟨r, e1, z, G, e2, e3, e4, e5, e6⟩ := q7_as hN1 hc
      obtain ⟨r', f1, z', G', f2, f3, f4, f5, f6, -⟩ := q8_as hN1 hc
      rw [← hD] at e3 e4 f3 f4
      have hu := ev_u e3 f3
      have hB : eB D ≤ 719 := e4.1.1.2.2.2.2.2.2.2.2.2.2.2.2.2.2.2.2.2.2.1
      have hle := ev_le e3 hB
      have hR := pr_ev ok h e2 f2
      have hkD : k < eg D := by omega
      have sn := pv_sin (N := N) e4.1 e5 hkD
      have gn := pv_gin (N := N) e4 hkD
      have y1 := f4.1.1.2.2.2.1 k hkD
      have y2 := f4.1.1.2.2.2.2.1 k hkD
      have y3 := f5 _ y2
      have y4 := f4.2.1 k hkD
      rw [← (hu k hkD).1] at y3
      rw [← (hu k hkD).2] at y4
      refine ⟨if nI (z (eP D k)) ≤ t then (if nI (G k) ≤ t then 2 else 1) else 0, r, r', ?_, ?_, hR⟩
      · simp only [fX7_is, nb_let, pu_within]
        rw [pu_isGuest7 hpd l3 p1, pu_b1, if_pos hi, if_neg (by decide), pu_b1, if_pos htt, if_neg (by decide), e1, pu_b1, sn, pu_b1, gn, pu_b1]
        split
        · split <;> rfl
        · rfl
      · simp only [fX8_is, nb_let]
        rw [pu_isGuest8 p2, pu_b1, if_pos hi, if_neg (by decide), i2, pu_b1, if_pos htt, if_neg (by decide), f1, pu_b1, nb_g_t (pu_in (by omega) (by omega)), pu_ix (by omega), y1, nb_g_t (pu_in y2 (by omega)), pu_ix (by omega), y3, nb_g_t (pu_in (by omega) (by omega)), y4]
        split
        · split <;> rfl
        · rfl
    · refine ⟨-1, σ, τ, ?_, ?_, h⟩
      · simp only [fX7_is, nb_let, pu_within]
        rw [pu_isGuest7 hpd l3 p1, pu_b1, if_pos hi, if_neg (by decide), pu_b1, if_neg htt, if_pos rfl]
      · simp only [fX8_is, nb_let]
        rw [pu_isGuest8 p2, pu_b1, if_pos hi, if_neg (by decide), i2, pu_b1, if_neg htt, if_pos rfl]
  · refine ⟨-1, σ, τ, ?_, ?_, h⟩
    · simp only [fX7_is, nb_let]
      rw [pu_isGuest7 hpd l3 p1, pu_b1, if_neg hi, if_pos rfl]
    · simp only [fX8_is, nb_let]
      rw [pu_isGuest8 p2, pu_b1, if_neg hi, if_pos rfl]
theorem pp_when {GV GM : nb_St → nb_St → Prop} (ok : pr_ok GV GM) {σ τ : nb_St} (h : pr_Rel GV GM σ τ) (i t : Int32) : ∃ (N : Nat) (r : Int32) (σo τo : nb_St), fX7_when N σ i t = some (r, σo) ∧ fX8_when N τ i t = some (r, τo) ∧ pr_Rel GV GM σo τo := by
  obtain ⟨p, d, n, g, o, w, a, b, e, kk, hpd, l3, l4, ht, hg, hp, hto, hdo, hz1, hz2, hk, hgm, hgv⟩ := id h
  have hc : cl σ τ p d g o w a b := ⟨hpd, l3, hg, hp, hto⟩
  have hl := pr_laid hpd l3
  have hpp := pr_pd_p hpd
  have g8 := hp.1
  have p1 := hp.2.2.2.1
  have p2 := hp.2.2.2.2.1
  obtain ⟨N, hN⟩ : ∃ N : Nat, N = 3000 := ⟨_, rfl⟩
  have hN1 : 1000 < N := by omega
  have hN2 : 10 < N := by omega
  refine ⟨N, ?_⟩
  obtain ⟨D, hD⟩ : ∃ D, D = eD τ 8 0 719 tt2 ff1 zz1 := ⟨_, rfl⟩
  obtain ⟨n1, n2, n3, n4, n5, n6, n7, n8, n9, n10, n11, n12, n13, n14, n15, n16, n17⟩ := cl_n hc hD
  have i2 : ∀ τ, fX8_in N τ t.toInt64 (0 : Int64) (1 : Int64) = some (if 0 ≤ t ∧ t ≤ 1 then 1 else 0) := fun τ => pu_inL (by decide) (by decide)
  by_cases hi : (0 : Int32) ≤ i ∧ i ≤ nI g - 1
  · obtain ⟨k, hkg, rfl⟩ := pu_guest_of hg (by omega) hi
    by_cases htt : (0 : Int32) ≤ t ∧ t ≤ 1
    · skip
      obtain ⟨r, e1, z, G, e2, e3, e4, e5, e6⟩ := q7_as hN1 hc
      obtain ⟨r', f1, z', G', f2, f3, f4, f5, f6, -⟩ := q8_as hN1 hc
      rw [← hD] at e3 e4 f3 f4
      have hu := ev_u e3 f3
      have hB : eB D ≤ 719 := e4.1.1.2.2.2.2.2.2.2.2.2.2.2.2.2.2.2.2.2.2.1
      have hle := ev_le e3 hB
      have hR := pr_ev ok h e2 f2
      have hkD : k < eg D := by omega
      have sn := pv_sin (N := N) e4.1 e5 hkD
      have gn := pv_gin (N := N) e4 hkD
      have y1 := f4.1.1.2.2.2.1 k hkD
      have y2 := f4.1.1.2.2.2.2.1 k hkD
      have y3 := f5 _ y2
      have y4 := f4.2.1 k hkD
      rw [← (hu k hkD).1] at y3
      rw [← (hu k hkD).2] at y4
      refine ⟨if t = 0 then nI (z (eP D k)) else nI (G k), r, r', ?_, ?_, hR⟩
      · simp only [fX7_when, nb_let, pu_within]
        rw [pu_isGuest7 hpd l3 p1, pu_b1, if_pos hi, if_neg (by decide), pu_b1, if_pos htt, if_neg (by decide), e1, pu_b1, sn, pu_b1, gn, pu_b1]
        split <;> rfl
      · simp only [fX8_when, nb_let]
        rw [pu_isGuest8 p2, pu_b1, if_pos hi, if_neg (by decide), i2, pu_b1, if_pos htt, if_neg (by decide), f1, pu_b1, nb_g_t (pu_in (by omega) (by omega)), pu_ix (by omega), y1, nb_g_t (pu_in y2 (by omega)), pu_ix (by omega), y3, nb_g_t (pu_in (by omega) (by omega)), y4]
        split <;> rfl
    · refine ⟨-1, σ, τ, ?_, ?_, h⟩
      · simp only [fX7_when, nb_let, pu_within]
        rw [pu_isGuest7 hpd l3 p1, pu_b1, if_pos hi, if_neg (by decide), pu_b1, if_neg htt, if_pos rfl]
      · simp only [fX8_when, nb_let]
        rw [pu_isGuest8 p2, pu_b1, if_pos hi, if_neg (by decide), i2, pu_b1, if_neg htt, if_pos rfl]
  · refine ⟨-1, σ, τ, ?_, ?_, h⟩
    · simp only [fX7_when, nb_let]
      rw [pu_isGuest7 hpd l3 p1, pu_b1, if_neg hi, if_pos rfl]
    · simp only [fX8_when, nb_let]
      rw [pu_isGuest8 p2, pu_b1, if_neg hi, if_pos rfl]
theorem pu_m2 {a : Int32} {g : Nat} (h1 : 1 ≤ g) (hg : g ≤ 8) : (-2 ≤ a ∧ a ≤ nI g - 1) ↔ (a = -2 ∨ a = -1 ∨ (0 ≤ a ∧ a ≤ nI g - 1)) := by
  rw [pu_pred (by omega)]
  have t1 : (nI (g - 1)).toInt = ((g - 1 : Nat) : Int) := nI_toInt (by omega)
  have t2 : (-2 : Int32).toInt = -2 := by decide
  have t3 : (-1 : Int32).toInt = -1 := by decide
  have t4 : (0 : Int32).toInt = 0 := by decide
  have q2 : a = -2 ↔ a.toInt = -2 := by rw [← t2]; exact Int32.toInt_inj.symm
  have q3 : a = -1 ↔ a.toInt = -1 := by rw [← t3]; exact Int32.toInt_inj.symm
  rw [q2, q3, Int32.le_iff_toInt_le, Int32.le_iff_toInt_le, Int32.le_iff_toInt_le, t1, t2, t4]
  omega
theorem pp_wasted {GV GM : nb_St → nb_St → Prop} (ok : pr_ok GV GM) {σ τ : nb_St} (h : pr_Rel GV GM σ τ) (i : Int32) : ∃ (N : Nat) (r : Int32) (σo τo : nb_St), fX7_wasted N σ i = some (r, σo) ∧ fX8_wasted N τ i = some (r, τo) ∧ pr_Rel GV GM σo τo := by
  obtain ⟨p, d, n, g, o, w, a, b, e, kk, hpd, l3, l4, ht, hg, hp, hto, hdo, hz1, hz2, hk, hgm, hgv⟩ := id h
  have hc : cl σ τ p d g o w a b := ⟨hpd, l3, hg, hp, hto⟩
  have hl := pr_laid hpd l3
  have hpp := pr_pd_p hpd
  have g8 := hp.1
  have p1 := hp.2.2.2.1
  have p2 := hp.2.2.2.2.1
  obtain ⟨N, hN⟩ : ∃ N : Nat, N = 3000 := ⟨_, rfl⟩
  have hN1 : 1000 < N := by omega
  have hN2 : 10 < N := by omega
  refine ⟨N, ?_⟩
  obtain ⟨D, hD⟩ : ∃ D, D = eD τ 8 0 719 tt2 ff1 zz1 := ⟨_, rfl⟩
  obtain ⟨n1, n2, n3, n4, n5, n6, n7, n8, n9, n10, n11, n12, n13, n14, n15, n16, n17⟩ := cl_n hc hD
  have hm := pu_m2 (a := i) hg g8
  by_cases hi : (-2 ≤ i ∧ i ≤ nI g - 1)
  · skip
    obtain ⟨r, e1, z, G, e2, e3, e4, e5, e6⟩ := q7_as hN1 hc
    obtain ⟨r', f1, z', G', f2, f3, f4, f5, f6, -⟩ := q8_as hN1 hc
    rw [← hD] at e3 e4 f3 f4
    have hu := ev_u e3 f3
    have hB : eB D ≤ 719 := e4.1.1.2.2.2.2.2.2.2.2.2.2.2.2.2.2.2.2.2.2.1
    have hle := ev_le e3 hB
    have hR := pr_ev ok h e2 f2
    have hGG : ∀ k, k < eg D → G' k = G k := fun k hk => (hu k hk).2.symm
    have x1 := pv_all hN2 e4
    have x2 := pv_host hN2 e4
    have y1 := pw_all hN2 f4
    have y2 := pw_last hN2 f4
    rw [eal_c hGG] at y1
    rw [emG_c _ hGG] at y2
    have b5 := f4.2.2.2.2.2.1
    have b6 := f4.2.2.2.2.2.2
    have c1 := emG_le (G := G) (B := 1000) (eg D) e4.2.2.1
    rcases hm.mp hi with c | c | c
    · subst c
      refine ⟨nI (eal G (tv τ 4 8) (nb_ix (τ 12 0)) (eg D)), r, r', ?_, ?_, hR⟩
      · simp only [fX7_wasted, nb_let, pu_within]
        rw [hl, nb_g_t hpp, p1, pu_b1, if_pos hi, if_neg (by decide), e1, pu_b1, if_pos trivial, x1, pu_b1]
      · simp only [fX8_wasted, nb_let]
        rw [if_neg (by decide), if_pos trivial, f1, pu_b1, if_pos trivial, y1, pu_b1]
    · subst c
      refine ⟨nI (di (emG G (eg D)) (nb_ix (τ 12 0))), r, r', ?_, ?_, hR⟩
      · simp only [fX7_wasted, nb_let, pu_within]
        rw [hl, nb_g_t hpp, p1, pu_b1, if_pos hi, if_neg (by decide), e1, pu_b1, if_neg (by decide), if_pos trivial, x2, pu_b1]
      · simp only [fX8_wasted, nb_let]
        rw [if_pos trivial, f1, pu_b1, if_neg (by decide), if_pos trivial, y2, pu_b1, nb_g_t (by decide), show nb_ix (0 : Int32) = 0 from rfl, b5, pu_away (by omega) (by omega), pu_b1]
    · obtain ⟨k, hkg, rfl⟩ := pu_guest_of hg (by omega) c
      have hkD : k < eg D := by omega
      have nm2 : ¬ nI k = -2 := fun q => by
        have h1 : (nI k).toInt = (-2 : Int32).toInt := by rw [q]
        rw [nI_toInt (by omega), show (-2 : Int32).toInt = -2 from by decide] at h1
        omega
      have nm1 : ¬ nI k = -1 := fun q => by
        have h1 : (nI k).toInt = (-1 : Int32).toInt := by rw [q]
        rw [nI_toInt (by omega), show (-1 : Int32).toInt = -1 from by decide] at h1
        omega
      have x3 := pv_wby (N := N) e4 hkD
      have y4 := f4.2.1 k hkD
      have y5 := f4.2.2.2.1 k hkD
      have y6 := e4.2.2.1 k hkD
      have y7 := e4.2.2.2.2.1 k hkD
      rw [hGG k hkD] at y4
      refine ⟨nI (di (G k) (tv τ 4 8 k)), r, r', ?_, ?_, hR⟩
      · simp only [fX7_wasted, nb_let, pu_within]
        rw [hl, nb_g_t hpp, p1, pu_b1, if_pos hi, if_neg (by decide), e1, pu_b1, if_neg nm2, if_neg nm1, x3, pu_b1]
      · simp only [fX8_wasted, nb_let]
        rw [if_neg nm1, if_neg nm2, pu_isGuest8 p2, pu_b1, if_pos c, if_neg (by decide), f1, pu_b1, if_neg nm2, if_neg nm1, nb_g_t (pu_in (by omega) (by omega)), nb_g_t (pu_in (by omega) (by omega)), pu_ix (by omega), y4, y5, pu_away (by omega) (by omega), pu_b1]
  · have c0 : ¬ i = -2 := fun q => hi (hm.mpr (Or.inl q))
    have c1 : ¬ i = -1 := fun q => hi (hm.mpr (Or.inr (Or.inl q)))
    have c2 : ¬ ((0 : Int32) ≤ i ∧ i ≤ nI g - 1) := fun q => hi (hm.mpr (Or.inr (Or.inr q)))
    refine ⟨-1, σ, τ, ?_, ?_, h⟩
    · simp only [fX7_wasted, nb_let, pu_within]
      rw [hl, nb_g_t hpp, p1, pu_b1, if_neg hi, if_pos rfl]
    · simp only [fX8_wasted, nb_let]
      rw [if_neg c1, if_neg c0, pu_isGuest8 p2, pu_b1, if_neg c2, if_pos rfl]
end
