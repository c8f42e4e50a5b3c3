section
theorem ways_le {o : Nat} (h : o ≤ 3) : 13 ^ o ≤ 2197 ∧ 1 ≤ 13 ^ o := by
  have : o = 0 ∨ o = 1 ∨ o = 2 ∨ o = 3 := by omega
  rcases this with rfl | rfl | rfl | rfl <;> decide
theorem pv_reckon {N : Nat} {σ τ : nb_St} {p d g o w a b : Nat} {vf : Nat → Nat} (hN : 2500 < N) (h : cl σ τ p d g o w a b) (hv : ∀ c, c < 13 ^ o → gvl τ o c (vf c) ∧ vf c ≤ 12000) (hk : σ 61 0 = 0) : ∃ r, fX2_reckon N σ p = some r ∧ pg σ r ∧ r 61 0 = nI 1 ∧ r 61 1 = nI (lmn vf (13 ^ o)).1 ∧ ∀ k, k < o → r 63 k = nI (dg 13 o (lmn vf (13 ^ o)).2 k) := by
  have o3 := h.2.2.2.1.2.1
  have so : σ p 9 = nI o := h.2.2.2.1.2.2.2.2.2.2.2.2.2.2.2.2.1
  have hp : p = 4 ∨ p = 20 := by rcases h.1 with ⟨q, -⟩ | ⟨q, -⟩ <;> omega
  obtain ⟨W, hW⟩ : ∃ W, W = 13 ^ o := ⟨_, rfl⟩
  obtain ⟨ww1, ww2⟩ := ways_le o3
  rw [← hW] at ww1 ww2 hv ⊢
  unfold fX2_reckon
  rw [hk, if_pos rfl]
  refine nb_e2 (I := fun j x y => j ≤ o ∧ y = nI j ∧ x = nI (13 ^ j)) o ?_ (by omega) ⟨by omega, rfl, rfl⟩
  rintro ag j x y ⟨hj, rfl, rfl⟩
  by_cases hlt : j < o
  · right
    refine ⟨hlt, nI (13 ^ (j + 1)), nI (j + 1), ⟨by omega, rfl, rfl⟩, ?_⟩
    simp only [nb_let]
    rw [so, if_neg (nI_ge hlt (by omega)), show (13 : Int32) = nI 13 from rfl, pk_mul, nI_1, ← Nat.pow_succ]
  have : j = o := by omega
  subst this
  left
  simp only [nb_let]
  rw [so, if_pos (nI_le (Nat.le_refl _) (by omega)), ← hW]
  have pg0 : pg σ (nb_st σ 61 1 (100000 : Int32)) := fun k k1 k2 => nb_st_k (by omega)
  have cl0 := cl_g h pg0
  obtain ⟨s0, e1, e2, e3⟩ := pv_prep (N := N) (by omega) cl0
  rw [e1, pu_b1]
  obtain ⟨d1, d2, d3, d4, d5, d6, d7, d8⟩ := e2
  obtain ⟨y1, y2, y3, y4, y5, y6, y7⟩ := e3
  refine nb_e2 (I := fun c x s => c ≤ W ∧ x = nI c ∧ pg σ s ∧ ep1 s τ p g a ∧ s 61 1 = nI (lmn vf c).1 ∧ (0 < c → ∀ k, k < j → s 63 k = nI (dg 13 j (lmn vf c).2 k))) W ?_ (by omega) ⟨by omega, rfl, pg_t pg0 (pg_e d1), ⟨⟨pe_r, d2, d3, d4, d5, d6, d7, d8⟩, y3, y5, y7⟩, ?_, fun q => absurd q (by omega)⟩
  · rintro ag c x s ⟨hc, rfl, f1, f2, f3, f4⟩
    by_cases hlt : c < W
    · right
      have cls := cl_g h f1
      obtain ⟨t, v0, x, u, g1, g2, g3, ⟨v1, g4, g5, g6⟩, g7, g8, g9, g10⟩ := q7_give (N := N) (c := c) (by omega) cls f2 (by omega)
      have hvc := gvl_u g6 (hv c hlt).1
      have hv2 := (hv c hlt).2
      have ll := (lmn_le (vf := vf) c).1
      have u61 : u 61 1 = nI (lmn vf c).1 := by rw [g9 61 (by decide) (by decide) (by decide)]; exact f3
      have pgu : pg σ u := pg_t f1 (fun k k1 k2 => g9 k k1 (by omega) (by omega))
      have ls : lmn vf (c + 1) = if vf c < (lmn vf c).1 then (vf c, c) else lmn vf c := rfl
      by_cases cc : vf c < (lmn vf c).1
      · rw [if_pos cc] at ls
        refine ⟨hlt, nI (c + 1), nb_sa (nb_st u 61 1 (nI (vf c))) 63 (va_cpy (nb_st u 61 1 (nI (vf c)) 62) (nb_st u 61 1 (nI (vf c)) 63) 0 0 3), ⟨by omega, rfl, fun k k1 k2 => ?_, ?_, ?_, fun _ k hk => ?_⟩, ?_⟩
        · rw [nb_sa_n (by omega), nb_st_k (by omega)]; exact pgu k k1 k2
        · exact ep1_c g8 (fun j _ => by rw [nb_sa_n (by decide), nb_st_k (by decide)]) (fun k k1 k2 => by rw [nb_sa_n (by omega), nb_st_k (by omega)])
        · rw [nb_sa_n (by decide), nb_st_s, ls]
        · rw [nb_sa_s, pk_cpy_in (by omega) (by omega), nb_st_k (by decide), ls, Nat.sub_zero, Nat.zero_add]
          exact g10 k hk
        · rw [if_neg (nI_ge hlt (by omega)), g1, pu_b1, g2, pn_b2, g3, pu_b1, g4, pu_b1, nI_add, hvc, u61, if_neg (nI_ge cc (by omega)), nI_1]
          rfl
      · rw [if_neg cc] at ls
        refine ⟨hlt, nI (c + 1), u, ⟨by omega, rfl, pgu, g8, by rw [ls]; exact u61, fun _ k hk => ?_⟩, ?_⟩
        · rw [ls, g9 63 (by decide) (by decide) (by decide)]
          have : 0 < c := by
            by_cases c0 : c = 0
            · subst c0
              have : (lmn vf 0).1 = 100000 := rfl
              omega
            · omega
          exact f4 this k hk
        · rw [if_neg (nI_ge hlt (by omega)), g1, pu_b1, g2, pn_b2, g3, pu_b1, g4, pu_b1, nI_add, hvc, u61, if_pos (nI_le (by omega) (by omega)), nI_1]
    · left
      have : c = W := by omega
      subst this
      refine ⟨nb_st s 61 0 (nI 1), ?_, fun k k1 k2 => by rw [nb_st_k (by omega)]; exact f1 k k1 k2, nb_st_s, by rw [nb_st_n (by decide)]; exact f3, fun k hk => by rw [nb_st_k (by decide)]; exact f4 (by omega) k hk⟩
      rw [if_pos (nI_le (Nat.le_refl _) (by omega))]
      rfl
  · rw [d1 61 (by decide) (by decide), nb_st_s]
    rfl
theorem pw_given {N : Nat} {σ τ : nb_St} {p d g o w a b : Nat} {vf : Nat → Nat} {i : Int32} (hN : 2500 < N) (h : cl σ τ p d g o w a b) (hv : ∀ c, c < 13 ^ o → gvl τ o c (vf c) ∧ vf c ≤ 12000) (hi : (-1 ≤ i ∧ i ≤ nI o - 1)) (hi2 : 0 ≤ i → ∃ k, k < o ∧ i = nI k) : ∃ r, fX8_given N τ i = some r ∧ rfm τ r.2 ∧ r.1 = if 0 ≤ i then (if dg 13 o (lmn vf (13 ^ o)).2 (nb_ix i) = 0 then -4 else nI (30 * (dg 13 o (lmn vf (13 ^ o)).2 (nb_ix i) - 1))) else nI (lmn vf (13 ^ o)).1 := by
  have o3 := h.2.2.2.1.2.1
  have τo : τ 7 0 = nI o := h.2.2.2.1.2.2.2.2.2.2.2.2.2.2.2.2.2.1
  obtain ⟨ww1, ww2⟩ := ways_le o3
  obtain ⟨W, hW⟩ : ∃ W, W = 13 ^ o := ⟨_, rfl⟩
  have l1 : lmn vf 1 = (vf 0, 0) := by
    show (if vf 0 < 100000 then (vf 0, 0) else (100000, 0)) = _
    rw [if_pos]
    have := (hv 0 (by omega)).2
    omega
  have key : ∃ r, (nb_b2 (fX8_givenBy N τ (0 : Int32)) fun r10 σ11 => nb_lp4 (R := (Int32 × nb_St)) (fun ag16 (x12 : Int32) (x13 : Int32) (x14 : Int32) (σ15 : nb_St) =>
      (if nI W ≤ x14 then
      nb_b2 (fX8_givenBy N σ15 x12) fun r20 σ21 =>
      (if 0 ≤ i then
      nb_g (nb_in i 3) (
      some ((σ21 26 (nb_ix i)), σ21))
      else
      some (x13, σ21))
      else
      nb_b2 (fX8_givenBy N σ15 x14) fun r25 σ26 =>
      nb_let (fun (v29 : Int32) =>
      nb_let (fun (v32 : Int32) =>
      ag16 v29 v32 (x14 + 1) σ26) fun k30 =>
      (if x13 ≤ r25 then
      k30 x13
      else
      k30 r25)) fun k27 =>
      (if x13 ≤ r25 then
      k27 x12
      else
      k27 x14))) N (0 : Int32) r10 (1 : Int32) σ11) = some r ∧ rfm τ r.2 ∧ r.1 = if 0 ≤ i then (if dg 13 o (lmn vf W).2 (nb_ix i) = 0 then -4 else nI (30 * (dg 13 o (lmn vf W).2 (nb_ix i) - 1))) else nI (lmn vf W).1 := by
    obtain ⟨⟨x0, s0⟩, e1, v0, e2, e3, e4, e5, e6⟩ := q8_give (N := N) (c := 0) (by omega) h (by omega)
    have e2 : x0 = nI v0 := e2
    subst e2
    have hv0 := gvl_u e5 (hv 0 (by omega)).1
    subst hv0
    rw [show fX8_givenBy N τ (0 : Int32) = some (nI (vf 0), s0) from e1, pn_b2]
    refine nb_e4 (I := fun j x y u s => j + 1 ≤ W ∧ u = nI (j + 1) ∧ x = nI (lmn vf (j + 1)).2 ∧ y = nI (lmn vf (j + 1)).1 ∧ rfm τ s) W ?_ (by omega) ⟨by omega, rfl, by rw [l1]; rfl, by rw [l1], e3⟩
    rintro ag j x y u s ⟨hj, rfl, rfl, rfl, f1⟩
    obtain ⟨ll1, ll2, ll3⟩ := lmn_le (vf := vf) (j + 1)
    by_cases hlt : j + 1 < W
    · right
      obtain ⟨⟨x0, s1⟩, e1, v0, e2, e3, e4, e5, e6⟩ := q8_give (N := N) (c := j + 1) (by omega) (cl_c h pe_r f1) (by omega)
      have e2 : x0 = nI v0 := e2
      subst e2
      have e5 : gvl τ o (j + 1) v0 := gvl_c (fun k k1 k2 i _ => by rw [f1.1 k (by omega) (by omega)]) e5
      have hv0 := gvl_u e5 (hv (j + 1) (by omega)).1
      subst hv0
      have ls : lmn vf (j + 1 + 1) = if vf (j + 1) < (lmn vf (j + 1)).1 then (vf (j + 1), j + 1) else lmn vf (j + 1) := rfl
      refine ⟨by omega, nI (lmn vf (j + 1 + 1)).2, nI (lmn vf (j + 1 + 1)).1, nI (j + 1 + 1), s1, ⟨by omega, rfl, rfl, rfl, rfm_t f1 e3⟩, ?_⟩
      simp only [nb_let]
      rw [if_neg (nI_ge hlt (by omega)), e1, pn_b2, nI_1, ls]
      by_cases cc : vf (j + 1) < (lmn vf (j + 1)).1
      · have hn := nI_ge cc (show (lmn vf (j + 1)).1 < 2 ^ 31 by omega)
        rw [if_pos cc, if_neg hn, if_neg hn]
      · have hn : nI (lmn vf (j + 1)).1 ≤ nI (vf (j + 1)) := nI_le (by omega) (by omega)
        rw [if_neg cc, if_pos hn, if_pos hn]
    · left
      have : j + 1 = W := by omega
      rw [this] at ll2 ll3 ⊢
      obtain ⟨⟨x0, s1⟩, e1, v0, e2, e3, e4, e5, e6⟩ := q8_give (N := N) (c := (lmn vf W).2) (by omega) (cl_c h pe_r f1) (by omega)
      have e6 : ∀ k, k < o → s1 26 k = if gon o (lmn vf W).2 k = true then nI (ggv o (lmn vf W).2 k) else -4 := e6
      rw [if_pos (nI_le (Nat.le_refl _) (by omega)), e1, pn_b2]
      by_cases c0 : (0 : Int32) ≤ i
      · obtain ⟨k, k1, rfl⟩ := hi2 c0
        rw [if_pos c0, if_pos c0, nb_g_t (pu_in (by omega) (by omega)), pu_ix (by omega), e6 k k1]
        refine ⟨_, rfl, rfm_t f1 e3, ?_⟩
        by_cases c1 : dg 13 o (lmn vf W).2 k = 0
        · rw [if_pos c1]
          exact if_neg (fun q => gon_t.mp q c1)
        · rw [if_neg c1]
          exact if_pos (gon_t.mpr c1)
      · rw [if_neg c0, if_neg c0]
        exact ⟨_, rfl, rfm_t f1 e3, rfl⟩
  rw [← hW]
  simp only [fX8_given]
  rw [nb_g_t (by decide), show nb_ix (0 : Int32) = 0 from rfl, τo, pu_inL (b := -1) (c := nI o - 1) (by decide) rfl, pu_b1, if_pos hi, if_neg (by decide), nb_g_t (by decide)]
  simp only [nb_let] at key ⊢
  have : o = 0 ∨ o = 1 ∨ o = 2 ∨ o = 3 := by omega
  rcases this with rfl | rfl | rfl | rfl
  · have : W = 1 := by omega
    subst this
    rw [if_pos (show nI 0 = (0 : Int32) from rfl)]
    exact key
  · have : W = 13 := by omega
    subst this
    rw [if_neg (show ¬ nI 1 = (0 : Int32) by decide), nb_g_t (show nb_in (0 : Int32) 2 = true by decide), if_pos (show nI 1 = (1 : Int32) from rfl)]
    exact key
  · have : W = 169 := by omega
    subst this
    rw [if_neg (show ¬ nI 2 = (0 : Int32) by decide), nb_g_t (show nb_in (0 : Int32) 2 = true by decide), if_neg (show ¬ nI 2 = (1 : Int32) by decide), nb_g_t (show nb_in (0 : Int32) 2 = true by decide), if_pos (show nI 2 = (2 : Int32) from rfl)]
    exact key
  · have : W = 2197 := by omega
    subst this
    rw [if_neg (show ¬ nI 3 = (0 : Int32) by decide), nb_g_t (show nb_in (0 : Int32) 2 = true by decide), if_neg (show ¬ nI 3 = (1 : Int32) by decide), nb_g_t (show nb_in (0 : Int32) 2 = true by decide), if_neg (show ¬ nI 3 = (2 : Int32) by decide)]
    exact key
theorem pu_m1 {a : Int32} {o : Nat} (ho : o ≤ 8) : (-1 ≤ a ∧ a ≤ nI o - 1) ↔ (a = -1 ∨ ∃ k, k < o ∧ a = nI k) := by
  have t1 : (nI o - 1).toInt = (o : Int) - 1 := by
    have := pk_sub_toInt (a := o) (b := 1) (by omega) (by omega)
    exact this
  have t3 : (-1 : Int32).toInt = -1 := by decide
  rw [Int32.le_iff_toInt_le, Int32.le_iff_toInt_le, t1, t3]
  constructor
  · rintro ⟨h1, h2⟩
    by_cases c : a.toInt = -1
    · left
      rw [← t3] at c
      exact Int32.toInt_inj.mp c
    · right
      have h0 : ¬ a < 0 := by
        rw [Int32.lt_iff_toInt_lt, show (0 : Int32).toInt = 0 from by decide]
        omega
      obtain ⟨k, k1, rfl⟩ := nI_of h0
      rw [nI_toInt k1] at h2
      exact ⟨k, by omega, rfl⟩
  · rintro (rfl | ⟨k, k1, rfl⟩)
    · rw [t3]; omega
    · rw [nI_toInt (by omega)]; omega
theorem pr_evG {GM : nb_St → nb_St → Prop} (ok : pr_ok GV GM) {σ τ σ' τ' : nb_St} (h : pr_Rel GV GM σ τ) (hσ : pg σ σ') (hτ : rfm τ τ') (hv : GV σ' τ') : pr_Rel GV GM σ' τ' := by
  obtain ⟨p, d, n, g, o, w, a, b, e, kk, hpd, l3, l4, ht, hg, hp, hto, hdo, hz1, hz2, hk, hgm, hgv⟩ := h
  have c := cl_c (σ' := σ') (τ' := τ') (cl_g (show cl σ τ p d g o w a b from ⟨hpd, l3, hg, hp, hto⟩) hσ) pe_r hτ
  have q0 : σ' 0 = σ 0 := hσ 0 (by decide) (by decide)
  refine ⟨p, d, n, g, o, w, a, b, e, kk, hpd, c.2.1, by rw [q0]; exact l4, ?_, hg, c.2.2.2.1, c.2.2.2.2, ?_, ?_, ?_, ?_, ?_, hv⟩
  · exact pr_text_c ht (by rw [q0]) (hσ 1 (by decide) (by decide)) (hτ.2 0 (by decide) (by decide)) (hτ.1 1 (by decide) (by decide))
  · exact pr_done_c hdo (by rw [hσ 69 (by decide) (by decide)]) (hσ 70 (by decide) (by decide)) (hτ.2 25 (by decide) (by decide)) (hτ.1 24 (by decide) (by decide))
  · rw [hτ.1 24 (by decide) (by decide)]; exact hz1
  · rw [hτ.1 24 (by decide) (by decide)]; exact hz2
  · exact pr_kept_c hk (by rw [hσ 69 (by decide) (by decide)]) (fun k h1 h2 => hσ k (by omega) (by omega)) (hτ.2 24 (by decide) (by decide)) (fun k h1 h2 j _ => by rw [hτ.1 k (by omega) (by omega)])
  · exact ok.2.2 _ _ _ _ (hσ 64 (by decide) (by decide)) (hσ 65 (by decide) (by decide)) (hσ 66 (by decide) (by decide)) (hσ 68 (by decide) (by decide)) (fun k h1 h2 => hτ.1 k (by omega) (by omega)) hgm
theorem pp_given {GM : nb_St → nb_St → Prop} (ok : pr_ok GV GM) {σ τ : nb_St} (h : pr_Rel GV GM σ τ) (i : Int32) : ∃ (N : Nat) (r : Int32) (σo τo : nb_St), fX7_given N σ i = some (r, σo) ∧ fX8_given N τ i = some (r, τo) ∧ pr_Rel GV GM σo τo := by
  obtain ⟨p, d, n, g, o, w, a, b, e, kk, hpd, l3, l4, ht, hg, hp, hto, hdo, hz1, hz2, hk, hgm, hgv⟩ := id h
  have hc : cl σ τ p d g o w a b := ⟨hpd, l3, hg, hp, hto⟩
  have hl := pr_laid hpd l3
  have hpp := pr_pd_p hpd
  have o3 := hp.2.1
  have so : σ p 9 = nI o := hp.2.2.2.2.2.2.2.2.2.2.2.2.1
  have τo : τ 7 0 = nI o := hp.2.2.2.2.2.2.2.2.2.2.2.2.2.1
  have ixo : nb_ix (τ 7 0) = o := by rw [τo]; exact pu_ix (by omega)
  obtain ⟨N, hN⟩ : ∃ N : Nat, N = 3000 := ⟨_, rfl⟩
  have hN1 : 2500 < N := by omega
  refine ⟨N, ?_⟩
  have hm := pu_m1 (a := i) (o := o) (by omega)
  by_cases hi : (-1 ≤ i ∧ i ≤ nI o - 1)
  · obtain ⟨ww1, ww2⟩ := ways_le o3
    obtain ⟨vf, hvf⟩ : ∃ vf : Nat → Nat, ∀ c, c < 13 ^ o → gvl τ o c (vf c) ∧ vf c ≤ 12000 := by
      have : ∀ c, ∃ v, c < 13 ^ o → gvl τ o c v ∧ v ≤ 12000 := fun c => by
        by_cases q : c < 13 ^ o
        · obtain ⟨r, e1, v, e2, e3, e4, e5, e6⟩ := q8_give (N := N) (c := c) (by omega) hc (by omega)
          exact ⟨v, fun _ => ⟨e5, e4⟩⟩
        · exact ⟨0, fun q2 => absurd q2 q⟩
      exact Classical.axiomOfChoice this
    have hi0 : ¬ (0 : Int32) ≤ -1 := by decide
    have hik : 0 ≤ i → ∃ k, k < o ∧ i = nI k := fun q => by
      rcases hm.mp hi with c | c
      · subst c; exact absurd q hi0
      · exact c
    have h7 : ∃ s, fX2_reckon N σ p = some s ∧ pg σ s ∧ ¬ s 61 0 = 0 ∧ s 61 1 = nI (lmn vf (13 ^ o)).1 ∧ ∀ k, k < o → s 63 k = nI (dg 13 o (lmn vf (13 ^ o)).2 k) := by
      rcases hgv with q | ⟨q, vf', q1, q2, q3⟩
      · obtain ⟨r, r1, r2, r3, r4, r5⟩ := pv_reckon hN1 hc hvf q
        exact ⟨r, r1, r2, by rw [r3]; decide, r4, r5⟩
      · rw [ixo] at q1 q2 q3
        have e : lmn vf' (13 ^ o) = lmn vf (13 ^ o) := lmn_c _ (fun c hc => gvl_u (q1 c hc) (hvf c hc).1)
        rw [e] at q2 q3
        refine ⟨σ, ?_, pg_r, q, q2, q3⟩
        unfold fX2_reckon
        rw [if_neg q]
    obtain ⟨s, s1, s2, s3, s4, s5⟩ := h7
    obtain ⟨⟨x, t⟩, t1, t2, t3⟩ := pw_given hN1 hc hvf hi hik
    have t2 : rfm τ t := t2
    have t3 : x = if 0 ≤ i then (if dg 13 o (lmn vf (13 ^ o)).2 (nb_ix i) = 0 then -4 else nI (30 * (dg 13 o (lmn vf (13 ^ o)).2 (nb_ix i) - 1))) else nI (lmn vf (13 ^ o)).1 := t3
    have hGV : GV s t := by
      refine GV_c rfl rfl (fun k k1 k2 j _ => by rw [t2.1 k (by omega) (by omega)]) (Or.inr ⟨s3, vf, ?_, ?_, ?_⟩)
      · rw [ixo]; exact fun c hc => (hvf c hc).1
      · rw [ixo]; exact s4
      · rw [ixo]; exact s5
    refine ⟨x, s, t, ?_, t1, pr_evG ok h s2 t2 hGV⟩
    simp only [fX7_given, nb_let, pu_within]
    rw [hl, nb_g_t hpp, so, pu_b1, if_pos hi, if_neg (by decide), nb_g_t hpp, s1, pu_b1]
    rcases hm.mp hi with c | ⟨k, k1, c⟩
    · subst c
      rw [if_neg hi0] at t3
      rw [t3, if_pos rfl, s4]
    · subst c
      have nm1 : ¬ nI k = -1 := fun q => by
        have h1 : (nI k).toInt = (-1 : Int32).toInt := by rw [q]
        rw [nI_toInt (by omega), show (-1 : Int32).toInt = -1 from by decide] at h1
        omega
      have dl := dg_lt (b := 13) (o := o) (c := (lmn vf (13 ^ o)).2) (k := k) (by omega)
      rw [if_pos (nI_pos' (by omega)), pu_ix (by omega)] at t3
      rw [t3, if_neg nm1]
      unfold fX2_minuteOf
      rw [nb_g_t (pu_in (by omega) (by omega)), pu_ix (by omega), s5 k k1]
      by_cases c0 : dg 13 o (lmn vf (13 ^ o)).2 k = 0
      · rw [if_pos c0, if_pos (show nI (dg 13 o (lmn vf (13 ^ o)).2 k) = 0 by rw [c0]; rfl), pu_b1]
      · rw [if_neg c0, if_neg (nI_ne0 (by omega) (by omega)), nb_g_t (pu_in (by omega) (by omega)), pu_b1, show (1 : Int32) = nI 1 from rfl, pk_sub (by omega), show (30 : Int32) = nI 30 from rfl, pk_mul]
  · refine ⟨-1, σ, τ, ?_, ?_, h⟩
    · simp only [fX7_given, nb_let, pu_within]
      rw [hl, nb_g_t hpp, so, pu_b1, if_neg hi, if_pos rfl]
    · simp only [fX8_given]
      rw [nb_g_t (by decide), show nb_ix (0 : Int32) = 0 from rfl, τo, pu_inL (b := -1) (c := nI o - 1) (by decide) rfl, pu_b1, if_neg hi, if_pos rfl]
end
