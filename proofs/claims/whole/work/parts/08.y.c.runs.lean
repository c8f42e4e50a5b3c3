section
theorem pv_run {N : Nat} {σ τ r : nb_St} {p d g o w a b bus bf B : Nat} {X : Nat → Nat → Bool} {on : Nat → Bool} {gv : Nat → Nat} (hN : 1000 < N) (h : cl σ τ p d g o w a b) (hr : epd σ τ r p g a bus bf B) {n : Nat} {M V : Nat → Nat} {X2 : Nat → Nat → Bool} (hs : eps9 r n M V X2) (he : ∀ i, i < g → ∀ t, su (fun k => if M k ≤ t ∧ X2 k i = true then V k else 0) n = su (fun k => if tv τ 20 6 k ≤ t ∧ X k i = true then tv τ 21 6 k else 0) a + su (fun k => if on k = true ∧ gv k ≤ t then tv τ 8 3 k else 0) o) : ∃ r', fX0_pass N r = some r' ∧ ∃ z G, ef r r' ∧ pe σ r' ∧ ev (eD τ bus bf B X on gv) z G ∧ ecx r' p (eD τ bus bf B X on gv) G (tv τ 4 8) (nb_ix (τ 12 0)) ∧ (∀ p, p < 4 → r' 59 p = nI (z p)) ∧ ∀ p, p < 4 → z p ≤ 100000 := by
  have hec := ec_of (X := X) (on := on) (gv := gv) h hr hs he
  obtain ⟨D, hD⟩ : ∃ D, D = eD τ bus bf B X on gv := ⟨_, rfl⟩
  obtain ⟨n1, n2, n3, n4, n5, n6, n7, n8, n9, -⟩ := cl_n h hD
  rw [← hD] at hec ⊢
  obtain ⟨r', e1, z, G, e2, e3, e4, e5, e6⟩ := pv_pass hN hec
  have hpe : pe σ r' := pe_t hr.1 (pe_f e2)
  have hle := ev_le e6 hec.1.2.2.2.2.2.2.2.2.2.2.2.2.2.2.2.2.2.2.1
  refine ⟨r', e1, z, G, e2, hpe, e6, ⟨ec_f hec e2, e5, fun k hk => by have := (hle k hk).2; omega, fun k hk => ?_, fun k hk => by have := (n5 k (by omega)).1; omega, ?_, by omega⟩, e3, e4⟩
  · rw [hpe _ (by omega) (by omega)]; exact (n5 k (by omega)).2.2
  · rw [hpe _ (by omega) (by omega)]; exact n9.2.2
theorem pw_run {N : Nat} {σ τ r : nb_St} {p d g o w a b bus bf B : Nat} {X : Nat → Nat → Bool} {on : Nat → Bool} {gv : Nat → Nat} (hN : 1000 < N) (h : cl σ τ p d g o w a b) (hr : rfm τ r) (her : er r (eD τ bus bf B X on gv) bus) : ∃ r', fX8_goEvening N r = some r' ∧ ∃ z G, erf r r' ∧ rfm τ r' ∧ ev (eD τ bus bf B X on gv) z G ∧ erx r' (eD τ bus bf B X on gv) bus G (tv τ 4 8) (nb_ix (τ 12 0)) ∧ (∀ p, p < 4 → r' 27 p = nI (z p)) ∧ ∀ p, p < 4 → z p ≤ 1000000 := by
  obtain ⟨D, hD⟩ : ∃ D, D = eD τ bus bf B X on gv := ⟨_, rfl⟩
  obtain ⟨n1, n2, n3, n4, n5, n6, n7, n8, n9, -⟩ := cl_n h hD
  rw [← hD] at her ⊢
  obtain ⟨r', e1, z, G, e2, e3, e4, e5, e6⟩ := pw_go hN her
  have hpe : rfm τ r' := rfm_t hr (rfm_f e2)
  have hle := ev_le e6 her.1.2.2.2.2.2.2.2.2.2.2.2.2.2.2.2.2.1
  refine ⟨r', e1, z, G, e2, hpe, e6, ⟨er_f her e2, e5, fun k hk => by have := (hle k hk).2; omega, fun k hk => ?_, fun k hk => by have := (n5 k (by omega)).1; omega, ?_, by omega⟩, e3, e4⟩
  · rw [hpe.1 4 (by decide) (by decide)]; exact (n5 k (by omega)).2.1
  · rw [hpe.1 12 (by decide) (by decide)]; exact n9.2.1
theorem pw_c1 {N : Nat} {r : nb_St} {i k : Int32} (h : r 0 32 = -4) : fX8_counts N r i k = some (nI 1) := by
  unfold fX8_counts
  rw [h, if_neg (by decide)]
  rfl
theorem nI_m4 {i : Nat} (h : i < 1000) : ¬ nI i = -4 := by
  intro e
  have h1 : (nI i).toInt = (-4 : Int32).toInt := by rw [e]
  rw [nI_toInt (by omega), show (-4 : Int32).toInt = -4 from by decide] at h1
  omega
abbrev tt2 : Nat → Nat → Bool := fun _ _ => true
abbrev ff1 : Nat → Bool := fun _ => false
abbrev zz1 : Nat → Nat := fun _ => 0
theorem ff_f {k : Nat} : ¬ ff1 k = true := fun e => absurd (show false = true from e) (by decide)
theorem zz_le {k : Nat} : zz1 k ≤ 359 := Nat.zero_le _
theorem su_0 : ∀ n, su (fun _ => 0) n = 0
  | 0 => rfl
  | n + 1 => by show su (fun _ => 0) n + 0 = 0; rw [su_0 n]
theorem he_plain {τ : nb_St} {X : Nat → Nat → Bool} {a o i t : Nat} : su (fun k => if tv τ 20 6 k ≤ t ∧ X k i = true then tv τ 21 6 k else 0) a = su (fun k => if tv τ 20 6 k ≤ t ∧ X k i = true then tv τ 21 6 k else 0) a + su (fun k => if ff1 k = true ∧ zz1 k ≤ t then tv τ 8 3 k else 0) o := by
  have e : su (fun k => if ff1 k = true ∧ zz1 k ≤ t then tv τ 8 3 k else 0) o = 0 := by
    exact (su_c o (fun k hk => if_neg (fun e => ff_f e.1))).trans (su_0 o)
  rw [e]
  rfl
/-- the evening as it is -/
theorem q7_as {N : Nat} {σ τ : nb_St} {p d g o w a b : Nat} (hN : 1000 < N) (h : cl σ τ p d g o w a b) : ∃ r, fX7_passAsItIs N σ = some r ∧ ∃ z G, pe σ r ∧ ev (eD τ 8 0 719 tt2 ff1 zz1) z G ∧ ecx r p (eD τ 8 0 719 tt2 ff1 zz1) G (tv τ 4 8) (nb_ix (τ 12 0)) ∧ (∀ p, p < 4 → r 59 p = nI (z p)) ∧ ∀ p, p < 4 → z p ≤ 100000 := by
  obtain ⟨r, e1, e2, e3⟩ := pv_prep (N := N) (by omega) h
  obtain ⟨r', f1, z, G, f2, f3, f4, f5, f6, f7⟩ := pv_run (X := tt2) (on := ff1) (gv := zz1) hN h e2 e3 (fun i _ t => he_plain (X := tt2))
  refine ⟨r', ?_, z, G, f3, f4, f5, f6, f7⟩
  unfold fX7_passAsItIs
  simp only [nb_let]
  rw [pr_laid h.1 h.2.1, nb_g_t (pr_pd_p h.1), e1, pu_b1, f1, pu_b1]
theorem q8_as {N : Nat} {σ τ : nb_St} {p d g o w a b : Nat} (hN : 1000 < N) (h : cl σ τ p d g o w a b) : ∃ r, fX8_goAsItIs N τ = some r ∧ ∃ z G, rfm τ r ∧ ev (eD τ 8 0 719 tt2 ff1 zz1) z G ∧ erx r (eD τ 8 0 719 tt2 ff1 zz1) 8 G (tv τ 4 8) (nb_ix (τ 12 0)) ∧ (∀ p, p < 4 → r 27 p = nI (z p)) ∧ (∀ p, p < 4 → z p ≤ 1000000) ∧ r 0 31 = -4 ∧ r 0 32 = -4 ∧ ∀ k, k < 3 → r 26 k = -4 := by
  obtain ⟨r, e1, e2, e3, e4, e5, e6, e7, e8⟩ := pw_as (N := N) (τ := τ) (by omega)
  have hr : rfm τ r := ⟨fun k a b => e2 k (by omega) (by omega), fun j a b => e3 j a⟩
  have hg := h.2.2.2.1.1
  have ho := h.2.2.2.1.2.1
  have her : er r (eD τ 8 0 719 tt2 ff1 zz1) 8 := er_of h hr (fun i hi => by
    rw [e4]
    exact ⟨fun q => absurd q (nI_m4 (by omega)), fun q => by omega⟩) (fun q => by omega) (by omega) (by omega) (fun t ht => by
    rw [e6]
    constructor
    · rintro (q | q)
      · exact (nI_eq (by omega) (by omega)).mp q
      · exact absurd q (nI_m4 (by omega))
    · intro q; exact Or.inl (by rw [q])) (fun i _ k _ N => by rw [pw_c1 e7, if_pos rfl]) (fun k hk => by rw [e8 k (by omega), if_neg ff_f]) (fun k _ => zz_le)
  obtain ⟨r', f1, z, G, f2, f3, f4, f5, f6, f7⟩ := pw_run hN h hr her
  refine ⟨r', ?_, z, G, f3, f4, f5, f6, f7, ?_, ?_, ?_⟩
  · unfold fX8_goAsItIs
    rw [e1, pu_b1, f1, pu_b1]
  · rw [f2 0 (by decide) (by decide)]; exact e6
  · rw [f2 0 (by decide) (by decide)]; exact e7
  · rw [f2 26 (by decide) (by decide)]; exact e8
def etot (τ : nb_St) (D : eT) (v : Nat) : Prop := ∃ z G, ev D z G ∧ v = eal G (tv τ 4 8) (nb_ix (τ 12 0)) (eg D)
theorem etot_u {τ : nb_St} {D : eT} {v v' : Nat} (h : etot τ D v) (h' : etot τ D v') : v = v' := by
  obtain ⟨z, G, h1, rfl⟩ := h
  obtain ⟨z', G', h1', rfl⟩ := h'
  exact eal_c (fun k hk => (ev_u h1 h1' k hk).2)
theorem etot_r {τ τ' : nb_St} {D : eT} {v : Nat} (hr : rfm τ τ') (h : etot τ' D v) : etot τ D v := by
  obtain ⟨z, G, h1, rfl⟩ := h
  refine ⟨z, G, h1, ?_⟩
  unfold tv
  rw [hr.1 4 (by decide) (by decide), hr.1 12 (by decide) (by decide)]
theorem ecx_tot {N : Nat} {r : nb_St} {p : Nat} {D : eT} {G : Nat → Nat} {z : Nat → Nat} {τ : nb_St} (hN : 10 < N) (h : ecx r p D G (tv τ 4 8) (nb_ix (τ 12 0))) (hv : ev D z G) : ∃ v, v ≤ 9000 ∧ etot τ D v ∧ fX0_wastedByAll N r = some (nI v) := ⟨_, eal_le h.2.2.1 h.2.2.2.2.1 h.2.2.2.2.2.2 h.1.1.2.2.2.2.1, ⟨z, G, hv, rfl⟩, pv_all hN h⟩
theorem erx_tot {N : Nat} {r : nb_St} {bus : Nat} {D : eT} {G : Nat → Nat} {z : Nat → Nat} {τ : nb_St} (hN : 10 < N) (h : erx r D bus G (tv τ 4 8) (nb_ix (τ 12 0))) (hv : ev D z G) : ∃ v, v ≤ 9000 ∧ etot τ D v ∧ fX8_allWasted N r = some (nI v) := ⟨_, eal_le h.2.2.1 h.2.2.2.2.1 h.2.2.2.2.2.2 h.1.1.2.2.1, ⟨z, G, hv, rfl⟩, pw_all hN h⟩
/-- a bus, made up -/
theorem q7_bus {N : Nat} {σ τ : nb_St} {p d g o w a b i m : Nat} (hN : 1000 < N) (h : cl σ τ p d g o w a b) (hi : i < g) (hm : m ≤ 359) : ∃ r v, fX7_allWithBus N σ (nI i) (nI m) = some (nI v, r) ∧ pe σ r ∧ v ≤ 9000 ∧ etot τ (eD τ i m 719 tt2 ff1 zz1) v := by
  obtain ⟨r, e1, e2, e3⟩ := pv_prep (N := N) (by omega) h
  have hg := h.2.2.2.1.1
  obtain ⟨d1, d2, d3, d4, d5, d6, d7, d8⟩ := e2
  obtain ⟨s1, s2, s3, s4, s5, s6, s7⟩ := e3
  have g2 : epd σ τ (nb_st (nb_st r 53 i (nI 3)) 54 i (nI m)) p g a i m 719 := by
    refine ⟨fun k k1 k2 => ?_, ?_, ?_, d4, ?_, fun k hk => ?_, fun k hk => ?_, hm⟩
    · rw [nb_st_k (by omega), nb_st_k (by omega)]; exact d1 k k1 k2
    · rw [nb_st_k (by decide), nb_st_k (by decide)]; exact d2
    · rw [nb_st_k (by decide), nb_st_k (by decide)]; exact d3
    · rw [nb_st_k (by decide), nb_st_k (by decide)]; exact d5
    · rw [nb_st_k (by decide)]
      by_cases c : k = i
      · subst c; rw [nb_st_s, if_pos rfl]
      · rw [nb_st_n (Or.inr c), if_neg c, d6 k hk, if_neg (by omega)]
    · by_cases c : k = i
      · subst c; rw [nb_st_s, if_pos rfl]
      · rw [nb_st_n (Or.inr c), nb_st_k (by decide), if_neg c, d7 k hk, if_neg (by omega)]
  have g3 : eps9 (nb_st (nb_st r 53 i (nI 3)) 54 i (nI m)) a (tv τ 20 6) (tv τ 21 6) tt2 := by
    unfold eps9
    rw [nb_st_k (by decide), nb_st_k (by decide), nb_st_k (by decide), nb_st_k (by decide), nb_st_k (by decide), nb_st_k (by decide), nb_st_k (by decide), nb_st_k (by decide)]
    exact ⟨s1, s2, s3, s4, s5, s6, s7⟩
  obtain ⟨r', f1, z, G, f2, f3, f4, f5, f6, f7⟩ := pv_run (X := tt2) (on := ff1) (gv := zz1) hN h g2 g3 (fun i _ t => he_plain (X := tt2))
  obtain ⟨v, v1, v2, v3⟩ := ecx_tot (N := N) (by omega) f5 f4
  refine ⟨r', v, ?_, f3, v1, v2⟩
  unfold fX7_allWithBus fX0_makeBus
  simp (disch := omega) only [pn_g, pu_b1, pn_b2, pn_leT, pn_leF, pn_ltT, pn_ltF, pn_eqT, pn_eqF, pu_in, pu_ix, nI_add, pk_mul, pk_sub, ↓reduceIte, Bool.false_eq_true, if_false, if_true, nb_st_s, nb_st_k, nb_st_n, nb_sa_s, nb_sa_n, pL0, pL1, pL2, pL3, pL4, pL5, pL6, pL7, pL8, pL9, pL10, pL11, pL12, pL13, pL15, pL20, pL30, pL99, pL100, pL180, pL240, pL255, pL350, pL359, pL719, pL720, pL999, pL9999, pL99999, pL100000, pL1000000, nb_let, pr_laid h.1 h.2.1, pr_pd_p h.1, e1, f1, v3]
theorem q8_frees {N : Nat} {σ τ : nb_St} {p d g o w a b i m : Nat} (hN : 1000 < N) (h : cl σ τ p d g o w a b) (hi : i < g) (hm : m ≤ 359) : ∃ r A v, fX8_freesOf N τ (nI i) (nI m) = some (nI A - nI v, r) ∧ rfm τ r ∧ A ≤ 9000 ∧ v ≤ 9000 ∧ etot τ (eD τ 8 0 719 tt2 ff1 zz1) A ∧ etot τ (eD τ i m 719 tt2 ff1 zz1) v := by
  obtain ⟨r, e1, z, G, e2, e3, e4, e5, e6, e7, e8, e9⟩ := q8_as hN h
  obtain ⟨A, A1, A2, A3⟩ := erx_tot (N := N) (by omega) e4 e3
  have hg := h.2.2.2.1.1
  have ho := h.2.2.2.1.2.1
  have hr : rfm τ (nb_st (nb_st r 0 29 (nI i)) 0 30 (nI m)) := ⟨fun k a b => by rw [nb_st_k (by omega), nb_st_k (by omega)]; exact e2.1 k a b, fun j a b => by rw [nb_st_n (by omega), nb_st_n (by omega)]; exact e2.2 j a b⟩
  have her : er (nb_st (nb_st r 0 29 (nI i)) 0 30 (nI m)) (eD τ i m 719 tt2 ff1 zz1) i := er_of h hr (fun k hk => by
    rw [nb_st_n (by decide), nb_st_s]
    exact nI_eq (by omega) (by omega)) (fun _ => nb_st_s) hm (by omega) (fun t ht => by
    rw [nb_st_n (by decide), nb_st_n (by decide), e7]
    constructor
    · rintro (q | q)
      · exact (nI_eq (by omega) (by omega)).mp q
      · exact absurd q (nI_m4 (by omega))
    · intro q; exact Or.inl (by rw [q])) (fun i _ k _ N => by rw [pw_c1 (by rw [nb_st_n (by decide), nb_st_n (by decide)]; exact e8), if_pos rfl]) (fun k hk => by rw [nb_st_k (by decide), nb_st_k (by decide), e9 k (by omega), if_neg ff_f]) (fun k _ => zz_le)
  obtain ⟨r', f1, z, G, f2, f3, f4, f5, f6, f7⟩ := pw_run hN h hr her
  obtain ⟨v, v1, v2, v3⟩ := erx_tot (N := N) (by omega) f5 f4
  refine ⟨r', A, v, ?_, f3, A1, v1, A2, v2⟩
  unfold fX8_freesOf
  simp only [nb_let]
  rw [e1, pu_b1, A3, pu_b1, f1, pu_b1, v3, pu_b1]
theorem q7_bell {N : Nat} {σ τ : nb_St} {p d g o w a b m : Nat} (hN : 1000 < N) (h : cl σ τ p d g o w a b) (hm : m ≤ 719) : ∃ r v, fX7_allWithBell N σ (nI m) = some (nI v, r) ∧ pe σ r ∧ v ≤ 9000 ∧ etot τ (eD τ 8 0 m tt2 ff1 zz1) v := by
  obtain ⟨r, e1, e2, e3⟩ := pv_prep (N := N) (by omega) h
  obtain ⟨d1, d2, d3, d4, d5, d6, d7, d8⟩ := e2
  obtain ⟨s1, s2, s3, s4, s5, s6, s7⟩ := e3
  have g2 : epd σ τ (nb_st r 36 7 (nI m)) p g a 8 0 m := by
    refine ⟨fun k k1 k2 => ?_, ?_, nb_st_s, hm, ?_, fun k hk => ?_, fun k hk => ?_, d8⟩
    · rw [nb_st_k (by omega)]; exact d1 k k1 k2
    · rw [nb_st_n (by decide)]; exact d2
    · rw [nb_st_n (by decide)]; exact d5
    · rw [nb_st_k (by decide)]; exact d6 k hk
    · rw [nb_st_k (by decide)]; exact d7 k hk
  have g3 : eps9 (nb_st r 36 7 (nI m)) a (tv τ 20 6) (tv τ 21 6) tt2 := by
    unfold eps9
    rw [nb_st_n (by decide), nb_st_k (by decide), nb_st_k (by decide), nb_st_k (by decide)]
    exact ⟨s1, s2, s3, s4, s5, s6, s7⟩
  obtain ⟨r', f1, z, G, f2, f3, f4, f5, f6, f7⟩ := pv_run (X := tt2) (on := ff1) (gv := zz1) hN h g2 g3 (fun i _ t => he_plain (X := tt2))
  obtain ⟨v, v1, v2, v3⟩ := ecx_tot (N := N) (by omega) f5 f4
  refine ⟨r', v, ?_, f3, v1, v2⟩
  unfold fX7_allWithBell fX0_ringAt
  simp (disch := omega) only [pn_g, pu_b1, pn_b2, pn_leT, pn_leF, pn_ltT, pn_ltF, pn_eqT, pn_eqF, pu_in, pu_ix, nI_add, pk_mul, pk_sub, ↓reduceIte, Bool.false_eq_true, if_false, if_true, nb_st_s, nb_st_k, nb_st_n, nb_sa_s, nb_sa_n, pL0, pL1, pL2, pL3, pL4, pL5, pL6, pL7, pL8, pL9, pL10, pL11, pL12, pL13, pL15, pL20, pL30, pL99, pL100, pL180, pL240, pL255, pL350, pL359, pL719, pL720, pL999, pL9999, pL99999, pL100000, pL1000000, nb_let, pr_laid h.1 h.2.1, pr_pd_p h.1, e1, f1, v3]
theorem q8_bell {N : Nat} {σ τ : nb_St} {p d g o w a b m : Nat} (hN : 1000 < N) (h : cl σ τ p d g o w a b) (hm : m ≤ 719) : ∃ r v, fX8_bellOf N τ (nI m) = some (nI v, r) ∧ rfm τ r ∧ v ≤ 9000 ∧ etot τ (eD τ 8 0 m tt2 ff1 zz1) v := by
  obtain ⟨r, e1, e2, e3, e4, e5, e6, e7, e8⟩ := pw_as (N := N) (τ := τ) (by omega)
  have hg := h.2.2.2.1.1
  have ho := h.2.2.2.1.2.1
  have hr : rfm τ (nb_st r 0 31 (nI m)) := ⟨fun k a b => by rw [nb_st_k (by omega)]; exact e2 k (by omega) (by omega), fun j a b => by rw [nb_st_n (by omega)]; exact e3 j a⟩
  have her : er (nb_st r 0 31 (nI m)) (eD τ 8 0 m tt2 ff1 zz1) 8 := er_of h hr (fun i hi => by
    rw [nb_st_n (by decide), e4]
    exact ⟨fun q => absurd q (nI_m4 (by omega)), fun q => by omega⟩) (fun q => by omega) (by omega) (by omega) (fun t ht => by
    rw [nb_st_s]
    constructor
    · rintro (q | q)
      · have := (nI_eq (by omega) (by omega)).mp q; omega
      · exact (nI_eq (by omega) (by omega)).mp q
    · intro q; exact Or.inr (by rw [q])) (fun i _ k _ N => by rw [pw_c1 (by rw [nb_st_n (by decide)]; exact e7), if_pos rfl]) (fun k hk => by rw [nb_st_k (by decide), e8 k (by omega), if_neg ff_f]) (fun k _ => zz_le)
  obtain ⟨r', f1, z, G, f2, f3, f4, f5, f6, f7⟩ := pw_run hN h hr her
  obtain ⟨v, v1, v2, v3⟩ := erx_tot (N := N) (by omega) f5 f4
  refine ⟨r', v, ?_, f3, v1, v2⟩
  unfold fX8_bellOf
  simp only [nb_let]
  rw [e1, pu_b1, f1, pu_b1, v3, pu_b1]
end
