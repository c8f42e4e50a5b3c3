section
theorem bm_or0 {f : Nat → Bool} : bm f ||| nI 0 = bm f := by
  have : ∀ a b c d : Bool, bm4 a b c d ||| nI 0 = bm4 a b c d := by decide +kernel
  exact this _ _ _ _
theorem pw_has {N : Nat} {τ : nb_St} {f : Nat → Bool} {p : Nat} (hp : p < 4) : fX8_has N τ (bm f) (nI p) = some (if f p = true then nI 1 else nI 0) := by
  unfold fX8_has
  have := bm_has (f := f) hp
  by_cases c : f p = true
  · rw [if_pos (this.mpr c), if_pos c]; rfl
  · rw [if_neg (fun e => c (this.mp e)), if_neg c]; rfl
theorem eou_c {D : eT} {z z' : Nat → Nat} {u : Nat} (h : ∀ k, k < eg D → z (eP D k) = z' (eP D k) ∨ (u < z (eP D k) ∧ u < z' (eP D k))) : eou D z u ↔ eou D z' u := by
  unfold eou
  constructor
  · intro q k hk c
    rcases h k hk with e | e
    · rw [← e] at c ⊢; exact q k hk c
    · omega
  · intro q k hk c
    rcases h k hk with e | e
    · rw [e] at c ⊢; exact q k hk c
    · omega
/-- what holds ahead of minute t -/
def egs (D : eT) (z G : Nat → Nat) (t k : Nat) : Prop := (G k = 1000000 ∧ ∀ u, z (eP D k) ≤ u → u < t → ¬ eou D z u) ∨ (G k < t ∧ ego D z (z (eP D k)) (G k))
def eri (τ : nb_St) (D : eT) (t : Nat) (x w : Int32) (s : nb_St) : Prop := t ≤ 720 + eH D ∧ w = nI t ∧ erf τ s ∧ ∃ z G l, (∀ p, p < 4 → s 27 p = nI (z p)) ∧ (∀ p, p < 4 → z p = 1000000 ∨ z p < 1000) ∧ ein D z t ∧ x = nI l ∧ (∀ k, k < eg D → z (eP D k) < t → z (eP D k) ≤ l) ∧ ((l = 0 ∧ ∀ k, k < eg D → ¬ z (eP D k) < t) ∨ ∃ k, k < eg D ∧ z (eP D k) = l ∧ l < t) ∧ (∀ k, k < eg D → s 28 k = nI (G k)) ∧ ∀ k, k < eg D → egs D z G t k
theorem pw_go {N : Nat} {τ : nb_St} {D : eT} {bus : Nat} (hN : 1000 < N) (h : er τ D bus) : ∃ r, fX8_goEvening N τ = some r ∧ ∃ z G, erf τ r ∧ (∀ p, p < 4 → r 27 p = nI (z p)) ∧ (∀ p, p < 4 → z p ≤ 1000000) ∧ (∀ k, k < eg D → r 28 k = nI (G k)) ∧ ev D z G := by
  obtain ⟨a1, a2, a3, a4, a5, a6, a7, a8, a9, a10, a11, a12, a13, a14, a15, a16, a17, a18, a19, a20⟩ := h.1
  unfold fX8_goEvening
  refine nb_e2 (I := fun j w s => j ≤ 4 ∧ w = nI j ∧ (∀ k, k ≠ 27 → s k = τ k) ∧ ∀ p, p < j → s 27 p = nI 1000000) 4 ?_ (by omega) ⟨by omega, rfl, fun _ _ => rfl, fun p hp => absurd hp (by omega)⟩
  rintro ag j w s ⟨hj, rfl, f1, f2⟩
  by_cases hlt : j < 4
  · right
    refine ⟨hlt, nI (j + 1), nb_st s 27 j (nI 1000000), ⟨by omega, rfl, fun k hk => by rw [nb_st_k hk]; exact f1 k hk, fun p hp => ?_⟩, ?_⟩
    · by_cases c : p = j
      · subst c; exact nb_st_s
      · rw [nb_st_n (Or.inr c)]; exact f2 p (by omega)
    · rw [if_neg (show ¬ (4 : Int32) ≤ nI j from nI_ge (b := 4) hlt (by omega)), nb_g_t (pu_in hlt (by omega)), pu_ix (by omega), nI_1]
      rfl
  have : j = 4 := by omega
  subst this
  left
  rw [if_pos (show (4 : Int32) ≤ nI 4 by decide)]
  refine nb_e2 (I := fun j w s' => j ≤ 8 ∧ w = nI j ∧ (∀ k, k ≠ 28 → s' k = s k) ∧ ∀ p, p < j → s' 28 p = nI 1000000) 8 ?_ (by omega) ⟨by omega, rfl, fun _ _ => rfl, fun p hp => absurd hp (by omega)⟩
  rintro ag2 j w s' ⟨hj, rfl, g1, g2⟩
  by_cases hlt : j < 8
  · right
    refine ⟨hlt, nI (j + 1), nb_st s' 28 j (nI 1000000), ⟨by omega, rfl, fun k hk => by rw [nb_st_k hk]; exact g1 k hk, fun p hp => ?_⟩, ?_⟩
    · by_cases c : p = j
      · subst c; exact nb_st_s
      · rw [nb_st_n (Or.inr c)]; exact g2 p (by omega)
    · rw [if_neg (show ¬ (8 : Int32) ≤ nI j from nI_ge (b := 8) hlt (by omega)), nb_g_t (pu_in hlt (by omega)), pu_ix (by omega), nI_1]
      rfl
  have : j = 8 := by omega
  subst this
  left
  rw [if_pos (show (8 : Int32) ≤ nI 8 by decide)]
  refine nb_e3 (I := eri τ D) (720 + eH D) ?_ (by omega) ?_
  · rintro ag t x w s ⟨ht, rfl, fs, z, G, l, z1, z2, hin, rfl, l1, l2, G1, G2⟩
    have s11 : s 11 0 = nI (eH D) := by rw [fs 11 (by decide) (by decide)]; exact a15
    by_cases htl : t ≤ 719 + eH D
    · right
      refine ⟨by omega, ?_⟩
      have z2b : ∀ p, p < 4 → z p ≤ 1000000 := fun p hp => by have := z2 p hp; omega
      rw [nb_g_t (show nb_in (0 : Int32) 2 = true by decide), show nb_ix (0 : Int32) = 0 from rfl, s11, show (719 : Int32) + nI (eH D) = nI (719 + eH D) from nI_add 719 _, if_neg (nI_nlt (by omega) (by omega))]
      have hl : l ≤ t := by rcases l2 with ⟨l2, -⟩ | ⟨k, -, -, l2⟩ <;> omega
      -- who stands now
      obtain ⟨Now, hNow⟩ : ∃ Now : Nat → Prop, Now = fun p => t ≤ 719 ∧ z p = 1000000 ∧ (∃ k, k < eg D ∧ eP D k = p) ∧ eat D z p t := ⟨_, rfl⟩
      have hmain : ∀ f : Nat → Bool, (∀ p, p < 4 → (f p = true ↔ Now p)) → ∀ v31 : Int32, v31 = (if bm f = 0 then nI l else nI t) → ∀ s2 : nb_St, (∀ k, k ≠ 27 → s2 k = s k) → (∀ p, p < 4 → s2 27 p = if f p = true then nI t else nI (z p)) → ∃ b0 b1 b2, eri τ D (t + 1) b0 b1 b2 ∧ (nb_lp2 (R := nb_St) (fun ag34 (x32 : Int32) (σ33 : nb_St) =>
          nb_g (nb_in (0 : Int32) 2) (
          (if (σ33 2 0) ≤ x32 then
          ag v31 (nI t + 1) σ33
          else
          nb_g (nb_in x32 16) (
          nb_g (nb_in (σ33 3 (nb_ix x32)) 4) (
          nb_let (fun (v42 : Int32) =>
          nb_let (fun (v45 : Int32) =>
          nb_g (nb_in x32 8) (
          nb_let (nb_st σ33 28 (nb_ix x32) v45) fun σ47 =>
          ag34 (x32 + 1) σ47)) fun k43 =>
          nb_let (fun (_u : Unit) =>
          nb_g (nb_in x32 8) (
          k43 (σ33 28 (nb_ix x32)))) fun k48 =>
          (if v42 = 0 then
          k48 ()
          else
          nb_g (nb_in (0 : Int32) 2) (
          (if (nI t - v31) < (σ33 11 0) then
          k48 ()
          else
          k43 (nI t))))) fun k40 =>
          nb_let (fun (_u : Unit) =>
          k40 (0 : Int32)) fun k54 =>
          (if (σ33 27 (nb_ix (σ33 3 (nb_ix x32)))) = (1000000 : Int32) then
          k54 ()
          else
          nb_g (nb_in x32 8) (
          (if (σ33 28 (nb_ix x32)) = (1000000 : Int32) then
          k40 (1 : Int32)
          else
          k54 ())))))))) N (0 : Int32) s2) = ag b0 b1 b2 := by
        intro f hf v31 hv s2 q1 q2
        rw [hNow] at hf
        obtain ⟨z', hz'⟩ : ∃ z' : Nat → Nat, z' = fun p => if f p = true then t else z p := ⟨_, rfl⟩
        have y1 : ∀ p, p < 4 → s2 27 p = nI (z' p) := fun p hp => by
          rw [q2 p hp, hz']
          show _ = nI (if f p = true then t else z p)
          split <;> rfl
        have yt : ∀ p, p < 4 → f p = true → z' p = t := fun p hp c => by rw [hz']; exact if_pos c
        have yf : ∀ p, p < 4 → ¬ f p = true → z' p = z p := fun p hp c => by rw [hz']; exact if_neg c
        have y2 : ∀ p, p < 4 → z' p = 1000000 ∨ z' p < 1000 := fun p hp => by
          by_cases c : f p = true
          · rw [yt p hp c]; omega
          · rw [yf p hp c]; exact z2 p hp
        have hrel : ∀ k, k < eg D → z (eP D k) = z' (eP D k) ∨ (z (eP D k) = 1000000 ∧ z' (eP D k) = t) := fun k hk => by
          by_cases c : f (eP D k) = true
          · exact Or.inr ⟨((hf _ (a5 k hk)).mp c).2.1, yt _ (a5 k hk) c⟩
          · exact Or.inl (yf _ (a5 k hk) c).symm
        have hin' : ein D z' (t + 1) := by
          refine ein_step hin (by omega) (fun k hk c1 c2 => yt _ (a5 k hk) ((hf _ (a5 k hk)).mpr ⟨?_, ?_, ⟨k, hk, rfl⟩, c2⟩)) (fun k hk c => yf _ (a5 k hk) (fun e => ?_))
          · have : t ≤ eB D := by
              by_cases cB : t ≤ eB D
              · exact cB
              · rcases hin k hk with ⟨q, -⟩ | ⟨-, q⟩
                · omega
                · exact absurd (Or.inl rfl) (q (eB D) (by omega))
            omega
          · rcases z2 _ (a5 k hk) with q | q <;> omega
          · have e2 := (hf _ (a5 k hk)).mp e
            exact c ⟨by have := e2.2.1; omega, e2.2.2.2⟩
        obtain ⟨l', hl'⟩ : ∃ l', v31 = nI l' ∧ l' ≤ t ∧ (∀ k, k < eg D → z' (eP D k) < t + 1 → z' (eP D k) ≤ l') ∧ ((l' = 0 ∧ ∀ k, k < eg D → ¬ z' (eP D k) < t + 1) ∨ ∃ k, k < eg D ∧ z' (eP D k) = l' ∧ l' < t + 1) := by
          by_cases c : bm f = 0
          · have c2 := bm_zero.mp c
            have e : ∀ k, k < eg D → z' (eP D k) = z (eP D k) := fun k hk => yf _ (a5 k hk) (by rw [c2 _ (a5 k hk)]; decide)
            have e2 : ∀ k, k < eg D → z (eP D k) < t + 1 → z (eP D k) < t := fun k hk c => by
              rcases hin k hk with ⟨q, -⟩ | ⟨q, -⟩ <;> omega
            rw [if_pos c] at hv
            refine ⟨l, hv, hl, fun k hk q => ?_, ?_⟩
            · rw [e k hk] at q ⊢
              exact l1 k hk (e2 k hk q)
            · rcases l2 with ⟨l2, l3⟩ | ⟨k, l2, l3, l4⟩
              · exact Or.inl ⟨l2, fun k hk q => l3 k hk (by rw [e k hk] at q; exact e2 k hk q)⟩
              · exact Or.inr ⟨k, l2, by rw [e k l2]; exact l3, by omega⟩
          · rw [if_neg c] at hv
            refine ⟨t, hv, Nat.le_refl _, fun k hk q => by omega, Or.inr ?_⟩
            by_cases c2 : ∀ q, q < 4 → f q = false
            · exact absurd (bm_zero.mpr c2) c
            · have : ∃ q, q < 4 ∧ f q = true := by
                cases d0 : f 0 with
                | true => exact ⟨0, by omega, d0⟩
                | false =>
                  cases d1 : f 1 with
                  | true => exact ⟨1, by omega, d1⟩
                  | false =>
                    cases d2 : f 2 with
                    | true => exact ⟨2, by omega, d2⟩
                    | false =>
                      cases d3 : f 3 with
                      | true => exact ⟨3, by omega, d3⟩
                      | false =>
                        refine absurd (fun q hq => ?_) c2
                        match q, hq with
                        | 0, _ => exact d0
                        | 1, _ => exact d1
                        | 2, _ => exact d2
                        | 3, _ => exact d3
                        | q + 4, hq => exact absurd hq (by omega)
              obtain ⟨p, p1, p2⟩ := this
              obtain ⟨-, -, ⟨k, k1, k2⟩, -⟩ := (hf p p1).mp p2
              exact ⟨k, k1, by rw [k2]; exact yt p p1 p2, by omega⟩
        obtain ⟨rfl, m1, m2, m3⟩ := hl'
        have hou : ∀ k, k < eg D → z' (eP D k) < t + 1 → (eH D ≤ t - l' ↔ eou D z' t) := fun k hk c => by
          constructor
          · intro q i hi ci
            have := m2 i hi (by omega)
            omega
          · intro q
            rcases m3 with ⟨-, m4⟩ | ⟨i, i1, i2, i3⟩
            · exact absurd c (m4 k hk)
            · have := q i i1 (by omega)
              omega
        have hec : ∀ u, u < t → (eou D z u ↔ eou D z' u) := fun u hu => eou_c (fun k hk => by
          rcases hrel k hk with q | q
          · exact Or.inl q
          · exact Or.inr (by omega))
        refine nb_c2 (K := fun v => ∃ b0 b1 b2, eri τ D (t + 1) b0 b1 b2 ∧ v = ag b0 b1 b2) (I := fun j w s3 => j ≤ eg D ∧ w = nI j ∧ (∀ k, k ≠ 28 → s3 k = s2 k) ∧ ∃ G', (∀ k, k < eg D → s3 28 k = nI (G' k)) ∧ (∀ k, k < j → egs D z' G' (t + 1) k) ∧ ∀ k, j ≤ k → G' k = G k) (eg D) ?_ (by omega) ⟨by omega, rfl, fun _ _ => rfl, G, fun k hk => by rw [q1 28 (by decide)]; exact G1 k hk, fun k hk => absurd hk (by omega), fun _ _ => rfl⟩
        rintro ag3 j w s3 ⟨hj, rfl, p1, G', p2, p3, p4⟩
        have e2 : s3 2 0 = nI (eg D) := by rw [p1 2 (by decide), q1 2 (by decide), fs 2 (by decide) (by decide)]; exact a1
        have e11 : s3 11 0 = nI (eH D) := by rw [p1 11 (by decide), q1 11 (by decide)]; exact s11
        by_cases hlt : j < eg D
        · right
          have e3 : s3 3 j = nI (eP D j) := by rw [p1 3 (by decide), q1 3 (by decide), fs 3 (by decide) (by decide)]; exact a4 j hlt
          have r2 := a5 j hlt
          have e27 : s3 27 (eP D j) = nI (z' (eP D j)) := by rw [p1 27 (by decide)]; exact y1 _ r2
          have e28 : s3 28 j = nI (G j) := by rw [← p4 j (Nat.le_refl _)]; exact p2 j hlt
          have r4 := y2 _ r2
          have r5 := G2 j hlt
          have keep : ∀ g', egs D z' (us G' j g') (t + 1) j → ∀ k, k < j + 1 → egs D z' (us G' j g') (t + 1) k := fun g' c k hk => by
            by_cases hkj : k = j
            · subst hkj; exact c
            · have := p3 k (by omega)
              unfold egs at *
              rw [us_n hkj]
              exact this
          have fin : ∀ g', egs D z' (us G' j g') (t + 1) j → (j + 1 ≤ eg D ∧ nI (j + 1) = nI (j + 1) ∧ (∀ k, k ≠ 28 → (nb_st s3 28 j (nI g')) k = s2 k) ∧ ∃ G', (∀ k, k < eg D → (nb_st s3 28 j (nI g')) 28 k = nI (G' k)) ∧ (∀ k, k < j + 1 → egs D z' G' (t + 1) k) ∧ ∀ k, j + 1 ≤ k → G' k = G k) := fun g' c => by
            refine ⟨by omega, rfl, fun k hk => by rw [nb_st_k hk]; exact p1 k hk, us G' j g', fun k hk => ?_, keep g' c, fun k hk => by rw [us_n (by omega)]; exact p4 k (by omega)⟩
            by_cases hkj : k = j
            · subst hkj; rw [nb_st_s, us_s]
            · rw [nb_st_n (Or.inr hkj), us_n hkj]; exact p2 k hk
          have hGj : ∀ g', us G' j g' j = g' := fun g' => us_s
          refine ⟨hlt, ?_⟩
          by_cases cz : z' (eP D j) = 1000000
          · have hd : (nI (z' (eP D j)) = nI 1000000) = True := eq_true (by rw [cz])
            refine ⟨nI (j + 1), nb_st s3 28 j (nI (G j)), fin _ ?_, ?_⟩
            · unfold egs
              rw [hGj]
              left
              refine ⟨?_, fun u hu => by omega⟩
              rcases r5 with ⟨r5, -⟩ | ⟨r5, r6, -⟩
              · exact r5
              · rcases hrel j hlt with q | q <;> omega
            · simp (disch := omega) only [pn_g, pu_b1, pn_b2, pn_leT, pn_leF, pn_ltT, pn_ltF, pn_eqT, pn_eqF, pu_in, pu_ix, nI_add, pk_mul, pk_sub, ↓reduceIte, Bool.false_eq_true, if_false, if_true, nb_st_s, nb_st_k, nb_st_n, nb_sa_s, nb_sa_n, pL0, pL1, pL2, pL3, pL4, pL5, pL6, pL7, pL8, pL9, pL10, pL11, pL12, pL13, pL15, pL20, pL30, pL99, pL100, pL180, pL240, pL255, pL350, pL359, pL719, pL720, pL999, pL9999, pL99999, pL100000, pL1000000, nb_let, e2, e3, e27, e28, hd]
          · have cz2 : z' (eP D j) < 1000 := by omega
            by_cases cg : G j = 1000000
            · have hd : (nI (G j) = nI 1000000) = True := eq_true (by rw [cg])
              have cz3 : z' (eP D j) < t + 1 := by
                rcases hin' j hlt with ⟨q, -⟩ | ⟨q, -⟩ <;> omega
              have r6 : ∀ u, z' (eP D j) ≤ u → u < t → ¬ eou D z' u := fun u u1 u2 => by
                rcases r5 with ⟨-, r6⟩ | ⟨r6, -⟩
                · rw [← hec u u2]
                  rcases hrel j hlt with q | q
                  · exact r6 u (by omega) u2
                  · omega
                · omega
              by_cases ch : t - l' < eH D
              · refine ⟨nI (j + 1), nb_st s3 28 j (nI (G j)), fin _ ?_, ?_⟩
                · unfold egs
                  rw [hGj]
                  left
                  refine ⟨cg, fun u u1 u2 q => ?_⟩
                  by_cases hut : u = t
                  · subst hut
                    have := (hou j hlt cz3).mpr q
                    omega
                  · exact r6 u u1 (by omega) q
                · simp (disch := omega) only [pn_g, pu_b1, pn_b2, pn_leT, pn_leF, pn_ltT, pn_ltF, pn_eqT, pn_eqF, pu_in, pu_ix, nI_add, pk_mul, pk_sub, ↓reduceIte, Bool.false_eq_true, if_false, if_true, nb_st_s, nb_st_k, nb_st_n, nb_sa_s, nb_sa_n, pL0, pL1, pL2, pL3, pL4, pL5, pL6, pL7, pL8, pL9, pL10, pL11, pL12, pL13, pL15, pL20, pL30, pL99, pL100, pL180, pL240, pL255, pL350, pL359, pL719, pL720, pL999, pL9999, pL99999, pL100000, pL1000000, nb_let, e2, e3, e11, e27, e28, hd]
              · refine ⟨nI (j + 1), nb_st s3 28 j (nI t), fin _ ?_, ?_⟩
                · unfold egs
                  rw [hGj]
                  right
                  exact ⟨by omega, by omega, (hou j hlt cz3).mp (by omega), fun u u1 u2 => r6 u u1 u2⟩
                · simp (disch := omega) only [pn_g, pu_b1, pn_b2, pn_leT, pn_leF, pn_ltT, pn_ltF, pn_eqT, pn_eqF, pu_in, pu_ix, nI_add, pk_mul, pk_sub, ↓reduceIte, Bool.false_eq_true, if_false, if_true, nb_st_s, nb_st_k, nb_st_n, nb_sa_s, nb_sa_n, pL0, pL1, pL2, pL3, pL4, pL5, pL6, pL7, pL8, pL9, pL10, pL11, pL12, pL13, pL15, pL20, pL30, pL99, pL100, pL180, pL240, pL255, pL350, pL359, pL719, pL720, pL999, pL9999, pL99999, pL100000, pL1000000, nb_let, e2, e3, e11, e27, e28, hd]
            · have cg2 : G j < t := by
                rcases r5 with ⟨r5, -⟩ | ⟨r5, -⟩
                · exact absurd r5 cg
                · exact r5
              refine ⟨nI (j + 1), nb_st s3 28 j (nI (G j)), fin _ ?_, ?_⟩
              · unfold egs
                rw [hGj]
                rcases r5 with ⟨r5, -⟩ | ⟨r5, r6, r7, r8⟩
                · exact absurd r5 cg
                · right
                  have hzz : z (eP D j) = z' (eP D j) := by
                    rcases hrel j hlt with q | q <;> omega
                  rw [← hzz]
                  refine ⟨by omega, r6, (hec _ cg2).mp r7, fun u u1 u2 q => r8 u u1 u2 ((hec u (by omega)).mpr q)⟩
              · simp (disch := omega) only [pn_g, pu_b1, pn_b2, pn_leT, pn_leF, pn_ltT, pn_ltF, pn_eqT, pn_eqF, pu_in, pu_ix, nI_add, pk_mul, pk_sub, ↓reduceIte, Bool.false_eq_true, if_false, if_true, nb_st_s, nb_st_k, nb_st_n, nb_sa_s, nb_sa_n, pL0, pL1, pL2, pL3, pL4, pL5, pL6, pL7, pL8, pL9, pL10, pL11, pL12, pL13, pL15, pL20, pL30, pL99, pL100, pL180, pL240, pL255, pL350, pL359, pL719, pL720, pL999, pL9999, pL99999, pL100000, pL1000000, nb_let, e2, e3, e11, e27, e28]
        · left
          have : j = eg D := by omega
          subst this
          refine ⟨nI l', nI (t + 1), s3, ⟨by omega, rfl, fun k k1 k2 => by rw [p1 k k2, q1 k k1]; exact fs k k1 k2, z', G', l', fun p hp => by rw [p1 27 (by decide)]; exact y1 p hp, y2, hin', rfl, m2, m3, p2, p3⟩, ?_⟩
          simp (disch := omega) only [pn_g, pu_b1, pn_b2, pn_leT, pn_leF, pn_ltT, pn_ltF, pn_eqT, pn_eqF, pu_in, pu_ix, nI_add, pk_mul, pk_sub, ↓reduceIte, Bool.false_eq_true, if_false, if_true, nb_st_s, nb_st_k, nb_st_n, nb_sa_s, nb_sa_n, pL0, pL1, pL2, pL3, pL4, pL5, pL6, pL7, pL8, pL9, pL10, pL11, pL12, pL13, pL15, pL20, pL30, pL99, pL100, pL180, pL240, pL255, pL350, pL359, pL719, pL720, pL999, pL9999, pL99999, pL100000, pL1000000, nb_let, e2]
      refine nb_c2 (K := fun v => ∃ b0 b1 b2, eri τ D (t + 1) b0 b1 b2 ∧ v = ag b0 b1 b2) (I := fun j x w => j ≤ 4 ∧ w = nI j ∧ ∃ f, x = bm f ∧ ∀ p, p < 4 → (f p = true ↔ p < j ∧ Now p)) 4 ?_ (by omega) ⟨by omega, rfl, fun _ => false, bm_none.symm, fun p hp => ⟨fun q => absurd (show false = true from q) (by decide), fun q => absurd q.1 (by omega)⟩⟩
      rintro ag3 j x w ⟨hj, rfl, f, rfl, hf⟩
      by_cases hlt : j < 4
      · by_cases ht7 : t ≤ 719
        · right
          refine ⟨hlt, ?_⟩
          have r1 := z1 j hlt
          have r2 := z2 j hlt
          by_cases cz : z j = 1000000
          · have hd : (nI (z j) = nI 1000000) = True := eq_true (by rw [cz])
            obtain ⟨v, v1, v2⟩ := pw_stands (N := N) (p := j) (t := t) (by omega) (er_f h fs) z1 z2b (by omega) hlt (fun k hk hp => by
              by_cases cB : t ≤ eB D
              · exact cB
              · rcases hin k hk with ⟨q, -⟩ | ⟨-, q⟩
                · rw [hp, cz] at q; omega
                · exact absurd (Or.inl rfl) (q (eB D) (by omega)))
            rcases v2 with ⟨rfl, v2⟩ | ⟨rfl, v2⟩
            · refine ⟨bm (fun q => f q || j == q), nI (j + 1), ⟨by omega, rfl, _, rfl, fun p hp => ?_⟩, ?_⟩
              · show (f p || j == p) = true ↔ _
                rw [Bool.or_eq_true, hf p hp, beq_iff_eq]
                constructor
                · rintro (q | q)
                  · exact ⟨by omega, q.2⟩
                  · subst q
                    rw [hNow]
                    exact ⟨by omega, ht7, cz, v2.1, v2.2⟩
                · rintro ⟨x1, x2⟩
                  by_cases hpj : p = j
                  · exact Or.inr hpj.symm
                  · exact Or.inl ⟨by omega, x2⟩
              · simp (disch := omega) only [pn_g, pu_b1, pn_b2, pn_leT, pn_leF, pn_ltT, pn_ltF, pn_eqT, pn_eqF, pu_in, pu_ix, nI_add, pk_mul, pk_sub, ↓reduceIte, Bool.false_eq_true, if_false, if_true, nb_st_s, nb_st_k, nb_st_n, nb_sa_s, nb_sa_n, pL0, pL1, pL2, pL3, pL4, pL5, pL6, pL7, pL8, pL9, pL10, pL11, pL12, pL13, pL15, pL20, pL30, pL99, pL100, pL180, pL240, pL255, pL350, pL359, pL719, pL720, pL999, pL9999, pL99999, pL100000, pL1000000, nb_let, r1, hd, v1, bm_or]
            · refine ⟨bm f, nI (j + 1), ⟨by omega, rfl, _, rfl, fun p hp => ?_⟩, ?_⟩
              · rw [hf p hp]
                constructor
                · rintro ⟨x1, x2⟩; exact ⟨by omega, x2⟩
                · rintro ⟨x1, x2⟩
                  by_cases hpj : p = j
                  · subst hpj
                    rw [hNow] at x2
                    exact absurd ⟨x2.2.2.1, x2.2.2.2⟩ v2
                  · exact ⟨by omega, x2⟩
              · simp (disch := omega) only [pn_g, pu_b1, pn_b2, pn_leT, pn_leF, pn_ltT, pn_ltF, pn_eqT, pn_eqF, pu_in, pu_ix, nI_add, pk_mul, pk_sub, ↓reduceIte, Bool.false_eq_true, if_false, if_true, nb_st_s, nb_st_k, nb_st_n, nb_sa_s, nb_sa_n, pL0, pL1, pL2, pL3, pL4, pL5, pL6, pL7, pL8, pL9, pL10, pL11, pL12, pL13, pL15, pL20, pL30, pL99, pL100, pL180, pL240, pL255, pL350, pL359, pL719, pL720, pL999, pL9999, pL99999, pL100000, pL1000000, nb_let, r1, hd, v1, bm_or0]
          · refine ⟨bm f, nI (j + 1), ⟨by omega, rfl, _, rfl, fun p hp => ?_⟩, ?_⟩
            · rw [hf p hp]
              constructor
              · rintro ⟨x1, x2⟩; exact ⟨by omega, x2⟩
              · rintro ⟨x1, x2⟩
                by_cases hpj : p = j
                · subst hpj
                  rw [hNow] at x2
                  exact absurd x2.2.1 cz
                · exact ⟨by omega, x2⟩
            · simp (disch := omega) only [pn_g, pu_b1, pn_b2, pn_leT, pn_leF, pn_ltT, pn_ltF, pn_eqT, pn_eqF, pu_in, pu_ix, nI_add, pk_mul, pk_sub, ↓reduceIte, Bool.false_eq_true, if_false, if_true, nb_st_s, nb_st_k, nb_st_n, nb_sa_s, nb_sa_n, pL0, pL1, pL2, pL3, pL4, pL5, pL6, pL7, pL8, pL9, pL10, pL11, pL12, pL13, pL15, pL20, pL30, pL99, pL100, pL180, pL240, pL255, pL350, pL359, pL719, pL720, pL999, pL9999, pL99999, pL100000, pL1000000, nb_let, r1, bm_or0]
        · left
          have hf' : ∀ p, p < 4 → (f p = true ↔ Now p) := fun p hp => by
            rw [hf p hp, hNow]
            constructor
            · intro q; exact q.2
            · intro q; exact absurd q.1 ht7
          simp only [nb_let]
          rw [if_neg (show ¬ (4 : Int32) ≤ nI j from nI_ge (b := 4) hlt (by omega)), if_pos (show (719 : Int32) < nI t from nI_lt (a := 719) (by omega) (by omega))]
          clear hf hlt hj
          refine nb_c2 (K := fun v => ∃ b0 b1 b2, eri τ D (t + 1) b0 b1 b2 ∧ v = ag b0 b1 b2) (I := fun j w s2 => j ≤ 4 ∧ w = nI j ∧ (∀ k, k ≠ 27 → s2 k = s k) ∧ ∀ p, p < 4 → s2 27 p = if p < j ∧ f p = true then nI t else nI (z p)) 4 ?_ (by omega) ⟨by omega, rfl, fun _ _ => rfl, fun p hp => by rw [if_neg (by omega)]; exact z1 p hp⟩
          rintro ag4 j w s2 ⟨hj, rfl, q1, q2⟩
          by_cases hlt : j < 4
          · right
            have hh := pw_has (N := N) (τ := s2) (f := f) hlt
            have q3 := q2 j hlt
            rw [if_neg (by omega)] at q3
            refine ⟨hlt, nI (j + 1), nb_st s2 27 j (if f j = true then nI t else nI (z j)), ⟨by omega, rfl, fun k hk => by rw [nb_st_k hk]; exact q1 k hk, fun p hp => ?_⟩, ?_⟩
            · by_cases hpj : p = j
              · subst hpj
                rw [nb_st_s]
                exact pn_ite ⟨fun e => ⟨by omega, e⟩, fun e => e.2⟩
              · rw [nb_st_n (Or.inr hpj), q2 p hp]
                exact pn_ite ⟨fun e => ⟨by omega, e.2⟩, fun e => ⟨by omega, e.2⟩⟩
            · by_cases c : f j = true
              · rw [if_pos c] at hh ⊢
                simp (disch := omega) only [pn_g, pu_b1, pn_b2, pn_leT, pn_leF, pn_ltT, pn_ltF, pn_eqT, pn_eqF, pu_in, pu_ix, nI_add, pk_mul, pk_sub, ↓reduceIte, Bool.false_eq_true, if_false, if_true, nb_st_s, nb_st_k, nb_st_n, nb_sa_s, nb_sa_n, pL0, pL1, pL2, pL3, pL4, pL5, pL6, pL7, pL8, pL9, pL10, pL11, pL12, pL13, pL15, pL20, pL30, pL99, pL100, pL180, pL240, pL255, pL350, pL359, pL719, pL720, pL999, pL9999, pL99999, pL100000, pL1000000, hh]
              · rw [if_neg c] at hh ⊢
                simp (disch := omega) only [pn_g, pu_b1, pn_b2, pn_leT, pn_leF, pn_ltT, pn_ltF, pn_eqT, pn_eqF, pu_in, pu_ix, nI_add, pk_mul, pk_sub, ↓reduceIte, Bool.false_eq_true, if_false, if_true, nb_st_s, nb_st_k, nb_st_n, nb_sa_s, nb_sa_n, pL0, pL1, pL2, pL3, pL4, pL5, pL6, pL7, pL8, pL9, pL10, pL11, pL12, pL13, pL15, pL20, pL30, pL99, pL100, pL180, pL240, pL255, pL350, pL359, pL719, pL720, pL999, pL9999, pL99999, pL100000, pL1000000, hh, q3]
          · left
            have : j = 4 := by omega
            subst this
            rw [if_pos (show (4 : Int32) ≤ nI 4 by decide)]
            have q3 : ∀ p, p < 4 → s2 27 p = if f p = true then nI t else nI (z p) := fun p hp => by
              rw [q2 p hp]
              exact pn_ite ⟨fun e => e.2, fun e => ⟨hp, e⟩⟩
            by_cases c : bm f = 0
            · rw [if_pos c]
              exact hmain f hf' (nI l) (by rw [if_pos c]) s2 q1 q3
            · rw [if_neg c]
              exact hmain f hf' (nI t) (by rw [if_neg c]) s2 q1 q3
      · left
        have : j = 4 := by omega
        subst this
        have hf' : ∀ p, p < 4 → (f p = true ↔ Now p) := fun p hp => by
          rw [hf p hp]
          exact ⟨fun q => q.2, fun q => ⟨hp, q⟩⟩
        simp only [nb_let]
        rw [if_pos (show (4 : Int32) ≤ nI 4 by decide)]
        clear hf hlt hj
        refine nb_c2 (K := fun v => ∃ b0 b1 b2, eri τ D (t + 1) b0 b1 b2 ∧ v = ag b0 b1 b2) (I := fun j w s2 => j ≤ 4 ∧ w = nI j ∧ (∀ k, k ≠ 27 → s2 k = s k) ∧ ∀ p, p < 4 → s2 27 p = if p < j ∧ f p = true then nI t else nI (z p)) 4 ?_ (by omega) ⟨by omega, rfl, fun _ _ => rfl, fun p hp => by rw [if_neg (by omega)]; exact z1 p hp⟩
        rintro ag4 j w s2 ⟨hj, rfl, q1, q2⟩
        by_cases hlt : j < 4
        · right
          have hh := pw_has (N := N) (τ := s2) (f := f) hlt
          have q3 := q2 j hlt
          rw [if_neg (by omega)] at q3
          refine ⟨hlt, nI (j + 1), nb_st s2 27 j (if f j = true then nI t else nI (z j)), ⟨by omega, rfl, fun k hk => by rw [nb_st_k hk]; exact q1 k hk, fun p hp => ?_⟩, ?_⟩
          · by_cases hpj : p = j
            · subst hpj
              rw [nb_st_s]
              exact pn_ite ⟨fun e => ⟨by omega, e⟩, fun e => e.2⟩
            · rw [nb_st_n (Or.inr hpj), q2 p hp]
              exact pn_ite ⟨fun e => ⟨by omega, e.2⟩, fun e => ⟨by omega, e.2⟩⟩
          · by_cases c : f j = true
            · rw [if_pos c] at hh ⊢
              simp (disch := omega) only [pn_g, pu_b1, pn_b2, pn_leT, pn_leF, pn_ltT, pn_ltF, pn_eqT, pn_eqF, pu_in, pu_ix, nI_add, pk_mul, pk_sub, ↓reduceIte, Bool.false_eq_true, if_false, if_true, nb_st_s, nb_st_k, nb_st_n, nb_sa_s, nb_sa_n, pL0, pL1, pL2, pL3, pL4, pL5, pL6, pL7, pL8, pL9, pL10, pL11, pL12, pL13, pL15, pL20, pL30, pL99, pL100, pL180, pL240, pL255, pL350, pL359, pL719, pL720, pL999, pL9999, pL99999, pL100000, pL1000000, hh]
            · rw [if_neg c] at hh ⊢
              simp (disch := omega) only [pn_g, pu_b1, pn_b2, pn_leT, pn_leF, pn_ltT, pn_ltF, pn_eqT, pn_eqF, pu_in, pu_ix, nI_add, pk_mul, pk_sub, ↓reduceIte, Bool.false_eq_true, if_false, if_true, nb_st_s, nb_st_k, nb_st_n, nb_sa_s, nb_sa_n, pL0, pL1, pL2, pL3, pL4, pL5, pL6, pL7, pL8, pL9, pL10, pL11, pL12, pL13, pL15, pL20, pL30, pL99, pL100, pL180, pL240, pL255, pL350, pL359, pL719, pL720, pL999, pL9999, pL99999, pL100000, pL1000000, hh, q3]
        · left
          have : j = 4 := by omega
          subst this
          rw [if_pos (show (4 : Int32) ≤ nI 4 by decide)]
          have q3 : ∀ p, p < 4 → s2 27 p = if f p = true then nI t else nI (z p) := fun p hp => by
            rw [q2 p hp]
            exact pn_ite ⟨fun e => e.2, fun e => ⟨hp, e⟩⟩
          by_cases c : bm f = 0
          · rw [if_pos c]
            exact hmain f hf' (nI l) (by rw [if_pos c]) s2 q1 q3
          · rw [if_neg c]
            exact hmain f hf' (nI t) (by rw [if_neg c]) s2 q1 q3
    · left
      have : t = 720 + eH D := by omega
      subst this
      refine ⟨s, ?_, z, G, fs, z1, fun p hp => by have := z2 p hp; omega, G1, ein_fin hin (by omega), fun k hk => ?_⟩
      · rw [nb_g_t (show nb_in (0 : Int32) 2 = true by decide), show nb_ix (0 : Int32) = 0 from rfl, s11, show (719 : Int32) + nI (eH D) = nI (719 + eH D) from nI_add 719 _, if_pos (nI_lt (by omega) (by omega))]
      · have hf := ein_fin hin (by omega)
        rcases G2 k hk with ⟨-, q⟩ | ⟨-, q⟩
        · have hk1 := (hf k hk).1
          exact absurd (fun i hi _ => by have := (hf i hi).1; omega) (q (719 + eH D) (by omega) (by omega))
        · exact q
  · refine ⟨by omega, rfl, fun k k1 k2 => by rw [g1 k k2]; exact f1 k k1, fun _ => 1000000, fun _ => 1000000, 0, fun p hp => by rw [g1 27 (by decide)]; exact f2 p hp, fun p hp => Or.inl rfl, ?_, rfl, fun k hk q => absurd q (by omega), Or.inl ⟨rfl, fun k hk => by omega⟩, fun k hk => g2 k (by omega), fun k hk => Or.inl ⟨rfl, fun u hu q => absurd q (by omega)⟩⟩
    intro k hk
    right
    exact ⟨by show 1000 ≤ 1000000; omega, fun t ht => absurd ht (by omega)⟩
end
