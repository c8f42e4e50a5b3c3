theorem pu_addSign {N : Nat} {σ : nb_St} {q a : Nat} {m v : Int32} (h : σ q 0 = nI a) (ha : a < 6) : fX6_addSign N σ q m v = some (1, nb_st (nb_st (nb_st σ (q + 1) a m) (q + 2) a v) q 0 (nI (a + 1))) := by
  have e1 : nb_st σ (q + 1) a m q 0 = nI a := by rw [nb_st_k (by omega)]; exact h
  have e2 : nb_st (nb_st σ (q + 1) a m) (q + 2) a v q 0 = nI a := by rw [nb_st_k (by omega)]; exact e1
  have hi : nb_ix (nI a) = a := pu_ix (by omega)
  have hg : nb_in (nI a) 6 = true := pu_in ha (by decide)
  simp only [fX6_addSign, nb_let]
  rw [h, if_pos (show nI a < (6 : Int32) from nI_lt ha (by decide)), nb_g_t hg, hi, e1, nb_g_t hg, hi, e2, nI_1]
theorem pu_addSignF {N : Nat} {σ : nb_St} {q : Nat} {m v : Int32} (h : σ q 0 = nI 6) : fX6_addSign N σ q m v = some (0, σ) := by
  simp only [fX6_addSign, nb_let]
  rw [h, if_neg (by decide)]
theorem pu_addWord {N : Nat} {σ : nb_St} {q a : Nat} {m : Int32} (h : σ q 3 = nI a) (ha : a < 4) : fX6_addWord N σ q m = some (1, nb_st (nb_st σ (q + 3) a m) q 3 (nI (a + 1))) := by
  have e1 : nb_st σ (q + 3) a m q 3 = nI a := by rw [nb_st_k (by omega)]; exact h
  have hi : nb_ix (nI a) = a := pu_ix (by omega)
  have hg : nb_in (nI a) 4 = true := pu_in ha (by decide)
  simp only [fX6_addWord, nb_let]
  rw [h, if_pos (show nI a < (4 : Int32) from nI_lt ha (by decide)), nb_g_t hg, hi, e1, nI_1]
theorem pu_addWordF {N : Nat} {σ : nb_St} {q : Nat} {m : Int32} (h : σ q 3 = nI 4) : fX6_addWord N σ q m = some (0, σ) := by
  simp only [fX6_addWord, nb_let]
  rw [h, if_neg (by decide)]
theorem pu_note7 {N : Nat} {σ : nb_St} {d : Nat} {b : Int32} (h : σ 69 1 = nI d) (hd : d < 8) : fX3_note N σ b = some (nb_st (nb_st σ 70 d (vp_nar .boolean b)) 69 1 (nI (d + 1))) := by
  have e1 : nb_st σ 70 d (vp_nar .boolean b) 69 1 = nI d := by rw [nb_st_k (by decide)]; exact h
  have hi : nb_ix (nI d) = d := pu_ix (by omega)
  have hg : nb_in (nI d) 8 = true := pu_in hd (by decide)
  simp only [fX3_note, nb_let]
  rw [h, if_pos (show nI d < (8 : Int32) from nI_lt hd (by decide)), nb_g_t hg, hi, e1, nI_1]
def pu_sh (f : Nat → Int32) (g : Int32 → Int32) (j : Nat) : Nat → Int32 := fun k => if k < j then g (f (k + 1)) else f k
theorem pu_sh0 {σ : nb_St} {k : Nat} {g : Int32 → Int32} : nb_sa σ k (pu_sh (σ k) g 0) = σ := by
  funext a
  by_cases h : a = k
  · subst h; rw [nb_sa_s]; funext b; simp [pu_sh]
  · rw [nb_sa_n h]
theorem pu_shs {σ : nb_St} {k j : Nat} {g : Int32 → Int32} : nb_st (nb_sa σ k (pu_sh (σ k) g j)) k j (g (nb_sa σ k (pu_sh (σ k) g j) k (j + 1))) = nb_sa σ k (pu_sh (σ k) g (j + 1)) := by
  funext a b
  by_cases h : a = k
  · subst h
    rw [nb_sa_s, nb_sa_s]
    by_cases hb : b = j
    · subst hb
      rw [nb_st_s]
      unfold pu_sh
      rw [if_neg (by omega), if_pos (by omega)]
    · rw [nb_st_n (Or.inr hb), nb_sa_s]
      unfold pu_sh
      by_cases h1 : b < j
      · rw [if_pos h1, if_pos (by omega)]
      · rw [if_neg h1, if_neg (by omega)]
  · rw [nb_st_n (Or.inl h), nb_sa_n h, nb_sa_n h]
theorem pu_note7F {N : Nat} (hN : 8 ≤ N) {σ : nb_St} {b : Int32} (h : σ 69 1 = nI 8) : fX3_note N σ b = some (nb_st (nb_st (nb_st (nb_sa σ 70 (pu_sh (σ 70) (vp_nar .boolean) 7)) 69 1 (nI 7)) 70 7 (vp_nar .boolean b)) 69 1 (nI 8)) := by
  simp only [fX3_note, nb_let]
  rw [h, if_neg (by decide)]
  have hl := nb_s2 (R := nb_St) (f := fun ag10 (x8 : Int32) (σ9 : nb_St) => if (8 : Int32) ≤ x8 then nb_g (nb_in (nb_st σ9 69 1 (7 : Int32) 69 1) 8) (some (nb_st (nb_st (nb_st σ9 69 1 (7 : Int32)) 70 (nb_ix (nb_st σ9 69 1 (7 : Int32) 69 1)) (vp_nar .boolean b)) 69 1 ((nb_st (nb_st σ9 69 1 (7 : Int32)) 70 (nb_ix (nb_st σ9 69 1 (7 : Int32) 69 1)) (vp_nar .boolean b)) 69 1 + 1))) else nb_g (nb_in x8 8) (nb_g (nb_in (x8 - 1) 8) (ag10 (x8 + 1) (nb_st σ9 70 (nb_ix (x8 - 1)) (vp_nar .boolean (σ9 70 (nb_ix x8)))))))
    (r := some (nb_st (nb_st (nb_st (nb_sa σ 70 (pu_sh (σ 70) (vp_nar .boolean) 7)) 69 1 (nI 7)) 70 7 (vp_nar .boolean b)) 69 1 (nI 8)))
    7 (fun j => nI (j + 1)) (fun j => nb_sa σ 70 (pu_sh (σ 70) (vp_nar .boolean) j)) ?_ ?_ N (by omega)
  · rw [pu_sh0] at hl
    exact hl
  · intro ag j hj
    have i1 : nb_ix (nI (j + 1)) = j + 1 := pu_ix (by omega)
    have i2 : nb_ix (nI j) = j := pu_ix (by omega)
    show (if (8 : Int32) ≤ nI (j + 1) then _ else _) = _
    rw [if_neg (show ¬ (8 : Int32) ≤ nI (j + 1) from nI_ge (b := 8) (by omega) (by decide)), nb_g_t (pu_in (by omega) (by decide)), show nI (j + 1) - 1 = nI j from nI_pred j, nb_g_t (pu_in (by omega) (by decide)), i1, i2, pu_shs, nI_1]
  · intro ag
    show (if (8 : Int32) ≤ nI (7 + 1) then _ else _) = _
    rw [if_pos (by decide), nb_st_s, nb_g_t (by decide)]
    rw [show nb_ix (7 : Int32) = 7 from rfl, nb_st_k (by decide), nb_st_s]
    rfl
theorem pu_note8 {N : Nat} {τ : nb_St} {d : Nat} {b : Int32} (h : τ 0 25 = nI d) (hd : d < 8) : fX8_note N τ b = some (nb_st (nb_st τ 24 d b) 0 25 (nI (d + 1))) := by
  have e1 : nb_st τ 24 d b 0 25 = nI d := by rw [nb_st_k (by decide)]; exact h
  have hi : nb_ix (nI d) = d := pu_ix (by omega)
  have hg : nb_in (nI d) 8 = true := pu_in hd (by decide)
  have hne : ¬ nI d = (8 : Int32) := fun e => by
    have := (nI_eq (a := d) (b := 8) (by omega) (by decide)).mp e
    omega
  simp only [fX8_note, nb_let]
  rw [h, if_neg hne, nb_g_t hg, hi, e1, nI_1]
theorem pu_note8F {N : Nat} (hN : 8 ≤ N) {τ : nb_St} {b : Int32} (h : τ 0 25 = nI 8) : fX8_note N τ b = some (nb_st (nb_st (nb_st (nb_sa τ 24 (pu_sh (τ 24) id 7)) 0 25 (nI 7)) 24 7 b) 0 25 (nI 8)) := by
  simp only [fX8_note, nb_let]
  rw [h, if_pos (by decide)]
  have hl := nb_s2 (R := nb_St) (f := fun ag10 (x8 : Int32) (σ9 : nb_St) => if (8 : Int32) ≤ x8 then nb_g (nb_in (nb_st σ9 0 25 (σ9 0 25 - 1) 0 25) 8) (some (nb_st (nb_st (nb_st σ9 0 25 (σ9 0 25 - 1)) 24 (nb_ix (nb_st σ9 0 25 (σ9 0 25 - 1) 0 25)) b) 0 25 ((nb_st (nb_st σ9 0 25 (σ9 0 25 - 1)) 24 (nb_ix (nb_st σ9 0 25 (σ9 0 25 - 1) 0 25)) b) 0 25 + 1))) else nb_g (nb_in x8 8) (nb_g (nb_in (x8 - 1) 8) (ag10 (x8 + 1) (nb_st σ9 24 (nb_ix (x8 - 1)) (σ9 24 (nb_ix x8))))))
    (r := some (nb_st (nb_st (nb_st (nb_sa τ 24 (pu_sh (τ 24) id 7)) 0 25 (nI 7)) 24 7 b) 0 25 (nI 8)))
    7 (fun j => nI (j + 1)) (fun j => nb_sa τ 24 (pu_sh (τ 24) id j)) ?_ ?_ N (by omega)
  · rw [pu_sh0] at hl
    exact hl
  · intro ag j hj
    have i1 : nb_ix (nI (j + 1)) = j + 1 := pu_ix (by omega)
    have i2 : nb_ix (nI j) = j := pu_ix (by omega)
    have hs := pu_shs (σ := τ) (k := 24) (j := j) (g := id)
    show (if (8 : Int32) ≤ nI (j + 1) then _ else _) = _
    rw [if_neg (show ¬ (8 : Int32) ≤ nI (j + 1) from nI_ge (b := 8) (by omega) (by decide)), nb_g_t (pu_in (by omega) (by decide)), show nI (j + 1) - 1 = nI j from nI_pred j, nb_g_t (pu_in (by omega) (by decide)), i1, i2, nI_1]
    exact congrArg (ag (nI (j + 1 + 1))) hs
  · intro ag
    have e0 : nb_sa τ 24 (pu_sh (τ 24) id 7) 0 25 = nI 8 := by rw [nb_sa_n (by decide)]; exact h
    show (if (8 : Int32) ≤ nI (7 + 1) then _ else _) = _
    rw [if_pos (by decide), e0, show nI 8 - 1 = nI 7 from nI_pred 7, nb_st_s, nb_g_t (by decide)]
    rw [show nb_ix (nI 7) = 7 from rfl, nb_st_k (by decide), nb_st_s]
    rfl
