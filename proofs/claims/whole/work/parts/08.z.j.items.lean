theorem pL48 : (48 : Int32) = nI 48 := rfl
theorem pL57 : (57 : Int32) = nI 57 := rfl
theorem pL60 : (60 : Int32) = nI 60 := rfl
theorem pL98 : (98 : Int32) = nI 98 := rfl
theorem pL101 : (101 : Int32) = nI 101 := rfl
theorem pL102 : (102 : Int32) = nI 102 := rfl
theorem pL103 : (103 : Int32) = nI 103 := rfl
theorem pL104 : (104 : Int32) = nI 104 := rfl
theorem pL105 : (105 : Int32) = nI 105 := rfl
theorem pL106 : (106 : Int32) = nI 106 := rfl
theorem pL107 : (107 : Int32) = nI 107 := rfl
theorem pL108 : (108 : Int32) = nI 108 := rfl
theorem pL109 : (109 : Int32) = nI 109 := rfl
theorem pL110 : (110 : Int32) = nI 110 := rfl
theorem pL111 : (111 : Int32) = nI 111 := rfl
theorem pL112 : (112 : Int32) = nI 112 := rfl
theorem pL113 : (113 : Int32) = nI 113 := rfl
theorem pL114 : (114 : Int32) = nI 114 := rfl
theorem pL115 : (115 : Int32) = nI 115 := rfl
theorem pL116 : (116 : Int32) = nI 116 := rfl
theorem pL117 : (117 : Int32) = nI 117 := rfl
theorem pL118 : (118 : Int32) = nI 118 := rfl
theorem pL119 : (119 : Int32) = nI 119 := rfl
theorem pL120 : (120 : Int32) = nI 120 := rfl
theorem pL121 : (121 : Int32) = nI 121 := rfl
theorem pL199 : (199 : Int32) = nI 199 := rfl
section
theorem pr_min {N : Nat} {s : nb_St} {v : Nat} (hv : v ≤ 999) : fX8_isMinute N s (nI v) = some (if v ≤ 359 then nI 1 else nI 0) := by
  rw [pu_isMinute]
  congr 1
  have : ((0 : Int32) ≤ nI v ∧ nI v ≤ 359) ↔ v ≤ 359 := ⟨fun q => (nI_leI (b := 359) (by omega) (by omega)).mp q.2, fun q => ⟨nI_pos' (by omega), nI_le (b := 359) q (by omega)⟩⟩
  exact pn_ite this
theorem pr_in99 {N : Nat} {s : nb_St} {v : Nat} (hv : v ≤ 999) : fX8_in N s (nI v).toInt64 (1 : Int64) (99 : Int64) = some (if 1 ≤ v ∧ v ≤ 99 then nI 1 else nI 0) := pr_in48 (lo := 1) (hi := 99) (by decide) (by decide) (by omega) (by omega) (by omega)
theorem pr_in3 {N : Nat} {s : nb_St} {v : Nat} (hv : v ≤ 999) : fX8_in N s (nI v).toInt64 (1 : Int64) (3 : Int64) = some (if 1 ≤ v ∧ v ≤ 3 then nI 1 else nI 0) := pr_in48 (lo := 1) (hi := 3) (by decide) (by decide) (by omega) (by omega) (by omega)
theorem tx_p {σ τ : nb_St} {n : Nat} {B : Nat → Nat} {v : Int32} (h : tx σ τ n B) : tx σ (nb_st τ 0 27 v) n B := by
  unfold tx at *
  rw [nb_st_n (by decide), nb_st_k (by decide)]
  exact h
theorem i8_g {N : Nat} {σ τ : nb_St} {n k : Nat} {B : Nat → Nat} (hN : 10 < N) (ht : tx σ τ n B) (hk : τ 0 27 = nI k) (hkn : k < n) (hb : B k = 103) {g : Nat} (hc : τ 2 1 = nI g) (hc8 : g ≤ 8) : (∃ τ', fX8_item N τ = some (nI 0, τ') ∧ rff τ τ' ∧ ∀ v k', okr B n 4 (k + 1) 0 v k' → ¬ (g < 8)) ∨ ∃ v k' τf, okr B n 4 (k + 1) 0 v k' ∧ (g < 8) ∧ rff τ τf ∧ τf 0 27 = nI k' ∧ fX8_item N τ = some (nI 1, nb_st (nb_st (nb_st (nb_st (nb_st τf 3 (8 + g) (nI (v 0))) 4 (8 + g) (nI (v 1))) 5 (8 + g) (nI (v 2))) 6 (8 + g) (nI (v 3))) 2 1 (nI (g + 1))) := by
  have n4 := ht.1
  have hby : fX8_byteAt N τ (nI k) = some (nI 103) := by
    have := pr_byteAt (N := N) (k := k) ht rff_r (by omega)
    unfold bA at this
    rw [if_pos hkn, hb] at this
    exact this
  obtain ⟨⟨x, τf⟩, e1, e2, e3⟩ := pr_fig8 (N := N) (m := 4) (k0 := k + 1) hN (tx_p (v := nI (k + 1)) ht) nb_st_s (by omega) (by omega) (by omega)
  have e9 : rff τ τf := rff_t rff_p (show rff (nb_st τ 0 27 (nI (k + 1))) τf from e2)
  clear e2
  have e1 : fX8_figures N (nb_st τ 0 27 (nI (k + 1))) (4 : Int32) = some (x, τf) := e1
  have n0 : nb_01 (nI 0) = true := rfl
  have n1 : nb_01 (nI 1) = true := rfl
  unfold fX8_item
  rw [hk, hby, pu_b1, nI_1]
  dsimp only [nb_let]
  rw [if_neg (by decide), if_neg (by decide), if_neg (by decide), if_neg (by decide), if_neg (by decide), if_pos (show nI 103 = (103 : Int32) from rfl)]
  unfold fX8_guestItem
  dsimp only [nb_let]
  rw [nb_g_t (show nb_in (1 : Int32) 2 = true by decide), e1, pn_b2]
  have q0 : τf 2 1 = nI g := by rw [e9.1 2 (by decide) (by decide)]; exact hc
  have q1 : nb_st τ 0 27 (nI (k + 1)) 2 1 = nI g := by rw [nb_st_k (by decide)]; exact hc
  rcases e3 with ⟨e4, v, k', e5, e6, e7⟩ | ⟨e4, e5⟩
  · have e4 : x = nI 1 := e4
    subst e4
    have e6 : ∀ j, j < 4 → τf 25 j = nI (v j) := e6
    have e7 : τf 0 27 = nI k' := e7
    obtain ⟨-, -, vb⟩ := pq_le e5
    have v0 := vb 0 (by omega)
    have w0 := e6 0 (by omega)
    have m0 := pr_min (N := N) (s := τf) v0
    have s0 := pr_in99 (N := N) (s := τf) v0
    have t0 := pr_in3 (N := N) (s := τf) v0
    have v1 := vb 1 (by omega)
    have w1 := e6 1 (by omega)
    have m1 := pr_min (N := N) (s := τf) v1
    have s1 := pr_in99 (N := N) (s := τf) v1
    have t1 := pr_in3 (N := N) (s := τf) v1
    have v2 := vb 2 (by omega)
    have w2 := e6 2 (by omega)
    have m2 := pr_min (N := N) (s := τf) v2
    have s2 := pr_in99 (N := N) (s := τf) v2
    have t2 := pr_in3 (N := N) (s := τf) v2
    have v3 := vb 3 (by omega)
    have w3 := e6 3 (by omega)
    have m3 := pr_min (N := N) (s := τf) v3
    have s3 := pr_in99 (N := N) (s := τf) v3
    have t3 := pr_in3 (N := N) (s := τf) v3
    have same : ∀ v' k2, okr B n 4 (k + 1) 0 v' k2 → ∀ j, j < 4 → v' j = v j := fun v' k2 q j hj => (pq_u q.1 e5).2 j hj
    by_cases cg : g < 8
    rotate_left
    · have cg2 : (nI g = nI 8) = True := eq_true (by rw [show g = 8 by omega])
      refine Or.inl ⟨τf, ?_, e9, ?_⟩
      · simp (disch := omega) only [pn_g, pu_b1, pn_b2, pn_leT, pn_leF, pn_ltT, pn_ltF, pn_eqT, pn_eqF, pu_in, pu_ix, nI_add, pk_mul, pk_sub, ↓reduceIte, Bool.false_eq_true, if_false, if_true, nb_st_s, nb_st_k, nb_st_n, nb_sa_s, nb_sa_n, pL0, pL1, pL2, pL3, pL4, pL5, pL6, pL7, pL8, pL9, pL10, pL11, pL12, pL13, pL15, pL20, pL30, pL99, pL100, pL180, pL240, pL255, pL350, pL359, pL719, pL720, pL999, pL9999, pL99999, pL100000, pL1000000, pL48, pL57, pL60, pL98, pL101, pL102, pL103, pL104, pL105, pL106, pL107, pL108, pL109, pL110, pL111, pL112, pL113, pL114, pL115, pL116, pL117, pL118, pL119, pL120, pL121, pL199, n0, n1, and_self, q0, q1, hc, w0, w1, w2, w3, m1, cg2]
      · exact fun v2 k2 q z => cg z
    by_cases d0 : v 0 ≤ 3
    rotate_left
    · skip
      refine Or.inl ⟨τf, ?_, e9, ?_⟩
      · simp (disch := omega) only [pn_g, pu_b1, pn_b2, pn_leT, pn_leF, pn_ltT, pn_ltF, pn_eqT, pn_eqF, pu_in, pu_ix, nI_add, pk_mul, pk_sub, ↓reduceIte, Bool.false_eq_true, if_false, if_true, nb_st_s, nb_st_k, nb_st_n, nb_sa_s, nb_sa_n, pL0, pL1, pL2, pL3, pL4, pL5, pL6, pL7, pL8, pL9, pL10, pL11, pL12, pL13, pL15, pL20, pL30, pL99, pL100, pL180, pL240, pL255, pL350, pL359, pL719, pL720, pL999, pL9999, pL99999, pL100000, pL1000000, pL48, pL57, pL60, pL98, pL101, pL102, pL103, pL104, pL105, pL106, pL107, pL108, pL109, pL110, pL111, pL112, pL113, pL114, pL115, pL116, pL117, pL118, pL119, pL120, pL121, pL199, n0, n1, and_self, q0, q1, hc, w0, w1, w2, w3, m1, d0]
      · exact fun v2 k2 q z => d0 (by rw [← same v2 k2 q 0 (by omega)]; exact (q.2 0 (by omega)).2)
    by_cases d1 : v 1 ≤ 359
    rotate_left
    · skip
      refine Or.inl ⟨τf, ?_, e9, ?_⟩
      · simp (disch := omega) only [pn_g, pu_b1, pn_b2, pn_leT, pn_leF, pn_ltT, pn_ltF, pn_eqT, pn_eqF, pu_in, pu_ix, nI_add, pk_mul, pk_sub, ↓reduceIte, Bool.false_eq_true, if_false, if_true, nb_st_s, nb_st_k, nb_st_n, nb_sa_s, nb_sa_n, pL0, pL1, pL2, pL3, pL4, pL5, pL6, pL7, pL8, pL9, pL10, pL11, pL12, pL13, pL15, pL20, pL30, pL99, pL100, pL180, pL240, pL255, pL350, pL359, pL719, pL720, pL999, pL9999, pL99999, pL100000, pL1000000, pL48, pL57, pL60, pL98, pL101, pL102, pL103, pL104, pL105, pL106, pL107, pL108, pL109, pL110, pL111, pL112, pL113, pL114, pL115, pL116, pL117, pL118, pL119, pL120, pL121, pL199, n0, n1, and_self, q0, q1, hc, w0, w1, w2, w3, m1, d0, d1]
      · exact fun v2 k2 q z => d1 (by rw [← same v2 k2 q 1 (by omega)]; exact (q.2 1 (by omega)).2)
    by_cases d2 : v 2 ≤ 199
    rotate_left
    · skip
      refine Or.inl ⟨τf, ?_, e9, ?_⟩
      · simp (disch := omega) only [pn_g, pu_b1, pn_b2, pn_leT, pn_leF, pn_ltT, pn_ltF, pn_eqT, pn_eqF, pu_in, pu_ix, nI_add, pk_mul, pk_sub, ↓reduceIte, Bool.false_eq_true, if_false, if_true, nb_st_s, nb_st_k, nb_st_n, nb_sa_s, nb_sa_n, pL0, pL1, pL2, pL3, pL4, pL5, pL6, pL7, pL8, pL9, pL10, pL11, pL12, pL13, pL15, pL20, pL30, pL99, pL100, pL180, pL240, pL255, pL350, pL359, pL719, pL720, pL999, pL9999, pL99999, pL100000, pL1000000, pL48, pL57, pL60, pL98, pL101, pL102, pL103, pL104, pL105, pL106, pL107, pL108, pL109, pL110, pL111, pL112, pL113, pL114, pL115, pL116, pL117, pL118, pL119, pL120, pL121, pL199, n0, n1, and_self, q0, q1, hc, w0, w1, w2, w3, m1, d0, d1, d2]
      · exact fun v2 k2 q z => d2 (by rw [← same v2 k2 q 2 (by omega)]; exact (q.2 2 (by omega)).2)
    by_cases d3 : v 3 ≤ 5
    rotate_left
    · skip
      refine Or.inl ⟨τf, ?_, e9, ?_⟩
      · simp (disch := omega) only [pn_g, pu_b1, pn_b2, pn_leT, pn_leF, pn_ltT, pn_ltF, pn_eqT, pn_eqF, pu_in, pu_ix, nI_add, pk_mul, pk_sub, ↓reduceIte, Bool.false_eq_true, if_false, if_true, nb_st_s, nb_st_k, nb_st_n, nb_sa_s, nb_sa_n, pL0, pL1, pL2, pL3, pL4, pL5, pL6, pL7, pL8, pL9, pL10, pL11, pL12, pL13, pL15, pL20, pL30, pL99, pL100, pL180, pL240, pL255, pL350, pL359, pL719, pL720, pL999, pL9999, pL99999, pL100000, pL1000000, pL48, pL57, pL60, pL98, pL101, pL102, pL103, pL104, pL105, pL106, pL107, pL108, pL109, pL110, pL111, pL112, pL113, pL114, pL115, pL116, pL117, pL118, pL119, pL120, pL121, pL199, n0, n1, and_self, q0, q1, hc, w0, w1, w2, w3, m1, d0, d1, d2, d3]
      · exact fun v2 k2 q z => d3 (by rw [← same v2 k2 q 3 (by omega)]; exact (q.2 3 (by omega)).2)
    refine Or.inr ⟨v, k', τf, ⟨e5, fun j hj => ?_⟩, cg, e9, e7, ?_⟩
    · have : j = 0 ∨ j = 1 ∨ j = 2 ∨ j = 3 := by omega
      rcases this with rfl | rfl | rfl | rfl
      · show 0 ≤ v 0 ∧ v 0 ≤ 3
        omega
      · show 0 ≤ v 1 ∧ v 1 ≤ 359
        omega
      · show 0 ≤ v 2 ∧ v 2 ≤ 199
        omega
      · show 0 ≤ v 3 ∧ v 3 ≤ 5
        omega
    · simp (disch := omega) only [pn_g, pu_b1, pn_b2, pn_leT, pn_leF, pn_ltT, pn_ltF, pn_eqT, pn_eqF, pu_in, pu_ix, nI_add, pk_mul, pk_sub, ↓reduceIte, Bool.false_eq_true, if_false, if_true, nb_st_s, nb_st_k, nb_st_n, nb_sa_s, nb_sa_n, pL0, pL1, pL2, pL3, pL4, pL5, pL6, pL7, pL8, pL9, pL10, pL11, pL12, pL13, pL15, pL20, pL30, pL99, pL100, pL180, pL240, pL255, pL350, pL359, pL719, pL720, pL999, pL9999, pL99999, pL100000, pL1000000, pL48, pL57, pL60, pL98, pL101, pL102, pL103, pL104, pL105, pL106, pL107, pL108, pL109, pL110, pL111, pL112, pL113, pL114, pL115, pL116, pL117, pL118, pL119, pL120, pL121, pL199, n0, n1, and_self, q0, q1, hc, w0, w1, w2, w3, m1, d0, d1, d2, d3]
  · have e4 : x = nI 0 := e4
    subst e4
    refine Or.inl ⟨τf, ?_, e9, fun v k' q _ => e5 ⟨v, k', q.1⟩⟩
    simp (disch := omega) only [pn_g, pu_b1, pn_b2, pn_leT, pn_leF, pn_ltT, pn_ltF, pn_eqT, pn_eqF, pu_in, pu_ix, nI_add, pk_mul, pk_sub, ↓reduceIte, Bool.false_eq_true, if_false, if_true, nb_st_s, nb_st_k, nb_st_n, nb_sa_s, nb_sa_n, pL0, pL1, pL2, pL3, pL4, pL5, pL6, pL7, pL8, pL9, pL10, pL11, pL12, pL13, pL15, pL20, pL30, pL99, pL100, pL180, pL240, pL255, pL350, pL359, pL719, pL720, pL999, pL9999, pL99999, pL100000, pL1000000, pL48, pL57, pL60, pL98, pL101, pL102, pL103, pL104, pL105, pL106, pL107, pL108, pL109, pL110, pL111, pL112, pL113, pL114, pL115, pL116, pL117, pL118, pL119, pL120, pL121, pL199, n0, n1, and_self, q0, q1, hc]
theorem i8_s {N : Nat} {σ τ : nb_St} {n k : Nat} {B : Nat → Nat} (hN : 10 < N) (ht : tx σ τ n B) (hk : τ 0 27 = nI k) (hkn : k < n) (hb : B k = 115) {a : Nat} (hc : τ 19 1 = nI a) (hc8 : a ≤ 6) : (∃ τ', fX8_item N τ = some (nI 0, τ') ∧ rff τ τ' ∧ ∀ v k', okr B n 2 (k + 1) 1 v k' → ¬ (a < 6)) ∨ ∃ v k' τf, okr B n 2 (k + 1) 1 v k' ∧ (a < 6) ∧ rff τ τf ∧ τf 0 27 = nI k' ∧ fX8_item N τ = some (nI 1, nb_st (nb_st (nb_st τf 20 (6 + a) (nI (v 0))) 21 (6 + a) (nI (v 1))) 19 1 (nI (a + 1))) := by
  have n4 := ht.1
  have hby : fX8_byteAt N τ (nI k) = some (nI 115) := by
    have := pr_byteAt (N := N) (k := k) ht rff_r (by omega)
    unfold bA at this
    rw [if_pos hkn, hb] at this
    exact this
  obtain ⟨⟨x, τf⟩, e1, e2, e3⟩ := pr_fig8 (N := N) (m := 2) (k0 := k + 1) hN (tx_p (v := nI (k + 1)) ht) nb_st_s (by omega) (by omega) (by omega)
  have e9 : rff τ τf := rff_t rff_p (show rff (nb_st τ 0 27 (nI (k + 1))) τf from e2)
  clear e2
  have e1 : fX8_figures N (nb_st τ 0 27 (nI (k + 1))) (2 : Int32) = some (x, τf) := e1
  have n0 : nb_01 (nI 0) = true := rfl
  have n1 : nb_01 (nI 1) = true := rfl
  unfold fX8_item
  rw [hk, hby, pu_b1, nI_1]
  dsimp only [nb_let]
  rw [if_neg (by decide), if_neg (by decide), if_neg (by decide), if_neg (by decide), if_neg (by decide), if_neg (by decide), if_neg (by decide), if_neg (by decide), if_neg (by decide), if_neg (by decide), if_neg (by decide), if_neg (by decide), if_neg (by decide), if_neg (by decide), if_neg (by decide), if_neg (by decide), if_neg (by decide), if_pos (show nI 115 = (115 : Int32) from rfl)]
  rw [e1, pn_b2]
  have q0 : τf 19 1 = nI a := by rw [e9.1 19 (by decide) (by decide)]; exact hc
  have q1 : nb_st τ 0 27 (nI (k + 1)) 19 1 = nI a := by rw [nb_st_k (by decide)]; exact hc
  rcases e3 with ⟨e4, v, k', e5, e6, e7⟩ | ⟨e4, e5⟩
  · have e4 : x = nI 1 := e4
    subst e4
    have e6 : ∀ j, j < 2 → τf 25 j = nI (v j) := e6
    have e7 : τf 0 27 = nI k' := e7
    obtain ⟨-, -, vb⟩ := pq_le e5
    have v0 := vb 0 (by omega)
    have w0 := e6 0 (by omega)
    have m0 := pr_min (N := N) (s := τf) v0
    have s0 := pr_in99 (N := N) (s := τf) v0
    have t0 := pr_in3 (N := N) (s := τf) v0
    have v1 := vb 1 (by omega)
    have w1 := e6 1 (by omega)
    have m1 := pr_min (N := N) (s := τf) v1
    have s1 := pr_in99 (N := N) (s := τf) v1
    have t1 := pr_in3 (N := N) (s := τf) v1
    have same : ∀ v' k2, okr B n 2 (k + 1) 1 v' k2 → ∀ j, j < 2 → v' j = v j := fun v' k2 q j hj => (pq_u q.1 e5).2 j hj
    by_cases ca : a < 6
    rotate_left
    · have ca2 : (nI a = nI 6) = True := eq_true (by rw [show a = 6 by omega])
      refine Or.inl ⟨τf, ?_, e9, ?_⟩
      · simp (disch := omega) only [pn_g, pu_b1, pn_b2, pn_leT, pn_leF, pn_ltT, pn_ltF, pn_eqT, pn_eqF, pu_in, pu_ix, nI_add, pk_mul, pk_sub, ↓reduceIte, Bool.false_eq_true, if_false, if_true, nb_st_s, nb_st_k, nb_st_n, nb_sa_s, nb_sa_n, pL0, pL1, pL2, pL3, pL4, pL5, pL6, pL7, pL8, pL9, pL10, pL11, pL12, pL13, pL15, pL20, pL30, pL99, pL100, pL180, pL240, pL255, pL350, pL359, pL719, pL720, pL999, pL9999, pL99999, pL100000, pL1000000, pL48, pL57, pL60, pL98, pL101, pL102, pL103, pL104, pL105, pL106, pL107, pL108, pL109, pL110, pL111, pL112, pL113, pL114, pL115, pL116, pL117, pL118, pL119, pL120, pL121, pL199, n0, n1, and_self, q0, q1, hc, w0, w1, m0, s1, ca2]
      · exact fun v2 k2 q z => ca z
    by_cases d0 : v 0 ≤ 359
    rotate_left
    · skip
      refine Or.inl ⟨τf, ?_, e9, ?_⟩
      · simp (disch := omega) only [pn_g, pu_b1, pn_b2, pn_leT, pn_leF, pn_ltT, pn_ltF, pn_eqT, pn_eqF, pu_in, pu_ix, nI_add, pk_mul, pk_sub, ↓reduceIte, Bool.false_eq_true, if_false, if_true, nb_st_s, nb_st_k, nb_st_n, nb_sa_s, nb_sa_n, pL0, pL1, pL2, pL3, pL4, pL5, pL6, pL7, pL8, pL9, pL10, pL11, pL12, pL13, pL15, pL20, pL30, pL99, pL100, pL180, pL240, pL255, pL350, pL359, pL719, pL720, pL999, pL9999, pL99999, pL100000, pL1000000, pL48, pL57, pL60, pL98, pL101, pL102, pL103, pL104, pL105, pL106, pL107, pL108, pL109, pL110, pL111, pL112, pL113, pL114, pL115, pL116, pL117, pL118, pL119, pL120, pL121, pL199, n0, n1, and_self, q0, q1, hc, w0, w1, m0, s1, d0]
      · exact fun v2 k2 q z => d0 (by rw [← same v2 k2 q 0 (by omega)]; exact (q.2 0 (by omega)).2)
    by_cases d1 : 1 ≤ v 1 ∧ v 1 ≤ 99
    rotate_left
    · skip
      refine Or.inl ⟨τf, ?_, e9, ?_⟩
      · simp (disch := omega) only [pn_g, pu_b1, pn_b2, pn_leT, pn_leF, pn_ltT, pn_ltF, pn_eqT, pn_eqF, pu_in, pu_ix, nI_add, pk_mul, pk_sub, ↓reduceIte, Bool.false_eq_true, if_false, if_true, nb_st_s, nb_st_k, nb_st_n, nb_sa_s, nb_sa_n, pL0, pL1, pL2, pL3, pL4, pL5, pL6, pL7, pL8, pL9, pL10, pL11, pL12, pL13, pL15, pL20, pL30, pL99, pL100, pL180, pL240, pL255, pL350, pL359, pL719, pL720, pL999, pL9999, pL99999, pL100000, pL1000000, pL48, pL57, pL60, pL98, pL101, pL102, pL103, pL104, pL105, pL106, pL107, pL108, pL109, pL110, pL111, pL112, pL113, pL114, pL115, pL116, pL117, pL118, pL119, pL120, pL121, pL199, n0, n1, and_self, q0, q1, hc, w0, w1, m0, s1, d0, d1]
      · exact fun v2 k2 q z => d1 (by rw [← same v2 k2 q 1 (by omega)]; exact q.2 1 (by omega))
    refine Or.inr ⟨v, k', τf, ⟨e5, fun j hj => ?_⟩, ca, e9, e7, ?_⟩
    · have : j = 0 ∨ j = 1 := by omega
      rcases this with rfl | rfl
      · show 0 ≤ v 0 ∧ v 0 ≤ 359
        omega
      · show 1 ≤ v 1 ∧ v 1 ≤ 99
        omega
    · simp (disch := omega) only [pn_g, pu_b1, pn_b2, pn_leT, pn_leF, pn_ltT, pn_ltF, pn_eqT, pn_eqF, pu_in, pu_ix, nI_add, pk_mul, pk_sub, ↓reduceIte, Bool.false_eq_true, if_false, if_true, nb_st_s, nb_st_k, nb_st_n, nb_sa_s, nb_sa_n, pL0, pL1, pL2, pL3, pL4, pL5, pL6, pL7, pL8, pL9, pL10, pL11, pL12, pL13, pL15, pL20, pL30, pL99, pL100, pL180, pL240, pL255, pL350, pL359, pL719, pL720, pL999, pL9999, pL99999, pL100000, pL1000000, pL48, pL57, pL60, pL98, pL101, pL102, pL103, pL104, pL105, pL106, pL107, pL108, pL109, pL110, pL111, pL112, pL113, pL114, pL115, pL116, pL117, pL118, pL119, pL120, pL121, pL199, n0, n1, and_self, q0, q1, hc, w0, w1, m0, s1, d0, d1]
  · have e4 : x = nI 0 := e4
    subst e4
    refine Or.inl ⟨τf, ?_, e9, fun v k' q _ => e5 ⟨v, k', q.1⟩⟩
    simp (disch := omega) only [pn_g, pu_b1, pn_b2, pn_leT, pn_leF, pn_ltT, pn_ltF, pn_eqT, pn_eqF, pu_in, pu_ix, nI_add, pk_mul, pk_sub, ↓reduceIte, Bool.false_eq_true, if_false, if_true, nb_st_s, nb_st_k, nb_st_n, nb_sa_s, nb_sa_n, pL0, pL1, pL2, pL3, pL4, pL5, pL6, pL7, pL8, pL9, pL10, pL11, pL12, pL13, pL15, pL20, pL30, pL99, pL100, pL180, pL240, pL255, pL350, pL359, pL719, pL720, pL999, pL9999, pL99999, pL100000, pL1000000, pL48, pL57, pL60, pL98, pL101, pL102, pL103, pL104, pL105, pL106, pL107, pL108, pL109, pL110, pL111, pL112, pL113, pL114, pL115, pL116, pL117, pL118, pL119, pL120, pL121, pL199, n0, n1, and_self, q0, q1, hc]
theorem i8_w {N : Nat} {σ τ : nb_St} {n k : Nat} {B : Nat → Nat} (hN : 10 < N) (ht : tx σ τ n B) (hk : τ 0 27 = nI k) (hkn : k < n) (hb : B k = 119) {b : Nat} (hc : τ 22 1 = nI b) (hc8 : b ≤ 4) : (∃ τ', fX8_item N τ = some (nI 0, τ') ∧ rff τ τ' ∧ ∀ v k', okr B n 1 (k + 1) 2 v k' → ¬ (b < 4)) ∨ ∃ v k' τf, okr B n 1 (k + 1) 2 v k' ∧ (b < 4) ∧ rff τ τf ∧ τf 0 27 = nI k' ∧ fX8_item N τ = some (nI 1, nb_st (nb_st τf 23 (4 + b) (nI (v 0))) 22 1 (nI (b + 1))) := by
  have n4 := ht.1
  have hby : fX8_byteAt N τ (nI k) = some (nI 119) := by
    have := pr_byteAt (N := N) (k := k) ht rff_r (by omega)
    unfold bA at this
    rw [if_pos hkn, hb] at this
    exact this
  obtain ⟨⟨x, τf⟩, e1, e2, e3⟩ := pr_fig8 (N := N) (m := 1) (k0 := k + 1) hN (tx_p (v := nI (k + 1)) ht) nb_st_s (by omega) (by omega) (by omega)
  have e9 : rff τ τf := rff_t rff_p (show rff (nb_st τ 0 27 (nI (k + 1))) τf from e2)
  clear e2
  have e1 : fX8_figures N (nb_st τ 0 27 (nI (k + 1))) (1 : Int32) = some (x, τf) := e1
  have n0 : nb_01 (nI 0) = true := rfl
  have n1 : nb_01 (nI 1) = true := rfl
  unfold fX8_item
  rw [hk, hby, pu_b1, nI_1]
  dsimp only [nb_let]
  rw [if_neg (by decide), if_neg (by decide), if_neg (by decide), if_neg (by decide), if_neg (by decide), if_neg (by decide), if_neg (by decide), if_neg (by decide), if_neg (by decide), if_neg (by decide), if_neg (by decide), if_neg (by decide), if_neg (by decide), if_neg (by decide), if_neg (by decide), if_neg (by decide), if_neg (by decide), if_neg (by decide), if_neg (by decide), if_neg (by decide), if_neg (by decide), if_pos (show nI 119 = (119 : Int32) from rfl)]
  rw [e1, pn_b2]
  have q0 : τf 22 1 = nI b := by rw [e9.1 22 (by decide) (by decide)]; exact hc
  have q1 : nb_st τ 0 27 (nI (k + 1)) 22 1 = nI b := by rw [nb_st_k (by decide)]; exact hc
  rcases e3 with ⟨e4, v, k', e5, e6, e7⟩ | ⟨e4, e5⟩
  · have e4 : x = nI 1 := e4
    subst e4
    have e6 : ∀ j, j < 1 → τf 25 j = nI (v j) := e6
    have e7 : τf 0 27 = nI k' := e7
    obtain ⟨-, -, vb⟩ := pq_le e5
    have v0 := vb 0 (by omega)
    have w0 := e6 0 (by omega)
    have m0 := pr_min (N := N) (s := τf) v0
    have s0 := pr_in99 (N := N) (s := τf) v0
    have t0 := pr_in3 (N := N) (s := τf) v0
    have same : ∀ v' k2, okr B n 1 (k + 1) 2 v' k2 → ∀ j, j < 1 → v' j = v j := fun v' k2 q j hj => (pq_u q.1 e5).2 j hj
    by_cases cb : b < 4
    rotate_left
    · have cb2 : (nI b = nI 4) = True := eq_true (by rw [show b = 4 by omega])
      refine Or.inl ⟨τf, ?_, e9, ?_⟩
      · simp (disch := omega) only [pn_g, pu_b1, pn_b2, pn_leT, pn_leF, pn_ltT, pn_ltF, pn_eqT, pn_eqF, pu_in, pu_ix, nI_add, pk_mul, pk_sub, ↓reduceIte, Bool.false_eq_true, if_false, if_true, nb_st_s, nb_st_k, nb_st_n, nb_sa_s, nb_sa_n, pL0, pL1, pL2, pL3, pL4, pL5, pL6, pL7, pL8, pL9, pL10, pL11, pL12, pL13, pL15, pL20, pL30, pL99, pL100, pL180, pL240, pL255, pL350, pL359, pL719, pL720, pL999, pL9999, pL99999, pL100000, pL1000000, pL48, pL57, pL60, pL98, pL101, pL102, pL103, pL104, pL105, pL106, pL107, pL108, pL109, pL110, pL111, pL112, pL113, pL114, pL115, pL116, pL117, pL118, pL119, pL120, pL121, pL199, n0, n1, and_self, q0, q1, hc, w0, m0, cb2]
      · exact fun v2 k2 q z => cb z
    by_cases d0 : v 0 ≤ 359
    rotate_left
    · skip
      refine Or.inl ⟨τf, ?_, e9, ?_⟩
      · simp (disch := omega) only [pn_g, pu_b1, pn_b2, pn_leT, pn_leF, pn_ltT, pn_ltF, pn_eqT, pn_eqF, pu_in, pu_ix, nI_add, pk_mul, pk_sub, ↓reduceIte, Bool.false_eq_true, if_false, if_true, nb_st_s, nb_st_k, nb_st_n, nb_sa_s, nb_sa_n, pL0, pL1, pL2, pL3, pL4, pL5, pL6, pL7, pL8, pL9, pL10, pL11, pL12, pL13, pL15, pL20, pL30, pL99, pL100, pL180, pL240, pL255, pL350, pL359, pL719, pL720, pL999, pL9999, pL99999, pL100000, pL1000000, pL48, pL57, pL60, pL98, pL101, pL102, pL103, pL104, pL105, pL106, pL107, pL108, pL109, pL110, pL111, pL112, pL113, pL114, pL115, pL116, pL117, pL118, pL119, pL120, pL121, pL199, n0, n1, and_self, q0, q1, hc, w0, m0, d0]
      · exact fun v2 k2 q z => d0 (by rw [← same v2 k2 q 0 (by omega)]; exact (q.2 0 (by omega)).2)
    refine Or.inr ⟨v, k', τf, ⟨e5, fun j hj => ?_⟩, cb, e9, e7, ?_⟩
    · have : j = 0 := by omega
      rcases this with rfl
      · show 0 ≤ v 0 ∧ v 0 ≤ 359
        omega
    · simp (disch := omega) only [pn_g, pu_b1, pn_b2, pn_leT, pn_leF, pn_ltT, pn_ltF, pn_eqT, pn_eqF, pu_in, pu_ix, nI_add, pk_mul, pk_sub, ↓reduceIte, Bool.false_eq_true, if_false, if_true, nb_st_s, nb_st_k, nb_st_n, nb_sa_s, nb_sa_n, pL0, pL1, pL2, pL3, pL4, pL5, pL6, pL7, pL8, pL9, pL10, pL11, pL12, pL13, pL15, pL20, pL30, pL99, pL100, pL180, pL240, pL255, pL350, pL359, pL719, pL720, pL999, pL9999, pL99999, pL100000, pL1000000, pL48, pL57, pL60, pL98, pL101, pL102, pL103, pL104, pL105, pL106, pL107, pL108, pL109, pL110, pL111, pL112, pL113, pL114, pL115, pL116, pL117, pL118, pL119, pL120, pL121, pL199, n0, n1, and_self, q0, q1, hc, w0, m0, d0]
  · have e4 : x = nI 0 := e4
    subst e4
    refine Or.inl ⟨τf, ?_, e9, fun v k' q _ => e5 ⟨v, k', q.1⟩⟩
    simp (disch := omega) only [pn_g, pu_b1, pn_b2, pn_leT, pn_leF, pn_ltT, pn_ltF, pn_eqT, pn_eqF, pu_in, pu_ix, nI_add, pk_mul, pk_sub, ↓reduceIte, Bool.false_eq_true, if_false, if_true, nb_st_s, nb_st_k, nb_st_n, nb_sa_s, nb_sa_n, pL0, pL1, pL2, pL3, pL4, pL5, pL6, pL7, pL8, pL9, pL10, pL11, pL12, pL13, pL15, pL20, pL30, pL99, pL100, pL180, pL240, pL255, pL350, pL359, pL719, pL720, pL999, pL9999, pL99999, pL100000, pL1000000, pL48, pL57, pL60, pL98, pL101, pL102, pL103, pL104, pL105, pL106, pL107, pL108, pL109, pL110, pL111, pL112, pL113, pL114, pL115, pL116, pL117, pL118, pL119, pL120, pL121, pL199, n0, n1, and_self, q0, q1, hc]
theorem i8_l {N : Nat} {σ τ : nb_St} {n k : Nat} {B : Nat → Nat} (hN : 10 < N) (ht : tx σ τ n B) (hk : τ 0 27 = nI k) (hkn : k < n) (hb : B k = 108)  : (∃ τ', fX8_item N τ = some (nI 0, τ') ∧ rff τ τ' ∧ ∀ v k', okr B n 2 (k + 1) 3 v k' → ¬ (True)) ∨ ∃ v k' τf, okr B n 2 (k + 1) 3 v k' ∧ (True) ∧ rff τ τf ∧ τf 0 27 = nI k' ∧ fX8_item N τ = some (nI 1, nb_st (nb_st τf 10 1 (nI (v 0))) 11 1 (nI (v 1))) := by
  have n4 := ht.1
  have hby : fX8_byteAt N τ (nI k) = some (nI 108) := by
    have := pr_byteAt (N := N) (k := k) ht rff_r (by omega)
    unfold bA at this
    rw [if_pos hkn, hb] at this
    exact this
  obtain ⟨⟨x, τf⟩, e1, e2, e3⟩ := pr_fig8 (N := N) (m := 2) (k0 := k + 1) hN (tx_p (v := nI (k + 1)) ht) nb_st_s (by omega) (by omega) (by omega)
  have e9 : rff τ τf := rff_t rff_p (show rff (nb_st τ 0 27 (nI (k + 1))) τf from e2)
  clear e2
  have e1 : fX8_figures N (nb_st τ 0 27 (nI (k + 1))) (2 : Int32) = some (x, τf) := e1
  have n0 : nb_01 (nI 0) = true := rfl
  have n1 : nb_01 (nI 1) = true := rfl
  unfold fX8_item
  rw [hk, hby, pu_b1, nI_1]
  dsimp only [nb_let]
  rw [if_neg (by decide), if_neg (by decide), if_neg (by decide), if_neg (by decide), if_neg (by decide), if_neg (by decide), if_neg (by decide), if_neg (by decide), if_neg (by decide), if_neg (by decide), if_pos (show nI 108 = (108 : Int32) from rfl)]
  rw [e1, pn_b2]
  rcases e3 with ⟨e4, v, k', e5, e6, e7⟩ | ⟨e4, e5⟩
  · have e4 : x = nI 1 := e4
    subst e4
    have e6 : ∀ j, j < 2 → τf 25 j = nI (v j) := e6
    have e7 : τf 0 27 = nI k' := e7
    obtain ⟨-, -, vb⟩ := pq_le e5
    have v0 := vb 0 (by omega)
    have w0 := e6 0 (by omega)
    have m0 := pr_min (N := N) (s := τf) v0
    have s0 := pr_in99 (N := N) (s := τf) v0
    have t0 := pr_in3 (N := N) (s := τf) v0
    have v1 := vb 1 (by omega)
    have w1 := e6 1 (by omega)
    have m1 := pr_min (N := N) (s := τf) v1
    have s1 := pr_in99 (N := N) (s := τf) v1
    have t1 := pr_in3 (N := N) (s := τf) v1
    have same : ∀ v' k2, okr B n 2 (k + 1) 3 v' k2 → ∀ j, j < 2 → v' j = v j := fun v' k2 q j hj => (pq_u q.1 e5).2 j hj
    by_cases d0 : v 0 ≤ 99
    rotate_left
    · skip
      refine Or.inl ⟨τf, ?_, e9, ?_⟩
      · simp (disch := omega) only [pn_g, pu_b1, pn_b2, pn_leT, pn_leF, pn_ltT, pn_ltF, pn_eqT, pn_eqF, pu_in, pu_ix, nI_add, pk_mul, pk_sub, ↓reduceIte, Bool.false_eq_true, if_false, if_true, nb_st_s, nb_st_k, nb_st_n, nb_sa_s, nb_sa_n, pL0, pL1, pL2, pL3, pL4, pL5, pL6, pL7, pL8, pL9, pL10, pL11, pL12, pL13, pL15, pL20, pL30, pL99, pL100, pL180, pL240, pL255, pL350, pL359, pL719, pL720, pL999, pL9999, pL99999, pL100000, pL1000000, pL48, pL57, pL60, pL98, pL101, pL102, pL103, pL104, pL105, pL106, pL107, pL108, pL109, pL110, pL111, pL112, pL113, pL114, pL115, pL116, pL117, pL118, pL119, pL120, pL121, pL199, n0, n1, and_self, w0, w1, d0]
      · exact fun v2 k2 q z => d0 (by rw [← same v2 k2 q 0 (by omega)]; exact (q.2 0 (by omega)).2)
    by_cases d1 : v 1 ≤ 60
    rotate_left
    · skip
      refine Or.inl ⟨τf, ?_, e9, ?_⟩
      · simp (disch := omega) only [pn_g, pu_b1, pn_b2, pn_leT, pn_leF, pn_ltT, pn_ltF, pn_eqT, pn_eqF, pu_in, pu_ix, nI_add, pk_mul, pk_sub, ↓reduceIte, Bool.false_eq_true, if_false, if_true, nb_st_s, nb_st_k, nb_st_n, nb_sa_s, nb_sa_n, pL0, pL1, pL2, pL3, pL4, pL5, pL6, pL7, pL8, pL9, pL10, pL11, pL12, pL13, pL15, pL20, pL30, pL99, pL100, pL180, pL240, pL255, pL350, pL359, pL719, pL720, pL999, pL9999, pL99999, pL100000, pL1000000, pL48, pL57, pL60, pL98, pL101, pL102, pL103, pL104, pL105, pL106, pL107, pL108, pL109, pL110, pL111, pL112, pL113, pL114, pL115, pL116, pL117, pL118, pL119, pL120, pL121, pL199, n0, n1, and_self, w0, w1, d0, d1]
      · exact fun v2 k2 q z => d1 (by rw [← same v2 k2 q 1 (by omega)]; exact (q.2 1 (by omega)).2)
    refine Or.inr ⟨v, k', τf, ⟨e5, fun j hj => ?_⟩, trivial, e9, e7, ?_⟩
    · have : j = 0 ∨ j = 1 := by omega
      rcases this with rfl | rfl
      · show 0 ≤ v 0 ∧ v 0 ≤ 99
        omega
      · show 0 ≤ v 1 ∧ v 1 ≤ 60
        omega
    · simp (disch := omega) only [pn_g, pu_b1, pn_b2, pn_leT, pn_leF, pn_ltT, pn_ltF, pn_eqT, pn_eqF, pu_in, pu_ix, nI_add, pk_mul, pk_sub, ↓reduceIte, Bool.false_eq_true, if_false, if_true, nb_st_s, nb_st_k, nb_st_n, nb_sa_s, nb_sa_n, pL0, pL1, pL2, pL3, pL4, pL5, pL6, pL7, pL8, pL9, pL10, pL11, pL12, pL13, pL15, pL20, pL30, pL99, pL100, pL180, pL240, pL255, pL350, pL359, pL719, pL720, pL999, pL9999, pL99999, pL100000, pL1000000, pL48, pL57, pL60, pL98, pL101, pL102, pL103, pL104, pL105, pL106, pL107, pL108, pL109, pL110, pL111, pL112, pL113, pL114, pL115, pL116, pL117, pL118, pL119, pL120, pL121, pL199, n0, n1, and_self, w0, w1, d0, d1]
  · have e4 : x = nI 0 := e4
    subst e4
    refine Or.inl ⟨τf, ?_, e9, fun v k' q _ => e5 ⟨v, k', q.1⟩⟩
    simp (disch := omega) only [pn_g, pu_b1, pn_b2, pn_leT, pn_leF, pn_ltT, pn_ltF, pn_eqT, pn_eqF, pu_in, pu_ix, nI_add, pk_mul, pk_sub, ↓reduceIte, Bool.false_eq_true, if_false, if_true, nb_st_s, nb_st_k, nb_st_n, nb_sa_s, nb_sa_n, pL0, pL1, pL2, pL3, pL4, pL5, pL6, pL7, pL8, pL9, pL10, pL11, pL12, pL13, pL15, pL20, pL30, pL99, pL100, pL180, pL240, pL255, pL350, pL359, pL719, pL720, pL999, pL9999, pL99999, pL100000, pL1000000, pL48, pL57, pL60, pL98, pL101, pL102, pL103, pL104, pL105, pL106, pL107, pL108, pL109, pL110, pL111, pL112, pL113, pL114, pL115, pL116, pL117, pL118, pL119, pL120, pL121, pL199, n0, n1, and_self]
theorem i8_b {N : Nat} {σ τ : nb_St} {n k : Nat} {B : Nat → Nat} (hN : 10 < N) (ht : tx σ τ n B) (hk : τ 0 27 = nI k) (hkn : k < n) (hb : B k = 98)  : (∃ τ', fX8_item N τ = some (nI 0, τ') ∧ rff τ τ' ∧ ∀ v k', okr B n 1 (k + 1) 4 v k' → ¬ (True)) ∨ ∃ v k' τf, okr B n 1 (k + 1) 4 v k' ∧ (True) ∧ rff τ τf ∧ τf 0 27 = nI k' ∧ fX8_item N τ = some (nI 1, nb_st τf 12 1 (nI (v 0))) := by
  have n4 := ht.1
  have hby : fX8_byteAt N τ (nI k) = some (nI 98) := by
    have := pr_byteAt (N := N) (k := k) ht rff_r (by omega)
    unfold bA at this
    rw [if_pos hkn, hb] at this
    exact this
  obtain ⟨⟨x, τf⟩, e1, e2, e3⟩ := pr_fig8 (N := N) (m := 1) (k0 := k + 1) hN (tx_p (v := nI (k + 1)) ht) nb_st_s (by omega) (by omega) (by omega)
  have e9 : rff τ τf := rff_t rff_p (show rff (nb_st τ 0 27 (nI (k + 1))) τf from e2)
  clear e2
  have e1 : fX8_figures N (nb_st τ 0 27 (nI (k + 1))) (1 : Int32) = some (x, τf) := e1
  have n0 : nb_01 (nI 0) = true := rfl
  have n1 : nb_01 (nI 1) = true := rfl
  unfold fX8_item
  rw [hk, hby, pu_b1, nI_1]
  dsimp only [nb_let]
  rw [if_pos (show nI 98 = (98 : Int32) from rfl)]
  rw [e1, pn_b2]
  rcases e3 with ⟨e4, v, k', e5, e6, e7⟩ | ⟨e4, e5⟩
  · have e4 : x = nI 1 := e4
    subst e4
    have e6 : ∀ j, j < 1 → τf 25 j = nI (v j) := e6
    have e7 : τf 0 27 = nI k' := e7
    obtain ⟨-, -, vb⟩ := pq_le e5
    have v0 := vb 0 (by omega)
    have w0 := e6 0 (by omega)
    have m0 := pr_min (N := N) (s := τf) v0
    have s0 := pr_in99 (N := N) (s := τf) v0
    have t0 := pr_in3 (N := N) (s := τf) v0
    have same : ∀ v' k2, okr B n 1 (k + 1) 4 v' k2 → ∀ j, j < 1 → v' j = v j := fun v' k2 q j hj => (pq_u q.1 e5).2 j hj
    by_cases d0 : v 0 ≤ 359
    rotate_left
    · skip
      refine Or.inl ⟨τf, ?_, e9, ?_⟩
      · simp (disch := omega) only [pn_g, pu_b1, pn_b2, pn_leT, pn_leF, pn_ltT, pn_ltF, pn_eqT, pn_eqF, pu_in, pu_ix, nI_add, pk_mul, pk_sub, ↓reduceIte, Bool.false_eq_true, if_false, if_true, nb_st_s, nb_st_k, nb_st_n, nb_sa_s, nb_sa_n, pL0, pL1, pL2, pL3, pL4, pL5, pL6, pL7, pL8, pL9, pL10, pL11, pL12, pL13, pL15, pL20, pL30, pL99, pL100, pL180, pL240, pL255, pL350, pL359, pL719, pL720, pL999, pL9999, pL99999, pL100000, pL1000000, pL48, pL57, pL60, pL98, pL101, pL102, pL103, pL104, pL105, pL106, pL107, pL108, pL109, pL110, pL111, pL112, pL113, pL114, pL115, pL116, pL117, pL118, pL119, pL120, pL121, pL199, n0, n1, and_self, w0, m0, d0]
      · exact fun v2 k2 q z => d0 (by rw [← same v2 k2 q 0 (by omega)]; exact (q.2 0 (by omega)).2)
    refine Or.inr ⟨v, k', τf, ⟨e5, fun j hj => ?_⟩, trivial, e9, e7, ?_⟩
    · have : j = 0 := by omega
      rcases this with rfl
      · show 0 ≤ v 0 ∧ v 0 ≤ 359
        omega
    · simp (disch := omega) only [pn_g, pu_b1, pn_b2, pn_leT, pn_leF, pn_ltT, pn_ltF, pn_eqT, pn_eqF, pu_in, pu_ix, nI_add, pk_mul, pk_sub, ↓reduceIte, Bool.false_eq_true, if_false, if_true, nb_st_s, nb_st_k, nb_st_n, nb_sa_s, nb_sa_n, pL0, pL1, pL2, pL3, pL4, pL5, pL6, pL7, pL8, pL9, pL10, pL11, pL12, pL13, pL15, pL20, pL30, pL99, pL100, pL180, pL240, pL255, pL350, pL359, pL719, pL720, pL999, pL9999, pL99999, pL100000, pL1000000, pL48, pL57, pL60, pL98, pL101, pL102, pL103, pL104, pL105, pL106, pL107, pL108, pL109, pL110, pL111, pL112, pL113, pL114, pL115, pL116, pL117, pL118, pL119, pL120, pL121, pL199, n0, n1, and_self, w0, m0, d0]
  · have e4 : x = nI 0 := e4
    subst e4
    refine Or.inl ⟨τf, ?_, e9, fun v k' q _ => e5 ⟨v, k', q.1⟩⟩
    simp (disch := omega) only [pn_g, pu_b1, pn_b2, pn_leT, pn_leF, pn_ltT, pn_ltF, pn_eqT, pn_eqF, pu_in, pu_ix, nI_add, pk_mul, pk_sub, ↓reduceIte, Bool.false_eq_true, if_false, if_true, nb_st_s, nb_st_k, nb_st_n, nb_sa_s, nb_sa_n, pL0, pL1, pL2, pL3, pL4, pL5, pL6, pL7, pL8, pL9, pL10, pL11, pL12, pL13, pL15, pL20, pL30, pL99, pL100, pL180, pL240, pL255, pL350, pL359, pL719, pL720, pL999, pL9999, pL99999, pL100000, pL1000000, pL48, pL57, pL60, pL98, pL101, pL102, pL103, pL104, pL105, pL106, pL107, pL108, pL109, pL110, pL111, pL112, pL113, pL114, pL115, pL116, pL117, pL118, pL119, pL120, pL121, pL199, n0, n1, and_self]
theorem i8_c {N : Nat} {σ τ : nb_St} {n k : Nat} {B : Nat → Nat} (hN : 10 < N) (ht : tx σ τ n B) (hk : τ 0 27 = nI k) (hkn : k < n) (hb : B k = 99) {o : Nat} (hc : τ 7 1 = nI o) (hc8 : o ≤ 3) : (∃ τ', fX8_item N τ = some (nI 0, τ') ∧ rff τ τ' ∧ ∀ v k', okr B n 2 (k + 1) 5 v k' → ¬ (o < 3)) ∨ ∃ v k' τf, okr B n 2 (k + 1) 5 v k' ∧ (o < 3) ∧ rff τ τf ∧ τf 0 27 = nI k' ∧ fX8_item N τ = some (nI 1, nb_st (nb_st (nb_st τf 8 (3 + o) (nI (v 0))) 9 (3 + o) (nI (v 1))) 7 1 (nI (o + 1))) := by
  have n4 := ht.1
  have hby : fX8_byteAt N τ (nI k) = some (nI 99) := by
    have := pr_byteAt (N := N) (k := k) ht rff_r (by omega)
    unfold bA at this
    rw [if_pos hkn, hb] at this
    exact this
  obtain ⟨⟨x, τf⟩, e1, e2, e3⟩ := pr_fig8 (N := N) (m := 2) (k0 := k + 1) hN (tx_p (v := nI (k + 1)) ht) nb_st_s (by omega) (by omega) (by omega)
  have e9 : rff τ τf := rff_t rff_p (show rff (nb_st τ 0 27 (nI (k + 1))) τf from e2)
  clear e2
  have e1 : fX8_figures N (nb_st τ 0 27 (nI (k + 1))) (2 : Int32) = some (x, τf) := e1
  have n0 : nb_01 (nI 0) = true := rfl
  have n1 : nb_01 (nI 1) = true := rfl
  unfold fX8_item
  rw [hk, hby, pu_b1, nI_1]
  dsimp only [nb_let]
  rw [if_neg (by decide), if_pos (show nI 99 = (99 : Int32) from rfl)]
  rw [e1, pn_b2]
  have q0 : τf 7 1 = nI o := by rw [e9.1 7 (by decide) (by decide)]; exact hc
  have q1 : nb_st τ 0 27 (nI (k + 1)) 7 1 = nI o := by rw [nb_st_k (by decide)]; exact hc
  rcases e3 with ⟨e4, v, k', e5, e6, e7⟩ | ⟨e4, e5⟩
  · have e4 : x = nI 1 := e4
    subst e4
    have e6 : ∀ j, j < 2 → τf 25 j = nI (v j) := e6
    have e7 : τf 0 27 = nI k' := e7
    obtain ⟨-, -, vb⟩ := pq_le e5
    have v0 := vb 0 (by omega)
    have w0 := e6 0 (by omega)
    have m0 := pr_min (N := N) (s := τf) v0
    have s0 := pr_in99 (N := N) (s := τf) v0
    have t0 := pr_in3 (N := N) (s := τf) v0
    have v1 := vb 1 (by omega)
    have w1 := e6 1 (by omega)
    have m1 := pr_min (N := N) (s := τf) v1
    have s1 := pr_in99 (N := N) (s := τf) v1
    have t1 := pr_in3 (N := N) (s := τf) v1
    have same : ∀ v' k2, okr B n 2 (k + 1) 5 v' k2 → ∀ j, j < 2 → v' j = v j := fun v' k2 q j hj => (pq_u q.1 e5).2 j hj
    by_cases co : o < 3
    rotate_left
    · have co2 : (nI o = nI 3) = True := eq_true (by rw [show o = 3 by omega])
      refine Or.inl ⟨τf, ?_, e9, ?_⟩
      · simp (disch := omega) only [pn_g, pu_b1, pn_b2, pn_leT, pn_leF, pn_ltT, pn_ltF, pn_eqT, pn_eqF, pu_in, pu_ix, nI_add, pk_mul, pk_sub, ↓reduceIte, Bool.false_eq_true, if_false, if_true, nb_st_s, nb_st_k, nb_st_n, nb_sa_s, nb_sa_n, pL0, pL1, pL2, pL3, pL4, pL5, pL6, pL7, pL8, pL9, pL10, pL11, pL12, pL13, pL15, pL20, pL30, pL99, pL100, pL180, pL240, pL255, pL350, pL359, pL719, pL720, pL999, pL9999, pL99999, pL100000, pL1000000, pL48, pL57, pL60, pL98, pL101, pL102, pL103, pL104, pL105, pL106, pL107, pL108, pL109, pL110, pL111, pL112, pL113, pL114, pL115, pL116, pL117, pL118, pL119, pL120, pL121, pL199, n0, n1, and_self, q0, q1, hc, w0, w1, s0, co2]
      · exact fun v2 k2 q z => co z
    by_cases d0 : 1 ≤ v 0 ∧ v 0 ≤ 99
    rotate_left
    · skip
      refine Or.inl ⟨τf, ?_, e9, ?_⟩
      · simp (disch := omega) only [pn_g, pu_b1, pn_b2, pn_leT, pn_leF, pn_ltT, pn_ltF, pn_eqT, pn_eqF, pu_in, pu_ix, nI_add, pk_mul, pk_sub, ↓reduceIte, Bool.false_eq_true, if_false, if_true, nb_st_s, nb_st_k, nb_st_n, nb_sa_s, nb_sa_n, pL0, pL1, pL2, pL3, pL4, pL5, pL6, pL7, pL8, pL9, pL10, pL11, pL12, pL13, pL15, pL20, pL30, pL99, pL100, pL180, pL240, pL255, pL350, pL359, pL719, pL720, pL999, pL9999, pL99999, pL100000, pL1000000, pL48, pL57, pL60, pL98, pL101, pL102, pL103, pL104, pL105, pL106, pL107, pL108, pL109, pL110, pL111, pL112, pL113, pL114, pL115, pL116, pL117, pL118, pL119, pL120, pL121, pL199, n0, n1, and_self, q0, q1, hc, w0, w1, s0, d0]
      · exact fun v2 k2 q z => d0 (by rw [← same v2 k2 q 0 (by omega)]; exact q.2 0 (by omega))
    refine Or.inr ⟨v, k', τf, ⟨e5, fun j hj => ?_⟩, co, e9, e7, ?_⟩
    · have : j = 0 ∨ j = 1 := by omega
      rcases this with rfl | rfl
      · show 1 ≤ v 0 ∧ v 0 ≤ 99
        omega
      · show 0 ≤ v 1 ∧ v 1 ≤ 999
        omega
    · simp (disch := omega) only [pn_g, pu_b1, pn_b2, pn_leT, pn_leF, pn_ltT, pn_ltF, pn_eqT, pn_eqF, pu_in, pu_ix, nI_add, pk_mul, pk_sub, ↓reduceIte, Bool.false_eq_true, if_false, if_true, nb_st_s, nb_st_k, nb_st_n, nb_sa_s, nb_sa_n, pL0, pL1, pL2, pL3, pL4, pL5, pL6, pL7, pL8, pL9, pL10, pL11, pL12, pL13, pL15, pL20, pL30, pL99, pL100, pL180, pL240, pL255, pL350, pL359, pL719, pL720, pL999, pL9999, pL99999, pL100000, pL1000000, pL48, pL57, pL60, pL98, pL101, pL102, pL103, pL104, pL105, pL106, pL107, pL108, pL109, pL110, pL111, pL112, pL113, pL114, pL115, pL116, pL117, pL118, pL119, pL120, pL121, pL199, n0, n1, and_self, q0, q1, hc, w0, w1, s0, d0]
  · have e4 : x = nI 0 := e4
    subst e4
    refine Or.inl ⟨τf, ?_, e9, fun v k' q _ => e5 ⟨v, k', q.1⟩⟩
    simp (disch := omega) only [pn_g, pu_b1, pn_b2, pn_leT, pn_leF, pn_ltT, pn_ltF, pn_eqT, pn_eqF, pu_in, pu_ix, nI_add, pk_mul, pk_sub, ↓reduceIte, Bool.false_eq_true, if_false, if_true, nb_st_s, nb_st_k, nb_st_n, nb_sa_s, nb_sa_n, pL0, pL1, pL2, pL3, pL4, pL5, pL6, pL7, pL8, pL9, pL10, pL11, pL12, pL13, pL15, pL20, pL30, pL99, pL100, pL180, pL240, pL255, pL350, pL359, pL719, pL720, pL999, pL9999, pL99999, pL100000, pL1000000, pL48, pL57, pL60, pL98, pL101, pL102, pL103, pL104, pL105, pL106, pL107, pL108, pL109, pL110, pL111, pL112, pL113, pL114, pL115, pL116, pL117, pL118, pL119, pL120, pL121, pL199, n0, n1, and_self, q0, q1, hc]
theorem i8_u {N : Nat} {σ τ : nb_St} {n k : Nat} {B : Nat → Nat} (hN : 10 < N) (ht : tx σ τ n B) (hk : τ 0 27 = nI k) (hkn : k < n) (hb : B k = 117)  : (∃ τ', fX8_item N τ = some (nI 0, τ') ∧ rff τ τ' ∧ ∀ v k', okr B n 3 (k + 1) 6 v k' → ¬ (True)) ∨ ∃ v k' τf, okr B n 3 (k + 1) 6 v k' ∧ (True) ∧ rff τ τf ∧ τf 0 27 = nI k' ∧ fX8_item N τ = some (nI 1, nb_st (nb_st τf 13 (2 + v 0) (nI (v 1))) 14 (2 + v 0) (nI (v 2))) := by
  have n4 := ht.1
  have hby : fX8_byteAt N τ (nI k) = some (nI 117) := by
    have := pr_byteAt (N := N) (k := k) ht rff_r (by omega)
    unfold bA at this
    rw [if_pos hkn, hb] at this
    exact this
  obtain ⟨⟨x, τf⟩, e1, e2, e3⟩ := pr_fig8 (N := N) (m := 3) (k0 := k + 1) hN (tx_p (v := nI (k + 1)) ht) nb_st_s (by omega) (by omega) (by omega)
  have e9 : rff τ τf := rff_t rff_p (show rff (nb_st τ 0 27 (nI (k + 1))) τf from e2)
  clear e2
  have e1 : fX8_figures N (nb_st τ 0 27 (nI (k + 1))) (3 : Int32) = some (x, τf) := e1
  have n0 : nb_01 (nI 0) = true := rfl
  have n1 : nb_01 (nI 1) = true := rfl
  unfold fX8_item
  rw [hk, hby, pu_b1, nI_1]
  dsimp only [nb_let]
  rw [if_neg (by decide), if_neg (by decide), if_neg (by decide), if_neg (by decide), if_neg (by decide), if_neg (by decide), if_neg (by decide), if_neg (by decide), if_neg (by decide), if_neg (by decide), if_neg (by decide), if_neg (by decide), if_neg (by decide), if_neg (by decide), if_neg (by decide), if_neg (by decide), if_neg (by decide), if_neg (by decide), if_neg (by decide), if_pos (show nI 117 = (117 : Int32) from rfl)]
  rw [e1, pn_b2]
  rcases e3 with ⟨e4, v, k', e5, e6, e7⟩ | ⟨e4, e5⟩
  · have e4 : x = nI 1 := e4
    subst e4
    have e6 : ∀ j, j < 3 → τf 25 j = nI (v j) := e6
    have e7 : τf 0 27 = nI k' := e7
    obtain ⟨-, -, vb⟩ := pq_le e5
    have v0 := vb 0 (by omega)
    have w0 := e6 0 (by omega)
    have m0 := pr_min (N := N) (s := τf) v0
    have s0 := pr_in99 (N := N) (s := τf) v0
    have t0 := pr_in3 (N := N) (s := τf) v0
    have v1 := vb 1 (by omega)
    have w1 := e6 1 (by omega)
    have m1 := pr_min (N := N) (s := τf) v1
    have s1 := pr_in99 (N := N) (s := τf) v1
    have t1 := pr_in3 (N := N) (s := τf) v1
    have v2 := vb 2 (by omega)
    have w2 := e6 2 (by omega)
    have m2 := pr_min (N := N) (s := τf) v2
    have s2 := pr_in99 (N := N) (s := τf) v2
    have t2 := pr_in3 (N := N) (s := τf) v2
    have same : ∀ v' k2, okr B n 3 (k + 1) 6 v' k2 → ∀ j, j < 3 → v' j = v j := fun v' k2 q j hj => (pq_u q.1 e5).2 j hj
    by_cases d0 : 1 ≤ v 0 ∧ v 0 ≤ 3
    rotate_left
    · skip
      refine Or.inl ⟨τf, ?_, e9, ?_⟩
      · simp (disch := omega) only [pn_g, pu_b1, pn_b2, pn_leT, pn_leF, pn_ltT, pn_ltF, pn_eqT, pn_eqF, pu_in, pu_ix, nI_add, pk_mul, pk_sub, ↓reduceIte, Bool.false_eq_true, if_false, if_true, nb_st_s, nb_st_k, nb_st_n, nb_sa_s, nb_sa_n, pL0, pL1, pL2, pL3, pL4, pL5, pL6, pL7, pL8, pL9, pL10, pL11, pL12, pL13, pL15, pL20, pL30, pL99, pL100, pL180, pL240, pL255, pL350, pL359, pL719, pL720, pL999, pL9999, pL99999, pL100000, pL1000000, pL48, pL57, pL60, pL98, pL101, pL102, pL103, pL104, pL105, pL106, pL107, pL108, pL109, pL110, pL111, pL112, pL113, pL114, pL115, pL116, pL117, pL118, pL119, pL120, pL121, pL199, n0, n1, and_self, w0, w1, w2, t0, d0]
      · exact fun v2 k2 q z => d0 (by rw [← same v2 k2 q 0 (by omega)]; exact q.2 0 (by omega))
    by_cases d1 : v 1 ≤ 99
    rotate_left
    · skip
      refine Or.inl ⟨τf, ?_, e9, ?_⟩
      · simp (disch := omega) only [pn_g, pu_b1, pn_b2, pn_leT, pn_leF, pn_ltT, pn_ltF, pn_eqT, pn_eqF, pu_in, pu_ix, nI_add, pk_mul, pk_sub, ↓reduceIte, Bool.false_eq_true, if_false, if_true, nb_st_s, nb_st_k, nb_st_n, nb_sa_s, nb_sa_n, pL0, pL1, pL2, pL3, pL4, pL5, pL6, pL7, pL8, pL9, pL10, pL11, pL12, pL13, pL15, pL20, pL30, pL99, pL100, pL180, pL240, pL255, pL350, pL359, pL719, pL720, pL999, pL9999, pL99999, pL100000, pL1000000, pL48, pL57, pL60, pL98, pL101, pL102, pL103, pL104, pL105, pL106, pL107, pL108, pL109, pL110, pL111, pL112, pL113, pL114, pL115, pL116, pL117, pL118, pL119, pL120, pL121, pL199, n0, n1, and_self, w0, w1, w2, t0, d0, d1]
      · exact fun v2 k2 q z => d1 (by rw [← same v2 k2 q 1 (by omega)]; exact (q.2 1 (by omega)).2)
    by_cases d2 : v 2 ≤ 99
    rotate_left
    · skip
      refine Or.inl ⟨τf, ?_, e9, ?_⟩
      · simp (disch := omega) only [pn_g, pu_b1, pn_b2, pn_leT, pn_leF, pn_ltT, pn_ltF, pn_eqT, pn_eqF, pu_in, pu_ix, nI_add, pk_mul, pk_sub, ↓reduceIte, Bool.false_eq_true, if_false, if_true, nb_st_s, nb_st_k, nb_st_n, nb_sa_s, nb_sa_n, pL0, pL1, pL2, pL3, pL4, pL5, pL6, pL7, pL8, pL9, pL10, pL11, pL12, pL13, pL15, pL20, pL30, pL99, pL100, pL180, pL240, pL255, pL350, pL359, pL719, pL720, pL999, pL9999, pL99999, pL100000, pL1000000, pL48, pL57, pL60, pL98, pL101, pL102, pL103, pL104, pL105, pL106, pL107, pL108, pL109, pL110, pL111, pL112, pL113, pL114, pL115, pL116, pL117, pL118, pL119, pL120, pL121, pL199, n0, n1, and_self, w0, w1, w2, t0, d0, d1, d2]
      · exact fun v2 k2 q z => d2 (by rw [← same v2 k2 q 2 (by omega)]; exact (q.2 2 (by omega)).2)
    refine Or.inr ⟨v, k', τf, ⟨e5, fun j hj => ?_⟩, trivial, e9, e7, ?_⟩
    · have : j = 0 ∨ j = 1 ∨ j = 2 := by omega
      rcases this with rfl | rfl | rfl
      · show 1 ≤ v 0 ∧ v 0 ≤ 3
        omega
      · show 0 ≤ v 1 ∧ v 1 ≤ 99
        omega
      · show 0 ≤ v 2 ∧ v 2 ≤ 99
        omega
    · simp (disch := omega) only [pn_g, pu_b1, pn_b2, pn_leT, pn_leF, pn_ltT, pn_ltF, pn_eqT, pn_eqF, pu_in, pu_ix, nI_add, pk_mul, pk_sub, ↓reduceIte, Bool.false_eq_true, if_false, if_true, nb_st_s, nb_st_k, nb_st_n, nb_sa_s, nb_sa_n, pL0, pL1, pL2, pL3, pL4, pL5, pL6, pL7, pL8, pL9, pL10, pL11, pL12, pL13, pL15, pL20, pL30, pL99, pL100, pL180, pL240, pL255, pL350, pL359, pL719, pL720, pL999, pL9999, pL99999, pL100000, pL1000000, pL48, pL57, pL60, pL98, pL101, pL102, pL103, pL104, pL105, pL106, pL107, pL108, pL109, pL110, pL111, pL112, pL113, pL114, pL115, pL116, pL117, pL118, pL119, pL120, pL121, pL199, n0, n1, and_self, w0, w1, w2, t0, d0, d1, d2]
  · have e4 : x = nI 0 := e4
    subst e4
    refine Or.inl ⟨τf, ?_, e9, fun v k' q _ => e5 ⟨v, k', q.1⟩⟩
    simp (disch := omega) only [pn_g, pu_b1, pn_b2, pn_leT, pn_leF, pn_ltT, pn_ltF, pn_eqT, pn_eqF, pu_in, pu_ix, nI_add, pk_mul, pk_sub, ↓reduceIte, Bool.false_eq_true, if_false, if_true, nb_st_s, nb_st_k, nb_st_n, nb_sa_s, nb_sa_n, pL0, pL1, pL2, pL3, pL4, pL5, pL6, pL7, pL8, pL9, pL10, pL11, pL12, pL13, pL15, pL20, pL30, pL99, pL100, pL180, pL240, pL255, pL350, pL359, pL719, pL720, pL999, pL9999, pL99999, pL100000, pL1000000, pL48, pL57, pL60, pL98, pL101, pL102, pL103, pL104, pL105, pL106, pL107, pL108, pL109, pL110, pL111, pL112, pL113, pL114, pL115, pL116, pL117, pL118, pL119, pL120, pL121, pL199, n0, n1, and_self]
theorem i8_y {N : Nat} {σ τ : nb_St} {n k : Nat} {B : Nat → Nat} (hN : 10 < N) (ht : tx σ τ n B) (hk : τ 0 27 = nI k) (hkn : k < n) (hb : B k = 121) {w g : Nat} (hc : τ 15 1 = nI w) (hc8 : w ≤ 6) (hg : τ 2 1 = nI g) (hg8 : g ≤ 8) : (∃ τ', fX8_item N τ = some (nI 0, τ') ∧ rff τ τ' ∧ ∀ v k', okr B n 3 (k + 1) 7 v k' → ¬ (w < 6 ∧ v 0 < g)) ∨ ∃ v k' τf, okr B n 3 (k + 1) 7 v k' ∧ (w < 6 ∧ v 0 < g) ∧ rff τ τf ∧ τf 0 27 = nI k' ∧ fX8_item N τ = some (nI 1, nb_st (nb_st (nb_st (nb_st τf 16 (6 + w) (nI (v 0))) 17 (6 + w) (nI (v 1))) 18 (6 + w) (nI (v 2))) 15 1 (nI (w + 1))) := by
  have n4 := ht.1
  have hby : fX8_byteAt N τ (nI k) = some (nI 121) := by
    have := pr_byteAt (N := N) (k := k) ht rff_r (by omega)
    unfold bA at this
    rw [if_pos hkn, hb] at this
    exact this
  obtain ⟨⟨x, τf⟩, e1, e2, e3⟩ := pr_fig8 (N := N) (m := 3) (k0 := k + 1) hN (tx_p (v := nI (k + 1)) ht) nb_st_s (by omega) (by omega) (by omega)
  have e9 : rff τ τf := rff_t rff_p (show rff (nb_st τ 0 27 (nI (k + 1))) τf from e2)
  clear e2
  have e1 : fX8_figures N (nb_st τ 0 27 (nI (k + 1))) (3 : Int32) = some (x, τf) := e1
  have n0 : nb_01 (nI 0) = true := rfl
  have n1 : nb_01 (nI 1) = true := rfl
  unfold fX8_item
  rw [hk, hby, pu_b1, nI_1]
  dsimp only [nb_let]
  rw [if_neg (by decide), if_neg (by decide), if_neg (by decide), if_neg (by decide), if_neg (by decide), if_neg (by decide), if_neg (by decide), if_neg (by decide), if_neg (by decide), if_neg (by decide), if_neg (by decide), if_neg (by decide), if_neg (by decide), if_neg (by decide), if_neg (by decide), if_neg (by decide), if_neg (by decide), if_neg (by decide), if_neg (by decide), if_neg (by decide), if_neg (by decide), if_neg (by decide), if_neg (by decide), if_pos (show nI 121 = (121 : Int32) from rfl)]
  unfold fX8_lookItem
  dsimp only [nb_let]
  rw [nb_g_t (show nb_in (1 : Int32) 2 = true by decide), e1, pn_b2]
  have q0 : τf 15 1 = nI w := by rw [e9.1 15 (by decide) (by decide)]; exact hc
  have q1 : nb_st τ 0 27 (nI (k + 1)) 15 1 = nI w := by rw [nb_st_k (by decide)]; exact hc
  have q2 : τf 2 1 = nI g := by rw [e9.1 2 (by decide) (by decide)]; exact hg
  rcases e3 with ⟨e4, v, k', e5, e6, e7⟩ | ⟨e4, e5⟩
  · have e4 : x = nI 1 := e4
    subst e4
    have e6 : ∀ j, j < 3 → τf 25 j = nI (v j) := e6
    have e7 : τf 0 27 = nI k' := e7
    obtain ⟨-, -, vb⟩ := pq_le e5
    have v0 := vb 0 (by omega)
    have w0 := e6 0 (by omega)
    have m0 := pr_min (N := N) (s := τf) v0
    have s0 := pr_in99 (N := N) (s := τf) v0
    have t0 := pr_in3 (N := N) (s := τf) v0
    have v1 := vb 1 (by omega)
    have w1 := e6 1 (by omega)
    have m1 := pr_min (N := N) (s := τf) v1
    have s1 := pr_in99 (N := N) (s := τf) v1
    have t1 := pr_in3 (N := N) (s := τf) v1
    have v2 := vb 2 (by omega)
    have w2 := e6 2 (by omega)
    have m2 := pr_min (N := N) (s := τf) v2
    have s2 := pr_in99 (N := N) (s := τf) v2
    have t2 := pr_in3 (N := N) (s := τf) v2
    have same : ∀ v' k2, okr B n 3 (k + 1) 7 v' k2 → ∀ j, j < 3 → v' j = v j := fun v' k2 q j hj => (pq_u q.1 e5).2 j hj
    by_cases cw : w < 6
    rotate_left
    · have cw2 : (nI w = nI 6) = True := eq_true (by rw [show w = 6 by omega])
      refine Or.inl ⟨τf, ?_, e9, ?_⟩
      · simp (disch := omega) only [pn_g, pu_b1, pn_b2, pn_leT, pn_leF, pn_ltT, pn_ltF, pn_eqT, pn_eqF, pu_in, pu_ix, nI_add, pk_mul, pk_sub, ↓reduceIte, Bool.false_eq_true, if_false, if_true, nb_st_s, nb_st_k, nb_st_n, nb_sa_s, nb_sa_n, pL0, pL1, pL2, pL3, pL4, pL5, pL6, pL7, pL8, pL9, pL10, pL11, pL12, pL13, pL15, pL20, pL30, pL99, pL100, pL180, pL240, pL255, pL350, pL359, pL719, pL720, pL999, pL9999, pL99999, pL100000, pL1000000, pL48, pL57, pL60, pL98, pL101, pL102, pL103, pL104, pL105, pL106, pL107, pL108, pL109, pL110, pL111, pL112, pL113, pL114, pL115, pL116, pL117, pL118, pL119, pL120, pL121, pL199, n0, n1, and_self, q0, q1, hc, q2, w0, w1, w2, m1, cw2]
      · exact fun v2 k2 q z => cw z.1
    by_cases cge : v 0 < g
    rotate_left
    · skip
      refine Or.inl ⟨τf, ?_, e9, ?_⟩
      · simp (disch := omega) only [pn_g, pu_b1, pn_b2, pn_leT, pn_leF, pn_ltT, pn_ltF, pn_eqT, pn_eqF, pu_in, pu_ix, nI_add, pk_mul, pk_sub, ↓reduceIte, Bool.false_eq_true, if_false, if_true, nb_st_s, nb_st_k, nb_st_n, nb_sa_s, nb_sa_n, pL0, pL1, pL2, pL3, pL4, pL5, pL6, pL7, pL8, pL9, pL10, pL11, pL12, pL13, pL15, pL20, pL30, pL99, pL100, pL180, pL240, pL255, pL350, pL359, pL719, pL720, pL999, pL9999, pL99999, pL100000, pL1000000, pL48, pL57, pL60, pL98, pL101, pL102, pL103, pL104, pL105, pL106, pL107, pL108, pL109, pL110, pL111, pL112, pL113, pL114, pL115, pL116, pL117, pL118, pL119, pL120, pL121, pL199, n0, n1, and_self, q0, q1, hc, q2, w0, w1, w2, m1]
      · exact fun v2 k2 q z => cge (by rw [← same v2 k2 q 0 (by omega)]; exact z.2)
    by_cases d1 : v 1 ≤ 359
    rotate_left
    · skip
      refine Or.inl ⟨τf, ?_, e9, ?_⟩
      · simp (disch := omega) only [pn_g, pu_b1, pn_b2, pn_leT, pn_leF, pn_ltT, pn_ltF, pn_eqT, pn_eqF, pu_in, pu_ix, nI_add, pk_mul, pk_sub, ↓reduceIte, Bool.false_eq_true, if_false, if_true, nb_st_s, nb_st_k, nb_st_n, nb_sa_s, nb_sa_n, pL0, pL1, pL2, pL3, pL4, pL5, pL6, pL7, pL8, pL9, pL10, pL11, pL12, pL13, pL15, pL20, pL30, pL99, pL100, pL180, pL240, pL255, pL350, pL359, pL719, pL720, pL999, pL9999, pL99999, pL100000, pL1000000, pL48, pL57, pL60, pL98, pL101, pL102, pL103, pL104, pL105, pL106, pL107, pL108, pL109, pL110, pL111, pL112, pL113, pL114, pL115, pL116, pL117, pL118, pL119, pL120, pL121, pL199, n0, n1, and_self, q0, q1, hc, q2, w0, w1, w2, m1, d1]
      · exact fun v2 k2 q z => d1 (by rw [← same v2 k2 q 1 (by omega)]; exact (q.2 1 (by omega)).2)
    by_cases d2 : v 2 ≤ 1
    rotate_left
    · skip
      refine Or.inl ⟨τf, ?_, e9, ?_⟩
      · simp (disch := omega) only [pn_g, pu_b1, pn_b2, pn_leT, pn_leF, pn_ltT, pn_ltF, pn_eqT, pn_eqF, pu_in, pu_ix, nI_add, pk_mul, pk_sub, ↓reduceIte, Bool.false_eq_true, if_false, if_true, nb_st_s, nb_st_k, nb_st_n, nb_sa_s, nb_sa_n, pL0, pL1, pL2, pL3, pL4, pL5, pL6, pL7, pL8, pL9, pL10, pL11, pL12, pL13, pL15, pL20, pL30, pL99, pL100, pL180, pL240, pL255, pL350, pL359, pL719, pL720, pL999, pL9999, pL99999, pL100000, pL1000000, pL48, pL57, pL60, pL98, pL101, pL102, pL103, pL104, pL105, pL106, pL107, pL108, pL109, pL110, pL111, pL112, pL113, pL114, pL115, pL116, pL117, pL118, pL119, pL120, pL121, pL199, n0, n1, and_self, q0, q1, hc, q2, w0, w1, w2, m1, d1, d2]
      · exact fun v2 k2 q z => d2 (by rw [← same v2 k2 q 2 (by omega)]; exact (q.2 2 (by omega)).2)
    refine Or.inr ⟨v, k', τf, ⟨e5, fun j hj => ?_⟩, ⟨cw, cge⟩, e9, e7, ?_⟩
    · have : j = 0 ∨ j = 1 ∨ j = 2 := by omega
      rcases this with rfl | rfl | rfl
      · show 0 ≤ v 0 ∧ v 0 ≤ 7
        omega
      · show 0 ≤ v 1 ∧ v 1 ≤ 359
        omega
      · show 0 ≤ v 2 ∧ v 2 ≤ 1
        omega
    · simp (disch := omega) only [pn_g, pu_b1, pn_b2, pn_leT, pn_leF, pn_ltT, pn_ltF, pn_eqT, pn_eqF, pu_in, pu_ix, nI_add, pk_mul, pk_sub, ↓reduceIte, Bool.false_eq_true, if_false, if_true, nb_st_s, nb_st_k, nb_st_n, nb_sa_s, nb_sa_n, pL0, pL1, pL2, pL3, pL4, pL5, pL6, pL7, pL8, pL9, pL10, pL11, pL12, pL13, pL15, pL20, pL30, pL99, pL100, pL180, pL240, pL255, pL350, pL359, pL719, pL720, pL999, pL9999, pL99999, pL100000, pL1000000, pL48, pL57, pL60, pL98, pL101, pL102, pL103, pL104, pL105, pL106, pL107, pL108, pL109, pL110, pL111, pL112, pL113, pL114, pL115, pL116, pL117, pL118, pL119, pL120, pL121, pL199, n0, n1, and_self, q0, q1, hc, q2, w0, w1, w2, m1, d1, d2]
  · have e4 : x = nI 0 := e4
    subst e4
    refine Or.inl ⟨τf, ?_, e9, fun v k' q _ => e5 ⟨v, k', q.1⟩⟩
    simp (disch := omega) only [pn_g, pu_b1, pn_b2, pn_leT, pn_leF, pn_ltT, pn_ltF, pn_eqT, pn_eqF, pu_in, pu_ix, nI_add, pk_mul, pk_sub, ↓reduceIte, Bool.false_eq_true, if_false, if_true, nb_st_s, nb_st_k, nb_st_n, nb_sa_s, nb_sa_n, pL0, pL1, pL2, pL3, pL4, pL5, pL6, pL7, pL8, pL9, pL10, pL11, pL12, pL13, pL15, pL20, pL30, pL99, pL100, pL180, pL240, pL255, pL350, pL359, pL719, pL720, pL999, pL9999, pL99999, pL100000, pL1000000, pL48, pL57, pL60, pL98, pL101, pL102, pL103, pL104, pL105, pL106, pL107, pL108, pL109, pL110, pL111, pL112, pL113, pL114, pL115, pL116, pL117, pL118, pL119, pL120, pL121, pL199, n0, n1, and_self, q0, q1, hc, q2]
end
