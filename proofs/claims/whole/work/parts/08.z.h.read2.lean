section
def hm8 (L : Nat) : Nat := [4, 2, 1, 2, 1, 2, 3, 3].getD L 0
def lo8 (k : Nat) : Nat := [0, 0, 0, 0, 0, 1, 0, 0, 0, 0, 0, 0, 0, 0, 0, 0, 0, 0, 0, 0, 1, 0, 0, 0, 1, 0, 0, 0, 0, 0, 0, 0].getD k 0
def hi8 (k : Nat) : Nat := [3, 359, 199, 5, 359, 99, 0, 0, 359, 0, 0, 0, 99, 60, 0, 0, 359, 0, 0, 0, 99, 999, 0, 0, 3, 99, 99, 0, 7, 359, 1, 0].getD k 0
def tb8 (L : Nat) : Nat := [103, 115, 119, 108, 98, 99, 117, 121].getD L 0
theorem tab0_n : ∀ L, L < 8 → nb_tab0 L = nI (hm8 L) ∧ 1 ≤ hm8 L ∧ hm8 L ≤ 4 := by decide +kernel
theorem tab1_n : ∀ k, k < 32 → nb_tab1 k = nI (lo8 k) ∧ lo8 k ≤ 1 := by decide +kernel
theorem tab2_n : ∀ k, k < 32 → nb_tab2 k = nI (hi8 k) ∧ hi8 k ≤ 999 := by decide +kernel
theorem tab3_n : ∀ L, L < 8 → nb_tab3 L = nI (tb8 L) ∧ tb8 L < 128 := by decide +kernel
theorem b8_n : ∀ b, b < 256 → ((b < 128 → (nI b).toInt8.toInt32 = nI b) ∧ (128 ≤ b → (nI b).toInt8.toInt32 < 0)) ∧ ((nI b).toUInt32 % 65536).toInt32 = nI b := by decide +kernel
/-- one number with its range and what ends it: class -/
def okr (B : Nat → Nat) (n m k0 L : Nat) (v : Nat → Nat) (k : Nat) : Prop := pq B n m k0 m v k ∧ ∀ j, j < m → lo8 (4 * L + j) ≤ v j ∧ v j ≤ hi8 (4 * L + j)
theorem pr_nums7 {N : Nat} {σ τ : nb_St} {n k L : Nat} {B : Nat → Nat} (hN : 10 < N) (ht : tx σ τ n B) (hk : σ 2 1 = nI k) (hkn : k < n) (hL : L < 8) : ∃ r, fX5_readNumbers N σ (nI n) (nI L) = some r ∧ (∀ a, a ≠ 2 → a ≠ 3 → r.2 a = σ a) ∧ ((r.1 = nI 1 ∧ ∃ v k', okr B n (hm8 L) (k + 1) L v k' ∧ (∀ j, j < hm8 L → r.2 3 j = nI (v j)) ∧ r.2 2 1 = nI k') ∨ (r.1 = nI 0 ∧ ¬ ∃ v k', okr B n (hm8 L) (k + 1) L v k')) := by
  obtain ⟨m0, m1, m2⟩ := tab0_n L hL
  obtain ⟨m, hm⟩ : ∃ m, m = hm8 L := ⟨_, rfl⟩
  rw [← hm] at m0 m1 m2 ⊢
  have n4 := ht.1
  unfold fX5_readNumbers
  simp only [nb_let]
  rw [nb_g_t (pu_in hL (by omega)), pu_ix (by omega), m0, hk, nI_1]
  refine nb_e2 (I := fun j x s => j ≤ m ∧ x = nI j ∧ (∀ a, a ≠ 2 → a ≠ 3 → s a = σ a) ∧ ∃ v k', pq B n m (k + 1) j v k' ∧ (∀ i, i < j → lo8 (4 * L + i) ≤ v i ∧ v i ≤ hi8 (4 * L + i)) ∧ (∀ i, i < j → s 3 i = nI (v i)) ∧ s 2 1 = nI k' ∧ k' ≤ n) m ?_ (by omega) ⟨by omega, rfl, fun a a1 _ => nb_st_k a1, fun _ => 0, k + 1, rfl, fun i hi => absurd hi (by omega), fun i hi => absurd hi (by omega), nb_st_s, by omega⟩
  rintro ag j x s ⟨hj, rfl, f1, v, k1, f2, f3, f4, f5, f6⟩
  by_cases hlt : j < m
  · have hts : tx s τ n B := by
      unfold tx at *
      rw [f1 1 (by decide) (by decide)]
      exact ht
    obtain ⟨⟨y, u⟩, e1, c, c1, c2, c3, c4, c5, c6, c7⟩ := pr_num7 hN hts f5 f6
    have c5 : y = (if c = 0 then -1 else nI (vlu B k1 c)) := c5
    have c6 : ∀ a, a ≠ 2 → u a = s a := c6
    have c7 : u 2 1 = nI (k1 + c) := c7
    obtain ⟨l1, l2⟩ := tab1_n (4 * L + j) (by omega)
    obtain ⟨h1, h2⟩ := tab2_n (4 * L + j) (by omega)
    have vb := vlu_lt c c3
    have vb2 : vlu B k1 c < 1000 := by
      have : c = 0 ∨ c = 1 ∨ c = 2 ∨ c = 3 := by omega
      rcases this with rfl | rfl | rfl | rfl <;> omega
    have hc4 : (4 : Int32) * nI L + nI j = nI (4 * L + j) := by rw [show (4 : Int32) = nI 4 from rfl, pk_mul, nI_add]
    -- what fails
    have bad : ¬ (1 ≤ c ∧ lo8 (4 * L + j) ≤ vlu B k1 c ∧ vlu B k1 c ≤ hi8 (4 * L + j) ∧ k1 + c < n ∧ B (k1 + c) = due m j) → ¬ ∃ v k', okr B n m (k + 1) L v k' := by
      rintro hb ⟨v', k', g1, g2⟩
      obtain ⟨k2, g3⟩ := pq_pre g1 (j + 1) (by omega)
      obtain ⟨k3, g4, g5⟩ := g3
      obtain ⟨g6, -⟩ := pq_u f2 g4
      subst g6
      obtain ⟨f, p1, p2, p3, p4, p5, p6, p7⟩ := g5
      have hcf : c = f := by
        rcases c4 with q | q
        · subst q
          rcases Nat.lt_trichotomy 3 f with z | z | z
          · omega
          · exact z
          · exact absurd (c3 f z) (due_nd due_o p5)
        · exact run_u c3 (due_nd due_o p5) p3 q
      subst hcf
      obtain ⟨r1, r2⟩ := g2 j hlt
      rw [p6] at r1 r2
      exact hb ⟨p1, r1, r2, p4, p5⟩
    have hres : ∀ t : nb_St, (∀ a, a ≠ 2 → a ≠ 3 → t a = σ a) → ¬ (1 ≤ c ∧ lo8 (4 * L + j) ≤ vlu B k1 c ∧ vlu B k1 c ≤ hi8 (4 * L + j) ∧ k1 + c < n ∧ B (k1 + c) = due m j) → ∃ r, some ((0 : Int32), t) = some r ∧ (∀ a, a ≠ 2 → a ≠ 3 → r.2 a = σ a) ∧ ((r.1 = nI 1 ∧ ∃ v k', okr B n m (k + 1) L v k' ∧ (∀ j, j < m → r.2 3 j = nI (v j)) ∧ r.2 2 1 = nI k') ∨ (r.1 = nI 0 ∧ ¬ ∃ v k', okr B n m (k + 1) L v k')) := fun t ht hb => ⟨_, rfl, ht, Or.inr ⟨rfl, bad hb⟩⟩
    have fu : ∀ a, a ≠ 2 → a ≠ 3 → u a = σ a := fun a a1 a2 => by rw [c6 a a1]; exact f1 a a1 a2
    rw [if_neg (nI_ge hlt (by omega)), e1, pn_b2, hc4, nb_g_t (pu_in (by omega) (by omega)), pu_ix (by omega), l1, nb_g_t (pu_in (by omega) (by omega)), h1, nb_g_t (pu_in (by omega) (by omega)), pu_ix (by omega)]
    by_cases z0 : c = 0
    · left
      rw [c5, if_pos z0, if_pos (show (-1 : Int32) < nI (lo8 (4 * L + j)) from Int32.lt_of_lt_of_le (by decide) (nI_pos' (by omega)))]
      exact hres u fu (fun q => by omega)
    · rw [c5, if_neg z0]
      by_cases z1 : lo8 (4 * L + j) ≤ vlu B k1 c
      · rw [if_neg (nI_nlt z1 (by omega))]
        by_cases z2 : vlu B k1 c ≤ hi8 (4 * L + j)
        · rw [if_pos (nI_le z2 (by omega))]
          have w1 : nb_st u 3 j (nI (vlu B k1 c)) 2 1 = nI (k1 + c) := by rw [nb_st_k (by decide)]; exact c7
          have w2 : nb_st u 3 j (nI (vlu B k1 c)) 1 = σ 1 := by rw [nb_st_k (by decide)]; exact fu 1 (by decide) (by decide)
          have w3 : ∀ a, a ≠ 2 → a ≠ 3 → nb_st u 3 j (nI (vlu B k1 c)) a = σ a := fun a a1 a2 => by rw [nb_st_k a2]; exact fu a a1 a2
          have hdue : ∀ {R : Type} (F : Int32 → Option R), (if nI j = nI m - 1 then F (59 : Int32) else F (44 : Int32)) = F (nI (due m j)) := by
            intro R F
            rw [pu_pred (by omega)]
            unfold due
            by_cases q : j + 1 = m
            · rw [if_pos (show nI j = nI (m - 1) by rw [show m - 1 = j by omega]), if_pos q]; rfl
            · rw [if_neg (fun z => q (by have := (nI_eq (by omega) (by omega)).mp z; omega)), if_neg q]; rfl
          rw [w1, w2, nI_1]
          have goal2 : ∀ (dv : Nat), dv = due m j → (∃ r, (if nI n ≤ nI (k1 + c) then some ((0 : Int32), nb_st u 3 j (nI (vlu B k1 c))) else nb_g (nb_in (nI (k1 + c)) 400) (if σ 1 (nb_ix (nI (k1 + c))) = nI dv then ag (nI (j + 1)) (nb_st (nb_st u 3 j (nI (vlu B k1 c))) 2 1 (nI (k1 + c) + 1)) else some ((0 : Int32), nb_st u 3 j (nI (vlu B k1 c))))) = some r ∧ (∀ a, a ≠ 2 → a ≠ 3 → r.2 a = σ a) ∧ ((r.1 = nI 1 ∧ ∃ v k', okr B n m (k + 1) L v k' ∧ (∀ j, j < m → r.2 3 j = nI (v j)) ∧ r.2 2 1 = nI k') ∨ (r.1 = nI 0 ∧ ¬ ∃ v k', okr B n m (k + 1) L v k'))) ∨ (j < m ∧ ∃ b0 b1, (j + 1 ≤ m ∧ b0 = nI (j + 1) ∧ (∀ a, a ≠ 2 → a ≠ 3 → b1 a = σ a) ∧ ∃ v k', pq B n m (k + 1) (j + 1) v k' ∧ (∀ i, i < j + 1 → lo8 (4 * L + i) ≤ v i ∧ v i ≤ hi8 (4 * L + i)) ∧ (∀ i, i < j + 1 → b1 3 i = nI (v i)) ∧ b1 2 1 = nI k' ∧ k' ≤ n) ∧ (if nI n ≤ nI (k1 + c) then some ((0 : Int32), nb_st u 3 j (nI (vlu B k1 c))) else nb_g (nb_in (nI (k1 + c)) 400) (if σ 1 (nb_ix (nI (k1 + c))) = nI dv then ag (nI (j + 1)) (nb_st (nb_st u 3 j (nI (vlu B k1 c))) 2 1 (nI (k1 + c) + 1)) else some ((0 : Int32), nb_st u 3 j (nI (vlu B k1 c))))) = ag b0 b1) := by
            rintro dv rfl
            by_cases z3 : k1 + c < n
            · obtain ⟨b1, b2, b3, b4⟩ := ht.2.2 (k1 + c) z3
              rw [if_neg (nI_ge z3 (by omega)), nb_g_t (pu_in (by omega) (by omega)), pu_ix (by omega)]
              have db : due m j < 128 := by have := due_o (m := m) (j := j); omega
              by_cases z4 : B (k1 + c) = due m j
              · right
                have b5 : σ 1 (k1 + c) = nI (due m j) := by
                  rcases b4 with ⟨-, q⟩ | ⟨q, -⟩
                  · rw [q, z4]
                  · omega
                rw [if_pos b5, nI_1]
                refine ⟨hlt, nI (j + 1), nb_st (nb_st u 3 j (nI (vlu B k1 c))) 2 1 (nI (k1 + c + 1)), ⟨by omega, rfl, fun a a1 a2 => by rw [nb_st_k a1]; exact w3 a a1 a2, us v j (vlu B k1 c), k1 + c + 1, ⟨k1, pq_c (fun i hi => by rw [us_n (by omega)]) f2, ?_⟩, fun i hi => ?_, fun i hi => ?_, nb_st_s, by omega⟩, rfl⟩
                · rw [us_s]; exact ⟨c, by omega, c1, c3, z3, z4, rfl, rfl⟩
                · by_cases q : i = j
                  · subst q; rw [us_s]; exact ⟨z1, z2⟩
                  · rw [us_n q]; exact f3 i (by omega)
                · rw [nb_st_k (by decide)]
                  by_cases q : i = j
                  · subst q; rw [us_s, nb_st_s]
                  · rw [us_n q, nb_st_n (Or.inr q), c6 3 (by decide)]; exact f4 i (by omega)
              · left
                have b5 : ¬ σ 1 (k1 + c) = nI (due m j) := fun q => by
                  rcases b4 with ⟨q1, q2⟩ | ⟨q1, q2⟩
                  · rw [q2] at q; exact z4 ((nI_eq (by omega) (by omega)).mp q)
                  · rw [q] at q2; exact absurd q2 (nI_pos (by omega))
                rw [if_neg b5]
                exact hres _ w3 (fun q => z4 q.2.2.2.2)
            · left
              rw [if_pos (nI_le (by omega) (by omega))]
              exact hres _ w3 (fun q => z3 q.2.2.2.1)
          by_cases q : j + 1 = m
          · have hd : due m j = 59 := if_pos q
            rw [pu_pred (by omega), if_pos (show nI j = nI (m - 1) by rw [show m - 1 = j by omega])]
            exact goal2 59 hd.symm
          · have hd : due m j = 44 := if_neg q
            rw [pu_pred (by omega), if_neg (fun z => q (by have := (nI_eq (by omega) (by omega)).mp z; omega))]
            exact goal2 44 hd.symm
        · left
          rw [if_neg (nI_ge (by omega) (by omega))]
          exact hres u fu (fun q => z2 q.2.2.1)
      · left
        rw [if_pos (nI_lt (by omega) (by omega))]
        exact hres u fu (fun q => z1 q.2.1)
  · left
    have : j = m := by omega
    subst this
    refine ⟨(nI 1, s), ?_, f1, Or.inl ⟨rfl, v, k1, ⟨f2, f3⟩, f4, f5⟩⟩
    rw [if_pos (nI_le (Nat.le_refl _) (by omega))]
    rfl
theorem pr_index {N : Nat} {σ : nb_St} {b : Nat} (hN : 10 < N) (hb : b < 256) : ∃ r, fJ0_indexOf_0f7a4 N σ (nI b) = some r ∧ ((∃ L, L < 8 ∧ tb8 L = b ∧ r = nI L) ∨ (r = -1 ∧ ∀ L, L < 8 → tb8 L ≠ b)) := by
  obtain ⟨⟨b1, b2⟩, -⟩ := b8_n b hb
  have hch : ∃ r, fJ1_indexOfChar_4cfef N σ (nI b) (0 : Int32) (8 : Int32) = some r ∧ ((∃ L, L < 8 ∧ tb8 L = b ∧ r = nI L) ∨ (r = -1 ∧ ∀ L, L < 8 → tb8 L ≠ b)) := by
    unfold fJ1_indexOfChar_4cfef
    simp only [nb_let]
    refine nb_e1 (I := fun j x => j ≤ 8 ∧ x = nI j ∧ ∀ i, i < j → tb8 i ≠ b) 8 ?_ (by omega) ⟨by omega, rfl, fun i hi => absurd hi (by omega)⟩
    rintro ag j x ⟨hj, rfl, f1⟩
    by_cases hlt : j < 8
    · obtain ⟨t1, t2⟩ := tab3_n j hlt
      rw [if_neg (show ¬ (8 : Int32) ≤ nI j from nI_ge (b := 8) hlt (by omega)), nb_g_t (pu_in hlt (by omega)), pu_ix (by omega), t1]
      by_cases c : tb8 j = b
      · left
        rw [b1 (by omega), if_pos (by rw [c])]
        exact ⟨_, rfl, Or.inl ⟨j, hlt, c, rfl⟩⟩
      · right
        refine ⟨hlt, nI (j + 1), ⟨by omega, rfl, fun i hi => ?_⟩, ?_⟩
        · by_cases q : i = j
          · subst q; exact c
          · exact f1 i (by omega)
        · rw [if_neg, nI_1]
          intro q
          by_cases z : b < 128
          · rw [b1 z] at q; exact c ((nI_eq (by omega) (by omega)).mp q)
          · have := b2 (by omega)
            rw [← q] at this
            exact absurd this (nI_pos (by omega))
    · left
      have : j = 8 := by omega
      subst this
      rw [if_pos (show (8 : Int32) ≤ nI 8 by decide)]
      exact ⟨_, rfl, Or.inr ⟨rfl, f1⟩⟩
  obtain ⟨r, r1, r2⟩ := hch
  refine ⟨r, ?_, r2⟩
  have hce : fJ1_canEncode_9a6ad N σ (nI b) = some 1 := by
    unfold fJ1_canEncode_9a6ad
    simp only [nb_let]
    rw [if_neg (nI_pos (by omega)), if_neg (show ¬ (255 : Int32) < nI b from nI_nlt (a := 255) (by omega) (by omega))]
  have hln : fJ0_length_8abf5 N σ = some 8 := by
    unfold fJ0_length_8abf5 fJ0_coder_7d493
    rw [if_neg (by decide), pu_b1]
    rfl
  have hla : fJ0_isLatin1_aae02 N σ = some 1 := by
    unfold fJ0_isLatin1_aae02
    simp only [nb_let]
    rw [if_neg (by decide), if_pos trivial]
  have m1 : nb_max (0 : Int32) 0 = 0 := by decide
  have m2 : nb_min (8 : Int32) 8 = 8 := by decide
  unfold fJ0_indexOf_0f7a4 fJ0_indexOf_7cf53 fJ1_indexOf_4cfef
  simp only [nb_let]
  rw [hla, pu_b1, if_neg (by decide), hln, pu_b1, hce, pu_b1, if_neg (by decide), m1, m2, if_pos (by decide), r1, pu_b1, pu_b1, pu_b1]
end
