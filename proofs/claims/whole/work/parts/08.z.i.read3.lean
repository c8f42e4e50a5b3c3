section
def rff (τ s : nb_St) : Prop := (∀ a, a ≠ 0 → a ≠ 25 → s a = τ a) ∧ ∀ j, j ≠ 27 → s 0 j = τ 0 j
theorem rff_r {τ : nb_St} : rff τ τ := ⟨fun _ _ _ => rfl, fun _ _ => rfl⟩
theorem rff_t {τ s t : nb_St} (h : rff τ s) (h' : rff s t) : rff τ t := ⟨fun a a1 a2 => (h'.1 a a1 a2).trans (h.1 a a1 a2), fun j hj => (h'.2 j hj).trans (h.2 j hj)⟩
theorem rff_p {s : nb_St} {v : Int32} : rff s (nb_st s 0 27 v) := ⟨fun a a1 _ => nb_st_k a1, fun j hj => nb_st_n (Or.inr hj)⟩
theorem rff_n {s : nb_St} {i : Nat} {v : Int32} : rff s (nb_st s 25 i v) := ⟨fun a _ a2 => nb_st_k a2, fun j hj => by rw [nb_st_k (by decide)]⟩
def bA (B : Nat → Nat) (n k : Nat) : Nat := if k < n then B k else 0
theorem pr_byteAt {N : Nat} {σ τ s : nb_St} {n k : Nat} {B : Nat → Nat} (ht : tx σ τ n B) (hs : rff τ s) (hk : k ≤ 1000) : fX8_byteAt N s (nI k) = some (nI (bA B n k)) := by
  obtain ⟨t1, t0, t2⟩ := ht
  unfold fX8_byteAt bA
  rw [hs.2 0 (by decide), t0, hs.1 1 (by decide) (by decide)]
  by_cases c : k < n
  · rw [if_neg (nI_ge c (by omega)), if_pos c, nb_g_t (pu_in (by omega) (by omega)), pu_ix (by omega), (t2 k c).2.1]
  · rw [if_pos (nI_le (by omega) (by omega)), if_neg c]; rfl
theorem bA_lt {σ τ : nb_St} {n k : Nat} {B : Nat → Nat} (ht : tx σ τ n B) : bA B n k < 256 := by
  unfold bA
  by_cases c : k < n
  · rw [if_pos c]; exact (ht.2.2 k c).1
  · rw [if_neg c]; omega
theorem bA_d {B : Nat → Nat} {n k : Nat} : (48 ≤ bA B n k ∧ bA B n k ≤ 57) ↔ dgt B n k := by
  unfold bA dgt
  by_cases c : k < n
  · rw [if_pos c]; exact ⟨fun q => ⟨c, q⟩, fun q => q.2⟩
  · rw [if_neg c]; exact ⟨fun q => by omega, fun q => absurd q.1 c⟩
theorem pr_in48 {N : Nat} {s : nb_St} {x lo hi : Nat} {l h : Int64} (hl : l = (nI lo).toInt64) (hh : h = (nI hi).toInt64) (h1 : x < 2 ^ 31) (h2 : lo < 2 ^ 31) (h3 : hi < 2 ^ 31) : fX8_in N s (nI x).toInt64 l h = some (if lo ≤ x ∧ x ≤ hi then 1 else 0) := by
  rw [pu_inL hl hh]
  congr 1
  exact pn_ite (and_congr (nI_leI h2 h1) (nI_leI h1 h3))
theorem pr_fig8 {N : Nat} {σ τ : nb_St} {n m k0 : Nat} {B : Nat → Nat} (hN : 10 < N) (ht : tx σ τ n B) (hk : τ 0 27 = nI k0) (hkn : k0 ≤ n) (hm1 : 1 ≤ m) (hm4 : m ≤ 4) : ∃ r, fX8_figures N τ (nI m) = some r ∧ rff τ r.2 ∧ ((r.1 = nI 1 ∧ ∃ v k', pq B n m k0 m v k' ∧ (∀ j, j < m → r.2 25 j = nI (v j)) ∧ r.2 0 27 = nI k') ∨ (r.1 = nI 0 ∧ ¬ ∃ v k', pq B n m k0 m v k')) := by
  have n4 := ht.1
  unfold fX8_figures
  refine nb_e2 (I := fun j x s => j ≤ m ∧ x = nI j ∧ rff τ s ∧ ∃ v k', pq B n m k0 j v k' ∧ (∀ i, i < j → s 25 i = nI (v i)) ∧ s 0 27 = nI k' ∧ k' ≤ n) m ?_ (by omega) ⟨by omega, rfl, rff_r, fun _ => 0, k0, rfl, fun i hi => absurd hi (by omega), hk, hkn⟩
  rintro ag j x s ⟨hj, rfl, f1, v, k1, f2, f4, f5, f6⟩
  by_cases hlt : j < m
  · simp only [nb_let]
    rw [if_neg (nI_ge hlt (by omega))]
    refine nb_c3 (K := fun z => (∃ r, z = some r ∧ rff τ r.2 ∧ ((r.1 = nI 1 ∧ ∃ v k', pq B n m k0 m v k' ∧ (∀ j, j < m → r.2 25 j = nI (v j)) ∧ r.2 0 27 = nI k') ∨ (r.1 = nI 0 ∧ ¬ ∃ v k', pq B n m k0 m v k'))) ∨ (j < m ∧ ∃ b0 b1, (j + 1 ≤ m ∧ b0 = nI (j + 1) ∧ rff τ b1 ∧ ∃ v k', pq B n m k0 (j + 1) v k' ∧ (∀ i, i < j + 1 → b1 25 i = nI (v i)) ∧ b1 0 27 = nI k' ∧ k' ≤ n) ∧ z = ag b0 b1)) (I := fun f x y t => f ≤ 4 ∧ x = nI f ∧ y = nI (vlu B k1 f) ∧ (∀ i, i < f → dgt B n (k1 + i)) ∧ rff τ t ∧ (∀ i, t 25 i = s 25 i) ∧ t 0 27 = nI (k1 + f)) 4 ?_ (by omega) ⟨by omega, rfl, rfl, fun i hi => absurd hi (by omega), f1, fun _ => rfl, f5⟩
    rintro ag2 f x y t ⟨hf, rfl, rfl, g1, g2, g3, g4⟩
    have vb := vlu_lt f g1
    have vb2 : vlu B k1 f < 10000 := by
      have : f = 0 ∨ f = 1 ∨ f = 2 ∨ f = 3 ∨ f = 4 := by omega
      rcases this with rfl | rfl | rfl | rfl | rfl <;> omega
    have hby := pr_byteAt (N := N) (k := k1 + f) ht g2 (by omega)
    have hbl := bA_lt (k := k1 + f) ht
    have hi1 := pr_in48 (N := N) (s := t) (x := bA B n (k1 + f)) (lo := 48) (hi := 57) (l := 48) (h := 57) (by decide) (by decide) (by omega) (by omega) (by omega)
    have hi2 := pr_in48 (N := N) (s := t) (x := f) (lo := 1) (hi := 3) (l := 1) (h := 3) (by decide) (by decide) (by omega) (by omega) (by omega)
    rw [g4, hby, pu_b1, hi1, pu_b1, hi2, pu_b1, pu_b1, pu_b1]
    -- the end of a number
    have stop : (f = 4 ∨ ¬ dgt B n (k1 + f)) → ((∃ r, (if (if 1 ≤ f ∧ f ≤ 3 then (1 : Int32) else 0) = 0 then some ((0 : Int32), t) else if nI m - 1 ≤ nI j then (if nI (bA B n (k1 + f)) = 59 then nb_g (nb_in (nI j) 4) (ag (nI j + 1) (nb_st (nb_st t 25 (nb_ix (nI j)) (nI (vlu B k1 f))) 0 27 (nb_st t 25 (nb_ix (nI j)) (nI (vlu B k1 f)) 0 27 + 1))) else some (0, t)) else (if nI (bA B n (k1 + f)) = 44 then nb_g (nb_in (nI j) 4) (ag (nI j + 1) (nb_st (nb_st t 25 (nb_ix (nI j)) (nI (vlu B k1 f))) 0 27 (nb_st t 25 (nb_ix (nI j)) (nI (vlu B k1 f)) 0 27 + 1))) else some (0, t))) = some r ∧ rff τ r.2 ∧ ((r.1 = nI 1 ∧ ∃ v k', pq B n m k0 m v k' ∧ (∀ j, j < m → r.2 25 j = nI (v j)) ∧ r.2 0 27 = nI k') ∨ (r.1 = nI 0 ∧ ¬ ∃ v k', pq B n m k0 m v k'))) ∨ (j < m ∧ ∃ b0 b1, (j + 1 ≤ m ∧ b0 = nI (j + 1) ∧ rff τ b1 ∧ ∃ v k', pq B n m k0 (j + 1) v k' ∧ (∀ i, i < j + 1 → b1 25 i = nI (v i)) ∧ b1 0 27 = nI k' ∧ k' ≤ n) ∧ (if (if 1 ≤ f ∧ f ≤ 3 then (1 : Int32) else 0) = 0 then some ((0 : Int32), t) else if nI m - 1 ≤ nI j then (if nI (bA B n (k1 + f)) = 59 then nb_g (nb_in (nI j) 4) (ag (nI j + 1) (nb_st (nb_st t 25 (nb_ix (nI j)) (nI (vlu B k1 f))) 0 27 (nb_st t 25 (nb_ix (nI j)) (nI (vlu B k1 f)) 0 27 + 1))) else some (0, t)) else (if nI (bA B n (k1 + f)) = 44 then nb_g (nb_in (nI j) 4) (ag (nI j + 1) (nb_st (nb_st t 25 (nb_ix (nI j)) (nI (vlu B k1 f))) 0 27 (nb_st t 25 (nb_ix (nI j)) (nI (vlu B k1 f)) 0 27 + 1))) else some (0, t))) = ag b0 b1)) := by
      intro hend
      have bad : ¬ (1 ≤ f ∧ f ≤ 3 ∧ bA B n (k1 + f) = due m j) → ¬ ∃ v k', pq B n m k0 m v k' := by
        rintro hb ⟨v', k', q1⟩
        obtain ⟨k2, q3⟩ := pq_pre q1 (j + 1) (by omega)
        obtain ⟨k3, q4, q5⟩ := q3
        obtain ⟨q6, -⟩ := pq_u f2 q4
        subst q6
        obtain ⟨c, p1, p2, p3, p4, p5, p6, p7⟩ := q5
        have hcf : f = c := by
          rcases hend with q | q
          · subst q
            rcases Nat.lt_trichotomy 4 c with z | z | z
            · omega
            · exact z
            · exact absurd (g1 c z) (due_nd due_o p5)
          · exact run_u g1 (due_nd due_o p5) p3 q
        subst hcf
        refine hb ⟨p1, p2, ?_⟩
        unfold bA
        rw [if_pos p4, p5]
      by_cases z1 : 1 ≤ f ∧ f ≤ 3
      · rw [if_pos z1, if_neg (by decide), nb_g_t (pu_in (by omega) (by omega)), pu_ix (by omega), nb_st_k (by decide), g4, nI_1, nI_1]
        have both : ∀ dv, dv = due m j → ((∃ r, (if nI (bA B n (k1 + f)) = nI dv then ag (nI (j + 1)) (nb_st (nb_st t 25 j (nI (vlu B k1 f))) 0 27 (nI (k1 + f + 1))) else some (0, t)) = some r ∧ rff τ r.2 ∧ ((r.1 = nI 1 ∧ ∃ v k', pq B n m k0 m v k' ∧ (∀ j, j < m → r.2 25 j = nI (v j)) ∧ r.2 0 27 = nI k') ∨ (r.1 = nI 0 ∧ ¬ ∃ v k', pq B n m k0 m v k'))) ∨ (j < m ∧ ∃ b0 b1, (j + 1 ≤ m ∧ b0 = nI (j + 1) ∧ rff τ b1 ∧ ∃ v k', pq B n m k0 (j + 1) v k' ∧ (∀ i, i < j + 1 → b1 25 i = nI (v i)) ∧ b1 0 27 = nI k' ∧ k' ≤ n) ∧ (if nI (bA B n (k1 + f)) = nI dv then ag (nI (j + 1)) (nb_st (nb_st t 25 j (nI (vlu B k1 f))) 0 27 (nI (k1 + f + 1))) else some (0, t)) = ag b0 b1)) := by
          rintro dv rfl
          have hdo := due_o (m := m) (j := j)
          by_cases z2 : bA B n (k1 + f) = due m j
          · right
            have z3 : k1 + f < n := by
              by_cases q : k1 + f < n
              · exact q
              · unfold bA at z2
                rw [if_neg q] at z2
                omega
            have z4 : B (k1 + f) = due m j := by
              unfold bA at z2
              rw [if_pos z3] at z2
              exact z2
            rw [if_pos (by rw [z2])]
            refine ⟨hlt, nI (j + 1), nb_st (nb_st t 25 j (nI (vlu B k1 f))) 0 27 (nI (k1 + f + 1)), ⟨by omega, rfl, rff_t g2 (rff_t rff_n rff_p), us v j (vlu B k1 f), k1 + f + 1, ⟨k1, pq_c (fun i hi => by rw [us_n (by omega)]) f2, ?_⟩, fun i hi => ?_, nb_st_s, by omega⟩, rfl⟩
            · rw [us_s]; exact ⟨f, z1.1, z1.2, g1, z3, z4, rfl, rfl⟩
            · rw [nb_st_k (by decide)]
              by_cases q : i = j
              · subst q; rw [us_s, nb_st_s]
              · rw [us_n q, nb_st_n (Or.inr q), g3]; exact f4 i (by omega)
          · left
            rw [if_neg (fun q => z2 ((nI_eq (by omega) (by omega)).mp q))]
            exact ⟨_, rfl, g2, Or.inr ⟨rfl, bad (fun q => z2 q.2.2)⟩⟩
        by_cases q : j + 1 = m
        · have hd : due m j = 59 := if_pos q
          rw [pu_pred (by omega), if_pos (nI_le (by omega) (by omega))]
          exact both 59 hd.symm
        · have hd : due m j = 44 := if_neg q
          rw [pu_pred (by omega), if_neg (nI_ge (by omega) (by omega))]
          exact both 44 hd.symm
      · left
        rw [if_neg z1, if_pos rfl]
        exact ⟨_, rfl, g2, Or.inr ⟨rfl, bad (fun q => z1 ⟨q.1, q.2.1⟩)⟩⟩
    by_cases cd : dgt B n (k1 + f)
    · rw [if_pos (bA_d.mpr cd), if_neg (show ¬ (1 : Int32) = 0 by decide)]
      by_cases c4 : f < 4
      · right
        rw [if_neg (show ¬ (4 : Int32) ≤ nI f from nI_ge (b := 4) c4 (by omega))]
        have hb1 : bA B n (k1 + f) = B (k1 + f) := if_pos cd.1
        have hb2 := cd.2.1
        refine ⟨c4, nI (f + 1), nI (vlu B k1 (f + 1)), nb_st t 0 27 (nI (k1 + (f + 1))), ⟨by omega, rfl, rfl, fun i hi => ?_, rff_t g2 rff_p, fun i => by rw [nb_st_k (by decide)]; exact g3 i, nb_st_s⟩, ?_⟩
        · by_cases q : i = f
          · subst q; exact cd
          · exact g1 i (by omega)
        · show _ = ag2 (nI (f + 1)) (nI (10 * vlu B k1 f + (B (k1 + f) - 48))) _
          rw [hb1, show (10 : Int32) = nI 10 from rfl, show (48 : Int32) = nI 48 from rfl, pk_mul, nI_add, pk_sub (by omega), nI_1, nI_1, show 10 * vlu B k1 f + B (k1 + f) - 48 = 10 * vlu B k1 f + (B (k1 + f) - 48) by omega]
          rfl
      · left
        rw [if_pos (show (4 : Int32) ≤ nI f from nI_le (a := 4) (by omega) (by omega))]
        exact stop (Or.inl (by omega))
    · left
      rw [if_neg (fun q => cd (bA_d.mp q)), if_pos rfl]
      exact stop (Or.inr cd)
  · left
    have : j = m := by omega
    subst this
    refine ⟨(nI 1, s), ?_, f1, Or.inl ⟨rfl, v, k1, f2, f4, f5⟩⟩
    simp only [nb_let]
    rw [if_pos (nI_le (Nat.le_refl _) (by omega))]
    rfl
end
