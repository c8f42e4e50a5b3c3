section
theorem cb_fin : ∀ i : Fin 256, ((Int8.ofUInt8 (UInt8.ofBitVec (BitVec.ofFin i))).toInt32 &&& 255 = nI i.val) ∧ (i.val < 128 → (Int8.ofUInt8 (UInt8.ofBitVec (BitVec.ofFin i))).toInt32 = nI i.val) ∧ (128 ≤ i.val → (Int8.ofUInt8 (UInt8.ofBitVec (BitVec.ofFin i))).toInt32 < 0) := by decide +kernel
theorem cb_byte {x : Int32} (h : x.toInt8.toInt32 = x) : ∃ b : Nat, b < 256 ∧ x &&& 255 = nI b ∧ ((b < 128 ∧ x = nI b) ∨ (128 ≤ b ∧ x < 0)) := by
  obtain ⟨⟨⟨⟨i⟩⟩⟩, hi⟩ : ∃ y : Int8, x.toInt8 = y := ⟨_, rfl⟩
  rw [hi] at h
  obtain ⟨h1, h2, h3⟩ := cb_fin i
  rw [← h]
  refine ⟨i.val, i.isLt, h1, ?_⟩
  by_cases c : i.val < 128
  · exact Or.inl ⟨c, h2 c⟩
  · exact Or.inr ⟨by omega, h3 (by omega)⟩
/-- the text, byte by byte -/
def tx (σ τ : nb_St) (n : Nat) (B : Nat → Nat) : Prop := n ≤ 400 ∧ τ 0 0 = nI n ∧ ∀ k, k < n → B k < 256 ∧ τ 1 k = nI (B k) ∧ σ 1 k &&& 255 = nI (B k) ∧ ((B k < 128 ∧ σ 1 k = nI (B k)) ∨ (128 ≤ B k ∧ σ 1 k < 0))
theorem tx_of {σ τ : nb_St} {n : Nat} (h : pr_text σ τ n) : ∃ B, tx σ τ n B := by
  obtain ⟨h1, h2, h3, h4⟩ := h
  have : ∀ k, ∃ b, k < n → b < 256 ∧ τ 1 k = nI b ∧ σ 1 k &&& 255 = nI b ∧ ((b < 128 ∧ σ 1 k = nI b) ∨ (128 ≤ b ∧ σ 1 k < 0)) := fun k => by
    by_cases c : k < n
    · obtain ⟨q1, q2⟩ := h4 k c
      obtain ⟨b, b1, b2, b3⟩ := cb_byte q2
      exact ⟨b, fun _ => ⟨b1, by rw [q1, b2], b2, b3⟩⟩
    · exact ⟨0, fun q => absurd q c⟩
  obtain ⟨B, hB⟩ := Classical.axiomOfChoice this
  exact ⟨B, h1, h3, hB⟩
def dgt (B : Nat → Nat) (n k : Nat) : Prop := k < n ∧ 48 ≤ B k ∧ B k ≤ 57
def vlu (B : Nat → Nat) (k : Nat) : Nat → Nat
  | 0 => 0
  | f + 1 => 10 * vlu B k f + (B (k + f) - 48)
theorem vlu_lt {B : Nat → Nat} {n k : Nat} : ∀ f, (∀ i, i < f → dgt B n (k + i)) → vlu B k f < 10 ^ f
  | 0, _ => by show 0 < 1; omega
  | f + 1, h => by
    have h1 := vlu_lt (B := B) (n := n) (k := k) f (fun i hi => h i (by omega))
    have h2 := h f (by omega)
    show 10 * vlu B k f + (B (k + f) - 48) < 10 ^ (f + 1)
    have h3 := h2.2.2
    rw [Nat.pow_succ]
    omega
/-- a number at k, ended by due: its value, the place behind -/
def pnb (B : Nat → Nat) (n k due v k' : Nat) : Prop := ∃ f, 1 ≤ f ∧ f ≤ 3 ∧ (∀ i, i < f → dgt B n (k + i)) ∧ k + f < n ∧ B (k + f) = due ∧ v = vlu B k f ∧ k' = k + f + 1
theorem run_u {B : Nat → Nat} {n k c f : Nat} (h1 : ∀ i, i < c → dgt B n (k + i)) (h2 : ¬ dgt B n (k + f)) (h3 : ∀ i, i < f → dgt B n (k + i)) (h4 : ¬ dgt B n (k + c)) : c = f := by
  rcases Nat.lt_trichotomy c f with q | q | q
  · exact absurd (h3 c q) h4
  · exact q
  · exact absurd (h1 f q) h2
theorem due_nd {B : Nat → Nat} {n k due : Nat} (hd : due = 44 ∨ due = 59) (h : B k = due) : ¬ dgt B n k := fun q => by
  have q1 := q.2.1
  have q2 := q.2.2
  omega
theorem pnb_u {B : Nat → Nat} {n k due v k' v2 k2 : Nat} (hd : due = 44 ∨ due = 59) (h : pnb B n k due v k') (h' : pnb B n k due v2 k2) : v = v2 ∧ k' = k2 := by
  obtain ⟨f, f1, f2, f3, f4, f5, rfl, rfl⟩ := h
  obtain ⟨c, c1, c2, c3, c4, c5, rfl, rfl⟩ := h'
  have := run_u c3 (due_nd hd f5) f3 (due_nd hd c5)
  subst this
  exact ⟨rfl, rfl⟩
theorem pnb_le {B : Nat → Nat} {n k due v k' : Nat} (h : pnb B n k due v k') : v ≤ 999 ∧ k < k' ∧ k' ≤ n := by
  obtain ⟨f, f1, f2, f3, f4, f5, rfl, rfl⟩ := h
  have h1 := vlu_lt f f3
  have : f = 1 ∨ f = 2 ∨ f = 3 := by omega
  refine ⟨?_, by omega, by omega⟩
  rcases this with rfl | rfl | rfl <;> omega
def due (m j : Nat) : Nat := if j + 1 = m then 59 else 44
theorem due_o {m j : Nat} : due m j = 44 ∨ due m j = 59 := by unfold due; split <;> omega
def pq (B : Nat → Nat) (n m k0 : Nat) : Nat → (Nat → Nat) → Nat → Prop
  | 0 => fun _ k => k = k0
  | j + 1 => fun v k => ∃ k1, pq B n m k0 j v k1 ∧ pnb B n k1 (due m j) (v j) k
theorem pq_pre {B : Nat → Nat} {n m k0 : Nat} {v : Nat → Nat} : ∀ {i : Nat} {k : Nat}, pq B n m k0 i v k → ∀ j, j ≤ i → ∃ k', pq B n m k0 j v k'
  | 0, k, h, j, hj => by
    have : j = 0 := by omega
    subst this
    exact ⟨k, h⟩
  | i + 1, k, h, j, hj => by
    by_cases c : j = i + 1
    · subst c; exact ⟨k, h⟩
    · obtain ⟨k1, h1, -⟩ := h
      exact pq_pre h1 j (by omega)
theorem pq_u {B : Nat → Nat} {n m k0 : Nat} {v v' : Nat → Nat} : ∀ {j k k' : Nat}, pq B n m k0 j v k → pq B n m k0 j v' k' → k = k' ∧ ∀ i, i < j → v i = v' i
  | 0, k, k', h, h' => ⟨(show k = k0 from h).trans (show k' = k0 from h').symm, fun i hi => absurd hi (by omega)⟩
  | j + 1, k, k', h, h' => by
    obtain ⟨k1, h1, h2⟩ := h
    obtain ⟨k2, h3, h4⟩ := h'
    obtain ⟨e1, e2⟩ := pq_u h1 h3
    subst e1
    obtain ⟨e3, e4⟩ := pnb_u due_o h2 h4
    refine ⟨e4, fun i hi => ?_⟩
    by_cases c : i = j
    · subst c; exact e3
    · exact e2 i (by omega)
theorem pq_c {B : Nat → Nat} {n m k0 : Nat} {v v' : Nat → Nat} : ∀ {j k : Nat}, (∀ i, i < j → v i = v' i) → pq B n m k0 j v k → pq B n m k0 j v' k
  | 0, k, _, h => h
  | j + 1, k, e, h => by
    obtain ⟨k1, h1, h2⟩ := h
    refine ⟨k1, pq_c (fun i hi => e i (by omega)) h1, ?_⟩
    rw [← e j (by omega)]
    exact h2
theorem pq_le {B : Nat → Nat} {n m k0 : Nat} {v : Nat → Nat} : ∀ {j k : Nat}, pq B n m k0 j v k → k0 ≤ k ∧ (0 < j → k ≤ n) ∧ ∀ i, i < j → v i ≤ 999
  | 0, k, h => ⟨Nat.le_of_eq (show k = k0 from h).symm, fun q => absurd q (by omega), fun i hi => absurd hi (by omega)⟩
  | j + 1, k, h => by
    obtain ⟨k1, h1, h2⟩ := h
    obtain ⟨e1, e2, e3⟩ := pq_le h1
    obtain ⟨f1, f2, f3⟩ := pnb_le h2
    refine ⟨by omega, fun _ => f3, fun i hi => ?_⟩
    by_cases c : i = j
    · subst c; exact f1
    · exact e3 i (by omega)
/-- one number, class -/
theorem pr_num7 {N : Nat} {σ τ : nb_St} {n k : Nat} {B : Nat → Nat} (hN : 10 < N) (ht : tx σ τ n B) (hk : σ 2 1 = nI k) (hkn : k ≤ n) : ∃ r, fX5_readNumber N σ (nI n) = some r ∧ ∃ c, c ≤ 3 ∧ k + c ≤ n ∧ (∀ i, i < c → dgt B n (k + i)) ∧ (c = 3 ∨ ¬ dgt B n (k + c)) ∧ r.1 = (if c = 0 then -1 else nI (vlu B k c)) ∧ (∀ a, a ≠ 2 → r.2 a = σ a) ∧ r.2 2 1 = nI (k + c) := by
  obtain ⟨t1, t0, t2⟩ := ht
  unfold fX5_readNumber
  simp only [nb_let]
  rw [hk]
  refine nb_e2 (I := fun j x s => j ≤ 3 ∧ k + j ≤ n ∧ x = nI (vlu B k j) ∧ (∀ i, i < j → dgt B n (k + i)) ∧ (∀ a, a ≠ 2 → s a = σ a) ∧ s 2 1 = nI (k + j)) 3 ?_ (by omega) ⟨by omega, by omega, rfl, fun i hi => absurd hi (by omega), fun _ _ => rfl, hk⟩
  rintro ag j x s ⟨hj, hjn, rfl, f1, f2, f3⟩
  have vb := vlu_lt j f1
  have vb2 : vlu B k j < 1000 := by
    have : j = 0 ∨ j = 1 ∨ j = 2 ∨ j = 3 := by omega
    rcases this with rfl | rfl | rfl | rfl <;> omega
  have fin : ∃ r, (if nI (k + j) = nI k then some ((-1 : Int32), s) else some (nI (vlu B k j), s)) = some r ∧ r.1 = (if j = 0 then -1 else nI (vlu B k j)) ∧ (∀ a, a ≠ 2 → r.2 a = σ a) ∧ r.2 2 1 = nI (k + j) := by
    by_cases c : j = 0
    · subst c
      rw [if_pos (show nI (k + 0) = nI k from rfl), if_pos (show (0 : Nat) = 0 from rfl)]
      exact ⟨_, rfl, rfl, f2, f3⟩
    · rw [if_neg (fun q => by have := (nI_eq (by omega) (by omega)).mp q; omega), if_neg c]
      exact ⟨_, rfl, rfl, f2, f3⟩
  rw [f3]
  by_cases c1 : k + j < n
  · rw [if_neg (nI_ge c1 (by omega))]
    by_cases c2 : j < 3
    · obtain ⟨b1, b2, b3, b4⟩ := t2 (k + j) c1
      have s1 : s 1 = σ 1 := f2 1 (by decide)
      rw [show nI (k + j) - nI k = nI j by rw [pk_sub (by omega), Nat.add_sub_cancel_left], if_neg (show ¬ (3 : Int32) ≤ nI j from nI_ge (b := 3) c2 (by omega)), nb_g_t (pu_in (by omega) (by omega)), pu_ix (by omega), s1, nb_g_t (pu_in (by omega) (by omega)), nb_g_t (pu_in (by omega) (by omega))]
      by_cases cd : dgt B n (k + j)
      · right
        obtain ⟨-, d1, d2⟩ := id cd
        have b5 : σ 1 (k + j) = nI (B (k + j)) := by
          rcases b4 with ⟨-, q⟩ | ⟨q, -⟩
          · exact q
          · omega
        refine ⟨c2, nI (vlu B k (j + 1)), nb_st s 2 1 (nI (k + (j + 1))), ⟨by omega, by omega, rfl, fun i hi => ?_, fun a ha => by rw [nb_st_k ha]; exact f2 a ha, nb_st_s⟩, ?_⟩
        · by_cases q : i = j
          · subst q; exact cd
          · exact f1 i (by omega)
        · rw [b5, if_neg (show ¬ nI (B (k + j)) < (48 : Int32) from nI_nlt (b := 48) (by omega) (by omega)), if_neg (show ¬ (57 : Int32) < nI (B (k + j)) from nI_nlt (a := 57) (by omega) (by omega)), show (10 : Int32) = nI 10 from rfl, show (48 : Int32) = nI 48 from rfl, pk_mul, pk_sub (by omega), nI_add, show (1 : Int32) = nI 1 from rfl, nI_add]
          rfl
      · left
        have : ∃ r, (if nI (k + j) = nI k then some ((-1 : Int32), s) else some (nI (vlu B k j), s)) = some r ∧ ∃ c, c ≤ 3 ∧ k + c ≤ n ∧ (∀ i, i < c → dgt B n (k + i)) ∧ (c = 3 ∨ ¬ dgt B n (k + c)) ∧ r.1 = (if c = 0 then -1 else nI (vlu B k c)) ∧ (∀ a, a ≠ 2 → r.2 a = σ a) ∧ r.2 2 1 = nI (k + c) := by
          obtain ⟨r, r1, r2, r3, r4⟩ := fin
          exact ⟨r, r1, j, hj, hjn, f1, Or.inr cd, r2, r3, r4⟩
        by_cases q1 : σ 1 (k + j) < (48 : Int32)
        · rw [if_pos q1]; exact this
        · rw [if_neg q1, if_pos]
          · exact this
          · rcases b4 with ⟨q2, q3⟩ | ⟨q2, q3⟩
            · rw [q3] at q1 ⊢
              have q4 : 48 ≤ B (k + j) := by
                by_cases z : 48 ≤ B (k + j)
                · exact z
                · exact absurd (show nI (B (k + j)) < (48 : Int32) from nI_lt (b := 48) (by omega) (by omega)) q1
              have q5 : ¬ B (k + j) ≤ 57 := fun z => cd ⟨c1, q4, z⟩
              exact nI_lt (a := 57) (by omega) (by omega)
            · exact absurd (Int32.lt_of_lt_of_le q3 (by decide)) q1
    · left
      have : j = 3 := by omega
      subst this
      rw [show nI (k + 3) - nI k = nI 3 by rw [pk_sub (by omega), Nat.add_sub_cancel_left], if_pos (show (3 : Int32) ≤ nI 3 by decide)]
      obtain ⟨r, r1, r2, r3, r4⟩ := fin
      exact ⟨r, r1, 3, hj, hjn, f1, Or.inl rfl, r2, r3, r4⟩
  · left
    rw [if_pos (nI_le (by omega) (by omega))]
    obtain ⟨r, r1, r2, r3, r4⟩ := fin
    exact ⟨r, r1, j, hj, hjn, f1, Or.inr (fun q => c1 q.1), r2, r3, r4⟩
end
