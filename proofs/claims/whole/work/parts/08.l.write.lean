theorem pu_255 : ∀ i : Fin 32, 8 ≤ i.val → (255#32)[i.val] = false := by decide +kernel
theorem pu_byte (x : Int64) : (x &&& 255).toInt32 = (x.toInt32.toInt8.toInt32) &&& 255 := by
  apply Int32.toBitVec_inj.mp
  apply BitVec.eq_of_getLsbD_eq
  intro i hi
  simp only [Int32.toBitVec_and, Int64.toBitVec_toInt32, Int64.toBitVec_and, Int8.toBitVec_toInt32, Int32.toBitVec_toInt8]
  by_cases h8 : i < 8
  · simp [h8, hi]
    simp [BitVec.getElem_signExtend, h8, hi]
  · simp [hi]
    rw [pu_255 ⟨i, hi⟩ (by simp; omega)]
    simp
theorem pu_byteS (x : Int32) : vp_nar .byte (x.toInt8.toInt32) = x.toInt8.toInt32 := by
  rw [vp_nar_byte]
  simp
def pu_wr (f : Nat → Int32) (n : Nat) (b : Nat → Int32) (j : Nat) : Nat → Int32 := fun i => if n ≤ i ∧ i < n + j then b (i - n) else f i
theorem pu_wr0 {f : Nat → Int32} {n : Nat} {b : Nat → Int32} : pu_wr f n b 0 = f := by
  funext i
  unfold pu_wr
  rw [if_neg (by omega)]
theorem pu_wrs {f : Nat → Int32} {n j : Nat} {b : Nat → Int32} : upd (pu_wr f n b j) (n + j) (b j) = pu_wr f n b (j + 1) := by
  funext i
  by_cases h : i = n + j
  · subst h
    rw [pk_us]
    unfold pu_wr
    rw [if_pos (by omega)]
    congr 1
    omega
  · rw [pk_un h]
    unfold pu_wr
    by_cases h1 : n ≤ i ∧ i < n + j
    · rw [if_pos h1, if_pos (by omega)]
    · rw [if_neg h1, if_neg (by omega)]
theorem nb_st_id {σ : nb_St} {k j : Nat} {v : Int32} (h : σ k j = v) : nb_st σ k j v = σ := by
  funext a b
  by_cases g : a = k ∧ b = j
  · obtain ⟨rfl, rfl⟩ := g
    rw [nb_st_s, h]
  · unfold nb_st
    rw [if_neg g]
theorem nb_st_st {σ : nb_St} {k j : Nat} {v w : Int32} : nb_st (nb_st σ k j v) k j w = nb_st σ k j w := by
  funext a b
  unfold nb_st
  by_cases g : a = k ∧ b = j
  · rw [if_pos g, if_pos g]
  · rw [if_neg g, if_neg g, if_neg g]
theorem nb_st_cm {σ : nb_St} {k j m i : Nat} {v w : Int32} (h : k ≠ m) : nb_st (nb_st σ k j v) m i w = nb_st (nb_st σ m i w) k j v := by
  funext a b
  unfold nb_st
  by_cases g : a = m ∧ b = i
  · rw [if_pos g, if_neg (by omega), if_pos g]
  · rw [if_neg g, if_neg g]
def pu_cn (k j : Nat) : Int32 := if j < k then nI (k - 1 - j) else -1
theorem pu_cn_s {k j : Nat} (h : j < k) : pu_cn k j + (-1) = pu_cn k (j + 1) := by
  unfold pu_cn
  rw [if_pos h]
  by_cases h1 : j + 1 < k
  · rw [if_pos h1, show k - 1 - j = (k - 1 - (j + 1)) + 1 by omega]
    exact pk_m1 _
  · rw [if_neg h1, show k - 1 - j = 0 by omega]
    decide
theorem pu_write7 {N : Nat} {σ : nb_St} {n k : Nat} {v : Int64} (hn : σ 0 1 = nI n) (hk : 1 ≤ k ∧ k ≤ 8) (hN : 10 ≤ N) (hf : n + k ≤ 400) : fX7_write N σ (nI k) v = some (nI (n + k), nb_st (nb_sa σ 1 (pu_wr (σ 1) n (fun j => (v >>> (((8 : Int32) * pu_cn k j).toInt64 &&& 63)).toInt32.toInt8.toInt32) k)) 0 1 (nI (n + k))) := by
  obtain ⟨B, hB⟩ : ∃ B : Nat → Int32, B = fun j => (v >>> (((8 : Int32) * pu_cn k j).toInt64 &&& 63)).toInt32.toInt8.toInt32 := ⟨_, rfl⟩
  rw [← hB]
  have hk1 : (1 : Int32) ≤ nI k ∧ nI k ≤ 8 := ⟨nI_le (a := 1) hk.1 (by omega), nI_le (b := 8) hk.2 (by decide)⟩
  have hle : nI n + nI k ≤ (400 : Int32) := by rw [nI_add]; exact nI_le (b := 400) hf (by decide)
  simp only [fX7_write, nb_let, pu_within]
  rw [pu_b1, if_pos hk1, if_neg (by decide), hn, if_pos hle]
  have hl := nb_s2 (R := Int32 × nb_St) (f := fun ag8 (x6 : Int32) (σ7 : nb_St) => if x6 < 0 then some (σ7 0 1, σ7) else nb_g (nb_in (σ7 0 1) 400) (ag8 (x6 + (-1)) (nb_st (nb_st σ7 1 (nb_ix (σ7 0 1)) (vp_nar .byte ((v >>> (((8 : Int32) * x6).toInt64 &&& 63)).toInt32.toInt8.toInt32))) 0 1 ((nb_st σ7 1 (nb_ix (σ7 0 1)) (vp_nar .byte ((v >>> (((8 : Int32) * x6).toInt64 &&& 63)).toInt32.toInt8.toInt32))) 0 1 + 1))))
    (r := some (nI (n + k), nb_st (nb_sa σ 1 (pu_wr (σ 1) n B k)) 0 1 (nI (n + k)))) k (fun j => pu_cn k j) (fun j => nb_st (nb_sa σ 1 (pu_wr (σ 1) n B j)) 0 1 (nI (n + j))) ?_ ?_ N (by omega)
  · rw [pu_wr0, nb_sa_id, Nat.add_zero, nb_st_id hn] at hl
    have e0 : pu_cn k 0 = nI k - 1 := by
      unfold pu_cn
      rw [if_pos (by omega), pu_pred (by omega)]
      rfl
    rw [e0] at hl
    exact hl
  · intro ag j hj
    have hp : ¬ pu_cn k j < 0 := by
      unfold pu_cn
      rw [if_pos hj]
      exact nI_pos (by omega)
    show (if pu_cn k j < 0 then _ else _) = _
    rw [if_neg hp, nb_st_s, nb_g_t (pu_in (by omega) (by decide)), pu_ix (by omega), pu_cn_s hj, pu_byteS]
    rw [nb_st_k (show (0 : Nat) ≠ 1 by decide), nb_st_s, nI_1, nb_st_cm (show (0 : Nat) ≠ 1 by decide), nb_st_st, nb_st_sa]
    have hb2 : (v >>> (((8 : Int32) * pu_cn k j).toInt64 &&& 63)).toInt32.toInt8.toInt32 = B j := by rw [hB]
    rw [hb2, pu_wrs]
    rfl
  · intro ag
    have hp : pu_cn k k < 0 := by
      unfold pu_cn
      rw [if_neg (by omega)]
      decide
    show (if pu_cn k k < 0 then _ else _) = _
    rw [if_pos hp, nb_st_s]
theorem pu_write8 {N : Nat} {τ : nb_St} {n k : Nat} {v : Int64} (hn : τ 0 0 = nI n) (hk : 1 ≤ k ∧ k ≤ 8) (hN : 10 ≤ N) (hf : n + k ≤ 400) : fX8_write N τ (nI k) v = some (nI (n + k), nb_st (nb_sa τ 1 (pu_wr (τ 1) n (fun j => ((v >>> (((8 : Int32) * pu_cn k j).toInt64 &&& 63)) &&& 255).toInt32) k)) 0 0 (nI (n + k))) := by
  obtain ⟨B, hB⟩ : ∃ B : Nat → Int32, B = fun j => ((v >>> (((8 : Int32) * pu_cn k j).toInt64 &&& 63)) &&& 255).toInt32 := ⟨_, rfl⟩
  rw [← hB]
  have hk1 : (1 : Int32) ≤ nI k ∧ nI k ≤ 8 := ⟨nI_le (a := 1) hk.1 (by omega), nI_le (b := 8) hk.2 (by decide)⟩
  have hle : nI n + nI k ≤ (400 : Int32) := by rw [nI_add]; exact nI_le (b := 400) hf (by decide)
  simp only [fX8_write, nb_let]
  rw [pu_inL (b := 1) (c := 8) (by decide) (by decide), pu_b1, if_pos hk1, if_neg (by decide), hn, if_pos hle]
  have hl := nb_s2 (R := Int32 × nb_St) (f := fun ag8 (x6 : Int32) (σ7 : nb_St) => if x6 < 0 then some (σ7 0 0, σ7) else nb_g (nb_in (σ7 0 0) 400) (ag8 (x6 + (-1)) (nb_st (nb_st σ7 1 (nb_ix (σ7 0 0)) (((v >>> (((8 : Int32) * x6).toInt64 &&& 63)) &&& 255).toInt32)) 0 0 ((nb_st σ7 1 (nb_ix (σ7 0 0)) (((v >>> (((8 : Int32) * x6).toInt64 &&& 63)) &&& 255).toInt32)) 0 0 + 1))))
    (r := some (nI (n + k), nb_st (nb_sa τ 1 (pu_wr (τ 1) n B k)) 0 0 (nI (n + k)))) k (fun j => pu_cn k j) (fun j => nb_st (nb_sa τ 1 (pu_wr (τ 1) n B j)) 0 0 (nI (n + j))) ?_ ?_ N (by omega)
  · rw [pu_wr0, nb_sa_id, Nat.add_zero, nb_st_id hn] at hl
    have e0 : pu_cn k 0 = nI k - 1 := by
      unfold pu_cn
      rw [if_pos (by omega), pu_pred (by omega)]
      rfl
    rw [e0] at hl
    exact hl
  · intro ag j hj
    have hp : ¬ pu_cn k j < 0 := by
      unfold pu_cn
      rw [if_pos hj]
      exact nI_pos (by omega)
    show (if pu_cn k j < 0 then _ else _) = _
    rw [if_neg hp, nb_st_s, nb_g_t (pu_in (by omega) (by decide)), pu_ix (by omega), pu_cn_s hj]
    rw [nb_st_k (show (0 : Nat) ≠ 1 by decide), nb_st_s, nI_1, nb_st_cm (show (0 : Nat) ≠ 1 by decide), nb_st_st, nb_st_sa]
    have hb2 : ((v >>> (((8 : Int32) * pu_cn k j).toInt64 &&& 63)) &&& 255).toInt32 = B j := by rw [hB]
    rw [hb2, pu_wrs]
    rfl
  · intro ag
    have hp : pu_cn k k < 0 := by
      unfold pu_cn
      rw [if_neg (by omega)]
      decide
    show (if pu_cn k k < 0 then _ else _) = _
    rw [if_pos hp, nb_st_s]
