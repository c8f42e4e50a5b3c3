section NBJ
variable {D : va_G} {cl : List vw_C} {A A0 : Nat → Prop} {w w2 wr wc w1 : va_W} {H H0 H1 : Heap} {locs : List Loc}
theorem nb_at2 {k : Nat} : (w ++ w2)[w.length + k]? = w2[k]? := by rw [List.getElem?_append_right (by omega)]; congr 1; omega
theorem nb_at1 {k : Nat} {q : Nat × va_E} (h : w[k]? = some q) : (w ++ w2)[k]? = some q := by rw [List.getElem?_append_left (List.getElem?_eq_some_iff.mp h).1]; exact h
theorem nb_lastP (h : va_P D cl (w ++ w2) H) : va_P D cl w2 H := fun k q hk => h (w.length + k) q (nb_at2.trans hk)
theorem nb_firstP (h : va_P D cl (w ++ w2) H) : va_P D cl w H := fun k q hk => h k q (nb_at1 hk)
theorem nb_lastD (h : va_D A (w ++ w2)) : va_D A w2 := ⟨fun i j p q hi hj e => by
  have := h.1 (w.length + i) (w.length + j) p q (nb_at2.trans hi) (nb_at2.trans hj) e
  omega, fun k q hk => h.2 (w.length + k) q (nb_at2.trans hk)⟩
theorem nb_firstD (h : va_D A (w ++ w2)) : va_D A w := ⟨fun i j p q hi hj e => h.1 i j p q (nb_at1 hi) (nb_at1 hj) e, fun k q hk => h.2 k q (nb_at1 hk)⟩
theorem nb_freeL (hD : va_D A0 (wr ++ wc)) (hS : va_S A0 H0 H locs) (hA : ∀ q, H0.size ≤ q → A0 q) : ∀ q, va_A wc H.size q → A0 q := by
  intro q h
  rcases h with ⟨k, e, h⟩ | h
  · exact (nb_lastD hD).2 k (q, e) h
  · exact hA q (Nat.le_trans hS.1 h)
theorem nb_joinL (hP : va_P D cl (wr ++ wc) H) (hD : va_D A0 (wr ++ wc)) (hk : ∀ q : Nat, q < H.size → ¬ va_A wc H.size q → H1[q]? = H[q]?) (hF : ∀ q, va_A wc H.size q → A0 q) (hP1 : va_P D cl w1 H1) (hD1 : va_D (va_A wc H.size) w1) : va_P D cl (wr ++ w1) H1 ∧ va_D A0 (wr ++ w1) := by
  have apart : ∀ (k : Nat) (q : Nat × va_E), wr[k]? = some q → q.1 < H.size ∧ ¬ va_A wc H.size q.1 := by
    intro k q hq
    have hl := (hP k q (nb_at1 hq)).lt
    refine ⟨hl, fun h => ?_⟩
    rcases h with ⟨k2, e, h⟩ | h
    · have := hD.1 k (wr.length + k2) q (q.1, e) (nb_at1 hq) (nb_at2.trans h) rfl
      have hk1 := (List.getElem?_eq_some_iff.mp hq).1
      omega
    · omega
  refine ⟨va_P.app (fun k q hq => ?_) hP1, va_D.app (nb_firstD hD) (hD1.weaken (fun k q _ h => hF q.1 h)) (fun i j x y hx hy hxy => ?_)⟩
  · obtain ⟨g1, g2⟩ := apart k q hq
    exact (hP k q (nb_at1 hq)).kept (hk q.1 g1 g2)
  · exact (apart i x hx).2 (by rw [hxy]; exact hD1.2 j y hy)
end NBJ
