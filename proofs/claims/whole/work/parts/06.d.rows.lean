theorem nb_inj_of {sh : List nb_S} {ad : Nat → Nat} {cA : Nat → ClassId} {σ : nb_St} {A : Nat → Prop} (h : va_D A (nb_cs sh ad cA σ)) : nb_inj sh ad := by
  intro i j hi hj e
  have gi := nb_cs_get (ad := ad) (cA := cA) (σ := σ) (List.getElem?_eq_getElem hi)
  have gj := nb_cs_get (ad := ad) (cA := cA) (σ := σ) (List.getElem?_eq_getElem hj)
  exact h.1 i j _ _ gi gj (by rw [nb_ce_ad, nb_ce_ad]; exact e)
theorem nb_A_of {sh : List nb_S} {ad : Nat → Nat} {cA : Nat → ClassId} {σ : nb_St} {A : Nat → Prop} (h : va_D A (nb_cs sh ad cA σ)) : ∀ q, nb_A sh ad q → A q := by
  intro q hq
  obtain ⟨k, hk, rfl⟩ := hq
  have g := nb_cs_get (ad := ad) (cA := cA) (σ := σ) (List.getElem?_eq_getElem hk)
  have := h.2 k _ g
  rw [nb_ce_ad] at this
  exact this
theorem nb_D_of {sh : List nb_S} {ad : Nat → Nat} {cA : Nat → ClassId} {σ : nb_St} {A : Nat → Prop} (hi : nb_inj sh ad) (hA : ∀ q, nb_A sh ad q → A q) : va_D A (nb_cs sh ad cA σ) := (nb_D hi).weaken (fun _ _ _ h => hA _ h)
theorem nb_keep {D : va_G} {sh sh2 : List nb_S} {ad ad2 : Nat → Nat} {cA : Nat → ClassId} {τ : nb_St} {H H1 : Heap} (hP : va_P D vwCl (nb_cs sh2 ad2 cA τ) H) (hd : ∀ i j, i < sh.length → j < sh2.length → ad i ≠ ad2 j) (hk : ∀ q : Nat, q < H.size → ¬ nb_A sh ad q → H1[q]? = H[q]?) : va_P D vwCl (nb_cs sh2 ad2 cA τ) H1 := by
  refine hP.kept (fun k q hq => ?_)
  have hlt := (hP k q hq).lt
  obtain ⟨t, ht, rfl⟩ := nb_cs_of hq
  rw [nb_ce_ad] at hlt ⊢
  refine hk _ hlt ?_
  rintro ⟨i, hi, e⟩
  exact hd i k hi (List.getElem?_eq_some_iff.mp ht).1 e.symm
theorem xc_Z_narrow {A B : Nat → Prop} {tb : Nat → Nat} {U : State} {H : Heap} (h : xc_Z A tb U H) (hAB : ∀ q, B q → A q) : xc_Z B tb U H := by
  obtain ⟨h1, h2, h3, h4, h5, h6, h7, h8, h9, h10, h11⟩ := h
  exact ⟨h1, h2, ⟨h3.1.narrow hAB, h3.2.narrow hAB⟩, ⟨h4.1.narrow hAB, h4.2.narrow hAB⟩, ⟨h5.1.narrow hAB, h5.2.narrow hAB⟩, h6, h7.narrow hAB, h8.narrow hAB, h9.narrow hAB, h10.narrow hAB, h11.narrow hAB⟩
section NBL
variable {p : Program} {l : Launch} {e : Env} {R : Room} {s : State} {m : MethodId} {args : Array Value} {below : List Frame} {meth : Method} {c : Code} {H H0 : Heap} {locs : List Loc} {cells slots : Nat} {Q : State → Prop} {cc : ByteArray} {pc : Nat} {ls : Array Slot} {rest : List Value} {G : nb_G} {sh : List nb_S} {Z : State → Heap → Prop} {σ σ' : nb_St} {A : Nat → Prop}
theorem nl_end {t : State} (hK : va_K G.1 vwCl (nb_ty G.2.2) s) (hZ : Z s s.heap) (hZo : nb_Zok (nb_A sh G.2.1) Z) (hP : va_P G.1 vwCl (nb_cs sh G.2.1 G.2.2 σ) H) (hS : va_S A s.heap H locs) (hAd : ∀ a, a < s.heap.size → A a → nb_A sh G.2.1 a) (ht : t.heap = H) (hw : s.WarmedH t.vm) : nb_Wp G sh Z σ t := by
  refine ⟨by rw [ht]; exact hP, va_K.moved hw.alike hK, ?_⟩
  rw [ht]
  exact hZo.2.2 t s.heap H (fun a h1 h2 => hS.2.1 a h1 (fun z => h2 (hAd a h1 z))) (hZo.1 s t s.heap hw hZ)
theorem nl_preV {k ci : Nat} {fl : List nb_K} {q : vw_C} {As : List Value} (hK : va_K G.1 vwCl (nb_ty G.2.2) s) (hZ : Z s s.heap) (hZo : nb_Zok (nb_A sh G.2.1) Z) (hP : va_P G.1 vwCl (nb_cs sh G.2.1 G.2.2 σ) H) (hS : va_S A s.heap H locs) (hAd : ∀ a, a < s.heap.size → A a → nb_A sh G.2.1 a) (hs : sh[k]? = some (.inr (ci, fl))) (hc : vwCl[ci]? = some q) : PreV s H q.1 (G.2.1 k) (nb_Pc G sh Z σ (.ref (G.2.1 k) :: As)) As :=
  ⟨nb_blind hZo, va_recv hK hP (ci := ci) (q0 := k) (fs := nb_fs G.2.1 σ k 0 fl) hc (nb_cs_get hs), fun _ hU hw => ⟨rfl, nl_end hK hZ hZo hP hS hAd hU hw⟩⟩
theorem nl_ci {st0 : List Value} {a : Array Value} {r : Int32} {σ1 : nb_St} (hS : va_S A H0 H locs) (hAu : ∀ q, nb_A sh G.2.1 q → A q) (hr : va_Run p l e R s m args below meth c H locs cells slots 0 0 (F0 m pc ls st0) rest (nb_Qi G sh Z r σ1 a) (nb_A sh G.2.1)) (kk : ∀ (H1 : Heap) (locs1 : List Loc), va_P G.1 vwCl (nb_cs sh G.2.1 G.2.2 σ1) H1 → (∀ q : Nat, q < H.size → ¬ nb_A sh G.2.1 q → H1[q]? = H[q]?) → va_S A H0 H1 locs1 → W p l e R s m args below meth c H1 locs1 cells slots Q (F0 m (pc + 3) ls (.int r :: rest))) : W p l e R s m args below meth c H locs cells slots Q (F0 m pc ls st0) :=
  va_calli hr hS (fun q _ h => hAu q h) hAu (fun r' u t H1 locs1 ht hvm hw hB hz hk hS => by subst hw; exact kk H1 locs1 (by rw [← ht]; exact hB.1) hk hS)
theorem nl_cv {st0 : List Value} {a : Array Value} {σ1 : nb_St} (hS : va_S A H0 H locs) (hAu : ∀ q, nb_A sh G.2.1 q → A q) (hr : va_Run p l e R s m args below meth c H locs cells slots 0 0 (F0 m pc ls st0) rest (nb_Qv G sh Z σ1 a) (nb_A sh G.2.1)) (kk : ∀ (H1 : Heap) (locs1 : List Loc), va_P G.1 vwCl (nb_cs sh G.2.1 G.2.2 σ1) H1 → (∀ q : Nat, q < H.size → ¬ nb_A sh G.2.1 q → H1[q]? = H[q]?) → va_S A H0 H1 locs1 → W p l e R s m args below meth c H1 locs1 cells slots Q (F0 m (pc + 3) ls rest)) : W p l e R s m args below meth c H locs cells slots Q (F0 m pc ls st0) :=
  va_callv hr hS (fun q _ h => hAu q h) hAu (fun u t H1 locs1 ht hvm hw hB hz hk hS => kk H1 locs1 (by rw [← ht]; exact hB.1) hk hS)
theorem nl_get (hx : p.tables.exec = Jvm.exec) (hb : c.code = cc) {own ref C : String} {T : u_T} {N ci index : Nat} {Ts : List Cond} (hts : ∀ w ∈ Ts, w.before args s = true) (hin : ∀ w ∈ u_ws C T N, w ∈ Ts) (hown : s.vm.findClass own = some m.cls) (hK : va_K G.1 vwCl (nb_ty G.2.2) s) (hP : va_P G.1 vwCl (nb_cs sh G.2.1 G.2.2 σ) H) (k : Nat) {fl : List nb_K} (hs : sh[k]? = some (.inr (ci, fl))) (hc : vwCl[ci]? = some (C, T, N)) (j : Nat) (hj : j < N) (hlink : (Cond.fieldLink own index ref (T j).2.1 (T j).2.2.1).before args s = true) (hsame : ∀ x, s.fieldFound? (T j).1 (T j).2.1 (T j).2.2.1 = some x → s.fieldFound? ref (T j).2.1 (T j).2.2.1 = some x) {f : nb_K} (hf : fl[j]? = some f) {v : Value} (hv : nb_fv G.2.1 σ k j f = v) (hdg : decode cc pc = .ok (.getfield index, 3))
    (kk : W p l e R s m args below meth c H locs cells slots Q (F0 m (pc + 3) ls (v :: rest))) : W p l e R s m args below meth c H locs cells slots Q (F0 m pc ls (.ref (G.2.1 k) :: rest)) :=
  va_get hx hb hts hin hown hK hP k (show (nb_cs sh G.2.1 G.2.2 σ)[k]? = some (G.2.1 k, .inr (ci, nb_fs G.2.1 σ k 0 fl)) from nb_cs_get hs) hc j hj hlink hsame (v := v) (by rw [nb_fs_get, hf]; simp only [Option.map_some, Nat.zero_add, hv]) hdg kk
theorem nl_iast (hx : p.tables.exec = Jvm.exec) (hb : c.code = cc) (hK : va_K G.1 vwCl (nb_ty G.2.2) s) (hinj : nb_inj sh G.2.1) (hAu : ∀ q, nb_A sh G.2.1 q → A q) (hP : va_P G.1 vwCl (nb_cs sh G.2.1 G.2.2 σ) H) (hS : va_S A H0 H locs) (k : Nat) {n : Nat} (hs : sh[k]? = some (.inl (0, n))) {i x : Int32} (hin : nb_in i n = true) (hσ : σ' = nb_st σ k (nb_ix i) x) (hdg : decode cc pc = .ok (.iastore, 1))
    (kk : ∀ (H1 : Heap) (locs1 : List Loc), va_P G.1 vwCl (nb_cs sh G.2.1 G.2.2 σ') H1 → va_S A H0 H1 locs1 → W p l e R s m args below meth c H1 locs1 cells slots Q (F0 m (pc + 1) ls rest)) : W p l e R s m args below meth c H locs cells slots Q (F0 m pc ls (.int x :: .int i :: .ref (G.2.1 k) :: rest)) := by
  have he : (nb_cs sh G.2.1 G.2.2 σ).set k (G.2.1 k, .inl (G.2.2 0, n, .inl (upd (σ k) i.toNatClampNeg x))) = nb_cs sh G.2.1 G.2.2 (nb_st σ k (nb_ix i) x) := nb_cs_set hs (fun i hi => nb_st_k hi) (by simp only [nb_ce, nb_st_u])
  subst hσ
  refine va_iast hx hb hK hP (nb_D_of hinj hAu) hS k 0 (show (nb_cs sh G.2.1 G.2.2 σ)[k]? = some (G.2.1 k, .inl (G.2.2 0, n, .inl (σ k))) from nb_cs_get hs) rfl (nb_in_v hin) hdg (fun H1 locs1 hP _ hS => kk H1 locs1 ?_ hS)
  rw [he] at hP
  exact hP
end NBL
