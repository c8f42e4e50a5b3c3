def nb_NM (U : State) : Prop := ∀ q ∈ xc_nm, va_Nw (.methodLinkNest q.1 q.2.1 q.2.2.1 q.2.2.2) U
theorem nb_preI {s : State} {H : Heap} {D : va_G} {cA : Nat → ClassId} {a : Nat} {ws : va_W} {A : Nat → Prop} (hK : va_K D vwCl (nb_ty cA) s) (hN : nb_NM s) (hP : va_P D vwCl ws H) (hD : va_D A ws) : PreS s H (va_Pc [.ref a] (fun U => U.heap.size = H.size ∧ va_P D vwCl ws U.heap ∧ va_K D vwCl (nb_ty cA) U ∧ nb_NM U ∧ va_D (fun _ => True) ws)) (.ref a :: []) :=
  ⟨fun b U g mk q => by
    obtain ⟨q0, q1, qP, qK, qN, qD⟩ := q
    exact ⟨q0, q1, qP, va_K.moved (u := U) (U := U.calling g mk b) (Vm.Alike.refl U.vm) qK, fun z hz => va_Nw.same (u := U) (U := U.calling g mk b) rfl rfl (qN z hz), qD⟩,
   fun U hU hw => ⟨rfl, by rw [hU], by rw [hU]; exact hP, va_K.moved hw.alike hK, fun z hz => va_Nw.warmM hw (hN z hz), hD.weaken (fun _ _ _ _ => trivial)⟩⟩
section NBN
variable {p : Program} {l : Launch} {e : Env} {R : Room} {s : State} {m : MethodId} {args : Array Value} {below : List Frame} {meth : Method} {c : Code} {H H0 : Heap} {locs : List Loc} {cells slots : Nat} {Q : State → Prop} {cc : ByteArray} {pc : Nat} {ls : Array Slot} {rest : List Value} {D : va_G} {cA : Nat → ClassId} {ws : va_W} {A : Nat → Prop}
theorem nb_newi (hx : p.tables.exec = Jvm.exec) (hb : c.code = cc) (harr : (Cond.arrayClass .int).before args s = true) (hK : va_K D vwCl (nb_ty cA) s) (hP : va_P D vwCl ws H) (hD : va_D A ws) (hS : va_S A H0 H locs) (hA : ∀ q, H0.size ≤ q → A q) {n : Int32} {N' : Nat} (hn : ¬ n < 0) (hN : n.toNatClampNeg = N') (hbytes : N' * componentBytes .int ≤ 536870912) (hcells : cells + 1 ≤ R.cells) (hslots : slots + N' ≤ R.slots) (hdg : decode cc pc = .ok (.newarray .int, 2))
    (kk : ∀ (q : Nat) (H1 : Heap), va_P D vwCl (ws ++ [(q, .inl (cA 0, N', .inl (fun _ => 0)))]) H1 → va_D A (ws ++ [(q, .inl (cA 0, N', .inl (fun _ => 0)))]) → va_S A H0 H1 locs → W p l e R s m args below meth c H1 locs (cells + 1) (slots + N') Q (F0 m (pc + 2) ls (.ref q :: rest))) : W p l e R s m args below meth c H locs cells slots Q (F0 m pc ls (.int n :: rest)) := by
  have he0 : newarray.typeOf .int = .int := rfl
  have harr2 : (Cond.arrayClass (newarray.typeOf .int)).before args s = true := by rw [he0]; exact harr
  have ha : ∀ cB : ClassId, vp_cell cB (N', .inl (fun _ => 0)) = arrV cB N' (fun _ => defaultValue .int) := fun _ => rfl
  refine va_newa (atype := .int) (ty := .int) (a0 := (N', .inl (fun _ => 0))) hx hb harr2 he0 hK hP hD hS hA ha hn hN hbytes hcells hslots hdg ?_
  intro q cB H1 hK' hP hD hS
  have h1 : va_RA s cB .int := (hK'.2 3 (cB, .int) rfl).2
  have h2 : va_RA s (cA 0) .int := (hK.2 0 (cA 0, .int) rfl).2
  have he : cB = cA 0 := Option.some.inj (Eq.trans (Eq.symm h1) h2)
  subst he
  exact kk q H1 hP hD hS
theorem nb_newb (hx : p.tables.exec = Jvm.exec) (hb : c.code = cc) (harr : (Cond.arrayClass .byte).before args s = true) (hK : va_K D vwCl (nb_ty cA) s) (hP : va_P D vwCl ws H) (hD : va_D A ws) (hS : va_S A H0 H locs) (hA : ∀ q, H0.size ≤ q → A q) {n : Int32} {N' : Nat} (hn : ¬ n < 0) (hN : n.toNatClampNeg = N') (hbytes : N' * componentBytes .byte ≤ 536870912) (hcells : cells + 1 ≤ R.cells) (hslots : slots + N' ≤ R.slots) (hdg : decode cc pc = .ok (.newarray .byte, 2))
    (kk : ∀ (q : Nat) (H1 : Heap), va_P D vwCl (ws ++ [(q, .inl (cA 1, N', .inl (fun _ => 0)))]) H1 → va_D A (ws ++ [(q, .inl (cA 1, N', .inl (fun _ => 0)))]) → va_S A H0 H1 locs → W p l e R s m args below meth c H1 locs (cells + 1) (slots + N') Q (F0 m (pc + 2) ls (.ref q :: rest))) : W p l e R s m args below meth c H locs cells slots Q (F0 m pc ls (.int n :: rest)) := by
  have he0 : newarray.typeOf .byte = .byte := rfl
  have harr2 : (Cond.arrayClass (newarray.typeOf .byte)).before args s = true := by rw [he0]; exact harr
  have ha : ∀ cB : ClassId, vp_cell cB (N', .inl (fun _ => 0)) = arrV cB N' (fun _ => defaultValue .byte) := fun _ => rfl
  refine va_newa (atype := .byte) (ty := .byte) (a0 := (N', .inl (fun _ => 0))) hx hb harr2 he0 hK hP hD hS hA ha hn hN hbytes hcells hslots hdg ?_
  intro q cB H1 hK' hP hD hS
  have h1 : va_RA s cB .byte := (hK'.2 3 (cB, .byte) rfl).2
  have h2 : va_RA s (cA 1) .byte := (hK.2 1 (cA 1, .byte) rfl).2
  have he : cB = cA 1 := Option.some.inj (Eq.trans (Eq.symm h1) h2)
  subst he
  exact kk q H1 hP hD hS
theorem nb_newz (hx : p.tables.exec = Jvm.exec) (hb : c.code = cc) (harr : (Cond.arrayClass .boolean).before args s = true) (hK : va_K D vwCl (nb_ty cA) s) (hP : va_P D vwCl ws H) (hD : va_D A ws) (hS : va_S A H0 H locs) (hA : ∀ q, H0.size ≤ q → A q) {n : Int32} {N' : Nat} (hn : ¬ n < 0) (hN : n.toNatClampNeg = N') (hbytes : N' * componentBytes .boolean ≤ 536870912) (hcells : cells + 1 ≤ R.cells) (hslots : slots + N' ≤ R.slots) (hdg : decode cc pc = .ok (.newarray .boolean, 2))
    (kk : ∀ (q : Nat) (H1 : Heap), va_P D vwCl (ws ++ [(q, .inl (cA 2, N', .inl (fun _ => 0)))]) H1 → va_D A (ws ++ [(q, .inl (cA 2, N', .inl (fun _ => 0)))]) → va_S A H0 H1 locs → W p l e R s m args below meth c H1 locs (cells + 1) (slots + N') Q (F0 m (pc + 2) ls (.ref q :: rest))) : W p l e R s m args below meth c H locs cells slots Q (F0 m pc ls (.int n :: rest)) := by
  have he0 : newarray.typeOf .boolean = .boolean := rfl
  have harr2 : (Cond.arrayClass (newarray.typeOf .boolean)).before args s = true := by rw [he0]; exact harr
  have ha : ∀ cB : ClassId, vp_cell cB (N', .inl (fun _ => 0)) = arrV cB N' (fun _ => defaultValue .boolean) := fun _ => rfl
  refine va_newa (atype := .boolean) (ty := .boolean) (a0 := (N', .inl (fun _ => 0))) hx hb harr2 he0 hK hP hD hS hA ha hn hN hbytes hcells hslots hdg ?_
  intro q cB H1 hK' hP hD hS
  have h1 : va_RA s cB .boolean := (hK'.2 3 (cB, .boolean) rfl).2
  have h2 : va_RA s (cA 2) .boolean := (hK.2 2 (cA 2, .boolean) rfl).2
  have he : cB = cA 2 := Option.some.inj (Eq.trans (Eq.symm h1) h2)
  subst he
  exact kk q H1 hP hD hS
end NBN
