def s0_X8 : nb_St := fun _ _ => 0
def rmX8_init : Room := { frames := 1, cells := 31, slots := 647, locals := 22 }
def vsX8_init : List Cond := .code yX8_init cX8_init 1 none :: xT
def fX8_init (N : Nat) : Option nb_St :=
  nb_b (fX8_noEvening N s0_X8 (0 : Int32)) fun σ2 =>
  nb_let (nb_st σ2 2 (nb_ix (0 : Int32)) (2 : Int32)) fun σ3 =>
  nb_let (nb_st σ3 4 (nb_ix (0 : Int32)) (200 : Int32)) fun σ4 =>
  nb_let (nb_st σ4 5 (nb_ix (0 : Int32)) (30 : Int32)) fun σ5 =>
  nb_let (nb_st σ5 3 (nb_ix (1 : Int32)) (1 : Int32)) fun σ6 =>
  nb_let (nb_st σ6 4 (nb_ix (1 : Int32)) (210 : Int32)) fun σ7 =>
  nb_let (nb_st σ7 5 (nb_ix (1 : Int32)) (40 : Int32)) fun σ8 =>
  some σ8
set_option maxHeartbeats 8000000 in
set_option maxRecDepth 100000 in
theorem c_X8_init (l : Launch) (D : va_G) (cA : Nat → ClassId) (h0 sz : Nat) {N : Nat} {σo : nb_St} (hf : fX8_init N = some σo) : Met l yX8_init vsX8_init rmX8_init (va_Pc [.ref h0] (fun U => U.heap.size = sz ∧ va_P D vwCl [(h0, .inr (8, [.int 0, .null, .null, .null, .null, .null, .null, .null, .null, .null, .null, .null, .null, .null, .null, .null, .null, .null, .null, .null, .null, .null, .null, .null, .int 0, .int 0, .null, .int 0, .null, .int 0, .int 0, .int 0, .int 0, .null, .null, .null, .int 0, .null, .null, .null]))] U.heap ∧ va_K D vwCl (nb_ty cA) U ∧ va_D (fun _ => True) [(h0, .inr (8, [.int 0, .null, .null, .null, .null, .null, .null, .null, .null, .null, .null, .null, .null, .null, .null, .null, .null, .null, .null, .null, .null, .null, .null, .null, .int 0, .int 0, .null, .int 0, .null, .int 0, .int 0, .int 0, .int 0, .null, .null, .null, .int 0, .null, .null, .null]))])) (va_Qv (fun ad : Nat → Nat => ad 0 = h0) (fun ad t => va_P D vwCl (nb_cs xm_sh ad cA σo) t.heap ∧ va_K D vwCl (nb_ty cA) t ∧ va_D (va_A [(h0, .inr (8, [.int 0, .null, .null, .null, .null, .null, .null, .null, .null, .null, .null, .null, .null, .null, .null, .null, .null, .null, .null, .null, .null, .null, .null, .null, .int 0, .int 0, .null, .int 0, .null, .int 0, .int 0, .int 0, .int 0, .null, .null, .null, .int 0, .null, .null, .null]))] sz) (nb_cs xm_sh ad cA σo)) (va_A [(h0, .inr (8, [.int 0, .null, .null, .null, .null, .null, .null, .null, .null, .null, .null, .null, .null, .null, .null, .null, .null, .null, .null, .null, .null, .null, .null, .null, .int 0, .int 0, .null, .int 0, .null, .int 0, .int 0, .int 0, .int 0, .null, .null, .null, .int 0, .null, .null, .null]))] sz)) 31 647 (va_A [(h0, .inr (8, [.int 0, .null, .null, .null, .null, .null, .null, .null, .null, .null, .null, .null, .null, .null, .null, .null, .null, .null, .null, .null, .null, .null, .null, .null, .int 0, .int 0, .null, .int 0, .null, .int 0, .int 0, .int 0, .int 0, .null, .null, .null, .int 0, .null, .null, .null]))] sz) := by
  refine Met.ofW (cc := cX8_init) (maxL := 1) (ret := none) (by decide) rfl ?_
  intro p e s m args below meth c s₁ B hml hv
  obtain ⟨rfl, hsz, hP, hK, hD0⟩ := hv
  have hx := B.exec
  have hb := B.bytes
  have hr := B.returns
  have hts : ∀ w ∈ xT, w.before _ s = true := fun w h9 => atoms_spec (ws := vsX8_init) B.pre w (List.mem_cons_of_mem _ h9)
  have hown : s.vm.findClass RX8 = some m.cls := findClass_of_methodNamed B.named
  have hlocks := B.notSynchronized
  have hin : meth.name = "<init>" := (name_of_methodNamed B.named B.method).1
  subst hsz
  have hD := hD0.self (sz := s.heap.size)
  generalize hAe : va_A [(h0, .inr (8, [.int 0, .null, .null, .null, .null, .null, .null, .null, .null, .null, .null, .null, .null, .null, .null, .null, .null, .null, .null, .null, .null, .null, .null, .null, .int 0, .int 0, .null, .int 0, .null, .int 0, .int 0, .int 0, .int 0, .null, .null, .null, .int 0, .null, .null, .null]))] s.heap.size = A at hD ⊢
  have hA : ∀ q : Nat, s.heap.size ≤ q → A q := fun q h => by rw [← hAe]; exact Or.inr h
  have hS : va_S A s.heap s.heap [] := va_S.rf
  have hP : va_P D vwCl [(h0, .inr (8, [.int 0, .null, .null, .null, .null, .null, .null, .null, .null, .null, .null, .null, .null, .null, .null, .null, .null, .null, .null, .null, .null, .null, .null, .null, .int 0, .int 0, .null, .int 0, .null, .int 0, .int 0, .int 0, .int 0, .null, .null, .null, .int 0, .null, .null, .null]))] s.heap := hP
  have hl := lv_entry ([.ref h0]) (n := 1) (Nat.le_of_ble_eq_true rfl)
  rw [lg_entry_eq]
  generalize (lg_sl ([.ref h0]) ++ List.replicate (1 - (lg_sl ([.ref h0])).length) Slot.unset).toArray = ls at hl ⊢
  have hl : lv_has ls 1 [(0, .ref h0)] := hl
  refine lv_aload_n hx hb dX8_init_0 rfl (lv_at hl 0 rfl) ?_
  refine W.objInit hx hb hown (hts _ tw4_118) (hts _ tw1_24) (hts _ tw1_25) rfl (by rw [hml]; exact hl.1) rfl dX8_init_1 (Nat.le_of_ble_eq_true rfl) (Nat.le_of_ble_eq_true rfl) ?_
  refine W.eq (g2 := F0 m 4 ls []) rfl ?_
  refine lv_aload_n hx hb dX8_init_4 rfl (lv_at hl 0 rfl) ?_
  refine lv_sipush (v := (400 : Int32)) hx hb dX8_init_5 (by decide) ?_
  refine nb_newi (N' := 400) hx hb (hts _ tw1_40) hK hP hD hS hA (by decide) (by decide) (by decide) (Nat.le_of_ble_eq_true rfl) (Nat.le_of_ble_eq_true rfl) dX8_init_8 (fun q1 H2 hP2 hD2 hS2 => ?_)
  clear hP hD hS
  have hP := hP2
  have hD := hD2
  have hS := hS2
  clear hP2 hD2 hS2
  obtain ⟨R3, eR3⟩ : ∃ z : va_W, z = ([] : va_W) ++ [(q1, .inl (cA 0, 400, .inl (fun _ => 0)))] := ⟨_, rfl⟩
  replace hP : va_P D vwCl ((h0, .inr (8, [.int 0, .null, .null, .null, .null, .null, .null, .null, .null, .null, .null, .null, .null, .null, .null, .null, .null, .null, .null, .null, .null, .null, .null, .null, .int 0, .int 0, .null, .int 0, .null, .int 0, .int 0, .int 0, .int 0, .null, .null, .null, .int 0, .null, .null, .null])) :: R3) H2 := by rw [eR3]; exact hP
  replace hD : va_D A ((h0, .inr (8, [.int 0, .null, .null, .null, .null, .null, .null, .null, .null, .null, .null, .null, .null, .null, .null, .null, .null, .null, .null, .null, .null, .null, .null, .null, .int 0, .int 0, .null, .int 0, .null, .int 0, .int 0, .int 0, .int 0, .null, .null, .null, .int 0, .null, .null, .null])) :: R3) := by rw [eR3]; exact hD
  replace eR3 : R3 = [(q1, .inl (cA 0, 400, .inl (fun _ => 0)))] := by rw [eR3]; rfl
  refine W.widen (k := 1) (n := 400) (Nat.le_of_ble_eq_true rfl) (Nat.le_of_ble_eq_true rfl) ?_
  refine va_putF (D := D) (ci := 8) (v := .ref q1) (ty := (.array .int)) (C := RX8) (T := TX8) (N := 40) hx hb hts inT_X8 tyX8 tyX8_ok nmX8 hown hK hP hD hS 0 rfl rfl 1 (by decide) (hts _ tw4_124) (fun _ h9 => h9) rfl hin rfl (by decide +kernel) rfl rfl (Nat.le_of_ble_eq_true rfl) dX8_init_10 (fun H4 locs hP2 hD2 hS2 => ?_)
  clear hP hD hS
  have hP := hP2
  have hD := hD2
  have hS := hS2
  clear hP2 hD2 hS2
  replace hP : va_P D vwCl ((h0, .inr (8, [.int 0, .ref q1, .null, .null, .null, .null, .null, .null, .null, .null, .null, .null, .null, .null, .null, .null, .null, .null, .null, .null, .null, .null, .null, .null, .int 0, .int 0, .null, .int 0, .null, .int 0, .int 0, .int 0, .int 0, .null, .null, .null, .int 0, .null, .null, .null])) :: R3) H4 := hP
  replace hD : va_D A ((h0, .inr (8, [.int 0, .ref q1, .null, .null, .null, .null, .null, .null, .null, .null, .null, .null, .null, .null, .null, .null, .null, .null, .null, .null, .null, .null, .null, .null, .int 0, .int 0, .null, .int 0, .null, .int 0, .int 0, .int 0, .int 0, .null, .null, .null, .int 0, .null, .null, .null])) :: R3) := hD
  refine lv_aload_n hx hb dX8_init_13 rfl (lv_at hl 0 rfl) ?_
  refine lv_iconst (v := (2 : Int32)) hx hb dX8_init_14 (by decide) ?_
  refine nb_newi (N' := 2) hx hb (hts _ tw1_40) hK hP hD hS hA (by decide) (by decide) (by decide) (Nat.le_of_ble_eq_true rfl) (Nat.le_of_ble_eq_true rfl) dX8_init_15 (fun q5 H6 hP2 hD2 hS2 => ?_)
  clear hP hD hS
  have hP := hP2
  have hD := hD2
  have hS := hS2
  clear hP2 hD2 hS2
  obtain ⟨R7, eR7⟩ : ∃ z : va_W, z = R3 ++ [(q5, .inl (cA 0, 2, .inl (fun _ => 0)))] := ⟨_, rfl⟩
  replace hP : va_P D vwCl ((h0, .inr (8, [.int 0, .ref q1, .null, .null, .null, .null, .null, .null, .null, .null, .null, .null, .null, .null, .null, .null, .null, .null, .null, .null, .null, .null, .null, .null, .int 0, .int 0, .null, .int 0, .null, .int 0, .int 0, .int 0, .int 0, .null, .null, .null, .int 0, .null, .null, .null])) :: R7) H6 := by rw [eR7]; exact hP
  replace hD : va_D A ((h0, .inr (8, [.int 0, .ref q1, .null, .null, .null, .null, .null, .null, .null, .null, .null, .null, .null, .null, .null, .null, .null, .null, .null, .null, .null, .null, .null, .null, .int 0, .int 0, .null, .int 0, .null, .int 0, .int 0, .int 0, .int 0, .null, .null, .null, .int 0, .null, .null, .null])) :: R7) := by rw [eR7]; exact hD
  replace eR7 : R7 = [(q1, .inl (cA 0, 400, .inl (fun _ => 0))), (q5, .inl (cA 0, 2, .inl (fun _ => 0)))] := by rw [eR7, eR3]; rfl
  clear eR3
  refine W.widen (k := 2) (n := 402) (Nat.le_of_ble_eq_true rfl) (Nat.le_of_ble_eq_true rfl) ?_
  refine va_putF (D := D) (ci := 8) (v := .ref q5) (ty := (.array .int)) (C := RX8) (T := TX8) (N := 40) hx hb hts inT_X8 tyX8 tyX8_ok nmX8 hown hK hP hD hS 0 rfl rfl 2 (by decide) (hts _ tw4_125) (fun _ h9 => h9) rfl hin rfl (by decide +kernel) rfl rfl (Nat.le_of_ble_eq_true rfl) dX8_init_17 (fun H8 locs hP2 hD2 hS2 => ?_)
  clear hP hD hS
  have hP := hP2
  have hD := hD2
  have hS := hS2
  clear hP2 hD2 hS2
  replace hP : va_P D vwCl ((h0, .inr (8, [.int 0, .ref q1, .ref q5, .null, .null, .null, .null, .null, .null, .null, .null, .null, .null, .null, .null, .null, .null, .null, .null, .null, .null, .null, .null, .null, .int 0, .int 0, .null, .int 0, .null, .int 0, .int 0, .int 0, .int 0, .null, .null, .null, .int 0, .null, .null, .null])) :: R7) H8 := hP
  replace hD : va_D A ((h0, .inr (8, [.int 0, .ref q1, .ref q5, .null, .null, .null, .null, .null, .null, .null, .null, .null, .null, .null, .null, .null, .null, .null, .null, .null, .null, .null, .null, .null, .int 0, .int 0, .null, .int 0, .null, .int 0, .int 0, .int 0, .int 0, .null, .null, .null, .int 0, .null, .null, .null])) :: R7) := hD
  refine lv_aload_n hx hb dX8_init_20 rfl (lv_at hl 0 rfl) ?_
  refine lv_bipush (v := (16 : Int32)) hx hb dX8_init_21 (by decide) ?_
  refine nb_newi (N' := 16) hx hb (hts _ tw1_40) hK hP hD hS hA (by decide) (by decide) (by decide) (Nat.le_of_ble_eq_true rfl) (Nat.le_of_ble_eq_true rfl) dX8_init_23 (fun q9 H10 hP2 hD2 hS2 => ?_)
  clear hP hD hS
  have hP := hP2
  have hD := hD2
  have hS := hS2
  clear hP2 hD2 hS2
  obtain ⟨R11, eR11⟩ : ∃ z : va_W, z = R7 ++ [(q9, .inl (cA 0, 16, .inl (fun _ => 0)))] := ⟨_, rfl⟩
  replace hP : va_P D vwCl ((h0, .inr (8, [.int 0, .ref q1, .ref q5, .null, .null, .null, .null, .null, .null, .null, .null, .null, .null, .null, .null, .null, .null, .null, .null, .null, .null, .null, .null, .null, .int 0, .int 0, .null, .int 0, .null, .int 0, .int 0, .int 0, .int 0, .null, .null, .null, .int 0, .null, .null, .null])) :: R11) H10 := by rw [eR11]; exact hP
  replace hD : va_D A ((h0, .inr (8, [.int 0, .ref q1, .ref q5, .null, .null, .null, .null, .null, .null, .null, .null, .null, .null, .null, .null, .null, .null, .null, .null, .null, .null, .null, .null, .null, .int 0, .int 0, .null, .int 0, .null, .int 0, .int 0, .int 0, .int 0, .null, .null, .null, .int 0, .null, .null, .null])) :: R11) := by rw [eR11]; exact hD
  replace eR11 : R11 = [(q1, .inl (cA 0, 400, .inl (fun _ => 0))), (q5, .inl (cA 0, 2, .inl (fun _ => 0))), (q9, .inl (cA 0, 16, .inl (fun _ => 0)))] := by rw [eR11, eR7]; rfl
  clear eR7
  refine W.widen (k := 3) (n := 418) (Nat.le_of_ble_eq_true rfl) (Nat.le_of_ble_eq_true rfl) ?_
  refine va_putF (D := D) (ci := 8) (v := .ref q9) (ty := (.array .int)) (C := RX8) (T := TX8) (N := 40) hx hb hts inT_X8 tyX8 tyX8_ok nmX8 hown hK hP hD hS 0 rfl rfl 3 (by decide) (hts _ tw4_126) (fun _ h9 => h9) rfl hin rfl (by decide +kernel) rfl rfl (Nat.le_of_ble_eq_true rfl) dX8_init_25 (fun H12 locs hP2 hD2 hS2 => ?_)
  clear hP hD hS
  have hP := hP2
  have hD := hD2
  have hS := hS2
  clear hP2 hD2 hS2
  replace hP : va_P D vwCl ((h0, .inr (8, [.int 0, .ref q1, .ref q5, .ref q9, .null, .null, .null, .null, .null, .null, .null, .null, .null, .null, .null, .null, .null, .null, .null, .null, .null, .null, .null, .null, .int 0, .int 0, .null, .int 0, .null, .int 0, .int 0, .int 0, .int 0, .null, .null, .null, .int 0, .null, .null, .null])) :: R11) H12 := hP
  replace hD : va_D A ((h0, .inr (8, [.int 0, .ref q1, .ref q5, .ref q9, .null, .null, .null, .null, .null, .null, .null, .null, .null, .null, .null, .null, .null, .null, .null, .null, .null, .null, .null, .null, .int 0, .int 0, .null, .int 0, .null, .int 0, .int 0, .int 0, .int 0, .null, .null, .null, .int 0, .null, .null, .null])) :: R11) := hD
  refine lv_aload_n hx hb dX8_init_28 rfl (lv_at hl 0 rfl) ?_
  refine lv_bipush (v := (16 : Int32)) hx hb dX8_init_29 (by decide) ?_
  refine nb_newi (N' := 16) hx hb (hts _ tw1_40) hK hP hD hS hA (by decide) (by decide) (by decide) (Nat.le_of_ble_eq_true rfl) (Nat.le_of_ble_eq_true rfl) dX8_init_31 (fun q13 H14 hP2 hD2 hS2 => ?_)
  clear hP hD hS
  have hP := hP2
  have hD := hD2
  have hS := hS2
  clear hP2 hD2 hS2
  obtain ⟨R15, eR15⟩ : ∃ z : va_W, z = R11 ++ [(q13, .inl (cA 0, 16, .inl (fun _ => 0)))] := ⟨_, rfl⟩
  replace hP : va_P D vwCl ((h0, .inr (8, [.int 0, .ref q1, .ref q5, .ref q9, .null, .null, .null, .null, .null, .null, .null, .null, .null, .null, .null, .null, .null, .null, .null, .null, .null, .null, .null, .null, .int 0, .int 0, .null, .int 0, .null, .int 0, .int 0, .int 0, .int 0, .null, .null, .null, .int 0, .null, .null, .null])) :: R15) H14 := by rw [eR15]; exact hP
  replace hD : va_D A ((h0, .inr (8, [.int 0, .ref q1, .ref q5, .ref q9, .null, .null, .null, .null, .null, .null, .null, .null, .null, .null, .null, .null, .null, .null, .null, .null, .null, .null, .null, .null, .int 0, .int 0, .null, .int 0, .null, .int 0, .int 0, .int 0, .int 0, .null, .null, .null, .int 0, .null, .null, .null])) :: R15) := by rw [eR15]; exact hD
  replace eR15 : R15 = [(q1, .inl (cA 0, 400, .inl (fun _ => 0))), (q5, .inl (cA 0, 2, .inl (fun _ => 0))), (q9, .inl (cA 0, 16, .inl (fun _ => 0))), (q13, .inl (cA 0, 16, .inl (fun _ => 0)))] := by rw [eR15, eR11]; rfl
  clear eR11
  refine W.widen (k := 4) (n := 434) (Nat.le_of_ble_eq_true rfl) (Nat.le_of_ble_eq_true rfl) ?_
  refine va_putF (D := D) (ci := 8) (v := .ref q13) (ty := (.array .int)) (C := RX8) (T := TX8) (N := 40) hx hb hts inT_X8 tyX8 tyX8_ok nmX8 hown hK hP hD hS 0 rfl rfl 4 (by decide) (hts _ tw4_127) (fun _ h9 => h9) rfl hin rfl (by decide +kernel) rfl rfl (Nat.le_of_ble_eq_true rfl) dX8_init_33 (fun H16 locs hP2 hD2 hS2 => ?_)
  clear hP hD hS
  have hP := hP2
  have hD := hD2
  have hS := hS2
  clear hP2 hD2 hS2
  replace hP : va_P D vwCl ((h0, .inr (8, [.int 0, .ref q1, .ref q5, .ref q9, .ref q13, .null, .null, .null, .null, .null, .null, .null, .null, .null, .null, .null, .null, .null, .null, .null, .null, .null, .null, .null, .int 0, .int 0, .null, .int 0, .null, .int 0, .int 0, .int 0, .int 0, .null, .null, .null, .int 0, .null, .null, .null])) :: R15) H16 := hP
  replace hD : va_D A ((h0, .inr (8, [.int 0, .ref q1, .ref q5, .ref q9, .ref q13, .null, .null, .null, .null, .null, .null, .null, .null, .null, .null, .null, .null, .null, .null, .null, .null, .null, .null, .null, .int 0, .int 0, .null, .int 0, .null, .int 0, .int 0, .int 0, .int 0, .null, .null, .null, .int 0, .null, .null, .null])) :: R15) := hD
  refine lv_aload_n hx hb dX8_init_36 rfl (lv_at hl 0 rfl) ?_
  refine lv_bipush (v := (16 : Int32)) hx hb dX8_init_37 (by decide) ?_
  refine nb_newi (N' := 16) hx hb (hts _ tw1_40) hK hP hD hS hA (by decide) (by decide) (by decide) (Nat.le_of_ble_eq_true rfl) (Nat.le_of_ble_eq_true rfl) dX8_init_39 (fun q17 H18 hP2 hD2 hS2 => ?_)
  clear hP hD hS
  have hP := hP2
  have hD := hD2
  have hS := hS2
  clear hP2 hD2 hS2
  obtain ⟨R19, eR19⟩ : ∃ z : va_W, z = R15 ++ [(q17, .inl (cA 0, 16, .inl (fun _ => 0)))] := ⟨_, rfl⟩
  replace hP : va_P D vwCl ((h0, .inr (8, [.int 0, .ref q1, .ref q5, .ref q9, .ref q13, .null, .null, .null, .null, .null, .null, .null, .null, .null, .null, .null, .null, .null, .null, .null, .null, .null, .null, .null, .int 0, .int 0, .null, .int 0, .null, .int 0, .int 0, .int 0, .int 0, .null, .null, .null, .int 0, .null, .null, .null])) :: R19) H18 := by rw [eR19]; exact hP
  replace hD : va_D A ((h0, .inr (8, [.int 0, .ref q1, .ref q5, .ref q9, .ref q13, .null, .null, .null, .null, .null, .null, .null, .null, .null, .null, .null, .null, .null, .null, .null, .null, .null, .null, .null, .int 0, .int 0, .null, .int 0, .null, .int 0, .int 0, .int 0, .int 0, .null, .null, .null, .int 0, .null, .null, .null])) :: R19) := by rw [eR19]; exact hD
  replace eR19 : R19 = [(q1, .inl (cA 0, 400, .inl (fun _ => 0))), (q5, .inl (cA 0, 2, .inl (fun _ => 0))), (q9, .inl (cA 0, 16, .inl (fun _ => 0))), (q13, .inl (cA 0, 16, .inl (fun _ => 0))), (q17, .inl (cA 0, 16, .inl (fun _ => 0)))] := by rw [eR19, eR15]; rfl
  clear eR15
  refine W.widen (k := 5) (n := 450) (Nat.le_of_ble_eq_true rfl) (Nat.le_of_ble_eq_true rfl) ?_
  refine va_putF (D := D) (ci := 8) (v := .ref q17) (ty := (.array .int)) (C := RX8) (T := TX8) (N := 40) hx hb hts inT_X8 tyX8 tyX8_ok nmX8 hown hK hP hD hS 0 rfl rfl 5 (by decide) (hts _ tw4_128) (fun _ h9 => h9) rfl hin rfl (by decide +kernel) rfl rfl (Nat.le_of_ble_eq_true rfl) dX8_init_41 (fun H20 locs hP2 hD2 hS2 => ?_)
  clear hP hD hS
  have hP := hP2
  have hD := hD2
  have hS := hS2
  clear hP2 hD2 hS2
  replace hP : va_P D vwCl ((h0, .inr (8, [.int 0, .ref q1, .ref q5, .ref q9, .ref q13, .ref q17, .null, .null, .null, .null, .null, .null, .null, .null, .null, .null, .null, .null, .null, .null, .null, .null, .null, .null, .int 0, .int 0, .null, .int 0, .null, .int 0, .int 0, .int 0, .int 0, .null, .null, .null, .int 0, .null, .null, .null])) :: R19) H20 := hP
  replace hD : va_D A ((h0, .inr (8, [.int 0, .ref q1, .ref q5, .ref q9, .ref q13, .ref q17, .null, .null, .null, .null, .null, .null, .null, .null, .null, .null, .null, .null, .null, .null, .null, .null, .null, .null, .int 0, .int 0, .null, .int 0, .null, .int 0, .int 0, .int 0, .int 0, .null, .null, .null, .int 0, .null, .null, .null])) :: R19) := hD
  refine lv_aload_n hx hb dX8_init_44 rfl (lv_at hl 0 rfl) ?_
  refine lv_bipush (v := (16 : Int32)) hx hb dX8_init_45 (by decide) ?_
  refine nb_newi (N' := 16) hx hb (hts _ tw1_40) hK hP hD hS hA (by decide) (by decide) (by decide) (Nat.le_of_ble_eq_true rfl) (Nat.le_of_ble_eq_true rfl) dX8_init_47 (fun q21 H22 hP2 hD2 hS2 => ?_)
  clear hP hD hS
  have hP := hP2
  have hD := hD2
  have hS := hS2
  clear hP2 hD2 hS2
  obtain ⟨R23, eR23⟩ : ∃ z : va_W, z = R19 ++ [(q21, .inl (cA 0, 16, .inl (fun _ => 0)))] := ⟨_, rfl⟩
  replace hP : va_P D vwCl ((h0, .inr (8, [.int 0, .ref q1, .ref q5, .ref q9, .ref q13, .ref q17, .null, .null, .null, .null, .null, .null, .null, .null, .null, .null, .null, .null, .null, .null, .null, .null, .null, .null, .int 0, .int 0, .null, .int 0, .null, .int 0, .int 0, .int 0, .int 0, .null, .null, .null, .int 0, .null, .null, .null])) :: R23) H22 := by rw [eR23]; exact hP
  replace hD : va_D A ((h0, .inr (8, [.int 0, .ref q1, .ref q5, .ref q9, .ref q13, .ref q17, .null, .null, .null, .null, .null, .null, .null, .null, .null, .null, .null, .null, .null, .null, .null, .null, .null, .null, .int 0, .int 0, .null, .int 0, .null, .int 0, .int 0, .int 0, .int 0, .null, .null, .null, .int 0, .null, .null, .null])) :: R23) := by rw [eR23]; exact hD
  replace eR23 : R23 = [(q1, .inl (cA 0, 400, .inl (fun _ => 0))), (q5, .inl (cA 0, 2, .inl (fun _ => 0))), (q9, .inl (cA 0, 16, .inl (fun _ => 0))), (q13, .inl (cA 0, 16, .inl (fun _ => 0))), (q17, .inl (cA 0, 16, .inl (fun _ => 0))), (q21, .inl (cA 0, 16, .inl (fun _ => 0)))] := by rw [eR23, eR19]; rfl
  clear eR19
  refine W.widen (k := 6) (n := 466) (Nat.le_of_ble_eq_true rfl) (Nat.le_of_ble_eq_true rfl) ?_
  refine va_putF (D := D) (ci := 8) (v := .ref q21) (ty := (.array .int)) (C := RX8) (T := TX8) (N := 40) hx hb hts inT_X8 tyX8 tyX8_ok nmX8 hown hK hP hD hS 0 rfl rfl 6 (by decide) (hts _ tw4_129) (fun _ h9 => h9) rfl hin rfl (by decide +kernel) rfl rfl (Nat.le_of_ble_eq_true rfl) dX8_init_49 (fun H24 locs hP2 hD2 hS2 => ?_)
  clear hP hD hS
  have hP := hP2
  have hD := hD2
  have hS := hS2
  clear hP2 hD2 hS2
  replace hP : va_P D vwCl ((h0, .inr (8, [.int 0, .ref q1, .ref q5, .ref q9, .ref q13, .ref q17, .ref q21, .null, .null, .null, .null, .null, .null, .null, .null, .null, .null, .null, .null, .null, .null, .null, .null, .null, .int 0, .int 0, .null, .int 0, .null, .int 0, .int 0, .int 0, .int 0, .null, .null, .null, .int 0, .null, .null, .null])) :: R23) H24 := hP
  replace hD : va_D A ((h0, .inr (8, [.int 0, .ref q1, .ref q5, .ref q9, .ref q13, .ref q17, .ref q21, .null, .null, .null, .null, .null, .null, .null, .null, .null, .null, .null, .null, .null, .null, .null, .null, .null, .int 0, .int 0, .null, .int 0, .null, .int 0, .int 0, .int 0, .int 0, .null, .null, .null, .int 0, .null, .null, .null])) :: R23) := hD
  refine lv_aload_n hx hb dX8_init_52 rfl (lv_at hl 0 rfl) ?_
  refine lv_iconst (v := (2 : Int32)) hx hb dX8_init_53 (by decide) ?_
  refine nb_newi (N' := 2) hx hb (hts _ tw1_40) hK hP hD hS hA (by decide) (by decide) (by decide) (Nat.le_of_ble_eq_true rfl) (Nat.le_of_ble_eq_true rfl) dX8_init_54 (fun q25 H26 hP2 hD2 hS2 => ?_)
  clear hP hD hS
  have hP := hP2
  have hD := hD2
  have hS := hS2
  clear hP2 hD2 hS2
  obtain ⟨R27, eR27⟩ : ∃ z : va_W, z = R23 ++ [(q25, .inl (cA 0, 2, .inl (fun _ => 0)))] := ⟨_, rfl⟩
  replace hP : va_P D vwCl ((h0, .inr (8, [.int 0, .ref q1, .ref q5, .ref q9, .ref q13, .ref q17, .ref q21, .null, .null, .null, .null, .null, .null, .null, .null, .null, .null, .null, .null, .null, .null, .null, .null, .null, .int 0, .int 0, .null, .int 0, .null, .int 0, .int 0, .int 0, .int 0, .null, .null, .null, .int 0, .null, .null, .null])) :: R27) H26 := by rw [eR27]; exact hP
  replace hD : va_D A ((h0, .inr (8, [.int 0, .ref q1, .ref q5, .ref q9, .ref q13, .ref q17, .ref q21, .null, .null, .null, .null, .null, .null, .null, .null, .null, .null, .null, .null, .null, .null, .null, .null, .null, .int 0, .int 0, .null, .int 0, .null, .int 0, .int 0, .int 0, .int 0, .null, .null, .null, .int 0, .null, .null, .null])) :: R27) := by rw [eR27]; exact hD
  replace eR27 : R27 = [(q1, .inl (cA 0, 400, .inl (fun _ => 0))), (q5, .inl (cA 0, 2, .inl (fun _ => 0))), (q9, .inl (cA 0, 16, .inl (fun _ => 0))), (q13, .inl (cA 0, 16, .inl (fun _ => 0))), (q17, .inl (cA 0, 16, .inl (fun _ => 0))), (q21, .inl (cA 0, 16, .inl (fun _ => 0))), (q25, .inl (cA 0, 2, .inl (fun _ => 0)))] := by rw [eR27, eR23]; rfl
  clear eR23
  refine W.widen (k := 7) (n := 468) (Nat.le_of_ble_eq_true rfl) (Nat.le_of_ble_eq_true rfl) ?_
  refine va_putF (D := D) (ci := 8) (v := .ref q25) (ty := (.array .int)) (C := RX8) (T := TX8) (N := 40) hx hb hts inT_X8 tyX8 tyX8_ok nmX8 hown hK hP hD hS 0 rfl rfl 7 (by decide) (hts _ tw4_130) (fun _ h9 => h9) rfl hin rfl (by decide +kernel) rfl rfl (Nat.le_of_ble_eq_true rfl) dX8_init_56 (fun H28 locs hP2 hD2 hS2 => ?_)
  clear hP hD hS
  have hP := hP2
  have hD := hD2
  have hS := hS2
  clear hP2 hD2 hS2
  replace hP : va_P D vwCl ((h0, .inr (8, [.int 0, .ref q1, .ref q5, .ref q9, .ref q13, .ref q17, .ref q21, .ref q25, .null, .null, .null, .null, .null, .null, .null, .null, .null, .null, .null, .null, .null, .null, .null, .null, .int 0, .int 0, .null, .int 0, .null, .int 0, .int 0, .int 0, .int 0, .null, .null, .null, .int 0, .null, .null, .null])) :: R27) H28 := hP
  replace hD : va_D A ((h0, .inr (8, [.int 0, .ref q1, .ref q5, .ref q9, .ref q13, .ref q17, .ref q21, .ref q25, .null, .null, .null, .null, .null, .null, .null, .null, .null, .null, .null, .null, .null, .null, .null, .null, .int 0, .int 0, .null, .int 0, .null, .int 0, .int 0, .int 0, .int 0, .null, .null, .null, .int 0, .null, .null, .null])) :: R27) := hD
  refine lv_aload_n hx hb dX8_init_59 rfl (lv_at hl 0 rfl) ?_
  refine lv_bipush (v := (6 : Int32)) hx hb dX8_init_60 (by decide) ?_
  refine nb_newi (N' := 6) hx hb (hts _ tw1_40) hK hP hD hS hA (by decide) (by decide) (by decide) (Nat.le_of_ble_eq_true rfl) (Nat.le_of_ble_eq_true rfl) dX8_init_62 (fun q29 H30 hP2 hD2 hS2 => ?_)
  clear hP hD hS
  have hP := hP2
  have hD := hD2
  have hS := hS2
  clear hP2 hD2 hS2
  obtain ⟨R31, eR31⟩ : ∃ z : va_W, z = R27 ++ [(q29, .inl (cA 0, 6, .inl (fun _ => 0)))] := ⟨_, rfl⟩
  replace hP : va_P D vwCl ((h0, .inr (8, [.int 0, .ref q1, .ref q5, .ref q9, .ref q13, .ref q17, .ref q21, .ref q25, .null, .null, .null, .null, .null, .null, .null, .null, .null, .null, .null, .null, .null, .null, .null, .null, .int 0, .int 0, .null, .int 0, .null, .int 0, .int 0, .int 0, .int 0, .null, .null, .null, .int 0, .null, .null, .null])) :: R31) H30 := by rw [eR31]; exact hP
  replace hD : va_D A ((h0, .inr (8, [.int 0, .ref q1, .ref q5, .ref q9, .ref q13, .ref q17, .ref q21, .ref q25, .null, .null, .null, .null, .null, .null, .null, .null, .null, .null, .null, .null, .null, .null, .null, .null, .int 0, .int 0, .null, .int 0, .null, .int 0, .int 0, .int 0, .int 0, .null, .null, .null, .int 0, .null, .null, .null])) :: R31) := by rw [eR31]; exact hD
  replace eR31 : R31 = [(q1, .inl (cA 0, 400, .inl (fun _ => 0))), (q5, .inl (cA 0, 2, .inl (fun _ => 0))), (q9, .inl (cA 0, 16, .inl (fun _ => 0))), (q13, .inl (cA 0, 16, .inl (fun _ => 0))), (q17, .inl (cA 0, 16, .inl (fun _ => 0))), (q21, .inl (cA 0, 16, .inl (fun _ => 0))), (q25, .inl (cA 0, 2, .inl (fun _ => 0))), (q29, .inl (cA 0, 6, .inl (fun _ => 0)))] := by rw [eR31, eR27]; rfl
  clear eR27
  refine W.widen (k := 8) (n := 474) (Nat.le_of_ble_eq_true rfl) (Nat.le_of_ble_eq_true rfl) ?_
  refine va_putF (D := D) (ci := 8) (v := .ref q29) (ty := (.array .int)) (C := RX8) (T := TX8) (N := 40) hx hb hts inT_X8 tyX8 tyX8_ok nmX8 hown hK hP hD hS 0 rfl rfl 8 (by decide) (hts _ tw4_131) (fun _ h9 => h9) rfl hin rfl (by decide +kernel) rfl rfl (Nat.le_of_ble_eq_true rfl) dX8_init_64 (fun H32 locs hP2 hD2 hS2 => ?_)
  clear hP hD hS
  have hP := hP2
  have hD := hD2
  have hS := hS2
  clear hP2 hD2 hS2
  replace hP : va_P D vwCl ((h0, .inr (8, [.int 0, .ref q1, .ref q5, .ref q9, .ref q13, .ref q17, .ref q21, .ref q25, .ref q29, .null, .null, .null, .null, .null, .null, .null, .null, .null, .null, .null, .null, .null, .null, .null, .int 0, .int 0, .null, .int 0, .null, .int 0, .int 0, .int 0, .int 0, .null, .null, .null, .int 0, .null, .null, .null])) :: R31) H32 := hP
  replace hD : va_D A ((h0, .inr (8, [.int 0, .ref q1, .ref q5, .ref q9, .ref q13, .ref q17, .ref q21, .ref q25, .ref q29, .null, .null, .null, .null, .null, .null, .null, .null, .null, .null, .null, .null, .null, .null, .null, .int 0, .int 0, .null, .int 0, .null, .int 0, .int 0, .int 0, .int 0, .null, .null, .null, .int 0, .null, .null, .null])) :: R31) := hD
  refine lv_aload_n hx hb dX8_init_67 rfl (lv_at hl 0 rfl) ?_
  refine lv_bipush (v := (6 : Int32)) hx hb dX8_init_68 (by decide) ?_
  refine nb_newi (N' := 6) hx hb (hts _ tw1_40) hK hP hD hS hA (by decide) (by decide) (by decide) (Nat.le_of_ble_eq_true rfl) (Nat.le_of_ble_eq_true rfl) dX8_init_70 (fun q33 H34 hP2 hD2 hS2 => ?_)
  clear hP hD hS
  have hP := hP2
  have hD := hD2
  have hS := hS2
  clear hP2 hD2 hS2
  obtain ⟨R35, eR35⟩ : ∃ z : va_W, z = R31 ++ [(q33, .inl (cA 0, 6, .inl (fun _ => 0)))] := ⟨_, rfl⟩
  replace hP : va_P D vwCl ((h0, .inr (8, [.int 0, .ref q1, .ref q5, .ref q9, .ref q13, .ref q17, .ref q21, .ref q25, .ref q29, .null, .null, .null, .null, .null, .null, .null, .null, .null, .null, .null, .null, .null, .null, .null, .int 0, .int 0, .null, .int 0, .null, .int 0, .int 0, .int 0, .int 0, .null, .null, .null, .int 0, .null, .null, .null])) :: R35) H34 := by rw [eR35]; exact hP
  replace hD : va_D A ((h0, .inr (8, [.int 0, .ref q1, .ref q5, .ref q9, .ref q13, .ref q17, .ref q21, .ref q25, .ref q29, .null, .null, .null, .null, .null, .null, .null, .null, .null, .null, .null, .null, .null, .null, .null, .int 0, .int 0, .null, .int 0, .null, .int 0, .int 0, .int 0, .int 0, .null, .null, .null, .int 0, .null, .null, .null])) :: R35) := by rw [eR35]; exact hD
  replace eR35 : R35 = [(q1, .inl (cA 0, 400, .inl (fun _ => 0))), (q5, .inl (cA 0, 2, .inl (fun _ => 0))), (q9, .inl (cA 0, 16, .inl (fun _ => 0))), (q13, .inl (cA 0, 16, .inl (fun _ => 0))), (q17, .inl (cA 0, 16, .inl (fun _ => 0))), (q21, .inl (cA 0, 16, .inl (fun _ => 0))), (q25, .inl (cA 0, 2, .inl (fun _ => 0))), (q29, .inl (cA 0, 6, .inl (fun _ => 0))), (q33, .inl (cA 0, 6, .inl (fun _ => 0)))] := by rw [eR35, eR31]; rfl
  clear eR31
  refine W.widen (k := 9) (n := 480) (Nat.le_of_ble_eq_true rfl) (Nat.le_of_ble_eq_true rfl) ?_
  refine va_putF (D := D) (ci := 8) (v := .ref q33) (ty := (.array .int)) (C := RX8) (T := TX8) (N := 40) hx hb hts inT_X8 tyX8 tyX8_ok nmX8 hown hK hP hD hS 0 rfl rfl 9 (by decide) (hts _ tw4_132) (fun _ h9 => h9) rfl hin rfl (by decide +kernel) rfl rfl (Nat.le_of_ble_eq_true rfl) dX8_init_72 (fun H36 locs hP2 hD2 hS2 => ?_)
  clear hP hD hS
  have hP := hP2
  have hD := hD2
  have hS := hS2
  clear hP2 hD2 hS2
  replace hP : va_P D vwCl ((h0, .inr (8, [.int 0, .ref q1, .ref q5, .ref q9, .ref q13, .ref q17, .ref q21, .ref q25, .ref q29, .ref q33, .null, .null, .null, .null, .null, .null, .null, .null, .null, .null, .null, .null, .null, .null, .int 0, .int 0, .null, .int 0, .null, .int 0, .int 0, .int 0, .int 0, .null, .null, .null, .int 0, .null, .null, .null])) :: R35) H36 := hP
  replace hD : va_D A ((h0, .inr (8, [.int 0, .ref q1, .ref q5, .ref q9, .ref q13, .ref q17, .ref q21, .ref q25, .ref q29, .ref q33, .null, .null, .null, .null, .null, .null, .null, .null, .null, .null, .null, .null, .null, .null, .int 0, .int 0, .null, .int 0, .null, .int 0, .int 0, .int 0, .int 0, .null, .null, .null, .int 0, .null, .null, .null])) :: R35) := hD
  refine lv_aload_n hx hb dX8_init_75 rfl (lv_at hl 0 rfl) ?_
  refine lv_iconst (v := (2 : Int32)) hx hb dX8_init_76 (by decide) ?_
  refine nb_newi (N' := 2) hx hb (hts _ tw1_40) hK hP hD hS hA (by decide) (by decide) (by decide) (Nat.le_of_ble_eq_true rfl) (Nat.le_of_ble_eq_true rfl) dX8_init_77 (fun q37 H38 hP2 hD2 hS2 => ?_)
  clear hP hD hS
  have hP := hP2
  have hD := hD2
  have hS := hS2
  clear hP2 hD2 hS2
  obtain ⟨R39, eR39⟩ : ∃ z : va_W, z = R35 ++ [(q37, .inl (cA 0, 2, .inl (fun _ => 0)))] := ⟨_, rfl⟩
  replace hP : va_P D vwCl ((h0, .inr (8, [.int 0, .ref q1, .ref q5, .ref q9, .ref q13, .ref q17, .ref q21, .ref q25, .ref q29, .ref q33, .null, .null, .null, .null, .null, .null, .null, .null, .null, .null, .null, .null, .null, .null, .int 0, .int 0, .null, .int 0, .null, .int 0, .int 0, .int 0, .int 0, .null, .null, .null, .int 0, .null, .null, .null])) :: R39) H38 := by rw [eR39]; exact hP
  replace hD : va_D A ((h0, .inr (8, [.int 0, .ref q1, .ref q5, .ref q9, .ref q13, .ref q17, .ref q21, .ref q25, .ref q29, .ref q33, .null, .null, .null, .null, .null, .null, .null, .null, .null, .null, .null, .null, .null, .null, .int 0, .int 0, .null, .int 0, .null, .int 0, .int 0, .int 0, .int 0, .null, .null, .null, .int 0, .null, .null, .null])) :: R39) := by rw [eR39]; exact hD
  replace eR39 : R39 = [(q1, .inl (cA 0, 400, .inl (fun _ => 0))), (q5, .inl (cA 0, 2, .inl (fun _ => 0))), (q9, .inl (cA 0, 16, .inl (fun _ => 0))), (q13, .inl (cA 0, 16, .inl (fun _ => 0))), (q17, .inl (cA 0, 16, .inl (fun _ => 0))), (q21, .inl (cA 0, 16, .inl (fun _ => 0))), (q25, .inl (cA 0, 2, .inl (fun _ => 0))), (q29, .inl (cA 0, 6, .inl (fun _ => 0))), (q33, .inl (cA 0, 6, .inl (fun _ => 0))), (q37, .inl (cA 0, 2, .inl (fun _ => 0)))] := by rw [eR39, eR35]; rfl
  clear eR35
  refine W.widen (k := 10) (n := 482) (Nat.le_of_ble_eq_true rfl) (Nat.le_of_ble_eq_true rfl) ?_
  refine va_putF (D := D) (ci := 8) (v := .ref q37) (ty := (.array .int)) (C := RX8) (T := TX8) (N := 40) hx hb hts inT_X8 tyX8 tyX8_ok nmX8 hown hK hP hD hS 0 rfl rfl 10 (by decide) (hts _ tw4_133) (fun _ h9 => h9) rfl hin rfl (by decide +kernel) rfl rfl (Nat.le_of_ble_eq_true rfl) dX8_init_79 (fun H40 locs hP2 hD2 hS2 => ?_)
  clear hP hD hS
  have hP := hP2
  have hD := hD2
  have hS := hS2
  clear hP2 hD2 hS2
  replace hP : va_P D vwCl ((h0, .inr (8, [.int 0, .ref q1, .ref q5, .ref q9, .ref q13, .ref q17, .ref q21, .ref q25, .ref q29, .ref q33, .ref q37, .null, .null, .null, .null, .null, .null, .null, .null, .null, .null, .null, .null, .null, .int 0, .int 0, .null, .int 0, .null, .int 0, .int 0, .int 0, .int 0, .null, .null, .null, .int 0, .null, .null, .null])) :: R39) H40 := hP
  replace hD : va_D A ((h0, .inr (8, [.int 0, .ref q1, .ref q5, .ref q9, .ref q13, .ref q17, .ref q21, .ref q25, .ref q29, .ref q33, .ref q37, .null, .null, .null, .null, .null, .null, .null, .null, .null, .null, .null, .null, .null, .int 0, .int 0, .null, .int 0, .null, .int 0, .int 0, .int 0, .int 0, .null, .null, .null, .int 0, .null, .null, .null])) :: R39) := hD
  refine lv_aload_n hx hb dX8_init_82 rfl (lv_at hl 0 rfl) ?_
  refine lv_iconst (v := (2 : Int32)) hx hb dX8_init_83 (by decide) ?_
  refine nb_newi (N' := 2) hx hb (hts _ tw1_40) hK hP hD hS hA (by decide) (by decide) (by decide) (Nat.le_of_ble_eq_true rfl) (Nat.le_of_ble_eq_true rfl) dX8_init_84 (fun q41 H42 hP2 hD2 hS2 => ?_)
  clear hP hD hS
  have hP := hP2
  have hD := hD2
  have hS := hS2
  clear hP2 hD2 hS2
  obtain ⟨R43, eR43⟩ : ∃ z : va_W, z = R39 ++ [(q41, .inl (cA 0, 2, .inl (fun _ => 0)))] := ⟨_, rfl⟩
  replace hP : va_P D vwCl ((h0, .inr (8, [.int 0, .ref q1, .ref q5, .ref q9, .ref q13, .ref q17, .ref q21, .ref q25, .ref q29, .ref q33, .ref q37, .null, .null, .null, .null, .null, .null, .null, .null, .null, .null, .null, .null, .null, .int 0, .int 0, .null, .int 0, .null, .int 0, .int 0, .int 0, .int 0, .null, .null, .null, .int 0, .null, .null, .null])) :: R43) H42 := by rw [eR43]; exact hP
  replace hD : va_D A ((h0, .inr (8, [.int 0, .ref q1, .ref q5, .ref q9, .ref q13, .ref q17, .ref q21, .ref q25, .ref q29, .ref q33, .ref q37, .null, .null, .null, .null, .null, .null, .null, .null, .null, .null, .null, .null, .null, .int 0, .int 0, .null, .int 0, .null, .int 0, .int 0, .int 0, .int 0, .null, .null, .null, .int 0, .null, .null, .null])) :: R43) := by rw [eR43]; exact hD
  replace eR43 : R43 = [(q1, .inl (cA 0, 400, .inl (fun _ => 0))), (q5, .inl (cA 0, 2, .inl (fun _ => 0))), (q9, .inl (cA 0, 16, .inl (fun _ => 0))), (q13, .inl (cA 0, 16, .inl (fun _ => 0))), (q17, .inl (cA 0, 16, .inl (fun _ => 0))), (q21, .inl (cA 0, 16, .inl (fun _ => 0))), (q25, .inl (cA 0, 2, .inl (fun _ => 0))), (q29, .inl (cA 0, 6, .inl (fun _ => 0))), (q33, .inl (cA 0, 6, .inl (fun _ => 0))), (q37, .inl (cA 0, 2, .inl (fun _ => 0))), (q41, .inl (cA 0, 2, .inl (fun _ => 0)))] := by rw [eR43, eR39]; rfl
  clear eR39
  refine W.widen (k := 11) (n := 484) (Nat.le_of_ble_eq_true rfl) (Nat.le_of_ble_eq_true rfl) ?_
  refine va_putF (D := D) (ci := 8) (v := .ref q41) (ty := (.array .int)) (C := RX8) (T := TX8) (N := 40) hx hb hts inT_X8 tyX8 tyX8_ok nmX8 hown hK hP hD hS 0 rfl rfl 11 (by decide) (hts _ tw4_134) (fun _ h9 => h9) rfl hin rfl (by decide +kernel) rfl rfl (Nat.le_of_ble_eq_true rfl) dX8_init_86 (fun H44 locs hP2 hD2 hS2 => ?_)
  clear hP hD hS
  have hP := hP2
  have hD := hD2
  have hS := hS2
  clear hP2 hD2 hS2
  replace hP : va_P D vwCl ((h0, .inr (8, [.int 0, .ref q1, .ref q5, .ref q9, .ref q13, .ref q17, .ref q21, .ref q25, .ref q29, .ref q33, .ref q37, .ref q41, .null, .null, .null, .null, .null, .null, .null, .null, .null, .null, .null, .null, .int 0, .int 0, .null, .int 0, .null, .int 0, .int 0, .int 0, .int 0, .null, .null, .null, .int 0, .null, .null, .null])) :: R43) H44 := hP
  replace hD : va_D A ((h0, .inr (8, [.int 0, .ref q1, .ref q5, .ref q9, .ref q13, .ref q17, .ref q21, .ref q25, .ref q29, .ref q33, .ref q37, .ref q41, .null, .null, .null, .null, .null, .null, .null, .null, .null, .null, .null, .null, .int 0, .int 0, .null, .int 0, .null, .int 0, .int 0, .int 0, .int 0, .null, .null, .null, .int 0, .null, .null, .null])) :: R43) := hD
  refine lv_aload_n hx hb dX8_init_89 rfl (lv_at hl 0 rfl) ?_
  refine lv_iconst (v := (2 : Int32)) hx hb dX8_init_90 (by decide) ?_
  refine nb_newi (N' := 2) hx hb (hts _ tw1_40) hK hP hD hS hA (by decide) (by decide) (by decide) (Nat.le_of_ble_eq_true rfl) (Nat.le_of_ble_eq_true rfl) dX8_init_91 (fun q45 H46 hP2 hD2 hS2 => ?_)
  clear hP hD hS
  have hP := hP2
  have hD := hD2
  have hS := hS2
  clear hP2 hD2 hS2
  obtain ⟨R47, eR47⟩ : ∃ z : va_W, z = R43 ++ [(q45, .inl (cA 0, 2, .inl (fun _ => 0)))] := ⟨_, rfl⟩
  replace hP : va_P D vwCl ((h0, .inr (8, [.int 0, .ref q1, .ref q5, .ref q9, .ref q13, .ref q17, .ref q21, .ref q25, .ref q29, .ref q33, .ref q37, .ref q41, .null, .null, .null, .null, .null, .null, .null, .null, .null, .null, .null, .null, .int 0, .int 0, .null, .int 0, .null, .int 0, .int 0, .int 0, .int 0, .null, .null, .null, .int 0, .null, .null, .null])) :: R47) H46 := by rw [eR47]; exact hP
  replace hD : va_D A ((h0, .inr (8, [.int 0, .ref q1, .ref q5, .ref q9, .ref q13, .ref q17, .ref q21, .ref q25, .ref q29, .ref q33, .ref q37, .ref q41, .null, .null, .null, .null, .null, .null, .null, .null, .null, .null, .null, .null, .int 0, .int 0, .null, .int 0, .null, .int 0, .int 0, .int 0, .int 0, .null, .null, .null, .int 0, .null, .null, .null])) :: R47) := by rw [eR47]; exact hD
  replace eR47 : R47 = [(q1, .inl (cA 0, 400, .inl (fun _ => 0))), (q5, .inl (cA 0, 2, .inl (fun _ => 0))), (q9, .inl (cA 0, 16, .inl (fun _ => 0))), (q13, .inl (cA 0, 16, .inl (fun _ => 0))), (q17, .inl (cA 0, 16, .inl (fun _ => 0))), (q21, .inl (cA 0, 16, .inl (fun _ => 0))), (q25, .inl (cA 0, 2, .inl (fun _ => 0))), (q29, .inl (cA 0, 6, .inl (fun _ => 0))), (q33, .inl (cA 0, 6, .inl (fun _ => 0))), (q37, .inl (cA 0, 2, .inl (fun _ => 0))), (q41, .inl (cA 0, 2, .inl (fun _ => 0))), (q45, .inl (cA 0, 2, .inl (fun _ => 0)))] := by rw [eR47, eR43]; rfl
  clear eR43
  refine W.widen (k := 12) (n := 486) (Nat.le_of_ble_eq_true rfl) (Nat.le_of_ble_eq_true rfl) ?_
  refine va_putF (D := D) (ci := 8) (v := .ref q45) (ty := (.array .int)) (C := RX8) (T := TX8) (N := 40) hx hb hts inT_X8 tyX8 tyX8_ok nmX8 hown hK hP hD hS 0 rfl rfl 12 (by decide) (hts _ tw4_135) (fun _ h9 => h9) rfl hin rfl (by decide +kernel) rfl rfl (Nat.le_of_ble_eq_true rfl) dX8_init_93 (fun H48 locs hP2 hD2 hS2 => ?_)
  clear hP hD hS
  have hP := hP2
  have hD := hD2
  have hS := hS2
  clear hP2 hD2 hS2
  replace hP : va_P D vwCl ((h0, .inr (8, [.int 0, .ref q1, .ref q5, .ref q9, .ref q13, .ref q17, .ref q21, .ref q25, .ref q29, .ref q33, .ref q37, .ref q41, .ref q45, .null, .null, .null, .null, .null, .null, .null, .null, .null, .null, .null, .int 0, .int 0, .null, .int 0, .null, .int 0, .int 0, .int 0, .int 0, .null, .null, .null, .int 0, .null, .null, .null])) :: R47) H48 := hP
  replace hD : va_D A ((h0, .inr (8, [.int 0, .ref q1, .ref q5, .ref q9, .ref q13, .ref q17, .ref q21, .ref q25, .ref q29, .ref q33, .ref q37, .ref q41, .ref q45, .null, .null, .null, .null, .null, .null, .null, .null, .null, .null, .null, .int 0, .int 0, .null, .int 0, .null, .int 0, .int 0, .int 0, .int 0, .null, .null, .null, .int 0, .null, .null, .null])) :: R47) := hD
  refine lv_aload_n hx hb dX8_init_96 rfl (lv_at hl 0 rfl) ?_
  refine lv_bipush (v := (6 : Int32)) hx hb dX8_init_97 (by decide) ?_
  refine nb_newi (N' := 6) hx hb (hts _ tw1_40) hK hP hD hS hA (by decide) (by decide) (by decide) (Nat.le_of_ble_eq_true rfl) (Nat.le_of_ble_eq_true rfl) dX8_init_99 (fun q49 H50 hP2 hD2 hS2 => ?_)
  clear hP hD hS
  have hP := hP2
  have hD := hD2
  have hS := hS2
  clear hP2 hD2 hS2
  obtain ⟨R51, eR51⟩ : ∃ z : va_W, z = R47 ++ [(q49, .inl (cA 0, 6, .inl (fun _ => 0)))] := ⟨_, rfl⟩
  replace hP : va_P D vwCl ((h0, .inr (8, [.int 0, .ref q1, .ref q5, .ref q9, .ref q13, .ref q17, .ref q21, .ref q25, .ref q29, .ref q33, .ref q37, .ref q41, .ref q45, .null, .null, .null, .null, .null, .null, .null, .null, .null, .null, .null, .int 0, .int 0, .null, .int 0, .null, .int 0, .int 0, .int 0, .int 0, .null, .null, .null, .int 0, .null, .null, .null])) :: R51) H50 := by rw [eR51]; exact hP
  replace hD : va_D A ((h0, .inr (8, [.int 0, .ref q1, .ref q5, .ref q9, .ref q13, .ref q17, .ref q21, .ref q25, .ref q29, .ref q33, .ref q37, .ref q41, .ref q45, .null, .null, .null, .null, .null, .null, .null, .null, .null, .null, .null, .int 0, .int 0, .null, .int 0, .null, .int 0, .int 0, .int 0, .int 0, .null, .null, .null, .int 0, .null, .null, .null])) :: R51) := by rw [eR51]; exact hD
  replace eR51 : R51 = [(q1, .inl (cA 0, 400, .inl (fun _ => 0))), (q5, .inl (cA 0, 2, .inl (fun _ => 0))), (q9, .inl (cA 0, 16, .inl (fun _ => 0))), (q13, .inl (cA 0, 16, .inl (fun _ => 0))), (q17, .inl (cA 0, 16, .inl (fun _ => 0))), (q21, .inl (cA 0, 16, .inl (fun _ => 0))), (q25, .inl (cA 0, 2, .inl (fun _ => 0))), (q29, .inl (cA 0, 6, .inl (fun _ => 0))), (q33, .inl (cA 0, 6, .inl (fun _ => 0))), (q37, .inl (cA 0, 2, .inl (fun _ => 0))), (q41, .inl (cA 0, 2, .inl (fun _ => 0))), (q45, .inl (cA 0, 2, .inl (fun _ => 0))), (q49, .inl (cA 0, 6, .inl (fun _ => 0)))] := by rw [eR51, eR47]; rfl
  clear eR47
  refine W.widen (k := 13) (n := 492) (Nat.le_of_ble_eq_true rfl) (Nat.le_of_ble_eq_true rfl) ?_
  refine va_putF (D := D) (ci := 8) (v := .ref q49) (ty := (.array .int)) (C := RX8) (T := TX8) (N := 40) hx hb hts inT_X8 tyX8 tyX8_ok nmX8 hown hK hP hD hS 0 rfl rfl 13 (by decide) (hts _ tw4_136) (fun _ h9 => h9) rfl hin rfl (by decide +kernel) rfl rfl (Nat.le_of_ble_eq_true rfl) dX8_init_101 (fun H52 locs hP2 hD2 hS2 => ?_)
  clear hP hD hS
  have hP := hP2
  have hD := hD2
  have hS := hS2
  clear hP2 hD2 hS2
  replace hP : va_P D vwCl ((h0, .inr (8, [.int 0, .ref q1, .ref q5, .ref q9, .ref q13, .ref q17, .ref q21, .ref q25, .ref q29, .ref q33, .ref q37, .ref q41, .ref q45, .ref q49, .null, .null, .null, .null, .null, .null, .null, .null, .null, .null, .int 0, .int 0, .null, .int 0, .null, .int 0, .int 0, .int 0, .int 0, .null, .null, .null, .int 0, .null, .null, .null])) :: R51) H52 := hP
  replace hD : va_D A ((h0, .inr (8, [.int 0, .ref q1, .ref q5, .ref q9, .ref q13, .ref q17, .ref q21, .ref q25, .ref q29, .ref q33, .ref q37, .ref q41, .ref q45, .ref q49, .null, .null, .null, .null, .null, .null, .null, .null, .null, .null, .int 0, .int 0, .null, .int 0, .null, .int 0, .int 0, .int 0, .int 0, .null, .null, .null, .int 0, .null, .null, .null])) :: R51) := hD
  refine lv_aload_n hx hb dX8_init_104 rfl (lv_at hl 0 rfl) ?_
  refine lv_bipush (v := (6 : Int32)) hx hb dX8_init_105 (by decide) ?_
  refine nb_newi (N' := 6) hx hb (hts _ tw1_40) hK hP hD hS hA (by decide) (by decide) (by decide) (Nat.le_of_ble_eq_true rfl) (Nat.le_of_ble_eq_true rfl) dX8_init_107 (fun q53 H54 hP2 hD2 hS2 => ?_)
  clear hP hD hS
  have hP := hP2
  have hD := hD2
  have hS := hS2
  clear hP2 hD2 hS2
  obtain ⟨R55, eR55⟩ : ∃ z : va_W, z = R51 ++ [(q53, .inl (cA 0, 6, .inl (fun _ => 0)))] := ⟨_, rfl⟩
  replace hP : va_P D vwCl ((h0, .inr (8, [.int 0, .ref q1, .ref q5, .ref q9, .ref q13, .ref q17, .ref q21, .ref q25, .ref q29, .ref q33, .ref q37, .ref q41, .ref q45, .ref q49, .null, .null, .null, .null, .null, .null, .null, .null, .null, .null, .int 0, .int 0, .null, .int 0, .null, .int 0, .int 0, .int 0, .int 0, .null, .null, .null, .int 0, .null, .null, .null])) :: R55) H54 := by rw [eR55]; exact hP
  replace hD : va_D A ((h0, .inr (8, [.int 0, .ref q1, .ref q5, .ref q9, .ref q13, .ref q17, .ref q21, .ref q25, .ref q29, .ref q33, .ref q37, .ref q41, .ref q45, .ref q49, .null, .null, .null, .null, .null, .null, .null, .null, .null, .null, .int 0, .int 0, .null, .int 0, .null, .int 0, .int 0, .int 0, .int 0, .null, .null, .null, .int 0, .null, .null, .null])) :: R55) := by rw [eR55]; exact hD
  replace eR55 : R55 = [(q1, .inl (cA 0, 400, .inl (fun _ => 0))), (q5, .inl (cA 0, 2, .inl (fun _ => 0))), (q9, .inl (cA 0, 16, .inl (fun _ => 0))), (q13, .inl (cA 0, 16, .inl (fun _ => 0))), (q17, .inl (cA 0, 16, .inl (fun _ => 0))), (q21, .inl (cA 0, 16, .inl (fun _ => 0))), (q25, .inl (cA 0, 2, .inl (fun _ => 0))), (q29, .inl (cA 0, 6, .inl (fun _ => 0))), (q33, .inl (cA 0, 6, .inl (fun _ => 0))), (q37, .inl (cA 0, 2, .inl (fun _ => 0))), (q41, .inl (cA 0, 2, .inl (fun _ => 0))), (q45, .inl (cA 0, 2, .inl (fun _ => 0))), (q49, .inl (cA 0, 6, .inl (fun _ => 0))), (q53, .inl (cA 0, 6, .inl (fun _ => 0)))] := by rw [eR55, eR51]; rfl
  clear eR51
  refine W.widen (k := 14) (n := 498) (Nat.le_of_ble_eq_true rfl) (Nat.le_of_ble_eq_true rfl) ?_
  refine va_putF (D := D) (ci := 8) (v := .ref q53) (ty := (.array .int)) (C := RX8) (T := TX8) (N := 40) hx hb hts inT_X8 tyX8 tyX8_ok nmX8 hown hK hP hD hS 0 rfl rfl 14 (by decide) (hts _ tw4_137) (fun _ h9 => h9) rfl hin rfl (by decide +kernel) rfl rfl (Nat.le_of_ble_eq_true rfl) dX8_init_109 (fun H56 locs hP2 hD2 hS2 => ?_)
  clear hP hD hS
  have hP := hP2
  have hD := hD2
  have hS := hS2
  clear hP2 hD2 hS2
  replace hP : va_P D vwCl ((h0, .inr (8, [.int 0, .ref q1, .ref q5, .ref q9, .ref q13, .ref q17, .ref q21, .ref q25, .ref q29, .ref q33, .ref q37, .ref q41, .ref q45, .ref q49, .ref q53, .null, .null, .null, .null, .null, .null, .null, .null, .null, .int 0, .int 0, .null, .int 0, .null, .int 0, .int 0, .int 0, .int 0, .null, .null, .null, .int 0, .null, .null, .null])) :: R55) H56 := hP
  replace hD : va_D A ((h0, .inr (8, [.int 0, .ref q1, .ref q5, .ref q9, .ref q13, .ref q17, .ref q21, .ref q25, .ref q29, .ref q33, .ref q37, .ref q41, .ref q45, .ref q49, .ref q53, .null, .null, .null, .null, .null, .null, .null, .null, .null, .int 0, .int 0, .null, .int 0, .null, .int 0, .int 0, .int 0, .int 0, .null, .null, .null, .int 0, .null, .null, .null])) :: R55) := hD
  refine lv_aload_n hx hb dX8_init_112 rfl (lv_at hl 0 rfl) ?_
  refine lv_iconst (v := (2 : Int32)) hx hb dX8_init_113 (by decide) ?_
  refine nb_newi (N' := 2) hx hb (hts _ tw1_40) hK hP hD hS hA (by decide) (by decide) (by decide) (Nat.le_of_ble_eq_true rfl) (Nat.le_of_ble_eq_true rfl) dX8_init_114 (fun q57 H58 hP2 hD2 hS2 => ?_)
  clear hP hD hS
  have hP := hP2
  have hD := hD2
  have hS := hS2
  clear hP2 hD2 hS2
  obtain ⟨R59, eR59⟩ : ∃ z : va_W, z = R55 ++ [(q57, .inl (cA 0, 2, .inl (fun _ => 0)))] := ⟨_, rfl⟩
  replace hP : va_P D vwCl ((h0, .inr (8, [.int 0, .ref q1, .ref q5, .ref q9, .ref q13, .ref q17, .ref q21, .ref q25, .ref q29, .ref q33, .ref q37, .ref q41, .ref q45, .ref q49, .ref q53, .null, .null, .null, .null, .null, .null, .null, .null, .null, .int 0, .int 0, .null, .int 0, .null, .int 0, .int 0, .int 0, .int 0, .null, .null, .null, .int 0, .null, .null, .null])) :: R59) H58 := by rw [eR59]; exact hP
  replace hD : va_D A ((h0, .inr (8, [.int 0, .ref q1, .ref q5, .ref q9, .ref q13, .ref q17, .ref q21, .ref q25, .ref q29, .ref q33, .ref q37, .ref q41, .ref q45, .ref q49, .ref q53, .null, .null, .null, .null, .null, .null, .null, .null, .null, .int 0, .int 0, .null, .int 0, .null, .int 0, .int 0, .int 0, .int 0, .null, .null, .null, .int 0, .null, .null, .null])) :: R59) := by rw [eR59]; exact hD
  replace eR59 : R59 = [(q1, .inl (cA 0, 400, .inl (fun _ => 0))), (q5, .inl (cA 0, 2, .inl (fun _ => 0))), (q9, .inl (cA 0, 16, .inl (fun _ => 0))), (q13, .inl (cA 0, 16, .inl (fun _ => 0))), (q17, .inl (cA 0, 16, .inl (fun _ => 0))), (q21, .inl (cA 0, 16, .inl (fun _ => 0))), (q25, .inl (cA 0, 2, .inl (fun _ => 0))), (q29, .inl (cA 0, 6, .inl (fun _ => 0))), (q33, .inl (cA 0, 6, .inl (fun _ => 0))), (q37, .inl (cA 0, 2, .inl (fun _ => 0))), (q41, .inl (cA 0, 2, .inl (fun _ => 0))), (q45, .inl (cA 0, 2, .inl (fun _ => 0))), (q49, .inl (cA 0, 6, .inl (fun _ => 0))), (q53, .inl (cA 0, 6, .inl (fun _ => 0))), (q57, .inl (cA 0, 2, .inl (fun _ => 0)))] := by rw [eR59, eR55]; rfl
  clear eR55
  refine W.widen (k := 15) (n := 500) (Nat.le_of_ble_eq_true rfl) (Nat.le_of_ble_eq_true rfl) ?_
  refine va_putF (D := D) (ci := 8) (v := .ref q57) (ty := (.array .int)) (C := RX8) (T := TX8) (N := 40) hx hb hts inT_X8 tyX8 tyX8_ok nmX8 hown hK hP hD hS 0 rfl rfl 15 (by decide) (hts _ tw4_138) (fun _ h9 => h9) rfl hin rfl (by decide +kernel) rfl rfl (Nat.le_of_ble_eq_true rfl) dX8_init_116 (fun H60 locs hP2 hD2 hS2 => ?_)
  clear hP hD hS
  have hP := hP2
  have hD := hD2
  have hS := hS2
  clear hP2 hD2 hS2
  replace hP : va_P D vwCl ((h0, .inr (8, [.int 0, .ref q1, .ref q5, .ref q9, .ref q13, .ref q17, .ref q21, .ref q25, .ref q29, .ref q33, .ref q37, .ref q41, .ref q45, .ref q49, .ref q53, .ref q57, .null, .null, .null, .null, .null, .null, .null, .null, .int 0, .int 0, .null, .int 0, .null, .int 0, .int 0, .int 0, .int 0, .null, .null, .null, .int 0, .null, .null, .null])) :: R59) H60 := hP
  replace hD : va_D A ((h0, .inr (8, [.int 0, .ref q1, .ref q5, .ref q9, .ref q13, .ref q17, .ref q21, .ref q25, .ref q29, .ref q33, .ref q37, .ref q41, .ref q45, .ref q49, .ref q53, .ref q57, .null, .null, .null, .null, .null, .null, .null, .null, .int 0, .int 0, .null, .int 0, .null, .int 0, .int 0, .int 0, .int 0, .null, .null, .null, .int 0, .null, .null, .null])) :: R59) := hD
  refine lv_aload_n hx hb dX8_init_119 rfl (lv_at hl 0 rfl) ?_
  refine lv_bipush (v := (12 : Int32)) hx hb dX8_init_120 (by decide) ?_
  refine nb_newi (N' := 12) hx hb (hts _ tw1_40) hK hP hD hS hA (by decide) (by decide) (by decide) (Nat.le_of_ble_eq_true rfl) (Nat.le_of_ble_eq_true rfl) dX8_init_122 (fun q61 H62 hP2 hD2 hS2 => ?_)
  clear hP hD hS
  have hP := hP2
  have hD := hD2
  have hS := hS2
  clear hP2 hD2 hS2
  obtain ⟨R63, eR63⟩ : ∃ z : va_W, z = R59 ++ [(q61, .inl (cA 0, 12, .inl (fun _ => 0)))] := ⟨_, rfl⟩
  replace hP : va_P D vwCl ((h0, .inr (8, [.int 0, .ref q1, .ref q5, .ref q9, .ref q13, .ref q17, .ref q21, .ref q25, .ref q29, .ref q33, .ref q37, .ref q41, .ref q45, .ref q49, .ref q53, .ref q57, .null, .null, .null, .null, .null, .null, .null, .null, .int 0, .int 0, .null, .int 0, .null, .int 0, .int 0, .int 0, .int 0, .null, .null, .null, .int 0, .null, .null, .null])) :: R63) H62 := by rw [eR63]; exact hP
  replace hD : va_D A ((h0, .inr (8, [.int 0, .ref q1, .ref q5, .ref q9, .ref q13, .ref q17, .ref q21, .ref q25, .ref q29, .ref q33, .ref q37, .ref q41, .ref q45, .ref q49, .ref q53, .ref q57, .null, .null, .null, .null, .null, .null, .null, .null, .int 0, .int 0, .null, .int 0, .null, .int 0, .int 0, .int 0, .int 0, .null, .null, .null, .int 0, .null, .null, .null])) :: R63) := by rw [eR63]; exact hD
  replace eR63 : R63 = [(q1, .inl (cA 0, 400, .inl (fun _ => 0))), (q5, .inl (cA 0, 2, .inl (fun _ => 0))), (q9, .inl (cA 0, 16, .inl (fun _ => 0))), (q13, .inl (cA 0, 16, .inl (fun _ => 0))), (q17, .inl (cA 0, 16, .inl (fun _ => 0))), (q21, .inl (cA 0, 16, .inl (fun _ => 0))), (q25, .inl (cA 0, 2, .inl (fun _ => 0))), (q29, .inl (cA 0, 6, .inl (fun _ => 0))), (q33, .inl (cA 0, 6, .inl (fun _ => 0))), (q37, .inl (cA 0, 2, .inl (fun _ => 0))), (q41, .inl (cA 0, 2, .inl (fun _ => 0))), (q45, .inl (cA 0, 2, .inl (fun _ => 0))), (q49, .inl (cA 0, 6, .inl (fun _ => 0))), (q53, .inl (cA 0, 6, .inl (fun _ => 0))), (q57, .inl (cA 0, 2, .inl (fun _ => 0))), (q61, .inl (cA 0, 12, .inl (fun _ => 0)))] := by rw [eR63, eR59]; rfl
  clear eR59
  refine W.widen (k := 16) (n := 512) (Nat.le_of_ble_eq_true rfl) (Nat.le_of_ble_eq_true rfl) ?_
  refine va_putF (D := D) (ci := 8) (v := .ref q61) (ty := (.array .int)) (C := RX8) (T := TX8) (N := 40) hx hb hts inT_X8 tyX8 tyX8_ok nmX8 hown hK hP hD hS 0 rfl rfl 16 (by decide) (hts _ tw4_139) (fun _ h9 => h9) rfl hin rfl (by decide +kernel) rfl rfl (Nat.le_of_ble_eq_true rfl) dX8_init_124 (fun H64 locs hP2 hD2 hS2 => ?_)
  clear hP hD hS
  have hP := hP2
  have hD := hD2
  have hS := hS2
  clear hP2 hD2 hS2
  replace hP : va_P D vwCl ((h0, .inr (8, [.int 0, .ref q1, .ref q5, .ref q9, .ref q13, .ref q17, .ref q21, .ref q25, .ref q29, .ref q33, .ref q37, .ref q41, .ref q45, .ref q49, .ref q53, .ref q57, .ref q61, .null, .null, .null, .null, .null, .null, .null, .int 0, .int 0, .null, .int 0, .null, .int 0, .int 0, .int 0, .int 0, .null, .null, .null, .int 0, .null, .null, .null])) :: R63) H64 := hP
  replace hD : va_D A ((h0, .inr (8, [.int 0, .ref q1, .ref q5, .ref q9, .ref q13, .ref q17, .ref q21, .ref q25, .ref q29, .ref q33, .ref q37, .ref q41, .ref q45, .ref q49, .ref q53, .ref q57, .ref q61, .null, .null, .null, .null, .null, .null, .null, .int 0, .int 0, .null, .int 0, .null, .int 0, .int 0, .int 0, .int 0, .null, .null, .null, .int 0, .null, .null, .null])) :: R63) := hD
  refine lv_aload_n hx hb dX8_init_127 rfl (lv_at hl 0 rfl) ?_
  refine lv_bipush (v := (12 : Int32)) hx hb dX8_init_128 (by decide) ?_
  refine nb_newi (N' := 12) hx hb (hts _ tw1_40) hK hP hD hS hA (by decide) (by decide) (by decide) (Nat.le_of_ble_eq_true rfl) (Nat.le_of_ble_eq_true rfl) dX8_init_130 (fun q65 H66 hP2 hD2 hS2 => ?_)
  clear hP hD hS
  have hP := hP2
  have hD := hD2
  have hS := hS2
  clear hP2 hD2 hS2
  obtain ⟨R67, eR67⟩ : ∃ z : va_W, z = R63 ++ [(q65, .inl (cA 0, 12, .inl (fun _ => 0)))] := ⟨_, rfl⟩
  replace hP : va_P D vwCl ((h0, .inr (8, [.int 0, .ref q1, .ref q5, .ref q9, .ref q13, .ref q17, .ref q21, .ref q25, .ref q29, .ref q33, .ref q37, .ref q41, .ref q45, .ref q49, .ref q53, .ref q57, .ref q61, .null, .null, .null, .null, .null, .null, .null, .int 0, .int 0, .null, .int 0, .null, .int 0, .int 0, .int 0, .int 0, .null, .null, .null, .int 0, .null, .null, .null])) :: R67) H66 := by rw [eR67]; exact hP
  replace hD : va_D A ((h0, .inr (8, [.int 0, .ref q1, .ref q5, .ref q9, .ref q13, .ref q17, .ref q21, .ref q25, .ref q29, .ref q33, .ref q37, .ref q41, .ref q45, .ref q49, .ref q53, .ref q57, .ref q61, .null, .null, .null, .null, .null, .null, .null, .int 0, .int 0, .null, .int 0, .null, .int 0, .int 0, .int 0, .int 0, .null, .null, .null, .int 0, .null, .null, .null])) :: R67) := by rw [eR67]; exact hD
  replace eR67 : R67 = [(q1, .inl (cA 0, 400, .inl (fun _ => 0))), (q5, .inl (cA 0, 2, .inl (fun _ => 0))), (q9, .inl (cA 0, 16, .inl (fun _ => 0))), (q13, .inl (cA 0, 16, .inl (fun _ => 0))), (q17, .inl (cA 0, 16, .inl (fun _ => 0))), (q21, .inl (cA 0, 16, .inl (fun _ => 0))), (q25, .inl (cA 0, 2, .inl (fun _ => 0))), (q29, .inl (cA 0, 6, .inl (fun _ => 0))), (q33, .inl (cA 0, 6, .inl (fun _ => 0))), (q37, .inl (cA 0, 2, .inl (fun _ => 0))), (q41, .inl (cA 0, 2, .inl (fun _ => 0))), (q45, .inl (cA 0, 2, .inl (fun _ => 0))), (q49, .inl (cA 0, 6, .inl (fun _ => 0))), (q53, .inl (cA 0, 6, .inl (fun _ => 0))), (q57, .inl (cA 0, 2, .inl (fun _ => 0))), (q61, .inl (cA 0, 12, .inl (fun _ => 0))), (q65, .inl (cA 0, 12, .inl (fun _ => 0)))] := by rw [eR67, eR63]; rfl
  clear eR63
  refine W.widen (k := 17) (n := 524) (Nat.le_of_ble_eq_true rfl) (Nat.le_of_ble_eq_true rfl) ?_
  refine va_putF (D := D) (ci := 8) (v := .ref q65) (ty := (.array .int)) (C := RX8) (T := TX8) (N := 40) hx hb hts inT_X8 tyX8 tyX8_ok nmX8 hown hK hP hD hS 0 rfl rfl 17 (by decide) (hts _ tw4_140) (fun _ h9 => h9) rfl hin rfl (by decide +kernel) rfl rfl (Nat.le_of_ble_eq_true rfl) dX8_init_132 (fun H68 locs hP2 hD2 hS2 => ?_)
  clear hP hD hS
  have hP := hP2
  have hD := hD2
  have hS := hS2
  clear hP2 hD2 hS2
  replace hP : va_P D vwCl ((h0, .inr (8, [.int 0, .ref q1, .ref q5, .ref q9, .ref q13, .ref q17, .ref q21, .ref q25, .ref q29, .ref q33, .ref q37, .ref q41, .ref q45, .ref q49, .ref q53, .ref q57, .ref q61, .ref q65, .null, .null, .null, .null, .null, .null, .int 0, .int 0, .null, .int 0, .null, .int 0, .int 0, .int 0, .int 0, .null, .null, .null, .int 0, .null, .null, .null])) :: R67) H68 := hP
  replace hD : va_D A ((h0, .inr (8, [.int 0, .ref q1, .ref q5, .ref q9, .ref q13, .ref q17, .ref q21, .ref q25, .ref q29, .ref q33, .ref q37, .ref q41, .ref q45, .ref q49, .ref q53, .ref q57, .ref q61, .ref q65, .null, .null, .null, .null, .null, .null, .int 0, .int 0, .null, .int 0, .null, .int 0, .int 0, .int 0, .int 0, .null, .null, .null, .int 0, .null, .null, .null])) :: R67) := hD
  refine lv_aload_n hx hb dX8_init_135 rfl (lv_at hl 0 rfl) ?_
  refine lv_bipush (v := (12 : Int32)) hx hb dX8_init_136 (by decide) ?_
  refine nb_newi (N' := 12) hx hb (hts _ tw1_40) hK hP hD hS hA (by decide) (by decide) (by decide) (Nat.le_of_ble_eq_true rfl) (Nat.le_of_ble_eq_true rfl) dX8_init_138 (fun q69 H70 hP2 hD2 hS2 => ?_)
  clear hP hD hS
  have hP := hP2
  have hD := hD2
  have hS := hS2
  clear hP2 hD2 hS2
  obtain ⟨R71, eR71⟩ : ∃ z : va_W, z = R67 ++ [(q69, .inl (cA 0, 12, .inl (fun _ => 0)))] := ⟨_, rfl⟩
  replace hP : va_P D vwCl ((h0, .inr (8, [.int 0, .ref q1, .ref q5, .ref q9, .ref q13, .ref q17, .ref q21, .ref q25, .ref q29, .ref q33, .ref q37, .ref q41, .ref q45, .ref q49, .ref q53, .ref q57, .ref q61, .ref q65, .null, .null, .null, .null, .null, .null, .int 0, .int 0, .null, .int 0, .null, .int 0, .int 0, .int 0, .int 0, .null, .null, .null, .int 0, .null, .null, .null])) :: R71) H70 := by rw [eR71]; exact hP
  replace hD : va_D A ((h0, .inr (8, [.int 0, .ref q1, .ref q5, .ref q9, .ref q13, .ref q17, .ref q21, .ref q25, .ref q29, .ref q33, .ref q37, .ref q41, .ref q45, .ref q49, .ref q53, .ref q57, .ref q61, .ref q65, .null, .null, .null, .null, .null, .null, .int 0, .int 0, .null, .int 0, .null, .int 0, .int 0, .int 0, .int 0, .null, .null, .null, .int 0, .null, .null, .null])) :: R71) := by rw [eR71]; exact hD
  replace eR71 : R71 = [(q1, .inl (cA 0, 400, .inl (fun _ => 0))), (q5, .inl (cA 0, 2, .inl (fun _ => 0))), (q9, .inl (cA 0, 16, .inl (fun _ => 0))), (q13, .inl (cA 0, 16, .inl (fun _ => 0))), (q17, .inl (cA 0, 16, .inl (fun _ => 0))), (q21, .inl (cA 0, 16, .inl (fun _ => 0))), (q25, .inl (cA 0, 2, .inl (fun _ => 0))), (q29, .inl (cA 0, 6, .inl (fun _ => 0))), (q33, .inl (cA 0, 6, .inl (fun _ => 0))), (q37, .inl (cA 0, 2, .inl (fun _ => 0))), (q41, .inl (cA 0, 2, .inl (fun _ => 0))), (q45, .inl (cA 0, 2, .inl (fun _ => 0))), (q49, .inl (cA 0, 6, .inl (fun _ => 0))), (q53, .inl (cA 0, 6, .inl (fun _ => 0))), (q57, .inl (cA 0, 2, .inl (fun _ => 0))), (q61, .inl (cA 0, 12, .inl (fun _ => 0))), (q65, .inl (cA 0, 12, .inl (fun _ => 0))), (q69, .inl (cA 0, 12, .inl (fun _ => 0)))] := by rw [eR71, eR67]; rfl
  clear eR67
  refine W.widen (k := 18) (n := 536) (Nat.le_of_ble_eq_true rfl) (Nat.le_of_ble_eq_true rfl) ?_
  refine va_putF (D := D) (ci := 8) (v := .ref q69) (ty := (.array .int)) (C := RX8) (T := TX8) (N := 40) hx hb hts inT_X8 tyX8 tyX8_ok nmX8 hown hK hP hD hS 0 rfl rfl 18 (by decide) (hts _ tw4_141) (fun _ h9 => h9) rfl hin rfl (by decide +kernel) rfl rfl (Nat.le_of_ble_eq_true rfl) dX8_init_140 (fun H72 locs hP2 hD2 hS2 => ?_)
  clear hP hD hS
  have hP := hP2
  have hD := hD2
  have hS := hS2
  clear hP2 hD2 hS2
  replace hP : va_P D vwCl ((h0, .inr (8, [.int 0, .ref q1, .ref q5, .ref q9, .ref q13, .ref q17, .ref q21, .ref q25, .ref q29, .ref q33, .ref q37, .ref q41, .ref q45, .ref q49, .ref q53, .ref q57, .ref q61, .ref q65, .ref q69, .null, .null, .null, .null, .null, .int 0, .int 0, .null, .int 0, .null, .int 0, .int 0, .int 0, .int 0, .null, .null, .null, .int 0, .null, .null, .null])) :: R71) H72 := hP
  replace hD : va_D A ((h0, .inr (8, [.int 0, .ref q1, .ref q5, .ref q9, .ref q13, .ref q17, .ref q21, .ref q25, .ref q29, .ref q33, .ref q37, .ref q41, .ref q45, .ref q49, .ref q53, .ref q57, .ref q61, .ref q65, .ref q69, .null, .null, .null, .null, .null, .int 0, .int 0, .null, .int 0, .null, .int 0, .int 0, .int 0, .int 0, .null, .null, .null, .int 0, .null, .null, .null])) :: R71) := hD
  refine lv_aload_n hx hb dX8_init_143 rfl (lv_at hl 0 rfl) ?_
  refine lv_iconst (v := (4 : Int32)) hx hb dX8_init_144 (by decide) ?_
  refine nb_newi (N' := 4) hx hb (hts _ tw1_40) hK hP hD hS hA (by decide) (by decide) (by decide) (Nat.le_of_ble_eq_true rfl) (Nat.le_of_ble_eq_true rfl) dX8_init_145 (fun q73 H74 hP2 hD2 hS2 => ?_)
  clear hP hD hS
  have hP := hP2
  have hD := hD2
  have hS := hS2
  clear hP2 hD2 hS2
  obtain ⟨R75, eR75⟩ : ∃ z : va_W, z = R71 ++ [(q73, .inl (cA 0, 4, .inl (fun _ => 0)))] := ⟨_, rfl⟩
  replace hP : va_P D vwCl ((h0, .inr (8, [.int 0, .ref q1, .ref q5, .ref q9, .ref q13, .ref q17, .ref q21, .ref q25, .ref q29, .ref q33, .ref q37, .ref q41, .ref q45, .ref q49, .ref q53, .ref q57, .ref q61, .ref q65, .ref q69, .null, .null, .null, .null, .null, .int 0, .int 0, .null, .int 0, .null, .int 0, .int 0, .int 0, .int 0, .null, .null, .null, .int 0, .null, .null, .null])) :: R75) H74 := by rw [eR75]; exact hP
  replace hD : va_D A ((h0, .inr (8, [.int 0, .ref q1, .ref q5, .ref q9, .ref q13, .ref q17, .ref q21, .ref q25, .ref q29, .ref q33, .ref q37, .ref q41, .ref q45, .ref q49, .ref q53, .ref q57, .ref q61, .ref q65, .ref q69, .null, .null, .null, .null, .null, .int 0, .int 0, .null, .int 0, .null, .int 0, .int 0, .int 0, .int 0, .null, .null, .null, .int 0, .null, .null, .null])) :: R75) := by rw [eR75]; exact hD
  replace eR75 : R75 = [(q1, .inl (cA 0, 400, .inl (fun _ => 0))), (q5, .inl (cA 0, 2, .inl (fun _ => 0))), (q9, .inl (cA 0, 16, .inl (fun _ => 0))), (q13, .inl (cA 0, 16, .inl (fun _ => 0))), (q17, .inl (cA 0, 16, .inl (fun _ => 0))), (q21, .inl (cA 0, 16, .inl (fun _ => 0))), (q25, .inl (cA 0, 2, .inl (fun _ => 0))), (q29, .inl (cA 0, 6, .inl (fun _ => 0))), (q33, .inl (cA 0, 6, .inl (fun _ => 0))), (q37, .inl (cA 0, 2, .inl (fun _ => 0))), (q41, .inl (cA 0, 2, .inl (fun _ => 0))), (q45, .inl (cA 0, 2, .inl (fun _ => 0))), (q49, .inl (cA 0, 6, .inl (fun _ => 0))), (q53, .inl (cA 0, 6, .inl (fun _ => 0))), (q57, .inl (cA 0, 2, .inl (fun _ => 0))), (q61, .inl (cA 0, 12, .inl (fun _ => 0))), (q65, .inl (cA 0, 12, .inl (fun _ => 0))), (q69, .inl (cA 0, 12, .inl (fun _ => 0))), (q73, .inl (cA 0, 4, .inl (fun _ => 0)))] := by rw [eR75, eR71]; rfl
  clear eR71
  refine W.widen (k := 19) (n := 540) (Nat.le_of_ble_eq_true rfl) (Nat.le_of_ble_eq_true rfl) ?_
  refine va_putF (D := D) (ci := 8) (v := .ref q73) (ty := (.array .int)) (C := RX8) (T := TX8) (N := 40) hx hb hts inT_X8 tyX8 tyX8_ok nmX8 hown hK hP hD hS 0 rfl rfl 19 (by decide) (hts _ tw4_142) (fun _ h9 => h9) rfl hin rfl (by decide +kernel) rfl rfl (Nat.le_of_ble_eq_true rfl) dX8_init_147 (fun H76 locs hP2 hD2 hS2 => ?_)
  clear hP hD hS
  have hP := hP2
  have hD := hD2
  have hS := hS2
  clear hP2 hD2 hS2
  replace hP : va_P D vwCl ((h0, .inr (8, [.int 0, .ref q1, .ref q5, .ref q9, .ref q13, .ref q17, .ref q21, .ref q25, .ref q29, .ref q33, .ref q37, .ref q41, .ref q45, .ref q49, .ref q53, .ref q57, .ref q61, .ref q65, .ref q69, .ref q73, .null, .null, .null, .null, .int 0, .int 0, .null, .int 0, .null, .int 0, .int 0, .int 0, .int 0, .null, .null, .null, .int 0, .null, .null, .null])) :: R75) H76 := hP
  replace hD : va_D A ((h0, .inr (8, [.int 0, .ref q1, .ref q5, .ref q9, .ref q13, .ref q17, .ref q21, .ref q25, .ref q29, .ref q33, .ref q37, .ref q41, .ref q45, .ref q49, .ref q53, .ref q57, .ref q61, .ref q65, .ref q69, .ref q73, .null, .null, .null, .null, .int 0, .int 0, .null, .int 0, .null, .int 0, .int 0, .int 0, .int 0, .null, .null, .null, .int 0, .null, .null, .null])) :: R75) := hD
  refine lv_aload_n hx hb dX8_init_150 rfl (lv_at hl 0 rfl) ?_
  refine lv_bipush (v := (24 : Int32)) hx hb dX8_init_151 (by decide) ?_
  refine nb_newi (N' := 24) hx hb (hts _ tw1_40) hK hP hD hS hA (by decide) (by decide) (by decide) (Nat.le_of_ble_eq_true rfl) (Nat.le_of_ble_eq_true rfl) dX8_init_153 (fun q77 H78 hP2 hD2 hS2 => ?_)
  clear hP hD hS
  have hP := hP2
  have hD := hD2
  have hS := hS2
  clear hP2 hD2 hS2
  obtain ⟨R79, eR79⟩ : ∃ z : va_W, z = R75 ++ [(q77, .inl (cA 0, 24, .inl (fun _ => 0)))] := ⟨_, rfl⟩
  replace hP : va_P D vwCl ((h0, .inr (8, [.int 0, .ref q1, .ref q5, .ref q9, .ref q13, .ref q17, .ref q21, .ref q25, .ref q29, .ref q33, .ref q37, .ref q41, .ref q45, .ref q49, .ref q53, .ref q57, .ref q61, .ref q65, .ref q69, .ref q73, .null, .null, .null, .null, .int 0, .int 0, .null, .int 0, .null, .int 0, .int 0, .int 0, .int 0, .null, .null, .null, .int 0, .null, .null, .null])) :: R79) H78 := by rw [eR79]; exact hP
  replace hD : va_D A ((h0, .inr (8, [.int 0, .ref q1, .ref q5, .ref q9, .ref q13, .ref q17, .ref q21, .ref q25, .ref q29, .ref q33, .ref q37, .ref q41, .ref q45, .ref q49, .ref q53, .ref q57, .ref q61, .ref q65, .ref q69, .ref q73, .null, .null, .null, .null, .int 0, .int 0, .null, .int 0, .null, .int 0, .int 0, .int 0, .int 0, .null, .null, .null, .int 0, .null, .null, .null])) :: R79) := by rw [eR79]; exact hD
  replace eR79 : R79 = [(q1, .inl (cA 0, 400, .inl (fun _ => 0))), (q5, .inl (cA 0, 2, .inl (fun _ => 0))), (q9, .inl (cA 0, 16, .inl (fun _ => 0))), (q13, .inl (cA 0, 16, .inl (fun _ => 0))), (q17, .inl (cA 0, 16, .inl (fun _ => 0))), (q21, .inl (cA 0, 16, .inl (fun _ => 0))), (q25, .inl (cA 0, 2, .inl (fun _ => 0))), (q29, .inl (cA 0, 6, .inl (fun _ => 0))), (q33, .inl (cA 0, 6, .inl (fun _ => 0))), (q37, .inl (cA 0, 2, .inl (fun _ => 0))), (q41, .inl (cA 0, 2, .inl (fun _ => 0))), (q45, .inl (cA 0, 2, .inl (fun _ => 0))), (q49, .inl (cA 0, 6, .inl (fun _ => 0))), (q53, .inl (cA 0, 6, .inl (fun _ => 0))), (q57, .inl (cA 0, 2, .inl (fun _ => 0))), (q61, .inl (cA 0, 12, .inl (fun _ => 0))), (q65, .inl (cA 0, 12, .inl (fun _ => 0))), (q69, .inl (cA 0, 12, .inl (fun _ => 0))), (q73, .inl (cA 0, 4, .inl (fun _ => 0))), (q77, .inl (cA 0, 24, .inl (fun _ => 0)))] := by rw [eR79, eR75]; rfl
  clear eR75
  refine W.widen (k := 20) (n := 564) (Nat.le_of_ble_eq_true rfl) (Nat.le_of_ble_eq_true rfl) ?_
  refine va_putF (D := D) (ci := 8) (v := .ref q77) (ty := (.array .int)) (C := RX8) (T := TX8) (N := 40) hx hb hts inT_X8 tyX8 tyX8_ok nmX8 hown hK hP hD hS 0 rfl rfl 20 (by decide) (hts _ tw4_143) (fun _ h9 => h9) rfl hin rfl (by decide +kernel) rfl rfl (Nat.le_of_ble_eq_true rfl) dX8_init_155 (fun H80 locs hP2 hD2 hS2 => ?_)
  clear hP hD hS
  have hP := hP2
  have hD := hD2
  have hS := hS2
  clear hP2 hD2 hS2
  replace hP : va_P D vwCl ((h0, .inr (8, [.int 0, .ref q1, .ref q5, .ref q9, .ref q13, .ref q17, .ref q21, .ref q25, .ref q29, .ref q33, .ref q37, .ref q41, .ref q45, .ref q49, .ref q53, .ref q57, .ref q61, .ref q65, .ref q69, .ref q73, .ref q77, .null, .null, .null, .int 0, .int 0, .null, .int 0, .null, .int 0, .int 0, .int 0, .int 0, .null, .null, .null, .int 0, .null, .null, .null])) :: R79) H80 := hP
  replace hD : va_D A ((h0, .inr (8, [.int 0, .ref q1, .ref q5, .ref q9, .ref q13, .ref q17, .ref q21, .ref q25, .ref q29, .ref q33, .ref q37, .ref q41, .ref q45, .ref q49, .ref q53, .ref q57, .ref q61, .ref q65, .ref q69, .ref q73, .ref q77, .null, .null, .null, .int 0, .int 0, .null, .int 0, .null, .int 0, .int 0, .int 0, .int 0, .null, .null, .null, .int 0, .null, .null, .null])) :: R79) := hD
  refine lv_aload_n hx hb dX8_init_158 rfl (lv_at hl 0 rfl) ?_
  refine lv_bipush (v := (24 : Int32)) hx hb dX8_init_159 (by decide) ?_
  refine nb_newi (N' := 24) hx hb (hts _ tw1_40) hK hP hD hS hA (by decide) (by decide) (by decide) (Nat.le_of_ble_eq_true rfl) (Nat.le_of_ble_eq_true rfl) dX8_init_161 (fun q81 H82 hP2 hD2 hS2 => ?_)
  clear hP hD hS
  have hP := hP2
  have hD := hD2
  have hS := hS2
  clear hP2 hD2 hS2
  obtain ⟨R83, eR83⟩ : ∃ z : va_W, z = R79 ++ [(q81, .inl (cA 0, 24, .inl (fun _ => 0)))] := ⟨_, rfl⟩
  replace hP : va_P D vwCl ((h0, .inr (8, [.int 0, .ref q1, .ref q5, .ref q9, .ref q13, .ref q17, .ref q21, .ref q25, .ref q29, .ref q33, .ref q37, .ref q41, .ref q45, .ref q49, .ref q53, .ref q57, .ref q61, .ref q65, .ref q69, .ref q73, .ref q77, .null, .null, .null, .int 0, .int 0, .null, .int 0, .null, .int 0, .int 0, .int 0, .int 0, .null, .null, .null, .int 0, .null, .null, .null])) :: R83) H82 := by rw [eR83]; exact hP
  replace hD : va_D A ((h0, .inr (8, [.int 0, .ref q1, .ref q5, .ref q9, .ref q13, .ref q17, .ref q21, .ref q25, .ref q29, .ref q33, .ref q37, .ref q41, .ref q45, .ref q49, .ref q53, .ref q57, .ref q61, .ref q65, .ref q69, .ref q73, .ref q77, .null, .null, .null, .int 0, .int 0, .null, .int 0, .null, .int 0, .int 0, .int 0, .int 0, .null, .null, .null, .int 0, .null, .null, .null])) :: R83) := by rw [eR83]; exact hD
  replace eR83 : R83 = [(q1, .inl (cA 0, 400, .inl (fun _ => 0))), (q5, .inl (cA 0, 2, .inl (fun _ => 0))), (q9, .inl (cA 0, 16, .inl (fun _ => 0))), (q13, .inl (cA 0, 16, .inl (fun _ => 0))), (q17, .inl (cA 0, 16, .inl (fun _ => 0))), (q21, .inl (cA 0, 16, .inl (fun _ => 0))), (q25, .inl (cA 0, 2, .inl (fun _ => 0))), (q29, .inl (cA 0, 6, .inl (fun _ => 0))), (q33, .inl (cA 0, 6, .inl (fun _ => 0))), (q37, .inl (cA 0, 2, .inl (fun _ => 0))), (q41, .inl (cA 0, 2, .inl (fun _ => 0))), (q45, .inl (cA 0, 2, .inl (fun _ => 0))), (q49, .inl (cA 0, 6, .inl (fun _ => 0))), (q53, .inl (cA 0, 6, .inl (fun _ => 0))), (q57, .inl (cA 0, 2, .inl (fun _ => 0))), (q61, .inl (cA 0, 12, .inl (fun _ => 0))), (q65, .inl (cA 0, 12, .inl (fun _ => 0))), (q69, .inl (cA 0, 12, .inl (fun _ => 0))), (q73, .inl (cA 0, 4, .inl (fun _ => 0))), (q77, .inl (cA 0, 24, .inl (fun _ => 0))), (q81, .inl (cA 0, 24, .inl (fun _ => 0)))] := by rw [eR83, eR79]; rfl
  clear eR79
  refine W.widen (k := 21) (n := 588) (Nat.le_of_ble_eq_true rfl) (Nat.le_of_ble_eq_true rfl) ?_
  refine va_putF (D := D) (ci := 8) (v := .ref q81) (ty := (.array .int)) (C := RX8) (T := TX8) (N := 40) hx hb hts inT_X8 tyX8 tyX8_ok nmX8 hown hK hP hD hS 0 rfl rfl 21 (by decide) (hts _ tw4_144) (fun _ h9 => h9) rfl hin rfl (by decide +kernel) rfl rfl (Nat.le_of_ble_eq_true rfl) dX8_init_163 (fun H84 locs hP2 hD2 hS2 => ?_)
  clear hP hD hS
  have hP := hP2
  have hD := hD2
  have hS := hS2
  clear hP2 hD2 hS2
  replace hP : va_P D vwCl ((h0, .inr (8, [.int 0, .ref q1, .ref q5, .ref q9, .ref q13, .ref q17, .ref q21, .ref q25, .ref q29, .ref q33, .ref q37, .ref q41, .ref q45, .ref q49, .ref q53, .ref q57, .ref q61, .ref q65, .ref q69, .ref q73, .ref q77, .ref q81, .null, .null, .int 0, .int 0, .null, .int 0, .null, .int 0, .int 0, .int 0, .int 0, .null, .null, .null, .int 0, .null, .null, .null])) :: R83) H84 := hP
  replace hD : va_D A ((h0, .inr (8, [.int 0, .ref q1, .ref q5, .ref q9, .ref q13, .ref q17, .ref q21, .ref q25, .ref q29, .ref q33, .ref q37, .ref q41, .ref q45, .ref q49, .ref q53, .ref q57, .ref q61, .ref q65, .ref q69, .ref q73, .ref q77, .ref q81, .null, .null, .int 0, .int 0, .null, .int 0, .null, .int 0, .int 0, .int 0, .int 0, .null, .null, .null, .int 0, .null, .null, .null])) :: R83) := hD
  refine lv_aload_n hx hb dX8_init_166 rfl (lv_at hl 0 rfl) ?_
  refine lv_iconst (v := (4 : Int32)) hx hb dX8_init_167 (by decide) ?_
  refine nb_newi (N' := 4) hx hb (hts _ tw1_40) hK hP hD hS hA (by decide) (by decide) (by decide) (Nat.le_of_ble_eq_true rfl) (Nat.le_of_ble_eq_true rfl) dX8_init_168 (fun q85 H86 hP2 hD2 hS2 => ?_)
  clear hP hD hS
  have hP := hP2
  have hD := hD2
  have hS := hS2
  clear hP2 hD2 hS2
  obtain ⟨R87, eR87⟩ : ∃ z : va_W, z = R83 ++ [(q85, .inl (cA 0, 4, .inl (fun _ => 0)))] := ⟨_, rfl⟩
  replace hP : va_P D vwCl ((h0, .inr (8, [.int 0, .ref q1, .ref q5, .ref q9, .ref q13, .ref q17, .ref q21, .ref q25, .ref q29, .ref q33, .ref q37, .ref q41, .ref q45, .ref q49, .ref q53, .ref q57, .ref q61, .ref q65, .ref q69, .ref q73, .ref q77, .ref q81, .null, .null, .int 0, .int 0, .null, .int 0, .null, .int 0, .int 0, .int 0, .int 0, .null, .null, .null, .int 0, .null, .null, .null])) :: R87) H86 := by rw [eR87]; exact hP
  replace hD : va_D A ((h0, .inr (8, [.int 0, .ref q1, .ref q5, .ref q9, .ref q13, .ref q17, .ref q21, .ref q25, .ref q29, .ref q33, .ref q37, .ref q41, .ref q45, .ref q49, .ref q53, .ref q57, .ref q61, .ref q65, .ref q69, .ref q73, .ref q77, .ref q81, .null, .null, .int 0, .int 0, .null, .int 0, .null, .int 0, .int 0, .int 0, .int 0, .null, .null, .null, .int 0, .null, .null, .null])) :: R87) := by rw [eR87]; exact hD
  replace eR87 : R87 = [(q1, .inl (cA 0, 400, .inl (fun _ => 0))), (q5, .inl (cA 0, 2, .inl (fun _ => 0))), (q9, .inl (cA 0, 16, .inl (fun _ => 0))), (q13, .inl (cA 0, 16, .inl (fun _ => 0))), (q17, .inl (cA 0, 16, .inl (fun _ => 0))), (q21, .inl (cA 0, 16, .inl (fun _ => 0))), (q25, .inl (cA 0, 2, .inl (fun _ => 0))), (q29, .inl (cA 0, 6, .inl (fun _ => 0))), (q33, .inl (cA 0, 6, .inl (fun _ => 0))), (q37, .inl (cA 0, 2, .inl (fun _ => 0))), (q41, .inl (cA 0, 2, .inl (fun _ => 0))), (q45, .inl (cA 0, 2, .inl (fun _ => 0))), (q49, .inl (cA 0, 6, .inl (fun _ => 0))), (q53, .inl (cA 0, 6, .inl (fun _ => 0))), (q57, .inl (cA 0, 2, .inl (fun _ => 0))), (q61, .inl (cA 0, 12, .inl (fun _ => 0))), (q65, .inl (cA 0, 12, .inl (fun _ => 0))), (q69, .inl (cA 0, 12, .inl (fun _ => 0))), (q73, .inl (cA 0, 4, .inl (fun _ => 0))), (q77, .inl (cA 0, 24, .inl (fun _ => 0))), (q81, .inl (cA 0, 24, .inl (fun _ => 0))), (q85, .inl (cA 0, 4, .inl (fun _ => 0)))] := by rw [eR87, eR83]; rfl
  clear eR83
  refine W.widen (k := 22) (n := 592) (Nat.le_of_ble_eq_true rfl) (Nat.le_of_ble_eq_true rfl) ?_
  refine va_putF (D := D) (ci := 8) (v := .ref q85) (ty := (.array .int)) (C := RX8) (T := TX8) (N := 40) hx hb hts inT_X8 tyX8 tyX8_ok nmX8 hown hK hP hD hS 0 rfl rfl 22 (by decide) (hts _ tw4_145) (fun _ h9 => h9) rfl hin rfl (by decide +kernel) rfl rfl (Nat.le_of_ble_eq_true rfl) dX8_init_170 (fun H88 locs hP2 hD2 hS2 => ?_)
  clear hP hD hS
  have hP := hP2
  have hD := hD2
  have hS := hS2
  clear hP2 hD2 hS2
  replace hP : va_P D vwCl ((h0, .inr (8, [.int 0, .ref q1, .ref q5, .ref q9, .ref q13, .ref q17, .ref q21, .ref q25, .ref q29, .ref q33, .ref q37, .ref q41, .ref q45, .ref q49, .ref q53, .ref q57, .ref q61, .ref q65, .ref q69, .ref q73, .ref q77, .ref q81, .ref q85, .null, .int 0, .int 0, .null, .int 0, .null, .int 0, .int 0, .int 0, .int 0, .null, .null, .null, .int 0, .null, .null, .null])) :: R87) H88 := hP
  replace hD : va_D A ((h0, .inr (8, [.int 0, .ref q1, .ref q5, .ref q9, .ref q13, .ref q17, .ref q21, .ref q25, .ref q29, .ref q33, .ref q37, .ref q41, .ref q45, .ref q49, .ref q53, .ref q57, .ref q61, .ref q65, .ref q69, .ref q73, .ref q77, .ref q81, .ref q85, .null, .int 0, .int 0, .null, .int 0, .null, .int 0, .int 0, .int 0, .int 0, .null, .null, .null, .int 0, .null, .null, .null])) :: R87) := hD
  refine lv_aload_n hx hb dX8_init_173 rfl (lv_at hl 0 rfl) ?_
  refine lv_bipush (v := (16 : Int32)) hx hb dX8_init_174 (by decide) ?_
  refine nb_newi (N' := 16) hx hb (hts _ tw1_40) hK hP hD hS hA (by decide) (by decide) (by decide) (Nat.le_of_ble_eq_true rfl) (Nat.le_of_ble_eq_true rfl) dX8_init_176 (fun q89 H90 hP2 hD2 hS2 => ?_)
  clear hP hD hS
  have hP := hP2
  have hD := hD2
  have hS := hS2
  clear hP2 hD2 hS2
  obtain ⟨R91, eR91⟩ : ∃ z : va_W, z = R87 ++ [(q89, .inl (cA 0, 16, .inl (fun _ => 0)))] := ⟨_, rfl⟩
  replace hP : va_P D vwCl ((h0, .inr (8, [.int 0, .ref q1, .ref q5, .ref q9, .ref q13, .ref q17, .ref q21, .ref q25, .ref q29, .ref q33, .ref q37, .ref q41, .ref q45, .ref q49, .ref q53, .ref q57, .ref q61, .ref q65, .ref q69, .ref q73, .ref q77, .ref q81, .ref q85, .null, .int 0, .int 0, .null, .int 0, .null, .int 0, .int 0, .int 0, .int 0, .null, .null, .null, .int 0, .null, .null, .null])) :: R91) H90 := by rw [eR91]; exact hP
  replace hD : va_D A ((h0, .inr (8, [.int 0, .ref q1, .ref q5, .ref q9, .ref q13, .ref q17, .ref q21, .ref q25, .ref q29, .ref q33, .ref q37, .ref q41, .ref q45, .ref q49, .ref q53, .ref q57, .ref q61, .ref q65, .ref q69, .ref q73, .ref q77, .ref q81, .ref q85, .null, .int 0, .int 0, .null, .int 0, .null, .int 0, .int 0, .int 0, .int 0, .null, .null, .null, .int 0, .null, .null, .null])) :: R91) := by rw [eR91]; exact hD
  replace eR91 : R91 = [(q1, .inl (cA 0, 400, .inl (fun _ => 0))), (q5, .inl (cA 0, 2, .inl (fun _ => 0))), (q9, .inl (cA 0, 16, .inl (fun _ => 0))), (q13, .inl (cA 0, 16, .inl (fun _ => 0))), (q17, .inl (cA 0, 16, .inl (fun _ => 0))), (q21, .inl (cA 0, 16, .inl (fun _ => 0))), (q25, .inl (cA 0, 2, .inl (fun _ => 0))), (q29, .inl (cA 0, 6, .inl (fun _ => 0))), (q33, .inl (cA 0, 6, .inl (fun _ => 0))), (q37, .inl (cA 0, 2, .inl (fun _ => 0))), (q41, .inl (cA 0, 2, .inl (fun _ => 0))), (q45, .inl (cA 0, 2, .inl (fun _ => 0))), (q49, .inl (cA 0, 6, .inl (fun _ => 0))), (q53, .inl (cA 0, 6, .inl (fun _ => 0))), (q57, .inl (cA 0, 2, .inl (fun _ => 0))), (q61, .inl (cA 0, 12, .inl (fun _ => 0))), (q65, .inl (cA 0, 12, .inl (fun _ => 0))), (q69, .inl (cA 0, 12, .inl (fun _ => 0))), (q73, .inl (cA 0, 4, .inl (fun _ => 0))), (q77, .inl (cA 0, 24, .inl (fun _ => 0))), (q81, .inl (cA 0, 24, .inl (fun _ => 0))), (q85, .inl (cA 0, 4, .inl (fun _ => 0))), (q89, .inl (cA 0, 16, .inl (fun _ => 0)))] := by rw [eR91, eR87]; rfl
  clear eR87
  refine W.widen (k := 23) (n := 608) (Nat.le_of_ble_eq_true rfl) (Nat.le_of_ble_eq_true rfl) ?_
  refine va_putF (D := D) (ci := 8) (v := .ref q89) (ty := (.array .int)) (C := RX8) (T := TX8) (N := 40) hx hb hts inT_X8 tyX8 tyX8_ok nmX8 hown hK hP hD hS 0 rfl rfl 23 (by decide) (hts _ tw4_146) (fun _ h9 => h9) rfl hin rfl (by decide +kernel) rfl rfl (Nat.le_of_ble_eq_true rfl) dX8_init_178 (fun H92 locs hP2 hD2 hS2 => ?_)
  clear hP hD hS
  have hP := hP2
  have hD := hD2
  have hS := hS2
  clear hP2 hD2 hS2
  replace hP : va_P D vwCl ((h0, .inr (8, [.int 0, .ref q1, .ref q5, .ref q9, .ref q13, .ref q17, .ref q21, .ref q25, .ref q29, .ref q33, .ref q37, .ref q41, .ref q45, .ref q49, .ref q53, .ref q57, .ref q61, .ref q65, .ref q69, .ref q73, .ref q77, .ref q81, .ref q85, .ref q89, .int 0, .int 0, .null, .int 0, .null, .int 0, .int 0, .int 0, .int 0, .null, .null, .null, .int 0, .null, .null, .null])) :: R91) H92 := hP
  replace hD : va_D A ((h0, .inr (8, [.int 0, .ref q1, .ref q5, .ref q9, .ref q13, .ref q17, .ref q21, .ref q25, .ref q29, .ref q33, .ref q37, .ref q41, .ref q45, .ref q49, .ref q53, .ref q57, .ref q61, .ref q65, .ref q69, .ref q73, .ref q77, .ref q81, .ref q85, .ref q89, .int 0, .int 0, .null, .int 0, .null, .int 0, .int 0, .int 0, .int 0, .null, .null, .null, .int 0, .null, .null, .null])) :: R91) := hD
  refine lv_aload_n hx hb dX8_init_181 rfl (lv_at hl 0 rfl) ?_
  refine lv_bipush (v := (8 : Int32)) hx hb dX8_init_182 (by decide) ?_
  refine nb_newi (N' := 8) hx hb (hts _ tw1_40) hK hP hD hS hA (by decide) (by decide) (by decide) (Nat.le_of_ble_eq_true rfl) (Nat.le_of_ble_eq_true rfl) dX8_init_184 (fun q93 H94 hP2 hD2 hS2 => ?_)
  clear hP hD hS
  have hP := hP2
  have hD := hD2
  have hS := hS2
  clear hP2 hD2 hS2
  obtain ⟨R95, eR95⟩ : ∃ z : va_W, z = R91 ++ [(q93, .inl (cA 0, 8, .inl (fun _ => 0)))] := ⟨_, rfl⟩
  replace hP : va_P D vwCl ((h0, .inr (8, [.int 0, .ref q1, .ref q5, .ref q9, .ref q13, .ref q17, .ref q21, .ref q25, .ref q29, .ref q33, .ref q37, .ref q41, .ref q45, .ref q49, .ref q53, .ref q57, .ref q61, .ref q65, .ref q69, .ref q73, .ref q77, .ref q81, .ref q85, .ref q89, .int 0, .int 0, .null, .int 0, .null, .int 0, .int 0, .int 0, .int 0, .null, .null, .null, .int 0, .null, .null, .null])) :: R95) H94 := by rw [eR95]; exact hP
  replace hD : va_D A ((h0, .inr (8, [.int 0, .ref q1, .ref q5, .ref q9, .ref q13, .ref q17, .ref q21, .ref q25, .ref q29, .ref q33, .ref q37, .ref q41, .ref q45, .ref q49, .ref q53, .ref q57, .ref q61, .ref q65, .ref q69, .ref q73, .ref q77, .ref q81, .ref q85, .ref q89, .int 0, .int 0, .null, .int 0, .null, .int 0, .int 0, .int 0, .int 0, .null, .null, .null, .int 0, .null, .null, .null])) :: R95) := by rw [eR95]; exact hD
  replace eR95 : R95 = [(q1, .inl (cA 0, 400, .inl (fun _ => 0))), (q5, .inl (cA 0, 2, .inl (fun _ => 0))), (q9, .inl (cA 0, 16, .inl (fun _ => 0))), (q13, .inl (cA 0, 16, .inl (fun _ => 0))), (q17, .inl (cA 0, 16, .inl (fun _ => 0))), (q21, .inl (cA 0, 16, .inl (fun _ => 0))), (q25, .inl (cA 0, 2, .inl (fun _ => 0))), (q29, .inl (cA 0, 6, .inl (fun _ => 0))), (q33, .inl (cA 0, 6, .inl (fun _ => 0))), (q37, .inl (cA 0, 2, .inl (fun _ => 0))), (q41, .inl (cA 0, 2, .inl (fun _ => 0))), (q45, .inl (cA 0, 2, .inl (fun _ => 0))), (q49, .inl (cA 0, 6, .inl (fun _ => 0))), (q53, .inl (cA 0, 6, .inl (fun _ => 0))), (q57, .inl (cA 0, 2, .inl (fun _ => 0))), (q61, .inl (cA 0, 12, .inl (fun _ => 0))), (q65, .inl (cA 0, 12, .inl (fun _ => 0))), (q69, .inl (cA 0, 12, .inl (fun _ => 0))), (q73, .inl (cA 0, 4, .inl (fun _ => 0))), (q77, .inl (cA 0, 24, .inl (fun _ => 0))), (q81, .inl (cA 0, 24, .inl (fun _ => 0))), (q85, .inl (cA 0, 4, .inl (fun _ => 0))), (q89, .inl (cA 0, 16, .inl (fun _ => 0))), (q93, .inl (cA 0, 8, .inl (fun _ => 0)))] := by rw [eR95, eR91]; rfl
  clear eR91
  refine W.widen (k := 24) (n := 616) (Nat.le_of_ble_eq_true rfl) (Nat.le_of_ble_eq_true rfl) ?_
  refine va_putF (D := D) (ci := 8) (v := .ref q93) (ty := (.array .int)) (C := RX8) (T := TX8) (N := 40) hx hb hts inT_X8 tyX8 tyX8_ok nmX8 hown hK hP hD hS 0 rfl rfl 26 (by decide) (hts _ tw4_149) (fun _ h9 => h9) rfl hin rfl (by decide +kernel) rfl rfl (Nat.le_of_ble_eq_true rfl) dX8_init_186 (fun H96 locs hP2 hD2 hS2 => ?_)
  clear hP hD hS
  have hP := hP2
  have hD := hD2
  have hS := hS2
  clear hP2 hD2 hS2
  replace hP : va_P D vwCl ((h0, .inr (8, [.int 0, .ref q1, .ref q5, .ref q9, .ref q13, .ref q17, .ref q21, .ref q25, .ref q29, .ref q33, .ref q37, .ref q41, .ref q45, .ref q49, .ref q53, .ref q57, .ref q61, .ref q65, .ref q69, .ref q73, .ref q77, .ref q81, .ref q85, .ref q89, .int 0, .int 0, .ref q93, .int 0, .null, .int 0, .int 0, .int 0, .int 0, .null, .null, .null, .int 0, .null, .null, .null])) :: R95) H96 := hP
  replace hD : va_D A ((h0, .inr (8, [.int 0, .ref q1, .ref q5, .ref q9, .ref q13, .ref q17, .ref q21, .ref q25, .ref q29, .ref q33, .ref q37, .ref q41, .ref q45, .ref q49, .ref q53, .ref q57, .ref q61, .ref q65, .ref q69, .ref q73, .ref q77, .ref q81, .ref q85, .ref q89, .int 0, .int 0, .ref q93, .int 0, .null, .int 0, .int 0, .int 0, .int 0, .null, .null, .null, .int 0, .null, .null, .null])) :: R95) := hD
  refine lv_aload_n hx hb dX8_init_189 rfl (lv_at hl 0 rfl) ?_
  refine lv_iconst (v := (4 : Int32)) hx hb dX8_init_190 (by decide) ?_
  refine nb_newi (N' := 4) hx hb (hts _ tw1_40) hK hP hD hS hA (by decide) (by decide) (by decide) (Nat.le_of_ble_eq_true rfl) (Nat.le_of_ble_eq_true rfl) dX8_init_191 (fun q97 H98 hP2 hD2 hS2 => ?_)
  clear hP hD hS
  have hP := hP2
  have hD := hD2
  have hS := hS2
  clear hP2 hD2 hS2
  obtain ⟨R99, eR99⟩ : ∃ z : va_W, z = R95 ++ [(q97, .inl (cA 0, 4, .inl (fun _ => 0)))] := ⟨_, rfl⟩
  replace hP : va_P D vwCl ((h0, .inr (8, [.int 0, .ref q1, .ref q5, .ref q9, .ref q13, .ref q17, .ref q21, .ref q25, .ref q29, .ref q33, .ref q37, .ref q41, .ref q45, .ref q49, .ref q53, .ref q57, .ref q61, .ref q65, .ref q69, .ref q73, .ref q77, .ref q81, .ref q85, .ref q89, .int 0, .int 0, .ref q93, .int 0, .null, .int 0, .int 0, .int 0, .int 0, .null, .null, .null, .int 0, .null, .null, .null])) :: R99) H98 := by rw [eR99]; exact hP
  replace hD : va_D A ((h0, .inr (8, [.int 0, .ref q1, .ref q5, .ref q9, .ref q13, .ref q17, .ref q21, .ref q25, .ref q29, .ref q33, .ref q37, .ref q41, .ref q45, .ref q49, .ref q53, .ref q57, .ref q61, .ref q65, .ref q69, .ref q73, .ref q77, .ref q81, .ref q85, .ref q89, .int 0, .int 0, .ref q93, .int 0, .null, .int 0, .int 0, .int 0, .int 0, .null, .null, .null, .int 0, .null, .null, .null])) :: R99) := by rw [eR99]; exact hD
  replace eR99 : R99 = [(q1, .inl (cA 0, 400, .inl (fun _ => 0))), (q5, .inl (cA 0, 2, .inl (fun _ => 0))), (q9, .inl (cA 0, 16, .inl (fun _ => 0))), (q13, .inl (cA 0, 16, .inl (fun _ => 0))), (q17, .inl (cA 0, 16, .inl (fun _ => 0))), (q21, .inl (cA 0, 16, .inl (fun _ => 0))), (q25, .inl (cA 0, 2, .inl (fun _ => 0))), (q29, .inl (cA 0, 6, .inl (fun _ => 0))), (q33, .inl (cA 0, 6, .inl (fun _ => 0))), (q37, .inl (cA 0, 2, .inl (fun _ => 0))), (q41, .inl (cA 0, 2, .inl (fun _ => 0))), (q45, .inl (cA 0, 2, .inl (fun _ => 0))), (q49, .inl (cA 0, 6, .inl (fun _ => 0))), (q53, .inl (cA 0, 6, .inl (fun _ => 0))), (q57, .inl (cA 0, 2, .inl (fun _ => 0))), (q61, .inl (cA 0, 12, .inl (fun _ => 0))), (q65, .inl (cA 0, 12, .inl (fun _ => 0))), (q69, .inl (cA 0, 12, .inl (fun _ => 0))), (q73, .inl (cA 0, 4, .inl (fun _ => 0))), (q77, .inl (cA 0, 24, .inl (fun _ => 0))), (q81, .inl (cA 0, 24, .inl (fun _ => 0))), (q85, .inl (cA 0, 4, .inl (fun _ => 0))), (q89, .inl (cA 0, 16, .inl (fun _ => 0))), (q93, .inl (cA 0, 8, .inl (fun _ => 0))), (q97, .inl (cA 0, 4, .inl (fun _ => 0)))] := by rw [eR99, eR95]; rfl
  clear eR95
  refine W.widen (k := 25) (n := 620) (Nat.le_of_ble_eq_true rfl) (Nat.le_of_ble_eq_true rfl) ?_
  refine va_putF (D := D) (ci := 8) (v := .ref q97) (ty := (.array .int)) (C := RX8) (T := TX8) (N := 40) hx hb hts inT_X8 tyX8 tyX8_ok nmX8 hown hK hP hD hS 0 rfl rfl 28 (by decide) (hts _ tw4_151) (fun _ h9 => h9) rfl hin rfl (by decide +kernel) rfl rfl (Nat.le_of_ble_eq_true rfl) dX8_init_193 (fun H100 locs hP2 hD2 hS2 => ?_)
  clear hP hD hS
  have hP := hP2
  have hD := hD2
  have hS := hS2
  clear hP2 hD2 hS2
  replace hP : va_P D vwCl ((h0, .inr (8, [.int 0, .ref q1, .ref q5, .ref q9, .ref q13, .ref q17, .ref q21, .ref q25, .ref q29, .ref q33, .ref q37, .ref q41, .ref q45, .ref q49, .ref q53, .ref q57, .ref q61, .ref q65, .ref q69, .ref q73, .ref q77, .ref q81, .ref q85, .ref q89, .int 0, .int 0, .ref q93, .int 0, .ref q97, .int 0, .int 0, .int 0, .int 0, .null, .null, .null, .int 0, .null, .null, .null])) :: R99) H100 := hP
  replace hD : va_D A ((h0, .inr (8, [.int 0, .ref q1, .ref q5, .ref q9, .ref q13, .ref q17, .ref q21, .ref q25, .ref q29, .ref q33, .ref q37, .ref q41, .ref q45, .ref q49, .ref q53, .ref q57, .ref q61, .ref q65, .ref q69, .ref q73, .ref q77, .ref q81, .ref q85, .ref q89, .int 0, .int 0, .ref q93, .int 0, .ref q97, .int 0, .int 0, .int 0, .int 0, .null, .null, .null, .int 0, .null, .null, .null])) :: R99) := hD
  refine lv_aload_n hx hb dX8_init_196 rfl (lv_at hl 0 rfl) ?_
  refine lv_iconst (v := (3 : Int32)) hx hb dX8_init_197 (by decide) ?_
  refine nb_newi (N' := 3) hx hb (hts _ tw1_40) hK hP hD hS hA (by decide) (by decide) (by decide) (Nat.le_of_ble_eq_true rfl) (Nat.le_of_ble_eq_true rfl) dX8_init_198 (fun q101 H102 hP2 hD2 hS2 => ?_)
  clear hP hD hS
  have hP := hP2
  have hD := hD2
  have hS := hS2
  clear hP2 hD2 hS2
  obtain ⟨R103, eR103⟩ : ∃ z : va_W, z = R99 ++ [(q101, .inl (cA 0, 3, .inl (fun _ => 0)))] := ⟨_, rfl⟩
  replace hP : va_P D vwCl ((h0, .inr (8, [.int 0, .ref q1, .ref q5, .ref q9, .ref q13, .ref q17, .ref q21, .ref q25, .ref q29, .ref q33, .ref q37, .ref q41, .ref q45, .ref q49, .ref q53, .ref q57, .ref q61, .ref q65, .ref q69, .ref q73, .ref q77, .ref q81, .ref q85, .ref q89, .int 0, .int 0, .ref q93, .int 0, .ref q97, .int 0, .int 0, .int 0, .int 0, .null, .null, .null, .int 0, .null, .null, .null])) :: R103) H102 := by rw [eR103]; exact hP
  replace hD : va_D A ((h0, .inr (8, [.int 0, .ref q1, .ref q5, .ref q9, .ref q13, .ref q17, .ref q21, .ref q25, .ref q29, .ref q33, .ref q37, .ref q41, .ref q45, .ref q49, .ref q53, .ref q57, .ref q61, .ref q65, .ref q69, .ref q73, .ref q77, .ref q81, .ref q85, .ref q89, .int 0, .int 0, .ref q93, .int 0, .ref q97, .int 0, .int 0, .int 0, .int 0, .null, .null, .null, .int 0, .null, .null, .null])) :: R103) := by rw [eR103]; exact hD
  replace eR103 : R103 = [(q1, .inl (cA 0, 400, .inl (fun _ => 0))), (q5, .inl (cA 0, 2, .inl (fun _ => 0))), (q9, .inl (cA 0, 16, .inl (fun _ => 0))), (q13, .inl (cA 0, 16, .inl (fun _ => 0))), (q17, .inl (cA 0, 16, .inl (fun _ => 0))), (q21, .inl (cA 0, 16, .inl (fun _ => 0))), (q25, .inl (cA 0, 2, .inl (fun _ => 0))), (q29, .inl (cA 0, 6, .inl (fun _ => 0))), (q33, .inl (cA 0, 6, .inl (fun _ => 0))), (q37, .inl (cA 0, 2, .inl (fun _ => 0))), (q41, .inl (cA 0, 2, .inl (fun _ => 0))), (q45, .inl (cA 0, 2, .inl (fun _ => 0))), (q49, .inl (cA 0, 6, .inl (fun _ => 0))), (q53, .inl (cA 0, 6, .inl (fun _ => 0))), (q57, .inl (cA 0, 2, .inl (fun _ => 0))), (q61, .inl (cA 0, 12, .inl (fun _ => 0))), (q65, .inl (cA 0, 12, .inl (fun _ => 0))), (q69, .inl (cA 0, 12, .inl (fun _ => 0))), (q73, .inl (cA 0, 4, .inl (fun _ => 0))), (q77, .inl (cA 0, 24, .inl (fun _ => 0))), (q81, .inl (cA 0, 24, .inl (fun _ => 0))), (q85, .inl (cA 0, 4, .inl (fun _ => 0))), (q89, .inl (cA 0, 16, .inl (fun _ => 0))), (q93, .inl (cA 0, 8, .inl (fun _ => 0))), (q97, .inl (cA 0, 4, .inl (fun _ => 0))), (q101, .inl (cA 0, 3, .inl (fun _ => 0)))] := by rw [eR103, eR99]; rfl
  clear eR99
  refine W.widen (k := 26) (n := 623) (Nat.le_of_ble_eq_true rfl) (Nat.le_of_ble_eq_true rfl) ?_
  refine va_putF (D := D) (ci := 8) (v := .ref q101) (ty := (.array .int)) (C := RX8) (T := TX8) (N := 40) hx hb hts inT_X8 tyX8 tyX8_ok nmX8 hown hK hP hD hS 0 rfl rfl 33 (by decide) (hts _ tw4_156) (fun _ h9 => h9) rfl hin rfl (by decide +kernel) rfl rfl (Nat.le_of_ble_eq_true rfl) dX8_init_200 (fun H104 locs hP2 hD2 hS2 => ?_)
  clear hP hD hS
  have hP := hP2
  have hD := hD2
  have hS := hS2
  clear hP2 hD2 hS2
  replace hP : va_P D vwCl ((h0, .inr (8, [.int 0, .ref q1, .ref q5, .ref q9, .ref q13, .ref q17, .ref q21, .ref q25, .ref q29, .ref q33, .ref q37, .ref q41, .ref q45, .ref q49, .ref q53, .ref q57, .ref q61, .ref q65, .ref q69, .ref q73, .ref q77, .ref q81, .ref q85, .ref q89, .int 0, .int 0, .ref q93, .int 0, .ref q97, .int 0, .int 0, .int 0, .int 0, .ref q101, .null, .null, .int 0, .null, .null, .null])) :: R103) H104 := hP
  replace hD : va_D A ((h0, .inr (8, [.int 0, .ref q1, .ref q5, .ref q9, .ref q13, .ref q17, .ref q21, .ref q25, .ref q29, .ref q33, .ref q37, .ref q41, .ref q45, .ref q49, .ref q53, .ref q57, .ref q61, .ref q65, .ref q69, .ref q73, .ref q77, .ref q81, .ref q85, .ref q89, .int 0, .int 0, .ref q93, .int 0, .ref q97, .int 0, .int 0, .int 0, .int 0, .ref q101, .null, .null, .int 0, .null, .null, .null])) :: R103) := hD
  refine lv_aload_n hx hb dX8_init_203 rfl (lv_at hl 0 rfl) ?_
  refine lv_iconst (v := (4 : Int32)) hx hb dX8_init_204 (by decide) ?_
  refine nb_newi (N' := 4) hx hb (hts _ tw1_40) hK hP hD hS hA (by decide) (by decide) (by decide) (Nat.le_of_ble_eq_true rfl) (Nat.le_of_ble_eq_true rfl) dX8_init_205 (fun q105 H106 hP2 hD2 hS2 => ?_)
  clear hP hD hS
  have hP := hP2
  have hD := hD2
  have hS := hS2
  clear hP2 hD2 hS2
  obtain ⟨R107, eR107⟩ : ∃ z : va_W, z = R103 ++ [(q105, .inl (cA 0, 4, .inl (fun _ => 0)))] := ⟨_, rfl⟩
  replace hP : va_P D vwCl ((h0, .inr (8, [.int 0, .ref q1, .ref q5, .ref q9, .ref q13, .ref q17, .ref q21, .ref q25, .ref q29, .ref q33, .ref q37, .ref q41, .ref q45, .ref q49, .ref q53, .ref q57, .ref q61, .ref q65, .ref q69, .ref q73, .ref q77, .ref q81, .ref q85, .ref q89, .int 0, .int 0, .ref q93, .int 0, .ref q97, .int 0, .int 0, .int 0, .int 0, .ref q101, .null, .null, .int 0, .null, .null, .null])) :: R107) H106 := by rw [eR107]; exact hP
  replace hD : va_D A ((h0, .inr (8, [.int 0, .ref q1, .ref q5, .ref q9, .ref q13, .ref q17, .ref q21, .ref q25, .ref q29, .ref q33, .ref q37, .ref q41, .ref q45, .ref q49, .ref q53, .ref q57, .ref q61, .ref q65, .ref q69, .ref q73, .ref q77, .ref q81, .ref q85, .ref q89, .int 0, .int 0, .ref q93, .int 0, .ref q97, .int 0, .int 0, .int 0, .int 0, .ref q101, .null, .null, .int 0, .null, .null, .null])) :: R107) := by rw [eR107]; exact hD
  replace eR107 : R107 = [(q1, .inl (cA 0, 400, .inl (fun _ => 0))), (q5, .inl (cA 0, 2, .inl (fun _ => 0))), (q9, .inl (cA 0, 16, .inl (fun _ => 0))), (q13, .inl (cA 0, 16, .inl (fun _ => 0))), (q17, .inl (cA 0, 16, .inl (fun _ => 0))), (q21, .inl (cA 0, 16, .inl (fun _ => 0))), (q25, .inl (cA 0, 2, .inl (fun _ => 0))), (q29, .inl (cA 0, 6, .inl (fun _ => 0))), (q33, .inl (cA 0, 6, .inl (fun _ => 0))), (q37, .inl (cA 0, 2, .inl (fun _ => 0))), (q41, .inl (cA 0, 2, .inl (fun _ => 0))), (q45, .inl (cA 0, 2, .inl (fun _ => 0))), (q49, .inl (cA 0, 6, .inl (fun _ => 0))), (q53, .inl (cA 0, 6, .inl (fun _ => 0))), (q57, .inl (cA 0, 2, .inl (fun _ => 0))), (q61, .inl (cA 0, 12, .inl (fun _ => 0))), (q65, .inl (cA 0, 12, .inl (fun _ => 0))), (q69, .inl (cA 0, 12, .inl (fun _ => 0))), (q73, .inl (cA 0, 4, .inl (fun _ => 0))), (q77, .inl (cA 0, 24, .inl (fun _ => 0))), (q81, .inl (cA 0, 24, .inl (fun _ => 0))), (q85, .inl (cA 0, 4, .inl (fun _ => 0))), (q89, .inl (cA 0, 16, .inl (fun _ => 0))), (q93, .inl (cA 0, 8, .inl (fun _ => 0))), (q97, .inl (cA 0, 4, .inl (fun _ => 0))), (q101, .inl (cA 0, 3, .inl (fun _ => 0))), (q105, .inl (cA 0, 4, .inl (fun _ => 0)))] := by rw [eR107, eR103]; rfl
  clear eR103
  refine W.widen (k := 27) (n := 627) (Nat.le_of_ble_eq_true rfl) (Nat.le_of_ble_eq_true rfl) ?_
  refine va_putF (D := D) (ci := 8) (v := .ref q105) (ty := (.array .int)) (C := RX8) (T := TX8) (N := 40) hx hb hts inT_X8 tyX8 tyX8_ok nmX8 hown hK hP hD hS 0 rfl rfl 34 (by decide) (hts _ tw4_157) (fun _ h9 => h9) rfl hin rfl (by decide +kernel) rfl rfl (Nat.le_of_ble_eq_true rfl) dX8_init_207 (fun H108 locs hP2 hD2 hS2 => ?_)
  clear hP hD hS
  have hP := hP2
  have hD := hD2
  have hS := hS2
  clear hP2 hD2 hS2
  replace hP : va_P D vwCl ((h0, .inr (8, [.int 0, .ref q1, .ref q5, .ref q9, .ref q13, .ref q17, .ref q21, .ref q25, .ref q29, .ref q33, .ref q37, .ref q41, .ref q45, .ref q49, .ref q53, .ref q57, .ref q61, .ref q65, .ref q69, .ref q73, .ref q77, .ref q81, .ref q85, .ref q89, .int 0, .int 0, .ref q93, .int 0, .ref q97, .int 0, .int 0, .int 0, .int 0, .ref q101, .ref q105, .null, .int 0, .null, .null, .null])) :: R107) H108 := hP
  replace hD : va_D A ((h0, .inr (8, [.int 0, .ref q1, .ref q5, .ref q9, .ref q13, .ref q17, .ref q21, .ref q25, .ref q29, .ref q33, .ref q37, .ref q41, .ref q45, .ref q49, .ref q53, .ref q57, .ref q61, .ref q65, .ref q69, .ref q73, .ref q77, .ref q81, .ref q85, .ref q89, .int 0, .int 0, .ref q93, .int 0, .ref q97, .int 0, .int 0, .int 0, .int 0, .ref q101, .ref q105, .null, .int 0, .null, .null, .null])) :: R107) := hD
  refine lv_aload_n hx hb dX8_init_210 rfl (lv_at hl 0 rfl) ?_
  refine lv_bipush (v := (8 : Int32)) hx hb dX8_init_211 (by decide) ?_
  refine nb_newi (N' := 8) hx hb (hts _ tw1_40) hK hP hD hS hA (by decide) (by decide) (by decide) (Nat.le_of_ble_eq_true rfl) (Nat.le_of_ble_eq_true rfl) dX8_init_213 (fun q109 H110 hP2 hD2 hS2 => ?_)
  clear hP hD hS
  have hP := hP2
  have hD := hD2
  have hS := hS2
  clear hP2 hD2 hS2
  obtain ⟨R111, eR111⟩ : ∃ z : va_W, z = R107 ++ [(q109, .inl (cA 0, 8, .inl (fun _ => 0)))] := ⟨_, rfl⟩
  replace hP : va_P D vwCl ((h0, .inr (8, [.int 0, .ref q1, .ref q5, .ref q9, .ref q13, .ref q17, .ref q21, .ref q25, .ref q29, .ref q33, .ref q37, .ref q41, .ref q45, .ref q49, .ref q53, .ref q57, .ref q61, .ref q65, .ref q69, .ref q73, .ref q77, .ref q81, .ref q85, .ref q89, .int 0, .int 0, .ref q93, .int 0, .ref q97, .int 0, .int 0, .int 0, .int 0, .ref q101, .ref q105, .null, .int 0, .null, .null, .null])) :: R111) H110 := by rw [eR111]; exact hP
  replace hD : va_D A ((h0, .inr (8, [.int 0, .ref q1, .ref q5, .ref q9, .ref q13, .ref q17, .ref q21, .ref q25, .ref q29, .ref q33, .ref q37, .ref q41, .ref q45, .ref q49, .ref q53, .ref q57, .ref q61, .ref q65, .ref q69, .ref q73, .ref q77, .ref q81, .ref q85, .ref q89, .int 0, .int 0, .ref q93, .int 0, .ref q97, .int 0, .int 0, .int 0, .int 0, .ref q101, .ref q105, .null, .int 0, .null, .null, .null])) :: R111) := by rw [eR111]; exact hD
  replace eR111 : R111 = [(q1, .inl (cA 0, 400, .inl (fun _ => 0))), (q5, .inl (cA 0, 2, .inl (fun _ => 0))), (q9, .inl (cA 0, 16, .inl (fun _ => 0))), (q13, .inl (cA 0, 16, .inl (fun _ => 0))), (q17, .inl (cA 0, 16, .inl (fun _ => 0))), (q21, .inl (cA 0, 16, .inl (fun _ => 0))), (q25, .inl (cA 0, 2, .inl (fun _ => 0))), (q29, .inl (cA 0, 6, .inl (fun _ => 0))), (q33, .inl (cA 0, 6, .inl (fun _ => 0))), (q37, .inl (cA 0, 2, .inl (fun _ => 0))), (q41, .inl (cA 0, 2, .inl (fun _ => 0))), (q45, .inl (cA 0, 2, .inl (fun _ => 0))), (q49, .inl (cA 0, 6, .inl (fun _ => 0))), (q53, .inl (cA 0, 6, .inl (fun _ => 0))), (q57, .inl (cA 0, 2, .inl (fun _ => 0))), (q61, .inl (cA 0, 12, .inl (fun _ => 0))), (q65, .inl (cA 0, 12, .inl (fun _ => 0))), (q69, .inl (cA 0, 12, .inl (fun _ => 0))), (q73, .inl (cA 0, 4, .inl (fun _ => 0))), (q77, .inl (cA 0, 24, .inl (fun _ => 0))), (q81, .inl (cA 0, 24, .inl (fun _ => 0))), (q85, .inl (cA 0, 4, .inl (fun _ => 0))), (q89, .inl (cA 0, 16, .inl (fun _ => 0))), (q93, .inl (cA 0, 8, .inl (fun _ => 0))), (q97, .inl (cA 0, 4, .inl (fun _ => 0))), (q101, .inl (cA 0, 3, .inl (fun _ => 0))), (q105, .inl (cA 0, 4, .inl (fun _ => 0))), (q109, .inl (cA 0, 8, .inl (fun _ => 0)))] := by rw [eR111, eR107]; rfl
  clear eR107
  refine W.widen (k := 28) (n := 635) (Nat.le_of_ble_eq_true rfl) (Nat.le_of_ble_eq_true rfl) ?_
  refine va_putF (D := D) (ci := 8) (v := .ref q109) (ty := (.array .int)) (C := RX8) (T := TX8) (N := 40) hx hb hts inT_X8 tyX8 tyX8_ok nmX8 hown hK hP hD hS 0 rfl rfl 35 (by decide) (hts _ tw4_158) (fun _ h9 => h9) rfl hin rfl (by decide +kernel) rfl rfl (Nat.le_of_ble_eq_true rfl) dX8_init_215 (fun H112 locs hP2 hD2 hS2 => ?_)
  clear hP hD hS
  have hP := hP2
  have hD := hD2
  have hS := hS2
  clear hP2 hD2 hS2
  replace hP : va_P D vwCl ((h0, .inr (8, [.int 0, .ref q1, .ref q5, .ref q9, .ref q13, .ref q17, .ref q21, .ref q25, .ref q29, .ref q33, .ref q37, .ref q41, .ref q45, .ref q49, .ref q53, .ref q57, .ref q61, .ref q65, .ref q69, .ref q73, .ref q77, .ref q81, .ref q85, .ref q89, .int 0, .int 0, .ref q93, .int 0, .ref q97, .int 0, .int 0, .int 0, .int 0, .ref q101, .ref q105, .ref q109, .int 0, .null, .null, .null])) :: R111) H112 := hP
  replace hD : va_D A ((h0, .inr (8, [.int 0, .ref q1, .ref q5, .ref q9, .ref q13, .ref q17, .ref q21, .ref q25, .ref q29, .ref q33, .ref q37, .ref q41, .ref q45, .ref q49, .ref q53, .ref q57, .ref q61, .ref q65, .ref q69, .ref q73, .ref q77, .ref q81, .ref q85, .ref q89, .int 0, .int 0, .ref q93, .int 0, .ref q97, .int 0, .int 0, .int 0, .int 0, .ref q101, .ref q105, .ref q109, .int 0, .null, .null, .null])) :: R111) := hD
  refine lv_aload_n hx hb dX8_init_218 rfl (lv_at hl 0 rfl) ?_
  refine lv_iconst (v := (4 : Int32)) hx hb dX8_init_219 (by decide) ?_
  refine nb_newi (N' := 4) hx hb (hts _ tw1_40) hK hP hD hS hA (by decide) (by decide) (by decide) (Nat.le_of_ble_eq_true rfl) (Nat.le_of_ble_eq_true rfl) dX8_init_220 (fun q113 H114 hP2 hD2 hS2 => ?_)
  clear hP hD hS
  have hP := hP2
  have hD := hD2
  have hS := hS2
  clear hP2 hD2 hS2
  obtain ⟨R115, eR115⟩ : ∃ z : va_W, z = R111 ++ [(q113, .inl (cA 0, 4, .inl (fun _ => 0)))] := ⟨_, rfl⟩
  replace hP : va_P D vwCl ((h0, .inr (8, [.int 0, .ref q1, .ref q5, .ref q9, .ref q13, .ref q17, .ref q21, .ref q25, .ref q29, .ref q33, .ref q37, .ref q41, .ref q45, .ref q49, .ref q53, .ref q57, .ref q61, .ref q65, .ref q69, .ref q73, .ref q77, .ref q81, .ref q85, .ref q89, .int 0, .int 0, .ref q93, .int 0, .ref q97, .int 0, .int 0, .int 0, .int 0, .ref q101, .ref q105, .ref q109, .int 0, .null, .null, .null])) :: R115) H114 := by rw [eR115]; exact hP
  replace hD : va_D A ((h0, .inr (8, [.int 0, .ref q1, .ref q5, .ref q9, .ref q13, .ref q17, .ref q21, .ref q25, .ref q29, .ref q33, .ref q37, .ref q41, .ref q45, .ref q49, .ref q53, .ref q57, .ref q61, .ref q65, .ref q69, .ref q73, .ref q77, .ref q81, .ref q85, .ref q89, .int 0, .int 0, .ref q93, .int 0, .ref q97, .int 0, .int 0, .int 0, .int 0, .ref q101, .ref q105, .ref q109, .int 0, .null, .null, .null])) :: R115) := by rw [eR115]; exact hD
  replace eR115 : R115 = [(q1, .inl (cA 0, 400, .inl (fun _ => 0))), (q5, .inl (cA 0, 2, .inl (fun _ => 0))), (q9, .inl (cA 0, 16, .inl (fun _ => 0))), (q13, .inl (cA 0, 16, .inl (fun _ => 0))), (q17, .inl (cA 0, 16, .inl (fun _ => 0))), (q21, .inl (cA 0, 16, .inl (fun _ => 0))), (q25, .inl (cA 0, 2, .inl (fun _ => 0))), (q29, .inl (cA 0, 6, .inl (fun _ => 0))), (q33, .inl (cA 0, 6, .inl (fun _ => 0))), (q37, .inl (cA 0, 2, .inl (fun _ => 0))), (q41, .inl (cA 0, 2, .inl (fun _ => 0))), (q45, .inl (cA 0, 2, .inl (fun _ => 0))), (q49, .inl (cA 0, 6, .inl (fun _ => 0))), (q53, .inl (cA 0, 6, .inl (fun _ => 0))), (q57, .inl (cA 0, 2, .inl (fun _ => 0))), (q61, .inl (cA 0, 12, .inl (fun _ => 0))), (q65, .inl (cA 0, 12, .inl (fun _ => 0))), (q69, .inl (cA 0, 12, .inl (fun _ => 0))), (q73, .inl (cA 0, 4, .inl (fun _ => 0))), (q77, .inl (cA 0, 24, .inl (fun _ => 0))), (q81, .inl (cA 0, 24, .inl (fun _ => 0))), (q85, .inl (cA 0, 4, .inl (fun _ => 0))), (q89, .inl (cA 0, 16, .inl (fun _ => 0))), (q93, .inl (cA 0, 8, .inl (fun _ => 0))), (q97, .inl (cA 0, 4, .inl (fun _ => 0))), (q101, .inl (cA 0, 3, .inl (fun _ => 0))), (q105, .inl (cA 0, 4, .inl (fun _ => 0))), (q109, .inl (cA 0, 8, .inl (fun _ => 0))), (q113, .inl (cA 0, 4, .inl (fun _ => 0)))] := by rw [eR115, eR111]; rfl
  clear eR111
  refine W.widen (k := 29) (n := 639) (Nat.le_of_ble_eq_true rfl) (Nat.le_of_ble_eq_true rfl) ?_
  refine va_putF (D := D) (ci := 8) (v := .ref q113) (ty := (.array .int)) (C := RX8) (T := TX8) (N := 40) hx hb hts inT_X8 tyX8 tyX8_ok nmX8 hown hK hP hD hS 0 rfl rfl 37 (by decide) (hts _ tw4_160) (fun _ h9 => h9) rfl hin rfl (by decide +kernel) rfl rfl (Nat.le_of_ble_eq_true rfl) dX8_init_222 (fun H116 locs hP2 hD2 hS2 => ?_)
  clear hP hD hS
  have hP := hP2
  have hD := hD2
  have hS := hS2
  clear hP2 hD2 hS2
  replace hP : va_P D vwCl ((h0, .inr (8, [.int 0, .ref q1, .ref q5, .ref q9, .ref q13, .ref q17, .ref q21, .ref q25, .ref q29, .ref q33, .ref q37, .ref q41, .ref q45, .ref q49, .ref q53, .ref q57, .ref q61, .ref q65, .ref q69, .ref q73, .ref q77, .ref q81, .ref q85, .ref q89, .int 0, .int 0, .ref q93, .int 0, .ref q97, .int 0, .int 0, .int 0, .int 0, .ref q101, .ref q105, .ref q109, .int 0, .ref q113, .null, .null])) :: R115) H116 := hP
  replace hD : va_D A ((h0, .inr (8, [.int 0, .ref q1, .ref q5, .ref q9, .ref q13, .ref q17, .ref q21, .ref q25, .ref q29, .ref q33, .ref q37, .ref q41, .ref q45, .ref q49, .ref q53, .ref q57, .ref q61, .ref q65, .ref q69, .ref q73, .ref q77, .ref q81, .ref q85, .ref q89, .int 0, .int 0, .ref q93, .int 0, .ref q97, .int 0, .int 0, .int 0, .int 0, .ref q101, .ref q105, .ref q109, .int 0, .ref q113, .null, .null])) :: R115) := hD
  refine lv_aload_n hx hb dX8_init_225 rfl (lv_at hl 0 rfl) ?_
  refine lv_iconst (v := (4 : Int32)) hx hb dX8_init_226 (by decide) ?_
  refine nb_newi (N' := 4) hx hb (hts _ tw1_40) hK hP hD hS hA (by decide) (by decide) (by decide) (Nat.le_of_ble_eq_true rfl) (Nat.le_of_ble_eq_true rfl) dX8_init_227 (fun q117 H118 hP2 hD2 hS2 => ?_)
  clear hP hD hS
  have hP := hP2
  have hD := hD2
  have hS := hS2
  clear hP2 hD2 hS2
  obtain ⟨R119, eR119⟩ : ∃ z : va_W, z = R115 ++ [(q117, .inl (cA 0, 4, .inl (fun _ => 0)))] := ⟨_, rfl⟩
  replace hP : va_P D vwCl ((h0, .inr (8, [.int 0, .ref q1, .ref q5, .ref q9, .ref q13, .ref q17, .ref q21, .ref q25, .ref q29, .ref q33, .ref q37, .ref q41, .ref q45, .ref q49, .ref q53, .ref q57, .ref q61, .ref q65, .ref q69, .ref q73, .ref q77, .ref q81, .ref q85, .ref q89, .int 0, .int 0, .ref q93, .int 0, .ref q97, .int 0, .int 0, .int 0, .int 0, .ref q101, .ref q105, .ref q109, .int 0, .ref q113, .null, .null])) :: R119) H118 := by rw [eR119]; exact hP
  replace hD : va_D A ((h0, .inr (8, [.int 0, .ref q1, .ref q5, .ref q9, .ref q13, .ref q17, .ref q21, .ref q25, .ref q29, .ref q33, .ref q37, .ref q41, .ref q45, .ref q49, .ref q53, .ref q57, .ref q61, .ref q65, .ref q69, .ref q73, .ref q77, .ref q81, .ref q85, .ref q89, .int 0, .int 0, .ref q93, .int 0, .ref q97, .int 0, .int 0, .int 0, .int 0, .ref q101, .ref q105, .ref q109, .int 0, .ref q113, .null, .null])) :: R119) := by rw [eR119]; exact hD
  replace eR119 : R119 = [(q1, .inl (cA 0, 400, .inl (fun _ => 0))), (q5, .inl (cA 0, 2, .inl (fun _ => 0))), (q9, .inl (cA 0, 16, .inl (fun _ => 0))), (q13, .inl (cA 0, 16, .inl (fun _ => 0))), (q17, .inl (cA 0, 16, .inl (fun _ => 0))), (q21, .inl (cA 0, 16, .inl (fun _ => 0))), (q25, .inl (cA 0, 2, .inl (fun _ => 0))), (q29, .inl (cA 0, 6, .inl (fun _ => 0))), (q33, .inl (cA 0, 6, .inl (fun _ => 0))), (q37, .inl (cA 0, 2, .inl (fun _ => 0))), (q41, .inl (cA 0, 2, .inl (fun _ => 0))), (q45, .inl (cA 0, 2, .inl (fun _ => 0))), (q49, .inl (cA 0, 6, .inl (fun _ => 0))), (q53, .inl (cA 0, 6, .inl (fun _ => 0))), (q57, .inl (cA 0, 2, .inl (fun _ => 0))), (q61, .inl (cA 0, 12, .inl (fun _ => 0))), (q65, .inl (cA 0, 12, .inl (fun _ => 0))), (q69, .inl (cA 0, 12, .inl (fun _ => 0))), (q73, .inl (cA 0, 4, .inl (fun _ => 0))), (q77, .inl (cA 0, 24, .inl (fun _ => 0))), (q81, .inl (cA 0, 24, .inl (fun _ => 0))), (q85, .inl (cA 0, 4, .inl (fun _ => 0))), (q89, .inl (cA 0, 16, .inl (fun _ => 0))), (q93, .inl (cA 0, 8, .inl (fun _ => 0))), (q97, .inl (cA 0, 4, .inl (fun _ => 0))), (q101, .inl (cA 0, 3, .inl (fun _ => 0))), (q105, .inl (cA 0, 4, .inl (fun _ => 0))), (q109, .inl (cA 0, 8, .inl (fun _ => 0))), (q113, .inl (cA 0, 4, .inl (fun _ => 0))), (q117, .inl (cA 0, 4, .inl (fun _ => 0)))] := by rw [eR119, eR115]; rfl
  clear eR115
  refine W.widen (k := 30) (n := 643) (Nat.le_of_ble_eq_true rfl) (Nat.le_of_ble_eq_true rfl) ?_
  refine va_putF (D := D) (ci := 8) (v := .ref q117) (ty := (.array .int)) (C := RX8) (T := TX8) (N := 40) hx hb hts inT_X8 tyX8 tyX8_ok nmX8 hown hK hP hD hS 0 rfl rfl 38 (by decide) (hts _ tw4_161) (fun _ h9 => h9) rfl hin rfl (by decide +kernel) rfl rfl (Nat.le_of_ble_eq_true rfl) dX8_init_229 (fun H120 locs hP2 hD2 hS2 => ?_)
  clear hP hD hS
  have hP := hP2
  have hD := hD2
  have hS := hS2
  clear hP2 hD2 hS2
  replace hP : va_P D vwCl ((h0, .inr (8, [.int 0, .ref q1, .ref q5, .ref q9, .ref q13, .ref q17, .ref q21, .ref q25, .ref q29, .ref q33, .ref q37, .ref q41, .ref q45, .ref q49, .ref q53, .ref q57, .ref q61, .ref q65, .ref q69, .ref q73, .ref q77, .ref q81, .ref q85, .ref q89, .int 0, .int 0, .ref q93, .int 0, .ref q97, .int 0, .int 0, .int 0, .int 0, .ref q101, .ref q105, .ref q109, .int 0, .ref q113, .ref q117, .null])) :: R119) H120 := hP
  replace hD : va_D A ((h0, .inr (8, [.int 0, .ref q1, .ref q5, .ref q9, .ref q13, .ref q17, .ref q21, .ref q25, .ref q29, .ref q33, .ref q37, .ref q41, .ref q45, .ref q49, .ref q53, .ref q57, .ref q61, .ref q65, .ref q69, .ref q73, .ref q77, .ref q81, .ref q85, .ref q89, .int 0, .int 0, .ref q93, .int 0, .ref q97, .int 0, .int 0, .int 0, .int 0, .ref q101, .ref q105, .ref q109, .int 0, .ref q113, .ref q117, .null])) :: R119) := hD
  refine lv_aload_n hx hb dX8_init_232 rfl (lv_at hl 0 rfl) ?_
  refine lv_iconst (v := (4 : Int32)) hx hb dX8_init_233 (by decide) ?_
  refine nb_newi (N' := 4) hx hb (hts _ tw1_40) hK hP hD hS hA (by decide) (by decide) (by decide) (Nat.le_of_ble_eq_true rfl) (Nat.le_of_ble_eq_true rfl) dX8_init_234 (fun q121 H122 hP2 hD2 hS2 => ?_)
  clear hP hD hS
  have hP := hP2
  have hD := hD2
  have hS := hS2
  clear hP2 hD2 hS2
  obtain ⟨R123, eR123⟩ : ∃ z : va_W, z = R119 ++ [(q121, .inl (cA 0, 4, .inl (fun _ => 0)))] := ⟨_, rfl⟩
  replace hP : va_P D vwCl ((h0, .inr (8, [.int 0, .ref q1, .ref q5, .ref q9, .ref q13, .ref q17, .ref q21, .ref q25, .ref q29, .ref q33, .ref q37, .ref q41, .ref q45, .ref q49, .ref q53, .ref q57, .ref q61, .ref q65, .ref q69, .ref q73, .ref q77, .ref q81, .ref q85, .ref q89, .int 0, .int 0, .ref q93, .int 0, .ref q97, .int 0, .int 0, .int 0, .int 0, .ref q101, .ref q105, .ref q109, .int 0, .ref q113, .ref q117, .null])) :: R123) H122 := by rw [eR123]; exact hP
  replace hD : va_D A ((h0, .inr (8, [.int 0, .ref q1, .ref q5, .ref q9, .ref q13, .ref q17, .ref q21, .ref q25, .ref q29, .ref q33, .ref q37, .ref q41, .ref q45, .ref q49, .ref q53, .ref q57, .ref q61, .ref q65, .ref q69, .ref q73, .ref q77, .ref q81, .ref q85, .ref q89, .int 0, .int 0, .ref q93, .int 0, .ref q97, .int 0, .int 0, .int 0, .int 0, .ref q101, .ref q105, .ref q109, .int 0, .ref q113, .ref q117, .null])) :: R123) := by rw [eR123]; exact hD
  replace eR123 : R123 = [(q1, .inl (cA 0, 400, .inl (fun _ => 0))), (q5, .inl (cA 0, 2, .inl (fun _ => 0))), (q9, .inl (cA 0, 16, .inl (fun _ => 0))), (q13, .inl (cA 0, 16, .inl (fun _ => 0))), (q17, .inl (cA 0, 16, .inl (fun _ => 0))), (q21, .inl (cA 0, 16, .inl (fun _ => 0))), (q25, .inl (cA 0, 2, .inl (fun _ => 0))), (q29, .inl (cA 0, 6, .inl (fun _ => 0))), (q33, .inl (cA 0, 6, .inl (fun _ => 0))), (q37, .inl (cA 0, 2, .inl (fun _ => 0))), (q41, .inl (cA 0, 2, .inl (fun _ => 0))), (q45, .inl (cA 0, 2, .inl (fun _ => 0))), (q49, .inl (cA 0, 6, .inl (fun _ => 0))), (q53, .inl (cA 0, 6, .inl (fun _ => 0))), (q57, .inl (cA 0, 2, .inl (fun _ => 0))), (q61, .inl (cA 0, 12, .inl (fun _ => 0))), (q65, .inl (cA 0, 12, .inl (fun _ => 0))), (q69, .inl (cA 0, 12, .inl (fun _ => 0))), (q73, .inl (cA 0, 4, .inl (fun _ => 0))), (q77, .inl (cA 0, 24, .inl (fun _ => 0))), (q81, .inl (cA 0, 24, .inl (fun _ => 0))), (q85, .inl (cA 0, 4, .inl (fun _ => 0))), (q89, .inl (cA 0, 16, .inl (fun _ => 0))), (q93, .inl (cA 0, 8, .inl (fun _ => 0))), (q97, .inl (cA 0, 4, .inl (fun _ => 0))), (q101, .inl (cA 0, 3, .inl (fun _ => 0))), (q105, .inl (cA 0, 4, .inl (fun _ => 0))), (q109, .inl (cA 0, 8, .inl (fun _ => 0))), (q113, .inl (cA 0, 4, .inl (fun _ => 0))), (q117, .inl (cA 0, 4, .inl (fun _ => 0))), (q121, .inl (cA 0, 4, .inl (fun _ => 0)))] := by rw [eR123, eR119]; rfl
  clear eR119
  refine W.widen (k := 31) (n := 647) (Nat.le_of_ble_eq_true rfl) (Nat.le_of_ble_eq_true rfl) ?_
  refine va_putF (D := D) (ci := 8) (v := .ref q121) (ty := (.array .int)) (C := RX8) (T := TX8) (N := 40) hx hb hts inT_X8 tyX8 tyX8_ok nmX8 hown hK hP hD hS 0 rfl rfl 39 (by decide) (hts _ tw4_162) (fun _ h9 => h9) rfl hin rfl (by decide +kernel) rfl rfl (Nat.le_of_ble_eq_true rfl) dX8_init_236 (fun H124 locs hP2 hD2 hS2 => ?_)
  clear hP hD hS
  have hP := hP2
  have hD := hD2
  have hS := hS2
  clear hP2 hD2 hS2
  replace hP : va_P D vwCl ((h0, .inr (8, [.int 0, .ref q1, .ref q5, .ref q9, .ref q13, .ref q17, .ref q21, .ref q25, .ref q29, .ref q33, .ref q37, .ref q41, .ref q45, .ref q49, .ref q53, .ref q57, .ref q61, .ref q65, .ref q69, .ref q73, .ref q77, .ref q81, .ref q85, .ref q89, .int 0, .int 0, .ref q93, .int 0, .ref q97, .int 0, .int 0, .int 0, .int 0, .ref q101, .ref q105, .ref q109, .int 0, .ref q113, .ref q117, .ref q121])) :: R123) H124 := hP
  replace hD : va_D A ((h0, .inr (8, [.int 0, .ref q1, .ref q5, .ref q9, .ref q13, .ref q17, .ref q21, .ref q25, .ref q29, .ref q33, .ref q37, .ref q41, .ref q45, .ref q49, .ref q53, .ref q57, .ref q61, .ref q65, .ref q69, .ref q73, .ref q77, .ref q81, .ref q85, .ref q89, .int 0, .int 0, .ref q93, .int 0, .ref q97, .int 0, .int 0, .int 0, .int 0, .ref q101, .ref q105, .ref q109, .int 0, .ref q113, .ref q117, .ref q121])) :: R123) := hD
  have ce0 : nb_ce (fun k : Nat => [h0, q1, q5, q9, q13, q17, q21, q25, q29, q33, q37, q41, q45, q49, q53, q57, q61, q65, q69, q73, q77, q81, q85, q89, q93, q97, q101, q105, q109, q113, q117, q121].getD k 0) cA s0_X8 0 (.inr (8, [none, some (some 1), some (some 2), some (some 3), some (some 4), some (some 5), some (some 6), some (some 7), some (some 8), some (some 9), some (some 10), some (some 11), some (some 12), some (some 13), some (some 14), some (some 15), some (some 16), some (some 17), some (some 18), some (some 19), some (some 20), some (some 21), some (some 22), some (some 23), none, none, some (some 24), none, some (some 25), none, none, none, none, some (some 26), some (some 27), some (some 28), none, some (some 29), some (some 30), some (some 31)])) = (h0, .inr (8, [.int 0, .ref q1, .ref q5, .ref q9, .ref q13, .ref q17, .ref q21, .ref q25, .ref q29, .ref q33, .ref q37, .ref q41, .ref q45, .ref q49, .ref q53, .ref q57, .ref q61, .ref q65, .ref q69, .ref q73, .ref q77, .ref q81, .ref q85, .ref q89, .int 0, .int 0, .ref q93, .int 0, .ref q97, .int 0, .int 0, .int 0, .int 0, .ref q101, .ref q105, .ref q109, .int 0, .ref q113, .ref q117, .ref q121])) := rfl
  have ce1 : nb_ce (fun k : Nat => [h0, q1, q5, q9, q13, q17, q21, q25, q29, q33, q37, q41, q45, q49, q53, q57, q61, q65, q69, q73, q77, q81, q85, q89, q93, q97, q101, q105, q109, q113, q117, q121].getD k 0) cA s0_X8 1 (.inl (0, 400)) = (q1, .inl (cA 0, 400, .inl (fun _ => 0))) := rfl
  have ce2 : nb_ce (fun k : Nat => [h0, q1, q5, q9, q13, q17, q21, q25, q29, q33, q37, q41, q45, q49, q53, q57, q61, q65, q69, q73, q77, q81, q85, q89, q93, q97, q101, q105, q109, q113, q117, q121].getD k 0) cA s0_X8 2 (.inl (0, 2)) = (q5, .inl (cA 0, 2, .inl (fun _ => 0))) := rfl
  have ce3 : nb_ce (fun k : Nat => [h0, q1, q5, q9, q13, q17, q21, q25, q29, q33, q37, q41, q45, q49, q53, q57, q61, q65, q69, q73, q77, q81, q85, q89, q93, q97, q101, q105, q109, q113, q117, q121].getD k 0) cA s0_X8 3 (.inl (0, 16)) = (q9, .inl (cA 0, 16, .inl (fun _ => 0))) := rfl
  have ce4 : nb_ce (fun k : Nat => [h0, q1, q5, q9, q13, q17, q21, q25, q29, q33, q37, q41, q45, q49, q53, q57, q61, q65, q69, q73, q77, q81, q85, q89, q93, q97, q101, q105, q109, q113, q117, q121].getD k 0) cA s0_X8 4 (.inl (0, 16)) = (q13, .inl (cA 0, 16, .inl (fun _ => 0))) := rfl
  have ce5 : nb_ce (fun k : Nat => [h0, q1, q5, q9, q13, q17, q21, q25, q29, q33, q37, q41, q45, q49, q53, q57, q61, q65, q69, q73, q77, q81, q85, q89, q93, q97, q101, q105, q109, q113, q117, q121].getD k 0) cA s0_X8 5 (.inl (0, 16)) = (q17, .inl (cA 0, 16, .inl (fun _ => 0))) := rfl
  have ce6 : nb_ce (fun k : Nat => [h0, q1, q5, q9, q13, q17, q21, q25, q29, q33, q37, q41, q45, q49, q53, q57, q61, q65, q69, q73, q77, q81, q85, q89, q93, q97, q101, q105, q109, q113, q117, q121].getD k 0) cA s0_X8 6 (.inl (0, 16)) = (q21, .inl (cA 0, 16, .inl (fun _ => 0))) := rfl
  have ce7 : nb_ce (fun k : Nat => [h0, q1, q5, q9, q13, q17, q21, q25, q29, q33, q37, q41, q45, q49, q53, q57, q61, q65, q69, q73, q77, q81, q85, q89, q93, q97, q101, q105, q109, q113, q117, q121].getD k 0) cA s0_X8 7 (.inl (0, 2)) = (q25, .inl (cA 0, 2, .inl (fun _ => 0))) := rfl
  have ce8 : nb_ce (fun k : Nat => [h0, q1, q5, q9, q13, q17, q21, q25, q29, q33, q37, q41, q45, q49, q53, q57, q61, q65, q69, q73, q77, q81, q85, q89, q93, q97, q101, q105, q109, q113, q117, q121].getD k 0) cA s0_X8 8 (.inl (0, 6)) = (q29, .inl (cA 0, 6, .inl (fun _ => 0))) := rfl
  have ce9 : nb_ce (fun k : Nat => [h0, q1, q5, q9, q13, q17, q21, q25, q29, q33, q37, q41, q45, q49, q53, q57, q61, q65, q69, q73, q77, q81, q85, q89, q93, q97, q101, q105, q109, q113, q117, q121].getD k 0) cA s0_X8 9 (.inl (0, 6)) = (q33, .inl (cA 0, 6, .inl (fun _ => 0))) := rfl
  have ce10 : nb_ce (fun k : Nat => [h0, q1, q5, q9, q13, q17, q21, q25, q29, q33, q37, q41, q45, q49, q53, q57, q61, q65, q69, q73, q77, q81, q85, q89, q93, q97, q101, q105, q109, q113, q117, q121].getD k 0) cA s0_X8 10 (.inl (0, 2)) = (q37, .inl (cA 0, 2, .inl (fun _ => 0))) := rfl
  have ce11 : nb_ce (fun k : Nat => [h0, q1, q5, q9, q13, q17, q21, q25, q29, q33, q37, q41, q45, q49, q53, q57, q61, q65, q69, q73, q77, q81, q85, q89, q93, q97, q101, q105, q109, q113, q117, q121].getD k 0) cA s0_X8 11 (.inl (0, 2)) = (q41, .inl (cA 0, 2, .inl (fun _ => 0))) := rfl
  have ce12 : nb_ce (fun k : Nat => [h0, q1, q5, q9, q13, q17, q21, q25, q29, q33, q37, q41, q45, q49, q53, q57, q61, q65, q69, q73, q77, q81, q85, q89, q93, q97, q101, q105, q109, q113, q117, q121].getD k 0) cA s0_X8 12 (.inl (0, 2)) = (q45, .inl (cA 0, 2, .inl (fun _ => 0))) := rfl
  have ce13 : nb_ce (fun k : Nat => [h0, q1, q5, q9, q13, q17, q21, q25, q29, q33, q37, q41, q45, q49, q53, q57, q61, q65, q69, q73, q77, q81, q85, q89, q93, q97, q101, q105, q109, q113, q117, q121].getD k 0) cA s0_X8 13 (.inl (0, 6)) = (q49, .inl (cA 0, 6, .inl (fun _ => 0))) := rfl
  have ce14 : nb_ce (fun k : Nat => [h0, q1, q5, q9, q13, q17, q21, q25, q29, q33, q37, q41, q45, q49, q53, q57, q61, q65, q69, q73, q77, q81, q85, q89, q93, q97, q101, q105, q109, q113, q117, q121].getD k 0) cA s0_X8 14 (.inl (0, 6)) = (q53, .inl (cA 0, 6, .inl (fun _ => 0))) := rfl
  have ce15 : nb_ce (fun k : Nat => [h0, q1, q5, q9, q13, q17, q21, q25, q29, q33, q37, q41, q45, q49, q53, q57, q61, q65, q69, q73, q77, q81, q85, q89, q93, q97, q101, q105, q109, q113, q117, q121].getD k 0) cA s0_X8 15 (.inl (0, 2)) = (q57, .inl (cA 0, 2, .inl (fun _ => 0))) := rfl
  have ce16 : nb_ce (fun k : Nat => [h0, q1, q5, q9, q13, q17, q21, q25, q29, q33, q37, q41, q45, q49, q53, q57, q61, q65, q69, q73, q77, q81, q85, q89, q93, q97, q101, q105, q109, q113, q117, q121].getD k 0) cA s0_X8 16 (.inl (0, 12)) = (q61, .inl (cA 0, 12, .inl (fun _ => 0))) := rfl
  have ce17 : nb_ce (fun k : Nat => [h0, q1, q5, q9, q13, q17, q21, q25, q29, q33, q37, q41, q45, q49, q53, q57, q61, q65, q69, q73, q77, q81, q85, q89, q93, q97, q101, q105, q109, q113, q117, q121].getD k 0) cA s0_X8 17 (.inl (0, 12)) = (q65, .inl (cA 0, 12, .inl (fun _ => 0))) := rfl
  have ce18 : nb_ce (fun k : Nat => [h0, q1, q5, q9, q13, q17, q21, q25, q29, q33, q37, q41, q45, q49, q53, q57, q61, q65, q69, q73, q77, q81, q85, q89, q93, q97, q101, q105, q109, q113, q117, q121].getD k 0) cA s0_X8 18 (.inl (0, 12)) = (q69, .inl (cA 0, 12, .inl (fun _ => 0))) := rfl
  have ce19 : nb_ce (fun k : Nat => [h0, q1, q5, q9, q13, q17, q21, q25, q29, q33, q37, q41, q45, q49, q53, q57, q61, q65, q69, q73, q77, q81, q85, q89, q93, q97, q101, q105, q109, q113, q117, q121].getD k 0) cA s0_X8 19 (.inl (0, 4)) = (q73, .inl (cA 0, 4, .inl (fun _ => 0))) := rfl
  have ce20 : nb_ce (fun k : Nat => [h0, q1, q5, q9, q13, q17, q21, q25, q29, q33, q37, q41, q45, q49, q53, q57, q61, q65, q69, q73, q77, q81, q85, q89, q93, q97, q101, q105, q109, q113, q117, q121].getD k 0) cA s0_X8 20 (.inl (0, 24)) = (q77, .inl (cA 0, 24, .inl (fun _ => 0))) := rfl
  have ce21 : nb_ce (fun k : Nat => [h0, q1, q5, q9, q13, q17, q21, q25, q29, q33, q37, q41, q45, q49, q53, q57, q61, q65, q69, q73, q77, q81, q85, q89, q93, q97, q101, q105, q109, q113, q117, q121].getD k 0) cA s0_X8 21 (.inl (0, 24)) = (q81, .inl (cA 0, 24, .inl (fun _ => 0))) := rfl
  have ce22 : nb_ce (fun k : Nat => [h0, q1, q5, q9, q13, q17, q21, q25, q29, q33, q37, q41, q45, q49, q53, q57, q61, q65, q69, q73, q77, q81, q85, q89, q93, q97, q101, q105, q109, q113, q117, q121].getD k 0) cA s0_X8 22 (.inl (0, 4)) = (q85, .inl (cA 0, 4, .inl (fun _ => 0))) := rfl
  have ce23 : nb_ce (fun k : Nat => [h0, q1, q5, q9, q13, q17, q21, q25, q29, q33, q37, q41, q45, q49, q53, q57, q61, q65, q69, q73, q77, q81, q85, q89, q93, q97, q101, q105, q109, q113, q117, q121].getD k 0) cA s0_X8 23 (.inl (0, 16)) = (q89, .inl (cA 0, 16, .inl (fun _ => 0))) := rfl
  have ce24 : nb_ce (fun k : Nat => [h0, q1, q5, q9, q13, q17, q21, q25, q29, q33, q37, q41, q45, q49, q53, q57, q61, q65, q69, q73, q77, q81, q85, q89, q93, q97, q101, q105, q109, q113, q117, q121].getD k 0) cA s0_X8 24 (.inl (0, 8)) = (q93, .inl (cA 0, 8, .inl (fun _ => 0))) := rfl
  have ce25 : nb_ce (fun k : Nat => [h0, q1, q5, q9, q13, q17, q21, q25, q29, q33, q37, q41, q45, q49, q53, q57, q61, q65, q69, q73, q77, q81, q85, q89, q93, q97, q101, q105, q109, q113, q117, q121].getD k 0) cA s0_X8 25 (.inl (0, 4)) = (q97, .inl (cA 0, 4, .inl (fun _ => 0))) := rfl
  have ce26 : nb_ce (fun k : Nat => [h0, q1, q5, q9, q13, q17, q21, q25, q29, q33, q37, q41, q45, q49, q53, q57, q61, q65, q69, q73, q77, q81, q85, q89, q93, q97, q101, q105, q109, q113, q117, q121].getD k 0) cA s0_X8 26 (.inl (0, 3)) = (q101, .inl (cA 0, 3, .inl (fun _ => 0))) := rfl
  have ce27 : nb_ce (fun k : Nat => [h0, q1, q5, q9, q13, q17, q21, q25, q29, q33, q37, q41, q45, q49, q53, q57, q61, q65, q69, q73, q77, q81, q85, q89, q93, q97, q101, q105, q109, q113, q117, q121].getD k 0) cA s0_X8 27 (.inl (0, 4)) = (q105, .inl (cA 0, 4, .inl (fun _ => 0))) := rfl
  have ce28 : nb_ce (fun k : Nat => [h0, q1, q5, q9, q13, q17, q21, q25, q29, q33, q37, q41, q45, q49, q53, q57, q61, q65, q69, q73, q77, q81, q85, q89, q93, q97, q101, q105, q109, q113, q117, q121].getD k 0) cA s0_X8 28 (.inl (0, 8)) = (q109, .inl (cA 0, 8, .inl (fun _ => 0))) := rfl
  have ce29 : nb_ce (fun k : Nat => [h0, q1, q5, q9, q13, q17, q21, q25, q29, q33, q37, q41, q45, q49, q53, q57, q61, q65, q69, q73, q77, q81, q85, q89, q93, q97, q101, q105, q109, q113, q117, q121].getD k 0) cA s0_X8 29 (.inl (0, 4)) = (q113, .inl (cA 0, 4, .inl (fun _ => 0))) := rfl
  have ce30 : nb_ce (fun k : Nat => [h0, q1, q5, q9, q13, q17, q21, q25, q29, q33, q37, q41, q45, q49, q53, q57, q61, q65, q69, q73, q77, q81, q85, q89, q93, q97, q101, q105, q109, q113, q117, q121].getD k 0) cA s0_X8 30 (.inl (0, 4)) = (q117, .inl (cA 0, 4, .inl (fun _ => 0))) := rfl
  have ce31 : nb_ce (fun k : Nat => [h0, q1, q5, q9, q13, q17, q21, q25, q29, q33, q37, q41, q45, q49, q53, q57, q61, q65, q69, q73, q77, q81, q85, q89, q93, q97, q101, q105, q109, q113, q117, q121].getD k 0) cA s0_X8 31 (.inl (0, 4)) = (q121, .inl (cA 0, 4, .inl (fun _ => 0))) := rfl
  rw [eR123] at hP hD
  have hPu : va_P D vwCl (nb_cs xm_sh (fun k : Nat => [h0, q1, q5, q9, q13, q17, q21, q25, q29, q33, q37, q41, q45, q49, q53, q57, q61, q65, q69, q73, q77, q81, q85, q89, q93, q97, q101, q105, q109, q113, q117, q121].getD k 0) cA s0_X8) H124 := by
    show va_P D vwCl [nb_ce (fun k : Nat => [h0, q1, q5, q9, q13, q17, q21, q25, q29, q33, q37, q41, q45, q49, q53, q57, q61, q65, q69, q73, q77, q81, q85, q89, q93, q97, q101, q105, q109, q113, q117, q121].getD k 0) cA s0_X8 0 (.inr (8, [none, some (some 1), some (some 2), some (some 3), some (some 4), some (some 5), some (some 6), some (some 7), some (some 8), some (some 9), some (some 10), some (some 11), some (some 12), some (some 13), some (some 14), some (some 15), some (some 16), some (some 17), some (some 18), some (some 19), some (some 20), some (some 21), some (some 22), some (some 23), none, none, some (some 24), none, some (some 25), none, none, none, none, some (some 26), some (some 27), some (some 28), none, some (some 29), some (some 30), some (some 31)])), nb_ce (fun k : Nat => [h0, q1, q5, q9, q13, q17, q21, q25, q29, q33, q37, q41, q45, q49, q53, q57, q61, q65, q69, q73, q77, q81, q85, q89, q93, q97, q101, q105, q109, q113, q117, q121].getD k 0) cA s0_X8 1 (.inl (0, 400)), nb_ce (fun k : Nat => [h0, q1, q5, q9, q13, q17, q21, q25, q29, q33, q37, q41, q45, q49, q53, q57, q61, q65, q69, q73, q77, q81, q85, q89, q93, q97, q101, q105, q109, q113, q117, q121].getD k 0) cA s0_X8 2 (.inl (0, 2)), nb_ce (fun k : Nat => [h0, q1, q5, q9, q13, q17, q21, q25, q29, q33, q37, q41, q45, q49, q53, q57, q61, q65, q69, q73, q77, q81, q85, q89, q93, q97, q101, q105, q109, q113, q117, q121].getD k 0) cA s0_X8 3 (.inl (0, 16)), nb_ce (fun k : Nat => [h0, q1, q5, q9, q13, q17, q21, q25, q29, q33, q37, q41, q45, q49, q53, q57, q61, q65, q69, q73, q77, q81, q85, q89, q93, q97, q101, q105, q109, q113, q117, q121].getD k 0) cA s0_X8 4 (.inl (0, 16)), nb_ce (fun k : Nat => [h0, q1, q5, q9, q13, q17, q21, q25, q29, q33, q37, q41, q45, q49, q53, q57, q61, q65, q69, q73, q77, q81, q85, q89, q93, q97, q101, q105, q109, q113, q117, q121].getD k 0) cA s0_X8 5 (.inl (0, 16)), nb_ce (fun k : Nat => [h0, q1, q5, q9, q13, q17, q21, q25, q29, q33, q37, q41, q45, q49, q53, q57, q61, q65, q69, q73, q77, q81, q85, q89, q93, q97, q101, q105, q109, q113, q117, q121].getD k 0) cA s0_X8 6 (.inl (0, 16)), nb_ce (fun k : Nat => [h0, q1, q5, q9, q13, q17, q21, q25, q29, q33, q37, q41, q45, q49, q53, q57, q61, q65, q69, q73, q77, q81, q85, q89, q93, q97, q101, q105, q109, q113, q117, q121].getD k 0) cA s0_X8 7 (.inl (0, 2)), nb_ce (fun k : Nat => [h0, q1, q5, q9, q13, q17, q21, q25, q29, q33, q37, q41, q45, q49, q53, q57, q61, q65, q69, q73, q77, q81, q85, q89, q93, q97, q101, q105, q109, q113, q117, q121].getD k 0) cA s0_X8 8 (.inl (0, 6)), nb_ce (fun k : Nat => [h0, q1, q5, q9, q13, q17, q21, q25, q29, q33, q37, q41, q45, q49, q53, q57, q61, q65, q69, q73, q77, q81, q85, q89, q93, q97, q101, q105, q109, q113, q117, q121].getD k 0) cA s0_X8 9 (.inl (0, 6)), nb_ce (fun k : Nat => [h0, q1, q5, q9, q13, q17, q21, q25, q29, q33, q37, q41, q45, q49, q53, q57, q61, q65, q69, q73, q77, q81, q85, q89, q93, q97, q101, q105, q109, q113, q117, q121].getD k 0) cA s0_X8 10 (.inl (0, 2)), nb_ce (fun k : Nat => [h0, q1, q5, q9, q13, q17, q21, q25, q29, q33, q37, q41, q45, q49, q53, q57, q61, q65, q69, q73, q77, q81, q85, q89, q93, q97, q101, q105, q109, q113, q117, q121].getD k 0) cA s0_X8 11 (.inl (0, 2)), nb_ce (fun k : Nat => [h0, q1, q5, q9, q13, q17, q21, q25, q29, q33, q37, q41, q45, q49, q53, q57, q61, q65, q69, q73, q77, q81, q85, q89, q93, q97, q101, q105, q109, q113, q117, q121].getD k 0) cA s0_X8 12 (.inl (0, 2)), nb_ce (fun k : Nat => [h0, q1, q5, q9, q13, q17, q21, q25, q29, q33, q37, q41, q45, q49, q53, q57, q61, q65, q69, q73, q77, q81, q85, q89, q93, q97, q101, q105, q109, q113, q117, q121].getD k 0) cA s0_X8 13 (.inl (0, 6)), nb_ce (fun k : Nat => [h0, q1, q5, q9, q13, q17, q21, q25, q29, q33, q37, q41, q45, q49, q53, q57, q61, q65, q69, q73, q77, q81, q85, q89, q93, q97, q101, q105, q109, q113, q117, q121].getD k 0) cA s0_X8 14 (.inl (0, 6)), nb_ce (fun k : Nat => [h0, q1, q5, q9, q13, q17, q21, q25, q29, q33, q37, q41, q45, q49, q53, q57, q61, q65, q69, q73, q77, q81, q85, q89, q93, q97, q101, q105, q109, q113, q117, q121].getD k 0) cA s0_X8 15 (.inl (0, 2)), nb_ce (fun k : Nat => [h0, q1, q5, q9, q13, q17, q21, q25, q29, q33, q37, q41, q45, q49, q53, q57, q61, q65, q69, q73, q77, q81, q85, q89, q93, q97, q101, q105, q109, q113, q117, q121].getD k 0) cA s0_X8 16 (.inl (0, 12)), nb_ce (fun k : Nat => [h0, q1, q5, q9, q13, q17, q21, q25, q29, q33, q37, q41, q45, q49, q53, q57, q61, q65, q69, q73, q77, q81, q85, q89, q93, q97, q101, q105, q109, q113, q117, q121].getD k 0) cA s0_X8 17 (.inl (0, 12)), nb_ce (fun k : Nat => [h0, q1, q5, q9, q13, q17, q21, q25, q29, q33, q37, q41, q45, q49, q53, q57, q61, q65, q69, q73, q77, q81, q85, q89, q93, q97, q101, q105, q109, q113, q117, q121].getD k 0) cA s0_X8 18 (.inl (0, 12)), nb_ce (fun k : Nat => [h0, q1, q5, q9, q13, q17, q21, q25, q29, q33, q37, q41, q45, q49, q53, q57, q61, q65, q69, q73, q77, q81, q85, q89, q93, q97, q101, q105, q109, q113, q117, q121].getD k 0) cA s0_X8 19 (.inl (0, 4)), nb_ce (fun k : Nat => [h0, q1, q5, q9, q13, q17, q21, q25, q29, q33, q37, q41, q45, q49, q53, q57, q61, q65, q69, q73, q77, q81, q85, q89, q93, q97, q101, q105, q109, q113, q117, q121].getD k 0) cA s0_X8 20 (.inl (0, 24)), nb_ce (fun k : Nat => [h0, q1, q5, q9, q13, q17, q21, q25, q29, q33, q37, q41, q45, q49, q53, q57, q61, q65, q69, q73, q77, q81, q85, q89, q93, q97, q101, q105, q109, q113, q117, q121].getD k 0) cA s0_X8 21 (.inl (0, 24)), nb_ce (fun k : Nat => [h0, q1, q5, q9, q13, q17, q21, q25, q29, q33, q37, q41, q45, q49, q53, q57, q61, q65, q69, q73, q77, q81, q85, q89, q93, q97, q101, q105, q109, q113, q117, q121].getD k 0) cA s0_X8 22 (.inl (0, 4)), nb_ce (fun k : Nat => [h0, q1, q5, q9, q13, q17, q21, q25, q29, q33, q37, q41, q45, q49, q53, q57, q61, q65, q69, q73, q77, q81, q85, q89, q93, q97, q101, q105, q109, q113, q117, q121].getD k 0) cA s0_X8 23 (.inl (0, 16)), nb_ce (fun k : Nat => [h0, q1, q5, q9, q13, q17, q21, q25, q29, q33, q37, q41, q45, q49, q53, q57, q61, q65, q69, q73, q77, q81, q85, q89, q93, q97, q101, q105, q109, q113, q117, q121].getD k 0) cA s0_X8 24 (.inl (0, 8)), nb_ce (fun k : Nat => [h0, q1, q5, q9, q13, q17, q21, q25, q29, q33, q37, q41, q45, q49, q53, q57, q61, q65, q69, q73, q77, q81, q85, q89, q93, q97, q101, q105, q109, q113, q117, q121].getD k 0) cA s0_X8 25 (.inl (0, 4)), nb_ce (fun k : Nat => [h0, q1, q5, q9, q13, q17, q21, q25, q29, q33, q37, q41, q45, q49, q53, q57, q61, q65, q69, q73, q77, q81, q85, q89, q93, q97, q101, q105, q109, q113, q117, q121].getD k 0) cA s0_X8 26 (.inl (0, 3)), nb_ce (fun k : Nat => [h0, q1, q5, q9, q13, q17, q21, q25, q29, q33, q37, q41, q45, q49, q53, q57, q61, q65, q69, q73, q77, q81, q85, q89, q93, q97, q101, q105, q109, q113, q117, q121].getD k 0) cA s0_X8 27 (.inl (0, 4)), nb_ce (fun k : Nat => [h0, q1, q5, q9, q13, q17, q21, q25, q29, q33, q37, q41, q45, q49, q53, q57, q61, q65, q69, q73, q77, q81, q85, q89, q93, q97, q101, q105, q109, q113, q117, q121].getD k 0) cA s0_X8 28 (.inl (0, 8)), nb_ce (fun k : Nat => [h0, q1, q5, q9, q13, q17, q21, q25, q29, q33, q37, q41, q45, q49, q53, q57, q61, q65, q69, q73, q77, q81, q85, q89, q93, q97, q101, q105, q109, q113, q117, q121].getD k 0) cA s0_X8 29 (.inl (0, 4)), nb_ce (fun k : Nat => [h0, q1, q5, q9, q13, q17, q21, q25, q29, q33, q37, q41, q45, q49, q53, q57, q61, q65, q69, q73, q77, q81, q85, q89, q93, q97, q101, q105, q109, q113, q117, q121].getD k 0) cA s0_X8 30 (.inl (0, 4)), nb_ce (fun k : Nat => [h0, q1, q5, q9, q13, q17, q21, q25, q29, q33, q37, q41, q45, q49, q53, q57, q61, q65, q69, q73, q77, q81, q85, q89, q93, q97, q101, q105, q109, q113, q117, q121].getD k 0) cA s0_X8 31 (.inl (0, 4))] H124
    rw [ce0, ce1, ce2, ce3, ce4, ce5, ce6, ce7, ce8, ce9, ce10, ce11, ce12, ce13, ce14, ce15, ce16, ce17, ce18, ce19, ce20, ce21, ce22, ce23, ce24, ce25, ce26, ce27, ce28, ce29, ce30, ce31]
    exact hP
  have hDu : va_D A (nb_cs xm_sh (fun k : Nat => [h0, q1, q5, q9, q13, q17, q21, q25, q29, q33, q37, q41, q45, q49, q53, q57, q61, q65, q69, q73, q77, q81, q85, q89, q93, q97, q101, q105, q109, q113, q117, q121].getD k 0) cA s0_X8) := by
    show va_D A [nb_ce (fun k : Nat => [h0, q1, q5, q9, q13, q17, q21, q25, q29, q33, q37, q41, q45, q49, q53, q57, q61, q65, q69, q73, q77, q81, q85, q89, q93, q97, q101, q105, q109, q113, q117, q121].getD k 0) cA s0_X8 0 (.inr (8, [none, some (some 1), some (some 2), some (some 3), some (some 4), some (some 5), some (some 6), some (some 7), some (some 8), some (some 9), some (some 10), some (some 11), some (some 12), some (some 13), some (some 14), some (some 15), some (some 16), some (some 17), some (some 18), some (some 19), some (some 20), some (some 21), some (some 22), some (some 23), none, none, some (some 24), none, some (some 25), none, none, none, none, some (some 26), some (some 27), some (some 28), none, some (some 29), some (some 30), some (some 31)])), nb_ce (fun k : Nat => [h0, q1, q5, q9, q13, q17, q21, q25, q29, q33, q37, q41, q45, q49, q53, q57, q61, q65, q69, q73, q77, q81, q85, q89, q93, q97, q101, q105, q109, q113, q117, q121].getD k 0) cA s0_X8 1 (.inl (0, 400)), nb_ce (fun k : Nat => [h0, q1, q5, q9, q13, q17, q21, q25, q29, q33, q37, q41, q45, q49, q53, q57, q61, q65, q69, q73, q77, q81, q85, q89, q93, q97, q101, q105, q109, q113, q117, q121].getD k 0) cA s0_X8 2 (.inl (0, 2)), nb_ce (fun k : Nat => [h0, q1, q5, q9, q13, q17, q21, q25, q29, q33, q37, q41, q45, q49, q53, q57, q61, q65, q69, q73, q77, q81, q85, q89, q93, q97, q101, q105, q109, q113, q117, q121].getD k 0) cA s0_X8 3 (.inl (0, 16)), nb_ce (fun k : Nat => [h0, q1, q5, q9, q13, q17, q21, q25, q29, q33, q37, q41, q45, q49, q53, q57, q61, q65, q69, q73, q77, q81, q85, q89, q93, q97, q101, q105, q109, q113, q117, q121].getD k 0) cA s0_X8 4 (.inl (0, 16)), nb_ce (fun k : Nat => [h0, q1, q5, q9, q13, q17, q21, q25, q29, q33, q37, q41, q45, q49, q53, q57, q61, q65, q69, q73, q77, q81, q85, q89, q93, q97, q101, q105, q109, q113, q117, q121].getD k 0) cA s0_X8 5 (.inl (0, 16)), nb_ce (fun k : Nat => [h0, q1, q5, q9, q13, q17, q21, q25, q29, q33, q37, q41, q45, q49, q53, q57, q61, q65, q69, q73, q77, q81, q85, q89, q93, q97, q101, q105, q109, q113, q117, q121].getD k 0) cA s0_X8 6 (.inl (0, 16)), nb_ce (fun k : Nat => [h0, q1, q5, q9, q13, q17, q21, q25, q29, q33, q37, q41, q45, q49, q53, q57, q61, q65, q69, q73, q77, q81, q85, q89, q93, q97, q101, q105, q109, q113, q117, q121].getD k 0) cA s0_X8 7 (.inl (0, 2)), nb_ce (fun k : Nat => [h0, q1, q5, q9, q13, q17, q21, q25, q29, q33, q37, q41, q45, q49, q53, q57, q61, q65, q69, q73, q77, q81, q85, q89, q93, q97, q101, q105, q109, q113, q117, q121].getD k 0) cA s0_X8 8 (.inl (0, 6)), nb_ce (fun k : Nat => [h0, q1, q5, q9, q13, q17, q21, q25, q29, q33, q37, q41, q45, q49, q53, q57, q61, q65, q69, q73, q77, q81, q85, q89, q93, q97, q101, q105, q109, q113, q117, q121].getD k 0) cA s0_X8 9 (.inl (0, 6)), nb_ce (fun k : Nat => [h0, q1, q5, q9, q13, q17, q21, q25, q29, q33, q37, q41, q45, q49, q53, q57, q61, q65, q69, q73, q77, q81, q85, q89, q93, q97, q101, q105, q109, q113, q117, q121].getD k 0) cA s0_X8 10 (.inl (0, 2)), nb_ce (fun k : Nat => [h0, q1, q5, q9, q13, q17, q21, q25, q29, q33, q37, q41, q45, q49, q53, q57, q61, q65, q69, q73, q77, q81, q85, q89, q93, q97, q101, q105, q109, q113, q117, q121].getD k 0) cA s0_X8 11 (.inl (0, 2)), nb_ce (fun k : Nat => [h0, q1, q5, q9, q13, q17, q21, q25, q29, q33, q37, q41, q45, q49, q53, q57, q61, q65, q69, q73, q77, q81, q85, q89, q93, q97, q101, q105, q109, q113, q117, q121].getD k 0) cA s0_X8 12 (.inl (0, 2)), nb_ce (fun k : Nat => [h0, q1, q5, q9, q13, q17, q21, q25, q29, q33, q37, q41, q45, q49, q53, q57, q61, q65, q69, q73, q77, q81, q85, q89, q93, q97, q101, q105, q109, q113, q117, q121].getD k 0) cA s0_X8 13 (.inl (0, 6)), nb_ce (fun k : Nat => [h0, q1, q5, q9, q13, q17, q21, q25, q29, q33, q37, q41, q45, q49, q53, q57, q61, q65, q69, q73, q77, q81, q85, q89, q93, q97, q101, q105, q109, q113, q117, q121].getD k 0) cA s0_X8 14 (.inl (0, 6)), nb_ce (fun k : Nat => [h0, q1, q5, q9, q13, q17, q21, q25, q29, q33, q37, q41, q45, q49, q53, q57, q61, q65, q69, q73, q77, q81, q85, q89, q93, q97, q101, q105, q109, q113, q117, q121].getD k 0) cA s0_X8 15 (.inl (0, 2)), nb_ce (fun k : Nat => [h0, q1, q5, q9, q13, q17, q21, q25, q29, q33, q37, q41, q45, q49, q53, q57, q61, q65, q69, q73, q77, q81, q85, q89, q93, q97, q101, q105, q109, q113, q117, q121].getD k 0) cA s0_X8 16 (.inl (0, 12)), nb_ce (fun k : Nat => [h0, q1, q5, q9, q13, q17, q21, q25, q29, q33, q37, q41, q45, q49, q53, q57, q61, q65, q69, q73, q77, q81, q85, q89, q93, q97, q101, q105, q109, q113, q117, q121].getD k 0) cA s0_X8 17 (.inl (0, 12)), nb_ce (fun k : Nat => [h0, q1, q5, q9, q13, q17, q21, q25, q29, q33, q37, q41, q45, q49, q53, q57, q61, q65, q69, q73, q77, q81, q85, q89, q93, q97, q101, q105, q109, q113, q117, q121].getD k 0) cA s0_X8 18 (.inl (0, 12)), nb_ce (fun k : Nat => [h0, q1, q5, q9, q13, q17, q21, q25, q29, q33, q37, q41, q45, q49, q53, q57, q61, q65, q69, q73, q77, q81, q85, q89, q93, q97, q101, q105, q109, q113, q117, q121].getD k 0) cA s0_X8 19 (.inl (0, 4)), nb_ce (fun k : Nat => [h0, q1, q5, q9, q13, q17, q21, q25, q29, q33, q37, q41, q45, q49, q53, q57, q61, q65, q69, q73, q77, q81, q85, q89, q93, q97, q101, q105, q109, q113, q117, q121].getD k 0) cA s0_X8 20 (.inl (0, 24)), nb_ce (fun k : Nat => [h0, q1, q5, q9, q13, q17, q21, q25, q29, q33, q37, q41, q45, q49, q53, q57, q61, q65, q69, q73, q77, q81, q85, q89, q93, q97, q101, q105, q109, q113, q117, q121].getD k 0) cA s0_X8 21 (.inl (0, 24)), nb_ce (fun k : Nat => [h0, q1, q5, q9, q13, q17, q21, q25, q29, q33, q37, q41, q45, q49, q53, q57, q61, q65, q69, q73, q77, q81, q85, q89, q93, q97, q101, q105, q109, q113, q117, q121].getD k 0) cA s0_X8 22 (.inl (0, 4)), nb_ce (fun k : Nat => [h0, q1, q5, q9, q13, q17, q21, q25, q29, q33, q37, q41, q45, q49, q53, q57, q61, q65, q69, q73, q77, q81, q85, q89, q93, q97, q101, q105, q109, q113, q117, q121].getD k 0) cA s0_X8 23 (.inl (0, 16)), nb_ce (fun k : Nat => [h0, q1, q5, q9, q13, q17, q21, q25, q29, q33, q37, q41, q45, q49, q53, q57, q61, q65, q69, q73, q77, q81, q85, q89, q93, q97, q101, q105, q109, q113, q117, q121].getD k 0) cA s0_X8 24 (.inl (0, 8)), nb_ce (fun k : Nat => [h0, q1, q5, q9, q13, q17, q21, q25, q29, q33, q37, q41, q45, q49, q53, q57, q61, q65, q69, q73, q77, q81, q85, q89, q93, q97, q101, q105, q109, q113, q117, q121].getD k 0) cA s0_X8 25 (.inl (0, 4)), nb_ce (fun k : Nat => [h0, q1, q5, q9, q13, q17, q21, q25, q29, q33, q37, q41, q45, q49, q53, q57, q61, q65, q69, q73, q77, q81, q85, q89, q93, q97, q101, q105, q109, q113, q117, q121].getD k 0) cA s0_X8 26 (.inl (0, 3)), nb_ce (fun k : Nat => [h0, q1, q5, q9, q13, q17, q21, q25, q29, q33, q37, q41, q45, q49, q53, q57, q61, q65, q69, q73, q77, q81, q85, q89, q93, q97, q101, q105, q109, q113, q117, q121].getD k 0) cA s0_X8 27 (.inl (0, 4)), nb_ce (fun k : Nat => [h0, q1, q5, q9, q13, q17, q21, q25, q29, q33, q37, q41, q45, q49, q53, q57, q61, q65, q69, q73, q77, q81, q85, q89, q93, q97, q101, q105, q109, q113, q117, q121].getD k 0) cA s0_X8 28 (.inl (0, 8)), nb_ce (fun k : Nat => [h0, q1, q5, q9, q13, q17, q21, q25, q29, q33, q37, q41, q45, q49, q53, q57, q61, q65, q69, q73, q77, q81, q85, q89, q93, q97, q101, q105, q109, q113, q117, q121].getD k 0) cA s0_X8 29 (.inl (0, 4)), nb_ce (fun k : Nat => [h0, q1, q5, q9, q13, q17, q21, q25, q29, q33, q37, q41, q45, q49, q53, q57, q61, q65, q69, q73, q77, q81, q85, q89, q93, q97, q101, q105, q109, q113, q117, q121].getD k 0) cA s0_X8 30 (.inl (0, 4)), nb_ce (fun k : Nat => [h0, q1, q5, q9, q13, q17, q21, q25, q29, q33, q37, q41, q45, q49, q53, q57, q61, q65, q69, q73, q77, q81, q85, q89, q93, q97, q101, q105, q109, q113, q117, q121].getD k 0) cA s0_X8 31 (.inl (0, 4))]
    rw [ce0, ce1, ce2, ce3, ce4, ce5, ce6, ce7, ce8, ce9, ce10, ce11, ce12, ce13, ce14, ce15, ce16, ce17, ce18, ce19, ce20, ce21, ce22, ce23, ce24, ce25, ce26, ce27, ce28, ce29, ce30, ce31]
    exact hD
  clear ce0 ce1 ce2 ce3 ce4 ce5 ce6 ce7 ce8 ce9 ce10 ce11 ce12 ce13 ce14 ce15 ce16 ce17 ce18 ce19 ce20 ce21 ce22 ce23 ce24 ce25 ce26 ce27 ce28 ce29 ce30 ce31
  have ha0 : (fun k : Nat => [h0, q1, q5, q9, q13, q17, q21, q25, q29, q33, q37, q41, q45, q49, q53, q57, q61, q65, q69, q73, q77, q81, q85, q89, q93, q97, q101, q105, q109, q113, q117, q121].getD k 0) 0 = h0 := rfl
  generalize (fun k : Nat => [h0, q1, q5, q9, q13, q17, q21, q25, q29, q33, q37, q41, q45, q49, q53, q57, q61, q65, q69, q73, q77, q81, q85, q89, q93, q97, q101, q105, q109, q113, q117, q121].getD k 0) = ad at hPu hDu ha0
  clear hP hD
  subst ha0
  have hinj := nb_inj_of hDu
  have hAu := nb_A_of hDu
  have hAd : ∀ a, a < s.heap.size → A a → nb_A xm_sh ad a := by
    intro a h1 h2
    rw [← hAe] at h2
    rcases h2 with ⟨k, e, h2⟩ | h2
    · cases k with
      | zero => cases h2; exact ⟨0, by decide, rfl⟩
      | succ k => cases h2
    · omega
  have hZu : (fun (_ : State) (_ : Heap) => True) s s.heap := trivial
  have hZo := nb_Tok (A := nb_A xm_sh ad)
  obtain ⟨G, eG⟩ : ∃ G : nb_G, G = (D, ad, cA) := ⟨_, rfl⟩
  have eD : D = G.1 := by rw [eG]
  have ea : ad = G.2.1 := by rw [eG]
  have ec : cA = G.2.2 := by rw [eG]
  clear eG
  subst eD
  subst ea
  subst ec
  have hP := hPu
  unfold fX8_init at hf
  refine lv_aload_n hx hb dX8_init_239 rfl (lv_at hl 0 rfl) ?_
  refine lv_iconst (v := (0 : Int32)) hx hb dX8_init_240 (by decide) ?_
  obtain ⟨σ2, hc1, hf⟩ := nb_b_e hf
  refine nl_cv hS hAu (va_runV (As := [.int (0 : Int32)]) (rest := []) ⟨hx, hb, hml, hown, hts⟩ (c_X8_noEvening l (Z := fun _ _ => True) hinj hZo (N := N) hc1 ) (cwV 1 hts (xg_V tw4_119 tw4_121 tp2_4 tw1_10 tw4_122) rfl rfl rfl (by decide +kernel) ⟨Nat.le_of_ble_eq_true rfl, Nat.le_of_ble_eq_true rfl⟩) (nl_preV hK hZu hZo hP hS hAd (k := 0) rfl rfl) rfl rfl hl.1 rfl (lv_room (Nat.le_of_ble_eq_true rfl)) dX8_init_241 ⟨Nat.le_of_ble_eq_true rfl, Nat.le_of_ble_eq_true rfl⟩) (fun H locs hP hk hS => ?_)
  refine lv_aload_n hx hb dX8_init_244 rfl (lv_at hl 0 rfl) ?_
  refine nl_get (C := RX8) (T := TX8) (N := 40) hx hb hts inT_X8 hown hK hP 0 rfl rfl 2 (by decide) (hts _ tw4_125) (fun _ h9 => h9) rfl (v := .ref (G.2.1 2)) rfl dX8_init_245 ?_
  refine lv_iconst (v := (0 : Int32)) hx hb dX8_init_248 (by decide) ?_
  refine lv_iconst (v := (2 : Int32)) hx hb dX8_init_249 (by decide) ?_
  obtain ⟨σ3, eσ3, hf⟩ := nb_let_e hf
  refine nl_iast hx hb hK hinj hAu hP hS 2 rfl (by decide) eσ3 dX8_init_250 (fun H locs hP hS => ?_)
  refine lv_aload_n hx hb dX8_init_251 rfl (lv_at hl 0 rfl) ?_
  refine nl_get (C := RX8) (T := TX8) (N := 40) hx hb hts inT_X8 hown hK hP 0 rfl rfl 4 (by decide) (hts _ tw4_127) (fun _ h9 => h9) rfl (v := .ref (G.2.1 4)) rfl dX8_init_252 ?_
  refine lv_iconst (v := (0 : Int32)) hx hb dX8_init_255 (by decide) ?_
  refine lv_sipush (v := (200 : Int32)) hx hb dX8_init_256 (by decide) ?_
  obtain ⟨σ4, eσ4, hf⟩ := nb_let_e hf
  refine nl_iast hx hb hK hinj hAu hP hS 4 rfl (by decide) eσ4 dX8_init_259 (fun H locs hP hS => ?_)
  refine lv_aload_n hx hb dX8_init_260 rfl (lv_at hl 0 rfl) ?_
  refine nl_get (C := RX8) (T := TX8) (N := 40) hx hb hts inT_X8 hown hK hP 0 rfl rfl 5 (by decide) (hts _ tw4_128) (fun _ h9 => h9) rfl (v := .ref (G.2.1 5)) rfl dX8_init_261 ?_
  refine lv_iconst (v := (0 : Int32)) hx hb dX8_init_264 (by decide) ?_
  refine lv_bipush (v := (30 : Int32)) hx hb dX8_init_265 (by decide) ?_
  obtain ⟨σ5, eσ5, hf⟩ := nb_let_e hf
  refine nl_iast hx hb hK hinj hAu hP hS 5 rfl (by decide) eσ5 dX8_init_267 (fun H locs hP hS => ?_)
  refine lv_aload_n hx hb dX8_init_268 rfl (lv_at hl 0 rfl) ?_
  refine nl_get (C := RX8) (T := TX8) (N := 40) hx hb hts inT_X8 hown hK hP 0 rfl rfl 3 (by decide) (hts _ tw4_126) (fun _ h9 => h9) rfl (v := .ref (G.2.1 3)) rfl dX8_init_269 ?_
  refine lv_iconst (v := (1 : Int32)) hx hb dX8_init_272 (by decide) ?_
  refine lv_iconst (v := (1 : Int32)) hx hb dX8_init_273 (by decide) ?_
  obtain ⟨σ6, eσ6, hf⟩ := nb_let_e hf
  refine nl_iast hx hb hK hinj hAu hP hS 3 rfl (by decide) eσ6 dX8_init_274 (fun H locs hP hS => ?_)
  refine lv_aload_n hx hb dX8_init_275 rfl (lv_at hl 0 rfl) ?_
  refine nl_get (C := RX8) (T := TX8) (N := 40) hx hb hts inT_X8 hown hK hP 0 rfl rfl 4 (by decide) (hts _ tw4_127) (fun _ h9 => h9) rfl (v := .ref (G.2.1 4)) rfl dX8_init_276 ?_
  refine lv_iconst (v := (1 : Int32)) hx hb dX8_init_279 (by decide) ?_
  refine lv_sipush (v := (210 : Int32)) hx hb dX8_init_280 (by decide) ?_
  obtain ⟨σ7, eσ7, hf⟩ := nb_let_e hf
  refine nl_iast hx hb hK hinj hAu hP hS 4 rfl (by decide) eσ7 dX8_init_283 (fun H locs hP hS => ?_)
  refine lv_aload_n hx hb dX8_init_284 rfl (lv_at hl 0 rfl) ?_
  refine nl_get (C := RX8) (T := TX8) (N := 40) hx hb hts inT_X8 hown hK hP 0 rfl rfl 5 (by decide) (hts _ tw4_128) (fun _ h9 => h9) rfl (v := .ref (G.2.1 5)) rfl dX8_init_285 ?_
  refine lv_iconst (v := (1 : Int32)) hx hb dX8_init_288 (by decide) ?_
  refine lv_bipush (v := (40 : Int32)) hx hb dX8_init_289 (by decide) ?_
  obtain ⟨σ8, eσ8, hf⟩ := nb_let_e hf
  refine nl_iast hx hb hK hinj hAu hP hS 5 rfl (by decide) eσ8 dX8_init_291 (fun H locs hP hS => ?_)
  cases hf
  exact W.vret hx hb hr (fun t ht hW => ⟨⟨G.2.1, rfl, rfl, by rw [ht]; exact hP, va_K.moved hW.alike hK, nb_D_of hinj hAu⟩, hS.F ht⟩) hS.2.2 dX8_init_292
