def fX5_readNumber (N : Nat) (σ : nb_St) (a1 : Int32) : Option (Int32 × nb_St) :=
  nb_let (σ 2 1) fun x1 =>
  nb_lp2 (R := (Int32 × nb_St)) (fun ag4 (x2 : Int32) (σ3 : nb_St) =>
  nb_let (fun (_u : Unit) =>
  (if (σ3 2 1) = x1 then
  some ((-1 : Int32), σ3)
  else
  some (x2, σ3))) fun k6 =>
  (if a1 ≤ (σ3 2 1) then
  k6 ()
  else
  (if (3 : Int32) ≤ ((σ3 2 1) - x1) then
  k6 ()
  else
  nb_g (nb_in (σ3 2 1) 400) (
  (if (σ3 1 (nb_ix (σ3 2 1))) < (48 : Int32) then
  k6 ()
  else
  nb_g (nb_in (σ3 2 1) 400) (
  (if (57 : Int32) < (σ3 1 (nb_ix (σ3 2 1))) then
  k6 ()
  else
  nb_g (nb_in (σ3 2 1) 400) (
  nb_let (((10 : Int32) * x2) + ((σ3 1 (nb_ix (σ3 2 1))) - (48 : Int32))) fun x16 =>
  nb_let (nb_st σ3 2 1 ((σ3 2 1) + (1 : Int32))) fun σ17 =>
  ag4 x16 σ17)))))))) N (0 : Int32) σ
def rmX5_readNumber : Room := { frames := 0, cells := 0, slots := 0, locals := 0 }
def vsX5_readNumber : List Cond := .code yX5_readNumber cX5_readNumber 5 (some .int) :: xT
set_option maxHeartbeats 4000000 in
set_option maxRecDepth 100000 in
theorem c_X5_readNumber (l : Launch) {G : nb_G} {tb : Nat → Nat} (hinj : nb_inj xc_sh G.2.1) (hZo : nb_Zok (nb_A xc_sh G.2.1) (xc_Z (nb_A xc_sh G.2.1) tb)) {N : Nat} {σ : nb_St} {a1 : Int32} {ro : Int32} {σo : nb_St} (hf : fX5_readNumber N σ a1 = some (ro, σo))  : Met l yX5_readNumber vsX5_readNumber rmX5_readNumber (nb_Pc G xc_sh (xc_Z (nb_A xc_sh G.2.1) tb) σ [.ref (G.2.1 2), .ref (G.2.1 1), .int a1]) (nb_Qi G xc_sh (xc_Z (nb_A xc_sh G.2.1) tb) ro σo) 0 0 (nb_A xc_sh G.2.1) := by
  refine Met.ofW (cc := cX5_readNumber) (maxL := 5) (ret := (some .int)) (by decide) rfl ?_
  intro p e s m args below meth c s₁ B hml hv
  obtain ⟨rfl, hP, hK, hZ⟩ := hv
  have hx := B.exec
  have hb := B.bytes
  have hr := B.returns
  have hts : ∀ w ∈ xT, w.before _ s = true := fun w h9 => atoms_spec (ws := vsX5_readNumber) B.pre w (List.mem_cons_of_mem _ h9)
  have hown : s.vm.findClass RX5 = some m.cls := findClass_of_methodNamed B.named
  have hlocks := B.notSynchronized
  have hW : nb_W G xc_sh s.heap σ s.heap [] := ⟨hP, va_S.rf⟩
  have hl := lv_entry ([.ref (G.2.1 2), .ref (G.2.1 1), .int a1]) (n := 5) (Nat.le_of_ble_eq_true rfl)
  rw [lg_entry_eq]
  generalize (lg_sl ([.ref (G.2.1 2), .ref (G.2.1 1), .int a1]) ++ List.replicate (5 - (lg_sl ([.ref (G.2.1 2), .ref (G.2.1 1), .int a1])).length) Slot.unset).toArray = ls at hl ⊢
  have hl : lv_has ls 5 [(0, .ref (G.2.1 2)), (1, .ref (G.2.1 1)), (2, .int a1)] := hl
  show W p l e rmX5_readNumber s m ([.ref (G.2.1 2), .ref (G.2.1 1), .int a1]).toArray below meth c s.heap [] 0 0 (MQ below (nb_Qi G xc_sh (xc_Z (nb_A xc_sh G.2.1) tb) ro σo) ([.ref (G.2.1 2), .ref (G.2.1 1), .int a1]).toArray s 0 0 (nb_A xc_sh G.2.1)) (F0 m 0 ls [])
  generalize hargs : ([.ref (G.2.1 2), .ref (G.2.1 1), .int a1] : List Value).toArray = args at hts ⊢
  unfold fX5_readNumber at hf
  obtain ⟨H, eH⟩ : ∃ H, H = s.heap := ⟨_, rfl⟩
  obtain ⟨locs, eL⟩ : ∃ L : List Loc, L = [] := ⟨_, rfl⟩
  have hW : nb_W G xc_sh s.heap σ H locs := by rw [eH, eL]; exact hW
  suffices hgo : W p l e rmX5_readNumber s m args below meth c H locs 0 0 (MQ below (nb_Qi G xc_sh (xc_Z (nb_A xc_sh G.2.1) tb) ro σo) args s 0 0 (nb_A xc_sh G.2.1)) (F0 m 0 ls []) by rw [eH, eL] at hgo; exact hgo
  clear eH eL
  refine lv_aload_n hx hb dX5_readNumber_0 rfl (lv_at hl 0 rfl) ?_
  refine nb_get (C := RX5) (T := TX5) (N := 2) hx hb hts inT_X5 hown hK hW 2 rfl rfl 1 (by decide) (hts _ tw1_33) (fun _ h9 => h9) rfl (v := .int (σ 2 1)) rfl dX5_readNumber_1 ?_
  obtain ⟨x1, ex1, hf⟩ := nb_let_e hf
  refine nb_nami ex1 ?_
  refine lv_istore_n (lv' := [(3, .int x1), (0, .ref (G.2.1 2)), (1, .ref (G.2.1 1)), (2, .int a1)]) hx hb dX5_readNumber_4 rfl hl (by decide) rfl (fun ls hl => ?_)
  refine lv_iconst (v := (0 : Int32)) hx hb dX5_readNumber_5 (by decide) ?_
  refine lv_istore (lv' := [(4, .int (0 : Int32)), (3, .int x1), (0, .ref (G.2.1 2)), (1, .ref (G.2.1 1)), (2, .int a1)]) hx hb dX5_readNumber_6 hl (by decide) rfl (fun ls hl => ?_)
  refine nb_w2 (P := fun (x2 : Int32) (σ3 : nb_St) => ∀ (H : Heap) (locs : List Loc) (ls : Array Slot), nb_W G xc_sh s.heap σ3 H locs → lv_has ls 5 [(0, .ref (G.2.1 2)), (1, .ref (G.2.1 1)), (2, .int a1), (3, .int x1), (4, .int x2)] → W p l e rmX5_readNumber s m args below meth c H locs 0 0 (MQ below (nb_Qi G xc_sh (xc_Z (nb_A xc_sh G.2.1) tb) ro σo) args s 0 0 (nb_A xc_sh G.2.1)) (F0 m 8 ls [])) ?_ N _ _ hf H locs ls hW (lv_sub hl [2, 3, 4, 1, 0] rfl)
  intro ag4 ih5 x2 σ3 hf H locs ls hW hl
  refine lv_aload_n hx hb dX5_readNumber_8 rfl (lv_at hl 0 rfl) ?_
  refine nb_get (C := RX5) (T := TX5) (N := 2) hx hb hts inT_X5 hown hK hW 2 rfl rfl 1 (by decide) (hts _ tw1_33) (fun _ h9 => h9) rfl (v := .int (σ3 2 1)) rfl dX5_readNumber_9 ?_
  refine lv_iload_n hx hb dX5_readNumber_12 rfl (lv_at hl 2 rfl) ?_
  obtain ⟨k6, ek6, hf⟩ := nb_let_e hf
  have w7 : ∀ (_u : Unit) (H : Heap) (locs : List Loc) (ls : Array Slot), k6 _u = some (ro, σo) → nb_W G xc_sh s.heap σ3 H locs → lv_has ls 5 [(0, .ref (G.2.1 2)), (3, .int x1), (4, .int x2)] → W p l e rmX5_readNumber s m args below meth c H locs 0 0 (MQ below (nb_Qi G xc_sh (xc_Z (nb_A xc_sh G.2.1) tb) ro σo) args s 0 0 (nb_A xc_sh G.2.1)) (F0 m 78 ls []) := by
    intro _u H locs ls hf hW hl
    have hf := (congrFun ek6 _u).symm.trans hf
    refine lv_aload_n hx hb dX5_readNumber_78 rfl (lv_at hl 0 rfl) ?_
    refine nb_get (C := RX5) (T := TX5) (N := 2) hx hb hts inT_X5 hown hK hW 2 rfl rfl 1 (by decide) (hts _ tw1_33) (fun _ h9 => h9) rfl (v := .int (σ3 2 1)) rfl dX5_readNumber_79 ?_
    refine lv_iload_n hx hb dX5_readNumber_82 rfl (lv_at hl 1 rfl) ?_
    refine lv_icmp_ne (tgt := 90) hx hb dX5_readNumber_83 (by decide) (fun c8 => ?_) (fun c8 => ?_)
    · rw [if_neg c8] at hf
      refine lv_iload hx hb dX5_readNumber_90 (lv_at hl 2 rfl) ?_
      exact nb_ri hx hb hr hlocks hK hZ hZo hW  hf dX5_readNumber_92
    · rw [if_pos c8] at hf
      refine lv_iconst (v := (-1 : Int32)) hx hb dX5_readNumber_86 (by decide) ?_
      refine lv_goto (tgt := 92) hx hb dX5_readNumber_87 (by decide) ?_
      exact nb_ri hx hb hr hlocks hK hZ hZo hW  hf dX5_readNumber_92
  clear ek6
  refine lv_icmp_ge (tgt := 78) hx hb dX5_readNumber_13 (by decide) (fun c9 => ?_) (fun c9 => ?_)
  · rw [if_pos c9] at hf
    exact w7 ()  _ _ _ hf hW (lv_sub hl [0, 3, 4] rfl)
  · rw [if_neg c9] at hf
    refine lv_aload_n hx hb dX5_readNumber_16 rfl (lv_at hl 0 rfl) ?_
    refine nb_get (C := RX5) (T := TX5) (N := 2) hx hb hts inT_X5 hown hK hW 2 rfl rfl 1 (by decide) (hts _ tw1_33) (fun _ h9 => h9) rfl (v := .int (σ3 2 1)) rfl dX5_readNumber_17 ?_
    refine lv_iload_n hx hb dX5_readNumber_20 rfl (lv_at hl 3 rfl) ?_
    refine lv_isub hx hb dX5_readNumber_21 ?_
    refine lv_iconst (v := (3 : Int32)) hx hb dX5_readNumber_22 (by decide) ?_
    refine lv_icmp_ge (tgt := 78) hx hb dX5_readNumber_23 (by decide) (fun c10 => ?_) (fun c10 => ?_)
    · rw [if_pos c10] at hf
      exact w7 ()  _ _ _ hf hW (lv_sub hl [0, 3, 4] rfl)
    · rw [if_neg c10] at hf
      refine lv_aload_n hx hb dX5_readNumber_26 rfl (lv_at hl 1 rfl) ?_
      refine lv_aload_n hx hb dX5_readNumber_27 rfl (lv_at hl 0 rfl) ?_
      refine nb_get (C := RX5) (T := TX5) (N := 2) hx hb hts inT_X5 hown hK hW 2 rfl rfl 1 (by decide) (hts _ tw1_33) (fun _ h9 => h9) rfl (v := .int (σ3 2 1)) rfl dX5_readNumber_28 ?_
      obtain ⟨g11, hf⟩ := nb_g_e hf
      refine nb_bald hx hb hK hW 1 rfl g11 dX5_readNumber_31 ?_
      refine lv_bipush (v := (48 : Int32)) hx hb dX5_readNumber_32 (by decide) ?_
      refine lv_icmp_lt (tgt := 78) hx hb dX5_readNumber_34 (by decide) (fun c12 => ?_) (fun c12 => ?_)
      · rw [if_pos c12] at hf
        exact w7 ()  _ _ _ hf hW (lv_sub hl [0, 3, 4] rfl)
      · rw [if_neg c12] at hf
        refine lv_aload_n hx hb dX5_readNumber_37 rfl (lv_at hl 1 rfl) ?_
        refine lv_aload_n hx hb dX5_readNumber_38 rfl (lv_at hl 0 rfl) ?_
        refine nb_get (C := RX5) (T := TX5) (N := 2) hx hb hts inT_X5 hown hK hW 2 rfl rfl 1 (by decide) (hts _ tw1_33) (fun _ h9 => h9) rfl (v := .int (σ3 2 1)) rfl dX5_readNumber_39 ?_
        obtain ⟨g13, hf⟩ := nb_g_e hf
        refine nb_bald hx hb hK hW 1 rfl g13 dX5_readNumber_42 ?_
        refine lv_bipush (v := (57 : Int32)) hx hb dX5_readNumber_43 (by decide) ?_
        refine lv_icmp_gt (tgt := 78) hx hb dX5_readNumber_45 (by decide) (fun c14 => ?_) (fun c14 => ?_)
        · rw [if_pos c14] at hf
          exact w7 ()  _ _ _ hf hW (lv_sub hl [0, 3, 4] rfl)
        · rw [if_neg c14] at hf
          refine lv_bipush (v := (10 : Int32)) hx hb dX5_readNumber_48 (by decide) ?_
          refine lv_iload hx hb dX5_readNumber_50 (lv_at hl 4 rfl) ?_
          refine lv_imul hx hb dX5_readNumber_52 ?_
          refine lv_aload_n hx hb dX5_readNumber_53 rfl (lv_at hl 1 rfl) ?_
          refine lv_aload_n hx hb dX5_readNumber_54 rfl (lv_at hl 0 rfl) ?_
          refine nb_get (C := RX5) (T := TX5) (N := 2) hx hb hts inT_X5 hown hK hW 2 rfl rfl 1 (by decide) (hts _ tw1_33) (fun _ h9 => h9) rfl (v := .int (σ3 2 1)) rfl dX5_readNumber_55 ?_
          obtain ⟨g15, hf⟩ := nb_g_e hf
          refine nb_bald hx hb hK hW 1 rfl g15 dX5_readNumber_58 ?_
          refine lv_bipush (v := (48 : Int32)) hx hb dX5_readNumber_59 (by decide) ?_
          refine lv_isub hx hb dX5_readNumber_61 ?_
          refine lv_iadd hx hb dX5_readNumber_62 ?_
          obtain ⟨x16, ex16, hf⟩ := nb_let_e hf
          refine nb_nami ex16 ?_
          refine lv_istore (lv' := [(4, .int x16), (0, .ref (G.2.1 2)), (1, .ref (G.2.1 1)), (2, .int a1), (3, .int x1)]) hx hb dX5_readNumber_63 hl (by decide) rfl (fun ls hl => ?_)
          refine lv_aload_n hx hb dX5_readNumber_65 rfl (lv_at hl 1 rfl) ?_
          refine lv_dup hx hb dX5_readNumber_66 rfl ?_
          refine nb_get (C := RX5) (T := TX5) (N := 2) hx hb hts inT_X5 hown hK hW 2 rfl rfl 1 (by decide) (hts _ tw1_33) (fun _ h9 => h9) rfl (v := .int (σ3 2 1)) rfl dX5_readNumber_67 ?_
          refine lv_iconst (v := (1 : Int32)) hx hb dX5_readNumber_70 (by decide) ?_
          refine lv_iadd hx hb dX5_readNumber_71 ?_
          obtain ⟨σ17, eσ17, hf⟩ := nb_let_e hf
          refine nb_put (C := RX5) (T := TX5) (N := 2) hx hb hts inT_X5 hown hK tyX5 tyX5_ok nmX5 hinj hW 2 rfl rfl 1 (by decide) (hts _ tw1_33) (fun _ h9 => h9) rfl (ty := .int) (by decide +kernel) rfl rfl rfl (x := ((σ3 2 1) + (1 : Int32))) (by show Value.int _ = _; rw [nb_st_s]) eσ17 dX5_readNumber_72 (fun H locs hW => ?_)
          refine lv_goto (tgt := 8) hx hb dX5_readNumber_75 (by decide) ?_
          exact ih5 _ _ hf _ _ _ hW (lv_sub hl [1, 2, 3, 4, 0] rfl)
def fX5_readNumbers (N : Nat) (σ : nb_St) (a1 : Int32) (a2 : Int32) : Option (Int32 × nb_St) :=
  nb_g (nb_in a2 8) (
  nb_let (nb_tab0 (nb_ix a2)) fun x2 =>
  nb_let (nb_st σ 2 1 ((σ 2 1) + (1 : Int32))) fun σ3 =>
  nb_lp2 (R := (Int32 × nb_St)) (fun ag6 (x4 : Int32) (σ5 : nb_St) =>
  (if x2 ≤ x4 then
  some ((1 : Int32), σ5)
  else
  nb_b2 (fX5_readNumber N σ5 a1) fun r10 σ11 =>
  nb_let (((4 : Int32) * a2) + x4) fun x12 =>
  nb_g (nb_in x12 32) (
  nb_let (fun (_u : Unit) =>
  some ((0 : Int32), σ11)) fun k14 =>
  (if r10 < (nb_tab1 (nb_ix x12)) then
  k14 ()
  else
  nb_g (nb_in x12 32) (
  (if r10 ≤ (nb_tab2 (nb_ix x12)) then
  nb_g (nb_in x4 4) (
  nb_let (nb_st σ11 3 (nb_ix x4) r10) fun σ20 =>
  nb_let (fun (v23 : Int32) =>
  nb_let (fun (_u : Unit) =>
  some ((0 : Int32), σ20)) fun k24 =>
  (if a1 ≤ (σ20 2 1) then
  k24 ()
  else
  nb_g (nb_in (σ20 2 1) 400) (
  (if (σ20 1 (nb_ix (σ20 2 1))) = v23 then
  nb_let (nb_st σ20 2 1 ((σ20 2 1) + (1 : Int32))) fun σ29 =>
  ag6 (x4 + 1) σ29
  else
  k24 ())))) fun k21 =>
  (if x4 = (x2 - (1 : Int32)) then
  k21 (59 : Int32)
  else
  k21 (44 : Int32)))
  else
  k14 ())))))) N (0 : Int32) σ3)
def rmX5_readNumbers : Room := { frames := 1, cells := 0, slots := 0, locals := 24 }
def vsX5_readNumbers : List Cond := .code yX5_readNumbers cX5_readNumbers 9 (some .boolean) :: xT
set_option maxHeartbeats 4000000 in
set_option maxRecDepth 100000 in
theorem c_X5_readNumbers (l : Launch) {G : nb_G} {tb : Nat → Nat} (hinj : nb_inj xc_sh G.2.1) (hZo : nb_Zok (nb_A xc_sh G.2.1) (xc_Z (nb_A xc_sh G.2.1) tb)) {N : Nat} {σ : nb_St} {a1 : Int32} {a2 : Int32} {ro : Int32} {σo : nb_St} (hf : fX5_readNumbers N σ a1 a2 = some (ro, σo))  : Met l yX5_readNumbers vsX5_readNumbers rmX5_readNumbers (nb_Pc G xc_sh (xc_Z (nb_A xc_sh G.2.1) tb) σ [.ref (G.2.1 2), .ref (G.2.1 1), .int a1, .int a2]) (nb_Qi G xc_sh (xc_Z (nb_A xc_sh G.2.1) tb) ro σo) 0 0 (nb_A xc_sh G.2.1) := by
  refine Met.ofW (cc := cX5_readNumbers) (maxL := 9) (ret := (some .boolean)) (by decide) rfl ?_
  intro p e s m args below meth c s₁ B hml hv
  obtain ⟨rfl, hP, hK, hZ⟩ := hv
  have hx := B.exec
  have hb := B.bytes
  have hr := B.returns
  have hts : ∀ w ∈ xT, w.before _ s = true := fun w h9 => atoms_spec (ws := vsX5_readNumbers) B.pre w (List.mem_cons_of_mem _ h9)
  have hown : s.vm.findClass RX5 = some m.cls := findClass_of_methodNamed B.named
  have hlocks := B.notSynchronized
  have hW : nb_W G xc_sh s.heap σ s.heap [] := ⟨hP, va_S.rf⟩
  have hl := lv_entry ([.ref (G.2.1 2), .ref (G.2.1 1), .int a1, .int a2]) (n := 9) (Nat.le_of_ble_eq_true rfl)
  rw [lg_entry_eq]
  generalize (lg_sl ([.ref (G.2.1 2), .ref (G.2.1 1), .int a1, .int a2]) ++ List.replicate (9 - (lg_sl ([.ref (G.2.1 2), .ref (G.2.1 1), .int a1, .int a2])).length) Slot.unset).toArray = ls at hl ⊢
  have hl : lv_has ls 9 [(0, .ref (G.2.1 2)), (1, .ref (G.2.1 1)), (2, .int a1), (3, .int a2)] := hl
  show W p l e rmX5_readNumbers s m ([.ref (G.2.1 2), .ref (G.2.1 1), .int a1, .int a2]).toArray below meth c s.heap [] 0 0 (MQ below (nb_Qi G xc_sh (xc_Z (nb_A xc_sh G.2.1) tb) ro σo) ([.ref (G.2.1 2), .ref (G.2.1 1), .int a1, .int a2]).toArray s 0 0 (nb_A xc_sh G.2.1)) (F0 m 0 ls [])
  generalize hargs : ([.ref (G.2.1 2), .ref (G.2.1 1), .int a1, .int a2] : List Value).toArray = args at hts ⊢
  unfold fX5_readNumbers at hf
  obtain ⟨H, eH⟩ : ∃ H, H = s.heap := ⟨_, rfl⟩
  obtain ⟨locs, eL⟩ : ∃ L : List Loc, L = [] := ⟨_, rfl⟩
  have hW : nb_W G xc_sh s.heap σ H locs := by rw [eH, eL]; exact hW
  suffices hgo : W p l e rmX5_readNumbers s m args below meth c H locs 0 0 (MQ below (nb_Qi G xc_sh (xc_Z (nb_A xc_sh G.2.1) tb) ro σo) args s 0 0 (nb_A xc_sh G.2.1)) (F0 m 0 ls []) by rw [eH, eL] at hgo; exact hgo
  clear eH eL
  refine va_gets (C := "NobodyFirst$Reader") hx hb hZ.2.2.1.1 hW.2 hown (hts _ tw2_216) (fun _ h9 => h9) dX5_readNumbers_0 ?_
  refine lv_iload_n hx hb dX5_readNumbers_3 rfl (lv_at hl 3 rfl) ?_
  obtain ⟨g1, hf⟩ := nb_g_e hf
  refine va_ti hx hb hZ.2.2.1.2 hW.2 (nb_in_v g1) (v := .int (nb_tab0 (nb_ix a2))) rfl dX5_readNumbers_4 ?_
  obtain ⟨x2, ex2, hf⟩ := nb_let_e hf
  refine nb_nami ex2 ?_
  refine lv_istore (lv' := [(4, .int x2), (0, .ref (G.2.1 2)), (1, .ref (G.2.1 1)), (2, .int a1), (3, .int a2)]) hx hb dX5_readNumbers_5 hl (by decide) rfl (fun ls hl => ?_)
  refine lv_aload_n hx hb dX5_readNumbers_7 rfl (lv_at hl 1 rfl) ?_
  refine lv_dup hx hb dX5_readNumbers_8 rfl ?_
  refine nb_get (C := RX5) (T := TX5) (N := 2) hx hb hts inT_X5 hown hK hW 2 rfl rfl 1 (by decide) (hts _ tw1_33) (fun _ h9 => h9) rfl (v := .int (σ 2 1)) rfl dX5_readNumbers_9 ?_
  refine lv_iconst (v := (1 : Int32)) hx hb dX5_readNumbers_12 (by decide) ?_
  refine lv_iadd hx hb dX5_readNumbers_13 ?_
  obtain ⟨σ3, eσ3, hf⟩ := nb_let_e hf
  refine nb_put (C := RX5) (T := TX5) (N := 2) hx hb hts inT_X5 hown hK tyX5 tyX5_ok nmX5 hinj hW 2 rfl rfl 1 (by decide) (hts _ tw1_33) (fun _ h9 => h9) rfl (ty := .int) (by decide +kernel) rfl rfl rfl (x := ((σ 2 1) + (1 : Int32))) (by show Value.int _ = _; rw [nb_st_s]) eσ3 dX5_readNumbers_14 (fun H locs hW => ?_)
  refine lv_iconst (v := (0 : Int32)) hx hb dX5_readNumbers_17 (by decide) ?_
  refine lv_istore (lv' := [(5, .int (0 : Int32)), (4, .int x2), (0, .ref (G.2.1 2)), (1, .ref (G.2.1 1)), (2, .int a1), (3, .int a2)]) hx hb dX5_readNumbers_18 hl (by decide) rfl (fun ls hl => ?_)
  refine nb_w2 (P := fun (x4 : Int32) (σ5 : nb_St) => ∀ (H : Heap) (locs : List Loc) (ls : Array Slot), nb_W G xc_sh s.heap σ5 H locs → lv_has ls 9 [(0, .ref (G.2.1 2)), (1, .ref (G.2.1 1)), (2, .int a1), (3, .int a2), (4, .int x2), (5, .int x4)] → W p l e rmX5_readNumbers s m args below meth c H locs 0 0 (MQ below (nb_Qi G xc_sh (xc_Z (nb_A xc_sh G.2.1) tb) ro σo) args s 0 0 (nb_A xc_sh G.2.1)) (F0 m 20 ls [])) ?_ N _ _ hf H locs ls hW (lv_sub hl [2, 3, 4, 5, 1, 0] rfl)
  intro ag6 ih7 x4 σ5 hf H locs ls hW hl
  refine lv_iload hx hb dX5_readNumbers_20 (lv_at hl 5 rfl) ?_
  refine lv_iload hx hb dX5_readNumbers_22 (lv_at hl 4 rfl) ?_
  refine lv_icmp_ge (tgt := 131) hx hb dX5_readNumbers_24 (by decide) (fun c8 => ?_) (fun c8 => ?_)
  · rw [if_pos c8] at hf
    refine lv_iconst (v := (1 : Int32)) hx hb dX5_readNumbers_131 (by decide) ?_
    exact nb_rz hx hb hr hlocks hK hZ hZo hW rfl hf dX5_readNumbers_132
  · rw [if_neg c8] at hf
    refine lv_aload_n hx hb dX5_readNumbers_27 rfl (lv_at hl 0 rfl) ?_
    refine lv_aload_n hx hb dX5_readNumbers_28 rfl (lv_at hl 1 rfl) ?_
    refine lv_iload_n hx hb dX5_readNumbers_29 rfl (lv_at hl 2 rfl) ?_
    obtain ⟨r10, σ11, hc9, hf⟩ := nb_b2_e hf
    refine nb_ci hW (va_runV (As := [.ref (G.2.1 1), .int a1]) (rest := []) ⟨hx, hb, hml, hown, hts⟩ (c_X5_readNumber l hinj hZo (N := N) hc9 ) (cwV 2 hts (xg_V tw2_218 tw2_220 tp1_1 tw1_2 tw2_221) rfl rfl rfl (by decide +kernel) ⟨Nat.le_of_ble_eq_true rfl, Nat.le_of_ble_eq_true rfl⟩) (nb_preV hK hZ hZo hW (k := 2) rfl rfl) rfl rfl hl.1 rfl (lv_room (Nat.le_of_ble_eq_true rfl)) dX5_readNumbers_30 ⟨Nat.zero_le _, Nat.zero_le _⟩) (fun H locs hW => ?_)
    refine lv_istore (lv' := [(6, .int r10), (0, .ref (G.2.1 2)), (1, .ref (G.2.1 1)), (2, .int a1), (3, .int a2), (4, .int x2), (5, .int x4)]) hx hb dX5_readNumbers_33 hl (by decide) rfl (fun ls hl => ?_)
    refine lv_iconst (v := (4 : Int32)) hx hb dX5_readNumbers_35 (by decide) ?_
    refine lv_iload_n hx hb dX5_readNumbers_36 rfl (lv_at hl 4 rfl) ?_
    refine lv_imul hx hb dX5_readNumbers_37 ?_
    refine lv_iload hx hb dX5_readNumbers_38 (lv_at hl 6 rfl) ?_
    refine lv_iadd hx hb dX5_readNumbers_40 ?_
    obtain ⟨x12, ex12, hf⟩ := nb_let_e hf
    refine nb_nami ex12 ?_
    refine lv_istore (lv' := [(7, .int x12), (6, .int r10), (0, .ref (G.2.1 2)), (1, .ref (G.2.1 1)), (2, .int a1), (3, .int a2), (4, .int x2), (5, .int x4)]) hx hb dX5_readNumbers_41 hl (by decide) rfl (fun ls hl => ?_)
    refine lv_iload hx hb dX5_readNumbers_43 (lv_at hl 1 rfl) ?_
    refine va_gets (C := "NobodyFirst$Reader") hx hb hZ.2.2.2.1.1 hW.2 hown (hts _ tw2_222) (fun _ h9 => h9) dX5_readNumbers_45 ?_
    refine lv_iload hx hb dX5_readNumbers_48 (lv_at hl 0 rfl) ?_
    obtain ⟨g13, hf⟩ := nb_g_e hf
    refine va_ti hx hb hZ.2.2.2.1.2 hW.2 (nb_in_v g13) (v := .int (nb_tab1 (nb_ix x12))) rfl dX5_readNumbers_50 ?_
    obtain ⟨k14, ek14, hf⟩ := nb_let_e hf
    have w15 : ∀ (_u : Unit) (H : Heap) (locs : List Loc) (ls : Array Slot), k14 _u = some (ro, σo) → nb_W G xc_sh s.heap σ11 H locs → lv_has ls 9 [] → W p l e rmX5_readNumbers s m args below meth c H locs 0 0 (MQ below (nb_Qi G xc_sh (xc_Z (nb_A xc_sh G.2.1) tb) ro σo) args s 0 0 (nb_A xc_sh G.2.1)) (F0 m 65 ls []) := by
      intro _u H locs ls hf hW hl
      have hf := (congrFun ek14 _u).symm.trans hf
      refine lv_iconst (v := (0 : Int32)) hx hb dX5_readNumbers_65 (by decide) ?_
      exact nb_rz hx hb hr hlocks hK hZ hZo hW rfl hf dX5_readNumbers_66
    clear ek14
    refine lv_icmp_lt (tgt := 65) hx hb dX5_readNumbers_51 (by decide) (fun c16 => ?_) (fun c16 => ?_)
    · rw [if_pos c16] at hf
      exact w15 ()  _ _ _ hf hW (lv_sub hl [] rfl)
    · rw [if_neg c16] at hf
      refine lv_iload hx hb dX5_readNumbers_54 (lv_at hl 1 rfl) ?_
      refine va_gets (C := "NobodyFirst$Reader") hx hb hZ.2.2.2.2.1.1 hW.2 hown (hts _ tw2_224) (fun _ h9 => h9) dX5_readNumbers_56 ?_
      refine lv_iload hx hb dX5_readNumbers_59 (lv_at hl 0 rfl) ?_
      obtain ⟨g17, hf⟩ := nb_g_e hf
      refine va_ti hx hb hZ.2.2.2.2.1.2 hW.2 (nb_in_v g17) (v := .int (nb_tab2 (nb_ix x12))) rfl dX5_readNumbers_61 ?_
      refine lv_icmp_le (tgt := 67) hx hb dX5_readNumbers_62 (by decide) (fun c18 => ?_) (fun c18 => ?_)
      · rw [if_pos c18] at hf
        refine lv_aload_n hx hb dX5_readNumbers_67 rfl (lv_at hl 2 rfl) ?_
        refine nb_get (C := RX5) (T := TX5) (N := 2) hx hb hts inT_X5 hown hK hW 2 rfl rfl 0 (by decide) (hts _ tw1_32) (fun _ h9 => h9) rfl (v := .ref (G.2.1 3)) rfl dX5_readNumbers_68 ?_
        refine lv_iload hx hb dX5_readNumbers_71 (lv_at hl 7 rfl) ?_
        refine lv_iload hx hb dX5_readNumbers_73 (lv_at hl 1 rfl) ?_
        obtain ⟨g19, hf⟩ := nb_g_e hf
        obtain ⟨σ20, eσ20, hf⟩ := nb_let_e hf
        refine nb_iast hx hb hK hinj hW 3 rfl g19 eσ20 dX5_readNumbers_75 (fun H locs hW => ?_)
        refine lv_iload hx hb dX5_readNumbers_76 (lv_at hl 7 rfl) ?_
        refine lv_iload hx hb dX5_readNumbers_78 (lv_at hl 6 rfl) ?_
        refine lv_iconst (v := (1 : Int32)) hx hb dX5_readNumbers_80 (by decide) ?_
        refine lv_isub hx hb dX5_readNumbers_81 ?_
        obtain ⟨k21, ek21, hf⟩ := nb_let_e hf
        have w22 : ∀ (v23 : Int32) (H : Heap) (locs : List Loc) (ls : Array Slot), k21 v23 = some (ro, σo) → nb_W G xc_sh s.heap σ20 H locs → lv_has ls 9 [(0, .ref (G.2.1 2)), (1, .ref (G.2.1 1)), (2, .int a1), (3, .int a2), (4, .int x2), (5, .int x4)] → W p l e rmX5_readNumbers s m args below meth c H locs 0 0 (MQ below (nb_Qi G xc_sh (xc_Z (nb_A xc_sh G.2.1) tb) ro σo) args s 0 0 (nb_A xc_sh G.2.1)) (F0 m 92 ls [.int v23]) := by
          intro v23 H locs ls hf hW hl
          have hf := (congrFun ek21 v23).symm.trans hf
          refine lv_istore (lv' := [(8, .int v23), (0, .ref (G.2.1 2)), (1, .ref (G.2.1 1)), (2, .int a1), (3, .int a2), (4, .int x2), (5, .int x4)]) hx hb dX5_readNumbers_92 hl (by decide) rfl (fun ls hl => ?_)
          refine lv_aload_n hx hb dX5_readNumbers_94 rfl (lv_at hl 1 rfl) ?_
          refine nb_get (C := RX5) (T := TX5) (N := 2) hx hb hts inT_X5 hown hK hW 2 rfl rfl 1 (by decide) (hts _ tw1_33) (fun _ h9 => h9) rfl (v := .int (σ20 2 1)) rfl dX5_readNumbers_95 ?_
          refine lv_iload_n hx hb dX5_readNumbers_98 rfl (lv_at hl 3 rfl) ?_
          obtain ⟨k24, ek24, hf⟩ := nb_let_e hf
          have w25 : ∀ (_u : Unit) (H : Heap) (locs : List Loc) (ls : Array Slot), k24 _u = some (ro, σo) → nb_W G xc_sh s.heap σ20 H locs → lv_has ls 9 [] → W p l e rmX5_readNumbers s m args below meth c H locs 0 0 (MQ below (nb_Qi G xc_sh (xc_Z (nb_A xc_sh G.2.1) tb) ro σo) args s 0 0 (nb_A xc_sh G.2.1)) (F0 m 113 ls []) := by
            intro _u H locs ls hf hW hl
            have hf := (congrFun ek24 _u).symm.trans hf
            refine lv_iconst (v := (0 : Int32)) hx hb dX5_readNumbers_113 (by decide) ?_
            exact nb_rz hx hb hr hlocks hK hZ hZo hW rfl hf dX5_readNumbers_114
          clear ek24
          refine lv_icmp_ge (tgt := 113) hx hb dX5_readNumbers_99 (by decide) (fun c26 => ?_) (fun c26 => ?_)
          · rw [if_pos c26] at hf
            exact w25 ()  _ _ _ hf hW (lv_sub hl [] rfl)
          · rw [if_neg c26] at hf
            refine lv_aload_n hx hb dX5_readNumbers_102 rfl (lv_at hl 2 rfl) ?_
            refine lv_aload_n hx hb dX5_readNumbers_103 rfl (lv_at hl 1 rfl) ?_
            refine nb_get (C := RX5) (T := TX5) (N := 2) hx hb hts inT_X5 hown hK hW 2 rfl rfl 1 (by decide) (hts _ tw1_33) (fun _ h9 => h9) rfl (v := .int (σ20 2 1)) rfl dX5_readNumbers_104 ?_
            obtain ⟨g27, hf⟩ := nb_g_e hf
            refine nb_bald hx hb hK hW 1 rfl g27 dX5_readNumbers_107 ?_
            refine lv_iload hx hb dX5_readNumbers_108 (lv_at hl 0 rfl) ?_
            refine lv_icmp_eq (tgt := 115) hx hb dX5_readNumbers_110 (by decide) (fun c28 => ?_) (fun c28 => ?_)
            · rw [if_pos c28] at hf
              refine lv_aload_n hx hb dX5_readNumbers_115 rfl (lv_at hl 1 rfl) ?_
              refine lv_dup hx hb dX5_readNumbers_116 rfl ?_
              refine nb_get (C := RX5) (T := TX5) (N := 2) hx hb hts inT_X5 hown hK hW 2 rfl rfl 1 (by decide) (hts _ tw1_33) (fun _ h9 => h9) rfl (v := .int (σ20 2 1)) rfl dX5_readNumbers_117 ?_
              refine lv_iconst (v := (1 : Int32)) hx hb dX5_readNumbers_120 (by decide) ?_
              refine lv_iadd hx hb dX5_readNumbers_121 ?_
              obtain ⟨σ29, eσ29, hf⟩ := nb_let_e hf
              refine nb_put (C := RX5) (T := TX5) (N := 2) hx hb hts inT_X5 hown hK tyX5 tyX5_ok nmX5 hinj hW 2 rfl rfl 1 (by decide) (hts _ tw1_33) (fun _ h9 => h9) rfl (ty := .int) (by decide +kernel) rfl rfl rfl (x := ((σ20 2 1) + (1 : Int32))) (by show Value.int _ = _; rw [nb_st_s]) eσ29 dX5_readNumbers_122 (fun H locs hW => ?_)
              refine lv_iinc (v := (x4 + 1)) (lv' := [(5, .int (x4 + 1)), (8, .int v23), (0, .ref (G.2.1 2)), (1, .ref (G.2.1 1)), (2, .int a1), (3, .int a2), (4, .int x2)]) hx hb dX5_readNumbers_125 hl (k := 6) rfl rfl (by decide) rfl (fun ls hl => ?_)
              refine lv_goto (tgt := 20) hx hb dX5_readNumbers_128 (by decide) ?_
              exact ih7 _ _ hf _ _ _ hW (lv_sub hl [2, 3, 4, 5, 6, 0] rfl)
            · rw [if_neg c28] at hf
              exact w25 ()  _ _ _ hf hW (lv_sub hl [] rfl)
        clear ek21
        refine lv_icmp_ne (tgt := 90) hx hb dX5_readNumbers_82 (by decide) (fun c30 => ?_) (fun c30 => ?_)
        · rw [if_neg c30] at hf
          refine lv_bipush (v := (44 : Int32)) hx hb dX5_readNumbers_90 (by decide) ?_
          exact w22 _ _ _ _ hf hW (lv_sub hl [2, 3, 4, 5, 6, 7] rfl)
        · rw [if_pos c30] at hf
          refine lv_bipush (v := (59 : Int32)) hx hb dX5_readNumbers_85 (by decide) ?_
          refine lv_goto (tgt := 92) hx hb dX5_readNumbers_87 (by decide) ?_
          exact w22 _ _ _ _ hf hW (lv_sub hl [2, 3, 4, 5, 6, 7] rfl)
      · rw [if_neg c18] at hf
        exact w15 ()  _ _ _ hf hW (lv_sub hl [] rfl)
def fX5_enter (N : Nat) (σ : nb_St) (a0 : Int32) (q1 : Nat) : Option (Int32 × nb_St) :=
  nb_let a0 fun y1 =>
  (if y1 = 0 then
  nb_g (nb_in (0 : Int32) 4) (
  nb_g (nb_in (1 : Int32) 4) (
  nb_g (nb_in (2 : Int32) 4) (
  nb_g (nb_in (3 : Int32) 4) (
  nb_b2 (fX4_addGuest N σ q1 (σ 3 (nb_ix (0 : Int32))) (σ 3 (nb_ix (1 : Int32))) (σ 3 (nb_ix (2 : Int32))) (σ 3 (nb_ix (3 : Int32)))) fun r8 σ9 =>
  nb_g (nb_01 r8) (
  some (r8, σ9))))))
  else if y1 = 1 then
  nb_g (nb_in (0 : Int32) 4) (
  nb_g (nb_in (1 : Int32) 4) (
  nb_b2 (fX6_addSign N σ (q1 + 5) (σ 3 (nb_ix (0 : Int32))) (σ 3 (nb_ix (1 : Int32)))) fun r15 σ16 =>
  nb_g (nb_01 r15) (
  some (r15, σ16))))
  else if y1 = 2 then
  nb_g (nb_in (0 : Int32) 4) (
  nb_b2 (fX6_addWord N σ (q1 + 5) (σ 3 (nb_ix (0 : Int32)))) fun r21 σ22 =>
  nb_g (nb_01 r21) (
  some (r21, σ22)))
  else if y1 = 3 then
  nb_g (nb_in (0 : Int32) 4) (
  nb_g (nb_in (1 : Int32) 4) (
  nb_b2 (fX4_setHall N σ q1 (σ 3 (nb_ix (0 : Int32))) (σ 3 (nb_ix (1 : Int32)))) fun r28 σ29 =>
  nb_g (nb_01 r28) (
  some (r28, σ29))))
  else if y1 = 4 then
  nb_g (nb_in (0 : Int32) 4) (
  nb_b2 (fX4_setEnd N σ q1 (σ 3 (nb_ix (0 : Int32)))) fun r34 σ35 =>
  nb_g (nb_01 r34) (
  some (r34, σ35)))
  else if y1 = 5 then
  nb_g (nb_in (0 : Int32) 4) (
  nb_g (nb_in (1 : Int32) 4) (
  nb_b2 (fX4_addOffer N σ q1 (σ 3 (nb_ix (0 : Int32))) (σ 3 (nb_ix (1 : Int32)))) fun r41 σ42 =>
  nb_g (nb_01 r41) (
  some (r41, σ42))))
  else if y1 = 6 then
  nb_g (nb_in (0 : Int32) 4) (
  nb_g (nb_in (1 : Int32) 4) (
  nb_g (nb_in (2 : Int32) 4) (
  nb_b2 (fX4_setCustom N σ q1 (σ 3 (nb_ix (0 : Int32))) (σ 3 (nb_ix (1 : Int32))) (σ 3 (nb_ix (2 : Int32)))) fun r49 σ50 =>
  nb_g (nb_01 r49) (
  some (r49, σ50)))))
  else if y1 = 7 then
  nb_g (nb_in (0 : Int32) 4) (
  nb_g (nb_in (1 : Int32) 4) (
  nb_g (nb_in (2 : Int32) 4) (
  nb_b2 (fX4_addLook N σ q1 (σ 3 (nb_ix (0 : Int32))) (σ 3 (nb_ix (1 : Int32))) (σ 3 (nb_ix (2 : Int32)))) fun r57 σ58 =>
  nb_g (nb_01 r57) (
  some (r57, σ58)))))
  else 
  some ((0 : Int32), σ))
def rmX5_enter : Room := { frames := 2, cells := 0, slots := 0, locals := 45 }
def vsX5_enter : List Cond := .code yX5_enter cX5_enter 3 (some .boolean) :: xT
set_option maxHeartbeats 4000000 in
set_option maxRecDepth 100000 in
theorem c_X5_enter (l : Launch) {G : nb_G} {tb : Nat → Nat} (hinj : nb_inj xc_sh G.2.1) (hZo : nb_Zok (nb_A xc_sh G.2.1) (xc_Z (nb_A xc_sh G.2.1) tb)) {N : Nat} {σ : nb_St} {a0 : Int32} {q1 : Nat} {ro : Int32} {σo : nb_St} (hf : fX5_enter N σ a0 q1 = some (ro, σo)) (hq1 : xc_pty q1 = true) : Met l yX5_enter vsX5_enter rmX5_enter (nb_Pc G xc_sh (xc_Z (nb_A xc_sh G.2.1) tb) σ [.ref (G.2.1 2), .int a0, .ref (G.2.1 q1)]) (nb_Qi G xc_sh (xc_Z (nb_A xc_sh G.2.1) tb) ro σo) 0 0 (nb_A xc_sh G.2.1) := by
  refine Met.ofW (cc := cX5_enter) (maxL := 3) (ret := (some .boolean)) (by decide) rfl ?_
  intro p e s m args below meth c s₁ B hml hv
  obtain ⟨rfl, hP, hK, hZ⟩ := hv
  have hx := B.exec
  have hb := B.bytes
  have hr := B.returns
  have hts : ∀ w ∈ xT, w.before _ s = true := fun w h9 => atoms_spec (ws := vsX5_enter) B.pre w (List.mem_cons_of_mem _ h9)
  have hown : s.vm.findClass RX5 = some m.cls := findClass_of_methodNamed B.named
  have hlocks := B.notSynchronized
  have hW : nb_W G xc_sh s.heap σ s.heap [] := ⟨hP, va_S.rf⟩
  have hl := lv_entry ([.ref (G.2.1 2), .int a0, .ref (G.2.1 q1)]) (n := 3) (Nat.le_of_ble_eq_true rfl)
  rw [lg_entry_eq]
  generalize (lg_sl ([.ref (G.2.1 2), .int a0, .ref (G.2.1 q1)]) ++ List.replicate (3 - (lg_sl ([.ref (G.2.1 2), .int a0, .ref (G.2.1 q1)])).length) Slot.unset).toArray = ls at hl ⊢
  have hl : lv_has ls 3 [(0, .ref (G.2.1 2)), (1, .int a0), (2, .ref (G.2.1 q1))] := hl
  show W p l e rmX5_enter s m ([.ref (G.2.1 2), .int a0, .ref (G.2.1 q1)]).toArray below meth c s.heap [] 0 0 (MQ below (nb_Qi G xc_sh (xc_Z (nb_A xc_sh G.2.1) tb) ro σo) ([.ref (G.2.1 2), .int a0, .ref (G.2.1 q1)]).toArray s 0 0 (nb_A xc_sh G.2.1)) (F0 m 0 ls [])
  generalize hargs : ([.ref (G.2.1 2), .int a0, .ref (G.2.1 q1)] : List Value).toArray = args at hts ⊢
  unfold fX5_enter at hf
  obtain ⟨H, eH⟩ : ∃ H, H = s.heap := ⟨_, rfl⟩
  obtain ⟨locs, eL⟩ : ∃ L : List Loc, L = [] := ⟨_, rfl⟩
  have hW : nb_W G xc_sh s.heap σ H locs := by rw [eH, eL]; exact hW
  suffices hgo : W p l e rmX5_enter s m args below meth c H locs 0 0 (MQ below (nb_Qi G xc_sh (xc_Z (nb_A xc_sh G.2.1) tb) ro σo) args s 0 0 (nb_A xc_sh G.2.1)) (F0 m 0 ls []) by rw [eH, eL] at hgo; exact hgo
  clear eH eL
  refine lv_iload_n hx hb dX5_enter_0 rfl (lv_at hl 1 rfl) ?_
  obtain ⟨y1, ey1, hf⟩ := nb_let_e hf
  refine nb_nami ey1 ?_
  by_cases h2 : y1 = 0
  · rw [if_pos h2] at hf
    refine lv_tableIn (tgt := 48) (off := 47) hx hb dX5_enter_1 (by rw [h2]; decide) (by rw [h2]; decide) (by rw [h2]; decide) (by decide) ?_
    refine lv_aload_n hx hb dX5_enter_48 rfl (lv_at hl 2 rfl) ?_
    refine lv_aload_n hx hb dX5_enter_49 rfl (lv_at hl 0 rfl) ?_
    refine nb_get (C := RX5) (T := TX5) (N := 2) hx hb hts inT_X5 hown hK hW 2 rfl rfl 0 (by decide) (hts _ tw1_32) (fun _ h9 => h9) rfl (v := .ref (G.2.1 3)) rfl dX5_enter_50 ?_
    refine lv_iconst (v := (0 : Int32)) hx hb dX5_enter_53 (by decide) ?_
    obtain ⟨g3, hf⟩ := nb_g_e hf
    refine nb_iald hx hb hK hW 3 rfl g3 dX5_enter_54 ?_
    refine lv_aload_n hx hb dX5_enter_55 rfl (lv_at hl 0 rfl) ?_
    refine nb_get (C := RX5) (T := TX5) (N := 2) hx hb hts inT_X5 hown hK hW 2 rfl rfl 0 (by decide) (hts _ tw1_32) (fun _ h9 => h9) rfl (v := .ref (G.2.1 3)) rfl dX5_enter_56 ?_
    refine lv_iconst (v := (1 : Int32)) hx hb dX5_enter_59 (by decide) ?_
    obtain ⟨g4, hf⟩ := nb_g_e hf
    refine nb_iald hx hb hK hW 3 rfl g4 dX5_enter_60 ?_
    refine lv_aload_n hx hb dX5_enter_61 rfl (lv_at hl 0 rfl) ?_
    refine nb_get (C := RX5) (T := TX5) (N := 2) hx hb hts inT_X5 hown hK hW 2 rfl rfl 0 (by decide) (hts _ tw1_32) (fun _ h9 => h9) rfl (v := .ref (G.2.1 3)) rfl dX5_enter_62 ?_
    refine lv_iconst (v := (2 : Int32)) hx hb dX5_enter_65 (by decide) ?_
    obtain ⟨g5, hf⟩ := nb_g_e hf
    refine nb_iald hx hb hK hW 3 rfl g5 dX5_enter_66 ?_
    refine lv_aload_n hx hb dX5_enter_67 rfl (lv_at hl 0 rfl) ?_
    refine nb_get (C := RX5) (T := TX5) (N := 2) hx hb hts inT_X5 hown hK hW 2 rfl rfl 0 (by decide) (hts _ tw1_32) (fun _ h9 => h9) rfl (v := .ref (G.2.1 3)) rfl dX5_enter_68 ?_
    refine lv_iconst (v := (3 : Int32)) hx hb dX5_enter_71 (by decide) ?_
    obtain ⟨g6, hf⟩ := nb_g_e hf
    refine nb_iald hx hb hK hW 3 rfl g6 dX5_enter_72 ?_
    obtain ⟨r8, σ9, hc7, hf⟩ := nb_b2_e hf
    refine nb_ci hW (va_runV (As := [.int (σ 3 (nb_ix (0 : Int32))), .int (σ 3 (nb_ix (1 : Int32))), .int (σ 3 (nb_ix (2 : Int32))), .int (σ 3 (nb_ix (3 : Int32)))]) (rest := []) ⟨hx, hb, hml, hown, hts⟩ (c_X4_addGuest l hinj hZo (N := N) hc7 hq1) (cwV 4 hts (xg_V tw2_230 tw2_59 tw2_60 tw1_3 tw2_61) rfl rfl rfl (by decide +kernel) ⟨Nat.le_of_ble_eq_true rfl, Nat.le_of_ble_eq_true rfl⟩) (nb_preV hK hZ hZo hW (k := q1) (sx_pty_0 hq1) rfl) rfl rfl hl.1 rfl (lv_room (Nat.le_of_ble_eq_true rfl)) dX5_enter_73 ⟨Nat.zero_le _, Nat.zero_le _⟩) (fun H locs hW => ?_)
    obtain ⟨g10, hf⟩ := nb_g_e hf
    exact nb_rz hx hb hr hlocks hK hZ hZo hW (nb_01_n g10) hf dX5_enter_76
  rw [if_neg h2] at hf
  by_cases h11 : y1 = 1
  · rw [if_pos h11] at hf
    refine lv_tableIn (tgt := 77) (off := 76) hx hb dX5_enter_1 (by rw [h11]; decide) (by rw [h11]; decide) (by rw [h11]; decide) (by decide) ?_
    refine lv_aload_n hx hb dX5_enter_77 rfl (lv_at hl 2 rfl) ?_
    refine nb_getN (C := RX4) (T := TX4) (N := 18) (host := "NobodyFirst") hx hb hts inT_X4 hown hK hW q1 (sx_pty_0 hq1) rfl 5 (by decide) (va_Nw.use rfl (hZ.1 ("NobodyFirst$Reader", 57, "NobodyFirst$Party", "told", "LNobodyFirst$Told;", "NobodyFirst") (by decide +kernel))) (fun _ h9 => h9) rfl (v := .ref (G.2.1 (q1 + 5))) rfl dX5_enter_78 ?_
    refine lv_aload_n hx hb dX5_enter_81 rfl (lv_at hl 0 rfl) ?_
    refine nb_get (C := RX5) (T := TX5) (N := 2) hx hb hts inT_X5 hown hK hW 2 rfl rfl 0 (by decide) (hts _ tw1_32) (fun _ h9 => h9) rfl (v := .ref (G.2.1 3)) rfl dX5_enter_82 ?_
    refine lv_iconst (v := (0 : Int32)) hx hb dX5_enter_85 (by decide) ?_
    obtain ⟨g12, hf⟩ := nb_g_e hf
    refine nb_iald hx hb hK hW 3 rfl g12 dX5_enter_86 ?_
    refine lv_aload_n hx hb dX5_enter_87 rfl (lv_at hl 0 rfl) ?_
    refine nb_get (C := RX5) (T := TX5) (N := 2) hx hb hts inT_X5 hown hK hW 2 rfl rfl 0 (by decide) (hts _ tw1_32) (fun _ h9 => h9) rfl (v := .ref (G.2.1 3)) rfl dX5_enter_88 ?_
    refine lv_iconst (v := (1 : Int32)) hx hb dX5_enter_91 (by decide) ?_
    obtain ⟨g13, hf⟩ := nb_g_e hf
    refine nb_iald hx hb hK hW 3 rfl g13 dX5_enter_92 ?_
    obtain ⟨r15, σ16, hc14, hf⟩ := nb_b2_e hf
    refine nb_ci hW (va_runV (As := [.int (σ 3 (nb_ix (0 : Int32))), .int (σ 3 (nb_ix (1 : Int32)))]) (rest := []) ⟨hx, hb, hml, hown, hts⟩ (c_X6_addSign l hinj hZo (N := N) hc14 (x_tld_of hq1)) (cwV 2 hts (xg_V tw2_231 tw2_232 tw2_233 tw1_4 tw2_234) rfl rfl rfl (by decide +kernel) ⟨Nat.le_of_ble_eq_true rfl, Nat.le_of_ble_eq_true rfl⟩) (nb_preV hK hZ hZo hW (k := (q1 + 5)) (sx_pty_5 hq1) rfl) rfl rfl hl.1 rfl (lv_room (Nat.le_of_ble_eq_true rfl)) dX5_enter_93 ⟨Nat.zero_le _, Nat.zero_le _⟩) (fun H locs hW => ?_)
    obtain ⟨g17, hf⟩ := nb_g_e hf
    exact nb_rz hx hb hr hlocks hK hZ hZo hW (nb_01_n g17) hf dX5_enter_96
  rw [if_neg h11] at hf
  by_cases h18 : y1 = 2
  · rw [if_pos h18] at hf
    refine lv_tableIn (tgt := 97) (off := 96) hx hb dX5_enter_1 (by rw [h18]; decide) (by rw [h18]; decide) (by rw [h18]; decide) (by decide) ?_
    refine lv_aload_n hx hb dX5_enter_97 rfl (lv_at hl 2 rfl) ?_
    refine nb_getN (C := RX4) (T := TX4) (N := 18) (host := "NobodyFirst") hx hb hts inT_X4 hown hK hW q1 (sx_pty_0 hq1) rfl 5 (by decide) (va_Nw.use rfl (hZ.1 ("NobodyFirst$Reader", 57, "NobodyFirst$Party", "told", "LNobodyFirst$Told;", "NobodyFirst") (by decide +kernel))) (fun _ h9 => h9) rfl (v := .ref (G.2.1 (q1 + 5))) rfl dX5_enter_98 ?_
    refine lv_aload_n hx hb dX5_enter_101 rfl (lv_at hl 0 rfl) ?_
    refine nb_get (C := RX5) (T := TX5) (N := 2) hx hb hts inT_X5 hown hK hW 2 rfl rfl 0 (by decide) (hts _ tw1_32) (fun _ h9 => h9) rfl (v := .ref (G.2.1 3)) rfl dX5_enter_102 ?_
    refine lv_iconst (v := (0 : Int32)) hx hb dX5_enter_105 (by decide) ?_
    obtain ⟨g19, hf⟩ := nb_g_e hf
    refine nb_iald hx hb hK hW 3 rfl g19 dX5_enter_106 ?_
    obtain ⟨r21, σ22, hc20, hf⟩ := nb_b2_e hf
    refine nb_ci hW (va_runV (As := [.int (σ 3 (nb_ix (0 : Int32)))]) (rest := []) ⟨hx, hb, hml, hown, hts⟩ (c_X6_addWord l hinj hZo (N := N) hc20 (x_tld_of hq1)) (cwV 1 hts (xg_V tw2_235 tw2_236 tw2_237 tw1_4 tw2_238) rfl rfl rfl (by decide +kernel) ⟨Nat.le_of_ble_eq_true rfl, Nat.le_of_ble_eq_true rfl⟩) (nb_preV hK hZ hZo hW (k := (q1 + 5)) (sx_pty_5 hq1) rfl) rfl rfl hl.1 rfl (lv_room (Nat.le_of_ble_eq_true rfl)) dX5_enter_107 ⟨Nat.zero_le _, Nat.zero_le _⟩) (fun H locs hW => ?_)
    obtain ⟨g23, hf⟩ := nb_g_e hf
    exact nb_rz hx hb hr hlocks hK hZ hZo hW (nb_01_n g23) hf dX5_enter_110
  rw [if_neg h18] at hf
  by_cases h24 : y1 = 3
  · rw [if_pos h24] at hf
    refine lv_tableIn (tgt := 111) (off := 110) hx hb dX5_enter_1 (by rw [h24]; decide) (by rw [h24]; decide) (by rw [h24]; decide) (by decide) ?_
    refine lv_aload_n hx hb dX5_enter_111 rfl (lv_at hl 2 rfl) ?_
    refine lv_aload_n hx hb dX5_enter_112 rfl (lv_at hl 0 rfl) ?_
    refine nb_get (C := RX5) (T := TX5) (N := 2) hx hb hts inT_X5 hown hK hW 2 rfl rfl 0 (by decide) (hts _ tw1_32) (fun _ h9 => h9) rfl (v := .ref (G.2.1 3)) rfl dX5_enter_113 ?_
    refine lv_iconst (v := (0 : Int32)) hx hb dX5_enter_116 (by decide) ?_
    obtain ⟨g25, hf⟩ := nb_g_e hf
    refine nb_iald hx hb hK hW 3 rfl g25 dX5_enter_117 ?_
    refine lv_aload_n hx hb dX5_enter_118 rfl (lv_at hl 0 rfl) ?_
    refine nb_get (C := RX5) (T := TX5) (N := 2) hx hb hts inT_X5 hown hK hW 2 rfl rfl 0 (by decide) (hts _ tw1_32) (fun _ h9 => h9) rfl (v := .ref (G.2.1 3)) rfl dX5_enter_119 ?_
    refine lv_iconst (v := (1 : Int32)) hx hb dX5_enter_122 (by decide) ?_
    obtain ⟨g26, hf⟩ := nb_g_e hf
    refine nb_iald hx hb hK hW 3 rfl g26 dX5_enter_123 ?_
    obtain ⟨r28, σ29, hc27, hf⟩ := nb_b2_e hf
    refine nb_ci hW (va_runV (As := [.int (σ 3 (nb_ix (0 : Int32))), .int (σ 3 (nb_ix (1 : Int32)))]) (rest := []) ⟨hx, hb, hml, hown, hts⟩ (c_X4_setHall l hinj hZo (N := N) hc27 hq1) (cwV 2 hts (xg_V tw2_239 tw3_0 tw3_1 tw1_3 tw3_2) rfl rfl rfl (by decide +kernel) ⟨Nat.le_of_ble_eq_true rfl, Nat.le_of_ble_eq_true rfl⟩) (nb_preV hK hZ hZo hW (k := q1) (sx_pty_0 hq1) rfl) rfl rfl hl.1 rfl (lv_room (Nat.le_of_ble_eq_true rfl)) dX5_enter_124 ⟨Nat.zero_le _, Nat.zero_le _⟩) (fun H locs hW => ?_)
    obtain ⟨g30, hf⟩ := nb_g_e hf
    exact nb_rz hx hb hr hlocks hK hZ hZo hW (nb_01_n g30) hf dX5_enter_127
  rw [if_neg h24] at hf
  by_cases h31 : y1 = 4
  · rw [if_pos h31] at hf
    refine lv_tableIn (tgt := 128) (off := 127) hx hb dX5_enter_1 (by rw [h31]; decide) (by rw [h31]; decide) (by rw [h31]; decide) (by decide) ?_
    refine lv_aload_n hx hb dX5_enter_128 rfl (lv_at hl 2 rfl) ?_
    refine lv_aload_n hx hb dX5_enter_129 rfl (lv_at hl 0 rfl) ?_
    refine nb_get (C := RX5) (T := TX5) (N := 2) hx hb hts inT_X5 hown hK hW 2 rfl rfl 0 (by decide) (hts _ tw1_32) (fun _ h9 => h9) rfl (v := .ref (G.2.1 3)) rfl dX5_enter_130 ?_
    refine lv_iconst (v := (0 : Int32)) hx hb dX5_enter_133 (by decide) ?_
    obtain ⟨g32, hf⟩ := nb_g_e hf
    refine nb_iald hx hb hK hW 3 rfl g32 dX5_enter_134 ?_
    obtain ⟨r34, σ35, hc33, hf⟩ := nb_b2_e hf
    refine nb_ci hW (va_runV (As := [.int (σ 3 (nb_ix (0 : Int32)))]) (rest := []) ⟨hx, hb, hml, hown, hts⟩ (c_X4_setEnd l hinj hZo (N := N) hc33 hq1) (cwV 1 hts (xg_V tw3_3 tw3_4 tw3_5 tw1_3 tw3_6) rfl rfl rfl (by decide +kernel) ⟨Nat.le_of_ble_eq_true rfl, Nat.le_of_ble_eq_true rfl⟩) (nb_preV hK hZ hZo hW (k := q1) (sx_pty_0 hq1) rfl) rfl rfl hl.1 rfl (lv_room (Nat.le_of_ble_eq_true rfl)) dX5_enter_135 ⟨Nat.zero_le _, Nat.zero_le _⟩) (fun H locs hW => ?_)
    obtain ⟨g36, hf⟩ := nb_g_e hf
    exact nb_rz hx hb hr hlocks hK hZ hZo hW (nb_01_n g36) hf dX5_enter_138
  rw [if_neg h31] at hf
  by_cases h37 : y1 = 5
  · rw [if_pos h37] at hf
    refine lv_tableIn (tgt := 139) (off := 138) hx hb dX5_enter_1 (by rw [h37]; decide) (by rw [h37]; decide) (by rw [h37]; decide) (by decide) ?_
    refine lv_aload_n hx hb dX5_enter_139 rfl (lv_at hl 2 rfl) ?_
    refine lv_aload_n hx hb dX5_enter_140 rfl (lv_at hl 0 rfl) ?_
    refine nb_get (C := RX5) (T := TX5) (N := 2) hx hb hts inT_X5 hown hK hW 2 rfl rfl 0 (by decide) (hts _ tw1_32) (fun _ h9 => h9) rfl (v := .ref (G.2.1 3)) rfl dX5_enter_141 ?_
    refine lv_iconst (v := (0 : Int32)) hx hb dX5_enter_144 (by decide) ?_
    obtain ⟨g38, hf⟩ := nb_g_e hf
    refine nb_iald hx hb hK hW 3 rfl g38 dX5_enter_145 ?_
    refine lv_aload_n hx hb dX5_enter_146 rfl (lv_at hl 0 rfl) ?_
    refine nb_get (C := RX5) (T := TX5) (N := 2) hx hb hts inT_X5 hown hK hW 2 rfl rfl 0 (by decide) (hts _ tw1_32) (fun _ h9 => h9) rfl (v := .ref (G.2.1 3)) rfl dX5_enter_147 ?_
    refine lv_iconst (v := (1 : Int32)) hx hb dX5_enter_150 (by decide) ?_
    obtain ⟨g39, hf⟩ := nb_g_e hf
    refine nb_iald hx hb hK hW 3 rfl g39 dX5_enter_151 ?_
    obtain ⟨r41, σ42, hc40, hf⟩ := nb_b2_e hf
    refine nb_ci hW (va_runV (As := [.int (σ 3 (nb_ix (0 : Int32))), .int (σ 3 (nb_ix (1 : Int32)))]) (rest := []) ⟨hx, hb, hml, hown, hts⟩ (c_X4_addOffer l hinj hZo (N := N) hc40 hq1) (cwV 2 hts (xg_V tw3_7 tw3_8 tw3_9 tw1_3 tw3_10) rfl rfl rfl (by decide +kernel) ⟨Nat.le_of_ble_eq_true rfl, Nat.le_of_ble_eq_true rfl⟩) (nb_preV hK hZ hZo hW (k := q1) (sx_pty_0 hq1) rfl) rfl rfl hl.1 rfl (lv_room (Nat.le_of_ble_eq_true rfl)) dX5_enter_152 ⟨Nat.zero_le _, Nat.zero_le _⟩) (fun H locs hW => ?_)
    obtain ⟨g43, hf⟩ := nb_g_e hf
    exact nb_rz hx hb hr hlocks hK hZ hZo hW (nb_01_n g43) hf dX5_enter_155
  rw [if_neg h37] at hf
  by_cases h44 : y1 = 6
  · rw [if_pos h44] at hf
    refine lv_tableIn (tgt := 156) (off := 155) hx hb dX5_enter_1 (by rw [h44]; decide) (by rw [h44]; decide) (by rw [h44]; decide) (by decide) ?_
    refine lv_aload_n hx hb dX5_enter_156 rfl (lv_at hl 2 rfl) ?_
    refine lv_aload_n hx hb dX5_enter_157 rfl (lv_at hl 0 rfl) ?_
    refine nb_get (C := RX5) (T := TX5) (N := 2) hx hb hts inT_X5 hown hK hW 2 rfl rfl 0 (by decide) (hts _ tw1_32) (fun _ h9 => h9) rfl (v := .ref (G.2.1 3)) rfl dX5_enter_158 ?_
    refine lv_iconst (v := (0 : Int32)) hx hb dX5_enter_161 (by decide) ?_
    obtain ⟨g45, hf⟩ := nb_g_e hf
    refine nb_iald hx hb hK hW 3 rfl g45 dX5_enter_162 ?_
    refine lv_aload_n hx hb dX5_enter_163 rfl (lv_at hl 0 rfl) ?_
    refine nb_get (C := RX5) (T := TX5) (N := 2) hx hb hts inT_X5 hown hK hW 2 rfl rfl 0 (by decide) (hts _ tw1_32) (fun _ h9 => h9) rfl (v := .ref (G.2.1 3)) rfl dX5_enter_164 ?_
    refine lv_iconst (v := (1 : Int32)) hx hb dX5_enter_167 (by decide) ?_
    obtain ⟨g46, hf⟩ := nb_g_e hf
    refine nb_iald hx hb hK hW 3 rfl g46 dX5_enter_168 ?_
    refine lv_aload_n hx hb dX5_enter_169 rfl (lv_at hl 0 rfl) ?_
    refine nb_get (C := RX5) (T := TX5) (N := 2) hx hb hts inT_X5 hown hK hW 2 rfl rfl 0 (by decide) (hts _ tw1_32) (fun _ h9 => h9) rfl (v := .ref (G.2.1 3)) rfl dX5_enter_170 ?_
    refine lv_iconst (v := (2 : Int32)) hx hb dX5_enter_173 (by decide) ?_
    obtain ⟨g47, hf⟩ := nb_g_e hf
    refine nb_iald hx hb hK hW 3 rfl g47 dX5_enter_174 ?_
    obtain ⟨r49, σ50, hc48, hf⟩ := nb_b2_e hf
    refine nb_ci hW (va_runV (As := [.int (σ 3 (nb_ix (0 : Int32))), .int (σ 3 (nb_ix (1 : Int32))), .int (σ 3 (nb_ix (2 : Int32)))]) (rest := []) ⟨hx, hb, hml, hown, hts⟩ (c_X4_setCustom l hinj hZo (N := N) hc48 hq1) (cwV 3 hts (xg_V tw3_11 tw3_12 tw3_13 tw1_3 tw3_14) rfl rfl rfl (by decide +kernel) ⟨Nat.le_of_ble_eq_true rfl, Nat.le_of_ble_eq_true rfl⟩) (nb_preV hK hZ hZo hW (k := q1) (sx_pty_0 hq1) rfl) rfl rfl hl.1 rfl (lv_room (Nat.le_of_ble_eq_true rfl)) dX5_enter_175 ⟨Nat.zero_le _, Nat.zero_le _⟩) (fun H locs hW => ?_)
    obtain ⟨g51, hf⟩ := nb_g_e hf
    exact nb_rz hx hb hr hlocks hK hZ hZo hW (nb_01_n g51) hf dX5_enter_178
  rw [if_neg h44] at hf
  by_cases h52 : y1 = 7
  · rw [if_pos h52] at hf
    refine lv_tableIn (tgt := 179) (off := 178) hx hb dX5_enter_1 (by rw [h52]; decide) (by rw [h52]; decide) (by rw [h52]; decide) (by decide) ?_
    refine lv_aload_n hx hb dX5_enter_179 rfl (lv_at hl 2 rfl) ?_
    refine lv_aload_n hx hb dX5_enter_180 rfl (lv_at hl 0 rfl) ?_
    refine nb_get (C := RX5) (T := TX5) (N := 2) hx hb hts inT_X5 hown hK hW 2 rfl rfl 0 (by decide) (hts _ tw1_32) (fun _ h9 => h9) rfl (v := .ref (G.2.1 3)) rfl dX5_enter_181 ?_
    refine lv_iconst (v := (0 : Int32)) hx hb dX5_enter_184 (by decide) ?_
    obtain ⟨g53, hf⟩ := nb_g_e hf
    refine nb_iald hx hb hK hW 3 rfl g53 dX5_enter_185 ?_
    refine lv_aload_n hx hb dX5_enter_186 rfl (lv_at hl 0 rfl) ?_
    refine nb_get (C := RX5) (T := TX5) (N := 2) hx hb hts inT_X5 hown hK hW 2 rfl rfl 0 (by decide) (hts _ tw1_32) (fun _ h9 => h9) rfl (v := .ref (G.2.1 3)) rfl dX5_enter_187 ?_
    refine lv_iconst (v := (1 : Int32)) hx hb dX5_enter_190 (by decide) ?_
    obtain ⟨g54, hf⟩ := nb_g_e hf
    refine nb_iald hx hb hK hW 3 rfl g54 dX5_enter_191 ?_
    refine lv_aload_n hx hb dX5_enter_192 rfl (lv_at hl 0 rfl) ?_
    refine nb_get (C := RX5) (T := TX5) (N := 2) hx hb hts inT_X5 hown hK hW 2 rfl rfl 0 (by decide) (hts _ tw1_32) (fun _ h9 => h9) rfl (v := .ref (G.2.1 3)) rfl dX5_enter_193 ?_
    refine lv_iconst (v := (2 : Int32)) hx hb dX5_enter_196 (by decide) ?_
    obtain ⟨g55, hf⟩ := nb_g_e hf
    refine nb_iald hx hb hK hW 3 rfl g55 dX5_enter_197 ?_
    obtain ⟨r57, σ58, hc56, hf⟩ := nb_b2_e hf
    refine nb_ci hW (va_runV (As := [.int (σ 3 (nb_ix (0 : Int32))), .int (σ 3 (nb_ix (1 : Int32))), .int (σ 3 (nb_ix (2 : Int32)))]) (rest := []) ⟨hx, hb, hml, hown, hts⟩ (c_X4_addLook l hinj hZo (N := N) hc56 hq1) (cwV 3 hts (xg_V tw3_16 tw3_17 tw3_18 tw1_3 tw3_19) rfl rfl rfl (by decide +kernel) ⟨Nat.le_of_ble_eq_true rfl, Nat.le_of_ble_eq_true rfl⟩) (nb_preV hK hZ hZo hW (k := q1) (sx_pty_0 hq1) rfl) rfl rfl hl.1 rfl (lv_room (Nat.le_of_ble_eq_true rfl)) dX5_enter_198 ⟨Nat.zero_le _, Nat.zero_le _⟩) (fun H locs hW => ?_)
    obtain ⟨g59, hf⟩ := nb_g_e hf
    exact nb_rz hx hb hr hlocks hK hZ hZo hW (nb_01_n g59) hf dX5_enter_201
  rw [if_neg h52] at hf
  refine lv_tableOut (tgt := 202) hx hb dX5_enter_1 (by exact nb_out0_7 h2 h11 h18 h24 h31 h37 h44 h52) (by decide) ?_
  refine lv_iconst (v := (0 : Int32)) hx hb dX5_enter_202 (by decide) ?_
  exact nb_rz hx hb hr hlocks hK hZ hZo hW rfl hf dX5_enter_203
def fX5_firstFault (N : Nat) (σ : nb_St) (a1 : Int32) (q2 : Nat) : Option (Int32 × nb_St) :=
  nb_b (fX4_clear N σ q2) fun σ2 =>
  nb_let (nb_st σ2 2 1 (0 : Int32)) fun σ3 =>
  nb_lp2 (R := (Int32 × nb_St)) (fun ag6 (x4 : Int32) (σ5 : nb_St) =>
  nb_let (fun (_u : Unit) =>
  some ((-4 : Int32), σ5)) fun k8 =>
  (if a1 < x4 then
  k8 ()
  else
  (if a1 ≤ (σ5 2 1) then
  k8 ()
  else
  nb_let (σ5 2 1) fun x12 =>
  nb_g (nb_in x12 400) (
  nb_b (fJ0_indexOf_0f7a4 N σ5 (((((σ5 1 (nb_ix x12)) &&& (255 : Int32))).toUInt32 % 65536).toInt32)) fun r15 =>
  nb_let (fun (σ18 : nb_St) =>
  some (x12, σ18)) fun k16 =>
  (if r15 < 0 then
  k16 σ5
  else
  nb_b2 (fX5_readNumbers N σ5 a1 r15) fun r21 σ22 =>
  (if r21 = 0 then
  k16 σ22
  else
  nb_b2 (fX5_enter N σ22 r15 q2) fun r25 σ26 =>
  (if r25 = 0 then
  k16 σ26
  else
  ag6 (x4 + 1) σ26))))))) N (0 : Int32) σ3
def rmX5_firstFault : Room := { frames := 4, cells := 0, slots := 0, locals := 91 }
def vsX5_firstFault : List Cond := .code yX5_firstFault cX5_firstFault 7 (some .int) :: xT
set_option maxHeartbeats 4000000 in
set_option maxRecDepth 100000 in
theorem c_X5_firstFault (l : Launch) {G : nb_G} {tb : Nat → Nat} (hinj : nb_inj xc_sh G.2.1) (hZo : nb_Zok (nb_A xc_sh G.2.1) (xc_Z (nb_A xc_sh G.2.1) tb)) {N : Nat} {σ : nb_St} {a1 : Int32} {q2 : Nat} {ro : Int32} {σo : nb_St} (hf : fX5_firstFault N σ a1 q2 = some (ro, σo)) (hq2 : xc_pty q2 = true) : Met l yX5_firstFault vsX5_firstFault rmX5_firstFault (nb_Pc G xc_sh (xc_Z (nb_A xc_sh G.2.1) tb) σ [.ref (G.2.1 2), .ref (G.2.1 1), .int a1, .ref (G.2.1 q2)]) (nb_Qi G xc_sh (xc_Z (nb_A xc_sh G.2.1) tb) ro σo) 0 0 (nb_A xc_sh G.2.1) := by
  refine Met.ofW (cc := cX5_firstFault) (maxL := 7) (ret := (some .int)) (by decide) rfl ?_
  intro p e s m args below meth c s₁ B hml hv
  obtain ⟨rfl, hP, hK, hZ⟩ := hv
  have hx := B.exec
  have hb := B.bytes
  have hr := B.returns
  have hts : ∀ w ∈ xT, w.before _ s = true := fun w h9 => atoms_spec (ws := vsX5_firstFault) B.pre w (List.mem_cons_of_mem _ h9)
  have hown : s.vm.findClass RX5 = some m.cls := findClass_of_methodNamed B.named
  have hlocks := B.notSynchronized
  have hW : nb_W G xc_sh s.heap σ s.heap [] := ⟨hP, va_S.rf⟩
  have hl := lv_entry ([.ref (G.2.1 2), .ref (G.2.1 1), .int a1, .ref (G.2.1 q2)]) (n := 7) (Nat.le_of_ble_eq_true rfl)
  rw [lg_entry_eq]
  generalize (lg_sl ([.ref (G.2.1 2), .ref (G.2.1 1), .int a1, .ref (G.2.1 q2)]) ++ List.replicate (7 - (lg_sl ([.ref (G.2.1 2), .ref (G.2.1 1), .int a1, .ref (G.2.1 q2)])).length) Slot.unset).toArray = ls at hl ⊢
  have hl : lv_has ls 7 [(0, .ref (G.2.1 2)), (1, .ref (G.2.1 1)), (2, .int a1), (3, .ref (G.2.1 q2))] := hl
  show W p l e rmX5_firstFault s m ([.ref (G.2.1 2), .ref (G.2.1 1), .int a1, .ref (G.2.1 q2)]).toArray below meth c s.heap [] 0 0 (MQ below (nb_Qi G xc_sh (xc_Z (nb_A xc_sh G.2.1) tb) ro σo) ([.ref (G.2.1 2), .ref (G.2.1 1), .int a1, .ref (G.2.1 q2)]).toArray s 0 0 (nb_A xc_sh G.2.1)) (F0 m 0 ls [])
  generalize hargs : ([.ref (G.2.1 2), .ref (G.2.1 1), .int a1, .ref (G.2.1 q2)] : List Value).toArray = args at hts ⊢
  unfold fX5_firstFault at hf
  obtain ⟨H, eH⟩ : ∃ H, H = s.heap := ⟨_, rfl⟩
  obtain ⟨locs, eL⟩ : ∃ L : List Loc, L = [] := ⟨_, rfl⟩
  have hW : nb_W G xc_sh s.heap σ H locs := by rw [eH, eL]; exact hW
  suffices hgo : W p l e rmX5_firstFault s m args below meth c H locs 0 0 (MQ below (nb_Qi G xc_sh (xc_Z (nb_A xc_sh G.2.1) tb) ro σo) args s 0 0 (nb_A xc_sh G.2.1)) (F0 m 0 ls []) by rw [eH, eL] at hgo; exact hgo
  clear eH eL
  refine lv_aload_n hx hb dX5_firstFault_0 rfl (lv_at hl 3 rfl) ?_
  obtain ⟨σ2, hc1, hf⟩ := nb_b_e hf
  refine nb_cv hW (va_runV (As := []) (rest := []) ⟨hx, hb, hml, hown, hts⟩ (c_X4_clear l hinj hZo (N := N) hc1 hq2) (cwV 0 hts (xg_V tw2_116 tw2_117 tw2_118 tw1_3 tw2_119) rfl rfl rfl (by decide +kernel) ⟨Nat.le_of_ble_eq_true rfl, Nat.le_of_ble_eq_true rfl⟩) (nb_preV hK hZ hZo hW (k := q2) (sx_pty_0 hq2) rfl) rfl rfl hl.1 rfl (lv_room (Nat.le_of_ble_eq_true rfl)) dX5_firstFault_1 ⟨Nat.zero_le _, Nat.zero_le _⟩) (fun H locs hW => ?_)
  refine lv_aload_n hx hb dX5_firstFault_4 rfl (lv_at hl 0 rfl) ?_
  refine lv_iconst (v := (0 : Int32)) hx hb dX5_firstFault_5 (by decide) ?_
  obtain ⟨σ3, eσ3, hf⟩ := nb_let_e hf
  refine nb_put (C := RX5) (T := TX5) (N := 2) hx hb hts inT_X5 hown hK tyX5 tyX5_ok nmX5 hinj hW 2 rfl rfl 1 (by decide) (hts _ tw1_33) (fun _ h9 => h9) rfl (ty := .int) (by decide +kernel) rfl rfl rfl (x := (0 : Int32)) (by show Value.int _ = _; rw [nb_st_s]) eσ3 dX5_firstFault_6 (fun H locs hW => ?_)
  refine lv_iconst (v := (0 : Int32)) hx hb dX5_firstFault_9 (by decide) ?_
  refine lv_istore (lv' := [(4, .int (0 : Int32)), (0, .ref (G.2.1 2)), (1, .ref (G.2.1 1)), (2, .int a1), (3, .ref (G.2.1 q2))]) hx hb dX5_firstFault_10 hl (by decide) rfl (fun ls hl => ?_)
  refine nb_w2 (P := fun (x4 : Int32) (σ5 : nb_St) => ∀ (H : Heap) (locs : List Loc) (ls : Array Slot), nb_W G xc_sh s.heap σ5 H locs → lv_has ls 7 [(0, .ref (G.2.1 2)), (1, .ref (G.2.1 1)), (2, .int a1), (3, .ref (G.2.1 q2)), (4, .int x4)] → W p l e rmX5_firstFault s m args below meth c H locs 0 0 (MQ below (nb_Qi G xc_sh (xc_Z (nb_A xc_sh G.2.1) tb) ro σo) args s 0 0 (nb_A xc_sh G.2.1)) (F0 m 12 ls [])) ?_ N _ _ hf H locs ls hW (lv_sub hl [1, 2, 3, 4, 0] rfl)
  intro ag6 ih7 x4 σ5 hf H locs ls hW hl
  refine lv_iload hx hb dX5_firstFault_12 (lv_at hl 4 rfl) ?_
  refine lv_iload_n hx hb dX5_firstFault_14 rfl (lv_at hl 2 rfl) ?_
  obtain ⟨k8, ek8, hf⟩ := nb_let_e hf
  have w9 : ∀ (_u : Unit) (H : Heap) (locs : List Loc) (ls : Array Slot), k8 _u = some (ro, σo) → nb_W G xc_sh s.heap σ5 H locs → lv_has ls 7 [] → W p l e rmX5_firstFault s m args below meth c H locs 0 0 (MQ below (nb_Qi G xc_sh (xc_Z (nb_A xc_sh G.2.1) tb) ro σo) args s 0 0 (nb_A xc_sh G.2.1)) (F0 m 83 ls []) := by
    intro _u H locs ls hf hW hl
    have hf := (congrFun ek8 _u).symm.trans hf
    refine lv_bipush (v := (-4 : Int32)) hx hb dX5_firstFault_83 (by decide) ?_
    exact nb_ri hx hb hr hlocks hK hZ hZo hW  hf dX5_firstFault_85
  clear ek8
  refine lv_icmp_gt (tgt := 83) hx hb dX5_firstFault_15 (by decide) (fun c10 => ?_) (fun c10 => ?_)
  · rw [if_pos c10] at hf
    exact w9 ()  _ _ _ hf hW (lv_sub hl [] rfl)
  · rw [if_neg c10] at hf
    refine lv_aload_n hx hb dX5_firstFault_18 rfl (lv_at hl 0 rfl) ?_
    refine nb_get (C := RX5) (T := TX5) (N := 2) hx hb hts inT_X5 hown hK hW 2 rfl rfl 1 (by decide) (hts _ tw1_33) (fun _ h9 => h9) rfl (v := .int (σ5 2 1)) rfl dX5_firstFault_19 ?_
    refine lv_iload_n hx hb dX5_firstFault_22 rfl (lv_at hl 2 rfl) ?_
    refine lv_icmp_ge (tgt := 83) hx hb dX5_firstFault_23 (by decide) (fun c11 => ?_) (fun c11 => ?_)
    · rw [if_pos c11] at hf
      exact w9 ()  _ _ _ hf hW (lv_sub hl [] rfl)
    · rw [if_neg c11] at hf
      refine lv_aload_n hx hb dX5_firstFault_26 rfl (lv_at hl 0 rfl) ?_
      refine nb_get (C := RX5) (T := TX5) (N := 2) hx hb hts inT_X5 hown hK hW 2 rfl rfl 1 (by decide) (hts _ tw1_33) (fun _ h9 => h9) rfl (v := .int (σ5 2 1)) rfl dX5_firstFault_27 ?_
      obtain ⟨x12, ex12, hf⟩ := nb_let_e hf
      refine nb_nami ex12 ?_
      refine lv_istore (lv' := [(5, .int x12), (0, .ref (G.2.1 2)), (1, .ref (G.2.1 1)), (2, .int a1), (3, .ref (G.2.1 q2)), (4, .int x4)]) hx hb dX5_firstFault_30 hl (by decide) rfl (fun ls hl => ?_)
      refine va_ldcS (tx := "gswlbcuy") hx hb hown hZ.2.2.2.2.2.1 dX5_firstFault_32 ?_
      refine lv_aload_n hx hb dX5_firstFault_34 rfl (lv_at hl 2 rfl) ?_
      refine lv_iload hx hb dX5_firstFault_35 (lv_at hl 0 rfl) ?_
      obtain ⟨g13, hf⟩ := nb_g_e hf
      refine nb_bald hx hb hK hW 1 rfl g13 dX5_firstFault_37 ?_
      refine lv_sipush (v := (255 : Int32)) hx hb dX5_firstFault_38 (by decide) ?_
      refine lv_iand hx hb dX5_firstFault_41 ?_
      refine lv_i2c hx hb dX5_firstFault_42 rfl ?_
      obtain ⟨r15, hc14, hf⟩ := nb_b_e hf
      refine nb_ci hW (va_runV (As := [.int (((((σ5 1 (nb_ix x12)) &&& (255 : Int32))).toUInt32 % 65536).toInt32)]) (rest := []) ⟨hx, hb, hml, hown, hts⟩ (c_J0_indexOf_0f7a4 l hinj hZo (N := N) hc14 ) (cwV 1 hts (xg_V tw2_128 tw2_129 tw2_130 tw1_12 tw2_131) rfl rfl rfl (by decide +kernel) ⟨Nat.le_of_ble_eq_true rfl, Nat.le_of_ble_eq_true rfl⟩) (nb_preVO hK hZ hZo hW hZ.2.2.2.2.2.2.1) rfl rfl hl.1 rfl (lv_room (Nat.le_of_ble_eq_true rfl)) dX5_firstFault_43 ⟨Nat.zero_le _, Nat.zero_le _⟩) (fun H locs hW => ?_)
      refine lv_istore (lv' := [(6, .int r15), (5, .int x12), (0, .ref (G.2.1 2)), (1, .ref (G.2.1 1)), (2, .int a1), (3, .ref (G.2.1 q2)), (4, .int x4)]) hx hb dX5_firstFault_46 hl (by decide) rfl (fun ls hl => ?_)
      refine lv_iload hx hb dX5_firstFault_48 (lv_at hl 0 rfl) ?_
      obtain ⟨k16, ek16, hf⟩ := nb_let_e hf
      have w17 : ∀ (σ18 : nb_St) (H : Heap) (locs : List Loc) (ls : Array Slot), k16 σ18 = some (ro, σo) → nb_W G xc_sh s.heap σ18 H locs → lv_has ls 7 [(5, .int x12)] → W p l e rmX5_firstFault s m args below meth c H locs 0 0 (MQ below (nb_Qi G xc_sh (xc_Z (nb_A xc_sh G.2.1) tb) ro σo) args s 0 0 (nb_A xc_sh G.2.1)) (F0 m 74 ls []) := by
        intro σ18 H locs ls hf hW hl
        have hf := (congrFun ek16 σ18).symm.trans hf
        refine lv_iload hx hb dX5_firstFault_74 (lv_at hl 0 rfl) ?_
        exact nb_ri hx hb hr hlocks hK hZ hZo hW  hf dX5_firstFault_76
      clear ek16
      refine lv_if_lt (tgt := 74) hx hb dX5_firstFault_50 (by decide) (fun c19 => ?_) (fun c19 => ?_)
      · rw [if_pos c19] at hf
        exact w17 _ _ _ _ hf hW (lv_sub hl [1] rfl)
      · rw [if_neg c19] at hf
        refine lv_aload_n hx hb dX5_firstFault_53 rfl (lv_at hl 2 rfl) ?_
        refine lv_aload_n hx hb dX5_firstFault_54 rfl (lv_at hl 3 rfl) ?_
        refine lv_iload_n hx hb dX5_firstFault_55 rfl (lv_at hl 4 rfl) ?_
        refine lv_iload hx hb dX5_firstFault_56 (lv_at hl 0 rfl) ?_
        obtain ⟨r21, σ22, hc20, hf⟩ := nb_b2_e hf
        refine nb_ci hW (va_runV (As := [.ref (G.2.1 1), .int a1, .int r15]) (rest := []) ⟨hx, hb, hml, hown, hts⟩ (c_X5_readNumbers l hinj hZo (N := N) hc20 ) (cwV 3 hts (xg_V tw2_212 tw2_214 tp1_0 tw1_2 tw2_215) rfl rfl rfl (by decide +kernel) ⟨Nat.le_of_ble_eq_true rfl, Nat.le_of_ble_eq_true rfl⟩) (nb_preV hK hZ hZo hW (k := 2) rfl rfl) rfl rfl hl.1 rfl (lv_room (Nat.le_of_ble_eq_true rfl)) dX5_firstFault_58 ⟨Nat.zero_le _, Nat.zero_le _⟩) (fun H locs hW => ?_)
        refine lv_if_eq (tgt := 74) hx hb dX5_firstFault_61 (by decide) (fun c23 => ?_) (fun c23 => ?_)
        · rw [if_pos c23] at hf
          exact w17 _ _ _ _ hf hW (lv_sub hl [1] rfl)
        · rw [if_neg c23] at hf
          refine lv_aload_n hx hb dX5_firstFault_64 rfl (lv_at hl 2 rfl) ?_
          refine lv_iload hx hb dX5_firstFault_65 (lv_at hl 0 rfl) ?_
          refine lv_aload_n hx hb dX5_firstFault_67 rfl (lv_at hl 5 rfl) ?_
          obtain ⟨r25, σ26, hc24, hf⟩ := nb_b2_e hf
          refine nb_ci hW (va_runV (As := [.int r15, .ref (G.2.1 q2)]) (rest := []) ⟨hx, hb, hml, hown, hts⟩ (c_X5_enter l hinj hZo (N := N) hc24 hq2) (cwV 2 hts (xg_V tw2_226 tw2_228 tp1_2 tw1_2 tw2_229) rfl rfl rfl (by decide +kernel) ⟨Nat.le_of_ble_eq_true rfl, Nat.le_of_ble_eq_true rfl⟩) (nb_preV hK hZ hZo hW (k := 2) rfl rfl) rfl rfl hl.1 rfl (lv_room (Nat.le_of_ble_eq_true rfl)) dX5_firstFault_68 ⟨Nat.zero_le _, Nat.zero_le _⟩) (fun H locs hW => ?_)
          refine lv_if_ne (tgt := 77) hx hb dX5_firstFault_71 (by decide) (fun c27 => ?_) (fun c27 => ?_)
          · rw [if_neg c27] at hf
            refine lv_iinc (v := (x4 + 1)) (lv' := [(4, .int (x4 + 1)), (6, .int r15), (5, .int x12), (0, .ref (G.2.1 2)), (1, .ref (G.2.1 1)), (2, .int a1), (3, .ref (G.2.1 q2))]) hx hb dX5_firstFault_77 hl (k := 6) rfl rfl (by decide) rfl (fun ls hl => ?_)
            refine lv_goto (tgt := 12) hx hb dX5_firstFault_80 (by decide) ?_
            exact ih7 _ _ hf _ _ _ hW (lv_sub hl [3, 4, 5, 6, 0] rfl)
          · rw [if_pos c27] at hf
            exact w17 _ _ _ _ hf hW (lv_sub hl [1] rfl)
