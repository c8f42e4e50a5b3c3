def fX0_addSign (N : Nat) (σ : nb_St) (a0 : Int32) (a1 : Int32) : Option nb_St :=
  (if (σ 36 3) < (9 : Int32) then
  nb_g (nb_in (σ 36 3) 9) (
  nb_let (nb_st σ 55 (nb_ix (σ 36 3)) a0) fun σ3 =>
  nb_g (nb_in (σ3 36 3) 9) (
  nb_let (nb_st σ3 56 (nb_ix (σ3 36 3)) a1) fun σ5 =>
  nb_g (nb_in (σ5 36 3) 9) (
  nb_let (nb_st σ5 57 (nb_ix (σ5 36 3)) (255 : Int32)) fun σ7 =>
  nb_let (nb_st σ7 36 3 ((σ7 36 3) + (1 : Int32))) fun σ8 =>
  some σ8)))
  else
  some σ)
def rmX0_addSign : Room := { frames := 0, cells := 0, slots := 0, locals := 0 }
def vsX0_addSign : List Cond := .code yX0_addSign cX0_addSign 3 none :: xT
set_option maxHeartbeats 4000000 in
set_option maxRecDepth 100000 in
theorem c_X0_addSign (l : Launch) {G : nb_G} {tb : Nat → Nat} (hinj : nb_inj xc_sh G.2.1) (hZo : nb_Zok (nb_A xc_sh G.2.1) (xc_Z (nb_A xc_sh G.2.1) tb)) {N : Nat} {σ : nb_St} {a0 : Int32} {a1 : Int32} {σo : nb_St} (hf : fX0_addSign N σ a0 a1 = some σo)  : Met l yX0_addSign vsX0_addSign rmX0_addSign (nb_Pc G xc_sh (xc_Z (nb_A xc_sh G.2.1) tb) σ [.ref (G.2.1 36), .int a0, .int a1]) (nb_Qv G xc_sh (xc_Z (nb_A xc_sh G.2.1) tb) σo) 0 0 (nb_A xc_sh G.2.1) := by
  refine Met.ofW (cc := cX0_addSign) (maxL := 3) (ret := none) (by decide) rfl ?_
  intro p e s m args below meth c s₁ B hml hv
  obtain ⟨rfl, hP, hK, hZ⟩ := hv
  have hx := B.exec
  have hb := B.bytes
  have hr := B.returns
  have hts : ∀ w ∈ xT, w.before _ s = true := fun w h9 => atoms_spec (ws := vsX0_addSign) B.pre w (List.mem_cons_of_mem _ h9)
  have hown : s.vm.findClass RX0 = some m.cls := findClass_of_methodNamed B.named
  have hlocks := B.notSynchronized
  have hW : nb_W G xc_sh s.heap σ s.heap [] := ⟨hP, va_S.rf⟩
  have hl := lv_entry ([.ref (G.2.1 36), .int a0, .int a1]) (n := 3) (Nat.le_of_ble_eq_true rfl)
  rw [lg_entry_eq]
  generalize (lg_sl ([.ref (G.2.1 36), .int a0, .int a1]) ++ List.replicate (3 - (lg_sl ([.ref (G.2.1 36), .int a0, .int a1])).length) Slot.unset).toArray = ls at hl ⊢
  have hl : lv_has ls 3 [(0, .ref (G.2.1 36)), (1, .int a0), (2, .int a1)] := hl
  show W p l e rmX0_addSign s m ([.ref (G.2.1 36), .int a0, .int a1]).toArray below meth c s.heap [] 0 0 (MQ below (nb_Qv G xc_sh (xc_Z (nb_A xc_sh G.2.1) tb) σo) ([.ref (G.2.1 36), .int a0, .int a1]).toArray s 0 0 (nb_A xc_sh G.2.1)) (F0 m 0 ls [])
  generalize hargs : ([.ref (G.2.1 36), .int a0, .int a1] : List Value).toArray = args at hts ⊢
  unfold fX0_addSign at hf
  obtain ⟨H, eH⟩ : ∃ H, H = s.heap := ⟨_, rfl⟩
  obtain ⟨locs, eL⟩ : ∃ L : List Loc, L = [] := ⟨_, rfl⟩
  have hW : nb_W G xc_sh s.heap σ H locs := by rw [eH, eL]; exact hW
  suffices hgo : W p l e rmX0_addSign s m args below meth c H locs 0 0 (MQ below (nb_Qv G xc_sh (xc_Z (nb_A xc_sh G.2.1) tb) σo) args s 0 0 (nb_A xc_sh G.2.1)) (F0 m 0 ls []) by rw [eH, eL] at hgo; exact hgo
  clear eH eL
  refine lv_aload_n hx hb dX0_addSign_0 rfl (lv_at hl 0 rfl) ?_
  refine nb_get (C := RX0) (T := TX0) (N := 14) hx hb hts inT_X0 hown hK hW 36 rfl rfl 3 (by decide) (hts _ tw1_171) (fun _ h9 => h9) rfl (v := .int (σ 36 3)) rfl dX0_addSign_1 ?_
  refine lv_bipush (v := (9 : Int32)) hx hb dX0_addSign_4 (by decide) ?_
  refine lv_icmp_lt (tgt := 10) hx hb dX0_addSign_6 (by decide) (fun c1 => ?_) (fun c1 => ?_)
  · rw [if_pos c1] at hf
    refine lv_aload_n hx hb dX0_addSign_10 rfl (lv_at hl 0 rfl) ?_
    refine nb_get (C := RX0) (T := TX0) (N := 14) hx hb hts inT_X0 hown hK hW 36 rfl rfl 4 (by decide) (hts _ tw1_172) (fun _ h9 => h9) rfl (v := .ref (G.2.1 55)) rfl dX0_addSign_11 ?_
    refine lv_aload_n hx hb dX0_addSign_14 rfl (lv_at hl 0 rfl) ?_
    refine nb_get (C := RX0) (T := TX0) (N := 14) hx hb hts inT_X0 hown hK hW 36 rfl rfl 3 (by decide) (hts _ tw1_171) (fun _ h9 => h9) rfl (v := .int (σ 36 3)) rfl dX0_addSign_15 ?_
    refine lv_iload_n hx hb dX0_addSign_18 rfl (lv_at hl 1 rfl) ?_
    obtain ⟨g2, hf⟩ := nb_g_e hf
    obtain ⟨σ3, eσ3, hf⟩ := nb_let_e hf
    refine nb_iast hx hb hK hinj hW 55 rfl g2 eσ3 dX0_addSign_19 (fun H locs hW => ?_)
    refine lv_aload_n hx hb dX0_addSign_20 rfl (lv_at hl 0 rfl) ?_
    refine nb_get (C := RX0) (T := TX0) (N := 14) hx hb hts inT_X0 hown hK hW 36 rfl rfl 5 (by decide) (hts _ tw1_173) (fun _ h9 => h9) rfl (v := .ref (G.2.1 56)) rfl dX0_addSign_21 ?_
    refine lv_aload_n hx hb dX0_addSign_24 rfl (lv_at hl 0 rfl) ?_
    refine nb_get (C := RX0) (T := TX0) (N := 14) hx hb hts inT_X0 hown hK hW 36 rfl rfl 3 (by decide) (hts _ tw1_171) (fun _ h9 => h9) rfl (v := .int (σ3 36 3)) rfl dX0_addSign_25 ?_
    refine lv_iload_n hx hb dX0_addSign_28 rfl (lv_at hl 2 rfl) ?_
    obtain ⟨g4, hf⟩ := nb_g_e hf
    obtain ⟨σ5, eσ5, hf⟩ := nb_let_e hf
    refine nb_iast hx hb hK hinj hW 56 rfl g4 eσ5 dX0_addSign_29 (fun H locs hW => ?_)
    refine lv_aload_n hx hb dX0_addSign_30 rfl (lv_at hl 0 rfl) ?_
    refine nb_get (C := RX0) (T := TX0) (N := 14) hx hb hts inT_X0 hown hK hW 36 rfl rfl 6 (by decide) (hts _ tw1_174) (fun _ h9 => h9) rfl (v := .ref (G.2.1 57)) rfl dX0_addSign_31 ?_
    refine lv_aload_n hx hb dX0_addSign_34 rfl (lv_at hl 0 rfl) ?_
    refine nb_get (C := RX0) (T := TX0) (N := 14) hx hb hts inT_X0 hown hK hW 36 rfl rfl 3 (by decide) (hts _ tw1_171) (fun _ h9 => h9) rfl (v := .int (σ5 36 3)) rfl dX0_addSign_35 ?_
    refine lv_sipush (v := (255 : Int32)) hx hb dX0_addSign_38 (by decide) ?_
    obtain ⟨g6, hf⟩ := nb_g_e hf
    obtain ⟨σ7, eσ7, hf⟩ := nb_let_e hf
    refine nb_iast hx hb hK hinj hW 57 rfl g6 eσ7 dX0_addSign_41 (fun H locs hW => ?_)
    refine lv_aload_n hx hb dX0_addSign_42 rfl (lv_at hl 0 rfl) ?_
    refine lv_dup hx hb dX0_addSign_43 rfl ?_
    refine nb_get (C := RX0) (T := TX0) (N := 14) hx hb hts inT_X0 hown hK hW 36 rfl rfl 3 (by decide) (hts _ tw1_171) (fun _ h9 => h9) rfl (v := .int (σ7 36 3)) rfl dX0_addSign_44 ?_
    refine lv_iconst (v := (1 : Int32)) hx hb dX0_addSign_47 (by decide) ?_
    refine lv_iadd hx hb dX0_addSign_48 ?_
    obtain ⟨σ8, eσ8, hf⟩ := nb_let_e hf
    refine nb_put (C := RX0) (T := TX0) (N := 14) hx hb hts inT_X0 hown hK tyX0 tyX0_ok nmX0 hinj hW 36 rfl rfl 3 (by decide) (hts _ tw1_171) (fun _ h9 => h9) rfl (ty := .int) (by decide +kernel) rfl rfl rfl (x := ((σ7 36 3) + (1 : Int32))) (by show Value.int _ = _; rw [nb_st_s]) eσ8 dX0_addSign_49 (fun H locs hW => ?_)
    exact nb_rv hx hb hr hlocks hK hZ hZo hW hf dX0_addSign_52
  · rw [if_neg c1] at hf
    exact nb_rv hx hb hr hlocks hK hZ hZo hW hf dX0_addSign_9
def fX0_prepare (N : Nat) (σ : nb_St) (q0 : Nat) : Option nb_St :=
  nb_let (nb_st σ 36 0 (nI q0)) fun σ1 =>
  nb_let (nb_st σ1 36 7 (719 : Int32)) fun σ2 =>
  nb_let (nb_st σ2 36 8 (0 : Int32)) fun σ3 =>
  nb_lp2 (R := nb_St) (fun ag6 (x4 : Int32) (σ5 : nb_St) =>
  nb_let (nb_ix (σ5 36 0)) fun p8 =>
  nb_g (xc_pty p8) (
  (if (σ5 p8 0) ≤ x4 then
  nb_let (nb_st σ5 36 3 (0 : Int32)) fun σ11 =>
  nb_lp2 (R := nb_St) (fun ag14 (x12 : Int32) (σ13 : nb_St) =>
  nb_let (nb_ix (σ13 36 0)) fun p16 =>
  nb_g (xc_pty p16) (
  (if (σ13 (p16 + 5) 0) ≤ x12 then
  some σ13
  else
  nb_let (nb_ix (σ13 36 0)) fun p19 =>
  nb_g (xc_pty p19) (
  nb_g (nb_in x12 6) (
  nb_let (nb_ix (σ13 36 0)) fun p22 =>
  nb_g (xc_pty p22) (
  nb_g (nb_in x12 6) (
  nb_b (fX0_addSign N σ13 (σ13 (p19 + 6) (nb_ix x12)) (σ13 (p22 + 7) (nb_ix x12))) fun σ26 =>
  ag14 (x12 + 1) σ26))))))) N (0 : Int32) σ11
  else
  nb_let (nb_ix (σ5 36 0)) fun p27 =>
  nb_g (xc_pty p27) (
  nb_g (nb_in x4 8) (
  nb_let (nb_st σ5 36 8 ((σ5 36 8) ||| ((1 : Int32) <<< ((σ5 (p27 + 1) (nb_ix x4)) &&& 31)))) fun σ30 =>
  nb_let (nb_ix (σ30 36 0)) fun p31 =>
  nb_g (xc_pty p31) (
  nb_g (nb_in x4 8) (
  nb_g (nb_in x4 8) (
  nb_let (nb_st σ30 53 (nb_ix x4) (σ30 (p31 + 4) (nb_ix x4))) fun σ35 =>
  nb_let (nb_ix (σ35 36 0)) fun p36 =>
  nb_g (xc_pty p36) (
  nb_g (nb_in x4 8) (
  nb_g (nb_in x4 8) (
  nb_let (nb_st σ35 54 (nb_ix x4) (σ35 (p36 + 2) (nb_ix x4))) fun σ40 =>
  ag6 (x4 + 1) σ40))))))))))) N (0 : Int32) σ3
def rmX0_prepare : Room := { frames := 1, cells := 0, slots := 0, locals := 22 }
def vsX0_prepare : List Cond := .code yX0_prepare cX0_prepare 3 none :: xT
set_option maxHeartbeats 4000000 in
set_option maxRecDepth 100000 in
theorem c_X0_prepare (l : Launch) {G : nb_G} {tb : Nat → Nat} (hinj : nb_inj xc_sh G.2.1) (hZo : nb_Zok (nb_A xc_sh G.2.1) (xc_Z (nb_A xc_sh G.2.1) tb)) {N : Nat} {σ : nb_St} {q0 : Nat} {σo : nb_St} (hf : fX0_prepare N σ q0 = some σo) (hq0 : xc_pty q0 = true) : Met l yX0_prepare vsX0_prepare rmX0_prepare (nb_Pc G xc_sh (xc_Z (nb_A xc_sh G.2.1) tb) σ [.ref (G.2.1 36), .ref (G.2.1 q0)]) (nb_Qv G xc_sh (xc_Z (nb_A xc_sh G.2.1) tb) σo) 0 0 (nb_A xc_sh G.2.1) := by
  refine Met.ofW (cc := cX0_prepare) (maxL := 3) (ret := none) (by decide) rfl ?_
  intro p e s m args below meth c s₁ B hml hv
  obtain ⟨rfl, hP, hK, hZ⟩ := hv
  have hx := B.exec
  have hb := B.bytes
  have hr := B.returns
  have hts : ∀ w ∈ xT, w.before _ s = true := fun w h9 => atoms_spec (ws := vsX0_prepare) B.pre w (List.mem_cons_of_mem _ h9)
  have hown : s.vm.findClass RX0 = some m.cls := findClass_of_methodNamed B.named
  have hlocks := B.notSynchronized
  have hW : nb_W G xc_sh s.heap σ s.heap [] := ⟨hP, va_S.rf⟩
  have hl := lv_entry ([.ref (G.2.1 36), .ref (G.2.1 q0)]) (n := 3) (Nat.le_of_ble_eq_true rfl)
  rw [lg_entry_eq]
  generalize (lg_sl ([.ref (G.2.1 36), .ref (G.2.1 q0)]) ++ List.replicate (3 - (lg_sl ([.ref (G.2.1 36), .ref (G.2.1 q0)])).length) Slot.unset).toArray = ls at hl ⊢
  have hl : lv_has ls 3 [(0, .ref (G.2.1 36)), (1, .ref (G.2.1 q0))] := hl
  show W p l e rmX0_prepare s m ([.ref (G.2.1 36), .ref (G.2.1 q0)]).toArray below meth c s.heap [] 0 0 (MQ below (nb_Qv G xc_sh (xc_Z (nb_A xc_sh G.2.1) tb) σo) ([.ref (G.2.1 36), .ref (G.2.1 q0)]).toArray s 0 0 (nb_A xc_sh G.2.1)) (F0 m 0 ls [])
  generalize hargs : ([.ref (G.2.1 36), .ref (G.2.1 q0)] : List Value).toArray = args at hts ⊢
  unfold fX0_prepare at hf
  obtain ⟨H, eH⟩ : ∃ H, H = s.heap := ⟨_, rfl⟩
  obtain ⟨locs, eL⟩ : ∃ L : List Loc, L = [] := ⟨_, rfl⟩
  have hW : nb_W G xc_sh s.heap σ H locs := by rw [eH, eL]; exact hW
  suffices hgo : W p l e rmX0_prepare s m args below meth c H locs 0 0 (MQ below (nb_Qv G xc_sh (xc_Z (nb_A xc_sh G.2.1) tb) σo) args s 0 0 (nb_A xc_sh G.2.1)) (F0 m 0 ls []) by rw [eH, eL] at hgo; exact hgo
  clear eH eL
  refine lv_aload_n hx hb dX0_prepare_0 rfl (lv_at hl 0 rfl) ?_
  refine lv_aload_n hx hb dX0_prepare_1 rfl (lv_at hl 1 rfl) ?_
  obtain ⟨σ1, eσ1, hf⟩ := nb_let_e hf
  refine nb_put (C := RX0) (T := TX0) (N := 14) hx hb hts inT_X0 hown hK tyX0 tyX0_ok nmX0 hinj hW 36 rfl rfl 0 (by decide) (hts _ tw1_168) (fun _ h9 => h9) rfl (ty := (.object "NobodyFirst$Party")) (by decide +kernel) rfl rfl rfl (x := (nI q0)) (nb_fv_d (x_pty_lt hq0)) eσ1 dX0_prepare_2 (fun H locs hW => ?_)
  refine lv_aload_n hx hb dX0_prepare_5 rfl (lv_at hl 0 rfl) ?_
  refine lv_sipush (v := (719 : Int32)) hx hb dX0_prepare_6 (by decide) ?_
  obtain ⟨σ2, eσ2, hf⟩ := nb_let_e hf
  refine nb_put (C := RX0) (T := TX0) (N := 14) hx hb hts inT_X0 hown hK tyX0 tyX0_ok nmX0 hinj hW 36 rfl rfl 7 (by decide) (hts _ tw1_175) (fun _ h9 => h9) rfl (ty := .int) (by decide +kernel) rfl rfl rfl (x := (719 : Int32)) (by show Value.int _ = _; rw [nb_st_s]) eσ2 dX0_prepare_9 (fun H locs hW => ?_)
  refine lv_aload_n hx hb dX0_prepare_12 rfl (lv_at hl 0 rfl) ?_
  refine lv_iconst (v := (0 : Int32)) hx hb dX0_prepare_13 (by decide) ?_
  obtain ⟨σ3, eσ3, hf⟩ := nb_let_e hf
  refine nb_put (C := RX0) (T := TX0) (N := 14) hx hb hts inT_X0 hown hK tyX0 tyX0_ok nmX0 hinj hW 36 rfl rfl 8 (by decide) (hts _ tw1_176) (fun _ h9 => h9) rfl (ty := .int) (by decide +kernel) rfl rfl rfl (x := (0 : Int32)) (by show Value.int _ = _; rw [nb_st_s]) eσ3 dX0_prepare_14 (fun H locs hW => ?_)
  refine lv_iconst (v := (0 : Int32)) hx hb dX0_prepare_17 (by decide) ?_
  refine lv_istore_n (lv' := [(2, .int (0 : Int32)), (0, .ref (G.2.1 36)), (1, .ref (G.2.1 q0))]) hx hb dX0_prepare_18 rfl hl (by decide) rfl (fun ls hl => ?_)
  refine nb_w2 (P := fun (x4 : Int32) (σ5 : nb_St) => ∀ (H : Heap) (locs : List Loc) (ls : Array Slot), nb_W G xc_sh s.heap σ5 H locs → lv_has ls 3 [(0, .ref (G.2.1 36)), (2, .int x4)] → W p l e rmX0_prepare s m args below meth c H locs 0 0 (MQ below (nb_Qv G xc_sh (xc_Z (nb_A xc_sh G.2.1) tb) σo) args s 0 0 (nb_A xc_sh G.2.1)) (F0 m 19 ls [])) ?_ N _ _ hf H locs ls hW (lv_sub hl [1, 0] rfl)
  intro ag6 ih7 x4 σ5 hf H locs ls hW hl
  refine lv_iload_n hx hb dX0_prepare_19 rfl (lv_at hl 1 rfl) ?_
  refine lv_aload_n hx hb dX0_prepare_20 rfl (lv_at hl 0 rfl) ?_
  obtain ⟨p8, ep8, hf⟩ := nb_let_e hf
  obtain ⟨hp9, hf⟩ := nb_g_e hf
  refine nb_get (C := RX0) (T := TX0) (N := 14) hx hb hts inT_X0 hown hK hW 36 rfl rfl 0 (by decide) (hts _ tw1_168) (fun _ h9 => h9) rfl (v := .ref (G.2.1 p8)) (by rw [ep8]; rfl) dX0_prepare_21 ?_
  refine nb_getN (C := RX4) (T := TX4) (N := 18) (host := "NobodyFirst") hx hb hts inT_X4 hown hK hW p8 (sx_pty_0 hp9) rfl 0 (by decide) (va_Nw.use rfl (hZ.1 ("NobodyFirst$Evening", 59, "NobodyFirst$Party", "guests", "I", "NobodyFirst") (by decide +kernel))) (fun _ h9 => h9) rfl (v := .int (σ5 p8 0)) rfl dX0_prepare_24 ?_
  refine lv_icmp_ge (tgt := 86) hx hb dX0_prepare_27 (by decide) (fun c10 => ?_) (fun c10 => ?_)
  · rw [if_pos c10] at hf
    refine lv_aload_n hx hb dX0_prepare_86 rfl (lv_at hl 0 rfl) ?_
    refine lv_iconst (v := (0 : Int32)) hx hb dX0_prepare_87 (by decide) ?_
    obtain ⟨σ11, eσ11, hf⟩ := nb_let_e hf
    refine nb_put (C := RX0) (T := TX0) (N := 14) hx hb hts inT_X0 hown hK tyX0 tyX0_ok nmX0 hinj hW 36 rfl rfl 3 (by decide) (hts _ tw1_171) (fun _ h9 => h9) rfl (ty := .int) (by decide +kernel) rfl rfl rfl (x := (0 : Int32)) (by show Value.int _ = _; rw [nb_st_s]) eσ11 dX0_prepare_88 (fun H locs hW => ?_)
    refine lv_iconst (v := (0 : Int32)) hx hb dX0_prepare_91 (by decide) ?_
    refine lv_istore_n (lv' := [(2, .int (0 : Int32)), (0, .ref (G.2.1 36))]) hx hb dX0_prepare_92 rfl hl (by decide) rfl (fun ls hl => ?_)
    refine nb_w2 (P := fun (x12 : Int32) (σ13 : nb_St) => ∀ (H : Heap) (locs : List Loc) (ls : Array Slot), nb_W G xc_sh s.heap σ13 H locs → lv_has ls 3 [(0, .ref (G.2.1 36)), (2, .int x12)] → W p l e rmX0_prepare s m args below meth c H locs 0 0 (MQ below (nb_Qv G xc_sh (xc_Z (nb_A xc_sh G.2.1) tb) σo) args s 0 0 (nb_A xc_sh G.2.1)) (F0 m 93 ls [])) ?_ N _ _ hf H locs ls hW (lv_sub hl [1, 0] rfl)
    intro ag14 ih15 x12 σ13 hf H locs ls hW hl
    refine lv_iload_n hx hb dX0_prepare_93 rfl (lv_at hl 1 rfl) ?_
    refine lv_aload_n hx hb dX0_prepare_94 rfl (lv_at hl 0 rfl) ?_
    obtain ⟨p16, ep16, hf⟩ := nb_let_e hf
    obtain ⟨hp17, hf⟩ := nb_g_e hf
    refine nb_get (C := RX0) (T := TX0) (N := 14) hx hb hts inT_X0 hown hK hW 36 rfl rfl 0 (by decide) (hts _ tw1_168) (fun _ h9 => h9) rfl (v := .ref (G.2.1 p16)) (by rw [ep16]; rfl) dX0_prepare_95 ?_
    refine nb_getN (C := RX4) (T := TX4) (N := 18) (host := "NobodyFirst") hx hb hts inT_X4 hown hK hW p16 (sx_pty_0 hp17) rfl 5 (by decide) (va_Nw.use rfl (hZ.1 ("NobodyFirst$Evening", 69, "NobodyFirst$Party", "told", "LNobodyFirst$Told;", "NobodyFirst") (by decide +kernel))) (fun _ h9 => h9) rfl (v := .ref (G.2.1 (p16 + 5))) rfl dX0_prepare_98 ?_
    refine nb_getN (C := RX6) (T := TX6) (N := 5) (host := "NobodyFirst") hx hb hts inT_X6 hown hK hW (p16 + 5) (sx_pty_5 hp17) rfl 0 (by decide) (va_Nw.use rfl (hZ.1 ("NobodyFirst$Evening", 73, "NobodyFirst$Told", "signs", "I", "NobodyFirst") (by decide +kernel))) (fun _ h9 => h9) rfl (v := .int (σ13 (p16 + 5) 0)) rfl dX0_prepare_101 ?_
    refine lv_icmp_ge (tgt := 141) hx hb dX0_prepare_104 (by decide) (fun c18 => ?_) (fun c18 => ?_)
    · rw [if_pos c18] at hf
      exact nb_rv hx hb hr hlocks hK hZ hZo hW hf dX0_prepare_141
    · rw [if_neg c18] at hf
      refine lv_aload_n hx hb dX0_prepare_107 rfl (lv_at hl 0 rfl) ?_
      refine lv_aload_n hx hb dX0_prepare_108 rfl (lv_at hl 0 rfl) ?_
      obtain ⟨p19, ep19, hf⟩ := nb_let_e hf
      obtain ⟨hp20, hf⟩ := nb_g_e hf
      refine nb_get (C := RX0) (T := TX0) (N := 14) hx hb hts inT_X0 hown hK hW 36 rfl rfl 0 (by decide) (hts _ tw1_168) (fun _ h9 => h9) rfl (v := .ref (G.2.1 p19)) (by rw [ep19]; rfl) dX0_prepare_109 ?_
      refine nb_getN (C := RX4) (T := TX4) (N := 18) (host := "NobodyFirst") hx hb hts inT_X4 hown hK hW p19 (sx_pty_0 hp20) rfl 5 (by decide) (va_Nw.use rfl (hZ.1 ("NobodyFirst$Evening", 69, "NobodyFirst$Party", "told", "LNobodyFirst$Told;", "NobodyFirst") (by decide +kernel))) (fun _ h9 => h9) rfl (v := .ref (G.2.1 (p19 + 5))) rfl dX0_prepare_112 ?_
      refine nb_getN (C := RX6) (T := TX6) (N := 5) (host := "NobodyFirst") hx hb hts inT_X6 hown hK hW (p19 + 5) (sx_pty_5 hp20) rfl 1 (by decide) (va_Nw.use rfl (hZ.1 ("NobodyFirst$Evening", 76, "NobodyFirst$Told", "signMinute", "[I", "NobodyFirst") (by decide +kernel))) (fun _ h9 => h9) rfl (v := .ref (G.2.1 (p19 + 6))) rfl dX0_prepare_115 ?_
      refine lv_iload_n hx hb dX0_prepare_118 rfl (lv_at hl 1 rfl) ?_
      obtain ⟨g21, hf⟩ := nb_g_e hf
      refine nb_iald hx hb hK hW (p19 + 6) (sx_pty_6 hp20) g21 dX0_prepare_119 ?_
      refine lv_aload_n hx hb dX0_prepare_120 rfl (lv_at hl 0 rfl) ?_
      obtain ⟨p22, ep22, hf⟩ := nb_let_e hf
      obtain ⟨hp23, hf⟩ := nb_g_e hf
      refine nb_get (C := RX0) (T := TX0) (N := 14) hx hb hts inT_X0 hown hK hW 36 rfl rfl 0 (by decide) (hts _ tw1_168) (fun _ h9 => h9) rfl (v := .ref (G.2.1 p22)) (by rw [ep22]; rfl) dX0_prepare_121 ?_
      refine nb_getN (C := RX4) (T := TX4) (N := 18) (host := "NobodyFirst") hx hb hts inT_X4 hown hK hW p22 (sx_pty_0 hp23) rfl 5 (by decide) (va_Nw.use rfl (hZ.1 ("NobodyFirst$Evening", 69, "NobodyFirst$Party", "told", "LNobodyFirst$Told;", "NobodyFirst") (by decide +kernel))) (fun _ h9 => h9) rfl (v := .ref (G.2.1 (p22 + 5))) rfl dX0_prepare_124 ?_
      refine nb_getN (C := RX6) (T := TX6) (N := 5) (host := "NobodyFirst") hx hb hts inT_X6 hown hK hW (p22 + 5) (sx_pty_5 hp23) rfl 2 (by decide) (va_Nw.use rfl (hZ.1 ("NobodyFirst$Evening", 77, "NobodyFirst$Told", "signWorth", "[I", "NobodyFirst") (by decide +kernel))) (fun _ h9 => h9) rfl (v := .ref (G.2.1 (p22 + 7))) rfl dX0_prepare_127 ?_
      refine lv_iload_n hx hb dX0_prepare_130 rfl (lv_at hl 1 rfl) ?_
      obtain ⟨g24, hf⟩ := nb_g_e hf
      refine nb_iald hx hb hK hW (p22 + 7) (sx_pty_7 hp23) g24 dX0_prepare_131 ?_
      obtain ⟨σ26, hc25, hf⟩ := nb_b_e hf
      refine nb_cv hW (va_runV (As := [.int (σ13 (p19 + 6) (nb_ix x12)), .int (σ13 (p22 + 7) (nb_ix x12))]) (rest := []) ⟨hx, hb, hml, hown, hts⟩ (c_X0_addSign l hinj hZo (N := N) hc25 ) (cwV 2 hts (xg_V tw3_48 tw3_49 tw3_50 tw1_5 tw3_51) rfl rfl rfl (by decide +kernel) ⟨Nat.le_of_ble_eq_true rfl, Nat.le_of_ble_eq_true rfl⟩) (nb_preV hK hZ hZo hW (k := 36) rfl rfl) rfl rfl hl.1 rfl (lv_room (Nat.le_of_ble_eq_true rfl)) dX0_prepare_132 ⟨Nat.zero_le _, Nat.zero_le _⟩) (fun H locs hW => ?_)
      refine lv_iinc (v := (x12 + 1)) (lv' := [(2, .int (x12 + 1)), (0, .ref (G.2.1 36))]) hx hb dX0_prepare_135 hl (k := 1) rfl rfl (by decide) rfl (fun ls hl => ?_)
      refine lv_goto (tgt := 93) hx hb dX0_prepare_138 (by decide) ?_
      exact ih15 _ _ hf _ _ _ hW (lv_sub hl [1, 0] rfl)
  · rw [if_neg c10] at hf
    refine lv_aload_n hx hb dX0_prepare_30 rfl (lv_at hl 0 rfl) ?_
    refine lv_dup hx hb dX0_prepare_31 rfl ?_
    refine nb_get (C := RX0) (T := TX0) (N := 14) hx hb hts inT_X0 hown hK hW 36 rfl rfl 8 (by decide) (hts _ tw1_176) (fun _ h9 => h9) rfl (v := .int (σ5 36 8)) rfl dX0_prepare_32 ?_
    refine lv_iconst (v := (1 : Int32)) hx hb dX0_prepare_35 (by decide) ?_
    refine lv_aload_n hx hb dX0_prepare_36 rfl (lv_at hl 0 rfl) ?_
    obtain ⟨p27, ep27, hf⟩ := nb_let_e hf
    obtain ⟨hp28, hf⟩ := nb_g_e hf
    refine nb_get (C := RX0) (T := TX0) (N := 14) hx hb hts inT_X0 hown hK hW 36 rfl rfl 0 (by decide) (hts _ tw1_168) (fun _ h9 => h9) rfl (v := .ref (G.2.1 p27)) (by rw [ep27]; rfl) dX0_prepare_37 ?_
    refine nb_getN (C := RX4) (T := TX4) (N := 18) (host := "NobodyFirst") hx hb hts inT_X4 hown hK hW p27 (sx_pty_0 hp28) rfl 1 (by decide) (va_Nw.use rfl (hZ.1 ("NobodyFirst$Evening", 62, "NobodyFirst$Party", "pair", "[I", "NobodyFirst") (by decide +kernel))) (fun _ h9 => h9) rfl (v := .ref (G.2.1 (p27 + 1))) rfl dX0_prepare_40 ?_
    refine lv_iload_n hx hb dX0_prepare_43 rfl (lv_at hl 1 rfl) ?_
    obtain ⟨g29, hf⟩ := nb_g_e hf
    refine nb_iald hx hb hK hW (p27 + 1) (sx_pty_1 hp28) g29 dX0_prepare_44 ?_
    refine lv_ishl hx hb dX0_prepare_45 ?_
    refine lv_ior hx hb dX0_prepare_46 ?_
    obtain ⟨σ30, eσ30, hf⟩ := nb_let_e hf
    refine nb_put (C := RX0) (T := TX0) (N := 14) hx hb hts inT_X0 hown hK tyX0 tyX0_ok nmX0 hinj hW 36 rfl rfl 8 (by decide) (hts _ tw1_176) (fun _ h9 => h9) rfl (ty := .int) (by decide +kernel) rfl rfl rfl (x := ((σ5 36 8) ||| ((1 : Int32) <<< ((σ5 (p27 + 1) (nb_ix x4)) &&& 31)))) (by show Value.int _ = _; rw [nb_st_s]) eσ30 dX0_prepare_47 (fun H locs hW => ?_)
    refine lv_aload_n hx hb dX0_prepare_50 rfl (lv_at hl 0 rfl) ?_
    refine nb_get (C := RX0) (T := TX0) (N := 14) hx hb hts inT_X0 hown hK hW 36 rfl rfl 1 (by decide) (hts _ tw1_169) (fun _ h9 => h9) rfl (v := .ref (G.2.1 53)) rfl dX0_prepare_51 ?_
    refine lv_iload_n hx hb dX0_prepare_54 rfl (lv_at hl 1 rfl) ?_
    refine lv_aload_n hx hb dX0_prepare_55 rfl (lv_at hl 0 rfl) ?_
    obtain ⟨p31, ep31, hf⟩ := nb_let_e hf
    obtain ⟨hp32, hf⟩ := nb_g_e hf
    refine nb_get (C := RX0) (T := TX0) (N := 14) hx hb hts inT_X0 hown hK hW 36 rfl rfl 0 (by decide) (hts _ tw1_168) (fun _ h9 => h9) rfl (v := .ref (G.2.1 p31)) (by rw [ep31]; rfl) dX0_prepare_56 ?_
    refine nb_getN (C := RX4) (T := TX4) (N := 18) (host := "NobodyFirst") hx hb hts inT_X4 hown hK hW p31 (sx_pty_0 hp32) rfl 4 (by decide) (va_Nw.use rfl (hZ.1 ("NobodyFirst$Evening", 65, "NobodyFirst$Party", "kind", "[I", "NobodyFirst") (by decide +kernel))) (fun _ h9 => h9) rfl (v := .ref (G.2.1 (p31 + 4))) rfl dX0_prepare_59 ?_
    refine lv_iload_n hx hb dX0_prepare_62 rfl (lv_at hl 1 rfl) ?_
    obtain ⟨g33, hf⟩ := nb_g_e hf
    refine nb_iald hx hb hK hW (p31 + 4) (sx_pty_4 hp32) g33 dX0_prepare_63 ?_
    obtain ⟨g34, hf⟩ := nb_g_e hf
    obtain ⟨σ35, eσ35, hf⟩ := nb_let_e hf
    refine nb_iast hx hb hK hinj hW 53 rfl g34 eσ35 dX0_prepare_64 (fun H locs hW => ?_)
    refine lv_aload_n hx hb dX0_prepare_65 rfl (lv_at hl 0 rfl) ?_
    refine nb_get (C := RX0) (T := TX0) (N := 14) hx hb hts inT_X0 hown hK hW 36 rfl rfl 2 (by decide) (hts _ tw1_170) (fun _ h9 => h9) rfl (v := .ref (G.2.1 54)) rfl dX0_prepare_66 ?_
    refine lv_iload_n hx hb dX0_prepare_69 rfl (lv_at hl 1 rfl) ?_
    refine lv_aload_n hx hb dX0_prepare_70 rfl (lv_at hl 0 rfl) ?_
    obtain ⟨p36, ep36, hf⟩ := nb_let_e hf
    obtain ⟨hp37, hf⟩ := nb_g_e hf
    refine nb_get (C := RX0) (T := TX0) (N := 14) hx hb hts inT_X0 hown hK hW 36 rfl rfl 0 (by decide) (hts _ tw1_168) (fun _ h9 => h9) rfl (v := .ref (G.2.1 p36)) (by rw [ep36]; rfl) dX0_prepare_71 ?_
    refine nb_getN (C := RX4) (T := TX4) (N := 18) (host := "NobodyFirst") hx hb hts inT_X4 hown hK hW p36 (sx_pty_0 hp37) rfl 2 (by decide) (va_Nw.use rfl (hZ.1 ("NobodyFirst$Evening", 66, "NobodyFirst$Party", "wouldGo", "[I", "NobodyFirst") (by decide +kernel))) (fun _ h9 => h9) rfl (v := .ref (G.2.1 (p36 + 2))) rfl dX0_prepare_74 ?_
    refine lv_iload_n hx hb dX0_prepare_77 rfl (lv_at hl 1 rfl) ?_
    obtain ⟨g38, hf⟩ := nb_g_e hf
    refine nb_iald hx hb hK hW (p36 + 2) (sx_pty_2 hp37) g38 dX0_prepare_78 ?_
    obtain ⟨g39, hf⟩ := nb_g_e hf
    obtain ⟨σ40, eσ40, hf⟩ := nb_let_e hf
    refine nb_iast hx hb hK hinj hW 54 rfl g39 eσ40 dX0_prepare_79 (fun H locs hW => ?_)
    refine lv_iinc (v := (x4 + 1)) (lv' := [(2, .int (x4 + 1)), (0, .ref (G.2.1 36))]) hx hb dX0_prepare_80 hl (k := 1) rfl rfl (by decide) rfl (fun ls hl => ?_)
    refine lv_goto (tgt := 19) hx hb dX0_prepare_83 (by decide) ?_
    exact ih7 _ _ hf _ _ _ hW (lv_sub hl [1, 0] rfl)
def fX0_nextChange (N : Nat) (σ : nb_St) (a0 : Int32) : Option Int32 :=
  nb_lp2 (R := Int32) (fun ag3 (x1 : Int32) (x2 : Int32) =>
  (if (σ 36 3) ≤ x2 then
  nb_lp2 (R := Int32) (fun ag8 (x6 : Int32) (x7 : Int32) =>
  nb_let (nb_ix (σ 36 0)) fun p10 =>
  nb_g (xc_pty p10) (
  (if (σ (p10 + 5) 3) ≤ x7 then
  some x6
  else
  nb_let (nb_ix (σ 36 0)) fun p13 =>
  nb_g (xc_pty p13) (
  nb_g (nb_in x7 4) (
  nb_let (fun (x18 : Int32) =>
  ag8 x18 (x7 + 1)) fun k16 =>
  (if (σ (p13 + 8) (nb_ix x7)) ≤ a0 then
  k16 x6
  else
  nb_let (nb_ix (σ 36 0)) fun p20 =>
  nb_g (xc_pty p20) (
  nb_g (nb_in x7 4) (
  nb_let (nb_min x6 (σ (p20 + 8) (nb_ix x7))) fun v23 =>
  k16 v23)))))))) N x1 (0 : Int32)
  else
  nb_g (nb_in x2 9) (
  nb_let (fun (x27 : Int32) =>
  ag3 x27 (x2 + 1)) fun k25 =>
  (if (σ 55 (nb_ix x2)) ≤ a0 then
  k25 x1
  else
  nb_g (nb_in x2 9) (
  nb_let (nb_min x1 (σ 55 (nb_ix x2))) fun v30 =>
  k25 v30))))) N (100000 : Int32) (0 : Int32)
def rmX0_nextChange : Room := { frames := 1, cells := 0, slots := 0, locals := 21 }
def vsX0_nextChange : List Cond := .code yX0_nextChange cX0_nextChange 4 (some .int) :: xT
set_option maxHeartbeats 4000000 in
set_option maxRecDepth 100000 in
theorem c_X0_nextChange (l : Launch) {G : nb_G} {tb : Nat → Nat} (hinj : nb_inj xc_sh G.2.1) (hZo : nb_Zok (nb_A xc_sh G.2.1) (xc_Z (nb_A xc_sh G.2.1) tb)) {N : Nat} {σ : nb_St} {a0 : Int32} {ro : Int32} (hf : fX0_nextChange N σ a0 = some ro)  : Met l yX0_nextChange vsX0_nextChange rmX0_nextChange (nb_Pc G xc_sh (xc_Z (nb_A xc_sh G.2.1) tb) σ [.ref (G.2.1 36), .int a0]) (nb_Qi G xc_sh (xc_Z (nb_A xc_sh G.2.1) tb) ro σ) 0 0 (nb_A xc_sh G.2.1) := by
  refine Met.ofW (cc := cX0_nextChange) (maxL := 4) (ret := (some .int)) (by decide) rfl ?_
  intro p e s m args below meth c s₁ B hml hv
  obtain ⟨rfl, hP, hK, hZ⟩ := hv
  have hx := B.exec
  have hb := B.bytes
  have hr := B.returns
  have hts : ∀ w ∈ xT, w.before _ s = true := fun w h9 => atoms_spec (ws := vsX0_nextChange) B.pre w (List.mem_cons_of_mem _ h9)
  have hown : s.vm.findClass RX0 = some m.cls := findClass_of_methodNamed B.named
  have hlocks := B.notSynchronized
  have hW : nb_W G xc_sh s.heap σ s.heap [] := ⟨hP, va_S.rf⟩
  have hl := lv_entry ([.ref (G.2.1 36), .int a0]) (n := 4) (Nat.le_of_ble_eq_true rfl)
  rw [lg_entry_eq]
  generalize (lg_sl ([.ref (G.2.1 36), .int a0]) ++ List.replicate (4 - (lg_sl ([.ref (G.2.1 36), .int a0])).length) Slot.unset).toArray = ls at hl ⊢
  have hl : lv_has ls 4 [(0, .ref (G.2.1 36)), (1, .int a0)] := hl
  show W p l e rmX0_nextChange s m ([.ref (G.2.1 36), .int a0]).toArray below meth c s.heap [] 0 0 (MQ below (nb_Qi G xc_sh (xc_Z (nb_A xc_sh G.2.1) tb) ro σ) ([.ref (G.2.1 36), .int a0]).toArray s 0 0 (nb_A xc_sh G.2.1)) (F0 m 0 ls [])
  generalize hargs : ([.ref (G.2.1 36), .int a0] : List Value).toArray = args at hts ⊢
  unfold fX0_nextChange at hf
  obtain ⟨H, eH⟩ : ∃ H, H = s.heap := ⟨_, rfl⟩
  obtain ⟨locs, eL⟩ : ∃ L : List Loc, L = [] := ⟨_, rfl⟩
  have hW : nb_W G xc_sh s.heap σ H locs := by rw [eH, eL]; exact hW
  suffices hgo : W p l e rmX0_nextChange s m args below meth c H locs 0 0 (MQ below (nb_Qi G xc_sh (xc_Z (nb_A xc_sh G.2.1) tb) ro σ) args s 0 0 (nb_A xc_sh G.2.1)) (F0 m 0 ls []) by rw [eH, eL] at hgo; exact hgo
  clear eH eL
  refine lv_ldc (own := RX0) (v := (100000 : Int32)) hx hb hown (hts _ tw3_56) dX0_nextChange_0 ?_
  refine lv_istore_n (lv' := [(2, .int (100000 : Int32)), (0, .ref (G.2.1 36)), (1, .int a0)]) hx hb dX0_nextChange_2 rfl hl (by decide) rfl (fun ls hl => ?_)
  refine lv_iconst (v := (0 : Int32)) hx hb dX0_nextChange_3 (by decide) ?_
  refine lv_istore_n (lv' := [(3, .int (0 : Int32)), (2, .int (100000 : Int32)), (0, .ref (G.2.1 36)), (1, .int a0)]) hx hb dX0_nextChange_4 rfl hl (by decide) rfl (fun ls hl => ?_)
  refine nb_w2 (P := fun (x1 : Int32) (x2 : Int32) => ∀ (H : Heap) (locs : List Loc) (ls : Array Slot), nb_W G xc_sh s.heap σ H locs → lv_has ls 4 [(0, .ref (G.2.1 36)), (1, .int a0), (2, .int x1), (3, .int x2)] → W p l e rmX0_nextChange s m args below meth c H locs 0 0 (MQ below (nb_Qi G xc_sh (xc_Z (nb_A xc_sh G.2.1) tb) ro σ) args s 0 0 (nb_A xc_sh G.2.1)) (F0 m 5 ls [])) ?_ N _ _ hf H locs ls hW (lv_sub hl [2, 3, 1, 0] rfl)
  intro ag3 ih4 x1 x2 hf H locs ls hW hl
  refine lv_iload_n hx hb dX0_nextChange_5 rfl (lv_at hl 3 rfl) ?_
  refine lv_aload_n hx hb dX0_nextChange_6 rfl (lv_at hl 0 rfl) ?_
  refine nb_get (C := RX0) (T := TX0) (N := 14) hx hb hts inT_X0 hown hK hW 36 rfl rfl 3 (by decide) (hts _ tw1_171) (fun _ h9 => h9) rfl (v := .int (σ 36 3)) rfl dX0_nextChange_7 ?_
  refine lv_icmp_ge (tgt := 40) hx hb dX0_nextChange_10 (by decide) (fun c5 => ?_) (fun c5 => ?_)
  · rw [if_pos c5] at hf
    refine lv_iconst (v := (0 : Int32)) hx hb dX0_nextChange_40 (by decide) ?_
    refine lv_istore_n (lv' := [(3, .int (0 : Int32)), (0, .ref (G.2.1 36)), (1, .int a0), (2, .int x1)]) hx hb dX0_nextChange_41 rfl hl (by decide) rfl (fun ls hl => ?_)
    refine nb_w2 (P := fun (x6 : Int32) (x7 : Int32) => ∀ (H : Heap) (locs : List Loc) (ls : Array Slot), nb_W G xc_sh s.heap σ H locs → lv_has ls 4 [(0, .ref (G.2.1 36)), (1, .int a0), (2, .int x6), (3, .int x7)] → W p l e rmX0_nextChange s m args below meth c H locs 0 0 (MQ below (nb_Qi G xc_sh (xc_Z (nb_A xc_sh G.2.1) tb) ro σ) args s 0 0 (nb_A xc_sh G.2.1)) (F0 m 42 ls [])) ?_ N _ _ hf H locs ls hW (lv_sub hl [1, 2, 3, 0] rfl)
    intro ag8 ih9 x6 x7 hf H locs ls hW hl
    refine lv_iload_n hx hb dX0_nextChange_42 rfl (lv_at hl 3 rfl) ?_
    refine lv_aload_n hx hb dX0_nextChange_43 rfl (lv_at hl 0 rfl) ?_
    obtain ⟨p10, ep10, hf⟩ := nb_let_e hf
    obtain ⟨hp11, hf⟩ := nb_g_e hf
    refine nb_get (C := RX0) (T := TX0) (N := 14) hx hb hts inT_X0 hown hK hW 36 rfl rfl 0 (by decide) (hts _ tw1_168) (fun _ h9 => h9) rfl (v := .ref (G.2.1 p10)) (by rw [ep10]; rfl) dX0_nextChange_44 ?_
    refine nb_getN (C := RX4) (T := TX4) (N := 18) (host := "NobodyFirst") hx hb hts inT_X4 hown hK hW p10 (sx_pty_0 hp11) rfl 5 (by decide) (va_Nw.use rfl (hZ.1 ("NobodyFirst$Evening", 69, "NobodyFirst$Party", "told", "LNobodyFirst$Told;", "NobodyFirst") (by decide +kernel))) (fun _ h9 => h9) rfl (v := .ref (G.2.1 (p10 + 5))) rfl dX0_nextChange_47 ?_
    refine nb_getN (C := RX6) (T := TX6) (N := 5) (host := "NobodyFirst") hx hb hts inT_X6 hown hK hW (p10 + 5) (sx_pty_5 hp11) rfl 3 (by decide) (va_Nw.use rfl (hZ.1 ("NobodyFirst$Evening", 127, "NobodyFirst$Told", "words", "I", "NobodyFirst") (by decide +kernel))) (fun _ h9 => h9) rfl (v := .int (σ (p10 + 5) 3)) rfl dX0_nextChange_50 ?_
    refine lv_icmp_ge (tgt := 95) hx hb dX0_nextChange_53 (by decide) (fun c12 => ?_) (fun c12 => ?_)
    · rw [if_pos c12] at hf
      refine lv_iload_n hx hb dX0_nextChange_95 rfl (lv_at hl 2 rfl) ?_
      exact nb_rip hx hb hr hlocks hK hZ hZo hW  hf dX0_nextChange_96
    · rw [if_neg c12] at hf
      refine lv_aload_n hx hb dX0_nextChange_56 rfl (lv_at hl 0 rfl) ?_
      obtain ⟨p13, ep13, hf⟩ := nb_let_e hf
      obtain ⟨hp14, hf⟩ := nb_g_e hf
      refine nb_get (C := RX0) (T := TX0) (N := 14) hx hb hts inT_X0 hown hK hW 36 rfl rfl 0 (by decide) (hts _ tw1_168) (fun _ h9 => h9) rfl (v := .ref (G.2.1 p13)) (by rw [ep13]; rfl) dX0_nextChange_57 ?_
      refine nb_getN (C := RX4) (T := TX4) (N := 18) (host := "NobodyFirst") hx hb hts inT_X4 hown hK hW p13 (sx_pty_0 hp14) rfl 5 (by decide) (va_Nw.use rfl (hZ.1 ("NobodyFirst$Evening", 69, "NobodyFirst$Party", "told", "LNobodyFirst$Told;", "NobodyFirst") (by decide +kernel))) (fun _ h9 => h9) rfl (v := .ref (G.2.1 (p13 + 5))) rfl dX0_nextChange_60 ?_
      refine nb_getN (C := RX6) (T := TX6) (N := 5) (host := "NobodyFirst") hx hb hts inT_X6 hown hK hW (p13 + 5) (sx_pty_5 hp14) rfl 4 (by decide) (va_Nw.use rfl (hZ.1 ("NobodyFirst$Evening", 130, "NobodyFirst$Told", "wordMinute", "[I", "NobodyFirst") (by decide +kernel))) (fun _ h9 => h9) rfl (v := .ref (G.2.1 (p13 + 8))) rfl dX0_nextChange_63 ?_
      refine lv_iload_n hx hb dX0_nextChange_66 rfl (lv_at hl 3 rfl) ?_
      obtain ⟨g15, hf⟩ := nb_g_e hf
      refine nb_iald hx hb hK hW (p13 + 8) (sx_pty_8 hp14) g15 dX0_nextChange_67 ?_
      refine lv_iload_n hx hb dX0_nextChange_68 rfl (lv_at hl 1 rfl) ?_
      obtain ⟨k16, ek16, hf⟩ := nb_let_e hf
      have w17 : ∀ (x18 : Int32) (H : Heap) (locs : List Loc) (ls : Array Slot), k16 x18 = some ro → nb_W G xc_sh s.heap σ H locs → lv_has ls 4 [(0, .ref (G.2.1 36)), (1, .int a0), (2, .int x18), (3, .int x7)] → W p l e rmX0_nextChange s m args below meth c H locs 0 0 (MQ below (nb_Qi G xc_sh (xc_Z (nb_A xc_sh G.2.1) tb) ro σ) args s 0 0 (nb_A xc_sh G.2.1)) (F0 m 89 ls []) := by
        intro x18 H locs ls hf hW hl
        have hf := (congrFun ek16 x18).symm.trans hf
        refine lv_iinc (v := (x7 + 1)) (lv' := [(3, .int (x7 + 1)), (0, .ref (G.2.1 36)), (1, .int a0), (2, .int x18)]) hx hb dX0_nextChange_89 hl (k := 3) rfl rfl (by decide) rfl (fun ls hl => ?_)
        refine lv_goto (tgt := 42) hx hb dX0_nextChange_92 (by decide) ?_
        exact ih9 _ _ hf _ _ _ hW (lv_sub hl [1, 2, 3, 0] rfl)
      clear ek16
      refine lv_icmp_le (tgt := 89) hx hb dX0_nextChange_69 (by decide) (fun c19 => ?_) (fun c19 => ?_)
      · rw [if_pos c19] at hf
        exact w17 _ _ _ _ hf hW (lv_sub hl [0, 1, 2, 3] rfl)
      · rw [if_neg c19] at hf
        refine lv_iload_n hx hb dX0_nextChange_72 rfl (lv_at hl 2 rfl) ?_
        refine lv_aload_n hx hb dX0_nextChange_73 rfl (lv_at hl 0 rfl) ?_
        obtain ⟨p20, ep20, hf⟩ := nb_let_e hf
        obtain ⟨hp21, hf⟩ := nb_g_e hf
        refine nb_get (C := RX0) (T := TX0) (N := 14) hx hb hts inT_X0 hown hK hW 36 rfl rfl 0 (by decide) (hts _ tw1_168) (fun _ h9 => h9) rfl (v := .ref (G.2.1 p20)) (by rw [ep20]; rfl) dX0_nextChange_74 ?_
        refine nb_getN (C := RX4) (T := TX4) (N := 18) (host := "NobodyFirst") hx hb hts inT_X4 hown hK hW p20 (sx_pty_0 hp21) rfl 5 (by decide) (va_Nw.use rfl (hZ.1 ("NobodyFirst$Evening", 69, "NobodyFirst$Party", "told", "LNobodyFirst$Told;", "NobodyFirst") (by decide +kernel))) (fun _ h9 => h9) rfl (v := .ref (G.2.1 (p20 + 5))) rfl dX0_nextChange_77 ?_
        refine nb_getN (C := RX6) (T := TX6) (N := 5) (host := "NobodyFirst") hx hb hts inT_X6 hown hK hW (p20 + 5) (sx_pty_5 hp21) rfl 4 (by decide) (va_Nw.use rfl (hZ.1 ("NobodyFirst$Evening", 130, "NobodyFirst$Told", "wordMinute", "[I", "NobodyFirst") (by decide +kernel))) (fun _ h9 => h9) rfl (v := .ref (G.2.1 (p20 + 8))) rfl dX0_nextChange_80 ?_
        refine lv_iload_n hx hb dX0_nextChange_83 rfl (lv_at hl 3 rfl) ?_
        obtain ⟨g22, hf⟩ := nb_g_e hf
        refine nb_iald hx hb hK hW (p20 + 8) (sx_pty_8 hp21) g22 dX0_nextChange_84 ?_
        refine va_mmin hx hb (hml.trans hl.1.symm) hown (hts _ tw3_66) (hts _ tw2_158) (hts _ tw1_9) (hts _ tw2_159) (Nat.le_of_ble_eq_true rfl) (Nat.le_of_ble_eq_true rfl) (Nat.zero_le _) (Nat.zero_le _) dX0_nextChange_85 ?_
        show W p l e rmX0_nextChange s m args below meth c H locs 0 0 (MQ below (nb_Qi G xc_sh (xc_Z (nb_A xc_sh G.2.1) tb) ro σ) args s 0 0 (nb_A xc_sh G.2.1)) (F0 m 88 ls [.int (nb_min x6 (σ (p20 + 8) (nb_ix x7)))])
        obtain ⟨v23, ev23, hf⟩ := nb_let_e hf
        refine nb_nami ev23 ?_
        refine lv_istore_n (lv' := [(2, .int v23), (0, .ref (G.2.1 36)), (1, .int a0), (3, .int x7)]) hx hb dX0_nextChange_88 rfl hl (by decide) rfl (fun ls hl => ?_)
        exact w17 _ _ _ _ hf hW (lv_sub hl [1, 2, 0, 3] rfl)
  · rw [if_neg c5] at hf
    refine lv_aload_n hx hb dX0_nextChange_13 rfl (lv_at hl 0 rfl) ?_
    refine nb_get (C := RX0) (T := TX0) (N := 14) hx hb hts inT_X0 hown hK hW 36 rfl rfl 4 (by decide) (hts _ tw1_172) (fun _ h9 => h9) rfl (v := .ref (G.2.1 55)) rfl dX0_nextChange_14 ?_
    refine lv_iload_n hx hb dX0_nextChange_17 rfl (lv_at hl 3 rfl) ?_
    obtain ⟨g24, hf⟩ := nb_g_e hf
    refine nb_iald hx hb hK hW 55 rfl g24 dX0_nextChange_18 ?_
    refine lv_iload_n hx hb dX0_nextChange_19 rfl (lv_at hl 1 rfl) ?_
    obtain ⟨k25, ek25, hf⟩ := nb_let_e hf
    have w26 : ∀ (x27 : Int32) (H : Heap) (locs : List Loc) (ls : Array Slot), k25 x27 = some ro → nb_W G xc_sh s.heap σ H locs → lv_has ls 4 [(0, .ref (G.2.1 36)), (1, .int a0), (2, .int x27), (3, .int x2)] → W p l e rmX0_nextChange s m args below meth c H locs 0 0 (MQ below (nb_Qi G xc_sh (xc_Z (nb_A xc_sh G.2.1) tb) ro σ) args s 0 0 (nb_A xc_sh G.2.1)) (F0 m 34 ls []) := by
      intro x27 H locs ls hf hW hl
      have hf := (congrFun ek25 x27).symm.trans hf
      refine lv_iinc (v := (x2 + 1)) (lv' := [(3, .int (x2 + 1)), (0, .ref (G.2.1 36)), (1, .int a0), (2, .int x27)]) hx hb dX0_nextChange_34 hl (k := 3) rfl rfl (by decide) rfl (fun ls hl => ?_)
      refine lv_goto (tgt := 5) hx hb dX0_nextChange_37 (by decide) ?_
      exact ih4 _ _ hf _ _ _ hW (lv_sub hl [1, 2, 3, 0] rfl)
    clear ek25
    refine lv_icmp_le (tgt := 34) hx hb dX0_nextChange_20 (by decide) (fun c28 => ?_) (fun c28 => ?_)
    · rw [if_pos c28] at hf
      exact w26 _ _ _ _ hf hW (lv_sub hl [0, 1, 2, 3] rfl)
    · rw [if_neg c28] at hf
      refine lv_iload_n hx hb dX0_nextChange_23 rfl (lv_at hl 2 rfl) ?_
      refine lv_aload_n hx hb dX0_nextChange_24 rfl (lv_at hl 0 rfl) ?_
      refine nb_get (C := RX0) (T := TX0) (N := 14) hx hb hts inT_X0 hown hK hW 36 rfl rfl 4 (by decide) (hts _ tw1_172) (fun _ h9 => h9) rfl (v := .ref (G.2.1 55)) rfl dX0_nextChange_25 ?_
      refine lv_iload_n hx hb dX0_nextChange_28 rfl (lv_at hl 3 rfl) ?_
      obtain ⟨g29, hf⟩ := nb_g_e hf
      refine nb_iald hx hb hK hW 55 rfl g29 dX0_nextChange_29 ?_
      refine va_mmin hx hb (hml.trans hl.1.symm) hown (hts _ tw3_66) (hts _ tw2_158) (hts _ tw1_9) (hts _ tw2_159) (Nat.le_of_ble_eq_true rfl) (Nat.le_of_ble_eq_true rfl) (Nat.zero_le _) (Nat.zero_le _) dX0_nextChange_30 ?_
      show W p l e rmX0_nextChange s m args below meth c H locs 0 0 (MQ below (nb_Qi G xc_sh (xc_Z (nb_A xc_sh G.2.1) tb) ro σ) args s 0 0 (nb_A xc_sh G.2.1)) (F0 m 33 ls [.int (nb_min x1 (σ 55 (nb_ix x2)))])
      obtain ⟨v30, ev30, hf⟩ := nb_let_e hf
      refine nb_nami ev30 ?_
      refine lv_istore_n (lv' := [(2, .int v30), (0, .ref (G.2.1 36)), (1, .int a0), (3, .int x2)]) hx hb dX0_nextChange_33 rfl hl (by decide) rfl (fun ls hl => ?_)
      exact w26 _ _ _ _ hf hW (lv_sub hl [1, 2, 0, 3] rfl)
def fX0_sits (N : Nat) (σ : nb_St) (a0 : Int32) : Option Int32 :=
  (if ((((σ 36 8) &&& ((σ 36 9) ^^^ (-1 : Int32))) >>> (a0 &&& 31)) &&& (1 : Int32)) = (1 : Int32) then
  some (1 : Int32)
  else
  some (0 : Int32))
def rmX0_sits : Room := { frames := 0, cells := 0, slots := 0, locals := 0 }
def vsX0_sits : List Cond := .code yX0_sits cX0_sits 2 (some .boolean) :: xT
set_option maxHeartbeats 4000000 in
set_option maxRecDepth 100000 in
theorem c_X0_sits (l : Launch) {G : nb_G} {tb : Nat → Nat} (hinj : nb_inj xc_sh G.2.1) (hZo : nb_Zok (nb_A xc_sh G.2.1) (xc_Z (nb_A xc_sh G.2.1) tb)) {N : Nat} {σ : nb_St} {a0 : Int32} {ro : Int32} (hf : fX0_sits N σ a0 = some ro)  : Met l yX0_sits vsX0_sits rmX0_sits (nb_Pc G xc_sh (xc_Z (nb_A xc_sh G.2.1) tb) σ [.ref (G.2.1 36), .int a0]) (nb_Qi G xc_sh (xc_Z (nb_A xc_sh G.2.1) tb) ro σ) 0 0 (nb_A xc_sh G.2.1) := by
  refine Met.ofW (cc := cX0_sits) (maxL := 2) (ret := (some .boolean)) (by decide) rfl ?_
  intro p e s m args below meth c s₁ B hml hv
  obtain ⟨rfl, hP, hK, hZ⟩ := hv
  have hx := B.exec
  have hb := B.bytes
  have hr := B.returns
  have hts : ∀ w ∈ xT, w.before _ s = true := fun w h9 => atoms_spec (ws := vsX0_sits) B.pre w (List.mem_cons_of_mem _ h9)
  have hown : s.vm.findClass RX0 = some m.cls := findClass_of_methodNamed B.named
  have hlocks := B.notSynchronized
  have hW : nb_W G xc_sh s.heap σ s.heap [] := ⟨hP, va_S.rf⟩
  have hl := lv_entry ([.ref (G.2.1 36), .int a0]) (n := 2) (Nat.le_of_ble_eq_true rfl)
  rw [lg_entry_eq]
  generalize (lg_sl ([.ref (G.2.1 36), .int a0]) ++ List.replicate (2 - (lg_sl ([.ref (G.2.1 36), .int a0])).length) Slot.unset).toArray = ls at hl ⊢
  have hl : lv_has ls 2 [(0, .ref (G.2.1 36)), (1, .int a0)] := hl
  show W p l e rmX0_sits s m ([.ref (G.2.1 36), .int a0]).toArray below meth c s.heap [] 0 0 (MQ below (nb_Qi G xc_sh (xc_Z (nb_A xc_sh G.2.1) tb) ro σ) ([.ref (G.2.1 36), .int a0]).toArray s 0 0 (nb_A xc_sh G.2.1)) (F0 m 0 ls [])
  generalize hargs : ([.ref (G.2.1 36), .int a0] : List Value).toArray = args at hts ⊢
  unfold fX0_sits at hf
  obtain ⟨H, eH⟩ : ∃ H, H = s.heap := ⟨_, rfl⟩
  obtain ⟨locs, eL⟩ : ∃ L : List Loc, L = [] := ⟨_, rfl⟩
  have hW : nb_W G xc_sh s.heap σ H locs := by rw [eH, eL]; exact hW
  suffices hgo : W p l e rmX0_sits s m args below meth c H locs 0 0 (MQ below (nb_Qi G xc_sh (xc_Z (nb_A xc_sh G.2.1) tb) ro σ) args s 0 0 (nb_A xc_sh G.2.1)) (F0 m 0 ls []) by rw [eH, eL] at hgo; exact hgo
  clear eH eL
  refine lv_aload_n hx hb dX0_sits_0 rfl (lv_at hl 0 rfl) ?_
  refine nb_get (C := RX0) (T := TX0) (N := 14) hx hb hts inT_X0 hown hK hW 36 rfl rfl 8 (by decide) (hts _ tw1_176) (fun _ h9 => h9) rfl (v := .int (σ 36 8)) rfl dX0_sits_1 ?_
  refine lv_aload_n hx hb dX0_sits_4 rfl (lv_at hl 0 rfl) ?_
  refine nb_get (C := RX0) (T := TX0) (N := 14) hx hb hts inT_X0 hown hK hW 36 rfl rfl 9 (by decide) (hts _ tw1_177) (fun _ h9 => h9) rfl (v := .int (σ 36 9)) rfl dX0_sits_5 ?_
  refine lv_iconst (v := (-1 : Int32)) hx hb dX0_sits_8 (by decide) ?_
  refine lv_ixor hx hb dX0_sits_9 ?_
  refine lv_iand hx hb dX0_sits_10 ?_
  refine lv_iload_n hx hb dX0_sits_11 rfl (lv_at hl 1 rfl) ?_
  refine lv_ishr hx hb dX0_sits_12 ?_
  refine lv_iconst (v := (1 : Int32)) hx hb dX0_sits_13 (by decide) ?_
  refine lv_iand hx hb dX0_sits_14 ?_
  refine lv_iconst (v := (1 : Int32)) hx hb dX0_sits_15 (by decide) ?_
  refine lv_icmp_ne (tgt := 23) hx hb dX0_sits_16 (by decide) (fun c1 => ?_) (fun c1 => ?_)
  · rw [if_neg c1] at hf
    refine lv_iconst (v := (0 : Int32)) hx hb dX0_sits_23 (by decide) ?_
    exact nb_rzp hx hb hr hlocks hK hZ hZo hW rfl hf dX0_sits_24
  · rw [if_pos c1] at hf
    refine lv_iconst (v := (1 : Int32)) hx hb dX0_sits_19 (by decide) ?_
    refine lv_goto (tgt := 24) hx hb dX0_sits_20 (by decide) ?_
    exact nb_rzp hx hb hr hlocks hK hZ hZo hW rfl hf dX0_sits_24
def fX0_shameAt (N : Nat) (σ : nb_St) (a0 : Int32) (a1 : Int32) : Option Int32 :=
  nb_let (nb_ix (σ 36 0)) fun p1 =>
  nb_g (xc_pty p1) (
  nb_g (nb_in a0 8) (
  nb_let (nb_ix (σ 36 0)) fun p4 =>
  nb_g (xc_pty p4) (
  nb_let ((σ (p1 + 3) (nb_ix a0)) - ((σ p4 6) * (σ 36 10))) fun x6 =>
  nb_lp2 (R := Int32) (fun ag9 (x7 : Int32) (x8 : Int32) =>
  nb_let (fun (_u : Unit) =>
  nb_let (nb_max x7 (0 : Int32)) fun v13 =>
  nb_lp2 (R := Int32) (fun ag16 (x14 : Int32) (x15 : Int32) =>
  nb_let (nb_ix (σ 36 0)) fun p18 =>
  nb_g (xc_pty p18) (
  nb_let (fun (_u : Unit) =>
  some x14) fun k20 =>
  (if (σ (p18 + 5) 3) ≤ x15 then
  k20 ()
  else
  nb_g (nb_in a0 8) (
  (if (σ 53 (nb_ix a0)) = (1 : Int32) then
  nb_let (nb_ix (σ 36 0)) fun p25 =>
  nb_g (xc_pty p25) (
  nb_g (nb_in x15 4) (
  nb_let (fun (x30 : Int32) =>
  ag16 x30 (x15 + 1)) fun k28 =>
  (if a1 < (σ (p25 + 8) (nb_ix x15)) then
  k28 x14
  else
  k28 (x14 + 10))))
  else
  k20 ()))))) N v13 (0 : Int32)) fun k11 =>
  (if (σ 36 3) ≤ x8 then
  k11 ()
  else
  nb_g (nb_in a0 8) (
  (if (σ 53 (nb_ix a0)) = (2 : Int32) then
  k11 ()
  else
  nb_g (nb_in x8 9) (
  nb_let (fun (x38 : Int32) =>
  ag9 x38 (x8 + 1)) fun k36 =>
  (if a1 < (σ 55 (nb_ix x8)) then
  k36 x7
  else
  nb_g (nb_in x8 9) (
  (if (((σ 57 (nb_ix x8)) >>> (a0 &&& 31)) &&& (1 : Int32)) = (1 : Int32) then
  nb_g (nb_in x8 9) (
  nb_let (x7 - (σ 56 (nb_ix x8))) fun x43 =>
  k36 x43)
  else
  k36 x7)))))))) N x6 (0 : Int32))))
def rmX0_shameAt : Room := { frames := 1, cells := 0, slots := 0, locals := 21 }
def vsX0_shameAt : List Cond := .code yX0_shameAt cX0_shameAt 5 (some .int) :: xT
set_option maxHeartbeats 4000000 in
set_option maxRecDepth 100000 in
theorem c_X0_shameAt (l : Launch) {G : nb_G} {tb : Nat → Nat} (hinj : nb_inj xc_sh G.2.1) (hZo : nb_Zok (nb_A xc_sh G.2.1) (xc_Z (nb_A xc_sh G.2.1) tb)) {N : Nat} {σ : nb_St} {a0 : Int32} {a1 : Int32} {ro : Int32} (hf : fX0_shameAt N σ a0 a1 = some ro)  : Met l yX0_shameAt vsX0_shameAt rmX0_shameAt (nb_Pc G xc_sh (xc_Z (nb_A xc_sh G.2.1) tb) σ [.ref (G.2.1 36), .int a0, .int a1]) (nb_Qi G xc_sh (xc_Z (nb_A xc_sh G.2.1) tb) ro σ) 0 0 (nb_A xc_sh G.2.1) := by
  refine Met.ofW (cc := cX0_shameAt) (maxL := 5) (ret := (some .int)) (by decide) rfl ?_
  intro p e s m args below meth c s₁ B hml hv
  obtain ⟨rfl, hP, hK, hZ⟩ := hv
  have hx := B.exec
  have hb := B.bytes
  have hr := B.returns
  have hts : ∀ w ∈ xT, w.before _ s = true := fun w h9 => atoms_spec (ws := vsX0_shameAt) B.pre w (List.mem_cons_of_mem _ h9)
  have hown : s.vm.findClass RX0 = some m.cls := findClass_of_methodNamed B.named
  have hlocks := B.notSynchronized
  have hW : nb_W G xc_sh s.heap σ s.heap [] := ⟨hP, va_S.rf⟩
  have hl := lv_entry ([.ref (G.2.1 36), .int a0, .int a1]) (n := 5) (Nat.le_of_ble_eq_true rfl)
  rw [lg_entry_eq]
  generalize (lg_sl ([.ref (G.2.1 36), .int a0, .int a1]) ++ List.replicate (5 - (lg_sl ([.ref (G.2.1 36), .int a0, .int a1])).length) Slot.unset).toArray = ls at hl ⊢
  have hl : lv_has ls 5 [(0, .ref (G.2.1 36)), (1, .int a0), (2, .int a1)] := hl
  show W p l e rmX0_shameAt s m ([.ref (G.2.1 36), .int a0, .int a1]).toArray below meth c s.heap [] 0 0 (MQ below (nb_Qi G xc_sh (xc_Z (nb_A xc_sh G.2.1) tb) ro σ) ([.ref (G.2.1 36), .int a0, .int a1]).toArray s 0 0 (nb_A xc_sh G.2.1)) (F0 m 0 ls [])
  generalize hargs : ([.ref (G.2.1 36), .int a0, .int a1] : List Value).toArray = args at hts ⊢
  unfold fX0_shameAt at hf
  obtain ⟨H, eH⟩ : ∃ H, H = s.heap := ⟨_, rfl⟩
  obtain ⟨locs, eL⟩ : ∃ L : List Loc, L = [] := ⟨_, rfl⟩
  have hW : nb_W G xc_sh s.heap σ H locs := by rw [eH, eL]; exact hW
  suffices hgo : W p l e rmX0_shameAt s m args below meth c H locs 0 0 (MQ below (nb_Qi G xc_sh (xc_Z (nb_A xc_sh G.2.1) tb) ro σ) args s 0 0 (nb_A xc_sh G.2.1)) (F0 m 0 ls []) by rw [eH, eL] at hgo; exact hgo
  clear eH eL
  refine lv_aload_n hx hb dX0_shameAt_0 rfl (lv_at hl 0 rfl) ?_
  obtain ⟨p1, ep1, hf⟩ := nb_let_e hf
  obtain ⟨hp2, hf⟩ := nb_g_e hf
  refine nb_get (C := RX0) (T := TX0) (N := 14) hx hb hts inT_X0 hown hK hW 36 rfl rfl 0 (by decide) (hts _ tw1_168) (fun _ h9 => h9) rfl (v := .ref (G.2.1 p1)) (by rw [ep1]; rfl) dX0_shameAt_1 ?_
  refine nb_getN (C := RX4) (T := TX4) (N := 18) (host := "NobodyFirst") hx hb hts inT_X4 hown hK hW p1 (sx_pty_0 hp2) rfl 3 (by decide) (va_Nw.use rfl (hZ.1 ("NobodyFirst$Evening", 139, "NobodyFirst$Party", "ownShame", "[I", "NobodyFirst") (by decide +kernel))) (fun _ h9 => h9) rfl (v := .ref (G.2.1 (p1 + 3))) rfl dX0_shameAt_4 ?_
  refine lv_iload_n hx hb dX0_shameAt_7 rfl (lv_at hl 1 rfl) ?_
  obtain ⟨g3, hf⟩ := nb_g_e hf
  refine nb_iald hx hb hK hW (p1 + 3) (sx_pty_3 hp2) g3 dX0_shameAt_8 ?_
  refine lv_aload_n hx hb dX0_shameAt_9 rfl (lv_at hl 0 rfl) ?_
  obtain ⟨p4, ep4, hf⟩ := nb_let_e hf
  obtain ⟨hp5, hf⟩ := nb_g_e hf
  refine nb_get (C := RX0) (T := TX0) (N := 14) hx hb hts inT_X0 hown hK hW 36 rfl rfl 0 (by decide) (hts _ tw1_168) (fun _ h9 => h9) rfl (v := .ref (G.2.1 p4)) (by rw [ep4]; rfl) dX0_shameAt_10 ?_
  refine nb_getN (C := RX4) (T := TX4) (N := 18) (host := "NobodyFirst") hx hb hts inT_X4 hown hK hW p4 (sx_pty_0 hp5) rfl 6 (by decide) (va_Nw.use rfl (hZ.1 ("NobodyFirst$Evening", 142, "NobodyFirst$Party", "drawsBy", "I", "NobodyFirst") (by decide +kernel))) (fun _ h9 => h9) rfl (v := .int (σ p4 6)) rfl dX0_shameAt_13 ?_
  refine lv_aload_n hx hb dX0_shameAt_16 rfl (lv_at hl 0 rfl) ?_
  refine nb_get (C := RX0) (T := TX0) (N := 14) hx hb hts inT_X0 hown hK hW 36 rfl rfl 10 (by decide) (hts _ tw1_178) (fun _ h9 => h9) rfl (v := .int (σ 36 10)) rfl dX0_shameAt_17 ?_
  refine lv_imul hx hb dX0_shameAt_20 ?_
  refine lv_isub hx hb dX0_shameAt_21 ?_
  obtain ⟨x6, ex6, hf⟩ := nb_let_e hf
  refine nb_nami ex6 ?_
  refine lv_istore_n (lv' := [(3, .int x6), (0, .ref (G.2.1 36)), (1, .int a0), (2, .int a1)]) hx hb dX0_shameAt_22 rfl hl (by decide) rfl (fun ls hl => ?_)
  refine lv_iconst (v := (0 : Int32)) hx hb dX0_shameAt_23 (by decide) ?_
  refine lv_istore (lv' := [(4, .int (0 : Int32)), (3, .int x6), (0, .ref (G.2.1 36)), (1, .int a0), (2, .int a1)]) hx hb dX0_shameAt_24 hl (by decide) rfl (fun ls hl => ?_)
  refine nb_w2 (P := fun (x7 : Int32) (x8 : Int32) => ∀ (H : Heap) (locs : List Loc) (ls : Array Slot), nb_W G xc_sh s.heap σ H locs → lv_has ls 5 [(0, .ref (G.2.1 36)), (1, .int a0), (2, .int a1), (3, .int x7), (4, .int x8)] → W p l e rmX0_shameAt s m args below meth c H locs 0 0 (MQ below (nb_Qi G xc_sh (xc_Z (nb_A xc_sh G.2.1) tb) ro σ) args s 0 0 (nb_A xc_sh G.2.1)) (F0 m 26 ls [])) ?_ N _ _ hf H locs ls hW (lv_sub hl [2, 3, 4, 1, 0] rfl)
  intro ag9 ih10 x7 x8 hf H locs ls hW hl
  refine lv_iload hx hb dX0_shameAt_26 (lv_at hl 4 rfl) ?_
  refine lv_aload_n hx hb dX0_shameAt_28 rfl (lv_at hl 0 rfl) ?_
  refine nb_get (C := RX0) (T := TX0) (N := 14) hx hb hts inT_X0 hown hK hW 36 rfl rfl 3 (by decide) (hts _ tw1_171) (fun _ h9 => h9) rfl (v := .int (σ 36 3)) rfl dX0_shameAt_29 ?_
  obtain ⟨k11, ek11, hf⟩ := nb_let_e hf
  have w12 : ∀ (_u : Unit) (H : Heap) (locs : List Loc) (ls : Array Slot), k11 _u = some ro → nb_W G xc_sh s.heap σ H locs → lv_has ls 5 [(0, .ref (G.2.1 36)), (1, .int a0), (2, .int a1), (3, .int x7)] → W p l e rmX0_shameAt s m args below meth c H locs 0 0 (MQ below (nb_Qi G xc_sh (xc_Z (nb_A xc_sh G.2.1) tb) ro σ) args s 0 0 (nb_A xc_sh G.2.1)) (F0 m 87 ls []) := by
    intro _u H locs ls hf hW hl
    have hf := (congrFun ek11 _u).symm.trans hf
    refine lv_iload_n hx hb dX0_shameAt_87 rfl (lv_at hl 3 rfl) ?_
    refine lv_iconst (v := (0 : Int32)) hx hb dX0_shameAt_88 (by decide) ?_
    refine va_mmax hx hb (hml.trans hl.1.symm) hown (hts _ tw3_83) (hts _ tw2_67) (hts _ tw1_9) (hts _ tw2_68) (Nat.le_of_ble_eq_true rfl) (Nat.le_of_ble_eq_true rfl) (Nat.zero_le _) (Nat.zero_le _) dX0_shameAt_89 ?_
    show W p l e rmX0_shameAt s m args below meth c H locs 0 0 (MQ below (nb_Qi G xc_sh (xc_Z (nb_A xc_sh G.2.1) tb) ro σ) args s 0 0 (nb_A xc_sh G.2.1)) (F0 m 92 ls [.int (nb_max x7 (0 : Int32))])
    obtain ⟨v13, ev13, hf⟩ := nb_let_e hf
    refine nb_nami ev13 ?_
    refine lv_istore_n (lv' := [(3, .int v13), (0, .ref (G.2.1 36)), (1, .int a0), (2, .int a1)]) hx hb dX0_shameAt_92 rfl hl (by decide) rfl (fun ls hl => ?_)
    refine lv_iconst (v := (0 : Int32)) hx hb dX0_shameAt_93 (by decide) ?_
    refine lv_istore (lv' := [(4, .int (0 : Int32)), (3, .int v13), (0, .ref (G.2.1 36)), (1, .int a0), (2, .int a1)]) hx hb dX0_shameAt_94 hl (by decide) rfl (fun ls hl => ?_)
    refine nb_w2 (P := fun (x14 : Int32) (x15 : Int32) => ∀ (H : Heap) (locs : List Loc) (ls : Array Slot), nb_W G xc_sh s.heap σ H locs → lv_has ls 5 [(0, .ref (G.2.1 36)), (1, .int a0), (2, .int a1), (3, .int x14), (4, .int x15)] → W p l e rmX0_shameAt s m args below meth c H locs 0 0 (MQ below (nb_Qi G xc_sh (xc_Z (nb_A xc_sh G.2.1) tb) ro σ) args s 0 0 (nb_A xc_sh G.2.1)) (F0 m 96 ls [])) ?_ N _ _ hf H locs ls hW (lv_sub hl [2, 3, 4, 1, 0] rfl)
    intro ag16 ih17 x14 x15 hf H locs ls hW hl
    refine lv_iload hx hb dX0_shameAt_96 (lv_at hl 4 rfl) ?_
    refine lv_aload_n hx hb dX0_shameAt_98 rfl (lv_at hl 0 rfl) ?_
    obtain ⟨p18, ep18, hf⟩ := nb_let_e hf
    obtain ⟨hp19, hf⟩ := nb_g_e hf
    refine nb_get (C := RX0) (T := TX0) (N := 14) hx hb hts inT_X0 hown hK hW 36 rfl rfl 0 (by decide) (hts _ tw1_168) (fun _ h9 => h9) rfl (v := .ref (G.2.1 p18)) (by rw [ep18]; rfl) dX0_shameAt_99 ?_
    refine nb_getN (C := RX4) (T := TX4) (N := 18) (host := "NobodyFirst") hx hb hts inT_X4 hown hK hW p18 (sx_pty_0 hp19) rfl 5 (by decide) (va_Nw.use rfl (hZ.1 ("NobodyFirst$Evening", 69, "NobodyFirst$Party", "told", "LNobodyFirst$Told;", "NobodyFirst") (by decide +kernel))) (fun _ h9 => h9) rfl (v := .ref (G.2.1 (p18 + 5))) rfl dX0_shameAt_102 ?_
    refine nb_getN (C := RX6) (T := TX6) (N := 5) (host := "NobodyFirst") hx hb hts inT_X6 hown hK hW (p18 + 5) (sx_pty_5 hp19) rfl 3 (by decide) (va_Nw.use rfl (hZ.1 ("NobodyFirst$Evening", 127, "NobodyFirst$Told", "words", "I", "NobodyFirst") (by decide +kernel))) (fun _ h9 => h9) rfl (v := .int (σ (p18 + 5) 3)) rfl dX0_shameAt_105 ?_
    obtain ⟨k20, ek20, hf⟩ := nb_let_e hf
    have w21 : ∀ (_u : Unit) (H : Heap) (locs : List Loc) (ls : Array Slot), k20 _u = some ro → nb_W G xc_sh s.heap σ H locs → lv_has ls 5 [(3, .int x14)] → W p l e rmX0_shameAt s m args below meth c H locs 0 0 (MQ below (nb_Qi G xc_sh (xc_Z (nb_A xc_sh G.2.1) tb) ro σ) args s 0 0 (nb_A xc_sh G.2.1)) (F0 m 147 ls []) := by
      intro _u H locs ls hf hW hl
      have hf := (congrFun ek20 _u).symm.trans hf
      refine lv_iload_n hx hb dX0_shameAt_147 rfl (lv_at hl 0 rfl) ?_
      exact nb_rip hx hb hr hlocks hK hZ hZo hW  hf dX0_shameAt_148
    clear ek20
    refine lv_icmp_ge (tgt := 147) hx hb dX0_shameAt_108 (by decide) (fun c22 => ?_) (fun c22 => ?_)
    · rw [if_pos c22] at hf
      exact w21 ()  _ _ _ hf hW (lv_sub hl [3] rfl)
    · rw [if_neg c22] at hf
      refine lv_aload_n hx hb dX0_shameAt_111 rfl (lv_at hl 0 rfl) ?_
      refine nb_get (C := RX0) (T := TX0) (N := 14) hx hb hts inT_X0 hown hK hW 36 rfl rfl 1 (by decide) (hts _ tw1_169) (fun _ h9 => h9) rfl (v := .ref (G.2.1 53)) rfl dX0_shameAt_112 ?_
      refine lv_iload_n hx hb dX0_shameAt_115 rfl (lv_at hl 1 rfl) ?_
      obtain ⟨g23, hf⟩ := nb_g_e hf
      refine nb_iald hx hb hK hW 53 rfl g23 dX0_shameAt_116 ?_
      refine lv_iconst (v := (1 : Int32)) hx hb dX0_shameAt_117 (by decide) ?_
      refine lv_icmp_ne (tgt := 147) hx hb dX0_shameAt_118 (by decide) (fun c24 => ?_) (fun c24 => ?_)
      · rw [if_neg c24] at hf
        exact w21 ()  _ _ _ hf hW (lv_sub hl [3] rfl)
      · rw [if_pos c24] at hf
        refine lv_aload_n hx hb dX0_shameAt_121 rfl (lv_at hl 0 rfl) ?_
        obtain ⟨p25, ep25, hf⟩ := nb_let_e hf
        obtain ⟨hp26, hf⟩ := nb_g_e hf
        refine nb_get (C := RX0) (T := TX0) (N := 14) hx hb hts inT_X0 hown hK hW 36 rfl rfl 0 (by decide) (hts _ tw1_168) (fun _ h9 => h9) rfl (v := .ref (G.2.1 p25)) (by rw [ep25]; rfl) dX0_shameAt_122 ?_
        refine nb_getN (C := RX4) (T := TX4) (N := 18) (host := "NobodyFirst") hx hb hts inT_X4 hown hK hW p25 (sx_pty_0 hp26) rfl 5 (by decide) (va_Nw.use rfl (hZ.1 ("NobodyFirst$Evening", 69, "NobodyFirst$Party", "told", "LNobodyFirst$Told;", "NobodyFirst") (by decide +kernel))) (fun _ h9 => h9) rfl (v := .ref (G.2.1 (p25 + 5))) rfl dX0_shameAt_125 ?_
        refine nb_getN (C := RX6) (T := TX6) (N := 5) (host := "NobodyFirst") hx hb hts inT_X6 hown hK hW (p25 + 5) (sx_pty_5 hp26) rfl 4 (by decide) (va_Nw.use rfl (hZ.1 ("NobodyFirst$Evening", 130, "NobodyFirst$Told", "wordMinute", "[I", "NobodyFirst") (by decide +kernel))) (fun _ h9 => h9) rfl (v := .ref (G.2.1 (p25 + 8))) rfl dX0_shameAt_128 ?_
        refine lv_iload hx hb dX0_shameAt_131 (lv_at hl 4 rfl) ?_
        obtain ⟨g27, hf⟩ := nb_g_e hf
        refine nb_iald hx hb hK hW (p25 + 8) (sx_pty_8 hp26) g27 dX0_shameAt_133 ?_
        refine lv_iload_n hx hb dX0_shameAt_134 rfl (lv_at hl 2 rfl) ?_
        obtain ⟨k28, ek28, hf⟩ := nb_let_e hf
        have w29 : ∀ (x30 : Int32) (H : Heap) (locs : List Loc) (ls : Array Slot), k28 x30 = some ro → nb_W G xc_sh s.heap σ H locs → lv_has ls 5 [(0, .ref (G.2.1 36)), (1, .int a0), (2, .int a1), (3, .int x30), (4, .int x15)] → W p l e rmX0_shameAt s m args below meth c H locs 0 0 (MQ below (nb_Qi G xc_sh (xc_Z (nb_A xc_sh G.2.1) tb) ro σ) args s 0 0 (nb_A xc_sh G.2.1)) (F0 m 141 ls []) := by
          intro x30 H locs ls hf hW hl
          have hf := (congrFun ek28 x30).symm.trans hf
          refine lv_iinc (v := (x15 + 1)) (lv' := [(4, .int (x15 + 1)), (0, .ref (G.2.1 36)), (1, .int a0), (2, .int a1), (3, .int x30)]) hx hb dX0_shameAt_141 hl (k := 4) rfl rfl (by decide) rfl (fun ls hl => ?_)
          refine lv_goto (tgt := 96) hx hb dX0_shameAt_144 (by decide) ?_
          exact ih17 _ _ hf _ _ _ hW (lv_sub hl [1, 2, 3, 4, 0] rfl)
        clear ek28
        refine lv_icmp_gt (tgt := 141) hx hb dX0_shameAt_135 (by decide) (fun c31 => ?_) (fun c31 => ?_)
        · rw [if_pos c31] at hf
          exact w29 _ _ _ _ hf hW (lv_sub hl [0, 1, 2, 3, 4] rfl)
        · rw [if_neg c31] at hf
          refine lv_iinc (v := (x14 + 10)) (lv' := [(3, .int (x14 + 10)), (0, .ref (G.2.1 36)), (1, .int a0), (2, .int a1), (4, .int x15)]) hx hb dX0_shameAt_138 hl (k := 3) rfl rfl (by decide) rfl (fun ls hl => ?_)
          exact w29 _ _ _ _ hf hW (lv_sub hl [1, 2, 3, 0, 4] rfl)
  clear ek11
  refine lv_icmp_ge (tgt := 87) hx hb dX0_shameAt_32 (by decide) (fun c32 => ?_) (fun c32 => ?_)
  · rw [if_pos c32] at hf
    exact w12 ()  _ _ _ hf hW (lv_sub hl [0, 1, 2, 3] rfl)
  · rw [if_neg c32] at hf
    refine lv_aload_n hx hb dX0_shameAt_35 rfl (lv_at hl 0 rfl) ?_
    refine nb_get (C := RX0) (T := TX0) (N := 14) hx hb hts inT_X0 hown hK hW 36 rfl rfl 1 (by decide) (hts _ tw1_169) (fun _ h9 => h9) rfl (v := .ref (G.2.1 53)) rfl dX0_shameAt_36 ?_
    refine lv_iload_n hx hb dX0_shameAt_39 rfl (lv_at hl 1 rfl) ?_
    obtain ⟨g33, hf⟩ := nb_g_e hf
    refine nb_iald hx hb hK hW 53 rfl g33 dX0_shameAt_40 ?_
    refine lv_iconst (v := (2 : Int32)) hx hb dX0_shameAt_41 (by decide) ?_
    refine lv_icmp_eq (tgt := 87) hx hb dX0_shameAt_42 (by decide) (fun c34 => ?_) (fun c34 => ?_)
    · rw [if_pos c34] at hf
      exact w12 ()  _ _ _ hf hW (lv_sub hl [0, 1, 2, 3] rfl)
    · rw [if_neg c34] at hf
      refine lv_aload_n hx hb dX0_shameAt_45 rfl (lv_at hl 0 rfl) ?_
      refine nb_get (C := RX0) (T := TX0) (N := 14) hx hb hts inT_X0 hown hK hW 36 rfl rfl 4 (by decide) (hts _ tw1_172) (fun _ h9 => h9) rfl (v := .ref (G.2.1 55)) rfl dX0_shameAt_46 ?_
      refine lv_iload hx hb dX0_shameAt_49 (lv_at hl 4 rfl) ?_
      obtain ⟨g35, hf⟩ := nb_g_e hf
      refine nb_iald hx hb hK hW 55 rfl g35 dX0_shameAt_51 ?_
      refine lv_iload_n hx hb dX0_shameAt_52 rfl (lv_at hl 2 rfl) ?_
      obtain ⟨k36, ek36, hf⟩ := nb_let_e hf
      have w37 : ∀ (x38 : Int32) (H : Heap) (locs : List Loc) (ls : Array Slot), k36 x38 = some ro → nb_W G xc_sh s.heap σ H locs → lv_has ls 5 [(0, .ref (G.2.1 36)), (1, .int a0), (2, .int a1), (3, .int x38), (4, .int x8)] → W p l e rmX0_shameAt s m args below meth c H locs 0 0 (MQ below (nb_Qi G xc_sh (xc_Z (nb_A xc_sh G.2.1) tb) ro σ) args s 0 0 (nb_A xc_sh G.2.1)) (F0 m 81 ls []) := by
        intro x38 H locs ls hf hW hl
        have hf := (congrFun ek36 x38).symm.trans hf
        refine lv_iinc (v := (x8 + 1)) (lv' := [(4, .int (x8 + 1)), (0, .ref (G.2.1 36)), (1, .int a0), (2, .int a1), (3, .int x38)]) hx hb dX0_shameAt_81 hl (k := 4) rfl rfl (by decide) rfl (fun ls hl => ?_)
        refine lv_goto (tgt := 26) hx hb dX0_shameAt_84 (by decide) ?_
        exact ih10 _ _ hf _ _ _ hW (lv_sub hl [1, 2, 3, 4, 0] rfl)
      clear ek36
      refine lv_icmp_gt (tgt := 81) hx hb dX0_shameAt_53 (by decide) (fun c39 => ?_) (fun c39 => ?_)
      · rw [if_pos c39] at hf
        exact w37 _ _ _ _ hf hW (lv_sub hl [0, 1, 2, 3, 4] rfl)
      · rw [if_neg c39] at hf
        refine lv_aload_n hx hb dX0_shameAt_56 rfl (lv_at hl 0 rfl) ?_
        refine nb_get (C := RX0) (T := TX0) (N := 14) hx hb hts inT_X0 hown hK hW 36 rfl rfl 6 (by decide) (hts _ tw1_174) (fun _ h9 => h9) rfl (v := .ref (G.2.1 57)) rfl dX0_shameAt_57 ?_
        refine lv_iload hx hb dX0_shameAt_60 (lv_at hl 4 rfl) ?_
        obtain ⟨g40, hf⟩ := nb_g_e hf
        refine nb_iald hx hb hK hW 57 rfl g40 dX0_shameAt_62 ?_
        refine lv_iload_n hx hb dX0_shameAt_63 rfl (lv_at hl 1 rfl) ?_
        refine lv_ishr hx hb dX0_shameAt_64 ?_
        refine lv_iconst (v := (1 : Int32)) hx hb dX0_shameAt_65 (by decide) ?_
        refine lv_iand hx hb dX0_shameAt_66 ?_
        refine lv_iconst (v := (1 : Int32)) hx hb dX0_shameAt_67 (by decide) ?_
        refine lv_icmp_ne (tgt := 81) hx hb dX0_shameAt_68 (by decide) (fun c41 => ?_) (fun c41 => ?_)
        · rw [if_neg c41] at hf
          exact w37 _ _ _ _ hf hW (lv_sub hl [0, 1, 2, 3, 4] rfl)
        · rw [if_pos c41] at hf
          refine lv_iload_n hx hb dX0_shameAt_71 rfl (lv_at hl 3 rfl) ?_
          refine lv_aload_n hx hb dX0_shameAt_72 rfl (lv_at hl 0 rfl) ?_
          refine nb_get (C := RX0) (T := TX0) (N := 14) hx hb hts inT_X0 hown hK hW 36 rfl rfl 5 (by decide) (hts _ tw1_173) (fun _ h9 => h9) rfl (v := .ref (G.2.1 56)) rfl dX0_shameAt_73 ?_
          refine lv_iload hx hb dX0_shameAt_76 (lv_at hl 4 rfl) ?_
          obtain ⟨g42, hf⟩ := nb_g_e hf
          refine nb_iald hx hb hK hW 56 rfl g42 dX0_shameAt_78 ?_
          refine lv_isub hx hb dX0_shameAt_79 ?_
          obtain ⟨x43, ex43, hf⟩ := nb_let_e hf
          refine nb_nami ex43 ?_
          refine lv_istore_n (lv' := [(3, .int x43), (0, .ref (G.2.1 36)), (1, .int a0), (2, .int a1), (4, .int x8)]) hx hb dX0_shameAt_80 rfl hl (by decide) rfl (fun ls hl => ?_)
          exact w37 _ _ _ _ hf hW (lv_sub hl [1, 2, 3, 0, 4] rfl)
def fX0_pressesFrom (N : Nat) (σ : nb_St) (a0 : Int32) (a1 : Int32) : Option Int32 :=
  nb_g (nb_in a0 8) (
  nb_let (fun (_u : Unit) =>
  nb_g (nb_in a0 8) (
  nb_let (fun (_u : Unit) =>
  nb_g (nb_in a0 8) (
  some (σ 54 (nb_ix a0)))) fun k5 =>
  (if (σ 53 (nb_ix a0)) = (3 : Int32) then
  k5 ()
  else
  nb_g (nb_in a0 8) (
  nb_let (fun (_u : Unit) =>
  nb_g (nb_in a0 8) (
  nb_b (fX0_shameAt N σ a0 a1) fun r14 =>
  some ((σ 54 (nb_ix a0)) + r14))) fun k10 =>
  (if (σ 53 (nb_ix a0)) = (5 : Int32) then
  (if (σ 36 9) = 0 then
  k10 ()
  else
  k5 ())
  else
  k10 ()))))) fun k2 =>
  (if (σ 53 (nb_ix a0)) = (4 : Int32) then
  nb_let (nb_ix (σ 36 0)) fun p18 =>
  nb_g (xc_pty p18) (
  nb_g (nb_in a0 8) (
  (if (((σ 36 8) &&& ((σ 36 9) ^^^ (-1 : Int32))) &&& (((1 : Int32) <<< ((σ (p18 + 1) (nb_ix a0)) &&& 31)) ^^^ (-1 : Int32))) = 0 then
  k2 ()
  else
  some (100000 : Int32))))
  else
  k2 ()))
def rmX0_pressesFrom : Room := { frames := 2, cells := 0, slots := 0, locals := 45 }
def vsX0_pressesFrom : List Cond := .code yX0_pressesFrom cX0_pressesFrom 3 (some .int) :: xT
set_option maxHeartbeats 4000000 in
set_option maxRecDepth 100000 in
theorem c_X0_pressesFrom (l : Launch) {G : nb_G} {tb : Nat → Nat} (hinj : nb_inj xc_sh G.2.1) (hZo : nb_Zok (nb_A xc_sh G.2.1) (xc_Z (nb_A xc_sh G.2.1) tb)) {N : Nat} {σ : nb_St} {a0 : Int32} {a1 : Int32} {ro : Int32} (hf : fX0_pressesFrom N σ a0 a1 = some ro)  : Met l yX0_pressesFrom vsX0_pressesFrom rmX0_pressesFrom (nb_Pc G xc_sh (xc_Z (nb_A xc_sh G.2.1) tb) σ [.ref (G.2.1 36), .int a0, .int a1]) (nb_Qi G xc_sh (xc_Z (nb_A xc_sh G.2.1) tb) ro σ) 0 0 (nb_A xc_sh G.2.1) := by
  refine Met.ofW (cc := cX0_pressesFrom) (maxL := 3) (ret := (some .int)) (by decide) rfl ?_
  intro p e s m args below meth c s₁ B hml hv
  obtain ⟨rfl, hP, hK, hZ⟩ := hv
  have hx := B.exec
  have hb := B.bytes
  have hr := B.returns
  have hts : ∀ w ∈ xT, w.before _ s = true := fun w h9 => atoms_spec (ws := vsX0_pressesFrom) B.pre w (List.mem_cons_of_mem _ h9)
  have hown : s.vm.findClass RX0 = some m.cls := findClass_of_methodNamed B.named
  have hlocks := B.notSynchronized
  have hW : nb_W G xc_sh s.heap σ s.heap [] := ⟨hP, va_S.rf⟩
  have hl := lv_entry ([.ref (G.2.1 36), .int a0, .int a1]) (n := 3) (Nat.le_of_ble_eq_true rfl)
  rw [lg_entry_eq]
  generalize (lg_sl ([.ref (G.2.1 36), .int a0, .int a1]) ++ List.replicate (3 - (lg_sl ([.ref (G.2.1 36), .int a0, .int a1])).length) Slot.unset).toArray = ls at hl ⊢
  have hl : lv_has ls 3 [(0, .ref (G.2.1 36)), (1, .int a0), (2, .int a1)] := hl
  show W p l e rmX0_pressesFrom s m ([.ref (G.2.1 36), .int a0, .int a1]).toArray below meth c s.heap [] 0 0 (MQ below (nb_Qi G xc_sh (xc_Z (nb_A xc_sh G.2.1) tb) ro σ) ([.ref (G.2.1 36), .int a0, .int a1]).toArray s 0 0 (nb_A xc_sh G.2.1)) (F0 m 0 ls [])
  generalize hargs : ([.ref (G.2.1 36), .int a0, .int a1] : List Value).toArray = args at hts ⊢
  unfold fX0_pressesFrom at hf
  obtain ⟨H, eH⟩ : ∃ H, H = s.heap := ⟨_, rfl⟩
  obtain ⟨locs, eL⟩ : ∃ L : List Loc, L = [] := ⟨_, rfl⟩
  have hW : nb_W G xc_sh s.heap σ H locs := by rw [eH, eL]; exact hW
  suffices hgo : W p l e rmX0_pressesFrom s m args below meth c H locs 0 0 (MQ below (nb_Qi G xc_sh (xc_Z (nb_A xc_sh G.2.1) tb) ro σ) args s 0 0 (nb_A xc_sh G.2.1)) (F0 m 0 ls []) by rw [eH, eL] at hgo; exact hgo
  clear eH eL
  refine lv_aload_n hx hb dX0_pressesFrom_0 rfl (lv_at hl 0 rfl) ?_
  refine nb_get (C := RX0) (T := TX0) (N := 14) hx hb hts inT_X0 hown hK hW 36 rfl rfl 1 (by decide) (hts _ tw1_169) (fun _ h9 => h9) rfl (v := .ref (G.2.1 53)) rfl dX0_pressesFrom_1 ?_
  refine lv_iload_n hx hb dX0_pressesFrom_4 rfl (lv_at hl 1 rfl) ?_
  obtain ⟨g1, hf⟩ := nb_g_e hf
  refine nb_iald hx hb hK hW 53 rfl g1 dX0_pressesFrom_5 ?_
  refine lv_iconst (v := (4 : Int32)) hx hb dX0_pressesFrom_6 (by decide) ?_
  obtain ⟨k2, ek2, hf⟩ := nb_let_e hf
  have w3 : ∀ (_u : Unit) (H : Heap) (locs : List Loc) (ls : Array Slot), k2 _u = some ro → nb_W G xc_sh s.heap σ H locs → lv_has ls 3 [(0, .ref (G.2.1 36)), (1, .int a0), (2, .int a1)] → W p l e rmX0_pressesFrom s m args below meth c H locs 0 0 (MQ below (nb_Qi G xc_sh (xc_Z (nb_A xc_sh G.2.1) tb) ro σ) args s 0 0 (nb_A xc_sh G.2.1)) (F0 m 41 ls []) := by
    intro _u H locs ls hf hW hl
    have hf := (congrFun ek2 _u).symm.trans hf
    refine lv_aload_n hx hb dX0_pressesFrom_41 rfl (lv_at hl 0 rfl) ?_
    refine nb_get (C := RX0) (T := TX0) (N := 14) hx hb hts inT_X0 hown hK hW 36 rfl rfl 1 (by decide) (hts _ tw1_169) (fun _ h9 => h9) rfl (v := .ref (G.2.1 53)) rfl dX0_pressesFrom_42 ?_
    refine lv_iload_n hx hb dX0_pressesFrom_45 rfl (lv_at hl 1 rfl) ?_
    obtain ⟨g4, hf⟩ := nb_g_e hf
    refine nb_iald hx hb hK hW 53 rfl g4 dX0_pressesFrom_46 ?_
    refine lv_iconst (v := (3 : Int32)) hx hb dX0_pressesFrom_47 (by decide) ?_
    obtain ⟨k5, ek5, hf⟩ := nb_let_e hf
    have w6 : ∀ (_u : Unit) (H : Heap) (locs : List Loc) (ls : Array Slot), k5 _u = some ro → nb_W G xc_sh s.heap σ H locs → lv_has ls 3 [(0, .ref (G.2.1 36)), (1, .int a0)] → W p l e rmX0_pressesFrom s m args below meth c H locs 0 0 (MQ below (nb_Qi G xc_sh (xc_Z (nb_A xc_sh G.2.1) tb) ro σ) args s 0 0 (nb_A xc_sh G.2.1)) (F0 m 68 ls []) := by
      intro _u H locs ls hf hW hl
      have hf := (congrFun ek5 _u).symm.trans hf
      refine lv_aload_n hx hb dX0_pressesFrom_68 rfl (lv_at hl 0 rfl) ?_
      refine nb_get (C := RX0) (T := TX0) (N := 14) hx hb hts inT_X0 hown hK hW 36 rfl rfl 2 (by decide) (hts _ tw1_170) (fun _ h9 => h9) rfl (v := .ref (G.2.1 54)) rfl dX0_pressesFrom_69 ?_
      refine lv_iload_n hx hb dX0_pressesFrom_72 rfl (lv_at hl 1 rfl) ?_
      obtain ⟨g7, hf⟩ := nb_g_e hf
      refine nb_iald hx hb hK hW 54 rfl g7 dX0_pressesFrom_73 ?_
      exact nb_rip hx hb hr hlocks hK hZ hZo hW  hf dX0_pressesFrom_74
    clear ek5
    refine lv_icmp_eq (tgt := 68) hx hb dX0_pressesFrom_48 (by decide) (fun c8 => ?_) (fun c8 => ?_)
    · rw [if_pos c8] at hf
      exact w6 ()  _ _ _ hf hW (lv_sub hl [0, 1] rfl)
    · rw [if_neg c8] at hf
      refine lv_aload_n hx hb dX0_pressesFrom_51 rfl (lv_at hl 0 rfl) ?_
      refine nb_get (C := RX0) (T := TX0) (N := 14) hx hb hts inT_X0 hown hK hW 36 rfl rfl 1 (by decide) (hts _ tw1_169) (fun _ h9 => h9) rfl (v := .ref (G.2.1 53)) rfl dX0_pressesFrom_52 ?_
      refine lv_iload_n hx hb dX0_pressesFrom_55 rfl (lv_at hl 1 rfl) ?_
      obtain ⟨g9, hf⟩ := nb_g_e hf
      refine nb_iald hx hb hK hW 53 rfl g9 dX0_pressesFrom_56 ?_
      refine lv_iconst (v := (5 : Int32)) hx hb dX0_pressesFrom_57 (by decide) ?_
      obtain ⟨k10, ek10, hf⟩ := nb_let_e hf
      have w11 : ∀ (_u : Unit) (H : Heap) (locs : List Loc) (ls : Array Slot), k10 _u = some ro → nb_W G xc_sh s.heap σ H locs → lv_has ls 3 [(0, .ref (G.2.1 36)), (1, .int a0), (2, .int a1)] → W p l e rmX0_pressesFrom s m args below meth c H locs 0 0 (MQ below (nb_Qi G xc_sh (xc_Z (nb_A xc_sh G.2.1) tb) ro σ) args s 0 0 (nb_A xc_sh G.2.1)) (F0 m 75 ls []) := by
        intro _u H locs ls hf hW hl
        have hf := (congrFun ek10 _u).symm.trans hf
        refine lv_aload_n hx hb dX0_pressesFrom_75 rfl (lv_at hl 0 rfl) ?_
        refine nb_get (C := RX0) (T := TX0) (N := 14) hx hb hts inT_X0 hown hK hW 36 rfl rfl 2 (by decide) (hts _ tw1_170) (fun _ h9 => h9) rfl (v := .ref (G.2.1 54)) rfl dX0_pressesFrom_76 ?_
        refine lv_iload_n hx hb dX0_pressesFrom_79 rfl (lv_at hl 1 rfl) ?_
        obtain ⟨g12, hf⟩ := nb_g_e hf
        refine nb_iald hx hb hK hW 54 rfl g12 dX0_pressesFrom_80 ?_
        refine lv_aload_n hx hb dX0_pressesFrom_81 rfl (lv_at hl 0 rfl) ?_
        refine lv_iload_n hx hb dX0_pressesFrom_82 rfl (lv_at hl 1 rfl) ?_
        refine lv_iload_n hx hb dX0_pressesFrom_83 rfl (lv_at hl 2 rfl) ?_
        obtain ⟨r14, hc13, hf⟩ := nb_b_e hf
        refine nb_ci hW (va_runV (As := [.int a0, .int a1]) (rest := [.int (σ 54 (nb_ix a0))]) ⟨hx, hb, hml, hown, hts⟩ (c_X0_shameAt l hinj hZo (N := N) hc13 ) (cwV 2 hts (xg_V tw3_79 tw3_80 tw3_81 tw1_5 tw3_82) rfl rfl rfl (by decide +kernel) ⟨Nat.le_of_ble_eq_true rfl, Nat.le_of_ble_eq_true rfl⟩) (nb_preV hK hZ hZo hW (k := 36) rfl rfl) rfl rfl hl.1 rfl (lv_room (Nat.le_of_ble_eq_true rfl)) dX0_pressesFrom_84 ⟨Nat.zero_le _, Nat.zero_le _⟩) (fun H locs hW => ?_)
        refine lv_iadd hx hb dX0_pressesFrom_87 ?_
        exact nb_rip hx hb hr hlocks hK hZ hZo hW  hf dX0_pressesFrom_88
      clear ek10
      refine lv_icmp_ne (tgt := 75) hx hb dX0_pressesFrom_58 (by decide) (fun c15 => ?_) (fun c15 => ?_)
      · rw [if_neg c15] at hf
        exact w11 ()  _ _ _ hf hW (lv_sub hl [0, 1, 2] rfl)
      · rw [if_pos c15] at hf
        refine lv_aload_n hx hb dX0_pressesFrom_61 rfl (lv_at hl 0 rfl) ?_
        refine nb_get (C := RX0) (T := TX0) (N := 14) hx hb hts inT_X0 hown hK hW 36 rfl rfl 9 (by decide) (hts _ tw1_177) (fun _ h9 => h9) rfl (v := .int (σ 36 9)) rfl dX0_pressesFrom_62 ?_
        refine lv_if_eq (tgt := 75) hx hb dX0_pressesFrom_65 (by decide) (fun c16 => ?_) (fun c16 => ?_)
        · rw [if_pos c16] at hf
          exact w11 ()  _ _ _ hf hW (lv_sub hl [0, 1, 2] rfl)
        · rw [if_neg c16] at hf
          exact w6 ()  _ _ _ hf hW (lv_sub hl [0, 1] rfl)
  clear ek2
  refine lv_icmp_ne (tgt := 41) hx hb dX0_pressesFrom_7 (by decide) (fun c17 => ?_) (fun c17 => ?_)
  · rw [if_neg c17] at hf
    exact w3 ()  _ _ _ hf hW (lv_sub hl [0, 1, 2] rfl)
  · rw [if_pos c17] at hf
    refine lv_aload_n hx hb dX0_pressesFrom_10 rfl (lv_at hl 0 rfl) ?_
    refine nb_get (C := RX0) (T := TX0) (N := 14) hx hb hts inT_X0 hown hK hW 36 rfl rfl 8 (by decide) (hts _ tw1_176) (fun _ h9 => h9) rfl (v := .int (σ 36 8)) rfl dX0_pressesFrom_11 ?_
    refine lv_aload_n hx hb dX0_pressesFrom_14 rfl (lv_at hl 0 rfl) ?_
    refine nb_get (C := RX0) (T := TX0) (N := 14) hx hb hts inT_X0 hown hK hW 36 rfl rfl 9 (by decide) (hts _ tw1_177) (fun _ h9 => h9) rfl (v := .int (σ 36 9)) rfl dX0_pressesFrom_15 ?_
    refine lv_iconst (v := (-1 : Int32)) hx hb dX0_pressesFrom_18 (by decide) ?_
    refine lv_ixor hx hb dX0_pressesFrom_19 ?_
    refine lv_iand hx hb dX0_pressesFrom_20 ?_
    refine lv_iconst (v := (1 : Int32)) hx hb dX0_pressesFrom_21 (by decide) ?_
    refine lv_aload_n hx hb dX0_pressesFrom_22 rfl (lv_at hl 0 rfl) ?_
    obtain ⟨p18, ep18, hf⟩ := nb_let_e hf
    obtain ⟨hp19, hf⟩ := nb_g_e hf
    refine nb_get (C := RX0) (T := TX0) (N := 14) hx hb hts inT_X0 hown hK hW 36 rfl rfl 0 (by decide) (hts _ tw1_168) (fun _ h9 => h9) rfl (v := .ref (G.2.1 p18)) (by rw [ep18]; rfl) dX0_pressesFrom_23 ?_
    refine nb_getN (C := RX4) (T := TX4) (N := 18) (host := "NobodyFirst") hx hb hts inT_X4 hown hK hW p18 (sx_pty_0 hp19) rfl 1 (by decide) (va_Nw.use rfl (hZ.1 ("NobodyFirst$Evening", 62, "NobodyFirst$Party", "pair", "[I", "NobodyFirst") (by decide +kernel))) (fun _ h9 => h9) rfl (v := .ref (G.2.1 (p18 + 1))) rfl dX0_pressesFrom_26 ?_
    refine lv_iload_n hx hb dX0_pressesFrom_29 rfl (lv_at hl 1 rfl) ?_
    obtain ⟨g20, hf⟩ := nb_g_e hf
    refine nb_iald hx hb hK hW (p18 + 1) (sx_pty_1 hp19) g20 dX0_pressesFrom_30 ?_
    refine lv_ishl hx hb dX0_pressesFrom_31 ?_
    refine lv_iconst (v := (-1 : Int32)) hx hb dX0_pressesFrom_32 (by decide) ?_
    refine lv_ixor hx hb dX0_pressesFrom_33 ?_
    refine lv_iand hx hb dX0_pressesFrom_34 ?_
    refine lv_if_eq (tgt := 41) hx hb dX0_pressesFrom_35 (by decide) (fun c21 => ?_) (fun c21 => ?_)
    · rw [if_pos c21] at hf
      exact w3 ()  _ _ _ hf hW (lv_sub hl [0, 1, 2] rfl)
    · rw [if_neg c21] at hf
      refine lv_ldc (own := RX0) (v := (100000 : Int32)) hx hb hown (hts _ tw3_56) dX0_pressesFrom_38 ?_
      exact nb_rip hx hb hr hlocks hK hZ hZo hW  hf dX0_pressesFrom_40
def fX0_pairFrom (N : Nat) (σ : nb_St) (a0 : Int32) (a1 : Int32) : Option Int32 :=
  nb_lp3 (R := Int32) (fun ag4 (x1 : Int32) (x2 : Int32) (x3 : Int32) =>
  nb_let (nb_ix (σ 36 0)) fun p6 =>
  nb_g (xc_pty p6) (
  (if (σ p6 0) ≤ x3 then
  nb_let (nb_min x1 x2) fun v9 =>
  some v9
  else
  nb_let (nb_ix (σ 36 0)) fun p10 =>
  nb_g (xc_pty p10) (
  nb_g (nb_in x3 8) (
  nb_let (fun (x15 : Int32) (x16 : Int32) =>
  ag4 x15 x16 (x3 + 1)) fun k13 =>
  (if (σ (p10 + 1) (nb_ix x3)) = a0 then
  nb_b (fX0_pressesFrom N σ x3 a1) fun r19 =>
  nb_let (nb_max x1 r19) fun v20 =>
  nb_g (nb_in x3 8) (
  (if (σ 53 (nb_ix x3)) = (3 : Int32) then
  nb_let (nb_min x2 r19) fun v23 =>
  k13 v20 v23
  else
  k13 v20 x2))
  else
  k13 x1 x2)))))) N (0 : Int32) (100000 : Int32) (0 : Int32)
def rmX0_pairFrom : Room := { frames := 3, cells := 0, slots := 0, locals := 67 }
def vsX0_pairFrom : List Cond := .code yX0_pairFrom cX0_pairFrom 7 (some .int) :: xT
set_option maxHeartbeats 4000000 in
set_option maxRecDepth 100000 in
theorem c_X0_pairFrom (l : Launch) {G : nb_G} {tb : Nat → Nat} (hinj : nb_inj xc_sh G.2.1) (hZo : nb_Zok (nb_A xc_sh G.2.1) (xc_Z (nb_A xc_sh G.2.1) tb)) {N : Nat} {σ : nb_St} {a0 : Int32} {a1 : Int32} {ro : Int32} (hf : fX0_pairFrom N σ a0 a1 = some ro)  : Met l yX0_pairFrom vsX0_pairFrom rmX0_pairFrom (nb_Pc G xc_sh (xc_Z (nb_A xc_sh G.2.1) tb) σ [.ref (G.2.1 36), .int a0, .int a1]) (nb_Qi G xc_sh (xc_Z (nb_A xc_sh G.2.1) tb) ro σ) 0 0 (nb_A xc_sh G.2.1) := by
  refine Met.ofW (cc := cX0_pairFrom) (maxL := 7) (ret := (some .int)) (by decide) rfl ?_
  intro p e s m args below meth c s₁ B hml hv
  obtain ⟨rfl, hP, hK, hZ⟩ := hv
  have hx := B.exec
  have hb := B.bytes
  have hr := B.returns
  have hts : ∀ w ∈ xT, w.before _ s = true := fun w h9 => atoms_spec (ws := vsX0_pairFrom) B.pre w (List.mem_cons_of_mem _ h9)
  have hown : s.vm.findClass RX0 = some m.cls := findClass_of_methodNamed B.named
  have hlocks := B.notSynchronized
  have hW : nb_W G xc_sh s.heap σ s.heap [] := ⟨hP, va_S.rf⟩
  have hl := lv_entry ([.ref (G.2.1 36), .int a0, .int a1]) (n := 7) (Nat.le_of_ble_eq_true rfl)
  rw [lg_entry_eq]
  generalize (lg_sl ([.ref (G.2.1 36), .int a0, .int a1]) ++ List.replicate (7 - (lg_sl ([.ref (G.2.1 36), .int a0, .int a1])).length) Slot.unset).toArray = ls at hl ⊢
  have hl : lv_has ls 7 [(0, .ref (G.2.1 36)), (1, .int a0), (2, .int a1)] := hl
  show W p l e rmX0_pairFrom s m ([.ref (G.2.1 36), .int a0, .int a1]).toArray below meth c s.heap [] 0 0 (MQ below (nb_Qi G xc_sh (xc_Z (nb_A xc_sh G.2.1) tb) ro σ) ([.ref (G.2.1 36), .int a0, .int a1]).toArray s 0 0 (nb_A xc_sh G.2.1)) (F0 m 0 ls [])
  generalize hargs : ([.ref (G.2.1 36), .int a0, .int a1] : List Value).toArray = args at hts ⊢
  unfold fX0_pairFrom at hf
  obtain ⟨H, eH⟩ : ∃ H, H = s.heap := ⟨_, rfl⟩
  obtain ⟨locs, eL⟩ : ∃ L : List Loc, L = [] := ⟨_, rfl⟩
  have hW : nb_W G xc_sh s.heap σ H locs := by rw [eH, eL]; exact hW
  suffices hgo : W p l e rmX0_pairFrom s m args below meth c H locs 0 0 (MQ below (nb_Qi G xc_sh (xc_Z (nb_A xc_sh G.2.1) tb) ro σ) args s 0 0 (nb_A xc_sh G.2.1)) (F0 m 0 ls []) by rw [eH, eL] at hgo; exact hgo
  clear eH eL
  refine lv_iconst (v := (0 : Int32)) hx hb dX0_pairFrom_0 (by decide) ?_
  refine lv_istore_n (lv' := [(3, .int (0 : Int32)), (0, .ref (G.2.1 36)), (1, .int a0), (2, .int a1)]) hx hb dX0_pairFrom_1 rfl hl (by decide) rfl (fun ls hl => ?_)
  refine lv_ldc (own := RX0) (v := (100000 : Int32)) hx hb hown (hts _ tw3_56) dX0_pairFrom_2 ?_
  refine lv_istore (lv' := [(4, .int (100000 : Int32)), (3, .int (0 : Int32)), (0, .ref (G.2.1 36)), (1, .int a0), (2, .int a1)]) hx hb dX0_pairFrom_4 hl (by decide) rfl (fun ls hl => ?_)
  refine lv_iconst (v := (0 : Int32)) hx hb dX0_pairFrom_6 (by decide) ?_
  refine lv_istore (lv' := [(5, .int (0 : Int32)), (4, .int (100000 : Int32)), (3, .int (0 : Int32)), (0, .ref (G.2.1 36)), (1, .int a0), (2, .int a1)]) hx hb dX0_pairFrom_7 hl (by decide) rfl (fun ls hl => ?_)
  refine nb_w3 (P := fun (x1 : Int32) (x2 : Int32) (x3 : Int32) => ∀ (H : Heap) (locs : List Loc) (ls : Array Slot), nb_W G xc_sh s.heap σ H locs → lv_has ls 7 [(0, .ref (G.2.1 36)), (1, .int a0), (2, .int a1), (3, .int x1), (4, .int x2), (5, .int x3)] → W p l e rmX0_pairFrom s m args below meth c H locs 0 0 (MQ below (nb_Qi G xc_sh (xc_Z (nb_A xc_sh G.2.1) tb) ro σ) args s 0 0 (nb_A xc_sh G.2.1)) (F0 m 9 ls [])) ?_ N _ _ _ hf H locs ls hW (lv_sub hl [3, 4, 5, 2, 1, 0] rfl)
  intro ag4 ih5 x1 x2 x3 hf H locs ls hW hl
  refine lv_iload hx hb dX0_pairFrom_9 (lv_at hl 5 rfl) ?_
  refine lv_aload_n hx hb dX0_pairFrom_11 rfl (lv_at hl 0 rfl) ?_
  obtain ⟨p6, ep6, hf⟩ := nb_let_e hf
  obtain ⟨hp7, hf⟩ := nb_g_e hf
  refine nb_get (C := RX0) (T := TX0) (N := 14) hx hb hts inT_X0 hown hK hW 36 rfl rfl 0 (by decide) (hts _ tw1_168) (fun _ h9 => h9) rfl (v := .ref (G.2.1 p6)) (by rw [ep6]; rfl) dX0_pairFrom_12 ?_
  refine nb_getN (C := RX4) (T := TX4) (N := 18) (host := "NobodyFirst") hx hb hts inT_X4 hown hK hW p6 (sx_pty_0 hp7) rfl 0 (by decide) (va_Nw.use rfl (hZ.1 ("NobodyFirst$Evening", 59, "NobodyFirst$Party", "guests", "I", "NobodyFirst") (by decide +kernel))) (fun _ h9 => h9) rfl (v := .int (σ p6 0)) rfl dX0_pairFrom_15 ?_
  refine lv_icmp_ge (tgt := 77) hx hb dX0_pairFrom_18 (by decide) (fun c8 => ?_) (fun c8 => ?_)
  · rw [if_pos c8] at hf
    refine lv_iload_n hx hb dX0_pairFrom_77 rfl (lv_at hl 3 rfl) ?_
    refine lv_iload hx hb dX0_pairFrom_78 (lv_at hl 4 rfl) ?_
    refine va_mmin hx hb (hml.trans hl.1.symm) hown (hts _ tw3_66) (hts _ tw2_158) (hts _ tw1_9) (hts _ tw2_159) (Nat.le_of_ble_eq_true rfl) (Nat.le_of_ble_eq_true rfl) (Nat.zero_le _) (Nat.zero_le _) dX0_pairFrom_80 ?_
    show W p l e rmX0_pairFrom s m args below meth c H locs 0 0 (MQ below (nb_Qi G xc_sh (xc_Z (nb_A xc_sh G.2.1) tb) ro σ) args s 0 0 (nb_A xc_sh G.2.1)) (F0 m 83 ls [.int (nb_min x1 x2)])
    obtain ⟨v9, ev9, hf⟩ := nb_let_e hf
    refine nb_nami ev9 ?_
    exact nb_rip hx hb hr hlocks hK hZ hZo hW  hf dX0_pairFrom_83
  · rw [if_neg c8] at hf
    refine lv_aload_n hx hb dX0_pairFrom_21 rfl (lv_at hl 0 rfl) ?_
    obtain ⟨p10, ep10, hf⟩ := nb_let_e hf
    obtain ⟨hp11, hf⟩ := nb_g_e hf
    refine nb_get (C := RX0) (T := TX0) (N := 14) hx hb hts inT_X0 hown hK hW 36 rfl rfl 0 (by decide) (hts _ tw1_168) (fun _ h9 => h9) rfl (v := .ref (G.2.1 p10)) (by rw [ep10]; rfl) dX0_pairFrom_22 ?_
    refine nb_getN (C := RX4) (T := TX4) (N := 18) (host := "NobodyFirst") hx hb hts inT_X4 hown hK hW p10 (sx_pty_0 hp11) rfl 1 (by decide) (va_Nw.use rfl (hZ.1 ("NobodyFirst$Evening", 62, "NobodyFirst$Party", "pair", "[I", "NobodyFirst") (by decide +kernel))) (fun _ h9 => h9) rfl (v := .ref (G.2.1 (p10 + 1))) rfl dX0_pairFrom_25 ?_
    refine lv_iload hx hb dX0_pairFrom_28 (lv_at hl 5 rfl) ?_
    obtain ⟨g12, hf⟩ := nb_g_e hf
    refine nb_iald hx hb hK hW (p10 + 1) (sx_pty_1 hp11) g12 dX0_pairFrom_30 ?_
    refine lv_iload_n hx hb dX0_pairFrom_31 rfl (lv_at hl 1 rfl) ?_
    obtain ⟨k13, ek13, hf⟩ := nb_let_e hf
    have w14 : ∀ (x15 : Int32) (x16 : Int32) (H : Heap) (locs : List Loc) (ls : Array Slot), k13 x15 x16 = some ro → nb_W G xc_sh s.heap σ H locs → lv_has ls 7 [(0, .ref (G.2.1 36)), (1, .int a0), (2, .int a1), (3, .int x15), (4, .int x16), (5, .int x3)] → W p l e rmX0_pairFrom s m args below meth c H locs 0 0 (MQ below (nb_Qi G xc_sh (xc_Z (nb_A xc_sh G.2.1) tb) ro σ) args s 0 0 (nb_A xc_sh G.2.1)) (F0 m 71 ls []) := by
      intro x15 x16 H locs ls hf hW hl
      have hf := (congrFun (congrFun ek13 x15) x16).symm.trans hf
      refine lv_iinc (v := (x3 + 1)) (lv' := [(5, .int (x3 + 1)), (0, .ref (G.2.1 36)), (1, .int a0), (2, .int a1), (3, .int x15), (4, .int x16)]) hx hb dX0_pairFrom_71 hl (k := 5) rfl rfl (by decide) rfl (fun ls hl => ?_)
      refine lv_goto (tgt := 9) hx hb dX0_pairFrom_74 (by decide) ?_
      exact ih5 _ _ _ hf _ _ _ hW (lv_sub hl [1, 2, 3, 4, 5, 0] rfl)
    clear ek13
    refine lv_icmp_ne (tgt := 71) hx hb dX0_pairFrom_32 (by decide) (fun c17 => ?_) (fun c17 => ?_)
    · rw [if_neg c17] at hf
      exact w14 _ _ _ _ _ hf hW (lv_sub hl [0, 1, 2, 3, 4, 5] rfl)
    · rw [if_pos c17] at hf
      refine lv_aload_n hx hb dX0_pairFrom_35 rfl (lv_at hl 0 rfl) ?_
      refine lv_iload hx hb dX0_pairFrom_36 (lv_at hl 5 rfl) ?_
      refine lv_iload_n hx hb dX0_pairFrom_38 rfl (lv_at hl 2 rfl) ?_
      obtain ⟨r19, hc18, hf⟩ := nb_b_e hf
      refine nb_ci hW (va_runV (As := [.int x3, .int a1]) (rest := []) ⟨hx, hb, hml, hown, hts⟩ (c_X0_pressesFrom l hinj hZo (N := N) hc18 ) (cwV 2 hts (xg_V tw3_75 tw3_76 tw3_77 tw1_5 tw3_78) rfl rfl rfl (by decide +kernel) ⟨Nat.le_of_ble_eq_true rfl, Nat.le_of_ble_eq_true rfl⟩) (nb_preV hK hZ hZo hW (k := 36) rfl rfl) rfl rfl hl.1 rfl (lv_room (Nat.le_of_ble_eq_true rfl)) dX0_pairFrom_39 ⟨Nat.zero_le _, Nat.zero_le _⟩) (fun H locs hW => ?_)
      refine lv_istore (lv' := [(6, .int r19), (0, .ref (G.2.1 36)), (1, .int a0), (2, .int a1), (3, .int x1), (4, .int x2), (5, .int x3)]) hx hb dX0_pairFrom_42 hl (by decide) rfl (fun ls hl => ?_)
      refine lv_iload_n hx hb dX0_pairFrom_44 rfl (lv_at hl 4 rfl) ?_
      refine lv_iload hx hb dX0_pairFrom_45 (lv_at hl 0 rfl) ?_
      refine va_mmax hx hb (hml.trans hl.1.symm) hown (hts _ tw3_83) (hts _ tw2_67) (hts _ tw1_9) (hts _ tw2_68) (Nat.le_of_ble_eq_true rfl) (Nat.le_of_ble_eq_true rfl) (Nat.zero_le _) (Nat.zero_le _) dX0_pairFrom_47 ?_
      show W p l e rmX0_pairFrom s m args below meth c H locs 0 0 (MQ below (nb_Qi G xc_sh (xc_Z (nb_A xc_sh G.2.1) tb) ro σ) args s 0 0 (nb_A xc_sh G.2.1)) (F0 m 50 ls [.int (nb_max x1 r19)])
      obtain ⟨v20, ev20, hf⟩ := nb_let_e hf
      refine nb_nami ev20 ?_
      refine lv_istore_n (lv' := [(3, .int v20), (6, .int r19), (0, .ref (G.2.1 36)), (1, .int a0), (2, .int a1), (4, .int x2), (5, .int x3)]) hx hb dX0_pairFrom_50 rfl hl (by decide) rfl (fun ls hl => ?_)
      refine lv_aload_n hx hb dX0_pairFrom_51 rfl (lv_at hl 2 rfl) ?_
      refine nb_get (C := RX0) (T := TX0) (N := 14) hx hb hts inT_X0 hown hK hW 36 rfl rfl 1 (by decide) (hts _ tw1_169) (fun _ h9 => h9) rfl (v := .ref (G.2.1 53)) rfl dX0_pairFrom_52 ?_
      refine lv_iload hx hb dX0_pairFrom_55 (lv_at hl 6 rfl) ?_
      obtain ⟨g21, hf⟩ := nb_g_e hf
      refine nb_iald hx hb hK hW 53 rfl g21 dX0_pairFrom_57 ?_
      refine lv_iconst (v := (3 : Int32)) hx hb dX0_pairFrom_58 (by decide) ?_
      refine lv_icmp_ne (tgt := 71) hx hb dX0_pairFrom_59 (by decide) (fun c22 => ?_) (fun c22 => ?_)
      · rw [if_neg c22] at hf
        exact w14 _ _ _ _ _ hf hW (lv_sub hl [2, 3, 4, 0, 5, 6] rfl)
      · rw [if_pos c22] at hf
        refine lv_iload hx hb dX0_pairFrom_62 (lv_at hl 5 rfl) ?_
        refine lv_iload hx hb dX0_pairFrom_64 (lv_at hl 1 rfl) ?_
        refine va_mmin hx hb (hml.trans hl.1.symm) hown (hts _ tw3_66) (hts _ tw2_158) (hts _ tw1_9) (hts _ tw2_159) (Nat.le_of_ble_eq_true rfl) (Nat.le_of_ble_eq_true rfl) (Nat.zero_le _) (Nat.zero_le _) dX0_pairFrom_66 ?_
        show W p l e rmX0_pairFrom s m args below meth c H locs 0 0 (MQ below (nb_Qi G xc_sh (xc_Z (nb_A xc_sh G.2.1) tb) ro σ) args s 0 0 (nb_A xc_sh G.2.1)) (F0 m 69 ls [.int (nb_min x2 r19)])
        obtain ⟨v23, ev23, hf⟩ := nb_let_e hf
        refine nb_nami ev23 ?_
        refine lv_istore (lv' := [(4, .int v23), (3, .int v20), (6, .int r19), (0, .ref (G.2.1 36)), (1, .int a0), (2, .int a1), (5, .int x3)]) hx hb dX0_pairFrom_69 hl (by decide) rfl (fun ls hl => ?_)
        exact w14 _ _ _ _ _ hf hW (lv_sub hl [3, 4, 5, 1, 0, 6] rfl)
def fX0_lookAt (N : Nat) (σ : nb_St) (a0 : Int32) : Option nb_St :=
  nb_let (nb_st σ 36 9 (0 : Int32)) fun σ1 =>
  nb_let (nb_st σ1 36 10 (0 : Int32)) fun σ2 =>
  nb_lp2 (R := nb_St) (fun ag5 (x3 : Int32) (σ4 : nb_St) =>
  nb_let (nb_ix (σ4 36 0)) fun p7 =>
  nb_g (xc_pty p7) (
  (if (σ4 p7 0) ≤ x3 then
  some σ4
  else
  nb_let (nb_ix (σ4 36 0)) fun p10 =>
  nb_g (xc_pty p10) (
  nb_g (nb_in x3 8) (
  nb_let (σ4 (p10 + 1) (nb_ix x3)) fun x13 =>
  nb_g (nb_in x13 4) (
  nb_let (fun (σ17 : nb_St) =>
  ag5 (x3 + 1) σ17) fun k15 =>
  (if a0 ≤ (σ4 59 (nb_ix x13)) then
  k15 σ4
  else
  nb_let (nb_st σ4 36 9 ((σ4 36 9) ||| ((1 : Int32) <<< (x13 &&& 31)))) fun σ19 =>
  nb_let (nb_st σ19 36 10 ((σ19 36 10) + (1 : Int32))) fun σ20 =>
  k15 σ20))))))) N (0 : Int32) σ2
def rmX0_lookAt : Room := { frames := 0, cells := 0, slots := 0, locals := 0 }
def vsX0_lookAt : List Cond := .code yX0_lookAt cX0_lookAt 4 none :: xT
set_option maxHeartbeats 4000000 in
set_option maxRecDepth 100000 in
theorem c_X0_lookAt (l : Launch) {G : nb_G} {tb : Nat → Nat} (hinj : nb_inj xc_sh G.2.1) (hZo : nb_Zok (nb_A xc_sh G.2.1) (xc_Z (nb_A xc_sh G.2.1) tb)) {N : Nat} {σ : nb_St} {a0 : Int32} {σo : nb_St} (hf : fX0_lookAt N σ a0 = some σo)  : Met l yX0_lookAt vsX0_lookAt rmX0_lookAt (nb_Pc G xc_sh (xc_Z (nb_A xc_sh G.2.1) tb) σ [.ref (G.2.1 36), .int a0]) (nb_Qv G xc_sh (xc_Z (nb_A xc_sh G.2.1) tb) σo) 0 0 (nb_A xc_sh G.2.1) := by
  refine Met.ofW (cc := cX0_lookAt) (maxL := 4) (ret := none) (by decide) rfl ?_
  intro p e s m args below meth c s₁ B hml hv
  obtain ⟨rfl, hP, hK, hZ⟩ := hv
  have hx := B.exec
  have hb := B.bytes
  have hr := B.returns
  have hts : ∀ w ∈ xT, w.before _ s = true := fun w h9 => atoms_spec (ws := vsX0_lookAt) B.pre w (List.mem_cons_of_mem _ h9)
  have hown : s.vm.findClass RX0 = some m.cls := findClass_of_methodNamed B.named
  have hlocks := B.notSynchronized
  have hW : nb_W G xc_sh s.heap σ s.heap [] := ⟨hP, va_S.rf⟩
  have hl := lv_entry ([.ref (G.2.1 36), .int a0]) (n := 4) (Nat.le_of_ble_eq_true rfl)
  rw [lg_entry_eq]
  generalize (lg_sl ([.ref (G.2.1 36), .int a0]) ++ List.replicate (4 - (lg_sl ([.ref (G.2.1 36), .int a0])).length) Slot.unset).toArray = ls at hl ⊢
  have hl : lv_has ls 4 [(0, .ref (G.2.1 36)), (1, .int a0)] := hl
  show W p l e rmX0_lookAt s m ([.ref (G.2.1 36), .int a0]).toArray below meth c s.heap [] 0 0 (MQ below (nb_Qv G xc_sh (xc_Z (nb_A xc_sh G.2.1) tb) σo) ([.ref (G.2.1 36), .int a0]).toArray s 0 0 (nb_A xc_sh G.2.1)) (F0 m 0 ls [])
  generalize hargs : ([.ref (G.2.1 36), .int a0] : List Value).toArray = args at hts ⊢
  unfold fX0_lookAt at hf
  obtain ⟨H, eH⟩ : ∃ H, H = s.heap := ⟨_, rfl⟩
  obtain ⟨locs, eL⟩ : ∃ L : List Loc, L = [] := ⟨_, rfl⟩
  have hW : nb_W G xc_sh s.heap σ H locs := by rw [eH, eL]; exact hW
  suffices hgo : W p l e rmX0_lookAt s m args below meth c H locs 0 0 (MQ below (nb_Qv G xc_sh (xc_Z (nb_A xc_sh G.2.1) tb) σo) args s 0 0 (nb_A xc_sh G.2.1)) (F0 m 0 ls []) by rw [eH, eL] at hgo; exact hgo
  clear eH eL
  refine lv_aload_n hx hb dX0_lookAt_0 rfl (lv_at hl 0 rfl) ?_
  refine lv_iconst (v := (0 : Int32)) hx hb dX0_lookAt_1 (by decide) ?_
  obtain ⟨σ1, eσ1, hf⟩ := nb_let_e hf
  refine nb_put (C := RX0) (T := TX0) (N := 14) hx hb hts inT_X0 hown hK tyX0 tyX0_ok nmX0 hinj hW 36 rfl rfl 9 (by decide) (hts _ tw1_177) (fun _ h9 => h9) rfl (ty := .int) (by decide +kernel) rfl rfl rfl (x := (0 : Int32)) (by show Value.int _ = _; rw [nb_st_s]) eσ1 dX0_lookAt_2 (fun H locs hW => ?_)
  refine lv_aload_n hx hb dX0_lookAt_5 rfl (lv_at hl 0 rfl) ?_
  refine lv_iconst (v := (0 : Int32)) hx hb dX0_lookAt_6 (by decide) ?_
  obtain ⟨σ2, eσ2, hf⟩ := nb_let_e hf
  refine nb_put (C := RX0) (T := TX0) (N := 14) hx hb hts inT_X0 hown hK tyX0 tyX0_ok nmX0 hinj hW 36 rfl rfl 10 (by decide) (hts _ tw1_178) (fun _ h9 => h9) rfl (ty := .int) (by decide +kernel) rfl rfl rfl (x := (0 : Int32)) (by show Value.int _ = _; rw [nb_st_s]) eσ2 dX0_lookAt_7 (fun H locs hW => ?_)
  refine lv_iconst (v := (0 : Int32)) hx hb dX0_lookAt_10 (by decide) ?_
  refine lv_istore_n (lv' := [(2, .int (0 : Int32)), (0, .ref (G.2.1 36)), (1, .int a0)]) hx hb dX0_lookAt_11 rfl hl (by decide) rfl (fun ls hl => ?_)
  refine nb_w2 (P := fun (x3 : Int32) (σ4 : nb_St) => ∀ (H : Heap) (locs : List Loc) (ls : Array Slot), nb_W G xc_sh s.heap σ4 H locs → lv_has ls 4 [(0, .ref (G.2.1 36)), (1, .int a0), (2, .int x3)] → W p l e rmX0_lookAt s m args below meth c H locs 0 0 (MQ below (nb_Qv G xc_sh (xc_Z (nb_A xc_sh G.2.1) tb) σo) args s 0 0 (nb_A xc_sh G.2.1)) (F0 m 12 ls [])) ?_ N _ _ hf H locs ls hW (lv_sub hl [1, 2, 0] rfl)
  intro ag5 ih6 x3 σ4 hf H locs ls hW hl
  refine lv_iload_n hx hb dX0_lookAt_12 rfl (lv_at hl 2 rfl) ?_
  refine lv_aload_n hx hb dX0_lookAt_13 rfl (lv_at hl 0 rfl) ?_
  obtain ⟨p7, ep7, hf⟩ := nb_let_e hf
  obtain ⟨hp8, hf⟩ := nb_g_e hf
  refine nb_get (C := RX0) (T := TX0) (N := 14) hx hb hts inT_X0 hown hK hW 36 rfl rfl 0 (by decide) (hts _ tw1_168) (fun _ h9 => h9) rfl (v := .ref (G.2.1 p7)) (by rw [ep7]; rfl) dX0_lookAt_14 ?_
  refine nb_getN (C := RX4) (T := TX4) (N := 18) (host := "NobodyFirst") hx hb hts inT_X4 hown hK hW p7 (sx_pty_0 hp8) rfl 0 (by decide) (va_Nw.use rfl (hZ.1 ("NobodyFirst$Evening", 59, "NobodyFirst$Party", "guests", "I", "NobodyFirst") (by decide +kernel))) (fun _ h9 => h9) rfl (v := .int (σ4 p7 0)) rfl dX0_lookAt_17 ?_
  refine lv_icmp_ge (tgt := 71) hx hb dX0_lookAt_20 (by decide) (fun c9 => ?_) (fun c9 => ?_)
  · rw [if_pos c9] at hf
    exact nb_rv hx hb hr hlocks hK hZ hZo hW hf dX0_lookAt_71
  · rw [if_neg c9] at hf
    refine lv_aload_n hx hb dX0_lookAt_23 rfl (lv_at hl 0 rfl) ?_
    obtain ⟨p10, ep10, hf⟩ := nb_let_e hf
    obtain ⟨hp11, hf⟩ := nb_g_e hf
    refine nb_get (C := RX0) (T := TX0) (N := 14) hx hb hts inT_X0 hown hK hW 36 rfl rfl 0 (by decide) (hts _ tw1_168) (fun _ h9 => h9) rfl (v := .ref (G.2.1 p10)) (by rw [ep10]; rfl) dX0_lookAt_24 ?_
    refine nb_getN (C := RX4) (T := TX4) (N := 18) (host := "NobodyFirst") hx hb hts inT_X4 hown hK hW p10 (sx_pty_0 hp11) rfl 1 (by decide) (va_Nw.use rfl (hZ.1 ("NobodyFirst$Evening", 62, "NobodyFirst$Party", "pair", "[I", "NobodyFirst") (by decide +kernel))) (fun _ h9 => h9) rfl (v := .ref (G.2.1 (p10 + 1))) rfl dX0_lookAt_27 ?_
    refine lv_iload_n hx hb dX0_lookAt_30 rfl (lv_at hl 2 rfl) ?_
    obtain ⟨g12, hf⟩ := nb_g_e hf
    refine nb_iald hx hb hK hW (p10 + 1) (sx_pty_1 hp11) g12 dX0_lookAt_31 ?_
    obtain ⟨x13, ex13, hf⟩ := nb_let_e hf
    refine nb_nami ex13 ?_
    refine lv_istore_n (lv' := [(3, .int x13), (0, .ref (G.2.1 36)), (1, .int a0), (2, .int x3)]) hx hb dX0_lookAt_32 rfl hl (by decide) rfl (fun ls hl => ?_)
    refine lv_aload_n hx hb dX0_lookAt_33 rfl (lv_at hl 1 rfl) ?_
    refine nb_get (C := RX0) (T := TX0) (N := 14) hx hb hts inT_X0 hown hK hW 36 rfl rfl 12 (by decide) (hts _ tw1_180) (fun _ h9 => h9) rfl (v := .ref (G.2.1 59)) rfl dX0_lookAt_34 ?_
    refine lv_iload_n hx hb dX0_lookAt_37 rfl (lv_at hl 0 rfl) ?_
    obtain ⟨g14, hf⟩ := nb_g_e hf
    refine nb_iald hx hb hK hW 59 rfl g14 dX0_lookAt_38 ?_
    refine lv_iload_n hx hb dX0_lookAt_39 rfl (lv_at hl 2 rfl) ?_
    obtain ⟨k15, ek15, hf⟩ := nb_let_e hf
    have w16 : ∀ (σ17 : nb_St) (H : Heap) (locs : List Loc) (ls : Array Slot), k15 σ17 = some σo → nb_W G xc_sh s.heap σ17 H locs → lv_has ls 4 [(0, .ref (G.2.1 36)), (1, .int a0), (2, .int x3)] → W p l e rmX0_lookAt s m args below meth c H locs 0 0 (MQ below (nb_Qv G xc_sh (xc_Z (nb_A xc_sh G.2.1) tb) σo) args s 0 0 (nb_A xc_sh G.2.1)) (F0 m 65 ls []) := by
      intro σ17 H locs ls hf hW hl
      have hf := (congrFun ek15 σ17).symm.trans hf
      refine lv_iinc (v := (x3 + 1)) (lv' := [(2, .int (x3 + 1)), (0, .ref (G.2.1 36)), (1, .int a0)]) hx hb dX0_lookAt_65 hl (k := 2) rfl rfl (by decide) rfl (fun ls hl => ?_)
      refine lv_goto (tgt := 12) hx hb dX0_lookAt_68 (by decide) ?_
      exact ih6 _ _ hf _ _ _ hW (lv_sub hl [1, 2, 0] rfl)
    clear ek15
    refine lv_icmp_ge (tgt := 65) hx hb dX0_lookAt_40 (by decide) (fun c18 => ?_) (fun c18 => ?_)
    · rw [if_pos c18] at hf
      exact w16 _ _ _ _ hf hW (lv_sub hl [1, 2, 3] rfl)
    · rw [if_neg c18] at hf
      refine lv_aload_n hx hb dX0_lookAt_43 rfl (lv_at hl 1 rfl) ?_
      refine lv_dup hx hb dX0_lookAt_44 rfl ?_
      refine nb_get (C := RX0) (T := TX0) (N := 14) hx hb hts inT_X0 hown hK hW 36 rfl rfl 9 (by decide) (hts _ tw1_177) (fun _ h9 => h9) rfl (v := .int (σ4 36 9)) rfl dX0_lookAt_45 ?_
      refine lv_iconst (v := (1 : Int32)) hx hb dX0_lookAt_48 (by decide) ?_
      refine lv_iload_n hx hb dX0_lookAt_49 rfl (lv_at hl 0 rfl) ?_
      refine lv_ishl hx hb dX0_lookAt_50 ?_
      refine lv_ior hx hb dX0_lookAt_51 ?_
      obtain ⟨σ19, eσ19, hf⟩ := nb_let_e hf
      refine nb_put (C := RX0) (T := TX0) (N := 14) hx hb hts inT_X0 hown hK tyX0 tyX0_ok nmX0 hinj hW 36 rfl rfl 9 (by decide) (hts _ tw1_177) (fun _ h9 => h9) rfl (ty := .int) (by decide +kernel) rfl rfl rfl (x := ((σ4 36 9) ||| ((1 : Int32) <<< (x13 &&& 31)))) (by show Value.int _ = _; rw [nb_st_s]) eσ19 dX0_lookAt_52 (fun H locs hW => ?_)
      refine lv_aload_n hx hb dX0_lookAt_55 rfl (lv_at hl 1 rfl) ?_
      refine lv_dup hx hb dX0_lookAt_56 rfl ?_
      refine nb_get (C := RX0) (T := TX0) (N := 14) hx hb hts inT_X0 hown hK hW 36 rfl rfl 10 (by decide) (hts _ tw1_178) (fun _ h9 => h9) rfl (v := .int (σ19 36 10)) rfl dX0_lookAt_57 ?_
      refine lv_iconst (v := (1 : Int32)) hx hb dX0_lookAt_60 (by decide) ?_
      refine lv_iadd hx hb dX0_lookAt_61 ?_
      obtain ⟨σ20, eσ20, hf⟩ := nb_let_e hf
      refine nb_put (C := RX0) (T := TX0) (N := 14) hx hb hts inT_X0 hown hK tyX0 tyX0_ok nmX0 hinj hW 36 rfl rfl 10 (by decide) (hts _ tw1_178) (fun _ h9 => h9) rfl (ty := .int) (by decide +kernel) rfl rfl rfl (x := ((σ19 36 10) + (1 : Int32))) (by show Value.int _ = _; rw [nb_st_s]) eσ20 dX0_lookAt_62 (fun H locs hW => ?_)
      exact w16 _ _ _ _ hf hW (lv_sub hl [1, 2, 3] rfl)
def fX0_goOnFrom (N : Nat) (σ : nb_St) (a0 : Int32) : Option (Int32 × nb_St) :=
  nb_b (fX0_nextChange N σ a0) fun r2 =>
  nb_let (nb_min r2 (σ 36 7)) fun v3 =>
  nb_lp3 (R := (Int32 × nb_St)) (fun ag7 (x4 : Int32) (x5 : Int32) (σ6 : nb_St) =>
  (if (4 : Int32) ≤ x5 then
  (if x4 < v3 then
  nb_lp2 (R := (Int32 × nb_St)) (fun ag13 (x11 : Int32) (σ12 : nb_St) =>
  (if (4 : Int32) ≤ x11 then
  nb_b (fX0_lookAt N σ12 (x4 + (1 : Int32))) fun σ17 =>
  some ((x4 + (1 : Int32)), σ17)
  else
  nb_g (nb_in x11 4) (
  nb_let (fun (σ21 : nb_St) =>
  ag13 (x11 + 1) σ21) fun k19 =>
  (if x4 < (σ12 58 (nb_ix x11)) then
  k19 σ12
  else
  nb_g (nb_in x11 4) (
  nb_let (nb_st σ12 59 (nb_ix x11) x4) fun σ24 =>
  k19 σ24))))) N (0 : Int32) σ6
  else
  some (v3, σ6))
  else
  nb_b (fX0_sits N σ6 x5) fun r26 =>
  nb_let (fun (v29 : Int32) =>
  nb_g (nb_in x5 4) (
  nb_let (nb_st σ6 58 (nb_ix x5) v29) fun σ31 =>
  nb_g (nb_in x5 4) (
  nb_let (nb_min x4 (σ31 58 (nb_ix x5))) fun v33 =>
  ag7 v33 (x5 + 1) σ31))) fun k27 =>
  (if r26 = 0 then
  k27 (100000 : Int32)
  else
  nb_b (fX0_pairFrom N σ6 x5 a0) fun r36 =>
  nb_let (nb_max a0 r36) fun v37 =>
  k27 v37))) N v3 (0 : Int32) σ
def rmX0_goOnFrom : Room := { frames := 4, cells := 0, slots := 0, locals := 93 }
def vsX0_goOnFrom : List Cond := .code yX0_goOnFrom cX0_goOnFrom 5 (some .int) :: xT
set_option maxHeartbeats 4000000 in
set_option maxRecDepth 100000 in
theorem c_X0_goOnFrom (l : Launch) {G : nb_G} {tb : Nat → Nat} (hinj : nb_inj xc_sh G.2.1) (hZo : nb_Zok (nb_A xc_sh G.2.1) (xc_Z (nb_A xc_sh G.2.1) tb)) {N : Nat} {σ : nb_St} {a0 : Int32} {ro : Int32} {σo : nb_St} (hf : fX0_goOnFrom N σ a0 = some (ro, σo))  : Met l yX0_goOnFrom vsX0_goOnFrom rmX0_goOnFrom (nb_Pc G xc_sh (xc_Z (nb_A xc_sh G.2.1) tb) σ [.ref (G.2.1 36), .int a0]) (nb_Qi G xc_sh (xc_Z (nb_A xc_sh G.2.1) tb) ro σo) 0 0 (nb_A xc_sh G.2.1) := by
  refine Met.ofW (cc := cX0_goOnFrom) (maxL := 5) (ret := (some .int)) (by decide) rfl ?_
  intro p e s m args below meth c s₁ B hml hv
  obtain ⟨rfl, hP, hK, hZ⟩ := hv
  have hx := B.exec
  have hb := B.bytes
  have hr := B.returns
  have hts : ∀ w ∈ xT, w.before _ s = true := fun w h9 => atoms_spec (ws := vsX0_goOnFrom) B.pre w (List.mem_cons_of_mem _ h9)
  have hown : s.vm.findClass RX0 = some m.cls := findClass_of_methodNamed B.named
  have hlocks := B.notSynchronized
  have hW : nb_W G xc_sh s.heap σ s.heap [] := ⟨hP, va_S.rf⟩
  have hl := lv_entry ([.ref (G.2.1 36), .int a0]) (n := 5) (Nat.le_of_ble_eq_true rfl)
  rw [lg_entry_eq]
  generalize (lg_sl ([.ref (G.2.1 36), .int a0]) ++ List.replicate (5 - (lg_sl ([.ref (G.2.1 36), .int a0])).length) Slot.unset).toArray = ls at hl ⊢
  have hl : lv_has ls 5 [(0, .ref (G.2.1 36)), (1, .int a0)] := hl
  show W p l e rmX0_goOnFrom s m ([.ref (G.2.1 36), .int a0]).toArray below meth c s.heap [] 0 0 (MQ below (nb_Qi G xc_sh (xc_Z (nb_A xc_sh G.2.1) tb) ro σo) ([.ref (G.2.1 36), .int a0]).toArray s 0 0 (nb_A xc_sh G.2.1)) (F0 m 0 ls [])
  generalize hargs : ([.ref (G.2.1 36), .int a0] : List Value).toArray = args at hts ⊢
  unfold fX0_goOnFrom at hf
  obtain ⟨H, eH⟩ : ∃ H, H = s.heap := ⟨_, rfl⟩
  obtain ⟨locs, eL⟩ : ∃ L : List Loc, L = [] := ⟨_, rfl⟩
  have hW : nb_W G xc_sh s.heap σ H locs := by rw [eH, eL]; exact hW
  suffices hgo : W p l e rmX0_goOnFrom s m args below meth c H locs 0 0 (MQ below (nb_Qi G xc_sh (xc_Z (nb_A xc_sh G.2.1) tb) ro σo) args s 0 0 (nb_A xc_sh G.2.1)) (F0 m 0 ls []) by rw [eH, eL] at hgo; exact hgo
  clear eH eL
  refine lv_aload_n hx hb dX0_goOnFrom_0 rfl (lv_at hl 0 rfl) ?_
  refine lv_iload_n hx hb dX0_goOnFrom_1 rfl (lv_at hl 1 rfl) ?_
  obtain ⟨r2, hc1, hf⟩ := nb_b_e hf
  refine nb_ci hW (va_runV (As := [.int a0]) (rest := []) ⟨hx, hb, hml, hown, hts⟩ (c_X0_nextChange l hinj hZo (N := N) hc1 ) (cwV 1 hts (xg_V tw3_62 tw3_64 tp1_6 tw1_5 tw3_65) rfl rfl rfl (by decide +kernel) ⟨Nat.le_of_ble_eq_true rfl, Nat.le_of_ble_eq_true rfl⟩) (nb_preV hK hZ hZo hW (k := 36) rfl rfl) rfl rfl hl.1 rfl (lv_room (Nat.le_of_ble_eq_true rfl)) dX0_goOnFrom_2 ⟨Nat.zero_le _, Nat.zero_le _⟩) (fun H locs hW => ?_)
  refine lv_aload_n hx hb dX0_goOnFrom_5 rfl (lv_at hl 0 rfl) ?_
  refine nb_get (C := RX0) (T := TX0) (N := 14) hx hb hts inT_X0 hown hK hW 36 rfl rfl 7 (by decide) (hts _ tw1_175) (fun _ h9 => h9) rfl (v := .int (σ 36 7)) rfl dX0_goOnFrom_6 ?_
  refine va_mmin hx hb (hml.trans hl.1.symm) hown (hts _ tw3_66) (hts _ tw2_158) (hts _ tw1_9) (hts _ tw2_159) (Nat.le_of_ble_eq_true rfl) (Nat.le_of_ble_eq_true rfl) (Nat.zero_le _) (Nat.zero_le _) dX0_goOnFrom_9 ?_
  show W p l e rmX0_goOnFrom s m args below meth c H locs 0 0 (MQ below (nb_Qi G xc_sh (xc_Z (nb_A xc_sh G.2.1) tb) ro σo) args s 0 0 (nb_A xc_sh G.2.1)) (F0 m 12 ls [.int (nb_min r2 (σ 36 7))])
  obtain ⟨v3, ev3, hf⟩ := nb_let_e hf
  refine nb_nami ev3 ?_
  refine lv_istore_n (lv' := [(2, .int v3), (0, .ref (G.2.1 36)), (1, .int a0)]) hx hb dX0_goOnFrom_12 rfl hl (by decide) rfl (fun ls hl => ?_)
  refine lv_iload_n hx hb dX0_goOnFrom_13 rfl (lv_at hl 0 rfl) ?_
  refine lv_istore_n (lv' := [(3, .int v3), (2, .int v3), (0, .ref (G.2.1 36)), (1, .int a0)]) hx hb dX0_goOnFrom_14 rfl hl (by decide) rfl (fun ls hl => ?_)
  refine lv_iconst (v := (0 : Int32)) hx hb dX0_goOnFrom_15 (by decide) ?_
  refine lv_istore (lv' := [(4, .int (0 : Int32)), (3, .int v3), (2, .int v3), (0, .ref (G.2.1 36)), (1, .int a0)]) hx hb dX0_goOnFrom_16 hl (by decide) rfl (fun ls hl => ?_)
  refine nb_w3 (P := fun (x4 : Int32) (x5 : Int32) (σ6 : nb_St) => ∀ (H : Heap) (locs : List Loc) (ls : Array Slot), nb_W G xc_sh s.heap σ6 H locs → lv_has ls 5 [(0, .ref (G.2.1 36)), (1, .int a0), (2, .int v3), (3, .int x4), (4, .int x5)] → W p l e rmX0_goOnFrom s m args below meth c H locs 0 0 (MQ below (nb_Qi G xc_sh (xc_Z (nb_A xc_sh G.2.1) tb) ro σo) args s 0 0 (nb_A xc_sh G.2.1)) (F0 m 18 ls [])) ?_ N _ _ _ hf H locs ls hW (lv_sub hl [3, 4, 2, 1, 0] rfl)
  intro ag7 ih8 x4 x5 σ6 hf H locs ls hW hl
  refine lv_iload hx hb dX0_goOnFrom_18 (lv_at hl 4 rfl) ?_
  refine lv_iconst (v := (4 : Int32)) hx hb dX0_goOnFrom_20 (by decide) ?_
  refine lv_icmp_ge (tgt := 74) hx hb dX0_goOnFrom_21 (by decide) (fun c9 => ?_) (fun c9 => ?_)
  · rw [if_pos c9] at hf
    refine lv_iload_n hx hb dX0_goOnFrom_74 rfl (lv_at hl 3 rfl) ?_
    refine lv_iload_n hx hb dX0_goOnFrom_75 rfl (lv_at hl 2 rfl) ?_
    refine lv_icmp_lt (tgt := 81) hx hb dX0_goOnFrom_76 (by decide) (fun c10 => ?_) (fun c10 => ?_)
    · rw [if_pos c10] at hf
      refine lv_iconst (v := (0 : Int32)) hx hb dX0_goOnFrom_81 (by decide) ?_
      refine lv_istore (lv' := [(4, .int (0 : Int32)), (0, .ref (G.2.1 36)), (1, .int a0), (2, .int v3), (3, .int x4)]) hx hb dX0_goOnFrom_82 hl (by decide) rfl (fun ls hl => ?_)
      refine nb_w2 (P := fun (x11 : Int32) (σ12 : nb_St) => ∀ (H : Heap) (locs : List Loc) (ls : Array Slot), nb_W G xc_sh s.heap σ12 H locs → lv_has ls 5 [(0, .ref (G.2.1 36)), (3, .int x4), (4, .int x11)] → W p l e rmX0_goOnFrom s m args below meth c H locs 0 0 (MQ below (nb_Qi G xc_sh (xc_Z (nb_A xc_sh G.2.1) tb) ro σo) args s 0 0 (nb_A xc_sh G.2.1)) (F0 m 84 ls [])) ?_ N _ _ hf H locs ls hW (lv_sub hl [1, 4, 0] rfl)
      intro ag13 ih14 x11 σ12 hf H locs ls hW hl
      refine lv_iload hx hb dX0_goOnFrom_84 (lv_at hl 2 rfl) ?_
      refine lv_iconst (v := (4 : Int32)) hx hb dX0_goOnFrom_86 (by decide) ?_
      refine lv_icmp_ge (tgt := 115) hx hb dX0_goOnFrom_87 (by decide) (fun c15 => ?_) (fun c15 => ?_)
      · rw [if_pos c15] at hf
        refine lv_aload_n hx hb dX0_goOnFrom_115 rfl (lv_at hl 0 rfl) ?_
        refine lv_iload_n hx hb dX0_goOnFrom_116 rfl (lv_at hl 1 rfl) ?_
        refine lv_iconst (v := (1 : Int32)) hx hb dX0_goOnFrom_117 (by decide) ?_
        refine lv_iadd hx hb dX0_goOnFrom_118 ?_
        obtain ⟨σ17, hc16, hf⟩ := nb_b_e hf
        refine nb_cv hW (va_runV (As := [.int (x4 + (1 : Int32))]) (rest := []) ⟨hx, hb, hml, hown, hts⟩ (c_X0_lookAt l hinj hZo (N := N) hc16 ) (cwV 1 hts (xg_V tw3_84 tw3_85 tw3_86 tw1_5 tw3_87) rfl rfl rfl (by decide +kernel) ⟨Nat.le_of_ble_eq_true rfl, Nat.le_of_ble_eq_true rfl⟩) (nb_preV hK hZ hZo hW (k := 36) rfl rfl) rfl rfl hl.1 rfl (lv_room (Nat.le_of_ble_eq_true rfl)) dX0_goOnFrom_119 ⟨Nat.zero_le _, Nat.zero_le _⟩) (fun H locs hW => ?_)
        refine lv_iload_n hx hb dX0_goOnFrom_122 rfl (lv_at hl 1 rfl) ?_
        refine lv_iconst (v := (1 : Int32)) hx hb dX0_goOnFrom_123 (by decide) ?_
        refine lv_iadd hx hb dX0_goOnFrom_124 ?_
        exact nb_ri hx hb hr hlocks hK hZ hZo hW  hf dX0_goOnFrom_125
      · rw [if_neg c15] at hf
        refine lv_aload_n hx hb dX0_goOnFrom_90 rfl (lv_at hl 0 rfl) ?_
        refine nb_get (C := RX0) (T := TX0) (N := 14) hx hb hts inT_X0 hown hK hW 36 rfl rfl 11 (by decide) (hts _ tw1_179) (fun _ h9 => h9) rfl (v := .ref (G.2.1 58)) rfl dX0_goOnFrom_91 ?_
        refine lv_iload hx hb dX0_goOnFrom_94 (lv_at hl 2 rfl) ?_
        obtain ⟨g18, hf⟩ := nb_g_e hf
        refine nb_iald hx hb hK hW 58 rfl g18 dX0_goOnFrom_96 ?_
        refine lv_iload_n hx hb dX0_goOnFrom_97 rfl (lv_at hl 1 rfl) ?_
        obtain ⟨k19, ek19, hf⟩ := nb_let_e hf
        have w20 : ∀ (σ21 : nb_St) (H : Heap) (locs : List Loc) (ls : Array Slot), k19 σ21 = some (ro, σo) → nb_W G xc_sh s.heap σ21 H locs → lv_has ls 5 [(0, .ref (G.2.1 36)), (3, .int x4), (4, .int x11)] → W p l e rmX0_goOnFrom s m args below meth c H locs 0 0 (MQ below (nb_Qi G xc_sh (xc_Z (nb_A xc_sh G.2.1) tb) ro σo) args s 0 0 (nb_A xc_sh G.2.1)) (F0 m 109 ls []) := by
          intro σ21 H locs ls hf hW hl
          have hf := (congrFun ek19 σ21).symm.trans hf
          refine lv_iinc (v := (x11 + 1)) (lv' := [(4, .int (x11 + 1)), (0, .ref (G.2.1 36)), (3, .int x4)]) hx hb dX0_goOnFrom_109 hl (k := 2) rfl rfl (by decide) rfl (fun ls hl => ?_)
          refine lv_goto (tgt := 84) hx hb dX0_goOnFrom_112 (by decide) ?_
          exact ih14 _ _ hf _ _ _ hW (lv_sub hl [1, 2, 0] rfl)
        clear ek19
        refine lv_icmp_gt (tgt := 109) hx hb dX0_goOnFrom_98 (by decide) (fun c22 => ?_) (fun c22 => ?_)
        · rw [if_pos c22] at hf
          exact w20 _ _ _ _ hf hW (lv_sub hl [0, 1, 2] rfl)
        · rw [if_neg c22] at hf
          refine lv_aload_n hx hb dX0_goOnFrom_101 rfl (lv_at hl 0 rfl) ?_
          refine nb_get (C := RX0) (T := TX0) (N := 14) hx hb hts inT_X0 hown hK hW 36 rfl rfl 12 (by decide) (hts _ tw1_180) (fun _ h9 => h9) rfl (v := .ref (G.2.1 59)) rfl dX0_goOnFrom_102 ?_
          refine lv_iload hx hb dX0_goOnFrom_105 (lv_at hl 2 rfl) ?_
          refine lv_iload_n hx hb dX0_goOnFrom_107 rfl (lv_at hl 1 rfl) ?_
          obtain ⟨g23, hf⟩ := nb_g_e hf
          obtain ⟨σ24, eσ24, hf⟩ := nb_let_e hf
          refine nb_iast hx hb hK hinj hW 59 rfl g23 eσ24 dX0_goOnFrom_108 (fun H locs hW => ?_)
          exact w20 _ _ _ _ hf hW (lv_sub hl [0, 1, 2] rfl)
    · rw [if_neg c10] at hf
      refine lv_iload_n hx hb dX0_goOnFrom_79 rfl (lv_at hl 2 rfl) ?_
      exact nb_ri hx hb hr hlocks hK hZ hZo hW  hf dX0_goOnFrom_80
  · rw [if_neg c9] at hf
    refine lv_aload_n hx hb dX0_goOnFrom_24 rfl (lv_at hl 0 rfl) ?_
    refine nb_get (C := RX0) (T := TX0) (N := 14) hx hb hts inT_X0 hown hK hW 36 rfl rfl 11 (by decide) (hts _ tw1_179) (fun _ h9 => h9) rfl (v := .ref (G.2.1 58)) rfl dX0_goOnFrom_25 ?_
    refine lv_iload hx hb dX0_goOnFrom_28 (lv_at hl 4 rfl) ?_
    refine lv_aload_n hx hb dX0_goOnFrom_30 rfl (lv_at hl 0 rfl) ?_
    refine lv_iload hx hb dX0_goOnFrom_31 (lv_at hl 4 rfl) ?_
    obtain ⟨r26, hc25, hf⟩ := nb_b_e hf
    refine nb_ci hW (va_runV (As := [.int x5]) (rest := [.int x5, .ref (G.2.1 58)]) ⟨hx, hb, hml, hown, hts⟩ (c_X0_sits l hinj hZo (N := N) hc25 ) (cwV 1 hts (xg_V tw3_67 tw3_69 tp1_7 tw1_5 tw3_70) rfl rfl rfl (by decide +kernel) ⟨Nat.le_of_ble_eq_true rfl, Nat.le_of_ble_eq_true rfl⟩) (nb_preV hK hZ hZo hW (k := 36) rfl rfl) rfl rfl hl.1 rfl (lv_room (Nat.le_of_ble_eq_true rfl)) dX0_goOnFrom_33 ⟨Nat.zero_le _, Nat.zero_le _⟩) (fun H locs hW => ?_)
    obtain ⟨k27, ek27, hf⟩ := nb_let_e hf
    have w28 : ∀ (v29 : Int32) (H : Heap) (locs : List Loc) (ls : Array Slot), k27 v29 = some (ro, σo) → nb_W G xc_sh s.heap σ6 H locs → lv_has ls 5 [(0, .ref (G.2.1 36)), (1, .int a0), (2, .int v3), (3, .int x4), (4, .int x5)] → W p l e rmX0_goOnFrom s m args below meth c H locs 0 0 (MQ below (nb_Qi G xc_sh (xc_Z (nb_A xc_sh G.2.1) tb) ro σo) args s 0 0 (nb_A xc_sh G.2.1)) (F0 m 55 ls [.int v29, .int x5, .ref (G.2.1 58)]) := by
      intro v29 H locs ls hf hW hl
      have hf := (congrFun ek27 v29).symm.trans hf
      obtain ⟨g30, hf⟩ := nb_g_e hf
      obtain ⟨σ31, eσ31, hf⟩ := nb_let_e hf
      refine nb_iast hx hb hK hinj hW 58 rfl g30 eσ31 dX0_goOnFrom_55 (fun H locs hW => ?_)
      refine lv_iload_n hx hb dX0_goOnFrom_56 rfl (lv_at hl 3 rfl) ?_
      refine lv_aload_n hx hb dX0_goOnFrom_57 rfl (lv_at hl 0 rfl) ?_
      refine nb_get (C := RX0) (T := TX0) (N := 14) hx hb hts inT_X0 hown hK hW 36 rfl rfl 11 (by decide) (hts _ tw1_179) (fun _ h9 => h9) rfl (v := .ref (G.2.1 58)) rfl dX0_goOnFrom_58 ?_
      refine lv_iload hx hb dX0_goOnFrom_61 (lv_at hl 4 rfl) ?_
      obtain ⟨g32, hf⟩ := nb_g_e hf
      refine nb_iald hx hb hK hW 58 rfl g32 dX0_goOnFrom_63 ?_
      refine va_mmin hx hb (hml.trans hl.1.symm) hown (hts _ tw3_66) (hts _ tw2_158) (hts _ tw1_9) (hts _ tw2_159) (Nat.le_of_ble_eq_true rfl) (Nat.le_of_ble_eq_true rfl) (Nat.zero_le _) (Nat.zero_le _) dX0_goOnFrom_64 ?_
      show W p l e rmX0_goOnFrom s m args below meth c H locs 0 0 (MQ below (nb_Qi G xc_sh (xc_Z (nb_A xc_sh G.2.1) tb) ro σo) args s 0 0 (nb_A xc_sh G.2.1)) (F0 m 67 ls [.int (nb_min x4 (σ31 58 (nb_ix x5)))])
      obtain ⟨v33, ev33, hf⟩ := nb_let_e hf
      refine nb_nami ev33 ?_
      refine lv_istore_n (lv' := [(3, .int v33), (0, .ref (G.2.1 36)), (1, .int a0), (2, .int v3), (4, .int x5)]) hx hb dX0_goOnFrom_67 rfl hl (by decide) rfl (fun ls hl => ?_)
      refine lv_iinc (v := (x5 + 1)) (lv' := [(4, .int (x5 + 1)), (3, .int v33), (0, .ref (G.2.1 36)), (1, .int a0), (2, .int v3)]) hx hb dX0_goOnFrom_68 hl (k := 4) rfl rfl (by decide) rfl (fun ls hl => ?_)
      refine lv_goto (tgt := 18) hx hb dX0_goOnFrom_71 (by decide) ?_
      exact ih8 _ _ _ hf _ _ _ hW (lv_sub hl [2, 3, 4, 1, 0] rfl)
    clear ek27
    refine lv_if_eq (tgt := 53) hx hb dX0_goOnFrom_36 (by decide) (fun c34 => ?_) (fun c34 => ?_)
    · rw [if_pos c34] at hf
      refine lv_ldc (own := RX0) (v := (100000 : Int32)) hx hb hown (hts _ tw3_56) dX0_goOnFrom_53 ?_
      exact w28 _ _ _ _ hf hW (lv_sub hl [0, 1, 2, 3, 4] rfl)
    · rw [if_neg c34] at hf
      refine lv_iload_n hx hb dX0_goOnFrom_39 rfl (lv_at hl 1 rfl) ?_
      refine lv_aload_n hx hb dX0_goOnFrom_40 rfl (lv_at hl 0 rfl) ?_
      refine lv_iload hx hb dX0_goOnFrom_41 (lv_at hl 4 rfl) ?_
      refine lv_iload_n hx hb dX0_goOnFrom_43 rfl (lv_at hl 1 rfl) ?_
      obtain ⟨r36, hc35, hf⟩ := nb_b_e hf
      refine nb_ci hW (va_runV (As := [.int x5, .int a0]) (rest := [.int a0, .int x5, .ref (G.2.1 58)]) ⟨hx, hb, hml, hown, hts⟩ (c_X0_pairFrom l hinj hZo (N := N) hc35 ) (cwV 2 hts (xg_V tw3_71 tw3_73 tp1_8 tw1_5 tw3_74) rfl rfl rfl (by decide +kernel) ⟨Nat.le_of_ble_eq_true rfl, Nat.le_of_ble_eq_true rfl⟩) (nb_preV hK hZ hZo hW (k := 36) rfl rfl) rfl rfl hl.1 rfl (lv_room (Nat.le_of_ble_eq_true rfl)) dX0_goOnFrom_44 ⟨Nat.zero_le _, Nat.zero_le _⟩) (fun H locs hW => ?_)
      refine va_mmax hx hb (hml.trans hl.1.symm) hown (hts _ tw3_83) (hts _ tw2_67) (hts _ tw1_9) (hts _ tw2_68) (Nat.le_of_ble_eq_true rfl) (Nat.le_of_ble_eq_true rfl) (Nat.zero_le _) (Nat.zero_le _) dX0_goOnFrom_47 ?_
      show W p l e rmX0_goOnFrom s m args below meth c H locs 0 0 (MQ below (nb_Qi G xc_sh (xc_Z (nb_A xc_sh G.2.1) tb) ro σo) args s 0 0 (nb_A xc_sh G.2.1)) (F0 m 50 ls [.int (nb_max a0 r36), .int x5, .ref (G.2.1 58)])
      obtain ⟨v37, ev37, hf⟩ := nb_let_e hf
      refine nb_nami ev37 ?_
      refine lv_goto (tgt := 55) hx hb dX0_goOnFrom_50 (by decide) ?_
      exact w28 _ _ _ _ hf hW (lv_sub hl [0, 1, 2, 3, 4] rfl)
def fX0_goesAfter (N : Nat) (σ : nb_St) (a0 : Int32) : Option Int32 :=
  nb_lp2 (R := Int32) (fun ag3 (x1 : Int32) (x2 : Int32) =>
  (if (4 : Int32) ≤ x2 then
  nb_let (nb_ix (σ 36 0)) fun p6 =>
  nb_g (xc_pty p6) (
  some (x1 + (σ p6 7)))
  else
  nb_lp2 (R := Int32) (fun ag10 (x8 : Int32) (x9 : Int32) =>
  (if (4 : Int32) ≤ x9 then
  ag3 x8 (x2 + 1)
  else
  nb_g (nb_in x9 4) (
  nb_let (fun (x16 : Int32) =>
  ag10 x16 (x9 + 1)) fun k14 =>
  (if (σ 59 (nb_ix x9)) ≤ x8 then
  k14 x8
  else
  nb_g (nb_in x9 4) (
  nb_let (nb_ix (σ 36 0)) fun p19 =>
  nb_g (xc_pty p19) (
  (if (x8 + (σ p19 7)) < (σ 59 (nb_ix x9)) then
  k14 x8
  else
  nb_g (nb_in x9 4) (
  nb_let (σ 59 (nb_ix x9)) fun x23 =>
  k14 x23)))))))) N x1 (0 : Int32))) N a0 (0 : Int32)
def rmX0_goesAfter : Room := { frames := 0, cells := 0, slots := 0, locals := 0 }
def vsX0_goesAfter : List Cond := .code yX0_goesAfter cX0_goesAfter 5 (some .int) :: xT
set_option maxHeartbeats 4000000 in
set_option maxRecDepth 100000 in
theorem c_X0_goesAfter (l : Launch) {G : nb_G} {tb : Nat → Nat} (hinj : nb_inj xc_sh G.2.1) (hZo : nb_Zok (nb_A xc_sh G.2.1) (xc_Z (nb_A xc_sh G.2.1) tb)) {N : Nat} {σ : nb_St} {a0 : Int32} {ro : Int32} (hf : fX0_goesAfter N σ a0 = some ro)  : Met l yX0_goesAfter vsX0_goesAfter rmX0_goesAfter (nb_Pc G xc_sh (xc_Z (nb_A xc_sh G.2.1) tb) σ [.ref (G.2.1 36), .int a0]) (nb_Qi G xc_sh (xc_Z (nb_A xc_sh G.2.1) tb) ro σ) 0 0 (nb_A xc_sh G.2.1) := by
  refine Met.ofW (cc := cX0_goesAfter) (maxL := 5) (ret := (some .int)) (by decide) rfl ?_
  intro p e s m args below meth c s₁ B hml hv
  obtain ⟨rfl, hP, hK, hZ⟩ := hv
  have hx := B.exec
  have hb := B.bytes
  have hr := B.returns
  have hts : ∀ w ∈ xT, w.before _ s = true := fun w h9 => atoms_spec (ws := vsX0_goesAfter) B.pre w (List.mem_cons_of_mem _ h9)
  have hown : s.vm.findClass RX0 = some m.cls := findClass_of_methodNamed B.named
  have hlocks := B.notSynchronized
  have hW : nb_W G xc_sh s.heap σ s.heap [] := ⟨hP, va_S.rf⟩
  have hl := lv_entry ([.ref (G.2.1 36), .int a0]) (n := 5) (Nat.le_of_ble_eq_true rfl)
  rw [lg_entry_eq]
  generalize (lg_sl ([.ref (G.2.1 36), .int a0]) ++ List.replicate (5 - (lg_sl ([.ref (G.2.1 36), .int a0])).length) Slot.unset).toArray = ls at hl ⊢
  have hl : lv_has ls 5 [(0, .ref (G.2.1 36)), (1, .int a0)] := hl
  show W p l e rmX0_goesAfter s m ([.ref (G.2.1 36), .int a0]).toArray below meth c s.heap [] 0 0 (MQ below (nb_Qi G xc_sh (xc_Z (nb_A xc_sh G.2.1) tb) ro σ) ([.ref (G.2.1 36), .int a0]).toArray s 0 0 (nb_A xc_sh G.2.1)) (F0 m 0 ls [])
  generalize hargs : ([.ref (G.2.1 36), .int a0] : List Value).toArray = args at hts ⊢
  unfold fX0_goesAfter at hf
  obtain ⟨H, eH⟩ : ∃ H, H = s.heap := ⟨_, rfl⟩
  obtain ⟨locs, eL⟩ : ∃ L : List Loc, L = [] := ⟨_, rfl⟩
  have hW : nb_W G xc_sh s.heap σ H locs := by rw [eH, eL]; exact hW
  suffices hgo : W p l e rmX0_goesAfter s m args below meth c H locs 0 0 (MQ below (nb_Qi G xc_sh (xc_Z (nb_A xc_sh G.2.1) tb) ro σ) args s 0 0 (nb_A xc_sh G.2.1)) (F0 m 0 ls []) by rw [eH, eL] at hgo; exact hgo
  clear eH eL
  refine lv_iload_n hx hb dX0_goesAfter_0 rfl (lv_at hl 1 rfl) ?_
  refine lv_istore_n (lv' := [(2, .int a0), (0, .ref (G.2.1 36)), (1, .int a0)]) hx hb dX0_goesAfter_1 rfl hl (by decide) rfl (fun ls hl => ?_)
  refine lv_iconst (v := (0 : Int32)) hx hb dX0_goesAfter_2 (by decide) ?_
  refine lv_istore_n (lv' := [(3, .int (0 : Int32)), (2, .int a0), (0, .ref (G.2.1 36)), (1, .int a0)]) hx hb dX0_goesAfter_3 rfl hl (by decide) rfl (fun ls hl => ?_)
  refine nb_w2 (P := fun (x1 : Int32) (x2 : Int32) => ∀ (H : Heap) (locs : List Loc) (ls : Array Slot), nb_W G xc_sh s.heap σ H locs → lv_has ls 5 [(0, .ref (G.2.1 36)), (2, .int x1), (3, .int x2)] → W p l e rmX0_goesAfter s m args below meth c H locs 0 0 (MQ below (nb_Qi G xc_sh (xc_Z (nb_A xc_sh G.2.1) tb) ro σ) args s 0 0 (nb_A xc_sh G.2.1)) (F0 m 4 ls [])) ?_ N _ _ hf H locs ls hW (lv_sub hl [2, 1, 0] rfl)
  intro ag3 ih4 x1 x2 hf H locs ls hW hl
  refine lv_iload_n hx hb dX0_goesAfter_4 rfl (lv_at hl 2 rfl) ?_
  refine lv_iconst (v := (4 : Int32)) hx hb dX0_goesAfter_5 (by decide) ?_
  refine lv_icmp_ge (tgt := 68) hx hb dX0_goesAfter_6 (by decide) (fun c5 => ?_) (fun c5 => ?_)
  · rw [if_pos c5] at hf
    refine lv_iload_n hx hb dX0_goesAfter_68 rfl (lv_at hl 1 rfl) ?_
    refine lv_aload_n hx hb dX0_goesAfter_69 rfl (lv_at hl 0 rfl) ?_
    obtain ⟨p6, ep6, hf⟩ := nb_let_e hf
    obtain ⟨hp7, hf⟩ := nb_g_e hf
    refine nb_get (C := RX0) (T := TX0) (N := 14) hx hb hts inT_X0 hown hK hW 36 rfl rfl 0 (by decide) (hts _ tw1_168) (fun _ h9 => h9) rfl (v := .ref (G.2.1 p6)) (by rw [ep6]; rfl) dX0_goesAfter_70 ?_
    refine nb_getN (C := RX4) (T := TX4) (N := 18) (host := "NobodyFirst") hx hb hts inT_X4 hown hK hW p6 (sx_pty_0 hp7) rfl 7 (by decide) (va_Nw.use rfl (hZ.1 ("NobodyFirst$Evening", 145, "NobodyFirst$Party", "hall", "I", "NobodyFirst") (by decide +kernel))) (fun _ h9 => h9) rfl (v := .int (σ p6 7)) rfl dX0_goesAfter_73 ?_
    refine lv_iadd hx hb dX0_goesAfter_76 ?_
    exact nb_rip hx hb hr hlocks hK hZ hZo hW  hf dX0_goesAfter_77
  · rw [if_neg c5] at hf
    refine lv_iconst (v := (0 : Int32)) hx hb dX0_goesAfter_9 (by decide) ?_
    refine lv_istore (lv' := [(4, .int (0 : Int32)), (0, .ref (G.2.1 36)), (2, .int x1), (3, .int x2)]) hx hb dX0_goesAfter_10 hl (by decide) rfl (fun ls hl => ?_)
    refine nb_w2 (P := fun (x8 : Int32) (x9 : Int32) => ∀ (H : Heap) (locs : List Loc) (ls : Array Slot), nb_W G xc_sh s.heap σ H locs → lv_has ls 5 [(0, .ref (G.2.1 36)), (2, .int x8), (3, .int x2), (4, .int x9)] → W p l e rmX0_goesAfter s m args below meth c H locs 0 0 (MQ below (nb_Qi G xc_sh (xc_Z (nb_A xc_sh G.2.1) tb) ro σ) args s 0 0 (nb_A xc_sh G.2.1)) (F0 m 12 ls [])) ?_ N _ _ hf H locs ls hW (lv_sub hl [1, 2, 3, 0] rfl)
    intro ag10 ih11 x8 x9 hf H locs ls hW hl
    refine lv_iload hx hb dX0_goesAfter_12 (lv_at hl 3 rfl) ?_
    refine lv_iconst (v := (4 : Int32)) hx hb dX0_goesAfter_14 (by decide) ?_
    refine lv_icmp_ge (tgt := 62) hx hb dX0_goesAfter_15 (by decide) (fun c12 => ?_) (fun c12 => ?_)
    · rw [if_pos c12] at hf
      refine lv_iinc (v := (x2 + 1)) (lv' := [(3, .int (x2 + 1)), (0, .ref (G.2.1 36)), (2, .int x8), (4, .int x9)]) hx hb dX0_goesAfter_62 hl (k := 2) rfl rfl (by decide) rfl (fun ls hl => ?_)
      refine lv_goto (tgt := 4) hx hb dX0_goesAfter_65 (by decide) ?_
      exact ih4 _ _ hf _ _ _ hW (lv_sub hl [1, 2, 0] rfl)
    · rw [if_neg c12] at hf
      refine lv_aload_n hx hb dX0_goesAfter_18 rfl (lv_at hl 0 rfl) ?_
      refine nb_get (C := RX0) (T := TX0) (N := 14) hx hb hts inT_X0 hown hK hW 36 rfl rfl 12 (by decide) (hts _ tw1_180) (fun _ h9 => h9) rfl (v := .ref (G.2.1 59)) rfl dX0_goesAfter_19 ?_
      refine lv_iload hx hb dX0_goesAfter_22 (lv_at hl 3 rfl) ?_
      obtain ⟨g13, hf⟩ := nb_g_e hf
      refine nb_iald hx hb hK hW 59 rfl g13 dX0_goesAfter_24 ?_
      refine lv_iload_n hx hb dX0_goesAfter_25 rfl (lv_at hl 1 rfl) ?_
      obtain ⟨k14, ek14, hf⟩ := nb_let_e hf
      have w15 : ∀ (x16 : Int32) (H : Heap) (locs : List Loc) (ls : Array Slot), k14 x16 = some ro → nb_W G xc_sh s.heap σ H locs → lv_has ls 5 [(0, .ref (G.2.1 36)), (2, .int x16), (3, .int x2), (4, .int x9)] → W p l e rmX0_goesAfter s m args below meth c H locs 0 0 (MQ below (nb_Qi G xc_sh (xc_Z (nb_A xc_sh G.2.1) tb) ro σ) args s 0 0 (nb_A xc_sh G.2.1)) (F0 m 56 ls []) := by
        intro x16 H locs ls hf hW hl
        have hf := (congrFun ek14 x16).symm.trans hf
        refine lv_iinc (v := (x9 + 1)) (lv' := [(4, .int (x9 + 1)), (0, .ref (G.2.1 36)), (2, .int x16), (3, .int x2)]) hx hb dX0_goesAfter_56 hl (k := 3) rfl rfl (by decide) rfl (fun ls hl => ?_)
        refine lv_goto (tgt := 12) hx hb dX0_goesAfter_59 (by decide) ?_
        exact ih11 _ _ hf _ _ _ hW (lv_sub hl [1, 2, 3, 0] rfl)
      clear ek14
      refine lv_icmp_le (tgt := 56) hx hb dX0_goesAfter_26 (by decide) (fun c17 => ?_) (fun c17 => ?_)
      · rw [if_pos c17] at hf
        exact w15 _ _ _ _ hf hW (lv_sub hl [0, 1, 2, 3] rfl)
      · rw [if_neg c17] at hf
        refine lv_aload_n hx hb dX0_goesAfter_29 rfl (lv_at hl 0 rfl) ?_
        refine nb_get (C := RX0) (T := TX0) (N := 14) hx hb hts inT_X0 hown hK hW 36 rfl rfl 12 (by decide) (hts _ tw1_180) (fun _ h9 => h9) rfl (v := .ref (G.2.1 59)) rfl dX0_goesAfter_30 ?_
        refine lv_iload hx hb dX0_goesAfter_33 (lv_at hl 3 rfl) ?_
        obtain ⟨g18, hf⟩ := nb_g_e hf
        refine nb_iald hx hb hK hW 59 rfl g18 dX0_goesAfter_35 ?_
        refine lv_iload_n hx hb dX0_goesAfter_36 rfl (lv_at hl 1 rfl) ?_
        refine lv_aload_n hx hb dX0_goesAfter_37 rfl (lv_at hl 0 rfl) ?_
        obtain ⟨p19, ep19, hf⟩ := nb_let_e hf
        obtain ⟨hp20, hf⟩ := nb_g_e hf
        refine nb_get (C := RX0) (T := TX0) (N := 14) hx hb hts inT_X0 hown hK hW 36 rfl rfl 0 (by decide) (hts _ tw1_168) (fun _ h9 => h9) rfl (v := .ref (G.2.1 p19)) (by rw [ep19]; rfl) dX0_goesAfter_38 ?_
        refine nb_getN (C := RX4) (T := TX4) (N := 18) (host := "NobodyFirst") hx hb hts inT_X4 hown hK hW p19 (sx_pty_0 hp20) rfl 7 (by decide) (va_Nw.use rfl (hZ.1 ("NobodyFirst$Evening", 145, "NobodyFirst$Party", "hall", "I", "NobodyFirst") (by decide +kernel))) (fun _ h9 => h9) rfl (v := .int (σ p19 7)) rfl dX0_goesAfter_41 ?_
        refine lv_iadd hx hb dX0_goesAfter_44 ?_
        refine lv_icmp_gt (tgt := 56) hx hb dX0_goesAfter_45 (by decide) (fun c21 => ?_) (fun c21 => ?_)
        · rw [if_pos c21] at hf
          exact w15 _ _ _ _ hf hW (lv_sub hl [0, 1, 2, 3] rfl)
        · rw [if_neg c21] at hf
          refine lv_aload_n hx hb dX0_goesAfter_48 rfl (lv_at hl 0 rfl) ?_
          refine nb_get (C := RX0) (T := TX0) (N := 14) hx hb hts inT_X0 hown hK hW 36 rfl rfl 12 (by decide) (hts _ tw1_180) (fun _ h9 => h9) rfl (v := .ref (G.2.1 59)) rfl dX0_goesAfter_49 ?_
          refine lv_iload hx hb dX0_goesAfter_52 (lv_at hl 3 rfl) ?_
          obtain ⟨g22, hf⟩ := nb_g_e hf
          refine nb_iald hx hb hK hW 59 rfl g22 dX0_goesAfter_54 ?_
          obtain ⟨x23, ex23, hf⟩ := nb_let_e hf
          refine nb_nami ex23 ?_
          refine lv_istore_n (lv' := [(2, .int x23), (0, .ref (G.2.1 36)), (3, .int x2), (4, .int x9)]) hx hb dX0_goesAfter_55 rfl hl (by decide) rfl (fun ls hl => ?_)
          exact w15 _ _ _ _ hf hW (lv_sub hl [1, 0, 2, 3] rfl)
def fX0_pass (N : Nat) (σ : nb_St)  : Option nb_St :=
  nb_let (nb_st σ 36 9 (0 : Int32)) fun σ1 =>
  nb_let (nb_st σ1 36 10 (0 : Int32)) fun σ2 =>
  nb_b (fJ7_fill_53178 N σ2 59 4 (100000 : Int32)) fun σ4 =>
  nb_lp3 (R := nb_St) (fun ag8 (x5 : Int32) (x6 : Int32) (σ7 : nb_St) =>
  nb_let (fun (_u : Unit) =>
  nb_lp2 (R := nb_St) (fun ag14 (x12 : Int32) (σ13 : nb_St) =>
  (if (4 : Int32) ≤ x12 then
  nb_lp2 (R := nb_St) (fun ag19 (x17 : Int32) (σ18 : nb_St) =>
  (if (4 : Int32) ≤ x17 then
  some σ18
  else
  nb_g (nb_in x17 4) (
  nb_b (fX0_goesAfter N σ18 (σ18 59 (nb_ix x17))) fun r24 =>
  nb_g (nb_in x17 4) (
  nb_let (nb_st σ18 60 (nb_ix x17) r24) fun σ26 =>
  ag19 (x17 + 1) σ26)))) N (0 : Int32) σ13
  else
  nb_b (fX0_sits N σ13 x12) fun r28 =>
  nb_let (fun (σ31 : nb_St) =>
  ag14 (x12 + 1) σ31) fun k29 =>
  (if r28 = 0 then
  k29 σ13
  else
  nb_g (nb_in x12 4) (
  nb_let (nb_st σ13 59 (nb_ix x12) (σ13 36 7)) fun σ34 =>
  k29 σ34)))) N (0 : Int32) σ7) fun k10 =>
  (if (719 : Int32) < x6 then
  k10 ()
  else
  (if (σ7 36 7) ≤ x5 then
  k10 ()
  else
  (if (σ7 36 9) = (σ7 36 8) then
  k10 ()
  else
  nb_b2 (fX0_goOnFrom N σ7 x5) fun r39 σ40 =>
  ag8 r39 (x6 + 1) σ40)))) N (0 : Int32) (0 : Int32) σ4
def rmX0_pass : Room := { frames := 5, cells := 0, slots := 0, locals := 117 }
def vsX0_pass : List Cond := .code yX0_pass cX0_pass 3 none :: xT
set_option maxHeartbeats 4000000 in
set_option maxRecDepth 100000 in
theorem c_X0_pass (l : Launch) {G : nb_G} {tb : Nat → Nat} (hinj : nb_inj xc_sh G.2.1) (hZo : nb_Zok (nb_A xc_sh G.2.1) (xc_Z (nb_A xc_sh G.2.1) tb)) {N : Nat} {σ : nb_St}  {σo : nb_St} (hf : fX0_pass N σ = some σo)  : Met l yX0_pass vsX0_pass rmX0_pass (nb_Pc G xc_sh (xc_Z (nb_A xc_sh G.2.1) tb) σ [.ref (G.2.1 36)]) (nb_Qv G xc_sh (xc_Z (nb_A xc_sh G.2.1) tb) σo) 0 0 (nb_A xc_sh G.2.1) := by
  refine Met.ofW (cc := cX0_pass) (maxL := 3) (ret := none) (by decide) rfl ?_
  intro p e s m args below meth c s₁ B hml hv
  obtain ⟨rfl, hP, hK, hZ⟩ := hv
  have hx := B.exec
  have hb := B.bytes
  have hr := B.returns
  have hts : ∀ w ∈ xT, w.before _ s = true := fun w h9 => atoms_spec (ws := vsX0_pass) B.pre w (List.mem_cons_of_mem _ h9)
  have hown : s.vm.findClass RX0 = some m.cls := findClass_of_methodNamed B.named
  have hlocks := B.notSynchronized
  have hW : nb_W G xc_sh s.heap σ s.heap [] := ⟨hP, va_S.rf⟩
  have hl := lv_entry ([.ref (G.2.1 36)]) (n := 3) (Nat.le_of_ble_eq_true rfl)
  rw [lg_entry_eq]
  generalize (lg_sl ([.ref (G.2.1 36)]) ++ List.replicate (3 - (lg_sl ([.ref (G.2.1 36)])).length) Slot.unset).toArray = ls at hl ⊢
  have hl : lv_has ls 3 [(0, .ref (G.2.1 36))] := hl
  show W p l e rmX0_pass s m ([.ref (G.2.1 36)]).toArray below meth c s.heap [] 0 0 (MQ below (nb_Qv G xc_sh (xc_Z (nb_A xc_sh G.2.1) tb) σo) ([.ref (G.2.1 36)]).toArray s 0 0 (nb_A xc_sh G.2.1)) (F0 m 0 ls [])
  generalize hargs : ([.ref (G.2.1 36)] : List Value).toArray = args at hts ⊢
  unfold fX0_pass at hf
  obtain ⟨H, eH⟩ : ∃ H, H = s.heap := ⟨_, rfl⟩
  obtain ⟨locs, eL⟩ : ∃ L : List Loc, L = [] := ⟨_, rfl⟩
  have hW : nb_W G xc_sh s.heap σ H locs := by rw [eH, eL]; exact hW
  suffices hgo : W p l e rmX0_pass s m args below meth c H locs 0 0 (MQ below (nb_Qv G xc_sh (xc_Z (nb_A xc_sh G.2.1) tb) σo) args s 0 0 (nb_A xc_sh G.2.1)) (F0 m 0 ls []) by rw [eH, eL] at hgo; exact hgo
  clear eH eL
  refine lv_aload_n hx hb dX0_pass_0 rfl (lv_at hl 0 rfl) ?_
  refine lv_iconst (v := (0 : Int32)) hx hb dX0_pass_1 (by decide) ?_
  obtain ⟨σ1, eσ1, hf⟩ := nb_let_e hf
  refine nb_put (C := RX0) (T := TX0) (N := 14) hx hb hts inT_X0 hown hK tyX0 tyX0_ok nmX0 hinj hW 36 rfl rfl 9 (by decide) (hts _ tw1_177) (fun _ h9 => h9) rfl (ty := .int) (by decide +kernel) rfl rfl rfl (x := (0 : Int32)) (by show Value.int _ = _; rw [nb_st_s]) eσ1 dX0_pass_2 (fun H locs hW => ?_)
  refine lv_aload_n hx hb dX0_pass_5 rfl (lv_at hl 0 rfl) ?_
  refine lv_iconst (v := (0 : Int32)) hx hb dX0_pass_6 (by decide) ?_
  obtain ⟨σ2, eσ2, hf⟩ := nb_let_e hf
  refine nb_put (C := RX0) (T := TX0) (N := 14) hx hb hts inT_X0 hown hK tyX0 tyX0_ok nmX0 hinj hW 36 rfl rfl 10 (by decide) (hts _ tw1_178) (fun _ h9 => h9) rfl (ty := .int) (by decide +kernel) rfl rfl rfl (x := (0 : Int32)) (by show Value.int _ = _; rw [nb_st_s]) eσ2 dX0_pass_7 (fun H locs hW => ?_)
  refine lv_aload_n hx hb dX0_pass_10 rfl (lv_at hl 0 rfl) ?_
  refine nb_get (C := RX0) (T := TX0) (N := 14) hx hb hts inT_X0 hown hK hW 36 rfl rfl 12 (by decide) (hts _ tw1_180) (fun _ h9 => h9) rfl (v := .ref (G.2.1 59)) rfl dX0_pass_11 ?_
  refine lv_ldc (own := RX0) (v := (100000 : Int32)) hx hb hown (hts _ tw3_56) dX0_pass_14 ?_
  obtain ⟨σ4, hc3, hf⟩ := nb_b_e hf
  refine nb_cv hW (va_runS (As := [.ref (G.2.1 59), .int (100000 : Int32)]) (rest := []) ⟨hx, hb, hml, hown, hts⟩ (c_J7_fill_53178 l hinj hZo (N := N) hc3 rfl) (va_cwS 2 hts (xg_S tw3_57 tw2_125 tw1_11 tw2_126) rfl rfl rfl (by decide +kernel) ⟨Nat.le_of_ble_eq_true rfl, Nat.le_of_ble_eq_true rfl⟩) (nb_preS hK hZ hZo hW) rfl rfl hl.1 rfl (lv_room (Nat.le_of_ble_eq_true rfl)) dX0_pass_16 ⟨Nat.zero_le _, Nat.zero_le _⟩) (fun H locs hW => ?_)
  refine lv_iconst (v := (0 : Int32)) hx hb dX0_pass_19 (by decide) ?_
  refine lv_istore_n (lv' := [(1, .int (0 : Int32)), (0, .ref (G.2.1 36))]) hx hb dX0_pass_20 rfl hl (by decide) rfl (fun ls hl => ?_)
  refine lv_iconst (v := (0 : Int32)) hx hb dX0_pass_21 (by decide) ?_
  refine lv_istore_n (lv' := [(2, .int (0 : Int32)), (1, .int (0 : Int32)), (0, .ref (G.2.1 36))]) hx hb dX0_pass_22 rfl hl (by decide) rfl (fun ls hl => ?_)
  refine nb_w3 (P := fun (x5 : Int32) (x6 : Int32) (σ7 : nb_St) => ∀ (H : Heap) (locs : List Loc) (ls : Array Slot), nb_W G xc_sh s.heap σ7 H locs → lv_has ls 3 [(0, .ref (G.2.1 36)), (1, .int x5), (2, .int x6)] → W p l e rmX0_pass s m args below meth c H locs 0 0 (MQ below (nb_Qv G xc_sh (xc_Z (nb_A xc_sh G.2.1) tb) σo) args s 0 0 (nb_A xc_sh G.2.1)) (F0 m 23 ls [])) ?_ N _ _ _ hf H locs ls hW (lv_sub hl [2, 1, 0] rfl)
  intro ag8 ih9 x5 x6 σ7 hf H locs ls hW hl
  refine lv_iload_n hx hb dX0_pass_23 rfl (lv_at hl 2 rfl) ?_
  refine lv_sipush (v := (719 : Int32)) hx hb dX0_pass_24 (by decide) ?_
  obtain ⟨k10, ek10, hf⟩ := nb_let_e hf
  have w11 : ∀ (_u : Unit) (H : Heap) (locs : List Loc) (ls : Array Slot), k10 _u = some σo → nb_W G xc_sh s.heap σ7 H locs → lv_has ls 3 [(0, .ref (G.2.1 36))] → W p l e rmX0_pass s m args below meth c H locs 0 0 (MQ below (nb_Qv G xc_sh (xc_Z (nb_A xc_sh G.2.1) tb) σo) args s 0 0 (nb_A xc_sh G.2.1)) (F0 m 61 ls []) := by
    intro _u H locs ls hf hW hl
    have hf := (congrFun ek10 _u).symm.trans hf
    refine lv_iconst (v := (0 : Int32)) hx hb dX0_pass_61 (by decide) ?_
    refine lv_istore_n (lv' := [(2, .int (0 : Int32)), (0, .ref (G.2.1 36))]) hx hb dX0_pass_62 rfl hl (by decide) rfl (fun ls hl => ?_)
    refine nb_w2 (P := fun (x12 : Int32) (σ13 : nb_St) => ∀ (H : Heap) (locs : List Loc) (ls : Array Slot), nb_W G xc_sh s.heap σ13 H locs → lv_has ls 3 [(0, .ref (G.2.1 36)), (2, .int x12)] → W p l e rmX0_pass s m args below meth c H locs 0 0 (MQ below (nb_Qv G xc_sh (xc_Z (nb_A xc_sh G.2.1) tb) σo) args s 0 0 (nb_A xc_sh G.2.1)) (F0 m 63 ls [])) ?_ N _ _ hf H locs ls hW (lv_sub hl [1, 0] rfl)
    intro ag14 ih15 x12 σ13 hf H locs ls hW hl
    refine lv_iload_n hx hb dX0_pass_63 rfl (lv_at hl 1 rfl) ?_
    refine lv_iconst (v := (4 : Int32)) hx hb dX0_pass_64 (by decide) ?_
    refine lv_icmp_ge (tgt := 92) hx hb dX0_pass_65 (by decide) (fun c16 => ?_) (fun c16 => ?_)
    · rw [if_pos c16] at hf
      refine lv_iconst (v := (0 : Int32)) hx hb dX0_pass_92 (by decide) ?_
      refine lv_istore_n (lv' := [(2, .int (0 : Int32)), (0, .ref (G.2.1 36))]) hx hb dX0_pass_93 rfl hl (by decide) rfl (fun ls hl => ?_)
      refine nb_w2 (P := fun (x17 : Int32) (σ18 : nb_St) => ∀ (H : Heap) (locs : List Loc) (ls : Array Slot), nb_W G xc_sh s.heap σ18 H locs → lv_has ls 3 [(0, .ref (G.2.1 36)), (2, .int x17)] → W p l e rmX0_pass s m args below meth c H locs 0 0 (MQ below (nb_Qv G xc_sh (xc_Z (nb_A xc_sh G.2.1) tb) σo) args s 0 0 (nb_A xc_sh G.2.1)) (F0 m 94 ls [])) ?_ N _ _ hf H locs ls hW (lv_sub hl [1, 0] rfl)
      intro ag19 ih20 x17 σ18 hf H locs ls hW hl
      refine lv_iload_n hx hb dX0_pass_94 rfl (lv_at hl 1 rfl) ?_
      refine lv_iconst (v := (4 : Int32)) hx hb dX0_pass_95 (by decide) ?_
      refine lv_icmp_ge (tgt := 121) hx hb dX0_pass_96 (by decide) (fun c21 => ?_) (fun c21 => ?_)
      · rw [if_pos c21] at hf
        exact nb_rv hx hb hr hlocks hK hZ hZo hW hf dX0_pass_121
      · rw [if_neg c21] at hf
        refine lv_aload_n hx hb dX0_pass_99 rfl (lv_at hl 0 rfl) ?_
        refine nb_get (C := RX0) (T := TX0) (N := 14) hx hb hts inT_X0 hown hK hW 36 rfl rfl 13 (by decide) (hts _ tw1_181) (fun _ h9 => h9) rfl (v := .ref (G.2.1 60)) rfl dX0_pass_100 ?_
        refine lv_iload_n hx hb dX0_pass_103 rfl (lv_at hl 1 rfl) ?_
        refine lv_aload_n hx hb dX0_pass_104 rfl (lv_at hl 0 rfl) ?_
        refine lv_aload_n hx hb dX0_pass_105 rfl (lv_at hl 0 rfl) ?_
        refine nb_get (C := RX0) (T := TX0) (N := 14) hx hb hts inT_X0 hown hK hW 36 rfl rfl 12 (by decide) (hts _ tw1_180) (fun _ h9 => h9) rfl (v := .ref (G.2.1 59)) rfl dX0_pass_106 ?_
        refine lv_iload_n hx hb dX0_pass_109 rfl (lv_at hl 1 rfl) ?_
        obtain ⟨g22, hf⟩ := nb_g_e hf
        refine nb_iald hx hb hK hW 59 rfl g22 dX0_pass_110 ?_
        obtain ⟨r24, hc23, hf⟩ := nb_b_e hf
        refine nb_ci hW (va_runV (As := [.int (σ18 59 (nb_ix x17))]) (rest := [.int x17, .ref (G.2.1 60)]) ⟨hx, hb, hml, hown, hts⟩ (c_X0_goesAfter l hinj hZo (N := N) hc23 ) (cwV 1 hts (xg_V tw3_88 tw3_90 tp1_9 tw1_5 tw3_91) rfl rfl rfl (by decide +kernel) ⟨Nat.le_of_ble_eq_true rfl, Nat.le_of_ble_eq_true rfl⟩) (nb_preV hK hZ hZo hW (k := 36) rfl rfl) rfl rfl hl.1 rfl (lv_room (Nat.le_of_ble_eq_true rfl)) dX0_pass_111 ⟨Nat.zero_le _, Nat.zero_le _⟩) (fun H locs hW => ?_)
        obtain ⟨g25, hf⟩ := nb_g_e hf
        obtain ⟨σ26, eσ26, hf⟩ := nb_let_e hf
        refine nb_iast hx hb hK hinj hW 60 rfl g25 eσ26 dX0_pass_114 (fun H locs hW => ?_)
        refine lv_iinc (v := (x17 + 1)) (lv' := [(2, .int (x17 + 1)), (0, .ref (G.2.1 36))]) hx hb dX0_pass_115 hl (k := 1) rfl rfl (by decide) rfl (fun ls hl => ?_)
        refine lv_goto (tgt := 94) hx hb dX0_pass_118 (by decide) ?_
        exact ih20 _ _ hf _ _ _ hW (lv_sub hl [1, 0] rfl)
    · rw [if_neg c16] at hf
      refine lv_aload_n hx hb dX0_pass_68 rfl (lv_at hl 0 rfl) ?_
      refine lv_iload_n hx hb dX0_pass_69 rfl (lv_at hl 1 rfl) ?_
      obtain ⟨r28, hc27, hf⟩ := nb_b_e hf
      refine nb_ci hW (va_runV (As := [.int x12]) (rest := []) ⟨hx, hb, hml, hown, hts⟩ (c_X0_sits l hinj hZo (N := N) hc27 ) (cwV 1 hts (xg_V tw3_67 tw3_69 tp1_7 tw1_5 tw3_70) rfl rfl rfl (by decide +kernel) ⟨Nat.le_of_ble_eq_true rfl, Nat.le_of_ble_eq_true rfl⟩) (nb_preV hK hZ hZo hW (k := 36) rfl rfl) rfl rfl hl.1 rfl (lv_room (Nat.le_of_ble_eq_true rfl)) dX0_pass_70 ⟨Nat.zero_le _, Nat.zero_le _⟩) (fun H locs hW => ?_)
      obtain ⟨k29, ek29, hf⟩ := nb_let_e hf
      have w30 : ∀ (σ31 : nb_St) (H : Heap) (locs : List Loc) (ls : Array Slot), k29 σ31 = some σo → nb_W G xc_sh s.heap σ31 H locs → lv_has ls 3 [(0, .ref (G.2.1 36)), (2, .int x12)] → W p l e rmX0_pass s m args below meth c H locs 0 0 (MQ below (nb_Qv G xc_sh (xc_Z (nb_A xc_sh G.2.1) tb) σo) args s 0 0 (nb_A xc_sh G.2.1)) (F0 m 86 ls []) := by
        intro σ31 H locs ls hf hW hl
        have hf := (congrFun ek29 σ31).symm.trans hf
        refine lv_iinc (v := (x12 + 1)) (lv' := [(2, .int (x12 + 1)), (0, .ref (G.2.1 36))]) hx hb dX0_pass_86 hl (k := 1) rfl rfl (by decide) rfl (fun ls hl => ?_)
        refine lv_goto (tgt := 63) hx hb dX0_pass_89 (by decide) ?_
        exact ih15 _ _ hf _ _ _ hW (lv_sub hl [1, 0] rfl)
      clear ek29
      refine lv_if_eq (tgt := 86) hx hb dX0_pass_73 (by decide) (fun c32 => ?_) (fun c32 => ?_)
      · rw [if_pos c32] at hf
        exact w30 _ _ _ _ hf hW (lv_sub hl [0, 1] rfl)
      · rw [if_neg c32] at hf
        refine lv_aload_n hx hb dX0_pass_76 rfl (lv_at hl 0 rfl) ?_
        refine nb_get (C := RX0) (T := TX0) (N := 14) hx hb hts inT_X0 hown hK hW 36 rfl rfl 12 (by decide) (hts _ tw1_180) (fun _ h9 => h9) rfl (v := .ref (G.2.1 59)) rfl dX0_pass_77 ?_
        refine lv_iload_n hx hb dX0_pass_80 rfl (lv_at hl 1 rfl) ?_
        refine lv_aload_n hx hb dX0_pass_81 rfl (lv_at hl 0 rfl) ?_
        refine nb_get (C := RX0) (T := TX0) (N := 14) hx hb hts inT_X0 hown hK hW 36 rfl rfl 7 (by decide) (hts _ tw1_175) (fun _ h9 => h9) rfl (v := .int (σ13 36 7)) rfl dX0_pass_82 ?_
        obtain ⟨g33, hf⟩ := nb_g_e hf
        obtain ⟨σ34, eσ34, hf⟩ := nb_let_e hf
        refine nb_iast hx hb hK hinj hW 59 rfl g33 eσ34 dX0_pass_85 (fun H locs hW => ?_)
        exact w30 _ _ _ _ hf hW (lv_sub hl [0, 1] rfl)
  clear ek10
  refine lv_icmp_gt (tgt := 61) hx hb dX0_pass_27 (by decide) (fun c35 => ?_) (fun c35 => ?_)
  · rw [if_pos c35] at hf
    exact w11 ()  _ _ _ hf hW (lv_sub hl [0] rfl)
  · rw [if_neg c35] at hf
    refine lv_iload_n hx hb dX0_pass_30 rfl (lv_at hl 1 rfl) ?_
    refine lv_aload_n hx hb dX0_pass_31 rfl (lv_at hl 0 rfl) ?_
    refine nb_get (C := RX0) (T := TX0) (N := 14) hx hb hts inT_X0 hown hK hW 36 rfl rfl 7 (by decide) (hts _ tw1_175) (fun _ h9 => h9) rfl (v := .int (σ7 36 7)) rfl dX0_pass_32 ?_
    refine lv_icmp_ge (tgt := 61) hx hb dX0_pass_35 (by decide) (fun c36 => ?_) (fun c36 => ?_)
    · rw [if_pos c36] at hf
      exact w11 ()  _ _ _ hf hW (lv_sub hl [0] rfl)
    · rw [if_neg c36] at hf
      refine lv_aload_n hx hb dX0_pass_38 rfl (lv_at hl 0 rfl) ?_
      refine nb_get (C := RX0) (T := TX0) (N := 14) hx hb hts inT_X0 hown hK hW 36 rfl rfl 9 (by decide) (hts _ tw1_177) (fun _ h9 => h9) rfl (v := .int (σ7 36 9)) rfl dX0_pass_39 ?_
      refine lv_aload_n hx hb dX0_pass_42 rfl (lv_at hl 0 rfl) ?_
      refine nb_get (C := RX0) (T := TX0) (N := 14) hx hb hts inT_X0 hown hK hW 36 rfl rfl 8 (by decide) (hts _ tw1_176) (fun _ h9 => h9) rfl (v := .int (σ7 36 8)) rfl dX0_pass_43 ?_
      refine lv_icmp_eq (tgt := 61) hx hb dX0_pass_46 (by decide) (fun c37 => ?_) (fun c37 => ?_)
      · rw [if_pos c37] at hf
        exact w11 ()  _ _ _ hf hW (lv_sub hl [0] rfl)
      · rw [if_neg c37] at hf
        refine lv_aload_n hx hb dX0_pass_49 rfl (lv_at hl 0 rfl) ?_
        refine lv_iload_n hx hb dX0_pass_50 rfl (lv_at hl 1 rfl) ?_
        obtain ⟨r39, σ40, hc38, hf⟩ := nb_b2_e hf
        refine nb_ci hW (va_runV (As := [.int x5]) (rest := []) ⟨hx, hb, hml, hown, hts⟩ (c_X0_goOnFrom l hinj hZo (N := N) hc38 ) (cwV 1 hts (xg_V tw3_58 tw3_60 tp1_5 tw1_5 tw3_61) rfl rfl rfl (by decide +kernel) ⟨Nat.le_of_ble_eq_true rfl, Nat.le_of_ble_eq_true rfl⟩) (nb_preV hK hZ hZo hW (k := 36) rfl rfl) rfl rfl hl.1 rfl (lv_room (Nat.le_of_ble_eq_true rfl)) dX0_pass_51 ⟨Nat.zero_le _, Nat.zero_le _⟩) (fun H locs hW => ?_)
        refine lv_istore_n (lv' := [(1, .int r39), (0, .ref (G.2.1 36)), (2, .int x6)]) hx hb dX0_pass_54 rfl hl (by decide) rfl (fun ls hl => ?_)
        refine lv_iinc (v := (x6 + 1)) (lv' := [(2, .int (x6 + 1)), (1, .int r39), (0, .ref (G.2.1 36))]) hx hb dX0_pass_55 hl (k := 2) rfl rfl (by decide) rfl (fun ls hl => ?_)
        refine lv_goto (tgt := 23) hx hb dX0_pass_58 (by decide) ?_
        exact ih9 _ _ _ hf _ _ _ hW (lv_sub hl [2, 1, 0] rfl)
def fX0_standsIn (N : Nat) (σ : nb_St) (a0 : Int32) : Option Int32 :=
  nb_let (nb_ix (σ 36 0)) fun p1 =>
  nb_g (xc_pty p1) (
  nb_g (nb_in a0 8) (
  nb_g (nb_in (σ (p1 + 1) (nb_ix a0)) 4) (
  some (σ 59 (nb_ix (σ (p1 + 1) (nb_ix a0)))))))
def rmX0_standsIn : Room := { frames := 0, cells := 0, slots := 0, locals := 0 }
def vsX0_standsIn : List Cond := .code yX0_standsIn cX0_standsIn 2 (some .int) :: xT
set_option maxHeartbeats 4000000 in
set_option maxRecDepth 100000 in
theorem c_X0_standsIn (l : Launch) {G : nb_G} {tb : Nat → Nat} (hinj : nb_inj xc_sh G.2.1) (hZo : nb_Zok (nb_A xc_sh G.2.1) (xc_Z (nb_A xc_sh G.2.1) tb)) {N : Nat} {σ : nb_St} {a0 : Int32} {ro : Int32} (hf : fX0_standsIn N σ a0 = some ro)  : Met l yX0_standsIn vsX0_standsIn rmX0_standsIn (nb_Pc G xc_sh (xc_Z (nb_A xc_sh G.2.1) tb) σ [.ref (G.2.1 36), .int a0]) (nb_Qi G xc_sh (xc_Z (nb_A xc_sh G.2.1) tb) ro σ) 0 0 (nb_A xc_sh G.2.1) := by
  refine Met.ofW (cc := cX0_standsIn) (maxL := 2) (ret := (some .int)) (by decide) rfl ?_
  intro p e s m args below meth c s₁ B hml hv
  obtain ⟨rfl, hP, hK, hZ⟩ := hv
  have hx := B.exec
  have hb := B.bytes
  have hr := B.returns
  have hts : ∀ w ∈ xT, w.before _ s = true := fun w h9 => atoms_spec (ws := vsX0_standsIn) B.pre w (List.mem_cons_of_mem _ h9)
  have hown : s.vm.findClass RX0 = some m.cls := findClass_of_methodNamed B.named
  have hlocks := B.notSynchronized
  have hW : nb_W G xc_sh s.heap σ s.heap [] := ⟨hP, va_S.rf⟩
  have hl := lv_entry ([.ref (G.2.1 36), .int a0]) (n := 2) (Nat.le_of_ble_eq_true rfl)
  rw [lg_entry_eq]
  generalize (lg_sl ([.ref (G.2.1 36), .int a0]) ++ List.replicate (2 - (lg_sl ([.ref (G.2.1 36), .int a0])).length) Slot.unset).toArray = ls at hl ⊢
  have hl : lv_has ls 2 [(0, .ref (G.2.1 36)), (1, .int a0)] := hl
  show W p l e rmX0_standsIn s m ([.ref (G.2.1 36), .int a0]).toArray below meth c s.heap [] 0 0 (MQ below (nb_Qi G xc_sh (xc_Z (nb_A xc_sh G.2.1) tb) ro σ) ([.ref (G.2.1 36), .int a0]).toArray s 0 0 (nb_A xc_sh G.2.1)) (F0 m 0 ls [])
  generalize hargs : ([.ref (G.2.1 36), .int a0] : List Value).toArray = args at hts ⊢
  unfold fX0_standsIn at hf
  obtain ⟨H, eH⟩ : ∃ H, H = s.heap := ⟨_, rfl⟩
  obtain ⟨locs, eL⟩ : ∃ L : List Loc, L = [] := ⟨_, rfl⟩
  have hW : nb_W G xc_sh s.heap σ H locs := by rw [eH, eL]; exact hW
  suffices hgo : W p l e rmX0_standsIn s m args below meth c H locs 0 0 (MQ below (nb_Qi G xc_sh (xc_Z (nb_A xc_sh G.2.1) tb) ro σ) args s 0 0 (nb_A xc_sh G.2.1)) (F0 m 0 ls []) by rw [eH, eL] at hgo; exact hgo
  clear eH eL
  refine lv_aload_n hx hb dX0_standsIn_0 rfl (lv_at hl 0 rfl) ?_
  refine nb_get (C := RX0) (T := TX0) (N := 14) hx hb hts inT_X0 hown hK hW 36 rfl rfl 12 (by decide) (hts _ tw1_180) (fun _ h9 => h9) rfl (v := .ref (G.2.1 59)) rfl dX0_standsIn_1 ?_
  refine lv_aload_n hx hb dX0_standsIn_4 rfl (lv_at hl 0 rfl) ?_
  obtain ⟨p1, ep1, hf⟩ := nb_let_e hf
  obtain ⟨hp2, hf⟩ := nb_g_e hf
  refine nb_get (C := RX0) (T := TX0) (N := 14) hx hb hts inT_X0 hown hK hW 36 rfl rfl 0 (by decide) (hts _ tw1_168) (fun _ h9 => h9) rfl (v := .ref (G.2.1 p1)) (by rw [ep1]; rfl) dX0_standsIn_5 ?_
  refine nb_getN (C := RX4) (T := TX4) (N := 18) (host := "NobodyFirst") hx hb hts inT_X4 hown hK hW p1 (sx_pty_0 hp2) rfl 1 (by decide) (va_Nw.use rfl (hZ.1 ("NobodyFirst$Evening", 62, "NobodyFirst$Party", "pair", "[I", "NobodyFirst") (by decide +kernel))) (fun _ h9 => h9) rfl (v := .ref (G.2.1 (p1 + 1))) rfl dX0_standsIn_8 ?_
  refine lv_iload_n hx hb dX0_standsIn_11 rfl (lv_at hl 1 rfl) ?_
  obtain ⟨g3, hf⟩ := nb_g_e hf
  refine nb_iald hx hb hK hW (p1 + 1) (sx_pty_1 hp2) g3 dX0_standsIn_12 ?_
  obtain ⟨g4, hf⟩ := nb_g_e hf
  refine nb_iald hx hb hK hW 59 rfl g4 dX0_standsIn_13 ?_
  exact nb_rip hx hb hr hlocks hK hZ hZo hW  hf dX0_standsIn_14
def fX0_goesIn (N : Nat) (σ : nb_St) (a0 : Int32) : Option Int32 :=
  nb_let (nb_ix (σ 36 0)) fun p1 =>
  nb_g (xc_pty p1) (
  nb_g (nb_in a0 8) (
  nb_g (nb_in (σ (p1 + 1) (nb_ix a0)) 4) (
  some (σ 60 (nb_ix (σ (p1 + 1) (nb_ix a0)))))))
def rmX0_goesIn : Room := { frames := 0, cells := 0, slots := 0, locals := 0 }
def vsX0_goesIn : List Cond := .code yX0_goesIn cX0_goesIn 2 (some .int) :: xT
set_option maxHeartbeats 4000000 in
set_option maxRecDepth 100000 in
theorem c_X0_goesIn (l : Launch) {G : nb_G} {tb : Nat → Nat} (hinj : nb_inj xc_sh G.2.1) (hZo : nb_Zok (nb_A xc_sh G.2.1) (xc_Z (nb_A xc_sh G.2.1) tb)) {N : Nat} {σ : nb_St} {a0 : Int32} {ro : Int32} (hf : fX0_goesIn N σ a0 = some ro)  : Met l yX0_goesIn vsX0_goesIn rmX0_goesIn (nb_Pc G xc_sh (xc_Z (nb_A xc_sh G.2.1) tb) σ [.ref (G.2.1 36), .int a0]) (nb_Qi G xc_sh (xc_Z (nb_A xc_sh G.2.1) tb) ro σ) 0 0 (nb_A xc_sh G.2.1) := by
  refine Met.ofW (cc := cX0_goesIn) (maxL := 2) (ret := (some .int)) (by decide) rfl ?_
  intro p e s m args below meth c s₁ B hml hv
  obtain ⟨rfl, hP, hK, hZ⟩ := hv
  have hx := B.exec
  have hb := B.bytes
  have hr := B.returns
  have hts : ∀ w ∈ xT, w.before _ s = true := fun w h9 => atoms_spec (ws := vsX0_goesIn) B.pre w (List.mem_cons_of_mem _ h9)
  have hown : s.vm.findClass RX0 = some m.cls := findClass_of_methodNamed B.named
  have hlocks := B.notSynchronized
  have hW : nb_W G xc_sh s.heap σ s.heap [] := ⟨hP, va_S.rf⟩
  have hl := lv_entry ([.ref (G.2.1 36), .int a0]) (n := 2) (Nat.le_of_ble_eq_true rfl)
  rw [lg_entry_eq]
  generalize (lg_sl ([.ref (G.2.1 36), .int a0]) ++ List.replicate (2 - (lg_sl ([.ref (G.2.1 36), .int a0])).length) Slot.unset).toArray = ls at hl ⊢
  have hl : lv_has ls 2 [(0, .ref (G.2.1 36)), (1, .int a0)] := hl
  show W p l e rmX0_goesIn s m ([.ref (G.2.1 36), .int a0]).toArray below meth c s.heap [] 0 0 (MQ below (nb_Qi G xc_sh (xc_Z (nb_A xc_sh G.2.1) tb) ro σ) ([.ref (G.2.1 36), .int a0]).toArray s 0 0 (nb_A xc_sh G.2.1)) (F0 m 0 ls [])
  generalize hargs : ([.ref (G.2.1 36), .int a0] : List Value).toArray = args at hts ⊢
  unfold fX0_goesIn at hf
  obtain ⟨H, eH⟩ : ∃ H, H = s.heap := ⟨_, rfl⟩
  obtain ⟨locs, eL⟩ : ∃ L : List Loc, L = [] := ⟨_, rfl⟩
  have hW : nb_W G xc_sh s.heap σ H locs := by rw [eH, eL]; exact hW
  suffices hgo : W p l e rmX0_goesIn s m args below meth c H locs 0 0 (MQ below (nb_Qi G xc_sh (xc_Z (nb_A xc_sh G.2.1) tb) ro σ) args s 0 0 (nb_A xc_sh G.2.1)) (F0 m 0 ls []) by rw [eH, eL] at hgo; exact hgo
  clear eH eL
  refine lv_aload_n hx hb dX0_goesIn_0 rfl (lv_at hl 0 rfl) ?_
  refine nb_get (C := RX0) (T := TX0) (N := 14) hx hb hts inT_X0 hown hK hW 36 rfl rfl 13 (by decide) (hts _ tw1_181) (fun _ h9 => h9) rfl (v := .ref (G.2.1 60)) rfl dX0_goesIn_1 ?_
  refine lv_aload_n hx hb dX0_goesIn_4 rfl (lv_at hl 0 rfl) ?_
  obtain ⟨p1, ep1, hf⟩ := nb_let_e hf
  obtain ⟨hp2, hf⟩ := nb_g_e hf
  refine nb_get (C := RX0) (T := TX0) (N := 14) hx hb hts inT_X0 hown hK hW 36 rfl rfl 0 (by decide) (hts _ tw1_168) (fun _ h9 => h9) rfl (v := .ref (G.2.1 p1)) (by rw [ep1]; rfl) dX0_goesIn_5 ?_
  refine nb_getN (C := RX4) (T := TX4) (N := 18) (host := "NobodyFirst") hx hb hts inT_X4 hown hK hW p1 (sx_pty_0 hp2) rfl 1 (by decide) (va_Nw.use rfl (hZ.1 ("NobodyFirst$Evening", 62, "NobodyFirst$Party", "pair", "[I", "NobodyFirst") (by decide +kernel))) (fun _ h9 => h9) rfl (v := .ref (G.2.1 (p1 + 1))) rfl dX0_goesIn_8 ?_
  refine lv_iload_n hx hb dX0_goesIn_11 rfl (lv_at hl 1 rfl) ?_
  obtain ⟨g3, hf⟩ := nb_g_e hf
  refine nb_iald hx hb hK hW (p1 + 1) (sx_pty_1 hp2) g3 dX0_goesIn_12 ?_
  obtain ⟨g4, hf⟩ := nb_g_e hf
  refine nb_iald hx hb hK hW 60 rfl g4 dX0_goesIn_13 ?_
  exact nb_rip hx hb hr hlocks hK hZ hZo hW  hf dX0_goesIn_14
def fX0_lastGoes (N : Nat) (σ : nb_St)  : Option Int32 :=
  nb_lp2 (R := Int32) (fun ag3 (x1 : Int32) (x2 : Int32) =>
  nb_let (nb_ix (σ 36 0)) fun p5 =>
  nb_g (xc_pty p5) (
  (if (σ p5 0) ≤ x2 then
  some x1
  else
  nb_b (fX0_goesIn N σ x2) fun r9 =>
  nb_let (nb_max x1 r9) fun v10 =>
  ag3 v10 (x2 + 1)))) N (0 : Int32) (0 : Int32)
def rmX0_lastGoes : Room := { frames := 1, cells := 0, slots := 0, locals := 21 }
def vsX0_lastGoes : List Cond := .code yX0_lastGoes cX0_lastGoes 3 (some .int) :: xT
set_option maxHeartbeats 4000000 in
set_option maxRecDepth 100000 in
theorem c_X0_lastGoes (l : Launch) {G : nb_G} {tb : Nat → Nat} (hinj : nb_inj xc_sh G.2.1) (hZo : nb_Zok (nb_A xc_sh G.2.1) (xc_Z (nb_A xc_sh G.2.1) tb)) {N : Nat} {σ : nb_St}  {ro : Int32} (hf : fX0_lastGoes N σ = some ro)  : Met l yX0_lastGoes vsX0_lastGoes rmX0_lastGoes (nb_Pc G xc_sh (xc_Z (nb_A xc_sh G.2.1) tb) σ [.ref (G.2.1 36)]) (nb_Qi G xc_sh (xc_Z (nb_A xc_sh G.2.1) tb) ro σ) 0 0 (nb_A xc_sh G.2.1) := by
  refine Met.ofW (cc := cX0_lastGoes) (maxL := 3) (ret := (some .int)) (by decide) rfl ?_
  intro p e s m args below meth c s₁ B hml hv
  obtain ⟨rfl, hP, hK, hZ⟩ := hv
  have hx := B.exec
  have hb := B.bytes
  have hr := B.returns
  have hts : ∀ w ∈ xT, w.before _ s = true := fun w h9 => atoms_spec (ws := vsX0_lastGoes) B.pre w (List.mem_cons_of_mem _ h9)
  have hown : s.vm.findClass RX0 = some m.cls := findClass_of_methodNamed B.named
  have hlocks := B.notSynchronized
  have hW : nb_W G xc_sh s.heap σ s.heap [] := ⟨hP, va_S.rf⟩
  have hl := lv_entry ([.ref (G.2.1 36)]) (n := 3) (Nat.le_of_ble_eq_true rfl)
  rw [lg_entry_eq]
  generalize (lg_sl ([.ref (G.2.1 36)]) ++ List.replicate (3 - (lg_sl ([.ref (G.2.1 36)])).length) Slot.unset).toArray = ls at hl ⊢
  have hl : lv_has ls 3 [(0, .ref (G.2.1 36))] := hl
  show W p l e rmX0_lastGoes s m ([.ref (G.2.1 36)]).toArray below meth c s.heap [] 0 0 (MQ below (nb_Qi G xc_sh (xc_Z (nb_A xc_sh G.2.1) tb) ro σ) ([.ref (G.2.1 36)]).toArray s 0 0 (nb_A xc_sh G.2.1)) (F0 m 0 ls [])
  generalize hargs : ([.ref (G.2.1 36)] : List Value).toArray = args at hts ⊢
  unfold fX0_lastGoes at hf
  obtain ⟨H, eH⟩ : ∃ H, H = s.heap := ⟨_, rfl⟩
  obtain ⟨locs, eL⟩ : ∃ L : List Loc, L = [] := ⟨_, rfl⟩
  have hW : nb_W G xc_sh s.heap σ H locs := by rw [eH, eL]; exact hW
  suffices hgo : W p l e rmX0_lastGoes s m args below meth c H locs 0 0 (MQ below (nb_Qi G xc_sh (xc_Z (nb_A xc_sh G.2.1) tb) ro σ) args s 0 0 (nb_A xc_sh G.2.1)) (F0 m 0 ls []) by rw [eH, eL] at hgo; exact hgo
  clear eH eL
  refine lv_iconst (v := (0 : Int32)) hx hb dX0_lastGoes_0 (by decide) ?_
  refine lv_istore_n (lv' := [(1, .int (0 : Int32)), (0, .ref (G.2.1 36))]) hx hb dX0_lastGoes_1 rfl hl (by decide) rfl (fun ls hl => ?_)
  refine lv_iconst (v := (0 : Int32)) hx hb dX0_lastGoes_2 (by decide) ?_
  refine lv_istore_n (lv' := [(2, .int (0 : Int32)), (1, .int (0 : Int32)), (0, .ref (G.2.1 36))]) hx hb dX0_lastGoes_3 rfl hl (by decide) rfl (fun ls hl => ?_)
  refine nb_w2 (P := fun (x1 : Int32) (x2 : Int32) => ∀ (H : Heap) (locs : List Loc) (ls : Array Slot), nb_W G xc_sh s.heap σ H locs → lv_has ls 3 [(0, .ref (G.2.1 36)), (1, .int x1), (2, .int x2)] → W p l e rmX0_lastGoes s m args below meth c H locs 0 0 (MQ below (nb_Qi G xc_sh (xc_Z (nb_A xc_sh G.2.1) tb) ro σ) args s 0 0 (nb_A xc_sh G.2.1)) (F0 m 4 ls [])) ?_ N _ _ hf H locs ls hW (lv_sub hl [2, 1, 0] rfl)
  intro ag3 ih4 x1 x2 hf H locs ls hW hl
  refine lv_iload_n hx hb dX0_lastGoes_4 rfl (lv_at hl 2 rfl) ?_
  refine lv_aload_n hx hb dX0_lastGoes_5 rfl (lv_at hl 0 rfl) ?_
  obtain ⟨p5, ep5, hf⟩ := nb_let_e hf
  obtain ⟨hp6, hf⟩ := nb_g_e hf
  refine nb_get (C := RX0) (T := TX0) (N := 14) hx hb hts inT_X0 hown hK hW 36 rfl rfl 0 (by decide) (hts _ tw1_168) (fun _ h9 => h9) rfl (v := .ref (G.2.1 p5)) (by rw [ep5]; rfl) dX0_lastGoes_6 ?_
  refine nb_getN (C := RX4) (T := TX4) (N := 18) (host := "NobodyFirst") hx hb hts inT_X4 hown hK hW p5 (sx_pty_0 hp6) rfl 0 (by decide) (va_Nw.use rfl (hZ.1 ("NobodyFirst$Evening", 59, "NobodyFirst$Party", "guests", "I", "NobodyFirst") (by decide +kernel))) (fun _ h9 => h9) rfl (v := .int (σ p5 0)) rfl dX0_lastGoes_9 ?_
  refine lv_icmp_ge (tgt := 31) hx hb dX0_lastGoes_12 (by decide) (fun c7 => ?_) (fun c7 => ?_)
  · rw [if_pos c7] at hf
    refine lv_iload_n hx hb dX0_lastGoes_31 rfl (lv_at hl 1 rfl) ?_
    exact nb_rip hx hb hr hlocks hK hZ hZo hW  hf dX0_lastGoes_32
  · rw [if_neg c7] at hf
    refine lv_iload_n hx hb dX0_lastGoes_15 rfl (lv_at hl 1 rfl) ?_
    refine lv_aload_n hx hb dX0_lastGoes_16 rfl (lv_at hl 0 rfl) ?_
    refine lv_iload_n hx hb dX0_lastGoes_17 rfl (lv_at hl 2 rfl) ?_
    obtain ⟨r9, hc8, hf⟩ := nb_b_e hf
    refine nb_ci hW (va_runV (As := [.int x2]) (rest := [.int x1]) ⟨hx, hb, hml, hown, hts⟩ (c_X0_goesIn l hinj hZo (N := N) hc8 ) (cwV 1 hts (xg_V tw3_131 tw3_108 tw3_109 tw1_5 tw3_110) rfl rfl rfl (by decide +kernel) ⟨Nat.le_of_ble_eq_true rfl, Nat.le_of_ble_eq_true rfl⟩) (nb_preV hK hZ hZo hW (k := 36) rfl rfl) rfl rfl hl.1 rfl (lv_room (Nat.le_of_ble_eq_true rfl)) dX0_lastGoes_18 ⟨Nat.zero_le _, Nat.zero_le _⟩) (fun H locs hW => ?_)
    refine va_mmax hx hb (hml.trans hl.1.symm) hown (hts _ tw3_83) (hts _ tw2_67) (hts _ tw1_9) (hts _ tw2_68) (Nat.le_of_ble_eq_true rfl) (Nat.le_of_ble_eq_true rfl) (Nat.zero_le _) (Nat.zero_le _) dX0_lastGoes_21 ?_
    show W p l e rmX0_lastGoes s m args below meth c H locs 0 0 (MQ below (nb_Qi G xc_sh (xc_Z (nb_A xc_sh G.2.1) tb) ro σ) args s 0 0 (nb_A xc_sh G.2.1)) (F0 m 24 ls [.int (nb_max x1 r9)])
    obtain ⟨v10, ev10, hf⟩ := nb_let_e hf
    refine nb_nami ev10 ?_
    refine lv_istore_n (lv' := [(1, .int v10), (0, .ref (G.2.1 36)), (2, .int x2)]) hx hb dX0_lastGoes_24 rfl hl (by decide) rfl (fun ls hl => ?_)
    refine lv_iinc (v := (x2 + 1)) (lv' := [(2, .int (x2 + 1)), (1, .int v10), (0, .ref (G.2.1 36))]) hx hb dX0_lastGoes_25 hl (k := 2) rfl rfl (by decide) rfl (fun ls hl => ?_)
    refine lv_goto (tgt := 4) hx hb dX0_lastGoes_28 (by decide) ?_
    exact ih4 _ _ hf _ _ _ hW (lv_sub hl [2, 1, 0] rfl)
def fX0_wastedByHost (N : Nat) (σ : nb_St)  : Option Int32 :=
  nb_b (fX0_lastGoes N σ) fun r2 =>
  nb_let (nb_ix (σ 36 0)) fun p3 =>
  nb_g (xc_pty p3) (
  nb_let (nb_abs (r2 - (σ p3 8))) fun v5 =>
  some v5)
def rmX0_wastedByHost : Room := { frames := 2, cells := 0, slots := 0, locals := 43 }
def vsX0_wastedByHost : List Cond := .code yX0_wastedByHost cX0_wastedByHost 1 (some .int) :: xT
set_option maxHeartbeats 4000000 in
set_option maxRecDepth 100000 in
theorem c_X0_wastedByHost (l : Launch) {G : nb_G} {tb : Nat → Nat} (hinj : nb_inj xc_sh G.2.1) (hZo : nb_Zok (nb_A xc_sh G.2.1) (xc_Z (nb_A xc_sh G.2.1) tb)) {N : Nat} {σ : nb_St}  {ro : Int32} (hf : fX0_wastedByHost N σ = some ro)  : Met l yX0_wastedByHost vsX0_wastedByHost rmX0_wastedByHost (nb_Pc G xc_sh (xc_Z (nb_A xc_sh G.2.1) tb) σ [.ref (G.2.1 36)]) (nb_Qi G xc_sh (xc_Z (nb_A xc_sh G.2.1) tb) ro σ) 0 0 (nb_A xc_sh G.2.1) := by
  refine Met.ofW (cc := cX0_wastedByHost) (maxL := 1) (ret := (some .int)) (by decide) rfl ?_
  intro p e s m args below meth c s₁ B hml hv
  obtain ⟨rfl, hP, hK, hZ⟩ := hv
  have hx := B.exec
  have hb := B.bytes
  have hr := B.returns
  have hts : ∀ w ∈ xT, w.before _ s = true := fun w h9 => atoms_spec (ws := vsX0_wastedByHost) B.pre w (List.mem_cons_of_mem _ h9)
  have hown : s.vm.findClass RX0 = some m.cls := findClass_of_methodNamed B.named
  have hlocks := B.notSynchronized
  have hW : nb_W G xc_sh s.heap σ s.heap [] := ⟨hP, va_S.rf⟩
  have hl := lv_entry ([.ref (G.2.1 36)]) (n := 1) (Nat.le_of_ble_eq_true rfl)
  rw [lg_entry_eq]
  generalize (lg_sl ([.ref (G.2.1 36)]) ++ List.replicate (1 - (lg_sl ([.ref (G.2.1 36)])).length) Slot.unset).toArray = ls at hl ⊢
  have hl : lv_has ls 1 [(0, .ref (G.2.1 36))] := hl
  show W p l e rmX0_wastedByHost s m ([.ref (G.2.1 36)]).toArray below meth c s.heap [] 0 0 (MQ below (nb_Qi G xc_sh (xc_Z (nb_A xc_sh G.2.1) tb) ro σ) ([.ref (G.2.1 36)]).toArray s 0 0 (nb_A xc_sh G.2.1)) (F0 m 0 ls [])
  generalize hargs : ([.ref (G.2.1 36)] : List Value).toArray = args at hts ⊢
  unfold fX0_wastedByHost at hf
  obtain ⟨H, eH⟩ : ∃ H, H = s.heap := ⟨_, rfl⟩
  obtain ⟨locs, eL⟩ : ∃ L : List Loc, L = [] := ⟨_, rfl⟩
  have hW : nb_W G xc_sh s.heap σ H locs := by rw [eH, eL]; exact hW
  suffices hgo : W p l e rmX0_wastedByHost s m args below meth c H locs 0 0 (MQ below (nb_Qi G xc_sh (xc_Z (nb_A xc_sh G.2.1) tb) ro σ) args s 0 0 (nb_A xc_sh G.2.1)) (F0 m 0 ls []) by rw [eH, eL] at hgo; exact hgo
  clear eH eL
  refine lv_aload_n hx hb dX0_wastedByHost_0 rfl (lv_at hl 0 rfl) ?_
  obtain ⟨r2, hc1, hf⟩ := nb_b_e hf
  refine nb_ci hW (va_runV (As := []) (rest := []) ⟨hx, hb, hml, hown, hts⟩ (c_X0_lastGoes l hinj hZo (N := N) hc1 ) (cwV 0 hts (xg_V tw3_127 tw3_128 tw3_129 tw1_5 tw3_130) rfl rfl rfl (by decide +kernel) ⟨Nat.le_of_ble_eq_true rfl, Nat.le_of_ble_eq_true rfl⟩) (nb_preV hK hZ hZo hW (k := 36) rfl rfl) rfl rfl hl.1 rfl (lv_room (Nat.le_of_ble_eq_true rfl)) dX0_wastedByHost_1 ⟨Nat.zero_le _, Nat.zero_le _⟩) (fun H locs hW => ?_)
  refine lv_aload_n hx hb dX0_wastedByHost_4 rfl (lv_at hl 0 rfl) ?_
  obtain ⟨p3, ep3, hf⟩ := nb_let_e hf
  obtain ⟨hp4, hf⟩ := nb_g_e hf
  refine nb_get (C := RX0) (T := TX0) (N := 14) hx hb hts inT_X0 hown hK hW 36 rfl rfl 0 (by decide) (hts _ tw1_168) (fun _ h9 => h9) rfl (v := .ref (G.2.1 p3)) (by rw [ep3]; rfl) dX0_wastedByHost_5 ?_
  refine nb_getN (C := RX4) (T := TX4) (N := 18) (host := "NobodyFirst") hx hb hts inT_X4 hown hK hW p3 (sx_pty_0 hp4) rfl 8 (by decide) (va_Nw.use rfl (hZ.1 ("NobodyFirst$Evening", 158, "NobodyFirst$Party", "end", "I", "NobodyFirst") (by decide +kernel))) (fun _ h9 => h9) rfl (v := .int (σ p3 8)) rfl dX0_wastedByHost_8 ?_
  refine lv_isub hx hb dX0_wastedByHost_11 ?_
  refine va_mabs hx hb (hml.trans hl.1.symm) hown (hts _ tw3_132) (hts _ tw3_133) (hts _ tw1_9) (hts _ tw3_134) (Nat.le_of_ble_eq_true rfl) (Nat.le_of_ble_eq_true rfl) (Nat.zero_le _) (Nat.zero_le _) dX0_wastedByHost_12 ?_
  show W p l e rmX0_wastedByHost s m args below meth c H locs 0 0 (MQ below (nb_Qi G xc_sh (xc_Z (nb_A xc_sh G.2.1) tb) ro σ) args s 0 0 (nb_A xc_sh G.2.1)) (F0 m 15 ls [.int (nb_abs (r2 - (σ p3 8)))])
  obtain ⟨v5, ev5, hf⟩ := nb_let_e hf
  refine nb_nami ev5 ?_
  exact nb_rip hx hb hr hlocks hK hZ hZo hW  hf dX0_wastedByHost_15
def fX0_wastedBy (N : Nat) (σ : nb_St) (a0 : Int32) : Option Int32 :=
  nb_b (fX0_goesIn N σ a0) fun r2 =>
  nb_let (nb_ix (σ 36 0)) fun p3 =>
  nb_g (xc_pty p3) (
  nb_g (nb_in a0 8) (
  nb_let (nb_abs (r2 - (σ (p3 + 2) (nb_ix a0)))) fun v6 =>
  some v6))
def rmX0_wastedBy : Room := { frames := 1, cells := 0, slots := 0, locals := 21 }
def vsX0_wastedBy : List Cond := .code yX0_wastedBy cX0_wastedBy 2 (some .int) :: xT
set_option maxHeartbeats 4000000 in
set_option maxRecDepth 100000 in
theorem c_X0_wastedBy (l : Launch) {G : nb_G} {tb : Nat → Nat} (hinj : nb_inj xc_sh G.2.1) (hZo : nb_Zok (nb_A xc_sh G.2.1) (xc_Z (nb_A xc_sh G.2.1) tb)) {N : Nat} {σ : nb_St} {a0 : Int32} {ro : Int32} (hf : fX0_wastedBy N σ a0 = some ro)  : Met l yX0_wastedBy vsX0_wastedBy rmX0_wastedBy (nb_Pc G xc_sh (xc_Z (nb_A xc_sh G.2.1) tb) σ [.ref (G.2.1 36), .int a0]) (nb_Qi G xc_sh (xc_Z (nb_A xc_sh G.2.1) tb) ro σ) 0 0 (nb_A xc_sh G.2.1) := by
  refine Met.ofW (cc := cX0_wastedBy) (maxL := 2) (ret := (some .int)) (by decide) rfl ?_
  intro p e s m args below meth c s₁ B hml hv
  obtain ⟨rfl, hP, hK, hZ⟩ := hv
  have hx := B.exec
  have hb := B.bytes
  have hr := B.returns
  have hts : ∀ w ∈ xT, w.before _ s = true := fun w h9 => atoms_spec (ws := vsX0_wastedBy) B.pre w (List.mem_cons_of_mem _ h9)
  have hown : s.vm.findClass RX0 = some m.cls := findClass_of_methodNamed B.named
  have hlocks := B.notSynchronized
  have hW : nb_W G xc_sh s.heap σ s.heap [] := ⟨hP, va_S.rf⟩
  have hl := lv_entry ([.ref (G.2.1 36), .int a0]) (n := 2) (Nat.le_of_ble_eq_true rfl)
  rw [lg_entry_eq]
  generalize (lg_sl ([.ref (G.2.1 36), .int a0]) ++ List.replicate (2 - (lg_sl ([.ref (G.2.1 36), .int a0])).length) Slot.unset).toArray = ls at hl ⊢
  have hl : lv_has ls 2 [(0, .ref (G.2.1 36)), (1, .int a0)] := hl
  show W p l e rmX0_wastedBy s m ([.ref (G.2.1 36), .int a0]).toArray below meth c s.heap [] 0 0 (MQ below (nb_Qi G xc_sh (xc_Z (nb_A xc_sh G.2.1) tb) ro σ) ([.ref (G.2.1 36), .int a0]).toArray s 0 0 (nb_A xc_sh G.2.1)) (F0 m 0 ls [])
  generalize hargs : ([.ref (G.2.1 36), .int a0] : List Value).toArray = args at hts ⊢
  unfold fX0_wastedBy at hf
  obtain ⟨H, eH⟩ : ∃ H, H = s.heap := ⟨_, rfl⟩
  obtain ⟨locs, eL⟩ : ∃ L : List Loc, L = [] := ⟨_, rfl⟩
  have hW : nb_W G xc_sh s.heap σ H locs := by rw [eH, eL]; exact hW
  suffices hgo : W p l e rmX0_wastedBy s m args below meth c H locs 0 0 (MQ below (nb_Qi G xc_sh (xc_Z (nb_A xc_sh G.2.1) tb) ro σ) args s 0 0 (nb_A xc_sh G.2.1)) (F0 m 0 ls []) by rw [eH, eL] at hgo; exact hgo
  clear eH eL
  refine lv_aload_n hx hb dX0_wastedBy_0 rfl (lv_at hl 0 rfl) ?_
  refine lv_iload_n hx hb dX0_wastedBy_1 rfl (lv_at hl 1 rfl) ?_
  obtain ⟨r2, hc1, hf⟩ := nb_b_e hf
  refine nb_ci hW (va_runV (As := [.int a0]) (rest := []) ⟨hx, hb, hml, hown, hts⟩ (c_X0_goesIn l hinj hZo (N := N) hc1 ) (cwV 1 hts (xg_V tw3_131 tw3_108 tw3_109 tw1_5 tw3_110) rfl rfl rfl (by decide +kernel) ⟨Nat.le_of_ble_eq_true rfl, Nat.le_of_ble_eq_true rfl⟩) (nb_preV hK hZ hZo hW (k := 36) rfl rfl) rfl rfl hl.1 rfl (lv_room (Nat.le_of_ble_eq_true rfl)) dX0_wastedBy_2 ⟨Nat.zero_le _, Nat.zero_le _⟩) (fun H locs hW => ?_)
  refine lv_aload_n hx hb dX0_wastedBy_5 rfl (lv_at hl 0 rfl) ?_
  obtain ⟨p3, ep3, hf⟩ := nb_let_e hf
  obtain ⟨hp4, hf⟩ := nb_g_e hf
  refine nb_get (C := RX0) (T := TX0) (N := 14) hx hb hts inT_X0 hown hK hW 36 rfl rfl 0 (by decide) (hts _ tw1_168) (fun _ h9 => h9) rfl (v := .ref (G.2.1 p3)) (by rw [ep3]; rfl) dX0_wastedBy_6 ?_
  refine nb_getN (C := RX4) (T := TX4) (N := 18) (host := "NobodyFirst") hx hb hts inT_X4 hown hK hW p3 (sx_pty_0 hp4) rfl 2 (by decide) (va_Nw.use rfl (hZ.1 ("NobodyFirst$Evening", 66, "NobodyFirst$Party", "wouldGo", "[I", "NobodyFirst") (by decide +kernel))) (fun _ h9 => h9) rfl (v := .ref (G.2.1 (p3 + 2))) rfl dX0_wastedBy_9 ?_
  refine lv_iload_n hx hb dX0_wastedBy_12 rfl (lv_at hl 1 rfl) ?_
  obtain ⟨g5, hf⟩ := nb_g_e hf
  refine nb_iald hx hb hK hW (p3 + 2) (sx_pty_2 hp4) g5 dX0_wastedBy_13 ?_
  refine lv_isub hx hb dX0_wastedBy_14 ?_
  refine va_mabs hx hb (hml.trans hl.1.symm) hown (hts _ tw3_132) (hts _ tw3_133) (hts _ tw1_9) (hts _ tw3_134) (Nat.le_of_ble_eq_true rfl) (Nat.le_of_ble_eq_true rfl) (Nat.zero_le _) (Nat.zero_le _) dX0_wastedBy_15 ?_
  show W p l e rmX0_wastedBy s m args below meth c H locs 0 0 (MQ below (nb_Qi G xc_sh (xc_Z (nb_A xc_sh G.2.1) tb) ro σ) args s 0 0 (nb_A xc_sh G.2.1)) (F0 m 18 ls [.int (nb_abs (r2 - (σ (p3 + 2) (nb_ix a0))))])
  obtain ⟨v6, ev6, hf⟩ := nb_let_e hf
  refine nb_nami ev6 ?_
  exact nb_rip hx hb hr hlocks hK hZ hZo hW  hf dX0_wastedBy_18
def fX0_wastedByAll (N : Nat) (σ : nb_St)  : Option Int32 :=
  nb_b (fX0_wastedByHost N σ) fun r2 =>
  nb_lp2 (R := Int32) (fun ag5 (x3 : Int32) (x4 : Int32) =>
  nb_let (nb_ix (σ 36 0)) fun p7 =>
  nb_g (xc_pty p7) (
  (if (σ p7 0) ≤ x4 then
  some x3
  else
  nb_b (fX0_wastedBy N σ x4) fun r11 =>
  nb_let (x3 + r11) fun x12 =>
  ag5 x12 (x4 + 1)))) N r2 (0 : Int32)
def rmX0_wastedByAll : Room := { frames := 3, cells := 0, slots := 0, locals := 63 }
def vsX0_wastedByAll : List Cond := .code yX0_wastedByAll cX0_wastedByAll 3 (some .int) :: xT
set_option maxHeartbeats 4000000 in
set_option maxRecDepth 100000 in
theorem c_X0_wastedByAll (l : Launch) {G : nb_G} {tb : Nat → Nat} (hinj : nb_inj xc_sh G.2.1) (hZo : nb_Zok (nb_A xc_sh G.2.1) (xc_Z (nb_A xc_sh G.2.1) tb)) {N : Nat} {σ : nb_St}  {ro : Int32} (hf : fX0_wastedByAll N σ = some ro)  : Met l yX0_wastedByAll vsX0_wastedByAll rmX0_wastedByAll (nb_Pc G xc_sh (xc_Z (nb_A xc_sh G.2.1) tb) σ [.ref (G.2.1 36)]) (nb_Qi G xc_sh (xc_Z (nb_A xc_sh G.2.1) tb) ro σ) 0 0 (nb_A xc_sh G.2.1) := by
  refine Met.ofW (cc := cX0_wastedByAll) (maxL := 3) (ret := (some .int)) (by decide) rfl ?_
  intro p e s m args below meth c s₁ B hml hv
  obtain ⟨rfl, hP, hK, hZ⟩ := hv
  have hx := B.exec
  have hb := B.bytes
  have hr := B.returns
  have hts : ∀ w ∈ xT, w.before _ s = true := fun w h9 => atoms_spec (ws := vsX0_wastedByAll) B.pre w (List.mem_cons_of_mem _ h9)
  have hown : s.vm.findClass RX0 = some m.cls := findClass_of_methodNamed B.named
  have hlocks := B.notSynchronized
  have hW : nb_W G xc_sh s.heap σ s.heap [] := ⟨hP, va_S.rf⟩
  have hl := lv_entry ([.ref (G.2.1 36)]) (n := 3) (Nat.le_of_ble_eq_true rfl)
  rw [lg_entry_eq]
  generalize (lg_sl ([.ref (G.2.1 36)]) ++ List.replicate (3 - (lg_sl ([.ref (G.2.1 36)])).length) Slot.unset).toArray = ls at hl ⊢
  have hl : lv_has ls 3 [(0, .ref (G.2.1 36))] := hl
  show W p l e rmX0_wastedByAll s m ([.ref (G.2.1 36)]).toArray below meth c s.heap [] 0 0 (MQ below (nb_Qi G xc_sh (xc_Z (nb_A xc_sh G.2.1) tb) ro σ) ([.ref (G.2.1 36)]).toArray s 0 0 (nb_A xc_sh G.2.1)) (F0 m 0 ls [])
  generalize hargs : ([.ref (G.2.1 36)] : List Value).toArray = args at hts ⊢
  unfold fX0_wastedByAll at hf
  obtain ⟨H, eH⟩ : ∃ H, H = s.heap := ⟨_, rfl⟩
  obtain ⟨locs, eL⟩ : ∃ L : List Loc, L = [] := ⟨_, rfl⟩
  have hW : nb_W G xc_sh s.heap σ H locs := by rw [eH, eL]; exact hW
  suffices hgo : W p l e rmX0_wastedByAll s m args below meth c H locs 0 0 (MQ below (nb_Qi G xc_sh (xc_Z (nb_A xc_sh G.2.1) tb) ro σ) args s 0 0 (nb_A xc_sh G.2.1)) (F0 m 0 ls []) by rw [eH, eL] at hgo; exact hgo
  clear eH eL
  refine lv_aload_n hx hb dX0_wastedByAll_0 rfl (lv_at hl 0 rfl) ?_
  obtain ⟨r2, hc1, hf⟩ := nb_b_e hf
  refine nb_ci hW (va_runV (As := []) (rest := []) ⟨hx, hb, hml, hown, hts⟩ (c_X0_wastedByHost l hinj hZo (N := N) hc1 ) (cwV 0 hts (xg_V tw3_123 tw3_124 tw3_125 tw1_5 tw3_126) rfl rfl rfl (by decide +kernel) ⟨Nat.le_of_ble_eq_true rfl, Nat.le_of_ble_eq_true rfl⟩) (nb_preV hK hZ hZo hW (k := 36) rfl rfl) rfl rfl hl.1 rfl (lv_room (Nat.le_of_ble_eq_true rfl)) dX0_wastedByAll_1 ⟨Nat.zero_le _, Nat.zero_le _⟩) (fun H locs hW => ?_)
  refine lv_istore_n (lv' := [(1, .int r2), (0, .ref (G.2.1 36))]) hx hb dX0_wastedByAll_4 rfl hl (by decide) rfl (fun ls hl => ?_)
  refine lv_iconst (v := (0 : Int32)) hx hb dX0_wastedByAll_5 (by decide) ?_
  refine lv_istore_n (lv' := [(2, .int (0 : Int32)), (1, .int r2), (0, .ref (G.2.1 36))]) hx hb dX0_wastedByAll_6 rfl hl (by decide) rfl (fun ls hl => ?_)
  refine nb_w2 (P := fun (x3 : Int32) (x4 : Int32) => ∀ (H : Heap) (locs : List Loc) (ls : Array Slot), nb_W G xc_sh s.heap σ H locs → lv_has ls 3 [(0, .ref (G.2.1 36)), (1, .int x3), (2, .int x4)] → W p l e rmX0_wastedByAll s m args below meth c H locs 0 0 (MQ below (nb_Qi G xc_sh (xc_Z (nb_A xc_sh G.2.1) tb) ro σ) args s 0 0 (nb_A xc_sh G.2.1)) (F0 m 7 ls [])) ?_ N _ _ hf H locs ls hW (lv_sub hl [2, 1, 0] rfl)
  intro ag5 ih6 x3 x4 hf H locs ls hW hl
  refine lv_iload_n hx hb dX0_wastedByAll_7 rfl (lv_at hl 2 rfl) ?_
  refine lv_aload_n hx hb dX0_wastedByAll_8 rfl (lv_at hl 0 rfl) ?_
  obtain ⟨p7, ep7, hf⟩ := nb_let_e hf
  obtain ⟨hp8, hf⟩ := nb_g_e hf
  refine nb_get (C := RX0) (T := TX0) (N := 14) hx hb hts inT_X0 hown hK hW 36 rfl rfl 0 (by decide) (hts _ tw1_168) (fun _ h9 => h9) rfl (v := .ref (G.2.1 p7)) (by rw [ep7]; rfl) dX0_wastedByAll_9 ?_
  refine nb_getN (C := RX4) (T := TX4) (N := 18) (host := "NobodyFirst") hx hb hts inT_X4 hown hK hW p7 (sx_pty_0 hp8) rfl 0 (by decide) (va_Nw.use rfl (hZ.1 ("NobodyFirst$Evening", 59, "NobodyFirst$Party", "guests", "I", "NobodyFirst") (by decide +kernel))) (fun _ h9 => h9) rfl (v := .int (σ p7 0)) rfl dX0_wastedByAll_12 ?_
  refine lv_icmp_ge (tgt := 32) hx hb dX0_wastedByAll_15 (by decide) (fun c9 => ?_) (fun c9 => ?_)
  · rw [if_pos c9] at hf
    refine lv_iload_n hx hb dX0_wastedByAll_32 rfl (lv_at hl 1 rfl) ?_
    exact nb_rip hx hb hr hlocks hK hZ hZo hW  hf dX0_wastedByAll_33
  · rw [if_neg c9] at hf
    refine lv_iload_n hx hb dX0_wastedByAll_18 rfl (lv_at hl 1 rfl) ?_
    refine lv_aload_n hx hb dX0_wastedByAll_19 rfl (lv_at hl 0 rfl) ?_
    refine lv_iload_n hx hb dX0_wastedByAll_20 rfl (lv_at hl 2 rfl) ?_
    obtain ⟨r11, hc10, hf⟩ := nb_b_e hf
    refine nb_ci hW (va_runV (As := [.int x4]) (rest := [.int x3]) ⟨hx, hb, hml, hown, hts⟩ (c_X0_wastedBy l hinj hZo (N := N) hc10 ) (cwV 1 hts (xg_V tw3_135 tw3_136 tw3_137 tw1_5 tw3_138) rfl rfl rfl (by decide +kernel) ⟨Nat.le_of_ble_eq_true rfl, Nat.le_of_ble_eq_true rfl⟩) (nb_preV hK hZ hZo hW (k := 36) rfl rfl) rfl rfl hl.1 rfl (lv_room (Nat.le_of_ble_eq_true rfl)) dX0_wastedByAll_21 ⟨Nat.zero_le _, Nat.zero_le _⟩) (fun H locs hW => ?_)
    refine lv_iadd hx hb dX0_wastedByAll_24 ?_
    obtain ⟨x12, ex12, hf⟩ := nb_let_e hf
    refine nb_nami ex12 ?_
    refine lv_istore_n (lv' := [(1, .int x12), (0, .ref (G.2.1 36)), (2, .int x4)]) hx hb dX0_wastedByAll_25 rfl hl (by decide) rfl (fun ls hl => ?_)
    refine lv_iinc (v := (x4 + 1)) (lv' := [(2, .int (x4 + 1)), (1, .int x12), (0, .ref (G.2.1 36))]) hx hb dX0_wastedByAll_26 hl (k := 2) rfl rfl (by decide) rfl (fun ls hl => ?_)
    refine lv_goto (tgt := 7) hx hb dX0_wastedByAll_29 (by decide) ?_
    exact ih6 _ _ hf _ _ _ hW (lv_sub hl [2, 1, 0] rfl)
def fX0_makeBus (N : Nat) (σ : nb_St) (a0 : Int32) (a1 : Int32) : Option nb_St :=
  nb_g (nb_in a0 8) (
  nb_let (nb_st σ 53 (nb_ix a0) (3 : Int32)) fun σ2 =>
  nb_g (nb_in a0 8) (
  nb_let (nb_st σ2 54 (nb_ix a0) a1) fun σ4 =>
  some σ4))
def rmX0_makeBus : Room := { frames := 0, cells := 0, slots := 0, locals := 0 }
def vsX0_makeBus : List Cond := .code yX0_makeBus cX0_makeBus 3 none :: xT
set_option maxHeartbeats 4000000 in
set_option maxRecDepth 100000 in
theorem c_X0_makeBus (l : Launch) {G : nb_G} {tb : Nat → Nat} (hinj : nb_inj xc_sh G.2.1) (hZo : nb_Zok (nb_A xc_sh G.2.1) (xc_Z (nb_A xc_sh G.2.1) tb)) {N : Nat} {σ : nb_St} {a0 : Int32} {a1 : Int32} {σo : nb_St} (hf : fX0_makeBus N σ a0 a1 = some σo)  : Met l yX0_makeBus vsX0_makeBus rmX0_makeBus (nb_Pc G xc_sh (xc_Z (nb_A xc_sh G.2.1) tb) σ [.ref (G.2.1 36), .int a0, .int a1]) (nb_Qv G xc_sh (xc_Z (nb_A xc_sh G.2.1) tb) σo) 0 0 (nb_A xc_sh G.2.1) := by
  refine Met.ofW (cc := cX0_makeBus) (maxL := 3) (ret := none) (by decide) rfl ?_
  intro p e s m args below meth c s₁ B hml hv
  obtain ⟨rfl, hP, hK, hZ⟩ := hv
  have hx := B.exec
  have hb := B.bytes
  have hr := B.returns
  have hts : ∀ w ∈ xT, w.before _ s = true := fun w h9 => atoms_spec (ws := vsX0_makeBus) B.pre w (List.mem_cons_of_mem _ h9)
  have hown : s.vm.findClass RX0 = some m.cls := findClass_of_methodNamed B.named
  have hlocks := B.notSynchronized
  have hW : nb_W G xc_sh s.heap σ s.heap [] := ⟨hP, va_S.rf⟩
  have hl := lv_entry ([.ref (G.2.1 36), .int a0, .int a1]) (n := 3) (Nat.le_of_ble_eq_true rfl)
  rw [lg_entry_eq]
  generalize (lg_sl ([.ref (G.2.1 36), .int a0, .int a1]) ++ List.replicate (3 - (lg_sl ([.ref (G.2.1 36), .int a0, .int a1])).length) Slot.unset).toArray = ls at hl ⊢
  have hl : lv_has ls 3 [(0, .ref (G.2.1 36)), (1, .int a0), (2, .int a1)] := hl
  show W p l e rmX0_makeBus s m ([.ref (G.2.1 36), .int a0, .int a1]).toArray below meth c s.heap [] 0 0 (MQ below (nb_Qv G xc_sh (xc_Z (nb_A xc_sh G.2.1) tb) σo) ([.ref (G.2.1 36), .int a0, .int a1]).toArray s 0 0 (nb_A xc_sh G.2.1)) (F0 m 0 ls [])
  generalize hargs : ([.ref (G.2.1 36), .int a0, .int a1] : List Value).toArray = args at hts ⊢
  unfold fX0_makeBus at hf
  obtain ⟨H, eH⟩ : ∃ H, H = s.heap := ⟨_, rfl⟩
  obtain ⟨locs, eL⟩ : ∃ L : List Loc, L = [] := ⟨_, rfl⟩
  have hW : nb_W G xc_sh s.heap σ H locs := by rw [eH, eL]; exact hW
  suffices hgo : W p l e rmX0_makeBus s m args below meth c H locs 0 0 (MQ below (nb_Qv G xc_sh (xc_Z (nb_A xc_sh G.2.1) tb) σo) args s 0 0 (nb_A xc_sh G.2.1)) (F0 m 0 ls []) by rw [eH, eL] at hgo; exact hgo
  clear eH eL
  refine lv_aload_n hx hb dX0_makeBus_0 rfl (lv_at hl 0 rfl) ?_
  refine nb_get (C := RX0) (T := TX0) (N := 14) hx hb hts inT_X0 hown hK hW 36 rfl rfl 1 (by decide) (hts _ tw1_169) (fun _ h9 => h9) rfl (v := .ref (G.2.1 53)) rfl dX0_makeBus_1 ?_
  refine lv_iload_n hx hb dX0_makeBus_4 rfl (lv_at hl 1 rfl) ?_
  refine lv_iconst (v := (3 : Int32)) hx hb dX0_makeBus_5 (by decide) ?_
  obtain ⟨g1, hf⟩ := nb_g_e hf
  obtain ⟨σ2, eσ2, hf⟩ := nb_let_e hf
  refine nb_iast hx hb hK hinj hW 53 rfl g1 eσ2 dX0_makeBus_6 (fun H locs hW => ?_)
  refine lv_aload_n hx hb dX0_makeBus_7 rfl (lv_at hl 0 rfl) ?_
  refine nb_get (C := RX0) (T := TX0) (N := 14) hx hb hts inT_X0 hown hK hW 36 rfl rfl 2 (by decide) (hts _ tw1_170) (fun _ h9 => h9) rfl (v := .ref (G.2.1 54)) rfl dX0_makeBus_8 ?_
  refine lv_iload_n hx hb dX0_makeBus_11 rfl (lv_at hl 1 rfl) ?_
  refine lv_iload_n hx hb dX0_makeBus_12 rfl (lv_at hl 2 rfl) ?_
  obtain ⟨g3, hf⟩ := nb_g_e hf
  obtain ⟨σ4, eσ4, hf⟩ := nb_let_e hf
  refine nb_iast hx hb hK hinj hW 54 rfl g3 eσ4 dX0_makeBus_13 (fun H locs hW => ?_)
  exact nb_rv hx hb hr hlocks hK hZ hZo hW hf dX0_makeBus_14
def fX0_ringAt (N : Nat) (σ : nb_St) (a0 : Int32) : Option nb_St :=
  nb_let (nb_st σ 36 7 a0) fun σ1 =>
  some σ1
def rmX0_ringAt : Room := { frames := 0, cells := 0, slots := 0, locals := 0 }
def vsX0_ringAt : List Cond := .code yX0_ringAt cX0_ringAt 2 none :: xT
set_option maxHeartbeats 4000000 in
set_option maxRecDepth 100000 in
theorem c_X0_ringAt (l : Launch) {G : nb_G} {tb : Nat → Nat} (hinj : nb_inj xc_sh G.2.1) (hZo : nb_Zok (nb_A xc_sh G.2.1) (xc_Z (nb_A xc_sh G.2.1) tb)) {N : Nat} {σ : nb_St} {a0 : Int32} {σo : nb_St} (hf : fX0_ringAt N σ a0 = some σo)  : Met l yX0_ringAt vsX0_ringAt rmX0_ringAt (nb_Pc G xc_sh (xc_Z (nb_A xc_sh G.2.1) tb) σ [.ref (G.2.1 36), .int a0]) (nb_Qv G xc_sh (xc_Z (nb_A xc_sh G.2.1) tb) σo) 0 0 (nb_A xc_sh G.2.1) := by
  refine Met.ofW (cc := cX0_ringAt) (maxL := 2) (ret := none) (by decide) rfl ?_
  intro p e s m args below meth c s₁ B hml hv
  obtain ⟨rfl, hP, hK, hZ⟩ := hv
  have hx := B.exec
  have hb := B.bytes
  have hr := B.returns
  have hts : ∀ w ∈ xT, w.before _ s = true := fun w h9 => atoms_spec (ws := vsX0_ringAt) B.pre w (List.mem_cons_of_mem _ h9)
  have hown : s.vm.findClass RX0 = some m.cls := findClass_of_methodNamed B.named
  have hlocks := B.notSynchronized
  have hW : nb_W G xc_sh s.heap σ s.heap [] := ⟨hP, va_S.rf⟩
  have hl := lv_entry ([.ref (G.2.1 36), .int a0]) (n := 2) (Nat.le_of_ble_eq_true rfl)
  rw [lg_entry_eq]
  generalize (lg_sl ([.ref (G.2.1 36), .int a0]) ++ List.replicate (2 - (lg_sl ([.ref (G.2.1 36), .int a0])).length) Slot.unset).toArray = ls at hl ⊢
  have hl : lv_has ls 2 [(0, .ref (G.2.1 36)), (1, .int a0)] := hl
  show W p l e rmX0_ringAt s m ([.ref (G.2.1 36), .int a0]).toArray below meth c s.heap [] 0 0 (MQ below (nb_Qv G xc_sh (xc_Z (nb_A xc_sh G.2.1) tb) σo) ([.ref (G.2.1 36), .int a0]).toArray s 0 0 (nb_A xc_sh G.2.1)) (F0 m 0 ls [])
  generalize hargs : ([.ref (G.2.1 36), .int a0] : List Value).toArray = args at hts ⊢
  unfold fX0_ringAt at hf
  obtain ⟨H, eH⟩ : ∃ H, H = s.heap := ⟨_, rfl⟩
  obtain ⟨locs, eL⟩ : ∃ L : List Loc, L = [] := ⟨_, rfl⟩
  have hW : nb_W G xc_sh s.heap σ H locs := by rw [eH, eL]; exact hW
  suffices hgo : W p l e rmX0_ringAt s m args below meth c H locs 0 0 (MQ below (nb_Qv G xc_sh (xc_Z (nb_A xc_sh G.2.1) tb) σo) args s 0 0 (nb_A xc_sh G.2.1)) (F0 m 0 ls []) by rw [eH, eL] at hgo; exact hgo
  clear eH eL
  refine lv_aload_n hx hb dX0_ringAt_0 rfl (lv_at hl 0 rfl) ?_
  refine lv_iload_n hx hb dX0_ringAt_1 rfl (lv_at hl 1 rfl) ?_
  obtain ⟨σ1, eσ1, hf⟩ := nb_let_e hf
  refine nb_put (C := RX0) (T := TX0) (N := 14) hx hb hts inT_X0 hown hK tyX0 tyX0_ok nmX0 hinj hW 36 rfl rfl 7 (by decide) (hts _ tw1_175) (fun _ h9 => h9) rfl (ty := .int) (by decide +kernel) rfl rfl rfl (x := a0) (by show Value.int _ = _; rw [nb_st_s]) eσ1 dX0_ringAt_2 (fun H locs hW => ?_)
  exact nb_rv hx hb hr hlocks hK hZ hZo hW hf dX0_ringAt_5
def fX0_dropAddedSigns (N : Nat) (σ : nb_St)  : Option nb_St :=
  nb_let (nb_ix (σ 36 0)) fun p1 =>
  nb_g (xc_pty p1) (
  nb_let (nb_st σ 36 3 (σ (p1 + 5) 0)) fun σ3 =>
  some σ3)
def rmX0_dropAddedSigns : Room := { frames := 0, cells := 0, slots := 0, locals := 0 }
def vsX0_dropAddedSigns : List Cond := .code yX0_dropAddedSigns cX0_dropAddedSigns 1 none :: xT
set_option maxHeartbeats 4000000 in
set_option maxRecDepth 100000 in
theorem c_X0_dropAddedSigns (l : Launch) {G : nb_G} {tb : Nat → Nat} (hinj : nb_inj xc_sh G.2.1) (hZo : nb_Zok (nb_A xc_sh G.2.1) (xc_Z (nb_A xc_sh G.2.1) tb)) {N : Nat} {σ : nb_St}  {σo : nb_St} (hf : fX0_dropAddedSigns N σ = some σo)  : Met l yX0_dropAddedSigns vsX0_dropAddedSigns rmX0_dropAddedSigns (nb_Pc G xc_sh (xc_Z (nb_A xc_sh G.2.1) tb) σ [.ref (G.2.1 36)]) (nb_Qv G xc_sh (xc_Z (nb_A xc_sh G.2.1) tb) σo) 0 0 (nb_A xc_sh G.2.1) := by
  refine Met.ofW (cc := cX0_dropAddedSigns) (maxL := 1) (ret := none) (by decide) rfl ?_
  intro p e s m args below meth c s₁ B hml hv
  obtain ⟨rfl, hP, hK, hZ⟩ := hv
  have hx := B.exec
  have hb := B.bytes
  have hr := B.returns
  have hts : ∀ w ∈ xT, w.before _ s = true := fun w h9 => atoms_spec (ws := vsX0_dropAddedSigns) B.pre w (List.mem_cons_of_mem _ h9)
  have hown : s.vm.findClass RX0 = some m.cls := findClass_of_methodNamed B.named
  have hlocks := B.notSynchronized
  have hW : nb_W G xc_sh s.heap σ s.heap [] := ⟨hP, va_S.rf⟩
  have hl := lv_entry ([.ref (G.2.1 36)]) (n := 1) (Nat.le_of_ble_eq_true rfl)
  rw [lg_entry_eq]
  generalize (lg_sl ([.ref (G.2.1 36)]) ++ List.replicate (1 - (lg_sl ([.ref (G.2.1 36)])).length) Slot.unset).toArray = ls at hl ⊢
  have hl : lv_has ls 1 [(0, .ref (G.2.1 36))] := hl
  show W p l e rmX0_dropAddedSigns s m ([.ref (G.2.1 36)]).toArray below meth c s.heap [] 0 0 (MQ below (nb_Qv G xc_sh (xc_Z (nb_A xc_sh G.2.1) tb) σo) ([.ref (G.2.1 36)]).toArray s 0 0 (nb_A xc_sh G.2.1)) (F0 m 0 ls [])
  generalize hargs : ([.ref (G.2.1 36)] : List Value).toArray = args at hts ⊢
  unfold fX0_dropAddedSigns at hf
  obtain ⟨H, eH⟩ : ∃ H, H = s.heap := ⟨_, rfl⟩
  obtain ⟨locs, eL⟩ : ∃ L : List Loc, L = [] := ⟨_, rfl⟩
  have hW : nb_W G xc_sh s.heap σ H locs := by rw [eH, eL]; exact hW
  suffices hgo : W p l e rmX0_dropAddedSigns s m args below meth c H locs 0 0 (MQ below (nb_Qv G xc_sh (xc_Z (nb_A xc_sh G.2.1) tb) σo) args s 0 0 (nb_A xc_sh G.2.1)) (F0 m 0 ls []) by rw [eH, eL] at hgo; exact hgo
  clear eH eL
  refine lv_aload_n hx hb dX0_dropAddedSigns_0 rfl (lv_at hl 0 rfl) ?_
  refine lv_aload_n hx hb dX0_dropAddedSigns_1 rfl (lv_at hl 0 rfl) ?_
  obtain ⟨p1, ep1, hf⟩ := nb_let_e hf
  obtain ⟨hp2, hf⟩ := nb_g_e hf
  refine nb_get (C := RX0) (T := TX0) (N := 14) hx hb hts inT_X0 hown hK hW 36 rfl rfl 0 (by decide) (hts _ tw1_168) (fun _ h9 => h9) rfl (v := .ref (G.2.1 p1)) (by rw [ep1]; rfl) dX0_dropAddedSigns_2 ?_
  refine nb_getN (C := RX4) (T := TX4) (N := 18) (host := "NobodyFirst") hx hb hts inT_X4 hown hK hW p1 (sx_pty_0 hp2) rfl 5 (by decide) (va_Nw.use rfl (hZ.1 ("NobodyFirst$Evening", 69, "NobodyFirst$Party", "told", "LNobodyFirst$Told;", "NobodyFirst") (by decide +kernel))) (fun _ h9 => h9) rfl (v := .ref (G.2.1 (p1 + 5))) rfl dX0_dropAddedSigns_5 ?_
  refine nb_getN (C := RX6) (T := TX6) (N := 5) (host := "NobodyFirst") hx hb hts inT_X6 hown hK hW (p1 + 5) (sx_pty_5 hp2) rfl 0 (by decide) (va_Nw.use rfl (hZ.1 ("NobodyFirst$Evening", 73, "NobodyFirst$Told", "signs", "I", "NobodyFirst") (by decide +kernel))) (fun _ h9 => h9) rfl (v := .int (σ (p1 + 5) 0)) rfl dX0_dropAddedSigns_8 ?_
  obtain ⟨σ3, eσ3, hf⟩ := nb_let_e hf
  refine nb_put (C := RX0) (T := TX0) (N := 14) hx hb hts inT_X0 hown hK tyX0 tyX0_ok nmX0 hinj hW 36 rfl rfl 3 (by decide) (hts _ tw1_171) (fun _ h9 => h9) rfl (ty := .int) (by decide +kernel) rfl rfl rfl (x := (σ (p1 + 5) 0)) (by show Value.int _ = _; rw [nb_st_s]) eσ3 dX0_dropAddedSigns_11 (fun H locs hW => ?_)
  exact nb_rv hx hb hr hlocks hK hZ hZo hW hf dX0_dropAddedSigns_14
def fX0_drawWhoHears (N : Nat) (σ : nb_St) (a0 : Int32) : Option nb_St :=
  nb_lp2 (R := nb_St) (fun ag3 (x1 : Int32) (σ2 : nb_St) =>
  (if (σ2 36 3) ≤ x1 then
  some σ2
  else
  nb_g (nb_in x1 9) (
  nb_let (nb_st σ2 57 (nb_ix x1) (0 : Int32)) fun σ7 =>
  nb_lp2 (R := nb_St) (fun ag10 (x8 : Int32) (σ9 : nb_St) =>
  nb_let (nb_ix (σ9 36 0)) fun p12 =>
  nb_g (xc_pty p12) (
  (if (σ9 p12 0) ≤ x8 then
  ag3 (x1 + 1) σ9
  else
  nb_let (((((7919 : Int64) * ((a0).toInt64)) + ((((6151 : Int32) * x8)).toInt64)) + ((((3571 : Int32) * x1)).toInt64)) + (1 : Int64)) fun x15 =>
  nb_let (fun (σ18 : nb_St) =>
  ag10 (x8 + 1) σ18) fun k16 =>
  (if 0 ≤ (lg_cmp (nb_lrem (nb_lrem (x15 * x15) (65521 : Int64)) (10 : Int64)) (6 : Int64)) then
  k16 σ9
  else
  nb_g (nb_in x1 9) (
  nb_g (nb_in x1 9) (
  nb_let (nb_st σ9 57 (nb_ix x1) ((σ9 57 (nb_ix x1)) ||| ((1 : Int32) <<< (x8 &&& 31)))) fun σ22 =>
  k16 σ22)))))) N (0 : Int32) σ7))) N (0 : Int32) σ
def rmX0_drawWhoHears : Room := { frames := 0, cells := 0, slots := 0, locals := 0 }
def vsX0_drawWhoHears : List Cond := .code yX0_drawWhoHears cX0_drawWhoHears 6 none :: xT
set_option maxHeartbeats 4000000 in
set_option maxRecDepth 100000 in
theorem c_X0_drawWhoHears (l : Launch) {G : nb_G} {tb : Nat → Nat} (hinj : nb_inj xc_sh G.2.1) (hZo : nb_Zok (nb_A xc_sh G.2.1) (xc_Z (nb_A xc_sh G.2.1) tb)) {N : Nat} {σ : nb_St} {a0 : Int32} {σo : nb_St} (hf : fX0_drawWhoHears N σ a0 = some σo)  : Met l yX0_drawWhoHears vsX0_drawWhoHears rmX0_drawWhoHears (nb_Pc G xc_sh (xc_Z (nb_A xc_sh G.2.1) tb) σ [.ref (G.2.1 36), .int a0]) (nb_Qv G xc_sh (xc_Z (nb_A xc_sh G.2.1) tb) σo) 0 0 (nb_A xc_sh G.2.1) := by
  refine Met.ofW (cc := cX0_drawWhoHears) (maxL := 6) (ret := none) (by decide) rfl ?_
  intro p e s m args below meth c s₁ B hml hv
  obtain ⟨rfl, hP, hK, hZ⟩ := hv
  have hx := B.exec
  have hb := B.bytes
  have hr := B.returns
  have hts : ∀ w ∈ xT, w.before _ s = true := fun w h9 => atoms_spec (ws := vsX0_drawWhoHears) B.pre w (List.mem_cons_of_mem _ h9)
  have hown : s.vm.findClass RX0 = some m.cls := findClass_of_methodNamed B.named
  have hlocks := B.notSynchronized
  have hW : nb_W G xc_sh s.heap σ s.heap [] := ⟨hP, va_S.rf⟩
  have hl := lv_entry ([.ref (G.2.1 36), .int a0]) (n := 6) (Nat.le_of_ble_eq_true rfl)
  rw [lg_entry_eq]
  generalize (lg_sl ([.ref (G.2.1 36), .int a0]) ++ List.replicate (6 - (lg_sl ([.ref (G.2.1 36), .int a0])).length) Slot.unset).toArray = ls at hl ⊢
  have hl : lv_has ls 6 [(0, .ref (G.2.1 36)), (1, .int a0)] := hl
  show W p l e rmX0_drawWhoHears s m ([.ref (G.2.1 36), .int a0]).toArray below meth c s.heap [] 0 0 (MQ below (nb_Qv G xc_sh (xc_Z (nb_A xc_sh G.2.1) tb) σo) ([.ref (G.2.1 36), .int a0]).toArray s 0 0 (nb_A xc_sh G.2.1)) (F0 m 0 ls [])
  generalize hargs : ([.ref (G.2.1 36), .int a0] : List Value).toArray = args at hts ⊢
  unfold fX0_drawWhoHears at hf
  obtain ⟨H, eH⟩ : ∃ H, H = s.heap := ⟨_, rfl⟩
  obtain ⟨locs, eL⟩ : ∃ L : List Loc, L = [] := ⟨_, rfl⟩
  have hW : nb_W G xc_sh s.heap σ H locs := by rw [eH, eL]; exact hW
  suffices hgo : W p l e rmX0_drawWhoHears s m args below meth c H locs 0 0 (MQ below (nb_Qv G xc_sh (xc_Z (nb_A xc_sh G.2.1) tb) σo) args s 0 0 (nb_A xc_sh G.2.1)) (F0 m 0 ls []) by rw [eH, eL] at hgo; exact hgo
  clear eH eL
  refine lv_iconst (v := (0 : Int32)) hx hb dX0_drawWhoHears_0 (by decide) ?_
  refine lv_istore_n (lv' := [(2, .int (0 : Int32)), (0, .ref (G.2.1 36)), (1, .int a0)]) hx hb dX0_drawWhoHears_1 rfl hl (by decide) rfl (fun ls hl => ?_)
  refine nb_w2 (P := fun (x1 : Int32) (σ2 : nb_St) => ∀ (H : Heap) (locs : List Loc) (ls : Array Slot), nb_W G xc_sh s.heap σ2 H locs → lv_has ls 6 [(0, .ref (G.2.1 36)), (1, .int a0), (2, .int x1)] → W p l e rmX0_drawWhoHears s m args below meth c H locs 0 0 (MQ below (nb_Qv G xc_sh (xc_Z (nb_A xc_sh G.2.1) tb) σo) args s 0 0 (nb_A xc_sh G.2.1)) (F0 m 2 ls [])) ?_ N _ _ hf H locs ls hW (lv_sub hl [1, 2, 0] rfl)
  intro ag3 ih4 x1 σ2 hf H locs ls hW hl
  refine lv_iload_n hx hb dX0_drawWhoHears_2 rfl (lv_at hl 2 rfl) ?_
  refine lv_aload_n hx hb dX0_drawWhoHears_3 rfl (lv_at hl 0 rfl) ?_
  refine nb_get (C := RX0) (T := TX0) (N := 14) hx hb hts inT_X0 hown hK hW 36 rfl rfl 3 (by decide) (hts _ tw1_171) (fun _ h9 => h9) rfl (v := .int (σ2 36 3)) rfl dX0_drawWhoHears_4 ?_
  refine lv_icmp_ge (tgt := 98) hx hb dX0_drawWhoHears_7 (by decide) (fun c5 => ?_) (fun c5 => ?_)
  · rw [if_pos c5] at hf
    exact nb_rv hx hb hr hlocks hK hZ hZo hW hf dX0_drawWhoHears_98
  · rw [if_neg c5] at hf
    refine lv_aload_n hx hb dX0_drawWhoHears_10 rfl (lv_at hl 0 rfl) ?_
    refine nb_get (C := RX0) (T := TX0) (N := 14) hx hb hts inT_X0 hown hK hW 36 rfl rfl 6 (by decide) (hts _ tw1_174) (fun _ h9 => h9) rfl (v := .ref (G.2.1 57)) rfl dX0_drawWhoHears_11 ?_
    refine lv_iload_n hx hb dX0_drawWhoHears_14 rfl (lv_at hl 2 rfl) ?_
    refine lv_iconst (v := (0 : Int32)) hx hb dX0_drawWhoHears_15 (by decide) ?_
    obtain ⟨g6, hf⟩ := nb_g_e hf
    obtain ⟨σ7, eσ7, hf⟩ := nb_let_e hf
    refine nb_iast hx hb hK hinj hW 57 rfl g6 eσ7 dX0_drawWhoHears_16 (fun H locs hW => ?_)
    refine lv_iconst (v := (0 : Int32)) hx hb dX0_drawWhoHears_17 (by decide) ?_
    refine lv_istore_n (lv' := [(3, .int (0 : Int32)), (0, .ref (G.2.1 36)), (1, .int a0), (2, .int x1)]) hx hb dX0_drawWhoHears_18 rfl hl (by decide) rfl (fun ls hl => ?_)
    refine nb_w2 (P := fun (x8 : Int32) (σ9 : nb_St) => ∀ (H : Heap) (locs : List Loc) (ls : Array Slot), nb_W G xc_sh s.heap σ9 H locs → lv_has ls 6 [(0, .ref (G.2.1 36)), (1, .int a0), (2, .int x1), (3, .int x8)] → W p l e rmX0_drawWhoHears s m args below meth c H locs 0 0 (MQ below (nb_Qv G xc_sh (xc_Z (nb_A xc_sh G.2.1) tb) σo) args s 0 0 (nb_A xc_sh G.2.1)) (F0 m 19 ls [])) ?_ N _ _ hf H locs ls hW (lv_sub hl [1, 2, 3, 0] rfl)
    intro ag10 ih11 x8 σ9 hf H locs ls hW hl
    refine lv_iload_n hx hb dX0_drawWhoHears_19 rfl (lv_at hl 3 rfl) ?_
    refine lv_aload_n hx hb dX0_drawWhoHears_20 rfl (lv_at hl 0 rfl) ?_
    obtain ⟨p12, ep12, hf⟩ := nb_let_e hf
    obtain ⟨hp13, hf⟩ := nb_g_e hf
    refine nb_get (C := RX0) (T := TX0) (N := 14) hx hb hts inT_X0 hown hK hW 36 rfl rfl 0 (by decide) (hts _ tw1_168) (fun _ h9 => h9) rfl (v := .ref (G.2.1 p12)) (by rw [ep12]; rfl) dX0_drawWhoHears_21 ?_
    refine nb_getN (C := RX4) (T := TX4) (N := 18) (host := "NobodyFirst") hx hb hts inT_X4 hown hK hW p12 (sx_pty_0 hp13) rfl 0 (by decide) (va_Nw.use rfl (hZ.1 ("NobodyFirst$Evening", 59, "NobodyFirst$Party", "guests", "I", "NobodyFirst") (by decide +kernel))) (fun _ h9 => h9) rfl (v := .int (σ9 p12 0)) rfl dX0_drawWhoHears_24 ?_
    refine lv_icmp_ge (tgt := 92) hx hb dX0_drawWhoHears_27 (by decide) (fun c14 => ?_) (fun c14 => ?_)
    · rw [if_pos c14] at hf
      refine lv_iinc (v := (x1 + 1)) (lv' := [(2, .int (x1 + 1)), (0, .ref (G.2.1 36)), (1, .int a0), (3, .int x8)]) hx hb dX0_drawWhoHears_92 hl (k := 2) rfl rfl (by decide) rfl (fun ls hl => ?_)
      refine lv_goto (tgt := 2) hx hb dX0_drawWhoHears_95 (by decide) ?_
      exact ih4 _ _ hf _ _ _ hW (lv_sub hl [1, 2, 0] rfl)
    · rw [if_neg c14] at hf
      refine lv_ldc2 (own := RX0) (v := (7919 : Int64)) hx hb hown (hts _ tw4_56) dX0_drawWhoHears_30 ?_
      refine lv_iload_n hx hb dX0_drawWhoHears_33 rfl (lv_at hl 1 rfl) ?_
      refine lv_i2l hx hb dX0_drawWhoHears_34 rfl ?_
      refine lv_lmul hx hb dX0_drawWhoHears_35 ?_
      refine lv_sipush (v := (6151 : Int32)) hx hb dX0_drawWhoHears_36 (by decide) ?_
      refine lv_iload_n hx hb dX0_drawWhoHears_39 rfl (lv_at hl 3 rfl) ?_
      refine lv_imul hx hb dX0_drawWhoHears_40 ?_
      refine lv_i2l hx hb dX0_drawWhoHears_41 rfl ?_
      refine lv_ladd hx hb dX0_drawWhoHears_42 ?_
      refine lv_sipush (v := (3571 : Int32)) hx hb dX0_drawWhoHears_43 (by decide) ?_
      refine lv_iload_n hx hb dX0_drawWhoHears_46 rfl (lv_at hl 2 rfl) ?_
      refine lv_imul hx hb dX0_drawWhoHears_47 ?_
      refine lv_i2l hx hb dX0_drawWhoHears_48 rfl ?_
      refine lv_ladd hx hb dX0_drawWhoHears_49 ?_
      refine lv_lconst (v := (1 : Int64)) hx hb dX0_drawWhoHears_50 (by decide) ?_
      refine lv_ladd hx hb dX0_drawWhoHears_51 ?_
      obtain ⟨x15, ex15, hf⟩ := nb_let_e hf
      refine nb_naml ex15 ?_
      refine lv_lstore (lv' := [(4, .long x15), (0, .ref (G.2.1 36)), (1, .int a0), (2, .int x1), (3, .int x8)]) hx hb dX0_drawWhoHears_52 hl (by decide) rfl (fun ls hl => ?_)
      refine lv_lload hx hb dX0_drawWhoHears_54 (lv_at hl 0 rfl) ?_
      refine lv_lload hx hb dX0_drawWhoHears_56 (lv_at hl 0 rfl) ?_
      refine lv_lmul hx hb dX0_drawWhoHears_58 ?_
      refine lv_ldc2 (own := RX0) (v := (65521 : Int64)) hx hb hown (hts _ tw4_57) dX0_drawWhoHears_59 ?_
      refine nb_lremr hx hb dX0_drawWhoHears_62 (by decide) ?_
      refine lv_ldc2 (own := RX0) (v := (10 : Int64)) hx hb hown (hts _ tw4_58) dX0_drawWhoHears_63 ?_
      refine nb_lremr hx hb dX0_drawWhoHears_66 (by decide) ?_
      refine lv_ldc2 (own := RX0) (v := (6 : Int64)) hx hb hown (hts _ tw4_59) dX0_drawWhoHears_67 ?_
      refine W.lcmp hx hb dX0_drawWhoHears_70 ?_
      obtain ⟨k16, ek16, hf⟩ := nb_let_e hf
      have w17 : ∀ (σ18 : nb_St) (H : Heap) (locs : List Loc) (ls : Array Slot), k16 σ18 = some σo → nb_W G xc_sh s.heap σ18 H locs → lv_has ls 6 [(0, .ref (G.2.1 36)), (1, .int a0), (2, .int x1), (3, .int x8)] → W p l e rmX0_drawWhoHears s m args below meth c H locs 0 0 (MQ below (nb_Qv G xc_sh (xc_Z (nb_A xc_sh G.2.1) tb) σo) args s 0 0 (nb_A xc_sh G.2.1)) (F0 m 86 ls []) := by
        intro σ18 H locs ls hf hW hl
        have hf := (congrFun ek16 σ18).symm.trans hf
        refine lv_iinc (v := (x8 + 1)) (lv' := [(3, .int (x8 + 1)), (0, .ref (G.2.1 36)), (1, .int a0), (2, .int x1)]) hx hb dX0_drawWhoHears_86 hl (k := 3) rfl rfl (by decide) rfl (fun ls hl => ?_)
        refine lv_goto (tgt := 19) hx hb dX0_drawWhoHears_89 (by decide) ?_
        exact ih11 _ _ hf _ _ _ hW (lv_sub hl [1, 2, 3, 0] rfl)
      clear ek16
      refine lv_if_ge (tgt := 86) hx hb dX0_drawWhoHears_71 (by decide) (fun c19 => ?_) (fun c19 => ?_)
      · rw [if_pos c19] at hf
        exact w17 _ _ _ _ hf hW (lv_sub hl [1, 2, 3, 4] rfl)
      · rw [if_neg c19] at hf
        refine lv_aload_n hx hb dX0_drawWhoHears_74 rfl (lv_at hl 1 rfl) ?_
        refine nb_get (C := RX0) (T := TX0) (N := 14) hx hb hts inT_X0 hown hK hW 36 rfl rfl 6 (by decide) (hts _ tw1_174) (fun _ h9 => h9) rfl (v := .ref (G.2.1 57)) rfl dX0_drawWhoHears_75 ?_
        refine lv_iload_n hx hb dX0_drawWhoHears_78 rfl (lv_at hl 3 rfl) ?_
        refine lv_dup2_11 hx hb dX0_drawWhoHears_79 rfl rfl ?_
        obtain ⟨g20, hf⟩ := nb_g_e hf
        refine nb_iald hx hb hK hW 57 rfl g20 dX0_drawWhoHears_80 ?_
        refine lv_iconst (v := (1 : Int32)) hx hb dX0_drawWhoHears_81 (by decide) ?_
        refine lv_iload_n hx hb dX0_drawWhoHears_82 rfl (lv_at hl 4 rfl) ?_
        refine lv_ishl hx hb dX0_drawWhoHears_83 ?_
        refine lv_ior hx hb dX0_drawWhoHears_84 ?_
        obtain ⟨g21, hf⟩ := nb_g_e hf
        obtain ⟨σ22, eσ22, hf⟩ := nb_let_e hf
        refine nb_iast hx hb hK hinj hW 57 rfl g21 eσ22 dX0_drawWhoHears_85 (fun H locs hW => ?_)
        exact w17 _ _ _ _ hf hW (lv_sub hl [1, 2, 3, 4] rfl)
