def fX3_forget (N : Nat) (σ : nb_St)  : Option nb_St :=
  nb_let (nb_st σ 69 1 (0 : Int32)) fun σ1 =>
  nb_let (nb_st σ1 69 4 (0 : Int32)) fun σ2 =>
  some σ2
def rmX3_forget : Room := { frames := 0, cells := 0, slots := 0, locals := 0 }
def vsX3_forget : List Cond := .code yX3_forget cX3_forget 1 none :: xT
set_option maxHeartbeats 4000000 in
set_option maxRecDepth 100000 in
theorem c_X3_forget (l : Launch) {G : nb_G} {tb : Nat → Nat} (hinj : nb_inj xc_sh G.2.1) (hZo : nb_Zok (nb_A xc_sh G.2.1) (xc_Z (nb_A xc_sh G.2.1) tb)) {N : Nat} {σ : nb_St}  {σo : nb_St} (hf : fX3_forget N σ = some σo)  : Met l yX3_forget vsX3_forget rmX3_forget (nb_Pc G xc_sh (xc_Z (nb_A xc_sh G.2.1) tb) σ [.ref (G.2.1 69)]) (nb_Qv G xc_sh (xc_Z (nb_A xc_sh G.2.1) tb) σo) 0 0 (nb_A xc_sh G.2.1) := by
  refine Met.ofW (cc := cX3_forget) (maxL := 1) (ret := none) (by decide) rfl ?_
  intro p e s m args below meth c s₁ B hml hv
  obtain ⟨rfl, hP, hK, hZ⟩ := hv
  have hx := B.exec
  have hb := B.bytes
  have hr := B.returns
  have hts : ∀ w ∈ xT, w.before _ s = true := fun w h9 => atoms_spec (ws := vsX3_forget) B.pre w (List.mem_cons_of_mem _ h9)
  have hown : s.vm.findClass RX3 = some m.cls := findClass_of_methodNamed B.named
  have hlocks := B.notSynchronized
  have hW : nb_W G xc_sh s.heap σ s.heap [] := ⟨hP, va_S.rf⟩
  have hl := lv_entry ([.ref (G.2.1 69)]) (n := 1) (Nat.le_of_ble_eq_true rfl)
  rw [lg_entry_eq]
  generalize (lg_sl ([.ref (G.2.1 69)]) ++ List.replicate (1 - (lg_sl ([.ref (G.2.1 69)])).length) Slot.unset).toArray = ls at hl ⊢
  have hl : lv_has ls 1 [(0, .ref (G.2.1 69))] := hl
  show W p l e rmX3_forget s m ([.ref (G.2.1 69)]).toArray below meth c s.heap [] 0 0 (MQ below (nb_Qv G xc_sh (xc_Z (nb_A xc_sh G.2.1) tb) σo) ([.ref (G.2.1 69)]).toArray s 0 0 (nb_A xc_sh G.2.1)) (F0 m 0 ls [])
  generalize hargs : ([.ref (G.2.1 69)] : List Value).toArray = args at hts ⊢
  unfold fX3_forget at hf
  obtain ⟨H, eH⟩ : ∃ H, H = s.heap := ⟨_, rfl⟩
  obtain ⟨locs, eL⟩ : ∃ L : List Loc, L = [] := ⟨_, rfl⟩
  have hW : nb_W G xc_sh s.heap σ H locs := by rw [eH, eL]; exact hW
  suffices hgo : W p l e rmX3_forget s m args below meth c H locs 0 0 (MQ below (nb_Qv G xc_sh (xc_Z (nb_A xc_sh G.2.1) tb) σo) args s 0 0 (nb_A xc_sh G.2.1)) (F0 m 0 ls []) by rw [eH, eL] at hgo; exact hgo
  clear eH eL
  refine lv_aload_n hx hb dX3_forget_0 rfl (lv_at hl 0 rfl) ?_
  refine lv_iconst (v := (0 : Int32)) hx hb dX3_forget_1 (by decide) ?_
  obtain ⟨σ1, eσ1, hf⟩ := nb_let_e hf
  refine nb_put (C := RX3) (T := TX3) (N := 5) hx hb hts inT_X3 hown hK tyX3 tyX3_ok nmX3 hinj hW 69 rfl rfl 1 (by decide) (hts _ tw2_40) (fun _ h9 => h9) rfl (ty := .int) (by decide +kernel) rfl rfl rfl (x := (0 : Int32)) (by show Value.int _ = _; rw [nb_st_s]) eσ1 dX3_forget_2 (fun H locs hW => ?_)
  refine lv_aload_n hx hb dX3_forget_5 rfl (lv_at hl 0 rfl) ?_
  refine lv_iconst (v := (0 : Int32)) hx hb dX3_forget_6 (by decide) ?_
  obtain ⟨σ2, eσ2, hf⟩ := nb_let_e hf
  refine nb_put (C := RX3) (T := TX3) (N := 5) hx hb hts inT_X3 hown hK tyX3 tyX3_ok nmX3 hinj hW 69 rfl rfl 4 (by decide) (hts _ tw2_44) (fun _ h9 => h9) rfl (ty := .int) (by decide +kernel) rfl rfl rfl (x := (0 : Int32)) (by show Value.int _ = _; rw [nb_st_s]) eσ2 dX3_forget_7 (fun H locs hW => ?_)
  exact nb_rv hx hb hr hlocks hK hZ hZo hW hf dX3_forget_10
def fX3_note (N : Nat) (σ : nb_St) (a0 : Int32) : Option nb_St :=
  nb_let (fun (σ3 : nb_St) =>
  nb_g (nb_in (σ3 69 1) 8) (
  nb_let (nb_st σ3 70 (nb_ix (σ3 69 1)) (vp_nar .boolean a0)) fun σ5 =>
  nb_let (nb_st σ5 69 1 ((σ5 69 1) + (1 : Int32))) fun σ6 =>
  some σ6)) fun k1 =>
  (if (σ 69 1) < (8 : Int32) then
  k1 σ
  else
  nb_lp2 (R := nb_St) (fun ag10 (x8 : Int32) (σ9 : nb_St) =>
  (if (8 : Int32) ≤ x8 then
  nb_let (nb_st σ9 69 1 (7 : Int32)) fun σ13 =>
  k1 σ13
  else
  nb_g (nb_in x8 8) (
  nb_g (nb_in (x8 - (1 : Int32)) 8) (
  nb_let (nb_st σ9 70 (nb_ix (x8 - (1 : Int32))) (vp_nar .boolean (σ9 70 (nb_ix x8)))) fun σ16 =>
  ag10 (x8 + 1) σ16)))) N (1 : Int32) σ)
def rmX3_note : Room := { frames := 0, cells := 0, slots := 0, locals := 0 }
def vsX3_note : List Cond := .code yX3_note cX3_note 3 none :: xT
set_option maxHeartbeats 4000000 in
set_option maxRecDepth 100000 in
theorem c_X3_note (l : Launch) {G : nb_G} {tb : Nat → Nat} (hinj : nb_inj xc_sh G.2.1) (hZo : nb_Zok (nb_A xc_sh G.2.1) (xc_Z (nb_A xc_sh G.2.1) tb)) {N : Nat} {σ : nb_St} {a0 : Int32} {σo : nb_St} (hf : fX3_note N σ a0 = some σo)  : Met l yX3_note vsX3_note rmX3_note (nb_Pc G xc_sh (xc_Z (nb_A xc_sh G.2.1) tb) σ [.ref (G.2.1 69), .int a0]) (nb_Qv G xc_sh (xc_Z (nb_A xc_sh G.2.1) tb) σo) 0 0 (nb_A xc_sh G.2.1) := by
  refine Met.ofW (cc := cX3_note) (maxL := 3) (ret := none) (by decide) rfl ?_
  intro p e s m args below meth c s₁ B hml hv
  obtain ⟨rfl, hP, hK, hZ⟩ := hv
  have hx := B.exec
  have hb := B.bytes
  have hr := B.returns
  have hts : ∀ w ∈ xT, w.before _ s = true := fun w h9 => atoms_spec (ws := vsX3_note) B.pre w (List.mem_cons_of_mem _ h9)
  have hown : s.vm.findClass RX3 = some m.cls := findClass_of_methodNamed B.named
  have hlocks := B.notSynchronized
  have hW : nb_W G xc_sh s.heap σ s.heap [] := ⟨hP, va_S.rf⟩
  have hl := lv_entry ([.ref (G.2.1 69), .int a0]) (n := 3) (Nat.le_of_ble_eq_true rfl)
  rw [lg_entry_eq]
  generalize (lg_sl ([.ref (G.2.1 69), .int a0]) ++ List.replicate (3 - (lg_sl ([.ref (G.2.1 69), .int a0])).length) Slot.unset).toArray = ls at hl ⊢
  have hl : lv_has ls 3 [(0, .ref (G.2.1 69)), (1, .int a0)] := hl
  show W p l e rmX3_note s m ([.ref (G.2.1 69), .int a0]).toArray below meth c s.heap [] 0 0 (MQ below (nb_Qv G xc_sh (xc_Z (nb_A xc_sh G.2.1) tb) σo) ([.ref (G.2.1 69), .int a0]).toArray s 0 0 (nb_A xc_sh G.2.1)) (F0 m 0 ls [])
  generalize hargs : ([.ref (G.2.1 69), .int a0] : List Value).toArray = args at hts ⊢
  unfold fX3_note at hf
  obtain ⟨H, eH⟩ : ∃ H, H = s.heap := ⟨_, rfl⟩
  obtain ⟨locs, eL⟩ : ∃ L : List Loc, L = [] := ⟨_, rfl⟩
  have hW : nb_W G xc_sh s.heap σ H locs := by rw [eH, eL]; exact hW
  suffices hgo : W p l e rmX3_note s m args below meth c H locs 0 0 (MQ below (nb_Qv G xc_sh (xc_Z (nb_A xc_sh G.2.1) tb) σo) args s 0 0 (nb_A xc_sh G.2.1)) (F0 m 0 ls []) by rw [eH, eL] at hgo; exact hgo
  clear eH eL
  refine lv_aload_n hx hb dX3_note_0 rfl (lv_at hl 0 rfl) ?_
  refine nb_get (C := RX3) (T := TX3) (N := 5) hx hb hts inT_X3 hown hK hW 69 rfl rfl 1 (by decide) (hts _ tw2_40) (fun _ h9 => h9) rfl (v := .int (σ 69 1)) rfl dX3_note_1 ?_
  refine lv_bipush (v := (8 : Int32)) hx hb dX3_note_4 (by decide) ?_
  obtain ⟨k1, ek1, hf⟩ := nb_let_e hf
  have w2 : ∀ (σ3 : nb_St) (H : Heap) (locs : List Loc) (ls : Array Slot), k1 σ3 = some σo → nb_W G xc_sh s.heap σ3 H locs → lv_has ls 3 [(0, .ref (G.2.1 69)), (1, .int a0)] → W p l e rmX3_note s m args below meth c H locs 0 0 (MQ below (nb_Qv G xc_sh (xc_Z (nb_A xc_sh G.2.1) tb) σo) args s 0 0 (nb_A xc_sh G.2.1)) (F0 m 43 ls []) := by
    intro σ3 H locs ls hf hW hl
    have hf := (congrFun ek1 σ3).symm.trans hf
    refine lv_aload_n hx hb dX3_note_43 rfl (lv_at hl 0 rfl) ?_
    refine nb_get (C := RX3) (T := TX3) (N := 5) hx hb hts inT_X3 hown hK hW 69 rfl rfl 0 (by decide) (hts _ tw2_39) (fun _ h9 => h9) rfl (v := .ref (G.2.1 70)) rfl dX3_note_44 ?_
    refine lv_aload_n hx hb dX3_note_47 rfl (lv_at hl 0 rfl) ?_
    refine nb_get (C := RX3) (T := TX3) (N := 5) hx hb hts inT_X3 hown hK hW 69 rfl rfl 1 (by decide) (hts _ tw2_40) (fun _ h9 => h9) rfl (v := .int (σ3 69 1)) rfl dX3_note_48 ?_
    refine lv_iload_n hx hb dX3_note_51 rfl (lv_at hl 1 rfl) ?_
    obtain ⟨g4, hf⟩ := nb_g_e hf
    obtain ⟨σ5, eσ5, hf⟩ := nb_let_e hf
    refine nb_zast hx hb hK hinj hW 70 rfl g4 eσ5 dX3_note_52 (fun H locs hW => ?_)
    refine lv_aload_n hx hb dX3_note_53 rfl (lv_at hl 0 rfl) ?_
    refine lv_dup hx hb dX3_note_54 rfl ?_
    refine nb_get (C := RX3) (T := TX3) (N := 5) hx hb hts inT_X3 hown hK hW 69 rfl rfl 1 (by decide) (hts _ tw2_40) (fun _ h9 => h9) rfl (v := .int (σ5 69 1)) rfl dX3_note_55 ?_
    refine lv_iconst (v := (1 : Int32)) hx hb dX3_note_58 (by decide) ?_
    refine lv_iadd hx hb dX3_note_59 ?_
    obtain ⟨σ6, eσ6, hf⟩ := nb_let_e hf
    refine nb_put (C := RX3) (T := TX3) (N := 5) hx hb hts inT_X3 hown hK tyX3 tyX3_ok nmX3 hinj hW 69 rfl rfl 1 (by decide) (hts _ tw2_40) (fun _ h9 => h9) rfl (ty := .int) (by decide +kernel) rfl rfl rfl (x := ((σ5 69 1) + (1 : Int32))) (by show Value.int _ = _; rw [nb_st_s]) eσ6 dX3_note_60 (fun H locs hW => ?_)
    exact nb_rv hx hb hr hlocks hK hZ hZo hW hf dX3_note_63
  clear ek1
  refine lv_icmp_lt (tgt := 43) hx hb dX3_note_6 (by decide) (fun c7 => ?_) (fun c7 => ?_)
  · rw [if_pos c7] at hf
    exact w2 _ _ _ _ hf hW (lv_sub hl [0, 1] rfl)
  · rw [if_neg c7] at hf
    refine lv_iconst (v := (1 : Int32)) hx hb dX3_note_9 (by decide) ?_
    refine lv_istore_n (lv' := [(2, .int (1 : Int32)), (0, .ref (G.2.1 69)), (1, .int a0)]) hx hb dX3_note_10 rfl hl (by decide) rfl (fun ls hl => ?_)
    refine nb_w2 (P := fun (x8 : Int32) (σ9 : nb_St) => ∀ (H : Heap) (locs : List Loc) (ls : Array Slot), nb_W G xc_sh s.heap σ9 H locs → lv_has ls 3 [(0, .ref (G.2.1 69)), (1, .int a0), (2, .int x8)] → W p l e rmX3_note s m args below meth c H locs 0 0 (MQ below (nb_Qv G xc_sh (xc_Z (nb_A xc_sh G.2.1) tb) σo) args s 0 0 (nb_A xc_sh G.2.1)) (F0 m 11 ls [])) ?_ N _ _ hf H locs ls hW (lv_sub hl [1, 2, 0] rfl)
    intro ag10 ih11 x8 σ9 hf H locs ls hW hl
    refine lv_iload_n hx hb dX3_note_11 rfl (lv_at hl 2 rfl) ?_
    refine lv_bipush (v := (8 : Int32)) hx hb dX3_note_12 (by decide) ?_
    refine lv_icmp_ge (tgt := 37) hx hb dX3_note_14 (by decide) (fun c12 => ?_) (fun c12 => ?_)
    · rw [if_pos c12] at hf
      refine lv_aload_n hx hb dX3_note_37 rfl (lv_at hl 0 rfl) ?_
      refine lv_bipush (v := (7 : Int32)) hx hb dX3_note_38 (by decide) ?_
      obtain ⟨σ13, eσ13, hf⟩ := nb_let_e hf
      refine nb_put (C := RX3) (T := TX3) (N := 5) hx hb hts inT_X3 hown hK tyX3 tyX3_ok nmX3 hinj hW 69 rfl rfl 1 (by decide) (hts _ tw2_40) (fun _ h9 => h9) rfl (ty := .int) (by decide +kernel) rfl rfl rfl (x := (7 : Int32)) (by show Value.int _ = _; rw [nb_st_s]) eσ13 dX3_note_40 (fun H locs hW => ?_)
      exact w2 _ _ _ _ hf hW (lv_sub hl [0, 1] rfl)
    · rw [if_neg c12] at hf
      refine lv_aload_n hx hb dX3_note_17 rfl (lv_at hl 0 rfl) ?_
      refine nb_get (C := RX3) (T := TX3) (N := 5) hx hb hts inT_X3 hown hK hW 69 rfl rfl 0 (by decide) (hts _ tw2_39) (fun _ h9 => h9) rfl (v := .ref (G.2.1 70)) rfl dX3_note_18 ?_
      refine lv_iload_n hx hb dX3_note_21 rfl (lv_at hl 2 rfl) ?_
      refine lv_iconst (v := (1 : Int32)) hx hb dX3_note_22 (by decide) ?_
      refine lv_isub hx hb dX3_note_23 ?_
      refine lv_aload_n hx hb dX3_note_24 rfl (lv_at hl 0 rfl) ?_
      refine nb_get (C := RX3) (T := TX3) (N := 5) hx hb hts inT_X3 hown hK hW 69 rfl rfl 0 (by decide) (hts _ tw2_39) (fun _ h9 => h9) rfl (v := .ref (G.2.1 70)) rfl dX3_note_25 ?_
      refine lv_iload_n hx hb dX3_note_28 rfl (lv_at hl 2 rfl) ?_
      obtain ⟨g14, hf⟩ := nb_g_e hf
      refine nb_zald hx hb hK hW 70 rfl g14 dX3_note_29 ?_
      obtain ⟨g15, hf⟩ := nb_g_e hf
      obtain ⟨σ16, eσ16, hf⟩ := nb_let_e hf
      refine nb_zast hx hb hK hinj hW 70 rfl g15 eσ16 dX3_note_30 (fun H locs hW => ?_)
      refine lv_iinc (v := (x8 + 1)) (lv' := [(2, .int (x8 + 1)), (0, .ref (G.2.1 69)), (1, .int a0)]) hx hb dX3_note_31 hl (k := 2) rfl rfl (by decide) rfl (fun ls hl => ?_)
      refine lv_goto (tgt := 11) hx hb dX3_note_34 (by decide) ?_
      exact ih11 _ _ hf _ _ _ hW (lv_sub hl [1, 2, 0] rfl)
def fX3_undo (N : Nat) (σ : nb_St) (q0 : Nat) : Option nb_St :=
  (if (σ 69 1) = 0 then
  some σ
  else
  nb_let (nb_st σ 69 1 ((σ 69 1) - (1 : Int32))) fun σ2 =>
  nb_g (nb_in (σ2 69 1) 8) (
  (if (σ2 70 (nb_ix (σ2 69 1))) = 0 then
  nb_let (nb_max ((σ2 q0 3) - (1 : Int32)) (0 : Int32)) fun v5 =>
  nb_let (nb_st σ2 q0 3 v5) fun σ6 =>
  some σ6
  else
  nb_let (nb_max ((σ2 q0 0) - (1 : Int32)) (0 : Int32)) fun v7 =>
  nb_let (nb_st σ2 q0 0 v7) fun σ8 =>
  some σ8)))
def rmX3_undo : Room := { frames := 1, cells := 0, slots := 0, locals := 21 }
def vsX3_undo : List Cond := .code yX3_undo cX3_undo 2 none :: xT
set_option maxHeartbeats 4000000 in
set_option maxRecDepth 100000 in
theorem c_X3_undo (l : Launch) {G : nb_G} {tb : Nat → Nat} (hinj : nb_inj xc_sh G.2.1) (hZo : nb_Zok (nb_A xc_sh G.2.1) (xc_Z (nb_A xc_sh G.2.1) tb)) {N : Nat} {σ : nb_St} {q0 : Nat} {σo : nb_St} (hf : fX3_undo N σ q0 = some σo) (hq0 : xc_tld q0 = true) : Met l yX3_undo vsX3_undo rmX3_undo (nb_Pc G xc_sh (xc_Z (nb_A xc_sh G.2.1) tb) σ [.ref (G.2.1 69), .ref (G.2.1 q0)]) (nb_Qv G xc_sh (xc_Z (nb_A xc_sh G.2.1) tb) σo) 0 0 (nb_A xc_sh G.2.1) := by
  refine Met.ofW (cc := cX3_undo) (maxL := 2) (ret := none) (by decide) rfl ?_
  intro p e s m args below meth c s₁ B hml hv
  obtain ⟨rfl, hP, hK, hZ⟩ := hv
  have hx := B.exec
  have hb := B.bytes
  have hr := B.returns
  have hts : ∀ w ∈ xT, w.before _ s = true := fun w h9 => atoms_spec (ws := vsX3_undo) B.pre w (List.mem_cons_of_mem _ h9)
  have hown : s.vm.findClass RX3 = some m.cls := findClass_of_methodNamed B.named
  have hlocks := B.notSynchronized
  have hW : nb_W G xc_sh s.heap σ s.heap [] := ⟨hP, va_S.rf⟩
  have hl := lv_entry ([.ref (G.2.1 69), .ref (G.2.1 q0)]) (n := 2) (Nat.le_of_ble_eq_true rfl)
  rw [lg_entry_eq]
  generalize (lg_sl ([.ref (G.2.1 69), .ref (G.2.1 q0)]) ++ List.replicate (2 - (lg_sl ([.ref (G.2.1 69), .ref (G.2.1 q0)])).length) Slot.unset).toArray = ls at hl ⊢
  have hl : lv_has ls 2 [(0, .ref (G.2.1 69)), (1, .ref (G.2.1 q0))] := hl
  show W p l e rmX3_undo s m ([.ref (G.2.1 69), .ref (G.2.1 q0)]).toArray below meth c s.heap [] 0 0 (MQ below (nb_Qv G xc_sh (xc_Z (nb_A xc_sh G.2.1) tb) σo) ([.ref (G.2.1 69), .ref (G.2.1 q0)]).toArray s 0 0 (nb_A xc_sh G.2.1)) (F0 m 0 ls [])
  generalize hargs : ([.ref (G.2.1 69), .ref (G.2.1 q0)] : List Value).toArray = args at hts ⊢
  unfold fX3_undo at hf
  obtain ⟨H, eH⟩ : ∃ H, H = s.heap := ⟨_, rfl⟩
  obtain ⟨locs, eL⟩ : ∃ L : List Loc, L = [] := ⟨_, rfl⟩
  have hW : nb_W G xc_sh s.heap σ H locs := by rw [eH, eL]; exact hW
  suffices hgo : W p l e rmX3_undo s m args below meth c H locs 0 0 (MQ below (nb_Qv G xc_sh (xc_Z (nb_A xc_sh G.2.1) tb) σo) args s 0 0 (nb_A xc_sh G.2.1)) (F0 m 0 ls []) by rw [eH, eL] at hgo; exact hgo
  clear eH eL
  refine lv_aload_n hx hb dX3_undo_0 rfl (lv_at hl 0 rfl) ?_
  refine nb_get (C := RX3) (T := TX3) (N := 5) hx hb hts inT_X3 hown hK hW 69 rfl rfl 1 (by decide) (hts _ tw2_40) (fun _ h9 => h9) rfl (v := .int (σ 69 1)) rfl dX3_undo_1 ?_
  refine lv_if_ne (tgt := 8) hx hb dX3_undo_4 (by decide) (fun c1 => ?_) (fun c1 => ?_)
  · rw [if_neg c1] at hf
    refine lv_aload_n hx hb dX3_undo_8 rfl (lv_at hl 0 rfl) ?_
    refine lv_dup hx hb dX3_undo_9 rfl ?_
    refine nb_get (C := RX3) (T := TX3) (N := 5) hx hb hts inT_X3 hown hK hW 69 rfl rfl 1 (by decide) (hts _ tw2_40) (fun _ h9 => h9) rfl (v := .int (σ 69 1)) rfl dX3_undo_10 ?_
    refine lv_iconst (v := (1 : Int32)) hx hb dX3_undo_13 (by decide) ?_
    refine lv_isub hx hb dX3_undo_14 ?_
    obtain ⟨σ2, eσ2, hf⟩ := nb_let_e hf
    refine nb_put (C := RX3) (T := TX3) (N := 5) hx hb hts inT_X3 hown hK tyX3 tyX3_ok nmX3 hinj hW 69 rfl rfl 1 (by decide) (hts _ tw2_40) (fun _ h9 => h9) rfl (ty := .int) (by decide +kernel) rfl rfl rfl (x := ((σ 69 1) - (1 : Int32))) (by show Value.int _ = _; rw [nb_st_s]) eσ2 dX3_undo_15 (fun H locs hW => ?_)
    refine lv_aload_n hx hb dX3_undo_18 rfl (lv_at hl 0 rfl) ?_
    refine nb_get (C := RX3) (T := TX3) (N := 5) hx hb hts inT_X3 hown hK hW 69 rfl rfl 0 (by decide) (hts _ tw2_39) (fun _ h9 => h9) rfl (v := .ref (G.2.1 70)) rfl dX3_undo_19 ?_
    refine lv_aload_n hx hb dX3_undo_22 rfl (lv_at hl 0 rfl) ?_
    refine nb_get (C := RX3) (T := TX3) (N := 5) hx hb hts inT_X3 hown hK hW 69 rfl rfl 1 (by decide) (hts _ tw2_40) (fun _ h9 => h9) rfl (v := .int (σ2 69 1)) rfl dX3_undo_23 ?_
    obtain ⟨g3, hf⟩ := nb_g_e hf
    refine nb_zald hx hb hK hW 70 rfl g3 dX3_undo_26 ?_
    refine lv_if_eq (tgt := 47) hx hb dX3_undo_27 (by decide) (fun c4 => ?_) (fun c4 => ?_)
    · rw [if_pos c4] at hf
      refine lv_aload_n hx hb dX3_undo_47 rfl (lv_at hl 1 rfl) ?_
      refine lv_aload_n hx hb dX3_undo_48 rfl (lv_at hl 1 rfl) ?_
      refine nb_getN (C := RX6) (T := TX6) (N := 5) (host := "NobodyFirst") hx hb hts inT_X6 hown hK hW q0 (sx_tld_0 hq0) rfl 3 (by decide) (va_Nw.use rfl (hZ.1 ("NobodyFirst$History", 41, "NobodyFirst$Told", "words", "I", "NobodyFirst") (by decide +kernel))) (fun _ h9 => h9) rfl (v := .int (σ2 q0 3)) rfl dX3_undo_49 ?_
      refine lv_iconst (v := (1 : Int32)) hx hb dX3_undo_52 (by decide) ?_
      refine lv_isub hx hb dX3_undo_53 ?_
      refine lv_iconst (v := (0 : Int32)) hx hb dX3_undo_54 (by decide) ?_
      refine va_mmax hx hb (hml.trans hl.1.symm) hown (hts _ tw4_83) (hts _ tw2_67) (hts _ tw1_9) (hts _ tw2_68) (Nat.le_of_ble_eq_true rfl) (Nat.le_of_ble_eq_true rfl) (Nat.zero_le _) (Nat.zero_le _) dX3_undo_55 ?_
      show W p l e rmX3_undo s m args below meth c H locs 0 0 (MQ below (nb_Qv G xc_sh (xc_Z (nb_A xc_sh G.2.1) tb) σo) args s 0 0 (nb_A xc_sh G.2.1)) (F0 m 58 ls [.int (nb_max ((σ2 q0 3) - (1 : Int32)) (0 : Int32)), .ref (G.2.1 q0)])
      obtain ⟨v5, ev5, hf⟩ := nb_let_e hf
      refine nb_nami ev5 ?_
      obtain ⟨σ6, eσ6, hf⟩ := nb_let_e hf
      refine nb_putN (C := RX6) (T := TX6) (N := 5) (host := "NobodyFirst") hx hb hts inT_X6 hown hK tyX6 tyX6_ok nmX6 hinj hW q0 (sx_tld_0 hq0) rfl 3 (by decide) (va_Nw.use rfl (hZ.1 ("NobodyFirst$History", 41, "NobodyFirst$Told", "words", "I", "NobodyFirst") (by decide +kernel))) (fun _ h9 => h9) rfl (ty := .int) (by decide +kernel) rfl rfl rfl (x := v5) (by show Value.int _ = _; rw [nb_st_s]) eσ6 dX3_undo_58 (fun H locs hW => ?_)
      exact nb_rv hx hb hr hlocks hK hZ hZo hW hf dX3_undo_61
    · rw [if_neg c4] at hf
      refine lv_aload_n hx hb dX3_undo_30 rfl (lv_at hl 1 rfl) ?_
      refine lv_aload_n hx hb dX3_undo_31 rfl (lv_at hl 1 rfl) ?_
      refine nb_getN (C := RX6) (T := TX6) (N := 5) (host := "NobodyFirst") hx hb hts inT_X6 hown hK hW q0 (sx_tld_0 hq0) rfl 0 (by decide) (va_Nw.use rfl (hZ.1 ("NobodyFirst$History", 32, "NobodyFirst$Told", "signs", "I", "NobodyFirst") (by decide +kernel))) (fun _ h9 => h9) rfl (v := .int (σ2 q0 0)) rfl dX3_undo_32 ?_
      refine lv_iconst (v := (1 : Int32)) hx hb dX3_undo_35 (by decide) ?_
      refine lv_isub hx hb dX3_undo_36 ?_
      refine lv_iconst (v := (0 : Int32)) hx hb dX3_undo_37 (by decide) ?_
      refine va_mmax hx hb (hml.trans hl.1.symm) hown (hts _ tw4_83) (hts _ tw2_67) (hts _ tw1_9) (hts _ tw2_68) (Nat.le_of_ble_eq_true rfl) (Nat.le_of_ble_eq_true rfl) (Nat.zero_le _) (Nat.zero_le _) dX3_undo_38 ?_
      show W p l e rmX3_undo s m args below meth c H locs 0 0 (MQ below (nb_Qv G xc_sh (xc_Z (nb_A xc_sh G.2.1) tb) σo) args s 0 0 (nb_A xc_sh G.2.1)) (F0 m 41 ls [.int (nb_max ((σ2 q0 0) - (1 : Int32)) (0 : Int32)), .ref (G.2.1 q0)])
      obtain ⟨v7, ev7, hf⟩ := nb_let_e hf
      refine nb_nami ev7 ?_
      obtain ⟨σ8, eσ8, hf⟩ := nb_let_e hf
      refine nb_putN (C := RX6) (T := TX6) (N := 5) (host := "NobodyFirst") hx hb hts inT_X6 hown hK tyX6 tyX6_ok nmX6 hinj hW q0 (sx_tld_0 hq0) rfl 0 (by decide) (va_Nw.use rfl (hZ.1 ("NobodyFirst$History", 32, "NobodyFirst$Told", "signs", "I", "NobodyFirst") (by decide +kernel))) (fun _ h9 => h9) rfl (ty := .int) (by decide +kernel) rfl rfl rfl (x := v7) (by show Value.int _ = _; rw [nb_st_s]) eσ8 dX3_undo_41 (fun H locs hW => ?_)
      refine lv_goto (tgt := 61) hx hb dX3_undo_44 (by decide) ?_
      exact nb_rv hx hb hr hlocks hK hZ hZo hW hf dX3_undo_61
  · rw [if_pos c1] at hf
    exact nb_rv hx hb hr hlocks hK hZ hZo hW hf dX3_undo_7
def fX3_placeOf (N : Nat) (σ : nb_St) (a0 : Int32) : Option Nat :=
  (if a0 = 0 then
  some 71
  else
  some 75)
def rmX3_placeOf : Room := { frames := 0, cells := 0, slots := 0, locals := 0 }
def vsX3_placeOf : List Cond := .code yX3_placeOf cX3_placeOf 2 (some (.object "NobodyFirst$Told")) :: xT
set_option maxHeartbeats 4000000 in
set_option maxRecDepth 100000 in
theorem c_X3_placeOf (l : Launch) {G : nb_G} {tb : Nat → Nat} (hinj : nb_inj xc_sh G.2.1) (hZo : nb_Zok (nb_A xc_sh G.2.1) (xc_Z (nb_A xc_sh G.2.1) tb)) {N : Nat} {σ : nb_St} {a0 : Int32} {ro : Nat} (hf : fX3_placeOf N σ a0 = some ro)  : Met l yX3_placeOf vsX3_placeOf rmX3_placeOf (nb_Pc G xc_sh (xc_Z (nb_A xc_sh G.2.1) tb) σ [.ref (G.2.1 69), .int a0]) (nb_Qr G xc_sh (xc_Z (nb_A xc_sh G.2.1) tb) ro σ) 0 0 (nb_A xc_sh G.2.1) := by
  refine Met.ofW (cc := cX3_placeOf) (maxL := 2) (ret := (some (.object "NobodyFirst$Told"))) (by decide) rfl ?_
  intro p e s m args below meth c s₁ B hml hv
  obtain ⟨rfl, hP, hK, hZ⟩ := hv
  have hx := B.exec
  have hb := B.bytes
  have hr := B.returns
  have hts : ∀ w ∈ xT, w.before _ s = true := fun w h9 => atoms_spec (ws := vsX3_placeOf) B.pre w (List.mem_cons_of_mem _ h9)
  have hown : s.vm.findClass RX3 = some m.cls := findClass_of_methodNamed B.named
  have hlocks := B.notSynchronized
  have hW : nb_W G xc_sh s.heap σ s.heap [] := ⟨hP, va_S.rf⟩
  have hl := lv_entry ([.ref (G.2.1 69), .int a0]) (n := 2) (Nat.le_of_ble_eq_true rfl)
  rw [lg_entry_eq]
  generalize (lg_sl ([.ref (G.2.1 69), .int a0]) ++ List.replicate (2 - (lg_sl ([.ref (G.2.1 69), .int a0])).length) Slot.unset).toArray = ls at hl ⊢
  have hl : lv_has ls 2 [(0, .ref (G.2.1 69)), (1, .int a0)] := hl
  show W p l e rmX3_placeOf s m ([.ref (G.2.1 69), .int a0]).toArray below meth c s.heap [] 0 0 (MQ below (nb_Qr G xc_sh (xc_Z (nb_A xc_sh G.2.1) tb) ro σ) ([.ref (G.2.1 69), .int a0]).toArray s 0 0 (nb_A xc_sh G.2.1)) (F0 m 0 ls [])
  generalize hargs : ([.ref (G.2.1 69), .int a0] : List Value).toArray = args at hts ⊢
  unfold fX3_placeOf at hf
  obtain ⟨H, eH⟩ : ∃ H, H = s.heap := ⟨_, rfl⟩
  obtain ⟨locs, eL⟩ : ∃ L : List Loc, L = [] := ⟨_, rfl⟩
  have hW : nb_W G xc_sh s.heap σ H locs := by rw [eH, eL]; exact hW
  suffices hgo : W p l e rmX3_placeOf s m args below meth c H locs 0 0 (MQ below (nb_Qr G xc_sh (xc_Z (nb_A xc_sh G.2.1) tb) ro σ) args s 0 0 (nb_A xc_sh G.2.1)) (F0 m 0 ls []) by rw [eH, eL] at hgo; exact hgo
  clear eH eL
  refine lv_iload_n hx hb dX3_placeOf_0 rfl (lv_at hl 1 rfl) ?_
  refine lv_if_ne (tgt := 11) hx hb dX3_placeOf_1 (by decide) (fun c1 => ?_) (fun c1 => ?_)
  · rw [if_neg c1] at hf
    refine lv_aload_n hx hb dX3_placeOf_11 rfl (lv_at hl 0 rfl) ?_
    refine nb_get (C := RX3) (T := TX3) (N := 5) hx hb hts inT_X3 hown hK hW 69 rfl rfl 3 (by decide) (hts _ tw2_43) (fun _ h9 => h9) rfl (v := .ref (G.2.1 75)) rfl dX3_placeOf_12 ?_
    exact nb_rr hx hb hr hlocks hK hZ hZo hW hf dX3_placeOf_15
  · rw [if_pos c1] at hf
    refine lv_aload_n hx hb dX3_placeOf_4 rfl (lv_at hl 0 rfl) ?_
    refine nb_get (C := RX3) (T := TX3) (N := 5) hx hb hts inT_X3 hown hK hW 69 rfl rfl 2 (by decide) (hts _ tw2_42) (fun _ h9 => h9) rfl (v := .ref (G.2.1 71)) rfl dX3_placeOf_5 ?_
    refine lv_goto (tgt := 15) hx hb dX3_placeOf_8 (by decide) ?_
    exact nb_rr hx hb hr hlocks hK hZ hZo hW hf dX3_placeOf_15
def fX3_store (N : Nat) (σ : nb_St) (q0 : Nat) : Option (Int32 × nb_St) :=
  (if (σ 69 4) < (2 : Int32) then
  nb_b (fX3_placeOf N σ (σ 69 4)) fun r3 =>
  nb_g (xc_tld r3) (
  nb_b (fX6_copyFrom N σ r3 q0) fun σ6 =>
  nb_let (nb_st σ6 69 4 ((σ6 69 4) + (1 : Int32))) fun σ7 =>
  some ((1 : Int32), σ7))
  else
  some ((0 : Int32), σ))
def rmX3_store : Room := { frames := 2, cells := 0, slots := 0, locals := 59 }
def vsX3_store : List Cond := .code yX3_store cX3_store 2 (some .boolean) :: xT
set_option maxHeartbeats 4000000 in
set_option maxRecDepth 100000 in
theorem c_X3_store (l : Launch) {G : nb_G} {tb : Nat → Nat} (hinj : nb_inj xc_sh G.2.1) (hZo : nb_Zok (nb_A xc_sh G.2.1) (xc_Z (nb_A xc_sh G.2.1) tb)) {N : Nat} {σ : nb_St} {q0 : Nat} {ro : Int32} {σo : nb_St} (hf : fX3_store N σ q0 = some (ro, σo)) (hq0 : xc_tld q0 = true) : Met l yX3_store vsX3_store rmX3_store (nb_Pc G xc_sh (xc_Z (nb_A xc_sh G.2.1) tb) σ [.ref (G.2.1 69), .ref (G.2.1 q0)]) (nb_Qi G xc_sh (xc_Z (nb_A xc_sh G.2.1) tb) ro σo) 0 0 (nb_A xc_sh G.2.1) := by
  refine Met.ofW (cc := cX3_store) (maxL := 2) (ret := (some .boolean)) (by decide) rfl ?_
  intro p e s m args below meth c s₁ B hml hv
  obtain ⟨rfl, hP, hK, hZ⟩ := hv
  have hx := B.exec
  have hb := B.bytes
  have hr := B.returns
  have hts : ∀ w ∈ xT, w.before _ s = true := fun w h9 => atoms_spec (ws := vsX3_store) B.pre w (List.mem_cons_of_mem _ h9)
  have hown : s.vm.findClass RX3 = some m.cls := findClass_of_methodNamed B.named
  have hlocks := B.notSynchronized
  have hW : nb_W G xc_sh s.heap σ s.heap [] := ⟨hP, va_S.rf⟩
  have hl := lv_entry ([.ref (G.2.1 69), .ref (G.2.1 q0)]) (n := 2) (Nat.le_of_ble_eq_true rfl)
  rw [lg_entry_eq]
  generalize (lg_sl ([.ref (G.2.1 69), .ref (G.2.1 q0)]) ++ List.replicate (2 - (lg_sl ([.ref (G.2.1 69), .ref (G.2.1 q0)])).length) Slot.unset).toArray = ls at hl ⊢
  have hl : lv_has ls 2 [(0, .ref (G.2.1 69)), (1, .ref (G.2.1 q0))] := hl
  show W p l e rmX3_store s m ([.ref (G.2.1 69), .ref (G.2.1 q0)]).toArray below meth c s.heap [] 0 0 (MQ below (nb_Qi G xc_sh (xc_Z (nb_A xc_sh G.2.1) tb) ro σo) ([.ref (G.2.1 69), .ref (G.2.1 q0)]).toArray s 0 0 (nb_A xc_sh G.2.1)) (F0 m 0 ls [])
  generalize hargs : ([.ref (G.2.1 69), .ref (G.2.1 q0)] : List Value).toArray = args at hts ⊢
  unfold fX3_store at hf
  obtain ⟨H, eH⟩ : ∃ H, H = s.heap := ⟨_, rfl⟩
  obtain ⟨locs, eL⟩ : ∃ L : List Loc, L = [] := ⟨_, rfl⟩
  have hW : nb_W G xc_sh s.heap σ H locs := by rw [eH, eL]; exact hW
  suffices hgo : W p l e rmX3_store s m args below meth c H locs 0 0 (MQ below (nb_Qi G xc_sh (xc_Z (nb_A xc_sh G.2.1) tb) ro σo) args s 0 0 (nb_A xc_sh G.2.1)) (F0 m 0 ls []) by rw [eH, eL] at hgo; exact hgo
  clear eH eL
  refine lv_aload_n hx hb dX3_store_0 rfl (lv_at hl 0 rfl) ?_
  refine nb_get (C := RX3) (T := TX3) (N := 5) hx hb hts inT_X3 hown hK hW 69 rfl rfl 4 (by decide) (hts _ tw2_44) (fun _ h9 => h9) rfl (v := .int (σ 69 4)) rfl dX3_store_1 ?_
  refine lv_iconst (v := (2 : Int32)) hx hb dX3_store_4 (by decide) ?_
  refine lv_icmp_lt (tgt := 10) hx hb dX3_store_5 (by decide) (fun c1 => ?_) (fun c1 => ?_)
  · rw [if_pos c1] at hf
    refine lv_aload_n hx hb dX3_store_10 rfl (lv_at hl 0 rfl) ?_
    refine lv_aload_n hx hb dX3_store_11 rfl (lv_at hl 0 rfl) ?_
    refine nb_get (C := RX3) (T := TX3) (N := 5) hx hb hts inT_X3 hown hK hW 69 rfl rfl 4 (by decide) (hts _ tw2_44) (fun _ h9 => h9) rfl (v := .int (σ 69 4)) rfl dX3_store_12 ?_
    obtain ⟨r3, hc2, hf⟩ := nb_b_e hf
    obtain ⟨hp4, hf⟩ := nb_g_e hf
    refine nb_cr hW (va_runV (As := [.int (σ 69 4)]) (rest := []) ⟨hx, hb, hml, hown, hts⟩ (c_X3_placeOf l hinj hZo (N := N) hc2 ) (cwV 1 hts (xg_V tw4_92 tw4_94 tp2_3 tw1_8 tw4_95) rfl rfl rfl (by decide +kernel) ⟨Nat.le_of_ble_eq_true rfl, Nat.le_of_ble_eq_true rfl⟩) (nb_preV hK hZ hZo hW (k := 69) rfl rfl) rfl rfl hl.1 rfl (lv_room (Nat.le_of_ble_eq_true rfl)) dX3_store_15 ⟨Nat.zero_le _, Nat.zero_le _⟩) (fun H locs hW => ?_)
    refine lv_aload_n hx hb dX3_store_18 rfl (lv_at hl 1 rfl) ?_
    obtain ⟨σ6, hc5, hf⟩ := nb_b_e hf
    refine nb_cv hW (va_runV (As := [.ref (G.2.1 q0)]) (rest := []) ⟨hx, hb, hml, hown, hts⟩ (c_X6_copyFrom l hinj hZo (N := N) hc5 hp4 hq0) (cwV 1 hts (xg_V tw4_96 tw4_97 tw4_98 tw1_4 tw4_99) rfl rfl rfl (by decide +kernel) ⟨Nat.le_of_ble_eq_true rfl, Nat.le_of_ble_eq_true rfl⟩) (nb_preV hK hZ hZo hW (k := r3) (sx_tld_0 hp4) rfl) rfl rfl hl.1 rfl (lv_room (Nat.le_of_ble_eq_true rfl)) dX3_store_19 ⟨Nat.zero_le _, Nat.zero_le _⟩) (fun H locs hW => ?_)
    refine lv_aload_n hx hb dX3_store_22 rfl (lv_at hl 0 rfl) ?_
    refine lv_dup hx hb dX3_store_23 rfl ?_
    refine nb_get (C := RX3) (T := TX3) (N := 5) hx hb hts inT_X3 hown hK hW 69 rfl rfl 4 (by decide) (hts _ tw2_44) (fun _ h9 => h9) rfl (v := .int (σ6 69 4)) rfl dX3_store_24 ?_
    refine lv_iconst (v := (1 : Int32)) hx hb dX3_store_27 (by decide) ?_
    refine lv_iadd hx hb dX3_store_28 ?_
    obtain ⟨σ7, eσ7, hf⟩ := nb_let_e hf
    refine nb_put (C := RX3) (T := TX3) (N := 5) hx hb hts inT_X3 hown hK tyX3 tyX3_ok nmX3 hinj hW 69 rfl rfl 4 (by decide) (hts _ tw2_44) (fun _ h9 => h9) rfl (ty := .int) (by decide +kernel) rfl rfl rfl (x := ((σ6 69 4) + (1 : Int32))) (by show Value.int _ = _; rw [nb_st_s]) eσ7 dX3_store_29 (fun H locs hW => ?_)
    refine lv_iconst (v := (1 : Int32)) hx hb dX3_store_32 (by decide) ?_
    exact nb_rz hx hb hr hlocks hK hZ hZo hW rfl hf dX3_store_33
  · rw [if_neg c1] at hf
    refine lv_iconst (v := (0 : Int32)) hx hb dX3_store_8 (by decide) ?_
    exact nb_rz hx hb hr hlocks hK hZ hZo hW rfl hf dX3_store_9
def fX3_restore (N : Nat) (σ : nb_St) (q0 : Nat) : Option (Int32 × nb_St) :=
  (if (σ 69 4) = 0 then
  some ((0 : Int32), σ)
  else
  nb_let (nb_st σ 69 4 ((σ 69 4) - (1 : Int32))) fun σ2 =>
  nb_b (fX3_placeOf N σ2 (σ2 69 4)) fun r4 =>
  nb_g (xc_tld r4) (
  nb_b (fX6_copyFrom N σ2 q0 r4) fun σ7 =>
  nb_let (nb_st σ7 69 1 (0 : Int32)) fun σ8 =>
  some ((1 : Int32), σ8)))
def rmX3_restore : Room := { frames := 2, cells := 0, slots := 0, locals := 59 }
def vsX3_restore : List Cond := .code yX3_restore cX3_restore 2 (some .boolean) :: xT
set_option maxHeartbeats 4000000 in
set_option maxRecDepth 100000 in
theorem c_X3_restore (l : Launch) {G : nb_G} {tb : Nat → Nat} (hinj : nb_inj xc_sh G.2.1) (hZo : nb_Zok (nb_A xc_sh G.2.1) (xc_Z (nb_A xc_sh G.2.1) tb)) {N : Nat} {σ : nb_St} {q0 : Nat} {ro : Int32} {σo : nb_St} (hf : fX3_restore N σ q0 = some (ro, σo)) (hq0 : xc_tld q0 = true) : Met l yX3_restore vsX3_restore rmX3_restore (nb_Pc G xc_sh (xc_Z (nb_A xc_sh G.2.1) tb) σ [.ref (G.2.1 69), .ref (G.2.1 q0)]) (nb_Qi G xc_sh (xc_Z (nb_A xc_sh G.2.1) tb) ro σo) 0 0 (nb_A xc_sh G.2.1) := by
  refine Met.ofW (cc := cX3_restore) (maxL := 2) (ret := (some .boolean)) (by decide) rfl ?_
  intro p e s m args below meth c s₁ B hml hv
  obtain ⟨rfl, hP, hK, hZ⟩ := hv
  have hx := B.exec
  have hb := B.bytes
  have hr := B.returns
  have hts : ∀ w ∈ xT, w.before _ s = true := fun w h9 => atoms_spec (ws := vsX3_restore) B.pre w (List.mem_cons_of_mem _ h9)
  have hown : s.vm.findClass RX3 = some m.cls := findClass_of_methodNamed B.named
  have hlocks := B.notSynchronized
  have hW : nb_W G xc_sh s.heap σ s.heap [] := ⟨hP, va_S.rf⟩
  have hl := lv_entry ([.ref (G.2.1 69), .ref (G.2.1 q0)]) (n := 2) (Nat.le_of_ble_eq_true rfl)
  rw [lg_entry_eq]
  generalize (lg_sl ([.ref (G.2.1 69), .ref (G.2.1 q0)]) ++ List.replicate (2 - (lg_sl ([.ref (G.2.1 69), .ref (G.2.1 q0)])).length) Slot.unset).toArray = ls at hl ⊢
  have hl : lv_has ls 2 [(0, .ref (G.2.1 69)), (1, .ref (G.2.1 q0))] := hl
  show W p l e rmX3_restore s m ([.ref (G.2.1 69), .ref (G.2.1 q0)]).toArray below meth c s.heap [] 0 0 (MQ below (nb_Qi G xc_sh (xc_Z (nb_A xc_sh G.2.1) tb) ro σo) ([.ref (G.2.1 69), .ref (G.2.1 q0)]).toArray s 0 0 (nb_A xc_sh G.2.1)) (F0 m 0 ls [])
  generalize hargs : ([.ref (G.2.1 69), .ref (G.2.1 q0)] : List Value).toArray = args at hts ⊢
  unfold fX3_restore at hf
  obtain ⟨H, eH⟩ : ∃ H, H = s.heap := ⟨_, rfl⟩
  obtain ⟨locs, eL⟩ : ∃ L : List Loc, L = [] := ⟨_, rfl⟩
  have hW : nb_W G xc_sh s.heap σ H locs := by rw [eH, eL]; exact hW
  suffices hgo : W p l e rmX3_restore s m args below meth c H locs 0 0 (MQ below (nb_Qi G xc_sh (xc_Z (nb_A xc_sh G.2.1) tb) ro σo) args s 0 0 (nb_A xc_sh G.2.1)) (F0 m 0 ls []) by rw [eH, eL] at hgo; exact hgo
  clear eH eL
  refine lv_aload_n hx hb dX3_restore_0 rfl (lv_at hl 0 rfl) ?_
  refine nb_get (C := RX3) (T := TX3) (N := 5) hx hb hts inT_X3 hown hK hW 69 rfl rfl 4 (by decide) (hts _ tw2_44) (fun _ h9 => h9) rfl (v := .int (σ 69 4)) rfl dX3_restore_1 ?_
  refine lv_if_ne (tgt := 9) hx hb dX3_restore_4 (by decide) (fun c1 => ?_) (fun c1 => ?_)
  · rw [if_neg c1] at hf
    refine lv_aload_n hx hb dX3_restore_9 rfl (lv_at hl 0 rfl) ?_
    refine lv_dup hx hb dX3_restore_10 rfl ?_
    refine nb_get (C := RX3) (T := TX3) (N := 5) hx hb hts inT_X3 hown hK hW 69 rfl rfl 4 (by decide) (hts _ tw2_44) (fun _ h9 => h9) rfl (v := .int (σ 69 4)) rfl dX3_restore_11 ?_
    refine lv_iconst (v := (1 : Int32)) hx hb dX3_restore_14 (by decide) ?_
    refine lv_isub hx hb dX3_restore_15 ?_
    obtain ⟨σ2, eσ2, hf⟩ := nb_let_e hf
    refine nb_put (C := RX3) (T := TX3) (N := 5) hx hb hts inT_X3 hown hK tyX3 tyX3_ok nmX3 hinj hW 69 rfl rfl 4 (by decide) (hts _ tw2_44) (fun _ h9 => h9) rfl (ty := .int) (by decide +kernel) rfl rfl rfl (x := ((σ 69 4) - (1 : Int32))) (by show Value.int _ = _; rw [nb_st_s]) eσ2 dX3_restore_16 (fun H locs hW => ?_)
    refine lv_aload_n hx hb dX3_restore_19 rfl (lv_at hl 1 rfl) ?_
    refine lv_aload_n hx hb dX3_restore_20 rfl (lv_at hl 0 rfl) ?_
    refine lv_aload_n hx hb dX3_restore_21 rfl (lv_at hl 0 rfl) ?_
    refine nb_get (C := RX3) (T := TX3) (N := 5) hx hb hts inT_X3 hown hK hW 69 rfl rfl 4 (by decide) (hts _ tw2_44) (fun _ h9 => h9) rfl (v := .int (σ2 69 4)) rfl dX3_restore_22 ?_
    obtain ⟨r4, hc3, hf⟩ := nb_b_e hf
    obtain ⟨hp5, hf⟩ := nb_g_e hf
    refine nb_cr hW (va_runV (As := [.int (σ2 69 4)]) (rest := [.ref (G.2.1 q0)]) ⟨hx, hb, hml, hown, hts⟩ (c_X3_placeOf l hinj hZo (N := N) hc3 ) (cwV 1 hts (xg_V tw4_92 tw4_94 tp2_3 tw1_8 tw4_95) rfl rfl rfl (by decide +kernel) ⟨Nat.le_of_ble_eq_true rfl, Nat.le_of_ble_eq_true rfl⟩) (nb_preV hK hZ hZo hW (k := 69) rfl rfl) rfl rfl hl.1 rfl (lv_room (Nat.le_of_ble_eq_true rfl)) dX3_restore_25 ⟨Nat.zero_le _, Nat.zero_le _⟩) (fun H locs hW => ?_)
    obtain ⟨σ7, hc6, hf⟩ := nb_b_e hf
    refine nb_cv hW (va_runV (As := [.ref (G.2.1 r4)]) (rest := []) ⟨hx, hb, hml, hown, hts⟩ (c_X6_copyFrom l hinj hZo (N := N) hc6 hq0 hp5) (cwV 1 hts (xg_V tw4_96 tw4_97 tw4_98 tw1_4 tw4_99) rfl rfl rfl (by decide +kernel) ⟨Nat.le_of_ble_eq_true rfl, Nat.le_of_ble_eq_true rfl⟩) (nb_preV hK hZ hZo hW (k := q0) (sx_tld_0 hq0) rfl) rfl rfl hl.1 rfl (lv_room (Nat.le_of_ble_eq_true rfl)) dX3_restore_28 ⟨Nat.zero_le _, Nat.zero_le _⟩) (fun H locs hW => ?_)
    refine lv_aload_n hx hb dX3_restore_31 rfl (lv_at hl 0 rfl) ?_
    refine lv_iconst (v := (0 : Int32)) hx hb dX3_restore_32 (by decide) ?_
    obtain ⟨σ8, eσ8, hf⟩ := nb_let_e hf
    refine nb_put (C := RX3) (T := TX3) (N := 5) hx hb hts inT_X3 hown hK tyX3 tyX3_ok nmX3 hinj hW 69 rfl rfl 1 (by decide) (hts _ tw2_40) (fun _ h9 => h9) rfl (ty := .int) (by decide +kernel) rfl rfl rfl (x := (0 : Int32)) (by show Value.int _ = _; rw [nb_st_s]) eσ8 dX3_restore_33 (fun H locs hW => ?_)
    refine lv_iconst (v := (1 : Int32)) hx hb dX3_restore_36 (by decide) ?_
    exact nb_rz hx hb hr hlocks hK hZ hZo hW rfl hf dX3_restore_37
  · rw [if_pos c1] at hf
    refine lv_iconst (v := (0 : Int32)) hx hb dX3_restore_7 (by decide) ?_
    exact nb_rz hx hb hr hlocks hK hZ hZo hW rfl hf dX3_restore_8
