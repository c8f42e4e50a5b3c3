def fX2_choose (N : Nat) (σ : nb_St) (a0 : Int32) (a1 : Int32) : Option nb_St :=
  nb_let (a1 - (1 : Int32)) fun x1 =>
  nb_lp3 (R := nb_St) (fun ag5 (x2 : Int32) (x3 : Int32) (σ4 : nb_St) =>
  (if x3 < 0 then
  some σ4
  else
  nb_g (nb_in x3 3) (
  nb_let (nb_st σ4 62 (nb_ix x3) (nb_rem x2 (13 : Int32))) fun σ9 =>
  nb_let (x2 / (13 : Int32)) fun x10 =>
  ag5 x10 (x3 + (-1)) σ9))) N a0 x1 σ
def rmX2_choose : Room := { frames := 0, cells := 0, slots := 0, locals := 0 }
def vsX2_choose : List Cond := .code yX2_choose cX2_choose 5 none :: xT
set_option maxHeartbeats 4000000 in
set_option maxRecDepth 100000 in
theorem c_X2_choose (l : Launch) {G : nb_G} {tb : Nat → Nat} (hinj : nb_inj xc_sh G.2.1) (hZo : nb_Zok (nb_A xc_sh G.2.1) (xc_Z (nb_A xc_sh G.2.1) tb)) {N : Nat} {σ : nb_St} {a0 : Int32} {a1 : Int32} {σo : nb_St} (hf : fX2_choose N σ a0 a1 = some σo)  : Met l yX2_choose vsX2_choose rmX2_choose (nb_Pc G xc_sh (xc_Z (nb_A xc_sh G.2.1) tb) σ [.ref (G.2.1 61), .int a0, .int a1]) (nb_Qv G xc_sh (xc_Z (nb_A xc_sh G.2.1) tb) σo) 0 0 (nb_A xc_sh G.2.1) := by
  refine Met.ofW (cc := cX2_choose) (maxL := 5) (ret := none) (by decide) rfl ?_
  intro p e s m args below meth c s₁ B hml hv
  obtain ⟨rfl, hP, hK, hZ⟩ := hv
  have hx := B.exec
  have hb := B.bytes
  have hr := B.returns
  have hts : ∀ w ∈ xT, w.before _ s = true := fun w h9 => atoms_spec (ws := vsX2_choose) B.pre w (List.mem_cons_of_mem _ h9)
  have hown : s.vm.findClass RX2 = some m.cls := findClass_of_methodNamed B.named
  have hlocks := B.notSynchronized
  have hW : nb_W G xc_sh s.heap σ s.heap [] := ⟨hP, va_S.rf⟩
  have hl := lv_entry ([.ref (G.2.1 61), .int a0, .int a1]) (n := 5) (Nat.le_of_ble_eq_true rfl)
  rw [lg_entry_eq]
  generalize (lg_sl ([.ref (G.2.1 61), .int a0, .int a1]) ++ List.replicate (5 - (lg_sl ([.ref (G.2.1 61), .int a0, .int a1])).length) Slot.unset).toArray = ls at hl ⊢
  have hl : lv_has ls 5 [(0, .ref (G.2.1 61)), (1, .int a0), (2, .int a1)] := hl
  show W p l e rmX2_choose s m ([.ref (G.2.1 61), .int a0, .int a1]).toArray below meth c s.heap [] 0 0 (MQ below (nb_Qv G xc_sh (xc_Z (nb_A xc_sh G.2.1) tb) σo) ([.ref (G.2.1 61), .int a0, .int a1]).toArray s 0 0 (nb_A xc_sh G.2.1)) (F0 m 0 ls [])
  generalize hargs : ([.ref (G.2.1 61), .int a0, .int a1] : List Value).toArray = args at hts ⊢
  unfold fX2_choose at hf
  obtain ⟨H, eH⟩ : ∃ H, H = s.heap := ⟨_, rfl⟩
  obtain ⟨locs, eL⟩ : ∃ L : List Loc, L = [] := ⟨_, rfl⟩
  have hW : nb_W G xc_sh s.heap σ H locs := by rw [eH, eL]; exact hW
  suffices hgo : W p l e rmX2_choose s m args below meth c H locs 0 0 (MQ below (nb_Qv G xc_sh (xc_Z (nb_A xc_sh G.2.1) tb) σo) args s 0 0 (nb_A xc_sh G.2.1)) (F0 m 0 ls []) by rw [eH, eL] at hgo; exact hgo
  clear eH eL
  refine lv_iload_n hx hb dX2_choose_0 rfl (lv_at hl 1 rfl) ?_
  refine lv_istore_n (lv' := [(3, .int a0), (0, .ref (G.2.1 61)), (1, .int a0), (2, .int a1)]) hx hb dX2_choose_1 rfl hl (by decide) rfl (fun ls hl => ?_)
  refine lv_iload_n hx hb dX2_choose_2 rfl (lv_at hl 3 rfl) ?_
  refine lv_iconst (v := (1 : Int32)) hx hb dX2_choose_3 (by decide) ?_
  refine lv_isub hx hb dX2_choose_4 ?_
  obtain ⟨x1, ex1, hf⟩ := nb_let_e hf
  refine nb_nami ex1 ?_
  refine lv_istore (lv' := [(4, .int x1), (3, .int a0), (0, .ref (G.2.1 61)), (1, .int a0), (2, .int a1)]) hx hb dX2_choose_5 hl (by decide) rfl (fun ls hl => ?_)
  refine nb_w3 (P := fun (x2 : Int32) (x3 : Int32) (σ4 : nb_St) => ∀ (H : Heap) (locs : List Loc) (ls : Array Slot), nb_W G xc_sh s.heap σ4 H locs → lv_has ls 5 [(0, .ref (G.2.1 61)), (3, .int x2), (4, .int x3)] → W p l e rmX2_choose s m args below meth c H locs 0 0 (MQ below (nb_Qv G xc_sh (xc_Z (nb_A xc_sh G.2.1) tb) σo) args s 0 0 (nb_A xc_sh G.2.1)) (F0 m 7 ls [])) ?_ N _ _ _ hf H locs ls hW (lv_sub hl [2, 1, 0] rfl)
  intro ag5 ih6 x2 x3 σ4 hf H locs ls hW hl
  refine lv_iload hx hb dX2_choose_7 (lv_at hl 2 rfl) ?_
  refine lv_if_lt (tgt := 34) hx hb dX2_choose_9 (by decide) (fun c7 => ?_) (fun c7 => ?_)
  · rw [if_pos c7] at hf
    exact nb_rv hx hb hr hlocks hK hZ hZo hW hf dX2_choose_34
  · rw [if_neg c7] at hf
    refine lv_aload_n hx hb dX2_choose_12 rfl (lv_at hl 0 rfl) ?_
    refine nb_get (C := RX2) (T := TX2) (N := 4) hx hb hts inT_X2 hown hK hW 61 rfl rfl 2 (by decide) (hts _ tw1_221) (fun _ h9 => h9) rfl (v := .ref (G.2.1 62)) rfl dX2_choose_13 ?_
    refine lv_iload hx hb dX2_choose_16 (lv_at hl 2 rfl) ?_
    refine lv_iload_n hx hb dX2_choose_18 rfl (lv_at hl 1 rfl) ?_
    refine lv_bipush (v := (13 : Int32)) hx hb dX2_choose_19 (by decide) ?_
    refine nb_irem hx hb dX2_choose_21 (by decide) ?_
    obtain ⟨g8, hf⟩ := nb_g_e hf
    obtain ⟨σ9, eσ9, hf⟩ := nb_let_e hf
    refine nb_iast hx hb hK hinj hW 62 rfl g8 eσ9 dX2_choose_22 (fun H locs hW => ?_)
    refine lv_iload_n hx hb dX2_choose_23 rfl (lv_at hl 1 rfl) ?_
    refine lv_bipush (v := (13 : Int32)) hx hb dX2_choose_24 (by decide) ?_
    refine lv_idiv hx hb dX2_choose_26 (by decide) ?_
    obtain ⟨x10, ex10, hf⟩ := nb_let_e hf
    refine nb_nami ex10 ?_
    refine lv_istore_n (lv' := [(3, .int x10), (0, .ref (G.2.1 61)), (4, .int x3)]) hx hb dX2_choose_27 rfl hl (by decide) rfl (fun ls hl => ?_)
    refine lv_iinc (v := (x3 + (-1))) (lv' := [(4, .int (x3 + (-1))), (3, .int x10), (0, .ref (G.2.1 61))]) hx hb dX2_choose_28 hl (k := 2) rfl rfl (by decide) rfl (fun ls hl => ?_)
    refine lv_goto (tgt := 7) hx hb dX2_choose_31 (by decide) ?_
    exact ih6 _ _ _ hf _ _ _ hW (lv_sub hl [2, 1, 0] rfl)
def fX2_giveChosen (N : Nat) (σ : nb_St) (q0 : Nat) : Option (Int32 × nb_St) :=
  nb_b (fX0_dropAddedSigns N σ) fun σ2 =>
  nb_lp3 (R := (Int32 × nb_St)) (fun ag6 (x3 : Int32) (x4 : Int32) (σ5 : nb_St) =>
  (if (σ5 q0 9) ≤ x4 then
  some (x3, σ5)
  else
  nb_g (nb_in x4 3) (
  nb_let (fun (x12 : Int32) (σ13 : nb_St) =>
  ag6 x12 (x4 + 1) σ13) fun k10 =>
  (if (σ5 62 (nb_ix x4)) ≤ 0 then
  k10 x3 σ5
  else
  nb_g (nb_in x4 3) (
  nb_g (nb_in x4 3) (
  nb_b (fX0_addSign N σ5 ((30 : Int32) * ((σ5 62 (nb_ix x4)) - (1 : Int32))) (σ5 (q0 + 9) (nb_ix x4))) fun σ18 =>
  nb_g (nb_in x4 3) (
  nb_let (x3 + (σ18 (q0 + 10) (nb_ix x4))) fun x20 =>
  k10 x20 σ18))))))) N (0 : Int32) (0 : Int32) σ2
def rmX2_giveChosen : Room := { frames := 1, cells := 0, slots := 0, locals := 22 }
def vsX2_giveChosen : List Cond := .code yX2_giveChosen cX2_giveChosen 5 (some .int) :: xT
set_option maxHeartbeats 4000000 in
set_option maxRecDepth 100000 in
theorem c_X2_giveChosen (l : Launch) {G : nb_G} {tb : Nat → Nat} (hinj : nb_inj xc_sh G.2.1) (hZo : nb_Zok (nb_A xc_sh G.2.1) (xc_Z (nb_A xc_sh G.2.1) tb)) {N : Nat} {σ : nb_St} {q0 : Nat} {ro : Int32} {σo : nb_St} (hf : fX2_giveChosen N σ q0 = some (ro, σo)) (hq0 : xc_pty q0 = true) : Met l yX2_giveChosen vsX2_giveChosen rmX2_giveChosen (nb_Pc G xc_sh (xc_Z (nb_A xc_sh G.2.1) tb) σ [.ref (G.2.1 61), .ref (G.2.1 q0), .ref (G.2.1 36)]) (nb_Qi G xc_sh (xc_Z (nb_A xc_sh G.2.1) tb) ro σo) 0 0 (nb_A xc_sh G.2.1) := by
  refine Met.ofW (cc := cX2_giveChosen) (maxL := 5) (ret := (some .int)) (by decide) rfl ?_
  intro p e s m args below meth c s₁ B hml hv
  obtain ⟨rfl, hP, hK, hZ⟩ := hv
  have hx := B.exec
  have hb := B.bytes
  have hr := B.returns
  have hts : ∀ w ∈ xT, w.before _ s = true := fun w h9 => atoms_spec (ws := vsX2_giveChosen) B.pre w (List.mem_cons_of_mem _ h9)
  have hown : s.vm.findClass RX2 = some m.cls := findClass_of_methodNamed B.named
  have hlocks := B.notSynchronized
  have hW : nb_W G xc_sh s.heap σ s.heap [] := ⟨hP, va_S.rf⟩
  have hl := lv_entry ([.ref (G.2.1 61), .ref (G.2.1 q0), .ref (G.2.1 36)]) (n := 5) (Nat.le_of_ble_eq_true rfl)
  rw [lg_entry_eq]
  generalize (lg_sl ([.ref (G.2.1 61), .ref (G.2.1 q0), .ref (G.2.1 36)]) ++ List.replicate (5 - (lg_sl ([.ref (G.2.1 61), .ref (G.2.1 q0), .ref (G.2.1 36)])).length) Slot.unset).toArray = ls at hl ⊢
  have hl : lv_has ls 5 [(0, .ref (G.2.1 61)), (1, .ref (G.2.1 q0)), (2, .ref (G.2.1 36))] := hl
  show W p l e rmX2_giveChosen s m ([.ref (G.2.1 61), .ref (G.2.1 q0), .ref (G.2.1 36)]).toArray below meth c s.heap [] 0 0 (MQ below (nb_Qi G xc_sh (xc_Z (nb_A xc_sh G.2.1) tb) ro σo) ([.ref (G.2.1 61), .ref (G.2.1 q0), .ref (G.2.1 36)]).toArray s 0 0 (nb_A xc_sh G.2.1)) (F0 m 0 ls [])
  generalize hargs : ([.ref (G.2.1 61), .ref (G.2.1 q0), .ref (G.2.1 36)] : List Value).toArray = args at hts ⊢
  unfold fX2_giveChosen at hf
  obtain ⟨H, eH⟩ : ∃ H, H = s.heap := ⟨_, rfl⟩
  obtain ⟨locs, eL⟩ : ∃ L : List Loc, L = [] := ⟨_, rfl⟩
  have hW : nb_W G xc_sh s.heap σ H locs := by rw [eH, eL]; exact hW
  suffices hgo : W p l e rmX2_giveChosen s m args below meth c H locs 0 0 (MQ below (nb_Qi G xc_sh (xc_Z (nb_A xc_sh G.2.1) tb) ro σo) args s 0 0 (nb_A xc_sh G.2.1)) (F0 m 0 ls []) by rw [eH, eL] at hgo; exact hgo
  clear eH eL
  refine lv_iconst (v := (0 : Int32)) hx hb dX2_giveChosen_0 (by decide) ?_
  refine lv_istore_n (lv' := [(3, .int (0 : Int32)), (0, .ref (G.2.1 61)), (1, .ref (G.2.1 q0)), (2, .ref (G.2.1 36))]) hx hb dX2_giveChosen_1 rfl hl (by decide) rfl (fun ls hl => ?_)
  refine lv_aload_n hx hb dX2_giveChosen_2 rfl (lv_at hl 3 rfl) ?_
  obtain ⟨σ2, hc1, hf⟩ := nb_b_e hf
  refine nb_cv hW (va_runV (As := []) (rest := []) ⟨hx, hb, hml, hown, hts⟩ (c_X0_dropAddedSigns l hinj hZo (N := N) hc1 ) (cwV 0 hts (xg_V tw3_192 tw3_193 tw3_194 tw1_5 tw3_195) rfl rfl rfl (by decide +kernel) ⟨Nat.le_of_ble_eq_true rfl, Nat.le_of_ble_eq_true rfl⟩) (nb_preV hK hZ hZo hW (k := 36) rfl rfl) rfl rfl hl.1 rfl (lv_room (Nat.le_of_ble_eq_true rfl)) dX2_giveChosen_3 ⟨Nat.zero_le _, Nat.zero_le _⟩) (fun H locs hW => ?_)
  refine lv_iconst (v := (0 : Int32)) hx hb dX2_giveChosen_6 (by decide) ?_
  refine lv_istore (lv' := [(4, .int (0 : Int32)), (3, .int (0 : Int32)), (0, .ref (G.2.1 61)), (1, .ref (G.2.1 q0)), (2, .ref (G.2.1 36))]) hx hb dX2_giveChosen_7 hl (by decide) rfl (fun ls hl => ?_)
  refine nb_w3 (P := fun (x3 : Int32) (x4 : Int32) (σ5 : nb_St) => ∀ (H : Heap) (locs : List Loc) (ls : Array Slot), nb_W G xc_sh s.heap σ5 H locs → lv_has ls 5 [(0, .ref (G.2.1 61)), (1, .ref (G.2.1 q0)), (2, .ref (G.2.1 36)), (3, .int x3), (4, .int x4)] → W p l e rmX2_giveChosen s m args below meth c H locs 0 0 (MQ below (nb_Qi G xc_sh (xc_Z (nb_A xc_sh G.2.1) tb) ro σo) args s 0 0 (nb_A xc_sh G.2.1)) (F0 m 9 ls [])) ?_ N _ _ _ hf H locs ls hW (lv_sub hl [2, 3, 4, 1, 0] rfl)
  intro ag6 ih7 x3 x4 σ5 hf H locs ls hW hl
  refine lv_iload hx hb dX2_giveChosen_9 (lv_at hl 4 rfl) ?_
  refine lv_aload_n hx hb dX2_giveChosen_11 rfl (lv_at hl 1 rfl) ?_
  refine nb_getN (C := RX4) (T := TX4) (N := 18) (host := "NobodyFirst") hx hb hts inT_X4 hown hK hW q0 (sx_pty_0 hq0) rfl 9 (by decide) (va_Nw.use rfl (hZ.1 ("NobodyFirst$Giving", 26, "NobodyFirst$Party", "offers", "I", "NobodyFirst") (by decide +kernel))) (fun _ h9 => h9) rfl (v := .int (σ5 q0 9)) rfl dX2_giveChosen_12 ?_
  refine lv_icmp_ge (tgt := 67) hx hb dX2_giveChosen_15 (by decide) (fun c8 => ?_) (fun c8 => ?_)
  · rw [if_pos c8] at hf
    refine lv_iload_n hx hb dX2_giveChosen_67 rfl (lv_at hl 3 rfl) ?_
    exact nb_ri hx hb hr hlocks hK hZ hZo hW  hf dX2_giveChosen_68
  · rw [if_neg c8] at hf
    refine lv_aload_n hx hb dX2_giveChosen_18 rfl (lv_at hl 0 rfl) ?_
    refine nb_get (C := RX2) (T := TX2) (N := 4) hx hb hts inT_X2 hown hK hW 61 rfl rfl 2 (by decide) (hts _ tw1_221) (fun _ h9 => h9) rfl (v := .ref (G.2.1 62)) rfl dX2_giveChosen_19 ?_
    refine lv_iload hx hb dX2_giveChosen_22 (lv_at hl 4 rfl) ?_
    obtain ⟨g9, hf⟩ := nb_g_e hf
    refine nb_iald hx hb hK hW 62 rfl g9 dX2_giveChosen_24 ?_
    obtain ⟨k10, ek10, hf⟩ := nb_let_e hf
    have w11 : ∀ (x12 : Int32) (σ13 : nb_St) (H : Heap) (locs : List Loc) (ls : Array Slot), k10 x12 σ13 = some (ro, σo) → nb_W G xc_sh s.heap σ13 H locs → lv_has ls 5 [(0, .ref (G.2.1 61)), (1, .ref (G.2.1 q0)), (2, .ref (G.2.1 36)), (3, .int x12), (4, .int x4)] → W p l e rmX2_giveChosen s m args below meth c H locs 0 0 (MQ below (nb_Qi G xc_sh (xc_Z (nb_A xc_sh G.2.1) tb) ro σo) args s 0 0 (nb_A xc_sh G.2.1)) (F0 m 61 ls []) := by
      intro x12 σ13 H locs ls hf hW hl
      have hf := (congrFun (congrFun ek10 x12) σ13).symm.trans hf
      refine lv_iinc (v := (x4 + 1)) (lv' := [(4, .int (x4 + 1)), (0, .ref (G.2.1 61)), (1, .ref (G.2.1 q0)), (2, .ref (G.2.1 36)), (3, .int x12)]) hx hb dX2_giveChosen_61 hl (k := 4) rfl rfl (by decide) rfl (fun ls hl => ?_)
      refine lv_goto (tgt := 9) hx hb dX2_giveChosen_64 (by decide) ?_
      exact ih7 _ _ _ hf _ _ _ hW (lv_sub hl [1, 2, 3, 4, 0] rfl)
    clear ek10
    refine lv_if_le (tgt := 61) hx hb dX2_giveChosen_25 (by decide) (fun c14 => ?_) (fun c14 => ?_)
    · rw [if_pos c14] at hf
      exact w11 _ _ _ _ _ hf hW (lv_sub hl [0, 1, 2, 3, 4] rfl)
    · rw [if_neg c14] at hf
      refine lv_aload_n hx hb dX2_giveChosen_28 rfl (lv_at hl 2 rfl) ?_
      refine lv_bipush (v := (30 : Int32)) hx hb dX2_giveChosen_29 (by decide) ?_
      refine lv_aload_n hx hb dX2_giveChosen_31 rfl (lv_at hl 0 rfl) ?_
      refine nb_get (C := RX2) (T := TX2) (N := 4) hx hb hts inT_X2 hown hK hW 61 rfl rfl 2 (by decide) (hts _ tw1_221) (fun _ h9 => h9) rfl (v := .ref (G.2.1 62)) rfl dX2_giveChosen_32 ?_
      refine lv_iload hx hb dX2_giveChosen_35 (lv_at hl 4 rfl) ?_
      obtain ⟨g15, hf⟩ := nb_g_e hf
      refine nb_iald hx hb hK hW 62 rfl g15 dX2_giveChosen_37 ?_
      refine lv_iconst (v := (1 : Int32)) hx hb dX2_giveChosen_38 (by decide) ?_
      refine lv_isub hx hb dX2_giveChosen_39 ?_
      refine lv_imul hx hb dX2_giveChosen_40 ?_
      refine lv_aload_n hx hb dX2_giveChosen_41 rfl (lv_at hl 1 rfl) ?_
      refine nb_getN (C := RX4) (T := TX4) (N := 18) (host := "NobodyFirst") hx hb hts inT_X4 hown hK hW q0 (sx_pty_0 hq0) rfl 10 (by decide) (va_Nw.use rfl (hZ.1 ("NobodyFirst$Giving", 62, "NobodyFirst$Party", "offerWorth", "[I", "NobodyFirst") (by decide +kernel))) (fun _ h9 => h9) rfl (v := .ref (G.2.1 (q0 + 9))) rfl dX2_giveChosen_42 ?_
      refine lv_iload hx hb dX2_giveChosen_45 (lv_at hl 4 rfl) ?_
      obtain ⟨g16, hf⟩ := nb_g_e hf
      refine nb_iald hx hb hK hW (q0 + 9) (sx_pty_9 hq0) g16 dX2_giveChosen_47 ?_
      obtain ⟨σ18, hc17, hf⟩ := nb_b_e hf
      refine nb_cv hW (va_runV (As := [.int ((30 : Int32) * ((σ5 62 (nb_ix x4)) - (1 : Int32))), .int (σ5 (q0 + 9) (nb_ix x4))]) (rest := []) ⟨hx, hb, hml, hown, hts⟩ (c_X0_addSign l hinj hZo (N := N) hc17 ) (cwV 2 hts (xg_V tw3_196 tw3_49 tw3_50 tw1_5 tw3_51) rfl rfl rfl (by decide +kernel) ⟨Nat.le_of_ble_eq_true rfl, Nat.le_of_ble_eq_true rfl⟩) (nb_preV hK hZ hZo hW (k := 36) rfl rfl) rfl rfl hl.1 rfl (lv_room (Nat.le_of_ble_eq_true rfl)) dX2_giveChosen_48 ⟨Nat.zero_le _, Nat.zero_le _⟩) (fun H locs hW => ?_)
      refine lv_iload_n hx hb dX2_giveChosen_51 rfl (lv_at hl 3 rfl) ?_
      refine lv_aload_n hx hb dX2_giveChosen_52 rfl (lv_at hl 1 rfl) ?_
      refine nb_getN (C := RX4) (T := TX4) (N := 18) (host := "NobodyFirst") hx hb hts inT_X4 hown hK hW q0 (sx_pty_0 hq0) rfl 11 (by decide) (va_Nw.use rfl (hZ.1 ("NobodyFirst$Giving", 68, "NobodyFirst$Party", "offerCost", "[I", "NobodyFirst") (by decide +kernel))) (fun _ h9 => h9) rfl (v := .ref (G.2.1 (q0 + 10))) rfl dX2_giveChosen_53 ?_
      refine lv_iload hx hb dX2_giveChosen_56 (lv_at hl 4 rfl) ?_
      obtain ⟨g19, hf⟩ := nb_g_e hf
      refine nb_iald hx hb hK hW (q0 + 10) (sx_pty_10 hq0) g19 dX2_giveChosen_58 ?_
      refine lv_iadd hx hb dX2_giveChosen_59 ?_
      obtain ⟨x20, ex20, hf⟩ := nb_let_e hf
      refine nb_nami ex20 ?_
      refine lv_istore_n (lv' := [(3, .int x20), (0, .ref (G.2.1 61)), (1, .ref (G.2.1 q0)), (2, .ref (G.2.1 36)), (4, .int x4)]) hx hb dX2_giveChosen_60 rfl hl (by decide) rfl (fun ls hl => ?_)
      exact w11 _ _ _ _ _ hf hW (lv_sub hl [1, 2, 3, 0, 4] rfl)
def fX2_reckon (N : Nat) (σ : nb_St) (q0 : Nat) : Option nb_St :=
  (if (σ 61 0) = 0 then
  nb_lp2 (R := nb_St) (fun ag4 (x2 : Int32) (x3 : Int32) =>
  (if (σ q0 9) ≤ x3 then
  nb_let (nb_st σ 61 1 (100000 : Int32)) fun σ7 =>
  nb_b (fX0_prepare N σ7 q0) fun σ9 =>
  nb_lp2 (R := nb_St) (fun ag12 (x10 : Int32) (σ11 : nb_St) =>
  (if x2 ≤ x10 then
  nb_let (nb_st σ11 61 0 (1 : Int32)) fun σ15 =>
  some σ15
  else
  nb_b (fX2_choose N σ11 x10 (σ11 q0 9)) fun σ17 =>
  nb_b2 (fX2_giveChosen N σ17 q0) fun r19 σ20 =>
  nb_b (fX0_pass N σ20) fun σ22 =>
  nb_b (fX0_wastedByAll N σ22) fun r24 =>
  nb_let (r19 + r24) fun x25 =>
  nb_let (fun (σ28 : nb_St) =>
  ag12 (x10 + 1) σ28) fun k26 =>
  (if (σ22 61 1) ≤ x25 then
  k26 σ22
  else
  nb_let (nb_st σ22 61 1 x25) fun σ30 =>
  nb_let (nb_sa σ30 63 (va_cpy (σ30 62) (σ30 63) (nb_ix (0 : Int32)) (nb_ix (0 : Int32)) (nb_ix (3 : Int32)))) fun σ31 =>
  k26 σ31))) N (0 : Int32) σ9
  else
  nb_let (x2 * (13 : Int32)) fun x32 =>
  ag4 x32 (x3 + 1))) N (1 : Int32) (0 : Int32)
  else
  some σ)
def rmX2_reckon : Room := { frames := 6, cells := 0, slots := 0, locals := 139 }
def vsX2_reckon : List Cond := .code yX2_reckon cX2_reckon 6 none :: xT
set_option maxHeartbeats 4000000 in
set_option maxRecDepth 100000 in
theorem c_X2_reckon (l : Launch) {G : nb_G} {tb : Nat → Nat} (hinj : nb_inj xc_sh G.2.1) (hZo : nb_Zok (nb_A xc_sh G.2.1) (xc_Z (nb_A xc_sh G.2.1) tb)) {N : Nat} {σ : nb_St} {q0 : Nat} {σo : nb_St} (hf : fX2_reckon N σ q0 = some σo) (hq0 : xc_pty q0 = true) : Met l yX2_reckon vsX2_reckon rmX2_reckon (nb_Pc G xc_sh (xc_Z (nb_A xc_sh G.2.1) tb) σ [.ref (G.2.1 61), .ref (G.2.1 q0), .ref (G.2.1 36)]) (nb_Qv G xc_sh (xc_Z (nb_A xc_sh G.2.1) tb) σo) 0 0 (nb_A xc_sh G.2.1) := by
  refine Met.ofW (cc := cX2_reckon) (maxL := 6) (ret := none) (by decide) rfl ?_
  intro p e s m args below meth c s₁ B hml hv
  obtain ⟨rfl, hP, hK, hZ⟩ := hv
  have hx := B.exec
  have hb := B.bytes
  have hr := B.returns
  have hts : ∀ w ∈ xT, w.before _ s = true := fun w h9 => atoms_spec (ws := vsX2_reckon) B.pre w (List.mem_cons_of_mem _ h9)
  have hown : s.vm.findClass RX2 = some m.cls := findClass_of_methodNamed B.named
  have hlocks := B.notSynchronized
  have hW : nb_W G xc_sh s.heap σ s.heap [] := ⟨hP, va_S.rf⟩
  have hl := lv_entry ([.ref (G.2.1 61), .ref (G.2.1 q0), .ref (G.2.1 36)]) (n := 6) (Nat.le_of_ble_eq_true rfl)
  rw [lg_entry_eq]
  generalize (lg_sl ([.ref (G.2.1 61), .ref (G.2.1 q0), .ref (G.2.1 36)]) ++ List.replicate (6 - (lg_sl ([.ref (G.2.1 61), .ref (G.2.1 q0), .ref (G.2.1 36)])).length) Slot.unset).toArray = ls at hl ⊢
  have hl : lv_has ls 6 [(0, .ref (G.2.1 61)), (1, .ref (G.2.1 q0)), (2, .ref (G.2.1 36))] := hl
  show W p l e rmX2_reckon s m ([.ref (G.2.1 61), .ref (G.2.1 q0), .ref (G.2.1 36)]).toArray below meth c s.heap [] 0 0 (MQ below (nb_Qv G xc_sh (xc_Z (nb_A xc_sh G.2.1) tb) σo) ([.ref (G.2.1 61), .ref (G.2.1 q0), .ref (G.2.1 36)]).toArray s 0 0 (nb_A xc_sh G.2.1)) (F0 m 0 ls [])
  generalize hargs : ([.ref (G.2.1 61), .ref (G.2.1 q0), .ref (G.2.1 36)] : List Value).toArray = args at hts ⊢
  unfold fX2_reckon at hf
  obtain ⟨H, eH⟩ : ∃ H, H = s.heap := ⟨_, rfl⟩
  obtain ⟨locs, eL⟩ : ∃ L : List Loc, L = [] := ⟨_, rfl⟩
  have hW : nb_W G xc_sh s.heap σ H locs := by rw [eH, eL]; exact hW
  suffices hgo : W p l e rmX2_reckon s m args below meth c H locs 0 0 (MQ below (nb_Qv G xc_sh (xc_Z (nb_A xc_sh G.2.1) tb) σo) args s 0 0 (nb_A xc_sh G.2.1)) (F0 m 0 ls []) by rw [eH, eL] at hgo; exact hgo
  clear eH eL
  refine lv_aload_n hx hb dX2_reckon_0 rfl (lv_at hl 0 rfl) ?_
  refine nb_get (C := RX2) (T := TX2) (N := 4) hx hb hts inT_X2 hown hK hW 61 rfl rfl 0 (by decide) (hts _ tw1_217) (fun _ h9 => h9) rfl (v := .int (σ 61 0)) rfl dX2_reckon_1 ?_
  refine lv_if_eq (tgt := 8) hx hb dX2_reckon_4 (by decide) (fun c1 => ?_) (fun c1 => ?_)
  · rw [if_pos c1] at hf
    refine lv_iconst (v := (1 : Int32)) hx hb dX2_reckon_8 (by decide) ?_
    refine lv_istore_n (lv' := [(3, .int (1 : Int32)), (0, .ref (G.2.1 61)), (1, .ref (G.2.1 q0)), (2, .ref (G.2.1 36))]) hx hb dX2_reckon_9 rfl hl (by decide) rfl (fun ls hl => ?_)
    refine lv_iconst (v := (0 : Int32)) hx hb dX2_reckon_10 (by decide) ?_
    refine lv_istore (lv' := [(4, .int (0 : Int32)), (3, .int (1 : Int32)), (0, .ref (G.2.1 61)), (1, .ref (G.2.1 q0)), (2, .ref (G.2.1 36))]) hx hb dX2_reckon_11 hl (by decide) rfl (fun ls hl => ?_)
    refine nb_w2 (P := fun (x2 : Int32) (x3 : Int32) => ∀ (H : Heap) (locs : List Loc) (ls : Array Slot), nb_W G xc_sh s.heap σ H locs → lv_has ls 6 [(0, .ref (G.2.1 61)), (1, .ref (G.2.1 q0)), (2, .ref (G.2.1 36)), (3, .int x2), (4, .int x3)] → W p l e rmX2_reckon s m args below meth c H locs 0 0 (MQ below (nb_Qv G xc_sh (xc_Z (nb_A xc_sh G.2.1) tb) σo) args s 0 0 (nb_A xc_sh G.2.1)) (F0 m 13 ls [])) ?_ N _ _ hf H locs ls hW (lv_sub hl [2, 3, 4, 1, 0] rfl)
    intro ag4 ih5 x2 x3 hf H locs ls hW hl
    refine lv_iload hx hb dX2_reckon_13 (lv_at hl 4 rfl) ?_
    refine lv_aload_n hx hb dX2_reckon_15 rfl (lv_at hl 1 rfl) ?_
    refine nb_getN (C := RX4) (T := TX4) (N := 18) (host := "NobodyFirst") hx hb hts inT_X4 hown hK hW q0 (sx_pty_0 hq0) rfl 9 (by decide) (va_Nw.use rfl (hZ.1 ("NobodyFirst$Giving", 26, "NobodyFirst$Party", "offers", "I", "NobodyFirst") (by decide +kernel))) (fun _ h9 => h9) rfl (v := .int (σ q0 9)) rfl dX2_reckon_16 ?_
    refine lv_icmp_ge (tgt := 33) hx hb dX2_reckon_19 (by decide) (fun c6 => ?_) (fun c6 => ?_)
    · rw [if_pos c6] at hf
      refine lv_aload_n hx hb dX2_reckon_33 rfl (lv_at hl 0 rfl) ?_
      refine lv_ldc (own := RX2) (v := (100000 : Int32)) hx hb hown (hts _ tw3_182) dX2_reckon_34 ?_
      obtain ⟨σ7, eσ7, hf⟩ := nb_let_e hf
      refine nb_put (C := RX2) (T := TX2) (N := 4) hx hb hts inT_X2 hown hK tyX2 tyX2_ok nmX2 hinj hW 61 rfl rfl 1 (by decide) (hts _ tw1_219) (fun _ h9 => h9) rfl (ty := .int) (by decide +kernel) rfl rfl rfl (x := (100000 : Int32)) (by show Value.int _ = _; rw [nb_st_s]) eσ7 dX2_reckon_36 (fun H locs hW => ?_)
      refine lv_aload_n hx hb dX2_reckon_39 rfl (lv_at hl 2 rfl) ?_
      refine lv_aload_n hx hb dX2_reckon_40 rfl (lv_at hl 1 rfl) ?_
      obtain ⟨σ9, hc8, hf⟩ := nb_b_e hf
      refine nb_cv hW (va_runV (As := [.ref (G.2.1 q0)]) (rest := []) ⟨hx, hb, hml, hown, hts⟩ (c_X0_prepare l hinj hZo (N := N) hc8 hq0) (cwV 1 hts (xg_V tw3_183 tw3_45 tw3_46 tw1_5 tw3_47) rfl rfl rfl (by decide +kernel) ⟨Nat.le_of_ble_eq_true rfl, Nat.le_of_ble_eq_true rfl⟩) (nb_preV hK hZ hZo hW (k := 36) rfl rfl) rfl rfl hl.1 rfl (lv_room (Nat.le_of_ble_eq_true rfl)) dX2_reckon_41 ⟨Nat.zero_le _, Nat.zero_le _⟩) (fun H locs hW => ?_)
      refine lv_iconst (v := (0 : Int32)) hx hb dX2_reckon_44 (by decide) ?_
      refine lv_istore (lv' := [(4, .int (0 : Int32)), (0, .ref (G.2.1 61)), (1, .ref (G.2.1 q0)), (2, .ref (G.2.1 36)), (3, .int x2)]) hx hb dX2_reckon_45 hl (by decide) rfl (fun ls hl => ?_)
      refine nb_w2 (P := fun (x10 : Int32) (σ11 : nb_St) => ∀ (H : Heap) (locs : List Loc) (ls : Array Slot), nb_W G xc_sh s.heap σ11 H locs → lv_has ls 6 [(0, .ref (G.2.1 61)), (1, .ref (G.2.1 q0)), (2, .ref (G.2.1 36)), (3, .int x2), (4, .int x10)] → W p l e rmX2_reckon s m args below meth c H locs 0 0 (MQ below (nb_Qv G xc_sh (xc_Z (nb_A xc_sh G.2.1) tb) σo) args s 0 0 (nb_A xc_sh G.2.1)) (F0 m 47 ls [])) ?_ N _ _ hf H locs ls hW (lv_sub hl [1, 2, 3, 4, 0] rfl)
      intro ag12 ih13 x10 σ11 hf H locs ls hW hl
      refine lv_iload hx hb dX2_reckon_47 (lv_at hl 4 rfl) ?_
      refine lv_iload_n hx hb dX2_reckon_49 rfl (lv_at hl 3 rfl) ?_
      refine lv_icmp_ge (tgt := 119) hx hb dX2_reckon_50 (by decide) (fun c14 => ?_) (fun c14 => ?_)
      · rw [if_pos c14] at hf
        refine lv_aload_n hx hb dX2_reckon_119 rfl (lv_at hl 0 rfl) ?_
        refine lv_iconst (v := (1 : Int32)) hx hb dX2_reckon_120 (by decide) ?_
        obtain ⟨σ15, eσ15, hf⟩ := nb_let_e hf
        refine nb_put (C := RX2) (T := TX2) (N := 4) hx hb hts inT_X2 hown hK tyX2 tyX2_ok nmX2 hinj hW 61 rfl rfl 0 (by decide) (hts _ tw1_217) (fun _ h9 => h9) rfl (ty := .boolean) (by decide +kernel) rfl rfl rfl (x := (1 : Int32)) (by show Value.int _ = _; rw [nb_st_s]) eσ15 dX2_reckon_121 (fun H locs hW => ?_)
        exact nb_rv hx hb hr hlocks hK hZ hZo hW hf dX2_reckon_124
      · rw [if_neg c14] at hf
        refine lv_aload_n hx hb dX2_reckon_53 rfl (lv_at hl 0 rfl) ?_
        refine lv_iload hx hb dX2_reckon_54 (lv_at hl 4 rfl) ?_
        refine lv_aload_n hx hb dX2_reckon_56 rfl (lv_at hl 1 rfl) ?_
        refine nb_getN (C := RX4) (T := TX4) (N := 18) (host := "NobodyFirst") hx hb hts inT_X4 hown hK hW q0 (sx_pty_0 hq0) rfl 9 (by decide) (va_Nw.use rfl (hZ.1 ("NobodyFirst$Giving", 26, "NobodyFirst$Party", "offers", "I", "NobodyFirst") (by decide +kernel))) (fun _ h9 => h9) rfl (v := .int (σ11 q0 9)) rfl dX2_reckon_57 ?_
        obtain ⟨σ17, hc16, hf⟩ := nb_b_e hf
        refine nb_cv hW (va_runV (As := [.int x10, .int (σ11 q0 9)]) (rest := []) ⟨hx, hb, hml, hown, hts⟩ (c_X2_choose l hinj hZo (N := N) hc16 ) (cwV 2 hts (xg_V tw3_184 tw3_186 tp1_12 tw1_6 tw3_187) rfl rfl rfl (by decide +kernel) ⟨Nat.le_of_ble_eq_true rfl, Nat.le_of_ble_eq_true rfl⟩) (nb_preV hK hZ hZo hW (k := 61) rfl rfl) rfl rfl hl.1 rfl (lv_room (Nat.le_of_ble_eq_true rfl)) dX2_reckon_60 ⟨Nat.zero_le _, Nat.zero_le _⟩) (fun H locs hW => ?_)
        refine lv_aload_n hx hb dX2_reckon_63 rfl (lv_at hl 0 rfl) ?_
        refine lv_aload_n hx hb dX2_reckon_64 rfl (lv_at hl 1 rfl) ?_
        refine lv_aload_n hx hb dX2_reckon_65 rfl (lv_at hl 2 rfl) ?_
        obtain ⟨r19, σ20, hc18, hf⟩ := nb_b2_e hf
        refine nb_ci hW (va_runV (As := [.ref (G.2.1 q0), .ref (G.2.1 36)]) (rest := []) ⟨hx, hb, hml, hown, hts⟩ (c_X2_giveChosen l hinj hZo (N := N) hc18 hq0) (cwV 2 hts (xg_V tw3_188 tw3_190 tp1_13 tw1_6 tw3_191) rfl rfl rfl (by decide +kernel) ⟨Nat.le_of_ble_eq_true rfl, Nat.le_of_ble_eq_true rfl⟩) (nb_preV hK hZ hZo hW (k := 61) rfl rfl) rfl rfl hl.1 rfl (lv_room (Nat.le_of_ble_eq_true rfl)) dX2_reckon_66 ⟨Nat.zero_le _, Nat.zero_le _⟩) (fun H locs hW => ?_)
        refine lv_istore (lv' := [(5, .int r19), (0, .ref (G.2.1 61)), (1, .ref (G.2.1 q0)), (2, .ref (G.2.1 36)), (3, .int x2), (4, .int x10)]) hx hb dX2_reckon_69 hl (by decide) rfl (fun ls hl => ?_)
        refine lv_aload_n hx hb dX2_reckon_71 rfl (lv_at hl 3 rfl) ?_
        obtain ⟨σ22, hc21, hf⟩ := nb_b_e hf
        refine nb_cv hW (va_runV (As := []) (rest := []) ⟨hx, hb, hml, hown, hts⟩ (c_X0_pass l hinj hZo (N := N) hc21 ) (cwV 0 hts (xg_V tw3_197 tw3_53 tw3_54 tw1_5 tw3_55) rfl rfl rfl (by decide +kernel) ⟨Nat.le_of_ble_eq_true rfl, Nat.le_of_ble_eq_true rfl⟩) (nb_preV hK hZ hZo hW (k := 36) rfl rfl) rfl rfl hl.1 rfl (lv_room (Nat.le_of_ble_eq_true rfl)) dX2_reckon_72 ⟨Nat.zero_le _, Nat.zero_le _⟩) (fun H locs hW => ?_)
        refine lv_iload hx hb dX2_reckon_75 (lv_at hl 0 rfl) ?_
        refine lv_aload_n hx hb dX2_reckon_77 rfl (lv_at hl 3 rfl) ?_
        obtain ⟨r24, hc23, hf⟩ := nb_b_e hf
        refine nb_ci hW (va_runV (As := []) (rest := [.int r19]) ⟨hx, hb, hml, hown, hts⟩ (c_X0_wastedByAll l hinj hZo (N := N) hc23 ) (cwV 0 hts (xg_V tw3_198 tw3_120 tw3_121 tw1_5 tw3_122) rfl rfl rfl (by decide +kernel) ⟨Nat.le_of_ble_eq_true rfl, Nat.le_of_ble_eq_true rfl⟩) (nb_preV hK hZ hZo hW (k := 36) rfl rfl) rfl rfl hl.1 rfl (lv_room (Nat.le_of_ble_eq_true rfl)) dX2_reckon_78 ⟨Nat.zero_le _, Nat.zero_le _⟩) (fun H locs hW => ?_)
        refine lv_iadd hx hb dX2_reckon_81 ?_
        obtain ⟨x25, ex25, hf⟩ := nb_let_e hf
        refine nb_nami ex25 ?_
        refine lv_istore (lv' := [(5, .int x25), (0, .ref (G.2.1 61)), (1, .ref (G.2.1 q0)), (2, .ref (G.2.1 36)), (3, .int x2), (4, .int x10)]) hx hb dX2_reckon_82 hl (by decide) rfl (fun ls hl => ?_)
        refine lv_iload hx hb dX2_reckon_84 (lv_at hl 0 rfl) ?_
        refine lv_aload_n hx hb dX2_reckon_86 rfl (lv_at hl 1 rfl) ?_
        refine nb_get (C := RX2) (T := TX2) (N := 4) hx hb hts inT_X2 hown hK hW 61 rfl rfl 1 (by decide) (hts _ tw1_219) (fun _ h9 => h9) rfl (v := .int (σ22 61 1)) rfl dX2_reckon_87 ?_
        obtain ⟨k26, ek26, hf⟩ := nb_let_e hf
        have w27 : ∀ (σ28 : nb_St) (H : Heap) (locs : List Loc) (ls : Array Slot), k26 σ28 = some σo → nb_W G xc_sh s.heap σ28 H locs → lv_has ls 6 [(0, .ref (G.2.1 61)), (1, .ref (G.2.1 q0)), (2, .ref (G.2.1 36)), (3, .int x2), (4, .int x10)] → W p l e rmX2_reckon s m args below meth c H locs 0 0 (MQ below (nb_Qv G xc_sh (xc_Z (nb_A xc_sh G.2.1) tb) σo) args s 0 0 (nb_A xc_sh G.2.1)) (F0 m 113 ls []) := by
          intro σ28 H locs ls hf hW hl
          have hf := (congrFun ek26 σ28).symm.trans hf
          refine lv_iinc (v := (x10 + 1)) (lv' := [(4, .int (x10 + 1)), (0, .ref (G.2.1 61)), (1, .ref (G.2.1 q0)), (2, .ref (G.2.1 36)), (3, .int x2)]) hx hb dX2_reckon_113 hl (k := 4) rfl rfl (by decide) rfl (fun ls hl => ?_)
          refine lv_goto (tgt := 47) hx hb dX2_reckon_116 (by decide) ?_
          exact ih13 _ _ hf _ _ _ hW (lv_sub hl [1, 2, 3, 4, 0] rfl)
        clear ek26
        refine lv_icmp_ge (tgt := 113) hx hb dX2_reckon_90 (by decide) (fun c29 => ?_) (fun c29 => ?_)
        · rw [if_pos c29] at hf
          exact w27 _ _ _ _ hf hW (lv_sub hl [1, 2, 3, 4, 5] rfl)
        · rw [if_neg c29] at hf
          refine lv_aload_n hx hb dX2_reckon_93 rfl (lv_at hl 1 rfl) ?_
          refine lv_iload hx hb dX2_reckon_94 (lv_at hl 0 rfl) ?_
          obtain ⟨σ30, eσ30, hf⟩ := nb_let_e hf
          refine nb_put (C := RX2) (T := TX2) (N := 4) hx hb hts inT_X2 hown hK tyX2 tyX2_ok nmX2 hinj hW 61 rfl rfl 1 (by decide) (hts _ tw1_219) (fun _ h9 => h9) rfl (ty := .int) (by decide +kernel) rfl rfl rfl (x := x25) (by show Value.int _ = _; rw [nb_st_s]) eσ30 dX2_reckon_96 (fun H locs hW => ?_)
          refine lv_aload_n hx hb dX2_reckon_99 rfl (lv_at hl 1 rfl) ?_
          refine nb_get (C := RX2) (T := TX2) (N := 4) hx hb hts inT_X2 hown hK hW 61 rfl rfl 2 (by decide) (hts _ tw1_221) (fun _ h9 => h9) rfl (v := .ref (G.2.1 62)) rfl dX2_reckon_100 ?_
          refine lv_iconst (v := (0 : Int32)) hx hb dX2_reckon_103 (by decide) ?_
          refine lv_aload_n hx hb dX2_reckon_104 rfl (lv_at hl 1 rfl) ?_
          refine nb_get (C := RX2) (T := TX2) (N := 4) hx hb hts inT_X2 hown hK hW 61 rfl rfl 3 (by decide) (hts _ tw1_222) (fun _ h9 => h9) rfl (v := .ref (G.2.1 63)) rfl dX2_reckon_105 ?_
          refine lv_iconst (v := (0 : Int32)) hx hb dX2_reckon_108 (by decide) ?_
          refine lv_iconst (v := (3 : Int32)) hx hb dX2_reckon_109 (by decide) ?_
          obtain ⟨σ31, eσ31, hf⟩ := nb_let_e hf
          refine nb_copy hx hb (hml.trans hl.1.symm) hown (hts _ tw3_199) (hts _ tw3_201) (hts _ tw3_200) (hts _ tw1_17) hK hinj hW 62 63 rfl rfl (by decide) (by decide) (by decide) (by decide) (by decide) (Nat.le_of_ble_eq_true rfl) (Nat.le_of_ble_eq_true rfl) eσ31 dX2_reckon_110 (fun H locs hW => ?_)
          exact w27 _ _ _ _ hf hW (lv_sub hl [1, 2, 3, 4, 5] rfl)
    · rw [if_neg c6] at hf
      refine lv_iload_n hx hb dX2_reckon_22 rfl (lv_at hl 3 rfl) ?_
      refine lv_bipush (v := (13 : Int32)) hx hb dX2_reckon_23 (by decide) ?_
      refine lv_imul hx hb dX2_reckon_25 ?_
      obtain ⟨x32, ex32, hf⟩ := nb_let_e hf
      refine nb_nami ex32 ?_
      refine lv_istore_n (lv' := [(3, .int x32), (0, .ref (G.2.1 61)), (1, .ref (G.2.1 q0)), (2, .ref (G.2.1 36)), (4, .int x3)]) hx hb dX2_reckon_26 rfl hl (by decide) rfl (fun ls hl => ?_)
      refine lv_iinc (v := (x3 + 1)) (lv' := [(4, .int (x3 + 1)), (3, .int x32), (0, .ref (G.2.1 61)), (1, .ref (G.2.1 q0)), (2, .ref (G.2.1 36))]) hx hb dX2_reckon_27 hl (k := 4) rfl rfl (by decide) rfl (fun ls hl => ?_)
      refine lv_goto (tgt := 13) hx hb dX2_reckon_30 (by decide) ?_
      exact ih5 _ _ hf _ _ _ hW (lv_sub hl [2, 3, 4, 1, 0] rfl)
  · rw [if_neg c1] at hf
    exact nb_rv hx hb hr hlocks hK hZ hZo hW hf dX2_reckon_7
def fX2_minuteOf (N : Nat) (σ : nb_St) (a0 : Int32) : Option Int32 :=
  nb_g (nb_in a0 3) (
  (if (σ 63 (nb_ix a0)) = 0 then
  some (-4 : Int32)
  else
  nb_g (nb_in a0 3) (
  some ((30 : Int32) * ((σ 63 (nb_ix a0)) - (1 : Int32))))))
def rmX2_minuteOf : Room := { frames := 0, cells := 0, slots := 0, locals := 0 }
def vsX2_minuteOf : List Cond := .code yX2_minuteOf cX2_minuteOf 2 (some .int) :: xT
set_option maxHeartbeats 4000000 in
set_option maxRecDepth 100000 in
theorem c_X2_minuteOf (l : Launch) {G : nb_G} {tb : Nat → Nat} (hinj : nb_inj xc_sh G.2.1) (hZo : nb_Zok (nb_A xc_sh G.2.1) (xc_Z (nb_A xc_sh G.2.1) tb)) {N : Nat} {σ : nb_St} {a0 : Int32} {ro : Int32} (hf : fX2_minuteOf N σ a0 = some ro)  : Met l yX2_minuteOf vsX2_minuteOf rmX2_minuteOf (nb_Pc G xc_sh (xc_Z (nb_A xc_sh G.2.1) tb) σ [.ref (G.2.1 61), .int a0]) (nb_Qi G xc_sh (xc_Z (nb_A xc_sh G.2.1) tb) ro σ) 0 0 (nb_A xc_sh G.2.1) := by
  refine Met.ofW (cc := cX2_minuteOf) (maxL := 2) (ret := (some .int)) (by decide) rfl ?_
  intro p e s m args below meth c s₁ B hml hv
  obtain ⟨rfl, hP, hK, hZ⟩ := hv
  have hx := B.exec
  have hb := B.bytes
  have hr := B.returns
  have hts : ∀ w ∈ xT, w.before _ s = true := fun w h9 => atoms_spec (ws := vsX2_minuteOf) B.pre w (List.mem_cons_of_mem _ h9)
  have hown : s.vm.findClass RX2 = some m.cls := findClass_of_methodNamed B.named
  have hlocks := B.notSynchronized
  have hW : nb_W G xc_sh s.heap σ s.heap [] := ⟨hP, va_S.rf⟩
  have hl := lv_entry ([.ref (G.2.1 61), .int a0]) (n := 2) (Nat.le_of_ble_eq_true rfl)
  rw [lg_entry_eq]
  generalize (lg_sl ([.ref (G.2.1 61), .int a0]) ++ List.replicate (2 - (lg_sl ([.ref (G.2.1 61), .int a0])).length) Slot.unset).toArray = ls at hl ⊢
  have hl : lv_has ls 2 [(0, .ref (G.2.1 61)), (1, .int a0)] := hl
  show W p l e rmX2_minuteOf s m ([.ref (G.2.1 61), .int a0]).toArray below meth c s.heap [] 0 0 (MQ below (nb_Qi G xc_sh (xc_Z (nb_A xc_sh G.2.1) tb) ro σ) ([.ref (G.2.1 61), .int a0]).toArray s 0 0 (nb_A xc_sh G.2.1)) (F0 m 0 ls [])
  generalize hargs : ([.ref (G.2.1 61), .int a0] : List Value).toArray = args at hts ⊢
  unfold fX2_minuteOf at hf
  obtain ⟨H, eH⟩ : ∃ H, H = s.heap := ⟨_, rfl⟩
  obtain ⟨locs, eL⟩ : ∃ L : List Loc, L = [] := ⟨_, rfl⟩
  have hW : nb_W G xc_sh s.heap σ H locs := by rw [eH, eL]; exact hW
  suffices hgo : W p l e rmX2_minuteOf s m args below meth c H locs 0 0 (MQ below (nb_Qi G xc_sh (xc_Z (nb_A xc_sh G.2.1) tb) ro σ) args s 0 0 (nb_A xc_sh G.2.1)) (F0 m 0 ls []) by rw [eH, eL] at hgo; exact hgo
  clear eH eL
  refine lv_aload_n hx hb dX2_minuteOf_0 rfl (lv_at hl 0 rfl) ?_
  refine nb_get (C := RX2) (T := TX2) (N := 4) hx hb hts inT_X2 hown hK hW 61 rfl rfl 3 (by decide) (hts _ tw1_222) (fun _ h9 => h9) rfl (v := .ref (G.2.1 63)) rfl dX2_minuteOf_1 ?_
  refine lv_iload_n hx hb dX2_minuteOf_4 rfl (lv_at hl 1 rfl) ?_
  obtain ⟨g1, hf⟩ := nb_g_e hf
  refine nb_iald hx hb hK hW 63 rfl g1 dX2_minuteOf_5 ?_
  refine lv_if_ne (tgt := 14) hx hb dX2_minuteOf_6 (by decide) (fun c2 => ?_) (fun c2 => ?_)
  · rw [if_neg c2] at hf
    refine lv_bipush (v := (30 : Int32)) hx hb dX2_minuteOf_14 (by decide) ?_
    refine lv_aload_n hx hb dX2_minuteOf_16 rfl (lv_at hl 0 rfl) ?_
    refine nb_get (C := RX2) (T := TX2) (N := 4) hx hb hts inT_X2 hown hK hW 61 rfl rfl 3 (by decide) (hts _ tw1_222) (fun _ h9 => h9) rfl (v := .ref (G.2.1 63)) rfl dX2_minuteOf_17 ?_
    refine lv_iload_n hx hb dX2_minuteOf_20 rfl (lv_at hl 1 rfl) ?_
    obtain ⟨g3, hf⟩ := nb_g_e hf
    refine nb_iald hx hb hK hW 63 rfl g3 dX2_minuteOf_21 ?_
    refine lv_iconst (v := (1 : Int32)) hx hb dX2_minuteOf_22 (by decide) ?_
    refine lv_isub hx hb dX2_minuteOf_23 ?_
    refine lv_imul hx hb dX2_minuteOf_24 ?_
    exact nb_rip hx hb hr hlocks hK hZ hZo hW  hf dX2_minuteOf_25
  · rw [if_pos c2] at hf
    refine lv_bipush (v := (-4 : Int32)) hx hb dX2_minuteOf_9 (by decide) ?_
    refine lv_goto (tgt := 25) hx hb dX2_minuteOf_11 (by decide) ?_
    exact nb_rip hx hb hr hlocks hK hZ hZo hW  hf dX2_minuteOf_25
