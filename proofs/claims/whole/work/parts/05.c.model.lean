def fX8_wasted (N : Nat) (σ : nb_St) (a0 : Int32) : Option (Int32 × nb_St) :=
  nb_let (fun (_u : Unit) =>
  nb_b (fX8_goAsItIs N σ) fun σ4 =>
  (if a0 = (-2 : Int32) then
  nb_b (fX8_allWasted N σ4) fun r17 =>
  some (r17, σ4)
  else
  (if a0 = (-1 : Int32) then
  nb_b (fX8_lastOf N σ4) fun r12 =>
  nb_g (nb_in (0 : Int32) 2) (
  nb_b (fX8_away N σ4 r12 (σ4 12 (nb_ix (0 : Int32)))) fun r15 =>
  some (r15, σ4))
  else
  nb_g (nb_in a0 8) (
  nb_g (nb_in a0 16) (
  nb_b (fX8_away N σ4 (σ4 28 (nb_ix a0)) (σ4 4 (nb_ix a0))) fun r10 =>
  some (r10, σ4)))))) fun k1 =>
  (if a0 = (-1 : Int32) then
  k1 ()
  else
  (if a0 = (-2 : Int32) then
  k1 ()
  else
  nb_b (fX8_isGuest N σ a0) fun r21 =>
  (if r21 = 0 then
  some ((-1 : Int32), σ)
  else
  k1 ())))
def rmX8_wasted : Room := { frames := 6, cells := 0, slots := 0, locals := 145 }
def vsX8_wasted : List Cond := .code yX8_wasted cX8_wasted 2 (some .int) :: xT
set_option maxHeartbeats 4000000 in
set_option maxRecDepth 100000 in
theorem c_X8_wasted (l : Launch) {G : nb_G} {Z : State → Heap → Prop} (hinj : nb_inj xm_sh G.2.1) (hZo : nb_Zok (nb_A xm_sh G.2.1) Z) {N : Nat} {σ : nb_St} {a0 : Int32} {ro : Int32} {σo : nb_St} (hf : fX8_wasted N σ a0 = some (ro, σo))  : Met l yX8_wasted vsX8_wasted rmX8_wasted (nb_Pc G xm_sh Z σ [.ref (G.2.1 0), .int a0]) (nb_Qi G xm_sh Z ro σo) 0 0 (nb_A xm_sh G.2.1) := by
  refine Met.ofW (cc := cX8_wasted) (maxL := 2) (ret := (some .int)) (by decide) rfl ?_
  intro p e s m args below meth c s₁ B hml hv
  obtain ⟨rfl, hP, hK, hZ⟩ := hv
  have hx := B.exec
  have hb := B.bytes
  have hr := B.returns
  have hts : ∀ w ∈ xT, w.before _ s = true := fun w h9 => atoms_spec (ws := vsX8_wasted) B.pre w (List.mem_cons_of_mem _ h9)
  have hown : s.vm.findClass RX8 = some m.cls := findClass_of_methodNamed B.named
  have hlocks := B.notSynchronized
  have hW : nb_W G xm_sh s.heap σ s.heap [] := ⟨hP, va_S.rf⟩
  have hl := lv_entry ([.ref (G.2.1 0), .int a0]) (n := 2) (Nat.le_of_ble_eq_true rfl)
  rw [lg_entry_eq]
  generalize (lg_sl ([.ref (G.2.1 0), .int a0]) ++ List.replicate (2 - (lg_sl ([.ref (G.2.1 0), .int a0])).length) Slot.unset).toArray = ls at hl ⊢
  have hl : lv_has ls 2 [(0, .ref (G.2.1 0)), (1, .int a0)] := hl
  show W p l e rmX8_wasted s m ([.ref (G.2.1 0), .int a0]).toArray below meth c s.heap [] 0 0 (MQ below (nb_Qi G xm_sh Z ro σo) ([.ref (G.2.1 0), .int a0]).toArray s 0 0 (nb_A xm_sh G.2.1)) (F0 m 0 ls [])
  generalize hargs : ([.ref (G.2.1 0), .int a0] : List Value).toArray = args at hts ⊢
  unfold fX8_wasted at hf
  obtain ⟨H, eH⟩ : ∃ H, H = s.heap := ⟨_, rfl⟩
  obtain ⟨locs, eL⟩ : ∃ L : List Loc, L = [] := ⟨_, rfl⟩
  have hW : nb_W G xm_sh s.heap σ H locs := by rw [eH, eL]; exact hW
  suffices hgo : W p l e rmX8_wasted s m args below meth c H locs 0 0 (MQ below (nb_Qi G xm_sh Z ro σo) args s 0 0 (nb_A xm_sh G.2.1)) (F0 m 0 ls []) by rw [eH, eL] at hgo; exact hgo
  clear eH eL
  refine lv_iload_n hx hb dX8_wasted_0 rfl (lv_at hl 1 rfl) ?_
  refine lv_iconst (v := (-1 : Int32)) hx hb dX8_wasted_1 (by decide) ?_
  obtain ⟨k1, ek1, hf⟩ := nb_let_e hf
  have w2 : ∀ (_u : Unit) (H : Heap) (locs : List Loc) (ls : Array Slot), k1 _u = some (ro, σo) → nb_W G xm_sh s.heap σ H locs → lv_has ls 2 [(0, .ref (G.2.1 0)), (1, .int a0)] → W p l e rmX8_wasted s m args below meth c H locs 0 0 (MQ below (nb_Qi G xm_sh Z ro σo) args s 0 0 (nb_A xm_sh G.2.1)) (F0 m 21 ls []) := by
    intro _u H locs ls hf hW hl
    have hf := (congrFun ek1 _u).symm.trans hf
    refine lv_aload_n hx hb dX8_wasted_21 rfl (lv_at hl 0 rfl) ?_
    obtain ⟨σ4, hc3, hf⟩ := nb_b_e hf
    refine nb_cv hW (va_runV (As := []) (rest := []) ⟨hx, hb, hml, hown, hts⟩ (c_X8_goAsItIs l hinj hZo (N := N) hc3 ) (cwV 0 hts (xg_V tw5_77 tw5_79 tp2_13 tw1_10 tw5_80) rfl rfl rfl (by decide +kernel) ⟨Nat.le_of_ble_eq_true rfl, Nat.le_of_ble_eq_true rfl⟩) (nb_preV hK hZ hZo hW (k := 0) rfl rfl) rfl rfl hl.1 rfl (lv_room (Nat.le_of_ble_eq_true rfl)) dX8_wasted_22 ⟨Nat.zero_le _, Nat.zero_le _⟩) (fun H locs hW => ?_)
    refine lv_iload_n hx hb dX8_wasted_25 rfl (lv_at hl 1 rfl) ?_
    refine lv_bipush (v := (-2 : Int32)) hx hb dX8_wasted_26 (by decide) ?_
    refine lv_icmp_ne (tgt := 38) hx hb dX8_wasted_28 (by decide) (fun c5 => ?_) (fun c5 => ?_)
    · rw [if_neg c5] at hf
      refine lv_iload_n hx hb dX8_wasted_38 rfl (lv_at hl 1 rfl) ?_
      refine lv_iconst (v := (-1 : Int32)) hx hb dX8_wasted_39 (by decide) ?_
      refine lv_icmp_ne (tgt := 59) hx hb dX8_wasted_40 (by decide) (fun c6 => ?_) (fun c6 => ?_)
      · rw [if_neg c6] at hf
        refine lv_aload_n hx hb dX8_wasted_59 rfl (lv_at hl 0 rfl) ?_
        refine nb_get (C := RX8) (T := TX8) (N := 40) hx hb hts inT_X8 hown hK hW 0 rfl rfl 35 (by decide) (hts _ tw4_158) (fun _ h9 => h9) rfl (v := .ref (G.2.1 28)) rfl dX8_wasted_60 ?_
        refine lv_iload_n hx hb dX8_wasted_63 rfl (lv_at hl 1 rfl) ?_
        obtain ⟨g7, hf⟩ := nb_g_e hf
        refine nb_iald hx hb hK hW 28 rfl g7 dX8_wasted_64 ?_
        refine lv_aload_n hx hb dX8_wasted_65 rfl (lv_at hl 0 rfl) ?_
        refine nb_get (C := RX8) (T := TX8) (N := 40) hx hb hts inT_X8 hown hK hW 0 rfl rfl 4 (by decide) (hts _ tw4_127) (fun _ h9 => h9) rfl (v := .ref (G.2.1 4)) rfl dX8_wasted_66 ?_
        refine lv_iload_n hx hb dX8_wasted_69 rfl (lv_at hl 1 rfl) ?_
        obtain ⟨g8, hf⟩ := nb_g_e hf
        refine nb_iald hx hb hK hW 4 rfl g8 dX8_wasted_70 ?_
        obtain ⟨r10, hc9, hf⟩ := nb_b_e hf
        refine nb_ci hW (va_runS (As := [.int (σ4 28 (nb_ix a0)), .int (σ4 4 (nb_ix a0))]) (rest := []) ⟨hx, hb, hml, hown, hts⟩ (c_X8_away l hinj hZo (N := N) hc9 ) (va_cwS 2 hts (xg_S tw5_148 tw5_149 tw1_10 tw5_150) rfl rfl rfl (by decide +kernel) ⟨Nat.le_of_ble_eq_true rfl, Nat.le_of_ble_eq_true rfl⟩) (nb_preS hK hZ hZo hW) rfl rfl hl.1 rfl (lv_room (Nat.le_of_ble_eq_true rfl)) dX8_wasted_71 ⟨Nat.zero_le _, Nat.zero_le _⟩) (fun H locs hW => ?_)
        exact nb_ri hx hb hr hlocks hK hZ hZo hW  hf dX8_wasted_74
      · rw [if_pos c6] at hf
        refine lv_aload_n hx hb dX8_wasted_43 rfl (lv_at hl 0 rfl) ?_
        obtain ⟨r12, hc11, hf⟩ := nb_b_e hf
        refine nb_ci hW (va_runV (As := []) (rest := []) ⟨hx, hb, hml, hown, hts⟩ (c_X8_lastOf l hinj hZo (N := N) hc11 ) (cwV 0 hts (xg_V tw5_144 tw5_146 tp3_7 tw1_10 tw5_147) rfl rfl rfl (by decide +kernel) ⟨Nat.le_of_ble_eq_true rfl, Nat.le_of_ble_eq_true rfl⟩) (nb_preV hK hZ hZo hW (k := 0) rfl rfl) rfl rfl hl.1 rfl (lv_room (Nat.le_of_ble_eq_true rfl)) dX8_wasted_44 ⟨Nat.zero_le _, Nat.zero_le _⟩) (fun H locs hW => ?_)
        refine lv_aload_n hx hb dX8_wasted_47 rfl (lv_at hl 0 rfl) ?_
        refine nb_get (C := RX8) (T := TX8) (N := 40) hx hb hts inT_X8 hown hK hW 0 rfl rfl 12 (by decide) (hts _ tw4_135) (fun _ h9 => h9) rfl (v := .ref (G.2.1 12)) rfl dX8_wasted_48 ?_
        refine lv_iconst (v := (0 : Int32)) hx hb dX8_wasted_51 (by decide) ?_
        obtain ⟨g13, hf⟩ := nb_g_e hf
        refine nb_iald hx hb hK hW 12 rfl g13 dX8_wasted_52 ?_
        obtain ⟨r15, hc14, hf⟩ := nb_b_e hf
        refine nb_ci hW (va_runS (As := [.int r12, .int (σ4 12 (nb_ix (0 : Int32)))]) (rest := []) ⟨hx, hb, hml, hown, hts⟩ (c_X8_away l hinj hZo (N := N) hc14 ) (va_cwS 2 hts (xg_S tw5_148 tw5_149 tw1_10 tw5_150) rfl rfl rfl (by decide +kernel) ⟨Nat.le_of_ble_eq_true rfl, Nat.le_of_ble_eq_true rfl⟩) (nb_preS hK hZ hZo hW) rfl rfl hl.1 rfl (lv_room (Nat.le_of_ble_eq_true rfl)) dX8_wasted_53 ⟨Nat.zero_le _, Nat.zero_le _⟩) (fun H locs hW => ?_)
        refine lv_goto (tgt := 74) hx hb dX8_wasted_56 (by decide) ?_
        exact nb_ri hx hb hr hlocks hK hZ hZo hW  hf dX8_wasted_74
    · rw [if_pos c5] at hf
      refine lv_aload_n hx hb dX8_wasted_31 rfl (lv_at hl 0 rfl) ?_
      obtain ⟨r17, hc16, hf⟩ := nb_b_e hf
      refine nb_ci hW (va_runV (As := []) (rest := []) ⟨hx, hb, hml, hown, hts⟩ (c_X8_allWasted l hinj hZo (N := N) hc16 ) (cwV 0 hts (xg_V tw5_140 tw5_142 tp3_6 tw1_10 tw5_143) rfl rfl rfl (by decide +kernel) ⟨Nat.le_of_ble_eq_true rfl, Nat.le_of_ble_eq_true rfl⟩) (nb_preV hK hZ hZo hW (k := 0) rfl rfl) rfl rfl hl.1 rfl (lv_room (Nat.le_of_ble_eq_true rfl)) dX8_wasted_32 ⟨Nat.zero_le _, Nat.zero_le _⟩) (fun H locs hW => ?_)
      refine lv_goto (tgt := 74) hx hb dX8_wasted_35 (by decide) ?_
      exact nb_ri hx hb hr hlocks hK hZ hZo hW  hf dX8_wasted_74
  clear ek1
  refine lv_icmp_eq (tgt := 21) hx hb dX8_wasted_2 (by decide) (fun c18 => ?_) (fun c18 => ?_)
  · rw [if_pos c18] at hf
    exact w2 ()  _ _ _ hf hW (lv_sub hl [0, 1] rfl)
  · rw [if_neg c18] at hf
    refine lv_iload_n hx hb dX8_wasted_5 rfl (lv_at hl 1 rfl) ?_
    refine lv_bipush (v := (-2 : Int32)) hx hb dX8_wasted_6 (by decide) ?_
    refine lv_icmp_eq (tgt := 21) hx hb dX8_wasted_8 (by decide) (fun c19 => ?_) (fun c19 => ?_)
    · rw [if_pos c19] at hf
      exact w2 ()  _ _ _ hf hW (lv_sub hl [0, 1] rfl)
    · rw [if_neg c19] at hf
      refine lv_aload_n hx hb dX8_wasted_11 rfl (lv_at hl 0 rfl) ?_
      refine lv_iload_n hx hb dX8_wasted_12 rfl (lv_at hl 1 rfl) ?_
      obtain ⟨r21, hc20, hf⟩ := nb_b_e hf
      refine nb_ci hW (va_runV (As := [.int a0]) (rest := []) ⟨hx, hb, hml, hown, hts⟩ (c_X8_isGuest l hinj hZo (N := N) hc20 ) (cwV 1 hts (xg_V tw5_65 tw5_67 tp2_12 tw1_10 tw5_68) rfl rfl rfl (by decide +kernel) ⟨Nat.le_of_ble_eq_true rfl, Nat.le_of_ble_eq_true rfl⟩) (nb_preV hK hZ hZo hW (k := 0) rfl rfl) rfl rfl hl.1 rfl (lv_room (Nat.le_of_ble_eq_true rfl)) dX8_wasted_13 ⟨Nat.zero_le _, Nat.zero_le _⟩) (fun H locs hW => ?_)
      refine lv_if_ne (tgt := 21) hx hb dX8_wasted_16 (by decide) (fun c22 => ?_) (fun c22 => ?_)
      · rw [if_neg c22] at hf
        exact w2 ()  _ _ _ hf hW (lv_sub hl [0, 1] rfl)
      · rw [if_pos c22] at hf
        refine lv_iconst (v := (-1 : Int32)) hx hb dX8_wasted_19 (by decide) ?_
        exact nb_ri hx hb hr hlocks hK hZ hZo hW  hf dX8_wasted_20
def fX8_freesOf (N : Nat) (σ : nb_St) (a0 : Int32) (a1 : Int32) : Option (Int32 × nb_St) :=
  nb_b (fX8_goAsItIs N σ) fun σ2 =>
  nb_b (fX8_allWasted N σ2) fun r4 =>
  nb_let (nb_st σ2 0 29 a0) fun σ5 =>
  nb_let (nb_st σ5 0 30 a1) fun σ6 =>
  nb_b (fX8_goEvening N σ6) fun σ8 =>
  nb_b (fX8_allWasted N σ8) fun r10 =>
  some ((r4 - r10), σ8)
def rmX8_freesOf : Room := { frames := 6, cells := 0, slots := 0, locals := 145 }
def vsX8_freesOf : List Cond := .code yX8_freesOf cX8_freesOf 4 (some .int) :: xT
set_option maxHeartbeats 4000000 in
set_option maxRecDepth 100000 in
theorem c_X8_freesOf (l : Launch) {G : nb_G} {Z : State → Heap → Prop} (hinj : nb_inj xm_sh G.2.1) (hZo : nb_Zok (nb_A xm_sh G.2.1) Z) {N : Nat} {σ : nb_St} {a0 : Int32} {a1 : Int32} {ro : Int32} {σo : nb_St} (hf : fX8_freesOf N σ a0 a1 = some (ro, σo))  : Met l yX8_freesOf vsX8_freesOf rmX8_freesOf (nb_Pc G xm_sh Z σ [.ref (G.2.1 0), .int a0, .int a1]) (nb_Qi G xm_sh Z ro σo) 0 0 (nb_A xm_sh G.2.1) := by
  refine Met.ofW (cc := cX8_freesOf) (maxL := 4) (ret := (some .int)) (by decide) rfl ?_
  intro p e s m args below meth c s₁ B hml hv
  obtain ⟨rfl, hP, hK, hZ⟩ := hv
  have hx := B.exec
  have hb := B.bytes
  have hr := B.returns
  have hts : ∀ w ∈ xT, w.before _ s = true := fun w h9 => atoms_spec (ws := vsX8_freesOf) B.pre w (List.mem_cons_of_mem _ h9)
  have hown : s.vm.findClass RX8 = some m.cls := findClass_of_methodNamed B.named
  have hlocks := B.notSynchronized
  have hW : nb_W G xm_sh s.heap σ s.heap [] := ⟨hP, va_S.rf⟩
  have hl := lv_entry ([.ref (G.2.1 0), .int a0, .int a1]) (n := 4) (Nat.le_of_ble_eq_true rfl)
  rw [lg_entry_eq]
  generalize (lg_sl ([.ref (G.2.1 0), .int a0, .int a1]) ++ List.replicate (4 - (lg_sl ([.ref (G.2.1 0), .int a0, .int a1])).length) Slot.unset).toArray = ls at hl ⊢
  have hl : lv_has ls 4 [(0, .ref (G.2.1 0)), (1, .int a0), (2, .int a1)] := hl
  show W p l e rmX8_freesOf s m ([.ref (G.2.1 0), .int a0, .int a1]).toArray below meth c s.heap [] 0 0 (MQ below (nb_Qi G xm_sh Z ro σo) ([.ref (G.2.1 0), .int a0, .int a1]).toArray s 0 0 (nb_A xm_sh G.2.1)) (F0 m 0 ls [])
  generalize hargs : ([.ref (G.2.1 0), .int a0, .int a1] : List Value).toArray = args at hts ⊢
  unfold fX8_freesOf at hf
  obtain ⟨H, eH⟩ : ∃ H, H = s.heap := ⟨_, rfl⟩
  obtain ⟨locs, eL⟩ : ∃ L : List Loc, L = [] := ⟨_, rfl⟩
  have hW : nb_W G xm_sh s.heap σ H locs := by rw [eH, eL]; exact hW
  suffices hgo : W p l e rmX8_freesOf s m args below meth c H locs 0 0 (MQ below (nb_Qi G xm_sh Z ro σo) args s 0 0 (nb_A xm_sh G.2.1)) (F0 m 0 ls []) by rw [eH, eL] at hgo; exact hgo
  clear eH eL
  refine lv_aload_n hx hb dX8_freesOf_0 rfl (lv_at hl 0 rfl) ?_
  obtain ⟨σ2, hc1, hf⟩ := nb_b_e hf
  refine nb_cv hW (va_runV (As := []) (rest := []) ⟨hx, hb, hml, hown, hts⟩ (c_X8_goAsItIs l hinj hZo (N := N) hc1 ) (cwV 0 hts (xg_V tw5_77 tw5_79 tp2_13 tw1_10 tw5_80) rfl rfl rfl (by decide +kernel) ⟨Nat.le_of_ble_eq_true rfl, Nat.le_of_ble_eq_true rfl⟩) (nb_preV hK hZ hZo hW (k := 0) rfl rfl) rfl rfl hl.1 rfl (lv_room (Nat.le_of_ble_eq_true rfl)) dX8_freesOf_1 ⟨Nat.zero_le _, Nat.zero_le _⟩) (fun H locs hW => ?_)
  refine lv_aload_n hx hb dX8_freesOf_4 rfl (lv_at hl 0 rfl) ?_
  obtain ⟨r4, hc3, hf⟩ := nb_b_e hf
  refine nb_ci hW (va_runV (As := []) (rest := []) ⟨hx, hb, hml, hown, hts⟩ (c_X8_allWasted l hinj hZo (N := N) hc3 ) (cwV 0 hts (xg_V tw5_140 tw5_142 tp3_6 tw1_10 tw5_143) rfl rfl rfl (by decide +kernel) ⟨Nat.le_of_ble_eq_true rfl, Nat.le_of_ble_eq_true rfl⟩) (nb_preV hK hZ hZo hW (k := 0) rfl rfl) rfl rfl hl.1 rfl (lv_room (Nat.le_of_ble_eq_true rfl)) dX8_freesOf_5 ⟨Nat.zero_le _, Nat.zero_le _⟩) (fun H locs hW => ?_)
  refine lv_istore_n (lv' := [(3, .int r4), (0, .ref (G.2.1 0)), (1, .int a0), (2, .int a1)]) hx hb dX8_freesOf_8 rfl hl (by decide) rfl (fun ls hl => ?_)
  refine lv_aload_n hx hb dX8_freesOf_9 rfl (lv_at hl 1 rfl) ?_
  refine lv_iload_n hx hb dX8_freesOf_10 rfl (lv_at hl 2 rfl) ?_
  obtain ⟨σ5, eσ5, hf⟩ := nb_let_e hf
  refine nb_put (C := RX8) (T := TX8) (N := 40) hx hb hts inT_X8 hown hK tyX8 tyX8_ok nmX8 hinj hW 0 rfl rfl 29 (by decide) (hts _ tw4_152) (fun _ h9 => h9) rfl (ty := .int) (by decide +kernel) rfl rfl rfl (x := a0) (by show Value.int _ = _; rw [nb_st_s]) eσ5 dX8_freesOf_11 (fun H locs hW => ?_)
  refine lv_aload_n hx hb dX8_freesOf_14 rfl (lv_at hl 1 rfl) ?_
  refine lv_iload_n hx hb dX8_freesOf_15 rfl (lv_at hl 3 rfl) ?_
  obtain ⟨σ6, eσ6, hf⟩ := nb_let_e hf
  refine nb_put (C := RX8) (T := TX8) (N := 40) hx hb hts inT_X8 hown hK tyX8 tyX8_ok nmX8 hinj hW 0 rfl rfl 30 (by decide) (hts _ tw4_153) (fun _ h9 => h9) rfl (ty := .int) (by decide +kernel) rfl rfl rfl (x := a1) (by show Value.int _ = _; rw [nb_st_s]) eσ6 dX8_freesOf_16 (fun H locs hW => ?_)
  refine lv_aload_n hx hb dX8_freesOf_19 rfl (lv_at hl 1 rfl) ?_
  obtain ⟨σ8, hc7, hf⟩ := nb_b_e hf
  refine nb_cv hW (va_runV (As := []) (rest := []) ⟨hx, hb, hml, hown, hts⟩ (c_X8_goEvening l hinj hZo (N := N) hc7 ) (cwV 0 hts (xg_V tw5_85 tw5_87 tp2_15 tw1_10 tw5_88) rfl rfl rfl (by decide +kernel) ⟨Nat.le_of_ble_eq_true rfl, Nat.le_of_ble_eq_true rfl⟩) (nb_preV hK hZ hZo hW (k := 0) rfl rfl) rfl rfl hl.1 rfl (lv_room (Nat.le_of_ble_eq_true rfl)) dX8_freesOf_20 ⟨Nat.zero_le _, Nat.zero_le _⟩) (fun H locs hW => ?_)
  refine lv_iload_n hx hb dX8_freesOf_23 rfl (lv_at hl 0 rfl) ?_
  refine lv_aload_n hx hb dX8_freesOf_24 rfl (lv_at hl 1 rfl) ?_
  obtain ⟨r10, hc9, hf⟩ := nb_b_e hf
  refine nb_ci hW (va_runV (As := []) (rest := [.int r4]) ⟨hx, hb, hml, hown, hts⟩ (c_X8_allWasted l hinj hZo (N := N) hc9 ) (cwV 0 hts (xg_V tw5_140 tw5_142 tp3_6 tw1_10 tw5_143) rfl rfl rfl (by decide +kernel) ⟨Nat.le_of_ble_eq_true rfl, Nat.le_of_ble_eq_true rfl⟩) (nb_preV hK hZ hZo hW (k := 0) rfl rfl) rfl rfl hl.1 rfl (lv_room (Nat.le_of_ble_eq_true rfl)) dX8_freesOf_25 ⟨Nat.zero_le _, Nat.zero_le _⟩) (fun H locs hW => ?_)
  refine lv_isub hx hb dX8_freesOf_28 ?_
  exact nb_ri hx hb hr hlocks hK hZ hZo hW  hf dX8_freesOf_29
def fX8_frees (N : Nat) (σ : nb_St) (a0 : Int32) (a1 : Int32) : Option (Int32 × nb_St) :=
  nb_b (fX8_isGuest N σ a0) fun r2 =>
  nb_let (fun (_u : Unit) =>
  some ((-1 : Int32), σ)) fun k3 =>
  (if r2 = 0 then
  k3 ()
  else
  nb_b (fX8_isMinute N σ a1) fun r7 =>
  (if r7 = 0 then
  k3 ()
  else
  nb_b2 (fX8_freesOf N σ a0 a1) fun r10 σ11 =>
  some (((100000 : Int32) + r10), σ11)))
def rmX8_frees : Room := { frames := 7, cells := 0, slots := 0, locals := 168 }
def vsX8_frees : List Cond := .code yX8_frees cX8_frees 3 (some .int) :: xT
set_option maxHeartbeats 4000000 in
set_option maxRecDepth 100000 in
theorem c_X8_frees (l : Launch) {G : nb_G} {Z : State → Heap → Prop} (hinj : nb_inj xm_sh G.2.1) (hZo : nb_Zok (nb_A xm_sh G.2.1) Z) {N : Nat} {σ : nb_St} {a0 : Int32} {a1 : Int32} {ro : Int32} {σo : nb_St} (hf : fX8_frees N σ a0 a1 = some (ro, σo))  : Met l yX8_frees vsX8_frees rmX8_frees (nb_Pc G xm_sh Z σ [.ref (G.2.1 0), .int a0, .int a1]) (nb_Qi G xm_sh Z ro σo) 0 0 (nb_A xm_sh G.2.1) := by
  refine Met.ofW (cc := cX8_frees) (maxL := 3) (ret := (some .int)) (by decide) rfl ?_
  intro p e s m args below meth c s₁ B hml hv
  obtain ⟨rfl, hP, hK, hZ⟩ := hv
  have hx := B.exec
  have hb := B.bytes
  have hr := B.returns
  have hts : ∀ w ∈ xT, w.before _ s = true := fun w h9 => atoms_spec (ws := vsX8_frees) B.pre w (List.mem_cons_of_mem _ h9)
  have hown : s.vm.findClass RX8 = some m.cls := findClass_of_methodNamed B.named
  have hlocks := B.notSynchronized
  have hW : nb_W G xm_sh s.heap σ s.heap [] := ⟨hP, va_S.rf⟩
  have hl := lv_entry ([.ref (G.2.1 0), .int a0, .int a1]) (n := 3) (Nat.le_of_ble_eq_true rfl)
  rw [lg_entry_eq]
  generalize (lg_sl ([.ref (G.2.1 0), .int a0, .int a1]) ++ List.replicate (3 - (lg_sl ([.ref (G.2.1 0), .int a0, .int a1])).length) Slot.unset).toArray = ls at hl ⊢
  have hl : lv_has ls 3 [(0, .ref (G.2.1 0)), (1, .int a0), (2, .int a1)] := hl
  show W p l e rmX8_frees s m ([.ref (G.2.1 0), .int a0, .int a1]).toArray below meth c s.heap [] 0 0 (MQ below (nb_Qi G xm_sh Z ro σo) ([.ref (G.2.1 0), .int a0, .int a1]).toArray s 0 0 (nb_A xm_sh G.2.1)) (F0 m 0 ls [])
  generalize hargs : ([.ref (G.2.1 0), .int a0, .int a1] : List Value).toArray = args at hts ⊢
  unfold fX8_frees at hf
  obtain ⟨H, eH⟩ : ∃ H, H = s.heap := ⟨_, rfl⟩
  obtain ⟨locs, eL⟩ : ∃ L : List Loc, L = [] := ⟨_, rfl⟩
  have hW : nb_W G xm_sh s.heap σ H locs := by rw [eH, eL]; exact hW
  suffices hgo : W p l e rmX8_frees s m args below meth c H locs 0 0 (MQ below (nb_Qi G xm_sh Z ro σo) args s 0 0 (nb_A xm_sh G.2.1)) (F0 m 0 ls []) by rw [eH, eL] at hgo; exact hgo
  clear eH eL
  refine lv_aload_n hx hb dX8_frees_0 rfl (lv_at hl 0 rfl) ?_
  refine lv_iload_n hx hb dX8_frees_1 rfl (lv_at hl 1 rfl) ?_
  obtain ⟨r2, hc1, hf⟩ := nb_b_e hf
  refine nb_ci hW (va_runV (As := [.int a0]) (rest := []) ⟨hx, hb, hml, hown, hts⟩ (c_X8_isGuest l hinj hZo (N := N) hc1 ) (cwV 1 hts (xg_V tw5_65 tw5_67 tp2_12 tw1_10 tw5_68) rfl rfl rfl (by decide +kernel) ⟨Nat.le_of_ble_eq_true rfl, Nat.le_of_ble_eq_true rfl⟩) (nb_preV hK hZ hZo hW (k := 0) rfl rfl) rfl rfl hl.1 rfl (lv_room (Nat.le_of_ble_eq_true rfl)) dX8_frees_2 ⟨Nat.zero_le _, Nat.zero_le _⟩) (fun H locs hW => ?_)
  obtain ⟨k3, ek3, hf⟩ := nb_let_e hf
  have w4 : ∀ (_u : Unit) (H : Heap) (locs : List Loc) (ls : Array Slot), k3 _u = some (ro, σo) → nb_W G xm_sh s.heap σ H locs → lv_has ls 3 [] → W p l e rmX8_frees s m args below meth c H locs 0 0 (MQ below (nb_Qi G xm_sh Z ro σo) args s 0 0 (nb_A xm_sh G.2.1)) (F0 m 27 ls []) := by
    intro _u H locs ls hf hW hl
    have hf := (congrFun ek3 _u).symm.trans hf
    refine lv_iconst (v := (-1 : Int32)) hx hb dX8_frees_27 (by decide) ?_
    exact nb_ri hx hb hr hlocks hK hZ hZo hW  hf dX8_frees_28
  clear ek3
  refine lv_if_eq (tgt := 27) hx hb dX8_frees_5 (by decide) (fun c5 => ?_) (fun c5 => ?_)
  · rw [if_pos c5] at hf
    exact w4 ()  _ _ _ hf hW (lv_sub hl [] rfl)
  · rw [if_neg c5] at hf
    refine lv_iload_n hx hb dX8_frees_8 rfl (lv_at hl 2 rfl) ?_
    obtain ⟨r7, hc6, hf⟩ := nb_b_e hf
    refine nb_ci hW (va_runS (As := [.int a1]) (rest := []) ⟨hx, hb, hml, hown, hts⟩ (c_X8_isMinute l hinj hZo (N := N) hc6 ) (va_cwS 1 hts (xg_S tw5_44 tw5_45 tw1_10 tw5_46) rfl rfl rfl (by decide +kernel) ⟨Nat.le_of_ble_eq_true rfl, Nat.le_of_ble_eq_true rfl⟩) (nb_preS hK hZ hZo hW) rfl rfl hl.1 rfl (lv_room (Nat.le_of_ble_eq_true rfl)) dX8_frees_9 ⟨Nat.zero_le _, Nat.zero_le _⟩) (fun H locs hW => ?_)
    refine lv_if_eq (tgt := 27) hx hb dX8_frees_12 (by decide) (fun c8 => ?_) (fun c8 => ?_)
    · rw [if_pos c8] at hf
      exact w4 ()  _ _ _ hf hW (lv_sub hl [] rfl)
    · rw [if_neg c8] at hf
      refine lv_ldc (own := RX8) (v := (100000 : Int32)) hx hb hown (hts _ tw5_155) dX8_frees_15 ?_
      refine lv_aload_n hx hb dX8_frees_17 rfl (lv_at hl 0 rfl) ?_
      refine lv_iload_n hx hb dX8_frees_18 rfl (lv_at hl 1 rfl) ?_
      refine lv_iload_n hx hb dX8_frees_19 rfl (lv_at hl 2 rfl) ?_
      obtain ⟨r10, σ11, hc9, hf⟩ := nb_b2_e hf
      refine nb_ci hW (va_runV (As := [.int a0, .int a1]) (rest := [.int (100000 : Int32)]) ⟨hx, hb, hml, hown, hts⟩ (c_X8_freesOf l hinj hZo (N := N) hc9 ) (cwV 2 hts (xg_V tw5_156 tw5_158 tp3_8 tw1_10 tw5_159) rfl rfl rfl (by decide +kernel) ⟨Nat.le_of_ble_eq_true rfl, Nat.le_of_ble_eq_true rfl⟩) (nb_preV hK hZ hZo hW (k := 0) rfl rfl) rfl rfl hl.1 rfl (lv_room (Nat.le_of_ble_eq_true rfl)) dX8_frees_20 ⟨Nat.zero_le _, Nat.zero_le _⟩) (fun H locs hW => ?_)
      refine lv_iadd hx hb dX8_frees_23 ?_
      refine lv_goto (tgt := 28) hx hb dX8_frees_24 (by decide) ?_
      exact nb_ri hx hb hr hlocks hK hZ hZo hW  hf dX8_frees_28
def fX8_madeUp (N : Nat) (σ : nb_St) (a0 : Int32) (a1 : Int32) : Option (Int32 × nb_St) :=
  nb_b (fX8_isGuest N σ a0) fun r2 =>
  nb_let (fun (_u : Unit) =>
  some ((-1 : Int32), σ)) fun k3 =>
  (if r2 = 0 then
  k3 ()
  else
  nb_b (fX8_in N σ ((a1).toInt64) (0 : Int64) (1 : Int64)) fun r7 =>
  (if r7 = 0 then
  k3 ()
  else
  nb_lp4 (R := (Int32 × nb_St)) (fun ag13 (x9 : Int32) (x10 : Int32) (x11 : Int32) (σ12 : nb_St) =>
  (if (350 : Int32) < x11 then
  (if 0 ≤ x9 then
  (if a1 = 0 then
  some (x9, σ12)
  else
  some (((100000 : Int32) + x10), σ12))
  else
  some ((-4 : Int32), σ12))
  else
  nb_b2 (fX8_freesOf N σ12 a0 x11) fun r19 σ20 =>
  nb_let (fun (v23 : Int32) =>
  nb_let (fun (v26 : Int32) =>
  ag13 v23 v26 (x11 + 10) σ20) fun k24 =>
  (if r19 ≤ x10 then
  k24 x10
  else
  k24 r19)) fun k21 =>
  (if r19 ≤ x10 then
  k21 x9
  else
  k21 x11))) N (-4 : Int32) (0 : Int32) (0 : Int32) σ))
def rmX8_madeUp : Room := { frames := 7, cells := 0, slots := 0, locals := 168 }
def vsX8_madeUp : List Cond := .code yX8_madeUp cX8_madeUp 7 (some .int) :: xT
set_option maxHeartbeats 4000000 in
set_option maxRecDepth 100000 in
theorem c_X8_madeUp (l : Launch) {G : nb_G} {Z : State → Heap → Prop} (hinj : nb_inj xm_sh G.2.1) (hZo : nb_Zok (nb_A xm_sh G.2.1) Z) {N : Nat} {σ : nb_St} {a0 : Int32} {a1 : Int32} {ro : Int32} {σo : nb_St} (hf : fX8_madeUp N σ a0 a1 = some (ro, σo))  : Met l yX8_madeUp vsX8_madeUp rmX8_madeUp (nb_Pc G xm_sh Z σ [.ref (G.2.1 0), .int a0, .int a1]) (nb_Qi G xm_sh Z ro σo) 0 0 (nb_A xm_sh G.2.1) := by
  refine Met.ofW (cc := cX8_madeUp) (maxL := 7) (ret := (some .int)) (by decide) rfl ?_
  intro p e s m args below meth c s₁ B hml hv
  obtain ⟨rfl, hP, hK, hZ⟩ := hv
  have hx := B.exec
  have hb := B.bytes
  have hr := B.returns
  have hts : ∀ w ∈ xT, w.before _ s = true := fun w h9 => atoms_spec (ws := vsX8_madeUp) B.pre w (List.mem_cons_of_mem _ h9)
  have hown : s.vm.findClass RX8 = some m.cls := findClass_of_methodNamed B.named
  have hlocks := B.notSynchronized
  have hW : nb_W G xm_sh s.heap σ s.heap [] := ⟨hP, va_S.rf⟩
  have hl := lv_entry ([.ref (G.2.1 0), .int a0, .int a1]) (n := 7) (Nat.le_of_ble_eq_true rfl)
  rw [lg_entry_eq]
  generalize (lg_sl ([.ref (G.2.1 0), .int a0, .int a1]) ++ List.replicate (7 - (lg_sl ([.ref (G.2.1 0), .int a0, .int a1])).length) Slot.unset).toArray = ls at hl ⊢
  have hl : lv_has ls 7 [(0, .ref (G.2.1 0)), (1, .int a0), (2, .int a1)] := hl
  show W p l e rmX8_madeUp s m ([.ref (G.2.1 0), .int a0, .int a1]).toArray below meth c s.heap [] 0 0 (MQ below (nb_Qi G xm_sh Z ro σo) ([.ref (G.2.1 0), .int a0, .int a1]).toArray s 0 0 (nb_A xm_sh G.2.1)) (F0 m 0 ls [])
  generalize hargs : ([.ref (G.2.1 0), .int a0, .int a1] : List Value).toArray = args at hts ⊢
  unfold fX8_madeUp at hf
  obtain ⟨H, eH⟩ : ∃ H, H = s.heap := ⟨_, rfl⟩
  obtain ⟨locs, eL⟩ : ∃ L : List Loc, L = [] := ⟨_, rfl⟩
  have hW : nb_W G xm_sh s.heap σ H locs := by rw [eH, eL]; exact hW
  suffices hgo : W p l e rmX8_madeUp s m args below meth c H locs 0 0 (MQ below (nb_Qi G xm_sh Z ro σo) args s 0 0 (nb_A xm_sh G.2.1)) (F0 m 0 ls []) by rw [eH, eL] at hgo; exact hgo
  clear eH eL
  refine lv_aload_n hx hb dX8_madeUp_0 rfl (lv_at hl 0 rfl) ?_
  refine lv_iload_n hx hb dX8_madeUp_1 rfl (lv_at hl 1 rfl) ?_
  obtain ⟨r2, hc1, hf⟩ := nb_b_e hf
  refine nb_ci hW (va_runV (As := [.int a0]) (rest := []) ⟨hx, hb, hml, hown, hts⟩ (c_X8_isGuest l hinj hZo (N := N) hc1 ) (cwV 1 hts (xg_V tw5_65 tw5_67 tp2_12 tw1_10 tw5_68) rfl rfl rfl (by decide +kernel) ⟨Nat.le_of_ble_eq_true rfl, Nat.le_of_ble_eq_true rfl⟩) (nb_preV hK hZ hZo hW (k := 0) rfl rfl) rfl rfl hl.1 rfl (lv_room (Nat.le_of_ble_eq_true rfl)) dX8_madeUp_2 ⟨Nat.zero_le _, Nat.zero_le _⟩) (fun H locs hW => ?_)
  obtain ⟨k3, ek3, hf⟩ := nb_let_e hf
  have w4 : ∀ (_u : Unit) (H : Heap) (locs : List Loc) (ls : Array Slot), k3 _u = some (ro, σo) → nb_W G xm_sh s.heap σ H locs → lv_has ls 7 [] → W p l e rmX8_madeUp s m args below meth c H locs 0 0 (MQ below (nb_Qi G xm_sh Z ro σo) args s 0 0 (nb_A xm_sh G.2.1)) (F0 m 18 ls []) := by
    intro _u H locs ls hf hW hl
    have hf := (congrFun ek3 _u).symm.trans hf
    refine lv_iconst (v := (-1 : Int32)) hx hb dX8_madeUp_18 (by decide) ?_
    exact nb_ri hx hb hr hlocks hK hZ hZo hW  hf dX8_madeUp_19
  clear ek3
  refine lv_if_eq (tgt := 18) hx hb dX8_madeUp_5 (by decide) (fun c5 => ?_) (fun c5 => ?_)
  · rw [if_pos c5] at hf
    exact w4 ()  _ _ _ hf hW (lv_sub hl [] rfl)
  · rw [if_neg c5] at hf
    refine lv_iload_n hx hb dX8_madeUp_8 rfl (lv_at hl 2 rfl) ?_
    refine lv_i2l hx hb dX8_madeUp_9 rfl ?_
    refine lv_lconst (v := (0 : Int64)) hx hb dX8_madeUp_10 (by decide) ?_
    refine lv_lconst (v := (1 : Int64)) hx hb dX8_madeUp_11 (by decide) ?_
    obtain ⟨r7, hc6, hf⟩ := nb_b_e hf
    refine nb_ci hW (va_runS (As := [.long ((a1).toInt64), .long (0 : Int64), .long (1 : Int64)]) (rest := []) ⟨hx, hb, hml, hown, hts⟩ (c_X8_in l hinj hZo (N := N) hc6 ) (va_cwS 3 hts (xg_S tw5_9 tw5_10 tw1_10 tw5_11) rfl rfl rfl (by decide +kernel) ⟨Nat.le_of_ble_eq_true rfl, Nat.le_of_ble_eq_true rfl⟩) (nb_preS hK hZ hZo hW) rfl rfl hl.1 rfl (lv_room (Nat.le_of_ble_eq_true rfl)) dX8_madeUp_12 ⟨Nat.zero_le _, Nat.zero_le _⟩) (fun H locs hW => ?_)
    refine lv_if_ne (tgt := 20) hx hb dX8_madeUp_15 (by decide) (fun c8 => ?_) (fun c8 => ?_)
    · rw [if_neg c8] at hf
      refine lv_bipush (v := (-4 : Int32)) hx hb dX8_madeUp_20 (by decide) ?_
      refine lv_istore_n (lv' := [(3, .int (-4 : Int32)), (0, .ref (G.2.1 0)), (1, .int a0), (2, .int a1)]) hx hb dX8_madeUp_22 rfl hl (by decide) rfl (fun ls hl => ?_)
      refine lv_iconst (v := (0 : Int32)) hx hb dX8_madeUp_23 (by decide) ?_
      refine lv_istore (lv' := [(4, .int (0 : Int32)), (3, .int (-4 : Int32)), (0, .ref (G.2.1 0)), (1, .int a0), (2, .int a1)]) hx hb dX8_madeUp_24 hl (by decide) rfl (fun ls hl => ?_)
      refine lv_iconst (v := (0 : Int32)) hx hb dX8_madeUp_26 (by decide) ?_
      refine lv_istore (lv' := [(5, .int (0 : Int32)), (4, .int (0 : Int32)), (3, .int (-4 : Int32)), (0, .ref (G.2.1 0)), (1, .int a0), (2, .int a1)]) hx hb dX8_madeUp_27 hl (by decide) rfl (fun ls hl => ?_)
      refine nb_w4 (P := fun (x9 : Int32) (x10 : Int32) (x11 : Int32) (σ12 : nb_St) => ∀ (H : Heap) (locs : List Loc) (ls : Array Slot), nb_W G xm_sh s.heap σ12 H locs → lv_has ls 7 [(0, .ref (G.2.1 0)), (1, .int a0), (2, .int a1), (3, .int x9), (4, .int x10), (5, .int x11)] → W p l e rmX8_madeUp s m args below meth c H locs 0 0 (MQ below (nb_Qi G xm_sh Z ro σo) args s 0 0 (nb_A xm_sh G.2.1)) (F0 m 29 ls [])) ?_ N _ _ _ _ hf H locs ls hW (lv_sub hl [3, 4, 5, 2, 1, 0] rfl)
      intro ag13 ih14 x9 x10 x11 σ12 hf H locs ls hW hl
      refine lv_iload hx hb dX8_madeUp_29 (lv_at hl 5 rfl) ?_
      refine lv_sipush (v := (350 : Int32)) hx hb dX8_madeUp_31 (by decide) ?_
      refine lv_icmp_gt (tgt := 82) hx hb dX8_madeUp_34 (by decide) (fun c15 => ?_) (fun c15 => ?_)
      · rw [if_pos c15] at hf
        refine lv_iload_n hx hb dX8_madeUp_82 rfl (lv_at hl 3 rfl) ?_
        refine lv_if_ge (tgt := 91) hx hb dX8_madeUp_83 (by decide) (fun c16 => ?_) (fun c16 => ?_)
        · rw [if_pos c16] at hf
          refine lv_iload_n hx hb dX8_madeUp_91 rfl (lv_at hl 2 rfl) ?_
          refine lv_if_ne (tgt := 99) hx hb dX8_madeUp_92 (by decide) (fun c17 => ?_) (fun c17 => ?_)
          · rw [if_neg c17] at hf
            refine lv_ldc (own := RX8) (v := (100000 : Int32)) hx hb hown (hts _ tw5_155) dX8_madeUp_99 ?_
            refine lv_iload hx hb dX8_madeUp_101 (lv_at hl 4 rfl) ?_
            refine lv_iadd hx hb dX8_madeUp_103 ?_
            exact nb_ri hx hb hr hlocks hK hZ hZo hW  hf dX8_madeUp_104
          · rw [if_pos c17] at hf
            refine lv_iload_n hx hb dX8_madeUp_95 rfl (lv_at hl 3 rfl) ?_
            refine lv_goto (tgt := 104) hx hb dX8_madeUp_96 (by decide) ?_
            exact nb_ri hx hb hr hlocks hK hZ hZo hW  hf dX8_madeUp_104
        · rw [if_neg c16] at hf
          refine lv_bipush (v := (-4 : Int32)) hx hb dX8_madeUp_86 (by decide) ?_
          refine lv_goto (tgt := 104) hx hb dX8_madeUp_88 (by decide) ?_
          exact nb_ri hx hb hr hlocks hK hZ hZo hW  hf dX8_madeUp_104
      · rw [if_neg c15] at hf
        refine lv_aload_n hx hb dX8_madeUp_37 rfl (lv_at hl 0 rfl) ?_
        refine lv_iload_n hx hb dX8_madeUp_38 rfl (lv_at hl 1 rfl) ?_
        refine lv_iload hx hb dX8_madeUp_39 (lv_at hl 5 rfl) ?_
        obtain ⟨r19, σ20, hc18, hf⟩ := nb_b2_e hf
        refine nb_ci hW (va_runV (As := [.int a0, .int x11]) (rest := []) ⟨hx, hb, hml, hown, hts⟩ (c_X8_freesOf l hinj hZo (N := N) hc18 ) (cwV 2 hts (xg_V tw5_156 tw5_158 tp3_8 tw1_10 tw5_159) rfl rfl rfl (by decide +kernel) ⟨Nat.le_of_ble_eq_true rfl, Nat.le_of_ble_eq_true rfl⟩) (nb_preV hK hZ hZo hW (k := 0) rfl rfl) rfl rfl hl.1 rfl (lv_room (Nat.le_of_ble_eq_true rfl)) dX8_madeUp_41 ⟨Nat.zero_le _, Nat.zero_le _⟩) (fun H locs hW => ?_)
        refine lv_istore (lv' := [(6, .int r19), (0, .ref (G.2.1 0)), (1, .int a0), (2, .int a1), (3, .int x9), (4, .int x10), (5, .int x11)]) hx hb dX8_madeUp_44 hl (by decide) rfl (fun ls hl => ?_)
        refine lv_iload hx hb dX8_madeUp_46 (lv_at hl 0 rfl) ?_
        refine lv_iload hx hb dX8_madeUp_48 (lv_at hl 5 rfl) ?_
        obtain ⟨k21, ek21, hf⟩ := nb_let_e hf
        have w22 : ∀ (v23 : Int32) (H : Heap) (locs : List Loc) (ls : Array Slot), k21 v23 = some (ro, σo) → nb_W G xm_sh s.heap σ20 H locs → lv_has ls 7 [(0, .ref (G.2.1 0)), (1, .int a0), (2, .int a1), (4, .int x10), (5, .int x11), (6, .int r19)] → W p l e rmX8_madeUp s m args below meth c H locs 0 0 (MQ below (nb_Qi G xm_sh Z ro σo) args s 0 0 (nb_A xm_sh G.2.1)) (F0 m 59 ls [.int v23]) := by
          intro v23 H locs ls hf hW hl
          have hf := (congrFun ek21 v23).symm.trans hf
          refine lv_istore_n (lv' := [(3, .int v23), (0, .ref (G.2.1 0)), (1, .int a0), (2, .int a1), (4, .int x10), (5, .int x11), (6, .int r19)]) hx hb dX8_madeUp_59 rfl hl (by decide) rfl (fun ls hl => ?_)
          refine lv_iload hx hb dX8_madeUp_60 (lv_at hl 6 rfl) ?_
          refine lv_iload hx hb dX8_madeUp_62 (lv_at hl 4 rfl) ?_
          obtain ⟨k24, ek24, hf⟩ := nb_let_e hf
          have w25 : ∀ (v26 : Int32) (H : Heap) (locs : List Loc) (ls : Array Slot), k24 v26 = some (ro, σo) → nb_W G xm_sh s.heap σ20 H locs → lv_has ls 7 [(0, .ref (G.2.1 0)), (1, .int a0), (2, .int a1), (3, .int v23), (5, .int x11)] → W p l e rmX8_madeUp s m args below meth c H locs 0 0 (MQ below (nb_Qi G xm_sh Z ro σo) args s 0 0 (nb_A xm_sh G.2.1)) (F0 m 74 ls [.int v26]) := by
            intro v26 H locs ls hf hW hl
            have hf := (congrFun ek24 v26).symm.trans hf
            refine lv_istore (lv' := [(4, .int v26), (0, .ref (G.2.1 0)), (1, .int a0), (2, .int a1), (3, .int v23), (5, .int x11)]) hx hb dX8_madeUp_74 hl (by decide) rfl (fun ls hl => ?_)
            refine lv_iinc (v := (x11 + 10)) (lv' := [(5, .int (x11 + 10)), (4, .int v26), (0, .ref (G.2.1 0)), (1, .int a0), (2, .int a1), (3, .int v23)]) hx hb dX8_madeUp_76 hl (k := 5) rfl rfl (by decide) rfl (fun ls hl => ?_)
            refine lv_goto (tgt := 29) hx hb dX8_madeUp_79 (by decide) ?_
            exact ih14 _ _ _ _ hf _ _ _ hW (lv_sub hl [2, 3, 4, 5, 1, 0] rfl)
          clear ek24
          refine lv_icmp_le (tgt := 72) hx hb dX8_madeUp_64 (by decide) (fun c27 => ?_) (fun c27 => ?_)
          · rw [if_pos c27] at hf
            refine lv_iload hx hb dX8_madeUp_72 (lv_at hl 4 rfl) ?_
            exact w25 _ _ _ _ hf hW (lv_sub hl [1, 2, 3, 0, 5] rfl)
          · rw [if_neg c27] at hf
            refine lv_iload hx hb dX8_madeUp_67 (lv_at hl 6 rfl) ?_
            refine lv_goto (tgt := 74) hx hb dX8_madeUp_69 (by decide) ?_
            exact w25 _ _ _ _ hf hW (lv_sub hl [1, 2, 3, 0, 5] rfl)
        clear ek21
        refine lv_icmp_le (tgt := 58) hx hb dX8_madeUp_50 (by decide) (fun c28 => ?_) (fun c28 => ?_)
        · rw [if_pos c28] at hf
          refine lv_iload_n hx hb dX8_madeUp_58 rfl (lv_at hl 4 rfl) ?_
          exact w22 _ _ _ _ hf hW (lv_sub hl [1, 2, 3, 5, 6, 0] rfl)
        · rw [if_neg c28] at hf
          refine lv_iload hx hb dX8_madeUp_53 (lv_at hl 6 rfl) ?_
          refine lv_goto (tgt := 59) hx hb dX8_madeUp_55 (by decide) ?_
          exact w22 _ _ _ _ hf hW (lv_sub hl [1, 2, 3, 5, 6, 0] rfl)
    · rw [if_pos c8] at hf
      exact w4 ()  _ _ _ hf hW (lv_sub hl [] rfl)
def fX8_bellOf (N : Nat) (σ : nb_St) (a0 : Int32) : Option (Int32 × nb_St) :=
  nb_b (fX8_asItIs N σ) fun σ2 =>
  nb_let (nb_st σ2 0 31 a0) fun σ3 =>
  nb_b (fX8_goEvening N σ3) fun σ5 =>
  nb_b (fX8_allWasted N σ5) fun r7 =>
  some (r7, σ5)
def rmX8_bellOf : Room := { frames := 5, cells := 0, slots := 0, locals := 125 }
def vsX8_bellOf : List Cond := .code yX8_bellOf cX8_bellOf 2 (some .int) :: xT
set_option maxHeartbeats 4000000 in
set_option maxRecDepth 100000 in
theorem c_X8_bellOf (l : Launch) {G : nb_G} {Z : State → Heap → Prop} (hinj : nb_inj xm_sh G.2.1) (hZo : nb_Zok (nb_A xm_sh G.2.1) Z) {N : Nat} {σ : nb_St} {a0 : Int32} {ro : Int32} {σo : nb_St} (hf : fX8_bellOf N σ a0 = some (ro, σo))  : Met l yX8_bellOf vsX8_bellOf rmX8_bellOf (nb_Pc G xm_sh Z σ [.ref (G.2.1 0), .int a0]) (nb_Qi G xm_sh Z ro σo) 0 0 (nb_A xm_sh G.2.1) := by
  refine Met.ofW (cc := cX8_bellOf) (maxL := 2) (ret := (some .int)) (by decide) rfl ?_
  intro p e s m args below meth c s₁ B hml hv
  obtain ⟨rfl, hP, hK, hZ⟩ := hv
  have hx := B.exec
  have hb := B.bytes
  have hr := B.returns
  have hts : ∀ w ∈ xT, w.before _ s = true := fun w h9 => atoms_spec (ws := vsX8_bellOf) B.pre w (List.mem_cons_of_mem _ h9)
  have hown : s.vm.findClass RX8 = some m.cls := findClass_of_methodNamed B.named
  have hlocks := B.notSynchronized
  have hW : nb_W G xm_sh s.heap σ s.heap [] := ⟨hP, va_S.rf⟩
  have hl := lv_entry ([.ref (G.2.1 0), .int a0]) (n := 2) (Nat.le_of_ble_eq_true rfl)
  rw [lg_entry_eq]
  generalize (lg_sl ([.ref (G.2.1 0), .int a0]) ++ List.replicate (2 - (lg_sl ([.ref (G.2.1 0), .int a0])).length) Slot.unset).toArray = ls at hl ⊢
  have hl : lv_has ls 2 [(0, .ref (G.2.1 0)), (1, .int a0)] := hl
  show W p l e rmX8_bellOf s m ([.ref (G.2.1 0), .int a0]).toArray below meth c s.heap [] 0 0 (MQ below (nb_Qi G xm_sh Z ro σo) ([.ref (G.2.1 0), .int a0]).toArray s 0 0 (nb_A xm_sh G.2.1)) (F0 m 0 ls [])
  generalize hargs : ([.ref (G.2.1 0), .int a0] : List Value).toArray = args at hts ⊢
  unfold fX8_bellOf at hf
  obtain ⟨H, eH⟩ : ∃ H, H = s.heap := ⟨_, rfl⟩
  obtain ⟨locs, eL⟩ : ∃ L : List Loc, L = [] := ⟨_, rfl⟩
  have hW : nb_W G xm_sh s.heap σ H locs := by rw [eH, eL]; exact hW
  suffices hgo : W p l e rmX8_bellOf s m args below meth c H locs 0 0 (MQ below (nb_Qi G xm_sh Z ro σo) args s 0 0 (nb_A xm_sh G.2.1)) (F0 m 0 ls []) by rw [eH, eL] at hgo; exact hgo
  clear eH eL
  refine lv_aload_n hx hb dX8_bellOf_0 rfl (lv_at hl 0 rfl) ?_
  obtain ⟨σ2, hc1, hf⟩ := nb_b_e hf
  refine nb_cv hW (va_runV (As := []) (rest := []) ⟨hx, hb, hml, hown, hts⟩ (c_X8_asItIs l hinj hZo (N := N) hc1 ) (cwV 0 hts (xg_V tw5_81 tw5_83 tp2_14 tw1_10 tw5_84) rfl rfl rfl (by decide +kernel) ⟨Nat.le_of_ble_eq_true rfl, Nat.le_of_ble_eq_true rfl⟩) (nb_preV hK hZ hZo hW (k := 0) rfl rfl) rfl rfl hl.1 rfl (lv_room (Nat.le_of_ble_eq_true rfl)) dX8_bellOf_1 ⟨Nat.zero_le _, Nat.zero_le _⟩) (fun H locs hW => ?_)
  refine lv_aload_n hx hb dX8_bellOf_4 rfl (lv_at hl 0 rfl) ?_
  refine lv_iload_n hx hb dX8_bellOf_5 rfl (lv_at hl 1 rfl) ?_
  obtain ⟨σ3, eσ3, hf⟩ := nb_let_e hf
  refine nb_put (C := RX8) (T := TX8) (N := 40) hx hb hts inT_X8 hown hK tyX8 tyX8_ok nmX8 hinj hW 0 rfl rfl 31 (by decide) (hts _ tw4_154) (fun _ h9 => h9) rfl (ty := .int) (by decide +kernel) rfl rfl rfl (x := a0) (by show Value.int _ = _; rw [nb_st_s]) eσ3 dX8_bellOf_6 (fun H locs hW => ?_)
  refine lv_aload_n hx hb dX8_bellOf_9 rfl (lv_at hl 0 rfl) ?_
  obtain ⟨σ5, hc4, hf⟩ := nb_b_e hf
  refine nb_cv hW (va_runV (As := []) (rest := []) ⟨hx, hb, hml, hown, hts⟩ (c_X8_goEvening l hinj hZo (N := N) hc4 ) (cwV 0 hts (xg_V tw5_85 tw5_87 tp2_15 tw1_10 tw5_88) rfl rfl rfl (by decide +kernel) ⟨Nat.le_of_ble_eq_true rfl, Nat.le_of_ble_eq_true rfl⟩) (nb_preV hK hZ hZo hW (k := 0) rfl rfl) rfl rfl hl.1 rfl (lv_room (Nat.le_of_ble_eq_true rfl)) dX8_bellOf_10 ⟨Nat.zero_le _, Nat.zero_le _⟩) (fun H locs hW => ?_)
  refine lv_aload_n hx hb dX8_bellOf_13 rfl (lv_at hl 0 rfl) ?_
  obtain ⟨r7, hc6, hf⟩ := nb_b_e hf
  refine nb_ci hW (va_runV (As := []) (rest := []) ⟨hx, hb, hml, hown, hts⟩ (c_X8_allWasted l hinj hZo (N := N) hc6 ) (cwV 0 hts (xg_V tw5_140 tw5_142 tp3_6 tw1_10 tw5_143) rfl rfl rfl (by decide +kernel) ⟨Nat.le_of_ble_eq_true rfl, Nat.le_of_ble_eq_true rfl⟩) (nb_preV hK hZ hZo hW (k := 0) rfl rfl) rfl rfl hl.1 rfl (lv_room (Nat.le_of_ble_eq_true rfl)) dX8_bellOf_14 ⟨Nat.zero_le _, Nat.zero_le _⟩) (fun H locs hW => ?_)
  exact nb_ri hx hb hr hlocks hK hZ hZo hW  hf dX8_bellOf_17
def fX8_bell (N : Nat) (σ : nb_St) (a0 : Int32) : Option (Int32 × nb_St) :=
  nb_b (fX8_isTime N σ a0) fun r2 =>
  (if r2 = 0 then
  some ((-1 : Int32), σ)
  else
  nb_b2 (fX8_bellOf N σ a0) fun r5 σ6 =>
  some (r5, σ6))
def rmX8_bell : Room := { frames := 6, cells := 0, slots := 0, locals := 146 }
def vsX8_bell : List Cond := .code yX8_bell cX8_bell 2 (some .int) :: xT
set_option maxHeartbeats 4000000 in
set_option maxRecDepth 100000 in
theorem c_X8_bell (l : Launch) {G : nb_G} {Z : State → Heap → Prop} (hinj : nb_inj xm_sh G.2.1) (hZo : nb_Zok (nb_A xm_sh G.2.1) Z) {N : Nat} {σ : nb_St} {a0 : Int32} {ro : Int32} {σo : nb_St} (hf : fX8_bell N σ a0 = some (ro, σo))  : Met l yX8_bell vsX8_bell rmX8_bell (nb_Pc G xm_sh Z σ [.ref (G.2.1 0), .int a0]) (nb_Qi G xm_sh Z ro σo) 0 0 (nb_A xm_sh G.2.1) := by
  refine Met.ofW (cc := cX8_bell) (maxL := 2) (ret := (some .int)) (by decide) rfl ?_
  intro p e s m args below meth c s₁ B hml hv
  obtain ⟨rfl, hP, hK, hZ⟩ := hv
  have hx := B.exec
  have hb := B.bytes
  have hr := B.returns
  have hts : ∀ w ∈ xT, w.before _ s = true := fun w h9 => atoms_spec (ws := vsX8_bell) B.pre w (List.mem_cons_of_mem _ h9)
  have hown : s.vm.findClass RX8 = some m.cls := findClass_of_methodNamed B.named
  have hlocks := B.notSynchronized
  have hW : nb_W G xm_sh s.heap σ s.heap [] := ⟨hP, va_S.rf⟩
  have hl := lv_entry ([.ref (G.2.1 0), .int a0]) (n := 2) (Nat.le_of_ble_eq_true rfl)
  rw [lg_entry_eq]
  generalize (lg_sl ([.ref (G.2.1 0), .int a0]) ++ List.replicate (2 - (lg_sl ([.ref (G.2.1 0), .int a0])).length) Slot.unset).toArray = ls at hl ⊢
  have hl : lv_has ls 2 [(0, .ref (G.2.1 0)), (1, .int a0)] := hl
  show W p l e rmX8_bell s m ([.ref (G.2.1 0), .int a0]).toArray below meth c s.heap [] 0 0 (MQ below (nb_Qi G xm_sh Z ro σo) ([.ref (G.2.1 0), .int a0]).toArray s 0 0 (nb_A xm_sh G.2.1)) (F0 m 0 ls [])
  generalize hargs : ([.ref (G.2.1 0), .int a0] : List Value).toArray = args at hts ⊢
  unfold fX8_bell at hf
  obtain ⟨H, eH⟩ : ∃ H, H = s.heap := ⟨_, rfl⟩
  obtain ⟨locs, eL⟩ : ∃ L : List Loc, L = [] := ⟨_, rfl⟩
  have hW : nb_W G xm_sh s.heap σ H locs := by rw [eH, eL]; exact hW
  suffices hgo : W p l e rmX8_bell s m args below meth c H locs 0 0 (MQ below (nb_Qi G xm_sh Z ro σo) args s 0 0 (nb_A xm_sh G.2.1)) (F0 m 0 ls []) by rw [eH, eL] at hgo; exact hgo
  clear eH eL
  refine lv_iload_n hx hb dX8_bell_0 rfl (lv_at hl 1 rfl) ?_
  obtain ⟨r2, hc1, hf⟩ := nb_b_e hf
  refine nb_ci hW (va_runS (As := [.int a0]) (rest := []) ⟨hx, hb, hml, hown, hts⟩ (c_X8_isTime l hinj hZo (N := N) hc1 ) (va_cwS 1 hts (xg_S tw5_73 tw5_74 tw1_10 tw5_75) rfl rfl rfl (by decide +kernel) ⟨Nat.le_of_ble_eq_true rfl, Nat.le_of_ble_eq_true rfl⟩) (nb_preS hK hZ hZo hW) rfl rfl hl.1 rfl (lv_room (Nat.le_of_ble_eq_true rfl)) dX8_bell_1 ⟨Nat.zero_le _, Nat.zero_le _⟩) (fun H locs hW => ?_)
  refine lv_if_eq (tgt := 15) hx hb dX8_bell_4 (by decide) (fun c3 => ?_) (fun c3 => ?_)
  · rw [if_pos c3] at hf
    refine lv_iconst (v := (-1 : Int32)) hx hb dX8_bell_15 (by decide) ?_
    exact nb_ri hx hb hr hlocks hK hZ hZo hW  hf dX8_bell_16
  · rw [if_neg c3] at hf
    refine lv_aload_n hx hb dX8_bell_7 rfl (lv_at hl 0 rfl) ?_
    refine lv_iload_n hx hb dX8_bell_8 rfl (lv_at hl 1 rfl) ?_
    obtain ⟨r5, σ6, hc4, hf⟩ := nb_b2_e hf
    refine nb_ci hW (va_runV (As := [.int a0]) (rest := []) ⟨hx, hb, hml, hown, hts⟩ (c_X8_bellOf l hinj hZo (N := N) hc4 ) (cwV 1 hts (xg_V tw5_168 tw5_170 tp3_9 tw1_10 tw5_171) rfl rfl rfl (by decide +kernel) ⟨Nat.le_of_ble_eq_true rfl, Nat.le_of_ble_eq_true rfl⟩) (nb_preV hK hZ hZo hW (k := 0) rfl rfl) rfl rfl hl.1 rfl (lv_room (Nat.le_of_ble_eq_true rfl)) dX8_bell_9 ⟨Nat.zero_le _, Nat.zero_le _⟩) (fun H locs hW => ?_)
    refine lv_goto (tgt := 16) hx hb dX8_bell_12 (by decide) ?_
    exact nb_ri hx hb hr hlocks hK hZ hZo hW  hf dX8_bell_16
def fX8_best (N : Nat) (σ : nb_St) (a0 : Int32) : Option (Int32 × nb_St) :=
  nb_b (fX8_in N σ ((a0).toInt64) (0 : Int64) (1 : Int64)) fun r2 =>
  (if r2 = 0 then
  some ((-1 : Int32), σ)
  else
  nb_b2 (fX8_bellOf N σ (0 : Int32)) fun r5 σ6 =>
  nb_lp4 (R := (Int32 × nb_St)) (fun ag11 (x7 : Int32) (x8 : Int32) (x9 : Int32) (σ10 : nb_St) =>
  (if (350 : Int32) < x9 then
  (if a0 = 0 then
  some (x7, σ10)
  else
  some (x8, σ10))
  else
  nb_b2 (fX8_bellOf N σ10 x9) fun r16 σ17 =>
  nb_let (fun (v20 : Int32) =>
  nb_let (fun (v23 : Int32) =>
  ag11 v20 v23 (x9 + 10) σ17) fun k21 =>
  (if x8 ≤ r16 then
  k21 x8
  else
  k21 r16)) fun k18 =>
  (if x8 ≤ r16 then
  k18 x7
  else
  k18 x9))) N (0 : Int32) r5 (10 : Int32) σ6)
def rmX8_best : Room := { frames := 6, cells := 0, slots := 0, locals := 146 }
def vsX8_best : List Cond := .code yX8_best cX8_best 6 (some .int) :: xT
set_option maxHeartbeats 4000000 in
set_option maxRecDepth 100000 in
theorem c_X8_best (l : Launch) {G : nb_G} {Z : State → Heap → Prop} (hinj : nb_inj xm_sh G.2.1) (hZo : nb_Zok (nb_A xm_sh G.2.1) Z) {N : Nat} {σ : nb_St} {a0 : Int32} {ro : Int32} {σo : nb_St} (hf : fX8_best N σ a0 = some (ro, σo))  : Met l yX8_best vsX8_best rmX8_best (nb_Pc G xm_sh Z σ [.ref (G.2.1 0), .int a0]) (nb_Qi G xm_sh Z ro σo) 0 0 (nb_A xm_sh G.2.1) := by
  refine Met.ofW (cc := cX8_best) (maxL := 6) (ret := (some .int)) (by decide) rfl ?_
  intro p e s m args below meth c s₁ B hml hv
  obtain ⟨rfl, hP, hK, hZ⟩ := hv
  have hx := B.exec
  have hb := B.bytes
  have hr := B.returns
  have hts : ∀ w ∈ xT, w.before _ s = true := fun w h9 => atoms_spec (ws := vsX8_best) B.pre w (List.mem_cons_of_mem _ h9)
  have hown : s.vm.findClass RX8 = some m.cls := findClass_of_methodNamed B.named
  have hlocks := B.notSynchronized
  have hW : nb_W G xm_sh s.heap σ s.heap [] := ⟨hP, va_S.rf⟩
  have hl := lv_entry ([.ref (G.2.1 0), .int a0]) (n := 6) (Nat.le_of_ble_eq_true rfl)
  rw [lg_entry_eq]
  generalize (lg_sl ([.ref (G.2.1 0), .int a0]) ++ List.replicate (6 - (lg_sl ([.ref (G.2.1 0), .int a0])).length) Slot.unset).toArray = ls at hl ⊢
  have hl : lv_has ls 6 [(0, .ref (G.2.1 0)), (1, .int a0)] := hl
  show W p l e rmX8_best s m ([.ref (G.2.1 0), .int a0]).toArray below meth c s.heap [] 0 0 (MQ below (nb_Qi G xm_sh Z ro σo) ([.ref (G.2.1 0), .int a0]).toArray s 0 0 (nb_A xm_sh G.2.1)) (F0 m 0 ls [])
  generalize hargs : ([.ref (G.2.1 0), .int a0] : List Value).toArray = args at hts ⊢
  unfold fX8_best at hf
  obtain ⟨H, eH⟩ : ∃ H, H = s.heap := ⟨_, rfl⟩
  obtain ⟨locs, eL⟩ : ∃ L : List Loc, L = [] := ⟨_, rfl⟩
  have hW : nb_W G xm_sh s.heap σ H locs := by rw [eH, eL]; exact hW
  suffices hgo : W p l e rmX8_best s m args below meth c H locs 0 0 (MQ below (nb_Qi G xm_sh Z ro σo) args s 0 0 (nb_A xm_sh G.2.1)) (F0 m 0 ls []) by rw [eH, eL] at hgo; exact hgo
  clear eH eL
  refine lv_iload_n hx hb dX8_best_0 rfl (lv_at hl 1 rfl) ?_
  refine lv_i2l hx hb dX8_best_1 rfl ?_
  refine lv_lconst (v := (0 : Int64)) hx hb dX8_best_2 (by decide) ?_
  refine lv_lconst (v := (1 : Int64)) hx hb dX8_best_3 (by decide) ?_
  obtain ⟨r2, hc1, hf⟩ := nb_b_e hf
  refine nb_ci hW (va_runS (As := [.long ((a0).toInt64), .long (0 : Int64), .long (1 : Int64)]) (rest := []) ⟨hx, hb, hml, hown, hts⟩ (c_X8_in l hinj hZo (N := N) hc1 ) (va_cwS 3 hts (xg_S tw5_9 tw5_10 tw1_10 tw5_11) rfl rfl rfl (by decide +kernel) ⟨Nat.le_of_ble_eq_true rfl, Nat.le_of_ble_eq_true rfl⟩) (nb_preS hK hZ hZo hW) rfl rfl hl.1 rfl (lv_room (Nat.le_of_ble_eq_true rfl)) dX8_best_4 ⟨Nat.zero_le _, Nat.zero_le _⟩) (fun H locs hW => ?_)
  refine lv_if_ne (tgt := 12) hx hb dX8_best_7 (by decide) (fun c3 => ?_) (fun c3 => ?_)
  · rw [if_neg c3] at hf
    refine lv_iconst (v := (0 : Int32)) hx hb dX8_best_12 (by decide) ?_
    refine lv_istore_n (lv' := [(2, .int (0 : Int32)), (0, .ref (G.2.1 0)), (1, .int a0)]) hx hb dX8_best_13 rfl hl (by decide) rfl (fun ls hl => ?_)
    refine lv_aload_n hx hb dX8_best_14 rfl (lv_at hl 1 rfl) ?_
    refine lv_iconst (v := (0 : Int32)) hx hb dX8_best_15 (by decide) ?_
    obtain ⟨r5, σ6, hc4, hf⟩ := nb_b2_e hf
    refine nb_ci hW (va_runV (As := [.int (0 : Int32)]) (rest := []) ⟨hx, hb, hml, hown, hts⟩ (c_X8_bellOf l hinj hZo (N := N) hc4 ) (cwV 1 hts (xg_V tw5_168 tw5_170 tp3_9 tw1_10 tw5_171) rfl rfl rfl (by decide +kernel) ⟨Nat.le_of_ble_eq_true rfl, Nat.le_of_ble_eq_true rfl⟩) (nb_preV hK hZ hZo hW (k := 0) rfl rfl) rfl rfl hl.1 rfl (lv_room (Nat.le_of_ble_eq_true rfl)) dX8_best_16 ⟨Nat.zero_le _, Nat.zero_le _⟩) (fun H locs hW => ?_)
    refine lv_istore_n (lv' := [(3, .int r5), (2, .int (0 : Int32)), (0, .ref (G.2.1 0)), (1, .int a0)]) hx hb dX8_best_19 rfl hl (by decide) rfl (fun ls hl => ?_)
    refine lv_bipush (v := (10 : Int32)) hx hb dX8_best_20 (by decide) ?_
    refine lv_istore (lv' := [(4, .int (10 : Int32)), (3, .int r5), (2, .int (0 : Int32)), (0, .ref (G.2.1 0)), (1, .int a0)]) hx hb dX8_best_22 hl (by decide) rfl (fun ls hl => ?_)
    refine nb_w4 (P := fun (x7 : Int32) (x8 : Int32) (x9 : Int32) (σ10 : nb_St) => ∀ (H : Heap) (locs : List Loc) (ls : Array Slot), nb_W G xm_sh s.heap σ10 H locs → lv_has ls 6 [(0, .ref (G.2.1 0)), (1, .int a0), (2, .int x7), (3, .int x8), (4, .int x9)] → W p l e rmX8_best s m args below meth c H locs 0 0 (MQ below (nb_Qi G xm_sh Z ro σo) args s 0 0 (nb_A xm_sh G.2.1)) (F0 m 24 ls [])) ?_ N _ _ _ _ hf H locs ls hW (lv_sub hl [3, 4, 2, 1, 0] rfl)
    intro ag11 ih12 x7 x8 x9 σ10 hf H locs ls hW hl
    refine lv_iload hx hb dX8_best_24 (lv_at hl 4 rfl) ?_
    refine lv_sipush (v := (350 : Int32)) hx hb dX8_best_26 (by decide) ?_
    refine lv_icmp_gt (tgt := 72) hx hb dX8_best_29 (by decide) (fun c13 => ?_) (fun c13 => ?_)
    · rw [if_pos c13] at hf
      refine lv_iload_n hx hb dX8_best_72 rfl (lv_at hl 1 rfl) ?_
      refine lv_if_ne (tgt := 80) hx hb dX8_best_73 (by decide) (fun c14 => ?_) (fun c14 => ?_)
      · rw [if_neg c14] at hf
        refine lv_iload_n hx hb dX8_best_80 rfl (lv_at hl 3 rfl) ?_
        exact nb_ri hx hb hr hlocks hK hZ hZo hW  hf dX8_best_81
      · rw [if_pos c14] at hf
        refine lv_iload_n hx hb dX8_best_76 rfl (lv_at hl 2 rfl) ?_
        refine lv_goto (tgt := 81) hx hb dX8_best_77 (by decide) ?_
        exact nb_ri hx hb hr hlocks hK hZ hZo hW  hf dX8_best_81
    · rw [if_neg c13] at hf
      refine lv_aload_n hx hb dX8_best_32 rfl (lv_at hl 0 rfl) ?_
      refine lv_iload hx hb dX8_best_33 (lv_at hl 4 rfl) ?_
      obtain ⟨r16, σ17, hc15, hf⟩ := nb_b2_e hf
      refine nb_ci hW (va_runV (As := [.int x9]) (rest := []) ⟨hx, hb, hml, hown, hts⟩ (c_X8_bellOf l hinj hZo (N := N) hc15 ) (cwV 1 hts (xg_V tw5_168 tw5_170 tp3_9 tw1_10 tw5_171) rfl rfl rfl (by decide +kernel) ⟨Nat.le_of_ble_eq_true rfl, Nat.le_of_ble_eq_true rfl⟩) (nb_preV hK hZ hZo hW (k := 0) rfl rfl) rfl rfl hl.1 rfl (lv_room (Nat.le_of_ble_eq_true rfl)) dX8_best_35 ⟨Nat.zero_le _, Nat.zero_le _⟩) (fun H locs hW => ?_)
      refine lv_istore (lv' := [(5, .int r16), (0, .ref (G.2.1 0)), (1, .int a0), (2, .int x7), (3, .int x8), (4, .int x9)]) hx hb dX8_best_38 hl (by decide) rfl (fun ls hl => ?_)
      refine lv_iload hx hb dX8_best_40 (lv_at hl 0 rfl) ?_
      refine lv_iload_n hx hb dX8_best_42 rfl (lv_at hl 4 rfl) ?_
      obtain ⟨k18, ek18, hf⟩ := nb_let_e hf
      have w19 : ∀ (v20 : Int32) (H : Heap) (locs : List Loc) (ls : Array Slot), k18 v20 = some (ro, σo) → nb_W G xm_sh s.heap σ17 H locs → lv_has ls 6 [(0, .ref (G.2.1 0)), (1, .int a0), (3, .int x8), (4, .int x9), (5, .int r16)] → W p l e rmX8_best s m args below meth c H locs 0 0 (MQ below (nb_Qi G xm_sh Z ro σo) args s 0 0 (nb_A xm_sh G.2.1)) (F0 m 52 ls [.int v20]) := by
        intro v20 H locs ls hf hW hl
        have hf := (congrFun ek18 v20).symm.trans hf
        refine lv_istore_n (lv' := [(2, .int v20), (0, .ref (G.2.1 0)), (1, .int a0), (3, .int x8), (4, .int x9), (5, .int r16)]) hx hb dX8_best_52 rfl hl (by decide) rfl (fun ls hl => ?_)
        refine lv_iload hx hb dX8_best_53 (lv_at hl 5 rfl) ?_
        refine lv_iload_n hx hb dX8_best_55 rfl (lv_at hl 3 rfl) ?_
        obtain ⟨k21, ek21, hf⟩ := nb_let_e hf
        have w22 : ∀ (v23 : Int32) (H : Heap) (locs : List Loc) (ls : Array Slot), k21 v23 = some (ro, σo) → nb_W G xm_sh s.heap σ17 H locs → lv_has ls 6 [(0, .ref (G.2.1 0)), (1, .int a0), (2, .int v20), (4, .int x9)] → W p l e rmX8_best s m args below meth c H locs 0 0 (MQ below (nb_Qi G xm_sh Z ro σo) args s 0 0 (nb_A xm_sh G.2.1)) (F0 m 65 ls [.int v23]) := by
          intro v23 H locs ls hf hW hl
          have hf := (congrFun ek21 v23).symm.trans hf
          refine lv_istore_n (lv' := [(3, .int v23), (0, .ref (G.2.1 0)), (1, .int a0), (2, .int v20), (4, .int x9)]) hx hb dX8_best_65 rfl hl (by decide) rfl (fun ls hl => ?_)
          refine lv_iinc (v := (x9 + 10)) (lv' := [(4, .int (x9 + 10)), (3, .int v23), (0, .ref (G.2.1 0)), (1, .int a0), (2, .int v20)]) hx hb dX8_best_66 hl (k := 4) rfl rfl (by decide) rfl (fun ls hl => ?_)
          refine lv_goto (tgt := 24) hx hb dX8_best_69 (by decide) ?_
          exact ih12 _ _ _ _ hf _ _ _ hW (lv_sub hl [2, 3, 4, 1, 0] rfl)
        clear ek21
        refine lv_icmp_ge (tgt := 64) hx hb dX8_best_56 (by decide) (fun c24 => ?_) (fun c24 => ?_)
        · rw [if_pos c24] at hf
          refine lv_iload_n hx hb dX8_best_64 rfl (lv_at hl 3 rfl) ?_
          exact w22 _ _ _ _ hf hW (lv_sub hl [1, 2, 0, 4] rfl)
        · rw [if_neg c24] at hf
          refine lv_iload hx hb dX8_best_59 (lv_at hl 5 rfl) ?_
          refine lv_goto (tgt := 65) hx hb dX8_best_61 (by decide) ?_
          exact w22 _ _ _ _ hf hW (lv_sub hl [1, 2, 0, 4] rfl)
      clear ek18
      refine lv_icmp_ge (tgt := 51) hx hb dX8_best_43 (by decide) (fun c25 => ?_) (fun c25 => ?_)
      · rw [if_pos c25] at hf
        refine lv_iload_n hx hb dX8_best_51 rfl (lv_at hl 3 rfl) ?_
        exact w19 _ _ _ _ hf hW (lv_sub hl [1, 2, 4, 5, 0] rfl)
      · rw [if_neg c25] at hf
        refine lv_iload hx hb dX8_best_46 (lv_at hl 5 rfl) ?_
        refine lv_goto (tgt := 52) hx hb dX8_best_48 (by decide) ?_
        exact w19 _ _ _ _ hf hW (lv_sub hl [1, 2, 4, 5, 0] rfl)
  · rw [if_pos c3] at hf
    refine lv_iconst (v := (-1 : Int32)) hx hb dX8_best_10 (by decide) ?_
    exact nb_ri hx hb hr hlocks hK hZ hZo hW  hf dX8_best_11
def fX8_givenBy (N : Nat) (σ : nb_St) (a0 : Int32) : Option (Int32 × nb_St) :=
  nb_b (fX8_asItIs N σ) fun σ2 =>
  nb_g (nb_in (0 : Int32) 2) (
  nb_let ((σ2 7 (nb_ix (0 : Int32))) - (1 : Int32)) fun x4 =>
  nb_lp4 (R := (Int32 × nb_St)) (fun ag9 (x5 : Int32) (x6 : Int32) (x7 : Int32) (σ8 : nb_St) =>
  (if x7 < 0 then
  nb_b (fX8_goEvening N σ8) fun σ13 =>
  nb_b (fX8_allWasted N σ13) fun r15 =>
  some ((x6 + r15), σ13)
  else
  nb_let (fun (v18 : Int32) =>
  nb_g (nb_in x7 3) (
  nb_let (nb_st σ8 26 (nb_ix x7) v18) fun σ20 =>
  nb_let (fun (v23 : Int32) =>
  nb_let (x6 + v23) fun x24 =>
  nb_let (x5 / (13 : Int32)) fun x25 =>
  ag9 x25 x24 (x7 + (-1)) σ20) fun k21 =>
  (if (nb_rem x5 (13 : Int32)) = 0 then
  k21 (0 : Int32)
  else
  nb_g (nb_in x7 6) (
  k21 (σ20 9 (nb_ix x7)))))) fun k16 =>
  (if (nb_rem x5 (13 : Int32)) = 0 then
  k16 (-4 : Int32)
  else
  k16 ((30 : Int32) * ((nb_rem x5 (13 : Int32)) - (1 : Int32)))))) N a0 (0 : Int32) x4 σ2)
def rmX8_givenBy : Room := { frames := 5, cells := 0, slots := 0, locals := 125 }
def vsX8_givenBy : List Cond := .code yX8_givenBy cX8_givenBy 5 (some .int) :: xT
set_option maxHeartbeats 4000000 in
set_option maxRecDepth 100000 in
theorem c_X8_givenBy (l : Launch) {G : nb_G} {Z : State → Heap → Prop} (hinj : nb_inj xm_sh G.2.1) (hZo : nb_Zok (nb_A xm_sh G.2.1) Z) {N : Nat} {σ : nb_St} {a0 : Int32} {ro : Int32} {σo : nb_St} (hf : fX8_givenBy N σ a0 = some (ro, σo))  : Met l yX8_givenBy vsX8_givenBy rmX8_givenBy (nb_Pc G xm_sh Z σ [.ref (G.2.1 0), .int a0]) (nb_Qi G xm_sh Z ro σo) 0 0 (nb_A xm_sh G.2.1) := by
  refine Met.ofW (cc := cX8_givenBy) (maxL := 5) (ret := (some .int)) (by decide) rfl ?_
  intro p e s m args below meth c s₁ B hml hv
  obtain ⟨rfl, hP, hK, hZ⟩ := hv
  have hx := B.exec
  have hb := B.bytes
  have hr := B.returns
  have hts : ∀ w ∈ xT, w.before _ s = true := fun w h9 => atoms_spec (ws := vsX8_givenBy) B.pre w (List.mem_cons_of_mem _ h9)
  have hown : s.vm.findClass RX8 = some m.cls := findClass_of_methodNamed B.named
  have hlocks := B.notSynchronized
  have hW : nb_W G xm_sh s.heap σ s.heap [] := ⟨hP, va_S.rf⟩
  have hl := lv_entry ([.ref (G.2.1 0), .int a0]) (n := 5) (Nat.le_of_ble_eq_true rfl)
  rw [lg_entry_eq]
  generalize (lg_sl ([.ref (G.2.1 0), .int a0]) ++ List.replicate (5 - (lg_sl ([.ref (G.2.1 0), .int a0])).length) Slot.unset).toArray = ls at hl ⊢
  have hl : lv_has ls 5 [(0, .ref (G.2.1 0)), (1, .int a0)] := hl
  show W p l e rmX8_givenBy s m ([.ref (G.2.1 0), .int a0]).toArray below meth c s.heap [] 0 0 (MQ below (nb_Qi G xm_sh Z ro σo) ([.ref (G.2.1 0), .int a0]).toArray s 0 0 (nb_A xm_sh G.2.1)) (F0 m 0 ls [])
  generalize hargs : ([.ref (G.2.1 0), .int a0] : List Value).toArray = args at hts ⊢
  unfold fX8_givenBy at hf
  obtain ⟨H, eH⟩ : ∃ H, H = s.heap := ⟨_, rfl⟩
  obtain ⟨locs, eL⟩ : ∃ L : List Loc, L = [] := ⟨_, rfl⟩
  have hW : nb_W G xm_sh s.heap σ H locs := by rw [eH, eL]; exact hW
  suffices hgo : W p l e rmX8_givenBy s m args below meth c H locs 0 0 (MQ below (nb_Qi G xm_sh Z ro σo) args s 0 0 (nb_A xm_sh G.2.1)) (F0 m 0 ls []) by rw [eH, eL] at hgo; exact hgo
  clear eH eL
  refine lv_aload_n hx hb dX8_givenBy_0 rfl (lv_at hl 0 rfl) ?_
  obtain ⟨σ2, hc1, hf⟩ := nb_b_e hf
  refine nb_cv hW (va_runV (As := []) (rest := []) ⟨hx, hb, hml, hown, hts⟩ (c_X8_asItIs l hinj hZo (N := N) hc1 ) (cwV 0 hts (xg_V tw5_81 tw5_83 tp2_14 tw1_10 tw5_84) rfl rfl rfl (by decide +kernel) ⟨Nat.le_of_ble_eq_true rfl, Nat.le_of_ble_eq_true rfl⟩) (nb_preV hK hZ hZo hW (k := 0) rfl rfl) rfl rfl hl.1 rfl (lv_room (Nat.le_of_ble_eq_true rfl)) dX8_givenBy_1 ⟨Nat.zero_le _, Nat.zero_le _⟩) (fun H locs hW => ?_)
  refine lv_iload_n hx hb dX8_givenBy_4 rfl (lv_at hl 1 rfl) ?_
  refine lv_istore_n (lv' := [(2, .int a0), (0, .ref (G.2.1 0)), (1, .int a0)]) hx hb dX8_givenBy_5 rfl hl (by decide) rfl (fun ls hl => ?_)
  refine lv_iconst (v := (0 : Int32)) hx hb dX8_givenBy_6 (by decide) ?_
  refine lv_istore_n (lv' := [(3, .int (0 : Int32)), (2, .int a0), (0, .ref (G.2.1 0)), (1, .int a0)]) hx hb dX8_givenBy_7 rfl hl (by decide) rfl (fun ls hl => ?_)
  refine lv_aload_n hx hb dX8_givenBy_8 rfl (lv_at hl 2 rfl) ?_
  refine nb_get (C := RX8) (T := TX8) (N := 40) hx hb hts inT_X8 hown hK hW 0 rfl rfl 7 (by decide) (hts _ tw4_130) (fun _ h9 => h9) rfl (v := .ref (G.2.1 7)) rfl dX8_givenBy_9 ?_
  refine lv_iconst (v := (0 : Int32)) hx hb dX8_givenBy_12 (by decide) ?_
  obtain ⟨g3, hf⟩ := nb_g_e hf
  refine nb_iald hx hb hK hW 7 rfl g3 dX8_givenBy_13 ?_
  refine lv_iconst (v := (1 : Int32)) hx hb dX8_givenBy_14 (by decide) ?_
  refine lv_isub hx hb dX8_givenBy_15 ?_
  obtain ⟨x4, ex4, hf⟩ := nb_let_e hf
  refine nb_nami ex4 ?_
  refine lv_istore (lv' := [(4, .int x4), (3, .int (0 : Int32)), (2, .int a0), (0, .ref (G.2.1 0)), (1, .int a0)]) hx hb dX8_givenBy_16 hl (by decide) rfl (fun ls hl => ?_)
  refine nb_w4 (P := fun (x5 : Int32) (x6 : Int32) (x7 : Int32) (σ8 : nb_St) => ∀ (H : Heap) (locs : List Loc) (ls : Array Slot), nb_W G xm_sh s.heap σ8 H locs → lv_has ls 5 [(0, .ref (G.2.1 0)), (2, .int x5), (3, .int x6), (4, .int x7)] → W p l e rmX8_givenBy s m args below meth c H locs 0 0 (MQ below (nb_Qi G xm_sh Z ro σo) args s 0 0 (nb_A xm_sh G.2.1)) (F0 m 18 ls [])) ?_ N _ _ _ _ hf H locs ls hW (lv_sub hl [3, 2, 1, 0] rfl)
  intro ag9 ih10 x5 x6 x7 σ8 hf H locs ls hW hl
  refine lv_iload hx hb dX8_givenBy_18 (lv_at hl 3 rfl) ?_
  refine lv_if_lt (tgt := 83) hx hb dX8_givenBy_20 (by decide) (fun c11 => ?_) (fun c11 => ?_)
  · rw [if_pos c11] at hf
    refine lv_aload_n hx hb dX8_givenBy_83 rfl (lv_at hl 0 rfl) ?_
    obtain ⟨σ13, hc12, hf⟩ := nb_b_e hf
    refine nb_cv hW (va_runV (As := []) (rest := []) ⟨hx, hb, hml, hown, hts⟩ (c_X8_goEvening l hinj hZo (N := N) hc12 ) (cwV 0 hts (xg_V tw5_85 tw5_87 tp2_15 tw1_10 tw5_88) rfl rfl rfl (by decide +kernel) ⟨Nat.le_of_ble_eq_true rfl, Nat.le_of_ble_eq_true rfl⟩) (nb_preV hK hZ hZo hW (k := 0) rfl rfl) rfl rfl hl.1 rfl (lv_room (Nat.le_of_ble_eq_true rfl)) dX8_givenBy_84 ⟨Nat.zero_le _, Nat.zero_le _⟩) (fun H locs hW => ?_)
    refine lv_iload_n hx hb dX8_givenBy_87 rfl (lv_at hl 2 rfl) ?_
    refine lv_aload_n hx hb dX8_givenBy_88 rfl (lv_at hl 0 rfl) ?_
    obtain ⟨r15, hc14, hf⟩ := nb_b_e hf
    refine nb_ci hW (va_runV (As := []) (rest := [.int x6]) ⟨hx, hb, hml, hown, hts⟩ (c_X8_allWasted l hinj hZo (N := N) hc14 ) (cwV 0 hts (xg_V tw5_140 tw5_142 tp3_6 tw1_10 tw5_143) rfl rfl rfl (by decide +kernel) ⟨Nat.le_of_ble_eq_true rfl, Nat.le_of_ble_eq_true rfl⟩) (nb_preV hK hZ hZo hW (k := 0) rfl rfl) rfl rfl hl.1 rfl (lv_room (Nat.le_of_ble_eq_true rfl)) dX8_givenBy_89 ⟨Nat.zero_le _, Nat.zero_le _⟩) (fun H locs hW => ?_)
    refine lv_iadd hx hb dX8_givenBy_92 ?_
    exact nb_ri hx hb hr hlocks hK hZ hZo hW  hf dX8_givenBy_93
  · rw [if_neg c11] at hf
    refine lv_aload_n hx hb dX8_givenBy_23 rfl (lv_at hl 0 rfl) ?_
    refine nb_get (C := RX8) (T := TX8) (N := 40) hx hb hts inT_X8 hown hK hW 0 rfl rfl 33 (by decide) (hts _ tw4_156) (fun _ h9 => h9) rfl (v := .ref (G.2.1 26)) rfl dX8_givenBy_24 ?_
    refine lv_iload hx hb dX8_givenBy_27 (lv_at hl 3 rfl) ?_
    refine lv_iload_n hx hb dX8_givenBy_29 rfl (lv_at hl 1 rfl) ?_
    refine lv_bipush (v := (13 : Int32)) hx hb dX8_givenBy_30 (by decide) ?_
    refine nb_irem hx hb dX8_givenBy_32 (by decide) ?_
    obtain ⟨k16, ek16, hf⟩ := nb_let_e hf
    have w17 : ∀ (v18 : Int32) (H : Heap) (locs : List Loc) (ls : Array Slot), k16 v18 = some (ro, σo) → nb_W G xm_sh s.heap σ8 H locs → lv_has ls 5 [(0, .ref (G.2.1 0)), (2, .int x5), (3, .int x6), (4, .int x7)] → W p l e rmX8_givenBy s m args below meth c H locs 0 0 (MQ below (nb_Qi G xm_sh Z ro σo) args s 0 0 (nb_A xm_sh G.2.1)) (F0 m 50 ls [.int v18, .int x7, .ref (G.2.1 26)]) := by
      intro v18 H locs ls hf hW hl
      have hf := (congrFun ek16 v18).symm.trans hf
      obtain ⟨g19, hf⟩ := nb_g_e hf
      obtain ⟨σ20, eσ20, hf⟩ := nb_let_e hf
      refine nb_iast hx hb hK hinj hW 26 rfl g19 eσ20 dX8_givenBy_50 (fun H locs hW => ?_)
      refine lv_iload_n hx hb dX8_givenBy_51 rfl (lv_at hl 2 rfl) ?_
      refine lv_iload_n hx hb dX8_givenBy_52 rfl (lv_at hl 1 rfl) ?_
      refine lv_bipush (v := (13 : Int32)) hx hb dX8_givenBy_53 (by decide) ?_
      refine nb_irem hx hb dX8_givenBy_55 (by decide) ?_
      obtain ⟨k21, ek21, hf⟩ := nb_let_e hf
      have w22 : ∀ (v23 : Int32) (H : Heap) (locs : List Loc) (ls : Array Slot), k21 v23 = some (ro, σo) → nb_W G xm_sh s.heap σ20 H locs → lv_has ls 5 [(0, .ref (G.2.1 0)), (2, .int x5), (4, .int x7)] → W p l e rmX8_givenBy s m args below meth c H locs 0 0 (MQ below (nb_Qi G xm_sh Z ro σo) args s 0 0 (nb_A xm_sh G.2.1)) (F0 m 70 ls [.int v23, .int x6]) := by
        intro v23 H locs ls hf hW hl
        have hf := (congrFun ek21 v23).symm.trans hf
        refine lv_iadd hx hb dX8_givenBy_70 ?_
        obtain ⟨x24, ex24, hf⟩ := nb_let_e hf
        refine nb_nami ex24 ?_
        refine lv_istore_n (lv' := [(3, .int x24), (0, .ref (G.2.1 0)), (2, .int x5), (4, .int x7)]) hx hb dX8_givenBy_71 rfl hl (by decide) rfl (fun ls hl => ?_)
        refine lv_iload_n hx hb dX8_givenBy_72 rfl (lv_at hl 2 rfl) ?_
        refine lv_bipush (v := (13 : Int32)) hx hb dX8_givenBy_73 (by decide) ?_
        refine lv_idiv hx hb dX8_givenBy_75 (by decide) ?_
        obtain ⟨x25, ex25, hf⟩ := nb_let_e hf
        refine nb_nami ex25 ?_
        refine lv_istore_n (lv' := [(2, .int x25), (3, .int x24), (0, .ref (G.2.1 0)), (4, .int x7)]) hx hb dX8_givenBy_76 rfl hl (by decide) rfl (fun ls hl => ?_)
        refine lv_iinc (v := (x7 + (-1))) (lv' := [(4, .int (x7 + (-1))), (2, .int x25), (3, .int x24), (0, .ref (G.2.1 0))]) hx hb dX8_givenBy_77 hl (k := 3) rfl rfl (by decide) rfl (fun ls hl => ?_)
        refine lv_goto (tgt := 18) hx hb dX8_givenBy_80 (by decide) ?_
        exact ih10 _ _ _ _ hf _ _ _ hW (lv_sub hl [3, 1, 2, 0] rfl)
      clear ek21
      refine lv_if_ne (tgt := 63) hx hb dX8_givenBy_56 (by decide) (fun c26 => ?_) (fun c26 => ?_)
      · rw [if_neg c26] at hf
        refine lv_aload_n hx hb dX8_givenBy_63 rfl (lv_at hl 0 rfl) ?_
        refine nb_get (C := RX8) (T := TX8) (N := 40) hx hb hts inT_X8 hown hK hW 0 rfl rfl 9 (by decide) (hts _ tw4_132) (fun _ h9 => h9) rfl (v := .ref (G.2.1 9)) rfl dX8_givenBy_64 ?_
        refine lv_iload hx hb dX8_givenBy_67 (lv_at hl 3 rfl) ?_
        obtain ⟨g27, hf⟩ := nb_g_e hf
        refine nb_iald hx hb hK hW 9 rfl g27 dX8_givenBy_69 ?_
        exact w22 _ _ _ _ hf hW (lv_sub hl [0, 1, 3] rfl)
      · rw [if_pos c26] at hf
        refine lv_iconst (v := (0 : Int32)) hx hb dX8_givenBy_59 (by decide) ?_
        refine lv_goto (tgt := 70) hx hb dX8_givenBy_60 (by decide) ?_
        exact w22 _ _ _ _ hf hW (lv_sub hl [0, 1, 3] rfl)
    clear ek16
    refine lv_if_ne (tgt := 41) hx hb dX8_givenBy_33 (by decide) (fun c28 => ?_) (fun c28 => ?_)
    · rw [if_neg c28] at hf
      refine lv_bipush (v := (30 : Int32)) hx hb dX8_givenBy_41 (by decide) ?_
      refine lv_iload_n hx hb dX8_givenBy_43 rfl (lv_at hl 1 rfl) ?_
      refine lv_bipush (v := (13 : Int32)) hx hb dX8_givenBy_44 (by decide) ?_
      refine nb_irem hx hb dX8_givenBy_46 (by decide) ?_
      refine lv_iconst (v := (1 : Int32)) hx hb dX8_givenBy_47 (by decide) ?_
      refine lv_isub hx hb dX8_givenBy_48 ?_
      refine lv_imul hx hb dX8_givenBy_49 ?_
      exact w17 _ _ _ _ hf hW (lv_sub hl [0, 1, 2, 3] rfl)
    · rw [if_pos c28] at hf
      refine lv_bipush (v := (-4 : Int32)) hx hb dX8_givenBy_36 (by decide) ?_
      refine lv_goto (tgt := 50) hx hb dX8_givenBy_38 (by decide) ?_
      exact w17 _ _ _ _ hf hW (lv_sub hl [0, 1, 2, 3] rfl)
def fX8_given (N : Nat) (σ : nb_St) (a0 : Int32) : Option (Int32 × nb_St) :=
  nb_g (nb_in (0 : Int32) 2) (
  nb_b (fX8_in N σ ((a0).toInt64) (-1 : Int64) ((((σ 7 (nb_ix (0 : Int32))) - (1 : Int32))).toInt64)) fun r3 =>
  (if r3 = 0 then
  some ((-1 : Int32), σ)
  else
  nb_g (nb_in (0 : Int32) 2) (
  nb_let (fun (v8 : Int32) =>
  nb_b2 (fX8_givenBy N σ (0 : Int32)) fun r10 σ11 =>
  nb_lp4 (R := (Int32 × nb_St)) (fun ag16 (x12 : Int32) (x13 : Int32) (x14 : Int32) (σ15 : nb_St) =>
  (if v8 ≤ x14 then
  nb_b2 (fX8_givenBy N σ15 x12) fun r20 σ21 =>
  (if 0 ≤ a0 then
  nb_g (nb_in a0 3) (
  some ((σ21 26 (nb_ix a0)), σ21))
  else
  some (x13, σ21))
  else
  nb_b2 (fX8_givenBy N σ15 x14) fun r25 σ26 =>
  nb_let (fun (v29 : Int32) =>
  nb_let (fun (v32 : Int32) =>
  ag16 v29 v32 (x14 + 1) σ26) fun k30 =>
  (if x13 ≤ r25 then
  k30 x13
  else
  k30 r25)) fun k27 =>
  (if x13 ≤ r25 then
  k27 x12
  else
  k27 x14))) N (0 : Int32) r10 (1 : Int32) σ11) fun k6 =>
  (if (σ 7 (nb_ix (0 : Int32))) = 0 then
  k6 (1 : Int32)
  else
  nb_g (nb_in (0 : Int32) 2) (
  (if (σ 7 (nb_ix (0 : Int32))) = (1 : Int32) then
  k6 (13 : Int32)
  else
  nb_g (nb_in (0 : Int32) 2) (
  (if (σ 7 (nb_ix (0 : Int32))) = (2 : Int32) then
  k6 (169 : Int32)
  else
  k6 (2197 : Int32)))))))))
def rmX8_given : Room := { frames := 6, cells := 0, slots := 0, locals := 149 }
def vsX8_given : List Cond := .code yX8_given cX8_given 7 (some .int) :: xT
set_option maxHeartbeats 4000000 in
set_option maxRecDepth 100000 in
theorem c_X8_given (l : Launch) {G : nb_G} {Z : State → Heap → Prop} (hinj : nb_inj xm_sh G.2.1) (hZo : nb_Zok (nb_A xm_sh G.2.1) Z) {N : Nat} {σ : nb_St} {a0 : Int32} {ro : Int32} {σo : nb_St} (hf : fX8_given N σ a0 = some (ro, σo))  : Met l yX8_given vsX8_given rmX8_given (nb_Pc G xm_sh Z σ [.ref (G.2.1 0), .int a0]) (nb_Qi G xm_sh Z ro σo) 0 0 (nb_A xm_sh G.2.1) := by
  refine Met.ofW (cc := cX8_given) (maxL := 7) (ret := (some .int)) (by decide) rfl ?_
  intro p e s m args below meth c s₁ B hml hv
  obtain ⟨rfl, hP, hK, hZ⟩ := hv
  have hx := B.exec
  have hb := B.bytes
  have hr := B.returns
  have hts : ∀ w ∈ xT, w.before _ s = true := fun w h9 => atoms_spec (ws := vsX8_given) B.pre w (List.mem_cons_of_mem _ h9)
  have hown : s.vm.findClass RX8 = some m.cls := findClass_of_methodNamed B.named
  have hlocks := B.notSynchronized
  have hW : nb_W G xm_sh s.heap σ s.heap [] := ⟨hP, va_S.rf⟩
  have hl := lv_entry ([.ref (G.2.1 0), .int a0]) (n := 7) (Nat.le_of_ble_eq_true rfl)
  rw [lg_entry_eq]
  generalize (lg_sl ([.ref (G.2.1 0), .int a0]) ++ List.replicate (7 - (lg_sl ([.ref (G.2.1 0), .int a0])).length) Slot.unset).toArray = ls at hl ⊢
  have hl : lv_has ls 7 [(0, .ref (G.2.1 0)), (1, .int a0)] := hl
  show W p l e rmX8_given s m ([.ref (G.2.1 0), .int a0]).toArray below meth c s.heap [] 0 0 (MQ below (nb_Qi G xm_sh Z ro σo) ([.ref (G.2.1 0), .int a0]).toArray s 0 0 (nb_A xm_sh G.2.1)) (F0 m 0 ls [])
  generalize hargs : ([.ref (G.2.1 0), .int a0] : List Value).toArray = args at hts ⊢
  unfold fX8_given at hf
  obtain ⟨H, eH⟩ : ∃ H, H = s.heap := ⟨_, rfl⟩
  obtain ⟨locs, eL⟩ : ∃ L : List Loc, L = [] := ⟨_, rfl⟩
  have hW : nb_W G xm_sh s.heap σ H locs := by rw [eH, eL]; exact hW
  suffices hgo : W p l e rmX8_given s m args below meth c H locs 0 0 (MQ below (nb_Qi G xm_sh Z ro σo) args s 0 0 (nb_A xm_sh G.2.1)) (F0 m 0 ls []) by rw [eH, eL] at hgo; exact hgo
  clear eH eL
  refine lv_iload_n hx hb dX8_given_0 rfl (lv_at hl 1 rfl) ?_
  refine lv_i2l hx hb dX8_given_1 rfl ?_
  refine lv_ldc2 (own := RX8) (v := (-1 : Int64)) hx hb hown (hts _ tw5_180) dX8_given_2 ?_
  refine lv_aload_n hx hb dX8_given_5 rfl (lv_at hl 0 rfl) ?_
  refine nb_get (C := RX8) (T := TX8) (N := 40) hx hb hts inT_X8 hown hK hW 0 rfl rfl 7 (by decide) (hts _ tw4_130) (fun _ h9 => h9) rfl (v := .ref (G.2.1 7)) rfl dX8_given_6 ?_
  refine lv_iconst (v := (0 : Int32)) hx hb dX8_given_9 (by decide) ?_
  obtain ⟨g1, hf⟩ := nb_g_e hf
  refine nb_iald hx hb hK hW 7 rfl g1 dX8_given_10 ?_
  refine lv_iconst (v := (1 : Int32)) hx hb dX8_given_11 (by decide) ?_
  refine lv_isub hx hb dX8_given_12 ?_
  refine lv_i2l hx hb dX8_given_13 rfl ?_
  obtain ⟨r3, hc2, hf⟩ := nb_b_e hf
  refine nb_ci hW (va_runS (As := [.long ((a0).toInt64), .long (-1 : Int64), .long ((((σ 7 (nb_ix (0 : Int32))) - (1 : Int32))).toInt64)]) (rest := []) ⟨hx, hb, hml, hown, hts⟩ (c_X8_in l hinj hZo (N := N) hc2 ) (va_cwS 3 hts (xg_S tw5_9 tw5_10 tw1_10 tw5_11) rfl rfl rfl (by decide +kernel) ⟨Nat.le_of_ble_eq_true rfl, Nat.le_of_ble_eq_true rfl⟩) (nb_preS hK hZ hZo hW) rfl rfl hl.1 rfl (lv_room (Nat.le_of_ble_eq_true rfl)) dX8_given_14 ⟨Nat.zero_le _, Nat.zero_le _⟩) (fun H locs hW => ?_)
  refine lv_if_ne (tgt := 22) hx hb dX8_given_17 (by decide) (fun c4 => ?_) (fun c4 => ?_)
  · rw [if_neg c4] at hf
    refine lv_aload_n hx hb dX8_given_22 rfl (lv_at hl 0 rfl) ?_
    refine nb_get (C := RX8) (T := TX8) (N := 40) hx hb hts inT_X8 hown hK hW 0 rfl rfl 7 (by decide) (hts _ tw4_130) (fun _ h9 => h9) rfl (v := .ref (G.2.1 7)) rfl dX8_given_23 ?_
    refine lv_iconst (v := (0 : Int32)) hx hb dX8_given_26 (by decide) ?_
    obtain ⟨g5, hf⟩ := nb_g_e hf
    refine nb_iald hx hb hK hW 7 rfl g5 dX8_given_27 ?_
    obtain ⟨k6, ek6, hf⟩ := nb_let_e hf
    have w7 : ∀ (v8 : Int32) (H : Heap) (locs : List Loc) (ls : Array Slot), k6 v8 = some (ro, σo) → nb_W G xm_sh s.heap σ H locs → lv_has ls 7 [(0, .ref (G.2.1 0)), (1, .int a0)] → W p l e rmX8_given s m args below meth c H locs 0 0 (MQ below (nb_Qi G xm_sh Z ro σo) args s 0 0 (nb_A xm_sh G.2.1)) (F0 m 69 ls [.int v8]) := by
      intro v8 H locs ls hf hW hl
      have hf := (congrFun ek6 v8).symm.trans hf
      refine lv_istore_n (lv' := [(2, .int v8), (0, .ref (G.2.1 0)), (1, .int a0)]) hx hb dX8_given_69 rfl hl (by decide) rfl (fun ls hl => ?_)
      refine lv_iconst (v := (0 : Int32)) hx hb dX8_given_70 (by decide) ?_
      refine lv_istore_n (lv' := [(3, .int (0 : Int32)), (2, .int v8), (0, .ref (G.2.1 0)), (1, .int a0)]) hx hb dX8_given_71 rfl hl (by decide) rfl (fun ls hl => ?_)
      refine lv_aload_n hx hb dX8_given_72 rfl (lv_at hl 2 rfl) ?_
      refine lv_iconst (v := (0 : Int32)) hx hb dX8_given_73 (by decide) ?_
      obtain ⟨r10, σ11, hc9, hf⟩ := nb_b2_e hf
      refine nb_ci hW (va_runV (As := [.int (0 : Int32)]) (rest := []) ⟨hx, hb, hml, hown, hts⟩ (c_X8_givenBy l hinj hZo (N := N) hc9 ) (cwV 1 hts (xg_V tw5_181 tw5_183 tp3_10 tw1_10 tw5_184) rfl rfl rfl (by decide +kernel) ⟨Nat.le_of_ble_eq_true rfl, Nat.le_of_ble_eq_true rfl⟩) (nb_preV hK hZ hZo hW (k := 0) rfl rfl) rfl rfl hl.1 rfl (lv_room (Nat.le_of_ble_eq_true rfl)) dX8_given_74 ⟨Nat.zero_le _, Nat.zero_le _⟩) (fun H locs hW => ?_)
      refine lv_istore (lv' := [(4, .int r10), (3, .int (0 : Int32)), (2, .int v8), (0, .ref (G.2.1 0)), (1, .int a0)]) hx hb dX8_given_77 hl (by decide) rfl (fun ls hl => ?_)
      refine lv_iconst (v := (1 : Int32)) hx hb dX8_given_79 (by decide) ?_
      refine lv_istore (lv' := [(5, .int (1 : Int32)), (4, .int r10), (3, .int (0 : Int32)), (2, .int v8), (0, .ref (G.2.1 0)), (1, .int a0)]) hx hb dX8_given_80 hl (by decide) rfl (fun ls hl => ?_)
      refine nb_w4 (P := fun (x12 : Int32) (x13 : Int32) (x14 : Int32) (σ15 : nb_St) => ∀ (H : Heap) (locs : List Loc) (ls : Array Slot), nb_W G xm_sh s.heap σ15 H locs → lv_has ls 7 [(0, .ref (G.2.1 0)), (1, .int a0), (2, .int v8), (3, .int x12), (4, .int x13), (5, .int x14)] → W p l e rmX8_given s m args below meth c H locs 0 0 (MQ below (nb_Qi G xm_sh Z ro σo) args s 0 0 (nb_A xm_sh G.2.1)) (F0 m 82 ls [])) ?_ N _ _ _ _ hf H locs ls hW (lv_sub hl [4, 5, 3, 2, 1, 0] rfl)
      intro ag16 ih17 x12 x13 x14 σ15 hf H locs ls hW hl
      refine lv_iload hx hb dX8_given_82 (lv_at hl 5 rfl) ?_
      refine lv_iload_n hx hb dX8_given_84 rfl (lv_at hl 2 rfl) ?_
      refine lv_icmp_ge (tgt := 132) hx hb dX8_given_85 (by decide) (fun c18 => ?_) (fun c18 => ?_)
      · rw [if_pos c18] at hf
        refine lv_aload_n hx hb dX8_given_132 rfl (lv_at hl 0 rfl) ?_
        refine lv_iload_n hx hb dX8_given_133 rfl (lv_at hl 3 rfl) ?_
        obtain ⟨r20, σ21, hc19, hf⟩ := nb_b2_e hf
        refine nb_ci hW (va_runV (As := [.int x12]) (rest := []) ⟨hx, hb, hml, hown, hts⟩ (c_X8_givenBy l hinj hZo (N := N) hc19 ) (cwV 1 hts (xg_V tw5_181 tw5_183 tp3_10 tw1_10 tw5_184) rfl rfl rfl (by decide +kernel) ⟨Nat.le_of_ble_eq_true rfl, Nat.le_of_ble_eq_true rfl⟩) (nb_preV hK hZ hZo hW (k := 0) rfl rfl) rfl rfl hl.1 rfl (lv_room (Nat.le_of_ble_eq_true rfl)) dX8_given_134 ⟨Nat.zero_le _, Nat.zero_le _⟩) (fun H locs hW => ?_)
        refine lv_pop hx hb dX8_given_137 rfl ?_
        refine lv_iload_n hx hb dX8_given_138 rfl (lv_at hl 1 rfl) ?_
        refine lv_if_ge (tgt := 147) hx hb dX8_given_139 (by decide) (fun c22 => ?_) (fun c22 => ?_)
        · rw [if_pos c22] at hf
          refine lv_aload_n hx hb dX8_given_147 rfl (lv_at hl 0 rfl) ?_
          refine nb_get (C := RX8) (T := TX8) (N := 40) hx hb hts inT_X8 hown hK hW 0 rfl rfl 33 (by decide) (hts _ tw4_156) (fun _ h9 => h9) rfl (v := .ref (G.2.1 26)) rfl dX8_given_148 ?_
          refine lv_iload_n hx hb dX8_given_151 rfl (lv_at hl 1 rfl) ?_
          obtain ⟨g23, hf⟩ := nb_g_e hf
          refine nb_iald hx hb hK hW 26 rfl g23 dX8_given_152 ?_
          exact nb_ri hx hb hr hlocks hK hZ hZo hW  hf dX8_given_153
        · rw [if_neg c22] at hf
          refine lv_iload hx hb dX8_given_142 (lv_at hl 4 rfl) ?_
          refine lv_goto (tgt := 153) hx hb dX8_given_144 (by decide) ?_
          exact nb_ri hx hb hr hlocks hK hZ hZo hW  hf dX8_given_153
      · rw [if_neg c18] at hf
        refine lv_aload_n hx hb dX8_given_88 rfl (lv_at hl 0 rfl) ?_
        refine lv_iload hx hb dX8_given_89 (lv_at hl 5 rfl) ?_
        obtain ⟨r25, σ26, hc24, hf⟩ := nb_b2_e hf
        refine nb_ci hW (va_runV (As := [.int x14]) (rest := []) ⟨hx, hb, hml, hown, hts⟩ (c_X8_givenBy l hinj hZo (N := N) hc24 ) (cwV 1 hts (xg_V tw5_181 tw5_183 tp3_10 tw1_10 tw5_184) rfl rfl rfl (by decide +kernel) ⟨Nat.le_of_ble_eq_true rfl, Nat.le_of_ble_eq_true rfl⟩) (nb_preV hK hZ hZo hW (k := 0) rfl rfl) rfl rfl hl.1 rfl (lv_room (Nat.le_of_ble_eq_true rfl)) dX8_given_91 ⟨Nat.zero_le _, Nat.zero_le _⟩) (fun H locs hW => ?_)
        refine lv_istore (lv' := [(6, .int r25), (0, .ref (G.2.1 0)), (1, .int a0), (2, .int v8), (3, .int x12), (4, .int x13), (5, .int x14)]) hx hb dX8_given_94 hl (by decide) rfl (fun ls hl => ?_)
        refine lv_iload hx hb dX8_given_96 (lv_at hl 0 rfl) ?_
        refine lv_iload hx hb dX8_given_98 (lv_at hl 5 rfl) ?_
        obtain ⟨k27, ek27, hf⟩ := nb_let_e hf
        have w28 : ∀ (v29 : Int32) (H : Heap) (locs : List Loc) (ls : Array Slot), k27 v29 = some (ro, σo) → nb_W G xm_sh s.heap σ26 H locs → lv_has ls 7 [(0, .ref (G.2.1 0)), (1, .int a0), (2, .int v8), (4, .int x13), (5, .int x14), (6, .int r25)] → W p l e rmX8_given s m args below meth c H locs 0 0 (MQ below (nb_Qi G xm_sh Z ro σo) args s 0 0 (nb_A xm_sh G.2.1)) (F0 m 109 ls [.int v29]) := by
          intro v29 H locs ls hf hW hl
          have hf := (congrFun ek27 v29).symm.trans hf
          refine lv_istore_n (lv' := [(3, .int v29), (0, .ref (G.2.1 0)), (1, .int a0), (2, .int v8), (4, .int x13), (5, .int x14), (6, .int r25)]) hx hb dX8_given_109 rfl hl (by decide) rfl (fun ls hl => ?_)
          refine lv_iload hx hb dX8_given_110 (lv_at hl 6 rfl) ?_
          refine lv_iload hx hb dX8_given_112 (lv_at hl 4 rfl) ?_
          obtain ⟨k30, ek30, hf⟩ := nb_let_e hf
          have w31 : ∀ (v32 : Int32) (H : Heap) (locs : List Loc) (ls : Array Slot), k30 v32 = some (ro, σo) → nb_W G xm_sh s.heap σ26 H locs → lv_has ls 7 [(0, .ref (G.2.1 0)), (1, .int a0), (2, .int v8), (3, .int v29), (5, .int x14)] → W p l e rmX8_given s m args below meth c H locs 0 0 (MQ below (nb_Qi G xm_sh Z ro σo) args s 0 0 (nb_A xm_sh G.2.1)) (F0 m 124 ls [.int v32]) := by
            intro v32 H locs ls hf hW hl
            have hf := (congrFun ek30 v32).symm.trans hf
            refine lv_istore (lv' := [(4, .int v32), (0, .ref (G.2.1 0)), (1, .int a0), (2, .int v8), (3, .int v29), (5, .int x14)]) hx hb dX8_given_124 hl (by decide) rfl (fun ls hl => ?_)
            refine lv_iinc (v := (x14 + 1)) (lv' := [(5, .int (x14 + 1)), (4, .int v32), (0, .ref (G.2.1 0)), (1, .int a0), (2, .int v8), (3, .int v29)]) hx hb dX8_given_126 hl (k := 5) rfl rfl (by decide) rfl (fun ls hl => ?_)
            refine lv_goto (tgt := 82) hx hb dX8_given_129 (by decide) ?_
            exact ih17 _ _ _ _ hf _ _ _ hW (lv_sub hl [2, 3, 4, 5, 1, 0] rfl)
          clear ek30
          refine lv_icmp_ge (tgt := 122) hx hb dX8_given_114 (by decide) (fun c33 => ?_) (fun c33 => ?_)
          · rw [if_pos c33] at hf
            refine lv_iload hx hb dX8_given_122 (lv_at hl 4 rfl) ?_
            exact w31 _ _ _ _ hf hW (lv_sub hl [1, 2, 3, 0, 5] rfl)
          · rw [if_neg c33] at hf
            refine lv_iload hx hb dX8_given_117 (lv_at hl 6 rfl) ?_
            refine lv_goto (tgt := 124) hx hb dX8_given_119 (by decide) ?_
            exact w31 _ _ _ _ hf hW (lv_sub hl [1, 2, 3, 0, 5] rfl)
        clear ek27
        refine lv_icmp_ge (tgt := 108) hx hb dX8_given_100 (by decide) (fun c34 => ?_) (fun c34 => ?_)
        · rw [if_pos c34] at hf
          refine lv_iload_n hx hb dX8_given_108 rfl (lv_at hl 4 rfl) ?_
          exact w28 _ _ _ _ hf hW (lv_sub hl [1, 2, 3, 5, 6, 0] rfl)
        · rw [if_neg c34] at hf
          refine lv_iload hx hb dX8_given_103 (lv_at hl 6 rfl) ?_
          refine lv_goto (tgt := 109) hx hb dX8_given_105 (by decide) ?_
          exact w28 _ _ _ _ hf hW (lv_sub hl [1, 2, 3, 5, 6, 0] rfl)
    clear ek6
    refine lv_if_ne (tgt := 35) hx hb dX8_given_28 (by decide) (fun c35 => ?_) (fun c35 => ?_)
    · rw [if_neg c35] at hf
      refine lv_aload_n hx hb dX8_given_35 rfl (lv_at hl 0 rfl) ?_
      refine nb_get (C := RX8) (T := TX8) (N := 40) hx hb hts inT_X8 hown hK hW 0 rfl rfl 7 (by decide) (hts _ tw4_130) (fun _ h9 => h9) rfl (v := .ref (G.2.1 7)) rfl dX8_given_36 ?_
      refine lv_iconst (v := (0 : Int32)) hx hb dX8_given_39 (by decide) ?_
      obtain ⟨g36, hf⟩ := nb_g_e hf
      refine nb_iald hx hb hK hW 7 rfl g36 dX8_given_40 ?_
      refine lv_iconst (v := (1 : Int32)) hx hb dX8_given_41 (by decide) ?_
      refine lv_icmp_ne (tgt := 50) hx hb dX8_given_42 (by decide) (fun c37 => ?_) (fun c37 => ?_)
      · rw [if_neg c37] at hf
        refine lv_aload_n hx hb dX8_given_50 rfl (lv_at hl 0 rfl) ?_
        refine nb_get (C := RX8) (T := TX8) (N := 40) hx hb hts inT_X8 hown hK hW 0 rfl rfl 7 (by decide) (hts _ tw4_130) (fun _ h9 => h9) rfl (v := .ref (G.2.1 7)) rfl dX8_given_51 ?_
        refine lv_iconst (v := (0 : Int32)) hx hb dX8_given_54 (by decide) ?_
        obtain ⟨g38, hf⟩ := nb_g_e hf
        refine nb_iald hx hb hK hW 7 rfl g38 dX8_given_55 ?_
        refine lv_iconst (v := (2 : Int32)) hx hb dX8_given_56 (by decide) ?_
        refine lv_icmp_ne (tgt := 66) hx hb dX8_given_57 (by decide) (fun c39 => ?_) (fun c39 => ?_)
        · rw [if_neg c39] at hf
          refine lv_sipush (v := (2197 : Int32)) hx hb dX8_given_66 (by decide) ?_
          exact w7 _ _ _ _ hf hW (lv_sub hl [0, 1] rfl)
        · rw [if_pos c39] at hf
          refine lv_sipush (v := (169 : Int32)) hx hb dX8_given_60 (by decide) ?_
          refine lv_goto (tgt := 69) hx hb dX8_given_63 (by decide) ?_
          exact w7 _ _ _ _ hf hW (lv_sub hl [0, 1] rfl)
      · rw [if_pos c37] at hf
        refine lv_bipush (v := (13 : Int32)) hx hb dX8_given_45 (by decide) ?_
        refine lv_goto (tgt := 69) hx hb dX8_given_47 (by decide) ?_
        exact w7 _ _ _ _ hf hW (lv_sub hl [0, 1] rfl)
    · rw [if_pos c35] at hf
      refine lv_iconst (v := (1 : Int32)) hx hb dX8_given_31 (by decide) ?_
      refine lv_goto (tgt := 69) hx hb dX8_given_32 (by decide) ?_
      exact w7 _ _ _ _ hf hW (lv_sub hl [0, 1] rfl)
  · rw [if_pos c4] at hf
    refine lv_iconst (v := (-1 : Int32)) hx hb dX8_given_20 (by decide) ?_
    exact nb_ri hx hb hr hlocks hK hZ hZo hW  hf dX8_given_21
def fX8_layGame (N : Nat) (σ : nb_St)  : Option nb_St :=
  nb_let (nb_st σ 0 36 (0 : Int32)) fun σ1 =>
  nb_lp2 (R := nb_St) (fun ag4 (x2 : Int32) (σ3 : nb_St) =>
  (if (4 : Int32) ≤ x2 then
  some σ3
  else
  nb_lp3 (R := nb_St) (fun ag10 (x7 : Int32) (x8 : Int32) (x9 : Int32) =>
  nb_g (nb_in (0 : Int32) 2) (
  (if (σ3 2 (nb_ix (0 : Int32))) ≤ x9 then
  nb_let (fun (σ16 : nb_St) =>
  ag4 (x2 + 1) σ16) fun k14 =>
  (if x7 < 0 then
  k14 σ3
  else
  nb_g (nb_in (σ3 0 36) 4) (
  nb_let (nb_st σ3 29 (nb_ix (σ3 0 36)) x7) fun σ19 =>
  nb_g (nb_in (σ19 0 36) 4) (
  nb_let (nb_st σ19 30 (nb_ix (σ19 0 36)) x8) fun σ21 =>
  nb_let (nb_st σ21 0 36 ((σ21 0 36) + (1 : Int32))) fun σ22 =>
  k14 σ22)))
  else
  nb_g (nb_in x9 16) (
  nb_let (fun (v26 : Int32) =>
  nb_g (nb_in x9 16) (
  nb_let (fun (v30 : Int32) =>
  ag10 v26 v30 (x9 + 1)) fun k28 =>
  nb_let (fun (_u : Unit) =>
  k28 x8) fun k31 =>
  (if (σ3 3 (nb_ix x9)) = x2 then
  nb_g (nb_in x9 16) (
  (if (σ3 5 (nb_ix x9)) ≤ x8 then
  k31 ()
  else
  nb_g (nb_in x9 16) (
  k28 (σ3 5 (nb_ix x9)))))
  else
  k31 ()))) fun k24 =>
  nb_let (fun (_u : Unit) =>
  k24 x7) fun k37 =>
  (if (σ3 3 (nb_ix x9)) = x2 then
  nb_g (nb_in x9 16) (
  (if (σ3 4 (nb_ix x9)) ≤ x7 then
  k37 ()
  else
  nb_g (nb_in x9 16) (
  k24 (σ3 4 (nb_ix x9)))))
  else
  k37 ()))))) N (-4 : Int32) (-4 : Int32) (0 : Int32))) N (0 : Int32) σ1
def rmX8_layGame : Room := { frames := 0, cells := 0, slots := 0, locals := 0 }
def vsX8_layGame : List Cond := .code yX8_layGame cX8_layGame 5 none :: xT
set_option maxHeartbeats 4000000 in
set_option maxRecDepth 100000 in
theorem c_X8_layGame (l : Launch) {G : nb_G} {Z : State → Heap → Prop} (hinj : nb_inj xm_sh G.2.1) (hZo : nb_Zok (nb_A xm_sh G.2.1) Z) {N : Nat} {σ : nb_St}  {σo : nb_St} (hf : fX8_layGame N σ = some σo)  : Met l yX8_layGame vsX8_layGame rmX8_layGame (nb_Pc G xm_sh Z σ [.ref (G.2.1 0)]) (nb_Qv G xm_sh Z σo) 0 0 (nb_A xm_sh G.2.1) := by
  refine Met.ofW (cc := cX8_layGame) (maxL := 5) (ret := none) (by decide) rfl ?_
  intro p e s m args below meth c s₁ B hml hv
  obtain ⟨rfl, hP, hK, hZ⟩ := hv
  have hx := B.exec
  have hb := B.bytes
  have hr := B.returns
  have hts : ∀ w ∈ xT, w.before _ s = true := fun w h9 => atoms_spec (ws := vsX8_layGame) B.pre w (List.mem_cons_of_mem _ h9)
  have hown : s.vm.findClass RX8 = some m.cls := findClass_of_methodNamed B.named
  have hlocks := B.notSynchronized
  have hW : nb_W G xm_sh s.heap σ s.heap [] := ⟨hP, va_S.rf⟩
  have hl := lv_entry ([.ref (G.2.1 0)]) (n := 5) (Nat.le_of_ble_eq_true rfl)
  rw [lg_entry_eq]
  generalize (lg_sl ([.ref (G.2.1 0)]) ++ List.replicate (5 - (lg_sl ([.ref (G.2.1 0)])).length) Slot.unset).toArray = ls at hl ⊢
  have hl : lv_has ls 5 [(0, .ref (G.2.1 0))] := hl
  show W p l e rmX8_layGame s m ([.ref (G.2.1 0)]).toArray below meth c s.heap [] 0 0 (MQ below (nb_Qv G xm_sh Z σo) ([.ref (G.2.1 0)]).toArray s 0 0 (nb_A xm_sh G.2.1)) (F0 m 0 ls [])
  generalize hargs : ([.ref (G.2.1 0)] : List Value).toArray = args at hts ⊢
  unfold fX8_layGame at hf
  obtain ⟨H, eH⟩ : ∃ H, H = s.heap := ⟨_, rfl⟩
  obtain ⟨locs, eL⟩ : ∃ L : List Loc, L = [] := ⟨_, rfl⟩
  have hW : nb_W G xm_sh s.heap σ H locs := by rw [eH, eL]; exact hW
  suffices hgo : W p l e rmX8_layGame s m args below meth c H locs 0 0 (MQ below (nb_Qv G xm_sh Z σo) args s 0 0 (nb_A xm_sh G.2.1)) (F0 m 0 ls []) by rw [eH, eL] at hgo; exact hgo
  clear eH eL
  refine lv_aload_n hx hb dX8_layGame_0 rfl (lv_at hl 0 rfl) ?_
  refine lv_iconst (v := (0 : Int32)) hx hb dX8_layGame_1 (by decide) ?_
  obtain ⟨σ1, eσ1, hf⟩ := nb_let_e hf
  refine nb_put (C := RX8) (T := TX8) (N := 40) hx hb hts inT_X8 hown hK tyX8 tyX8_ok nmX8 hinj hW 0 rfl rfl 36 (by decide) (hts _ tw4_159) (fun _ h9 => h9) rfl (ty := .int) (by decide +kernel) rfl rfl rfl (x := (0 : Int32)) (by show Value.int _ = _; rw [nb_st_s]) eσ1 dX8_layGame_2 (fun H locs hW => ?_)
  refine lv_iconst (v := (0 : Int32)) hx hb dX8_layGame_5 (by decide) ?_
  refine lv_istore_n (lv' := [(1, .int (0 : Int32)), (0, .ref (G.2.1 0))]) hx hb dX8_layGame_6 rfl hl (by decide) rfl (fun ls hl => ?_)
  refine nb_w2 (P := fun (x2 : Int32) (σ3 : nb_St) => ∀ (H : Heap) (locs : List Loc) (ls : Array Slot), nb_W G xm_sh s.heap σ3 H locs → lv_has ls 5 [(0, .ref (G.2.1 0)), (1, .int x2)] → W p l e rmX8_layGame s m args below meth c H locs 0 0 (MQ below (nb_Qv G xm_sh Z σo) args s 0 0 (nb_A xm_sh G.2.1)) (F0 m 7 ls [])) ?_ N _ _ hf H locs ls hW (lv_sub hl [1, 0] rfl)
  intro ag4 ih5 x2 σ3 hf H locs ls hW hl
  refine lv_iload_n hx hb dX8_layGame_7 rfl (lv_at hl 1 rfl) ?_
  refine lv_iconst (v := (4 : Int32)) hx hb dX8_layGame_8 (by decide) ?_
  refine lv_icmp_ge (tgt := 146) hx hb dX8_layGame_9 (by decide) (fun c6 => ?_) (fun c6 => ?_)
  · rw [if_pos c6] at hf
    exact nb_rv hx hb hr hlocks hK hZ hZo hW hf dX8_layGame_146
  · rw [if_neg c6] at hf
    refine lv_bipush (v := (-4 : Int32)) hx hb dX8_layGame_12 (by decide) ?_
    refine lv_istore_n (lv' := [(2, .int (-4 : Int32)), (0, .ref (G.2.1 0)), (1, .int x2)]) hx hb dX8_layGame_14 rfl hl (by decide) rfl (fun ls hl => ?_)
    refine lv_bipush (v := (-4 : Int32)) hx hb dX8_layGame_15 (by decide) ?_
    refine lv_istore_n (lv' := [(3, .int (-4 : Int32)), (2, .int (-4 : Int32)), (0, .ref (G.2.1 0)), (1, .int x2)]) hx hb dX8_layGame_17 rfl hl (by decide) rfl (fun ls hl => ?_)
    refine lv_iconst (v := (0 : Int32)) hx hb dX8_layGame_18 (by decide) ?_
    refine lv_istore (lv' := [(4, .int (0 : Int32)), (3, .int (-4 : Int32)), (2, .int (-4 : Int32)), (0, .ref (G.2.1 0)), (1, .int x2)]) hx hb dX8_layGame_19 hl (by decide) rfl (fun ls hl => ?_)
    refine nb_w3 (P := fun (x7 : Int32) (x8 : Int32) (x9 : Int32) => ∀ (H : Heap) (locs : List Loc) (ls : Array Slot), nb_W G xm_sh s.heap σ3 H locs → lv_has ls 5 [(0, .ref (G.2.1 0)), (1, .int x2), (2, .int x7), (3, .int x8), (4, .int x9)] → W p l e rmX8_layGame s m args below meth c H locs 0 0 (MQ below (nb_Qv G xm_sh Z σo) args s 0 0 (nb_A xm_sh G.2.1)) (F0 m 21 ls [])) ?_ N _ _ _ hf H locs ls hW (lv_sub hl [3, 4, 2, 1, 0] rfl)
    intro ag10 ih11 x7 x8 x9 hf H locs ls hW hl
    refine lv_iload hx hb dX8_layGame_21 (lv_at hl 4 rfl) ?_
    refine lv_aload_n hx hb dX8_layGame_23 rfl (lv_at hl 0 rfl) ?_
    refine nb_get (C := RX8) (T := TX8) (N := 40) hx hb hts inT_X8 hown hK hW 0 rfl rfl 2 (by decide) (hts _ tw4_125) (fun _ h9 => h9) rfl (v := .ref (G.2.1 2)) rfl dX8_layGame_24 ?_
    refine lv_iconst (v := (0 : Int32)) hx hb dX8_layGame_27 (by decide) ?_
    obtain ⟨g12, hf⟩ := nb_g_e hf
    refine nb_iald hx hb hK hW 2 rfl g12 dX8_layGame_28 ?_
    refine lv_icmp_ge (tgt := 106) hx hb dX8_layGame_29 (by decide) (fun c13 => ?_) (fun c13 => ?_)
    · rw [if_pos c13] at hf
      refine lv_iload_n hx hb dX8_layGame_106 rfl (lv_at hl 2 rfl) ?_
      obtain ⟨k14, ek14, hf⟩ := nb_let_e hf
      have w15 : ∀ (σ16 : nb_St) (H : Heap) (locs : List Loc) (ls : Array Slot), k14 σ16 = some σo → nb_W G xm_sh s.heap σ16 H locs → lv_has ls 5 [(0, .ref (G.2.1 0)), (1, .int x2)] → W p l e rmX8_layGame s m args below meth c H locs 0 0 (MQ below (nb_Qv G xm_sh Z σo) args s 0 0 (nb_A xm_sh G.2.1)) (F0 m 140 ls []) := by
        intro σ16 H locs ls hf hW hl
        have hf := (congrFun ek14 σ16).symm.trans hf
        refine lv_iinc (v := (x2 + 1)) (lv' := [(1, .int (x2 + 1)), (0, .ref (G.2.1 0))]) hx hb dX8_layGame_140 hl (k := 1) rfl rfl (by decide) rfl (fun ls hl => ?_)
        refine lv_goto (tgt := 7) hx hb dX8_layGame_143 (by decide) ?_
        exact ih5 _ _ hf _ _ _ hW (lv_sub hl [1, 0] rfl)
      clear ek14
      refine lv_if_lt (tgt := 140) hx hb dX8_layGame_107 (by decide) (fun c17 => ?_) (fun c17 => ?_)
      · rw [if_pos c17] at hf
        exact w15 _ _ _ _ hf hW (lv_sub hl [0, 1] rfl)
      · rw [if_neg c17] at hf
        refine lv_aload_n hx hb dX8_layGame_110 rfl (lv_at hl 0 rfl) ?_
        refine nb_get (C := RX8) (T := TX8) (N := 40) hx hb hts inT_X8 hown hK hW 0 rfl rfl 37 (by decide) (hts _ tw4_160) (fun _ h9 => h9) rfl (v := .ref (G.2.1 29)) rfl dX8_layGame_111 ?_
        refine lv_aload_n hx hb dX8_layGame_114 rfl (lv_at hl 0 rfl) ?_
        refine nb_get (C := RX8) (T := TX8) (N := 40) hx hb hts inT_X8 hown hK hW 0 rfl rfl 36 (by decide) (hts _ tw4_159) (fun _ h9 => h9) rfl (v := .int (σ3 0 36)) rfl dX8_layGame_115 ?_
        refine lv_iload_n hx hb dX8_layGame_118 rfl (lv_at hl 2 rfl) ?_
        obtain ⟨g18, hf⟩ := nb_g_e hf
        obtain ⟨σ19, eσ19, hf⟩ := nb_let_e hf
        refine nb_iast hx hb hK hinj hW 29 rfl g18 eσ19 dX8_layGame_119 (fun H locs hW => ?_)
        refine lv_aload_n hx hb dX8_layGame_120 rfl (lv_at hl 0 rfl) ?_
        refine nb_get (C := RX8) (T := TX8) (N := 40) hx hb hts inT_X8 hown hK hW 0 rfl rfl 38 (by decide) (hts _ tw4_161) (fun _ h9 => h9) rfl (v := .ref (G.2.1 30)) rfl dX8_layGame_121 ?_
        refine lv_aload_n hx hb dX8_layGame_124 rfl (lv_at hl 0 rfl) ?_
        refine nb_get (C := RX8) (T := TX8) (N := 40) hx hb hts inT_X8 hown hK hW 0 rfl rfl 36 (by decide) (hts _ tw4_159) (fun _ h9 => h9) rfl (v := .int (σ19 0 36)) rfl dX8_layGame_125 ?_
        refine lv_iload_n hx hb dX8_layGame_128 rfl (lv_at hl 3 rfl) ?_
        obtain ⟨g20, hf⟩ := nb_g_e hf
        obtain ⟨σ21, eσ21, hf⟩ := nb_let_e hf
        refine nb_iast hx hb hK hinj hW 30 rfl g20 eσ21 dX8_layGame_129 (fun H locs hW => ?_)
        refine lv_aload_n hx hb dX8_layGame_130 rfl (lv_at hl 0 rfl) ?_
        refine lv_dup hx hb dX8_layGame_131 rfl ?_
        refine nb_get (C := RX8) (T := TX8) (N := 40) hx hb hts inT_X8 hown hK hW 0 rfl rfl 36 (by decide) (hts _ tw4_159) (fun _ h9 => h9) rfl (v := .int (σ21 0 36)) rfl dX8_layGame_132 ?_
        refine lv_iconst (v := (1 : Int32)) hx hb dX8_layGame_135 (by decide) ?_
        refine lv_iadd hx hb dX8_layGame_136 ?_
        obtain ⟨σ22, eσ22, hf⟩ := nb_let_e hf
        refine nb_put (C := RX8) (T := TX8) (N := 40) hx hb hts inT_X8 hown hK tyX8 tyX8_ok nmX8 hinj hW 0 rfl rfl 36 (by decide) (hts _ tw4_159) (fun _ h9 => h9) rfl (ty := .int) (by decide +kernel) rfl rfl rfl (x := ((σ21 0 36) + (1 : Int32))) (by show Value.int _ = _; rw [nb_st_s]) eσ22 dX8_layGame_137 (fun H locs hW => ?_)
        exact w15 _ _ _ _ hf hW (lv_sub hl [0, 1] rfl)
    · rw [if_neg c13] at hf
      refine lv_aload_n hx hb dX8_layGame_32 rfl (lv_at hl 0 rfl) ?_
      refine nb_get (C := RX8) (T := TX8) (N := 40) hx hb hts inT_X8 hown hK hW 0 rfl rfl 3 (by decide) (hts _ tw4_126) (fun _ h9 => h9) rfl (v := .ref (G.2.1 3)) rfl dX8_layGame_33 ?_
      refine lv_iload hx hb dX8_layGame_36 (lv_at hl 4 rfl) ?_
      obtain ⟨g23, hf⟩ := nb_g_e hf
      refine nb_iald hx hb hK hW 3 rfl g23 dX8_layGame_38 ?_
      refine lv_iload_n hx hb dX8_layGame_39 rfl (lv_at hl 1 rfl) ?_
      obtain ⟨k24, ek24, hf⟩ := nb_let_e hf
      have w25 : ∀ (v26 : Int32) (H : Heap) (locs : List Loc) (ls : Array Slot), k24 v26 = some σo → nb_W G xm_sh s.heap σ3 H locs → lv_has ls 5 [(0, .ref (G.2.1 0)), (1, .int x2), (3, .int x8), (4, .int x9)] → W p l e rmX8_layGame s m args below meth c H locs 0 0 (MQ below (nb_Qv G xm_sh Z σo) args s 0 0 (nb_A xm_sh G.2.1)) (F0 m 65 ls [.int v26]) := by
        intro v26 H locs ls hf hW hl
        have hf := (congrFun ek24 v26).symm.trans hf
        refine lv_istore_n (lv' := [(2, .int v26), (0, .ref (G.2.1 0)), (1, .int x2), (3, .int x8), (4, .int x9)]) hx hb dX8_layGame_65 rfl hl (by decide) rfl (fun ls hl => ?_)
        refine lv_aload_n hx hb dX8_layGame_66 rfl (lv_at hl 1 rfl) ?_
        refine nb_get (C := RX8) (T := TX8) (N := 40) hx hb hts inT_X8 hown hK hW 0 rfl rfl 3 (by decide) (hts _ tw4_126) (fun _ h9 => h9) rfl (v := .ref (G.2.1 3)) rfl dX8_layGame_67 ?_
        refine lv_iload hx hb dX8_layGame_70 (lv_at hl 4 rfl) ?_
        obtain ⟨g27, hf⟩ := nb_g_e hf
        refine nb_iald hx hb hK hW 3 rfl g27 dX8_layGame_72 ?_
        refine lv_iload_n hx hb dX8_layGame_73 rfl (lv_at hl 2 rfl) ?_
        obtain ⟨k28, ek28, hf⟩ := nb_let_e hf
        have w29 : ∀ (v30 : Int32) (H : Heap) (locs : List Loc) (ls : Array Slot), k28 v30 = some σo → nb_W G xm_sh s.heap σ3 H locs → lv_has ls 5 [(0, .ref (G.2.1 0)), (1, .int x2), (2, .int v26), (4, .int x9)] → W p l e rmX8_layGame s m args below meth c H locs 0 0 (MQ below (nb_Qv G xm_sh Z σo) args s 0 0 (nb_A xm_sh G.2.1)) (F0 m 99 ls [.int v30]) := by
          intro v30 H locs ls hf hW hl
          have hf := (congrFun ek28 v30).symm.trans hf
          refine lv_istore_n (lv' := [(3, .int v30), (0, .ref (G.2.1 0)), (1, .int x2), (2, .int v26), (4, .int x9)]) hx hb dX8_layGame_99 rfl hl (by decide) rfl (fun ls hl => ?_)
          refine lv_iinc (v := (x9 + 1)) (lv' := [(4, .int (x9 + 1)), (3, .int v30), (0, .ref (G.2.1 0)), (1, .int x2), (2, .int v26)]) hx hb dX8_layGame_100 hl (k := 4) rfl rfl (by decide) rfl (fun ls hl => ?_)
          refine lv_goto (tgt := 21) hx hb dX8_layGame_103 (by decide) ?_
          exact ih11 _ _ _ hf _ _ _ hW (lv_sub hl [2, 3, 4, 1, 0] rfl)
        clear ek28
        obtain ⟨k31, ek31, hf⟩ := nb_let_e hf
        have w32 : ∀ (_u : Unit) (H : Heap) (locs : List Loc) (ls : Array Slot), k31 _u = some σo → nb_W G xm_sh s.heap σ3 H locs → lv_has ls 5 [(0, .ref (G.2.1 0)), (1, .int x2), (2, .int v26), (3, .int x8), (4, .int x9)] → W p l e rmX8_layGame s m args below meth c H locs 0 0 (MQ below (nb_Qv G xm_sh Z σo) args s 0 0 (nb_A xm_sh G.2.1)) (F0 m 98 ls []) := by
          intro _u H locs ls hf hW hl
          have hf := (congrFun ek31 _u).symm.trans hf
          refine lv_iload_n hx hb dX8_layGame_98 rfl (lv_at hl 3 rfl) ?_
          exact w29 _ _ _ _ hf hW (lv_sub hl [0, 1, 2, 4] rfl)
        clear ek31
        refine lv_icmp_ne (tgt := 98) hx hb dX8_layGame_74 (by decide) (fun c33 => ?_) (fun c33 => ?_)
        · rw [if_neg c33] at hf
          exact w32 ()  _ _ _ hf hW (lv_sub hl [1, 2, 0, 3, 4] rfl)
        · rw [if_pos c33] at hf
          refine lv_aload_n hx hb dX8_layGame_77 rfl (lv_at hl 1 rfl) ?_
          refine nb_get (C := RX8) (T := TX8) (N := 40) hx hb hts inT_X8 hown hK hW 0 rfl rfl 5 (by decide) (hts _ tw4_128) (fun _ h9 => h9) rfl (v := .ref (G.2.1 5)) rfl dX8_layGame_78 ?_
          refine lv_iload hx hb dX8_layGame_81 (lv_at hl 4 rfl) ?_
          obtain ⟨g34, hf⟩ := nb_g_e hf
          refine nb_iald hx hb hK hW 5 rfl g34 dX8_layGame_83 ?_
          refine lv_iload_n hx hb dX8_layGame_84 rfl (lv_at hl 3 rfl) ?_
          refine lv_icmp_le (tgt := 98) hx hb dX8_layGame_85 (by decide) (fun c35 => ?_) (fun c35 => ?_)
          · rw [if_pos c35] at hf
            exact w32 ()  _ _ _ hf hW (lv_sub hl [1, 2, 0, 3, 4] rfl)
          · rw [if_neg c35] at hf
            refine lv_aload_n hx hb dX8_layGame_88 rfl (lv_at hl 1 rfl) ?_
            refine nb_get (C := RX8) (T := TX8) (N := 40) hx hb hts inT_X8 hown hK hW 0 rfl rfl 5 (by decide) (hts _ tw4_128) (fun _ h9 => h9) rfl (v := .ref (G.2.1 5)) rfl dX8_layGame_89 ?_
            refine lv_iload hx hb dX8_layGame_92 (lv_at hl 4 rfl) ?_
            obtain ⟨g36, hf⟩ := nb_g_e hf
            refine nb_iald hx hb hK hW 5 rfl g36 dX8_layGame_94 ?_
            refine lv_goto (tgt := 99) hx hb dX8_layGame_95 (by decide) ?_
            exact w29 _ _ _ _ hf hW (lv_sub hl [1, 2, 0, 4] rfl)
      clear ek24
      obtain ⟨k37, ek37, hf⟩ := nb_let_e hf
      have w38 : ∀ (_u : Unit) (H : Heap) (locs : List Loc) (ls : Array Slot), k37 _u = some σo → nb_W G xm_sh s.heap σ3 H locs → lv_has ls 5 [(0, .ref (G.2.1 0)), (1, .int x2), (2, .int x7), (3, .int x8), (4, .int x9)] → W p l e rmX8_layGame s m args below meth c H locs 0 0 (MQ below (nb_Qv G xm_sh Z σo) args s 0 0 (nb_A xm_sh G.2.1)) (F0 m 64 ls []) := by
        intro _u H locs ls hf hW hl
        have hf := (congrFun ek37 _u).symm.trans hf
        refine lv_iload_n hx hb dX8_layGame_64 rfl (lv_at hl 2 rfl) ?_
        exact w25 _ _ _ _ hf hW (lv_sub hl [0, 1, 3, 4] rfl)
      clear ek37
      refine lv_icmp_ne (tgt := 64) hx hb dX8_layGame_40 (by decide) (fun c39 => ?_) (fun c39 => ?_)
      · rw [if_neg c39] at hf
        exact w38 ()  _ _ _ hf hW (lv_sub hl [0, 1, 2, 3, 4] rfl)
      · rw [if_pos c39] at hf
        refine lv_aload_n hx hb dX8_layGame_43 rfl (lv_at hl 0 rfl) ?_
        refine nb_get (C := RX8) (T := TX8) (N := 40) hx hb hts inT_X8 hown hK hW 0 rfl rfl 4 (by decide) (hts _ tw4_127) (fun _ h9 => h9) rfl (v := .ref (G.2.1 4)) rfl dX8_layGame_44 ?_
        refine lv_iload hx hb dX8_layGame_47 (lv_at hl 4 rfl) ?_
        obtain ⟨g40, hf⟩ := nb_g_e hf
        refine nb_iald hx hb hK hW 4 rfl g40 dX8_layGame_49 ?_
        refine lv_iload_n hx hb dX8_layGame_50 rfl (lv_at hl 2 rfl) ?_
        refine lv_icmp_le (tgt := 64) hx hb dX8_layGame_51 (by decide) (fun c41 => ?_) (fun c41 => ?_)
        · rw [if_pos c41] at hf
          exact w38 ()  _ _ _ hf hW (lv_sub hl [0, 1, 2, 3, 4] rfl)
        · rw [if_neg c41] at hf
          refine lv_aload_n hx hb dX8_layGame_54 rfl (lv_at hl 0 rfl) ?_
          refine nb_get (C := RX8) (T := TX8) (N := 40) hx hb hts inT_X8 hown hK hW 0 rfl rfl 4 (by decide) (hts _ tw4_127) (fun _ h9 => h9) rfl (v := .ref (G.2.1 4)) rfl dX8_layGame_55 ?_
          refine lv_iload hx hb dX8_layGame_58 (lv_at hl 4 rfl) ?_
          obtain ⟨g42, hf⟩ := nb_g_e hf
          refine nb_iald hx hb hK hW 4 rfl g42 dX8_layGame_60 ?_
          refine lv_goto (tgt := 65) hx hb dX8_layGame_61 (by decide) ?_
          exact w25 _ _ _ _ hf hW (lv_sub hl [0, 1, 3, 4] rfl)
def fX8_costOf (N : Nat) (σ : nb_St) (a0 : Int32) : Option Int32 :=
  nb_lp2 (R := Int32) (fun ag3 (x1 : Int32) (x2 : Int32) =>
  (if (σ 0 36) ≤ x2 then
  nb_g (nb_in a0 4) (
  nb_g (nb_in a0 4) (
  nb_b (fX8_away N σ ((180 : Int32) + ((30 : Int32) * (σ 31 (nb_ix a0)))) (σ 29 (nb_ix a0))) fun r9 =>
  nb_let (fun (v12 : Int32) =>
  some (r9 + v12)) fun k10 =>
  (if x1 = 0 then
  k10 (0 : Int32)
  else
  nb_g (nb_in a0 4) (
  k10 (σ 30 (nb_ix a0))))))
  else
  nb_let (fun (v17 : Int32) =>
  ag3 v17 (x2 + 1)) fun k15 =>
  nb_let (fun (_u : Unit) =>
  k15 (0 : Int32)) fun k18 =>
  (if x1 = 0 then
  k18 ()
  else
  nb_let (fun (_u : Unit) =>
  k15 (1 : Int32)) fun k21 =>
  (if x2 = a0 then
  k21 ()
  else
  nb_g (nb_in x2 4) (
  nb_g (nb_in a0 4) (
  (if (σ 31 (nb_ix x2)) ≤ (σ 31 (nb_ix a0)) then
  k18 ()
  else
  k21 ()))))))) N (1 : Int32) (0 : Int32)
def rmX8_costOf : Room := { frames := 1, cells := 0, slots := 0, locals := 21 }
def vsX8_costOf : List Cond := .code yX8_costOf cX8_costOf 4 (some .int) :: xT
set_option maxHeartbeats 4000000 in
set_option maxRecDepth 100000 in
theorem c_X8_costOf (l : Launch) {G : nb_G} {Z : State → Heap → Prop} (hinj : nb_inj xm_sh G.2.1) (hZo : nb_Zok (nb_A xm_sh G.2.1) Z) {N : Nat} {σ : nb_St} {a0 : Int32} {ro : Int32} (hf : fX8_costOf N σ a0 = some ro)  : Met l yX8_costOf vsX8_costOf rmX8_costOf (nb_Pc G xm_sh Z σ [.ref (G.2.1 0), .int a0]) (nb_Qi G xm_sh Z ro σ) 0 0 (nb_A xm_sh G.2.1) := by
  refine Met.ofW (cc := cX8_costOf) (maxL := 4) (ret := (some .int)) (by decide) rfl ?_
  intro p e s m args below meth c s₁ B hml hv
  obtain ⟨rfl, hP, hK, hZ⟩ := hv
  have hx := B.exec
  have hb := B.bytes
  have hr := B.returns
  have hts : ∀ w ∈ xT, w.before _ s = true := fun w h9 => atoms_spec (ws := vsX8_costOf) B.pre w (List.mem_cons_of_mem _ h9)
  have hown : s.vm.findClass RX8 = some m.cls := findClass_of_methodNamed B.named
  have hlocks := B.notSynchronized
  have hW : nb_W G xm_sh s.heap σ s.heap [] := ⟨hP, va_S.rf⟩
  have hl := lv_entry ([.ref (G.2.1 0), .int a0]) (n := 4) (Nat.le_of_ble_eq_true rfl)
  rw [lg_entry_eq]
  generalize (lg_sl ([.ref (G.2.1 0), .int a0]) ++ List.replicate (4 - (lg_sl ([.ref (G.2.1 0), .int a0])).length) Slot.unset).toArray = ls at hl ⊢
  have hl : lv_has ls 4 [(0, .ref (G.2.1 0)), (1, .int a0)] := hl
  show W p l e rmX8_costOf s m ([.ref (G.2.1 0), .int a0]).toArray below meth c s.heap [] 0 0 (MQ below (nb_Qi G xm_sh Z ro σ) ([.ref (G.2.1 0), .int a0]).toArray s 0 0 (nb_A xm_sh G.2.1)) (F0 m 0 ls [])
  generalize hargs : ([.ref (G.2.1 0), .int a0] : List Value).toArray = args at hts ⊢
  unfold fX8_costOf at hf
  obtain ⟨H, eH⟩ : ∃ H, H = s.heap := ⟨_, rfl⟩
  obtain ⟨locs, eL⟩ : ∃ L : List Loc, L = [] := ⟨_, rfl⟩
  have hW : nb_W G xm_sh s.heap σ H locs := by rw [eH, eL]; exact hW
  suffices hgo : W p l e rmX8_costOf s m args below meth c H locs 0 0 (MQ below (nb_Qi G xm_sh Z ro σ) args s 0 0 (nb_A xm_sh G.2.1)) (F0 m 0 ls []) by rw [eH, eL] at hgo; exact hgo
  clear eH eL
  refine lv_iconst (v := (1 : Int32)) hx hb dX8_costOf_0 (by decide) ?_
  refine lv_istore_n (lv' := [(2, .int (1 : Int32)), (0, .ref (G.2.1 0)), (1, .int a0)]) hx hb dX8_costOf_1 rfl hl (by decide) rfl (fun ls hl => ?_)
  refine lv_iconst (v := (0 : Int32)) hx hb dX8_costOf_2 (by decide) ?_
  refine lv_istore_n (lv' := [(3, .int (0 : Int32)), (2, .int (1 : Int32)), (0, .ref (G.2.1 0)), (1, .int a0)]) hx hb dX8_costOf_3 rfl hl (by decide) rfl (fun ls hl => ?_)
  refine nb_w2 (P := fun (x1 : Int32) (x2 : Int32) => ∀ (H : Heap) (locs : List Loc) (ls : Array Slot), nb_W G xm_sh s.heap σ H locs → lv_has ls 4 [(0, .ref (G.2.1 0)), (1, .int a0), (2, .int x1), (3, .int x2)] → W p l e rmX8_costOf s m args below meth c H locs 0 0 (MQ below (nb_Qi G xm_sh Z ro σ) args s 0 0 (nb_A xm_sh G.2.1)) (F0 m 4 ls [])) ?_ N _ _ hf H locs ls hW (lv_sub hl [2, 3, 1, 0] rfl)
  intro ag3 ih4 x1 x2 hf H locs ls hW hl
  refine lv_iload_n hx hb dX8_costOf_4 rfl (lv_at hl 3 rfl) ?_
  refine lv_aload_n hx hb dX8_costOf_5 rfl (lv_at hl 0 rfl) ?_
  refine nb_get (C := RX8) (T := TX8) (N := 40) hx hb hts inT_X8 hown hK hW 0 rfl rfl 36 (by decide) (hts _ tw4_159) (fun _ h9 => h9) rfl (v := .int (σ 0 36)) rfl dX8_costOf_6 ?_
  refine lv_icmp_ge (tgt := 48) hx hb dX8_costOf_9 (by decide) (fun c5 => ?_) (fun c5 => ?_)
  · rw [if_pos c5] at hf
    refine lv_sipush (v := (180 : Int32)) hx hb dX8_costOf_48 (by decide) ?_
    refine lv_bipush (v := (30 : Int32)) hx hb dX8_costOf_51 (by decide) ?_
    refine lv_aload_n hx hb dX8_costOf_53 rfl (lv_at hl 0 rfl) ?_
    refine nb_get (C := RX8) (T := TX8) (N := 40) hx hb hts inT_X8 hown hK hW 0 rfl rfl 39 (by decide) (hts _ tw4_162) (fun _ h9 => h9) rfl (v := .ref (G.2.1 31)) rfl dX8_costOf_54 ?_
    refine lv_iload_n hx hb dX8_costOf_57 rfl (lv_at hl 1 rfl) ?_
    obtain ⟨g6, hf⟩ := nb_g_e hf
    refine nb_iald hx hb hK hW 31 rfl g6 dX8_costOf_58 ?_
    refine lv_imul hx hb dX8_costOf_59 ?_
    refine lv_iadd hx hb dX8_costOf_60 ?_
    refine lv_aload_n hx hb dX8_costOf_61 rfl (lv_at hl 0 rfl) ?_
    refine nb_get (C := RX8) (T := TX8) (N := 40) hx hb hts inT_X8 hown hK hW 0 rfl rfl 37 (by decide) (hts _ tw4_160) (fun _ h9 => h9) rfl (v := .ref (G.2.1 29)) rfl dX8_costOf_62 ?_
    refine lv_iload_n hx hb dX8_costOf_65 rfl (lv_at hl 1 rfl) ?_
    obtain ⟨g7, hf⟩ := nb_g_e hf
    refine nb_iald hx hb hK hW 29 rfl g7 dX8_costOf_66 ?_
    obtain ⟨r9, hc8, hf⟩ := nb_b_e hf
    refine nb_ci hW (va_runS (As := [.int ((180 : Int32) + ((30 : Int32) * (σ 31 (nb_ix a0)))), .int (σ 29 (nb_ix a0))]) (rest := []) ⟨hx, hb, hml, hown, hts⟩ (c_X8_away l hinj hZo (N := N) hc8 ) (va_cwS 2 hts (xg_S tw5_148 tw5_149 tw1_10 tw5_150) rfl rfl rfl (by decide +kernel) ⟨Nat.le_of_ble_eq_true rfl, Nat.le_of_ble_eq_true rfl⟩) (nb_preS hK hZ hZo hW) rfl rfl hl.1 rfl (lv_room (Nat.le_of_ble_eq_true rfl)) dX8_costOf_67 ⟨Nat.zero_le _, Nat.zero_le _⟩) (fun H locs hW => ?_)
    refine lv_iload_n hx hb dX8_costOf_70 rfl (lv_at hl 2 rfl) ?_
    obtain ⟨k10, ek10, hf⟩ := nb_let_e hf
    have w11 : ∀ (v12 : Int32) (H : Heap) (locs : List Loc) (ls : Array Slot), k10 v12 = some ro → nb_W G xm_sh s.heap σ H locs → lv_has ls 4 [] → W p l e rmX8_costOf s m args below meth c H locs 0 0 (MQ below (nb_Qi G xm_sh Z ro σ) args s 0 0 (nb_A xm_sh G.2.1)) (F0 m 84 ls [.int v12, .int r9]) := by
      intro v12 H locs ls hf hW hl
      have hf := (congrFun ek10 v12).symm.trans hf
      refine lv_iadd hx hb dX8_costOf_84 ?_
      exact nb_rip hx hb hr hlocks hK hZ hZo hW  hf dX8_costOf_85
    clear ek10
    refine lv_if_eq (tgt := 83) hx hb dX8_costOf_71 (by decide) (fun c13 => ?_) (fun c13 => ?_)
    · rw [if_pos c13] at hf
      refine lv_iconst (v := (0 : Int32)) hx hb dX8_costOf_83 (by decide) ?_
      exact w11 _ _ _ _ hf hW (lv_sub hl [] rfl)
    · rw [if_neg c13] at hf
      refine lv_aload_n hx hb dX8_costOf_74 rfl (lv_at hl 0 rfl) ?_
      refine nb_get (C := RX8) (T := TX8) (N := 40) hx hb hts inT_X8 hown hK hW 0 rfl rfl 38 (by decide) (hts _ tw4_161) (fun _ h9 => h9) rfl (v := .ref (G.2.1 30)) rfl dX8_costOf_75 ?_
      refine lv_iload_n hx hb dX8_costOf_78 rfl (lv_at hl 1 rfl) ?_
      obtain ⟨g14, hf⟩ := nb_g_e hf
      refine nb_iald hx hb hK hW 30 rfl g14 dX8_costOf_79 ?_
      refine lv_goto (tgt := 84) hx hb dX8_costOf_80 (by decide) ?_
      exact w11 _ _ _ _ hf hW (lv_sub hl [] rfl)
  · rw [if_neg c5] at hf
    refine lv_iload_n hx hb dX8_costOf_12 rfl (lv_at hl 2 rfl) ?_
    obtain ⟨k15, ek15, hf⟩ := nb_let_e hf
    have w16 : ∀ (v17 : Int32) (H : Heap) (locs : List Loc) (ls : Array Slot), k15 v17 = some ro → nb_W G xm_sh s.heap σ H locs → lv_has ls 4 [(0, .ref (G.2.1 0)), (1, .int a0), (3, .int x2)] → W p l e rmX8_costOf s m args below meth c H locs 0 0 (MQ below (nb_Qi G xm_sh Z ro σ) args s 0 0 (nb_A xm_sh G.2.1)) (F0 m 41 ls [.int v17]) := by
      intro v17 H locs ls hf hW hl
      have hf := (congrFun ek15 v17).symm.trans hf
      refine lv_istore_n (lv' := [(2, .int v17), (0, .ref (G.2.1 0)), (1, .int a0), (3, .int x2)]) hx hb dX8_costOf_41 rfl hl (by decide) rfl (fun ls hl => ?_)
      refine lv_iinc (v := (x2 + 1)) (lv' := [(3, .int (x2 + 1)), (2, .int v17), (0, .ref (G.2.1 0)), (1, .int a0)]) hx hb dX8_costOf_42 hl (k := 3) rfl rfl (by decide) rfl (fun ls hl => ?_)
      refine lv_goto (tgt := 4) hx hb dX8_costOf_45 (by decide) ?_
      exact ih4 _ _ hf _ _ _ hW (lv_sub hl [2, 3, 1, 0] rfl)
    clear ek15
    obtain ⟨k18, ek18, hf⟩ := nb_let_e hf
    have w19 : ∀ (_u : Unit) (H : Heap) (locs : List Loc) (ls : Array Slot), k18 _u = some ro → nb_W G xm_sh s.heap σ H locs → lv_has ls 4 [(0, .ref (G.2.1 0)), (1, .int a0), (3, .int x2)] → W p l e rmX8_costOf s m args below meth c H locs 0 0 (MQ below (nb_Qi G xm_sh Z ro σ) args s 0 0 (nb_A xm_sh G.2.1)) (F0 m 40 ls []) := by
      intro _u H locs ls hf hW hl
      have hf := (congrFun ek18 _u).symm.trans hf
      refine lv_iconst (v := (0 : Int32)) hx hb dX8_costOf_40 (by decide) ?_
      exact w16 _ _ _ _ hf hW (lv_sub hl [0, 1, 2] rfl)
    clear ek18
    refine lv_if_eq (tgt := 40) hx hb dX8_costOf_13 (by decide) (fun c20 => ?_) (fun c20 => ?_)
    · rw [if_pos c20] at hf
      exact w19 ()  _ _ _ hf hW (lv_sub hl [0, 1, 3] rfl)
    · rw [if_neg c20] at hf
      refine lv_iload_n hx hb dX8_costOf_16 rfl (lv_at hl 3 rfl) ?_
      refine lv_iload_n hx hb dX8_costOf_17 rfl (lv_at hl 1 rfl) ?_
      obtain ⟨k21, ek21, hf⟩ := nb_let_e hf
      have w22 : ∀ (_u : Unit) (H : Heap) (locs : List Loc) (ls : Array Slot), k21 _u = some ro → nb_W G xm_sh s.heap σ H locs → lv_has ls 4 [(0, .ref (G.2.1 0)), (1, .int a0), (3, .int x2)] → W p l e rmX8_costOf s m args below meth c H locs 0 0 (MQ below (nb_Qi G xm_sh Z ro σ) args s 0 0 (nb_A xm_sh G.2.1)) (F0 m 36 ls []) := by
        intro _u H locs ls hf hW hl
        have hf := (congrFun ek21 _u).symm.trans hf
        refine lv_iconst (v := (1 : Int32)) hx hb dX8_costOf_36 (by decide) ?_
        refine lv_goto (tgt := 41) hx hb dX8_costOf_37 (by decide) ?_
        exact w16 _ _ _ _ hf hW (lv_sub hl [0, 1, 2] rfl)
      clear ek21
      refine lv_icmp_eq (tgt := 36) hx hb dX8_costOf_18 (by decide) (fun c23 => ?_) (fun c23 => ?_)
      · rw [if_pos c23] at hf
        exact w22 ()  _ _ _ hf hW (lv_sub hl [0, 1, 3] rfl)
      · rw [if_neg c23] at hf
        refine lv_aload_n hx hb dX8_costOf_21 rfl (lv_at hl 0 rfl) ?_
        refine nb_get (C := RX8) (T := TX8) (N := 40) hx hb hts inT_X8 hown hK hW 0 rfl rfl 39 (by decide) (hts _ tw4_162) (fun _ h9 => h9) rfl (v := .ref (G.2.1 31)) rfl dX8_costOf_22 ?_
        refine lv_iload_n hx hb dX8_costOf_25 rfl (lv_at hl 3 rfl) ?_
        obtain ⟨g24, hf⟩ := nb_g_e hf
        refine nb_iald hx hb hK hW 31 rfl g24 dX8_costOf_26 ?_
        refine lv_aload_n hx hb dX8_costOf_27 rfl (lv_at hl 0 rfl) ?_
        refine nb_get (C := RX8) (T := TX8) (N := 40) hx hb hts inT_X8 hown hK hW 0 rfl rfl 39 (by decide) (hts _ tw4_162) (fun _ h9 => h9) rfl (v := .ref (G.2.1 31)) rfl dX8_costOf_28 ?_
        refine lv_iload_n hx hb dX8_costOf_31 rfl (lv_at hl 1 rfl) ?_
        obtain ⟨g25, hf⟩ := nb_g_e hf
        refine nb_iald hx hb hK hW 31 rfl g25 dX8_costOf_32 ?_
        refine lv_icmp_le (tgt := 40) hx hb dX8_costOf_33 (by decide) (fun c26 => ?_) (fun c26 => ?_)
        · rw [if_pos c26] at hf
          exact w19 ()  _ _ _ hf hW (lv_sub hl [0, 1, 3] rfl)
        · rw [if_neg c26] at hf
          exact w22 ()  _ _ _ hf hW (lv_sub hl [0, 1, 3] rfl)
def fX8_cost (N : Nat) (σ : nb_St) (a0 : Int32) (a1 : Int32) : Option (Int32 × nb_St) :=
  nb_b (fX8_layGame N σ) fun σ2 =>
  nb_b (fX8_in N σ2 ((a0).toInt64) (0 : Int64) ((((σ2 0 36) - (1 : Int32))).toInt64)) fun r4 =>
  nb_let (fun (_u : Unit) =>
  some ((-1 : Int32), σ2)) fun k5 =>
  (if r4 = 0 then
  k5 ()
  else
  nb_b (fX8_in N σ2 ((a1).toInt64) (0 : Int64) (99999 : Int64)) fun r9 =>
  (if r9 = 0 then
  k5 ()
  else
  nb_lp4 (R := (Int32 × nb_St)) (fun ag15 (x11 : Int32) (x12 : Int32) (x13 : Int32) (σ14 : nb_St) =>
  (if (σ14 0 36) ≤ x13 then
  (if x12 = 0 then
  some ((-1 : Int32), σ14)
  else
  nb_b (fX8_costOf N σ14 a0) fun r20 =>
  some (r20, σ14))
  else
  nb_g (nb_in x13 4) (
  nb_let (nb_st σ14 31 (nb_ix x13) (nb_rem x11 (10 : Int32))) fun σ22 =>
  nb_let (fun (v25 : Int32) =>
  nb_let (x11 / (10 : Int32)) fun x26 =>
  ag15 x26 v25 (x13 + 1) σ22) fun k23 =>
  nb_let (fun (_u : Unit) =>
  k23 (0 : Int32)) fun k27 =>
  (if x12 = 0 then
  k27 ()
  else
  nb_g (nb_in x13 4) (
  (if (6 : Int32) ≤ (σ22 31 (nb_ix x13)) then
  k27 ()
  else
  k23 (1 : Int32))))))) N a1 (1 : Int32) (0 : Int32) σ2))
def rmX8_cost : Room := { frames := 2, cells := 0, slots := 0, locals := 44 }
def vsX8_cost : List Cond := .code yX8_cost cX8_cost 6 (some .int) :: xT
set_option maxHeartbeats 4000000 in
set_option maxRecDepth 100000 in
theorem c_X8_cost (l : Launch) {G : nb_G} {Z : State → Heap → Prop} (hinj : nb_inj xm_sh G.2.1) (hZo : nb_Zok (nb_A xm_sh G.2.1) Z) {N : Nat} {σ : nb_St} {a0 : Int32} {a1 : Int32} {ro : Int32} {σo : nb_St} (hf : fX8_cost N σ a0 a1 = some (ro, σo))  : Met l yX8_cost vsX8_cost rmX8_cost (nb_Pc G xm_sh Z σ [.ref (G.2.1 0), .int a0, .int a1]) (nb_Qi G xm_sh Z ro σo) 0 0 (nb_A xm_sh G.2.1) := by
  refine Met.ofW (cc := cX8_cost) (maxL := 6) (ret := (some .int)) (by decide) rfl ?_
  intro p e s m args below meth c s₁ B hml hv
  obtain ⟨rfl, hP, hK, hZ⟩ := hv
  have hx := B.exec
  have hb := B.bytes
  have hr := B.returns
  have hts : ∀ w ∈ xT, w.before _ s = true := fun w h9 => atoms_spec (ws := vsX8_cost) B.pre w (List.mem_cons_of_mem _ h9)
  have hown : s.vm.findClass RX8 = some m.cls := findClass_of_methodNamed B.named
  have hlocks := B.notSynchronized
  have hW : nb_W G xm_sh s.heap σ s.heap [] := ⟨hP, va_S.rf⟩
  have hl := lv_entry ([.ref (G.2.1 0), .int a0, .int a1]) (n := 6) (Nat.le_of_ble_eq_true rfl)
  rw [lg_entry_eq]
  generalize (lg_sl ([.ref (G.2.1 0), .int a0, .int a1]) ++ List.replicate (6 - (lg_sl ([.ref (G.2.1 0), .int a0, .int a1])).length) Slot.unset).toArray = ls at hl ⊢
  have hl : lv_has ls 6 [(0, .ref (G.2.1 0)), (1, .int a0), (2, .int a1)] := hl
  show W p l e rmX8_cost s m ([.ref (G.2.1 0), .int a0, .int a1]).toArray below meth c s.heap [] 0 0 (MQ below (nb_Qi G xm_sh Z ro σo) ([.ref (G.2.1 0), .int a0, .int a1]).toArray s 0 0 (nb_A xm_sh G.2.1)) (F0 m 0 ls [])
  generalize hargs : ([.ref (G.2.1 0), .int a0, .int a1] : List Value).toArray = args at hts ⊢
  unfold fX8_cost at hf
  obtain ⟨H, eH⟩ : ∃ H, H = s.heap := ⟨_, rfl⟩
  obtain ⟨locs, eL⟩ : ∃ L : List Loc, L = [] := ⟨_, rfl⟩
  have hW : nb_W G xm_sh s.heap σ H locs := by rw [eH, eL]; exact hW
  suffices hgo : W p l e rmX8_cost s m args below meth c H locs 0 0 (MQ below (nb_Qi G xm_sh Z ro σo) args s 0 0 (nb_A xm_sh G.2.1)) (F0 m 0 ls []) by rw [eH, eL] at hgo; exact hgo
  clear eH eL
  refine lv_aload_n hx hb dX8_cost_0 rfl (lv_at hl 0 rfl) ?_
  obtain ⟨σ2, hc1, hf⟩ := nb_b_e hf
  refine nb_cv hW (va_runV (As := []) (rest := []) ⟨hx, hb, hml, hown, hts⟩ (c_X8_layGame l hinj hZo (N := N) hc1 ) (cwV 0 hts (xg_V tw5_189 tw5_191 tp3_11 tw1_10 tw5_192) rfl rfl rfl (by decide +kernel) ⟨Nat.le_of_ble_eq_true rfl, Nat.le_of_ble_eq_true rfl⟩) (nb_preV hK hZ hZo hW (k := 0) rfl rfl) rfl rfl hl.1 rfl (lv_room (Nat.le_of_ble_eq_true rfl)) dX8_cost_1 ⟨Nat.zero_le _, Nat.zero_le _⟩) (fun H locs hW => ?_)
  refine lv_iload_n hx hb dX8_cost_4 rfl (lv_at hl 1 rfl) ?_
  refine lv_i2l hx hb dX8_cost_5 rfl ?_
  refine lv_lconst (v := (0 : Int64)) hx hb dX8_cost_6 (by decide) ?_
  refine lv_aload_n hx hb dX8_cost_7 rfl (lv_at hl 0 rfl) ?_
  refine nb_get (C := RX8) (T := TX8) (N := 40) hx hb hts inT_X8 hown hK hW 0 rfl rfl 36 (by decide) (hts _ tw4_159) (fun _ h9 => h9) rfl (v := .int (σ2 0 36)) rfl dX8_cost_8 ?_
  refine lv_iconst (v := (1 : Int32)) hx hb dX8_cost_11 (by decide) ?_
  refine lv_isub hx hb dX8_cost_12 ?_
  refine lv_i2l hx hb dX8_cost_13 rfl ?_
  obtain ⟨r4, hc3, hf⟩ := nb_b_e hf
  refine nb_ci hW (va_runS (As := [.long ((a0).toInt64), .long (0 : Int64), .long ((((σ2 0 36) - (1 : Int32))).toInt64)]) (rest := []) ⟨hx, hb, hml, hown, hts⟩ (c_X8_in l hinj hZo (N := N) hc3 ) (va_cwS 3 hts (xg_S tw5_9 tw5_10 tw1_10 tw5_11) rfl rfl rfl (by decide +kernel) ⟨Nat.le_of_ble_eq_true rfl, Nat.le_of_ble_eq_true rfl⟩) (nb_preS hK hZ hZo hW) rfl rfl hl.1 rfl (lv_room (Nat.le_of_ble_eq_true rfl)) dX8_cost_14 ⟨Nat.zero_le _, Nat.zero_le _⟩) (fun H locs hW => ?_)
  obtain ⟨k5, ek5, hf⟩ := nb_let_e hf
  have w6 : ∀ (_u : Unit) (H : Heap) (locs : List Loc) (ls : Array Slot), k5 _u = some (ro, σo) → nb_W G xm_sh s.heap σ2 H locs → lv_has ls 6 [] → W p l e rmX8_cost s m args below meth c H locs 0 0 (MQ below (nb_Qi G xm_sh Z ro σo) args s 0 0 (nb_A xm_sh G.2.1)) (F0 m 32 ls []) := by
    intro _u H locs ls hf hW hl
    have hf := (congrFun ek5 _u).symm.trans hf
    refine lv_iconst (v := (-1 : Int32)) hx hb dX8_cost_32 (by decide) ?_
    exact nb_ri hx hb hr hlocks hK hZ hZo hW  hf dX8_cost_33
  clear ek5
  refine lv_if_eq (tgt := 32) hx hb dX8_cost_17 (by decide) (fun c7 => ?_) (fun c7 => ?_)
  · rw [if_pos c7] at hf
    exact w6 ()  _ _ _ hf hW (lv_sub hl [] rfl)
  · rw [if_neg c7] at hf
    refine lv_iload_n hx hb dX8_cost_20 rfl (lv_at hl 2 rfl) ?_
    refine lv_i2l hx hb dX8_cost_21 rfl ?_
    refine lv_lconst (v := (0 : Int64)) hx hb dX8_cost_22 (by decide) ?_
    refine lv_ldc2 (own := RX8) (v := (99999 : Int64)) hx hb hown (hts _ tw5_193) dX8_cost_23 ?_
    obtain ⟨r9, hc8, hf⟩ := nb_b_e hf
    refine nb_ci hW (va_runS (As := [.long ((a1).toInt64), .long (0 : Int64), .long (99999 : Int64)]) (rest := []) ⟨hx, hb, hml, hown, hts⟩ (c_X8_in l hinj hZo (N := N) hc8 ) (va_cwS 3 hts (xg_S tw5_9 tw5_10 tw1_10 tw5_11) rfl rfl rfl (by decide +kernel) ⟨Nat.le_of_ble_eq_true rfl, Nat.le_of_ble_eq_true rfl⟩) (nb_preS hK hZ hZo hW) rfl rfl hl.1 rfl (lv_room (Nat.le_of_ble_eq_true rfl)) dX8_cost_26 ⟨Nat.zero_le _, Nat.zero_le _⟩) (fun H locs hW => ?_)
    refine lv_if_ne (tgt := 34) hx hb dX8_cost_29 (by decide) (fun c10 => ?_) (fun c10 => ?_)
    · rw [if_neg c10] at hf
      refine lv_iload_n hx hb dX8_cost_34 rfl (lv_at hl 2 rfl) ?_
      refine lv_istore_n (lv' := [(3, .int a1), (0, .ref (G.2.1 0)), (1, .int a0), (2, .int a1)]) hx hb dX8_cost_35 rfl hl (by decide) rfl (fun ls hl => ?_)
      refine lv_iconst (v := (1 : Int32)) hx hb dX8_cost_36 (by decide) ?_
      refine lv_istore (lv' := [(4, .int (1 : Int32)), (3, .int a1), (0, .ref (G.2.1 0)), (1, .int a0), (2, .int a1)]) hx hb dX8_cost_37 hl (by decide) rfl (fun ls hl => ?_)
      refine lv_iconst (v := (0 : Int32)) hx hb dX8_cost_39 (by decide) ?_
      refine lv_istore (lv' := [(5, .int (0 : Int32)), (4, .int (1 : Int32)), (3, .int a1), (0, .ref (G.2.1 0)), (1, .int a0), (2, .int a1)]) hx hb dX8_cost_40 hl (by decide) rfl (fun ls hl => ?_)
      refine nb_w4 (P := fun (x11 : Int32) (x12 : Int32) (x13 : Int32) (σ14 : nb_St) => ∀ (H : Heap) (locs : List Loc) (ls : Array Slot), nb_W G xm_sh s.heap σ14 H locs → lv_has ls 6 [(0, .ref (G.2.1 0)), (1, .int a0), (3, .int x11), (4, .int x12), (5, .int x13)] → W p l e rmX8_cost s m args below meth c H locs 0 0 (MQ below (nb_Qi G xm_sh Z ro σo) args s 0 0 (nb_A xm_sh G.2.1)) (F0 m 42 ls [])) ?_ N _ _ _ _ hf H locs ls hW (lv_sub hl [3, 4, 2, 1, 0] rfl)
      intro ag15 ih16 x11 x12 x13 σ14 hf H locs ls hW hl
      refine lv_iload hx hb dX8_cost_42 (lv_at hl 4 rfl) ?_
      refine lv_aload_n hx hb dX8_cost_44 rfl (lv_at hl 0 rfl) ?_
      refine nb_get (C := RX8) (T := TX8) (N := 40) hx hb hts inT_X8 hown hK hW 0 rfl rfl 36 (by decide) (hts _ tw4_159) (fun _ h9 => h9) rfl (v := .int (σ14 0 36)) rfl dX8_cost_45 ?_
      refine lv_icmp_ge (tgt := 97) hx hb dX8_cost_48 (by decide) (fun c17 => ?_) (fun c17 => ?_)
      · rw [if_pos c17] at hf
        refine lv_iload hx hb dX8_cost_97 (lv_at hl 3 rfl) ?_
        refine lv_if_eq (tgt := 110) hx hb dX8_cost_99 (by decide) (fun c18 => ?_) (fun c18 => ?_)
        · rw [if_pos c18] at hf
          refine lv_iconst (v := (-1 : Int32)) hx hb dX8_cost_110 (by decide) ?_
          exact nb_ri hx hb hr hlocks hK hZ hZo hW  hf dX8_cost_111
        · rw [if_neg c18] at hf
          refine lv_aload_n hx hb dX8_cost_102 rfl (lv_at hl 0 rfl) ?_
          refine lv_iload_n hx hb dX8_cost_103 rfl (lv_at hl 1 rfl) ?_
          obtain ⟨r20, hc19, hf⟩ := nb_b_e hf
          refine nb_ci hW (va_runV (As := [.int a0]) (rest := []) ⟨hx, hb, hml, hown, hts⟩ (c_X8_costOf l hinj hZo (N := N) hc19 ) (cwV 1 hts (xg_V tw5_194 tw5_196 tp3_12 tw1_10 tw5_197) rfl rfl rfl (by decide +kernel) ⟨Nat.le_of_ble_eq_true rfl, Nat.le_of_ble_eq_true rfl⟩) (nb_preV hK hZ hZo hW (k := 0) rfl rfl) rfl rfl hl.1 rfl (lv_room (Nat.le_of_ble_eq_true rfl)) dX8_cost_104 ⟨Nat.zero_le _, Nat.zero_le _⟩) (fun H locs hW => ?_)
          refine lv_goto (tgt := 111) hx hb dX8_cost_107 (by decide) ?_
          exact nb_ri hx hb hr hlocks hK hZ hZo hW  hf dX8_cost_111
      · rw [if_neg c17] at hf
        refine lv_aload_n hx hb dX8_cost_51 rfl (lv_at hl 0 rfl) ?_
        refine nb_get (C := RX8) (T := TX8) (N := 40) hx hb hts inT_X8 hown hK hW 0 rfl rfl 39 (by decide) (hts _ tw4_162) (fun _ h9 => h9) rfl (v := .ref (G.2.1 31)) rfl dX8_cost_52 ?_
        refine lv_iload hx hb dX8_cost_55 (lv_at hl 4 rfl) ?_
        refine lv_iload_n hx hb dX8_cost_57 rfl (lv_at hl 2 rfl) ?_
        refine lv_bipush (v := (10 : Int32)) hx hb dX8_cost_58 (by decide) ?_
        refine nb_irem hx hb dX8_cost_60 (by decide) ?_
        obtain ⟨g21, hf⟩ := nb_g_e hf
        obtain ⟨σ22, eσ22, hf⟩ := nb_let_e hf
        refine nb_iast hx hb hK hinj hW 31 rfl g21 eσ22 dX8_cost_61 (fun H locs hW => ?_)
        refine lv_iload hx hb dX8_cost_62 (lv_at hl 3 rfl) ?_
        obtain ⟨k23, ek23, hf⟩ := nb_let_e hf
        have w24 : ∀ (v25 : Int32) (H : Heap) (locs : List Loc) (ls : Array Slot), k23 v25 = some (ro, σo) → nb_W G xm_sh s.heap σ22 H locs → lv_has ls 6 [(0, .ref (G.2.1 0)), (1, .int a0), (3, .int x11), (5, .int x13)] → W p l e rmX8_cost s m args below meth c H locs 0 0 (MQ below (nb_Qi G xm_sh Z ro σo) args s 0 0 (nb_A xm_sh G.2.1)) (F0 m 84 ls [.int v25]) := by
          intro v25 H locs ls hf hW hl
          have hf := (congrFun ek23 v25).symm.trans hf
          refine lv_istore (lv' := [(4, .int v25), (0, .ref (G.2.1 0)), (1, .int a0), (3, .int x11), (5, .int x13)]) hx hb dX8_cost_84 hl (by decide) rfl (fun ls hl => ?_)
          refine lv_iload_n hx hb dX8_cost_86 rfl (lv_at hl 3 rfl) ?_
          refine lv_bipush (v := (10 : Int32)) hx hb dX8_cost_87 (by decide) ?_
          refine lv_idiv hx hb dX8_cost_89 (by decide) ?_
          obtain ⟨x26, ex26, hf⟩ := nb_let_e hf
          refine nb_nami ex26 ?_
          refine lv_istore_n (lv' := [(3, .int x26), (4, .int v25), (0, .ref (G.2.1 0)), (1, .int a0), (5, .int x13)]) hx hb dX8_cost_90 rfl hl (by decide) rfl (fun ls hl => ?_)
          refine lv_iinc (v := (x13 + 1)) (lv' := [(5, .int (x13 + 1)), (3, .int x26), (4, .int v25), (0, .ref (G.2.1 0)), (1, .int a0)]) hx hb dX8_cost_91 hl (k := 4) rfl rfl (by decide) rfl (fun ls hl => ?_)
          refine lv_goto (tgt := 42) hx hb dX8_cost_94 (by decide) ?_
          exact ih16 _ _ _ _ hf _ _ _ hW (lv_sub hl [3, 4, 1, 2, 0] rfl)
        clear ek23
        obtain ⟨k27, ek27, hf⟩ := nb_let_e hf
        have w28 : ∀ (_u : Unit) (H : Heap) (locs : List Loc) (ls : Array Slot), k27 _u = some (ro, σo) → nb_W G xm_sh s.heap σ22 H locs → lv_has ls 6 [(0, .ref (G.2.1 0)), (1, .int a0), (3, .int x11), (5, .int x13)] → W p l e rmX8_cost s m args below meth c H locs 0 0 (MQ below (nb_Qi G xm_sh Z ro σo) args s 0 0 (nb_A xm_sh G.2.1)) (F0 m 83 ls []) := by
          intro _u H locs ls hf hW hl
          have hf := (congrFun ek27 _u).symm.trans hf
          refine lv_iconst (v := (0 : Int32)) hx hb dX8_cost_83 (by decide) ?_
          exact w24 _ _ _ _ hf hW (lv_sub hl [0, 1, 2, 3] rfl)
        clear ek27
        refine lv_if_eq (tgt := 83) hx hb dX8_cost_64 (by decide) (fun c29 => ?_) (fun c29 => ?_)
        · rw [if_pos c29] at hf
          exact w28 ()  _ _ _ hf hW (lv_sub hl [0, 1, 2, 4] rfl)
        · rw [if_neg c29] at hf
          refine lv_aload_n hx hb dX8_cost_67 rfl (lv_at hl 0 rfl) ?_
          refine nb_get (C := RX8) (T := TX8) (N := 40) hx hb hts inT_X8 hown hK hW 0 rfl rfl 39 (by decide) (hts _ tw4_162) (fun _ h9 => h9) rfl (v := .ref (G.2.1 31)) rfl dX8_cost_68 ?_
          refine lv_iload hx hb dX8_cost_71 (lv_at hl 4 rfl) ?_
          obtain ⟨g30, hf⟩ := nb_g_e hf
          refine nb_iald hx hb hK hW 31 rfl g30 dX8_cost_73 ?_
          refine lv_bipush (v := (6 : Int32)) hx hb dX8_cost_74 (by decide) ?_
          refine lv_icmp_ge (tgt := 83) hx hb dX8_cost_76 (by decide) (fun c31 => ?_) (fun c31 => ?_)
          · rw [if_pos c31] at hf
            exact w28 ()  _ _ _ hf hW (lv_sub hl [0, 1, 2, 4] rfl)
          · rw [if_neg c31] at hf
            refine lv_iconst (v := (1 : Int32)) hx hb dX8_cost_79 (by decide) ?_
            refine lv_goto (tgt := 84) hx hb dX8_cost_80 (by decide) ?_
            exact w24 _ _ _ _ hf hW (lv_sub hl [0, 1, 2, 4] rfl)
    · rw [if_pos c10] at hf
      exact w6 ()  _ _ _ hf hW (lv_sub hl [] rfl)
def fX8_takeSlots (N : Nat) (σ : nb_St) (a0 : Int32) : Option nb_St :=
  nb_let ((σ 0 36) - (1 : Int32)) fun x1 =>
  nb_lp3 (R := nb_St) (fun ag5 (x2 : Int32) (x3 : Int32) (σ4 : nb_St) =>
  (if x3 < 0 then
  some σ4
  else
  nb_g (nb_in x3 4) (
  nb_let (nb_st σ4 31 (nb_ix x3) (nb_rem x2 (6 : Int32))) fun σ9 =>
  nb_let (x2 / (6 : Int32)) fun x10 =>
  ag5 x10 (x3 + (-1)) σ9))) N a0 x1 σ
def rmX8_takeSlots : Room := { frames := 0, cells := 0, slots := 0, locals := 0 }
def vsX8_takeSlots : List Cond := .code yX8_takeSlots cX8_takeSlots 4 none :: xT
set_option maxHeartbeats 4000000 in
set_option maxRecDepth 100000 in
theorem c_X8_takeSlots (l : Launch) {G : nb_G} {Z : State → Heap → Prop} (hinj : nb_inj xm_sh G.2.1) (hZo : nb_Zok (nb_A xm_sh G.2.1) Z) {N : Nat} {σ : nb_St} {a0 : Int32} {σo : nb_St} (hf : fX8_takeSlots N σ a0 = some σo)  : Met l yX8_takeSlots vsX8_takeSlots rmX8_takeSlots (nb_Pc G xm_sh Z σ [.ref (G.2.1 0), .int a0]) (nb_Qv G xm_sh Z σo) 0 0 (nb_A xm_sh G.2.1) := by
  refine Met.ofW (cc := cX8_takeSlots) (maxL := 4) (ret := none) (by decide) rfl ?_
  intro p e s m args below meth c s₁ B hml hv
  obtain ⟨rfl, hP, hK, hZ⟩ := hv
  have hx := B.exec
  have hb := B.bytes
  have hr := B.returns
  have hts : ∀ w ∈ xT, w.before _ s = true := fun w h9 => atoms_spec (ws := vsX8_takeSlots) B.pre w (List.mem_cons_of_mem _ h9)
  have hown : s.vm.findClass RX8 = some m.cls := findClass_of_methodNamed B.named
  have hlocks := B.notSynchronized
  have hW : nb_W G xm_sh s.heap σ s.heap [] := ⟨hP, va_S.rf⟩
  have hl := lv_entry ([.ref (G.2.1 0), .int a0]) (n := 4) (Nat.le_of_ble_eq_true rfl)
  rw [lg_entry_eq]
  generalize (lg_sl ([.ref (G.2.1 0), .int a0]) ++ List.replicate (4 - (lg_sl ([.ref (G.2.1 0), .int a0])).length) Slot.unset).toArray = ls at hl ⊢
  have hl : lv_has ls 4 [(0, .ref (G.2.1 0)), (1, .int a0)] := hl
  show W p l e rmX8_takeSlots s m ([.ref (G.2.1 0), .int a0]).toArray below meth c s.heap [] 0 0 (MQ below (nb_Qv G xm_sh Z σo) ([.ref (G.2.1 0), .int a0]).toArray s 0 0 (nb_A xm_sh G.2.1)) (F0 m 0 ls [])
  generalize hargs : ([.ref (G.2.1 0), .int a0] : List Value).toArray = args at hts ⊢
  unfold fX8_takeSlots at hf
  obtain ⟨H, eH⟩ : ∃ H, H = s.heap := ⟨_, rfl⟩
  obtain ⟨locs, eL⟩ : ∃ L : List Loc, L = [] := ⟨_, rfl⟩
  have hW : nb_W G xm_sh s.heap σ H locs := by rw [eH, eL]; exact hW
  suffices hgo : W p l e rmX8_takeSlots s m args below meth c H locs 0 0 (MQ below (nb_Qv G xm_sh Z σo) args s 0 0 (nb_A xm_sh G.2.1)) (F0 m 0 ls []) by rw [eH, eL] at hgo; exact hgo
  clear eH eL
  refine lv_iload_n hx hb dX8_takeSlots_0 rfl (lv_at hl 1 rfl) ?_
  refine lv_istore_n (lv' := [(2, .int a0), (0, .ref (G.2.1 0)), (1, .int a0)]) hx hb dX8_takeSlots_1 rfl hl (by decide) rfl (fun ls hl => ?_)
  refine lv_aload_n hx hb dX8_takeSlots_2 rfl (lv_at hl 1 rfl) ?_
  refine nb_get (C := RX8) (T := TX8) (N := 40) hx hb hts inT_X8 hown hK hW 0 rfl rfl 36 (by decide) (hts _ tw4_159) (fun _ h9 => h9) rfl (v := .int (σ 0 36)) rfl dX8_takeSlots_3 ?_
  refine lv_iconst (v := (1 : Int32)) hx hb dX8_takeSlots_6 (by decide) ?_
  refine lv_isub hx hb dX8_takeSlots_7 ?_
  obtain ⟨x1, ex1, hf⟩ := nb_let_e hf
  refine nb_nami ex1 ?_
  refine lv_istore_n (lv' := [(3, .int x1), (2, .int a0), (0, .ref (G.2.1 0)), (1, .int a0)]) hx hb dX8_takeSlots_8 rfl hl (by decide) rfl (fun ls hl => ?_)
  refine nb_w3 (P := fun (x2 : Int32) (x3 : Int32) (σ4 : nb_St) => ∀ (H : Heap) (locs : List Loc) (ls : Array Slot), nb_W G xm_sh s.heap σ4 H locs → lv_has ls 4 [(0, .ref (G.2.1 0)), (2, .int x2), (3, .int x3)] → W p l e rmX8_takeSlots s m args below meth c H locs 0 0 (MQ below (nb_Qv G xm_sh Z σo) args s 0 0 (nb_A xm_sh G.2.1)) (F0 m 9 ls [])) ?_ N _ _ _ hf H locs ls hW (lv_sub hl [2, 1, 0] rfl)
  intro ag5 ih6 x2 x3 σ4 hf H locs ls hW hl
  refine lv_iload_n hx hb dX8_takeSlots_9 rfl (lv_at hl 2 rfl) ?_
  refine lv_if_lt (tgt := 34) hx hb dX8_takeSlots_10 (by decide) (fun c7 => ?_) (fun c7 => ?_)
  · rw [if_pos c7] at hf
    exact nb_rv hx hb hr hlocks hK hZ hZo hW hf dX8_takeSlots_34
  · rw [if_neg c7] at hf
    refine lv_aload_n hx hb dX8_takeSlots_13 rfl (lv_at hl 0 rfl) ?_
    refine nb_get (C := RX8) (T := TX8) (N := 40) hx hb hts inT_X8 hown hK hW 0 rfl rfl 39 (by decide) (hts _ tw4_162) (fun _ h9 => h9) rfl (v := .ref (G.2.1 31)) rfl dX8_takeSlots_14 ?_
    refine lv_iload_n hx hb dX8_takeSlots_17 rfl (lv_at hl 2 rfl) ?_
    refine lv_iload_n hx hb dX8_takeSlots_18 rfl (lv_at hl 1 rfl) ?_
    refine lv_bipush (v := (6 : Int32)) hx hb dX8_takeSlots_19 (by decide) ?_
    refine nb_irem hx hb dX8_takeSlots_21 (by decide) ?_
    obtain ⟨g8, hf⟩ := nb_g_e hf
    obtain ⟨σ9, eσ9, hf⟩ := nb_let_e hf
    refine nb_iast hx hb hK hinj hW 31 rfl g8 eσ9 dX8_takeSlots_22 (fun H locs hW => ?_)
    refine lv_iload_n hx hb dX8_takeSlots_23 rfl (lv_at hl 1 rfl) ?_
    refine lv_bipush (v := (6 : Int32)) hx hb dX8_takeSlots_24 (by decide) ?_
    refine lv_idiv hx hb dX8_takeSlots_26 (by decide) ?_
    obtain ⟨x10, ex10, hf⟩ := nb_let_e hf
    refine nb_nami ex10 ?_
    refine lv_istore_n (lv' := [(2, .int x10), (0, .ref (G.2.1 0)), (3, .int x3)]) hx hb dX8_takeSlots_27 rfl hl (by decide) rfl (fun ls hl => ?_)
    refine lv_iinc (v := (x3 + (-1))) (lv' := [(3, .int (x3 + (-1))), (2, .int x10), (0, .ref (G.2.1 0))]) hx hb dX8_takeSlots_28 hl (k := 2) rfl rfl (by decide) rfl (fun ls hl => ?_)
    refine lv_goto (tgt := 9) hx hb dX8_takeSlots_31 (by decide) ?_
    exact ih6 _ _ _ hf _ _ _ hW (lv_sub hl [2, 1, 0] rfl)
def fX8_isRest (N : Nat) (σ : nb_St)  : Option (Int32 × nb_St) :=
  nb_lp3 (R := (Int32 × nb_St)) (fun ag4 (x1 : Int32) (x2 : Int32) (σ3 : nb_St) =>
  (if (σ3 0 36) ≤ x2 then
  nb_g (nb_01 x1) (
  some (x1, σ3))
  else
  nb_g (nb_in x2 4) (
  nb_let (σ3 31 (nb_ix x2)) fun x9 =>
  nb_b (fX8_costOf N σ3 x2) fun r11 =>
  nb_lp3 (R := (Int32 × nb_St)) (fun ag15 (x12 : Int32) (x13 : Int32) (σ14 : nb_St) =>
  (if (6 : Int32) ≤ x13 then
  nb_g (nb_in x2 4) (
  nb_let (nb_st σ14 31 (nb_ix x2) x9) fun σ19 =>
  ag4 x12 (x2 + 1) σ19)
  else
  nb_g (nb_in x2 4) (
  nb_let (nb_st σ14 31 (nb_ix x2) x13) fun σ21 =>
  nb_let (fun (v24 : Int32) =>
  ag15 v24 (x13 + 1) σ21) fun k22 =>
  nb_let (fun (_u : Unit) =>
  k22 (0 : Int32)) fun k25 =>
  (if x12 = 0 then
  k25 ()
  else
  nb_b (fX8_costOf N σ21 x2) fun r29 =>
  (if r29 < r11 then
  k25 ()
  else
  k22 (1 : Int32)))))) N x1 (0 : Int32) σ3))) N (1 : Int32) (0 : Int32) σ
def rmX8_isRest : Room := { frames := 2, cells := 0, slots := 0, locals := 44 }
def vsX8_isRest : List Cond := .code yX8_isRest cX8_isRest 6 (some .boolean) :: xT
set_option maxHeartbeats 4000000 in
set_option maxRecDepth 100000 in
theorem c_X8_isRest (l : Launch) {G : nb_G} {Z : State → Heap → Prop} (hinj : nb_inj xm_sh G.2.1) (hZo : nb_Zok (nb_A xm_sh G.2.1) Z) {N : Nat} {σ : nb_St}  {ro : Int32} {σo : nb_St} (hf : fX8_isRest N σ = some (ro, σo))  : Met l yX8_isRest vsX8_isRest rmX8_isRest (nb_Pc G xm_sh Z σ [.ref (G.2.1 0)]) (nb_Qi G xm_sh Z ro σo) 0 0 (nb_A xm_sh G.2.1) := by
  refine Met.ofW (cc := cX8_isRest) (maxL := 6) (ret := (some .boolean)) (by decide) rfl ?_
  intro p e s m args below meth c s₁ B hml hv
  obtain ⟨rfl, hP, hK, hZ⟩ := hv
  have hx := B.exec
  have hb := B.bytes
  have hr := B.returns
  have hts : ∀ w ∈ xT, w.before _ s = true := fun w h9 => atoms_spec (ws := vsX8_isRest) B.pre w (List.mem_cons_of_mem _ h9)
  have hown : s.vm.findClass RX8 = some m.cls := findClass_of_methodNamed B.named
  have hlocks := B.notSynchronized
  have hW : nb_W G xm_sh s.heap σ s.heap [] := ⟨hP, va_S.rf⟩
  have hl := lv_entry ([.ref (G.2.1 0)]) (n := 6) (Nat.le_of_ble_eq_true rfl)
  rw [lg_entry_eq]
  generalize (lg_sl ([.ref (G.2.1 0)]) ++ List.replicate (6 - (lg_sl ([.ref (G.2.1 0)])).length) Slot.unset).toArray = ls at hl ⊢
  have hl : lv_has ls 6 [(0, .ref (G.2.1 0))] := hl
  show W p l e rmX8_isRest s m ([.ref (G.2.1 0)]).toArray below meth c s.heap [] 0 0 (MQ below (nb_Qi G xm_sh Z ro σo) ([.ref (G.2.1 0)]).toArray s 0 0 (nb_A xm_sh G.2.1)) (F0 m 0 ls [])
  generalize hargs : ([.ref (G.2.1 0)] : List Value).toArray = args at hts ⊢
  unfold fX8_isRest at hf
  obtain ⟨H, eH⟩ : ∃ H, H = s.heap := ⟨_, rfl⟩
  obtain ⟨locs, eL⟩ : ∃ L : List Loc, L = [] := ⟨_, rfl⟩
  have hW : nb_W G xm_sh s.heap σ H locs := by rw [eH, eL]; exact hW
  suffices hgo : W p l e rmX8_isRest s m args below meth c H locs 0 0 (MQ below (nb_Qi G xm_sh Z ro σo) args s 0 0 (nb_A xm_sh G.2.1)) (F0 m 0 ls []) by rw [eH, eL] at hgo; exact hgo
  clear eH eL
  refine lv_iconst (v := (1 : Int32)) hx hb dX8_isRest_0 (by decide) ?_
  refine lv_istore_n (lv' := [(1, .int (1 : Int32)), (0, .ref (G.2.1 0))]) hx hb dX8_isRest_1 rfl hl (by decide) rfl (fun ls hl => ?_)
  refine lv_iconst (v := (0 : Int32)) hx hb dX8_isRest_2 (by decide) ?_
  refine lv_istore_n (lv' := [(2, .int (0 : Int32)), (1, .int (1 : Int32)), (0, .ref (G.2.1 0))]) hx hb dX8_isRest_3 rfl hl (by decide) rfl (fun ls hl => ?_)
  refine nb_w3 (P := fun (x1 : Int32) (x2 : Int32) (σ3 : nb_St) => ∀ (H : Heap) (locs : List Loc) (ls : Array Slot), nb_W G xm_sh s.heap σ3 H locs → lv_has ls 6 [(0, .ref (G.2.1 0)), (1, .int x1), (2, .int x2)] → W p l e rmX8_isRest s m args below meth c H locs 0 0 (MQ below (nb_Qi G xm_sh Z ro σo) args s 0 0 (nb_A xm_sh G.2.1)) (F0 m 4 ls [])) ?_ N _ _ _ hf H locs ls hW (lv_sub hl [2, 1, 0] rfl)
  intro ag4 ih5 x1 x2 σ3 hf H locs ls hW hl
  refine lv_iload_n hx hb dX8_isRest_4 rfl (lv_at hl 2 rfl) ?_
  refine lv_aload_n hx hb dX8_isRest_5 rfl (lv_at hl 0 rfl) ?_
  refine nb_get (C := RX8) (T := TX8) (N := 40) hx hb hts inT_X8 hown hK hW 0 rfl rfl 36 (by decide) (hts _ tw4_159) (fun _ h9 => h9) rfl (v := .int (σ3 0 36)) rfl dX8_isRest_6 ?_
  refine lv_icmp_ge (tgt := 83) hx hb dX8_isRest_9 (by decide) (fun c6 => ?_) (fun c6 => ?_)
  · rw [if_pos c6] at hf
    refine lv_iload_n hx hb dX8_isRest_83 rfl (lv_at hl 1 rfl) ?_
    obtain ⟨g7, hf⟩ := nb_g_e hf
    exact nb_rz hx hb hr hlocks hK hZ hZo hW (nb_01_n g7) hf dX8_isRest_84
  · rw [if_neg c6] at hf
    refine lv_aload_n hx hb dX8_isRest_12 rfl (lv_at hl 0 rfl) ?_
    refine nb_get (C := RX8) (T := TX8) (N := 40) hx hb hts inT_X8 hown hK hW 0 rfl rfl 39 (by decide) (hts _ tw4_162) (fun _ h9 => h9) rfl (v := .ref (G.2.1 31)) rfl dX8_isRest_13 ?_
    refine lv_iload_n hx hb dX8_isRest_16 rfl (lv_at hl 2 rfl) ?_
    obtain ⟨g8, hf⟩ := nb_g_e hf
    refine nb_iald hx hb hK hW 31 rfl g8 dX8_isRest_17 ?_
    obtain ⟨x9, ex9, hf⟩ := nb_let_e hf
    refine nb_nami ex9 ?_
    refine lv_istore_n (lv' := [(3, .int x9), (0, .ref (G.2.1 0)), (1, .int x1), (2, .int x2)]) hx hb dX8_isRest_18 rfl hl (by decide) rfl (fun ls hl => ?_)
    refine lv_aload_n hx hb dX8_isRest_19 rfl (lv_at hl 1 rfl) ?_
    refine lv_iload_n hx hb dX8_isRest_20 rfl (lv_at hl 3 rfl) ?_
    obtain ⟨r11, hc10, hf⟩ := nb_b_e hf
    refine nb_ci hW (va_runV (As := [.int x2]) (rest := []) ⟨hx, hb, hml, hown, hts⟩ (c_X8_costOf l hinj hZo (N := N) hc10 ) (cwV 1 hts (xg_V tw5_194 tw5_196 tp3_12 tw1_10 tw5_197) rfl rfl rfl (by decide +kernel) ⟨Nat.le_of_ble_eq_true rfl, Nat.le_of_ble_eq_true rfl⟩) (nb_preV hK hZ hZo hW (k := 0) rfl rfl) rfl rfl hl.1 rfl (lv_room (Nat.le_of_ble_eq_true rfl)) dX8_isRest_21 ⟨Nat.zero_le _, Nat.zero_le _⟩) (fun H locs hW => ?_)
    refine lv_istore (lv' := [(4, .int r11), (3, .int x9), (0, .ref (G.2.1 0)), (1, .int x1), (2, .int x2)]) hx hb dX8_isRest_24 hl (by decide) rfl (fun ls hl => ?_)
    refine lv_iconst (v := (0 : Int32)) hx hb dX8_isRest_26 (by decide) ?_
    refine lv_istore (lv' := [(5, .int (0 : Int32)), (4, .int r11), (3, .int x9), (0, .ref (G.2.1 0)), (1, .int x1), (2, .int x2)]) hx hb dX8_isRest_27 hl (by decide) rfl (fun ls hl => ?_)
    refine nb_w3 (P := fun (x12 : Int32) (x13 : Int32) (σ14 : nb_St) => ∀ (H : Heap) (locs : List Loc) (ls : Array Slot), nb_W G xm_sh s.heap σ14 H locs → lv_has ls 6 [(0, .ref (G.2.1 0)), (1, .int x12), (2, .int x2), (3, .int x9), (4, .int r11), (5, .int x13)] → W p l e rmX8_isRest s m args below meth c H locs 0 0 (MQ below (nb_Qi G xm_sh Z ro σo) args s 0 0 (nb_A xm_sh G.2.1)) (F0 m 29 ls [])) ?_ N _ _ _ hf H locs ls hW (lv_sub hl [3, 4, 5, 2, 1, 0] rfl)
    intro ag15 ih16 x12 x13 σ14 hf H locs ls hW hl
    refine lv_iload hx hb dX8_isRest_29 (lv_at hl 5 rfl) ?_
    refine lv_bipush (v := (6 : Int32)) hx hb dX8_isRest_31 (by decide) ?_
    refine lv_icmp_ge (tgt := 70) hx hb dX8_isRest_33 (by decide) (fun c17 => ?_) (fun c17 => ?_)
    · rw [if_pos c17] at hf
      refine lv_aload_n hx hb dX8_isRest_70 rfl (lv_at hl 0 rfl) ?_
      refine nb_get (C := RX8) (T := TX8) (N := 40) hx hb hts inT_X8 hown hK hW 0 rfl rfl 39 (by decide) (hts _ tw4_162) (fun _ h9 => h9) rfl (v := .ref (G.2.1 31)) rfl dX8_isRest_71 ?_
      refine lv_iload_n hx hb dX8_isRest_74 rfl (lv_at hl 2 rfl) ?_
      refine lv_iload_n hx hb dX8_isRest_75 rfl (lv_at hl 3 rfl) ?_
      obtain ⟨g18, hf⟩ := nb_g_e hf
      obtain ⟨σ19, eσ19, hf⟩ := nb_let_e hf
      refine nb_iast hx hb hK hinj hW 31 rfl g18 eσ19 dX8_isRest_76 (fun H locs hW => ?_)
      refine lv_iinc (v := (x2 + 1)) (lv' := [(2, .int (x2 + 1)), (0, .ref (G.2.1 0)), (1, .int x12), (3, .int x9), (4, .int r11), (5, .int x13)]) hx hb dX8_isRest_77 hl (k := 2) rfl rfl (by decide) rfl (fun ls hl => ?_)
      refine lv_goto (tgt := 4) hx hb dX8_isRest_80 (by decide) ?_
      exact ih5 _ _ _ hf _ _ _ hW (lv_sub hl [1, 2, 0] rfl)
    · rw [if_neg c17] at hf
      refine lv_aload_n hx hb dX8_isRest_36 rfl (lv_at hl 0 rfl) ?_
      refine nb_get (C := RX8) (T := TX8) (N := 40) hx hb hts inT_X8 hown hK hW 0 rfl rfl 39 (by decide) (hts _ tw4_162) (fun _ h9 => h9) rfl (v := .ref (G.2.1 31)) rfl dX8_isRest_37 ?_
      refine lv_iload_n hx hb dX8_isRest_40 rfl (lv_at hl 2 rfl) ?_
      refine lv_iload hx hb dX8_isRest_41 (lv_at hl 5 rfl) ?_
      obtain ⟨g20, hf⟩ := nb_g_e hf
      obtain ⟨σ21, eσ21, hf⟩ := nb_let_e hf
      refine nb_iast hx hb hK hinj hW 31 rfl g20 eσ21 dX8_isRest_43 (fun H locs hW => ?_)
      refine lv_iload_n hx hb dX8_isRest_44 rfl (lv_at hl 1 rfl) ?_
      obtain ⟨k22, ek22, hf⟩ := nb_let_e hf
      have w23 : ∀ (v24 : Int32) (H : Heap) (locs : List Loc) (ls : Array Slot), k22 v24 = some (ro, σo) → nb_W G xm_sh s.heap σ21 H locs → lv_has ls 6 [(0, .ref (G.2.1 0)), (2, .int x2), (3, .int x9), (4, .int r11), (5, .int x13)] → W p l e rmX8_isRest s m args below meth c H locs 0 0 (MQ below (nb_Qi G xm_sh Z ro σo) args s 0 0 (nb_A xm_sh G.2.1)) (F0 m 63 ls [.int v24]) := by
        intro v24 H locs ls hf hW hl
        have hf := (congrFun ek22 v24).symm.trans hf
        refine lv_istore_n (lv' := [(1, .int v24), (0, .ref (G.2.1 0)), (2, .int x2), (3, .int x9), (4, .int r11), (5, .int x13)]) hx hb dX8_isRest_63 rfl hl (by decide) rfl (fun ls hl => ?_)
        refine lv_iinc (v := (x13 + 1)) (lv' := [(5, .int (x13 + 1)), (1, .int v24), (0, .ref (G.2.1 0)), (2, .int x2), (3, .int x9), (4, .int r11)]) hx hb dX8_isRest_64 hl (k := 5) rfl rfl (by decide) rfl (fun ls hl => ?_)
        refine lv_goto (tgt := 29) hx hb dX8_isRest_67 (by decide) ?_
        exact ih16 _ _ _ hf _ _ _ hW (lv_sub hl [2, 1, 3, 4, 5, 0] rfl)
      clear ek22
      obtain ⟨k25, ek25, hf⟩ := nb_let_e hf
      have w26 : ∀ (_u : Unit) (H : Heap) (locs : List Loc) (ls : Array Slot), k25 _u = some (ro, σo) → nb_W G xm_sh s.heap σ21 H locs → lv_has ls 6 [(0, .ref (G.2.1 0)), (2, .int x2), (3, .int x9), (4, .int r11), (5, .int x13)] → W p l e rmX8_isRest s m args below meth c H locs 0 0 (MQ below (nb_Qi G xm_sh Z ro σo) args s 0 0 (nb_A xm_sh G.2.1)) (F0 m 62 ls []) := by
        intro _u H locs ls hf hW hl
        have hf := (congrFun ek25 _u).symm.trans hf
        refine lv_iconst (v := (0 : Int32)) hx hb dX8_isRest_62 (by decide) ?_
        exact w23 _ _ _ _ hf hW (lv_sub hl [0, 1, 2, 3, 4] rfl)
      clear ek25
      refine lv_if_eq (tgt := 62) hx hb dX8_isRest_45 (by decide) (fun c27 => ?_) (fun c27 => ?_)
      · rw [if_pos c27] at hf
        exact w26 ()  _ _ _ hf hW (lv_sub hl [0, 2, 3, 4, 5] rfl)
      · rw [if_neg c27] at hf
        refine lv_aload_n hx hb dX8_isRest_48 rfl (lv_at hl 0 rfl) ?_
        refine lv_iload_n hx hb dX8_isRest_49 rfl (lv_at hl 2 rfl) ?_
        obtain ⟨r29, hc28, hf⟩ := nb_b_e hf
        refine nb_ci hW (va_runV (As := [.int x2]) (rest := []) ⟨hx, hb, hml, hown, hts⟩ (c_X8_costOf l hinj hZo (N := N) hc28 ) (cwV 1 hts (xg_V tw5_194 tw5_196 tp3_12 tw1_10 tw5_197) rfl rfl rfl (by decide +kernel) ⟨Nat.le_of_ble_eq_true rfl, Nat.le_of_ble_eq_true rfl⟩) (nb_preV hK hZ hZo hW (k := 0) rfl rfl) rfl rfl hl.1 rfl (lv_room (Nat.le_of_ble_eq_true rfl)) dX8_isRest_50 ⟨Nat.zero_le _, Nat.zero_le _⟩) (fun H locs hW => ?_)
        refine lv_iload hx hb dX8_isRest_53 (lv_at hl 4 rfl) ?_
        refine lv_icmp_lt (tgt := 62) hx hb dX8_isRest_55 (by decide) (fun c30 => ?_) (fun c30 => ?_)
        · rw [if_pos c30] at hf
          exact w26 ()  _ _ _ hf hW (lv_sub hl [0, 2, 3, 4, 5] rfl)
        · rw [if_neg c30] at hf
          refine lv_iconst (v := (1 : Int32)) hx hb dX8_isRest_58 (by decide) ?_
          refine lv_goto (tgt := 63) hx hb dX8_isRest_59 (by decide) ?_
          exact w23 _ _ _ _ hf hW (lv_sub hl [0, 2, 3, 4, 5] rfl)
def fX8_sumOfCosts (N : Nat) (σ : nb_St)  : Option Int32 :=
  nb_lp2 (R := Int32) (fun ag3 (x1 : Int32) (x2 : Int32) =>
  (if (σ 0 36) ≤ x2 then
  some x1
  else
  nb_b (fX8_costOf N σ x2) fun r7 =>
  nb_let (x1 + r7) fun x8 =>
  ag3 x8 (x2 + 1))) N (0 : Int32) (0 : Int32)
def rmX8_sumOfCosts : Room := { frames := 2, cells := 0, slots := 0, locals := 44 }
def vsX8_sumOfCosts : List Cond := .code yX8_sumOfCosts cX8_sumOfCosts 3 (some .int) :: xT
set_option maxHeartbeats 4000000 in
set_option maxRecDepth 100000 in
theorem c_X8_sumOfCosts (l : Launch) {G : nb_G} {Z : State → Heap → Prop} (hinj : nb_inj xm_sh G.2.1) (hZo : nb_Zok (nb_A xm_sh G.2.1) Z) {N : Nat} {σ : nb_St}  {ro : Int32} (hf : fX8_sumOfCosts N σ = some ro)  : Met l yX8_sumOfCosts vsX8_sumOfCosts rmX8_sumOfCosts (nb_Pc G xm_sh Z σ [.ref (G.2.1 0)]) (nb_Qi G xm_sh Z ro σ) 0 0 (nb_A xm_sh G.2.1) := by
  refine Met.ofW (cc := cX8_sumOfCosts) (maxL := 3) (ret := (some .int)) (by decide) rfl ?_
  intro p e s m args below meth c s₁ B hml hv
  obtain ⟨rfl, hP, hK, hZ⟩ := hv
  have hx := B.exec
  have hb := B.bytes
  have hr := B.returns
  have hts : ∀ w ∈ xT, w.before _ s = true := fun w h9 => atoms_spec (ws := vsX8_sumOfCosts) B.pre w (List.mem_cons_of_mem _ h9)
  have hown : s.vm.findClass RX8 = some m.cls := findClass_of_methodNamed B.named
  have hlocks := B.notSynchronized
  have hW : nb_W G xm_sh s.heap σ s.heap [] := ⟨hP, va_S.rf⟩
  have hl := lv_entry ([.ref (G.2.1 0)]) (n := 3) (Nat.le_of_ble_eq_true rfl)
  rw [lg_entry_eq]
  generalize (lg_sl ([.ref (G.2.1 0)]) ++ List.replicate (3 - (lg_sl ([.ref (G.2.1 0)])).length) Slot.unset).toArray = ls at hl ⊢
  have hl : lv_has ls 3 [(0, .ref (G.2.1 0))] := hl
  show W p l e rmX8_sumOfCosts s m ([.ref (G.2.1 0)]).toArray below meth c s.heap [] 0 0 (MQ below (nb_Qi G xm_sh Z ro σ) ([.ref (G.2.1 0)]).toArray s 0 0 (nb_A xm_sh G.2.1)) (F0 m 0 ls [])
  generalize hargs : ([.ref (G.2.1 0)] : List Value).toArray = args at hts ⊢
  unfold fX8_sumOfCosts at hf
  obtain ⟨H, eH⟩ : ∃ H, H = s.heap := ⟨_, rfl⟩
  obtain ⟨locs, eL⟩ : ∃ L : List Loc, L = [] := ⟨_, rfl⟩
  have hW : nb_W G xm_sh s.heap σ H locs := by rw [eH, eL]; exact hW
  suffices hgo : W p l e rmX8_sumOfCosts s m args below meth c H locs 0 0 (MQ below (nb_Qi G xm_sh Z ro σ) args s 0 0 (nb_A xm_sh G.2.1)) (F0 m 0 ls []) by rw [eH, eL] at hgo; exact hgo
  clear eH eL
  refine lv_iconst (v := (0 : Int32)) hx hb dX8_sumOfCosts_0 (by decide) ?_
  refine lv_istore_n (lv' := [(1, .int (0 : Int32)), (0, .ref (G.2.1 0))]) hx hb dX8_sumOfCosts_1 rfl hl (by decide) rfl (fun ls hl => ?_)
  refine lv_iconst (v := (0 : Int32)) hx hb dX8_sumOfCosts_2 (by decide) ?_
  refine lv_istore_n (lv' := [(2, .int (0 : Int32)), (1, .int (0 : Int32)), (0, .ref (G.2.1 0))]) hx hb dX8_sumOfCosts_3 rfl hl (by decide) rfl (fun ls hl => ?_)
  refine nb_w2 (P := fun (x1 : Int32) (x2 : Int32) => ∀ (H : Heap) (locs : List Loc) (ls : Array Slot), nb_W G xm_sh s.heap σ H locs → lv_has ls 3 [(0, .ref (G.2.1 0)), (1, .int x1), (2, .int x2)] → W p l e rmX8_sumOfCosts s m args below meth c H locs 0 0 (MQ below (nb_Qi G xm_sh Z ro σ) args s 0 0 (nb_A xm_sh G.2.1)) (F0 m 4 ls [])) ?_ N _ _ hf H locs ls hW (lv_sub hl [2, 1, 0] rfl)
  intro ag3 ih4 x1 x2 hf H locs ls hW hl
  refine lv_iload_n hx hb dX8_sumOfCosts_4 rfl (lv_at hl 2 rfl) ?_
  refine lv_aload_n hx hb dX8_sumOfCosts_5 rfl (lv_at hl 0 rfl) ?_
  refine nb_get (C := RX8) (T := TX8) (N := 40) hx hb hts inT_X8 hown hK hW 0 rfl rfl 36 (by decide) (hts _ tw4_159) (fun _ h9 => h9) rfl (v := .int (σ 0 36)) rfl dX8_sumOfCosts_6 ?_
  refine lv_icmp_ge (tgt := 26) hx hb dX8_sumOfCosts_9 (by decide) (fun c5 => ?_) (fun c5 => ?_)
  · rw [if_pos c5] at hf
    refine lv_iload_n hx hb dX8_sumOfCosts_26 rfl (lv_at hl 1 rfl) ?_
    exact nb_rip hx hb hr hlocks hK hZ hZo hW  hf dX8_sumOfCosts_27
  · rw [if_neg c5] at hf
    refine lv_iload_n hx hb dX8_sumOfCosts_12 rfl (lv_at hl 1 rfl) ?_
    refine lv_aload_n hx hb dX8_sumOfCosts_13 rfl (lv_at hl 0 rfl) ?_
    refine lv_iload_n hx hb dX8_sumOfCosts_14 rfl (lv_at hl 2 rfl) ?_
    obtain ⟨r7, hc6, hf⟩ := nb_b_e hf
    refine nb_ci hW (va_runV (As := [.int x2]) (rest := [.int x1]) ⟨hx, hb, hml, hown, hts⟩ (c_X8_costOf l hinj hZo (N := N) hc6 ) (cwV 1 hts (xg_V tw5_194 tw5_196 tp3_12 tw1_10 tw5_197) rfl rfl rfl (by decide +kernel) ⟨Nat.le_of_ble_eq_true rfl, Nat.le_of_ble_eq_true rfl⟩) (nb_preV hK hZ hZo hW (k := 0) rfl rfl) rfl rfl hl.1 rfl (lv_room (Nat.le_of_ble_eq_true rfl)) dX8_sumOfCosts_15 ⟨Nat.zero_le _, Nat.zero_le _⟩) (fun H locs hW => ?_)
    refine lv_iadd hx hb dX8_sumOfCosts_18 ?_
    obtain ⟨x8, ex8, hf⟩ := nb_let_e hf
    refine nb_nami ex8 ?_
    refine lv_istore_n (lv' := [(1, .int x8), (0, .ref (G.2.1 0)), (2, .int x2)]) hx hb dX8_sumOfCosts_19 rfl hl (by decide) rfl (fun ls hl => ?_)
    refine lv_iinc (v := (x2 + 1)) (lv' := [(2, .int (x2 + 1)), (1, .int x8), (0, .ref (G.2.1 0))]) hx hb dX8_sumOfCosts_20 hl (k := 2) rfl rfl (by decide) rfl (fun ls hl => ?_)
    refine lv_goto (tgt := 4) hx hb dX8_sumOfCosts_23 (by decide) ?_
    exact ih4 _ _ hf _ _ _ hW (lv_sub hl [2, 1, 0] rfl)
def fX8_codesOf (N : Nat) (σ : nb_St)  : Option Int32 :=
  nb_lp2 (R := Int32) (fun ag3 (x1 : Int32) (x2 : Int32) =>
  (if (σ 0 36) ≤ x2 then
  some x1
  else
  nb_let (x1 * (6 : Int32)) fun x6 =>
  ag3 x6 (x2 + 1))) N (1 : Int32) (0 : Int32)
def rmX8_codesOf : Room := { frames := 0, cells := 0, slots := 0, locals := 0 }
def vsX8_codesOf : List Cond := .code yX8_codesOf cX8_codesOf 3 (some .int) :: xT
set_option maxHeartbeats 4000000 in
set_option maxRecDepth 100000 in
theorem c_X8_codesOf (l : Launch) {G : nb_G} {Z : State → Heap → Prop} (hinj : nb_inj xm_sh G.2.1) (hZo : nb_Zok (nb_A xm_sh G.2.1) Z) {N : Nat} {σ : nb_St}  {ro : Int32} (hf : fX8_codesOf N σ = some ro)  : Met l yX8_codesOf vsX8_codesOf rmX8_codesOf (nb_Pc G xm_sh Z σ [.ref (G.2.1 0)]) (nb_Qi G xm_sh Z ro σ) 0 0 (nb_A xm_sh G.2.1) := by
  refine Met.ofW (cc := cX8_codesOf) (maxL := 3) (ret := (some .int)) (by decide) rfl ?_
  intro p e s m args below meth c s₁ B hml hv
  obtain ⟨rfl, hP, hK, hZ⟩ := hv
  have hx := B.exec
  have hb := B.bytes
  have hr := B.returns
  have hts : ∀ w ∈ xT, w.before _ s = true := fun w h9 => atoms_spec (ws := vsX8_codesOf) B.pre w (List.mem_cons_of_mem _ h9)
  have hown : s.vm.findClass RX8 = some m.cls := findClass_of_methodNamed B.named
  have hlocks := B.notSynchronized
  have hW : nb_W G xm_sh s.heap σ s.heap [] := ⟨hP, va_S.rf⟩
  have hl := lv_entry ([.ref (G.2.1 0)]) (n := 3) (Nat.le_of_ble_eq_true rfl)
  rw [lg_entry_eq]
  generalize (lg_sl ([.ref (G.2.1 0)]) ++ List.replicate (3 - (lg_sl ([.ref (G.2.1 0)])).length) Slot.unset).toArray = ls at hl ⊢
  have hl : lv_has ls 3 [(0, .ref (G.2.1 0))] := hl
  show W p l e rmX8_codesOf s m ([.ref (G.2.1 0)]).toArray below meth c s.heap [] 0 0 (MQ below (nb_Qi G xm_sh Z ro σ) ([.ref (G.2.1 0)]).toArray s 0 0 (nb_A xm_sh G.2.1)) (F0 m 0 ls [])
  generalize hargs : ([.ref (G.2.1 0)] : List Value).toArray = args at hts ⊢
  unfold fX8_codesOf at hf
  obtain ⟨H, eH⟩ : ∃ H, H = s.heap := ⟨_, rfl⟩
  obtain ⟨locs, eL⟩ : ∃ L : List Loc, L = [] := ⟨_, rfl⟩
  have hW : nb_W G xm_sh s.heap σ H locs := by rw [eH, eL]; exact hW
  suffices hgo : W p l e rmX8_codesOf s m args below meth c H locs 0 0 (MQ below (nb_Qi G xm_sh Z ro σ) args s 0 0 (nb_A xm_sh G.2.1)) (F0 m 0 ls []) by rw [eH, eL] at hgo; exact hgo
  clear eH eL
  refine lv_iconst (v := (1 : Int32)) hx hb dX8_codesOf_0 (by decide) ?_
  refine lv_istore_n (lv' := [(1, .int (1 : Int32)), (0, .ref (G.2.1 0))]) hx hb dX8_codesOf_1 rfl hl (by decide) rfl (fun ls hl => ?_)
  refine lv_iconst (v := (0 : Int32)) hx hb dX8_codesOf_2 (by decide) ?_
  refine lv_istore_n (lv' := [(2, .int (0 : Int32)), (1, .int (1 : Int32)), (0, .ref (G.2.1 0))]) hx hb dX8_codesOf_3 rfl hl (by decide) rfl (fun ls hl => ?_)
  refine nb_w2 (P := fun (x1 : Int32) (x2 : Int32) => ∀ (H : Heap) (locs : List Loc) (ls : Array Slot), nb_W G xm_sh s.heap σ H locs → lv_has ls 3 [(0, .ref (G.2.1 0)), (1, .int x1), (2, .int x2)] → W p l e rmX8_codesOf s m args below meth c H locs 0 0 (MQ below (nb_Qi G xm_sh Z ro σ) args s 0 0 (nb_A xm_sh G.2.1)) (F0 m 4 ls [])) ?_ N _ _ hf H locs ls hW (lv_sub hl [2, 1, 0] rfl)
  intro ag3 ih4 x1 x2 hf H locs ls hW hl
  refine lv_iload_n hx hb dX8_codesOf_4 rfl (lv_at hl 2 rfl) ?_
  refine lv_aload_n hx hb dX8_codesOf_5 rfl (lv_at hl 0 rfl) ?_
  refine nb_get (C := RX8) (T := TX8) (N := 40) hx hb hts inT_X8 hown hK hW 0 rfl rfl 36 (by decide) (hts _ tw4_159) (fun _ h9 => h9) rfl (v := .int (σ 0 36)) rfl dX8_codesOf_6 ?_
  refine lv_icmp_ge (tgt := 23) hx hb dX8_codesOf_9 (by decide) (fun c5 => ?_) (fun c5 => ?_)
  · rw [if_pos c5] at hf
    refine lv_iload_n hx hb dX8_codesOf_23 rfl (lv_at hl 1 rfl) ?_
    exact nb_rip hx hb hr hlocks hK hZ hZo hW  hf dX8_codesOf_24
  · rw [if_neg c5] at hf
    refine lv_iload_n hx hb dX8_codesOf_12 rfl (lv_at hl 1 rfl) ?_
    refine lv_bipush (v := (6 : Int32)) hx hb dX8_codesOf_13 (by decide) ?_
    refine lv_imul hx hb dX8_codesOf_15 ?_
    obtain ⟨x6, ex6, hf⟩ := nb_let_e hf
    refine nb_nami ex6 ?_
    refine lv_istore_n (lv' := [(1, .int x6), (0, .ref (G.2.1 0)), (2, .int x2)]) hx hb dX8_codesOf_16 rfl hl (by decide) rfl (fun ls hl => ?_)
    refine lv_iinc (v := (x2 + 1)) (lv' := [(2, .int (x2 + 1)), (1, .int x6), (0, .ref (G.2.1 0))]) hx hb dX8_codesOf_17 hl (k := 2) rfl rfl (by decide) rfl (fun ls hl => ?_)
    refine lv_goto (tgt := 4) hx hb dX8_codesOf_20 (by decide) ?_
    exact ih4 _ _ hf _ _ _ hW (lv_sub hl [2, 1, 0] rfl)
def fX8_rests (N : Nat) (σ : nb_St) (a0 : Int32) : Option (Int32 × nb_St) :=
  nb_b (fX8_layGame N σ) fun σ2 =>
  nb_b (fX8_in N σ2 ((a0).toInt64) (-1 : Int64) ((((σ2 0 36) - (1 : Int32))).toInt64)) fun r4 =>
  (if r4 = 0 then
  some ((-1 : Int32), σ2)
  else
  nb_lp3 (R := (Int32 × nb_St)) (fun ag9 (x6 : Int32) (x7 : Int32) (σ8 : nb_St) =>
  nb_b (fX8_codesOf N σ8) fun r12 =>
  (if r12 ≤ x7 then
  (if 0 ≤ a0 then
  some ((-4 : Int32), σ8)
  else
  some (x6, σ8))
  else
  nb_b (fX8_takeSlots N σ8 x7) fun σ16 =>
  nb_b2 (fX8_isRest N σ16) fun r18 σ19 =>
  nb_let (fun (x22 : Int32) =>
  ag9 x22 (x7 + 1) σ19) fun k20 =>
  (if r18 = 0 then
  k20 x6
  else
  (if a0 < 0 then
  k20 (x6 + 1)
  else
  nb_g (nb_in a0 4) (
  some ((σ19 31 (nb_ix a0)), σ19)))))) N (0 : Int32) (0 : Int32) σ2)
def rmX8_rests : Room := { frames := 3, cells := 0, slots := 0, locals := 69 }
def vsX8_rests : List Cond := .code yX8_rests cX8_rests 4 (some .int) :: xT
set_option maxHeartbeats 4000000 in
set_option maxRecDepth 100000 in
theorem c_X8_rests (l : Launch) {G : nb_G} {Z : State → Heap → Prop} (hinj : nb_inj xm_sh G.2.1) (hZo : nb_Zok (nb_A xm_sh G.2.1) Z) {N : Nat} {σ : nb_St} {a0 : Int32} {ro : Int32} {σo : nb_St} (hf : fX8_rests N σ a0 = some (ro, σo))  : Met l yX8_rests vsX8_rests rmX8_rests (nb_Pc G xm_sh Z σ [.ref (G.2.1 0), .int a0]) (nb_Qi G xm_sh Z ro σo) 0 0 (nb_A xm_sh G.2.1) := by
  refine Met.ofW (cc := cX8_rests) (maxL := 4) (ret := (some .int)) (by decide) rfl ?_
  intro p e s m args below meth c s₁ B hml hv
  obtain ⟨rfl, hP, hK, hZ⟩ := hv
  have hx := B.exec
  have hb := B.bytes
  have hr := B.returns
  have hts : ∀ w ∈ xT, w.before _ s = true := fun w h9 => atoms_spec (ws := vsX8_rests) B.pre w (List.mem_cons_of_mem _ h9)
  have hown : s.vm.findClass RX8 = some m.cls := findClass_of_methodNamed B.named
  have hlocks := B.notSynchronized
  have hW : nb_W G xm_sh s.heap σ s.heap [] := ⟨hP, va_S.rf⟩
  have hl := lv_entry ([.ref (G.2.1 0), .int a0]) (n := 4) (Nat.le_of_ble_eq_true rfl)
  rw [lg_entry_eq]
  generalize (lg_sl ([.ref (G.2.1 0), .int a0]) ++ List.replicate (4 - (lg_sl ([.ref (G.2.1 0), .int a0])).length) Slot.unset).toArray = ls at hl ⊢
  have hl : lv_has ls 4 [(0, .ref (G.2.1 0)), (1, .int a0)] := hl
  show W p l e rmX8_rests s m ([.ref (G.2.1 0), .int a0]).toArray below meth c s.heap [] 0 0 (MQ below (nb_Qi G xm_sh Z ro σo) ([.ref (G.2.1 0), .int a0]).toArray s 0 0 (nb_A xm_sh G.2.1)) (F0 m 0 ls [])
  generalize hargs : ([.ref (G.2.1 0), .int a0] : List Value).toArray = args at hts ⊢
  unfold fX8_rests at hf
  obtain ⟨H, eH⟩ : ∃ H, H = s.heap := ⟨_, rfl⟩
  obtain ⟨locs, eL⟩ : ∃ L : List Loc, L = [] := ⟨_, rfl⟩
  have hW : nb_W G xm_sh s.heap σ H locs := by rw [eH, eL]; exact hW
  suffices hgo : W p l e rmX8_rests s m args below meth c H locs 0 0 (MQ below (nb_Qi G xm_sh Z ro σo) args s 0 0 (nb_A xm_sh G.2.1)) (F0 m 0 ls []) by rw [eH, eL] at hgo; exact hgo
  clear eH eL
  refine lv_aload_n hx hb dX8_rests_0 rfl (lv_at hl 0 rfl) ?_
  obtain ⟨σ2, hc1, hf⟩ := nb_b_e hf
  refine nb_cv hW (va_runV (As := []) (rest := []) ⟨hx, hb, hml, hown, hts⟩ (c_X8_layGame l hinj hZo (N := N) hc1 ) (cwV 0 hts (xg_V tw5_189 tw5_191 tp3_11 tw1_10 tw5_192) rfl rfl rfl (by decide +kernel) ⟨Nat.le_of_ble_eq_true rfl, Nat.le_of_ble_eq_true rfl⟩) (nb_preV hK hZ hZo hW (k := 0) rfl rfl) rfl rfl hl.1 rfl (lv_room (Nat.le_of_ble_eq_true rfl)) dX8_rests_1 ⟨Nat.zero_le _, Nat.zero_le _⟩) (fun H locs hW => ?_)
  refine lv_iload_n hx hb dX8_rests_4 rfl (lv_at hl 1 rfl) ?_
  refine lv_i2l hx hb dX8_rests_5 rfl ?_
  refine lv_ldc2 (own := RX8) (v := (-1 : Int64)) hx hb hown (hts _ tw5_180) dX8_rests_6 ?_
  refine lv_aload_n hx hb dX8_rests_9 rfl (lv_at hl 0 rfl) ?_
  refine nb_get (C := RX8) (T := TX8) (N := 40) hx hb hts inT_X8 hown hK hW 0 rfl rfl 36 (by decide) (hts _ tw4_159) (fun _ h9 => h9) rfl (v := .int (σ2 0 36)) rfl dX8_rests_10 ?_
  refine lv_iconst (v := (1 : Int32)) hx hb dX8_rests_13 (by decide) ?_
  refine lv_isub hx hb dX8_rests_14 ?_
  refine lv_i2l hx hb dX8_rests_15 rfl ?_
  obtain ⟨r4, hc3, hf⟩ := nb_b_e hf
  refine nb_ci hW (va_runS (As := [.long ((a0).toInt64), .long (-1 : Int64), .long ((((σ2 0 36) - (1 : Int32))).toInt64)]) (rest := []) ⟨hx, hb, hml, hown, hts⟩ (c_X8_in l hinj hZo (N := N) hc3 ) (va_cwS 3 hts (xg_S tw5_9 tw5_10 tw1_10 tw5_11) rfl rfl rfl (by decide +kernel) ⟨Nat.le_of_ble_eq_true rfl, Nat.le_of_ble_eq_true rfl⟩) (nb_preS hK hZ hZo hW) rfl rfl hl.1 rfl (lv_room (Nat.le_of_ble_eq_true rfl)) dX8_rests_16 ⟨Nat.zero_le _, Nat.zero_le _⟩) (fun H locs hW => ?_)
  refine lv_if_ne (tgt := 24) hx hb dX8_rests_19 (by decide) (fun c5 => ?_) (fun c5 => ?_)
  · rw [if_neg c5] at hf
    refine lv_iconst (v := (0 : Int32)) hx hb dX8_rests_24 (by decide) ?_
    refine lv_istore_n (lv' := [(2, .int (0 : Int32)), (0, .ref (G.2.1 0)), (1, .int a0)]) hx hb dX8_rests_25 rfl hl (by decide) rfl (fun ls hl => ?_)
    refine lv_iconst (v := (0 : Int32)) hx hb dX8_rests_26 (by decide) ?_
    refine lv_istore_n (lv' := [(3, .int (0 : Int32)), (2, .int (0 : Int32)), (0, .ref (G.2.1 0)), (1, .int a0)]) hx hb dX8_rests_27 rfl hl (by decide) rfl (fun ls hl => ?_)
    refine nb_w3 (P := fun (x6 : Int32) (x7 : Int32) (σ8 : nb_St) => ∀ (H : Heap) (locs : List Loc) (ls : Array Slot), nb_W G xm_sh s.heap σ8 H locs → lv_has ls 4 [(0, .ref (G.2.1 0)), (1, .int a0), (2, .int x6), (3, .int x7)] → W p l e rmX8_rests s m args below meth c H locs 0 0 (MQ below (nb_Qi G xm_sh Z ro σo) args s 0 0 (nb_A xm_sh G.2.1)) (F0 m 28 ls [])) ?_ N _ _ _ hf H locs ls hW (lv_sub hl [2, 3, 1, 0] rfl)
    intro ag9 ih10 x6 x7 σ8 hf H locs ls hW hl
    refine lv_iload_n hx hb dX8_rests_28 rfl (lv_at hl 3 rfl) ?_
    refine lv_aload_n hx hb dX8_rests_29 rfl (lv_at hl 0 rfl) ?_
    obtain ⟨r12, hc11, hf⟩ := nb_b_e hf
    refine nb_ci hW (va_runV (As := []) (rest := [.int x7]) ⟨hx, hb, hml, hown, hts⟩ (c_X8_codesOf l hinj hZo (N := N) hc11 ) (cwV 0 hts (xg_V tw5_202 tw5_204 tp3_13 tw1_10 tw5_205) rfl rfl rfl (by decide +kernel) ⟨Nat.le_of_ble_eq_true rfl, Nat.le_of_ble_eq_true rfl⟩) (nb_preV hK hZ hZo hW (k := 0) rfl rfl) rfl rfl hl.1 rfl (lv_room (Nat.le_of_ble_eq_true rfl)) dX8_rests_30 ⟨Nat.zero_le _, Nat.zero_le _⟩) (fun H locs hW => ?_)
    refine lv_icmp_ge (tgt := 68) hx hb dX8_rests_33 (by decide) (fun c13 => ?_) (fun c13 => ?_)
    · rw [if_pos c13] at hf
      refine lv_iload_n hx hb dX8_rests_68 rfl (lv_at hl 1 rfl) ?_
      refine lv_if_ge (tgt := 76) hx hb dX8_rests_69 (by decide) (fun c14 => ?_) (fun c14 => ?_)
      · rw [if_pos c14] at hf
        refine lv_bipush (v := (-4 : Int32)) hx hb dX8_rests_76 (by decide) ?_
        exact nb_ri hx hb hr hlocks hK hZ hZo hW  hf dX8_rests_78
      · rw [if_neg c14] at hf
        refine lv_iload_n hx hb dX8_rests_72 rfl (lv_at hl 2 rfl) ?_
        refine lv_goto (tgt := 78) hx hb dX8_rests_73 (by decide) ?_
        exact nb_ri hx hb hr hlocks hK hZ hZo hW  hf dX8_rests_78
    · rw [if_neg c13] at hf
      refine lv_aload_n hx hb dX8_rests_36 rfl (lv_at hl 0 rfl) ?_
      refine lv_iload_n hx hb dX8_rests_37 rfl (lv_at hl 3 rfl) ?_
      obtain ⟨σ16, hc15, hf⟩ := nb_b_e hf
      refine nb_cv hW (va_runV (As := [.int x7]) (rest := []) ⟨hx, hb, hml, hown, hts⟩ (c_X8_takeSlots l hinj hZo (N := N) hc15 ) (cwV 1 hts (xg_V tw5_206 tw5_208 tp3_14 tw1_10 tw5_209) rfl rfl rfl (by decide +kernel) ⟨Nat.le_of_ble_eq_true rfl, Nat.le_of_ble_eq_true rfl⟩) (nb_preV hK hZ hZo hW (k := 0) rfl rfl) rfl rfl hl.1 rfl (lv_room (Nat.le_of_ble_eq_true rfl)) dX8_rests_38 ⟨Nat.zero_le _, Nat.zero_le _⟩) (fun H locs hW => ?_)
      refine lv_aload_n hx hb dX8_rests_41 rfl (lv_at hl 0 rfl) ?_
      obtain ⟨r18, σ19, hc17, hf⟩ := nb_b2_e hf
      refine nb_ci hW (va_runV (As := []) (rest := []) ⟨hx, hb, hml, hown, hts⟩ (c_X8_isRest l hinj hZo (N := N) hc17 ) (cwV 0 hts (xg_V tw5_210 tw5_212 tp3_15 tw1_10 tw5_213) rfl rfl rfl (by decide +kernel) ⟨Nat.le_of_ble_eq_true rfl, Nat.le_of_ble_eq_true rfl⟩) (nb_preV hK hZ hZo hW (k := 0) rfl rfl) rfl rfl hl.1 rfl (lv_room (Nat.le_of_ble_eq_true rfl)) dX8_rests_42 ⟨Nat.zero_le _, Nat.zero_le _⟩) (fun H locs hW => ?_)
      obtain ⟨k20, ek20, hf⟩ := nb_let_e hf
      have w21 : ∀ (x22 : Int32) (H : Heap) (locs : List Loc) (ls : Array Slot), k20 x22 = some (ro, σo) → nb_W G xm_sh s.heap σ19 H locs → lv_has ls 4 [(0, .ref (G.2.1 0)), (1, .int a0), (2, .int x22), (3, .int x7)] → W p l e rmX8_rests s m args below meth c H locs 0 0 (MQ below (nb_Qi G xm_sh Z ro σo) args s 0 0 (nb_A xm_sh G.2.1)) (F0 m 62 ls []) := by
        intro x22 H locs ls hf hW hl
        have hf := (congrFun ek20 x22).symm.trans hf
        refine lv_iinc (v := (x7 + 1)) (lv' := [(3, .int (x7 + 1)), (0, .ref (G.2.1 0)), (1, .int a0), (2, .int x22)]) hx hb dX8_rests_62 hl (k := 3) rfl rfl (by decide) rfl (fun ls hl => ?_)
        refine lv_goto (tgt := 28) hx hb dX8_rests_65 (by decide) ?_
        exact ih10 _ _ _ hf _ _ _ hW (lv_sub hl [1, 2, 3, 0] rfl)
      clear ek20
      refine lv_if_eq (tgt := 62) hx hb dX8_rests_45 (by decide) (fun c23 => ?_) (fun c23 => ?_)
      · rw [if_pos c23] at hf
        exact w21 _ _ _ _ hf hW (lv_sub hl [0, 1, 2, 3] rfl)
      · rw [if_neg c23] at hf
        refine lv_iload_n hx hb dX8_rests_48 rfl (lv_at hl 1 rfl) ?_
        refine lv_if_lt (tgt := 59) hx hb dX8_rests_49 (by decide) (fun c24 => ?_) (fun c24 => ?_)
        · rw [if_pos c24] at hf
          refine lv_iinc (v := (x6 + 1)) (lv' := [(2, .int (x6 + 1)), (0, .ref (G.2.1 0)), (1, .int a0), (3, .int x7)]) hx hb dX8_rests_59 hl (k := 2) rfl rfl (by decide) rfl (fun ls hl => ?_)
          exact w21 _ _ _ _ hf hW (lv_sub hl [1, 2, 0, 3] rfl)
        · rw [if_neg c24] at hf
          refine lv_aload_n hx hb dX8_rests_52 rfl (lv_at hl 0 rfl) ?_
          refine nb_get (C := RX8) (T := TX8) (N := 40) hx hb hts inT_X8 hown hK hW 0 rfl rfl 39 (by decide) (hts _ tw4_162) (fun _ h9 => h9) rfl (v := .ref (G.2.1 31)) rfl dX8_rests_53 ?_
          refine lv_iload_n hx hb dX8_rests_56 rfl (lv_at hl 1 rfl) ?_
          obtain ⟨g25, hf⟩ := nb_g_e hf
          refine nb_iald hx hb hK hW 31 rfl g25 dX8_rests_57 ?_
          exact nb_ri hx hb hr hlocks hK hZ hZo hW  hf dX8_rests_58
  · rw [if_pos c5] at hf
    refine lv_iconst (v := (-1 : Int32)) hx hb dX8_rests_22 (by decide) ?_
    exact nb_ri hx hb hr hlocks hK hZ hZo hW  hf dX8_rests_23
