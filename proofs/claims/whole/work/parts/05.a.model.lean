def fX8_in (N : Nat) (σ : nb_St) (a0 : Int64) (a1 : Int64) (a2 : Int64) : Option Int32 :=
  nb_let (fun (_u : Unit) =>
  some (0 : Int32)) fun k1 =>
  (if (lg_cmp a0 a1) < 0 then
  k1 ()
  else
  (if 0 < (lg_cmp a0 a2) then
  k1 ()
  else
  some (1 : Int32)))
def rmX8_in : Room := { frames := 0, cells := 0, slots := 0, locals := 0 }
def vsX8_in : List Cond := .code yX8_in cX8_in 6 (some .boolean) :: xT
set_option maxHeartbeats 4000000 in
set_option maxRecDepth 100000 in
theorem c_X8_in (l : Launch) {G : nb_G} {Z : State → Heap → Prop} (hinj : nb_inj xm_sh G.2.1) (hZo : nb_Zok (nb_A xm_sh G.2.1) Z) {N : Nat} {σ : nb_St} {a0 : Int64} {a1 : Int64} {a2 : Int64} {ro : Int32} (hf : fX8_in N σ a0 a1 a2 = some ro)  : Met l yX8_in vsX8_in rmX8_in (nb_Pc G xm_sh Z σ [.long a0, .long a1, .long a2]) (nb_Qi G xm_sh Z ro σ) 0 0 (nb_A xm_sh G.2.1) := by
  refine Met.ofW (cc := cX8_in) (maxL := 6) (ret := (some .boolean)) (by decide) rfl ?_
  intro p e s m args below meth c s₁ B hml hv
  obtain ⟨rfl, hP, hK, hZ⟩ := hv
  have hx := B.exec
  have hb := B.bytes
  have hr := B.returns
  have hts : ∀ w ∈ xT, w.before _ s = true := fun w h9 => atoms_spec (ws := vsX8_in) B.pre w (List.mem_cons_of_mem _ h9)
  have hown : s.vm.findClass RX8 = some m.cls := findClass_of_methodNamed B.named
  have hlocks := B.notSynchronized
  have hW : nb_W G xm_sh s.heap σ s.heap [] := ⟨hP, va_S.rf⟩
  have hl := lv_entry ([.long a0, .long a1, .long a2]) (n := 6) (Nat.le_of_ble_eq_true rfl)
  rw [lg_entry_eq]
  generalize (lg_sl ([.long a0, .long a1, .long a2]) ++ List.replicate (6 - (lg_sl ([.long a0, .long a1, .long a2])).length) Slot.unset).toArray = ls at hl ⊢
  have hl : lv_has ls 6 [(0, .long a0), (2, .long a1), (4, .long a2)] := hl
  show W p l e rmX8_in s m ([.long a0, .long a1, .long a2]).toArray below meth c s.heap [] 0 0 (MQ below (nb_Qi G xm_sh Z ro σ) ([.long a0, .long a1, .long a2]).toArray s 0 0 (nb_A xm_sh G.2.1)) (F0 m 0 ls [])
  generalize hargs : ([.long a0, .long a1, .long a2] : List Value).toArray = args at hts ⊢
  unfold fX8_in at hf
  obtain ⟨H, eH⟩ : ∃ H, H = s.heap := ⟨_, rfl⟩
  obtain ⟨locs, eL⟩ : ∃ L : List Loc, L = [] := ⟨_, rfl⟩
  have hW : nb_W G xm_sh s.heap σ H locs := by rw [eH, eL]; exact hW
  suffices hgo : W p l e rmX8_in s m args below meth c H locs 0 0 (MQ below (nb_Qi G xm_sh Z ro σ) args s 0 0 (nb_A xm_sh G.2.1)) (F0 m 0 ls []) by rw [eH, eL] at hgo; exact hgo
  clear eH eL
  refine lv_lload_n hx hb dX8_in_0 rfl (lv_at hl 0 rfl) ?_
  refine lv_lload_n hx hb dX8_in_1 rfl (lv_at hl 1 rfl) ?_
  refine W.lcmp hx hb dX8_in_2 ?_
  obtain ⟨k1, ek1, hf⟩ := nb_let_e hf
  have w2 : ∀ (_u : Unit) (H : Heap) (locs : List Loc) (ls : Array Slot), k1 _u = some ro → nb_W G xm_sh s.heap σ H locs → lv_has ls 6 [] → W p l e rmX8_in s m args below meth c H locs 0 0 (MQ below (nb_Qi G xm_sh Z ro σ) args s 0 0 (nb_A xm_sh G.2.1)) (F0 m 17 ls []) := by
    intro _u H locs ls hf hW hl
    have hf := (congrFun ek1 _u).symm.trans hf
    refine lv_iconst (v := (0 : Int32)) hx hb dX8_in_17 (by decide) ?_
    exact nb_rzp hx hb hr hlocks hK hZ hZo hW rfl hf dX8_in_18
  clear ek1
  refine lv_if_lt (tgt := 17) hx hb dX8_in_3 (by decide) (fun c3 => ?_) (fun c3 => ?_)
  · rw [if_pos c3] at hf
    exact w2 ()  _ _ _ hf hW (lv_sub hl [] rfl)
  · rw [if_neg c3] at hf
    refine lv_lload_n hx hb dX8_in_6 rfl (lv_at hl 0 rfl) ?_
    refine lv_lload hx hb dX8_in_7 (lv_at hl 2 rfl) ?_
    refine W.lcmp hx hb dX8_in_9 ?_
    refine lv_if_gt (tgt := 17) hx hb dX8_in_10 (by decide) (fun c4 => ?_) (fun c4 => ?_)
    · rw [if_pos c4] at hf
      exact w2 ()  _ _ _ hf hW (lv_sub hl [] rfl)
    · rw [if_neg c4] at hf
      refine lv_iconst (v := (1 : Int32)) hx hb dX8_in_13 (by decide) ?_
      refine lv_goto (tgt := 18) hx hb dX8_in_14 (by decide) ?_
      exact nb_rzp hx hb hr hlocks hK hZ hZo hW rfl hf dX8_in_18
def fX8_has (N : Nat) (σ : nb_St) (a0 : Int32) (a1 : Int32) : Option Int32 :=
  (if ((a0 >>> (a1 &&& 31)) &&& (1 : Int32)) = (1 : Int32) then
  some (1 : Int32)
  else
  some (0 : Int32))
def rmX8_has : Room := { frames := 0, cells := 0, slots := 0, locals := 0 }
def vsX8_has : List Cond := .code yX8_has cX8_has 2 (some .boolean) :: xT
set_option maxHeartbeats 4000000 in
set_option maxRecDepth 100000 in
theorem c_X8_has (l : Launch) {G : nb_G} {Z : State → Heap → Prop} (hinj : nb_inj xm_sh G.2.1) (hZo : nb_Zok (nb_A xm_sh G.2.1) Z) {N : Nat} {σ : nb_St} {a0 : Int32} {a1 : Int32} {ro : Int32} (hf : fX8_has N σ a0 a1 = some ro)  : Met l yX8_has vsX8_has rmX8_has (nb_Pc G xm_sh Z σ [.int a0, .int a1]) (nb_Qi G xm_sh Z ro σ) 0 0 (nb_A xm_sh G.2.1) := by
  refine Met.ofW (cc := cX8_has) (maxL := 2) (ret := (some .boolean)) (by decide) rfl ?_
  intro p e s m args below meth c s₁ B hml hv
  obtain ⟨rfl, hP, hK, hZ⟩ := hv
  have hx := B.exec
  have hb := B.bytes
  have hr := B.returns
  have hts : ∀ w ∈ xT, w.before _ s = true := fun w h9 => atoms_spec (ws := vsX8_has) B.pre w (List.mem_cons_of_mem _ h9)
  have hown : s.vm.findClass RX8 = some m.cls := findClass_of_methodNamed B.named
  have hlocks := B.notSynchronized
  have hW : nb_W G xm_sh s.heap σ s.heap [] := ⟨hP, va_S.rf⟩
  have hl := lv_entry ([.int a0, .int a1]) (n := 2) (Nat.le_of_ble_eq_true rfl)
  rw [lg_entry_eq]
  generalize (lg_sl ([.int a0, .int a1]) ++ List.replicate (2 - (lg_sl ([.int a0, .int a1])).length) Slot.unset).toArray = ls at hl ⊢
  have hl : lv_has ls 2 [(0, .int a0), (1, .int a1)] := hl
  show W p l e rmX8_has s m ([.int a0, .int a1]).toArray below meth c s.heap [] 0 0 (MQ below (nb_Qi G xm_sh Z ro σ) ([.int a0, .int a1]).toArray s 0 0 (nb_A xm_sh G.2.1)) (F0 m 0 ls [])
  generalize hargs : ([.int a0, .int a1] : List Value).toArray = args at hts ⊢
  unfold fX8_has at hf
  obtain ⟨H, eH⟩ : ∃ H, H = s.heap := ⟨_, rfl⟩
  obtain ⟨locs, eL⟩ : ∃ L : List Loc, L = [] := ⟨_, rfl⟩
  have hW : nb_W G xm_sh s.heap σ H locs := by rw [eH, eL]; exact hW
  suffices hgo : W p l e rmX8_has s m args below meth c H locs 0 0 (MQ below (nb_Qi G xm_sh Z ro σ) args s 0 0 (nb_A xm_sh G.2.1)) (F0 m 0 ls []) by rw [eH, eL] at hgo; exact hgo
  clear eH eL
  refine lv_iload_n hx hb dX8_has_0 rfl (lv_at hl 0 rfl) ?_
  refine lv_iload_n hx hb dX8_has_1 rfl (lv_at hl 1 rfl) ?_
  refine lv_ishr hx hb dX8_has_2 ?_
  refine lv_iconst (v := (1 : Int32)) hx hb dX8_has_3 (by decide) ?_
  refine lv_iand hx hb dX8_has_4 ?_
  refine lv_iconst (v := (1 : Int32)) hx hb dX8_has_5 (by decide) ?_
  refine lv_icmp_ne (tgt := 13) hx hb dX8_has_6 (by decide) (fun c1 => ?_) (fun c1 => ?_)
  · rw [if_neg c1] at hf
    refine lv_iconst (v := (0 : Int32)) hx hb dX8_has_13 (by decide) ?_
    exact nb_rzp hx hb hr hlocks hK hZ hZo hW rfl hf dX8_has_14
  · rw [if_pos c1] at hf
    refine lv_iconst (v := (1 : Int32)) hx hb dX8_has_9 (by decide) ?_
    refine lv_goto (tgt := 14) hx hb dX8_has_10 (by decide) ?_
    exact nb_rzp hx hb hr hlocks hK hZ hZo hW rfl hf dX8_has_14
def fX8_noEvening (N : Nat) (σ : nb_St) (a0 : Int32) : Option nb_St :=
  nb_g (nb_in a0 2) (
  nb_let (nb_st σ 2 (nb_ix a0) (0 : Int32)) fun σ2 =>
  nb_g (nb_in a0 2) (
  nb_let (nb_st σ2 7 (nb_ix a0) (0 : Int32)) fun σ4 =>
  nb_g (nb_in a0 2) (
  nb_let (nb_st σ4 10 (nb_ix a0) (15 : Int32)) fun σ6 =>
  nb_g (nb_in a0 2) (
  nb_let (nb_st σ6 11 (nb_ix a0) (20 : Int32)) fun σ8 =>
  nb_g (nb_in a0 2) (
  nb_let (nb_st σ8 12 (nb_ix a0) (240 : Int32)) fun σ10 =>
  nb_g (nb_in a0 2) (
  nb_let (nb_st σ10 15 (nb_ix a0) (0 : Int32)) fun σ12 =>
  nb_g (nb_in a0 4) (
  nb_let (nb_st σ12 19 (nb_ix a0) (0 : Int32)) fun σ14 =>
  nb_g (nb_in a0 4) (
  nb_let (nb_st σ14 22 (nb_ix a0) (0 : Int32)) fun σ16 =>
  nb_lp2 (R := nb_St) (fun ag19 (x17 : Int32) (σ18 : nb_St) =>
  (if (3 : Int32) ≤ x17 then
  some σ18
  else
  nb_g (nb_in (((3 : Int32) * a0) + x17) 6) (
  nb_let (nb_st σ18 13 (nb_ix (((3 : Int32) * a0) + x17)) (0 : Int32)) fun σ23 =>
  nb_g (nb_in (((3 : Int32) * a0) + x17) 6) (
  nb_let (nb_st σ23 14 (nb_ix (((3 : Int32) * a0) + x17)) (0 : Int32)) fun σ25 =>
  ag19 (x17 + 1) σ25)))) N (0 : Int32) σ16))))))))
def rmX8_noEvening : Room := { frames := 0, cells := 0, slots := 0, locals := 0 }
def vsX8_noEvening : List Cond := .code yX8_noEvening cX8_noEvening 3 none :: xT
set_option maxHeartbeats 4000000 in
set_option maxRecDepth 100000 in
theorem c_X8_noEvening (l : Launch) {G : nb_G} {Z : State → Heap → Prop} (hinj : nb_inj xm_sh G.2.1) (hZo : nb_Zok (nb_A xm_sh G.2.1) Z) {N : Nat} {σ : nb_St} {a0 : Int32} {σo : nb_St} (hf : fX8_noEvening N σ a0 = some σo)  : Met l yX8_noEvening vsX8_noEvening rmX8_noEvening (nb_Pc G xm_sh Z σ [.ref (G.2.1 0), .int a0]) (nb_Qv G xm_sh Z σo) 0 0 (nb_A xm_sh G.2.1) := by
  refine Met.ofW (cc := cX8_noEvening) (maxL := 3) (ret := none) (by decide) rfl ?_
  intro p e s m args below meth c s₁ B hml hv
  obtain ⟨rfl, hP, hK, hZ⟩ := hv
  have hx := B.exec
  have hb := B.bytes
  have hr := B.returns
  have hts : ∀ w ∈ xT, w.before _ s = true := fun w h9 => atoms_spec (ws := vsX8_noEvening) B.pre w (List.mem_cons_of_mem _ h9)
  have hown : s.vm.findClass RX8 = some m.cls := findClass_of_methodNamed B.named
  have hlocks := B.notSynchronized
  have hW : nb_W G xm_sh s.heap σ s.heap [] := ⟨hP, va_S.rf⟩
  have hl := lv_entry ([.ref (G.2.1 0), .int a0]) (n := 3) (Nat.le_of_ble_eq_true rfl)
  rw [lg_entry_eq]
  generalize (lg_sl ([.ref (G.2.1 0), .int a0]) ++ List.replicate (3 - (lg_sl ([.ref (G.2.1 0), .int a0])).length) Slot.unset).toArray = ls at hl ⊢
  have hl : lv_has ls 3 [(0, .ref (G.2.1 0)), (1, .int a0)] := hl
  show W p l e rmX8_noEvening s m ([.ref (G.2.1 0), .int a0]).toArray below meth c s.heap [] 0 0 (MQ below (nb_Qv G xm_sh Z σo) ([.ref (G.2.1 0), .int a0]).toArray s 0 0 (nb_A xm_sh G.2.1)) (F0 m 0 ls [])
  generalize hargs : ([.ref (G.2.1 0), .int a0] : List Value).toArray = args at hts ⊢
  unfold fX8_noEvening at hf
  obtain ⟨H, eH⟩ : ∃ H, H = s.heap := ⟨_, rfl⟩
  obtain ⟨locs, eL⟩ : ∃ L : List Loc, L = [] := ⟨_, rfl⟩
  have hW : nb_W G xm_sh s.heap σ H locs := by rw [eH, eL]; exact hW
  suffices hgo : W p l e rmX8_noEvening s m args below meth c H locs 0 0 (MQ below (nb_Qv G xm_sh Z σo) args s 0 0 (nb_A xm_sh G.2.1)) (F0 m 0 ls []) by rw [eH, eL] at hgo; exact hgo
  clear eH eL
  refine lv_aload_n hx hb dX8_noEvening_0 rfl (lv_at hl 0 rfl) ?_
  refine nb_get (C := RX8) (T := TX8) (N := 40) hx hb hts inT_X8 hown hK hW 0 rfl rfl 2 (by decide) (hts _ tw4_125) (fun _ h9 => h9) rfl (v := .ref (G.2.1 2)) rfl dX8_noEvening_1 ?_
  refine lv_iload_n hx hb dX8_noEvening_4 rfl (lv_at hl 1 rfl) ?_
  refine lv_iconst (v := (0 : Int32)) hx hb dX8_noEvening_5 (by decide) ?_
  obtain ⟨g1, hf⟩ := nb_g_e hf
  obtain ⟨σ2, eσ2, hf⟩ := nb_let_e hf
  refine nb_iast hx hb hK hinj hW 2 rfl g1 eσ2 dX8_noEvening_6 (fun H locs hW => ?_)
  refine lv_aload_n hx hb dX8_noEvening_7 rfl (lv_at hl 0 rfl) ?_
  refine nb_get (C := RX8) (T := TX8) (N := 40) hx hb hts inT_X8 hown hK hW 0 rfl rfl 7 (by decide) (hts _ tw4_130) (fun _ h9 => h9) rfl (v := .ref (G.2.1 7)) rfl dX8_noEvening_8 ?_
  refine lv_iload_n hx hb dX8_noEvening_11 rfl (lv_at hl 1 rfl) ?_
  refine lv_iconst (v := (0 : Int32)) hx hb dX8_noEvening_12 (by decide) ?_
  obtain ⟨g3, hf⟩ := nb_g_e hf
  obtain ⟨σ4, eσ4, hf⟩ := nb_let_e hf
  refine nb_iast hx hb hK hinj hW 7 rfl g3 eσ4 dX8_noEvening_13 (fun H locs hW => ?_)
  refine lv_aload_n hx hb dX8_noEvening_14 rfl (lv_at hl 0 rfl) ?_
  refine nb_get (C := RX8) (T := TX8) (N := 40) hx hb hts inT_X8 hown hK hW 0 rfl rfl 10 (by decide) (hts _ tw4_133) (fun _ h9 => h9) rfl (v := .ref (G.2.1 10)) rfl dX8_noEvening_15 ?_
  refine lv_iload_n hx hb dX8_noEvening_18 rfl (lv_at hl 1 rfl) ?_
  refine lv_bipush (v := (15 : Int32)) hx hb dX8_noEvening_19 (by decide) ?_
  obtain ⟨g5, hf⟩ := nb_g_e hf
  obtain ⟨σ6, eσ6, hf⟩ := nb_let_e hf
  refine nb_iast hx hb hK hinj hW 10 rfl g5 eσ6 dX8_noEvening_21 (fun H locs hW => ?_)
  refine lv_aload_n hx hb dX8_noEvening_22 rfl (lv_at hl 0 rfl) ?_
  refine nb_get (C := RX8) (T := TX8) (N := 40) hx hb hts inT_X8 hown hK hW 0 rfl rfl 11 (by decide) (hts _ tw4_134) (fun _ h9 => h9) rfl (v := .ref (G.2.1 11)) rfl dX8_noEvening_23 ?_
  refine lv_iload_n hx hb dX8_noEvening_26 rfl (lv_at hl 1 rfl) ?_
  refine lv_bipush (v := (20 : Int32)) hx hb dX8_noEvening_27 (by decide) ?_
  obtain ⟨g7, hf⟩ := nb_g_e hf
  obtain ⟨σ8, eσ8, hf⟩ := nb_let_e hf
  refine nb_iast hx hb hK hinj hW 11 rfl g7 eσ8 dX8_noEvening_29 (fun H locs hW => ?_)
  refine lv_aload_n hx hb dX8_noEvening_30 rfl (lv_at hl 0 rfl) ?_
  refine nb_get (C := RX8) (T := TX8) (N := 40) hx hb hts inT_X8 hown hK hW 0 rfl rfl 12 (by decide) (hts _ tw4_135) (fun _ h9 => h9) rfl (v := .ref (G.2.1 12)) rfl dX8_noEvening_31 ?_
  refine lv_iload_n hx hb dX8_noEvening_34 rfl (lv_at hl 1 rfl) ?_
  refine lv_sipush (v := (240 : Int32)) hx hb dX8_noEvening_35 (by decide) ?_
  obtain ⟨g9, hf⟩ := nb_g_e hf
  obtain ⟨σ10, eσ10, hf⟩ := nb_let_e hf
  refine nb_iast hx hb hK hinj hW 12 rfl g9 eσ10 dX8_noEvening_38 (fun H locs hW => ?_)
  refine lv_aload_n hx hb dX8_noEvening_39 rfl (lv_at hl 0 rfl) ?_
  refine nb_get (C := RX8) (T := TX8) (N := 40) hx hb hts inT_X8 hown hK hW 0 rfl rfl 15 (by decide) (hts _ tw4_138) (fun _ h9 => h9) rfl (v := .ref (G.2.1 15)) rfl dX8_noEvening_40 ?_
  refine lv_iload_n hx hb dX8_noEvening_43 rfl (lv_at hl 1 rfl) ?_
  refine lv_iconst (v := (0 : Int32)) hx hb dX8_noEvening_44 (by decide) ?_
  obtain ⟨g11, hf⟩ := nb_g_e hf
  obtain ⟨σ12, eσ12, hf⟩ := nb_let_e hf
  refine nb_iast hx hb hK hinj hW 15 rfl g11 eσ12 dX8_noEvening_45 (fun H locs hW => ?_)
  refine lv_aload_n hx hb dX8_noEvening_46 rfl (lv_at hl 0 rfl) ?_
  refine nb_get (C := RX8) (T := TX8) (N := 40) hx hb hts inT_X8 hown hK hW 0 rfl rfl 19 (by decide) (hts _ tw4_142) (fun _ h9 => h9) rfl (v := .ref (G.2.1 19)) rfl dX8_noEvening_47 ?_
  refine lv_iload_n hx hb dX8_noEvening_50 rfl (lv_at hl 1 rfl) ?_
  refine lv_iconst (v := (0 : Int32)) hx hb dX8_noEvening_51 (by decide) ?_
  obtain ⟨g13, hf⟩ := nb_g_e hf
  obtain ⟨σ14, eσ14, hf⟩ := nb_let_e hf
  refine nb_iast hx hb hK hinj hW 19 rfl g13 eσ14 dX8_noEvening_52 (fun H locs hW => ?_)
  refine lv_aload_n hx hb dX8_noEvening_53 rfl (lv_at hl 0 rfl) ?_
  refine nb_get (C := RX8) (T := TX8) (N := 40) hx hb hts inT_X8 hown hK hW 0 rfl rfl 22 (by decide) (hts _ tw4_145) (fun _ h9 => h9) rfl (v := .ref (G.2.1 22)) rfl dX8_noEvening_54 ?_
  refine lv_iload_n hx hb dX8_noEvening_57 rfl (lv_at hl 1 rfl) ?_
  refine lv_iconst (v := (0 : Int32)) hx hb dX8_noEvening_58 (by decide) ?_
  obtain ⟨g15, hf⟩ := nb_g_e hf
  obtain ⟨σ16, eσ16, hf⟩ := nb_let_e hf
  refine nb_iast hx hb hK hinj hW 22 rfl g15 eσ16 dX8_noEvening_59 (fun H locs hW => ?_)
  refine lv_iconst (v := (0 : Int32)) hx hb dX8_noEvening_60 (by decide) ?_
  refine lv_istore_n (lv' := [(2, .int (0 : Int32)), (0, .ref (G.2.1 0)), (1, .int a0)]) hx hb dX8_noEvening_61 rfl hl (by decide) rfl (fun ls hl => ?_)
  refine nb_w2 (P := fun (x17 : Int32) (σ18 : nb_St) => ∀ (H : Heap) (locs : List Loc) (ls : Array Slot), nb_W G xm_sh s.heap σ18 H locs → lv_has ls 3 [(0, .ref (G.2.1 0)), (1, .int a0), (2, .int x17)] → W p l e rmX8_noEvening s m args below meth c H locs 0 0 (MQ below (nb_Qv G xm_sh Z σo) args s 0 0 (nb_A xm_sh G.2.1)) (F0 m 62 ls [])) ?_ N _ _ hf H locs ls hW (lv_sub hl [1, 2, 0] rfl)
  intro ag19 ih20 x17 σ18 hf H locs ls hW hl
  refine lv_iload_n hx hb dX8_noEvening_62 rfl (lv_at hl 2 rfl) ?_
  refine lv_iconst (v := (3 : Int32)) hx hb dX8_noEvening_63 (by decide) ?_
  refine lv_icmp_ge (tgt := 95) hx hb dX8_noEvening_64 (by decide) (fun c21 => ?_) (fun c21 => ?_)
  · rw [if_pos c21] at hf
    exact nb_rv hx hb hr hlocks hK hZ hZo hW hf dX8_noEvening_95
  · rw [if_neg c21] at hf
    refine lv_aload_n hx hb dX8_noEvening_67 rfl (lv_at hl 0 rfl) ?_
    refine nb_get (C := RX8) (T := TX8) (N := 40) hx hb hts inT_X8 hown hK hW 0 rfl rfl 13 (by decide) (hts _ tw4_136) (fun _ h9 => h9) rfl (v := .ref (G.2.1 13)) rfl dX8_noEvening_68 ?_
    refine lv_iconst (v := (3 : Int32)) hx hb dX8_noEvening_71 (by decide) ?_
    refine lv_iload_n hx hb dX8_noEvening_72 rfl (lv_at hl 1 rfl) ?_
    refine lv_imul hx hb dX8_noEvening_73 ?_
    refine lv_iload_n hx hb dX8_noEvening_74 rfl (lv_at hl 2 rfl) ?_
    refine lv_iadd hx hb dX8_noEvening_75 ?_
    refine lv_iconst (v := (0 : Int32)) hx hb dX8_noEvening_76 (by decide) ?_
    obtain ⟨g22, hf⟩ := nb_g_e hf
    obtain ⟨σ23, eσ23, hf⟩ := nb_let_e hf
    refine nb_iast hx hb hK hinj hW 13 rfl g22 eσ23 dX8_noEvening_77 (fun H locs hW => ?_)
    refine lv_aload_n hx hb dX8_noEvening_78 rfl (lv_at hl 0 rfl) ?_
    refine nb_get (C := RX8) (T := TX8) (N := 40) hx hb hts inT_X8 hown hK hW 0 rfl rfl 14 (by decide) (hts _ tw4_137) (fun _ h9 => h9) rfl (v := .ref (G.2.1 14)) rfl dX8_noEvening_79 ?_
    refine lv_iconst (v := (3 : Int32)) hx hb dX8_noEvening_82 (by decide) ?_
    refine lv_iload_n hx hb dX8_noEvening_83 rfl (lv_at hl 1 rfl) ?_
    refine lv_imul hx hb dX8_noEvening_84 ?_
    refine lv_iload_n hx hb dX8_noEvening_85 rfl (lv_at hl 2 rfl) ?_
    refine lv_iadd hx hb dX8_noEvening_86 ?_
    refine lv_iconst (v := (0 : Int32)) hx hb dX8_noEvening_87 (by decide) ?_
    obtain ⟨g24, hf⟩ := nb_g_e hf
    obtain ⟨σ25, eσ25, hf⟩ := nb_let_e hf
    refine nb_iast hx hb hK hinj hW 14 rfl g24 eσ25 dX8_noEvening_88 (fun H locs hW => ?_)
    refine lv_iinc (v := (x17 + 1)) (lv' := [(2, .int (x17 + 1)), (0, .ref (G.2.1 0)), (1, .int a0)]) hx hb dX8_noEvening_89 hl (k := 2) rfl rfl (by decide) rfl (fun ls hl => ?_)
    refine lv_goto (tgt := 62) hx hb dX8_noEvening_92 (by decide) ?_
    exact ih20 _ _ hf _ _ _ hW (lv_sub hl [1, 2, 0] rfl)
def fX8_write (N : Nat) (σ : nb_St) (a0 : Int32) (a1 : Int64) : Option (Int32 × nb_St) :=
  nb_b (fX8_in N σ ((a0).toInt64) (1 : Int64) (8 : Int64)) fun r2 =>
  (if r2 = 0 then
  some ((-1 : Int32), σ)
  else
  (if ((σ 0 0) + a0) ≤ (400 : Int32) then
  nb_let (a0 - (1 : Int32)) fun x5 =>
  nb_lp2 (R := (Int32 × nb_St)) (fun ag8 (x6 : Int32) (σ7 : nb_St) =>
  (if x6 < 0 then
  some ((σ7 0 0), σ7)
  else
  nb_g (nb_in (σ7 0 0) 400) (
  nb_let (nb_st σ7 1 (nb_ix (σ7 0 0)) ((((a1 >>> ((((8 : Int32) * x6)).toInt64 &&& 63)) &&& (255 : Int64))).toInt32)) fun σ12 =>
  nb_let (nb_st σ12 0 0 ((σ12 0 0) + (1 : Int32))) fun σ13 =>
  ag8 (x6 + (-1)) σ13))) N x5 σ
  else
  some ((-3 : Int32), σ)))
def rmX8_write : Room := { frames := 1, cells := 0, slots := 0, locals := 25 }
def vsX8_write : List Cond := .code yX8_write cX8_write 5 (some .int) :: xT
set_option maxHeartbeats 4000000 in
set_option maxRecDepth 100000 in
theorem c_X8_write (l : Launch) {G : nb_G} {Z : State → Heap → Prop} (hinj : nb_inj xm_sh G.2.1) (hZo : nb_Zok (nb_A xm_sh G.2.1) Z) {N : Nat} {σ : nb_St} {a0 : Int32} {a1 : Int64} {ro : Int32} {σo : nb_St} (hf : fX8_write N σ a0 a1 = some (ro, σo))  : Met l yX8_write vsX8_write rmX8_write (nb_Pc G xm_sh Z σ [.ref (G.2.1 0), .int a0, .long a1]) (nb_Qi G xm_sh Z ro σo) 0 0 (nb_A xm_sh G.2.1) := by
  refine Met.ofW (cc := cX8_write) (maxL := 5) (ret := (some .int)) (by decide) rfl ?_
  intro p e s m args below meth c s₁ B hml hv
  obtain ⟨rfl, hP, hK, hZ⟩ := hv
  have hx := B.exec
  have hb := B.bytes
  have hr := B.returns
  have hts : ∀ w ∈ xT, w.before _ s = true := fun w h9 => atoms_spec (ws := vsX8_write) B.pre w (List.mem_cons_of_mem _ h9)
  have hown : s.vm.findClass RX8 = some m.cls := findClass_of_methodNamed B.named
  have hlocks := B.notSynchronized
  have hW : nb_W G xm_sh s.heap σ s.heap [] := ⟨hP, va_S.rf⟩
  have hl := lv_entry ([.ref (G.2.1 0), .int a0, .long a1]) (n := 5) (Nat.le_of_ble_eq_true rfl)
  rw [lg_entry_eq]
  generalize (lg_sl ([.ref (G.2.1 0), .int a0, .long a1]) ++ List.replicate (5 - (lg_sl ([.ref (G.2.1 0), .int a0, .long a1])).length) Slot.unset).toArray = ls at hl ⊢
  have hl : lv_has ls 5 [(0, .ref (G.2.1 0)), (1, .int a0), (2, .long a1)] := hl
  show W p l e rmX8_write s m ([.ref (G.2.1 0), .int a0, .long a1]).toArray below meth c s.heap [] 0 0 (MQ below (nb_Qi G xm_sh Z ro σo) ([.ref (G.2.1 0), .int a0, .long a1]).toArray s 0 0 (nb_A xm_sh G.2.1)) (F0 m 0 ls [])
  generalize hargs : ([.ref (G.2.1 0), .int a0, .long a1] : List Value).toArray = args at hts ⊢
  unfold fX8_write at hf
  obtain ⟨H, eH⟩ : ∃ H, H = s.heap := ⟨_, rfl⟩
  obtain ⟨locs, eL⟩ : ∃ L : List Loc, L = [] := ⟨_, rfl⟩
  have hW : nb_W G xm_sh s.heap σ H locs := by rw [eH, eL]; exact hW
  suffices hgo : W p l e rmX8_write s m args below meth c H locs 0 0 (MQ below (nb_Qi G xm_sh Z ro σo) args s 0 0 (nb_A xm_sh G.2.1)) (F0 m 0 ls []) by rw [eH, eL] at hgo; exact hgo
  clear eH eL
  refine lv_iload_n hx hb dX8_write_0 rfl (lv_at hl 1 rfl) ?_
  refine lv_i2l hx hb dX8_write_1 rfl ?_
  refine lv_lconst (v := (1 : Int64)) hx hb dX8_write_2 (by decide) ?_
  refine lv_ldc2 (own := RX8) (v := (8 : Int64)) hx hb hown (hts _ tw5_8) dX8_write_3 ?_
  obtain ⟨r2, hc1, hf⟩ := nb_b_e hf
  refine nb_ci hW (va_runS (As := [.long ((a0).toInt64), .long (1 : Int64), .long (8 : Int64)]) (rest := []) ⟨hx, hb, hml, hown, hts⟩ (c_X8_in l hinj hZo (N := N) hc1 ) (va_cwS 3 hts (xg_S tw5_9 tw5_10 tw1_10 tw5_11) rfl rfl rfl (by decide +kernel) ⟨Nat.le_of_ble_eq_true rfl, Nat.le_of_ble_eq_true rfl⟩) (nb_preS hK hZ hZo hW) rfl rfl hl.1 rfl (lv_room (Nat.le_of_ble_eq_true rfl)) dX8_write_6 ⟨Nat.zero_le _, Nat.zero_le _⟩) (fun H locs hW => ?_)
  refine lv_if_ne (tgt := 14) hx hb dX8_write_9 (by decide) (fun c3 => ?_) (fun c3 => ?_)
  · rw [if_neg c3] at hf
    refine lv_aload_n hx hb dX8_write_14 rfl (lv_at hl 0 rfl) ?_
    refine nb_get (C := RX8) (T := TX8) (N := 40) hx hb hts inT_X8 hown hK hW 0 rfl rfl 0 (by decide) (hts _ tw4_123) (fun _ h9 => h9) rfl (v := .int (σ 0 0)) rfl dX8_write_15 ?_
    refine lv_iload_n hx hb dX8_write_18 rfl (lv_at hl 1 rfl) ?_
    refine lv_iadd hx hb dX8_write_19 ?_
    refine lv_sipush (v := (400 : Int32)) hx hb dX8_write_20 (by decide) ?_
    refine lv_icmp_le (tgt := 29) hx hb dX8_write_23 (by decide) (fun c4 => ?_) (fun c4 => ?_)
    · rw [if_pos c4] at hf
      refine lv_iload_n hx hb dX8_write_29 rfl (lv_at hl 1 rfl) ?_
      refine lv_iconst (v := (1 : Int32)) hx hb dX8_write_30 (by decide) ?_
      refine lv_isub hx hb dX8_write_31 ?_
      obtain ⟨x5, ex5, hf⟩ := nb_let_e hf
      refine nb_nami ex5 ?_
      refine lv_istore (lv' := [(4, .int x5), (0, .ref (G.2.1 0)), (1, .int a0), (2, .long a1)]) hx hb dX8_write_32 hl (by decide) rfl (fun ls hl => ?_)
      refine nb_w2 (P := fun (x6 : Int32) (σ7 : nb_St) => ∀ (H : Heap) (locs : List Loc) (ls : Array Slot), nb_W G xm_sh s.heap σ7 H locs → lv_has ls 5 [(0, .ref (G.2.1 0)), (2, .long a1), (4, .int x6)] → W p l e rmX8_write s m args below meth c H locs 0 0 (MQ below (nb_Qi G xm_sh Z ro σo) args s 0 0 (nb_A xm_sh G.2.1)) (F0 m 34 ls [])) ?_ N _ _ hf H locs ls hW (lv_sub hl [1, 3, 0] rfl)
      intro ag8 ih9 x6 σ7 hf H locs ls hW hl
      refine lv_iload hx hb dX8_write_34 (lv_at hl 2 rfl) ?_
      refine lv_if_lt (tgt := 76) hx hb dX8_write_36 (by decide) (fun c10 => ?_) (fun c10 => ?_)
      · rw [if_pos c10] at hf
        refine lv_aload_n hx hb dX8_write_76 rfl (lv_at hl 0 rfl) ?_
        refine nb_get (C := RX8) (T := TX8) (N := 40) hx hb hts inT_X8 hown hK hW 0 rfl rfl 0 (by decide) (hts _ tw4_123) (fun _ h9 => h9) rfl (v := .int (σ7 0 0)) rfl dX8_write_77 ?_
        exact nb_ri hx hb hr hlocks hK hZ hZo hW  hf dX8_write_80
      · rw [if_neg c10] at hf
        refine lv_aload_n hx hb dX8_write_39 rfl (lv_at hl 0 rfl) ?_
        refine nb_get (C := RX8) (T := TX8) (N := 40) hx hb hts inT_X8 hown hK hW 0 rfl rfl 1 (by decide) (hts _ tw4_124) (fun _ h9 => h9) rfl (v := .ref (G.2.1 1)) rfl dX8_write_40 ?_
        refine lv_aload_n hx hb dX8_write_43 rfl (lv_at hl 0 rfl) ?_
        refine nb_get (C := RX8) (T := TX8) (N := 40) hx hb hts inT_X8 hown hK hW 0 rfl rfl 0 (by decide) (hts _ tw4_123) (fun _ h9 => h9) rfl (v := .int (σ7 0 0)) rfl dX8_write_44 ?_
        refine lv_lload_n hx hb dX8_write_47 rfl (lv_at hl 1 rfl) ?_
        refine lv_bipush (v := (8 : Int32)) hx hb dX8_write_48 (by decide) ?_
        refine lv_iload hx hb dX8_write_50 (lv_at hl 2 rfl) ?_
        refine lv_imul hx hb dX8_write_52 ?_
        refine lv_lshr hx hb dX8_write_53 rfl ?_
        refine lv_ldc2 (own := RX8) (v := (255 : Int64)) hx hb hown (hts _ tw5_12) dX8_write_54 ?_
        refine lv_land hx hb dX8_write_57 ?_
        refine lv_l2i hx hb dX8_write_58 rfl ?_
        obtain ⟨g11, hf⟩ := nb_g_e hf
        obtain ⟨σ12, eσ12, hf⟩ := nb_let_e hf
        refine nb_iast hx hb hK hinj hW 1 rfl g11 eσ12 dX8_write_59 (fun H locs hW => ?_)
        refine lv_aload_n hx hb dX8_write_60 rfl (lv_at hl 0 rfl) ?_
        refine lv_dup hx hb dX8_write_61 rfl ?_
        refine nb_get (C := RX8) (T := TX8) (N := 40) hx hb hts inT_X8 hown hK hW 0 rfl rfl 0 (by decide) (hts _ tw4_123) (fun _ h9 => h9) rfl (v := .int (σ12 0 0)) rfl dX8_write_62 ?_
        refine lv_iconst (v := (1 : Int32)) hx hb dX8_write_65 (by decide) ?_
        refine lv_iadd hx hb dX8_write_66 ?_
        obtain ⟨σ13, eσ13, hf⟩ := nb_let_e hf
        refine nb_put (C := RX8) (T := TX8) (N := 40) hx hb hts inT_X8 hown hK tyX8 tyX8_ok nmX8 hinj hW 0 rfl rfl 0 (by decide) (hts _ tw4_123) (fun _ h9 => h9) rfl (ty := .int) (by decide +kernel) rfl rfl rfl (x := ((σ12 0 0) + (1 : Int32))) (by show Value.int _ = _; rw [nb_st_s]) eσ13 dX8_write_67 (fun H locs hW => ?_)
        refine lv_iinc (v := (x6 + (-1))) (lv' := [(4, .int (x6 + (-1))), (0, .ref (G.2.1 0)), (2, .long a1)]) hx hb dX8_write_70 hl (k := 2) rfl rfl (by decide) rfl (fun ls hl => ?_)
        refine lv_goto (tgt := 34) hx hb dX8_write_73 (by decide) ?_
        exact ih9 _ _ hf _ _ _ hW (lv_sub hl [1, 2, 0] rfl)
    · rw [if_neg c4] at hf
      refine lv_bipush (v := (-3 : Int32)) hx hb dX8_write_26 (by decide) ?_
      exact nb_ri hx hb hr hlocks hK hZ hZo hW  hf dX8_write_28
  · rw [if_pos c3] at hf
    refine lv_iconst (v := (-1 : Int32)) hx hb dX8_write_12 (by decide) ?_
    exact nb_ri hx hb hr hlocks hK hZ hZo hW  hf dX8_write_13
def fX8_wipe (N : Nat) (σ : nb_St)  : Option (Int32 × nb_St) :=
  nb_let (σ 0 0) fun x1 =>
  nb_let (nb_st σ 0 0 (0 : Int32)) fun σ2 =>
  some (x1, σ2)
def rmX8_wipe : Room := { frames := 0, cells := 0, slots := 0, locals := 0 }
def vsX8_wipe : List Cond := .code yX8_wipe cX8_wipe 2 (some .int) :: xT
set_option maxHeartbeats 4000000 in
set_option maxRecDepth 100000 in
theorem c_X8_wipe (l : Launch) {G : nb_G} {Z : State → Heap → Prop} (hinj : nb_inj xm_sh G.2.1) (hZo : nb_Zok (nb_A xm_sh G.2.1) Z) {N : Nat} {σ : nb_St}  {ro : Int32} {σo : nb_St} (hf : fX8_wipe N σ = some (ro, σo))  : Met l yX8_wipe vsX8_wipe rmX8_wipe (nb_Pc G xm_sh Z σ [.ref (G.2.1 0)]) (nb_Qi G xm_sh Z ro σo) 0 0 (nb_A xm_sh G.2.1) := by
  refine Met.ofW (cc := cX8_wipe) (maxL := 2) (ret := (some .int)) (by decide) rfl ?_
  intro p e s m args below meth c s₁ B hml hv
  obtain ⟨rfl, hP, hK, hZ⟩ := hv
  have hx := B.exec
  have hb := B.bytes
  have hr := B.returns
  have hts : ∀ w ∈ xT, w.before _ s = true := fun w h9 => atoms_spec (ws := vsX8_wipe) B.pre w (List.mem_cons_of_mem _ h9)
  have hown : s.vm.findClass RX8 = some m.cls := findClass_of_methodNamed B.named
  have hlocks := B.notSynchronized
  have hW : nb_W G xm_sh s.heap σ s.heap [] := ⟨hP, va_S.rf⟩
  have hl := lv_entry ([.ref (G.2.1 0)]) (n := 2) (Nat.le_of_ble_eq_true rfl)
  rw [lg_entry_eq]
  generalize (lg_sl ([.ref (G.2.1 0)]) ++ List.replicate (2 - (lg_sl ([.ref (G.2.1 0)])).length) Slot.unset).toArray = ls at hl ⊢
  have hl : lv_has ls 2 [(0, .ref (G.2.1 0))] := hl
  show W p l e rmX8_wipe s m ([.ref (G.2.1 0)]).toArray below meth c s.heap [] 0 0 (MQ below (nb_Qi G xm_sh Z ro σo) ([.ref (G.2.1 0)]).toArray s 0 0 (nb_A xm_sh G.2.1)) (F0 m 0 ls [])
  generalize hargs : ([.ref (G.2.1 0)] : List Value).toArray = args at hts ⊢
  unfold fX8_wipe at hf
  obtain ⟨H, eH⟩ : ∃ H, H = s.heap := ⟨_, rfl⟩
  obtain ⟨locs, eL⟩ : ∃ L : List Loc, L = [] := ⟨_, rfl⟩
  have hW : nb_W G xm_sh s.heap σ H locs := by rw [eH, eL]; exact hW
  suffices hgo : W p l e rmX8_wipe s m args below meth c H locs 0 0 (MQ below (nb_Qi G xm_sh Z ro σo) args s 0 0 (nb_A xm_sh G.2.1)) (F0 m 0 ls []) by rw [eH, eL] at hgo; exact hgo
  clear eH eL
  refine lv_aload_n hx hb dX8_wipe_0 rfl (lv_at hl 0 rfl) ?_
  refine nb_get (C := RX8) (T := TX8) (N := 40) hx hb hts inT_X8 hown hK hW 0 rfl rfl 0 (by decide) (hts _ tw4_123) (fun _ h9 => h9) rfl (v := .int (σ 0 0)) rfl dX8_wipe_1 ?_
  obtain ⟨x1, ex1, hf⟩ := nb_let_e hf
  refine nb_nami ex1 ?_
  refine lv_istore_n (lv' := [(1, .int x1), (0, .ref (G.2.1 0))]) hx hb dX8_wipe_4 rfl hl (by decide) rfl (fun ls hl => ?_)
  refine lv_aload_n hx hb dX8_wipe_5 rfl (lv_at hl 1 rfl) ?_
  refine lv_iconst (v := (0 : Int32)) hx hb dX8_wipe_6 (by decide) ?_
  obtain ⟨σ2, eσ2, hf⟩ := nb_let_e hf
  refine nb_put (C := RX8) (T := TX8) (N := 40) hx hb hts inT_X8 hown hK tyX8 tyX8_ok nmX8 hinj hW 0 rfl rfl 0 (by decide) (hts _ tw4_123) (fun _ h9 => h9) rfl (ty := .int) (by decide +kernel) rfl rfl rfl (x := (0 : Int32)) (by show Value.int _ = _; rw [nb_st_s]) eσ2 dX8_wipe_7 (fun H locs hW => ?_)
  refine lv_iload_n hx hb dX8_wipe_10 rfl (lv_at hl 0 rfl) ?_
  exact nb_ri hx hb hr hlocks hK hZ hZo hW  hf dX8_wipe_11
def fX8_byteAt (N : Nat) (σ : nb_St) (a0 : Int32) : Option Int32 :=
  (if (σ 0 0) ≤ a0 then
  some (0 : Int32)
  else
  nb_g (nb_in a0 400) (
  some (σ 1 (nb_ix a0))))
def rmX8_byteAt : Room := { frames := 0, cells := 0, slots := 0, locals := 0 }
def vsX8_byteAt : List Cond := .code yX8_byteAt cX8_byteAt 2 (some .int) :: xT
set_option maxHeartbeats 4000000 in
set_option maxRecDepth 100000 in
theorem c_X8_byteAt (l : Launch) {G : nb_G} {Z : State → Heap → Prop} (hinj : nb_inj xm_sh G.2.1) (hZo : nb_Zok (nb_A xm_sh G.2.1) Z) {N : Nat} {σ : nb_St} {a0 : Int32} {ro : Int32} (hf : fX8_byteAt N σ a0 = some ro)  : Met l yX8_byteAt vsX8_byteAt rmX8_byteAt (nb_Pc G xm_sh Z σ [.ref (G.2.1 0), .int a0]) (nb_Qi G xm_sh Z ro σ) 0 0 (nb_A xm_sh G.2.1) := by
  refine Met.ofW (cc := cX8_byteAt) (maxL := 2) (ret := (some .int)) (by decide) rfl ?_
  intro p e s m args below meth c s₁ B hml hv
  obtain ⟨rfl, hP, hK, hZ⟩ := hv
  have hx := B.exec
  have hb := B.bytes
  have hr := B.returns
  have hts : ∀ w ∈ xT, w.before _ s = true := fun w h9 => atoms_spec (ws := vsX8_byteAt) B.pre w (List.mem_cons_of_mem _ h9)
  have hown : s.vm.findClass RX8 = some m.cls := findClass_of_methodNamed B.named
  have hlocks := B.notSynchronized
  have hW : nb_W G xm_sh s.heap σ s.heap [] := ⟨hP, va_S.rf⟩
  have hl := lv_entry ([.ref (G.2.1 0), .int a0]) (n := 2) (Nat.le_of_ble_eq_true rfl)
  rw [lg_entry_eq]
  generalize (lg_sl ([.ref (G.2.1 0), .int a0]) ++ List.replicate (2 - (lg_sl ([.ref (G.2.1 0), .int a0])).length) Slot.unset).toArray = ls at hl ⊢
  have hl : lv_has ls 2 [(0, .ref (G.2.1 0)), (1, .int a0)] := hl
  show W p l e rmX8_byteAt s m ([.ref (G.2.1 0), .int a0]).toArray below meth c s.heap [] 0 0 (MQ below (nb_Qi G xm_sh Z ro σ) ([.ref (G.2.1 0), .int a0]).toArray s 0 0 (nb_A xm_sh G.2.1)) (F0 m 0 ls [])
  generalize hargs : ([.ref (G.2.1 0), .int a0] : List Value).toArray = args at hts ⊢
  unfold fX8_byteAt at hf
  obtain ⟨H, eH⟩ : ∃ H, H = s.heap := ⟨_, rfl⟩
  obtain ⟨locs, eL⟩ : ∃ L : List Loc, L = [] := ⟨_, rfl⟩
  have hW : nb_W G xm_sh s.heap σ H locs := by rw [eH, eL]; exact hW
  suffices hgo : W p l e rmX8_byteAt s m args below meth c H locs 0 0 (MQ below (nb_Qi G xm_sh Z ro σ) args s 0 0 (nb_A xm_sh G.2.1)) (F0 m 0 ls []) by rw [eH, eL] at hgo; exact hgo
  clear eH eL
  refine lv_iload_n hx hb dX8_byteAt_0 rfl (lv_at hl 1 rfl) ?_
  refine lv_aload_n hx hb dX8_byteAt_1 rfl (lv_at hl 0 rfl) ?_
  refine nb_get (C := RX8) (T := TX8) (N := 40) hx hb hts inT_X8 hown hK hW 0 rfl rfl 0 (by decide) (hts _ tw4_123) (fun _ h9 => h9) rfl (v := .int (σ 0 0)) rfl dX8_byteAt_2 ?_
  refine lv_icmp_ge (tgt := 17) hx hb dX8_byteAt_5 (by decide) (fun c1 => ?_) (fun c1 => ?_)
  · rw [if_pos c1] at hf
    refine lv_iconst (v := (0 : Int32)) hx hb dX8_byteAt_17 (by decide) ?_
    exact nb_rip hx hb hr hlocks hK hZ hZo hW  hf dX8_byteAt_18
  · rw [if_neg c1] at hf
    refine lv_aload_n hx hb dX8_byteAt_8 rfl (lv_at hl 0 rfl) ?_
    refine nb_get (C := RX8) (T := TX8) (N := 40) hx hb hts inT_X8 hown hK hW 0 rfl rfl 1 (by decide) (hts _ tw4_124) (fun _ h9 => h9) rfl (v := .ref (G.2.1 1)) rfl dX8_byteAt_9 ?_
    refine lv_iload_n hx hb dX8_byteAt_12 rfl (lv_at hl 1 rfl) ?_
    obtain ⟨g2, hf⟩ := nb_g_e hf
    refine nb_iald hx hb hK hW 1 rfl g2 dX8_byteAt_13 ?_
    refine lv_goto (tgt := 18) hx hb dX8_byteAt_14 (by decide) ?_
    exact nb_rip hx hb hr hlocks hK hZ hZo hW  hf dX8_byteAt_18
def fX8_figures (N : Nat) (σ : nb_St) (a0 : Int32) : Option (Int32 × nb_St) :=
  nb_lp2 (R := (Int32 × nb_St)) (fun ag3 (x1 : Int32) (σ2 : nb_St) =>
  (if a0 ≤ x1 then
  some ((1 : Int32), σ2)
  else
  nb_lp3 (R := (Int32 × nb_St)) (fun ag9 (x6 : Int32) (x7 : Int32) (σ8 : nb_St) =>
  nb_b (fX8_byteAt N σ8 (σ8 0 27)) fun r12 =>
  nb_b (fX8_in N σ8 ((r12).toInt64) (48 : Int64) (57 : Int64)) fun r14 =>
  nb_let (fun (_u : Unit) =>
  nb_b (fX8_in N σ8 ((x6).toInt64) (1 : Int64) (3 : Int64)) fun r18 =>
  nb_let (fun (_u : Unit) =>
  some ((0 : Int32), σ8)) fun k19 =>
  (if r18 = 0 then
  k19 ()
  else
  nb_b (fX8_byteAt N σ8 (σ8 0 27)) fun r23 =>
  nb_let (fun (v26 : Int32) =>
  (if r23 = v26 then
  nb_g (nb_in x1 4) (
  nb_let (nb_st σ8 25 (nb_ix x1) x7) fun σ29 =>
  nb_let (nb_st σ29 0 27 ((σ29 0 27) + (1 : Int32))) fun σ30 =>
  ag3 (x1 + 1) σ30)
  else
  k19 ())) fun k24 =>
  (if (a0 - (1 : Int32)) ≤ x1 then
  k24 (59 : Int32)
  else
  k24 (44 : Int32)))) fun k15 =>
  (if r14 = 0 then
  k15 ()
  else
  (if (4 : Int32) ≤ x6 then
  k15 ()
  else
  nb_b (fX8_byteAt N σ8 (σ8 0 27)) fun r35 =>
  nb_let ((((10 : Int32) * x7) + r35) - (48 : Int32)) fun x36 =>
  nb_let (nb_st σ8 0 27 ((σ8 0 27) + (1 : Int32))) fun σ37 =>
  ag9 (x6 + 1) x36 σ37))) N (0 : Int32) (0 : Int32) σ2)) N (0 : Int32) σ
def rmX8_figures : Room := { frames := 1, cells := 0, slots := 0, locals := 25 }
def vsX8_figures : List Cond := .code yX8_figures cX8_figures 5 (some .boolean) :: xT
set_option maxHeartbeats 4000000 in
set_option maxRecDepth 100000 in
theorem c_X8_figures (l : Launch) {G : nb_G} {Z : State → Heap → Prop} (hinj : nb_inj xm_sh G.2.1) (hZo : nb_Zok (nb_A xm_sh G.2.1) Z) {N : Nat} {σ : nb_St} {a0 : Int32} {ro : Int32} {σo : nb_St} (hf : fX8_figures N σ a0 = some (ro, σo))  : Met l yX8_figures vsX8_figures rmX8_figures (nb_Pc G xm_sh Z σ [.ref (G.2.1 0), .int a0]) (nb_Qi G xm_sh Z ro σo) 0 0 (nb_A xm_sh G.2.1) := by
  refine Met.ofW (cc := cX8_figures) (maxL := 5) (ret := (some .boolean)) (by decide) rfl ?_
  intro p e s m args below meth c s₁ B hml hv
  obtain ⟨rfl, hP, hK, hZ⟩ := hv
  have hx := B.exec
  have hb := B.bytes
  have hr := B.returns
  have hts : ∀ w ∈ xT, w.before _ s = true := fun w h9 => atoms_spec (ws := vsX8_figures) B.pre w (List.mem_cons_of_mem _ h9)
  have hown : s.vm.findClass RX8 = some m.cls := findClass_of_methodNamed B.named
  have hlocks := B.notSynchronized
  have hW : nb_W G xm_sh s.heap σ s.heap [] := ⟨hP, va_S.rf⟩
  have hl := lv_entry ([.ref (G.2.1 0), .int a0]) (n := 5) (Nat.le_of_ble_eq_true rfl)
  rw [lg_entry_eq]
  generalize (lg_sl ([.ref (G.2.1 0), .int a0]) ++ List.replicate (5 - (lg_sl ([.ref (G.2.1 0), .int a0])).length) Slot.unset).toArray = ls at hl ⊢
  have hl : lv_has ls 5 [(0, .ref (G.2.1 0)), (1, .int a0)] := hl
  show W p l e rmX8_figures s m ([.ref (G.2.1 0), .int a0]).toArray below meth c s.heap [] 0 0 (MQ below (nb_Qi G xm_sh Z ro σo) ([.ref (G.2.1 0), .int a0]).toArray s 0 0 (nb_A xm_sh G.2.1)) (F0 m 0 ls [])
  generalize hargs : ([.ref (G.2.1 0), .int a0] : List Value).toArray = args at hts ⊢
  unfold fX8_figures at hf
  obtain ⟨H, eH⟩ : ∃ H, H = s.heap := ⟨_, rfl⟩
  obtain ⟨locs, eL⟩ : ∃ L : List Loc, L = [] := ⟨_, rfl⟩
  have hW : nb_W G xm_sh s.heap σ H locs := by rw [eH, eL]; exact hW
  suffices hgo : W p l e rmX8_figures s m args below meth c H locs 0 0 (MQ below (nb_Qi G xm_sh Z ro σo) args s 0 0 (nb_A xm_sh G.2.1)) (F0 m 0 ls []) by rw [eH, eL] at hgo; exact hgo
  clear eH eL
  refine lv_iconst (v := (0 : Int32)) hx hb dX8_figures_0 (by decide) ?_
  refine lv_istore_n (lv' := [(2, .int (0 : Int32)), (0, .ref (G.2.1 0)), (1, .int a0)]) hx hb dX8_figures_1 rfl hl (by decide) rfl (fun ls hl => ?_)
  refine nb_w2 (P := fun (x1 : Int32) (σ2 : nb_St) => ∀ (H : Heap) (locs : List Loc) (ls : Array Slot), nb_W G xm_sh s.heap σ2 H locs → lv_has ls 5 [(0, .ref (G.2.1 0)), (1, .int a0), (2, .int x1)] → W p l e rmX8_figures s m args below meth c H locs 0 0 (MQ below (nb_Qi G xm_sh Z ro σo) args s 0 0 (nb_A xm_sh G.2.1)) (F0 m 2 ls [])) ?_ N _ _ hf H locs ls hW (lv_sub hl [1, 2, 0] rfl)
  intro ag3 ih4 x1 σ2 hf H locs ls hW hl
  refine lv_iload_n hx hb dX8_figures_2 rfl (lv_at hl 2 rfl) ?_
  refine lv_iload_n hx hb dX8_figures_3 rfl (lv_at hl 1 rfl) ?_
  refine lv_icmp_ge (tgt := 136) hx hb dX8_figures_4 (by decide) (fun c5 => ?_) (fun c5 => ?_)
  · rw [if_pos c5] at hf
    refine lv_iconst (v := (1 : Int32)) hx hb dX8_figures_136 (by decide) ?_
    exact nb_rz hx hb hr hlocks hK hZ hZo hW rfl hf dX8_figures_137
  · rw [if_neg c5] at hf
    refine lv_iconst (v := (0 : Int32)) hx hb dX8_figures_7 (by decide) ?_
    refine lv_istore_n (lv' := [(3, .int (0 : Int32)), (0, .ref (G.2.1 0)), (1, .int a0), (2, .int x1)]) hx hb dX8_figures_8 rfl hl (by decide) rfl (fun ls hl => ?_)
    refine lv_iconst (v := (0 : Int32)) hx hb dX8_figures_9 (by decide) ?_
    refine lv_istore (lv' := [(4, .int (0 : Int32)), (3, .int (0 : Int32)), (0, .ref (G.2.1 0)), (1, .int a0), (2, .int x1)]) hx hb dX8_figures_10 hl (by decide) rfl (fun ls hl => ?_)
    refine nb_w3 (P := fun (x6 : Int32) (x7 : Int32) (σ8 : nb_St) => ∀ (H : Heap) (locs : List Loc) (ls : Array Slot), nb_W G xm_sh s.heap σ8 H locs → lv_has ls 5 [(0, .ref (G.2.1 0)), (1, .int a0), (2, .int x1), (3, .int x6), (4, .int x7)] → W p l e rmX8_figures s m args below meth c H locs 0 0 (MQ below (nb_Qi G xm_sh Z ro σo) args s 0 0 (nb_A xm_sh G.2.1)) (F0 m 12 ls [])) ?_ N _ _ _ hf H locs ls hW (lv_sub hl [2, 3, 4, 1, 0] rfl)
    intro ag9 ih10 x6 x7 σ8 hf H locs ls hW hl
    refine lv_aload_n hx hb dX8_figures_12 rfl (lv_at hl 0 rfl) ?_
    refine lv_aload_n hx hb dX8_figures_13 rfl (lv_at hl 0 rfl) ?_
    refine nb_get (C := RX8) (T := TX8) (N := 40) hx hb hts inT_X8 hown hK hW 0 rfl rfl 27 (by decide) (hts _ tw4_150) (fun _ h9 => h9) rfl (v := .int (σ8 0 27)) rfl dX8_figures_14 ?_
    obtain ⟨r12, hc11, hf⟩ := nb_b_e hf
    refine nb_ci hW (va_runV (As := [.int (σ8 0 27)]) (rest := []) ⟨hx, hb, hml, hown, hts⟩ (c_X8_byteAt l hinj hZo (N := N) hc11 ) (cwV 1 hts (xg_V tw5_29 tw5_31 tp2_7 tw1_10 tw5_32) rfl rfl rfl (by decide +kernel) ⟨Nat.le_of_ble_eq_true rfl, Nat.le_of_ble_eq_true rfl⟩) (nb_preV hK hZ hZo hW (k := 0) rfl rfl) rfl rfl hl.1 rfl (lv_room (Nat.le_of_ble_eq_true rfl)) dX8_figures_17 ⟨Nat.zero_le _, Nat.zero_le _⟩) (fun H locs hW => ?_)
    refine lv_i2l hx hb dX8_figures_20 rfl ?_
    refine lv_ldc2 (own := RX8) (v := (48 : Int64)) hx hb hown (hts _ tw5_41) dX8_figures_21 ?_
    refine lv_ldc2 (own := RX8) (v := (57 : Int64)) hx hb hown (hts _ tw5_42) dX8_figures_24 ?_
    obtain ⟨r14, hc13, hf⟩ := nb_b_e hf
    refine nb_ci hW (va_runS (As := [.long ((r12).toInt64), .long (48 : Int64), .long (57 : Int64)]) (rest := []) ⟨hx, hb, hml, hown, hts⟩ (c_X8_in l hinj hZo (N := N) hc13 ) (va_cwS 3 hts (xg_S tw5_9 tw5_10 tw1_10 tw5_11) rfl rfl rfl (by decide +kernel) ⟨Nat.le_of_ble_eq_true rfl, Nat.le_of_ble_eq_true rfl⟩) (nb_preS hK hZ hZo hW) rfl rfl hl.1 rfl (lv_room (Nat.le_of_ble_eq_true rfl)) dX8_figures_27 ⟨Nat.zero_le _, Nat.zero_le _⟩) (fun H locs hW => ?_)
    obtain ⟨k15, ek15, hf⟩ := nb_let_e hf
    have w16 : ∀ (_u : Unit) (H : Heap) (locs : List Loc) (ls : Array Slot), k15 _u = some (ro, σo) → nb_W G xm_sh s.heap σ8 H locs → lv_has ls 5 [(0, .ref (G.2.1 0)), (1, .int a0), (2, .int x1), (3, .int x6), (4, .int x7)] → W p l e rmX8_figures s m args below meth c H locs 0 0 (MQ below (nb_Qi G xm_sh Z ro σo) args s 0 0 (nb_A xm_sh G.2.1)) (F0 m 73 ls []) := by
      intro _u H locs ls hf hW hl
      have hf := (congrFun ek15 _u).symm.trans hf
      refine lv_iload_n hx hb dX8_figures_73 rfl (lv_at hl 3 rfl) ?_
      refine lv_i2l hx hb dX8_figures_74 rfl ?_
      refine lv_lconst (v := (1 : Int64)) hx hb dX8_figures_75 (by decide) ?_
      refine lv_ldc2 (own := RX8) (v := (3 : Int64)) hx hb hown (hts _ tw5_43) dX8_figures_76 ?_
      obtain ⟨r18, hc17, hf⟩ := nb_b_e hf
      refine nb_ci hW (va_runS (As := [.long ((x6).toInt64), .long (1 : Int64), .long (3 : Int64)]) (rest := []) ⟨hx, hb, hml, hown, hts⟩ (c_X8_in l hinj hZo (N := N) hc17 ) (va_cwS 3 hts (xg_S tw5_9 tw5_10 tw1_10 tw5_11) rfl rfl rfl (by decide +kernel) ⟨Nat.le_of_ble_eq_true rfl, Nat.le_of_ble_eq_true rfl⟩) (nb_preS hK hZ hZo hW) rfl rfl hl.1 rfl (lv_room (Nat.le_of_ble_eq_true rfl)) dX8_figures_79 ⟨Nat.zero_le _, Nat.zero_le _⟩) (fun H locs hW => ?_)
      obtain ⟨k19, ek19, hf⟩ := nb_let_e hf
      have w20 : ∀ (_u : Unit) (H : Heap) (locs : List Loc) (ls : Array Slot), k19 _u = some (ro, σo) → nb_W G xm_sh s.heap σ8 H locs → lv_has ls 5 [] → W p l e rmX8_figures s m args below meth c H locs 0 0 (MQ below (nb_Qi G xm_sh Z ro σo) args s 0 0 (nb_A xm_sh G.2.1)) (F0 m 110 ls []) := by
        intro _u H locs ls hf hW hl
        have hf := (congrFun ek19 _u).symm.trans hf
        refine lv_iconst (v := (0 : Int32)) hx hb dX8_figures_110 (by decide) ?_
        exact nb_rz hx hb hr hlocks hK hZ hZo hW rfl hf dX8_figures_111
      clear ek19
      refine lv_if_eq (tgt := 110) hx hb dX8_figures_82 (by decide) (fun c21 => ?_) (fun c21 => ?_)
      · rw [if_pos c21] at hf
        exact w20 ()  _ _ _ hf hW (lv_sub hl [] rfl)
      · rw [if_neg c21] at hf
        refine lv_aload_n hx hb dX8_figures_85 rfl (lv_at hl 0 rfl) ?_
        refine lv_aload_n hx hb dX8_figures_86 rfl (lv_at hl 0 rfl) ?_
        refine nb_get (C := RX8) (T := TX8) (N := 40) hx hb hts inT_X8 hown hK hW 0 rfl rfl 27 (by decide) (hts _ tw4_150) (fun _ h9 => h9) rfl (v := .int (σ8 0 27)) rfl dX8_figures_87 ?_
        obtain ⟨r23, hc22, hf⟩ := nb_b_e hf
        refine nb_ci hW (va_runV (As := [.int (σ8 0 27)]) (rest := []) ⟨hx, hb, hml, hown, hts⟩ (c_X8_byteAt l hinj hZo (N := N) hc22 ) (cwV 1 hts (xg_V tw5_29 tw5_31 tp2_7 tw1_10 tw5_32) rfl rfl rfl (by decide +kernel) ⟨Nat.le_of_ble_eq_true rfl, Nat.le_of_ble_eq_true rfl⟩) (nb_preV hK hZ hZo hW (k := 0) rfl rfl) rfl rfl hl.1 rfl (lv_room (Nat.le_of_ble_eq_true rfl)) dX8_figures_90 ⟨Nat.zero_le _, Nat.zero_le _⟩) (fun H locs hW => ?_)
        refine lv_iload_n hx hb dX8_figures_93 rfl (lv_at hl 2 rfl) ?_
        refine lv_iload_n hx hb dX8_figures_94 rfl (lv_at hl 1 rfl) ?_
        refine lv_iconst (v := (1 : Int32)) hx hb dX8_figures_95 (by decide) ?_
        refine lv_isub hx hb dX8_figures_96 ?_
        obtain ⟨k24, ek24, hf⟩ := nb_let_e hf
        have w25 : ∀ (v26 : Int32) (H : Heap) (locs : List Loc) (ls : Array Slot), k24 v26 = some (ro, σo) → nb_W G xm_sh s.heap σ8 H locs → lv_has ls 5 [(0, .ref (G.2.1 0)), (1, .int a0), (2, .int x1), (4, .int x7)] → W p l e rmX8_figures s m args below meth c H locs 0 0 (MQ below (nb_Qi G xm_sh Z ro σo) args s 0 0 (nb_A xm_sh G.2.1)) (F0 m 107 ls [.int v26, .int r23]) := by
          intro v26 H locs ls hf hW hl
          have hf := (congrFun ek24 v26).symm.trans hf
          refine lv_icmp_eq (tgt := 112) hx hb dX8_figures_107 (by decide) (fun c27 => ?_) (fun c27 => ?_)
          · rw [if_pos c27] at hf
            refine lv_aload_n hx hb dX8_figures_112 rfl (lv_at hl 0 rfl) ?_
            refine nb_get (C := RX8) (T := TX8) (N := 40) hx hb hts inT_X8 hown hK hW 0 rfl rfl 28 (by decide) (hts _ tw4_151) (fun _ h9 => h9) rfl (v := .ref (G.2.1 25)) rfl dX8_figures_113 ?_
            refine lv_iload_n hx hb dX8_figures_116 rfl (lv_at hl 2 rfl) ?_
            refine lv_iload hx hb dX8_figures_117 (lv_at hl 3 rfl) ?_
            obtain ⟨g28, hf⟩ := nb_g_e hf
            obtain ⟨σ29, eσ29, hf⟩ := nb_let_e hf
            refine nb_iast hx hb hK hinj hW 25 rfl g28 eσ29 dX8_figures_119 (fun H locs hW => ?_)
            refine lv_aload_n hx hb dX8_figures_120 rfl (lv_at hl 0 rfl) ?_
            refine lv_dup hx hb dX8_figures_121 rfl ?_
            refine nb_get (C := RX8) (T := TX8) (N := 40) hx hb hts inT_X8 hown hK hW 0 rfl rfl 27 (by decide) (hts _ tw4_150) (fun _ h9 => h9) rfl (v := .int (σ29 0 27)) rfl dX8_figures_122 ?_
            refine lv_iconst (v := (1 : Int32)) hx hb dX8_figures_125 (by decide) ?_
            refine lv_iadd hx hb dX8_figures_126 ?_
            obtain ⟨σ30, eσ30, hf⟩ := nb_let_e hf
            refine nb_put (C := RX8) (T := TX8) (N := 40) hx hb hts inT_X8 hown hK tyX8 tyX8_ok nmX8 hinj hW 0 rfl rfl 27 (by decide) (hts _ tw4_150) (fun _ h9 => h9) rfl (ty := .int) (by decide +kernel) rfl rfl rfl (x := ((σ29 0 27) + (1 : Int32))) (by show Value.int _ = _; rw [nb_st_s]) eσ30 dX8_figures_127 (fun H locs hW => ?_)
            refine lv_iinc (v := (x1 + 1)) (lv' := [(2, .int (x1 + 1)), (0, .ref (G.2.1 0)), (1, .int a0), (4, .int x7)]) hx hb dX8_figures_130 hl (k := 2) rfl rfl (by decide) rfl (fun ls hl => ?_)
            refine lv_goto (tgt := 2) hx hb dX8_figures_133 (by decide) ?_
            exact ih4 _ _ hf _ _ _ hW (lv_sub hl [1, 2, 0] rfl)
          · rw [if_neg c27] at hf
            exact w20 ()  _ _ _ hf hW (lv_sub hl [] rfl)
        clear ek24
        refine lv_icmp_ge (tgt := 105) hx hb dX8_figures_97 (by decide) (fun c31 => ?_) (fun c31 => ?_)
        · rw [if_pos c31] at hf
          refine lv_bipush (v := (59 : Int32)) hx hb dX8_figures_105 (by decide) ?_
          exact w25 _ _ _ _ hf hW (lv_sub hl [0, 1, 2, 4] rfl)
        · rw [if_neg c31] at hf
          refine lv_bipush (v := (44 : Int32)) hx hb dX8_figures_100 (by decide) ?_
          refine lv_goto (tgt := 107) hx hb dX8_figures_102 (by decide) ?_
          exact w25 _ _ _ _ hf hW (lv_sub hl [0, 1, 2, 4] rfl)
    clear ek15
    refine lv_if_eq (tgt := 73) hx hb dX8_figures_30 (by decide) (fun c32 => ?_) (fun c32 => ?_)
    · rw [if_pos c32] at hf
      exact w16 ()  _ _ _ hf hW (lv_sub hl [0, 1, 2, 3, 4] rfl)
    · rw [if_neg c32] at hf
      refine lv_iload_n hx hb dX8_figures_33 rfl (lv_at hl 3 rfl) ?_
      refine lv_iconst (v := (4 : Int32)) hx hb dX8_figures_34 (by decide) ?_
      refine lv_icmp_ge (tgt := 73) hx hb dX8_figures_35 (by decide) (fun c33 => ?_) (fun c33 => ?_)
      · rw [if_pos c33] at hf
        exact w16 ()  _ _ _ hf hW (lv_sub hl [0, 1, 2, 3, 4] rfl)
      · rw [if_neg c33] at hf
        refine lv_bipush (v := (10 : Int32)) hx hb dX8_figures_38 (by decide) ?_
        refine lv_iload hx hb dX8_figures_40 (lv_at hl 4 rfl) ?_
        refine lv_imul hx hb dX8_figures_42 ?_
        refine lv_aload_n hx hb dX8_figures_43 rfl (lv_at hl 0 rfl) ?_
        refine lv_aload_n hx hb dX8_figures_44 rfl (lv_at hl 0 rfl) ?_
        refine nb_get (C := RX8) (T := TX8) (N := 40) hx hb hts inT_X8 hown hK hW 0 rfl rfl 27 (by decide) (hts _ tw4_150) (fun _ h9 => h9) rfl (v := .int (σ8 0 27)) rfl dX8_figures_45 ?_
        obtain ⟨r35, hc34, hf⟩ := nb_b_e hf
        refine nb_ci hW (va_runV (As := [.int (σ8 0 27)]) (rest := [.int ((10 : Int32) * x7)]) ⟨hx, hb, hml, hown, hts⟩ (c_X8_byteAt l hinj hZo (N := N) hc34 ) (cwV 1 hts (xg_V tw5_29 tw5_31 tp2_7 tw1_10 tw5_32) rfl rfl rfl (by decide +kernel) ⟨Nat.le_of_ble_eq_true rfl, Nat.le_of_ble_eq_true rfl⟩) (nb_preV hK hZ hZo hW (k := 0) rfl rfl) rfl rfl hl.1 rfl (lv_room (Nat.le_of_ble_eq_true rfl)) dX8_figures_48 ⟨Nat.zero_le _, Nat.zero_le _⟩) (fun H locs hW => ?_)
        refine lv_iadd hx hb dX8_figures_51 ?_
        refine lv_bipush (v := (48 : Int32)) hx hb dX8_figures_52 (by decide) ?_
        refine lv_isub hx hb dX8_figures_54 ?_
        obtain ⟨x36, ex36, hf⟩ := nb_let_e hf
        refine nb_nami ex36 ?_
        refine lv_istore (lv' := [(4, .int x36), (0, .ref (G.2.1 0)), (1, .int a0), (2, .int x1), (3, .int x6)]) hx hb dX8_figures_55 hl (by decide) rfl (fun ls hl => ?_)
        refine lv_iinc (v := (x6 + 1)) (lv' := [(3, .int (x6 + 1)), (4, .int x36), (0, .ref (G.2.1 0)), (1, .int a0), (2, .int x1)]) hx hb dX8_figures_57 hl (k := 4) rfl rfl (by decide) rfl (fun ls hl => ?_)
        refine lv_aload_n hx hb dX8_figures_60 rfl (lv_at hl 2 rfl) ?_
        refine lv_dup hx hb dX8_figures_61 rfl ?_
        refine nb_get (C := RX8) (T := TX8) (N := 40) hx hb hts inT_X8 hown hK hW 0 rfl rfl 27 (by decide) (hts _ tw4_150) (fun _ h9 => h9) rfl (v := .int (σ8 0 27)) rfl dX8_figures_62 ?_
        refine lv_iconst (v := (1 : Int32)) hx hb dX8_figures_65 (by decide) ?_
        refine lv_iadd hx hb dX8_figures_66 ?_
        obtain ⟨σ37, eσ37, hf⟩ := nb_let_e hf
        refine nb_put (C := RX8) (T := TX8) (N := 40) hx hb hts inT_X8 hown hK tyX8 tyX8_ok nmX8 hinj hW 0 rfl rfl 27 (by decide) (hts _ tw4_150) (fun _ h9 => h9) rfl (ty := .int) (by decide +kernel) rfl rfl rfl (x := ((σ8 0 27) + (1 : Int32))) (by show Value.int _ = _; rw [nb_st_s]) eσ37 dX8_figures_67 (fun H locs hW => ?_)
        refine lv_goto (tgt := 12) hx hb dX8_figures_70 (by decide) ?_
        exact ih10 _ _ _ hf _ _ _ hW (lv_sub hl [2, 3, 4, 0, 1] rfl)
def fX8_isMinute (N : Nat) (σ : nb_St) (a0 : Int32) : Option Int32 :=
  nb_b (fX8_in N σ ((a0).toInt64) (0 : Int64) (359 : Int64)) fun r2 =>
  nb_g (nb_01 r2) (
  some r2)
def rmX8_isMinute : Room := { frames := 1, cells := 0, slots := 0, locals := 25 }
def vsX8_isMinute : List Cond := .code yX8_isMinute cX8_isMinute 1 (some .boolean) :: xT
set_option maxHeartbeats 4000000 in
set_option maxRecDepth 100000 in
theorem c_X8_isMinute (l : Launch) {G : nb_G} {Z : State → Heap → Prop} (hinj : nb_inj xm_sh G.2.1) (hZo : nb_Zok (nb_A xm_sh G.2.1) Z) {N : Nat} {σ : nb_St} {a0 : Int32} {ro : Int32} (hf : fX8_isMinute N σ a0 = some ro)  : Met l yX8_isMinute vsX8_isMinute rmX8_isMinute (nb_Pc G xm_sh Z σ [.int a0]) (nb_Qi G xm_sh Z ro σ) 0 0 (nb_A xm_sh G.2.1) := by
  refine Met.ofW (cc := cX8_isMinute) (maxL := 1) (ret := (some .boolean)) (by decide) rfl ?_
  intro p e s m args below meth c s₁ B hml hv
  obtain ⟨rfl, hP, hK, hZ⟩ := hv
  have hx := B.exec
  have hb := B.bytes
  have hr := B.returns
  have hts : ∀ w ∈ xT, w.before _ s = true := fun w h9 => atoms_spec (ws := vsX8_isMinute) B.pre w (List.mem_cons_of_mem _ h9)
  have hown : s.vm.findClass RX8 = some m.cls := findClass_of_methodNamed B.named
  have hlocks := B.notSynchronized
  have hW : nb_W G xm_sh s.heap σ s.heap [] := ⟨hP, va_S.rf⟩
  have hl := lv_entry ([.int a0]) (n := 1) (Nat.le_of_ble_eq_true rfl)
  rw [lg_entry_eq]
  generalize (lg_sl ([.int a0]) ++ List.replicate (1 - (lg_sl ([.int a0])).length) Slot.unset).toArray = ls at hl ⊢
  have hl : lv_has ls 1 [(0, .int a0)] := hl
  show W p l e rmX8_isMinute s m ([.int a0]).toArray below meth c s.heap [] 0 0 (MQ below (nb_Qi G xm_sh Z ro σ) ([.int a0]).toArray s 0 0 (nb_A xm_sh G.2.1)) (F0 m 0 ls [])
  generalize hargs : ([.int a0] : List Value).toArray = args at hts ⊢
  unfold fX8_isMinute at hf
  obtain ⟨H, eH⟩ : ∃ H, H = s.heap := ⟨_, rfl⟩
  obtain ⟨locs, eL⟩ : ∃ L : List Loc, L = [] := ⟨_, rfl⟩
  have hW : nb_W G xm_sh s.heap σ H locs := by rw [eH, eL]; exact hW
  suffices hgo : W p l e rmX8_isMinute s m args below meth c H locs 0 0 (MQ below (nb_Qi G xm_sh Z ro σ) args s 0 0 (nb_A xm_sh G.2.1)) (F0 m 0 ls []) by rw [eH, eL] at hgo; exact hgo
  clear eH eL
  refine lv_iload_n hx hb dX8_isMinute_0 rfl (lv_at hl 0 rfl) ?_
  refine lv_i2l hx hb dX8_isMinute_1 rfl ?_
  refine lv_lconst (v := (0 : Int64)) hx hb dX8_isMinute_2 (by decide) ?_
  refine lv_ldc2 (own := RX8) (v := (359 : Int64)) hx hb hown (hts _ tw5_47) dX8_isMinute_3 ?_
  obtain ⟨r2, hc1, hf⟩ := nb_b_e hf
  refine nb_ci hW (va_runS (As := [.long ((a0).toInt64), .long (0 : Int64), .long (359 : Int64)]) (rest := []) ⟨hx, hb, hml, hown, hts⟩ (c_X8_in l hinj hZo (N := N) hc1 ) (va_cwS 3 hts (xg_S tw5_9 tw5_10 tw1_10 tw5_11) rfl rfl rfl (by decide +kernel) ⟨Nat.le_of_ble_eq_true rfl, Nat.le_of_ble_eq_true rfl⟩) (nb_preS hK hZ hZo hW) rfl rfl hl.1 rfl (lv_room (Nat.le_of_ble_eq_true rfl)) dX8_isMinute_6 ⟨Nat.zero_le _, Nat.zero_le _⟩) (fun H locs hW => ?_)
  obtain ⟨g3, hf⟩ := nb_g_e hf
  exact nb_rzp hx hb hr hlocks hK hZ hZo hW (nb_01_n g3) hf dX8_isMinute_9
def fX8_guestItem (N : Nat) (σ : nb_St)  : Option (Int32 × nb_St) :=
  nb_g (nb_in (1 : Int32) 2) (
  nb_let ((8 : Int32) + (σ 2 (nb_ix (1 : Int32)))) fun x2 =>
  nb_b2 (fX8_figures N σ (4 : Int32)) fun r4 σ5 =>
  nb_let (fun (_u : Unit) =>
  some ((0 : Int32), σ5)) fun k6 =>
  (if r4 = 0 then
  k6 ()
  else
  nb_g (nb_in (1 : Int32) 2) (
  (if (σ5 2 (nb_ix (1 : Int32))) = (8 : Int32) then
  k6 ()
  else
  nb_g (nb_in (0 : Int32) 4) (
  (if (3 : Int32) < (σ5 25 (nb_ix (0 : Int32))) then
  k6 ()
  else
  nb_g (nb_in (1 : Int32) 4) (
  nb_b (fX8_isMinute N σ5 (σ5 25 (nb_ix (1 : Int32)))) fun r15 =>
  (if r15 = 0 then
  k6 ()
  else
  nb_g (nb_in (2 : Int32) 4) (
  (if (199 : Int32) < (σ5 25 (nb_ix (2 : Int32))) then
  k6 ()
  else
  nb_g (nb_in (3 : Int32) 4) (
  (if (σ5 25 (nb_ix (3 : Int32))) ≤ (5 : Int32) then
  nb_g (nb_in (0 : Int32) 4) (
  nb_g (nb_in x2 16) (
  nb_let (nb_st σ5 3 (nb_ix x2) (σ5 25 (nb_ix (0 : Int32)))) fun σ23 =>
  nb_g (nb_in (1 : Int32) 4) (
  nb_g (nb_in x2 16) (
  nb_let (nb_st σ23 4 (nb_ix x2) (σ23 25 (nb_ix (1 : Int32)))) fun σ26 =>
  nb_g (nb_in (2 : Int32) 4) (
  nb_g (nb_in x2 16) (
  nb_let (nb_st σ26 5 (nb_ix x2) (σ26 25 (nb_ix (2 : Int32)))) fun σ29 =>
  nb_g (nb_in (3 : Int32) 4) (
  nb_g (nb_in x2 16) (
  nb_let (nb_st σ29 6 (nb_ix x2) (σ29 25 (nb_ix (3 : Int32)))) fun σ32 =>
  nb_g (nb_in (1 : Int32) 2) (
  nb_g (nb_in (1 : Int32) 2) (
  nb_let (nb_st σ32 2 (nb_ix (1 : Int32)) ((σ32 2 (nb_ix (1 : Int32))) + (1 : Int32))) fun σ35 =>
  some ((1 : Int32), σ35)))))))))))
  else
  k6 ()))))))))))))
def rmX8_guestItem : Room := { frames := 2, cells := 0, slots := 0, locals := 49 }
def vsX8_guestItem : List Cond := .code yX8_guestItem cX8_guestItem 2 (some .boolean) :: xT
set_option maxHeartbeats 4000000 in
set_option maxRecDepth 100000 in
theorem c_X8_guestItem (l : Launch) {G : nb_G} {Z : State → Heap → Prop} (hinj : nb_inj xm_sh G.2.1) (hZo : nb_Zok (nb_A xm_sh G.2.1) Z) {N : Nat} {σ : nb_St}  {ro : Int32} {σo : nb_St} (hf : fX8_guestItem N σ = some (ro, σo))  : Met l yX8_guestItem vsX8_guestItem rmX8_guestItem (nb_Pc G xm_sh Z σ [.ref (G.2.1 0)]) (nb_Qi G xm_sh Z ro σo) 0 0 (nb_A xm_sh G.2.1) := by
  refine Met.ofW (cc := cX8_guestItem) (maxL := 2) (ret := (some .boolean)) (by decide) rfl ?_
  intro p e s m args below meth c s₁ B hml hv
  obtain ⟨rfl, hP, hK, hZ⟩ := hv
  have hx := B.exec
  have hb := B.bytes
  have hr := B.returns
  have hts : ∀ w ∈ xT, w.before _ s = true := fun w h9 => atoms_spec (ws := vsX8_guestItem) B.pre w (List.mem_cons_of_mem _ h9)
  have hown : s.vm.findClass RX8 = some m.cls := findClass_of_methodNamed B.named
  have hlocks := B.notSynchronized
  have hW : nb_W G xm_sh s.heap σ s.heap [] := ⟨hP, va_S.rf⟩
  have hl := lv_entry ([.ref (G.2.1 0)]) (n := 2) (Nat.le_of_ble_eq_true rfl)
  rw [lg_entry_eq]
  generalize (lg_sl ([.ref (G.2.1 0)]) ++ List.replicate (2 - (lg_sl ([.ref (G.2.1 0)])).length) Slot.unset).toArray = ls at hl ⊢
  have hl : lv_has ls 2 [(0, .ref (G.2.1 0))] := hl
  show W p l e rmX8_guestItem s m ([.ref (G.2.1 0)]).toArray below meth c s.heap [] 0 0 (MQ below (nb_Qi G xm_sh Z ro σo) ([.ref (G.2.1 0)]).toArray s 0 0 (nb_A xm_sh G.2.1)) (F0 m 0 ls [])
  generalize hargs : ([.ref (G.2.1 0)] : List Value).toArray = args at hts ⊢
  unfold fX8_guestItem at hf
  obtain ⟨H, eH⟩ : ∃ H, H = s.heap := ⟨_, rfl⟩
  obtain ⟨locs, eL⟩ : ∃ L : List Loc, L = [] := ⟨_, rfl⟩
  have hW : nb_W G xm_sh s.heap σ H locs := by rw [eH, eL]; exact hW
  suffices hgo : W p l e rmX8_guestItem s m args below meth c H locs 0 0 (MQ below (nb_Qi G xm_sh Z ro σo) args s 0 0 (nb_A xm_sh G.2.1)) (F0 m 0 ls []) by rw [eH, eL] at hgo; exact hgo
  clear eH eL
  refine lv_bipush (v := (8 : Int32)) hx hb dX8_guestItem_0 (by decide) ?_
  refine lv_aload_n hx hb dX8_guestItem_2 rfl (lv_at hl 0 rfl) ?_
  refine nb_get (C := RX8) (T := TX8) (N := 40) hx hb hts inT_X8 hown hK hW 0 rfl rfl 2 (by decide) (hts _ tw4_125) (fun _ h9 => h9) rfl (v := .ref (G.2.1 2)) rfl dX8_guestItem_3 ?_
  refine lv_iconst (v := (1 : Int32)) hx hb dX8_guestItem_6 (by decide) ?_
  obtain ⟨g1, hf⟩ := nb_g_e hf
  refine nb_iald hx hb hK hW 2 rfl g1 dX8_guestItem_7 ?_
  refine lv_iadd hx hb dX8_guestItem_8 ?_
  obtain ⟨x2, ex2, hf⟩ := nb_let_e hf
  refine nb_nami ex2 ?_
  refine lv_istore_n (lv' := [(1, .int x2), (0, .ref (G.2.1 0))]) hx hb dX8_guestItem_9 rfl hl (by decide) rfl (fun ls hl => ?_)
  refine lv_aload_n hx hb dX8_guestItem_10 rfl (lv_at hl 1 rfl) ?_
  refine lv_iconst (v := (4 : Int32)) hx hb dX8_guestItem_11 (by decide) ?_
  obtain ⟨r4, σ5, hc3, hf⟩ := nb_b2_e hf
  refine nb_ci hW (va_runV (As := [.int (4 : Int32)]) (rest := []) ⟨hx, hb, hml, hown, hts⟩ (c_X8_figures l hinj hZo (N := N) hc3 ) (cwV 1 hts (xg_V tw5_37 tw5_39 tp2_9 tw1_10 tw5_40) rfl rfl rfl (by decide +kernel) ⟨Nat.le_of_ble_eq_true rfl, Nat.le_of_ble_eq_true rfl⟩) (nb_preV hK hZ hZo hW (k := 0) rfl rfl) rfl rfl hl.1 rfl (lv_room (Nat.le_of_ble_eq_true rfl)) dX8_guestItem_12 ⟨Nat.zero_le _, Nat.zero_le _⟩) (fun H locs hW => ?_)
  obtain ⟨k6, ek6, hf⟩ := nb_let_e hf
  have w7 : ∀ (_u : Unit) (H : Heap) (locs : List Loc) (ls : Array Slot), k6 _u = some (ro, σo) → nb_W G xm_sh s.heap σ5 H locs → lv_has ls 2 [] → W p l e rmX8_guestItem s m args below meth c H locs 0 0 (MQ below (nb_Qi G xm_sh Z ro σo) args s 0 0 (nb_A xm_sh G.2.1)) (F0 m 73 ls []) := by
    intro _u H locs ls hf hW hl
    have hf := (congrFun ek6 _u).symm.trans hf
    refine lv_iconst (v := (0 : Int32)) hx hb dX8_guestItem_73 (by decide) ?_
    exact nb_rz hx hb hr hlocks hK hZ hZo hW rfl hf dX8_guestItem_74
  clear ek6
  refine lv_if_eq (tgt := 73) hx hb dX8_guestItem_15 (by decide) (fun c8 => ?_) (fun c8 => ?_)
  · rw [if_pos c8] at hf
    exact w7 ()  _ _ _ hf hW (lv_sub hl [] rfl)
  · rw [if_neg c8] at hf
    refine lv_aload_n hx hb dX8_guestItem_18 rfl (lv_at hl 1 rfl) ?_
    refine nb_get (C := RX8) (T := TX8) (N := 40) hx hb hts inT_X8 hown hK hW 0 rfl rfl 2 (by decide) (hts _ tw4_125) (fun _ h9 => h9) rfl (v := .ref (G.2.1 2)) rfl dX8_guestItem_19 ?_
    refine lv_iconst (v := (1 : Int32)) hx hb dX8_guestItem_22 (by decide) ?_
    obtain ⟨g9, hf⟩ := nb_g_e hf
    refine nb_iald hx hb hK hW 2 rfl g9 dX8_guestItem_23 ?_
    refine lv_bipush (v := (8 : Int32)) hx hb dX8_guestItem_24 (by decide) ?_
    refine lv_icmp_eq (tgt := 73) hx hb dX8_guestItem_26 (by decide) (fun c10 => ?_) (fun c10 => ?_)
    · rw [if_pos c10] at hf
      exact w7 ()  _ _ _ hf hW (lv_sub hl [] rfl)
    · rw [if_neg c10] at hf
      refine lv_aload_n hx hb dX8_guestItem_29 rfl (lv_at hl 1 rfl) ?_
      refine nb_get (C := RX8) (T := TX8) (N := 40) hx hb hts inT_X8 hown hK hW 0 rfl rfl 28 (by decide) (hts _ tw4_151) (fun _ h9 => h9) rfl (v := .ref (G.2.1 25)) rfl dX8_guestItem_30 ?_
      refine lv_iconst (v := (0 : Int32)) hx hb dX8_guestItem_33 (by decide) ?_
      obtain ⟨g11, hf⟩ := nb_g_e hf
      refine nb_iald hx hb hK hW 25 rfl g11 dX8_guestItem_34 ?_
      refine lv_iconst (v := (3 : Int32)) hx hb dX8_guestItem_35 (by decide) ?_
      refine lv_icmp_gt (tgt := 73) hx hb dX8_guestItem_36 (by decide) (fun c12 => ?_) (fun c12 => ?_)
      · rw [if_pos c12] at hf
        exact w7 ()  _ _ _ hf hW (lv_sub hl [] rfl)
      · rw [if_neg c12] at hf
        refine lv_aload_n hx hb dX8_guestItem_39 rfl (lv_at hl 1 rfl) ?_
        refine nb_get (C := RX8) (T := TX8) (N := 40) hx hb hts inT_X8 hown hK hW 0 rfl rfl 28 (by decide) (hts _ tw4_151) (fun _ h9 => h9) rfl (v := .ref (G.2.1 25)) rfl dX8_guestItem_40 ?_
        refine lv_iconst (v := (1 : Int32)) hx hb dX8_guestItem_43 (by decide) ?_
        obtain ⟨g13, hf⟩ := nb_g_e hf
        refine nb_iald hx hb hK hW 25 rfl g13 dX8_guestItem_44 ?_
        obtain ⟨r15, hc14, hf⟩ := nb_b_e hf
        refine nb_ci hW (va_runS (As := [.int (σ5 25 (nb_ix (1 : Int32)))]) (rest := []) ⟨hx, hb, hml, hown, hts⟩ (c_X8_isMinute l hinj hZo (N := N) hc14 ) (va_cwS 1 hts (xg_S tw5_44 tw5_45 tw1_10 tw5_46) rfl rfl rfl (by decide +kernel) ⟨Nat.le_of_ble_eq_true rfl, Nat.le_of_ble_eq_true rfl⟩) (nb_preS hK hZ hZo hW) rfl rfl hl.1 rfl (lv_room (Nat.le_of_ble_eq_true rfl)) dX8_guestItem_45 ⟨Nat.zero_le _, Nat.zero_le _⟩) (fun H locs hW => ?_)
        refine lv_if_eq (tgt := 73) hx hb dX8_guestItem_48 (by decide) (fun c16 => ?_) (fun c16 => ?_)
        · rw [if_pos c16] at hf
          exact w7 ()  _ _ _ hf hW (lv_sub hl [] rfl)
        · rw [if_neg c16] at hf
          refine lv_aload_n hx hb dX8_guestItem_51 rfl (lv_at hl 1 rfl) ?_
          refine nb_get (C := RX8) (T := TX8) (N := 40) hx hb hts inT_X8 hown hK hW 0 rfl rfl 28 (by decide) (hts _ tw4_151) (fun _ h9 => h9) rfl (v := .ref (G.2.1 25)) rfl dX8_guestItem_52 ?_
          refine lv_iconst (v := (2 : Int32)) hx hb dX8_guestItem_55 (by decide) ?_
          obtain ⟨g17, hf⟩ := nb_g_e hf
          refine nb_iald hx hb hK hW 25 rfl g17 dX8_guestItem_56 ?_
          refine lv_sipush (v := (199 : Int32)) hx hb dX8_guestItem_57 (by decide) ?_
          refine lv_icmp_gt (tgt := 73) hx hb dX8_guestItem_60 (by decide) (fun c18 => ?_) (fun c18 => ?_)
          · rw [if_pos c18] at hf
            exact w7 ()  _ _ _ hf hW (lv_sub hl [] rfl)
          · rw [if_neg c18] at hf
            refine lv_aload_n hx hb dX8_guestItem_63 rfl (lv_at hl 1 rfl) ?_
            refine nb_get (C := RX8) (T := TX8) (N := 40) hx hb hts inT_X8 hown hK hW 0 rfl rfl 28 (by decide) (hts _ tw4_151) (fun _ h9 => h9) rfl (v := .ref (G.2.1 25)) rfl dX8_guestItem_64 ?_
            refine lv_iconst (v := (3 : Int32)) hx hb dX8_guestItem_67 (by decide) ?_
            obtain ⟨g19, hf⟩ := nb_g_e hf
            refine nb_iald hx hb hK hW 25 rfl g19 dX8_guestItem_68 ?_
            refine lv_iconst (v := (5 : Int32)) hx hb dX8_guestItem_69 (by decide) ?_
            refine lv_icmp_le (tgt := 75) hx hb dX8_guestItem_70 (by decide) (fun c20 => ?_) (fun c20 => ?_)
            · rw [if_pos c20] at hf
              refine lv_aload_n hx hb dX8_guestItem_75 rfl (lv_at hl 1 rfl) ?_
              refine nb_get (C := RX8) (T := TX8) (N := 40) hx hb hts inT_X8 hown hK hW 0 rfl rfl 3 (by decide) (hts _ tw4_126) (fun _ h9 => h9) rfl (v := .ref (G.2.1 3)) rfl dX8_guestItem_76 ?_
              refine lv_iload_n hx hb dX8_guestItem_79 rfl (lv_at hl 0 rfl) ?_
              refine lv_aload_n hx hb dX8_guestItem_80 rfl (lv_at hl 1 rfl) ?_
              refine nb_get (C := RX8) (T := TX8) (N := 40) hx hb hts inT_X8 hown hK hW 0 rfl rfl 28 (by decide) (hts _ tw4_151) (fun _ h9 => h9) rfl (v := .ref (G.2.1 25)) rfl dX8_guestItem_81 ?_
              refine lv_iconst (v := (0 : Int32)) hx hb dX8_guestItem_84 (by decide) ?_
              obtain ⟨g21, hf⟩ := nb_g_e hf
              refine nb_iald hx hb hK hW 25 rfl g21 dX8_guestItem_85 ?_
              obtain ⟨g22, hf⟩ := nb_g_e hf
              obtain ⟨σ23, eσ23, hf⟩ := nb_let_e hf
              refine nb_iast hx hb hK hinj hW 3 rfl g22 eσ23 dX8_guestItem_86 (fun H locs hW => ?_)
              refine lv_aload_n hx hb dX8_guestItem_87 rfl (lv_at hl 1 rfl) ?_
              refine nb_get (C := RX8) (T := TX8) (N := 40) hx hb hts inT_X8 hown hK hW 0 rfl rfl 4 (by decide) (hts _ tw4_127) (fun _ h9 => h9) rfl (v := .ref (G.2.1 4)) rfl dX8_guestItem_88 ?_
              refine lv_iload_n hx hb dX8_guestItem_91 rfl (lv_at hl 0 rfl) ?_
              refine lv_aload_n hx hb dX8_guestItem_92 rfl (lv_at hl 1 rfl) ?_
              refine nb_get (C := RX8) (T := TX8) (N := 40) hx hb hts inT_X8 hown hK hW 0 rfl rfl 28 (by decide) (hts _ tw4_151) (fun _ h9 => h9) rfl (v := .ref (G.2.1 25)) rfl dX8_guestItem_93 ?_
              refine lv_iconst (v := (1 : Int32)) hx hb dX8_guestItem_96 (by decide) ?_
              obtain ⟨g24, hf⟩ := nb_g_e hf
              refine nb_iald hx hb hK hW 25 rfl g24 dX8_guestItem_97 ?_
              obtain ⟨g25, hf⟩ := nb_g_e hf
              obtain ⟨σ26, eσ26, hf⟩ := nb_let_e hf
              refine nb_iast hx hb hK hinj hW 4 rfl g25 eσ26 dX8_guestItem_98 (fun H locs hW => ?_)
              refine lv_aload_n hx hb dX8_guestItem_99 rfl (lv_at hl 1 rfl) ?_
              refine nb_get (C := RX8) (T := TX8) (N := 40) hx hb hts inT_X8 hown hK hW 0 rfl rfl 5 (by decide) (hts _ tw4_128) (fun _ h9 => h9) rfl (v := .ref (G.2.1 5)) rfl dX8_guestItem_100 ?_
              refine lv_iload_n hx hb dX8_guestItem_103 rfl (lv_at hl 0 rfl) ?_
              refine lv_aload_n hx hb dX8_guestItem_104 rfl (lv_at hl 1 rfl) ?_
              refine nb_get (C := RX8) (T := TX8) (N := 40) hx hb hts inT_X8 hown hK hW 0 rfl rfl 28 (by decide) (hts _ tw4_151) (fun _ h9 => h9) rfl (v := .ref (G.2.1 25)) rfl dX8_guestItem_105 ?_
              refine lv_iconst (v := (2 : Int32)) hx hb dX8_guestItem_108 (by decide) ?_
              obtain ⟨g27, hf⟩ := nb_g_e hf
              refine nb_iald hx hb hK hW 25 rfl g27 dX8_guestItem_109 ?_
              obtain ⟨g28, hf⟩ := nb_g_e hf
              obtain ⟨σ29, eσ29, hf⟩ := nb_let_e hf
              refine nb_iast hx hb hK hinj hW 5 rfl g28 eσ29 dX8_guestItem_110 (fun H locs hW => ?_)
              refine lv_aload_n hx hb dX8_guestItem_111 rfl (lv_at hl 1 rfl) ?_
              refine nb_get (C := RX8) (T := TX8) (N := 40) hx hb hts inT_X8 hown hK hW 0 rfl rfl 6 (by decide) (hts _ tw4_129) (fun _ h9 => h9) rfl (v := .ref (G.2.1 6)) rfl dX8_guestItem_112 ?_
              refine lv_iload_n hx hb dX8_guestItem_115 rfl (lv_at hl 0 rfl) ?_
              refine lv_aload_n hx hb dX8_guestItem_116 rfl (lv_at hl 1 rfl) ?_
              refine nb_get (C := RX8) (T := TX8) (N := 40) hx hb hts inT_X8 hown hK hW 0 rfl rfl 28 (by decide) (hts _ tw4_151) (fun _ h9 => h9) rfl (v := .ref (G.2.1 25)) rfl dX8_guestItem_117 ?_
              refine lv_iconst (v := (3 : Int32)) hx hb dX8_guestItem_120 (by decide) ?_
              obtain ⟨g30, hf⟩ := nb_g_e hf
              refine nb_iald hx hb hK hW 25 rfl g30 dX8_guestItem_121 ?_
              obtain ⟨g31, hf⟩ := nb_g_e hf
              obtain ⟨σ32, eσ32, hf⟩ := nb_let_e hf
              refine nb_iast hx hb hK hinj hW 6 rfl g31 eσ32 dX8_guestItem_122 (fun H locs hW => ?_)
              refine lv_aload_n hx hb dX8_guestItem_123 rfl (lv_at hl 1 rfl) ?_
              refine nb_get (C := RX8) (T := TX8) (N := 40) hx hb hts inT_X8 hown hK hW 0 rfl rfl 2 (by decide) (hts _ tw4_125) (fun _ h9 => h9) rfl (v := .ref (G.2.1 2)) rfl dX8_guestItem_124 ?_
              refine lv_iconst (v := (1 : Int32)) hx hb dX8_guestItem_127 (by decide) ?_
              refine lv_dup2_11 hx hb dX8_guestItem_128 rfl rfl ?_
              obtain ⟨g33, hf⟩ := nb_g_e hf
              refine nb_iald hx hb hK hW 2 rfl g33 dX8_guestItem_129 ?_
              refine lv_iconst (v := (1 : Int32)) hx hb dX8_guestItem_130 (by decide) ?_
              refine lv_iadd hx hb dX8_guestItem_131 ?_
              obtain ⟨g34, hf⟩ := nb_g_e hf
              obtain ⟨σ35, eσ35, hf⟩ := nb_let_e hf
              refine nb_iast hx hb hK hinj hW 2 rfl g34 eσ35 dX8_guestItem_132 (fun H locs hW => ?_)
              refine lv_iconst (v := (1 : Int32)) hx hb dX8_guestItem_133 (by decide) ?_
              exact nb_rz hx hb hr hlocks hK hZ hZo hW rfl hf dX8_guestItem_134
            · rw [if_neg c20] at hf
              exact w7 ()  _ _ _ hf hW (lv_sub hl [] rfl)
def fX8_lookItem (N : Nat) (σ : nb_St)  : Option (Int32 × nb_St) :=
  nb_g (nb_in (1 : Int32) 2) (
  nb_let ((6 : Int32) + (σ 15 (nb_ix (1 : Int32)))) fun x2 =>
  nb_b2 (fX8_figures N σ (3 : Int32)) fun r4 σ5 =>
  nb_let (fun (_u : Unit) =>
  some ((0 : Int32), σ5)) fun k6 =>
  (if r4 = 0 then
  k6 ()
  else
  nb_g (nb_in (1 : Int32) 2) (
  (if (σ5 15 (nb_ix (1 : Int32))) = (6 : Int32) then
  k6 ()
  else
  nb_g (nb_in (0 : Int32) 4) (
  nb_g (nb_in (1 : Int32) 2) (
  (if (σ5 2 (nb_ix (1 : Int32))) ≤ (σ5 25 (nb_ix (0 : Int32))) then
  k6 ()
  else
  nb_g (nb_in (1 : Int32) 4) (
  nb_b (fX8_isMinute N σ5 (σ5 25 (nb_ix (1 : Int32)))) fun r16 =>
  (if r16 = 0 then
  k6 ()
  else
  nb_g (nb_in (2 : Int32) 4) (
  (if (σ5 25 (nb_ix (2 : Int32))) ≤ (1 : Int32) then
  nb_g (nb_in (0 : Int32) 4) (
  nb_g (nb_in x2 12) (
  nb_let (nb_st σ5 16 (nb_ix x2) (σ5 25 (nb_ix (0 : Int32)))) fun σ22 =>
  nb_g (nb_in (1 : Int32) 4) (
  nb_g (nb_in x2 12) (
  nb_let (nb_st σ22 17 (nb_ix x2) (σ22 25 (nb_ix (1 : Int32)))) fun σ25 =>
  nb_g (nb_in (2 : Int32) 4) (
  nb_g (nb_in x2 12) (
  nb_let (nb_st σ25 18 (nb_ix x2) (σ25 25 (nb_ix (2 : Int32)))) fun σ28 =>
  nb_g (nb_in (1 : Int32) 2) (
  nb_g (nb_in (1 : Int32) 2) (
  nb_let (nb_st σ28 15 (nb_ix (1 : Int32)) ((σ28 15 (nb_ix (1 : Int32))) + (1 : Int32))) fun σ31 =>
  some ((1 : Int32), σ31)))))))))
  else
  k6 ())))))))))))
def rmX8_lookItem : Room := { frames := 2, cells := 0, slots := 0, locals := 49 }
def vsX8_lookItem : List Cond := .code yX8_lookItem cX8_lookItem 2 (some .boolean) :: xT
set_option maxHeartbeats 4000000 in
set_option maxRecDepth 100000 in
theorem c_X8_lookItem (l : Launch) {G : nb_G} {Z : State → Heap → Prop} (hinj : nb_inj xm_sh G.2.1) (hZo : nb_Zok (nb_A xm_sh G.2.1) Z) {N : Nat} {σ : nb_St}  {ro : Int32} {σo : nb_St} (hf : fX8_lookItem N σ = some (ro, σo))  : Met l yX8_lookItem vsX8_lookItem rmX8_lookItem (nb_Pc G xm_sh Z σ [.ref (G.2.1 0)]) (nb_Qi G xm_sh Z ro σo) 0 0 (nb_A xm_sh G.2.1) := by
  refine Met.ofW (cc := cX8_lookItem) (maxL := 2) (ret := (some .boolean)) (by decide) rfl ?_
  intro p e s m args below meth c s₁ B hml hv
  obtain ⟨rfl, hP, hK, hZ⟩ := hv
  have hx := B.exec
  have hb := B.bytes
  have hr := B.returns
  have hts : ∀ w ∈ xT, w.before _ s = true := fun w h9 => atoms_spec (ws := vsX8_lookItem) B.pre w (List.mem_cons_of_mem _ h9)
  have hown : s.vm.findClass RX8 = some m.cls := findClass_of_methodNamed B.named
  have hlocks := B.notSynchronized
  have hW : nb_W G xm_sh s.heap σ s.heap [] := ⟨hP, va_S.rf⟩
  have hl := lv_entry ([.ref (G.2.1 0)]) (n := 2) (Nat.le_of_ble_eq_true rfl)
  rw [lg_entry_eq]
  generalize (lg_sl ([.ref (G.2.1 0)]) ++ List.replicate (2 - (lg_sl ([.ref (G.2.1 0)])).length) Slot.unset).toArray = ls at hl ⊢
  have hl : lv_has ls 2 [(0, .ref (G.2.1 0))] := hl
  show W p l e rmX8_lookItem s m ([.ref (G.2.1 0)]).toArray below meth c s.heap [] 0 0 (MQ below (nb_Qi G xm_sh Z ro σo) ([.ref (G.2.1 0)]).toArray s 0 0 (nb_A xm_sh G.2.1)) (F0 m 0 ls [])
  generalize hargs : ([.ref (G.2.1 0)] : List Value).toArray = args at hts ⊢
  unfold fX8_lookItem at hf
  obtain ⟨H, eH⟩ : ∃ H, H = s.heap := ⟨_, rfl⟩
  obtain ⟨locs, eL⟩ : ∃ L : List Loc, L = [] := ⟨_, rfl⟩
  have hW : nb_W G xm_sh s.heap σ H locs := by rw [eH, eL]; exact hW
  suffices hgo : W p l e rmX8_lookItem s m args below meth c H locs 0 0 (MQ below (nb_Qi G xm_sh Z ro σo) args s 0 0 (nb_A xm_sh G.2.1)) (F0 m 0 ls []) by rw [eH, eL] at hgo; exact hgo
  clear eH eL
  refine lv_bipush (v := (6 : Int32)) hx hb dX8_lookItem_0 (by decide) ?_
  refine lv_aload_n hx hb dX8_lookItem_2 rfl (lv_at hl 0 rfl) ?_
  refine nb_get (C := RX8) (T := TX8) (N := 40) hx hb hts inT_X8 hown hK hW 0 rfl rfl 15 (by decide) (hts _ tw4_138) (fun _ h9 => h9) rfl (v := .ref (G.2.1 15)) rfl dX8_lookItem_3 ?_
  refine lv_iconst (v := (1 : Int32)) hx hb dX8_lookItem_6 (by decide) ?_
  obtain ⟨g1, hf⟩ := nb_g_e hf
  refine nb_iald hx hb hK hW 15 rfl g1 dX8_lookItem_7 ?_
  refine lv_iadd hx hb dX8_lookItem_8 ?_
  obtain ⟨x2, ex2, hf⟩ := nb_let_e hf
  refine nb_nami ex2 ?_
  refine lv_istore_n (lv' := [(1, .int x2), (0, .ref (G.2.1 0))]) hx hb dX8_lookItem_9 rfl hl (by decide) rfl (fun ls hl => ?_)
  refine lv_aload_n hx hb dX8_lookItem_10 rfl (lv_at hl 1 rfl) ?_
  refine lv_iconst (v := (3 : Int32)) hx hb dX8_lookItem_11 (by decide) ?_
  obtain ⟨r4, σ5, hc3, hf⟩ := nb_b2_e hf
  refine nb_ci hW (va_runV (As := [.int (3 : Int32)]) (rest := []) ⟨hx, hb, hml, hown, hts⟩ (c_X8_figures l hinj hZo (N := N) hc3 ) (cwV 1 hts (xg_V tw5_37 tw5_39 tp2_9 tw1_10 tw5_40) rfl rfl rfl (by decide +kernel) ⟨Nat.le_of_ble_eq_true rfl, Nat.le_of_ble_eq_true rfl⟩) (nb_preV hK hZ hZo hW (k := 0) rfl rfl) rfl rfl hl.1 rfl (lv_room (Nat.le_of_ble_eq_true rfl)) dX8_lookItem_12 ⟨Nat.zero_le _, Nat.zero_le _⟩) (fun H locs hW => ?_)
  obtain ⟨k6, ek6, hf⟩ := nb_let_e hf
  have w7 : ∀ (_u : Unit) (H : Heap) (locs : List Loc) (ls : Array Slot), k6 _u = some (ro, σo) → nb_W G xm_sh s.heap σ5 H locs → lv_has ls 2 [] → W p l e rmX8_lookItem s m args below meth c H locs 0 0 (MQ below (nb_Qi G xm_sh Z ro σo) args s 0 0 (nb_A xm_sh G.2.1)) (F0 m 66 ls []) := by
    intro _u H locs ls hf hW hl
    have hf := (congrFun ek6 _u).symm.trans hf
    refine lv_iconst (v := (0 : Int32)) hx hb dX8_lookItem_66 (by decide) ?_
    exact nb_rz hx hb hr hlocks hK hZ hZo hW rfl hf dX8_lookItem_67
  clear ek6
  refine lv_if_eq (tgt := 66) hx hb dX8_lookItem_15 (by decide) (fun c8 => ?_) (fun c8 => ?_)
  · rw [if_pos c8] at hf
    exact w7 ()  _ _ _ hf hW (lv_sub hl [] rfl)
  · rw [if_neg c8] at hf
    refine lv_aload_n hx hb dX8_lookItem_18 rfl (lv_at hl 1 rfl) ?_
    refine nb_get (C := RX8) (T := TX8) (N := 40) hx hb hts inT_X8 hown hK hW 0 rfl rfl 15 (by decide) (hts _ tw4_138) (fun _ h9 => h9) rfl (v := .ref (G.2.1 15)) rfl dX8_lookItem_19 ?_
    refine lv_iconst (v := (1 : Int32)) hx hb dX8_lookItem_22 (by decide) ?_
    obtain ⟨g9, hf⟩ := nb_g_e hf
    refine nb_iald hx hb hK hW 15 rfl g9 dX8_lookItem_23 ?_
    refine lv_bipush (v := (6 : Int32)) hx hb dX8_lookItem_24 (by decide) ?_
    refine lv_icmp_eq (tgt := 66) hx hb dX8_lookItem_26 (by decide) (fun c10 => ?_) (fun c10 => ?_)
    · rw [if_pos c10] at hf
      exact w7 ()  _ _ _ hf hW (lv_sub hl [] rfl)
    · rw [if_neg c10] at hf
      refine lv_aload_n hx hb dX8_lookItem_29 rfl (lv_at hl 1 rfl) ?_
      refine nb_get (C := RX8) (T := TX8) (N := 40) hx hb hts inT_X8 hown hK hW 0 rfl rfl 28 (by decide) (hts _ tw4_151) (fun _ h9 => h9) rfl (v := .ref (G.2.1 25)) rfl dX8_lookItem_30 ?_
      refine lv_iconst (v := (0 : Int32)) hx hb dX8_lookItem_33 (by decide) ?_
      obtain ⟨g11, hf⟩ := nb_g_e hf
      refine nb_iald hx hb hK hW 25 rfl g11 dX8_lookItem_34 ?_
      refine lv_aload_n hx hb dX8_lookItem_35 rfl (lv_at hl 1 rfl) ?_
      refine nb_get (C := RX8) (T := TX8) (N := 40) hx hb hts inT_X8 hown hK hW 0 rfl rfl 2 (by decide) (hts _ tw4_125) (fun _ h9 => h9) rfl (v := .ref (G.2.1 2)) rfl dX8_lookItem_36 ?_
      refine lv_iconst (v := (1 : Int32)) hx hb dX8_lookItem_39 (by decide) ?_
      obtain ⟨g12, hf⟩ := nb_g_e hf
      refine nb_iald hx hb hK hW 2 rfl g12 dX8_lookItem_40 ?_
      refine lv_icmp_ge (tgt := 66) hx hb dX8_lookItem_41 (by decide) (fun c13 => ?_) (fun c13 => ?_)
      · rw [if_pos c13] at hf
        exact w7 ()  _ _ _ hf hW (lv_sub hl [] rfl)
      · rw [if_neg c13] at hf
        refine lv_aload_n hx hb dX8_lookItem_44 rfl (lv_at hl 1 rfl) ?_
        refine nb_get (C := RX8) (T := TX8) (N := 40) hx hb hts inT_X8 hown hK hW 0 rfl rfl 28 (by decide) (hts _ tw4_151) (fun _ h9 => h9) rfl (v := .ref (G.2.1 25)) rfl dX8_lookItem_45 ?_
        refine lv_iconst (v := (1 : Int32)) hx hb dX8_lookItem_48 (by decide) ?_
        obtain ⟨g14, hf⟩ := nb_g_e hf
        refine nb_iald hx hb hK hW 25 rfl g14 dX8_lookItem_49 ?_
        obtain ⟨r16, hc15, hf⟩ := nb_b_e hf
        refine nb_ci hW (va_runS (As := [.int (σ5 25 (nb_ix (1 : Int32)))]) (rest := []) ⟨hx, hb, hml, hown, hts⟩ (c_X8_isMinute l hinj hZo (N := N) hc15 ) (va_cwS 1 hts (xg_S tw5_44 tw5_45 tw1_10 tw5_46) rfl rfl rfl (by decide +kernel) ⟨Nat.le_of_ble_eq_true rfl, Nat.le_of_ble_eq_true rfl⟩) (nb_preS hK hZ hZo hW) rfl rfl hl.1 rfl (lv_room (Nat.le_of_ble_eq_true rfl)) dX8_lookItem_50 ⟨Nat.zero_le _, Nat.zero_le _⟩) (fun H locs hW => ?_)
        refine lv_if_eq (tgt := 66) hx hb dX8_lookItem_53 (by decide) (fun c17 => ?_) (fun c17 => ?_)
        · rw [if_pos c17] at hf
          exact w7 ()  _ _ _ hf hW (lv_sub hl [] rfl)
        · rw [if_neg c17] at hf
          refine lv_aload_n hx hb dX8_lookItem_56 rfl (lv_at hl 1 rfl) ?_
          refine nb_get (C := RX8) (T := TX8) (N := 40) hx hb hts inT_X8 hown hK hW 0 rfl rfl 28 (by decide) (hts _ tw4_151) (fun _ h9 => h9) rfl (v := .ref (G.2.1 25)) rfl dX8_lookItem_57 ?_
          refine lv_iconst (v := (2 : Int32)) hx hb dX8_lookItem_60 (by decide) ?_
          obtain ⟨g18, hf⟩ := nb_g_e hf
          refine nb_iald hx hb hK hW 25 rfl g18 dX8_lookItem_61 ?_
          refine lv_iconst (v := (1 : Int32)) hx hb dX8_lookItem_62 (by decide) ?_
          refine lv_icmp_le (tgt := 68) hx hb dX8_lookItem_63 (by decide) (fun c19 => ?_) (fun c19 => ?_)
          · rw [if_pos c19] at hf
            refine lv_aload_n hx hb dX8_lookItem_68 rfl (lv_at hl 1 rfl) ?_
            refine nb_get (C := RX8) (T := TX8) (N := 40) hx hb hts inT_X8 hown hK hW 0 rfl rfl 16 (by decide) (hts _ tw4_139) (fun _ h9 => h9) rfl (v := .ref (G.2.1 16)) rfl dX8_lookItem_69 ?_
            refine lv_iload_n hx hb dX8_lookItem_72 rfl (lv_at hl 0 rfl) ?_
            refine lv_aload_n hx hb dX8_lookItem_73 rfl (lv_at hl 1 rfl) ?_
            refine nb_get (C := RX8) (T := TX8) (N := 40) hx hb hts inT_X8 hown hK hW 0 rfl rfl 28 (by decide) (hts _ tw4_151) (fun _ h9 => h9) rfl (v := .ref (G.2.1 25)) rfl dX8_lookItem_74 ?_
            refine lv_iconst (v := (0 : Int32)) hx hb dX8_lookItem_77 (by decide) ?_
            obtain ⟨g20, hf⟩ := nb_g_e hf
            refine nb_iald hx hb hK hW 25 rfl g20 dX8_lookItem_78 ?_
            obtain ⟨g21, hf⟩ := nb_g_e hf
            obtain ⟨σ22, eσ22, hf⟩ := nb_let_e hf
            refine nb_iast hx hb hK hinj hW 16 rfl g21 eσ22 dX8_lookItem_79 (fun H locs hW => ?_)
            refine lv_aload_n hx hb dX8_lookItem_80 rfl (lv_at hl 1 rfl) ?_
            refine nb_get (C := RX8) (T := TX8) (N := 40) hx hb hts inT_X8 hown hK hW 0 rfl rfl 17 (by decide) (hts _ tw4_140) (fun _ h9 => h9) rfl (v := .ref (G.2.1 17)) rfl dX8_lookItem_81 ?_
            refine lv_iload_n hx hb dX8_lookItem_84 rfl (lv_at hl 0 rfl) ?_
            refine lv_aload_n hx hb dX8_lookItem_85 rfl (lv_at hl 1 rfl) ?_
            refine nb_get (C := RX8) (T := TX8) (N := 40) hx hb hts inT_X8 hown hK hW 0 rfl rfl 28 (by decide) (hts _ tw4_151) (fun _ h9 => h9) rfl (v := .ref (G.2.1 25)) rfl dX8_lookItem_86 ?_
            refine lv_iconst (v := (1 : Int32)) hx hb dX8_lookItem_89 (by decide) ?_
            obtain ⟨g23, hf⟩ := nb_g_e hf
            refine nb_iald hx hb hK hW 25 rfl g23 dX8_lookItem_90 ?_
            obtain ⟨g24, hf⟩ := nb_g_e hf
            obtain ⟨σ25, eσ25, hf⟩ := nb_let_e hf
            refine nb_iast hx hb hK hinj hW 17 rfl g24 eσ25 dX8_lookItem_91 (fun H locs hW => ?_)
            refine lv_aload_n hx hb dX8_lookItem_92 rfl (lv_at hl 1 rfl) ?_
            refine nb_get (C := RX8) (T := TX8) (N := 40) hx hb hts inT_X8 hown hK hW 0 rfl rfl 18 (by decide) (hts _ tw4_141) (fun _ h9 => h9) rfl (v := .ref (G.2.1 18)) rfl dX8_lookItem_93 ?_
            refine lv_iload_n hx hb dX8_lookItem_96 rfl (lv_at hl 0 rfl) ?_
            refine lv_aload_n hx hb dX8_lookItem_97 rfl (lv_at hl 1 rfl) ?_
            refine nb_get (C := RX8) (T := TX8) (N := 40) hx hb hts inT_X8 hown hK hW 0 rfl rfl 28 (by decide) (hts _ tw4_151) (fun _ h9 => h9) rfl (v := .ref (G.2.1 25)) rfl dX8_lookItem_98 ?_
            refine lv_iconst (v := (2 : Int32)) hx hb dX8_lookItem_101 (by decide) ?_
            obtain ⟨g26, hf⟩ := nb_g_e hf
            refine nb_iald hx hb hK hW 25 rfl g26 dX8_lookItem_102 ?_
            obtain ⟨g27, hf⟩ := nb_g_e hf
            obtain ⟨σ28, eσ28, hf⟩ := nb_let_e hf
            refine nb_iast hx hb hK hinj hW 18 rfl g27 eσ28 dX8_lookItem_103 (fun H locs hW => ?_)
            refine lv_aload_n hx hb dX8_lookItem_104 rfl (lv_at hl 1 rfl) ?_
            refine nb_get (C := RX8) (T := TX8) (N := 40) hx hb hts inT_X8 hown hK hW 0 rfl rfl 15 (by decide) (hts _ tw4_138) (fun _ h9 => h9) rfl (v := .ref (G.2.1 15)) rfl dX8_lookItem_105 ?_
            refine lv_iconst (v := (1 : Int32)) hx hb dX8_lookItem_108 (by decide) ?_
            refine lv_dup2_11 hx hb dX8_lookItem_109 rfl rfl ?_
            obtain ⟨g29, hf⟩ := nb_g_e hf
            refine nb_iald hx hb hK hW 15 rfl g29 dX8_lookItem_110 ?_
            refine lv_iconst (v := (1 : Int32)) hx hb dX8_lookItem_111 (by decide) ?_
            refine lv_iadd hx hb dX8_lookItem_112 ?_
            obtain ⟨g30, hf⟩ := nb_g_e hf
            obtain ⟨σ31, eσ31, hf⟩ := nb_let_e hf
            refine nb_iast hx hb hK hinj hW 15 rfl g30 eσ31 dX8_lookItem_113 (fun H locs hW => ?_)
            refine lv_iconst (v := (1 : Int32)) hx hb dX8_lookItem_114 (by decide) ?_
            exact nb_rz hx hb hr hlocks hK hZ hZo hW rfl hf dX8_lookItem_115
          · rw [if_neg c19] at hf
            exact w7 ()  _ _ _ hf hW (lv_sub hl [] rfl)
def fX8_item (N : Nat) (σ : nb_St)  : Option (Int32 × nb_St) :=
  nb_b (fX8_byteAt N σ (σ 0 27)) fun r2 =>
  nb_let (nb_st σ 0 27 ((σ 0 27) + (1 : Int32))) fun σ3 =>
  nb_let r2 fun y4 =>
  (if y4 = 98 then
  nb_b2 (fX8_figures N σ3 (1 : Int32)) fun r7 σ8 =>
  nb_let (fun (_u : Unit) =>
  some ((0 : Int32), σ8)) fun k9 =>
  (if r7 = 0 then
  k9 ()
  else
  nb_g (nb_in (0 : Int32) 4) (
  nb_b (fX8_isMinute N σ8 (σ8 25 (nb_ix (0 : Int32)))) fun r14 =>
  (if r14 = 0 then
  k9 ()
  else
  nb_g (nb_in (0 : Int32) 4) (
  nb_g (nb_in (1 : Int32) 2) (
  nb_let (nb_st σ8 12 (nb_ix (1 : Int32)) (σ8 25 (nb_ix (0 : Int32)))) fun σ18 =>
  some ((1 : Int32), σ18))))))
  else if y4 = 99 then
  nb_b2 (fX8_figures N σ3 (2 : Int32)) fun r21 σ22 =>
  nb_let (fun (_u : Unit) =>
  some ((0 : Int32), σ22)) fun k23 =>
  (if r21 = 0 then
  k23 ()
  else
  nb_g (nb_in (1 : Int32) 2) (
  (if (σ22 7 (nb_ix (1 : Int32))) = (3 : Int32) then
  k23 ()
  else
  nb_g (nb_in (0 : Int32) 4) (
  nb_b (fX8_in N σ22 (((σ22 25 (nb_ix (0 : Int32)))).toInt64) (1 : Int64) (99 : Int64)) fun r30 =>
  (if r30 = 0 then
  k23 ()
  else
  nb_g (nb_in (1 : Int32) 2) (
  nb_g (nb_in (0 : Int32) 4) (
  nb_g (nb_in ((3 : Int32) + (σ22 7 (nb_ix (1 : Int32)))) 6) (
  nb_let (nb_st σ22 8 (nb_ix ((3 : Int32) + (σ22 7 (nb_ix (1 : Int32))))) (σ22 25 (nb_ix (0 : Int32)))) fun σ35 =>
  nb_g (nb_in (1 : Int32) 2) (
  nb_g (nb_in (1 : Int32) 4) (
  nb_g (nb_in ((3 : Int32) + (σ35 7 (nb_ix (1 : Int32)))) 6) (
  nb_let (nb_st σ35 9 (nb_ix ((3 : Int32) + (σ35 7 (nb_ix (1 : Int32))))) (σ35 25 (nb_ix (1 : Int32)))) fun σ39 =>
  nb_g (nb_in (1 : Int32) 2) (
  nb_g (nb_in (1 : Int32) 2) (
  nb_let (nb_st σ39 7 (nb_ix (1 : Int32)) ((σ39 7 (nb_ix (1 : Int32))) + (1 : Int32))) fun σ42 =>
  some ((1 : Int32), σ42))))))))))))))
  else if y4 = 100 then
  some ((0 : Int32), σ3)
  else if y4 = 101 then
  some ((0 : Int32), σ3)
  else if y4 = 102 then
  some ((0 : Int32), σ3)
  else if y4 = 103 then
  nb_b2 (fX8_guestItem N σ3) fun r48 σ49 =>
  nb_g (nb_01 r48) (
  some (r48, σ49))
  else if y4 = 104 then
  some ((0 : Int32), σ3)
  else if y4 = 105 then
  some ((0 : Int32), σ3)
  else if y4 = 106 then
  some ((0 : Int32), σ3)
  else if y4 = 107 then
  some ((0 : Int32), σ3)
  else if y4 = 108 then
  nb_b2 (fX8_figures N σ3 (2 : Int32)) fun r57 σ58 =>
  nb_let (fun (_u : Unit) =>
  some ((0 : Int32), σ58)) fun k59 =>
  (if r57 = 0 then
  k59 ()
  else
  nb_g (nb_in (0 : Int32) 4) (
  (if (99 : Int32) < (σ58 25 (nb_ix (0 : Int32))) then
  k59 ()
  else
  nb_g (nb_in (1 : Int32) 4) (
  (if (σ58 25 (nb_ix (1 : Int32))) ≤ (60 : Int32) then
  nb_g (nb_in (0 : Int32) 4) (
  nb_g (nb_in (1 : Int32) 2) (
  nb_let (nb_st σ58 10 (nb_ix (1 : Int32)) (σ58 25 (nb_ix (0 : Int32)))) fun σ68 =>
  nb_g (nb_in (1 : Int32) 4) (
  nb_g (nb_in (1 : Int32) 2) (
  nb_let (nb_st σ68 11 (nb_ix (1 : Int32)) (σ68 25 (nb_ix (1 : Int32)))) fun σ71 =>
  some ((1 : Int32), σ71)))))
  else
  k59 ())))))
  else if y4 = 109 then
  some ((0 : Int32), σ3)
  else if y4 = 110 then
  some ((0 : Int32), σ3)
  else if y4 = 111 then
  some ((0 : Int32), σ3)
  else if y4 = 112 then
  some ((0 : Int32), σ3)
  else if y4 = 113 then
  some ((0 : Int32), σ3)
  else if y4 = 114 then
  some ((0 : Int32), σ3)
  else if y4 = 115 then
  nb_b2 (fX8_figures N σ3 (2 : Int32)) fun r80 σ81 =>
  nb_let (fun (_u : Unit) =>
  some ((0 : Int32), σ81)) fun k82 =>
  (if r80 = 0 then
  k82 ()
  else
  nb_g (nb_in (1 : Int32) 4) (
  (if (σ81 19 (nb_ix (1 : Int32))) = (6 : Int32) then
  k82 ()
  else
  nb_g (nb_in (0 : Int32) 4) (
  nb_b (fX8_isMinute N σ81 (σ81 25 (nb_ix (0 : Int32)))) fun r89 =>
  (if r89 = 0 then
  k82 ()
  else
  nb_g (nb_in (1 : Int32) 4) (
  nb_b (fX8_in N σ81 (((σ81 25 (nb_ix (1 : Int32)))).toInt64) (1 : Int64) (99 : Int64)) fun r93 =>
  (if r93 = 0 then
  k82 ()
  else
  nb_g (nb_in (1 : Int32) 4) (
  nb_g (nb_in (0 : Int32) 4) (
  nb_g (nb_in ((6 : Int32) + (σ81 19 (nb_ix (1 : Int32)))) 24) (
  nb_let (nb_st σ81 20 (nb_ix ((6 : Int32) + (σ81 19 (nb_ix (1 : Int32))))) (σ81 25 (nb_ix (0 : Int32)))) fun σ98 =>
  nb_g (nb_in (1 : Int32) 4) (
  nb_g (nb_in (1 : Int32) 4) (
  nb_g (nb_in ((6 : Int32) + (σ98 19 (nb_ix (1 : Int32)))) 24) (
  nb_let (nb_st σ98 21 (nb_ix ((6 : Int32) + (σ98 19 (nb_ix (1 : Int32))))) (σ98 25 (nb_ix (1 : Int32)))) fun σ102 =>
  nb_g (nb_in (1 : Int32) 4) (
  nb_g (nb_in (1 : Int32) 4) (
  nb_let (nb_st σ102 19 (nb_ix (1 : Int32)) ((σ102 19 (nb_ix (1 : Int32))) + (1 : Int32))) fun σ105 =>
  some ((1 : Int32), σ105))))))))))))))))
  else if y4 = 116 then
  some ((0 : Int32), σ3)
  else if y4 = 117 then
  nb_b2 (fX8_figures N σ3 (3 : Int32)) fun r109 σ110 =>
  nb_let (fun (_u : Unit) =>
  some ((0 : Int32), σ110)) fun k111 =>
  (if r109 = 0 then
  k111 ()
  else
  nb_g (nb_in (0 : Int32) 4) (
  nb_b (fX8_in N σ110 (((σ110 25 (nb_ix (0 : Int32)))).toInt64) (1 : Int64) (3 : Int64)) fun r116 =>
  (if r116 = 0 then
  k111 ()
  else
  nb_g (nb_in (1 : Int32) 4) (
  (if (99 : Int32) < (σ110 25 (nb_ix (1 : Int32))) then
  k111 ()
  else
  nb_g (nb_in (2 : Int32) 4) (
  (if (σ110 25 (nb_ix (2 : Int32))) ≤ (99 : Int32) then
  nb_g (nb_in (0 : Int32) 4) (
  nb_g (nb_in (1 : Int32) 4) (
  nb_g (nb_in ((2 : Int32) + (σ110 25 (nb_ix (0 : Int32)))) 6) (
  nb_let (nb_st σ110 13 (nb_ix ((2 : Int32) + (σ110 25 (nb_ix (0 : Int32))))) (σ110 25 (nb_ix (1 : Int32)))) fun σ125 =>
  nb_g (nb_in (0 : Int32) 4) (
  nb_g (nb_in (2 : Int32) 4) (
  nb_g (nb_in ((2 : Int32) + (σ125 25 (nb_ix (0 : Int32)))) 6) (
  nb_let (nb_st σ125 14 (nb_ix ((2 : Int32) + (σ125 25 (nb_ix (0 : Int32))))) (σ125 25 (nb_ix (2 : Int32)))) fun σ129 =>
  some ((1 : Int32), σ129)))))))
  else
  k111 ())))))))
  else if y4 = 118 then
  some ((0 : Int32), σ3)
  else if y4 = 119 then
  nb_b2 (fX8_figures N σ3 (1 : Int32)) fun r133 σ134 =>
  nb_let (fun (_u : Unit) =>
  some ((0 : Int32), σ134)) fun k135 =>
  (if r133 = 0 then
  k135 ()
  else
  nb_g (nb_in (1 : Int32) 4) (
  (if (σ134 22 (nb_ix (1 : Int32))) = (4 : Int32) then
  k135 ()
  else
  nb_g (nb_in (0 : Int32) 4) (
  nb_b (fX8_isMinute N σ134 (σ134 25 (nb_ix (0 : Int32)))) fun r142 =>
  (if r142 = 0 then
  k135 ()
  else
  nb_g (nb_in (1 : Int32) 4) (
  nb_g (nb_in (0 : Int32) 4) (
  nb_g (nb_in ((4 : Int32) + (σ134 22 (nb_ix (1 : Int32)))) 16) (
  nb_let (nb_st σ134 23 (nb_ix ((4 : Int32) + (σ134 22 (nb_ix (1 : Int32))))) (σ134 25 (nb_ix (0 : Int32)))) fun σ147 =>
  nb_g (nb_in (1 : Int32) 4) (
  nb_g (nb_in (1 : Int32) 4) (
  nb_let (nb_st σ147 22 (nb_ix (1 : Int32)) ((σ147 22 (nb_ix (1 : Int32))) + (1 : Int32))) fun σ150 =>
  some ((1 : Int32), σ150)))))))))))
  else if y4 = 120 then
  some ((0 : Int32), σ3)
  else if y4 = 121 then
  nb_b2 (fX8_lookItem N σ3) fun r154 σ155 =>
  nb_g (nb_01 r154) (
  some (r154, σ155))
  else 
  some ((0 : Int32), σ3))
def rmX8_item : Room := { frames := 3, cells := 0, slots := 0, locals := 70 }
def vsX8_item : List Cond := .code yX8_item cX8_item 2 (some .boolean) :: xT
set_option maxHeartbeats 4000000 in
set_option maxRecDepth 100000 in
theorem c_X8_item (l : Launch) {G : nb_G} {Z : State → Heap → Prop} (hinj : nb_inj xm_sh G.2.1) (hZo : nb_Zok (nb_A xm_sh G.2.1) Z) {N : Nat} {σ : nb_St}  {ro : Int32} {σo : nb_St} (hf : fX8_item N σ = some (ro, σo))  : Met l yX8_item vsX8_item rmX8_item (nb_Pc G xm_sh Z σ [.ref (G.2.1 0)]) (nb_Qi G xm_sh Z ro σo) 0 0 (nb_A xm_sh G.2.1) := by
  refine Met.ofW (cc := cX8_item) (maxL := 2) (ret := (some .boolean)) (by decide) rfl ?_
  intro p e s m args below meth c s₁ B hml hv
  obtain ⟨rfl, hP, hK, hZ⟩ := hv
  have hx := B.exec
  have hb := B.bytes
  have hr := B.returns
  have hts : ∀ w ∈ xT, w.before _ s = true := fun w h9 => atoms_spec (ws := vsX8_item) B.pre w (List.mem_cons_of_mem _ h9)
  have hown : s.vm.findClass RX8 = some m.cls := findClass_of_methodNamed B.named
  have hlocks := B.notSynchronized
  have hW : nb_W G xm_sh s.heap σ s.heap [] := ⟨hP, va_S.rf⟩
  have hl := lv_entry ([.ref (G.2.1 0)]) (n := 2) (Nat.le_of_ble_eq_true rfl)
  rw [lg_entry_eq]
  generalize (lg_sl ([.ref (G.2.1 0)]) ++ List.replicate (2 - (lg_sl ([.ref (G.2.1 0)])).length) Slot.unset).toArray = ls at hl ⊢
  have hl : lv_has ls 2 [(0, .ref (G.2.1 0))] := hl
  show W p l e rmX8_item s m ([.ref (G.2.1 0)]).toArray below meth c s.heap [] 0 0 (MQ below (nb_Qi G xm_sh Z ro σo) ([.ref (G.2.1 0)]).toArray s 0 0 (nb_A xm_sh G.2.1)) (F0 m 0 ls [])
  generalize hargs : ([.ref (G.2.1 0)] : List Value).toArray = args at hts ⊢
  unfold fX8_item at hf
  obtain ⟨H, eH⟩ : ∃ H, H = s.heap := ⟨_, rfl⟩
  obtain ⟨locs, eL⟩ : ∃ L : List Loc, L = [] := ⟨_, rfl⟩
  have hW : nb_W G xm_sh s.heap σ H locs := by rw [eH, eL]; exact hW
  suffices hgo : W p l e rmX8_item s m args below meth c H locs 0 0 (MQ below (nb_Qi G xm_sh Z ro σo) args s 0 0 (nb_A xm_sh G.2.1)) (F0 m 0 ls []) by rw [eH, eL] at hgo; exact hgo
  clear eH eL
  refine lv_aload_n hx hb dX8_item_0 rfl (lv_at hl 0 rfl) ?_
  refine lv_aload_n hx hb dX8_item_1 rfl (lv_at hl 0 rfl) ?_
  refine nb_get (C := RX8) (T := TX8) (N := 40) hx hb hts inT_X8 hown hK hW 0 rfl rfl 27 (by decide) (hts _ tw4_150) (fun _ h9 => h9) rfl (v := .int (σ 0 27)) rfl dX8_item_2 ?_
  obtain ⟨r2, hc1, hf⟩ := nb_b_e hf
  refine nb_ci hW (va_runV (As := [.int (σ 0 27)]) (rest := []) ⟨hx, hb, hml, hown, hts⟩ (c_X8_byteAt l hinj hZo (N := N) hc1 ) (cwV 1 hts (xg_V tw5_29 tw5_31 tp2_7 tw1_10 tw5_32) rfl rfl rfl (by decide +kernel) ⟨Nat.le_of_ble_eq_true rfl, Nat.le_of_ble_eq_true rfl⟩) (nb_preV hK hZ hZo hW (k := 0) rfl rfl) rfl rfl hl.1 rfl (lv_room (Nat.le_of_ble_eq_true rfl)) dX8_item_5 ⟨Nat.zero_le _, Nat.zero_le _⟩) (fun H locs hW => ?_)
  refine lv_istore_n (lv' := [(1, .int r2), (0, .ref (G.2.1 0))]) hx hb dX8_item_8 rfl hl (by decide) rfl (fun ls hl => ?_)
  refine lv_aload_n hx hb dX8_item_9 rfl (lv_at hl 1 rfl) ?_
  refine lv_dup hx hb dX8_item_10 rfl ?_
  refine nb_get (C := RX8) (T := TX8) (N := 40) hx hb hts inT_X8 hown hK hW 0 rfl rfl 27 (by decide) (hts _ tw4_150) (fun _ h9 => h9) rfl (v := .int (σ 0 27)) rfl dX8_item_11 ?_
  refine lv_iconst (v := (1 : Int32)) hx hb dX8_item_14 (by decide) ?_
  refine lv_iadd hx hb dX8_item_15 ?_
  obtain ⟨σ3, eσ3, hf⟩ := nb_let_e hf
  refine nb_put (C := RX8) (T := TX8) (N := 40) hx hb hts inT_X8 hown hK tyX8 tyX8_ok nmX8 hinj hW 0 rfl rfl 27 (by decide) (hts _ tw4_150) (fun _ h9 => h9) rfl (ty := .int) (by decide +kernel) rfl rfl rfl (x := ((σ 0 27) + (1 : Int32))) (by show Value.int _ = _; rw [nb_st_s]) eσ3 dX8_item_16 (fun H locs hW => ?_)
  refine lv_iload_n hx hb dX8_item_19 rfl (lv_at hl 0 rfl) ?_
  obtain ⟨y4, ey4, hf⟩ := nb_let_e hf
  refine nb_nami ey4 ?_
  by_cases h5 : y4 = 98
  · rw [if_pos h5] at hf
    refine lv_tableIn (tgt := 365) (off := 345) hx hb dX8_item_20 (by rw [h5]; decide) (by rw [h5]; decide) (by rw [h5]; decide) (by decide) ?_
    refine lv_aload_n hx hb dX8_item_365 rfl (lv_at hl 1 rfl) ?_
    refine lv_iconst (v := (1 : Int32)) hx hb dX8_item_366 (by decide) ?_
    obtain ⟨r7, σ8, hc6, hf⟩ := nb_b2_e hf
    refine nb_ci hW (va_runV (As := [.int (1 : Int32)]) (rest := []) ⟨hx, hb, hml, hown, hts⟩ (c_X8_figures l hinj hZo (N := N) hc6 ) (cwV 1 hts (xg_V tw5_37 tw5_39 tp2_9 tw1_10 tw5_40) rfl rfl rfl (by decide +kernel) ⟨Nat.le_of_ble_eq_true rfl, Nat.le_of_ble_eq_true rfl⟩) (nb_preV hK hZ hZo hW (k := 0) rfl rfl) rfl rfl hl.1 rfl (lv_room (Nat.le_of_ble_eq_true rfl)) dX8_item_367 ⟨Nat.zero_le _, Nat.zero_le _⟩) (fun H locs hW => ?_)
    obtain ⟨k9, ek9, hf⟩ := nb_let_e hf
    have w10 : ∀ (_u : Unit) (H : Heap) (locs : List Loc) (ls : Array Slot), k9 _u = some (ro, σo) → nb_W G xm_sh s.heap σ8 H locs → lv_has ls 2 [] → W p l e rmX8_item s m args below meth c H locs 0 0 (MQ below (nb_Qi G xm_sh Z ro σo) args s 0 0 (nb_A xm_sh G.2.1)) (F0 m 385 ls []) := by
      intro _u H locs ls hf hW hl
      have hf := (congrFun ek9 _u).symm.trans hf
      refine lv_iconst (v := (0 : Int32)) hx hb dX8_item_385 (by decide) ?_
      exact nb_rz hx hb hr hlocks hK hZ hZo hW rfl hf dX8_item_386
    clear ek9
    refine lv_if_eq (tgt := 385) hx hb dX8_item_370 (by decide) (fun c11 => ?_) (fun c11 => ?_)
    · rw [if_pos c11] at hf
      exact w10 ()  _ _ _ hf hW (lv_sub hl [] rfl)
    · rw [if_neg c11] at hf
      refine lv_aload_n hx hb dX8_item_373 rfl (lv_at hl 1 rfl) ?_
      refine nb_get (C := RX8) (T := TX8) (N := 40) hx hb hts inT_X8 hown hK hW 0 rfl rfl 28 (by decide) (hts _ tw4_151) (fun _ h9 => h9) rfl (v := .ref (G.2.1 25)) rfl dX8_item_374 ?_
      refine lv_iconst (v := (0 : Int32)) hx hb dX8_item_377 (by decide) ?_
      obtain ⟨g12, hf⟩ := nb_g_e hf
      refine nb_iald hx hb hK hW 25 rfl g12 dX8_item_378 ?_
      obtain ⟨r14, hc13, hf⟩ := nb_b_e hf
      refine nb_ci hW (va_runS (As := [.int (σ8 25 (nb_ix (0 : Int32)))]) (rest := []) ⟨hx, hb, hml, hown, hts⟩ (c_X8_isMinute l hinj hZo (N := N) hc13 ) (va_cwS 1 hts (xg_S tw5_44 tw5_45 tw1_10 tw5_46) rfl rfl rfl (by decide +kernel) ⟨Nat.le_of_ble_eq_true rfl, Nat.le_of_ble_eq_true rfl⟩) (nb_preS hK hZ hZo hW) rfl rfl hl.1 rfl (lv_room (Nat.le_of_ble_eq_true rfl)) dX8_item_379 ⟨Nat.zero_le _, Nat.zero_le _⟩) (fun H locs hW => ?_)
      refine lv_if_ne (tgt := 387) hx hb dX8_item_382 (by decide) (fun c15 => ?_) (fun c15 => ?_)
      · rw [if_neg c15] at hf
        refine lv_aload_n hx hb dX8_item_387 rfl (lv_at hl 1 rfl) ?_
        refine nb_get (C := RX8) (T := TX8) (N := 40) hx hb hts inT_X8 hown hK hW 0 rfl rfl 12 (by decide) (hts _ tw4_135) (fun _ h9 => h9) rfl (v := .ref (G.2.1 12)) rfl dX8_item_388 ?_
        refine lv_iconst (v := (1 : Int32)) hx hb dX8_item_391 (by decide) ?_
        refine lv_aload_n hx hb dX8_item_392 rfl (lv_at hl 1 rfl) ?_
        refine nb_get (C := RX8) (T := TX8) (N := 40) hx hb hts inT_X8 hown hK hW 0 rfl rfl 28 (by decide) (hts _ tw4_151) (fun _ h9 => h9) rfl (v := .ref (G.2.1 25)) rfl dX8_item_393 ?_
        refine lv_iconst (v := (0 : Int32)) hx hb dX8_item_396 (by decide) ?_
        obtain ⟨g16, hf⟩ := nb_g_e hf
        refine nb_iald hx hb hK hW 25 rfl g16 dX8_item_397 ?_
        obtain ⟨g17, hf⟩ := nb_g_e hf
        obtain ⟨σ18, eσ18, hf⟩ := nb_let_e hf
        refine nb_iast hx hb hK hinj hW 12 rfl g17 eσ18 dX8_item_398 (fun H locs hW => ?_)
        refine lv_iconst (v := (1 : Int32)) hx hb dX8_item_399 (by decide) ?_
        exact nb_rz hx hb hr hlocks hK hZ hZo hW rfl hf dX8_item_400
      · rw [if_pos c15] at hf
        exact w10 ()  _ _ _ hf hW (lv_sub hl [] rfl)
  rw [if_neg h5] at hf
  by_cases h19 : y4 = 99
  · rw [if_pos h19] at hf
    refine lv_tableIn (tgt := 401) (off := 381) hx hb dX8_item_20 (by rw [h19]; decide) (by rw [h19]; decide) (by rw [h19]; decide) (by decide) ?_
    refine lv_aload_n hx hb dX8_item_401 rfl (lv_at hl 1 rfl) ?_
    refine lv_iconst (v := (2 : Int32)) hx hb dX8_item_402 (by decide) ?_
    obtain ⟨r21, σ22, hc20, hf⟩ := nb_b2_e hf
    refine nb_ci hW (va_runV (As := [.int (2 : Int32)]) (rest := []) ⟨hx, hb, hml, hown, hts⟩ (c_X8_figures l hinj hZo (N := N) hc20 ) (cwV 1 hts (xg_V tw5_37 tw5_39 tp2_9 tw1_10 tw5_40) rfl rfl rfl (by decide +kernel) ⟨Nat.le_of_ble_eq_true rfl, Nat.le_of_ble_eq_true rfl⟩) (nb_preV hK hZ hZo hW (k := 0) rfl rfl) rfl rfl hl.1 rfl (lv_room (Nat.le_of_ble_eq_true rfl)) dX8_item_403 ⟨Nat.zero_le _, Nat.zero_le _⟩) (fun H locs hW => ?_)
    obtain ⟨k23, ek23, hf⟩ := nb_let_e hf
    have w24 : ∀ (_u : Unit) (H : Heap) (locs : List Loc) (ls : Array Slot), k23 _u = some (ro, σo) → nb_W G xm_sh s.heap σ22 H locs → lv_has ls 2 [] → W p l e rmX8_item s m args below meth c H locs 0 0 (MQ below (nb_Qi G xm_sh Z ro σo) args s 0 0 (nb_A xm_sh G.2.1)) (F0 m 436 ls []) := by
      intro _u H locs ls hf hW hl
      have hf := (congrFun ek23 _u).symm.trans hf
      refine lv_iconst (v := (0 : Int32)) hx hb dX8_item_436 (by decide) ?_
      exact nb_rz hx hb hr hlocks hK hZ hZo hW rfl hf dX8_item_437
    clear ek23
    refine lv_if_eq (tgt := 436) hx hb dX8_item_406 (by decide) (fun c25 => ?_) (fun c25 => ?_)
    · rw [if_pos c25] at hf
      exact w24 ()  _ _ _ hf hW (lv_sub hl [] rfl)
    · rw [if_neg c25] at hf
      refine lv_aload_n hx hb dX8_item_409 rfl (lv_at hl 1 rfl) ?_
      refine nb_get (C := RX8) (T := TX8) (N := 40) hx hb hts inT_X8 hown hK hW 0 rfl rfl 7 (by decide) (hts _ tw4_130) (fun _ h9 => h9) rfl (v := .ref (G.2.1 7)) rfl dX8_item_410 ?_
      refine lv_iconst (v := (1 : Int32)) hx hb dX8_item_413 (by decide) ?_
      obtain ⟨g26, hf⟩ := nb_g_e hf
      refine nb_iald hx hb hK hW 7 rfl g26 dX8_item_414 ?_
      refine lv_iconst (v := (3 : Int32)) hx hb dX8_item_415 (by decide) ?_
      refine lv_icmp_eq (tgt := 436) hx hb dX8_item_416 (by decide) (fun c27 => ?_) (fun c27 => ?_)
      · rw [if_pos c27] at hf
        exact w24 ()  _ _ _ hf hW (lv_sub hl [] rfl)
      · rw [if_neg c27] at hf
        refine lv_aload_n hx hb dX8_item_419 rfl (lv_at hl 1 rfl) ?_
        refine nb_get (C := RX8) (T := TX8) (N := 40) hx hb hts inT_X8 hown hK hW 0 rfl rfl 28 (by decide) (hts _ tw4_151) (fun _ h9 => h9) rfl (v := .ref (G.2.1 25)) rfl dX8_item_420 ?_
        refine lv_iconst (v := (0 : Int32)) hx hb dX8_item_423 (by decide) ?_
        obtain ⟨g28, hf⟩ := nb_g_e hf
        refine nb_iald hx hb hK hW 25 rfl g28 dX8_item_424 ?_
        refine lv_i2l hx hb dX8_item_425 rfl ?_
        refine lv_lconst (v := (1 : Int64)) hx hb dX8_item_426 (by decide) ?_
        refine lv_ldc2 (own := RX8) (v := (99 : Int64)) hx hb hown (hts _ tw5_52) dX8_item_427 ?_
        obtain ⟨r30, hc29, hf⟩ := nb_b_e hf
        refine nb_ci hW (va_runS (As := [.long (((σ22 25 (nb_ix (0 : Int32)))).toInt64), .long (1 : Int64), .long (99 : Int64)]) (rest := []) ⟨hx, hb, hml, hown, hts⟩ (c_X8_in l hinj hZo (N := N) hc29 ) (va_cwS 3 hts (xg_S tw5_9 tw5_10 tw1_10 tw5_11) rfl rfl rfl (by decide +kernel) ⟨Nat.le_of_ble_eq_true rfl, Nat.le_of_ble_eq_true rfl⟩) (nb_preS hK hZ hZo hW) rfl rfl hl.1 rfl (lv_room (Nat.le_of_ble_eq_true rfl)) dX8_item_430 ⟨Nat.zero_le _, Nat.zero_le _⟩) (fun H locs hW => ?_)
        refine lv_if_ne (tgt := 438) hx hb dX8_item_433 (by decide) (fun c31 => ?_) (fun c31 => ?_)
        · rw [if_neg c31] at hf
          refine lv_aload_n hx hb dX8_item_438 rfl (lv_at hl 1 rfl) ?_
          refine nb_get (C := RX8) (T := TX8) (N := 40) hx hb hts inT_X8 hown hK hW 0 rfl rfl 8 (by decide) (hts _ tw4_131) (fun _ h9 => h9) rfl (v := .ref (G.2.1 8)) rfl dX8_item_439 ?_
          refine lv_iconst (v := (3 : Int32)) hx hb dX8_item_442 (by decide) ?_
          refine lv_aload_n hx hb dX8_item_443 rfl (lv_at hl 1 rfl) ?_
          refine nb_get (C := RX8) (T := TX8) (N := 40) hx hb hts inT_X8 hown hK hW 0 rfl rfl 7 (by decide) (hts _ tw4_130) (fun _ h9 => h9) rfl (v := .ref (G.2.1 7)) rfl dX8_item_444 ?_
          refine lv_iconst (v := (1 : Int32)) hx hb dX8_item_447 (by decide) ?_
          obtain ⟨g32, hf⟩ := nb_g_e hf
          refine nb_iald hx hb hK hW 7 rfl g32 dX8_item_448 ?_
          refine lv_iadd hx hb dX8_item_449 ?_
          refine lv_aload_n hx hb dX8_item_450 rfl (lv_at hl 1 rfl) ?_
          refine nb_get (C := RX8) (T := TX8) (N := 40) hx hb hts inT_X8 hown hK hW 0 rfl rfl 28 (by decide) (hts _ tw4_151) (fun _ h9 => h9) rfl (v := .ref (G.2.1 25)) rfl dX8_item_451 ?_
          refine lv_iconst (v := (0 : Int32)) hx hb dX8_item_454 (by decide) ?_
          obtain ⟨g33, hf⟩ := nb_g_e hf
          refine nb_iald hx hb hK hW 25 rfl g33 dX8_item_455 ?_
          obtain ⟨g34, hf⟩ := nb_g_e hf
          obtain ⟨σ35, eσ35, hf⟩ := nb_let_e hf
          refine nb_iast hx hb hK hinj hW 8 rfl g34 eσ35 dX8_item_456 (fun H locs hW => ?_)
          refine lv_aload_n hx hb dX8_item_457 rfl (lv_at hl 1 rfl) ?_
          refine nb_get (C := RX8) (T := TX8) (N := 40) hx hb hts inT_X8 hown hK hW 0 rfl rfl 9 (by decide) (hts _ tw4_132) (fun _ h9 => h9) rfl (v := .ref (G.2.1 9)) rfl dX8_item_458 ?_
          refine lv_iconst (v := (3 : Int32)) hx hb dX8_item_461 (by decide) ?_
          refine lv_aload_n hx hb dX8_item_462 rfl (lv_at hl 1 rfl) ?_
          refine nb_get (C := RX8) (T := TX8) (N := 40) hx hb hts inT_X8 hown hK hW 0 rfl rfl 7 (by decide) (hts _ tw4_130) (fun _ h9 => h9) rfl (v := .ref (G.2.1 7)) rfl dX8_item_463 ?_
          refine lv_iconst (v := (1 : Int32)) hx hb dX8_item_466 (by decide) ?_
          obtain ⟨g36, hf⟩ := nb_g_e hf
          refine nb_iald hx hb hK hW 7 rfl g36 dX8_item_467 ?_
          refine lv_iadd hx hb dX8_item_468 ?_
          refine lv_aload_n hx hb dX8_item_469 rfl (lv_at hl 1 rfl) ?_
          refine nb_get (C := RX8) (T := TX8) (N := 40) hx hb hts inT_X8 hown hK hW 0 rfl rfl 28 (by decide) (hts _ tw4_151) (fun _ h9 => h9) rfl (v := .ref (G.2.1 25)) rfl dX8_item_470 ?_
          refine lv_iconst (v := (1 : Int32)) hx hb dX8_item_473 (by decide) ?_
          obtain ⟨g37, hf⟩ := nb_g_e hf
          refine nb_iald hx hb hK hW 25 rfl g37 dX8_item_474 ?_
          obtain ⟨g38, hf⟩ := nb_g_e hf
          obtain ⟨σ39, eσ39, hf⟩ := nb_let_e hf
          refine nb_iast hx hb hK hinj hW 9 rfl g38 eσ39 dX8_item_475 (fun H locs hW => ?_)
          refine lv_aload_n hx hb dX8_item_476 rfl (lv_at hl 1 rfl) ?_
          refine nb_get (C := RX8) (T := TX8) (N := 40) hx hb hts inT_X8 hown hK hW 0 rfl rfl 7 (by decide) (hts _ tw4_130) (fun _ h9 => h9) rfl (v := .ref (G.2.1 7)) rfl dX8_item_477 ?_
          refine lv_iconst (v := (1 : Int32)) hx hb dX8_item_480 (by decide) ?_
          refine lv_dup2_11 hx hb dX8_item_481 rfl rfl ?_
          obtain ⟨g40, hf⟩ := nb_g_e hf
          refine nb_iald hx hb hK hW 7 rfl g40 dX8_item_482 ?_
          refine lv_iconst (v := (1 : Int32)) hx hb dX8_item_483 (by decide) ?_
          refine lv_iadd hx hb dX8_item_484 ?_
          obtain ⟨g41, hf⟩ := nb_g_e hf
          obtain ⟨σ42, eσ42, hf⟩ := nb_let_e hf
          refine nb_iast hx hb hK hinj hW 7 rfl g41 eσ42 dX8_item_485 (fun H locs hW => ?_)
          refine lv_iconst (v := (1 : Int32)) hx hb dX8_item_486 (by decide) ?_
          exact nb_rz hx hb hr hlocks hK hZ hZo hW rfl hf dX8_item_487
        · rw [if_pos c31] at hf
          exact w24 ()  _ _ _ hf hW (lv_sub hl [] rfl)
  rw [if_neg h19] at hf
  by_cases h43 : y4 = 100
  · rw [if_pos h43] at hf
    refine lv_tableIn (tgt := 577) (off := 557) hx hb dX8_item_20 (by rw [h43]; decide) (by rw [h43]; decide) (by rw [h43]; decide) (by decide) ?_
    refine lv_iconst (v := (0 : Int32)) hx hb dX8_item_577 (by decide) ?_
    exact nb_rz hx hb hr hlocks hK hZ hZo hW rfl hf dX8_item_578
  rw [if_neg h43] at hf
  by_cases h44 : y4 = 101
  · rw [if_pos h44] at hf
    refine lv_tableIn (tgt := 577) (off := 557) hx hb dX8_item_20 (by rw [h44]; decide) (by rw [h44]; decide) (by rw [h44]; decide) (by decide) ?_
    refine lv_iconst (v := (0 : Int32)) hx hb dX8_item_577 (by decide) ?_
    exact nb_rz hx hb hr hlocks hK hZ hZo hW rfl hf dX8_item_578
  rw [if_neg h44] at hf
  by_cases h45 : y4 = 102
  · rw [if_pos h45] at hf
    refine lv_tableIn (tgt := 577) (off := 557) hx hb dX8_item_20 (by rw [h45]; decide) (by rw [h45]; decide) (by rw [h45]; decide) (by decide) ?_
    refine lv_iconst (v := (0 : Int32)) hx hb dX8_item_577 (by decide) ?_
    exact nb_rz hx hb hr hlocks hK hZ hZo hW rfl hf dX8_item_578
  rw [if_neg h45] at hf
  by_cases h46 : y4 = 103
  · rw [if_pos h46] at hf
    refine lv_tableIn (tgt := 132) (off := 112) hx hb dX8_item_20 (by rw [h46]; decide) (by rw [h46]; decide) (by rw [h46]; decide) (by decide) ?_
    refine lv_aload_n hx hb dX8_item_132 rfl (lv_at hl 1 rfl) ?_
    obtain ⟨r48, σ49, hc47, hf⟩ := nb_b2_e hf
    refine nb_ci hW (va_runV (As := []) (rest := []) ⟨hx, hb, hml, hown, hts⟩ (c_X8_guestItem l hinj hZo (N := N) hc47 ) (cwV 0 hts (xg_V tw5_33 tw5_35 tp2_8 tw1_10 tw5_36) rfl rfl rfl (by decide +kernel) ⟨Nat.le_of_ble_eq_true rfl, Nat.le_of_ble_eq_true rfl⟩) (nb_preV hK hZ hZo hW (k := 0) rfl rfl) rfl rfl hl.1 rfl (lv_room (Nat.le_of_ble_eq_true rfl)) dX8_item_133 ⟨Nat.zero_le _, Nat.zero_le _⟩) (fun H locs hW => ?_)
    obtain ⟨g50, hf⟩ := nb_g_e hf
    exact nb_rz hx hb hr hlocks hK hZ hZo hW (nb_01_n g50) hf dX8_item_136
  rw [if_neg h46] at hf
  by_cases h51 : y4 = 104
  · rw [if_pos h51] at hf
    refine lv_tableIn (tgt := 577) (off := 557) hx hb dX8_item_20 (by rw [h51]; decide) (by rw [h51]; decide) (by rw [h51]; decide) (by decide) ?_
    refine lv_iconst (v := (0 : Int32)) hx hb dX8_item_577 (by decide) ?_
    exact nb_rz hx hb hr hlocks hK hZ hZo hW rfl hf dX8_item_578
  rw [if_neg h51] at hf
  by_cases h52 : y4 = 105
  · rw [if_pos h52] at hf
    refine lv_tableIn (tgt := 577) (off := 557) hx hb dX8_item_20 (by rw [h52]; decide) (by rw [h52]; decide) (by rw [h52]; decide) (by decide) ?_
    refine lv_iconst (v := (0 : Int32)) hx hb dX8_item_577 (by decide) ?_
    exact nb_rz hx hb hr hlocks hK hZ hZo hW rfl hf dX8_item_578
  rw [if_neg h52] at hf
  by_cases h53 : y4 = 106
  · rw [if_pos h53] at hf
    refine lv_tableIn (tgt := 577) (off := 557) hx hb dX8_item_20 (by rw [h53]; decide) (by rw [h53]; decide) (by rw [h53]; decide) (by decide) ?_
    refine lv_iconst (v := (0 : Int32)) hx hb dX8_item_577 (by decide) ?_
    exact nb_rz hx hb hr hlocks hK hZ hZo hW rfl hf dX8_item_578
  rw [if_neg h53] at hf
  by_cases h54 : y4 = 107
  · rw [if_pos h54] at hf
    refine lv_tableIn (tgt := 577) (off := 557) hx hb dX8_item_20 (by rw [h54]; decide) (by rw [h54]; decide) (by rw [h54]; decide) (by decide) ?_
    refine lv_iconst (v := (0 : Int32)) hx hb dX8_item_577 (by decide) ?_
    exact nb_rz hx hb hr hlocks hK hZ hZo hW rfl hf dX8_item_578
  rw [if_neg h54] at hf
  by_cases h55 : y4 = 108
  · rw [if_pos h55] at hf
    refine lv_tableIn (tgt := 307) (off := 287) hx hb dX8_item_20 (by rw [h55]; decide) (by rw [h55]; decide) (by rw [h55]; decide) (by decide) ?_
    refine lv_aload_n hx hb dX8_item_307 rfl (lv_at hl 1 rfl) ?_
    refine lv_iconst (v := (2 : Int32)) hx hb dX8_item_308 (by decide) ?_
    obtain ⟨r57, σ58, hc56, hf⟩ := nb_b2_e hf
    refine nb_ci hW (va_runV (As := [.int (2 : Int32)]) (rest := []) ⟨hx, hb, hml, hown, hts⟩ (c_X8_figures l hinj hZo (N := N) hc56 ) (cwV 1 hts (xg_V tw5_37 tw5_39 tp2_9 tw1_10 tw5_40) rfl rfl rfl (by decide +kernel) ⟨Nat.le_of_ble_eq_true rfl, Nat.le_of_ble_eq_true rfl⟩) (nb_preV hK hZ hZo hW (k := 0) rfl rfl) rfl rfl hl.1 rfl (lv_room (Nat.le_of_ble_eq_true rfl)) dX8_item_309 ⟨Nat.zero_le _, Nat.zero_le _⟩) (fun H locs hW => ?_)
    obtain ⟨k59, ek59, hf⟩ := nb_let_e hf
    have w60 : ∀ (_u : Unit) (H : Heap) (locs : List Loc) (ls : Array Slot), k59 _u = some (ro, σo) → nb_W G xm_sh s.heap σ58 H locs → lv_has ls 2 [] → W p l e rmX8_item s m args below meth c H locs 0 0 (MQ below (nb_Qi G xm_sh Z ro σo) args s 0 0 (nb_A xm_sh G.2.1)) (F0 m 337 ls []) := by
      intro _u H locs ls hf hW hl
      have hf := (congrFun ek59 _u).symm.trans hf
      refine lv_iconst (v := (0 : Int32)) hx hb dX8_item_337 (by decide) ?_
      exact nb_rz hx hb hr hlocks hK hZ hZo hW rfl hf dX8_item_338
    clear ek59
    refine lv_if_eq (tgt := 337) hx hb dX8_item_312 (by decide) (fun c61 => ?_) (fun c61 => ?_)
    · rw [if_pos c61] at hf
      exact w60 ()  _ _ _ hf hW (lv_sub hl [] rfl)
    · rw [if_neg c61] at hf
      refine lv_aload_n hx hb dX8_item_315 rfl (lv_at hl 1 rfl) ?_
      refine nb_get (C := RX8) (T := TX8) (N := 40) hx hb hts inT_X8 hown hK hW 0 rfl rfl 28 (by decide) (hts _ tw4_151) (fun _ h9 => h9) rfl (v := .ref (G.2.1 25)) rfl dX8_item_316 ?_
      refine lv_iconst (v := (0 : Int32)) hx hb dX8_item_319 (by decide) ?_
      obtain ⟨g62, hf⟩ := nb_g_e hf
      refine nb_iald hx hb hK hW 25 rfl g62 dX8_item_320 ?_
      refine lv_bipush (v := (99 : Int32)) hx hb dX8_item_321 (by decide) ?_
      refine lv_icmp_gt (tgt := 337) hx hb dX8_item_323 (by decide) (fun c63 => ?_) (fun c63 => ?_)
      · rw [if_pos c63] at hf
        exact w60 ()  _ _ _ hf hW (lv_sub hl [] rfl)
      · rw [if_neg c63] at hf
        refine lv_aload_n hx hb dX8_item_326 rfl (lv_at hl 1 rfl) ?_
        refine nb_get (C := RX8) (T := TX8) (N := 40) hx hb hts inT_X8 hown hK hW 0 rfl rfl 28 (by decide) (hts _ tw4_151) (fun _ h9 => h9) rfl (v := .ref (G.2.1 25)) rfl dX8_item_327 ?_
        refine lv_iconst (v := (1 : Int32)) hx hb dX8_item_330 (by decide) ?_
        obtain ⟨g64, hf⟩ := nb_g_e hf
        refine nb_iald hx hb hK hW 25 rfl g64 dX8_item_331 ?_
        refine lv_bipush (v := (60 : Int32)) hx hb dX8_item_332 (by decide) ?_
        refine lv_icmp_le (tgt := 339) hx hb dX8_item_334 (by decide) (fun c65 => ?_) (fun c65 => ?_)
        · rw [if_pos c65] at hf
          refine lv_aload_n hx hb dX8_item_339 rfl (lv_at hl 1 rfl) ?_
          refine nb_get (C := RX8) (T := TX8) (N := 40) hx hb hts inT_X8 hown hK hW 0 rfl rfl 10 (by decide) (hts _ tw4_133) (fun _ h9 => h9) rfl (v := .ref (G.2.1 10)) rfl dX8_item_340 ?_
          refine lv_iconst (v := (1 : Int32)) hx hb dX8_item_343 (by decide) ?_
          refine lv_aload_n hx hb dX8_item_344 rfl (lv_at hl 1 rfl) ?_
          refine nb_get (C := RX8) (T := TX8) (N := 40) hx hb hts inT_X8 hown hK hW 0 rfl rfl 28 (by decide) (hts _ tw4_151) (fun _ h9 => h9) rfl (v := .ref (G.2.1 25)) rfl dX8_item_345 ?_
          refine lv_iconst (v := (0 : Int32)) hx hb dX8_item_348 (by decide) ?_
          obtain ⟨g66, hf⟩ := nb_g_e hf
          refine nb_iald hx hb hK hW 25 rfl g66 dX8_item_349 ?_
          obtain ⟨g67, hf⟩ := nb_g_e hf
          obtain ⟨σ68, eσ68, hf⟩ := nb_let_e hf
          refine nb_iast hx hb hK hinj hW 10 rfl g67 eσ68 dX8_item_350 (fun H locs hW => ?_)
          refine lv_aload_n hx hb dX8_item_351 rfl (lv_at hl 1 rfl) ?_
          refine nb_get (C := RX8) (T := TX8) (N := 40) hx hb hts inT_X8 hown hK hW 0 rfl rfl 11 (by decide) (hts _ tw4_134) (fun _ h9 => h9) rfl (v := .ref (G.2.1 11)) rfl dX8_item_352 ?_
          refine lv_iconst (v := (1 : Int32)) hx hb dX8_item_355 (by decide) ?_
          refine lv_aload_n hx hb dX8_item_356 rfl (lv_at hl 1 rfl) ?_
          refine nb_get (C := RX8) (T := TX8) (N := 40) hx hb hts inT_X8 hown hK hW 0 rfl rfl 28 (by decide) (hts _ tw4_151) (fun _ h9 => h9) rfl (v := .ref (G.2.1 25)) rfl dX8_item_357 ?_
          refine lv_iconst (v := (1 : Int32)) hx hb dX8_item_360 (by decide) ?_
          obtain ⟨g69, hf⟩ := nb_g_e hf
          refine nb_iald hx hb hK hW 25 rfl g69 dX8_item_361 ?_
          obtain ⟨g70, hf⟩ := nb_g_e hf
          obtain ⟨σ71, eσ71, hf⟩ := nb_let_e hf
          refine nb_iast hx hb hK hinj hW 11 rfl g70 eσ71 dX8_item_362 (fun H locs hW => ?_)
          refine lv_iconst (v := (1 : Int32)) hx hb dX8_item_363 (by decide) ?_
          exact nb_rz hx hb hr hlocks hK hZ hZo hW rfl hf dX8_item_364
        · rw [if_neg c65] at hf
          exact w60 ()  _ _ _ hf hW (lv_sub hl [] rfl)
  rw [if_neg h55] at hf
  by_cases h72 : y4 = 109
  · rw [if_pos h72] at hf
    refine lv_tableIn (tgt := 577) (off := 557) hx hb dX8_item_20 (by rw [h72]; decide) (by rw [h72]; decide) (by rw [h72]; decide) (by decide) ?_
    refine lv_iconst (v := (0 : Int32)) hx hb dX8_item_577 (by decide) ?_
    exact nb_rz hx hb hr hlocks hK hZ hZo hW rfl hf dX8_item_578
  rw [if_neg h72] at hf
  by_cases h73 : y4 = 110
  · rw [if_pos h73] at hf
    refine lv_tableIn (tgt := 577) (off := 557) hx hb dX8_item_20 (by rw [h73]; decide) (by rw [h73]; decide) (by rw [h73]; decide) (by decide) ?_
    refine lv_iconst (v := (0 : Int32)) hx hb dX8_item_577 (by decide) ?_
    exact nb_rz hx hb hr hlocks hK hZ hZo hW rfl hf dX8_item_578
  rw [if_neg h73] at hf
  by_cases h74 : y4 = 111
  · rw [if_pos h74] at hf
    refine lv_tableIn (tgt := 577) (off := 557) hx hb dX8_item_20 (by rw [h74]; decide) (by rw [h74]; decide) (by rw [h74]; decide) (by decide) ?_
    refine lv_iconst (v := (0 : Int32)) hx hb dX8_item_577 (by decide) ?_
    exact nb_rz hx hb hr hlocks hK hZ hZo hW rfl hf dX8_item_578
  rw [if_neg h74] at hf
  by_cases h75 : y4 = 112
  · rw [if_pos h75] at hf
    refine lv_tableIn (tgt := 577) (off := 557) hx hb dX8_item_20 (by rw [h75]; decide) (by rw [h75]; decide) (by rw [h75]; decide) (by decide) ?_
    refine lv_iconst (v := (0 : Int32)) hx hb dX8_item_577 (by decide) ?_
    exact nb_rz hx hb hr hlocks hK hZ hZo hW rfl hf dX8_item_578
  rw [if_neg h75] at hf
  by_cases h76 : y4 = 113
  · rw [if_pos h76] at hf
    refine lv_tableIn (tgt := 577) (off := 557) hx hb dX8_item_20 (by rw [h76]; decide) (by rw [h76]; decide) (by rw [h76]; decide) (by decide) ?_
    refine lv_iconst (v := (0 : Int32)) hx hb dX8_item_577 (by decide) ?_
    exact nb_rz hx hb hr hlocks hK hZ hZo hW rfl hf dX8_item_578
  rw [if_neg h76] at hf
  by_cases h77 : y4 = 114
  · rw [if_pos h77] at hf
    refine lv_tableIn (tgt := 577) (off := 557) hx hb dX8_item_20 (by rw [h77]; decide) (by rw [h77]; decide) (by rw [h77]; decide) (by decide) ?_
    refine lv_iconst (v := (0 : Int32)) hx hb dX8_item_577 (by decide) ?_
    exact nb_rz hx hb hr hlocks hK hZ hZo hW rfl hf dX8_item_578
  rw [if_neg h77] at hf
  by_cases h78 : y4 = 115
  · rw [if_pos h78] at hf
    refine lv_tableIn (tgt := 142) (off := 122) hx hb dX8_item_20 (by rw [h78]; decide) (by rw [h78]; decide) (by rw [h78]; decide) (by decide) ?_
    refine lv_aload_n hx hb dX8_item_142 rfl (lv_at hl 1 rfl) ?_
    refine lv_iconst (v := (2 : Int32)) hx hb dX8_item_143 (by decide) ?_
    obtain ⟨r80, σ81, hc79, hf⟩ := nb_b2_e hf
    refine nb_ci hW (va_runV (As := [.int (2 : Int32)]) (rest := []) ⟨hx, hb, hml, hown, hts⟩ (c_X8_figures l hinj hZo (N := N) hc79 ) (cwV 1 hts (xg_V tw5_37 tw5_39 tp2_9 tw1_10 tw5_40) rfl rfl rfl (by decide +kernel) ⟨Nat.le_of_ble_eq_true rfl, Nat.le_of_ble_eq_true rfl⟩) (nb_preV hK hZ hZo hW (k := 0) rfl rfl) rfl rfl hl.1 rfl (lv_room (Nat.le_of_ble_eq_true rfl)) dX8_item_144 ⟨Nat.zero_le _, Nat.zero_le _⟩) (fun H locs hW => ?_)
    obtain ⟨k82, ek82, hf⟩ := nb_let_e hf
    have w83 : ∀ (_u : Unit) (H : Heap) (locs : List Loc) (ls : Array Slot), k82 _u = some (ro, σo) → nb_W G xm_sh s.heap σ81 H locs → lv_has ls 2 [] → W p l e rmX8_item s m args below meth c H locs 0 0 (MQ below (nb_Qi G xm_sh Z ro σo) args s 0 0 (nb_A xm_sh G.2.1)) (F0 m 190 ls []) := by
      intro _u H locs ls hf hW hl
      have hf := (congrFun ek82 _u).symm.trans hf
      refine lv_iconst (v := (0 : Int32)) hx hb dX8_item_190 (by decide) ?_
      exact nb_rz hx hb hr hlocks hK hZ hZo hW rfl hf dX8_item_191
    clear ek82
    refine lv_if_eq (tgt := 190) hx hb dX8_item_147 (by decide) (fun c84 => ?_) (fun c84 => ?_)
    · rw [if_pos c84] at hf
      exact w83 ()  _ _ _ hf hW (lv_sub hl [] rfl)
    · rw [if_neg c84] at hf
      refine lv_aload_n hx hb dX8_item_150 rfl (lv_at hl 1 rfl) ?_
      refine nb_get (C := RX8) (T := TX8) (N := 40) hx hb hts inT_X8 hown hK hW 0 rfl rfl 19 (by decide) (hts _ tw4_142) (fun _ h9 => h9) rfl (v := .ref (G.2.1 19)) rfl dX8_item_151 ?_
      refine lv_iconst (v := (1 : Int32)) hx hb dX8_item_154 (by decide) ?_
      obtain ⟨g85, hf⟩ := nb_g_e hf
      refine nb_iald hx hb hK hW 19 rfl g85 dX8_item_155 ?_
      refine lv_bipush (v := (6 : Int32)) hx hb dX8_item_156 (by decide) ?_
      refine lv_icmp_eq (tgt := 190) hx hb dX8_item_158 (by decide) (fun c86 => ?_) (fun c86 => ?_)
      · rw [if_pos c86] at hf
        exact w83 ()  _ _ _ hf hW (lv_sub hl [] rfl)
      · rw [if_neg c86] at hf
        refine lv_aload_n hx hb dX8_item_161 rfl (lv_at hl 1 rfl) ?_
        refine nb_get (C := RX8) (T := TX8) (N := 40) hx hb hts inT_X8 hown hK hW 0 rfl rfl 28 (by decide) (hts _ tw4_151) (fun _ h9 => h9) rfl (v := .ref (G.2.1 25)) rfl dX8_item_162 ?_
        refine lv_iconst (v := (0 : Int32)) hx hb dX8_item_165 (by decide) ?_
        obtain ⟨g87, hf⟩ := nb_g_e hf
        refine nb_iald hx hb hK hW 25 rfl g87 dX8_item_166 ?_
        obtain ⟨r89, hc88, hf⟩ := nb_b_e hf
        refine nb_ci hW (va_runS (As := [.int (σ81 25 (nb_ix (0 : Int32)))]) (rest := []) ⟨hx, hb, hml, hown, hts⟩ (c_X8_isMinute l hinj hZo (N := N) hc88 ) (va_cwS 1 hts (xg_S tw5_44 tw5_45 tw1_10 tw5_46) rfl rfl rfl (by decide +kernel) ⟨Nat.le_of_ble_eq_true rfl, Nat.le_of_ble_eq_true rfl⟩) (nb_preS hK hZ hZo hW) rfl rfl hl.1 rfl (lv_room (Nat.le_of_ble_eq_true rfl)) dX8_item_167 ⟨Nat.zero_le _, Nat.zero_le _⟩) (fun H locs hW => ?_)
        refine lv_if_eq (tgt := 190) hx hb dX8_item_170 (by decide) (fun c90 => ?_) (fun c90 => ?_)
        · rw [if_pos c90] at hf
          exact w83 ()  _ _ _ hf hW (lv_sub hl [] rfl)
        · rw [if_neg c90] at hf
          refine lv_aload_n hx hb dX8_item_173 rfl (lv_at hl 1 rfl) ?_
          refine nb_get (C := RX8) (T := TX8) (N := 40) hx hb hts inT_X8 hown hK hW 0 rfl rfl 28 (by decide) (hts _ tw4_151) (fun _ h9 => h9) rfl (v := .ref (G.2.1 25)) rfl dX8_item_174 ?_
          refine lv_iconst (v := (1 : Int32)) hx hb dX8_item_177 (by decide) ?_
          obtain ⟨g91, hf⟩ := nb_g_e hf
          refine nb_iald hx hb hK hW 25 rfl g91 dX8_item_178 ?_
          refine lv_i2l hx hb dX8_item_179 rfl ?_
          refine lv_lconst (v := (1 : Int64)) hx hb dX8_item_180 (by decide) ?_
          refine lv_ldc2 (own := RX8) (v := (99 : Int64)) hx hb hown (hts _ tw5_52) dX8_item_181 ?_
          obtain ⟨r93, hc92, hf⟩ := nb_b_e hf
          refine nb_ci hW (va_runS (As := [.long (((σ81 25 (nb_ix (1 : Int32)))).toInt64), .long (1 : Int64), .long (99 : Int64)]) (rest := []) ⟨hx, hb, hml, hown, hts⟩ (c_X8_in l hinj hZo (N := N) hc92 ) (va_cwS 3 hts (xg_S tw5_9 tw5_10 tw1_10 tw5_11) rfl rfl rfl (by decide +kernel) ⟨Nat.le_of_ble_eq_true rfl, Nat.le_of_ble_eq_true rfl⟩) (nb_preS hK hZ hZo hW) rfl rfl hl.1 rfl (lv_room (Nat.le_of_ble_eq_true rfl)) dX8_item_184 ⟨Nat.zero_le _, Nat.zero_le _⟩) (fun H locs hW => ?_)
          refine lv_if_ne (tgt := 192) hx hb dX8_item_187 (by decide) (fun c94 => ?_) (fun c94 => ?_)
          · rw [if_neg c94] at hf
            refine lv_aload_n hx hb dX8_item_192 rfl (lv_at hl 1 rfl) ?_
            refine nb_get (C := RX8) (T := TX8) (N := 40) hx hb hts inT_X8 hown hK hW 0 rfl rfl 20 (by decide) (hts _ tw4_143) (fun _ h9 => h9) rfl (v := .ref (G.2.1 20)) rfl dX8_item_193 ?_
            refine lv_bipush (v := (6 : Int32)) hx hb dX8_item_196 (by decide) ?_
            refine lv_aload_n hx hb dX8_item_198 rfl (lv_at hl 1 rfl) ?_
            refine nb_get (C := RX8) (T := TX8) (N := 40) hx hb hts inT_X8 hown hK hW 0 rfl rfl 19 (by decide) (hts _ tw4_142) (fun _ h9 => h9) rfl (v := .ref (G.2.1 19)) rfl dX8_item_199 ?_
            refine lv_iconst (v := (1 : Int32)) hx hb dX8_item_202 (by decide) ?_
            obtain ⟨g95, hf⟩ := nb_g_e hf
            refine nb_iald hx hb hK hW 19 rfl g95 dX8_item_203 ?_
            refine lv_iadd hx hb dX8_item_204 ?_
            refine lv_aload_n hx hb dX8_item_205 rfl (lv_at hl 1 rfl) ?_
            refine nb_get (C := RX8) (T := TX8) (N := 40) hx hb hts inT_X8 hown hK hW 0 rfl rfl 28 (by decide) (hts _ tw4_151) (fun _ h9 => h9) rfl (v := .ref (G.2.1 25)) rfl dX8_item_206 ?_
            refine lv_iconst (v := (0 : Int32)) hx hb dX8_item_209 (by decide) ?_
            obtain ⟨g96, hf⟩ := nb_g_e hf
            refine nb_iald hx hb hK hW 25 rfl g96 dX8_item_210 ?_
            obtain ⟨g97, hf⟩ := nb_g_e hf
            obtain ⟨σ98, eσ98, hf⟩ := nb_let_e hf
            refine nb_iast hx hb hK hinj hW 20 rfl g97 eσ98 dX8_item_211 (fun H locs hW => ?_)
            refine lv_aload_n hx hb dX8_item_212 rfl (lv_at hl 1 rfl) ?_
            refine nb_get (C := RX8) (T := TX8) (N := 40) hx hb hts inT_X8 hown hK hW 0 rfl rfl 21 (by decide) (hts _ tw4_144) (fun _ h9 => h9) rfl (v := .ref (G.2.1 21)) rfl dX8_item_213 ?_
            refine lv_bipush (v := (6 : Int32)) hx hb dX8_item_216 (by decide) ?_
            refine lv_aload_n hx hb dX8_item_218 rfl (lv_at hl 1 rfl) ?_
            refine nb_get (C := RX8) (T := TX8) (N := 40) hx hb hts inT_X8 hown hK hW 0 rfl rfl 19 (by decide) (hts _ tw4_142) (fun _ h9 => h9) rfl (v := .ref (G.2.1 19)) rfl dX8_item_219 ?_
            refine lv_iconst (v := (1 : Int32)) hx hb dX8_item_222 (by decide) ?_
            obtain ⟨g99, hf⟩ := nb_g_e hf
            refine nb_iald hx hb hK hW 19 rfl g99 dX8_item_223 ?_
            refine lv_iadd hx hb dX8_item_224 ?_
            refine lv_aload_n hx hb dX8_item_225 rfl (lv_at hl 1 rfl) ?_
            refine nb_get (C := RX8) (T := TX8) (N := 40) hx hb hts inT_X8 hown hK hW 0 rfl rfl 28 (by decide) (hts _ tw4_151) (fun _ h9 => h9) rfl (v := .ref (G.2.1 25)) rfl dX8_item_226 ?_
            refine lv_iconst (v := (1 : Int32)) hx hb dX8_item_229 (by decide) ?_
            obtain ⟨g100, hf⟩ := nb_g_e hf
            refine nb_iald hx hb hK hW 25 rfl g100 dX8_item_230 ?_
            obtain ⟨g101, hf⟩ := nb_g_e hf
            obtain ⟨σ102, eσ102, hf⟩ := nb_let_e hf
            refine nb_iast hx hb hK hinj hW 21 rfl g101 eσ102 dX8_item_231 (fun H locs hW => ?_)
            refine lv_aload_n hx hb dX8_item_232 rfl (lv_at hl 1 rfl) ?_
            refine nb_get (C := RX8) (T := TX8) (N := 40) hx hb hts inT_X8 hown hK hW 0 rfl rfl 19 (by decide) (hts _ tw4_142) (fun _ h9 => h9) rfl (v := .ref (G.2.1 19)) rfl dX8_item_233 ?_
            refine lv_iconst (v := (1 : Int32)) hx hb dX8_item_236 (by decide) ?_
            refine lv_dup2_11 hx hb dX8_item_237 rfl rfl ?_
            obtain ⟨g103, hf⟩ := nb_g_e hf
            refine nb_iald hx hb hK hW 19 rfl g103 dX8_item_238 ?_
            refine lv_iconst (v := (1 : Int32)) hx hb dX8_item_239 (by decide) ?_
            refine lv_iadd hx hb dX8_item_240 ?_
            obtain ⟨g104, hf⟩ := nb_g_e hf
            obtain ⟨σ105, eσ105, hf⟩ := nb_let_e hf
            refine nb_iast hx hb hK hinj hW 19 rfl g104 eσ105 dX8_item_241 (fun H locs hW => ?_)
            refine lv_iconst (v := (1 : Int32)) hx hb dX8_item_242 (by decide) ?_
            exact nb_rz hx hb hr hlocks hK hZ hZo hW rfl hf dX8_item_243
          · rw [if_pos c94] at hf
            exact w83 ()  _ _ _ hf hW (lv_sub hl [] rfl)
  rw [if_neg h78] at hf
  by_cases h106 : y4 = 116
  · rw [if_pos h106] at hf
    refine lv_tableIn (tgt := 577) (off := 557) hx hb dX8_item_20 (by rw [h106]; decide) (by rw [h106]; decide) (by rw [h106]; decide) (by decide) ?_
    refine lv_iconst (v := (0 : Int32)) hx hb dX8_item_577 (by decide) ?_
    exact nb_rz hx hb hr hlocks hK hZ hZo hW rfl hf dX8_item_578
  rw [if_neg h106] at hf
  by_cases h107 : y4 = 117
  · rw [if_pos h107] at hf
    refine lv_tableIn (tgt := 488) (off := 468) hx hb dX8_item_20 (by rw [h107]; decide) (by rw [h107]; decide) (by rw [h107]; decide) (by decide) ?_
    refine lv_aload_n hx hb dX8_item_488 rfl (lv_at hl 1 rfl) ?_
    refine lv_iconst (v := (3 : Int32)) hx hb dX8_item_489 (by decide) ?_
    obtain ⟨r109, σ110, hc108, hf⟩ := nb_b2_e hf
    refine nb_ci hW (va_runV (As := [.int (3 : Int32)]) (rest := []) ⟨hx, hb, hml, hown, hts⟩ (c_X8_figures l hinj hZo (N := N) hc108 ) (cwV 1 hts (xg_V tw5_37 tw5_39 tp2_9 tw1_10 tw5_40) rfl rfl rfl (by decide +kernel) ⟨Nat.le_of_ble_eq_true rfl, Nat.le_of_ble_eq_true rfl⟩) (nb_preV hK hZ hZo hW (k := 0) rfl rfl) rfl rfl hl.1 rfl (lv_room (Nat.le_of_ble_eq_true rfl)) dX8_item_490 ⟨Nat.zero_le _, Nat.zero_le _⟩) (fun H locs hW => ?_)
    obtain ⟨k111, ek111, hf⟩ := nb_let_e hf
    have w112 : ∀ (_u : Unit) (H : Heap) (locs : List Loc) (ls : Array Slot), k111 _u = some (ro, σo) → nb_W G xm_sh s.heap σ110 H locs → lv_has ls 2 [] → W p l e rmX8_item s m args below meth c H locs 0 0 (MQ below (nb_Qi G xm_sh Z ro σo) args s 0 0 (nb_A xm_sh G.2.1)) (F0 m 535 ls []) := by
      intro _u H locs ls hf hW hl
      have hf := (congrFun ek111 _u).symm.trans hf
      refine lv_iconst (v := (0 : Int32)) hx hb dX8_item_535 (by decide) ?_
      exact nb_rz hx hb hr hlocks hK hZ hZo hW rfl hf dX8_item_536
    clear ek111
    refine lv_if_eq (tgt := 535) hx hb dX8_item_493 (by decide) (fun c113 => ?_) (fun c113 => ?_)
    · rw [if_pos c113] at hf
      exact w112 ()  _ _ _ hf hW (lv_sub hl [] rfl)
    · rw [if_neg c113] at hf
      refine lv_aload_n hx hb dX8_item_496 rfl (lv_at hl 1 rfl) ?_
      refine nb_get (C := RX8) (T := TX8) (N := 40) hx hb hts inT_X8 hown hK hW 0 rfl rfl 28 (by decide) (hts _ tw4_151) (fun _ h9 => h9) rfl (v := .ref (G.2.1 25)) rfl dX8_item_497 ?_
      refine lv_iconst (v := (0 : Int32)) hx hb dX8_item_500 (by decide) ?_
      obtain ⟨g114, hf⟩ := nb_g_e hf
      refine nb_iald hx hb hK hW 25 rfl g114 dX8_item_501 ?_
      refine lv_i2l hx hb dX8_item_502 rfl ?_
      refine lv_lconst (v := (1 : Int64)) hx hb dX8_item_503 (by decide) ?_
      refine lv_ldc2 (own := RX8) (v := (3 : Int64)) hx hb hown (hts _ tw5_43) dX8_item_504 ?_
      obtain ⟨r116, hc115, hf⟩ := nb_b_e hf
      refine nb_ci hW (va_runS (As := [.long (((σ110 25 (nb_ix (0 : Int32)))).toInt64), .long (1 : Int64), .long (3 : Int64)]) (rest := []) ⟨hx, hb, hml, hown, hts⟩ (c_X8_in l hinj hZo (N := N) hc115 ) (va_cwS 3 hts (xg_S tw5_9 tw5_10 tw1_10 tw5_11) rfl rfl rfl (by decide +kernel) ⟨Nat.le_of_ble_eq_true rfl, Nat.le_of_ble_eq_true rfl⟩) (nb_preS hK hZ hZo hW) rfl rfl hl.1 rfl (lv_room (Nat.le_of_ble_eq_true rfl)) dX8_item_507 ⟨Nat.zero_le _, Nat.zero_le _⟩) (fun H locs hW => ?_)
      refine lv_if_eq (tgt := 535) hx hb dX8_item_510 (by decide) (fun c117 => ?_) (fun c117 => ?_)
      · rw [if_pos c117] at hf
        exact w112 ()  _ _ _ hf hW (lv_sub hl [] rfl)
      · rw [if_neg c117] at hf
        refine lv_aload_n hx hb dX8_item_513 rfl (lv_at hl 1 rfl) ?_
        refine nb_get (C := RX8) (T := TX8) (N := 40) hx hb hts inT_X8 hown hK hW 0 rfl rfl 28 (by decide) (hts _ tw4_151) (fun _ h9 => h9) rfl (v := .ref (G.2.1 25)) rfl dX8_item_514 ?_
        refine lv_iconst (v := (1 : Int32)) hx hb dX8_item_517 (by decide) ?_
        obtain ⟨g118, hf⟩ := nb_g_e hf
        refine nb_iald hx hb hK hW 25 rfl g118 dX8_item_518 ?_
        refine lv_bipush (v := (99 : Int32)) hx hb dX8_item_519 (by decide) ?_
        refine lv_icmp_gt (tgt := 535) hx hb dX8_item_521 (by decide) (fun c119 => ?_) (fun c119 => ?_)
        · rw [if_pos c119] at hf
          exact w112 ()  _ _ _ hf hW (lv_sub hl [] rfl)
        · rw [if_neg c119] at hf
          refine lv_aload_n hx hb dX8_item_524 rfl (lv_at hl 1 rfl) ?_
          refine nb_get (C := RX8) (T := TX8) (N := 40) hx hb hts inT_X8 hown hK hW 0 rfl rfl 28 (by decide) (hts _ tw4_151) (fun _ h9 => h9) rfl (v := .ref (G.2.1 25)) rfl dX8_item_525 ?_
          refine lv_iconst (v := (2 : Int32)) hx hb dX8_item_528 (by decide) ?_
          obtain ⟨g120, hf⟩ := nb_g_e hf
          refine nb_iald hx hb hK hW 25 rfl g120 dX8_item_529 ?_
          refine lv_bipush (v := (99 : Int32)) hx hb dX8_item_530 (by decide) ?_
          refine lv_icmp_le (tgt := 537) hx hb dX8_item_532 (by decide) (fun c121 => ?_) (fun c121 => ?_)
          · rw [if_pos c121] at hf
            refine lv_aload_n hx hb dX8_item_537 rfl (lv_at hl 1 rfl) ?_
            refine nb_get (C := RX8) (T := TX8) (N := 40) hx hb hts inT_X8 hown hK hW 0 rfl rfl 13 (by decide) (hts _ tw4_136) (fun _ h9 => h9) rfl (v := .ref (G.2.1 13)) rfl dX8_item_538 ?_
            refine lv_iconst (v := (2 : Int32)) hx hb dX8_item_541 (by decide) ?_
            refine lv_aload_n hx hb dX8_item_542 rfl (lv_at hl 1 rfl) ?_
            refine nb_get (C := RX8) (T := TX8) (N := 40) hx hb hts inT_X8 hown hK hW 0 rfl rfl 28 (by decide) (hts _ tw4_151) (fun _ h9 => h9) rfl (v := .ref (G.2.1 25)) rfl dX8_item_543 ?_
            refine lv_iconst (v := (0 : Int32)) hx hb dX8_item_546 (by decide) ?_
            obtain ⟨g122, hf⟩ := nb_g_e hf
            refine nb_iald hx hb hK hW 25 rfl g122 dX8_item_547 ?_
            refine lv_iadd hx hb dX8_item_548 ?_
            refine lv_aload_n hx hb dX8_item_549 rfl (lv_at hl 1 rfl) ?_
            refine nb_get (C := RX8) (T := TX8) (N := 40) hx hb hts inT_X8 hown hK hW 0 rfl rfl 28 (by decide) (hts _ tw4_151) (fun _ h9 => h9) rfl (v := .ref (G.2.1 25)) rfl dX8_item_550 ?_
            refine lv_iconst (v := (1 : Int32)) hx hb dX8_item_553 (by decide) ?_
            obtain ⟨g123, hf⟩ := nb_g_e hf
            refine nb_iald hx hb hK hW 25 rfl g123 dX8_item_554 ?_
            obtain ⟨g124, hf⟩ := nb_g_e hf
            obtain ⟨σ125, eσ125, hf⟩ := nb_let_e hf
            refine nb_iast hx hb hK hinj hW 13 rfl g124 eσ125 dX8_item_555 (fun H locs hW => ?_)
            refine lv_aload_n hx hb dX8_item_556 rfl (lv_at hl 1 rfl) ?_
            refine nb_get (C := RX8) (T := TX8) (N := 40) hx hb hts inT_X8 hown hK hW 0 rfl rfl 14 (by decide) (hts _ tw4_137) (fun _ h9 => h9) rfl (v := .ref (G.2.1 14)) rfl dX8_item_557 ?_
            refine lv_iconst (v := (2 : Int32)) hx hb dX8_item_560 (by decide) ?_
            refine lv_aload_n hx hb dX8_item_561 rfl (lv_at hl 1 rfl) ?_
            refine nb_get (C := RX8) (T := TX8) (N := 40) hx hb hts inT_X8 hown hK hW 0 rfl rfl 28 (by decide) (hts _ tw4_151) (fun _ h9 => h9) rfl (v := .ref (G.2.1 25)) rfl dX8_item_562 ?_
            refine lv_iconst (v := (0 : Int32)) hx hb dX8_item_565 (by decide) ?_
            obtain ⟨g126, hf⟩ := nb_g_e hf
            refine nb_iald hx hb hK hW 25 rfl g126 dX8_item_566 ?_
            refine lv_iadd hx hb dX8_item_567 ?_
            refine lv_aload_n hx hb dX8_item_568 rfl (lv_at hl 1 rfl) ?_
            refine nb_get (C := RX8) (T := TX8) (N := 40) hx hb hts inT_X8 hown hK hW 0 rfl rfl 28 (by decide) (hts _ tw4_151) (fun _ h9 => h9) rfl (v := .ref (G.2.1 25)) rfl dX8_item_569 ?_
            refine lv_iconst (v := (2 : Int32)) hx hb dX8_item_572 (by decide) ?_
            obtain ⟨g127, hf⟩ := nb_g_e hf
            refine nb_iald hx hb hK hW 25 rfl g127 dX8_item_573 ?_
            obtain ⟨g128, hf⟩ := nb_g_e hf
            obtain ⟨σ129, eσ129, hf⟩ := nb_let_e hf
            refine nb_iast hx hb hK hinj hW 14 rfl g128 eσ129 dX8_item_574 (fun H locs hW => ?_)
            refine lv_iconst (v := (1 : Int32)) hx hb dX8_item_575 (by decide) ?_
            exact nb_rz hx hb hr hlocks hK hZ hZo hW rfl hf dX8_item_576
          · rw [if_neg c121] at hf
            exact w112 ()  _ _ _ hf hW (lv_sub hl [] rfl)
  rw [if_neg h107] at hf
  by_cases h130 : y4 = 118
  · rw [if_pos h130] at hf
    refine lv_tableIn (tgt := 577) (off := 557) hx hb dX8_item_20 (by rw [h130]; decide) (by rw [h130]; decide) (by rw [h130]; decide) (by decide) ?_
    refine lv_iconst (v := (0 : Int32)) hx hb dX8_item_577 (by decide) ?_
    exact nb_rz hx hb hr hlocks hK hZ hZo hW rfl hf dX8_item_578
  rw [if_neg h130] at hf
  by_cases h131 : y4 = 119
  · rw [if_pos h131] at hf
    refine lv_tableIn (tgt := 244) (off := 224) hx hb dX8_item_20 (by rw [h131]; decide) (by rw [h131]; decide) (by rw [h131]; decide) (by decide) ?_
    refine lv_aload_n hx hb dX8_item_244 rfl (lv_at hl 1 rfl) ?_
    refine lv_iconst (v := (1 : Int32)) hx hb dX8_item_245 (by decide) ?_
    obtain ⟨r133, σ134, hc132, hf⟩ := nb_b2_e hf
    refine nb_ci hW (va_runV (As := [.int (1 : Int32)]) (rest := []) ⟨hx, hb, hml, hown, hts⟩ (c_X8_figures l hinj hZo (N := N) hc132 ) (cwV 1 hts (xg_V tw5_37 tw5_39 tp2_9 tw1_10 tw5_40) rfl rfl rfl (by decide +kernel) ⟨Nat.le_of_ble_eq_true rfl, Nat.le_of_ble_eq_true rfl⟩) (nb_preV hK hZ hZo hW (k := 0) rfl rfl) rfl rfl hl.1 rfl (lv_room (Nat.le_of_ble_eq_true rfl)) dX8_item_246 ⟨Nat.zero_le _, Nat.zero_le _⟩) (fun H locs hW => ?_)
    obtain ⟨k135, ek135, hf⟩ := nb_let_e hf
    have w136 : ∀ (_u : Unit) (H : Heap) (locs : List Loc) (ls : Array Slot), k135 _u = some (ro, σo) → nb_W G xm_sh s.heap σ134 H locs → lv_has ls 2 [] → W p l e rmX8_item s m args below meth c H locs 0 0 (MQ below (nb_Qi G xm_sh Z ro σo) args s 0 0 (nb_A xm_sh G.2.1)) (F0 m 274 ls []) := by
      intro _u H locs ls hf hW hl
      have hf := (congrFun ek135 _u).symm.trans hf
      refine lv_iconst (v := (0 : Int32)) hx hb dX8_item_274 (by decide) ?_
      exact nb_rz hx hb hr hlocks hK hZ hZo hW rfl hf dX8_item_275
    clear ek135
    refine lv_if_eq (tgt := 274) hx hb dX8_item_249 (by decide) (fun c137 => ?_) (fun c137 => ?_)
    · rw [if_pos c137] at hf
      exact w136 ()  _ _ _ hf hW (lv_sub hl [] rfl)
    · rw [if_neg c137] at hf
      refine lv_aload_n hx hb dX8_item_252 rfl (lv_at hl 1 rfl) ?_
      refine nb_get (C := RX8) (T := TX8) (N := 40) hx hb hts inT_X8 hown hK hW 0 rfl rfl 22 (by decide) (hts _ tw4_145) (fun _ h9 => h9) rfl (v := .ref (G.2.1 22)) rfl dX8_item_253 ?_
      refine lv_iconst (v := (1 : Int32)) hx hb dX8_item_256 (by decide) ?_
      obtain ⟨g138, hf⟩ := nb_g_e hf
      refine nb_iald hx hb hK hW 22 rfl g138 dX8_item_257 ?_
      refine lv_iconst (v := (4 : Int32)) hx hb dX8_item_258 (by decide) ?_
      refine lv_icmp_eq (tgt := 274) hx hb dX8_item_259 (by decide) (fun c139 => ?_) (fun c139 => ?_)
      · rw [if_pos c139] at hf
        exact w136 ()  _ _ _ hf hW (lv_sub hl [] rfl)
      · rw [if_neg c139] at hf
        refine lv_aload_n hx hb dX8_item_262 rfl (lv_at hl 1 rfl) ?_
        refine nb_get (C := RX8) (T := TX8) (N := 40) hx hb hts inT_X8 hown hK hW 0 rfl rfl 28 (by decide) (hts _ tw4_151) (fun _ h9 => h9) rfl (v := .ref (G.2.1 25)) rfl dX8_item_263 ?_
        refine lv_iconst (v := (0 : Int32)) hx hb dX8_item_266 (by decide) ?_
        obtain ⟨g140, hf⟩ := nb_g_e hf
        refine nb_iald hx hb hK hW 25 rfl g140 dX8_item_267 ?_
        obtain ⟨r142, hc141, hf⟩ := nb_b_e hf
        refine nb_ci hW (va_runS (As := [.int (σ134 25 (nb_ix (0 : Int32)))]) (rest := []) ⟨hx, hb, hml, hown, hts⟩ (c_X8_isMinute l hinj hZo (N := N) hc141 ) (va_cwS 1 hts (xg_S tw5_44 tw5_45 tw1_10 tw5_46) rfl rfl rfl (by decide +kernel) ⟨Nat.le_of_ble_eq_true rfl, Nat.le_of_ble_eq_true rfl⟩) (nb_preS hK hZ hZo hW) rfl rfl hl.1 rfl (lv_room (Nat.le_of_ble_eq_true rfl)) dX8_item_268 ⟨Nat.zero_le _, Nat.zero_le _⟩) (fun H locs hW => ?_)
        refine lv_if_ne (tgt := 276) hx hb dX8_item_271 (by decide) (fun c143 => ?_) (fun c143 => ?_)
        · rw [if_neg c143] at hf
          refine lv_aload_n hx hb dX8_item_276 rfl (lv_at hl 1 rfl) ?_
          refine nb_get (C := RX8) (T := TX8) (N := 40) hx hb hts inT_X8 hown hK hW 0 rfl rfl 23 (by decide) (hts _ tw4_146) (fun _ h9 => h9) rfl (v := .ref (G.2.1 23)) rfl dX8_item_277 ?_
          refine lv_iconst (v := (4 : Int32)) hx hb dX8_item_280 (by decide) ?_
          refine lv_aload_n hx hb dX8_item_281 rfl (lv_at hl 1 rfl) ?_
          refine nb_get (C := RX8) (T := TX8) (N := 40) hx hb hts inT_X8 hown hK hW 0 rfl rfl 22 (by decide) (hts _ tw4_145) (fun _ h9 => h9) rfl (v := .ref (G.2.1 22)) rfl dX8_item_282 ?_
          refine lv_iconst (v := (1 : Int32)) hx hb dX8_item_285 (by decide) ?_
          obtain ⟨g144, hf⟩ := nb_g_e hf
          refine nb_iald hx hb hK hW 22 rfl g144 dX8_item_286 ?_
          refine lv_iadd hx hb dX8_item_287 ?_
          refine lv_aload_n hx hb dX8_item_288 rfl (lv_at hl 1 rfl) ?_
          refine nb_get (C := RX8) (T := TX8) (N := 40) hx hb hts inT_X8 hown hK hW 0 rfl rfl 28 (by decide) (hts _ tw4_151) (fun _ h9 => h9) rfl (v := .ref (G.2.1 25)) rfl dX8_item_289 ?_
          refine lv_iconst (v := (0 : Int32)) hx hb dX8_item_292 (by decide) ?_
          obtain ⟨g145, hf⟩ := nb_g_e hf
          refine nb_iald hx hb hK hW 25 rfl g145 dX8_item_293 ?_
          obtain ⟨g146, hf⟩ := nb_g_e hf
          obtain ⟨σ147, eσ147, hf⟩ := nb_let_e hf
          refine nb_iast hx hb hK hinj hW 23 rfl g146 eσ147 dX8_item_294 (fun H locs hW => ?_)
          refine lv_aload_n hx hb dX8_item_295 rfl (lv_at hl 1 rfl) ?_
          refine nb_get (C := RX8) (T := TX8) (N := 40) hx hb hts inT_X8 hown hK hW 0 rfl rfl 22 (by decide) (hts _ tw4_145) (fun _ h9 => h9) rfl (v := .ref (G.2.1 22)) rfl dX8_item_296 ?_
          refine lv_iconst (v := (1 : Int32)) hx hb dX8_item_299 (by decide) ?_
          refine lv_dup2_11 hx hb dX8_item_300 rfl rfl ?_
          obtain ⟨g148, hf⟩ := nb_g_e hf
          refine nb_iald hx hb hK hW 22 rfl g148 dX8_item_301 ?_
          refine lv_iconst (v := (1 : Int32)) hx hb dX8_item_302 (by decide) ?_
          refine lv_iadd hx hb dX8_item_303 ?_
          obtain ⟨g149, hf⟩ := nb_g_e hf
          obtain ⟨σ150, eσ150, hf⟩ := nb_let_e hf
          refine nb_iast hx hb hK hinj hW 22 rfl g149 eσ150 dX8_item_304 (fun H locs hW => ?_)
          refine lv_iconst (v := (1 : Int32)) hx hb dX8_item_305 (by decide) ?_
          exact nb_rz hx hb hr hlocks hK hZ hZo hW rfl hf dX8_item_306
        · rw [if_pos c143] at hf
          exact w136 ()  _ _ _ hf hW (lv_sub hl [] rfl)
  rw [if_neg h131] at hf
  by_cases h151 : y4 = 120
  · rw [if_pos h151] at hf
    refine lv_tableIn (tgt := 577) (off := 557) hx hb dX8_item_20 (by rw [h151]; decide) (by rw [h151]; decide) (by rw [h151]; decide) (by decide) ?_
    refine lv_iconst (v := (0 : Int32)) hx hb dX8_item_577 (by decide) ?_
    exact nb_rz hx hb hr hlocks hK hZ hZo hW rfl hf dX8_item_578
  rw [if_neg h151] at hf
  by_cases h152 : y4 = 121
  · rw [if_pos h152] at hf
    refine lv_tableIn (tgt := 137) (off := 117) hx hb dX8_item_20 (by rw [h152]; decide) (by rw [h152]; decide) (by rw [h152]; decide) (by decide) ?_
    refine lv_aload_n hx hb dX8_item_137 rfl (lv_at hl 1 rfl) ?_
    obtain ⟨r154, σ155, hc153, hf⟩ := nb_b2_e hf
    refine nb_ci hW (va_runV (As := []) (rest := []) ⟨hx, hb, hml, hown, hts⟩ (c_X8_lookItem l hinj hZo (N := N) hc153 ) (cwV 0 hts (xg_V tw5_48 tw5_50 tp2_10 tw1_10 tw5_51) rfl rfl rfl (by decide +kernel) ⟨Nat.le_of_ble_eq_true rfl, Nat.le_of_ble_eq_true rfl⟩) (nb_preV hK hZ hZo hW (k := 0) rfl rfl) rfl rfl hl.1 rfl (lv_room (Nat.le_of_ble_eq_true rfl)) dX8_item_138 ⟨Nat.zero_le _, Nat.zero_le _⟩) (fun H locs hW => ?_)
    obtain ⟨g156, hf⟩ := nb_g_e hf
    exact nb_rz hx hb hr hlocks hK hZ hZo hW (nb_01_n g156) hf dX8_item_141
  rw [if_neg h152] at hf
  refine lv_tableOut (tgt := 577) hx hb dX8_item_20 (by exact nb_out98_121 h5 h19 h43 h44 h45 h46 h51 h52 h53 h54 h55 h72 h73 h74 h75 h76 h77 h78 h106 h107 h130 h131 h151 h152) (by decide) ?_
  refine lv_iconst (v := (0 : Int32)) hx hb dX8_item_577 (by decide) ?_
  exact nb_rz hx hb hr hlocks hK hZ hZo hW rfl hf dX8_item_578
def fX8_readAll (N : Nat) (σ : nb_St)  : Option (Int32 × nb_St) :=
  nb_b (fX8_noEvening N σ (1 : Int32)) fun σ2 =>
  nb_let (nb_st σ2 0 27 (0 : Int32)) fun σ3 =>
  nb_lp1 (R := (Int32 × nb_St)) (fun ag5  (σ4 : nb_St) =>
  (if (σ4 0 0) ≤ (σ4 0 27) then
  some ((-4 : Int32), σ4)
  else
  nb_let (σ4 0 27) fun x8 =>
  nb_b2 (fX8_item N σ4) fun r10 σ11 =>
  (if r10 = 0 then
  some (x8, σ11)
  else
  ag5 σ11))) N σ3
def rmX8_readAll : Room := { frames := 4, cells := 0, slots := 0, locals := 91 }
def vsX8_readAll : List Cond := .code yX8_readAll cX8_readAll 2 (some .int) :: xT
set_option maxHeartbeats 4000000 in
set_option maxRecDepth 100000 in
theorem c_X8_readAll (l : Launch) {G : nb_G} {Z : State → Heap → Prop} (hinj : nb_inj xm_sh G.2.1) (hZo : nb_Zok (nb_A xm_sh G.2.1) Z) {N : Nat} {σ : nb_St}  {ro : Int32} {σo : nb_St} (hf : fX8_readAll N σ = some (ro, σo))  : Met l yX8_readAll vsX8_readAll rmX8_readAll (nb_Pc G xm_sh Z σ [.ref (G.2.1 0)]) (nb_Qi G xm_sh Z ro σo) 0 0 (nb_A xm_sh G.2.1) := by
  refine Met.ofW (cc := cX8_readAll) (maxL := 2) (ret := (some .int)) (by decide) rfl ?_
  intro p e s m args below meth c s₁ B hml hv
  obtain ⟨rfl, hP, hK, hZ⟩ := hv
  have hx := B.exec
  have hb := B.bytes
  have hr := B.returns
  have hts : ∀ w ∈ xT, w.before _ s = true := fun w h9 => atoms_spec (ws := vsX8_readAll) B.pre w (List.mem_cons_of_mem _ h9)
  have hown : s.vm.findClass RX8 = some m.cls := findClass_of_methodNamed B.named
  have hlocks := B.notSynchronized
  have hW : nb_W G xm_sh s.heap σ s.heap [] := ⟨hP, va_S.rf⟩
  have hl := lv_entry ([.ref (G.2.1 0)]) (n := 2) (Nat.le_of_ble_eq_true rfl)
  rw [lg_entry_eq]
  generalize (lg_sl ([.ref (G.2.1 0)]) ++ List.replicate (2 - (lg_sl ([.ref (G.2.1 0)])).length) Slot.unset).toArray = ls at hl ⊢
  have hl : lv_has ls 2 [(0, .ref (G.2.1 0))] := hl
  show W p l e rmX8_readAll s m ([.ref (G.2.1 0)]).toArray below meth c s.heap [] 0 0 (MQ below (nb_Qi G xm_sh Z ro σo) ([.ref (G.2.1 0)]).toArray s 0 0 (nb_A xm_sh G.2.1)) (F0 m 0 ls [])
  generalize hargs : ([.ref (G.2.1 0)] : List Value).toArray = args at hts ⊢
  unfold fX8_readAll at hf
  obtain ⟨H, eH⟩ : ∃ H, H = s.heap := ⟨_, rfl⟩
  obtain ⟨locs, eL⟩ : ∃ L : List Loc, L = [] := ⟨_, rfl⟩
  have hW : nb_W G xm_sh s.heap σ H locs := by rw [eH, eL]; exact hW
  suffices hgo : W p l e rmX8_readAll s m args below meth c H locs 0 0 (MQ below (nb_Qi G xm_sh Z ro σo) args s 0 0 (nb_A xm_sh G.2.1)) (F0 m 0 ls []) by rw [eH, eL] at hgo; exact hgo
  clear eH eL
  refine lv_aload_n hx hb dX8_readAll_0 rfl (lv_at hl 0 rfl) ?_
  refine lv_iconst (v := (1 : Int32)) hx hb dX8_readAll_1 (by decide) ?_
  obtain ⟨σ2, hc1, hf⟩ := nb_b_e hf
  refine nb_cv hW (va_runV (As := [.int (1 : Int32)]) (rest := []) ⟨hx, hb, hml, hown, hts⟩ (c_X8_noEvening l hinj hZo (N := N) hc1 ) (cwV 1 hts (xg_V tw4_119 tw4_121 tp2_4 tw1_10 tw4_122) rfl rfl rfl (by decide +kernel) ⟨Nat.le_of_ble_eq_true rfl, Nat.le_of_ble_eq_true rfl⟩) (nb_preV hK hZ hZo hW (k := 0) rfl rfl) rfl rfl hl.1 rfl (lv_room (Nat.le_of_ble_eq_true rfl)) dX8_readAll_2 ⟨Nat.zero_le _, Nat.zero_le _⟩) (fun H locs hW => ?_)
  refine lv_aload_n hx hb dX8_readAll_5 rfl (lv_at hl 0 rfl) ?_
  refine lv_iconst (v := (0 : Int32)) hx hb dX8_readAll_6 (by decide) ?_
  obtain ⟨σ3, eσ3, hf⟩ := nb_let_e hf
  refine nb_put (C := RX8) (T := TX8) (N := 40) hx hb hts inT_X8 hown hK tyX8 tyX8_ok nmX8 hinj hW 0 rfl rfl 27 (by decide) (hts _ tw4_150) (fun _ h9 => h9) rfl (ty := .int) (by decide +kernel) rfl rfl rfl (x := (0 : Int32)) (by show Value.int _ = _; rw [nb_st_s]) eσ3 dX8_readAll_7 (fun H locs hW => ?_)
  refine nb_w1 (P := fun  (σ4 : nb_St) => ∀ (H : Heap) (locs : List Loc) (ls : Array Slot), nb_W G xm_sh s.heap σ4 H locs → lv_has ls 2 [(0, .ref (G.2.1 0))] → W p l e rmX8_readAll s m args below meth c H locs 0 0 (MQ below (nb_Qi G xm_sh Z ro σo) args s 0 0 (nb_A xm_sh G.2.1)) (F0 m 10 ls [])) ?_ N _ hf H locs ls hW (lv_sub hl [0] rfl)
  intro ag5 ih6 σ4 hf H locs ls hW hl
  refine lv_aload_n hx hb dX8_readAll_10 rfl (lv_at hl 0 rfl) ?_
  refine nb_get (C := RX8) (T := TX8) (N := 40) hx hb hts inT_X8 hown hK hW 0 rfl rfl 27 (by decide) (hts _ tw4_150) (fun _ h9 => h9) rfl (v := .int (σ4 0 27)) rfl dX8_readAll_11 ?_
  refine lv_aload_n hx hb dX8_readAll_14 rfl (lv_at hl 0 rfl) ?_
  refine nb_get (C := RX8) (T := TX8) (N := 40) hx hb hts inT_X8 hown hK hW 0 rfl rfl 0 (by decide) (hts _ tw4_123) (fun _ h9 => h9) rfl (v := .int (σ4 0 0)) rfl dX8_readAll_15 ?_
  refine lv_icmp_ge (tgt := 38) hx hb dX8_readAll_18 (by decide) (fun c7 => ?_) (fun c7 => ?_)
  · rw [if_pos c7] at hf
    refine lv_bipush (v := (-4 : Int32)) hx hb dX8_readAll_38 (by decide) ?_
    exact nb_ri hx hb hr hlocks hK hZ hZo hW  hf dX8_readAll_40
  · rw [if_neg c7] at hf
    refine lv_aload_n hx hb dX8_readAll_21 rfl (lv_at hl 0 rfl) ?_
    refine nb_get (C := RX8) (T := TX8) (N := 40) hx hb hts inT_X8 hown hK hW 0 rfl rfl 27 (by decide) (hts _ tw4_150) (fun _ h9 => h9) rfl (v := .int (σ4 0 27)) rfl dX8_readAll_22 ?_
    obtain ⟨x8, ex8, hf⟩ := nb_let_e hf
    refine nb_nami ex8 ?_
    refine lv_istore_n (lv' := [(1, .int x8), (0, .ref (G.2.1 0))]) hx hb dX8_readAll_25 rfl hl (by decide) rfl (fun ls hl => ?_)
    refine lv_aload_n hx hb dX8_readAll_26 rfl (lv_at hl 1 rfl) ?_
    obtain ⟨r10, σ11, hc9, hf⟩ := nb_b2_e hf
    refine nb_ci hW (va_runV (As := []) (rest := []) ⟨hx, hb, hml, hown, hts⟩ (c_X8_item l hinj hZo (N := N) hc9 ) (cwV 0 hts (xg_V tw5_25 tw5_27 tp2_6 tw1_10 tw5_28) rfl rfl rfl (by decide +kernel) ⟨Nat.le_of_ble_eq_true rfl, Nat.le_of_ble_eq_true rfl⟩) (nb_preV hK hZ hZo hW (k := 0) rfl rfl) rfl rfl hl.1 rfl (lv_room (Nat.le_of_ble_eq_true rfl)) dX8_readAll_27 ⟨Nat.zero_le _, Nat.zero_le _⟩) (fun H locs hW => ?_)
    refine lv_if_ne (tgt := 35) hx hb dX8_readAll_30 (by decide) (fun c12 => ?_) (fun c12 => ?_)
    · rw [if_neg c12] at hf
      refine lv_goto (tgt := 10) hx hb dX8_readAll_35 (by decide) ?_
      exact ih6 _ hf _ _ _ hW (lv_sub hl [1] rfl)
    · rw [if_pos c12] at hf
      refine lv_iload_n hx hb dX8_readAll_33 rfl (lv_at hl 0 rfl) ?_
      exact nb_ri hx hb hr hlocks hK hZ hZo hW  hf dX8_readAll_34
def fX8_fault (N : Nat) (σ : nb_St)  : Option (Int32 × nb_St) :=
  nb_b2 (fX8_readAll N σ) fun r2 σ3 =>
  some (r2, σ3)
def rmX8_fault : Room := { frames := 5, cells := 0, slots := 0, locals := 112 }
def vsX8_fault : List Cond := .code yX8_fault cX8_fault 1 (some .int) :: xT
set_option maxHeartbeats 4000000 in
set_option maxRecDepth 100000 in
theorem c_X8_fault (l : Launch) {G : nb_G} {Z : State → Heap → Prop} (hinj : nb_inj xm_sh G.2.1) (hZo : nb_Zok (nb_A xm_sh G.2.1) Z) {N : Nat} {σ : nb_St}  {ro : Int32} {σo : nb_St} (hf : fX8_fault N σ = some (ro, σo))  : Met l yX8_fault vsX8_fault rmX8_fault (nb_Pc G xm_sh Z σ [.ref (G.2.1 0)]) (nb_Qi G xm_sh Z ro σo) 0 0 (nb_A xm_sh G.2.1) := by
  refine Met.ofW (cc := cX8_fault) (maxL := 1) (ret := (some .int)) (by decide) rfl ?_
  intro p e s m args below meth c s₁ B hml hv
  obtain ⟨rfl, hP, hK, hZ⟩ := hv
  have hx := B.exec
  have hb := B.bytes
  have hr := B.returns
  have hts : ∀ w ∈ xT, w.before _ s = true := fun w h9 => atoms_spec (ws := vsX8_fault) B.pre w (List.mem_cons_of_mem _ h9)
  have hown : s.vm.findClass RX8 = some m.cls := findClass_of_methodNamed B.named
  have hlocks := B.notSynchronized
  have hW : nb_W G xm_sh s.heap σ s.heap [] := ⟨hP, va_S.rf⟩
  have hl := lv_entry ([.ref (G.2.1 0)]) (n := 1) (Nat.le_of_ble_eq_true rfl)
  rw [lg_entry_eq]
  generalize (lg_sl ([.ref (G.2.1 0)]) ++ List.replicate (1 - (lg_sl ([.ref (G.2.1 0)])).length) Slot.unset).toArray = ls at hl ⊢
  have hl : lv_has ls 1 [(0, .ref (G.2.1 0))] := hl
  show W p l e rmX8_fault s m ([.ref (G.2.1 0)]).toArray below meth c s.heap [] 0 0 (MQ below (nb_Qi G xm_sh Z ro σo) ([.ref (G.2.1 0)]).toArray s 0 0 (nb_A xm_sh G.2.1)) (F0 m 0 ls [])
  generalize hargs : ([.ref (G.2.1 0)] : List Value).toArray = args at hts ⊢
  unfold fX8_fault at hf
  obtain ⟨H, eH⟩ : ∃ H, H = s.heap := ⟨_, rfl⟩
  obtain ⟨locs, eL⟩ : ∃ L : List Loc, L = [] := ⟨_, rfl⟩
  have hW : nb_W G xm_sh s.heap σ H locs := by rw [eH, eL]; exact hW
  suffices hgo : W p l e rmX8_fault s m args below meth c H locs 0 0 (MQ below (nb_Qi G xm_sh Z ro σo) args s 0 0 (nb_A xm_sh G.2.1)) (F0 m 0 ls []) by rw [eH, eL] at hgo; exact hgo
  clear eH eL
  refine lv_aload_n hx hb dX8_fault_0 rfl (lv_at hl 0 rfl) ?_
  obtain ⟨r2, σ3, hc1, hf⟩ := nb_b2_e hf
  refine nb_ci hW (va_runV (As := []) (rest := []) ⟨hx, hb, hml, hown, hts⟩ (c_X8_readAll l hinj hZo (N := N) hc1 ) (cwV 0 hts (xg_V tw5_21 tw5_23 tp2_5 tw1_10 tw5_24) rfl rfl rfl (by decide +kernel) ⟨Nat.le_of_ble_eq_true rfl, Nat.le_of_ble_eq_true rfl⟩) (nb_preV hK hZ hZo hW (k := 0) rfl rfl) rfl rfl hl.1 rfl (lv_room (Nat.le_of_ble_eq_true rfl)) dX8_fault_1 ⟨Nat.zero_le _, Nat.zero_le _⟩) (fun H locs hW => ?_)
  exact nb_ri hx hb hr hlocks hK hZ hZo hW  hf dX8_fault_4
def fX8_copyTold (N : Nat) (σ : nb_St) (a0 : Int32) (a1 : Int32) : Option nb_St :=
  nb_g (nb_in a0 4) (
  nb_g (nb_in a1 4) (
  nb_let (nb_st σ 19 (nb_ix a1) (σ 19 (nb_ix a0))) fun σ3 =>
  nb_g (nb_in a0 4) (
  nb_g (nb_in a1 4) (
  nb_let (nb_st σ3 22 (nb_ix a1) (σ3 22 (nb_ix a0))) fun σ6 =>
  nb_lp2 (R := nb_St) (fun ag9 (x7 : Int32) (σ8 : nb_St) =>
  (if (6 : Int32) ≤ x7 then
  nb_lp2 (R := nb_St) (fun ag14 (x12 : Int32) (σ13 : nb_St) =>
  (if (4 : Int32) ≤ x12 then
  some σ13
  else
  nb_g (nb_in (((4 : Int32) * a0) + x12) 16) (
  nb_g (nb_in (((4 : Int32) * a1) + x12) 16) (
  nb_let (nb_st σ13 23 (nb_ix (((4 : Int32) * a1) + x12)) (σ13 23 (nb_ix (((4 : Int32) * a0) + x12)))) fun σ19 =>
  ag14 (x12 + 1) σ19)))) N (0 : Int32) σ8
  else
  nb_g (nb_in (((6 : Int32) * a0) + x7) 24) (
  nb_g (nb_in (((6 : Int32) * a1) + x7) 24) (
  nb_let (nb_st σ8 20 (nb_ix (((6 : Int32) * a1) + x7)) (σ8 20 (nb_ix (((6 : Int32) * a0) + x7)))) fun σ22 =>
  nb_g (nb_in (((6 : Int32) * a0) + x7) 24) (
  nb_g (nb_in (((6 : Int32) * a1) + x7) 24) (
  nb_let (nb_st σ22 21 (nb_ix (((6 : Int32) * a1) + x7)) (σ22 21 (nb_ix (((6 : Int32) * a0) + x7)))) fun σ25 =>
  ag9 (x7 + 1) σ25)))))) N (0 : Int32) σ6))))
def rmX8_copyTold : Room := { frames := 0, cells := 0, slots := 0, locals := 0 }
def vsX8_copyTold : List Cond := .code yX8_copyTold cX8_copyTold 4 none :: xT
set_option maxHeartbeats 4000000 in
set_option maxRecDepth 100000 in
theorem c_X8_copyTold (l : Launch) {G : nb_G} {Z : State → Heap → Prop} (hinj : nb_inj xm_sh G.2.1) (hZo : nb_Zok (nb_A xm_sh G.2.1) Z) {N : Nat} {σ : nb_St} {a0 : Int32} {a1 : Int32} {σo : nb_St} (hf : fX8_copyTold N σ a0 a1 = some σo)  : Met l yX8_copyTold vsX8_copyTold rmX8_copyTold (nb_Pc G xm_sh Z σ [.ref (G.2.1 0), .int a0, .int a1]) (nb_Qv G xm_sh Z σo) 0 0 (nb_A xm_sh G.2.1) := by
  refine Met.ofW (cc := cX8_copyTold) (maxL := 4) (ret := none) (by decide) rfl ?_
  intro p e s m args below meth c s₁ B hml hv
  obtain ⟨rfl, hP, hK, hZ⟩ := hv
  have hx := B.exec
  have hb := B.bytes
  have hr := B.returns
  have hts : ∀ w ∈ xT, w.before _ s = true := fun w h9 => atoms_spec (ws := vsX8_copyTold) B.pre w (List.mem_cons_of_mem _ h9)
  have hown : s.vm.findClass RX8 = some m.cls := findClass_of_methodNamed B.named
  have hlocks := B.notSynchronized
  have hW : nb_W G xm_sh s.heap σ s.heap [] := ⟨hP, va_S.rf⟩
  have hl := lv_entry ([.ref (G.2.1 0), .int a0, .int a1]) (n := 4) (Nat.le_of_ble_eq_true rfl)
  rw [lg_entry_eq]
  generalize (lg_sl ([.ref (G.2.1 0), .int a0, .int a1]) ++ List.replicate (4 - (lg_sl ([.ref (G.2.1 0), .int a0, .int a1])).length) Slot.unset).toArray = ls at hl ⊢
  have hl : lv_has ls 4 [(0, .ref (G.2.1 0)), (1, .int a0), (2, .int a1)] := hl
  show W p l e rmX8_copyTold s m ([.ref (G.2.1 0), .int a0, .int a1]).toArray below meth c s.heap [] 0 0 (MQ below (nb_Qv G xm_sh Z σo) ([.ref (G.2.1 0), .int a0, .int a1]).toArray s 0 0 (nb_A xm_sh G.2.1)) (F0 m 0 ls [])
  generalize hargs : ([.ref (G.2.1 0), .int a0, .int a1] : List Value).toArray = args at hts ⊢
  unfold fX8_copyTold at hf
  obtain ⟨H, eH⟩ : ∃ H, H = s.heap := ⟨_, rfl⟩
  obtain ⟨locs, eL⟩ : ∃ L : List Loc, L = [] := ⟨_, rfl⟩
  have hW : nb_W G xm_sh s.heap σ H locs := by rw [eH, eL]; exact hW
  suffices hgo : W p l e rmX8_copyTold s m args below meth c H locs 0 0 (MQ below (nb_Qv G xm_sh Z σo) args s 0 0 (nb_A xm_sh G.2.1)) (F0 m 0 ls []) by rw [eH, eL] at hgo; exact hgo
  clear eH eL
  refine lv_aload_n hx hb dX8_copyTold_0 rfl (lv_at hl 0 rfl) ?_
  refine nb_get (C := RX8) (T := TX8) (N := 40) hx hb hts inT_X8 hown hK hW 0 rfl rfl 19 (by decide) (hts _ tw4_142) (fun _ h9 => h9) rfl (v := .ref (G.2.1 19)) rfl dX8_copyTold_1 ?_
  refine lv_iload_n hx hb dX8_copyTold_4 rfl (lv_at hl 2 rfl) ?_
  refine lv_aload_n hx hb dX8_copyTold_5 rfl (lv_at hl 0 rfl) ?_
  refine nb_get (C := RX8) (T := TX8) (N := 40) hx hb hts inT_X8 hown hK hW 0 rfl rfl 19 (by decide) (hts _ tw4_142) (fun _ h9 => h9) rfl (v := .ref (G.2.1 19)) rfl dX8_copyTold_6 ?_
  refine lv_iload_n hx hb dX8_copyTold_9 rfl (lv_at hl 1 rfl) ?_
  obtain ⟨g1, hf⟩ := nb_g_e hf
  refine nb_iald hx hb hK hW 19 rfl g1 dX8_copyTold_10 ?_
  obtain ⟨g2, hf⟩ := nb_g_e hf
  obtain ⟨σ3, eσ3, hf⟩ := nb_let_e hf
  refine nb_iast hx hb hK hinj hW 19 rfl g2 eσ3 dX8_copyTold_11 (fun H locs hW => ?_)
  refine lv_aload_n hx hb dX8_copyTold_12 rfl (lv_at hl 0 rfl) ?_
  refine nb_get (C := RX8) (T := TX8) (N := 40) hx hb hts inT_X8 hown hK hW 0 rfl rfl 22 (by decide) (hts _ tw4_145) (fun _ h9 => h9) rfl (v := .ref (G.2.1 22)) rfl dX8_copyTold_13 ?_
  refine lv_iload_n hx hb dX8_copyTold_16 rfl (lv_at hl 2 rfl) ?_
  refine lv_aload_n hx hb dX8_copyTold_17 rfl (lv_at hl 0 rfl) ?_
  refine nb_get (C := RX8) (T := TX8) (N := 40) hx hb hts inT_X8 hown hK hW 0 rfl rfl 22 (by decide) (hts _ tw4_145) (fun _ h9 => h9) rfl (v := .ref (G.2.1 22)) rfl dX8_copyTold_18 ?_
  refine lv_iload_n hx hb dX8_copyTold_21 rfl (lv_at hl 1 rfl) ?_
  obtain ⟨g4, hf⟩ := nb_g_e hf
  refine nb_iald hx hb hK hW 22 rfl g4 dX8_copyTold_22 ?_
  obtain ⟨g5, hf⟩ := nb_g_e hf
  obtain ⟨σ6, eσ6, hf⟩ := nb_let_e hf
  refine nb_iast hx hb hK hinj hW 22 rfl g5 eσ6 dX8_copyTold_23 (fun H locs hW => ?_)
  refine lv_iconst (v := (0 : Int32)) hx hb dX8_copyTold_24 (by decide) ?_
  refine lv_istore_n (lv' := [(3, .int (0 : Int32)), (0, .ref (G.2.1 0)), (1, .int a0), (2, .int a1)]) hx hb dX8_copyTold_25 rfl hl (by decide) rfl (fun ls hl => ?_)
  refine nb_w2 (P := fun (x7 : Int32) (σ8 : nb_St) => ∀ (H : Heap) (locs : List Loc) (ls : Array Slot), nb_W G xm_sh s.heap σ8 H locs → lv_has ls 4 [(0, .ref (G.2.1 0)), (1, .int a0), (2, .int a1), (3, .int x7)] → W p l e rmX8_copyTold s m args below meth c H locs 0 0 (MQ below (nb_Qv G xm_sh Z σo) args s 0 0 (nb_A xm_sh G.2.1)) (F0 m 26 ls [])) ?_ N _ _ hf H locs ls hW (lv_sub hl [1, 2, 3, 0] rfl)
  intro ag9 ih10 x7 σ8 hf H locs ls hW hl
  refine lv_iload_n hx hb dX8_copyTold_26 rfl (lv_at hl 3 rfl) ?_
  refine lv_bipush (v := (6 : Int32)) hx hb dX8_copyTold_27 (by decide) ?_
  refine lv_icmp_ge (tgt := 82) hx hb dX8_copyTold_29 (by decide) (fun c11 => ?_) (fun c11 => ?_)
  · rw [if_pos c11] at hf
    refine lv_iconst (v := (0 : Int32)) hx hb dX8_copyTold_82 (by decide) ?_
    refine lv_istore_n (lv' := [(3, .int (0 : Int32)), (0, .ref (G.2.1 0)), (1, .int a0), (2, .int a1)]) hx hb dX8_copyTold_83 rfl hl (by decide) rfl (fun ls hl => ?_)
    refine nb_w2 (P := fun (x12 : Int32) (σ13 : nb_St) => ∀ (H : Heap) (locs : List Loc) (ls : Array Slot), nb_W G xm_sh s.heap σ13 H locs → lv_has ls 4 [(0, .ref (G.2.1 0)), (1, .int a0), (2, .int a1), (3, .int x12)] → W p l e rmX8_copyTold s m args below meth c H locs 0 0 (MQ below (nb_Qv G xm_sh Z σo) args s 0 0 (nb_A xm_sh G.2.1)) (F0 m 84 ls [])) ?_ N _ _ hf H locs ls hW (lv_sub hl [1, 2, 3, 0] rfl)
    intro ag14 ih15 x12 σ13 hf H locs ls hW hl
    refine lv_iload_n hx hb dX8_copyTold_84 rfl (lv_at hl 3 rfl) ?_
    refine lv_iconst (v := (4 : Int32)) hx hb dX8_copyTold_85 (by decide) ?_
    refine lv_icmp_ge (tgt := 115) hx hb dX8_copyTold_86 (by decide) (fun c16 => ?_) (fun c16 => ?_)
    · rw [if_pos c16] at hf
      exact nb_rv hx hb hr hlocks hK hZ hZo hW hf dX8_copyTold_115
    · rw [if_neg c16] at hf
      refine lv_aload_n hx hb dX8_copyTold_89 rfl (lv_at hl 0 rfl) ?_
      refine nb_get (C := RX8) (T := TX8) (N := 40) hx hb hts inT_X8 hown hK hW 0 rfl rfl 23 (by decide) (hts _ tw4_146) (fun _ h9 => h9) rfl (v := .ref (G.2.1 23)) rfl dX8_copyTold_90 ?_
      refine lv_iconst (v := (4 : Int32)) hx hb dX8_copyTold_93 (by decide) ?_
      refine lv_iload_n hx hb dX8_copyTold_94 rfl (lv_at hl 2 rfl) ?_
      refine lv_imul hx hb dX8_copyTold_95 ?_
      refine lv_iload_n hx hb dX8_copyTold_96 rfl (lv_at hl 3 rfl) ?_
      refine lv_iadd hx hb dX8_copyTold_97 ?_
      refine lv_aload_n hx hb dX8_copyTold_98 rfl (lv_at hl 0 rfl) ?_
      refine nb_get (C := RX8) (T := TX8) (N := 40) hx hb hts inT_X8 hown hK hW 0 rfl rfl 23 (by decide) (hts _ tw4_146) (fun _ h9 => h9) rfl (v := .ref (G.2.1 23)) rfl dX8_copyTold_99 ?_
      refine lv_iconst (v := (4 : Int32)) hx hb dX8_copyTold_102 (by decide) ?_
      refine lv_iload_n hx hb dX8_copyTold_103 rfl (lv_at hl 1 rfl) ?_
      refine lv_imul hx hb dX8_copyTold_104 ?_
      refine lv_iload_n hx hb dX8_copyTold_105 rfl (lv_at hl 3 rfl) ?_
      refine lv_iadd hx hb dX8_copyTold_106 ?_
      obtain ⟨g17, hf⟩ := nb_g_e hf
      refine nb_iald hx hb hK hW 23 rfl g17 dX8_copyTold_107 ?_
      obtain ⟨g18, hf⟩ := nb_g_e hf
      obtain ⟨σ19, eσ19, hf⟩ := nb_let_e hf
      refine nb_iast hx hb hK hinj hW 23 rfl g18 eσ19 dX8_copyTold_108 (fun H locs hW => ?_)
      refine lv_iinc (v := (x12 + 1)) (lv' := [(3, .int (x12 + 1)), (0, .ref (G.2.1 0)), (1, .int a0), (2, .int a1)]) hx hb dX8_copyTold_109 hl (k := 3) rfl rfl (by decide) rfl (fun ls hl => ?_)
      refine lv_goto (tgt := 84) hx hb dX8_copyTold_112 (by decide) ?_
      exact ih15 _ _ hf _ _ _ hW (lv_sub hl [1, 2, 3, 0] rfl)
  · rw [if_neg c11] at hf
    refine lv_aload_n hx hb dX8_copyTold_32 rfl (lv_at hl 0 rfl) ?_
    refine nb_get (C := RX8) (T := TX8) (N := 40) hx hb hts inT_X8 hown hK hW 0 rfl rfl 20 (by decide) (hts _ tw4_143) (fun _ h9 => h9) rfl (v := .ref (G.2.1 20)) rfl dX8_copyTold_33 ?_
    refine lv_bipush (v := (6 : Int32)) hx hb dX8_copyTold_36 (by decide) ?_
    refine lv_iload_n hx hb dX8_copyTold_38 rfl (lv_at hl 2 rfl) ?_
    refine lv_imul hx hb dX8_copyTold_39 ?_
    refine lv_iload_n hx hb dX8_copyTold_40 rfl (lv_at hl 3 rfl) ?_
    refine lv_iadd hx hb dX8_copyTold_41 ?_
    refine lv_aload_n hx hb dX8_copyTold_42 rfl (lv_at hl 0 rfl) ?_
    refine nb_get (C := RX8) (T := TX8) (N := 40) hx hb hts inT_X8 hown hK hW 0 rfl rfl 20 (by decide) (hts _ tw4_143) (fun _ h9 => h9) rfl (v := .ref (G.2.1 20)) rfl dX8_copyTold_43 ?_
    refine lv_bipush (v := (6 : Int32)) hx hb dX8_copyTold_46 (by decide) ?_
    refine lv_iload_n hx hb dX8_copyTold_48 rfl (lv_at hl 1 rfl) ?_
    refine lv_imul hx hb dX8_copyTold_49 ?_
    refine lv_iload_n hx hb dX8_copyTold_50 rfl (lv_at hl 3 rfl) ?_
    refine lv_iadd hx hb dX8_copyTold_51 ?_
    obtain ⟨g20, hf⟩ := nb_g_e hf
    refine nb_iald hx hb hK hW 20 rfl g20 dX8_copyTold_52 ?_
    obtain ⟨g21, hf⟩ := nb_g_e hf
    obtain ⟨σ22, eσ22, hf⟩ := nb_let_e hf
    refine nb_iast hx hb hK hinj hW 20 rfl g21 eσ22 dX8_copyTold_53 (fun H locs hW => ?_)
    refine lv_aload_n hx hb dX8_copyTold_54 rfl (lv_at hl 0 rfl) ?_
    refine nb_get (C := RX8) (T := TX8) (N := 40) hx hb hts inT_X8 hown hK hW 0 rfl rfl 21 (by decide) (hts _ tw4_144) (fun _ h9 => h9) rfl (v := .ref (G.2.1 21)) rfl dX8_copyTold_55 ?_
    refine lv_bipush (v := (6 : Int32)) hx hb dX8_copyTold_58 (by decide) ?_
    refine lv_iload_n hx hb dX8_copyTold_60 rfl (lv_at hl 2 rfl) ?_
    refine lv_imul hx hb dX8_copyTold_61 ?_
    refine lv_iload_n hx hb dX8_copyTold_62 rfl (lv_at hl 3 rfl) ?_
    refine lv_iadd hx hb dX8_copyTold_63 ?_
    refine lv_aload_n hx hb dX8_copyTold_64 rfl (lv_at hl 0 rfl) ?_
    refine nb_get (C := RX8) (T := TX8) (N := 40) hx hb hts inT_X8 hown hK hW 0 rfl rfl 21 (by decide) (hts _ tw4_144) (fun _ h9 => h9) rfl (v := .ref (G.2.1 21)) rfl dX8_copyTold_65 ?_
    refine lv_bipush (v := (6 : Int32)) hx hb dX8_copyTold_68 (by decide) ?_
    refine lv_iload_n hx hb dX8_copyTold_70 rfl (lv_at hl 1 rfl) ?_
    refine lv_imul hx hb dX8_copyTold_71 ?_
    refine lv_iload_n hx hb dX8_copyTold_72 rfl (lv_at hl 3 rfl) ?_
    refine lv_iadd hx hb dX8_copyTold_73 ?_
    obtain ⟨g23, hf⟩ := nb_g_e hf
    refine nb_iald hx hb hK hW 21 rfl g23 dX8_copyTold_74 ?_
    obtain ⟨g24, hf⟩ := nb_g_e hf
    obtain ⟨σ25, eσ25, hf⟩ := nb_let_e hf
    refine nb_iast hx hb hK hinj hW 21 rfl g24 eσ25 dX8_copyTold_75 (fun H locs hW => ?_)
    refine lv_iinc (v := (x7 + 1)) (lv' := [(3, .int (x7 + 1)), (0, .ref (G.2.1 0)), (1, .int a0), (2, .int a1)]) hx hb dX8_copyTold_76 hl (k := 3) rfl rfl (by decide) rfl (fun ls hl => ?_)
    refine lv_goto (tgt := 26) hx hb dX8_copyTold_79 (by decide) ?_
    exact ih10 _ _ hf _ _ _ hW (lv_sub hl [1, 2, 3, 0] rfl)
def fX8_lay (N : Nat) (σ : nb_St)  : Option (Int32 × nb_St) :=
  nb_b2 (fX8_readAll N σ) fun r2 σ3 =>
  nb_let (fun (_u : Unit) =>
  some ((-2 : Int32), σ3)) fun k4 =>
  (if r2 = (-4 : Int32) then
  nb_g (nb_in (1 : Int32) 2) (
  (if (σ3 2 (nb_ix (1 : Int32))) = 0 then
  k4 ()
  else
  nb_g (nb_in (1 : Int32) 2) (
  nb_g (nb_in (0 : Int32) 2) (
  nb_let (nb_st σ3 2 (nb_ix (0 : Int32)) (σ3 2 (nb_ix (1 : Int32)))) fun σ11 =>
  nb_g (nb_in (1 : Int32) 2) (
  nb_g (nb_in (0 : Int32) 2) (
  nb_let (nb_st σ11 7 (nb_ix (0 : Int32)) (σ11 7 (nb_ix (1 : Int32)))) fun σ14 =>
  nb_g (nb_in (1 : Int32) 2) (
  nb_g (nb_in (0 : Int32) 2) (
  nb_let (nb_st σ14 10 (nb_ix (0 : Int32)) (σ14 10 (nb_ix (1 : Int32)))) fun σ17 =>
  nb_g (nb_in (1 : Int32) 2) (
  nb_g (nb_in (0 : Int32) 2) (
  nb_let (nb_st σ17 11 (nb_ix (0 : Int32)) (σ17 11 (nb_ix (1 : Int32)))) fun σ20 =>
  nb_g (nb_in (1 : Int32) 2) (
  nb_g (nb_in (0 : Int32) 2) (
  nb_let (nb_st σ20 12 (nb_ix (0 : Int32)) (σ20 12 (nb_ix (1 : Int32)))) fun σ23 =>
  nb_g (nb_in (1 : Int32) 2) (
  nb_g (nb_in (0 : Int32) 2) (
  nb_let (nb_st σ23 15 (nb_ix (0 : Int32)) (σ23 15 (nb_ix (1 : Int32)))) fun σ26 =>
  nb_lp2 (R := (Int32 × nb_St)) (fun ag29 (x27 : Int32) (σ28 : nb_St) =>
  (if (8 : Int32) ≤ x27 then
  nb_lp2 (R := (Int32 × nb_St)) (fun ag34 (x32 : Int32) (σ33 : nb_St) =>
  (if (3 : Int32) ≤ x32 then
  nb_lp2 (R := (Int32 × nb_St)) (fun ag39 (x37 : Int32) (σ38 : nb_St) =>
  (if (6 : Int32) ≤ x37 then
  nb_b (fX8_copyTold N σ38 (1 : Int32) (0 : Int32)) fun σ43 =>
  nb_let (nb_st σ43 0 24 (0 : Int32)) fun σ44 =>
  nb_let (nb_st σ44 0 25 (0 : Int32)) fun σ45 =>
  nb_g (nb_in (0 : Int32) 2) (
  some ((σ45 2 (nb_ix (0 : Int32))), σ45))
  else
  nb_g (nb_in ((6 : Int32) + x37) 12) (
  nb_g (nb_in x37 12) (
  nb_let (nb_st σ38 16 (nb_ix x37) (σ38 16 (nb_ix ((6 : Int32) + x37)))) fun σ49 =>
  nb_g (nb_in ((6 : Int32) + x37) 12) (
  nb_g (nb_in x37 12) (
  nb_let (nb_st σ49 17 (nb_ix x37) (σ49 17 (nb_ix ((6 : Int32) + x37)))) fun σ52 =>
  nb_g (nb_in ((6 : Int32) + x37) 12) (
  nb_g (nb_in x37 12) (
  nb_let (nb_st σ52 18 (nb_ix x37) (σ52 18 (nb_ix ((6 : Int32) + x37)))) fun σ55 =>
  ag39 (x37 + 1) σ55)))))))) N (0 : Int32) σ33
  else
  nb_g (nb_in ((3 : Int32) + x32) 6) (
  nb_g (nb_in x32 6) (
  nb_let (nb_st σ33 8 (nb_ix x32) (σ33 8 (nb_ix ((3 : Int32) + x32)))) fun σ58 =>
  nb_g (nb_in ((3 : Int32) + x32) 6) (
  nb_g (nb_in x32 6) (
  nb_let (nb_st σ58 9 (nb_ix x32) (σ58 9 (nb_ix ((3 : Int32) + x32)))) fun σ61 =>
  nb_g (nb_in ((3 : Int32) + x32) 6) (
  nb_g (nb_in x32 6) (
  nb_let (nb_st σ61 13 (nb_ix x32) (σ61 13 (nb_ix ((3 : Int32) + x32)))) fun σ64 =>
  nb_g (nb_in ((3 : Int32) + x32) 6) (
  nb_g (nb_in x32 6) (
  nb_let (nb_st σ64 14 (nb_ix x32) (σ64 14 (nb_ix ((3 : Int32) + x32)))) fun σ67 =>
  ag34 (x32 + 1) σ67)))))))))) N (0 : Int32) σ28
  else
  nb_g (nb_in ((8 : Int32) + x27) 16) (
  nb_g (nb_in x27 16) (
  nb_let (nb_st σ28 3 (nb_ix x27) (σ28 3 (nb_ix ((8 : Int32) + x27)))) fun σ70 =>
  nb_g (nb_in ((8 : Int32) + x27) 16) (
  nb_g (nb_in x27 16) (
  nb_let (nb_st σ70 4 (nb_ix x27) (σ70 4 (nb_ix ((8 : Int32) + x27)))) fun σ73 =>
  nb_g (nb_in ((8 : Int32) + x27) 16) (
  nb_g (nb_in x27 16) (
  nb_let (nb_st σ73 5 (nb_ix x27) (σ73 5 (nb_ix ((8 : Int32) + x27)))) fun σ76 =>
  nb_g (nb_in ((8 : Int32) + x27) 16) (
  nb_g (nb_in x27 16) (
  nb_let (nb_st σ76 6 (nb_ix x27) (σ76 6 (nb_ix ((8 : Int32) + x27)))) fun σ79 =>
  ag29 (x27 + 1) σ79)))))))))) N (0 : Int32) σ26))))))))))))))
  else
  k4 ())
def rmX8_lay : Room := { frames := 5, cells := 0, slots := 0, locals := 112 }
def vsX8_lay : List Cond := .code yX8_lay cX8_lay 2 (some .int) :: xT
set_option maxHeartbeats 4000000 in
set_option maxRecDepth 100000 in
theorem c_X8_lay (l : Launch) {G : nb_G} {Z : State → Heap → Prop} (hinj : nb_inj xm_sh G.2.1) (hZo : nb_Zok (nb_A xm_sh G.2.1) Z) {N : Nat} {σ : nb_St}  {ro : Int32} {σo : nb_St} (hf : fX8_lay N σ = some (ro, σo))  : Met l yX8_lay vsX8_lay rmX8_lay (nb_Pc G xm_sh Z σ [.ref (G.2.1 0)]) (nb_Qi G xm_sh Z ro σo) 0 0 (nb_A xm_sh G.2.1) := by
  refine Met.ofW (cc := cX8_lay) (maxL := 2) (ret := (some .int)) (by decide) rfl ?_
  intro p e s m args below meth c s₁ B hml hv
  obtain ⟨rfl, hP, hK, hZ⟩ := hv
  have hx := B.exec
  have hb := B.bytes
  have hr := B.returns
  have hts : ∀ w ∈ xT, w.before _ s = true := fun w h9 => atoms_spec (ws := vsX8_lay) B.pre w (List.mem_cons_of_mem _ h9)
  have hown : s.vm.findClass RX8 = some m.cls := findClass_of_methodNamed B.named
  have hlocks := B.notSynchronized
  have hW : nb_W G xm_sh s.heap σ s.heap [] := ⟨hP, va_S.rf⟩
  have hl := lv_entry ([.ref (G.2.1 0)]) (n := 2) (Nat.le_of_ble_eq_true rfl)
  rw [lg_entry_eq]
  generalize (lg_sl ([.ref (G.2.1 0)]) ++ List.replicate (2 - (lg_sl ([.ref (G.2.1 0)])).length) Slot.unset).toArray = ls at hl ⊢
  have hl : lv_has ls 2 [(0, .ref (G.2.1 0))] := hl
  show W p l e rmX8_lay s m ([.ref (G.2.1 0)]).toArray below meth c s.heap [] 0 0 (MQ below (nb_Qi G xm_sh Z ro σo) ([.ref (G.2.1 0)]).toArray s 0 0 (nb_A xm_sh G.2.1)) (F0 m 0 ls [])
  generalize hargs : ([.ref (G.2.1 0)] : List Value).toArray = args at hts ⊢
  unfold fX8_lay at hf
  obtain ⟨H, eH⟩ : ∃ H, H = s.heap := ⟨_, rfl⟩
  obtain ⟨locs, eL⟩ : ∃ L : List Loc, L = [] := ⟨_, rfl⟩
  have hW : nb_W G xm_sh s.heap σ H locs := by rw [eH, eL]; exact hW
  suffices hgo : W p l e rmX8_lay s m args below meth c H locs 0 0 (MQ below (nb_Qi G xm_sh Z ro σo) args s 0 0 (nb_A xm_sh G.2.1)) (F0 m 0 ls []) by rw [eH, eL] at hgo; exact hgo
  clear eH eL
  refine lv_aload_n hx hb dX8_lay_0 rfl (lv_at hl 0 rfl) ?_
  obtain ⟨r2, σ3, hc1, hf⟩ := nb_b2_e hf
  refine nb_ci hW (va_runV (As := []) (rest := []) ⟨hx, hb, hml, hown, hts⟩ (c_X8_readAll l hinj hZo (N := N) hc1 ) (cwV 0 hts (xg_V tw5_21 tw5_23 tp2_5 tw1_10 tw5_24) rfl rfl rfl (by decide +kernel) ⟨Nat.le_of_ble_eq_true rfl, Nat.le_of_ble_eq_true rfl⟩) (nb_preV hK hZ hZo hW (k := 0) rfl rfl) rfl rfl hl.1 rfl (lv_room (Nat.le_of_ble_eq_true rfl)) dX8_lay_1 ⟨Nat.zero_le _, Nat.zero_le _⟩) (fun H locs hW => ?_)
  refine lv_bipush (v := (-4 : Int32)) hx hb dX8_lay_4 (by decide) ?_
  obtain ⟨k4, ek4, hf⟩ := nb_let_e hf
  have w5 : ∀ (_u : Unit) (H : Heap) (locs : List Loc) (ls : Array Slot), k4 _u = some (ro, σo) → nb_W G xm_sh s.heap σ3 H locs → lv_has ls 2 [] → W p l e rmX8_lay s m args below meth c H locs 0 0 (MQ below (nb_Qi G xm_sh Z ro σo) args s 0 0 (nb_A xm_sh G.2.1)) (F0 m 18 ls []) := by
    intro _u H locs ls hf hW hl
    have hf := (congrFun ek4 _u).symm.trans hf
    refine lv_bipush (v := (-2 : Int32)) hx hb dX8_lay_18 (by decide) ?_
    exact nb_ri hx hb hr hlocks hK hZ hZo hW  hf dX8_lay_20
  clear ek4
  refine lv_icmp_ne (tgt := 18) hx hb dX8_lay_6 (by decide) (fun c6 => ?_) (fun c6 => ?_)
  · rw [if_neg c6] at hf
    exact w5 ()  _ _ _ hf hW (lv_sub hl [] rfl)
  · rw [if_pos c6] at hf
    refine lv_aload_n hx hb dX8_lay_9 rfl (lv_at hl 0 rfl) ?_
    refine nb_get (C := RX8) (T := TX8) (N := 40) hx hb hts inT_X8 hown hK hW 0 rfl rfl 2 (by decide) (hts _ tw4_125) (fun _ h9 => h9) rfl (v := .ref (G.2.1 2)) rfl dX8_lay_10 ?_
    refine lv_iconst (v := (1 : Int32)) hx hb dX8_lay_13 (by decide) ?_
    obtain ⟨g7, hf⟩ := nb_g_e hf
    refine nb_iald hx hb hK hW 2 rfl g7 dX8_lay_14 ?_
    refine lv_if_ne (tgt := 21) hx hb dX8_lay_15 (by decide) (fun c8 => ?_) (fun c8 => ?_)
    · rw [if_neg c8] at hf
      refine lv_aload_n hx hb dX8_lay_21 rfl (lv_at hl 0 rfl) ?_
      refine nb_get (C := RX8) (T := TX8) (N := 40) hx hb hts inT_X8 hown hK hW 0 rfl rfl 2 (by decide) (hts _ tw4_125) (fun _ h9 => h9) rfl (v := .ref (G.2.1 2)) rfl dX8_lay_22 ?_
      refine lv_iconst (v := (0 : Int32)) hx hb dX8_lay_25 (by decide) ?_
      refine lv_aload_n hx hb dX8_lay_26 rfl (lv_at hl 0 rfl) ?_
      refine nb_get (C := RX8) (T := TX8) (N := 40) hx hb hts inT_X8 hown hK hW 0 rfl rfl 2 (by decide) (hts _ tw4_125) (fun _ h9 => h9) rfl (v := .ref (G.2.1 2)) rfl dX8_lay_27 ?_
      refine lv_iconst (v := (1 : Int32)) hx hb dX8_lay_30 (by decide) ?_
      obtain ⟨g9, hf⟩ := nb_g_e hf
      refine nb_iald hx hb hK hW 2 rfl g9 dX8_lay_31 ?_
      obtain ⟨g10, hf⟩ := nb_g_e hf
      obtain ⟨σ11, eσ11, hf⟩ := nb_let_e hf
      refine nb_iast hx hb hK hinj hW 2 rfl g10 eσ11 dX8_lay_32 (fun H locs hW => ?_)
      refine lv_aload_n hx hb dX8_lay_33 rfl (lv_at hl 0 rfl) ?_
      refine nb_get (C := RX8) (T := TX8) (N := 40) hx hb hts inT_X8 hown hK hW 0 rfl rfl 7 (by decide) (hts _ tw4_130) (fun _ h9 => h9) rfl (v := .ref (G.2.1 7)) rfl dX8_lay_34 ?_
      refine lv_iconst (v := (0 : Int32)) hx hb dX8_lay_37 (by decide) ?_
      refine lv_aload_n hx hb dX8_lay_38 rfl (lv_at hl 0 rfl) ?_
      refine nb_get (C := RX8) (T := TX8) (N := 40) hx hb hts inT_X8 hown hK hW 0 rfl rfl 7 (by decide) (hts _ tw4_130) (fun _ h9 => h9) rfl (v := .ref (G.2.1 7)) rfl dX8_lay_39 ?_
      refine lv_iconst (v := (1 : Int32)) hx hb dX8_lay_42 (by decide) ?_
      obtain ⟨g12, hf⟩ := nb_g_e hf
      refine nb_iald hx hb hK hW 7 rfl g12 dX8_lay_43 ?_
      obtain ⟨g13, hf⟩ := nb_g_e hf
      obtain ⟨σ14, eσ14, hf⟩ := nb_let_e hf
      refine nb_iast hx hb hK hinj hW 7 rfl g13 eσ14 dX8_lay_44 (fun H locs hW => ?_)
      refine lv_aload_n hx hb dX8_lay_45 rfl (lv_at hl 0 rfl) ?_
      refine nb_get (C := RX8) (T := TX8) (N := 40) hx hb hts inT_X8 hown hK hW 0 rfl rfl 10 (by decide) (hts _ tw4_133) (fun _ h9 => h9) rfl (v := .ref (G.2.1 10)) rfl dX8_lay_46 ?_
      refine lv_iconst (v := (0 : Int32)) hx hb dX8_lay_49 (by decide) ?_
      refine lv_aload_n hx hb dX8_lay_50 rfl (lv_at hl 0 rfl) ?_
      refine nb_get (C := RX8) (T := TX8) (N := 40) hx hb hts inT_X8 hown hK hW 0 rfl rfl 10 (by decide) (hts _ tw4_133) (fun _ h9 => h9) rfl (v := .ref (G.2.1 10)) rfl dX8_lay_51 ?_
      refine lv_iconst (v := (1 : Int32)) hx hb dX8_lay_54 (by decide) ?_
      obtain ⟨g15, hf⟩ := nb_g_e hf
      refine nb_iald hx hb hK hW 10 rfl g15 dX8_lay_55 ?_
      obtain ⟨g16, hf⟩ := nb_g_e hf
      obtain ⟨σ17, eσ17, hf⟩ := nb_let_e hf
      refine nb_iast hx hb hK hinj hW 10 rfl g16 eσ17 dX8_lay_56 (fun H locs hW => ?_)
      refine lv_aload_n hx hb dX8_lay_57 rfl (lv_at hl 0 rfl) ?_
      refine nb_get (C := RX8) (T := TX8) (N := 40) hx hb hts inT_X8 hown hK hW 0 rfl rfl 11 (by decide) (hts _ tw4_134) (fun _ h9 => h9) rfl (v := .ref (G.2.1 11)) rfl dX8_lay_58 ?_
      refine lv_iconst (v := (0 : Int32)) hx hb dX8_lay_61 (by decide) ?_
      refine lv_aload_n hx hb dX8_lay_62 rfl (lv_at hl 0 rfl) ?_
      refine nb_get (C := RX8) (T := TX8) (N := 40) hx hb hts inT_X8 hown hK hW 0 rfl rfl 11 (by decide) (hts _ tw4_134) (fun _ h9 => h9) rfl (v := .ref (G.2.1 11)) rfl dX8_lay_63 ?_
      refine lv_iconst (v := (1 : Int32)) hx hb dX8_lay_66 (by decide) ?_
      obtain ⟨g18, hf⟩ := nb_g_e hf
      refine nb_iald hx hb hK hW 11 rfl g18 dX8_lay_67 ?_
      obtain ⟨g19, hf⟩ := nb_g_e hf
      obtain ⟨σ20, eσ20, hf⟩ := nb_let_e hf
      refine nb_iast hx hb hK hinj hW 11 rfl g19 eσ20 dX8_lay_68 (fun H locs hW => ?_)
      refine lv_aload_n hx hb dX8_lay_69 rfl (lv_at hl 0 rfl) ?_
      refine nb_get (C := RX8) (T := TX8) (N := 40) hx hb hts inT_X8 hown hK hW 0 rfl rfl 12 (by decide) (hts _ tw4_135) (fun _ h9 => h9) rfl (v := .ref (G.2.1 12)) rfl dX8_lay_70 ?_
      refine lv_iconst (v := (0 : Int32)) hx hb dX8_lay_73 (by decide) ?_
      refine lv_aload_n hx hb dX8_lay_74 rfl (lv_at hl 0 rfl) ?_
      refine nb_get (C := RX8) (T := TX8) (N := 40) hx hb hts inT_X8 hown hK hW 0 rfl rfl 12 (by decide) (hts _ tw4_135) (fun _ h9 => h9) rfl (v := .ref (G.2.1 12)) rfl dX8_lay_75 ?_
      refine lv_iconst (v := (1 : Int32)) hx hb dX8_lay_78 (by decide) ?_
      obtain ⟨g21, hf⟩ := nb_g_e hf
      refine nb_iald hx hb hK hW 12 rfl g21 dX8_lay_79 ?_
      obtain ⟨g22, hf⟩ := nb_g_e hf
      obtain ⟨σ23, eσ23, hf⟩ := nb_let_e hf
      refine nb_iast hx hb hK hinj hW 12 rfl g22 eσ23 dX8_lay_80 (fun H locs hW => ?_)
      refine lv_aload_n hx hb dX8_lay_81 rfl (lv_at hl 0 rfl) ?_
      refine nb_get (C := RX8) (T := TX8) (N := 40) hx hb hts inT_X8 hown hK hW 0 rfl rfl 15 (by decide) (hts _ tw4_138) (fun _ h9 => h9) rfl (v := .ref (G.2.1 15)) rfl dX8_lay_82 ?_
      refine lv_iconst (v := (0 : Int32)) hx hb dX8_lay_85 (by decide) ?_
      refine lv_aload_n hx hb dX8_lay_86 rfl (lv_at hl 0 rfl) ?_
      refine nb_get (C := RX8) (T := TX8) (N := 40) hx hb hts inT_X8 hown hK hW 0 rfl rfl 15 (by decide) (hts _ tw4_138) (fun _ h9 => h9) rfl (v := .ref (G.2.1 15)) rfl dX8_lay_87 ?_
      refine lv_iconst (v := (1 : Int32)) hx hb dX8_lay_90 (by decide) ?_
      obtain ⟨g24, hf⟩ := nb_g_e hf
      refine nb_iald hx hb hK hW 15 rfl g24 dX8_lay_91 ?_
      obtain ⟨g25, hf⟩ := nb_g_e hf
      obtain ⟨σ26, eσ26, hf⟩ := nb_let_e hf
      refine nb_iast hx hb hK hinj hW 15 rfl g25 eσ26 dX8_lay_92 (fun H locs hW => ?_)
      refine lv_iconst (v := (0 : Int32)) hx hb dX8_lay_93 (by decide) ?_
      refine lv_istore_n (lv' := [(1, .int (0 : Int32)), (0, .ref (G.2.1 0))]) hx hb dX8_lay_94 rfl hl (by decide) rfl (fun ls hl => ?_)
      refine nb_w2 (P := fun (x27 : Int32) (σ28 : nb_St) => ∀ (H : Heap) (locs : List Loc) (ls : Array Slot), nb_W G xm_sh s.heap σ28 H locs → lv_has ls 2 [(0, .ref (G.2.1 0)), (1, .int x27)] → W p l e rmX8_lay s m args below meth c H locs 0 0 (MQ below (nb_Qi G xm_sh Z ro σo) args s 0 0 (nb_A xm_sh G.2.1)) (F0 m 95 ls [])) ?_ N _ _ hf H locs ls hW (lv_sub hl [1, 0] rfl)
      intro ag29 ih30 x27 σ28 hf H locs ls hW hl
      refine lv_iload_n hx hb dX8_lay_95 rfl (lv_at hl 1 rfl) ?_
      refine lv_bipush (v := (8 : Int32)) hx hb dX8_lay_96 (by decide) ?_
      refine lv_icmp_ge (tgt := 167) hx hb dX8_lay_98 (by decide) (fun c31 => ?_) (fun c31 => ?_)
      · rw [if_pos c31] at hf
        refine lv_iconst (v := (0 : Int32)) hx hb dX8_lay_167 (by decide) ?_
        refine lv_istore_n (lv' := [(1, .int (0 : Int32)), (0, .ref (G.2.1 0))]) hx hb dX8_lay_168 rfl hl (by decide) rfl (fun ls hl => ?_)
        refine nb_w2 (P := fun (x32 : Int32) (σ33 : nb_St) => ∀ (H : Heap) (locs : List Loc) (ls : Array Slot), nb_W G xm_sh s.heap σ33 H locs → lv_has ls 2 [(0, .ref (G.2.1 0)), (1, .int x32)] → W p l e rmX8_lay s m args below meth c H locs 0 0 (MQ below (nb_Qi G xm_sh Z ro σo) args s 0 0 (nb_A xm_sh G.2.1)) (F0 m 169 ls [])) ?_ N _ _ hf H locs ls hW (lv_sub hl [1, 0] rfl)
        intro ag34 ih35 x32 σ33 hf H locs ls hW hl
        refine lv_iload_n hx hb dX8_lay_169 rfl (lv_at hl 1 rfl) ?_
        refine lv_iconst (v := (3 : Int32)) hx hb dX8_lay_170 (by decide) ?_
        refine lv_icmp_ge (tgt := 236) hx hb dX8_lay_171 (by decide) (fun c36 => ?_) (fun c36 => ?_)
        · rw [if_pos c36] at hf
          refine lv_iconst (v := (0 : Int32)) hx hb dX8_lay_236 (by decide) ?_
          refine lv_istore_n (lv' := [(1, .int (0 : Int32)), (0, .ref (G.2.1 0))]) hx hb dX8_lay_237 rfl hl (by decide) rfl (fun ls hl => ?_)
          refine nb_w2 (P := fun (x37 : Int32) (σ38 : nb_St) => ∀ (H : Heap) (locs : List Loc) (ls : Array Slot), nb_W G xm_sh s.heap σ38 H locs → lv_has ls 2 [(0, .ref (G.2.1 0)), (1, .int x37)] → W p l e rmX8_lay s m args below meth c H locs 0 0 (MQ below (nb_Qi G xm_sh Z ro σo) args s 0 0 (nb_A xm_sh G.2.1)) (F0 m 238 ls [])) ?_ N _ _ hf H locs ls hW (lv_sub hl [1, 0] rfl)
          intro ag39 ih40 x37 σ38 hf H locs ls hW hl
          refine lv_iload_n hx hb dX8_lay_238 rfl (lv_at hl 1 rfl) ?_
          refine lv_bipush (v := (6 : Int32)) hx hb dX8_lay_239 (by decide) ?_
          refine lv_icmp_ge (tgt := 295) hx hb dX8_lay_241 (by decide) (fun c41 => ?_) (fun c41 => ?_)
          · rw [if_pos c41] at hf
            refine lv_aload_n hx hb dX8_lay_295 rfl (lv_at hl 0 rfl) ?_
            refine lv_iconst (v := (1 : Int32)) hx hb dX8_lay_296 (by decide) ?_
            refine lv_iconst (v := (0 : Int32)) hx hb dX8_lay_297 (by decide) ?_
            obtain ⟨σ43, hc42, hf⟩ := nb_b_e hf
            refine nb_cv hW (va_runV (As := [.int (1 : Int32), .int (0 : Int32)]) (rest := []) ⟨hx, hb, hml, hown, hts⟩ (c_X8_copyTold l hinj hZo (N := N) hc42 ) (cwV 2 hts (xg_V tw5_57 tw5_59 tp2_11 tw1_10 tw5_60) rfl rfl rfl (by decide +kernel) ⟨Nat.le_of_ble_eq_true rfl, Nat.le_of_ble_eq_true rfl⟩) (nb_preV hK hZ hZo hW (k := 0) rfl rfl) rfl rfl hl.1 rfl (lv_room (Nat.le_of_ble_eq_true rfl)) dX8_lay_298 ⟨Nat.zero_le _, Nat.zero_le _⟩) (fun H locs hW => ?_)
            refine lv_aload_n hx hb dX8_lay_301 rfl (lv_at hl 0 rfl) ?_
            refine lv_iconst (v := (0 : Int32)) hx hb dX8_lay_302 (by decide) ?_
            obtain ⟨σ44, eσ44, hf⟩ := nb_let_e hf
            refine nb_put (C := RX8) (T := TX8) (N := 40) hx hb hts inT_X8 hown hK tyX8 tyX8_ok nmX8 hinj hW 0 rfl rfl 24 (by decide) (hts _ tw4_147) (fun _ h9 => h9) rfl (ty := .int) (by decide +kernel) rfl rfl rfl (x := (0 : Int32)) (by show Value.int _ = _; rw [nb_st_s]) eσ44 dX8_lay_303 (fun H locs hW => ?_)
            refine lv_aload_n hx hb dX8_lay_306 rfl (lv_at hl 0 rfl) ?_
            refine lv_iconst (v := (0 : Int32)) hx hb dX8_lay_307 (by decide) ?_
            obtain ⟨σ45, eσ45, hf⟩ := nb_let_e hf
            refine nb_put (C := RX8) (T := TX8) (N := 40) hx hb hts inT_X8 hown hK tyX8 tyX8_ok nmX8 hinj hW 0 rfl rfl 25 (by decide) (hts _ tw4_148) (fun _ h9 => h9) rfl (ty := .int) (by decide +kernel) rfl rfl rfl (x := (0 : Int32)) (by show Value.int _ = _; rw [nb_st_s]) eσ45 dX8_lay_308 (fun H locs hW => ?_)
            refine lv_aload_n hx hb dX8_lay_311 rfl (lv_at hl 0 rfl) ?_
            refine nb_get (C := RX8) (T := TX8) (N := 40) hx hb hts inT_X8 hown hK hW 0 rfl rfl 2 (by decide) (hts _ tw4_125) (fun _ h9 => h9) rfl (v := .ref (G.2.1 2)) rfl dX8_lay_312 ?_
            refine lv_iconst (v := (0 : Int32)) hx hb dX8_lay_315 (by decide) ?_
            obtain ⟨g46, hf⟩ := nb_g_e hf
            refine nb_iald hx hb hK hW 2 rfl g46 dX8_lay_316 ?_
            exact nb_ri hx hb hr hlocks hK hZ hZo hW  hf dX8_lay_317
          · rw [if_neg c41] at hf
            refine lv_aload_n hx hb dX8_lay_244 rfl (lv_at hl 0 rfl) ?_
            refine nb_get (C := RX8) (T := TX8) (N := 40) hx hb hts inT_X8 hown hK hW 0 rfl rfl 16 (by decide) (hts _ tw4_139) (fun _ h9 => h9) rfl (v := .ref (G.2.1 16)) rfl dX8_lay_245 ?_
            refine lv_iload_n hx hb dX8_lay_248 rfl (lv_at hl 1 rfl) ?_
            refine lv_aload_n hx hb dX8_lay_249 rfl (lv_at hl 0 rfl) ?_
            refine nb_get (C := RX8) (T := TX8) (N := 40) hx hb hts inT_X8 hown hK hW 0 rfl rfl 16 (by decide) (hts _ tw4_139) (fun _ h9 => h9) rfl (v := .ref (G.2.1 16)) rfl dX8_lay_250 ?_
            refine lv_bipush (v := (6 : Int32)) hx hb dX8_lay_253 (by decide) ?_
            refine lv_iload_n hx hb dX8_lay_255 rfl (lv_at hl 1 rfl) ?_
            refine lv_iadd hx hb dX8_lay_256 ?_
            obtain ⟨g47, hf⟩ := nb_g_e hf
            refine nb_iald hx hb hK hW 16 rfl g47 dX8_lay_257 ?_
            obtain ⟨g48, hf⟩ := nb_g_e hf
            obtain ⟨σ49, eσ49, hf⟩ := nb_let_e hf
            refine nb_iast hx hb hK hinj hW 16 rfl g48 eσ49 dX8_lay_258 (fun H locs hW => ?_)
            refine lv_aload_n hx hb dX8_lay_259 rfl (lv_at hl 0 rfl) ?_
            refine nb_get (C := RX8) (T := TX8) (N := 40) hx hb hts inT_X8 hown hK hW 0 rfl rfl 17 (by decide) (hts _ tw4_140) (fun _ h9 => h9) rfl (v := .ref (G.2.1 17)) rfl dX8_lay_260 ?_
            refine lv_iload_n hx hb dX8_lay_263 rfl (lv_at hl 1 rfl) ?_
            refine lv_aload_n hx hb dX8_lay_264 rfl (lv_at hl 0 rfl) ?_
            refine nb_get (C := RX8) (T := TX8) (N := 40) hx hb hts inT_X8 hown hK hW 0 rfl rfl 17 (by decide) (hts _ tw4_140) (fun _ h9 => h9) rfl (v := .ref (G.2.1 17)) rfl dX8_lay_265 ?_
            refine lv_bipush (v := (6 : Int32)) hx hb dX8_lay_268 (by decide) ?_
            refine lv_iload_n hx hb dX8_lay_270 rfl (lv_at hl 1 rfl) ?_
            refine lv_iadd hx hb dX8_lay_271 ?_
            obtain ⟨g50, hf⟩ := nb_g_e hf
            refine nb_iald hx hb hK hW 17 rfl g50 dX8_lay_272 ?_
            obtain ⟨g51, hf⟩ := nb_g_e hf
            obtain ⟨σ52, eσ52, hf⟩ := nb_let_e hf
            refine nb_iast hx hb hK hinj hW 17 rfl g51 eσ52 dX8_lay_273 (fun H locs hW => ?_)
            refine lv_aload_n hx hb dX8_lay_274 rfl (lv_at hl 0 rfl) ?_
            refine nb_get (C := RX8) (T := TX8) (N := 40) hx hb hts inT_X8 hown hK hW 0 rfl rfl 18 (by decide) (hts _ tw4_141) (fun _ h9 => h9) rfl (v := .ref (G.2.1 18)) rfl dX8_lay_275 ?_
            refine lv_iload_n hx hb dX8_lay_278 rfl (lv_at hl 1 rfl) ?_
            refine lv_aload_n hx hb dX8_lay_279 rfl (lv_at hl 0 rfl) ?_
            refine nb_get (C := RX8) (T := TX8) (N := 40) hx hb hts inT_X8 hown hK hW 0 rfl rfl 18 (by decide) (hts _ tw4_141) (fun _ h9 => h9) rfl (v := .ref (G.2.1 18)) rfl dX8_lay_280 ?_
            refine lv_bipush (v := (6 : Int32)) hx hb dX8_lay_283 (by decide) ?_
            refine lv_iload_n hx hb dX8_lay_285 rfl (lv_at hl 1 rfl) ?_
            refine lv_iadd hx hb dX8_lay_286 ?_
            obtain ⟨g53, hf⟩ := nb_g_e hf
            refine nb_iald hx hb hK hW 18 rfl g53 dX8_lay_287 ?_
            obtain ⟨g54, hf⟩ := nb_g_e hf
            obtain ⟨σ55, eσ55, hf⟩ := nb_let_e hf
            refine nb_iast hx hb hK hinj hW 18 rfl g54 eσ55 dX8_lay_288 (fun H locs hW => ?_)
            refine lv_iinc (v := (x37 + 1)) (lv' := [(1, .int (x37 + 1)), (0, .ref (G.2.1 0))]) hx hb dX8_lay_289 hl (k := 1) rfl rfl (by decide) rfl (fun ls hl => ?_)
            refine lv_goto (tgt := 238) hx hb dX8_lay_292 (by decide) ?_
            exact ih40 _ _ hf _ _ _ hW (lv_sub hl [1, 0] rfl)
        · rw [if_neg c36] at hf
          refine lv_aload_n hx hb dX8_lay_174 rfl (lv_at hl 0 rfl) ?_
          refine nb_get (C := RX8) (T := TX8) (N := 40) hx hb hts inT_X8 hown hK hW 0 rfl rfl 8 (by decide) (hts _ tw4_131) (fun _ h9 => h9) rfl (v := .ref (G.2.1 8)) rfl dX8_lay_175 ?_
          refine lv_iload_n hx hb dX8_lay_178 rfl (lv_at hl 1 rfl) ?_
          refine lv_aload_n hx hb dX8_lay_179 rfl (lv_at hl 0 rfl) ?_
          refine nb_get (C := RX8) (T := TX8) (N := 40) hx hb hts inT_X8 hown hK hW 0 rfl rfl 8 (by decide) (hts _ tw4_131) (fun _ h9 => h9) rfl (v := .ref (G.2.1 8)) rfl dX8_lay_180 ?_
          refine lv_iconst (v := (3 : Int32)) hx hb dX8_lay_183 (by decide) ?_
          refine lv_iload_n hx hb dX8_lay_184 rfl (lv_at hl 1 rfl) ?_
          refine lv_iadd hx hb dX8_lay_185 ?_
          obtain ⟨g56, hf⟩ := nb_g_e hf
          refine nb_iald hx hb hK hW 8 rfl g56 dX8_lay_186 ?_
          obtain ⟨g57, hf⟩ := nb_g_e hf
          obtain ⟨σ58, eσ58, hf⟩ := nb_let_e hf
          refine nb_iast hx hb hK hinj hW 8 rfl g57 eσ58 dX8_lay_187 (fun H locs hW => ?_)
          refine lv_aload_n hx hb dX8_lay_188 rfl (lv_at hl 0 rfl) ?_
          refine nb_get (C := RX8) (T := TX8) (N := 40) hx hb hts inT_X8 hown hK hW 0 rfl rfl 9 (by decide) (hts _ tw4_132) (fun _ h9 => h9) rfl (v := .ref (G.2.1 9)) rfl dX8_lay_189 ?_
          refine lv_iload_n hx hb dX8_lay_192 rfl (lv_at hl 1 rfl) ?_
          refine lv_aload_n hx hb dX8_lay_193 rfl (lv_at hl 0 rfl) ?_
          refine nb_get (C := RX8) (T := TX8) (N := 40) hx hb hts inT_X8 hown hK hW 0 rfl rfl 9 (by decide) (hts _ tw4_132) (fun _ h9 => h9) rfl (v := .ref (G.2.1 9)) rfl dX8_lay_194 ?_
          refine lv_iconst (v := (3 : Int32)) hx hb dX8_lay_197 (by decide) ?_
          refine lv_iload_n hx hb dX8_lay_198 rfl (lv_at hl 1 rfl) ?_
          refine lv_iadd hx hb dX8_lay_199 ?_
          obtain ⟨g59, hf⟩ := nb_g_e hf
          refine nb_iald hx hb hK hW 9 rfl g59 dX8_lay_200 ?_
          obtain ⟨g60, hf⟩ := nb_g_e hf
          obtain ⟨σ61, eσ61, hf⟩ := nb_let_e hf
          refine nb_iast hx hb hK hinj hW 9 rfl g60 eσ61 dX8_lay_201 (fun H locs hW => ?_)
          refine lv_aload_n hx hb dX8_lay_202 rfl (lv_at hl 0 rfl) ?_
          refine nb_get (C := RX8) (T := TX8) (N := 40) hx hb hts inT_X8 hown hK hW 0 rfl rfl 13 (by decide) (hts _ tw4_136) (fun _ h9 => h9) rfl (v := .ref (G.2.1 13)) rfl dX8_lay_203 ?_
          refine lv_iload_n hx hb dX8_lay_206 rfl (lv_at hl 1 rfl) ?_
          refine lv_aload_n hx hb dX8_lay_207 rfl (lv_at hl 0 rfl) ?_
          refine nb_get (C := RX8) (T := TX8) (N := 40) hx hb hts inT_X8 hown hK hW 0 rfl rfl 13 (by decide) (hts _ tw4_136) (fun _ h9 => h9) rfl (v := .ref (G.2.1 13)) rfl dX8_lay_208 ?_
          refine lv_iconst (v := (3 : Int32)) hx hb dX8_lay_211 (by decide) ?_
          refine lv_iload_n hx hb dX8_lay_212 rfl (lv_at hl 1 rfl) ?_
          refine lv_iadd hx hb dX8_lay_213 ?_
          obtain ⟨g62, hf⟩ := nb_g_e hf
          refine nb_iald hx hb hK hW 13 rfl g62 dX8_lay_214 ?_
          obtain ⟨g63, hf⟩ := nb_g_e hf
          obtain ⟨σ64, eσ64, hf⟩ := nb_let_e hf
          refine nb_iast hx hb hK hinj hW 13 rfl g63 eσ64 dX8_lay_215 (fun H locs hW => ?_)
          refine lv_aload_n hx hb dX8_lay_216 rfl (lv_at hl 0 rfl) ?_
          refine nb_get (C := RX8) (T := TX8) (N := 40) hx hb hts inT_X8 hown hK hW 0 rfl rfl 14 (by decide) (hts _ tw4_137) (fun _ h9 => h9) rfl (v := .ref (G.2.1 14)) rfl dX8_lay_217 ?_
          refine lv_iload_n hx hb dX8_lay_220 rfl (lv_at hl 1 rfl) ?_
          refine lv_aload_n hx hb dX8_lay_221 rfl (lv_at hl 0 rfl) ?_
          refine nb_get (C := RX8) (T := TX8) (N := 40) hx hb hts inT_X8 hown hK hW 0 rfl rfl 14 (by decide) (hts _ tw4_137) (fun _ h9 => h9) rfl (v := .ref (G.2.1 14)) rfl dX8_lay_222 ?_
          refine lv_iconst (v := (3 : Int32)) hx hb dX8_lay_225 (by decide) ?_
          refine lv_iload_n hx hb dX8_lay_226 rfl (lv_at hl 1 rfl) ?_
          refine lv_iadd hx hb dX8_lay_227 ?_
          obtain ⟨g65, hf⟩ := nb_g_e hf
          refine nb_iald hx hb hK hW 14 rfl g65 dX8_lay_228 ?_
          obtain ⟨g66, hf⟩ := nb_g_e hf
          obtain ⟨σ67, eσ67, hf⟩ := nb_let_e hf
          refine nb_iast hx hb hK hinj hW 14 rfl g66 eσ67 dX8_lay_229 (fun H locs hW => ?_)
          refine lv_iinc (v := (x32 + 1)) (lv' := [(1, .int (x32 + 1)), (0, .ref (G.2.1 0))]) hx hb dX8_lay_230 hl (k := 1) rfl rfl (by decide) rfl (fun ls hl => ?_)
          refine lv_goto (tgt := 169) hx hb dX8_lay_233 (by decide) ?_
          exact ih35 _ _ hf _ _ _ hW (lv_sub hl [1, 0] rfl)
      · rw [if_neg c31] at hf
        refine lv_aload_n hx hb dX8_lay_101 rfl (lv_at hl 0 rfl) ?_
        refine nb_get (C := RX8) (T := TX8) (N := 40) hx hb hts inT_X8 hown hK hW 0 rfl rfl 3 (by decide) (hts _ tw4_126) (fun _ h9 => h9) rfl (v := .ref (G.2.1 3)) rfl dX8_lay_102 ?_
        refine lv_iload_n hx hb dX8_lay_105 rfl (lv_at hl 1 rfl) ?_
        refine lv_aload_n hx hb dX8_lay_106 rfl (lv_at hl 0 rfl) ?_
        refine nb_get (C := RX8) (T := TX8) (N := 40) hx hb hts inT_X8 hown hK hW 0 rfl rfl 3 (by decide) (hts _ tw4_126) (fun _ h9 => h9) rfl (v := .ref (G.2.1 3)) rfl dX8_lay_107 ?_
        refine lv_bipush (v := (8 : Int32)) hx hb dX8_lay_110 (by decide) ?_
        refine lv_iload_n hx hb dX8_lay_112 rfl (lv_at hl 1 rfl) ?_
        refine lv_iadd hx hb dX8_lay_113 ?_
        obtain ⟨g68, hf⟩ := nb_g_e hf
        refine nb_iald hx hb hK hW 3 rfl g68 dX8_lay_114 ?_
        obtain ⟨g69, hf⟩ := nb_g_e hf
        obtain ⟨σ70, eσ70, hf⟩ := nb_let_e hf
        refine nb_iast hx hb hK hinj hW 3 rfl g69 eσ70 dX8_lay_115 (fun H locs hW => ?_)
        refine lv_aload_n hx hb dX8_lay_116 rfl (lv_at hl 0 rfl) ?_
        refine nb_get (C := RX8) (T := TX8) (N := 40) hx hb hts inT_X8 hown hK hW 0 rfl rfl 4 (by decide) (hts _ tw4_127) (fun _ h9 => h9) rfl (v := .ref (G.2.1 4)) rfl dX8_lay_117 ?_
        refine lv_iload_n hx hb dX8_lay_120 rfl (lv_at hl 1 rfl) ?_
        refine lv_aload_n hx hb dX8_lay_121 rfl (lv_at hl 0 rfl) ?_
        refine nb_get (C := RX8) (T := TX8) (N := 40) hx hb hts inT_X8 hown hK hW 0 rfl rfl 4 (by decide) (hts _ tw4_127) (fun _ h9 => h9) rfl (v := .ref (G.2.1 4)) rfl dX8_lay_122 ?_
        refine lv_bipush (v := (8 : Int32)) hx hb dX8_lay_125 (by decide) ?_
        refine lv_iload_n hx hb dX8_lay_127 rfl (lv_at hl 1 rfl) ?_
        refine lv_iadd hx hb dX8_lay_128 ?_
        obtain ⟨g71, hf⟩ := nb_g_e hf
        refine nb_iald hx hb hK hW 4 rfl g71 dX8_lay_129 ?_
        obtain ⟨g72, hf⟩ := nb_g_e hf
        obtain ⟨σ73, eσ73, hf⟩ := nb_let_e hf
        refine nb_iast hx hb hK hinj hW 4 rfl g72 eσ73 dX8_lay_130 (fun H locs hW => ?_)
        refine lv_aload_n hx hb dX8_lay_131 rfl (lv_at hl 0 rfl) ?_
        refine nb_get (C := RX8) (T := TX8) (N := 40) hx hb hts inT_X8 hown hK hW 0 rfl rfl 5 (by decide) (hts _ tw4_128) (fun _ h9 => h9) rfl (v := .ref (G.2.1 5)) rfl dX8_lay_132 ?_
        refine lv_iload_n hx hb dX8_lay_135 rfl (lv_at hl 1 rfl) ?_
        refine lv_aload_n hx hb dX8_lay_136 rfl (lv_at hl 0 rfl) ?_
        refine nb_get (C := RX8) (T := TX8) (N := 40) hx hb hts inT_X8 hown hK hW 0 rfl rfl 5 (by decide) (hts _ tw4_128) (fun _ h9 => h9) rfl (v := .ref (G.2.1 5)) rfl dX8_lay_137 ?_
        refine lv_bipush (v := (8 : Int32)) hx hb dX8_lay_140 (by decide) ?_
        refine lv_iload_n hx hb dX8_lay_142 rfl (lv_at hl 1 rfl) ?_
        refine lv_iadd hx hb dX8_lay_143 ?_
        obtain ⟨g74, hf⟩ := nb_g_e hf
        refine nb_iald hx hb hK hW 5 rfl g74 dX8_lay_144 ?_
        obtain ⟨g75, hf⟩ := nb_g_e hf
        obtain ⟨σ76, eσ76, hf⟩ := nb_let_e hf
        refine nb_iast hx hb hK hinj hW 5 rfl g75 eσ76 dX8_lay_145 (fun H locs hW => ?_)
        refine lv_aload_n hx hb dX8_lay_146 rfl (lv_at hl 0 rfl) ?_
        refine nb_get (C := RX8) (T := TX8) (N := 40) hx hb hts inT_X8 hown hK hW 0 rfl rfl 6 (by decide) (hts _ tw4_129) (fun _ h9 => h9) rfl (v := .ref (G.2.1 6)) rfl dX8_lay_147 ?_
        refine lv_iload_n hx hb dX8_lay_150 rfl (lv_at hl 1 rfl) ?_
        refine lv_aload_n hx hb dX8_lay_151 rfl (lv_at hl 0 rfl) ?_
        refine nb_get (C := RX8) (T := TX8) (N := 40) hx hb hts inT_X8 hown hK hW 0 rfl rfl 6 (by decide) (hts _ tw4_129) (fun _ h9 => h9) rfl (v := .ref (G.2.1 6)) rfl dX8_lay_152 ?_
        refine lv_bipush (v := (8 : Int32)) hx hb dX8_lay_155 (by decide) ?_
        refine lv_iload_n hx hb dX8_lay_157 rfl (lv_at hl 1 rfl) ?_
        refine lv_iadd hx hb dX8_lay_158 ?_
        obtain ⟨g77, hf⟩ := nb_g_e hf
        refine nb_iald hx hb hK hW 6 rfl g77 dX8_lay_159 ?_
        obtain ⟨g78, hf⟩ := nb_g_e hf
        obtain ⟨σ79, eσ79, hf⟩ := nb_let_e hf
        refine nb_iast hx hb hK hinj hW 6 rfl g78 eσ79 dX8_lay_160 (fun H locs hW => ?_)
        refine lv_iinc (v := (x27 + 1)) (lv' := [(1, .int (x27 + 1)), (0, .ref (G.2.1 0))]) hx hb dX8_lay_161 hl (k := 1) rfl rfl (by decide) rfl (fun ls hl => ?_)
        refine lv_goto (tgt := 95) hx hb dX8_lay_164 (by decide) ?_
        exact ih30 _ _ hf _ _ _ hW (lv_sub hl [1, 0] rfl)
    · rw [if_pos c8] at hf
      exact w5 ()  _ _ _ hf hW (lv_sub hl [] rfl)
def fX8_isGuest (N : Nat) (σ : nb_St) (a0 : Int32) : Option Int32 :=
  nb_g (nb_in (0 : Int32) 2) (
  nb_b (fX8_in N σ ((a0).toInt64) (0 : Int64) ((((σ 2 (nb_ix (0 : Int32))) - (1 : Int32))).toInt64)) fun r3 =>
  nb_g (nb_01 r3) (
  some r3))
def rmX8_isGuest : Room := { frames := 1, cells := 0, slots := 0, locals := 25 }
def vsX8_isGuest : List Cond := .code yX8_isGuest cX8_isGuest 2 (some .boolean) :: xT
set_option maxHeartbeats 4000000 in
set_option maxRecDepth 100000 in
theorem c_X8_isGuest (l : Launch) {G : nb_G} {Z : State → Heap → Prop} (hinj : nb_inj xm_sh G.2.1) (hZo : nb_Zok (nb_A xm_sh G.2.1) Z) {N : Nat} {σ : nb_St} {a0 : Int32} {ro : Int32} (hf : fX8_isGuest N σ a0 = some ro)  : Met l yX8_isGuest vsX8_isGuest rmX8_isGuest (nb_Pc G xm_sh Z σ [.ref (G.2.1 0), .int a0]) (nb_Qi G xm_sh Z ro σ) 0 0 (nb_A xm_sh G.2.1) := by
  refine Met.ofW (cc := cX8_isGuest) (maxL := 2) (ret := (some .boolean)) (by decide) rfl ?_
  intro p e s m args below meth c s₁ B hml hv
  obtain ⟨rfl, hP, hK, hZ⟩ := hv
  have hx := B.exec
  have hb := B.bytes
  have hr := B.returns
  have hts : ∀ w ∈ xT, w.before _ s = true := fun w h9 => atoms_spec (ws := vsX8_isGuest) B.pre w (List.mem_cons_of_mem _ h9)
  have hown : s.vm.findClass RX8 = some m.cls := findClass_of_methodNamed B.named
  have hlocks := B.notSynchronized
  have hW : nb_W G xm_sh s.heap σ s.heap [] := ⟨hP, va_S.rf⟩
  have hl := lv_entry ([.ref (G.2.1 0), .int a0]) (n := 2) (Nat.le_of_ble_eq_true rfl)
  rw [lg_entry_eq]
  generalize (lg_sl ([.ref (G.2.1 0), .int a0]) ++ List.replicate (2 - (lg_sl ([.ref (G.2.1 0), .int a0])).length) Slot.unset).toArray = ls at hl ⊢
  have hl : lv_has ls 2 [(0, .ref (G.2.1 0)), (1, .int a0)] := hl
  show W p l e rmX8_isGuest s m ([.ref (G.2.1 0), .int a0]).toArray below meth c s.heap [] 0 0 (MQ below (nb_Qi G xm_sh Z ro σ) ([.ref (G.2.1 0), .int a0]).toArray s 0 0 (nb_A xm_sh G.2.1)) (F0 m 0 ls [])
  generalize hargs : ([.ref (G.2.1 0), .int a0] : List Value).toArray = args at hts ⊢
  unfold fX8_isGuest at hf
  obtain ⟨H, eH⟩ : ∃ H, H = s.heap := ⟨_, rfl⟩
  obtain ⟨locs, eL⟩ : ∃ L : List Loc, L = [] := ⟨_, rfl⟩
  have hW : nb_W G xm_sh s.heap σ H locs := by rw [eH, eL]; exact hW
  suffices hgo : W p l e rmX8_isGuest s m args below meth c H locs 0 0 (MQ below (nb_Qi G xm_sh Z ro σ) args s 0 0 (nb_A xm_sh G.2.1)) (F0 m 0 ls []) by rw [eH, eL] at hgo; exact hgo
  clear eH eL
  refine lv_iload_n hx hb dX8_isGuest_0 rfl (lv_at hl 1 rfl) ?_
  refine lv_i2l hx hb dX8_isGuest_1 rfl ?_
  refine lv_lconst (v := (0 : Int64)) hx hb dX8_isGuest_2 (by decide) ?_
  refine lv_aload_n hx hb dX8_isGuest_3 rfl (lv_at hl 0 rfl) ?_
  refine nb_get (C := RX8) (T := TX8) (N := 40) hx hb hts inT_X8 hown hK hW 0 rfl rfl 2 (by decide) (hts _ tw4_125) (fun _ h9 => h9) rfl (v := .ref (G.2.1 2)) rfl dX8_isGuest_4 ?_
  refine lv_iconst (v := (0 : Int32)) hx hb dX8_isGuest_7 (by decide) ?_
  obtain ⟨g1, hf⟩ := nb_g_e hf
  refine nb_iald hx hb hK hW 2 rfl g1 dX8_isGuest_8 ?_
  refine lv_iconst (v := (1 : Int32)) hx hb dX8_isGuest_9 (by decide) ?_
  refine lv_isub hx hb dX8_isGuest_10 ?_
  refine lv_i2l hx hb dX8_isGuest_11 rfl ?_
  obtain ⟨r3, hc2, hf⟩ := nb_b_e hf
  refine nb_ci hW (va_runS (As := [.long ((a0).toInt64), .long (0 : Int64), .long ((((σ 2 (nb_ix (0 : Int32))) - (1 : Int32))).toInt64)]) (rest := []) ⟨hx, hb, hml, hown, hts⟩ (c_X8_in l hinj hZo (N := N) hc2 ) (va_cwS 3 hts (xg_S tw5_9 tw5_10 tw1_10 tw5_11) rfl rfl rfl (by decide +kernel) ⟨Nat.le_of_ble_eq_true rfl, Nat.le_of_ble_eq_true rfl⟩) (nb_preS hK hZ hZo hW) rfl rfl hl.1 rfl (lv_room (Nat.le_of_ble_eq_true rfl)) dX8_isGuest_12 ⟨Nat.zero_le _, Nat.zero_le _⟩) (fun H locs hW => ?_)
  obtain ⟨g4, hf⟩ := nb_g_e hf
  exact nb_rzp hx hb hr hlocks hK hZ hZo hW (nb_01_n g4) hf dX8_isGuest_15
def fX8_guest (N : Nat) (σ : nb_St) (a0 : Int32) (a1 : Int32) : Option Int32 :=
  nb_b (fX8_isGuest N σ a0) fun r2 =>
  nb_let (fun (_u : Unit) =>
  some (-1 : Int32)) fun k3 =>
  (if r2 = 0 then
  k3 ()
  else
  nb_b (fX8_in N σ ((a1).toInt64) (0 : Int64) (3 : Int64)) fun r7 =>
  (if r7 = 0 then
  k3 ()
  else
  (if a1 = 0 then
  nb_g (nb_in a0 16) (
  some (σ 3 (nb_ix a0)))
  else
  (if a1 = (1 : Int32) then
  nb_g (nb_in a0 16) (
  some (σ 4 (nb_ix a0)))
  else
  (if a1 = (2 : Int32) then
  nb_g (nb_in a0 16) (
  some (σ 5 (nb_ix a0)))
  else
  nb_g (nb_in a0 16) (
  some (σ 6 (nb_ix a0))))))))
def rmX8_guest : Room := { frames := 2, cells := 0, slots := 0, locals := 46 }
def vsX8_guest : List Cond := .code yX8_guest cX8_guest 3 (some .int) :: xT
set_option maxHeartbeats 4000000 in
set_option maxRecDepth 100000 in
theorem c_X8_guest (l : Launch) {G : nb_G} {Z : State → Heap → Prop} (hinj : nb_inj xm_sh G.2.1) (hZo : nb_Zok (nb_A xm_sh G.2.1) Z) {N : Nat} {σ : nb_St} {a0 : Int32} {a1 : Int32} {ro : Int32} (hf : fX8_guest N σ a0 a1 = some ro)  : Met l yX8_guest vsX8_guest rmX8_guest (nb_Pc G xm_sh Z σ [.ref (G.2.1 0), .int a0, .int a1]) (nb_Qi G xm_sh Z ro σ) 0 0 (nb_A xm_sh G.2.1) := by
  refine Met.ofW (cc := cX8_guest) (maxL := 3) (ret := (some .int)) (by decide) rfl ?_
  intro p e s m args below meth c s₁ B hml hv
  obtain ⟨rfl, hP, hK, hZ⟩ := hv
  have hx := B.exec
  have hb := B.bytes
  have hr := B.returns
  have hts : ∀ w ∈ xT, w.before _ s = true := fun w h9 => atoms_spec (ws := vsX8_guest) B.pre w (List.mem_cons_of_mem _ h9)
  have hown : s.vm.findClass RX8 = some m.cls := findClass_of_methodNamed B.named
  have hlocks := B.notSynchronized
  have hW : nb_W G xm_sh s.heap σ s.heap [] := ⟨hP, va_S.rf⟩
  have hl := lv_entry ([.ref (G.2.1 0), .int a0, .int a1]) (n := 3) (Nat.le_of_ble_eq_true rfl)
  rw [lg_entry_eq]
  generalize (lg_sl ([.ref (G.2.1 0), .int a0, .int a1]) ++ List.replicate (3 - (lg_sl ([.ref (G.2.1 0), .int a0, .int a1])).length) Slot.unset).toArray = ls at hl ⊢
  have hl : lv_has ls 3 [(0, .ref (G.2.1 0)), (1, .int a0), (2, .int a1)] := hl
  show W p l e rmX8_guest s m ([.ref (G.2.1 0), .int a0, .int a1]).toArray below meth c s.heap [] 0 0 (MQ below (nb_Qi G xm_sh Z ro σ) ([.ref (G.2.1 0), .int a0, .int a1]).toArray s 0 0 (nb_A xm_sh G.2.1)) (F0 m 0 ls [])
  generalize hargs : ([.ref (G.2.1 0), .int a0, .int a1] : List Value).toArray = args at hts ⊢
  unfold fX8_guest at hf
  obtain ⟨H, eH⟩ : ∃ H, H = s.heap := ⟨_, rfl⟩
  obtain ⟨locs, eL⟩ : ∃ L : List Loc, L = [] := ⟨_, rfl⟩
  have hW : nb_W G xm_sh s.heap σ H locs := by rw [eH, eL]; exact hW
  suffices hgo : W p l e rmX8_guest s m args below meth c H locs 0 0 (MQ below (nb_Qi G xm_sh Z ro σ) args s 0 0 (nb_A xm_sh G.2.1)) (F0 m 0 ls []) by rw [eH, eL] at hgo; exact hgo
  clear eH eL
  refine lv_aload_n hx hb dX8_guest_0 rfl (lv_at hl 0 rfl) ?_
  refine lv_iload_n hx hb dX8_guest_1 rfl (lv_at hl 1 rfl) ?_
  obtain ⟨r2, hc1, hf⟩ := nb_b_e hf
  refine nb_ci hW (va_runV (As := [.int a0]) (rest := []) ⟨hx, hb, hml, hown, hts⟩ (c_X8_isGuest l hinj hZo (N := N) hc1 ) (cwV 1 hts (xg_V tw5_65 tw5_67 tp2_12 tw1_10 tw5_68) rfl rfl rfl (by decide +kernel) ⟨Nat.le_of_ble_eq_true rfl, Nat.le_of_ble_eq_true rfl⟩) (nb_preV hK hZ hZo hW (k := 0) rfl rfl) rfl rfl hl.1 rfl (lv_room (Nat.le_of_ble_eq_true rfl)) dX8_guest_2 ⟨Nat.zero_le _, Nat.zero_le _⟩) (fun H locs hW => ?_)
  obtain ⟨k3, ek3, hf⟩ := nb_let_e hf
  have w4 : ∀ (_u : Unit) (H : Heap) (locs : List Loc) (ls : Array Slot), k3 _u = some ro → nb_W G xm_sh s.heap σ H locs → lv_has ls 3 [] → W p l e rmX8_guest s m args below meth c H locs 0 0 (MQ below (nb_Qi G xm_sh Z ro σ) args s 0 0 (nb_A xm_sh G.2.1)) (F0 m 20 ls []) := by
    intro _u H locs ls hf hW hl
    have hf := (congrFun ek3 _u).symm.trans hf
    refine lv_iconst (v := (-1 : Int32)) hx hb dX8_guest_20 (by decide) ?_
    exact nb_rip hx hb hr hlocks hK hZ hZo hW  hf dX8_guest_21
  clear ek3
  refine lv_if_eq (tgt := 20) hx hb dX8_guest_5 (by decide) (fun c5 => ?_) (fun c5 => ?_)
  · rw [if_pos c5] at hf
    exact w4 ()  _ _ _ hf hW (lv_sub hl [] rfl)
  · rw [if_neg c5] at hf
    refine lv_iload_n hx hb dX8_guest_8 rfl (lv_at hl 2 rfl) ?_
    refine lv_i2l hx hb dX8_guest_9 rfl ?_
    refine lv_lconst (v := (0 : Int64)) hx hb dX8_guest_10 (by decide) ?_
    refine lv_ldc2 (own := RX8) (v := (3 : Int64)) hx hb hown (hts _ tw5_43) dX8_guest_11 ?_
    obtain ⟨r7, hc6, hf⟩ := nb_b_e hf
    refine nb_ci hW (va_runS (As := [.long ((a1).toInt64), .long (0 : Int64), .long (3 : Int64)]) (rest := []) ⟨hx, hb, hml, hown, hts⟩ (c_X8_in l hinj hZo (N := N) hc6 ) (va_cwS 3 hts (xg_S tw5_9 tw5_10 tw1_10 tw5_11) rfl rfl rfl (by decide +kernel) ⟨Nat.le_of_ble_eq_true rfl, Nat.le_of_ble_eq_true rfl⟩) (nb_preS hK hZ hZo hW) rfl rfl hl.1 rfl (lv_room (Nat.le_of_ble_eq_true rfl)) dX8_guest_14 ⟨Nat.zero_le _, Nat.zero_le _⟩) (fun H locs hW => ?_)
    refine lv_if_ne (tgt := 22) hx hb dX8_guest_17 (by decide) (fun c8 => ?_) (fun c8 => ?_)
    · rw [if_neg c8] at hf
      refine lv_iload_n hx hb dX8_guest_22 rfl (lv_at hl 2 rfl) ?_
      refine lv_if_ne (tgt := 35) hx hb dX8_guest_23 (by decide) (fun c9 => ?_) (fun c9 => ?_)
      · rw [if_neg c9] at hf
        refine lv_iload_n hx hb dX8_guest_35 rfl (lv_at hl 2 rfl) ?_
        refine lv_iconst (v := (1 : Int32)) hx hb dX8_guest_36 (by decide) ?_
        refine lv_icmp_ne (tgt := 49) hx hb dX8_guest_37 (by decide) (fun c10 => ?_) (fun c10 => ?_)
        · rw [if_neg c10] at hf
          refine lv_iload_n hx hb dX8_guest_49 rfl (lv_at hl 2 rfl) ?_
          refine lv_iconst (v := (2 : Int32)) hx hb dX8_guest_50 (by decide) ?_
          refine lv_icmp_ne (tgt := 63) hx hb dX8_guest_51 (by decide) (fun c11 => ?_) (fun c11 => ?_)
          · rw [if_neg c11] at hf
            refine lv_aload_n hx hb dX8_guest_63 rfl (lv_at hl 0 rfl) ?_
            refine nb_get (C := RX8) (T := TX8) (N := 40) hx hb hts inT_X8 hown hK hW 0 rfl rfl 6 (by decide) (hts _ tw4_129) (fun _ h9 => h9) rfl (v := .ref (G.2.1 6)) rfl dX8_guest_64 ?_
            refine lv_iload_n hx hb dX8_guest_67 rfl (lv_at hl 1 rfl) ?_
            obtain ⟨g12, hf⟩ := nb_g_e hf
            refine nb_iald hx hb hK hW 6 rfl g12 dX8_guest_68 ?_
            exact nb_rip hx hb hr hlocks hK hZ hZo hW  hf dX8_guest_69
          · rw [if_pos c11] at hf
            refine lv_aload_n hx hb dX8_guest_54 rfl (lv_at hl 0 rfl) ?_
            refine nb_get (C := RX8) (T := TX8) (N := 40) hx hb hts inT_X8 hown hK hW 0 rfl rfl 5 (by decide) (hts _ tw4_128) (fun _ h9 => h9) rfl (v := .ref (G.2.1 5)) rfl dX8_guest_55 ?_
            refine lv_iload_n hx hb dX8_guest_58 rfl (lv_at hl 1 rfl) ?_
            obtain ⟨g13, hf⟩ := nb_g_e hf
            refine nb_iald hx hb hK hW 5 rfl g13 dX8_guest_59 ?_
            refine lv_goto (tgt := 69) hx hb dX8_guest_60 (by decide) ?_
            exact nb_rip hx hb hr hlocks hK hZ hZo hW  hf dX8_guest_69
        · rw [if_pos c10] at hf
          refine lv_aload_n hx hb dX8_guest_40 rfl (lv_at hl 0 rfl) ?_
          refine nb_get (C := RX8) (T := TX8) (N := 40) hx hb hts inT_X8 hown hK hW 0 rfl rfl 4 (by decide) (hts _ tw4_127) (fun _ h9 => h9) rfl (v := .ref (G.2.1 4)) rfl dX8_guest_41 ?_
          refine lv_iload_n hx hb dX8_guest_44 rfl (lv_at hl 1 rfl) ?_
          obtain ⟨g14, hf⟩ := nb_g_e hf
          refine nb_iald hx hb hK hW 4 rfl g14 dX8_guest_45 ?_
          refine lv_goto (tgt := 69) hx hb dX8_guest_46 (by decide) ?_
          exact nb_rip hx hb hr hlocks hK hZ hZo hW  hf dX8_guest_69
      · rw [if_pos c9] at hf
        refine lv_aload_n hx hb dX8_guest_26 rfl (lv_at hl 0 rfl) ?_
        refine nb_get (C := RX8) (T := TX8) (N := 40) hx hb hts inT_X8 hown hK hW 0 rfl rfl 3 (by decide) (hts _ tw4_126) (fun _ h9 => h9) rfl (v := .ref (G.2.1 3)) rfl dX8_guest_27 ?_
        refine lv_iload_n hx hb dX8_guest_30 rfl (lv_at hl 1 rfl) ?_
        obtain ⟨g15, hf⟩ := nb_g_e hf
        refine nb_iald hx hb hK hW 3 rfl g15 dX8_guest_31 ?_
        refine lv_goto (tgt := 69) hx hb dX8_guest_32 (by decide) ?_
        exact nb_rip hx hb hr hlocks hK hZ hZo hW  hf dX8_guest_69
    · rw [if_pos c8] at hf
      exact w4 ()  _ _ _ hf hW (lv_sub hl [] rfl)
