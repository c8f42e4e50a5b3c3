def fX7_within (N : Nat) (σ : nb_St) (a0 : Int32) (a1 : Int32) (a2 : Int32) : Option Int32 :=
  nb_let (fun (_u : Unit) =>
  some (0 : Int32)) fun k1 =>
  (if a0 < a1 then
  k1 ()
  else
  (if a2 < a0 then
  k1 ()
  else
  some (1 : Int32)))
def rmX7_within : Room := { frames := 0, cells := 0, slots := 0, locals := 0 }
def vsX7_within : List Cond := .code yX7_within cX7_within 3 (some .boolean) :: xT
set_option maxHeartbeats 4000000 in
set_option maxRecDepth 100000 in
theorem c_X7_within (l : Launch) {G : nb_G} {tb : Nat → Nat} (hinj : nb_inj xc_sh G.2.1) (hZo : nb_Zok (nb_A xc_sh G.2.1) (xc_Z (nb_A xc_sh G.2.1) tb)) {N : Nat} {σ : nb_St} {a0 : Int32} {a1 : Int32} {a2 : Int32} {ro : Int32} (hf : fX7_within N σ a0 a1 a2 = some ro)  : Met l yX7_within vsX7_within rmX7_within (nb_Pc G xc_sh (xc_Z (nb_A xc_sh G.2.1) tb) σ [.int a0, .int a1, .int a2]) (nb_Qi G xc_sh (xc_Z (nb_A xc_sh G.2.1) tb) ro σ) 0 0 (nb_A xc_sh G.2.1) := by
  refine Met.ofW (cc := cX7_within) (maxL := 3) (ret := (some .boolean)) (by decide) rfl ?_
  intro p e s m args below meth c s₁ B hml hv
  obtain ⟨rfl, hP, hK, hZ⟩ := hv
  have hx := B.exec
  have hb := B.bytes
  have hr := B.returns
  have hts : ∀ w ∈ xT, w.before _ s = true := fun w h9 => atoms_spec (ws := vsX7_within) B.pre w (List.mem_cons_of_mem _ h9)
  have hown : s.vm.findClass RX7 = some m.cls := findClass_of_methodNamed B.named
  have hlocks := B.notSynchronized
  have hW : nb_W G xc_sh s.heap σ s.heap [] := ⟨hP, va_S.rf⟩
  have hl := lv_entry ([.int a0, .int a1, .int a2]) (n := 3) (Nat.le_of_ble_eq_true rfl)
  rw [lg_entry_eq]
  generalize (lg_sl ([.int a0, .int a1, .int a2]) ++ List.replicate (3 - (lg_sl ([.int a0, .int a1, .int a2])).length) Slot.unset).toArray = ls at hl ⊢
  have hl : lv_has ls 3 [(0, .int a0), (1, .int a1), (2, .int a2)] := hl
  show W p l e rmX7_within s m ([.int a0, .int a1, .int a2]).toArray below meth c s.heap [] 0 0 (MQ below (nb_Qi G xc_sh (xc_Z (nb_A xc_sh G.2.1) tb) ro σ) ([.int a0, .int a1, .int a2]).toArray s 0 0 (nb_A xc_sh G.2.1)) (F0 m 0 ls [])
  generalize hargs : ([.int a0, .int a1, .int a2] : List Value).toArray = args at hts ⊢
  unfold fX7_within at hf
  obtain ⟨H, eH⟩ : ∃ H, H = s.heap := ⟨_, rfl⟩
  obtain ⟨locs, eL⟩ : ∃ L : List Loc, L = [] := ⟨_, rfl⟩
  have hW : nb_W G xc_sh s.heap σ H locs := by rw [eH, eL]; exact hW
  suffices hgo : W p l e rmX7_within s m args below meth c H locs 0 0 (MQ below (nb_Qi G xc_sh (xc_Z (nb_A xc_sh G.2.1) tb) ro σ) args s 0 0 (nb_A xc_sh G.2.1)) (F0 m 0 ls []) by rw [eH, eL] at hgo; exact hgo
  clear eH eL
  refine lv_iload_n hx hb dX7_within_0 rfl (lv_at hl 0 rfl) ?_
  refine lv_iload_n hx hb dX7_within_1 rfl (lv_at hl 1 rfl) ?_
  obtain ⟨k1, ek1, hf⟩ := nb_let_e hf
  have w2 : ∀ (_u : Unit) (H : Heap) (locs : List Loc) (ls : Array Slot), k1 _u = some ro → nb_W G xc_sh s.heap σ H locs → lv_has ls 3 [] → W p l e rmX7_within s m args below meth c H locs 0 0 (MQ below (nb_Qi G xc_sh (xc_Z (nb_A xc_sh G.2.1) tb) ro σ) args s 0 0 (nb_A xc_sh G.2.1)) (F0 m 14 ls []) := by
    intro _u H locs ls hf hW hl
    have hf := (congrFun ek1 _u).symm.trans hf
    refine lv_iconst (v := (0 : Int32)) hx hb dX7_within_14 (by decide) ?_
    exact nb_rzp hx hb hr hlocks hK hZ hZo hW rfl hf dX7_within_15
  clear ek1
  refine lv_icmp_lt (tgt := 14) hx hb dX7_within_2 (by decide) (fun c3 => ?_) (fun c3 => ?_)
  · rw [if_pos c3] at hf
    exact w2 ()  _ _ _ hf hW (lv_sub hl [] rfl)
  · rw [if_neg c3] at hf
    refine lv_iload_n hx hb dX7_within_5 rfl (lv_at hl 0 rfl) ?_
    refine lv_iload_n hx hb dX7_within_6 rfl (lv_at hl 2 rfl) ?_
    refine lv_icmp_gt (tgt := 14) hx hb dX7_within_7 (by decide) (fun c4 => ?_) (fun c4 => ?_)
    · rw [if_pos c4] at hf
      exact w2 ()  _ _ _ hf hW (lv_sub hl [] rfl)
    · rw [if_neg c4] at hf
      refine lv_iconst (v := (1 : Int32)) hx hb dX7_within_10 (by decide) ?_
      refine lv_goto (tgt := 15) hx hb dX7_within_11 (by decide) ?_
      exact nb_rzp hx hb hr hlocks hK hZ hZo hW rfl hf dX7_within_15
def fX6_clear (N : Nat) (σ : nb_St) (p0 : Nat) : Option nb_St :=
  nb_let (nb_st σ p0 0 (0 : Int32)) fun σ1 =>
  nb_let (nb_st σ1 p0 3 (0 : Int32)) fun σ2 =>
  some σ2
def rmX6_clear : Room := { frames := 0, cells := 0, slots := 0, locals := 0 }
def vsX6_clear : List Cond := .code yX6_clear cX6_clear 1 none :: xT
set_option maxHeartbeats 4000000 in
set_option maxRecDepth 100000 in
theorem c_X6_clear (l : Launch) {G : nb_G} {tb : Nat → Nat} (hinj : nb_inj xc_sh G.2.1) (hZo : nb_Zok (nb_A xc_sh G.2.1) (xc_Z (nb_A xc_sh G.2.1) tb)) {N : Nat} {σ : nb_St} {p0 : Nat} {σo : nb_St} (hf : fX6_clear N σ p0 = some σo) (hp0 : xc_tld p0 = true) : Met l yX6_clear vsX6_clear rmX6_clear (nb_Pc G xc_sh (xc_Z (nb_A xc_sh G.2.1) tb) σ [.ref (G.2.1 p0)]) (nb_Qv G xc_sh (xc_Z (nb_A xc_sh G.2.1) tb) σo) 0 0 (nb_A xc_sh G.2.1) := by
  refine Met.ofW (cc := cX6_clear) (maxL := 1) (ret := none) (by decide) rfl ?_
  intro p e s m args below meth c s₁ B hml hv
  obtain ⟨rfl, hP, hK, hZ⟩ := hv
  have hx := B.exec
  have hb := B.bytes
  have hr := B.returns
  have hts : ∀ w ∈ xT, w.before _ s = true := fun w h9 => atoms_spec (ws := vsX6_clear) B.pre w (List.mem_cons_of_mem _ h9)
  have hown : s.vm.findClass RX6 = some m.cls := findClass_of_methodNamed B.named
  have hlocks := B.notSynchronized
  have hW : nb_W G xc_sh s.heap σ s.heap [] := ⟨hP, va_S.rf⟩
  have hl := lv_entry ([.ref (G.2.1 p0)]) (n := 1) (Nat.le_of_ble_eq_true rfl)
  rw [lg_entry_eq]
  generalize (lg_sl ([.ref (G.2.1 p0)]) ++ List.replicate (1 - (lg_sl ([.ref (G.2.1 p0)])).length) Slot.unset).toArray = ls at hl ⊢
  have hl : lv_has ls 1 [(0, .ref (G.2.1 p0))] := hl
  show W p l e rmX6_clear s m ([.ref (G.2.1 p0)]).toArray below meth c s.heap [] 0 0 (MQ below (nb_Qv G xc_sh (xc_Z (nb_A xc_sh G.2.1) tb) σo) ([.ref (G.2.1 p0)]).toArray s 0 0 (nb_A xc_sh G.2.1)) (F0 m 0 ls [])
  generalize hargs : ([.ref (G.2.1 p0)] : List Value).toArray = args at hts ⊢
  unfold fX6_clear at hf
  obtain ⟨H, eH⟩ : ∃ H, H = s.heap := ⟨_, rfl⟩
  obtain ⟨locs, eL⟩ : ∃ L : List Loc, L = [] := ⟨_, rfl⟩
  have hW : nb_W G xc_sh s.heap σ H locs := by rw [eH, eL]; exact hW
  suffices hgo : W p l e rmX6_clear s m args below meth c H locs 0 0 (MQ below (nb_Qv G xc_sh (xc_Z (nb_A xc_sh G.2.1) tb) σo) args s 0 0 (nb_A xc_sh G.2.1)) (F0 m 0 ls []) by rw [eH, eL] at hgo; exact hgo
  clear eH eL
  refine lv_aload_n hx hb dX6_clear_0 rfl (lv_at hl 0 rfl) ?_
  refine lv_iconst (v := (0 : Int32)) hx hb dX6_clear_1 (by decide) ?_
  obtain ⟨σ1, eσ1, hf⟩ := nb_let_e hf
  refine nb_put (C := RX6) (T := TX6) (N := 5) hx hb hts inT_X6 hown hK tyX6 tyX6_ok nmX6 hinj hW p0 (sx_tld_0 hp0) rfl 0 (by decide) (hts _ tw1_53) (fun _ h9 => h9) rfl (ty := .int) (by decide +kernel) rfl rfl rfl (x := (0 : Int32)) (by show Value.int _ = _; rw [nb_st_s]) eσ1 dX6_clear_2 (fun H locs hW => ?_)
  refine lv_aload_n hx hb dX6_clear_5 rfl (lv_at hl 0 rfl) ?_
  refine lv_iconst (v := (0 : Int32)) hx hb dX6_clear_6 (by decide) ?_
  obtain ⟨σ2, eσ2, hf⟩ := nb_let_e hf
  refine nb_put (C := RX6) (T := TX6) (N := 5) hx hb hts inT_X6 hown hK tyX6 tyX6_ok nmX6 hinj hW p0 (sx_tld_0 hp0) rfl 3 (by decide) (hts _ tw1_61) (fun _ h9 => h9) rfl (ty := .int) (by decide +kernel) rfl rfl rfl (x := (0 : Int32)) (by show Value.int _ = _; rw [nb_st_s]) eσ2 dX6_clear_7 (fun H locs hW => ?_)
  exact nb_rv hx hb hr hlocks hK hZ hZo hW hf dX6_clear_10
def fX6_addSign (N : Nat) (σ : nb_St) (p0 : Nat) (a0 : Int32) (a1 : Int32) : Option (Int32 × nb_St) :=
  (if (σ p0 0) < (6 : Int32) then
  nb_g (nb_in (σ p0 0) 6) (
  nb_let (nb_st σ (p0 + 1) (nb_ix (σ p0 0)) a0) fun σ3 =>
  nb_g (nb_in (σ3 p0 0) 6) (
  nb_let (nb_st σ3 (p0 + 2) (nb_ix (σ3 p0 0)) a1) fun σ5 =>
  nb_let (nb_st σ5 p0 0 ((σ5 p0 0) + (1 : Int32))) fun σ6 =>
  some ((1 : Int32), σ6)))
  else
  some ((0 : Int32), σ))
def rmX6_addSign : Room := { frames := 0, cells := 0, slots := 0, locals := 0 }
def vsX6_addSign : List Cond := .code yX6_addSign cX6_addSign 3 (some .boolean) :: xT
set_option maxHeartbeats 4000000 in
set_option maxRecDepth 100000 in
theorem c_X6_addSign (l : Launch) {G : nb_G} {tb : Nat → Nat} (hinj : nb_inj xc_sh G.2.1) (hZo : nb_Zok (nb_A xc_sh G.2.1) (xc_Z (nb_A xc_sh G.2.1) tb)) {N : Nat} {σ : nb_St} {p0 : Nat} {a0 : Int32} {a1 : Int32} {ro : Int32} {σo : nb_St} (hf : fX6_addSign N σ p0 a0 a1 = some (ro, σo)) (hp0 : xc_tld p0 = true) : Met l yX6_addSign vsX6_addSign rmX6_addSign (nb_Pc G xc_sh (xc_Z (nb_A xc_sh G.2.1) tb) σ [.ref (G.2.1 p0), .int a0, .int a1]) (nb_Qi G xc_sh (xc_Z (nb_A xc_sh G.2.1) tb) ro σo) 0 0 (nb_A xc_sh G.2.1) := by
  refine Met.ofW (cc := cX6_addSign) (maxL := 3) (ret := (some .boolean)) (by decide) rfl ?_
  intro p e s m args below meth c s₁ B hml hv
  obtain ⟨rfl, hP, hK, hZ⟩ := hv
  have hx := B.exec
  have hb := B.bytes
  have hr := B.returns
  have hts : ∀ w ∈ xT, w.before _ s = true := fun w h9 => atoms_spec (ws := vsX6_addSign) B.pre w (List.mem_cons_of_mem _ h9)
  have hown : s.vm.findClass RX6 = some m.cls := findClass_of_methodNamed B.named
  have hlocks := B.notSynchronized
  have hW : nb_W G xc_sh s.heap σ s.heap [] := ⟨hP, va_S.rf⟩
  have hl := lv_entry ([.ref (G.2.1 p0), .int a0, .int a1]) (n := 3) (Nat.le_of_ble_eq_true rfl)
  rw [lg_entry_eq]
  generalize (lg_sl ([.ref (G.2.1 p0), .int a0, .int a1]) ++ List.replicate (3 - (lg_sl ([.ref (G.2.1 p0), .int a0, .int a1])).length) Slot.unset).toArray = ls at hl ⊢
  have hl : lv_has ls 3 [(0, .ref (G.2.1 p0)), (1, .int a0), (2, .int a1)] := hl
  show W p l e rmX6_addSign s m ([.ref (G.2.1 p0), .int a0, .int a1]).toArray below meth c s.heap [] 0 0 (MQ below (nb_Qi G xc_sh (xc_Z (nb_A xc_sh G.2.1) tb) ro σo) ([.ref (G.2.1 p0), .int a0, .int a1]).toArray s 0 0 (nb_A xc_sh G.2.1)) (F0 m 0 ls [])
  generalize hargs : ([.ref (G.2.1 p0), .int a0, .int a1] : List Value).toArray = args at hts ⊢
  unfold fX6_addSign at hf
  obtain ⟨H, eH⟩ : ∃ H, H = s.heap := ⟨_, rfl⟩
  obtain ⟨locs, eL⟩ : ∃ L : List Loc, L = [] := ⟨_, rfl⟩
  have hW : nb_W G xc_sh s.heap σ H locs := by rw [eH, eL]; exact hW
  suffices hgo : W p l e rmX6_addSign s m args below meth c H locs 0 0 (MQ below (nb_Qi G xc_sh (xc_Z (nb_A xc_sh G.2.1) tb) ro σo) args s 0 0 (nb_A xc_sh G.2.1)) (F0 m 0 ls []) by rw [eH, eL] at hgo; exact hgo
  clear eH eL
  refine lv_aload_n hx hb dX6_addSign_0 rfl (lv_at hl 0 rfl) ?_
  refine nb_get (C := RX6) (T := TX6) (N := 5) hx hb hts inT_X6 hown hK hW p0 (sx_tld_0 hp0) rfl 0 (by decide) (hts _ tw1_53) (fun _ h9 => h9) rfl (v := .int (σ p0 0)) rfl dX6_addSign_1 ?_
  refine lv_bipush (v := (6 : Int32)) hx hb dX6_addSign_4 (by decide) ?_
  refine lv_icmp_lt (tgt := 11) hx hb dX6_addSign_6 (by decide) (fun c1 => ?_) (fun c1 => ?_)
  · rw [if_pos c1] at hf
    refine lv_aload_n hx hb dX6_addSign_11 rfl (lv_at hl 0 rfl) ?_
    refine nb_get (C := RX6) (T := TX6) (N := 5) hx hb hts inT_X6 hown hK hW p0 (sx_tld_0 hp0) rfl 1 (by decide) (hts _ tw1_57) (fun _ h9 => h9) rfl (v := .ref (G.2.1 (p0 + 1))) rfl dX6_addSign_12 ?_
    refine lv_aload_n hx hb dX6_addSign_15 rfl (lv_at hl 0 rfl) ?_
    refine nb_get (C := RX6) (T := TX6) (N := 5) hx hb hts inT_X6 hown hK hW p0 (sx_tld_0 hp0) rfl 0 (by decide) (hts _ tw1_53) (fun _ h9 => h9) rfl (v := .int (σ p0 0)) rfl dX6_addSign_16 ?_
    refine lv_iload_n hx hb dX6_addSign_19 rfl (lv_at hl 1 rfl) ?_
    obtain ⟨g2, hf⟩ := nb_g_e hf
    obtain ⟨σ3, eσ3, hf⟩ := nb_let_e hf
    refine nb_iast hx hb hK hinj hW (p0 + 1) (sx_tld_1 hp0) g2 eσ3 dX6_addSign_20 (fun H locs hW => ?_)
    refine lv_aload_n hx hb dX6_addSign_21 rfl (lv_at hl 0 rfl) ?_
    refine nb_get (C := RX6) (T := TX6) (N := 5) hx hb hts inT_X6 hown hK hW p0 (sx_tld_0 hp0) rfl 2 (by decide) (hts _ tw1_59) (fun _ h9 => h9) rfl (v := .ref (G.2.1 (p0 + 2))) rfl dX6_addSign_22 ?_
    refine lv_aload_n hx hb dX6_addSign_25 rfl (lv_at hl 0 rfl) ?_
    refine nb_get (C := RX6) (T := TX6) (N := 5) hx hb hts inT_X6 hown hK hW p0 (sx_tld_0 hp0) rfl 0 (by decide) (hts _ tw1_53) (fun _ h9 => h9) rfl (v := .int (σ3 p0 0)) rfl dX6_addSign_26 ?_
    refine lv_iload_n hx hb dX6_addSign_29 rfl (lv_at hl 2 rfl) ?_
    obtain ⟨g4, hf⟩ := nb_g_e hf
    obtain ⟨σ5, eσ5, hf⟩ := nb_let_e hf
    refine nb_iast hx hb hK hinj hW (p0 + 2) (sx_tld_2 hp0) g4 eσ5 dX6_addSign_30 (fun H locs hW => ?_)
    refine lv_aload_n hx hb dX6_addSign_31 rfl (lv_at hl 0 rfl) ?_
    refine lv_dup hx hb dX6_addSign_32 rfl ?_
    refine nb_get (C := RX6) (T := TX6) (N := 5) hx hb hts inT_X6 hown hK hW p0 (sx_tld_0 hp0) rfl 0 (by decide) (hts _ tw1_53) (fun _ h9 => h9) rfl (v := .int (σ5 p0 0)) rfl dX6_addSign_33 ?_
    refine lv_iconst (v := (1 : Int32)) hx hb dX6_addSign_36 (by decide) ?_
    refine lv_iadd hx hb dX6_addSign_37 ?_
    obtain ⟨σ6, eσ6, hf⟩ := nb_let_e hf
    refine nb_put (C := RX6) (T := TX6) (N := 5) hx hb hts inT_X6 hown hK tyX6 tyX6_ok nmX6 hinj hW p0 (sx_tld_0 hp0) rfl 0 (by decide) (hts _ tw1_53) (fun _ h9 => h9) rfl (ty := .int) (by decide +kernel) rfl rfl rfl (x := ((σ5 p0 0) + (1 : Int32))) (by show Value.int _ = _; rw [nb_st_s]) eσ6 dX6_addSign_38 (fun H locs hW => ?_)
    refine lv_iconst (v := (1 : Int32)) hx hb dX6_addSign_41 (by decide) ?_
    exact nb_rz hx hb hr hlocks hK hZ hZo hW rfl hf dX6_addSign_42
  · rw [if_neg c1] at hf
    refine lv_iconst (v := (0 : Int32)) hx hb dX6_addSign_9 (by decide) ?_
    exact nb_rz hx hb hr hlocks hK hZ hZo hW rfl hf dX6_addSign_10
def fX6_addWord (N : Nat) (σ : nb_St) (p0 : Nat) (a0 : Int32) : Option (Int32 × nb_St) :=
  (if (σ p0 3) < (4 : Int32) then
  nb_g (nb_in (σ p0 3) 4) (
  nb_let (nb_st σ (p0 + 3) (nb_ix (σ p0 3)) a0) fun σ3 =>
  nb_let (nb_st σ3 p0 3 ((σ3 p0 3) + (1 : Int32))) fun σ4 =>
  some ((1 : Int32), σ4))
  else
  some ((0 : Int32), σ))
def rmX6_addWord : Room := { frames := 0, cells := 0, slots := 0, locals := 0 }
def vsX6_addWord : List Cond := .code yX6_addWord cX6_addWord 2 (some .boolean) :: xT
set_option maxHeartbeats 4000000 in
set_option maxRecDepth 100000 in
theorem c_X6_addWord (l : Launch) {G : nb_G} {tb : Nat → Nat} (hinj : nb_inj xc_sh G.2.1) (hZo : nb_Zok (nb_A xc_sh G.2.1) (xc_Z (nb_A xc_sh G.2.1) tb)) {N : Nat} {σ : nb_St} {p0 : Nat} {a0 : Int32} {ro : Int32} {σo : nb_St} (hf : fX6_addWord N σ p0 a0 = some (ro, σo)) (hp0 : xc_tld p0 = true) : Met l yX6_addWord vsX6_addWord rmX6_addWord (nb_Pc G xc_sh (xc_Z (nb_A xc_sh G.2.1) tb) σ [.ref (G.2.1 p0), .int a0]) (nb_Qi G xc_sh (xc_Z (nb_A xc_sh G.2.1) tb) ro σo) 0 0 (nb_A xc_sh G.2.1) := by
  refine Met.ofW (cc := cX6_addWord) (maxL := 2) (ret := (some .boolean)) (by decide) rfl ?_
  intro p e s m args below meth c s₁ B hml hv
  obtain ⟨rfl, hP, hK, hZ⟩ := hv
  have hx := B.exec
  have hb := B.bytes
  have hr := B.returns
  have hts : ∀ w ∈ xT, w.before _ s = true := fun w h9 => atoms_spec (ws := vsX6_addWord) B.pre w (List.mem_cons_of_mem _ h9)
  have hown : s.vm.findClass RX6 = some m.cls := findClass_of_methodNamed B.named
  have hlocks := B.notSynchronized
  have hW : nb_W G xc_sh s.heap σ s.heap [] := ⟨hP, va_S.rf⟩
  have hl := lv_entry ([.ref (G.2.1 p0), .int a0]) (n := 2) (Nat.le_of_ble_eq_true rfl)
  rw [lg_entry_eq]
  generalize (lg_sl ([.ref (G.2.1 p0), .int a0]) ++ List.replicate (2 - (lg_sl ([.ref (G.2.1 p0), .int a0])).length) Slot.unset).toArray = ls at hl ⊢
  have hl : lv_has ls 2 [(0, .ref (G.2.1 p0)), (1, .int a0)] := hl
  show W p l e rmX6_addWord s m ([.ref (G.2.1 p0), .int a0]).toArray below meth c s.heap [] 0 0 (MQ below (nb_Qi G xc_sh (xc_Z (nb_A xc_sh G.2.1) tb) ro σo) ([.ref (G.2.1 p0), .int a0]).toArray s 0 0 (nb_A xc_sh G.2.1)) (F0 m 0 ls [])
  generalize hargs : ([.ref (G.2.1 p0), .int a0] : List Value).toArray = args at hts ⊢
  unfold fX6_addWord at hf
  obtain ⟨H, eH⟩ : ∃ H, H = s.heap := ⟨_, rfl⟩
  obtain ⟨locs, eL⟩ : ∃ L : List Loc, L = [] := ⟨_, rfl⟩
  have hW : nb_W G xc_sh s.heap σ H locs := by rw [eH, eL]; exact hW
  suffices hgo : W p l e rmX6_addWord s m args below meth c H locs 0 0 (MQ below (nb_Qi G xc_sh (xc_Z (nb_A xc_sh G.2.1) tb) ro σo) args s 0 0 (nb_A xc_sh G.2.1)) (F0 m 0 ls []) by rw [eH, eL] at hgo; exact hgo
  clear eH eL
  refine lv_aload_n hx hb dX6_addWord_0 rfl (lv_at hl 0 rfl) ?_
  refine nb_get (C := RX6) (T := TX6) (N := 5) hx hb hts inT_X6 hown hK hW p0 (sx_tld_0 hp0) rfl 3 (by decide) (hts _ tw1_61) (fun _ h9 => h9) rfl (v := .int (σ p0 3)) rfl dX6_addWord_1 ?_
  refine lv_iconst (v := (4 : Int32)) hx hb dX6_addWord_4 (by decide) ?_
  refine lv_icmp_lt (tgt := 10) hx hb dX6_addWord_5 (by decide) (fun c1 => ?_) (fun c1 => ?_)
  · rw [if_pos c1] at hf
    refine lv_aload_n hx hb dX6_addWord_10 rfl (lv_at hl 0 rfl) ?_
    refine nb_get (C := RX6) (T := TX6) (N := 5) hx hb hts inT_X6 hown hK hW p0 (sx_tld_0 hp0) rfl 4 (by decide) (hts _ tw1_65) (fun _ h9 => h9) rfl (v := .ref (G.2.1 (p0 + 3))) rfl dX6_addWord_11 ?_
    refine lv_aload_n hx hb dX6_addWord_14 rfl (lv_at hl 0 rfl) ?_
    refine nb_get (C := RX6) (T := TX6) (N := 5) hx hb hts inT_X6 hown hK hW p0 (sx_tld_0 hp0) rfl 3 (by decide) (hts _ tw1_61) (fun _ h9 => h9) rfl (v := .int (σ p0 3)) rfl dX6_addWord_15 ?_
    refine lv_iload_n hx hb dX6_addWord_18 rfl (lv_at hl 1 rfl) ?_
    obtain ⟨g2, hf⟩ := nb_g_e hf
    obtain ⟨σ3, eσ3, hf⟩ := nb_let_e hf
    refine nb_iast hx hb hK hinj hW (p0 + 3) (sx_tld_3 hp0) g2 eσ3 dX6_addWord_19 (fun H locs hW => ?_)
    refine lv_aload_n hx hb dX6_addWord_20 rfl (lv_at hl 0 rfl) ?_
    refine lv_dup hx hb dX6_addWord_21 rfl ?_
    refine nb_get (C := RX6) (T := TX6) (N := 5) hx hb hts inT_X6 hown hK hW p0 (sx_tld_0 hp0) rfl 3 (by decide) (hts _ tw1_61) (fun _ h9 => h9) rfl (v := .int (σ3 p0 3)) rfl dX6_addWord_22 ?_
    refine lv_iconst (v := (1 : Int32)) hx hb dX6_addWord_25 (by decide) ?_
    refine lv_iadd hx hb dX6_addWord_26 ?_
    obtain ⟨σ4, eσ4, hf⟩ := nb_let_e hf
    refine nb_put (C := RX6) (T := TX6) (N := 5) hx hb hts inT_X6 hown hK tyX6 tyX6_ok nmX6 hinj hW p0 (sx_tld_0 hp0) rfl 3 (by decide) (hts _ tw1_61) (fun _ h9 => h9) rfl (ty := .int) (by decide +kernel) rfl rfl rfl (x := ((σ3 p0 3) + (1 : Int32))) (by show Value.int _ = _; rw [nb_st_s]) eσ4 dX6_addWord_27 (fun H locs hW => ?_)
    refine lv_iconst (v := (1 : Int32)) hx hb dX6_addWord_30 (by decide) ?_
    exact nb_rz hx hb hr hlocks hK hZ hZo hW rfl hf dX6_addWord_31
  · rw [if_neg c1] at hf
    refine lv_iconst (v := (0 : Int32)) hx hb dX6_addWord_8 (by decide) ?_
    exact nb_rz hx hb hr hlocks hK hZ hZo hW rfl hf dX6_addWord_9
def fX6_copyFrom (N : Nat) (σ : nb_St) (p0 : Nat) (q0 : Nat) : Option nb_St :=
  nb_let (nb_st σ p0 0 (σ q0 0)) fun σ1 =>
  nb_let (nb_st σ1 p0 3 (σ1 q0 3)) fun σ2 =>
  nb_let (nb_sa σ2 (p0 + 1) (va_cpy (σ2 (q0 + 1)) (σ2 (p0 + 1)) (nb_ix (0 : Int32)) (nb_ix (0 : Int32)) (nb_ix (6 : Int32)))) fun σ3 =>
  nb_let (nb_sa σ3 (p0 + 2) (va_cpy (σ3 (q0 + 2)) (σ3 (p0 + 2)) (nb_ix (0 : Int32)) (nb_ix (0 : Int32)) (nb_ix (6 : Int32)))) fun σ4 =>
  nb_let (nb_sa σ4 (p0 + 3) (va_cpy (σ4 (q0 + 3)) (σ4 (p0 + 3)) (nb_ix (0 : Int32)) (nb_ix (0 : Int32)) (nb_ix (4 : Int32)))) fun σ5 =>
  some σ5
def rmX6_copyFrom : Room := { frames := 1, cells := 0, slots := 0, locals := 38 }
def vsX6_copyFrom : List Cond := .code yX6_copyFrom cX6_copyFrom 2 none :: xT
set_option maxHeartbeats 4000000 in
set_option maxRecDepth 100000 in
theorem c_X6_copyFrom (l : Launch) {G : nb_G} {tb : Nat → Nat} (hinj : nb_inj xc_sh G.2.1) (hZo : nb_Zok (nb_A xc_sh G.2.1) (xc_Z (nb_A xc_sh G.2.1) tb)) {N : Nat} {σ : nb_St} {p0 : Nat} {q0 : Nat} {σo : nb_St} (hf : fX6_copyFrom N σ p0 q0 = some σo) (hp0 : xc_tld p0 = true) (hq0 : xc_tld q0 = true) : Met l yX6_copyFrom vsX6_copyFrom rmX6_copyFrom (nb_Pc G xc_sh (xc_Z (nb_A xc_sh G.2.1) tb) σ [.ref (G.2.1 p0), .ref (G.2.1 q0)]) (nb_Qv G xc_sh (xc_Z (nb_A xc_sh G.2.1) tb) σo) 0 0 (nb_A xc_sh G.2.1) := by
  refine Met.ofW (cc := cX6_copyFrom) (maxL := 2) (ret := none) (by decide) rfl ?_
  intro p e s m args below meth c s₁ B hml hv
  obtain ⟨rfl, hP, hK, hZ⟩ := hv
  have hx := B.exec
  have hb := B.bytes
  have hr := B.returns
  have hts : ∀ w ∈ xT, w.before _ s = true := fun w h9 => atoms_spec (ws := vsX6_copyFrom) B.pre w (List.mem_cons_of_mem _ h9)
  have hown : s.vm.findClass RX6 = some m.cls := findClass_of_methodNamed B.named
  have hlocks := B.notSynchronized
  have hW : nb_W G xc_sh s.heap σ s.heap [] := ⟨hP, va_S.rf⟩
  have hl := lv_entry ([.ref (G.2.1 p0), .ref (G.2.1 q0)]) (n := 2) (Nat.le_of_ble_eq_true rfl)
  rw [lg_entry_eq]
  generalize (lg_sl ([.ref (G.2.1 p0), .ref (G.2.1 q0)]) ++ List.replicate (2 - (lg_sl ([.ref (G.2.1 p0), .ref (G.2.1 q0)])).length) Slot.unset).toArray = ls at hl ⊢
  have hl : lv_has ls 2 [(0, .ref (G.2.1 p0)), (1, .ref (G.2.1 q0))] := hl
  show W p l e rmX6_copyFrom s m ([.ref (G.2.1 p0), .ref (G.2.1 q0)]).toArray below meth c s.heap [] 0 0 (MQ below (nb_Qv G xc_sh (xc_Z (nb_A xc_sh G.2.1) tb) σo) ([.ref (G.2.1 p0), .ref (G.2.1 q0)]).toArray s 0 0 (nb_A xc_sh G.2.1)) (F0 m 0 ls [])
  generalize hargs : ([.ref (G.2.1 p0), .ref (G.2.1 q0)] : List Value).toArray = args at hts ⊢
  unfold fX6_copyFrom at hf
  obtain ⟨H, eH⟩ : ∃ H, H = s.heap := ⟨_, rfl⟩
  obtain ⟨locs, eL⟩ : ∃ L : List Loc, L = [] := ⟨_, rfl⟩
  have hW : nb_W G xc_sh s.heap σ H locs := by rw [eH, eL]; exact hW
  suffices hgo : W p l e rmX6_copyFrom s m args below meth c H locs 0 0 (MQ below (nb_Qv G xc_sh (xc_Z (nb_A xc_sh G.2.1) tb) σo) args s 0 0 (nb_A xc_sh G.2.1)) (F0 m 0 ls []) by rw [eH, eL] at hgo; exact hgo
  clear eH eL
  refine lv_aload_n hx hb dX6_copyFrom_0 rfl (lv_at hl 0 rfl) ?_
  refine lv_aload_n hx hb dX6_copyFrom_1 rfl (lv_at hl 1 rfl) ?_
  refine nb_get (C := RX6) (T := TX6) (N := 5) hx hb hts inT_X6 hown hK hW q0 (sx_tld_0 hq0) rfl 0 (by decide) (hts _ tw1_53) (fun _ h9 => h9) rfl (v := .int (σ q0 0)) rfl dX6_copyFrom_2 ?_
  obtain ⟨σ1, eσ1, hf⟩ := nb_let_e hf
  refine nb_put (C := RX6) (T := TX6) (N := 5) hx hb hts inT_X6 hown hK tyX6 tyX6_ok nmX6 hinj hW p0 (sx_tld_0 hp0) rfl 0 (by decide) (hts _ tw1_53) (fun _ h9 => h9) rfl (ty := .int) (by decide +kernel) rfl rfl rfl (x := (σ q0 0)) (by show Value.int _ = _; rw [nb_st_s]) eσ1 dX6_copyFrom_5 (fun H locs hW => ?_)
  refine lv_aload_n hx hb dX6_copyFrom_8 rfl (lv_at hl 0 rfl) ?_
  refine lv_aload_n hx hb dX6_copyFrom_9 rfl (lv_at hl 1 rfl) ?_
  refine nb_get (C := RX6) (T := TX6) (N := 5) hx hb hts inT_X6 hown hK hW q0 (sx_tld_0 hq0) rfl 3 (by decide) (hts _ tw1_61) (fun _ h9 => h9) rfl (v := .int (σ1 q0 3)) rfl dX6_copyFrom_10 ?_
  obtain ⟨σ2, eσ2, hf⟩ := nb_let_e hf
  refine nb_put (C := RX6) (T := TX6) (N := 5) hx hb hts inT_X6 hown hK tyX6 tyX6_ok nmX6 hinj hW p0 (sx_tld_0 hp0) rfl 3 (by decide) (hts _ tw1_61) (fun _ h9 => h9) rfl (ty := .int) (by decide +kernel) rfl rfl rfl (x := (σ1 q0 3)) (by show Value.int _ = _; rw [nb_st_s]) eσ2 dX6_copyFrom_13 (fun H locs hW => ?_)
  refine lv_aload_n hx hb dX6_copyFrom_16 rfl (lv_at hl 1 rfl) ?_
  refine nb_get (C := RX6) (T := TX6) (N := 5) hx hb hts inT_X6 hown hK hW q0 (sx_tld_0 hq0) rfl 1 (by decide) (hts _ tw1_57) (fun _ h9 => h9) rfl (v := .ref (G.2.1 (q0 + 1))) rfl dX6_copyFrom_17 ?_
  refine lv_iconst (v := (0 : Int32)) hx hb dX6_copyFrom_20 (by decide) ?_
  refine lv_aload_n hx hb dX6_copyFrom_21 rfl (lv_at hl 0 rfl) ?_
  refine nb_get (C := RX6) (T := TX6) (N := 5) hx hb hts inT_X6 hown hK hW p0 (sx_tld_0 hp0) rfl 1 (by decide) (hts _ tw1_57) (fun _ h9 => h9) rfl (v := .ref (G.2.1 (p0 + 1))) rfl dX6_copyFrom_22 ?_
  refine lv_iconst (v := (0 : Int32)) hx hb dX6_copyFrom_25 (by decide) ?_
  refine lv_bipush (v := (6 : Int32)) hx hb dX6_copyFrom_26 (by decide) ?_
  obtain ⟨σ3, eσ3, hf⟩ := nb_let_e hf
  refine nb_copy hx hb (hml.trans hl.1.symm) hown (hts _ tw4_100) (hts _ tw3_201) (hts _ tw3_200) (hts _ tw1_17) hK hinj hW (q0 + 1) (p0 + 1) (sx_tld_1 hq0) (sx_tld_1 hp0) (by decide) (by decide) (by decide) (by decide) (by decide) (Nat.le_of_ble_eq_true rfl) (Nat.le_of_ble_eq_true rfl) eσ3 dX6_copyFrom_28 (fun H locs hW => ?_)
  refine lv_aload_n hx hb dX6_copyFrom_31 rfl (lv_at hl 1 rfl) ?_
  refine nb_get (C := RX6) (T := TX6) (N := 5) hx hb hts inT_X6 hown hK hW q0 (sx_tld_0 hq0) rfl 2 (by decide) (hts _ tw1_59) (fun _ h9 => h9) rfl (v := .ref (G.2.1 (q0 + 2))) rfl dX6_copyFrom_32 ?_
  refine lv_iconst (v := (0 : Int32)) hx hb dX6_copyFrom_35 (by decide) ?_
  refine lv_aload_n hx hb dX6_copyFrom_36 rfl (lv_at hl 0 rfl) ?_
  refine nb_get (C := RX6) (T := TX6) (N := 5) hx hb hts inT_X6 hown hK hW p0 (sx_tld_0 hp0) rfl 2 (by decide) (hts _ tw1_59) (fun _ h9 => h9) rfl (v := .ref (G.2.1 (p0 + 2))) rfl dX6_copyFrom_37 ?_
  refine lv_iconst (v := (0 : Int32)) hx hb dX6_copyFrom_40 (by decide) ?_
  refine lv_bipush (v := (6 : Int32)) hx hb dX6_copyFrom_41 (by decide) ?_
  obtain ⟨σ4, eσ4, hf⟩ := nb_let_e hf
  refine nb_copy hx hb (hml.trans hl.1.symm) hown (hts _ tw4_100) (hts _ tw3_201) (hts _ tw3_200) (hts _ tw1_17) hK hinj hW (q0 + 2) (p0 + 2) (sx_tld_2 hq0) (sx_tld_2 hp0) (by decide) (by decide) (by decide) (by decide) (by decide) (Nat.le_of_ble_eq_true rfl) (Nat.le_of_ble_eq_true rfl) eσ4 dX6_copyFrom_43 (fun H locs hW => ?_)
  refine lv_aload_n hx hb dX6_copyFrom_46 rfl (lv_at hl 1 rfl) ?_
  refine nb_get (C := RX6) (T := TX6) (N := 5) hx hb hts inT_X6 hown hK hW q0 (sx_tld_0 hq0) rfl 4 (by decide) (hts _ tw1_65) (fun _ h9 => h9) rfl (v := .ref (G.2.1 (q0 + 3))) rfl dX6_copyFrom_47 ?_
  refine lv_iconst (v := (0 : Int32)) hx hb dX6_copyFrom_50 (by decide) ?_
  refine lv_aload_n hx hb dX6_copyFrom_51 rfl (lv_at hl 0 rfl) ?_
  refine nb_get (C := RX6) (T := TX6) (N := 5) hx hb hts inT_X6 hown hK hW p0 (sx_tld_0 hp0) rfl 4 (by decide) (hts _ tw1_65) (fun _ h9 => h9) rfl (v := .ref (G.2.1 (p0 + 3))) rfl dX6_copyFrom_52 ?_
  refine lv_iconst (v := (0 : Int32)) hx hb dX6_copyFrom_55 (by decide) ?_
  refine lv_iconst (v := (4 : Int32)) hx hb dX6_copyFrom_56 (by decide) ?_
  obtain ⟨σ5, eσ5, hf⟩ := nb_let_e hf
  refine nb_copy hx hb (hml.trans hl.1.symm) hown (hts _ tw4_100) (hts _ tw3_201) (hts _ tw3_200) (hts _ tw1_17) hK hinj hW (q0 + 3) (p0 + 3) (sx_tld_3 hq0) (sx_tld_3 hp0) (by decide) (by decide) (by decide) (by decide) (by decide) (Nat.le_of_ble_eq_true rfl) (Nat.le_of_ble_eq_true rfl) eσ5 dX6_copyFrom_57 (fun H locs hW => ?_)
  exact nb_rv hx hb hr hlocks hK hZ hZo hW hf dX6_copyFrom_60
