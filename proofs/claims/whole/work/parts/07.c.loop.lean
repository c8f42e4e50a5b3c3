set_option maxHeartbeats 4000000 in
set_option maxRecDepth 100000 in
theorem law_loop (Rel : nb_St → nb_St → Prop) (hp : xp_All Rel) {p : Program} {l : Launch} {e : Env} {s : State} {m : MethodId} {below : List Frame} {meth : Method} {c : Code} {D : va_G} {cA : Nat → ClassId} {ad1 ad2 tb : Nat → Nat} {b L : Nat} {xs : Nat → Int32} (hL : L ≤ 2048) (C0 : lw_At p s m meth c b L xs) (hK : va_K D vwCl (nb_ty cA) s) (hi1 : nb_inj xc_sh ad1) (hi2 : nb_inj xm_sh ad2) (hA1 : ∀ q, nb_A xc_sh ad1 q → s.heap.size ≤ q) (hA2 : ∀ q, nb_A xm_sh ad2 q → s.heap.size ≤ q) (hd : ∀ i j, i < xc_sh.length → j < xm_sh.length → ad1 i ≠ ad2 j) (hZ1 : xc_Z (nb_A xc_sh ad1) tb s s.heap) : ∀ (n i : Nat), i ≤ L → L < i + n → ∀ (σ τ : nb_St), Rel σ τ → ∀ (H : Heap) (locs : List Loc) (ls : Array Slot), va_P D vwCl (nb_cs xc_sh ad1 cA σ) H → va_P D vwCl (nb_cs xm_sh ad2 cA τ) H → va_S (fun q : Nat => s.heap.size ≤ q) s.heap H locs → lv_has ls 4 [(0, .ref b), (1, .ref (ad1 0)), (2, .ref (ad2 0)), (3, .int (nI i))] → W p l e room_1 s m #[Value.ref b] below meth c H locs 111 1570 (lw_Z below #[Value.ref b] s) (F0 m 18 ls []) := by
  have C1 := C0
  obtain ⟨hx, hb, hr, hml, hown, hts0, hX, hbl, hlocks, hgv⟩ := C1
  have hbA : ¬ (fun q : Nat => s.heap.size ≤ q) b := Nat.not_le.mpr hbl
  obtain ⟨p_write, p_wipe, p_fault, p_lay, p_guest, p_shame, p_presses, p_is, p_when, p_wasted, p_frees, p_madeUp, p_bell, p_best, p_given, p_cost, p_rests, p_price, p_meant, p_since, p_leave, p_drawn, p_sign, p_say, p_takeBack, p_keep, p_back, p_count⟩ := hp
  intro n
  induction n with
  | zero => intro i h1 h2; omega
  | succ n ih =>
    intro i hiL hin σ τ hR H locs ls hP1 hP2 hS hl
    refine lv_iload_n hx hb dL_law_18 rfl (lv_at hl 3 rfl) ?_
    refine lv_aload_n hx hb dL_law_19 rfl (lv_at hl 0 rfl) ?_
    refine va_slen hx hb hX hbl hbA hS dL_law_20 ?_
    refine lv_iconst (v := (4 : Int32)) hx hb dL_law_21 (by decide) ?_
    refine lv_isub hx hb dL_law_22 ?_
    refine lv_icmp_gt (tgt := 930) hx hb dL_law_23 (by decide) (fun c1 => ?_) (fun c1 => ?_)
    · refine lv_iconst (v := (1 : Int32)) hx hb dL_law_930 (by decide) ?_
      refine va_forget (fun q hq => hS.2.2 q hq) ?_
      exact lw_ret hx hb hr hlocks dL_law_931
    · have hi4 : i + 4 ≤ L := by
        have h5 : (nI L - nI 4).toInt = (L : Int) - 4 := pk_sub_toInt (by omega) (by omega)
        have h6 : (nI i).toInt = (i : Int) := nI_toInt (by omega)
        have c2 : ¬ nI L - nI 4 < nI i := c1
        rw [Int32.lt_iff_toInt_lt, h5, h6] at c2
        omega
      have hnext : ∀ (σ τ : nb_St), Rel σ τ → ∀ (H : Heap) (locs : List Loc) (ls : Array Slot), va_P D vwCl (nb_cs xc_sh ad1 cA σ) H → va_P D vwCl (nb_cs xm_sh ad2 cA τ) H → va_S (fun q : Nat => s.heap.size ≤ q) s.heap H locs → lv_has ls 4 [(0, .ref b), (1, .ref (ad1 0)), (2, .ref (ad2 0)), (3, .int (nI i))] → W p l e room_1 s m #[Value.ref b] below meth c H locs 111 1570 (lw_Z below #[Value.ref b] s) (F0 m 924 ls []) := by
        intro σ τ hR H locs ls hP1 hP2 hS hl
        refine lv_iinc (v := nI (i + 4)) (lv' := [(3, .int (nI (i + 4))), (0, .ref b), (1, .ref (ad1 0)), (2, .ref (ad2 0))]) hx hb dL_law_924 hl (k := 3) rfl (nI_add i 4) (by decide) rfl (fun ls hl => ?_)
        refine lv_goto (tgt := 18) hx hb dL_law_927 (by decide) ?_
        exact ih (i + 4) hi4 (by omega) σ τ hR H locs ls hP1 hP2 hS (lv_sub hl [1, 2, 3, 0] rfl)
      have hin0 : vp_in (nI i) L := vp_in_nI (by omega) (by omega)
      refine lv_aload_n hx hb dL_law_26 rfl (lv_at hl 0 rfl) ?_
      refine lv_iload_n hx hb dL_law_27 rfl (lv_at hl 3 rfl) ?_
      refine va_sld hx hb hX hbl hbA hS hin0 dL_law_28 ?_
      refine lv_bipush (v := (31 : Int32)) hx hb dL_law_29 (by decide) ?_
      refine lv_iand hx hb dL_law_31 ?_
      refine lv_topi (fun y ey => ?_)
      by_cases g0 : y = 0
      · refine lv_tableIn (tgt := 160) (off := 128) hx hb dL_law_32 (by rw [g0]; decide) (by rw [g0]; decide) (by rw [g0]; decide) (by decide) ?_
        obtain ⟨N, r, σo, τo, h1, h2, hR⟩ := p_write σ τ hR (xs (nI i + (1 : Int32)).toNatClampNeg) ((((xs (nI i + (2 : Int32)).toNatClampNeg)).toInt64 <<< (((32 : Int32)).toInt64 &&& 63)) ||| (((xs (nI i + (3 : Int32)).toNatClampNeg)).toInt64 &&& (4294967295 : Int64)))
        exact lc_write hL C0 hK hi1 hi2 hA1 hA2 hd hZ1 hi4 h1 h2 hP1 hP2 hS hl (hnext _ _ hR)
      by_cases g1 : y = 1
      · refine lv_tableIn (tgt := 223) (off := 191) hx hb dL_law_32 (by rw [g1]; decide) (by rw [g1]; decide) (by rw [g1]; decide) (by decide) ?_
        obtain ⟨N, r, σo, τo, h1, h2, hR⟩ := p_wipe σ τ hR 
        exact lc_wipe hL C0 hK hi1 hi2 hA1 hA2 hd hZ1 hi4 h1 h2 hP1 hP2 hS hl (hnext _ _ hR)
      by_cases g2 : y = 2
      · refine lv_tableIn (tgt := 236) (off := 204) hx hb dL_law_32 (by rw [g2]; decide) (by rw [g2]; decide) (by rw [g2]; decide) (by decide) ?_
        obtain ⟨N, r, σo, τo, h1, h2, hR⟩ := p_fault σ τ hR 
        exact lc_fault hL C0 hK hi1 hi2 hA1 hA2 hd hZ1 hi4 h1 h2 hP1 hP2 hS hl (hnext _ _ hR)
      by_cases g3 : y = 3
      · refine lv_tableIn (tgt := 249) (off := 217) hx hb dL_law_32 (by rw [g3]; decide) (by rw [g3]; decide) (by rw [g3]; decide) (by decide) ?_
        obtain ⟨N, r, σo, τo, h1, h2, hR⟩ := p_lay σ τ hR 
        exact lc_lay hL C0 hK hi1 hi2 hA1 hA2 hd hZ1 hi4 h1 h2 hP1 hP2 hS hl (hnext _ _ hR)
      by_cases g4 : y = 4
      · refine lv_tableIn (tgt := 262) (off := 230) hx hb dL_law_32 (by rw [g4]; decide) (by rw [g4]; decide) (by rw [g4]; decide) (by decide) ?_
        obtain ⟨N, r, h1, h2⟩ := p_guest σ τ hR (xs (nI i + (1 : Int32)).toNatClampNeg) (xs (nI i + (2 : Int32)).toNatClampNeg)
        exact lc_guest hL C0 hK hi1 hi2 hA1 hA2 hd hZ1 hi4 h1 h2 hP1 hP2 hS hl (hnext _ _ hR)
      by_cases g5 : y = 5
      · refine lv_tableIn (tgt := 295) (off := 263) hx hb dL_law_32 (by rw [g5]; decide) (by rw [g5]; decide) (by rw [g5]; decide) (by decide) ?_
        obtain ⟨N, r, σo, τo, h1, h2, hR⟩ := p_shame σ τ hR (xs (nI i + (1 : Int32)).toNatClampNeg) (xs (nI i + (2 : Int32)).toNatClampNeg)
        exact lc_shame hL C0 hK hi1 hi2 hA1 hA2 hd hZ1 hi4 h1 h2 hP1 hP2 hS hl (hnext _ _ hR)
      by_cases g6 : y = 6
      · refine lv_tableIn (tgt := 328) (off := 296) hx hb dL_law_32 (by rw [g6]; decide) (by rw [g6]; decide) (by rw [g6]; decide) (by decide) ?_
        obtain ⟨N, r, σo, τo, h1, h2, hR⟩ := p_presses σ τ hR (xs (nI i + (1 : Int32)).toNatClampNeg) (xs (nI i + (2 : Int32)).toNatClampNeg)
        exact lc_presses hL C0 hK hi1 hi2 hA1 hA2 hd hZ1 hi4 h1 h2 hP1 hP2 hS hl (hnext _ _ hR)
      by_cases g7 : y = 7
      · refine lv_tableIn (tgt := 361) (off := 329) hx hb dL_law_32 (by rw [g7]; decide) (by rw [g7]; decide) (by rw [g7]; decide) (by decide) ?_
        obtain ⟨N, r, σo, τo, h1, h2, hR⟩ := p_is σ τ hR (xs (nI i + (1 : Int32)).toNatClampNeg) (xs (nI i + (2 : Int32)).toNatClampNeg)
        exact lc_is hL C0 hK hi1 hi2 hA1 hA2 hd hZ1 hi4 h1 h2 hP1 hP2 hS hl (hnext _ _ hR)
      by_cases g8 : y = 8
      · refine lv_tableIn (tgt := 394) (off := 362) hx hb dL_law_32 (by rw [g8]; decide) (by rw [g8]; decide) (by rw [g8]; decide) (by decide) ?_
        obtain ⟨N, r, σo, τo, h1, h2, hR⟩ := p_when σ τ hR (xs (nI i + (1 : Int32)).toNatClampNeg) (xs (nI i + (2 : Int32)).toNatClampNeg)
        exact lc_when hL C0 hK hi1 hi2 hA1 hA2 hd hZ1 hi4 h1 h2 hP1 hP2 hS hl (hnext _ _ hR)
      by_cases g9 : y = 9
      · refine lv_tableIn (tgt := 427) (off := 395) hx hb dL_law_32 (by rw [g9]; decide) (by rw [g9]; decide) (by rw [g9]; decide) (by decide) ?_
        obtain ⟨N, r, σo, τo, h1, h2, hR⟩ := p_wasted σ τ hR (xs (nI i + (1 : Int32)).toNatClampNeg)
        exact lc_wasted hL C0 hK hi1 hi2 hA1 hA2 hd hZ1 hi4 h1 h2 hP1 hP2 hS hl (hnext _ _ hR)
      by_cases g10 : y = 10
      · refine lv_tableIn (tgt := 450) (off := 418) hx hb dL_law_32 (by rw [g10]; decide) (by rw [g10]; decide) (by rw [g10]; decide) (by decide) ?_
        obtain ⟨N, r, σo, τo, h1, h2, hR⟩ := p_frees σ τ hR (xs (nI i + (1 : Int32)).toNatClampNeg) (xs (nI i + (2 : Int32)).toNatClampNeg)
        exact lc_frees hL C0 hK hi1 hi2 hA1 hA2 hd hZ1 hi4 h1 h2 hP1 hP2 hS hl (hnext _ _ hR)
      by_cases g11 : y = 11
      · refine lv_tableIn (tgt := 483) (off := 451) hx hb dL_law_32 (by rw [g11]; decide) (by rw [g11]; decide) (by rw [g11]; decide) (by decide) ?_
        obtain ⟨N, r, σo, τo, h1, h2, hR⟩ := p_madeUp σ τ hR (xs (nI i + (1 : Int32)).toNatClampNeg) (xs (nI i + (2 : Int32)).toNatClampNeg)
        exact lc_madeUp hL C0 hK hi1 hi2 hA1 hA2 hd hZ1 hi4 h1 h2 hP1 hP2 hS hl (hnext _ _ hR)
      by_cases g12 : y = 12
      · refine lv_tableIn (tgt := 516) (off := 484) hx hb dL_law_32 (by rw [g12]; decide) (by rw [g12]; decide) (by rw [g12]; decide) (by decide) ?_
        obtain ⟨N, r, σo, τo, h1, h2, hR⟩ := p_bell σ τ hR (xs (nI i + (1 : Int32)).toNatClampNeg)
        exact lc_bell hL C0 hK hi1 hi2 hA1 hA2 hd hZ1 hi4 h1 h2 hP1 hP2 hS hl (hnext _ _ hR)
      by_cases g13 : y = 13
      · refine lv_tableIn (tgt := 539) (off := 507) hx hb dL_law_32 (by rw [g13]; decide) (by rw [g13]; decide) (by rw [g13]; decide) (by decide) ?_
        obtain ⟨N, r, σo, τo, h1, h2, hR⟩ := p_best σ τ hR (xs (nI i + (1 : Int32)).toNatClampNeg)
        exact lc_best hL C0 hK hi1 hi2 hA1 hA2 hd hZ1 hi4 h1 h2 hP1 hP2 hS hl (hnext _ _ hR)
      by_cases g14 : y = 14
      · refine lv_tableIn (tgt := 562) (off := 530) hx hb dL_law_32 (by rw [g14]; decide) (by rw [g14]; decide) (by rw [g14]; decide) (by decide) ?_
        obtain ⟨N, r, σo, τo, h1, h2, hR⟩ := p_given σ τ hR (xs (nI i + (1 : Int32)).toNatClampNeg)
        exact lc_given hL C0 hK hi1 hi2 hA1 hA2 hd hZ1 hi4 h1 h2 hP1 hP2 hS hl (hnext _ _ hR)
      by_cases g15 : y = 15
      · refine lv_tableIn (tgt := 585) (off := 553) hx hb dL_law_32 (by rw [g15]; decide) (by rw [g15]; decide) (by rw [g15]; decide) (by decide) ?_
        obtain ⟨N, r, σo, τo, h1, h2, hR⟩ := p_cost σ τ hR (xs (nI i + (1 : Int32)).toNatClampNeg) (xs (nI i + (2 : Int32)).toNatClampNeg)
        exact lc_cost hL C0 hK hi1 hi2 hA1 hA2 hd hZ1 hi4 h1 h2 hP1 hP2 hS hl (hnext _ _ hR)
      by_cases g16 : y = 16
      · refine lv_tableIn (tgt := 618) (off := 586) hx hb dL_law_32 (by rw [g16]; decide) (by rw [g16]; decide) (by rw [g16]; decide) (by decide) ?_
        obtain ⟨N, r, σo, τo, h1, h2, hR⟩ := p_rests σ τ hR (xs (nI i + (1 : Int32)).toNatClampNeg)
        exact lc_rests hL C0 hK hi1 hi2 hA1 hA2 hd hZ1 hi4 h1 h2 hP1 hP2 hS hl (hnext _ _ hR)
      by_cases g17 : y = 17
      · refine lv_tableIn (tgt := 641) (off := 609) hx hb dL_law_32 (by rw [g17]; decide) (by rw [g17]; decide) (by rw [g17]; decide) (by decide) ?_
        obtain ⟨N, r, σo, τo, h1, h2, hR⟩ := p_price σ τ hR 
        exact lc_price hL C0 hK hi1 hi2 hA1 hA2 hd hZ1 hi4 h1 h2 hP1 hP2 hS hl (hnext _ _ hR)
      by_cases g18 : y = 18
      · refine lv_tableIn (tgt := 654) (off := 622) hx hb dL_law_32 (by rw [g18]; decide) (by rw [g18]; decide) (by rw [g18]; decide) (by decide) ?_
        obtain ⟨N, r, h1, h2⟩ := p_meant σ τ hR (xs (nI i + (1 : Int32)).toNatClampNeg) (xs (nI i + (2 : Int32)).toNatClampNeg)
        exact lc_meant hL C0 hK hi1 hi2 hA1 hA2 hd hZ1 hi4 h1 h2 hP1 hP2 hS hl (hnext _ _ hR)
      by_cases g19 : y = 19
      · refine lv_tableIn (tgt := 687) (off := 655) hx hb dL_law_32 (by rw [g19]; decide) (by rw [g19]; decide) (by rw [g19]; decide) (by decide) ?_
        obtain ⟨N, r, h1, h2⟩ := p_since σ τ hR (xs (nI i + (1 : Int32)).toNatClampNeg) (xs (nI i + (2 : Int32)).toNatClampNeg) (xs (nI i + (3 : Int32)).toNatClampNeg)
        exact lc_since hL C0 hK hi1 hi2 hA1 hA2 hd hZ1 hi4 h1 h2 hP1 hP2 hS hl (hnext _ _ hR)
      by_cases g20 : y = 20
      · refine lv_tableIn (tgt := 730) (off := 698) hx hb dL_law_32 (by rw [g20]; decide) (by rw [g20]; decide) (by rw [g20]; decide) (by decide) ?_
        obtain ⟨N, r, h1, h2⟩ := p_leave σ τ hR (xs (nI i + (1 : Int32)).toNatClampNeg) (xs (nI i + (2 : Int32)).toNatClampNeg) (xs (nI i + (3 : Int32)).toNatClampNeg)
        exact lc_leave hL C0 hK hi1 hi2 hA1 hA2 hd hZ1 hi4 h1 h2 hP1 hP2 hS hl (hnext _ _ hR)
      by_cases g21 : y = 21
      · refine lv_tableIn (tgt := 773) (off := 741) hx hb dL_law_32 (by rw [g21]; decide) (by rw [g21]; decide) (by rw [g21]; decide) (by decide) ?_
        obtain ⟨N, r, σo, τo, h1, h2, hR⟩ := p_drawn σ τ hR (xs (nI i + (1 : Int32)).toNatClampNeg) (xs (nI i + (2 : Int32)).toNatClampNeg)
        exact lc_drawn hL C0 hK hi1 hi2 hA1 hA2 hd hZ1 hi4 h1 h2 hP1 hP2 hS hl (hnext _ _ hR)
      by_cases g22 : y = 22
      · refine lv_tableIn (tgt := 806) (off := 774) hx hb dL_law_32 (by rw [g22]; decide) (by rw [g22]; decide) (by rw [g22]; decide) (by decide) ?_
        obtain ⟨N, r, σo, τo, h1, h2, hR⟩ := p_sign σ τ hR (xs (nI i + (1 : Int32)).toNatClampNeg) (xs (nI i + (2 : Int32)).toNatClampNeg)
        exact lc_sign hL C0 hK hi1 hi2 hA1 hA2 hd hZ1 hi4 h1 h2 hP1 hP2 hS hl (hnext _ _ hR)
      by_cases g23 : y = 23
      · refine lv_tableIn (tgt := 839) (off := 807) hx hb dL_law_32 (by rw [g23]; decide) (by rw [g23]; decide) (by rw [g23]; decide) (by decide) ?_
        obtain ⟨N, r, σo, τo, h1, h2, hR⟩ := p_say σ τ hR (xs (nI i + (1 : Int32)).toNatClampNeg)
        exact lc_say hL C0 hK hi1 hi2 hA1 hA2 hd hZ1 hi4 h1 h2 hP1 hP2 hS hl (hnext _ _ hR)
      by_cases g24 : y = 24
      · refine lv_tableIn (tgt := 862) (off := 830) hx hb dL_law_32 (by rw [g24]; decide) (by rw [g24]; decide) (by rw [g24]; decide) (by decide) ?_
        obtain ⟨N, r, σo, τo, h1, h2, hR⟩ := p_takeBack σ τ hR 
        exact lc_takeBack hL C0 hK hi1 hi2 hA1 hA2 hd hZ1 hi4 h1 h2 hP1 hP2 hS hl (hnext _ _ hR)
      by_cases g25 : y = 25
      · refine lv_tableIn (tgt := 875) (off := 843) hx hb dL_law_32 (by rw [g25]; decide) (by rw [g25]; decide) (by rw [g25]; decide) (by decide) ?_
        obtain ⟨N, r, σo, τo, h1, h2, hR⟩ := p_keep σ τ hR 
        exact lc_keep hL C0 hK hi1 hi2 hA1 hA2 hd hZ1 hi4 h1 h2 hP1 hP2 hS hl (hnext _ _ hR)
      by_cases g26 : y = 26
      · refine lv_tableIn (tgt := 888) (off := 856) hx hb dL_law_32 (by rw [g26]; decide) (by rw [g26]; decide) (by rw [g26]; decide) (by decide) ?_
        obtain ⟨N, r, σo, τo, h1, h2, hR⟩ := p_back σ τ hR 
        exact lc_back hL C0 hK hi1 hi2 hA1 hA2 hd hZ1 hi4 h1 h2 hP1 hP2 hS hl (hnext _ _ hR)
      by_cases g27 : y = 27
      · refine lv_tableIn (tgt := 901) (off := 869) hx hb dL_law_32 (by rw [g27]; decide) (by rw [g27]; decide) (by rw [g27]; decide) (by decide) ?_
        obtain ⟨N, r, h1, h2⟩ := p_count σ τ hR (xs (nI i + (1 : Int32)).toNatClampNeg)
        exact lc_count hL C0 hK hi1 hi2 hA1 hA2 hd hZ1 hi4 h1 h2 hP1 hP2 hS hl (hnext _ _ hR)
      refine lv_tableOut (tgt := 924) hx hb dL_law_32 (by exact nb_out0_27 g0 g1 g2 g3 g4 g5 g6 g7 g8 g9 g10 g11 g12 g13 g14 g15 g16 g17 g18 g19 g20 g21 g22 g23 g24 g25 g26 g27) (by decide) ?_
      exact hnext σ τ hR H locs ls hP1 hP2 hS hl
