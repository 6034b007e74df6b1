set_option maxHeartbeats 1000000 in
set_option maxRecDepth 100000 in
theorem law_loop {p : Program} {l : Launch} {e : Env} {s : State} {mm : MethodId} {below : List Frame} {meth : Method} {c : Code} {dC : Nat → ClassId} {dI : Nat → Nat → Nat} {cI cJ cC : ClassId} {aK aV : Nat} {b L : Nat} {xs : Nat → Int32} {Q : State → Prop} (hL : L ≤ 2048) (C0 : lw_At p s mm meth c b L xs) (hX : zX aK aV (fun q : Nat => s.heap.size ≤ q) s) (hK : va_K (dC, dI) vwCl (zTy cI cJ cC) s) {x x_page x_page_codes x_reader x_reader_read x_reader_read_kinds x_reader_read_holds x_reader_read_takes x_reader_read_shareCounts x_reader_read_shares x_stand x_stand_kinds x_stand_holds x_stand_takes x_stand_shareCounts x_stand_shares x_trialStand x_trialStand_kinds x_trialStand_holds x_trialStand_takes x_trialStand_shareCounts x_trialStand_shares x_table x_table_fill x_table_fill_inside x_table_drunkFrom x_table_turns x_kept x_kept_fill x_kept_fill_inside x_kept_drunkFrom x_kept_turns x_trial x_trial_inside m m_page m_readRows m_rows m_turns m_amounts m_drank m_takes m_leans m_would m_keptAmounts m_keptDrank m_keptTurns : Nat} (hend : ∀ (H : Heap) (locs : List Loc) (ls : Array Slot), va_S (fun q : Nat => s.heap.size ≤ q) s.heap H locs → W p l e room_1 s mm #[Value.ref b] below meth c H locs 47 653 Q (F0 mm 834 ls [])) {H : Heap} {locs : List Loc} {ls : Array Slot} (h : zLI dC dI cI cJ cC b L s x x_page x_page_codes x_reader x_reader_read x_reader_read_kinds x_reader_read_holds x_reader_read_takes x_reader_read_shareCounts x_reader_read_shares x_stand x_stand_kinds x_stand_holds x_stand_takes x_stand_shareCounts x_stand_shares x_trialStand x_trialStand_kinds x_trialStand_holds x_trialStand_takes x_trialStand_shareCounts x_trialStand_shares x_table x_table_fill x_table_fill_inside x_table_drunkFrom x_table_turns x_kept x_kept_fill x_kept_fill_inside x_kept_drunkFrom x_kept_turns x_trial x_trial_inside m m_page m_readRows m_rows m_turns m_amounts m_drank m_takes m_leans m_would m_keptAmounts m_keptDrank m_keptTurns (L + 1) H locs ls) : W p l e room_1 s mm #[Value.ref b] below meth c H locs 47 653 Q (F0 mm 18 ls []) := by
  have C1 := C0
  obtain ⟨hx, hb, hr, hml, hown, hts0, hX0, hbl, hlocks, hgv⟩ := C0
  have hts : ∀ w ∈ wsL_law, w.before #[Value.ref b] s = true := fun w h => hts0 w (wsL_good w h).1
  have hA : ∀ q : Nat, s.heap.size ≤ q → (fun q : Nat => s.heap.size ≤ q) q := fun _ h => h
  have hbA : ¬ (fun q : Nat => s.heap.size ≤ q) b := Nat.not_le.mpr hbl
  have hLi : (nI L).toInt = (L : Int) := nI_toInt (by omega)
  refine zz_loop (α := Unit) 834 (fun k _ H locs ls => zLI dC dI cI cJ cC b L s x x_page x_page_codes x_reader x_reader_read x_reader_read_kinds x_reader_read_holds x_reader_read_takes x_reader_read_shareCounts x_reader_read_shares x_stand x_stand_kinds x_stand_holds x_stand_takes x_stand_shareCounts x_stand_shares x_trialStand x_trialStand_kinds x_trialStand_holds x_trialStand_takes x_trialStand_shareCounts x_trialStand_shares x_table x_table_fill x_table_fill_inside x_table_drunkFrom x_table_turns x_kept x_kept_fill x_kept_fill_inside x_kept_drunkFrom x_kept_turns x_trial x_trial_inside m m_page m_readRows m_rows m_turns m_amounts m_drank m_takes m_leans m_would m_keptAmounts m_keptDrank m_keptTurns k H locs ls) (fun _ H locs _ => va_S (fun q : Nat => s.heap.size ≤ q) s.heap H locs) ?_ ?_ ?_ (L + 1) () h
  · exact fun _ H locs ls h => hend H locs ls h
  · rintro _ H locs ls ⟨vx_imageKept, vx_towersRead, vx_changesDone, vx_page_size, vx_page_codes, vx_reader_place, vx_reader_read_size, vx_reader_read_kinds, vx_reader_read_holds, vx_reader_read_takes, vx_reader_read_shareCounts, vx_reader_read_shares, vx_stand_size, vx_stand_kinds, vx_stand_holds, vx_stand_takes, vx_stand_shareCounts, vx_stand_shares, vx_trialStand_size, vx_trialStand_kinds, vx_trialStand_holds, vx_trialStand_takes, vx_trialStand_shareCounts, vx_trialStand_shares, vx_table_poured, vx_table_fill_spilt, vx_table_fill_inside, vx_table_drunkFrom, vx_table_turns, vx_kept_poured, vx_kept_fill_spilt, vx_kept_fill_inside, vx_kept_drunkFrom, vx_kept_turns, vx_trial_spilt, vx_trial_inside, vm_pageMany, vm_readMany, vm_state, vm_readMost, vm_glasses, vm_towersRead, vm_poured, vm_spilt, vm_done, vm_seedNow, vm_keptTower, vm_keptPoured, vm_keptSpilt, vm_hash, vm_page, vm_readRows, vm_rows, vm_turns, vm_amounts, vm_drank, vm_takes, vm_leans, vm_would, vm_keptAmounts, vm_keptDrank, vm_keptTurns, x3, n, hp0, hp70, hpc, hrdc, hs0, hs9, hsc, htc, hg0, hg9, hrw, hln, hrr, hpm0, hpm70, i1, j1, hxn, hm, -⟩
    omega
  · intro k hex ih _ H locs ls
    rintro ⟨vx_imageKept, vx_towersRead, vx_changesDone, vx_page_size, vx_page_codes, vx_reader_place, vx_reader_read_size, vx_reader_read_kinds, vx_reader_read_holds, vx_reader_read_takes, vx_reader_read_shareCounts, vx_reader_read_shares, vx_stand_size, vx_stand_kinds, vx_stand_holds, vx_stand_takes, vx_stand_shareCounts, vx_stand_shares, vx_trialStand_size, vx_trialStand_kinds, vx_trialStand_holds, vx_trialStand_takes, vx_trialStand_shareCounts, vx_trialStand_shares, vx_table_poured, vx_table_fill_spilt, vx_table_fill_inside, vx_table_drunkFrom, vx_table_turns, vx_kept_poured, vx_kept_fill_spilt, vx_kept_fill_inside, vx_kept_drunkFrom, vx_kept_turns, vx_trial_spilt, vx_trial_inside, vm_pageMany, vm_readMany, vm_state, vm_readMost, vm_glasses, vm_towersRead, vm_poured, vm_spilt, vm_done, vm_seedNow, vm_keptTower, vm_keptPoured, vm_keptSpilt, vm_hash, vm_page, vm_readRows, vm_rows, vm_turns, vm_amounts, vm_drank, vm_takes, vm_leans, vm_would, vm_keptAmounts, vm_keptDrank, vm_keptTurns, x3, n, hp0, hp70, hpc, hrdc, hs0, hs9, hsc, htc, hg0, hg9, hrw, hln, hrr, hpm0, hpm70, i1, j1, hxn, hm, hrel, hP, hD, hS, hl⟩
    refine lv_iload_n hx hb dL_law_18 rfl (lv_at hl 0 rfl) ?_
    refine lv_aload_n hx hb dL_law_19 rfl (lv_at hl 3 rfl) ?_
    refine va_slen hx hb hX0 hbl hbA hS dL_law_20 ?_
    refine lv_iconst (v := (4 : Int32)) hx hb dL_law_21 (by decide) ?_
    refine lv_isub hx hb dL_law_22 ?_
    have e4 := zsubE (v := ((nI L) - (4 : Int32))) hLi (by decide : ((4 : Int32)).toInt = 4) rfl (by omega) (by omega)
    refine lv_icmp_gt (tgt := 834) hx hb dL_law_23 (by decide) (fun c_1 => ?_) (fun c_1 => ?_)
    · exact hex () _ _ _ hS
    have g_1 := zltF e4 (rfl : x3.toInt = _) c_1
    have hlt : x3.toInt ≤ (L : Int) - 4 := by omega
    refine lv_aload_n hx hb dL_law_26 rfl (lv_at hl 3 rfl) ?_
    refine lv_iload_n hx hb dL_law_27 rfl (lv_at hl 0 rfl) ?_
    have h_in : vp_in x3 L := zin (by omega) (by omega)
    refine va_sld hx hb hX0 hbl hbA hS h_in dL_law_28 ?_
    refine lv_bipush (v := (31 : Int32)) hx hb dL_law_29 (by decide) ?_
    refine lv_iand hx hb dL_law_31 ?_
    refine lv_topi (fun vs evs => ?_)
    by_cases c2 : vs = (0 : Int32)
    · refine lv_tableIn (off := 116) (tgt := 148) hx hb dL_law_32 (by rw [c2]; decide) (by rw [c2]; decide) (by rw [c2]; rfl) (by decide) ?_
      exact law_case_letters hL C1 hX hK hp0 hp70 hpc hrdc hs0 hs9 hsc htc hg0 hg9 hrw hln hrr hpm0 hpm70 i1 j1 hxn hm hrel hP hD hS hl hlt (fun H locs ls h => ih () H locs ls h)
    have d2 := zeqF (rfl : vs.toInt = _) (by decide : ((0 : Int32)).toInt = 0) c2
    by_cases c3 : vs = (1 : Int32)
    · refine lv_tableIn (off := 169) (tgt := 201) hx hb dL_law_32 (by rw [c3]; decide) (by rw [c3]; decide) (by rw [c3]; rfl) (by decide) ?_
      exact law_case_blank hL C1 hX hK hp0 hp70 hpc hrdc hs0 hs9 hsc htc hg0 hg9 hrw hln hrr hpm0 hpm70 i1 j1 hxn hm hrel hP hD hS hl hlt (fun H locs ls h => ih () H locs ls h)
    have d3 := zeqF (rfl : vs.toInt = _) (by decide : ((1 : Int32)).toInt = 1) c3
    by_cases c4 : vs = (2 : Int32)
    · refine lv_tableIn (off := 182) (tgt := 214) hx hb dL_law_32 (by rw [c4]; decide) (by rw [c4]; decide) (by rw [c4]; rfl) (by decide) ?_
      exact law_case_fault hL C1 hX hK hp0 hp70 hpc hrdc hs0 hs9 hsc htc hg0 hg9 hrw hln hrr hpm0 hpm70 i1 j1 hxn hm hrel hP hD hS hl hlt (fun H locs ls h => ih () H locs ls h)
    have d4 := zeqF (rfl : vs.toInt = _) (by decide : ((2 : Int32)).toInt = 2) c4
    by_cases c5 : vs = (3 : Int32)
    · refine lv_tableIn (off := 195) (tgt := 227) hx hb dL_law_32 (by rw [c5]; decide) (by rw [c5]; decide) (by rw [c5]; rfl) (by decide) ?_
      exact law_case_tower hL C1 hX hK hp0 hp70 hpc hrdc hs0 hs9 hsc htc hg0 hg9 hrw hln hrr hpm0 hpm70 i1 j1 hxn hm hrel hP hD hS hl hlt (fun H locs ls h => ih () H locs ls h)
    have d5 := zeqF (rfl : vs.toInt = _) (by decide : ((3 : Int32)).toInt = 3) c5
    by_cases c6 : vs = (4 : Int32)
    · refine lv_tableIn (off := 208) (tgt := 240) hx hb dL_law_32 (by rw [c6]; decide) (by rw [c6]; decide) (by rw [c6]; rfl) (by decide) ?_
      exact law_case_about hL C1 hX hK hp0 hp70 hpc hrdc hs0 hs9 hsc htc hg0 hg9 hrw hln hrr hpm0 hpm70 i1 j1 hxn hm hrel hP hD hS hl hlt (fun H locs ls h => ih () H locs ls h)
    have d6 := zeqF (rfl : vs.toInt = _) (by decide : ((4 : Int32)).toInt = 4) c6
    by_cases c7 : vs = (5 : Int32)
    · refine lv_tableIn (off := 241) (tgt := 273) hx hb dL_law_32 (by rw [c7]; decide) (by rw [c7]; decide) (by rw [c7]; rfl) (by decide) ?_
      exact law_case_as hL C1 hX hK hp0 hp70 hpc hrdc hs0 hs9 hsc htc hg0 hg9 hrw hln hrr hpm0 hpm70 i1 j1 hxn hm hrel hP hD hS hl hlt (fun H locs ls h => ih () H locs ls h)
    have d7 := zeqF (rfl : vs.toInt = _) (by decide : ((5 : Int32)).toInt = 5) c7
    by_cases c8 : vs = (6 : Int32)
    · refine lv_tableIn (off := 274) (tgt := 306) hx hb dL_law_32 (by rw [c8]; decide) (by rw [c8]; decide) (by rw [c8]; rfl) (by decide) ?_
      exact law_case_pour hL C1 hX hK hp0 hp70 hpc hrdc hs0 hs9 hsc htc hg0 hg9 hrw hln hrr hpm0 hpm70 i1 j1 hxn hm hrel hP hD hS hl hlt (fun H locs ls h => ih () H locs ls h)
    have d8 := zeqF (rfl : vs.toInt = _) (by decide : ((6 : Int32)).toInt = 6) c8
    by_cases c9 : vs = (7 : Int32)
    · refine lv_tableIn (off := 307) (tgt := 339) hx hb dL_law_32 (by rw [c9]; decide) (by rw [c9]; decide) (by rw [c9]; rfl) (by decide) ?_
      exact law_case_in hL C1 hX hK hp0 hp70 hpc hrdc hs0 hs9 hsc htc hg0 hg9 hrw hln hrr hpm0 hpm70 i1 j1 hxn hm hrel hP hD hS hl hlt (fun H locs ls h => ih () H locs ls h)
    have d9 := zeqF (rfl : vs.toInt = _) (by decide : ((7 : Int32)).toInt = 7) c9
    by_cases c10 : vs = (8 : Int32)
    · refine lv_tableIn (off := 341) (tgt := 373) hx hb dL_law_32 (by rw [c10]; decide) (by rw [c10]; decide) (by rw [c10]; rfl) (by decide) ?_
      exact law_case_all hL C1 hX hK hp0 hp70 hpc hrdc hs0 hs9 hsc htc hg0 hg9 hrw hln hrr hpm0 hpm70 i1 j1 hxn hm hrel hP hD hS hl hlt (fun H locs ls h => ih () H locs ls h)
    have d10 := zeqF (rfl : vs.toInt = _) (by decide : ((8 : Int32)).toInt = 8) c10
    by_cases c11 : vs = (9 : Int32)
    · refine lv_tableIn (off := 375) (tgt := 407) hx hb dL_law_32 (by rw [c11]; decide) (by rw [c11]; decide) (by rw [c11]; rfl) (by decide) ?_
      exact law_case_drink hL C1 hX hK hp0 hp70 hpc hrdc hs0 hs9 hsc htc hg0 hg9 hrw hln hrr hpm0 hpm70 i1 j1 hxn hm hrel hP hD hS hl hlt (fun H locs ls h => ih () H locs ls h)
    have d11 := zeqF (rfl : vs.toInt = _) (by decide : ((9 : Int32)).toInt = 9) c11
    by_cases c12 : vs = (10 : Int32)
    · refine lv_tableIn (off := 398) (tgt := 430) hx hb dL_law_32 (by rw [c12]; decide) (by rw [c12]; decide) (by rw [c12]; rfl) (by decide) ?_
      exact law_case_drunk hL C1 hX hK hp0 hp70 hpc hrdc hs0 hs9 hsc htc hg0 hg9 hrw hln hrr hpm0 hpm70 i1 j1 hxn hm hrel hP hD hS hl hlt (fun H locs ls h => ih () H locs ls h)
    have d12 := zeqF (rfl : vs.toInt = _) (by decide : ((10 : Int32)).toInt = 10) c12
    by_cases c13 : vs = (11 : Int32)
    · refine lv_tableIn (off := 432) (tgt := 464) hx hb dL_law_32 (by rw [c13]; decide) (by rw [c13]; decide) (by rw [c13]; rfl) (by decide) ?_
      exact law_case_clear hL C1 hX hK hp0 hp70 hpc hrdc hs0 hs9 hsc htc hg0 hg9 hrw hln hrr hpm0 hpm70 i1 j1 hxn hm hrel hP hD hS hl hlt (fun H locs ls h => ih () H locs ls h)
    have d13 := zeqF (rfl : vs.toInt = _) (by decide : ((11 : Int32)).toInt = 11) c13
    by_cases c14 : vs = (12 : Int32)
    · refine lv_tableIn (off := 445) (tgt := 477) hx hb dL_law_32 (by rw [c14]; decide) (by rw [c14]; decide) (by rw [c14]; rfl) (by decide) ?_
      exact law_case_need hL C1 hX hK hp0 hp70 hpc hrdc hs0 hs9 hsc htc hg0 hg9 hrw hln hrr hpm0 hpm70 i1 j1 hxn hm hrel hP hD hS hl hlt (fun H locs ls h => ih () H locs ls h)
    have d14 := zeqF (rfl : vs.toInt = _) (by decide : ((12 : Int32)).toInt = 12) c14
    by_cases c15 : vs = (13 : Int32)
    · refine lv_tableIn (off := 478) (tgt := 510) hx hb dL_law_32 (by rw [c15]; decide) (by rw [c15]; decide) (by rw [c15]; rfl) (by decide) ?_
      exact law_case_needAll hL C1 hX hK hp0 hp70 hpc hrdc hs0 hs9 hsc htc hg0 hg9 hrw hln hrr hpm0 hpm70 i1 j1 hxn hm hrel hP hD hS hl hlt (fun H locs ls h => ih () H locs ls h)
    have d15 := zeqF (rfl : vs.toInt = _) (by decide : ((13 : Int32)).toInt = 13) c15
    by_cases c16 : vs = (14 : Int32)
    · refine lv_tableIn (off := 501) (tgt := 533) hx hb dL_law_32 (by rw [c16]; decide) (by rw [c16]; decide) (by rw [c16]; rfl) (by decide) ?_
      exact law_case_change hL C1 hX hK hp0 hp70 hpc hrdc hs0 hs9 hsc htc hg0 hg9 hrw hln hrr hpm0 hpm70 i1 j1 hxn hm hrel hP hD hS hl hlt (fun H locs ls h => ih () H locs ls h)
    have d16 := zeqF (rfl : vs.toInt = _) (by decide : ((14 : Int32)).toInt = 14) c16
    by_cases c17 : vs = (15 : Int32)
    · refine lv_tableIn (off := 534) (tgt := 566) hx hb dL_law_32 (by rw [c17]; decide) (by rw [c17]; decide) (by rw [c17]; rfl) (by decide) ?_
      exact law_case_costs hL C1 hX hK hp0 hp70 hpc hrdc hs0 hs9 hsc htc hg0 hg9 hrw hln hrr hpm0 hpm70 i1 j1 hxn hm hrel hP hD hS hl hlt (fun H locs ls h => ih () H locs ls h)
    have d17 := zeqF (rfl : vs.toInt = _) (by decide : ((15 : Int32)).toInt = 15) c17
    by_cases c18 : vs = (16 : Int32)
    · refine lv_tableIn (off := 578) (tgt := 610) hx hb dL_law_32 (by rw [c18]; decide) (by rw [c18]; decide) (by rw [c18]; rfl) (by decide) ?_
      exact law_case_turn hL C1 hX hK hp0 hp70 hpc hrdc hs0 hs9 hsc htc hg0 hg9 hrw hln hrr hpm0 hpm70 i1 j1 hxn hm hrel hP hD hS hl hlt (fun H locs ls h => ih () H locs ls h)
    have d18 := zeqF (rfl : vs.toInt = _) (by decide : ((16 : Int32)).toInt = 16) c18
    by_cases c19 : vs = (17 : Int32)
    · refine lv_tableIn (off := 611) (tgt := 643) hx hb dL_law_32 (by rw [c19]; decide) (by rw [c19]; decide) (by rw [c19]; rfl) (by decide) ?_
      exact law_case_evening hL C1 hX hK hp0 hp70 hpc hrdc hs0 hs9 hsc htc hg0 hg9 hrw hln hrr hpm0 hpm70 i1 j1 hxn hm hrel hP hD hS hl hlt (fun H locs ls h => ih () H locs ls h)
    have d19 := zeqF (rfl : vs.toInt = _) (by decide : ((17 : Int32)).toInt = 17) c19
    by_cases c20 : vs = (18 : Int32)
    · refine lv_tableIn (off := 644) (tgt := 676) hx hb dL_law_32 (by rw [c20]; decide) (by rw [c20]; decide) (by rw [c20]; rfl) (by decide) ?_
      exact law_case_chips hL C1 hX hK hp0 hp70 hpc hrdc hs0 hs9 hsc htc hg0 hg9 hrw hln hrr hpm0 hpm70 i1 j1 hxn hm hrel hP hD hS hl hlt (fun H locs ls h => ih () H locs ls h)
    have d20 := zeqF (rfl : vs.toInt = _) (by decide : ((18 : Int32)).toInt = 18) c20
    by_cases c21 : vs = (19 : Int32)
    · refine lv_tableIn (off := 667) (tgt := 699) hx hb dL_law_32 (by rw [c21]; decide) (by rw [c21]; decide) (by rw [c21]; rfl) (by decide) ?_
      exact law_case_alike hL C1 hX hK hp0 hp70 hpc hrdc hs0 hs9 hsc htc hg0 hg9 hrw hln hrr hpm0 hpm70 i1 j1 hxn hm hrel hP hD hS hl hlt (fun H locs ls h => ih () H locs ls h)
    have d21 := zeqF (rfl : vs.toInt = _) (by decide : ((19 : Int32)).toInt = 19) c21
    by_cases c22 : vs = (20 : Int32)
    · refine lv_tableIn (off := 690) (tgt := 722) hx hb dL_law_32 (by rw [c22]; decide) (by rw [c22]; decide) (by rw [c22]; rfl) (by decide) ?_
      exact law_case_pourings hL C1 hX hK hp0 hp70 hpc hrdc hs0 hs9 hsc htc hg0 hg9 hrw hln hrr hpm0 hpm70 i1 j1 hxn hm hrel hP hD hS hl hlt (fun H locs ls h => ih () H locs ls h)
    have d22 := zeqF (rfl : vs.toInt = _) (by decide : ((20 : Int32)).toInt = 20) c22
    by_cases c23 : vs = (21 : Int32)
    · refine lv_tableIn (off := 733) (tgt := 765) hx hb dL_law_32 (by rw [c23]; decide) (by rw [c23]; decide) (by rw [c23]; rfl) (by decide) ?_
      exact law_case_image hL C1 hX hK hp0 hp70 hpc hrdc hs0 hs9 hsc htc hg0 hg9 hrw hln hrr hpm0 hpm70 i1 j1 hxn hm hrel hP hD hS hl hlt (fun H locs ls h => ih () H locs ls h)
    have d23 := zeqF (rfl : vs.toInt = _) (by decide : ((21 : Int32)).toInt = 21) c23
    by_cases c24 : vs = (22 : Int32)
    · refine lv_tableIn (off := 746) (tgt := 778) hx hb dL_law_32 (by rw [c24]; decide) (by rw [c24]; decide) (by rw [c24]; rfl) (by decide) ?_
      exact law_case_restore hL C1 hX hK hp0 hp70 hpc hrdc hs0 hs9 hsc htc hg0 hg9 hrw hln hrr hpm0 hpm70 i1 j1 hxn hm hrel hP hD hS hl hlt (fun H locs ls h => ih () H locs ls h)
    have d24 := zeqF (rfl : vs.toInt = _) (by decide : ((22 : Int32)).toInt = 22) c24
    by_cases c25 : vs = (23 : Int32)
    · refine lv_tableIn (off := 759) (tgt := 791) hx hb dL_law_32 (by rw [c25]; decide) (by rw [c25]; decide) (by rw [c25]; rfl) (by decide) ?_
      exact law_case_count hL C1 hX hK hp0 hp70 hpc hrdc hs0 hs9 hsc htc hg0 hg9 hrw hln hrr hpm0 hpm70 i1 j1 hxn hm hrel hP hD hS hl hlt (fun H locs ls h => ih () H locs ls h)
    have d25 := zeqF (rfl : vs.toInt = _) (by decide : ((23 : Int32)).toInt = 23) c25
    by_cases c26 : vs = (24 : Int32)
    · refine lv_tableIn (off := 782) (tgt := 814) hx hb dL_law_32 (by rw [c26]; decide) (by rw [c26]; decide) (by rw [c26]; rfl) (by decide) ?_
      exact law_case_digest hL C1 hX hK hp0 hp70 hpc hrdc hs0 hs9 hsc htc hg0 hg9 hrw hln hrr hpm0 hpm70 i1 j1 hxn hm hrel hP hD hS hl hlt (fun H locs ls h => ih () H locs ls h)
    have d26 := zeqF (rfl : vs.toInt = _) (by decide : ((24 : Int32)).toInt = 24) c26
    refine lv_tableOut (tgt := 828) hx hb dL_law_32 (by omega) (by decide) ?_
    exact law_case_skip hL C1 hX hK hp0 hp70 hpc hrdc hs0 hs9 hsc htc hg0 hg9 hrw hln hrr hpm0 hpm70 i1 j1 hxn hm hrel hP hD hS hl hlt (fun H locs ls h => ih () H locs ls h)
