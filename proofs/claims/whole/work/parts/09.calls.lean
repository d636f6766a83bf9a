theorem am_okM_0 : ∀ q ∈ am_M0, am_okM q = true := List.forall_mem_cons.mpr ⟨ok_X0_none, List.forall_mem_cons.mpr ⟨ok_X0_offerLeast, List.forall_mem_cons.mpr ⟨ok_X0_offerMost, List.forall_mem_cons.mpr ⟨ok_X0_answer, List.forall_mem_cons.mpr ⟨ok_X1_leastHeard, List.forall_mem_cons.mpr ⟨ok_X1_leastBreaking, List.forall_mem_cons.mpr ⟨ok_X1_greatestHarmless, List.forall_mem_cons.mpr ⟨ok_X1_leastHarm, List.forall_mem_cons.mpr ⟨ok_X1_quietestTap, List.forall_mem_cons.mpr ⟨ok_X1_findDroppers, List.forall_mem_cons.mpr ⟨ok_X1_countDropping, List.forall_mem_cons.mpr ⟨ok_X1_kindsBy, List.forall_mem_cons.mpr ⟨ok_X1_figuresBy, List.forall_mem_cons.mpr ⟨ok_X1_strengths, List.forall_mem_cons.mpr ⟨ok_X2_firstBreakingDay, List.forall_mem_cons.mpr ⟨ok_X2_wholeBehind, List.forall_mem_cons.mpr ⟨ok_X2_brokenBehindAll, List.forall_mem_cons.mpr ⟨ok_X2_findOdds, List.forall_mem_cons.mpr ⟨ok_X2_power, List.forall_mem_cons.mpr ⟨ok_X2_commonDivisor, List.forall_mem_cons.mpr ⟨ok_X2_drawYears, List.forall_mem_cons.mpr ⟨ok_X2_draw, List.forall_mem_cons.mpr ⟨ok_X3_lossOf, List.forall_mem_cons.mpr ⟨ok_X3_standsOf, List.forall_mem_cons.mpr ⟨ok_X3_jumpBy, List.forall_mem_cons.mpr ⟨ok_X4_thingAt, List.forall_mem_cons.mpr ⟨ok_X4_mildest, List.forall_mem_cons.mpr ⟨ok_X4_mostBrokenBut, List.forall_mem_cons.mpr ⟨ok_X4_shortestWalk, List.forall_mem_cons.mpr ⟨ok_X4_sortByFarm, List.forall_mem_cons.mpr ⟨ok_X4_isAhead, List.forall_mem_cons.mpr ⟨ok_X5_keep, List.forall_mem_cons.mpr ⟨ok_X5_takeBack, fun _ h => absurd h List.not_mem_nil⟩⟩⟩⟩⟩⟩⟩⟩⟩⟩⟩⟩⟩⟩⟩⟩⟩⟩⟩⟩⟩⟩⟩⟩⟩⟩⟩⟩⟩⟩⟩⟩⟩
theorem am_okM_1 : ∀ q ∈ am_M1, am_okM q = true := List.forall_mem_cons.mpr ⟨ok_X5_forget, List.forall_mem_cons.mpr ⟨ok_X6_worstPlace, List.forall_mem_cons.mpr ⟨ok_X6_mildestCut, List.forall_mem_cons.mpr ⟨ok_X6_mostBroken, List.forall_mem_cons.mpr ⟨ok_X6_womansDrop, List.forall_mem_cons.mpr ⟨ok_X6_othersInSpite, List.forall_mem_cons.mpr ⟨ok_X6_mostAlike, List.forall_mem_cons.mpr ⟨ok_X6_addUnlike, List.forall_mem_cons.mpr ⟨ok_X6_allHeard, List.forall_mem_cons.mpr ⟨ok_X6_quietest, List.forall_mem_cons.mpr ⟨ok_X6_hearAll, List.forall_mem_cons.mpr ⟨ok_X6_mostHeard, List.forall_mem_cons.mpr ⟨ok_X6_mendHeardMost, List.forall_mem_cons.mpr ⟨ok_X6_figureHeardMost, List.forall_mem_cons.mpr ⟨ok_X6_longestLink, List.forall_mem_cons.mpr ⟨ok_X6_sparedBits, List.forall_mem_cons.mpr ⟨ok_X6_mutualTwos, List.forall_mem_cons.mpr ⟨ok_X7_hear, List.forall_mem_cons.mpr ⟨ok_X7_tellsJumps, List.forall_mem_cons.mpr ⟨ok_X7_firstNotInPlace, List.forall_mem_cons.mpr ⟨ok_X8_hear, List.forall_mem_cons.mpr ⟨ok_X8_firstMisfit, List.forall_mem_cons.mpr ⟨ok_X8_comeTo, List.forall_mem_cons.mpr ⟨ok_X8_refusalOf, List.forall_mem_cons.mpr ⟨ok_X8_act, List.forall_mem_cons.mpr ⟨ok_X8_blowIn, List.forall_mem_cons.mpr ⟨ok_X8_digit, List.forall_mem_cons.mpr ⟨ok_X8_isDigit, List.forall_mem_cons.mpr ⟨ok_X8_digitsBehind, List.forall_mem_cons.mpr ⟨ok_X9_strike, List.forall_mem_cons.mpr ⟨ok_X9_drop, List.forall_mem_cons.mpr ⟨ok_X9_spread, List.forall_mem_cons.mpr ⟨ok_X9_isHeardBy, fun _ h => absurd h List.not_mem_nil⟩⟩⟩⟩⟩⟩⟩⟩⟩⟩⟩⟩⟩⟩⟩⟩⟩⟩⟩⟩⟩⟩⟩⟩⟩⟩⟩⟩⟩⟩⟩⟩⟩
theorem am_okM_2 : ∀ q ∈ am_M2, am_okM q = true := List.forall_mem_cons.mpr ⟨ok_X9_hasBroken, List.forall_mem_cons.mpr ⟨ok_X9_hearerCount, List.forall_mem_cons.mpr ⟨ok_X9_brokenCount, List.forall_mem_cons.mpr ⟨ok_X9_othersBroken, List.forall_mem_cons.mpr ⟨ok_X9_jumpIn, List.forall_mem_cons.mpr ⟨ok_X9_jumpsIn, List.forall_mem_cons.mpr ⟨ok_X9_farthestIn, List.forall_mem_cons.mpr ⟨ok_X10_copy, List.forall_mem_cons.mpr ⟨ok_X10_noThing, List.forall_mem_cons.mpr ⟨ok_X10_noLink, List.forall_mem_cons.mpr ⟨ok_X10_joinRefusal, List.forall_mem_cons.mpr ⟨ok_X10_dropRefusal, List.forall_mem_cons.mpr ⟨ok_X10_mendRefusal, List.forall_mem_cons.mpr ⟨ok_X10_changeRefusal, List.forall_mem_cons.mpr ⟨ok_X10_join, List.forall_mem_cons.mpr ⟨ok_X10_mend, List.forall_mem_cons.mpr ⟨ok_X10_turnCut, List.forall_mem_cons.mpr ⟨ok_X10_exchange, List.forall_mem_cons.mpr ⟨ok_X10_isBroken, List.forall_mem_cons.mpr ⟨ok_X10_isCut, List.forall_mem_cons.mpr ⟨ok_X10_wholeBits, List.forall_mem_cons.mpr ⟨ok_X10_allLoss, List.forall_mem_cons.mpr ⟨ok_X10_nextWhole, List.forall_mem_cons.mpr ⟨ok_X10_wayOver, List.forall_mem_cons.mpr ⟨ok_X10_walkLength, List.forall_mem_cons.mpr ⟨ok_X10_stretches, List.forall_mem_cons.mpr ⟨ok_X10_layInTurnUncut, List.forall_mem_cons.mpr ⟨ok_X10_layNextOrder, List.forall_mem_cons.mpr ⟨ok_X11_feed, List.forall_mem_cons.mpr ⟨ok_X11_valley, List.forall_mem_cons.mpr ⟨ok_X11_thingOf, List.forall_mem_cons.mpr ⟨ok_X11_place, List.forall_mem_cons.mpr ⟨ok_X11_thing, fun _ h => absurd h List.not_mem_nil⟩⟩⟩⟩⟩⟩⟩⟩⟩⟩⟩⟩⟩⟩⟩⟩⟩⟩⟩⟩⟩⟩⟩⟩⟩⟩⟩⟩⟩⟩⟩⟩⟩
theorem am_okM_3 : ∀ q ∈ am_M3, am_okM q = true := List.forall_mem_cons.mpr ⟨ok_X11_drops, List.forall_mem_cons.mpr ⟨ok_X11_mends, List.forall_mem_cons.mpr ⟨ok_X11_cuts, List.forall_mem_cons.mpr ⟨ok_X11_changes, List.forall_mem_cons.mpr ⟨ok_X11_back, List.forall_mem_cons.mpr ⟨ok_X11_gets, List.forall_mem_cons.mpr ⟨ok_X11_blow, List.forall_mem_cons.mpr ⟨ok_X11_reaches, List.forall_mem_cons.mpr ⟨ok_X11_breaks, List.forall_mem_cons.mpr ⟨ok_X11_harm, List.forall_mem_cons.mpr ⟨ok_X11_tap, List.forall_mem_cons.mpr ⟨ok_X11_who, List.forall_mem_cons.mpr ⟨ok_X11_whatKind, List.forall_mem_cons.mpr ⟨ok_X11_worst, List.forall_mem_cons.mpr ⟨ok_X11_bestCut, List.forall_mem_cons.mpr ⟨ok_X11_order, List.forall_mem_cons.mpr ⟨ok_X11_walk, List.forall_mem_cons.mpr ⟨ok_X11_woman, List.forall_mem_cons.mpr ⟨ok_X11_lasts, List.forall_mem_cons.mpr ⟨ok_X11_left, List.forall_mem_cons.mpr ⟨ok_X11_chance, List.forall_mem_cons.mpr ⟨ok_X11_twins, List.forall_mem_cons.mpr ⟨ok_X11_hum, List.forall_mem_cons.mpr ⟨ok_X11_apart, List.forall_mem_cons.mpr ⟨ok_X11_heaps, List.forall_mem_cons.mpr ⟨ok_X11_codes, List.forall_mem_cons.mpr ⟨ok_X11_secret, List.forall_mem_cons.mpr ⟨ok_X11_tough, List.forall_mem_cons.mpr ⟨ok_X11_centre, List.forall_mem_cons.mpr ⟨ok_X11_bestMend, List.forall_mem_cons.mpr ⟨ok_X11_bestFigure, List.forall_mem_cons.mpr ⟨ok_X11_domino, List.forall_mem_cons.mpr ⟨ok_X11_longest, fun _ h => absurd h List.not_mem_nil⟩⟩⟩⟩⟩⟩⟩⟩⟩⟩⟩⟩⟩⟩⟩⟩⟩⟩⟩⟩⟩⟩⟩⟩⟩⟩⟩⟩⟩⟩⟩⟩⟩
theorem am_okM_4 : ∀ q ∈ am_M4, am_okM q = true := List.forall_mem_cons.mpr ⟨ok_X11_spared, List.forall_mem_cons.mpr ⟨ok_X11_mutual, List.forall_mem_cons.mpr ⟨ok_X11_row, List.forall_mem_cons.mpr ⟨ok_X11_judge, List.forall_mem_cons.mpr ⟨ok_X11_clear, List.forall_mem_cons.mpr ⟨ok_X11_lots, List.forall_mem_cons.mpr ⟨ok_X11_image, List.forall_mem_cons.mpr ⟨ok_X11_restore, List.forall_mem_cons.mpr ⟨ok_X11_count, List.forall_mem_cons.mpr ⟨ok_X11_refuse, List.forall_mem_cons.mpr ⟨ok_X11_rowTooLong, List.forall_mem_cons.mpr ⟨ok_X11_first, List.forall_mem_cons.mpr ⟨ok_X11_below, List.forall_mem_cons.mpr ⟨ok_X11_above, List.forall_mem_cons.mpr ⟨ok_X11_noBlow, List.forall_mem_cons.mpr ⟨ok_X11_unknown, List.forall_mem_cons.mpr ⟨ok_X12_no, List.forall_mem_cons.mpr ⟨ok_X12_lowest, List.forall_mem_cons.mpr ⟨ok_X12_isIn, List.forall_mem_cons.mpr ⟨ok_X12_bound, List.forall_mem_cons.mpr ⟨ok_X12_notBlow, List.forall_mem_cons.mpr ⟨ok_X12_has, List.forall_mem_cons.mpr ⟨ok_X12_bits, List.forall_mem_cons.mpr ⟨ok_X12_far, List.forall_mem_cons.mpr ⟨ok_X12_isThing, List.forall_mem_cons.mpr ⟨ok_X12_isLink, List.forall_mem_cons.mpr ⟨ok_X12_feed, List.forall_mem_cons.mpr ⟨ok_X12_next, List.forall_mem_cons.mpr ⟨ok_X12_readsDigits, List.forall_mem_cons.mpr ⟨ok_X12_readsAll, List.forall_mem_cons.mpr ⟨ok_X12_statement, List.forall_mem_cons.mpr ⟨ok_X12_comesDrop, List.forall_mem_cons.mpr ⟨ok_X12_comesOther, fun _ h => absurd h List.not_mem_nil⟩⟩⟩⟩⟩⟩⟩⟩⟩⟩⟩⟩⟩⟩⟩⟩⟩⟩⟩⟩⟩⟩⟩⟩⟩⟩⟩⟩⟩⟩⟩⟩⟩
theorem am_okM_5 : ∀ q ∈ am_M5, am_okM q = true := List.forall_mem_cons.mpr ⟨ok_X12_comes, List.forall_mem_cons.mpr ⟨ok_X12_valley, List.forall_mem_cons.mpr ⟨ok_X12_passes, List.forall_mem_cons.mpr ⟨ok_X12_passOne, List.forall_mem_cons.mpr ⟨ok_X12_passesAll, List.forall_mem_cons.mpr ⟨ok_X12_thinks, List.forall_mem_cons.mpr ⟨ok_X12_forgets, List.forall_mem_cons.mpr ⟨ok_X12_keepsBack, List.forall_mem_cons.mpr ⟨ok_X12_back, List.forall_mem_cons.mpr ⟨ok_X12_image, List.forall_mem_cons.mpr ⟨ok_X12_restore, List.forall_mem_cons.mpr ⟨ok_X12_adds, List.forall_mem_cons.mpr ⟨ok_X12_lossOf, List.forall_mem_cons.mpr ⟨ok_X12_standsOf, List.forall_mem_cons.mpr ⟨ok_X12_jumpOf, List.forall_mem_cons.mpr ⟨ok_X12_placeOf, List.forall_mem_cons.mpr ⟨ok_X12_lands, List.forall_mem_cons.mpr ⟨ok_X12_goesAlong, List.forall_mem_cons.mpr ⟨ok_X12_findBlow, List.forall_mem_cons.mpr ⟨ok_X12_breaksBy, List.forall_mem_cons.mpr ⟨ok_X12_manyGet, List.forall_mem_cons.mpr ⟨ok_X12_allJumps, List.forall_mem_cons.mpr ⟨ok_X12_thingOf, List.forall_mem_cons.mpr ⟨ok_X12_place, List.forall_mem_cons.mpr ⟨ok_X12_thing, List.forall_mem_cons.mpr ⟨ok_X12_drops, List.forall_mem_cons.mpr ⟨ok_X12_mends, List.forall_mem_cons.mpr ⟨ok_X12_cuts, List.forall_mem_cons.mpr ⟨ok_X12_exchanges, List.forall_mem_cons.mpr ⟨ok_X12_changes, List.forall_mem_cons.mpr ⟨ok_X12_notTwo, List.forall_mem_cons.mpr ⟨ok_X12_gets, List.forall_mem_cons.mpr ⟨ok_X12_whoGet, fun _ h => absurd h List.not_mem_nil⟩⟩⟩⟩⟩⟩⟩⟩⟩⟩⟩⟩⟩⟩⟩⟩⟩⟩⟩⟩⟩⟩⟩⟩⟩⟩⟩⟩⟩⟩⟩⟩⟩
theorem am_okM_6 : ∀ q ∈ am_M6, am_okM q = true := List.forall_mem_cons.mpr ⟨ok_X12_farthestFrom, List.forall_mem_cons.mpr ⟨ok_X12_blow, List.forall_mem_cons.mpr ⟨ok_X12_reaches, List.forall_mem_cons.mpr ⟨ok_X12_breaks, List.forall_mem_cons.mpr ⟨ok_X12_harm, List.forall_mem_cons.mpr ⟨ok_X12_tap, List.forall_mem_cons.mpr ⟨ok_X12_isSo, List.forall_mem_cons.mpr ⟨ok_X12_who, List.forall_mem_cons.mpr ⟨ok_X12_bitsFor, List.forall_mem_cons.mpr ⟨ok_X12_whatKind, List.forall_mem_cons.mpr ⟨ok_X12_worstOf, List.forall_mem_cons.mpr ⟨ok_X12_mostBroken, List.forall_mem_cons.mpr ⟨ok_X12_worst, List.forall_mem_cons.mpr ⟨ok_X12_bestCut, List.forall_mem_cons.mpr ⟨ok_X12_nextOrder, List.forall_mem_cons.mpr ⟨ok_X12_sorts, List.forall_mem_cons.mpr ⟨ok_X12_findOrder, List.forall_mem_cons.mpr ⟨ok_X12_order, List.forall_mem_cons.mpr ⟨ok_X12_findShortest, List.forall_mem_cons.mpr ⟨ok_X12_walkOf, List.forall_mem_cons.mpr ⟨ok_X12_shortestOf, List.forall_mem_cons.mpr ⟨ok_X12_walked, List.forall_mem_cons.mpr ⟨ok_X12_walk, List.forall_mem_cons.mpr ⟨ok_X12_others, List.forall_mem_cons.mpr ⟨ok_X12_leftToHer, List.forall_mem_cons.mpr ⟨ok_X12_woman, List.forall_mem_cons.mpr ⟨ok_X12_nextWhole, List.forall_mem_cons.mpr ⟨ok_X12_lasts, List.forall_mem_cons.mpr ⟨ok_X12_left, List.forall_mem_cons.mpr ⟨ok_X12_divisor, List.forall_mem_cons.mpr ⟨ok_X12_power, List.forall_mem_cons.mpr ⟨ok_X12_ways, List.forall_mem_cons.mpr ⟨ok_X12_chance, fun _ h => absurd h List.not_mem_nil⟩⟩⟩⟩⟩⟩⟩⟩⟩⟩⟩⟩⟩⟩⟩⟩⟩⟩⟩⟩⟩⟩⟩⟩⟩⟩⟩⟩⟩⟩⟩⟩⟩
theorem am_okM_7 : ∀ q ∈ am_M7, am_okM q = true := List.forall_mem_cons.mpr ⟨ok_X12_apartBy, List.forall_mem_cons.mpr ⟨ok_X12_twins, List.forall_mem_cons.mpr ⟨ok_X12_heardBy, List.forall_mem_cons.mpr ⟨ok_X12_hum, List.forall_mem_cons.mpr ⟨ok_X12_apart, List.forall_mem_cons.mpr ⟨ok_X12_heaps, List.forall_mem_cons.mpr ⟨ok_X12_codesOf, List.forall_mem_cons.mpr ⟨ok_X12_codes, List.forall_mem_cons.mpr ⟨ok_X12_secret, List.forall_mem_cons.mpr ⟨ok_X12_tough, List.forall_mem_cons.mpr ⟨ok_X12_centre, List.forall_mem_cons.mpr ⟨ok_X12_manyBy, List.forall_mem_cons.mpr ⟨ok_X12_bestMend, List.forall_mem_cons.mpr ⟨ok_X12_bestFigure, List.forall_mem_cons.mpr ⟨ok_X12_domino, List.forall_mem_cons.mpr ⟨ok_X12_linkOf, List.forall_mem_cons.mpr ⟨ok_X12_longest, List.forall_mem_cons.mpr ⟨ok_X12_spared, List.forall_mem_cons.mpr ⟨ok_X12_hears, List.forall_mem_cons.mpr ⟨ok_X12_mutual, List.forall_mem_cons.mpr ⟨ok_X12_row, List.forall_mem_cons.mpr ⟨ok_X12_judge, List.forall_mem_cons.mpr ⟨ok_X12_clear, List.forall_mem_cons.mpr ⟨ok_X12_draw, List.forall_mem_cons.mpr ⟨ok_X12_lots, List.forall_mem_cons.mpr ⟨ok_X12_count, List.forall_mem_cons.mpr ⟨ok_J6_bitCount_0f7a4, List.forall_mem_cons.mpr ⟨ok_J13_bitCount_95d88, fun _ h => absurd h List.not_mem_nil⟩⟩⟩⟩⟩⟩⟩⟩⟩⟩⟩⟩⟩⟩⟩⟩⟩⟩⟩⟩⟩⟩⟩⟩⟩⟩⟩⟩
theorem am_okM_all : ∀ q ∈ am_MT, am_okM q = true := by
  intro q h
  simp only [am_MT, List.mem_append] at h
  rcases h with h | h | h | h | h | h | h | h
  · exact am_okM_0 q h
  · exact am_okM_1 q h
  · exact am_okM_2 q h
  · exact am_okM_3 q h
  · exact am_okM_4 q h
  · exact am_okM_5 q h
  · exact am_okM_6 q h
  · exact am_okM_7 q h
section RW2
variable {p : Program} {l : Launch} {e : Env} {R : Room} {s : State} {m : MethodId} {args : Array Value} {below : List Frame} {meth : Method} {c : Code} {Q : State → Prop} {D : va_G} {ad : Nat → Nat} {cI cW : ClassId} {A : Nat → Prop} {n : Nat} {q : ME} {pc len : Nat} {raw : Instr} {L : AL} {S : List Value} {h : AH} {K : Option Value → AH → Prop}
/-- a contract of a method out of what is shown of its code -/
theorem am_met {id sz : Nat} {y : ME} {As : List Value} {K' : Option Value → AH → Prop} (hy : nth am_MT id = some y) (hA : am_Ax ad A h.length) (hent : am_ent As y.2.2.1 (fun L2 => am_SP l D ad cI cW id 0 L2 [] h K')) :
    Met l y.1 (am_ws y) (am_rm y) (va_Pc (As.map (am_cv ad)) (fun U => U.heap.size = sz ∧ va_P D am_cl (am_w ad cI cW h) U.heap ∧ va_K D am_cl (am_ty cI cW) U ∧ am_NW U)) (am_Q D ad cI cW (va_A (am_w ad cI cW h) sz) h.length K') 0 0 (va_A (am_w ad cI cW h) sz) := by
  have hok := am_ok_at hy
  simp only [am_okN, Bool.and_eq_true, decide_eq_true_eq] at hok
  obtain ⟨hcn, hpl, -, -⟩ := hok
  refine Met.ofW (cc := y.2.1) (maxL := y.2.2.1) (ret := y.2.2.2.1) hpl rfl ?_
  intro p e s m args below meth c s₁ B hml hv
  obtain ⟨rfl, hsz, hP, hK, hNW⟩ := hv
  have hts := atoms_spec (ws := am_ws y) B.pre
  have hown : s.vm.findClass y.1.cls = some m.cls := findClass_of_methodNamed B.named
  rw [hcn] at hown
  obtain ⟨L2, hSP, hlen, hsl, hmem⟩ := am_ent_sp ad As y.2.2.1 _ hent
  rw [lg_entry_eq]
  have hl := lv_entry (As.map (am_cv ad)) (n := y.2.2.1) hsl
  generalize (lg_sl (As.map (am_cv ad)) ++ List.replicate (y.2.2.1 - (lg_sl (As.map (am_cv ad))).length) Slot.unset).toArray = ls at hl ⊢
  subst hsz
  refine hSP y hy p e s m _ below meth c ⟨B.exec, B.bytes, B.returns, hml, hown, fun w h => hts w (List.mem_cons_of_mem _ h), B.notSynchronized, hK, hNW⟩ (va_A (am_w ad cI cW h) s.heap.size) ⟨⟨hA.1, fun i hi => ?_⟩, fun x hx => Or.inr hx⟩ s.heap [] ls hP va_S.rf rfl ⟨hl.1, hl.2.1, hlen, fun i v hv => hl.2.2 (i, am_cv ad v) (by simpa using hmem 0 i v hv)⟩
  exact Or.inl ⟨i, _, am_w_at (List.getElem?_eq_getElem hi)⟩
/-- behind a call -/
theorem am_call {H : Heap} {locs : List Loc} {ls : Array Slot} {st0 rest : List Value} {a : Array Value} {A1 free : Nat → Prop} {k : Nat} {K' : Option Value → AH → Prop} {H0 : Heap} (hr : va_Run p l e R s m args below meth c H locs 0 0 0 0 (F0 m pc ls st0) rest (am_Q D ad cI cW A1 k K' a) free) (hS : va_S A H0 H locs) (hA : ∀ x, A1 x → A x) (hf : ∀ x, free x → A x)
    (kk : ∀ (r : Option Value) (h1 : AH) (H1 : Heap) (locs1 : List Loc), K' r h1 → h1.length = k → va_P D am_cl (am_w ad cI cW h1) H1 → va_S A H0 H1 locs1 → W p l e R s m args below meth c H1 locs1 0 0 Q (F0 m (pc + 3) ls ((r.map (am_cv ad)).toList ++ rest))) : W p l e R s m args below meth c H locs 0 0 Q (F0 m pc ls st0) := by
  intro T hT X
  obtain ⟨v, st₀, t, T', L, h0, X', hL, e1, e2, ⟨r, h1, hv, hk, hn, hP, hz, hq⟩, st⟩ := hr T hT X
  cases hv
  rw [h0] at hz hq
  obtain ⟨t2, a1, b1⟩ := kk r h1 T'.heap (locs ++ L) hk hn (by rw [e1]; exact hP)
    ⟨Nat.le_trans hS.1 (by rw [e1]; exact hz), fun x g1 g2 => by rw [e1, hq x (Nat.lt_of_lt_of_le g1 hS.1) (fun z => g2 (hA x z))]; exact hS.2.1 x g1 g2, fun x hx => by
      rcases List.mem_append.mp hx with g | g
      · exact hS.2.2 x g
      · exact hf _ (hL x g)⟩ T' rfl X'
  exact ⟨t2, st t2 a1, b1⟩
theorem am_blind {av : List Value} {sz : Nat} : FrameBlind (va_Pc av (fun U => U.heap.size = sz ∧ va_P D am_cl (am_w ad cI cW h) U.heap ∧ va_K D am_cl (am_ty cI cW) U ∧ am_NW U)) := by
  rintro a U g mk ⟨q0, q1, q2, q3, q4⟩
  exact ⟨q0, q1, q2, va_K.moved (u := U) (U := U.calling g mk a) (Vm.Alike.refl U.vm) q3, am_NW_same (s := U) (U := U.calling g mk a) rfl q4⟩
theorem am_psh_map (r : Option Value) (S : List Value) : (am_psh r S).map (am_cv ad) = (r.map (am_cv ad)).toList ++ S.map (am_cv ad) := by cases r <;> rfl
theorem am_r_inv (X : am_Cx p s m args meth c D cI cW q) (hd : decode q.2.1 pc = .ok (raw, len)) (hA : am_Dx ad A n s) {r k : Nat} {C0 : Nat → List Value → AL → List Value → AH → Prop} (hC : ∀ id aa L S h, C0 id aa L S h → ∃ y, nth am_MT id = some y ∧ ∃ K2 : Option Value → AH → Prop, am_ent aa y.2.2.1 (fun L2 => am_SP l D ad cI cW id 0 L2 [] h K2) ∧ ∀ r h1, K2 r h1 → am_G p l e R s m args below meth c Q D ad cI cW A n q (pc + len) L (am_psh r S) h1) (ho : am_inv q.2.2.2.2.2.1 raw len r k = true) (hfit : ∀ y, nth am_MT (r / 100) = some y → y.2.2.2.2.2.2.1 + 1 ≤ R.frames ∧ 8 + (y.2.2.1 + 11) + y.2.2.2.2.2.2.2.1 ≤ R.locals) (hs : am_pop k S [] (fun aa S => bif Nat.ble (am_cat S) 8 then (match r % 100 with
      | 0 => C0 (r / 100) aa L S h
      | c + 1 => match aa with
        | .ref a :: _ => am_hg h a (fun q => match q with
          | .inr (.inr (ci, _)) => bif Nat.beq ci c then C0 (r / 100) aa L S h else False
          | _ => False)
        | _ => False) else False)) : am_G p l e R s m args below meth c Q D ad cI cW A n q pc L S h := by
  obtain ⟨hx, hb, hr, hml, hown, hts, hlk, hK, hNW⟩ := X
  obtain ⟨a, rest, hS0, hlen, h1⟩ := am_pop_sp _ _ _ _ hs
  obtain ⟨hb8, h2⟩ := am_if_sp h1
  simp only [List.append_nil] at h2
  subst hS0
  have hroom : ((rest.map (am_cv ad)).map fun v => v.category).sum ≤ 8 := by
    rw [am_cat_eq, am_cat_cv]
    exact Nat.le_of_ble_eq_true hb8
  have finish : ∀ (y : ME) (K2 : Option Value → AH → Prop) (H : Heap) (locs : List Loc) (ls : Array Slot) (aa : Array Value) (hy : nth am_MT (r / 100) = some y) (hlen3 : len = 3) (hR : ∀ r h1, K2 r h1 → am_G p l e R s m args below meth c Q D ad cI cW A n q (pc + len) L (am_psh r rest) h1) (hS : va_S A s.heap H locs) (hn : h.length = n) (hl : am_lr ad ls q.2.2.1 L)
      (hrun : va_Run p l e R s m args below meth c H locs 0 0 0 0 (F0 m pc ls ((a ++ rest).map (am_cv ad))) (rest.map (am_cv ad)) (am_Q D ad cI cW (va_A (am_w ad cI cW h) H.size) h.length K2 aa) (va_A (am_w ad cI cW h) H.size)), W p l e R s m args below meth c H locs 0 0 Q (F0 m pc ls ((a ++ rest).map (am_cv ad))) := by
    intro y K2 H locs ls aa hy hlen3 hR hS hn hl hrun
    subst hlen3
    have hfree : ∀ x, va_A (am_w ad cI cW h) H.size x → A x := by
      intro x hx
      rcases hx with ⟨j, z, hz⟩ | hx
      · exact (am_Ax_D (cI := cI) (cW := cW) (by rw [hn]; exact hA.1)).2 j _ hz
      · exact hA.2 x (Nat.le_trans hS.1 hx)
    refine am_call hrun hS hfree hfree (fun rr h1 H1 locs1 g1 g2 g3 g4 => ?_)
    rw [← am_psh_map]
    exact hR rr h1 g1 H1 locs1 ls g3 g4 (g2.trans hn) hl
  unfold am_inv at ho
  split at ho
  · rename_i idx
    simp only [Bool.and_eq_true, decide_eq_true_eq] at ho
    obtain ⟨ho1, ho2, ho3, ho4, ho5, ho6⟩ := ho
    have ho1 := Nat.eq_of_beq_eq_true ho1
    split at h2
    · rename_i hz
      rw [hz] at ho4
      exact absurd ho4 (by decide)
    · rename_i c1 hz
      split at h2
      · rename_i b As hargs
        obtain ⟨cc1, h3, h4⟩ := am_hg_sp _ _ _ h2
        split at h4
        · rename_i ci fs
          obtain ⟨h5, h6⟩ := am_if_sp h4
          obtain rfl := Nat.eq_of_beq_eq_true h5
          obtain ⟨y, hy, K2, h7, h8⟩ := hC _ _ _ _ _ h6
          rw [hz] at ho6
          have hz2 := am_ok_zip hy ho3 ho6
          simp only [am_okZ, am_okN, Bool.and_eq_true, decide_eq_true_eq, Bool.not_eq_true'] at hz2
          obtain ⟨⟨hcn, hpl, hn1, hn2⟩, hst, hpar, hcl⟩ := hz2
          split at hcl
          · rename_i z hz3
            simp only [decide_eq_true_eq] at hcl
            obtain rfl : a = (.ref b :: As).reverse := by rw [← hargs, List.reverse_reverse]
            intro H locs ls hP hS hn hl
            have hM := am_met (l := l) (D := D) (ad := ad) (cI := cI) (cW := cW) (h := h) (A := A) (sz := H.size) hy (by rw [hn]; exact hA.1) (by rw [List.reverse_reverse] at h7; exact h7)
            have hk : w_kind y = .instanceMethod y.1 := by unfold w_kind; rw [hst]; rfl
            have hse : w_sel y = .selects y.1.cls y.1 y.1 := by unfold w_sel; rw [hst]; rfl
            refine finish y K2 H locs ls _ hy ho1 h8 hS hn hl (va_runV (As := As.map (am_cv ad)) (rest := rest.map (am_cv ad)) (b := ad b) (C := y.1.cls) (n := k - 1) ⟨hx, hb, hml, hown, hts⟩ hM ⟨callB_of (k - 1) hts (am_good_ws hy) rfl rfl rfl (hts _ (am_ini_ts hy)) (hts _ (am_ml_at ho2 hy)) ⟨hn1, hn2, hpar⟩ (hfit y hy), by rw [← hk]; exact hts _ (am_kind_ts hy), by rw [← hse]; exact hts _ (am_sel_ts hy)⟩ ⟨am_blind, ?_, fun U hU hW => ⟨rfl, by rw [hU], by rw [hU]; exact hP, va_K.moved hW.alike hK, am_NW_warm hW hNW⟩⟩ rfl ?_ hl.1 ?_ (lv_room hroom) (by rw [ho1] at hd; exact hd) ⟨Nat.zero_le _, Nat.zero_le _⟩)
            · have := va_recv (D := D) (cl := am_cl) hK hP (ci := ci) (q0 := b) (q := z) (by rw [← nth_eq]; exact hz3) (am_w_at h3)
              rw [← hcl]
              exact this
            · simp only [List.length_reverse, List.length_cons] at hlen
              simp only [List.length_map]
              omega
            · show (((Value.ref b :: As).reverse ++ rest).map (am_cv ad)) = _
              simp only [List.reverse_cons, List.map_append, List.map_reverse, List.map_cons, List.map_nil, List.append_assoc, List.cons_append, List.nil_append, am_cv]
          · cases hcl
        · exact h4.elim
      · exact h2.elim
  · rename_i idx
    simp only [Bool.and_eq_true, decide_eq_true_eq, Bool.or_eq_true] at ho
    obtain ⟨ho1, ho2, ho3, ho4, ho5⟩ := ho
    have ho1 := Nat.eq_of_beq_eq_true ho1
    have ho4 := Nat.eq_of_beq_eq_true ho4
    rw [ho4] at h2
    obtain ⟨y, hy, K2, h7, h8⟩ := hC _ _ _ _ _ h2
    have hz2 := am_ok_zip hy ho3 ho5
    simp only [am_okZ, am_okN, Bool.and_eq_true, decide_eq_true_eq] at hz2
    obtain ⟨⟨hcn, hpl, hn1, hn2⟩, hst, hpar⟩ := hz2
    intro H locs ls hP hS hn hl
    have hM := am_met (l := l) (D := D) (ad := ad) (cI := cI) (cW := cW) (h := h) (A := A) (sz := H.size) hy (by rw [hn]; exact hA.1) h7
    have hk : w_kind y = .static y.1 := by unfold w_kind; rw [hst]; rfl
    have hstt : (Jvm.Cond.static y.1).before args s = true := by rw [← hk]; exact hts _ (am_kind_ts hy)
    have hpre : PreS s H (va_Pc (a.reverse.map (am_cv ad)) (fun U => U.heap.size = H.size ∧ va_P D am_cl (am_w ad cI cW h) U.heap ∧ va_K D am_cl (am_ty cI cW) U ∧ am_NW U)) (a.reverse.map (am_cv ad)) := ⟨am_blind, fun U hU hW => ⟨rfl, by rw [hU], by rw [hU]; exact hP, va_K.moved hW.alike hK, am_NW_warm hW hNW⟩⟩
    have hstk : (F0 m pc ls ((a ++ rest).map (am_cv ad))).stack = (a.reverse.map (am_cv ad)).reverse ++ rest.map (am_cv ad) := by
      show ((a ++ rest).map (am_cv ad)) = _
      simp only [List.map_append, List.map_reverse, List.reverse_reverse]
    rcases ho2 with ho2 | ho2
    · exact finish y K2 H locs ls _ hy ho1 h8 hS hn hl (va_runS (n := k) ⟨hx, hb, hml, hown, hts⟩ hM ⟨callB_of k hts (am_good_ws hy) rfl rfl rfl (hts _ (am_ini_ts hy)) (hts _ (am_ml_at ho2 hy)) ⟨hn1, hn2, hpar⟩ (hfit y hy), hstt⟩ hpre rfl (by simpa using hlen) hl.1 hstk (lv_room hroom) (by rw [ho1] at hd; exact hd) ⟨Nat.zero_le _, Nat.zero_le _⟩)
    · exact finish y K2 H locs ls _ hy ho1 h8 hS hn hl (va_runSN (n := k) (host := "RivetedSisters") ⟨hx, hb, hml, hown, hts⟩ hM ⟨va_cnB k hts (am_good_ws hy) rfl rfl rfl (am_nl_at ho2 hy hNW) (hts _ (am_ini_ts hy)) ⟨hn1, hn2, hpar⟩ (hfit y hy), hstt, trivial⟩ hpre rfl (by simpa using hlen) hl.1 hstk (lv_room hroom) (by rw [ho1] at hd; exact hd) ⟨Nat.zero_le _, Nat.zero_le _⟩)
  · cases ho
theorem am_r_ireturn (X : am_Cx p s m args meth c D cI cW q) (hd : decode q.2.1 pc = .ok (raw, len)) (ho : (decide (raw = .ireturn) && (Nat.beq len 1 && decide (q.2.2.2.1 = some .int))) = true) (hs : match S with | [.int x] => K (some (.int x)) h | _ => False) : am_G p l e R s m args below meth c (MQ below (am_Q D ad cI cW A n K) args s 0 0 A) D ad cI cW A n q pc L S h := by
  obtain ⟨hx, hb, hr, hml, hown, hts, hlk, hK, hNW⟩ := X
  simp only [Bool.and_eq_true, decide_eq_true_eq] at ho
  obtain ⟨rfl, h1, h2⟩ := ho
  obtain rfl := Nat.eq_of_beq_eq_true h1
  split at hs
  · rename_i x
    intro H locs ls hP hS hn hl
    have hk := hs
    exact W.iret (v := x) hx hb (hr.trans h2) (fun t ht hW => ⟨some (.int x), h, rfl, hk, hn, by rw [ht]; exact hP, hS.F ht⟩) hS.2.2 hd (hlocks := hlk)
  · exact hs.elim
theorem am_r_dreturn (X : am_Cx p s m args meth c D cI cW q) (hd : decode q.2.1 pc = .ok (raw, len)) (ho : (decide (raw = .ireturn) && (Nat.beq len 1 && decide (q.2.2.2.1 = some .boolean))) = true) (hs : match S with | [.int x] => (x = 0 ∨ x = 1) ∧ K (some (.int x)) h | _ => False) : am_G p l e R s m args below meth c (MQ below (am_Q D ad cI cW A n K) args s 0 0 A) D ad cI cW A n q pc L S h := by
  obtain ⟨hx, hb, hr, hml, hown, hts, hlk, hK, hNW⟩ := X
  simp only [Bool.and_eq_true, decide_eq_true_eq] at ho
  obtain ⟨rfl, h1, h2⟩ := ho
  obtain rfl := Nat.eq_of_beq_eq_true h1
  split at hs
  · rename_i x
    intro H locs ls hP hS hn hl
    have hk := hs.2
    have hnar : narrow .boolean (.int x) = .int x := by rcases hs.1 with rfl | rfl <;> decide
    exact W.zret (v := x) hx hb (hr.trans h2) hnar (fun t ht hW => ⟨some (.int x), h, rfl, hk, hn, by rw [ht]; exact hP, hS.F ht⟩) hS.2.2 hd (hlocks := hlk)
  · exact hs.elim
theorem am_r_lreturn (X : am_Cx p s m args meth c D cI cW q) (hd : decode q.2.1 pc = .ok (raw, len)) (ho : (decide (raw = .lreturn) && (Nat.beq len 1 && decide (q.2.2.2.1 = some .long))) = true) (hs : match S with | [.long x] => K (some (.long x)) h | _ => False) : am_G p l e R s m args below meth c (MQ below (am_Q D ad cI cW A n K) args s 0 0 A) D ad cI cW A n q pc L S h := by
  obtain ⟨hx, hb, hr, hml, hown, hts, hlk, hK, hNW⟩ := X
  simp only [Bool.and_eq_true, decide_eq_true_eq] at ho
  obtain ⟨rfl, h1, h2⟩ := ho
  obtain rfl := Nat.eq_of_beq_eq_true h1
  split at hs
  · rename_i x
    intro H locs ls hP hS hn hl
    have hk := hs
    exact W.lret (v := x) hx hb (hr.trans h2) (fun t ht hW => ⟨some (.long x), h, rfl, hk, hn, by rw [ht]; exact hP, hS.F ht⟩) hS.2.2 hd (hlocks := hlk)
  · exact hs.elim
theorem am_r_return_ (X : am_Cx p s m args meth c D cI cW q) (hd : decode q.2.1 pc = .ok (raw, len)) (ho : (decide (raw = .return_) && (Nat.beq len 1 && decide (q.2.2.2.1 = none))) = true) (hs : match S with | [] => K none h | _ => False) : am_G p l e R s m args below meth c (MQ below (am_Q D ad cI cW A n K) args s 0 0 A) D ad cI cW A n q pc L S h := by
  obtain ⟨hx, hb, hr, hml, hown, hts, hlk, hK, hNW⟩ := X
  simp only [Bool.and_eq_true, decide_eq_true_eq] at ho
  obtain ⟨rfl, h1, h2⟩ := ho
  obtain rfl := Nat.eq_of_beq_eq_true h1
  split at hs
  · intro H locs ls hP hS hn hl
    have hk := hs
    exact W.vret hx hb (hr.trans h2) (fun t ht hW => ⟨none, h, rfl, hk, hn, by rw [ht]; exact hP, hS.F ht⟩) hS.2.2 hd (hlocks := hlk)
  · exact hs.elim
theorem am_r_areturn (X : am_Cx p s m args meth c D cI cW q) (hd : decode q.2.1 pc = .ok (raw, len)) (ho : (decide (raw = .areturn) && (Nat.beq len 1 && (match q.2.2.2.1 with | some (.object _) => true | _ => false))) = true) (hs : match S with | [.ref x] => K (some (.ref x)) h | _ => False) : am_G p l e R s m args below meth c (MQ below (am_Q D ad cI cW A n K) args s 0 0 A) D ad cI cW A n q pc L S h := by
  obtain ⟨hx, hb, hr, hml, hown, hts, hlk, hK, hNW⟩ := X
  simp only [Bool.and_eq_true, decide_eq_true_eq] at ho
  obtain ⟨rfl, h1, h2⟩ := ho
  obtain rfl := Nat.eq_of_beq_eq_true h1
  split at hs
  · rename_i x
    intro H locs ls hP hS hn hl
    have hk := hs
    split at h2
    · rename_i cn hcn
      exact W.aret (v := .ref (ad x)) hx hb (hr.trans hcn) (Or.inl ⟨_, rfl⟩) (Or.inr ⟨_, rfl⟩) (fun t ht hW => ⟨some (.ref x), h, rfl, hk, hn, by rw [ht]; exact hP, hS.F ht⟩) hS.2.2 hd (hlocks := hlk)
    · cases h2
  · exact hs.elim
end RW2
