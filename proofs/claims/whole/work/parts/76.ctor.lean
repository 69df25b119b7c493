/-! ===== the small constructors ===== -/
theorem newF0 : newF 0 = [.int 0, .int 0, .null] := by decide +kernel
theorem newF1 : newF 1 = [.int 0, .int 0, .int 0, .null, .null] := by decide +kernel
theorem newF2 : newF 2 = [.null, .null, .null, .int 0] := by decide +kernel
theorem newF3 : newF 3 = [.null, .null, .int 0, .int 0] := by decide +kernel
theorem newF4 : newF 4 = [.null, .int 0, .int 0, .int 0, .int 0, .int 0] := by decide +kernel
theorem newF5 : newF 5 = [.int 0, .int 0, .null, .null, .null, .null, .null] := by decide +kernel
theorem newF6 : newF 6 = [.null, .null, .null, .null, .null, .int 0, .null, .null, .null, .null, .null, .null, .null, .null, .null] := by decide +kernel
theorem newF7 : newF 7 = [.null, .int 0, .null, .null, .int 0, .int 0, .null, .null, .null, .null, .null, .null, .null, .int 0, .int 0, .int 0, .int 0, .int 0, .int 0, .null, .null, .null, .null, .null, .null, .null, .null, .null, .null, .null] := by decide +kernel
theorem tc2 : (2 : Int32).toNatClampNeg = 2 := by decide
theorem tc3 : (3 : Int32).toNatClampNeg = 3 := by decide
theorem tc4 : (4 : Int32).toNatClampNeg = 4 := by decide
theorem tc5 : (5 : Int32).toNatClampNeg = 5 := by decide
theorem tc6 : (6 : Int32).toNatClampNeg = 6 := by decide
theorem tc7 : (7 : Int32).toNatClampNeg = 7 := by decide
theorem tc8 : (8 : Int32).toNatClampNeg = 8 := by decide
theorem tc10 : (10 : Int32).toNatClampNeg = 10 := by decide
theorem tc12 : (12 : Int32).toNatClampNeg = 12 := by decide
theorem tc36 : (36 : Int32).toNatClampNeg = 36 := by decide
theorem tc200 : (200 : Int32).toNatClampNeg = 200 := by decide
theorem tc344 : (344 : Int32).toNatClampNeg = 344 := by decide
abbrev zF : vF := fun _ => 0
abbrev nulS : vS := (zF, zF, 0, 0)
theorem hg_hp_ne {h : aH} {z k : Nat} {e : aE} (hk : k ≠ hn h) : hg (hp h z e) k = hg h k := if_neg hk
theorem nw_State {X : aX} {d n : Nat} {h : aH} (e : hn h = n) : ∃ h', aEv X (d + 1) m_State_init [.ref n] (hp h 4 (.inr (3, newF 3))) none h' ∧ hn h' = n + 3 ∧ hz h' = hz h + 24 ∧ oState h' n nulS ∧ ∀ k, k < n → hg h' k = hg h k := by
  refine ⟨?H, ?R, ?F⟩
  case R =>
    refine ev_in mL_State_init rfl (Nat.le_of_ble_eq_true rfl) rfl ?_; show aRun _ _ _ _ 0 [.ref n] [] (hp h 4 (.inr (3, newF 3)))
    simp (disch := decide) only [x_State_init_0, x_State_init_1, x_State_init_4, x_State_init_5, x_State_init_7, x_State_init_9, x_State_init_12, x_State_init_13, x_State_init_15, x_State_init_17, x_State_init_20, x_State_init_21, x_State_init_22, x_State_init_25, x_State_init_26, x_State_init_27, x_State_init_30, if_true, if_false, ↓reduceIte, hg_hs, Nat.reduceEqDiff, and_true, true_and, and_self, false_and, and_false, not_true_eq_false, not_false_eq_true, Option.toList_some, Option.toList_none, List.cons_append, List.nil_append, List.length_nil, List.length_cons, Nat.zero_le, Nat.reduceAdd, Nat.reduceLeDiff, Nat.zero_add, nb0, nb1, ne_eq, i10, i01, eq_self, vni, nbi, rcv_e, rcE_mk, Nat.reduceLT, mKe_Ht_arrowOf, mKe_Ht_as, mKe_Ht_ask, mKe_Ht_back, mKe_Ht_beginAsTold, mKe_Ht_behind, mKe_Ht_commons, mKe_Ht_count, mKe_Ht_drop, mKe_Ht_erase, mKe_Ht_fault, mKe_Ht_fewestToKnit, mKe_Ht_find, mKe_Ht_foretell, mKe_Ht_forget, mKe_Ht_hang, mKe_Ht_hangs, mKe_Ht_hooks, mKe_Ht_house, mKe_Ht_housesOnRings, mKe_Ht_hungOnAll, mKe_Ht_isHouse, mKe_Ht_isOnRing, mKe_Ht_isThing, mKe_Ht_join, mKe_Ht_keep, mKe_Ht_kinds, mKe_Ht_knit, mKe_Ht_knitsBy, mKe_Ht_knitsBySending, mKe_Ht_leaves, mKe_Ht_patch, mKe_Ht_pieces, mKe_Ht_refusedAsSuch, mKe_Ht_remember, mKe_Ht_rings, mKe_Ht_seen, mKe_Ht_send, mKe_Ht_thing, mKe_Ht_thingsWhere, mKe_Ht_trade, mKe_Ht_undo, mKe_Ht_unhang, mKe_Ht_want, mKe_Ht_way, mKe_Ht_whole, mKe_Ht_worthOfAll, mKe_Ht_wouldUntie, mKe_Ht_write, mKe_Ht_year, mKe_Mod_allHanging, mKe_Mod_allWorth, mKe_Mod_arrow, mKe_Mod_as, mKe_Mod_ask, mKe_Mod_back, mKe_Mod_behind, mKe_Mod_commons, mKe_Mod_copyRow, mKe_Mod_count, mKe_Mod_drop, mKe_Mod_erase, mKe_Mod_fault, mKe_Mod_find, mKe_Mod_forget, mKe_Mod_hang, mKe_Mod_hangs, mKe_Mod_hooks, mKe_Mod_house, mKe_Mod_isHouse, mKe_Mod_isLoosed, mKe_Mod_isSendable, mKe_Mod_isThing, mKe_Mod_isTied, mKe_Mod_isWord, mKe_Mod_join, mKe_Mod_keep, mKe_Mod_keepPast, mKe_Mod_kindHere, mKe_Mod_kinds, mKe_Mod_knit, mKe_Mod_knitsByOne, mKe_Mod_knitsByTwo, mKe_Mod_layLinks, mKe_Mod_layTried, mKe_Mod_leaves, mKe_Mod_nextToken, mKe_Mod_noSuch, mKe_Mod_number, mKe_Mod_partOf, mKe_Mod_passes, mKe_Mod_patch, mKe_Mod_pieces, mKe_Mod_piecesIn, mKe_Mod_reads, mKe_Mod_readsClause, mKe_Mod_readsCommons, mKe_Mod_readsHouse, mKe_Mod_readsThing, mKe_Mod_readsWant, mKe_Mod_rings, mKe_Mod_seen, mKe_Mod_send, mKe_Mod_sendsOne, mKe_Mod_thing, mKe_Mod_thingsAt, mKe_Mod_thingsOf, mKe_Mod_tiedOnes, mKe_Mod_trade, mKe_Mod_undo, mKe_Mod_unhang, mKe_Mod_want, mKe_Mod_way, mKe_Mod_wears, mKe_Mod_whole, mKe_Mod_write, mKe_Mod_year, mKe_Net_draw, mKe_Net_endsOf, mKe_Net_links, mKe_Net_openLinkOutOf, mKe_Net_parts, mKe_Net_reachOf, mKe_Net_stepsBetween, mKe_Net_weightOfAllReached, mKe_Net_widened, mKe_Rack_firstPlaceOf, mKe_Rack_putAllBehind, mKe_Rack_putAt, mKe_Rack_renew, mKe_Rack_takeAway, mKe_Rack_takeFrom, mKe_Sights_fits, mKe_Sights_fittingKinds, mKe_Sights_note, mKe_State_beginAs, mKe_State_copyFrom, mKe_State_inside, mKe_State_leaveUntied, mKe_State_passYears, mKe_State_tied, mKe_State_wearAll, mKe_State_wearOf, mKe_Text_isWord, mKe_Text_kindHere, mKe_Text_readClause, mKe_Text_readHouse, mKe_Text_readInto, mKe_Text_readNumber, mKe_Text_readThing, mKe_Text_readWant, mKe_Text_step, mKe_Told_addThing, mKe_Told_clearAll, mKe_Told_copyFrom, gF_3_0, pF_3_0, gF_3_1, pF_3_1, gF_3_2, pF_3_2, gF_3_3, pF_3_3, hg_hp, hn_hp, hn_hs, e, newF3, tc10, rr1, rr2, rr3, rr4, rr5, rr6]
    exact rfl
  case F =>
    refine ⟨?_, ?_, ⟨?_, ?_, ?_⟩, fun k hk => ?_⟩
    · simp only [hn_hp, hn_hs, e]
    · simp only [hz_hp, hz_hs]
    · simp [hg_hs, hg_hp, hn_hp, hn_hs, e]
    · simp [hg_hs, hg_hp, hn_hp, hn_hs, e]
    · simp [hg_hs, hg_hp, hn_hp, hn_hs, e]
    · simp only [hg_hs, hg_hp, hn_hp, hn_hs, e, if_neg (show ¬ k = n by omega), if_neg (show ¬ k = n + 1 by omega), if_neg (show ¬ k = n + 2 by omega)]
