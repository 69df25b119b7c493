/-! ===== tools: cells written twice, ranges ===== -/
theorem hs_hs {h : aH} {k : Nat} {e e' : aE} : hs (hs h k e) k e' = hs h k e' := by
  unfold hs
  refine Prod.ext rfl (Prod.ext rfl (funext fun j => ?_))
  by_cases q : j = k
  · simp only [q, if_true]
  · simp only [q, if_false]
theorem hs_id {h : aH} {k : Nat} {e : aE} (q : hg h k = e) : hs h k e = h := by
  subst q
  unfold hs
  refine Prod.ext rfl (Prod.ext rfl (funext fun j => ?_))
  by_cases q : j = k
  · subst q; exact if_pos rfl
  · exact if_neg q
theorem hs_cm {h : aH} {k j : Nat} {e e' : aE} (q : j ≠ k) : hs (hs h k e) j e' = hs (hs h j e') k e := by
  unfold hs
  refine Prod.ext rfl (Prod.ext rfl (funext fun i => ?_))
  by_cases q1 : i = j
  · subst q1; simp only [if_true, q, if_false]
  · simp only [q1, if_false]
theorem inF_w (a b c : Int32) : inF a.toInt64 b.toInt64 c.toInt64 = if b ≤ a ∧ a ≤ c then 1 else 0 := by
  unfold inF
  simp only [fa_wide_le]
theorem inF_255 (a : Int32) : inF a.toInt64 0 255 = if 0 ≤ a ∧ a ≤ 255 then 1 else 0 := inF_w a 0 255
theorem inF_1 (a : Int32) : inF a.toInt64 0 1 = if 0 ≤ a ∧ a ≤ 1 then 1 else 0 := inF_w a 0 1
theorem inF_2 (a : Int32) : inF a.toInt64 0 2 = if 0 ≤ a ∧ a ≤ 2 then 1 else 0 := inF_w a 0 2
theorem inF_4 (a : Int32) : inF a.toInt64 0 4 = if 0 ≤ a ∧ a ≤ 4 then 1 else 0 := inF_w a 0 4
theorem inF_5 (a : Int32) : inF a.toInt64 0 5 = if 0 ≤ a ∧ a ≤ 5 then 1 else 0 := inF_w a 0 5
theorem inF_25 (a : Int32) : inF a.toInt64 0 25 = if 0 ≤ a ∧ a ≤ 25 then 1 else 0 := inF_w a 0 25
theorem inF_60 (a : Int32) : inF a.toInt64 0 60 = if 0 ≤ a ∧ a ≤ 60 then 1 else 0 := inF_w a 0 60
theorem inF_99 (a : Int32) : inF a.toInt64 0 99 = if 0 ≤ a ∧ a ≤ 99 then 1 else 0 := inF_w a 0 99
theorem inF_112 (a : Int32) : inF a.toInt64 1 12 = if 1 ≤ a ∧ a ≤ 12 then 1 else 0 := inF_w a 1 12
theorem inF_120 (a : Int32) : inF a.toInt64 1 20 = if 1 ≤ a ∧ a ≤ 20 then 1 else 0 := inF_w a 1 20
theorem inF_199 (a : Int32) : inF a.toInt64 1 99 = if 1 ≤ a ∧ a ≤ 99 then 1 else 0 := inF_w a 1 99
theorem inF_m3 (a : Int32) : inF a.toInt64 (-1) 3 = if (-1) ≤ a ∧ a ≤ 3 then 1 else 0 := inF_w a (-1) 3
theorem inF_9999 (a : Int32) : inF a.toInt64 (-9999) 9999 = if (-9999) ≤ a ∧ a ≤ 9999 then 1 else 0 := inF_w a (-9999) 9999
theorem inF_let (a : Int32) : inF a.toInt64 97 122 = if 97 ≤ a ∧ a ≤ 122 then 1 else 0 := inF_w a 97 122
theorem inF_dig (a : Int32) : inF a.toInt64 48 57 = if 48 ≤ a ∧ a ≤ 57 then 1 else 0 := inF_w a 48 57
theorem c3 (a lo hi : Int32) (q : lo ≤ hi) : (a < lo ∧ ¬ lo ≤ a ∧ a ≤ hi ∧ ¬ hi < a) ∨ (¬ a < lo ∧ lo ≤ a ∧ a ≤ hi ∧ ¬ hi < a) ∨ (¬ a < lo ∧ lo ≤ a ∧ ¬ a ≤ hi ∧ hi < a) := by
  rw [fa_le] at q
  simp only [fa_lt, fa_le]
  omega
theorem c3n {a lo hi : Int32} {L : Nat} (hlo : lo.toInt = L) {H : Nat} (hhi : hi.toInt = H) (q : ¬ a < lo ∧ lo ≤ a ∧ a ≤ hi ∧ ¬ hi < a) : ∃ k, L ≤ k ∧ k ≤ H ∧ a = nI k := by
  simp only [fa_lt, fa_le] at q
  have e := fb_asI a
  have hr := fb_rng a
  refine ⟨a.toInt.toNat, by omega, by omega, ?_⟩
  rw [fa_eq, nI_toInt (by omega)]
  omega
theorem c2 (a : Int32) {n : Nat} (hn : n < 2 ^ 31) : (a < 0 ∧ ¬ 0 ≤ a) ∨ (¬ a < 0 ∧ 0 ≤ a ∧ nI n ≤ a ∧ ¬ a < nI n) ∨ (∃ k, k < n ∧ a = nI k) := by
  rcases pk_ix a hn with q | q | q
  · left; simp only [fa_lt, fa_le] at *; omega
  · right; left
    have := nI_toInt hn
    simp only [fa_lt, fa_le] at *
    have e0 : (0 : Int32).toInt = 0 := rfl
    omega
  · right; right; exact q
theorem inF_h (a : Int32) {n : Nat} (hn : n < 2 ^ 31) : inF a.toInt64 0 (nI n - 1).toInt64 = if 0 ≤ a ∧ a < nI n then 1 else 0 := by
  have e := inF_w a 0 (nI n - 1)
  have e2 : (0 : Int32).toInt64 = 0 := rfl
  rw [e2] at e
  rw [e]
  have h1 := nI_toInt hn
  have e1 : (1 : Int32).toInt = 1 := rfl
  have h3 : (nI n - 1).toInt = (n : Int) - 1 := by rw [fb_subI (by rw [h1, e1]; omega) (by rw [h1, e1]; omega), h1, e1]
  have : (0 ≤ a ∧ a ≤ nI n - 1) ↔ (0 ≤ a ∧ a < nI n) := by
    simp only [fa_lt, fa_le, h1, h3]
    omega
  simp only [this]
theorem nI_hs {k n : Nat} (h : k < n) (hn : n < 2 ^ 31) : (0 ≤ nI k) = True ∧ (nI k < nI n) = True ∧ (nI k < 0) = False ∧ (nI n ≤ nI k) = False :=
  ⟨eq_true (nI_pos' (by omega)), eq_true (nI_lt h hn), eq_false (nI_pos (by omega)), eq_false (nI_ge h hn)⟩
theorem lq0 : (0 : Int32) = nI 0 := rfl
theorem lq1 : (1 : Int32) = nI 1 := rfl
theorem lq2 : (2 : Int32) = nI 2 := rfl
theorem lq3 : (3 : Int32) = nI 3 := rfl
theorem lq7 : (7 : Int32) = nI 7 := rfl
theorem lq10 : (10 : Int32) = nI 10 := rfl
theorem nI_m1 {n : Nat} (h : n < 2 ^ 31) : nI n ≠ -1 := by
  intro e
  rw [fa_eq, nI_toInt h] at e
  have : (-1 : Int32).toInt = -1 := rfl
  omega
theorem nI_m1' {n : Nat} (h : n < 2 ^ 31) : (-1 : Int32) ≠ nI n := fun e => nI_m1 h e.symm
/-- the row's cell k, read -/
theorem aL_n {n k : Nat} {f : vF} {K : Int32 → Prop} (hk : k < n) (hn : n < 2 ^ 31) : aL (.inl (.int, n, .inl f)) .int (nI k) K ↔ K (f k) := by
  rw [aL_mk, nI_clamp (by omega)]
  exact and_iff_right (vp_in_nI hk hn)
theorem aS_n {n k : Nat} {f : vF} {x : Int32} {K : aE → Prop} (hk : k < n) (hn : n < 2 ^ 31) : aS (.inl (.int, n, .inl f)) .int (nI k) x K ↔ K (.inl (.int, n, .inl (upd f k x))) := by
  rw [aS_int, nI_clamp (by omega)]
  exact and_iff_right (vp_in_nI hk hn)
theorem aL_b {n k : Nat} {f : vF} {K : Int32 → Prop} {t : FieldType} (hk : k < n) (hn : n < 2 ^ 31) : aL (.inl (t, n, .inl f)) t (nI k) K ↔ K (f k) := by
  rw [aL_mk, nI_clamp (by omega)]
  exact and_iff_right (vp_in_nI hk hn)
theorem aS_b {n k : Nat} {f : vF} {x : Int32} {K : aE → Prop} {t : FieldType} (hk : k < n) (hn : n < 2 ^ 31) : aS (.inl (t, n, .inl f)) t (nI k) x K ↔ K (.inl (t, n, .inl (upd f k (vp_nar t x)))) := by
  rw [aS_mk, nI_clamp (by omega)]
  exact and_iff_right (vp_in_nI hk hn)
theorem nar_0 : vp_nar .boolean 0 = 0 := by decide
theorem nar_1 : vp_nar .boolean 1 = 1 := by decide
theorem nar_c {q : Nat} (h : q < 65536) : vp_nar .char (nI q) = nI q := by rw [vp_nar_char, fb_char h]
theorem aaL_mk {D : String} {n k a : Nat} {g : Nat → Option Nat} {K : Value → Prop} (hk : k < n) (hn : n < 2 ^ 31) (hg9 : g k = some a) : aaL (.inl (.object D, n, .inr g)) (nI k) K ↔ K (.ref a) := by
  constructor
  · rintro ⟨D2, n2, g2, a2, e, h1, h2, h3⟩
    cases e
    rw [nI_clamp (by omega), hg9] at h2
    cases h2
    exact h3
  · intro q
    exact ⟨D, n, g, a, rfl, vp_in_nI hk hn, by rw [nI_clamp (by omega)]; exact hg9, q⟩
theorem i10 : ((1 : Int32) = 0) = False := by decide
theorem i01 : ((0 : Int32) = 1) = False := by decide
/-- a receiver, by its cell -/
def rcE (e : aE) (k : Nat) : Prop := match e with
  | .inr (c, _) => c = k ∧ c < 8
  | .inl _ => False
theorem rcv_e {h : aH} {k a : Nat} : (rcv h k (.ref a) = true) = rcE (hg h a) k := by
  simp only [rcv, rcE]
  generalize hg h a = e
  cases e with
  | inl e => simp
  | inr e => simp
theorem rcE_mk {c k : Nat} {fs : List Value} : rcE (.inr (c, fs)) k = (c = k ∧ c < 8) := rfl
theorem mKe_Ht_arrowOf : mK m_Ht_arrowOf = 6 := rfl
theorem mKe_Ht_as : mK m_Ht_as = 6 := rfl
theorem mKe_Ht_ask : mK m_Ht_ask = 6 := rfl
theorem mKe_Ht_back : mK m_Ht_back = 6 := rfl
theorem mKe_Ht_beginAsTold : mK m_Ht_beginAsTold = 6 := rfl
theorem mKe_Ht_behind : mK m_Ht_behind = 6 := rfl
theorem mKe_Ht_commons : mK m_Ht_commons = 6 := rfl
theorem mKe_Ht_count : mK m_Ht_count = 6 := rfl
theorem mKe_Ht_drop : mK m_Ht_drop = 6 := rfl
theorem mKe_Ht_erase : mK m_Ht_erase = 6 := rfl
theorem mKe_Ht_fault : mK m_Ht_fault = 6 := rfl
theorem mKe_Ht_fewestToKnit : mK m_Ht_fewestToKnit = 6 := rfl
theorem mKe_Ht_find : mK m_Ht_find = 6 := rfl
theorem mKe_Ht_foretell : mK m_Ht_foretell = 6 := rfl
theorem mKe_Ht_forget : mK m_Ht_forget = 6 := rfl
theorem mKe_Ht_hang : mK m_Ht_hang = 6 := rfl
theorem mKe_Ht_hangs : mK m_Ht_hangs = 6 := rfl
theorem mKe_Ht_hooks : mK m_Ht_hooks = 6 := rfl
theorem mKe_Ht_house : mK m_Ht_house = 6 := rfl
theorem mKe_Ht_housesOnRings : mK m_Ht_housesOnRings = 6 := rfl
theorem mKe_Ht_hungOnAll : mK m_Ht_hungOnAll = 6 := rfl
theorem mKe_Ht_isHouse : mK m_Ht_isHouse = 6 := rfl
theorem mKe_Ht_isOnRing : mK m_Ht_isOnRing = 6 := rfl
theorem mKe_Ht_isThing : mK m_Ht_isThing = 6 := rfl
theorem mKe_Ht_join : mK m_Ht_join = 6 := rfl
theorem mKe_Ht_keep : mK m_Ht_keep = 6 := rfl
theorem mKe_Ht_kinds : mK m_Ht_kinds = 6 := rfl
theorem mKe_Ht_knit : mK m_Ht_knit = 6 := rfl
theorem mKe_Ht_knitsBy : mK m_Ht_knitsBy = 6 := rfl
theorem mKe_Ht_knitsBySending : mK m_Ht_knitsBySending = 6 := rfl
theorem mKe_Ht_leaves : mK m_Ht_leaves = 6 := rfl
theorem mKe_Ht_patch : mK m_Ht_patch = 6 := rfl
theorem mKe_Ht_pieces : mK m_Ht_pieces = 6 := rfl
theorem mKe_Ht_refusedAsSuch : mK m_Ht_refusedAsSuch = 6 := rfl
theorem mKe_Ht_remember : mK m_Ht_remember = 6 := rfl
theorem mKe_Ht_rings : mK m_Ht_rings = 6 := rfl
theorem mKe_Ht_seen : mK m_Ht_seen = 6 := rfl
theorem mKe_Ht_send : mK m_Ht_send = 6 := rfl
theorem mKe_Ht_thing : mK m_Ht_thing = 6 := rfl
theorem mKe_Ht_thingsWhere : mK m_Ht_thingsWhere = 6 := rfl
theorem mKe_Ht_trade : mK m_Ht_trade = 6 := rfl
theorem mKe_Ht_undo : mK m_Ht_undo = 6 := rfl
theorem mKe_Ht_unhang : mK m_Ht_unhang = 6 := rfl
theorem mKe_Ht_want : mK m_Ht_want = 6 := rfl
theorem mKe_Ht_way : mK m_Ht_way = 6 := rfl
theorem mKe_Ht_whole : mK m_Ht_whole = 6 := rfl
theorem mKe_Ht_worthOfAll : mK m_Ht_worthOfAll = 6 := rfl
theorem mKe_Ht_wouldUntie : mK m_Ht_wouldUntie = 6 := rfl
theorem mKe_Ht_write : mK m_Ht_write = 6 := rfl
theorem mKe_Ht_year : mK m_Ht_year = 6 := rfl
theorem mKe_Mod_allHanging : mK m_Mod_allHanging = 7 := rfl
theorem mKe_Mod_allWorth : mK m_Mod_allWorth = 7 := rfl
theorem mKe_Mod_arrow : mK m_Mod_arrow = 7 := rfl
theorem mKe_Mod_as : mK m_Mod_as = 7 := rfl
theorem mKe_Mod_ask : mK m_Mod_ask = 7 := rfl
theorem mKe_Mod_back : mK m_Mod_back = 7 := rfl
theorem mKe_Mod_behind : mK m_Mod_behind = 7 := rfl
theorem mKe_Mod_commons : mK m_Mod_commons = 7 := rfl
theorem mKe_Mod_copyRow : mK m_Mod_copyRow = 7 := rfl
theorem mKe_Mod_count : mK m_Mod_count = 7 := rfl
theorem mKe_Mod_drop : mK m_Mod_drop = 7 := rfl
theorem mKe_Mod_erase : mK m_Mod_erase = 7 := rfl
theorem mKe_Mod_fault : mK m_Mod_fault = 7 := rfl
theorem mKe_Mod_find : mK m_Mod_find = 7 := rfl
theorem mKe_Mod_forget : mK m_Mod_forget = 7 := rfl
theorem mKe_Mod_hang : mK m_Mod_hang = 7 := rfl
theorem mKe_Mod_hangs : mK m_Mod_hangs = 7 := rfl
theorem mKe_Mod_hooks : mK m_Mod_hooks = 7 := rfl
theorem mKe_Mod_house : mK m_Mod_house = 7 := rfl
theorem mKe_Mod_isHouse : mK m_Mod_isHouse = 7 := rfl
theorem mKe_Mod_isLoosed : mK m_Mod_isLoosed = 7 := rfl
theorem mKe_Mod_isSendable : mK m_Mod_isSendable = 7 := rfl
theorem mKe_Mod_isThing : mK m_Mod_isThing = 7 := rfl
theorem mKe_Mod_isTied : mK m_Mod_isTied = 7 := rfl
theorem mKe_Mod_isWord : mK m_Mod_isWord = 7 := rfl
theorem mKe_Mod_join : mK m_Mod_join = 7 := rfl
theorem mKe_Mod_keep : mK m_Mod_keep = 7 := rfl
theorem mKe_Mod_keepPast : mK m_Mod_keepPast = 7 := rfl
theorem mKe_Mod_kindHere : mK m_Mod_kindHere = 7 := rfl
theorem mKe_Mod_kinds : mK m_Mod_kinds = 7 := rfl
theorem mKe_Mod_knit : mK m_Mod_knit = 7 := rfl
theorem mKe_Mod_knitsByOne : mK m_Mod_knitsByOne = 7 := rfl
theorem mKe_Mod_knitsByTwo : mK m_Mod_knitsByTwo = 7 := rfl
theorem mKe_Mod_layLinks : mK m_Mod_layLinks = 7 := rfl
theorem mKe_Mod_layTried : mK m_Mod_layTried = 7 := rfl
theorem mKe_Mod_leaves : mK m_Mod_leaves = 7 := rfl
theorem mKe_Mod_nextToken : mK m_Mod_nextToken = 7 := rfl
theorem mKe_Mod_noSuch : mK m_Mod_noSuch = 7 := rfl
theorem mKe_Mod_number : mK m_Mod_number = 7 := rfl
theorem mKe_Mod_partOf : mK m_Mod_partOf = 7 := rfl
theorem mKe_Mod_passes : mK m_Mod_passes = 7 := rfl
theorem mKe_Mod_patch : mK m_Mod_patch = 7 := rfl
theorem mKe_Mod_pieces : mK m_Mod_pieces = 7 := rfl
theorem mKe_Mod_piecesIn : mK m_Mod_piecesIn = 7 := rfl
theorem mKe_Mod_reads : mK m_Mod_reads = 7 := rfl
theorem mKe_Mod_readsClause : mK m_Mod_readsClause = 7 := rfl
theorem mKe_Mod_readsCommons : mK m_Mod_readsCommons = 7 := rfl
theorem mKe_Mod_readsHouse : mK m_Mod_readsHouse = 7 := rfl
theorem mKe_Mod_readsThing : mK m_Mod_readsThing = 7 := rfl
theorem mKe_Mod_readsWant : mK m_Mod_readsWant = 7 := rfl
theorem mKe_Mod_rings : mK m_Mod_rings = 7 := rfl
theorem mKe_Mod_seen : mK m_Mod_seen = 7 := rfl
theorem mKe_Mod_send : mK m_Mod_send = 7 := rfl
theorem mKe_Mod_sendsOne : mK m_Mod_sendsOne = 7 := rfl
theorem mKe_Mod_thing : mK m_Mod_thing = 7 := rfl
theorem mKe_Mod_thingsAt : mK m_Mod_thingsAt = 7 := rfl
theorem mKe_Mod_thingsOf : mK m_Mod_thingsOf = 7 := rfl
theorem mKe_Mod_tiedOnes : mK m_Mod_tiedOnes = 7 := rfl
theorem mKe_Mod_trade : mK m_Mod_trade = 7 := rfl
theorem mKe_Mod_undo : mK m_Mod_undo = 7 := rfl
theorem mKe_Mod_unhang : mK m_Mod_unhang = 7 := rfl
theorem mKe_Mod_want : mK m_Mod_want = 7 := rfl
theorem mKe_Mod_way : mK m_Mod_way = 7 := rfl
theorem mKe_Mod_wears : mK m_Mod_wears = 7 := rfl
theorem mKe_Mod_whole : mK m_Mod_whole = 7 := rfl
theorem mKe_Mod_write : mK m_Mod_write = 7 := rfl
theorem mKe_Mod_year : mK m_Mod_year = 7 := rfl
theorem mKe_Net_draw : mK m_Net_draw = 0 := rfl
theorem mKe_Net_endsOf : mK m_Net_endsOf = 0 := rfl
theorem mKe_Net_links : mK m_Net_links = 0 := rfl
theorem mKe_Net_openLinkOutOf : mK m_Net_openLinkOutOf = 0 := rfl
theorem mKe_Net_parts : mK m_Net_parts = 0 := rfl
theorem mKe_Net_reachOf : mK m_Net_reachOf = 0 := rfl
theorem mKe_Net_stepsBetween : mK m_Net_stepsBetween = 0 := rfl
theorem mKe_Net_weightOfAllReached : mK m_Net_weightOfAllReached = 0 := rfl
theorem mKe_Net_widened : mK m_Net_widened = 0 := rfl
theorem mKe_Rack_firstPlaceOf : mK m_Rack_firstPlaceOf = 1 := rfl
theorem mKe_Rack_putAllBehind : mK m_Rack_putAllBehind = 1 := rfl
theorem mKe_Rack_putAt : mK m_Rack_putAt = 1 := rfl
theorem mKe_Rack_renew : mK m_Rack_renew = 1 := rfl
theorem mKe_Rack_takeAway : mK m_Rack_takeAway = 1 := rfl
theorem mKe_Rack_takeFrom : mK m_Rack_takeFrom = 1 := rfl
theorem mKe_Sights_fits : mK m_Sights_fits = 2 := rfl
theorem mKe_Sights_fittingKinds : mK m_Sights_fittingKinds = 2 := rfl
theorem mKe_Sights_note : mK m_Sights_note = 2 := rfl
theorem mKe_State_beginAs : mK m_State_beginAs = 3 := rfl
theorem mKe_State_copyFrom : mK m_State_copyFrom = 3 := rfl
theorem mKe_State_inside : mK m_State_inside = 3 := rfl
theorem mKe_State_leaveUntied : mK m_State_leaveUntied = 3 := rfl
theorem mKe_State_passYears : mK m_State_passYears = 3 := rfl
theorem mKe_State_tied : mK m_State_tied = 3 := rfl
theorem mKe_State_wearAll : mK m_State_wearAll = 3 := rfl
theorem mKe_State_wearOf : mK m_State_wearOf = 3 := rfl
theorem mKe_Text_isWord : mK m_Text_isWord = 4 := rfl
theorem mKe_Text_kindHere : mK m_Text_kindHere = 4 := rfl
theorem mKe_Text_readClause : mK m_Text_readClause = 4 := rfl
theorem mKe_Text_readHouse : mK m_Text_readHouse = 4 := rfl
theorem mKe_Text_readInto : mK m_Text_readInto = 4 := rfl
theorem mKe_Text_readNumber : mK m_Text_readNumber = 4 := rfl
theorem mKe_Text_readThing : mK m_Text_readThing = 4 := rfl
theorem mKe_Text_readWant : mK m_Text_readWant = 4 := rfl
theorem mKe_Text_step : mK m_Text_step = 4 := rfl
theorem mKe_Told_addThing : mK m_Told_addThing = 5 := rfl
theorem mKe_Told_clearAll : mK m_Told_clearAll = 5 := rfl
theorem mKe_Told_copyFrom : mK m_Told_copyFrom = 5 := rfl
theorem z0 : (0 : Int32).toInt = 0 := rfl
theorem z1 : (1 : Int32).toInt = 1 := rfl
theorem zm1 : (-1 : Int32).toInt = -1 := rfl
theorem vni (x : Int32) : vp_nar .int x = x := rfl
theorem nbi {c : Prop} [Decidable c] : (narrow .boolean (.int (if c then 1 else 0)) = .int (if c then 1 else 0)) = True := by
  by_cases q : c
  · rw [if_pos q]; exact eq_true nb1
  · rw [if_neg q]; exact eq_true nb0
