theorem bz_zz {x : Int} (h : x = 0 ∨ x = 1) : narrow .boolean (bz_i x) = bz_i x := by
  rcases h with rfl | rfl <;> decide +kernel
theorem bz_nb (x : Int) : vp_nar .byte (Int32.ofInt (i2b_ x)) = Int32.ofInt (i2b_ x) := by
  unfold i2b_; rw [Int32.ofInt_toInt]; exact pk_vb _
def bo_ {α : Type} (e : Int) (k : Option α) : Option α := if e = 0 ∨ e = 1 then k else none
theorem q_cl2 {α A B : Type} {f : Option (A × B)} {k : A → B → Option α} {r : α} (h : cl2_ f k = some r) : ∃ a b, f = some (a, b) ∧ k a b = some r := by
  cases f with
  | none => cases h
  | some x => exact ⟨x.1, x.2, rfl, h⟩
def yU_paper : MethodName := ⟨"UnitsWrong", "paper", "(II)Z"⟩
def yU_fund : MethodName := ⟨"UnitsWrong", "fund", "(I)I"⟩
def yU_holder : MethodName := ⟨"UnitsWrong", "holder", "(I)I"⟩
def yU_holiday : MethodName := ⟨"UnitsWrong", "holiday", "(I)Z"⟩
def yU_isDay : MethodName := ⟨"UnitsWrong", "isDay", "(I)Z"⟩
def yUS_isOpen : MethodName := ⟨"UnitsWrong$State", "isOpen", "(I)Z"⟩
def yU_open : MethodName := ⟨"UnitsWrong", "open", "(I)Z"⟩
def yU_isSubject : MethodName := ⟨"UnitsWrong", "isSubject", "(II)Z"⟩
def yU_canBeTold : MethodName := ⟨"UnitsWrong", "canBeTold", "(IIII)Z"⟩
def yUB_add : MethodName := ⟨"UnitsWrong$ByDay", "add", "(I)I"⟩
def yUTe_add : MethodName := ⟨"UnitsWrong$Tellings", "add", "(IIIII)I"⟩
def yU_tell : MethodName := ⟨"UnitsWrong", "tell", "(IIII)I"⟩
def yUTe_latest : MethodName := ⟨"UnitsWrong$Tellings", "latest", "(IIII)I"⟩
def yU_known : MethodName := ⟨"UnitsWrong", "known", "(IIII)I"⟩
def yU_stale : MethodName := ⟨"UnitsWrong", "stale", "(IIII)Z"⟩
def yUS_isFund : MethodName := ⟨"UnitsWrong$State", "isFund", "(I)Z"⟩
def yU_isWithin : MethodName := ⟨"UnitsWrong", "isWithin", "(II)Z"⟩
def yUTr_add : MethodName := ⟨"UnitsWrong$Trades", "add", "(IIII)I"⟩
def yU_trade : MethodName := ⟨"UnitsWrong", "trade", "(IIIII)I"⟩
def yUS_isHolder : MethodName := ⟨"UnitsWrong$State", "isHolder", "(I)Z"⟩
def yUS_isWho : MethodName := ⟨"UnitsWrong$State", "isWho", "(II)Z"⟩
def yUS_openBehind : MethodName := ⟨"UnitsWrong$State", "openBehind", "(I)I"⟩
def yUL_value : MethodName := ⟨"UnitsWrong$Laws", "value", "(III)I"⟩
def yUS_dealingDay : MethodName := ⟨"UnitsWrong$State", "dealingDay", "(III)I"⟩
def yUD_add : MethodName := ⟨"UnitsWrong$Deals", "add", "(IIII)I"⟩
def yU_deal : MethodName := ⟨"UnitsWrong", "deal", "(IIII)I"⟩
def yUX_append : MethodName := ⟨"UnitsWrong$Text", "append", "(I)V"⟩
def yU_feed : MethodName := ⟨"UnitsWrong", "feed", "(IIIII)I"⟩
def yU_end : MethodName := ⟨"UnitsWrong", "end", "(I)Z"⟩
def yJA_fill1 : MethodName := ⟨"java/util/Arrays", "fill", "([II)V"⟩
def yUX_kindAt : MethodName := ⟨"UnitsWrong$Text", "kindAt", "(I)I"⟩
def yJM_min0 : MethodName := ⟨"java/lang/Math", "min", "(II)I"⟩
def yUX_next : MethodName := ⟨"UnitsWrong$Text", "next", "()V"⟩
def yU_rule : MethodName := ⟨"UnitsWrong", "rule", "(III)I"⟩
def yU_isBooked : MethodName := ⟨"UnitsWrong", "isBooked", "(II)Z"⟩
def yU_slot : MethodName := ⟨"UnitsWrong", "slot", "(II)I"⟩
def yU_booked : MethodName := ⟨"UnitsWrong", "booked", "(II)I"⟩
def yUS_latestKnown : MethodName := ⟨"UnitsWrong$State", "latestKnown", "()I"⟩
def yU_units : MethodName := ⟨"UnitsWrong", "units", "(II)I"⟩
def yJM_min1 : MethodName := ⟨"java/lang/Math", "min", "(JJ)J"⟩
def yJM_max1 : MethodName := ⟨"java/lang/Math", "max", "(JJ)J"⟩
def yU_told : MethodName := ⟨"UnitsWrong", "told", "(J)I"⟩
def yU_gone : MethodName := ⟨"UnitsWrong", "gone", "(I)Z"⟩
def yU_found : MethodName := ⟨"UnitsWrong", "found", "(I)Z"⟩
def yU_due : MethodName := ⟨"UnitsWrong", "due", "(I)I"⟩
def yUA_add : MethodName := ⟨"UnitsWrong$Audits", "add", "(III)I"⟩
def yU_audit : MethodName := ⟨"UnitsWrong", "audit", "(III)I"⟩
def yU_suspect : MethodName := ⟨"UnitsWrong", "suspect", "(IIII)I"⟩
def yU_forget : MethodName := ⟨"UnitsWrong", "forget", "()I"⟩
def yJI_bitCount : MethodName := ⟨"java/lang/Integer", "bitCount", "(I)I"⟩
def yJM_max0 : MethodName := ⟨"java/lang/Math", "max", "(II)I"⟩
def yJM_abs0 : MethodName := ⟨"java/lang/Math", "abs", "(I)I"⟩
def yU_alarm : MethodName := ⟨"UnitsWrong", "alarm", "(II)I"⟩
def yUS_isParty : MethodName := ⟨"UnitsWrong$State", "isParty", "(I)Z"⟩
def yU_count : MethodName := ⟨"UnitsWrong", "count", "(I)I"⟩
def yM_in : MethodName := ⟨"UnitsWrongModel", "in", "(JJJ)Z"⟩
def yM_holiday : MethodName := ⟨"UnitsWrongModel", "holiday", "(I)Z"⟩
def yM_isOpen : MethodName := ⟨"UnitsWrongModel", "isOpen", "(I)Z"⟩
def yM_open : MethodName := ⟨"UnitsWrongModel", "open", "(I)Z"⟩
def yM_isSubject : MethodName := ⟨"UnitsWrongModel", "isSubject", "(II)Z"⟩
def yM_canTell : MethodName := ⟨"UnitsWrongModel", "canTell", "(IIII)Z"⟩
def yM_known0 : MethodName := ⟨"UnitsWrongModel", "known", "()I"⟩
def yM_lays : MethodName := ⟨"UnitsWrongModel", "lays", "(IIII)V"⟩
def yM_tell : MethodName := ⟨"UnitsWrongModel", "tell", "(IIII)I"⟩
def yM_telling : MethodName := ⟨"UnitsWrongModel", "telling", "(IIII)I"⟩
def yM_plain : MethodName := ⟨"UnitsWrongModel", "plain", "(I)I"⟩
def yM_known1 : MethodName := ⟨"UnitsWrongModel", "known", "(IIII)I"⟩
def yM_stale : MethodName := ⟨"UnitsWrongModel", "stale", "(IIII)Z"⟩
def yM_paper : MethodName := ⟨"UnitsWrongModel", "paper", "(II)Z"⟩
def yM_fund : MethodName := ⟨"UnitsWrongModel", "fund", "(I)I"⟩
def yM_holder : MethodName := ⟨"UnitsWrongModel", "holder", "(I)I"⟩
def yM_isFund : MethodName := ⟨"UnitsWrongModel", "isFund", "(I)Z"⟩
def yM_trade : MethodName := ⟨"UnitsWrongModel", "trade", "(IIIII)I"⟩
def yM_placeOf : MethodName := ⟨"UnitsWrongModel", "placeOf", "(I)I"⟩
def yM_ruleOf : MethodName := ⟨"UnitsWrongModel", "ruleOf", "(III)I"⟩
def yM_deal : MethodName := ⟨"UnitsWrongModel", "deal", "(IIII)I"⟩
def yM_feeds0 : MethodName := ⟨"UnitsWrongModel", "feeds", "(I)V"⟩
def yM_feed : MethodName := ⟨"UnitsWrongModel", "feed", "(IIIII)I"⟩
def yM_end : MethodName := ⟨"UnitsWrongModel", "end", "(I)Z"⟩
def yM_skips : MethodName := ⟨"UnitsWrongModel", "skips", "()V"⟩
def yM_isLetter : MethodName := ⟨"UnitsWrongModel", "isLetter", "(I)Z"⟩
def yM_wordEnd : MethodName := ⟨"UnitsWrongModel", "wordEnd", "()I"⟩
def yM_rule1 : MethodName := ⟨"UnitsWrongModel", "rule", "(III)I"⟩
def yM_carries : MethodName := ⟨"UnitsWrongModel", "carries", "(II[I)V"⟩
def yM_knows : MethodName := ⟨"UnitsWrongModel", "knows", "(I)V"⟩
def yM_begins : MethodName := ⟨"UnitsWrongModel", "begins", "()V"⟩
def yM_near : MethodName := ⟨"UnitsWrongModel", "near", "(JJJ)J"⟩
def yM_papers : MethodName := ⟨"UnitsWrongModel", "papers", "(II)V"⟩
def yM_feeds1 : MethodName := ⟨"UnitsWrongModel", "feeds", "(II)V"⟩
def yM_assets : MethodName := ⟨"UnitsWrongModel", "assets", "(II)J"⟩
def yM_dealtOf : MethodName := ⟨"UnitsWrongModel", "dealtOf", "(IZJ)J"⟩
def yM_flow : MethodName := ⟨"UnitsWrongModel", "flow", "(IIZ)J"⟩
def yM_swung : MethodName := ⟨"UnitsWrongModel", "swung", "(IIJJ)J"⟩
def yM_prices : MethodName := ⟨"UnitsWrongModel", "prices", "(IIZ)V"⟩
def yM_deals : MethodName := ⟨"UnitsWrongModel", "deals", "(IIZZ)V"⟩
def yM_goesThrough : MethodName := ⟨"UnitsWrongModel", "goesThrough", "(III)V"⟩
def yM_through : MethodName := ⟨"UnitsWrongModel", "through", "(III)V"⟩
def yM_books : MethodName := ⟨"UnitsWrongModel", "books", "()V"⟩
def yM_go : MethodName := ⟨"UnitsWrongModel", "go", "(I)I"⟩
def yM_isOver : MethodName := ⟨"UnitsWrongModel", "isOver", "(II)Z"⟩
def yM_told : MethodName := ⟨"UnitsWrongModel", "told", "(J)I"⟩
def yM_booked : MethodName := ⟨"UnitsWrongModel", "booked", "(II)I"⟩
def yM_right : MethodName := ⟨"UnitsWrongModel", "right", "(III)I"⟩
def yM_fee : MethodName := ⟨"UnitsWrongModel", "fee", "(III)I"⟩
def yM_error : MethodName := ⟨"UnitsWrongModel", "error", "(III)I"⟩
def yM_lastOver : MethodName := ⟨"UnitsWrongModel", "lastOver", "(I)I"⟩
def yM_counts : MethodName := ⟨"UnitsWrongModel", "counts", "(III)Z"⟩
def yM_errors : MethodName := ⟨"UnitsWrongModel", "errors", "(I)I"⟩
def yM_canHold : MethodName := ⟨"UnitsWrongModel", "canHold", "(II)Z"⟩
def yM_units : MethodName := ⟨"UnitsWrongModel", "units", "(II)I"⟩
def yM_isKnownDay : MethodName := ⟨"UnitsWrongModel", "isKnownDay", "(I)Z"⟩
def yM_sums : MethodName := ⟨"UnitsWrongModel", "sums", "(III)V"⟩
def yM_isToParty : MethodName := ⟨"UnitsWrongModel", "isToParty", "(II)Z"⟩
def yM_judges : MethodName := ⟨"UnitsWrongModel", "judges", "(III)V"⟩
def yM_asks0 : MethodName := ⟨"UnitsWrongModel", "asks", "(III)V"⟩
def yM_asks1 : MethodName := ⟨"UnitsWrongModel", "asks", "(II)V"⟩
def yM_claim : MethodName := ⟨"UnitsWrongModel", "claim", "(IIII)I"⟩
def yM_goesTo : MethodName := ⟨"UnitsWrongModel", "goesTo", "(III)I"⟩
def yM_houseOwes : MethodName := ⟨"UnitsWrongModel", "houseOwes", "(II)J"⟩
def yM_house : MethodName := ⟨"UnitsWrongModel", "house", "(II)I"⟩
def yM_cash : MethodName := ⟨"UnitsWrongModel", "cash", "(II)I"⟩
def yM_taxOf : MethodName := ⟨"UnitsWrongModel", "taxOf", "(I[J)J"⟩
def yM_dealt : MethodName := ⟨"UnitsWrongModel", "dealt", "(II)I"⟩
def yM_gone : MethodName := ⟨"UnitsWrongModel", "gone", "(I)Z"⟩
def yM_found : MethodName := ⟨"UnitsWrongModel", "found", "(I)Z"⟩
def yM_due : MethodName := ⟨"UnitsWrongModel", "due", "(I)I"⟩
def yM_audit : MethodName := ⟨"UnitsWrongModel", "audit", "(III)I"⟩
def yM_suspect : MethodName := ⟨"UnitsWrongModel", "suspect", "(IIII)I"⟩
def yM_forget : MethodName := ⟨"UnitsWrongModel", "forget", "()I"⟩
def yM_many : MethodName := ⟨"UnitsWrongModel", "many", "(I)I"⟩
def yM_explains : MethodName := ⟨"UnitsWrongModel", "explains", "(I)Z"⟩
def yM_searches : MethodName := ⟨"UnitsWrongModel", "searches", "()V"⟩
def yM_explain : MethodName := ⟨"UnitsWrongModel", "explain", "()I"⟩
def yM_rivals : MethodName := ⟨"UnitsWrongModel", "rivals", "()I"⟩
def yM_alarm : MethodName := ⟨"UnitsWrongModel", "alarm", "(II)I"⟩
def yM_beside : MethodName := ⟨"UnitsWrongModel", "beside", "(II)I"⟩
def yM_balances : MethodName := ⟨"UnitsWrongModel", "balances", "(I)V"⟩
def yM_balance : MethodName := ⟨"UnitsWrongModel", "balance", "(II)I"⟩
def yM_mosts : MethodName := ⟨"UnitsWrongModel", "mosts", "(I)V"⟩
def yM_picks : MethodName := ⟨"UnitsWrongModel", "picks", "()V"⟩
def yM_settles : MethodName := ⟨"UnitsWrongModel", "settles", "(I)Z"⟩
def yM_payments : MethodName := ⟨"UnitsWrongModel", "payments", "(I)I"⟩
def yM_nameOf : MethodName := ⟨"UnitsWrongModel", "nameOf", "(I)I"⟩
def yM_paid : MethodName := ⟨"UnitsWrongModel", "paid", "(IIJI)I"⟩
def yM_payment : MethodName := ⟨"UnitsWrongModel", "payment", "(III)I"⟩
def yM_count : MethodName := ⟨"UnitsWrongModel", "count", "(I)I"⟩
theorem wd_1 : (Jvm.Cond.initialized "UnitsWrong") ∈ bz_T := bz_in 1 (by decide +kernel) rfl
theorem wd_2 : (Jvm.Cond.initialized "UnitsWrong$State") ∈ bz_T := bz_in 2 (by decide +kernel) rfl
theorem wd_3 : (Jvm.Cond.initialized "UnitsWrong$Tellings") ∈ bz_T := bz_in 3 (by decide +kernel) rfl
theorem wd_4 : (Jvm.Cond.initialized "UnitsWrong$ByDay") ∈ bz_T := bz_in 4 (by decide +kernel) rfl
theorem wd_5 : (Jvm.Cond.initialized "UnitsWrong$Trades") ∈ bz_T := bz_in 5 (by decide +kernel) rfl
theorem wd_6 : (Jvm.Cond.initialized "UnitsWrong$Deals") ∈ bz_T := bz_in 6 (by decide +kernel) rfl
theorem wd_7 : (Jvm.Cond.initialized "UnitsWrong$Laws") ∈ bz_T := bz_in 7 (by decide +kernel) rfl
theorem wd_8 : (Jvm.Cond.initialized "java/util/Arrays") ∈ bz_T := bz_in 8 (by decide +kernel) rfl
theorem wd_9 : (Jvm.Cond.initialized "UnitsWrong$Text") ∈ bz_T := bz_in 9 (by decide +kernel) rfl
theorem wd_13 : (Jvm.Cond.initialized "UnitsWrong$Audits") ∈ bz_T := bz_in 13 (by decide +kernel) rfl
theorem wd_14 : (Jvm.Cond.initialized "UnitsWrongModel") ∈ bz_T := bz_in 14 (by decide +kernel) rfl
theorem wd_15 : (Jvm.Cond.initialized "java/lang/Math") ∈ bz_T := bz_in 15 (by decide +kernel) rfl
theorem wd_21 : (Jvm.Cond.initialized "java/lang/Integer") ∈ bz_T := bz_in 21 (by decide +kernel) rfl
theorem wd_48 : (Jvm.Cond.fieldLink "UnitsWrong$ByDay" (9 : Nat) "UnitsWrong$ByDay" "day" "[I") ∈ bz_T := bz_in 48 (by decide +kernel) rfl
theorem wd_49 : (Jvm.Cond.fieldLink "UnitsWrong$Tellings" (44 : Nat) "UnitsWrong$ByDay" "day" "[I") ∈ bz_T := bz_in 49 (by decide +kernel) rfl
theorem wd_52 : (Jvm.Cond.fieldLink "UnitsWrong" (125 : Nat) "UnitsWrong$ByDay" "day" "[I") ∈ bz_T := bz_in 52 (by decide +kernel) rfl
theorem wd_54 : (Jvm.Cond.fieldLink "UnitsWrong$ByDay" (15 : Nat) "UnitsWrong$ByDay" "order" "[I") ∈ bz_T := bz_in 54 (by decide +kernel) rfl
theorem wd_55 : (Jvm.Cond.fieldLink "UnitsWrong$Tellings" (41 : Nat) "UnitsWrong$ByDay" "order" "[I") ∈ bz_T := bz_in 55 (by decide +kernel) rfl
theorem wd_58 : (Jvm.Cond.fieldLink "UnitsWrong$ByDay" (18 : Nat) "UnitsWrong$ByDay" "size" "I") ∈ bz_T := bz_in 58 (by decide +kernel) rfl
theorem wd_59 : (Jvm.Cond.fieldLink "UnitsWrong$Tellings" (37 : Nat) "UnitsWrong$ByDay" "size" "I") ∈ bz_T := bz_in 59 (by decide +kernel) rfl
theorem wd_60 : (Jvm.Cond.fieldLink "UnitsWrong$Audits" (53 : Nat) "UnitsWrong$ByDay" "size" "I") ∈ bz_T := bz_in 60 (by decide +kernel) rfl
theorem wd_63 : (Jvm.Cond.fieldLink "UnitsWrong" (105 : Nat) "UnitsWrong$ByDay" "size" "I") ∈ bz_T := bz_in 63 (by decide +kernel) rfl
theorem wd_75 : (Jvm.Cond.fieldLink "UnitsWrong$Tellings" (14 : Nat) "UnitsWrong$Tellings" "byDay" "LUnitsWrong$ByDay;") ∈ bz_T := bz_in 75 (by decide +kernel) rfl
theorem wd_76 : (Jvm.Cond.fieldLink "UnitsWrong$Audits" (47 : Nat) "UnitsWrong$Tellings" "byDay" "LUnitsWrong$ByDay;") ∈ bz_T := bz_in 76 (by decide +kernel) rfl
theorem wd_77 : (Jvm.Cond.fieldLink "UnitsWrong" (101 : Nat) "UnitsWrong$Tellings" "byDay" "LUnitsWrong$ByDay;") ∈ bz_T := bz_in 77 (by decide +kernel) rfl
theorem wd_79 : (Jvm.Cond.fieldLink "UnitsWrong$Tellings" (20 : Nat) "UnitsWrong$Tellings" "subject" "[I") ∈ bz_T := bz_in 79 (by decide +kernel) rfl
theorem wd_81 : (Jvm.Cond.fieldLink "UnitsWrong$Tellings" (24 : Nat) "UnitsWrong$Tellings" "number" "[I") ∈ bz_T := bz_in 81 (by decide +kernel) rfl
theorem wd_83 : (Jvm.Cond.fieldLink "UnitsWrong$Tellings" (27 : Nat) "UnitsWrong$Tellings" "value" "[I") ∈ bz_T := bz_in 83 (by decide +kernel) rfl
theorem wd_84 : (Jvm.Cond.fieldLink "UnitsWrong" (122 : Nat) "UnitsWrong$Tellings" "value" "[I") ∈ bz_T := bz_in 84 (by decide +kernel) rfl
theorem wd_86 : (Jvm.Cond.fieldLink "UnitsWrong$Tellings" (30 : Nat) "UnitsWrong$Tellings" "made" "[I") ∈ bz_T := bz_in 86 (by decide +kernel) rfl
theorem wd_107 : (Jvm.Cond.fieldLink "UnitsWrong$Trades" (16 : Nat) "UnitsWrong$Trades" "byDay" "LUnitsWrong$ByDay;") ∈ bz_T := bz_in 107 (by decide +kernel) rfl
theorem wd_109 : (Jvm.Cond.fieldLink "UnitsWrong" (359 : Nat) "UnitsWrong$Trades" "byDay" "LUnitsWrong$ByDay;") ∈ bz_T := bz_in 109 (by decide +kernel) rfl
theorem wd_110 : (Jvm.Cond.fieldLink "UnitsWrong$Trades" (20 : Nat) "UnitsWrong$Trades" "fund" "[I") ∈ bz_T := bz_in 110 (by decide +kernel) rfl
theorem wd_112 : (Jvm.Cond.fieldLink "UnitsWrong$Trades" (24 : Nat) "UnitsWrong$Trades" "paper" "[I") ∈ bz_T := bz_in 112 (by decide +kernel) rfl
theorem wd_115 : (Jvm.Cond.fieldLink "UnitsWrong" (142 : Nat) "UnitsWrong$Trades" "pieces" "[I") ∈ bz_T := bz_in 115 (by decide +kernel) rfl
theorem wd_118 : (Jvm.Cond.fieldLink "UnitsWrong" (145 : Nat) "UnitsWrong$Trades" "pence" "[I") ∈ bz_T := bz_in 118 (by decide +kernel) rfl
theorem wd_120 : (Jvm.Cond.fieldLink "UnitsWrong$Trades" (33 : Nat) "UnitsWrong$Trades" "made" "[I") ∈ bz_T := bz_in 120 (by decide +kernel) rfl
theorem wd_143 : (Jvm.Cond.fieldLink "UnitsWrong$Deals" (16 : Nat) "UnitsWrong$Deals" "byDay" "LUnitsWrong$ByDay;") ∈ bz_T := bz_in 143 (by decide +kernel) rfl
theorem wd_146 : (Jvm.Cond.fieldLink "UnitsWrong" (267 : Nat) "UnitsWrong$Deals" "byDay" "LUnitsWrong$ByDay;") ∈ bz_T := bz_in 146 (by decide +kernel) rfl
theorem wd_147 : (Jvm.Cond.fieldLink "UnitsWrong$Deals" (20 : Nat) "UnitsWrong$Deals" "who" "[I") ∈ bz_T := bz_in 147 (by decide +kernel) rfl
theorem wd_150 : (Jvm.Cond.fieldLink "UnitsWrong" (268 : Nat) "UnitsWrong$Deals" "who" "[I") ∈ bz_T := bz_in 150 (by decide +kernel) rfl
theorem wd_151 : (Jvm.Cond.fieldLink "UnitsWrong$Deals" (24 : Nat) "UnitsWrong$Deals" "fund" "[I") ∈ bz_T := bz_in 151 (by decide +kernel) rfl
theorem wd_154 : (Jvm.Cond.fieldLink "UnitsWrong" (271 : Nat) "UnitsWrong$Deals" "fund" "[I") ∈ bz_T := bz_in 154 (by decide +kernel) rfl
theorem wd_155 : (Jvm.Cond.fieldLink "UnitsWrong$Deals" (27 : Nat) "UnitsWrong$Deals" "wish" "[I") ∈ bz_T := bz_in 155 (by decide +kernel) rfl
theorem wd_159 : (Jvm.Cond.fieldLink "UnitsWrong" (274 : Nat) "UnitsWrong$Deals" "units" "[I") ∈ bz_T := bz_in 159 (by decide +kernel) rfl
theorem wd_163 : (Jvm.Cond.fieldLink "UnitsWrong" (277 : Nat) "UnitsWrong$Deals" "booked" "[J") ∈ bz_T := bz_in 163 (by decide +kernel) rfl
theorem wd_169 : (Jvm.Cond.fieldLink "UnitsWrong" (237 : Nat) "UnitsWrong$Deals" "held" "[I") ∈ bz_T := bz_in 169 (by decide +kernel) rfl
theorem wd_171 : (Jvm.Cond.fieldLink "UnitsWrong" (356 : Nat) "UnitsWrong$Deals" "all" "[I") ∈ bz_T := bz_in 171 (by decide +kernel) rfl
theorem wd_197 : (Jvm.Cond.fieldLink "UnitsWrong$Laws" (11 : Nat) "UnitsWrong$Laws" "taken" "[I") ∈ bz_T := bz_in 197 (by decide +kernel) rfl
theorem wd_198 : (Jvm.Cond.fieldLink "UnitsWrong$Laws" (15 : Nat) "UnitsWrong$Laws" "rules" "[I") ∈ bz_T := bz_in 198 (by decide +kernel) rfl
theorem wd_199 : (Jvm.Cond.fieldLink "UnitsWrong$Laws" (18 : Nat) "UnitsWrong$Laws" "size" "I") ∈ bz_T := bz_in 199 (by decide +kernel) rfl
theorem wd_200 : (Jvm.Cond.fieldLink "UnitsWrong" (177 : Nat) "UnitsWrong$Laws" "size" "I") ∈ bz_T := bz_in 200 (by decide +kernel) rfl
theorem wd_209 : (Jvm.Cond.static ({ cls := "java/util/Arrays", name := "fill", desc := "([II)V" } : Jvm.MethodName)) ∈ bz_T := bz_in 209 (by decide +kernel) rfl
theorem wd_210 : (Jvm.Cond.code ({ cls := "java/util/Arrays", name := "fill", desc := "([II)V" } : Jvm.MethodName) prog_21_method_103_code (4 : Nat) (Option.none : Option Jvm.ClassFile.FieldType)) ∈ bz_T := bz_in 210 (by decide +kernel) rfl
theorem wd_212 : (Jvm.Cond.fieldLink "UnitsWrong" (63 : Nat) "UnitsWrong$State" "startCash" "[J") ∈ bz_T := bz_in 212 (by decide +kernel) rfl
theorem wd_213 : (Jvm.Cond.fieldLink "UnitsWrong$Course" (132 : Nat) "UnitsWrong$State" "startCash" "[J") ∈ bz_T := bz_in 213 (by decide +kernel) rfl
theorem wd_216 : (Jvm.Cond.fieldLink "UnitsWrong" (293 : Nat) "UnitsWrong$State" "foundDay" "[I") ∈ bz_T := bz_in 216 (by decide +kernel) rfl
theorem wd_217 : (Jvm.Cond.fieldLink "UnitsWrong$State" (19 : Nat) "UnitsWrong$State" "zone" "[I") ∈ bz_T := bz_in 217 (by decide +kernel) rfl
theorem wd_218 : (Jvm.Cond.fieldLink "UnitsWrong" (73 : Nat) "UnitsWrong$State" "zone" "[I") ∈ bz_T := bz_in 218 (by decide +kernel) rfl
theorem wd_220 : (Jvm.Cond.fieldLink "UnitsWrong" (290 : Nat) "UnitsWrong$State" "goneDay" "[I") ∈ bz_T := bz_in 220 (by decide +kernel) rfl
theorem wd_222 : (Jvm.Cond.fieldLink "UnitsWrong" (55 : Nat) "UnitsWrong$State" "currency" "[I") ∈ bz_T := bz_in 222 (by decide +kernel) rfl
theorem wd_224 : (Jvm.Cond.fieldLink "UnitsWrong$State" (28 : Nat) "UnitsWrong$State" "holidays" "[Z") ∈ bz_T := bz_in 224 (by decide +kernel) rfl
theorem wd_225 : (Jvm.Cond.fieldLink "UnitsWrong" (76 : Nat) "UnitsWrong$State" "holidays" "[Z") ∈ bz_T := bz_in 225 (by decide +kernel) rfl
theorem wd_227 : (Jvm.Cond.fieldLink "UnitsWrong" (91 : Nat) "UnitsWrong$State" "tellings" "LUnitsWrong$Tellings;") ∈ bz_T := bz_in 227 (by decide +kernel) rfl
theorem wd_230 : (Jvm.Cond.fieldLink "UnitsWrong$Audits" (43 : Nat) "UnitsWrong$State" "suspects" "LUnitsWrong$Tellings;") ∈ bz_T := bz_in 230 (by decide +kernel) rfl
theorem wd_232 : (Jvm.Cond.fieldLink "UnitsWrong" (306 : Nat) "UnitsWrong$State" "suspects" "LUnitsWrong$Tellings;") ∈ bz_T := bz_in 232 (by decide +kernel) rfl
theorem wd_235 : (Jvm.Cond.fieldLink "UnitsWrong" (134 : Nat) "UnitsWrong$State" "trades" "LUnitsWrong$Trades;") ∈ bz_T := bz_in 235 (by decide +kernel) rfl
theorem wd_239 : (Jvm.Cond.fieldLink "UnitsWrong" (155 : Nat) "UnitsWrong$State" "deals" "LUnitsWrong$Deals;") ∈ bz_T := bz_in 239 (by decide +kernel) rfl
theorem wd_240 : (Jvm.Cond.fieldLink "UnitsWrong$State" (61 : Nat) "UnitsWrong$State" "laws" "LUnitsWrong$Laws;") ∈ bz_T := bz_in 240 (by decide +kernel) rfl
theorem wd_242 : (Jvm.Cond.fieldLink "UnitsWrong" (173 : Nat) "UnitsWrong$State" "laws" "LUnitsWrong$Laws;") ∈ bz_T := bz_in 242 (by decide +kernel) rfl
theorem wd_246 : (Jvm.Cond.fieldLink "UnitsWrong" (201 : Nat) "UnitsWrong$State" "bookedPrice" "[I") ∈ bz_T := bz_in 246 (by decide +kernel) rfl
theorem wd_250 : (Jvm.Cond.fieldLink "UnitsWrong" (51 : Nat) "UnitsWrong$State" "now" "I") ∈ bz_T := bz_in 250 (by decide +kernel) rfl
theorem wd_251 : (Jvm.Cond.fieldLink "UnitsWrong$Course" (84 : Nat) "UnitsWrong$State" "now" "I") ∈ bz_T := bz_in 251 (by decide +kernel) rfl
theorem wd_252 : (Jvm.Cond.fieldLink "UnitsWrong$State" (97 : Nat) "UnitsWrong$State" "now" "I") ∈ bz_T := bz_in 252 (by decide +kernel) rfl
theorem wd_253 : (Jvm.Cond.fieldLink "UnitsWrong$State" (77 : Nat) "UnitsWrong$State" "funds" "I") ∈ bz_T := bz_in 253 (by decide +kernel) rfl
theorem wd_254 : (Jvm.Cond.fieldLink "UnitsWrong" (60 : Nat) "UnitsWrong$State" "funds" "I") ∈ bz_T := bz_in 254 (by decide +kernel) rfl
theorem wd_256 : (Jvm.Cond.fieldLink "UnitsWrong$State" (81 : Nat) "UnitsWrong$State" "holders" "I") ∈ bz_T := bz_in 256 (by decide +kernel) rfl
theorem wd_257 : (Jvm.Cond.fieldLink "UnitsWrong" (70 : Nat) "UnitsWrong$State" "holders" "I") ∈ bz_T := bz_in 257 (by decide +kernel) rfl
theorem wd_258 : (Jvm.Cond.fieldLink "UnitsWrong" (80 : Nat) "UnitsWrong$State" "holidaysTold" "I") ∈ bz_T := bz_in 258 (by decide +kernel) rfl
theorem wd_260 : (Jvm.Cond.fieldLink "UnitsWrong" (67 : Nat) "UnitsWrong$State" "changes" "I") ∈ bz_T := bz_in 260 (by decide +kernel) rfl
theorem wd_305 : (Jvm.Cond.fieldLink "UnitsWrong$Text" (11 : Nat) "UnitsWrong$Text" "bytes" "[I") ∈ bz_T := bz_in 305 (by decide +kernel) rfl
theorem wd_306 : (Jvm.Cond.fieldLink "UnitsWrong$Text" (15 : Nat) "UnitsWrong$Text" "told" "[I") ∈ bz_T := bz_in 306 (by decide +kernel) rfl
theorem wd_308 : (Jvm.Cond.fieldLink "UnitsWrong$Text" (18 : Nat) "UnitsWrong$Text" "length" "I") ∈ bz_T := bz_in 308 (by decide +kernel) rfl
theorem wd_309 : (Jvm.Cond.fieldLink "UnitsWrong" (162 : Nat) "UnitsWrong$Text" "length" "I") ∈ bz_T := bz_in 309 (by decide +kernel) rfl
theorem wd_310 : (Jvm.Cond.fieldLink "UnitsWrong$Text" (51 : Nat) "UnitsWrong$Text" "kind" "I") ∈ bz_T := bz_in 310 (by decide +kernel) rfl
theorem wd_311 : (Jvm.Cond.fieldLink "UnitsWrong$Text" (58 : Nat) "UnitsWrong$Text" "start" "I") ∈ bz_T := bz_in 311 (by decide +kernel) rfl
theorem wd_312 : (Jvm.Cond.fieldLink "UnitsWrong$Text" (29 : Nat) "UnitsWrong$Text" "behind" "I") ∈ bz_T := bz_in 312 (by decide +kernel) rfl
theorem wd_313 : (Jvm.Cond.fieldLink "UnitsWrong$Text" (111 : Nat) "UnitsWrong$Text" "number" "I") ∈ bz_T := bz_in 313 (by decide +kernel) rfl
theorem wd_314 : (Jvm.Cond.fieldLink "UnitsWrong$Text" (32 : Nat) "UnitsWrong$Text" "faultAt" "I") ∈ bz_T := bz_in 314 (by decide +kernel) rfl
theorem wd_338 : (Jvm.Cond.fieldLink "UnitsWrong$Course" (9 : Nat) "UnitsWrong$Course" "bookedCash" "[J") ∈ bz_T := bz_in 338 (by decide +kernel) rfl
theorem wd_362 : (Jvm.Cond.fieldLink "UnitsWrong$Course" (46 : Nat) "UnitsWrong$Course" "walkedTo" "I") ∈ bz_T := bz_in 362 (by decide +kernel) rfl
theorem wd_472 : (Jvm.Cond.fieldLink "UnitsWrong$Audits" (11 : Nat) "UnitsWrong$Audits" "fund" "[I") ∈ bz_T := bz_in 472 (by decide +kernel) rfl
theorem wd_473 : (Jvm.Cond.fieldLink "UnitsWrong$Audits" (15 : Nat) "UnitsWrong$Audits" "day" "[I") ∈ bz_T := bz_in 473 (by decide +kernel) rfl
theorem wd_474 : (Jvm.Cond.fieldLink "UnitsWrong$Audits" (18 : Nat) "UnitsWrong$Audits" "price" "[I") ∈ bz_T := bz_in 474 (by decide +kernel) rfl
theorem wd_475 : (Jvm.Cond.fieldLink "UnitsWrong$Audits" (21 : Nat) "UnitsWrong$Audits" "size" "I") ∈ bz_T := bz_in 475 (by decide +kernel) rfl
theorem wd_476 : (Jvm.Cond.fieldLink "UnitsWrong" (309 : Nat) "UnitsWrong$Audits" "size" "I") ∈ bz_T := bz_in 476 (by decide +kernel) rfl
theorem wd_477 : (Jvm.Cond.fieldLink "UnitsWrong$Audits" (25 : Nat) "UnitsWrong$Audits" "searched" "Z") ∈ bz_T := bz_in 477 (by decide +kernel) rfl
theorem wd_478 : (Jvm.Cond.fieldLink "UnitsWrong" (302 : Nat) "UnitsWrong$Audits" "searched" "Z") ∈ bz_T := bz_in 478 (by decide +kernel) rfl
theorem wd_479 : (Jvm.Cond.fieldLink "UnitsWrong$Audits" (37 : Nat) "UnitsWrong$Audits" "least" "I") ∈ bz_T := bz_in 479 (by decide +kernel) rfl
theorem wd_481 : (Jvm.Cond.fieldLink "UnitsWrong$Audits" (40 : Nat) "UnitsWrong$Audits" "rivals" "I") ∈ bz_T := bz_in 481 (by decide +kernel) rfl
theorem wd_501 : (Jvm.Cond.fieldLink "UnitsWrong" (10 : Nat) "UnitsWrong" "state" "LUnitsWrong$State;") ∈ bz_T := bz_in 501 (by decide +kernel) rfl
theorem wd_502 : (Jvm.Cond.fieldLink "UnitsWrong" (19 : Nat) "UnitsWrong" "text" "LUnitsWrong$Text;") ∈ bz_T := bz_in 502 (by decide +kernel) rfl
theorem wd_503 : (Jvm.Cond.fieldLink "UnitsWrong" (26 : Nat) "UnitsWrong" "course" "LUnitsWrong$Course;") ∈ bz_T := bz_in 503 (by decide +kernel) rfl
theorem wd_506 : (Jvm.Cond.fieldLink "UnitsWrong" (47 : Nat) "UnitsWrong" "audits" "LUnitsWrong$Audits;") ∈ bz_T := bz_in 506 (by decide +kernel) rfl
theorem wd_528 : (Jvm.Cond.constant "UnitsWrong" (59 : Nat) (100000000 : Int32)) ∈ bz_T := bz_in 528 (by decide +kernel) rfl
theorem wd_541 : (Jvm.Cond.methodLink "UnitsWrong" (83 : Nat) ({ cls := "UnitsWrong$State", name := "isOpen", desc := "(I)Z" } : Jvm.MethodName)) ∈ bz_T := bz_in 541 (by decide +kernel) rfl
theorem wd_542 : (Jvm.Cond.instanceMethod ({ cls := "UnitsWrong$State", name := "isOpen", desc := "(I)Z" } : Jvm.MethodName)) ∈ bz_T := bz_in 542 (by decide +kernel) rfl
theorem wd_544 : (Jvm.Cond.code ({ cls := "UnitsWrong$State", name := "isOpen", desc := "(I)Z" } : Jvm.MethodName) prog_9_method_6_code (2 : Nat) (Option.some Jvm.ClassFile.FieldType.boolean)) ∈ bz_T := bz_in 544 (by decide +kernel) rfl
theorem wd_546 : (Jvm.Cond.static ({ cls := "UnitsWrong", name := "isDay", desc := "(I)Z" } : Jvm.MethodName)) ∈ bz_T := bz_in 546 (by decide +kernel) rfl
theorem wd_547 : (Jvm.Cond.code ({ cls := "UnitsWrong", name := "isDay", desc := "(I)Z" } : Jvm.MethodName) prog_1_method_44_code (1 : Nat) (Option.some Jvm.ClassFile.FieldType.boolean)) ∈ bz_T := bz_in 547 (by decide +kernel) rfl
theorem wd_552 : (Jvm.Cond.methodLink "UnitsWrong" (87 : Nat) ({ cls := "UnitsWrong", name := "canBeTold", desc := "(IIII)Z" } : Jvm.MethodName)) ∈ bz_T := bz_in 552 (by decide +kernel) rfl
theorem wd_553 : (Jvm.Cond.static ({ cls := "UnitsWrong", name := "canBeTold", desc := "(IIII)Z" } : Jvm.MethodName)) ∈ bz_T := bz_in 553 (by decide +kernel) rfl
theorem wd_554 : (Jvm.Cond.code ({ cls := "UnitsWrong", name := "canBeTold", desc := "(IIII)Z" } : Jvm.MethodName) prog_1_method_49_code (4 : Nat) (Option.some Jvm.ClassFile.FieldType.boolean)) ∈ bz_T := bz_in 554 (by decide +kernel) rfl
theorem wd_555 : (Jvm.Cond.methodLink "UnitsWrong" (110 : Nat) ({ cls := "UnitsWrong", name := "isSubject", desc := "(II)Z" } : Jvm.MethodName)) ∈ bz_T := bz_in 555 (by decide +kernel) rfl
theorem wd_556 : (Jvm.Cond.static ({ cls := "UnitsWrong", name := "isSubject", desc := "(II)Z" } : Jvm.MethodName)) ∈ bz_T := bz_in 556 (by decide +kernel) rfl
theorem wd_557 : (Jvm.Cond.code ({ cls := "UnitsWrong", name := "isSubject", desc := "(II)Z" } : Jvm.MethodName) prog_1_method_48_code (2 : Nat) (Option.some Jvm.ClassFile.FieldType.boolean)) ∈ bz_T := bz_in 557 (by decide +kernel) rfl
theorem wd_558 : (Jvm.Cond.methodLink "UnitsWrong" (114 : Nat) ({ cls := "UnitsWrong", name := "isDay", desc := "(I)Z" } : Jvm.MethodName)) ∈ bz_T := bz_in 558 (by decide +kernel) rfl
theorem wd_559 : (Jvm.Cond.methodLink "UnitsWrong" (95 : Nat) ({ cls := "UnitsWrong$Tellings", name := "add", desc := "(IIIII)I" } : Jvm.MethodName)) ∈ bz_T := bz_in 559 (by decide +kernel) rfl
theorem wd_560 : (Jvm.Cond.instanceMethod ({ cls := "UnitsWrong$Tellings", name := "add", desc := "(IIIII)I" } : Jvm.MethodName)) ∈ bz_T := bz_in 560 (by decide +kernel) rfl
theorem wd_562 : (Jvm.Cond.code ({ cls := "UnitsWrong$Tellings", name := "add", desc := "(IIIII)I" } : Jvm.MethodName) prog_10_method_2_code (7 : Nat) (Option.some Jvm.ClassFile.FieldType.int)) ∈ bz_T := bz_in 562 (by decide +kernel) rfl
theorem wd_563 : (Jvm.Cond.methodLink "UnitsWrong$Tellings" (33 : Nat) ({ cls := "UnitsWrong$ByDay", name := "add", desc := "(I)I" } : Jvm.MethodName)) ∈ bz_T := bz_in 563 (by decide +kernel) rfl
theorem wd_564 : (Jvm.Cond.instanceMethod ({ cls := "UnitsWrong$ByDay", name := "add", desc := "(I)I" } : Jvm.MethodName)) ∈ bz_T := bz_in 564 (by decide +kernel) rfl
theorem wd_566 : (Jvm.Cond.code ({ cls := "UnitsWrong$ByDay", name := "add", desc := "(I)I" } : Jvm.MethodName) prog_3_method_2_code (4 : Nat) (Option.some Jvm.ClassFile.FieldType.int)) ∈ bz_T := bz_in 566 (by decide +kernel) rfl
theorem wd_571 : (Jvm.Cond.constant "UnitsWrong" (117 : Nat) (-2147483648 : Int32)) ∈ bz_T := bz_in 571 (by decide +kernel) rfl
theorem wd_572 : (Jvm.Cond.methodLink "UnitsWrong" (118 : Nat) ({ cls := "UnitsWrong$Tellings", name := "latest", desc := "(IIII)I" } : Jvm.MethodName)) ∈ bz_T := bz_in 572 (by decide +kernel) rfl
theorem wd_573 : (Jvm.Cond.instanceMethod ({ cls := "UnitsWrong$Tellings", name := "latest", desc := "(IIII)I" } : Jvm.MethodName)) ∈ bz_T := bz_in 573 (by decide +kernel) rfl
theorem wd_575 : (Jvm.Cond.code ({ cls := "UnitsWrong$Tellings", name := "latest", desc := "(IIII)I" } : Jvm.MethodName) prog_10_method_3_code (11 : Nat) (Option.some Jvm.ClassFile.FieldType.int)) ∈ bz_T := bz_in 575 (by decide +kernel) rfl
theorem wd_584 : (Jvm.Cond.methodLink "UnitsWrong" (128 : Nat) ({ cls := "UnitsWrong$State", name := "isFund", desc := "(I)Z" } : Jvm.MethodName)) ∈ bz_T := bz_in 584 (by decide +kernel) rfl
theorem wd_585 : (Jvm.Cond.instanceMethod ({ cls := "UnitsWrong$State", name := "isFund", desc := "(I)Z" } : Jvm.MethodName)) ∈ bz_T := bz_in 585 (by decide +kernel) rfl
theorem wd_587 : (Jvm.Cond.code ({ cls := "UnitsWrong$State", name := "isFund", desc := "(I)Z" } : Jvm.MethodName) prog_9_method_2_code (2 : Nat) (Option.some Jvm.ClassFile.FieldType.boolean)) ∈ bz_T := bz_in 587 (by decide +kernel) rfl
theorem wd_588 : (Jvm.Cond.methodLink "UnitsWrong" (131 : Nat) ({ cls := "UnitsWrong", name := "isWithin", desc := "(II)Z" } : Jvm.MethodName)) ∈ bz_T := bz_in 588 (by decide +kernel) rfl
theorem wd_589 : (Jvm.Cond.static ({ cls := "UnitsWrong", name := "isWithin", desc := "(II)Z" } : Jvm.MethodName)) ∈ bz_T := bz_in 589 (by decide +kernel) rfl
theorem wd_590 : (Jvm.Cond.code ({ cls := "UnitsWrong", name := "isWithin", desc := "(II)Z" } : Jvm.MethodName) prog_1_method_45_code (2 : Nat) (Option.some Jvm.ClassFile.FieldType.boolean)) ∈ bz_T := bz_in 590 (by decide +kernel) rfl
theorem wd_591 : (Jvm.Cond.methodLink "UnitsWrong" (138 : Nat) ({ cls := "UnitsWrong$Trades", name := "add", desc := "(IIII)I" } : Jvm.MethodName)) ∈ bz_T := bz_in 591 (by decide +kernel) rfl
theorem wd_592 : (Jvm.Cond.instanceMethod ({ cls := "UnitsWrong$Trades", name := "add", desc := "(IIII)I" } : Jvm.MethodName)) ∈ bz_T := bz_in 592 (by decide +kernel) rfl
theorem wd_594 : (Jvm.Cond.code ({ cls := "UnitsWrong$Trades", name := "add", desc := "(IIII)I" } : Jvm.MethodName) prog_12_method_2_code (6 : Nat) (Option.some Jvm.ClassFile.FieldType.int)) ∈ bz_T := bz_in 594 (by decide +kernel) rfl
theorem wd_595 : (Jvm.Cond.methodLink "UnitsWrong$Trades" (36 : Nat) ({ cls := "UnitsWrong$ByDay", name := "add", desc := "(I)I" } : Jvm.MethodName)) ∈ bz_T := bz_in 595 (by decide +kernel) rfl
theorem wd_600 : (Jvm.Cond.methodLink "UnitsWrong" (148 : Nat) ({ cls := "UnitsWrong$State", name := "isWho", desc := "(II)Z" } : Jvm.MethodName)) ∈ bz_T := bz_in 600 (by decide +kernel) rfl
theorem wd_601 : (Jvm.Cond.instanceMethod ({ cls := "UnitsWrong$State", name := "isWho", desc := "(II)Z" } : Jvm.MethodName)) ∈ bz_T := bz_in 601 (by decide +kernel) rfl
theorem wd_603 : (Jvm.Cond.code ({ cls := "UnitsWrong$State", name := "isWho", desc := "(II)Z" } : Jvm.MethodName) prog_9_method_4_code (3 : Nat) (Option.some Jvm.ClassFile.FieldType.boolean)) ∈ bz_T := bz_in 603 (by decide +kernel) rfl
theorem wd_604 : (Jvm.Cond.methodLink "UnitsWrong$State" (84 : Nat) ({ cls := "UnitsWrong$State", name := "isFund", desc := "(I)Z" } : Jvm.MethodName)) ∈ bz_T := bz_in 604 (by decide +kernel) rfl
theorem wd_605 : (Jvm.Cond.methodLink "UnitsWrong$State" (88 : Nat) ({ cls := "UnitsWrong$State", name := "isHolder", desc := "(I)Z" } : Jvm.MethodName)) ∈ bz_T := bz_in 605 (by decide +kernel) rfl
theorem wd_606 : (Jvm.Cond.instanceMethod ({ cls := "UnitsWrong$State", name := "isHolder", desc := "(I)Z" } : Jvm.MethodName)) ∈ bz_T := bz_in 606 (by decide +kernel) rfl
theorem wd_608 : (Jvm.Cond.code ({ cls := "UnitsWrong$State", name := "isHolder", desc := "(I)Z" } : Jvm.MethodName) prog_9_method_3_code (2 : Nat) (Option.some Jvm.ClassFile.FieldType.boolean)) ∈ bz_T := bz_in 608 (by decide +kernel) rfl
theorem wd_609 : (Jvm.Cond.methodLink "UnitsWrong" (151 : Nat) ({ cls := "UnitsWrong$State", name := "dealingDay", desc := "(III)I" } : Jvm.MethodName)) ∈ bz_T := bz_in 609 (by decide +kernel) rfl
theorem wd_610 : (Jvm.Cond.instanceMethod ({ cls := "UnitsWrong$State", name := "dealingDay", desc := "(III)I" } : Jvm.MethodName)) ∈ bz_T := bz_in 610 (by decide +kernel) rfl
theorem wd_612 : (Jvm.Cond.code ({ cls := "UnitsWrong$State", name := "dealingDay", desc := "(III)I" } : Jvm.MethodName) prog_9_method_8_code (5 : Nat) (Option.some Jvm.ClassFile.FieldType.int)) ∈ bz_T := bz_in 612 (by decide +kernel) rfl
theorem wd_613 : (Jvm.Cond.methodLink "UnitsWrong$State" (94 : Nat) ({ cls := "UnitsWrong$State", name := "isOpen", desc := "(I)Z" } : Jvm.MethodName)) ∈ bz_T := bz_in 613 (by decide +kernel) rfl
theorem wd_614 : (Jvm.Cond.methodLink "UnitsWrong$State" (100 : Nat) ({ cls := "UnitsWrong$Laws", name := "value", desc := "(III)I" } : Jvm.MethodName)) ∈ bz_T := bz_in 614 (by decide +kernel) rfl
theorem wd_615 : (Jvm.Cond.instanceMethod ({ cls := "UnitsWrong$Laws", name := "value", desc := "(III)I" } : Jvm.MethodName)) ∈ bz_T := bz_in 615 (by decide +kernel) rfl
theorem wd_617 : (Jvm.Cond.code ({ cls := "UnitsWrong$Laws", name := "value", desc := "(III)I" } : Jvm.MethodName) prog_7_method_3_code (5 : Nat) (Option.some Jvm.ClassFile.FieldType.int)) ∈ bz_T := bz_in 617 (by decide +kernel) rfl
theorem wd_618 : (Jvm.Cond.fieldLink "UnitsWrong$Laws" (23 : Nat) "UnitsWrong$Laws" "WITHOUT" "[I") ∈ bz_T := bz_in 618 (by decide +kernel) rfl
theorem wd_620 : (Jvm.Cond.methodLink "UnitsWrong$State" (104 : Nat) ({ cls := "UnitsWrong$State", name := "openBehind", desc := "(I)I" } : Jvm.MethodName)) ∈ bz_T := bz_in 620 (by decide +kernel) rfl
theorem wd_621 : (Jvm.Cond.instanceMethod ({ cls := "UnitsWrong$State", name := "openBehind", desc := "(I)I" } : Jvm.MethodName)) ∈ bz_T := bz_in 621 (by decide +kernel) rfl
theorem wd_623 : (Jvm.Cond.code ({ cls := "UnitsWrong$State", name := "openBehind", desc := "(I)I" } : Jvm.MethodName) prog_9_method_7_code (3 : Nat) (Option.some Jvm.ClassFile.FieldType.int)) ∈ bz_T := bz_in 623 (by decide +kernel) rfl
theorem wd_624 : (Jvm.Cond.methodLink "UnitsWrong" (159 : Nat) ({ cls := "UnitsWrong$Deals", name := "add", desc := "(IIII)I" } : Jvm.MethodName)) ∈ bz_T := bz_in 624 (by decide +kernel) rfl
theorem wd_625 : (Jvm.Cond.instanceMethod ({ cls := "UnitsWrong$Deals", name := "add", desc := "(IIII)I" } : Jvm.MethodName)) ∈ bz_T := bz_in 625 (by decide +kernel) rfl
theorem wd_627 : (Jvm.Cond.code ({ cls := "UnitsWrong$Deals", name := "add", desc := "(IIII)I" } : Jvm.MethodName) prog_6_method_2_code (6 : Nat) (Option.some Jvm.ClassFile.FieldType.int)) ∈ bz_T := bz_in 627 (by decide +kernel) rfl
theorem wd_628 : (Jvm.Cond.methodLink "UnitsWrong$Deals" (46 : Nat) ({ cls := "UnitsWrong$ByDay", name := "add", desc := "(I)I" } : Jvm.MethodName)) ∈ bz_T := bz_in 628 (by decide +kernel) rfl
theorem wd_633 : (Jvm.Cond.methodLink "UnitsWrong" (165 : Nat) ({ cls := "UnitsWrong$Text", name := "append", desc := "(I)V" } : Jvm.MethodName)) ∈ bz_T := bz_in 633 (by decide +kernel) rfl
theorem wd_634 : (Jvm.Cond.instanceMethod ({ cls := "UnitsWrong$Text", name := "append", desc := "(I)V" } : Jvm.MethodName)) ∈ bz_T := bz_in 634 (by decide +kernel) rfl
theorem wd_636 : (Jvm.Cond.code ({ cls := "UnitsWrong$Text", name := "append", desc := "(I)V" } : Jvm.MethodName) prog_11_method_2_code (3 : Nat) (Option.none : Option Jvm.ClassFile.FieldType)) ∈ bz_T := bz_in 636 (by decide +kernel) rfl
theorem wd_649 : (Jvm.Cond.constant "UnitsWrong$Text" (22 : Nat) (-2147483648 : Int32)) ∈ bz_T := bz_in 649 (by decide +kernel) rfl
theorem wd_650 : (Jvm.Cond.methodLink "UnitsWrong$Text" (23 : Nat) ({ cls := "java/util/Arrays", name := "fill", desc := "([II)V" } : Jvm.MethodName)) ∈ bz_T := bz_in 650 (by decide +kernel) rfl
theorem wd_655 : (Jvm.Cond.methodLink "UnitsWrong$Text" (38 : Nat) ({ cls := "UnitsWrong$Text", name := "next", desc := "()V" } : Jvm.MethodName)) ∈ bz_T := bz_in 655 (by decide +kernel) rfl
theorem wd_657 : (Jvm.Cond.instanceMethod ({ cls := "UnitsWrong$Text", name := "next", desc := "()V" } : Jvm.MethodName)) ∈ bz_T := bz_in 657 (by decide +kernel) rfl
theorem wd_658 : (Jvm.Cond.code ({ cls := "UnitsWrong$Text", name := "next", desc := "()V" } : Jvm.MethodName) prog_11_method_11_code (2 : Nat) (Option.none : Option Jvm.ClassFile.FieldType)) ∈ bz_T := bz_in 658 (by decide +kernel) rfl
theorem wd_659 : (Jvm.Cond.methodLink "UnitsWrong$Text" (114 : Nat) ({ cls := "UnitsWrong$Text", name := "kindAt", desc := "(I)I" } : Jvm.MethodName)) ∈ bz_T := bz_in 659 (by decide +kernel) rfl
theorem wd_661 : (Jvm.Cond.instanceMethod ({ cls := "UnitsWrong$Text", name := "kindAt", desc := "(I)I" } : Jvm.MethodName)) ∈ bz_T := bz_in 661 (by decide +kernel) rfl
theorem wd_662 : (Jvm.Cond.code ({ cls := "UnitsWrong$Text", name := "kindAt", desc := "(I)I" } : Jvm.MethodName) prog_11_method_12_code (3 : Nat) (Option.some Jvm.ClassFile.FieldType.int)) ∈ bz_T := bz_in 662 (by decide +kernel) rfl
theorem wd_663 : (Jvm.Cond.constant "UnitsWrong$Text" (117 : Nat) (1000000 : Int32)) ∈ bz_T := bz_in 663 (by decide +kernel) rfl
theorem wd_664 : (Jvm.Cond.methodLink "UnitsWrong$Text" (118 : Nat) ({ cls := "java/lang/Math", name := "min", desc := "(II)I" } : Jvm.MethodName)) ∈ bz_T := bz_in 664 (by decide +kernel) rfl
theorem wd_665 : (Jvm.Cond.static ({ cls := "java/lang/Math", name := "min", desc := "(II)I" } : Jvm.MethodName)) ∈ bz_T := bz_in 665 (by decide +kernel) rfl
theorem wd_666 : (Jvm.Cond.code ({ cls := "java/lang/Math", name := "min", desc := "(II)I" } : Jvm.MethodName) prog_16_method_69_code (2 : Nat) (Option.some Jvm.ClassFile.FieldType.int)) ∈ bz_T := bz_in 666 (by decide +kernel) rfl
theorem wd_776 : (Jvm.Cond.methodLink "UnitsWrong" (186 : Nat) ({ cls := "UnitsWrong$Laws", name := "value", desc := "(III)I" } : Jvm.MethodName)) ∈ bz_T := bz_in 776 (by decide +kernel) rfl
theorem wd_781 : (Jvm.Cond.methodLink "UnitsWrong" (188 : Nat) ({ cls := "java/lang/Math", name := "min", desc := "(II)I" } : Jvm.MethodName)) ∈ bz_T := bz_in 781 (by decide +kernel) rfl
theorem wd_806 : (Jvm.Cond.methodLink "UnitsWrong$State" (108 : Nat) ({ cls := "java/lang/Math", name := "min", desc := "(II)I" } : Jvm.MethodName)) ∈ bz_T := bz_in 806 (by decide +kernel) rfl
theorem wd_838 : (Jvm.Cond.static ({ cls := "java/lang/Math", name := "min", desc := "(JJ)J" } : Jvm.MethodName)) ∈ bz_T := bz_in 838 (by decide +kernel) rfl
theorem wd_839 : (Jvm.Cond.code ({ cls := "java/lang/Math", name := "min", desc := "(JJ)J" } : Jvm.MethodName) prog_16_method_70_code (4 : Nat) (Option.some Jvm.ClassFile.FieldType.long)) ∈ bz_T := bz_in 839 (by decide +kernel) rfl
theorem wd_841 : (Jvm.Cond.static ({ cls := "java/lang/Math", name := "max", desc := "(JJ)J" } : Jvm.MethodName)) ∈ bz_T := bz_in 841 (by decide +kernel) rfl
theorem wd_842 : (Jvm.Cond.code ({ cls := "java/lang/Math", name := "max", desc := "(JJ)J" } : Jvm.MethodName) prog_16_method_66_code (4 : Nat) (Option.some Jvm.ClassFile.FieldType.long)) ∈ bz_T := bz_in 842 (by decide +kernel) rfl
theorem wd_857 : (Jvm.Cond.static ({ cls := "UnitsWrong", name := "slot", desc := "(II)I" } : Jvm.MethodName)) ∈ bz_T := bz_in 857 (by decide +kernel) rfl
theorem wd_858 : (Jvm.Cond.code ({ cls := "UnitsWrong", name := "slot", desc := "(II)I" } : Jvm.MethodName) prog_1_method_46_code (2 : Nat) (Option.some Jvm.ClassFile.FieldType.int)) ∈ bz_T := bz_in 858 (by decide +kernel) rfl
theorem wd_900 : (Jvm.Cond.static ({ cls := "java/lang/Math", name := "max", desc := "(II)I" } : Jvm.MethodName)) ∈ bz_T := bz_in 900 (by decide +kernel) rfl
theorem wd_901 : (Jvm.Cond.code ({ cls := "java/lang/Math", name := "max", desc := "(II)I" } : Jvm.MethodName) prog_16_method_65_code (2 : Nat) (Option.some Jvm.ClassFile.FieldType.int)) ∈ bz_T := bz_in 901 (by decide +kernel) rfl
theorem wd_906 : (Jvm.Cond.methodLink "UnitsWrong" (198 : Nat) ({ cls := "UnitsWrong", name := "isBooked", desc := "(II)Z" } : Jvm.MethodName)) ∈ bz_T := bz_in 906 (by decide +kernel) rfl
theorem wd_908 : (Jvm.Cond.instanceMethod ({ cls := "UnitsWrong", name := "isBooked", desc := "(II)Z" } : Jvm.MethodName)) ∈ bz_T := bz_in 908 (by decide +kernel) rfl
theorem wd_909 : (Jvm.Cond.code ({ cls := "UnitsWrong", name := "isBooked", desc := "(II)Z" } : Jvm.MethodName) prog_1_method_43_code (3 : Nat) (Option.some Jvm.ClassFile.FieldType.boolean)) ∈ bz_T := bz_in 909 (by decide +kernel) rfl
theorem wd_910 : (Jvm.Cond.methodLink "UnitsWrong" (204 : Nat) ({ cls := "UnitsWrong", name := "slot", desc := "(II)I" } : Jvm.MethodName)) ∈ bz_T := bz_in 910 (by decide +kernel) rfl
theorem wd_915 : (Jvm.Cond.methodLink "UnitsWrong" (207 : Nat) ({ cls := "UnitsWrong$State", name := "latestKnown", desc := "()I" } : Jvm.MethodName)) ∈ bz_T := bz_in 915 (by decide +kernel) rfl
theorem wd_916 : (Jvm.Cond.instanceMethod ({ cls := "UnitsWrong$State", name := "latestKnown", desc := "()I" } : Jvm.MethodName)) ∈ bz_T := bz_in 916 (by decide +kernel) rfl
theorem wd_918 : (Jvm.Cond.code ({ cls := "UnitsWrong$State", name := "latestKnown", desc := "()I" } : Jvm.MethodName) prog_9_method_9_code (1 : Nat) (Option.some Jvm.ClassFile.FieldType.int)) ∈ bz_T := bz_in 918 (by decide +kernel) rfl
theorem wd_924 : (Jvm.Cond.methodLink "UnitsWrong" (219 : Nat) ({ cls := "UnitsWrong", name := "told", desc := "(J)I" } : Jvm.MethodName)) ∈ bz_T := bz_in 924 (by decide +kernel) rfl
theorem wd_925 : (Jvm.Cond.static ({ cls := "UnitsWrong", name := "told", desc := "(J)I" } : Jvm.MethodName)) ∈ bz_T := bz_in 925 (by decide +kernel) rfl
theorem wd_926 : (Jvm.Cond.code ({ cls := "UnitsWrong", name := "told", desc := "(J)I" } : Jvm.MethodName) prog_1_method_47_code (2 : Nat) (Option.some Jvm.ClassFile.FieldType.int)) ∈ bz_T := bz_in 926 (by decide +kernel) rfl
theorem wd_927 : (Jvm.Cond.constantLong "UnitsWrong" (363 : Nat) (-2000000000 : Int64)) ∈ bz_T := bz_in 927 (by decide +kernel) rfl
theorem wd_928 : (Jvm.Cond.constantLong "UnitsWrong" (365 : Nat) (2000000000 : Int64)) ∈ bz_T := bz_in 928 (by decide +kernel) rfl
theorem wd_929 : (Jvm.Cond.methodLink "UnitsWrong" (367 : Nat) ({ cls := "java/lang/Math", name := "min", desc := "(JJ)J" } : Jvm.MethodName)) ∈ bz_T := bz_in 929 (by decide +kernel) rfl
theorem wd_930 : (Jvm.Cond.methodLink "UnitsWrong" (370 : Nat) ({ cls := "java/lang/Math", name := "max", desc := "(JJ)J" } : Jvm.MethodName)) ∈ bz_T := bz_in 930 (by decide +kernel) rfl
theorem wd_950 : (Jvm.Cond.static ({ cls := "java/lang/Math", name := "abs", desc := "(I)I" } : Jvm.MethodName)) ∈ bz_T := bz_in 950 (by decide +kernel) rfl
theorem wd_951 : (Jvm.Cond.code ({ cls := "java/lang/Math", name := "abs", desc := "(I)I" } : Jvm.MethodName) prog_16_method_59_code (1 : Nat) (Option.some Jvm.ClassFile.FieldType.int)) ∈ bz_T := bz_in 951 (by decide +kernel) rfl
theorem wd_1024 : (Jvm.Cond.methodLink "UnitsWrong" (287 : Nat) ({ cls := "UnitsWrong$State", name := "isHolder", desc := "(I)Z" } : Jvm.MethodName)) ∈ bz_T := bz_in 1024 (by decide +kernel) rfl
theorem wd_1033 : (Jvm.Cond.methodLink "UnitsWrong" (296 : Nat) ({ cls := "UnitsWrong$State", name := "openBehind", desc := "(I)I" } : Jvm.MethodName)) ∈ bz_T := bz_in 1033 (by decide +kernel) rfl
theorem wd_1038 : (Jvm.Cond.constant "UnitsWrong" (299 : Nat) (10000000 : Int32)) ∈ bz_T := bz_in 1038 (by decide +kernel) rfl
theorem wd_1039 : (Jvm.Cond.methodLink "UnitsWrong" (300 : Nat) ({ cls := "UnitsWrong$Audits", name := "add", desc := "(III)I" } : Jvm.MethodName)) ∈ bz_T := bz_in 1039 (by decide +kernel) rfl
theorem wd_1040 : (Jvm.Cond.instanceMethod ({ cls := "UnitsWrong$Audits", name := "add", desc := "(III)I" } : Jvm.MethodName)) ∈ bz_T := bz_in 1040 (by decide +kernel) rfl
theorem wd_1042 : (Jvm.Cond.code ({ cls := "UnitsWrong$Audits", name := "add", desc := "(III)I" } : Jvm.MethodName) prog_2_method_2_code (4 : Nat) (Option.some Jvm.ClassFile.FieldType.int)) ∈ bz_T := bz_in 1042 (by decide +kernel) rfl
theorem wd_1059 : (Jvm.Cond.methodLink "UnitsWrong$Audits" (56 : Nat) ({ cls := "java/lang/Integer", name := "bitCount", desc := "(I)I" } : Jvm.MethodName)) ∈ bz_T := bz_in 1059 (by decide +kernel) rfl
theorem wd_1060 : (Jvm.Cond.static ({ cls := "java/lang/Integer", name := "bitCount", desc := "(I)I" } : Jvm.MethodName)) ∈ bz_T := bz_in 1060 (by decide +kernel) rfl
theorem wd_1061 : (Jvm.Cond.code ({ cls := "java/lang/Integer", name := "bitCount", desc := "(I)I" } : Jvm.MethodName) prog_15_method_49_code (1 : Nat) (Option.some Jvm.ClassFile.FieldType.int)) ∈ bz_T := bz_in 1061 (by decide +kernel) rfl
theorem wd_1062 : (Jvm.Cond.constant "java/lang/Integer" (265 : Nat) (1431655765 : Int32)) ∈ bz_T := bz_in 1062 (by decide +kernel) rfl
theorem wd_1063 : (Jvm.Cond.constant "java/lang/Integer" (266 : Nat) (858993459 : Int32)) ∈ bz_T := bz_in 1063 (by decide +kernel) rfl
theorem wd_1064 : (Jvm.Cond.constant "java/lang/Integer" (267 : Nat) (252645135 : Int32)) ∈ bz_T := bz_in 1064 (by decide +kernel) rfl
theorem wd_1069 : (Jvm.Cond.methodLink "UnitsWrong$Audits" (71 : Nat) ({ cls := "java/lang/Math", name := "max", desc := "(II)I" } : Jvm.MethodName)) ∈ bz_T := bz_in 1069 (by decide +kernel) rfl
theorem wd_1087 : (Jvm.Cond.constantLong "UnitsWrong" (320 : Nat) (10000 : Int64)) ∈ bz_T := bz_in 1087 (by decide +kernel) rfl
theorem wd_1088 : (Jvm.Cond.methodLink "UnitsWrong" (322 : Nat) ({ cls := "java/lang/Math", name := "abs", desc := "(I)I" } : Jvm.MethodName)) ∈ bz_T := bz_in 1088 (by decide +kernel) rfl
theorem wd_1102 : (Jvm.Cond.methodLink "UnitsWrong" (333 : Nat) ({ cls := "UnitsWrong$State", name := "isParty", desc := "(I)Z" } : Jvm.MethodName)) ∈ bz_T := bz_in 1102 (by decide +kernel) rfl
theorem wd_1103 : (Jvm.Cond.instanceMethod ({ cls := "UnitsWrong$State", name := "isParty", desc := "(I)Z" } : Jvm.MethodName)) ∈ bz_T := bz_in 1103 (by decide +kernel) rfl
theorem wd_1105 : (Jvm.Cond.code ({ cls := "UnitsWrong$State", name := "isParty", desc := "(I)Z" } : Jvm.MethodName) prog_9_method_5_code (2 : Nat) (Option.some Jvm.ClassFile.FieldType.boolean)) ∈ bz_T := bz_in 1105 (by decide +kernel) rfl
theorem wd_1170 : (Jvm.Cond.fieldLink "UnitsWrongModel" (216 : Nat) "UnitsWrongModel" "now" "I") ∈ bz_T := bz_in 1170 (by decide +kernel) rfl
theorem wd_1171 : (Jvm.Cond.fieldLink "UnitsWrongModel" (9 : Nat) "UnitsWrongModel" "isHoliday" "[Z") ∈ bz_T := bz_in 1171 (by decide +kernel) rfl
theorem wd_1172 : (Jvm.Cond.fieldLink "UnitsWrongModel" (226 : Nat) "UnitsWrongModel" "holidays" "I") ∈ bz_T := bz_in 1172 (by decide +kernel) rfl
theorem wd_1173 : (Jvm.Cond.fieldLink "UnitsWrongModel" (13 : Nat) "UnitsWrongModel" "subject" "[I") ∈ bz_T := bz_in 1173 (by decide +kernel) rfl
theorem wd_1174 : (Jvm.Cond.fieldLink "UnitsWrongModel" (17 : Nat) "UnitsWrongModel" "number" "[I") ∈ bz_T := bz_in 1174 (by decide +kernel) rfl
theorem wd_1175 : (Jvm.Cond.fieldLink "UnitsWrongModel" (20 : Nat) "UnitsWrongModel" "forDay" "[I") ∈ bz_T := bz_in 1175 (by decide +kernel) rfl
theorem wd_1176 : (Jvm.Cond.fieldLink "UnitsWrongModel" (23 : Nat) "UnitsWrongModel" "value" "[I") ∈ bz_T := bz_in 1176 (by decide +kernel) rfl
theorem wd_1177 : (Jvm.Cond.fieldLink "UnitsWrongModel" (26 : Nat) "UnitsWrongModel" "made" "[I") ∈ bz_T := bz_in 1177 (by decide +kernel) rfl
theorem wd_1178 : (Jvm.Cond.fieldLink "UnitsWrongModel" (29 : Nat) "UnitsWrongModel" "sSubject" "[I") ∈ bz_T := bz_in 1178 (by decide +kernel) rfl
theorem wd_1179 : (Jvm.Cond.fieldLink "UnitsWrongModel" (32 : Nat) "UnitsWrongModel" "sNumber" "[I") ∈ bz_T := bz_in 1179 (by decide +kernel) rfl
theorem wd_1180 : (Jvm.Cond.fieldLink "UnitsWrongModel" (35 : Nat) "UnitsWrongModel" "sDay" "[I") ∈ bz_T := bz_in 1180 (by decide +kernel) rfl
theorem wd_1181 : (Jvm.Cond.fieldLink "UnitsWrongModel" (38 : Nat) "UnitsWrongModel" "sValue" "[I") ∈ bz_T := bz_in 1181 (by decide +kernel) rfl
theorem wd_1182 : (Jvm.Cond.fieldLink "UnitsWrongModel" (251 : Nat) "UnitsWrongModel" "tellings" "I") ∈ bz_T := bz_in 1182 (by decide +kernel) rfl
theorem wd_1183 : (Jvm.Cond.fieldLink "UnitsWrongModel" (526 : Nat) "UnitsWrongModel" "suspects" "I") ∈ bz_T := bz_in 1183 (by decide +kernel) rfl
theorem wd_1184 : (Jvm.Cond.fieldLink "UnitsWrongModel" (41 : Nat) "UnitsWrongModel" "currency" "[I") ∈ bz_T := bz_in 1184 (by decide +kernel) rfl
theorem wd_1185 : (Jvm.Cond.fieldLink "UnitsWrongModel" (44 : Nat) "UnitsWrongModel" "firstCash" "[I") ∈ bz_T := bz_in 1185 (by decide +kernel) rfl
theorem wd_1186 : (Jvm.Cond.fieldLink "UnitsWrongModel" (47 : Nat) "UnitsWrongModel" "zone" "[I") ∈ bz_T := bz_in 1186 (by decide +kernel) rfl
theorem wd_1187 : (Jvm.Cond.fieldLink "UnitsWrongModel" (50 : Nat) "UnitsWrongModel" "goneOn" "[I") ∈ bz_T := bz_in 1187 (by decide +kernel) rfl
theorem wd_1188 : (Jvm.Cond.fieldLink "UnitsWrongModel" (53 : Nat) "UnitsWrongModel" "foundOn" "[I") ∈ bz_T := bz_in 1188 (by decide +kernel) rfl
theorem wd_1189 : (Jvm.Cond.fieldLink "UnitsWrongModel" (275 : Nat) "UnitsWrongModel" "funds" "I") ∈ bz_T := bz_in 1189 (by decide +kernel) rfl
theorem wd_1190 : (Jvm.Cond.fieldLink "UnitsWrongModel" (284 : Nat) "UnitsWrongModel" "holders" "I") ∈ bz_T := bz_in 1190 (by decide +kernel) rfl
theorem wd_1191 : (Jvm.Cond.fieldLink "UnitsWrongModel" (56 : Nat) "UnitsWrongModel" "tFund" "[I") ∈ bz_T := bz_in 1191 (by decide +kernel) rfl
theorem wd_1192 : (Jvm.Cond.fieldLink "UnitsWrongModel" (59 : Nat) "UnitsWrongModel" "tPaper" "[I") ∈ bz_T := bz_in 1192 (by decide +kernel) rfl
theorem wd_1193 : (Jvm.Cond.fieldLink "UnitsWrongModel" (62 : Nat) "UnitsWrongModel" "tDay" "[I") ∈ bz_T := bz_in 1193 (by decide +kernel) rfl
theorem wd_1194 : (Jvm.Cond.fieldLink "UnitsWrongModel" (65 : Nat) "UnitsWrongModel" "tPieces" "[I") ∈ bz_T := bz_in 1194 (by decide +kernel) rfl
theorem wd_1195 : (Jvm.Cond.fieldLink "UnitsWrongModel" (68 : Nat) "UnitsWrongModel" "tPence" "[I") ∈ bz_T := bz_in 1195 (by decide +kernel) rfl
theorem wd_1196 : (Jvm.Cond.fieldLink "UnitsWrongModel" (71 : Nat) "UnitsWrongModel" "tMade" "[I") ∈ bz_T := bz_in 1196 (by decide +kernel) rfl
theorem wd_1197 : (Jvm.Cond.fieldLink "UnitsWrongModel" (294 : Nat) "UnitsWrongModel" "trades" "I") ∈ bz_T := bz_in 1197 (by decide +kernel) rfl
theorem wd_1198 : (Jvm.Cond.fieldLink "UnitsWrongModel" (74 : Nat) "UnitsWrongModel" "dWho" "[I") ∈ bz_T := bz_in 1198 (by decide +kernel) rfl
theorem wd_1199 : (Jvm.Cond.fieldLink "UnitsWrongModel" (77 : Nat) "UnitsWrongModel" "dFund" "[I") ∈ bz_T := bz_in 1199 (by decide +kernel) rfl
theorem wd_1200 : (Jvm.Cond.fieldLink "UnitsWrongModel" (80 : Nat) "UnitsWrongModel" "dMany" "[I") ∈ bz_T := bz_in 1200 (by decide +kernel) rfl
theorem wd_1201 : (Jvm.Cond.fieldLink "UnitsWrongModel" (83 : Nat) "UnitsWrongModel" "dDay" "[I") ∈ bz_T := bz_in 1201 (by decide +kernel) rfl
theorem wd_1202 : (Jvm.Cond.fieldLink "UnitsWrongModel" (86 : Nat) "UnitsWrongModel" "dUnits" "[I") ∈ bz_T := bz_in 1202 (by decide +kernel) rfl
theorem wd_1203 : (Jvm.Cond.fieldLink "UnitsWrongModel" (89 : Nat) "UnitsWrongModel" "isDealt" "[Z") ∈ bz_T := bz_in 1203 (by decide +kernel) rfl
theorem wd_1204 : (Jvm.Cond.fieldLink "UnitsWrongModel" (92 : Nat) "UnitsWrongModel" "booked" "[J") ∈ bz_T := bz_in 1204 (by decide +kernel) rfl
theorem wd_1205 : (Jvm.Cond.fieldLink "UnitsWrongModel" (302 : Nat) "UnitsWrongModel" "deals" "I") ∈ bz_T := bz_in 1205 (by decide +kernel) rfl
theorem wd_1206 : (Jvm.Cond.fieldLink "UnitsWrongModel" (96 : Nat) "UnitsWrongModel" "text" "[B") ∈ bz_T := bz_in 1206 (by decide +kernel) rfl
theorem wd_1207 : (Jvm.Cond.fieldLink "UnitsWrongModel" (309 : Nat) "UnitsWrongModel" "textMany" "I") ∈ bz_T := bz_in 1207 (by decide +kernel) rfl
theorem wd_1208 : (Jvm.Cond.fieldLink "UnitsWrongModel" (319 : Nat) "UnitsWrongModel" "at" "I") ∈ bz_T := bz_in 1208 (by decide +kernel) rfl
theorem wd_1209 : (Jvm.Cond.fieldLink "UnitsWrongModel" (322 : Nat) "UnitsWrongModel" "lineEnd" "I") ∈ bz_T := bz_in 1209 (by decide +kernel) rfl
theorem wd_1210 : (Jvm.Cond.fieldLink "UnitsWrongModel" (316 : Nat) "UnitsWrongModel" "faultAt" "I") ∈ bz_T := bz_in 1210 (by decide +kernel) rfl
theorem wd_1211 : (Jvm.Cond.fieldLink "UnitsWrongModel" (102 : Nat) "UnitsWrongModel" "rules" "[[[I") ∈ bz_T := bz_in 1211 (by decide +kernel) rfl
theorem wd_1212 : (Jvm.Cond.fieldLink "UnitsWrongModel" (105 : Nat) "UnitsWrongModel" "lawDay" "[I") ∈ bz_T := bz_in 1212 (by decide +kernel) rfl
theorem wd_1213 : (Jvm.Cond.fieldLink "UnitsWrongModel" (413 : Nat) "UnitsWrongModel" "laws" "I") ∈ bz_T := bz_in 1213 (by decide +kernel) rfl
theorem wd_1214 : (Jvm.Cond.fieldLink "UnitsWrongModel" (108 : Nat) "UnitsWrongModel" "plainRules" "[I") ∈ bz_T := bz_in 1214 (by decide +kernel) rfl
theorem wd_1216 : (Jvm.Cond.fieldLink "UnitsWrongModel" (125 : Nat) "UnitsWrongModel" "price" "[[I") ∈ bz_T := bz_in 1216 (by decide +kernel) rfl
theorem wd_1217 : (Jvm.Cond.fieldLink "UnitsWrongModel" (128 : Nat) "UnitsWrongModel" "rate" "[[I") ∈ bz_T := bz_in 1217 (by decide +kernel) rfl
theorem wd_1218 : (Jvm.Cond.fieldLink "UnitsWrongModel" (131 : Nat) "UnitsWrongModel" "dividend" "[[I") ∈ bz_T := bz_in 1218 (by decide +kernel) rfl
theorem wd_1219 : (Jvm.Cond.fieldLink "UnitsWrongModel" (134 : Nat) "UnitsWrongModel" "split" "[[I") ∈ bz_T := bz_in 1219 (by decide +kernel) rfl
theorem wd_1220 : (Jvm.Cond.fieldLink "UnitsWrongModel" (137 : Nat) "UnitsWrongModel" "cash" "[J") ∈ bz_T := bz_in 1220 (by decide +kernel) rfl
theorem wd_1221 : (Jvm.Cond.fieldLink "UnitsWrongModel" (140 : Nat) "UnitsWrongModel" "coins" "[J") ∈ bz_T := bz_in 1221 (by decide +kernel) rfl
theorem wd_1222 : (Jvm.Cond.fieldLink "UnitsWrongModel" (145 : Nat) "UnitsWrongModel" "pieces" "[[J") ∈ bz_T := bz_in 1222 (by decide +kernel) rfl
theorem wd_1223 : (Jvm.Cond.fieldLink "UnitsWrongModel" (148 : Nat) "UnitsWrongModel" "unitPrice" "[[J") ∈ bz_T := bz_in 1223 (by decide +kernel) rfl
theorem wd_1224 : (Jvm.Cond.fieldLink "UnitsWrongModel" (151 : Nat) "UnitsWrongModel" "fees" "[[J") ∈ bz_T := bz_in 1224 (by decide +kernel) rfl
theorem wd_1225 : (Jvm.Cond.fieldLink "UnitsWrongModel" (154 : Nat) "UnitsWrongModel" "held" "[[J") ∈ bz_T := bz_in 1225 (by decide +kernel) rfl
theorem wd_1226 : (Jvm.Cond.fieldLink "UnitsWrongModel" (157 : Nat) "UnitsWrongModel" "all" "[J") ∈ bz_T := bz_in 1226 (by decide +kernel) rfl
theorem wd_1227 : (Jvm.Cond.fieldLink "UnitsWrongModel" (160 : Nat) "UnitsWrongModel" "bookedPrice" "[[J") ∈ bz_T := bz_in 1227 (by decide +kernel) rfl
theorem wd_1228 : (Jvm.Cond.fieldLink "UnitsWrongModel" (163 : Nat) "UnitsWrongModel" "bookedFee" "[[J") ∈ bz_T := bz_in 1228 (by decide +kernel) rfl
theorem wd_1229 : (Jvm.Cond.fieldLink "UnitsWrongModel" (166 : Nat) "UnitsWrongModel" "isTold" "[Z") ∈ bz_T := bz_in 1229 (by decide +kernel) rfl
theorem wd_1230 : (Jvm.Cond.fieldLink "UnitsWrongModel" (169 : Nat) "UnitsWrongModel" "had" "[J") ∈ bz_T := bz_in 1230 (by decide +kernel) rfl
theorem wd_1231 : (Jvm.Cond.fieldLink "UnitsWrongModel" (418 : Nat) "UnitsWrongModel" "kAsked" "I") ∈ bz_T := bz_in 1231 (by decide +kernel) rfl
theorem wd_1232 : (Jvm.Cond.fieldLink "UnitsWrongModel" (172 : Nat) "UnitsWrongModel" "lost" "[J") ∈ bz_T := bz_in 1232 (by decide +kernel) rfl
theorem wd_1233 : (Jvm.Cond.fieldLink "UnitsWrongModel" (175 : Nat) "UnitsWrongModel" "gained" "[J") ∈ bz_T := bz_in 1233 (by decide +kernel) rfl
theorem wd_1234 : (Jvm.Cond.fieldLink "UnitsWrongModel" (178 : Nat) "UnitsWrongModel" "claims" "[J") ∈ bz_T := bz_in 1234 (by decide +kernel) rfl
theorem wd_1235 : (Jvm.Cond.fieldLink "UnitsWrongModel" (181 : Nat) "UnitsWrongModel" "how" "[I") ∈ bz_T := bz_in 1235 (by decide +kernel) rfl
theorem wd_1236 : (Jvm.Cond.fieldLink "UnitsWrongModel" (184 : Nat) "UnitsWrongModel" "aFund" "[I") ∈ bz_T := bz_in 1236 (by decide +kernel) rfl
theorem wd_1237 : (Jvm.Cond.fieldLink "UnitsWrongModel" (187 : Nat) "UnitsWrongModel" "aDay" "[I") ∈ bz_T := bz_in 1237 (by decide +kernel) rfl
theorem wd_1238 : (Jvm.Cond.fieldLink "UnitsWrongModel" (190 : Nat) "UnitsWrongModel" "aPrice" "[I") ∈ bz_T := bz_in 1238 (by decide +kernel) rfl
theorem wd_1239 : (Jvm.Cond.fieldLink "UnitsWrongModel" (523 : Nat) "UnitsWrongModel" "audits" "I") ∈ bz_T := bz_in 1239 (by decide +kernel) rfl
theorem wd_1240 : (Jvm.Cond.fieldLink "UnitsWrongModel" (529 : Nat) "UnitsWrongModel" "bestHeap" "I") ∈ bz_T := bz_in 1240 (by decide +kernel) rfl
theorem wd_1241 : (Jvm.Cond.fieldLink "UnitsWrongModel" (532 : Nat) "UnitsWrongModel" "bestMany" "I") ∈ bz_T := bz_in 1241 (by decide +kernel) rfl
theorem wd_1242 : (Jvm.Cond.fieldLink "UnitsWrongModel" (193 : Nat) "UnitsWrongModel" "balance" "[J") ∈ bz_T := bz_in 1242 (by decide +kernel) rfl
theorem wd_1243 : (Jvm.Cond.fieldLink "UnitsWrongModel" (196 : Nat) "UnitsWrongModel" "side" "[I") ∈ bz_T := bz_in 1243 (by decide +kernel) rfl
theorem wd_1244 : (Jvm.Cond.fieldLink "UnitsWrongModel" (549 : Nat) "UnitsWrongModel" "sides" "I") ∈ bz_T := bz_in 1244 (by decide +kernel) rfl
theorem wd_1245 : (Jvm.Cond.fieldLink "UnitsWrongModel" (199 : Nat) "UnitsWrongModel" "best" "[I") ∈ bz_T := bz_in 1245 (by decide +kernel) rfl
theorem wd_1246 : (Jvm.Cond.fieldLink "UnitsWrongModel" (202 : Nat) "UnitsWrongModel" "sumOf" "[J") ∈ bz_T := bz_in 1246 (by decide +kernel) rfl
theorem wd_1247 : (Jvm.Cond.fieldLink "UnitsWrongModel" (205 : Nat) "UnitsWrongModel" "heaps" "[I") ∈ bz_T := bz_in 1247 (by decide +kernel) rfl
theorem wd_1248 : (Jvm.Cond.fieldLink "UnitsWrongModel" (558 : Nat) "UnitsWrongModel" "heapMany" "I") ∈ bz_T := bz_in 1248 (by decide +kernel) rfl
theorem wd_1412 : (Jvm.Cond.constantLong "UnitsWrongModel" (220 : Nat) (259 : Int64)) ∈ bz_T := bz_in 1412 (by decide +kernel) rfl
theorem wd_1413 : (Jvm.Cond.methodLink "UnitsWrongModel" (222 : Nat) ({ cls := "UnitsWrongModel", name := "in", desc := "(JJJ)Z" } : Jvm.MethodName)) ∈ bz_T := bz_in 1413 (by decide +kernel) rfl
theorem wd_1414 : (Jvm.Cond.static ({ cls := "UnitsWrongModel", name := "in", desc := "(JJJ)Z" } : Jvm.MethodName)) ∈ bz_T := bz_in 1414 (by decide +kernel) rfl
theorem wd_1415 : (Jvm.Cond.code ({ cls := "UnitsWrongModel", name := "in", desc := "(JJJ)Z" } : Jvm.MethodName) prog_14_method_2_code (6 : Nat) (Option.some Jvm.ClassFile.FieldType.boolean)) ∈ bz_T := bz_in 1415 (by decide +kernel) rfl
theorem wd_1420 : (Jvm.Cond.methodLink "UnitsWrongModel" (229 : Nat) ({ cls := "UnitsWrongModel", name := "isOpen", desc := "(I)Z" } : Jvm.MethodName)) ∈ bz_T := bz_in 1420 (by decide +kernel) rfl
theorem wd_1422 : (Jvm.Cond.instanceMethod ({ cls := "UnitsWrongModel", name := "isOpen", desc := "(I)Z" } : Jvm.MethodName)) ∈ bz_T := bz_in 1422 (by decide +kernel) rfl
theorem wd_1423 : (Jvm.Cond.code ({ cls := "UnitsWrongModel", name := "isOpen", desc := "(I)Z" } : Jvm.MethodName) prog_14_method_6_code (2 : Nat) (Option.some Jvm.ClassFile.FieldType.boolean)) ∈ bz_T := bz_in 1423 (by decide +kernel) rfl
theorem wd_1428 : (Jvm.Cond.methodLink "UnitsWrongModel" (258 : Nat) ({ cls := "UnitsWrongModel", name := "canTell", desc := "(IIII)Z" } : Jvm.MethodName)) ∈ bz_T := bz_in 1428 (by decide +kernel) rfl
theorem wd_1429 : (Jvm.Cond.static ({ cls := "UnitsWrongModel", name := "canTell", desc := "(IIII)Z" } : Jvm.MethodName)) ∈ bz_T := bz_in 1429 (by decide +kernel) rfl
theorem wd_1430 : (Jvm.Cond.code ({ cls := "UnitsWrongModel", name := "canTell", desc := "(IIII)Z" } : Jvm.MethodName) prog_14_method_10_code (4 : Nat) (Option.some Jvm.ClassFile.FieldType.boolean)) ∈ bz_T := bz_in 1430 (by decide +kernel) rfl
theorem wd_1431 : (Jvm.Cond.methodLink "UnitsWrongModel" (239 : Nat) ({ cls := "UnitsWrongModel", name := "isSubject", desc := "(II)Z" } : Jvm.MethodName)) ∈ bz_T := bz_in 1431 (by decide +kernel) rfl
theorem wd_1432 : (Jvm.Cond.static ({ cls := "UnitsWrongModel", name := "isSubject", desc := "(II)Z" } : Jvm.MethodName)) ∈ bz_T := bz_in 1432 (by decide +kernel) rfl
theorem wd_1433 : (Jvm.Cond.code ({ cls := "UnitsWrongModel", name := "isSubject", desc := "(II)Z" } : Jvm.MethodName) prog_14_method_9_code (2 : Nat) (Option.some Jvm.ClassFile.FieldType.boolean)) ∈ bz_T := bz_in 1433 (by decide +kernel) rfl
theorem wd_1434 : (Jvm.Cond.constantLong "UnitsWrongModel" (233 : Nat) (2 : Int64)) ∈ bz_T := bz_in 1434 (by decide +kernel) rfl
theorem wd_1435 : (Jvm.Cond.constantLong "UnitsWrongModel" (235 : Nat) (3 : Int64)) ∈ bz_T := bz_in 1435 (by decide +kernel) rfl
theorem wd_1436 : (Jvm.Cond.constantLong "UnitsWrongModel" (237 : Nat) (7 : Int64)) ∈ bz_T := bz_in 1436 (by decide +kernel) rfl
theorem wd_1437 : (Jvm.Cond.constantLong "UnitsWrongModel" (243 : Nat) (10000 : Int64)) ∈ bz_T := bz_in 1437 (by decide +kernel) rfl
theorem wd_1438 : (Jvm.Cond.constantLong "UnitsWrongModel" (245 : Nat) (9999 : Int64)) ∈ bz_T := bz_in 1438 (by decide +kernel) rfl
theorem wd_1439 : (Jvm.Cond.constantLong "UnitsWrongModel" (247 : Nat) (1000 : Int64)) ∈ bz_T := bz_in 1439 (by decide +kernel) rfl
theorem wd_1440 : (Jvm.Cond.constantLong "UnitsWrongModel" (249 : Nat) (100 : Int64)) ∈ bz_T := bz_in 1440 (by decide +kernel) rfl
theorem wd_1441 : (Jvm.Cond.methodLink "UnitsWrongModel" (262 : Nat) ({ cls := "UnitsWrongModel", name := "lays", desc := "(IIII)V" } : Jvm.MethodName)) ∈ bz_T := bz_in 1441 (by decide +kernel) rfl
theorem wd_1443 : (Jvm.Cond.instanceMethod ({ cls := "UnitsWrongModel", name := "lays", desc := "(IIII)V" } : Jvm.MethodName)) ∈ bz_T := bz_in 1443 (by decide +kernel) rfl
theorem wd_1444 : (Jvm.Cond.code ({ cls := "UnitsWrongModel", name := "lays", desc := "(IIII)V" } : Jvm.MethodName) prog_14_method_11_code (5 : Nat) (Option.none : Option Jvm.ClassFile.FieldType)) ∈ bz_T := bz_in 1444 (by decide +kernel) rfl
theorem wd_1445 : (Jvm.Cond.methodLink "UnitsWrongModel" (254 : Nat) ({ cls := "UnitsWrongModel", name := "known", desc := "()I" } : Jvm.MethodName)) ∈ bz_T := bz_in 1445 (by decide +kernel) rfl
theorem wd_1447 : (Jvm.Cond.instanceMethod ({ cls := "UnitsWrongModel", name := "known", desc := "()I" } : Jvm.MethodName)) ∈ bz_T := bz_in 1447 (by decide +kernel) rfl
theorem wd_1448 : (Jvm.Cond.code ({ cls := "UnitsWrongModel", name := "known", desc := "()I" } : Jvm.MethodName) prog_14_method_5_code (1 : Nat) (Option.some Jvm.ClassFile.FieldType.int)) ∈ bz_T := bz_in 1448 (by decide +kernel) rfl
theorem wd_1453 : (Jvm.Cond.constant "UnitsWrongModel" (266 : Nat) (-2147483648 : Int32)) ∈ bz_T := bz_in 1453 (by decide +kernel) rfl
theorem wd_1454 : (Jvm.Cond.methodLink "UnitsWrongModel" (267 : Nat) ({ cls := "UnitsWrongModel", name := "telling", desc := "(IIII)I" } : Jvm.MethodName)) ∈ bz_T := bz_in 1454 (by decide +kernel) rfl
theorem wd_1456 : (Jvm.Cond.instanceMethod ({ cls := "UnitsWrongModel", name := "telling", desc := "(IIII)I" } : Jvm.MethodName)) ∈ bz_T := bz_in 1456 (by decide +kernel) rfl
theorem wd_1457 : (Jvm.Cond.code ({ cls := "UnitsWrongModel", name := "telling", desc := "(IIII)I" } : Jvm.MethodName) prog_14_method_13_code (7 : Nat) (Option.some Jvm.ClassFile.FieldType.int)) ∈ bz_T := bz_in 1457 (by decide +kernel) rfl
theorem wd_1458 : (Jvm.Cond.methodLink "UnitsWrongModel" (271 : Nat) ({ cls := "UnitsWrongModel", name := "plain", desc := "(I)I" } : Jvm.MethodName)) ∈ bz_T := bz_in 1458 (by decide +kernel) rfl
theorem wd_1459 : (Jvm.Cond.static ({ cls := "UnitsWrongModel", name := "plain", desc := "(I)I" } : Jvm.MethodName)) ∈ bz_T := bz_in 1459 (by decide +kernel) rfl
theorem wd_1460 : (Jvm.Cond.code ({ cls := "UnitsWrongModel", name := "plain", desc := "(I)I" } : Jvm.MethodName) prog_14_method_14_code (1 : Nat) (Option.some Jvm.ClassFile.FieldType.int)) ∈ bz_T := bz_in 1460 (by decide +kernel) rfl
theorem wd_1473 : (Jvm.Cond.constantLong "UnitsWrongModel" (278 : Nat) (100000000 : Int64)) ∈ bz_T := bz_in 1473 (by decide +kernel) rfl
theorem wd_1478 : (Jvm.Cond.constantLong "UnitsWrongModel" (280 : Nat) (-11 : Int64)) ∈ bz_T := bz_in 1478 (by decide +kernel) rfl
theorem wd_1479 : (Jvm.Cond.constantLong "UnitsWrongModel" (282 : Nat) (12 : Int64)) ∈ bz_T := bz_in 1479 (by decide +kernel) rfl
theorem wd_1484 : (Jvm.Cond.methodLink "UnitsWrongModel" (287 : Nat) ({ cls := "UnitsWrongModel", name := "isFund", desc := "(I)Z" } : Jvm.MethodName)) ∈ bz_T := bz_in 1484 (by decide +kernel) rfl
theorem wd_1486 : (Jvm.Cond.instanceMethod ({ cls := "UnitsWrongModel", name := "isFund", desc := "(I)Z" } : Jvm.MethodName)) ∈ bz_T := bz_in 1486 (by decide +kernel) rfl
theorem wd_1487 : (Jvm.Cond.code ({ cls := "UnitsWrongModel", name := "isFund", desc := "(I)Z" } : Jvm.MethodName) prog_14_method_18_code (2 : Nat) (Option.some Jvm.ClassFile.FieldType.boolean)) ∈ bz_T := bz_in 1487 (by decide +kernel) rfl
theorem wd_1488 : (Jvm.Cond.constantLong "UnitsWrongModel" (290 : Nat) (-10000 : Int64)) ∈ bz_T := bz_in 1488 (by decide +kernel) rfl
theorem wd_1489 : (Jvm.Cond.constantLong "UnitsWrongModel" (292 : Nat) (-100000000 : Int64)) ∈ bz_T := bz_in 1489 (by decide +kernel) rfl
theorem wd_1494 : (Jvm.Cond.methodLink "UnitsWrongModel" (297 : Nat) ({ cls := "UnitsWrongModel", name := "placeOf", desc := "(I)I" } : Jvm.MethodName)) ∈ bz_T := bz_in 1494 (by decide +kernel) rfl
theorem wd_1496 : (Jvm.Cond.instanceMethod ({ cls := "UnitsWrongModel", name := "placeOf", desc := "(I)I" } : Jvm.MethodName)) ∈ bz_T := bz_in 1496 (by decide +kernel) rfl
theorem wd_1497 : (Jvm.Cond.code ({ cls := "UnitsWrongModel", name := "placeOf", desc := "(I)I" } : Jvm.MethodName) prog_14_method_21_code (2 : Nat) (Option.some Jvm.ClassFile.FieldType.int)) ∈ bz_T := bz_in 1497 (by decide +kernel) rfl
theorem wd_1498 : (Jvm.Cond.constantLong "UnitsWrongModel" (300 : Nat) (23 : Int64)) ∈ bz_T := bz_in 1498 (by decide +kernel) rfl
theorem wd_1499 : (Jvm.Cond.methodLink "UnitsWrongModel" (305 : Nat) ({ cls := "UnitsWrongModel", name := "ruleOf", desc := "(III)I" } : Jvm.MethodName)) ∈ bz_T := bz_in 1499 (by decide +kernel) rfl
theorem wd_1501 : (Jvm.Cond.instanceMethod ({ cls := "UnitsWrongModel", name := "ruleOf", desc := "(III)I" } : Jvm.MethodName)) ∈ bz_T := bz_in 1501 (by decide +kernel) rfl
theorem wd_1502 : (Jvm.Cond.code ({ cls := "UnitsWrongModel", name := "ruleOf", desc := "(III)I" } : Jvm.MethodName) prog_14_method_44_code (6 : Nat) (Option.some Jvm.ClassFile.FieldType.int)) ∈ bz_T := bz_in 1502 (by decide +kernel) rfl
theorem wd_1507 : (Jvm.Cond.methodLink "UnitsWrongModel" (312 : Nat) ({ cls := "UnitsWrongModel", name := "feeds", desc := "(I)V" } : Jvm.MethodName)) ∈ bz_T := bz_in 1507 (by decide +kernel) rfl
theorem wd_1509 : (Jvm.Cond.instanceMethod ({ cls := "UnitsWrongModel", name := "feeds", desc := "(I)V" } : Jvm.MethodName)) ∈ bz_T := bz_in 1509 (by decide +kernel) rfl
theorem wd_1510 : (Jvm.Cond.code ({ cls := "UnitsWrongModel", name := "feeds", desc := "(I)V" } : Jvm.MethodName) prog_14_method_24_code (3 : Nat) (Option.none : Option Jvm.ClassFile.FieldType)) ∈ bz_T := bz_in 1510 (by decide +kernel) rfl
theorem wd_1527 : (Jvm.Cond.methodLink "UnitsWrongModel" (338 : Nat) ({ cls := "UnitsWrongModel", name := "skips", desc := "()V" } : Jvm.MethodName)) ∈ bz_T := bz_in 1527 (by decide +kernel) rfl
theorem wd_1529 : (Jvm.Cond.instanceMethod ({ cls := "UnitsWrongModel", name := "skips", desc := "()V" } : Jvm.MethodName)) ∈ bz_T := bz_in 1529 (by decide +kernel) rfl
theorem wd_1530 : (Jvm.Cond.code ({ cls := "UnitsWrongModel", name := "skips", desc := "()V" } : Jvm.MethodName) prog_14_method_28_code (1 : Nat) (Option.none : Option Jvm.ClassFile.FieldType)) ∈ bz_T := bz_in 1530 (by decide +kernel) rfl
theorem wd_1539 : (Jvm.Cond.methodLink "UnitsWrongModel" (328 : Nat) ({ cls := "UnitsWrongModel", name := "wordEnd", desc := "()I" } : Jvm.MethodName)) ∈ bz_T := bz_in 1539 (by decide +kernel) rfl
theorem wd_1541 : (Jvm.Cond.instanceMethod ({ cls := "UnitsWrongModel", name := "wordEnd", desc := "()I" } : Jvm.MethodName)) ∈ bz_T := bz_in 1541 (by decide +kernel) rfl
theorem wd_1542 : (Jvm.Cond.code ({ cls := "UnitsWrongModel", name := "wordEnd", desc := "()I" } : Jvm.MethodName) prog_14_method_31_code (2 : Nat) (Option.some Jvm.ClassFile.FieldType.int)) ∈ bz_T := bz_in 1542 (by decide +kernel) rfl
theorem wd_1543 : (Jvm.Cond.methodLink "UnitsWrongModel" (325 : Nat) ({ cls := "UnitsWrongModel", name := "isLetter", desc := "(I)Z" } : Jvm.MethodName)) ∈ bz_T := bz_in 1543 (by decide +kernel) rfl
theorem wd_1544 : (Jvm.Cond.static ({ cls := "UnitsWrongModel", name := "isLetter", desc := "(I)Z" } : Jvm.MethodName)) ∈ bz_T := bz_in 1544 (by decide +kernel) rfl
theorem wd_1545 : (Jvm.Cond.code ({ cls := "UnitsWrongModel", name := "isLetter", desc := "(I)Z" } : Jvm.MethodName) prog_14_method_29_code (1 : Nat) (Option.some Jvm.ClassFile.FieldType.boolean)) ∈ bz_T := bz_in 1545 (by decide +kernel) rfl
theorem wd_1557 : (Jvm.Cond.constantLong "UnitsWrongModel" (210 : Nat) (2000000000 : Int64)) ∈ bz_T := bz_in 1557 (by decide +kernel) rfl
theorem wd_1558 : (Jvm.Cond.methodLink "UnitsWrongModel" (212 : Nat) ({ cls := "UnitsWrongModel", name := "near", desc := "(JJJ)J" } : Jvm.MethodName)) ∈ bz_T := bz_in 1558 (by decide +kernel) rfl
theorem wd_1559 : (Jvm.Cond.static ({ cls := "UnitsWrongModel", name := "near", desc := "(JJJ)J" } : Jvm.MethodName)) ∈ bz_T := bz_in 1559 (by decide +kernel) rfl
theorem wd_1560 : (Jvm.Cond.code ({ cls := "UnitsWrongModel", name := "near", desc := "(JJJ)J" } : Jvm.MethodName) prog_14_method_3_code (6 : Nat) (Option.some Jvm.ClassFile.FieldType.long)) ∈ bz_T := bz_in 1560 (by decide +kernel) rfl
theorem wd_1609 : (Jvm.Cond.constantLong "UnitsWrongModel" (416 : Nat) (11 : Int64)) ∈ bz_T := bz_in 1609 (by decide +kernel) rfl
theorem wd_1614 : (Jvm.Cond.constantLong "UnitsWrongModel" (474 : Nat) (40 : Int64)) ∈ bz_T := bz_in 1614 (by decide +kernel) rfl
theorem wd_1615 : (Jvm.Cond.methodLink "UnitsWrongModel" (476 : Nat) ({ cls := "UnitsWrongModel", name := "books", desc := "()V" } : Jvm.MethodName)) ∈ bz_T := bz_in 1615 (by decide +kernel) rfl
theorem wd_1617 : (Jvm.Cond.instanceMethod ({ cls := "UnitsWrongModel", name := "books", desc := "()V" } : Jvm.MethodName)) ∈ bz_T := bz_in 1617 (by decide +kernel) rfl
theorem wd_1618 : (Jvm.Cond.code ({ cls := "UnitsWrongModel", name := "books", desc := "()V" } : Jvm.MethodName) prog_14_method_59_code (2 : Nat) (Option.none : Option Jvm.ClassFile.FieldType)) ∈ bz_T := bz_in 1618 (by decide +kernel) rfl
theorem wd_1619 : (Jvm.Cond.methodLink "UnitsWrongModel" (471 : Nat) ({ cls := "UnitsWrongModel", name := "through", desc := "(III)V" } : Jvm.MethodName)) ∈ bz_T := bz_in 1619 (by decide +kernel) rfl
theorem wd_1621 : (Jvm.Cond.instanceMethod ({ cls := "UnitsWrongModel", name := "through", desc := "(III)V" } : Jvm.MethodName)) ∈ bz_T := bz_in 1621 (by decide +kernel) rfl
theorem wd_1622 : (Jvm.Cond.code ({ cls := "UnitsWrongModel", name := "through", desc := "(III)V" } : Jvm.MethodName) prog_14_method_58_code (5 : Nat) (Option.none : Option Jvm.ClassFile.FieldType)) ∈ bz_T := bz_in 1622 (by decide +kernel) rfl
theorem wd_1623 : (Jvm.Cond.methodLink "UnitsWrongModel" (462 : Nat) ({ cls := "UnitsWrongModel", name := "knows", desc := "(I)V" } : Jvm.MethodName)) ∈ bz_T := bz_in 1623 (by decide +kernel) rfl
theorem wd_1625 : (Jvm.Cond.instanceMethod ({ cls := "UnitsWrongModel", name := "knows", desc := "(I)V" } : Jvm.MethodName)) ∈ bz_T := bz_in 1625 (by decide +kernel) rfl
theorem wd_1626 : (Jvm.Cond.code ({ cls := "UnitsWrongModel", name := "knows", desc := "(I)V" } : Jvm.MethodName) prog_14_method_47_code (3 : Nat) (Option.none : Option Jvm.ClassFile.FieldType)) ∈ bz_T := bz_in 1626 (by decide +kernel) rfl
theorem wd_1627 : (Jvm.Cond.methodLink "UnitsWrongModel" (421 : Nat) ({ cls := "UnitsWrongModel", name := "carries", desc := "(II[I)V" } : Jvm.MethodName)) ∈ bz_T := bz_in 1627 (by decide +kernel) rfl
theorem wd_1629 : (Jvm.Cond.instanceMethod ({ cls := "UnitsWrongModel", name := "carries", desc := "(II[I)V" } : Jvm.MethodName)) ∈ bz_T := bz_in 1629 (by decide +kernel) rfl
theorem wd_1630 : (Jvm.Cond.code ({ cls := "UnitsWrongModel", name := "carries", desc := "(II[I)V" } : Jvm.MethodName) prog_14_method_46_code (6 : Nat) (Option.none : Option Jvm.ClassFile.FieldType)) ∈ bz_T := bz_in 1630 (by decide +kernel) rfl
theorem wd_1631 : (Jvm.Cond.methodLink "UnitsWrongModel" (465 : Nat) ({ cls := "UnitsWrongModel", name := "begins", desc := "()V" } : Jvm.MethodName)) ∈ bz_T := bz_in 1631 (by decide +kernel) rfl
theorem wd_1633 : (Jvm.Cond.instanceMethod ({ cls := "UnitsWrongModel", name := "begins", desc := "()V" } : Jvm.MethodName)) ∈ bz_T := bz_in 1633 (by decide +kernel) rfl
theorem wd_1634 : (Jvm.Cond.code ({ cls := "UnitsWrongModel", name := "begins", desc := "()V" } : Jvm.MethodName) prog_14_method_48_code (3 : Nat) (Option.none : Option Jvm.ClassFile.FieldType)) ∈ bz_T := bz_in 1634 (by decide +kernel) rfl
theorem wd_1635 : (Jvm.Cond.methodLink "UnitsWrongModel" (468 : Nat) ({ cls := "UnitsWrongModel", name := "goesThrough", desc := "(III)V" } : Jvm.MethodName)) ∈ bz_T := bz_in 1635 (by decide +kernel) rfl
theorem wd_1637 : (Jvm.Cond.instanceMethod ({ cls := "UnitsWrongModel", name := "goesThrough", desc := "(III)V" } : Jvm.MethodName)) ∈ bz_T := bz_in 1637 (by decide +kernel) rfl
theorem wd_1638 : (Jvm.Cond.code ({ cls := "UnitsWrongModel", name := "goesThrough", desc := "(III)V" } : Jvm.MethodName) prog_14_method_57_code (7 : Nat) (Option.none : Option Jvm.ClassFile.FieldType)) ∈ bz_T := bz_in 1638 (by decide +kernel) rfl
theorem wd_1639 : (Jvm.Cond.methodLink "UnitsWrongModel" (449 : Nat) ({ cls := "UnitsWrongModel", name := "papers", desc := "(II)V" } : Jvm.MethodName)) ∈ bz_T := bz_in 1639 (by decide +kernel) rfl
theorem wd_1641 : (Jvm.Cond.instanceMethod ({ cls := "UnitsWrongModel", name := "papers", desc := "(II)V" } : Jvm.MethodName)) ∈ bz_T := bz_in 1641 (by decide +kernel) rfl
theorem wd_1642 : (Jvm.Cond.code ({ cls := "UnitsWrongModel", name := "papers", desc := "(II)V" } : Jvm.MethodName) prog_14_method_49_code (4 : Nat) (Option.none : Option Jvm.ClassFile.FieldType)) ∈ bz_T := bz_in 1642 (by decide +kernel) rfl
theorem wd_1643 : (Jvm.Cond.constantLong "UnitsWrongModel" (425 : Nat) (-1000000 : Int64)) ∈ bz_T := bz_in 1643 (by decide +kernel) rfl
theorem wd_1644 : (Jvm.Cond.constantLong "UnitsWrongModel" (427 : Nat) (1000000 : Int64)) ∈ bz_T := bz_in 1644 (by decide +kernel) rfl
theorem wd_1645 : (Jvm.Cond.methodLink "UnitsWrongModel" (453 : Nat) ({ cls := "UnitsWrongModel", name := "feeds", desc := "(II)V" } : Jvm.MethodName)) ∈ bz_T := bz_in 1645 (by decide +kernel) rfl
theorem wd_1647 : (Jvm.Cond.instanceMethod ({ cls := "UnitsWrongModel", name := "feeds", desc := "(II)V" } : Jvm.MethodName)) ∈ bz_T := bz_in 1647 (by decide +kernel) rfl
theorem wd_1648 : (Jvm.Cond.code ({ cls := "UnitsWrongModel", name := "feeds", desc := "(II)V" } : Jvm.MethodName) prog_14_method_50_code (4 : Nat) (Option.none : Option Jvm.ClassFile.FieldType)) ∈ bz_T := bz_in 1648 (by decide +kernel) rfl
theorem wd_1649 : (Jvm.Cond.methodLink "UnitsWrongModel" (455 : Nat) ({ cls := "UnitsWrongModel", name := "prices", desc := "(IIZ)V" } : Jvm.MethodName)) ∈ bz_T := bz_in 1649 (by decide +kernel) rfl
theorem wd_1651 : (Jvm.Cond.instanceMethod ({ cls := "UnitsWrongModel", name := "prices", desc := "(IIZ)V" } : Jvm.MethodName)) ∈ bz_T := bz_in 1651 (by decide +kernel) rfl
theorem wd_1652 : (Jvm.Cond.code ({ cls := "UnitsWrongModel", name := "prices", desc := "(IIZ)V" } : Jvm.MethodName) prog_14_method_55_code (10 : Nat) (Option.none : Option Jvm.ClassFile.FieldType)) ∈ bz_T := bz_in 1652 (by decide +kernel) rfl
theorem wd_1653 : (Jvm.Cond.methodLink "UnitsWrongModel" (435 : Nat) ({ cls := "UnitsWrongModel", name := "assets", desc := "(II)J" } : Jvm.MethodName)) ∈ bz_T := bz_in 1653 (by decide +kernel) rfl
theorem wd_1655 : (Jvm.Cond.instanceMethod ({ cls := "UnitsWrongModel", name := "assets", desc := "(II)J" } : Jvm.MethodName)) ∈ bz_T := bz_in 1655 (by decide +kernel) rfl
theorem wd_1656 : (Jvm.Cond.code ({ cls := "UnitsWrongModel", name := "assets", desc := "(II)J" } : Jvm.MethodName) prog_14_method_51_code (6 : Nat) (Option.some Jvm.ClassFile.FieldType.long)) ∈ bz_T := bz_in 1656 (by decide +kernel) rfl
theorem wd_1657 : (Jvm.Cond.constantLong "UnitsWrongModel" (433 : Nat) (10000000 : Int64)) ∈ bz_T := bz_in 1657 (by decide +kernel) rfl
theorem wd_1658 : (Jvm.Cond.methodLink "UnitsWrongModel" (439 : Nat) ({ cls := "UnitsWrongModel", name := "flow", desc := "(IIZ)J" } : Jvm.MethodName)) ∈ bz_T := bz_in 1658 (by decide +kernel) rfl
theorem wd_1660 : (Jvm.Cond.instanceMethod ({ cls := "UnitsWrongModel", name := "flow", desc := "(IIZ)J" } : Jvm.MethodName)) ∈ bz_T := bz_in 1660 (by decide +kernel) rfl
theorem wd_1661 : (Jvm.Cond.code ({ cls := "UnitsWrongModel", name := "flow", desc := "(IIZ)J" } : Jvm.MethodName) prog_14_method_53_code (9 : Nat) (Option.some Jvm.ClassFile.FieldType.long)) ∈ bz_T := bz_in 1661 (by decide +kernel) rfl
theorem wd_1662 : (Jvm.Cond.methodLink "UnitsWrongModel" (429 : Nat) ({ cls := "UnitsWrongModel", name := "dealtOf", desc := "(IZJ)J" } : Jvm.MethodName)) ∈ bz_T := bz_in 1662 (by decide +kernel) rfl
theorem wd_1664 : (Jvm.Cond.instanceMethod ({ cls := "UnitsWrongModel", name := "dealtOf", desc := "(IZJ)J" } : Jvm.MethodName)) ∈ bz_T := bz_in 1664 (by decide +kernel) rfl
theorem wd_1665 : (Jvm.Cond.code ({ cls := "UnitsWrongModel", name := "dealtOf", desc := "(IZJ)J" } : Jvm.MethodName) prog_14_method_52_code (5 : Nat) (Option.some Jvm.ClassFile.FieldType.long)) ∈ bz_T := bz_in 1665 (by decide +kernel) rfl
theorem wd_1666 : (Jvm.Cond.methodLink "UnitsWrongModel" (443 : Nat) ({ cls := "UnitsWrongModel", name := "swung", desc := "(IIJJ)J" } : Jvm.MethodName)) ∈ bz_T := bz_in 1666 (by decide +kernel) rfl
theorem wd_1668 : (Jvm.Cond.instanceMethod ({ cls := "UnitsWrongModel", name := "swung", desc := "(IIJJ)J" } : Jvm.MethodName)) ∈ bz_T := bz_in 1668 (by decide +kernel) rfl
theorem wd_1669 : (Jvm.Cond.code ({ cls := "UnitsWrongModel", name := "swung", desc := "(IIJJ)J" } : Jvm.MethodName) prog_14_method_54_code (11 : Nat) (Option.some Jvm.ClassFile.FieldType.long)) ∈ bz_T := bz_in 1669 (by decide +kernel) rfl
theorem wd_1670 : (Jvm.Cond.methodLink "UnitsWrongModel" (459 : Nat) ({ cls := "UnitsWrongModel", name := "deals", desc := "(IIZZ)V" } : Jvm.MethodName)) ∈ bz_T := bz_in 1670 (by decide +kernel) rfl
theorem wd_1672 : (Jvm.Cond.instanceMethod ({ cls := "UnitsWrongModel", name := "deals", desc := "(IIZZ)V" } : Jvm.MethodName)) ∈ bz_T := bz_in 1672 (by decide +kernel) rfl
theorem wd_1673 : (Jvm.Cond.code ({ cls := "UnitsWrongModel", name := "deals", desc := "(IIZZ)V" } : Jvm.MethodName) prog_14_method_56_code (8 : Nat) (Option.none : Option Jvm.ClassFile.FieldType)) ∈ bz_T := bz_in 1673 (by decide +kernel) rfl
theorem wd_1674 : (Jvm.Cond.constantLong "UnitsWrongModel" (447 : Nat) (99 : Int64)) ∈ bz_T := bz_in 1674 (by decide +kernel) rfl
theorem wd_1679 : (Jvm.Cond.methodLink "UnitsWrongModel" (479 : Nat) ({ cls := "UnitsWrongModel", name := "isOver", desc := "(II)Z" } : Jvm.MethodName)) ∈ bz_T := bz_in 1679 (by decide +kernel) rfl
theorem wd_1681 : (Jvm.Cond.instanceMethod ({ cls := "UnitsWrongModel", name := "isOver", desc := "(II)Z" } : Jvm.MethodName)) ∈ bz_T := bz_in 1681 (by decide +kernel) rfl
theorem wd_1682 : (Jvm.Cond.code ({ cls := "UnitsWrongModel", name := "isOver", desc := "(II)Z" } : Jvm.MethodName) prog_14_method_61_code (3 : Nat) (Option.some Jvm.ClassFile.FieldType.boolean)) ∈ bz_T := bz_in 1682 (by decide +kernel) rfl
theorem wd_1683 : (Jvm.Cond.methodLink "UnitsWrongModel" (482 : Nat) ({ cls := "UnitsWrongModel", name := "told", desc := "(J)I" } : Jvm.MethodName)) ∈ bz_T := bz_in 1683 (by decide +kernel) rfl
theorem wd_1684 : (Jvm.Cond.static ({ cls := "UnitsWrongModel", name := "told", desc := "(J)I" } : Jvm.MethodName)) ∈ bz_T := bz_in 1684 (by decide +kernel) rfl
theorem wd_1685 : (Jvm.Cond.code ({ cls := "UnitsWrongModel", name := "told", desc := "(J)I" } : Jvm.MethodName) prog_14_method_4_code (2 : Nat) (Option.some Jvm.ClassFile.FieldType.int)) ∈ bz_T := bz_in 1685 (by decide +kernel) rfl
theorem wd_1686 : (Jvm.Cond.constantLong "UnitsWrongModel" (208 : Nat) (-2000000000 : Int64)) ∈ bz_T := bz_in 1686 (by decide +kernel) rfl
theorem wd_1703 : (Jvm.Cond.methodLink "UnitsWrongModel" (486 : Nat) ({ cls := "UnitsWrongModel", name := "lastOver", desc := "(I)I" } : Jvm.MethodName)) ∈ bz_T := bz_in 1703 (by decide +kernel) rfl
theorem wd_1705 : (Jvm.Cond.instanceMethod ({ cls := "UnitsWrongModel", name := "lastOver", desc := "(I)I" } : Jvm.MethodName)) ∈ bz_T := bz_in 1705 (by decide +kernel) rfl
theorem wd_1706 : (Jvm.Cond.code ({ cls := "UnitsWrongModel", name := "lastOver", desc := "(I)I" } : Jvm.MethodName) prog_14_method_67_code (2 : Nat) (Option.some Jvm.ClassFile.FieldType.int)) ∈ bz_T := bz_in 1706 (by decide +kernel) rfl
theorem wd_1707 : (Jvm.Cond.methodLink "UnitsWrongModel" (489 : Nat) ({ cls := "UnitsWrongModel", name := "counts", desc := "(III)Z" } : Jvm.MethodName)) ∈ bz_T := bz_in 1707 (by decide +kernel) rfl
theorem wd_1709 : (Jvm.Cond.instanceMethod ({ cls := "UnitsWrongModel", name := "counts", desc := "(III)Z" } : Jvm.MethodName)) ∈ bz_T := bz_in 1709 (by decide +kernel) rfl
theorem wd_1710 : (Jvm.Cond.code ({ cls := "UnitsWrongModel", name := "counts", desc := "(III)Z" } : Jvm.MethodName) prog_14_method_66_code (6 : Nat) (Option.some Jvm.ClassFile.FieldType.boolean)) ∈ bz_T := bz_in 1710 (by decide +kernel) rfl
theorem wd_1715 : (Jvm.Cond.methodLink "UnitsWrongModel" (493 : Nat) ({ cls := "UnitsWrongModel", name := "canHold", desc := "(II)Z" } : Jvm.MethodName)) ∈ bz_T := bz_in 1715 (by decide +kernel) rfl
theorem wd_1717 : (Jvm.Cond.instanceMethod ({ cls := "UnitsWrongModel", name := "canHold", desc := "(II)Z" } : Jvm.MethodName)) ∈ bz_T := bz_in 1717 (by decide +kernel) rfl
theorem wd_1718 : (Jvm.Cond.code ({ cls := "UnitsWrongModel", name := "canHold", desc := "(II)Z" } : Jvm.MethodName) prog_14_method_69_code (3 : Nat) (Option.some Jvm.ClassFile.FieldType.boolean)) ∈ bz_T := bz_in 1718 (by decide +kernel) rfl
theorem wd_1723 : (Jvm.Cond.methodLink "UnitsWrongModel" (508 : Nat) ({ cls := "UnitsWrongModel", name := "isKnownDay", desc := "(I)Z" } : Jvm.MethodName)) ∈ bz_T := bz_in 1723 (by decide +kernel) rfl
theorem wd_1725 : (Jvm.Cond.instanceMethod ({ cls := "UnitsWrongModel", name := "isKnownDay", desc := "(I)Z" } : Jvm.MethodName)) ∈ bz_T := bz_in 1725 (by decide +kernel) rfl
theorem wd_1726 : (Jvm.Cond.code ({ cls := "UnitsWrongModel", name := "isKnownDay", desc := "(I)Z" } : Jvm.MethodName) prog_14_method_76_code (2 : Nat) (Option.some Jvm.ClassFile.FieldType.boolean)) ∈ bz_T := bz_in 1726 (by decide +kernel) rfl
theorem wd_1727 : (Jvm.Cond.methodLink "UnitsWrongModel" (511 : Nat) ({ cls := "UnitsWrongModel", name := "asks", desc := "(II)V" } : Jvm.MethodName)) ∈ bz_T := bz_in 1727 (by decide +kernel) rfl
theorem wd_1729 : (Jvm.Cond.instanceMethod ({ cls := "UnitsWrongModel", name := "asks", desc := "(II)V" } : Jvm.MethodName)) ∈ bz_T := bz_in 1729 (by decide +kernel) rfl
theorem wd_1730 : (Jvm.Cond.code ({ cls := "UnitsWrongModel", name := "asks", desc := "(II)V" } : Jvm.MethodName) prog_14_method_75_code (3 : Nat) (Option.none : Option Jvm.ClassFile.FieldType)) ∈ bz_T := bz_in 1730 (by decide +kernel) rfl
theorem wd_1731 : (Jvm.Cond.methodLink "UnitsWrongModel" (505 : Nat) ({ cls := "UnitsWrongModel", name := "asks", desc := "(III)V" } : Jvm.MethodName)) ∈ bz_T := bz_in 1731 (by decide +kernel) rfl
theorem wd_1733 : (Jvm.Cond.instanceMethod ({ cls := "UnitsWrongModel", name := "asks", desc := "(III)V" } : Jvm.MethodName)) ∈ bz_T := bz_in 1733 (by decide +kernel) rfl
theorem wd_1734 : (Jvm.Cond.code ({ cls := "UnitsWrongModel", name := "asks", desc := "(III)V" } : Jvm.MethodName) prog_14_method_74_code (5 : Nat) (Option.none : Option Jvm.ClassFile.FieldType)) ∈ bz_T := bz_in 1734 (by decide +kernel) rfl
theorem wd_1735 : (Jvm.Cond.methodLink "UnitsWrongModel" (499 : Nat) ({ cls := "UnitsWrongModel", name := "sums", desc := "(III)V" } : Jvm.MethodName)) ∈ bz_T := bz_in 1735 (by decide +kernel) rfl
theorem wd_1737 : (Jvm.Cond.instanceMethod ({ cls := "UnitsWrongModel", name := "sums", desc := "(III)V" } : Jvm.MethodName)) ∈ bz_T := bz_in 1737 (by decide +kernel) rfl
theorem wd_1738 : (Jvm.Cond.code ({ cls := "UnitsWrongModel", name := "sums", desc := "(III)V" } : Jvm.MethodName) prog_14_method_71_code (7 : Nat) (Option.none : Option Jvm.ClassFile.FieldType)) ∈ bz_T := bz_in 1738 (by decide +kernel) rfl
theorem wd_1739 : (Jvm.Cond.methodLink "UnitsWrongModel" (502 : Nat) ({ cls := "UnitsWrongModel", name := "judges", desc := "(III)V" } : Jvm.MethodName)) ∈ bz_T := bz_in 1739 (by decide +kernel) rfl
theorem wd_1741 : (Jvm.Cond.instanceMethod ({ cls := "UnitsWrongModel", name := "judges", desc := "(III)V" } : Jvm.MethodName)) ∈ bz_T := bz_in 1741 (by decide +kernel) rfl
theorem wd_1742 : (Jvm.Cond.code ({ cls := "UnitsWrongModel", name := "judges", desc := "(III)V" } : Jvm.MethodName) prog_14_method_73_code (6 : Nat) (Option.none : Option Jvm.ClassFile.FieldType)) ∈ bz_T := bz_in 1742 (by decide +kernel) rfl
theorem wd_1743 : (Jvm.Cond.methodLink "UnitsWrongModel" (496 : Nat) ({ cls := "UnitsWrongModel", name := "isToParty", desc := "(II)Z" } : Jvm.MethodName)) ∈ bz_T := bz_in 1743 (by decide +kernel) rfl
theorem wd_1745 : (Jvm.Cond.instanceMethod ({ cls := "UnitsWrongModel", name := "isToParty", desc := "(II)Z" } : Jvm.MethodName)) ∈ bz_T := bz_in 1745 (by decide +kernel) rfl
theorem wd_1746 : (Jvm.Cond.code ({ cls := "UnitsWrongModel", name := "isToParty", desc := "(II)Z" } : Jvm.MethodName) prog_14_method_72_code (3 : Nat) (Option.some Jvm.ClassFile.FieldType.boolean)) ∈ bz_T := bz_in 1746 (by decide +kernel) rfl
theorem wd_1751 : (Jvm.Cond.methodLink "UnitsWrongModel" (516 : Nat) ({ cls := "UnitsWrongModel", name := "houseOwes", desc := "(II)J" } : Jvm.MethodName)) ∈ bz_T := bz_in 1751 (by decide +kernel) rfl
theorem wd_1753 : (Jvm.Cond.instanceMethod ({ cls := "UnitsWrongModel", name := "houseOwes", desc := "(II)J" } : Jvm.MethodName)) ∈ bz_T := bz_in 1753 (by decide +kernel) rfl
theorem wd_1754 : (Jvm.Cond.code ({ cls := "UnitsWrongModel", name := "houseOwes", desc := "(II)J" } : Jvm.MethodName) prog_14_method_79_code (8 : Nat) (Option.some Jvm.ClassFile.FieldType.long)) ∈ bz_T := bz_in 1754 (by decide +kernel) rfl
theorem wd_1755 : (Jvm.Cond.methodLink "UnitsWrongModel" (513 : Nat) ({ cls := "UnitsWrongModel", name := "goesTo", desc := "(III)I" } : Jvm.MethodName)) ∈ bz_T := bz_in 1755 (by decide +kernel) rfl
theorem wd_1757 : (Jvm.Cond.instanceMethod ({ cls := "UnitsWrongModel", name := "goesTo", desc := "(III)I" } : Jvm.MethodName)) ∈ bz_T := bz_in 1757 (by decide +kernel) rfl
theorem wd_1758 : (Jvm.Cond.code ({ cls := "UnitsWrongModel", name := "goesTo", desc := "(III)I" } : Jvm.MethodName) prog_14_method_78_code (4 : Nat) (Option.some Jvm.ClassFile.FieldType.int)) ∈ bz_T := bz_in 1758 (by decide +kernel) rfl
theorem wd_1767 : (Jvm.Cond.methodLink "UnitsWrongModel" (519 : Nat) ({ cls := "UnitsWrongModel", name := "taxOf", desc := "(I[J)J" } : Jvm.MethodName)) ∈ bz_T := bz_in 1767 (by decide +kernel) rfl
theorem wd_1769 : (Jvm.Cond.instanceMethod ({ cls := "UnitsWrongModel", name := "taxOf", desc := "(I[J)J" } : Jvm.MethodName)) ∈ bz_T := bz_in 1769 (by decide +kernel) rfl
theorem wd_1770 : (Jvm.Cond.code ({ cls := "UnitsWrongModel", name := "taxOf", desc := "(I[J)J" } : Jvm.MethodName) prog_14_method_82_code (13 : Nat) (Option.some Jvm.ClassFile.FieldType.long)) ∈ bz_T := bz_in 1770 (by decide +kernel) rfl
theorem wd_1799 : (Jvm.Cond.methodLink "UnitsWrongModel" (541 : Nat) ({ cls := "UnitsWrongModel", name := "searches", desc := "()V" } : Jvm.MethodName)) ∈ bz_T := bz_in 1799 (by decide +kernel) rfl
theorem wd_1801 : (Jvm.Cond.instanceMethod ({ cls := "UnitsWrongModel", name := "searches", desc := "()V" } : Jvm.MethodName)) ∈ bz_T := bz_in 1801 (by decide +kernel) rfl
theorem wd_1802 : (Jvm.Cond.code ({ cls := "UnitsWrongModel", name := "searches", desc := "()V" } : Jvm.MethodName) prog_14_method_92_code (3 : Nat) (Option.none : Option Jvm.ClassFile.FieldType)) ∈ bz_T := bz_in 1802 (by decide +kernel) rfl
theorem wd_1803 : (Jvm.Cond.methodLink "UnitsWrongModel" (535 : Nat) ({ cls := "UnitsWrongModel", name := "many", desc := "(I)I" } : Jvm.MethodName)) ∈ bz_T := bz_in 1803 (by decide +kernel) rfl
theorem wd_1804 : (Jvm.Cond.static ({ cls := "UnitsWrongModel", name := "many", desc := "(I)I" } : Jvm.MethodName)) ∈ bz_T := bz_in 1804 (by decide +kernel) rfl
theorem wd_1805 : (Jvm.Cond.code ({ cls := "UnitsWrongModel", name := "many", desc := "(I)I" } : Jvm.MethodName) prog_14_method_91_code (3 : Nat) (Option.some Jvm.ClassFile.FieldType.int)) ∈ bz_T := bz_in 1805 (by decide +kernel) rfl
theorem wd_1806 : (Jvm.Cond.methodLink "UnitsWrongModel" (538 : Nat) ({ cls := "UnitsWrongModel", name := "explains", desc := "(I)Z" } : Jvm.MethodName)) ∈ bz_T := bz_in 1806 (by decide +kernel) rfl
theorem wd_1808 : (Jvm.Cond.instanceMethod ({ cls := "UnitsWrongModel", name := "explains", desc := "(I)Z" } : Jvm.MethodName)) ∈ bz_T := bz_in 1808 (by decide +kernel) rfl
theorem wd_1809 : (Jvm.Cond.code ({ cls := "UnitsWrongModel", name := "explains", desc := "(I)Z" } : Jvm.MethodName) prog_14_method_90_code (5 : Nat) (Option.some Jvm.ClassFile.FieldType.boolean)) ∈ bz_T := bz_in 1809 (by decide +kernel) rfl
theorem wd_1822 : (Jvm.Cond.constantLong "UnitsWrongModel" (544 : Nat) (5000 : Int64)) ∈ bz_T := bz_in 1822 (by decide +kernel) rfl
theorem wd_1827 : (Jvm.Cond.methodLink "UnitsWrongModel" (546 : Nat) ({ cls := "UnitsWrongModel", name := "balances", desc := "(I)V" } : Jvm.MethodName)) ∈ bz_T := bz_in 1827 (by decide +kernel) rfl
theorem wd_1829 : (Jvm.Cond.instanceMethod ({ cls := "UnitsWrongModel", name := "balances", desc := "(I)V" } : Jvm.MethodName)) ∈ bz_T := bz_in 1829 (by decide +kernel) rfl
theorem wd_1830 : (Jvm.Cond.code ({ cls := "UnitsWrongModel", name := "balances", desc := "(I)V" } : Jvm.MethodName) prog_14_method_97_code (7 : Nat) (Option.none : Option Jvm.ClassFile.FieldType)) ∈ bz_T := bz_in 1830 (by decide +kernel) rfl
theorem wd_1835 : (Jvm.Cond.methodLink "UnitsWrongModel" (561 : Nat) ({ cls := "UnitsWrongModel", name := "settles", desc := "(I)Z" } : Jvm.MethodName)) ∈ bz_T := bz_in 1835 (by decide +kernel) rfl
theorem wd_1837 : (Jvm.Cond.instanceMethod ({ cls := "UnitsWrongModel", name := "settles", desc := "(I)Z" } : Jvm.MethodName)) ∈ bz_T := bz_in 1837 (by decide +kernel) rfl
theorem wd_1838 : (Jvm.Cond.code ({ cls := "UnitsWrongModel", name := "settles", desc := "(I)Z" } : Jvm.MethodName) prog_14_method_100_code (4 : Nat) (Option.some Jvm.ClassFile.FieldType.boolean)) ∈ bz_T := bz_in 1838 (by decide +kernel) rfl
theorem wd_1839 : (Jvm.Cond.methodLink "UnitsWrongModel" (552 : Nat) ({ cls := "UnitsWrongModel", name := "mosts", desc := "(I)V" } : Jvm.MethodName)) ∈ bz_T := bz_in 1839 (by decide +kernel) rfl
theorem wd_1841 : (Jvm.Cond.instanceMethod ({ cls := "UnitsWrongModel", name := "mosts", desc := "(I)V" } : Jvm.MethodName)) ∈ bz_T := bz_in 1841 (by decide +kernel) rfl
theorem wd_1842 : (Jvm.Cond.code ({ cls := "UnitsWrongModel", name := "mosts", desc := "(I)V" } : Jvm.MethodName) prog_14_method_101_code (4 : Nat) (Option.none : Option Jvm.ClassFile.FieldType)) ∈ bz_T := bz_in 1842 (by decide +kernel) rfl
theorem wd_1843 : (Jvm.Cond.methodLink "UnitsWrongModel" (555 : Nat) ({ cls := "UnitsWrongModel", name := "picks", desc := "()V" } : Jvm.MethodName)) ∈ bz_T := bz_in 1843 (by decide +kernel) rfl
theorem wd_1845 : (Jvm.Cond.instanceMethod ({ cls := "UnitsWrongModel", name := "picks", desc := "()V" } : Jvm.MethodName)) ∈ bz_T := bz_in 1845 (by decide +kernel) rfl
theorem wd_1846 : (Jvm.Cond.code ({ cls := "UnitsWrongModel", name := "picks", desc := "()V" } : Jvm.MethodName) prog_14_method_102_code (4 : Nat) (Option.none : Option Jvm.ClassFile.FieldType)) ∈ bz_T := bz_in 1846 (by decide +kernel) rfl
theorem wd_1851 : (Jvm.Cond.methodLink "UnitsWrongModel" (564 : Nat) ({ cls := "UnitsWrongModel", name := "paid", desc := "(IIJI)I" } : Jvm.MethodName)) ∈ bz_T := bz_in 1851 (by decide +kernel) rfl
theorem wd_1852 : (Jvm.Cond.static ({ cls := "UnitsWrongModel", name := "paid", desc := "(IIJI)I" } : Jvm.MethodName)) ∈ bz_T := bz_in 1852 (by decide +kernel) rfl
theorem wd_1853 : (Jvm.Cond.code ({ cls := "UnitsWrongModel", name := "paid", desc := "(IIJI)I" } : Jvm.MethodName) prog_14_method_105_code (5 : Nat) (Option.some Jvm.ClassFile.FieldType.int)) ∈ bz_T := bz_in 1853 (by decide +kernel) rfl
theorem wd_1854 : (Jvm.Cond.methodLink "UnitsWrongModel" (568 : Nat) ({ cls := "UnitsWrongModel", name := "nameOf", desc := "(I)I" } : Jvm.MethodName)) ∈ bz_T := bz_in 1854 (by decide +kernel) rfl
theorem wd_1855 : (Jvm.Cond.static ({ cls := "UnitsWrongModel", name := "nameOf", desc := "(I)I" } : Jvm.MethodName)) ∈ bz_T := bz_in 1855 (by decide +kernel) rfl
theorem wd_1856 : (Jvm.Cond.code ({ cls := "UnitsWrongModel", name := "nameOf", desc := "(I)I" } : Jvm.MethodName) prog_14_method_98_code (1 : Nat) (Option.some Jvm.ClassFile.FieldType.int)) ∈ bz_T := bz_in 1856 (by decide +kernel) rfl
theorem wd_1861 : (Jvm.Cond.constantLong "UnitsWrongModel" (571 : Nat) (20 : Int64)) ∈ bz_T := bz_in 1861 (by decide +kernel) rfl
theorem nl_545 : (Jvm.Cond.methodLinkNest "UnitsWrong$State" (91 : Nat) ({ cls := "UnitsWrong", name := "isDay", desc := "(I)Z" } : Jvm.MethodName) "UnitsWrong") ∈ bz_NL := List.mem_filter.mpr ⟨List.mem_of_getElem? (i := 545) (by decide +kernel), rfl⟩
theorem gf_U_10_0 : bz_Gf "UnitsWrong" 10 0 0 (4, 1) := ⟨11, rc_11, rt_11, 6, _, ri_11, rfl, sh_0, by decide, wd_501, rfl⟩
theorem gf_U_51_1 : bz_Gf "UnitsWrong" 51 1 13 (0, 0) := ⟨7, rc_7, rt_7, 18, _, ri_7, rfl, sh_1, by decide, wd_250, rfl⟩
theorem gf_U_55_1 : bz_Gf "UnitsWrong" 55 1 4 (4, 6) := ⟨7, rc_7, rt_7, 18, _, ri_7, rfl, sh_1, by decide, wd_222, rfl⟩
theorem gf_U_60_1 : bz_Gf "UnitsWrong" 60 1 14 (0, 0) := ⟨7, rc_7, rt_7, 18, _, ri_7, rfl, sh_1, by decide, wd_254, rfl⟩
theorem gf_U_63_1 : bz_Gf "UnitsWrong" 63 1 0 (4, 2) := ⟨7, rc_7, rt_7, 18, _, ri_7, rfl, sh_1, by decide, wd_212, rfl⟩
theorem gf_U_67_1 : bz_Gf "UnitsWrong" 67 1 17 (0, 0) := ⟨7, rc_7, rt_7, 18, _, ri_7, rfl, sh_1, by decide, wd_260, rfl⟩
theorem gf_U_70_1 : bz_Gf "UnitsWrong" 70 1 15 (0, 0) := ⟨7, rc_7, rt_7, 18, _, ri_7, rfl, sh_1, by decide, wd_257, rfl⟩
theorem gf_U_73_1 : bz_Gf "UnitsWrong" 73 1 2 (4, 4) := ⟨7, rc_7, rt_7, 18, _, ri_7, rfl, sh_1, by decide, wd_218, rfl⟩
theorem gf_U_76_1 : bz_Gf "UnitsWrong" 76 1 5 (4, 7) := ⟨7, rc_7, rt_7, 18, _, ri_7, rfl, sh_1, by decide, wd_225, rfl⟩
theorem gf_U_80_1 : bz_Gf "UnitsWrong" 80 1 16 (0, 0) := ⟨7, rc_7, rt_7, 18, _, ri_7, rfl, sh_1, by decide, wd_258, rfl⟩
theorem gf_US_28_1 : bz_Gf "UnitsWrong$State" 28 1 5 (4, 7) := ⟨7, rc_7, rt_7, 18, _, ri_7, rfl, sh_1, by decide, wd_224, rfl⟩
theorem gf_U_91_1 : bz_Gf "UnitsWrong" 91 1 6 (4, 8) := ⟨7, rc_7, rt_7, 18, _, ri_7, rfl, sh_1, by decide, wd_227, rfl⟩
theorem gf_UTe_14_8 : bz_Gf "UnitsWrong$Tellings" 14 8 0 (4, 9) := ⟨8, rc_8, rt_8, 5, _, ri_8, rfl, sh_8, by decide, wd_75, rfl⟩
theorem gf_UB_18_9 : bz_Gf "UnitsWrong$ByDay" 18 9 2 (0, 0) := ⟨1, rc_1, rt_1, 3, _, ri_1, rfl, sh_9, by decide, wd_58, rfl⟩
theorem gf_UB_9_9 : bz_Gf "UnitsWrong$ByDay" 9 9 0 (4, 10) := ⟨1, rc_1, rt_1, 3, _, ri_1, rfl, sh_9, by decide, wd_48, rfl⟩
theorem gf_UB_15_9 : bz_Gf "UnitsWrong$ByDay" 15 9 1 (4, 11) := ⟨1, rc_1, rt_1, 3, _, ri_1, rfl, sh_9, by decide, wd_54, rfl⟩
theorem gf_UTe_20_8 : bz_Gf "UnitsWrong$Tellings" 20 8 1 (4, 12) := ⟨8, rc_8, rt_8, 5, _, ri_8, rfl, sh_8, by decide, wd_79, rfl⟩
theorem gf_UTe_24_8 : bz_Gf "UnitsWrong$Tellings" 24 8 2 (4, 13) := ⟨8, rc_8, rt_8, 5, _, ri_8, rfl, sh_8, by decide, wd_81, rfl⟩
theorem gf_UTe_27_8 : bz_Gf "UnitsWrong$Tellings" 27 8 3 (4, 14) := ⟨8, rc_8, rt_8, 5, _, ri_8, rfl, sh_8, by decide, wd_83, rfl⟩
theorem gf_UTe_30_8 : bz_Gf "UnitsWrong$Tellings" 30 8 4 (4, 15) := ⟨8, rc_8, rt_8, 5, _, ri_8, rfl, sh_8, by decide, wd_86, rfl⟩
theorem gf_U_101_8 : bz_Gf "UnitsWrong" 101 8 0 (4, 9) := ⟨8, rc_8, rt_8, 5, _, ri_8, rfl, sh_8, by decide, wd_77, rfl⟩
theorem gf_U_105_9 : bz_Gf "UnitsWrong" 105 9 2 (0, 0) := ⟨1, rc_1, rt_1, 3, _, ri_1, rfl, sh_9, by decide, wd_63, rfl⟩
theorem gf_UTe_37_9 : bz_Gf "UnitsWrong$Tellings" 37 9 2 (0, 0) := ⟨1, rc_1, rt_1, 3, _, ri_1, rfl, sh_9, by decide, wd_59, rfl⟩
theorem gf_UTe_41_9 : bz_Gf "UnitsWrong$Tellings" 41 9 1 (4, 11) := ⟨1, rc_1, rt_1, 3, _, ri_1, rfl, sh_9, by decide, wd_55, rfl⟩
theorem gf_UTe_44_9 : bz_Gf "UnitsWrong$Tellings" 44 9 0 (4, 10) := ⟨1, rc_1, rt_1, 3, _, ri_1, rfl, sh_9, by decide, wd_49, rfl⟩
theorem gf_U_122_8 : bz_Gf "UnitsWrong" 122 8 3 (4, 14) := ⟨8, rc_8, rt_8, 5, _, ri_8, rfl, sh_8, by decide, wd_84, rfl⟩
theorem gf_U_125_9 : bz_Gf "UnitsWrong" 125 9 0 (4, 10) := ⟨1, rc_1, rt_1, 3, _, ri_1, rfl, sh_9, by decide, wd_52, rfl⟩
theorem gf_US_77_1 : bz_Gf "UnitsWrong$State" 77 1 14 (0, 0) := ⟨7, rc_7, rt_7, 18, _, ri_7, rfl, sh_1, by decide, wd_253, rfl⟩
theorem gf_U_134_1 : bz_Gf "UnitsWrong" 134 1 8 (4, 24) := ⟨7, rc_7, rt_7, 18, _, ri_7, rfl, sh_1, by decide, wd_235, rfl⟩
theorem gf_UTr_16_24 : bz_Gf "UnitsWrong$Trades" 16 24 0 (4, 25) := ⟨10, rc_10, rt_10, 6, _, ri_10, rfl, sh_24, by decide, wd_107, rfl⟩
theorem gf_UB_18_25 : bz_Gf "UnitsWrong$ByDay" 18 25 2 (0, 0) := ⟨1, rc_1, rt_1, 3, _, ri_1, rfl, sh_25, by decide, wd_58, rfl⟩
theorem gf_UB_9_25 : bz_Gf "UnitsWrong$ByDay" 9 25 0 (4, 26) := ⟨1, rc_1, rt_1, 3, _, ri_1, rfl, sh_25, by decide, wd_48, rfl⟩
theorem gf_UB_15_25 : bz_Gf "UnitsWrong$ByDay" 15 25 1 (4, 27) := ⟨1, rc_1, rt_1, 3, _, ri_1, rfl, sh_25, by decide, wd_54, rfl⟩
theorem gf_UTr_20_24 : bz_Gf "UnitsWrong$Trades" 20 24 1 (4, 28) := ⟨10, rc_10, rt_10, 6, _, ri_10, rfl, sh_24, by decide, wd_110, rfl⟩
theorem gf_UTr_24_24 : bz_Gf "UnitsWrong$Trades" 24 24 2 (4, 29) := ⟨10, rc_10, rt_10, 6, _, ri_10, rfl, sh_24, by decide, wd_112, rfl⟩
theorem gf_UTr_33_24 : bz_Gf "UnitsWrong$Trades" 33 24 5 (4, 32) := ⟨10, rc_10, rt_10, 6, _, ri_10, rfl, sh_24, by decide, wd_120, rfl⟩
theorem gf_U_142_24 : bz_Gf "UnitsWrong" 142 24 3 (4, 30) := ⟨10, rc_10, rt_10, 6, _, ri_10, rfl, sh_24, by decide, wd_115, rfl⟩
theorem gf_U_145_24 : bz_Gf "UnitsWrong" 145 24 4 (4, 31) := ⟨10, rc_10, rt_10, 6, _, ri_10, rfl, sh_24, by decide, wd_118, rfl⟩
theorem gf_US_81_1 : bz_Gf "UnitsWrong$State" 81 1 15 (0, 0) := ⟨7, rc_7, rt_7, 18, _, ri_7, rfl, sh_1, by decide, wd_256, rfl⟩
theorem gf_US_97_1 : bz_Gf "UnitsWrong$State" 97 1 13 (0, 0) := ⟨7, rc_7, rt_7, 18, _, ri_7, rfl, sh_1, by decide, wd_252, rfl⟩
theorem gf_US_19_1 : bz_Gf "UnitsWrong$State" 19 1 2 (4, 4) := ⟨7, rc_7, rt_7, 18, _, ri_7, rfl, sh_1, by decide, wd_217, rfl⟩
theorem gf_US_61_1 : bz_Gf "UnitsWrong$State" 61 1 10 (4, 45) := ⟨7, rc_7, rt_7, 18, _, ri_7, rfl, sh_1, by decide, wd_240, rfl⟩
theorem gf_UL_18_45 : bz_Gf "UnitsWrong$Laws" 18 45 2 (0, 0) := ⟨5, rc_5, rt_5, 3, _, ri_5, rfl, sh_45, by decide, wd_199, rfl⟩
theorem gf_UL_11_45 : bz_Gf "UnitsWrong$Laws" 11 45 0 (4, 46) := ⟨5, rc_5, rt_5, 3, _, ri_5, rfl, sh_45, by decide, wd_197, rfl⟩
theorem gf_UL_15_45 : bz_Gf "UnitsWrong$Laws" 15 45 1 (4, 47) := ⟨5, rc_5, rt_5, 3, _, ri_5, rfl, sh_45, by decide, wd_198, rfl⟩
theorem gf_U_155_1 : bz_Gf "UnitsWrong" 155 1 9 (4, 33) := ⟨7, rc_7, rt_7, 18, _, ri_7, rfl, sh_1, by decide, wd_239, rfl⟩
theorem gf_UD_16_33 : bz_Gf "UnitsWrong$Deals" 16 33 0 (4, 34) := ⟨4, rc_4, rt_4, 9, _, ri_4, rfl, sh_33, by decide, wd_143, rfl⟩
theorem gf_UB_18_34 : bz_Gf "UnitsWrong$ByDay" 18 34 2 (0, 0) := ⟨1, rc_1, rt_1, 3, _, ri_1, rfl, sh_34, by decide, wd_58, rfl⟩
theorem gf_UB_9_34 : bz_Gf "UnitsWrong$ByDay" 9 34 0 (4, 35) := ⟨1, rc_1, rt_1, 3, _, ri_1, rfl, sh_34, by decide, wd_48, rfl⟩
theorem gf_UB_15_34 : bz_Gf "UnitsWrong$ByDay" 15 34 1 (4, 36) := ⟨1, rc_1, rt_1, 3, _, ri_1, rfl, sh_34, by decide, wd_54, rfl⟩
theorem gf_UD_20_33 : bz_Gf "UnitsWrong$Deals" 20 33 1 (4, 37) := ⟨4, rc_4, rt_4, 9, _, ri_4, rfl, sh_33, by decide, wd_147, rfl⟩
theorem gf_UD_24_33 : bz_Gf "UnitsWrong$Deals" 24 33 2 (4, 38) := ⟨4, rc_4, rt_4, 9, _, ri_4, rfl, sh_33, by decide, wd_151, rfl⟩
theorem gf_UD_27_33 : bz_Gf "UnitsWrong$Deals" 27 33 3 (4, 39) := ⟨4, rc_4, rt_4, 9, _, ri_4, rfl, sh_33, by decide, wd_155, rfl⟩
theorem gf_U_19_0 : bz_Gf "UnitsWrong" 19 0 1 (4, 50) := ⟨11, rc_11, rt_11, 6, _, ri_11, rfl, sh_0, by decide, wd_502, rfl⟩
theorem gf_U_162_50 : bz_Gf "UnitsWrong" 162 50 2 (0, 0) := ⟨9, rc_9, rt_9, 8, _, ri_9, rfl, sh_50, by decide, wd_309, rfl⟩
theorem gf_UX_18_50 : bz_Gf "UnitsWrong$Text" 18 50 2 (0, 0) := ⟨9, rc_9, rt_9, 8, _, ri_9, rfl, sh_50, by decide, wd_308, rfl⟩
theorem gf_UX_11_50 : bz_Gf "UnitsWrong$Text" 11 50 0 (4, 51) := ⟨9, rc_9, rt_9, 8, _, ri_9, rfl, sh_50, by decide, wd_305, rfl⟩
theorem gf_UX_15_50 : bz_Gf "UnitsWrong$Text" 15 50 1 (4, 52) := ⟨9, rc_9, rt_9, 8, _, ri_9, rfl, sh_50, by decide, wd_306, rfl⟩
theorem gf_UX_29_50 : bz_Gf "UnitsWrong$Text" 29 50 5 (0, 0) := ⟨9, rc_9, rt_9, 8, _, ri_9, rfl, sh_50, by decide, wd_312, rfl⟩
theorem gf_UX_32_50 : bz_Gf "UnitsWrong$Text" 32 50 7 (0, 0) := ⟨9, rc_9, rt_9, 8, _, ri_9, rfl, sh_50, by decide, wd_314, rfl⟩
theorem gf_UX_51_50 : bz_Gf "UnitsWrong$Text" 51 50 3 (0, 0) := ⟨9, rc_9, rt_9, 8, _, ri_9, rfl, sh_50, by decide, wd_310, rfl⟩
theorem gf_UX_111_50 : bz_Gf "UnitsWrong$Text" 111 50 6 (0, 0) := ⟨9, rc_9, rt_9, 8, _, ri_9, rfl, sh_50, by decide, wd_313, rfl⟩
theorem gf_UX_58_50 : bz_Gf "UnitsWrong$Text" 58 50 4 (0, 0) := ⟨9, rc_9, rt_9, 8, _, ri_9, rfl, sh_50, by decide, wd_311, rfl⟩
theorem gf_U_173_1 : bz_Gf "UnitsWrong" 173 1 10 (4, 45) := ⟨7, rc_7, rt_7, 18, _, ri_7, rfl, sh_1, by decide, wd_242, rfl⟩
theorem gf_U_177_45 : bz_Gf "UnitsWrong" 177 45 2 (0, 0) := ⟨5, rc_5, rt_5, 3, _, ri_5, rfl, sh_45, by decide, wd_200, rfl⟩
theorem gf_U_26_0 : bz_Gf "UnitsWrong" 26 0 2 (4, 53) := ⟨11, rc_11, rt_11, 6, _, ri_11, rfl, sh_0, by decide, wd_503, rfl⟩
theorem gf_UC_84_1 : bz_Gf "UnitsWrong$Course" 84 1 13 (0, 0) := ⟨7, rc_7, rt_7, 18, _, ri_7, rfl, sh_1, by decide, wd_251, rfl⟩
theorem gf_UC_46_53 : bz_Gf "UnitsWrong$Course" 46 53 17 (0, 0) := ⟨3, rc_3, rt_3, 19, _, ri_3, rfl, sh_53, by decide, wd_362, rfl⟩
theorem gf_UC_132_1 : bz_Gf "UnitsWrong$Course" 132 1 0 (4, 2) := ⟨7, rc_7, rt_7, 18, _, ri_7, rfl, sh_1, by decide, wd_213, rfl⟩
theorem gf_UC_9_53 : bz_Gf "UnitsWrong$Course" 9 53 0 (4, 54) := ⟨3, rc_3, rt_3, 19, _, ri_3, rfl, sh_53, by decide, wd_338, rfl⟩
theorem gf_U_201_1 : bz_Gf "UnitsWrong" 201 1 11 (4, 48) := ⟨7, rc_7, rt_7, 18, _, ri_7, rfl, sh_1, by decide, wd_246, rfl⟩
theorem gf_U_237_33 : bz_Gf "UnitsWrong" 237 33 7 (4, 43) := ⟨4, rc_4, rt_4, 9, _, ri_4, rfl, sh_33, by decide, wd_169, rfl⟩
theorem gf_U_267_33 : bz_Gf "UnitsWrong" 267 33 0 (4, 34) := ⟨4, rc_4, rt_4, 9, _, ri_4, rfl, sh_33, by decide, wd_146, rfl⟩
theorem gf_U_105_34 : bz_Gf "UnitsWrong" 105 34 2 (0, 0) := ⟨1, rc_1, rt_1, 3, _, ri_1, rfl, sh_34, by decide, wd_63, rfl⟩
theorem gf_U_268_33 : bz_Gf "UnitsWrong" 268 33 1 (4, 37) := ⟨4, rc_4, rt_4, 9, _, ri_4, rfl, sh_33, by decide, wd_150, rfl⟩
theorem gf_U_271_33 : bz_Gf "UnitsWrong" 271 33 2 (4, 38) := ⟨4, rc_4, rt_4, 9, _, ri_4, rfl, sh_33, by decide, wd_154, rfl⟩
theorem gf_U_125_34 : bz_Gf "UnitsWrong" 125 34 0 (4, 35) := ⟨1, rc_1, rt_1, 3, _, ri_1, rfl, sh_34, by decide, wd_52, rfl⟩
theorem gf_U_274_33 : bz_Gf "UnitsWrong" 274 33 4 (4, 40) := ⟨4, rc_4, rt_4, 9, _, ri_4, rfl, sh_33, by decide, wd_159, rfl⟩
theorem gf_U_277_33 : bz_Gf "UnitsWrong" 277 33 5 (4, 41) := ⟨4, rc_4, rt_4, 9, _, ri_4, rfl, sh_33, by decide, wd_163, rfl⟩
theorem gf_U_290_1 : bz_Gf "UnitsWrong" 290 1 3 (4, 5) := ⟨7, rc_7, rt_7, 18, _, ri_7, rfl, sh_1, by decide, wd_220, rfl⟩
theorem gf_U_293_1 : bz_Gf "UnitsWrong" 293 1 1 (4, 3) := ⟨7, rc_7, rt_7, 18, _, ri_7, rfl, sh_1, by decide, wd_216, rfl⟩
theorem gf_U_47_0 : bz_Gf "UnitsWrong" 47 0 5 (4, 77) := ⟨11, rc_11, rt_11, 6, _, ri_11, rfl, sh_0, by decide, wd_506, rfl⟩
theorem gf_UA_21_77 : bz_Gf "UnitsWrong$Audits" 21 77 3 (0, 0) := ⟨0, rc_0, rt_0, 8, _, ri_0, rfl, sh_77, by decide, wd_475, rfl⟩
theorem gf_UA_11_77 : bz_Gf "UnitsWrong$Audits" 11 77 0 (4, 78) := ⟨0, rc_0, rt_0, 8, _, ri_0, rfl, sh_77, by decide, wd_472, rfl⟩
theorem gf_UA_15_77 : bz_Gf "UnitsWrong$Audits" 15 77 1 (4, 79) := ⟨0, rc_0, rt_0, 8, _, ri_0, rfl, sh_77, by decide, wd_473, rfl⟩
theorem gf_UA_18_77 : bz_Gf "UnitsWrong$Audits" 18 77 2 (4, 80) := ⟨0, rc_0, rt_0, 8, _, ri_0, rfl, sh_77, by decide, wd_474, rfl⟩
theorem gf_U_306_1 : bz_Gf "UnitsWrong" 306 1 7 (4, 16) := ⟨7, rc_7, rt_7, 18, _, ri_7, rfl, sh_1, by decide, wd_232, rfl⟩
theorem gf_UTe_14_16 : bz_Gf "UnitsWrong$Tellings" 14 16 0 (4, 17) := ⟨8, rc_8, rt_8, 5, _, ri_8, rfl, sh_16, by decide, wd_75, rfl⟩
theorem gf_UB_18_17 : bz_Gf "UnitsWrong$ByDay" 18 17 2 (0, 0) := ⟨1, rc_1, rt_1, 3, _, ri_1, rfl, sh_17, by decide, wd_58, rfl⟩
theorem gf_UB_9_17 : bz_Gf "UnitsWrong$ByDay" 9 17 0 (4, 18) := ⟨1, rc_1, rt_1, 3, _, ri_1, rfl, sh_17, by decide, wd_48, rfl⟩
theorem gf_UB_15_17 : bz_Gf "UnitsWrong$ByDay" 15 17 1 (4, 19) := ⟨1, rc_1, rt_1, 3, _, ri_1, rfl, sh_17, by decide, wd_54, rfl⟩
theorem gf_UTe_20_16 : bz_Gf "UnitsWrong$Tellings" 20 16 1 (4, 20) := ⟨8, rc_8, rt_8, 5, _, ri_8, rfl, sh_16, by decide, wd_79, rfl⟩
theorem gf_UTe_24_16 : bz_Gf "UnitsWrong$Tellings" 24 16 2 (4, 21) := ⟨8, rc_8, rt_8, 5, _, ri_8, rfl, sh_16, by decide, wd_81, rfl⟩
theorem gf_UTe_27_16 : bz_Gf "UnitsWrong$Tellings" 27 16 3 (4, 22) := ⟨8, rc_8, rt_8, 5, _, ri_8, rfl, sh_16, by decide, wd_83, rfl⟩
theorem gf_UTe_30_16 : bz_Gf "UnitsWrong$Tellings" 30 16 4 (4, 23) := ⟨8, rc_8, rt_8, 5, _, ri_8, rfl, sh_16, by decide, wd_86, rfl⟩
theorem gf_U_309_77 : bz_Gf "UnitsWrong" 309 77 3 (0, 0) := ⟨0, rc_0, rt_0, 8, _, ri_0, rfl, sh_77, by decide, wd_476, rfl⟩
theorem gf_U_101_16 : bz_Gf "UnitsWrong" 101 16 0 (4, 17) := ⟨8, rc_8, rt_8, 5, _, ri_8, rfl, sh_16, by decide, wd_77, rfl⟩
theorem gf_U_105_17 : bz_Gf "UnitsWrong" 105 17 2 (0, 0) := ⟨1, rc_1, rt_1, 3, _, ri_1, rfl, sh_17, by decide, wd_63, rfl⟩
theorem gf_UA_25_77 : bz_Gf "UnitsWrong$Audits" 25 77 4 (2, 0) := ⟨0, rc_0, rt_0, 8, _, ri_0, rfl, sh_77, by decide, wd_477, rfl⟩
theorem gf_UA_43_1 : bz_Gf "UnitsWrong$Audits" 43 1 7 (4, 16) := ⟨7, rc_7, rt_7, 18, _, ri_7, rfl, sh_1, by decide, wd_230, rfl⟩
theorem gf_UA_47_16 : bz_Gf "UnitsWrong$Audits" 47 16 0 (4, 17) := ⟨8, rc_8, rt_8, 5, _, ri_8, rfl, sh_16, by decide, wd_76, rfl⟩
theorem gf_UA_53_17 : bz_Gf "UnitsWrong$Audits" 53 17 2 (0, 0) := ⟨1, rc_1, rt_1, 3, _, ri_1, rfl, sh_17, by decide, wd_60, rfl⟩
theorem gf_UA_37_77 : bz_Gf "UnitsWrong$Audits" 37 77 5 (0, 0) := ⟨0, rc_0, rt_0, 8, _, ri_0, rfl, sh_77, by decide, wd_479, rfl⟩
theorem gf_U_359_24 : bz_Gf "UnitsWrong" 359 24 0 (4, 25) := ⟨10, rc_10, rt_10, 6, _, ri_10, rfl, sh_24, by decide, wd_109, rfl⟩
theorem gf_U_105_25 : bz_Gf "UnitsWrong" 105 25 2 (0, 0) := ⟨1, rc_1, rt_1, 3, _, ri_1, rfl, sh_25, by decide, wd_63, rfl⟩
theorem gf_U_356_33 : bz_Gf "UnitsWrong" 356 33 8 (4, 44) := ⟨4, rc_4, rt_4, 9, _, ri_4, rfl, sh_33, by decide, wd_171, rfl⟩
theorem gf_M_216_81 : bz_Gf "UnitsWrongModel" 216 81 0 (0, 0) := ⟨12, rc_12, rt_12, 79, _, ri_12, rfl, sh_81, by decide, wd_1170, rfl⟩
theorem gf_M_9_81 : bz_Gf "UnitsWrongModel" 9 81 1 (4, 82) := ⟨12, rc_12, rt_12, 79, _, ri_12, rfl, sh_81, by decide, wd_1171, rfl⟩
theorem gf_M_226_81 : bz_Gf "UnitsWrongModel" 226 81 2 (0, 0) := ⟨12, rc_12, rt_12, 79, _, ri_12, rfl, sh_81, by decide, wd_1172, rfl⟩
theorem gf_M_251_81 : bz_Gf "UnitsWrongModel" 251 81 12 (0, 0) := ⟨12, rc_12, rt_12, 79, _, ri_12, rfl, sh_81, by decide, wd_1182, rfl⟩
theorem gf_M_13_81 : bz_Gf "UnitsWrongModel" 13 81 3 (4, 83) := ⟨12, rc_12, rt_12, 79, _, ri_12, rfl, sh_81, by decide, wd_1173, rfl⟩
theorem gf_M_17_81 : bz_Gf "UnitsWrongModel" 17 81 4 (4, 84) := ⟨12, rc_12, rt_12, 79, _, ri_12, rfl, sh_81, by decide, wd_1174, rfl⟩
theorem gf_M_20_81 : bz_Gf "UnitsWrongModel" 20 81 5 (4, 85) := ⟨12, rc_12, rt_12, 79, _, ri_12, rfl, sh_81, by decide, wd_1175, rfl⟩
theorem gf_M_23_81 : bz_Gf "UnitsWrongModel" 23 81 6 (4, 86) := ⟨12, rc_12, rt_12, 79, _, ri_12, rfl, sh_81, by decide, wd_1176, rfl⟩
theorem gf_M_26_81 : bz_Gf "UnitsWrongModel" 26 81 7 (4, 87) := ⟨12, rc_12, rt_12, 79, _, ri_12, rfl, sh_81, by decide, wd_1177, rfl⟩
theorem gf_M_41_81 : bz_Gf "UnitsWrongModel" 41 81 14 (4, 92) := ⟨12, rc_12, rt_12, 79, _, ri_12, rfl, sh_81, by decide, wd_1184, rfl⟩
theorem gf_M_275_81 : bz_Gf "UnitsWrongModel" 275 81 19 (0, 0) := ⟨12, rc_12, rt_12, 79, _, ri_12, rfl, sh_81, by decide, wd_1189, rfl⟩
theorem gf_M_44_81 : bz_Gf "UnitsWrongModel" 44 81 15 (4, 93) := ⟨12, rc_12, rt_12, 79, _, ri_12, rfl, sh_81, by decide, wd_1185, rfl⟩
theorem gf_M_53_81 : bz_Gf "UnitsWrongModel" 53 81 18 (4, 96) := ⟨12, rc_12, rt_12, 79, _, ri_12, rfl, sh_81, by decide, wd_1188, rfl⟩
theorem gf_M_284_81 : bz_Gf "UnitsWrongModel" 284 81 20 (0, 0) := ⟨12, rc_12, rt_12, 79, _, ri_12, rfl, sh_81, by decide, wd_1190, rfl⟩
theorem gf_M_47_81 : bz_Gf "UnitsWrongModel" 47 81 16 (4, 94) := ⟨12, rc_12, rt_12, 79, _, ri_12, rfl, sh_81, by decide, wd_1186, rfl⟩
theorem gf_M_50_81 : bz_Gf "UnitsWrongModel" 50 81 17 (4, 95) := ⟨12, rc_12, rt_12, 79, _, ri_12, rfl, sh_81, by decide, wd_1187, rfl⟩
theorem gf_M_294_81 : bz_Gf "UnitsWrongModel" 294 81 27 (0, 0) := ⟨12, rc_12, rt_12, 79, _, ri_12, rfl, sh_81, by decide, wd_1197, rfl⟩
theorem gf_M_56_81 : bz_Gf "UnitsWrongModel" 56 81 21 (4, 97) := ⟨12, rc_12, rt_12, 79, _, ri_12, rfl, sh_81, by decide, wd_1191, rfl⟩
theorem gf_M_59_81 : bz_Gf "UnitsWrongModel" 59 81 22 (4, 98) := ⟨12, rc_12, rt_12, 79, _, ri_12, rfl, sh_81, by decide, wd_1192, rfl⟩
theorem gf_M_62_81 : bz_Gf "UnitsWrongModel" 62 81 23 (4, 99) := ⟨12, rc_12, rt_12, 79, _, ri_12, rfl, sh_81, by decide, wd_1193, rfl⟩
theorem gf_M_65_81 : bz_Gf "UnitsWrongModel" 65 81 24 (4, 100) := ⟨12, rc_12, rt_12, 79, _, ri_12, rfl, sh_81, by decide, wd_1194, rfl⟩
theorem gf_M_68_81 : bz_Gf "UnitsWrongModel" 68 81 25 (4, 101) := ⟨12, rc_12, rt_12, 79, _, ri_12, rfl, sh_81, by decide, wd_1195, rfl⟩
theorem gf_M_71_81 : bz_Gf "UnitsWrongModel" 71 81 26 (4, 102) := ⟨12, rc_12, rt_12, 79, _, ri_12, rfl, sh_81, by decide, wd_1196, rfl⟩
theorem gf_M_302_81 : bz_Gf "UnitsWrongModel" 302 81 35 (0, 0) := ⟨12, rc_12, rt_12, 79, _, ri_12, rfl, sh_81, by decide, wd_1205, rfl⟩
theorem gf_M_413_81 : bz_Gf "UnitsWrongModel" 413 81 43 (0, 0) := ⟨12, rc_12, rt_12, 79, _, ri_12, rfl, sh_81, by decide, wd_1213, rfl⟩
theorem gf_M_105_81 : bz_Gf "UnitsWrongModel" 105 81 42 (4, 154) := ⟨12, rc_12, rt_12, 79, _, ri_12, rfl, sh_81, by decide, wd_1212, rfl⟩
theorem gf_M_102_81 : bz_Gf "UnitsWrongModel" 102 81 41 (4, 111) := ⟨12, rc_12, rt_12, 79, _, ri_12, rfl, sh_81, by decide, wd_1211, rfl⟩
theorem gf_M_108_81 : bz_Gf "UnitsWrongModel" 108 81 44 (4, 155) := ⟨12, rc_12, rt_12, 79, _, ri_12, rfl, sh_81, by decide, wd_1214, rfl⟩
theorem gf_M_74_81 : bz_Gf "UnitsWrongModel" 74 81 28 (4, 103) := ⟨12, rc_12, rt_12, 79, _, ri_12, rfl, sh_81, by decide, wd_1198, rfl⟩
theorem gf_M_77_81 : bz_Gf "UnitsWrongModel" 77 81 29 (4, 104) := ⟨12, rc_12, rt_12, 79, _, ri_12, rfl, sh_81, by decide, wd_1199, rfl⟩
theorem gf_M_80_81 : bz_Gf "UnitsWrongModel" 80 81 30 (4, 105) := ⟨12, rc_12, rt_12, 79, _, ri_12, rfl, sh_81, by decide, wd_1200, rfl⟩
theorem gf_M_83_81 : bz_Gf "UnitsWrongModel" 83 81 31 (4, 106) := ⟨12, rc_12, rt_12, 79, _, ri_12, rfl, sh_81, by decide, wd_1201, rfl⟩
theorem gf_M_309_81 : bz_Gf "UnitsWrongModel" 309 81 37 (0, 0) := ⟨12, rc_12, rt_12, 79, _, ri_12, rfl, sh_81, by decide, wd_1207, rfl⟩
theorem gf_M_96_81 : bz_Gf "UnitsWrongModel" 96 81 36 (4, 110) := ⟨12, rc_12, rt_12, 79, _, ri_12, rfl, sh_81, by decide, wd_1206, rfl⟩
theorem gf_M_319_81 : bz_Gf "UnitsWrongModel" 319 81 38 (0, 0) := ⟨12, rc_12, rt_12, 79, _, ri_12, rfl, sh_81, by decide, wd_1208, rfl⟩
theorem gf_M_316_81 : bz_Gf "UnitsWrongModel" 316 81 40 (0, 0) := ⟨12, rc_12, rt_12, 79, _, ri_12, rfl, sh_81, by decide, wd_1210, rfl⟩
theorem gf_M_322_81 : bz_Gf "UnitsWrongModel" 322 81 39 (0, 0) := ⟨12, rc_12, rt_12, 79, _, ri_12, rfl, sh_81, by decide, wd_1209, rfl⟩
theorem gf_M_125_81 : bz_Gf "UnitsWrongModel" 125 81 46 (4, 157) := ⟨12, rc_12, rt_12, 79, _, ri_12, rfl, sh_81, by decide, wd_1216, rfl⟩
theorem gf_M_166_81 : bz_Gf "UnitsWrongModel" 166 81 59 (4, 221) := ⟨12, rc_12, rt_12, 79, _, ri_12, rfl, sh_81, by decide, wd_1229, rfl⟩
theorem gf_M_418_81 : bz_Gf "UnitsWrongModel" 418 81 61 (0, 0) := ⟨12, rc_12, rt_12, 79, _, ri_12, rfl, sh_81, by decide, wd_1231, rfl⟩
theorem gf_M_131_81 : bz_Gf "UnitsWrongModel" 131 81 48 (4, 170) := ⟨12, rc_12, rt_12, 79, _, ri_12, rfl, sh_81, by decide, wd_1218, rfl⟩
theorem gf_M_134_81 : bz_Gf "UnitsWrongModel" 134 81 49 (4, 179) := ⟨12, rc_12, rt_12, 79, _, ri_12, rfl, sh_81, by decide, wd_1219, rfl⟩
theorem gf_M_128_81 : bz_Gf "UnitsWrongModel" 128 81 47 (4, 166) := ⟨12, rc_12, rt_12, 79, _, ri_12, rfl, sh_81, by decide, wd_1217, rfl⟩
theorem gf_M_137_81 : bz_Gf "UnitsWrongModel" 137 81 50 (4, 188) := ⟨12, rc_12, rt_12, 79, _, ri_12, rfl, sh_81, by decide, wd_1220, rfl⟩
theorem gf_M_157_81 : bz_Gf "UnitsWrongModel" 157 81 56 (4, 210) := ⟨12, rc_12, rt_12, 79, _, ri_12, rfl, sh_81, by decide, wd_1226, rfl⟩
theorem gf_M_145_81 : bz_Gf "UnitsWrongModel" 145 81 52 (4, 190) := ⟨12, rc_12, rt_12, 79, _, ri_12, rfl, sh_81, by decide, wd_1222, rfl⟩
theorem gf_M_154_81 : bz_Gf "UnitsWrongModel" 154 81 55 (4, 205) := ⟨12, rc_12, rt_12, 79, _, ri_12, rfl, sh_81, by decide, wd_1225, rfl⟩
theorem gf_M_140_81 : bz_Gf "UnitsWrongModel" 140 81 51 (4, 189) := ⟨12, rc_12, rt_12, 79, _, ri_12, rfl, sh_81, by decide, wd_1221, rfl⟩
theorem gf_M_148_81 : bz_Gf "UnitsWrongModel" 148 81 53 (4, 195) := ⟨12, rc_12, rt_12, 79, _, ri_12, rfl, sh_81, by decide, wd_1223, rfl⟩
theorem gf_M_151_81 : bz_Gf "UnitsWrongModel" 151 81 54 (4, 200) := ⟨12, rc_12, rt_12, 79, _, ri_12, rfl, sh_81, by decide, wd_1224, rfl⟩
theorem gf_M_169_81 : bz_Gf "UnitsWrongModel" 169 81 60 (4, 222) := ⟨12, rc_12, rt_12, 79, _, ri_12, rfl, sh_81, by decide, wd_1230, rfl⟩
theorem gf_M_86_81 : bz_Gf "UnitsWrongModel" 86 81 32 (4, 107) := ⟨12, rc_12, rt_12, 79, _, ri_12, rfl, sh_81, by decide, wd_1202, rfl⟩
theorem gf_M_163_81 : bz_Gf "UnitsWrongModel" 163 81 58 (4, 216) := ⟨12, rc_12, rt_12, 79, _, ri_12, rfl, sh_81, by decide, wd_1228, rfl⟩
theorem gf_M_92_81 : bz_Gf "UnitsWrongModel" 92 81 34 (4, 109) := ⟨12, rc_12, rt_12, 79, _, ri_12, rfl, sh_81, by decide, wd_1204, rfl⟩
theorem gf_M_160_81 : bz_Gf "UnitsWrongModel" 160 81 57 (4, 211) := ⟨12, rc_12, rt_12, 79, _, ri_12, rfl, sh_81, by decide, wd_1227, rfl⟩
theorem gf_M_89_81 : bz_Gf "UnitsWrongModel" 89 81 33 (4, 108) := ⟨12, rc_12, rt_12, 79, _, ri_12, rfl, sh_81, by decide, wd_1203, rfl⟩
theorem gf_M_172_81 : bz_Gf "UnitsWrongModel" 172 81 62 (4, 223) := ⟨12, rc_12, rt_12, 79, _, ri_12, rfl, sh_81, by decide, wd_1232, rfl⟩
theorem gf_M_175_81 : bz_Gf "UnitsWrongModel" 175 81 63 (4, 224) := ⟨12, rc_12, rt_12, 79, _, ri_12, rfl, sh_81, by decide, wd_1233, rfl⟩
theorem gf_M_178_81 : bz_Gf "UnitsWrongModel" 178 81 64 (4, 225) := ⟨12, rc_12, rt_12, 79, _, ri_12, rfl, sh_81, by decide, wd_1234, rfl⟩
theorem gf_M_181_81 : bz_Gf "UnitsWrongModel" 181 81 65 (4, 226) := ⟨12, rc_12, rt_12, 79, _, ri_12, rfl, sh_81, by decide, wd_1235, rfl⟩
theorem gf_M_523_81 : bz_Gf "UnitsWrongModel" 523 81 69 (0, 0) := ⟨12, rc_12, rt_12, 79, _, ri_12, rfl, sh_81, by decide, wd_1239, rfl⟩
theorem gf_M_184_81 : bz_Gf "UnitsWrongModel" 184 81 66 (4, 227) := ⟨12, rc_12, rt_12, 79, _, ri_12, rfl, sh_81, by decide, wd_1236, rfl⟩
theorem gf_M_187_81 : bz_Gf "UnitsWrongModel" 187 81 67 (4, 228) := ⟨12, rc_12, rt_12, 79, _, ri_12, rfl, sh_81, by decide, wd_1237, rfl⟩
theorem gf_M_190_81 : bz_Gf "UnitsWrongModel" 190 81 68 (4, 229) := ⟨12, rc_12, rt_12, 79, _, ri_12, rfl, sh_81, by decide, wd_1238, rfl⟩
theorem gf_M_526_81 : bz_Gf "UnitsWrongModel" 526 81 13 (0, 0) := ⟨12, rc_12, rt_12, 79, _, ri_12, rfl, sh_81, by decide, wd_1183, rfl⟩
theorem gf_M_29_81 : bz_Gf "UnitsWrongModel" 29 81 8 (4, 88) := ⟨12, rc_12, rt_12, 79, _, ri_12, rfl, sh_81, by decide, wd_1178, rfl⟩
theorem gf_M_32_81 : bz_Gf "UnitsWrongModel" 32 81 9 (4, 89) := ⟨12, rc_12, rt_12, 79, _, ri_12, rfl, sh_81, by decide, wd_1179, rfl⟩
theorem gf_M_35_81 : bz_Gf "UnitsWrongModel" 35 81 10 (4, 90) := ⟨12, rc_12, rt_12, 79, _, ri_12, rfl, sh_81, by decide, wd_1180, rfl⟩
theorem gf_M_38_81 : bz_Gf "UnitsWrongModel" 38 81 11 (4, 91) := ⟨12, rc_12, rt_12, 79, _, ri_12, rfl, sh_81, by decide, wd_1181, rfl⟩
theorem gf_M_529_81 : bz_Gf "UnitsWrongModel" 529 81 70 (0, 0) := ⟨12, rc_12, rt_12, 79, _, ri_12, rfl, sh_81, by decide, wd_1240, rfl⟩
theorem gf_M_532_81 : bz_Gf "UnitsWrongModel" 532 81 71 (0, 0) := ⟨12, rc_12, rt_12, 79, _, ri_12, rfl, sh_81, by decide, wd_1241, rfl⟩
theorem gf_M_193_81 : bz_Gf "UnitsWrongModel" 193 81 72 (4, 230) := ⟨12, rc_12, rt_12, 79, _, ri_12, rfl, sh_81, by decide, wd_1242, rfl⟩
theorem gf_M_549_81 : bz_Gf "UnitsWrongModel" 549 81 74 (0, 0) := ⟨12, rc_12, rt_12, 79, _, ri_12, rfl, sh_81, by decide, wd_1244, rfl⟩
theorem gf_M_196_81 : bz_Gf "UnitsWrongModel" 196 81 73 (4, 231) := ⟨12, rc_12, rt_12, 79, _, ri_12, rfl, sh_81, by decide, wd_1243, rfl⟩
theorem gf_M_202_81 : bz_Gf "UnitsWrongModel" 202 81 76 (4, 233) := ⟨12, rc_12, rt_12, 79, _, ri_12, rfl, sh_81, by decide, wd_1246, rfl⟩
theorem gf_M_199_81 : bz_Gf "UnitsWrongModel" 199 81 75 (4, 232) := ⟨12, rc_12, rt_12, 79, _, ri_12, rfl, sh_81, by decide, wd_1245, rfl⟩
theorem gf_M_205_81 : bz_Gf "UnitsWrongModel" 205 81 77 (4, 234) := ⟨12, rc_12, rt_12, 79, _, ri_12, rfl, sh_81, by decide, wd_1247, rfl⟩
theorem gf_M_558_81 : bz_Gf "UnitsWrongModel" 558 81 78 (0, 0) := ⟨12, rc_12, rt_12, 79, _, ri_12, rfl, sh_81, by decide, wd_1248, rfl⟩
theorem pf_U_60_1 : bz_Pf "UnitsWrong" 60 1 14 (0, 0) .int := ⟨7, rc_7, rt_7, 18, _, ry_7, ri_7, rfl, sh_1, by decide, wd_254, rfl, rk_7, rn_7, rfl, rfl⟩
theorem pf_U_67_1 : bz_Pf "UnitsWrong" 67 1 17 (0, 0) .int := ⟨7, rc_7, rt_7, 18, _, ry_7, ri_7, rfl, sh_1, by decide, wd_260, rfl, rk_7, rn_7, rfl, rfl⟩
theorem pf_U_70_1 : bz_Pf "UnitsWrong" 70 1 15 (0, 0) .int := ⟨7, rc_7, rt_7, 18, _, ry_7, ri_7, rfl, sh_1, by decide, wd_257, rfl, rk_7, rn_7, rfl, rfl⟩
theorem pf_U_80_1 : bz_Pf "UnitsWrong" 80 1 16 (0, 0) .int := ⟨7, rc_7, rt_7, 18, _, ry_7, ri_7, rfl, sh_1, by decide, wd_258, rfl, rk_7, rn_7, rfl, rfl⟩
theorem pf_UB_18_9 : bz_Pf "UnitsWrong$ByDay" 18 9 2 (0, 0) .int := ⟨1, rc_1, rt_1, 3, _, ry_1, ri_1, rfl, sh_9, by decide, wd_58, rfl, rk_1, rn_1, rfl, rfl⟩
theorem pf_UB_18_25 : bz_Pf "UnitsWrong$ByDay" 18 25 2 (0, 0) .int := ⟨1, rc_1, rt_1, 3, _, ry_1, ri_1, rfl, sh_25, by decide, wd_58, rfl, rk_1, rn_1, rfl, rfl⟩
theorem pf_UB_18_34 : bz_Pf "UnitsWrong$ByDay" 18 34 2 (0, 0) .int := ⟨1, rc_1, rt_1, 3, _, ry_1, ri_1, rfl, sh_34, by decide, wd_58, rfl, rk_1, rn_1, rfl, rfl⟩
theorem pf_UX_18_50 : bz_Pf "UnitsWrong$Text" 18 50 2 (0, 0) .int := ⟨9, rc_9, rt_9, 8, _, ry_9, ri_9, rfl, sh_50, by decide, wd_308, rfl, rk_9, rn_9, rfl, rfl⟩
theorem pf_U_162_50 : bz_Pf "UnitsWrong" 162 50 2 (0, 0) .int := ⟨9, rc_9, rt_9, 8, _, ry_9, ri_9, rfl, sh_50, by decide, wd_309, rfl, rk_9, rn_9, rfl, rfl⟩
theorem pf_UX_29_50 : bz_Pf "UnitsWrong$Text" 29 50 5 (0, 0) .int := ⟨9, rc_9, rt_9, 8, _, ry_9, ri_9, rfl, sh_50, by decide, wd_312, rfl, rk_9, rn_9, rfl, rfl⟩
theorem pf_UX_32_50 : bz_Pf "UnitsWrong$Text" 32 50 7 (0, 0) .int := ⟨9, rc_9, rt_9, 8, _, ry_9, ri_9, rfl, sh_50, by decide, wd_314, rfl, rk_9, rn_9, rfl, rfl⟩
theorem pf_UX_58_50 : bz_Pf "UnitsWrong$Text" 58 50 4 (0, 0) .int := ⟨9, rc_9, rt_9, 8, _, ry_9, ri_9, rfl, sh_50, by decide, wd_311, rfl, rk_9, rn_9, rfl, rfl⟩
theorem pf_UX_51_50 : bz_Pf "UnitsWrong$Text" 51 50 3 (0, 0) .int := ⟨9, rc_9, rt_9, 8, _, ry_9, ri_9, rfl, sh_50, by decide, wd_310, rfl, rk_9, rn_9, rfl, rfl⟩
theorem pf_UX_111_50 : bz_Pf "UnitsWrong$Text" 111 50 6 (0, 0) .int := ⟨9, rc_9, rt_9, 8, _, ry_9, ri_9, rfl, sh_50, by decide, wd_313, rfl, rk_9, rn_9, rfl, rfl⟩
theorem pf_UA_21_77 : bz_Pf "UnitsWrong$Audits" 21 77 3 (0, 0) .int := ⟨0, rc_0, rt_0, 8, _, ry_0, ri_0, rfl, sh_77, by decide, wd_475, rfl, rk_0, rn_0, rfl, rfl⟩
theorem pf_UA_25_77 : bz_Pf "UnitsWrong$Audits" 25 77 4 (2, 0) .boolean := ⟨0, rc_0, rt_0, 8, _, ry_0, ri_0, rfl, sh_77, by decide, wd_477, rfl, rk_0, rn_0, rfl, rfl⟩
theorem pf_U_302_77 : bz_Pf "UnitsWrong" 302 77 4 (2, 0) .boolean := ⟨0, rc_0, rt_0, 8, _, ry_0, ri_0, rfl, sh_77, by decide, wd_478, rfl, rk_0, rn_0, rfl, rfl⟩
theorem pf_UB_18_17 : bz_Pf "UnitsWrong$ByDay" 18 17 2 (0, 0) .int := ⟨1, rc_1, rt_1, 3, _, ry_1, ri_1, rfl, sh_17, by decide, wd_58, rfl, rk_1, rn_1, rfl, rfl⟩
theorem pf_U_309_77 : bz_Pf "UnitsWrong" 309 77 3 (0, 0) .int := ⟨0, rc_0, rt_0, 8, _, ry_0, ri_0, rfl, sh_77, by decide, wd_476, rfl, rk_0, rn_0, rfl, rfl⟩
theorem pf_U_105_17 : bz_Pf "UnitsWrong" 105 17 2 (0, 0) .int := ⟨1, rc_1, rt_1, 3, _, ry_1, ri_1, rfl, sh_17, by decide, wd_63, rfl, rk_1, rn_1, rfl, rfl⟩
theorem pf_UA_37_77 : bz_Pf "UnitsWrong$Audits" 37 77 5 (0, 0) .int := ⟨0, rc_0, rt_0, 8, _, ry_0, ri_0, rfl, sh_77, by decide, wd_479, rfl, rk_0, rn_0, rfl, rfl⟩
theorem pf_UA_40_77 : bz_Pf "UnitsWrong$Audits" 40 77 6 (0, 0) .int := ⟨0, rc_0, rt_0, 8, _, ry_0, ri_0, rfl, sh_77, by decide, wd_481, rfl, rk_0, rn_0, rfl, rfl⟩
theorem pf_M_226_81 : bz_Pf "UnitsWrongModel" 226 81 2 (0, 0) .int := ⟨12, rc_12, rt_12, 79, _, ry_12, ri_12, rfl, sh_81, by decide, wd_1172, rfl, rk_12, rn_12, rfl, rfl⟩
theorem pf_M_251_81 : bz_Pf "UnitsWrongModel" 251 81 12 (0, 0) .int := ⟨12, rc_12, rt_12, 79, _, ry_12, ri_12, rfl, sh_81, by decide, wd_1182, rfl, rk_12, rn_12, rfl, rfl⟩
theorem pf_M_275_81 : bz_Pf "UnitsWrongModel" 275 81 19 (0, 0) .int := ⟨12, rc_12, rt_12, 79, _, ry_12, ri_12, rfl, sh_81, by decide, wd_1189, rfl, rk_12, rn_12, rfl, rfl⟩
theorem pf_M_284_81 : bz_Pf "UnitsWrongModel" 284 81 20 (0, 0) .int := ⟨12, rc_12, rt_12, 79, _, ry_12, ri_12, rfl, sh_81, by decide, wd_1190, rfl, rk_12, rn_12, rfl, rfl⟩
theorem pf_M_294_81 : bz_Pf "UnitsWrongModel" 294 81 27 (0, 0) .int := ⟨12, rc_12, rt_12, 79, _, ry_12, ri_12, rfl, sh_81, by decide, wd_1197, rfl, rk_12, rn_12, rfl, rfl⟩
theorem pf_M_302_81 : bz_Pf "UnitsWrongModel" 302 81 35 (0, 0) .int := ⟨12, rc_12, rt_12, 79, _, ry_12, ri_12, rfl, sh_81, by decide, wd_1205, rfl, rk_12, rn_12, rfl, rfl⟩
theorem pf_M_309_81 : bz_Pf "UnitsWrongModel" 309 81 37 (0, 0) .int := ⟨12, rc_12, rt_12, 79, _, ry_12, ri_12, rfl, sh_81, by decide, wd_1207, rfl, rk_12, rn_12, rfl, rfl⟩
theorem pf_M_316_81 : bz_Pf "UnitsWrongModel" 316 81 40 (0, 0) .int := ⟨12, rc_12, rt_12, 79, _, ry_12, ri_12, rfl, sh_81, by decide, wd_1210, rfl, rk_12, rn_12, rfl, rfl⟩
theorem pf_M_319_81 : bz_Pf "UnitsWrongModel" 319 81 38 (0, 0) .int := ⟨12, rc_12, rt_12, 79, _, ry_12, ri_12, rfl, sh_81, by decide, wd_1208, rfl, rk_12, rn_12, rfl, rfl⟩
theorem pf_M_322_81 : bz_Pf "UnitsWrongModel" 322 81 39 (0, 0) .int := ⟨12, rc_12, rt_12, 79, _, ry_12, ri_12, rfl, sh_81, by decide, wd_1209, rfl, rk_12, rn_12, rfl, rfl⟩
theorem pf_M_418_81 : bz_Pf "UnitsWrongModel" 418 81 61 (0, 0) .int := ⟨12, rc_12, rt_12, 79, _, ry_12, ri_12, rfl, sh_81, by decide, wd_1231, rfl, rk_12, rn_12, rfl, rfl⟩
theorem pf_M_216_81 : bz_Pf "UnitsWrongModel" 216 81 0 (0, 0) .int := ⟨12, rc_12, rt_12, 79, _, ry_12, ri_12, rfl, sh_81, by decide, wd_1170, rfl, rk_12, rn_12, rfl, rfl⟩
theorem pf_M_523_81 : bz_Pf "UnitsWrongModel" 523 81 69 (0, 0) .int := ⟨12, rc_12, rt_12, 79, _, ry_12, ri_12, rfl, sh_81, by decide, wd_1239, rfl, rk_12, rn_12, rfl, rfl⟩
theorem pf_M_526_81 : bz_Pf "UnitsWrongModel" 526 81 13 (0, 0) .int := ⟨12, rc_12, rt_12, 79, _, ry_12, ri_12, rfl, sh_81, by decide, wd_1183, rfl, rk_12, rn_12, rfl, rfl⟩
theorem pf_M_529_81 : bz_Pf "UnitsWrongModel" 529 81 70 (0, 0) .int := ⟨12, rc_12, rt_12, 79, _, ry_12, ri_12, rfl, sh_81, by decide, wd_1240, rfl, rk_12, rn_12, rfl, rfl⟩
theorem pf_M_532_81 : bz_Pf "UnitsWrongModel" 532 81 71 (0, 0) .int := ⟨12, rc_12, rt_12, 79, _, ry_12, ri_12, rfl, sh_81, by decide, wd_1241, rfl, rk_12, rn_12, rfl, rfl⟩
theorem pf_M_549_81 : bz_Pf "UnitsWrongModel" 549 81 74 (0, 0) .int := ⟨12, rc_12, rt_12, 79, _, ry_12, ri_12, rfl, sh_81, by decide, wd_1244, rfl, rk_12, rn_12, rfl, rfl⟩
theorem pf_M_558_81 : bz_Pf "UnitsWrongModel" 558 81 78 (0, 0) .int := ⟨12, rc_12, rt_12, 79, _, ry_12, ri_12, rfl, sh_81, by decide, wd_1248, rfl, rk_12, rn_12, rfl, rfl⟩
theorem gyU_isDay : bz_Gy yU_isDay prog_1_method_44_code 1 (some .boolean) 1 := ⟨wd_547, wd_1, ⟨by decide +kernel, by decide +kernel⟩, by decide +kernel⟩
theorem gyUS_isOpen : bz_Gy yUS_isOpen prog_9_method_6_code 2 (some .boolean) 1 := ⟨wd_544, wd_2, ⟨by decide +kernel, by decide +kernel⟩, by decide +kernel⟩
theorem gyU_isSubject : bz_Gy yU_isSubject prog_1_method_48_code 2 (some .boolean) 2 := ⟨wd_557, wd_1, ⟨by decide +kernel, by decide +kernel⟩, by decide +kernel⟩
theorem gyU_canBeTold : bz_Gy yU_canBeTold prog_1_method_49_code 4 (some .boolean) 4 := ⟨wd_554, wd_1, ⟨by decide +kernel, by decide +kernel⟩, by decide +kernel⟩
theorem gyUB_add : bz_Gy yUB_add prog_3_method_2_code 4 (some .int) 1 := ⟨wd_566, wd_4, ⟨by decide +kernel, by decide +kernel⟩, by decide +kernel⟩
theorem gyUTe_add : bz_Gy yUTe_add prog_10_method_2_code 7 (some .int) 5 := ⟨wd_562, wd_3, ⟨by decide +kernel, by decide +kernel⟩, by decide +kernel⟩
theorem gyUTe_latest : bz_Gy yUTe_latest prog_10_method_3_code 11 (some .int) 4 := ⟨wd_575, wd_3, ⟨by decide +kernel, by decide +kernel⟩, by decide +kernel⟩
theorem gyUS_isFund : bz_Gy yUS_isFund prog_9_method_2_code 2 (some .boolean) 1 := ⟨wd_587, wd_2, ⟨by decide +kernel, by decide +kernel⟩, by decide +kernel⟩
theorem gyU_isWithin : bz_Gy yU_isWithin prog_1_method_45_code 2 (some .boolean) 2 := ⟨wd_590, wd_1, ⟨by decide +kernel, by decide +kernel⟩, by decide +kernel⟩
theorem gyUTr_add : bz_Gy yUTr_add prog_12_method_2_code 6 (some .int) 4 := ⟨wd_594, wd_5, ⟨by decide +kernel, by decide +kernel⟩, by decide +kernel⟩
theorem gyUS_isHolder : bz_Gy yUS_isHolder prog_9_method_3_code 2 (some .boolean) 1 := ⟨wd_608, wd_2, ⟨by decide +kernel, by decide +kernel⟩, by decide +kernel⟩
theorem gyUS_isWho : bz_Gy yUS_isWho prog_9_method_4_code 3 (some .boolean) 2 := ⟨wd_603, wd_2, ⟨by decide +kernel, by decide +kernel⟩, by decide +kernel⟩
theorem gyUS_openBehind : bz_Gy yUS_openBehind prog_9_method_7_code 3 (some .int) 1 := ⟨wd_623, wd_2, ⟨by decide +kernel, by decide +kernel⟩, by decide +kernel⟩
theorem gyUL_value : bz_Gy yUL_value prog_7_method_3_code 5 (some .int) 3 := ⟨wd_617, wd_7, ⟨by decide +kernel, by decide +kernel⟩, by decide +kernel⟩
theorem gyUS_dealingDay : bz_Gy yUS_dealingDay prog_9_method_8_code 5 (some .int) 3 := ⟨wd_612, wd_2, ⟨by decide +kernel, by decide +kernel⟩, by decide +kernel⟩
theorem gyUD_add : bz_Gy yUD_add prog_6_method_2_code 6 (some .int) 4 := ⟨wd_627, wd_6, ⟨by decide +kernel, by decide +kernel⟩, by decide +kernel⟩
theorem gyUX_append : bz_Gy yUX_append prog_11_method_2_code 3 none 1 := ⟨wd_636, wd_9, ⟨by decide +kernel, by decide +kernel⟩, by decide +kernel⟩
theorem gyJA_fill1 : bz_Gy yJA_fill1 prog_21_method_103_code 4 none 2 := ⟨wd_210, wd_8, ⟨by decide +kernel, by decide +kernel⟩, by decide +kernel⟩
theorem gyUX_kindAt : bz_Gy yUX_kindAt prog_11_method_12_code 3 (some .int) 1 := ⟨wd_662, wd_9, ⟨by decide +kernel, by decide +kernel⟩, by decide +kernel⟩
theorem gyJM_min0 : bz_Gy yJM_min0 prog_16_method_69_code 2 (some .int) 2 := ⟨wd_666, wd_15, ⟨by decide +kernel, by decide +kernel⟩, by decide +kernel⟩
theorem gyUX_next : bz_Gy yUX_next prog_11_method_11_code 2 none 0 := ⟨wd_658, wd_9, ⟨by decide +kernel, by decide +kernel⟩, by decide +kernel⟩
theorem gyU_isBooked : bz_Gy yU_isBooked prog_1_method_43_code 3 (some .boolean) 2 := ⟨wd_909, wd_1, ⟨by decide +kernel, by decide +kernel⟩, by decide +kernel⟩
theorem gyU_slot : bz_Gy yU_slot prog_1_method_46_code 2 (some .int) 2 := ⟨wd_858, wd_1, ⟨by decide +kernel, by decide +kernel⟩, by decide +kernel⟩
theorem gyUS_latestKnown : bz_Gy yUS_latestKnown prog_9_method_9_code 1 (some .int) 0 := ⟨wd_918, wd_2, ⟨by decide +kernel, by decide +kernel⟩, by decide +kernel⟩
theorem gyJM_min1 : bz_Gy yJM_min1 prog_16_method_70_code 4 (some .long) 2 := ⟨wd_839, wd_15, ⟨by decide +kernel, by decide +kernel⟩, by decide +kernel⟩
theorem gyJM_max1 : bz_Gy yJM_max1 prog_16_method_66_code 4 (some .long) 2 := ⟨wd_842, wd_15, ⟨by decide +kernel, by decide +kernel⟩, by decide +kernel⟩
theorem gyU_told : bz_Gy yU_told prog_1_method_47_code 2 (some .int) 1 := ⟨wd_926, wd_1, ⟨by decide +kernel, by decide +kernel⟩, by decide +kernel⟩
theorem gyUA_add : bz_Gy yUA_add prog_2_method_2_code 4 (some .int) 3 := ⟨wd_1042, wd_13, ⟨by decide +kernel, by decide +kernel⟩, by decide +kernel⟩
theorem gyJI_bitCount : bz_Gy yJI_bitCount prog_15_method_49_code 1 (some .int) 1 := ⟨wd_1061, wd_21, ⟨by decide +kernel, by decide +kernel⟩, by decide +kernel⟩
theorem gyJM_max0 : bz_Gy yJM_max0 prog_16_method_65_code 2 (some .int) 2 := ⟨wd_901, wd_15, ⟨by decide +kernel, by decide +kernel⟩, by decide +kernel⟩
theorem gyJM_abs0 : bz_Gy yJM_abs0 prog_16_method_59_code 1 (some .int) 1 := ⟨wd_951, wd_15, ⟨by decide +kernel, by decide +kernel⟩, by decide +kernel⟩
theorem gyUS_isParty : bz_Gy yUS_isParty prog_9_method_5_code 2 (some .boolean) 1 := ⟨wd_1105, wd_2, ⟨by decide +kernel, by decide +kernel⟩, by decide +kernel⟩
theorem gyM_in : bz_Gy yM_in prog_14_method_2_code 6 (some .boolean) 3 := ⟨wd_1415, wd_14, ⟨by decide +kernel, by decide +kernel⟩, by decide +kernel⟩
theorem gyM_isOpen : bz_Gy yM_isOpen prog_14_method_6_code 2 (some .boolean) 1 := ⟨wd_1423, wd_14, ⟨by decide +kernel, by decide +kernel⟩, by decide +kernel⟩
theorem gyM_isSubject : bz_Gy yM_isSubject prog_14_method_9_code 2 (some .boolean) 2 := ⟨wd_1433, wd_14, ⟨by decide +kernel, by decide +kernel⟩, by decide +kernel⟩
theorem gyM_canTell : bz_Gy yM_canTell prog_14_method_10_code 4 (some .boolean) 4 := ⟨wd_1430, wd_14, ⟨by decide +kernel, by decide +kernel⟩, by decide +kernel⟩
theorem gyM_known0 : bz_Gy yM_known0 prog_14_method_5_code 1 (some .int) 0 := ⟨wd_1448, wd_14, ⟨by decide +kernel, by decide +kernel⟩, by decide +kernel⟩
theorem gyM_lays : bz_Gy yM_lays prog_14_method_11_code 5 none 4 := ⟨wd_1444, wd_14, ⟨by decide +kernel, by decide +kernel⟩, by decide +kernel⟩
theorem gyM_telling : bz_Gy yM_telling prog_14_method_13_code 7 (some .int) 4 := ⟨wd_1457, wd_14, ⟨by decide +kernel, by decide +kernel⟩, by decide +kernel⟩
theorem gyM_plain : bz_Gy yM_plain prog_14_method_14_code 1 (some .int) 1 := ⟨wd_1460, wd_14, ⟨by decide +kernel, by decide +kernel⟩, by decide +kernel⟩
theorem gyM_isFund : bz_Gy yM_isFund prog_14_method_18_code 2 (some .boolean) 1 := ⟨wd_1487, wd_14, ⟨by decide +kernel, by decide +kernel⟩, by decide +kernel⟩
theorem gyM_placeOf : bz_Gy yM_placeOf prog_14_method_21_code 2 (some .int) 1 := ⟨wd_1497, wd_14, ⟨by decide +kernel, by decide +kernel⟩, by decide +kernel⟩
theorem gyM_ruleOf : bz_Gy yM_ruleOf prog_14_method_44_code 6 (some .int) 3 := ⟨wd_1502, wd_14, ⟨by decide +kernel, by decide +kernel⟩, by decide +kernel⟩
theorem gyM_feeds0 : bz_Gy yM_feeds0 prog_14_method_24_code 3 none 1 := ⟨wd_1510, wd_14, ⟨by decide +kernel, by decide +kernel⟩, by decide +kernel⟩
theorem gyM_skips : bz_Gy yM_skips prog_14_method_28_code 1 none 0 := ⟨wd_1530, wd_14, ⟨by decide +kernel, by decide +kernel⟩, by decide +kernel⟩
theorem gyM_isLetter : bz_Gy yM_isLetter prog_14_method_29_code 1 (some .boolean) 1 := ⟨wd_1545, wd_14, ⟨by decide +kernel, by decide +kernel⟩, by decide +kernel⟩
theorem gyM_wordEnd : bz_Gy yM_wordEnd prog_14_method_31_code 2 (some .int) 0 := ⟨wd_1542, wd_14, ⟨by decide +kernel, by decide +kernel⟩, by decide +kernel⟩
theorem gyM_carries : bz_Gy yM_carries prog_14_method_46_code 6 none 3 := ⟨wd_1630, wd_14, ⟨by decide +kernel, by decide +kernel⟩, by decide +kernel⟩
theorem gyM_knows : bz_Gy yM_knows prog_14_method_47_code 3 none 1 := ⟨wd_1626, wd_14, ⟨by decide +kernel, by decide +kernel⟩, by decide +kernel⟩
theorem gyM_begins : bz_Gy yM_begins prog_14_method_48_code 3 none 0 := ⟨wd_1634, wd_14, ⟨by decide +kernel, by decide +kernel⟩, by decide +kernel⟩
theorem gyM_near : bz_Gy yM_near prog_14_method_3_code 6 (some .long) 3 := ⟨wd_1560, wd_14, ⟨by decide +kernel, by decide +kernel⟩, by decide +kernel⟩
theorem gyM_papers : bz_Gy yM_papers prog_14_method_49_code 4 none 2 := ⟨wd_1642, wd_14, ⟨by decide +kernel, by decide +kernel⟩, by decide +kernel⟩
theorem gyM_feeds1 : bz_Gy yM_feeds1 prog_14_method_50_code 4 none 2 := ⟨wd_1648, wd_14, ⟨by decide +kernel, by decide +kernel⟩, by decide +kernel⟩
theorem gyM_assets : bz_Gy yM_assets prog_14_method_51_code 6 (some .long) 2 := ⟨wd_1656, wd_14, ⟨by decide +kernel, by decide +kernel⟩, by decide +kernel⟩
theorem gyM_dealtOf : bz_Gy yM_dealtOf prog_14_method_52_code 5 (some .long) 3 := ⟨wd_1665, wd_14, ⟨by decide +kernel, by decide +kernel⟩, by decide +kernel⟩
theorem gyM_flow : bz_Gy yM_flow prog_14_method_53_code 9 (some .long) 3 := ⟨wd_1661, wd_14, ⟨by decide +kernel, by decide +kernel⟩, by decide +kernel⟩
theorem gyM_swung : bz_Gy yM_swung prog_14_method_54_code 11 (some .long) 4 := ⟨wd_1669, wd_14, ⟨by decide +kernel, by decide +kernel⟩, by decide +kernel⟩
theorem gyM_prices : bz_Gy yM_prices prog_14_method_55_code 10 none 3 := ⟨wd_1652, wd_14, ⟨by decide +kernel, by decide +kernel⟩, by decide +kernel⟩
theorem gyM_deals : bz_Gy yM_deals prog_14_method_56_code 8 none 4 := ⟨wd_1673, wd_14, ⟨by decide +kernel, by decide +kernel⟩, by decide +kernel⟩
theorem gyM_goesThrough : bz_Gy yM_goesThrough prog_14_method_57_code 7 none 3 := ⟨wd_1638, wd_14, ⟨by decide +kernel, by decide +kernel⟩, by decide +kernel⟩
theorem gyM_through : bz_Gy yM_through prog_14_method_58_code 5 none 3 := ⟨wd_1622, wd_14, ⟨by decide +kernel, by decide +kernel⟩, by decide +kernel⟩
theorem gyM_books : bz_Gy yM_books prog_14_method_59_code 2 none 0 := ⟨wd_1618, wd_14, ⟨by decide +kernel, by decide +kernel⟩, by decide +kernel⟩
theorem gyM_isOver : bz_Gy yM_isOver prog_14_method_61_code 3 (some .boolean) 2 := ⟨wd_1682, wd_14, ⟨by decide +kernel, by decide +kernel⟩, by decide +kernel⟩
theorem gyM_told : bz_Gy yM_told prog_14_method_4_code 2 (some .int) 1 := ⟨wd_1685, wd_14, ⟨by decide +kernel, by decide +kernel⟩, by decide +kernel⟩
theorem gyM_lastOver : bz_Gy yM_lastOver prog_14_method_67_code 2 (some .int) 1 := ⟨wd_1706, wd_14, ⟨by decide +kernel, by decide +kernel⟩, by decide +kernel⟩
theorem gyM_counts : bz_Gy yM_counts prog_14_method_66_code 6 (some .boolean) 3 := ⟨wd_1710, wd_14, ⟨by decide +kernel, by decide +kernel⟩, by decide +kernel⟩
theorem gyM_canHold : bz_Gy yM_canHold prog_14_method_69_code 3 (some .boolean) 2 := ⟨wd_1718, wd_14, ⟨by decide +kernel, by decide +kernel⟩, by decide +kernel⟩
theorem gyM_isKnownDay : bz_Gy yM_isKnownDay prog_14_method_76_code 2 (some .boolean) 1 := ⟨wd_1726, wd_14, ⟨by decide +kernel, by decide +kernel⟩, by decide +kernel⟩
theorem gyM_sums : bz_Gy yM_sums prog_14_method_71_code 7 none 3 := ⟨wd_1738, wd_14, ⟨by decide +kernel, by decide +kernel⟩, by decide +kernel⟩
theorem gyM_isToParty : bz_Gy yM_isToParty prog_14_method_72_code 3 (some .boolean) 2 := ⟨wd_1746, wd_14, ⟨by decide +kernel, by decide +kernel⟩, by decide +kernel⟩
theorem gyM_judges : bz_Gy yM_judges prog_14_method_73_code 6 none 3 := ⟨wd_1742, wd_14, ⟨by decide +kernel, by decide +kernel⟩, by decide +kernel⟩
theorem gyM_asks0 : bz_Gy yM_asks0 prog_14_method_74_code 5 none 3 := ⟨wd_1734, wd_14, ⟨by decide +kernel, by decide +kernel⟩, by decide +kernel⟩
theorem gyM_asks1 : bz_Gy yM_asks1 prog_14_method_75_code 3 none 2 := ⟨wd_1730, wd_14, ⟨by decide +kernel, by decide +kernel⟩, by decide +kernel⟩
theorem gyM_goesTo : bz_Gy yM_goesTo prog_14_method_78_code 4 (some .int) 3 := ⟨wd_1758, wd_14, ⟨by decide +kernel, by decide +kernel⟩, by decide +kernel⟩
theorem gyM_houseOwes : bz_Gy yM_houseOwes prog_14_method_79_code 8 (some .long) 2 := ⟨wd_1754, wd_14, ⟨by decide +kernel, by decide +kernel⟩, by decide +kernel⟩
theorem gyM_taxOf : bz_Gy yM_taxOf prog_14_method_82_code 13 (some .long) 2 := ⟨wd_1770, wd_14, ⟨by decide +kernel, by decide +kernel⟩, by decide +kernel⟩
theorem gyM_many : bz_Gy yM_many prog_14_method_91_code 3 (some .int) 1 := ⟨wd_1805, wd_14, ⟨by decide +kernel, by decide +kernel⟩, by decide +kernel⟩
theorem gyM_explains : bz_Gy yM_explains prog_14_method_90_code 5 (some .boolean) 1 := ⟨wd_1809, wd_14, ⟨by decide +kernel, by decide +kernel⟩, by decide +kernel⟩
theorem gyM_searches : bz_Gy yM_searches prog_14_method_92_code 3 none 0 := ⟨wd_1802, wd_14, ⟨by decide +kernel, by decide +kernel⟩, by decide +kernel⟩
theorem gyM_balances : bz_Gy yM_balances prog_14_method_97_code 7 none 1 := ⟨wd_1830, wd_14, ⟨by decide +kernel, by decide +kernel⟩, by decide +kernel⟩
theorem gyM_mosts : bz_Gy yM_mosts prog_14_method_101_code 4 none 1 := ⟨wd_1842, wd_14, ⟨by decide +kernel, by decide +kernel⟩, by decide +kernel⟩
theorem gyM_picks : bz_Gy yM_picks prog_14_method_102_code 4 none 0 := ⟨wd_1846, wd_14, ⟨by decide +kernel, by decide +kernel⟩, by decide +kernel⟩
theorem gyM_settles : bz_Gy yM_settles prog_14_method_100_code 4 (some .boolean) 1 := ⟨wd_1838, wd_14, ⟨by decide +kernel, by decide +kernel⟩, by decide +kernel⟩
theorem gyM_nameOf : bz_Gy yM_nameOf prog_14_method_98_code 1 (some .int) 1 := ⟨wd_1856, wd_14, ⟨by decide +kernel, by decide +kernel⟩, by decide +kernel⟩
theorem gyM_paid : bz_Gy yM_paid prog_14_method_105_code 5 (some .int) 4 := ⟨wd_1853, wd_14, ⟨by decide +kernel, by decide +kernel⟩, by decide +kernel⟩
theorem gv_US_isOpen_1 : bz_Gv yUS_isOpen 1 := ⟨wd_542, bz_in 543 (by decide +kernel) rfl, 7, 18, rt_7, _, rfl, sh_1⟩
theorem gv_UB_add_9 : bz_Gv yUB_add 9 := ⟨wd_564, bz_in 565 (by decide +kernel) rfl, 1, 3, rt_1, _, rfl, sh_9⟩
theorem gv_UTe_add_8 : bz_Gv yUTe_add 8 := ⟨wd_560, bz_in 561 (by decide +kernel) rfl, 8, 5, rt_8, _, rfl, sh_8⟩
theorem gv_UTe_latest_8 : bz_Gv yUTe_latest 8 := ⟨wd_573, bz_in 574 (by decide +kernel) rfl, 8, 5, rt_8, _, rfl, sh_8⟩
theorem gv_US_isFund_1 : bz_Gv yUS_isFund 1 := ⟨wd_585, bz_in 586 (by decide +kernel) rfl, 7, 18, rt_7, _, rfl, sh_1⟩
theorem gv_UB_add_25 : bz_Gv yUB_add 25 := ⟨wd_564, bz_in 565 (by decide +kernel) rfl, 1, 3, rt_1, _, rfl, sh_25⟩
theorem gv_UTr_add_24 : bz_Gv yUTr_add 24 := ⟨wd_592, bz_in 593 (by decide +kernel) rfl, 10, 6, rt_10, _, rfl, sh_24⟩
theorem gv_US_isHolder_1 : bz_Gv yUS_isHolder 1 := ⟨wd_606, bz_in 607 (by decide +kernel) rfl, 7, 18, rt_7, _, rfl, sh_1⟩
theorem gv_US_isWho_1 : bz_Gv yUS_isWho 1 := ⟨wd_601, bz_in 602 (by decide +kernel) rfl, 7, 18, rt_7, _, rfl, sh_1⟩
theorem gv_US_openBehind_1 : bz_Gv yUS_openBehind 1 := ⟨wd_621, bz_in 622 (by decide +kernel) rfl, 7, 18, rt_7, _, rfl, sh_1⟩
theorem gv_UL_value_45 : bz_Gv yUL_value 45 := ⟨wd_615, bz_in 616 (by decide +kernel) rfl, 5, 3, rt_5, _, rfl, sh_45⟩
theorem gv_US_dealingDay_1 : bz_Gv yUS_dealingDay 1 := ⟨wd_610, bz_in 611 (by decide +kernel) rfl, 7, 18, rt_7, _, rfl, sh_1⟩
theorem gv_UB_add_34 : bz_Gv yUB_add 34 := ⟨wd_564, bz_in 565 (by decide +kernel) rfl, 1, 3, rt_1, _, rfl, sh_34⟩
theorem gv_UD_add_33 : bz_Gv yUD_add 33 := ⟨wd_625, bz_in 626 (by decide +kernel) rfl, 4, 9, rt_4, _, rfl, sh_33⟩
theorem gv_UX_append_50 : bz_Gv yUX_append 50 := ⟨wd_634, bz_in 635 (by decide +kernel) rfl, 9, 8, rt_9, _, rfl, sh_50⟩
theorem gv_UX_kindAt_50 : bz_Gv yUX_kindAt 50 := ⟨wd_661, List.mem_append_left _ (List.mem_map.mpr ⟨(yUX_kindAt, 8), by decide +kernel, rfl⟩), 9, 8, rt_9, _, rfl, sh_50⟩
theorem gv_UX_next_50 : bz_Gv yUX_next 50 := ⟨wd_657, List.mem_append_left _ (List.mem_map.mpr ⟨(yUX_next, 8), by decide +kernel, rfl⟩), 9, 8, rt_9, _, rfl, sh_50⟩
theorem gv_U_isBooked_0 : bz_Gv yU_isBooked 0 := ⟨wd_908, List.mem_append_left _ (List.mem_map.mpr ⟨(yU_isBooked, 6), by decide +kernel, rfl⟩), 11, 6, rt_11, _, rfl, sh_0⟩
theorem gv_US_latestKnown_1 : bz_Gv yUS_latestKnown 1 := ⟨wd_916, bz_in 917 (by decide +kernel) rfl, 7, 18, rt_7, _, rfl, sh_1⟩
theorem gv_UA_add_77 : bz_Gv yUA_add 77 := ⟨wd_1040, bz_in 1041 (by decide +kernel) rfl, 0, 8, rt_0, _, rfl, sh_77⟩
theorem gv_UB_add_17 : bz_Gv yUB_add 17 := ⟨wd_564, bz_in 565 (by decide +kernel) rfl, 1, 3, rt_1, _, rfl, sh_17⟩
theorem gv_UTe_add_16 : bz_Gv yUTe_add 16 := ⟨wd_560, bz_in 561 (by decide +kernel) rfl, 8, 5, rt_8, _, rfl, sh_16⟩
theorem gv_US_isParty_1 : bz_Gv yUS_isParty 1 := ⟨wd_1103, bz_in 1104 (by decide +kernel) rfl, 7, 18, rt_7, _, rfl, sh_1⟩
theorem gv_M_isOpen_81 : bz_Gv yM_isOpen 81 := ⟨wd_1422, List.mem_append_left _ (List.mem_map.mpr ⟨(yM_isOpen, 79), by decide +kernel, rfl⟩), 12, 79, rt_12, _, rfl, sh_81⟩
theorem gv_M_known0_81 : bz_Gv yM_known0 81 := ⟨wd_1447, List.mem_append_left _ (List.mem_map.mpr ⟨(yM_known0, 79), by decide +kernel, rfl⟩), 12, 79, rt_12, _, rfl, sh_81⟩
theorem gv_M_lays_81 : bz_Gv yM_lays 81 := ⟨wd_1443, List.mem_append_left _ (List.mem_map.mpr ⟨(yM_lays, 79), by decide +kernel, rfl⟩), 12, 79, rt_12, _, rfl, sh_81⟩
theorem gv_M_telling_81 : bz_Gv yM_telling 81 := ⟨wd_1456, List.mem_append_left _ (List.mem_map.mpr ⟨(yM_telling, 79), by decide +kernel, rfl⟩), 12, 79, rt_12, _, rfl, sh_81⟩
theorem gv_M_isFund_81 : bz_Gv yM_isFund 81 := ⟨wd_1486, List.mem_append_left _ (List.mem_map.mpr ⟨(yM_isFund, 79), by decide +kernel, rfl⟩), 12, 79, rt_12, _, rfl, sh_81⟩
theorem gv_M_placeOf_81 : bz_Gv yM_placeOf 81 := ⟨wd_1496, List.mem_append_left _ (List.mem_map.mpr ⟨(yM_placeOf, 79), by decide +kernel, rfl⟩), 12, 79, rt_12, _, rfl, sh_81⟩
theorem gv_M_ruleOf_81 : bz_Gv yM_ruleOf 81 := ⟨wd_1501, List.mem_append_left _ (List.mem_map.mpr ⟨(yM_ruleOf, 79), by decide +kernel, rfl⟩), 12, 79, rt_12, _, rfl, sh_81⟩
theorem gv_M_feeds0_81 : bz_Gv yM_feeds0 81 := ⟨wd_1509, List.mem_append_left _ (List.mem_map.mpr ⟨(yM_feeds0, 79), by decide +kernel, rfl⟩), 12, 79, rt_12, _, rfl, sh_81⟩
theorem gv_M_skips_81 : bz_Gv yM_skips 81 := ⟨wd_1529, List.mem_append_left _ (List.mem_map.mpr ⟨(yM_skips, 79), by decide +kernel, rfl⟩), 12, 79, rt_12, _, rfl, sh_81⟩
theorem gv_M_wordEnd_81 : bz_Gv yM_wordEnd 81 := ⟨wd_1541, List.mem_append_left _ (List.mem_map.mpr ⟨(yM_wordEnd, 79), by decide +kernel, rfl⟩), 12, 79, rt_12, _, rfl, sh_81⟩
theorem gv_M_carries_81 : bz_Gv yM_carries 81 := ⟨wd_1629, List.mem_append_left _ (List.mem_map.mpr ⟨(yM_carries, 79), by decide +kernel, rfl⟩), 12, 79, rt_12, _, rfl, sh_81⟩
theorem gv_M_knows_81 : bz_Gv yM_knows 81 := ⟨wd_1625, List.mem_append_left _ (List.mem_map.mpr ⟨(yM_knows, 79), by decide +kernel, rfl⟩), 12, 79, rt_12, _, rfl, sh_81⟩
theorem gv_M_begins_81 : bz_Gv yM_begins 81 := ⟨wd_1633, List.mem_append_left _ (List.mem_map.mpr ⟨(yM_begins, 79), by decide +kernel, rfl⟩), 12, 79, rt_12, _, rfl, sh_81⟩
theorem gv_M_papers_81 : bz_Gv yM_papers 81 := ⟨wd_1641, List.mem_append_left _ (List.mem_map.mpr ⟨(yM_papers, 79), by decide +kernel, rfl⟩), 12, 79, rt_12, _, rfl, sh_81⟩
theorem gv_M_feeds1_81 : bz_Gv yM_feeds1 81 := ⟨wd_1647, List.mem_append_left _ (List.mem_map.mpr ⟨(yM_feeds1, 79), by decide +kernel, rfl⟩), 12, 79, rt_12, _, rfl, sh_81⟩
theorem gv_M_assets_81 : bz_Gv yM_assets 81 := ⟨wd_1655, List.mem_append_left _ (List.mem_map.mpr ⟨(yM_assets, 79), by decide +kernel, rfl⟩), 12, 79, rt_12, _, rfl, sh_81⟩
theorem gv_M_dealtOf_81 : bz_Gv yM_dealtOf 81 := ⟨wd_1664, List.mem_append_left _ (List.mem_map.mpr ⟨(yM_dealtOf, 79), by decide +kernel, rfl⟩), 12, 79, rt_12, _, rfl, sh_81⟩
theorem gv_M_flow_81 : bz_Gv yM_flow 81 := ⟨wd_1660, List.mem_append_left _ (List.mem_map.mpr ⟨(yM_flow, 79), by decide +kernel, rfl⟩), 12, 79, rt_12, _, rfl, sh_81⟩
theorem gv_M_swung_81 : bz_Gv yM_swung 81 := ⟨wd_1668, List.mem_append_left _ (List.mem_map.mpr ⟨(yM_swung, 79), by decide +kernel, rfl⟩), 12, 79, rt_12, _, rfl, sh_81⟩
theorem gv_M_prices_81 : bz_Gv yM_prices 81 := ⟨wd_1651, List.mem_append_left _ (List.mem_map.mpr ⟨(yM_prices, 79), by decide +kernel, rfl⟩), 12, 79, rt_12, _, rfl, sh_81⟩
theorem gv_M_deals_81 : bz_Gv yM_deals 81 := ⟨wd_1672, List.mem_append_left _ (List.mem_map.mpr ⟨(yM_deals, 79), by decide +kernel, rfl⟩), 12, 79, rt_12, _, rfl, sh_81⟩
theorem gv_M_goesThrough_81 : bz_Gv yM_goesThrough 81 := ⟨wd_1637, List.mem_append_left _ (List.mem_map.mpr ⟨(yM_goesThrough, 79), by decide +kernel, rfl⟩), 12, 79, rt_12, _, rfl, sh_81⟩
theorem gv_M_through_81 : bz_Gv yM_through 81 := ⟨wd_1621, List.mem_append_left _ (List.mem_map.mpr ⟨(yM_through, 79), by decide +kernel, rfl⟩), 12, 79, rt_12, _, rfl, sh_81⟩
theorem gv_M_books_81 : bz_Gv yM_books 81 := ⟨wd_1617, List.mem_append_left _ (List.mem_map.mpr ⟨(yM_books, 79), by decide +kernel, rfl⟩), 12, 79, rt_12, _, rfl, sh_81⟩
theorem gv_M_isOver_81 : bz_Gv yM_isOver 81 := ⟨wd_1681, List.mem_append_left _ (List.mem_map.mpr ⟨(yM_isOver, 79), by decide +kernel, rfl⟩), 12, 79, rt_12, _, rfl, sh_81⟩
theorem gv_M_lastOver_81 : bz_Gv yM_lastOver 81 := ⟨wd_1705, List.mem_append_left _ (List.mem_map.mpr ⟨(yM_lastOver, 79), by decide +kernel, rfl⟩), 12, 79, rt_12, _, rfl, sh_81⟩
theorem gv_M_counts_81 : bz_Gv yM_counts 81 := ⟨wd_1709, List.mem_append_left _ (List.mem_map.mpr ⟨(yM_counts, 79), by decide +kernel, rfl⟩), 12, 79, rt_12, _, rfl, sh_81⟩
theorem gv_M_canHold_81 : bz_Gv yM_canHold 81 := ⟨wd_1717, List.mem_append_left _ (List.mem_map.mpr ⟨(yM_canHold, 79), by decide +kernel, rfl⟩), 12, 79, rt_12, _, rfl, sh_81⟩
theorem gv_M_isKnownDay_81 : bz_Gv yM_isKnownDay 81 := ⟨wd_1725, List.mem_append_left _ (List.mem_map.mpr ⟨(yM_isKnownDay, 79), by decide +kernel, rfl⟩), 12, 79, rt_12, _, rfl, sh_81⟩
theorem gv_M_sums_81 : bz_Gv yM_sums 81 := ⟨wd_1737, List.mem_append_left _ (List.mem_map.mpr ⟨(yM_sums, 79), by decide +kernel, rfl⟩), 12, 79, rt_12, _, rfl, sh_81⟩
theorem gv_M_isToParty_81 : bz_Gv yM_isToParty 81 := ⟨wd_1745, List.mem_append_left _ (List.mem_map.mpr ⟨(yM_isToParty, 79), by decide +kernel, rfl⟩), 12, 79, rt_12, _, rfl, sh_81⟩
theorem gv_M_judges_81 : bz_Gv yM_judges 81 := ⟨wd_1741, List.mem_append_left _ (List.mem_map.mpr ⟨(yM_judges, 79), by decide +kernel, rfl⟩), 12, 79, rt_12, _, rfl, sh_81⟩
theorem gv_M_asks0_81 : bz_Gv yM_asks0 81 := ⟨wd_1733, List.mem_append_left _ (List.mem_map.mpr ⟨(yM_asks0, 79), by decide +kernel, rfl⟩), 12, 79, rt_12, _, rfl, sh_81⟩
theorem gv_M_asks1_81 : bz_Gv yM_asks1 81 := ⟨wd_1729, List.mem_append_left _ (List.mem_map.mpr ⟨(yM_asks1, 79), by decide +kernel, rfl⟩), 12, 79, rt_12, _, rfl, sh_81⟩
theorem gv_M_goesTo_81 : bz_Gv yM_goesTo 81 := ⟨wd_1757, List.mem_append_left _ (List.mem_map.mpr ⟨(yM_goesTo, 79), by decide +kernel, rfl⟩), 12, 79, rt_12, _, rfl, sh_81⟩
theorem gv_M_houseOwes_81 : bz_Gv yM_houseOwes 81 := ⟨wd_1753, List.mem_append_left _ (List.mem_map.mpr ⟨(yM_houseOwes, 79), by decide +kernel, rfl⟩), 12, 79, rt_12, _, rfl, sh_81⟩
theorem gv_M_taxOf_81 : bz_Gv yM_taxOf 81 := ⟨wd_1769, List.mem_append_left _ (List.mem_map.mpr ⟨(yM_taxOf, 79), by decide +kernel, rfl⟩), 12, 79, rt_12, _, rfl, sh_81⟩
theorem gv_M_explains_81 : bz_Gv yM_explains 81 := ⟨wd_1808, List.mem_append_left _ (List.mem_map.mpr ⟨(yM_explains, 79), by decide +kernel, rfl⟩), 12, 79, rt_12, _, rfl, sh_81⟩
theorem gv_M_searches_81 : bz_Gv yM_searches 81 := ⟨wd_1801, List.mem_append_left _ (List.mem_map.mpr ⟨(yM_searches, 79), by decide +kernel, rfl⟩), 12, 79, rt_12, _, rfl, sh_81⟩
theorem gv_M_balances_81 : bz_Gv yM_balances 81 := ⟨wd_1829, List.mem_append_left _ (List.mem_map.mpr ⟨(yM_balances, 79), by decide +kernel, rfl⟩), 12, 79, rt_12, _, rfl, sh_81⟩
theorem gv_M_mosts_81 : bz_Gv yM_mosts 81 := ⟨wd_1841, List.mem_append_left _ (List.mem_map.mpr ⟨(yM_mosts, 79), by decide +kernel, rfl⟩), 12, 79, rt_12, _, rfl, sh_81⟩
theorem gv_M_picks_81 : bz_Gv yM_picks 81 := ⟨wd_1845, List.mem_append_left _ (List.mem_map.mpr ⟨(yM_picks, 79), by decide +kernel, rfl⟩), 12, 79, rt_12, _, rfl, sh_81⟩
theorem gv_M_settles_81 : bz_Gv yM_settles 81 := ⟨wd_1837, List.mem_append_left _ (List.mem_map.mpr ⟨(yM_settles, 79), by decide +kernel, rfl⟩), 12, 79, rt_12, _, rfl, sh_81⟩
