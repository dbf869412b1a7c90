abbrev bz_Mm : Type := Nat → Nat → Int
abbrev bz_Sh : Type := (Nat × Nat × Nat) ⊕ (Nat × List (Nat × Nat))
def rc_0 : String := "UnitsWrong$Audits"
def rt_0 : u_T := fun k => match k with
  | 0 => ("UnitsWrong$Audits", "fund", "[I", true)
  | 1 => ("UnitsWrong$Audits", "day", "[I", true)
  | 2 => ("UnitsWrong$Audits", "price", "[I", true)
  | 3 => ("UnitsWrong$Audits", "size", "I", false)
  | 4 => ("UnitsWrong$Audits", "searched", "Z", false)
  | 5 => ("UnitsWrong$Audits", "least", "I", false)
  | 6 => ("UnitsWrong$Audits", "rivals", "I", false)
  | _ => ("UnitsWrong$Audits", "searchedChanges", "I", false)
def ry_0 : Nat → FieldType := fun k => match k with
  | 0 => .array .int
  | 1 => .array .int
  | 2 => .array .int
  | 3 => .int
  | 4 => .boolean
  | 5 => .int
  | 6 => .int
  | _ => .int
theorem rn_0 : ∀ a, a < 8 → ∀ b, b < 8 → a ≠ b → (rt_0 a).2.1 ≠ (rt_0 b).2.1 := by decide +kernel
theorem rk_0 : ∀ k, k < 8 → parseFieldDescriptor (rt_0 k).2.2.1 = some (ry_0 k) := by decide +kernel
def rc_1 : String := "UnitsWrong$ByDay"
def rt_1 : u_T := fun k => match k with
  | 0 => ("UnitsWrong$ByDay", "day", "[I", true)
  | 1 => ("UnitsWrong$ByDay", "order", "[I", true)
  | _ => ("UnitsWrong$ByDay", "size", "I", false)
def ry_1 : Nat → FieldType := fun k => match k with
  | 0 => .array .int
  | 1 => .array .int
  | _ => .int
theorem rn_1 : ∀ a, a < 3 → ∀ b, b < 3 → a ≠ b → (rt_1 a).2.1 ≠ (rt_1 b).2.1 := by decide +kernel
theorem rk_1 : ∀ k, k < 3 → parseFieldDescriptor (rt_1 k).2.2.1 = some (ry_1 k) := by decide +kernel
def rc_2 : String := "UnitsWrong$Claims"
def rt_2 : u_T := fun k => match k with
  | 0 => ("UnitsWrong$Claims", "lost", "[J", true)
  | 1 => ("UnitsWrong$Claims", "gained", "[J", true)
  | 2 => ("UnitsWrong$Claims", "balances", "[J", true)
  | 3 => ("UnitsWrong$Claims", "fund", "I", false)
  | _ => ("UnitsWrong$Claims", "knownOn", "I", false)
def ry_2 : Nat → FieldType := fun k => match k with
  | 0 => .array .long
  | 1 => .array .long
  | 2 => .array .long
  | 3 => .int
  | _ => .int
theorem rn_2 : ∀ a, a < 5 → ∀ b, b < 5 → a ≠ b → (rt_2 a).2.1 ≠ (rt_2 b).2.1 := by decide +kernel
theorem rk_2 : ∀ k, k < 5 → parseFieldDescriptor (rt_2 k).2.2.1 = some (ry_2 k) := by decide +kernel
def rc_3 : String := "UnitsWrong$Course"
def rt_3 : u_T := fun k => match k with
  | 0 => ("UnitsWrong$Course", "bookedCash", "[J", true)
  | 1 => ("UnitsWrong$Course", "rightCash", "[J", true)
  | 2 => ("UnitsWrong$Course", "rightPrice", "[I", true)
  | 3 => ("UnitsWrong$Course", "rightFee", "[J", true)
  | 4 => ("UnitsWrong$Course", "pieces", "[I", true)
  | 5 => ("UnitsWrong$Course", "held", "[I", true)
  | 6 => ("UnitsWrong$Course", "all", "[I", true)
  | 7 => ("UnitsWrong$Course", "price", "[I", true)
  | 8 => ("UnitsWrong$Course", "rate", "[I", true)
  | 9 => ("UnitsWrong$Course", "dividend", "[I", true)
  | 10 => ("UnitsWrong$Course", "split", "[I", true)
  | 11 => ("UnitsWrong$Course", "withDividends", "Z", false)
  | 12 => ("UnitsWrong$Course", "withSplits", "Z", false)
  | 13 => ("UnitsWrong$Course", "nextTelling", "I", false)
  | 14 => ("UnitsWrong$Course", "nextTrade", "I", false)
  | 15 => ("UnitsWrong$Course", "firstDeal", "I", false)
  | 16 => ("UnitsWrong$Course", "behindDeals", "I", false)
  | 17 => ("UnitsWrong$Course", "walkedTo", "I", false)
  | _ => ("UnitsWrong$Course", "walkedChanges", "I", false)
def ry_3 : Nat → FieldType := fun k => match k with
  | 0 => .array .long
  | 1 => .array .long
  | 2 => .array .int
  | 3 => .array .long
  | 4 => .array .int
  | 5 => .array .int
  | 6 => .array .int
  | 7 => .array .int
  | 8 => .array .int
  | 9 => .array .int
  | 10 => .array .int
  | 11 => .boolean
  | 12 => .boolean
  | 13 => .int
  | 14 => .int
  | 15 => .int
  | 16 => .int
  | 17 => .int
  | _ => .int
theorem rn_3 : ∀ a, a < 19 → ∀ b, b < 19 → a ≠ b → (rt_3 a).2.1 ≠ (rt_3 b).2.1 := by decide +kernel
theorem rk_3 : ∀ k, k < 19 → parseFieldDescriptor (rt_3 k).2.2.1 = some (ry_3 k) := by decide +kernel
def rc_4 : String := "UnitsWrong$Deals"
def rt_4 : u_T := fun k => match k with
  | 0 => ("UnitsWrong$Deals", "byDay", "LUnitsWrong$ByDay;", true)
  | 1 => ("UnitsWrong$Deals", "who", "[I", true)
  | 2 => ("UnitsWrong$Deals", "fund", "[I", true)
  | 3 => ("UnitsWrong$Deals", "wish", "[I", true)
  | 4 => ("UnitsWrong$Deals", "units", "[I", true)
  | 5 => ("UnitsWrong$Deals", "booked", "[J", true)
  | 6 => ("UnitsWrong$Deals", "right", "[J", true)
  | 7 => ("UnitsWrong$Deals", "held", "[I", true)
  | _ => ("UnitsWrong$Deals", "all", "[I", true)
def ry_4 : Nat → FieldType := fun k => match k with
  | 0 => .object "UnitsWrong$ByDay"
  | 1 => .array .int
  | 2 => .array .int
  | 3 => .array .int
  | 4 => .array .int
  | 5 => .array .long
  | 6 => .array .long
  | 7 => .array .int
  | _ => .array .int
theorem rn_4 : ∀ a, a < 9 → ∀ b, b < 9 → a ≠ b → (rt_4 a).2.1 ≠ (rt_4 b).2.1 := by decide +kernel
theorem rk_4 : ∀ k, k < 9 → parseFieldDescriptor (rt_4 k).2.2.1 = some (ry_4 k) := by decide +kernel
def rc_5 : String := "UnitsWrong$Laws"
def rt_5 : u_T := fun k => match k with
  | 0 => ("UnitsWrong$Laws", "taken", "[I", true)
  | 1 => ("UnitsWrong$Laws", "rules", "[I", true)
  | _ => ("UnitsWrong$Laws", "size", "I", false)
def ry_5 : Nat → FieldType := fun k => match k with
  | 0 => .array .int
  | 1 => .array .int
  | _ => .int
theorem rn_5 : ∀ a, a < 3 → ∀ b, b < 3 → a ≠ b → (rt_5 a).2.1 ≠ (rt_5 b).2.1 := by decide +kernel
theorem rk_5 : ∀ k, k < 3 → parseFieldDescriptor (rt_5 k).2.2.1 = some (ry_5 k) := by decide +kernel
def rc_6 : String := "UnitsWrong$Settlement"
def rt_6 : u_T := fun k => match k with
  | 0 => ("UnitsWrong$Settlement", "payer", "[I", true)
  | 1 => ("UnitsWrong$Settlement", "getter", "[I", true)
  | 2 => ("UnitsWrong$Settlement", "amount", "[J", true)
  | 3 => ("UnitsWrong$Settlement", "size", "I", false)
  | 4 => ("UnitsWrong$Settlement", "party", "[I", true)
  | 5 => ("UnitsWrong$Settlement", "owned", "[J", true)
  | 6 => ("UnitsWrong$Settlement", "sums", "[J", true)
  | 7 => ("UnitsWrong$Settlement", "most", "[I", true)
  | _ => ("UnitsWrong$Settlement", "parties", "I", false)
def ry_6 : Nat → FieldType := fun k => match k with
  | 0 => .array .int
  | 1 => .array .int
  | 2 => .array .long
  | 3 => .int
  | 4 => .array .int
  | 5 => .array .long
  | 6 => .array .long
  | 7 => .array .int
  | _ => .int
theorem rn_6 : ∀ a, a < 9 → ∀ b, b < 9 → a ≠ b → (rt_6 a).2.1 ≠ (rt_6 b).2.1 := by decide +kernel
theorem rk_6 : ∀ k, k < 9 → parseFieldDescriptor (rt_6 k).2.2.1 = some (ry_6 k) := by decide +kernel
def rc_7 : String := "UnitsWrong$State"
def rt_7 : u_T := fun k => match k with
  | 0 => ("UnitsWrong$State", "startCash", "[J", true)
  | 1 => ("UnitsWrong$State", "foundDay", "[I", true)
  | 2 => ("UnitsWrong$State", "zone", "[I", true)
  | 3 => ("UnitsWrong$State", "goneDay", "[I", true)
  | 4 => ("UnitsWrong$State", "currency", "[I", true)
  | 5 => ("UnitsWrong$State", "holidays", "[Z", true)
  | 6 => ("UnitsWrong$State", "tellings", "LUnitsWrong$Tellings;", true)
  | 7 => ("UnitsWrong$State", "suspects", "LUnitsWrong$Tellings;", true)
  | 8 => ("UnitsWrong$State", "trades", "LUnitsWrong$Trades;", true)
  | 9 => ("UnitsWrong$State", "deals", "LUnitsWrong$Deals;", true)
  | 10 => ("UnitsWrong$State", "laws", "LUnitsWrong$Laws;", true)
  | 11 => ("UnitsWrong$State", "bookedPrice", "[I", true)
  | 12 => ("UnitsWrong$State", "bookedFee", "[J", true)
  | 13 => ("UnitsWrong$State", "now", "I", false)
  | 14 => ("UnitsWrong$State", "funds", "I", false)
  | 15 => ("UnitsWrong$State", "holders", "I", false)
  | 16 => ("UnitsWrong$State", "holidaysTold", "I", false)
  | _ => ("UnitsWrong$State", "changes", "I", false)
def ry_7 : Nat → FieldType := fun k => match k with
  | 0 => .array .long
  | 1 => .array .int
  | 2 => .array .int
  | 3 => .array .int
  | 4 => .array .int
  | 5 => .array .boolean
  | 6 => .object "UnitsWrong$Tellings"
  | 7 => .object "UnitsWrong$Tellings"
  | 8 => .object "UnitsWrong$Trades"
  | 9 => .object "UnitsWrong$Deals"
  | 10 => .object "UnitsWrong$Laws"
  | 11 => .array .int
  | 12 => .array .long
  | 13 => .int
  | 14 => .int
  | 15 => .int
  | 16 => .int
  | _ => .int
theorem rn_7 : ∀ a, a < 18 → ∀ b, b < 18 → a ≠ b → (rt_7 a).2.1 ≠ (rt_7 b).2.1 := by decide +kernel
theorem rk_7 : ∀ k, k < 18 → parseFieldDescriptor (rt_7 k).2.2.1 = some (ry_7 k) := by decide +kernel
def rc_8 : String := "UnitsWrong$Tellings"
def rt_8 : u_T := fun k => match k with
  | 0 => ("UnitsWrong$Tellings", "byDay", "LUnitsWrong$ByDay;", true)
  | 1 => ("UnitsWrong$Tellings", "subject", "[I", true)
  | 2 => ("UnitsWrong$Tellings", "number", "[I", true)
  | 3 => ("UnitsWrong$Tellings", "value", "[I", true)
  | _ => ("UnitsWrong$Tellings", "made", "[I", true)
def ry_8 : Nat → FieldType := fun k => match k with
  | 0 => .object "UnitsWrong$ByDay"
  | 1 => .array .int
  | 2 => .array .int
  | 3 => .array .int
  | _ => .array .int
theorem rn_8 : ∀ a, a < 5 → ∀ b, b < 5 → a ≠ b → (rt_8 a).2.1 ≠ (rt_8 b).2.1 := by decide +kernel
theorem rk_8 : ∀ k, k < 5 → parseFieldDescriptor (rt_8 k).2.2.1 = some (ry_8 k) := by decide +kernel
def rc_9 : String := "UnitsWrong$Text"
def rt_9 : u_T := fun k => match k with
  | 0 => ("UnitsWrong$Text", "bytes", "[I", true)
  | 1 => ("UnitsWrong$Text", "told", "[I", true)
  | 2 => ("UnitsWrong$Text", "length", "I", false)
  | 3 => ("UnitsWrong$Text", "kind", "I", false)
  | 4 => ("UnitsWrong$Text", "start", "I", false)
  | 5 => ("UnitsWrong$Text", "behind", "I", false)
  | 6 => ("UnitsWrong$Text", "number", "I", false)
  | _ => ("UnitsWrong$Text", "faultAt", "I", false)
def ry_9 : Nat → FieldType := fun k => match k with
  | 0 => .array .int
  | 1 => .array .int
  | 2 => .int
  | 3 => .int
  | 4 => .int
  | 5 => .int
  | 6 => .int
  | _ => .int
theorem rn_9 : ∀ a, a < 8 → ∀ b, b < 8 → a ≠ b → (rt_9 a).2.1 ≠ (rt_9 b).2.1 := by decide +kernel
theorem rk_9 : ∀ k, k < 8 → parseFieldDescriptor (rt_9 k).2.2.1 = some (ry_9 k) := by decide +kernel
def rc_10 : String := "UnitsWrong$Trades"
def rt_10 : u_T := fun k => match k with
  | 0 => ("UnitsWrong$Trades", "byDay", "LUnitsWrong$ByDay;", true)
  | 1 => ("UnitsWrong$Trades", "fund", "[I", true)
  | 2 => ("UnitsWrong$Trades", "paper", "[I", true)
  | 3 => ("UnitsWrong$Trades", "pieces", "[I", true)
  | 4 => ("UnitsWrong$Trades", "pence", "[I", true)
  | _ => ("UnitsWrong$Trades", "made", "[I", true)
def ry_10 : Nat → FieldType := fun k => match k with
  | 0 => .object "UnitsWrong$ByDay"
  | 1 => .array .int
  | 2 => .array .int
  | 3 => .array .int
  | 4 => .array .int
  | _ => .array .int
theorem rn_10 : ∀ a, a < 6 → ∀ b, b < 6 → a ≠ b → (rt_10 a).2.1 ≠ (rt_10 b).2.1 := by decide +kernel
theorem rk_10 : ∀ k, k < 6 → parseFieldDescriptor (rt_10 k).2.2.1 = some (ry_10 k) := by decide +kernel
def rc_11 : String := "UnitsWrong"
def rt_11 : u_T := fun k => match k with
  | 0 => ("UnitsWrong", "state", "LUnitsWrong$State;", true)
  | 1 => ("UnitsWrong", "text", "LUnitsWrong$Text;", true)
  | 2 => ("UnitsWrong", "course", "LUnitsWrong$Course;", true)
  | 3 => ("UnitsWrong", "claims", "LUnitsWrong$Claims;", true)
  | 4 => ("UnitsWrong", "settlement", "LUnitsWrong$Settlement;", true)
  | _ => ("UnitsWrong", "audits", "LUnitsWrong$Audits;", true)
def ry_11 : Nat → FieldType := fun k => match k with
  | 0 => .object "UnitsWrong$State"
  | 1 => .object "UnitsWrong$Text"
  | 2 => .object "UnitsWrong$Course"
  | 3 => .object "UnitsWrong$Claims"
  | 4 => .object "UnitsWrong$Settlement"
  | _ => .object "UnitsWrong$Audits"
theorem rn_11 : ∀ a, a < 6 → ∀ b, b < 6 → a ≠ b → (rt_11 a).2.1 ≠ (rt_11 b).2.1 := by decide +kernel
theorem rk_11 : ∀ k, k < 6 → parseFieldDescriptor (rt_11 k).2.2.1 = some (ry_11 k) := by decide +kernel
def rc_12 : String := "UnitsWrongModel"
def rt_12 : u_T := fun k => match k with
  | 0 => ("UnitsWrongModel", "now", "I", false)
  | 1 => ("UnitsWrongModel", "isHoliday", "[Z", true)
  | 2 => ("UnitsWrongModel", "holidays", "I", false)
  | 3 => ("UnitsWrongModel", "subject", "[I", true)
  | 4 => ("UnitsWrongModel", "number", "[I", true)
  | 5 => ("UnitsWrongModel", "forDay", "[I", true)
  | 6 => ("UnitsWrongModel", "value", "[I", true)
  | 7 => ("UnitsWrongModel", "made", "[I", true)
  | 8 => ("UnitsWrongModel", "sSubject", "[I", true)
  | 9 => ("UnitsWrongModel", "sNumber", "[I", true)
  | 10 => ("UnitsWrongModel", "sDay", "[I", true)
  | 11 => ("UnitsWrongModel", "sValue", "[I", true)
  | 12 => ("UnitsWrongModel", "tellings", "I", false)
  | 13 => ("UnitsWrongModel", "suspects", "I", false)
  | 14 => ("UnitsWrongModel", "currency", "[I", true)
  | 15 => ("UnitsWrongModel", "firstCash", "[I", true)
  | 16 => ("UnitsWrongModel", "zone", "[I", true)
  | 17 => ("UnitsWrongModel", "goneOn", "[I", true)
  | 18 => ("UnitsWrongModel", "foundOn", "[I", true)
  | 19 => ("UnitsWrongModel", "funds", "I", false)
  | 20 => ("UnitsWrongModel", "holders", "I", false)
  | 21 => ("UnitsWrongModel", "tFund", "[I", true)
  | 22 => ("UnitsWrongModel", "tPaper", "[I", true)
  | 23 => ("UnitsWrongModel", "tDay", "[I", true)
  | 24 => ("UnitsWrongModel", "tPieces", "[I", true)
  | 25 => ("UnitsWrongModel", "tPence", "[I", true)
  | 26 => ("UnitsWrongModel", "tMade", "[I", true)
  | 27 => ("UnitsWrongModel", "trades", "I", false)
  | 28 => ("UnitsWrongModel", "dWho", "[I", true)
  | 29 => ("UnitsWrongModel", "dFund", "[I", true)
  | 30 => ("UnitsWrongModel", "dMany", "[I", true)
  | 31 => ("UnitsWrongModel", "dDay", "[I", true)
  | 32 => ("UnitsWrongModel", "dUnits", "[I", true)
  | 33 => ("UnitsWrongModel", "isDealt", "[Z", true)
  | 34 => ("UnitsWrongModel", "booked", "[J", true)
  | 35 => ("UnitsWrongModel", "deals", "I", false)
  | 36 => ("UnitsWrongModel", "text", "[B", true)
  | 37 => ("UnitsWrongModel", "textMany", "I", false)
  | 38 => ("UnitsWrongModel", "at", "I", false)
  | 39 => ("UnitsWrongModel", "lineEnd", "I", false)
  | 40 => ("UnitsWrongModel", "faultAt", "I", false)
  | 41 => ("UnitsWrongModel", "rules", "[[[I", true)
  | 42 => ("UnitsWrongModel", "lawDay", "[I", true)
  | 43 => ("UnitsWrongModel", "laws", "I", false)
  | 44 => ("UnitsWrongModel", "plainRules", "[I", true)
  | 45 => ("UnitsWrongModel", "partyWords", "[Ljava/lang/String;", true)
  | 46 => ("UnitsWrongModel", "price", "[[I", true)
  | 47 => ("UnitsWrongModel", "rate", "[[I", true)
  | 48 => ("UnitsWrongModel", "dividend", "[[I", true)
  | 49 => ("UnitsWrongModel", "split", "[[I", true)
  | 50 => ("UnitsWrongModel", "cash", "[J", true)
  | 51 => ("UnitsWrongModel", "coins", "[J", true)
  | 52 => ("UnitsWrongModel", "pieces", "[[J", true)
  | 53 => ("UnitsWrongModel", "unitPrice", "[[J", true)
  | 54 => ("UnitsWrongModel", "fees", "[[J", true)
  | 55 => ("UnitsWrongModel", "held", "[[J", true)
  | 56 => ("UnitsWrongModel", "all", "[J", true)
  | 57 => ("UnitsWrongModel", "bookedPrice", "[[J", true)
  | 58 => ("UnitsWrongModel", "bookedFee", "[[J", true)
  | 59 => ("UnitsWrongModel", "isTold", "[Z", true)
  | 60 => ("UnitsWrongModel", "had", "[J", true)
  | 61 => ("UnitsWrongModel", "kAsked", "I", false)
  | 62 => ("UnitsWrongModel", "lost", "[J", true)
  | 63 => ("UnitsWrongModel", "gained", "[J", true)
  | 64 => ("UnitsWrongModel", "claims", "[J", true)
  | 65 => ("UnitsWrongModel", "how", "[I", true)
  | 66 => ("UnitsWrongModel", "aFund", "[I", true)
  | 67 => ("UnitsWrongModel", "aDay", "[I", true)
  | 68 => ("UnitsWrongModel", "aPrice", "[I", true)
  | 69 => ("UnitsWrongModel", "audits", "I", false)
  | 70 => ("UnitsWrongModel", "bestHeap", "I", false)
  | 71 => ("UnitsWrongModel", "bestMany", "I", false)
  | 72 => ("UnitsWrongModel", "balance", "[J", true)
  | 73 => ("UnitsWrongModel", "side", "[I", true)
  | 74 => ("UnitsWrongModel", "sides", "I", false)
  | 75 => ("UnitsWrongModel", "best", "[I", true)
  | 76 => ("UnitsWrongModel", "sumOf", "[J", true)
  | 77 => ("UnitsWrongModel", "heaps", "[I", true)
  | _ => ("UnitsWrongModel", "heapMany", "I", false)
def ry_12 : Nat → FieldType := fun k => match k with
  | 0 => .int
  | 1 => .array .boolean
  | 2 => .int
  | 3 => .array .int
  | 4 => .array .int
  | 5 => .array .int
  | 6 => .array .int
  | 7 => .array .int
  | 8 => .array .int
  | 9 => .array .int
  | 10 => .array .int
  | 11 => .array .int
  | 12 => .int
  | 13 => .int
  | 14 => .array .int
  | 15 => .array .int
  | 16 => .array .int
  | 17 => .array .int
  | 18 => .array .int
  | 19 => .int
  | 20 => .int
  | 21 => .array .int
  | 22 => .array .int
  | 23 => .array .int
  | 24 => .array .int
  | 25 => .array .int
  | 26 => .array .int
  | 27 => .int
  | 28 => .array .int
  | 29 => .array .int
  | 30 => .array .int
  | 31 => .array .int
  | 32 => .array .int
  | 33 => .array .boolean
  | 34 => .array .long
  | 35 => .int
  | 36 => .array .byte
  | 37 => .int
  | 38 => .int
  | 39 => .int
  | 40 => .int
  | 41 => .array (.array (.array .int))
  | 42 => .array .int
  | 43 => .int
  | 44 => .array .int
  | 45 => .array (.object "java/lang/String")
  | 46 => .array (.array .int)
  | 47 => .array (.array .int)
  | 48 => .array (.array .int)
  | 49 => .array (.array .int)
  | 50 => .array .long
  | 51 => .array .long
  | 52 => .array (.array .long)
  | 53 => .array (.array .long)
  | 54 => .array (.array .long)
  | 55 => .array (.array .long)
  | 56 => .array .long
  | 57 => .array (.array .long)
  | 58 => .array (.array .long)
  | 59 => .array .boolean
  | 60 => .array .long
  | 61 => .int
  | 62 => .array .long
  | 63 => .array .long
  | 64 => .array .long
  | 65 => .array .int
  | 66 => .array .int
  | 67 => .array .int
  | 68 => .array .int
  | 69 => .int
  | 70 => .int
  | 71 => .int
  | 72 => .array .long
  | 73 => .array .int
  | 74 => .int
  | 75 => .array .int
  | 76 => .array .long
  | 77 => .array .int
  | _ => .int
theorem rn_12 : ∀ a, a < 79 → ∀ b, b < 79 → a ≠ b → (rt_12 a).2.1 ≠ (rt_12 b).2.1 := by decide +kernel
theorem rk_12 : ∀ k, k < 79 → parseFieldDescriptor (rt_12 k).2.2.1 = some (ry_12 k) := by decide +kernel
abbrev bz_cls : List vw_C := [(rc_0, rt_0, 8), (rc_1, rt_1, 3), (rc_2, rt_2, 5), (rc_3, rt_3, 19), (rc_4, rt_4, 9), (rc_5, rt_5, 3), (rc_6, rt_6, 9), (rc_7, rt_7, 18), (rc_8, rt_8, 5), (rc_9, rt_9, 8), (rc_10, rt_10, 6), (rc_11, rt_11, 6), (rc_12, rt_12, 79)]
def bz_shl_0 : List bz_Sh := [.inr (11, [(4, 1), (4, 50), (4, 53), (4, 65), (4, 69), (4, 77)]), .inr (7, [(4, 2), (4, 3), (4, 4), (4, 5), (4, 6), (4, 7), (4, 8), (4, 16), (4, 24), (4, 33), (4, 45), (4, 48), (4, 49), (0, 0), (0, 0), (0, 0), (0, 0), (0, 0)]), .inl (1, 4, 0), .inl (0, 4, 0), .inl (0, 16, 0), .inl (0, 16, 0), .inl (0, 8, 0), .inl (2, 260, 0), .inr (8, [(4, 9), (4, 12), (4, 13), (4, 14), (4, 15)]), .inr (1, [(4, 10), (4, 11), (0, 0)]), .inl (0, 400, 0), .inl (0, 400, 0), .inl (0, 400, 0), .inl (0, 400, 0), .inl (0, 400, 0), .inl (0, 400, 0), .inr (8, [(4, 17), (4, 20), (4, 21), (4, 22), (4, 23)]), .inr (1, [(4, 18), (4, 19), (0, 0)]), .inl (0, 7, 0), .inl (0, 7, 0), .inl (0, 7, 0), .inl (0, 7, 0), .inl (0, 7, 0), .inl (0, 7, 0), .inr (10, [(4, 25), (4, 28), (4, 29), (4, 30), (4, 31), (4, 32)]), .inr (1, [(4, 26), (4, 27), (0, 0)]), .inl (0, 120, 0), .inl (0, 120, 0), .inl (0, 120, 0), .inl (0, 120, 0), .inl (0, 120, 0), .inl (0, 120, 0), .inl (0, 120, 0), .inr (4, [(4, 34), (4, 37), (4, 38), (4, 39), (4, 40), (4, 41), (4, 42), (4, 43), (4, 44)]), .inr (1, [(4, 35), (4, 36), (0, 0)]), .inl (0, 200, 0), .inl (0, 200, 0), .inl (0, 200, 0), .inl (0, 200, 0), .inl (0, 200, 0)]
def bz_shl_1 : List bz_Sh := [.inl (0, 200, 0), .inl (1, 200, 0), .inl (1, 200, 0), .inl (0, 96, 0), .inl (0, 4, 0), .inr (5, [(4, 46), (4, 47), (0, 0)]), .inl (0, 6, 0), .inl (0, 288, 0), .inl (0, 1040, 0), .inl (1, 1040, 0), .inr (9, [(4, 51), (4, 52), (0, 0), (0, 0), (0, 0), (0, 0), (0, 0), (0, 0)]), .inl (0, 600, 0), .inl (0, 60, 0), .inr (3, [(4, 54), (4, 55), (4, 56), (4, 57), (4, 58), (4, 59), (4, 60), (4, 61), (4, 62), (4, 63), (4, 64), (2, 0), (2, 0), (0, 0), (0, 0), (0, 0), (0, 0), (0, 0), (0, 0)]), .inl (1, 4, 0), .inl (1, 4, 0), .inl (0, 1040, 0), .inl (1, 1040, 0), .inl (0, 32, 0), .inl (0, 16, 0), .inl (0, 4, 0), .inl (0, 8, 0), .inl (0, 3, 0), .inl (0, 8, 0), .inl (0, 8, 0), .inr (2, [(4, 66), (4, 67), (4, 68), (0, 0), (0, 0)]), .inl (1, 24, 0), .inl (1, 24, 0), .inl (1, 42, 0), .inr (6, [(4, 70), (4, 71), (4, 72), (0, 0), (4, 73), (4, 74), (4, 75), (4, 76), (0, 0)]), .inl (0, 10, 0), .inl (0, 10, 0), .inl (1, 10, 0), .inl (0, 10, 0), .inl (1, 10, 0), .inl (1, 1024, 0), .inl (0, 1024, 0), .inr (0, [(4, 78), (4, 79), (4, 80), (0, 0), (2, 0), (0, 0), (0, 0), (0, 0)]), .inl (0, 8, 0), .inl (0, 8, 0)]
def bz_shl_2 : List bz_Sh := [.inl (0, 8, 0), .inr (12, [(0, 0), (4, 82), (0, 0), (4, 83), (4, 84), (4, 85), (4, 86), (4, 87), (4, 88), (4, 89), (4, 90), (4, 91), (0, 0), (0, 0), (4, 92), (4, 93), (4, 94), (4, 95), (4, 96), (0, 0), (0, 0), (4, 97), (4, 98), (4, 99), (4, 100), (4, 101), (4, 102), (0, 0), (4, 103), (4, 104), (4, 105), (4, 106), (4, 107), (4, 108), (4, 109), (0, 0), (4, 110), (0, 0), (0, 0), (0, 0), (0, 0), (4, 111), (4, 154), (0, 0), (4, 155), (4, 156), (4, 157), (4, 166), (4, 170), (4, 179), (4, 188), (4, 189), (4, 190), (4, 195), (4, 200), (4, 205), (4, 210), (4, 211), (4, 216), (4, 221), (4, 222), (0, 0), (4, 223), (4, 224), (4, 225), (4, 226), (4, 227), (4, 228), (4, 229), (0, 0), (0, 0), (0, 0), (4, 230), (4, 231), (0, 0), (4, 232), (4, 233), (4, 234), (0, 0)]), .inl (2, 260, 0), .inl (0, 407, 0), .inl (0, 407, 0), .inl (0, 407, 0), .inl (0, 407, 0), .inl (0, 407, 0), .inl (0, 7, 0), .inl (0, 7, 0), .inl (0, 7, 0), .inl (0, 7, 0), .inl (0, 8, 0), .inl (0, 4, 0), .inl (0, 16, 0), .inl (0, 16, 0), .inl (0, 4, 0), .inl (0, 120, 0), .inl (0, 120, 0), .inl (0, 120, 0), .inl (0, 120, 0), .inl (0, 120, 0), .inl (0, 120, 0), .inl (0, 200, 0), .inl (0, 200, 0), .inl (0, 200, 0), .inl (0, 200, 0), .inl (0, 200, 0), .inl (2, 200, 0), .inl (1, 200, 0), .inl (3, 600, 0), .inl (6, 7, 112), .inl (4, 5, 119), .inl (4, 5, 124), .inl (4, 5, 129), .inl (4, 5, 134), .inl (4, 5, 139), .inl (4, 5, 144), .inl (4, 5, 149), .inl (0, 12, 0)]
def bz_shl_3 : List bz_Sh := [.inl (0, 12, 0), .inl (0, 12, 0), .inl (0, 12, 0), .inl (0, 12, 0), .inl (0, 12, 0), .inl (0, 12, 0), .inl (0, 12, 0), .inl (0, 12, 0), .inl (0, 12, 0), .inl (0, 12, 0), .inl (0, 12, 0), .inl (0, 12, 0), .inl (0, 12, 0), .inl (0, 12, 0), .inl (0, 12, 0), .inl (0, 12, 0), .inl (0, 12, 0), .inl (0, 12, 0), .inl (0, 12, 0), .inl (0, 12, 0), .inl (0, 12, 0), .inl (0, 12, 0), .inl (0, 12, 0), .inl (0, 12, 0), .inl (0, 12, 0), .inl (0, 12, 0), .inl (0, 12, 0), .inl (0, 12, 0), .inl (0, 12, 0), .inl (0, 12, 0), .inl (0, 12, 0), .inl (0, 12, 0), .inl (0, 12, 0), .inl (0, 12, 0), .inl (0, 6, 0), .inl (0, 12, 0), .inl (7, 3, 900), .inl (4, 8, 158), .inl (0, 260, 0), .inl (0, 260, 0)]
def bz_shl_4 : List bz_Sh := [.inl (0, 260, 0), .inl (0, 260, 0), .inl (0, 260, 0), .inl (0, 260, 0), .inl (0, 260, 0), .inl (0, 260, 0), .inl (4, 3, 167), .inl (0, 260, 0), .inl (0, 260, 0), .inl (0, 260, 0), .inl (4, 8, 171), .inl (0, 260, 0), .inl (0, 260, 0), .inl (0, 260, 0), .inl (0, 260, 0), .inl (0, 260, 0), .inl (0, 260, 0), .inl (0, 260, 0), .inl (0, 260, 0), .inl (4, 8, 180), .inl (0, 260, 0), .inl (0, 260, 0), .inl (0, 260, 0), .inl (0, 260, 0), .inl (0, 260, 0), .inl (0, 260, 0), .inl (0, 260, 0), .inl (0, 260, 0), .inl (1, 4, 0), .inl (1, 200, 0), .inl (5, 4, 191), .inl (1, 8, 0), .inl (1, 8, 0), .inl (1, 8, 0), .inl (1, 8, 0), .inl (5, 4, 196), .inl (1, 260, 0), .inl (1, 260, 0), .inl (1, 260, 0), .inl (1, 260, 0)]
def bz_shl_5 : List bz_Sh := [.inl (5, 4, 201), .inl (1, 260, 0), .inl (1, 260, 0), .inl (1, 260, 0), .inl (1, 260, 0), .inl (5, 4, 206), .inl (1, 20, 0), .inl (1, 20, 0), .inl (1, 20, 0), .inl (1, 20, 0), .inl (1, 4, 0), .inl (5, 4, 212), .inl (1, 260, 0), .inl (1, 260, 0), .inl (1, 260, 0), .inl (1, 260, 0), .inl (5, 4, 217), .inl (1, 260, 0), .inl (1, 260, 0), .inl (1, 260, 0), .inl (1, 260, 0), .inl (2, 260, 0), .inl (1, 20, 0), .inl (1, 20, 0), .inl (1, 20, 0), .inl (1, 20, 0), .inl (0, 20, 0), .inl (0, 8, 0), .inl (0, 8, 0), .inl (0, 8, 0), .inl (1, 22, 0), .inl (0, 10, 0), .inl (0, 1024, 0), .inl (1, 1024, 0), .inl (0, 10, 0)]
def bz_shl : List bz_Sh := bz_shl_0 ++ (bz_shl_1 ++ (bz_shl_2 ++ (bz_shl_3 ++ (bz_shl_4 ++ (bz_shl_5)))))
theorem sh_0 : bz_shl[0]? = some (.inr (11, [(4, 1), (4, 50), (4, 53), (4, 65), (4, 69), (4, 77)])) := by decide +kernel
theorem sh_1 : bz_shl[1]? = some (.inr (7, [(4, 2), (4, 3), (4, 4), (4, 5), (4, 6), (4, 7), (4, 8), (4, 16), (4, 24), (4, 33), (4, 45), (4, 48), (4, 49), (0, 0), (0, 0), (0, 0), (0, 0), (0, 0)])) := by decide +kernel
theorem sh_2 : bz_shl[2]? = some (.inl (1, 4, 0)) := by decide +kernel
theorem sh_3 : bz_shl[3]? = some (.inl (0, 4, 0)) := by decide +kernel
theorem sh_4 : bz_shl[4]? = some (.inl (0, 16, 0)) := by decide +kernel
theorem sh_5 : bz_shl[5]? = some (.inl (0, 16, 0)) := by decide +kernel
theorem sh_6 : bz_shl[6]? = some (.inl (0, 8, 0)) := by decide +kernel
theorem sh_7 : bz_shl[7]? = some (.inl (2, 260, 0)) := by decide +kernel
theorem sh_8 : bz_shl[8]? = some (.inr (8, [(4, 9), (4, 12), (4, 13), (4, 14), (4, 15)])) := by decide +kernel
theorem sh_9 : bz_shl[9]? = some (.inr (1, [(4, 10), (4, 11), (0, 0)])) := by decide +kernel
theorem sh_10 : bz_shl[10]? = some (.inl (0, 400, 0)) := by decide +kernel
theorem sh_11 : bz_shl[11]? = some (.inl (0, 400, 0)) := by decide +kernel
theorem sh_12 : bz_shl[12]? = some (.inl (0, 400, 0)) := by decide +kernel
theorem sh_13 : bz_shl[13]? = some (.inl (0, 400, 0)) := by decide +kernel
theorem sh_14 : bz_shl[14]? = some (.inl (0, 400, 0)) := by decide +kernel
theorem sh_15 : bz_shl[15]? = some (.inl (0, 400, 0)) := by decide +kernel
theorem sh_16 : bz_shl[16]? = some (.inr (8, [(4, 17), (4, 20), (4, 21), (4, 22), (4, 23)])) := by decide +kernel
theorem sh_17 : bz_shl[17]? = some (.inr (1, [(4, 18), (4, 19), (0, 0)])) := by decide +kernel
theorem sh_18 : bz_shl[18]? = some (.inl (0, 7, 0)) := by decide +kernel
theorem sh_19 : bz_shl[19]? = some (.inl (0, 7, 0)) := by decide +kernel
theorem sh_20 : bz_shl[20]? = some (.inl (0, 7, 0)) := by decide +kernel
theorem sh_21 : bz_shl[21]? = some (.inl (0, 7, 0)) := by decide +kernel
theorem sh_22 : bz_shl[22]? = some (.inl (0, 7, 0)) := by decide +kernel
theorem sh_23 : bz_shl[23]? = some (.inl (0, 7, 0)) := by decide +kernel
theorem sh_24 : bz_shl[24]? = some (.inr (10, [(4, 25), (4, 28), (4, 29), (4, 30), (4, 31), (4, 32)])) := by decide +kernel
theorem sh_25 : bz_shl[25]? = some (.inr (1, [(4, 26), (4, 27), (0, 0)])) := by decide +kernel
theorem sh_26 : bz_shl[26]? = some (.inl (0, 120, 0)) := by decide +kernel
theorem sh_27 : bz_shl[27]? = some (.inl (0, 120, 0)) := by decide +kernel
theorem sh_28 : bz_shl[28]? = some (.inl (0, 120, 0)) := by decide +kernel
theorem sh_29 : bz_shl[29]? = some (.inl (0, 120, 0)) := by decide +kernel
theorem sh_30 : bz_shl[30]? = some (.inl (0, 120, 0)) := by decide +kernel
theorem sh_31 : bz_shl[31]? = some (.inl (0, 120, 0)) := by decide +kernel
theorem sh_32 : bz_shl[32]? = some (.inl (0, 120, 0)) := by decide +kernel
theorem sh_33 : bz_shl[33]? = some (.inr (4, [(4, 34), (4, 37), (4, 38), (4, 39), (4, 40), (4, 41), (4, 42), (4, 43), (4, 44)])) := by decide +kernel
theorem sh_34 : bz_shl[34]? = some (.inr (1, [(4, 35), (4, 36), (0, 0)])) := by decide +kernel
theorem sh_35 : bz_shl[35]? = some (.inl (0, 200, 0)) := by decide +kernel
theorem sh_36 : bz_shl[36]? = some (.inl (0, 200, 0)) := by decide +kernel
theorem sh_37 : bz_shl[37]? = some (.inl (0, 200, 0)) := by decide +kernel
theorem sh_38 : bz_shl[38]? = some (.inl (0, 200, 0)) := by decide +kernel
theorem sh_39 : bz_shl[39]? = some (.inl (0, 200, 0)) := by decide +kernel
theorem sh_40 : bz_shl[40]? = some (.inl (0, 200, 0)) := by decide +kernel
theorem sh_41 : bz_shl[41]? = some (.inl (1, 200, 0)) := by decide +kernel
theorem sh_42 : bz_shl[42]? = some (.inl (1, 200, 0)) := by decide +kernel
theorem sh_43 : bz_shl[43]? = some (.inl (0, 96, 0)) := by decide +kernel
theorem sh_44 : bz_shl[44]? = some (.inl (0, 4, 0)) := by decide +kernel
theorem sh_45 : bz_shl[45]? = some (.inr (5, [(4, 46), (4, 47), (0, 0)])) := by decide +kernel
theorem sh_46 : bz_shl[46]? = some (.inl (0, 6, 0)) := by decide +kernel
theorem sh_47 : bz_shl[47]? = some (.inl (0, 288, 0)) := by decide +kernel
theorem sh_48 : bz_shl[48]? = some (.inl (0, 1040, 0)) := by decide +kernel
theorem sh_49 : bz_shl[49]? = some (.inl (1, 1040, 0)) := by decide +kernel
theorem sh_50 : bz_shl[50]? = some (.inr (9, [(4, 51), (4, 52), (0, 0), (0, 0), (0, 0), (0, 0), (0, 0), (0, 0)])) := by decide +kernel
theorem sh_51 : bz_shl[51]? = some (.inl (0, 600, 0)) := by decide +kernel
theorem sh_52 : bz_shl[52]? = some (.inl (0, 60, 0)) := by decide +kernel
theorem sh_53 : bz_shl[53]? = some (.inr (3, [(4, 54), (4, 55), (4, 56), (4, 57), (4, 58), (4, 59), (4, 60), (4, 61), (4, 62), (4, 63), (4, 64), (2, 0), (2, 0), (0, 0), (0, 0), (0, 0), (0, 0), (0, 0), (0, 0)])) := by decide +kernel
theorem sh_54 : bz_shl[54]? = some (.inl (1, 4, 0)) := by decide +kernel
theorem sh_55 : bz_shl[55]? = some (.inl (1, 4, 0)) := by decide +kernel
theorem sh_56 : bz_shl[56]? = some (.inl (0, 1040, 0)) := by decide +kernel
theorem sh_57 : bz_shl[57]? = some (.inl (1, 1040, 0)) := by decide +kernel
theorem sh_58 : bz_shl[58]? = some (.inl (0, 32, 0)) := by decide +kernel
theorem sh_59 : bz_shl[59]? = some (.inl (0, 16, 0)) := by decide +kernel
theorem sh_60 : bz_shl[60]? = some (.inl (0, 4, 0)) := by decide +kernel
theorem sh_61 : bz_shl[61]? = some (.inl (0, 8, 0)) := by decide +kernel
theorem sh_62 : bz_shl[62]? = some (.inl (0, 3, 0)) := by decide +kernel
theorem sh_63 : bz_shl[63]? = some (.inl (0, 8, 0)) := by decide +kernel
theorem sh_64 : bz_shl[64]? = some (.inl (0, 8, 0)) := by decide +kernel
theorem sh_65 : bz_shl[65]? = some (.inr (2, [(4, 66), (4, 67), (4, 68), (0, 0), (0, 0)])) := by decide +kernel
theorem sh_66 : bz_shl[66]? = some (.inl (1, 24, 0)) := by decide +kernel
theorem sh_67 : bz_shl[67]? = some (.inl (1, 24, 0)) := by decide +kernel
theorem sh_68 : bz_shl[68]? = some (.inl (1, 42, 0)) := by decide +kernel
theorem sh_69 : bz_shl[69]? = some (.inr (6, [(4, 70), (4, 71), (4, 72), (0, 0), (4, 73), (4, 74), (4, 75), (4, 76), (0, 0)])) := by decide +kernel
theorem sh_70 : bz_shl[70]? = some (.inl (0, 10, 0)) := by decide +kernel
theorem sh_71 : bz_shl[71]? = some (.inl (0, 10, 0)) := by decide +kernel
theorem sh_72 : bz_shl[72]? = some (.inl (1, 10, 0)) := by decide +kernel
theorem sh_73 : bz_shl[73]? = some (.inl (0, 10, 0)) := by decide +kernel
theorem sh_74 : bz_shl[74]? = some (.inl (1, 10, 0)) := by decide +kernel
theorem sh_75 : bz_shl[75]? = some (.inl (1, 1024, 0)) := by decide +kernel
theorem sh_76 : bz_shl[76]? = some (.inl (0, 1024, 0)) := by decide +kernel
theorem sh_77 : bz_shl[77]? = some (.inr (0, [(4, 78), (4, 79), (4, 80), (0, 0), (2, 0), (0, 0), (0, 0), (0, 0)])) := by decide +kernel
theorem sh_78 : bz_shl[78]? = some (.inl (0, 8, 0)) := by decide +kernel
theorem sh_79 : bz_shl[79]? = some (.inl (0, 8, 0)) := by decide +kernel
theorem sh_80 : bz_shl[80]? = some (.inl (0, 8, 0)) := by decide +kernel
theorem sh_81 : bz_shl[81]? = some (.inr (12, [(0, 0), (4, 82), (0, 0), (4, 83), (4, 84), (4, 85), (4, 86), (4, 87), (4, 88), (4, 89), (4, 90), (4, 91), (0, 0), (0, 0), (4, 92), (4, 93), (4, 94), (4, 95), (4, 96), (0, 0), (0, 0), (4, 97), (4, 98), (4, 99), (4, 100), (4, 101), (4, 102), (0, 0), (4, 103), (4, 104), (4, 105), (4, 106), (4, 107), (4, 108), (4, 109), (0, 0), (4, 110), (0, 0), (0, 0), (0, 0), (0, 0), (4, 111), (4, 154), (0, 0), (4, 155), (4, 156), (4, 157), (4, 166), (4, 170), (4, 179), (4, 188), (4, 189), (4, 190), (4, 195), (4, 200), (4, 205), (4, 210), (4, 211), (4, 216), (4, 221), (4, 222), (0, 0), (4, 223), (4, 224), (4, 225), (4, 226), (4, 227), (4, 228), (4, 229), (0, 0), (0, 0), (0, 0), (4, 230), (4, 231), (0, 0), (4, 232), (4, 233), (4, 234), (0, 0)])) := by decide +kernel
theorem sh_82 : bz_shl[82]? = some (.inl (2, 260, 0)) := by decide +kernel
theorem sh_83 : bz_shl[83]? = some (.inl (0, 407, 0)) := by decide +kernel
theorem sh_84 : bz_shl[84]? = some (.inl (0, 407, 0)) := by decide +kernel
theorem sh_85 : bz_shl[85]? = some (.inl (0, 407, 0)) := by decide +kernel
theorem sh_86 : bz_shl[86]? = some (.inl (0, 407, 0)) := by decide +kernel
theorem sh_87 : bz_shl[87]? = some (.inl (0, 407, 0)) := by decide +kernel
theorem sh_88 : bz_shl[88]? = some (.inl (0, 7, 0)) := by decide +kernel
theorem sh_89 : bz_shl[89]? = some (.inl (0, 7, 0)) := by decide +kernel
theorem sh_90 : bz_shl[90]? = some (.inl (0, 7, 0)) := by decide +kernel
theorem sh_91 : bz_shl[91]? = some (.inl (0, 7, 0)) := by decide +kernel
theorem sh_92 : bz_shl[92]? = some (.inl (0, 8, 0)) := by decide +kernel
theorem sh_93 : bz_shl[93]? = some (.inl (0, 4, 0)) := by decide +kernel
theorem sh_94 : bz_shl[94]? = some (.inl (0, 16, 0)) := by decide +kernel
theorem sh_95 : bz_shl[95]? = some (.inl (0, 16, 0)) := by decide +kernel
theorem sh_96 : bz_shl[96]? = some (.inl (0, 4, 0)) := by decide +kernel
theorem sh_97 : bz_shl[97]? = some (.inl (0, 120, 0)) := by decide +kernel
theorem sh_98 : bz_shl[98]? = some (.inl (0, 120, 0)) := by decide +kernel
theorem sh_99 : bz_shl[99]? = some (.inl (0, 120, 0)) := by decide +kernel
theorem sh_100 : bz_shl[100]? = some (.inl (0, 120, 0)) := by decide +kernel
theorem sh_101 : bz_shl[101]? = some (.inl (0, 120, 0)) := by decide +kernel
theorem sh_102 : bz_shl[102]? = some (.inl (0, 120, 0)) := by decide +kernel
theorem sh_103 : bz_shl[103]? = some (.inl (0, 200, 0)) := by decide +kernel
theorem sh_104 : bz_shl[104]? = some (.inl (0, 200, 0)) := by decide +kernel
theorem sh_105 : bz_shl[105]? = some (.inl (0, 200, 0)) := by decide +kernel
theorem sh_106 : bz_shl[106]? = some (.inl (0, 200, 0)) := by decide +kernel
theorem sh_107 : bz_shl[107]? = some (.inl (0, 200, 0)) := by decide +kernel
theorem sh_108 : bz_shl[108]? = some (.inl (2, 200, 0)) := by decide +kernel
theorem sh_109 : bz_shl[109]? = some (.inl (1, 200, 0)) := by decide +kernel
theorem sh_110 : bz_shl[110]? = some (.inl (3, 600, 0)) := by decide +kernel
theorem sh_111 : bz_shl[111]? = some (.inl (6, 7, 112)) := by decide +kernel
theorem sh_112 : bz_shl[112]? = some (.inl (4, 5, 119)) := by decide +kernel
theorem sh_113 : bz_shl[113]? = some (.inl (4, 5, 124)) := by decide +kernel
theorem sh_114 : bz_shl[114]? = some (.inl (4, 5, 129)) := by decide +kernel
theorem sh_115 : bz_shl[115]? = some (.inl (4, 5, 134)) := by decide +kernel
theorem sh_116 : bz_shl[116]? = some (.inl (4, 5, 139)) := by decide +kernel
theorem sh_117 : bz_shl[117]? = some (.inl (4, 5, 144)) := by decide +kernel
theorem sh_118 : bz_shl[118]? = some (.inl (4, 5, 149)) := by decide +kernel
theorem sh_119 : bz_shl[119]? = some (.inl (0, 12, 0)) := by decide +kernel
theorem sh_120 : bz_shl[120]? = some (.inl (0, 12, 0)) := by decide +kernel
theorem sh_121 : bz_shl[121]? = some (.inl (0, 12, 0)) := by decide +kernel
theorem sh_122 : bz_shl[122]? = some (.inl (0, 12, 0)) := by decide +kernel
theorem sh_123 : bz_shl[123]? = some (.inl (0, 12, 0)) := by decide +kernel
theorem sh_124 : bz_shl[124]? = some (.inl (0, 12, 0)) := by decide +kernel
theorem sh_125 : bz_shl[125]? = some (.inl (0, 12, 0)) := by decide +kernel
theorem sh_126 : bz_shl[126]? = some (.inl (0, 12, 0)) := by decide +kernel
theorem sh_127 : bz_shl[127]? = some (.inl (0, 12, 0)) := by decide +kernel
theorem sh_128 : bz_shl[128]? = some (.inl (0, 12, 0)) := by decide +kernel
theorem sh_129 : bz_shl[129]? = some (.inl (0, 12, 0)) := by decide +kernel
theorem sh_130 : bz_shl[130]? = some (.inl (0, 12, 0)) := by decide +kernel
theorem sh_131 : bz_shl[131]? = some (.inl (0, 12, 0)) := by decide +kernel
theorem sh_132 : bz_shl[132]? = some (.inl (0, 12, 0)) := by decide +kernel
theorem sh_133 : bz_shl[133]? = some (.inl (0, 12, 0)) := by decide +kernel
theorem sh_134 : bz_shl[134]? = some (.inl (0, 12, 0)) := by decide +kernel
theorem sh_135 : bz_shl[135]? = some (.inl (0, 12, 0)) := by decide +kernel
theorem sh_136 : bz_shl[136]? = some (.inl (0, 12, 0)) := by decide +kernel
theorem sh_137 : bz_shl[137]? = some (.inl (0, 12, 0)) := by decide +kernel
theorem sh_138 : bz_shl[138]? = some (.inl (0, 12, 0)) := by decide +kernel
theorem sh_139 : bz_shl[139]? = some (.inl (0, 12, 0)) := by decide +kernel
theorem sh_140 : bz_shl[140]? = some (.inl (0, 12, 0)) := by decide +kernel
theorem sh_141 : bz_shl[141]? = some (.inl (0, 12, 0)) := by decide +kernel
theorem sh_142 : bz_shl[142]? = some (.inl (0, 12, 0)) := by decide +kernel
theorem sh_143 : bz_shl[143]? = some (.inl (0, 12, 0)) := by decide +kernel
theorem sh_144 : bz_shl[144]? = some (.inl (0, 12, 0)) := by decide +kernel
theorem sh_145 : bz_shl[145]? = some (.inl (0, 12, 0)) := by decide +kernel
theorem sh_146 : bz_shl[146]? = some (.inl (0, 12, 0)) := by decide +kernel
theorem sh_147 : bz_shl[147]? = some (.inl (0, 12, 0)) := by decide +kernel
theorem sh_148 : bz_shl[148]? = some (.inl (0, 12, 0)) := by decide +kernel
theorem sh_149 : bz_shl[149]? = some (.inl (0, 12, 0)) := by decide +kernel
theorem sh_150 : bz_shl[150]? = some (.inl (0, 12, 0)) := by decide +kernel
theorem sh_151 : bz_shl[151]? = some (.inl (0, 12, 0)) := by decide +kernel
theorem sh_152 : bz_shl[152]? = some (.inl (0, 12, 0)) := by decide +kernel
theorem sh_153 : bz_shl[153]? = some (.inl (0, 12, 0)) := by decide +kernel
theorem sh_154 : bz_shl[154]? = some (.inl (0, 6, 0)) := by decide +kernel
theorem sh_155 : bz_shl[155]? = some (.inl (0, 12, 0)) := by decide +kernel
theorem sh_156 : bz_shl[156]? = some (.inl (7, 3, 900)) := by decide +kernel
theorem sh_157 : bz_shl[157]? = some (.inl (4, 8, 158)) := by decide +kernel
theorem sh_158 : bz_shl[158]? = some (.inl (0, 260, 0)) := by decide +kernel
theorem sh_159 : bz_shl[159]? = some (.inl (0, 260, 0)) := by decide +kernel
theorem sh_160 : bz_shl[160]? = some (.inl (0, 260, 0)) := by decide +kernel
theorem sh_161 : bz_shl[161]? = some (.inl (0, 260, 0)) := by decide +kernel
theorem sh_162 : bz_shl[162]? = some (.inl (0, 260, 0)) := by decide +kernel
theorem sh_163 : bz_shl[163]? = some (.inl (0, 260, 0)) := by decide +kernel
theorem sh_164 : bz_shl[164]? = some (.inl (0, 260, 0)) := by decide +kernel
theorem sh_165 : bz_shl[165]? = some (.inl (0, 260, 0)) := by decide +kernel
theorem sh_166 : bz_shl[166]? = some (.inl (4, 3, 167)) := by decide +kernel
theorem sh_167 : bz_shl[167]? = some (.inl (0, 260, 0)) := by decide +kernel
theorem sh_168 : bz_shl[168]? = some (.inl (0, 260, 0)) := by decide +kernel
theorem sh_169 : bz_shl[169]? = some (.inl (0, 260, 0)) := by decide +kernel
theorem sh_170 : bz_shl[170]? = some (.inl (4, 8, 171)) := by decide +kernel
theorem sh_171 : bz_shl[171]? = some (.inl (0, 260, 0)) := by decide +kernel
theorem sh_172 : bz_shl[172]? = some (.inl (0, 260, 0)) := by decide +kernel
theorem sh_173 : bz_shl[173]? = some (.inl (0, 260, 0)) := by decide +kernel
theorem sh_174 : bz_shl[174]? = some (.inl (0, 260, 0)) := by decide +kernel
theorem sh_175 : bz_shl[175]? = some (.inl (0, 260, 0)) := by decide +kernel
theorem sh_176 : bz_shl[176]? = some (.inl (0, 260, 0)) := by decide +kernel
theorem sh_177 : bz_shl[177]? = some (.inl (0, 260, 0)) := by decide +kernel
theorem sh_178 : bz_shl[178]? = some (.inl (0, 260, 0)) := by decide +kernel
theorem sh_179 : bz_shl[179]? = some (.inl (4, 8, 180)) := by decide +kernel
theorem sh_180 : bz_shl[180]? = some (.inl (0, 260, 0)) := by decide +kernel
theorem sh_181 : bz_shl[181]? = some (.inl (0, 260, 0)) := by decide +kernel
theorem sh_182 : bz_shl[182]? = some (.inl (0, 260, 0)) := by decide +kernel
theorem sh_183 : bz_shl[183]? = some (.inl (0, 260, 0)) := by decide +kernel
theorem sh_184 : bz_shl[184]? = some (.inl (0, 260, 0)) := by decide +kernel
theorem sh_185 : bz_shl[185]? = some (.inl (0, 260, 0)) := by decide +kernel
theorem sh_186 : bz_shl[186]? = some (.inl (0, 260, 0)) := by decide +kernel
theorem sh_187 : bz_shl[187]? = some (.inl (0, 260, 0)) := by decide +kernel
theorem sh_188 : bz_shl[188]? = some (.inl (1, 4, 0)) := by decide +kernel
theorem sh_189 : bz_shl[189]? = some (.inl (1, 200, 0)) := by decide +kernel
theorem sh_190 : bz_shl[190]? = some (.inl (5, 4, 191)) := by decide +kernel
theorem sh_191 : bz_shl[191]? = some (.inl (1, 8, 0)) := by decide +kernel
theorem sh_192 : bz_shl[192]? = some (.inl (1, 8, 0)) := by decide +kernel
theorem sh_193 : bz_shl[193]? = some (.inl (1, 8, 0)) := by decide +kernel
theorem sh_194 : bz_shl[194]? = some (.inl (1, 8, 0)) := by decide +kernel
theorem sh_195 : bz_shl[195]? = some (.inl (5, 4, 196)) := by decide +kernel
theorem sh_196 : bz_shl[196]? = some (.inl (1, 260, 0)) := by decide +kernel
theorem sh_197 : bz_shl[197]? = some (.inl (1, 260, 0)) := by decide +kernel
theorem sh_198 : bz_shl[198]? = some (.inl (1, 260, 0)) := by decide +kernel
theorem sh_199 : bz_shl[199]? = some (.inl (1, 260, 0)) := by decide +kernel
theorem sh_200 : bz_shl[200]? = some (.inl (5, 4, 201)) := by decide +kernel
theorem sh_201 : bz_shl[201]? = some (.inl (1, 260, 0)) := by decide +kernel
theorem sh_202 : bz_shl[202]? = some (.inl (1, 260, 0)) := by decide +kernel
theorem sh_203 : bz_shl[203]? = some (.inl (1, 260, 0)) := by decide +kernel
theorem sh_204 : bz_shl[204]? = some (.inl (1, 260, 0)) := by decide +kernel
theorem sh_205 : bz_shl[205]? = some (.inl (5, 4, 206)) := by decide +kernel
theorem sh_206 : bz_shl[206]? = some (.inl (1, 20, 0)) := by decide +kernel
theorem sh_207 : bz_shl[207]? = some (.inl (1, 20, 0)) := by decide +kernel
theorem sh_208 : bz_shl[208]? = some (.inl (1, 20, 0)) := by decide +kernel
theorem sh_209 : bz_shl[209]? = some (.inl (1, 20, 0)) := by decide +kernel
theorem sh_210 : bz_shl[210]? = some (.inl (1, 4, 0)) := by decide +kernel
theorem sh_211 : bz_shl[211]? = some (.inl (5, 4, 212)) := by decide +kernel
theorem sh_212 : bz_shl[212]? = some (.inl (1, 260, 0)) := by decide +kernel
theorem sh_213 : bz_shl[213]? = some (.inl (1, 260, 0)) := by decide +kernel
theorem sh_214 : bz_shl[214]? = some (.inl (1, 260, 0)) := by decide +kernel
theorem sh_215 : bz_shl[215]? = some (.inl (1, 260, 0)) := by decide +kernel
theorem sh_216 : bz_shl[216]? = some (.inl (5, 4, 217)) := by decide +kernel
theorem sh_217 : bz_shl[217]? = some (.inl (1, 260, 0)) := by decide +kernel
theorem sh_218 : bz_shl[218]? = some (.inl (1, 260, 0)) := by decide +kernel
theorem sh_219 : bz_shl[219]? = some (.inl (1, 260, 0)) := by decide +kernel
theorem sh_220 : bz_shl[220]? = some (.inl (1, 260, 0)) := by decide +kernel
theorem sh_221 : bz_shl[221]? = some (.inl (2, 260, 0)) := by decide +kernel
theorem sh_222 : bz_shl[222]? = some (.inl (1, 20, 0)) := by decide +kernel
theorem sh_223 : bz_shl[223]? = some (.inl (1, 20, 0)) := by decide +kernel
theorem sh_224 : bz_shl[224]? = some (.inl (1, 20, 0)) := by decide +kernel
theorem sh_225 : bz_shl[225]? = some (.inl (1, 20, 0)) := by decide +kernel
theorem sh_226 : bz_shl[226]? = some (.inl (0, 20, 0)) := by decide +kernel
theorem sh_227 : bz_shl[227]? = some (.inl (0, 8, 0)) := by decide +kernel
theorem sh_228 : bz_shl[228]? = some (.inl (0, 8, 0)) := by decide +kernel
theorem sh_229 : bz_shl[229]? = some (.inl (0, 8, 0)) := by decide +kernel
theorem sh_230 : bz_shl[230]? = some (.inl (1, 22, 0)) := by decide +kernel
theorem sh_231 : bz_shl[231]? = some (.inl (0, 10, 0)) := by decide +kernel
theorem sh_232 : bz_shl[232]? = some (.inl (0, 1024, 0)) := by decide +kernel
theorem sh_233 : bz_shl[233]? = some (.inl (1, 1024, 0)) := by decide +kernel
theorem sh_234 : bz_shl[234]? = some (.inl (0, 10, 0)) := by decide +kernel
theorem sr_157 (i : Nat) (h : i < 8) : bz_shl[158 + i]? = some (.inl (0, 260, 0)) := match i, h with
  | 0, _ => sh_158
  | 1, _ => sh_159
  | 2, _ => sh_160
  | 3, _ => sh_161
  | 4, _ => sh_162
  | 5, _ => sh_163
  | 6, _ => sh_164
  | 7, _ => sh_165
  | n + 8, h => absurd h (by omega)
theorem sr_166 (i : Nat) (h : i < 3) : bz_shl[167 + i]? = some (.inl (0, 260, 0)) := match i, h with
  | 0, _ => sh_167
  | 1, _ => sh_168
  | 2, _ => sh_169
  | n + 3, h => absurd h (by omega)
theorem sr_170 (i : Nat) (h : i < 8) : bz_shl[171 + i]? = some (.inl (0, 260, 0)) := match i, h with
  | 0, _ => sh_171
  | 1, _ => sh_172
  | 2, _ => sh_173
  | 3, _ => sh_174
  | 4, _ => sh_175
  | 5, _ => sh_176
  | 6, _ => sh_177
  | 7, _ => sh_178
  | n + 8, h => absurd h (by omega)
theorem sr_179 (i : Nat) (h : i < 8) : bz_shl[180 + i]? = some (.inl (0, 260, 0)) := match i, h with
  | 0, _ => sh_180
  | 1, _ => sh_181
  | 2, _ => sh_182
  | 3, _ => sh_183
  | 4, _ => sh_184
  | 5, _ => sh_185
  | 6, _ => sh_186
  | 7, _ => sh_187
  | n + 8, h => absurd h (by omega)
theorem sr_190 (i : Nat) (h : i < 4) : bz_shl[191 + i]? = some (.inl (1, 8, 0)) := match i, h with
  | 0, _ => sh_191
  | 1, _ => sh_192
  | 2, _ => sh_193
  | 3, _ => sh_194
  | n + 4, h => absurd h (by omega)
theorem sr_195 (i : Nat) (h : i < 4) : bz_shl[196 + i]? = some (.inl (1, 260, 0)) := match i, h with
  | 0, _ => sh_196
  | 1, _ => sh_197
  | 2, _ => sh_198
  | 3, _ => sh_199
  | n + 4, h => absurd h (by omega)
theorem sr_200 (i : Nat) (h : i < 4) : bz_shl[201 + i]? = some (.inl (1, 260, 0)) := match i, h with
  | 0, _ => sh_201
  | 1, _ => sh_202
  | 2, _ => sh_203
  | 3, _ => sh_204
  | n + 4, h => absurd h (by omega)
theorem sr_205 (i : Nat) (h : i < 4) : bz_shl[206 + i]? = some (.inl (1, 20, 0)) := match i, h with
  | 0, _ => sh_206
  | 1, _ => sh_207
  | 2, _ => sh_208
  | 3, _ => sh_209
  | n + 4, h => absurd h (by omega)
theorem sr_211 (i : Nat) (h : i < 4) : bz_shl[212 + i]? = some (.inl (1, 260, 0)) := match i, h with
  | 0, _ => sh_212
  | 1, _ => sh_213
  | 2, _ => sh_214
  | 3, _ => sh_215
  | n + 4, h => absurd h (by omega)
theorem sr_216 (i : Nat) (h : i < 4) : bz_shl[217 + i]? = some (.inl (1, 260, 0)) := match i, h with
  | 0, _ => sh_217
  | 1, _ => sh_218
  | 2, _ => sh_219
  | 3, _ => sh_220
  | n + 4, h => absurd h (by omega)
theorem sr_111 (i : Nat) (h : i < 7) : bz_shl[112 + i]? = some (.inl (4, 5, 119 + 5 * i)) := match i, h with
  | 0, _ => sh_112
  | 1, _ => sh_113
  | 2, _ => sh_114
  | 3, _ => sh_115
  | 4, _ => sh_116
  | 5, _ => sh_117
  | 6, _ => sh_118
  | n + 7, h => absurd h (by omega)
theorem sq_111 (i : Nat) (h : i < 7) (j : Nat) (h2 : j < 5) : bz_shl[119 + 5 * i + j]? = some (.inl (0, 12, 0)) := match i, h, j, h2 with
  | 0, _, 0, _ => sh_119
  | 0, _, 1, _ => sh_120
  | 0, _, 2, _ => sh_121
  | 0, _, 3, _ => sh_122
  | 0, _, 4, _ => sh_123
  | 1, _, 0, _ => sh_124
  | 1, _, 1, _ => sh_125
  | 1, _, 2, _ => sh_126
  | 1, _, 3, _ => sh_127
  | 1, _, 4, _ => sh_128
  | 2, _, 0, _ => sh_129
  | 2, _, 1, _ => sh_130
  | 2, _, 2, _ => sh_131
  | 2, _, 3, _ => sh_132
  | 2, _, 4, _ => sh_133
  | 3, _, 0, _ => sh_134
  | 3, _, 1, _ => sh_135
  | 3, _, 2, _ => sh_136
  | 3, _, 3, _ => sh_137
  | 3, _, 4, _ => sh_138
  | 4, _, 0, _ => sh_139
  | 4, _, 1, _ => sh_140
  | 4, _, 2, _ => sh_141
  | 4, _, 3, _ => sh_142
  | 4, _, 4, _ => sh_143
  | 5, _, 0, _ => sh_144
  | 5, _, 1, _ => sh_145
  | 5, _, 2, _ => sh_146
  | 5, _, 3, _ => sh_147
  | 5, _, 4, _ => sh_148
  | 6, _, 0, _ => sh_149
  | 6, _, 1, _ => sh_150
  | 6, _, 2, _ => sh_151
  | 6, _, 3, _ => sh_152
  | 6, _, 4, _ => sh_153
  | n + 7, h, _, _ => absurd h (by omega)
  | _, _, n + 5, h => absurd h (by omega)
def bz_T : List Cond := k2_sels lw_privs ++ tables_1.filter goodWord
theorem bz_in {w : Cond} (i : Nat) (h : tables_1[i]? = some w) (g : goodWord w = true) : w ∈ bz_T := List.mem_append_right _ (List.mem_filter.mpr ⟨List.mem_of_getElem? h, g⟩)
theorem ri_0 : ∀ w ∈ u_ws rc_0 rt_0 8, w ∈ bz_T := by decide +kernel
theorem ri_1 : ∀ w ∈ u_ws rc_1 rt_1 3, w ∈ bz_T := by decide +kernel
theorem ri_2 : ∀ w ∈ u_ws rc_2 rt_2 5, w ∈ bz_T := by decide +kernel
theorem ri_3 : ∀ w ∈ u_ws rc_3 rt_3 19, w ∈ bz_T := by decide +kernel
theorem ri_4 : ∀ w ∈ u_ws rc_4 rt_4 9, w ∈ bz_T := by decide +kernel
theorem ri_5 : ∀ w ∈ u_ws rc_5 rt_5 3, w ∈ bz_T := by decide +kernel
theorem ri_6 : ∀ w ∈ u_ws rc_6 rt_6 9, w ∈ bz_T := by decide +kernel
theorem ri_7 : ∀ w ∈ u_ws rc_7 rt_7 18, w ∈ bz_T := by decide +kernel
theorem ri_8 : ∀ w ∈ u_ws rc_8 rt_8 5, w ∈ bz_T := by decide +kernel
theorem ri_9 : ∀ w ∈ u_ws rc_9 rt_9 8, w ∈ bz_T := by decide +kernel
theorem ri_10 : ∀ w ∈ u_ws rc_10 rt_10 6, w ∈ bz_T := by decide +kernel
theorem ri_11 : ∀ w ∈ u_ws rc_11 rt_11 6, w ∈ bz_T := by decide +kernel
theorem ri_12 : ∀ w ∈ u_ws rc_12 rt_12 79, w ∈ bz_T := by decide +kernel
