/-! The classes, their fields; which cell is what (numbers by the order in which the law makes them). Printed by wip/whole/gworld.py. -/
def TBr : u_T := fun k => match k with
  | 0 => ("BodyAccounts$Branch", "needs", "[I", true)
  | 1 => ("BodyAccounts$Branch", "starts", "[I", true)
  | 2 => ("BodyAccounts$Branch", "pays", "[I", true)
  | 3 => ("BodyAccounts$Branch", "costs", "[I", true)
  | 4 => ("BodyAccounts$Branch", "takes", "[I", true)
  | 5 => ("BodyAccounts$Branch", "parts", "I", false)
  | 6 => ("BodyAccounts$Branch", "customers", "I", false)
  | _ => ("BodyAccounts$Branch", "tasks", "I", false)
def yBr : Nat → FieldType := fun k => match k with
  | 0 => (.array .int)
  | 1 => (.array .int)
  | 2 => (.array .int)
  | 3 => (.array .int)
  | 4 => (.array .int)
  | 5 => .int
  | 6 => .int
  | _ => .int
theorem nBr_ok : ∀ a, a < 8 → ∀ b, b < 8 → a ≠ b → (TBr a).2.1 ≠ (TBr b).2.1 := by decide +kernel
theorem yBr_ok : ∀ k, k < 8 → parseFieldDescriptor (TBr k).2.2.1 = some (yBr k) := by decide +kernel
theorem iBr_ok : ∀ w ∈ u_ws "BodyAccounts$Branch" TBr 8, w ∈ TB := by
  intro w hw
  exact TB_of (by revert w; decide +kernel) (by revert w; decide +kernel)
def TPa : u_T := fun k => match k with
  | 0 => ("BodyAccounts$Past", "ring", "[LBodyAccounts$Standing;", true)
  | 1 => ("BodyAccounts$Past", "next", "I", false)
  | _ => ("BodyAccounts$Past", "count", "I", false)
def yPa : Nat → FieldType := fun k => match k with
  | 0 => (.array (.object "BodyAccounts$Standing"))
  | 1 => .int
  | _ => .int
theorem nPa_ok : ∀ a, a < 3 → ∀ b, b < 3 → a ≠ b → (TPa a).2.1 ≠ (TPa b).2.1 := by decide +kernel
theorem yPa_ok : ∀ k, k < 3 → parseFieldDescriptor (TPa k).2.2.1 = some (yPa k) := by decide +kernel
theorem iPa_ok : ∀ w ∈ u_ws "BodyAccounts$Past" TPa 3, w ∈ TB := by
  intro w hw
  exact TB_of (by revert w; decide +kernel) (by revert w; decide +kernel)
def TPl : u_T := fun k => match k with
  | _ => ("BodyAccounts$Planner", "given", "[I", true)
def yPl : Nat → FieldType := fun k => match k with
  | _ => (.array .int)
theorem nPl_ok : ∀ a, a < 1 → ∀ b, b < 1 → a ≠ b → (TPl a).2.1 ≠ (TPl b).2.1 := by decide +kernel
theorem yPl_ok : ∀ k, k < 1 → parseFieldDescriptor (TPl k).2.2.1 = some (yPl k) := by decide +kernel
theorem iPl_ok : ∀ w ∈ u_ws "BodyAccounts$Planner" TPl 1, w ∈ TB := by
  intro w hw
  exact TB_of (by revert w; decide +kernel) (by revert w; decide +kernel)
def TRe : u_T := fun k => match k with
  | 0 => ("BodyAccounts$Reader", "letters", "[I", true)
  | 1 => ("BodyAccounts$Reader", "length", "I", false)
  | 2 => ("BodyAccounts$Reader", "faultPlace", "I", false)
  | 3 => ("BodyAccounts$Reader", "faultNumber", "I", false)
  | _ => ("BodyAccounts$Reader", "place", "I", false)
def yRe : Nat → FieldType := fun k => match k with
  | 0 => (.array .int)
  | 1 => .int
  | 2 => .int
  | 3 => .int
  | _ => .int
theorem nRe_ok : ∀ a, a < 5 → ∀ b, b < 5 → a ≠ b → (TRe a).2.1 ≠ (TRe b).2.1 := by decide +kernel
theorem yRe_ok : ∀ k, k < 5 → parseFieldDescriptor (TRe k).2.2.1 = some (yRe k) := by decide +kernel
theorem iRe_ok : ∀ w ∈ u_ws "BodyAccounts$Reader" TRe 5, w ∈ TB := by
  intro w hw
  exact TB_of (by revert w; decide +kernel) (by revert w; decide +kernel)
def TSl : u_T := fun k => match k with
  | 0 => ("BodyAccounts$Slate", "sums", "[I", true)
  | 1 => ("BodyAccounts$Slate", "mustTasks", "[I", true)
  | 2 => ("BodyAccounts$Slate", "mustMonths", "[I", true)
  | 3 => ("BodyAccounts$Slate", "seenParts", "[I", true)
  | 4 => ("BodyAccounts$Slate", "seenThere", "[Z", true)
  | 5 => ("BodyAccounts$Slate", "entryCustomers", "[I", true)
  | 6 => ("BodyAccounts$Slate", "entryBalances", "[I", true)
  | 7 => ("BodyAccounts$Slate", "spendings", "I", false)
  | 8 => ("BodyAccounts$Slate", "musts", "I", false)
  | 9 => ("BodyAccounts$Slate", "seen", "I", false)
  | _ => ("BodyAccounts$Slate", "entries", "I", false)
def ySl : Nat → FieldType := fun k => match k with
  | 0 => (.array .int)
  | 1 => (.array .int)
  | 2 => (.array .int)
  | 3 => (.array .int)
  | 4 => (.array .boolean)
  | 5 => (.array .int)
  | 6 => (.array .int)
  | 7 => .int
  | 8 => .int
  | 9 => .int
  | _ => .int
theorem nSl_ok : ∀ a, a < 11 → ∀ b, b < 11 → a ≠ b → (TSl a).2.1 ≠ (TSl b).2.1 := by decide +kernel
theorem ySl_ok : ∀ k, k < 11 → parseFieldDescriptor (TSl k).2.2.1 = some (ySl k) := by decide +kernel
theorem iSl_ok : ∀ w ∈ u_ws "BodyAccounts$Slate" TSl 11, w ∈ TB := by
  intro w hw
  exact TB_of (by revert w; decide +kernel) (by revert w; decide +kernel)
def TSt : u_T := fun k => match k with
  | 0 => ("BodyAccounts$Standing", "balances", "[I", true)
  | 1 => ("BodyAccounts$Standing", "debts", "[I", true)
  | _ => ("BodyAccounts$Standing", "months", "I", false)
def ySt : Nat → FieldType := fun k => match k with
  | 0 => (.array .int)
  | 1 => (.array .int)
  | _ => .int
theorem nSt_ok : ∀ a, a < 3 → ∀ b, b < 3 → a ≠ b → (TSt a).2.1 ≠ (TSt b).2.1 := by decide +kernel
theorem ySt_ok : ∀ k, k < 3 → parseFieldDescriptor (TSt k).2.2.1 = some (ySt k) := by decide +kernel
theorem iSt_ok : ∀ w ∈ u_ws "BodyAccounts$Standing" TSt 3, w ∈ TB := by
  intro w hw
  exact TB_of (by revert w; decide +kernel) (by revert w; decide +kernel)
def TBA : u_T := fun k => match k with
  | 0 => ("BodyAccounts", "reader", "LBodyAccounts$Reader;", true)
  | 1 => ("BodyAccounts", "now", "LBodyAccounts$Standing;", true)
  | 2 => ("BodyAccounts", "past", "LBodyAccounts$Past;", true)
  | 3 => ("BodyAccounts", "slate", "LBodyAccounts$Slate;", true)
  | 4 => ("BodyAccounts", "planner", "LBodyAccounts$Planner;", true)
  | 5 => ("BodyAccounts", "images", "[LBodyAccounts$Standing;", true)
  | 6 => ("BodyAccounts", "imageSeeds", "[I", true)
  | 7 => ("BodyAccounts", "imageKept", "[Z", true)
  | 8 => ("BodyAccounts", "current", "LBodyAccounts$Branch;", false)
  | 9 => ("BodyAccounts", "spare", "LBodyAccounts$Branch;", false)
  | 10 => ("BodyAccounts", "faultPlace", "I", false)
  | _ => ("BodyAccounts", "seedNow", "I", false)
def yBA : Nat → FieldType := fun k => match k with
  | 0 => (.object "BodyAccounts$Reader")
  | 1 => (.object "BodyAccounts$Standing")
  | 2 => (.object "BodyAccounts$Past")
  | 3 => (.object "BodyAccounts$Slate")
  | 4 => (.object "BodyAccounts$Planner")
  | 5 => (.array (.object "BodyAccounts$Standing"))
  | 6 => (.array .int)
  | 7 => (.array .boolean)
  | 8 => (.object "BodyAccounts$Branch")
  | 9 => (.object "BodyAccounts$Branch")
  | 10 => .int
  | _ => .int
theorem nBA_ok : ∀ a, a < 12 → ∀ b, b < 12 → a ≠ b → (TBA a).2.1 ≠ (TBA b).2.1 := by decide +kernel
theorem yBA_ok : ∀ k, k < 12 → parseFieldDescriptor (TBA k).2.2.1 = some (yBA k) := by decide +kernel
theorem iBA_ok : ∀ w ∈ u_ws "BodyAccounts" TBA 12, w ∈ TB := by
  intro w hw
  exact TB_of (by revert w; decide +kernel) (by revert w; decide +kernel)
def TMo : u_T := fun k => match k with
  | 0 => ("BodyAccountsModel", "w", "[I", true)
  | 1 => ("BodyAccountsModel", "isKept", "[Z", true)
  | 2 => ("BodyAccountsModel", "undoes", "I", false)
  | 3 => ("BodyAccountsModel", "parts", "I", false)
  | 4 => ("BodyAccountsModel", "needs", "[I", true)
  | 5 => ("BodyAccountsModel", "customers", "I", false)
  | 6 => ("BodyAccountsModel", "pay", "[I", true)
  | 7 => ("BodyAccountsModel", "spends", "[I", true)
  | 8 => ("BodyAccountsModel", "tasks", "I", false)
  | 9 => ("BodyAccountsModel", "takesParts", "[I", true)
  | 10 => ("BodyAccountsModel", "text", "[I", true)
  | 11 => ("BodyAccountsModel", "texted", "I", false)
  | 12 => ("BodyAccountsModel", "at", "I", false)
  | 13 => ("BodyAccountsModel", "start", "I", false)
  | 14 => ("BodyAccountsModel", "number", "I", false)
  | 15 => ("BodyAccountsModel", "faulty", "I", false)
  | 16 => ("BodyAccountsModel", "faultAt", "I", false)
  | 17 => ("BodyAccountsModel", "readParts", "I", false)
  | 18 => ("BodyAccountsModel", "readNeeds", "[I", true)
  | 19 => ("BodyAccountsModel", "readCustomers", "I", false)
  | 20 => ("BodyAccountsModel", "readCustomer", "[I", true)
  | 21 => ("BodyAccountsModel", "readTasks", "I", false)
  | 22 => ("BodyAccountsModel", "readTask", "[I", true)
  | 23 => ("BodyAccountsModel", "spendings", "I", false)
  | 24 => ("BodyAccountsModel", "spending", "[I", true)
  | 25 => ("BodyAccountsModel", "musts", "I", false)
  | 26 => ("BodyAccountsModel", "mustTask", "[I", true)
  | 27 => ("BodyAccountsModel", "mustMonth", "[I", true)
  | 28 => ("BodyAccountsModel", "given", "[I", true)
  | 29 => ("BodyAccountsModel", "seen", "I", false)
  | 30 => ("BodyAccountsModel", "seenPart", "[I", true)
  | 31 => ("BodyAccountsModel", "seenThere", "[Z", true)
  | 32 => ("BodyAccountsModel", "booked", "I", false)
  | 33 => ("BodyAccountsModel", "bookOf", "[I", true)
  | _ => ("BodyAccountsModel", "bookBalance", "[I", true)
def yMo : Nat → FieldType := fun k => match k with
  | 0 => (.array .int)
  | 1 => (.array .boolean)
  | 2 => .int
  | 3 => .int
  | 4 => (.array .int)
  | 5 => .int
  | 6 => (.array .int)
  | 7 => (.array .int)
  | 8 => .int
  | 9 => (.array .int)
  | 10 => (.array .int)
  | 11 => .int
  | 12 => .int
  | 13 => .int
  | 14 => .int
  | 15 => .int
  | 16 => .int
  | 17 => .int
  | 18 => (.array .int)
  | 19 => .int
  | 20 => (.array .int)
  | 21 => .int
  | 22 => (.array .int)
  | 23 => .int
  | 24 => (.array .int)
  | 25 => .int
  | 26 => (.array .int)
  | 27 => (.array .int)
  | 28 => (.array .int)
  | 29 => .int
  | 30 => (.array .int)
  | 31 => (.array .boolean)
  | 32 => .int
  | 33 => (.array .int)
  | _ => (.array .int)
theorem nMo_ok : ∀ a, a < 35 → ∀ b, b < 35 → a ≠ b → (TMo a).2.1 ≠ (TMo b).2.1 := by decide +kernel
theorem yMo_ok : ∀ k, k < 35 → parseFieldDescriptor (TMo k).2.2.1 = some (yMo k) := by decide +kernel
theorem iMo_ok : ∀ w ∈ u_ws "BodyAccountsModel" TMo 35, w ∈ TB := by
  intro w hw
  exact TB_of (by revert w; decide +kernel) (by revert w; decide +kernel)
abbrev classes : List vw_C := [("BodyAccounts$Branch", TBr, 8), ("BodyAccounts$Past", TPa, 3), ("BodyAccounts$Planner", TPl, 1), ("BodyAccounts$Reader", TRe, 5), ("BodyAccounts$Slate", TSl, 11), ("BodyAccounts$Standing", TSt, 3), ("BodyAccounts", TBA, 12), ("BodyAccountsModel", TMo, 35)]
def NC : Nat := 118
def shL : List (Nat × Nat) := [(6, 0), (3, 0), (20, 240), (5, 0), (20, 5), (20, 25), (1, 0), (22, 20), (5, 0), (20, 5), (20, 25), (5, 0), (20, 5), (20, 25), (5, 0), (20, 5), (20, 25), (5, 0), (20, 5), (20, 25), (5, 0), (20, 5), (20, 25), (5, 0), (20, 5), (20, 25), (5, 0), (20, 5), (20, 25), (5, 0), (20, 5), (20, 25), (5, 0), (20, 5), (20, 25), (5, 0), (20, 5), (20, 25), (5, 0), (20, 5), (20, 25), (5, 0), (20, 5), (20, 25), (5, 0), (20, 5), (20, 25), (5, 0), (20, 5), (20, 25), (5, 0), (20, 5), (20, 25), (5, 0), (20, 5), (20, 25), (5, 0), (20, 5), (20, 25), (5, 0), (20, 5), (20, 25), (5, 0), (20, 5), (20, 25), (5, 0), (20, 5), (20, 25), (4, 0), (20, 5), (20, 4), (20, 4), (20, 8), (21, 8), (20, 15), (20, 15), (2, 0), (20, 5), (22, 2), (5, 0), (20, 5), (20, 25), (5, 0), (20, 5), (20, 25), (20, 2), (21, 2), (0, 0), (20, 8), (20, 5), (20, 5), (20, 5), (20, 6), (0, 0), (20, 8), (20, 5), (20, 5), (20, 5), (20, 6), (7, 0), (20, 736), (21, 2), (20, 8), (20, 5), (20, 5), (20, 6), (20, 240), (20, 8), (20, 15), (20, 6), (20, 5), (20, 4), (20, 4), (20, 5), (20, 8), (21, 8), (20, 15), (20, 15)]
def fkL : List (List (Nat × Nat)) := [[(1, 1), (1, 2), (1, 3), (1, 4), (1, 5), (0, 0), (0, 0), (0, 0)], [(1, 1), (0, 0), (0, 0)], [(1, 1)], [(1, 1), (0, 0), (0, 0), (0, 0), (0, 0)], [(1, 1), (1, 2), (1, 3), (1, 4), (1, 5), (1, 6), (1, 7), (0, 0), (0, 0), (0, 0), (0, 0)], [(1, 1), (1, 2), (0, 0)], [(1, 1), (1, 3), (1, 6), (1, 68), (1, 76), (1, 78), (1, 85), (1, 86), (2, 0), (2, 0), (0, 0), (0, 0)], [(1, 1), (1, 2), (0, 0), (0, 0), (1, 3), (0, 0), (1, 4), (1, 5), (0, 0), (1, 6), (1, 7), (0, 0), (0, 0), (0, 0), (0, 0), (0, 0), (0, 0), (0, 0), (1, 8), (0, 0), (1, 9), (0, 0), (1, 10), (0, 0), (1, 11), (0, 0), (1, 12), (1, 13), (1, 14), (0, 0), (1, 15), (1, 16), (0, 0), (1, 17), (1, 18)]]
def NWs : List (String × Nat × MethodName × String) := [("BodyAccounts", 9, ⟨"BodyAccounts$Reader", "<init>", "()V"⟩, "BodyAccounts"), ("BodyAccounts", 18, ⟨"BodyAccounts$Standing", "<init>", "()V"⟩, "BodyAccounts"), ("BodyAccounts$Past", 17, ⟨"BodyAccounts$Standing", "<init>", "()V"⟩, "BodyAccounts"), ("BodyAccounts", 32, ⟨"BodyAccounts$Slate", "<init>", "()V"⟩, "BodyAccounts"), ("BodyAccounts", 39, ⟨"BodyAccounts$Planner", "<init>", "()V"⟩, "BodyAccounts"), ("BodyAccounts", 58, ⟨"BodyAccounts$Branch", "<init>", "()V"⟩, "BodyAccounts"), ("BodyAccounts$Branch", 37, ⟨"BodyAccounts", "within", "(III)Z"⟩, "BodyAccounts"), ("BodyAccounts$Branch", 52, ⟨"BodyAccounts", "bounded", "(I)I"⟩, "BodyAccounts"), ("BodyAccounts$Standing", 36, ⟨"BodyAccounts", "bounded", "(I)I"⟩, "BodyAccounts"), ("BodyAccounts$Planner", 39, ⟨"BodyAccounts", "bounded", "(I)I"⟩, "BodyAccounts")]
