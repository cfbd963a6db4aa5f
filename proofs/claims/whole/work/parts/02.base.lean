/-! THE WORLD: one list of cells of a fixed shape, class and reference side by side; what changes is σ -/
abbrev GT : Type := va_G × (Nat → ClassId) × (Nat → Nat)
abbrev MT : Type := (Nat → Nat → Int32) × (Nat → Int64)
abbrev XT : Type := Program × Launch × Env × Room × State × MethodId × Array Value × List Frame × Method × Code
def rf (G : GT) (k : Nat) : Value := .ref (G.2.2 k)
def F_TF : u_T := fun k => match k with
  | 0 => ("TimeFlood", "text", "[C", true)
  | 1 => ("TimeFlood", "textLength", "I", false)
  | 2 => ("TimeFlood", "reader", "LTimeFlood$Reader;", true)
  | 3 => ("TimeFlood", "flood", "LTimeFlood$Flood;", true)
  | 4 => ("TimeFlood", "plan", "LTimeFlood$Plan;", true)
  | 5 => ("TimeFlood", "now", "LTimeFlood$State;", true)
  | 6 => ("TimeFlood", "trial", "LTimeFlood$State;", true)
  | 7 => ("TimeFlood", "journal", "LTimeFlood$Journal;", true)
  | 8 => ("TimeFlood", "slots", "[LTimeFlood$State;", true)
  | 9 => ("TimeFlood", "slotFilled", "[Z", true)
  | 10 => ("TimeFlood", "sightings", "LTimeFlood$Sightings;", true)
  | _ => ("TimeFlood", "seedNow", "J", false)
def t_TF : Nat → FieldType := fun k => match k with
  | 0 => (.array .char)
  | 1 => .int
  | 2 => (.object "TimeFlood$Reader")
  | 3 => (.object "TimeFlood$Flood")
  | 4 => (.object "TimeFlood$Plan")
  | 5 => (.object "TimeFlood$State")
  | 6 => (.object "TimeFlood$State")
  | 7 => (.object "TimeFlood$Journal")
  | 8 => (.array (.object "TimeFlood$State"))
  | 9 => (.array .boolean)
  | 10 => (.object "TimeFlood$Sightings")
  | _ => .long
theorem n_TF : ∀ a, a < 12 → ∀ b, b < 12 → a ≠ b → (F_TF a).2.1 ≠ (F_TF b).2.1 := by decide +kernel
theorem t_TF_ok : ∀ k, k < 12 → parseFieldDescriptor (F_TF k).2.2.1 = some (t_TF k) := by decide +kernel
theorem i_TF : ∀ w ∈ u_ws "TimeFlood" F_TF 12, w ∈ GW := (List.forall_mem_cons.mpr ⟨wd_251, List.forall_mem_cons.mpr ⟨wd_253, List.forall_mem_cons.mpr ⟨wd_255, List.forall_mem_cons.mpr ⟨wd_257, List.forall_mem_cons.mpr ⟨wd_259, List.forall_mem_cons.mpr ⟨wd_261, List.forall_mem_cons.mpr ⟨wd_263, List.forall_mem_cons.mpr ⟨wd_265, List.forall_mem_cons.mpr ⟨wd_267, List.forall_mem_cons.mpr ⟨wd_269, List.forall_mem_cons.mpr ⟨wd_271, List.forall_mem_cons.mpr ⟨wd_273, fun _ h => absurd h List.not_mem_nil⟩⟩⟩⟩⟩⟩⟩⟩⟩⟩⟩⟩ : ∀ w ∈ ([.laysFinal "TimeFlood" "TimeFlood" "text" "[C", .lays "TimeFlood" "TimeFlood" "textLength" "I", .laysFinal "TimeFlood" "TimeFlood" "reader" "LTimeFlood$Reader;", .laysFinal "TimeFlood" "TimeFlood" "flood" "LTimeFlood$Flood;", .laysFinal "TimeFlood" "TimeFlood" "plan" "LTimeFlood$Plan;", .laysFinal "TimeFlood" "TimeFlood" "now" "LTimeFlood$State;", .laysFinal "TimeFlood" "TimeFlood" "trial" "LTimeFlood$State;", .laysFinal "TimeFlood" "TimeFlood" "journal" "LTimeFlood$Journal;", .laysFinal "TimeFlood" "TimeFlood" "slots" "[LTimeFlood$State;", .laysFinal "TimeFlood" "TimeFlood" "slotFilled" "[Z", .laysFinal "TimeFlood" "TimeFlood" "sightings" "LTimeFlood$Sightings;", .lays "TimeFlood" "TimeFlood" "seedNow" "J"] : List Cond), w ∈ GW)
def F_Rd : u_T := fun k => match k with
  | 0 => ("TimeFlood$Reader", "draft", "LTimeFlood$Plan;", true)
  | 1 => ("TimeFlood$Reader", "place", "I", false)
  | 2 => ("TimeFlood$Reader", "held", "I", false)
  | _ => ("TimeFlood$Reader", "heldDrift", "I", false)
def t_Rd : Nat → FieldType := fun k => match k with
  | 0 => (.object "TimeFlood$Plan")
  | 1 => .int
  | 2 => .int
  | _ => .int
theorem n_Rd : ∀ a, a < 4 → ∀ b, b < 4 → a ≠ b → (F_Rd a).2.1 ≠ (F_Rd b).2.1 := by decide +kernel
theorem t_Rd_ok : ∀ k, k < 4 → parseFieldDescriptor (F_Rd k).2.2.1 = some (t_Rd k) := by decide +kernel
theorem i_Rd : ∀ w ∈ u_ws "TimeFlood$Reader" F_Rd 4, w ∈ GW := (List.forall_mem_cons.mpr ⟨wd_92, List.forall_mem_cons.mpr ⟨wd_94, List.forall_mem_cons.mpr ⟨wd_96, List.forall_mem_cons.mpr ⟨wd_98, fun _ h => absurd h List.not_mem_nil⟩⟩⟩⟩ : ∀ w ∈ ([.laysFinal "TimeFlood$Reader" "TimeFlood$Reader" "draft" "LTimeFlood$Plan;", .lays "TimeFlood$Reader" "TimeFlood$Reader" "place" "I", .lays "TimeFlood$Reader" "TimeFlood$Reader" "held" "I", .lays "TimeFlood$Reader" "TimeFlood$Reader" "heldDrift" "I"] : List Cond), w ∈ GW)
def F_Pl : u_T := fun k => match k with
  | 0 => ("TimeFlood$Plan", "unit", "I", false)
  | 1 => ("TimeFlood$Plan", "patience", "I", false)
  | 2 => ("TimeFlood$Plan", "shyness", "I", false)
  | 3 => ("TimeFlood$Plan", "nodeCount", "I", false)
  | 4 => ("TimeFlood$Plan", "linkCount", "I", false)
  | 5 => ("TimeFlood$Plan", "drifts", "[I", true)
  | 6 => ("TimeFlood$Plan", "starts", "[I", true)
  | 7 => ("TimeFlood$Plan", "lows", "[I", true)
  | 8 => ("TimeFlood$Plan", "highs", "[I", true)
  | _ => ("TimeFlood$Plan", "links", "[[I", true)
def t_Pl : Nat → FieldType := fun k => match k with
  | 0 => .int
  | 1 => .int
  | 2 => .int
  | 3 => .int
  | 4 => .int
  | 5 => (.array .int)
  | 6 => (.array .int)
  | 7 => (.array .int)
  | 8 => (.array .int)
  | _ => (.array (.array .int))
theorem n_Pl : ∀ a, a < 10 → ∀ b, b < 10 → a ≠ b → (F_Pl a).2.1 ≠ (F_Pl b).2.1 := by decide +kernel
theorem t_Pl_ok : ∀ k, k < 10 → parseFieldDescriptor (F_Pl k).2.2.1 = some (t_Pl k) := by decide +kernel
theorem i_Pl : ∀ w ∈ u_ws "TimeFlood$Plan" F_Pl 10, w ∈ GW := (List.forall_mem_cons.mpr ⟨wd_64, List.forall_mem_cons.mpr ⟨wd_66, List.forall_mem_cons.mpr ⟨wd_68, List.forall_mem_cons.mpr ⟨wd_70, List.forall_mem_cons.mpr ⟨wd_72, List.forall_mem_cons.mpr ⟨wd_74, List.forall_mem_cons.mpr ⟨wd_76, List.forall_mem_cons.mpr ⟨wd_78, List.forall_mem_cons.mpr ⟨wd_80, List.forall_mem_cons.mpr ⟨wd_82, fun _ h => absurd h List.not_mem_nil⟩⟩⟩⟩⟩⟩⟩⟩⟩⟩ : ∀ w ∈ ([.lays "TimeFlood$Plan" "TimeFlood$Plan" "unit" "I", .lays "TimeFlood$Plan" "TimeFlood$Plan" "patience" "I", .lays "TimeFlood$Plan" "TimeFlood$Plan" "shyness" "I", .lays "TimeFlood$Plan" "TimeFlood$Plan" "nodeCount" "I", .lays "TimeFlood$Plan" "TimeFlood$Plan" "linkCount" "I", .laysFinal "TimeFlood$Plan" "TimeFlood$Plan" "drifts" "[I", .laysFinal "TimeFlood$Plan" "TimeFlood$Plan" "starts" "[I", .laysFinal "TimeFlood$Plan" "TimeFlood$Plan" "lows" "[I", .laysFinal "TimeFlood$Plan" "TimeFlood$Plan" "highs" "[I", .laysFinal "TimeFlood$Plan" "TimeFlood$Plan" "links" "[[I"] : List Cond), w ∈ GW)
def F_Fl : u_T := fun k => match k with
  | 0 => ("TimeFlood$Flood", "plan", "LTimeFlood$Plan;", true)
  | 1 => ("TimeFlood$Flood", "sent", "[Z", true)
  | 2 => ("TimeFlood$Flood", "sentRoots", "[I", true)
  | 3 => ("TimeFlood$Flood", "sentNumbers", "[I", true)
  | _ => ("TimeFlood$Flood", "sentEstimates", "[I", true)
def t_Fl : Nat → FieldType := fun k => match k with
  | 0 => (.object "TimeFlood$Plan")
  | 1 => (.array .boolean)
  | 2 => (.array .int)
  | 3 => (.array .int)
  | _ => (.array .int)
theorem n_Fl : ∀ a, a < 5 → ∀ b, b < 5 → a ≠ b → (F_Fl a).2.1 ≠ (F_Fl b).2.1 := by decide +kernel
theorem t_Fl_ok : ∀ k, k < 5 → parseFieldDescriptor (F_Fl k).2.2.1 = some (t_Fl k) := by decide +kernel
theorem i_Fl : ∀ w ∈ u_ws "TimeFlood$Flood" F_Fl 5, w ∈ GW := (List.forall_mem_cons.mpr ⟨wd_115, List.forall_mem_cons.mpr ⟨wd_117, List.forall_mem_cons.mpr ⟨wd_119, List.forall_mem_cons.mpr ⟨wd_121, List.forall_mem_cons.mpr ⟨wd_123, fun _ h => absurd h List.not_mem_nil⟩⟩⟩⟩⟩ : ∀ w ∈ ([.laysFinal "TimeFlood$Flood" "TimeFlood$Flood" "plan" "LTimeFlood$Plan;", .laysFinal "TimeFlood$Flood" "TimeFlood$Flood" "sent" "[Z", .laysFinal "TimeFlood$Flood" "TimeFlood$Flood" "sentRoots" "[I", .laysFinal "TimeFlood$Flood" "TimeFlood$Flood" "sentNumbers" "[I", .laysFinal "TimeFlood$Flood" "TimeFlood$Flood" "sentEstimates" "[I"] : List Cond), w ∈ GW)
def F_St : u_T := fun k => match k with
  | 0 => ("TimeFlood$State", "time", "I", false)
  | 1 => ("TimeFlood$State", "downSet", "I", false)
  | _ => ("TimeFlood$State", "nodes", "[LTimeFlood$Node;", true)
def t_St : Nat → FieldType := fun k => match k with
  | 0 => .int
  | 1 => .int
  | _ => (.array (.object "TimeFlood$Node"))
theorem n_St : ∀ a, a < 3 → ∀ b, b < 3 → a ≠ b → (F_St a).2.1 ≠ (F_St b).2.1 := by decide +kernel
theorem t_St_ok : ∀ k, k < 3 → parseFieldDescriptor (F_St k).2.2.1 = some (t_St k) := by decide +kernel
theorem i_St : ∀ w ∈ u_ws "TimeFlood$State" F_St 3, w ∈ GW := (List.forall_mem_cons.mpr ⟨wd_192, List.forall_mem_cons.mpr ⟨wd_194, List.forall_mem_cons.mpr ⟨wd_196, fun _ h => absurd h List.not_mem_nil⟩⟩⟩ : ∀ w ∈ ([.lays "TimeFlood$State" "TimeFlood$State" "time" "I", .lays "TimeFlood$State" "TimeFlood$State" "downSet" "I", .laysFinal "TimeFlood$State" "TimeFlood$State" "nodes" "[LTimeFlood$Node;"] : List Cond), w ∈ GW)
def F_Nd : u_T := fun k => match k with
  | 0 => ("TimeFlood$Node", "on", "Z", false)
  | 1 => ("TimeFlood$Node", "drift", "I", false)
  | 2 => ("TimeFlood$Node", "root", "I", false)
  | 3 => ("TimeFlood$Node", "number", "I", false)
  | 4 => ("TimeFlood$Node", "heart", "I", false)
  | 5 => ("TimeFlood$Node", "guard", "I", false)
  | 6 => ("TimeFlood$Node", "stampCount", "I", false)
  | 7 => ("TimeFlood$Node", "clocks", "[I", true)
  | 8 => ("TimeFlood$Node", "marks", "[I", true)
  | _ => ("TimeFlood$Node", "ages", "[I", true)
def t_Nd : Nat → FieldType := fun k => match k with
  | 0 => .boolean
  | 1 => .int
  | 2 => .int
  | 3 => .int
  | 4 => .int
  | 5 => .int
  | 6 => .int
  | 7 => (.array .int)
  | 8 => (.array .int)
  | _ => (.array .int)
theorem n_Nd : ∀ a, a < 10 → ∀ b, b < 10 → a ≠ b → (F_Nd a).2.1 ≠ (F_Nd b).2.1 := by decide +kernel
theorem t_Nd_ok : ∀ k, k < 10 → parseFieldDescriptor (F_Nd k).2.2.1 = some (t_Nd k) := by decide +kernel
theorem i_Nd : ∀ w ∈ u_ws "TimeFlood$Node" F_Nd 10, w ∈ GW := (List.forall_mem_cons.mpr ⟨wd_163, List.forall_mem_cons.mpr ⟨wd_165, List.forall_mem_cons.mpr ⟨wd_167, List.forall_mem_cons.mpr ⟨wd_169, List.forall_mem_cons.mpr ⟨wd_171, List.forall_mem_cons.mpr ⟨wd_173, List.forall_mem_cons.mpr ⟨wd_175, List.forall_mem_cons.mpr ⟨wd_177, List.forall_mem_cons.mpr ⟨wd_179, List.forall_mem_cons.mpr ⟨wd_181, fun _ h => absurd h List.not_mem_nil⟩⟩⟩⟩⟩⟩⟩⟩⟩⟩ : ∀ w ∈ ([.lays "TimeFlood$Node" "TimeFlood$Node" "on" "Z", .lays "TimeFlood$Node" "TimeFlood$Node" "drift" "I", .lays "TimeFlood$Node" "TimeFlood$Node" "root" "I", .lays "TimeFlood$Node" "TimeFlood$Node" "number" "I", .lays "TimeFlood$Node" "TimeFlood$Node" "heart" "I", .lays "TimeFlood$Node" "TimeFlood$Node" "guard" "I", .lays "TimeFlood$Node" "TimeFlood$Node" "stampCount" "I", .laysFinal "TimeFlood$Node" "TimeFlood$Node" "clocks" "[I", .laysFinal "TimeFlood$Node" "TimeFlood$Node" "marks" "[I", .laysFinal "TimeFlood$Node" "TimeFlood$Node" "ages" "[I"] : List Cond), w ∈ GW)
def F_Jr : u_T := fun k => match k with
  | 0 => ("TimeFlood$Journal", "states", "[LTimeFlood$State;", true)
  | 1 => ("TimeFlood$Journal", "next", "I", false)
  | _ => ("TimeFlood$Journal", "count", "I", false)
def t_Jr : Nat → FieldType := fun k => match k with
  | 0 => (.array (.object "TimeFlood$State"))
  | 1 => .int
  | _ => .int
theorem n_Jr : ∀ a, a < 3 → ∀ b, b < 3 → a ≠ b → (F_Jr a).2.1 ≠ (F_Jr b).2.1 := by decide +kernel
theorem t_Jr_ok : ∀ k, k < 3 → parseFieldDescriptor (F_Jr k).2.2.1 = some (t_Jr k) := by decide +kernel
theorem i_Jr : ∀ w ∈ u_ws "TimeFlood$Journal" F_Jr 3, w ∈ GW := (List.forall_mem_cons.mpr ⟨wd_212, List.forall_mem_cons.mpr ⟨wd_214, List.forall_mem_cons.mpr ⟨wd_216, fun _ h => absurd h List.not_mem_nil⟩⟩⟩ : ∀ w ∈ ([.laysFinal "TimeFlood$Journal" "TimeFlood$Journal" "states" "[LTimeFlood$State;", .lays "TimeFlood$Journal" "TimeFlood$Journal" "next" "I", .lays "TimeFlood$Journal" "TimeFlood$Journal" "count" "I"] : List Cond), w ∈ GW)
def F_Sg : u_T := fun k => match k with
  | 0 => ("TimeFlood$Sightings", "nodes", "[I", true)
  | 1 => ("TimeFlood$Sightings", "periods", "[I", true)
  | 2 => ("TimeFlood$Sightings", "roots", "[I", true)
  | _ => ("TimeFlood$Sightings", "count", "I", false)
def t_Sg : Nat → FieldType := fun k => match k with
  | 0 => (.array .int)
  | 1 => (.array .int)
  | 2 => (.array .int)
  | _ => .int
theorem n_Sg : ∀ a, a < 4 → ∀ b, b < 4 → a ≠ b → (F_Sg a).2.1 ≠ (F_Sg b).2.1 := by decide +kernel
theorem t_Sg_ok : ∀ k, k < 4 → parseFieldDescriptor (F_Sg k).2.2.1 = some (t_Sg k) := by decide +kernel
theorem i_Sg : ∀ w ∈ u_ws "TimeFlood$Sightings" F_Sg 4, w ∈ GW := (List.forall_mem_cons.mpr ⟨wd_230, List.forall_mem_cons.mpr ⟨wd_232, List.forall_mem_cons.mpr ⟨wd_234, List.forall_mem_cons.mpr ⟨wd_236, fun _ h => absurd h List.not_mem_nil⟩⟩⟩⟩ : ∀ w ∈ ([.laysFinal "TimeFlood$Sightings" "TimeFlood$Sightings" "nodes" "[I", .laysFinal "TimeFlood$Sightings" "TimeFlood$Sightings" "periods" "[I", .laysFinal "TimeFlood$Sightings" "TimeFlood$Sightings" "roots" "[I", .lays "TimeFlood$Sightings" "TimeFlood$Sightings" "count" "I"] : List Cond), w ∈ GW)
def F_M : u_T := fun k => match k with
  | 0 => ("TimeFloodModel", "text", "[I", true)
  | 1 => ("TimeFloodModel", "length", "I", false)
  | 2 => ("TimeFloodModel", "wide", "I", false)
  | 3 => ("TimeFloodModel", "patience", "I", false)
  | 4 => ("TimeFloodModel", "shy", "I", false)
  | 5 => ("TimeFloodModel", "nodes", "I", false)
  | 6 => ("TimeFloodModel", "start", "[I", true)
  | 7 => ("TimeFloodModel", "links", "I", false)
  | 8 => ("TimeFloodModel", "one", "[I", true)
  | 9 => ("TimeFloodModel", "other", "[I", true)
  | 10 => ("TimeFloodModel", "now", "[I", true)
  | 11 => ("TimeFloodModel", "trial", "[I", true)
  | 12 => ("TimeFloodModel", "diary", "[I", true)
  | 13 => ("TimeFloodModel", "acts", "I", false)
  | 14 => ("TimeFloodModel", "next", "I", false)
  | 15 => ("TimeFloodModel", "kept", "[I", true)
  | 16 => ("TimeFloodModel", "isKept", "[Z", true)
  | 17 => ("TimeFloodModel", "seenNode", "[I", true)
  | 18 => ("TimeFloodModel", "seenBehind", "[I", true)
  | 19 => ("TimeFloodModel", "seenRoot", "[I", true)
  | 20 => ("TimeFloodModel", "seen", "I", false)
  | 21 => ("TimeFloodModel", "seed", "J", false)
  | 22 => ("TimeFloodModel", "sends", "[Z", true)
  | 23 => ("TimeFloodModel", "sentRoot", "[I", true)
  | 24 => ("TimeFloodModel", "sentNumber", "[I", true)
  | 25 => ("TimeFloodModel", "sentTime", "[I", true)
  | 26 => ("TimeFloodModel", "wasRoot", "[Z", true)
  | 27 => ("TimeFloodModel", "worth", "[I", true)
  | 28 => ("TimeFloodModel", "readWide", "I", false)
  | 29 => ("TimeFloodModel", "readPatience", "I", false)
  | 30 => ("TimeFloodModel", "readShy", "I", false)
  | 31 => ("TimeFloodModel", "readNodes", "I", false)
  | 32 => ("TimeFloodModel", "readDrift", "[I", true)
  | 33 => ("TimeFloodModel", "readStart", "[I", true)
  | 34 => ("TimeFloodModel", "readLinks", "I", false)
  | 35 => ("TimeFloodModel", "readOne", "[I", true)
  | 36 => ("TimeFloodModel", "readOther", "[I", true)
  | 37 => ("TimeFloodModel", "part", "I", false)
  | _ => ("TimeFloodModel", "place", "I", false)
def t_M : Nat → FieldType := fun k => match k with
  | 0 => (.array .int)
  | 1 => .int
  | 2 => .int
  | 3 => .int
  | 4 => .int
  | 5 => .int
  | 6 => (.array .int)
  | 7 => .int
  | 8 => (.array .int)
  | 9 => (.array .int)
  | 10 => (.array .int)
  | 11 => (.array .int)
  | 12 => (.array .int)
  | 13 => .int
  | 14 => .int
  | 15 => (.array .int)
  | 16 => (.array .boolean)
  | 17 => (.array .int)
  | 18 => (.array .int)
  | 19 => (.array .int)
  | 20 => .int
  | 21 => .long
  | 22 => (.array .boolean)
  | 23 => (.array .int)
  | 24 => (.array .int)
  | 25 => (.array .int)
  | 26 => (.array .boolean)
  | 27 => (.array .int)
  | 28 => .int
  | 29 => .int
  | 30 => .int
  | 31 => .int
  | 32 => (.array .int)
  | 33 => (.array .int)
  | 34 => .int
  | 35 => (.array .int)
  | 36 => (.array .int)
  | 37 => .int
  | _ => .int
theorem n_M : ∀ a, a < 39 → ∀ b, b < 39 → a ≠ b → (F_M a).2.1 ≠ (F_M b).2.1 := by decide +kernel
theorem t_M_ok : ∀ k, k < 39 → parseFieldDescriptor (F_M k).2.2.1 = some (t_M k) := by decide +kernel
theorem i_M : ∀ w ∈ u_ws "TimeFloodModel" F_M 39, w ∈ GW := (List.forall_mem_cons.mpr ⟨wd_702, List.forall_mem_cons.mpr ⟨wd_704, List.forall_mem_cons.mpr ⟨wd_706, List.forall_mem_cons.mpr ⟨wd_708, List.forall_mem_cons.mpr ⟨wd_710, List.forall_mem_cons.mpr ⟨wd_712, List.forall_mem_cons.mpr ⟨wd_714, List.forall_mem_cons.mpr ⟨wd_716, List.forall_mem_cons.mpr ⟨wd_718, List.forall_mem_cons.mpr ⟨wd_720, List.forall_mem_cons.mpr ⟨wd_722, List.forall_mem_cons.mpr ⟨wd_724, List.forall_mem_cons.mpr ⟨wd_726, List.forall_mem_cons.mpr ⟨wd_728, List.forall_mem_cons.mpr ⟨wd_730, List.forall_mem_cons.mpr ⟨wd_732, List.forall_mem_cons.mpr ⟨wd_734, List.forall_mem_cons.mpr ⟨wd_736, List.forall_mem_cons.mpr ⟨wd_738, List.forall_mem_cons.mpr ⟨wd_740, List.forall_mem_cons.mpr ⟨wd_742, List.forall_mem_cons.mpr ⟨wd_744, List.forall_mem_cons.mpr ⟨wd_746, List.forall_mem_cons.mpr ⟨wd_748, List.forall_mem_cons.mpr ⟨wd_750, List.forall_mem_cons.mpr ⟨wd_752, List.forall_mem_cons.mpr ⟨wd_754, List.forall_mem_cons.mpr ⟨wd_756, List.forall_mem_cons.mpr ⟨wd_758, List.forall_mem_cons.mpr ⟨wd_760, List.forall_mem_cons.mpr ⟨wd_762, List.forall_mem_cons.mpr ⟨wd_764, List.forall_mem_cons.mpr ⟨wd_766, List.forall_mem_cons.mpr ⟨wd_768, List.forall_mem_cons.mpr ⟨wd_770, List.forall_mem_cons.mpr ⟨wd_772, List.forall_mem_cons.mpr ⟨wd_774, List.forall_mem_cons.mpr ⟨wd_776, List.forall_mem_cons.mpr ⟨wd_778, fun _ h => absurd h List.not_mem_nil⟩⟩⟩⟩⟩⟩⟩⟩⟩⟩⟩⟩⟩⟩⟩⟩⟩⟩⟩⟩⟩⟩⟩⟩⟩⟩⟩⟩⟩⟩⟩⟩⟩⟩⟩⟩⟩⟩⟩ : ∀ w ∈ ([.laysFinal "TimeFloodModel" "TimeFloodModel" "text" "[I", .lays "TimeFloodModel" "TimeFloodModel" "length" "I", .lays "TimeFloodModel" "TimeFloodModel" "wide" "I", .lays "TimeFloodModel" "TimeFloodModel" "patience" "I", .lays "TimeFloodModel" "TimeFloodModel" "shy" "I", .lays "TimeFloodModel" "TimeFloodModel" "nodes" "I", .laysFinal "TimeFloodModel" "TimeFloodModel" "start" "[I", .lays "TimeFloodModel" "TimeFloodModel" "links" "I", .laysFinal "TimeFloodModel" "TimeFloodModel" "one" "[I", .laysFinal "TimeFloodModel" "TimeFloodModel" "other" "[I", .laysFinal "TimeFloodModel" "TimeFloodModel" "now" "[I", .laysFinal "TimeFloodModel" "TimeFloodModel" "trial" "[I", .laysFinal "TimeFloodModel" "TimeFloodModel" "diary" "[I", .lays "TimeFloodModel" "TimeFloodModel" "acts" "I", .lays "TimeFloodModel" "TimeFloodModel" "next" "I", .laysFinal "TimeFloodModel" "TimeFloodModel" "kept" "[I", .laysFinal "TimeFloodModel" "TimeFloodModel" "isKept" "[Z", .laysFinal "TimeFloodModel" "TimeFloodModel" "seenNode" "[I", .laysFinal "TimeFloodModel" "TimeFloodModel" "seenBehind" "[I", .laysFinal "TimeFloodModel" "TimeFloodModel" "seenRoot" "[I", .lays "TimeFloodModel" "TimeFloodModel" "seen" "I", .lays "TimeFloodModel" "TimeFloodModel" "seed" "J", .laysFinal "TimeFloodModel" "TimeFloodModel" "sends" "[Z", .laysFinal "TimeFloodModel" "TimeFloodModel" "sentRoot" "[I", .laysFinal "TimeFloodModel" "TimeFloodModel" "sentNumber" "[I", .laysFinal "TimeFloodModel" "TimeFloodModel" "sentTime" "[I", .laysFinal "TimeFloodModel" "TimeFloodModel" "wasRoot" "[Z", .laysFinal "TimeFloodModel" "TimeFloodModel" "worth" "[I", .lays "TimeFloodModel" "TimeFloodModel" "readWide" "I", .lays "TimeFloodModel" "TimeFloodModel" "readPatience" "I", .lays "TimeFloodModel" "TimeFloodModel" "readShy" "I", .lays "TimeFloodModel" "TimeFloodModel" "readNodes" "I", .laysFinal "TimeFloodModel" "TimeFloodModel" "readDrift" "[I", .laysFinal "TimeFloodModel" "TimeFloodModel" "readStart" "[I", .lays "TimeFloodModel" "TimeFloodModel" "readLinks" "I", .laysFinal "TimeFloodModel" "TimeFloodModel" "readOne" "[I", .laysFinal "TimeFloodModel" "TimeFloodModel" "readOther" "[I", .lays "TimeFloodModel" "TimeFloodModel" "part" "I", .lays "TimeFloodModel" "TimeFloodModel" "place" "I"] : List Cond), w ∈ GW)
abbrev classes : List vw_C := [("TimeFlood", F_TF, 12), ("TimeFlood$Reader", F_Rd, 4), ("TimeFlood$Plan", F_Pl, 10), ("TimeFlood$Flood", F_Fl, 5), ("TimeFlood$State", F_St, 3), ("TimeFlood$Node", F_Nd, 10), ("TimeFlood$Journal", F_Jr, 3), ("TimeFlood$Sightings", F_Sg, 4), ("TimeFloodModel", F_M, 39)]
def tysW (E : Nat → ClassId) : List (ClassId × FieldType) := [(E 0, .int), (E 1, .char), (E 2, .boolean), (E 3, .object "TimeFlood$State"), (E 4, .object "TimeFlood$Node"), (E 5, .array .int)]
/-- the kind of each cell -/
def kdf (k : Nat) : Nat := if k < 61 then ([0, 20, 1, 2, 11, 11, 13, 13, 33, 11, 11, 11, 11, 11, 3, 2, 11, 11, 13, 13, 33, 11, 11, 11, 11, 11, 21, 11, 11, 11, 6, 31, 30, 22, 7, 12, 12, 12, 8, 14, 11, 13, 13, 15, 15, 16, 17, 22, 12, 12, 12, 21, 11, 11, 11, 21, 18, 11, 11, 13, 13] : List Nat).getD k 99 else if k < 457 then (if (k - 61) % 22 = 0 then 4 else if (k - 61) % 22 = 1 then 32 else if ((k - 61) % 22 - 2) % 4 = 0 then 5 else 10) else 99
def cont (G : GT) (kd k : Nat) (g : Nat → Int32) (h : Int64) : va_E := match kd with
  | 0 => .inr (0, [.ref (G.2.2 1), .int (g 1), .ref (G.2.2 2), .ref (G.2.2 14), .ref (G.2.2 15), .ref (G.2.2 61), .ref (G.2.2 83), .ref (G.2.2 30), .ref (G.2.2 32), .ref (G.2.2 33), .ref (G.2.2 34), .long h])
  | 1 => .inr (1, [.ref (G.2.2 3), .int (g 1), .int (g 2), .int (g 3)])
  | 2 => .inr (2, [.int (g 0), .int (g 1), .int (g 2), .int (g 3), .int (g 4), .ref (G.2.2 (k + 1)), .ref (G.2.2 (k + 2)), .ref (G.2.2 (k + 3)), .ref (G.2.2 (k + 4)), .ref (G.2.2 (k + 5))])
  | 3 => .inr (3, [.ref (G.2.2 15), .ref (G.2.2 26), .ref (G.2.2 27), .ref (G.2.2 28), .ref (G.2.2 29)])
  | 4 => .inr (4, [.int (g 0), .int (g 1), .ref (G.2.2 (k + 1))])
  | 5 => .inr (5, [.int (g 0), .int (g 1), .int (g 2), .int (g 3), .int (g 4), .int (g 5), .int (g 6), .ref (G.2.2 (k + 1)), .ref (G.2.2 (k + 2)), .ref (G.2.2 (k + 3))])
  | 6 => .inr (6, [.ref (G.2.2 31), .int (g 1), .int (g 2)])
  | 7 => .inr (7, [.ref (G.2.2 35), .ref (G.2.2 36), .ref (G.2.2 37), .int (g 3)])
  | 8 => .inr (8, [.ref (G.2.2 39), .int (g 1), .int (g 2), .int (g 3), .int (g 4), .int (g 5), .ref (G.2.2 40), .int (g 7), .ref (G.2.2 41), .ref (G.2.2 42), .ref (G.2.2 43), .ref (G.2.2 44), .ref (G.2.2 45), .int (g 13), .int (g 14), .ref (G.2.2 46), .ref (G.2.2 47), .ref (G.2.2 48), .ref (G.2.2 49), .ref (G.2.2 50), .int (g 20), .long h, .ref (G.2.2 51), .ref (G.2.2 52), .ref (G.2.2 53), .ref (G.2.2 54), .ref (G.2.2 55), .ref (G.2.2 56), .int (g 28), .int (g 29), .int (g 30), .int (g 31), .ref (G.2.2 57), .ref (G.2.2 58), .int (g 34), .ref (G.2.2 59), .ref (G.2.2 60), .int (g 37), .int (g 38)])
  | 10 => .inl (G.2.1 0, 4, .inl g)
  | 11 => .inl (G.2.1 0, 5, .inl g)
  | 12 => .inl (G.2.1 0, 6, .inl g)
  | 13 => .inl (G.2.1 0, 7, .inl g)
  | 14 => .inl (G.2.1 0, 60, .inl g)
  | 15 => .inl (G.2.1 0, 103, .inl g)
  | 16 => .inl (G.2.1 0, 1442, .inl g)
  | 17 => .inl (G.2.1 0, 206, .inl g)
  | 18 => .inl (G.2.1 0, 32, .inl g)
  | 20 => .inl (G.2.1 1, 60, .inl g)
  | 21 => .inl (G.2.1 2, 5, .inl g)
  | 22 => .inl (G.2.1 2, 2, .inl g)
  | 30 => .inl (G.2.1 3, 2, .inr (.inr (.inr (.inr (fun j => some (G.2.2 (105 + 22 * j)))))))
  | 31 => .inl (G.2.1 3, 14, .inr (.inr (.inr (.inr (fun j => some (G.2.2 (149 + 22 * j)))))))
  | 32 => .inl (G.2.1 4, 5, .inr (.inr (.inr (.inr (fun j => some (G.2.2 (k + 1 + 4 * j)))))))
  | 33 => .inl (G.2.1 5, 5, .inr (.inr (.inr (.inr (fun j => some (G.2.2 (k + 1 + j)))))))
  | _ => .inl (G.2.1 0, 0, .inl g)
def cellOf (G : GT) (σ : MT) (k : Nat) : Nat × va_E := (G.2.2 k, cont G (kdf k) k (σ.1 k) (σ.2 k))
def wld (G : GT) (σ : MT) : va_W := (List.range 457).map (cellOf G σ)
def sA (σ : MT) (k : Nat) (g : Nat → Int32) : MT := (fun a => if a = k then g else σ.1 a, σ.2)
def sI (σ : MT) (k j : Nat) (v : Int32) : MT := sA σ k (upd (σ.1 k) j v)
def sL (σ : MT) (k : Nat) (v : Int64) : MT := (σ.1, fun a => if a = k then v else σ.2 a)
theorem kdf_lt {k : Nat} (h : kdf k ≠ 99) : k < 457 := by
  rcases Nat.lt_or_ge k 457 with q | q
  · exact q
  · exact absurd (by unfold kdf; rw [if_neg (by omega), if_neg (by omega)]) h
theorem wld_get {G : GT} {σ : MT} {k : Nat} (h : k < 457) : (wld G σ)[k]? = some (cellOf G σ k) := by
  unfold wld
  rw [List.getElem?_map, List.getElem?_range h]
  rfl
theorem wld_at {G : GT} {σ : MT} {k : Nat} {q : Nat × va_E} (h : (wld G σ)[k]? = some q) : k < 457 ∧ q = cellOf G σ k := by
  have h1 : k < 457 := by
    have h2 := (List.getElem?_eq_some_iff.mp h).1
    unfold wld at h2
    simpa using h2
  refine ⟨h1, ?_⟩
  rw [wld_get h1] at h
  exact (Option.some.inj h).symm
theorem wld_set {G : GT} {σ : MT} {k : Nat} (g : Nat → Int32) : (wld G σ).set k (G.2.2 k, cont G (kdf k) k g (σ.2 k)) = wld G (sA σ k g) := by
  unfold wld
  apply List.ext_getElem?
  intro i
  rw [List.getElem?_set]
  by_cases hi : k = i
  · subst hi
    by_cases hk : k < 457
    · rw [if_pos rfl, if_pos (by simpa using hk), List.getElem?_map, List.getElem?_range hk]
      simp [cellOf, sA]
    · rw [if_pos rfl, if_neg (by simpa using hk), List.getElem?_map, List.getElem?_eq_none (by simpa using hk)]
      rfl
  · rw [if_neg hi, List.getElem?_map, List.getElem?_map]
    by_cases hk : i < 457
    · rw [List.getElem?_range hk]
      simp [cellOf, sA, Ne.symm hi]
    · rw [List.getElem?_eq_none (by simpa using hk)]
      rfl
theorem wld_setL {G : GT} {σ : MT} {k : Nat} (v : Int64) : (wld G σ).set k (G.2.2 k, cont G (kdf k) k (σ.1 k) v) = wld G (sL σ k v) := by
  unfold wld
  apply List.ext_getElem?
  intro i
  rw [List.getElem?_set]
  by_cases hi : k = i
  · subst hi
    by_cases hk : k < 457
    · rw [if_pos rfl, if_pos (by simpa using hk), List.getElem?_map, List.getElem?_range hk]
      simp [cellOf, sL]
    · rw [if_pos rfl, if_neg (by simpa using hk), List.getElem?_map, List.getElem?_eq_none (by simpa using hk)]
      rfl
  · rw [if_neg hi, List.getElem?_map, List.getElem?_map]
    by_cases hk : i < 457
    · rw [List.getElem?_range hk]
      simp [cellOf, sL, Ne.symm hi]
    · rw [List.getElem?_eq_none (by simpa using hk)]
      rfl
def AW (G : GT) : Nat → Prop := fun q => ∃ k, k < 457 ∧ q = G.2.2 k
def INJ (G : GT) : Prop := ∀ i j, i < 457 → j < 457 → G.2.2 i = G.2.2 j → i = j
theorem wld_D {G : GT} {σ : MT} (h : INJ G) : va_D (AW G) (wld G σ) := by
  refine ⟨fun i j p q hi hj e => ?_, fun k q hk => ?_⟩
  · obtain ⟨a1, rfl⟩ := wld_at hi
    obtain ⟨a2, rfl⟩ := wld_at hj
    exact h i j a1 a2 e
  · obtain ⟨a1, rfl⟩ := wld_at hk
    exact ⟨k, a1, rfl⟩
-- what the statics hold
def thV (j : Nat) : Int64 := ([1, 1000, 1000000, 1000000000, 1000000000000] : List Int64).getD j 0
def faV (j : Nat) : Int32 := ([1, 1, 2, 6, 24, 120] : List Int32).getD j 0
def ST (G : GT) (U : State) (H : Heap) : Prop := ∃ t1 t2 : Nat, va_Z "TimeFlood" "THOUSANDS" "[J" (.ref t1) (AW G) U H ∧ va_T .long t1 5 (fun j => .long (thV j)) (AW G) U H ∧ va_Z "TimeFlood" "FACTORIALS" "[I" (.ref t2) (AW G) U H ∧ va_T .int t2 6 (fun j => .int (faV j)) (AW G) U H
theorem ST.moved {G : GT} {u U : State} {H : Heap} (hvm : u.vm.Alike U.vm) (h : ST G u H) : ST G U H := by
  obtain ⟨t1, t2, h1, h2, h3, h4⟩ := h
  exact ⟨t1, t2, h1.moved hvm, h2.moved hvm, h3.moved hvm, h4.moved hvm⟩
theorem ST.kept {G : GT} {U : State} {H H1 : Heap} (h : ST G U H) (hq : ∀ a : Nat, a < H.size → ¬ AW G a → H1[a]? = H[a]?) : ST G U H1 := by
  obtain ⟨t1, t2, h1, h2, h3, h4⟩ := h
  exact ⟨t1, t2, h1.kept hq, h2.kept hq, h3.kept hq, h4.kept hq⟩
-- the words of nest mates
def y_near : MethodName := ⟨"TimeFlood", "near", "(I)I"⟩
def NW (U : State) : Prop := va_Nw (.methodLinkNest "TimeFlood$Node" 70 y_near "TimeFlood") U ∧ va_Nw (.methodLinkNest "TimeFlood$Flood" 131 y_near "TimeFlood") U
theorem NW.same {u U : State} (h : u.vm = U.vm) (hZ : NW u) : NW U := ⟨va_Nw.same rfl h hZ.1, va_Nw.same rfl h hZ.2⟩
theorem NW.warm {s U : State} (hW : s.WarmedH U.vm) (hZ : NW s) : NW U := ⟨va_Nw.warmM hW hZ.1, va_Nw.warmM hW hZ.2⟩
/-- a state that holds the world σ -/
def Wd (G : GT) (σ : MT) (U : State) : Prop := va_P G.1 classes (wld G σ) U.heap ∧ va_K G.1 classes (tysW G.2.1) U ∧ INJ G ∧ NW U ∧ ST G U U.heap
theorem Wd.call {G : GT} {σ : MT} {U : State} (h : Wd G σ U) (g : JFrame) (mk : MethodId) (a : Array Value) : Wd G σ (U.calling g mk a) :=
  ⟨h.1, va_K.moved (u := U) (U := U.calling g mk a) (Vm.Alike.refl U.vm) h.2.1, h.2.2.1, NW.same (u := U) (U := U.calling g mk a) rfl h.2.2.2.1, ST.moved (u := U) (U := U.calling g mk a) (Vm.Alike.refl U.vm) h.2.2.2.2⟩
/-- THE JUDGEMENT: wherever the heap holds σ, at pc with these locals and this stack, the run comes to Q -/
def JW (X : XT) (G : GT) (Q : State → Prop) (nL pc : Nat) (lv : List (Nat × Value)) (st : List Value) (σ : MT) : Prop :=
  match X with
  | (p, l, e, R, s, m, args, below, meth, c) => ∀ (H : Heap) (locs : List Loc) (ls : Array Slot), va_P G.1 classes (wld G σ) H → va_S (AW G) s.heap H locs → lv_has ls nL lv → W p l e R s m args below meth c H locs 0 0 Q (F0 m pc ls st)
/-- what holds all through a method's body -/
def CX (X : XT) (G : GT) (cc : ByteArray) (nL : Nat) (own : String) (fr lo : Nat) : Prop :=
  match X with
  | (p, l, e, R, s, m, args, below, meth, c) => p.tables.exec = Jvm.exec ∧ c.code = cc ∧ c.maxLocals = nL ∧ s.vm.findClass own = some m.cls ∧ (∀ w ∈ GW, w.before args s = true) ∧ va_K G.1 classes (tysW G.2.1) s ∧ INJ G ∧ NW s ∧ ST G s s.heap ∧ fr ≤ R.frames ∧ lo ≤ R.locals ∧ meth.locks = false
def XL (X : XT) : Launch := X.2.1
def XR (X : XT) (ret : Option FieldType) : Prop := X.2.2.2.2.2.2.2.2.1.sig.returnType = ret
def RM (fr lo : Nat) : Room := { frames := fr, cells := 0, slots := 0, locals := lo }
def WS (y : MethodName) (bytes : ByteArray) (maxL : Nat) (ret : Option FieldType) : List Cond := .code y bytes maxL ret :: GW
def PI (G : GT) (r0 : Int32) (σ0 : MT) : Array Value → State → Outcome → State → Prop := va_Qi (fun (r : Int32) (u : MT) => r = r0 ∧ u = σ0) (Wd G) (AW G)
def PL (G : GT) (r0 : Int64) (σ0 : MT) : Array Value → State → Outcome → State → Prop := va_Ql (fun (r : Int64) (u : MT) => r = r0 ∧ u = σ0) (Wd G) (AW G)
def PV (G : GT) (σ0 : MT) : Array Value → State → Outcome → State → Prop := va_Qv (fun (u : MT) => u = σ0) (Wd G) (AW G)
/-- contracts: from σ, with these arguments, the method answers r0 and leaves σ0 -/
def CTI (l : Launch) (G : GT) (y : MethodName) (bytes : ByteArray) (maxL : Nat) (ret : Option FieldType) (fr lo : Nat) (av : List Value) (σ : MT) (r0 : Int32) (σ0 : MT) : Prop := Met l y (WS y bytes maxL ret) (RM fr lo) (va_Pc av (Wd G σ)) (PI G r0 σ0) 0 0 (AW G)
def CTL (l : Launch) (G : GT) (y : MethodName) (bytes : ByteArray) (maxL : Nat) (ret : Option FieldType) (fr lo : Nat) (av : List Value) (σ : MT) (r0 : Int64) (σ0 : MT) : Prop := Met l y (WS y bytes maxL ret) (RM fr lo) (va_Pc av (Wd G σ)) (PL G r0 σ0) 0 0 (AW G)
def CTV (l : Launch) (G : GT) (y : MethodName) (bytes : ByteArray) (maxL : Nat) (ret : Option FieldType) (fr lo : Nat) (av : List Value) (σ : MT) (σ0 : MT) : Prop := Met l y (WS y bytes maxL ret) (RM fr lo) (va_Pc av (Wd G σ)) (PV G σ0) 0 0 (AW G)
def QX (X : XT) (Qc : Array Value → State → Outcome → State → Prop) (G : GT) : State → Prop :=
  match X with
  | (p, l, e, R, s, m, args, below, meth, c) => MQ below Qc args s 0 0 (AW G)
/-- from the body to the contract; also for a class of the JDK's of which some methods are run by an entry, this one not -/
theorem ofWF {l : Launch} {y : MethodName} {ws ws' : List Cond} {rm : Room} {Pc : Array Value → State → Prop} {Qc : Array Value → State → Outcome → State → Prop} {mc ms : Nat} {free : Addr → Prop} {cc : ByteArray} {maxL : Nat} {ret : Option FieldType}
    (hy : plainFor y = true) (hw : ws = Cond.code y cc maxL ret :: ws')
    (body : ∀ p e s m args below meth c s₁, BodyLoose p l y (headSpec ws rm) cc maxL ret e s m args below meth c s₁ → c.maxLocals = maxL → Pc args s →
      W p l e (headSpec ws rm).room s m args below meth c s.heap [] 0 0 (MQ below Qc args s mc ms free) (entryFrame m args maxL)) : Met l y ws rm Pc Qc mc ms free := by
  refine MetFree.of_bodySF (code := cc) (maxLocals := maxL) (ret := ret) hy ?_ ?_
  · intro args s m h hn
    obtain ⟨meth, c, h1, h2, h3, h4, h5, h6, -, -⟩ := Cond.code_spec hn (atoms_spec (ws := ws) h _ (by rw [hw]; exact List.mem_cons_self))
    exact ⟨meth, c, h1, h2, h3, h4, h5, h6⟩
  · intro p e s m args below meth c s₁ B hml hP _
    have hh0 : s₁.heap = s.heap := by rw [B.state]; rfl
    obtain ⟨t, a1, o, b1, b2, b3⟩ := body p e s m args below meth c s₁ B hml hP s₁ hh0 (Stand.of_body B)
    exact ⟨t, o, a1, b1, b2, ⟨b3.1, b3.2⟩⟩
theorem entX {l : Launch} {G : GT} {y : MethodName} {cc : ByteArray} {maxL : Nat} {ret : Option FieldType} {fr lo : Nat} {av : List Value} {σ : MT} {Qc : Array Value → State → Outcome → State → Prop} (lv : List (Nat × Value)) (own : String) (hy : plainFor y = true) (ho : y.cls = own) (hlv : lv_args 0 av = lv) (hn : (lg_sl av).length ≤ maxL)
    (k : ∀ X : XT, XL X = l → XR X ret → CX X G cc maxL own fr lo → JW X G (QX X Qc G) maxL 0 lv [] σ) : Met l y (WS y cc maxL ret) (RM fr lo) (va_Pc av (Wd G σ)) Qc 0 0 (AW G) := by
  subst hlv
  subst ho
  refine ofWF (cc := cc) (maxL := maxL) (ret := ret) hy rfl ?_
  intro p e s m args below meth c s₁ B hml hv
  obtain ⟨rfl, hP, hK, hI, hN, hZ⟩ := hv
  have hts : ∀ w ∈ GW, w.before av.toArray s = true := fun w hw => atoms_spec (ws := WS y cc maxL ret) B.pre w (List.mem_cons_of_mem _ hw)
  have hown : s.vm.findClass y.cls = some m.cls := findClass_of_methodNamed B.named
  have hl := lv_entry av (n := maxL) hn
  rw [lg_entry_eq]
  exact k (p, l, e, RM fr lo, s, m, av.toArray, below, meth, c) rfl B.returns ⟨B.exec, B.bytes, hml, hown, hts, hK, hI, hN, hZ, Nat.le_refl _, Nat.le_refl _, B.notSynchronized⟩ s.heap [] _ hP va_S.rf hl
-- facts out of f = some ..
theorem g_if {α : Type} {c : Prop} [Decidable c] {a : Option α} {z : α} (h : (if c then a else none) = some z) : c ∧ a = some z := by
  by_cases hc : c
  · rw [if_pos hc] at h; exact ⟨hc, h⟩
  · rw [if_neg hc] at h; cases h
theorem g_bind {α β : Type} {o : Option α} {f : α → Option β} {z : β} (h : o.bind f = some z) : ∃ q, o = some q ∧ f q = some z := by
  cases o with
  | none => cases h
  | some q => exact ⟨q, rfl, h⟩
theorem g_ite {α : Type} {c : Prop} [Decidable c] {a b z : α} {P : Prop} (h : (if c then a else b) = z) (ht : c → a = z → P) (hf : ¬ c → b = z → P) : P := by
  by_cases hc : c
  · rw [if_pos hc] at h; exact ht hc h
  · rw [if_neg hc] at h; exact hf hc h

