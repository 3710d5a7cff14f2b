def RX0 : String := "WardrobeRow$Book"
def TX0 : u_T := fun k => match k with
  | 0 => ("WardrobeRow$Book", "verbs", "[I", true)
  | 1 => ("WardrobeRow$Book", "doers", "[I", true)
  | 2 => ("WardrobeRow$Book", "objects", "[I", true)
  | 3 => ("WardrobeRow$Book", "buyers", "[I", true)
  | 4 => ("WardrobeRow$Book", "lines", "I", false)
  | 5 => ("WardrobeRow$Book", "judged", "Z", false)
  | 6 => ("WardrobeRow$Book", "why", "I", false)
  | 7 => ("WardrobeRow$Book", "rightLines", "I", false)
  | 8 => ("WardrobeRow$Book", "minuteThen", "I", false)
  | _ => ("WardrobeRow$Book", "died", "I", false)
def tyX0 : Nat → FieldType := fun k => match k with
  | 0 => .array .int
  | 1 => .array .int
  | 2 => .array .int
  | 3 => .array .int
  | 4 => .int
  | 5 => .boolean
  | 6 => .int
  | 7 => .int
  | 8 => .int
  | _ => .int
theorem nmX0 : ∀ a, a < 10 → ∀ b, b < 10 → a ≠ b → (TX0 a).2.1 ≠ (TX0 b).2.1 := by decide +kernel
theorem tyX0_ok : ∀ k, k < 10 → parseFieldDescriptor (TX0 k).2.2.1 = some (tyX0 k) := by decide +kernel
def RX1 : String := "WardrobeRow$Deeds"
def TX1 : u_T := fun k => match k with
  | 0 => ("WardrobeRow$Deeds", "ownerOf", "[I", true)
  | 1 => ("WardrobeRow$Deeds", "roomOf", "[I", true)
  | 2 => ("WardrobeRow$Deeds", "heirOf", "[I", true)
  | 3 => ("WardrobeRow$Deeds", "letBy", "[I", true)
  | 4 => ("WardrobeRow$Deeds", "goingsOf", "[I", true)
  | 5 => ("WardrobeRow$Deeds", "burnt", "I", false)
  | 6 => ("WardrobeRow$Deeds", "dead", "I", false)
  | 7 => ("WardrobeRow$Deeds", "shutDoors", "I", false)
  | 8 => ("WardrobeRow$Deeds", "minute", "I", false)
  | _ => ("WardrobeRow$Deeds", "sales", "I", false)
def tyX1 : Nat → FieldType := fun k => match k with
  | 0 => .array .int
  | 1 => .array .int
  | 2 => .array .int
  | 3 => .array .int
  | 4 => .array .int
  | 5 => .int
  | 6 => .int
  | 7 => .int
  | 8 => .int
  | _ => .int
theorem nmX1 : ∀ a, a < 10 → ∀ b, b < 10 → a ≠ b → (TX1 a).2.1 ≠ (TX1 b).2.1 := by decide +kernel
theorem tyX1_ok : ∀ k, k < 10 → parseFieldDescriptor (TX1 k).2.2.1 = some (tyX1 k) := by decide +kernel
def RX2 : String := "WardrobeRow$Draws"
def TX2 : u_T := fun k => match k with
  | _ => ("WardrobeRow$Draws", "x", "I", false)
def tyX2 : Nat → FieldType := fun k => match k with
  | _ => .int
theorem nmX2 : ∀ a, a < 1 → ∀ b, b < 1 → a ≠ b → (TX2 a).2.1 ≠ (TX2 b).2.1 := by decide +kernel
theorem tyX2_ok : ∀ k, k < 1 → parseFieldDescriptor (TX2 k).2.2.1 = some (tyX2 k) := by decide +kernel
def RX3 : String := "WardrobeRow$Fires"
def TX3 : u_T := fun k => match k with
  | 0 => ("WardrobeRow$Fires", "flow", "[I", true)
  | _ => ("WardrobeRow$Fires", "cameBy", "[I", true)
def tyX3 : Nat → FieldType := fun k => match k with
  | 0 => .array .int
  | _ => .array .int
theorem nmX3 : ∀ a, a < 2 → ∀ b, b < 2 → a ≠ b → (TX3 a).2.1 ≠ (TX3 b).2.1 := by decide +kernel
theorem tyX3_ok : ∀ k, k < 2 → parseFieldDescriptor (TX3 k).2.2.1 = some (tyX3 k) := by decide +kernel
def RX4 : String := "WardrobeRow$Market"
def TX4 : u_T := fun k => match k with
  | 0 => ("WardrobeRow$Market", "gets", "[I", true)
  | 1 => ("WardrobeRow$Market", "ringsOfMore", "I", false)
  | 2 => ("WardrobeRow$Market", "priceOf", "[I", true)
  | 3 => ("WardrobeRow$Market", "wantedBy", "[I", true)
  | 4 => ("WardrobeRow$Market", "priced", "Z", false)
  | 5 => ("WardrobeRow$Market", "brings", "[I", true)
  | 6 => ("WardrobeRow$Market", "bringerOf", "[I", true)
  | _ => ("WardrobeRow$Market", "pointsTo", "[I", true)
def tyX4 : Nat → FieldType := fun k => match k with
  | 0 => .array .int
  | 1 => .int
  | 2 => .array .int
  | 3 => .array .int
  | 4 => .boolean
  | 5 => .array .int
  | 6 => .array .int
  | _ => .array .int
theorem nmX4 : ∀ a, a < 8 → ∀ b, b < 8 → a ≠ b → (TX4 a).2.1 ≠ (TX4 b).2.1 := by decide +kernel
theorem tyX4_ok : ∀ k, k < 8 → parseFieldDescriptor (TX4 k).2.2.1 = some (tyX4 k) := by decide +kernel
def RX5 : String := "WardrobeRow$Past"
def TX5 : u_T := fun k => match k with
  | 0 => ("WardrobeRow$Past", "rows", "[LWardrobeRow$Deeds;", true)
  | 1 => ("WardrobeRow$Past", "oldest", "I", false)
  | _ => ("WardrobeRow$Past", "kept", "I", false)
def tyX5 : Nat → FieldType := fun k => match k with
  | 0 => .array (.object "WardrobeRow$Deeds")
  | 1 => .int
  | _ => .int
theorem nmX5 : ∀ a, a < 3 → ∀ b, b < 3 → a ≠ b → (TX5 a).2.1 ≠ (TX5 b).2.1 := by decide +kernel
theorem tyX5_ok : ∀ k, k < 3 → parseFieldDescriptor (TX5 k).2.2.1 = some (tyX5 k) := by decide +kernel
def RX6 : String := "WardrobeRow$Sentence"
def TX6 : u_T := fun k => match k with
  | 0 => ("WardrobeRow$Sentence", "words", "[I", true)
  | 1 => ("WardrobeRow$Sentence", "values", "[I", true)
  | 2 => ("WardrobeRow$Sentence", "stack", "[I", true)
  | 3 => ("WardrobeRow$Sentence", "size", "I", false)
  | _ => ("WardrobeRow$Sentence", "ones", "I", false)
def tyX6 : Nat → FieldType := fun k => match k with
  | 0 => .array .int
  | 1 => .array .int
  | 2 => .array .int
  | 3 => .int
  | _ => .int
theorem nmX6 : ∀ a, a < 5 → ∀ b, b < 5 → a ≠ b → (TX6 a).2.1 ≠ (TX6 b).2.1 := by decide +kernel
theorem tyX6_ok : ∀ k, k < 5 → parseFieldDescriptor (TX6 k).2.2.1 = some (tyX6 k) := by decide +kernel
def RX7 : String := "WardrobeRow$Tape"
def TX7 : u_T := fun k => match k with
  | 0 => ("WardrobeRow$Tape", "bytes", "[B", true)
  | 1 => ("WardrobeRow$Tape", "length", "I", false)
  | 2 => ("WardrobeRow$Tape", "faultKind", "I", false)
  | 3 => ("WardrobeRow$Tape", "faultPlace", "I", false)
  | 4 => ("WardrobeRow$Tape", "kind", "I", false)
  | 5 => ("WardrobeRow$Tape", "start", "I", false)
  | 6 => ("WardrobeRow$Tape", "value", "I", false)
  | 7 => ("WardrobeRow$Tape", "code", "J", false)
  | 8 => ("WardrobeRow$Tape", "keywordCodes", "[J", true)
  | 9 => ("WardrobeRow$Tape", "limit", "I", false)
  | _ => ("WardrobeRow$Tape", "next", "I", false)
def tyX7 : Nat → FieldType := fun k => match k with
  | 0 => .array .byte
  | 1 => .int
  | 2 => .int
  | 3 => .int
  | 4 => .int
  | 5 => .int
  | 6 => .int
  | 7 => .long
  | 8 => .array .long
  | 9 => .int
  | _ => .int
theorem nmX7 : ∀ a, a < 11 → ∀ b, b < 11 → a ≠ b → (TX7 a).2.1 ≠ (TX7 b).2.1 := by decide +kernel
theorem tyX7_ok : ∀ k, k < 11 → parseFieldDescriptor (TX7 k).2.2.1 = some (tyX7 k) := by decide +kernel
def RX8 : String := "WardrobeRow$Terrace"
def TX8 : u_T := fun k => match k with
  | 0 => ("WardrobeRow$Terrace", "many", "[I", true)
  | 1 => ("WardrobeRow$Terrace", "houseNames", "[J", true)
  | 2 => ("WardrobeRow$Terrace", "ownerNames", "[J", true)
  | 3 => ("WardrobeRow$Terrace", "roomNames", "[J", true)
  | 4 => ("WardrobeRow$Terrace", "houseOf", "[I", true)
  | 5 => ("WardrobeRow$Terrace", "oneEnd", "[I", true)
  | 6 => ("WardrobeRow$Terrace", "otherEnd", "[I", true)
  | 7 => ("WardrobeRow$Terrace", "likings", "[I", true)
  | 8 => ("WardrobeRow$Terrace", "passages", "I", false)
  | _ => ("WardrobeRow$Terrace", "robes", "I", false)
def tyX8 : Nat → FieldType := fun k => match k with
  | 0 => .array .int
  | 1 => .array .long
  | 2 => .array .long
  | 3 => .array .long
  | 4 => .array .int
  | 5 => .array .int
  | 6 => .array .int
  | 7 => .array .int
  | 8 => .int
  | _ => .int
theorem nmX8 : ∀ a, a < 10 → ∀ b, b < 10 → a ≠ b → (TX8 a).2.1 ≠ (TX8 b).2.1 := by decide +kernel
theorem tyX8_ok : ∀ k, k < 10 → parseFieldDescriptor (TX8 k).2.2.1 = some (tyX8 k) := by decide +kernel
def RX9 : String := "WardrobeRow$TerraceReader"
def TX9 : u_T := fun k => match k with
  | 0 => ("WardrobeRow$TerraceReader", "told", "LWardrobeRow$Terrace;", true)
  | _ => ("WardrobeRow$TerraceReader", "first", "LWardrobeRow$Deeds;", true)
def tyX9 : Nat → FieldType := fun k => match k with
  | 0 => .object "WardrobeRow$Terrace"
  | _ => .object "WardrobeRow$Deeds"
theorem nmX9 : ∀ a, a < 2 → ∀ b, b < 2 → a ≠ b → (TX9 a).2.1 ≠ (TX9 b).2.1 := by decide +kernel
theorem tyX9_ok : ∀ k, k < 2 → parseFieldDescriptor (TX9 k).2.2.1 = some (tyX9 k) := by decide +kernel
def RX10 : String := "WardrobeRow$Ways"
def TX10 : u_T := fun k => match k with
  | 0 => ("WardrobeRow$Ways", "near", "[I", true)
  | 1 => ("WardrobeRow$Ways", "layers", "[I", true)
  | 2 => ("WardrobeRow$Ways", "path", "[I", true)
  | 3 => ("WardrobeRow$Ways", "steps", "[I", true)
  | 4 => ("WardrobeRow$Ways", "told", "I", false)
  | _ => ("WardrobeRow$Ways", "toldAsked", "I", false)
def tyX10 : Nat → FieldType := fun k => match k with
  | 0 => .array .int
  | 1 => .array .int
  | 2 => .array .int
  | 3 => .array .int
  | 4 => .int
  | _ => .int
theorem nmX10 : ∀ a, a < 6 → ∀ b, b < 6 → a ≠ b → (TX10 a).2.1 ≠ (TX10 b).2.1 := by decide +kernel
theorem tyX10_ok : ∀ k, k < 6 → parseFieldDescriptor (TX10 k).2.2.1 = some (tyX10 k) := by decide +kernel
def RX11 : String := "WardrobeRow"
def TX11 : u_T := fun k => match k with
  | 0 => ("WardrobeRow", "tape", "LWardrobeRow$Tape;", true)
  | 1 => ("WardrobeRow", "terrace", "LWardrobeRow$Terrace;", true)
  | 2 => ("WardrobeRow", "deeds", "LWardrobeRow$Deeds;", true)
  | 3 => ("WardrobeRow", "spare", "LWardrobeRow$Deeds;", true)
  | 4 => ("WardrobeRow", "past", "LWardrobeRow$Past;", true)
  | 5 => ("WardrobeRow", "sentence", "LWardrobeRow$Sentence;", true)
  | 6 => ("WardrobeRow", "readSentence", "LWardrobeRow$Sentence;", true)
  | 7 => ("WardrobeRow", "terraceReader", "LWardrobeRow$TerraceReader;", true)
  | 8 => ("WardrobeRow", "book", "LWardrobeRow$Book;", true)
  | 9 => ("WardrobeRow", "ways", "LWardrobeRow$Ways;", true)
  | 10 => ("WardrobeRow", "fires", "LWardrobeRow$Fires;", true)
  | 11 => ("WardrobeRow", "market", "LWardrobeRow$Market;", true)
  | 12 => ("WardrobeRow", "draws", "LWardrobeRow$Draws;", true)
  | 13 => ("WardrobeRow", "imageTerraces", "[LWardrobeRow$Terrace;", true)
  | 14 => ("WardrobeRow", "imageDeeds", "[LWardrobeRow$Deeds;", true)
  | 15 => ("WardrobeRow", "imageSentences", "[LWardrobeRow$Sentence;", true)
  | _ => ("WardrobeRow", "imagesKept", "I", false)
def tyX11 : Nat → FieldType := fun k => match k with
  | 0 => .object "WardrobeRow$Tape"
  | 1 => .object "WardrobeRow$Terrace"
  | 2 => .object "WardrobeRow$Deeds"
  | 3 => .object "WardrobeRow$Deeds"
  | 4 => .object "WardrobeRow$Past"
  | 5 => .object "WardrobeRow$Sentence"
  | 6 => .object "WardrobeRow$Sentence"
  | 7 => .object "WardrobeRow$TerraceReader"
  | 8 => .object "WardrobeRow$Book"
  | 9 => .object "WardrobeRow$Ways"
  | 10 => .object "WardrobeRow$Fires"
  | 11 => .object "WardrobeRow$Market"
  | 12 => .object "WardrobeRow$Draws"
  | 13 => .array (.object "WardrobeRow$Terrace")
  | 14 => .array (.object "WardrobeRow$Deeds")
  | 15 => .array (.object "WardrobeRow$Sentence")
  | _ => .int
theorem nmX11 : ∀ a, a < 17 → ∀ b, b < 17 → a ≠ b → (TX11 a).2.1 ≠ (TX11 b).2.1 := by decide +kernel
theorem tyX11_ok : ∀ k, k < 17 → parseFieldDescriptor (TX11 k).2.2.1 = some (tyX11 k) := by decide +kernel
def RX12 : String := "WardrobeRowModel"
def TX12 : u_T := fun k => match k with
  | 0 => ("WardrobeRowModel", "thrown", "I", false)
  | 1 => ("WardrobeRowModel", "tape", "[B", true)
  | 2 => ("WardrobeRowModel", "length", "I", false)
  | 3 => ("WardrobeRowModel", "size", "I", false)
  | 4 => ("WardrobeRowModel", "p", "I", false)
  | 5 => ("WardrobeRowModel", "limit", "I", false)
  | 6 => ("WardrobeRowModel", "s", "[I", true)
  | 7 => ("WardrobeRowModel", "h", "[I", true)
  | 8 => ("WardrobeRowModel", "read", "[I", true)
  | 9 => ("WardrobeRowModel", "names", "[J", true)
  | 10 => ("WardrobeRowModel", "reserved", "[J", true)
  | 11 => ("WardrobeRowModel", "token", "I", false)
  | 12 => ("WardrobeRowModel", "at", "I", false)
  | 13 => ("WardrobeRowModel", "span", "I", false)
  | 14 => ("WardrobeRowModel", "number", "I", false)
  | 15 => ("WardrobeRowModel", "fault", "I", false)
  | 16 => ("WardrobeRowModel", "faultAt", "I", false)
  | 17 => ("WardrobeRowModel", "word", "J", false)
  | 18 => ("WardrobeRowModel", "got", "I", false)
  | 19 => ("WardrobeRowModel", "lines", "I", false)
  | 20 => ("WardrobeRowModel", "undone", "[I", true)
  | 21 => ("WardrobeRowModel", "before", "[I", true)
  | 22 => ("WardrobeRowModel", "undoMany", "I", false)
  | 23 => ("WardrobeRowModel", "far", "[I", true)
  | 24 => ("WardrobeRowModel", "wayRow", "[I", true)
  | 25 => ("WardrobeRowModel", "stepRow", "[I", true)
  | 26 => ("WardrobeRowModel", "stepMany", "I", false)
  | 27 => ("WardrobeRowModel", "askedSet", "I", false)
  | 28 => ("WardrobeRowModel", "hasAsked", "Z", false)
  | 29 => ("WardrobeRowModel", "room0", "[I", true)
  | 30 => ("WardrobeRowModel", "from", "[I", true)
  | 31 => ("WardrobeRowModel", "queue", "[I", true)
  | 32 => ("WardrobeRowModel", "brought", "[I", true)
  | 33 => ("WardrobeRowModel", "has", "[I", true)
  | 34 => ("WardrobeRowModel", "points", "[I", true)
  | 35 => ("WardrobeRowModel", "ringMany", "I", false)
  | 36 => ("WardrobeRowModel", "price", "[I", true)
  | 37 => ("WardrobeRowModel", "want", "[I", true)
  | 38 => ("WardrobeRowModel", "wanted", "[I", true)
  | 39 => ("WardrobeRowModel", "priceRooms", "I", false)
  | 40 => ("WardrobeRowModel", "priceOwners", "I", false)
  | 41 => ("WardrobeRowModel", "seed", "I", false)
  | 42 => ("WardrobeRowModel", "told", "I", false)
  | 43 => ("WardrobeRowModel", "bookedAt", "[I", true)
  | 44 => ("WardrobeRowModel", "hasBooked", "Z", false)
  | 45 => ("WardrobeRowModel", "stack", "[I", true)
  | 46 => ("WardrobeRowModel", "codes", "I", false)
  | 47 => ("WardrobeRowModel", "ones", "I", false)
  | 48 => ("WardrobeRowModel", "top", "I", false)
  | 49 => ("WardrobeRowModel", "deep", "I", false)
  | 50 => ("WardrobeRowModel", "isWhole", "Z", false)
  | 51 => ("WardrobeRowModel", "truths", "[Z", true)
  | 52 => ("WardrobeRowModel", "kept", "[I", true)
  | 53 => ("WardrobeRowModel", "namesKept", "[J", true)
  | _ => ("WardrobeRowModel", "areKept", "[Z", true)
def tyX12 : Nat → FieldType := fun k => match k with
  | 0 => .int
  | 1 => .array .byte
  | 2 => .int
  | 3 => .int
  | 4 => .int
  | 5 => .int
  | 6 => .array .int
  | 7 => .array .int
  | 8 => .array .int
  | 9 => .array .long
  | 10 => .array .long
  | 11 => .int
  | 12 => .int
  | 13 => .int
  | 14 => .int
  | 15 => .int
  | 16 => .int
  | 17 => .long
  | 18 => .int
  | 19 => .int
  | 20 => .array .int
  | 21 => .array .int
  | 22 => .int
  | 23 => .array .int
  | 24 => .array .int
  | 25 => .array .int
  | 26 => .int
  | 27 => .int
  | 28 => .boolean
  | 29 => .array .int
  | 30 => .array .int
  | 31 => .array .int
  | 32 => .array .int
  | 33 => .array .int
  | 34 => .array .int
  | 35 => .int
  | 36 => .array .int
  | 37 => .array .int
  | 38 => .array .int
  | 39 => .int
  | 40 => .int
  | 41 => .int
  | 42 => .int
  | 43 => .array .int
  | 44 => .boolean
  | 45 => .array .int
  | 46 => .int
  | 47 => .int
  | 48 => .int
  | 49 => .int
  | 50 => .boolean
  | 51 => .array .boolean
  | 52 => .array .int
  | 53 => .array .long
  | _ => .array .boolean
theorem nmX12 : ∀ a, a < 55 → ∀ b, b < 55 → a ≠ b → (TX12 a).2.1 ≠ (TX12 b).2.1 := by decide +kernel
theorem tyX12_ok : ∀ k, k < 55 → parseFieldDescriptor (TX12 k).2.2.1 = some (tyX12 k) := by decide +kernel
abbrev vwCl : List vw_C := [(RX0, TX0, 10), (RX1, TX1, 10), (RX2, TX2, 1), (RX3, TX3, 2), (RX4, TX4, 8), (RX5, TX5, 3), (RX6, TX6, 5), (RX7, TX7, 11), (RX8, TX8, 10), (RX9, TX9, 2), (RX10, TX10, 6), (RX11, TX11, 17), (RX12, TX12, 55)]
def R_law : String := "WardrobeRowLaw"
/-- the classes by their numbers -/
def eCN : Nat → String := fun n => match n with
  | 0 => RX0
  | 1 => RX1
  | 2 => RX2
  | 3 => RX3
  | 4 => RX4
  | 5 => RX5
  | 6 => RX6
  | 7 => RX7
  | 8 => RX8
  | 9 => RX9
  | 10 => RX10
  | 11 => RX11
  | 12 => RX12
  | 13 => R_law
  | 14 => "java/lang/Integer"
  | 15 => "java/lang/Math"
  | _ => "java/util/Arrays"
def Tb1 : List Cond := lw_tbl.filter goodWord
theorem tb_good : ∀ w ∈ Tb1, goodWord w = true := fun _ h => (List.mem_filter.mp h).2
theorem tbT {w : Cond} (i : Nat) (h : tables_1[i]? = some w) (hg : goodWord w = true) : w ∈ Tb1 := List.mem_filter.mpr ⟨List.mem_append_right _ (List.mem_of_getElem? h), hg⟩
theorem tbS {y : MethodName} {n : Nat} (i : Nat) (h : lw_privs[i]? = some (y, n)) (hg : goodWord (.selects y.cls y y) = true) : Cond.selects y.cls y y ∈ Tb1 := List.mem_filter.mpr ⟨List.mem_append_left _ (List.mem_map.mpr ⟨(y, n), List.mem_of_getElem? h, rfl⟩), hg⟩
theorem tbU {ws : List Cond} (ps : List Nat) (h : ws = ps.filterMap (fun i => tables_1[i]?)) (hg : ws.all goodWord = true) : ∀ w ∈ ws, w ∈ Tb1 := fun w hw => by
  have h1 := List.all_eq_true.mp hg w hw
  rw [h] at hw
  obtain ⟨i, -, hi⟩ := List.mem_filterMap.mp hw
  exact tbT i hi h1
theorem inT0 : ∀ w ∈ u_ws RX0 TX0 10, w ∈ Tb1 := tbU [340, 342, 344, 346, 348, 350, 352, 354, 356, 358] (by decide +kernel) (by decide +kernel)
theorem inT1 : ∀ w ∈ u_ws RX1 TX1 10, w ∈ Tb1 := tbU [237, 239, 241, 243, 245, 247, 249, 251, 253, 255] (by decide +kernel) (by decide +kernel)
theorem inT2 : ∀ w ∈ u_ws RX2 TX2 1, w ∈ Tb1 := tbU [445] (by decide +kernel) (by decide +kernel)
theorem inT3 : ∀ w ∈ u_ws RX3 TX3 2, w ∈ Tb1 := tbU [397, 399] (by decide +kernel) (by decide +kernel)
theorem inT4 : ∀ w ∈ u_ws RX4 TX4 8, w ∈ Tb1 := tbU [421, 423, 425, 427, 429, 431, 433, 435] (by decide +kernel) (by decide +kernel)
theorem inT5 : ∀ w ∈ u_ws RX5 TX5 3, w ∈ Tb1 := tbU [270, 272, 274] (by decide +kernel) (by decide +kernel)
theorem inT6 : ∀ w ∈ u_ws RX6 TX6 5, w ∈ Tb1 := tbU [289, 291, 293, 295, 297] (by decide +kernel) (by decide +kernel)
theorem inT7 : ∀ w ∈ u_ws RX7 TX7 11, w ∈ Tb1 := tbU [117, 119, 121, 123, 125, 127, 129, 131, 133, 135, 137] (by decide +kernel) (by decide +kernel)
theorem inT8 : ∀ w ∈ u_ws RX8 TX8 10, w ∈ Tb1 := tbU [171, 173, 175, 177, 179, 181, 183, 185, 187, 189] (by decide +kernel) (by decide +kernel)
theorem inT9 : ∀ w ∈ u_ws RX9 TX9 2, w ∈ Tb1 := tbU [314, 316] (by decide +kernel) (by decide +kernel)
theorem inT10 : ∀ w ∈ u_ws RX10 TX10 6, w ∈ Tb1 := tbU [376, 378, 380, 382, 384, 386] (by decide +kernel) (by decide +kernel)
theorem inT11 : ∀ w ∈ u_ws RX11 TX11 17, w ∈ Tb1 := tbU [467, 469, 471, 473, 475, 477, 479, 481, 483, 485, 487, 489, 491, 493, 495, 497, 499] (by decide +kernel) (by decide +kernel)
theorem inT12 : ∀ w ∈ u_ws RX12 TX12 55, w ∈ Tb1 := tbU [1463, 1465, 1467, 1469, 1471, 1473, 1475, 1477, 1479, 1481, 1483, 1485, 1487, 1489, 1491, 1493, 1495, 1497, 1499, 1501, 1503, 1505, 1507, 1509, 1511, 1513, 1515, 1517, 1519, 1521, 1523, 1525, 1527, 1529, 1531, 1533, 1535, 1537, 1539, 1541, 1543, 1545, 1547, 1549, 1551, 1553, 1555, 1557, 1559, 1561, 1563, 1565, 1567, 1569, 1571] (by decide +kernel) (by decide +kernel)
