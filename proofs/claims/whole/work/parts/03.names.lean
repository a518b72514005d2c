/-! ===== the classes, and the tables' words that the engine needs (out of what TURN printed) ===== -/
def RX0 : String := "SeveralWishes$Figure"
def TX0 : u_T := fun k => match k with
  | 0 => ("SeveralWishes$Figure", "corners", "I", false)
  | 1 => ("SeveralWishes$Figure", "points", "LSeveralWishes$Points;", true)
  | 2 => ("SeveralWishes$Figure", "tight", "[I", true)
  | 3 => ("SeveralWishes$Figure", "laye\x72", "[I", true)
  | 4 => ("SeveralWishes$Figure", "away", "[I", true)
  | 5 => ("SeveralWishes$Figure", "link", "[[I", true)
  | 6 => ("SeveralWishes$Figure", "problem", "LSeveralWishes$Problem;", false)
  | 7 => ("SeveralWishes$Figure", "space", "LSeveralWishes$Space;", true)
  | 8 => ("SeveralWishes$Figure", "risen", "[I", true)
  | _ => ("SeveralWishes$Figure", "isJudged", "Z", false)
theorem nmRX0 : ∀ a, a < 10 → ∀ b, b < 10 → a ≠ b → (TX0 a).2.1 ≠ (TX0 b).2.1 := by decide +kernel
def xtRX0 : List FieldType := [.int, .object "SeveralWishes$Points", .array .int, .array .int, .array .int, .array (.array .int), .object "SeveralWishes$Problem", .object "SeveralWishes$Space", .array .int, .boolean]
theorem xtRX0_ok : ∀ k, k < 10 → parseFieldDescriptor (TX0 k).2.2.1 = some (xtRX0.getD k .int) := by decide +kernel
def RX1 : String := "SeveralWishes$Fraction"
def TX1 : u_T := fun k => match k with
  | 0 => ("SeveralWishes$Fraction", "up", "J", false)
  | _ => ("SeveralWishes$Fraction", "low", "J", false)
theorem nmRX1 : ∀ a, a < 2 → ∀ b, b < 2 → a ≠ b → (TX1 a).2.1 ≠ (TX1 b).2.1 := by decide +kernel
def xtRX1 : List FieldType := [.long, .long]
theorem xtRX1_ok : ∀ k, k < 2 → parseFieldDescriptor (TX1 k).2.2.1 = some (xtRX1.getD k .int) := by decide +kernel
def RX2 : String := "SeveralWishes$Law"
def TX2 : u_T := fun k => match k with
  | 0 => ("SeveralWishes$Law", "rules", "I", false)
  | 1 => ("SeveralWishes$Law", "worth", "I", false)
  | 2 => ("SeveralWishes$Law", "isRefused", "Z", false)
  | 3 => ("SeveralWishes$Law", "text", "LSeveralWishes$Text;", true)
  | 4 => ("SeveralWishes$Law", "law", "[I", true)
  | 5 => ("SeveralWishes$Law", "lawEnd", "I", false)
  | 6 => ("SeveralWishes$Law", "values", "[I", true)
  | 7 => ("SeveralWishes$Law", "rulesRead", "I", false)
  | 8 => ("SeveralWishes$Law", "isWorthFound", "Z", false)
  | _ => ("SeveralWishes$Law", "isDividedByNothing", "Z", false)
theorem nmRX2 : ∀ a, a < 10 → ∀ b, b < 10 → a ≠ b → (TX2 a).2.1 ≠ (TX2 b).2.1 := by decide +kernel
def xtRX2 : List FieldType := [.int, .int, .boolean, .object "SeveralWishes$Text", .array .int, .int, .array .int, .int, .boolean, .boolean]
theorem xtRX2_ok : ∀ k, k < 10 → parseFieldDescriptor (TX2 k).2.2.1 = some (xtRX2.getD k .int) := by decide +kernel
def RX3 : String := "SeveralWishes$Points"
def TX3 : u_T := fun k => match k with
  | 0 => ("SeveralWishes$Points", "many", "I", false)
  | 1 => ("SeveralWishes$Points", "x", "[I", true)
  | 2 => ("SeveralWishes$Points", "y", "[I", true)
  | 3 => ("SeveralWishes$Points", "z", "[I", true)
  | _ => ("SeveralWishes$Points", "d", "[I", true)
theorem nmRX3 : ∀ a, a < 5 → ∀ b, b < 5 → a ≠ b → (TX3 a).2.1 ≠ (TX3 b).2.1 := by decide +kernel
def xtRX3 : List FieldType := [.int, .array .int, .array .int, .array .int, .array .int]
theorem xtRX3_ok : ∀ k, k < 5 → parseFieldDescriptor (TX3 k).2.2.1 = some (xtRX3.getD k .int) := by decide +kernel
def RX4 : String := "SeveralWishes$Problem"
def TX4 : u_T := fun k => match k with
  | 0 => ("SeveralWishes$Problem", "quantities", "I", false)
  | 1 => ("SeveralWishes$Problem", "wishes", "I", false)
  | 2 => ("SeveralWishes$Problem", "keeps", "I", false)
  | 3 => ("SeveralWishes$Problem", "wishTakes", "[I", true)
  | 4 => ("SeveralWishes$Problem", "keepTakes", "[I", true)
  | 5 => ("SeveralWishes$Problem", "keepNumbe\x72", "[I", true)
  | 6 => ("SeveralWishes$Problem", "keepKind", "[I", true)
  | _ => ("SeveralWishes$Problem", "box", "[I", true)
theorem nmRX4 : ∀ a, a < 8 → ∀ b, b < 8 → a ≠ b → (TX4 a).2.1 ≠ (TX4 b).2.1 := by decide +kernel
def xtRX4 : List FieldType := [.int, .int, .int, .array .int, .array .int, .array .int, .array .int, .array .int]
theorem xtRX4_ok : ∀ k, k < 8 → parseFieldDescriptor (TX4 k).2.2.1 = some (xtRX4.getD k .int) := by decide +kernel
def RX5 : String := "SeveralWishes$Reade\x72"
def TX5 : u_T := fun k => match k with
  | 0 => ("SeveralWishes$Reade\x72", "text", "LSeveralWishes$Text;", true)
  | 1 => ("SeveralWishes$Reade\x72", "boxed", "I", false)
  | _ => ("SeveralWishes$Reade\x72", "into", "LSeveralWishes$Problem;", false)
theorem nmRX5 : ∀ a, a < 3 → ∀ b, b < 3 → a ≠ b → (TX5 a).2.1 ≠ (TX5 b).2.1 := by decide +kernel
def xtRX5 : List FieldType := [.object "SeveralWishes$Text", .int, .object "SeveralWishes$Problem"]
theorem xtRX5_ok : ∀ k, k < 3 → parseFieldDescriptor (TX5 k).2.2.1 = some (xtRX5.getD k .int) := by decide +kernel
def RX6 : String := "SeveralWishes$Shares"
def TX6 : u_T := fun k => match k with
  | 0 => ("SeveralWishes$Shares", "least", "LSeveralWishes$Fraction;", true)
  | 1 => ("SeveralWishes$Shares", "greatest", "LSeveralWishes$Fraction;", true)
  | 2 => ("SeveralWishes$Shares", "turns", "I", false)
  | 3 => ("SeveralWishes$Shares", "up", "[J", true)
  | 4 => ("SeveralWishes$Shares", "low", "[J", true)
  | _ => ("SeveralWishes$Shares", "share", "LSeveralWishes$Fraction;", true)
theorem nmRX6 : ∀ a, a < 6 → ∀ b, b < 6 → a ≠ b → (TX6 a).2.1 ≠ (TX6 b).2.1 := by decide +kernel
def xtRX6 : List FieldType := [.object "SeveralWishes$Fraction", .object "SeveralWishes$Fraction", .int, .array .long, .array .long, .object "SeveralWishes$Fraction"]
theorem xtRX6_ok : ∀ k, k < 6 → parseFieldDescriptor (TX6 k).2.2.1 = some (xtRX6.getD k .int) := by decide +kernel
def RX7 : String := "SeveralWishes$Space"
def TX7 : u_T := fun k => match k with
  | 0 => ("SeveralWishes$Space", "points", "LSeveralWishes$Points;", true)
  | 1 => ("SeveralWishes$Space", "bounds", "I", false)
  | 2 => ("SeveralWishes$Space", "a", "[I", true)
  | 3 => ("SeveralWishes$Space", "b", "[I", true)
  | 4 => ("SeveralWishes$Space", "c", "[I", true)
  | _ => ("SeveralWishes$Space", "\x72", "[I", true)
theorem nmRX7 : ∀ a, a < 6 → ∀ b, b < 6 → a ≠ b → (TX7 a).2.1 ≠ (TX7 b).2.1 := by decide +kernel
def xtRX7 : List FieldType := [.object "SeveralWishes$Points", .int, .array .int, .array .int, .array .int, .array .int]
theorem xtRX7_ok : ∀ k, k < 6 → parseFieldDescriptor (TX7 k).2.2.1 = some (xtRX7.getD k .int) := by decide +kernel
def RX8 : String := "SeveralWishes$Text"
def TX8 : u_T := fun k => match k with
  | 0 => ("SeveralWishes$Text", "at", "I", false)
  | 1 => ("SeveralWishes$Text", "end", "I", false)
  | 2 => ("SeveralWishes$Text", "fault", "I", false)
  | _ => ("SeveralWishes$Text", "bytes", "[I", false)
theorem nmRX8 : ∀ a, a < 4 → ∀ b, b < 4 → a ≠ b → (TX8 a).2.1 ≠ (TX8 b).2.1 := by decide +kernel
def xtRX8 : List FieldType := [.int, .int, .int, .array .int]
theorem xtRX8_ok : ∀ k, k < 4 → parseFieldDescriptor (TX8 k).2.2.1 = some (xtRX8.getD k .int) := by decide +kernel
def RX9 : String := "SeveralWishes"
def TX9 : u_T := fun k => match k with
  | 0 => ("SeveralWishes", "tape", "[I", true)
  | 1 => ("SeveralWishes", "onTape", "I", false)
  | 2 => ("SeveralWishes", "told", "LSeveralWishes$Problem;", false)
  | 3 => ("SeveralWishes", "draft", "LSeveralWishes$Problem;", false)
  | 4 => ("SeveralWishes", "kept", "LSeveralWishes$Problem;", true)
  | 5 => ("SeveralWishes", "isKept", "Z", false)
  | 6 => ("SeveralWishes", "reade\x72", "LSeveralWishes$Reader;", true)
  | 7 => ("SeveralWishes", "rules", "LSeveralWishes$Law;", true)
  | 8 => ("SeveralWishes", "space", "LSeveralWishes$Space;", true)
  | 9 => ("SeveralWishes", "figure", "LSeveralWishes$Figure;", true)
  | 10 => ("SeveralWishes", "shares", "LSeveralWishes$Shares;", true)
  | 11 => ("SeveralWishes", "answe\x72", "LSeveralWishes$Fraction;", true)
  | 12 => ("SeveralWishes", "othe\x72", "LSeveralWishes$Fraction;", true)
  | 13 => ("SeveralWishes", "goal", "[I", true)
  | 14 => ("SeveralWishes", "places", "[I", true)
  | 15 => ("SeveralWishes", "line", "[I", true)
  | _ => ("SeveralWishes", "lineEnd", "I", false)
theorem nmRX9 : ∀ a, a < 17 → ∀ b, b < 17 → a ≠ b → (TX9 a).2.1 ≠ (TX9 b).2.1 := by decide +kernel
def xtRX9 : List FieldType := [.array .int, .int, .object "SeveralWishes$Problem", .object "SeveralWishes$Problem", .object "SeveralWishes$Problem", .boolean, .object "SeveralWishes$Reade\x72", .object "SeveralWishes$Law", .object "SeveralWishes$Space", .object "SeveralWishes$Figure", .object "SeveralWishes$Shares", .object "SeveralWishes$Fraction", .object "SeveralWishes$Fraction", .array .int, .array .int, .array .int, .int]
theorem xtRX9_ok : ∀ k, k < 17 → parseFieldDescriptor (TX9 k).2.2.1 = some (xtRX9.getD k .int) := by decide +kernel
def RX10 : String := "SeveralWishesModel"
def TX10 : u_T := fun k => match k with
  | 0 => ("SeveralWishesModel", "wishOf", "[I", true)
  | 1 => ("SeveralWishesModel", "keepOf", "[I", true)
  | 2 => ("SeveralWishesModel", "boxOf", "[I", true)
  | 3 => ("SeveralWishesModel", "quantities", "I", false)
  | 4 => ("SeveralWishesModel", "wishes", "I", false)
  | 5 => ("SeveralWishesModel", "keeps", "I", false)
  | 6 => ("SeveralWishesModel", "tape", "[B", true)
  | 7 => ("SeveralWishesModel", "taped", "I", false)
  | 8 => ("SeveralWishesModel", "place0", "I", false)
  | 9 => ("SeveralWishesModel", "length0", "I", false)
  | 10 => ("SeveralWishesModel", "fault", "I", false)
  | 11 => ("SeveralWishesModel", "number0", "I", false)
  | 12 => ("SeveralWishesModel", "open", "I", false)
  | 13 => ("SeveralWishesModel", "codeMany", "I", false)
  | 14 => ("SeveralWishesModel", "waiting", "I", false)
  | 15 => ("SeveralWishesModel", "saidMany", "I", false)
  | 16 => ("SeveralWishesModel", "clauses", "I", false)
  | 17 => ("SeveralWishesModel", "said", "[I", true)
  | 18 => ("SeveralWishesModel", "waitsAt", "[I", true)
  | 19 => ("SeveralWishesModel", "saidLette\x72", "[I", true)
  | 20 => ("SeveralWishesModel", "saidFrom", "[I", true)
  | 21 => ("SeveralWishesModel", "saidHalf", "[I", true)
  | 22 => ("SeveralWishesModel", "saidTo", "[I", true)
  | 23 => ("SeveralWishesModel", "codes", "[I", true)
  | 24 => ("SeveralWishesModel", "clauseOf", "[I", true)
  | 25 => ("SeveralWishesModel", "codeFrom", "[I", true)
  | 26 => ("SeveralWishesModel", "codeHalf", "[I", true)
  | 27 => ("SeveralWishesModel", "codeTo", "[I", true)
  | 28 => ("SeveralWishesModel", "stack", "[I", true)
  | 29 => ("SeveralWishesModel", "facts", "[I", true)
  | 30 => ("SeveralWishesModel", "newWish", "[I", true)
  | 31 => ("SeveralWishesModel", "newKeep", "[I", true)
  | 32 => ("SeveralWishesModel", "newBox", "[I", true)
  | 33 => ("SeveralWishesModel", "sum", "[I", true)
  | 34 => ("SeveralWishesModel", "newQuantities", "I", false)
  | 35 => ("SeveralWishesModel", "newWishes", "I", false)
  | 36 => ("SeveralWishesModel", "newKeeps", "I", false)
  | 37 => ("SeveralWishesModel", "boxed", "I", false)
  | 38 => ("SeveralWishesModel", "word0", "I", false)
  | 39 => ("SeveralWishesModel", "wordAt", "I", false)
  | 40 => ("SeveralWishesModel", "xs", "[J", true)
  | 41 => ("SeveralWishesModel", "ys", "[J", true)
  | 42 => ("SeveralWishesModel", "zs", "[J", true)
  | 43 => ("SeveralWishesModel", "ws", "[J", true)
  | 44 => ("SeveralWishesModel", "sides", "[J", true)
  | 45 => ("SeveralWishesModel", "tights", "[I", true)
  | 46 => ("SeveralWishesModel", "points", "I", false)
  | 47 => ("SeveralWishesModel", "normals", "[I", true)
  | 48 => ("SeveralWishesModel", "cornerX", "[J", true)
  | 49 => ("SeveralWishesModel", "cornerY", "[J", true)
  | 50 => ("SeveralWishesModel", "cornerZ", "[J", true)
  | 51 => ("SeveralWishesModel", "cornerW", "[J", true)
  | 52 => ("SeveralWishesModel", "tightOf", "[I", true)
  | 53 => ("SeveralWishesModel", "nextOf", "[I", true)
  | 54 => ("SeveralWishesModel", "goodEdges", "[I", true)
  | 55 => ("SeveralWishesModel", "layerOf", "[I", true)
  | 56 => ("SeveralWishesModel", "corners", "I", false)
  | 57 => ("SeveralWishesModel", "good", "I", false)
  | 58 => ("SeveralWishesModel", "weak", "I", false)
  | 59 => ("SeveralWishesModel", "layers", "I", false)
  | 60 => ("SeveralWishesModel", "lowUp", "J", false)
  | 61 => ("SeveralWishesModel", "lowLow", "J", false)
  | 62 => ("SeveralWishesModel", "highUp", "J", false)
  | 63 => ("SeveralWishesModel", "highLow", "J", false)
  | 64 => ("SeveralWishesModel", "turnUp", "[J", true)
  | 65 => ("SeveralWishesModel", "turnLow", "[J", true)
  | 66 => ("SeveralWishesModel", "turns", "I", false)
  | 67 => ("SeveralWishesModel", "weightOf", "[I", true)
  | 68 => ("SeveralWishesModel", "totalUp", "J", false)
  | 69 => ("SeveralWishesModel", "totalLow", "J", false)
  | 70 => ("SeveralWishesModel", "regretUp", "J", false)
  | 71 => ("SeveralWishesModel", "regretLow", "J", false)
  | 72 => ("SeveralWishesModel", "told", "[I", true)
  | 73 => ("SeveralWishesModel", "toldMany", "I", false)
  | 74 => ("SeveralWishesModel", "kept", "[I", true)
  | _ => ("SeveralWishesModel", "isKept", "Z", false)
theorem nmRX10 : ∀ a, a < 76 → ∀ b, b < 76 → a ≠ b → (TX10 a).2.1 ≠ (TX10 b).2.1 := by decide +kernel
def xtRX10 : List FieldType := [.array .int, .array .int, .array .int, .int, .int, .int, .array .byte, .int, .int, .int, .int, .int, .int, .int, .int, .int, .int, .array .int, .array .int, .array .int, .array .int, .array .int, .array .int, .array .int, .array .int, .array .int, .array .int, .array .int, .array .int, .array .int, .array .int, .array .int, .array .int, .array .int, .int, .int, .int, .int, .int, .int, .array .long, .array .long, .array .long, .array .long, .array .long, .array .int, .int, .array .int, .array .long, .array .long, .array .long, .array .long, .array .int, .array .int, .array .int, .array .int, .int, .int, .int, .int, .long, .long, .long, .long, .array .long, .array .long, .int, .array .int, .long, .long, .long, .long, .array .int, .int, .array .int, .boolean]
theorem xtRX10_ok : ∀ k, k < 76 → parseFieldDescriptor (TX10 k).2.2.1 = some (xtRX10.getD k .int) := by decide +kernel
abbrev xcls : List vw_C := [(RX0, TX0, 10), (RX1, TX1, 2), (RX2, TX2, 10), (RX3, TX3, 5), (RX4, TX4, 8), (RX5, TX5, 3), (RX6, TX6, 6), (RX7, TX7, 6), (RX8, TX8, 4), (RX9, TX9, 17), (RX10, TX10, 76)]
abbrev xft : List (List FieldType) := [xtRX0, xtRX1, xtRX2, xtRX3, xtRX4, xtRX5, xtRX6, xtRX7, xtRX8, xtRX9, xtRX10]
def xnm (k : Nat) : String := match k with
  | 0 => "SeveralWishes$Figure"
  | 1 => "SeveralWishes$Fraction"
  | 2 => "SeveralWishes$Law"
  | 3 => "SeveralWishes$Points"
  | 4 => "SeveralWishes$Problem"
  | 5 => "SeveralWishes$Reade\x72"
  | 6 => "SeveralWishes$Shares"
  | 7 => "SeveralWishes$Space"
  | 8 => "SeveralWishes$Text"
  | 9 => "SeveralWishes"
  | 10 => "SeveralWishesModel"
  | 11 => "java/lang/Intege\x72"
  | 12 => "java/lang/String"
  | 13 => "java/lang/StringLatin1"
  | 14 => "java/lang/StringUTF16"
  | 15 => "jdk/internal/util/Preconditions"
  | 16 => "java/lang/Characte\x72"
  | 17 => "java/lang/Math"
  | _ => "SeveralWishesLaw"
def xTs : List Jvm.Cond := lw_tbl.filter goodWord
theorem xTs_good : ∀ w ∈ xTs, goodWord w = true := fun w h => (List.mem_filter.mp h).2
theorem xTs_in {w : Jvm.Cond} (h : w ∈ tables_1) (g : goodWord w = true) : w ∈ xTs := List.mem_filter.mpr ⟨List.mem_append_right _ h, g⟩
theorem xin1 {w : Jvm.Cond} (i : Nat) (h : tables_1_1[i]? = some w) (g : goodWord w = true) : w ∈ xTs := xTs_in (List.mem_append_left _ (List.mem_of_getElem? h)) g
theorem xin2 {w : Jvm.Cond} (i : Nat) (h : tables_1_2[i]? = some w) (g : goodWord w = true) : w ∈ xTs := xTs_in (List.mem_append_right _ (List.mem_append_left _ (List.mem_of_getElem? h))) g
theorem xin3 {w : Jvm.Cond} (i : Nat) (h : tables_1_3[i]? = some w) (g : goodWord w = true) : w ∈ xTs := xTs_in (List.mem_append_right _ (List.mem_append_right _ (List.mem_append_left _ (List.mem_of_getElem? h)))) g
theorem xin4 {w : Jvm.Cond} (i : Nat) (h : tables_1_4[i]? = some w) (g : goodWord w = true) : w ∈ xTs := xTs_in (List.mem_append_right _ (List.mem_append_right _ (List.mem_append_right _ (List.mem_append_left _ (List.mem_of_getElem? h))))) g
theorem xin5 {w : Jvm.Cond} (i : Nat) (h : tables_1_5[i]? = some w) (g : goodWord w = true) : w ∈ xTs := xTs_in (List.mem_append_right _ (List.mem_append_right _ (List.mem_append_right _ (List.mem_append_right _ (List.mem_append_left _ (List.mem_of_getElem? h)))))) g
theorem xin6 {w : Jvm.Cond} (i : Nat) (h : tables_1_6[i]? = some w) (g : goodWord w = true) : w ∈ xTs := xTs_in (List.mem_append_right _ (List.mem_append_right _ (List.mem_append_right _ (List.mem_append_right _ (List.mem_append_right _ (List.mem_append_left _ (List.mem_of_getElem? h))))))) g
theorem xin7 {w : Jvm.Cond} (i : Nat) (h : tables_1_7[i]? = some w) (g : goodWord w = true) : w ∈ xTs := xTs_in (List.mem_append_right _ (List.mem_append_right _ (List.mem_append_right _ (List.mem_append_right _ (List.mem_append_right _ (List.mem_append_right _ (List.mem_append_left _ (List.mem_of_getElem? h)))))))) g
theorem xin8 {w : Jvm.Cond} (i : Nat) (h : tables_1_8[i]? = some w) (g : goodWord w = true) : w ∈ xTs := xTs_in (List.mem_append_right _ (List.mem_append_right _ (List.mem_append_right _ (List.mem_append_right _ (List.mem_append_right _ (List.mem_append_right _ (List.mem_append_right _ (List.mem_append_left _ (List.mem_of_getElem? h))))))))) g
theorem xin9 {w : Jvm.Cond} (i : Nat) (h : tables_1_9[i]? = some w) (g : goodWord w = true) : w ∈ xTs := xTs_in (List.mem_append_right _ (List.mem_append_right _ (List.mem_append_right _ (List.mem_append_right _ (List.mem_append_right _ (List.mem_append_right _ (List.mem_append_right _ (List.mem_append_right _ (List.mem_of_getElem? h))))))))) g
theorem xsel1 {y : MethodName} {n : Nat} (i : Nat) (h : lw_privs_1[i]? = some (y, n)) (g : goodWord (Jvm.Cond.selects y.cls y y) = true) : Jvm.Cond.selects y.cls y y ∈ xTs := List.mem_filter.mpr ⟨List.mem_append_left _ (List.mem_map.mpr ⟨(y, n), List.mem_append_left _ (List.mem_of_getElem? h), rfl⟩), g⟩
theorem xsel2 {y : MethodName} {n : Nat} (i : Nat) (h : lw_privs_2[i]? = some (y, n)) (g : goodWord (Jvm.Cond.selects y.cls y y) = true) : Jvm.Cond.selects y.cls y y ∈ xTs := List.mem_filter.mpr ⟨List.mem_append_left _ (List.mem_map.mpr ⟨(y, n), List.mem_append_right _ (List.mem_append_left _ (List.mem_of_getElem? h)), rfl⟩), g⟩
theorem xsel3 {y : MethodName} {n : Nat} (i : Nat) (h : lw_privs_3[i]? = some (y, n)) (g : goodWord (Jvm.Cond.selects y.cls y y) = true) : Jvm.Cond.selects y.cls y y ∈ xTs := List.mem_filter.mpr ⟨List.mem_append_left _ (List.mem_map.mpr ⟨(y, n), List.mem_append_right _ (List.mem_append_right _ (List.mem_append_left _ (List.mem_of_getElem? h))), rfl⟩), g⟩
theorem xsel4 {y : MethodName} {n : Nat} (i : Nat) (h : lw_privs_4[i]? = some (y, n)) (g : goodWord (Jvm.Cond.selects y.cls y y) = true) : Jvm.Cond.selects y.cls y y ∈ xTs := List.mem_filter.mpr ⟨List.mem_append_left _ (List.mem_map.mpr ⟨(y, n), List.mem_append_right _ (List.mem_append_right _ (List.mem_append_right _ (List.mem_append_left _ (List.mem_of_getElem? h)))), rfl⟩), g⟩
theorem xsel5 {y : MethodName} {n : Nat} (i : Nat) (h : lw_privs_5[i]? = some (y, n)) (g : goodWord (Jvm.Cond.selects y.cls y y) = true) : Jvm.Cond.selects y.cls y y ∈ xTs := List.mem_filter.mpr ⟨List.mem_append_left _ (List.mem_map.mpr ⟨(y, n), List.mem_append_right _ (List.mem_append_right _ (List.mem_append_right _ (List.mem_append_right _ (List.mem_append_left _ (List.mem_of_getElem? h))))), rfl⟩), g⟩
theorem xsel6 {y : MethodName} {n : Nat} (i : Nat) (h : lw_privs_6[i]? = some (y, n)) (g : goodWord (Jvm.Cond.selects y.cls y y) = true) : Jvm.Cond.selects y.cls y y ∈ xTs := List.mem_filter.mpr ⟨List.mem_append_left _ (List.mem_map.mpr ⟨(y, n), List.mem_append_right _ (List.mem_append_right _ (List.mem_append_right _ (List.mem_append_right _ (List.mem_append_right _ (List.mem_append_left _ (List.mem_of_getElem? h)))))), rfl⟩), g⟩
theorem xsel7 {y : MethodName} {n : Nat} (i : Nat) (h : lw_privs_7[i]? = some (y, n)) (g : goodWord (Jvm.Cond.selects y.cls y y) = true) : Jvm.Cond.selects y.cls y y ∈ xTs := List.mem_filter.mpr ⟨List.mem_append_left _ (List.mem_map.mpr ⟨(y, n), List.mem_append_right _ (List.mem_append_right _ (List.mem_append_right _ (List.mem_append_right _ (List.mem_append_right _ (List.mem_append_right _ (List.mem_append_left _ (List.mem_of_getElem? h))))))), rfl⟩), g⟩
theorem xsel8 {y : MethodName} {n : Nat} (i : Nat) (h : lw_privs_8[i]? = some (y, n)) (g : goodWord (Jvm.Cond.selects y.cls y y) = true) : Jvm.Cond.selects y.cls y y ∈ xTs := List.mem_filter.mpr ⟨List.mem_append_left _ (List.mem_map.mpr ⟨(y, n), List.mem_append_right _ (List.mem_append_right _ (List.mem_append_right _ (List.mem_append_right _ (List.mem_append_right _ (List.mem_append_right _ (List.mem_append_right _ (List.mem_append_left _ (List.mem_of_getElem? h)))))))), rfl⟩), g⟩
theorem xsel9 {y : MethodName} {n : Nat} (i : Nat) (h : lw_privs_9[i]? = some (y, n)) (g : goodWord (Jvm.Cond.selects y.cls y y) = true) : Jvm.Cond.selects y.cls y y ∈ xTs := List.mem_filter.mpr ⟨List.mem_append_left _ (List.mem_map.mpr ⟨(y, n), List.mem_append_right _ (List.mem_append_right _ (List.mem_append_right _ (List.mem_append_right _ (List.mem_append_right _ (List.mem_append_right _ (List.mem_append_right _ (List.mem_append_right _ (List.mem_append_left _ (List.mem_of_getElem? h))))))))), rfl⟩), g⟩
theorem xsel10 {y : MethodName} {n : Nat} (i : Nat) (h : lw_privs_10[i]? = some (y, n)) (g : goodWord (Jvm.Cond.selects y.cls y y) = true) : Jvm.Cond.selects y.cls y y ∈ xTs := List.mem_filter.mpr ⟨List.mem_append_left _ (List.mem_map.mpr ⟨(y, n), List.mem_append_right _ (List.mem_append_right _ (List.mem_append_right _ (List.mem_append_right _ (List.mem_append_right _ (List.mem_append_right _ (List.mem_append_right _ (List.mem_append_right _ (List.mem_append_right _ (List.mem_append_left _ (List.mem_of_getElem? h)))))))))), rfl⟩), g⟩
theorem xsel11 {y : MethodName} {n : Nat} (i : Nat) (h : lw_privs_11[i]? = some (y, n)) (g : goodWord (Jvm.Cond.selects y.cls y y) = true) : Jvm.Cond.selects y.cls y y ∈ xTs := List.mem_filter.mpr ⟨List.mem_append_left _ (List.mem_map.mpr ⟨(y, n), List.mem_append_right _ (List.mem_append_right _ (List.mem_append_right _ (List.mem_append_right _ (List.mem_append_right _ (List.mem_append_right _ (List.mem_append_right _ (List.mem_append_right _ (List.mem_append_right _ (List.mem_append_right _ (List.mem_of_getElem? h)))))))))), rfl⟩), g⟩
theorem xwRX0 : ∀ w ∈ u_ws RX0 TX0 10, w ∈ xTs := by
  show ∀ w ∈ (List.range 10).map (u_lay RX0 TX0), w ∈ xTs
  rw [List.forall_mem_map]
  intro k hk
  have hk := List.mem_range.mp hk
  match k, hk with
  | 0, _ => exact xin2 30 rfl rfl
  | 1, _ => exact xin2 32 rfl rfl
  | 2, _ => exact xin2 34 rfl rfl
  | 3, _ => exact xin2 36 rfl rfl
  | 4, _ => exact xin2 38 rfl rfl
  | 5, _ => exact xin2 40 rfl rfl
  | 6, _ => exact xin2 42 rfl rfl
  | 7, _ => exact xin2 44 rfl rfl
  | 8, _ => exact xin2 46 rfl rfl
  | 9, _ => exact xin2 48 rfl rfl
  | n + 10, hk => exact absurd hk (by omega)
theorem xwRX1 : ∀ w ∈ u_ws RX1 TX1 2, w ∈ xTs := by
  show ∀ w ∈ (List.range 2).map (u_lay RX1 TX1), w ∈ xTs
  rw [List.forall_mem_map]
  intro k hk
  have hk := List.mem_range.mp hk
  match k, hk with
  | 0, _ => exact xin2 69 rfl rfl
  | 1, _ => exact xin2 71 rfl rfl
  | n + 2, hk => exact absurd hk (by omega)
theorem xwRX2 : ∀ w ∈ u_ws RX2 TX2 10, w ∈ xTs := by
  show ∀ w ∈ (List.range 10).map (u_lay RX2 TX2), w ∈ xTs
  rw [List.forall_mem_map]
  intro k hk
  have hk := List.mem_range.mp hk
  match k, hk with
  | 0, _ => exact xin1 159 rfl rfl
  | 1, _ => exact xin1 161 rfl rfl
  | 2, _ => exact xin1 163 rfl rfl
  | 3, _ => exact xin1 165 rfl rfl
  | 4, _ => exact xin1 167 rfl rfl
  | 5, _ => exact xin1 169 rfl rfl
  | 6, _ => exact xin1 171 rfl rfl
  | 7, _ => exact xin1 173 rfl rfl
  | 8, _ => exact xin1 175 rfl rfl
  | 9, _ => exact xin1 177 rfl rfl
  | n + 10, hk => exact absurd hk (by omega)
theorem xwRX3 : ∀ w ∈ u_ws RX3 TX3 5, w ∈ xTs := by
  show ∀ w ∈ (List.range 5).map (u_lay RX3 TX3), w ∈ xTs
  rw [List.forall_mem_map]
  intro k hk
  have hk := List.mem_range.mp hk
  match k, hk with
  | 0, _ => exact xin1 209 rfl rfl
  | 1, _ => exact xin1 211 rfl rfl
  | 2, _ => exact xin1 213 rfl rfl
  | 3, _ => exact xin1 215 rfl rfl
  | 4, _ => exact xin1 217 rfl rfl
  | n + 5, hk => exact absurd hk (by omega)
theorem xwRX4 : ∀ w ∈ u_ws RX4 TX4 8, w ∈ xTs := by
  show ∀ w ∈ (List.range 8).map (u_lay RX4 TX4), w ∈ xTs
  rw [List.forall_mem_map]
  intro k hk
  have hk := List.mem_range.mp hk
  match k, hk with
  | 0, _ => exact xin1 66 rfl rfl
  | 1, _ => exact xin1 68 rfl rfl
  | 2, _ => exact xin1 70 rfl rfl
  | 3, _ => exact xin1 72 rfl rfl
  | 4, _ => exact xin1 74 rfl rfl
  | 5, _ => exact xin1 76 rfl rfl
  | 6, _ => exact xin1 78 rfl rfl
  | 7, _ => exact xin1 80 rfl rfl
  | n + 8, hk => exact absurd hk (by omega)
theorem xwRX5 : ∀ w ∈ u_ws RX5 TX5 3, w ∈ xTs := by
  show ∀ w ∈ (List.range 3).map (u_lay RX5 TX5), w ∈ xTs
  rw [List.forall_mem_map]
  intro k hk
  have hk := List.mem_range.mp hk
  match k, hk with
  | 0, _ => exact xin1 120 rfl rfl
  | 1, _ => exact xin1 122 rfl rfl
  | 2, _ => exact xin1 124 rfl rfl
  | n + 3, hk => exact absurd hk (by omega)
theorem xwRX6 : ∀ w ∈ u_ws RX6 TX6 6, w ∈ xTs := by
  show ∀ w ∈ (List.range 6).map (u_lay RX6 TX6), w ∈ xTs
  rw [List.forall_mem_map]
  intro k hk
  have hk := List.mem_range.mp hk
  match k, hk with
  | 0, _ => exact xin2 85 rfl rfl
  | 1, _ => exact xin2 87 rfl rfl
  | 2, _ => exact xin2 89 rfl rfl
  | 3, _ => exact xin2 91 rfl rfl
  | 4, _ => exact xin2 93 rfl rfl
  | 5, _ => exact xin2 95 rfl rfl
  | n + 6, hk => exact absurd hk (by omega)
theorem xwRX7 : ∀ w ∈ u_ws RX7 TX7 6, w ∈ xTs := by
  show ∀ w ∈ (List.range 6).map (u_lay RX7 TX7), w ∈ xTs
  rw [List.forall_mem_map]
  intro k hk
  have hk := List.mem_range.mp hk
  match k, hk with
  | 0, _ => exact xin1 228 rfl rfl
  | 1, _ => exact xin1 230 rfl rfl
  | 2, _ => exact xin1 232 rfl rfl
  | 3, _ => exact xin1 234 rfl rfl
  | 4, _ => exact xin1 236 rfl rfl
  | 5, _ => exact xin1 238 rfl rfl
  | n + 6, hk => exact absurd hk (by omega)
theorem xwRX8 : ∀ w ∈ u_ws RX8 TX8 4, w ∈ xTs := by
  show ∀ w ∈ (List.range 4).map (u_lay RX8 TX8), w ∈ xTs
  rw [List.forall_mem_map]
  intro k hk
  have hk := List.mem_range.mp hk
  match k, hk with
  | 0, _ => exact xin1 106 rfl rfl
  | 1, _ => exact xin1 108 rfl rfl
  | 2, _ => exact xin1 110 rfl rfl
  | 3, _ => exact xin1 112 rfl rfl
  | n + 4, hk => exact absurd hk (by omega)
theorem xwRX9 : ∀ w ∈ u_ws RX9 TX9 17, w ∈ xTs := by
  show ∀ w ∈ (List.range 17).map (u_lay RX9 TX9), w ∈ xTs
  rw [List.forall_mem_map]
  intro k hk
  have hk := List.mem_range.mp hk
  match k, hk with
  | 0, _ => exact xin2 209 rfl rfl
  | 1, _ => exact xin2 211 rfl rfl
  | 2, _ => exact xin2 213 rfl rfl
  | 3, _ => exact xin2 215 rfl rfl
  | 4, _ => exact xin2 217 rfl rfl
  | 5, _ => exact xin2 219 rfl rfl
  | 6, _ => exact xin2 221 rfl rfl
  | 7, _ => exact xin2 223 rfl rfl
  | 8, _ => exact xin2 225 rfl rfl
  | 9, _ => exact xin2 227 rfl rfl
  | 10, _ => exact xin2 229 rfl rfl
  | 11, _ => exact xin2 231 rfl rfl
  | 12, _ => exact xin2 233 rfl rfl
  | 13, _ => exact xin2 235 rfl rfl
  | 14, _ => exact xin2 237 rfl rfl
  | 15, _ => exact xin2 239 rfl rfl
  | 16, _ => exact xin3 1 rfl rfl
  | n + 17, hk => exact absurd hk (by omega)
theorem xwRX10 : ∀ w ∈ u_ws RX10 TX10 76, w ∈ xTs := by
  show ∀ w ∈ (List.range 76).map (u_lay RX10 TX10), w ∈ xTs
  rw [List.forall_mem_map]
  intro k hk
  have hk := List.mem_range.mp hk
  match k, hk with
  | 0, _ => exact xin6 239 rfl rfl
  | 1, _ => exact xin7 1 rfl rfl
  | 2, _ => exact xin7 3 rfl rfl
  | 3, _ => exact xin7 5 rfl rfl
  | 4, _ => exact xin7 7 rfl rfl
  | 5, _ => exact xin7 9 rfl rfl
  | 6, _ => exact xin7 11 rfl rfl
  | 7, _ => exact xin7 13 rfl rfl
  | 8, _ => exact xin7 15 rfl rfl
  | 9, _ => exact xin7 17 rfl rfl
  | 10, _ => exact xin7 19 rfl rfl
  | 11, _ => exact xin7 21 rfl rfl
  | 12, _ => exact xin7 23 rfl rfl
  | 13, _ => exact xin7 25 rfl rfl
  | 14, _ => exact xin7 27 rfl rfl
  | 15, _ => exact xin7 29 rfl rfl
  | 16, _ => exact xin7 31 rfl rfl
  | 17, _ => exact xin7 33 rfl rfl
  | 18, _ => exact xin7 35 rfl rfl
  | 19, _ => exact xin7 37 rfl rfl
  | 20, _ => exact xin7 39 rfl rfl
  | 21, _ => exact xin7 41 rfl rfl
  | 22, _ => exact xin7 43 rfl rfl
  | 23, _ => exact xin7 45 rfl rfl
  | 24, _ => exact xin7 47 rfl rfl
  | 25, _ => exact xin7 49 rfl rfl
  | 26, _ => exact xin7 51 rfl rfl
  | 27, _ => exact xin7 53 rfl rfl
  | 28, _ => exact xin7 55 rfl rfl
  | 29, _ => exact xin7 57 rfl rfl
  | 30, _ => exact xin7 59 rfl rfl
  | 31, _ => exact xin7 61 rfl rfl
  | 32, _ => exact xin7 63 rfl rfl
  | 33, _ => exact xin7 65 rfl rfl
  | 34, _ => exact xin7 67 rfl rfl
  | 35, _ => exact xin7 69 rfl rfl
  | 36, _ => exact xin7 71 rfl rfl
  | 37, _ => exact xin7 73 rfl rfl
  | 38, _ => exact xin7 75 rfl rfl
  | 39, _ => exact xin7 77 rfl rfl
  | 40, _ => exact xin7 79 rfl rfl
  | 41, _ => exact xin7 81 rfl rfl
  | 42, _ => exact xin7 83 rfl rfl
  | 43, _ => exact xin7 85 rfl rfl
  | 44, _ => exact xin7 87 rfl rfl
  | 45, _ => exact xin7 89 rfl rfl
  | 46, _ => exact xin7 91 rfl rfl
  | 47, _ => exact xin7 93 rfl rfl
  | 48, _ => exact xin7 95 rfl rfl
  | 49, _ => exact xin7 97 rfl rfl
  | 50, _ => exact xin7 99 rfl rfl
  | 51, _ => exact xin7 101 rfl rfl
  | 52, _ => exact xin7 103 rfl rfl
  | 53, _ => exact xin7 105 rfl rfl
  | 54, _ => exact xin7 107 rfl rfl
  | 55, _ => exact xin7 109 rfl rfl
  | 56, _ => exact xin7 111 rfl rfl
  | 57, _ => exact xin7 113 rfl rfl
  | 58, _ => exact xin7 115 rfl rfl
  | 59, _ => exact xin7 117 rfl rfl
  | 60, _ => exact xin7 119 rfl rfl
  | 61, _ => exact xin7 121 rfl rfl
  | 62, _ => exact xin7 123 rfl rfl
  | 63, _ => exact xin7 125 rfl rfl
  | 64, _ => exact xin7 127 rfl rfl
  | 65, _ => exact xin7 129 rfl rfl
  | 66, _ => exact xin7 131 rfl rfl
  | 67, _ => exact xin7 133 rfl rfl
  | 68, _ => exact xin7 135 rfl rfl
  | 69, _ => exact xin7 137 rfl rfl
  | 70, _ => exact xin7 139 rfl rfl
  | 71, _ => exact xin7 141 rfl rfl
  | 72, _ => exact xin7 143 rfl rfl
  | 73, _ => exact xin7 145 rfl rfl
  | 74, _ => exact xin7 147 rfl rfl
  | 75, _ => exact xin7 149 rfl rfl
  | n + 76, hk => exact absurd hk (by omega)
