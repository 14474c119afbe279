/-! Names: classes, their fields, shapes of objects (written by a program of mine out of the listing). -/
def R_HelpFile : String := "HelpFile"
def R_Row : String := "HelpFile$Row"
def R_WordList : String := "HelpFile$WordList"
def R_Book : String := "HelpFile$Book"
def R_Compiler : String := "HelpFile$Compiler"
def R_ImageReader : String := "HelpFile$ImageReader"
def R_Visits : String := "HelpFile$Visits"
def R_Query : String := "HelpFile$Query"
def R_Screen : String := "HelpFile$Screen"
def R_Model : String := "HelpFileModel"
def R_Letters : String := "HelpFile$Letters"
def R_Tree : String := "HelpFile$Tree"
def R_ImageWriter : String := "HelpFile$ImageWriter"
def R_Integer : String := "java/lang/Integer"
def R_Law : String := "HelpFileLaw"
def F_HelpFile : u_T := fun k => match k with
  | 0 => ("HelpFile", "source", "LHelpFile$Row;", true)
  | 1 => ("HelpFile", "image", "LHelpFile$Row;", true)
  | 2 => ("HelpFile", "rewritten", "LHelpFile$Row;", true)
  | 3 => ("HelpFile", "typed", "LHelpFile$Row;", true)
  | 4 => ("HelpFile", "compiler", "LHelpFile$Compiler;", true)
  | 5 => ("HelpFile", "reader", "LHelpFile$ImageReader;", true)
  | 6 => ("HelpFile", "visits", "LHelpFile$Visits;", true)
  | 7 => ("HelpFile", "query", "LHelpFile$Query;", true)
  | 8 => ("HelpFile", "screen", "LHelpFile$Screen;", true)
  | 9 => ("HelpFile", "draft", "LHelpFile$Book;", false)
  | 10 => ("HelpFile", "book", "LHelpFile$Book;", false)
  | 11 => ("HelpFile", "isOpen", "Z", false)
  | 12 => ("HelpFile", "faultLine", "I", false)
  | _ => ("HelpFile", "nodesVisited", "I", false)
def t_HelpFile : Nat → FieldType := fun k => match k with
  | 0 => .object "HelpFile$Row"
  | 1 => .object "HelpFile$Row"
  | 2 => .object "HelpFile$Row"
  | 3 => .object "HelpFile$Row"
  | 4 => .object "HelpFile$Compiler"
  | 5 => .object "HelpFile$ImageReader"
  | 6 => .object "HelpFile$Visits"
  | 7 => .object "HelpFile$Query"
  | 8 => .object "HelpFile$Screen"
  | 9 => .object "HelpFile$Book"
  | 10 => .object "HelpFile$Book"
  | 11 => .boolean
  | 12 => .int
  | _ => .int
def F_Row : u_T := fun k => match k with
  | 0 => ("HelpFile$Row", "elements", "[I", true)
  | 1 => ("HelpFile$Row", "count", "I", false)
  | _ => ("HelpFile$Row", "overfull", "Z", false)
def t_Row : Nat → FieldType := fun k => match k with
  | 0 => .array (.int)
  | 1 => .int
  | _ => .boolean
def F_WordList : u_T := fun k => match k with
  | 0 => ("HelpFile$WordList", "words", "[J", true)
  | 1 => ("HelpFile$WordList", "topics", "[I", true)
  | _ => ("HelpFile$WordList", "count", "I", false)
def t_WordList : Nat → FieldType := fun k => match k with
  | 0 => .array (.long)
  | 1 => .array (.int)
  | _ => .int
def F_Book : u_T := fun k => match k with
  | 0 => ("HelpFile$Book", "names", "[J", true)
  | 1 => ("HelpFile$Book", "starts", "[I", true)
  | 2 => ("HelpFile$Book", "bodies", "LHelpFile$Row;", true)
  | 3 => ("HelpFile$Book", "keywords", "LHelpFile$WordList;", true)
  | 4 => ("HelpFile$Book", "words", "LHelpFile$WordList;", true)
  | _ => ("HelpFile$Book", "topics", "I", false)
def t_Book : Nat → FieldType := fun k => match k with
  | 0 => .array (.long)
  | 1 => .array (.int)
  | 2 => .object "HelpFile$Row"
  | 3 => .object "HelpFile$WordList"
  | 4 => .object "HelpFile$WordList"
  | _ => .int
def F_Compiler : u_T := fun k => match k with
  | 0 => ("HelpFile$Compiler", "headingLines", "[I", true)
  | 1 => ("HelpFile$Compiler", "linkNames", "[J", true)
  | 2 => ("HelpFile$Compiler", "linkLines", "[I", true)
  | 3 => ("HelpFile$Compiler", "linkPlaces", "[I", true)
  | 4 => ("HelpFile$Compiler", "links", "I", false)
  | 5 => ("HelpFile$Compiler", "source", "LHelpFile$Row;", false)
  | 6 => ("HelpFile$Compiler", "book", "LHelpFile$Book;", false)
  | 7 => ("HelpFile$Compiler", "fault", "I", false)
  | 8 => ("HelpFile$Compiler", "faultLine", "I", false)
  | 9 => ("HelpFile$Compiler", "lineNow", "I", false)
  | 10 => ("HelpFile$Compiler", "textLine", "I", false)
  | 11 => ("HelpFile$Compiler", "inParagraph", "Z", false)
  | 12 => ("HelpFile$Compiler", "blankDue", "Z", false)
  | _ => ("HelpFile$Compiler", "emphasis", "Z", false)
def t_Compiler : Nat → FieldType := fun k => match k with
  | 0 => .array (.int)
  | 1 => .array (.long)
  | 2 => .array (.int)
  | 3 => .array (.int)
  | 4 => .int
  | 5 => .object "HelpFile$Row"
  | 6 => .object "HelpFile$Book"
  | 7 => .int
  | 8 => .int
  | 9 => .int
  | 10 => .int
  | 11 => .boolean
  | 12 => .boolean
  | _ => .boolean
def F_ImageReader : u_T := fun k => match k with
  | 0 => ("HelpFile$ImageReader", "image", "LHelpFile$Row;", false)
  | 1 => ("HelpFile$ImageReader", "book", "LHelpFile$Book;", false)
  | _ => ("HelpFile$ImageReader", "place", "I", false)
def t_ImageReader : Nat → FieldType := fun k => match k with
  | 0 => .object "HelpFile$Row"
  | 1 => .object "HelpFile$Book"
  | _ => .int
def F_Visits : u_T := fun k => match k with
  | 0 => ("HelpFile$Visits", "back", "LHelpFile$Row;", true)
  | 1 => ("HelpFile$Visits", "forward", "LHelpFile$Row;", true)
  | _ => ("HelpFile$Visits", "topic", "I", false)
def t_Visits : Nat → FieldType := fun k => match k with
  | 0 => .object "HelpFile$Row"
  | 1 => .object "HelpFile$Row"
  | _ => .int
def F_Query : u_T := fun k => match k with
  | 0 => ("HelpFile$Query", "found", "[I", true)
  | 1 => ("HelpFile$Query", "joined", "[I", true)
  | 2 => ("HelpFile$Query", "negated", "[Z", true)
  | 3 => ("HelpFile$Query", "everyTopic", "I", false)
  | 4 => ("HelpFile$Query", "level", "I", false)
  | _ => ("HelpFile$Query", "conditionDue", "Z", false)
def t_Query : Nat → FieldType := fun k => match k with
  | 0 => .array (.int)
  | 1 => .array (.int)
  | 2 => .array (.boolean)
  | 3 => .int
  | 4 => .int
  | _ => .boolean
def F_Screen : u_T := fun k => match k with
  | 0 => ("HelpFile$Screen", "signs", "LHelpFile$Row;", true)
  | 1 => ("HelpFile$Screen", "part", "LHelpFile$Row;", true)
  | 2 => ("HelpFile$Screen", "starts", "[I", true)
  | 3 => ("HelpFile$Screen", "lines", "I", false)
  | _ => ("HelpFile$Screen", "width", "I", false)
def t_Screen : Nat → FieldType := fun k => match k with
  | 0 => .object "HelpFile$Row"
  | 1 => .object "HelpFile$Row"
  | 2 => .array (.int)
  | 3 => .int
  | _ => .int
def F_Model : u_T := fun k => match k with
  | 0 => ("HelpFileModel", "thrown", "I", false)
  | 1 => ("HelpFileModel", "source", "[I", true)
  | 2 => ("HelpFileModel", "size", "I", false)
  | 3 => ("HelpFileModel", "faultLine", "I", false)
  | 4 => ("HelpFileModel", "fault", "I", false)
  | 5 => ("HelpFileModel", "topics", "I", false)
  | 6 => ("HelpFileModel", "names", "[I", true)
  | 7 => ("HelpFileModel", "bodies", "[I", true)
  | 8 => ("HelpFileModel", "lengths", "[I", true)
  | 9 => ("HelpFileModel", "headings", "[I", true)
  | 10 => ("HelpFileModel", "keywords", "I", false)
  | 11 => ("HelpFileModel", "keyLetters", "[I", true)
  | 12 => ("HelpFileModel", "keyLengths", "[I", true)
  | 13 => ("HelpFileModel", "keyBits", "[I", true)
  | 14 => ("HelpFileModel", "words", "I", false)
  | 15 => ("HelpFileModel", "wordLetters", "[I", true)
  | 16 => ("HelpFileModel", "wordLengths", "[I", true)
  | 17 => ("HelpFileModel", "wordBits", "[I", true)
  | 18 => ("HelpFileModel", "links", "I", false)
  | 19 => ("HelpFileModel", "linkAt", "[I", true)
  | 20 => ("HelpFileModel", "linkLength", "[I", true)
  | 21 => ("HelpFileModel", "linkLine", "[I", true)
  | 22 => ("HelpFileModel", "linkTo", "[I", true)
  | 23 => ("HelpFileModel", "inParagraph", "Z", false)
  | 24 => ("HelpFileModel", "emphasis", "Z", false)
  | 25 => ("HelpFileModel", "blank", "Z", false)
  | 26 => ("HelpFileModel", "lastLine", "I", false)
  | 27 => ("HelpFileModel", "imageSize", "I", false)
  | 28 => ("HelpFileModel", "image", "[I", true)
  | 29 => ("HelpFileModel", "compares", "Z", false)
  | 30 => ("HelpFileModel", "unlike", "Z", false)
  | 31 => ("HelpFileModel", "out", "I", false)
  | 32 => ("HelpFileModel", "total", "I", false)
  | 33 => ("HelpFileModel", "literal", "I", false)
  | 34 => ("HelpFileModel", "handLength", "I", false)
  | 35 => ("HelpFileModel", "hand", "[I", true)
  | 36 => ("HelpFileModel", "isOpen", "Z", false)
  | 37 => ("HelpFileModel", "seenTopics", "I", false)
  | 38 => ("HelpFileModel", "seenNames", "[I", true)
  | 39 => ("HelpFileModel", "seenBodies", "[I", true)
  | 40 => ("HelpFileModel", "seenLengths", "[I", true)
  | 41 => ("HelpFileModel", "seenKeywords", "I", false)
  | 42 => ("HelpFileModel", "seenKeyLetters", "[I", true)
  | 43 => ("HelpFileModel", "seenKeyLengths", "[I", true)
  | 44 => ("HelpFileModel", "seenKeyBits", "[I", true)
  | 45 => ("HelpFileModel", "seenWords", "I", false)
  | 46 => ("HelpFileModel", "seenWordLetters", "[I", true)
  | 47 => ("HelpFileModel", "seenWordLengths", "[I", true)
  | 48 => ("HelpFileModel", "seenWordBits", "[I", true)
  | 49 => ("HelpFileModel", "topic", "I", false)
  | 50 => ("HelpFileModel", "backs", "I", false)
  | 51 => ("HelpFileModel", "back", "[I", true)
  | 52 => ("HelpFileModel", "forwards", "I", false)
  | 53 => ("HelpFileModel", "forward", "[I", true)
  | 54 => ("HelpFileModel", "typed", "I", false)
  | 55 => ("HelpFileModel", "query", "[I", true)
  | 56 => ("HelpFileModel", "visits", "I", false)
  | 57 => ("HelpFileModel", "values", "[I", true)
  | 58 => ("HelpFileModel", "valued", "I", false)
  | 59 => ("HelpFileModel", "signs", "[I", true)
  | 60 => ("HelpFileModel", "signed", "I", false)
  | 61 => ("HelpFileModel", "width", "I", false)
  | 62 => ("HelpFileModel", "lines", "I", false)
  | 63 => ("HelpFileModel", "lineFrom", "[I", true)
  | 64 => ("HelpFileModel", "lineSize", "[I", true)
  | 65 => ("HelpFileModel", "shown", "I", false)
  | 66 => ("HelpFileModel", "text", "[I", true)
  | 67 => ("HelpFileModel", "partLength", "I", false)
  | _ => ("HelpFileModel", "part", "[I", true)
def t_Model : Nat → FieldType := fun k => match k with
  | 0 => .int
  | 1 => .array (.int)
  | 2 => .int
  | 3 => .int
  | 4 => .int
  | 5 => .int
  | 6 => .array (.int)
  | 7 => .array (.int)
  | 8 => .array (.int)
  | 9 => .array (.int)
  | 10 => .int
  | 11 => .array (.int)
  | 12 => .array (.int)
  | 13 => .array (.int)
  | 14 => .int
  | 15 => .array (.int)
  | 16 => .array (.int)
  | 17 => .array (.int)
  | 18 => .int
  | 19 => .array (.int)
  | 20 => .array (.int)
  | 21 => .array (.int)
  | 22 => .array (.int)
  | 23 => .boolean
  | 24 => .boolean
  | 25 => .boolean
  | 26 => .int
  | 27 => .int
  | 28 => .array (.int)
  | 29 => .boolean
  | 30 => .boolean
  | 31 => .int
  | 32 => .int
  | 33 => .int
  | 34 => .int
  | 35 => .array (.int)
  | 36 => .boolean
  | 37 => .int
  | 38 => .array (.int)
  | 39 => .array (.int)
  | 40 => .array (.int)
  | 41 => .int
  | 42 => .array (.int)
  | 43 => .array (.int)
  | 44 => .array (.int)
  | 45 => .int
  | 46 => .array (.int)
  | 47 => .array (.int)
  | 48 => .array (.int)
  | 49 => .int
  | 50 => .int
  | 51 => .array (.int)
  | 52 => .int
  | 53 => .array (.int)
  | 54 => .int
  | 55 => .array (.int)
  | 56 => .int
  | 57 => .array (.int)
  | 58 => .int
  | 59 => .array (.int)
  | 60 => .int
  | 61 => .int
  | 62 => .int
  | 63 => .array (.int)
  | 64 => .array (.int)
  | 65 => .int
  | 66 => .array (.int)
  | 67 => .int
  | _ => .array (.int)
abbrev classes : List vw_C := [(R_HelpFile, F_HelpFile, 14), (R_Row, F_Row, 3), (R_WordList, F_WordList, 3), (R_Book, F_Book, 6), (R_Compiler, F_Compiler, 14), (R_ImageReader, F_ImageReader, 3), (R_Visits, F_Visits, 3), (R_Query, F_Query, 6), (R_Screen, F_Screen, 5), (R_Model, F_Model, 69)]
abbrev Tys (cI cL cZ : ClassId) : List (ClassId × FieldType) := [(cI, .int), (cL, .long), (cZ, .boolean)]
theorem n_HelpFile : ∀ a, a < 14 → ∀ b, b < 14 → a ≠ b → (F_HelpFile a).2.1 ≠ (F_HelpFile b).2.1 := by decide +kernel
theorem t_HelpFile_ok : ∀ k, k < 14 → parseFieldDescriptor (F_HelpFile k).2.2.1 = some (t_HelpFile k) := by decide +kernel
theorem iw_HelpFile : ∀ w ∈ u_ws R_HelpFile F_HelpFile 14, w ∈ ga := ga_ps [240, 242, 244, 246, 248, 250, 252, 254, 256, 258, 260, 262, 264, 266] (by decide +kernel) (by decide +kernel)
theorem in_HelpFile {k0 : Cond} : ∀ w ∈ u_ws R_HelpFile F_HelpFile 14, w ∈ k0 :: ga := fun w h => List.mem_cons_of_mem _ (iw_HelpFile w h)
theorem n_Row : ∀ a, a < 3 → ∀ b, b < 3 → a ≠ b → (F_Row a).2.1 ≠ (F_Row b).2.1 := by decide +kernel
theorem t_Row_ok : ∀ k, k < 3 → parseFieldDescriptor (F_Row k).2.2.1 = some (t_Row k) := by decide +kernel
theorem iw_Row : ∀ w ∈ u_ws R_Row F_Row 3, w ∈ ga := ga_ps [41, 43, 45] (by decide +kernel) (by decide +kernel)
theorem in_Row {k0 : Cond} : ∀ w ∈ u_ws R_Row F_Row 3, w ∈ k0 :: ga := fun w h => List.mem_cons_of_mem _ (iw_Row w h)
theorem n_WordList : ∀ a, a < 3 → ∀ b, b < 3 → a ≠ b → (F_WordList a).2.1 ≠ (F_WordList b).2.1 := by decide +kernel
theorem t_WordList_ok : ∀ k, k < 3 → parseFieldDescriptor (F_WordList k).2.2.1 = some (t_WordList k) := by decide +kernel
theorem iw_WordList : ∀ w ∈ u_ws R_WordList F_WordList 3, w ∈ ga := ga_ps [200, 202, 204] (by decide +kernel) (by decide +kernel)
theorem in_WordList {k0 : Cond} : ∀ w ∈ u_ws R_WordList F_WordList 3, w ∈ k0 :: ga := fun w h => List.mem_cons_of_mem _ (iw_WordList w h)
theorem n_Book : ∀ a, a < 6 → ∀ b, b < 6 → a ≠ b → (F_Book a).2.1 ≠ (F_Book b).2.1 := by decide +kernel
theorem t_Book_ok : ∀ k, k < 6 → parseFieldDescriptor (F_Book k).2.2.1 = some (t_Book k) := by decide +kernel
theorem iw_Book : ∀ w ∈ u_ws R_Book F_Book 6, w ∈ ga := ga_ps [213, 215, 217, 219, 221, 223] (by decide +kernel) (by decide +kernel)
theorem in_Book {k0 : Cond} : ∀ w ∈ u_ws R_Book F_Book 6, w ∈ k0 :: ga := fun w h => List.mem_cons_of_mem _ (iw_Book w h)
theorem n_Compiler : ∀ a, a < 14 → ∀ b, b < 14 → a ≠ b → (F_Compiler a).2.1 ≠ (F_Compiler b).2.1 := by decide +kernel
theorem t_Compiler_ok : ∀ k, k < 14 → parseFieldDescriptor (F_Compiler k).2.2.1 = some (t_Compiler k) := by decide +kernel
theorem iw_Compiler : ∀ w ∈ u_ws R_Compiler F_Compiler 14, w ∈ ga := ga_ps [69, 71, 73, 75, 77, 79, 81, 83, 85, 87, 89, 91, 93, 95] (by decide +kernel) (by decide +kernel)
theorem in_Compiler {k0 : Cond} : ∀ w ∈ u_ws R_Compiler F_Compiler 14, w ∈ k0 :: ga := fun w h => List.mem_cons_of_mem _ (iw_Compiler w h)
theorem n_ImageReader : ∀ a, a < 3 → ∀ b, b < 3 → a ≠ b → (F_ImageReader a).2.1 ≠ (F_ImageReader b).2.1 := by decide +kernel
theorem t_ImageReader_ok : ∀ k, k < 3 → parseFieldDescriptor (F_ImageReader k).2.2.1 = some (t_ImageReader k) := by decide +kernel
theorem iw_ImageReader : ∀ w ∈ u_ws R_ImageReader F_ImageReader 3, w ∈ ga := ga_ps [108, 110, 112] (by decide +kernel) (by decide +kernel)
theorem in_ImageReader {k0 : Cond} : ∀ w ∈ u_ws R_ImageReader F_ImageReader 3, w ∈ k0 :: ga := fun w h => List.mem_cons_of_mem _ (iw_ImageReader w h)
theorem n_Visits : ∀ a, a < 3 → ∀ b, b < 3 → a ≠ b → (F_Visits a).2.1 ≠ (F_Visits b).2.1 := by decide +kernel
theorem t_Visits_ok : ∀ k, k < 3 → parseFieldDescriptor (F_Visits k).2.2.1 = some (t_Visits k) := by decide +kernel
theorem iw_Visits : ∀ w ∈ u_ws R_Visits F_Visits 3, w ∈ ga := ga_ps [126, 128, 130] (by decide +kernel) (by decide +kernel)
theorem in_Visits {k0 : Cond} : ∀ w ∈ u_ws R_Visits F_Visits 3, w ∈ k0 :: ga := fun w h => List.mem_cons_of_mem _ (iw_Visits w h)
theorem n_Query : ∀ a, a < 6 → ∀ b, b < 6 → a ≠ b → (F_Query a).2.1 ≠ (F_Query b).2.1 := by decide +kernel
theorem t_Query_ok : ∀ k, k < 6 → parseFieldDescriptor (F_Query k).2.2.1 = some (t_Query k) := by decide +kernel
theorem iw_Query : ∀ w ∈ u_ws R_Query F_Query 6, w ∈ ga := ga_ps [145, 147, 149, 151, 153, 155] (by decide +kernel) (by decide +kernel)
theorem in_Query {k0 : Cond} : ∀ w ∈ u_ws R_Query F_Query 6, w ∈ k0 :: ga := fun w h => List.mem_cons_of_mem _ (iw_Query w h)
theorem n_Screen : ∀ a, a < 5 → ∀ b, b < 5 → a ≠ b → (F_Screen a).2.1 ≠ (F_Screen b).2.1 := by decide +kernel
theorem t_Screen_ok : ∀ k, k < 5 → parseFieldDescriptor (F_Screen k).2.2.1 = some (t_Screen k) := by decide +kernel
theorem iw_Screen : ∀ w ∈ u_ws R_Screen F_Screen 5, w ∈ ga := ga_ps [172, 174, 176, 178, 180] (by decide +kernel) (by decide +kernel)
theorem in_Screen {k0 : Cond} : ∀ w ∈ u_ws R_Screen F_Screen 5, w ∈ k0 :: ga := fun w h => List.mem_cons_of_mem _ (iw_Screen w h)
theorem n_Model : ∀ a, a < 69 → ∀ b, b < 69 → a ≠ b → (F_Model a).2.1 ≠ (F_Model b).2.1 := by decide +kernel
theorem t_Model_ok : ∀ k, k < 69 → parseFieldDescriptor (F_Model k).2.2.1 = some (t_Model k) := by decide +kernel
theorem iw_Model : ∀ w ∈ u_ws R_Model F_Model 69, w ∈ ga := ga_ps [1105, 1107, 1109, 1111, 1113, 1115, 1117, 1119, 1121, 1123, 1125, 1127, 1129, 1131, 1133, 1135, 1137, 1139, 1141, 1143, 1145, 1147, 1149, 1151, 1153, 1155, 1157, 1159, 1161, 1163, 1165, 1167, 1169, 1171, 1173, 1175, 1177, 1179, 1181, 1183, 1185, 1187, 1189, 1191, 1193, 1195, 1197, 1199, 1201, 1203, 1205, 1207, 1209, 1211, 1213, 1215, 1217, 1219, 1221, 1223, 1225, 1227, 1229, 1231, 1233, 1235, 1237, 1239, 1241] (by decide +kernel) (by decide +kernel)
theorem in_Model {k0 : Cond} : ∀ w ∈ u_ws R_Model F_Model 69, w ∈ k0 :: ga := fun w h => List.mem_cons_of_mem _ (iw_Model w h)
abbrev sh_Row (cI cL cZ : ClassId) (q : Nat) (qEa : Nat) (qn : Nat) (qE : Nat → Int32) (qC : Int32) (qO : Bool) : va_W := [(q, .inr (1, [.ref qEa, .int qC, .int (bI qO)]))] ++ ([(qEa, .inl (cI, qn, .inl qE))])
abbrev sh_WordList (cI cL cZ : ClassId) (q : Nat) (qWa : Nat) (qn : Nat) (qW : Nat → Int64) (qTa : Nat) (qT : Nat → Int32) (qC : Int32) : va_W := [(q, .inr (2, [.ref qWa, .ref qTa, .int qC]))] ++ ([(qWa, .inl (cL, qn, .inr (.inl qW)))] ++ ([(qTa, .inl (cI, qn, .inl qT))]))
abbrev sh_Book (cI cL cZ : ClassId) (q : Nat) (qNa : Nat) (qN : Nat → Int64) (qSa : Nat) (qS : Nat → Int32) (qB : Nat) (qBEa : Nat) (qBn : Nat) (qBE : Nat → Int32) (qBC : Int32) (qBO : Bool) (qK : Nat) (qKWa : Nat) (qKn : Nat) (qKW : Nat → Int64) (qKTa : Nat) (qKT : Nat → Int32) (qKC : Int32) (qV : Nat) (qVWa : Nat) (qVn : Nat) (qVW : Nat → Int64) (qVTa : Nat) (qVT : Nat → Int32) (qVC : Int32) (qT : Int32) : va_W := [(q, .inr (3, [.ref qNa, .ref qSa, .ref qB, .ref qK, .ref qV, .int qT]))] ++ ([(qNa, .inl (cL, 10, .inr (.inl qN)))] ++ ([(qSa, .inl (cI, 11, .inl qS))] ++ (sh_Row cI cL cZ qB qBEa qBn qBE qBC qBO ++ (sh_WordList cI cL cZ qK qKWa qKn qKW qKTa qKT qKC ++ (sh_WordList cI cL cZ qV qVWa qVn qVW qVTa qVT qVC)))))
abbrev sh_Compiler (cI cL cZ : ClassId) (q : Nat) (qHa : Nat) (qH : Nat → Int32) (qNa : Nat) (qN : Nat → Int64) (qLa : Nat) (qL : Nat → Int32) (qPa : Nat) (qP : Nat → Int32) (qK : Int32) (qS : Value) (qB : Value) (qF : Int32) (qE : Int32) (qW : Int32) (qX : Int32) (qI : Bool) (qD : Bool) (qM : Bool) : va_W := [(q, .inr (4, [.ref qHa, .ref qNa, .ref qLa, .ref qPa, .int qK, qS, qB, .int qF, .int qE, .int qW, .int qX, .int (bI qI), .int (bI qD), .int (bI qM)]))] ++ ([(qHa, .inl (cI, 10, .inl qH))] ++ ([(qNa, .inl (cL, 234, .inr (.inl qN)))] ++ ([(qLa, .inl (cI, 234, .inl qL))] ++ ([(qPa, .inl (cI, 234, .inl qP))]))))
abbrev sh_ImageReader (cI cL cZ : ClassId) (q : Nat) (qI : Value) (qB : Value) (qP : Int32) : va_W := [(q, .inr (5, [qI, qB, .int qP]))]
abbrev sh_Visits (cI cL cZ : ClassId) (q : Nat) (qB : Nat) (qBEa : Nat) (qBn : Nat) (qBE : Nat → Int32) (qBC : Int32) (qBO : Bool) (qF : Nat) (qFEa : Nat) (qFn : Nat) (qFE : Nat → Int32) (qFC : Int32) (qFO : Bool) (qT : Int32) : va_W := [(q, .inr (6, [.ref qB, .ref qF, .int qT]))] ++ (sh_Row cI cL cZ qB qBEa qBn qBE qBC qBO ++ (sh_Row cI cL cZ qF qFEa qFn qFE qFC qFO))
abbrev sh_Query (cI cL cZ : ClassId) (q : Nat) (qFa : Nat) (qF : Nat → Int32) (qJa : Nat) (qJ : Nat → Int32) (qNa : Nat) (qN : Nat → Int32) (qE : Int32) (qL : Int32) (qD : Bool) : va_W := [(q, .inr (7, [.ref qFa, .ref qJa, .ref qNa, .int qE, .int qL, .int (bI qD)]))] ++ ([(qFa, .inl (cI, 41, .inl qF))] ++ ([(qJa, .inl (cI, 41, .inl qJ))] ++ ([(qNa, .inl (cZ, 41, .inl qN))])))
abbrev sh_Screen (cI cL cZ : ClassId) (q : Nat) (qS : Nat) (qSEa : Nat) (qSn : Nat) (qSE : Nat → Int32) (qSC : Int32) (qSO : Bool) (qP : Nat) (qPEa : Nat) (qPn : Nat) (qPE : Nat → Int32) (qPC : Int32) (qPO : Bool) (qAa : Nat) (qA : Nat → Int32) (qL : Int32) (qW : Int32) : va_W := [(q, .inr (8, [.ref qS, .ref qP, .ref qAa, .int qL, .int qW]))] ++ (sh_Row cI cL cZ qS qSEa qSn qSE qSC qSO ++ (sh_Row cI cL cZ qP qPEa qPn qPE qPC qPO ++ ([(qAa, .inl (cI, 256, .inl qA))])))
