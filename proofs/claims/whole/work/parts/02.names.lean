-- names, field tables, the numbering of the cells (by wip/whole/gen02.py)
def R_SM : String := "ServiceManager"
def R_Reader : String := "ServiceManager$Reader"
def R_Setup : String := "ServiceManager$Setup"
def R_World : String := "ServiceManager$World"
def R_Trans : String := "ServiceManager$Transaction"
def R_Jobs : String := "ServiceManager$Jobs"
def R_Model : String := "ServiceManagerModel"
def F_SM : u_T := fun k => match k with
  | 0 => ("ServiceManager", "buffer", "[I", true)
  | 1 => ("ServiceManager", "length", "I", false)
  | 2 => ("ServiceManager", "latestError", "I", false)
  | 3 => ("ServiceManager", "reader", "LServiceManager$Reader;", true)
  | 4 => ("ServiceManager", "real", "LServiceManager$World;", true)
  | 5 => ("ServiceManager", "trial", "LServiceManager$World;", true)
  | 6 => ("ServiceManager", "firstSnapshot", "LServiceManager$World;", true)
  | 7 => ("ServiceManager", "secondSnapshot", "LServiceManager$World;", true)
  | 8 => ("ServiceManager", "firstIsSaved", "Z", false)
  | _ => ("ServiceManager", "secondIsSaved", "Z", false)
def t_SM : Nat → FieldType := fun k => match k with
  | 0 => .array .int
  | 1 => .int
  | 2 => .int
  | 3 => .object "ServiceManager$Reader"
  | 4 => .object "ServiceManager$World"
  | 5 => .object "ServiceManager$World"
  | 6 => .object "ServiceManager$World"
  | 7 => .object "ServiceManager$World"
  | 8 => .boolean
  | _ => .boolean
def F_Reader : u_T := fun k => match k with
  | 0 => ("ServiceManager$Reader", "draft", "LServiceManager$Setup;", true)
  | 1 => ("ServiceManager$Reader", "text", "[I", false)
  | 2 => ("ServiceManager$Reader", "size", "I", false)
  | 3 => ("ServiceManager$Reader", "part", "I", false)
  | 4 => ("ServiceManager$Reader", "from", "I", false)
  | 5 => ("ServiceManager$Reader", "to", "I", false)
  | 6 => ("ServiceManager$Reader", "error", "I", false)
  | _ => ("ServiceManager$Reader", "errorPosition", "I", false)
def t_Reader : Nat → FieldType := fun k => match k with
  | 0 => .object "ServiceManager$Setup"
  | 1 => .array .int
  | 2 => .int
  | 3 => .int
  | 4 => .int
  | 5 => .int
  | 6 => .int
  | _ => .int
def F_Setup : u_T := fun k => match k with
  | 0 => ("ServiceManager$Setup", "count", "I", false)
  | 1 => ("ServiceManager$Setup", "kind", "[I", true)
  | 2 => ("ServiceManager$Setup", "nameLength", "[I", true)
  | 3 => ("ServiceManager$Setup", "letters", "[I", true)
  | 4 => ("ServiceManager$Setup", "properties", "[I", true)
  | 5 => ("ServiceManager$Setup", "service", "[I", true)
  | 6 => ("ServiceManager$Setup", "backlog", "[I", true)
  | 7 => ("ServiceManager$Setup", "relations", "[[I", true)
  | 8 => ("ServiceManager$Setup", "needs", "[I", true)
  | 9 => ("ServiceManager$Setup", "opponents", "[I", true)
  | 10 => ("ServiceManager$Setup", "followers", "[I", true)
  | _ => ("ServiceManager$Setup", "later", "[I", true)
def t_Setup : Nat → FieldType := fun k => match k with
  | 0 => .int
  | 1 => .array .int
  | 2 => .array .int
  | 3 => .array .int
  | 4 => .array .int
  | 5 => .array .int
  | 6 => .array .int
  | 7 => .array (.array .int)
  | 8 => .array .int
  | 9 => .array .int
  | 10 => .array .int
  | _ => .array .int
def F_World : u_T := fun k => match k with
  | 0 => ("ServiceManager$World", "setup", "LServiceManager$Setup;", true)
  | 1 => ("ServiceManager$World", "transaction", "LServiceManager$Transaction;", true)
  | 2 => ("ServiceManager$World", "jobs", "LServiceManager$Jobs;", true)
  | 3 => ("ServiceManager$World", "now", "I", false)
  | 4 => ("ServiceManager$World", "masked", "I", false)
  | 5 => ("ServiceManager$World", "state", "[I", true)
  | 6 => ("ServiceManager$World", "changed", "[I", true)
  | 7 => ("ServiceManager$World", "result", "[I", true)
  | 8 => ("ServiceManager$World", "code", "[I", true)
  | 9 => ("ServiceManager$World", "lastUse", "[I", true)
  | 10 => ("ServiceManager$World", "activations", "[I", true)
  | 11 => ("ServiceManager$World", "beginTimes", "[I", true)
  | 12 => ("ServiceManager$World", "beginsInAll", "[I", true)
  | 13 => ("ServiceManager$World", "policyStarts", "[I", true)
  | 14 => ("ServiceManager$World", "queue", "[I", true)
  | 15 => ("ServiceManager$World", "served", "[I", true)
  | 16 => ("ServiceManager$World", "turnedAway", "[I", true)
  | 17 => ("ServiceManager$World", "log", "[I", true)
  | _ => ("ServiceManager$World", "logged", "I", false)
def t_World : Nat → FieldType := fun k => match k with
  | 0 => .object "ServiceManager$Setup"
  | 1 => .object "ServiceManager$Transaction"
  | 2 => .object "ServiceManager$Jobs"
  | 3 => .int
  | 4 => .int
  | 5 => .array .int
  | 6 => .array .int
  | 7 => .array .int
  | 8 => .array .int
  | 9 => .array .int
  | 10 => .array .int
  | 11 => .array .int
  | 12 => .array .int
  | 13 => .array .int
  | 14 => .array .int
  | 15 => .array .int
  | 16 => .array .int
  | 17 => .array .int
  | _ => .int
def F_Trans : u_T := fun k => match k with
  | 0 => ("ServiceManager$Transaction", "starts", "I", false)
  | 1 => ("ServiceManager$Transaction", "restarting", "I", false)
  | 2 => ("ServiceManager$Transaction", "stops", "I", false)
  | 3 => ("ServiceManager$Transaction", "essentialStarts", "I", false)
  | 4 => ("ServiceManager$Transaction", "essentialStops", "I", false)
  | 5 => ("ServiceManager$Transaction", "leftOutStarts", "I", false)
  | 6 => ("ServiceManager$Transaction", "leftOutStops", "I", false)
  | 7 => ("ServiceManager$Transaction", "before", "[I", true)
  | 8 => ("ServiceManager$Transaction", "weight", "[I", true)
  | _ => ("ServiceManager$Transaction", "total", "[I", true)
def t_Trans : Nat → FieldType := fun k => match k with
  | 0 => .int
  | 1 => .int
  | 2 => .int
  | 3 => .int
  | 4 => .int
  | 5 => .int
  | 6 => .int
  | 7 => .array .int
  | 8 => .array .int
  | _ => .array .int
def F_Jobs : u_T := fun k => match k with
  | 0 => ("ServiceManager$Jobs", "starts", "I", false)
  | 1 => ("ServiceManager$Jobs", "restarting", "I", false)
  | 2 => ("ServiceManager$Jobs", "stops", "I", false)
  | 3 => ("ServiceManager$Jobs", "running", "I", false)
  | _ => ("ServiceManager$Jobs", "outcome", "[I", true)
def t_Jobs : Nat → FieldType := fun k => match k with
  | 0 => .int
  | 1 => .int
  | 2 => .int
  | 3 => .int
  | _ => .array .int
def F_Model : u_T := fun k => match k with
  | 0 => ("ServiceManagerModel", "w", "[I", true)
  | 1 => ("ServiceManagerModel", "aside", "[I", true)
  | 2 => ("ServiceManagerModel", "fresh", "[I", true)
  | 3 => ("ServiceManagerModel", "slot0", "[I", true)
  | 4 => ("ServiceManagerModel", "slot1", "[I", true)
  | 5 => ("ServiceManagerModel", "isSaved", "[Z", true)
  | 6 => ("ServiceManagerModel", "thrown", "I", false)
  | 7 => ("ServiceManagerModel", "buffer", "[I", true)
  | 8 => ("ServiceManagerModel", "length", "I", false)
  | 9 => ("ServiceManagerModel", "point", "I", false)
  | 10 => ("ServiceManagerModel", "begin", "I", false)
  | 11 => ("ServiceManagerModel", "wrong", "I", false)
  | 12 => ("ServiceManagerModel", "wrongKind", "I", false)
  | 13 => ("ServiceManagerModel", "loadFault", "I", false)
  | 14 => ("ServiceManagerModel", "place", "I", false)
  | 15 => ("ServiceManagerModel", "jobs", "[I", true)
  | 16 => ("ServiceManagerModel", "essential", "[I", true)
  | 17 => ("ServiceManagerModel", "banned", "[I", true)
  | 18 => ("ServiceManagerModel", "isChanged", "Z", false)
  | 19 => ("ServiceManagerModel", "isMaskedHit", "Z", false)
  | 20 => ("ServiceManagerModel", "reach", "[I", true)
  | _ => ("ServiceManagerModel", "sums", "[I", true)
def t_Model : Nat → FieldType := fun k => match k with
  | 0 => .array .int
  | 1 => .array .int
  | 2 => .array .int
  | 3 => .array .int
  | 4 => .array .int
  | 5 => .array .boolean
  | 6 => .int
  | 7 => .array .int
  | 8 => .int
  | 9 => .int
  | 10 => .int
  | 11 => .int
  | 12 => .int
  | 13 => .int
  | 14 => .int
  | 15 => .array .int
  | 16 => .array .int
  | 17 => .array .int
  | 18 => .boolean
  | 19 => .boolean
  | 20 => .array .int
  | _ => .array .int
abbrev ux_cl : List vw_C := [(R_SM, F_SM, 10), (R_Reader, F_Reader, 8), (R_Setup, F_Setup, 12), (R_World, F_World, 19), (R_Trans, F_Trans, 10), (R_Jobs, F_Jobs, 5), (R_Model, F_Model, 22)]
/-- membership by places -/
theorem ux_memL {big ws : List Cond} (is : List Nat) (h : ws.map some = is.map (fun i => big[i]?)) : ∀ w ∈ ws, w ∈ big := by
  intro w hw
  have h1 : some w ∈ ws.map some := List.mem_map.mpr ⟨w, hw, rfl⟩
  rw [h] at h1
  obtain ⟨i, -, hi⟩ := List.mem_map.mp h1
  exact List.mem_of_getElem? hi
theorem n_SM : ∀ a, a < 10 → ∀ b, b < 10 → a ≠ b → (F_SM a).2.1 ≠ (F_SM b).2.1 := by decide +kernel
theorem t_SM_ok : ∀ k, k < 10 → parseFieldDescriptor (F_SM k).2.2.1 = some (t_SM k) := by decide +kernel
theorem i_SM : ∀ w ∈ u_ws R_SM F_SM 10, w ∈ lw_tbl := ux_memL [473, 475, 477, 479, 481, 483, 485, 487, 489, 491] (by decide +kernel)
theorem n_Reader : ∀ a, a < 8 → ∀ b, b < 8 → a ≠ b → (F_Reader a).2.1 ≠ (F_Reader b).2.1 := by decide +kernel
theorem t_Reader_ok : ∀ k, k < 8 → parseFieldDescriptor (F_Reader k).2.2.1 = some (t_Reader k) := by decide +kernel
theorem i_Reader : ∀ w ∈ u_ws R_Reader F_Reader 8, w ∈ lw_tbl := ux_memL [293, 295, 297, 299, 301, 303, 305, 307] (by decide +kernel)
theorem n_Setup : ∀ a, a < 12 → ∀ b, b < 12 → a ≠ b → (F_Setup a).2.1 ≠ (F_Setup b).2.1 := by decide +kernel
theorem t_Setup_ok : ∀ k, k < 12 → parseFieldDescriptor (F_Setup k).2.2.1 = some (t_Setup k) := by decide +kernel
theorem i_Setup : ∀ w ∈ u_ws R_Setup F_Setup 12, w ∈ lw_tbl := ux_memL [256, 258, 260, 262, 264, 266, 268, 270, 272, 274, 276, 278] (by decide +kernel)
theorem n_World : ∀ a, a < 19 → ∀ b, b < 19 → a ≠ b → (F_World a).2.1 ≠ (F_World b).2.1 := by decide +kernel
theorem t_World_ok : ∀ k, k < 19 → parseFieldDescriptor (F_World k).2.2.1 = some (t_World k) := by decide +kernel
theorem i_World : ∀ w ∈ u_ws R_World F_World 19, w ∈ lw_tbl := ux_memL [424, 426, 428, 430, 432, 434, 436, 438, 440, 442, 444, 446, 448, 450, 452, 454, 456, 458, 460] (by decide +kernel)
theorem n_Trans : ∀ a, a < 10 → ∀ b, b < 10 → a ≠ b → (F_Trans a).2.1 ≠ (F_Trans b).2.1 := by decide +kernel
theorem t_Trans_ok : ∀ k, k < 10 → parseFieldDescriptor (F_Trans k).2.2.1 = some (t_Trans k) := by decide +kernel
theorem i_Trans : ∀ w ∈ u_ws R_Trans F_Trans 10, w ∈ lw_tbl := ux_memL [336, 338, 340, 342, 344, 346, 348, 350, 352, 354] (by decide +kernel)
theorem n_Jobs : ∀ a, a < 5 → ∀ b, b < 5 → a ≠ b → (F_Jobs a).2.1 ≠ (F_Jobs b).2.1 := by decide +kernel
theorem t_Jobs_ok : ∀ k, k < 5 → parseFieldDescriptor (F_Jobs k).2.2.1 = some (t_Jobs k) := by decide +kernel
theorem i_Jobs : ∀ w ∈ u_ws R_Jobs F_Jobs 5, w ∈ lw_tbl := ux_memL [377, 379, 381, 383, 385] (by decide +kernel)
theorem n_Model : ∀ a, a < 22 → ∀ b, b < 22 → a ≠ b → (F_Model a).2.1 ≠ (F_Model b).2.1 := by decide +kernel
theorem t_Model_ok : ∀ k, k < 22 → parseFieldDescriptor (F_Model k).2.2.1 = some (t_Model k) := by decide +kernel
theorem i_Model : ∀ w ∈ u_ws R_Model F_Model 22, w ∈ lw_tbl := ux_memL [1399, 1401, 1403, 1405, 1407, 1409, 1411, 1413, 1415, 1417, 1419, 1421, 1423, 1425, 1427, 1429, 1431, 1433, 1435, 1437, 1439, 1441] (by decide +kernel)
/-- field f of class c: (type: 0 an int, 3 a boolean, 1 a cell that stays, 2 a cell once it is set; where it leads) -/
def ux_fs (c f : Nat) : Nat × Nat × Nat := (([
  [(1, 5, 694529), (0, 0, 0), (0, 0, 0), (1, 5, 671757), (1, 1, 16413), (1, 2, 16413), (1, 3, 16413), (1, 4, 16413), (3, 0, 0), (3, 0, 0)],
  [(1, 0, 344085), (2, 5, 694529), (0, 0, 0), (0, 0, 0), (0, 0, 0), (0, 0, 0), (0, 0, 0), (0, 0, 0)],
  [(0, 0, 0), (1, 0, 360577), (1, 0, 376961), (1, 0, 394241), (1, 0, 410881), (1, 0, 426113), (1, 0, 442497), (1, 0, 458804), (1, 0, 491649), (1, 0, 508033), (1, 0, 524417), (1, 0, 540801)],
  [(1, 0, 344085), (1, 0, 32805), (1, 0, 49197), (0, 0, 0), (0, 0, 0), (1, 0, 65665), (1, 0, 82049), (1, 0, 98433), (1, 0, 114817), (1, 0, 131201), (1, 0, 147585), (1, 0, 164993), (1, 0, 180353), (1, 0, 196737), (1, 0, 213121), (1, 0, 229505), (1, 0, 245889), (1, 0, 263585), (0, 0, 0)],
  [(0, 0, 0), (0, 0, 0), (0, 0, 0), (0, 0, 0), (0, 0, 0), (0, 0, 0), (0, 0, 0), (1, 0, 278657), (1, 0, 295041), (1, 0, 311425)],
  [(0, 0, 0), (0, 0, 0), (0, 0, 0), (0, 0, 0), (1, 0, 327809)],
  [(1, 0, 844257), (1, 0, 860641), (1, 0, 877025), (1, 0, 893409), (1, 0, 909793), (1, 0, 917522), (0, 0, 0), (1, 0, 940289), (0, 0, 0), (0, 0, 0), (0, 0, 0), (0, 0, 0), (0, 0, 0), (0, 0, 0), (0, 0, 0), (1, 0, 950305), (1, 0, 966689), (1, 0, 983073), (3, 0, 0), (3, 0, 0), (1, 0, 999553), (1, 0, 1015937)]
] : List (List (Nat × Nat × Nat))).getD c []).getD f (0, 0, 0)
def ux_nf (c : Nat) : Nat := ([10, 8, 12, 19, 10, 5, 22] : List Nat).getD c 0
def ux_empty : Nat := 704513
/-- the cells that there are: number, least and first too great k, rows -/
def ux_domL : List (Nat × Nat × Nat × Nat) := [(16413, 0, 4, 1), (32805, 0, 4, 1), (49197, 0, 4, 1), (65665, 0, 4, 1), (82049, 0, 4, 1), (98433, 0, 4, 1), (114817, 0, 4, 1), (131201, 0, 4, 1), (147585, 0, 4, 1), (164993, 0, 4, 1), (180353, 0, 4, 1), (196737, 0, 4, 1), (213121, 0, 4, 1), (229505, 0, 4, 1), (245889, 0, 4, 1), (263585, 0, 4, 1), (278657, 0, 4, 1), (295041, 0, 4, 1), (311425, 0, 4, 1), (327809, 0, 4, 1), (344085, 0, 5, 1), (360577, 0, 5, 1), (376961, 0, 5, 1), (394241, 0, 5, 1), (410881, 0, 5, 1), (426113, 0, 5, 1), (442497, 0, 5, 1), (458804, 0, 5, 1), (475265, 0, 5, 6), (491649, 0, 5, 1), (508033, 0, 5, 1), (524417, 0, 5, 1), (540801, 0, 5, 1), (655365, 4, 5, 1), (671757, 4, 5, 1), (694529, 4, 5, 1), (704513, 4, 5, 1), (819253, 5, 6, 1), (844257, 5, 6, 1), (860641, 5, 6, 1), (877025, 5, 6, 1), (893409, 5, 6, 1), (909793, 5, 6, 1), (917522, 5, 6, 1), (940289, 5, 6, 1), (950305, 5, 6, 1), (966689, 5, 6, 1), (983073, 5, 6, 1), (999553, 5, 6, 1), (1015937, 5, 6, 1)]
def ux_rM (c : Nat) : String := ([R_SM, R_Reader, R_Setup, R_World, R_Trans, R_Jobs, R_Model] : List String).getD c ""
def ux_fM (c : Nat) : u_T := ([F_SM, F_Reader, F_Setup, F_World, F_Trans, F_Jobs, F_Model] : List u_T).getD c F_SM
/-- links of fields: class, entry, class and place of the field, whether by the nest, place of the word -/
def ux_FL : List (String × Nat × Nat × Nat × Nat × Nat) := [
  ("ServiceManager$Setup", 47, 2, 0, 0, 216),
  ("ServiceManager", 66, 2, 0, 1, 217),
  ("ServiceManager$World", 104, 2, 0, 1, 218),
  ("ServiceManager$Reader", 79, 2, 0, 1, 219),
  ("ServiceManager$Setup", 9, 2, 1, 0, 220),
  ("ServiceManager$World", 98, 2, 1, 1, 221),
  ("ServiceManager", 79, 2, 1, 1, 222),
  ("ServiceManager$Reader", 114, 2, 1, 1, 223),
  ("ServiceManager$Transaction", 120, 2, 1, 1, 224),
  ("ServiceManager$Setup", 15, 2, 2, 0, 225),
  ("ServiceManager", 82, 2, 2, 1, 226),
  ("ServiceManager$Setup", 18, 2, 3, 0, 227),
  ("ServiceManager", 85, 2, 3, 1, 228),
  ("ServiceManager$Setup", 21, 2, 4, 0, 229),
  ("ServiceManager$World", 101, 2, 4, 1, 230),
  ("ServiceManager", 92, 2, 4, 1, 231),
  ("ServiceManager$Transaction", 123, 2, 4, 1, 232),
  ("ServiceManager$Reader", 158, 2, 4, 1, 233),
  ("ServiceManager$Setup", 24, 2, 5, 0, 234),
  ("ServiceManager$Reader", 120, 2, 5, 1, 235),
  ("ServiceManager", 99, 2, 5, 1, 236),
  ("ServiceManager$World", 214, 2, 5, 1, 237),
  ("ServiceManager$Setup", 27, 2, 6, 0, 238),
  ("ServiceManager$Reader", 122, 2, 6, 1, 239),
  ("ServiceManager$World", 252, 2, 6, 1, 240),
  ("ServiceManager$Setup", 32, 2, 7, 0, 241),
  ("ServiceManager$Transaction", 104, 2, 7, 1, 242),
  ("ServiceManager", 95, 2, 7, 1, 243),
  ("ServiceManager$Reader", 170, 2, 7, 1, 244),
  ("ServiceManager$World", 210, 2, 7, 1, 245),
  ("ServiceManager$Setup", 35, 2, 8, 0, 246),
  ("ServiceManager$Transaction", 93, 2, 8, 1, 247),
  ("ServiceManager$World", 162, 2, 8, 1, 248),
  ("ServiceManager", 227, 2, 8, 1, 249),
  ("ServiceManager$Setup", 38, 2, 9, 0, 250),
  ("ServiceManager$Transaction", 98, 2, 9, 1, 251),
  ("ServiceManager$Setup", 41, 2, 10, 0, 252),
  ("ServiceManager$Transaction", 101, 2, 10, 1, 253),
  ("ServiceManager", 234, 2, 10, 1, 254),
  ("ServiceManager$Setup", 44, 2, 11, 0, 255),
  ("ServiceManager$Reader", 12, 1, 0, 0, 282),
  ("ServiceManager", 55, 1, 0, 1, 283),
  ("ServiceManager$Reader", 18, 1, 1, 0, 284),
  ("ServiceManager$Reader", 28, 1, 2, 0, 285),
  ("ServiceManager$Reader", 50, 1, 3, 0, 286),
  ("ServiceManager$Reader", 56, 1, 4, 0, 287),
  ("ServiceManager$Reader", 32, 1, 5, 0, 288),
  ("ServiceManager$Reader", 35, 1, 6, 0, 289),
  ("ServiceManager", 49, 1, 6, 1, 290),
  ("ServiceManager$Reader", 38, 1, 7, 0, 291),
  ("ServiceManager", 52, 1, 7, 1, 292),
  ("ServiceManager$Transaction", 70, 4, 0, 0, 324),
  ("ServiceManager$World", 131, 4, 0, 1, 325),
  ("ServiceManager$Transaction", 57, 4, 1, 0, 326),
  ("ServiceManager$Transaction", 71, 4, 2, 0, 327),
  ("ServiceManager$World", 132, 4, 2, 1, 328),
  ("ServiceManager$Transaction", 35, 4, 3, 0, 329),
  ("ServiceManager$Transaction", 42, 4, 4, 0, 330),
  ("ServiceManager$Transaction", 60, 4, 5, 0, 331),
  ("ServiceManager$Transaction", 63, 4, 6, 0, 332),
  ("ServiceManager$Transaction", 9, 4, 7, 0, 333),
  ("ServiceManager$Transaction", 15, 4, 8, 0, 334),
  ("ServiceManager$Transaction", 18, 4, 9, 0, 335),
  ("ServiceManager$Jobs", 15, 5, 0, 0, 363),
  ("ServiceManager$Transaction", 49, 5, 0, 1, 364),
  ("ServiceManager$World", 107, 5, 0, 1, 365),
  ("ServiceManager", 148, 5, 0, 1, 366),
  ("ServiceManager$Jobs", 19, 5, 1, 0, 367),
  ("ServiceManager$Jobs", 22, 5, 2, 0, 368),
  ("ServiceManager$Transaction", 54, 5, 2, 1, 369),
  ("ServiceManager$World", 110, 5, 2, 1, 370),
  ("ServiceManager", 151, 5, 2, 1, 371),
  ("ServiceManager$Jobs", 25, 5, 3, 0, 372),
  ("ServiceManager$World", 159, 5, 3, 1, 373),
  ("ServiceManager", 145, 5, 3, 1, 374),
  ("ServiceManager$Jobs", 9, 5, 4, 0, 375),
  ("ServiceManager", 158, 5, 4, 1, 376),
  ("ServiceManager$World", 12, 3, 0, 0, 388),
  ("ServiceManager$Transaction", 21, 3, 0, 1, 389),
  ("ServiceManager", 63, 3, 0, 1, 390),
  ("ServiceManager$World", 21, 3, 1, 0, 391),
  ("ServiceManager", 109, 3, 1, 1, 392),
  ("ServiceManager$World", 28, 3, 2, 0, 393),
  ("ServiceManager$Transaction", 45, 3, 2, 1, 394),
  ("ServiceManager", 127, 3, 2, 1, 395),
  ("ServiceManager$World", 83, 3, 3, 0, 396),
  ("ServiceManager", 161, 3, 3, 1, 397),
  ("ServiceManager$Transaction", 39, 3, 4, 1, 398),
  ("ServiceManager$World", 86, 3, 4, 0, 399),
  ("ServiceManager", 185, 3, 4, 1, 400),
  ("ServiceManager$World", 32, 3, 5, 0, 401),
  ("ServiceManager", 168, 3, 5, 1, 402),
  ("ServiceManager$World", 36, 3, 6, 0, 403),
  ("ServiceManager", 197, 3, 6, 1, 404),
  ("ServiceManager$World", 39, 3, 7, 0, 405),
  ("ServiceManager", 191, 3, 7, 1, 406),
  ("ServiceManager$World", 42, 3, 8, 0, 407),
  ("ServiceManager", 194, 3, 8, 1, 408),
  ("ServiceManager$World", 45, 3, 9, 0, 409),
  ("ServiceManager$World", 48, 3, 10, 0, 410),
  ("ServiceManager$World", 51, 3, 11, 0, 411),
  ("ServiceManager$World", 54, 3, 12, 0, 412),
  ("ServiceManager", 206, 3, 12, 1, 413),
  ("ServiceManager$World", 57, 3, 13, 0, 414),
  ("ServiceManager", 203, 3, 13, 1, 415),
  ("ServiceManager$World", 60, 3, 14, 0, 416),
  ("ServiceManager", 212, 3, 14, 1, 417),
  ("ServiceManager$World", 63, 3, 15, 0, 418),
  ("ServiceManager", 215, 3, 15, 1, 419),
  ("ServiceManager$World", 66, 3, 16, 0, 420),
  ("ServiceManager", 218, 3, 16, 1, 421),
  ("ServiceManager$World", 69, 3, 17, 0, 422),
  ("ServiceManager$World", 79, 3, 18, 0, 423),
  ("ServiceManager", 9, 0, 0, 0, 463),
  ("ServiceManager", 36, 0, 1, 0, 464),
  ("ServiceManager", 40, 0, 2, 0, 465),
  ("ServiceManager", 16, 0, 3, 0, 466),
  ("ServiceManager", 23, 0, 4, 0, 467),
  ("ServiceManager", 27, 0, 5, 0, 468),
  ("ServiceManager", 30, 0, 6, 0, 469),
  ("ServiceManager", 33, 0, 7, 0, 470),
  ("ServiceManager", 266, 0, 8, 0, 471),
  ("ServiceManager", 270, 0, 9, 0, 472),
  ("ServiceManagerModel", 9, 6, 0, 0, 1377),
  ("ServiceManagerModel", 13, 6, 1, 0, 1378),
  ("ServiceManagerModel", 16, 6, 2, 0, 1379),
  ("ServiceManagerModel", 19, 6, 3, 0, 1380),
  ("ServiceManagerModel", 22, 6, 4, 0, 1381),
  ("ServiceManagerModel", 25, 6, 5, 0, 1382),
  ("ServiceManagerModel", 47, 6, 6, 0, 1383),
  ("ServiceManagerModel", 29, 6, 7, 0, 1384),
  ("ServiceManagerModel", 53, 6, 8, 0, 1385),
  ("ServiceManagerModel", 75, 6, 9, 0, 1386),
  ("ServiceManagerModel", 78, 6, 10, 0, 1387),
  ("ServiceManagerModel", 84, 6, 11, 0, 1388),
  ("ServiceManagerModel", 81, 6, 12, 0, 1389),
  ("ServiceManagerModel", 56, 6, 13, 0, 1390),
  ("ServiceManagerModel", 146, 6, 14, 0, 1391),
  ("ServiceManagerModel", 32, 6, 15, 0, 1392),
  ("ServiceManagerModel", 35, 6, 16, 0, 1393),
  ("ServiceManagerModel", 38, 6, 17, 0, 1394),
  ("ServiceManagerModel", 243, 6, 18, 0, 1395),
  ("ServiceManagerModel", 239, 6, 19, 0, 1396),
  ("ServiceManagerModel", 41, 6, 20, 0, 1397),
  ("ServiceManagerModel", 44, 6, 21, 0, 1398)]
def y_0 : MethodName × ByteArray × Nat × Option FieldType := (⟨"ServiceManager", "<init>", "()V"⟩, prog_1_method_1_code, 1, none)
def y_1 : MethodName × ByteArray × Nat × Option FieldType := (⟨"ServiceManager$Reader", "<init>", "()V"⟩, prog_3_method_1_code, 1, none)
def y_2 : MethodName × ByteArray × Nat × Option FieldType := (⟨"ServiceManager$Setup", "<init>", "()V"⟩, prog_4_method_1_code, 1, none)
def y_3 : MethodName × ByteArray × Nat × Option FieldType := (⟨"ServiceManager$World", "<init>", "()V"⟩, prog_6_method_1_code, 1, none)
def y_4 : MethodName × ByteArray × Nat × Option FieldType := (⟨"ServiceManager$Transaction", "<init>", "()V"⟩, prog_5_method_1_code, 1, none)
def y_5 : MethodName × ByteArray × Nat × Option FieldType := (⟨"ServiceManager$Jobs", "<init>", "()V"⟩, prog_2_method_1_code, 1, none)
def y_6 : MethodName × ByteArray × Nat × Option FieldType := (⟨"ServiceManager", "append", "(J)I"⟩, prog_1_method_2_code, 6, some .int)
def y_7 : MethodName × ByteArray × Nat × Option FieldType := (⟨"ServiceManager", "load", "()I"⟩, prog_1_method_3_code, 3, some .int)
def y_8 : MethodName × ByteArray × Nat × Option FieldType := (⟨"ServiceManager$Reader", "read", "([II)Z"⟩, prog_3_method_2_code, 4, some .boolean)
def y_9 : MethodName × ByteArray × Nat × Option FieldType := (⟨"ServiceManager$Setup", "clear", "()V"⟩, prog_4_method_2_code, 3, none)
def y_10 : MethodName × ByteArray × Nat × Option FieldType := (⟨"ServiceManager$Reader", "goOn", "()V"⟩, prog_3_method_4_code, 1, none)
def y_11 : MethodName × ByteArray × Nat × Option FieldType := (⟨"ServiceManager$Reader", "readStatement", "()V"⟩, prog_3_method_6_code, 4, none)
def y_12 : MethodName × ByteArray × Nat × Option FieldType := (⟨"ServiceManager$Reader", "newKind", "()I"⟩, prog_3_method_7_code, 1, some .int)
def y_13 : MethodName × ByteArray × Nat × Option FieldType := (⟨"ServiceManager$Reader", "isWord", "(Ljava/lang/String;)Z"⟩, prog_3_method_5_code, 3, some .boolean)
def y_14 : MethodName × ByteArray × Nat × Option FieldType := (⟨"ServiceManager$Reader", "readRelation", "()V"⟩, prog_3_method_16_code, 4, none)
def y_15 : MethodName × ByteArray × Nat × Option FieldType := (⟨"ServiceManager$Setup", "named", "([III)I"⟩, prog_4_method_4_code, 7, some .int)
def y_16 : MethodName × ByteArray × Nat × Option FieldType := (⟨"ServiceManager$Reader", "refuse", "(II)V"⟩, prog_3_method_3_code, 3, none)
def y_17 : MethodName × ByteArray × Nat × Option FieldType := (⟨"ServiceManager$Reader", "namedRelation", "()I"⟩, prog_3_method_17_code, 1, some .int)
def y_18 : MethodName × ByteArray × Nat × Option FieldType := (⟨"ServiceManager$Reader", "readUnit", "()I"⟩, prog_3_method_10_code, 2, some .int)
def y_19 : MethodName × ByteArray × Nat × Option FieldType := (⟨"ServiceManager$Reader", "readNewUnit", "(I)I"⟩, prog_3_method_8_code, 3, some .int)
def y_20 : MethodName × ByteArray × Nat × Option FieldType := (⟨"ServiceManager$Setup", "add", "(I[III)I"⟩, prog_4_method_3_code, 7, some .int)
def y_21 : MethodName × ByteArray × Nat × Option FieldType := (⟨"ServiceManager$Reader", "readProperty", "(I)V"⟩, prog_3_method_12_code, 3, none)
def y_22 : MethodName × ByteArray × Nat × Option FieldType := (⟨"ServiceManager$Reader", "namedProperty", "()I"⟩, prog_3_method_13_code, 1, some .int)
def y_23 : MethodName × ByteArray × Nat × Option FieldType := (⟨"ServiceManager$Reader", "readPolicy", "(I)V"⟩, prog_3_method_15_code, 3, none)
def y_24 : MethodName × ByteArray × Nat × Option FieldType := (⟨"ServiceManager$Reader", "readValue", "(II)V"⟩, prog_3_method_14_code, 4, none)
def y_25 : MethodName × ByteArray × Nat × Option FieldType := (⟨"ServiceManager$Reader", "readNumber", "(II)I"⟩, prog_3_method_11_code, 5, some .int)
def y_26 : MethodName × ByteArray × Nat × Option FieldType := (⟨"ServiceManager$Reader", "readSocket", "(I)V"⟩, prog_3_method_9_code, 4, none)
def y_27 : MethodName × ByteArray × Nat × Option FieldType := (⟨"ServiceManager$Setup", "derive", "()V"⟩, prog_4_method_5_code, 4, none)
def y_28 : MethodName × ByteArray × Nat × Option FieldType := (⟨"ServiceManager$World", "beginAnew", "(LServiceManager$Setup;)V"⟩, prog_6_method_2_code, 3, none)
def y_29 : MethodName × ByteArray × Nat × Option FieldType := (⟨"ServiceManager$Setup", "copyFrom", "(LServiceManager$Setup;)V"⟩, prog_4_method_7_code, 3, none)
def y_30 : MethodName × ByteArray × Nat × Option FieldType := (⟨"ServiceManager$Jobs", "clear", "()V"⟩, prog_2_method_2_code, 2, none)
def y_31 : MethodName × ByteArray × Nat × Option FieldType := (⟨"ServiceManager", "loadError", "()I"⟩, prog_1_method_4_code, 1, some .int)
def y_32 : MethodName × ByteArray × Nat × Option FieldType := (⟨"ServiceManager", "find", "()I"⟩, prog_1_method_5_code, 2, some .int)
def y_33 : MethodName × ByteArray × Nat × Option FieldType := (⟨"ServiceManager", "unitCount", "()I"⟩, prog_1_method_6_code, 1, some .int)
def y_34 : MethodName × ByteArray × Nat × Option FieldType := (⟨"ServiceManager", "queueLength", "()I"⟩, prog_1_method_21_code, 1, some .int)
def y_35 : MethodName × ByteArray × Nat × Option FieldType := (⟨"ServiceManager$Jobs", "count", "()I"⟩, prog_2_method_4_code, 1, some .int)
def y_36 : MethodName × ByteArray × Nat × Option FieldType := (⟨"ServiceManager", "time", "()I"⟩, prog_1_method_24_code, 1, some .int)
def y_37 : MethodName × ByteArray × Nat × Option FieldType := (⟨"ServiceManager", "logSize", "()I"⟩, prog_1_method_41_code, 1, some .int)
def y_38 : MethodName × ByteArray × Nat × Option FieldType := (⟨"ServiceManager$World", "keptChanges", "()I"⟩, prog_6_method_8_code, 1, some .int)
def y_39 : MethodName × ByteArray × Nat × Option FieldType := (⟨"ServiceManager", "orderingCircle", "()I"⟩, prog_1_method_45_code, 1, some .int)
def y_40 : MethodName × ByteArray × Nat × Option FieldType := (⟨"ServiceManager", "inCircles", "([I)I"⟩, prog_1_method_58_code, 3, some .int)
def y_41 : MethodName × ByteArray × Nat × Option FieldType := (⟨"ServiceManager", "reach", "([II)I"⟩, prog_1_method_57_code, 6, some .int)
def y_42 : MethodName × ByteArray × Nat × Option FieldType := (⟨"ServiceManager", "isSound", "()Z"⟩, prog_1_method_46_code, 3, some .boolean)
def y_43 : MethodName × ByteArray × Nat × Option FieldType := (⟨"ServiceManager$World", "unitsIn", "(I)I"⟩, prog_6_method_5_code, 4, some .int)
def y_44 : MethodName × ByteArray × Nat × Option FieldType := (⟨"ServiceManager", "ticksUntilQuiet", "()I"⟩, prog_1_method_48_code, 3, some .int)
def y_45 : MethodName × ByteArray × Nat × Option FieldType := (⟨"ServiceManager$World", "copyFrom", "(LServiceManager$World;)V"⟩, prog_6_method_3_code, 2, none)
def y_46 : MethodName × ByteArray × Nat × Option FieldType := (⟨"ServiceManager$Jobs", "copyFrom", "(LServiceManager$Jobs;)V"⟩, prog_2_method_3_code, 2, none)
def y_47 : MethodName × ByteArray × Nat × Option FieldType := (⟨"ServiceManager$World", "isQuiet", "()Z"⟩, prog_6_method_6_code, 1, some .boolean)
def y_48 : MethodName × ByteArray × Nat × Option FieldType := (⟨"ServiceManager$World", "nextDue", "()I"⟩, prog_6_method_29_code, 4, some .int)
def y_49 : MethodName × ByteArray × Nat × Option FieldType := (⟨"ServiceManager$World", "dueOf", "(I)I"⟩, prog_6_method_30_code, 7, some .int)
def y_50 : MethodName × ByteArray × Nat × Option FieldType := (⟨"ServiceManager$World", "passTo", "(I)V"⟩, prog_6_method_28_code, 4, none)
def y_51 : MethodName × ByteArray × Nat × Option FieldType := (⟨"ServiceManager$World", "happen", "(I)V"⟩, prog_6_method_31_code, 3, none)
def y_52 : MethodName × ByteArray × Nat × Option FieldType := (⟨"ServiceManager$World", "endActivation", "(I)V"⟩, prog_6_method_25_code, 4, none)
def y_53 : MethodName × ByteArray × Nat × Option FieldType := (⟨"ServiceManager$Jobs", "typeOf", "(I)I"⟩, prog_2_method_5_code, 2, some .int)
def y_54 : MethodName × ByteArray × Nat × Option FieldType := (⟨"ServiceManager", "typeIn", "(IIII)I"⟩, prog_1_method_59_code, 4, some .int)
def y_55 : MethodName × ByteArray × Nat × Option FieldType := (⟨"ServiceManager$World", "propertyOf", "(II)I"⟩, prog_6_method_4_code, 3, some .int)
def y_56 : MethodName × ByteArray × Nat × Option FieldType := (⟨"ServiceManager$World", "failJob", "(III)V"⟩, prog_6_method_12_code, 6, none)
def y_57 : MethodName × ByteArray × Nat × Option FieldType := (⟨"ServiceManager$Jobs", "end", "(II)V"⟩, prog_2_method_8_code, 4, none)
def y_58 : MethodName × ByteArray × Nat × Option FieldType := (⟨"ServiceManager$World", "enter", "(II)V"⟩, prog_6_method_7_code, 4, none)
def y_59 : MethodName × ByteArray × Nat × Option FieldType := (⟨"ServiceManager$World", "exitWith", "(II)V"⟩, prog_6_method_26_code, 6, none)
def y_60 : MethodName × ByteArray × Nat × Option FieldType := (⟨"ServiceManager$Jobs", "settle", "(I)Z"⟩, prog_2_method_9_code, 3, some .boolean)
def y_61 : MethodName × ByteArray × Nat × Option FieldType := (⟨"ServiceManager$World", "endStopping", "(I)V"⟩, prog_6_method_19_code, 2, none)
def y_62 : MethodName × ByteArray × Nat × Option FieldType := (⟨"ServiceManager$World", "goIdle", "(I)V"⟩, prog_6_method_32_code, 2, none)
def y_63 : MethodName × ByteArray × Nat × Option FieldType := (⟨"ServiceManager$World", "stopBoundTo", "(I)V"⟩, prog_6_method_27_code, 4, none)
def y_64 : MethodName × ByteArray × Nat × Option FieldType := (⟨"ServiceManager$World", "order", "(IIZ)I"⟩, prog_6_method_10_code, 7, some .int)
def y_65 : MethodName × ByteArray × Nat × Option FieldType := (⟨"ServiceManager$Transaction", "build", "(LServiceManager$World;II)I"⟩, prog_5_method_2_code, 12, some .int)
def y_66 : MethodName × ByteArray × Nat × Option FieldType := (⟨"ServiceManager$Transaction", "collectEssential", "(LServiceManager$Setup;III)V"⟩, prog_5_method_3_code, 10, none)
def y_67 : MethodName × ByteArray × Nat × Option FieldType := (⟨"ServiceManager$Transaction", "collectAll", "(LServiceManager$Setup;)V"⟩, prog_5_method_4_code, 6, none)
def y_68 : MethodName × ByteArray × Nat × Option FieldType := (⟨"ServiceManager$Transaction", "banOneOf", "(I)V"⟩, prog_5_method_5_code, 2, none)
def y_69 : MethodName × ByteArray × Nat × Option FieldType := (⟨"ServiceManager$Transaction", "noteBefore", "(LServiceManager$Setup;)V"⟩, prog_5_method_8_code, 3, none)
def y_70 : MethodName × ByteArray × Nat × Option FieldType := (⟨"ServiceManager$Setup", "preceding", "(III)I"⟩, prog_4_method_6_code, 5, some .int)
def y_71 : MethodName × ByteArray × Nat × Option FieldType := (⟨"ServiceManager$Transaction", "essentialJobs", "()I"⟩, prog_5_method_9_code, 1, some .int)
def y_72 : MethodName × ByteArray × Nat × Option FieldType := (⟨"ServiceManager$Transaction", "greatest", "(I)I"⟩, prog_5_method_7_code, 3, some .int)
def y_73 : MethodName × ByteArray × Nat × Option FieldType := (⟨"ServiceManager$Transaction", "banJobOf", "(I)V"⟩, prog_5_method_6_code, 2, none)
def y_74 : MethodName × ByteArray × Nat × Option FieldType := (⟨"ServiceManager$World", "merge", "()V"⟩, prog_6_method_11_code, 4, none)
def y_75 : MethodName × ByteArray × Nat × Option FieldType := (⟨"ServiceManager$Transaction", "typeOf", "(I)I"⟩, prog_5_method_11_code, 2, some .int)
def y_76 : MethodName × ByteArray × Nat × Option FieldType := (⟨"ServiceManager$Jobs", "put", "(II)V"⟩, prog_2_method_7_code, 4, none)
def y_77 : MethodName × ByteArray × Nat × Option FieldType := (⟨"ServiceManager$World", "restartByPolicy", "(I)V"⟩, prog_6_method_33_code, 2, none)
def y_78 : MethodName × ByteArray × Nat × Option FieldType := (⟨"ServiceManager$World", "runJobs", "()V"⟩, prog_6_method_15_code, 5, none)
def y_79 : MethodName × ByteArray × Nat × Option FieldType := (⟨"ServiceManager$Jobs", "isWaiting", "(I)Z"⟩, prog_2_method_6_code, 2, some .boolean)
def y_80 : MethodName × ByteArray × Nat × Option FieldType := (⟨"ServiceManager$World", "runStart", "(I)V"⟩, prog_6_method_20_code, 2, none)
def y_81 : MethodName × ByteArray × Nat × Option FieldType := (⟨"ServiceManager$World", "hasWhatItNeeds", "(I)Z"⟩, prog_6_method_21_code, 5, some .boolean)
def y_82 : MethodName × ByteArray × Nat × Option FieldType := (⟨"ServiceManager$World", "beginsInInterval", "(I)I"⟩, prog_6_method_22_code, 5, some .int)
def y_83 : MethodName × ByteArray × Nat × Option FieldType := (⟨"ServiceManager$World", "failByLimit", "(I)V"⟩, prog_6_method_23_code, 3, none)
def y_84 : MethodName × ByteArray × Nat × Option FieldType := (⟨"ServiceManager$World", "cancelJob", "(I)V"⟩, prog_6_method_13_code, 3, none)
def y_85 : MethodName × ByteArray × Nat × Option FieldType := (⟨"ServiceManager$World", "beginStart", "(I)V"⟩, prog_6_method_24_code, 2, none)
def y_86 : MethodName × ByteArray × Nat × Option FieldType := (⟨"ServiceManager$World", "runStop", "(I)V"⟩, prog_6_method_16_code, 2, none)
def y_87 : MethodName × ByteArray × Nat × Option FieldType := (⟨"ServiceManager$World", "goDown", "(I)V"⟩, prog_6_method_18_code, 2, none)
def y_88 : MethodName × ByteArray × Nat × Option FieldType := (⟨"ServiceManager$World", "runRestart", "(I)V"⟩, prog_6_method_17_code, 2, none)
def y_89 : MethodName × ByteArray × Nat × Option FieldType := (⟨"ServiceManager", "weakest", "()I"⟩, prog_1_method_51_code, 5, some .int)
def y_90 : MethodName × ByteArray × Nat × Option FieldType := (⟨"ServiceManager$World", "canCrash", "(I)Z"⟩, prog_6_method_36_code, 2, some .boolean)
def y_91 : MethodName × ByteArray × Nat × Option FieldType := (⟨"ServiceManager$World", "crash", "(II)V"⟩, prog_6_method_37_code, 3, none)
def y_92 : MethodName × ByteArray × Nat × Option FieldType := (⟨"ServiceManager", "kindOf", "(I)I"⟩, prog_1_method_7_code, 2, some .int)
def y_93 : MethodName × ByteArray × Nat × Option FieldType := (⟨"ServiceManager", "checkUnit", "(I)V"⟩, prog_1_method_55_code, 2, none)
def y_94 : MethodName × ByteArray × Nat × Option FieldType := (⟨"ServiceManager", "nameLetter", "(II)I"⟩, prog_1_method_8_code, 3, some .int)
def y_95 : MethodName × ByteArray × Nat × Option FieldType := (⟨"ServiceManager", "property", "(II)I"⟩, prog_1_method_9_code, 3, some .int)
def y_96 : MethodName × ByteArray × Nat × Option FieldType := (⟨"ServiceManager", "checkRange", "(III)V"⟩, prog_1_method_56_code, 3, none)
def y_97 : MethodName × ByteArray × Nat × Option FieldType := (⟨"ServiceManager", "related", "(II)I"⟩, prog_1_method_10_code, 3, some .int)
def y_98 : MethodName × ByteArray × Nat × Option FieldType := (⟨"ServiceManager", "serviceOf", "(I)I"⟩, prog_1_method_11_code, 2, some .int)
def y_99 : MethodName × ByteArray × Nat × Option FieldType := (⟨"ServiceManager", "start", "(IZ)I"⟩, prog_1_method_12_code, 4, some .int)
def y_100 : MethodName × ByteArray × Nat × Option FieldType := (⟨"ServiceManager", "stop", "(IZ)I"⟩, prog_1_method_13_code, 4, some .int)
def y_101 : MethodName × ByteArray × Nat × Option FieldType := (⟨"ServiceManager", "restart", "(IZ)I"⟩, prog_1_method_14_code, 4, some .int)
def y_102 : MethodName × ByteArray × Nat × Option FieldType := (⟨"ServiceManager", "plan", "(III)I"⟩, prog_1_method_15_code, 5, some .int)
def y_103 : MethodName × ByteArray × Nat × Option FieldType := (⟨"ServiceManager$Transaction", "jobsOf", "(I)I"⟩, prog_5_method_10_code, 2, some .int)
def y_104 : MethodName × ByteArray × Nat × Option FieldType := (⟨"ServiceManager", "planDepth", "(II)I"⟩, prog_1_method_16_code, 4, some .int)
def y_105 : MethodName × ByteArray × Nat × Option FieldType := (⟨"ServiceManager$Transaction", "longestChain", "()I"⟩, prog_5_method_12_code, 2, some .int)
def y_106 : MethodName × ByteArray × Nat × Option FieldType := (⟨"ServiceManager$Transaction", "greatestTotal", "(I)I"⟩, prog_5_method_14_code, 5, some .int)
def y_107 : MethodName × ByteArray × Nat × Option FieldType := (⟨"ServiceManager$Transaction", "greatestOf", "(I)I"⟩, prog_5_method_15_code, 4, some .int)
def y_108 : MethodName × ByteArray × Nat × Option FieldType := (⟨"ServiceManager", "cancel", "(I)I"⟩, prog_1_method_17_code, 2, some .int)
def y_109 : MethodName × ByteArray × Nat × Option FieldType := (⟨"ServiceManager$World", "withdraw", "(I)V"⟩, prog_6_method_14_code, 2, none)
def y_110 : MethodName × ByteArray × Nat × Option FieldType := (⟨"ServiceManager", "jobOf", "(I)I"⟩, prog_1_method_18_code, 2, some .int)
def y_111 : MethodName × ByteArray × Nat × Option FieldType := (⟨"ServiceManager", "isRunning", "(I)Z"⟩, prog_1_method_19_code, 2, some .boolean)
def y_112 : MethodName × ByteArray × Nat × Option FieldType := (⟨"ServiceManager", "precedingJobs", "(I)I"⟩, prog_1_method_20_code, 2, some .int)
def y_113 : MethodName × ByteArray × Nat × Option FieldType := (⟨"ServiceManager", "outcomeOf", "(I)I"⟩, prog_1_method_22_code, 2, some .int)
def y_114 : MethodName × ByteArray × Nat × Option FieldType := (⟨"ServiceManager", "advance", "(I)I"⟩, prog_1_method_23_code, 2, some .int)
def y_115 : MethodName × ByteArray × Nat × Option FieldType := (⟨"ServiceManager", "connect", "(II)I"⟩, prog_1_method_25_code, 4, some .int)
def y_116 : MethodName × ByteArray × Nat × Option FieldType := (⟨"ServiceManager$World", "letArrive", "(II)I"⟩, prog_6_method_34_code, 6, some .int)
def y_117 : MethodName × ByteArray × Nat × Option FieldType := (⟨"ServiceManager$World", "startForConnection", "(I)V"⟩, prog_6_method_35_code, 3, none)
def y_118 : MethodName × ByteArray × Nat × Option FieldType := (⟨"ServiceManager", "kill", "(II)I"⟩, prog_1_method_26_code, 3, some .int)
def y_119 : MethodName × ByteArray × Nat × Option FieldType := (⟨"ServiceManager", "reset", "(I)Z"⟩, prog_1_method_27_code, 2, some .boolean)
def y_120 : MethodName × ByteArray × Nat × Option FieldType := (⟨"ServiceManager$World", "forget", "(I)Z"⟩, prog_6_method_38_code, 3, some .boolean)
def y_121 : MethodName × ByteArray × Nat × Option FieldType := (⟨"ServiceManager", "setMasked", "(IZ)Z"⟩, prog_1_method_28_code, 4, some .boolean)
def y_122 : MethodName × ByteArray × Nat × Option FieldType := (⟨"ServiceManager", "stateOf", "(I)I"⟩, prog_1_method_29_code, 2, some .int)
def y_123 : MethodName × ByteArray × Nat × Option FieldType := (⟨"ServiceManager", "inState", "(I)I"⟩, prog_1_method_30_code, 2, some .int)
def y_124 : MethodName × ByteArray × Nat × Option FieldType := (⟨"ServiceManager", "resultOf", "(I)I"⟩, prog_1_method_31_code, 2, some .int)
def y_125 : MethodName × ByteArray × Nat × Option FieldType := (⟨"ServiceManager", "exitCode", "(I)I"⟩, prog_1_method_32_code, 2, some .int)
def y_126 : MethodName × ByteArray × Nat × Option FieldType := (⟨"ServiceManager", "since", "(I)I"⟩, prog_1_method_33_code, 2, some .int)
def y_127 : MethodName × ByteArray × Nat × Option FieldType := (⟨"ServiceManager", "dueAt", "(I)I"⟩, prog_1_method_34_code, 3, some .int)
def y_128 : MethodName × ByteArray × Nat × Option FieldType := (⟨"ServiceManager", "restarts", "(I)I"⟩, prog_1_method_35_code, 2, some .int)
def y_129 : MethodName × ByteArray × Nat × Option FieldType := (⟨"ServiceManager", "begins", "(I)I"⟩, prog_1_method_36_code, 2, some .int)
def y_130 : MethodName × ByteArray × Nat × Option FieldType := (⟨"ServiceManager", "recentBegins", "(I)I"⟩, prog_1_method_37_code, 2, some .int)
def y_131 : MethodName × ByteArray × Nat × Option FieldType := (⟨"ServiceManager", "queued", "(I)I"⟩, prog_1_method_38_code, 2, some .int)
def y_132 : MethodName × ByteArray × Nat × Option FieldType := (⟨"ServiceManager", "accepted", "(I)I"⟩, prog_1_method_39_code, 2, some .int)
def y_133 : MethodName × ByteArray × Nat × Option FieldType := (⟨"ServiceManager", "lost", "(I)I"⟩, prog_1_method_40_code, 2, some .int)
def y_134 : MethodName × ByteArray × Nat × Option FieldType := (⟨"ServiceManager", "logEntry", "(II)I"⟩, prog_1_method_42_code, 3, some .int)
def y_135 : MethodName × ByteArray × Nat × Option FieldType := (⟨"ServiceManager$World", "partOfChange", "(II)I"⟩, prog_6_method_9_code, 4, some .int)
def y_136 : MethodName × ByteArray × Nat × Option FieldType := (⟨"ServiceManager", "allNeeded", "(I)I"⟩, prog_1_method_43_code, 2, some .int)
def y_137 : MethodName × ByteArray × Nat × Option FieldType := (⟨"ServiceManager", "allStopped", "(I)I"⟩, prog_1_method_44_code, 2, some .int)
def y_138 : MethodName × ByteArray × Nat × Option FieldType := (⟨"ServiceManager", "ticksUntilActive", "(I)I"⟩, prog_1_method_47_code, 5, some .int)
def y_139 : MethodName × ByteArray × Nat × Option FieldType := (⟨"ServiceManager", "stateAfter", "(II)I"⟩, prog_1_method_49_code, 3, some .int)
def y_140 : MethodName × ByteArray × Nat × Option FieldType := (⟨"ServiceManager", "damageOf", "(II)I"⟩, prog_1_method_50_code, 3, some .int)
def y_141 : MethodName × ByteArray × Nat × Option FieldType := (⟨"ServiceManager", "criticalTime", "(I)I"⟩, prog_1_method_52_code, 3, some .int)
def y_142 : MethodName × ByteArray × Nat × Option FieldType := (⟨"ServiceManager$Transaction", "longestStartup", "(LServiceManager$Setup;)I"⟩, prog_5_method_13_code, 4, some .int)
def y_143 : MethodName × ByteArray × Nat × Option FieldType := (⟨"ServiceManager", "saveSnapshot", "(I)I"⟩, prog_1_method_53_code, 2, some .int)
def y_144 : MethodName × ByteArray × Nat × Option FieldType := (⟨"ServiceManager", "restoreSnapshot", "(I)I"⟩, prog_1_method_54_code, 3, some .int)
def y_145 : MethodName × ByteArray × Nat × Option FieldType := (⟨"ServiceManagerModel", "<init>", "()V"⟩, prog_8_method_1_code, 1, none)
def y_146 : MethodName × ByteArray × Nat × Option FieldType := (⟨"ServiceManagerModel", "thrown", "()I"⟩, prog_8_method_2_code, 1, some .int)
def y_147 : MethodName × ByteArray × Nat × Option FieldType := (⟨"ServiceManagerModel", "append", "(J)I"⟩, prog_8_method_10_code, 6, some .int)
def y_148 : MethodName × ByteArray × Nat × Option FieldType := (⟨"ServiceManagerModel", "loadError", "()I"⟩, prog_8_method_11_code, 1, some .int)
def y_149 : MethodName × ByteArray × Nat × Option FieldType := (⟨"ServiceManagerModel", "load", "()I"⟩, prog_8_method_34_code, 2, some .int)
def y_150 : MethodName × ByteArray × Nat × Option FieldType := (⟨"ServiceManagerModel", "readsAll", "()Z"⟩, prog_8_method_33_code, 1, some .boolean)
def y_151 : MethodName × ByteArray × Nat × Option FieldType := (⟨"ServiceManagerModel", "readStatement", "()Z"⟩, prog_8_method_32_code, 1, some .boolean)
def y_152 : MethodName × ByteArray × Nat × Option FieldType := (⟨"ServiceManagerModel", "see", "()I"⟩, prog_8_method_15_code, 1, some .int)
def y_153 : MethodName × ByteArray × Nat × Option FieldType := (⟨"ServiceManagerModel", "byteAt", "(I)I"⟩, prog_8_method_12_code, 2, some .int)
def y_154 : MethodName × ByteArray × Nat × Option FieldType := (⟨"ServiceManagerModel", "isWord", "(Ljava/lang/String;)Z"⟩, prog_8_method_18_code, 5, some .boolean)
def y_155 : MethodName × ByteArray × Nat × Option FieldType := (⟨"ServiceManagerModel", "wordEnd", "()I"⟩, prog_8_method_17_code, 2, some .int)
def y_156 : MethodName × ByteArray × Nat × Option FieldType := (⟨"ServiceManagerModel", "isLetter", "(I)Z"⟩, prog_8_method_13_code, 2, some .boolean)
def y_157 : MethodName × ByteArray × Nat × Option FieldType := (⟨"ServiceManagerModel", "in", "(JJJ)Z"⟩, prog_8_method_3_code, 6, some .boolean)
def y_158 : MethodName × ByteArray × Nat × Option FieldType := (⟨"ServiceManagerModel", "readService", "()Z"⟩, prog_8_method_27_code, 1, some .boolean)
def y_159 : MethodName × ByteArray × Nat × Option FieldType := (⟨"ServiceManagerModel", "readNew", "(I)Z"⟩, prog_8_method_24_code, 4, some .boolean)
def y_160 : MethodName × ByteArray × Nat × Option FieldType := (⟨"ServiceManagerModel", "fails", "(I)Z"⟩, prog_8_method_16_code, 2, some .boolean)
def y_161 : MethodName × ByteArray × Nat × Option FieldType := (⟨"ServiceManagerModel", "passes", "()Z"⟩, prog_8_method_19_code, 1, some .boolean)
def y_162 : MethodName × ByteArray × Nat × Option FieldType := (⟨"ServiceManagerModel", "named", "()I"⟩, prog_8_method_23_code, 3, some .int)
def y_163 : MethodName × ByteArray × Nat × Option FieldType := (⟨"ServiceManagerModel", "isNamed", "([IIII)Z"⟩, prog_8_method_22_code, 7, some .boolean)
def y_164 : MethodName × ByteArray × Nat × Option FieldType := (⟨"ServiceManagerModel", "unitAt", "(I)I"⟩, prog_8_method_21_code, 1, some .int)
def y_165 : MethodName × ByteArray × Nat × Option FieldType := (⟨"ServiceManagerModel", "readProperty", "()Z"⟩, prog_8_method_26_code, 1, some .boolean)
def y_166 : MethodName × ByteArray × Nat × Option FieldType := (⟨"ServiceManagerModel", "reads", "(III)Z"⟩, prog_8_method_20_code, 6, some .boolean)
def y_167 : MethodName × ByteArray × Nat × Option FieldType := (⟨"ServiceManagerModel", "isDigit", "(I)Z"⟩, prog_8_method_14_code, 2, some .boolean)
def y_168 : MethodName × ByteArray × Nat × Option FieldType := (⟨"ServiceManagerModel", "readPolicy", "()Z"⟩, prog_8_method_25_code, 2, some .boolean)
def y_169 : MethodName × ByteArray × Nat × Option FieldType := (⟨"ServiceManagerModel", "readSocket", "()Z"⟩, prog_8_method_28_code, 2, some .boolean)
def y_170 : MethodName × ByteArray × Nat × Option FieldType := (⟨"ServiceManagerModel", "readTarget", "()Z"⟩, prog_8_method_29_code, 1, some .boolean)
def y_171 : MethodName × ByteArray × Nat × Option FieldType := (⟨"ServiceManagerModel", "readRelation", "()Z"⟩, prog_8_method_31_code, 4, some .boolean)
def y_172 : MethodName × ByteArray × Nat × Option FieldType := (⟨"ServiceManagerModel", "relationWord", "()I"⟩, prog_8_method_30_code, 1, some .int)
def y_173 : MethodName × ByteArray × Nat × Option FieldType := (⟨"ServiceManagerModel", "copies", "([I[I)V"⟩, prog_8_method_5_code, 3, none)
def y_174 : MethodName × ByteArray × Nat × Option FieldType := (⟨"ServiceManagerModel", "find", "()I"⟩, prog_8_method_35_code, 3, some .int)
def y_175 : MethodName × ByteArray × Nat × Option FieldType := (⟨"ServiceManagerModel", "advance", "(I)I"⟩, prog_8_method_86_code, 3, some .int)
def y_176 : MethodName × ByteArray × Nat × Option FieldType := (⟨"ServiceManagerModel", "throwsIf", "(ZI)Z"⟩, prog_8_method_4_code, 3, some .boolean)
def y_177 : MethodName × ByteArray × Nat × Option FieldType := (⟨"ServiceManagerModel", "ticks", "()V"⟩, prog_8_method_85_code, 2, none)
def y_178 : MethodName × ByteArray × Nat × Option FieldType := (⟨"ServiceManagerModel", "dueFor", "(I)I"⟩, prog_8_method_82_code, 4, some .int)
def y_179 : MethodName × ByteArray × Nat × Option FieldType := (⟨"ServiceManagerModel", "of", "(II)I"⟩, prog_8_method_6_code, 3, some .int)
def y_180 : MethodName × ByteArray × Nat × Option FieldType := (⟨"ServiceManagerModel", "happens", "(I)V"⟩, prog_8_method_83_code, 2, none)
def y_181 : MethodName × ByteArray × Nat × Option FieldType := (⟨"ServiceManagerModel", "endsActivation", "(I)V"⟩, prog_8_method_67_code, 3, none)
def y_182 : MethodName × ByteArray × Nat × Option FieldType := (⟨"ServiceManagerModel", "breaks", "(II)V"⟩, prog_8_method_58_code, 4, none)
def y_183 : MethodName × ByteArray × Nat × Option FieldType := (⟨"ServiceManagerModel", "isToStart", "(I)Z"⟩, prog_8_method_57_code, 2, some .boolean)
def y_184 : MethodName × ByteArray × Nat × Option FieldType := (⟨"ServiceManagerModel", "ends", "(II)V"⟩, prog_8_method_56_code, 3, none)
def y_185 : MethodName × ByteArray × Nat × Option FieldType := (⟨"ServiceManagerModel", "put", "(III)V"⟩, prog_8_method_7_code, 4, none)
def y_186 : MethodName × ByteArray × Nat × Option FieldType := (⟨"ServiceManagerModel", "follows", "(I)V"⟩, prog_8_method_61_code, 3, none)
def y_187 : MethodName × ByteArray × Nat × Option FieldType := (⟨"ServiceManagerModel", "needs", "(I)I"⟩, prog_8_method_36_code, 2, some .int)
def y_188 : MethodName × ByteArray × Nat × Option FieldType := (⟨"ServiceManagerModel", "has", "(II)Z"⟩, prog_8_method_9_code, 2, some .boolean)
def y_189 : MethodName × ByteArray × Nat × Option FieldType := (⟨"ServiceManagerModel", "failsAgain", "(I)V"⟩, prog_8_method_60_code, 2, none)
def y_190 : MethodName × ByteArray × Nat × Option FieldType := (⟨"ServiceManagerModel", "becomes", "(II)V"⟩, prog_8_method_62_code, 4, none)
def y_191 : MethodName × ByteArray × Nat × Option FieldType := (⟨"ServiceManagerModel", "logs", "(II)V"⟩, prog_8_method_63_code, 4, none)
def y_192 : MethodName × ByteArray × Nat × Option FieldType := (⟨"ServiceManagerModel", "more", "(III)V"⟩, prog_8_method_8_code, 4, none)
def y_193 : MethodName × ByteArray × Nat × Option FieldType := (⟨"ServiceManagerModel", "exits", "(II)V"⟩, prog_8_method_70_code, 3, none)
def y_194 : MethodName × ByteArray × Nat × Option FieldType := (⟨"ServiceManagerModel", "leaves", "(IIZ)V"⟩, prog_8_method_71_code, 6, none)
def y_195 : MethodName × ByteArray × Nat × Option FieldType := (⟨"ServiceManagerModel", "waits", "(II)V"⟩, prog_8_method_55_code, 3, none)
def y_196 : MethodName × ByteArray × Nat × Option FieldType := (⟨"ServiceManagerModel", "stopsBound", "(I)V"⟩, prog_8_method_72_code, 4, none)
def y_197 : MethodName × ByteArray × Nat × Option FieldType := (⟨"ServiceManagerModel", "transacts", "(II)I"⟩, prog_8_method_51_code, 4, some .int)
def y_198 : MethodName × ByteArray × Nat × Option FieldType := (⟨"ServiceManagerModel", "builds", "(II)V"⟩, prog_8_method_43_code, 5, none)
def y_199 : MethodName × ByteArray × Nat × Option FieldType := (⟨"ServiceManagerModel", "addsOne", "(IIZ)V"⟩, prog_8_method_41_code, 6, none)
def y_200 : MethodName × ByteArray × Nat × Option FieldType := (⟨"ServiceManagerModel", "pulls", "(II)V"⟩, prog_8_method_42_code, 6, none)
def y_201 : MethodName × ByteArray × Nat × Option FieldType := (⟨"ServiceManagerModel", "followers", "(I)I"⟩, prog_8_method_38_code, 4, some .int)
def y_202 : MethodName × ByteArray × Nat × Option FieldType := (⟨"ServiceManagerModel", "adds", "(IIZ)V"⟩, prog_8_method_40_code, 5, none)
def y_203 : MethodName × ByteArray × Nat × Option FieldType := (⟨"ServiceManagerModel", "opponents", "(I)I"⟩, prog_8_method_37_code, 4, some .int)
def y_204 : MethodName × ByteArray × Nat × Option FieldType := (⟨"ServiceManagerModel", "parts", "()I"⟩, prog_8_method_46_code, 4, some .int)
def y_205 : MethodName × ByteArray × Nat × Option FieldType := (⟨"ServiceManagerModel", "dropsNeedless", "()V"⟩, prog_8_method_47_code, 3, none)
def y_206 : MethodName × ByteArray × Nat × Option FieldType := (⟨"ServiceManagerModel", "cuts", "()I"⟩, prog_8_method_50_code, 4, some .int)
def y_207 : MethodName × ByteArray × Nat × Option FieldType := (⟨"ServiceManagerModel", "laysReach", "()V"⟩, prog_8_method_48_code, 3, none)
def y_208 : MethodName × ByteArray × Nat × Option FieldType := (⟨"ServiceManagerModel", "typeOf", "(I)I"⟩, prog_8_method_45_code, 2, some .int)
def y_209 : MethodName × ByteArray × Nat × Option FieldType := (⟨"ServiceManagerModel", "precedes", "(IIII)Z"⟩, prog_8_method_39_code, 7, some .boolean)
def y_210 : MethodName × ByteArray × Nat × Option FieldType := (⟨"ServiceManagerModel", "closes", "()V"⟩, prog_8_method_49_code, 3, none)
def y_211 : MethodName × ByteArray × Nat × Option FieldType := (⟨"ServiceManagerModel", "merges", "(Z)I"⟩, prog_8_method_53_code, 4, some .int)
def y_212 : MethodName × ByteArray × Nat × Option FieldType := (⟨"ServiceManagerModel", "clashes", "(I)Z"⟩, prog_8_method_52_code, 4, some .boolean)
def y_213 : MethodName × ByteArray × Nat × Option FieldType := (⟨"ServiceManagerModel", "mergesOne", "(II)V"⟩, prog_8_method_54_code, 4, none)
def y_214 : MethodName × ByteArray × Nat × Option FieldType := (⟨"ServiceManagerModel", "cancels", "(I)V"⟩, prog_8_method_59_code, 2, none)
def y_215 : MethodName × ByteArray × Nat × Option FieldType := (⟨"ServiceManagerModel", "endsStop", "(I)V"⟩, prog_8_method_69_code, 2, none)
def y_216 : MethodName × ByteArray × Nat × Option FieldType := (⟨"ServiceManagerModel", "goesIdle", "(I)V"⟩, prog_8_method_73_code, 2, none)
def y_217 : MethodName × ByteArray × Nat × Option FieldType := (⟨"ServiceManagerModel", "comesAgain", "(I)V"⟩, prog_8_method_84_code, 2, none)
def y_218 : MethodName × ByteArray × Nat × Option FieldType := (⟨"ServiceManagerModel", "runsJobs", "()V"⟩, prog_8_method_81_code, 4, none)
def y_219 : MethodName × ByteArray × Nat × Option FieldType := (⟨"ServiceManagerModel", "canRun", "(I)Z"⟩, prog_8_method_74_code, 2, some .boolean)
def y_220 : MethodName × ByteArray × Nat × Option FieldType := (⟨"ServiceManagerModel", "precedingTo", "(I)I"⟩, prog_8_method_75_code, 4, some .int)
def y_221 : MethodName × ByteArray × Nat × Option FieldType := (⟨"ServiceManagerModel", "runsStop", "(II)V"⟩, prog_8_method_77_code, 3, none)
def y_222 : MethodName × ByteArray × Nat × Option FieldType := (⟨"ServiceManagerModel", "beginsToStop", "(I)V"⟩, prog_8_method_68_code, 3, none)
def y_223 : MethodName × ByteArray × Nat × Option FieldType := (⟨"ServiceManagerModel", "runsRestart", "(II)V"⟩, prog_8_method_78_code, 3, none)
def y_224 : MethodName × ByteArray × Nat × Option FieldType := (⟨"ServiceManagerModel", "runsStart", "(II)V"⟩, prog_8_method_79_code, 3, none)
def y_225 : MethodName × ByteArray × Nat × Option FieldType := (⟨"ServiceManagerModel", "areNeedsThere", "(I)Z"⟩, prog_8_method_76_code, 3, some .boolean)
def y_226 : MethodName × ByteArray × Nat × Option FieldType := (⟨"ServiceManagerModel", "recent", "(I)I"⟩, prog_8_method_65_code, 4, some .int)
def y_227 : MethodName × ByteArray × Nat × Option FieldType := (⟨"ServiceManagerModel", "hitsLimit", "(I)V"⟩, prog_8_method_80_code, 3, none)
def y_228 : MethodName × ByteArray × Nat × Option FieldType := (⟨"ServiceManagerModel", "beginsToStart", "(I)V"⟩, prog_8_method_66_code, 3, none)
def y_229 : MethodName × ByteArray × Nat × Option FieldType := (⟨"ServiceManagerModel", "notesBegin", "(I)V"⟩, prog_8_method_64_code, 3, none)
def y_230 : MethodName × ByteArray × Nat × Option FieldType := (⟨"ServiceManagerModel", "time", "()I"⟩, prog_8_method_88_code, 1, some .int)
def y_231 : MethodName × ByteArray × Nat × Option FieldType := (⟨"ServiceManagerModel", "own", "(I)I"⟩, prog_8_method_87_code, 2, some .int)
def y_232 : MethodName × ByteArray × Nat × Option FieldType := (⟨"ServiceManagerModel", "unitCount", "()I"⟩, prog_8_method_89_code, 1, some .int)
def y_233 : MethodName × ByteArray × Nat × Option FieldType := (⟨"ServiceManagerModel", "kindOf", "(I)I"⟩, prog_8_method_93_code, 2, some .int)
def y_234 : MethodName × ByteArray × Nat × Option FieldType := (⟨"ServiceManagerModel", "told", "(II)I"⟩, prog_8_method_91_code, 3, some .int)
def y_235 : MethodName × ByteArray × Nat × Option FieldType := (⟨"ServiceManagerModel", "noUnit", "(I)Z"⟩, prog_8_method_90_code, 2, some .boolean)
def y_236 : MethodName × ByteArray × Nat × Option FieldType := (⟨"ServiceManagerModel", "nameLetter", "(II)I"⟩, prog_8_method_94_code, 3, some .int)
def y_237 : MethodName × ByteArray × Nat × Option FieldType := (⟨"ServiceManagerModel", "property", "(II)I"⟩, prog_8_method_95_code, 3, some .int)
def y_238 : MethodName × ByteArray × Nat × Option FieldType := (⟨"ServiceManagerModel", "toldOf", "(III)I"⟩, prog_8_method_92_code, 4, some .int)
def y_239 : MethodName × ByteArray × Nat × Option FieldType := (⟨"ServiceManagerModel", "related", "(II)I"⟩, prog_8_method_96_code, 3, some .int)
def y_240 : MethodName × ByteArray × Nat × Option FieldType := (⟨"ServiceManagerModel", "serviceOf", "(I)I"⟩, prog_8_method_97_code, 2, some .int)
def y_241 : MethodName × ByteArray × Nat × Option FieldType := (⟨"ServiceManagerModel", "stateOf", "(I)I"⟩, prog_8_method_98_code, 2, some .int)
def y_242 : MethodName × ByteArray × Nat × Option FieldType := (⟨"ServiceManagerModel", "resultOf", "(I)I"⟩, prog_8_method_99_code, 2, some .int)
def y_243 : MethodName × ByteArray × Nat × Option FieldType := (⟨"ServiceManagerModel", "exitCode", "(I)I"⟩, prog_8_method_100_code, 2, some .int)
def y_244 : MethodName × ByteArray × Nat × Option FieldType := (⟨"ServiceManagerModel", "since", "(I)I"⟩, prog_8_method_101_code, 2, some .int)
def y_245 : MethodName × ByteArray × Nat × Option FieldType := (⟨"ServiceManagerModel", "dueAt", "(I)I"⟩, prog_8_method_102_code, 2, some .int)
def y_246 : MethodName × ByteArray × Nat × Option FieldType := (⟨"ServiceManagerModel", "restarts", "(I)I"⟩, prog_8_method_103_code, 2, some .int)
def y_247 : MethodName × ByteArray × Nat × Option FieldType := (⟨"ServiceManagerModel", "begins", "(I)I"⟩, prog_8_method_104_code, 2, some .int)
def y_248 : MethodName × ByteArray × Nat × Option FieldType := (⟨"ServiceManagerModel", "recentBegins", "(I)I"⟩, prog_8_method_105_code, 2, some .int)
def y_249 : MethodName × ByteArray × Nat × Option FieldType := (⟨"ServiceManagerModel", "queued", "(I)I"⟩, prog_8_method_106_code, 2, some .int)
def y_250 : MethodName × ByteArray × Nat × Option FieldType := (⟨"ServiceManagerModel", "accepted", "(I)I"⟩, prog_8_method_107_code, 2, some .int)
def y_251 : MethodName × ByteArray × Nat × Option FieldType := (⟨"ServiceManagerModel", "lost", "(I)I"⟩, prog_8_method_108_code, 2, some .int)
def y_252 : MethodName × ByteArray × Nat × Option FieldType := (⟨"ServiceManagerModel", "jobOf", "(I)I"⟩, prog_8_method_109_code, 2, some .int)
def y_253 : MethodName × ByteArray × Nat × Option FieldType := (⟨"ServiceManagerModel", "isRunning", "(I)Z"⟩, prog_8_method_110_code, 2, some .boolean)
def y_254 : MethodName × ByteArray × Nat × Option FieldType := (⟨"ServiceManagerModel", "outcomeOf", "(I)I"⟩, prog_8_method_111_code, 2, some .int)
def y_255 : MethodName × ByteArray × Nat × Option FieldType := (⟨"ServiceManagerModel", "precedingJobs", "(I)I"⟩, prog_8_method_112_code, 2, some .int)
def y_256 : MethodName × ByteArray × Nat × Option FieldType := (⟨"ServiceManagerModel", "queueLength", "()I"⟩, prog_8_method_114_code, 1, some .int)
def y_257 : MethodName × ByteArray × Nat × Option FieldType := (⟨"ServiceManagerModel", "queueMany", "()I"⟩, prog_8_method_113_code, 3, some .int)
def y_258 : MethodName × ByteArray × Nat × Option FieldType := (⟨"ServiceManagerModel", "inState", "(I)I"⟩, prog_8_method_116_code, 2, some .int)
def y_259 : MethodName × ByteArray × Nat × Option FieldType := (⟨"ServiceManagerModel", "unitsIn", "(I)I"⟩, prog_8_method_115_code, 4, some .int)
def y_260 : MethodName × ByteArray × Nat × Option FieldType := (⟨"ServiceManagerModel", "logSize", "()I"⟩, prog_8_method_117_code, 1, some .int)
def y_261 : MethodName × ByteArray × Nat × Option FieldType := (⟨"ServiceManagerModel", "logEntry", "(II)I"⟩, prog_8_method_118_code, 3, some .int)
def y_262 : MethodName × ByteArray × Nat × Option FieldType := (⟨"ServiceManagerModel", "start", "(IZ)I"⟩, prog_8_method_120_code, 3, some .int)
def y_263 : MethodName × ByteArray × Nat × Option FieldType := (⟨"ServiceManagerModel", "calls", "(IIZ)I"⟩, prog_8_method_119_code, 6, some .int)
def y_264 : MethodName × ByteArray × Nat × Option FieldType := (⟨"ServiceManagerModel", "stop", "(IZ)I"⟩, prog_8_method_121_code, 3, some .int)
def y_265 : MethodName × ByteArray × Nat × Option FieldType := (⟨"ServiceManagerModel", "restart", "(IZ)I"⟩, prog_8_method_122_code, 3, some .int)
def y_266 : MethodName × ByteArray × Nat × Option FieldType := (⟨"ServiceManagerModel", "cancel", "(I)I"⟩, prog_8_method_123_code, 3, some .int)
def y_267 : MethodName × ByteArray × Nat × Option FieldType := (⟨"ServiceManagerModel", "connect", "(II)I"⟩, prog_8_method_125_code, 5, some .int)
def y_268 : MethodName × ByteArray × Nat × Option FieldType := (⟨"ServiceManagerModel", "connects", "(I)Z"⟩, prog_8_method_124_code, 5, some .boolean)
def y_269 : MethodName × ByteArray × Nat × Option FieldType := (⟨"ServiceManagerModel", "kill", "(II)I"⟩, prog_8_method_128_code, 3, some .int)
def y_270 : MethodName × ByteArray × Nat × Option FieldType := (⟨"ServiceManagerModel", "canBeKilled", "(I)Z"⟩, prog_8_method_126_code, 2, some .boolean)
def y_271 : MethodName × ByteArray × Nat × Option FieldType := (⟨"ServiceManagerModel", "kills", "(II)V"⟩, prog_8_method_127_code, 3, none)
def y_272 : MethodName × ByteArray × Nat × Option FieldType := (⟨"ServiceManagerModel", "reset", "(I)Z"⟩, prog_8_method_129_code, 2, some .boolean)
def y_273 : MethodName × ByteArray × Nat × Option FieldType := (⟨"ServiceManagerModel", "setMasked", "(IZ)Z"⟩, prog_8_method_130_code, 4, some .boolean)
def y_274 : MethodName × ByteArray × Nat × Option FieldType := (⟨"ServiceManagerModel", "plan", "(III)I"⟩, prog_8_method_132_code, 5, some .int)
def y_275 : MethodName × ByteArray × Nat × Option FieldType := (⟨"ServiceManagerModel", "noPlan", "(II)Z"⟩, prog_8_method_131_code, 3, some .boolean)
def y_276 : MethodName × ByteArray × Nat × Option FieldType := (⟨"ServiceManagerModel", "allJobs", "()I"⟩, prog_8_method_44_code, 1, some .int)
def y_277 : MethodName × ByteArray × Nat × Option FieldType := (⟨"ServiceManagerModel", "planDepth", "(II)I"⟩, prog_8_method_135_code, 4, some .int)
def y_278 : MethodName × ByteArray × Nat × Option FieldType := (⟨"ServiceManagerModel", "longest", "(Z)I"⟩, prog_8_method_134_code, 9, some .int)
def y_279 : MethodName × ByteArray × Nat × Option FieldType := (⟨"ServiceManagerModel", "worthOf", "(IZ)I"⟩, prog_8_method_133_code, 3, some .int)
def y_280 : MethodName × ByteArray × Nat × Option FieldType := (⟨"ServiceManagerModel", "criticalTime", "(I)I"⟩, prog_8_method_136_code, 3, some .int)
def y_281 : MethodName × ByteArray × Nat × Option FieldType := (⟨"ServiceManagerModel", "allNeeded", "(I)I"⟩, prog_8_method_137_code, 3, some .int)
def y_282 : MethodName × ByteArray × Nat × Option FieldType := (⟨"ServiceManagerModel", "allStopped", "(I)I"⟩, prog_8_method_138_code, 3, some .int)
def y_283 : MethodName × ByteArray × Nat × Option FieldType := (⟨"ServiceManagerModel", "orderingCircle", "()I"⟩, prog_8_method_139_code, 3, some .int)
def y_284 : MethodName × ByteArray × Nat × Option FieldType := (⟨"ServiceManagerModel", "isSound", "()Z"⟩, prog_8_method_140_code, 3, some .boolean)
def y_285 : MethodName × ByteArray × Nat × Option FieldType := (⟨"ServiceManagerModel", "ticksUntilActive", "(I)I"⟩, prog_8_method_141_code, 5, some .int)
def y_286 : MethodName × ByteArray × Nat × Option FieldType := (⟨"ServiceManagerModel", "ticksUntilQuiet", "()I"⟩, prog_8_method_143_code, 2, some .int)
def y_287 : MethodName × ByteArray × Nat × Option FieldType := (⟨"ServiceManagerModel", "isQuiet", "()Z"⟩, prog_8_method_142_code, 1, some .boolean)
def y_288 : MethodName × ByteArray × Nat × Option FieldType := (⟨"ServiceManagerModel", "stateAfter", "(II)I"⟩, prog_8_method_144_code, 4, some .int)
def y_289 : MethodName × ByteArray × Nat × Option FieldType := (⟨"ServiceManagerModel", "damageOf", "(II)I"⟩, prog_8_method_146_code, 3, some .int)
def y_290 : MethodName × ByteArray × Nat × Option FieldType := (⟨"ServiceManagerModel", "damage", "(II)I"⟩, prog_8_method_145_code, 5, some .int)
def y_291 : MethodName × ByteArray × Nat × Option FieldType := (⟨"ServiceManagerModel", "weakest", "()I"⟩, prog_8_method_148_code, 5, some .int)
def y_292 : MethodName × ByteArray × Nat × Option FieldType := (⟨"ServiceManagerModel", "bits", "(I)I"⟩, prog_8_method_147_code, 3, some .int)
def y_293 : MethodName × ByteArray × Nat × Option FieldType := (⟨"ServiceManagerModel", "saveSnapshot", "(I)I"⟩, prog_8_method_151_code, 2, some .int)
def y_294 : MethodName × ByteArray × Nat × Option FieldType := (⟨"ServiceManagerModel", "noSlot", "(I)Z"⟩, prog_8_method_149_code, 2, some .boolean)
def y_295 : MethodName × ByteArray × Nat × Option FieldType := (⟨"ServiceManagerModel", "slotRow", "(I)[I"⟩, prog_8_method_150_code, 2, some (.array .int))
def y_296 : MethodName × ByteArray × Nat × Option FieldType := (⟨"ServiceManagerModel", "restoreSnapshot", "(I)I"⟩, prog_8_method_152_code, 2, some .int)
