def R_Aunt : String := "UpperFloors$Aunt"
def F_Aunt : u_T := fun k => match k with
  | 0 => ("UpperFloors$House", "kind", "I", true)
  | 1 => ("UpperFloors$House", "told", "I", true)
  | _ => ("UpperFloors$House", "more", "I", true)
def t_Aunt : Nat → FieldType := fun k => match k with
  | 0 => .int
  | 1 => .int
  | _ => .int
theorem n_Aunt : ∀ a, a < 3 → ∀ b, b < 3 → a ≠ b → (F_Aunt a).2.1 ≠ (F_Aunt b).2.1 := by decide +kernel
theorem t_Aunt_ok : ∀ k, k < 3 → parseFieldDescriptor (F_Aunt k).2.2.1 = some (t_Aunt k) := by decide +kernel
def R_Braked : String := "UpperFloors$Braked"
def F_Braked : u_T := fun k => match k with
  | 0 => ("UpperFloors$House", "kind", "I", true)
  | 1 => ("UpperFloors$House", "told", "I", true)
  | _ => ("UpperFloors$House", "more", "I", true)
def t_Braked : Nat → FieldType := fun k => match k with
  | 0 => .int
  | 1 => .int
  | _ => .int
theorem n_Braked : ∀ a, a < 3 → ∀ b, b < 3 → a ≠ b → (F_Braked a).2.1 ≠ (F_Braked b).2.1 := by decide +kernel
theorem t_Braked_ok : ∀ k, k < 3 → parseFieldDescriptor (F_Braked k).2.2.1 = some (t_Braked k) := by decide +kernel
def R_Dusk : String := "UpperFloors$Dusk"
def F_Dusk : u_T := fun k => match k with
  | 0 => ("UpperFloors$Dusk", "town", "LUpperFloors$Town;", true)
  | 1 => ("UpperFloors$Dusk", "houses", "[LUpperFloors$House;", true)
  | 2 => ("UpperFloors$Dusk", "run", "[I", true)
  | 3 => ("UpperFloors$Dusk", "moves", "[I", true)
  | 4 => ("UpperFloors$Dusk", "hits", "[I", true)
  | 5 => ("UpperFloors$Dusk", "lastHit", "[I", true)
  | 6 => ("UpperFloors$Dusk", "names", "[I", true)
  | 7 => ("UpperFloors$Dusk", "stack", "[I", true)
  | _ => ("UpperFloors$Dusk", "law", "LUpperFloors$Law;", false)
def t_Dusk : Nat → FieldType := fun k => match k with
  | 0 => .object "UpperFloors$Town"
  | 1 => .array (.object "UpperFloors$House")
  | 2 => .array .int
  | 3 => .array .int
  | 4 => .array .int
  | 5 => .array .int
  | 6 => .array .int
  | 7 => .array .int
  | _ => .object "UpperFloors$Law"
theorem n_Dusk : ∀ a, a < 9 → ∀ b, b < 9 → a ≠ b → (F_Dusk a).2.1 ≠ (F_Dusk b).2.1 := by decide +kernel
theorem t_Dusk_ok : ∀ k, k < 9 → parseFieldDescriptor (F_Dusk k).2.2.1 = some (t_Dusk k) := by decide +kernel
def R_Heavy : String := "UpperFloors$Heavy"
def F_Heavy : u_T := fun k => match k with
  | 0 => ("UpperFloors$House", "kind", "I", true)
  | 1 => ("UpperFloors$House", "told", "I", true)
  | _ => ("UpperFloors$House", "more", "I", true)
def t_Heavy : Nat → FieldType := fun k => match k with
  | 0 => .int
  | 1 => .int
  | _ => .int
theorem n_Heavy : ∀ a, a < 3 → ∀ b, b < 3 → a ≠ b → (F_Heavy a).2.1 ≠ (F_Heavy b).2.1 := by decide +kernel
theorem t_Heavy_ok : ∀ k, k < 3 → parseFieldDescriptor (F_Heavy k).2.2.1 = some (t_Heavy k) := by decide +kernel
def R_House : String := "UpperFloors$House"
def F_House : u_T := fun k => match k with
  | 0 => ("UpperFloors$House", "kind", "I", true)
  | 1 => ("UpperFloors$House", "told", "I", true)
  | _ => ("UpperFloors$House", "more", "I", true)
def t_House : Nat → FieldType := fun k => match k with
  | 0 => .int
  | 1 => .int
  | _ => .int
theorem n_House : ∀ a, a < 3 → ∀ b, b < 3 → a ≠ b → (F_House a).2.1 ≠ (F_House b).2.1 := by decide +kernel
theorem t_House_ok : ∀ k, k < 3 → parseFieldDescriptor (F_House k).2.2.1 = some (t_House k) := by decide +kernel
def R_Late : String := "UpperFloors$Late"
def F_Late : u_T := fun k => match k with
  | 0 => ("UpperFloors$House", "kind", "I", true)
  | 1 => ("UpperFloors$House", "told", "I", true)
  | _ => ("UpperFloors$House", "more", "I", true)
def t_Late : Nat → FieldType := fun k => match k with
  | 0 => .int
  | 1 => .int
  | _ => .int
theorem n_Late : ∀ a, a < 3 → ∀ b, b < 3 → a ≠ b → (F_Late a).2.1 ≠ (F_Late b).2.1 := by decide +kernel
theorem t_Late_ok : ∀ k, k < 3 → parseFieldDescriptor (F_Late k).2.2.1 = some (t_Late k) := by decide +kernel
def R_Law : String := "UpperFloors$Law"
def F_Law : u_T := fun k => match k with
  | 0 => ("UpperFloors$Law", "steps", "[I", true)
  | 1 => ("UpperFloors$Law", "from", "[I", true)
  | _ => ("UpperFloors$Law", "size", "I", false)
def t_Law : Nat → FieldType := fun k => match k with
  | 0 => .array .int
  | 1 => .array .int
  | _ => .int
theorem n_Law : ∀ a, a < 3 → ∀ b, b < 3 → a ≠ b → (F_Law a).2.1 ≠ (F_Law b).2.1 := by decide +kernel
theorem t_Law_ok : ∀ k, k < 3 → parseFieldDescriptor (F_Law k).2.2.1 = some (t_Law k) := by decide +kernel
def R_Reader : String := "UpperFloors$Reader"
def F_Reader : u_T := fun k => match k with
  | 0 => ("UpperFloors$Reader", "tape", "[I", false)
  | 1 => ("UpperFloors$Reader", "tapeSize", "I", false)
  | 2 => ("UpperFloors$Reader", "law", "LUpperFloors$Law;", false)
  | 3 => ("UpperFloors$Reader", "at", "I", false)
  | 4 => ("UpperFloors$Reader", "start", "I", false)
  | 5 => ("UpperFloors$Reader", "token", "I", false)
  | _ => ("UpperFloors$Reader", "value", "I", false)
def t_Reader : Nat → FieldType := fun k => match k with
  | 0 => .array .int
  | 1 => .int
  | 2 => .object "UpperFloors$Law"
  | 3 => .int
  | 4 => .int
  | 5 => .int
  | _ => .int
theorem n_Reader : ∀ a, a < 7 → ∀ b, b < 7 → a ≠ b → (F_Reader a).2.1 ≠ (F_Reader b).2.1 := by decide +kernel
theorem t_Reader_ok : ∀ k, k < 7 → parseFieldDescriptor (F_Reader k).2.2.1 = some (t_Reader k) := by decide +kernel
def R_Sheet : String := "UpperFloors$Sheet"
def F_Sheet : u_T := fun k => match k with
  | 0 => ("UpperFloors$Sheet", "row", "[I", true)
  | 1 => ("UpperFloors$Sheet", "sort", "I", false)
  | _ => ("UpperFloors$Sheet", "size", "I", false)
def t_Sheet : Nat → FieldType := fun k => match k with
  | 0 => .array .int
  | 1 => .int
  | _ => .int
theorem n_Sheet : ∀ a, a < 3 → ∀ b, b < 3 → a ≠ b → (F_Sheet a).2.1 ≠ (F_Sheet b).2.1 := by decide +kernel
theorem t_Sheet_ok : ∀ k, k < 3 → parseFieldDescriptor (F_Sheet k).2.2.1 = some (t_Sheet k) := by decide +kernel
def R_Stuck : String := "UpperFloors$Stuck"
def F_Stuck : u_T := fun k => match k with
  | 0 => ("UpperFloors$House", "kind", "I", true)
  | 1 => ("UpperFloors$House", "told", "I", true)
  | _ => ("UpperFloors$House", "more", "I", true)
def t_Stuck : Nat → FieldType := fun k => match k with
  | 0 => .int
  | 1 => .int
  | _ => .int
theorem n_Stuck : ∀ a, a < 3 → ∀ b, b < 3 → a ≠ b → (F_Stuck a).2.1 ≠ (F_Stuck b).2.1 := by decide +kernel
theorem t_Stuck_ok : ∀ k, k < 3 → parseFieldDescriptor (F_Stuck k).2.2.1 = some (t_Stuck k) := by decide +kernel
def R_Town : String := "UpperFloors$Town"
def F_Town : u_T := fun k => match k with
  | 0 => ("UpperFloors$Town", "high", "[I", true)
  | 1 => ("UpperFloors$Town", "people", "[I", true)
  | 2 => ("UpperFloors$Town", "partner", "[I", true)
  | 3 => ("UpperFloors$Town", "size", "I", false)
  | _ => ("UpperFloors$Town", "law", "I", false)
def t_Town : Nat → FieldType := fun k => match k with
  | 0 => .array .int
  | 1 => .array .int
  | 2 => .array .int
  | 3 => .int
  | _ => .int
theorem n_Town : ∀ a, a < 5 → ∀ b, b < 5 → a ≠ b → (F_Town a).2.1 ≠ (F_Town b).2.1 := by decide +kernel
theorem t_Town_ok : ∀ k, k < 5 → parseFieldDescriptor (F_Town k).2.2.1 = some (t_Town k) := by decide +kernel
def R_UF : String := "UpperFloors"
def F_UF : u_T := fun k => match k with
  | 0 => ("UpperFloors", "houses", "[LUpperFloors$House;", true)
  | 1 => ("UpperFloors", "texts", "[LUpperFloors$Law;", true)
  | 2 => ("UpperFloors", "sheets", "[LUpperFloors$Sheet;", true)
  | 3 => ("UpperFloors", "tape", "[I", true)
  | 4 => ("UpperFloors", "now", "LUpperFloors$Town;", true)
  | 5 => ("UpperFloors", "kept", "LUpperFloors$Town;", true)
  | 6 => ("UpperFloors", "dusk", "LUpperFloors$Dusk;", true)
  | 7 => ("UpperFloors", "reader", "LUpperFloors$Reader;", true)
  | 8 => ("UpperFloors", "textCount", "I", false)
  | 9 => ("UpperFloors", "tapeSize", "I", false)
  | _ => ("UpperFloors", "keeps", "Z", false)
def t_UF : Nat → FieldType := fun k => match k with
  | 0 => .array (.object "UpperFloors$House")
  | 1 => .array (.object "UpperFloors$Law")
  | 2 => .array (.object "UpperFloors$Sheet")
  | 3 => .array .int
  | 4 => .object "UpperFloors$Town"
  | 5 => .object "UpperFloors$Town"
  | 6 => .object "UpperFloors$Dusk"
  | 7 => .object "UpperFloors$Reader"
  | 8 => .int
  | 9 => .int
  | _ => .boolean
theorem n_UF : ∀ a, a < 11 → ∀ b, b < 11 → a ≠ b → (F_UF a).2.1 ≠ (F_UF b).2.1 := by decide +kernel
theorem t_UF_ok : ∀ k, k < 11 → parseFieldDescriptor (F_UF k).2.2.1 = some (t_UF k) := by decide +kernel
def R_MO : String := "UpperFloorsModel"
def F_MO : u_T := fun k => match k with
  | 0 => ("UpperFloorsModel", "houses", "I", false)
  | 1 => ("UpperFloorsModel", "kind", "[I", true)
  | 2 => ("UpperFloorsModel", "toldOf", "[I", true)
  | 3 => ("UpperFloorsModel", "moreOf", "[I", true)
  | 4 => ("UpperFloorsModel", "highOf", "[I", true)
  | 5 => ("UpperFloorsModel", "peopleOf", "[I", true)
  | 6 => ("UpperFloorsModel", "chainOf", "[I", true)
  | 7 => ("UpperFloorsModel", "tape", "[I", true)
  | 8 => ("UpperFloorsModel", "taped", "I", false)
  | 9 => ("UpperFloorsModel", "codes", "[I", true)
  | 10 => ("UpperFloorsModel", "starts", "[I", true)
  | 11 => ("UpperFloorsModel", "texts", "I", false)
  | 12 => ("UpperFloorsModel", "rule", "I", false)
  | 13 => ("UpperFloorsModel", "hasImage", "Z", false)
  | 14 => ("UpperFloorsModel", "imageHouses", "I", false)
  | 15 => ("UpperFloorsModel", "imageRule", "I", false)
  | 16 => ("UpperFloorsModel", "imageRows", "[I", true)
  | 17 => ("UpperFloorsModel", "sheetSort", "[I", true)
  | 18 => ("UpperFloorsModel", "sheetSize", "[I", true)
  | 19 => ("UpperFloorsModel", "cells", "[I", true)
  | 20 => ("UpperFloorsModel", "law", "[I", true)
  | 21 => ("UpperFloorsModel", "at", "I", false)
  | 22 => ("UpperFloorsModel", "begun", "I", false)
  | 23 => ("UpperFloorsModel", "token", "I", false)
  | 24 => ("UpperFloorsModel", "value", "I", false)
  | 25 => ("UpperFloorsModel", "words", "[I", true)
  | 26 => ("UpperFloorsModel", "held", "[I", true)
  | 27 => ("UpperFloorsModel", "heldMany", "I", false)
  | 28 => ("UpperFloorsModel", "opens", "I", false)
  | 29 => ("UpperFloorsModel", "out", "I", false)
  | 30 => ("UpperFloorsModel", "stack", "[I", true)
  | 31 => ("UpperFloorsModel", "named", "[I", true)
  | 32 => ("UpperFloorsModel", "now", "[I", true)
  | 33 => ("UpperFloorsModel", "moved", "[I", true)
  | 34 => ("UpperFloorsModel", "runs", "[I", true)
  | 35 => ("UpperFloorsModel", "lastHit", "[I", true)
  | 36 => ("UpperFloorsModel", "hitsOf", "[I", true)
  | 37 => ("UpperFloorsModel", "hundredthNow", "I", false)
  | 38 => ("UpperFloorsModel", "lot", "J", false)
  | _ => ("UpperFloorsModel", "keptChain", "[I", true)
def t_MO : Nat → FieldType := fun k => match k with
  | 0 => .int
  | 1 => .array .int
  | 2 => .array .int
  | 3 => .array .int
  | 4 => .array .int
  | 5 => .array .int
  | 6 => .array .int
  | 7 => .array .int
  | 8 => .int
  | 9 => .array .int
  | 10 => .array .int
  | 11 => .int
  | 12 => .int
  | 13 => .boolean
  | 14 => .int
  | 15 => .int
  | 16 => .array .int
  | 17 => .array .int
  | 18 => .array .int
  | 19 => .array .int
  | 20 => .array .int
  | 21 => .int
  | 22 => .int
  | 23 => .int
  | 24 => .int
  | 25 => .array .int
  | 26 => .array .int
  | 27 => .int
  | 28 => .int
  | 29 => .int
  | 30 => .array .int
  | 31 => .array .int
  | 32 => .array .int
  | 33 => .array .int
  | 34 => .array .int
  | 35 => .array .int
  | 36 => .array .int
  | 37 => .int
  | 38 => .long
  | _ => .array .int
theorem n_MO : ∀ a, a < 40 → ∀ b, b < 40 → a ≠ b → (F_MO a).2.1 ≠ (F_MO b).2.1 := by decide +kernel
theorem t_MO_ok : ∀ k, k < 40 → parseFieldDescriptor (F_MO k).2.2.1 = some (t_MO k) := by decide +kernel
abbrev clL : List vw_C := [(R_Aunt, F_Aunt, 3), (R_Braked, F_Braked, 3), (R_Dusk, F_Dusk, 9), (R_Heavy, F_Heavy, 3), (R_House, F_House, 3), (R_Late, F_Late, 3), (R_Law, F_Law, 3), (R_Reader, F_Reader, 7), (R_Sheet, F_Sheet, 3), (R_Stuck, F_Stuck, 3), (R_Town, F_Town, 5), (R_UF, F_UF, 11), (R_MO, F_MO, 40)]
def ftyL : List (List Nat) := [[0, 0, 0], [0, 0, 0], [1, 1, 1, 1, 1, 1, 1, 1, 1], [0, 0, 0], [0, 0, 0], [0, 0, 0], [1, 1, 0], [1, 0, 1, 0, 0, 0, 0], [1, 0, 0], [0, 0, 0], [1, 1, 1, 0, 0], [1, 1, 1, 1, 1, 1, 1, 1, 0, 0, 0], [0, 1, 1, 1, 1, 1, 1, 1, 0, 1, 1, 0, 0, 0, 0, 0, 1, 1, 1, 1, 1, 0, 0, 0, 0, 1, 1, 0, 0, 0, 1, 1, 1, 1, 1, 1, 1, 0, 2, 1]]
def nfL : List Nat := [3, 3, 9, 3, 3, 3, 3, 7, 3, 3, 5, 11, 40]
def tblG : List Cond := lw_tbl.filter goodWord
theorem tG {w : Cond} (i : Nat) (h : tables_1[i]? = some w) (g : goodWord w = true) : w ∈ tblG := List.mem_filter.mpr ⟨List.mem_append_right _ (List.mem_of_getElem? h), g⟩
theorem sG {w : Cond} (i : Nat) (h : (k2_sels lw_privs)[i]? = some w) (g : goodWord w = true) : w ∈ tblG := List.mem_filter.mpr ⟨List.mem_append_left _ (List.mem_of_getElem? h), g⟩
theorem gG : ∀ w ∈ tblG, (w.onTables && w.keeps) = true ∨ ∃ ty, w = .arrayClass ty := fun w h => good_of_word (List.mem_filter.mp h).2
theorem i_Aunt : ∀ w ∈ u_ws R_Aunt F_Aunt 3, w ∈ tblG := by
  intro w h
  have h2 : w = u_lay R_Aunt F_Aunt 0 ∨ w = u_lay R_Aunt F_Aunt 1 ∨ w = u_lay R_Aunt F_Aunt 2 := by simpa [u_ws, List.range, List.range.loop] using h
  rcases h2 with rfl | rfl | rfl
  · exact tG 496 (by decide +kernel) (by decide +kernel)
  · exact tG 497 (by decide +kernel) (by decide +kernel)
  · exact tG 498 (by decide +kernel) (by decide +kernel)
theorem i_Braked : ∀ w ∈ u_ws R_Braked F_Braked 3, w ∈ tblG := by
  intro w h
  have h2 : w = u_lay R_Braked F_Braked 0 ∨ w = u_lay R_Braked F_Braked 1 ∨ w = u_lay R_Braked F_Braked 2 := by simpa [u_ws, List.range, List.range.loop] using h
  rcases h2 with rfl | rfl | rfl
  · exact tG 486 (by decide +kernel) (by decide +kernel)
  · exact tG 487 (by decide +kernel) (by decide +kernel)
  · exact tG 488 (by decide +kernel) (by decide +kernel)
theorem i_Dusk : ∀ w ∈ u_ws R_Dusk F_Dusk 9, w ∈ tblG := by
  intro w h
  have h2 : w = u_lay R_Dusk F_Dusk 0 ∨ w = u_lay R_Dusk F_Dusk 1 ∨ w = u_lay R_Dusk F_Dusk 2 ∨ w = u_lay R_Dusk F_Dusk 3 ∨ w = u_lay R_Dusk F_Dusk 4 ∨ w = u_lay R_Dusk F_Dusk 5 ∨ w = u_lay R_Dusk F_Dusk 6 ∨ w = u_lay R_Dusk F_Dusk 7 ∨ w = u_lay R_Dusk F_Dusk 8 := by simpa [u_ws, List.range, List.range.loop] using h
  rcases h2 with rfl | rfl | rfl | rfl | rfl | rfl | rfl | rfl | rfl
  · exact tG 92 (by decide +kernel) (by decide +kernel)
  · exact tG 94 (by decide +kernel) (by decide +kernel)
  · exact tG 96 (by decide +kernel) (by decide +kernel)
  · exact tG 98 (by decide +kernel) (by decide +kernel)
  · exact tG 100 (by decide +kernel) (by decide +kernel)
  · exact tG 102 (by decide +kernel) (by decide +kernel)
  · exact tG 104 (by decide +kernel) (by decide +kernel)
  · exact tG 106 (by decide +kernel) (by decide +kernel)
  · exact tG 108 (by decide +kernel) (by decide +kernel)
theorem i_Heavy : ∀ w ∈ u_ws R_Heavy F_Heavy 3, w ∈ tblG := by
  intro w h
  have h2 : w = u_lay R_Heavy F_Heavy 0 ∨ w = u_lay R_Heavy F_Heavy 1 ∨ w = u_lay R_Heavy F_Heavy 2 := by simpa [u_ws, List.range, List.range.loop] using h
  rcases h2 with rfl | rfl | rfl
  · exact tG 476 (by decide +kernel) (by decide +kernel)
  · exact tG 477 (by decide +kernel) (by decide +kernel)
  · exact tG 478 (by decide +kernel) (by decide +kernel)
theorem i_House : ∀ w ∈ u_ws R_House F_House 3, w ∈ tblG := by
  intro w h
  have h2 : w = u_lay R_House F_House 0 ∨ w = u_lay R_House F_House 1 ∨ w = u_lay R_House F_House 2 := by simpa [u_ws, List.range, List.range.loop] using h
  rcases h2 with rfl | rfl | rfl
  · exact tG 160 (by decide +kernel) (by decide +kernel)
  · exact tG 162 (by decide +kernel) (by decide +kernel)
  · exact tG 164 (by decide +kernel) (by decide +kernel)
theorem i_Late : ∀ w ∈ u_ws R_Late F_Late 3, w ∈ tblG := by
  intro w h
  have h2 : w = u_lay R_Late F_Late 0 ∨ w = u_lay R_Late F_Late 1 ∨ w = u_lay R_Late F_Late 2 := by simpa [u_ws, List.range, List.range.loop] using h
  rcases h2 with rfl | rfl | rfl
  · exact tG 516 (by decide +kernel) (by decide +kernel)
  · exact tG 517 (by decide +kernel) (by decide +kernel)
  · exact tG 518 (by decide +kernel) (by decide +kernel)
theorem i_Law : ∀ w ∈ u_ws R_Law F_Law 3, w ∈ tblG := by
  intro w h
  have h2 : w = u_lay R_Law F_Law 0 ∨ w = u_lay R_Law F_Law 1 ∨ w = u_lay R_Law F_Law 2 := by simpa [u_ws, List.range, List.range.loop] using h
  rcases h2 with rfl | rfl | rfl
  · exact tG 177 (by decide +kernel) (by decide +kernel)
  · exact tG 179 (by decide +kernel) (by decide +kernel)
  · exact tG 181 (by decide +kernel) (by decide +kernel)
theorem i_Reader : ∀ w ∈ u_ws R_Reader F_Reader 7, w ∈ tblG := by
  intro w h
  have h2 : w = u_lay R_Reader F_Reader 0 ∨ w = u_lay R_Reader F_Reader 1 ∨ w = u_lay R_Reader F_Reader 2 ∨ w = u_lay R_Reader F_Reader 3 ∨ w = u_lay R_Reader F_Reader 4 ∨ w = u_lay R_Reader F_Reader 5 ∨ w = u_lay R_Reader F_Reader 6 := by simpa [u_ws, List.range, List.range.loop] using h
  rcases h2 with rfl | rfl | rfl | rfl | rfl | rfl | rfl
  · exact tG 124 (by decide +kernel) (by decide +kernel)
  · exact tG 126 (by decide +kernel) (by decide +kernel)
  · exact tG 128 (by decide +kernel) (by decide +kernel)
  · exact tG 130 (by decide +kernel) (by decide +kernel)
  · exact tG 132 (by decide +kernel) (by decide +kernel)
  · exact tG 134 (by decide +kernel) (by decide +kernel)
  · exact tG 136 (by decide +kernel) (by decide +kernel)
theorem i_Sheet : ∀ w ∈ u_ws R_Sheet F_Sheet 3, w ∈ tblG := by
  intro w h
  have h2 : w = u_lay R_Sheet F_Sheet 0 ∨ w = u_lay R_Sheet F_Sheet 1 ∨ w = u_lay R_Sheet F_Sheet 2 := by simpa [u_ws, List.range, List.range.loop] using h
  rcases h2 with rfl | rfl | rfl
  · exact tG 195 (by decide +kernel) (by decide +kernel)
  · exact tG 197 (by decide +kernel) (by decide +kernel)
  · exact tG 199 (by decide +kernel) (by decide +kernel)
theorem i_Stuck : ∀ w ∈ u_ws R_Stuck F_Stuck 3, w ∈ tblG := by
  intro w h
  have h2 : w = u_lay R_Stuck F_Stuck 0 ∨ w = u_lay R_Stuck F_Stuck 1 ∨ w = u_lay R_Stuck F_Stuck 2 := by simpa [u_ws, List.range, List.range.loop] using h
  rcases h2 with rfl | rfl | rfl
  · exact tG 506 (by decide +kernel) (by decide +kernel)
  · exact tG 507 (by decide +kernel) (by decide +kernel)
  · exact tG 508 (by decide +kernel) (by decide +kernel)
theorem i_Town : ∀ w ∈ u_ws R_Town F_Town 5, w ∈ tblG := by
  intro w h
  have h2 : w = u_lay R_Town F_Town 0 ∨ w = u_lay R_Town F_Town 1 ∨ w = u_lay R_Town F_Town 2 ∨ w = u_lay R_Town F_Town 3 ∨ w = u_lay R_Town F_Town 4 := by simpa [u_ws, List.range, List.range.loop] using h
  rcases h2 with rfl | rfl | rfl | rfl | rfl
  · exact tG 57 (by decide +kernel) (by decide +kernel)
  · exact tG 59 (by decide +kernel) (by decide +kernel)
  · exact tG 61 (by decide +kernel) (by decide +kernel)
  · exact tG 63 (by decide +kernel) (by decide +kernel)
  · exact tG 65 (by decide +kernel) (by decide +kernel)
theorem i_UF : ∀ w ∈ u_ws R_UF F_UF 11, w ∈ tblG := by
  intro w h
  have h2 : w = u_lay R_UF F_UF 0 ∨ w = u_lay R_UF F_UF 1 ∨ w = u_lay R_UF F_UF 2 ∨ w = u_lay R_UF F_UF 3 ∨ w = u_lay R_UF F_UF 4 ∨ w = u_lay R_UF F_UF 5 ∨ w = u_lay R_UF F_UF 6 ∨ w = u_lay R_UF F_UF 7 ∨ w = u_lay R_UF F_UF 8 ∨ w = u_lay R_UF F_UF 9 ∨ w = u_lay R_UF F_UF 10 := by simpa [u_ws, List.range, List.range.loop] using h
  rcases h2 with rfl | rfl | rfl | rfl | rfl | rfl | rfl | rfl | rfl | rfl | rfl
  · exact tG 357 (by decide +kernel) (by decide +kernel)
  · exact tG 359 (by decide +kernel) (by decide +kernel)
  · exact tG 361 (by decide +kernel) (by decide +kernel)
  · exact tG 363 (by decide +kernel) (by decide +kernel)
  · exact tG 365 (by decide +kernel) (by decide +kernel)
  · exact tG 367 (by decide +kernel) (by decide +kernel)
  · exact tG 369 (by decide +kernel) (by decide +kernel)
  · exact tG 371 (by decide +kernel) (by decide +kernel)
  · exact tG 373 (by decide +kernel) (by decide +kernel)
  · exact tG 375 (by decide +kernel) (by decide +kernel)
  · exact tG 377 (by decide +kernel) (by decide +kernel)
theorem i_MO : ∀ w ∈ u_ws R_MO F_MO 40, w ∈ tblG := by
  intro w h
  have h2 : w = u_lay R_MO F_MO 0 ∨ w = u_lay R_MO F_MO 1 ∨ w = u_lay R_MO F_MO 2 ∨ w = u_lay R_MO F_MO 3 ∨ w = u_lay R_MO F_MO 4 ∨ w = u_lay R_MO F_MO 5 ∨ w = u_lay R_MO F_MO 6 ∨ w = u_lay R_MO F_MO 7 ∨ w = u_lay R_MO F_MO 8 ∨ w = u_lay R_MO F_MO 9 ∨ w = u_lay R_MO F_MO 10 ∨ w = u_lay R_MO F_MO 11 ∨ w = u_lay R_MO F_MO 12 ∨ w = u_lay R_MO F_MO 13 ∨ w = u_lay R_MO F_MO 14 ∨ w = u_lay R_MO F_MO 15 ∨ w = u_lay R_MO F_MO 16 ∨ w = u_lay R_MO F_MO 17 ∨ w = u_lay R_MO F_MO 18 ∨ w = u_lay R_MO F_MO 19 ∨ w = u_lay R_MO F_MO 20 ∨ w = u_lay R_MO F_MO 21 ∨ w = u_lay R_MO F_MO 22 ∨ w = u_lay R_MO F_MO 23 ∨ w = u_lay R_MO F_MO 24 ∨ w = u_lay R_MO F_MO 25 ∨ w = u_lay R_MO F_MO 26 ∨ w = u_lay R_MO F_MO 27 ∨ w = u_lay R_MO F_MO 28 ∨ w = u_lay R_MO F_MO 29 ∨ w = u_lay R_MO F_MO 30 ∨ w = u_lay R_MO F_MO 31 ∨ w = u_lay R_MO F_MO 32 ∨ w = u_lay R_MO F_MO 33 ∨ w = u_lay R_MO F_MO 34 ∨ w = u_lay R_MO F_MO 35 ∨ w = u_lay R_MO F_MO 36 ∨ w = u_lay R_MO F_MO 37 ∨ w = u_lay R_MO F_MO 38 ∨ w = u_lay R_MO F_MO 39 := by simpa [u_ws, List.range, List.range.loop] using h
  rcases h2 with rfl | rfl | rfl | rfl | rfl | rfl | rfl | rfl | rfl | rfl | rfl | rfl | rfl | rfl | rfl | rfl | rfl | rfl | rfl | rfl | rfl | rfl | rfl | rfl | rfl | rfl | rfl | rfl | rfl | rfl | rfl | rfl | rfl | rfl | rfl | rfl | rfl | rfl | rfl | rfl
  · exact tG 923 (by decide +kernel) (by decide +kernel)
  · exact tG 925 (by decide +kernel) (by decide +kernel)
  · exact tG 927 (by decide +kernel) (by decide +kernel)
  · exact tG 929 (by decide +kernel) (by decide +kernel)
  · exact tG 931 (by decide +kernel) (by decide +kernel)
  · exact tG 933 (by decide +kernel) (by decide +kernel)
  · exact tG 935 (by decide +kernel) (by decide +kernel)
  · exact tG 937 (by decide +kernel) (by decide +kernel)
  · exact tG 939 (by decide +kernel) (by decide +kernel)
  · exact tG 941 (by decide +kernel) (by decide +kernel)
  · exact tG 943 (by decide +kernel) (by decide +kernel)
  · exact tG 945 (by decide +kernel) (by decide +kernel)
  · exact tG 947 (by decide +kernel) (by decide +kernel)
  · exact tG 949 (by decide +kernel) (by decide +kernel)
  · exact tG 951 (by decide +kernel) (by decide +kernel)
  · exact tG 953 (by decide +kernel) (by decide +kernel)
  · exact tG 955 (by decide +kernel) (by decide +kernel)
  · exact tG 957 (by decide +kernel) (by decide +kernel)
  · exact tG 959 (by decide +kernel) (by decide +kernel)
  · exact tG 961 (by decide +kernel) (by decide +kernel)
  · exact tG 963 (by decide +kernel) (by decide +kernel)
  · exact tG 965 (by decide +kernel) (by decide +kernel)
  · exact tG 967 (by decide +kernel) (by decide +kernel)
  · exact tG 969 (by decide +kernel) (by decide +kernel)
  · exact tG 971 (by decide +kernel) (by decide +kernel)
  · exact tG 973 (by decide +kernel) (by decide +kernel)
  · exact tG 975 (by decide +kernel) (by decide +kernel)
  · exact tG 977 (by decide +kernel) (by decide +kernel)
  · exact tG 979 (by decide +kernel) (by decide +kernel)
  · exact tG 981 (by decide +kernel) (by decide +kernel)
  · exact tG 983 (by decide +kernel) (by decide +kernel)
  · exact tG 985 (by decide +kernel) (by decide +kernel)
  · exact tG 987 (by decide +kernel) (by decide +kernel)
  · exact tG 989 (by decide +kernel) (by decide +kernel)
  · exact tG 991 (by decide +kernel) (by decide +kernel)
  · exact tG 993 (by decide +kernel) (by decide +kernel)
  · exact tG 995 (by decide +kernel) (by decide +kernel)
  · exact tG 997 (by decide +kernel) (by decide +kernel)
  · exact tG 999 (by decide +kernel) (by decide +kernel)
  · exact tG 1001 (by decide +kernel) (by decide +kernel)
