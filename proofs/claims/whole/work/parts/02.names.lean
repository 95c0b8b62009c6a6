/-! names of the classes and their fields; the words of the tables that calls may hand on -/
def aw_T : List Cond := lw_tbl.filter goodWord
theorem aw_in {w : Cond} (i : Nat) (h : tables_1[i]? = some w) (hg : goodWord w = true) : w ∈ aw_T := List.mem_filter.mpr ⟨List.mem_append_right _ (List.mem_of_getElem? h), hg⟩
theorem aw_inP {w : Cond} (i : Nat) (h : (k2_sels lw_privs)[i]? = some w) (hg : goodWord w = true) : w ∈ aw_T := List.mem_filter.mpr ⟨List.mem_append_left _ (List.mem_of_getElem? h), hg⟩
theorem aw_good : GoodIn aw_T aw_T := fun w hw => ⟨hw, good_of_word (List.mem_filter.mp hw).2⟩
def cR0 : String := "MaypoleGreen"
def cF0 : List (String × String × String × Bool) := [("MaypoleGreen", "trays", "[LMaypoleGreen$Tray;", true), ("MaypoleGreen", "tape", "[B", true), ("MaypoleGreen", "taped", "I", false), ("MaypoleGreen", "lastStatus", "I", false), ("MaypoleGreen", "faultKind", "I", false), ("MaypoleGreen", "faultPlace", "I", false), ("MaypoleGreen", "now", "LMaypoleGreen$Green;", false), ("MaypoleGreen", "spare", "LMaypoleGreen$Green;", false), ("MaypoleGreen", "kept", "[LMaypoleGreen$Green;", true), ("MaypoleGreen", "marks", "I", false), ("MaypoleGreen", "draft", "LMaypoleGreen$Feasts;", true), ("MaypoleGreen", "reader", "LMaypoleGreen$Reader;", true), ("MaypoleGreen", "life", "LMaypoleGreen$Life;", true), ("MaypoleGreen", "lastLived", "[I", true), ("MaypoleGreen", "hasLived", "Z", false), ("MaypoleGreen", "homing", "LMaypoleGreen$Homing;", true), ("MaypoleGreen", "outlook", "LMaypoleGreen$Outlook;", true), ("MaypoleGreen", "difference", "LMaypoleGreen$Plait;", true), ("MaypoleGreen", "chances", "LMaypoleGreen$Chances;", true)]
def cT0 : u_T := fun k => cF0.getD k ("", "", "", false)
def cY0 : List FieldType := [.array (.object "MaypoleGreen$Tray"), .array .byte, .int, .int, .int, .int, .object "MaypoleGreen$Green", .object "MaypoleGreen$Green", .array (.object "MaypoleGreen$Green"), .int, .object "MaypoleGreen$Feasts", .object "MaypoleGreen$Reader", .object "MaypoleGreen$Life", .array .int, .boolean, .object "MaypoleGreen$Homing", .object "MaypoleGreen$Outlook", .object "MaypoleGreen$Plait", .object "MaypoleGreen$Chances"]
def cP0 : List Nat := [442, 444, 446, 448, 450, 452, 454, 456, 458, 460, 462, 464, 466, 468, 470, 472, 474, 476, 478]
theorem cn0 : ∀ a, a < 19 → ∀ b, b < 19 → a ≠ b → (cT0 a).2.1 ≠ (cT0 b).2.1 := by decide +kernel
theorem cy0 : ∀ k, k < 19 → parseFieldDescriptor (cT0 k).2.2.1 = some (cY0.getD k .int) := by decide +kernel
theorem cp0 : ∀ k, k < 19 → tables_1[cP0.getD k 0]? = some (u_lay cR0 cT0 k) ∧ goodWord (u_lay cR0 cT0 k) = true := by decide +kernel
theorem ci0 : ∀ w ∈ u_ws cR0 cT0 19, w ∈ aw_T := fun w hw => by
  obtain ⟨k, hk, rfl⟩ := List.mem_map.mp hw
  have h := cp0 k (List.mem_range.mp hk)
  exact aw_in _ h.1 h.2
def cR1 : String := "MaypoleGreen$Tray"
def cF1 : List (String × String × String × Bool) := [("MaypoleGreen$Tray", "cells", "[J", true), ("MaypoleGreen$Tray", "there", "Z", false), ("MaypoleGreen$Tray", "sort", "I", false), ("MaypoleGreen$Tray", "size", "I", false)]
def cT1 : u_T := fun k => cF1.getD k ("", "", "", false)
def cY1 : List FieldType := [.array .long, .boolean, .int, .int]
def cP1 : List Nat := [46, 48, 50, 52]
theorem cn1 : ∀ a, a < 4 → ∀ b, b < 4 → a ≠ b → (cT1 a).2.1 ≠ (cT1 b).2.1 := by decide +kernel
theorem cy1 : ∀ k, k < 4 → parseFieldDescriptor (cT1 k).2.2.1 = some (cY1.getD k .int) := by decide +kernel
theorem cp1 : ∀ k, k < 4 → tables_1[cP1.getD k 0]? = some (u_lay cR1 cT1 k) ∧ goodWord (u_lay cR1 cT1 k) = true := by decide +kernel
theorem ci1 : ∀ w ∈ u_ws cR1 cT1 4, w ∈ aw_T := fun w hw => by
  obtain ⟨k, hk, rfl⟩ := List.mem_map.mp hw
  have h := cp1 k (List.mem_range.mp hk)
  exact aw_in _ h.1 h.2
def cR2 : String := "MaypoleGreen$Green"
def cF2 : List (String × String × String × Bool) := [("MaypoleGreen$Green", "dancers", "I", false), ("MaypoleGreen$Green", "odds", "I", false), ("MaypoleGreen$Green", "longest", "I", false), ("MaypoleGreen$Green", "came", "I", false), ("MaypoleGreen$Green", "undone", "I", false), ("MaypoleGreen$Green", "names", "[J", true), ("MaypoleGreen$Green", "colours", "[I", true), ("MaypoleGreen$Green", "places", "[I", true), ("MaypoleGreen$Green", "used", "[I", true), ("MaypoleGreen$Green", "standing", "[I", true), ("MaypoleGreen$Green", "plait", "LMaypoleGreen$Plait;", true), ("MaypoleGreen$Green", "feasts", "LMaypoleGreen$Feasts;", true), ("MaypoleGreen$Green", "rowsByGap", "[I", true)]
def cT2 : u_T := fun k => cF2.getD k ("", "", "", false)
def cY2 : List FieldType := [.int, .int, .int, .int, .int, .array .long, .array .int, .array .int, .array .int, .array .int, .object "MaypoleGreen$Plait", .object "MaypoleGreen$Feasts", .array .int]
def cP2 : List Nat := [157, 159, 161, 163, 165, 167, 169, 171, 173, 175, 177, 179, 181]
theorem cn2 : ∀ a, a < 13 → ∀ b, b < 13 → a ≠ b → (cT2 a).2.1 ≠ (cT2 b).2.1 := by decide +kernel
theorem cy2 : ∀ k, k < 13 → parseFieldDescriptor (cT2 k).2.2.1 = some (cY2.getD k .int) := by decide +kernel
theorem cp2 : ∀ k, k < 13 → tables_1[cP2.getD k 0]? = some (u_lay cR2 cT2 k) ∧ goodWord (u_lay cR2 cT2 k) = true := by decide +kernel
theorem ci2 : ∀ w ∈ u_ws cR2 cT2 13, w ∈ aw_T := fun w hw => by
  obtain ⟨k, hk, rfl⟩ := List.mem_map.mp hw
  have h := cp2 k (List.mem_range.mp hk)
  exact aw_in _ h.1 h.2
def cR3 : String := "MaypoleGreen$Plait"
def cF3 : List (String × String × String × Bool) := [("MaypoleGreen$Plait", "row", "[I", true), ("MaypoleGreen$Plait", "size", "I", false)]
def cT3 : u_T := fun k => cF3.getD k ("", "", "", false)
def cY3 : List FieldType := [.array .int, .int]
def cP3 : List Nat := [74, 76]
theorem cn3 : ∀ a, a < 2 → ∀ b, b < 2 → a ≠ b → (cT3 a).2.1 ≠ (cT3 b).2.1 := by decide +kernel
theorem cy3 : ∀ k, k < 2 → parseFieldDescriptor (cT3 k).2.2.1 = some (cY3.getD k .int) := by decide +kernel
theorem cp3 : ∀ k, k < 2 → tables_1[cP3.getD k 0]? = some (u_lay cR3 cT3 k) ∧ goodWord (u_lay cR3 cT3 k) = true := by decide +kernel
theorem ci3 : ∀ w ∈ u_ws cR3 cT3 2, w ∈ aw_T := fun w hw => by
  obtain ⟨k, hk, rfl⟩ := List.mem_map.mp hw
  have h := cp3 k (List.mem_range.mp hk)
  exact aw_in _ h.1 h.2
def cR4 : String := "MaypoleGreen$Feasts"
def cF4 : List (String × String × String × Bool) := [("MaypoleGreen$Feasts", "there", "Z", false), ("MaypoleGreen$Feasts", "count", "I", false), ("MaypoleGreen$Feasts", "kinds", "[I", true), ("MaypoleGreen$Feasts", "tests", "[I", true), ("MaypoleGreen$Feasts", "firsts", "[I", true), ("MaypoleGreen$Feasts", "seconds", "[I", true), ("MaypoleGreen$Feasts", "behind", "[I", true)]
def cT4 : u_T := fun k => cF4.getD k ("", "", "", false)
def cY4 : List FieldType := [.boolean, .int, .array .int, .array .int, .array .int, .array .int, .array .int]
def cP4 : List Nat := [108, 110, 112, 114, 116, 118, 120]
theorem cn4 : ∀ a, a < 7 → ∀ b, b < 7 → a ≠ b → (cT4 a).2.1 ≠ (cT4 b).2.1 := by decide +kernel
theorem cy4 : ∀ k, k < 7 → parseFieldDescriptor (cT4 k).2.2.1 = some (cY4.getD k .int) := by decide +kernel
theorem cp4 : ∀ k, k < 7 → tables_1[cP4.getD k 0]? = some (u_lay cR4 cT4 k) ∧ goodWord (u_lay cR4 cT4 k) = true := by decide +kernel
theorem ci4 : ∀ w ∈ u_ws cR4 cT4 7, w ∈ aw_T := fun w hw => by
  obtain ⟨k, hk, rfl⟩ := List.mem_map.mp hw
  have h := cp4 k (List.mem_range.mp hk)
  exact aw_in _ h.1 h.2
def cR5 : String := "MaypoleGreen$Reader"
def cF5 : List (String × String × String × Bool) := [("MaypoleGreen$Reader", "faultKind", "I", false), ("MaypoleGreen$Reader", "faultPlace", "I", false), ("MaypoleGreen$Reader", "tokens", "LMaypoleGreen$Tokens;", true), ("MaypoleGreen$Reader", "green", "LMaypoleGreen$Green;", false), ("MaypoleGreen$Reader", "feasts", "LMaypoleGreen$Feasts;", false), ("MaypoleGreen$Reader", "oddsTold", "Z", false), ("MaypoleGreen$Reader", "longTold", "Z", false), ("MaypoleGreen$Reader", "passTold", "Z", false), ("MaypoleGreen$Reader", "open", "I", false), ("MaypoleGreen$Reader", "opened", "[I", true)]
def cT5 : u_T := fun k => cF5.getD k ("", "", "", false)
def cY5 : List FieldType := [.int, .int, .object "MaypoleGreen$Tokens", .object "MaypoleGreen$Green", .object "MaypoleGreen$Feasts", .boolean, .boolean, .boolean, .int, .array .int]
def cP5 : List Nat := [299, 301, 303, 305, 307, 309, 311, 313, 315, 317]
theorem cn5 : ∀ a, a < 10 → ∀ b, b < 10 → a ≠ b → (cT5 a).2.1 ≠ (cT5 b).2.1 := by decide +kernel
theorem cy5 : ∀ k, k < 10 → parseFieldDescriptor (cT5 k).2.2.1 = some (cY5.getD k .int) := by decide +kernel
theorem cp5 : ∀ k, k < 10 → tables_1[cP5.getD k 0]? = some (u_lay cR5 cT5 k) ∧ goodWord (u_lay cR5 cT5 k) = true := by decide +kernel
theorem ci5 : ∀ w ∈ u_ws cR5 cT5 10, w ∈ aw_T := fun w hw => by
  obtain ⟨k, hk, rfl⟩ := List.mem_map.mp hw
  have h := cp5 k (List.mem_range.mp hk)
  exact aw_in _ h.1 h.2
def cR6 : String := "MaypoleGreen$Tokens"
def cF6 : List (String × String × String × Bool) := [("MaypoleGreen$Tokens", "faultKind", "I", false), ("MaypoleGreen$Tokens", "faultPlace", "I", false), ("MaypoleGreen$Tokens", "kind", "I", false), ("MaypoleGreen$Tokens", "word", "J", false), ("MaypoleGreen$Tokens", "number", "I", false), ("MaypoleGreen$Tokens", "sign", "I", false), ("MaypoleGreen$Tokens", "text", "[B", false), ("MaypoleGreen$Tokens", "length", "I", false), ("MaypoleGreen$Tokens", "start", "I", false), ("MaypoleGreen$Tokens", "at", "I", false), ("MaypoleGreen$Tokens", "reserved", "[J", true)]
def cT6 : u_T := fun k => cF6.getD k ("", "", "", false)
def cY6 : List FieldType := [.int, .int, .int, .long, .int, .int, .array .byte, .int, .int, .int, .array .long]
def cP6 : List Nat := [264, 266, 268, 270, 272, 274, 276, 278, 280, 282, 284]
theorem cn6 : ∀ a, a < 11 → ∀ b, b < 11 → a ≠ b → (cT6 a).2.1 ≠ (cT6 b).2.1 := by decide +kernel
theorem cy6 : ∀ k, k < 11 → parseFieldDescriptor (cT6 k).2.2.1 = some (cY6.getD k .int) := by decide +kernel
theorem cp6 : ∀ k, k < 11 → tables_1[cP6.getD k 0]? = some (u_lay cR6 cT6 k) ∧ goodWord (u_lay cR6 cT6 k) = true := by decide +kernel
theorem ci6 : ∀ w ∈ u_ws cR6 cT6 11, w ∈ aw_T := fun w hw => by
  obtain ⟨k, hk, rfl⟩ := List.mem_map.mp hw
  have h := cp6 k (List.mem_range.mp hk)
  exact aw_in _ h.1 h.2
def cR7 : String := "MaypoleGreen$Life"
def cF7 : List (String × String × String × Bool) := [("MaypoleGreen$Life", "steps", "I", false), ("MaypoleGreen$Life", "missed", "I", false), ("MaypoleGreen$Life", "left", "I", false), ("MaypoleGreen$Life", "green", "LMaypoleGreen$Green;", false), ("MaypoleGreen$Life", "feasts", "LMaypoleGreen$Feasts;", false), ("MaypoleGreen$Life", "drawn", "I", false), ("MaypoleGreen$Life", "halted", "Z", false)]
def cT7 : u_T := fun k => cF7.getD k ("", "", "", false)
def cY7 : List FieldType := [.int, .int, .int, .object "MaypoleGreen$Green", .object "MaypoleGreen$Feasts", .int, .boolean]
def cP7 : List Nat := [336, 338, 340, 342, 344, 346, 348]
theorem cn7 : ∀ a, a < 7 → ∀ b, b < 7 → a ≠ b → (cT7 a).2.1 ≠ (cT7 b).2.1 := by decide +kernel
theorem cy7 : ∀ k, k < 7 → parseFieldDescriptor (cT7 k).2.2.1 = some (cY7.getD k .int) := by decide +kernel
theorem cp7 : ∀ k, k < 7 → tables_1[cP7.getD k 0]? = some (u_lay cR7 cT7 k) ∧ goodWord (u_lay cR7 cT7 k) = true := by decide +kernel
theorem ci7 : ∀ w ∈ u_ws cR7 cT7 7, w ∈ aw_T := fun w hw => by
  obtain ⟨k, hk, rfl⟩ := List.mem_map.mp hw
  have h := cp7 k (List.mem_range.mp hk)
  exact aw_in _ h.1 h.2
def cR8 : String := "MaypoleGreen$Homing"
def cF8 : List (String × String × String × Bool) := [("MaypoleGreen$Homing", "standing", "[I", true), ("MaypoleGreen$Homing", "walks", "[I", true)]
def cT8 : u_T := fun k => cF8.getD k ("", "", "", false)
def cY8 : List FieldType := [.array .int, .array .int]
def cP8 : List Nat := [359, 361]
theorem cn8 : ∀ a, a < 2 → ∀ b, b < 2 → a ≠ b → (cT8 a).2.1 ≠ (cT8 b).2.1 := by decide +kernel
theorem cy8 : ∀ k, k < 2 → parseFieldDescriptor (cT8 k).2.2.1 = some (cY8.getD k .int) := by decide +kernel
theorem cp8 : ∀ k, k < 2 → tables_1[cP8.getD k 0]? = some (u_lay cR8 cT8 k) ∧ goodWord (u_lay cR8 cT8 k) = true := by decide +kernel
theorem ci8 : ∀ w ∈ u_ws cR8 cT8 2, w ∈ aw_T := fun w hw => by
  obtain ⟨k, hk, rfl⟩ := List.mem_map.mp hw
  have h := cp8 k (List.mem_range.mp hk)
  exact aw_in _ h.1 h.2
def cR9 : String := "MaypoleGreen$Outlook"
def cF9 : List (String × String × String × Bool) := [("MaypoleGreen$Outlook", "rows", "I", false), ("MaypoleGreen$Outlook", "first", "[I", true), ("MaypoleGreen$Outlook", "trial", "LMaypoleGreen$Green;", false), ("MaypoleGreen$Outlook", "gaps", "I", false), ("MaypoleGreen$Outlook", "path", "[I", true), ("MaypoleGreen$Outlook", "wanted", "[I", true), ("MaypoleGreen$Outlook", "shown", "[I", true), ("MaypoleGreen$Outlook", "rowsBy", "[I", true), ("MaypoleGreen$Outlook", "parted", "[I", true)]
def cT9 : u_T := fun k => cF9.getD k ("", "", "", false)
def cY9 : List FieldType := [.int, .array .int, .object "MaypoleGreen$Green", .int, .array .int, .array .int, .array .int, .array .int, .array .int]
def cP9 : List Nat := [381, 383, 385, 387, 389, 391, 393, 395, 397]
theorem cn9 : ∀ a, a < 9 → ∀ b, b < 9 → a ≠ b → (cT9 a).2.1 ≠ (cT9 b).2.1 := by decide +kernel
theorem cy9 : ∀ k, k < 9 → parseFieldDescriptor (cT9 k).2.2.1 = some (cY9.getD k .int) := by decide +kernel
theorem cp9 : ∀ k, k < 9 → tables_1[cP9.getD k 0]? = some (u_lay cR9 cT9 k) ∧ goodWord (u_lay cR9 cT9 k) = true := by decide +kernel
theorem ci9 : ∀ w ∈ u_ws cR9 cT9 9, w ∈ aw_T := fun w hw => by
  obtain ⟨k, hk, rfl⟩ := List.mem_map.mp hw
  have h := cp9 k (List.mem_range.mp hk)
  exact aw_in _ h.1 h.2
def cR10 : String := "MaypoleGreen$Chances"
def cF10 : List (String × String × String × Bool) := [("MaypoleGreen$Chances", "part", "J", false), ("MaypoleGreen$Chances", "whole", "J", false), ("MaypoleGreen$Chances", "ways", "[J", true), ("MaypoleGreen$Chances", "nextWays", "[J", true)]
def cT10 : u_T := fun k => cF10.getD k ("", "", "", false)
def cY10 : List FieldType := [.long, .long, .array .long, .array .long]
def cP10 : List Nat := [414, 416, 418, 420]
theorem cn10 : ∀ a, a < 4 → ∀ b, b < 4 → a ≠ b → (cT10 a).2.1 ≠ (cT10 b).2.1 := by decide +kernel
theorem cy10 : ∀ k, k < 4 → parseFieldDescriptor (cT10 k).2.2.1 = some (cY10.getD k .int) := by decide +kernel
theorem cp10 : ∀ k, k < 4 → tables_1[cP10.getD k 0]? = some (u_lay cR10 cT10 k) ∧ goodWord (u_lay cR10 cT10 k) = true := by decide +kernel
theorem ci10 : ∀ w ∈ u_ws cR10 cT10 4, w ∈ aw_T := fun w hw => by
  obtain ⟨k, hk, rfl⟩ := List.mem_map.mp hw
  have h := cp10 k (List.mem_range.mp hk)
  exact aw_in _ h.1 h.2
def cR11 : String := "MaypoleGreenModel"
def cF11 : List (String × String × String × Bool) := [("MaypoleGreenModel", "at", "[I", true), ("MaypoleGreenModel", "names", "[J", true), ("MaypoleGreenModel", "status", "I", false), ("MaypoleGreenModel", "top", "J", false), ("MaypoleGreenModel", "bottom", "J", false), ("MaypoleGreenModel", "sort", "[I", true), ("MaypoleGreenModel", "trayMany", "[I", true), ("MaypoleGreenModel", "trays", "[J", true), ("MaypoleGreenModel", "tape", "[B", true), ("MaypoleGreenModel", "text", "[B", true), ("MaypoleGreenModel", "taped", "I", false), ("MaypoleGreenModel", "size", "I", false), ("MaypoleGreenModel", "token", "I", false), ("MaypoleGreenModel", "from", "I", false), ("MaypoleGreenModel", "end", "I", false), ("MaypoleGreenModel", "value", "I", false), ("MaypoleGreenModel", "faultKind", "I", false), ("MaypoleGreenModel", "faultPlace", "I", false), ("MaypoleGreenModel", "faults", "I", false), ("MaypoleGreenModel", "seen", "I", false), ("MaypoleGreenModel", "toldParts", "I", false), ("MaypoleGreenModel", "opened", "[I", true), ("MaypoleGreenModel", "depth", "I", false), ("MaypoleGreenModel", "counted", "I", false), ("MaypoleGreenModel", "rowBy", "[I", true), ("MaypoleGreenModel", "heldBy", "[Z", true), ("MaypoleGreenModel", "wovenIn", "I", false), ("MaypoleGreenModel", "wovenOut", "I", false), ("MaypoleGreenModel", "homeBy", "[I", true), ("MaypoleGreenModel", "lookAt", "[I", true), ("MaypoleGreenModel", "order", "[I", true), ("MaypoleGreenModel", "danceGap", "[I", true), ("MaypoleGreenModel", "danceOver", "[I", true), ("MaypoleGreenModel", "danceMany", "I", false), ("MaypoleGreenModel", "hereBy", "[Z", true), ("MaypoleGreenModel", "thereBy", "[Z", true), ("MaypoleGreenModel", "triedAt", "[I", true), ("MaypoleGreenModel", "firstRow", "[I", true), ("MaypoleGreenModel", "showBy", "[I", true), ("MaypoleGreenModel", "rowMany", "I", false), ("MaypoleGreenModel", "gotAt", "[I", true), ("MaypoleGreenModel", "bestDeed", "[I", true), ("MaypoleGreenModel", "slipBy", "[J", true), ("MaypoleGreenModel", "driftBy", "[J", true), ("MaypoleGreenModel", "driftThen", "[J", true), ("MaypoleGreenModel", "drawn", "I", false), ("MaypoleGreenModel", "ranSteps", "I", false), ("MaypoleGreenModel", "loops", "[I", true), ("MaypoleGreenModel", "ran", "[I", true), ("MaypoleGreenModel", "told1", "[I", true), ("MaypoleGreenModel", "isTold", "Z", false), ("MaypoleGreenModel", "marks", "I", false)]
def cT11 : u_T := fun k => cF11.getD k ("", "", "", false)
def cY11 : List FieldType := [.array .int, .array .long, .int, .long, .long, .array .int, .array .int, .array .long, .array .byte, .array .byte, .int, .int, .int, .int, .int, .int, .int, .int, .int, .int, .int, .array .int, .int, .int, .array .int, .array .boolean, .int, .int, .array .int, .array .int, .array .int, .array .int, .array .int, .int, .array .boolean, .array .boolean, .array .int, .array .int, .array .int, .int, .array .int, .array .int, .array .long, .array .long, .array .long, .int, .int, .array .int, .array .int, .array .int, .boolean, .int]
def cP11 : List Nat := [1306, 1308, 1310, 1312, 1314, 1316, 1318, 1320, 1322, 1324, 1326, 1328, 1330, 1332, 1334, 1336, 1338, 1340, 1342, 1344, 1346, 1348, 1350, 1352, 1354, 1356, 1358, 1360, 1362, 1364, 1366, 1368, 1370, 1372, 1374, 1376, 1378, 1380, 1382, 1384, 1386, 1388, 1390, 1392, 1394, 1396, 1398, 1400, 1402, 1404, 1406, 1408]
theorem cn11 : ∀ a, a < 52 → ∀ b, b < 52 → a ≠ b → (cT11 a).2.1 ≠ (cT11 b).2.1 := by decide +kernel
theorem cy11 : ∀ k, k < 52 → parseFieldDescriptor (cT11 k).2.2.1 = some (cY11.getD k .int) := by decide +kernel
theorem cp11 : ∀ k, k < 52 → tables_1[cP11.getD k 0]? = some (u_lay cR11 cT11 k) ∧ goodWord (u_lay cR11 cT11 k) = true := by decide +kernel
theorem ci11 : ∀ w ∈ u_ws cR11 cT11 52, w ∈ aw_T := fun w hw => by
  obtain ⟨k, hk, rfl⟩ := List.mem_map.mp hw
  have h := cp11 k (List.mem_range.mp hk)
  exact aw_in _ h.1 h.2
abbrev aw_cl : List vw_C := [(cR0, cT0, 19), (cR1, cT1, 4), (cR2, cT2, 13), (cR3, cT3, 2), (cR4, cT4, 7), (cR5, cT5, 10), (cR6, cT6, 11), (cR7, cT7, 7), (cR8, cT8, 2), (cR9, cT9, 9), (cR10, cT10, 4), (cR11, cT11, 52)]
def aw_N (c : Nat) : Nat := [19, 4, 13, 2, 7, 10, 11, 7, 2, 9, 4, 52].getD c 0
def aw_Y (c : Nat) : List FieldType := [cY0, cY1, cY2, cY3, cY4, cY5, cY6, cY7, cY8, cY9, cY10, cY11].getD c []
def aw_ty (c j : Nat) : FieldType := (aw_Y c).getD j .int
