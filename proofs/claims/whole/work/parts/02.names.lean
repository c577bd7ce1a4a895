def TF0 : u_T := fun k => match k with
  | 0 => ("BrassYear", "tape", "[B", true)
  | 1 => ("BrassYear", "tapeLength", "I", false)
  | 2 => ("BrassYear", "reader", "LBrassYear$Reader;", true)
  | 3 => ("BrassYear", "told", "LBrassYear$Orrery;", false)
  | 4 => ("BrassYear", "draft", "LBrassYear$Orrery;", false)
  | 5 => ("BrassYear", "state", "[I", true)
  | 6 => ("BrassYear", "trial", "[I", true)
  | 7 => ("BrassYear", "trialSlips", "I", false)
  | 8 => ("BrassYear", "past", "LBrassYear$Past;", true)
  | 9 => ("BrassYear", "calendar", "LBrassYear$Calendar;", true)
  | 10 => ("BrassYear", "workOrder", "LBrassYear$WorkOrder;", true)
  | 11 => ("BrassYear", "suspicion", "LBrassYear$Suspicion;", true)
  | 12 => ("BrassYear", "game", "LBrassYear$Game;", true)
  | 13 => ("BrassYear", "chances", "LBrassYear$Chances;", true)
  | 14 => ("BrassYear", "lastFault", "I", false)
  | _ => ("BrassYear", "lastTrouble", "I", false)
def TY0 : Nat → FieldType := fun k => match k with
  | 0 => .array (.byte)
  | 1 => .int
  | 2 => .object "BrassYear$Reader"
  | 3 => .object "BrassYear$Orrery"
  | 4 => .object "BrassYear$Orrery"
  | 5 => .array (.int)
  | 6 => .array (.int)
  | 7 => .int
  | 8 => .object "BrassYear$Past"
  | 9 => .object "BrassYear$Calendar"
  | 10 => .object "BrassYear$WorkOrder"
  | 11 => .object "BrassYear$Suspicion"
  | 12 => .object "BrassYear$Game"
  | 13 => .object "BrassYear$Chances"
  | 14 => .int
  | _ => .int
def TF1 : u_T := fun k => match k with
  | 0 => ("BrassYear$Reader", "text", "[B", false)
  | 1 => ("BrassYear$Reader", "end", "I", false)
  | 2 => ("BrassYear$Reader", "draft", "LBrassYear$Orrery;", false)
  | 3 => ("BrassYear$Reader", "brassTold", "Z", false)
  | 4 => ("BrassYear$Reader", "fault", "I", false)
  | 5 => ("BrassYear$Reader", "place", "I", false)
  | 6 => ("BrassYear$Reader", "at", "I", false)
  | 7 => ("BrassYear$Reader", "behind", "I", false)
  | 8 => ("BrassYear$Reader", "token", "I", false)
  | 9 => ("BrassYear$Reader", "number", "I", false)
  | 10 => ("BrassYear$Reader", "word", "J", false)
  | 11 => ("BrassYear$Reader", "lastAt", "I", false)
  | 12 => ("BrassYear$Reader", "names", "I", false)
  | 13 => ("BrassYear$Reader", "nameWord", "[J", true)
  | 14 => ("BrassYear$Reader", "nameSort", "[I", true)
  | _ => ("BrassYear$Reader", "nameNumber", "[I", true)
def TY1 : Nat → FieldType := fun k => match k with
  | 0 => .array (.byte)
  | 1 => .int
  | 2 => .object "BrassYear$Orrery"
  | 3 => .boolean
  | 4 => .int
  | 5 => .int
  | 6 => .int
  | 7 => .int
  | 8 => .int
  | 9 => .int
  | 10 => .long
  | 11 => .int
  | 12 => .int
  | 13 => .array (.long)
  | 14 => .array (.int)
  | _ => .array (.int)
def TF2 : u_T := fun k => match k with
  | 0 => ("BrassYear$Orrery", "oilAtFirst", "I", false)
  | 1 => ("BrassYear$Orrery", "slipChance", "I", false)
  | 2 => ("BrassYear$Orrery", "wheelCount", "I", false)
  | 3 => ("BrassYear$Orrery", "wheels", "[LBrassYear$Wheel;", true)
  | 4 => ("BrassYear$Orrery", "feastCount", "I", false)
  | 5 => ("BrassYear$Orrery", "feastTeeth", "[I", true)
  | 6 => ("BrassYear$Orrery", "workCount", "I", false)
  | 7 => ("BrassYear$Orrery", "workDays", "[I", true)
  | 8 => ("BrassYear$Orrery", "workWorth", "[I", true)
  | 9 => ("BrassYear$Orrery", "workFeast", "[I", true)
  | 10 => ("BrassYear$Orrery", "skyEvery", "[I", true)
  | 11 => ("BrassYear$Orrery", "skyFrom", "[I", true)
  | 12 => ("BrassYear$Orrery", "suspect", "I", false)
  | 13 => ("BrassYear$Orrery", "seenCount", "I", false)
  | 14 => ("BrassYear$Orrery", "seenDay", "[I", true)
  | _ => ("BrassYear$Orrery", "seenJerked", "[Z", true)
def TY2 : Nat → FieldType := fun k => match k with
  | 0 => .int
  | 1 => .int
  | 2 => .int
  | 3 => .array (.object "BrassYear$Wheel")
  | 4 => .int
  | 5 => .array (.int)
  | 6 => .int
  | 7 => .array (.int)
  | 8 => .array (.int)
  | 9 => .array (.int)
  | 10 => .array (.int)
  | 11 => .array (.int)
  | 12 => .int
  | 13 => .int
  | 14 => .array (.int)
  | _ => .array (.boolean)
def TF3 : u_T := fun k => match k with
  | 0 => ("BrassYear$Wheel", "kind", "I", false)
  | 1 => ("BrassYear$Wheel", "teeth", "I", false)
  | 2 => ("BrassYear$Wheel", "by", "I", false)
  | 3 => ("BrassYear$Wheel", "first", "I", false)
  | 4 => ("BrassYear$Wheel", "goneCount", "I", false)
  | _ => ("BrassYear$Wheel", "gone", "J", false)
def TY3 : Nat → FieldType := fun k => match k with
  | 0 => .int
  | 1 => .int
  | 2 => .int
  | 3 => .int
  | 4 => .int
  | _ => .long
def TF4 : u_T := fun k => match k with
  | 0 => ("BrassYear$Past", "kept", "[I", true)
  | 1 => ("BrassYear$Past", "images", "[I", true)
  | 2 => ("BrassYear$Past", "keptCount", "I", false)
  | 3 => ("BrassYear$Past", "place", "I", false)
  | _ => ("BrassYear$Past", "imageCount", "I", false)
def TY4 : Nat → FieldType := fun k => match k with
  | 0 => .array (.int)
  | 1 => .array (.int)
  | 2 => .int
  | 3 => .int
  | _ => .int
def TF5 : u_T := fun k => match k with
  | 0 => ("BrassYear$Calendar", "courses", "[LBrassYear$Course;", true)
  | 1 => ("BrassYear$Calendar", "other", "LBrassYear$Wheel;", true)
  | 2 => ("BrassYear$Calendar", "reached", "[I", true)
  | 3 => ("BrassYear$Calendar", "leap", "[I", true)
  | 4 => ("BrassYear$Calendar", "spare", "[I", true)
  | 5 => ("BrassYear$Calendar", "orrery", "LBrassYear$Orrery;", false)
  | 6 => ("BrassYear$Calendar", "now", "[I", false)
  | 7 => ("BrassYear$Calendar", "bestBy", "I", false)
  | _ => ("BrassYear$Calendar", "bestByDays", "I", false)
def TY5 : Nat → FieldType := fun k => match k with
  | 0 => .array (.object "BrassYear$Course")
  | 1 => .object "BrassYear$Wheel"
  | 2 => .array (.int)
  | 3 => .array (.int)
  | 4 => .array (.int)
  | 5 => .object "BrassYear$Orrery"
  | 6 => .array (.int)
  | 7 => .int
  | _ => .int
def TF6 : u_T := fun k => match k with
  | 0 => ("BrassYear$Course", "teeth", "[I", true)
  | 1 => ("BrassYear$Course", "placeOf", "[I", true)
  | 2 => ("BrassYear$Course", "jerksBefore", "[I", true)
  | 3 => ("BrassYear$Course", "length", "I", false)
  | 4 => ("BrassYear$Course", "rejoin", "I", false)
  | 5 => ("BrassYear$Course", "kind", "I", false)
  | 6 => ("BrassYear$Course", "oilLeft", "I", false)
  | _ => ("BrassYear$Course", "early", "I", false)
def TY6 : Nat → FieldType := fun k => match k with
  | 0 => .array (.int)
  | 1 => .array (.int)
  | 2 => .array (.int)
  | 3 => .int
  | 4 => .int
  | 5 => .int
  | 6 => .int
  | _ => .int
def TF7 : u_T := fun k => match k with
  | 0 => ("BrassYear$WorkOrder", "due", "[I", true)
  | 1 => ("BrassYear$WorkOrder", "order", "[I", true)
  | 2 => ("BrassYear$WorkOrder", "best", "[I", true)
  | 3 => ("BrassYear$WorkOrder", "bestWorth", "I", false)
  | 4 => ("BrassYear$WorkOrder", "bestInTime", "I", false)
  | _ => ("BrassYear$WorkOrder", "orrery", "LBrassYear$Orrery;", false)
def TY7 : Nat → FieldType := fun k => match k with
  | 0 => .array (.int)
  | 1 => .array (.int)
  | 2 => .array (.int)
  | 3 => .int
  | 4 => .int
  | _ => .object "BrassYear$Orrery"
def TF8 : u_T := fun k => match k with
  | 0 => ("BrassYear$Suspicion", "guess", "LBrassYear$Wheel;", true)
  | 1 => ("BrassYear$Suspicion", "jerksEarly", "[J", true)
  | 2 => ("BrassYear$Suspicion", "jerksLate", "[J", true)
  | 3 => ("BrassYear$Suspicion", "fit", "[I", true)
  | 4 => ("BrassYear$Suspicion", "fitCount", "I", false)
  | 5 => ("BrassYear$Suspicion", "bestDay", "I", false)
  | 6 => ("BrassYear$Suspicion", "bestLeft", "I", false)
  | _ => ("BrassYear$Suspicion", "weighed", "Z", false)
def TY8 : Nat → FieldType := fun k => match k with
  | 0 => .object "BrassYear$Wheel"
  | 1 => .array (.long)
  | 2 => .array (.long)
  | 3 => .array (.int)
  | 4 => .int
  | 5 => .int
  | 6 => .int
  | _ => .boolean
def TF9 : u_T := fun k => match k with
  | 0 => ("BrassYear$Game", "rows", "[[I", true)
  | 1 => ("BrassYear$Game", "orrery", "LBrassYear$Orrery;", false)
  | 2 => ("BrassYear$Game", "feast", "I", false)
  | _ => ("BrassYear$Game", "firstMove", "I", false)
def TY9 : Nat → FieldType := fun k => match k with
  | 0 => .array (.array (.int))
  | 1 => .object "BrassYear$Orrery"
  | 2 => .int
  | _ => .int
def TF10 : u_T := fun k => match k with
  | 0 => ("BrassYear$Chances", "weights", "[J", false)
  | 1 => ("BrassYear$Chances", "coming", "[J", false)
  | 2 => ("BrassYear$Chances", "jerkWeight", "J", false)
  | _ => ("BrassYear$Chances", "whole", "J", false)
def TY10 : Nat → FieldType := fun k => match k with
  | 0 => .array (.long)
  | 1 => .array (.long)
  | 2 => .long
  | _ => .long
def TF11 : u_T := fun k => match k with
  | 0 => ("BrassYearModel", "thrown", "I", false)
  | 1 => ("BrassYearModel", "trouble", "I", false)
  | 2 => ("BrassYearModel", "where", "I", false)
  | 3 => ("BrassYearModel", "orrery", "LBrassYearModel$Orrery;", false)
  | 4 => ("BrassYearModel", "read", "LBrassYearModel$Orrery;", false)
  | 5 => ("BrassYearModel", "tape", "[B", true)
  | 6 => ("BrassYearModel", "taped", "I", false)
  | 7 => ("BrassYearModel", "size", "I", false)
  | 8 => ("BrassYearModel", "spot", "I", false)
  | 9 => ("BrassYearModel", "sort", "I", false)
  | 10 => ("BrassYearModel", "place", "I", false)
  | 11 => ("BrassYearModel", "number", "I", false)
  | 12 => ("BrassYearModel", "fault", "I", false)
  | 13 => ("BrassYearModel", "wrongAt", "I", false)
  | 14 => ("BrassYearModel", "word", "J", false)
  | 15 => ("BrassYearModel", "v", "[I", true)
  | 16 => ("BrassYearModel", "x", "[I", true)
  | 17 => ("BrassYearModel", "past", "[I", true)
  | 18 => ("BrassYearModel", "kept", "[I", true)
  | 19 => ("BrassYearModel", "acts", "I", false)
  | 20 => ("BrassYearModel", "images", "I", false)
  | 21 => ("BrassYearModel", "jerks", "Z", false)
  | 22 => ("BrassYearModel", "met", "[I", true)
  | 23 => ("BrassYearModel", "byNow", "I", false)
  | 24 => ("BrassYearModel", "order", "[I", true)
  | 25 => ("BrassYearModel", "bestOrder", "[I", true)
  | 26 => ("BrassYearModel", "due", "[I", true)
  | 27 => ("BrassYearModel", "inTimeNow", "I", false)
  | 28 => ("BrassYearModel", "jerkedOn", "[I", true)
  | 29 => ("BrassYearModel", "counts", "[I", true)
  | 30 => ("BrassYearModel", "fitsNow", "I", false)
  | 31 => ("BrassYearModel", "lookLeft", "I", false)
  | 32 => ("BrassYearModel", "leaf", "[I", true)
  | 33 => ("BrassYearModel", "move", "[I", true)
  | 34 => ("BrassYearModel", "jerksNow", "I", false)
  | _ => ("BrassYearModel", "slipsNow", "I", false)
def TY11 : Nat → FieldType := fun k => match k with
  | 0 => .int
  | 1 => .int
  | 2 => .int
  | 3 => .object "BrassYearModel$Orrery"
  | 4 => .object "BrassYearModel$Orrery"
  | 5 => .array (.byte)
  | 6 => .int
  | 7 => .int
  | 8 => .int
  | 9 => .int
  | 10 => .int
  | 11 => .int
  | 12 => .int
  | 13 => .int
  | 14 => .long
  | 15 => .array (.int)
  | 16 => .array (.int)
  | 17 => .array (.int)
  | 18 => .array (.int)
  | 19 => .int
  | 20 => .int
  | 21 => .boolean
  | 22 => .array (.int)
  | 23 => .int
  | 24 => .array (.int)
  | 25 => .array (.int)
  | 26 => .array (.int)
  | 27 => .int
  | 28 => .array (.int)
  | 29 => .array (.int)
  | 30 => .int
  | 31 => .int
  | 32 => .array (.int)
  | 33 => .array (.int)
  | 34 => .int
  | _ => .int
def TF12 : u_T := fun k => match k with
  | 0 => ("BrassYearModel$Orrery", "oil", "I", false)
  | 1 => ("BrassYearModel$Orrery", "slips", "I", false)
  | 2 => ("BrassYearModel$Orrery", "wheels", "I", false)
  | 3 => ("BrassYearModel$Orrery", "gones", "I", false)
  | 4 => ("BrassYearModel$Orrery", "feasts", "I", false)
  | 5 => ("BrassYearModel$Orrery", "works", "I", false)
  | 6 => ("BrassYearModel$Orrery", "skies", "I", false)
  | 7 => ("BrassYearModel$Orrery", "suspect", "I", false)
  | 8 => ("BrassYearModel$Orrery", "seen", "I", false)
  | 9 => ("BrassYearModel$Orrery", "names", "I", false)
  | 10 => ("BrassYearModel$Orrery", "kind", "[I", true)
  | 11 => ("BrassYearModel$Orrery", "teeth", "[I", true)
  | 12 => ("BrassYearModel$Orrery", "by", "[I", true)
  | 13 => ("BrassYearModel$Orrery", "at", "[I", true)
  | 14 => ("BrassYearModel$Orrery", "gone", "[J", true)
  | 15 => ("BrassYearModel$Orrery", "feast", "[I", true)
  | 16 => ("BrassYearModel$Orrery", "of", "[I", true)
  | 17 => ("BrassYearModel$Orrery", "every", "[I", true)
  | 18 => ("BrassYearModel$Orrery", "from", "[I", true)
  | 19 => ("BrassYearModel$Orrery", "takes", "[I", true)
  | 20 => ("BrassYearModel$Orrery", "worth", "[I", true)
  | 21 => ("BrassYearModel$Orrery", "till", "[I", true)
  | 22 => ("BrassYearModel$Orrery", "seenDay", "[I", true)
  | 23 => ("BrassYearModel$Orrery", "jerked", "[I", true)
  | 24 => ("BrassYearModel$Orrery", "name", "[J", true)
  | 25 => ("BrassYearModel$Orrery", "nameSort", "[I", true)
  | _ => ("BrassYearModel$Orrery", "numberOf", "[I", true)
def TY12 : Nat → FieldType := fun k => match k with
  | 0 => .int
  | 1 => .int
  | 2 => .int
  | 3 => .int
  | 4 => .int
  | 5 => .int
  | 6 => .int
  | 7 => .int
  | 8 => .int
  | 9 => .int
  | 10 => .array (.int)
  | 11 => .array (.int)
  | 12 => .array (.int)
  | 13 => .array (.int)
  | 14 => .array (.long)
  | 15 => .array (.int)
  | 16 => .array (.int)
  | 17 => .array (.int)
  | 18 => .array (.int)
  | 19 => .array (.int)
  | 20 => .array (.int)
  | 21 => .array (.int)
  | 22 => .array (.int)
  | 23 => .array (.int)
  | 24 => .array (.long)
  | 25 => .array (.int)
  | _ => .array (.int)
def classes : List vw_C := [("BrassYear", TF0, 16), ("BrassYear$Reader", TF1, 16), ("BrassYear$Orrery", TF2, 16), ("BrassYear$Wheel", TF3, 6), ("BrassYear$Past", TF4, 5), ("BrassYear$Calendar", TF5, 9), ("BrassYear$Course", TF6, 8), ("BrassYear$WorkOrder", TF7, 6), ("BrassYear$Suspicion", TF8, 8), ("BrassYear$Game", TF9, 4), ("BrassYear$Chances", TF10, 4), ("BrassYearModel", TF11, 36), ("BrassYearModel$Orrery", TF12, 27)]
def cTY : List (Nat → FieldType) := [TY0, TY1, TY2, TY3, TY4, TY5, TY6, TY7, TY8, TY9, TY10, TY11, TY12]
def kds : List (List Nat) := [[2, 0, 2, 2, 2, 2, 2, 0, 2, 2, 2, 2, 2, 2, 0, 0], [2, 0, 2, 0, 0, 0, 0, 0, 0, 0, 1, 0, 0, 2, 2, 2], [0, 0, 0, 2, 0, 2, 0, 2, 2, 2, 2, 2, 0, 0, 2, 2], [0, 0, 0, 0, 0, 1], [2, 2, 0, 0, 0], [2, 2, 2, 2, 2, 2, 2, 0, 0], [2, 2, 2, 0, 0, 0, 0, 0], [2, 2, 2, 0, 0, 2], [2, 2, 2, 2, 0, 0, 0, 0], [2, 2, 0, 0], [2, 2, 1, 1], [0, 0, 0, 2, 2, 2, 0, 0, 0, 0, 0, 0, 0, 0, 1, 2, 2, 2, 2, 0, 0, 0, 2, 0, 2, 2, 2, 0, 2, 2, 0, 0, 2, 2, 0, 0], [0, 0, 0, 0, 0, 0, 0, 0, 0, 0, 2, 2, 2, 2, 2, 2, 2, 2, 2, 2, 2, 2, 2, 2, 2, 2, 2]]
def kd (c k : Nat) : Nat := (kds.getD c []).getD k 0
def aTy : List FieldType := [.int, .long, .byte, .boolean, .object "BrassYear$Wheel", .object "BrassYear$Course", .array .int]
set_option maxRecDepth 20000 in
theorem cl_in0 : ∀ w ∈ u_ws "BrassYear" TF0 16, w ∈ lw_tbl := by
  have h : ∀ k, k < 16 → u_lay "BrassYear" TF0 k ∈ lw_tbl := by
    intro k hk
    match k, hk with
    | 0, _ => exact List.mem_of_getElem? (i := 573) (by decide +kernel)
    | 1, _ => exact List.mem_of_getElem? (i := 575) (by decide +kernel)
    | 2, _ => exact List.mem_of_getElem? (i := 577) (by decide +kernel)
    | 3, _ => exact List.mem_of_getElem? (i := 579) (by decide +kernel)
    | 4, _ => exact List.mem_of_getElem? (i := 581) (by decide +kernel)
    | 5, _ => exact List.mem_of_getElem? (i := 583) (by decide +kernel)
    | 6, _ => exact List.mem_of_getElem? (i := 585) (by decide +kernel)
    | 7, _ => exact List.mem_of_getElem? (i := 587) (by decide +kernel)
    | 8, _ => exact List.mem_of_getElem? (i := 589) (by decide +kernel)
    | 9, _ => exact List.mem_of_getElem? (i := 591) (by decide +kernel)
    | 10, _ => exact List.mem_of_getElem? (i := 593) (by decide +kernel)
    | 11, _ => exact List.mem_of_getElem? (i := 595) (by decide +kernel)
    | 12, _ => exact List.mem_of_getElem? (i := 597) (by decide +kernel)
    | 13, _ => exact List.mem_of_getElem? (i := 599) (by decide +kernel)
    | 14, _ => exact List.mem_of_getElem? (i := 601) (by decide +kernel)
    | 15, _ => exact List.mem_of_getElem? (i := 603) (by decide +kernel)
    | k + 16, hk => exact absurd hk (by omega)
  intro w hw
  obtain ⟨k, hk, rfl⟩ := List.mem_map.mp hw
  exact h k (List.mem_range.mp hk)
theorem cl_ty0 : ∀ k, k < 16 → parseFieldDescriptor (TF0 k).2.2.1 = some (TY0 k) := by decide +kernel
theorem cl_nm0 : ∀ a, a < 16 → ∀ b, b < 16 → a ≠ b → (TF0 a).2.1 ≠ (TF0 b).2.1 := by decide +kernel
set_option maxRecDepth 20000 in
theorem cl_in1 : ∀ w ∈ u_ws "BrassYear$Reader" TF1 16, w ∈ lw_tbl := by
  have h : ∀ k, k < 16 → u_lay "BrassYear$Reader" TF1 k ∈ lw_tbl := by
    intro k hk
    match k, hk with
    | 0, _ => exact List.mem_of_getElem? (i := 179) (by decide +kernel)
    | 1, _ => exact List.mem_of_getElem? (i := 181) (by decide +kernel)
    | 2, _ => exact List.mem_of_getElem? (i := 183) (by decide +kernel)
    | 3, _ => exact List.mem_of_getElem? (i := 185) (by decide +kernel)
    | 4, _ => exact List.mem_of_getElem? (i := 187) (by decide +kernel)
    | 5, _ => exact List.mem_of_getElem? (i := 189) (by decide +kernel)
    | 6, _ => exact List.mem_of_getElem? (i := 191) (by decide +kernel)
    | 7, _ => exact List.mem_of_getElem? (i := 193) (by decide +kernel)
    | 8, _ => exact List.mem_of_getElem? (i := 195) (by decide +kernel)
    | 9, _ => exact List.mem_of_getElem? (i := 197) (by decide +kernel)
    | 10, _ => exact List.mem_of_getElem? (i := 199) (by decide +kernel)
    | 11, _ => exact List.mem_of_getElem? (i := 201) (by decide +kernel)
    | 12, _ => exact List.mem_of_getElem? (i := 203) (by decide +kernel)
    | 13, _ => exact List.mem_of_getElem? (i := 205) (by decide +kernel)
    | 14, _ => exact List.mem_of_getElem? (i := 207) (by decide +kernel)
    | 15, _ => exact List.mem_of_getElem? (i := 209) (by decide +kernel)
    | k + 16, hk => exact absurd hk (by omega)
  intro w hw
  obtain ⟨k, hk, rfl⟩ := List.mem_map.mp hw
  exact h k (List.mem_range.mp hk)
theorem cl_ty1 : ∀ k, k < 16 → parseFieldDescriptor (TF1 k).2.2.1 = some (TY1 k) := by decide +kernel
theorem cl_nm1 : ∀ a, a < 16 → ∀ b, b < 16 → a ≠ b → (TF1 a).2.1 ≠ (TF1 b).2.1 := by decide +kernel
set_option maxRecDepth 20000 in
theorem cl_in2 : ∀ w ∈ u_ws "BrassYear$Orrery" TF2 16, w ∈ lw_tbl := by
  have h : ∀ k, k < 16 → u_lay "BrassYear$Orrery" TF2 k ∈ lw_tbl := by
    intro k hk
    match k, hk with
    | 0, _ => exact List.mem_of_getElem? (i := 322) (by decide +kernel)
    | 1, _ => exact List.mem_of_getElem? (i := 324) (by decide +kernel)
    | 2, _ => exact List.mem_of_getElem? (i := 326) (by decide +kernel)
    | 3, _ => exact List.mem_of_getElem? (i := 328) (by decide +kernel)
    | 4, _ => exact List.mem_of_getElem? (i := 330) (by decide +kernel)
    | 5, _ => exact List.mem_of_getElem? (i := 332) (by decide +kernel)
    | 6, _ => exact List.mem_of_getElem? (i := 334) (by decide +kernel)
    | 7, _ => exact List.mem_of_getElem? (i := 336) (by decide +kernel)
    | 8, _ => exact List.mem_of_getElem? (i := 338) (by decide +kernel)
    | 9, _ => exact List.mem_of_getElem? (i := 340) (by decide +kernel)
    | 10, _ => exact List.mem_of_getElem? (i := 342) (by decide +kernel)
    | 11, _ => exact List.mem_of_getElem? (i := 344) (by decide +kernel)
    | 12, _ => exact List.mem_of_getElem? (i := 346) (by decide +kernel)
    | 13, _ => exact List.mem_of_getElem? (i := 348) (by decide +kernel)
    | 14, _ => exact List.mem_of_getElem? (i := 350) (by decide +kernel)
    | 15, _ => exact List.mem_of_getElem? (i := 352) (by decide +kernel)
    | k + 16, hk => exact absurd hk (by omega)
  intro w hw
  obtain ⟨k, hk, rfl⟩ := List.mem_map.mp hw
  exact h k (List.mem_range.mp hk)
theorem cl_ty2 : ∀ k, k < 16 → parseFieldDescriptor (TF2 k).2.2.1 = some (TY2 k) := by decide +kernel
theorem cl_nm2 : ∀ a, a < 16 → ∀ b, b < 16 → a ≠ b → (TF2 a).2.1 ≠ (TF2 b).2.1 := by decide +kernel
set_option maxRecDepth 20000 in
theorem cl_in3 : ∀ w ∈ u_ws "BrassYear$Wheel" TF3 6, w ∈ lw_tbl := by
  have h : ∀ k, k < 6 → u_lay "BrassYear$Wheel" TF3 k ∈ lw_tbl := by
    intro k hk
    match k, hk with
    | 0, _ => exact List.mem_of_getElem? (i := 252) (by decide +kernel)
    | 1, _ => exact List.mem_of_getElem? (i := 254) (by decide +kernel)
    | 2, _ => exact List.mem_of_getElem? (i := 256) (by decide +kernel)
    | 3, _ => exact List.mem_of_getElem? (i := 258) (by decide +kernel)
    | 4, _ => exact List.mem_of_getElem? (i := 260) (by decide +kernel)
    | 5, _ => exact List.mem_of_getElem? (i := 262) (by decide +kernel)
    | k + 6, hk => exact absurd hk (by omega)
  intro w hw
  obtain ⟨k, hk, rfl⟩ := List.mem_map.mp hw
  exact h k (List.mem_range.mp hk)
theorem cl_ty3 : ∀ k, k < 6 → parseFieldDescriptor (TF3 k).2.2.1 = some (TY3 k) := by decide +kernel
theorem cl_nm3 : ∀ a, a < 6 → ∀ b, b < 6 → a ≠ b → (TF3 a).2.1 ≠ (TF3 b).2.1 := by decide +kernel
set_option maxRecDepth 20000 in
theorem cl_in4 : ∀ w ∈ u_ws "BrassYear$Past" TF4 5, w ∈ lw_tbl := by
  have h : ∀ k, k < 5 → u_lay "BrassYear$Past" TF4 k ∈ lw_tbl := by
    intro k hk
    match k, hk with
    | 0, _ => exact List.mem_of_getElem? (i := 368) (by decide +kernel)
    | 1, _ => exact List.mem_of_getElem? (i := 370) (by decide +kernel)
    | 2, _ => exact List.mem_of_getElem? (i := 372) (by decide +kernel)
    | 3, _ => exact List.mem_of_getElem? (i := 374) (by decide +kernel)
    | 4, _ => exact List.mem_of_getElem? (i := 376) (by decide +kernel)
    | k + 5, hk => exact absurd hk (by omega)
  intro w hw
  obtain ⟨k, hk, rfl⟩ := List.mem_map.mp hw
  exact h k (List.mem_range.mp hk)
theorem cl_ty4 : ∀ k, k < 5 → parseFieldDescriptor (TF4 k).2.2.1 = some (TY4 k) := by decide +kernel
theorem cl_nm4 : ∀ a, a < 5 → ∀ b, b < 5 → a ≠ b → (TF4 a).2.1 ≠ (TF4 b).2.1 := by decide +kernel
set_option maxRecDepth 20000 in
theorem cl_in5 : ∀ w ∈ u_ws "BrassYear$Calendar" TF5 9, w ∈ lw_tbl := by
  have h : ∀ k, k < 9 → u_lay "BrassYear$Calendar" TF5 k ∈ lw_tbl := by
    intro k hk
    match k, hk with
    | 0, _ => exact List.mem_of_getElem? (i := 430) (by decide +kernel)
    | 1, _ => exact List.mem_of_getElem? (i := 432) (by decide +kernel)
    | 2, _ => exact List.mem_of_getElem? (i := 434) (by decide +kernel)
    | 3, _ => exact List.mem_of_getElem? (i := 436) (by decide +kernel)
    | 4, _ => exact List.mem_of_getElem? (i := 438) (by decide +kernel)
    | 5, _ => exact List.mem_of_getElem? (i := 440) (by decide +kernel)
    | 6, _ => exact List.mem_of_getElem? (i := 442) (by decide +kernel)
    | 7, _ => exact List.mem_of_getElem? (i := 444) (by decide +kernel)
    | 8, _ => exact List.mem_of_getElem? (i := 446) (by decide +kernel)
    | k + 9, hk => exact absurd hk (by omega)
  intro w hw
  obtain ⟨k, hk, rfl⟩ := List.mem_map.mp hw
  exact h k (List.mem_range.mp hk)
theorem cl_ty5 : ∀ k, k < 9 → parseFieldDescriptor (TF5 k).2.2.1 = some (TY5 k) := by decide +kernel
theorem cl_nm5 : ∀ a, a < 9 → ∀ b, b < 9 → a ≠ b → (TF5 a).2.1 ≠ (TF5 b).2.1 := by decide +kernel
set_option maxRecDepth 20000 in
theorem cl_in6 : ∀ w ∈ u_ws "BrassYear$Course" TF6 8, w ∈ lw_tbl := by
  have h : ∀ k, k < 8 → u_lay "BrassYear$Course" TF6 k ∈ lw_tbl := by
    intro k hk
    match k, hk with
    | 0, _ => exact List.mem_of_getElem? (i := 402) (by decide +kernel)
    | 1, _ => exact List.mem_of_getElem? (i := 404) (by decide +kernel)
    | 2, _ => exact List.mem_of_getElem? (i := 406) (by decide +kernel)
    | 3, _ => exact List.mem_of_getElem? (i := 408) (by decide +kernel)
    | 4, _ => exact List.mem_of_getElem? (i := 410) (by decide +kernel)
    | 5, _ => exact List.mem_of_getElem? (i := 412) (by decide +kernel)
    | 6, _ => exact List.mem_of_getElem? (i := 414) (by decide +kernel)
    | 7, _ => exact List.mem_of_getElem? (i := 416) (by decide +kernel)
    | k + 8, hk => exact absurd hk (by omega)
  intro w hw
  obtain ⟨k, hk, rfl⟩ := List.mem_map.mp hw
  exact h k (List.mem_range.mp hk)
theorem cl_ty6 : ∀ k, k < 8 → parseFieldDescriptor (TF6 k).2.2.1 = some (TY6 k) := by decide +kernel
theorem cl_nm6 : ∀ a, a < 8 → ∀ b, b < 8 → a ≠ b → (TF6 a).2.1 ≠ (TF6 b).2.1 := by decide +kernel
set_option maxRecDepth 20000 in
theorem cl_in7 : ∀ w ∈ u_ws "BrassYear$WorkOrder" TF7 6, w ∈ lw_tbl := by
  have h : ∀ k, k < 6 → u_lay "BrassYear$WorkOrder" TF7 k ∈ lw_tbl := by
    intro k hk
    match k, hk with
    | 0, _ => exact List.mem_of_getElem? (i := 464) (by decide +kernel)
    | 1, _ => exact List.mem_of_getElem? (i := 466) (by decide +kernel)
    | 2, _ => exact List.mem_of_getElem? (i := 468) (by decide +kernel)
    | 3, _ => exact List.mem_of_getElem? (i := 470) (by decide +kernel)
    | 4, _ => exact List.mem_of_getElem? (i := 472) (by decide +kernel)
    | 5, _ => exact List.mem_of_getElem? (i := 474) (by decide +kernel)
    | k + 6, hk => exact absurd hk (by omega)
  intro w hw
  obtain ⟨k, hk, rfl⟩ := List.mem_map.mp hw
  exact h k (List.mem_range.mp hk)
theorem cl_ty7 : ∀ k, k < 6 → parseFieldDescriptor (TF7 k).2.2.1 = some (TY7 k) := by decide +kernel
theorem cl_nm7 : ∀ a, a < 6 → ∀ b, b < 6 → a ≠ b → (TF7 a).2.1 ≠ (TF7 b).2.1 := by decide +kernel
set_option maxRecDepth 20000 in
theorem cl_in8 : ∀ w ∈ u_ws "BrassYear$Suspicion" TF8 8, w ∈ lw_tbl := by
  have h : ∀ k, k < 8 → u_lay "BrassYear$Suspicion" TF8 k ∈ lw_tbl := by
    intro k hk
    match k, hk with
    | 0, _ => exact List.mem_of_getElem? (i := 497) (by decide +kernel)
    | 1, _ => exact List.mem_of_getElem? (i := 499) (by decide +kernel)
    | 2, _ => exact List.mem_of_getElem? (i := 501) (by decide +kernel)
    | 3, _ => exact List.mem_of_getElem? (i := 503) (by decide +kernel)
    | 4, _ => exact List.mem_of_getElem? (i := 505) (by decide +kernel)
    | 5, _ => exact List.mem_of_getElem? (i := 507) (by decide +kernel)
    | 6, _ => exact List.mem_of_getElem? (i := 509) (by decide +kernel)
    | 7, _ => exact List.mem_of_getElem? (i := 511) (by decide +kernel)
    | k + 8, hk => exact absurd hk (by omega)
  intro w hw
  obtain ⟨k, hk, rfl⟩ := List.mem_map.mp hw
  exact h k (List.mem_range.mp hk)
theorem cl_ty8 : ∀ k, k < 8 → parseFieldDescriptor (TF8 k).2.2.1 = some (TY8 k) := by decide +kernel
theorem cl_nm8 : ∀ a, a < 8 → ∀ b, b < 8 → a ≠ b → (TF8 a).2.1 ≠ (TF8 b).2.1 := by decide +kernel
set_option maxRecDepth 20000 in
theorem cl_in9 : ∀ w ∈ u_ws "BrassYear$Game" TF9 4, w ∈ lw_tbl := by
  have h : ∀ k, k < 4 → u_lay "BrassYear$Game" TF9 k ∈ lw_tbl := by
    intro k hk
    match k, hk with
    | 0, _ => exact List.mem_of_getElem? (i := 527) (by decide +kernel)
    | 1, _ => exact List.mem_of_getElem? (i := 529) (by decide +kernel)
    | 2, _ => exact List.mem_of_getElem? (i := 531) (by decide +kernel)
    | 3, _ => exact List.mem_of_getElem? (i := 533) (by decide +kernel)
    | k + 4, hk => exact absurd hk (by omega)
  intro w hw
  obtain ⟨k, hk, rfl⟩ := List.mem_map.mp hw
  exact h k (List.mem_range.mp hk)
theorem cl_ty9 : ∀ k, k < 4 → parseFieldDescriptor (TF9 k).2.2.1 = some (TY9 k) := by decide +kernel
theorem cl_nm9 : ∀ a, a < 4 → ∀ b, b < 4 → a ≠ b → (TF9 a).2.1 ≠ (TF9 b).2.1 := by decide +kernel
set_option maxRecDepth 20000 in
theorem cl_in10 : ∀ w ∈ u_ws "BrassYear$Chances" TF10 4, w ∈ lw_tbl := by
  have h : ∀ k, k < 4 → u_lay "BrassYear$Chances" TF10 k ∈ lw_tbl := by
    intro k hk
    match k, hk with
    | 0, _ => exact List.mem_of_getElem? (i := 548) (by decide +kernel)
    | 1, _ => exact List.mem_of_getElem? (i := 550) (by decide +kernel)
    | 2, _ => exact List.mem_of_getElem? (i := 552) (by decide +kernel)
    | 3, _ => exact List.mem_of_getElem? (i := 554) (by decide +kernel)
    | k + 4, hk => exact absurd hk (by omega)
  intro w hw
  obtain ⟨k, hk, rfl⟩ := List.mem_map.mp hw
  exact h k (List.mem_range.mp hk)
theorem cl_ty10 : ∀ k, k < 4 → parseFieldDescriptor (TF10 k).2.2.1 = some (TY10 k) := by decide +kernel
theorem cl_nm10 : ∀ a, a < 4 → ∀ b, b < 4 → a ≠ b → (TF10 a).2.1 ≠ (TF10 b).2.1 := by decide +kernel
set_option maxRecDepth 20000 in
theorem cl_in11 : ∀ w ∈ u_ws "BrassYearModel" TF11 36, w ∈ lw_tbl := by
  have h : ∀ k, k < 36 → u_lay "BrassYearModel" TF11 k ∈ lw_tbl := by
    intro k hk
    match k, hk with
    | 0, _ => exact List.mem_of_getElem? (i := 1436) (by decide +kernel)
    | 1, _ => exact List.mem_of_getElem? (i := 1438) (by decide +kernel)
    | 2, _ => exact List.mem_of_getElem? (i := 1440) (by decide +kernel)
    | 3, _ => exact List.mem_of_getElem? (i := 1442) (by decide +kernel)
    | 4, _ => exact List.mem_of_getElem? (i := 1444) (by decide +kernel)
    | 5, _ => exact List.mem_of_getElem? (i := 1446) (by decide +kernel)
    | 6, _ => exact List.mem_of_getElem? (i := 1448) (by decide +kernel)
    | 7, _ => exact List.mem_of_getElem? (i := 1450) (by decide +kernel)
    | 8, _ => exact List.mem_of_getElem? (i := 1452) (by decide +kernel)
    | 9, _ => exact List.mem_of_getElem? (i := 1454) (by decide +kernel)
    | 10, _ => exact List.mem_of_getElem? (i := 1456) (by decide +kernel)
    | 11, _ => exact List.mem_of_getElem? (i := 1458) (by decide +kernel)
    | 12, _ => exact List.mem_of_getElem? (i := 1460) (by decide +kernel)
    | 13, _ => exact List.mem_of_getElem? (i := 1462) (by decide +kernel)
    | 14, _ => exact List.mem_of_getElem? (i := 1464) (by decide +kernel)
    | 15, _ => exact List.mem_of_getElem? (i := 1466) (by decide +kernel)
    | 16, _ => exact List.mem_of_getElem? (i := 1468) (by decide +kernel)
    | 17, _ => exact List.mem_of_getElem? (i := 1470) (by decide +kernel)
    | 18, _ => exact List.mem_of_getElem? (i := 1472) (by decide +kernel)
    | 19, _ => exact List.mem_of_getElem? (i := 1474) (by decide +kernel)
    | 20, _ => exact List.mem_of_getElem? (i := 1476) (by decide +kernel)
    | 21, _ => exact List.mem_of_getElem? (i := 1478) (by decide +kernel)
    | 22, _ => exact List.mem_of_getElem? (i := 1480) (by decide +kernel)
    | 23, _ => exact List.mem_of_getElem? (i := 1482) (by decide +kernel)
    | 24, _ => exact List.mem_of_getElem? (i := 1484) (by decide +kernel)
    | 25, _ => exact List.mem_of_getElem? (i := 1486) (by decide +kernel)
    | 26, _ => exact List.mem_of_getElem? (i := 1488) (by decide +kernel)
    | 27, _ => exact List.mem_of_getElem? (i := 1490) (by decide +kernel)
    | 28, _ => exact List.mem_of_getElem? (i := 1492) (by decide +kernel)
    | 29, _ => exact List.mem_of_getElem? (i := 1494) (by decide +kernel)
    | 30, _ => exact List.mem_of_getElem? (i := 1496) (by decide +kernel)
    | 31, _ => exact List.mem_of_getElem? (i := 1498) (by decide +kernel)
    | 32, _ => exact List.mem_of_getElem? (i := 1500) (by decide +kernel)
    | 33, _ => exact List.mem_of_getElem? (i := 1502) (by decide +kernel)
    | 34, _ => exact List.mem_of_getElem? (i := 1504) (by decide +kernel)
    | 35, _ => exact List.mem_of_getElem? (i := 1506) (by decide +kernel)
    | k + 36, hk => exact absurd hk (by omega)
  intro w hw
  obtain ⟨k, hk, rfl⟩ := List.mem_map.mp hw
  exact h k (List.mem_range.mp hk)
theorem cl_ty11 : ∀ k, k < 36 → parseFieldDescriptor (TF11 k).2.2.1 = some (TY11 k) := by decide +kernel
theorem cl_nm11 : ∀ a, a < 36 → ∀ b, b < 36 → a ≠ b → (TF11 a).2.1 ≠ (TF11 b).2.1 := by decide +kernel
set_option maxRecDepth 20000 in
theorem cl_in12 : ∀ w ∈ u_ws "BrassYearModel$Orrery" TF12 27, w ∈ lw_tbl := by
  have h : ∀ k, k < 27 → u_lay "BrassYearModel$Orrery" TF12 k ∈ lw_tbl := by
    intro k hk
    match k, hk with
    | 0, _ => exact List.mem_of_getElem? (i := 1579) (by decide +kernel)
    | 1, _ => exact List.mem_of_getElem? (i := 1581) (by decide +kernel)
    | 2, _ => exact List.mem_of_getElem? (i := 1583) (by decide +kernel)
    | 3, _ => exact List.mem_of_getElem? (i := 1585) (by decide +kernel)
    | 4, _ => exact List.mem_of_getElem? (i := 1587) (by decide +kernel)
    | 5, _ => exact List.mem_of_getElem? (i := 1589) (by decide +kernel)
    | 6, _ => exact List.mem_of_getElem? (i := 1591) (by decide +kernel)
    | 7, _ => exact List.mem_of_getElem? (i := 1593) (by decide +kernel)
    | 8, _ => exact List.mem_of_getElem? (i := 1595) (by decide +kernel)
    | 9, _ => exact List.mem_of_getElem? (i := 1597) (by decide +kernel)
    | 10, _ => exact List.mem_of_getElem? (i := 1599) (by decide +kernel)
    | 11, _ => exact List.mem_of_getElem? (i := 1601) (by decide +kernel)
    | 12, _ => exact List.mem_of_getElem? (i := 1603) (by decide +kernel)
    | 13, _ => exact List.mem_of_getElem? (i := 1605) (by decide +kernel)
    | 14, _ => exact List.mem_of_getElem? (i := 1607) (by decide +kernel)
    | 15, _ => exact List.mem_of_getElem? (i := 1609) (by decide +kernel)
    | 16, _ => exact List.mem_of_getElem? (i := 1611) (by decide +kernel)
    | 17, _ => exact List.mem_of_getElem? (i := 1613) (by decide +kernel)
    | 18, _ => exact List.mem_of_getElem? (i := 1615) (by decide +kernel)
    | 19, _ => exact List.mem_of_getElem? (i := 1617) (by decide +kernel)
    | 20, _ => exact List.mem_of_getElem? (i := 1619) (by decide +kernel)
    | 21, _ => exact List.mem_of_getElem? (i := 1621) (by decide +kernel)
    | 22, _ => exact List.mem_of_getElem? (i := 1623) (by decide +kernel)
    | 23, _ => exact List.mem_of_getElem? (i := 1625) (by decide +kernel)
    | 24, _ => exact List.mem_of_getElem? (i := 1627) (by decide +kernel)
    | 25, _ => exact List.mem_of_getElem? (i := 1629) (by decide +kernel)
    | 26, _ => exact List.mem_of_getElem? (i := 1631) (by decide +kernel)
    | k + 27, hk => exact absurd hk (by omega)
  intro w hw
  obtain ⟨k, hk, rfl⟩ := List.mem_map.mp hw
  exact h k (List.mem_range.mp hk)
theorem cl_ty12 : ∀ k, k < 27 → parseFieldDescriptor (TF12 k).2.2.1 = some (TY12 k) := by decide +kernel
theorem cl_nm12 : ∀ a, a < 27 → ∀ b, b < 27 → a ≠ b → (TF12 a).2.1 ≠ (TF12 b).2.1 := by decide +kernel
theorem cl_in : ∀ (c : Nat) (q : vw_C), classes[c]? = some q → ∀ w ∈ u_ws q.1 q.2.1 q.2.2, w ∈ lw_tbl := by
  intro c q hq
  match c, hq with
  | 0, hq => cases hq; exact cl_in0
  | 1, hq => cases hq; exact cl_in1
  | 2, hq => cases hq; exact cl_in2
  | 3, hq => cases hq; exact cl_in3
  | 4, hq => cases hq; exact cl_in4
  | 5, hq => cases hq; exact cl_in5
  | 6, hq => cases hq; exact cl_in6
  | 7, hq => cases hq; exact cl_in7
  | 8, hq => cases hq; exact cl_in8
  | 9, hq => cases hq; exact cl_in9
  | 10, hq => cases hq; exact cl_in10
  | 11, hq => cases hq; exact cl_in11
  | 12, hq => cases hq; exact cl_in12
  | c + 13, hq => simp [classes] at hq
theorem cl_nm : ∀ (c : Nat) (q : vw_C), classes[c]? = some q → ∀ a, a < q.2.2 → ∀ b, b < q.2.2 → a ≠ b → (q.2.1 a).2.1 ≠ (q.2.1 b).2.1 := by
  intro c q hq
  match c, hq with
  | 0, hq => cases hq; exact cl_nm0
  | 1, hq => cases hq; exact cl_nm1
  | 2, hq => cases hq; exact cl_nm2
  | 3, hq => cases hq; exact cl_nm3
  | 4, hq => cases hq; exact cl_nm4
  | 5, hq => cases hq; exact cl_nm5
  | 6, hq => cases hq; exact cl_nm6
  | 7, hq => cases hq; exact cl_nm7
  | 8, hq => cases hq; exact cl_nm8
  | 9, hq => cases hq; exact cl_nm9
  | 10, hq => cases hq; exact cl_nm10
  | 11, hq => cases hq; exact cl_nm11
  | 12, hq => cases hq; exact cl_nm12
  | c + 13, hq => simp [classes] at hq
def cTYf (c : Nat) : Nat → FieldType := cTY.getD c TY0
theorem cl_ty : ∀ (c : Nat) (q : vw_C), classes[c]? = some q → ∀ k, k < q.2.2 → parseFieldDescriptor (q.2.1 k).2.2.1 = some (cTYf c k) := by
  intro c q hq
  match c, hq with
  | 0, hq => cases hq; exact cl_ty0
  | 1, hq => cases hq; exact cl_ty1
  | 2, hq => cases hq; exact cl_ty2
  | 3, hq => cases hq; exact cl_ty3
  | 4, hq => cases hq; exact cl_ty4
  | 5, hq => cases hq; exact cl_ty5
  | 6, hq => cases hq; exact cl_ty6
  | 7, hq => cases hq; exact cl_ty7
  | 8, hq => cases hq; exact cl_ty8
  | 9, hq => cases hq; exact cl_ty9
  | 10, hq => cases hq; exact cl_ty10
  | 11, hq => cases hq; exact cl_ty11
  | 12, hq => cases hq; exact cl_ty12
  | c + 13, hq => simp [classes] at hq
