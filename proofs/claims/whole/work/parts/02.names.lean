def TT0 : u_T := fun k => match k with
  | 0 => ("HomeFreed$Chains", "first", "[I", true)
  | 1 => ("HomeFreed$Chains", "many", "[I", true)
  | 2 => ("HomeFreed$Chains", "next", "[I", true)
  | _ => ("HomeFreed$Chains", "home", "[I", true)
def yy0 : Nat → FieldType := fun k => match k with
  | 0 => .array .int
  | 1 => .array .int
  | 2 => .array .int
  | _ => .array .int
def TT1 : u_T := fun k => match k with
  | 0 => ("HomeFreed$Heap", "rules", "LHomeFreed$Rules;", true)
  | 1 => ("HomeFreed$Heap", "kind", "[I", true)
  | 2 => ("HomeFreed$Heap", "owner", "[I", true)
  | 3 => ("HomeFreed$Heap", "cut", "[I", true)
  | 4 => ("HomeFreed$Heap", "queues", "LHomeFreed$Chains;", true)
  | 5 => ("HomeFreed$Heap", "blocks", "LHomeFreed$Chains;", true)
  | 6 => ("HomeFreed$Heap", "lives", "[I", true)
  | 7 => ("HomeFreed$Heap", "gets", "[I", true)
  | _ => ("HomeFreed$Heap", "log", "LHomeFreed$Log;", true)
def yy1 : Nat → FieldType := fun k => match k with
  | 0 => .object "HomeFreed$Rules"
  | 1 => .array .int
  | 2 => .array .int
  | 3 => .array .int
  | 4 => .object "HomeFreed$Chains"
  | 5 => .object "HomeFreed$Chains"
  | 6 => .array .int
  | 7 => .array .int
  | _ => .object "HomeFreed$Log"
def TT2 : u_T := fun k => match k with
  | 0 => ("HomeFreed$Log", "entries", "[I", true)
  | _ => ("HomeFreed$Log", "all", "I", false)
def yy2 : Nat → FieldType := fun k => match k with
  | 0 => .array .int
  | _ => .int
def TT3 : u_T := fun k => match k with
  | 0 => ("HomeFreed$Mixer", "heaps", "[LHomeFreed$Heap;", true)
  | 1 => ("HomeFreed$Mixer", "ofOne", "[LHomeFreed$Progress;", true)
  | 2 => ("HomeFreed$Mixer", "ofOther", "[LHomeFreed$Progress;", true)
  | 3 => ("HomeFreed$Mixer", "one", "LHomeFreed$Script;", false)
  | 4 => ("HomeFreed$Mixer", "other", "LHomeFreed$Script;", false)
  | 5 => ("HomeFreed$Mixer", "all", "I", false)
  | 6 => ("HomeFreed$Mixer", "whole", "I", false)
  | 7 => ("HomeFreed$Mixer", "mostPages", "I", false)
  | _ => ("HomeFreed$Mixer", "fewestPages", "I", false)
def yy3 : Nat → FieldType := fun k => match k with
  | 0 => .array (.object "HomeFreed$Heap")
  | 1 => .array (.object "HomeFreed$Progress")
  | 2 => .array (.object "HomeFreed$Progress")
  | 3 => .object "HomeFreed$Script"
  | 4 => .object "HomeFreed$Script"
  | 5 => .int
  | 6 => .int
  | 7 => .int
  | _ => .int
def TT4 : u_T := fun k => match k with
  | 0 => ("HomeFreed$Past", "before", "[LHomeFreed$Heap;", true)
  | 1 => ("HomeFreed$Past", "oldest", "I", false)
  | _ => ("HomeFreed$Past", "many", "I", false)
def yy4 : Nat → FieldType := fun k => match k with
  | 0 => .array (.object "HomeFreed$Heap")
  | 1 => .int
  | _ => .int
def TT5 : u_T := fun k => match k with
  | 0 => ("HomeFreed$Progress", "block", "[I", true)
  | 1 => ("HomeFreed$Progress", "by", "[I", true)
  | 2 => ("HomeFreed$Progress", "scope", "[I", true)
  | 3 => ("HomeFreed$Progress", "got", "I", false)
  | _ => ("HomeFreed$Progress", "depth", "I", false)
def yy5 : Nat → FieldType := fun k => match k with
  | 0 => .array .int
  | 1 => .array .int
  | 2 => .array .int
  | 3 => .int
  | _ => .int
def TT6 : u_T := fun k => match k with
  | 0 => ("HomeFreed$Reader", "tape", "LHomeFreed$Tape;", true)
  | 1 => ("HomeFreed$Reader", "at", "I", false)
  | _ => ("HomeFreed$Reader", "wrongAt", "I", false)
def yy6 : Nat → FieldType := fun k => match k with
  | 0 => .object "HomeFreed$Tape"
  | 1 => .int
  | _ => .int
def TT7 : u_T := fun k => match k with
  | 0 => ("HomeFreed$Rules", "values", "[I", true)
  | 1 => ("HomeFreed$Rules", "sizes", "[I", true)
  | _ => ("HomeFreed$Rules", "kinds", "I", false)
def yy7 : Nat → FieldType := fun k => match k with
  | 0 => .array .int
  | 1 => .array .int
  | _ => .int
def TT8 : u_T := fun k => match k with
  | 0 => ("HomeFreed$Script", "deed", "[I", true)
  | 1 => ("HomeFreed$Script", "by", "[I", true)
  | 2 => ("HomeFreed$Script", "number", "[I", true)
  | _ => ("HomeFreed$Script", "steps", "I", false)
def yy8 : Nat → FieldType := fun k => match k with
  | 0 => .array .int
  | 1 => .array .int
  | 2 => .array .int
  | _ => .int
def TT9 : u_T := fun k => match k with
  | 0 => ("HomeFreed$Tape", "bytes", "[I", true)
  | _ => ("HomeFreed$Tape", "length", "I", false)
def yy9 : Nat → FieldType := fun k => match k with
  | 0 => .array .int
  | _ => .int
def TT10 : u_T := fun k => match k with
  | 0 => ("HomeFreed", "tape", "LHomeFreed$Tape;", true)
  | 1 => ("HomeFreed", "reader", "LHomeFreed$Reader;", true)
  | 2 => ("HomeFreed", "rules", "LHomeFreed$Rules;", true)
  | 3 => ("HomeFreed", "draftRules", "LHomeFreed$Rules;", true)
  | 4 => ("HomeFreed", "scripts", "[LHomeFreed$Script;", true)
  | 5 => ("HomeFreed", "scriptsTold", "I", false)
  | 6 => ("HomeFreed", "draftScript", "LHomeFreed$Script;", true)
  | 7 => ("HomeFreed", "now", "LHomeFreed$Heap;", true)
  | 8 => ("HomeFreed", "past", "LHomeFreed$Past;", true)
  | 9 => ("HomeFreed", "kept", "LHomeFreed$Heap;", true)
  | 10 => ("HomeFreed", "imaged", "Z", false)
  | 11 => ("HomeFreed", "refused", "[I", true)
  | 12 => ("HomeFreed", "mixer", "LHomeFreed$Mixer;", true)
  | 13 => ("HomeFreed", "trial", "LHomeFreed$Heap;", true)
  | _ => ("HomeFreed", "progress", "LHomeFreed$Progress;", true)
def yy10 : Nat → FieldType := fun k => match k with
  | 0 => .object "HomeFreed$Tape"
  | 1 => .object "HomeFreed$Reader"
  | 2 => .object "HomeFreed$Rules"
  | 3 => .object "HomeFreed$Rules"
  | 4 => .array (.object "HomeFreed$Script")
  | 5 => .int
  | 6 => .object "HomeFreed$Script"
  | 7 => .object "HomeFreed$Heap"
  | 8 => .object "HomeFreed$Past"
  | 9 => .object "HomeFreed$Heap"
  | 10 => .boolean
  | 11 => .array .int
  | 12 => .object "HomeFreed$Mixer"
  | 13 => .object "HomeFreed$Heap"
  | _ => .object "HomeFreed$Progress"
def TT11 : u_T := fun k => match k with
  | 0 => ("HomeFreedModel", "thrown", "I", false)
  | 1 => ("HomeFreedModel", "tape", "[I", true)
  | 2 => ("HomeFreedModel", "taped", "I", false)
  | 3 => ("HomeFreedModel", "at", "I", false)
  | 4 => ("HomeFreedModel", "wrong", "I", false)
  | 5 => ("HomeFreedModel", "readRule", "[I", true)
  | 6 => ("HomeFreedModel", "readSize", "[I", true)
  | 7 => ("HomeFreedModel", "readClasses", "I", false)
  | 8 => ("HomeFreedModel", "rule", "[I", true)
  | 9 => ("HomeFreedModel", "sizes", "[I", true)
  | 10 => ("HomeFreedModel", "classes", "I", false)
  | 11 => ("HomeFreedModel", "script", "[I", true)
  | 12 => ("HomeFreedModel", "scriptLong", "[I", true)
  | 13 => ("HomeFreedModel", "scripts", "I", false)
  | 14 => ("HomeFreedModel", "scopesOpen", "I", false)
  | 15 => ("HomeFreedModel", "now", "[I", true)
  | 16 => ("HomeFreedModel", "refused", "[I", true)
  | 17 => ("HomeFreedModel", "gotHow", "I", false)
  | 18 => ("HomeFreedModel", "gotBlock", "[I", true)
  | 19 => ("HomeFreedModel", "gotBy", "[I", true)
  | 20 => ("HomeFreedModel", "gotScope", "[I", true)
  | 21 => ("HomeFreedModel", "isHeldSince", "[Z", true)
  | 22 => ("HomeFreedModel", "gotMany", "[I", true)
  | 23 => ("HomeFreedModel", "deepScope", "I", false)
  | 24 => ("HomeFreedModel", "kept", "[I", true)
  | 25 => ("HomeFreedModel", "acts", "I", false)
  | 26 => ("HomeFreedModel", "draws", "J", false)
  | 27 => ("HomeFreedModel", "aside", "[I", true)
  | 28 => ("HomeFreedModel", "wayMany", "I", false)
  | 29 => ("HomeFreedModel", "wayWhole", "I", false)
  | 30 => ("HomeFreedModel", "wayMost", "I", false)
  | 31 => ("HomeFreedModel", "wayFewest", "I", false)
  | 32 => ("HomeFreedModel", "image", "[I", true)
  | _ => ("HomeFreedModel", "hasImage", "Z", false)
def yy11 : Nat → FieldType := fun k => match k with
  | 0 => .int
  | 1 => .array .int
  | 2 => .int
  | 3 => .int
  | 4 => .int
  | 5 => .array .int
  | 6 => .array .int
  | 7 => .int
  | 8 => .array .int
  | 9 => .array .int
  | 10 => .int
  | 11 => .array .int
  | 12 => .array .int
  | 13 => .int
  | 14 => .int
  | 15 => .array .int
  | 16 => .array .int
  | 17 => .int
  | 18 => .array .int
  | 19 => .array .int
  | 20 => .array .int
  | 21 => .array .boolean
  | 22 => .array .int
  | 23 => .int
  | 24 => .array .int
  | 25 => .int
  | 26 => .long
  | 27 => .array .int
  | 28 => .int
  | 29 => .int
  | 30 => .int
  | 31 => .int
  | 32 => .array .int
  | _ => .boolean
def clsM : List vw_C := [("HomeFreed$Chains", TT0, 4), ("HomeFreed$Heap", TT1, 9), ("HomeFreed$Log", TT2, 2), ("HomeFreed$Mixer", TT3, 9), ("HomeFreed$Past", TT4, 3), ("HomeFreed$Progress", TT5, 5), ("HomeFreed$Reader", TT6, 3), ("HomeFreed$Rules", TT7, 3), ("HomeFreed$Script", TT8, 4), ("HomeFreed$Tape", TT9, 2), ("HomeFreed", TT10, 15), ("HomeFreedModel", TT11, 34)]
def ftL : List (List Nat) := [[2, 2, 2, 2], [2, 2, 2, 2, 2, 2, 2, 2, 2], [2, 0], [2, 2, 2, 2, 2, 0, 0, 0, 0], [2, 0, 0], [2, 2, 2, 0, 0], [2, 0, 0], [2, 2, 0], [2, 2, 2, 0], [2, 0], [2, 2, 2, 2, 2, 0, 2, 2, 2, 2, 0, 2, 2, 2, 2], [0, 2, 0, 0, 0, 2, 2, 0, 2, 2, 0, 2, 2, 0, 0, 2, 2, 0, 2, 2, 2, 2, 2, 0, 2, 0, 1, 2, 0, 0, 0, 0, 2, 0]]
def ftM (t k : Nat) : Nat := (ftL.getD t []).getD k 0
def yyM (t : Nat) : Nat → FieldType := match t with
  | 0 => yy0
  | 1 => yy1
  | 2 => yy2
  | 3 => yy3
  | 4 => yy4
  | 5 => yy5
  | 6 => yy6
  | 7 => yy7
  | 8 => yy8
  | 9 => yy9
  | 10 => yy10
  | _ => yy11
theorem nn0 : ∀ a, a < 4 → ∀ b, b < 4 → a ≠ b → (TT0 a).2.1 ≠ (TT0 b).2.1 := by decide +kernel
theorem yo0 : ∀ k, k < 4 → parseFieldDescriptor (TT0 k).2.2.1 = some (yy0 k) := by decide +kernel
theorem td0 : ∀ k, k < 4 → (TT0 k).1 = "HomeFreed$Chains" := by decide +kernel
theorem il0 : ∀ w ∈ u_ws "HomeFreed$Chains" TT0 4, w ∈ lw_tbl ∧ goodWord w = true := by
  have h : u_ws "HomeFreed$Chains" TT0 4 = [143, 145, 147, 149].filterMap (fun i => tables_1[i]?) := by decide +kernel
  have g : (u_ws "HomeFreed$Chains" TT0 4).all goodWord = true := by decide +kernel
  intro w hw
  refine ⟨List.mem_append_right _ ?_, List.all_eq_true.mp g w hw⟩
  rw [h] at hw
  obtain ⟨i, -, hi⟩ := List.mem_filterMap.mp hw
  exact List.mem_of_getElem? hi
theorem nn1 : ∀ a, a < 9 → ∀ b, b < 9 → a ≠ b → (TT1 a).2.1 ≠ (TT1 b).2.1 := by decide +kernel
theorem yo1 : ∀ k, k < 9 → parseFieldDescriptor (TT1 k).2.2.1 = some (yy1 k) := by decide +kernel
theorem td1 : ∀ k, k < 9 → (TT1 k).1 = "HomeFreed$Heap" := by decide +kernel
theorem il1 : ∀ w ∈ u_ws "HomeFreed$Heap" TT1 9, w ∈ lw_tbl ∧ goodWord w = true := by
  have h : u_ws "HomeFreed$Heap" TT1 9 = [182, 184, 186, 188, 190, 192, 194, 196, 198].filterMap (fun i => tables_1[i]?) := by decide +kernel
  have g : (u_ws "HomeFreed$Heap" TT1 9).all goodWord = true := by decide +kernel
  intro w hw
  refine ⟨List.mem_append_right _ ?_, List.all_eq_true.mp g w hw⟩
  rw [h] at hw
  obtain ⟨i, -, hi⟩ := List.mem_filterMap.mp hw
  exact List.mem_of_getElem? hi
theorem nn2 : ∀ a, a < 2 → ∀ b, b < 2 → a ≠ b → (TT2 a).2.1 ≠ (TT2 b).2.1 := by decide +kernel
theorem yo2 : ∀ k, k < 2 → parseFieldDescriptor (TT2 k).2.2.1 = some (yy2 k) := by decide +kernel
theorem td2 : ∀ k, k < 2 → (TT2 k).1 = "HomeFreed$Log" := by decide +kernel
theorem il2 : ∀ w ∈ u_ws "HomeFreed$Log" TT2 2, w ∈ lw_tbl ∧ goodWord w = true := by
  have h : u_ws "HomeFreed$Log" TT2 2 = [161, 163].filterMap (fun i => tables_1[i]?) := by decide +kernel
  have g : (u_ws "HomeFreed$Log" TT2 2).all goodWord = true := by decide +kernel
  intro w hw
  refine ⟨List.mem_append_right _ ?_, List.all_eq_true.mp g w hw⟩
  rw [h] at hw
  obtain ⟨i, -, hi⟩ := List.mem_filterMap.mp hw
  exact List.mem_of_getElem? hi
theorem nn3 : ∀ a, a < 9 → ∀ b, b < 9 → a ≠ b → (TT3 a).2.1 ≠ (TT3 b).2.1 := by decide +kernel
theorem yo3 : ∀ k, k < 9 → parseFieldDescriptor (TT3 k).2.2.1 = some (yy3 k) := by decide +kernel
theorem td3 : ∀ k, k < 9 → (TT3 k).1 = "HomeFreed$Mixer" := by decide +kernel
theorem il3 : ∀ w ∈ u_ws "HomeFreed$Mixer" TT3 9, w ∈ lw_tbl ∧ goodWord w = true := by
  have h : u_ws "HomeFreed$Mixer" TT3 9 = [267, 269, 271, 273, 275, 277, 279, 281, 283].filterMap (fun i => tables_1[i]?) := by decide +kernel
  have g : (u_ws "HomeFreed$Mixer" TT3 9).all goodWord = true := by decide +kernel
  intro w hw
  refine ⟨List.mem_append_right _ ?_, List.all_eq_true.mp g w hw⟩
  rw [h] at hw
  obtain ⟨i, -, hi⟩ := List.mem_filterMap.mp hw
  exact List.mem_of_getElem? hi
theorem nn4 : ∀ a, a < 3 → ∀ b, b < 3 → a ≠ b → (TT4 a).2.1 ≠ (TT4 b).2.1 := by decide +kernel
theorem yo4 : ∀ k, k < 3 → parseFieldDescriptor (TT4 k).2.2.1 = some (yy4 k) := by decide +kernel
theorem td4 : ∀ k, k < 3 → (TT4 k).1 = "HomeFreed$Past" := by decide +kernel
theorem il4 : ∀ w ∈ u_ws "HomeFreed$Past" TT4 3, w ∈ lw_tbl ∧ goodWord w = true := by
  have h : u_ws "HomeFreed$Past" TT4 3 = [214, 216, 218].filterMap (fun i => tables_1[i]?) := by decide +kernel
  have g : (u_ws "HomeFreed$Past" TT4 3).all goodWord = true := by decide +kernel
  intro w hw
  refine ⟨List.mem_append_right _ ?_, List.all_eq_true.mp g w hw⟩
  rw [h] at hw
  obtain ⟨i, -, hi⟩ := List.mem_filterMap.mp hw
  exact List.mem_of_getElem? hi
theorem nn5 : ∀ a, a < 5 → ∀ b, b < 5 → a ≠ b → (TT5 a).2.1 ≠ (TT5 b).2.1 := by decide +kernel
theorem yo5 : ∀ k, k < 5 → parseFieldDescriptor (TT5 k).2.2.1 = some (yy5 k) := by decide +kernel
theorem td5 : ∀ k, k < 5 → (TT5 k).1 = "HomeFreed$Progress" := by decide +kernel
theorem il5 : ∀ w ∈ u_ws "HomeFreed$Progress" TT5 5, w ∈ lw_tbl ∧ goodWord w = true := by
  have h : u_ws "HomeFreed$Progress" TT5 5 = [241, 243, 245, 247, 249].filterMap (fun i => tables_1[i]?) := by decide +kernel
  have g : (u_ws "HomeFreed$Progress" TT5 5).all goodWord = true := by decide +kernel
  intro w hw
  refine ⟨List.mem_append_right _ ?_, List.all_eq_true.mp g w hw⟩
  rw [h] at hw
  obtain ⟨i, -, hi⟩ := List.mem_filterMap.mp hw
  exact List.mem_of_getElem? hi
theorem nn6 : ∀ a, a < 3 → ∀ b, b < 3 → a ≠ b → (TT6 a).2.1 ≠ (TT6 b).2.1 := by decide +kernel
theorem yo6 : ∀ k, k < 3 → parseFieldDescriptor (TT6 k).2.2.1 = some (yy6 k) := by decide +kernel
theorem td6 : ∀ k, k < 3 → (TT6 k).1 = "HomeFreed$Reader" := by decide +kernel
theorem il6 : ∀ w ∈ u_ws "HomeFreed$Reader" TT6 3, w ∈ lw_tbl ∧ goodWord w = true := by
  have h : u_ws "HomeFreed$Reader" TT6 3 = [61, 63, 65].filterMap (fun i => tables_1[i]?) := by decide +kernel
  have g : (u_ws "HomeFreed$Reader" TT6 3).all goodWord = true := by decide +kernel
  intro w hw
  refine ⟨List.mem_append_right _ ?_, List.all_eq_true.mp g w hw⟩
  rw [h] at hw
  obtain ⟨i, -, hi⟩ := List.mem_filterMap.mp hw
  exact List.mem_of_getElem? hi
theorem nn7 : ∀ a, a < 3 → ∀ b, b < 3 → a ≠ b → (TT7 a).2.1 ≠ (TT7 b).2.1 := by decide +kernel
theorem yo7 : ∀ k, k < 3 → parseFieldDescriptor (TT7 k).2.2.1 = some (yy7 k) := by decide +kernel
theorem td7 : ∀ k, k < 3 → (TT7 k).1 = "HomeFreed$Rules" := by decide +kernel
theorem il7 : ∀ w ∈ u_ws "HomeFreed$Rules" TT7 3, w ∈ lw_tbl ∧ goodWord w = true := by
  have h : u_ws "HomeFreed$Rules" TT7 3 = [82, 84, 86].filterMap (fun i => tables_1[i]?) := by decide +kernel
  have g : (u_ws "HomeFreed$Rules" TT7 3).all goodWord = true := by decide +kernel
  intro w hw
  refine ⟨List.mem_append_right _ ?_, List.all_eq_true.mp g w hw⟩
  rw [h] at hw
  obtain ⟨i, -, hi⟩ := List.mem_filterMap.mp hw
  exact List.mem_of_getElem? hi
theorem nn8 : ∀ a, a < 4 → ∀ b, b < 4 → a ≠ b → (TT8 a).2.1 ≠ (TT8 b).2.1 := by decide +kernel
theorem yo8 : ∀ k, k < 4 → parseFieldDescriptor (TT8 k).2.2.1 = some (yy8 k) := by decide +kernel
theorem td8 : ∀ k, k < 4 → (TT8 k).1 = "HomeFreed$Script" := by decide +kernel
theorem il8 : ∀ w ∈ u_ws "HomeFreed$Script" TT8 4, w ∈ lw_tbl ∧ goodWord w = true := by
  have h : u_ws "HomeFreed$Script" TT8 4 = [109, 111, 113, 115].filterMap (fun i => tables_1[i]?) := by decide +kernel
  have g : (u_ws "HomeFreed$Script" TT8 4).all goodWord = true := by decide +kernel
  intro w hw
  refine ⟨List.mem_append_right _ ?_, List.all_eq_true.mp g w hw⟩
  rw [h] at hw
  obtain ⟨i, -, hi⟩ := List.mem_filterMap.mp hw
  exact List.mem_of_getElem? hi
theorem nn9 : ∀ a, a < 2 → ∀ b, b < 2 → a ≠ b → (TT9 a).2.1 ≠ (TT9 b).2.1 := by decide +kernel
theorem yo9 : ∀ k, k < 2 → parseFieldDescriptor (TT9 k).2.2.1 = some (yy9 k) := by decide +kernel
theorem td9 : ∀ k, k < 2 → (TT9 k).1 = "HomeFreed$Tape" := by decide +kernel
theorem il9 : ∀ w ∈ u_ws "HomeFreed$Tape" TT9 2, w ∈ lw_tbl ∧ goodWord w = true := by
  have h : u_ws "HomeFreed$Tape" TT9 2 = [44, 46].filterMap (fun i => tables_1[i]?) := by decide +kernel
  have g : (u_ws "HomeFreed$Tape" TT9 2).all goodWord = true := by decide +kernel
  intro w hw
  refine ⟨List.mem_append_right _ ?_, List.all_eq_true.mp g w hw⟩
  rw [h] at hw
  obtain ⟨i, -, hi⟩ := List.mem_filterMap.mp hw
  exact List.mem_of_getElem? hi
theorem nn10 : ∀ a, a < 15 → ∀ b, b < 15 → a ≠ b → (TT10 a).2.1 ≠ (TT10 b).2.1 := by decide +kernel
theorem yo10 : ∀ k, k < 15 → parseFieldDescriptor (TT10 k).2.2.1 = some (yy10 k) := by decide +kernel
theorem td10 : ∀ k, k < 15 → (TT10 k).1 = "HomeFreed" := by decide +kernel
theorem il10 : ∀ w ∈ u_ws "HomeFreed" TT10 15, w ∈ lw_tbl ∧ goodWord w = true := by
  have h : u_ws "HomeFreed" TT10 15 = [303, 305, 307, 309, 311, 313, 315, 317, 319, 321, 323, 325, 327, 329, 331].filterMap (fun i => tables_1[i]?) := by decide +kernel
  have g : (u_ws "HomeFreed" TT10 15).all goodWord = true := by decide +kernel
  intro w hw
  refine ⟨List.mem_append_right _ ?_, List.all_eq_true.mp g w hw⟩
  rw [h] at hw
  obtain ⟨i, -, hi⟩ := List.mem_filterMap.mp hw
  exact List.mem_of_getElem? hi
theorem nn11 : ∀ a, a < 34 → ∀ b, b < 34 → a ≠ b → (TT11 a).2.1 ≠ (TT11 b).2.1 := by decide +kernel
theorem yo11 : ∀ k, k < 34 → parseFieldDescriptor (TT11 k).2.2.1 = some (yy11 k) := by decide +kernel
theorem td11 : ∀ k, k < 34 → (TT11 k).1 = "HomeFreedModel" := by decide +kernel
theorem il11 : ∀ w ∈ u_ws "HomeFreedModel" TT11 34, w ∈ lw_tbl ∧ goodWord w = true := by
  have h : u_ws "HomeFreedModel" TT11 34 = [1204, 1206, 1208, 1210, 1212, 1214, 1216, 1218, 1220, 1222, 1224, 1226, 1228, 1230, 1232, 1234, 1236, 1238, 1240, 1242, 1244, 1246, 1248, 1250, 1252, 1254, 1256, 1258, 1260, 1262, 1264, 1266, 1268, 1270].filterMap (fun i => tables_1[i]?) := by decide +kernel
  have g : (u_ws "HomeFreedModel" TT11 34).all goodWord = true := by decide +kernel
  intro w hw
  refine ⟨List.mem_append_right _ ?_, List.all_eq_true.mp g w hw⟩
  rw [h] at hw
  obtain ⟨i, -, hi⟩ := List.mem_filterMap.mp hw
  exact List.mem_of_getElem? hi
/-- what is known of the class with a number -/
def ClM (c : vw_C) (t : Nat) : Prop := (∀ a, a < c.2.2 → ∀ b, b < c.2.2 → a ≠ b → (c.2.1 a).2.1 ≠ (c.2.1 b).2.1) ∧ (∀ k, k < c.2.2 → parseFieldDescriptor (c.2.1 k).2.2.1 = some (yyM t k)) ∧ (∀ k, k < c.2.2 → (c.2.1 k).1 = c.1) ∧ ∀ w ∈ u_ws c.1 c.2.1 c.2.2, w ∈ lw_tbl ∧ goodWord w = true
theorem clM_ok : ∀ (t : Nat) (c : vw_C), clsM[t]? = some c → ClM c t := by
  intro t c h
  match t, h with
  | 0, h => obtain rfl := Option.some.inj h; exact ⟨nn0, yo0, td0, il0⟩
  | 1, h => obtain rfl := Option.some.inj h; exact ⟨nn1, yo1, td1, il1⟩
  | 2, h => obtain rfl := Option.some.inj h; exact ⟨nn2, yo2, td2, il2⟩
  | 3, h => obtain rfl := Option.some.inj h; exact ⟨nn3, yo3, td3, il3⟩
  | 4, h => obtain rfl := Option.some.inj h; exact ⟨nn4, yo4, td4, il4⟩
  | 5, h => obtain rfl := Option.some.inj h; exact ⟨nn5, yo5, td5, il5⟩
  | 6, h => obtain rfl := Option.some.inj h; exact ⟨nn6, yo6, td6, il6⟩
  | 7, h => obtain rfl := Option.some.inj h; exact ⟨nn7, yo7, td7, il7⟩
  | 8, h => obtain rfl := Option.some.inj h; exact ⟨nn8, yo8, td8, il8⟩
  | 9, h => obtain rfl := Option.some.inj h; exact ⟨nn9, yo9, td9, il9⟩
  | 10, h => obtain rfl := Option.some.inj h; exact ⟨nn10, yo10, td10, il10⟩
  | 11, h => obtain rfl := Option.some.inj h; exact ⟨nn11, yo11, td11, il11⟩
  | n + 12, h => exact absurd h (by simp [clsM])
