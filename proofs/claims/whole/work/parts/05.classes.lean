/-! the classes: names, fields in the order of their slots -/
def gf_LV : u_T := fun k => match k with
  | 0 => ("LabelledVolume", "disk", "LLabelledVolume$Disk;", true)
  | 1 => ("LabelledVolume", "finder", "LLabelledVolume$Finder;", true)
  | 2 => ("LabelledVolume", "walk", "LLabelledVolume$EntryWalk;", true)
  | 3 => ("LabelledVolume", "freeMap", "LLabelledVolume$FreeMap;", true)
  | 4 => ("LabelledVolume", "scavenger", "LLabelledVolume$Scavenger;", true)
  | _ => ("LabelledVolume", "gathered", "[I", true)
def ft_LV : Nat → FieldType := fun k => match k with
  | 0 => (.object "LabelledVolume$Disk")
  | 1 => (.object "LabelledVolume$Finder")
  | 2 => (.object "LabelledVolume$EntryWalk")
  | 3 => (.object "LabelledVolume$FreeMap")
  | 4 => (.object "LabelledVolume$Scavenger")
  | _ => (.array .int)
theorem fn_LV : ∀ a, a < 6 → ∀ b, b < 6 → a ≠ b → (gf_LV a).2.1 ≠ (gf_LV b).2.1 := by decide +kernel
theorem fo_LV : ∀ k, k < 6 → parseFieldDescriptor (gf_LV k).2.2.1 = some (ft_LV k) := by decide +kernel
def gf_Disk : u_T := fun k => match k with
  | 0 => ("LabelledVolume$Disk", "cells", "[I", true)
  | 1 => ("LabelledVolume$Disk", "earlier", "[I", true)
  | 2 => ("LabelledVolume$Disk", "unreadable", "[Z", true)
  | 3 => ("LabelledVolume$Disk", "misses", "I", false)
  | 4 => ("LabelledVolume$Disk", "written", "I", false)
  | 5 => ("LabelledVolume$Disk", "charge", "I", false)
  | _ => ("LabelledVolume$Disk", "power", "Z", false)
def ft_Disk : Nat → FieldType := fun k => match k with
  | 0 => (.array .int)
  | 1 => (.array .int)
  | 2 => (.array .boolean)
  | 3 => .int
  | 4 => .int
  | 5 => .int
  | _ => .boolean
theorem fn_Disk : ∀ a, a < 7 → ∀ b, b < 7 → a ≠ b → (gf_Disk a).2.1 ≠ (gf_Disk b).2.1 := by decide +kernel
theorem fo_Disk : ∀ k, k < 7 → parseFieldDescriptor (gf_Disk k).2.2.1 = some (ft_Disk k) := by decide +kernel
def gf_Finder : u_T := fun k => match k with
  | 0 => ("LabelledVolume$Finder", "disk", "LLabelledVolume$Disk;", true)
  | _ => ("LabelledVolume$Finder", "remembered", "[I", true)
def ft_Finder : Nat → FieldType := fun k => match k with
  | 0 => (.object "LabelledVolume$Disk")
  | _ => (.array .int)
theorem fn_Finder : ∀ a, a < 2 → ∀ b, b < 2 → a ≠ b → (gf_Finder a).2.1 ≠ (gf_Finder b).2.1 := by decide +kernel
theorem fo_Finder : ∀ k, k < 2 → parseFieldDescriptor (gf_Finder k).2.2.1 = some (ft_Finder k) := by decide +kernel
def gf_Walk : u_T := fun k => match k with
  | 0 => ("LabelledVolume$EntryWalk", "disk", "LLabelledVolume$Disk;", true)
  | 1 => ("LabelledVolume$EntryWalk", "finder", "LLabelledVolume$Finder;", true)
  | 2 => ("LabelledVolume$EntryWalk", "sector", "I", false)
  | 3 => ("LabelledVolume$EntryWalk", "slot", "I", false)
  | 4 => ("LabelledVolume$EntryWalk", "holeSector", "I", false)
  | _ => ("LabelledVolume$EntryWalk", "holeSlot", "I", false)
def ft_Walk : Nat → FieldType := fun k => match k with
  | 0 => (.object "LabelledVolume$Disk")
  | 1 => (.object "LabelledVolume$Finder")
  | 2 => .int
  | 3 => .int
  | 4 => .int
  | _ => .int
theorem fn_Walk : ∀ a, a < 6 → ∀ b, b < 6 → a ≠ b → (gf_Walk a).2.1 ≠ (gf_Walk b).2.1 := by decide +kernel
theorem fo_Walk : ∀ k, k < 6 → parseFieldDescriptor (gf_Walk k).2.2.1 = some (ft_Walk k) := by decide +kernel
def gf_Map : u_T := fun k => match k with
  | 0 => ("LabelledVolume$FreeMap", "disk", "LLabelledVolume$Disk;", true)
  | 1 => ("LabelledVolume$FreeMap", "finder", "LLabelledVolume$Finder;", true)
  | 2 => ("LabelledVolume$FreeMap", "page", "I", false)
  | 3 => ("LabelledVolume$FreeMap", "first", "I", false)
  | 4 => ("LabelledVolume$FreeMap", "second", "I", false)
  | 5 => ("LabelledVolume$FreeMap", "takenOrMissed", "J", false)
  | _ => ("LabelledVolume$FreeMap", "freed", "J", false)
def ft_Map : Nat → FieldType := fun k => match k with
  | 0 => (.object "LabelledVolume$Disk")
  | 1 => (.object "LabelledVolume$Finder")
  | 2 => .int
  | 3 => .int
  | 4 => .int
  | 5 => .long
  | _ => .long
theorem fn_Map : ∀ a, a < 7 → ∀ b, b < 7 → a ≠ b → (gf_Map a).2.1 ≠ (gf_Map b).2.1 := by decide +kernel
theorem fo_Map : ∀ k, k < 7 → parseFieldDescriptor (gf_Map k).2.2.1 = some (ft_Map k) := by decide +kernel
def gf_Scav : u_T := fun k => match k with
  | 0 => ("LabelledVolume$Scavenger", "disk", "LLabelledVolume$Disk;", true)
  | 1 => ("LabelledVolume$Scavenger", "results", "[I", true)
  | 2 => ("LabelledVolume$Scavenger", "lost", "I", false)
  | 3 => ("LabelledVolume$Scavenger", "made", "I", false)
  | 4 => ("LabelledVolume$Scavenger", "adopted", "I", false)
  | _ => ("LabelledVolume$Scavenger", "reached", "J", false)
def ft_Scav : Nat → FieldType := fun k => match k with
  | 0 => (.object "LabelledVolume$Disk")
  | 1 => (.array .int)
  | 2 => .int
  | 3 => .int
  | 4 => .int
  | _ => .long
theorem fn_Scav : ∀ a, a < 6 → ∀ b, b < 6 → a ≠ b → (gf_Scav a).2.1 ≠ (gf_Scav b).2.1 := by decide +kernel
theorem fo_Scav : ∀ k, k < 6 → parseFieldDescriptor (gf_Scav k).2.2.1 = some (ft_Scav k) := by decide +kernel
def gf_Mod : u_T := fun k => match k with
  | 0 => ("LabelledVolumeModel", "thrown", "I", false)
  | 1 => ("LabelledVolumeModel", "fault", "I", false)
  | 2 => ("LabelledVolumeModel", "serial", "[I", true)
  | 3 => ("LabelledVolumeModel", "page", "[I", true)
  | 4 => ("LabelledVolumeModel", "used", "[I", true)
  | 5 => ("LabelledVolumeModel", "next", "[I", true)
  | 6 => ("LabelledVolumeModel", "before", "[I", true)
  | 7 => ("LabelledVolumeModel", "bytes", "[I", true)
  | 8 => ("LabelledVolumeModel", "bad", "[Z", true)
  | 9 => ("LabelledVolumeModel", "kept", "[I", true)
  | 10 => ("LabelledVolumeModel", "misses", "I", false)
  | 11 => ("LabelledVolumeModel", "writes", "I", false)
  | 12 => ("LabelledVolumeModel", "dark", "Z", false)
  | 13 => ("LabelledVolumeModel", "left", "I", false)
  | 14 => ("LabelledVolumeModel", "map", "I", false)
  | 15 => ("LabelledVolumeModel", "mark", "[I", true)
  | 16 => ("LabelledVolumeModel", "holeAt", "I", false)
  | 17 => ("LabelledVolumeModel", "holePlace", "I", false)
  | 18 => ("LabelledVolumeModel", "end", "I", false)
  | 19 => ("LabelledVolumeModel", "foundAt", "I", false)
  | 20 => ("LabelledVolumeModel", "foundPlace", "I", false)
  | 21 => ("LabelledVolumeModel", "report", "[I", true)
  | 22 => ("LabelledVolumeModel", "row", "[I", true)
  | 23 => ("LabelledVolumeModel", "rows", "I", false)
  | 24 => ("LabelledVolumeModel", "table", "[I", true)
  | 25 => ("LabelledVolumeModel", "many", "[I", true)
  | 26 => ("LabelledVolumeModel", "reached", "[Z", true)
  | 27 => ("LabelledVolumeModel", "walked", "[I", true)
  | 28 => ("LabelledVolumeModel", "reach", "[I", true)
  | _ => ("LabelledVolumeModel", "was", "[I", true)
def ft_Mod : Nat → FieldType := fun k => match k with
  | 0 => .int
  | 1 => .int
  | 2 => (.array .int)
  | 3 => (.array .int)
  | 4 => (.array .int)
  | 5 => (.array .int)
  | 6 => (.array .int)
  | 7 => (.array .int)
  | 8 => (.array .boolean)
  | 9 => (.array .int)
  | 10 => .int
  | 11 => .int
  | 12 => .boolean
  | 13 => .int
  | 14 => .int
  | 15 => (.array .int)
  | 16 => .int
  | 17 => .int
  | 18 => .int
  | 19 => .int
  | 20 => .int
  | 21 => (.array .int)
  | 22 => (.array .int)
  | 23 => .int
  | 24 => (.array .int)
  | 25 => (.array .int)
  | 26 => (.array .boolean)
  | 27 => (.array .int)
  | 28 => (.array .int)
  | _ => (.array .int)
theorem fn_Mod : ∀ a, a < 30 → ∀ b, b < 30 → a ≠ b → (gf_Mod a).2.1 ≠ (gf_Mod b).2.1 := by decide +kernel
theorem fo_Mod : ∀ k, k < 30 → parseFieldDescriptor (gf_Mod k).2.2.1 = some (ft_Mod k) := by decide +kernel
abbrev gd_cl : List vw_C := [("LabelledVolume", gf_LV, 6), ("LabelledVolume$Disk", gf_Disk, 7), ("LabelledVolume$Finder", gf_Finder, 2), ("LabelledVolume$EntryWalk", gf_Walk, 6), ("LabelledVolume$FreeMap", gf_Map, 7), ("LabelledVolume$Scavenger", gf_Scav, 6), ("LabelledVolumeModel", gf_Mod, 30)]
def gd_ex : Nat → String := fun k => match k with
  | 1 => "java/lang/UnsupportedOperationException"
  | 2 => "java/util/NoSuchElementException"
  | 3 => "java/lang/IllegalArgumentException"
  | 4 => "java/lang/IllegalStateException"
  | _ => "java/lang/IndexOutOfBoundsException"
