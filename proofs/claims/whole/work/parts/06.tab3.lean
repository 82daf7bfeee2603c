def gClL0 : List (Nat × Nat × Nat × Nat × Nat) := [(1, 15, 0, 0, 2), (1, 19, 2, 1, 4), (3, 49, 2, 1, 4), (11, 13, 0, 2, 2), (9, 61, 0, 3, 2), (5, 33, 0, 4, 0), (5, 25, 0, 5, 1), (5, 29, 0, 6, 1), (11, 18, 0, 7, 3), (9, 67, 0, 5, 1), (9, 71, 1, 8, 1), (9, 74, 1, 9, 1), (9, 77, 0, 10, 2), (3, 74, 0, 11, 1), (9, 85, 0, 12, 0), (9, 91, 0, 13, 2), (3, 78, 0, 14, 3), (1, 28, 0, 6, 1), (1, 35, 0, 15, 3), (1, 39, 0, 16, 3), (9, 94, 0, 17, 5), (3, 106, 0, 18, 3), (9, 98, 0, 19, 1), (11, 23, 0, 20, 1), (9, 102, 0, 21, 1), (0, 43, 0, 22, 1), (9, 109, 0, 23, 1), (3, 113, 0, 24, 1), (11, 28, 0, 25, 2), (11, 32, 0, 26, 2)]
def gClL1 : List (Nat × Nat × Nat × Nat × Nat) := [(9, 123, 0, 27, 2), (3, 117, 0, 6, 1), (3, 120, 0, 28, 2), (9, 126, 0, 29, 2), (3, 124, 0, 13, 2), (3, 128, 0, 30, 2), (3, 132, 5, 999, 0), (3, 138, 0, 0, 2), (11, 36, 0, 31, 2), (9, 129, 0, 32, 2), (3, 141, 0, 33, 1), (3, 155, 0, 34, 1), (3, 144, 0, 35, 1), (11, 40, 0, 36, 3), (9, 132, 0, 37, 2), (11, 44, 0, 38, 2), (11, 48, 0, 39, 3), (9, 139, 1, 40, 1), (9, 145, 0, 22, 1), (9, 148, 0, 41, 2), (11, 52, 0, 42, 2), (9, 160, 1, 43, 1), (11, 56, 0, 44, 2), (9, 166, 0, 45, 1), (0, 39, 0, 19, 1), (11, 60, 0, 46, 1), (9, 184, 0, 4, 0), (11, 64, 0, 47, 2), (9, 187, 1, 48, 1), (9, 190, 0, 49, 1)]
def gClL2 : List (Nat × Nat × Nat × Nat × Nat) := [(3, 162, 0, 50, 1), (9, 193, 0, 51, 2), (3, 164, 0, 52, 1), (11, 68, 0, 53, 1), (11, 72, 0, 54, 1), (9, 206, 0, 50, 1), (11, 76, 0, 55, 2), (9, 208, 0, 11, 1), (11, 80, 0, 56, 2), (9, 214, 0, 57, 1), (9, 243, 0, 58, 1), (8, 18, 0, 59, 0), (8, 46, 2, 1, 4), (8, 38, 0, 60, 2), (8, 42, 0, 61, 1), (8, 63, 0, 21, 1), (9, 246, 0, 62, 1), (9, 217, 0, 63, 1), (11, 84, 0, 64, 1), (11, 88, 0, 65, 1), (11, 92, 0, 66, 0), (9, 220, 0, 67, 0), (3, 167, 0, 68, 1), (11, 97, 0, 69, 3), (9, 224, 0, 6, 1), (9, 227, 0, 70, 2), (9, 230, 0, 71, 2), (1, 42, 4, 999, 0), (9, 233, 0, 72, 2), (11, 101, 0, 73, 2)]
def gClL3 : List (Nat × Nat × Nat × Nat × Nat) := [(9, 236, 0, 74, 1), (3, 57, 2, 75, 2), (9, 328, 3, 999, 0), (9, 333, 5, 999, 0), (3, 61, 0, 76, 1), (5, 37, 2, 75, 2), (3, 65, 0, 77, 1), (1, 48, 2, 75, 2), (3, 68, 0, 78, 1), (0, 46, 2, 75, 2), (3, 71, 0, 79, 1), (6, 19, 2, 75, 2), (9, 240, 0, 80, 2), (11, 105, 0, 81, 1), (11, 109, 0, 82, 2), (9, 249, 0, 83, 2), (11, 113, 0, 84, 1), (9, 256, 0, 85, 0), (9, 259, 0, 86, 0), (9, 262, 0, 87, 0), (11, 117, 0, 88, 2), (9, 265, 1, 89, 1), (9, 268, 0, 90, 1), (9, 271, 0, 77, 1), (9, 276, 0, 91, 2), (9, 279, 0, 92, 2), (9, 339, 0, 93, 2), (4, 28, 0, 0, 2), (9, 343, 0, 14, 3), (9, 347, 0, 94, 3)]
def gClL4 : List (Nat × Nat × Nat × Nat × Nat) := [(4, 22, 0, 18, 3), (11, 121, 0, 95, 2), (11, 125, 0, 96, 1), (9, 282, 0, 97, 1), (11, 129, 0, 98, 0), (9, 286, 0, 99, 0), (7, 31, 0, 100, 0), (7, 39, 0, 101, 0), (7, 43, 1, 102, 1), (7, 35, 0, 103, 1), (7, 47, 0, 104, 1), (9, 296, 0, 105, 1), (9, 351, 0, 106, 2), (9, 357, 0, 2, 2), (9, 359, 0, 7, 3), (9, 363, 0, 20, 1), (9, 366, 0, 25, 2), (9, 369, 0, 107, 3), (9, 384, 0, 47, 2), (9, 372, 0, 31, 2), (9, 375, 0, 64, 1), (9, 378, 0, 65, 1), (9, 381, 0, 66, 0), (11, 133, 0, 108, 0), (9, 299, 0, 109, 1), (11, 137, 0, 110, 0), (11, 141, 0, 111, 2), (11, 145, 0, 112, 2), (9, 308, 0, 113, 2), (2, 24, 2, 1, 4)]
def gClL5 : List (Nat × Nat × Nat × Nat × Nat) := [(11, 149, 0, 114, 3), (9, 311, 0, 115, 2), (9, 314, 0, 116, 3), (11, 153, 0, 117, 2), (9, 318, 0, 118, 2), (11, 157, 0, 119, 1), (9, 322, 0, 120, 0), (9, 325, 0, 121, 0), (11, 17, 0, 122, 2), (10, 65, 1, 123, 3), (10, 69, 0, 124, 1), (11, 22, 0, 125, 3), (10, 73, 0, 126, 1), (10, 76, 0, 127, 1), (10, 57, 0, 128, 2), (10, 79, 0, 129, 0), (10, 82, 0, 130, 2), (10, 85, 0, 131, 0), (10, 89, 0, 132, 3), (10, 93, 0, 133, 1), (11, 27, 0, 134, 1), (10, 96, 0, 135, 1), (10, 61, 0, 136, 1), (11, 31, 0, 137, 2), (11, 35, 0, 138, 2), (10, 99, 0, 139, 2), (10, 103, 0, 140, 2), (11, 39, 0, 141, 2), (10, 111, 0, 142, 2), (10, 107, 0, 143, 3)]
def gClL6 : List (Nat × Nat × Nat × Nat × Nat) := [(11, 43, 0, 144, 3), (11, 47, 0, 145, 2), (10, 115, 0, 146, 2), (11, 51, 0, 147, 3), (11, 55, 0, 148, 2), (11, 59, 0, 149, 2), (11, 63, 0, 150, 1), (11, 67, 0, 151, 2), (10, 118, 0, 152, 1), (10, 121, 0, 153, 0), (11, 71, 0, 154, 1), (11, 75, 0, 155, 1), (11, 79, 0, 156, 2), (11, 83, 0, 157, 2), (10, 124, 0, 158, 0), (10, 143, 0, 159, 2), (10, 127, 0, 160, 1), (11, 87, 0, 161, 1), (11, 91, 0, 162, 1), (11, 96, 0, 163, 0), (10, 133, 0, 164, 0), (10, 130, 0, 165, 1), (11, 100, 0, 166, 3), (10, 136, 0, 167, 2), (11, 104, 0, 168, 2), (10, 139, 1, 169, 2), (11, 108, 0, 170, 1), (11, 112, 0, 171, 2), (11, 116, 0, 172, 1), (11, 120, 0, 173, 2)]
def gClL7 : List (Nat × Nat × Nat × Nat × Nat) := [(10, 146, 0, 174, 1), (10, 149, 0, 175, 3), (11, 124, 0, 176, 2), (11, 128, 0, 177, 1), (11, 132, 0, 178, 0), (10, 208, 0, 179, 0), (10, 174, 0, 180, 0), (10, 168, 1, 181, 1), (10, 171, 0, 182, 0), (10, 165, 0, 183, 2), (10, 162, 0, 184, 2), (10, 212, 0, 185, 1), (10, 177, 0, 122, 2), (10, 180, 0, 125, 3), (10, 184, 0, 186, 1), (10, 187, 0, 134, 1), (10, 190, 0, 137, 2), (10, 193, 0, 151, 2), (10, 196, 0, 141, 2), (10, 199, 0, 161, 1), (10, 202, 0, 162, 1), (10, 205, 0, 163, 0), (11, 136, 0, 187, 0), (11, 140, 0, 188, 0), (11, 144, 0, 189, 2), (11, 148, 0, 190, 2), (11, 152, 0, 191, 3), (11, 156, 0, 192, 2), (11, 160, 0, 193, 1)]
def gClL : List (Nat × Nat × Nat × Nat × Nat) := gClL0 ++ (gClL1 ++ (gClL2 ++ (gClL3 ++ (gClL4 ++ (gClL5 ++ (gClL6 ++ (gClL7)))))))
def gClN (c k : Nat) : Option (Nat × Nat × Nat) := (gClL.find? fun x => x.1 == c && x.2.1 == k).map (·.2.2)
def gCl (c k : Nat) : Option (Nat × gY × Nat) := (gClN c k).map fun x => (x.1, gMs x.2.1, x.2.2)
theorem gw_0 : Cond.instanceMethod mX1_release.1 ∈ gT := gT_in (List.mem_of_getElem? (i := 114) (by decide +kernel)) rfl
theorem gw_1 : Cond.selects mX1_release.1.cls mX1_release.1 mX1_release.1 ∈ gT := gT_in (List.mem_of_getElem? (i := 115) (by decide +kernel)) rfl
theorem oc_1_15 : gOkC 1 15 0 (mX1_release) 2 := Or.inl ⟨rfl, ok_mX1_release, gT_in (List.mem_of_getElem? (i := 113) (by decide +kernel)) rfl, gw_0, gw_1, by decide⟩
theorem cl_1_15 : gCl 1 15 = some (0, mX1_release, 2) := by unfold gCl; rw [show gClN 1 15 = some (0, 0, 2) by decide +kernel]; rfl
theorem gw_2 : Cond.static mX9_fill.1 ∈ gT := gT_in (List.mem_of_getElem? (i := 118) (by decide +kernel)) rfl
theorem oc_1_19 : gOkC 1 19 2 (mX9_fill) 4 := Or.inr (Or.inr (Or.inl ⟨rfl, ok_mX9_fill, ⟨"RegionHandles", List.mem_of_getElem? (i := 1) (by decide +kernel)⟩, gw_2⟩))
theorem cl_1_19 : gCl 1 19 = some (2, mX9_fill, 4) := by unfold gCl; rw [show gClN 1 19 = some (2, 1, 4) by decide +kernel]; rfl
theorem oc_3_49 : gOkC 3 49 2 (mX9_fill) 4 := Or.inr (Or.inr (Or.inl ⟨rfl, ok_mX9_fill, ⟨"RegionHandles", List.mem_of_getElem? (i := 4) (by decide +kernel)⟩, gw_2⟩))
theorem cl_3_49 : gCl 3 49 = some (2, mX9_fill, 4) := by unfold gCl; rw [show gClN 3 49 = some (2, 1, 4) by decide +kernel]; rfl
theorem gw_3 : Cond.instanceMethod mX9_region.1 ∈ gT := gT_in (List.mem_of_getElem? (i := 348) (by decide +kernel)) rfl
theorem gw_4 : Cond.selects mX9_region.1.cls mX9_region.1 mX9_region.1 ∈ gT := gT_in (List.mem_of_getElem? (i := 349) (by decide +kernel)) rfl
theorem oc_11_13 : gOkC 11 13 0 (mX9_region) 2 := Or.inl ⟨rfl, ok_mX9_region, gT_in (List.mem_of_getElem? (i := 347) (by decide +kernel)) rfl, gw_3, gw_4, by decide⟩
theorem cl_11_13 : gCl 11 13 = some (0, mX9_region, 2) := by unfold gCl; rw [show gClN 11 13 = some (0, 2, 2) by decide +kernel]; rfl
theorem gw_5 : Cond.instanceMethod mX5_addNext.1 ∈ gT := gT_in (List.mem_of_getElem? (i := 352) (by decide +kernel)) rfl
theorem gw_6 : Cond.selects mX5_addNext.1.cls mX5_addNext.1 mX5_addNext.1 ∈ gT := gT_in (List.mem_of_getElem? (i := 353) (by decide +kernel)) rfl
theorem oc_9_61 : gOkC 9 61 0 (mX5_addNext) 2 := Or.inl ⟨rfl, ok_mX5_addNext, gT_in (List.mem_of_getElem? (i := 351) (by decide +kernel)) rfl, gw_5, gw_6, by decide⟩
theorem cl_9_61 : gCl 9 61 = some (0, mX5_addNext, 2) := by unfold gCl; rw [show gClN 9 61 = some (0, 3, 2) by decide +kernel]; rfl
theorem gw_7 : Cond.instanceMethod mX5_end.1 ∈ gT := gT_in (List.mem_of_getElem? (i := 356) (by decide +kernel)) rfl
theorem gw_8 : Cond.selects mX5_end.1.cls mX5_end.1 mX5_end.1 ∈ gT := gT_in (List.mem_of_getElem? (i := 357) (by decide +kernel)) rfl
theorem oc_5_33 : gOkC 5 33 0 (mX5_end) 0 := Or.inl ⟨rfl, ok_mX5_end, gT_in (List.mem_of_getElem? (i := 355) (by decide +kernel)) rfl, gw_7, gw_8, by decide⟩
theorem cl_5_33 : gCl 5 33 = some (0, mX5_end, 0) := by unfold gCl; rw [show gClN 5 33 = some (0, 4, 0) by decide +kernel]; rfl
theorem gw_9 : Cond.instanceMethod mX5_has.1 ∈ gT := gT_in (List.mem_of_getElem? (i := 360) (by decide +kernel)) rfl
theorem gw_10 : Cond.selects mX5_has.1.cls mX5_has.1 mX5_has.1 ∈ gT := gT_in (List.mem_of_getElem? (i := 361) (by decide +kernel)) rfl
theorem oc_5_25 : gOkC 5 25 0 (mX5_has) 1 := Or.inl ⟨rfl, ok_mX5_has, gT_in (List.mem_of_getElem? (i := 359) (by decide +kernel)) rfl, gw_9, gw_10, by decide⟩
theorem cl_5_25 : gCl 5 25 = some (0, mX5_has, 1) := by unfold gCl; rw [show gClN 5 25 = some (0, 5, 1) by decide +kernel]; rfl
theorem gw_11 : Cond.instanceMethod mX5_highOf.1 ∈ gT := gT_in (List.mem_of_getElem? (i := 364) (by decide +kernel)) rfl
theorem gw_12 : Cond.selects mX5_highOf.1.cls mX5_highOf.1 mX5_highOf.1 ∈ gT := gT_in (List.mem_of_getElem? (i := 365) (by decide +kernel)) rfl
theorem oc_5_29 : gOkC 5 29 0 (mX5_highOf) 1 := Or.inl ⟨rfl, ok_mX5_highOf, gT_in (List.mem_of_getElem? (i := 363) (by decide +kernel)) rfl, gw_11, gw_12, by decide⟩
theorem cl_5_29 : gCl 5 29 = some (0, mX5_highOf, 1) := by unfold gCl; rw [show gClN 5 29 = some (0, 6, 1) by decide +kernel]; rfl
theorem gw_13 : Cond.instanceMethod mX9_block.1 ∈ gT := gT_in (List.mem_of_getElem? (i := 368) (by decide +kernel)) rfl
theorem gw_14 : Cond.selects mX9_block.1.cls mX9_block.1 mX9_block.1 ∈ gT := gT_in (List.mem_of_getElem? (i := 369) (by decide +kernel)) rfl
theorem oc_11_18 : gOkC 11 18 0 (mX9_block) 3 := Or.inl ⟨rfl, ok_mX9_block, gT_in (List.mem_of_getElem? (i := 367) (by decide +kernel)) rfl, gw_13, gw_14, by decide⟩
theorem cl_11_18 : gCl 11 18 = some (0, mX9_block, 3) := by unfold gCl; rw [show gClN 11 18 = some (0, 7, 3) by decide +kernel]; rfl
theorem oc_9_67 : gOkC 9 67 0 (mX5_has) 1 := Or.inl ⟨rfl, ok_mX5_has, gT_in (List.mem_of_getElem? (i := 371) (by decide +kernel)) rfl, gw_9, gw_10, by decide⟩
theorem cl_9_67 : gCl 9 67 = some (0, mX5_has, 1) := by unfold gCl; rw [show gClN 9 67 = some (0, 5, 1) by decide +kernel]; rfl
theorem gw_15 : Cond.static mX9_isBlockLength.1 ∈ gT := gT_in (List.mem_of_getElem? (i := 373) (by decide +kernel)) rfl
theorem oc_9_71 : gOkC 9 71 1 (mX9_isBlockLength) 1 := Or.inr (Or.inl ⟨rfl, ok_mX9_isBlockLength, gT_in (List.mem_of_getElem? (i := 372) (by decide +kernel)) rfl, gw_15⟩)
theorem cl_9_71 : gCl 9 71 = some (1, mX9_isBlockLength, 1) := by unfold gCl; rw [show gClN 9 71 = some (1, 8, 1) by decide +kernel]; rfl
theorem gw_16 : Cond.static mX9_isOwner.1 ∈ gT := gT_in (List.mem_of_getElem? (i := 376) (by decide +kernel)) rfl
theorem oc_9_74 : gOkC 9 74 1 (mX9_isOwner) 1 := Or.inr (Or.inl ⟨rfl, ok_mX9_isOwner, gT_in (List.mem_of_getElem? (i := 375) (by decide +kernel)) rfl, gw_16⟩)
theorem cl_9_74 : gCl 9 74 = some (1, mX9_isOwner, 1) := by unfold gCl; rw [show gClN 9 74 = some (1, 9, 1) by decide +kernel]; rfl
theorem gw_17 : Cond.instanceMethod mX3_quotaAllows.1 ∈ gT := gT_in (List.mem_of_getElem? (i := 379) (by decide +kernel)) rfl
theorem gw_18 : Cond.selects mX3_quotaAllows.1.cls mX3_quotaAllows.1 mX3_quotaAllows.1 ∈ gT := gT_in (List.mem_of_getElem? (i := 380) (by decide +kernel)) rfl
theorem oc_9_77 : gOkC 9 77 0 (mX3_quotaAllows) 2 := Or.inl ⟨rfl, ok_mX3_quotaAllows, gT_in (List.mem_of_getElem? (i := 378) (by decide +kernel)) rfl, gw_17, gw_18, by decide⟩
theorem cl_9_77 : gCl 9 77 = some (0, mX3_quotaAllows, 2) := by unfold gCl; rw [show gClN 9 77 = some (0, 10, 2) by decide +kernel]; rfl
theorem gw_19 : Cond.instanceMethod mX0_usedBy.1 ∈ gT := gT_in (List.mem_of_getElem? (i := 383) (by decide +kernel)) rfl
theorem gw_20 : Cond.selects mX0_usedBy.1.cls mX0_usedBy.1 mX0_usedBy.1 ∈ gT := gT_in (List.mem_of_getElem? (i := 384) (by decide +kernel)) rfl
theorem oc_3_74 : gOkC 3 74 0 (mX0_usedBy) 1 := Or.inl ⟨rfl, ok_mX0_usedBy, gT_in (List.mem_of_getElem? (i := 382) (by decide +kernel)) rfl, gw_19, gw_20, by decide⟩
theorem cl_3_74 : gCl 3 74 = some (0, mX0_usedBy, 1) := by unfold gCl; rw [show gClN 3 74 = some (0, 11, 1) by decide +kernel]; rfl
theorem gw_21 : Cond.instanceMethod mX0_leastUnusedSlot.1 ∈ gT := gT_in (List.mem_of_getElem? (i := 387) (by decide +kernel)) rfl
theorem gw_22 : Cond.selects mX0_leastUnusedSlot.1.cls mX0_leastUnusedSlot.1 mX0_leastUnusedSlot.1 ∈ gT := gT_in (List.mem_of_getElem? (i := 388) (by decide +kernel)) rfl
theorem oc_9_85 : gOkC 9 85 0 (mX0_leastUnusedSlot) 0 := Or.inl ⟨rfl, ok_mX0_leastUnusedSlot, gT_in (List.mem_of_getElem? (i := 386) (by decide +kernel)) rfl, gw_21, gw_22, by decide⟩
theorem cl_9_85 : gCl 9 85 = some (0, mX0_leastUnusedSlot, 0) := by unfold gCl; rw [show gClN 9 85 = some (0, 12, 0) by decide +kernel]; rfl
theorem gw_23 : Cond.instanceMethod mX3_placeFor.1 ∈ gT := gT_in (List.mem_of_getElem? (i := 391) (by decide +kernel)) rfl
theorem gw_24 : Cond.selects mX3_placeFor.1.cls mX3_placeFor.1 mX3_placeFor.1 ∈ gT := gT_in (List.mem_of_getElem? (i := 392) (by decide +kernel)) rfl
theorem oc_9_91 : gOkC 9 91 0 (mX3_placeFor) 2 := Or.inl ⟨rfl, ok_mX3_placeFor, gT_in (List.mem_of_getElem? (i := 390) (by decide +kernel)) rfl, gw_23, gw_24, by decide⟩
theorem cl_9_91 : gCl 9 91 = some (0, mX3_placeFor, 2) := by unfold gCl; rw [show gClN 9 91 = some (0, 13, 2) by decide +kernel]; rfl
theorem gw_25 : Cond.instanceMethod mX1_placeIn.1 ∈ gT := gT_in (List.mem_of_getElem? (i := 395) (by decide +kernel)) rfl
theorem gw_26 : Cond.selects mX1_placeIn.1.cls mX1_placeIn.1 mX1_placeIn.1 ∈ gT := gT_in (List.mem_of_getElem? (i := 396) (by decide +kernel)) rfl
theorem oc_3_78 : gOkC 3 78 0 (mX1_placeIn) 3 := Or.inl ⟨rfl, ok_mX1_placeIn, gT_in (List.mem_of_getElem? (i := 394) (by decide +kernel)) rfl, gw_25, gw_26, by decide⟩
theorem cl_3_78 : gCl 3 78 = some (0, mX1_placeIn, 3) := by unfold gCl; rw [show gClN 3 78 = some (0, 14, 3) by decide +kernel]; rfl
theorem oc_1_28 : gOkC 1 28 0 (mX5_highOf) 1 := Or.inl ⟨rfl, ok_mX5_highOf, gT_in (List.mem_of_getElem? (i := 398) (by decide +kernel)) rfl, gw_11, gw_12, by decide⟩
theorem cl_1_28 : gCl 1 28 = some (0, mX5_highOf, 1) := by unfold gCl; rw [show gClN 1 28 = some (0, 6, 1) by decide +kernel]; rfl
theorem gw_27 : Cond.instanceMethod mX1_placeFromBelow.1 ∈ gT := gT_in (List.mem_of_getElem? (i := 401) (by decide +kernel)) rfl
theorem gw_28 : Cond.selects mX1_placeFromBelow.1.cls mX1_placeFromBelow.1 mX1_placeFromBelow.1 ∈ gT := gT_in (List.mem_of_getElem? (i := 0) (by decide +kernel)) rfl
theorem oc_1_35 : gOkC 1 35 0 (mX1_placeFromBelow) 3 := Or.inl ⟨rfl, ok_mX1_placeFromBelow, gT_in (List.mem_of_getElem? (i := 399) (by decide +kernel)) rfl, gw_27, gw_28, by decide⟩
theorem cl_1_35 : gCl 1 35 = some (0, mX1_placeFromBelow, 3) := by unfold gCl; rw [show gClN 1 35 = some (0, 15, 3) by decide +kernel]; rfl
theorem gw_29 : Cond.instanceMethod mX1_placeFromAbove.1 ∈ gT := gT_in (List.mem_of_getElem? (i := 405) (by decide +kernel)) rfl
theorem gw_30 : Cond.selects mX1_placeFromAbove.1.cls mX1_placeFromAbove.1 mX1_placeFromAbove.1 ∈ gT := gT_in (List.mem_of_getElem? (i := 1) (by decide +kernel)) rfl
theorem oc_1_39 : gOkC 1 39 0 (mX1_placeFromAbove) 3 := Or.inl ⟨rfl, ok_mX1_placeFromAbove, gT_in (List.mem_of_getElem? (i := 403) (by decide +kernel)) rfl, gw_29, gw_30, by decide⟩
theorem cl_1_39 : gCl 1 39 = some (0, mX1_placeFromAbove, 3) := by unfold gCl; rw [show gClN 1 39 = some (0, 16, 3) by decide +kernel]; rfl
theorem gw_31 : Cond.instanceMethod mX3_makeBlock.1 ∈ gT := gT_in (List.mem_of_getElem? (i := 408) (by decide +kernel)) rfl
theorem gw_32 : Cond.selects mX3_makeBlock.1.cls mX3_makeBlock.1 mX3_makeBlock.1 ∈ gT := gT_in (List.mem_of_getElem? (i := 409) (by decide +kernel)) rfl
theorem oc_9_94 : gOkC 9 94 0 (mX3_makeBlock) 5 := Or.inl ⟨rfl, ok_mX3_makeBlock, gT_in (List.mem_of_getElem? (i := 407) (by decide +kernel)) rfl, gw_31, gw_32, by decide⟩
theorem cl_9_94 : gCl 9 94 = some (0, mX3_makeBlock, 5) := by unfold gCl; rw [show gClN 9 94 = some (0, 17, 5) by decide +kernel]; rfl
theorem gw_33 : Cond.instanceMethod mX1_take.1 ∈ gT := gT_in (List.mem_of_getElem? (i := 412) (by decide +kernel)) rfl
theorem gw_34 : Cond.selects mX1_take.1.cls mX1_take.1 mX1_take.1 ∈ gT := gT_in (List.mem_of_getElem? (i := 413) (by decide +kernel)) rfl
theorem oc_3_106 : gOkC 3 106 0 (mX1_take) 3 := Or.inl ⟨rfl, ok_mX1_take, gT_in (List.mem_of_getElem? (i := 411) (by decide +kernel)) rfl, gw_33, gw_34, by decide⟩
theorem cl_3_106 : gCl 3 106 = some (0, mX1_take, 3) := by unfold gCl; rw [show gClN 3 106 = some (0, 18, 3) by decide +kernel]; rfl
theorem gw_35 : Cond.instanceMethod mX0_handleOf.1 ∈ gT := gT_in (List.mem_of_getElem? (i := 416) (by decide +kernel)) rfl
theorem gw_36 : Cond.selects mX0_handleOf.1.cls mX0_handleOf.1 mX0_handleOf.1 ∈ gT := gT_in (List.mem_of_getElem? (i := 417) (by decide +kernel)) rfl
theorem oc_9_98 : gOkC 9 98 0 (mX0_handleOf) 1 := Or.inl ⟨rfl, ok_mX0_handleOf, gT_in (List.mem_of_getElem? (i := 415) (by decide +kernel)) rfl, gw_35, gw_36, by decide⟩
theorem cl_9_98 : gCl 9 98 = some (0, mX0_handleOf, 1) := by unfold gCl; rw [show gClN 9 98 = some (0, 19, 1) by decide +kernel]; rfl
theorem gw_37 : Cond.instanceMethod mX9_free.1 ∈ gT := gT_in (List.mem_of_getElem? (i := 420) (by decide +kernel)) rfl
theorem gw_38 : Cond.selects mX9_free.1.cls mX9_free.1 mX9_free.1 ∈ gT := gT_in (List.mem_of_getElem? (i := 421) (by decide +kernel)) rfl
theorem oc_11_23 : gOkC 11 23 0 (mX9_free) 1 := Or.inl ⟨rfl, ok_mX9_free, gT_in (List.mem_of_getElem? (i := 419) (by decide +kernel)) rfl, gw_37, gw_38, by decide⟩
theorem cl_11_23 : gCl 11 23 = some (0, mX9_free, 1) := by unfold gCl; rw [show gClN 11 23 = some (0, 20, 1) by decide +kernel]; rfl
theorem gw_39 : Cond.instanceMethod mX0_liveSlotOf.1 ∈ gT := gT_in (List.mem_of_getElem? (i := 424) (by decide +kernel)) rfl
theorem gw_40 : Cond.selects mX0_liveSlotOf.1.cls mX0_liveSlotOf.1 mX0_liveSlotOf.1 ∈ gT := gT_in (List.mem_of_getElem? (i := 425) (by decide +kernel)) rfl
theorem oc_9_102 : gOkC 9 102 0 (mX0_liveSlotOf) 1 := Or.inl ⟨rfl, ok_mX0_liveSlotOf, gT_in (List.mem_of_getElem? (i := 423) (by decide +kernel)) rfl, gw_39, gw_40, by decide⟩
theorem cl_9_102 : gCl 9 102 = some (0, mX0_liveSlotOf, 1) := by unfold gCl; rw [show gClN 9 102 = some (0, 21, 1) by decide +kernel]; rfl
theorem gw_41 : Cond.instanceMethod mX0_slotOf.1 ∈ gT := gT_in (List.mem_of_getElem? (i := 428) (by decide +kernel)) rfl
theorem gw_42 : Cond.selects mX0_slotOf.1.cls mX0_slotOf.1 mX0_slotOf.1 ∈ gT := gT_in (List.mem_of_getElem? (i := 429) (by decide +kernel)) rfl
theorem oc_0_43 : gOkC 0 43 0 (mX0_slotOf) 1 := Or.inl ⟨rfl, ok_mX0_slotOf, gT_in (List.mem_of_getElem? (i := 427) (by decide +kernel)) rfl, gw_41, gw_42, by decide⟩
theorem cl_0_43 : gCl 0 43 = some (0, mX0_slotOf, 1) := by unfold gCl; rw [show gClN 0 43 = some (0, 22, 1) by decide +kernel]; rfl
theorem gw_43 : Cond.instanceMethod mX3_doom.1 ∈ gT := gT_in (List.mem_of_getElem? (i := 432) (by decide +kernel)) rfl
theorem gw_44 : Cond.selects mX3_doom.1.cls mX3_doom.1 mX3_doom.1 ∈ gT := gT_in (List.mem_of_getElem? (i := 433) (by decide +kernel)) rfl
theorem oc_9_109 : gOkC 9 109 0 (mX3_doom) 1 := Or.inl ⟨rfl, ok_mX3_doom, gT_in (List.mem_of_getElem? (i := 431) (by decide +kernel)) rfl, gw_43, gw_44, by decide⟩
theorem cl_9_109 : gCl 9 109 = some (0, mX3_doom, 1) := by unfold gCl; rw [show gClN 9 109 = some (0, 23, 1) by decide +kernel]; rfl
theorem gw_45 : Cond.instanceMethod mX6_drop.1 ∈ gT := gT_in (List.mem_of_getElem? (i := 436) (by decide +kernel)) rfl
theorem gw_46 : Cond.selects mX6_drop.1.cls mX6_drop.1 mX6_drop.1 ∈ gT := gT_in (List.mem_of_getElem? (i := 437) (by decide +kernel)) rfl
theorem oc_3_113 : gOkC 3 113 0 (mX6_drop) 1 := Or.inl ⟨rfl, ok_mX6_drop, gT_in (List.mem_of_getElem? (i := 435) (by decide +kernel)) rfl, gw_45, gw_46, by decide⟩
theorem cl_3_113 : gCl 3 113 = some (0, mX6_drop, 1) := by unfold gCl; rw [show gClN 3 113 = some (0, 24, 1) by decide +kernel]; rfl
theorem gw_47 : Cond.instanceMethod mX9_pin.1 ∈ gT := gT_in (List.mem_of_getElem? (i := 440) (by decide +kernel)) rfl
theorem gw_48 : Cond.selects mX9_pin.1.cls mX9_pin.1 mX9_pin.1 ∈ gT := gT_in (List.mem_of_getElem? (i := 441) (by decide +kernel)) rfl
theorem oc_11_28 : gOkC 11 28 0 (mX9_pin) 2 := Or.inl ⟨rfl, ok_mX9_pin, gT_in (List.mem_of_getElem? (i := 439) (by decide +kernel)) rfl, gw_47, gw_48, by decide⟩
theorem cl_11_28 : gCl 11 28 = some (0, mX9_pin, 2) := by unfold gCl; rw [show gClN 11 28 = some (0, 25, 2) by decide +kernel]; rfl
theorem gw_49 : Cond.instanceMethod mX9_grow.1 ∈ gT := gT_in (List.mem_of_getElem? (i := 444) (by decide +kernel)) rfl
theorem gw_50 : Cond.selects mX9_grow.1.cls mX9_grow.1 mX9_grow.1 ∈ gT := gT_in (List.mem_of_getElem? (i := 445) (by decide +kernel)) rfl
theorem oc_11_32 : gOkC 11 32 0 (mX9_grow) 2 := Or.inl ⟨rfl, ok_mX9_grow, gT_in (List.mem_of_getElem? (i := 443) (by decide +kernel)) rfl, gw_49, gw_50, by decide⟩
theorem cl_11_32 : gCl 11 32 = some (0, mX9_grow, 2) := by unfold gCl; rw [show gClN 11 32 = some (0, 26, 2) by decide +kernel]; rfl
theorem gw_51 : Cond.instanceMethod mX3_growInPlace.1 ∈ gT := gT_in (List.mem_of_getElem? (i := 448) (by decide +kernel)) rfl
theorem gw_52 : Cond.selects mX3_growInPlace.1.cls mX3_growInPlace.1 mX3_growInPlace.1 ∈ gT := gT_in (List.mem_of_getElem? (i := 449) (by decide +kernel)) rfl
theorem oc_9_123 : gOkC 9 123 0 (mX3_growInPlace) 2 := Or.inl ⟨rfl, ok_mX3_growInPlace, gT_in (List.mem_of_getElem? (i := 447) (by decide +kernel)) rfl, gw_51, gw_52, by decide⟩
theorem cl_9_123 : gCl 9 123 = some (0, mX3_growInPlace, 2) := by unfold gCl; rw [show gClN 9 123 = some (0, 27, 2) by decide +kernel]; rfl
theorem oc_3_117 : gOkC 3 117 0 (mX5_highOf) 1 := Or.inl ⟨rfl, ok_mX5_highOf, gT_in (List.mem_of_getElem? (i := 451) (by decide +kernel)) rfl, gw_11, gw_12, by decide⟩
theorem cl_3_117 : gCl 3 117 = some (0, mX5_highOf, 1) := by unfold gCl; rw [show gClN 3 117 = some (0, 6, 1) by decide +kernel]; rfl
theorem gw_53 : Cond.instanceMethod mX1_isFree.1 ∈ gT := gT_in (List.mem_of_getElem? (i := 453) (by decide +kernel)) rfl
theorem gw_54 : Cond.selects mX1_isFree.1.cls mX1_isFree.1 mX1_isFree.1 ∈ gT := gT_in (List.mem_of_getElem? (i := 454) (by decide +kernel)) rfl
theorem oc_3_120 : gOkC 3 120 0 (mX1_isFree) 2 := Or.inl ⟨rfl, ok_mX1_isFree, gT_in (List.mem_of_getElem? (i := 452) (by decide +kernel)) rfl, gw_53, gw_54, by decide⟩
theorem cl_3_120 : gCl 3 120 = some (0, mX1_isFree, 2) := by unfold gCl; rw [show gClN 3 120 = some (0, 28, 2) by decide +kernel]; rfl
theorem gw_55 : Cond.instanceMethod mX3_growElsewhere.1 ∈ gT := gT_in (List.mem_of_getElem? (i := 457) (by decide +kernel)) rfl
theorem gw_56 : Cond.selects mX3_growElsewhere.1.cls mX3_growElsewhere.1 mX3_growElsewhere.1 ∈ gT := gT_in (List.mem_of_getElem? (i := 458) (by decide +kernel)) rfl
theorem oc_9_126 : gOkC 9 126 0 (mX3_growElsewhere) 2 := Or.inl ⟨rfl, ok_mX3_growElsewhere, gT_in (List.mem_of_getElem? (i := 456) (by decide +kernel)) rfl, gw_55, gw_56, by decide⟩
theorem cl_9_126 : gCl 9 126 = some (0, mX3_growElsewhere, 2) := by unfold gCl; rw [show gClN 9 126 = some (0, 29, 2) by decide +kernel]; rfl
theorem oc_3_124 : gOkC 3 124 0 (mX3_placeFor) 2 := Or.inl ⟨rfl, ok_mX3_placeFor, gT_in (List.mem_of_getElem? (i := 460) (by decide +kernel)) rfl, gw_23, gw_24, by decide⟩
theorem cl_3_124 : gCl 3 124 = some (0, mX3_placeFor, 2) := by unfold gCl; rw [show gClN 3 124 = some (0, 13, 2) by decide +kernel]; rfl
theorem gw_57 : Cond.instanceMethod mX3_layAt.1 ∈ gT := gT_in (List.mem_of_getElem? (i := 462) (by decide +kernel)) rfl
theorem gw_58 : Cond.selects mX3_layAt.1.cls mX3_layAt.1 mX3_layAt.1 ∈ gT := gT_in (List.mem_of_getElem? (i := 463) (by decide +kernel)) rfl
theorem oc_3_128 : gOkC 3 128 0 (mX3_layAt) 2 := Or.inl ⟨rfl, ok_mX3_layAt, gT_in (List.mem_of_getElem? (i := 461) (by decide +kernel)) rfl, gw_57, gw_58, by decide⟩
theorem cl_3_128 : gCl 3 128 = some (0, mX3_layAt, 2) := by unfold gCl; rw [show gClN 3 128 = some (0, 30, 2) by decide +kernel]; rfl
theorem gw_59 : Cond.static arraycopyName ∈ gT := gT_in (List.mem_of_getElem? (i := 466) (by decide +kernel)) rfl
theorem gw_60 : Cond.native arraycopyName ∈ gT := gT_in (List.mem_of_getElem? (i := 467) (by decide +kernel)) rfl
theorem oc_3_132 : gOkC 3 132 5 (gMs 999) 0 := Or.inr (Or.inr (Or.inr (Or.inr (Or.inr ⟨rfl, gT_in (List.mem_of_getElem? (i := 465) (by decide +kernel)) rfl, gw_60, gw_59, gI_System⟩))))
theorem cl_3_132 : gCl 3 132 = some (5, gMs 999, 0) := by unfold gCl; rw [show gClN 3 132 = some (5, 999, 0) by decide +kernel]; rfl
theorem oc_3_138 : gOkC 3 138 0 (mX1_release) 2 := Or.inl ⟨rfl, ok_mX1_release, gT_in (List.mem_of_getElem? (i := 468) (by decide +kernel)) rfl, gw_0, gw_1, by decide⟩
theorem cl_3_138 : gCl 3 138 = some (0, mX1_release, 2) := by unfold gCl; rw [show gClN 3 138 = some (0, 0, 2) by decide +kernel]; rfl
theorem gw_61 : Cond.instanceMethod mX9_moves.1 ∈ gT := gT_in (List.mem_of_getElem? (i := 470) (by decide +kernel)) rfl
theorem gw_62 : Cond.selects mX9_moves.1.cls mX9_moves.1 mX9_moves.1 ∈ gT := gT_in (List.mem_of_getElem? (i := 471) (by decide +kernel)) rfl
theorem oc_11_36 : gOkC 11 36 0 (mX9_moves) 2 := Or.inl ⟨rfl, ok_mX9_moves, gT_in (List.mem_of_getElem? (i := 469) (by decide +kernel)) rfl, gw_61, gw_62, by decide⟩
theorem cl_11_36 : gCl 11 36 = some (0, mX9_moves, 2) := by unfold gCl; rw [show gClN 11 36 = some (0, 31, 2) by decide +kernel]; rfl
theorem gw_63 : Cond.instanceMethod mX3_moveWithin.1 ∈ gT := gT_in (List.mem_of_getElem? (i := 474) (by decide +kernel)) rfl
theorem gw_64 : Cond.selects mX3_moveWithin.1.cls mX3_moveWithin.1 mX3_moveWithin.1 ∈ gT := gT_in (List.mem_of_getElem? (i := 475) (by decide +kernel)) rfl
theorem oc_9_129 : gOkC 9 129 0 (mX3_moveWithin) 2 := Or.inl ⟨rfl, ok_mX3_moveWithin, gT_in (List.mem_of_getElem? (i := 473) (by decide +kernel)) rfl, gw_63, gw_64, by decide⟩
theorem cl_9_129 : gCl 9 129 = some (0, mX3_moveWithin, 2) := by unfold gCl; rw [show gClN 9 129 = some (0, 32, 2) by decide +kernel]; rfl
theorem gw_65 : Cond.instanceMethod mX3_nextToMove.1 ∈ gT := gT_in (List.mem_of_getElem? (i := 479) (by decide +kernel)) rfl
theorem gw_66 : Cond.selects mX3_nextToMove.1.cls mX3_nextToMove.1 mX3_nextToMove.1 ∈ gT := gT_in (List.mem_of_getElem? (i := 2) (by decide +kernel)) rfl
theorem oc_3_141 : gOkC 3 141 0 (mX3_nextToMove) 1 := Or.inl ⟨rfl, ok_mX3_nextToMove, gT_in (List.mem_of_getElem? (i := 477) (by decide +kernel)) rfl, gw_65, gw_66, by decide⟩
theorem cl_3_141 : gCl 3 141 = some (0, mX3_nextToMove, 1) := by unfold gCl; rw [show gClN 3 141 = some (0, 33, 1) by decide +kernel]; rfl
theorem gw_67 : Cond.instanceMethod mX3_mayMove.1 ∈ gT := gT_in (List.mem_of_getElem? (i := 483) (by decide +kernel)) rfl
theorem gw_68 : Cond.selects mX3_mayMove.1.cls mX3_mayMove.1 mX3_mayMove.1 ∈ gT := gT_in (List.mem_of_getElem? (i := 3) (by decide +kernel)) rfl
theorem oc_3_155 : gOkC 3 155 0 (mX3_mayMove) 1 := Or.inl ⟨rfl, ok_mX3_mayMove, gT_in (List.mem_of_getElem? (i := 481) (by decide +kernel)) rfl, gw_67, gw_68, by decide⟩
theorem cl_3_155 : gCl 3 155 = some (0, mX3_mayMove, 1) := by unfold gCl; rw [show gClN 3 155 = some (0, 34, 1) by decide +kernel]; rfl
theorem gw_69 : Cond.instanceMethod mX3_movedLow.1 ∈ gT := gT_in (List.mem_of_getElem? (i := 487) (by decide +kernel)) rfl
theorem gw_70 : Cond.selects mX3_movedLow.1.cls mX3_movedLow.1 mX3_movedLow.1 ∈ gT := gT_in (List.mem_of_getElem? (i := 4) (by decide +kernel)) rfl
theorem oc_3_144 : gOkC 3 144 0 (mX3_movedLow) 1 := Or.inl ⟨rfl, ok_mX3_movedLow, gT_in (List.mem_of_getElem? (i := 485) (by decide +kernel)) rfl, gw_69, gw_70, by decide⟩
theorem cl_3_144 : gCl 3 144 = some (0, mX3_movedLow, 1) := by unfold gCl; rw [show gClN 3 144 = some (0, 35, 1) by decide +kernel]; rfl
theorem gw_71 : Cond.instanceMethod mX9_write.1 ∈ gT := gT_in (List.mem_of_getElem? (i := 490) (by decide +kernel)) rfl
theorem gw_72 : Cond.selects mX9_write.1.cls mX9_write.1 mX9_write.1 ∈ gT := gT_in (List.mem_of_getElem? (i := 491) (by decide +kernel)) rfl
theorem oc_11_40 : gOkC 11 40 0 (mX9_write) 3 := Or.inl ⟨rfl, ok_mX9_write, gT_in (List.mem_of_getElem? (i := 489) (by decide +kernel)) rfl, gw_71, gw_72, by decide⟩
theorem cl_11_40 : gCl 11 40 = some (0, mX9_write, 3) := by unfold gCl; rw [show gClN 11 40 = some (0, 36, 3) by decide +kernel]; rfl
theorem gw_73 : Cond.instanceMethod mX3_cellAt.1 ∈ gT := gT_in (List.mem_of_getElem? (i := 494) (by decide +kernel)) rfl
theorem gw_74 : Cond.selects mX3_cellAt.1.cls mX3_cellAt.1 mX3_cellAt.1 ∈ gT := gT_in (List.mem_of_getElem? (i := 495) (by decide +kernel)) rfl
theorem oc_9_132 : gOkC 9 132 0 (mX3_cellAt) 2 := Or.inl ⟨rfl, ok_mX3_cellAt, gT_in (List.mem_of_getElem? (i := 493) (by decide +kernel)) rfl, gw_73, gw_74, by decide⟩
theorem cl_9_132 : gCl 9 132 = some (0, mX3_cellAt, 2) := by unfold gCl; rw [show gClN 9 132 = some (0, 37, 2) by decide +kernel]; rfl
theorem gw_75 : Cond.instanceMethod mX9_read.1 ∈ gT := gT_in (List.mem_of_getElem? (i := 499) (by decide +kernel)) rfl
theorem gw_76 : Cond.selects mX9_read.1.cls mX9_read.1 mX9_read.1 ∈ gT := gT_in (List.mem_of_getElem? (i := 500) (by decide +kernel)) rfl
theorem oc_11_44 : gOkC 11 44 0 (mX9_read) 2 := Or.inl ⟨rfl, ok_mX9_read, gT_in (List.mem_of_getElem? (i := 498) (by decide +kernel)) rfl, gw_75, gw_76, by decide⟩
theorem cl_11_44 : gCl 11 44 = some (0, mX9_read, 2) := by unfold gCl; rw [show gClN 11 44 = some (0, 38, 2) by decide +kernel]; rfl
theorem gw_77 : Cond.instanceMethod mX9_peek.1 ∈ gT := gT_in (List.mem_of_getElem? (i := 503) (by decide +kernel)) rfl
theorem gw_78 : Cond.selects mX9_peek.1.cls mX9_peek.1 mX9_peek.1 ∈ gT := gT_in (List.mem_of_getElem? (i := 504) (by decide +kernel)) rfl
theorem oc_11_48 : gOkC 11 48 0 (mX9_peek) 3 := Or.inl ⟨rfl, ok_mX9_peek, gT_in (List.mem_of_getElem? (i := 502) (by decide +kernel)) rfl, gw_77, gw_78, by decide⟩
theorem cl_11_48 : gCl 11 48 = some (0, mX9_peek, 3) := by unfold gCl; rw [show gClN 11 48 = some (0, 39, 3) by decide +kernel]; rfl
theorem gw_79 : Cond.static mX9_isReader.1 ∈ gT := gT_in (List.mem_of_getElem? (i := 507) (by decide +kernel)) rfl
theorem oc_9_139 : gOkC 9 139 1 (mX9_isReader) 1 := Or.inr (Or.inl ⟨rfl, ok_mX9_isReader, gT_in (List.mem_of_getElem? (i := 506) (by decide +kernel)) rfl, gw_79⟩)
theorem cl_9_139 : gCl 9 139 = some (1, mX9_isReader, 1) := by unfold gCl; rw [show gClN 9 139 = some (1, 40, 1) by decide +kernel]; rfl
theorem oc_9_145 : gOkC 9 145 0 (mX0_slotOf) 1 := Or.inl ⟨rfl, ok_mX0_slotOf, gT_in (List.mem_of_getElem? (i := 509) (by decide +kernel)) rfl, gw_41, gw_42, by decide⟩
theorem cl_9_145 : gCl 9 145 = some (0, mX0_slotOf, 1) := by unfold gCl; rw [show gClN 9 145 = some (0, 22, 1) by decide +kernel]; rfl
theorem gw_80 : Cond.instanceMethod mX3_seenSince.1 ∈ gT := gT_in (List.mem_of_getElem? (i := 511) (by decide +kernel)) rfl
theorem gw_81 : Cond.selects mX3_seenSince.1.cls mX3_seenSince.1 mX3_seenSince.1 ∈ gT := gT_in (List.mem_of_getElem? (i := 512) (by decide +kernel)) rfl
theorem oc_9_148 : gOkC 9 148 0 (mX3_seenSince) 2 := Or.inl ⟨rfl, ok_mX3_seenSince, gT_in (List.mem_of_getElem? (i := 510) (by decide +kernel)) rfl, gw_80, gw_81, by decide⟩
theorem cl_9_148 : gCl 9 148 = some (0, mX3_seenSince, 2) := by unfold gCl; rw [show gClN 9 148 = some (0, 41, 2) by decide +kernel]; rfl
theorem gw_82 : Cond.instanceMethod mX9_of.1 ∈ gT := gT_in (List.mem_of_getElem? (i := 515) (by decide +kernel)) rfl
theorem gw_83 : Cond.selects mX9_of.1.cls mX9_of.1 mX9_of.1 ∈ gT := gT_in (List.mem_of_getElem? (i := 516) (by decide +kernel)) rfl
theorem oc_11_52 : gOkC 11 52 0 (mX9_of) 2 := Or.inl ⟨rfl, ok_mX9_of, gT_in (List.mem_of_getElem? (i := 514) (by decide +kernel)) rfl, gw_82, gw_83, by decide⟩
theorem cl_11_52 : gCl 11 52 = some (0, mX9_of, 2) := by unfold gCl; rw [show gClN 11 52 = some (0, 42, 2) by decide +kernel]; rfl
theorem gw_84 : Cond.static mX9_notIfNone.1 ∈ gT := gT_in (List.mem_of_getElem? (i := 519) (by decide +kernel)) rfl
theorem oc_9_160 : gOkC 9 160 1 (mX9_notIfNone) 1 := Or.inr (Or.inl ⟨rfl, ok_mX9_notIfNone, gT_in (List.mem_of_getElem? (i := 518) (by decide +kernel)) rfl, gw_84⟩)
theorem cl_9_160 : gCl 9 160 = some (1, mX9_notIfNone, 1) := by unfold gCl; rw [show gClN 9 160 = some (1, 43, 1) by decide +kernel]; rfl
theorem gw_85 : Cond.instanceMethod mX9_slot.1 ∈ gT := gT_in (List.mem_of_getElem? (i := 522) (by decide +kernel)) rfl
theorem gw_86 : Cond.selects mX9_slot.1.cls mX9_slot.1 mX9_slot.1 ∈ gT := gT_in (List.mem_of_getElem? (i := 523) (by decide +kernel)) rfl
theorem oc_11_56 : gOkC 11 56 0 (mX9_slot) 2 := Or.inl ⟨rfl, ok_mX9_slot, gT_in (List.mem_of_getElem? (i := 521) (by decide +kernel)) rfl, gw_85, gw_86, by decide⟩
theorem cl_11_56 : gCl 11 56 = some (0, mX9_slot, 2) := by unfold gCl; rw [show gClN 11 56 = some (0, 44, 2) by decide +kernel]; rfl
theorem gw_87 : Cond.instanceMethod mX0_liveHandleOf.1 ∈ gT := gT_in (List.mem_of_getElem? (i := 526) (by decide +kernel)) rfl
theorem gw_88 : Cond.selects mX0_liveHandleOf.1.cls mX0_liveHandleOf.1 mX0_liveHandleOf.1 ∈ gT := gT_in (List.mem_of_getElem? (i := 527) (by decide +kernel)) rfl
theorem oc_9_166 : gOkC 9 166 0 (mX0_liveHandleOf) 1 := Or.inl ⟨rfl, ok_mX0_liveHandleOf, gT_in (List.mem_of_getElem? (i := 525) (by decide +kernel)) rfl, gw_87, gw_88, by decide⟩
theorem cl_9_166 : gCl 9 166 = some (0, mX0_liveHandleOf, 1) := by unfold gCl; rw [show gClN 9 166 = some (0, 45, 1) by decide +kernel]; rfl
theorem oc_0_39 : gOkC 0 39 0 (mX0_handleOf) 1 := Or.inl ⟨rfl, ok_mX0_handleOf, gT_in (List.mem_of_getElem? (i := 529) (by decide +kernel)) rfl, gw_35, gw_36, by decide⟩
theorem cl_0_39 : gCl 0 39 = some (0, mX0_handleOf, 1) := by unfold gCl; rw [show gClN 0 39 = some (0, 19, 1) by decide +kernel]; rfl
theorem gw_89 : Cond.instanceMethod mX9_lies.1 ∈ gT := gT_in (List.mem_of_getElem? (i := 531) (by decide +kernel)) rfl
theorem gw_90 : Cond.selects mX9_lies.1.cls mX9_lies.1 mX9_lies.1 ∈ gT := gT_in (List.mem_of_getElem? (i := 532) (by decide +kernel)) rfl
theorem oc_11_60 : gOkC 11 60 0 (mX9_lies) 1 := Or.inl ⟨rfl, ok_mX9_lies, gT_in (List.mem_of_getElem? (i := 530) (by decide +kernel)) rfl, gw_89, gw_90, by decide⟩
theorem cl_11_60 : gCl 11 60 = some (0, mX9_lies, 1) := by unfold gCl; rw [show gClN 11 60 = some (0, 46, 1) by decide +kernel]; rfl
theorem oc_9_184 : gOkC 9 184 0 (mX5_end) 0 := Or.inl ⟨rfl, ok_mX5_end, gT_in (List.mem_of_getElem? (i := 534) (by decide +kernel)) rfl, gw_7, gw_8, by decide⟩
theorem cl_9_184 : gCl 9 184 = some (0, mX5_end, 0) := by unfold gCl; rw [show gClN 9 184 = some (0, 4, 0) by decide +kernel]; rfl
theorem gw_91 : Cond.instanceMethod mX9_tag.1 ∈ gT := gT_in (List.mem_of_getElem? (i := 536) (by decide +kernel)) rfl
theorem gw_92 : Cond.selects mX9_tag.1.cls mX9_tag.1 mX9_tag.1 ∈ gT := gT_in (List.mem_of_getElem? (i := 537) (by decide +kernel)) rfl
theorem oc_11_64 : gOkC 11 64 0 (mX9_tag) 2 := Or.inl ⟨rfl, ok_mX9_tag, gT_in (List.mem_of_getElem? (i := 535) (by decide +kernel)) rfl, gw_91, gw_92, by decide⟩
theorem cl_11_64 : gCl 11 64 = some (0, mX9_tag, 2) := by unfold gCl; rw [show gClN 11 64 = some (0, 47, 2) by decide +kernel]; rfl
theorem gw_93 : Cond.static mX9_isTag.1 ∈ gT := gT_in (List.mem_of_getElem? (i := 540) (by decide +kernel)) rfl
theorem oc_9_187 : gOkC 9 187 1 (mX9_isTag) 1 := Or.inr (Or.inl ⟨rfl, ok_mX9_isTag, gT_in (List.mem_of_getElem? (i := 539) (by decide +kernel)) rfl, gw_93⟩)
theorem cl_9_187 : gCl 9 187 = some (1, mX9_isTag, 1) := by unfold gCl; rw [show gClN 9 187 = some (1, 48, 1) by decide +kernel]; rfl
theorem gw_94 : Cond.instanceMethod mX3_tagBearer.1 ∈ gT := gT_in (List.mem_of_getElem? (i := 543) (by decide +kernel)) rfl
theorem gw_95 : Cond.selects mX3_tagBearer.1.cls mX3_tagBearer.1 mX3_tagBearer.1 ∈ gT := gT_in (List.mem_of_getElem? (i := 544) (by decide +kernel)) rfl
theorem oc_9_190 : gOkC 9 190 0 (mX3_tagBearer) 1 := Or.inl ⟨rfl, ok_mX3_tagBearer, gT_in (List.mem_of_getElem? (i := 542) (by decide +kernel)) rfl, gw_94, gw_95, by decide⟩
theorem cl_9_190 : gCl 9 190 = some (0, mX3_tagBearer, 1) := by unfold gCl; rw [show gClN 9 190 = some (0, 49, 1) by decide +kernel]; rfl
theorem gw_96 : Cond.instanceMethod mX6_slotAt.1 ∈ gT := gT_in (List.mem_of_getElem? (i := 547) (by decide +kernel)) rfl
theorem gw_97 : Cond.selects mX6_slotAt.1.cls mX6_slotAt.1 mX6_slotAt.1 ∈ gT := gT_in (List.mem_of_getElem? (i := 548) (by decide +kernel)) rfl
theorem oc_3_162 : gOkC 3 162 0 (mX6_slotAt) 1 := Or.inl ⟨rfl, ok_mX6_slotAt, gT_in (List.mem_of_getElem? (i := 546) (by decide +kernel)) rfl, gw_96, gw_97, by decide⟩
theorem cl_3_162 : gCl 3 162 = some (0, mX6_slotAt, 1) := by unfold gCl; rw [show gClN 3 162 = some (0, 50, 1) by decide +kernel]; rfl
theorem gw_98 : Cond.instanceMethod mX3_giveTag.1 ∈ gT := gT_in (List.mem_of_getElem? (i := 551) (by decide +kernel)) rfl
theorem gw_99 : Cond.selects mX3_giveTag.1.cls mX3_giveTag.1 mX3_giveTag.1 ∈ gT := gT_in (List.mem_of_getElem? (i := 552) (by decide +kernel)) rfl
theorem oc_9_193 : gOkC 9 193 0 (mX3_giveTag) 2 := Or.inl ⟨rfl, ok_mX3_giveTag, gT_in (List.mem_of_getElem? (i := 550) (by decide +kernel)) rfl, gw_98, gw_99, by decide⟩
theorem cl_9_193 : gCl 9 193 = some (0, mX3_giveTag, 2) := by unfold gCl; rw [show gClN 9 193 = some (0, 51, 2) by decide +kernel]; rfl
theorem gw_100 : Cond.instanceMethod mX6_addLast.1 ∈ gT := gT_in (List.mem_of_getElem? (i := 555) (by decide +kernel)) rfl
theorem gw_101 : Cond.selects mX6_addLast.1.cls mX6_addLast.1 mX6_addLast.1 ∈ gT := gT_in (List.mem_of_getElem? (i := 556) (by decide +kernel)) rfl
theorem oc_3_164 : gOkC 3 164 0 (mX6_addLast) 1 := Or.inl ⟨rfl, ok_mX6_addLast, gT_in (List.mem_of_getElem? (i := 554) (by decide +kernel)) rfl, gw_100, gw_101, by decide⟩
theorem cl_3_164 : gCl 3 164 = some (0, mX6_addLast, 1) := by unfold gCl; rw [show gClN 3 164 = some (0, 52, 1) by decide +kernel]; rfl
theorem gw_102 : Cond.instanceMethod mX9_find.1 ∈ gT := gT_in (List.mem_of_getElem? (i := 559) (by decide +kernel)) rfl
theorem gw_103 : Cond.selects mX9_find.1.cls mX9_find.1 mX9_find.1 ∈ gT := gT_in (List.mem_of_getElem? (i := 560) (by decide +kernel)) rfl
theorem oc_11_68 : gOkC 11 68 0 (mX9_find) 1 := Or.inl ⟨rfl, ok_mX9_find, gT_in (List.mem_of_getElem? (i := 558) (by decide +kernel)) rfl, gw_102, gw_103, by decide⟩
theorem cl_11_68 : gCl 11 68 = some (0, mX9_find, 1) := by unfold gCl; rw [show gClN 11 68 = some (0, 53, 1) by decide +kernel]; rfl
theorem gw_104 : Cond.instanceMethod mX9_tagged.1 ∈ gT := gT_in (List.mem_of_getElem? (i := 563) (by decide +kernel)) rfl
theorem gw_105 : Cond.selects mX9_tagged.1.cls mX9_tagged.1 mX9_tagged.1 ∈ gT := gT_in (List.mem_of_getElem? (i := 564) (by decide +kernel)) rfl
theorem oc_11_72 : gOkC 11 72 0 (mX9_tagged) 1 := Or.inl ⟨rfl, ok_mX9_tagged, gT_in (List.mem_of_getElem? (i := 562) (by decide +kernel)) rfl, gw_104, gw_105, by decide⟩
theorem cl_11_72 : gCl 11 72 = some (0, mX9_tagged, 1) := by unfold gCl; rw [show gClN 11 72 = some (0, 54, 1) by decide +kernel]; rfl
theorem oc_9_206 : gOkC 9 206 0 (mX6_slotAt) 1 := Or.inl ⟨rfl, ok_mX6_slotAt, gT_in (List.mem_of_getElem? (i := 566) (by decide +kernel)) rfl, gw_96, gw_97, by decide⟩
theorem cl_9_206 : gCl 9 206 = some (0, mX6_slotAt, 1) := by unfold gCl; rw [show gClN 9 206 = some (0, 50, 1) by decide +kernel]; rfl
theorem gw_106 : Cond.instanceMethod mX9_quota.1 ∈ gT := gT_in (List.mem_of_getElem? (i := 568) (by decide +kernel)) rfl
theorem gw_107 : Cond.selects mX9_quota.1.cls mX9_quota.1 mX9_quota.1 ∈ gT := gT_in (List.mem_of_getElem? (i := 569) (by decide +kernel)) rfl
theorem oc_11_76 : gOkC 11 76 0 (mX9_quota) 2 := Or.inl ⟨rfl, ok_mX9_quota, gT_in (List.mem_of_getElem? (i := 567) (by decide +kernel)) rfl, gw_106, gw_107, by decide⟩
theorem cl_11_76 : gCl 11 76 = some (0, mX9_quota, 2) := by unfold gCl; rw [show gClN 11 76 = some (0, 55, 2) by decide +kernel]; rfl
theorem oc_9_208 : gOkC 9 208 0 (mX0_usedBy) 1 := Or.inl ⟨rfl, ok_mX0_usedBy, gT_in (List.mem_of_getElem? (i := 571) (by decide +kernel)) rfl, gw_19, gw_20, by decide⟩
theorem cl_9_208 : gCl 9 208 = some (0, mX0_usedBy, 1) := by unfold gCl; rw [show gClN 9 208 = some (0, 11, 1) by decide +kernel]; rfl
theorem gw_108 : Cond.instanceMethod mX9_owner.1 ∈ gT := gT_in (List.mem_of_getElem? (i := 573) (by decide +kernel)) rfl
theorem gw_109 : Cond.selects mX9_owner.1.cls mX9_owner.1 mX9_owner.1 ∈ gT := gT_in (List.mem_of_getElem? (i := 574) (by decide +kernel)) rfl
theorem oc_11_80 : gOkC 11 80 0 (mX9_owner) 2 := Or.inl ⟨rfl, ok_mX9_owner, gT_in (List.mem_of_getElem? (i := 572) (by decide +kernel)) rfl, gw_108, gw_109, by decide⟩
theorem cl_11_80 : gCl 11 80 = some (0, mX9_owner, 2) := by unfold gCl; rw [show gClN 11 80 = some (0, 56, 2) by decide +kernel]; rfl
theorem gw_110 : Cond.instanceMethod mX9_leakedCellsOf.1 ∈ gT := gT_in (List.mem_of_getElem? (i := 578) (by decide +kernel)) rfl
theorem gw_111 : Cond.selects mX9_leakedCellsOf.1.cls mX9_leakedCellsOf.1 mX9_leakedCellsOf.1 ∈ gT := gT_in (List.mem_of_getElem? (i := 5) (by decide +kernel)) rfl
theorem oc_9_214 : gOkC 9 214 0 (mX9_leakedCellsOf) 1 := Or.inl ⟨rfl, ok_mX9_leakedCellsOf, gT_in (List.mem_of_getElem? (i := 576) (by decide +kernel)) rfl, gw_110, gw_111, by decide⟩
theorem cl_9_214 : gCl 9 214 = some (0, mX9_leakedCellsOf, 1) := by unfold gCl; rw [show gClN 9 214 = some (0, 57, 1) by decide +kernel]; rfl
theorem gw_112 : Cond.instanceMethod mX8_fromTagsAndPins.1 ∈ gT := gT_in (List.mem_of_getElem? (i := 581) (by decide +kernel)) rfl
theorem gw_113 : Cond.selects mX8_fromTagsAndPins.1.cls mX8_fromTagsAndPins.1 mX8_fromTagsAndPins.1 ∈ gT := gT_in (List.mem_of_getElem? (i := 582) (by decide +kernel)) rfl
theorem oc_9_243 : gOkC 9 243 0 (mX8_fromTagsAndPins) 1 := Or.inl ⟨rfl, ok_mX8_fromTagsAndPins, gT_in (List.mem_of_getElem? (i := 580) (by decide +kernel)) rfl, gw_112, gw_113, by decide⟩
theorem cl_9_243 : gCl 9 243 = some (0, mX8_fromTagsAndPins, 1) := by unfold gCl; rw [show gClN 9 243 = some (0, 58, 1) by decide +kernel]; rfl
theorem gw_114 : Cond.instanceMethod mX8_begin.1 ∈ gT := gT_in (List.mem_of_getElem? (i := 586) (by decide +kernel)) rfl
theorem gw_115 : Cond.selects mX8_begin.1.cls mX8_begin.1 mX8_begin.1 ∈ gT := gT_in (List.mem_of_getElem? (i := 6) (by decide +kernel)) rfl
theorem oc_8_18 : gOkC 8 18 0 (mX8_begin) 0 := Or.inl ⟨rfl, ok_mX8_begin, gT_in (List.mem_of_getElem? (i := 584) (by decide +kernel)) rfl, gw_114, gw_115, by decide⟩
theorem cl_8_18 : gCl 8 18 = some (0, mX8_begin, 0) := by unfold gCl; rw [show gClN 8 18 = some (0, 59, 0) by decide +kernel]; rfl
theorem oc_8_46 : gOkC 8 46 2 (mX9_fill) 4 := Or.inr (Or.inr (Or.inl ⟨rfl, ok_mX9_fill, ⟨"RegionHandles", List.mem_of_getElem? (i := 9) (by decide +kernel)⟩, gw_2⟩))
theorem cl_8_46 : gCl 8 46 = some (2, mX9_fill, 4) := by unfold gCl; rw [show gClN 8 46 = some (2, 1, 4) by decide +kernel]; rfl
theorem gw_116 : Cond.instanceMethod mX8_comeTo.1 ∈ gT := gT_in (List.mem_of_getElem? (i := 591) (by decide +kernel)) rfl
theorem gw_117 : Cond.selects mX8_comeTo.1.cls mX8_comeTo.1 mX8_comeTo.1 ∈ gT := gT_in (List.mem_of_getElem? (i := 7) (by decide +kernel)) rfl
theorem oc_8_38 : gOkC 8 38 0 (mX8_comeTo) 2 := Or.inl ⟨rfl, ok_mX8_comeTo, gT_in (List.mem_of_getElem? (i := 589) (by decide +kernel)) rfl, gw_116, gw_117, by decide⟩
theorem cl_8_38 : gCl 8 38 = some (0, mX8_comeTo, 2) := by unfold gCl; rw [show gClN 8 38 = some (0, 60, 2) by decide +kernel]; rfl
theorem gw_118 : Cond.instanceMethod mX8_goOn.1 ∈ gT := gT_in (List.mem_of_getElem? (i := 595) (by decide +kernel)) rfl
theorem gw_119 : Cond.selects mX8_goOn.1.cls mX8_goOn.1 mX8_goOn.1 ∈ gT := gT_in (List.mem_of_getElem? (i := 8) (by decide +kernel)) rfl
theorem oc_8_42 : gOkC 8 42 0 (mX8_goOn) 1 := Or.inl ⟨rfl, ok_mX8_goOn, gT_in (List.mem_of_getElem? (i := 593) (by decide +kernel)) rfl, gw_118, gw_119, by decide⟩
theorem cl_8_42 : gCl 8 42 = some (0, mX8_goOn, 1) := by unfold gCl; rw [show gClN 8 42 = some (0, 61, 1) by decide +kernel]; rfl
theorem oc_8_63 : gOkC 8 63 0 (mX0_liveSlotOf) 1 := Or.inl ⟨rfl, ok_mX0_liveSlotOf, gT_in (List.mem_of_getElem? (i := 597) (by decide +kernel)) rfl, gw_39, gw_40, by decide⟩
theorem cl_8_63 : gCl 8 63 = some (0, mX0_liveSlotOf, 1) := by unfold gCl; rw [show gClN 8 63 = some (0, 21, 1) by decide +kernel]; rfl
theorem gw_120 : Cond.instanceMethod mX9_isLeaked.1 ∈ gT := gT_in (List.mem_of_getElem? (i := 600) (by decide +kernel)) rfl
theorem gw_121 : Cond.selects mX9_isLeaked.1.cls mX9_isLeaked.1 mX9_isLeaked.1 ∈ gT := gT_in (List.mem_of_getElem? (i := 9) (by decide +kernel)) rfl
theorem oc_9_246 : gOkC 9 246 0 (mX9_isLeaked) 1 := Or.inl ⟨rfl, ok_mX9_isLeaked, gT_in (List.mem_of_getElem? (i := 598) (by decide +kernel)) rfl, gw_120, gw_121, by decide⟩
theorem cl_9_246 : gCl 9 246 = some (0, mX9_isLeaked, 1) := by unfold gCl; rw [show gClN 9 246 = some (0, 62, 1) by decide +kernel]; rfl
theorem gw_122 : Cond.instanceMethod mX0_liveOf.1 ∈ gT := gT_in (List.mem_of_getElem? (i := 603) (by decide +kernel)) rfl
theorem gw_123 : Cond.selects mX0_liveOf.1.cls mX0_liveOf.1 mX0_liveOf.1 ∈ gT := gT_in (List.mem_of_getElem? (i := 604) (by decide +kernel)) rfl
theorem oc_9_217 : gOkC 9 217 0 (mX0_liveOf) 1 := Or.inl ⟨rfl, ok_mX0_liveOf, gT_in (List.mem_of_getElem? (i := 602) (by decide +kernel)) rfl, gw_122, gw_123, by decide⟩
theorem cl_9_217 : gCl 9 217 = some (0, mX0_liveOf, 1) := by unfold gCl; rw [show gClN 9 217 = some (0, 63, 1) by decide +kernel]; rfl
theorem gw_124 : Cond.instanceMethod mX9_enter.1 ∈ gT := gT_in (List.mem_of_getElem? (i := 607) (by decide +kernel)) rfl
theorem gw_125 : Cond.selects mX9_enter.1.cls mX9_enter.1 mX9_enter.1 ∈ gT := gT_in (List.mem_of_getElem? (i := 608) (by decide +kernel)) rfl
theorem oc_11_84 : gOkC 11 84 0 (mX9_enter) 1 := Or.inl ⟨rfl, ok_mX9_enter, gT_in (List.mem_of_getElem? (i := 606) (by decide +kernel)) rfl, gw_124, gw_125, by decide⟩
theorem cl_11_84 : gCl 11 84 = some (0, mX9_enter, 1) := by unfold gCl; rw [show gClN 11 84 = some (0, 64, 1) by decide +kernel]; rfl
theorem gw_126 : Cond.instanceMethod mX9_leave.1 ∈ gT := gT_in (List.mem_of_getElem? (i := 611) (by decide +kernel)) rfl
theorem gw_127 : Cond.selects mX9_leave.1.cls mX9_leave.1 mX9_leave.1 ∈ gT := gT_in (List.mem_of_getElem? (i := 612) (by decide +kernel)) rfl
theorem oc_11_88 : gOkC 11 88 0 (mX9_leave) 1 := Or.inl ⟨rfl, ok_mX9_leave, gT_in (List.mem_of_getElem? (i := 610) (by decide +kernel)) rfl, gw_126, gw_127, by decide⟩
theorem cl_11_88 : gCl 11 88 = some (0, mX9_leave, 1) := by unfold gCl; rw [show gClN 11 88 = some (0, 65, 1) by decide +kernel]; rfl
theorem gw_128 : Cond.instanceMethod mX9_advance.1 ∈ gT := gT_in (List.mem_of_getElem? (i := 615) (by decide +kernel)) rfl
theorem gw_129 : Cond.selects mX9_advance.1.cls mX9_advance.1 mX9_advance.1 ∈ gT := gT_in (List.mem_of_getElem? (i := 616) (by decide +kernel)) rfl
theorem oc_11_92 : gOkC 11 92 0 (mX9_advance) 0 := Or.inl ⟨rfl, ok_mX9_advance, gT_in (List.mem_of_getElem? (i := 614) (by decide +kernel)) rfl, gw_128, gw_129, by decide⟩
theorem cl_11_92 : gCl 11 92 = some (0, mX9_advance, 0) := by unfold gCl; rw [show gClN 11 92 = some (0, 66, 0) by decide +kernel]; rfl
theorem gw_130 : Cond.instanceMethod mX3_dropFreeable.1 ∈ gT := gT_in (List.mem_of_getElem? (i := 619) (by decide +kernel)) rfl
theorem gw_131 : Cond.selects mX3_dropFreeable.1.cls mX3_dropFreeable.1 mX3_dropFreeable.1 ∈ gT := gT_in (List.mem_of_getElem? (i := 620) (by decide +kernel)) rfl
theorem oc_9_220 : gOkC 9 220 0 (mX3_dropFreeable) 0 := Or.inl ⟨rfl, ok_mX3_dropFreeable, gT_in (List.mem_of_getElem? (i := 618) (by decide +kernel)) rfl, gw_130, gw_131, by decide⟩
theorem cl_9_220 : gCl 9 220 = some (0, mX3_dropFreeable, 0) := by unfold gCl; rw [show gClN 9 220 = some (0, 67, 0) by decide +kernel]; rfl
theorem gw_132 : Cond.instanceMethod mX3_isFreeable.1 ∈ gT := gT_in (List.mem_of_getElem? (i := 624) (by decide +kernel)) rfl
theorem gw_133 : Cond.selects mX3_isFreeable.1.cls mX3_isFreeable.1 mX3_isFreeable.1 ∈ gT := gT_in (List.mem_of_getElem? (i := 10) (by decide +kernel)) rfl
theorem oc_3_167 : gOkC 3 167 0 (mX3_isFreeable) 1 := Or.inl ⟨rfl, ok_mX3_isFreeable, gT_in (List.mem_of_getElem? (i := 622) (by decide +kernel)) rfl, gw_132, gw_133, by decide⟩
theorem cl_3_167 : gCl 3 167 = some (0, mX3_isFreeable, 1) := by unfold gCl; rw [show gClN 3 167 = some (0, 68, 1) by decide +kernel]; rfl
theorem gw_134 : Cond.instanceMethod mX9_would.1 ∈ gT := gT_in (List.mem_of_getElem? (i := 627) (by decide +kernel)) rfl
theorem gw_135 : Cond.selects mX9_would.1.cls mX9_would.1 mX9_would.1 ∈ gT := gT_in (List.mem_of_getElem? (i := 628) (by decide +kernel)) rfl
theorem oc_11_97 : gOkC 11 97 0 (mX9_would) 3 := Or.inl ⟨rfl, ok_mX9_would, gT_in (List.mem_of_getElem? (i := 626) (by decide +kernel)) rfl, gw_134, gw_135, by decide⟩
theorem cl_11_97 : gCl 11 97 = some (0, mX9_would, 3) := by unfold gCl; rw [show gClN 11 97 = some (0, 69, 3) by decide +kernel]; rfl
theorem oc_9_224 : gOkC 9 224 0 (mX5_highOf) 1 := Or.inl ⟨rfl, ok_mX5_highOf, gT_in (List.mem_of_getElem? (i := 630) (by decide +kernel)) rfl, gw_11, gw_12, by decide⟩
theorem cl_9_224 : gCl 9 224 = some (0, mX5_highOf, 1) := by unfold gCl; rw [show gClN 9 224 = some (0, 6, 1) by decide +kernel]; rfl
theorem gw_136 : Cond.instanceMethod mX1_freeCells.1 ∈ gT := gT_in (List.mem_of_getElem? (i := 632) (by decide +kernel)) rfl
theorem gw_137 : Cond.selects mX1_freeCells.1.cls mX1_freeCells.1 mX1_freeCells.1 ∈ gT := gT_in (List.mem_of_getElem? (i := 633) (by decide +kernel)) rfl
theorem oc_9_227 : gOkC 9 227 0 (mX1_freeCells) 2 := Or.inl ⟨rfl, ok_mX1_freeCells, gT_in (List.mem_of_getElem? (i := 631) (by decide +kernel)) rfl, gw_136, gw_137, by decide⟩
theorem cl_9_227 : gCl 9 227 = some (0, mX1_freeCells, 2) := by unfold gCl; rw [show gClN 9 227 = some (0, 70, 2) by decide +kernel]; rfl
theorem gw_138 : Cond.instanceMethod mX1_longestFreeRow.1 ∈ gT := gT_in (List.mem_of_getElem? (i := 636) (by decide +kernel)) rfl
theorem gw_139 : Cond.selects mX1_longestFreeRow.1.cls mX1_longestFreeRow.1 mX1_longestFreeRow.1 ∈ gT := gT_in (List.mem_of_getElem? (i := 637) (by decide +kernel)) rfl
theorem oc_9_230 : gOkC 9 230 0 (mX1_longestFreeRow) 2 := Or.inl ⟨rfl, ok_mX1_longestFreeRow, gT_in (List.mem_of_getElem? (i := 635) (by decide +kernel)) rfl, gw_138, gw_139, by decide⟩
theorem cl_9_230 : gCl 9 230 = some (0, mX1_longestFreeRow, 2) := by unfold gCl; rw [show gClN 9 230 = some (0, 71, 2) by decide +kernel]; rfl
theorem gw_140 : Cond.static Lib.Math.max.name ∈ gT := gT_in (List.mem_of_getElem? (i := 640) (by decide +kernel)) rfl
theorem gw_141 : Cond.code Lib.Math.max.name Lib.Math.max.code 2 (some .int) ∈ gT := gT_in (List.mem_of_getElem? (i := 641) (by decide +kernel)) rfl
theorem oc_1_42 : gOkC 1 42 4 (gMs 999) 0 := Or.inr (Or.inr (Or.inr (Or.inr (Or.inl ⟨rfl, gT_in (List.mem_of_getElem? (i := 639) (by decide +kernel)) rfl, gw_140, gI_Math, gw_141⟩))))
theorem cl_1_42 : gCl 1 42 = some (4, gMs 999, 0) := by unfold gCl; rw [show gClN 1 42 = some (4, 999, 0) by decide +kernel]; rfl
theorem gw_142 : Cond.instanceMethod mX1_freeRows.1 ∈ gT := gT_in (List.mem_of_getElem? (i := 643) (by decide +kernel)) rfl
theorem gw_143 : Cond.selects mX1_freeRows.1.cls mX1_freeRows.1 mX1_freeRows.1 ∈ gT := gT_in (List.mem_of_getElem? (i := 644) (by decide +kernel)) rfl
theorem oc_9_233 : gOkC 9 233 0 (mX1_freeRows) 2 := Or.inl ⟨rfl, ok_mX1_freeRows, gT_in (List.mem_of_getElem? (i := 642) (by decide +kernel)) rfl, gw_142, gw_143, by decide⟩
theorem cl_9_233 : gCl 9 233 = some (0, mX1_freeRows, 2) := by unfold gCl; rw [show gClN 9 233 = some (0, 72, 2) by decide +kernel]; rfl
theorem gw_144 : Cond.instanceMethod mX9_least.1 ∈ gT := gT_in (List.mem_of_getElem? (i := 647) (by decide +kernel)) rfl
theorem gw_145 : Cond.selects mX9_least.1.cls mX9_least.1 mX9_least.1 ∈ gT := gT_in (List.mem_of_getElem? (i := 648) (by decide +kernel)) rfl
theorem oc_11_101 : gOkC 11 101 0 (mX9_least) 2 := Or.inl ⟨rfl, ok_mX9_least, gT_in (List.mem_of_getElem? (i := 646) (by decide +kernel)) rfl, gw_144, gw_145, by decide⟩
theorem cl_11_101 : gCl 11 101 = some (0, mX9_least, 2) := by unfold gCl; rw [show gClN 11 101 = some (0, 73, 2) by decide +kernel]; rfl
theorem gw_146 : Cond.instanceMethod mX3_copyFrom.1 ∈ gT := gT_in (List.mem_of_getElem? (i := 651) (by decide +kernel)) rfl
theorem gw_147 : Cond.selects mX3_copyFrom.1.cls mX3_copyFrom.1 mX3_copyFrom.1 ∈ gT := gT_in (List.mem_of_getElem? (i := 652) (by decide +kernel)) rfl
theorem oc_9_236 : gOkC 9 236 0 (mX3_copyFrom) 1 := Or.inl ⟨rfl, ok_mX3_copyFrom, gT_in (List.mem_of_getElem? (i := 650) (by decide +kernel)) rfl, gw_146, gw_147, by decide⟩
theorem cl_9_236 : gCl 9 236 = some (0, mX3_copyFrom, 1) := by unfold gCl; rw [show gClN 9 236 = some (0, 74, 1) by decide +kernel]; rfl
theorem gw_148 : Cond.static mX9_copyAll.1 ∈ gT := gT_in (List.mem_of_getElem? (i := 655) (by decide +kernel)) rfl
theorem oc_3_57 : gOkC 3 57 2 (mX9_copyAll) 2 := Or.inr (Or.inr (Or.inl ⟨rfl, ok_mX9_copyAll, ⟨"RegionHandles", List.mem_of_getElem? (i := 10) (by decide +kernel)⟩, gw_148⟩))
theorem cl_3_57 : gCl 3 57 = some (2, mX9_copyAll, 2) := by unfold gCl; rw [show gClN 3 57 = some (2, 75, 2) by decide +kernel]; rfl
theorem gw_149 : Cond.static Lib.Math.min.name ∈ gT := gT_in (List.mem_of_getElem? (i := 658) (by decide +kernel)) rfl
theorem gw_150 : Cond.code Lib.Math.min.name Lib.Math.min.code 2 (some .int) ∈ gT := gT_in (List.mem_of_getElem? (i := 659) (by decide +kernel)) rfl
theorem oc_9_328 : gOkC 9 328 3 (gMs 999) 0 := Or.inr (Or.inr (Or.inr (Or.inl ⟨rfl, gT_in (List.mem_of_getElem? (i := 657) (by decide +kernel)) rfl, gw_149, gI_Math, gw_150⟩)))
theorem cl_9_328 : gCl 9 328 = some (3, gMs 999, 0) := by unfold gCl; rw [show gClN 9 328 = some (3, 999, 0) by decide +kernel]; rfl
theorem oc_9_333 : gOkC 9 333 5 (gMs 999) 0 := Or.inr (Or.inr (Or.inr (Or.inr (Or.inr ⟨rfl, gT_in (List.mem_of_getElem? (i := 660) (by decide +kernel)) rfl, gw_60, gw_59, gI_System⟩))))
theorem cl_9_333 : gCl 9 333 = some (5, gMs 999, 0) := by unfold gCl; rw [show gClN 9 333 = some (5, 999, 0) by decide +kernel]; rfl
theorem gw_151 : Cond.instanceMethod mX5_copyFrom.1 ∈ gT := gT_in (List.mem_of_getElem? (i := 662) (by decide +kernel)) rfl
theorem gw_152 : Cond.selects mX5_copyFrom.1.cls mX5_copyFrom.1 mX5_copyFrom.1 ∈ gT := gT_in (List.mem_of_getElem? (i := 663) (by decide +kernel)) rfl
theorem oc_3_61 : gOkC 3 61 0 (mX5_copyFrom) 1 := Or.inl ⟨rfl, ok_mX5_copyFrom, gT_in (List.mem_of_getElem? (i := 661) (by decide +kernel)) rfl, gw_151, gw_152, by decide⟩
theorem cl_3_61 : gCl 3 61 = some (0, mX5_copyFrom, 1) := by unfold gCl; rw [show gClN 3 61 = some (0, 76, 1) by decide +kernel]; rfl
theorem oc_5_37 : gOkC 5 37 2 (mX9_copyAll) 2 := Or.inr (Or.inr (Or.inl ⟨rfl, ok_mX9_copyAll, ⟨"RegionHandles", List.mem_of_getElem? (i := 11) (by decide +kernel)⟩, gw_148⟩))
theorem cl_5_37 : gCl 5 37 = some (2, mX9_copyAll, 2) := by unfold gCl; rw [show gClN 5 37 = some (2, 75, 2) by decide +kernel]; rfl
theorem gw_153 : Cond.instanceMethod mX1_copyFrom.1 ∈ gT := gT_in (List.mem_of_getElem? (i := 667) (by decide +kernel)) rfl
theorem gw_154 : Cond.selects mX1_copyFrom.1.cls mX1_copyFrom.1 mX1_copyFrom.1 ∈ gT := gT_in (List.mem_of_getElem? (i := 668) (by decide +kernel)) rfl
theorem oc_3_65 : gOkC 3 65 0 (mX1_copyFrom) 1 := Or.inl ⟨rfl, ok_mX1_copyFrom, gT_in (List.mem_of_getElem? (i := 666) (by decide +kernel)) rfl, gw_153, gw_154, by decide⟩
theorem cl_3_65 : gCl 3 65 = some (0, mX1_copyFrom, 1) := by unfold gCl; rw [show gClN 3 65 = some (0, 77, 1) by decide +kernel]; rfl
theorem oc_1_48 : gOkC 1 48 2 (mX9_copyAll) 2 := Or.inr (Or.inr (Or.inl ⟨rfl, ok_mX9_copyAll, ⟨"RegionHandles", List.mem_of_getElem? (i := 12) (by decide +kernel)⟩, gw_148⟩))
theorem cl_1_48 : gCl 1 48 = some (2, mX9_copyAll, 2) := by unfold gCl; rw [show gClN 1 48 = some (2, 75, 2) by decide +kernel]; rfl
theorem gw_155 : Cond.instanceMethod mX0_copyFrom.1 ∈ gT := gT_in (List.mem_of_getElem? (i := 672) (by decide +kernel)) rfl
theorem gw_156 : Cond.selects mX0_copyFrom.1.cls mX0_copyFrom.1 mX0_copyFrom.1 ∈ gT := gT_in (List.mem_of_getElem? (i := 673) (by decide +kernel)) rfl
theorem oc_3_68 : gOkC 3 68 0 (mX0_copyFrom) 1 := Or.inl ⟨rfl, ok_mX0_copyFrom, gT_in (List.mem_of_getElem? (i := 671) (by decide +kernel)) rfl, gw_155, gw_156, by decide⟩
theorem cl_3_68 : gCl 3 68 = some (0, mX0_copyFrom, 1) := by unfold gCl; rw [show gClN 3 68 = some (0, 78, 1) by decide +kernel]; rfl
theorem oc_0_46 : gOkC 0 46 2 (mX9_copyAll) 2 := Or.inr (Or.inr (Or.inl ⟨rfl, ok_mX9_copyAll, ⟨"RegionHandles", List.mem_of_getElem? (i := 13) (by decide +kernel)⟩, gw_148⟩))
theorem cl_0_46 : gCl 0 46 = some (2, mX9_copyAll, 2) := by unfold gCl; rw [show gClN 0 46 = some (2, 75, 2) by decide +kernel]; rfl
theorem gw_157 : Cond.instanceMethod mX6_copyFrom.1 ∈ gT := gT_in (List.mem_of_getElem? (i := 677) (by decide +kernel)) rfl
theorem gw_158 : Cond.selects mX6_copyFrom.1.cls mX6_copyFrom.1 mX6_copyFrom.1 ∈ gT := gT_in (List.mem_of_getElem? (i := 678) (by decide +kernel)) rfl
theorem oc_3_71 : gOkC 3 71 0 (mX6_copyFrom) 1 := Or.inl ⟨rfl, ok_mX6_copyFrom, gT_in (List.mem_of_getElem? (i := 676) (by decide +kernel)) rfl, gw_157, gw_158, by decide⟩
theorem cl_3_71 : gCl 3 71 = some (0, mX6_copyFrom, 1) := by unfold gCl; rw [show gClN 3 71 = some (0, 79, 1) by decide +kernel]; rfl
theorem oc_6_19 : gOkC 6 19 2 (mX9_copyAll) 2 := Or.inr (Or.inr (Or.inl ⟨rfl, ok_mX9_copyAll, ⟨"RegionHandles", List.mem_of_getElem? (i := 14) (by decide +kernel)⟩, gw_148⟩))
theorem cl_6_19 : gCl 6 19 = some (2, mX9_copyAll, 2) := by unfold gCl; rw [show gClN 6 19 = some (2, 75, 2) by decide +kernel]; rfl
theorem gw_159 : Cond.instanceMethod mX3_leastBudget.1 ∈ gT := gT_in (List.mem_of_getElem? (i := 682) (by decide +kernel)) rfl
theorem gw_160 : Cond.selects mX3_leastBudget.1.cls mX3_leastBudget.1 mX3_leastBudget.1 ∈ gT := gT_in (List.mem_of_getElem? (i := 683) (by decide +kernel)) rfl
theorem oc_9_240 : gOkC 9 240 0 (mX3_leastBudget) 2 := Or.inl ⟨rfl, ok_mX3_leastBudget, gT_in (List.mem_of_getElem? (i := 681) (by decide +kernel)) rfl, gw_159, gw_160, by decide⟩
theorem cl_9_240 : gCl 9 240 = some (0, mX3_leastBudget, 2) := by unfold gCl; rw [show gClN 9 240 = some (0, 80, 2) by decide +kernel]; rfl
theorem gw_161 : Cond.instanceMethod mX9_leaked.1 ∈ gT := gT_in (List.mem_of_getElem? (i := 686) (by decide +kernel)) rfl
theorem gw_162 : Cond.selects mX9_leaked.1.cls mX9_leaked.1 mX9_leaked.1 ∈ gT := gT_in (List.mem_of_getElem? (i := 687) (by decide +kernel)) rfl
theorem oc_11_105 : gOkC 11 105 0 (mX9_leaked) 1 := Or.inl ⟨rfl, ok_mX9_leaked, gT_in (List.mem_of_getElem? (i := 685) (by decide +kernel)) rfl, gw_161, gw_162, by decide⟩
theorem cl_11_105 : gCl 11 105 = some (0, mX9_leaked, 1) := by unfold gCl; rw [show gClN 11 105 = some (0, 81, 1) by decide +kernel]; rfl
theorem gw_163 : Cond.instanceMethod mX9_path.1 ∈ gT := gT_in (List.mem_of_getElem? (i := 690) (by decide +kernel)) rfl
theorem gw_164 : Cond.selects mX9_path.1.cls mX9_path.1 mX9_path.1 ∈ gT := gT_in (List.mem_of_getElem? (i := 691) (by decide +kernel)) rfl
theorem oc_11_109 : gOkC 11 109 0 (mX9_path) 2 := Or.inl ⟨rfl, ok_mX9_path, gT_in (List.mem_of_getElem? (i := 689) (by decide +kernel)) rfl, gw_163, gw_164, by decide⟩
theorem cl_11_109 : gCl 11 109 = some (0, mX9_path, 2) := by unfold gCl; rw [show gClN 11 109 = some (0, 82, 2) by decide +kernel]; rfl
theorem gw_165 : Cond.instanceMethod mX8_from.1 ∈ gT := gT_in (List.mem_of_getElem? (i := 694) (by decide +kernel)) rfl
theorem gw_166 : Cond.selects mX8_from.1.cls mX8_from.1 mX8_from.1 ∈ gT := gT_in (List.mem_of_getElem? (i := 695) (by decide +kernel)) rfl
theorem oc_9_249 : gOkC 9 249 0 (mX8_from) 2 := Or.inl ⟨rfl, ok_mX8_from, gT_in (List.mem_of_getElem? (i := 693) (by decide +kernel)) rfl, gw_165, gw_166, by decide⟩
theorem cl_9_249 : gCl 9 249 = some (0, mX8_from, 2) := by unfold gCl; rw [show gClN 9 249 = some (0, 83, 2) by decide +kernel]; rfl
theorem gw_167 : Cond.instanceMethod mX9_epochs.1 ∈ gT := gT_in (List.mem_of_getElem? (i := 698) (by decide +kernel)) rfl
theorem gw_168 : Cond.selects mX9_epochs.1.cls mX9_epochs.1 mX9_epochs.1 ∈ gT := gT_in (List.mem_of_getElem? (i := 699) (by decide +kernel)) rfl
theorem oc_11_113 : gOkC 11 113 0 (mX9_epochs) 1 := Or.inl ⟨rfl, ok_mX9_epochs, gT_in (List.mem_of_getElem? (i := 697) (by decide +kernel)) rfl, gw_167, gw_168, by decide⟩
theorem cl_11_113 : gCl 11 113 = some (0, mX9_epochs, 1) := by unfold gCl; rw [show gClN 11 113 = some (0, 84, 1) by decide +kernel]; rfl
theorem gw_169 : Cond.instanceMethod mX3_freeable.1 ∈ gT := gT_in (List.mem_of_getElem? (i := 702) (by decide +kernel)) rfl
theorem gw_170 : Cond.selects mX3_freeable.1.cls mX3_freeable.1 mX3_freeable.1 ∈ gT := gT_in (List.mem_of_getElem? (i := 703) (by decide +kernel)) rfl
theorem oc_9_256 : gOkC 9 256 0 (mX3_freeable) 0 := Or.inl ⟨rfl, ok_mX3_freeable, gT_in (List.mem_of_getElem? (i := 701) (by decide +kernel)) rfl, gw_169, gw_170, by decide⟩
theorem cl_9_256 : gCl 9 256 = some (0, mX3_freeable, 0) := by unfold gCl; rw [show gClN 9 256 = some (0, 85, 0) by decide +kernel]; rfl
theorem gw_171 : Cond.instanceMethod mX3_earliestReader.1 ∈ gT := gT_in (List.mem_of_getElem? (i := 706) (by decide +kernel)) rfl
theorem gw_172 : Cond.selects mX3_earliestReader.1.cls mX3_earliestReader.1 mX3_earliestReader.1 ∈ gT := gT_in (List.mem_of_getElem? (i := 707) (by decide +kernel)) rfl
theorem oc_9_259 : gOkC 9 259 0 (mX3_earliestReader) 0 := Or.inl ⟨rfl, ok_mX3_earliestReader, gT_in (List.mem_of_getElem? (i := 705) (by decide +kernel)) rfl, gw_171, gw_172, by decide⟩
theorem cl_9_259 : gCl 9 259 = some (0, mX3_earliestReader, 0) := by unfold gCl; rw [show gClN 9 259 = some (0, 86, 0) by decide +kernel]; rfl
theorem gw_173 : Cond.instanceMethod mX3_readersIn.1 ∈ gT := gT_in (List.mem_of_getElem? (i := 710) (by decide +kernel)) rfl
theorem gw_174 : Cond.selects mX3_readersIn.1.cls mX3_readersIn.1 mX3_readersIn.1 ∈ gT := gT_in (List.mem_of_getElem? (i := 711) (by decide +kernel)) rfl
theorem oc_9_262 : gOkC 9 262 0 (mX3_readersIn) 0 := Or.inl ⟨rfl, ok_mX3_readersIn, gT_in (List.mem_of_getElem? (i := 709) (by decide +kernel)) rfl, gw_173, gw_174, by decide⟩
theorem cl_9_262 : gCl 9 262 = some (0, mX3_readersIn, 0) := by unfold gCl; rw [show gClN 9 262 = some (0, 87, 0) by decide +kernel]; rfl
theorem gw_175 : Cond.instanceMethod mX9_plan.1 ∈ gT := gT_in (List.mem_of_getElem? (i := 714) (by decide +kernel)) rfl
theorem gw_176 : Cond.selects mX9_plan.1.cls mX9_plan.1 mX9_plan.1 ∈ gT := gT_in (List.mem_of_getElem? (i := 715) (by decide +kernel)) rfl
theorem oc_11_117 : gOkC 11 117 0 (mX9_plan) 2 := Or.inl ⟨rfl, ok_mX9_plan, gT_in (List.mem_of_getElem? (i := 713) (by decide +kernel)) rfl, gw_175, gw_176, by decide⟩
theorem cl_11_117 : gCl 11 117 = some (0, mX9_plan, 2) := by unfold gCl; rw [show gClN 11 117 = some (0, 88, 2) by decide +kernel]; rfl
theorem gw_177 : Cond.static mX9_isHolder.1 ∈ gT := gT_in (List.mem_of_getElem? (i := 718) (by decide +kernel)) rfl
theorem oc_9_265 : gOkC 9 265 1 (mX9_isHolder) 1 := Or.inr (Or.inl ⟨rfl, ok_mX9_isHolder, gT_in (List.mem_of_getElem? (i := 717) (by decide +kernel)) rfl, gw_177⟩)
theorem cl_9_265 : gCl 9 265 = some (1, mX9_isHolder, 1) := by unfold gCl; rw [show gClN 9 265 = some (1, 89, 1) by decide +kernel]; rfl
theorem gw_178 : Cond.instanceMethod mX2_faultAsRow.1 ∈ gT := gT_in (List.mem_of_getElem? (i := 721) (by decide +kernel)) rfl
theorem gw_179 : Cond.selects mX2_faultAsRow.1.cls mX2_faultAsRow.1 mX2_faultAsRow.1 ∈ gT := gT_in (List.mem_of_getElem? (i := 722) (by decide +kernel)) rfl
theorem oc_9_268 : gOkC 9 268 0 (mX2_faultAsRow) 1 := Or.inl ⟨rfl, ok_mX2_faultAsRow, gT_in (List.mem_of_getElem? (i := 720) (by decide +kernel)) rfl, gw_178, gw_179, by decide⟩
theorem cl_9_268 : gCl 9 268 = some (0, mX2_faultAsRow, 1) := by unfold gCl; rw [show gClN 9 268 = some (0, 90, 1) by decide +kernel]; rfl
theorem oc_9_271 : gOkC 9 271 0 (mX1_copyFrom) 1 := Or.inl ⟨rfl, ok_mX1_copyFrom, gT_in (List.mem_of_getElem? (i := 724) (by decide +kernel)) rfl, gw_153, gw_154, by decide⟩
theorem cl_9_271 : gCl 9 271 = some (0, mX1_copyFrom, 1) := by unfold gCl; rw [show gClN 9 271 = some (0, 77, 1) by decide +kernel]; rfl
theorem gw_180 : Cond.instanceMethod mX2_item.1 ∈ gT := gT_in (List.mem_of_getElem? (i := 726) (by decide +kernel)) rfl
theorem gw_181 : Cond.selects mX2_item.1.cls mX2_item.1 mX2_item.1 ∈ gT := gT_in (List.mem_of_getElem? (i := 727) (by decide +kernel)) rfl
theorem oc_9_276 : gOkC 9 276 0 (mX2_item) 2 := Or.inl ⟨rfl, ok_mX2_item, gT_in (List.mem_of_getElem? (i := 725) (by decide +kernel)) rfl, gw_180, gw_181, by decide⟩
theorem cl_9_276 : gCl 9 276 = some (0, mX2_item, 2) := by unfold gCl; rw [show gClN 9 276 = some (0, 91, 2) by decide +kernel]; rfl
theorem gw_182 : Cond.instanceMethod mX9_planElement.1 ∈ gT := gT_in (List.mem_of_getElem? (i := 731) (by decide +kernel)) rfl
theorem gw_183 : Cond.selects mX9_planElement.1.cls mX9_planElement.1 mX9_planElement.1 ∈ gT := gT_in (List.mem_of_getElem? (i := 11) (by decide +kernel)) rfl
theorem oc_9_279 : gOkC 9 279 0 (mX9_planElement) 2 := Or.inl ⟨rfl, ok_mX9_planElement, gT_in (List.mem_of_getElem? (i := 729) (by decide +kernel)) rfl, gw_182, gw_183, by decide⟩
theorem cl_9_279 : gCl 9 279 = some (0, mX9_planElement, 2) := by unfold gCl; rw [show gClN 9 279 = some (0, 92, 2) by decide +kernel]; rfl
theorem gw_184 : Cond.instanceMethod mX4_dropFrom.1 ∈ gT := gT_in (List.mem_of_getElem? (i := 734) (by decide +kernel)) rfl
theorem gw_185 : Cond.selects mX4_dropFrom.1.cls mX4_dropFrom.1 mX4_dropFrom.1 ∈ gT := gT_in (List.mem_of_getElem? (i := 735) (by decide +kernel)) rfl
theorem oc_9_339 : gOkC 9 339 0 (mX4_dropFrom) 2 := Or.inl ⟨rfl, ok_mX4_dropFrom, gT_in (List.mem_of_getElem? (i := 733) (by decide +kernel)) rfl, gw_184, gw_185, by decide⟩
theorem cl_9_339 : gCl 9 339 = some (0, mX4_dropFrom, 2) := by unfold gCl; rw [show gClN 9 339 = some (0, 93, 2) by decide +kernel]; rfl
theorem oc_4_28 : gOkC 4 28 0 (mX1_release) 2 := Or.inl ⟨rfl, ok_mX1_release, gT_in (List.mem_of_getElem? (i := 737) (by decide +kernel)) rfl, gw_0, gw_1, by decide⟩
theorem cl_4_28 : gCl 4 28 = some (0, mX1_release, 2) := by unfold gCl; rw [show gClN 4 28 = some (0, 0, 2) by decide +kernel]; rfl
theorem oc_9_343 : gOkC 9 343 0 (mX1_placeIn) 3 := Or.inl ⟨rfl, ok_mX1_placeIn, gT_in (List.mem_of_getElem? (i := 738) (by decide +kernel)) rfl, gw_25, gw_26, by decide⟩
theorem cl_9_343 : gCl 9 343 = some (0, mX1_placeIn, 3) := by unfold gCl; rw [show gClN 9 343 = some (0, 14, 3) by decide +kernel]; rfl
theorem gw_186 : Cond.instanceMethod mX4_putOn.1 ∈ gT := gT_in (List.mem_of_getElem? (i := 740) (by decide +kernel)) rfl
theorem gw_187 : Cond.selects mX4_putOn.1.cls mX4_putOn.1 mX4_putOn.1 ∈ gT := gT_in (List.mem_of_getElem? (i := 741) (by decide +kernel)) rfl
theorem oc_9_347 : gOkC 9 347 0 (mX4_putOn) 3 := Or.inl ⟨rfl, ok_mX4_putOn, gT_in (List.mem_of_getElem? (i := 739) (by decide +kernel)) rfl, gw_186, gw_187, by decide⟩
theorem cl_9_347 : gCl 9 347 = some (0, mX4_putOn, 3) := by unfold gCl; rw [show gClN 9 347 = some (0, 94, 3) by decide +kernel]; rfl
theorem oc_4_22 : gOkC 4 22 0 (mX1_take) 3 := Or.inl ⟨rfl, ok_mX1_take, gT_in (List.mem_of_getElem? (i := 743) (by decide +kernel)) rfl, gw_33, gw_34, by decide⟩
theorem cl_4_22 : gCl 4 22 = some (0, mX1_take, 3) := by unfold gCl; rw [show gClN 4 22 = some (0, 18, 3) by decide +kernel]; rfl
theorem gw_188 : Cond.instanceMethod mX9_told.1 ∈ gT := gT_in (List.mem_of_getElem? (i := 745) (by decide +kernel)) rfl
theorem gw_189 : Cond.selects mX9_told.1.cls mX9_told.1 mX9_told.1 ∈ gT := gT_in (List.mem_of_getElem? (i := 746) (by decide +kernel)) rfl
theorem oc_11_121 : gOkC 11 121 0 (mX9_told) 2 := Or.inl ⟨rfl, ok_mX9_told, gT_in (List.mem_of_getElem? (i := 744) (by decide +kernel)) rfl, gw_188, gw_189, by decide⟩
theorem cl_11_121 : gCl 11 121 = some (0, mX9_told, 2) := by unfold gCl; rw [show gClN 11 121 = some (0, 95, 2) by decide +kernel]; rfl
theorem gw_190 : Cond.instanceMethod mX9_feed.1 ∈ gT := gT_in (List.mem_of_getElem? (i := 749) (by decide +kernel)) rfl
theorem gw_191 : Cond.selects mX9_feed.1.cls mX9_feed.1 mX9_feed.1 ∈ gT := gT_in (List.mem_of_getElem? (i := 750) (by decide +kernel)) rfl
theorem oc_11_125 : gOkC 11 125 0 (mX9_feed) 1 := Or.inl ⟨rfl, ok_mX9_feed, gT_in (List.mem_of_getElem? (i := 748) (by decide +kernel)) rfl, gw_190, gw_191, by decide⟩
theorem cl_11_125 : gCl 11 125 = some (0, mX9_feed, 1) := by unfold gCl; rw [show gClN 11 125 = some (0, 96, 1) by decide +kernel]; rfl
theorem gw_192 : Cond.instanceMethod mX7_append.1 ∈ gT := gT_in (List.mem_of_getElem? (i := 753) (by decide +kernel)) rfl
theorem gw_193 : Cond.selects mX7_append.1.cls mX7_append.1 mX7_append.1 ∈ gT := gT_in (List.mem_of_getElem? (i := 754) (by decide +kernel)) rfl
theorem oc_9_282 : gOkC 9 282 0 (mX7_append) 1 := Or.inl ⟨rfl, ok_mX7_append, gT_in (List.mem_of_getElem? (i := 752) (by decide +kernel)) rfl, gw_192, gw_193, by decide⟩
theorem cl_9_282 : gCl 9 282 = some (0, mX7_append, 1) := by unfold gCl; rw [show gClN 9 282 = some (0, 97, 1) by decide +kernel]; rfl
theorem gw_194 : Cond.instanceMethod mX9_script.1 ∈ gT := gT_in (List.mem_of_getElem? (i := 757) (by decide +kernel)) rfl
theorem gw_195 : Cond.selects mX9_script.1.cls mX9_script.1 mX9_script.1 ∈ gT := gT_in (List.mem_of_getElem? (i := 758) (by decide +kernel)) rfl
theorem oc_11_129 : gOkC 11 129 0 (mX9_script) 0 := Or.inl ⟨rfl, ok_mX9_script, gT_in (List.mem_of_getElem? (i := 756) (by decide +kernel)) rfl, gw_194, gw_195, by decide⟩
theorem cl_11_129 : gCl 11 129 = some (0, mX9_script, 0) := by unfold gCl; rw [show gClN 11 129 = some (0, 98, 0) by decide +kernel]; rfl
theorem gw_196 : Cond.instanceMethod mX7_hasForm.1 ∈ gT := gT_in (List.mem_of_getElem? (i := 761) (by decide +kernel)) rfl
theorem gw_197 : Cond.selects mX7_hasForm.1.cls mX7_hasForm.1 mX7_hasForm.1 ∈ gT := gT_in (List.mem_of_getElem? (i := 762) (by decide +kernel)) rfl
theorem oc_9_286 : gOkC 9 286 0 (mX7_hasForm) 0 := Or.inl ⟨rfl, ok_mX7_hasForm, gT_in (List.mem_of_getElem? (i := 760) (by decide +kernel)) rfl, gw_196, gw_197, by decide⟩
theorem cl_9_286 : gCl 9 286 = some (0, mX7_hasForm, 0) := by unfold gCl; rw [show gClN 9 286 = some (0, 99, 0) by decide +kernel]; rfl
theorem gw_198 : Cond.instanceMethod mX7_readLine.1 ∈ gT := gT_in (List.mem_of_getElem? (i := 766) (by decide +kernel)) rfl
theorem gw_199 : Cond.selects mX7_readLine.1.cls mX7_readLine.1 mX7_readLine.1 ∈ gT := gT_in (List.mem_of_getElem? (i := 12) (by decide +kernel)) rfl
theorem oc_7_31 : gOkC 7 31 0 (mX7_readLine) 0 := Or.inl ⟨rfl, ok_mX7_readLine, gT_in (List.mem_of_getElem? (i := 764) (by decide +kernel)) rfl, gw_198, gw_199, by decide⟩
theorem cl_7_31 : gCl 7 31 = some (0, mX7_readLine, 0) := by unfold gCl; rw [show gClN 7 31 = some (0, 100, 0) by decide +kernel]; rfl
theorem gw_200 : Cond.instanceMethod mX7_nextByte.1 ∈ gT := gT_in (List.mem_of_getElem? (i := 770) (by decide +kernel)) rfl
theorem gw_201 : Cond.selects mX7_nextByte.1.cls mX7_nextByte.1 mX7_nextByte.1 ∈ gT := gT_in (List.mem_of_getElem? (i := 13) (by decide +kernel)) rfl
theorem oc_7_39 : gOkC 7 39 0 (mX7_nextByte) 0 := Or.inl ⟨rfl, ok_mX7_nextByte, gT_in (List.mem_of_getElem? (i := 768) (by decide +kernel)) rfl, gw_200, gw_201, by decide⟩
theorem cl_7_39 : gCl 7 39 = some (0, mX7_nextByte, 0) := by unfold gCl; rw [show gClN 7 39 = some (0, 101, 0) by decide +kernel]; rfl
theorem gw_202 : Cond.static mX7_numbersBehind.1 ∈ gT := gT_in (List.mem_of_getElem? (i := 773) (by decide +kernel)) rfl
theorem oc_7_43 : gOkC 7 43 1 (mX7_numbersBehind) 1 := Or.inr (Or.inl ⟨rfl, ok_mX7_numbersBehind, gT_in (List.mem_of_getElem? (i := 772) (by decide +kernel)) rfl, gw_202⟩)
theorem cl_7_43 : gCl 7 43 = some (1, mX7_numbersBehind, 1) := by unfold gCl; rw [show gClN 7 43 = some (1, 102, 1) by decide +kernel]; rfl
theorem gw_203 : Cond.instanceMethod mX7_readSign.1 ∈ gT := gT_in (List.mem_of_getElem? (i := 777) (by decide +kernel)) rfl
theorem gw_204 : Cond.selects mX7_readSign.1.cls mX7_readSign.1 mX7_readSign.1 ∈ gT := gT_in (List.mem_of_getElem? (i := 14) (by decide +kernel)) rfl
theorem oc_7_35 : gOkC 7 35 0 (mX7_readSign) 1 := Or.inl ⟨rfl, ok_mX7_readSign, gT_in (List.mem_of_getElem? (i := 775) (by decide +kernel)) rfl, gw_203, gw_204, by decide⟩
theorem cl_7_35 : gCl 7 35 = some (0, mX7_readSign, 1) := by unfold gCl; rw [show gClN 7 35 = some (0, 103, 1) by decide +kernel]; rfl
theorem gw_205 : Cond.instanceMethod mX7_readNumber.1 ∈ gT := gT_in (List.mem_of_getElem? (i := 781) (by decide +kernel)) rfl
theorem gw_206 : Cond.selects mX7_readNumber.1.cls mX7_readNumber.1 mX7_readNumber.1 ∈ gT := gT_in (List.mem_of_getElem? (i := 15) (by decide +kernel)) rfl
theorem oc_7_47 : gOkC 7 47 0 (mX7_readNumber) 1 := Or.inl ⟨rfl, ok_mX7_readNumber, gT_in (List.mem_of_getElem? (i := 779) (by decide +kernel)) rfl, gw_205, gw_206, by decide⟩
theorem cl_7_47 : gCl 7 47 = some (0, mX7_readNumber, 1) := by unfold gCl; rw [show gClN 7 47 = some (0, 104, 1) by decide +kernel]; rfl
theorem gw_207 : Cond.instanceMethod mX9_doLine.1 ∈ gT := gT_in (List.mem_of_getElem? (i := 785) (by decide +kernel)) rfl
theorem gw_208 : Cond.selects mX9_doLine.1.cls mX9_doLine.1 mX9_doLine.1 ∈ gT := gT_in (List.mem_of_getElem? (i := 16) (by decide +kernel)) rfl
theorem oc_9_296 : gOkC 9 296 0 (mX9_doLine) 1 := Or.inl ⟨rfl, ok_mX9_doLine, gT_in (List.mem_of_getElem? (i := 783) (by decide +kernel)) rfl, gw_207, gw_208, by decide⟩
theorem cl_9_296 : gCl 9 296 = some (0, mX9_doLine, 1) := by unfold gCl; rw [show gClN 9 296 = some (0, 105, 1) by decide +kernel]; rfl
theorem gw_209 : Cond.instanceMethod mX7_number.1 ∈ gT := gT_in (List.mem_of_getElem? (i := 788) (by decide +kernel)) rfl
theorem gw_210 : Cond.selects mX7_number.1.cls mX7_number.1 mX7_number.1 ∈ gT := gT_in (List.mem_of_getElem? (i := 789) (by decide +kernel)) rfl
theorem oc_9_351 : gOkC 9 351 0 (mX7_number) 2 := Or.inl ⟨rfl, ok_mX7_number, gT_in (List.mem_of_getElem? (i := 787) (by decide +kernel)) rfl, gw_209, gw_210, by decide⟩
theorem cl_9_351 : gCl 9 351 = some (0, mX7_number, 2) := by unfold gCl; rw [show gClN 9 351 = some (0, 106, 2) by decide +kernel]; rfl
theorem oc_9_357 : gOkC 9 357 0 (mX9_region) 2 := Or.inl ⟨rfl, ok_mX9_region, gT_in (List.mem_of_getElem? (i := 791) (by decide +kernel)) rfl, gw_3, gw_4, by decide⟩
theorem cl_9_357 : gCl 9 357 = some (0, mX9_region, 2) := by unfold gCl; rw [show gClN 9 357 = some (0, 2, 2) by decide +kernel]; rfl
theorem oc_9_359 : gOkC 9 359 0 (mX9_block) 3 := Or.inl ⟨rfl, ok_mX9_block, gT_in (List.mem_of_getElem? (i := 792) (by decide +kernel)) rfl, gw_13, gw_14, by decide⟩
theorem cl_9_359 : gCl 9 359 = some (0, mX9_block, 3) := by unfold gCl; rw [show gClN 9 359 = some (0, 7, 3) by decide +kernel]; rfl
theorem oc_9_363 : gOkC 9 363 0 (mX9_free) 1 := Or.inl ⟨rfl, ok_mX9_free, gT_in (List.mem_of_getElem? (i := 793) (by decide +kernel)) rfl, gw_37, gw_38, by decide⟩
theorem cl_9_363 : gCl 9 363 = some (0, mX9_free, 1) := by unfold gCl; rw [show gClN 9 363 = some (0, 20, 1) by decide +kernel]; rfl
theorem oc_9_366 : gOkC 9 366 0 (mX9_pin) 2 := Or.inl ⟨rfl, ok_mX9_pin, gT_in (List.mem_of_getElem? (i := 794) (by decide +kernel)) rfl, gw_47, gw_48, by decide⟩
theorem cl_9_366 : gCl 9 366 = some (0, mX9_pin, 2) := by unfold gCl; rw [show gClN 9 366 = some (0, 25, 2) by decide +kernel]; rfl
theorem gw_211 : Cond.instanceMethod mX9_tagByLine.1 ∈ gT := gT_in (List.mem_of_getElem? (i := 797) (by decide +kernel)) rfl
theorem gw_212 : Cond.selects mX9_tagByLine.1.cls mX9_tagByLine.1 mX9_tagByLine.1 ∈ gT := gT_in (List.mem_of_getElem? (i := 17) (by decide +kernel)) rfl
theorem oc_9_369 : gOkC 9 369 0 (mX9_tagByLine) 3 := Or.inl ⟨rfl, ok_mX9_tagByLine, gT_in (List.mem_of_getElem? (i := 795) (by decide +kernel)) rfl, gw_211, gw_212, by decide⟩
theorem cl_9_369 : gCl 9 369 = some (0, mX9_tagByLine, 3) := by unfold gCl; rw [show gClN 9 369 = some (0, 107, 3) by decide +kernel]; rfl
theorem oc_9_384 : gOkC 9 384 0 (mX9_tag) 2 := Or.inl ⟨rfl, ok_mX9_tag, gT_in (List.mem_of_getElem? (i := 799) (by decide +kernel)) rfl, gw_91, gw_92, by decide⟩
theorem cl_9_384 : gCl 9 384 = some (0, mX9_tag, 2) := by unfold gCl; rw [show gClN 9 384 = some (0, 47, 2) by decide +kernel]; rfl
theorem oc_9_372 : gOkC 9 372 0 (mX9_moves) 2 := Or.inl ⟨rfl, ok_mX9_moves, gT_in (List.mem_of_getElem? (i := 800) (by decide +kernel)) rfl, gw_61, gw_62, by decide⟩
theorem cl_9_372 : gCl 9 372 = some (0, mX9_moves, 2) := by unfold gCl; rw [show gClN 9 372 = some (0, 31, 2) by decide +kernel]; rfl
theorem oc_9_375 : gOkC 9 375 0 (mX9_enter) 1 := Or.inl ⟨rfl, ok_mX9_enter, gT_in (List.mem_of_getElem? (i := 801) (by decide +kernel)) rfl, gw_124, gw_125, by decide⟩
theorem cl_9_375 : gCl 9 375 = some (0, mX9_enter, 1) := by unfold gCl; rw [show gClN 9 375 = some (0, 64, 1) by decide +kernel]; rfl
theorem oc_9_378 : gOkC 9 378 0 (mX9_leave) 1 := Or.inl ⟨rfl, ok_mX9_leave, gT_in (List.mem_of_getElem? (i := 802) (by decide +kernel)) rfl, gw_126, gw_127, by decide⟩
theorem cl_9_378 : gCl 9 378 = some (0, mX9_leave, 1) := by unfold gCl; rw [show gClN 9 378 = some (0, 65, 1) by decide +kernel]; rfl
theorem oc_9_381 : gOkC 9 381 0 (mX9_advance) 0 := Or.inl ⟨rfl, ok_mX9_advance, gT_in (List.mem_of_getElem? (i := 803) (by decide +kernel)) rfl, gw_128, gw_129, by decide⟩
theorem cl_9_381 : gCl 9 381 = some (0, mX9_advance, 0) := by unfold gCl; rw [show gClN 9 381 = some (0, 66, 0) by decide +kernel]; rfl
theorem gw_213 : Cond.instanceMethod mX9_image.1 ∈ gT := gT_in (List.mem_of_getElem? (i := 805) (by decide +kernel)) rfl
theorem gw_214 : Cond.selects mX9_image.1.cls mX9_image.1 mX9_image.1 ∈ gT := gT_in (List.mem_of_getElem? (i := 806) (by decide +kernel)) rfl
theorem oc_11_133 : gOkC 11 133 0 (mX9_image) 0 := Or.inl ⟨rfl, ok_mX9_image, gT_in (List.mem_of_getElem? (i := 804) (by decide +kernel)) rfl, gw_213, gw_214, by decide⟩
theorem cl_11_133 : gCl 11 133 = some (0, mX9_image, 0) := by unfold gCl; rw [show gClN 11 133 = some (0, 108, 0) by decide +kernel]; rfl
theorem gw_215 : Cond.instanceMethod mX0_manyOf.1 ∈ gT := gT_in (List.mem_of_getElem? (i := 809) (by decide +kernel)) rfl
theorem gw_216 : Cond.selects mX0_manyOf.1.cls mX0_manyOf.1 mX0_manyOf.1 ∈ gT := gT_in (List.mem_of_getElem? (i := 810) (by decide +kernel)) rfl
theorem oc_9_299 : gOkC 9 299 0 (mX0_manyOf) 1 := Or.inl ⟨rfl, ok_mX0_manyOf, gT_in (List.mem_of_getElem? (i := 808) (by decide +kernel)) rfl, gw_215, gw_216, by decide⟩
theorem cl_9_299 : gCl 9 299 = some (0, mX0_manyOf, 1) := by unfold gCl; rw [show gClN 9 299 = some (0, 109, 1) by decide +kernel]; rfl
theorem gw_217 : Cond.instanceMethod mX9_back.1 ∈ gT := gT_in (List.mem_of_getElem? (i := 813) (by decide +kernel)) rfl
theorem gw_218 : Cond.selects mX9_back.1.cls mX9_back.1 mX9_back.1 ∈ gT := gT_in (List.mem_of_getElem? (i := 814) (by decide +kernel)) rfl
theorem oc_11_137 : gOkC 11 137 0 (mX9_back) 0 := Or.inl ⟨rfl, ok_mX9_back, gT_in (List.mem_of_getElem? (i := 812) (by decide +kernel)) rfl, gw_217, gw_218, by decide⟩
theorem cl_11_137 : gCl 11 137 = some (0, mX9_back, 0) := by unfold gCl; rw [show gClN 11 137 = some (0, 110, 0) by decide +kernel]; rfl
theorem gw_219 : Cond.instanceMethod mX9_hold.1 ∈ gT := gT_in (List.mem_of_getElem? (i := 817) (by decide +kernel)) rfl
theorem gw_220 : Cond.selects mX9_hold.1.cls mX9_hold.1 mX9_hold.1 ∈ gT := gT_in (List.mem_of_getElem? (i := 818) (by decide +kernel)) rfl
theorem oc_11_141 : gOkC 11 141 0 (mX9_hold) 2 := Or.inl ⟨rfl, ok_mX9_hold, gT_in (List.mem_of_getElem? (i := 816) (by decide +kernel)) rfl, gw_219, gw_220, by decide⟩
theorem cl_11_141 : gCl 11 141 = some (0, mX9_hold, 2) := by unfold gCl; rw [show gClN 11 141 = some (0, 111, 2) by decide +kernel]; rfl
theorem gw_221 : Cond.instanceMethod mX9_row.1 ∈ gT := gT_in (List.mem_of_getElem? (i := 821) (by decide +kernel)) rfl
theorem gw_222 : Cond.selects mX9_row.1.cls mX9_row.1 mX9_row.1 ∈ gT := gT_in (List.mem_of_getElem? (i := 822) (by decide +kernel)) rfl
theorem oc_11_145 : gOkC 11 145 0 (mX9_row) 2 := Or.inl ⟨rfl, ok_mX9_row, gT_in (List.mem_of_getElem? (i := 820) (by decide +kernel)) rfl, gw_221, gw_222, by decide⟩
theorem cl_11_145 : gCl 11 145 = some (0, mX9_row, 2) := by unfold gCl; rw [show gClN 11 145 = some (0, 112, 2) by decide +kernel]; rfl
theorem gw_223 : Cond.instanceMethod mX2_takeRow.1 ∈ gT := gT_in (List.mem_of_getElem? (i := 825) (by decide +kernel)) rfl
theorem gw_224 : Cond.selects mX2_takeRow.1.cls mX2_takeRow.1 mX2_takeRow.1 ∈ gT := gT_in (List.mem_of_getElem? (i := 826) (by decide +kernel)) rfl
theorem oc_9_308 : gOkC 9 308 0 (mX2_takeRow) 2 := Or.inl ⟨rfl, ok_mX2_takeRow, gT_in (List.mem_of_getElem? (i := 824) (by decide +kernel)) rfl, gw_223, gw_224, by decide⟩
theorem cl_9_308 : gCl 9 308 = some (0, mX2_takeRow, 2) := by unfold gCl; rw [show gClN 9 308 = some (0, 113, 2) by decide +kernel]; rfl
theorem oc_2_24 : gOkC 2 24 2 (mX9_fill) 4 := Or.inr (Or.inr (Or.inl ⟨rfl, ok_mX9_fill, ⟨"RegionHandles", List.mem_of_getElem? (i := 15) (by decide +kernel)⟩, gw_2⟩))
theorem cl_2_24 : gCl 2 24 = some (2, mX9_fill, 4) := by unfold gCl; rw [show gClN 2 24 = some (2, 1, 4) by decide +kernel]; rfl
theorem gw_225 : Cond.instanceMethod mX9_put.1 ∈ gT := gT_in (List.mem_of_getElem? (i := 830) (by decide +kernel)) rfl
theorem gw_226 : Cond.selects mX9_put.1.cls mX9_put.1 mX9_put.1 ∈ gT := gT_in (List.mem_of_getElem? (i := 831) (by decide +kernel)) rfl
theorem oc_11_149 : gOkC 11 149 0 (mX9_put) 3 := Or.inl ⟨rfl, ok_mX9_put, gT_in (List.mem_of_getElem? (i := 829) (by decide +kernel)) rfl, gw_225, gw_226, by decide⟩
theorem cl_11_149 : gCl 11 149 = some (0, mX9_put, 3) := by unfold gCl; rw [show gClN 11 149 = some (0, 114, 3) by decide +kernel]; rfl
theorem gw_227 : Cond.instanceMethod mX2_hasItem.1 ∈ gT := gT_in (List.mem_of_getElem? (i := 834) (by decide +kernel)) rfl
theorem gw_228 : Cond.selects mX2_hasItem.1.cls mX2_hasItem.1 mX2_hasItem.1 ∈ gT := gT_in (List.mem_of_getElem? (i := 835) (by decide +kernel)) rfl
theorem oc_9_311 : gOkC 9 311 0 (mX2_hasItem) 2 := Or.inl ⟨rfl, ok_mX2_hasItem, gT_in (List.mem_of_getElem? (i := 833) (by decide +kernel)) rfl, gw_227, gw_228, by decide⟩
theorem cl_9_311 : gCl 9 311 = some (0, mX2_hasItem, 2) := by unfold gCl; rw [show gClN 9 311 = some (0, 115, 2) by decide +kernel]; rfl
theorem gw_229 : Cond.instanceMethod mX2_setItem.1 ∈ gT := gT_in (List.mem_of_getElem? (i := 838) (by decide +kernel)) rfl
theorem gw_230 : Cond.selects mX2_setItem.1.cls mX2_setItem.1 mX2_setItem.1 ∈ gT := gT_in (List.mem_of_getElem? (i := 839) (by decide +kernel)) rfl
theorem oc_9_314 : gOkC 9 314 0 (mX2_setItem) 3 := Or.inl ⟨rfl, ok_mX2_setItem, gT_in (List.mem_of_getElem? (i := 837) (by decide +kernel)) rfl, gw_229, gw_230, by decide⟩
theorem cl_9_314 : gCl 9 314 = some (0, mX2_setItem, 3) := by unfold gCl; rw [show gClN 9 314 = some (0, 116, 3) by decide +kernel]; rfl
theorem gw_231 : Cond.instanceMethod mX9_tells.1 ∈ gT := gT_in (List.mem_of_getElem? (i := 842) (by decide +kernel)) rfl
theorem gw_232 : Cond.selects mX9_tells.1.cls mX9_tells.1 mX9_tells.1 ∈ gT := gT_in (List.mem_of_getElem? (i := 843) (by decide +kernel)) rfl
theorem oc_11_153 : gOkC 11 153 0 (mX9_tells) 2 := Or.inl ⟨rfl, ok_mX9_tells, gT_in (List.mem_of_getElem? (i := 841) (by decide +kernel)) rfl, gw_231, gw_232, by decide⟩
theorem cl_11_153 : gCl 11 153 = some (0, mX9_tells, 2) := by unfold gCl; rw [show gClN 11 153 = some (0, 117, 2) by decide +kernel]; rfl
theorem gw_233 : Cond.instanceMethod mX9_takenFor.1 ∈ gT := gT_in (List.mem_of_getElem? (i := 847) (by decide +kernel)) rfl
theorem gw_234 : Cond.selects mX9_takenFor.1.cls mX9_takenFor.1 mX9_takenFor.1 ∈ gT := gT_in (List.mem_of_getElem? (i := 18) (by decide +kernel)) rfl
theorem oc_9_318 : gOkC 9 318 0 (mX9_takenFor) 2 := Or.inl ⟨rfl, ok_mX9_takenFor, gT_in (List.mem_of_getElem? (i := 845) (by decide +kernel)) rfl, gw_233, gw_234, by decide⟩
theorem cl_9_318 : gCl 9 318 = some (0, mX9_takenFor, 2) := by unfold gCl; rw [show gClN 9 318 = some (0, 118, 2) by decide +kernel]; rfl
theorem gw_235 : Cond.instanceMethod mX9_count.1 ∈ gT := gT_in (List.mem_of_getElem? (i := 850) (by decide +kernel)) rfl
theorem gw_236 : Cond.selects mX9_count.1.cls mX9_count.1 mX9_count.1 ∈ gT := gT_in (List.mem_of_getElem? (i := 851) (by decide +kernel)) rfl
theorem oc_11_157 : gOkC 11 157 0 (mX9_count) 1 := Or.inl ⟨rfl, ok_mX9_count, gT_in (List.mem_of_getElem? (i := 849) (by decide +kernel)) rfl, gw_235, gw_236, by decide⟩
theorem cl_11_157 : gCl 11 157 = some (0, mX9_count, 1) := by unfold gCl; rw [show gClN 11 157 = some (0, 119, 1) by decide +kernel]; rfl
theorem gw_237 : Cond.instanceMethod mX0_cellsInAll.1 ∈ gT := gT_in (List.mem_of_getElem? (i := 854) (by decide +kernel)) rfl
theorem gw_238 : Cond.selects mX0_cellsInAll.1.cls mX0_cellsInAll.1 mX0_cellsInAll.1 ∈ gT := gT_in (List.mem_of_getElem? (i := 855) (by decide +kernel)) rfl
theorem oc_9_322 : gOkC 9 322 0 (mX0_cellsInAll) 0 := Or.inl ⟨rfl, ok_mX0_cellsInAll, gT_in (List.mem_of_getElem? (i := 853) (by decide +kernel)) rfl, gw_237, gw_238, by decide⟩
theorem cl_9_322 : gCl 9 322 = some (0, mX0_cellsInAll, 0) := by unfold gCl; rw [show gClN 9 322 = some (0, 120, 0) by decide +kernel]; rfl
theorem gw_239 : Cond.instanceMethod mX2_manyHolding.1 ∈ gT := gT_in (List.mem_of_getElem? (i := 858) (by decide +kernel)) rfl
theorem gw_240 : Cond.selects mX2_manyHolding.1.cls mX2_manyHolding.1 mX2_manyHolding.1 ∈ gT := gT_in (List.mem_of_getElem? (i := 859) (by decide +kernel)) rfl
theorem oc_9_325 : gOkC 9 325 0 (mX2_manyHolding) 0 := Or.inl ⟨rfl, ok_mX2_manyHolding, gT_in (List.mem_of_getElem? (i := 857) (by decide +kernel)) rfl, gw_239, gw_240, by decide⟩
theorem cl_9_325 : gCl 9 325 = some (0, mX2_manyHolding, 0) := by unfold gCl; rw [show gClN 9 325 = some (0, 121, 0) by decide +kernel]; rfl
theorem gw_241 : Cond.instanceMethod mX10_region.1 ∈ gT := gT_in (List.mem_of_getElem? (i := 928) (by decide +kernel)) rfl
theorem gw_242 : Cond.selects mX10_region.1.cls mX10_region.1 mX10_region.1 ∈ gT := gT_in (List.mem_of_getElem? (i := 929) (by decide +kernel)) rfl
theorem oc_11_17 : gOkC 11 17 0 (mX10_region) 2 := Or.inl ⟨rfl, ok_mX10_region, gT_in (List.mem_of_getElem? (i := 927) (by decide +kernel)) rfl, gw_241, gw_242, by decide⟩
theorem cl_11_17 : gCl 11 17 = some (0, mX10_region, 2) := by unfold gCl; rw [show gClN 11 17 = some (0, 122, 2) by decide +kernel]; rfl
theorem gw_243 : Cond.static mX10_in.1 ∈ gT := gT_in (List.mem_of_getElem? (i := 932) (by decide +kernel)) rfl
theorem oc_10_65 : gOkC 10 65 1 (mX10_in) 3 := Or.inr (Or.inl ⟨rfl, ok_mX10_in, gT_in (List.mem_of_getElem? (i := 931) (by decide +kernel)) rfl, gw_243⟩)
theorem cl_10_65 : gCl 10 65 = some (1, mX10_in, 3) := by unfold gCl; rw [show gClN 10 65 = some (1, 123, 3) by decide +kernel]; rfl
theorem gw_244 : Cond.instanceMethod mX10_end.1 ∈ gT := gT_in (List.mem_of_getElem? (i := 936) (by decide +kernel)) rfl
theorem gw_245 : Cond.selects mX10_end.1.cls mX10_end.1 mX10_end.1 ∈ gT := gT_in (List.mem_of_getElem? (i := 19) (by decide +kernel)) rfl
theorem oc_10_69 : gOkC 10 69 0 (mX10_end) 1 := Or.inl ⟨rfl, ok_mX10_end, gT_in (List.mem_of_getElem? (i := 934) (by decide +kernel)) rfl, gw_244, gw_245, by decide⟩
theorem cl_10_69 : gCl 10 69 = some (0, mX10_end, 1) := by unfold gCl; rw [show gClN 10 69 = some (0, 124, 1) by decide +kernel]; rfl
theorem gw_246 : Cond.instanceMethod mX10_block.1 ∈ gT := gT_in (List.mem_of_getElem? (i := 939) (by decide +kernel)) rfl
theorem gw_247 : Cond.selects mX10_block.1.cls mX10_block.1 mX10_block.1 ∈ gT := gT_in (List.mem_of_getElem? (i := 940) (by decide +kernel)) rfl
theorem oc_11_22 : gOkC 11 22 0 (mX10_block) 3 := Or.inl ⟨rfl, ok_mX10_block, gT_in (List.mem_of_getElem? (i := 938) (by decide +kernel)) rfl, gw_246, gw_247, by decide⟩
theorem cl_11_22 : gCl 11 22 = some (0, mX10_block, 3) := by unfold gCl; rw [show gClN 11 22 = some (0, 125, 3) by decide +kernel]; rfl
theorem gw_248 : Cond.instanceMethod mX10_isRegion.1 ∈ gT := gT_in (List.mem_of_getElem? (i := 944) (by decide +kernel)) rfl
theorem gw_249 : Cond.selects mX10_isRegion.1.cls mX10_isRegion.1 mX10_isRegion.1 ∈ gT := gT_in (List.mem_of_getElem? (i := 20) (by decide +kernel)) rfl
theorem oc_10_73 : gOkC 10 73 0 (mX10_isRegion) 1 := Or.inl ⟨rfl, ok_mX10_isRegion, gT_in (List.mem_of_getElem? (i := 942) (by decide +kernel)) rfl, gw_248, gw_249, by decide⟩
theorem cl_10_73 : gCl 10 73 = some (0, mX10_isRegion, 1) := by unfold gCl; rw [show gClN 10 73 = some (0, 126, 1) by decide +kernel]; rfl
theorem gw_250 : Cond.instanceMethod mX10_used.1 ∈ gT := gT_in (List.mem_of_getElem? (i := 948) (by decide +kernel)) rfl
theorem gw_251 : Cond.selects mX10_used.1.cls mX10_used.1 mX10_used.1 ∈ gT := gT_in (List.mem_of_getElem? (i := 21) (by decide +kernel)) rfl
theorem oc_10_76 : gOkC 10 76 0 (mX10_used) 1 := Or.inl ⟨rfl, ok_mX10_used, gT_in (List.mem_of_getElem? (i := 946) (by decide +kernel)) rfl, gw_250, gw_251, by decide⟩
theorem cl_10_76 : gCl 10 76 = some (0, mX10_used, 1) := by unfold gCl; rw [show gClN 10 76 = some (0, 127, 1) by decide +kernel]; rfl
theorem gw_252 : Cond.instanceMethod mX10_at.1 ∈ gT := gT_in (List.mem_of_getElem? (i := 952) (by decide +kernel)) rfl
theorem gw_253 : Cond.selects mX10_at.1.cls mX10_at.1 mX10_at.1 ∈ gT := gT_in (List.mem_of_getElem? (i := 22) (by decide +kernel)) rfl
theorem oc_10_57 : gOkC 10 57 0 (mX10_at) 2 := Or.inl ⟨rfl, ok_mX10_at, gT_in (List.mem_of_getElem? (i := 950) (by decide +kernel)) rfl, gw_252, gw_253, by decide⟩
theorem cl_10_57 : gCl 10 57 = some (0, mX10_at, 2) := by unfold gCl; rw [show gClN 10 57 = some (0, 128, 2) by decide +kernel]; rfl
theorem gw_254 : Cond.instanceMethod mX10_laid.1 ∈ gT := gT_in (List.mem_of_getElem? (i := 956) (by decide +kernel)) rfl
theorem gw_255 : Cond.selects mX10_laid.1.cls mX10_laid.1 mX10_laid.1 ∈ gT := gT_in (List.mem_of_getElem? (i := 23) (by decide +kernel)) rfl
theorem oc_10_79 : gOkC 10 79 0 (mX10_laid) 0 := Or.inl ⟨rfl, ok_mX10_laid, gT_in (List.mem_of_getElem? (i := 954) (by decide +kernel)) rfl, gw_254, gw_255, by decide⟩
theorem cl_10_79 : gCl 10 79 = some (0, mX10_laid, 0) := by unfold gCl; rw [show gClN 10 79 = some (0, 129, 0) by decide +kernel]; rfl
theorem gw_256 : Cond.instanceMethod mX10_placed.1 ∈ gT := gT_in (List.mem_of_getElem? (i := 960) (by decide +kernel)) rfl
theorem gw_257 : Cond.selects mX10_placed.1.cls mX10_placed.1 mX10_placed.1 ∈ gT := gT_in (List.mem_of_getElem? (i := 24) (by decide +kernel)) rfl
theorem oc_10_82 : gOkC 10 82 0 (mX10_placed) 2 := Or.inl ⟨rfl, ok_mX10_placed, gT_in (List.mem_of_getElem? (i := 958) (by decide +kernel)) rfl, gw_256, gw_257, by decide⟩
theorem cl_10_82 : gCl 10 82 = some (0, mX10_placed, 2) := by unfold gCl; rw [show gClN 10 82 = some (0, 130, 2) by decide +kernel]; rfl
theorem gw_258 : Cond.instanceMethod mX10_freeSlot.1 ∈ gT := gT_in (List.mem_of_getElem? (i := 964) (by decide +kernel)) rfl
theorem gw_259 : Cond.selects mX10_freeSlot.1.cls mX10_freeSlot.1 mX10_freeSlot.1 ∈ gT := gT_in (List.mem_of_getElem? (i := 25) (by decide +kernel)) rfl
theorem oc_10_85 : gOkC 10 85 0 (mX10_freeSlot) 0 := Or.inl ⟨rfl, ok_mX10_freeSlot, gT_in (List.mem_of_getElem? (i := 962) (by decide +kernel)) rfl, gw_258, gw_259, by decide⟩
theorem cl_10_85 : gCl 10 85 = some (0, mX10_freeSlot, 0) := by unfold gCl; rw [show gClN 10 85 = some (0, 131, 0) by decide +kernel]; rfl
theorem gw_260 : Cond.instanceMethod mX10_sets.1 ∈ gT := gT_in (List.mem_of_getElem? (i := 968) (by decide +kernel)) rfl
theorem gw_261 : Cond.selects mX10_sets.1.cls mX10_sets.1 mX10_sets.1 ∈ gT := gT_in (List.mem_of_getElem? (i := 26) (by decide +kernel)) rfl
theorem oc_10_89 : gOkC 10 89 0 (mX10_sets) 3 := Or.inl ⟨rfl, ok_mX10_sets, gT_in (List.mem_of_getElem? (i := 966) (by decide +kernel)) rfl, gw_260, gw_261, by decide⟩
theorem cl_10_89 : gCl 10 89 = some (0, mX10_sets, 3) := by unfold gCl; rw [show gClN 10 89 = some (0, 132, 3) by decide +kernel]; rfl
theorem gw_262 : Cond.instanceMethod mX10_handleOf.1 ∈ gT := gT_in (List.mem_of_getElem? (i := 972) (by decide +kernel)) rfl
theorem gw_263 : Cond.selects mX10_handleOf.1.cls mX10_handleOf.1 mX10_handleOf.1 ∈ gT := gT_in (List.mem_of_getElem? (i := 27) (by decide +kernel)) rfl
theorem oc_10_93 : gOkC 10 93 0 (mX10_handleOf) 1 := Or.inl ⟨rfl, ok_mX10_handleOf, gT_in (List.mem_of_getElem? (i := 970) (by decide +kernel)) rfl, gw_262, gw_263, by decide⟩
theorem cl_10_93 : gCl 10 93 = some (0, mX10_handleOf, 1) := by unfold gCl; rw [show gClN 10 93 = some (0, 133, 1) by decide +kernel]; rfl
theorem gw_264 : Cond.instanceMethod mX10_free.1 ∈ gT := gT_in (List.mem_of_getElem? (i := 975) (by decide +kernel)) rfl
theorem gw_265 : Cond.selects mX10_free.1.cls mX10_free.1 mX10_free.1 ∈ gT := gT_in (List.mem_of_getElem? (i := 976) (by decide +kernel)) rfl
theorem oc_11_27 : gOkC 11 27 0 (mX10_free) 1 := Or.inl ⟨rfl, ok_mX10_free, gT_in (List.mem_of_getElem? (i := 974) (by decide +kernel)) rfl, gw_264, gw_265, by decide⟩
theorem cl_11_27 : gCl 11 27 = some (0, mX10_free, 1) := by unfold gCl; rw [show gClN 11 27 = some (0, 134, 1) by decide +kernel]; rfl
theorem gw_266 : Cond.instanceMethod mX10_good.1 ∈ gT := gT_in (List.mem_of_getElem? (i := 980) (by decide +kernel)) rfl
theorem gw_267 : Cond.selects mX10_good.1.cls mX10_good.1 mX10_good.1 ∈ gT := gT_in (List.mem_of_getElem? (i := 28) (by decide +kernel)) rfl
theorem oc_10_96 : gOkC 10 96 0 (mX10_good) 1 := Or.inl ⟨rfl, ok_mX10_good, gT_in (List.mem_of_getElem? (i := 978) (by decide +kernel)) rfl, gw_266, gw_267, by decide⟩
theorem cl_10_96 : gCl 10 96 = some (0, mX10_good, 1) := by unfold gCl; rw [show gClN 10 96 = some (0, 135, 1) by decide +kernel]; rfl
theorem gw_268 : Cond.instanceMethod mX10_isLive.1 ∈ gT := gT_in (List.mem_of_getElem? (i := 984) (by decide +kernel)) rfl
theorem gw_269 : Cond.selects mX10_isLive.1.cls mX10_isLive.1 mX10_isLive.1 ∈ gT := gT_in (List.mem_of_getElem? (i := 29) (by decide +kernel)) rfl
theorem oc_10_61 : gOkC 10 61 0 (mX10_isLive) 1 := Or.inl ⟨rfl, ok_mX10_isLive, gT_in (List.mem_of_getElem? (i := 982) (by decide +kernel)) rfl, gw_268, gw_269, by decide⟩
theorem cl_10_61 : gCl 10 61 = some (0, mX10_isLive, 1) := by unfold gCl; rw [show gClN 10 61 = some (0, 136, 1) by decide +kernel]; rfl
theorem gw_270 : Cond.instanceMethod mX10_pin.1 ∈ gT := gT_in (List.mem_of_getElem? (i := 987) (by decide +kernel)) rfl
theorem gw_271 : Cond.selects mX10_pin.1.cls mX10_pin.1 mX10_pin.1 ∈ gT := gT_in (List.mem_of_getElem? (i := 988) (by decide +kernel)) rfl
theorem oc_11_31 : gOkC 11 31 0 (mX10_pin) 2 := Or.inl ⟨rfl, ok_mX10_pin, gT_in (List.mem_of_getElem? (i := 986) (by decide +kernel)) rfl, gw_270, gw_271, by decide⟩
theorem cl_11_31 : gCl 11 31 = some (0, mX10_pin, 2) := by unfold gCl; rw [show gClN 11 31 = some (0, 137, 2) by decide +kernel]; rfl
theorem gw_272 : Cond.instanceMethod mX10_grow.1 ∈ gT := gT_in (List.mem_of_getElem? (i := 991) (by decide +kernel)) rfl
theorem gw_273 : Cond.selects mX10_grow.1.cls mX10_grow.1 mX10_grow.1 ∈ gT := gT_in (List.mem_of_getElem? (i := 992) (by decide +kernel)) rfl
theorem oc_11_35 : gOkC 11 35 0 (mX10_grow) 2 := Or.inl ⟨rfl, ok_mX10_grow, gT_in (List.mem_of_getElem? (i := 990) (by decide +kernel)) rfl, gw_272, gw_273, by decide⟩
theorem cl_11_35 : gCl 11 35 = some (0, mX10_grow, 2) := by unfold gCl; rw [show gClN 11 35 = some (0, 138, 2) by decide +kernel]; rfl
theorem gw_274 : Cond.instanceMethod mX10_isFreeBehind.1 ∈ gT := gT_in (List.mem_of_getElem? (i := 996) (by decide +kernel)) rfl
theorem gw_275 : Cond.selects mX10_isFreeBehind.1.cls mX10_isFreeBehind.1 mX10_isFreeBehind.1 ∈ gT := gT_in (List.mem_of_getElem? (i := 30) (by decide +kernel)) rfl
theorem oc_10_99 : gOkC 10 99 0 (mX10_isFreeBehind) 2 := Or.inl ⟨rfl, ok_mX10_isFreeBehind, gT_in (List.mem_of_getElem? (i := 994) (by decide +kernel)) rfl, gw_274, gw_275, by decide⟩
theorem cl_10_99 : gCl 10 99 = some (0, mX10_isFreeBehind, 2) := by unfold gCl; rw [show gClN 10 99 = some (0, 139, 2) by decide +kernel]; rfl
theorem gw_276 : Cond.instanceMethod mX10_goes.1 ∈ gT := gT_in (List.mem_of_getElem? (i := 1000) (by decide +kernel)) rfl
theorem gw_277 : Cond.selects mX10_goes.1.cls mX10_goes.1 mX10_goes.1 ∈ gT := gT_in (List.mem_of_getElem? (i := 31) (by decide +kernel)) rfl
theorem oc_10_103 : gOkC 10 103 0 (mX10_goes) 2 := Or.inl ⟨rfl, ok_mX10_goes, gT_in (List.mem_of_getElem? (i := 998) (by decide +kernel)) rfl, gw_276, gw_277, by decide⟩
theorem cl_10_103 : gCl 10 103 = some (0, mX10_goes, 2) := by unfold gCl; rw [show gClN 10 103 = some (0, 140, 2) by decide +kernel]; rfl
theorem gw_278 : Cond.instanceMethod mX10_moves.1 ∈ gT := gT_in (List.mem_of_getElem? (i := 1003) (by decide +kernel)) rfl
theorem gw_279 : Cond.selects mX10_moves.1.cls mX10_moves.1 mX10_moves.1 ∈ gT := gT_in (List.mem_of_getElem? (i := 1004) (by decide +kernel)) rfl
theorem oc_11_39 : gOkC 11 39 0 (mX10_moves) 2 := Or.inl ⟨rfl, ok_mX10_moves, gT_in (List.mem_of_getElem? (i := 1002) (by decide +kernel)) rfl, gw_278, gw_279, by decide⟩
theorem cl_11_39 : gCl 11 39 = some (0, mX10_moves, 2) := by unfold gCl; rw [show gClN 11 39 = some (0, 141, 2) by decide +kernel]; rfl
theorem gw_280 : Cond.instanceMethod mX10_moved.1 ∈ gT := gT_in (List.mem_of_getElem? (i := 1008) (by decide +kernel)) rfl
theorem gw_281 : Cond.selects mX10_moved.1.cls mX10_moved.1 mX10_moved.1 ∈ gT := gT_in (List.mem_of_getElem? (i := 32) (by decide +kernel)) rfl
theorem oc_10_111 : gOkC 10 111 0 (mX10_moved) 2 := Or.inl ⟨rfl, ok_mX10_moved, gT_in (List.mem_of_getElem? (i := 1006) (by decide +kernel)) rfl, gw_280, gw_281, by decide⟩
theorem cl_10_111 : gCl 10 111 = some (0, mX10_moved, 2) := by unfold gCl; rw [show gClN 10 111 = some (0, 142, 2) by decide +kernel]; rfl
theorem gw_282 : Cond.instanceMethod mX10_nextBlock.1 ∈ gT := gT_in (List.mem_of_getElem? (i := 1012) (by decide +kernel)) rfl
theorem gw_283 : Cond.selects mX10_nextBlock.1.cls mX10_nextBlock.1 mX10_nextBlock.1 ∈ gT := gT_in (List.mem_of_getElem? (i := 33) (by decide +kernel)) rfl
theorem oc_10_107 : gOkC 10 107 0 (mX10_nextBlock) 3 := Or.inl ⟨rfl, ok_mX10_nextBlock, gT_in (List.mem_of_getElem? (i := 1010) (by decide +kernel)) rfl, gw_282, gw_283, by decide⟩
theorem cl_10_107 : gCl 10 107 = some (0, mX10_nextBlock, 3) := by unfold gCl; rw [show gClN 10 107 = some (0, 143, 3) by decide +kernel]; rfl
theorem gw_284 : Cond.instanceMethod mX10_write.1 ∈ gT := gT_in (List.mem_of_getElem? (i := 1015) (by decide +kernel)) rfl
theorem gw_285 : Cond.selects mX10_write.1.cls mX10_write.1 mX10_write.1 ∈ gT := gT_in (List.mem_of_getElem? (i := 1016) (by decide +kernel)) rfl
theorem oc_11_43 : gOkC 11 43 0 (mX10_write) 3 := Or.inl ⟨rfl, ok_mX10_write, gT_in (List.mem_of_getElem? (i := 1014) (by decide +kernel)) rfl, gw_284, gw_285, by decide⟩
theorem cl_11_43 : gCl 11 43 = some (0, mX10_write, 3) := by unfold gCl; rw [show gClN 11 43 = some (0, 144, 3) by decide +kernel]; rfl
theorem gw_286 : Cond.instanceMethod mX10_read.1 ∈ gT := gT_in (List.mem_of_getElem? (i := 1020) (by decide +kernel)) rfl
theorem gw_287 : Cond.selects mX10_read.1.cls mX10_read.1 mX10_read.1 ∈ gT := gT_in (List.mem_of_getElem? (i := 1021) (by decide +kernel)) rfl
theorem oc_11_47 : gOkC 11 47 0 (mX10_read) 2 := Or.inl ⟨rfl, ok_mX10_read, gT_in (List.mem_of_getElem? (i := 1019) (by decide +kernel)) rfl, gw_286, gw_287, by decide⟩
theorem cl_11_47 : gCl 11 47 = some (0, mX10_read, 2) := by unfold gCl; rw [show gClN 11 47 = some (0, 145, 2) by decide +kernel]; rfl
theorem gw_288 : Cond.instanceMethod mX10_cellOf.1 ∈ gT := gT_in (List.mem_of_getElem? (i := 1025) (by decide +kernel)) rfl
theorem gw_289 : Cond.selects mX10_cellOf.1.cls mX10_cellOf.1 mX10_cellOf.1 ∈ gT := gT_in (List.mem_of_getElem? (i := 34) (by decide +kernel)) rfl
theorem oc_10_115 : gOkC 10 115 0 (mX10_cellOf) 2 := Or.inl ⟨rfl, ok_mX10_cellOf, gT_in (List.mem_of_getElem? (i := 1023) (by decide +kernel)) rfl, gw_288, gw_289, by decide⟩
theorem cl_10_115 : gCl 10 115 = some (0, mX10_cellOf, 2) := by unfold gCl; rw [show gClN 10 115 = some (0, 146, 2) by decide +kernel]; rfl
theorem gw_290 : Cond.instanceMethod mX10_peek.1 ∈ gT := gT_in (List.mem_of_getElem? (i := 1028) (by decide +kernel)) rfl
theorem gw_291 : Cond.selects mX10_peek.1.cls mX10_peek.1 mX10_peek.1 ∈ gT := gT_in (List.mem_of_getElem? (i := 1029) (by decide +kernel)) rfl
theorem oc_11_51 : gOkC 11 51 0 (mX10_peek) 3 := Or.inl ⟨rfl, ok_mX10_peek, gT_in (List.mem_of_getElem? (i := 1027) (by decide +kernel)) rfl, gw_290, gw_291, by decide⟩
theorem cl_11_51 : gCl 11 51 = some (0, mX10_peek, 3) := by unfold gCl; rw [show gClN 11 51 = some (0, 147, 3) by decide +kernel]; rfl
theorem gw_292 : Cond.instanceMethod mX10_of.1 ∈ gT := gT_in (List.mem_of_getElem? (i := 1032) (by decide +kernel)) rfl
theorem gw_293 : Cond.selects mX10_of.1.cls mX10_of.1 mX10_of.1 ∈ gT := gT_in (List.mem_of_getElem? (i := 1033) (by decide +kernel)) rfl
theorem oc_11_55 : gOkC 11 55 0 (mX10_of) 2 := Or.inl ⟨rfl, ok_mX10_of, gT_in (List.mem_of_getElem? (i := 1031) (by decide +kernel)) rfl, gw_292, gw_293, by decide⟩
theorem cl_11_55 : gCl 11 55 = some (0, mX10_of, 2) := by unfold gCl; rw [show gClN 11 55 = some (0, 148, 2) by decide +kernel]; rfl
theorem gw_294 : Cond.instanceMethod mX10_slot.1 ∈ gT := gT_in (List.mem_of_getElem? (i := 1036) (by decide +kernel)) rfl
theorem gw_295 : Cond.selects mX10_slot.1.cls mX10_slot.1 mX10_slot.1 ∈ gT := gT_in (List.mem_of_getElem? (i := 1037) (by decide +kernel)) rfl
theorem oc_11_59 : gOkC 11 59 0 (mX10_slot) 2 := Or.inl ⟨rfl, ok_mX10_slot, gT_in (List.mem_of_getElem? (i := 1035) (by decide +kernel)) rfl, gw_294, gw_295, by decide⟩
theorem cl_11_59 : gCl 11 59 = some (0, mX10_slot, 2) := by unfold gCl; rw [show gClN 11 59 = some (0, 149, 2) by decide +kernel]; rfl
theorem gw_296 : Cond.instanceMethod mX10_lies.1 ∈ gT := gT_in (List.mem_of_getElem? (i := 1040) (by decide +kernel)) rfl
theorem gw_297 : Cond.selects mX10_lies.1.cls mX10_lies.1 mX10_lies.1 ∈ gT := gT_in (List.mem_of_getElem? (i := 1041) (by decide +kernel)) rfl
theorem oc_11_63 : gOkC 11 63 0 (mX10_lies) 1 := Or.inl ⟨rfl, ok_mX10_lies, gT_in (List.mem_of_getElem? (i := 1039) (by decide +kernel)) rfl, gw_296, gw_297, by decide⟩
theorem cl_11_63 : gCl 11 63 = some (0, mX10_lies, 1) := by unfold gCl; rw [show gClN 11 63 = some (0, 150, 1) by decide +kernel]; rfl
theorem gw_298 : Cond.instanceMethod mX10_tag.1 ∈ gT := gT_in (List.mem_of_getElem? (i := 1044) (by decide +kernel)) rfl
theorem gw_299 : Cond.selects mX10_tag.1.cls mX10_tag.1 mX10_tag.1 ∈ gT := gT_in (List.mem_of_getElem? (i := 1045) (by decide +kernel)) rfl
theorem oc_11_67 : gOkC 11 67 0 (mX10_tag) 2 := Or.inl ⟨rfl, ok_mX10_tag, gT_in (List.mem_of_getElem? (i := 1043) (by decide +kernel)) rfl, gw_298, gw_299, by decide⟩
theorem cl_11_67 : gCl 11 67 = some (0, mX10_tag, 2) := by unfold gCl; rw [show gClN 11 67 = some (0, 151, 2) by decide +kernel]; rfl
theorem gw_300 : Cond.instanceMethod mX10_taggedBy.1 ∈ gT := gT_in (List.mem_of_getElem? (i := 1049) (by decide +kernel)) rfl
theorem gw_301 : Cond.selects mX10_taggedBy.1.cls mX10_taggedBy.1 mX10_taggedBy.1 ∈ gT := gT_in (List.mem_of_getElem? (i := 35) (by decide +kernel)) rfl
theorem oc_10_118 : gOkC 10 118 0 (mX10_taggedBy) 1 := Or.inl ⟨rfl, ok_mX10_taggedBy, gT_in (List.mem_of_getElem? (i := 1047) (by decide +kernel)) rfl, gw_300, gw_301, by decide⟩
theorem cl_10_118 : gCl 10 118 = some (0, mX10_taggedBy, 1) := by unfold gCl; rw [show gClN 10 118 = some (0, 152, 1) by decide +kernel]; rfl
theorem gw_302 : Cond.instanceMethod mX10_tagsMany.1 ∈ gT := gT_in (List.mem_of_getElem? (i := 1053) (by decide +kernel)) rfl
theorem gw_303 : Cond.selects mX10_tagsMany.1.cls mX10_tagsMany.1 mX10_tagsMany.1 ∈ gT := gT_in (List.mem_of_getElem? (i := 36) (by decide +kernel)) rfl
theorem oc_10_121 : gOkC 10 121 0 (mX10_tagsMany) 0 := Or.inl ⟨rfl, ok_mX10_tagsMany, gT_in (List.mem_of_getElem? (i := 1051) (by decide +kernel)) rfl, gw_302, gw_303, by decide⟩
theorem cl_10_121 : gCl 10 121 = some (0, mX10_tagsMany, 0) := by unfold gCl; rw [show gClN 10 121 = some (0, 153, 0) by decide +kernel]; rfl
theorem gw_304 : Cond.instanceMethod mX10_find.1 ∈ gT := gT_in (List.mem_of_getElem? (i := 1056) (by decide +kernel)) rfl
theorem gw_305 : Cond.selects mX10_find.1.cls mX10_find.1 mX10_find.1 ∈ gT := gT_in (List.mem_of_getElem? (i := 1057) (by decide +kernel)) rfl
theorem oc_11_71 : gOkC 11 71 0 (mX10_find) 1 := Or.inl ⟨rfl, ok_mX10_find, gT_in (List.mem_of_getElem? (i := 1055) (by decide +kernel)) rfl, gw_304, gw_305, by decide⟩
theorem cl_11_71 : gCl 11 71 = some (0, mX10_find, 1) := by unfold gCl; rw [show gClN 11 71 = some (0, 154, 1) by decide +kernel]; rfl
theorem gw_306 : Cond.instanceMethod mX10_tagged.1 ∈ gT := gT_in (List.mem_of_getElem? (i := 1060) (by decide +kernel)) rfl
theorem gw_307 : Cond.selects mX10_tagged.1.cls mX10_tagged.1 mX10_tagged.1 ∈ gT := gT_in (List.mem_of_getElem? (i := 1061) (by decide +kernel)) rfl
theorem oc_11_75 : gOkC 11 75 0 (mX10_tagged) 1 := Or.inl ⟨rfl, ok_mX10_tagged, gT_in (List.mem_of_getElem? (i := 1059) (by decide +kernel)) rfl, gw_306, gw_307, by decide⟩
theorem cl_11_75 : gCl 11 75 = some (0, mX10_tagged, 1) := by unfold gCl; rw [show gClN 11 75 = some (0, 155, 1) by decide +kernel]; rfl
theorem gw_308 : Cond.instanceMethod mX10_quota.1 ∈ gT := gT_in (List.mem_of_getElem? (i := 1064) (by decide +kernel)) rfl
theorem gw_309 : Cond.selects mX10_quota.1.cls mX10_quota.1 mX10_quota.1 ∈ gT := gT_in (List.mem_of_getElem? (i := 1065) (by decide +kernel)) rfl
theorem oc_11_79 : gOkC 11 79 0 (mX10_quota) 2 := Or.inl ⟨rfl, ok_mX10_quota, gT_in (List.mem_of_getElem? (i := 1063) (by decide +kernel)) rfl, gw_308, gw_309, by decide⟩
theorem cl_11_79 : gCl 11 79 = some (0, mX10_quota, 2) := by unfold gCl; rw [show gClN 11 79 = some (0, 156, 2) by decide +kernel]; rfl
theorem gw_310 : Cond.instanceMethod mX10_owner.1 ∈ gT := gT_in (List.mem_of_getElem? (i := 1068) (by decide +kernel)) rfl
theorem gw_311 : Cond.selects mX10_owner.1.cls mX10_owner.1 mX10_owner.1 ∈ gT := gT_in (List.mem_of_getElem? (i := 1069) (by decide +kernel)) rfl
theorem oc_11_83 : gOkC 11 83 0 (mX10_owner) 2 := Or.inl ⟨rfl, ok_mX10_owner, gT_in (List.mem_of_getElem? (i := 1067) (by decide +kernel)) rfl, gw_310, gw_311, by decide⟩
theorem cl_11_83 : gCl 11 83 = some (0, mX10_owner, 2) := by unfold gCl; rw [show gClN 11 83 = some (0, 157, 2) by decide +kernel]; rfl
theorem gw_312 : Cond.instanceMethod mX10_leakedOnes.1 ∈ gT := gT_in (List.mem_of_getElem? (i := 1073) (by decide +kernel)) rfl
theorem gw_313 : Cond.selects mX10_leakedOnes.1.cls mX10_leakedOnes.1 mX10_leakedOnes.1 ∈ gT := gT_in (List.mem_of_getElem? (i := 37) (by decide +kernel)) rfl
theorem oc_10_124 : gOkC 10 124 0 (mX10_leakedOnes) 0 := Or.inl ⟨rfl, ok_mX10_leakedOnes, gT_in (List.mem_of_getElem? (i := 1071) (by decide +kernel)) rfl, gw_312, gw_313, by decide⟩
theorem cl_10_124 : gCl 10 124 = some (0, mX10_leakedOnes, 0) := by unfold gCl; rw [show gClN 10 124 = some (0, 158, 0) by decide +kernel]; rfl
theorem gw_314 : Cond.instanceMethod mX10_holds.1 ∈ gT := gT_in (List.mem_of_getElem? (i := 1077) (by decide +kernel)) rfl
theorem gw_315 : Cond.selects mX10_holds.1.cls mX10_holds.1 mX10_holds.1 ∈ gT := gT_in (List.mem_of_getElem? (i := 38) (by decide +kernel)) rfl
theorem oc_10_143 : gOkC 10 143 0 (mX10_holds) 2 := Or.inl ⟨rfl, ok_mX10_holds, gT_in (List.mem_of_getElem? (i := 1075) (by decide +kernel)) rfl, gw_314, gw_315, by decide⟩
theorem cl_10_143 : gCl 10 143 = some (0, mX10_holds, 2) := by unfold gCl; rw [show gClN 10 143 = some (0, 159, 2) by decide +kernel]; rfl
theorem gw_316 : Cond.instanceMethod mX10_liveMany.1 ∈ gT := gT_in (List.mem_of_getElem? (i := 1081) (by decide +kernel)) rfl
theorem gw_317 : Cond.selects mX10_liveMany.1.cls mX10_liveMany.1 mX10_liveMany.1 ∈ gT := gT_in (List.mem_of_getElem? (i := 39) (by decide +kernel)) rfl
theorem oc_10_127 : gOkC 10 127 0 (mX10_liveMany) 1 := Or.inl ⟨rfl, ok_mX10_liveMany, gT_in (List.mem_of_getElem? (i := 1079) (by decide +kernel)) rfl, gw_316, gw_317, by decide⟩
theorem cl_10_127 : gCl 10 127 = some (0, mX10_liveMany, 1) := by unfold gCl; rw [show gClN 10 127 = some (0, 160, 1) by decide +kernel]; rfl
theorem gw_318 : Cond.instanceMethod mX10_enter.1 ∈ gT := gT_in (List.mem_of_getElem? (i := 1084) (by decide +kernel)) rfl
theorem gw_319 : Cond.selects mX10_enter.1.cls mX10_enter.1 mX10_enter.1 ∈ gT := gT_in (List.mem_of_getElem? (i := 1085) (by decide +kernel)) rfl
theorem oc_11_87 : gOkC 11 87 0 (mX10_enter) 1 := Or.inl ⟨rfl, ok_mX10_enter, gT_in (List.mem_of_getElem? (i := 1083) (by decide +kernel)) rfl, gw_318, gw_319, by decide⟩
theorem cl_11_87 : gCl 11 87 = some (0, mX10_enter, 1) := by unfold gCl; rw [show gClN 11 87 = some (0, 161, 1) by decide +kernel]; rfl
theorem gw_320 : Cond.instanceMethod mX10_leave.1 ∈ gT := gT_in (List.mem_of_getElem? (i := 1088) (by decide +kernel)) rfl
theorem gw_321 : Cond.selects mX10_leave.1.cls mX10_leave.1 mX10_leave.1 ∈ gT := gT_in (List.mem_of_getElem? (i := 1089) (by decide +kernel)) rfl
theorem oc_11_91 : gOkC 11 91 0 (mX10_leave) 1 := Or.inl ⟨rfl, ok_mX10_leave, gT_in (List.mem_of_getElem? (i := 1087) (by decide +kernel)) rfl, gw_320, gw_321, by decide⟩
theorem cl_11_91 : gCl 11 91 = some (0, mX10_leave, 1) := by unfold gCl; rw [show gClN 11 91 = some (0, 162, 1) by decide +kernel]; rfl
theorem gw_322 : Cond.instanceMethod mX10_advance.1 ∈ gT := gT_in (List.mem_of_getElem? (i := 1092) (by decide +kernel)) rfl
theorem gw_323 : Cond.selects mX10_advance.1.cls mX10_advance.1 mX10_advance.1 ∈ gT := gT_in (List.mem_of_getElem? (i := 1093) (by decide +kernel)) rfl
theorem oc_11_96 : gOkC 11 96 0 (mX10_advance) 0 := Or.inl ⟨rfl, ok_mX10_advance, gT_in (List.mem_of_getElem? (i := 1091) (by decide +kernel)) rfl, gw_322, gw_323, by decide⟩
theorem cl_11_96 : gCl 11 96 = some (0, mX10_advance, 0) := by unfold gCl; rw [show gClN 11 96 = some (0, 163, 0) by decide +kernel]; rfl
theorem gw_324 : Cond.instanceMethod mX10_freeable.1 ∈ gT := gT_in (List.mem_of_getElem? (i := 1097) (by decide +kernel)) rfl
theorem gw_325 : Cond.selects mX10_freeable.1.cls mX10_freeable.1 mX10_freeable.1 ∈ gT := gT_in (List.mem_of_getElem? (i := 40) (by decide +kernel)) rfl
theorem oc_10_133 : gOkC 10 133 0 (mX10_freeable) 0 := Or.inl ⟨rfl, ok_mX10_freeable, gT_in (List.mem_of_getElem? (i := 1095) (by decide +kernel)) rfl, gw_324, gw_325, by decide⟩
theorem cl_10_133 : gCl 10 133 = some (0, mX10_freeable, 0) := by unfold gCl; rw [show gClN 10 133 = some (0, 164, 0) by decide +kernel]; rfl
theorem gw_326 : Cond.instanceMethod mX10_isSeen.1 ∈ gT := gT_in (List.mem_of_getElem? (i := 1101) (by decide +kernel)) rfl
theorem gw_327 : Cond.selects mX10_isSeen.1.cls mX10_isSeen.1 mX10_isSeen.1 ∈ gT := gT_in (List.mem_of_getElem? (i := 41) (by decide +kernel)) rfl
theorem oc_10_130 : gOkC 10 130 0 (mX10_isSeen) 1 := Or.inl ⟨rfl, ok_mX10_isSeen, gT_in (List.mem_of_getElem? (i := 1099) (by decide +kernel)) rfl, gw_326, gw_327, by decide⟩
theorem cl_10_130 : gCl 10 130 = some (0, mX10_isSeen, 1) := by unfold gCl; rw [show gClN 10 130 = some (0, 165, 1) by decide +kernel]; rfl
theorem gw_328 : Cond.instanceMethod mX10_would.1 ∈ gT := gT_in (List.mem_of_getElem? (i := 1104) (by decide +kernel)) rfl
theorem gw_329 : Cond.selects mX10_would.1.cls mX10_would.1 mX10_would.1 ∈ gT := gT_in (List.mem_of_getElem? (i := 1105) (by decide +kernel)) rfl
theorem oc_11_100 : gOkC 11 100 0 (mX10_would) 3 := Or.inl ⟨rfl, ok_mX10_would, gT_in (List.mem_of_getElem? (i := 1103) (by decide +kernel)) rfl, gw_328, gw_329, by decide⟩
theorem cl_11_100 : gCl 11 100 = some (0, mX10_would, 3) := by unfold gCl; rw [show gClN 11 100 = some (0, 166, 3) by decide +kernel]; rfl
theorem gw_330 : Cond.instanceMethod mX10_freeIn.1 ∈ gT := gT_in (List.mem_of_getElem? (i := 1109) (by decide +kernel)) rfl
theorem gw_331 : Cond.selects mX10_freeIn.1.cls mX10_freeIn.1 mX10_freeIn.1 ∈ gT := gT_in (List.mem_of_getElem? (i := 42) (by decide +kernel)) rfl
theorem oc_10_136 : gOkC 10 136 0 (mX10_freeIn) 2 := Or.inl ⟨rfl, ok_mX10_freeIn, gT_in (List.mem_of_getElem? (i := 1107) (by decide +kernel)) rfl, gw_330, gw_331, by decide⟩
theorem cl_10_136 : gCl 10 136 = some (0, mX10_freeIn, 2) := by unfold gCl; rw [show gClN 10 136 = some (0, 167, 2) by decide +kernel]; rfl
theorem gw_332 : Cond.instanceMethod mX10_least.1 ∈ gT := gT_in (List.mem_of_getElem? (i := 1112) (by decide +kernel)) rfl
theorem gw_333 : Cond.selects mX10_least.1.cls mX10_least.1 mX10_least.1 ∈ gT := gT_in (List.mem_of_getElem? (i := 1113) (by decide +kernel)) rfl
theorem oc_11_104 : gOkC 11 104 0 (mX10_least) 2 := Or.inl ⟨rfl, ok_mX10_least, gT_in (List.mem_of_getElem? (i := 1111) (by decide +kernel)) rfl, gw_332, gw_333, by decide⟩
theorem cl_11_104 : gCl 11 104 = some (0, mX10_least, 2) := by unfold gCl; rw [show gClN 11 104 = some (0, 168, 2) by decide +kernel]; rfl
theorem gw_334 : Cond.static mX10_take.1 ∈ gT := gT_in (List.mem_of_getElem? (i := 1116) (by decide +kernel)) rfl
theorem oc_10_139 : gOkC 10 139 1 (mX10_take) 2 := Or.inr (Or.inl ⟨rfl, ok_mX10_take, gT_in (List.mem_of_getElem? (i := 1115) (by decide +kernel)) rfl, gw_334⟩)
theorem cl_10_139 : gCl 10 139 = some (1, mX10_take, 2) := by unfold gCl; rw [show gClN 10 139 = some (1, 169, 2) by decide +kernel]; rfl
theorem gw_335 : Cond.instanceMethod mX10_leaked.1 ∈ gT := gT_in (List.mem_of_getElem? (i := 1119) (by decide +kernel)) rfl
theorem gw_336 : Cond.selects mX10_leaked.1.cls mX10_leaked.1 mX10_leaked.1 ∈ gT := gT_in (List.mem_of_getElem? (i := 1120) (by decide +kernel)) rfl
theorem oc_11_108 : gOkC 11 108 0 (mX10_leaked) 1 := Or.inl ⟨rfl, ok_mX10_leaked, gT_in (List.mem_of_getElem? (i := 1118) (by decide +kernel)) rfl, gw_335, gw_336, by decide⟩
theorem cl_11_108 : gCl 11 108 = some (0, mX10_leaked, 1) := by unfold gCl; rw [show gClN 11 108 = some (0, 170, 1) by decide +kernel]; rfl
theorem gw_337 : Cond.instanceMethod mX10_path.1 ∈ gT := gT_in (List.mem_of_getElem? (i := 1123) (by decide +kernel)) rfl
theorem gw_338 : Cond.selects mX10_path.1.cls mX10_path.1 mX10_path.1 ∈ gT := gT_in (List.mem_of_getElem? (i := 1124) (by decide +kernel)) rfl
theorem oc_11_112 : gOkC 11 112 0 (mX10_path) 2 := Or.inl ⟨rfl, ok_mX10_path, gT_in (List.mem_of_getElem? (i := 1122) (by decide +kernel)) rfl, gw_337, gw_338, by decide⟩
theorem cl_11_112 : gCl 11 112 = some (0, mX10_path, 2) := by unfold gCl; rw [show gClN 11 112 = some (0, 171, 2) by decide +kernel]; rfl
theorem gw_339 : Cond.instanceMethod mX10_epochs.1 ∈ gT := gT_in (List.mem_of_getElem? (i := 1127) (by decide +kernel)) rfl
theorem gw_340 : Cond.selects mX10_epochs.1.cls mX10_epochs.1 mX10_epochs.1 ∈ gT := gT_in (List.mem_of_getElem? (i := 1128) (by decide +kernel)) rfl
theorem oc_11_116 : gOkC 11 116 0 (mX10_epochs) 1 := Or.inl ⟨rfl, ok_mX10_epochs, gT_in (List.mem_of_getElem? (i := 1126) (by decide +kernel)) rfl, gw_339, gw_340, by decide⟩
theorem cl_11_116 : gCl 11 116 = some (0, mX10_epochs, 1) := by unfold gCl; rw [show gClN 11 116 = some (0, 172, 1) by decide +kernel]; rfl
theorem gw_341 : Cond.instanceMethod mX10_plan.1 ∈ gT := gT_in (List.mem_of_getElem? (i := 1131) (by decide +kernel)) rfl
theorem gw_342 : Cond.selects mX10_plan.1.cls mX10_plan.1 mX10_plan.1 ∈ gT := gT_in (List.mem_of_getElem? (i := 1132) (by decide +kernel)) rfl
theorem oc_11_120 : gOkC 11 120 0 (mX10_plan) 2 := Or.inl ⟨rfl, ok_mX10_plan, gT_in (List.mem_of_getElem? (i := 1130) (by decide +kernel)) rfl, gw_341, gw_342, by decide⟩
theorem cl_11_120 : gCl 11 120 = some (0, mX10_plan, 2) := by unfold gCl; rw [show gClN 11 120 = some (0, 173, 2) by decide +kernel]; rfl
theorem gw_343 : Cond.instanceMethod mX10_isHolder.1 ∈ gT := gT_in (List.mem_of_getElem? (i := 1136) (by decide +kernel)) rfl
theorem gw_344 : Cond.selects mX10_isHolder.1.cls mX10_isHolder.1 mX10_isHolder.1 ∈ gT := gT_in (List.mem_of_getElem? (i := 43) (by decide +kernel)) rfl
theorem oc_10_146 : gOkC 10 146 0 (mX10_isHolder) 1 := Or.inl ⟨rfl, ok_mX10_isHolder, gT_in (List.mem_of_getElem? (i := 1134) (by decide +kernel)) rfl, gw_343, gw_344, by decide⟩
theorem cl_10_146 : gCl 10 146 = some (0, mX10_isHolder, 1) := by unfold gCl; rw [show gClN 10 146 = some (0, 174, 1) by decide +kernel]; rfl
theorem gw_345 : Cond.instanceMethod mX10_fills.1 ∈ gT := gT_in (List.mem_of_getElem? (i := 1140) (by decide +kernel)) rfl
theorem gw_346 : Cond.selects mX10_fills.1.cls mX10_fills.1 mX10_fills.1 ∈ gT := gT_in (List.mem_of_getElem? (i := 44) (by decide +kernel)) rfl
theorem oc_10_149 : gOkC 10 149 0 (mX10_fills) 3 := Or.inl ⟨rfl, ok_mX10_fills, gT_in (List.mem_of_getElem? (i := 1138) (by decide +kernel)) rfl, gw_345, gw_346, by decide⟩
theorem cl_10_149 : gCl 10 149 = some (0, mX10_fills, 3) := by unfold gCl; rw [show gClN 10 149 = some (0, 175, 3) by decide +kernel]; rfl
theorem gw_347 : Cond.instanceMethod mX10_told.1 ∈ gT := gT_in (List.mem_of_getElem? (i := 1143) (by decide +kernel)) rfl
theorem gw_348 : Cond.selects mX10_told.1.cls mX10_told.1 mX10_told.1 ∈ gT := gT_in (List.mem_of_getElem? (i := 1144) (by decide +kernel)) rfl
theorem oc_11_124 : gOkC 11 124 0 (mX10_told) 2 := Or.inl ⟨rfl, ok_mX10_told, gT_in (List.mem_of_getElem? (i := 1142) (by decide +kernel)) rfl, gw_347, gw_348, by decide⟩
theorem cl_11_124 : gCl 11 124 = some (0, mX10_told, 2) := by unfold gCl; rw [show gClN 11 124 = some (0, 176, 2) by decide +kernel]; rfl
theorem gw_349 : Cond.instanceMethod mX10_feed.1 ∈ gT := gT_in (List.mem_of_getElem? (i := 1147) (by decide +kernel)) rfl
theorem gw_350 : Cond.selects mX10_feed.1.cls mX10_feed.1 mX10_feed.1 ∈ gT := gT_in (List.mem_of_getElem? (i := 1148) (by decide +kernel)) rfl
theorem oc_11_128 : gOkC 11 128 0 (mX10_feed) 1 := Or.inl ⟨rfl, ok_mX10_feed, gT_in (List.mem_of_getElem? (i := 1146) (by decide +kernel)) rfl, gw_349, gw_350, by decide⟩
theorem cl_11_128 : gCl 11 128 = some (0, mX10_feed, 1) := by unfold gCl; rw [show gClN 11 128 = some (0, 177, 1) by decide +kernel]; rfl
theorem gw_351 : Cond.instanceMethod mX10_script.1 ∈ gT := gT_in (List.mem_of_getElem? (i := 1151) (by decide +kernel)) rfl
theorem gw_352 : Cond.selects mX10_script.1.cls mX10_script.1 mX10_script.1 ∈ gT := gT_in (List.mem_of_getElem? (i := 1152) (by decide +kernel)) rfl
theorem oc_11_132 : gOkC 11 132 0 (mX10_script) 0 := Or.inl ⟨rfl, ok_mX10_script, gT_in (List.mem_of_getElem? (i := 1150) (by decide +kernel)) rfl, gw_351, gw_352, by decide⟩
theorem cl_11_132 : gCl 11 132 = some (0, mX10_script, 0) := by unfold gCl; rw [show gClN 11 132 = some (0, 178, 0) by decide +kernel]; rfl
theorem gw_353 : Cond.instanceMethod mX10_isForm.1 ∈ gT := gT_in (List.mem_of_getElem? (i := 1156) (by decide +kernel)) rfl
theorem gw_354 : Cond.selects mX10_isForm.1.cls mX10_isForm.1 mX10_isForm.1 ∈ gT := gT_in (List.mem_of_getElem? (i := 45) (by decide +kernel)) rfl
theorem oc_10_208 : gOkC 10 208 0 (mX10_isForm) 0 := Or.inl ⟨rfl, ok_mX10_isForm, gT_in (List.mem_of_getElem? (i := 1154) (by decide +kernel)) rfl, gw_353, gw_354, by decide⟩
theorem cl_10_208 : gCl 10 208 = some (0, mX10_isForm, 0) := by unfold gCl; rw [show gClN 10 208 = some (0, 179, 0) by decide +kernel]; rfl
theorem gw_355 : Cond.instanceMethod mX10_line.1 ∈ gT := gT_in (List.mem_of_getElem? (i := 1160) (by decide +kernel)) rfl
theorem gw_356 : Cond.selects mX10_line.1.cls mX10_line.1 mX10_line.1 ∈ gT := gT_in (List.mem_of_getElem? (i := 46) (by decide +kernel)) rfl
theorem oc_10_174 : gOkC 10 174 0 (mX10_line) 0 := Or.inl ⟨rfl, ok_mX10_line, gT_in (List.mem_of_getElem? (i := 1158) (by decide +kernel)) rfl, gw_355, gw_356, by decide⟩
theorem cl_10_174 : gCl 10 174 = some (0, mX10_line, 0) := by unfold gCl; rw [show gClN 10 174 = some (0, 180, 0) by decide +kernel]; rfl
theorem gw_357 : Cond.static mX10_manyOf.1 ∈ gT := gT_in (List.mem_of_getElem? (i := 1163) (by decide +kernel)) rfl
theorem oc_10_168 : gOkC 10 168 1 (mX10_manyOf) 1 := Or.inr (Or.inl ⟨rfl, ok_mX10_manyOf, gT_in (List.mem_of_getElem? (i := 1162) (by decide +kernel)) rfl, gw_357⟩)
theorem cl_10_168 : gCl 10 168 = some (1, mX10_manyOf, 1) := by unfold gCl; rw [show gClN 10 168 = some (1, 181, 1) by decide +kernel]; rfl
theorem gw_358 : Cond.instanceMethod mX10_number.1 ∈ gT := gT_in (List.mem_of_getElem? (i := 1167) (by decide +kernel)) rfl
theorem gw_359 : Cond.selects mX10_number.1.cls mX10_number.1 mX10_number.1 ∈ gT := gT_in (List.mem_of_getElem? (i := 47) (by decide +kernel)) rfl
theorem oc_10_171 : gOkC 10 171 0 (mX10_number) 0 := Or.inl ⟨rfl, ok_mX10_number, gT_in (List.mem_of_getElem? (i := 1165) (by decide +kernel)) rfl, gw_358, gw_359, by decide⟩
theorem cl_10_171 : gCl 10 171 = some (0, mX10_number, 0) := by unfold gCl; rw [show gClN 10 171 = some (0, 182, 0) by decide +kernel]; rfl
theorem gw_360 : Cond.instanceMethod mX10_must.1 ∈ gT := gT_in (List.mem_of_getElem? (i := 1171) (by decide +kernel)) rfl
theorem gw_361 : Cond.selects mX10_must.1.cls mX10_must.1 mX10_must.1 ∈ gT := gT_in (List.mem_of_getElem? (i := 48) (by decide +kernel)) rfl
theorem oc_10_165 : gOkC 10 165 0 (mX10_must) 2 := Or.inl ⟨rfl, ok_mX10_must, gT_in (List.mem_of_getElem? (i := 1169) (by decide +kernel)) rfl, gw_360, gw_361, by decide⟩
theorem cl_10_165 : gCl 10 165 = some (0, mX10_must, 2) := by unfold gCl; rw [show gClN 10 165 = some (0, 183, 2) by decide +kernel]; rfl
theorem gw_362 : Cond.instanceMethod mX10_sees.1 ∈ gT := gT_in (List.mem_of_getElem? (i := 1175) (by decide +kernel)) rfl
theorem gw_363 : Cond.selects mX10_sees.1.cls mX10_sees.1 mX10_sees.1 ∈ gT := gT_in (List.mem_of_getElem? (i := 49) (by decide +kernel)) rfl
theorem oc_10_162 : gOkC 10 162 0 (mX10_sees) 2 := Or.inl ⟨rfl, ok_mX10_sees, gT_in (List.mem_of_getElem? (i := 1173) (by decide +kernel)) rfl, gw_362, gw_363, by decide⟩
theorem cl_10_162 : gCl 10 162 = some (0, mX10_sees, 2) := by unfold gCl; rw [show gClN 10 162 = some (0, 184, 2) by decide +kernel]; rfl
theorem gw_364 : Cond.instanceMethod mX10_does.1 ∈ gT := gT_in (List.mem_of_getElem? (i := 1179) (by decide +kernel)) rfl
theorem gw_365 : Cond.selects mX10_does.1.cls mX10_does.1 mX10_does.1 ∈ gT := gT_in (List.mem_of_getElem? (i := 50) (by decide +kernel)) rfl
theorem oc_10_212 : gOkC 10 212 0 (mX10_does) 1 := Or.inl ⟨rfl, ok_mX10_does, gT_in (List.mem_of_getElem? (i := 1177) (by decide +kernel)) rfl, gw_364, gw_365, by decide⟩
theorem cl_10_212 : gCl 10 212 = some (0, mX10_does, 1) := by unfold gCl; rw [show gClN 10 212 = some (0, 185, 1) by decide +kernel]; rfl
theorem oc_10_177 : gOkC 10 177 0 (mX10_region) 2 := Or.inl ⟨rfl, ok_mX10_region, gT_in (List.mem_of_getElem? (i := 1181) (by decide +kernel)) rfl, gw_241, gw_242, by decide⟩
theorem cl_10_177 : gCl 10 177 = some (0, mX10_region, 2) := by unfold gCl; rw [show gClN 10 177 = some (0, 122, 2) by decide +kernel]; rfl
theorem oc_10_180 : gOkC 10 180 0 (mX10_block) 3 := Or.inl ⟨rfl, ok_mX10_block, gT_in (List.mem_of_getElem? (i := 1182) (by decide +kernel)) rfl, gw_246, gw_247, by decide⟩
theorem cl_10_180 : gCl 10 180 = some (0, mX10_block, 3) := by unfold gCl; rw [show gClN 10 180 = some (0, 125, 3) by decide +kernel]; rfl
theorem gw_366 : Cond.instanceMethod mX10_goodOf.1 ∈ gT := gT_in (List.mem_of_getElem? (i := 1185) (by decide +kernel)) rfl
theorem gw_367 : Cond.selects mX10_goodOf.1.cls mX10_goodOf.1 mX10_goodOf.1 ∈ gT := gT_in (List.mem_of_getElem? (i := 51) (by decide +kernel)) rfl
theorem oc_10_184 : gOkC 10 184 0 (mX10_goodOf) 1 := Or.inl ⟨rfl, ok_mX10_goodOf, gT_in (List.mem_of_getElem? (i := 1183) (by decide +kernel)) rfl, gw_366, gw_367, by decide⟩
theorem cl_10_184 : gCl 10 184 = some (0, mX10_goodOf, 1) := by unfold gCl; rw [show gClN 10 184 = some (0, 186, 1) by decide +kernel]; rfl
theorem oc_10_187 : gOkC 10 187 0 (mX10_free) 1 := Or.inl ⟨rfl, ok_mX10_free, gT_in (List.mem_of_getElem? (i := 1187) (by decide +kernel)) rfl, gw_264, gw_265, by decide⟩
theorem cl_10_187 : gCl 10 187 = some (0, mX10_free, 1) := by unfold gCl; rw [show gClN 10 187 = some (0, 134, 1) by decide +kernel]; rfl
theorem oc_10_190 : gOkC 10 190 0 (mX10_pin) 2 := Or.inl ⟨rfl, ok_mX10_pin, gT_in (List.mem_of_getElem? (i := 1188) (by decide +kernel)) rfl, gw_270, gw_271, by decide⟩
theorem cl_10_190 : gCl 10 190 = some (0, mX10_pin, 2) := by unfold gCl; rw [show gClN 10 190 = some (0, 137, 2) by decide +kernel]; rfl
theorem oc_10_193 : gOkC 10 193 0 (mX10_tag) 2 := Or.inl ⟨rfl, ok_mX10_tag, gT_in (List.mem_of_getElem? (i := 1189) (by decide +kernel)) rfl, gw_298, gw_299, by decide⟩
theorem cl_10_193 : gCl 10 193 = some (0, mX10_tag, 2) := by unfold gCl; rw [show gClN 10 193 = some (0, 151, 2) by decide +kernel]; rfl
theorem oc_10_196 : gOkC 10 196 0 (mX10_moves) 2 := Or.inl ⟨rfl, ok_mX10_moves, gT_in (List.mem_of_getElem? (i := 1190) (by decide +kernel)) rfl, gw_278, gw_279, by decide⟩
theorem cl_10_196 : gCl 10 196 = some (0, mX10_moves, 2) := by unfold gCl; rw [show gClN 10 196 = some (0, 141, 2) by decide +kernel]; rfl
theorem oc_10_199 : gOkC 10 199 0 (mX10_enter) 1 := Or.inl ⟨rfl, ok_mX10_enter, gT_in (List.mem_of_getElem? (i := 1191) (by decide +kernel)) rfl, gw_318, gw_319, by decide⟩
theorem cl_10_199 : gCl 10 199 = some (0, mX10_enter, 1) := by unfold gCl; rw [show gClN 10 199 = some (0, 161, 1) by decide +kernel]; rfl
theorem oc_10_202 : gOkC 10 202 0 (mX10_leave) 1 := Or.inl ⟨rfl, ok_mX10_leave, gT_in (List.mem_of_getElem? (i := 1192) (by decide +kernel)) rfl, gw_320, gw_321, by decide⟩
theorem cl_10_202 : gCl 10 202 = some (0, mX10_leave, 1) := by unfold gCl; rw [show gClN 10 202 = some (0, 162, 1) by decide +kernel]; rfl
theorem oc_10_205 : gOkC 10 205 0 (mX10_advance) 0 := Or.inl ⟨rfl, ok_mX10_advance, gT_in (List.mem_of_getElem? (i := 1193) (by decide +kernel)) rfl, gw_322, gw_323, by decide⟩
theorem cl_10_205 : gCl 10 205 = some (0, mX10_advance, 0) := by unfold gCl; rw [show gClN 10 205 = some (0, 163, 0) by decide +kernel]; rfl
theorem gw_368 : Cond.instanceMethod mX10_image.1 ∈ gT := gT_in (List.mem_of_getElem? (i := 1195) (by decide +kernel)) rfl
theorem gw_369 : Cond.selects mX10_image.1.cls mX10_image.1 mX10_image.1 ∈ gT := gT_in (List.mem_of_getElem? (i := 1196) (by decide +kernel)) rfl
theorem oc_11_136 : gOkC 11 136 0 (mX10_image) 0 := Or.inl ⟨rfl, ok_mX10_image, gT_in (List.mem_of_getElem? (i := 1194) (by decide +kernel)) rfl, gw_368, gw_369, by decide⟩
theorem cl_11_136 : gCl 11 136 = some (0, mX10_image, 0) := by unfold gCl; rw [show gClN 11 136 = some (0, 187, 0) by decide +kernel]; rfl
theorem gw_370 : Cond.instanceMethod mX10_back.1 ∈ gT := gT_in (List.mem_of_getElem? (i := 1199) (by decide +kernel)) rfl
theorem gw_371 : Cond.selects mX10_back.1.cls mX10_back.1 mX10_back.1 ∈ gT := gT_in (List.mem_of_getElem? (i := 1200) (by decide +kernel)) rfl
theorem oc_11_140 : gOkC 11 140 0 (mX10_back) 0 := Or.inl ⟨rfl, ok_mX10_back, gT_in (List.mem_of_getElem? (i := 1198) (by decide +kernel)) rfl, gw_370, gw_371, by decide⟩
theorem cl_11_140 : gCl 11 140 = some (0, mX10_back, 0) := by unfold gCl; rw [show gClN 11 140 = some (0, 188, 0) by decide +kernel]; rfl
theorem gw_372 : Cond.instanceMethod mX10_hold.1 ∈ gT := gT_in (List.mem_of_getElem? (i := 1203) (by decide +kernel)) rfl
theorem gw_373 : Cond.selects mX10_hold.1.cls mX10_hold.1 mX10_hold.1 ∈ gT := gT_in (List.mem_of_getElem? (i := 1204) (by decide +kernel)) rfl
theorem oc_11_144 : gOkC 11 144 0 (mX10_hold) 2 := Or.inl ⟨rfl, ok_mX10_hold, gT_in (List.mem_of_getElem? (i := 1202) (by decide +kernel)) rfl, gw_372, gw_373, by decide⟩
theorem cl_11_144 : gCl 11 144 = some (0, mX10_hold, 2) := by unfold gCl; rw [show gClN 11 144 = some (0, 189, 2) by decide +kernel]; rfl
theorem gw_374 : Cond.instanceMethod mX10_row.1 ∈ gT := gT_in (List.mem_of_getElem? (i := 1207) (by decide +kernel)) rfl
theorem gw_375 : Cond.selects mX10_row.1.cls mX10_row.1 mX10_row.1 ∈ gT := gT_in (List.mem_of_getElem? (i := 1208) (by decide +kernel)) rfl
theorem oc_11_148 : gOkC 11 148 0 (mX10_row) 2 := Or.inl ⟨rfl, ok_mX10_row, gT_in (List.mem_of_getElem? (i := 1206) (by decide +kernel)) rfl, gw_374, gw_375, by decide⟩
theorem cl_11_148 : gCl 11 148 = some (0, mX10_row, 2) := by unfold gCl; rw [show gClN 11 148 = some (0, 190, 2) by decide +kernel]; rfl
theorem gw_376 : Cond.instanceMethod mX10_put.1 ∈ gT := gT_in (List.mem_of_getElem? (i := 1211) (by decide +kernel)) rfl
theorem gw_377 : Cond.selects mX10_put.1.cls mX10_put.1 mX10_put.1 ∈ gT := gT_in (List.mem_of_getElem? (i := 1212) (by decide +kernel)) rfl
theorem oc_11_152 : gOkC 11 152 0 (mX10_put) 3 := Or.inl ⟨rfl, ok_mX10_put, gT_in (List.mem_of_getElem? (i := 1210) (by decide +kernel)) rfl, gw_376, gw_377, by decide⟩
theorem cl_11_152 : gCl 11 152 = some (0, mX10_put, 3) := by unfold gCl; rw [show gClN 11 152 = some (0, 191, 3) by decide +kernel]; rfl
theorem gw_378 : Cond.instanceMethod mX10_tells.1 ∈ gT := gT_in (List.mem_of_getElem? (i := 1215) (by decide +kernel)) rfl
theorem gw_379 : Cond.selects mX10_tells.1.cls mX10_tells.1 mX10_tells.1 ∈ gT := gT_in (List.mem_of_getElem? (i := 1216) (by decide +kernel)) rfl
theorem oc_11_156 : gOkC 11 156 0 (mX10_tells) 2 := Or.inl ⟨rfl, ok_mX10_tells, gT_in (List.mem_of_getElem? (i := 1214) (by decide +kernel)) rfl, gw_378, gw_379, by decide⟩
theorem cl_11_156 : gCl 11 156 = some (0, mX10_tells, 2) := by unfold gCl; rw [show gClN 11 156 = some (0, 192, 2) by decide +kernel]; rfl
theorem gw_380 : Cond.instanceMethod mX10_count.1 ∈ gT := gT_in (List.mem_of_getElem? (i := 1219) (by decide +kernel)) rfl
theorem gw_381 : Cond.selects mX10_count.1.cls mX10_count.1 mX10_count.1 ∈ gT := gT_in (List.mem_of_getElem? (i := 1220) (by decide +kernel)) rfl
theorem oc_11_160 : gOkC 11 160 0 (mX10_count) 1 := Or.inl ⟨rfl, ok_mX10_count, gT_in (List.mem_of_getElem? (i := 1218) (by decide +kernel)) rfl, gw_380, gw_381, by decide⟩
theorem cl_11_160 : gCl 11 160 = some (0, mX10_count, 1) := by unfold gCl; rw [show gClN 11 160 = some (0, 193, 1) by decide +kernel]; rfl
theorem gClL_0 : ∀ x ∈ gClL0, gOkC x.1 x.2.1 x.2.2.1 (gMs x.2.2.2.1) x.2.2.2.2 := List.forall_mem_cons.mpr ⟨oc_1_15, List.forall_mem_cons.mpr ⟨oc_1_19, List.forall_mem_cons.mpr ⟨oc_3_49, List.forall_mem_cons.mpr ⟨oc_11_13, List.forall_mem_cons.mpr ⟨oc_9_61, List.forall_mem_cons.mpr ⟨oc_5_33, List.forall_mem_cons.mpr ⟨oc_5_25, List.forall_mem_cons.mpr ⟨oc_5_29, List.forall_mem_cons.mpr ⟨oc_11_18, List.forall_mem_cons.mpr ⟨oc_9_67, List.forall_mem_cons.mpr ⟨oc_9_71, List.forall_mem_cons.mpr ⟨oc_9_74, List.forall_mem_cons.mpr ⟨oc_9_77, List.forall_mem_cons.mpr ⟨oc_3_74, List.forall_mem_cons.mpr ⟨oc_9_85, List.forall_mem_cons.mpr ⟨oc_9_91, List.forall_mem_cons.mpr ⟨oc_3_78, List.forall_mem_cons.mpr ⟨oc_1_28, List.forall_mem_cons.mpr ⟨oc_1_35, List.forall_mem_cons.mpr ⟨oc_1_39, List.forall_mem_cons.mpr ⟨oc_9_94, List.forall_mem_cons.mpr ⟨oc_3_106, List.forall_mem_cons.mpr ⟨oc_9_98, List.forall_mem_cons.mpr ⟨oc_11_23, List.forall_mem_cons.mpr ⟨oc_9_102, List.forall_mem_cons.mpr ⟨oc_0_43, List.forall_mem_cons.mpr ⟨oc_9_109, List.forall_mem_cons.mpr ⟨oc_3_113, List.forall_mem_cons.mpr ⟨oc_11_28, List.forall_mem_cons.mpr ⟨oc_11_32, fun _ h => absurd h List.not_mem_nil⟩⟩⟩⟩⟩⟩⟩⟩⟩⟩⟩⟩⟩⟩⟩⟩⟩⟩⟩⟩⟩⟩⟩⟩⟩⟩⟩⟩⟩⟩
theorem gClL_1 : ∀ x ∈ gClL1, gOkC x.1 x.2.1 x.2.2.1 (gMs x.2.2.2.1) x.2.2.2.2 := List.forall_mem_cons.mpr ⟨oc_9_123, List.forall_mem_cons.mpr ⟨oc_3_117, List.forall_mem_cons.mpr ⟨oc_3_120, List.forall_mem_cons.mpr ⟨oc_9_126, List.forall_mem_cons.mpr ⟨oc_3_124, List.forall_mem_cons.mpr ⟨oc_3_128, List.forall_mem_cons.mpr ⟨oc_3_132, List.forall_mem_cons.mpr ⟨oc_3_138, List.forall_mem_cons.mpr ⟨oc_11_36, List.forall_mem_cons.mpr ⟨oc_9_129, List.forall_mem_cons.mpr ⟨oc_3_141, List.forall_mem_cons.mpr ⟨oc_3_155, List.forall_mem_cons.mpr ⟨oc_3_144, List.forall_mem_cons.mpr ⟨oc_11_40, List.forall_mem_cons.mpr ⟨oc_9_132, List.forall_mem_cons.mpr ⟨oc_11_44, List.forall_mem_cons.mpr ⟨oc_11_48, List.forall_mem_cons.mpr ⟨oc_9_139, List.forall_mem_cons.mpr ⟨oc_9_145, List.forall_mem_cons.mpr ⟨oc_9_148, List.forall_mem_cons.mpr ⟨oc_11_52, List.forall_mem_cons.mpr ⟨oc_9_160, List.forall_mem_cons.mpr ⟨oc_11_56, List.forall_mem_cons.mpr ⟨oc_9_166, List.forall_mem_cons.mpr ⟨oc_0_39, List.forall_mem_cons.mpr ⟨oc_11_60, List.forall_mem_cons.mpr ⟨oc_9_184, List.forall_mem_cons.mpr ⟨oc_11_64, List.forall_mem_cons.mpr ⟨oc_9_187, List.forall_mem_cons.mpr ⟨oc_9_190, fun _ h => absurd h List.not_mem_nil⟩⟩⟩⟩⟩⟩⟩⟩⟩⟩⟩⟩⟩⟩⟩⟩⟩⟩⟩⟩⟩⟩⟩⟩⟩⟩⟩⟩⟩⟩
theorem gClL_2 : ∀ x ∈ gClL2, gOkC x.1 x.2.1 x.2.2.1 (gMs x.2.2.2.1) x.2.2.2.2 := List.forall_mem_cons.mpr ⟨oc_3_162, List.forall_mem_cons.mpr ⟨oc_9_193, List.forall_mem_cons.mpr ⟨oc_3_164, List.forall_mem_cons.mpr ⟨oc_11_68, List.forall_mem_cons.mpr ⟨oc_11_72, List.forall_mem_cons.mpr ⟨oc_9_206, List.forall_mem_cons.mpr ⟨oc_11_76, List.forall_mem_cons.mpr ⟨oc_9_208, List.forall_mem_cons.mpr ⟨oc_11_80, List.forall_mem_cons.mpr ⟨oc_9_214, List.forall_mem_cons.mpr ⟨oc_9_243, List.forall_mem_cons.mpr ⟨oc_8_18, List.forall_mem_cons.mpr ⟨oc_8_46, List.forall_mem_cons.mpr ⟨oc_8_38, List.forall_mem_cons.mpr ⟨oc_8_42, List.forall_mem_cons.mpr ⟨oc_8_63, List.forall_mem_cons.mpr ⟨oc_9_246, List.forall_mem_cons.mpr ⟨oc_9_217, List.forall_mem_cons.mpr ⟨oc_11_84, List.forall_mem_cons.mpr ⟨oc_11_88, List.forall_mem_cons.mpr ⟨oc_11_92, List.forall_mem_cons.mpr ⟨oc_9_220, List.forall_mem_cons.mpr ⟨oc_3_167, List.forall_mem_cons.mpr ⟨oc_11_97, List.forall_mem_cons.mpr ⟨oc_9_224, List.forall_mem_cons.mpr ⟨oc_9_227, List.forall_mem_cons.mpr ⟨oc_9_230, List.forall_mem_cons.mpr ⟨oc_1_42, List.forall_mem_cons.mpr ⟨oc_9_233, List.forall_mem_cons.mpr ⟨oc_11_101, fun _ h => absurd h List.not_mem_nil⟩⟩⟩⟩⟩⟩⟩⟩⟩⟩⟩⟩⟩⟩⟩⟩⟩⟩⟩⟩⟩⟩⟩⟩⟩⟩⟩⟩⟩⟩
theorem gClL_3 : ∀ x ∈ gClL3, gOkC x.1 x.2.1 x.2.2.1 (gMs x.2.2.2.1) x.2.2.2.2 := List.forall_mem_cons.mpr ⟨oc_9_236, List.forall_mem_cons.mpr ⟨oc_3_57, List.forall_mem_cons.mpr ⟨oc_9_328, List.forall_mem_cons.mpr ⟨oc_9_333, List.forall_mem_cons.mpr ⟨oc_3_61, List.forall_mem_cons.mpr ⟨oc_5_37, List.forall_mem_cons.mpr ⟨oc_3_65, List.forall_mem_cons.mpr ⟨oc_1_48, List.forall_mem_cons.mpr ⟨oc_3_68, List.forall_mem_cons.mpr ⟨oc_0_46, List.forall_mem_cons.mpr ⟨oc_3_71, List.forall_mem_cons.mpr ⟨oc_6_19, List.forall_mem_cons.mpr ⟨oc_9_240, List.forall_mem_cons.mpr ⟨oc_11_105, List.forall_mem_cons.mpr ⟨oc_11_109, List.forall_mem_cons.mpr ⟨oc_9_249, List.forall_mem_cons.mpr ⟨oc_11_113, List.forall_mem_cons.mpr ⟨oc_9_256, List.forall_mem_cons.mpr ⟨oc_9_259, List.forall_mem_cons.mpr ⟨oc_9_262, List.forall_mem_cons.mpr ⟨oc_11_117, List.forall_mem_cons.mpr ⟨oc_9_265, List.forall_mem_cons.mpr ⟨oc_9_268, List.forall_mem_cons.mpr ⟨oc_9_271, List.forall_mem_cons.mpr ⟨oc_9_276, List.forall_mem_cons.mpr ⟨oc_9_279, List.forall_mem_cons.mpr ⟨oc_9_339, List.forall_mem_cons.mpr ⟨oc_4_28, List.forall_mem_cons.mpr ⟨oc_9_343, List.forall_mem_cons.mpr ⟨oc_9_347, fun _ h => absurd h List.not_mem_nil⟩⟩⟩⟩⟩⟩⟩⟩⟩⟩⟩⟩⟩⟩⟩⟩⟩⟩⟩⟩⟩⟩⟩⟩⟩⟩⟩⟩⟩⟩
theorem gClL_4 : ∀ x ∈ gClL4, gOkC x.1 x.2.1 x.2.2.1 (gMs x.2.2.2.1) x.2.2.2.2 := List.forall_mem_cons.mpr ⟨oc_4_22, List.forall_mem_cons.mpr ⟨oc_11_121, List.forall_mem_cons.mpr ⟨oc_11_125, List.forall_mem_cons.mpr ⟨oc_9_282, List.forall_mem_cons.mpr ⟨oc_11_129, List.forall_mem_cons.mpr ⟨oc_9_286, List.forall_mem_cons.mpr ⟨oc_7_31, List.forall_mem_cons.mpr ⟨oc_7_39, List.forall_mem_cons.mpr ⟨oc_7_43, List.forall_mem_cons.mpr ⟨oc_7_35, List.forall_mem_cons.mpr ⟨oc_7_47, List.forall_mem_cons.mpr ⟨oc_9_296, List.forall_mem_cons.mpr ⟨oc_9_351, List.forall_mem_cons.mpr ⟨oc_9_357, List.forall_mem_cons.mpr ⟨oc_9_359, List.forall_mem_cons.mpr ⟨oc_9_363, List.forall_mem_cons.mpr ⟨oc_9_366, List.forall_mem_cons.mpr ⟨oc_9_369, List.forall_mem_cons.mpr ⟨oc_9_384, List.forall_mem_cons.mpr ⟨oc_9_372, List.forall_mem_cons.mpr ⟨oc_9_375, List.forall_mem_cons.mpr ⟨oc_9_378, List.forall_mem_cons.mpr ⟨oc_9_381, List.forall_mem_cons.mpr ⟨oc_11_133, List.forall_mem_cons.mpr ⟨oc_9_299, List.forall_mem_cons.mpr ⟨oc_11_137, List.forall_mem_cons.mpr ⟨oc_11_141, List.forall_mem_cons.mpr ⟨oc_11_145, List.forall_mem_cons.mpr ⟨oc_9_308, List.forall_mem_cons.mpr ⟨oc_2_24, fun _ h => absurd h List.not_mem_nil⟩⟩⟩⟩⟩⟩⟩⟩⟩⟩⟩⟩⟩⟩⟩⟩⟩⟩⟩⟩⟩⟩⟩⟩⟩⟩⟩⟩⟩⟩
theorem gClL_5 : ∀ x ∈ gClL5, gOkC x.1 x.2.1 x.2.2.1 (gMs x.2.2.2.1) x.2.2.2.2 := List.forall_mem_cons.mpr ⟨oc_11_149, List.forall_mem_cons.mpr ⟨oc_9_311, List.forall_mem_cons.mpr ⟨oc_9_314, List.forall_mem_cons.mpr ⟨oc_11_153, List.forall_mem_cons.mpr ⟨oc_9_318, List.forall_mem_cons.mpr ⟨oc_11_157, List.forall_mem_cons.mpr ⟨oc_9_322, List.forall_mem_cons.mpr ⟨oc_9_325, List.forall_mem_cons.mpr ⟨oc_11_17, List.forall_mem_cons.mpr ⟨oc_10_65, List.forall_mem_cons.mpr ⟨oc_10_69, List.forall_mem_cons.mpr ⟨oc_11_22, List.forall_mem_cons.mpr ⟨oc_10_73, List.forall_mem_cons.mpr ⟨oc_10_76, List.forall_mem_cons.mpr ⟨oc_10_57, List.forall_mem_cons.mpr ⟨oc_10_79, List.forall_mem_cons.mpr ⟨oc_10_82, List.forall_mem_cons.mpr ⟨oc_10_85, List.forall_mem_cons.mpr ⟨oc_10_89, List.forall_mem_cons.mpr ⟨oc_10_93, List.forall_mem_cons.mpr ⟨oc_11_27, List.forall_mem_cons.mpr ⟨oc_10_96, List.forall_mem_cons.mpr ⟨oc_10_61, List.forall_mem_cons.mpr ⟨oc_11_31, List.forall_mem_cons.mpr ⟨oc_11_35, List.forall_mem_cons.mpr ⟨oc_10_99, List.forall_mem_cons.mpr ⟨oc_10_103, List.forall_mem_cons.mpr ⟨oc_11_39, List.forall_mem_cons.mpr ⟨oc_10_111, List.forall_mem_cons.mpr ⟨oc_10_107, fun _ h => absurd h List.not_mem_nil⟩⟩⟩⟩⟩⟩⟩⟩⟩⟩⟩⟩⟩⟩⟩⟩⟩⟩⟩⟩⟩⟩⟩⟩⟩⟩⟩⟩⟩⟩
theorem gClL_6 : ∀ x ∈ gClL6, gOkC x.1 x.2.1 x.2.2.1 (gMs x.2.2.2.1) x.2.2.2.2 := List.forall_mem_cons.mpr ⟨oc_11_43, List.forall_mem_cons.mpr ⟨oc_11_47, List.forall_mem_cons.mpr ⟨oc_10_115, List.forall_mem_cons.mpr ⟨oc_11_51, List.forall_mem_cons.mpr ⟨oc_11_55, List.forall_mem_cons.mpr ⟨oc_11_59, List.forall_mem_cons.mpr ⟨oc_11_63, List.forall_mem_cons.mpr ⟨oc_11_67, List.forall_mem_cons.mpr ⟨oc_10_118, List.forall_mem_cons.mpr ⟨oc_10_121, List.forall_mem_cons.mpr ⟨oc_11_71, List.forall_mem_cons.mpr ⟨oc_11_75, List.forall_mem_cons.mpr ⟨oc_11_79, List.forall_mem_cons.mpr ⟨oc_11_83, List.forall_mem_cons.mpr ⟨oc_10_124, List.forall_mem_cons.mpr ⟨oc_10_143, List.forall_mem_cons.mpr ⟨oc_10_127, List.forall_mem_cons.mpr ⟨oc_11_87, List.forall_mem_cons.mpr ⟨oc_11_91, List.forall_mem_cons.mpr ⟨oc_11_96, List.forall_mem_cons.mpr ⟨oc_10_133, List.forall_mem_cons.mpr ⟨oc_10_130, List.forall_mem_cons.mpr ⟨oc_11_100, List.forall_mem_cons.mpr ⟨oc_10_136, List.forall_mem_cons.mpr ⟨oc_11_104, List.forall_mem_cons.mpr ⟨oc_10_139, List.forall_mem_cons.mpr ⟨oc_11_108, List.forall_mem_cons.mpr ⟨oc_11_112, List.forall_mem_cons.mpr ⟨oc_11_116, List.forall_mem_cons.mpr ⟨oc_11_120, fun _ h => absurd h List.not_mem_nil⟩⟩⟩⟩⟩⟩⟩⟩⟩⟩⟩⟩⟩⟩⟩⟩⟩⟩⟩⟩⟩⟩⟩⟩⟩⟩⟩⟩⟩⟩
theorem gClL_7 : ∀ x ∈ gClL7, gOkC x.1 x.2.1 x.2.2.1 (gMs x.2.2.2.1) x.2.2.2.2 := List.forall_mem_cons.mpr ⟨oc_10_146, List.forall_mem_cons.mpr ⟨oc_10_149, List.forall_mem_cons.mpr ⟨oc_11_124, List.forall_mem_cons.mpr ⟨oc_11_128, List.forall_mem_cons.mpr ⟨oc_11_132, List.forall_mem_cons.mpr ⟨oc_10_208, List.forall_mem_cons.mpr ⟨oc_10_174, List.forall_mem_cons.mpr ⟨oc_10_168, List.forall_mem_cons.mpr ⟨oc_10_171, List.forall_mem_cons.mpr ⟨oc_10_165, List.forall_mem_cons.mpr ⟨oc_10_162, List.forall_mem_cons.mpr ⟨oc_10_212, List.forall_mem_cons.mpr ⟨oc_10_177, List.forall_mem_cons.mpr ⟨oc_10_180, List.forall_mem_cons.mpr ⟨oc_10_184, List.forall_mem_cons.mpr ⟨oc_10_187, List.forall_mem_cons.mpr ⟨oc_10_190, List.forall_mem_cons.mpr ⟨oc_10_193, List.forall_mem_cons.mpr ⟨oc_10_196, List.forall_mem_cons.mpr ⟨oc_10_199, List.forall_mem_cons.mpr ⟨oc_10_202, List.forall_mem_cons.mpr ⟨oc_10_205, List.forall_mem_cons.mpr ⟨oc_11_136, List.forall_mem_cons.mpr ⟨oc_11_140, List.forall_mem_cons.mpr ⟨oc_11_144, List.forall_mem_cons.mpr ⟨oc_11_148, List.forall_mem_cons.mpr ⟨oc_11_152, List.forall_mem_cons.mpr ⟨oc_11_156, List.forall_mem_cons.mpr ⟨oc_11_160, fun _ h => absurd h List.not_mem_nil⟩⟩⟩⟩⟩⟩⟩⟩⟩⟩⟩⟩⟩⟩⟩⟩⟩⟩⟩⟩⟩⟩⟩⟩⟩⟩⟩⟩⟩
theorem gClL_ok : ∀ x ∈ gClL, gOkC x.1 x.2.1 x.2.2.1 (gMs x.2.2.2.1) x.2.2.2.2 := fun x hx => by
  unfold gClL at hx
  simp only [List.mem_append] at hx
  rcases hx with h | h | h | h | h | h | h | h
  · exact gClL_0 x h
  · exact gClL_1 x h
  · exact gClL_2 x h
  · exact gClL_3 x h
  · exact gClL_4 x h
  · exact gClL_5 x h
  · exact gClL_6 x h
  · exact gClL_7 x h
theorem gCl_ok : ∀ c k kd Y np, gCl c k = some (kd, Y, np) → gOkC c k kd Y np := by
  intro c k kd Y np h
  obtain ⟨y, hy, he⟩ := Option.map_eq_some_iff.mp h
  obtain ⟨x, hx, hz⟩ := Option.map_eq_some_iff.mp hy
  have hp := List.find?_some hx
  have hm := gClL_ok x (List.mem_of_find?_eq_some hx)
  simp only [Bool.and_eq_true, beq_iff_eq] at hp
  cases he
  rw [hp.1, hp.2, hz] at hm
  exact hm
def gCn (c k : Nat) : Option Int32 := if c = 9 ∧ k = 135 then some (-2000000000) else if c = 10 ∧ k = 114 then some (-2000000000) else none
theorem cn_9_135 : gCn 9 135 = some (-2000000000) := rfl
theorem cn_10_114 : gCn 10 114 = some (-2000000000) := rfl

theorem gCn_ok : ∀ c k v, gCn c k = some v → Cond.constant (gRn c) k v ∈ gT := by
  intro c k v h
  unfold gCn at h
  split at h
  · next e => obtain ⟨rfl, rfl⟩ := e; cases h; exact gT_in (List.mem_of_getElem? (i := 497) (by decide +kernel)) rfl
  · split at h
    · next e => obtain ⟨rfl, rfl⟩ := e; cases h; exact gT_in (List.mem_of_getElem? (i := 1018) (by decide +kernel)) rfl
    · cases h
theorem gTab_ok : gOkT gFl gCl gCn := ⟨gFl_ok, gCl_ok, gCn_ok⟩
